/-! ===== the reference's rows ===== -/
theorem rd_rowAt {σ : ka_S} {M : ma_P} {W y row : Nat} (ok : mp_ok M) (hW : 10 ≤ W ∧ W ≤ 60) (hA : rd_A σ M W y) (hr : row < tr (mt_lay M W y (mp_N M))) :
    rd_row σ row (mr_kind M W y row) (if mr_kind M W y row = 2 then mr_word M W y row else ml_line M W y (mr_word M W y row)) (if mr_kind M W y row = 2 then mr_from M W y row else 0) := by
  obtain ⟨f1, f2, f3, f4⟩ := mr_facts (y := y) ok hW hr
  have e3 := ml_row_tr (y := y) ok hW f1
  obtain ⟨⟨j1, j2, j3⟩, j4⟩ := hA.2.1 _ f1
  have eo : row = ml_row M W y (mr_word M W y row) + mr_off M W y row := by
    show row = ml_row M W y (mr_word M W y row) + (row - ml_row M W y (mr_word M W y row))
    omega
  have ek : mr_kind M W y row = min 2 (mr_off M W y row) := rfl
  rcases Nat.lt_or_ge (mr_off M W y row) 2 with q | q
  · have e2 : ¬ mr_kind M W y row = 2 := by omega
    rw [if_neg e2, if_neg e2]
    rcases Nat.eq_zero_or_pos (mr_off M W y row) with z | z
    · rw [show mr_kind M W y row = 0 by omega]
      rw [z, Nat.add_zero] at eo
      rw [← eo] at j2
      exact j2
    · rw [show mr_kind M W y row = 1 by omega]
      rw [show mr_off M W y row = 1 by omega] at eo
      rw [← eo] at j3
      exact j3
  · have e2 : mr_kind M W y row = 2 := by omega
    rw [if_pos e2, if_pos e2, e2]
    have hE : mw_E (mp_D M (mr_word M W y row)) ≠ 0 := fun z => by
      rw [if_pos z] at e3
      omega
    rw [if_neg hE] at e3
    have z := (j4 (mr_off M W y row - 2) (by omega)).2
    rw [show ml_row M W y (mr_word M W y row) + 2 + (mr_off M W y row - 2) = row by omega] at z
    exact z
theorem sp_X9_lengthOfRow {σ : ka_S} {M : ma_P} {row : Nat} {Q : Int32 → ka_S → Prop} (ok : mp_ok M) (hp : rd_P σ (37, 0, 0) M) (hA : rd_A σ M (mp_W M) (mp_Y M)) (hr : row < tr (mt_lay M (mp_W M) (mp_Y M) (mp_N M)))
    (h : Q (nI (mr_len M (mp_W M) (mp_Y M) row)) σ) : kw_X9_lengthOfRow σ (nI row) Q := by
  have hW := ok.2.2.1
  have hN := ok.1
  have b := mt_lay_le (y := mp_Y M) ok hW (mp_N M) (Nat.le_refl _)
  obtain ⟨f1, f2, f3, f4⟩ := mr_facts (y := mp_Y M) ok hW hr
  have bw := mt_lay_le (y := mp_Y M) ok hW (mr_word M (mp_W M) (mp_Y M) row + 1) (by omega)
  have e1 := ml_tl (y := mp_Y M) ok hW f1
  have z := rd_rowAt ok hW hA hr
  have hv : vp_in (nI row) 72 := (kI_in (by omega)).mpr (by omega)
  have hF := (ok.2.2.2.2.2.1 _ f1).2.2.1
  have ek : mr_kind M (mp_W M) (mp_Y M) row ≤ 2 := Nat.min_le_left _ _
  unfold kw_X9_lengthOfRow
  rw [nI_clamp (by omega), z.1, z.2.1, kI_lit, nI_leI (by decide) (by omega)]
  refine ⟨hv, fun q => ?_, fun q => ?_⟩
  · have q2 : mr_kind M (mp_W M) (mp_Y M) row = 2 := by
      have : 2 ≤ mr_kind M (mp_W M) (mp_Y M) row := q
      omega
    obtain ⟨g1, g2⟩ := mr_free ok hW hr q2
    have z3 := z.2.2
    rw [if_pos q2] at z3
    rw [if_pos q2]
    refine ⟨hv, sp_X9_cell (j := 2) ⟨(kI_in (by omega)).mpr (by omega), hv, ?_⟩⟩
    rw [nI_clamp (by omega), rd_f hp f1, z3, lN_i, pk_sub (by omega), forall_eq, show (nI 2).toNatClampNeg = 2 from rfl, hp.1.2.2.1, nI_l (by omega), lN_i]
    have e3 : mr_len M (mp_W M) (mp_Y M) row = min (mw_F (mp_D M (mr_word M (mp_W M) (mp_Y M) row)) - mr_from M (mp_W M) (mp_Y M) row) (mp_W M) := if_pos q2
    rw [e3] at h
    refine ⟨(kI_in (k := 2) (by decide)).mpr (by decide), fun q3 => ⟨(kI_in (k := 2) (by decide)).mpr (by decide), ?_⟩, fun q3 => ?_⟩
    · rw [pk_lLE (by omega) (by omega)] at q3
      rw [Nat.min_eq_right q3] at h
      exact h
    · rw [pk_lLE (by omega) (by omega)] at q3
      rw [Nat.min_eq_left (by omega)] at h
      exact h
  · have q2 : ¬ mr_kind M (mp_W M) (mp_Y M) row = 2 := fun c => q (Nat.le_of_eq c.symm)
    rw [if_neg q2, nI_clamp (by omega)]
    have e3 : mr_len M (mp_W M) (mp_Y M) row = tx (mt_lay M (mp_W M) (mp_Y M) (mr_word M (mp_W M) (mp_Y M) row + 1)) := if_neg q2
    rw [e3] at h
    refine ⟨hv, (kI_in (by omega)).mpr (by omega), ?_⟩
    rw [hA.1.2.2 _ (by have := ml_line_le (M := M) (W := mp_W M) (y := mp_Y M) (show mr_word M (mp_W M) (mp_Y M) row ≤ mp_N M - 1 by omega)
                       have := ml_tl (y := mp_Y M) ok hW (show mp_N M - 1 < mp_N M by omega)
                       rw [show mp_N M - 1 + 1 = mp_N M by omega] at this
                       omega), mt_len_last _ f1 (mr_last ok hW hr)]
    exact h
theorem sp_X9_sentenceOfRow_21 {σ : ka_S} {M : ma_P} {row : Nat} {Q : Int32 → ka_S → Prop} (ok : mp_ok M) (hA : rd_A σ M (mp_W M) (mp_Y M)) (hr : row < tr (mt_lay M (mp_W M) (mp_Y M) (mp_N M))) (hk : ¬ mr_kind M (mp_W M) (mp_Y M) row = 2)
    (h : Q (nI (ml_sent M (mp_W M) (mp_Y M) (mr_word M (mp_W M) (mp_Y M) row))) σ) :
    ∀ (n k : Nat), k ≤ mr_word M (mp_W M) (mp_Y M) row → mr_word M (mp_W M) (mp_Y M) row < k + n → kw_X9_sentenceOfRow_21 Q n σ (nI row) (nI k) := by
  intro n
  induction n with
  | zero => intro k h1 h2; omega
  | succ n ih =>
    intro k h1 h2
    have hW := ok.2.2.1
    have hN := ok.1
    have b := mt_lay_le (y := mp_Y M) ok hW (mp_N M) (Nat.le_refl _)
    obtain ⟨f1, f2, f3, f4⟩ := mr_facts (y := mp_Y M) ok hW hr
    have bw := mt_lay_le (y := mp_Y M) ok hW (mr_word M (mp_W M) (mp_Y M) row + 1) (by omega)
    have e1 := ml_tl (y := mp_Y M) ok hW f1
    have m1 := ml_line_le (M := M) (W := mp_W M) (y := mp_Y M) h1
    have z := rd_rowAt ok hW hA hr
    have hv : vp_in (nI row) 72 := (kI_in (by omega)).mpr (by omega)
    have hv2 : vp_in (nI k) 12 := (kI_in (by omega)).mpr (by omega)
    have ek : mr_kind M (mp_W M) (mp_Y M) row ≤ 2 := Nat.min_le_left _ _
    rw [kw_X9_sentenceOfRow_21, nI_clamp (by omega), nI_clamp (by omega), z.1, z.2.1, if_neg hk, (hA.1.2.1 k (by omega)).1, kI_lit, nI_leI (by decide) (by omega), nI_eq (by omega) (by omega)]
    have hk2 : ¬ 2 ≤ mr_kind M (mp_W M) (mp_Y M) row := fun q => hk (by omega)
    refine ⟨hv, fun q => absurd q hk2, fun _ => ⟨hv2, hv, fun q => ?_, fun q => ?_⟩⟩
    · unfold kw_X9_sentenceOfRow_52
      rw [nI_clamp (by omega), (hA.1.2.1 k (by omega)).2.2.2]
      have := (ml_same (y := mp_Y M) ok hW (mr_word M (mp_W M) (mp_Y M) row - k) k (by omega) (by rw [show k + (mr_word M (mp_W M) (mp_Y M) row - k) = mr_word M (mp_W M) (mp_Y M) row by omega, q])).2.1
      rw [show k + (mr_word M (mp_W M) (mp_Y M) row - k) = mr_word M (mp_W M) (mp_Y M) row by omega] at this
      rw [this] at h
      exact ⟨hv2, h⟩
    · rw [forall_eq, show (nI k + 1 : Int32) = nI (k + 1) from nI_1 k]
      refine ih (k + 1) ?_ (by omega)
      rcases Nat.lt_or_ge k (mr_word M (mp_W M) (mp_Y M) row) with c | c
      · exact c
      · exact absurd (by rw [show k = mr_word M (mp_W M) (mp_Y M) row by omega]) q
theorem sp_X9_sentenceOfRow {σ : ka_S} {M : ma_P} {row : Nat} {Q : Int32 → ka_S → Prop} (ok : mp_ok M) (hA : rd_A σ M (mp_W M) (mp_Y M)) (hr : row < tr (mt_lay M (mp_W M) (mp_Y M) (mp_N M)))
    (h : Q (nI (ml_sent M (mp_W M) (mp_Y M) (mr_word M (mp_W M) (mp_Y M) row))) σ) : kw_X9_sentenceOfRow σ (nI row) Q := by
  have hW := ok.2.2.1
  have hN := ok.1
  have b := mt_lay_le (y := mp_Y M) ok hW (mp_N M) (Nat.le_refl _)
  obtain ⟨f1, f2, f3, f4⟩ := mr_facts (y := mp_Y M) ok hW hr
  have z := rd_rowAt ok hW hA hr
  have hv : vp_in (nI row) 72 := (kI_in (by omega)).mpr (by omega)
  have ek : mr_kind M (mp_W M) (mp_Y M) row ≤ 2 := Nat.min_le_left _ _
  unfold kw_X9_sentenceOfRow
  rw [nI_clamp (by omega), z.1, kI_lit, nI_eq (by omega) (by decide)]
  refine ⟨hv, fun q => ⟨hv, ?_⟩, fun q => ⟨13, sp_X9_sentenceOfRow_21 ok hA hr q h 13 0 (Nat.zero_le _) (by omega)⟩⟩
  have q2 : mr_kind M (mp_W M) (mp_Y M) row = 2 := q
  rw [z.2.1, if_pos q2, forall_eq]
  refine ⟨1, ?_⟩
  rw [kw_X9_sentenceOfRow_21, nI_clamp (by omega), z.1, q2]
  refine ⟨hv, fun _ => ?_, fun c => absurd (show (2 : Int32) ≤ nI 2 by decide) c⟩
  unfold kw_X9_sentenceOfRow_52
  rw [nI_clamp (by omega), (hA.1.2.1 _ f1).2.2.2]
  exact ⟨(kI_in (by omega)).mpr (by omega), h⟩
theorem sp_X9_empty_13 {σ : ka_S} {M : ma_P} {Q : Int32 → ka_S → Prop} (ok : mp_ok M) (hp : rd_P σ (37, 0, 0) M) (hA : rd_A σ M (mp_W M) (mp_Y M)) (h : Q (nI (ma_sum (mf_emp M (mp_W M) (mp_Y M)) (mp_N M))) σ) :
    ∀ (n k : Nat), k ≤ tl (mt_lay M (mp_W M) (mp_Y M) (mp_N M)) → tl (mt_lay M (mp_W M) (mp_Y M) (mp_N M)) < k + n → kw_X9_empty_13 Q n σ (nI (ma_sum (fun l => mp_W M - mt_len M (mp_W M) (mp_Y M) (mp_N M) l) k)) (nI k) := by
  intro n
  induction n with
  | zero => intro k h1 h2; omega
  | succ n ih =>
    intro k h1 h2
    have hW := ok.2.2.1
    have hN := ok.1
    have b := mt_lay_le (y := mp_Y M) ok hW (mp_N M) (Nat.le_refl _)
    rw [kw_X9_empty_13, hA.1.1, nI_leI (by omega) (by omega)]
    refine ⟨fun q => ?_, fun q => ?_⟩
    · obtain rfl : k = tl (mt_lay M (mp_W M) (mp_Y M) (mp_N M)) := by omega
      rw [mt_empty ok hW]
      exact h
    · have hl : mt_len M (mp_W M) (mp_Y M) (mp_N M) k ≤ 95 := by
        have : ∀ j, j ≤ mp_N M → mt_len M (mp_W M) (mp_Y M) j k ≤ 95 := by
          intro j
          induction j with
          | zero => intro _; exact Nat.zero_le _
          | succ j ihj =>
            intro hj
            have bj := mt_lay_le (y := mp_Y M) ok hW (j + 1) hj
            show (if k = _ then tx (mt_lay M (mp_W M) (mp_Y M) (j + 1)) else mt_len M (mp_W M) (mp_Y M) j k) ≤ 95
            by_cases e : k = ml_line M (mp_W M) (mp_Y M) j
            · rw [if_pos e]; omega
            · rw [if_neg e]; exact ihj (by omega)
        exact this _ (Nat.le_refl _)
      have hs : ma_sum (fun l => mp_W M - mt_len M (mp_W M) (mp_Y M) (mp_N M) l) (k + 1) = ma_sum (fun l => mp_W M - mt_len M (mp_W M) (mp_Y M) (mp_N M) l) k + (mp_W M - mt_len M (mp_W M) (mp_Y M) (mp_N M) k) := rfl
      have z := ih (k + 1) (by omega) (by omega)
      rw [hs] at z
      rw [nI_clamp (by omega), hA.1.2.2 k (by omega), show (2 : Int32).toNatClampNeg = 2 from rfl, hp.1.2.2.1, nI_l (by omega), pk_lLT (by omega) (by omega), lN_i]
      refine ⟨(kI_in (by omega)).mpr (by omega), (kI_in (k := 2) (by decide)).mpr (by decide), fun c => ?_, fun c => ⟨(kI_in (k := 2) (by decide)).mpr (by decide), (kI_in (by omega)).mpr (by omega), ?_⟩⟩
      · rw [forall_eq, forall_eq, show (nI k + 1 : Int32) = nI (k + 1) from nI_1 k, Int32.add_zero]
        rw [show mp_W M - mt_len M (mp_W M) (mp_Y M) (mp_N M) k = 0 by omega, Nat.add_zero] at z
        exact z
      · rw [forall_eq, forall_eq, show (nI k + 1 : Int32) = nI (k + 1) from nI_1 k, pk_sub (by omega), nI_add]
        exact z
theorem sp_X9_at_80 {σ : ka_S} {M : ma_P} {row c : Nat} {Q : Int32 → ka_S → Prop} (ok : mp_ok M) (hp : rd_P σ (37, 0, 0) M) (hA : rd_A σ M (mp_W M) (mp_Y M)) (hr : row < tr (mt_lay M (mp_W M) (mp_Y M) (mp_N M))) (hk : ¬ mr_kind M (mp_W M) (mp_Y M) row = 2) (hc : c < 2 ^ 31)
    (h : Q (nI (mr_at M (mp_W M) (mp_Y M) (ml_line M (mp_W M) (mp_Y M) (mr_word M (mp_W M) (mp_Y M) row)) (mr_kind M (mp_W M) (mp_Y M) row) c (mp_N M))) σ) :
    ∀ (n k : Nat), k ≤ mp_N M → mp_N M < k + n → kw_X9_at_80 Q n σ (nI row) (nI c) (nI (mr_at M (mp_W M) (mp_Y M) (ml_line M (mp_W M) (mp_Y M) (mr_word M (mp_W M) (mp_Y M) row)) (mr_kind M (mp_W M) (mp_Y M) row) c k)) (nI k) := by
  intro n
  induction n with
  | zero => intro k h1 h2; omega
  | succ n ih =>
    intro k h1 h2
    have hW := ok.2.2.1
    have hy := ok.2.2.2.2.1
    have hN := ok.1
    have b := mt_lay_le (y := mp_Y M) ok hW (mp_N M) (Nat.le_refl _)
    obtain ⟨f1, f2, f3, f4⟩ := mr_facts (y := mp_Y M) ok hW hr
    have z := rd_rowAt ok hW hA hr
    have hv : vp_in (nI row) 72 := (kI_in (by omega)).mpr (by omega)
    have ek : mr_kind M (mp_W M) (mp_Y M) row ≤ 2 := Nat.min_le_left _ _
    rw [kw_X9_at_80]
    refine sp_X9_many rfl hp ⟨fun q => ?_, fun q => ?_⟩
    · rw [nI_leI (by omega) (by omega)] at q
      obtain rfl : k = mp_N M := by omega
      exact h
    · rw [nI_leI (by omega) (by omega)] at q
      have hkN : k < mp_N M := by omega
      have hv2 : vp_in (nI k) 12 := (kI_in (by omega)).mpr (by omega)
      have bl := ml_col_le (y := mp_Y M) ok hW hkN
      have bl2 := ml_col_le (y := mp_Y M) ok hW f1
      have bw := mt_width_le (ok.2.2.2.2.2.1 k hkN) (mp_Y M)
      have zz := ih (k + 1) (by omega) (by omega)
      have hs : mr_at M (mp_W M) (mp_Y M) (ml_line M (mp_W M) (mp_Y M) (mr_word M (mp_W M) (mp_Y M) row)) (mr_kind M (mp_W M) (mp_Y M) row) c (k + 1) =
        if ml_line M (mp_W M) (mp_Y M) k = ml_line M (mp_W M) (mp_Y M) (mr_word M (mp_W M) (mp_Y M) row) ∧ ml_col M (mp_W M) (mp_Y M) k ≤ c ∧ c < ml_col M (mp_W M) (mp_Y M) k + mt_width (mp_D M k) (mp_Y M) then mt_shown (mp_D M k) (mr_kind M (mp_W M) (mp_Y M) row) (mp_Y M) 4 (c - ml_col M (mp_W M) (mp_Y M) k) 0 else mr_at M (mp_W M) (mp_Y M) (ml_line M (mp_W M) (mp_Y M) (mr_word M (mp_W M) (mp_Y M) row)) (mr_kind M (mp_W M) (mp_Y M) row) c k := rfl
      rw [hs] at zz
      have hno : ¬ (ml_line M (mp_W M) (mp_Y M) k = ml_line M (mp_W M) (mp_Y M) (mr_word M (mp_W M) (mp_Y M) row) ∧ ml_col M (mp_W M) (mp_Y M) k ≤ c ∧ c < ml_col M (mp_W M) (mp_Y M) k + mt_width (mp_D M k) (mp_Y M)) →
          kw_X9_at_146 (kw_X9_at_80 Q n) Q σ (nI row) (nI c) (nI (mr_at M (mp_W M) (mp_Y M) (ml_line M (mp_W M) (mp_Y M) (mr_word M (mp_W M) (mp_Y M) row)) (mr_kind M (mp_W M) (mp_Y M) row) c k)) (nI k) := by
        intro e
        rw [if_neg e] at zz
        unfold kw_X9_at_146 kw_X9_at_147
        refine ⟨fun _ => ?_, fun e2 => absurd rfl e2⟩
        rw [forall_eq, show (nI k + 1 : Int32) = nI (k + 1) from nI_1 k]
        exact zz
      obtain ⟨u1, u2, u3, u4⟩ := hA.1.2.1 k hkN
      rw [nI_clamp (by omega), nI_clamp (by omega), u1, z.2.1, if_neg hk, nI_eq (by omega) (by omega), u2, u3]
      refine ⟨hv2, hv, fun e => ⟨hv2, hv2, hv2, sp_X9_in (fun g => ?_) (fun g => ?_)⟩, fun e => hno (fun g => e g.1)⟩
      · rw [nI_add, nI_l (by omega), nI_l (by omega), nI_l (by omega), lN_tI _ (by omega), lN_tI _ (by omega), show lN (ml_col M (mp_W M) (mp_Y M) k + mt_width (mp_D M k) (mp_Y M)) - (1 : Int64) = lN (ml_col M (mp_W M) (mp_Y M) k + mt_width (mp_D M k) (mp_Y M) - 1) from lN_m1 (by omega), lN_tI _ (by omega)] at g
        refine ⟨fun e => absurd e (by decide), fun _ => ?_⟩
        rw [if_pos ⟨e, by omega, by omega⟩] at zz
        have fin : ∀ kd : Int32, kd = nI (mr_kind M (mp_W M) (mp_Y M) row) → kw_X9_at_175 (kw_X9_at_80 Q n) Q σ (nI row) (nI c) (nI k) (nI k) kd := by
          intro kd ekd
          subst ekd
          unfold kw_X9_at_175
          rw [nI_clamp (by omega), u2, pk_sub (by omega), show (4 : Int32).toNatClampNeg = 4 from rfl, hp.1.2.2.2.2, lN_i]
          refine ⟨(kI_in (k := 4) (by decide)).mpr (by decide), hv2, sp_X9_shown rfl ok hp hkN (by omega) hy (by omega) ?_⟩
          rw [forall_eq, show (nI k + 1 : Int32) = nI (k + 1) from nI_1 k]
          exact zz
        unfold kw_X9_at_147
        refine ⟨fun e => absurd e (by decide), fun _ => ⟨hv, ?_⟩⟩
        rw [nI_clamp (by omega), z.1, kI_lit, nI_eq (by omega) (by decide)]
        refine ⟨fun e => fin _ ?_, fun e => fin _ ?_⟩
        · have e' : mr_kind M (mp_W M) (mp_Y M) row = 1 := e
          rw [e']
        · have e' : mr_kind M (mp_W M) (mp_Y M) row ≠ 1 := e
          rw [show mr_kind M (mp_W M) (mp_Y M) row = 0 by omega]; rfl
      · rw [nI_add, nI_l (by omega), nI_l (by omega), nI_l (by omega), lN_tI _ (by omega), lN_tI _ (by omega), show lN (ml_col M (mp_W M) (mp_Y M) k + mt_width (mp_D M k) (mp_Y M)) - (1 : Int64) = lN (ml_col M (mp_W M) (mp_Y M) k + mt_width (mp_D M k) (mp_Y M) - 1) from lN_m1 (by omega), lN_tI _ (by omega)] at g
        refine ⟨fun _ => hno (fun g2 => g (by omega)), fun e2 => absurd rfl e2⟩
