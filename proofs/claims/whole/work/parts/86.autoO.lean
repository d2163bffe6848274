theorem xc_rm {d n : Nat} (k : ka_K) (j : Nat) (h : xc (36, 0, 0) d n k j) : xrm k j := Or.inl h.1
theorem mv_flag {s : ma_A} {t0 : Int32} (h : t0 = if mv_wh s then 1 else 0) : (t0 = 0 ↔ ¬ mv_wh s) := by
  by_cases w : mv_wh s
  · rw [if_pos w] at h
    exact ⟨fun q => absurd (h.symm.trans q) (by decide), fun q => absurd w q⟩
  · rw [if_neg w] at h
    exact ⟨fun _ => w, fun _ => h⟩
/-- one character -/
theorem sp_X9_readText_86 {σ : ka_S} {s : ma_A} {c k : Nat} {t0 : Int32} {K : ka_S → Int32 → Int32 → Int32 → Int32 → Prop} {Q : Int32 → ka_S → Prop} (ok : mv_ok s) (hV : rd_V σ s) (hc : c < 256) (ht : t0 = if mv_wh s then 1 else 0)
    (h : mv_post (mv_take s c) (fun s' => ∀ σ', ag xrm σ σ' → rd_V σ' s' → K σ' (nI (mv_g s')) (nI (mv_p s')) (nI (mv_n s')) (nI (k + 1))) (Q (nI k) σ)) :
    kw_X9_readText_86 K Q σ (nI (mv_g s)) (nI (mv_p s)) (nI (mv_n s)) (nI k) (nI c) (nI (18 * (mv_R s - 1))) t0 := by
  have hR := ok.1
  have hg := ok.2.1
  have h8 := mv_n_le ok
  obtain ⟨c1, c2, c3, c4, c5, c6, c7⟩ := ok.2.2.2
  have hw := rd_Vw ok hV
  have fl := mv_flag ht
  have kk : (nI k + 1 : Int32) = nI (k + 1) := nI_1 k
  have gz : nI (mv_g s) = (0 : Int32) ↔ mv_g s = 0 := by rw [show (0 : Int32) = nI 0 from rfl, nI_eq (by omega) (by decide)]
  have cz : ∀ n : Nat, n < 256 → (nI c = nI n ↔ c = n) := fun n hn => nI_eq (by omega) (by omega)
  -- a blank
  have L287 : (¬ (mv_wh s ∧ c = 32 ∧ mv_R s < 12) → Q (nI k) σ) → (mv_wh s ∧ c = 32 ∧ mv_R s < 12 → ∀ σ', ag xrm σ σ' → rd_V σ' (mv_next s) → K σ' 0 0 0 (nI (k + 1))) → kw_X9_readText_287 K Q σ (nI k) (nI c) t0 := by
    intro hO hB
    unfold kw_X9_readText_287
    rw [hV.1, show (32 : Int32) = nI 32 from rfl, cz 32 (by decide), show (12 : Int32) = nI 12 from rfl, nI_leI (by decide) (by omega)]
    refine ⟨fun q => hO (fun y => (fl.mp q) y.1), fun q => ⟨fun q2 => ⟨fun q3 => hO (fun y => by have := y.2.2; omega), fun q3 => sp_X9_beginV ok hV (by omega) (fun σ1 a1 r1 => ?_)⟩, fun q2 => hO (fun y => q2 y.2.1)⟩⟩
    rw [forall_eq, kk]
    exact hB ⟨Decidable.byContradiction (fun y => q (fl.mpr y)), q2, by omega⟩ σ1 a1 r1
  -- a mark between glosses
  have L247 : (¬ (mv_g s ≠ 0 ∧ ¬ mv_wh s ∧ c = mw_M (mv_w s) (mv_p s + 1)) → kw_X9_readText_287 K Q σ (nI k) (nI c) t0) → (mv_g s ≠ 0 ∧ ¬ mv_wh s ∧ c = mw_M (mv_w s) (mv_p s + 1) → K σ (nI (mv_g s)) (nI (mv_p s + 1)) 0 (nI (k + 1))) → kw_X9_readText_247 K Q σ (nI (mv_g s)) (nI (mv_p s)) (nI k) (nI c) (nI (18 * (mv_R s - 1))) t0 := by
    intro hO hG
    unfold kw_X9_readText_247
    rw [gz]
    refine ⟨fun q => hO (fun y => y.1 q), fun q => ⟨fun q2 => ?_, fun q2 => hO (fun y => q2 (fl.mpr y.2.1))⟩⟩
    have hwh := fl.mp q2
    have hp1 : mv_p s + 1 < mw_S (mv_w s) := by
      have : mv_p s + 1 ≠ mw_S (mv_w s) := fun y => hwh (Or.inr ⟨q, y⟩)
      omega
    have e1 : (nI (18 * (mv_R s - 1)) + (6 : Int32)) + (3 : Int32) * (nI (mv_p s) + 1) = nI (18 * (mv_R s - 1) + (6 + 3 * (mv_p s + 1))) := by
      rw [show (nI (mv_p s) + 1 : Int32) = nI (mv_p s + 1) from nI_1 _, kI_lit, kI_lit, pk_mul, nI_add, nI_add, Nat.add_assoc]
    have hM := (c4 _ hp1).2.2 (by omega)
    rw [e1, nI_clamp (by omega), show σ.2 (36, 0, 0) (18 * (mv_R s - 1) + (6 + 3 * (mv_p s + 1))) = lN (mw_M (mv_w s) (mv_p s + 1)) from (hw.2.2 _ hp1).1 (by omega), nI_l (by omega), pk_lEQ (by omega) (by omega)]
    refine ⟨(kI_in (by omega)).mpr (by omega), fun q3 => ?_, fun q3 => hO (fun y => q3 y.2.2)⟩
    rw [show (nI (mv_p s) + 1 : Int32) = nI (mv_p s + 1) from nI_1 _, forall_eq, forall_eq, kk]
    exact hG ⟨q, hwh, q3⟩
  -- the colon
  have L222 : (¬ (mv_g s = 0 ∧ mv_wh s ∧ c = 58) → kw_X9_readText_247 K Q σ (nI (mv_g s)) (nI (mv_p s)) (nI k) (nI c) (nI (18 * (mv_R s - 1))) t0) → (mv_g s = 0 ∧ mv_wh s ∧ c = 58 → K σ 1 0 0 (nI (k + 1))) → kw_X9_readText_222 K Q σ (nI (mv_g s)) (nI (mv_p s)) (nI k) (nI c) (nI (18 * (mv_R s - 1))) t0 := by
    intro hO hC
    unfold kw_X9_readText_222
    rw [gz, show (58 : Int32) = nI 58 from rfl, cz 58 (by decide)]
    refine ⟨fun q => ⟨fun q2 => hO (fun y => (fl.mp q2) y.2.1), fun q2 => ⟨fun q3 => ?_, fun q3 => hO (fun y => q3 y.2.2)⟩⟩, fun q => hO (fun y => q y.1)⟩
    rw [forall_eq, kk]
    exact hC ⟨q, Decidable.byContradiction (fun y => q2 (fl.mpr y)), q3⟩
  -- a mark between parts
  have L164 : (¬ (mv_g s = 0 ∧ mv_wh s ∧ (c = 45 ∨ c = 61) ∧ mv_p s < 3) → kw_X9_readText_222 K Q σ (nI (mv_g s)) (nI (mv_p s)) (nI k) (nI c) (nI (18 * (mv_R s - 1))) t0) →
      (mv_g s = 0 ∧ mv_wh s ∧ (c = 45 ∨ c = 61) ∧ mv_p s < 3 → ∀ σ', ag xrm σ σ' → rd_V σ' (mv_set s (mw_part (mv_w s) c) 0 (mv_p s + 1)) → K σ' (nI (mv_g s)) (nI (mv_p s + 1)) 0 (nI (k + 1))) → kw_X9_readText_164 K Q σ (nI (mv_g s)) (nI (mv_p s)) (nI k) (nI c) (nI (18 * (mv_R s - 1))) t0 := by
    intro hO hM
    unfold kw_X9_readText_164
    rw [gz]
    refine ⟨fun q => ⟨fun q2 => hO (fun y => (fl.mp q2) y.2.1), fun q2 => sp_X9_isMark (by omega) (fun q3 => ⟨fun y => absurd y (by decide), fun _ => ⟨fun q4 => ?_, fun q4 => ?_⟩⟩) (fun q3 => ⟨fun _ => hO (fun y => q3 y.2.2.1), fun y => absurd rfl y⟩)⟩, fun q => hO (fun y => q y.1)⟩
    · rw [show (3 : Int32) = nI 3 from rfl, nI_leI (by decide) (by omega)] at q4
      exact hO (fun y => by have := y.2.2.2; omega)
    · rw [show (3 : Int32) = nI 3 from rfl, nI_leI (by decide) (by omega)] at q4
      have hS := c6 q
      have e1 : (nI (18 * (mv_R s - 1)) + (6 : Int32)) + (3 : Int32) * nI (mv_p s + 1) = nI (18 * (mv_R s - 1) + (6 + 3 * (mv_p s + 1))) := by
        rw [kI_lit, kI_lit, pk_mul, nI_add, nI_add, Nat.add_assoc]
      rw [show (nI (mv_p s) + 1 : Int32) = nI (mv_p s + 1) from nI_1 _, forall_eq, nI_clamp (by omega), show σ.2 (36, 0, 0) (18 * (mv_R s - 1)) = lN (mw_S (mv_w s)) from hw.1.1, show lN (mw_S (mv_w s)) + (1 : Int64) = lN (mw_S (mv_w s) + 1) from lN_1 _]
      refine ⟨(kI_in (by omega)).mpr (by omega), (kI_in (by omega)).mpr (by omega), ?_⟩
      rw [forall_eq, e1, nI_clamp (by omega), nI_l (by omega)]
      refine ⟨(kI_in (by omega)).mpr (by omega), ?_⟩
      rw [forall_eq, forall_eq, kk]
      have a1 : ag (xc (36, 0, 0) (18 * (mv_R s - 1)) 18) σ (ka_wL (ka_wL σ (36, 0, 0) (18 * (mv_R s - 1)) (lN (mw_S (mv_w s) + 1))) (36, 0, 0) (18 * (mv_R s - 1) + (6 + 3 * (mv_p s + 1))) (lN c)) := ag_L (ag_L ag_refl ⟨rfl, by omega, by omega⟩) ⟨rfl, by omega, by omega⟩
      have g : ∀ j, j ≠ 0 → j ≠ 6 + 3 * (mv_p s + 1) → (ka_wL (ka_wL σ (36, 0, 0) (18 * (mv_R s - 1)) (lN (mw_S (mv_w s) + 1))) (36, 0, 0) (18 * (mv_R s - 1) + (6 + 3 * (mv_p s + 1))) (lN c)).2 (36, 0, 0) (18 * (mv_R s - 1) + j) = σ.2 (36, 0, 0) (18 * (mv_R s - 1) + j) := fun j h1 h2 => by
        rw [st_L, if_neg (fun z => by have := z.2; omega), st_L, if_neg (fun z => by have := z.2; omega)]
      have eS : mw_S (mw_part (mv_w s) c) = mw_S (mv_w s) + 1 := rfl
      refine hM ⟨q, Decidable.byContradiction (fun y => q2 (fl.mpr y)), q3, by omega⟩ _ (ag_mono a1 xc_rm) (rd_V_set ok hV a1 ⟨⟨?_, ?_, ?_⟩, fun j hj => ?_, fun r hr => ⟨fun h0 => ?_, ?_, ?_⟩⟩ (fun j h1 h2 => ?_))
      · show (ka_wL (ka_wL σ (36, 0, 0) (18 * (mv_R s - 1)) (lN (mw_S (mv_w s) + 1))) (36, 0, 0) (18 * (mv_R s - 1) + (6 + 3 * (mv_p s + 1))) (lN c)).2 (36, 0, 0) (18 * (mv_R s - 1) + 0) = lN (mw_S (mv_w s) + 1)
        rw [st_L, if_neg (fun z => by have := z.2; omega), st_L, if_pos ⟨rfl, by omega⟩]
      · exact (g 1 (by decide) (by omega)).trans hw.1.2.1
      · exact (g 2 (by decide) (by omega)).trans hw.1.2.2
      · exact (g (3 + j) (by omega) (by omega)).trans (hw.2.1 j hj)
      · show (ka_wL (ka_wL σ (36, 0, 0) (18 * (mv_R s - 1)) (lN (mw_S (mv_w s) + 1))) (36, 0, 0) (18 * (mv_R s - 1) + (6 + 3 * (mv_p s + 1))) (lN c)).2 (36, 0, 0) (18 * (mv_R s - 1) + (6 + 3 * r)) = lN (if r = mw_S (mv_w s) then c else mw_M (mv_w s) r)
        by_cases e : r = mw_S (mv_w s)
        · rw [if_pos e, st_L, if_pos ⟨rfl, by omega⟩]
        · rw [if_neg e]
          exact (g _ (by omega) (by omega)).trans ((hw.2.2 r (by omega)).1 h0)
      · refine (g _ (by omega) (by omega)).trans ?_
        show σ.2 (36, 0, 0) (18 * (mv_R s - 1) + (7 + 3 * r)) = lN (ma_M (if r = mw_S (mv_w s) then [] else mw_P (mv_w s) r))
        by_cases e : r = mw_S (mv_w s)
        · rw [if_pos e]
          exact hV.2.2 (7 + 3 * r) (by omega) (by omega)
        · rw [if_neg e]
          exact (hw.2.2 r (by omega)).2.1
      · refine (g _ (by omega) (by omega)).trans ?_
        show σ.2 (36, 0, 0) (18 * (mv_R s - 1) + (8 + 3 * r)) = lN (ma_M (if r = mw_S (mv_w s) then [] else mw_G (mv_w s) r))
        by_cases e : r = mw_S (mv_w s)
        · rw [if_pos e]
          exact hV.2.2 (8 + 3 * r) (by omega) (by omega)
        · rw [if_neg e]
          exact (hw.2.2 r (by omega)).2.2
      · exact (g j (by omega) (by omega)).trans (hV.2.2 j (by omega) h2)
  -- a letter
  have L117 : mv_let s c → kw_X9_readText_117 K Q σ (nI (mv_g s)) (nI (mv_p s)) (nI (mv_n s)) (nI k) (nI c) (nI (18 * (mv_R s - 1))) := by
    intro hl
    have e0 : (nI (18 * (mv_R s - 1)) + (6 : Int32)) + (3 : Int32) * nI (mv_p s) = nI (18 * (mv_R s - 1) + (6 + 3 * mv_p s)) := by
      rw [kI_lit, kI_lit, pk_mul, nI_add, nI_add, Nat.add_assoc]
    unfold kw_X9_readText_117
    rw [gz, e0]
    refine ⟨fun z => ?_, fun z => ?_⟩
    · have hcl : 97 ≤ c ∧ c ≤ 122 := by
        rcases hl.1 with y | y
        · exact y.2
        · exact absurd z y.1
      have en : mv_n s = (mw_P (mv_w s) (mv_p s)).length := if_pos z
      have hn := hl.2
      rw [en] at hn
      rw [mv_take_l0 z hcl hn] at h
      unfold kw_X9_readText_135
      rw [show nI (18 * (mv_R s - 1) + (6 + 3 * mv_p s)) + (1 : Int32) = nI (18 * (mv_R s - 1) + (7 + 3 * mv_p s)) by rw [show (nI (18 * (mv_R s - 1) + (6 + 3 * mv_p s)) + 1 : Int32) = nI (18 * (mv_R s - 1) + (6 + 3 * mv_p s) + 1) from nI_1 _]; congr 1; omega, forall_eq, nI_clamp (by omega), show σ.2 (36, 0, 0) (18 * (mv_R s - 1) + (7 + 3 * mv_p s)) = lN (ma_M (mw_P (mv_w s) (mv_p s))) from (hw.2.2 _ c3).2.1, en]
      refine ⟨(kI_in (by omega)).mpr (by omega), sp_X9_withLetter (c4 _ c3).1.g hn (Or.inl hcl) ⟨(kI_in (by omega)).mpr (by omega), ?_⟩⟩
      rw [forall_eq, forall_eq, forall_eq, kk, show (nI (mw_P (mv_w s) (mv_p s)).length + 1 : Int32) = nI ((mw_P (mv_w s) (mv_p s)).length + 1) from nI_1 _]
      have a1 : ag (xc (36, 0, 0) (18 * (mv_R s - 1)) 18) σ (ka_wL σ (36, 0, 0) (18 * (mv_R s - 1) + (7 + 3 * mv_p s)) (lN (ma_M (mw_P (mv_w s) (mv_p s) ++ [c])))) := ag_L ag_refl ⟨rfl, by omega, by omega⟩
      have g : ∀ j, j ≠ 7 + 3 * mv_p s → (ka_wL σ (36, 0, 0) (18 * (mv_R s - 1) + (7 + 3 * mv_p s)) (lN (ma_M (mw_P (mv_w s) (mv_p s) ++ [c])))).2 (36, 0, 0) (18 * (mv_R s - 1) + j) = σ.2 (36, 0, 0) (18 * (mv_R s - 1) + j) := fun j h1 => by
        rw [st_L, if_neg (fun z => by have := z.2; omega)]
      have eS : mw_S (mw_addP (mv_w s) (mv_p s) c) = mw_S (mv_w s) := rfl
      have hz := h _ (ag_mono a1 xc_rm) (rd_V_set ok hV a1 ⟨⟨?_, ?_, ?_⟩, fun j hj => ?_, fun r hr => ⟨fun h0 => ?_, ?_, ?_⟩⟩ (fun j h1 h2 => ?_))
      · rw [mv_n_set, if_pos rfl, show mw_P (mw_addP (mv_w s) (mv_p s) c) (mv_p s) = mw_P (mv_w s) (mv_p s) ++ [c] from if_pos rfl, List.length_append] at hz
        rw [z]
        exact hz
      · exact (g 0 (by omega)).trans hw.1.1
      · exact (g 1 (by omega)).trans hw.1.2.1
      · exact (g 2 (by omega)).trans hw.1.2.2
      · exact (g (3 + j) (by omega)).trans (hw.2.1 j hj)
      · exact (g _ (by omega)).trans ((hw.2.2 r hr).1 h0)
      · show (ka_wL σ (36, 0, 0) (18 * (mv_R s - 1) + (7 + 3 * mv_p s)) (lN (ma_M (mw_P (mv_w s) (mv_p s) ++ [c])))).2 (36, 0, 0) (18 * (mv_R s - 1) + (7 + 3 * r)) = lN (ma_M (if r = mv_p s then mw_P (mv_w s) (mv_p s) ++ [c] else mw_P (mv_w s) r))
        by_cases e : r = mv_p s
        · rw [if_pos e, st_L, if_pos ⟨rfl, by omega⟩]
        · rw [if_neg e]
          exact (g _ (by omega)).trans (hw.2.2 r hr).2.1
      · exact (g _ (by omega)).trans (hw.2.2 r hr).2.2
      · exact (g j (by omega)).trans (hV.2.2 j (by omega) h2)
    · have hcl : (97 ≤ c ∧ c ≤ 122) ∨ c = 46 := by
        rcases hl.1 with y | y
        · exact absurd y.1 z
        · exact y.2
      have en : mv_n s = (mw_G (mv_w s) (mv_p s)).length := if_neg z
      have hn := hl.2
      rw [en] at hn
      rw [mv_take_l1 z hcl hn] at h
      unfold kw_X9_readText_135
      rw [show nI (18 * (mv_R s - 1) + (6 + 3 * mv_p s)) + (2 : Int32) = nI (18 * (mv_R s - 1) + (8 + 3 * mv_p s)) by rw [kI_lit, nI_add]; congr 1; omega, forall_eq, nI_clamp (by omega), show σ.2 (36, 0, 0) (18 * (mv_R s - 1) + (8 + 3 * mv_p s)) = lN (ma_M (mw_G (mv_w s) (mv_p s))) from (hw.2.2 _ c3).2.2, en]
      refine ⟨(kI_in (by omega)).mpr (by omega), sp_X9_withLetter (c4 _ c3).2.1 hn hcl ⟨(kI_in (by omega)).mpr (by omega), ?_⟩⟩
      rw [forall_eq, forall_eq, forall_eq, kk, show (nI (mw_G (mv_w s) (mv_p s)).length + 1 : Int32) = nI ((mw_G (mv_w s) (mv_p s)).length + 1) from nI_1 _]
      have a1 : ag (xc (36, 0, 0) (18 * (mv_R s - 1)) 18) σ (ka_wL σ (36, 0, 0) (18 * (mv_R s - 1) + (8 + 3 * mv_p s)) (lN (ma_M (mw_G (mv_w s) (mv_p s) ++ [c])))) := ag_L ag_refl ⟨rfl, by omega, by omega⟩
      have g : ∀ j, j ≠ 8 + 3 * mv_p s → (ka_wL σ (36, 0, 0) (18 * (mv_R s - 1) + (8 + 3 * mv_p s)) (lN (ma_M (mw_G (mv_w s) (mv_p s) ++ [c])))).2 (36, 0, 0) (18 * (mv_R s - 1) + j) = σ.2 (36, 0, 0) (18 * (mv_R s - 1) + j) := fun j h1 => by
        rw [st_L, if_neg (fun z => by have := z.2; omega)]
      have eS : mw_S (mw_setG (mv_w s) (mv_p s) (mw_G (mv_w s) (mv_p s) ++ [c])) = mw_S (mv_w s) := rfl
      have hz := h _ (ag_mono a1 xc_rm) (rd_V_set ok hV a1 ⟨⟨?_, ?_, ?_⟩, fun j hj => ?_, fun r hr => ⟨fun h0 => ?_, ?_, ?_⟩⟩ (fun j h1 h2 => ?_))
      · rw [mv_n_set, if_neg (by decide), show mw_G (mw_setG (mv_w s) (mv_p s) (mw_G (mv_w s) (mv_p s) ++ [c])) (mv_p s) = mw_G (mv_w s) (mv_p s) ++ [c] from if_pos rfl, List.length_append] at hz
        rw [show mv_g s = 1 by omega]
        exact hz
      · exact (g 0 (by omega)).trans hw.1.1
      · exact (g 1 (by omega)).trans hw.1.2.1
      · exact (g 2 (by omega)).trans hw.1.2.2
      · exact (g (3 + j) (by omega)).trans (hw.2.1 j hj)
      · exact (g _ (by omega)).trans ((hw.2.2 r hr).1 h0)
      · exact (g _ (by omega)).trans (hw.2.2 r hr).2.1
      · show (ka_wL σ (36, 0, 0) (18 * (mv_R s - 1) + (8 + 3 * mv_p s)) (lN (ma_M (mw_G (mv_w s) (mv_p s) ++ [c])))).2 (36, 0, 0) (18 * (mv_R s - 1) + (8 + 3 * r)) = lN (ma_M (if r = mv_p s then mw_G (mv_w s) (mv_p s) ++ [c] else mw_G (mv_w s) r))
        by_cases e : r = mv_p s
        · rw [if_pos e, st_L, if_pos ⟨rfl, by omega⟩]
        · rw [if_neg e]
          exact (g _ (by omega)).trans (hw.2.2 r hr).2.2
      · exact (g j (by omega)).trans (hV.2.2 j (by omega) h2)
  have rest : ¬ mv_let s c → kw_X9_readText_164 K Q σ (nI (mv_g s)) (nI (mv_p s)) (nI k) (nI c) (nI (18 * (mv_R s - 1))) t0 := by
    intro n1
    refine L164 (fun n2 => L222 (fun n3 => L247 (fun n4 => L287 (fun n5 => ?_) (fun y => ?_)) (fun y => ?_)) (fun y => ?_)) (fun y => ?_)
    · rw [mv_take_none ok n1 n2 n3 n4 n5] at h
      exact h
    · rw [mv_take_b y.1 y.2.1 y.2.2] at h
      have h' : ∀ σ', ag xrm σ σ' → rd_V σ' (mv_next s) → K σ' (nI 0) (nI 0) (nI (mv_n (mv_next s))) (nI (k + 1)) := h
      rw [mv_n_next] at h'
      exact h'
    · have hp1 : mv_p s + 1 < mw_S (mv_w s) := by
        have : mv_p s + 1 ≠ mw_S (mv_w s) := fun y2 => y.2.1 (Or.inr ⟨y.1, y2⟩)
        omega
      have hM := (c4 _ hp1).2.2 (by omega)
      rw [mv_take_m1 y.1 (by rw [y.2.2]; exact hM) hp1 y.2.2.symm] at h
      have hz := h σ ag_refl (rd_V_set ok hV ag_refl hw hV.2.2)
      rw [mv_n_set, if_neg (by decide), c7 _ hp1 (Or.inr (Nat.lt_succ_self _))] at hz
      rw [show mv_g s = 1 by omega]
      exact hz
    · rw [mv_take_c y.1 y.2.1 y.2.2] at h
      have hz := h σ ag_refl (rd_V_set ok hV ag_refl hw hV.2.2)
      rw [mv_n_set, if_neg (by decide), c7 0 (by omega) (Or.inl y.1)] at hz
      exact hz
    · have hS := c6 y.1
      rw [mv_take_m0 y.1 y.2.1 y.2.2.1 (by omega)] at h
      intro σ1 a1 r1
      have hz := h σ1 a1 r1
      rw [mv_n_set, if_pos rfl, show mw_P (mw_part (mv_w s) c) (mv_p s + 1) = [] from if_pos hS] at hz
      rw [y.1]
      exact hz
  unfold kw_X9_readText_86
  rw [show (8 : Int32) = nI 8 from rfl, nI_leI (by decide) (by omega), gz]
  refine ⟨fun q => rest (fun y => by have := y.2; omega), fun q => ⟨fun z => sp_X9_isLetter (by omega) (fun w => ⟨fun y => absurd y (by decide), fun _ => L117 ⟨Or.inl ⟨z, w⟩, by omega⟩⟩) (fun w => ⟨fun _ => rest (fun y => y.1.elim (fun y => w y.2) (fun y => y.1 z)), fun y => absurd rfl y⟩),
    fun z => sp_X9_isGlossLetter (by omega) (fun w => ⟨fun y => absurd y (by decide), fun _ => L117 ⟨Or.inr ⟨z, w⟩, by omega⟩⟩) (fun w => ⟨fun _ => rest (fun y => y.1.elim (fun y => z y.1) (fun y => w y.2)), fun y => absurd rfl y⟩)⟩⟩
theorem rd_T_rm {σ σ' : ka_S} {n : Nat} {t : Nat → Nat} (h : rd_T σ n t) (a : ag xrm σ σ') : rd_T σ' n t := by
  refine ⟨(a (25, 0, 0) 2 (fun q => ?_)).1.trans h.1, fun k hk => (a (26, 0, 0) k (fun q => ?_)).1.trans (h.2 k hk)⟩
  · rcases q with q | q
    · exact absurd q (by decide)
    · exact absurd q.2 (by decide)
  · rcases q with q | q
    · exact absurd q (by decide)
    · exact absurd q.1 (by decide)
theorem sp_X9_readText_18 {σ0 : ka_S} {N : Nat} {t : Nat → Nat} {Q : Int32 → ka_S → Prop} (ht : rd_T σ0 N t) (hN : N ≤ 60) (hc : ∀ k, k < N → t k < 256) :
    ∀ (n k m : Nat) (s : ma_A) (σ : ka_S), k + m = N → m < n → ag xrm σ0 σ → mv_ok s → rd_V σ s → (∀ σ', ag xrm σ0 σ' → rd_V σ' (mv_run t m k s).2 → Q (mv_run t m k s).1 σ') → kw_X9_readText_18 Q n σ (nI (mv_g s)) (nI (mv_p s)) (nI (mv_n s)) (nI k) := by
  intro n
  induction n with
  | zero => intro k m s σ h1 h2; omega
  | succ n ih =>
    intro k m s σ h1 h2 ha ok hV h
    have hR := ok.1
    have hg := ok.2.1
    have h8 := mv_n_le ok
    obtain ⟨c1, c2, c3, c4, c5, c6, c7⟩ := ok.2.2.2
    have hw := rd_Vw ok hV
    have ht' := rd_T_rm ht ha
    have e18 : (18 : Int32) * (nI (mv_R s) - (1 : Int32)) = nI (18 * (mv_R s - 1)) := by rw [kI_lit, kI_lit, pk_sub (by omega), pk_mul]
    have gz : nI (mv_g s) = (0 : Int32) ↔ mv_g s = 0 := by rw [show (0 : Int32) = nI 0 from rfl, nI_eq (by omega) (by decide)]
    have eSd : σ.2 (36, 0, 0) (18 * (mv_R s - 1)) = lN (mw_S (mv_w s)) := hw.1.1
    have e0 : nI (mv_n s) ≤ (0 : Int32) ↔ mv_n s ≤ 0 := by rw [show (0 : Int32) = nI 0 from rfl, nI_leI (by omega) (by decide)]
    rw [kw_X9_readText_18, ht'.1, hV.1, e18, nI_leI (by omega) (by omega), gz, e0, nI_clamp (by omega), eSd]
    have wz : mv_g s = 0 → (mv_wh s ↔ ¬ mv_n s ≤ 0) := fun z => by
      have en : mv_n s = (mw_P (mv_w s) (mv_p s)).length := if_pos z
      rw [en]
      exact ⟨fun w => w.elim (fun w => by have := w.2; omega) (fun w => absurd z w.1), fun w => Or.inl ⟨z, by omega⟩⟩
    have wn : mv_g s ≠ 0 → (mv_wh s ↔ mv_p s + 1 = mw_S (mv_w s)) := fun z => ⟨fun w => w.elim (fun w => absurd w.1 z) (fun w => w.2), fun w => Or.inr ⟨z, w⟩⟩
    refine ⟨fun q => ?_, fun q => ⟨(kI_in (by omega)).mpr (by omega), ?_⟩⟩
    · obtain rfl : m = 0 := by omega
      have h' : ∀ σ', ag xrm σ0 σ' → rd_V σ' s → Q (if mv_wh s then -9 else nI k) σ' := h
      have y1 : mv_wh s → kw_X9_readText_373 Q σ 1 := fun w => by
        rw [if_pos w] at h'
        exact ⟨fun y => absurd y (by decide), fun _ => h' σ ha hV⟩
      have y0 : ¬ mv_wh s → kw_X9_readText_373 Q σ 0 := fun w => by
        rw [if_neg w] at h'
        refine ⟨fun _ => ?_, fun y => absurd rfl y⟩
        rw [ht'.1, show N = k by omega]
        exact h' σ ha hV
      refine ⟨fun z => ⟨fun w => y0 (fun w2 => (wz z).mp w2 w), fun w => y1 ((wz z).mpr w)⟩, fun z => ⟨(kI_in (by omega)).mpr (by omega), ?_⟩⟩
      rw [nI_l (by omega), lN_m1 c1.1, pk_lEQ (by omega) (by omega)]
      exact ⟨fun w => y1 ((wn z).mpr (by omega)), fun w => y0 (fun w2 => w (by have := (wn z).mp w2; omega))⟩
    · obtain ⟨m, rfl⟩ : ∃ m', m = m' + 1 := ⟨m - 1, by omega⟩
      rw [nI_clamp (by omega), ht'.2 k (by omega), forall_eq, forall_eq, nI_clamp (by omega), eSd, lN_i]
      refine ⟨(kI_in (by omega)).mpr (by omega), ?_⟩
      rw [forall_eq, show nI (mw_S (mv_w s)) - (1 : Int32) = nI (mw_S (mv_w s) - 1) by rw [kI_lit, pk_sub (by omega)], nI_eq (by omega) (by omega)]
      have z := mv_take_ok (c := t k) ok
      unfold mv_run at h
      have main : ∀ t0 : Int32, (t0 = if mv_wh s then 1 else 0) → kw_X9_readText_86 (kw_X9_readText_18 Q n) Q σ (nI (mv_g s)) (nI (mv_p s)) (nI (mv_n s)) (nI k) (nI (t k)) (nI (18 * (mv_R s - 1))) t0 := by
        intro t0 ht0
        refine sp_X9_readText_86 ok hV (hc k (by omega)) ht0 ?_
        cases e : mv_take s (t k) with
        | some s' =>
          rw [e] at z h
          intro σ1 a1 r1
          exact ih (k + 1) m s' σ1 (by omega) (by omega) (ag_trans ha a1) z r1 h
        | none =>
          rw [e] at h
          exact h σ ha hV
      refine ⟨fun z => ⟨fun w => main 0 (by rw [if_neg (fun w2 => (wz z).mp w2 w)]), fun w => main 1 (by rw [if_pos ((wz z).mpr w)])⟩, fun z => ⟨fun w => main 1 (by rw [if_pos ((wn z).mpr (by omega))]), fun w => main 0 (by rw [if_neg (fun w2 => w (by have := (wn z).mp w2; omega))])⟩⟩
theorem sp_X9_readText {σ : ka_S} {N : Nat} {t : Nat → Nat} {Q : Int32 → ka_S → Prop} (ht : rd_T σ N t) (hN : N ≤ 60) (hc : ∀ k, k < N → t k < 256) (h : ∀ σ', ag xrm σ σ' → rd_V σ' (mv_read N t).2 → Q (mv_read N t).1 σ') : kw_X9_readText σ Q := by
  unfold kw_X9_readText
  rw [forall_eq]
  have a1 : ag xrm σ (ka_wI σ (25, 0, 0) 3 0) := ag_I ag_refl (Or.inr ⟨rfl, rfl⟩)
  have e3 : (ka_wI σ (25, 0, 0) 3 0).1 (25, 0, 0) 3 = nI 0 := by
    simp only [st_I, st_L, st_I2, st_L1, Prod.mk.injEq, Nat.reduceEqDiff, false_and, and_false, true_and, and_true, and_self, if_false, if_true, reduceIte]
    rfl
  refine ⟨19, sp_X9_begin_2 (R := 0) e3 (by decide) (fun σ1 a2 r2 o2 n0 n1 => ⟨61, sp_X9_readText_18 (σ0 := σ) ht hN hc 61 0 N mv_0 σ1 (Nat.zero_add _) (by omega) (ag_trans a1 a2) mv_0_ok ⟨r2, fun j hj => ?_, fun c h1 h2 => ?_⟩ h⟩) 19 0 _ (Nat.zero_le _) (by decide) ag_refl (fun c hc => absurd hc (Nat.not_lt_zero c))⟩
  · have hj' : j < 1 := hj
    obtain rfl : j = 0 := by omega
    exact rd_new n0 (fun c h1 h2 => n1 c h1 h2)
  · exact n1 c (by have : 6 + 3 * 1 ≤ c := h1; omega) h2
