/-! ===== calls that tell: about, word, part ===== -/
theorem sc_word {σ : ka_S} {A : ma_X} {v : Int32} {Q : ka_S → Prop} {X : Nat → ka_S → Prop} (ok : ko A) (hc : kc σ A) (h1 : ∀ j, j < mp_N (kx_M A) → v = nI j → Q σ) (h0 : (∀ j, j < mp_N (kx_M A) → v ≠ nI j) → X 2 σ) : kw_X8_requireWord σ v Q X :=
  sp_X4_hasWordV hc.2.1 ok.2.2.1 (fun i hi e => ⟨fun q => absurd q (by decide), fun _ => h1 i hi e⟩) (fun hv => ⟨fun _ => h0 hv, fun q => absurd rfl q⟩)
theorem sc_part {σ : ka_S} {A : ma_X} {v u : Int32} {Q : ka_S → Prop} {X : Nat → ka_S → Prop} (ok : ko A) (hc : kc σ A) (h1 : ∀ j p, j < mp_N (kx_M A) → p < mw_S (mp_D (kx_M A) j) → v = nI j → u = nI p → Q σ) (h0 : (∀ j p, j < mp_N (kx_M A) → p < mw_S (mp_D (kx_M A) j) → ¬ (v = nI j ∧ u = nI p)) → X 2 σ) : kw_X8_requirePart σ v u Q X :=
  sp_X4_hasPartV hc.2.1 ok.2.2.1 (fun i p hi hp e e2 => ⟨fun q => absurd q (by decide), fun _ => h1 i p hi hp e e2⟩) (fun hv => ⟨fun _ => h0 hv, fun q => absurd rfl q⟩)
def mt_about (M : ma_P) : Nat → Nat
  | 0 => mp_N M
  | 1 => mt_parts M
  | 2 => mt_gapsP M
  | 3 => mt_sent M
  | 4 => tl (mt_lay M (mp_W M) (mp_Y M) (mp_N M))
  | 5 => mt_rows M
  | 6 => ma_sum (mf_wide M (mp_W M) (mp_Y M)) (mp_N M)
  | 7 => mp_L M
  | 8 => mt_diff M
  | 9 => mp_W M
  | 10 => mp_S M
  | _ => mp_Y M
def mt_word (M : ma_P) (i : Nat) : Nat → Nat
  | 0 => mw_S (mp_D M i)
  | 1 => mt_width (mp_D M i) (mp_Y M)
  | 2 => ml_line M (mp_W M) (mp_Y M) i
  | 3 => ml_col M (mp_W M) (mp_Y M) i
  | 4 => ml_sent M (mp_W M) (mp_Y M) i
  | 5 => mw_E (mp_D M i)
  | 6 => mt_gaps (mp_D M i)
  | _ => mw_F (mp_D M i)
def mi_part (M : ma_P) (i p : Nat) : Nat → Int32
  | 0 => nI (mw_P (mp_D M i) p).length
  | 1 => nI (mw_G (mp_D M i) p).length
  | 2 => if p = 0 then -9 else nI (mw_M (mp_D M i) p)
  | _ => mi_find M (mw_P (mp_D M i) p)
