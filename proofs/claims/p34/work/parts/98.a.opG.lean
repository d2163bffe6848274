/-! ===== actions ===== -/
def kx_act (A : ma_X) (M : ma_P) : ma_X := kx_setM (kx_note A) M
theorem ko_act {A : ma_X} {M : ma_P} (ok : ko A) (h : mp_ok M) : ko (kx_act A M) := ko_setM (ko_note ok) h
/-! remove -/
/-! end -/
/-! join -/
/-! setFree -/
theorem kc_T {σ : ka_S} {A : ma_X} (hc : kc σ A) : rc_T σ (kx_n A) (kx_t A) := hc.1
/-! setGloss -/
/-! learn -/
