/-! ===== the reference: a word written, the lexicon ===== -/
/-- only entries are written -/
def xe (a : ka_K) (k : ka_K) (j : Nat) : Prop := k = a ∧ 221 ≤ j ∧ j < 253
