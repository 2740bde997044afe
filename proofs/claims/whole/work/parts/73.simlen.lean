/-! length agrees (to come). -/
theorem len_eq {w : Int32} (hw : LC w) {s b : Nat} (hs : s ≤ 9) (hb1 : 1 ≤ b) (hb : b ≤ 99) : (b ≤ 6 → ¬ mlyF (nI s) w 5 = 0 → LENOK s b w) ∧ ∀ u, lenF s b w u = mlenF s b w u := by
  sorry
