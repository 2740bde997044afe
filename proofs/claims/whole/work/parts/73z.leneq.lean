/-! length agrees. -/
theorem zT_use {s a b c d bd : Nat} (h : zT s a b c d = true) (h1 : a + b + c + d ≤ 10) (h2 : 1 ≤ a + b + c + d) (hcl : (if s = 0 then d + (10 - a - b - c - d) else 10 - a - b - c - d) ≠ 0) (hbd : bd < 6) : kChk s (bd + 1) a b c d (10 - a - b - c - d) = true := by
  unfold zT at h
  rw [Nat.ble_eq_true_of_le h1, Nat.ble_eq_true_of_le h2] at h
  have hb : Nat.beq (if s = 0 then d + (10 - a - b - c - d) else 10 - a - b - c - d) 0 = false := by
    rw [Bool.eq_false_iff]
    intro z
    exact hcl (Nat.eq_of_beq_eq_true z)
  simp only [Bool.and_self, hb] at h
  exact List.all_eq_true.mp h bd (List.mem_range.mpr hbd)
theorem no_climb {s : Nat} (hs : s ≤ 9) {w : Int32} (h : 2 ≤ s ∨ (mch w 4 = 0 ∧ (s = 1 ∨ mch w 3 = 0))) : mlyF (nI s) w 5 = 0 := by
  have hlt : ∀ s, s < 10 → ∀ k, k < 5 → (nI s < nI k - 2 ↔ s + 2 < k) := by decide +kernel
  have e := fun k (hk : k < 5) => hlt s (by omega) k hk
  have z : ¬ (0 : Int32) < 0 := by decide
  simp only [mlyF, e 0 (by decide), e 1 (by decide), e 2 (by decide), e 3 (by decide), e 4 (by decide)]
  have n0 : ¬ s + 2 < 0 := by omega
  have n1 : ¬ s + 2 < 1 := by omega
  have n2 : ¬ s + 2 < 2 := by omega
  rcases h with h | ⟨h4, h | h3⟩
  · have n3 : ¬ s + 2 < 3 := by omega
    have n4 : ¬ s + 2 < 4 := by omega
    simp [n0, n1, n2, n3, n4]
  · have n3 : ¬ s + 2 < 3 := by omega
    simp [n0, n1, n2, n3, h4, z]
  · simp [n0, n1, n2, h3, h4, z]
theorem len_eq {w : Int32} (hw : LC w) {s b : Nat} (hs : s ≤ 9) (hb1 : 1 ≤ b) (hb : b ≤ 99) : (b ≤ 6 → ¬ mlyF (nI s) w 5 = 0 → LENOK s b w) ∧ ∀ u, lenF s b w u = mlenF s b w u := by
  obtain ⟨W, hW, rfl, hsum⟩ := hw
  have hW31 : W < 2 ^ 31 := by omega
  have key : b ≤ 6 → ¬ mlyF (nI s) (nI W) 5 = 0 → LENOK s b (nI W) ∧ lenA s b (nI W) = lN (mlenU s b (nI W)) ∧ lenB s b (nI W) = lN (mlenL s b (nI W)) ∧ 0 < mlenL s b (nI W) ∧ mlenL s b (nI W) < 2 ^ 40 ∧ mlenU s b (nI W) < 2 ^ 40 := by
    intro hb6 hcl
    have m4 : mch (nI W) 4 = nI (W % 10) := by rw [mch_nat hW31 (by decide)]; show nI (W / 1 % 10) = _; rw [Nat.div_one]
    have m3 : mch (nI W) 3 = nI (W / 10 % 10) := mch_nat hW31 (by decide)
    have hs2 : s < 2 := Nat.lt_of_not_le (fun h => hcl (no_climb hs (Or.inl h)))
    have he : 10 - W / 10000 - W / 1000 % 10 - W / 100 % 10 - W / 10 % 10 = W % 10 := by omega
    have hne : (if s = 0 then W / 10 % 10 + (10 - W / 10000 - W / 1000 % 10 - W / 100 % 10 - W / 10 % 10) else 10 - W / 10000 - W / 1000 % 10 - W / 100 % 10 - W / 10 % 10) ≠ 0 := by
      rw [he]
      intro z
      refine hcl (no_climb hs (Or.inr ?_))
      rw [m4, m3]
      by_cases h0 : s = 0
      · rw [if_pos h0] at z
        exact ⟨by rw [show W % 10 = 0 by omega]; rfl, Or.inr (by rw [show W / 10 % 10 = 0 by omega]; rfl)⟩
      · rw [if_neg h0] at z
        exact ⟨by rw [z]; rfl, Or.inl (by omega)⟩
    have hsl := sl_all s (W / 10000) (W / 1000 % 10) hs2 (by omega) (by omega) (by omega)
    have h1 := List.all_eq_true.mp (List.all_eq_true.mp hsl (W / 100 % 10) (List.mem_range.mpr (by omega))) (W / 10 % 10) (List.mem_range.mpr (by omega))
    have h2 := kChk_is (by omega) (by omega) (by omega) (by omega) (by omega) (zT_use (bd := b - 1) h1 (by omega) (by omega) hne (by omega))
    rw [he, show b - 1 + 1 = b by omega] at h2
    have dg : ∀ t, t < 5 → (nI (W / 10 ^ (4 - t) % 10)).toInt = zd (W / 10000) (W / 1000 % 10) (W / 100 % 10) (W / 10 % 10) (W % 10) t ∧ 0 ≤ zd (W / 10000) (W / 1000 % 10) (W / 100 % 10) (W / 10 % 10) (W % 10) t ∧ zd (W / 10000) (W / 1000 % 10) (W / 100 % 10) (W / 10 % 10) (W % 10) t < 10 := by
      intro t ht
      have hz : zd (W / 10000) (W / 1000 % 10) (W / 100 % 10) (W / 10 % 10) (W % 10) t = ((W / 10 ^ (4 - t) % 10 : Nat) : Int) := by
        match t, ht with
        | 0, _ => show ((W / 10000 : Nat) : Int) = ((W / 10000 % 10 : Nat) : Int); omega
        | 1, _ => rfl
        | 2, _ => rfl
        | 3, _ => rfl
        | 4, _ => show ((W % 10 : Nat) : Int) = ((W / 1 % 10 : Nat) : Int); rw [Nat.div_one]
      rw [hz]
      exact dig_int (Nat.mod_lt _ (by decide))
    exact chk_use hb1 (fun t ht => by rw [mch_nat hW31 ht]; exact dg t ht) (fun t ht => by rw [ch_nat hW31]; exact dg t ht) h2
  refine ⟨fun h1 h2 => (key h1 h2).1, fun u => ?_⟩
  unfold lenF mlenF
  by_cases h6 : 6 < b
  · rw [if_pos h6, if_pos h6]
  · rw [if_neg h6, if_neg h6]
    by_cases hc : mlyF (nI s) (nI W) 5 = 0
    · rw [if_pos (Or.inl ((cl_eq hW31 _).mpr hc)), if_pos hc]
    · obtain ⟨k1, k2, k3, k4, k5, k6⟩ := key (by omega) hc
      have hpos : 0 < lenB s b (nI W) := by
        rw [k3]
        exact Int64.lt_iff_toInt_lt.mpr (by rw [pk_lT (by omega)]; show (0 : Int) < (mlenL s b (nI W) : Int); omega)
      rw [if_neg (fun z => z.elim (fun y => hc ((cl_eq hW31 _).mp y)) (fun y => y hpos)), if_neg hc, k2, k3, low_nat k6 k5 k4]
