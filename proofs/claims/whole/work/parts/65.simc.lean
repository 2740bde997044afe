/-! A series of the class does what the reference's row does. -/
theorem sd_fg {N : Nat} {Ic Im : mv_I} {o r a s : Nat} (h : CR N Ic o Im r a s) (e : Nat) (he : e < 2 ^ 31) : sdF (Ic o 6) (Ic (o + 1)) (nI e) = mfg Im s e := by
  obtain ⟨-, -, ⟨L, l1, l5, e6, e34, l⟩, -⟩ := h
  have hm : e % L < L := Nat.mod_lt _ (by omega)
  have hL : 0 < nI L := nI_lt (a := 0) (by omega) (by omega)
  have er : nI e - nI e / nI L * nI L = nI (e % L) := pk_rem he (by omega) (by omega)
  unfold sdF mfg
  rw [e6, e34, if_pos hL, er, nI_clamp (by omega), nI_clamp (by omega), if_pos ⟨nI_pos (by omega), nI_lt (b := 5) (by omega) (by decide)⟩]
  exact l _ hm
theorem ex_ex {N : Nat} {Ic Im : mv_I} {o r a s : Nat} (hN : N < 2 ^ 30) (h : CR N Ic o Im r a s) : exF Ic o (Ic o 7) = mex Im r a s := by
  have h0 := h
  obtain ⟨g, ⟨n, d, q1, q2, q3, e15, e7, -⟩, -⟩ := h
  have g4 : Ic o 7 = Im r (a + 4) := g 4 (by decide)
  have g10 : Ic o 13 = Im r (a + 10) := g 10 (by decide)
  unfold exF mex
  rw [g10, ← g4, e7, sd_fg h0 d (by omega), nI_clamp (by omega)]
theorem kK8 {c d : Prop} [Decidable c] [Decidable d] {x : Int32} : (if ((if c then (0 : Int32) else 1) + (if d then 0 else 2)) &&& 1 = 0 then (0 : Int32) else x) = if c then 0 else x := by
  by_cases hc : c
  · rw [if_pos hc, if_pos hc]
    by_cases hd : d
    · rw [if_pos hd, if_pos (by decide)]
    · rw [if_neg hd, if_pos (by decide)]
  · rw [if_neg hc, if_neg hc]
    by_cases hd : d
    · rw [if_pos hd, if_neg (by decide)]
    · rw [if_neg hd, if_neg (by decide)]
theorem kK9 {c d : Prop} [Decidable c] [Decidable d] {x : Int32} : (if ((if c then (0 : Int32) else 1) + (if d then 0 else 2)) &&& 2 = 0 then (0 : Int32) else x) = if d then 0 else x := by
  by_cases hd : d
  · rw [if_pos hd, if_pos hd]
    by_cases hc : c
    · rw [if_pos hc, if_pos (by decide)]
    · rw [if_neg hc, if_pos (by decide)]
  · rw [if_neg hd, if_neg hd]
    by_cases hc : c
    · rw [if_pos hc, if_neg (by decide)]
    · rw [if_neg hc, if_neg (by decide)]
theorem kK0 {c d : Prop} [Decidable c] [Decidable d] : ((if c then (0 : Int32) else 1) + (if d then 0 else 2)) = 0 ↔ c ∧ d := by
  by_cases hc : c <;> by_cases hd : d <;> simp [hc, hd]
/-- a sum behind a count -/
def nxU (I : mv_I) (o : Nat) (v : Int32) : Int32 := mv_mx 0 (I o 8 + v - exF I o (I o 7) - I o 1)
def nxD (I : mv_I) (o : Nat) (v : Int32) : Int32 := mv_mx 0 (I o 9 + exF I o (I o 7) - v - I o 1)
theorem add2_v (I : mv_I) (o : Nat) (v : Int32) (b : Nat) : add2 I o v o b = if b = 9 then nxD I o v else if b = 8 then nxU I o v else I o b := by
  unfold add2 add1 nxD nxU
  simp only [mv_si_ap, true_and]
  by_cases h9 : b = 9
  · rw [if_pos h9, if_pos h9]
    simp
  · rw [if_neg h9, if_neg h9]
theorem addK_v (I : mv_I) (o : Nat) (v : Int32) : addK I o v = (if nxU I o v < I o 2 then 0 else 1) + (if nxD I o v < I o 2 then 0 else 2) := by
  unfold addK addA
  rw [add2_v, add2_v, add2_v]
  simp
theorem add3_v (I : mv_I) (o : Nat) (v : Int32) (b : Nat) : add3 I o v o b = if addK I o v = 0 then (if b = 13 ∧ 0 < I o 3 ∧ nxU I o v = 0 ∧ nxD I o v = 0 then mv_mx 0 (mv_mn 1584 (I o 13 + ((16 * (v - sdF (I o 6) (I (o + 1)) (I o 7) + 5) - I o 13) >>> (I o 3 &&& 31)))) else if b = 9 then nxD I o v else if b = 8 then nxU I o v else I o b) else (if b = 10 then I o 10 + 1 else if b = 11 then addK I o v else if b = 12 then I o 7 else if b = 8 then (if nxU I o v < I o 2 then 0 else if I o 4 = 1 then I o 2 / 2 else 0) else if b = 9 then (if nxD I o v < I o 2 then 0 else if I o 4 = 1 then I o 2 / 2 else 0) else I o b) := by
  have eK : addA (add2 I o v) o = addK I o v := rfl
  have o1 : add2 I o v (o + 1) = I (o + 1) := by
    unfold add2 add1
    rw [mv_si_ne (by omega), mv_si_ne (by omega)]
  unfold add3
  rw [eK]
  by_cases hK : addK I o v = 0
  · rw [if_pos hK, if_pos hK]
    by_cases hC : 0 < I o 3 ∧ nxU I o v = 0 ∧ nxD I o v = 0
    · rw [if_pos (by rw [add2_v, add2_v, add2_v]; simpa using hC)]
      unfold adaptI
      rw [mv_si_ap, o1]
      by_cases hb : b = 13
      · rw [if_pos ⟨rfl, hb⟩, if_pos ⟨hb, hC⟩]
        simp [add2_v]
      · rw [if_neg (fun z => hb z.2), if_neg (fun z => hb z.1), add2_v]
    · rw [if_neg (by rw [add2_v, add2_v, add2_v]; simpa using hC), if_neg (fun z => hC z.2), add2_v]
  · rw [if_neg hK, if_neg hK, mv_sr_ap, if_pos rfl]
    unfold ringF
    rw [add2_v, add2_v, add2_v, add2_v]
    have e8 : ∀ x : Int32, (if addK I o v &&& 1 = 0 then (0 : Int32) else x) = if nxU I o v < I o 2 then 0 else x := fun x => by rw [addK_v]; exact kK8
    have e9 : ∀ x : Int32, (if addK I o v &&& 2 = 0 then (0 : Int32) else x) = if nxD I o v < I o 2 then 0 else x := fun x => by rw [addK_v]; exact kK9
    rw [e8, e9, add2_v]
    by_cases b10 : b = 10
    · subst b10; simp
    by_cases b11 : b = 11
    · subst b11; simp
    by_cases b12 : b = 12
    · subst b12; simp
    by_cases b8 : b = 8
    · subst b8; simp
    by_cases b9 : b = 9
    · subst b9; simp
    simp [b10, b11, b12, b8, b9]
/-- the row behind a count, before the count is kept -/
def m3 (I : mv_I) (r a s : Nat) (v : Int32) : mv_I := mv_si (mv_si (mca I r a s v) r (a + 5) (mcu I r a s v)) r (a + 6) (mcd I r a s v)
theorem m3_v (I : mv_I) (r a s : Nat) (v : Int32) (k : Nat) : m3 I r a s v r (a + k) = if k = 6 then mcd I r a s v else if k = 5 then mcu I r a s v else if mkK I r a s v = 0 then (if k = 10 ∧ 0 < I r (a + 2) ∧ mup I r a s v = 0 ∧ mdn I r a s v = 0 then mv_mx 0 (mv_mn 1584 (I r (a + 10) + ((16 * (v - mfg I s (I r (a + 4)).toNatClampNeg + 5) - I r (a + 10)) >>> (I r (a + 2) &&& 31)))) else I r (a + k)) else (if k = 9 then I r (a + 4) else if k = 8 then mkK I r a s v else if k = 7 then I r (a + 7) + 1 else I r (a + k)) := by
  unfold m3
  rw [mv_si_ap, mv_si_ap]
  by_cases h6 : k = 6
  · rw [if_pos ⟨rfl, by omega⟩, if_pos h6]
  rw [if_neg (fun z => h6 (by omega)), if_neg h6]
  by_cases h5 : k = 5
  · rw [if_pos ⟨rfl, by omega⟩, if_pos h5]
  rw [if_neg (fun z => h5 (by omega)), if_neg h5]
  unfold mca
  by_cases hK : mkK I r a s v = 0
  · rw [if_pos hK, if_pos hK]
    by_cases hC : 0 < I r (a + 2) ∧ mup I r a s v = 0 ∧ mdn I r a s v = 0
    · rw [if_pos hC]
      unfold mmv
      rw [mv_si_ap]
      by_cases h10 : k = 10
      · rw [if_pos ⟨rfl, by omega⟩, if_pos ⟨h10, hC⟩]
      · rw [if_neg (fun z => h10 (by omega)), if_neg (fun z => h10 z.1)]
    · rw [if_neg hC, if_neg (fun z => hC z.2)]
  · rw [if_neg hK, if_neg hK, mv_si_ap, mv_si_ap, mv_si_ap]
    by_cases h9 : k = 9
    · rw [if_pos ⟨rfl, by omega⟩, if_pos h9]
    rw [if_neg (fun z => h9 (by omega)), if_neg h9]
    by_cases h8 : k = 8
    · rw [if_pos ⟨rfl, by omega⟩, if_pos h8]
    rw [if_neg (fun z => h8 (by omega)), if_neg h8]
    by_cases h7 : k = 7
    · rw [if_pos ⟨rfl, by omega⟩, if_pos h7]
    rw [if_neg (fun z => h7 (by omega)), if_neg h7]
theorem nx_nx {N : Nat} {Ic Im : mv_I} {o r a s : Nat} (hN : N < 2 ^ 30) (h : CR N Ic o Im r a s) (v : Int32) : nxU Ic o v = mup Im r a s v ∧ nxD Ic o v = mdn Im r a s v := by
  have g0 : Ic o 1 = Im r (a + 0) := h.1 0 (by decide)
  have g5 : Ic o 8 = Im r (a + 5) := h.1 5 (by decide)
  have g6 : Ic o 9 = Im r (a + 6) := h.1 6 (by decide)
  unfold nxU nxD mup mdn
  rw [ex_ex hN h, g0, g5, g6]
  exact ⟨rfl, rfl⟩
theorem aK_mK {N : Nat} {Ic Im : mv_I} {o r a s : Nat} (hN : N < 2 ^ 30) (h : CR N Ic o Im r a s) (v : Int32) : addK Ic o v = mkK Im r a s v := by
  have g1 : Ic o 2 = Im r (a + 1) := h.1 1 (by decide)
  obtain ⟨e1, e2⟩ := nx_nx hN h v
  rw [addK_v, e1, e2, g1]
  rfl
theorem mx_nn (x : Int32) : ∃ j : Nat, j < 2 ^ 31 ∧ mv_mx 0 x = nI j := by
  unfold mv_mx
  split
  · rename_i h
    exact nI_of (fun z => by rw [fa_lt] at *; omega)
  · exact ⟨0, by decide, rfl⟩
theorem half_le : ∀ b, b ≤ 99 → ∃ u : Nat, u ≤ 98 ∧ nI b / 2 = nI u := fun b hb => ⟨b / 2, by omega, pk_div (d := 2) (by omega) (by decide) (by decide)⟩
theorem CR_add3 {N : Nat} {Ic Im : mv_I} {o r a s : Nat} (hN : N < 2 ^ 30) (hr : r ≠ 32 ∧ r ≠ 33 ∧ r ≠ 34) (h : CR N Ic o Im r a s) (v : Int32) : CR N (add3 Ic o v) o (m3 Im r a s v) r a s := by
  have h0 := h
  obtain ⟨e1, e2⟩ := nx_nx hN h v
  have eK := aK_mK hN h v
  obtain ⟨g, ⟨n, d, q1, q2, q3, e15, e7, q⟩, ⟨L, l1, l5, e6, e34, l⟩, gb, p1, ⟨b, b1, b99, eb⟩, p8, p9⟩ := h
  have g0 : Ic o 1 = Im r (a + 0) := g 0 (by decide)
  have g1 : Ic o 2 = Im r (a + 1) := g 1 (by decide)
  have g2 : Ic o 3 = Im r (a + 2) := g 2 (by decide)
  have g3 : Ic o 4 = Im r (a + 3) := g 3 (by decide)
  have g4 : Ic o 7 = Im r (a + 4) := g 4 (by decide)
  have g5 : Ic o 8 = Im r (a + 5) := g 5 (by decide)
  have g6 : Ic o 9 = Im r (a + 6) := g 6 (by decide)
  have g7 : Ic o 10 = Im r (a + 7) := g 7 (by decide)
  have g8 : Ic o 11 = Im r (a + 8) := g 8 (by decide)
  have g9 : Ic o 12 = Im r (a + 9) := g 9 (by decide)
  have g10 : Ic o 13 = Im r (a + 10) := g 10 (by decide)
  have g11 : Ic o 15 = Im r (a + 11) := g 11 (by decide)
  have esd : sdF (Ic o 6) (Ic (o + 1)) (Ic o 7) = mfg Im s (Im r (a + 4)).toNatClampNeg := by
    rw [← g4, e7, sd_fg h0 d (by omega), nI_clamp (by omega)]
  have mne : ∀ x, x ≠ r → m3 Im r a s v x = Im x := fun x hx => by
    unfold m3
    rw [mv_si_ne hx, mv_si_ne hx, mca_ne hx]
  -- the two sums
  have hU : add3 Ic o v o 8 = mcu Im r a s v := by
    rw [add3_v]
    unfold mcu mag
    rw [eK, e1, g1, g3]
    simp
  have hD : add3 Ic o v o 9 = mcd Im r a s v := by
    rw [add3_v]
    unfold mcd mag
    rw [eK, e2, g1, g3]
    simp
  have big : ∀ x : Int32, (∃ j : Nat, j < 2 ^ 31 ∧ x = nI j) → ∃ u : Nat, u ≤ 98 ∧ (if x < nI b then x else if Ic o 4 = 1 then nI b / 2 else 0) = nI u := by
    rintro x ⟨j, hj, rfl⟩
    by_cases hlt : nI j < nI b
    · have := (nI_ltI hj (by omega)).mp hlt
      exact ⟨j, by omega, if_pos hlt⟩
    · rw [if_neg hlt]
      split
      · exact half_le b b99
      · exact ⟨0, by decide, rfl⟩
  have rU : ∃ u : Nat, u ≤ 98 ∧ add3 Ic o v o 8 = nI u := by
    rw [add3_v]
    simp only [reduceIte, show ¬ (8 : Nat) = 13 by decide, show ¬ (8 : Nat) = 9 by decide, show ¬ (8 : Nat) = 10 by decide, show ¬ (8 : Nat) = 11 by decide, show ¬ (8 : Nat) = 12 by decide, false_and, if_false]
    by_cases hK : addK Ic o v = 0
    · rw [if_pos hK]
      rw [addK_v] at hK
      have hlt := (kK0.mp hK).1
      obtain ⟨u, hu, eu⟩ := big (nxU Ic o v) (mx_nn _)
      rw [← eb, if_pos hlt] at eu
      exact ⟨u, hu, eu⟩
    · rw [if_neg hK, eb]
      split
      · exact ⟨0, by decide, rfl⟩
      · split
        · exact half_le b b99
        · exact ⟨0, by decide, rfl⟩
  have rD : ∃ u : Nat, u ≤ 98 ∧ add3 Ic o v o 9 = nI u := by
    rw [add3_v]
    simp only [reduceIte, show ¬ (9 : Nat) = 13 by decide, show ¬ (9 : Nat) = 8 by decide, show ¬ (9 : Nat) = 10 by decide, show ¬ (9 : Nat) = 11 by decide, show ¬ (9 : Nat) = 12 by decide, false_and, if_false]
    by_cases hK : addK Ic o v = 0
    · rw [if_pos hK]
      rw [addK_v] at hK
      have hlt := (kK0.mp hK).2
      obtain ⟨u, hu, eu⟩ := big (nxD Ic o v) (mx_nn _)
      rw [← eb, if_pos hlt] at eu
      exact ⟨u, hu, eu⟩
    · rw [if_neg hK, eb]
      split
      · exact ⟨0, by decide, rfl⟩
      · split
        · exact half_le b b99
        · exact ⟨0, by decide, rfl⟩
  have same : ∀ k, (k = 1 ∨ k = 2 ∨ k = 3 ∨ k = 4 ∨ k = 7 ∨ k = 15 ∨ k = 6 ∨ k = 0) → add3 Ic o v o k = Ic o k := by
    intro k hk
    rw [add3_v]
    by_cases hK : addK Ic o v = 0
    · rw [if_pos hK, if_neg (fun z => absurd z.1 (by omega)), if_neg (by omega), if_neg (by omega)]
    · rw [if_neg hK, if_neg (by omega), if_neg (by omega), if_neg (by omega), if_neg (by omega), if_neg (by omega)]
  have samem : ∀ k, k ≠ 5 → k ≠ 6 → k ≠ 7 → k ≠ 8 → k ≠ 9 → k ≠ 10 → m3 Im r a s v r (a + k) = Im r (a + k) := by
    intro k h5 h6 h7 h8 h9 h10
    rw [m3_v, if_neg h6, if_neg h5]
    by_cases hK : mkK Im r a s v = 0
    · rw [if_pos hK, if_neg (fun z => h10 z.1)]
    · rw [if_neg hK, if_neg h9, if_neg h8, if_neg h7]
  refine ⟨all12 ?_ ?_ ?_ ?_ ?_ ?_ ?_ ?_ ?_ ?_ ?_ ?_, ⟨n, d, q1, q2, q3, (same 15 (by omega)).trans e15, (same 7 (by omega)).trans e7, fun j hj => ?_⟩, ⟨L, l1, l5, (same 6 (by omega)).trans e6, by rw [mne 34 (by omega)]; exact e34, fun j hj => ?_⟩, ?_, ?_, ?_, rU, rD⟩
  · exact (same 1 (by omega)).trans (g0.trans (samem 0 (by decide) (by decide) (by decide) (by decide) (by decide) (by decide)).symm)
  · exact (same 2 (by omega)).trans (g1.trans (samem 1 (by decide) (by decide) (by decide) (by decide) (by decide) (by decide)).symm)
  · exact (same 3 (by omega)).trans (g2.trans (samem 2 (by decide) (by decide) (by decide) (by decide) (by decide) (by decide)).symm)
  · exact (same 4 (by omega)).trans (g3.trans (samem 3 (by decide) (by decide) (by decide) (by decide) (by decide) (by decide)).symm)
  · exact (same 7 (by omega)).trans (g4.trans (samem 4 (by decide) (by decide) (by decide) (by decide) (by decide) (by decide)).symm)
  · show add3 Ic o v o 8 = m3 Im r a s v r (a + 5)
    rw [hU, m3_v, if_neg (by decide), if_pos rfl]
  · show add3 Ic o v o 9 = m3 Im r a s v r (a + 6)
    rw [hD, m3_v, if_pos rfl]
  · show add3 Ic o v o 10 = m3 Im r a s v r (a + 7)
    rw [add3_v, m3_v, eK, g7]
    simp
  · show add3 Ic o v o 11 = m3 Im r a s v r (a + 8)
    rw [add3_v, m3_v, eK, g8]
    simp
  · show add3 Ic o v o 12 = m3 Im r a s v r (a + 9)
    rw [add3_v, m3_v, eK, g9, g4]
    simp
  · show add3 Ic o v o 13 = m3 Im r a s v r (a + 10)
    rw [add3_v, m3_v, eK, e1, e2, esd, g10, g2]
    simp
  · exact (same 15 (by omega)).trans (g11.trans (samem 11 (by decide) (by decide) (by decide) (by decide) (by decide) (by decide)).symm)
  · rw [add3_ne (by omega), q j hj, Nat.add_assoc, samem (12 + j) (by omega) (by omega) (by omega) (by omega) (by omega) (by omega)]
  · rw [add3_ne (by omega), l j hj, mne 33 (by omega)]
  · rw [same 0 (by omega), mne 32 (by omega)]
    exact gb
  · rw [same 1 (by omega)]
    exact p1
  · rw [same 2 (by omega)]
    exact ⟨b, b1, b99, eb⟩
theorem CR_app {N : Nat} {Ic Im : mv_I} {o r a s : Nat} (hr : r ≠ 32 ∧ r ≠ 33 ∧ r ≠ 34) (hN : N < 2 ^ 30) (h : CR N Ic o Im r a s) (v : Int32) : CR (N + 1) (appI Ic o v) o (mcm Im r a v) r a s := by
  obtain ⟨g, ⟨n, d, q1, q2, q3, e15, e7, q⟩, ⟨L, l1, l5, e6, e34, l⟩, gb, p1, p2, p8, p9⟩ := h
  have g4 : Ic o 7 = Im r (a + 4) := g 4 (by decide)
  have g11 : Ic o 15 = Im r (a + 11) := g 11 (by decide)
  have mne : ∀ x, x ≠ r → mcm Im r a v x = Im x := fun x hx => mcm_ne hx
  have cv : ∀ b, appI Ic o v o b = if b = 15 then (if Ic o 15 < 12 then Ic o 15 + 1 else 12) else if b = 7 then Ic o 7 + 1 else Ic o b := fun b => by
    unfold appI
    rw [mv_sr_ap, if_pos rfl]
  have ct : appI Ic o v (o + 2) = (if Ic o 15 < 12 then upd (Ic (o + 2)) (Ic o 15).toNatClampNeg v else upd (va_cpy (Ic (o + 2)) (Ic (o + 2)) 1 0 11) 11 v) := by
    unfold appI
    rw [mv_sr_ne (by omega), mv_sr_at]
  have c1 : appI Ic o v (o + 1) = Ic (o + 1) := by
    unfold appI
    rw [mv_sr_ne (by omega), mv_sr_ne (by omega)]
  have same : ∀ b, b ≠ 15 → b ≠ 7 → appI Ic o v o b = Ic o b := fun b h1 h2 => by rw [cv, if_neg h1, if_neg h2]
  have mv : ∀ k, mcm Im r a v r (a + k) = if k = 4 then Im r (a + 4) + 1 else if k = 11 then (if Im r (a + 11) = 12 then 12 else Im r (a + 11) + 1) else if Im r (a + 11) = 12 then (if 12 ≤ k ∧ k < 23 then Im r (a + k + 1) else if k = 23 then v else Im r (a + k)) else if k = 12 + (Im r (a + 11)).toNatClampNeg then v else Im r (a + k) := by
    intro k
    by_cases h4 : k = 4
    · rw [h4, mcm_4, if_pos rfl]
    by_cases h11 : k = 11
    · rw [h11, mcm_11, if_neg (by decide : ¬ (11 : Nat) = 4), if_pos (rfl : (11 : Nat) = 11)]
    rw [if_neg h4, if_neg h11]
    unfold mcm mcf
    rw [mv_sr_ap, if_pos rfl, if_neg (by omega), if_neg (by omega)]
    by_cases h12 : Im r (a + 11) = 12
    · rw [if_pos h12, if_pos h12]
      have e11 : (msf (Im r) a (a + 11)).toNatClampNeg = 11 := by
        unfold msf
        rw [if_pos rfl]
        rfl
      rw [e11]
      by_cases h23 : k = 23
      · rw [if_pos (by omega), if_neg (by omega), if_pos h23]
      · rw [if_neg (by omega)]
        unfold msf
        rw [if_neg (by omega)]
        by_cases hk : 12 ≤ k ∧ k < 23
        · rw [if_pos (by omega), if_pos hk]
        · rw [if_neg (by omega), if_neg hk, if_neg h23]
    · rw [if_neg h12, if_neg h12]
      by_cases hk : k = 12 + (Im r (a + 11)).toNatClampNeg
      · rw [if_pos (by omega), if_pos hk]
      · rw [if_neg (by omega), if_neg hk]
  have samem : ∀ k, k ≠ 4 → k < 11 → mcm Im r a v r (a + k) = Im r (a + k) := by
    intro k h4 h11
    rw [mv, if_neg h4, if_neg (by omega)]
    by_cases h12 : Im r (a + 11) = 12
    · rw [if_pos h12, if_neg (by omega), if_neg (by omega)]
    · rw [if_neg h12, if_neg (by omega)]
  have e15b : Im r (a + 11) = nI n := by rw [← g11]; exact e15
  have hn12 : (nI n < 12) ↔ n < 12 := nI_ltI (b := 12) (by omega) (by decide)
  have hn12e : (nI n = 12) ↔ n = 12 := nI_eq (b := 12) (by omega) (by decide)
  have cnt : appI Ic o v o 15 = nI (if n < 12 then n + 1 else 12) := by
    rw [cv, if_pos rfl, e15]
    by_cases h : n < 12
    · rw [if_pos (hn12.mpr h), if_pos h, nI_1]
    · rw [if_neg (fun z => h (hn12.mp z)), if_neg h]
      rfl
  have day : appI Ic o v o 7 = nI (d + 1) := by
    rw [cv, if_neg (by decide), if_pos rfl, e7, nI_1]
  refine ⟨all12 ?_ ?_ ?_ ?_ ?_ ?_ ?_ ?_ ?_ ?_ ?_ ?_, ⟨if n < 12 then n + 1 else 12, d + 1, ?_, ?_, by omega, cnt, day, fun j hj => ?_⟩, ⟨L, l1, l5, (same 6 (by decide) (by decide)).trans e6, by rw [mne 34 (by omega)]; exact e34, fun j hj => by rw [c1, mne 33 (by omega)]; exact l j hj⟩, ?_, ?_, ?_, ?_, ?_⟩
  · exact (same 1 (by decide) (by decide)).trans ((g 0 (by decide)).trans (samem 0 (by decide) (by decide)).symm)
  · exact (same 2 (by decide) (by decide)).trans ((g 1 (by decide)).trans (samem 1 (by decide) (by decide)).symm)
  · exact (same 3 (by decide) (by decide)).trans ((g 2 (by decide)).trans (samem 2 (by decide) (by decide)).symm)
  · exact (same 4 (by decide) (by decide)).trans ((g 3 (by decide)).trans (samem 3 (by decide) (by decide)).symm)
  · show appI Ic o v o 7 = mcm Im r a v r (a + 4)
    rw [cv, if_neg (by decide), if_pos rfl, mv, if_pos rfl, g4]
  · exact (same 8 (by decide) (by decide)).trans ((g 5 (by decide)).trans (samem 5 (by decide) (by decide)).symm)
  · exact (same 9 (by decide) (by decide)).trans ((g 6 (by decide)).trans (samem 6 (by decide) (by decide)).symm)
  · exact (same 10 (by decide) (by decide)).trans ((g 7 (by decide)).trans (samem 7 (by decide) (by decide)).symm)
  · exact (same 11 (by decide) (by decide)).trans ((g 8 (by decide)).trans (samem 8 (by decide) (by decide)).symm)
  · exact (same 12 (by decide) (by decide)).trans ((g 9 (by decide)).trans (samem 9 (by decide) (by decide)).symm)
  · exact (same 13 (by decide) (by decide)).trans ((g 10 (by decide)).trans (samem 10 (by decide) (by decide)).symm)
  · show appI Ic o v o 15 = mcm Im r a v r (a + 11)
    rw [cnt, mv 11, if_neg (by decide : ¬ (11 : Nat) = 4), if_pos (rfl : (11 : Nat) = 11), e15b]
    by_cases h : n < 12
    · rw [if_pos h, if_neg (fun z => absurd (hn12e.mp z) (by omega)), nI_1]
    · rw [if_neg h, if_pos (hn12e.mpr (by omega))]
      rfl
  · split <;> omega
  · split <;> omega
  · rw [ct, e15, Nat.add_assoc, mv (12 + j), if_neg (by omega : ¬ 12 + j = 4), if_neg (by omega : ¬ 12 + j = 11), e15b]
    by_cases h : n < 12
    · rw [if_pos h] at hj
      rw [if_pos (hn12.mpr h), if_neg (fun z => absurd (hn12e.mp z) (by omega)), nI_clamp (by omega)]
      unfold upd
      by_cases e : j = n
      · rw [if_pos e, if_pos (by omega : 12 + j = 12 + n)]
      · rw [if_neg e, if_neg (by omega : ¬ 12 + j = 12 + n), ← Nat.add_assoc]
        exact q j (by omega)
    · rw [if_neg h] at hj
      rw [if_neg (fun z => h (hn12.mp z)), if_pos (hn12e.mpr (by omega))]
      unfold upd
      by_cases e : j = 11
      · rw [if_pos e, if_neg (by omega : ¬ (12 ≤ 12 + j ∧ 12 + j < 23)), if_pos (by omega : 12 + j = 23)]
      · rw [if_neg e, if_pos (by omega : 12 ≤ 12 + j ∧ 12 + j < 23), pk_cpy_in (Nat.zero_le _) (by omega), Nat.sub_zero, q (1 + j) (by omega)]
        congr 1
        omega
  · rw [same 0 (by decide) (by decide), mne 32 (by omega)]
    exact gb
  · rw [same 1 (by decide) (by decide)]; exact p1
  · rw [same 2 (by decide) (by decide)]; exact p2
  · rw [same 8 (by decide) (by decide)]; exact p8
  · rw [same 9 (by decide) (by decide)]; exact p9
theorem CR_add {N : Nat} {Ic Im : mv_I} {o r a s : Nat} (hr : r ≠ 32 ∧ r ≠ 33 ∧ r ≠ 34) (hN : N < 2 ^ 30) (h : CR N Ic o Im r a s) (v : Int32) : CR (N + 1) (addI Ic o v) o (mct Im r a s v) r a s := CR_app hr hN (CR_add3 hN hr h v) v
theorem CR_tl {N : Nat} {Ic Im : mv_I} {o r a s : Nat} (hN : N < 2 ^ 30) (h : CR N Ic o Im r a s) {k : Nat} (h1 : 1 ≤ k) (h2 : k ≤ 13) : proF Ic o (nI k) = mtl Im r a s k := by
  have ee := ex_ex hN h
  obtain ⟨g, -⟩ := h
  have ne : ∀ {x y : Nat}, x < 20 → y < 20 → x ≠ y → ¬ nI x = nI y := fun a b c z => c ((nI_eq (by omega) (by omega)).mp z)
  rcases (show k = 1 ∨ k = 2 ∨ k = 3 ∨ k = 4 ∨ k = 5 ∨ k = 6 ∨ k = 7 ∨ k = 8 ∨ k = 9 ∨ k = 10 ∨ k = 11 ∨ k = 12 ∨ k = 13 by omega) with rfl | rfl | rfl | rfl | rfl | rfl | rfl | rfl | rfl | rfl | rfl | rfl | rfl
  · exact g 0 (by decide)
  · exact g 1 (by decide)
  · exact g 2 (by decide)
  · exact g 3 (by decide)
  · exact g 4 (by decide)
  · exact g 5 (by decide)
  · exact g 6 (by decide)
  · exact g 7 (by decide)
  · exact g 8 (by decide)
  · exact g 9 (by decide)
  · exact g 10 (by decide)
  · show exF Ic o (Ic o 7) + 100 = mex Im r a s + 100
    rw [ee]
  · exact g 11 (by decide)
