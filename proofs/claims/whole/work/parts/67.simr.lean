/-! would and ranked agree. -/
theorem rep_eq {N : Nat} {Ic Im : mv_I} {o a s : Nat} (hN : N < 2 ^ 20) (h : CR N Ic o Im 39 a s) (k w : Int32) {n : Nat} (hn : Ic o 15 = nI n) (hn12 : n ≤ 12) : ∀ q p : Nat, p + q = n → ∀ u d : Int32, repF Ic o k w q p u d = mrp Im a s k w q p u d := by
  have h0 := h
  obtain ⟨g, ⟨n', d, q1, q2, q3, e15, e7, th⟩, -⟩ := h
  have en : n' = n := (nI_eq (by omega) (by omega)).mp (e15.symm.trans hn)
  subst en
  have g4 : Ic o 7 = Im 39 (a + 4) := g 4 (by decide)
  have g10 : Ic o 13 = Im 39 (a + 10) := g 10 (by decide)
  have g11 : Ic o 15 = Im 39 (a + 11) := g 11 (by decide)
  intro q
  induction q with
  | zero => intro p _ u d; rfl
  | succ q ih =>
    intro p hp u d'
    have et : Ic (o + 2) p = Im 39 (a + 12 + p) := th p (by omega)
    have eday : nI d - nI n' + nI p = nI (d - n' + p) := by rw [pk_sub q2, nI_add]
    have ee : exF Ic o (Ic o 7 - Ic o 15 + nI p) = mrE Im a s p := by
      unfold exF mrE
      rw [← g4, ← g11, ← g10, e7, e15, eday, sd_fg h0 _ (by omega), nI_clamp (by omega)]
    rw [repF, mrp, et, ee, ih (p + 1) (by omega), ih (p + 1) (by omega)]
theorem mx_comm (x y : Int32) : mv_mx x y = mv_mx y x := by
  unfold mv_mx
  by_cases h1 : x < y
  · rw [if_pos h1, if_neg (fun z => absurd h1 (Int32.not_lt.mpr (Int32.le_of_lt z)))]
  · rw [if_neg h1]
    by_cases h2 : y < x
    · rw [if_pos h2]
    · rw [if_neg h2]
      exact Int32.le_antisymm (Int32.not_lt.mp h2) (Int32.not_lt.mp h1)
/-- one series stands before another: sums and bounds as numbers -/
def pre (u b : Nat → Nat) (i j : Nat) : Prop := u j * b i < u i * b j ∨ (u j * b i = u i * b j ∧ i < j)
theorem pre_irr {u b : Nat → Nat} {i : Nat} : ¬ pre u b i i := by
  intro z
  rcases z with z | z
  · omega
  · omega
theorem pre_tot {u b : Nat → Nat} {i j : Nat} (h : i ≠ j) : pre u b i j ∨ pre u b j i := by
  unfold pre
  omega
theorem pre_le {u b : Nat → Nat} {i j k : Nat} (hj : 0 < b j) (h1 : u j * b i ≤ u i * b j) (h2 : u k * b j ≤ u j * b k) : u k * b i ≤ u i * b k := by
  have a1 : u k * b j * b i ≤ u j * b k * b i := Nat.mul_le_mul_right _ h2
  have a2 : u j * b i * b k ≤ u i * b j * b k := Nat.mul_le_mul_right _ h1
  have e1 : u k * b j * b i = u k * b i * b j := Nat.mul_right_comm _ _ _
  have e2 : u j * b k * b i = u j * b i * b k := Nat.mul_right_comm _ _ _
  have e3 : u i * b j * b k = u i * b k * b j := Nat.mul_right_comm _ _ _
  exact Nat.le_of_mul_le_mul_right (by omega) hj
theorem pre_trans {u b : Nat → Nat} {i j k : Nat} (hj : 0 < b j) (hi : 0 < b i) (hk : 0 < b k) (h1 : pre u b i j) (h2 : pre u b j k) : pre u b i k := by
  have l1 : u j * b i ≤ u i * b j := by unfold pre at h1; omega
  have l2 : u k * b j ≤ u j * b k := by unfold pre at h2; omega
  have l3 := pre_le hj l1 l2
  unfold pre
  rcases Nat.lt_or_eq_of_le l3 with z | z
  · exact Or.inl z
  · refine Or.inr ⟨z, ?_⟩
    -- all are equal
    have r1 : u i * b j ≤ u j * b i := pre_le (u := u) (b := b) hk l2 (by omega)
    have r2 : u j * b k ≤ u k * b j := pre_le (u := u) (b := b) hi (by omega) l1
    unfold pre at h1 h2
    omega
noncomputable def rk (u b : Nat → Nat) (m j : Nat) : Nat := fb_ct (fun i => @decide (pre u b i j) (Classical.propDecidable _)) m
theorem rk_lt {u b : Nat → Nat} {m j : Nat} (hj : j < m) : rk u b m j < m := by
  have h1 := fb_ct_le (fun i => @decide (pre u b i j) (Classical.propDecidable _)) m
  have h2 : rk u b m j ≠ m := by
    intro z
    have := fb_ct_all.mp z j hj
    rw [@decide_eq_true_iff _ (Classical.propDecidable _)] at this
    exact pre_irr this
  unfold rk at *
  omega
theorem rk_mono {u b : Nat → Nat} {m i j : Nat} (hb : ∀ k, k < m → 0 < b k) (hi : i < m) (hj : j < m) (h : pre u b i j) : rk u b m i < rk u b m j := by
  have h1 := fb_ct_upd (fun k => @decide (pre u b k i) (Classical.propDecidable _)) true hi
  have h2 : fb_ct (fun k => if k = i then true else @decide (pre u b k i) (Classical.propDecidable _)) m ≤ rk u b m j := by
    refine fb_ct_sub (fun k hk hq => ?_)
    rw [@decide_eq_true_iff _ (Classical.propDecidable _)]
    by_cases e : k = i
    · rw [e]; exact h
    · rw [if_neg e, @decide_eq_true_iff _ (Classical.propDecidable _)] at hq
      exact pre_trans (hb i hi) (hb k hk) (hb j hj) hq h
  have h3 : @decide (pre u b i i) (Classical.propDecidable _) = false := by
    rw [@decide_eq_false_iff_not _ (Classical.propDecidable _)]
    exact pre_irr
  rw [h3, if_neg (by decide), if_pos rfl] at h1
  unfold rk at *
  omega
theorem rk_inj {u b : Nat → Nat} {m : Nat} (hb : ∀ k, k < m → 0 < b k) {i j : Nat} (hi : i < m) (hj : j < m) (h : i ≠ j) : rk u b m i ≠ rk u b m j := by
  rcases pre_tot (u := u) (b := b) h with z | z
  · have := rk_mono hb hi hj z; omega
  · have := rk_mono hb hj hi z; omega
theorem rk_onto {u b : Nat → Nat} {m : Nat} (hb : ∀ k, k < m → 0 < b k) {y : Nat} (hy : y < m) : ∃ i, i < m ∧ rk u b m i = y :=
  fb_onto (fun i hi => rk_lt hi) (fun i j hij hj => rk_inj hb (by omega) hj (by omega)) hy
theorem mx_nat {x y : Int32} {a c : Nat} (ha : a ≤ 98) (hc : c ≤ 98) (hx : x = nI a) (hy : y = nI c) : ∃ w : Nat, w ≤ 98 ∧ mv_mx x y = nI w := by
  unfold mv_mx
  split
  · exact ⟨c, hc, hy⟩
  · exact ⟨a, ha, hx⟩
theorem mul_nat {a b : Nat} : nI a * nI b = nI (a * b) := (Int32.ofNat_mul a b).symm
theorem small_mul {a b : Nat} (ha : a ≤ 98) (hb : b ≤ 99) : a * b < 10000 := by
  have := Nat.mul_le_mul ha hb
  omega
theorem ranked_eq {N : Nat} {Ic Im : mv_I} (h : REL N Ic Im) {m : Nat} (hm5 : m ≤ 5) (hm : Ic 400 1 = nI m) (p : Int32) : rkdF Ic p m m 0 = (if msv Im p then mrkF Im p m m else -1) := by
  have esv := REL_sv h
  -- the numbers
  have num : ∀ i, ∃ U B : Nat, i < m → U ≤ 98 ∧ 1 ≤ B ∧ B ≤ 99 ∧ mv_mx (Ic (100 + 3 * (5 * 0 + i)) 8) (Ic (100 + 3 * (5 * 0 + i)) 9) = nI U ∧ Ic (100 + 3 * (5 * 0 + i)) 2 = nI B ∧ mnr Im i = nI U ∧ Im 39 (24 * i + 1) = nI B := by
    intro i
    by_cases hi : i < m
    · have hs : sv Ic (nI i) := by
        show 0 ≤ nI i ∧ nI i ≤ Ic 400 1 - 1
        rw [hm]
        exact mv_upto2 (by omega) hi
      obtain ⟨j, m', hm', hj, ej, cj, -, -, hC⟩ := REL_in h hs
      have : i = j := (nI_eq (by omega) (by omega)).mp ej
      subst this
      obtain ⟨g, -, -, -, -, ⟨B, b1, b2, eb⟩, ⟨a, ha, ea⟩, ⟨c, hc, ec⟩⟩ := hC
      obtain ⟨U, hU, eU⟩ := mx_nat ha hc ea ec
      refine ⟨U, B, fun _ => ⟨hU, b1, b2, ?_, ?_, ?_, ?_⟩⟩
      · rw [show 100 + 3 * (5 * 0 + i) = 100 + 3 * i by omega]; exact eU
      · rw [show 100 + 3 * (5 * 0 + i) = 100 + 3 * i by omega]; exact eb
      · have g5 : Ic (100 + 3 * i) 8 = Im 39 (24 * i + 5) := g 5 (by decide)
        have g6 : Ic (100 + 3 * i) 9 = Im 39 (24 * i + 6) := g 6 (by decide)
        unfold mnr
        rw [← g5, ← g6, mx_comm]
        exact eU
      · have g1 : Ic (100 + 3 * i) 2 = Im 39 (24 * i + 1) := g 1 (by decide)
        rw [← g1]
        exact eb
    · exact ⟨0, 0, fun z => absurd z hi⟩
  obtain ⟨u, hu⟩ := Classical.axiomOfChoice num
  obtain ⟨b, hub⟩ := Classical.axiomOfChoice hu
  have hb0 : ∀ k, k < m → 0 < b k := fun k hk => (hub k hk).2.1
  have hpre : ∀ i j, i < m → j < m → (precP Ic 0 i j ↔ pre u b i j) := by
    intro i j hi hj
    obtain ⟨u1, b1, b2, e1, e2, -, -⟩ := hub i hi
    obtain ⟨v1, c1, c2, f1, f2, -, -⟩ := hub j hj
    have s1 := small_mul v1 b2
    have s2 := small_mul u1 c2
    unfold precP pre
    rw [e1, e2, f1, f2, mul_nat, mul_nat, nI_ltI (by omega) (by omega), nI_eq (by omega) (by omega), nI_ltI (by omega) (by omega)]
    constructor
    · rintro (z | ⟨z, w⟩)
      · exact Or.inl z
      · exact Or.inr ⟨z.symm, w⟩
    · rintro (z | ⟨z, w⟩)
      · exact Or.inl z
      · exact Or.inr ⟨z.symm, w⟩
  have hmby : ∀ i j, i < m → j < m → ((0 < mby Im j i ∨ (mby Im j i = 0 ∧ nI i < nI j)) ↔ pre u b i j) := by
    intro i j hi hj
    obtain ⟨u1, b1, b2, -, -, e1, e2⟩ := hub i hi
    obtain ⟨v1, c1, c2, -, -, f1, f2⟩ := hub j hj
    have s1 := small_mul v1 b2
    have s2 := small_mul u1 c2
    have t1 := nI_toInt (n := u i * b j) (by omega)
    have t2 := nI_toInt (n := u j * b i) (by omega)
    have e0 : (0 : Int32).toInt = 0 := rfl
    unfold mby pre
    rw [e1, e2, f1, f2, mul_nat, mul_nat, nI_ltI (by omega) (by omega), fa_lt, fa_eq, fb_subI (by omega) (by omega), t1, t2, e0]
    omega
  have hr1 : ∀ j, j < m → ∀ k, k ≤ m → rnkF Ic 0 j k = nI (fb_ct (fun i => @decide (pre u b i j) (Classical.propDecidable _)) k) := by
    intro j hj k
    induction k with
    | zero => intro _; rfl
    | succ k ih =>
      intro hk
      rw [rnkF, ih (by omega), fb_ct_succ, ← nI_add]
      congr 1
      by_cases hp : pre u b k j
      · rw [if_pos ((hpre k j (by omega) hj).mpr hp), if_pos (by rw [@decide_eq_true_iff _ (Classical.propDecidable _)]; exact hp)]
        rfl
      · rw [if_neg (fun z => hp ((hpre k j (by omega) hj).mp z)), if_neg (fun z => hp (by rw [@decide_eq_true_iff _ (Classical.propDecidable _)] at z; exact z))]
        rfl
  have hr2 : ∀ j, j < m → ∀ k, k ≤ m → mrkA Im j k = nI (fb_ct (fun i => @decide (pre u b i j) (Classical.propDecidable _)) k) := by
    intro j hj k
    induction k with
    | zero => intro _; rfl
    | succ k ih =>
      intro hk
      rw [mrkA, ih (by omega), fb_ct_succ, ← nI_add]
      congr 1
      by_cases hp : pre u b k j
      · rw [if_pos ((hmby k j (by omega) hj).mpr hp), if_pos (by rw [@decide_eq_true_iff _ (Classical.propDecidable _)]; exact hp)]
        rfl
      · rw [if_neg (fun z => hp ((hmby k j (by omega) hj).mp z)), if_neg (fun z => hp (by rw [@decide_eq_true_iff _ (Classical.propDecidable _)] at z; exact z))]
        rfl
  have R1 : ∀ j, j < m → rnkF Ic 0 j m = nI (rk u b m j) := fun j hj => hr1 j hj m (Nat.le_refl _)
  have R2 : ∀ j, j < m → mrkA Im j m = nI (rk u b m j) := fun j hj => hr2 j hj m (Nat.le_refl _)
  by_cases hp : msv Im p
  · rw [if_pos hp]
    obtain ⟨y, hy, rfl⟩ := mv_upto (m := m) (by omega) hp.1 (by rw [← hm, esv]; exact hp.2)
    obtain ⟨i, hi, ei⟩ := rk_onto hb0 hy (u := u) (b := b)
    have is : ∀ j, j < m → (nI (rk u b m j) = nI y ↔ j = i) := by
      intro j hj
      have := rk_lt (u := u) (b := b) hj
      rw [nI_eq (by omega) (by omega), ← ei]
      exact ⟨fun z => Decidable.not_not.mp (fun w => rk_inj hb0 hj hi w z), fun z => by rw [z]⟩
    have a1 : ∀ q k, k + q = m → k ≤ i → rkdF Ic (nI y) m q k = nI i := by
      intro q
      induction q with
      | zero => intro k hk hki; omega
      | succ q ih =>
        intro k hk hki
        rw [rkdF, R1 k (by omega)]
        by_cases e : k = i
        · rw [if_pos ((is k (by omega)).mpr e), e]
        · rw [if_neg (fun z => e ((is k (by omega)).mp z))]
          exact ih (k + 1) (by omega) (by omega)
    have a2 : ∀ s, s ≤ m → mrkF Im (nI y) m s = if i < s then nI i else 0 := by
      intro s
      induction s with
      | zero => intro _; rfl
      | succ s ih =>
        intro hs
        rw [mrkF, R2 s (by omega), ih (by omega)]
        by_cases e : s = i
        · rw [if_pos ((is s (by omega)).mpr e), if_pos (by omega), e]
        · rw [if_neg (fun z => e ((is s (by omega)).mp z))]
          by_cases e2 : i < s
          · rw [if_pos e2, if_pos (by omega)]
          · rw [if_neg e2, if_neg (by omega)]
    rw [a1 m 0 (Nat.zero_add m) (Nat.zero_le _), a2 m (Nat.le_refl _), if_pos hi]
  · rw [if_neg hp]
    have a1 : ∀ q k, k + q = m → rkdF Ic p m q k = -1 := by
      intro q
      induction q with
      | zero => intro k _; rfl
      | succ q ih =>
        intro k hk
        have hlt := rk_lt (u := u) (b := b) (m := m) (j := k) (by omega)
        rw [rkdF, R1 k (by omega), if_neg]
        · exact ih (k + 1) (by omega)
        · intro z
          apply hp
          rw [← z]
          show 0 ≤ nI _ ∧ nI _ ≤ Im 30 4 - 1
          rw [← esv, hm]
          exact mv_upto2 (by omega) hlt
    exact a1 m 0 (Nat.zero_add m)
