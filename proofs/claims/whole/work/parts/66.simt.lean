/-! What is tried, in the class and in the reference. -/
theorem hr40 : (40 : Nat) ≠ 32 ∧ (40 : Nat) ≠ 33 ∧ (40 : Nat) ≠ 34 := by decide
theorem hr39 : (39 : Nat) ≠ 32 ∧ (39 : Nat) ≠ 33 ∧ (39 : Nat) ≠ 34 := by decide
theorem copyI_v {I : mv_I} {o q b : Nat} (h : b < 16 ∧ b ≠ 5 ∧ b ≠ 14) : copyI I o q o b = I q b := by
  unfold copyI
  rw [mv_sr_ap, if_pos rfl, if_pos h]
theorem copyI_s {I : mv_I} {o q j : Nat} (h : j < 5) : copyI I o q (o + 1) j = I (q + 1) j := by
  unfold copyI
  rw [mv_sr_ne (by omega), mv_sr_ne (by omega), mv_sr_at, pk_cpy_in (Nat.zero_le _) (by omega), Nat.sub_zero, Nat.zero_add]
theorem copyI_t {I : mv_I} {o q j : Nat} (hq : q + 2 ≠ o + 1) (h : j < 12) : copyI I o q (o + 2) j = I (q + 2) j := by
  unfold copyI
  rw [mv_sr_ne (by omega), mv_sr_at, pk_cpy_in (Nat.zero_le _) (by omega), Nat.sub_zero, Nat.zero_add]
/-- a series copied -/
theorem CR_copy {N : Nat} {Ic Im : mv_I} {c c' r a s : Nat} (h : CR N Ic (100 + 3 * c) Im r a s) : CR N (copyI Ic (100 + 3 * c') (100 + 3 * c)) (100 + 3 * c') Im r a s := CR_c (fun b h1 h2 h3 => copyI_v ⟨h1, h2, h3⟩) (fun j hj => copyI_s hj) (fun j hj => copyI_t (by omega) hj) h
theorem mlt_v {I : mv_I} {b : Nat} (h : b < 121) : mlt I 40 b = I 39 b := by
  unfold mlt
  rw [mv_sr_at, fa_fill_in h]
theorem CR_mlt {N : Nat} {Ic Im : mv_I} {o s : Nat} (hs : s < 5) (h : CR N Ic o Im 39 (24 * s) s) : CR N Ic o (mlt Im) 40 (24 * s) s :=
  CR_m (fun k hk => mlt_v (by omega)) (by rw [TF_mlt.1 32 (by decide)]) (fun j hj => by rw [TF_mlt.1 33 (by decide)]) (by rw [TF_mlt.1 34 (by decide)]) h
theorem CR_try {N : Nat} {Ic Im : mv_I} {c s : Nat} (hs : s < 5) (h : CR N Ic (100 + 3 * c) Im 39 (24 * s) s) : CR N (copyI Ic 370 (100 + 3 * c)) 370 (mlt Im) 40 (24 * s) s := CR_mlt hs (CR_copy (c' := 90) h)
theorem CR_N {N : Nat} {Tc Tm : mv_I} {o s : Nat} (hN : N < 2 ^ 20) (h : CR N Tc o Tm 40 (24 * s) s) (v : Int32) : ∀ k, k < 2 ^ 20 → CR (N + k) (addN o v k Tc) o (mcN s v k Tm) 40 (24 * s) s
  | 0, _ => h
  | k + 1, hk => CR_add hr40 (by omega) (CR_N hN h v k (by omega)) v
theorem far_eq {N : Nat} {Tc Tm : mv_I} {s : Nat} (hN : N < 2 ^ 20) (h : CR N Tc 370 Tm 40 (24 * s) s) (v : Int32) : ∀ q k : Nat, k + q < 2 ^ 20 → farF Tc v q k = mfr Tm s v q k := by
  intro q
  induction q with
  | zero => intro k _; rfl
  | succ q ih =>
    intro k hk
    have e := aK_mK (by omega) (CR_N hN h v k (by omega)) v
    rw [farF, mfr, e, ih (k + 1) (by omega)]
    by_cases h0 : mkK (mcN s v k Tm) 40 (24 * s) s v = 0
    · rw [if_pos h0, if_neg ((mkK_pos _ _ _ _ _).mpr h0)]
    · rw [if_neg h0, if_pos (Decidable.not_not.mp (fun z => h0 ((mkK_pos _ _ _ _ _).mp z)))]
/-- the first alarm -/
theorem far_none {T : mv_I} {v : Int32} : ∀ q k : Nat, (∀ i, k ≤ i → i < k + q → addK (addN 370 v i T) 370 v = 0) → farF T v q k = -9 := by
  intro q
  induction q with
  | zero => intro k _; rfl
  | succ q ih =>
    intro k h
    rw [farF, if_pos (h k (Nat.le_refl _) (by omega))]
    exact ih (k + 1) (fun i h1 h2 => h i (by omega) (by omega))
theorem far_some {T : mv_I} {v : Int32} {i : Nat} (hi : ¬ addK (addN 370 v i T) 370 v = 0) : ∀ q k : Nat, k ≤ i → i < k + q → (∀ j, k ≤ j → j < i → addK (addN 370 v j T) 370 v = 0) → farF T v q k = nI (i + 1) := by
  intro q
  induction q with
  | zero => intro k h1 h2; omega
  | succ q ih =>
    intro k h1 h2 h3
    rw [farF]
    by_cases e : k = i
    · rw [e, if_neg hi]
    · rw [if_pos (h3 k (Nat.le_refl _) (by omega))]
      exact ih (k + 1) (by omega) (by omega) (fun j a b => h3 j (by omega) b)
theorem far_iff {T : mv_I} {v : Int32} {n : Nat} (hn : n ≤ 60) : farF T v n 0 = -9 ↔ ¬ (0 < farF T v 60 0 ∧ ¬ nI n < farF T v 60 0) := by
  by_cases h : ∃ i, i < 60 ∧ ¬ addK (addN 370 v i T) 370 v = 0
  · obtain ⟨i, hi, hp, hf⟩ := fb_first (p := fun i => ¬ addK (addN 370 v i T) 370 v = 0) h
    have hf : ∀ j, 0 ≤ j → j < i → addK (addN 370 v j T) 370 v = 0 := fun j _ hj => Decidable.not_not.mp (hf j hj)
    have e60 : farF T v 60 0 = nI (i + 1) := far_some hp 60 0 (Nat.zero_le _) (by omega) hf
    rw [e60]
    have h0 : 0 < nI (i + 1) := nI_lt (a := 0) (by omega) (by omega)
    by_cases hin : i < n
    · have e : farF T v n 0 = nI (i + 1) := far_some hp n 0 (Nat.zero_le _) (by omega) hf
      rw [e]
      exact ⟨fun z => absurd z (nine_ne (by omega)), fun z => absurd ⟨h0, nI_nlt (by omega) (by omega)⟩ z⟩
    · have e : farF T v n 0 = -9 := far_none n 0 (fun j a b => hf j (Nat.zero_le _) (by omega))
      exact ⟨fun _ z => z.2 (nI_lt (by omega) (by omega)), fun _ => e⟩
  · have hz : ∀ i, i < 60 → addK (addN 370 v i T) 370 v = 0 := fun i hi => Decidable.not_not.mp (fun z => h ⟨i, hi, z⟩)
    have e60 : farF T v 60 0 = -9 := far_none 60 0 (fun i _ b => hz i (by omega))
    have e : farF T v n 0 = -9 := far_none n 0 (fun i _ b => hz i (by omega))
    rw [e, e60]
    exact ⟨fun _ z => absurd z.1 (by decide), fun _ => rfl⟩
theorem lst_eq {N : Nat} {Tc Tm : mv_I} {s n : Nat} (hN : N < 2 ^ 20) (h : CR N Tc 370 Tm 40 (24 * s) s) (hn : n ≤ 60) : ∀ q k : Nat, lstF Tc n q k = mls Tm s (nI n) q k := by
  intro q
  induction q with
  | zero => intro k; rfl
  | succ q ih =>
    intro k
    rw [lstF, mls, ih (k + 1), ← far_eq hN h (nI k) 60 0 (by decide)]
    by_cases hc : 0 < farF Tc (nI k) 60 0 ∧ ¬ nI n < farF Tc (nI k) 60 0
    · rw [if_pos hc, if_neg (fun z => (far_iff hn).mp z hc)]
    · rw [if_neg hc, if_pos ((far_iff hn).mpr hc)]
/-- how many alarms -/
theorem add_10 (I : mv_I) (o : Nat) (v : Int32) : addI I o v o 10 = I o 10 + (if addK I o v = 0 then 0 else 1) := by
  unfold addI appI
  rw [mv_sr_ap, if_pos rfl, if_neg (by decide), if_neg (by decide), add3_v]
  by_cases h : addK I o v = 0
  · simp [h]
  · simp [h]
theorem mmr_eq {N : Nat} {Tc Tm : mv_I} {s : Nat} (hN : N < 2 ^ 20) (h : CR N Tc 370 Tm 40 (24 * s) s) (v : Int32) : ∀ k : Nat, k < 2 ^ 20 → addN 370 v k Tc 370 10 = Tc 370 10 + mmr Tm s v k
  | 0, _ => by
    show Tc 370 10 = Tc 370 10 + 0
    rw [Int32.add_zero]
  | k + 1, hk => by
    have e := aK_mK (by omega) (CR_N hN h v k (by omega)) v
    rw [addN, add_10, mmr_eq hN h v k (by omega), mmr, e, Int32.add_assoc]
    by_cases h0 : mkK (mcN s v k Tm) 40 (24 * s) s v = 0
    · rw [if_pos h0, if_neg ((mkK_pos _ _ _ _ _).mpr h0)]
    · rw [if_neg h0, if_pos (Decidable.not_not.mp (fun z => h0 ((mkK_pos _ _ _ _ _).mp z)))]
theorem sub_cancel (a b : Int32) : a + b - a = b := by
  rw [Int32.add_comm, Int32.add_sub_cancel]
theorem agr_is {c : Prop} [Decidable c] {w : Int32} (hw : w = 0 ∨ w = 1) : (mv_b c = w) ↔ ¬ mv_b (mv_b c = mv_b (w = 1)) = 0 := by
  rcases hw with rfl | rfl
  · by_cases hc : c
    · rw [mv_bt hc]; decide
    · rw [mv_bf hc]; decide
  · by_cases hc : c
    · rw [mv_bt hc]; decide
    · rw [mv_bf hc]; decide
theorem or_zero (x : Int32) : x ||| 0 = x := by simp
theorem which_eq {N : Nat} {Ic Im : mv_I} (hN : N < 2 ^ 19) (h : REL N Ic Im) {q : Nat} (hq : Ic 0 6 = nI q) (hq6 : q ≤ 6) : ∀ v : Nat, whF Ic q v = mwh Im q v := by
  have hR := h
  obtain ⟨-, -, ⟨q', hq', s1, s2, s3⟩⟩ := h
  have eq' : q' = q := (nI_eq (by omega) (by omega)).mp (s1.symm.trans hq)
  subst eq'
  have esv := REL_sv hR
  have one : ∀ (v : Int32) (i : Nat), i < q' → ((sv Ic (Ic (8 + i) 0) → agrP Ic (8 + i) (scn (Ic (8 + i) 0)) v) ↔ ¬ mis Im v i = 0) := by
    intro v i hi
    obtain ⟨a0, a1, a2, a3, ⟨n, hn, en⟩, hw⟩ := s3 i hi
    unfold mis
    by_cases hs : sv Ic (Ic (8 + i) 0)
    · have hm : msv Im (Im 44 i) := by
        rw [← a0]
        exact ⟨hs.1, by rw [← esv]; exact hs.2⟩
      obtain ⟨j, m, hm5, hj, ej, cj, -, -, hC⟩ := REL_in hR hs
      rw [if_pos hm]
      have hT := CR_try (c := j) (by omega) hC
      have e := mmr_eq (by omega) hT v n (by omega)
      have ec : copyI Ic 370 (100 + 3 * j) 370 10 = Ic (100 + 3 * j) 10 := copyI_v (by decide)
      have es : scn (Ic (8 + i) 0) = 100 + 3 * j := by
        show 100 + 3 * (Ic (8 + i) 0).toNatClampNeg = _
        rw [cj]
      have hag : agrP Ic (8 + i) (scn (Ic (8 + i) 0)) v ↔ mv_b (mmr (mlt Im) j v n = Im 46 i) = Im 47 i := by
        rw [es]
        unfold agrP
        rw [a1, a2, a3, en, nI_clamp (by omega), e, ec, sub_cancel]
      rw [← a0, cj, en, nI_clamp (by omega)]
      rw [← agr_is hw]
      exact ⟨fun z => hag.mp (z hs), fun z _ => hag.mpr z⟩
    · have hm : ¬ msv Im (Im 44 i) := by
        rw [← a0]
        exact fun z => hs ⟨z.1, by rw [esv]; exact z.2⟩
      rw [if_neg hm]
      exact ⟨fun _ => by decide, fun _ z => absurd z hs⟩
  have all : ∀ (v : Int32) (k : Nat), k ≤ q' → (allP Ic v k ↔ ¬ mmy Im v k = 0) := by
    intro v k
    induction k with
    | zero =>
      intro _
      exact ⟨fun _ => by unfold mmy; decide, fun _ i hi => absurd hi (Nat.not_lt_zero i)⟩
    | succ k ih =>
      intro hk
      have i1 := ih (by omega)
      have i2 := one v k (by omega)
      rw [mmy]
      constructor
      · intro z
        have z1 : allP Ic v k := fun i hi => z i (by omega)
        rw [if_neg (i1.mp z1), if_neg (i2.mp (z k (by omega)))]
        decide
      · intro z
        by_cases z1 : mmy Im v k = 0
        · rw [if_pos z1] at z
          exact absurd rfl z
        · rw [if_neg z1] at z
          by_cases z2 : mis Im v k = 0
          · rw [if_pos z2] at z
            exact absurd rfl z
          · intro i hi
            by_cases e : i = k
            · rw [e]
              exact i2.mpr z2
            · exact i1.mpr z1 i (by omega)
  intro v
  induction v with
  | zero => rfl
  | succ v ih =>
    rw [whF, mwh, ih]
    have ha := all (nI v) q' (Nat.le_refl _)
    by_cases hc : mmy Im (nI v) q' = 0
    · rw [if_neg (fun z => ha.mp z hc), if_pos hc, or_zero]
    · rw [if_pos (ha.mpr hc), if_neg hc]
