/-! The reference: reading a series, figure by figure. -/
theorem rs_109 {I : mv_I} {J : mv_J} {K : mv_K} {i p n : Nat} {lv sl bd mo : Int32} (hi : i < 5) (hn : n ≤ 80) (h2 : I 30 2 = nI n)
    (fin0 : ∀ I1 q, FRt I I1 → q ≤ n → I1 30 3 = nI q → ffF (I 31) n (n - p) p 0 i = nI q → K (some (.int 0)) I1 J)
    (nxt : tdP (I 31) n (p + 7) 0 1 → ffF (I 31) n (n - p) p 0 i = ffF (I 31) n (n - (p + 8)) (p + 8) 8 i → mv_V mv_ow mv_swf mv_t_X7_readSeries rs_cs K 129 [(0, .ref 30), (1, .int (nI i)), (2, .int (nI (24 * i))), (3, .int lv), (4, .int sl), (5, .int bd), (6, .int mo), (7, .int (I 31 (p + 7) - 48))] [] (PL I (p + 8)) J)
    (hpn : p + 7 ≤ n) (hpv : ¬ mo = -9) (hff : ffF (I 31) n (n - p) p 0 i = ffF (I 31) n (n - (p + 7)) (p + 7) 7 i) : mv_V mv_ow mv_swf mv_t_X7_readSeries rs_cs K 109 [(0, .ref 30), (1, .int (nI i)), (2, .int (nI (24 * i))), (3, .int lv), (4, .int sl), (5, .int bd), (6, .int mo)] [] (PL I (p + 7)) J := by
  have e31 : PL I (p + 7) 31 = I 31 := PL_ne (by decide)
  have frP : ∀ q, FRt I (PL I q) := fun q => ⟨fun a ha _ => PL_ne ha, fun b hb _ => PL_30 hb⟩
  refine mv_run_V (stop := [129]) 40 _ _ _ _ _ ?_
  refine ⟨fun _ => ?_, fun z => absurd z hpv⟩
  refine ⟨rfl, rfl, ⟨⟨p + 7, n, hpn, hn, PL_3, (PL_30 (by decide)).trans h2⟩, 0, 1, by decide, rfl⟩, fun r1 I1 J1 hp1 => ?_⟩
  obtain ⟨rfl, hq⟩ := hp1
  have hq := hq (p + 7) n 0 1 hpn hn PL_3 ((PL_30 (by decide)).trans h2) rfl
  rw [e31] at hq
  by_cases ht : tdP (I 31) n (p + 7) 0 1
  · rw [if_pos ht] at hq
    obtain ⟨rfl, hI⟩ := hq
    have hI : I1 = PL I (p + 7 + 1) := hI.trans PL_PL
    subst hI
    exact nxt ht (hff.trans (ff_step ht.1 (by omega) (fit_7.mpr ht.2) (fit_n46 (by decide) ht)))
  · rw [if_neg ht] at hq
    obtain ⟨rfl, rfl⟩ := hq
    refine mv_keep [0, 7] (rs_f129 (fin0 _ (p + 7) (frP _) hpn PL_3 ?_))
    rw [hff]
    exact ff_fail hpn (Or.inl (by decide)) (fun z => Or.inr (fun hf => ht ⟨z, fit_7.mp hf⟩))
theorem rs_89 {I : mv_I} {J : mv_J} {K : mv_K} {i p n : Nat} {lv sl bd : Int32} (hi : i < 5) (hn : n ≤ 80) (h2 : I 30 2 = nI n)
    (fin0 : ∀ I1 q, FRt I I1 → q ≤ n → I1 30 3 = nI q → ffF (I 31) n (n - p) p 0 i = nI q → K (some (.int 0)) I1 J)
    (nxt : tdP (I 31) n (p + 6) 0 4 → ffF (I 31) n (n - p) p 0 i = ffF (I 31) n (n - (p + 7)) (p + 7) 7 i → mv_V mv_ow mv_swf mv_t_X7_readSeries rs_cs K 109 [(0, .ref 30), (1, .int (nI i)), (2, .int (nI (24 * i))), (3, .int lv), (4, .int sl), (5, .int bd), (6, .int (I 31 (p + 6) - 48))] [] (PL I (p + 7)) J)
    (hpn : p + 6 ≤ n) (hpv : ¬ bd = -9) (hff : ffF (I 31) n (n - p) p 0 i = ffF (I 31) n (n - (p + 6)) (p + 6) 6 i) : mv_V mv_ow mv_swf mv_t_X7_readSeries rs_cs K 89 [(0, .ref 30), (1, .int (nI i)), (2, .int (nI (24 * i))), (3, .int lv), (4, .int sl), (5, .int bd)] [] (PL I (p + 6)) J := by
  have e31 : PL I (p + 6) 31 = I 31 := PL_ne (by decide)
  have frP : ∀ q, FRt I (PL I q) := fun q => ⟨fun a ha _ => PL_ne ha, fun b hb _ => PL_30 hb⟩
  refine mv_run_V (stop := [109]) 40 _ _ _ _ _ ?_
  refine ⟨fun _ => ?_, fun z => absurd z hpv⟩
  refine ⟨rfl, rfl, ⟨⟨p + 6, n, hpn, hn, PL_3, (PL_30 (by decide)).trans h2⟩, 0, 4, by decide, rfl⟩, fun r1 I1 J1 hp1 => ?_⟩
  obtain ⟨rfl, hq⟩ := hp1
  have hq := hq (p + 6) n 0 4 hpn hn PL_3 ((PL_30 (by decide)).trans h2) rfl
  rw [e31] at hq
  by_cases ht : tdP (I 31) n (p + 6) 0 4
  · rw [if_pos ht] at hq
    obtain ⟨rfl, hI⟩ := hq
    have hI : I1 = PL I (p + 6 + 1) := hI.trans PL_PL
    subst hI
    exact nxt ht (hff.trans (ff_step ht.1 (by omega) (fit_6.mpr ht.2) (fit_n46 (by decide) ht)))
  · rw [if_neg ht] at hq
    obtain ⟨rfl, rfl⟩ := hq
    refine mv_keep [0, 6] (rs_f109 (fin0 _ (p + 6) (frP _) hpn PL_3 ?_))
    rw [hff]
    exact ff_fail hpn (Or.inl (by decide)) (fun z => Or.inr (fun hf => ht ⟨z, fit_6.mp hf⟩))
theorem rs_50 {I : mv_I} {J : mv_J} {K : mv_K} {i p n : Nat} {lv : Int32} (hi : i < 5) (hn : n ≤ 80) (h2 : I 30 2 = nI n)
    (fin0 : ∀ I1 q, FRt I I1 → q ≤ n → I1 30 3 = nI q → ffF (I 31) n (n - p) p 0 i = nI q → K (some (.int 0)) I1 J)
    (nxt : tdP (I 31) n (p + 3) 0 9 → ffF (I 31) n (n - p) p 0 i = ffF (I 31) n (n - (p + 4)) (p + 4) 4 i → mv_V mv_ow mv_swf mv_t_X7_readSeries rs_cs K 70 [(0, .ref 30), (1, .int (nI i)), (2, .int (nI (24 * i))), (3, .int lv), (4, .int (I 31 (p + 3) - 48))] [] (PL I (p + 4)) J)
    (hpn : p + 3 ≤ n) (hpv : ¬ lv = -9) (hff : ffF (I 31) n (n - p) p 0 i = ffF (I 31) n (n - (p + 3)) (p + 3) 3 i) : mv_V mv_ow mv_swf mv_t_X7_readSeries rs_cs K 50 [(0, .ref 30), (1, .int (nI i)), (2, .int (nI (24 * i))), (3, .int lv)] [] (PL I (p + 3)) J := by
  have e31 : PL I (p + 3) 31 = I 31 := PL_ne (by decide)
  have frP : ∀ q, FRt I (PL I q) := fun q => ⟨fun a ha _ => PL_ne ha, fun b hb _ => PL_30 hb⟩
  refine mv_run_V (stop := [70]) 40 _ _ _ _ _ ?_
  refine ⟨fun _ => ?_, fun z => absurd z hpv⟩
  refine ⟨rfl, rfl, ⟨⟨p + 3, n, hpn, hn, PL_3, (PL_30 (by decide)).trans h2⟩, 0, 9, by decide, rfl⟩, fun r1 I1 J1 hp1 => ?_⟩
  obtain ⟨rfl, hq⟩ := hp1
  have hq := hq (p + 3) n 0 9 hpn hn PL_3 ((PL_30 (by decide)).trans h2) rfl
  rw [e31] at hq
  by_cases ht : tdP (I 31) n (p + 3) 0 9
  · rw [if_pos ht] at hq
    obtain ⟨rfl, hI⟩ := hq
    have hI : I1 = PL I (p + 3 + 1) := hI.trans PL_PL
    subst hI
    exact nxt ht (hff.trans (ff_step ht.1 (by omega) ((fit_def (Or.inl (by decide))).mpr ht.2) (fit_n46 (by decide) ht)))
  · rw [if_neg ht] at hq
    obtain ⟨rfl, rfl⟩ := hq
    refine mv_keep [0, 4] (rs_f70 (fin0 _ (p + 3) (frP _) hpn PL_3 ?_))
    rw [hff]
    exact ff_fail hpn (Or.inl (by decide)) (fun z => Or.inr (fun hf => ht ⟨z, (fit_def (Or.inl (by decide))).mp hf⟩))
theorem rs_70 {I : mv_I} {J : mv_J} {K : mv_K} {i p n : Nat} {lv sl : Int32} (hi : i < 5) (hn : n ≤ 80) (h2 : I 30 2 = nI n)
    (fin0 : ∀ I1 q, FRt I I1 → q ≤ n → I1 30 3 = nI q → ffF (I 31) n (n - p) p 0 i = nI q → K (some (.int 0)) I1 J)
    (nxt : tdP (I 31) n (p + 4) 0 9 → tdP (I 31) n (p + 5) (if I 31 (p + 4) - 48 = 0 then 1 else 0) 9 → ffF (I 31) n (n - p) p 0 i = ffF (I 31) n (n - (p + 6)) (p + 6) 6 i → mv_V mv_ow mv_swf mv_t_X7_readSeries rs_cs K 89 [(0, .ref 30), (1, .int (nI i)), (2, .int (nI (24 * i))), (3, .int lv), (4, .int sl), (5, .int (10 * (I 31 (p + 4) - 48) + (I 31 (p + 5) - 48)))] [] (PL I (p + 6)) J)
    (hpn : p + 4 ≤ n) (hpv : ¬ sl = -9) (hff : ffF (I 31) n (n - p) p 0 i = ffF (I 31) n (n - (p + 4)) (p + 4) 4 i) : mv_V mv_ow mv_swf mv_t_X7_readSeries rs_cs K 70 [(0, .ref 30), (1, .int (nI i)), (2, .int (nI (24 * i))), (3, .int lv), (4, .int sl)] [] (PL I (p + 4)) J := by
  have e31 : PL I (p + 4) 31 = I 31 := PL_ne (by decide)
  have frP : ∀ q, FRt I (PL I q) := fun q => ⟨fun a ha _ => PL_ne ha, fun b hb _ => PL_30 hb⟩
  refine mv_run_V (stop := [89]) 40 _ _ _ _ _ ?_
  refine ⟨fun _ => ?_, fun z => absurd z hpv⟩
  refine ⟨rfl, rfl, ⟨⟨p + 4, n, hpn, hn, PL_3, (PL_30 (by decide)).trans h2⟩, 1, by decide, rfl⟩, fun r1 I1 J1 hp1 => ?_⟩
  obtain ⟨rfl, hq⟩ := hp1
  have hq := hq (p + 4) n 1 hpn hn PL_3 ((PL_30 (by decide)).trans h2) rfl
  rw [e31] at hq
  by_cases ht : tdP (I 31) n (p + 4) 0 9
  · rw [if_pos ht] at hq
    have hff1 := hff.trans (ff_step ht.1 (by omega) ((fit_def (Or.inl (by decide))).mpr ht.2) (fit_n46 (by decide) ht))
    have hlt := ht.1
    by_cases ht2 : tdP (I 31) n (p + 4 + 1) (if I 31 (p + 4) - 48 = 0 then 1 else 0) 9
    · rw [if_pos ht2] at hq
      obtain ⟨rfl, hI⟩ := hq
      have hI : I1 = PL I (p + 4 + 2) := hI.trans PL_PL
      subst hI
      exact nxt ht ht2 (hff1.trans (ff_step ht2.1 (by omega) (fit_5.mpr ht2.2) (fit_n46 (by split <;> decide) ht2)))
    · rw [if_neg ht2] at hq
      obtain ⟨rfl, hI⟩ := hq
      have hI : I1 = PL I (p + 4 + 1) := hI.trans PL_PL
      subst hI
      refine mv_keep [0, 5] (rs_f89 (fin0 _ (p + 4 + 1) (frP _) (by omega) PL_3 ?_))
      rw [hff1]
      exact ff_fail (by omega) (Or.inl (by decide)) (fun z => Or.inr (fun hf => ht2 ⟨z, fit_5.mp hf⟩))
  · rw [if_neg ht] at hq
    obtain ⟨rfl, rfl⟩ := hq
    refine mv_keep [0, 5] (rs_f89 (fin0 _ (p + 4) (frP _) hpn PL_3 ?_))
    rw [hff]
    exact ff_fail hpn (Or.inl (by decide)) (fun z => Or.inr (fun hf => ht ⟨z, (fit_def (Or.inl (by decide))).mp hf⟩))
theorem fit_2 {T : Nat → Int32} {p : Nat} {x b : Int32} : fitP 2 x b ↔ ((if T p - 48 = 0 then (0 : Int32) else 0) ≤ x - 48 ∧ x - 48 ≤ 9) := by
  rw [ite_self]
  exact fit_def (Or.inl (by decide))
theorem rs_44 {I : mv_I} {J : mv_J} {K : mv_K} {i p n : Nat} (hi : i < 5) (hn : n ≤ 80) (h2 : I 30 2 = nI n)
    (fin0 : ∀ I1 q, FRt I I1 → q ≤ n → I1 30 3 = nI q → ffF (I 31) n (n - p) p 0 i = nI q → K (some (.int 0)) I1 J)
    (nxt : tdP (I 31) n (p + 1) 0 9 → tdP (I 31) n (p + 2) (if I 31 (p + 1) - 48 = 0 then 0 else 0) 9 → ffF (I 31) n (n - p) p 0 i = ffF (I 31) n (n - (p + 3)) (p + 3) 3 i → mv_V mv_ow mv_swf mv_t_X7_readSeries rs_cs K 50 [(0, .ref 30), (1, .int (nI i)), (2, .int (nI (24 * i))), (3, .int (10 * (I 31 (p + 1) - 48) + (I 31 (p + 2) - 48)))] [] (PL I (p + 3)) J)
    (hpn : p + 1 ≤ n) (hff : ffF (I 31) n (n - p) p 0 i = ffF (I 31) n (n - (p + 1)) (p + 1) 1 i) : mv_V mv_ow mv_swf mv_t_X7_readSeries rs_cs K 44 [(0, .ref 30), (1, .int (nI i)), (2, .int (nI (24 * i)))] [] (PL I (p + 1)) J := by
  have e31 : PL I (p + 1) 31 = I 31 := PL_ne (by decide)
  have frP : ∀ q, FRt I (PL I q) := fun q => ⟨fun a ha _ => PL_ne ha, fun b hb _ => PL_30 hb⟩
  refine mv_run_V (stop := [50]) 40 _ _ _ _ _ ?_
  refine ⟨rfl, rfl, ⟨⟨p + 1, n, hpn, hn, PL_3, (PL_30 (by decide)).trans h2⟩, 0, by decide, rfl⟩, fun r1 I1 J1 hp1 => ?_⟩
  obtain ⟨rfl, hq⟩ := hp1
  have hq := hq (p + 1) n 0 hpn hn PL_3 ((PL_30 (by decide)).trans h2) rfl
  rw [e31] at hq
  by_cases ht : tdP (I 31) n (p + 1) 0 9
  · rw [if_pos ht] at hq
    have hff1 := hff.trans (ff_step ht.1 (by omega) ((fit_def (Or.inl (by decide))).mpr ht.2) (fit_n46 (by decide) ht))
    have hlt := ht.1
    by_cases ht2 : tdP (I 31) n (p + 1 + 1) (if I 31 (p + 1) - 48 = 0 then 0 else 0) 9
    · rw [if_pos ht2] at hq
      obtain ⟨rfl, hI⟩ := hq
      have hI : I1 = PL I (p + 1 + 2) := hI.trans PL_PL
      subst hI
      exact nxt ht ht2 (hff1.trans (ff_step ht2.1 (by omega) ((fit_2 (T := I 31)).mpr ht2.2) (fit_n46 (by split <;> decide) ht2)))
    · rw [if_neg ht2] at hq
      obtain ⟨rfl, hI⟩ := hq
      have hI : I1 = PL I (p + 1 + 1) := hI.trans PL_PL
      subst hI
      refine mv_keep [0, 3] (rs_f50 (fin0 _ (p + 1 + 1) (frP _) (by omega) PL_3 ?_))
      rw [hff1]
      exact ff_fail (by omega) (Or.inl (by decide)) (fun z => Or.inr (fun hf => ht2 ⟨z, (fit_2 (T := I 31)).mp hf⟩))
  · rw [if_neg ht] at hq
    obtain ⟨rfl, rfl⟩ := hq
    refine mv_keep [0, 3] (rs_f50 (fin0 _ (p + 1) (frP _) hpn PL_3 ?_))
    rw [hff]
    exact ff_fail hpn (Or.inl (by decide)) (fun z => Or.inr (fun hf => ht ⟨z, (fit_def (Or.inl (by decide))).mp hf⟩))
