/-! The law's loop. -/
theorem nI_sub6 {L : Nat} (h : 6 ≤ L) : nI L - 6 = nI (L - 6) := by
  obtain ⟨q, rfl⟩ : ∃ q, L = q + 6 := ⟨L - 6, by omega⟩
  rw [Nat.add_sub_cancel, ← nI_add q 6]
  show nI q + 6 - 6 = nI q
  rw [Int32.add_sub_cancel]
theorem small6 : ∀ L, L < 6 → nI L - 6 < 0 := by decide +kernel
theorem loop_cond {L k : Nat} (hL : L ≤ 3072) (hk : k ≤ 600) : nI L - 6 < nI (6 * k) ↔ L < 6 * k + 6 := by
  by_cases h : 6 ≤ L
  · rw [nI_sub6 h, nI_ltI (by omega) (by omega)]
    omega
  · exact ⟨fun _ => by omega, fun _ => Int32.lt_of_lt_of_le (small6 L (by omega)) (nI_pos' (by omega))⟩
set_option maxRecDepth 20000 in
theorem law_next {k L : Nat} {I : mv_I} {J : mv_J} (hk : k < 512) (ih : LV 18 (L0 (k + 1)) [] I J) : LV 1111 (L0 k) [] I J := by
  refine mv_run_V (stop := [18]) 2 _ _ _ _ _ ?_
  have e : nI (6 * k) + 6 = nI (6 * (k + 1)) := by
    rw [Nat.mul_add]
    exact nI_add (6 * k) 6
  show LV 18 [(0, .ref 999), (1, .ref 0), (2, .ref 30), (3, .int (nI (6 * k) + 6))] [] I J
  rw [e]
  exact ih
set_option maxRecDepth 20000 in
theorem law_body {k : Nat} {I : mv_I} {J : mv_J} (X : WL k I J) (hN : WN k I) : LV 27 (L0 k) [] I J := by
  obtain ⟨hk, h, h0, -⟩ := id X
  refine mv_run_V (stop := [164, 187, 200, 213, 226, 259, 292, 325, 348, 371, 414, 437, 450, 503, 536, 569, 619, 662, 685, 748, 801, 814, 827, 886, 965, 1019, 1042, 1065, 1088, 1111]) 20 _ _ _ _ _ ?_
  refine ⟨rfl, h0, ?_⟩
  refine ⟨fun _ => W_write X hN, fun _ => ?_⟩
  refine ⟨fun _ => W_wipe X hN, fun _ => ?_⟩
  refine ⟨fun _ => W_fault X hN, fun _ => ?_⟩
  refine ⟨fun _ => W_watch X hN, fun _ => ?_⟩
  refine ⟨fun _ => W_series X hN, fun _ => ?_⟩
  refine ⟨fun _ => W_past X hN, fun _ => ?_⟩
  refine ⟨fun _ => W_tell X hN, fun _ => ?_⟩
  refine ⟨fun _ => W_gap X hN, fun _ => ?_⟩
  refine ⟨fun _ => W_clear X hN, fun _ => ?_⟩
  refine ⟨fun _ => W_set X hN, fun _ => ?_⟩
  refine ⟨fun _ => W_chances X hN, fun _ => ?_⟩
  refine ⟨fun _ => W_undo X hN, fun _ => ?_⟩
  refine ⟨fun _ => W_ahead X hN, fun _ => ?_⟩
  refine ⟨fun _ => W_rings X hN, fun _ => ?_⟩
  refine ⟨fun _ => W_least X hN, fun _ => ?_⟩
  refine ⟨fun _ => W_lengthW X hN, fun _ => ?_⟩
  refine ⟨fun _ => W_would X hN, fun _ => ?_⟩
  refine ⟨fun _ => W_ranked X hN, fun _ => ?_⟩
  refine ⟨fun _ => W_judge X hN, fun _ => ?_⟩
  refine ⟨fun _ => W_see X hN, fun _ => ?_⟩
  refine ⟨fun _ => W_unsee X hN, fun _ => ?_⟩
  refine ⟨fun _ => W_which X hN, fun _ => ?_⟩
  refine ⟨fun _ => W_share X hN, fun _ => ?_⟩
  refine ⟨fun _ => W_lost X hN, fun _ => ?_⟩
  refine ⟨fun _ => W_seed X hN, fun _ => ?_⟩
  refine ⟨fun _ => W_drawn X hN, fun _ => ?_⟩
  refine ⟨fun _ => W_keep X hN, fun _ => ?_⟩
  refine ⟨fun _ => W_again X hN, fun _ => ?_⟩
  refine ⟨fun _ => W_count X hN, fun _ => ?_⟩
  exact hN I J SC_rfl ⟨h.1, REL_mono (Nat.le_succ k) h.2.1, h.2.2⟩
set_option maxRecDepth 20000 in
theorem law_loop {L : Nat} (hL : L ≤ 3072) : ∀ r k, k + r = 513 → ∀ I J, I 998 0 = nI L → LI k I J → LV 18 (L0 k) [] I J := by
  intro r
  induction r with
  | zero =>
    intro k hk I J hI h
    refine mv_run_V (stop := [27, 1117]) 7 _ _ _ _ _ ?_
    refine ⟨rfl, ?_⟩
    refine ⟨fun _ => ?_, fun hc => ?_⟩
    · refine mv_run_V (stop := []) 5 _ _ _ _ _ ?_
      exact ⟨Or.inr rfl, rfl⟩
    · rw [hI, loop_cond hL (by omega)] at hc
      omega
  | succ r ih =>
    intro k hk I J hI h
    refine mv_run_V (stop := [27, 1117]) 7 _ _ _ _ _ ?_
    refine ⟨rfl, ?_⟩
    refine ⟨fun _ => ?_, fun hc => ?_⟩
    · refine mv_run_V (stop := []) 5 _ _ _ _ _ ?_
      exact ⟨Or.inr rfl, rfl⟩
    · have hc : 6 * k + 6 ≤ L := by
        rw [hI, loop_cond hL (by omega)] at hc
        omega
      have e8 : (I 998 0).toNatClampNeg = L := by rw [hI]; exact nI_clamp (by omega)
      have hin : ∀ j, j < 6 → vp_in (nI (6 * k) + nI j) (I 998 0).toNatClampNeg := fun j hj => by
        rw [nI_add, e8]
        exact vp_in_nI (by omega) (by omega)
      refine law_body ⟨by omega, h, by rw [e8]; exact vp_in_nI (by omega) (by omega), hin 1 (by decide), hin 2 (by decide), hin 3 (by decide), hin 4 (by decide), hin 5 (by decide)⟩ (fun I' J' hS hL' => law_next (L := L) (by omega) (ih (k + 1) (by omega) I' J' (by rw [hS.2]; exact hI) hL'))
set_option maxRecDepth 20000 in
theorem law_V {L : Nat} (hL : L ≤ 3072) {I : mv_I} {J : mv_J} (hI : I 998 0 = nI L) (h : LI 0 I J) : LV 16 [(0, .ref 999), (1, .ref 0), (2, .ref 30)] [] I J := by
  refine mv_run_V (stop := [18]) 2 _ _ _ _ _ ?_
  exact law_loop hL 513 0 rfl I J hI h
