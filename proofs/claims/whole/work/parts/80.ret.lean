/-! What a call answers. -/
theorem Q_write {x : Int32} {I : mv_I} {J : mv_J} {r : Option Value} {I1 : mv_I} {J1 : mv_J} (h : sp_write.2 [.ref 0, .int x] I J r I1 J1) : ∃ x, r = some (.int x) := by
  have h := h.2 x rfl
  repeat' split at h
  all_goals (first | exact ⟨_, h.1⟩ | exact ⟨_, h.2⟩)
theorem Q_wipe  {I : mv_I} {J : mv_J} {r : Option Value} {I1 : mv_I} {J1 : mv_J} (h : sp_wipe.2 [.ref 0] I J r I1 J1) : ∃ x, r = some (.int x) := ⟨_, h.1⟩
theorem Q_fault  {I : mv_I} {J : mv_J} {r : Option Value} {I1 : mv_I} {J1 : mv_J} (h : sp_fault.2 [.ref 0] I J r I1 J1) : ∃ x, r = some (.int x) := ⟨_, h.2.2⟩
theorem Q_watch  {I : mv_I} {J : mv_J} {r : Option Value} {I1 : mv_I} {J1 : mv_J} (h : sp_watch.2 [.ref 0] I J r I1 J1) : ∃ x, r = some (.int x) := by
  have h := h.2
  repeat' split at h
  all_goals (first | exact ⟨_, h.1⟩ | exact ⟨_, h.2⟩)
theorem Q_series {s : Int32} {w : Int32} {I : mv_I} {J : mv_J} {r : Option Value} {I1 : mv_I} {J1 : mv_J} (h : sp_series.2 [.ref 0, .int s, .int w] I J r I1 J1) : ∃ x, r = some (.int x) := ⟨_, h.2.2 s w rfl⟩
theorem Q_past {s : Int32} {w : Int32} {I : mv_I} {J : mv_J} {r : Option Value} {I1 : mv_I} {J1 : mv_J} (h : sp_past.2 [.ref 0, .int s, .int w] I J r I1 J1) : ∃ x, r = some (.int x) := ⟨_, h.2.2 s w rfl⟩
theorem Q_tell {s : Int32} {v : Int32} {I : mv_I} {J : mv_J} {r : Option Value} {I1 : mv_I} {J1 : mv_J} (h : sp_tell.2 [.ref 0, .int s, .int v] I J r I1 J1) : ∃ x, r = some (.int x) := by
  have h := h.2 s v rfl
  repeat' split at h
  all_goals (first | exact ⟨_, h.1⟩ | exact ⟨_, h.2⟩)
theorem Q_gap {s : Int32} {I : mv_I} {J : mv_J} {r : Option Value} {I1 : mv_I} {J1 : mv_J} (h : sp_gap.2 [.ref 0, .int s] I J r I1 J1) : ∃ x, r = some (.int x) := by
  have h := h.2 s rfl
  repeat' split at h
  all_goals (first | exact ⟨_, h.1⟩ | exact ⟨_, h.2⟩)
theorem Q_clear {s : Int32} {I : mv_I} {J : mv_J} {r : Option Value} {I1 : mv_I} {J1 : mv_J} (h : sp_clear.2 [.ref 0, .int s] I J r I1 J1) : ∃ x, r = some (.int x) := by
  have h := h.2 s rfl
  repeat' split at h
  all_goals (first | exact ⟨_, h.1⟩ | exact ⟨_, h.2⟩)
theorem Q_set {s : Int32} {w : Int32} {v : Int32} {I : mv_I} {J : mv_J} {r : Option Value} {I1 : mv_I} {J1 : mv_J} (h : sp_set.2 [.ref 0, .int s, .int w, .int v] I J r I1 J1) : ∃ x, r = some (.int x) := by
  obtain ⟨h1, h2, h3⟩ := h.2 s w v rfl
  by_cases hs : sv I s
  · by_cases hv : alwP w v
    · exact ⟨_, (h1 hs hv).1⟩
    · exact ⟨_, (h2 hs hv).1⟩
  · exact ⟨_, (h3 hs).1⟩
theorem Q_chances {w : Int32} {I : mv_I} {J : mv_J} {r : Option Value} {I1 : mv_I} {J1 : mv_J} (h : sp_chances.2 [.ref 0, .int w] I J r I1 J1) : ∃ x, r = some (.int x) := by
  have h := h.2 w rfl
  repeat' split at h
  all_goals (first | exact ⟨_, h.1⟩ | exact ⟨_, h.2⟩)
theorem Q_undo  {I : mv_I} {J : mv_J} {r : Option Value} {I1 : mv_I} {J1 : mv_J} (h : sp_undo.2 [.ref 0] I J r I1 J1) : ∃ x, r = some (.int x) := by
  have h := h.2
  repeat' split at h
  all_goals (first | exact ⟨_, h.1⟩ | exact ⟨_, h.2⟩)
theorem Q_ahead {n : Int32} {v : Int32} {s : Int32} {w : Int32} {I : mv_I} {J : mv_J} {r : Option Value} {I1 : mv_I} {J1 : mv_J} (h : sp_ahead.2 [.ref 0, .int n, .int v, .int s, .int w] I J r I1 J1) : ∃ x, r = some (.int x) := ⟨_, h.2.2 n v s w rfl⟩
theorem Q_rings {s : Int32} {v : Int32} {I : mv_I} {J : mv_J} {r : Option Value} {I1 : mv_I} {J1 : mv_J} (h : sp_rings.2 [.ref 0, .int s, .int v] I J r I1 J1) : ∃ x, r = some (.int x) := ⟨_, h.2.2 s v rfl⟩
theorem Q_least {s : Int32} {n : Int32} {I : mv_I} {J : mv_J} {r : Option Value} {I1 : mv_I} {J1 : mv_J} (h : sp_least.2 [.ref 0, .int s, .int n] I J r I1 J1) : ∃ x, r = some (.int x) := ⟨_, h.2.2 s n rfl⟩
theorem Q_lengthW {s : Int32} {u : Int32} {I : mv_I} {J : mv_J} {r : Option Value} {I1 : mv_I} {J1 : mv_J} (h : sp_lengthW.2 [.ref 0, .int s, .int u] I J r I1 J1) : ∃ x, r = some (.long x) := ⟨_, h.2.2⟩
theorem Q_would {s : Int32} {q : Int32} {w : Int32} {I : mv_I} {J : mv_J} {r : Option Value} {I1 : mv_I} {J1 : mv_J} (h : sp_would.2 [.ref 0, .int s, .int q, .int w] I J r I1 J1) : ∃ x, r = some (.int x) := ⟨_, h.2.2 s q w rfl⟩
theorem Q_ranked {p : Int32} {I : mv_I} {J : mv_J} {r : Option Value} {I1 : mv_I} {J1 : mv_J} (h : sp_ranked.2 [.ref 0, .int p] I J r I1 J1) : ∃ x, r = some (.int x) := ⟨_, h.2.2⟩
theorem Q_judge {n : Int32} {row : Int64} {I : mv_I} {J : mv_J} {r : Option Value} {I1 : mv_I} {J1 : mv_J} (h : sp_judge.2 [.ref 0, .int n, .long row] I J r I1 J1) : ∃ x, r = some (.int x) := by
  have h := h.2.2 n row rfl
  split at h
  · by_cases h0 : row < 0
    · exact ⟨_, h.2 h0⟩
    · obtain ⟨R, hR63, rfl⟩ := pk_lOf h0
      have h := h.1 R hR63 rfl
      split at h
      · exact ⟨_, h⟩
      · exact ⟨_, h⟩
  · exact ⟨_, h⟩
theorem Q_see {s : Int32} {n : Int32} {q : Int32} {w : Int32} {I : mv_I} {J : mv_J} {r : Option Value} {I1 : mv_I} {J1 : mv_J} (h : sp_see.2 [.ref 0, .int s, .int n, .int q, .int w] I J r I1 J1) : ∃ x, r = some (.int x) := by
  have h := h.2 s n q w rfl
  repeat' split at h
  all_goals (first | exact ⟨_, h.1⟩ | exact ⟨_, h.2⟩)
theorem Q_unsee  {I : mv_I} {J : mv_J} {r : Option Value} {I1 : mv_I} {J1 : mv_J} (h : sp_unsee.2 [.ref 0] I J r I1 J1) : ∃ x, r = some (.int x) := ⟨_, h.1⟩
theorem Q_which  {I : mv_I} {J : mv_J} {r : Option Value} {I1 : mv_I} {J1 : mv_J} (h : sp_which.2 [.ref 0] I J r I1 J1) : ∃ x, r = some (.int x) := ⟨_, h.2.2⟩
theorem Q_share {s : Int32} {q : Int32} {u : Int32} {I : mv_I} {J : mv_J} {r : Option Value} {I1 : mv_I} {J1 : mv_J} (h : sp_share.2 [.ref 0, .int s, .int q, .int u] I J r I1 J1) : ∃ x, r = some (.int x) := ⟨_, h.2.2 s q u rfl⟩
theorem Q_lost {s : Int32} {v : Int32} {n : Int32} {x : Int32} {u : Int32} {I : mv_I} {J : mv_J} {r : Option Value} {I1 : mv_I} {J1 : mv_J} (h : sp_lost.2 [.ref 0, .int s, .int v, .int n, .int x, .int u] I J r I1 J1) : ∃ x, r = some (.int x) := ⟨_, h.2.2 s v n x u rfl⟩
theorem Q_seed {v : Int64} {I : mv_I} {J : mv_J} {r : Option Value} {I1 : mv_I} {J1 : mv_J} (h : sp_seed.2 [.ref 0, .long v] I J r I1 J1) : ∃ x, r = some (.long x) := ⟨_, h.2.1⟩
theorem Q_drawn {n : Int32} {I : mv_I} {J : mv_J} {r : Option Value} {I1 : mv_I} {J1 : mv_J} (h : sp_drawn.2 [.ref 0, .int n] I J r I1 J1) : ∃ x, r = some (.int x) := by
  have h := h.2
  have h : if 1 ≤ n ∧ n ≤ 20 then J1 = mv_sj J 0 7 (sdN (J 0 7) n.toNatClampNeg) ∧ r = some (.int (drF (I 400 1).toNatClampNeg n.toNatClampNeg (J 0 7) (grpN 17 0 I (I 400 1).toNatClampNeg) 0)) else J1 = J ∧ r = some (.int (-2)) := h
  repeat' split at h
  all_goals (first | exact ⟨_, h.1⟩ | exact ⟨_, h.2⟩)
theorem Q_keep {s : Int32} {I : mv_I} {J : mv_J} {r : Option Value} {I1 : mv_I} {J1 : mv_J} (h : sp_keep.2 [.ref 0, .int s] I J r I1 J1) : ∃ x, r = some (.int x) := by
  have h := h.2 s rfl
  repeat' split at h
  all_goals (first | exact ⟨_, h.1⟩ | exact ⟨_, h.2⟩)
theorem Q_again {s : Int32} {I : mv_I} {J : mv_J} {r : Option Value} {I1 : mv_I} {J1 : mv_J} (h : sp_again.2 [.ref 0, .int s] I J r I1 J1) : ∃ x, r = some (.int x) := by
  have h := h.2 s rfl
  repeat' split at h
  all_goals (first | exact ⟨_, h.1⟩ | exact ⟨_, h.2⟩)
theorem Q_count {w : Int32} {I : mv_I} {J : mv_J} {r : Option Value} {I1 : mv_I} {J1 : mv_J} (h : sp_count.2 [.ref 0, .int w] I J r I1 J1) : ∃ x, r = some (.int x) := ⟨_, h.2.2⟩
