/-! The law's cases. -/
abbrev law_cs : Nat → mv_SP := mv_cs [(87, sp_write), (148, sp_mWrite), (83, sp_wipe), (146, sp_mWipe), (58, sp_fault), (103, sp_mFault), (80, sp_watch), (144, sp_mWatch), (73, sp_series), (136, sp_mSeries), (68, sp_past), (127, sp_mPast), (77, sp_tell), (139, sp_mTell), (60, sp_gap), (107, sp_mGap), (52, sp_clear), (94, sp_mClear), (74, sp_set), (137, sp_mSet), (51, sp_chances), (92, sp_mChances), (78, sp_undo), (142, sp_mUndo), (49, sp_ahead), (89, sp_mAhead), (70, sp_rings), (132, sp_mRings), (64, sp_least), (116, sp_mLeast), (65, sp_lengthW), (117, sp_mLength), (86, sp_would), (147, sp_mWould), (69, sp_ranked), (129, sp_mRanked), (62, sp_judge), (112, sp_mJudge), (71, sp_see), (134, sp_mSee), (79, sp_unsee), (143, sp_mUnsee), (82, sp_which), (145, sp_mWhich), (75, sp_share), (138, sp_mShare), (66, sp_lost), (120, sp_mLost), (72, sp_seed), (135, sp_mSeed), (56, sp_drawn), (100, sp_mDrawn), (63, sp_keep), (113, sp_mKeep), (46, sp_again), (88, sp_mAgain), (54, sp_count), (97, sp_mCount)]
abbrev law_K : mv_K := fun r _ _ => r = some (.int 1)
abbrev LV : Nat → mv_L → List Value → mv_I → mv_J → Prop := mv_V mv_ow mv_swf mv_t_L_law law_cs law_K
abbrev L0 (k : Nat) : mv_L := [(0, .ref 999), (1, .ref 0), (2, .ref 30), (3, .int (nI (6 * k)))]
def WL (k : Nat) (I : mv_I) (J : mv_J) : Prop := k < 512 ∧ LI k I J ∧ vp_in (nI (6 * k)) (I 998 0).toNatClampNeg ∧ vp_in (nI (6 * k) + 1) (I 998 0).toNatClampNeg ∧ vp_in (nI (6 * k) + 2) (I 998 0).toNatClampNeg ∧ vp_in (nI (6 * k) + 3) (I 998 0).toNatClampNeg ∧ vp_in (nI (6 * k) + 4) (I 998 0).toNatClampNeg ∧ vp_in (nI (6 * k) + 5) (I 998 0).toNatClampNeg
def WN (k : Nat) (I : mv_I) : Prop := ∀ I' J', SC I I' → LI (k + 1) I' J' → LV 1111 (L0 k) [] I' J'
theorem SC_trans {I I1 I2 : mv_I} (h : SC I I1) (h2 : SC I1 I2) : SC I I2 := ⟨h2.1.trans h.1, h2.2.trans h.2⟩
set_option maxRecDepth 20000 in
theorem W_write {k : Nat} {I : mv_I} {J : mv_J} (X : WL k I J) (hN : WN k I) : LV 164 (L0 k) [] I J := by
  obtain ⟨hk, h, h0, h1, h2, h3, h4, h5⟩ := X
  refine mv_run_V (stop := [1111]) 90 _ _ _ _ _ ?_
  refine ⟨rfl, h1, ?_⟩
  obtain ⟨hp1, hs⟩ := S_write (I 999 (nI (6 * k) + 1).toNatClampNeg) k I J hk h
  refine ⟨rfl, rfl, hp1, fun r I1 J1 hp => ?_⟩
  obtain ⟨x, rfl⟩ := Q_write hp
  obtain ⟨hC, hp2, hs2⟩ := hs _ I1 J1 hp
  obtain ⟨e9, e8⟩ := hC
  refine ⟨rfl, by rw [e8]; exact h1, ?_⟩
  refine ⟨rfl, rfl, by rw [e9]; exact hp2, fun r2 I2 J2 hq => ?_⟩
  rw [e9] at hq
  obtain ⟨rfl, -, hC2, hL⟩ := hs2 _ I2 J2 hq
  exact ⟨fun _ => hN I2 J2 (SC_trans ⟨e9, e8⟩ hC2) hL, fun z => absurd rfl z⟩
set_option maxRecDepth 20000 in
theorem W_wipe {k : Nat} {I : mv_I} {J : mv_J} (X : WL k I J) (hN : WN k I) : LV 187 (L0 k) [] I J := by
  obtain ⟨hk, h, h0, h1, h2, h3, h4, h5⟩ := X
  refine mv_run_V (stop := [1111]) 90 _ _ _ _ _ ?_
  obtain ⟨hp1, hs⟩ := S_wipe  k I J hk h
  refine ⟨rfl, rfl, hp1, fun r I1 J1 hp => ?_⟩
  obtain ⟨x, rfl⟩ := Q_wipe hp
  obtain ⟨hC, hp2, hs2⟩ := hs _ I1 J1 hp
  obtain ⟨e9, e8⟩ := hC
  refine ⟨rfl, rfl, hp2, fun r2 I2 J2 hq => ?_⟩
  obtain ⟨rfl, -, hC2, hL⟩ := hs2 _ I2 J2 hq
  exact ⟨fun _ => hN I2 J2 (SC_trans ⟨e9, e8⟩ hC2) hL, fun z => absurd rfl z⟩
set_option maxRecDepth 20000 in
theorem W_fault {k : Nat} {I : mv_I} {J : mv_J} (X : WL k I J) (hN : WN k I) : LV 200 (L0 k) [] I J := by
  obtain ⟨hk, h, h0, h1, h2, h3, h4, h5⟩ := X
  refine mv_run_V (stop := [1111]) 90 _ _ _ _ _ ?_
  obtain ⟨hp1, hs⟩ := S_fault  k I J hk h
  refine ⟨rfl, rfl, hp1, fun r I1 J1 hp => ?_⟩
  obtain ⟨x, rfl⟩ := Q_fault hp
  obtain ⟨hC, hp2, hs2⟩ := hs _ I1 J1 hp
  obtain ⟨e9, e8⟩ := hC
  refine ⟨rfl, rfl, hp2, fun r2 I2 J2 hq => ?_⟩
  obtain ⟨rfl, -, hC2, hL⟩ := hs2 _ I2 J2 hq
  exact ⟨fun _ => hN I2 J2 (SC_trans ⟨e9, e8⟩ hC2) hL, fun z => absurd rfl z⟩
set_option maxRecDepth 20000 in
theorem W_watch {k : Nat} {I : mv_I} {J : mv_J} (X : WL k I J) (hN : WN k I) : LV 213 (L0 k) [] I J := by
  obtain ⟨hk, h, h0, h1, h2, h3, h4, h5⟩ := X
  refine mv_run_V (stop := [1111]) 90 _ _ _ _ _ ?_
  obtain ⟨hp1, hs⟩ := S_watch  k I J hk h
  refine ⟨rfl, rfl, hp1, fun r I1 J1 hp => ?_⟩
  obtain ⟨x, rfl⟩ := Q_watch hp
  obtain ⟨hC, hp2, hs2⟩ := hs _ I1 J1 hp
  obtain ⟨e9, e8⟩ := hC
  refine ⟨rfl, rfl, hp2, fun r2 I2 J2 hq => ?_⟩
  obtain ⟨rfl, -, hC2, hL⟩ := hs2 _ I2 J2 hq
  exact ⟨fun _ => hN I2 J2 (SC_trans ⟨e9, e8⟩ hC2) hL, fun z => absurd rfl z⟩
set_option maxRecDepth 20000 in
theorem W_series {k : Nat} {I : mv_I} {J : mv_J} (X : WL k I J) (hN : WN k I) : LV 226 (L0 k) [] I J := by
  obtain ⟨hk, h, h0, h1, h2, h3, h4, h5⟩ := X
  refine mv_run_V (stop := [1111]) 90 _ _ _ _ _ ?_
  refine ⟨rfl, h1, ?_⟩
  refine ⟨rfl, h2, ?_⟩
  obtain ⟨hp1, hs⟩ := S_series (I 999 (nI (6 * k) + 1).toNatClampNeg) (I 999 (nI (6 * k) + 2).toNatClampNeg) k I J hk h
  refine ⟨rfl, rfl, hp1, fun r I1 J1 hp => ?_⟩
  obtain ⟨x, rfl⟩ := Q_series hp
  obtain ⟨hC, hp2, hs2⟩ := hs _ I1 J1 hp
  obtain ⟨e9, e8⟩ := hC
  refine ⟨rfl, by rw [e8]; exact h1, ?_⟩
  refine ⟨rfl, by rw [e8]; exact h2, ?_⟩
  refine ⟨rfl, rfl, by rw [e9]; exact hp2, fun r2 I2 J2 hq => ?_⟩
  rw [e9] at hq
  obtain ⟨rfl, -, hC2, hL⟩ := hs2 _ I2 J2 hq
  exact ⟨fun _ => hN I2 J2 (SC_trans ⟨e9, e8⟩ hC2) hL, fun z => absurd rfl z⟩
set_option maxRecDepth 20000 in
theorem W_past {k : Nat} {I : mv_I} {J : mv_J} (X : WL k I J) (hN : WN k I) : LV 259 (L0 k) [] I J := by
  obtain ⟨hk, h, h0, h1, h2, h3, h4, h5⟩ := X
  refine mv_run_V (stop := [1111]) 90 _ _ _ _ _ ?_
  refine ⟨rfl, h1, ?_⟩
  refine ⟨rfl, h2, ?_⟩
  obtain ⟨hp1, hs⟩ := S_past (I 999 (nI (6 * k) + 1).toNatClampNeg) (I 999 (nI (6 * k) + 2).toNatClampNeg) k I J hk h
  refine ⟨rfl, rfl, hp1, fun r I1 J1 hp => ?_⟩
  obtain ⟨x, rfl⟩ := Q_past hp
  obtain ⟨hC, hp2, hs2⟩ := hs _ I1 J1 hp
  obtain ⟨e9, e8⟩ := hC
  refine ⟨rfl, by rw [e8]; exact h1, ?_⟩
  refine ⟨rfl, by rw [e8]; exact h2, ?_⟩
  refine ⟨rfl, rfl, by rw [e9]; exact hp2, fun r2 I2 J2 hq => ?_⟩
  rw [e9] at hq
  obtain ⟨rfl, -, hC2, hL⟩ := hs2 _ I2 J2 hq
  exact ⟨fun _ => hN I2 J2 (SC_trans ⟨e9, e8⟩ hC2) hL, fun z => absurd rfl z⟩
set_option maxRecDepth 20000 in
theorem W_tell {k : Nat} {I : mv_I} {J : mv_J} (X : WL k I J) (hN : WN k I) : LV 292 (L0 k) [] I J := by
  obtain ⟨hk, h, h0, h1, h2, h3, h4, h5⟩ := X
  refine mv_run_V (stop := [1111]) 90 _ _ _ _ _ ?_
  refine ⟨rfl, h1, ?_⟩
  refine ⟨rfl, h2, ?_⟩
  obtain ⟨hp1, hs⟩ := S_tell (I 999 (nI (6 * k) + 1).toNatClampNeg) (I 999 (nI (6 * k) + 2).toNatClampNeg) k I J hk h
  refine ⟨rfl, rfl, hp1, fun r I1 J1 hp => ?_⟩
  obtain ⟨x, rfl⟩ := Q_tell hp
  obtain ⟨hC, hp2, hs2⟩ := hs _ I1 J1 hp
  obtain ⟨e9, e8⟩ := hC
  refine ⟨rfl, by rw [e8]; exact h1, ?_⟩
  refine ⟨rfl, by rw [e8]; exact h2, ?_⟩
  refine ⟨rfl, rfl, by rw [e9]; exact hp2, fun r2 I2 J2 hq => ?_⟩
  rw [e9] at hq
  obtain ⟨rfl, -, hC2, hL⟩ := hs2 _ I2 J2 hq
  exact ⟨fun _ => hN I2 J2 (SC_trans ⟨e9, e8⟩ hC2) hL, fun z => absurd rfl z⟩
set_option maxRecDepth 20000 in
theorem W_gap {k : Nat} {I : mv_I} {J : mv_J} (X : WL k I J) (hN : WN k I) : LV 325 (L0 k) [] I J := by
  obtain ⟨hk, h, h0, h1, h2, h3, h4, h5⟩ := X
  refine mv_run_V (stop := [1111]) 90 _ _ _ _ _ ?_
  refine ⟨rfl, h1, ?_⟩
  obtain ⟨hp1, hs⟩ := S_gap (I 999 (nI (6 * k) + 1).toNatClampNeg) k I J hk h
  refine ⟨rfl, rfl, hp1, fun r I1 J1 hp => ?_⟩
  obtain ⟨x, rfl⟩ := Q_gap hp
  obtain ⟨hC, hp2, hs2⟩ := hs _ I1 J1 hp
  obtain ⟨e9, e8⟩ := hC
  refine ⟨rfl, by rw [e8]; exact h1, ?_⟩
  refine ⟨rfl, rfl, by rw [e9]; exact hp2, fun r2 I2 J2 hq => ?_⟩
  rw [e9] at hq
  obtain ⟨rfl, -, hC2, hL⟩ := hs2 _ I2 J2 hq
  exact ⟨fun _ => hN I2 J2 (SC_trans ⟨e9, e8⟩ hC2) hL, fun z => absurd rfl z⟩
set_option maxRecDepth 20000 in
theorem W_clear {k : Nat} {I : mv_I} {J : mv_J} (X : WL k I J) (hN : WN k I) : LV 348 (L0 k) [] I J := by
  obtain ⟨hk, h, h0, h1, h2, h3, h4, h5⟩ := X
  refine mv_run_V (stop := [1111]) 90 _ _ _ _ _ ?_
  refine ⟨rfl, h1, ?_⟩
  obtain ⟨hp1, hs⟩ := S_clear (I 999 (nI (6 * k) + 1).toNatClampNeg) k I J hk h
  refine ⟨rfl, rfl, hp1, fun r I1 J1 hp => ?_⟩
  obtain ⟨x, rfl⟩ := Q_clear hp
  obtain ⟨hC, hp2, hs2⟩ := hs _ I1 J1 hp
  obtain ⟨e9, e8⟩ := hC
  refine ⟨rfl, by rw [e8]; exact h1, ?_⟩
  refine ⟨rfl, rfl, by rw [e9]; exact hp2, fun r2 I2 J2 hq => ?_⟩
  rw [e9] at hq
  obtain ⟨rfl, -, hC2, hL⟩ := hs2 _ I2 J2 hq
  exact ⟨fun _ => hN I2 J2 (SC_trans ⟨e9, e8⟩ hC2) hL, fun z => absurd rfl z⟩
set_option maxRecDepth 20000 in
theorem W_set {k : Nat} {I : mv_I} {J : mv_J} (X : WL k I J) (hN : WN k I) : LV 371 (L0 k) [] I J := by
  obtain ⟨hk, h, h0, h1, h2, h3, h4, h5⟩ := X
  refine mv_run_V (stop := [1111]) 90 _ _ _ _ _ ?_
  refine ⟨rfl, h1, ?_⟩
  refine ⟨rfl, h2, ?_⟩
  refine ⟨rfl, h3, ?_⟩
  obtain ⟨hp1, hs⟩ := S_set (I 999 (nI (6 * k) + 1).toNatClampNeg) (I 999 (nI (6 * k) + 2).toNatClampNeg) (I 999 (nI (6 * k) + 3).toNatClampNeg) k I J hk h
  refine ⟨rfl, rfl, hp1, fun r I1 J1 hp => ?_⟩
  obtain ⟨x, rfl⟩ := Q_set hp
  obtain ⟨hC, hp2, hs2⟩ := hs _ I1 J1 hp
  obtain ⟨e9, e8⟩ := hC
  refine ⟨rfl, by rw [e8]; exact h1, ?_⟩
  refine ⟨rfl, by rw [e8]; exact h2, ?_⟩
  refine ⟨rfl, by rw [e8]; exact h3, ?_⟩
  refine ⟨rfl, rfl, by rw [e9]; exact hp2, fun r2 I2 J2 hq => ?_⟩
  rw [e9] at hq
  obtain ⟨rfl, -, hC2, hL⟩ := hs2 _ I2 J2 hq
  exact ⟨fun _ => hN I2 J2 (SC_trans ⟨e9, e8⟩ hC2) hL, fun z => absurd rfl z⟩
set_option maxRecDepth 20000 in
theorem W_chances {k : Nat} {I : mv_I} {J : mv_J} (X : WL k I J) (hN : WN k I) : LV 414 (L0 k) [] I J := by
  obtain ⟨hk, h, h0, h1, h2, h3, h4, h5⟩ := X
  refine mv_run_V (stop := [1111]) 90 _ _ _ _ _ ?_
  refine ⟨rfl, h1, ?_⟩
  obtain ⟨hp1, hs⟩ := S_chances (I 999 (nI (6 * k) + 1).toNatClampNeg) k I J hk h
  refine ⟨rfl, rfl, hp1, fun r I1 J1 hp => ?_⟩
  obtain ⟨x, rfl⟩ := Q_chances hp
  obtain ⟨hC, hp2, hs2⟩ := hs _ I1 J1 hp
  obtain ⟨e9, e8⟩ := hC
  refine ⟨rfl, by rw [e8]; exact h1, ?_⟩
  refine ⟨rfl, rfl, by rw [e9]; exact hp2, fun r2 I2 J2 hq => ?_⟩
  rw [e9] at hq
  obtain ⟨rfl, -, hC2, hL⟩ := hs2 _ I2 J2 hq
  exact ⟨fun _ => hN I2 J2 (SC_trans ⟨e9, e8⟩ hC2) hL, fun z => absurd rfl z⟩
set_option maxRecDepth 20000 in
theorem W_undo {k : Nat} {I : mv_I} {J : mv_J} (X : WL k I J) (hN : WN k I) : LV 437 (L0 k) [] I J := by
  obtain ⟨hk, h, h0, h1, h2, h3, h4, h5⟩ := X
  refine mv_run_V (stop := [1111]) 90 _ _ _ _ _ ?_
  obtain ⟨hp1, hs⟩ := S_undo  k I J hk h
  refine ⟨rfl, rfl, hp1, fun r I1 J1 hp => ?_⟩
  obtain ⟨x, rfl⟩ := Q_undo hp
  obtain ⟨hC, hp2, hs2⟩ := hs _ I1 J1 hp
  obtain ⟨e9, e8⟩ := hC
  refine ⟨rfl, rfl, hp2, fun r2 I2 J2 hq => ?_⟩
  obtain ⟨rfl, -, hC2, hL⟩ := hs2 _ I2 J2 hq
  exact ⟨fun _ => hN I2 J2 (SC_trans ⟨e9, e8⟩ hC2) hL, fun z => absurd rfl z⟩
set_option maxRecDepth 20000 in
theorem W_ahead {k : Nat} {I : mv_I} {J : mv_J} (X : WL k I J) (hN : WN k I) : LV 450 (L0 k) [] I J := by
  obtain ⟨hk, h, h0, h1, h2, h3, h4, h5⟩ := X
  refine mv_run_V (stop := [1111]) 90 _ _ _ _ _ ?_
  refine ⟨rfl, h1, ?_⟩
  refine ⟨rfl, h2, ?_⟩
  refine ⟨rfl, h3, ?_⟩
  refine ⟨rfl, h4, ?_⟩
  obtain ⟨hp1, hs⟩ := S_ahead (I 999 (nI (6 * k) + 1).toNatClampNeg) (I 999 (nI (6 * k) + 2).toNatClampNeg) (I 999 (nI (6 * k) + 3).toNatClampNeg) (I 999 (nI (6 * k) + 4).toNatClampNeg) k I J hk h
  refine ⟨rfl, rfl, hp1, fun r I1 J1 hp => ?_⟩
  obtain ⟨x, rfl⟩ := Q_ahead hp
  obtain ⟨hC, hp2, hs2⟩ := hs _ I1 J1 hp
  obtain ⟨e9, e8⟩ := hC
  refine ⟨rfl, by rw [e8]; exact h1, ?_⟩
  refine ⟨rfl, by rw [e8]; exact h2, ?_⟩
  refine ⟨rfl, by rw [e8]; exact h3, ?_⟩
  refine ⟨rfl, by rw [e8]; exact h4, ?_⟩
  refine ⟨rfl, rfl, by rw [e9]; exact hp2, fun r2 I2 J2 hq => ?_⟩
  rw [e9] at hq
  obtain ⟨rfl, -, hC2, hL⟩ := hs2 _ I2 J2 hq
  exact ⟨fun _ => hN I2 J2 (SC_trans ⟨e9, e8⟩ hC2) hL, fun z => absurd rfl z⟩
set_option maxRecDepth 20000 in
theorem W_rings {k : Nat} {I : mv_I} {J : mv_J} (X : WL k I J) (hN : WN k I) : LV 503 (L0 k) [] I J := by
  obtain ⟨hk, h, h0, h1, h2, h3, h4, h5⟩ := X
  refine mv_run_V (stop := [1111]) 90 _ _ _ _ _ ?_
  refine ⟨rfl, h1, ?_⟩
  refine ⟨rfl, h2, ?_⟩
  obtain ⟨hp1, hs⟩ := S_rings (I 999 (nI (6 * k) + 1).toNatClampNeg) (I 999 (nI (6 * k) + 2).toNatClampNeg) k I J hk h
  refine ⟨rfl, rfl, hp1, fun r I1 J1 hp => ?_⟩
  obtain ⟨x, rfl⟩ := Q_rings hp
  obtain ⟨hC, hp2, hs2⟩ := hs _ I1 J1 hp
  obtain ⟨e9, e8⟩ := hC
  refine ⟨rfl, by rw [e8]; exact h1, ?_⟩
  refine ⟨rfl, by rw [e8]; exact h2, ?_⟩
  refine ⟨rfl, rfl, by rw [e9]; exact hp2, fun r2 I2 J2 hq => ?_⟩
  rw [e9] at hq
  obtain ⟨rfl, -, hC2, hL⟩ := hs2 _ I2 J2 hq
  exact ⟨fun _ => hN I2 J2 (SC_trans ⟨e9, e8⟩ hC2) hL, fun z => absurd rfl z⟩
set_option maxRecDepth 20000 in
theorem W_least {k : Nat} {I : mv_I} {J : mv_J} (X : WL k I J) (hN : WN k I) : LV 536 (L0 k) [] I J := by
  obtain ⟨hk, h, h0, h1, h2, h3, h4, h5⟩ := X
  refine mv_run_V (stop := [1111]) 90 _ _ _ _ _ ?_
  refine ⟨rfl, h1, ?_⟩
  refine ⟨rfl, h2, ?_⟩
  obtain ⟨hp1, hs⟩ := S_least (I 999 (nI (6 * k) + 1).toNatClampNeg) (I 999 (nI (6 * k) + 2).toNatClampNeg) k I J hk h
  refine ⟨rfl, rfl, hp1, fun r I1 J1 hp => ?_⟩
  obtain ⟨x, rfl⟩ := Q_least hp
  obtain ⟨hC, hp2, hs2⟩ := hs _ I1 J1 hp
  obtain ⟨e9, e8⟩ := hC
  refine ⟨rfl, by rw [e8]; exact h1, ?_⟩
  refine ⟨rfl, by rw [e8]; exact h2, ?_⟩
  refine ⟨rfl, rfl, by rw [e9]; exact hp2, fun r2 I2 J2 hq => ?_⟩
  rw [e9] at hq
  obtain ⟨rfl, -, hC2, hL⟩ := hs2 _ I2 J2 hq
  exact ⟨fun _ => hN I2 J2 (SC_trans ⟨e9, e8⟩ hC2) hL, fun z => absurd rfl z⟩
set_option maxRecDepth 20000 in
theorem W_would {k : Nat} {I : mv_I} {J : mv_J} (X : WL k I J) (hN : WN k I) : LV 619 (L0 k) [] I J := by
  obtain ⟨hk, h, h0, h1, h2, h3, h4, h5⟩ := X
  refine mv_run_V (stop := [1111]) 90 _ _ _ _ _ ?_
  refine ⟨rfl, h1, ?_⟩
  refine ⟨rfl, h2, ?_⟩
  refine ⟨rfl, h3, ?_⟩
  obtain ⟨hp1, hs⟩ := S_would (I 999 (nI (6 * k) + 1).toNatClampNeg) (I 999 (nI (6 * k) + 2).toNatClampNeg) (I 999 (nI (6 * k) + 3).toNatClampNeg) k I J hk h
  refine ⟨rfl, rfl, hp1, fun r I1 J1 hp => ?_⟩
  obtain ⟨x, rfl⟩ := Q_would hp
  obtain ⟨hC, hp2, hs2⟩ := hs _ I1 J1 hp
  obtain ⟨e9, e8⟩ := hC
  refine ⟨rfl, by rw [e8]; exact h1, ?_⟩
  refine ⟨rfl, by rw [e8]; exact h2, ?_⟩
  refine ⟨rfl, by rw [e8]; exact h3, ?_⟩
  refine ⟨rfl, rfl, by rw [e9]; exact hp2, fun r2 I2 J2 hq => ?_⟩
  rw [e9] at hq
  obtain ⟨rfl, -, hC2, hL⟩ := hs2 _ I2 J2 hq
  exact ⟨fun _ => hN I2 J2 (SC_trans ⟨e9, e8⟩ hC2) hL, fun z => absurd rfl z⟩
set_option maxRecDepth 20000 in
theorem W_ranked {k : Nat} {I : mv_I} {J : mv_J} (X : WL k I J) (hN : WN k I) : LV 662 (L0 k) [] I J := by
  obtain ⟨hk, h, h0, h1, h2, h3, h4, h5⟩ := X
  refine mv_run_V (stop := [1111]) 90 _ _ _ _ _ ?_
  refine ⟨rfl, h1, ?_⟩
  obtain ⟨hp1, hs⟩ := S_ranked (I 999 (nI (6 * k) + 1).toNatClampNeg) k I J hk h
  refine ⟨rfl, rfl, hp1, fun r I1 J1 hp => ?_⟩
  obtain ⟨x, rfl⟩ := Q_ranked hp
  obtain ⟨hC, hp2, hs2⟩ := hs _ I1 J1 hp
  obtain ⟨e9, e8⟩ := hC
  refine ⟨rfl, by rw [e8]; exact h1, ?_⟩
  refine ⟨rfl, rfl, by rw [e9]; exact hp2, fun r2 I2 J2 hq => ?_⟩
  rw [e9] at hq
  obtain ⟨rfl, -, hC2, hL⟩ := hs2 _ I2 J2 hq
  exact ⟨fun _ => hN I2 J2 (SC_trans ⟨e9, e8⟩ hC2) hL, fun z => absurd rfl z⟩
set_option maxRecDepth 20000 in
theorem W_judge {k : Nat} {I : mv_I} {J : mv_J} (X : WL k I J) (hN : WN k I) : LV 685 (L0 k) [] I J := by
  obtain ⟨hk, h, h0, h1, h2, h3, h4, h5⟩ := X
  refine mv_run_V (stop := [1111]) 90 _ _ _ _ _ ?_
  refine ⟨rfl, h1, ?_⟩
  refine ⟨rfl, h2, ?_⟩
  refine ⟨rfl, h3, ?_⟩
  obtain ⟨hp1, hs⟩ := S_judge (I 999 (nI (6 * k) + 1).toNatClampNeg) (((I 999 (nI (6 * k) + 2).toNatClampNeg).toInt64 <<< ((32 : Int32).toInt64 &&& 63)) ||| ((I 999 (nI (6 * k) + 3).toNatClampNeg).toInt64 &&& 4294967295)) k I J hk h
  refine ⟨rfl, rfl, hp1, fun r I1 J1 hp => ?_⟩
  obtain ⟨x, rfl⟩ := Q_judge hp
  obtain ⟨hC, hp2, hs2⟩ := hs _ I1 J1 hp
  obtain ⟨e9, e8⟩ := hC
  refine ⟨rfl, by rw [e8]; exact h1, ?_⟩
  refine ⟨rfl, by rw [e8]; exact h2, ?_⟩
  refine ⟨rfl, by rw [e8]; exact h3, ?_⟩
  refine ⟨rfl, rfl, by rw [e9]; exact hp2, fun r2 I2 J2 hq => ?_⟩
  rw [e9] at hq
  obtain ⟨rfl, -, hC2, hL⟩ := hs2 _ I2 J2 hq
  exact ⟨fun _ => hN I2 J2 (SC_trans ⟨e9, e8⟩ hC2) hL, fun z => absurd rfl z⟩
set_option maxRecDepth 20000 in
theorem W_see {k : Nat} {I : mv_I} {J : mv_J} (X : WL k I J) (hN : WN k I) : LV 748 (L0 k) [] I J := by
  obtain ⟨hk, h, h0, h1, h2, h3, h4, h5⟩ := X
  refine mv_run_V (stop := [1111]) 90 _ _ _ _ _ ?_
  refine ⟨rfl, h1, ?_⟩
  refine ⟨rfl, h2, ?_⟩
  refine ⟨rfl, h3, ?_⟩
  refine ⟨rfl, h4, ?_⟩
  obtain ⟨hp1, hs⟩ := S_see (I 999 (nI (6 * k) + 1).toNatClampNeg) (I 999 (nI (6 * k) + 2).toNatClampNeg) (I 999 (nI (6 * k) + 3).toNatClampNeg) (I 999 (nI (6 * k) + 4).toNatClampNeg) k I J hk h
  refine ⟨rfl, rfl, hp1, fun r I1 J1 hp => ?_⟩
  obtain ⟨x, rfl⟩ := Q_see hp
  obtain ⟨hC, hp2, hs2⟩ := hs _ I1 J1 hp
  obtain ⟨e9, e8⟩ := hC
  refine ⟨rfl, by rw [e8]; exact h1, ?_⟩
  refine ⟨rfl, by rw [e8]; exact h2, ?_⟩
  refine ⟨rfl, by rw [e8]; exact h3, ?_⟩
  refine ⟨rfl, by rw [e8]; exact h4, ?_⟩
  refine ⟨rfl, rfl, by rw [e9]; exact hp2, fun r2 I2 J2 hq => ?_⟩
  rw [e9] at hq
  obtain ⟨rfl, -, hC2, hL⟩ := hs2 _ I2 J2 hq
  exact ⟨fun _ => hN I2 J2 (SC_trans ⟨e9, e8⟩ hC2) hL, fun z => absurd rfl z⟩
set_option maxRecDepth 20000 in
theorem W_unsee {k : Nat} {I : mv_I} {J : mv_J} (X : WL k I J) (hN : WN k I) : LV 801 (L0 k) [] I J := by
  obtain ⟨hk, h, h0, h1, h2, h3, h4, h5⟩ := X
  refine mv_run_V (stop := [1111]) 90 _ _ _ _ _ ?_
  obtain ⟨hp1, hs⟩ := S_unsee  k I J hk h
  refine ⟨rfl, rfl, hp1, fun r I1 J1 hp => ?_⟩
  obtain ⟨x, rfl⟩ := Q_unsee hp
  obtain ⟨hC, hp2, hs2⟩ := hs _ I1 J1 hp
  obtain ⟨e9, e8⟩ := hC
  refine ⟨rfl, rfl, hp2, fun r2 I2 J2 hq => ?_⟩
  obtain ⟨rfl, -, hC2, hL⟩ := hs2 _ I2 J2 hq
  exact ⟨fun _ => hN I2 J2 (SC_trans ⟨e9, e8⟩ hC2) hL, fun z => absurd rfl z⟩
set_option maxRecDepth 20000 in
theorem W_which {k : Nat} {I : mv_I} {J : mv_J} (X : WL k I J) (hN : WN k I) : LV 814 (L0 k) [] I J := by
  obtain ⟨hk, h, h0, h1, h2, h3, h4, h5⟩ := X
  refine mv_run_V (stop := [1111]) 90 _ _ _ _ _ ?_
  obtain ⟨hp1, hs⟩ := S_which  k I J hk h
  refine ⟨rfl, rfl, hp1, fun r I1 J1 hp => ?_⟩
  obtain ⟨x, rfl⟩ := Q_which hp
  obtain ⟨hC, hp2, hs2⟩ := hs _ I1 J1 hp
  obtain ⟨e9, e8⟩ := hC
  refine ⟨rfl, rfl, hp2, fun r2 I2 J2 hq => ?_⟩
  obtain ⟨rfl, -, hC2, hL⟩ := hs2 _ I2 J2 hq
  exact ⟨fun _ => hN I2 J2 (SC_trans ⟨e9, e8⟩ hC2) hL, fun z => absurd rfl z⟩
set_option maxRecDepth 20000 in
theorem W_seed {k : Nat} {I : mv_I} {J : mv_J} (X : WL k I J) (hN : WN k I) : LV 965 (L0 k) [] I J := by
  obtain ⟨hk, h, h0, h1, h2, h3, h4, h5⟩ := X
  refine mv_run_V (stop := [1111]) 90 _ _ _ _ _ ?_
  refine ⟨rfl, h1, ?_⟩
  refine ⟨rfl, h2, ?_⟩
  obtain ⟨hp1, hs⟩ := S_seed (((I 999 (nI (6 * k) + 1).toNatClampNeg).toInt64 <<< ((32 : Int32).toInt64 &&& 63)) ||| ((I 999 (nI (6 * k) + 2).toNatClampNeg).toInt64 &&& 4294967295)) k I J hk h
  refine ⟨rfl, rfl, hp1, fun r I1 J1 hp => ?_⟩
  obtain ⟨x, rfl⟩ := Q_seed hp
  obtain ⟨hC, hp2, hs2⟩ := hs _ I1 J1 hp
  obtain ⟨e9, e8⟩ := hC
  refine ⟨rfl, by rw [e8]; exact h1, ?_⟩
  refine ⟨rfl, by rw [e8]; exact h2, ?_⟩
  refine ⟨rfl, rfl, by rw [e9]; exact hp2, fun r2 I2 J2 hq => ?_⟩
  rw [e9] at hq
  obtain ⟨rfl, -, hC2, hL⟩ := hs2 _ I2 J2 hq
  refine ⟨fun _ => hN I2 J2 (SC_trans ⟨e9, e8⟩ hC2) hL, fun z => absurd ((lg_cmp_eq _ _).mpr rfl) z⟩
set_option maxRecDepth 20000 in
theorem W_drawn {k : Nat} {I : mv_I} {J : mv_J} (X : WL k I J) (hN : WN k I) : LV 1019 (L0 k) [] I J := by
  obtain ⟨hk, h, h0, h1, h2, h3, h4, h5⟩ := X
  refine mv_run_V (stop := [1111]) 90 _ _ _ _ _ ?_
  refine ⟨rfl, h1, ?_⟩
  obtain ⟨hp1, hs⟩ := S_drawn (I 999 (nI (6 * k) + 1).toNatClampNeg) k I J hk h
  refine ⟨rfl, rfl, hp1, fun r I1 J1 hp => ?_⟩
  obtain ⟨x, rfl⟩ := Q_drawn hp
  obtain ⟨hC, hp2, hs2⟩ := hs _ I1 J1 hp
  obtain ⟨e9, e8⟩ := hC
  refine ⟨rfl, by rw [e8]; exact h1, ?_⟩
  refine ⟨rfl, rfl, by rw [e9]; exact hp2, fun r2 I2 J2 hq => ?_⟩
  rw [e9] at hq
  obtain ⟨rfl, -, hC2, hL⟩ := hs2 _ I2 J2 hq
  exact ⟨fun _ => hN I2 J2 (SC_trans ⟨e9, e8⟩ hC2) hL, fun z => absurd rfl z⟩
set_option maxRecDepth 20000 in
theorem W_keep {k : Nat} {I : mv_I} {J : mv_J} (X : WL k I J) (hN : WN k I) : LV 1042 (L0 k) [] I J := by
  obtain ⟨hk, h, h0, h1, h2, h3, h4, h5⟩ := X
  refine mv_run_V (stop := [1111]) 90 _ _ _ _ _ ?_
  refine ⟨rfl, h1, ?_⟩
  obtain ⟨hp1, hs⟩ := S_keep (I 999 (nI (6 * k) + 1).toNatClampNeg) k I J hk h
  refine ⟨rfl, rfl, hp1, fun r I1 J1 hp => ?_⟩
  obtain ⟨x, rfl⟩ := Q_keep hp
  obtain ⟨hC, hp2, hs2⟩ := hs _ I1 J1 hp
  obtain ⟨e9, e8⟩ := hC
  refine ⟨rfl, by rw [e8]; exact h1, ?_⟩
  refine ⟨rfl, rfl, by rw [e9]; exact hp2, fun r2 I2 J2 hq => ?_⟩
  rw [e9] at hq
  obtain ⟨rfl, -, hC2, hL⟩ := hs2 _ I2 J2 hq
  exact ⟨fun _ => hN I2 J2 (SC_trans ⟨e9, e8⟩ hC2) hL, fun z => absurd rfl z⟩
set_option maxRecDepth 20000 in
theorem W_again {k : Nat} {I : mv_I} {J : mv_J} (X : WL k I J) (hN : WN k I) : LV 1065 (L0 k) [] I J := by
  obtain ⟨hk, h, h0, h1, h2, h3, h4, h5⟩ := X
  refine mv_run_V (stop := [1111]) 90 _ _ _ _ _ ?_
  refine ⟨rfl, h1, ?_⟩
  obtain ⟨hp1, hs⟩ := S_again (I 999 (nI (6 * k) + 1).toNatClampNeg) k I J hk h
  refine ⟨rfl, rfl, hp1, fun r I1 J1 hp => ?_⟩
  obtain ⟨x, rfl⟩ := Q_again hp
  obtain ⟨hC, hp2, hs2⟩ := hs _ I1 J1 hp
  obtain ⟨e9, e8⟩ := hC
  refine ⟨rfl, by rw [e8]; exact h1, ?_⟩
  refine ⟨rfl, rfl, by rw [e9]; exact hp2, fun r2 I2 J2 hq => ?_⟩
  rw [e9] at hq
  obtain ⟨rfl, -, hC2, hL⟩ := hs2 _ I2 J2 hq
  exact ⟨fun _ => hN I2 J2 (SC_trans ⟨e9, e8⟩ hC2) hL, fun z => absurd rfl z⟩
set_option maxRecDepth 20000 in
theorem W_count {k : Nat} {I : mv_I} {J : mv_J} (X : WL k I J) (hN : WN k I) : LV 1088 (L0 k) [] I J := by
  obtain ⟨hk, h, h0, h1, h2, h3, h4, h5⟩ := X
  refine mv_run_V (stop := [1111]) 90 _ _ _ _ _ ?_
  refine ⟨rfl, h1, ?_⟩
  obtain ⟨hp1, hs⟩ := S_count (I 999 (nI (6 * k) + 1).toNatClampNeg) k I J hk h
  refine ⟨rfl, rfl, hp1, fun r I1 J1 hp => ?_⟩
  obtain ⟨x, rfl⟩ := Q_count hp
  obtain ⟨hC, hp2, hs2⟩ := hs _ I1 J1 hp
  obtain ⟨e9, e8⟩ := hC
  refine ⟨rfl, by rw [e8]; exact h1, ?_⟩
  refine ⟨rfl, rfl, by rw [e9]; exact hp2, fun r2 I2 J2 hq => ?_⟩
  rw [e9] at hq
  obtain ⟨rfl, -, hC2, hL⟩ := hs2 _ I2 J2 hq
  exact ⟨fun _ => hN I2 J2 (SC_trans ⟨e9, e8⟩ hC2) hL, fun z => absurd rfl z⟩
set_option maxRecDepth 20000 in
theorem W_lengthW {k : Nat} {I : mv_I} {J : mv_J} (X : WL k I J) (hN : WN k I) : LV 569 (L0 k) [] I J := by
  obtain ⟨hk, h, h0, h1, h2, h3, h4, h5⟩ := X
  refine mv_run_V (stop := [1111]) 120 _ _ _ _ _ ?_
  refine ⟨rfl, h1, ?_⟩
  refine ⟨rfl, h2, ?_⟩
  refine ⟨fun hz => ?_, fun hz => ?_⟩
  · obtain ⟨hp1, hs⟩ := S_length (I 999 (nI (6 * k) + 1).toNatClampNeg) 0 k I J hk h
    refine ⟨rfl, rfl, hp1, fun r I1 J1 hp => ?_⟩
    obtain ⟨x, rfl⟩ := Q_lengthW hp
    obtain ⟨hC, hp2, hs2⟩ := hs _ I1 J1 hp
    obtain ⟨e9, e8⟩ := hC
    refine ⟨rfl, by rw [e8]; exact h1, ?_⟩
    refine ⟨rfl, by rw [e8]; exact h2, ?_⟩
    refine ⟨fun hy => ?_, fun hy => ?_⟩
    · refine ⟨rfl, rfl, by rw [e9]; exact hp2, fun r2 I2 J2 hq => ?_⟩
      rw [e9] at hq
      obtain ⟨rfl, -, hC2, hL⟩ := hs2 _ I2 J2 hq
      exact ⟨fun _ => hN I2 J2 (SC_trans ⟨e9, e8⟩ hC2) hL, fun z => absurd ((lg_cmp_eq _ _).mpr rfl) z⟩
    · rw [e9] at hy
      exact absurd hz hy
  · obtain ⟨hp1, hs⟩ := S_length (I 999 (nI (6 * k) + 1).toNatClampNeg) 1 k I J hk h
    refine ⟨rfl, rfl, hp1, fun r I1 J1 hp => ?_⟩
    obtain ⟨x, rfl⟩ := Q_lengthW hp
    obtain ⟨hC, hp2, hs2⟩ := hs _ I1 J1 hp
    obtain ⟨e9, e8⟩ := hC
    refine ⟨rfl, by rw [e8]; exact h1, ?_⟩
    refine ⟨rfl, by rw [e8]; exact h2, ?_⟩
    refine ⟨fun hy => ?_, fun hy => ?_⟩
    · rw [e9] at hy
      exact absurd hy hz
    · refine ⟨rfl, rfl, by rw [e9]; exact hp2, fun r2 I2 J2 hq => ?_⟩
      rw [e9] at hq
      obtain ⟨rfl, -, hC2, hL⟩ := hs2 _ I2 J2 hq
      exact ⟨fun _ => hN I2 J2 (SC_trans ⟨e9, e8⟩ hC2) hL, fun z => absurd ((lg_cmp_eq _ _).mpr rfl) z⟩
set_option maxRecDepth 20000 in
theorem W_share {k : Nat} {I : mv_I} {J : mv_J} (X : WL k I J) (hN : WN k I) : LV 827 (L0 k) [] I J := by
  obtain ⟨hk, h, h0, h1, h2, h3, h4, h5⟩ := X
  refine mv_run_V (stop := [1111]) 120 _ _ _ _ _ ?_
  refine ⟨rfl, h1, ?_⟩
  refine ⟨rfl, h2, ?_⟩
  refine ⟨rfl, h3, ?_⟩
  refine ⟨fun hz => ?_, fun hz => ?_⟩
  · obtain ⟨hp1, hs⟩ := S_share (I 999 (nI (6 * k) + 1).toNatClampNeg) (I 999 (nI (6 * k) + 2).toNatClampNeg) 0 k I J hk h
    refine ⟨rfl, rfl, hp1, fun r I1 J1 hp => ?_⟩
    obtain ⟨x, rfl⟩ := Q_share hp
    obtain ⟨hC, hp2, hs2⟩ := hs _ I1 J1 hp
    obtain ⟨e9, e8⟩ := hC
    refine ⟨rfl, by rw [e8]; exact h1, ?_⟩
    refine ⟨rfl, by rw [e8]; exact h2, ?_⟩
    refine ⟨rfl, by rw [e8]; exact h3, ?_⟩
    refine ⟨fun hy => ?_, fun hy => ?_⟩
    · refine ⟨rfl, rfl, by rw [e9]; exact hp2, fun r2 I2 J2 hq => ?_⟩
      rw [e9] at hq
      obtain ⟨rfl, -, hC2, hL⟩ := hs2 _ I2 J2 hq
      exact ⟨fun _ => hN I2 J2 (SC_trans ⟨e9, e8⟩ hC2) hL, fun z => absurd rfl z⟩
    · rw [e9] at hy
      exact absurd hz hy
  · obtain ⟨hp1, hs⟩ := S_share (I 999 (nI (6 * k) + 1).toNatClampNeg) (I 999 (nI (6 * k) + 2).toNatClampNeg) 1 k I J hk h
    refine ⟨rfl, rfl, hp1, fun r I1 J1 hp => ?_⟩
    obtain ⟨x, rfl⟩ := Q_share hp
    obtain ⟨hC, hp2, hs2⟩ := hs _ I1 J1 hp
    obtain ⟨e9, e8⟩ := hC
    refine ⟨rfl, by rw [e8]; exact h1, ?_⟩
    refine ⟨rfl, by rw [e8]; exact h2, ?_⟩
    refine ⟨rfl, by rw [e8]; exact h3, ?_⟩
    refine ⟨fun hy => ?_, fun hy => ?_⟩
    · rw [e9] at hy
      exact absurd hy hz
    · refine ⟨rfl, rfl, by rw [e9]; exact hp2, fun r2 I2 J2 hq => ?_⟩
      rw [e9] at hq
      obtain ⟨rfl, -, hC2, hL⟩ := hs2 _ I2 J2 hq
      exact ⟨fun _ => hN I2 J2 (SC_trans ⟨e9, e8⟩ hC2) hL, fun z => absurd rfl z⟩
set_option maxRecDepth 20000 in
theorem W_lost {k : Nat} {I : mv_I} {J : mv_J} (X : WL k I J) (hN : WN k I) : LV 886 (L0 k) [] I J := by
  obtain ⟨hk, h, h0, h1, h2, h3, h4, h5⟩ := X
  refine mv_run_V (stop := [1111]) 120 _ _ _ _ _ ?_
  refine ⟨rfl, h1, ?_⟩
  refine ⟨rfl, h2, ?_⟩
  refine ⟨rfl, h3, ?_⟩
  refine ⟨rfl, h4, ?_⟩
  refine ⟨rfl, h5, ?_⟩
  refine ⟨fun hz => ?_, fun hz => ?_⟩
  · obtain ⟨hp1, hs⟩ := S_lost (I 999 (nI (6 * k) + 1).toNatClampNeg) (I 999 (nI (6 * k) + 2).toNatClampNeg) (I 999 (nI (6 * k) + 3).toNatClampNeg) (I 999 (nI (6 * k) + 4).toNatClampNeg) 0 k I J hk h
    refine ⟨rfl, rfl, hp1, fun r I1 J1 hp => ?_⟩
    obtain ⟨x, rfl⟩ := Q_lost hp
    obtain ⟨hC, hp2, hs2⟩ := hs _ I1 J1 hp
    obtain ⟨e9, e8⟩ := hC
    refine ⟨rfl, by rw [e8]; exact h1, ?_⟩
    refine ⟨rfl, by rw [e8]; exact h2, ?_⟩
    refine ⟨rfl, by rw [e8]; exact h3, ?_⟩
    refine ⟨rfl, by rw [e8]; exact h4, ?_⟩
    refine ⟨rfl, by rw [e8]; exact h5, ?_⟩
    refine ⟨fun hy => ?_, fun hy => ?_⟩
    · refine ⟨rfl, rfl, by rw [e9]; exact hp2, fun r2 I2 J2 hq => ?_⟩
      rw [e9] at hq
      obtain ⟨rfl, -, hC2, hL⟩ := hs2 _ I2 J2 hq
      exact ⟨fun _ => hN I2 J2 (SC_trans ⟨e9, e8⟩ hC2) hL, fun z => absurd rfl z⟩
    · rw [e9] at hy
      exact absurd hz hy
  · obtain ⟨hp1, hs⟩ := S_lost (I 999 (nI (6 * k) + 1).toNatClampNeg) (I 999 (nI (6 * k) + 2).toNatClampNeg) (I 999 (nI (6 * k) + 3).toNatClampNeg) (I 999 (nI (6 * k) + 4).toNatClampNeg) 1 k I J hk h
    refine ⟨rfl, rfl, hp1, fun r I1 J1 hp => ?_⟩
    obtain ⟨x, rfl⟩ := Q_lost hp
    obtain ⟨hC, hp2, hs2⟩ := hs _ I1 J1 hp
    obtain ⟨e9, e8⟩ := hC
    refine ⟨rfl, by rw [e8]; exact h1, ?_⟩
    refine ⟨rfl, by rw [e8]; exact h2, ?_⟩
    refine ⟨rfl, by rw [e8]; exact h3, ?_⟩
    refine ⟨rfl, by rw [e8]; exact h4, ?_⟩
    refine ⟨rfl, by rw [e8]; exact h5, ?_⟩
    refine ⟨fun hy => ?_, fun hy => ?_⟩
    · rw [e9] at hy
      exact absurd hy hz
    · refine ⟨rfl, rfl, by rw [e9]; exact hp2, fun r2 I2 J2 hq => ?_⟩
      rw [e9] at hq
      obtain ⟨rfl, -, hC2, hL⟩ := hs2 _ I2 J2 hq
      exact ⟨fun _ => hN I2 J2 (SC_trans ⟨e9, e8⟩ hC2) hL, fun z => absurd rfl z⟩
