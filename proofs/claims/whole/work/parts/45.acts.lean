/-! The reference: the public methods on the text, the series and acts. -/
def th (I : mv_I) : mv_I := mv_si I 30 0 0
theorem th_ne {I : mv_I} {a : Nat} (h : a ≠ 30) : th I a = I a := by
  funext b
  show mv_si I 30 0 0 a b = I a b
  rw [mv_si_ap, if_neg (fun z => h z.1)]
theorem th_30 {I : mv_I} {b : Nat} (h : b ≠ 0) : th I 30 b = I 30 b := by
  show mv_si I 30 0 0 30 b = I 30 b
  rw [mv_si_ap, if_neg (fun z => h z.2)]
theorem MB_of {N r a s : Nat} {I I' : mv_I} (h1 : I' r = I r) (h2 : I' 34 = I 34) (h : MB N I r a s) : MB N I' r a s := by
  unfold MB at *
  rw [h1, h2]
  exact h
theorem MB_mono {N N' r a s : Nat} {I : mv_I} (hN : N ≤ N') (h : MB N I r a s) : MB N' I r a s := by
  obtain ⟨⟨d, hd, e⟩, h2, h3⟩ := h
  exact ⟨⟨d, by omega, e⟩, h2, h3⟩
/-- what the reference's methods need of its cells -/
def MH (N : Nat) (I : mv_I) : Prop := (∃ m : Nat, m ≤ 5 ∧ I 30 4 = nI m ∧ ∀ s, s < m → MB N I 39 (24 * s) s) ∧ (∃ t : Nat, t ≤ 80 ∧ I 30 2 = nI t) ∧ (∃ d : Nat, d ≤ 14 ∧ I 30 16 = nI d) ∧ ∃ q : Nat, q ≤ 6 ∧ I 30 19 = nI q ∧ ∀ i, i < q → ∃ n : Nat, n ≤ 9 ∧ I 45 i = nI n
theorem MH_th {N : Nat} {I : mv_I} (h : MH N I) : MH N (th I) := by
  obtain ⟨⟨m, hm, e, hb⟩, h2, h3, q, hq, eq, hs⟩ := h
  refine ⟨⟨m, hm, (th_30 (by decide)).trans e, fun s hs => MB_of (th_ne (by decide)) (th_ne (by decide)) (hb s hs)⟩, ?_, ?_, q, hq, (th_30 (by decide)).trans eq, fun i hi => ?_⟩
  · rw [th_30 (by decide)]
    exact h2
  · rw [th_30 (by decide)]
    exact h3
  · rw [th_ne (by decide)]
    exact hs i hi
abbrev msv (I : mv_I) (s : Int32) : Prop := 0 ≤ s ∧ s ≤ I 30 4 - 1
theorem MH_in {N : Nat} {I : mv_I} {s : Int32} (h : MH N I) (hs : msv I s) : ∃ j : Nat, j < 5 ∧ s = nI j ∧ s.toNatClampNeg = j ∧ MB N I 39 (24 * j) j := by
  obtain ⟨⟨m, hm, e, hb⟩, -⟩ := h
  obtain ⟨j, hj, rfl⟩ := mv_upto (m := m) (by omega) hs.1 (by rw [← e]; exact hs.2)
  exact ⟨j, by omega, rfl, nI_clamp (by omega), hb j hj⟩
theorem mnt_ne {I : mv_I} {a : Nat} (h1 : a ≠ 30) (h2 : a ≠ 41) : mnt I a = I a := by
  unfold mnt
  rw [mv_si_ne h1, mv_sr_ne h2, mv_si_ne h1]
theorem MB_mnt {N r a s : Nat} {I : mv_I} (hr : r = 39 ∨ r = 40) (h : MB N I r a s) : MB N (mnt I) r a s := MB_of (mnt_ne (by omega) (by omega)) (mnt_ne (by decide) (by decide)) h
def sp_mWrite : mv_SP := (fun as I _ => MH 9000 I ∧ ∃ x : Int32, as = [.ref 30, .int x],
  fun as I J r I' J' => J = J' ∧ ∀ x : Int32, as = [.ref 30, .int x] → if 0 ≤ x ∧ x ≤ 255 then (if th I 30 2 = 80 then r = some (.int (-4)) ∧ I' = th I else r = some (.int (th I 30 2 + 1)) ∧ I' = mv_si (mv_si (th I) 31 (th I 30 2).toNatClampNeg x) 30 2 (th I 30 2 + 1)) else r = some (.int (-2)) ∧ I' = th I)
theorem cb_mWrite : mv_body 148 mv_t_X7_write (mv_cs [(109, sp_in)]) sp_mWrite := by
  intro as I J h
  obtain ⟨hM, x, rfl⟩ := h
  have hM := MH_th hM
  obtain ⟨-, ⟨t, ht, htt⟩, -⟩ := hM
  have key : mv_V mv_ow mv_swf mv_t_X7_write (mv_cs [(109, sp_in)]) (sp_mWrite.2 [.ref 30, .int x] I J) 5 [(0, .ref 30), (1, .int x)] [] (th I) J := by
    refine mv_run_V (stop := []) 60 _ _ _ _ _ ?_
    refine ⟨rfl, ⟨_, _, _, rfl⟩, fun r1 I1 J1 hp => ?_⟩
    obtain ⟨rfl, rfl, hq⟩ := hp
    have hq : r1 = some (.int (mv_b ((0 : Int64) ≤ (x : Int32).toInt64 ∧ (x : Int32).toInt64 ≤ (255 : Int64)))) := hq
    rw [mv_bc (in_w (lo := 0) (hi := 255))] at hq
    subst hq
    refine ⟨fun h1 => ?_, fun h1 => ?_⟩
    · have h1 := b_yes h1
      refine ⟨rfl, fun h2 => ?_, fun h2 => ?_⟩
      · have h2n : t ≠ 80 := fun z => h2 (by rw [htt, z]; rfl)
        refine ⟨rfl, _, rfl, rfl, _, rfl, (by rw [htt]; exact vp_in_nI (by omega) (by decide)), rfl, rfl, rfl, rfl, rfl, fun x' e => ?_⟩
        cases e
        rw [if_pos h1, if_neg h2]
        exact ⟨rfl, rfl⟩
      · refine ⟨rfl, fun x' e => ?_⟩
        cases e
        rw [if_pos h1, if_pos h2]
        exact ⟨rfl, rfl⟩
    · have h1 := mv_b0.mp h1
      refine ⟨rfl, fun x' e => ?_⟩
      cases e
      rw [if_neg h1]
      exact ⟨rfl, rfl⟩
  refine ⟨rfl, mv_run_V (stop := [5]) 40 _ _ _ _ _ ?_⟩
  exact ⟨rfl, key⟩
theorem c_mWrite {l : Launch} {G : mv_G} {A : Nat → Prop} (hG : mv_adk G A) : mv_Con l G A 148 sp_mWrite := mv_con hG 148 mv_k_X7_write (by decide +kernel) (mv_cs_cons (c_in hG) (mv_cs_nil)) cb_mWrite
def sp_mWipe : mv_SP := (fun as _ _ => as = [.ref 30],
  fun _ I J r I' J' => J = J' ∧ r = some (.int (th I 30 2)) ∧ I' = mv_si (th I) 30 2 0)
theorem cb_mWipe : mv_body 146 mv_t_X7_wipe (mv_cs []) sp_mWipe := by
  intro as I J h
  have h : as = [.ref 30] := h
  subst h
  refine ⟨rfl, mv_run_V (stop := []) 40 _ _ _ _ _ ?_⟩
  exact ⟨rfl, rfl, rfl, rfl, rfl, rfl⟩
theorem c_mWipe {l : Launch} {G : mv_G} {A : Nat → Prop} (hG : mv_adk G A) : mv_Con l G A 146 sp_mWipe := mv_con hG 146 mv_k_X7_wipe (by decide +kernel) (mv_cs_nil) cb_mWipe
def sp_mSeries : mv_SP := (fun as I _ => MH 9000 I ∧ ∃ s w : Int32, as = [.ref 30, .int s, .int w],
  fun as I J r I' J' => J = J' ∧ I' = th I ∧ ∀ s w : Int32, as = [.ref 30, .int s, .int w] → r = some (.int (if msv (th I) s then (if 0 ≤ w ∧ w ≤ 13 then (if w = 0 then th I 32 s.toNatClampNeg else mtl (th I) 39 (24 * s.toNatClampNeg) s.toNatClampNeg w.toNatClampNeg) else -2) else -1)))
theorem cb_mSeries : mv_body 136 mv_t_X7_series (mv_cs [(123, sp_noSeries), (109, sp_in), (140, sp_tellOf)]) sp_mSeries := by
  intro as I J h
  obtain ⟨hM, s, w, rfl⟩ := h
  have hM := MH_th hM
  have key : mv_V mv_ow mv_swf mv_t_X7_series (mv_cs [(123, sp_noSeries), (109, sp_in), (140, sp_tellOf)]) (sp_mSeries.2 [.ref 30, .int s, .int w] I J) 5 [(0, .ref 30), (1, .int s), (2, .int w)] [] (th I) J := by
    refine mv_run_V (stop := []) 60 _ _ _ _ _ ?_
    refine ⟨rfl, rfl, ⟨_, rfl⟩, fun r1 I1 J1 hp => ?_⟩
    obtain ⟨rfl, rfl, hq⟩ := hp
    have hq : r1 = some (.int (mv_b (¬ msv (th I) s))) := hq
    subst hq
    refine ⟨fun h1 => ?_, fun h1 => ?_⟩
    · have h1 : msv (th I) s := Decidable.not_not.mp (mv_b0.mp h1)
      obtain ⟨j, hj, rfl, cj, hMB⟩ := MH_in hM h1
      refine ⟨rfl, ⟨_, _, _, rfl⟩, fun r1 I1 J1 hp => ?_⟩
      obtain ⟨rfl, rfl, hq⟩ := hp
      have hq : r1 = some (.int (mv_b ((0 : Int64) ≤ (w : Int32).toInt64 ∧ (w : Int32).toInt64 ≤ (13 : Int64)))) := hq
      rw [mv_bc (in_w (lo := 0) (hi := 13))] at hq
      subst hq
      refine ⟨fun h3 => ?_, fun h3 => ?_⟩
      · have h3 := b_yes h3
        refine ⟨fun h4 => ?_, fun h4 => ?_⟩
        · obtain ⟨k, hk, rfl⟩ := in_nat (M := 13) (by decide) h3
          have hk0 : k ≠ 0 := fun z => h4 (by rw [z]; rfl)
          refine ⟨rfl, _, rfl, rfl, rfl, ⟨39, j, k, Or.inl rfl, hj, by omega, hk, MB_mono (by decide) hMB, rfl⟩, fun r1 I1 J1 hp => ?_⟩
          obtain ⟨rfl, rfl, hq⟩ := hp
          have hq : r1 = some (.int (mtl (th I) 39 (24 * (nI j).toNatClampNeg) (nI j).toNatClampNeg (nI k).toNatClampNeg)) := hq
          subst hq
          refine ⟨rfl, rfl, fun s' w' e => ?_⟩
          cases e
          rw [if_pos h1, if_pos h3, if_neg h4]
        · refine ⟨rfl, _, rfl, _, rfl, vp_in_nI (by omega) (by decide), rfl, rfl, fun s' w' e => ?_⟩
          cases e
          rw [if_pos h1, if_pos h3, if_pos h4]
      · have h3 := mv_b0.mp h3
        refine ⟨rfl, rfl, fun s' w' e => ?_⟩
        cases e
        rw [if_pos h1, if_neg h3]
    · have h1 : ¬ msv (th I) s := b_yes h1
      refine ⟨rfl, rfl, fun s' w' e => ?_⟩
      cases e
      rw [if_neg h1]
  refine ⟨rfl, mv_run_V (stop := [5]) 40 _ _ _ _ _ ?_⟩
  exact ⟨rfl, key⟩
theorem c_mSeries {l : Launch} {G : mv_G} {A : Nat → Prop} (hG : mv_adk G A) : mv_Con l G A 136 sp_mSeries := mv_con hG 136 mv_k_X7_series (by decide +kernel) (mv_cs_cons (c_noSeries hG) (mv_cs_cons (c_in hG) (mv_cs_cons (c_tellOf hG) (mv_cs_nil)))) cb_mSeries
def sp_mPast : mv_SP := (fun as I _ => MH 9000 I ∧ ∃ s w : Int32, as = [.ref 30, .int s, .int w],
  fun as I J r I' J' => J = J' ∧ I' = th I ∧ ∀ s w : Int32, as = [.ref 30, .int s, .int w] → r = some (.int (if msv (th I) s then (if 0 ≤ w ∧ w ≤ th I 39 (24 * s.toNatClampNeg + 11) - 1 then th I 39 (24 * s.toNatClampNeg + 12 + w.toNatClampNeg) else -1) else -1)))
theorem cb_mPast : mv_body 127 mv_t_X7_past (mv_cs [(123, sp_noSeries), (109, sp_in)]) sp_mPast := by
  intro as I J h
  obtain ⟨hM, s, w, rfl⟩ := h
  have hM := MH_th hM
  have key : mv_V mv_ow mv_swf mv_t_X7_past (mv_cs [(123, sp_noSeries), (109, sp_in)]) (sp_mPast.2 [.ref 30, .int s, .int w] I J) 5 [(0, .ref 30), (1, .int s), (2, .int w)] [] (th I) J := by
    refine mv_run_V (stop := []) 60 _ _ _ _ _ ?_
    refine ⟨rfl, rfl, ⟨_, rfl⟩, fun r1 I1 J1 hp => ?_⟩
    obtain ⟨rfl, rfl, hq⟩ := hp
    have hq : r1 = some (.int (mv_b (¬ msv (th I) s))) := hq
    subst hq
    refine ⟨fun h1 => ?_, fun h1 => ?_⟩
    · have h1 : ¬ msv (th I) s := b_yes h1
      refine ⟨rfl, rfl, fun s' w' e => ?_⟩
      cases e
      rw [if_neg h1]
    · have h1 : msv (th I) s := Decidable.not_not.mp (mv_b0.mp h1)
      obtain ⟨j, hj, rfl, cj, hMB⟩ := MH_in hM h1
      obtain ⟨-, ⟨n, hn, hnn⟩, -⟩ := hMB
      have c11 : (nI 24 * nI j + 11).toNatClampNeg = 24 * j + 11 := by rw [e24]; exact ix (k := 11)
      refine ⟨rfl, _, rfl, _, rfl, (by show vp_in (nI 24 * nI j + nI 11) 121; rw [e24]; exact ixin (by omega)), ?_⟩
      refine ⟨rfl, ⟨_, _, _, rfl⟩, fun r1 I1 J1 hp => ?_⟩
      obtain ⟨rfl, rfl, hq⟩ := hp
      have hq : r1 = some (.int (mv_b ((0 : Int64) ≤ (w : Int32).toInt64 ∧ (w : Int32).toInt64 ≤ (th I 39 (nI 24 * nI j + 11).toNatClampNeg - 1 : Int32).toInt64))) := hq
      rw [mv_bc (in_w (lo := 0) (hi := th I 39 (nI 24 * nI j + 11).toNatClampNeg - 1))] at hq
      subst hq
      refine ⟨fun h3 => ?_, fun h3 => ?_⟩
      · have h3 := b_yes h3
        rw [c11] at h3
        have h3b := h3
        rw [hnn] at h3b
        obtain ⟨k, hk, rfl⟩ := mv_upto (m := n) (by omega) h3b.1 h3b.2
        have ek : nI 24 * nI j + 12 + nI k = nI (24 * j + 12 + k) := by
          rw [e24]
          show nI (24 * j) + nI 12 + nI k = _
          rw [nI_add, nI_add]
        refine ⟨rfl, _, rfl, _, rfl, ?_, rfl, rfl, fun s' w' e => ?_⟩
        · show vp_in (nI 24 * nI j + 12 + nI k) 121
          rw [ek]
          exact vp_in_nI (by omega) (by decide)
        · cases e
          rw [if_pos h1, cj, if_pos h3, nI_clamp (n := k) (by omega)]
          show some (Value.int (th I 39 (nI 24 * nI j + 12 + nI k).toNatClampNeg)) = _
          rw [ek, nI_clamp (by omega)]
      · have h3 := mv_b0.mp h3
        rw [c11] at h3
        refine ⟨rfl, rfl, fun s' w' e => ?_⟩
        cases e
        rw [if_pos h1, cj, if_neg h3]
  refine ⟨rfl, mv_run_V (stop := [5]) 40 _ _ _ _ _ ?_⟩
  exact ⟨rfl, key⟩
theorem c_mPast {l : Launch} {G : mv_G} {A : Nat → Prop} (hG : mv_adk G A) : mv_Con l G A 127 sp_mPast := mv_con hG 127 mv_k_X7_past (by decide +kernel) (mv_cs_cons (c_noSeries hG) (mv_cs_cons (c_in hG) (mv_cs_nil))) cb_mPast
def sp_mTell : mv_SP := (fun as I _ => MH 9000 I ∧ ∃ s v : Int32, as = [.ref 30, .int s, .int v],
  fun as I J r I' J' => J = J' ∧ ∀ s v : Int32, as = [.ref 30, .int s, .int v] → if msv (th I) s then (if 0 ≤ v ∧ v ≤ 99 then r = some (.int (mkK (mnt (th I)) 39 (24 * s.toNatClampNeg) s.toNatClampNeg v)) ∧ I' = mct (mnt (th I)) 39 (24 * s.toNatClampNeg) s.toNatClampNeg v else r = some (.int (-2)) ∧ I' = th I) else r = some (.int (-1)) ∧ I' = th I)
theorem cb_mTell : mv_body 139 mv_t_X7_tell (mv_cs [(123, sp_noSeries), (109, sp_in), (124, sp_note), (98, sp_countOn)]) sp_mTell := by
  intro as I J h
  obtain ⟨hM, s, v, rfl⟩ := h
  have hM := MH_th hM
  have key : mv_V mv_ow mv_swf mv_t_X7_tell (mv_cs [(123, sp_noSeries), (109, sp_in), (124, sp_note), (98, sp_countOn)]) (sp_mTell.2 [.ref 30, .int s, .int v] I J) 5 [(0, .ref 30), (1, .int s), (2, .int v)] [] (th I) J := by
    refine mv_run_V (stop := []) 60 _ _ _ _ _ ?_
    refine ⟨rfl, rfl, ⟨_, rfl⟩, fun r1 I1 J1 hp => ?_⟩
    obtain ⟨rfl, rfl, hq⟩ := hp
    have hq : r1 = some (.int (mv_b (¬ msv (th I) s))) := hq
    subst hq
    refine ⟨fun h1 => ?_, fun h1 => ?_⟩
    · have h1 : msv (th I) s := Decidable.not_not.mp (mv_b0.mp h1)
      obtain ⟨j, hj, rfl, cj, hMB⟩ := MH_in hM h1
      refine ⟨rfl, ⟨_, _, _, rfl⟩, fun r1 I1 J1 hp => ?_⟩
      obtain ⟨rfl, rfl, hq⟩ := hp
      have hq : r1 = some (.int (mv_b ((0 : Int64) ≤ (v : Int32).toInt64 ∧ (v : Int32).toInt64 ≤ (99 : Int64)))) := hq
      rw [mv_bc (in_w (lo := 0) (hi := 99))] at hq
      subst hq
      refine ⟨fun h3 => ?_, fun h3 => ?_⟩
      · have h3 := b_yes h3
        refine ⟨rfl, rfl, ⟨rfl, hM.2.2.1⟩, fun r1 I1 J1 hp => ?_⟩
        obtain ⟨rfl, rfl, rfl⟩ := hp
        refine ⟨rfl, _, rfl, rfl, rfl, ⟨39, j, v, Or.inl rfl, hj, MB_mnt (Or.inl rfl) (MB_mono (by decide) hMB), rfl⟩, fun r1 I1 J1 hp => ?_⟩
        obtain ⟨rfl, hq⟩ := hp
        have hq : r1 = some (.int (mkK (mnt (th I)) 39 (24 * (nI j).toNatClampNeg) (nI j).toNatClampNeg v)) ∧ I1 = mct (mnt (th I)) 39 (24 * (nI j).toNatClampNeg) (nI j).toNatClampNeg v := hq
        obtain ⟨rfl, rfl⟩ := hq
        refine ⟨rfl, fun s' v' e => ?_⟩
        cases e
        rw [if_pos h1, if_pos h3]
        exact ⟨rfl, rfl⟩
      · have h3 := mv_b0.mp h3
        refine ⟨rfl, fun s' v' e => ?_⟩
        cases e
        rw [if_pos h1, if_neg h3]
        exact ⟨rfl, rfl⟩
    · have h1 : ¬ msv (th I) s := b_yes h1
      refine ⟨rfl, fun s' v' e => ?_⟩
      cases e
      rw [if_neg h1]
      exact ⟨rfl, rfl⟩
  refine ⟨rfl, mv_run_V (stop := [5]) 40 _ _ _ _ _ ?_⟩
  exact ⟨rfl, key⟩
theorem c_mTell {l : Launch} {G : mv_G} {A : Nat → Prop} (hG : mv_adk G A) : mv_Con l G A 139 sp_mTell := mv_con hG 139 mv_k_X7_tell (by decide +kernel) (mv_cs_cons (c_noSeries hG) (mv_cs_cons (c_in hG) (mv_cs_cons (c_note hG) (mv_cs_cons (c_countOn hG) (mv_cs_nil))))) cb_mTell
def sp_mGap : mv_SP := (fun as I _ => MH 9000 I ∧ ∃ s : Int32, as = [.ref 30, .int s],
  fun as I J r I' J' => J = J' ∧ ∀ s : Int32, as = [.ref 30, .int s] → if msv (th I) s then r = some (.int (mcm (mnt (th I)) 39 (24 * s.toNatClampNeg) (-9) 39 (24 * s.toNatClampNeg + 4))) ∧ I' = mcm (mnt (th I)) 39 (24 * s.toNatClampNeg) (-9) else r = some (.int (-1)) ∧ I' = th I)
theorem cb_mGap : mv_body 107 mv_t_X7_gap (mv_cs [(123, sp_noSeries), (124, sp_note), (96, sp_comes)]) sp_mGap := by
  intro as I J h
  obtain ⟨hM, s, rfl⟩ := h
  have hM := MH_th hM
  have key : mv_V mv_ow mv_swf mv_t_X7_gap (mv_cs [(123, sp_noSeries), (124, sp_note), (96, sp_comes)]) (sp_mGap.2 [.ref 30, .int s] I J) 5 [(0, .ref 30), (1, .int s)] [] (th I) J := by
    refine mv_run_V (stop := []) 60 _ _ _ _ _ ?_
    refine ⟨rfl, rfl, ⟨_, rfl⟩, fun r1 I1 J1 hp => ?_⟩
    obtain ⟨rfl, rfl, hq⟩ := hp
    have hq : r1 = some (.int (mv_b (¬ msv (th I) s))) := hq
    subst hq
    refine ⟨fun h1 => ?_, fun h1 => ?_⟩
    · have h1 : msv (th I) s := Decidable.not_not.mp (mv_b0.mp h1)
      obtain ⟨j, hj, rfl, cj, hMB⟩ := MH_in hM h1
      have c4 : (nI 24 * nI j + 4).toNatClampNeg = 24 * j + 4 := by rw [e24]; exact ix (k := 4)
      refine ⟨rfl, rfl, ⟨rfl, hM.2.2.1⟩, fun r1 I1 J1 hp => ?_⟩
      obtain ⟨rfl, rfl, rfl⟩ := hp
      refine ⟨rfl, _, rfl, rfl, ⟨39, j, -9, Or.inl rfl, hj, (MB_mnt (Or.inl rfl) hMB).2.1, rfl⟩, fun r1 I1 J1 hp => ?_⟩
      obtain ⟨rfl, rfl, hq⟩ := hp
      have hq : I1 = mcm (mnt (th I)) 39 (24 * (nI j).toNatClampNeg) (-9) := hq
      refine ⟨rfl, _, rfl, _, rfl, (by show vp_in (nI 24 * nI j + nI 4) 121; rw [e24]; exact ixin (by omega)), rfl, fun s' e => ?_⟩
      cases e
      rw [if_pos h1]
      refine ⟨?_, hq⟩
      show some (Value.int (I1 39 (nI 24 * nI j + 4).toNatClampNeg)) = _
      rw [c4, hq, cj]
    · have h1 : ¬ msv (th I) s := b_yes h1
      refine ⟨rfl, fun s' e => ?_⟩
      cases e
      rw [if_neg h1]
      exact ⟨rfl, rfl⟩
  refine ⟨rfl, mv_run_V (stop := [5]) 40 _ _ _ _ _ ?_⟩
  exact ⟨rfl, key⟩
theorem c_mGap {l : Launch} {G : mv_G} {A : Nat → Prop} (hG : mv_adk G A) : mv_Con l G A 107 sp_mGap := mv_con hG 107 mv_k_X7_gap (by decide +kernel) (mv_cs_cons (c_noSeries hG) (mv_cs_cons (c_note hG) (mv_cs_cons (c_comes hG) (mv_cs_nil)))) cb_mGap
def mdr (I : mv_I) (a : Nat) : mv_I := mv_si (mv_si I 39 (a + 5) 0) 39 (a + 6) 0
def sp_mClear : mv_SP := (fun as I _ => MH 9000 I ∧ ∃ s : Int32, as = [.ref 30, .int s],
  fun as I J r I' J' => J = J' ∧ ∀ s : Int32, as = [.ref 30, .int s] → if msv (th I) s then r = some (.int (mnt (th I) 39 (24 * s.toNatClampNeg + 5) + mnt (th I) 39 (24 * s.toNatClampNeg + 6))) ∧ I' = mdr (mnt (th I)) (24 * s.toNatClampNeg) else r = some (.int (-1)) ∧ I' = th I)
theorem cb_mClear : mv_body 94 mv_t_X7_clear (mv_cs [(123, sp_noSeries), (124, sp_note)]) sp_mClear := by
  intro as I J h
  obtain ⟨hM, s, rfl⟩ := h
  have hM := MH_th hM
  have key : mv_V mv_ow mv_swf mv_t_X7_clear (mv_cs [(123, sp_noSeries), (124, sp_note)]) (sp_mClear.2 [.ref 30, .int s] I J) 5 [(0, .ref 30), (1, .int s)] [] (th I) J := by
    refine mv_run_V (stop := []) 80 _ _ _ _ _ ?_
    refine ⟨rfl, rfl, ⟨_, rfl⟩, fun r1 I1 J1 hp => ?_⟩
    obtain ⟨rfl, rfl, hq⟩ := hp
    have hq : r1 = some (.int (mv_b (¬ msv (th I) s))) := hq
    subst hq
    refine ⟨fun h1 => ?_, fun h1 => ?_⟩
    · have h1 : msv (th I) s := Decidable.not_not.mp (mv_b0.mp h1)
      obtain ⟨j, hj, rfl, cj, hMB⟩ := MH_in hM h1
      have c5 : (nI 24 * nI j + 5).toNatClampNeg = 24 * j + 5 := by rw [e24]; exact ix (k := 5)
      have c6 : (nI 24 * nI j + 6).toNatClampNeg = 24 * j + 6 := by rw [e24]; exact ix (k := 6)
      have i5 : vp_in (nI 24 * nI j + nI 5) 121 := by rw [e24]; exact ixin (by omega)
      have i6 : vp_in (nI 24 * nI j + nI 6) 121 := by rw [e24]; exact ixin (by omega)
      refine ⟨rfl, rfl, ⟨rfl, hM.2.2.1⟩, fun r1 I1 J1 hp => ?_⟩
      obtain ⟨rfl, rfl, rfl⟩ := hp
      refine ⟨rfl, _, rfl, _, rfl, i5, rfl, _, rfl, _, rfl, i6, rfl, _, rfl, _, rfl, i5, rfl, _, rfl, _, rfl, i6, rfl, fun s' e => ?_⟩
      cases e
      rw [if_pos h1, cj, ← c5, ← c6]
      refine ⟨rfl, ?_⟩
      unfold mdr
      rw [← c5, ← c6]
      rfl
    · have h1 : ¬ msv (th I) s := b_yes h1
      refine ⟨rfl, fun s' e => ?_⟩
      cases e
      rw [if_neg h1]
      exact ⟨rfl, rfl⟩
  refine ⟨rfl, mv_run_V (stop := [5]) 40 _ _ _ _ _ ?_⟩
  exact ⟨rfl, key⟩
theorem c_mClear {l : Launch} {G : mv_G} {A : Nat → Prop} (hG : mv_adk G A) : mv_Con l G A 94 sp_mClear := mv_con hG 94 mv_k_X7_clear (by decide +kernel) (mv_cs_cons (c_noSeries hG) (mv_cs_cons (c_note hG) (mv_cs_nil))) cb_mClear
