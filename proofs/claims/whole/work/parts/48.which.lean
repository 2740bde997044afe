/-! The reference: ahead, which. -/
def sp_mAhead : mv_SP := (fun as I _ => MH 9000 I ∧ ∃ n v s w : Int32, as = [.ref 30, .int n, .int v, .int s, .int w],
  fun as I J r I' J' => J = J' ∧ TF (th I) I' ∧ ∀ n v s w : Int32, as = [.ref 30, .int n, .int v, .int s, .int w] → r = some (.int (if msv (th I) s then (if (0 ≤ n ∧ n ≤ 60) ∧ (0 ≤ v ∧ v ≤ 99) ∧ (5 ≤ w ∧ w ≤ 13) then mtl (mcN s.toNatClampNeg v n.toNatClampNeg (mlt (th I))) 40 (24 * s.toNatClampNeg) s.toNatClampNeg w.toNatClampNeg else -2) else -1)))
theorem ahead_no {I : mv_I} {J : mv_J} {n v s w : Int32} (h1 : msv (th I) s) (h : ¬ ((0 ≤ n ∧ n ≤ 60) ∧ (0 ≤ v ∧ v ≤ 99) ∧ (5 ≤ w ∧ w ≤ 13))) : sp_mAhead.2 [.ref 30, .int n, .int v, .int s, .int w] I J (some (.int (-2))) (th I) J := by
  refine ⟨rfl, TF_rfl, fun n' v' s' w' e => ?_⟩
  cases e
  rw [if_pos h1, if_neg h]
theorem ahead_64 {I : mv_I} {J : mv_J} {v : Int32} {n j w : Nat} (hj : j < 5) (hMB : MB 9000 (th I) 39 (24 * j) j) (h1 : msv (th I) (nI j)) (hn : n ≤ 60) (hw : w ≤ 13) (h2 : (0 ≤ nI n ∧ nI n ≤ 60) ∧ (0 ≤ v ∧ v ≤ 99) ∧ (5 ≤ nI w ∧ nI w ≤ 13)) : ∀ q k : Nat, k + q = n → mv_V mv_ow mv_swf mv_t_X7_ahead (mv_cs [(123, sp_noSeries), (109, sp_in), (115, sp_layTrial), (98, sp_countOn), (140, sp_tellOf)]) (sp_mAhead.2 [.ref 30, .int (nI n), .int v, .int (nI j), .int (nI w)] I J) 64 [(0, .ref 30), (1, .int (nI n)), (2, .int v), (3, .int (nI j)), (4, .int (nI w)), (5, .int (nI k))] [] (mcN j v k (mlt (th I))) J := by
  have cj : (nI j).toNatClampNeg = j := nI_clamp (by omega)
  have cn : (nI n).toNatClampNeg = n := nI_clamp (by omega)
  have cw : (nI w).toNatClampNeg = w := nI_clamp (by omega)
  have hM := MB_mlt hj hMB
  have hw5 : 5 ≤ w := by
    have := h2.2.2.1
    exact (nI_leI (a := 5) (by decide) (by omega)).mp this
  intro q
  induction q with
  | zero =>
    intro k hk
    have hk : k = n := hk
    subst hk
    refine mv_run_V (stop := [64]) 40 _ _ _ _ _ ?_
    refine ⟨fun h3 => ?_, fun h3 => ?_⟩
    · refine ⟨rfl, _, rfl, rfl, rfl, ⟨40, j, w, Or.inr rfl, hj, by omega, hw, MB_mono (by omega) (MB_mcN hM k), rfl⟩, fun r1 I1 J1 hp => ?_⟩
      obtain ⟨rfl, rfl, hq⟩ := hp
      have hq : r1 = some (.int (mtl (mcN j v k (mlt (th I))) 40 (24 * (nI j).toNatClampNeg) (nI j).toNatClampNeg (nI w).toNatClampNeg)) := hq
      subst hq
      refine ⟨rfl, TF_mcN hj hM TF_mlt k, fun n' v' s' w' e => ?_⟩
      cases e
      rw [if_pos h1, if_pos h2, cj, cn]
    · exact absurd h3 (nI_nlt (Nat.le_refl _) (by omega))
  | succ q ih =>
    intro k hk
    refine mv_run_V (stop := [64]) 40 _ _ _ _ _ ?_
    refine ⟨fun h3 => ?_, fun h3 => ?_⟩
    · exact absurd (nI_lt (by omega) (by omega)) h3
    · refine ⟨rfl, _, rfl, rfl, rfl, ⟨40, j, v, Or.inr rfl, hj, MB_mono (by omega) (MB_mcN hM k), rfl⟩, fun r1 I1 J1 hp => ?_⟩
      obtain ⟨rfl, hq⟩ := hp
      have hq : r1 = some (.int (mkK (mcN j v k (mlt (th I))) 40 (24 * (nI j).toNatClampNeg) (nI j).toNatClampNeg v)) ∧ I1 = mct (mcN j v k (mlt (th I))) 40 (24 * (nI j).toNatClampNeg) (nI j).toNatClampNeg v := hq
      rw [cj] at hq
      obtain ⟨rfl, rfl⟩ := hq
      refine ⟨rfl, ?_⟩
      have h4 := ih (k + 1) (by omega)
      rw [nI_succ k] at h4
      exact h4
theorem ahead_39 {I : mv_I} {J : mv_J} {n v w : Int32} {j : Nat} (hj : j < 5) (hMB : MB 9000 (th I) 39 (24 * j) j) (h1 : msv (th I) (nI j)) (h2 : 0 ≤ n ∧ n ≤ 60) (h3 : 0 ≤ v ∧ v ≤ 99) : mv_V mv_ow mv_swf mv_t_X7_ahead (mv_cs [(123, sp_noSeries), (109, sp_in), (115, sp_layTrial), (98, sp_countOn), (140, sp_tellOf)]) (sp_mAhead.2 [.ref 30, .int n, .int v, .int (nI j), .int w] I J) 39 [(0, .ref 30), (1, .int n), (2, .int v), (3, .int (nI j)), (4, .int w)] [] (th I) J := by
  refine mv_run_V (stop := [64]) 40 _ _ _ _ _ ?_
  refine ⟨rfl, ⟨_, _, _, rfl⟩, fun r1 I1 J1 hp => ?_⟩
  obtain ⟨rfl, rfl, hqz⟩ := hp
  have hqy : r1 = some (.int (mv_b ((5 : Int64) ≤ (w : Int32).toInt64 ∧ (w : Int32).toInt64 ≤ (13 : Int64)))) := hqz
  clear hqz
  rw [mv_bc (in_w (lo := 5) (hi := 13))] at hqy
  subst hqy
  refine ⟨fun h4 => ?_, fun h4 => ?_⟩
  · have h4 := b_yes h4
    refine ⟨rfl, rfl, rfl, fun r1 I1 J1 hp => ?_⟩
    obtain ⟨rfl, rfl, rfl⟩ := hp
    obtain ⟨q, hq, rfl⟩ := in_nat (M := 60) (by decide) h2
    obtain ⟨w', hw', rfl⟩ := in_nat (M := 13) (by decide) (n := w) ⟨by
      have := h4.1
      rw [fa_le] at this ⊢
      have e5 : (5 : Int32).toInt = 5 := rfl
      have e0 : (0 : Int32).toInt = 0 := rfl
      omega, h4.2⟩
    exact ahead_64 hj hMB h1 hq hw' ⟨h2, h3, h4⟩ q 0 (Nat.zero_add q)
  · exact ahead_no h1 (fun z => mv_b0.mp h4 z.2.2)
theorem ahead_15 {I : mv_I} {J : mv_J} {n v w : Int32} {j : Nat} (hj : j < 5) (hMB : MB 9000 (th I) 39 (24 * j) j) (h1 : msv (th I) (nI j)) : mv_V mv_ow mv_swf mv_t_X7_ahead (mv_cs [(123, sp_noSeries), (109, sp_in), (115, sp_layTrial), (98, sp_countOn), (140, sp_tellOf)]) (sp_mAhead.2 [.ref 30, .int n, .int v, .int (nI j), .int w] I J) 15 [(0, .ref 30), (1, .int n), (2, .int v), (3, .int (nI j)), (4, .int w)] [] (th I) J := by
  refine mv_run_V (stop := [39]) 40 _ _ _ _ _ ?_
  refine ⟨rfl, ⟨_, _, _, rfl⟩, fun r1 I1 J1 hp => ?_⟩
  obtain ⟨rfl, rfl, hqz⟩ := hp
  have hqy : r1 = some (.int (mv_b ((0 : Int64) ≤ (n : Int32).toInt64 ∧ (n : Int32).toInt64 ≤ (60 : Int64)))) := hqz
  clear hqz
  rw [mv_bc (in_w (lo := 0) (hi := 60))] at hqy
  subst hqy
  refine ⟨fun h4 => ?_, fun h4 => ?_⟩
  · exact ahead_no h1 (fun z => mv_b0.mp h4 z.1)
  · refine ⟨rfl, ⟨_, _, _, rfl⟩, fun r1 I1 J1 hp => ?_⟩
    obtain ⟨rfl, rfl, hqz⟩ := hp
    have hqy : r1 = some (.int (mv_b ((0 : Int64) ≤ (v : Int32).toInt64 ∧ (v : Int32).toInt64 ≤ (99 : Int64)))) := hqz
    clear hqz
    rw [mv_bc (in_w (lo := 0) (hi := 99))] at hqy
    subst hqy
    refine ⟨fun h5 => ?_, fun h5 => ?_⟩
    · exact ahead_no h1 (fun z => mv_b0.mp h5 z.2.1)
    · exact ahead_39 hj hMB h1 (b_yes h4) (b_yes h5)
theorem cb_mAhead : mv_body 89 mv_t_X7_ahead (mv_cs [(123, sp_noSeries), (109, sp_in), (115, sp_layTrial), (98, sp_countOn), (140, sp_tellOf)]) sp_mAhead := by
  intro as I J h
  obtain ⟨hM, n, v, s, w, rfl⟩ := h
  have hM := MH_th hM
  have key : mv_V mv_ow mv_swf mv_t_X7_ahead (mv_cs [(123, sp_noSeries), (109, sp_in), (115, sp_layTrial), (98, sp_countOn), (140, sp_tellOf)]) (sp_mAhead.2 [.ref 30, .int n, .int v, .int s, .int w] I J) 5 [(0, .ref 30), (1, .int n), (2, .int v), (3, .int s), (4, .int w)] [] (th I) J := by
    refine mv_run_V (stop := [15]) 40 _ _ _ _ _ ?_
    refine ⟨rfl, rfl, ⟨_, rfl⟩, fun r1 I1 J1 hp => ?_⟩
    obtain ⟨rfl, rfl, hqz⟩ := hp
    have hqy : r1 = some (.int (mv_b (¬ msv (th I) s))) := hqz
    clear hqz
    subst hqy
    refine ⟨fun h1 => ?_, fun h1 => ?_⟩
    · have h1 : msv (th I) s := Decidable.not_not.mp (mv_b0.mp h1)
      obtain ⟨j, hj, rfl, cj, hMB⟩ := MH_in hM h1
      exact ahead_15 hj hMB h1
    · have h1 : ¬ msv (th I) s := b_yes h1
      refine ⟨rfl, TF_rfl, fun n' v' s' w' e => ?_⟩
      cases e
      rw [if_neg h1]
  refine ⟨rfl, mv_run_V (stop := [5]) 40 _ _ _ _ _ ?_⟩
  exact ⟨rfl, key⟩
theorem c_mAhead {l : Launch} {G : mv_G} {A : Nat → Prop} (hG : mv_adk G A) : mv_Con l G A 89 sp_mAhead := mv_con hG 89 mv_k_X7_ahead (by decide +kernel) (mv_cs_cons (c_noSeries hG) (mv_cs_cons (c_in hG) (mv_cs_cons (c_layTrial hG) (mv_cs_cons (c_countOn hG) (mv_cs_cons (c_tellOf hG) (mv_cs_nil)))))) cb_mAhead
/-- how many of k counts have an alarm -/
def mmr (T : mv_I) (s : Nat) (v : Int32) : Nat → Int32
  | 0 => 0
  | k + 1 => mmr T s v k + (if 0 < mkK (mcN s v k T) 40 (24 * s) s v then 1 else 0)
def mis (I : mv_I) (v : Int32) (k : Nat) : Int32 := if msv I (I 44 k) then mv_b (mv_b (mmr (mlt I) (I 44 k).toNatClampNeg v (I 45 k).toNatClampNeg = I 46 k) = mv_b (I 47 k = 1)) else 1
def sp_isSo : mv_SP := (fun as I _ => MH 9000 I ∧ ∃ (v : Int32) (k q : Nat), I 30 19 = nI q ∧ k < q ∧ q ≤ 6 ∧ as = [.ref 30, .int v, .int (nI k)],
  fun as I J r I' J' => J = J' ∧ TF I I' ∧ match as with
    | [_, .int v, .int k] => r = some (.int (mis I v k.toNatClampNeg))
    | _ => True)
theorem iso_67 {I I1 : mv_I} {J : mv_J} {v : Int32} {k s : Nat} {M x5 : Int32} (hk : k < 6) (hT : TF I I1) (h1 : msv I (I 44 k)) (hM : M = mmr (mlt I) (I 44 k).toNatClampNeg v (I 45 k).toNatClampNeg) : mv_V mv_ow mv_swf mv_t_X7_isSo (mv_cs [(123, sp_noSeries), (115, sp_layTrial), (98, sp_countOn)]) (sp_isSo.2 [.ref 30, .int v, .int (nI k)] I J) 67 [(0, .ref 30), (1, .int v), (2, .int (nI k)), (3, .int (nI s)), (4, .int M), (5, .int x5)] [] I1 J := by
  have ck : (nI k).toNatClampNeg = k := nI_clamp (by omega)
  have e46 : I1 46 (nI k).toNatClampNeg = I 46 k := by rw [ck, hT.1 46 (by decide)]
  have e47 : I1 47 (nI k).toNatClampNeg = I 47 k := by rw [ck, hT.1 47 (by decide)]
  have fin : ∀ x : Int32, x = mv_b (mv_b (M = I 46 k) = mv_b (I 47 k = 1)) → sp_isSo.2 [.ref 30, .int v, .int (nI k)] I J (some (.int x)) I1 J := by
    intro x hx
    refine ⟨rfl, hT, ?_⟩
    show some (Value.int x) = some (Value.int (mis I v (nI k).toNatClampNeg))
    rw [ck]
    unfold mis
    rw [if_pos h1, ← hM, hx]
  refine mv_run_V (stop := []) 60 _ _ _ _ _ ?_
  refine ⟨rfl, _, rfl, _, rfl, vp_in_nI hk (by decide), fun h2 => ?_, fun h2 => ?_⟩
  · have h2 : ¬ M = I1 46 (nI k).toNatClampNeg := h2
    rw [e46] at h2
    refine ⟨rfl, _, rfl, _, rfl, vp_in_nI hk (by decide), fun h3 => ?_, fun h3 => ?_⟩
    · have h3 : ¬ I1 47 (nI k).toNatClampNeg = 1 := h3
      rw [e47] at h3
      refine ⟨fun h4 => absurd rfl h4, fun _ => ?_⟩
      exact ⟨Or.inr rfl, fin 1 (by rw [mv_bf h2, mv_bf h3]; rfl)⟩
    · have h3 : I1 47 (nI k).toNatClampNeg = 1 := h3
      rw [e47] at h3
      refine ⟨fun _ => ?_, fun h4 => absurd h4 (by decide)⟩
      exact ⟨Or.inl rfl, fin 0 (by rw [mv_bf h2, mv_bt h3]; rfl)⟩
  · have h2 : M = I1 46 (nI k).toNatClampNeg := h2
    rw [e46] at h2
    refine ⟨rfl, _, rfl, _, rfl, vp_in_nI hk (by decide), fun h3 => ?_, fun h3 => ?_⟩
    · have h3 : ¬ I1 47 (nI k).toNatClampNeg = 1 := h3
      rw [e47] at h3
      refine ⟨fun _ => ?_, fun h4 => absurd h4 (by decide)⟩
      exact ⟨Or.inl rfl, fin 0 (by rw [mv_bt h2, mv_bf h3]; rfl)⟩
    · have h3 : I1 47 (nI k).toNatClampNeg = 1 := h3
      rw [e47] at h3
      refine ⟨fun h4 => absurd rfl h4, fun _ => ?_⟩
      exact ⟨Or.inr rfl, fin 1 (by rw [mv_bt h2, mv_bt h3]; rfl)⟩
theorem iso_27 {I : mv_I} {J : mv_J} {v : Int32} {k s n : Nat} (hk : k < 6) (hs : s < 5) (hs2 : (I 44 k).toNatClampNeg = s) (hMB : MB 9000 I 39 (24 * s) s) (h1 : msv I (I 44 k)) (hn : n ≤ 9) (hnn : I 45 k = nI n) : ∀ q t : Nat, t + q = n → mv_V mv_ow mv_swf mv_t_X7_isSo (mv_cs [(123, sp_noSeries), (115, sp_layTrial), (98, sp_countOn)]) (sp_isSo.2 [.ref 30, .int v, .int (nI k)] I J) 27 [(0, .ref 30), (1, .int v), (2, .int (nI k)), (3, .int (nI s)), (4, .int (mmr (mlt I) s v t)), (5, .int (nI t))] [] (mcN s v t (mlt I)) J := by
  have ck : (nI k).toNatClampNeg = k := nI_clamp (by omega)
  have cs : (nI s).toNatClampNeg = s := nI_clamp (by omega)
  have hM := MB_mlt hs hMB
  have e45 : ∀ t, mcN s v t (mlt I) 45 (nI k).toNatClampNeg = nI n := fun t => by rw [ck, (TF_mcN hs hM TF_mlt t).1 45 (by decide), hnn]
  intro q
  induction q with
  | zero =>
    intro t ht
    have ht : t = n := ht
    subst ht
    refine mv_run_V (stop := [27, 67]) 40 _ _ _ _ _ ?_
    refine ⟨rfl, _, rfl, _, rfl, vp_in_nI hk (by decide), fun h2 => ?_, fun h2 => ?_⟩
    · exact iso_67 hk (TF_mcN hs hM TF_mlt t) h1 (by rw [hs2, hnn, nI_clamp (by omega)])
    · have h2 : nI t < mcN s v t (mlt I) 45 (nI k).toNatClampNeg := h2
      rw [e45] at h2
      exact absurd h2 (nI_nlt (Nat.le_refl _) (by omega))
  | succ q ih =>
    intro t ht
    refine mv_run_V (stop := [27, 67]) 40 _ _ _ _ _ ?_
    refine ⟨rfl, _, rfl, _, rfl, vp_in_nI hk (by decide), fun h2 => ?_, fun h2 => ?_⟩
    · have h2 : ¬ nI t < mcN s v t (mlt I) 45 (nI k).toNatClampNeg := h2
      rw [e45] at h2
      exact absurd (nI_lt (by omega) (by omega)) h2
    · refine ⟨rfl, _, rfl, rfl, rfl, ⟨40, s, v, Or.inr rfl, hs, MB_mono (by omega) (MB_mcN hM t), rfl⟩, fun r1 I1 J1 hp => ?_⟩
      obtain ⟨rfl, hq⟩ := hp
      have hq : r1 = some (.int (mkK (mcN s v t (mlt I)) 40 (24 * (nI s).toNatClampNeg) (nI s).toNatClampNeg v)) ∧ I1 = mct (mcN s v t (mlt I)) 40 (24 * (nI s).toNatClampNeg) (nI s).toNatClampNeg v := hq
      rw [cs] at hq
      obtain ⟨rfl, rfl⟩ := hq
      have h4 := ih (t + 1) (by omega)
      rw [mmr, nI_succ t] at h4
      refine ⟨fun h3 => ?_, fun h3 => ?_⟩
      · rw [if_neg h3] at h4
        exact h4
      · rw [if_pos h3] at h4
        exact h4
theorem cb_isSo : mv_body 111 mv_t_X7_isSo (mv_cs [(123, sp_noSeries), (115, sp_layTrial), (98, sp_countOn)]) sp_isSo := by
  intro as I J h
  obtain ⟨hM, v, k, q, hq, hkq, hq6, rfl⟩ := h
  have ck : (nI k).toNatClampNeg = k := nI_clamp (by omega)
  refine ⟨rfl, mv_run_V (stop := [27]) 40 _ _ _ _ _ ?_⟩
  refine ⟨rfl, _, rfl, _, rfl, vp_in_nI (by omega) (by decide), ?_⟩
  rw [ck]
  refine ⟨rfl, rfl, ⟨_, rfl⟩, fun r1 I1 J1 hp => ?_⟩
  obtain ⟨rfl, rfl, hqz⟩ := hp
  have hqy : r1 = some (.int (mv_b (¬ msv I (I 44 k)))) := hqz
  clear hqz
  subst hqy
  refine ⟨fun h1 => ?_, fun h1 => ?_⟩
  · have h1 : msv I (I 44 k) := Decidable.not_not.mp (mv_b0.mp h1)
    obtain ⟨j, hj, ej, cj, hMB⟩ := MH_in hM h1
    obtain ⟨-, -, -, q', hq6', hq', hn⟩ := hM
    obtain ⟨n, hn9, hnn⟩ := hn k (by
      have : nI q = nI q' := by rw [← hq, hq']
      have := (nI_eq (by omega) (by omega)).mp this
      omega)
    refine ⟨rfl, rfl, rfl, fun r1 I1 J1 hp => ?_⟩
    obtain ⟨rfl, rfl, rfl⟩ := hp
    rw [ej]
    exact iso_27 (by omega) hj cj hMB h1 hn9 hnn n 0 (Nat.zero_add n)
  · have h1 : ¬ msv I (I 44 k) := b_yes h1
    refine ⟨Or.inr rfl, rfl, TF_rfl, ?_⟩
    show some (Value.int 1) = some (Value.int (mis I v (nI k).toNatClampNeg))
    rw [ck]
    unfold mis
    rw [if_neg h1]
theorem c_isSo {l : Launch} {G : mv_G} {A : Nat → Prop} (hG : mv_adk G A) : mv_Con l G A 111 sp_isSo := mv_con hG 111 mv_k_X7_isSo (by decide +kernel) (mv_cs_cons (c_noSeries hG) (mv_cs_cons (c_layTrial hG) (mv_cs_cons (c_countOn hG) (mv_cs_nil)))) cb_isSo
theorem mis_TF {I I1 : mv_I} (h : TF I I1) (v : Int32) (k : Nat) : mis I1 v k = mis I v k := by
  unfold mis
  rw [mlt_TF h, h.1 44 (by decide), h.1 45 (by decide), h.1 46 (by decide), h.1 47 (by decide)]
  have e : I1 30 4 = I 30 4 := by rw [h.1 30 (by decide)]
  by_cases hh : msv I (I 44 k)
  · have hh1 : msv I1 (I 44 k) := by
      show 0 ≤ _ ∧ _ ≤ I1 30 4 - 1
      rw [e]
      exact hh
    rw [if_pos hh, if_pos hh1]
  · have hh1 : ¬ msv I1 (I 44 k) := by
      show ¬ (0 ≤ _ ∧ _ ≤ I1 30 4 - 1)
      rw [e]
      exact hh
    rw [if_neg hh, if_neg hh1]
theorem MH_TF {N : Nat} {I I1 : mv_I} (h : TF I I1) (hM : MH N I) : MH N I1 := by
  unfold MH at *
  rw [h.1 30 (by decide), h.1 45 (by decide)]
  obtain ⟨⟨m, hm, e, hb⟩, h2⟩ := hM
  exact ⟨⟨m, hm, e, fun s hs => MB_of (h.1 _ (by decide)) (h.1 _ (by decide)) (hb s hs)⟩, h2⟩
/-- whether the first k observations agree -/
def mmy (I : mv_I) (v : Int32) : Nat → Int32
  | 0 => 1
  | k + 1 => if mmy I v k = 0 then 0 else if mis I v k = 0 then 0 else 1
def mwh (I : mv_I) (q : Nat) : Nat → Int32
  | 0 => 0
  | v + 1 => mwh I q v ||| (if mmy I (nI v) q = 0 then (0 : Int32) else (1 : Int32) <<< (nI v &&& 31))
def sp_mWhich : mv_SP := (fun as I _ => MH 9000 I ∧ as = [.ref 30],
  fun _ I J r I' J' => J = J' ∧ TF (th I) I' ∧ r = some (.int (mwh (th I) (th I 30 19).toNatClampNeg 32)))
theorem which_20 {I : mv_I} {J : mv_J} {S : Int32} {v q : Nat} (hM : MH 9000 I) (hv : v < 32) (hq : I 30 19 = nI q) (hq6 : q ≤ 6) {K : mv_K} (hK : ∀ I1, TF I I1 → mv_V mv_ow mv_swf mv_t_X7_which (mv_cs [(111, sp_isSo)]) K 9 [(0, .ref 30), (1, .int (S ||| (if mmy I (nI v) q = 0 then (0 : Int32) else (1 : Int32) <<< (nI v &&& 31)))), (2, .int (nI v + 1))] [] I1 J) : ∀ p k : Nat, k + p = q → ∀ I1, TF I I1 → mv_V mv_ow mv_swf mv_t_X7_which (mv_cs [(111, sp_isSo)]) K 20 [(0, .ref 30), (1, .int S), (2, .int (nI v)), (3, .int (mmy I (nI v) k)), (4, .int (nI k))] [] I1 J := by
  intro p
  induction p with
  | zero =>
    intro k hk I1 hT
    have hk : k = q := hk
    subst hk
    have hn : ¬ nI k < I1 30 19 := by
      rw [hT.1 30 (by decide), hq]
      exact nI_nlt (Nat.le_refl _) (by omega)
    refine mv_run_V (stop := [9, 20]) 40 _ _ _ _ _ ?_
    refine ⟨rfl, fun h1 => ?_, fun h1 => absurd h1 hn⟩
    have h9 := hK I1 hT
    refine ⟨fun h2 => ?_, fun h2 => ?_⟩
    · rw [if_pos h2] at h9
      exact mv_keep [0, 1, 2] h9
    · rw [if_neg h2] at h9
      exact mv_keep [0, 1, 2] h9
  | succ p ih =>
    intro k hk I1 hT
    have ck : (nI k).toNatClampNeg = k := nI_clamp (by omega)
    have hn : nI k < I1 30 19 := by
      rw [hT.1 30 (by decide), hq]
      exact nI_lt (by omega) (by omega)
    have hx := ih (k + 1) (by omega)
    rw [mmy, nI_succ k] at hx
    refine mv_run_V (stop := [9, 20]) 40 _ _ _ _ _ ?_
    refine ⟨rfl, fun h1 => absurd hn h1, fun h1 => ?_⟩
    refine ⟨fun h2 => ?_, fun h2 => ?_⟩
    · rw [if_pos h2] at hx
      exact hx I1 hT
    · rw [if_neg h2] at hx
      refine ⟨rfl, rfl, ⟨MH_TF hT hM, nI v, k, q, (by rw [hT.1 30 (by decide)]; exact hq), by omega, hq6, rfl⟩, fun r1 I2 J2 hp => ?_⟩
      obtain ⟨rfl, hT2, hr⟩ := hp
      have hr : r1 = some (.int (mis I1 (nI v) (nI k).toNatClampNeg)) := hr
      rw [ck, mis_TF hT] at hr
      subst hr
      refine ⟨fun h3 => ?_, fun h3 => ?_⟩
      · rw [if_pos h3] at hx
        exact hx I2 (TF_trans hT hT2)
      · rw [if_neg h3] at hx
        exact hx I2 (TF_trans hT hT2)
theorem cb_mWhich : mv_body 145 mv_t_X7_which (mv_cs [(111, sp_isSo)]) sp_mWhich := by
  intro as I J h
  obtain ⟨hM, rfl⟩ := h
  have hM := MH_th hM
  have hM2 := hM
  obtain ⟨-, -, -, q, hq6, hq, -⟩ := hM2
  have key9 : ∀ p v : Nat, v + p = 32 → ∀ I1, TF (th I) I1 → mv_V mv_ow mv_swf mv_t_X7_which (mv_cs [(111, sp_isSo)]) (sp_mWhich.2 [.ref 30] I J) 9 [(0, .ref 30), (1, .int (mwh (th I) q v)), (2, .int (nI v))] [] I1 J := by
    intro p
    induction p with
    | zero =>
      intro v hv I1 hT
      have hv : v = 32 := hv
      subst hv
      refine mv_run_V (stop := [9, 20]) 40 _ _ _ _ _ ?_
      refine ⟨fun h1 => ?_, fun h1 => absurd h1 (by decide)⟩
      exact ⟨rfl, hT, by rw [hq, nI_clamp (by omega)]⟩
    | succ p ih =>
      intro v hv I1 hT
      refine mv_run_V (stop := [9, 20]) 40 _ _ _ _ _ ?_
      refine ⟨fun h1 => ?_, fun h1 => ?_⟩
      · have h1 : ¬ nI v < nI 32 := h1
        exact absurd (nI_lt (by omega) (by decide)) h1
      · refine which_20 (S := mwh (th I) q v) hM (by omega) hq hq6 (fun I2 hT2 => ?_) q 0 (Nat.zero_add q) I1 hT
        have h2 := ih (v + 1) (by omega) I2 hT2
        rw [mwh, nI_succ] at h2
        exact h2
  have key : mv_V mv_ow mv_swf mv_t_X7_which (mv_cs [(111, sp_isSo)]) (sp_mWhich.2 [.ref 30] I J) 5 [(0, .ref 30)] [] (th I) J := by
    refine mv_run_V (stop := [9]) 40 _ _ _ _ _ ?_
    exact key9 32 0 rfl _ TF_rfl
  refine ⟨rfl, mv_run_V (stop := [5]) 40 _ _ _ _ _ ?_⟩
  exact ⟨rfl, key⟩
theorem c_mWhich {l : Launch} {G : mv_G} {A : Nat → Prop} (hG : mv_adk G A) : mv_Con l G A 145 sp_mWhich := mv_con hG 145 mv_k_X7_which (by decide +kernel) (mv_cs_cons (c_isSo hG) (mv_cs_nil)) cb_mWhich
