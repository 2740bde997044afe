/-! The reference: would, ranked. -/
/-- what was expected at the place p of the past -/
def mrE (I : mv_I) (a s p : Nat) : Int32 := (I 39 (a + 10) >>> ((4 : Int32) &&& 31)) + mfg I s (I 39 (a + 4) - I 39 (a + 11) + nI p).toNatClampNeg - 5
def mrp (I : mv_I) (a s : Nat) (k h : Int32) : Nat → Nat → Int32 → Int32 → Int32
  | 0, _, _, _ => -9
  | q + 1, p, u, d =>
    if I 39 (a + 12 + p) = -9 then mrp I a s k h q (p + 1) u d
    else if ¬ mv_mx 0 (u + I 39 (a + 12 + p) - mrE I a s p - k) < h then nI p
    else if ¬ mv_mx 0 (d + mrE I a s p - I 39 (a + 12 + p) - k) < h then nI p
    else mrp I a s k h q (p + 1) (mv_mx 0 (u + I 39 (a + 12 + p) - mrE I a s p - k)) (mv_mx 0 (d + mrE I a s p - I 39 (a + 12 + p) - k))
def sp_mWould : mv_SP := (fun as I _ => MH 9000 I ∧ ∃ s k h : Int32, as = [.ref 30, .int s, .int k, .int h] ∧ (msv I s → ∃ n d : Nat, n ≤ d ∧ d ≤ 9000 ∧ n ≤ 12 ∧ I 39 (24 * s.toNatClampNeg + 11) = nI n ∧ I 39 (24 * s.toNatClampNeg + 4) = nI d),
  fun as I J r I' J' => J = J' ∧ I' = th I ∧ ∀ s k h : Int32, as = [.ref 30, .int s, .int k, .int h] → r = some (.int (if msv (th I) s then (if (0 ≤ k ∧ k ≤ 9) ∧ (1 ≤ h ∧ h ≤ 99) then mrp (th I) (24 * s.toNatClampNeg) s.toNatClampNeg k h (th I 39 (24 * s.toNatClampNeg + 11)).toNatClampNeg 0 0 0 else -2) else -1)))
theorem would_no {I : mv_I} {J : mv_J} {s k h : Int32} (h1 : msv (th I) s) (h2 : ¬ ((0 ≤ k ∧ k ≤ 9) ∧ (1 ≤ h ∧ h ≤ 99))) : sp_mWould.2 [.ref 30, .int s, .int k, .int h] I J (some (.int (-2))) (th I) J := by
  refine ⟨rfl, rfl, fun s' k' h' e => ?_⟩
  cases e
  rw [if_pos h1, if_neg h2]
theorem would_57 {I : mv_I} {J : mv_J} {k h : Int32} {a s n d : Nat} {K : mv_K} (hs : s < 5) (ha : a ≤ 96) (hn : n ≤ 12) (hd : d ≤ 9000) (hnd : n ≤ d) (hL : ∃ L : Nat, 1 ≤ L ∧ L ≤ 5 ∧ I 34 s = nI L) (h11 : I 39 (a + 11) = nI n) (h4 : I 39 (a + 4) = nI d) (fin : ∀ x : Int32, x = mrp I a s k h n 0 0 0 → K (some (.int x)) I J) : ∀ q p : Nat, p + q = n → ∀ u dn : Int32, mrp I a s k h q p u dn = mrp I a s k h n 0 0 0 → mv_V mv_ow mv_swf mv_t_X7_would (mv_cs [(123, sp_noSeries), (109, sp_in), (105, sp_figureOf), (126, sp_over)]) K 57 [(0, .ref 30), (1, .int (nI s)), (2, .int k), (3, .int h), (4, .int (nI a)), (5, .int u), (6, .int dn), (7, .int (nI p))] [] I J := by
  have cs : (nI s).toNatClampNeg = s := nI_clamp (by omega)
  have c4 : (nI a + 4).toNatClampNeg = a + 4 := ix (k := 4)
  have c10 : (nI a + 10).toNatClampNeg = a + 10 := ix (k := 10)
  have c11 : (nI a + 11).toNatClampNeg = a + 11 := ix (k := 11)
  intro q
  induction q with
  | zero =>
    intro p hp u dn hf
    have hp : p = n := hp
    subst hp
    have hn2 : ¬ nI p < I 39 (nI a + 11).toNatClampNeg := by
      rw [c11, h11]
      exact nI_nlt (Nat.le_refl _) (by omega)
    refine mv_run_V (stop := [57]) 40 _ _ _ _ _ ?_
    refine ⟨rfl, _, rfl, _, rfl, ixin (k := 11) (by omega), fun h1 => fin _ hf, fun h1 => absurd h1 hn2⟩
  | succ q ih =>
    intro p hp u dn hf
    rw [mrp] at hf
    have hn2 : nI p < I 39 (nI a + 11).toNatClampNeg := by
      rw [c11, h11]
      exact nI_lt (by omega) (by omega)
    have e12 : nI a + 12 + nI p = nI (a + 12 + p) := by
      show nI a + nI 12 + nI p = _
      rw [nI_add, nI_add]
    have c12 : (nI a + 12 + nI p).toNatClampNeg = a + 12 + p := by rw [e12]; exact nI_clamp (by omega)
    have i12 : vp_in (nI a + 12 + nI p) 121 := by rw [e12]; exact vp_in_nI (by omega) (by decide)
    have eday : I 39 (nI a + 4).toNatClampNeg - I 39 (nI a + 11).toNatClampNeg + nI p = nI (d - n + p) := by
      rw [c4, c11, h4, h11, pk_sub hnd, nI_add]
    have nx : ∀ x8 x9 : Value, ∀ u' d' : Int32, mrp I a s k h q (p + 1) u' d' = mrp I a s k h n 0 0 0 → mv_V mv_ow mv_swf mv_t_X7_would (mv_cs [(123, sp_noSeries), (109, sp_in), (105, sp_figureOf), (126, sp_over)]) K 57 [(0, .ref 30), (1, .int (nI s)), (2, .int k), (3, .int h), (4, .int (nI a)), (5, .int u'), (6, .int d'), (7, .int (nI p + 1)), (8, x8), (9, x9)] [] I J := by
      intro x8 x9 u' d' h'
      have h6 := ih (p + 1) (by omega) u' d' h'
      rw [nI_succ] at h6
      exact mv_keep [0, 1, 2, 3, 4, 5, 6, 7] h6
    have nx8 : ∀ x8 : Value, ∀ u' d' : Int32, mrp I a s k h q (p + 1) u' d' = mrp I a s k h n 0 0 0 → mv_V mv_ow mv_swf mv_t_X7_would (mv_cs [(123, sp_noSeries), (109, sp_in), (105, sp_figureOf), (126, sp_over)]) K 57 [(0, .ref 30), (1, .int (nI s)), (2, .int k), (3, .int h), (4, .int (nI a)), (5, .int u'), (6, .int d'), (7, .int (nI p + 1)), (8, x8)] [] I J := by
      intro x8 u' d' h'
      have h6 := ih (p + 1) (by omega) u' d' h'
      rw [nI_succ] at h6
      exact mv_keep [0, 1, 2, 3, 4, 5, 6, 7] h6
    have key139 : ¬ I 39 (a + 12 + p) = -9 → mv_V mv_ow mv_swf mv_t_X7_would (mv_cs [(123, sp_noSeries), (109, sp_in), (105, sp_figureOf), (126, sp_over)]) K 139 [(0, .ref 30), (1, .int (nI s)), (2, .int k), (3, .int h), (4, .int (nI a)), (5, .int u), (6, .int dn), (7, .int (nI p)), (8, .int (I 39 (a + 12 + p))), (9, .int (mrE I a s p))] [] I J := by
      intro h9
      rw [if_neg h9] at hf
      refine mv_run_V (stop := [57]) 60 _ _ _ _ _ ?_
      refine ⟨rfl, ⟨_, rfl⟩, fun r1 I1 J1 hp => ?_⟩
      obtain ⟨rfl, rfl, hq⟩ := hp
      have hq : r1 = some (.int (mv_mx 0 (u + I 39 (a + 12 + p) - mrE I a s p - k))) := hq
      subst hq
      refine ⟨rfl, ⟨_, rfl⟩, fun r1 I1 J1 hp => ?_⟩
      obtain ⟨rfl, rfl, hq⟩ := hp
      have hq : r1 = some (.int (mv_mx 0 (dn + mrE I a s p - I 39 (a + 12 + p) - k))) := hq
      subst hq
      refine ⟨fun h1 => ?_, fun h1 => ?_⟩
      · rw [if_pos h1] at hf
        exact fin _ hf
      · rw [if_neg (fun z => z h1)] at hf
        refine ⟨fun h2 => ?_, fun h2 => ?_⟩
        · rw [if_neg (fun z => z h2)] at hf
          exact nx _ _ _ _ hf
        · rw [if_pos h2] at hf
          exact fin _ hf
    refine mv_run_V (stop := [57, 139]) 60 _ _ _ _ _ ?_
    refine ⟨rfl, _, rfl, _, rfl, ixin (k := 11) (by omega), fun h1 => absurd hn2 h1, fun _ => ?_⟩
    refine ⟨rfl, _, rfl, _, rfl, i12, fun h9 => ?_, fun h9 => ?_⟩
    · have h9 : I 39 (nI a + 12 + nI p).toNatClampNeg = -9 := h9
      rw [c12] at h9
      rw [if_pos h9] at hf
      exact nx8 _ _ _ hf
    · have h9 : ¬ I 39 (nI a + 12 + nI p).toNatClampNeg = -9 := h9
      rw [c12] at h9
      have k6 := key139 h9
      refine ⟨rfl, _, rfl, _, rfl, ixin (k := 10) (by omega), rfl, _, rfl, _, rfl, ixin (k := 4) (by omega), rfl, _, rfl, _, rfl, ixin (k := 11) (by omega), rfl, rfl, ⟨s, d - n + p, hs, by omega, hL, congrArg (fun z => [Value.ref 30, .int (nI s), .int z]) eday⟩, fun r1 I1 J1 hp => ?_⟩
      obtain ⟨rfl, rfl, hq⟩ := hp
      have hq : r1 = some (.int (mfg I (nI s).toNatClampNeg (I 39 (nI a + 4).toNatClampNeg - I 39 (nI a + 11).toNatClampNeg + nI p).toNatClampNeg)) := hq
      subst hq
      have e : mrE I a s p = (I 39 (nI a + 10).toNatClampNeg >>> ((4 : Int32) &&& 31)) + mfg I (nI s).toNatClampNeg (I 39 (nI a + 4).toNatClampNeg - I 39 (nI a + 11).toNatClampNeg + nI p).toNatClampNeg - 5 := by
        rw [c4, c10, c11, cs]
        rfl
      rw [e, ← c12] at k6
      exact k6
theorem cb_mWould : mv_body 147 mv_t_X7_would (mv_cs [(123, sp_noSeries), (109, sp_in), (105, sp_figureOf), (126, sp_over)]) sp_mWould := by
  intro as I J h
  obtain ⟨hM, s, k, h, rfl, hnd⟩ := h
  have hM := MH_th hM
  have key : mv_V mv_ow mv_swf mv_t_X7_would (mv_cs [(123, sp_noSeries), (109, sp_in), (105, sp_figureOf), (126, sp_over)]) (sp_mWould.2 [.ref 30, .int s, .int k, .int h] I J) 5 [(0, .ref 30), (1, .int s), (2, .int k), (3, .int h)] [] (th I) J := by
    refine mv_run_V (stop := [42]) 60 _ _ _ _ _ ?_
    refine ⟨rfl, rfl, ⟨_, rfl⟩, fun r1 I1 J1 hp => ?_⟩
    obtain ⟨rfl, rfl, hqz⟩ := hp
    have hqy : r1 = some (.int (mv_b (¬ msv (th I) s))) := hqz
    clear hqz
    subst hqy
    refine ⟨fun h1 => ?_, fun h1 => ?_⟩
    · have h1 : msv (th I) s := Decidable.not_not.mp (mv_b0.mp h1)
      obtain ⟨n, d, hn1, hd1, hn12, e11, e4⟩ := hnd h1
      obtain ⟨j, hj, rfl, cj, hMB⟩ := MH_in hM h1
      rw [cj] at e11 e4
      refine ⟨rfl, ⟨_, _, _, rfl⟩, fun r1 I1 J1 hp => ?_⟩
      obtain ⟨rfl, rfl, hqz⟩ := hp
      have hqy : r1 = some (.int (mv_b ((0 : Int64) ≤ (k : Int32).toInt64 ∧ (k : Int32).toInt64 ≤ (9 : Int64)))) := hqz
      clear hqz
      rw [mv_bc (in_w (lo := 0) (hi := 9))] at hqy
      subst hqy
      refine ⟨fun h3 => ?_, fun h3 => ?_⟩
      · exact would_no h1 (fun z => mv_b0.mp h3 z.1)
      · have h3 := b_yes h3
        refine ⟨rfl, ⟨_, _, _, rfl⟩, fun r1 I1 J1 hp => ?_⟩
        obtain ⟨rfl, rfl, hqz⟩ := hp
        have hqy : r1 = some (.int (mv_b ((1 : Int64) ≤ (h : Int32).toInt64 ∧ (h : Int32).toInt64 ≤ (99 : Int64)))) := hqz
        clear hqz
        rw [mv_bc (in_w (lo := 1) (hi := 99))] at hqy
        subst hqy
        refine ⟨fun h4 => ?_, fun h4 => ?_⟩
        · have h4 := b_yes h4
          have key42 : mv_V mv_ow mv_swf mv_t_X7_would (mv_cs [(123, sp_noSeries), (109, sp_in), (105, sp_figureOf), (126, sp_over)]) (sp_mWould.2 [.ref 30, .int (nI j), .int k, .int h] I J) 42 [(0, .ref 30), (1, .int (nI j)), (2, .int k), (3, .int h)] [] (th I) J := by
            have k6 := would_57 (I := th I) (J := J) (k := k) (h := h) (K := sp_mWould.2 [.ref 30, .int (nI j), .int k, .int h] I J) hj (a := 24 * j) (by omega) hn12 hd1 hn1 hMB.2.2 (by rw [th_ne (by decide)]; exact e11) (by rw [th_ne (by decide)]; exact e4) (fun x hx => ⟨rfl, rfl, fun s' k' h' e => by
              cases e
              rw [if_pos h1, if_pos ⟨h3, h4⟩, cj, hx, th_ne (by decide), e11, nI_clamp (by omega)]⟩) n 0 (Nat.zero_add n) 0 0 rfl
            rw [← e24 j] at k6
            refine mv_run_V (stop := [57]) 30 _ _ _ _ _ ?_
            exact k6
          exact key42
        · exact would_no h1 (fun z => mv_b0.mp h4 z.2)
    · have h1 : ¬ msv (th I) s := b_yes h1
      refine ⟨rfl, rfl, fun s' k' h' e => ?_⟩
      cases e
      rw [if_neg h1]
  refine ⟨rfl, mv_run_V (stop := [5]) 40 _ _ _ _ _ ?_⟩
  exact ⟨rfl, key⟩
theorem c_mWould {l : Launch} {G : mv_G} {A : Nat → Prop} (hG : mv_adk G A) : mv_Con l G A 147 sp_mWould := mv_con hG 147 mv_k_X7_would (by decide +kernel) (mv_cs_cons (c_noSeries hG) (mv_cs_cons (c_in hG) (mv_cs_cons (c_figureOf hG) (mv_cs_cons (c_over hG) (mv_cs_nil))))) cb_mWould
def mby (I : mv_I) (s o : Nat) : Int32 := mnr I o * I 39 (24 * s + 1) - mnr I s * I 39 (24 * o + 1)
/-- how many of the first o series stand before the series s -/
def mrkA (I : mv_I) (s : Nat) : Nat → Int32
  | 0 => 0
  | o + 1 => mrkA I s o + (if 0 < mby I s o ∨ (mby I s o = 0 ∧ nI o < nI s) then 1 else 0)
def mrkF (I : mv_I) (k : Int32) (m : Nat) : Nat → Int32
  | 0 => 0
  | s + 1 => if mrkA I s m = k then nI s else mrkF I k m s
def sp_mRanked : mv_SP := (fun as I _ => MH 9000 I ∧ ∃ k : Int32, as = [.ref 30, .int k],
  fun as I J r I' J' => J = J' ∧ I' = th I ∧ ∀ k : Int32, as = [.ref 30, .int k] → r = some (.int (if msv (th I) k then mrkF (th I) k (th I 30 4).toNatClampNeg (th I 30 4).toNatClampNeg else -1)))
theorem ranked_41 {I : mv_I} {J : mv_J} {k F : Int32} {s m : Nat} {K : mv_K} (hm5 : m ≤ 5) (hs : s < m) (hm : I 30 4 = nI m) (hK : mv_V mv_ow mv_swf mv_t_X7_ranked (mv_cs [(109, sp_in), (122, sp_nearOf)]) K 27 [(0, .ref 30), (1, .int k), (2, .int (if mrkA I s m = k then nI s else F)), (3, .int (nI s + 1))] [] I J) : ∀ q o : Nat, o + q = m → mv_V mv_ow mv_swf mv_t_X7_ranked (mv_cs [(109, sp_in), (122, sp_nearOf)]) K 41 [(0, .ref 30), (1, .int k), (2, .int F), (3, .int (nI s)), (4, .int (mrkA I s o)), (5, .int (nI o))] [] I J := by
  have cs : (nI s).toNatClampNeg = s := nI_clamp (by omega)
  intro q
  induction q with
  | zero =>
    intro o ho
    have ho : o = m := ho
    subst ho
    refine mv_run_V (stop := [27, 41]) 40 _ _ _ _ _ ?_
    refine ⟨rfl, fun h1 => ?_, fun h1 => ?_⟩
    · refine ⟨fun h2 => ?_, fun h2 => ?_⟩
      · rw [if_neg h2] at hK
        exact mv_keep [0, 1, 2, 3] hK
      · rw [if_pos h2] at hK
        exact mv_keep [0, 1, 2, 3] hK
    · rw [hm] at h1
      exact absurd h1 (nI_nlt (Nat.le_refl _) (by omega))
  | succ q ih =>
    intro o ho
    have co : (nI o).toNatClampNeg = o := nI_clamp (by omega)
    have cs1 : (nI 24 * nI s + 1).toNatClampNeg = 24 * s + 1 := by rw [e24]; exact ix (k := 1)
    have co1 : (nI 24 * nI o + 1).toNatClampNeg = 24 * o + 1 := by rw [e24]; exact ix (k := 1)
    have is1 : vp_in (nI 24 * nI s + nI 1) 121 := by rw [e24]; exact ixin (by omega)
    have io1 : vp_in (nI 24 * nI o + nI 1) 121 := by rw [e24]; exact ixin (by omega)
    have hx := ih (o + 1) (by omega)
    rw [mrkA, nI_succ o] at hx
    refine mv_run_V (stop := [27, 41]) 60 _ _ _ _ _ ?_
    refine ⟨rfl, fun h1 => ?_, fun h1 => ?_⟩
    · rw [hm] at h1
      exact absurd (nI_lt (by omega) (by omega)) h1
    · refine ⟨rfl, rfl, ⟨o, by omega, rfl⟩, fun r1 I1 J1 hp => ?_⟩
      obtain ⟨rfl, rfl, hq⟩ := hp
      have hq : r1 = some (.int (mnr I (nI o).toNatClampNeg)) := hq
      rw [co] at hq
      subst hq
      refine ⟨rfl, _, rfl, _, rfl, is1, rfl, rfl, ⟨s, by omega, rfl⟩, fun r1 I1 J1 hp => ?_⟩
      obtain ⟨rfl, rfl, hq⟩ := hp
      have hq : r1 = some (.int (mnr I (nI s).toNatClampNeg)) := hq
      rw [cs] at hq
      subst hq
      have eb : mnr I o * I 39 (nI 24 * nI s + 1).toNatClampNeg - mnr I s * I 39 (nI 24 * nI o + 1).toNatClampNeg = mby I s o := by
        rw [cs1, co1]
        rfl
      refine ⟨rfl, _, rfl, _, rfl, io1, fun h2 => ?_, fun h2 => ?_⟩
      · have h2 : 0 < mnr I o * I 39 (nI 24 * nI s + 1).toNatClampNeg - mnr I s * I 39 (nI 24 * nI o + 1).toNatClampNeg := h2
        rw [eb] at h2
        rw [if_pos (Or.inl h2)] at hx
        exact mv_keep [0, 1, 2, 3, 4, 5] hx
      · have h2 : ¬ 0 < mnr I o * I 39 (nI 24 * nI s + 1).toNatClampNeg - mnr I s * I 39 (nI 24 * nI o + 1).toNatClampNeg := h2
        rw [eb] at h2
        refine ⟨fun h3 => ?_, fun h3 => ?_⟩
        · have h3 : ¬ mnr I o * I 39 (nI 24 * nI s + 1).toNatClampNeg - mnr I s * I 39 (nI 24 * nI o + 1).toNatClampNeg = 0 := h3
          rw [eb] at h3
          rw [if_neg (fun z => z.elim h2 (fun z => h3 z.1))] at hx
          exact mv_keep [0, 1, 2, 3, 4, 5] hx
        · have h3 : mnr I o * I 39 (nI 24 * nI s + 1).toNatClampNeg - mnr I s * I 39 (nI 24 * nI o + 1).toNatClampNeg = 0 := h3
          rw [eb] at h3
          refine ⟨fun h4 => ?_, fun h4 => ?_⟩
          · rw [if_neg (fun z => z.elim h2 (fun z => h4 z.2))] at hx
            exact mv_keep [0, 1, 2, 3, 4, 5] hx
          · rw [if_pos (Or.inr ⟨h3, h4⟩)] at hx
            exact mv_keep [0, 1, 2, 3, 4, 5] hx
theorem cb_mRanked : mv_body 129 mv_t_X7_ranked (mv_cs [(109, sp_in), (122, sp_nearOf)]) sp_mRanked := by
  intro as I J h
  obtain ⟨hM, k, rfl⟩ := h
  have hM := MH_th hM
  obtain ⟨⟨m, hm5, hm, -⟩, -⟩ := hM
  have key27 : msv (th I) k → ∀ q s : Nat, s + q = m → mv_V mv_ow mv_swf mv_t_X7_ranked (mv_cs [(109, sp_in), (122, sp_nearOf)]) (sp_mRanked.2 [.ref 30, .int k] I J) 27 [(0, .ref 30), (1, .int k), (2, .int (mrkF (th I) k m s)), (3, .int (nI s))] [] (th I) J := by
    intro h1 q
    induction q with
    | zero =>
      intro s hs
      have hs : s = m := hs
      subst hs
      refine mv_run_V (stop := [27, 41]) 40 _ _ _ _ _ ?_
      refine ⟨rfl, fun h2 => ?_, fun h2 => ?_⟩
      · refine ⟨rfl, rfl, fun k' e => ?_⟩
        cases e
        rw [if_pos h1, hm, nI_clamp (by omega)]
      · rw [hm] at h2
        exact absurd h2 (nI_nlt (Nat.le_refl _) (by omega))
    | succ q ih =>
      intro s hs
      have hx := ih (s + 1) (by omega)
      rw [mrkF, nI_succ s] at hx
      refine mv_run_V (stop := [27, 41]) 40 _ _ _ _ _ ?_
      refine ⟨rfl, fun h2 => ?_, fun h2 => ?_⟩
      · rw [hm] at h2
        exact absurd (nI_lt (by omega) (by omega)) h2
      · exact ranked_41 hm5 (by omega) hm hx m 0 (Nat.zero_add m)
  have key : mv_V mv_ow mv_swf mv_t_X7_ranked (mv_cs [(109, sp_in), (122, sp_nearOf)]) (sp_mRanked.2 [.ref 30, .int k] I J) 5 [(0, .ref 30), (1, .int k)] [] (th I) J := by
    refine mv_run_V (stop := [27]) 60 _ _ _ _ _ ?_
    refine ⟨rfl, ?_⟩
    refine ⟨rfl, ⟨_, _, _, rfl⟩, fun r1 I1 J1 hp => ?_⟩
    obtain ⟨rfl, rfl, hqz⟩ := hp
    have hqy : r1 = some (.int (mv_b ((0 : Int64) ≤ (k : Int32).toInt64 ∧ (k : Int32).toInt64 ≤ (th I 30 4 - 1 : Int32).toInt64))) := hqz
    clear hqz
    rw [mv_bc (in_w (lo := 0) (hi := th I 30 4 - 1))] at hqy
    subst hqy
    refine ⟨fun h1 => ?_, fun h1 => ?_⟩
    · exact key27 (b_yes h1) m 0 (Nat.zero_add m)
    · have h1 := mv_b0.mp h1
      refine ⟨rfl, rfl, fun k' e => ?_⟩
      cases e
      rw [if_neg h1]
  refine ⟨rfl, mv_run_V (stop := [5]) 40 _ _ _ _ _ ?_⟩
  exact ⟨rfl, key⟩
theorem c_mRanked {l : Launch} {G : mv_G} {A : Nat → Prop} (hG : mv_adk G A) : mv_Con l G A 129 sp_mRanked := mv_con hG 129 mv_k_X7_ranked (by decide +kernel) (mv_cs_cons (c_in hG) (mv_cs_cons (c_nearOf hG) (mv_cs_nil))) cb_mRanked
