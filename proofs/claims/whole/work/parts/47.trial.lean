/-! The reference: what is tried. -/
theorem mcm_ne {I : mv_I} {r a x : Nat} {v : Int32} (h : x ≠ r) : mcm I r a v x = I x := by
  unfold mcm
  rw [mv_sr_ne h]
theorem mcm_4 {I : mv_I} {r a : Nat} {v : Int32} : mcm I r a v r (a + 4) = I r (a + 4) + 1 := by
  unfold mcm mcf
  rw [mv_sr_ap, if_pos rfl, if_pos rfl]
  split
  · unfold msf
    rw [if_neg (by omega), if_neg (by omega)]
  · rfl
theorem mcm_11 {I : mv_I} {r a : Nat} {v : Int32} : mcm I r a v r (a + 11) = if I r (a + 11) = 12 then 12 else I r (a + 11) + 1 := by
  unfold mcm mcf
  rw [mv_sr_ap, if_pos rfl, if_neg (by omega), if_pos rfl]
  by_cases h : I r (a + 11) = 12
  · rw [if_pos h, if_pos h]
    unfold msf
    rw [if_pos rfl]
    rfl
  · rw [if_neg h, if_neg h]
theorem MB_mcm {N r a s : Nat} {I : mv_I} {v : Int32} (hr : r ≠ 34) (h : MB N I r a s) : MB (N + 1) (mcm I r a v) r a s := by
  obtain ⟨⟨d, hd, e⟩, ⟨n, hn, en⟩, hL⟩ := h
  refine ⟨⟨d + 1, by omega, ?_⟩, ?_, ?_⟩
  · rw [mcm_4, e, nI_succ]
  · rw [mcm_11, en]
    by_cases h : nI n = 12
    · exact ⟨12, by omega, if_pos h⟩
    · have : n ≠ 12 := fun z => h (by rw [z]; rfl)
      exact ⟨n + 1, by omega, (if_neg h).trans (nI_1 n)⟩
  · rw [mcm_ne (by omega)]
    exact hL
theorem mca_ne {I : mv_I} {r a s x : Nat} {v : Int32} (h : x ≠ r) : mca I r a s v x = I x := by
  unfold mca
  split
  · split
    · unfold mmv
      rw [mv_si_ne h]
    · rfl
  · rw [mv_si_ne h, mv_si_ne h, mv_si_ne h]
theorem mct_ne {I : mv_I} {r a s x : Nat} {v : Int32} (h : x ≠ r) : mct I r a s v x = I x := by
  unfold mct
  rw [mcm_ne h, mv_si_ne h, mv_si_ne h, mca_ne h]
theorem MB_mct {N r a s : Nat} {I : mv_I} {v : Int32} (hr : r ≠ 34) (h : MB N I r a s) : MB (N + 1) (mct I r a s v) r a s := by
  unfold mct
  refine MB_mcm hr ?_
  obtain ⟨h1, h2, h3⟩ := h
  refine ⟨?_, ?_, ?_⟩
  · rw [mv_si_ap, if_neg (by omega), mv_si_ap, if_neg (by omega), mca_k (by decide) (by decide) (by decide) (by decide)]
    exact h1
  · rw [mv_si_ap, if_neg (by omega), mv_si_ap, if_neg (by omega), mca_k (by decide) (by decide) (by decide) (by decide)]
    exact h2
  · rw [mv_si_ne (by omega), mv_si_ne (by omega), mca_ne (by omega)]
    exact h3
/-- out of the row's 24 places nothing changes -/
theorem mcm_out {N I r a s b} {v : Int32} (h : MB N I r a s) (hb : b < a ∨ a + 24 ≤ b) : mcm I r a v r b = I r b := by
  obtain ⟨-, ⟨n, hn, en⟩, -⟩ := h
  unfold mcm mcf
  rw [mv_sr_ap, if_pos rfl, if_neg (by omega), if_neg (by omega)]
  by_cases h : I r (a + 11) = 12
  · rw [if_pos h]
    unfold msf
    rw [if_pos rfl, if_neg (by have e11 : (11 : Int32).toNatClampNeg = 11 := rfl; omega), if_neg (by omega), if_neg (by omega)]
  · rw [if_neg h, en, nI_clamp (by omega)]
    have : n ≠ 12 := fun z => h (by rw [en, z]; rfl)
    rw [if_neg (by omega)]
theorem mca_out {I : mv_I} {r a s b : Nat} {v : Int32} (hb : b < a ∨ a + 24 ≤ b) : mca I r a s v r b = I r b := by
  unfold mca
  split
  · split
    · unfold mmv
      rw [mv_si_ap, if_neg (by omega)]
    · rfl
  · rw [mv_si_ap, if_neg (by omega), mv_si_ap, if_neg (by omega), mv_si_ap, if_neg (by omega)]
theorem mct_out {N I r a s b} {v : Int32} (hr : r ≠ 34) (h : MB N I r a s) (hb : b < a ∨ a + 24 ≤ b) : mct I r a s v r b = I r b := by
  unfold mct
  have h0 : MB N (mv_si (mv_si (mca I r a s v) r (a + 5) (mcu I r a s v)) r (a + 6) (mcd I r a s v)) r a s := by
    obtain ⟨h1, h2, h3⟩ := h
    refine ⟨?_, ?_, ?_⟩
    · rw [mv_si_ap, if_neg (by omega), mv_si_ap, if_neg (by omega), mca_k (by decide) (by decide) (by decide) (by decide)]
      exact h1
    · rw [mv_si_ap, if_neg (by omega), mv_si_ap, if_neg (by omega), mca_k (by decide) (by decide) (by decide) (by decide)]
      exact h2
    · rw [mv_si_ne (by omega), mv_si_ne (by omega), mca_ne (by omega)]
      exact h3
  rw [mcm_out h0 hb, mv_si_ap, if_neg (by omega), mv_si_ap, if_neg (by omega), mca_out hb]
/-- all cells but the trial's page are as they were -/
def TF (I I' : mv_I) : Prop := (∀ a, a ≠ 40 → I' a = I a) ∧ ∀ b, 121 ≤ b → I' 40 b = I 40 b
theorem TF_rfl {I : mv_I} : TF I I := ⟨fun _ _ => rfl, fun _ _ => rfl⟩
theorem TF_trans {I I' I2 : mv_I} (h : TF I I') (h2 : TF I' I2) : TF I I2 := ⟨fun a ha => (h2.1 a ha).trans (h.1 a ha), fun b hb => (h2.2 b hb).trans (h.2 b hb)⟩
theorem TF_mlt {I : mv_I} : TF I (mlt I) := by
  refine ⟨fun a ha => ?_, fun b hb => ?_⟩
  · unfold mlt
    rw [mv_sr_ne ha]
  · unfold mlt
    rw [mv_sr_at, fa_fill_out hb]
theorem mlt_TF {I I' : mv_I} (h : TF I I') : mlt I' = mlt I := by
  unfold mlt
  funext a b
  rw [mv_sr_ap, mv_sr_ap]
  by_cases ha : a = 40
  · rw [if_pos ha, if_pos ha, h.1 39 (by decide)]
    by_cases hb : b < 121
    · rw [fa_fill_in hb, fa_fill_in hb]
    · rw [fa_fill_out (by omega), fa_fill_out (by omega), h.2 b (by omega)]
  · rw [if_neg ha, if_neg ha, h.1 a ha]
theorem MB_mlt {N s : Nat} {I : mv_I} (hs : s < 5) (h : MB N I 39 (24 * s) s) : MB N (mlt I) 40 (24 * s) s := by
  have e : ∀ b, b < 121 → mlt I 40 b = I 39 b := fun b hb => by
    unfold mlt
    rw [mv_sr_at, fa_fill_in hb]
  unfold MB at *
  rw [e _ (by omega), e _ (by omega), TF_mlt.1 34 (by decide)]
  exact h
theorem TF_mct {N s : Nat} {I I' : mv_I} {v : Int32} (hs : s < 5) (hM : MB N I' 40 (24 * s) s) (h : TF I I') : TF I (mct I' 40 (24 * s) s v) :=
  ⟨fun a ha => (mct_ne ha).trans (h.1 a ha), fun b hb => (mct_out (by decide) hM (Or.inr (by omega))).trans (h.2 b hb)⟩
theorem TF_mcm {N s : Nat} {I I' : mv_I} {v : Int32} (hs : s < 5) (hM : MB N I' 40 (24 * s) s) (h : TF I I') : TF I (mcm I' 40 (24 * s) v) :=
  ⟨fun a ha => (mcm_ne ha).trans (h.1 a ha), fun b hb => (mcm_out hM (Or.inr (by omega))).trans (h.2 b hb)⟩
/-- k counts of v on the trial -/
def mcN (s : Nat) (v : Int32) : Nat → mv_I → mv_I
  | 0, T => T
  | k + 1, T => mct (mcN s v k T) 40 (24 * s) s v
theorem MB_mcN {N s : Nat} {T : mv_I} {v : Int32} (h : MB N T 40 (24 * s) s) : ∀ k, MB (N + k) (mcN s v k T) 40 (24 * s) s
  | 0 => h
  | k + 1 => MB_mct (by decide) (MB_mcN h k)
theorem TF_mcN {N s : Nat} {I T : mv_I} {v : Int32} (hs : s < 5) (h : MB N T 40 (24 * s) s) (hT : TF I T) : ∀ k, TF I (mcN s v k T)
  | 0 => hT
  | k + 1 => TF_mct hs (MB_mcN h k) (TF_mcN hs h hT k)
/-- the first of q counts behind k counts that has an alarm -/
def mfr (T : mv_I) (s : Nat) (v : Int32) : Nat → Nat → Int32
  | 0, _ => -9
  | q + 1, k => if 0 < mkK (mcN s v k T) 40 (24 * s) s v then nI (k + 1) else mfr T s v q (k + 1)
def sp_ringsBy : mv_SP := (fun as I _ => ∃ (s : Nat) (v : Int32), s < 5 ∧ MB 9000 I 39 (24 * s) s ∧ as = [.ref 30, .int (nI s), .int v],
  fun as I J r I' J' => J = J' ∧ TF I I' ∧ match as with
    | [_, .int s, .int v] => r = some (.int (mfr (mlt I) s.toNatClampNeg v 60 0))
    | _ => True)
theorem cb_ringsBy : mv_body 133 mv_t_X7_ringsBy (mv_cs [(115, sp_layTrial), (98, sp_countOn)]) sp_ringsBy := by
  intro as I J h
  obtain ⟨s, v, hs, hMB, rfl⟩ := h
  have cs : (nI s).toNatClampNeg = s := nI_clamp (by omega)
  have hM := MB_mlt hs hMB
  have fin : ∀ (x : Int32) (I1 : mv_I), TF I I1 → x = mfr (mlt I) s v 60 0 → sp_ringsBy.2 [.ref 30, .int (nI s), .int v] I J (some (.int x)) I1 J := by
    intro x I1 h1 hx
    refine ⟨rfl, h1, ?_⟩
    show some (Value.int x) = some (Value.int (mfr (mlt I) (nI s).toNatClampNeg v 60 0))
    rw [cs, hx]
  have key : ∀ q k : Nat, k + q = 60 → mfr (mlt I) s v q k = mfr (mlt I) s v 60 0 → mv_V mv_ow mv_swf mv_t_X7_ringsBy (mv_cs [(115, sp_layTrial), (98, sp_countOn)]) (sp_ringsBy.2 [.ref 30, .int (nI s), .int v] I J) 6 [(0, .ref 30), (1, .int (nI s)), (2, .int v), (3, .int (nI (k + 1)))] [] (mcN s v k (mlt I)) J := by
    intro q
    induction q with
    | zero =>
      intro k hk hf
      have hk : k = 60 := hk
      subst hk
      refine mv_run_V (stop := [6]) 30 _ _ _ _ _ ?_
      refine ⟨fun h1 => ?_, fun h1 => ?_⟩
      · exact fin _ _ (TF_mcN hs hM TF_mlt _) hf
      · exact absurd (by decide) h1
    | succ q ih =>
      intro k hk hf
      rw [mfr] at hf
      refine mv_run_V (stop := [6]) 60 _ _ _ _ _ ?_
      refine ⟨fun h1 => ?_, fun h1 => ?_⟩
      · have h1 : nI 60 < nI (k + 1) := h1
        exact absurd h1 (nI_nlt (by omega) (by decide))
      · refine ⟨rfl, _, rfl, rfl, rfl, ⟨40, s, v, Or.inr rfl, hs, MB_mono (by omega) (MB_mcN hM k), rfl⟩, fun r1 I1 J1 hp => ?_⟩
        obtain ⟨rfl, hq⟩ := hp
        have hq : r1 = some (.int (mkK (mcN s v k (mlt I)) 40 (24 * (nI s).toNatClampNeg) (nI s).toNatClampNeg v)) ∧ I1 = mct (mcN s v k (mlt I)) 40 (24 * (nI s).toNatClampNeg) (nI s).toNatClampNeg v := hq
        rw [cs] at hq
        obtain ⟨rfl, rfl⟩ := hq
        refine ⟨fun h3 => ?_, fun h3 => ?_⟩
        · rw [if_neg h3] at hf
          have h4 := ih (k + 1) (by omega) hf
          rw [nI_succ (k + 1)] at h4
          exact h4
        · rw [if_pos h3] at hf
          exact fin _ _ (TF_mcN hs hM TF_mlt (k + 1)) hf
  refine ⟨rfl, mv_run_V (stop := [6]) 40 _ _ _ _ _ ?_⟩
  refine ⟨rfl, rfl, rfl, fun r1 I1 J1 hp => ?_⟩
  obtain ⟨rfl, rfl, rfl⟩ := hp
  exact key 60 0 rfl rfl
theorem c_ringsBy {l : Launch} {G : mv_G} {A : Nat → Prop} (hG : mv_adk G A) : mv_Con l G A 133 sp_ringsBy := mv_con hG 133 mv_k_X7_ringsBy (by decide +kernel) (mv_cs_cons (c_layTrial hG) (mv_cs_cons (c_countOn hG) (mv_cs_nil))) cb_ringsBy
def sp_mRings : mv_SP := (fun as I _ => MH 9000 I ∧ ∃ s v : Int32, as = [.ref 30, .int s, .int v],
  fun as I J r I' J' => J = J' ∧ TF (th I) I' ∧ ∀ s v : Int32, as = [.ref 30, .int s, .int v] → r = some (.int (if msv (th I) s then (if 0 ≤ v ∧ v ≤ 99 then mfr (mlt (th I)) s.toNatClampNeg v 60 0 else -2) else -1)))
theorem cb_mRings : mv_body 132 mv_t_X7_rings (mv_cs [(123, sp_noSeries), (109, sp_in), (133, sp_ringsBy)]) sp_mRings := by
  intro as I J h
  obtain ⟨hM, s, v, rfl⟩ := h
  have hM := MH_th hM
  have key : mv_V mv_ow mv_swf mv_t_X7_rings (mv_cs [(123, sp_noSeries), (109, sp_in), (133, sp_ringsBy)]) (sp_mRings.2 [.ref 30, .int s, .int v] I J) 5 [(0, .ref 30), (1, .int s), (2, .int v)] [] (th I) J := by
    refine mv_run_V (stop := []) 60 _ _ _ _ _ ?_
    refine ⟨rfl, rfl, ⟨_, rfl⟩, fun r1 I1 J1 hp => ?_⟩
    obtain ⟨rfl, rfl, hq⟩ := hp
    have hq : r1 = some (.int (mv_b (¬ msv (th I) s))) := hq
    subst hq
    refine ⟨fun h1 => ?_, fun h1 => ?_⟩
    · have h1 : msv (th I) s := Decidable.not_not.mp (mv_b0.mp h1)
      obtain ⟨j, hj, rfl, cj, hMB⟩ := MH_in hM h1
      refine ⟨rfl, ⟨_, _, _, rfl⟩, fun r1 I1 J1 hp => ?_⟩
      obtain ⟨rfl, rfl, hq⟩ := hp
      have hq : r1 = some (.int (mv_b ((0 : Int64) ≤ (v : Int32).toInt64 ∧ (v : Int32).toInt64 ≤ (99 : Int64)))) := hq
      rw [mv_bc (in_w (lo := 0) (hi := 99))] at hq
      subst hq
      refine ⟨fun h3 => ?_, fun h3 => ?_⟩
      · have h3 := mv_b0.mp h3
        refine ⟨rfl, TF_rfl, fun s' v' e => ?_⟩
        cases e
        rw [if_pos h1, if_neg h3]
      · have h3 := b_yes h3
        refine ⟨rfl, rfl, ⟨j, v, hj, hMB, rfl⟩, fun r1 I1 J1 hp => ?_⟩
        obtain ⟨rfl, hT, hq⟩ := hp
        have hq : r1 = some (.int (mfr (mlt (th I)) (nI j).toNatClampNeg v 60 0)) := hq
        subst hq
        refine ⟨rfl, hT, fun s' v' e => ?_⟩
        cases e
        rw [if_pos h1, if_pos h3]
    · have h1 : ¬ msv (th I) s := b_yes h1
      refine ⟨rfl, TF_rfl, fun s' v' e => ?_⟩
      cases e
      rw [if_neg h1]
  refine ⟨rfl, mv_run_V (stop := [5]) 40 _ _ _ _ _ ?_⟩
  exact ⟨rfl, key⟩
theorem c_mRings {l : Launch} {G : mv_G} {A : Nat → Prop} (hG : mv_adk G A) : mv_Con l G A 132 sp_mRings := mv_con hG 132 mv_k_X7_rings (by decide +kernel) (mv_cs_cons (c_noSeries hG) (mv_cs_cons (c_in hG) (mv_cs_cons (c_ringsBy hG) (mv_cs_nil)))) cb_mRings
/-- the lowest number, from k on, whose alarm comes within n counts -/
def mls (T : mv_I) (s : Nat) (n : Int32) : Nat → Nat → Int32
  | 0, _ => -9
  | q + 1, k => if 0 < mfr T s (nI k) 60 0 ∧ ¬ n < mfr T s (nI k) 60 0 then nI k else mls T s n q (k + 1)
def sp_mLeast : mv_SP := (fun as I _ => MH 9000 I ∧ ∃ s n : Int32, as = [.ref 30, .int s, .int n],
  fun as I J r I' J' => J = J' ∧ TF (th I) I' ∧ ∀ s n : Int32, as = [.ref 30, .int s, .int n] → r = some (.int (if msv (th I) s then (if 1 ≤ n ∧ n ≤ 30 then mls (mlt (th I)) s.toNatClampNeg n 100 0 else -2) else -1)))
theorem cb_mLeast : mv_body 116 mv_t_X7_least (mv_cs [(123, sp_noSeries), (109, sp_in), (133, sp_ringsBy)]) sp_mLeast := by
  intro as I J h
  obtain ⟨hM, s, n, rfl⟩ := h
  have hM := MH_th hM
  have key32 : ∀ j : Nat, j < 5 → s = nI j → MB 9000 (th I) 39 (24 * j) j → msv (th I) s → 1 ≤ n ∧ n ≤ 30 → ∀ q k : Nat, k + q = 100 → mls (mlt (th I)) j n q k = mls (mlt (th I)) j n 100 0 → ∀ I1, TF (th I) I1 → mv_V mv_ow mv_swf mv_t_X7_least (mv_cs [(123, sp_noSeries), (109, sp_in), (133, sp_ringsBy)]) (sp_mLeast.2 [.ref 30, .int s, .int n] I J) 32 [(0, .ref 30), (1, .int (nI j)), (2, .int n), (3, .int (nI k))] [] I1 J := by
    intro j hj hsj hMB h1 h3 q
    have cj : (nI j).toNatClampNeg = j := nI_clamp (by omega)
    have fin : ∀ (x : Int32) (I1 : mv_I), TF (th I) I1 → x = mls (mlt (th I)) j n 100 0 → sp_mLeast.2 [.ref 30, .int s, .int n] I J (some (.int x)) I1 J := by
      intro x I1 hT hx
      refine ⟨rfl, hT, fun s' n' e => ?_⟩
      cases e
      rw [if_pos h1, if_pos h3, hsj, cj, hx]
    induction q with
    | zero =>
      intro k hk hf I1 hT
      have hk : k = 100 := hk
      subst hk
      refine mv_run_V (stop := [32]) 30 _ _ _ _ _ ?_
      refine ⟨fun h1 => ?_, fun h1 => ?_⟩
      · exact fin _ _ hT hf
      · exact absurd h1 (by decide)
    | succ q ih =>
      intro k hk hf I1 hT
      rw [mls] at hf
      refine mv_run_V (stop := [32]) 60 _ _ _ _ _ ?_
      refine ⟨fun h4 => ?_, fun h4 => ?_⟩
      · have h4 : ¬ nI k < nI 100 := h4
        exact absurd (nI_lt (by omega) (by decide)) h4
      · refine ⟨rfl, rfl, ⟨j, nI k, hj, MB_of (hT.1 _ (by decide)) (hT.1 _ (by decide)) hMB, rfl⟩, fun r1 I2 J2 hp => ?_⟩
        obtain ⟨rfl, hT2, hq⟩ := hp
        have hq : r1 = some (.int (mfr (mlt I1) (nI j).toNatClampNeg (nI k) 60 0)) := hq
        rw [cj, mlt_TF hT] at hq
        subst hq
        have hT3 := TF_trans hT hT2
        have nx : ¬ (0 < mfr (mlt (th I)) j (nI k) 60 0 ∧ ¬ n < mfr (mlt (th I)) j (nI k) 60 0) → mv_V mv_ow mv_swf mv_t_X7_least (mv_cs [(123, sp_noSeries), (109, sp_in), (133, sp_ringsBy)]) (sp_mLeast.2 [.ref 30, .int s, .int n] I J) 32 [(0, .ref 30), (1, .int (nI j)), (2, .int n), (3, .int (nI k + 1)), (4, .int (mfr (mlt (th I)) j (nI k) 60 0))] [] I2 J := by
          intro hn
          rw [if_neg hn] at hf
          refine mv_keep [0, 1, 2, 3] ?_
          have h5 := ih (k + 1) (by omega) hf I2 hT3
          rw [nI_succ] at h5
          exact h5
        refine ⟨fun h5 => ?_, fun h5 => ?_⟩
        · exact nx (fun z => h5 z.1)
        · refine ⟨fun h6 => ?_, fun h6 => ?_⟩
          · exact nx (fun z => z.2 h6)
          · rw [if_pos ⟨h5, h6⟩] at hf
            exact fin _ _ hT3 hf
  have key : mv_V mv_ow mv_swf mv_t_X7_least (mv_cs [(123, sp_noSeries), (109, sp_in), (133, sp_ringsBy)]) (sp_mLeast.2 [.ref 30, .int s, .int n] I J) 5 [(0, .ref 30), (1, .int s), (2, .int n)] [] (th I) J := by
    refine mv_run_V (stop := [32]) 60 _ _ _ _ _ ?_
    refine ⟨rfl, rfl, ⟨_, rfl⟩, fun r1 I1 J1 hp => ?_⟩
    obtain ⟨rfl, rfl, hq⟩ := hp
    have hq : r1 = some (.int (mv_b (¬ msv (th I) s))) := hq
    subst hq
    refine ⟨fun h1 => ?_, fun h1 => ?_⟩
    · have h1 : msv (th I) s := Decidable.not_not.mp (mv_b0.mp h1)
      obtain ⟨j, hj, hsj, cj, hMB⟩ := MH_in hM h1
      refine ⟨rfl, ⟨_, _, _, rfl⟩, fun r1 I1 J1 hp => ?_⟩
      obtain ⟨rfl, rfl, hq⟩ := hp
      have hq : r1 = some (.int (mv_b ((1 : Int64) ≤ (n : Int32).toInt64 ∧ (n : Int32).toInt64 ≤ (30 : Int64)))) := hq
      rw [mv_bc (in_w (lo := 1) (hi := 30))] at hq
      subst hq
      refine ⟨fun h3 => ?_, fun h3 => ?_⟩
      · have h3 := b_yes h3
        have k6 := key32 j hj hsj hMB h1 h3 100 0 rfl rfl _ TF_rfl
        rw [← hsj] at k6
        exact k6
      · have h3 := mv_b0.mp h3
        refine ⟨rfl, TF_rfl, fun s' v' e => ?_⟩
        cases e
        rw [if_pos h1, if_neg h3]
    · have h1 : ¬ msv (th I) s := b_yes h1
      refine ⟨rfl, TF_rfl, fun s' v' e => ?_⟩
      cases e
      rw [if_neg h1]
  refine ⟨rfl, mv_run_V (stop := [5]) 40 _ _ _ _ _ ?_⟩
  exact ⟨rfl, key⟩
theorem c_mLeast {l : Launch} {G : mv_G} {A : Nat → Prop} (hG : mv_adk G A) : mv_Con l G A 116 sp_mLeast := mv_con hG 116 mv_k_X7_least (by decide +kernel) (mv_cs_cons (c_noSeries hG) (mv_cs_cons (c_in hG) (mv_cs_cons (c_ringsBy hG) (mv_cs_nil)))) cb_mLeast
