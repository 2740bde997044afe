/-! Predictions. -/
theorem addI_ne {I : mv_I} {o a : Nat} {v : Int32} (h0 : a ≠ o) (h2 : a ≠ o + 2) : addI I o v a = I a := by
  unfold addI appI
  rw [mv_sr_ne h0, mv_sr_ne h2]
  unfold add3
  split
  · split
    · unfold adaptI add2 add1
      rw [mv_si_ne h0, mv_si_ne h0, mv_si_ne h0]
    · unfold add2 add1
      rw [mv_si_ne h0, mv_si_ne h0]
  · unfold add2 add1
    rw [mv_sr_ne h0, mv_si_ne h0, mv_si_ne h0]
theorem addN_ne {I : mv_I} {o a : Nat} {v : Int32} (h0 : a ≠ o) (h2 : a ≠ o + 2) : ∀ k, addN o v k I a = I a
  | 0 => rfl
  | k + 1 => (addI_ne h0 h2).trans (addN_ne h0 h2 k)
theorem appI_k {I : mv_I} {o : Nat} {v : Int32} (h : ∃ k : Nat, k ≤ 12 ∧ I o 15 = nI k) : ∃ k : Nat, k ≤ 12 ∧ appI I o v o 15 = nI k := by
  obtain ⟨k, hk, e⟩ := h
  unfold appI
  rw [mv_sr_ap, if_pos rfl, if_pos rfl, e]
  by_cases h : nI k < 12
  · have h : nI k < nI 12 := h
    have hk2 := (nI_ltI (by omega) (by omega)).mp h
    refine ⟨k + 1, by omega, ?_⟩
    exact (if_pos h).trans (nI_1 k)
  · exact ⟨12, Nat.le_refl _, if_neg h⟩
theorem addI_k {I : mv_I} {o : Nat} {v : Int32} (h : ∃ k : Nat, k ≤ 12 ∧ I o 15 = nI k) : ∃ k : Nat, k ≤ 12 ∧ addI I o v o 15 = nI k := by
  unfold addI
  exact appI_k (by rw [add3_15]; exact h)
theorem addN_k {I : mv_I} {o : Nat} {v : Int32} (h : ∃ k : Nat, k ≤ 12 ∧ I o 15 = nI k) : ∀ k, ∃ n : Nat, n ≤ 12 ∧ addN o v k I o 15 = nI n
  | 0 => h
  | k + 1 => addI_k (addN_k h k)
/-- the places that no series uses -/
def irr (b : Nat) : Prop := b = 5 ∨ b = 14 ∨ 16 ≤ b
theorem appI_irr {I : mv_I} {o b : Nat} {v : Int32} (h : irr b) : appI I o v o b = I o b := by
  unfold appI irr at *
  rw [mv_sr_ap, if_pos rfl, if_neg (by omega), if_neg (by omega)]
theorem add3_irr {I : mv_I} {o b : Nat} {v : Int32} (h : irr b) : add3 I o v o b = I o b := by
  unfold irr at h
  have e2 : add2 I o v o b = I o b := by
    unfold add2 add1
    rw [mv_si_ap, if_neg (by omega), mv_si_ap, if_neg (by omega)]
  unfold add3
  split
  · split
    · unfold adaptI
      rw [mv_si_ap, if_neg (by omega), e2]
    · exact e2
  · rw [mv_sr_ap, if_pos rfl]
    unfold ringF
    rw [if_neg (by omega), if_neg (by omega), if_neg (by omega), if_neg (by omega), if_neg (by omega), e2]
theorem addI_irr {I : mv_I} {o b : Nat} {v : Int32} (h : irr b) : addI I o v o b = I o b := by
  unfold addI
  rw [appI_irr h, add3_irr h]
theorem add3_ne {I : mv_I} {o a : Nat} {v : Int32} (h0 : a ≠ o) : add3 I o v a = I a := by
  unfold add3
  split
  · split
    · unfold adaptI add2 add1
      rw [mv_si_ne h0, mv_si_ne h0, mv_si_ne h0]
    · unfold add2 add1
      rw [mv_si_ne h0, mv_si_ne h0]
  · unfold add2 add1
    rw [mv_sr_ne h0, mv_si_ne h0, mv_si_ne h0]
theorem appI_th {I : mv_I} {o b : Nat} {v : Int32} (hk : ∃ k : Nat, k ≤ 12 ∧ I o 15 = nI k) (h : 12 ≤ b) : appI I o v (o + 2) b = I (o + 2) b := by
  obtain ⟨k, hk, e⟩ := hk
  unfold appI
  rw [mv_sr_ap, if_neg (by omega), mv_sr_ap, if_pos rfl, e]
  by_cases h1 : nI k < 12
  · have h2 : nI k < nI 12 := h1
    have hk2 := (nI_ltI (by omega) (by omega)).mp h2
    rw [if_pos h1, nI_clamp (by omega)]
    unfold upd
    rw [if_neg (by omega)]
  · rw [if_neg h1]
    unfold upd
    rw [if_neg (by omega)]
    exact pk_cpy_out (Or.inr (by omega))
theorem addI_th {I : mv_I} {o b : Nat} {v : Int32} (hk : ∃ k : Nat, k ≤ 12 ∧ I o 15 = nI k) (h : 12 ≤ b) : addI I o v (o + 2) b = I (o + 2) b := by
  unfold addI
  rw [appI_th (by rw [add3_15]; exact hk) h, add3_ne (by omega)]
/-- all cells but the trial's are as they were -/
def trOk (I I' : mv_I) : Prop := (∀ a, a ≠ 370 → a ≠ 371 → a ≠ 372 → I' a = I a) ∧ (∃ k : Nat, k ≤ 12 ∧ I' 370 15 = nI k) ∧ (∀ b, irr b → I' 370 b = I 370 b) ∧ (∀ b, 5 ≤ b → I' 371 b = I 371 b) ∧ ∀ b, 12 ≤ b → I' 372 b = I 372 b
theorem trOk_SH {I I' : mv_I} (hS : SH I) (h : trOk I I') : SH I' := by
  obtain ⟨h1, h2, -⟩ := h
  refine ⟨fun g hg => ?_, fun c hc => ?_, ?_, ?_, ?_, ?_, fun i hi => ?_⟩
  · rw [h1 _ (by omega) (by omega) (by omega)]
    exact hS.1 g hg
  · by_cases h9 : c = 90
    · subst h9
      exact h2
    · rw [h1 _ (by omega) (by omega) (by omega)]
      exact hS.2.1 c hc
  · rw [h1 3 (by decide) (by decide) (by decide)]
    exact hS.2.2.1
  · rw [h1 3 (by decide) (by decide) (by decide)]
    exact hS.2.2.2.1
  · rw [h1 1 (by decide) (by decide) (by decide)]
    exact hS.2.2.2.2.1
  · rw [h1 0 (by decide) (by decide) (by decide)]
    exact hS.2.2.2.2.2.1
  · rw [h1 (8 + i) (by omega) (by omega) (by omega)]
    exact hS.2.2.2.2.2.2 i hi
theorem trOk_copy {I : mv_I} {c : Nat} (hS : SH I) (hc : c < 90) : trOk I (copyI I 370 (100 + 3 * c)) := by
  refine ⟨fun a h0 h1 h2 => copyI_ne h0 h1 h2, ?_, fun b hb => ?_, fun b hb => ?_, fun b hb => ?_⟩
  · obtain ⟨k, hk, e⟩ := hS.2.1 c (by omega)
    refine ⟨k, hk, ?_⟩
    unfold copyI
    rw [mv_sr_ap, if_pos rfl, if_pos (by decide)]
    exact e
  · unfold copyI
    unfold irr at hb
    rw [mv_sr_ap, if_pos rfl, if_neg (by omega)]
  · unfold copyI
    rw [mv_sr_ap, if_neg (by decide), mv_sr_ap, if_neg (by decide), mv_sr_ap, if_pos rfl]
    exact pk_cpy_out (Or.inr (by omega))
  · unfold copyI
    rw [mv_sr_ap, if_neg (by decide), mv_sr_ap, if_pos rfl]
    exact pk_cpy_out (Or.inr (by omega))
theorem trOk_add {I I' : mv_I} {v : Int32} (h : trOk I I') : trOk I (addI I' 370 v) :=
  ⟨fun a h0 h1 h2 => (addI_ne h0 h2).trans (h.1 a h0 h1 h2), addI_k h.2.1, fun b hb => (addI_irr hb).trans (h.2.2.1 b hb), fun b hb => (congrFun (addI_ne (by decide) (by decide)) b).trans (h.2.2.2.1 b hb), fun b hb => (addI_th h.2.1 hb).trans (h.2.2.2.2 b hb)⟩
theorem trOk_addN {I I' : mv_I} {v : Int32} (h : trOk I I') : ∀ k : Nat, trOk I (addN 370 v k I')
  | 0 => h
  | k + 1 => trOk_add (trOk_addN h k)
theorem trOk_app {I I' : mv_I} {v : Int32} (h : trOk I I') : trOk I (appI I' 370 v) := by
  refine ⟨fun a h0 h1 h2 => ?_, appI_k h.2.1, fun b hb => (appI_irr hb).trans (h.2.2.1 b hb), fun b hb => ?_, fun b hb => (appI_th h.2.1 hb).trans (h.2.2.2.2 b hb)⟩
  · unfold appI
    rw [mv_sr_ne h0, mv_sr_ne h2]
    exact h.1 a h0 h1 h2
  · unfold appI
    rw [mv_sr_ne (by decide), mv_sr_ne (by decide)]
    exact h.2.2.2.1 b hb
theorem trOk_nn {I I' : mv_I} (h : trOk I I') : ¬ I' 370 15 < 0 := by
  obtain ⟨k, hk, e⟩ := h.2.1
  rw [e]
  exact nI_pos (by omega)
theorem trOk_trans {I I' I2 : mv_I} (h : trOk I I') (h2 : trOk I' I2) : trOk I I2 := ⟨fun a x y z => (h2.1 a x y z).trans (h.1 a x y z), h2.2.1, fun b hb => (h2.2.2.1 b hb).trans (h.2.2.1 b hb), fun b hb => (h2.2.2.2.1 b hb).trans (h.2.2.2.1 b hb), fun b hb => (h2.2.2.2.2 b hb).trans (h.2.2.2.2 b hb)⟩
/-- a copy made anew doesn't see what the trial held -/
theorem copyI_tr {I I' : mv_I} {c : Nat} (hc : c < 90) (h : trOk I I') : copyI I' 370 (100 + 3 * c) = copyI I 370 (100 + 3 * c) := by
  have q0 := h.1 (100 + 3 * c) (by omega) (by omega) (by omega)
  have q1 := h.1 (100 + 3 * c + 1) (by omega) (by omega) (by omega)
  have q2 := h.1 (100 + 3 * c + 2) (by omega) (by omega) (by omega)
  unfold copyI
  rw [q0, q1, q2]
  funext a b
  rw [mv_sr_ap, mv_sr_ap, mv_sr_ap, mv_sr_ap, mv_sr_ap, mv_sr_ap]
  by_cases h0 : a = 370
  · rw [if_pos h0, if_pos h0]
    by_cases hb : b < 16 ∧ b ≠ 5 ∧ b ≠ 14
    · rw [if_pos hb, if_pos hb]
    · rw [if_neg hb, if_neg hb]
      exact h.2.2.1 b (by unfold irr; omega)
  · rw [if_neg h0, if_neg h0]
    by_cases h2 : a = 370 + 2
    · rw [if_pos h2, if_pos h2]
      by_cases hb : b < 12
      · rw [pk_cpy_in (by omega) (by omega), pk_cpy_in (by omega) (by omega)]
      · rw [pk_cpy_out (Or.inr (by omega)), pk_cpy_out (Or.inr (by omega))]
        exact h.2.2.2.2 b (by omega)
    · rw [if_neg h2, if_neg h2]
      by_cases h1 : a = 370 + 1
      · rw [if_pos h1, if_pos h1]
        by_cases hb : b < 5
        · rw [pk_cpy_in (by omega) (by omega), pk_cpy_in (by omega) (by omega)]
        · rw [pk_cpy_out (Or.inr (by omega)), pk_cpy_out (Or.inr (by omega))]
          exact h.2.2.2.1 b (by omega)
      · rw [if_neg h1, if_neg h1]
        exact congrFun (h.1 a h0 h1 h2) b
/-- the first of r counts behind k counts that has an alarm -/
def farF (T : mv_I) (v : Int32) : Nat → Nat → Int32
  | 0, _ => -9
  | r + 1, k => if addK (addN 370 v k T) 370 v = 0 then farF T v r (k + 1) else nI (k + 1)
def sp_firstAlarm : mv_SP := (fun as I _ => SH I ∧ ∃ (c : Nat) (v : Int32) (n : Nat), c < 90 ∧ n < 1000 ∧ as = [.ref 0, .ref (100 + 3 * c), .int v, .int (nI n)],
  fun as I J r I' J' => J = J' ∧ trOk I I' ∧ ∀ (c : Nat) (v : Int32) (n : Nat), n < 1000 → as = [.ref 0, .ref (100 + 3 * c), .int v, .int (nI n)] → r = some (.int (farF (copyI I 370 (100 + 3 * c)) v n 0)))
theorem cb_firstAlarm : mv_body 59 mv_t_X6_firstAlarm (mv_cs [(12, sp_chartCopy), (5, sp_addCount)]) sp_firstAlarm := by
  intro as I J h
  obtain ⟨hS, c, v, n, hc, hn, rfl⟩ := h
  have hT := trOk_copy hS hc
  have fin : ∀ x I1, x = farF (copyI I 370 (100 + 3 * c)) v n 0 → trOk I I1 → sp_firstAlarm.2 [.ref 0, .ref (100 + 3 * c), .int v, .int (nI n)] I J (some (.int x)) I1 J := by
    intro x I1 hx hI
    refine ⟨rfl, hI, fun c' v' n' hn' e => ?_⟩
    injection e with e1 e2
    injection e2 with e2 e3
    injection e3 with e3 e4
    injection e4 with e4 e5
    injection e2 with e2
    injection e3 with e3
    injection e4 with e4
    have : n = n' := (nI_eq (by omega) (by omega)).mp e4
    subst this
    subst e3
    rw [hx, e2]
  have key : ∀ r k : Nat, k + r = n → farF (copyI I 370 (100 + 3 * c)) v r k = farF (copyI I 370 (100 + 3 * c)) v n 0 → mv_V mv_ow mv_swf mv_t_X6_firstAlarm (mv_cs [(12, sp_chartCopy), (5, sp_addCount)]) (sp_firstAlarm.2 [.ref 0, .ref (100 + 3 * c), .int v, .int (nI n)] I J) 11 [(0, .ref 0), (1, .ref (100 + 3 * c)), (2, .int v), (3, .int (nI n)), (4, .int (nI (k + 1)))] [] (addN 370 v k (copyI I 370 (100 + 3 * c))) J := by
    intro r
    induction r with
    | zero =>
      intro k hk hf
      have hk : k = n := hk
      subst hk
      refine mv_run_V (stop := [11]) 40 _ _ _ _ _ ?_
      refine ⟨fun h1 => ?_, fun h1 => ?_⟩
      · exact fin _ _ hf (trOk_addN hT _)
      · exact absurd (nI_lt (by omega) (by omega)) h1
    | succ r ih =>
      intro k hk hf
      rw [farF] at hf
      refine mv_run_V (stop := [11]) 40 _ _ _ _ _ ?_
      refine ⟨fun h1 => ?_, fun h1 => ?_⟩
      · exact absurd h1 (nI_nlt (by omega) (by omega))
      · refine ⟨rfl, _, rfl, rfl, rfl, ⟨90, by decide, rfl, trOk_nn (trOk_addN hT k)⟩, fun r I1 J1 hp => ?_⟩
        obtain ⟨rfl, rfl, rfl⟩ := hp
        refine ⟨fun h3 => ?_, fun h3 => ?_⟩
        · rw [if_pos h3] at hf
          have h4 := ih (k + 1) (by omega) hf
          rw [nI_succ] at h4
          exact h4
        · rw [if_neg h3] at hf
          exact fin _ _ hf (trOk_add (trOk_addN hT k))
  refine ⟨rfl, mv_run_V (stop := [11]) 40 _ _ _ _ _ ?_⟩
  refine ⟨rfl, _, rfl, rfl, rfl, ⟨90, c, by decide, by omega, by omega, rfl, rfl⟩, fun r I1 J1 hp => ?_⟩
  obtain ⟨rfl, rfl, rfl⟩ := hp
  exact key n 0 (by omega) rfl
theorem c_firstAlarm {l : Launch} {G : mv_G} {A : Nat → Prop} (hG : mv_adk G A) : mv_Con l G A 59 sp_firstAlarm := mv_con hG 59 mv_k_X6_firstAlarm (by decide +kernel) (mv_cs_cons (c_chartCopy hG) (mv_cs_cons (c_addCount hG) (mv_cs_nil))) cb_firstAlarm
def sp_rings : mv_SP := (fun as I _ => SH I ∧ ∃ s v : Int32, as = [.ref 0, .int s, .int v],
  fun as I J r I' J' => J = J' ∧ trOk I I' ∧ ∀ s v : Int32, as = [.ref 0, .int s, .int v] → r = some (.int (if sv I s then (if 0 ≤ v ∧ v ≤ 99 then farF (copyI I 370 (scn s)) v 60 0 else -2) else -1)))
theorem trOk_rfl {I : mv_I} (hS : SH I) : trOk I I := ⟨fun _ _ _ _ => rfl, hS.2.1 90 (by decide), fun _ _ => rfl, fun _ _ => rfl, fun _ _ => rfl⟩
theorem cb_rings : mv_body 70 mv_t_X6_rings (mv_cs [(25, sp_at), (84, sp_within), (59, sp_firstAlarm)]) sp_rings := by
  intro as I J h
  obtain ⟨hS, s, v, rfl⟩ := h
  obtain ⟨m, hm, hs⟩ := SH_now hS
  refine ⟨rfl, mv_run_V (stop := []) 60 _ _ _ _ _ ?_⟩
  refine ⟨rfl, _, rfl, rfl, rfl, ⟨0, m, by decide, rfl, hm, hs⟩, fun r I1 J1 hp => ?_⟩
  obtain ⟨rfl, rfl, hr⟩ := hp
  rcases at_now hr with ⟨hv, rfl⟩ | ⟨hv, rfl⟩
  · exact ⟨rfl, trOk_rfl hS, fun s' w' e => by cases e; rw [if_neg hv]⟩
  · obtain ⟨j, hj, -, hjc⟩ := sv_in hS hv
    refine ⟨rfl, trivial, fun r I1 J1 hp => ?_⟩
    obtain ⟨rfl, rfl, rfl⟩ := hp
    refine ⟨fun h3 => ?_, fun h3 => ?_⟩
    · have h3 := mv_b0.mp h3
      exact ⟨rfl, trOk_rfl hS, fun s' w' e => by cases e; rw [if_pos hv, if_neg h3]⟩
    · have h3 := b_yes h3
      refine ⟨rfl, rfl, ⟨hS, s.toNatClampNeg, v, 60, by omega, by decide, rfl⟩, fun r I1 J1 hp => ?_⟩
      obtain ⟨rfl, hI, hr⟩ := hp
      have hr := hr s.toNatClampNeg v 60 (by decide) rfl
      subst hr
      exact ⟨rfl, hI, fun s' w' e => by cases e; rw [if_pos hv, if_pos h3]⟩
theorem c_rings {l : Launch} {G : mv_G} {A : Nat → Prop} (hG : mv_adk G A) : mv_Con l G A 70 sp_rings := mv_con hG 70 mv_k_X6_rings (by decide +kernel) (mv_cs_cons (c_at hG) (mv_cs_cons (c_within hG) (mv_cs_cons (c_firstAlarm hG) (mv_cs_nil)))) cb_rings
/-- the lowest number, from k on, that has an alarm within n counts -/
def lstF (T : mv_I) (n : Nat) : Nat → Nat → Int32
  | 0, _ => -9
  | r + 1, k => if farF T (nI k) n 0 = -9 then lstF T n r (k + 1) else nI k
def sp_least : mv_SP := (fun as I _ => SH I ∧ ∃ s n : Int32, as = [.ref 0, .int s, .int n],
  fun as I J r I' J' => J = J' ∧ trOk I I' ∧ ∀ s n : Int32, as = [.ref 0, .int s, .int n] → r = some (.int (if sv I s then (if 1 ≤ n ∧ n ≤ 30 then lstF (copyI I 370 (scn s)) n.toNatClampNeg 100 0 else -2) else -1)))
theorem cb_least : mv_body 64 mv_t_X6_least (mv_cs [(25, sp_at), (84, sp_within), (59, sp_firstAlarm)]) sp_least := by
  intro as I J h
  obtain ⟨hS, s, n, rfl⟩ := h
  obtain ⟨m, hm, hs⟩ := SH_now hS
  refine ⟨rfl, mv_run_V (stop := [31]) 60 _ _ _ _ _ ?_⟩
  refine ⟨rfl, _, rfl, rfl, rfl, ⟨0, m, by decide, rfl, hm, hs⟩, fun r I1 J1 hp => ?_⟩
  obtain ⟨rfl, rfl, hr⟩ := hp
  rcases at_now hr with ⟨hv, rfl⟩ | ⟨hv, rfl⟩
  · exact ⟨rfl, trOk_rfl hS, fun s' w' e => by cases e; rw [if_neg hv]⟩
  · obtain ⟨j, hj, -, hjc⟩ := sv_in hS hv
    refine ⟨rfl, trivial, fun r I1 J1 hp => ?_⟩
    obtain ⟨rfl, rfl, rfl⟩ := hp
    refine ⟨fun h3 => ?_, fun h3 => ?_⟩
    · have h3 := b_yes h3
      have hn0 : ∃ q : Nat, q < 31 ∧ n = nI q := by
        have a1 := (fa_le _ _).mp h3.1
        have a2 := (fa_le _ _).mp h3.2
        have e1 : (1 : Int32).toInt = 1 := rfl
        have e30 : (30 : Int32).toInt = 30 := rfl
        refine ⟨n.toInt.toNat, by omega, ?_⟩
        rw [fa_eq, nI_toInt (by omega)]
        omega
      obtain ⟨q, hq, rfl⟩ := hn0
      have hcq : (nI q).toNatClampNeg = q := nI_clamp (by omega)
      have key : ∀ r k : Nat, k + r = 100 → ∀ I1, trOk I I1 → lstF (copyI I 370 (scn s)) q r k = lstF (copyI I 370 (scn s)) q 100 0 → mv_V mv_ow mv_swf mv_t_X6_least (mv_cs [(25, sp_at), (84, sp_within), (59, sp_firstAlarm)]) (sp_least.2 [.ref 0, .int s, .int (nI q)] I J) 31 [(0, .ref 0), (1, .int s), (2, .int (nI q)), (3, .ref (scn s)), (4, .int (nI k))] [] I1 J := by
        intro r
        induction r with
        | zero =>
          intro k hk I1 hI hf
          have hk : k = 100 := hk
          subst hk
          refine mv_run_V (stop := [31]) 40 _ _ _ _ _ ?_
          refine ⟨fun h1 => ?_, fun h1 => ?_⟩
          · exact ⟨rfl, hI, fun s' w' e => by cases e; rw [if_pos hv, if_pos h3, hcq, ← hf]; rfl⟩
          · have h1 : ¬ nI 99 < nI 100 := h1
            exact absurd (nI_lt (by decide) (by decide)) h1
        | succ r ih =>
          intro k hk I1 hI hf
          rw [lstF] at hf
          refine mv_run_V (stop := [31]) 40 _ _ _ _ _ ?_
          refine ⟨fun h1 => ?_, fun h1 => ?_⟩
          · have h1 : nI 99 < nI k := h1
            exact absurd h1 (nI_nlt (by omega) (by omega))
          · refine ⟨rfl, rfl, ⟨trOk_SH hS hI, s.toNatClampNeg, nI k, q, by omega, by omega, rfl⟩, fun r1 I2 J2 hp => ?_⟩
            obtain ⟨rfl, hI2, hr⟩ := hp
            have hr := hr s.toNatClampNeg (nI k) q (by omega) rfl
            rw [copyI_tr (by omega) hI] at hr
            subst hr
            refine ⟨fun h4 => ?_, fun h4 => ?_⟩
            · rw [if_pos h4] at hf
              have h5 := ih (k + 1) (by omega) I2 (trOk_trans hI hI2) hf
              rw [nI_succ] at h5
              exact h5
            · rw [if_neg h4] at hf
              exact ⟨rfl, trOk_trans hI hI2, fun s' w' e => by cases e; rw [if_pos hv, if_pos h3, hcq, ← hf]⟩
      exact key 100 0 rfl I (trOk_rfl hS) rfl
    · have h3 := mv_b0.mp h3
      exact ⟨rfl, trOk_rfl hS, fun s' w' e => by cases e; rw [if_pos hv, if_neg h3]⟩
theorem c_least {l : Launch} {G : mv_G} {A : Nat → Prop} (hG : mv_adk G A) : mv_Con l G A 64 sp_least := mv_con hG 64 mv_k_X6_least (by decide +kernel) (mv_cs_cons (c_at hG) (mv_cs_cons (c_within hG) (mv_cs_cons (c_firstAlarm hG) (mv_cs_nil)))) cb_least
def sp_ahead : mv_SP := (fun as I _ => SH I ∧ ∃ n v s w : Int32, as = [.ref 0, .int n, .int v, .int s, .int w],
  fun as I J r I' J' => J = J' ∧ trOk I I' ∧ ∀ n v s w : Int32, as = [.ref 0, .int n, .int v, .int s, .int w] → r = some (.int (if sv I s then (if (0 ≤ n ∧ n ≤ 60) ∧ (0 ≤ v ∧ v ≤ 99) ∧ (5 ≤ w ∧ w ≤ 13) then proF (addN 370 v n.toNatClampNeg (copyI I 370 (scn s))) 370 w else -2) else -1)))
theorem in_nat {n : Int32} {M : Nat} (hM : M < 1000) (h : 0 ≤ n ∧ n ≤ nI M) : ∃ q : Nat, q ≤ M ∧ n = nI q := by
  have a1 := (fa_le _ _).mp h.1
  have a2 := (fa_le _ _).mp h.2
  have e1 : (0 : Int32).toInt = 0 := rfl
  rw [nI_toInt (by omega)] at a2
  refine ⟨n.toInt.toNat, by omega, ?_⟩
  rw [fa_eq, nI_toInt (by omega)]
  omega
theorem cb_ahead : mv_body 49 mv_t_X6_ahead (mv_cs [(25, sp_at), (84, sp_within), (12, sp_chartCopy), (6, sp_addCounts), (18, sp_property)]) sp_ahead := by
  intro as I J h
  obtain ⟨hS, n, v, s, w, rfl⟩ := h
  obtain ⟨m, hm, hs⟩ := SH_now hS
  refine ⟨rfl, mv_run_V (stop := []) 60 _ _ _ _ _ ?_⟩
  refine ⟨rfl, _, rfl, rfl, rfl, ⟨0, m, by decide, rfl, hm, hs⟩, fun r I1 J1 hp => ?_⟩
  obtain ⟨rfl, rfl, hr⟩ := hp
  rcases at_now hr with ⟨hv, rfl⟩ | ⟨hv, rfl⟩
  · exact ⟨rfl, trOk_rfl hS, fun n' v' s' w' e => by cases e; rw [if_neg hv]⟩
  · obtain ⟨j, hj, -, hjc⟩ := sv_in hS hv
    refine ⟨rfl, trivial, fun r I1 J1 hp => ?_⟩
    obtain ⟨rfl, rfl, rfl⟩ := hp
    refine ⟨fun h3 => ?_, fun h3 => ?_⟩
    · have h3 := mv_b0.mp h3
      exact ⟨rfl, trOk_rfl hS, fun n' v' s' w' e => by cases e; rw [if_pos hv, if_neg (fun z => h3 z.1)]⟩
    · have h3 := b_yes h3
      refine ⟨rfl, trivial, fun r I1 J1 hp => ?_⟩
      obtain ⟨rfl, rfl, rfl⟩ := hp
      refine ⟨fun h4 => ?_, fun h4 => ?_⟩
      · have h4 := mv_b0.mp h4
        exact ⟨rfl, trOk_rfl hS, fun n' v' s' w' e => by cases e; rw [if_pos hv, if_neg (fun z => h4 z.2.1)]⟩
      · have h4 := b_yes h4
        refine ⟨rfl, trivial, fun r I1 J1 hp => ?_⟩
        obtain ⟨rfl, rfl, rfl⟩ := hp
        refine ⟨fun h5 => ?_, fun h5 => ?_⟩
        · have h5 := b_yes h5
          obtain ⟨q, hq, rfl⟩ := in_nat (M := 60) (by decide) h3
          have hcq : (nI q).toNatClampNeg = q := nI_clamp (by omega)
          have hT := trOk_copy (c := s.toNatClampNeg) hS (by omega)
          refine ⟨rfl, _, rfl, rfl, rfl, ⟨90, s.toNatClampNeg, by decide, by omega, by omega, rfl, rfl⟩, fun r I1 J1 hp => ?_⟩
          obtain ⟨rfl, rfl, rfl⟩ := hp
          refine ⟨rfl, _, rfl, rfl, rfl, ⟨90, q, by decide, rfl, trOk_nn hT, by omega, rfl⟩, fun r I1 J1 hp => ?_⟩
          obtain ⟨rfl, rfl, rfl⟩ := hp
          rw [hcq]
          refine ⟨rfl, _, rfl, rfl, rfl, ⟨90, by decide, rfl⟩, fun r I1 J1 hp => ?_⟩
          obtain ⟨rfl, rfl, rfl⟩ := hp
          exact ⟨rfl, trOk_addN hT q, fun n' v' s' w' e => by cases e; rw [if_pos hv, if_pos ⟨h3, h4, h5⟩, hcq]⟩
        · have h5 := mv_b0.mp h5
          exact ⟨rfl, trOk_rfl hS, fun n' v' s' w' e => by cases e; rw [if_pos hv, if_neg (fun z => h5 z.2.2)]⟩
theorem c_ahead {l : Launch} {G : mv_G} {A : Nat → Prop} (hG : mv_adk G A) : mv_Con l G A 49 sp_ahead := mv_con hG 49 mv_k_X6_ahead (by decide +kernel) (mv_cs_cons (c_at hG) (mv_cs_cons (c_within hG) (mv_cs_cons (c_chartCopy hG) (mv_cs_cons (c_addCounts hG) (mv_cs_cons (c_property hG) (mv_cs_nil)))))) cb_ahead
def sp_would : mv_SP := (fun as I _ => SH I ∧ ∃ s k w : Int32, as = [.ref 0, .int s, .int k, .int w],
  fun as I J r I' J' => I = I' ∧ J = J' ∧ ∀ s k w : Int32, as = [.ref 0, .int s, .int k, .int w] → r = some (.int (if sv I s then (if (0 ≤ k ∧ k ≤ 9) ∧ (1 ≤ w ∧ w ≤ 99) then repF I (scn s) k w (I (scn s) 15).toNatClampNeg 0 0 0 else -2) else -1)))
theorem cb_would : mv_body 86 mv_t_X6_would (mv_cs [(25, sp_at), (84, sp_within), (20, sp_replay)]) sp_would := by
  intro as I J h
  obtain ⟨hS, s, k, w, rfl⟩ := h
  obtain ⟨m, hm, hs⟩ := SH_now hS
  refine ⟨rfl, mv_run_V (stop := []) 60 _ _ _ _ _ ?_⟩
  refine ⟨rfl, _, rfl, rfl, rfl, ⟨0, m, by decide, rfl, hm, hs⟩, fun r I1 J1 hp => ?_⟩
  obtain ⟨rfl, rfl, hr⟩ := hp
  rcases at_now hr with ⟨hv, rfl⟩ | ⟨hv, rfl⟩
  · exact ⟨rfl, rfl, fun s' v' w' e => by cases e; rw [if_neg hv]⟩
  · obtain ⟨j, hj, -, hjc⟩ := sv_in hS hv
    obtain ⟨k1, hk1, e1⟩ := hS.2.1 s.toNatClampNeg (by omega)
    refine ⟨rfl, trivial, fun r I1 J1 hp => ?_⟩
    obtain ⟨rfl, rfl, rfl⟩ := hp
    refine ⟨fun h3 => ?_, fun h3 => ?_⟩
    · have h3 := mv_b0.mp h3
      exact ⟨rfl, rfl, fun s' v' w' e => by cases e; rw [if_pos hv, if_neg (fun z => h3 z.1)]⟩
    · have h3 := b_yes h3
      refine ⟨rfl, trivial, fun r I1 J1 hp => ?_⟩
      obtain ⟨rfl, rfl, rfl⟩ := hp
      refine ⟨fun h5 => ?_, fun h5 => ?_⟩
      · have h5 := b_yes h5
        refine ⟨rfl, mv_lay_ch (by omega), ⟨s.toNatClampNeg, k1, by omega, rfl, hk1, e1⟩, fun r I1 J1 hp => ?_⟩
        obtain ⟨rfl, rfl, rfl⟩ := hp
        exact ⟨rfl, rfl, fun s' v' w' e => by cases e; rw [if_pos hv, if_pos ⟨h3, h5⟩]⟩
      · have h5 := mv_b0.mp h5
        exact ⟨rfl, rfl, fun s' v' w' e => by cases e; rw [if_pos hv, if_neg (fun z => h5 z.2)]⟩
theorem c_would {l : Launch} {G : mv_G} {A : Nat → Prop} (hG : mv_adk G A) : mv_Con l G A 86 sp_would := mv_con hG 86 mv_k_X6_would (by decide +kernel) (mv_cs_cons (c_at hG) (mv_cs_cons (c_within hG) (mv_cs_cons (c_replay hG) (mv_cs_nil)))) cb_would
