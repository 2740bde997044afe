/-! Series: a count, and the rest of Chart. -/
def add1 (I : mv_I) (o : Nat) (v : Int32) : mv_I := mv_si I o 8 (mv_mx 0 (I o 8 + v - exF I o (I o 7) - I o 1))
def add2 (I : mv_I) (o : Nat) (v : Int32) : mv_I := mv_si (add1 I o v) o 9 (mv_mx 0 (add1 I o v o 9 + exF I o (I o 7) - v - add1 I o v o 1))
def addA (I : mv_I) (o : Nat) : Int32 := (if I o 8 < I o 2 then 0 else 1) + (if I o 9 < I o 2 then 0 else 2)
def add3 (I : mv_I) (o : Nat) (v : Int32) : mv_I :=
  if addA (add2 I o v) o = 0 then (if 0 < add2 I o v o 3 ∧ add2 I o v o 8 = 0 ∧ add2 I o v o 9 = 0 then adaptI (add2 I o v) o v else add2 I o v)
  else mv_sr (add2 I o v) o (ringF (add2 I o v o) (addA (add2 I o v) o))
def addI (I : mv_I) (o : Nat) (v : Int32) : mv_I := appI (add3 I o v) o v
def addK (I : mv_I) (o : Nat) (v : Int32) : Int32 := addA (add2 I o v) o
theorem addA_pp {I : mv_I} {o : Nat} (h1 : I o 8 < I o 2) (h2 : I o 9 < I o 2) : 0 + 0 = addA I o := by unfold addA; rw [if_pos h1, if_pos h2]
theorem addA_pn {I : mv_I} {o : Nat} (h1 : I o 8 < I o 2) (h2 : ¬ I o 9 < I o 2) : 0 + 2 = addA I o := by unfold addA; rw [if_pos h1, if_neg h2]
theorem addA_np {I : mv_I} {o : Nat} (h1 : ¬ I o 8 < I o 2) (h2 : I o 9 < I o 2) : 1 + 0 = addA I o := by unfold addA; rw [if_neg h1, if_pos h2]
theorem addA_nn {I : mv_I} {o : Nat} (h1 : ¬ I o 8 < I o 2) (h2 : ¬ I o 9 < I o 2) : 1 + 2 = addA I o := by unfold addA; rw [if_neg h1, if_neg h2]
theorem add3_15 (I : mv_I) (o : Nat) (v : Int32) : add3 I o v o 15 = I o 15 := by
  unfold add3
  split
  · split
    · simp [adaptI, add2, add1, mv_si_ap]
    · simp [add2, add1, mv_si_ap]
  · simp [mv_sr_ap, ringF, add2, add1, mv_si_ap]
def sp_addCount : mv_SP := (fun as I _ => match as with
    | [.ref o, .int _] => ∃ c : Nat, c < 91 ∧ o = 100 + 3 * c ∧ ¬ I o 15 < 0
    | _ => False,
  fun as I J r I' J' => match as with
    | [.ref o, .int v] => r = some (.int (addK I o v)) ∧ I' = addI I o v ∧ J = J'
    | _ => True)
theorem cb_addCount : mv_body 5 mv_t_X1_addCount (mv_cs [(15, sp_expectationOn), (150, sp_max), (21, sp_ring), (4, sp_adapt), (9, sp_append)]) sp_addCount := by
  intro as I J h
  match as, h with
  | [.ref _, .int v], ⟨c, hc, rfl, hn⟩ =>
    have k123 : ∀ (I3 : mv_I) (al : Int32), I3 = add3 I (100 + 3 * c) v → al = addK I (100 + 3 * c) v → mv_V mv_ow mv_swf mv_t_X1_addCount (mv_cs [(15, sp_expectationOn), (150, sp_max), (21, sp_ring), (4, sp_adapt), (9, sp_append)]) (sp_addCount.2 [.ref (100 + 3 * c), .int v] I J) 123 [(0, .ref (100 + 3 * c)), (1, .int v), (2, .int (exF I (100 + 3 * c) (I (100 + 3 * c) 7))), (3, .int al)] [] I3 J := by
      intro I3 al h3 ha
      have hn3 : ¬ I3 (100 + 3 * c) 15 < 0 := by rw [h3, add3_15]; exact hn
      refine mv_run_V (stop := []) 40 _ _ _ _ _ ?_
      repeat' (first | (refine ⟨rfl, ?_⟩) | (refine ⟨mv_lay_ch hc, ?_⟩) | (refine ⟨⟨c, hc, rfl, hn3⟩, fun r I' J' hp => ?_⟩; obtain ⟨rfl, rfl, rfl⟩ := hp) | (refine ⟨fun _ => ?_, fun _ => ?_⟩) | fail)
      exact ⟨by rw [ha], by rw [h3]; rfl, rfl⟩
    have k85 : ∀ al : Int32, al = addK I (100 + 3 * c) v → mv_V mv_ow mv_swf mv_t_X1_addCount (mv_cs [(15, sp_expectationOn), (150, sp_max), (21, sp_ring), (4, sp_adapt), (9, sp_append)]) (sp_addCount.2 [.ref (100 + 3 * c), .int v] I J) 85 [(0, .ref (100 + 3 * c)), (1, .int v), (2, .int (exF I (100 + 3 * c) (I (100 + 3 * c) 7))), (3, .int al)] [] (add2 I (100 + 3 * c) v) J := by
      intro al ha
      have ha2 : al = addA (add2 I (100 + 3 * c) v) (100 + 3 * c) := ha
      refine mv_run_V (stop := [123]) 60 _ _ _ _ _ ?_
      repeat' (first | (refine ⟨rfl, ?_⟩) | (refine ⟨mv_lay_ch hc, ?_⟩) | (refine ⟨⟨c, hc, rfl⟩, fun r I' J' hp => ?_⟩; obtain ⟨rfl, rfl, rfl⟩ := hp) | (refine ⟨fun _ => ?_, fun _ => ?_⟩) | fail)
      · rename_i h1 h2
        exact k123 _ _ (by unfold add3; rw [← ha2, if_pos h1, if_neg (fun z => h2 z.1)]) ha
      · rename_i h1 h2 h3
        exact k123 _ _ (by unfold add3; rw [← ha2, if_pos h1, if_neg (fun z => h3 z.2.1)]) ha
      · rename_i h1 h2 h3 h4
        exact k123 _ _ (by unfold add3; rw [← ha2, if_pos h1, if_neg (fun z => h4 z.2.2)]) ha
      · rename_i h1 h2 h3 h4
        exact k123 _ _ (by unfold add3; rw [← ha2, if_pos h1, if_pos ⟨h2, h3, h4⟩]) ha
      · rename_i h1
        exact k123 _ _ (by unfold add3; rw [← ha2, if_neg h1]) ha
    refine ⟨rfl, mv_run_V (stop := [85]) 60 _ _ _ _ _ ?_⟩
    repeat' (first | (refine ⟨rfl, ?_⟩) | (refine ⟨mv_lay_ch hc, ?_⟩) | (refine ⟨⟨c, hc, rfl⟩, fun r I' J' hp => ?_⟩; obtain ⟨rfl, rfl, rfl⟩ := hp) | (refine ⟨trivial, fun r I' J' hp => ?_⟩; obtain ⟨rfl, rfl, rfl⟩ := hp) | (refine ⟨fun _ => ?_, fun _ => ?_⟩) | fail)
    · rename_i h1 h2
      exact k85 _ (addA_pp h1 h2)
    · rename_i h1 h2
      exact k85 _ (addA_pn h1 h2)
    · rename_i h1 h2
      exact k85 _ (addA_np h1 h2)
    · rename_i h1 h2
      exact k85 _ (addA_nn h1 h2)
theorem c_addCount {l : Launch} {G : mv_G} {A : Nat → Prop} (hG : mv_adk G A) : mv_Con l G A 5 sp_addCount := mv_con hG 5 mv_k_X1_addCount (by decide +kernel) (mv_cs_cons (c_expectationOn hG) (mv_cs_max (mv_cs_cons (c_ring hG) (mv_cs_cons (c_adapt hG) (mv_cs_cons (c_append hG) (mv_cs_nil)))))) cb_addCount
def sp_addGap : mv_SP := (fun as I _ => match as with
    | [.ref o] => ∃ c : Nat, c < 91 ∧ o = 100 + 3 * c ∧ ¬ I o 15 < 0
    | _ => False,
  fun as I J r I' J' => match as with
    | [.ref o] => r = none ∧ I' = appI I o (-9) ∧ J = J'
    | _ => True)
theorem cb_addGap : mv_body 7 mv_t_X1_addGap (mv_cs [(9, sp_append)]) sp_addGap := by
  intro as I J h
  match as, h with
  | [.ref _], ⟨c, hc, rfl, hn⟩ =>
    refine ⟨rfl, mv_run_V (stop := []) 60 _ _ _ _ _ ?_⟩
    repeat' (first | (refine ⟨rfl, ?_⟩) | (refine ⟨mv_lay_ch hc, ?_⟩) | (refine ⟨⟨c, hc, rfl, hn⟩, fun r I' J' hp => ?_⟩; obtain ⟨rfl, rfl, rfl⟩ := hp) | (refine ⟨fun _ => ?_, fun _ => ?_⟩) | fail)
    all_goals exact rfl
theorem c_addGap {l : Launch} {G : mv_G} {A : Nat → Prop} (hG : mv_adk G A) : mv_Con l G A 7 sp_addGap := mv_con hG 7 mv_k_X1_addGap (by decide +kernel) (mv_cs_cons (c_append hG) (mv_cs_nil)) cb_addGap
def sp_remembers : mv_SP := (fun as _ _ => match as with
    | [.ref o, .int _] => ∃ c : Nat, c < 91 ∧ o = 100 + 3 * c
    | _ => False,
  fun as I J r I' J' => match as with
    | [.ref o, .int x] => r = some (.int (mv_b (0 ≤ x ∧ x ≤ I o 15 - 1))) ∧ I = I' ∧ J = J'
    | _ => True)
theorem cb_remembers : mv_body 19 mv_t_X1_remembers (mv_cs [(84, sp_within)]) sp_remembers := by
  intro as I J h
  match as, h with
  | [.ref _, .int x], ⟨c, hc, rfl⟩ =>
    refine ⟨rfl, mv_run_V (stop := []) 60 _ _ _ _ _ ?_⟩
    repeat' (first | (refine ⟨rfl, ?_⟩) | (refine ⟨mv_lay_ch hc, ?_⟩) | (refine ⟨trivial, fun r I' J' hp => ?_⟩; obtain ⟨rfl, rfl, rfl⟩ := hp) | (refine ⟨mv_b01 _, ?_⟩) | (refine ⟨fun _ => ?_, fun _ => ?_⟩) | fail)
    all_goals exact rfl
theorem c_remembers {l : Launch} {G : mv_G} {A : Nat → Prop} (hG : mv_adk G A) : mv_Con l G A 19 sp_remembers := mv_con hG 19 mv_k_X1_remembers (by decide +kernel) (mv_cs_cons (c_within hG) (mv_cs_nil)) cb_remembers
def thingF (I : mv_I) (o : Nat) (x : Int32) : Int32 := if 0 ≤ x ∧ x ≤ I o 15 - 1 then I (o + 2) x.toNatClampNeg else -9
def sp_thingAt : mv_SP := (fun as I _ => match as with
    | [.ref o, .int x] => ∃ c : Nat, c < 91 ∧ o = 100 + 3 * c ∧ (0 ≤ x ∧ x ≤ I o 15 - 1 → vp_in x 12)
    | _ => False,
  fun as I J r I' J' => match as with
    | [.ref o, .int x] => r = some (.int (thingF I o x)) ∧ I = I' ∧ J = J'
    | _ => True)
theorem cb_thingAt : mv_body 23 mv_t_X1_thingAt (mv_cs [(19, sp_remembers)]) sp_thingAt := by
  intro as I J h
  match as, h with
  | [.ref _, .int x], ⟨c, hc, rfl, hx⟩ =>
    refine ⟨rfl, mv_run_V (stop := []) 60 _ _ _ _ _ ?_⟩
    repeat' (first | (refine ⟨rfl, ?_⟩) | (refine ⟨mv_lay_ch hc, _, mv_rf_ct hc, ?_⟩) | (refine ⟨mv_lay_ch hc, ?_⟩) | (refine ⟨⟨c, hc, rfl⟩, fun r I' J' hp => ?_⟩; obtain ⟨rfl, rfl, rfl⟩ := hp) | (refine ⟨_, mv_lay_ct hc, hx (by rename_i h1; exact Decidable.not_not.mp (fun z => h1 (mv_b0.mpr z))), ?_⟩) | (refine ⟨fun _ => ?_, fun _ => ?_⟩) | fail)
    · rename_i h1
      exact ⟨by unfold thingF; rw [if_neg (mv_b0.mp h1)], rfl, rfl⟩
    · rename_i h1
      refine ⟨?_, rfl, rfl⟩
      unfold thingF
      rw [if_pos (Decidable.not_not.mp (fun z => h1 (mv_b0.mpr z)))]
      have e1 : 100 + 3 * c + 2 = 102 + 3 * c := by omega
      rw [e1]
theorem c_thingAt {l : Launch} {G : mv_G} {A : Nat → Prop} (hG : mv_adk G A) : mv_Con l G A 23 sp_thingAt := mv_con hG 23 mv_k_X1_thingAt (by decide +kernel) (mv_cs_cons (c_remembers hG) (mv_cs_nil)) cb_thingAt
def dropI (I : mv_I) (o : Nat) : mv_I := mv_si (mv_si I o 8 0) o 9 0
def sp_dropSums : mv_SP := (fun as _ _ => match as with
    | [.ref o] => ∃ c : Nat, c < 91 ∧ o = 100 + 3 * c
    | _ => False,
  fun as I J r I' J' => match as with
    | [.ref o] => r = none ∧ I' = dropI I o ∧ J = J'
    | _ => True)
theorem cb_dropSums : mv_body 13 mv_t_X1_dropSums (mv_cs []) sp_dropSums := by
  intro as I J h
  match as, h with
  | [.ref _], ⟨c, hc, rfl⟩ =>
    refine ⟨rfl, mv_run_V (stop := []) 60 _ _ _ _ _ ?_⟩
    repeat' (first | (refine ⟨rfl, ?_⟩) | (refine ⟨mv_lay_ch hc, ?_⟩) | (refine ⟨fun _ => ?_, fun _ => ?_⟩) | fail)
    all_goals exact rfl
theorem c_dropSums {l : Launch} {G : mv_G} {A : Nat → Prop} (hG : mv_adk G A) : mv_Con l G A 13 sp_dropSums := mv_con hG 13 mv_k_X1_dropSums (by decide +kernel) (mv_cs_nil) cb_dropSums
def alwP (w v : Int32) : Prop := if w = 0 then 0 ≤ v ∧ v ≤ 9 else if w = 1 then 1 ≤ v ∧ v ≤ 99 else if w = 2 then 0 ≤ v ∧ v ≤ 4 else if w = 3 then 0 ≤ v ∧ v ≤ 1 else False
def sp_allows : mv_SP := (fun as _ _ => match as with
    | [.int _, .int _] => True
    | _ => False,
  fun as I J r I' J' => match as with
    | [.int w, .int v] => (∃ x : Int32, r = some (.int x) ∧ (x = 0 ↔ ¬ alwP w v)) ∧ I = I' ∧ J = J'
    | _ => True)
theorem cb_allows : mv_body 8 mv_t_X1_allows (mv_cs [(84, sp_within)]) sp_allows := by
  intro as I J h
  match as, h with
  | [.int w, .int v], h0 =>
    refine ⟨rfl, mv_run_V (stop := []) 60 _ _ _ _ _ ?_⟩
    repeat' (first | (refine ⟨rfl, ?_⟩) | (refine ⟨trivial, fun r I' J' hp => ?_⟩; obtain ⟨rfl, rfl, rfl⟩ := hp) | (refine ⟨mv_b01 _, ?_⟩) | (refine ⟨Or.inl rfl, ?_⟩) | (refine ⟨fun _ => ?_, fun _ => ?_⟩) | fail)
    · rename_i h1
      exact ⟨⟨_, rfl, by rw [mv_b0]; unfold alwP; rw [if_pos h1]⟩, rfl, rfl⟩
    · rename_i h1 h2
      exact ⟨⟨_, rfl, by rw [mv_b0]; unfold alwP; rw [if_neg h1, if_pos h2]⟩, rfl, rfl⟩
    · rename_i h1 h2 h3
      exact ⟨⟨_, rfl, by rw [mv_b0]; unfold alwP; rw [if_neg h1, if_neg h2, if_pos h3]⟩, rfl, rfl⟩
    · rename_i h1 h2 h3 h4
      exact ⟨⟨_, rfl, by rw [mv_b0]; unfold alwP; rw [if_neg h1, if_neg h2, if_neg h3, if_pos h4]⟩, rfl, rfl⟩
    · rename_i h1 h2 h3 h4
      exact ⟨⟨_, rfl, by unfold alwP; rw [if_neg h1, if_neg h2, if_neg h3, if_neg h4]; simp⟩, rfl, rfl⟩
theorem c_allows {l : Launch} {G : mv_G} {A : Nat → Prop} (hG : mv_adk G A) : mv_Con l G A 8 sp_allows := mv_con hG 8 mv_k_X1_allows (by decide +kernel) (mv_cs_cons (c_within hG) (mv_cs_nil)) cb_allows
def parF (w : Int32) : Nat := if w = 0 then 1 else if w = 1 then 2 else if w = 2 then 3 else 4
def sp_parameter : mv_SP := (fun as _ _ => match as with
    | [.ref o, .int _] => ∃ c : Nat, c < 91 ∧ o = 100 + 3 * c
    | _ => False,
  fun as I J r I' J' => match as with
    | [.ref o, .int w] => r = some (.int (I o (parF w))) ∧ I = I' ∧ J = J'
    | _ => True)
theorem cb_parameter : mv_body 17 mv_t_X1_parameter (mv_cs []) sp_parameter := by
  intro as I J h
  match as, h with
  | [.ref _, .int w], ⟨c, hc, rfl⟩ =>
    refine ⟨rfl, mv_run_V (stop := []) 60 _ _ _ _ _ ?_⟩
    repeat' (first | (refine ⟨rfl, ?_⟩) | (refine ⟨mv_lay_ch hc, ?_⟩) | (refine ⟨fun _ => ?_, fun _ => ?_⟩) | fail)
    · rename_i h1
      exact ⟨by unfold parF; rw [if_pos h1], rfl, rfl⟩
    · rename_i h1 h2
      exact ⟨by unfold parF; rw [if_neg h1, if_pos h2], rfl, rfl⟩
    · rename_i h1 h2 h3
      exact ⟨by unfold parF; rw [if_neg h1, if_neg h2, if_pos h3], rfl, rfl⟩
    · rename_i h1 h2 h3
      exact ⟨by unfold parF; rw [if_neg h1, if_neg h2, if_neg h3], rfl, rfl⟩
theorem c_parameter {l : Launch} {G : mv_G} {A : Nat → Prop} (hG : mv_adk G A) : mv_Con l G A 17 sp_parameter := mv_con hG 17 mv_k_X1_parameter (by decide +kernel) (mv_cs_nil) cb_parameter
def sp_change : mv_SP := (fun as _ _ => match as with
    | [.ref o, .int _, .int _] => ∃ c : Nat, c < 91 ∧ o = 100 + 3 * c
    | _ => False,
  fun as I J r I' J' => match as with
    | [.ref o, .int w, .int v] => r = none ∧ I' = mv_si I o (parF w) v ∧ J = J'
    | _ => True)
theorem cb_change : mv_body 11 mv_t_X1_change (mv_cs []) sp_change := by
  intro as I J h
  match as, h with
  | [.ref _, .int w, .int v], ⟨c, hc, rfl⟩ =>
    refine ⟨rfl, mv_run_V (stop := []) 60 _ _ _ _ _ ?_⟩
    repeat' (first | (refine ⟨rfl, ?_⟩) | (refine ⟨mv_lay_ch hc, ?_⟩) | (refine ⟨fun _ => ?_, fun _ => ?_⟩) | fail)
    · rename_i h1
      exact ⟨by unfold parF; rw [if_pos h1], rfl⟩
    · rename_i h1 h2
      exact ⟨by unfold parF; rw [if_neg h1, if_pos h2], rfl⟩
    · rename_i h1 h2 h3
      exact ⟨by unfold parF; rw [if_neg h1, if_neg h2, if_pos h3], rfl⟩
    · rename_i h1 h2 h3
      exact ⟨by unfold parF; rw [if_neg h1, if_neg h2, if_neg h3], rfl⟩
theorem c_change {l : Launch} {G : mv_G} {A : Nat → Prop} (hG : mv_adk G A) : mv_Con l G A 11 sp_change := mv_con hG 11 mv_k_X1_change (by decide +kernel) (mv_cs_nil) cb_change
/-- a property by its number -/
def proF (I : mv_I) (o : Nat) (w : Int32) : Int32 :=
  if w = 0 then I o 0 else if w = 1 then I o 1 else if w = 2 then I o 2 else if w = 3 then I o 3 else if w = 4 then I o 4 else if w = 5 then I o 7 else if w = 6 then I o 8 else if w = 7 then I o 9 else if w = 8 then I o 10 else if w = 9 then I o 11 else if w = 10 then I o 12 else if w = 11 then I o 13 else if w = 12 then exF I o (I o 7) + 100 else I o 15
def sp_property : mv_SP := (fun as _ _ => match as with
    | [.ref o, .int _] => ∃ c : Nat, c < 91 ∧ o = 100 + 3 * c
    | _ => False,
  fun as I J r I' J' => match as with
    | [.ref o, .int w] => r = some (.int (proF I o w)) ∧ I = I' ∧ J = J'
    | _ => True)
theorem cb_property : mv_body 18 mv_t_X1_property (mv_cs [(14, sp_expectation)]) sp_property := by
  intro as I J h
  match as, h with
  | [.ref _, .int w], ⟨c, hc, rfl⟩ =>
    refine ⟨rfl, mv_run_V (stop := []) 60 _ _ _ _ _ ?_⟩
    repeat' (first | (refine ⟨rfl, ?_⟩) | (refine ⟨mv_lay_ch hc, ?_⟩) | (refine ⟨⟨c, hc, rfl⟩, fun r I' J' hp => ?_⟩; obtain ⟨rfl, rfl, rfl⟩ := hp) | (refine ⟨fun _ => ?_, fun _ => ?_⟩) | fail)
    all_goals (refine ⟨?_, rfl, rfl⟩; unfold proF; simp [*])
theorem c_property {l : Launch} {G : mv_G} {A : Nat → Prop} (hG : mv_adk G A) : mv_Con l G A 18 sp_property := mv_con hG 18 mv_k_X1_property (by decide +kernel) (mv_cs_cons (c_expectation hG) (mv_cs_nil)) cb_property
