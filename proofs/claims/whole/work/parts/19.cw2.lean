/-! Past, acts, chances. -/
def sp_past : mv_SP := (fun as I _ => SH I ∧ ∃ s w : Int32, as = [.ref 0, .int s, .int w],
  fun as I J r I' J' => I = I' ∧ J = J' ∧ ∀ s w : Int32, as = [.ref 0, .int s, .int w] → r = some (.int (if sv I s then (if 0 ≤ w ∧ w ≤ I (scn s) 15 - 1 then I (scn s + 2) w.toNatClampNeg else -1) else -1)))
theorem th_in {I : mv_I} (hS : SH I) {c : Nat} (hc : c < 91) {w : Int32} (h : 0 ≤ w ∧ w ≤ I (100 + 3 * c) 15 - 1) : vp_in w 12 := by
  obtain ⟨k, hk, e⟩ := hS.2.1 c hc
  obtain ⟨j, hj, rfl⟩ := mv_upto (m := k) (by omega) h.1 (by rw [← e]; exact h.2)
  exact vp_in_nI (by omega) (by omega)
theorem cb_past : mv_body 68 mv_t_X6_past (mv_cs [(25, sp_at), (19, sp_remembers), (23, sp_thingAt)]) sp_past := by
  intro as I J h
  obtain ⟨hS, s, w, rfl⟩ := h
  obtain ⟨m, hm, hs⟩ := SH_now hS
  refine ⟨rfl, mv_run_V (stop := []) 60 _ _ _ _ _ ?_⟩
  refine ⟨rfl, _, rfl, rfl, rfl, ⟨0, m, by decide, rfl, hm, hs⟩, fun r I1 J1 hp => ?_⟩
  obtain ⟨rfl, rfl, hr⟩ := hp
  rcases at_now hr with ⟨hv, rfl⟩ | ⟨hv, rfl⟩
  · exact ⟨rfl, rfl, fun s' w' e => by cases e; rw [if_neg hv]⟩
  · obtain ⟨j, hj, -, hjc⟩ := sv_in hS hv
    refine ⟨rfl, mv_lay_ch (by omega), ⟨s.toNatClampNeg, by omega, rfl⟩, fun r I1 J1 hp => ?_⟩
    obtain ⟨rfl, rfl, rfl⟩ := hp
    refine ⟨fun h3 => ?_, fun h3 => ?_⟩
    · have h3 := b_yes h3
      refine ⟨rfl, mv_lay_ch (by omega), ⟨s.toNatClampNeg, by omega, rfl, th_in hS (by omega)⟩, fun r I1 J1 hp => ?_⟩
      obtain ⟨rfl, rfl, rfl⟩ := hp
      exact ⟨rfl, rfl, fun s' w' e => by cases e; unfold thingF; rw [if_pos hv, if_pos h3, if_pos h3]⟩
    · have h3 := mv_b0.mp h3
      exact ⟨rfl, rfl, fun s' w' e => by cases e; rw [if_pos hv, if_neg h3]⟩
theorem c_past {l : Launch} {G : mv_G} {A : Nat → Prop} (hG : mv_adk G A) : mv_Con l G A 68 sp_past := mv_con hG 68 mv_k_X6_past (by decide +kernel) (mv_cs_cons (c_at hG) (mv_cs_cons (c_remembers hG) (mv_cs_cons (c_thingAt hG) (mv_cs_nil)))) cb_past
theorem SH_rem {I : mv_I} (hS : SH I) {c : Nat} (hc : c < 5) : ¬ remI I (100 + 3 * c) 15 < 0 := by
  rw [remI_ne hS (by omega) (Or.inl (by omega))]
  exact SH_nn hS (by omega)
def sp_tell : mv_SP := (fun as I _ => SH I ∧ ∃ s v : Int32, as = [.ref 0, .int s, .int v],
  fun as I J r I' J' => J = J' ∧ ∀ s v : Int32, as = [.ref 0, .int s, .int v] → if sv I s then (if 0 ≤ v ∧ v ≤ 99 then r = some (.int (addK (remI I) (scn s) v)) ∧ I' = addI (remI I) (scn s) v else r = some (.int (-2)) ∧ I = I') else r = some (.int (-1)) ∧ I = I')
theorem cb_tell : mv_body 77 mv_t_X6_tell (mv_cs [(25, sp_at), (84, sp_within), (2, sp_remember), (5, sp_addCount)]) sp_tell := by
  intro as I J h
  obtain ⟨hS, s, v, rfl⟩ := h
  obtain ⟨m, hm, hs⟩ := SH_now hS
  obtain ⟨x, hx14, hx⟩ := hS.2.2.1
  refine ⟨rfl, mv_run_V (stop := []) 60 _ _ _ _ _ ?_⟩
  refine ⟨rfl, _, rfl, rfl, rfl, ⟨0, m, by decide, rfl, hm, hs⟩, fun r I1 J1 hp => ?_⟩
  obtain ⟨rfl, rfl, hr⟩ := hp
  rcases at_now hr with ⟨hv, rfl⟩ | ⟨hv, rfl⟩
  · exact ⟨rfl, fun s' w' e => by cases e; rw [if_neg hv]; exact ⟨rfl, rfl⟩⟩
  · obtain ⟨j, hj, -, hjc⟩ := sv_in hS hv
    refine ⟨rfl, trivial, fun r I1 J1 hp => ?_⟩
    obtain ⟨rfl, rfl, rfl⟩ := hp
    refine ⟨fun h3 => ?_, fun h3 => ?_⟩
    · have h3 := b_yes h3
      refine ⟨rfl, _, rfl, rfl, _, rfl, rfl, rfl, ⟨rfl, rfl, x, m, hx, hx14, hm, hs⟩, fun r I1 J1 hp => ?_⟩
      obtain ⟨rfl, rfl, rfl⟩ := hp
      refine ⟨rfl, mv_lay_ch (by omega), ⟨s.toNatClampNeg, by omega, rfl, SH_rem hS (by omega)⟩, fun r I1 J1 hp => ?_⟩
      obtain ⟨rfl, rfl, rfl⟩ := hp
      exact ⟨rfl, fun s' w' e => by cases e; rw [if_pos hv, if_pos h3]; exact ⟨rfl, rfl⟩⟩
    · have h3 := mv_b0.mp h3
      exact ⟨rfl, fun s' w' e => by cases e; rw [if_pos hv, if_neg h3]; exact ⟨rfl, rfl⟩⟩
theorem c_tell {l : Launch} {G : mv_G} {A : Nat → Prop} (hG : mv_adk G A) : mv_Con l G A 77 sp_tell := mv_con hG 77 mv_k_X6_tell (by decide +kernel) (mv_cs_cons (c_at hG) (mv_cs_cons (c_within hG) (mv_cs_cons (c_remember hG) (mv_cs_cons (c_addCount hG) (mv_cs_nil))))) cb_tell
def sp_gap : mv_SP := (fun as I _ => SH I ∧ ∃ s : Int32, as = [.ref 0, .int s],
  fun as I J r I' J' => J = J' ∧ ∀ s : Int32, as = [.ref 0, .int s] → if sv I s then r = some (.int (appI (remI I) (scn s) (-9) (scn s) 7)) ∧ I' = appI (remI I) (scn s) (-9) else r = some (.int (-1)) ∧ I = I')
theorem cb_gap : mv_body 60 mv_t_X6_gap (mv_cs [(25, sp_at), (2, sp_remember), (7, sp_addGap)]) sp_gap := by
  intro as I J h
  obtain ⟨hS, s, rfl⟩ := h
  obtain ⟨m, hm, hs⟩ := SH_now hS
  obtain ⟨x, hx14, hx⟩ := hS.2.2.1
  refine ⟨rfl, mv_run_V (stop := []) 60 _ _ _ _ _ ?_⟩
  refine ⟨rfl, _, rfl, rfl, rfl, ⟨0, m, by decide, rfl, hm, hs⟩, fun r I1 J1 hp => ?_⟩
  obtain ⟨rfl, rfl, hr⟩ := hp
  rcases at_now hr with ⟨hv, rfl⟩ | ⟨hv, rfl⟩
  · exact ⟨rfl, fun s' e => by cases e; rw [if_neg hv]; exact ⟨rfl, rfl⟩⟩
  · obtain ⟨j, hj, -, hjc⟩ := sv_in hS hv
    refine ⟨rfl, _, rfl, rfl, _, rfl, rfl, rfl, ⟨rfl, rfl, x, m, hx, hx14, hm, hs⟩, fun r I1 J1 hp => ?_⟩
    obtain ⟨rfl, rfl, rfl⟩ := hp
    refine ⟨rfl, mv_lay_ch (by omega), ⟨s.toNatClampNeg, by omega, rfl, SH_rem hS (by omega)⟩, fun r I1 J1 hp => ?_⟩
    obtain ⟨rfl, rfl, rfl⟩ := hp
    refine ⟨mv_lay_ch (by omega), ?_⟩
    exact ⟨rfl, fun s' e => by cases e; rw [if_pos hv]; exact ⟨rfl, rfl⟩⟩
theorem c_gap {l : Launch} {G : mv_G} {A : Nat → Prop} (hG : mv_adk G A) : mv_Con l G A 60 sp_gap := mv_con hG 60 mv_k_X6_gap (by decide +kernel) (mv_cs_cons (c_at hG) (mv_cs_cons (c_remember hG) (mv_cs_cons (c_addGap hG) (mv_cs_nil)))) cb_gap
def sp_clear : mv_SP := (fun as I _ => SH I ∧ ∃ s : Int32, as = [.ref 0, .int s],
  fun as I J r I' J' => J = J' ∧ ∀ s : Int32, as = [.ref 0, .int s] → if sv I s then r = some (.int (I (scn s) 8 + I (scn s) 9)) ∧ I' = dropI (remI I) (scn s) else r = some (.int (-1)) ∧ I = I')
theorem cb_clear : mv_body 52 mv_t_X6_clear (mv_cs [(25, sp_at), (2, sp_remember), (13, sp_dropSums)]) sp_clear := by
  intro as I J h
  obtain ⟨hS, s, rfl⟩ := h
  obtain ⟨m, hm, hs⟩ := SH_now hS
  obtain ⟨x, hx14, hx⟩ := hS.2.2.1
  refine ⟨rfl, mv_run_V (stop := []) 60 _ _ _ _ _ ?_⟩
  refine ⟨rfl, _, rfl, rfl, rfl, ⟨0, m, by decide, rfl, hm, hs⟩, fun r I1 J1 hp => ?_⟩
  obtain ⟨rfl, rfl, hr⟩ := hp
  rcases at_now hr with ⟨hv, rfl⟩ | ⟨hv, rfl⟩
  · exact ⟨rfl, fun s' e => by cases e; rw [if_neg hv]; exact ⟨rfl, rfl⟩⟩
  · obtain ⟨j, hj, -, hjc⟩ := sv_in hS hv
    refine ⟨mv_lay_ch (by omega), mv_lay_ch (by omega), rfl, _, rfl, rfl, _, rfl, rfl, rfl, ⟨rfl, rfl, x, m, hx, hx14, hm, hs⟩, fun r I1 J1 hp => ?_⟩
    obtain ⟨rfl, rfl, rfl⟩ := hp
    refine ⟨rfl, mv_lay_ch (by omega), ⟨s.toNatClampNeg, by omega, rfl⟩, fun r I1 J1 hp => ?_⟩
    obtain ⟨rfl, rfl, rfl⟩ := hp
    exact ⟨rfl, fun s' e => by cases e; rw [if_pos hv]; exact ⟨rfl, rfl⟩⟩
theorem c_clear {l : Launch} {G : mv_G} {A : Nat → Prop} (hG : mv_adk G A) : mv_Con l G A 52 sp_clear := mv_con hG 52 mv_k_X6_clear (by decide +kernel) (mv_cs_cons (c_at hG) (mv_cs_cons (c_remember hG) (mv_cs_cons (c_dropSums hG) (mv_cs_nil)))) cb_clear
def sp_set : mv_SP := (fun as I _ => SH I ∧ ∃ s w v : Int32, as = [.ref 0, .int s, .int w, .int v],
  fun as I J r I' J' => J = J' ∧ ∀ s w v : Int32, as = [.ref 0, .int s, .int w, .int v] → (sv I s → alwP w v → r = some (.int (I (scn s) (parF w))) ∧ I' = mv_si (remI I) (scn s) (parF w) v) ∧ (sv I s → ¬ alwP w v → r = some (.int (-2)) ∧ I = I') ∧ (¬ sv I s → r = some (.int (-1)) ∧ I = I'))
theorem cb_set : mv_body 74 mv_t_X6_set (mv_cs [(25, sp_at), (8, sp_allows), (17, sp_parameter), (2, sp_remember), (11, sp_change)]) sp_set := by
  intro as I J h
  obtain ⟨hS, s, w, v, rfl⟩ := h
  obtain ⟨m, hm, hs⟩ := SH_now hS
  obtain ⟨x, hx14, hx⟩ := hS.2.2.1
  refine ⟨rfl, mv_run_V (stop := []) 60 _ _ _ _ _ ?_⟩
  refine ⟨rfl, _, rfl, rfl, rfl, ⟨0, m, by decide, rfl, hm, hs⟩, fun r I1 J1 hp => ?_⟩
  obtain ⟨rfl, rfl, hr⟩ := hp
  rcases at_now hr with ⟨hv, rfl⟩ | ⟨hv, rfl⟩
  · exact ⟨rfl, fun s' w' v' e => by cases e; exact ⟨fun z => absurd z hv, fun z => absurd z hv, fun _ => ⟨rfl, rfl⟩⟩⟩
  · obtain ⟨j, hj, -, hjc⟩ := sv_in hS hv
    refine ⟨rfl, trivial, fun r I1 J1 hp => ?_⟩
    obtain ⟨⟨z, rfl, hz⟩, rfl, rfl⟩ := hp
    refine ⟨fun h3 => ?_, fun h3 => ?_⟩
    · have h3 : alwP w v := Classical.byContradiction (fun q => h3 (hz.mpr q))
      refine ⟨rfl, mv_lay_ch (by omega), ⟨s.toNatClampNeg, by omega, rfl⟩, fun r I1 J1 hp => ?_⟩
      obtain ⟨rfl, rfl, rfl⟩ := hp
      refine ⟨rfl, _, rfl, rfl, _, rfl, rfl, rfl, ⟨rfl, rfl, x, m, hx, hx14, hm, hs⟩, fun r I1 J1 hp => ?_⟩
      obtain ⟨rfl, rfl, rfl⟩ := hp
      refine ⟨rfl, mv_lay_ch (by omega), ⟨s.toNatClampNeg, by omega, rfl⟩, fun r I1 J1 hp => ?_⟩
      obtain ⟨rfl, rfl, rfl⟩ := hp
      exact ⟨rfl, fun s' w' v' e => by cases e; exact ⟨fun _ _ => ⟨rfl, rfl⟩, fun _ q => absurd h3 q, fun q => absurd hv q⟩⟩
    · have h3 := hz.mp h3
      exact ⟨rfl, fun s' w' v' e => by cases e; exact ⟨fun _ q => absurd q h3, fun _ _ => ⟨rfl, rfl⟩, fun q => absurd hv q⟩⟩
theorem c_set {l : Launch} {G : mv_G} {A : Nat → Prop} (hG : mv_adk G A) : mv_Con l G A 74 sp_set := mv_con hG 74 mv_k_X6_set (by decide +kernel) (mv_cs_cons (c_at hG) (mv_cs_cons (c_allows hG) (mv_cs_cons (c_parameter hG) (mv_cs_cons (c_remember hG) (mv_cs_cons (c_change hG) (mv_cs_nil)))))) cb_set
/-- divided by ten, k times -/
def dvF (w : Int32) : Nat → Int32
  | 0 => w
  | k + 1 => dvF w k / 10
def chF (w : Int32) (i : Nat) : Int32 := dvF w (4 - i) - dvF w (4 - i) / 10 * 10
def sp_chance : mv_SP := (fun as _ _ => ∃ (w : Int32) (i : Nat), i < 5 ∧ as = [.int w, .int (nI i)],
  fun as I J r I' J' => I = I' ∧ J = J' ∧ ∀ (w : Int32) (i : Nat), i < 5 → as = [.int w, .int (nI i)] → r = some (.int (chF w i)))
theorem cb_chance : mv_body 31 mv_t_X3_chance (mv_cs []) sp_chance := by
  intro as I J h
  obtain ⟨w, i, hi, rfl⟩ := h
  have key : ∀ r k : Nat, i + k + r = 4 → mv_V mv_ow mv_swf mv_t_X3_chance (mv_cs []) (sp_chance.2 [.int w, .int (nI i)] I J) 4 [(0, .int w), (1, .int (nI i)), (2, .int (dvF w k)), (3, .int (nI (i + k)))] [] I J := by
    intro r
    induction r with
    | zero =>
      intro k hk
      refine mv_run_V (stop := [4]) 30 _ _ _ _ _ ?_
      refine ⟨fun h1 => ?_, fun h1 => ?_⟩
      · refine ⟨mv_nz10, rfl, rfl, fun w' i' hi' e => ?_⟩
        injection e with e1 e2
        injection e2 with e2 e3
        injection e1 with e1
        injection e2 with e2
        have : i = i' := (nI_eq (by omega) (by omega)).mp e2
        subst this
        subst e1
        have hk4 : 4 - i = k := by omega
        unfold chF
        rw [hk4]
      · have h1 : nI (i + k) < nI 4 := h1
        rw [show i + k = 4 from hk] at h1
        exact absurd h1 (nI_nlt (Nat.le_refl 4) (by decide))
    | succ r ih =>
      intro k hk
      refine mv_run_V (stop := [4]) 30 _ _ _ _ _ ?_
      refine ⟨fun h1 => ?_, fun h1 => ?_⟩
      · have h1 : ¬ nI (i + k) < nI 4 := h1
        exact absurd (nI_lt (by omega) (by omega)) h1
      · refine ⟨mv_nz10, ?_⟩
        have h2 := ih (k + 1) (by omega)
        rw [← Nat.add_assoc, nI_succ] at h2
        exact h2
  refine ⟨rfl, mv_run_V (stop := [4]) 30 _ _ _ _ _ ?_⟩
  exact key (4 - i) 0 (by omega)
theorem c_chance {l : Launch} {G : mv_G} {A : Nat → Prop} (hG : mv_adk G A) : mv_Con l G A 31 sp_chance := mv_con hG 31 mv_k_X3_chance (by decide +kernel) (mv_cs_nil) cb_chance
def sp_digitSum : mv_SP := (fun as _ _ => ∃ w : Int32, as = [.int w],
  fun as I J r I' J' => I = I' ∧ J = J' ∧ ∀ w : Int32, as = [.int w] → r = some (.int (0 + chF w 0 + chF w 1 + chF w 2 + chF w 3 + chF w 4)))
theorem cb_digitSum : mv_body 55 mv_t_X6_digitSum (mv_cs [(31, sp_chance)]) sp_digitSum := by
  intro as I J h
  obtain ⟨w, rfl⟩ := h
  have e4 : mv_V mv_ow mv_swf mv_t_X6_digitSum (mv_cs [(31, sp_chance)]) (sp_digitSum.2 [.int w] I J) 4 [(0, .int w), (1, .int (0 + chF w 0 + chF w 1 + chF w 2 + chF w 3 + chF w 4)), (2, .int 5)] [] I J := by
    refine mv_run_V (stop := [4]) 30 _ _ _ _ _ ?_
    refine ⟨fun h1 => ?_, fun h1 => ?_⟩
    · exact ⟨rfl, rfl, fun w' e => by cases e; rfl⟩
    · exact absurd h1 (by decide)
  have st : ∀ (i : Nat) (x y : Int32), i < 5 → nI i + 1 = y → (mv_V mv_ow mv_swf mv_t_X6_digitSum (mv_cs [(31, sp_chance)]) (sp_digitSum.2 [.int w] I J) 4 [(0, .int w), (1, .int (x + chF w i)), (2, .int y)] [] I J) → mv_V mv_ow mv_swf mv_t_X6_digitSum (mv_cs [(31, sp_chance)]) (sp_digitSum.2 [.int w] I J) 4 [(0, .int w), (1, .int x), (2, .int (nI i))] [] I J := by
    intro i x y hi hy hn
    refine mv_run_V (stop := [4]) 30 _ _ _ _ _ ?_
    refine ⟨fun h1 => ?_, fun h1 => ?_⟩
    · have h1 : ¬ nI i < nI 5 := h1
      exact absurd (nI_lt hi (by decide)) h1
    · refine ⟨rfl, ⟨w, i, hi, rfl⟩, fun r I1 J1 hp => ?_⟩
      obtain ⟨rfl, rfl, hr⟩ := hp
      have hr := hr w i hi rfl
      subst hr
      subst hy
      exact hn
  refine ⟨rfl, mv_run_V (stop := [4]) 30 _ _ _ _ _ ?_⟩
  exact st 0 0 1 (by decide) rfl (st 1 _ 2 (by decide) rfl (st 2 _ 3 (by decide) rfl (st 3 _ 4 (by decide) rfl (st 4 _ 5 (by decide) rfl e4))))
theorem c_digitSum {l : Launch} {G : mv_G} {A : Nat → Prop} (hG : mv_adk G A) : mv_Con l G A 55 sp_digitSum := mv_con hG 55 mv_k_X6_digitSum (by decide +kernel) (mv_cs_cons (c_chance hG) (mv_cs_nil)) cb_digitSum
abbrev dgP (w : Int32) : Prop := 0 ≤ w ∧ w ≤ 99999 ∧ 0 + chF w 0 + chF w 1 + chF w 2 + chF w 3 + chF w 4 = 10
def sp_chances : mv_SP := (fun as I _ => SH I ∧ ∃ w : Int32, as = [.ref 0, .int w],
  fun as I J r I' J' => J = J' ∧ ∀ w : Int32, as = [.ref 0, .int w] → if dgP w then r = some (.int (I 400 2)) ∧ I' = mv_si (remI I) 400 2 w else r = some (.int (-2)) ∧ I = I')
theorem cb_chances : mv_body 51 mv_t_X6_chances (mv_cs [(84, sp_within), (55, sp_digitSum), (2, sp_remember)]) sp_chances := by
  intro as I J h
  obtain ⟨hS, w, rfl⟩ := h
  obtain ⟨m, hm, hs⟩ := SH_now hS
  obtain ⟨x, hx14, hx⟩ := hS.2.2.1
  refine ⟨rfl, mv_run_V (stop := []) 60 _ _ _ _ _ ?_⟩
  refine ⟨rfl, trivial, fun r I1 J1 hp => ?_⟩
  obtain ⟨rfl, rfl, rfl⟩ := hp
  refine ⟨fun h2 => ?_, fun h2 => ?_⟩
  · have h2 := mv_b0.mp h2
    exact ⟨rfl, fun w' e => by cases e; rw [if_neg (fun z => h2 ⟨z.1, z.2.1⟩)]; exact ⟨rfl, rfl⟩⟩
  · have h2 := b_yes h2
    refine ⟨rfl, ⟨w, rfl⟩, fun r I1 J1 hp => ?_⟩
    obtain ⟨rfl, rfl, hr⟩ := hp
    have hr := hr w rfl
    subst hr
    refine ⟨fun h4 => ?_, fun h4 => ?_⟩
    · refine ⟨rfl, _, rfl, rfl, rfl, _, rfl, rfl, _, rfl, rfl, rfl, ⟨rfl, rfl, x, m, hx, hx14, hm, hs⟩, fun r I1 J1 hp => ?_⟩
      obtain ⟨rfl, rfl, rfl⟩ := hp
      refine ⟨rfl, _, rfl, rfl, rfl, fun w' e => ?_⟩
      cases e
      rw [if_pos ⟨h2.1, h2.2, h4⟩]
      exact ⟨rfl, rfl⟩
    · exact ⟨rfl, fun w' e => by cases e; rw [if_neg (fun z => h4 z.2.2)]; exact ⟨rfl, rfl⟩⟩
theorem c_chances {l : Launch} {G : mv_G} {A : Nat → Prop} (hG : mv_adk G A) : mv_Con l G A 51 sp_chances := mv_con hG 51 mv_k_X6_chances (by decide +kernel) (mv_cs_cons (c_within hG) (mv_cs_cons (c_digitSum hG) (mv_cs_cons (c_remember hG) (mv_cs_nil)))) cb_chances
def sp_undo : mv_SP := (fun as I _ => SH I ∧ as = [.ref 0],
  fun _ I J r I' J' => J = J' ∧ if I 3 2 = 0 then r = some (.int (-3)) ∧ I = I' else r = some (.int (tkbI I 3 2)) ∧ I' = tkbI I)
theorem cb_undo : mv_body 78 mv_t_X6_undo (mv_cs [(3, sp_takeBack)]) sp_undo := by
  intro as I J h
  obtain ⟨hS, rfl⟩ := h
  obtain ⟨x, hx14, hx⟩ := hS.2.2.1
  obtain ⟨m, hm, hs⟩ := hS.1 (1 + (x + 13) % 14) (by omega)
  refine ⟨rfl, mv_run_V (stop := []) 60 _ _ _ _ _ ?_⟩
  refine ⟨rfl, _, rfl, rfl, fun h1 => ?_, fun h1 => ?_⟩
  · refine ⟨rfl, _, rfl, rfl, _, rfl, rfl, rfl, ⟨rfl, rfl, x, m, hx, hx14, hm, hs⟩, fun r I1 J1 hp => ?_⟩
    obtain ⟨rfl, rfl, rfl⟩ := hp
    refine ⟨rfl, _, rfl, rfl, rfl, ?_⟩
    rw [if_neg h1]
    exact ⟨rfl, rfl⟩
  · refine ⟨rfl, ?_⟩
    rw [if_pos h1]
    exact ⟨rfl, rfl⟩
theorem c_undo {l : Launch} {G : mv_G} {A : Nat → Prop} (hG : mv_adk G A) : mv_Con l G A 78 sp_undo := mv_con hG 78 mv_k_X6_undo (by decide +kernel) (mv_cs_cons (c_takeBack hG) (mv_cs_nil)) cb_undo
