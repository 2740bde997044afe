/-! The class's methods on acts and series. -/
theorem mv_c0 {I : mv_I} {j m : Nat} (hm : m ≤ 5) (hj : j < m) : (nI j).toNatClampNeg = j := nI_clamp (by omega)
abbrev sv (I : mv_I) (s : Int32) : Prop := 0 ≤ s ∧ s ≤ I 400 1 - 1
abbrev scn (s : Int32) : Nat := 100 + 3 * s.toNatClampNeg
theorem sv_in {I : mv_I} (hS : SH I) {s : Int32} (h : sv I s) : ∃ j : Nat, j < 5 ∧ s = nI j ∧ s.toNatClampNeg = j := by
  obtain ⟨m, hm, hs⟩ := SH_now hS
  obtain ⟨j, hj, rfl⟩ := mv_upto (m := m) (by omega) h.1 (by rw [← hs]; exact h.2)
  exact ⟨j, by omega, rfl, nI_clamp (by omega)⟩
theorem at_now {I : mv_I} {x : Int32} {r : Option Value} (h : ∀ g : Nat, 400 = 400 + 2 * g → if 0 ≤ x ∧ x ≤ I 400 1 - 1 then r = some (.ref (100 + 3 * (5 * g + x.toNatClampNeg))) else r = some .null) : (¬ sv I x ∧ r = some .null) ∨ (sv I x ∧ r = some (.ref (scn x))) := by
  have h0 := h 0 rfl
  by_cases hv : 0 ≤ x ∧ x ≤ I 400 1 - 1
  · rw [if_pos hv, Nat.mul_zero, Nat.zero_add] at h0
    exact Or.inr ⟨hv, h0⟩
  · rw [if_neg hv] at h0
    exact Or.inl ⟨hv, h0⟩
theorem b_yes {c : Prop} [Decidable c] (h : ¬ mv_b c = 0) : c := Decidable.not_not.mp (fun z => h (mv_b0.mpr z))
def sp_wipe : mv_SP := (fun as _ _ => as = [.ref 0], fun _ I J r I' J' => r = some (.int (I 1 1)) ∧ I' = mv_si I 1 1 0 ∧ J = J')
theorem cb_wipe : mv_body 83 mv_t_X6_wipe (mv_cs []) sp_wipe := by
  intro as I J h
  have h : as = [.ref 0] := h
  subst h
  refine ⟨rfl, mv_run_V (stop := []) 60 _ _ _ _ _ ?_⟩
  exact ⟨rfl, _, rfl, rfl, rfl, _, rfl, rfl, rfl, rfl, rfl⟩
theorem c_wipe {l : Launch} {G : mv_G} {A : Nat → Prop} (hG : mv_adk G A) : mv_Con l G A 83 sp_wipe := mv_con hG 83 mv_k_X6_wipe (by decide +kernel) (mv_cs_nil) cb_wipe
def sp_series : mv_SP := (fun as I _ => SH I ∧ ∃ s w : Int32, as = [.ref 0, .int s, .int w],
  fun as I J r I' J' => I = I' ∧ J = J' ∧ ∀ s w : Int32, as = [.ref 0, .int s, .int w] → r = some (.int (if sv I s then (if 0 ≤ w ∧ w ≤ 13 then proF I (scn s) w else -2) else -1)))
theorem cb_series : mv_body 73 mv_t_X6_series (mv_cs [(25, sp_at), (84, sp_within), (18, sp_property)]) sp_series := by
  intro as I J h
  obtain ⟨hS, s, w, rfl⟩ := h
  obtain ⟨m, hm, hs⟩ := SH_now hS
  refine ⟨rfl, mv_run_V (stop := []) 60 _ _ _ _ _ ?_⟩
  refine ⟨rfl, _, rfl, rfl, rfl, ⟨0, m, by decide, rfl, hm, hs⟩, fun r I1 J1 hp => ?_⟩
  obtain ⟨rfl, rfl, hr⟩ := hp
  rcases at_now hr with ⟨hv, rfl⟩ | ⟨hv, rfl⟩
  · exact ⟨rfl, rfl, fun s' w' e => by cases e; rw [if_neg hv]⟩
  · obtain ⟨j, hj, -, hjc⟩ := sv_in hS hv
    refine ⟨rfl, trivial, fun r I1 J1 hp => ?_⟩
    obtain ⟨rfl, rfl, rfl⟩ := hp
    refine ⟨fun h3 => ?_, fun h3 => ?_⟩
    · have h3 := mv_b0.mp h3
      exact ⟨rfl, rfl, fun s' w' e => by cases e; rw [if_pos hv, if_neg h3]⟩
    · have h3 := b_yes h3
      refine ⟨rfl, mv_lay_ch (by omega), ⟨s.toNatClampNeg, by omega, rfl⟩, fun r I1 J1 hp => ?_⟩
      obtain ⟨rfl, rfl, rfl⟩ := hp
      exact ⟨rfl, rfl, fun s' w' e => by cases e; rw [if_pos hv, if_pos h3]⟩
theorem c_series {l : Launch} {G : mv_G} {A : Nat → Prop} (hG : mv_adk G A) : mv_Con l G A 73 sp_series := mv_con hG 73 mv_k_X6_series (by decide +kernel) (mv_cs_cons (c_at hG) (mv_cs_cons (c_within hG) (mv_cs_cons (c_property hG) (mv_cs_nil)))) cb_series
