/-! length once more, asking less: of the series that there is alone. -/
def sp_lengthW : mv_SP := (fun as I _ => SH I ∧ ∃ s u : Int32, as = [.ref 0, .int s, .int u] ∧ (sv I s → (∃ x : Nat, x ≤ 9 ∧ I (scn s) 1 = nI x) ∧ ∃ b : Nat, 1 ≤ b ∧ b ≤ 99 ∧ I (scn s) 2 = nI b),
  fun as I J r I' J' => I = I' ∧ rlOk J J' ∧ match as with
    | [_, .int s, .int u] => r = some (.long (if sv I s then lenF (I (scn s) 1).toNatClampNeg (I (scn s) 2).toNatClampNeg (I 400 2) u else -1))
    | _ => True)
theorem cb_lengthW : mv_body 65 mv_t_X6_length (mv_cs [(25, sp_at), (36, sp_solve), (67, sp_lowest)]) sp_lengthW := by
  intro as I J h
  obtain ⟨hS, s, u, rfl, hB⟩ := h
  obtain ⟨m, hm, hs⟩ := SH_now hS
  have fin : ∀ (x : Int64) (J1 : mv_J), rlOk J J1 → x = (if sv I s then lenF (I (scn s) 1).toNatClampNeg (I (scn s) 2).toNatClampNeg (I 400 2) u else -1) → sp_lengthW.2 [.ref 0, .int s, .int u] I J (some (.long x)) I J1 := by
    intro x J1 hJ hx
    exact ⟨rfl, hJ, congrArg (fun q => some (Value.long q)) hx⟩
  refine ⟨rfl, mv_run_V (stop := []) 60 _ _ _ _ _ ?_⟩
  refine ⟨rfl, _, rfl, rfl, rfl, ⟨0, m, by decide, rfl, hm, hs⟩, fun r I1 J1 hp => ?_⟩
  obtain ⟨rfl, rfl, hr⟩ := hp
  rcases at_now hr with ⟨hv, rfl⟩ | ⟨hv, rfl⟩
  · exact fin _ _ (fun _ _ => rfl) (by rw [if_neg hv])
  · obtain ⟨j, hj, -, hjc⟩ := sv_in hS hv
    obtain ⟨⟨a, ha, ea⟩, b, hb1, hb, eb⟩ := hB hv
    have ca : (I (scn s) 1).toNatClampNeg = a := by rw [ea]; exact nI_clamp (by omega)
    have cb : (I (scn s) 2).toNatClampNeg = b := by rw [eb]; exact nI_clamp (by omega)
    have lay : mv_lay (scn s) = (1, 1, 0) := mv_lay_ch (by omega)
    rw [ca, cb, if_pos hv] at fin
    have ca2 : (nI a).toNatClampNeg = a := nI_clamp (by omega)
    have cb2 : (nI b).toNatClampNeg = b := nI_clamp (by omega)
    refine ⟨lay, fun h2 => ?_, fun h2 => ?_⟩
    · rw [eb] at h2
      have h2 : ¬ 6 < b := fun z => h2 (nI_lt z (by omega))
      refine ⟨rfl, _, rfl, lay, lay, rfl, _, rfl, rfl, rfl, rfl, ⟨a, b, I 400 2, ha, by omega, by rw [← ea, ← eb]⟩, fun r1 I2 J2 hp => ?_⟩
      obtain ⟨rfl, hJ2, hr⟩ := hp
      have hr : if (1 ≤ (I (scn s) 2).toNatClampNeg ∧ (I (scn s) 2).toNatClampNeg ≤ 6) ∧ ¬ clF (I (scn s) 1) (I 400 2) 5 0 = 0 then J2 14 1 = lenA (I (scn s) 1).toNatClampNeg (I (scn s) 2).toNatClampNeg (I 400 2) ∧ J2 14 2 = lenB (I (scn s) 1).toNatClampNeg (I (scn s) 2).toNatClampNeg (I 400 2) ∧ r1 = some (.int (mv_b (0 < lenB (I (scn s) 1).toNatClampNeg (I (scn s) 2).toNatClampNeg (I 400 2)))) else r1 = some (.int 0) := hr
      rw [ca, cb, ea] at hr
      by_cases hcl : clF (nI a) (I 400 2) 5 0 = 0
      · rw [if_neg (fun z => z.2 hcl)] at hr
        subst hr
        refine ⟨fun h4 => absurd rfl h4, fun _ => fin _ _ hJ2 ?_⟩
        unfold lenF
        rw [if_neg h2, if_pos (Or.inl hcl)]
      · rw [if_pos ⟨⟨hb1, by omega⟩, hcl⟩] at hr
        obtain ⟨e1, e2, rfl⟩ := hr
        refine ⟨fun h4 => ?_, fun h4 => ?_⟩
        · have h4 := b_yes h4
          refine ⟨rfl, _, rfl, rfl, rfl, _, rfl, rfl, rfl, trivial, fun r1 I3 J3 hp => ?_⟩
          obtain ⟨hr, rfl, rfl⟩ := hp
          have hr : r1 = some (.long (lowF (J2 14 1) (J2 14 2) u)) := hr
          subst hr
          refine fin _ _ hJ2 ?_
          unfold lenF
          rw [if_neg h2, if_neg (fun z => z.elim hcl (fun z => z h4)), e1, e2]
        · have h4 := mv_b0.mp h4
          refine fin _ _ hJ2 ?_
          unfold lenF
          rw [if_neg h2, if_pos (Or.inr h4)]
    · rw [eb] at h2
      have h2 : 6 < b := (nI_ltI (a := 6) (by decide) (by omega)).mp h2
      refine fin _ _ (fun _ _ => rfl) ?_
      unfold lenF
      rw [if_pos h2]
theorem c_lengthW {l : Launch} {G : mv_G} {A : Nat → Prop} (hG : mv_adk G A) : mv_Con l G A 65 sp_lengthW := mv_con hG 65 mv_k_X6_length (by decide +kernel) (mv_cs_cons (c_at hG) (mv_cs_cons (c_solve hG) (mv_cs_cons (c_lowest hG) (mv_cs_nil)))) cb_lengthW
