/-! Ranking, observations, slots, counts. -/
theorem mv_lay_si {i : Nat} (h : i < 6) : mv_lay (8 + i) = (1, 4, 0) := by
  have : ∀ i, i < 6 → mv_lay (8 + i) = (1, 4, 0) := by decide +kernel
  exact this i h
theorem mv_rf_si {i : Nat} (h : i < 6) : mv_rf 7 i = some (8 + i) := by
  have : ∀ i, i < 6 → mv_rf 7 i = some (8 + i) := by decide +kernel
  exact this i h
theorem mv_rf_sl {i : Nat} (h : i < 2) : mv_rf 5 i = some (400 + 2 * (15 + i)) := by
  have : ∀ i, i < 2 → mv_rf 5 i = some (400 + 2 * (15 + i)) := by decide +kernel
  exact this i h
/-- the first series, from k on, of the rank p -/
noncomputable def rkdF (I : mv_I) (p : Int32) (m : Nat) : Nat → Nat → Int32
  | 0, _ => -1
  | r + 1, k => if rnkF I 0 k m = p then nI k else rkdF I p m r (k + 1)
def sp_ranked : mv_SP := (fun as I _ => SH I ∧ ∃ p : Int32, as = [.ref 0, .int p],
  fun as I J r I' J' => I = I' ∧ J = J' ∧ match as with
    | [_, .int p] => r = some (.int (rkdF I p (I 400 1).toNatClampNeg (I 400 1).toNatClampNeg 0))
    | _ => True)
theorem cb_ranked : mv_body 69 mv_t_X6_ranked (mv_cs [(29, sp_rankOf)]) sp_ranked := by
  intro as I J h
  obtain ⟨hS, p, rfl⟩ := h
  obtain ⟨m, hm, hs⟩ := SH_now hS
  have hcm : (I 400 1).toNatClampNeg = m := by rw [hs]; exact nI_clamp (by omega)
  have key : ∀ r k : Nat, k + r = m → rkdF I p m r k = rkdF I p m m 0 → mv_V mv_ow mv_swf mv_t_X6_ranked (mv_cs [(29, sp_rankOf)]) (sp_ranked.2 [.ref 0, .int p] I J) 2 [(0, .ref 0), (1, .int p), (2, .int (nI k))] [] I J := by
    intro r
    induction r with
    | zero =>
      intro k hk hf
      have hk : k = m := hk
      subst hk
      refine mv_run_V (stop := [2]) 40 _ _ _ _ _ ?_
      refine ⟨rfl, _, rfl, rfl, fun h1 => ?_, fun h1 => ?_⟩
      · refine ⟨rfl, rfl, ?_⟩
        show some (Value.int (-1)) = _
        rw [hcm, ← hf]
        rfl
      · rw [hs] at h1
        exact absurd h1 (nI_nlt (Nat.le_refl k) (by omega))
    | succ r ih =>
      intro k hk hf
      rw [rkdF] at hf
      have hck : (nI k).toNatClampNeg = k := nI_clamp (by omega)
      refine mv_run_V (stop := [2]) 40 _ _ _ _ _ ?_
      refine ⟨rfl, _, rfl, rfl, fun h1 => ?_, fun h1 => ?_⟩
      · rw [hs] at h1
        exact absurd (nI_lt (by omega) (by omega)) h1
      · refine ⟨rfl, _, rfl, rfl, rfl, ⟨0, m, k, by decide, rfl, hm, hs, by omega, rfl⟩, fun r1 I1 J1 hp => ?_⟩
        obtain ⟨rfl, rfl, hr⟩ := hp
        have hr := hr 0 rfl
        rw [hck, hcm] at hr
        subst hr
        refine ⟨fun h3 => ?_, fun h3 => ?_⟩
        · rw [if_neg h3] at hf
          have h4 := ih (k + 1) (by omega) hf
          rw [nI_succ] at h4
          exact h4
        · rw [if_pos h3] at hf
          refine ⟨rfl, rfl, ?_⟩
          show some (Value.int (nI k)) = _
          rw [hcm, ← hf]
  refine ⟨rfl, mv_run_V (stop := [2]) 40 _ _ _ _ _ ?_⟩
  exact key m 0 (Nat.zero_add m) rfl
theorem c_ranked {l : Launch} {G : mv_G} {A : Nat → Prop} (hG : mv_adk G A) : mv_Con l G A 69 sp_ranked := mv_con hG 69 mv_k_X6_ranked (by decide +kernel) (mv_cs_cons (c_rankOf hG) (mv_cs_nil)) cb_ranked
def seeI (I : mv_I) (s n k w : Int32) : mv_I := mv_si (mv_si (mv_si (mv_si (mv_si I (8 + (I 0 6).toNatClampNeg) 0 s) (8 + (I 0 6).toNatClampNeg) 1 n) (8 + (I 0 6).toNatClampNeg) 2 k) (8 + (I 0 6).toNatClampNeg) 3 w) 0 6 (I 0 6 + 1)
abbrev seeP (n k w : Int32) : Prop := (0 ≤ n ∧ n ≤ 9) ∧ (0 ≤ k ∧ k ≤ 9) ∧ (0 ≤ w ∧ w ≤ 1)
def sp_see : mv_SP := (fun as I _ => SH I ∧ ∃ s n k w : Int32, as = [.ref 0, .int s, .int n, .int k, .int w],
  fun as I J r I' J' => J = J' ∧ ∀ s n k w : Int32, as = [.ref 0, .int s, .int n, .int k, .int w] → if sv I s then (if seeP n k w then (if I 0 6 < 6 then r = some (.int (I 0 6 + 1)) ∧ I' = seeI I s n k w else r = some (.int (-4)) ∧ I = I') else r = some (.int (-2)) ∧ I = I') else r = some (.int (-1)) ∧ I = I')
theorem cb_see : mv_body 71 mv_t_X6_see (mv_cs [(25, sp_at), (84, sp_within)]) sp_see := by
  intro as I J h
  obtain ⟨hS, s, n, k, w, rfl⟩ := h
  obtain ⟨m, hm, hs⟩ := SH_now hS
  obtain ⟨q, hq, hsq⟩ := hS.2.2.2.2.2.1
  refine ⟨rfl, mv_run_V (stop := []) 90 _ _ _ _ _ ?_⟩
  refine ⟨rfl, _, rfl, rfl, rfl, ⟨0, m, by decide, rfl, hm, hs⟩, fun r I1 J1 hp => ?_⟩
  obtain ⟨rfl, rfl, hr⟩ := hp
  rcases at_now hr with ⟨hv, rfl⟩ | ⟨hv, rfl⟩
  · exact ⟨rfl, fun s' n' k' w' e => by cases e; rw [if_neg hv]; exact ⟨rfl, rfl⟩⟩
  · refine ⟨rfl, trivial, fun r I1 J1 hp => ?_⟩
    obtain ⟨rfl, rfl, rfl⟩ := hp
    refine ⟨fun h3 => ?_, fun h3 => ?_⟩
    · have h3 := mv_b0.mp h3
      exact ⟨rfl, fun s' n' k' w' e => by cases e; rw [if_pos hv, if_neg (fun z => h3 z.1)]; exact ⟨rfl, rfl⟩⟩
    · have h3 := b_yes h3
      refine ⟨rfl, trivial, fun r I1 J1 hp => ?_⟩
      obtain ⟨rfl, rfl, rfl⟩ := hp
      refine ⟨fun h4 => ?_, fun h4 => ?_⟩
      · have h4 := mv_b0.mp h4
        exact ⟨rfl, fun s' n' k' w' e => by cases e; rw [if_pos hv, if_neg (fun z => h4 z.2.1)]; exact ⟨rfl, rfl⟩⟩
      · have h4 := b_yes h4
        refine ⟨rfl, trivial, fun r I1 J1 hp => ?_⟩
        obtain ⟨rfl, rfl, rfl⟩ := hp
        refine ⟨fun h5 => ?_, fun h5 => ?_⟩
        · have h5 := b_yes h5
          refine ⟨rfl, fun h6 => ?_, fun h6 => ?_⟩
          · have h6q : nI q < nI 6 := by rw [← hsq]; exact h6
            have hq6 := (nI_ltI (by omega) (by omega)).mp h6q
            have hcq : (I 0 6).toNatClampNeg = q := by rw [hsq]; exact nI_clamp (by omega)
            have hw01 : w = 0 ∨ w = 1 := by
              obtain ⟨w1, hw1, rfl⟩ := in_nat (M := 1) (by decide) h5
              rcases (show w1 = 0 ∨ w1 = 1 by omega) with rfl | rfl
              · exact Or.inl rfl
              · exact Or.inr rfl
            have hne : 8 + q ≠ 0 := by omega
            refine ⟨rfl, _, rfl, rfl, _, rfl, (by rw [hsq]; exact vp_in_nI hq6 (by omega)), _, (by rw [hcq]; exact mv_rf_si hq6), mv_lay_si hq6, mv_lay_si hq6, mv_lay_si hq6, ?_⟩
            refine ⟨fun h7 => ?_, fun h7 => ?_⟩
            · have hw0 : w = 0 := hw01.resolve_right h7
              refine ⟨mv_lay_si hq6, Or.inl rfl, rfl, rfl, rfl, rfl, rfl, fun s' n' k' w' e => ?_⟩
              cases e
              rw [if_pos hv, if_pos ⟨h3, h4, h5⟩, if_pos h6]
              unfold seeI
              rw [hcq, hw0]
              refine ⟨?_, ?_⟩
              · simp [mv_si_ap, hne.symm]
              · congr 1
                simp [mv_si_ap, hne.symm]
            · refine ⟨mv_lay_si hq6, Or.inr rfl, rfl, rfl, rfl, rfl, rfl, fun s' n' k' w' e => ?_⟩
              cases e
              rw [if_pos hv, if_pos ⟨h3, h4, h5⟩, if_pos h6]
              unfold seeI
              rw [hcq, h7]
              refine ⟨?_, ?_⟩
              · simp [mv_si_ap, hne.symm]
              · congr 1
                simp [mv_si_ap, hne.symm]
          · exact ⟨rfl, fun s' n' k' w' e => by cases e; rw [if_pos hv, if_pos ⟨h3, h4, h5⟩, if_neg h6]; exact ⟨rfl, rfl⟩⟩
        · have h5 := mv_b0.mp h5
          exact ⟨rfl, fun s' n' k' w' e => by cases e; rw [if_pos hv, if_neg (fun z => h5 z.2.2)]; exact ⟨rfl, rfl⟩⟩
theorem c_see {l : Launch} {G : mv_G} {A : Nat → Prop} (hG : mv_adk G A) : mv_Con l G A 71 sp_see := mv_con hG 71 mv_k_X6_see (by decide +kernel) (mv_cs_cons (c_at hG) (mv_cs_cons (c_within hG) (mv_cs_nil))) cb_see
def sp_unsee : mv_SP := (fun as _ _ => as = [.ref 0], fun _ I J r I' J' => r = some (.int (I 0 6)) ∧ I' = mv_si I 0 6 0 ∧ J = J')
theorem cb_unsee : mv_body 79 mv_t_X6_unsee (mv_cs []) sp_unsee := by
  intro as I J h
  have h : as = [.ref 0] := h
  subst h
  refine ⟨rfl, mv_run_V (stop := []) 60 _ _ _ _ _ ?_⟩
  exact ⟨rfl, rfl, rfl, rfl, rfl⟩
theorem c_unsee {l : Launch} {G : mv_G} {A : Nat → Prop} (hG : mv_adk G A) : mv_Con l G A 79 sp_unsee := mv_con hG 79 mv_k_X6_unsee (by decide +kernel) (mv_cs_nil) cb_unsee
def sp_seed : mv_SP := (fun as _ _ => ∃ v : Int64, as = [.ref 0, .long v], fun as I J r I' J' => I = I' ∧ match as with
  | [_, .long v] => r = some (.long (J 0 7)) ∧ J' = mv_sj J 0 7 v
  | _ => True)
theorem cb_seed : mv_body 72 mv_t_X6_seed (mv_cs []) sp_seed := by
  intro as I J h
  obtain ⟨v, rfl⟩ := h
  refine ⟨rfl, mv_run_V (stop := []) 60 _ _ _ _ _ ?_⟩
  exact ⟨rfl, rfl, rfl, rfl, rfl⟩
theorem c_seed {l : Launch} {G : mv_G} {A : Nat → Prop} (hG : mv_adk G A) : mv_Con l G A 72 sp_seed := mv_con hG 72 mv_k_X6_seed (by decide +kernel) (mv_cs_nil) cb_seed
def kepI (I : mv_I) (s : Nat) : mv_I := mv_si (grpN (15 + s) 0 I (I 400 1).toNatClampNeg) 6 s 1
def sp_keep : mv_SP := (fun as I _ => SH I ∧ ∃ s : Int32, as = [.ref 0, .int s],
  fun as I J r I' J' => J = J' ∧ ∀ s : Int32, as = [.ref 0, .int s] → if 0 ≤ s ∧ s ≤ 1 then r = some (.int (sumA I 0 (I 400 1).toNatClampNeg)) ∧ I' = kepI I s.toNatClampNeg else r = some (.int (-1)) ∧ I = I')
theorem sumA_congr {I I' : mv_I} {g : Nat} : ∀ k : Nat, (∀ i, i < k → I' (100 + 3 * (5 * g + i)) 10 = I (100 + 3 * (5 * g + i)) 10) → sumA I' g k = sumA I g k
  | 0, _ => rfl
  | k + 1, h => by
    unfold sumA
    rw [sumA_congr k (fun i hi => h i (by omega)), h k (by omega)]
theorem cb_keep : mv_body 63 mv_t_X6_keep (mv_cs [(84, sp_within), (26, sp_groupCopy), (24, sp_alarmSum)]) sp_keep := by
  intro as I J h
  obtain ⟨hS, s, rfl⟩ := h
  obtain ⟨m, hm, hs⟩ := SH_now hS
  have hcm : (I 400 1).toNatClampNeg = m := by rw [hs]; exact nI_clamp (by omega)
  refine ⟨rfl, mv_run_V (stop := []) 60 _ _ _ _ _ ?_⟩
  refine ⟨rfl, trivial, fun r I1 J1 hp => ?_⟩
  obtain ⟨rfl, rfl, rfl⟩ := hp
  refine ⟨fun h2 => ?_, fun h2 => ?_⟩
  · have h2 := b_yes h2
    obtain ⟨j, hj, rfl⟩ := in_nat (M := 1) (by decide) h2
    have hcj : (nI j).toNatClampNeg = j := nI_clamp (by omega)
    refine ⟨rfl, _, rfl, _, rfl, vp_in_nI (by omega) (by omega), _, (by rw [hcj]; exact mv_rf_sl (by omega)), rfl, _, rfl, rfl, mv_lay_gr (by omega), ⟨15 + j, 0, m, by omega, by omega, by omega, rfl, rfl, hm, hs⟩, fun r I1 J1 hp => ?_⟩
    obtain ⟨rfl, rfl, hI⟩ := hp
    have hI := hI (15 + j) 0 rfl rfl
    rw [hcm] at hI
    subst hI
    have h400 : grpN (15 + j) 0 I m 400 = I 400 := grpN_ne I (by omega) (by omega) m hm
    refine ⟨rfl, _, rfl, _, rfl, vp_in_nI (by omega) (by omega), Or.inr rfl, rfl, _, rfl, rfl, rfl, ⟨0, m, by decide, rfl, hm, (by rw [mv_si_ne (by decide), h400]; exact hs)⟩, fun r I1 J1 hp => ?_⟩
    obtain ⟨rfl, rfl, hr⟩ := hp
    have hr := hr 0 rfl
    subst hr
    refine ⟨rfl, fun s' e => ?_⟩
    cases e
    rw [if_pos h2]
    refine ⟨?_, ?_⟩
    · rw [mv_si_ne (by decide), h400, hcm]
      refine congrArg (fun x => some (Value.int x)) (sumA_congr m (fun i hi => ?_))
      rw [mv_si_ne (by omega), grpN_ne I (by omega) (by omega) m hm]
    · unfold kepI
      rw [hcj, hcm]
  · have h2 := mv_b0.mp h2
    exact ⟨rfl, fun s' e => by cases e; rw [if_neg h2]; exact ⟨rfl, rfl⟩⟩
theorem c_keep {l : Launch} {G : mv_G} {A : Nat → Prop} (hG : mv_adk G A) : mv_Con l G A 63 sp_keep := mv_con hG 63 mv_k_X6_keep (by decide +kernel) (mv_cs_cons (c_within hG) (mv_cs_cons (c_groupCopy hG) (mv_cs_cons (c_alarmSum hG) (mv_cs_nil)))) cb_keep
def agnI (I : mv_I) (s : Nat) : mv_I := mv_si (grpN 0 (15 + s) I (I (400 + 2 * (15 + s)) 1).toNatClampNeg) 3 2 0
def sp_again : mv_SP := (fun as I _ => SH I ∧ ∃ s : Int32, as = [.ref 0, .int s],
  fun as I J r I' J' => J = J' ∧ ∀ s : Int32, as = [.ref 0, .int s] → if 0 ≤ s ∧ s ≤ 1 then (if I 6 s.toNatClampNeg = 0 then r = some (.int (-3)) ∧ I = I' else r = some (.int (sumA (agnI I s.toNatClampNeg) 0 (agnI I s.toNatClampNeg 400 1).toNatClampNeg)) ∧ I' = agnI I s.toNatClampNeg) else r = some (.int (-1)) ∧ I = I')
theorem grpN_size {g h : Nat} (I : mv_I) : ∀ k, k ≤ 5 → g < 18 → grpN g h I k (400 + 2 * g) 1 = I (400 + 2 * h) 1
  | 0, _, _ => by
    unfold grpN
    rw [mv_si_ap, if_neg (by omega), mv_si_ap, if_pos ⟨rfl, rfl⟩]
  | k + 1, hk, hg => by
    unfold grpN
    rw [copyI_ne (by omega) (by omega) (by omega)]
    exact grpN_size I k (by omega) hg
theorem cb_again : mv_body 46 mv_t_X6_again (mv_cs [(84, sp_within), (26, sp_groupCopy), (0, sp_forget), (24, sp_alarmSum)]) sp_again := by
  intro as I J h
  obtain ⟨hS, s, rfl⟩ := h
  refine ⟨rfl, mv_run_V (stop := []) 60 _ _ _ _ _ ?_⟩
  refine ⟨rfl, trivial, fun r I1 J1 hp => ?_⟩
  obtain ⟨rfl, rfl, rfl⟩ := hp
  refine ⟨fun h2 => ?_, fun h2 => ?_⟩
  · have h2 := b_yes h2
    obtain ⟨j, hj, rfl⟩ := in_nat (M := 1) (by decide) h2
    have hcj : (nI j).toNatClampNeg = j := nI_clamp (by omega)
    obtain ⟨m, hm, hs⟩ := hS.1 (15 + j) (by omega)
    have hcm : (I (400 + 2 * (15 + j)) 1).toNatClampNeg = m := by rw [hs]; exact nI_clamp (by omega)
    refine ⟨rfl, _, rfl, _, rfl, vp_in_nI (by omega) (by omega), fun h3 => ?_, fun h3 => ?_⟩
    · refine ⟨rfl, _, rfl, rfl, _, rfl, _, rfl, vp_in_nI (by omega) (by omega), _, (by rw [hcj]; exact mv_rf_sl (by omega)), rfl, rfl, ⟨0, 15 + j, m, by omega, by omega, by omega, rfl, rfl, hm, hs⟩, fun r I1 J1 hp => ?_⟩
      obtain ⟨rfl, rfl, hI⟩ := hp
      have hI := hI 0 (15 + j) rfl rfl
      rw [hcm] at hI
      subst hI
      refine ⟨rfl, _, rfl, rfl, rfl, rfl, fun r I1 J1 hp => ?_⟩
      obtain ⟨rfl, rfl, rfl⟩ := hp
      have hag : mv_si (grpN 0 (15 + j) I m) 3 2 0 = agnI I j := by unfold agnI; rw [hcm]
      have hsz : agnI I j 400 1 = nI m := by
        rw [← hag, mv_si_ne (by decide), ← hs]
        exact grpN_size I m hm (by decide)
      rw [hag]
      refine ⟨rfl, _, rfl, rfl, rfl, ⟨0, m, by decide, rfl, hm, hsz⟩, fun r I1 J1 hp => ?_⟩
      obtain ⟨rfl, rfl, hr⟩ := hp
      have hr := hr 0 rfl
      subst hr
      refine ⟨rfl, fun s' e => ?_⟩
      cases e
      rw [if_pos h2, if_neg h3, hcj]
      exact ⟨rfl, rfl⟩
    · refine ⟨rfl, fun s' e => ?_⟩
      cases e
      rw [if_pos h2, if_pos h3]
      exact ⟨rfl, rfl⟩
  · have h2 := mv_b0.mp h2
    exact ⟨rfl, fun s' e => by cases e; rw [if_neg h2]; exact ⟨rfl, rfl⟩⟩
theorem c_again {l : Launch} {G : mv_G} {A : Nat → Prop} (hG : mv_adk G A) : mv_Con l G A 46 sp_again := mv_con hG 46 mv_k_X6_again (by decide +kernel) (mv_cs_cons (c_within hG) (mv_cs_cons (c_groupCopy hG) (mv_cs_cons (c_forget hG) (mv_cs_cons (c_alarmSum hG) (mv_cs_nil))))) cb_again
def cntF (I : mv_I) (w : Int32) : Int32 := if w = 0 then I 1 1 else if w = 1 then I 400 1 else if w = 2 then sumA I 0 (I 400 1).toNatClampNeg else if w = 3 then I 400 2 else if w = 4 then I 3 2 else if w = 5 then I 0 6 else -2
def sp_count : mv_SP := (fun as I _ => SH I ∧ ∃ w : Int32, as = [.ref 0, .int w],
  fun as I J r I' J' => I = I' ∧ J = J' ∧ match as with
    | [_, .int w] => r = some (.int (cntF I w))
    | _ => True)
theorem cb_count : mv_body 54 mv_t_X6_count (mv_cs [(24, sp_alarmSum)]) sp_count := by
  intro as I J h
  obtain ⟨hS, w, rfl⟩ := h
  obtain ⟨m, hm, hs⟩ := SH_now hS
  have fin : ∀ x, x = cntF I w → sp_count.2 [.ref 0, .int w] I J (some (.int x)) I J := fun x hx => ⟨rfl, rfl, by rw [hx]⟩
  refine ⟨rfl, mv_run_V (stop := []) 60 _ _ _ _ _ ?_⟩
  refine ⟨fun h1 => ⟨rfl, _, rfl, rfl, fin _ ?_⟩, fun h1 => ?_⟩
  · unfold cntF; rw [if_pos h1]
  refine ⟨fun h2 => ⟨rfl, _, rfl, rfl, fin _ ?_⟩, fun h2 => ?_⟩
  · unfold cntF; rw [if_neg h1, if_pos h2]
  refine ⟨fun h3 => ⟨rfl, _, rfl, rfl, rfl, ⟨0, m, by decide, rfl, hm, hs⟩, fun r I1 J1 hp => ?_⟩, fun h3 => ?_⟩
  · obtain ⟨rfl, rfl, hr⟩ := hp
    have hr := hr 0 rfl
    subst hr
    refine fin _ ?_
    unfold cntF; rw [if_neg h1, if_neg h2, if_pos h3]
  refine ⟨fun h4 => ⟨rfl, _, rfl, rfl, fin _ ?_⟩, fun h4 => ?_⟩
  · unfold cntF; rw [if_neg h1, if_neg h2, if_neg h3, if_pos h4]
  refine ⟨fun h5 => ⟨rfl, _, rfl, rfl, fin _ ?_⟩, fun h5 => ?_⟩
  · unfold cntF; rw [if_neg h1, if_neg h2, if_neg h3, if_neg h4, if_pos h5]
  refine ⟨fun h6 => ⟨rfl, fin _ ?_⟩, fun h6 => fin _ ?_⟩
  · unfold cntF; rw [if_neg h1, if_neg h2, if_neg h3, if_neg h4, if_neg h5, if_pos h6]
  · unfold cntF; rw [if_neg h1, if_neg h2, if_neg h3, if_neg h4, if_neg h5, if_neg h6]
theorem c_count {l : Launch} {G : mv_G} {A : Nat → Prop} (hG : mv_adk G A) : mv_Con l G A 54 sp_count := mv_con hG 54 mv_k_X6_count (by decide +kernel) (mv_cs_cons (c_alarmSum hG) (mv_cs_nil)) cb_count
