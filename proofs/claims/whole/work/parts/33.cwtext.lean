/-! The text: the class's methods on it. -/
theorem slN_le5 (T : Nat → Int32) (n st : Nat) : slN T n st 5 0 ≤ 5 := slN_le T n st 5 0
theorem rdI_ne {I : mv_I} {o n a b : Nat} (h0 : b ≠ o) (h1 : b ≠ o + 1) : rdI I o n a b = I b := by
  unfold rdI
  rw [mv_sr_ne h0, mv_sr_ne h1]
/-- the series read from the letter a on, the first of them with number i -/
noncomputable def rinI (t : Nat) : Nat → mv_I → Nat → Nat → mv_I
  | 0, I, i, _ => mv_si I 400 1 (nI i)
  | r + 1, I, i, a => if a + 10 ≤ t then rinI t r (rdI I (100 + 3 * i) t a) (i + 1) (a + 9 + slN (I 2) t (a + 8) 5 0) else mv_si I 400 1 (nI i)
def sp_readInto : mv_SP := (fun as I _ => (∃ t : Nat, t ≤ 80 ∧ I 1 1 = nI t) ∧ as = [.ref 1, .ref 400],
  fun _ I J r I' J' => J = J' ∧ r = none ∧ I' = rinI (I 1 1).toNatClampNeg 5 I 0 1)
theorem cb_readInto : mv_body 43 mv_t_X5_readInto (mv_cs [(44, sp_readSeries)]) sp_readInto := by
  intro as I J h
  obtain ⟨⟨t, ht, hs⟩, rfl⟩ := h
  have hct : (I 1 1).toNatClampNeg = t := by rw [hs]; exact nI_clamp (by omega)
  have key : ∀ r i a : Nat, ∀ I1 : mv_I, i + r = 5 → a ≤ 200 → I1 1 1 = nI t → rinI t r I1 i a = rinI t 5 I 0 1 → mv_V mv_ow mv_swf mv_t_X5_readInto (mv_cs [(44, sp_readSeries)]) (sp_readInto.2 [.ref 1, .ref 400] I J) 4 [(0, .ref 1), (1, .ref 400), (2, .int (nI a)), (3, .int (nI i))] [] I1 J := by
    intro r
    induction r with
    | zero =>
      intro i a I1 hi ha h1 hf
      have hi : i = 5 := hi
      subst hi
      refine mv_run_V (stop := [4]) 40 _ _ _ _ _ ?_
      refine ⟨fun h5 => ?_, fun h5 => ?_⟩
      · refine ⟨rfl, rfl, rfl, ?_⟩
        rw [hct]
        exact hf
      · have h5 : nI 5 < nI 5 := h5
        exact absurd h5 (nI_nlt (Nat.le_refl _) (by decide))
    | succ r ih =>
      intro i a I1 hi ha h1 hf
      rw [rinI] at hf
      have hadd : nI a + nI 10 = nI (a + 10) := nI_add _ _
      refine mv_run_V (stop := [4]) 60 _ _ _ _ _ ?_
      refine ⟨fun h5 => ?_, fun h5 => ?_⟩
      · have h5 : ¬ nI i < nI 5 := h5
        exact absurd (nI_lt (by omega) (by decide)) h5
      · refine ⟨rfl, fun h6 => ?_, fun h6 => ?_⟩
        · have h6 : I1 1 1 < nI a + nI 10 := h6
          rw [h1, hadd, nI_ltI (by omega) (by omega)] at h6
          rw [if_neg (by omega)] at hf
          refine ⟨rfl, rfl, rfl, ?_⟩
          rw [hct]
          exact hf
        · have h6 : ¬ I1 1 1 < nI a + nI 10 := h6
          rw [h1, hadd, nI_ltI (by omega) (by omega)] at h6
          rw [if_pos (by omega)] at hf
          refine ⟨rfl, _, rfl, _, rfl, vp_in_nI (by omega) (by decide), _, (by rw [nI_clamp (by omega)]; exact mv_rf_ga (g := 0) (by decide) (by omega)), rfl, rfl, ⟨t, a, 5 * 0 + i, ht, h1, by omega, by omega, rfl⟩, fun r1 I2 J2 hp => ?_⟩
          obtain ⟨rfl, hI, rfl⟩ := hp
          rw [h1, nI_clamp (by omega), nI_clamp (by omega)] at hI ⊢
          subst hI
          have e0 : 100 + 3 * (5 * 0 + i) = 100 + 3 * i := by omega
          rw [e0]
          have hsl := slN_le5 (I1 2) t (a + 8)
          have h7 := ih (i + 1) (a + 9 + slN (I1 2) t (a + 8) 5 0) (rdI I1 (100 + 3 * i) t a) (by omega) (by omega) (by rw [rdI_ne (by omega) (by omega)]; exact h1) hf
          rw [nI_succ i] at h7
          exact h7
  refine ⟨rfl, mv_run_V (stop := [4]) 40 _ _ _ _ _ ?_⟩
  exact key 5 0 1 I rfl (by decide) hs rfl
theorem c_readInto {l : Launch} {G : mv_G} {A : Nat → Prop} (hG : mv_adk G A) : mv_Con l G A 43 sp_readInto := mv_con hG 43 mv_k_X5_readInto (by decide +kernel) (mv_cs_cons (c_readSeries hG) (mv_cs_nil)) cb_readInto
def sp_fault : mv_SP := (fun as I _ => SH I ∧ as = [.ref 0],
  fun _ I J r I' J' => I = I' ∧ J = J' ∧ r = some (.int (fltF (I 2) (I 1 1).toNatClampNeg)))
theorem cb_fault : mv_body 58 mv_t_X6_fault (mv_cs [(40, sp_findFault)]) sp_fault := by
  intro as I J h
  obtain ⟨hS, rfl⟩ := h
  refine ⟨rfl, mv_run_V (stop := []) 40 _ _ _ _ _ ?_⟩
  refine ⟨rfl, _, rfl, rfl, rfl, ⟨hS.2.2.2.2.1, rfl⟩, fun r1 I2 J2 hp => ?_⟩
  obtain ⟨rfl, rfl, rfl⟩ := hp
  exact ⟨rfl, rfl, rfl⟩
theorem c_fault {l : Launch} {G : mv_G} {A : Nat → Prop} (hG : mv_adk G A) : mv_Con l G A 58 sp_fault := mv_con hG 58 mv_k_X6_fault (by decide +kernel) (mv_cs_cons (c_findFault hG) (mv_cs_nil)) cb_fault
noncomputable def watI (I : mv_I) : mv_I := mv_si (mv_si (mv_si (rinI (I 1 1).toNatClampNeg 5 I 0 1) 3 2 0) 6 0 0) 6 1 0
def sp_watch : mv_SP := (fun as I _ => SH I ∧ as = [.ref 0],
  fun _ I J r I' J' => J = J' ∧ if fltF (I 2) (I 1 1).toNatClampNeg = -9 then r = some (.int (watI I 400 1)) ∧ I' = watI I else r = some (.int (-3)) ∧ I = I')
theorem cb_watch : mv_body 80 mv_t_X6_watch (mv_cs [(40, sp_findFault), (43, sp_readInto), (0, sp_forget)]) sp_watch := by
  intro as I J h
  obtain ⟨hS, rfl⟩ := h
  refine ⟨rfl, mv_run_V (stop := [35]) 60 _ _ _ _ _ ?_⟩
  refine ⟨rfl, _, rfl, rfl, rfl, ⟨hS.2.2.2.2.1, rfl⟩, fun r1 I2 J2 hp => ?_⟩
  obtain ⟨rfl, rfl, rfl⟩ := hp
  refine ⟨fun h1 => ?_, fun h1 => ?_⟩
  · refine ⟨rfl, _, rfl, rfl, _, rfl, rfl, rfl, ⟨hS.2.2.2.2.1, rfl⟩, fun r1 I2 J2 hp => ?_⟩
    obtain ⟨rfl, rfl, rfl⟩ := hp
    refine ⟨rfl, _, rfl, rfl, rfl, rfl, fun r1 I2 J2 hp => ?_⟩
    obtain ⟨rfl, rfl, rfl⟩ := hp
    refine mv_run_V (stop := []) 60 _ _ _ _ _ ?_
    refine ⟨fun h2 => absurd h2 (by decide), fun h2 => ?_⟩
    refine ⟨rfl, _, rfl, _, rfl, vp_in_nI (n := 0) (by decide) (by decide), Or.inl rfl, ?_⟩
    refine ⟨fun h2 => absurd h2 (by decide), fun h2 => ?_⟩
    refine ⟨rfl, _, rfl, _, rfl, vp_in_nI (n := 1) (by decide) (by decide), Or.inl rfl, ?_⟩
    refine ⟨fun h2 => ?_, fun h2 => absurd h2 (by decide)⟩
    refine ⟨rfl, _, rfl, rfl, rfl, ?_⟩
    rw [if_pos h1]
    exact ⟨rfl, rfl⟩
  · refine ⟨rfl, ?_⟩
    rw [if_neg h1]
    exact ⟨rfl, rfl⟩
theorem c_watch {l : Launch} {G : mv_G} {A : Nat → Prop} (hG : mv_adk G A) : mv_Con l G A 80 sp_watch := mv_con hG 80 mv_k_X6_watch (by decide +kernel) (mv_cs_cons (c_findFault hG) (mv_cs_cons (c_readInto hG) (mv_cs_cons (c_forget hG) (mv_cs_nil)))) cb_watch
def sp_write : mv_SP := (fun as I _ => SH I ∧ ∃ x : Int32, as = [.ref 0, .int x],
  fun as I J r I' J' => J = J' ∧ ∀ x : Int32, as = [.ref 0, .int x] → if 0 ≤ x ∧ x ≤ 255 then (if I 1 1 < 80 then r = some (.int (I 1 1 + 1)) ∧ I' = mv_si (mv_si I 2 (I 1 1).toNatClampNeg x) 1 1 (I 1 1 + 1) else r = some (.int (-4)) ∧ I = I') else r = some (.int (-2)) ∧ I = I')
theorem cb_write : mv_body 87 mv_t_X6_write (mv_cs [(84, sp_within), (38, sp_txAppend)]) sp_write := by
  intro as I J h
  obtain ⟨hS, x, rfl⟩ := h
  refine ⟨rfl, mv_run_V (stop := []) 60 _ _ _ _ _ ?_⟩
  refine ⟨rfl, trivial, fun r I1 J1 hp => ?_⟩
  obtain ⟨rfl, rfl, rfl⟩ := hp
  refine ⟨fun h3 => ?_, fun h3 => ?_⟩
  · have h3 := b_yes h3
    refine ⟨rfl, _, rfl, rfl, rfl, ⟨hS.2.2.2.2.1, x, rfl⟩, fun r1 I2 J2 hp => ?_⟩
    obtain ⟨rfl, hp⟩ := hp
    have hp : if I 1 1 < 80 then r1 = some (.int 1) ∧ I2 = mv_si (mv_si I 2 (I 1 1).toNatClampNeg x) 1 1 (I 1 1 + 1) else r1 = some (.int 0) ∧ I2 = I := hp
    by_cases h4 : I 1 1 < 80
    · rw [if_pos h4] at hp
      obtain ⟨rfl, rfl⟩ := hp
      refine ⟨fun h5 => absurd h5 (by decide), fun h5 => ?_⟩
      refine ⟨rfl, _, rfl, rfl, rfl, fun x' e => ?_⟩
      cases e
      rw [if_pos h3, if_pos h4]
      exact ⟨rfl, rfl⟩
    · rw [if_neg h4] at hp
      obtain ⟨rfl, rfl⟩ := hp
      refine ⟨fun h5 => ?_, fun h5 => absurd rfl h5⟩
      refine ⟨rfl, fun x' e => ?_⟩
      cases e
      rw [if_pos h3, if_neg h4]
      exact ⟨rfl, rfl⟩
  · have h3 := mv_b0.mp h3
    refine ⟨rfl, fun x' e => ?_⟩
    cases e
    rw [if_neg h3]
    exact ⟨rfl, rfl⟩
theorem c_write {l : Launch} {G : mv_G} {A : Nat → Prop} (hG : mv_adk G A) : mv_Con l G A 87 sp_write := mv_con hG 87 mv_k_X6_write (by decide +kernel) (mv_cs_cons (c_within hG) (mv_cs_cons (c_txAppend hG) (mv_cs_nil))) cb_write
