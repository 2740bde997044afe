/-! Groups of series: the methods of Charts and Acts. -/
theorem mv_lay_gr {g : Nat} (h : g < 18) : mv_lay (400 + 2 * g) = (1, 2, 0) := by
  have : ∀ g, g < 18 → mv_lay (400 + 2 * g) = (1, 2, 0) := by decide +kernel
  exact this g h
theorem mv_lay_ga {g : Nat} (h : g < 18) : mv_lay (401 + 2 * g) = (5, 5, 1) := by
  have : ∀ g, g < 18 → mv_lay (401 + 2 * g) = (5, 5, 1) := by decide +kernel
  exact this g h
theorem mv_rf_gr {g : Nat} (h : g < 18) : mv_rf (400 + 2 * g) 0 = some (401 + 2 * g) := by
  have : ∀ g, g < 18 → mv_rf (400 + 2 * g) 0 = some (401 + 2 * g) := by decide +kernel
  exact this g h
theorem mv_rf_ga {g i : Nat} (h : g < 18) (hi : i < 5) : mv_rf (401 + 2 * g) i = some (100 + 3 * (5 * g + i)) := by
  have : ∀ g, g < 18 → ∀ i, i < 5 → mv_rf (401 + 2 * g) i = some (100 + 3 * (5 * g + i)) := by decide +kernel
  exact this g h i hi
theorem mv_ginj {g g' : Nat} (h : 400 + 2 * g = 400 + 2 * g') : g' = g := by omega
theorem mv_upto {x : Int32} {m : Nat} (hm : m < 2 ^ 31) (h0 : 0 ≤ x) (h1 : x ≤ nI m - 1) : ∃ j : Nat, j < m ∧ x = nI j := by
  rw [fa_le] at h0 h1
  have e0 : (0 : Int32).toInt = 0 := rfl
  have e1 : (1 : Int32).toInt = 1 := rfl
  have hmi := nI_toInt hm
  rw [fb_subI (by omega) (by omega)] at h1
  refine ⟨x.toInt.toNat, by omega, ?_⟩
  rw [fa_eq, nI_toInt (by omega)]
  omega
theorem mv_upto2 {j m : Nat} (hm : m < 2 ^ 31) (h : j < m) : 0 ≤ nI j ∧ nI j ≤ nI m - 1 := by
  have e0 : (0 : Int32).toInt = 0 := rfl
  have e1 : (1 : Int32).toInt = 1 := rfl
  have hmi := nI_toInt hm
  have hji := nI_toInt (n := j) (by omega)
  rw [fa_le, fa_le, fb_subI (by omega) (by omega)]
  omega
def sp_at : mv_SP := (fun as I _ => match as with
    | [.ref o, .int _] => ∃ g m : Nat, g < 18 ∧ o = 400 + 2 * g ∧ m ≤ 5 ∧ I o 1 = nI m
    | _ => False,
  fun as I J r I' J' => match as with
    | [.ref o, .int x] => I = I' ∧ J = J' ∧ ∀ g : Nat, o = 400 + 2 * g → if 0 ≤ x ∧ x ≤ I o 1 - 1 then r = some (.ref (100 + 3 * (5 * g + x.toNatClampNeg))) else r = some .null
    | _ => True)
theorem cb_at : mv_body 25 mv_t_X2_at (mv_cs [(84, sp_within)]) sp_at := by
  intro as I J h
  match as, h with
  | [.ref _, .int x], ⟨g, m, hg, rfl, hm, hs⟩ =>
    refine ⟨rfl, mv_run_V (stop := []) 60 _ _ _ _ _ ?_⟩
    refine ⟨mv_lay_gr hg, rfl, trivial, fun r I' J' hp => ?_⟩
    obtain ⟨rfl, rfl, rfl⟩ := hp
    refine ⟨fun h1 => ?_, fun h1 => ?_⟩
    · have h1 := mv_b0.mp h1
      refine ⟨rfl, rfl, fun g' _ => ?_⟩
      rw [if_neg h1]
    · have h1 : 0 ≤ x ∧ x ≤ I (400 + 2 * g) 1 - 1 := Decidable.not_not.mp (fun z => h1 (mv_b0.mpr z))
      have h2 := h1
      rw [hs] at h2
      obtain ⟨j, hj, rfl⟩ := mv_upto (by omega) h2.1 h2.2
      have hcl : (nI j).toNatClampNeg = j := nI_clamp (by omega)
      refine ⟨mv_lay_gr hg, _, mv_rf_gr hg, _, mv_lay_ga hg, vp_in_nI (by omega) (by omega), _, (by rw [hcl]; exact mv_rf_ga hg (by omega)), ?_⟩
      refine ⟨rfl, rfl, fun g' hg' => ?_⟩
      have : g' = g := mv_ginj hg'
      subst this
      rw [if_pos h1, hcl]
theorem c_at {l : Launch} {G : mv_G} {A : Nat → Prop} (hG : mv_adk G A) : mv_Con l G A 25 sp_at := mv_con hG 25 mv_k_X2_at (by decide +kernel) (mv_cs_cons (c_within hG) (mv_cs_nil)) cb_at
/-- the sums over the first k series of a group -/
def sumA (I : mv_I) (g : Nat) : Nat → Int32
  | 0 => 0
  | k + 1 => sumA I g k + I (100 + 3 * (5 * g + k)) 10
def sumU (I : mv_I) (g : Nat) (set : Int32) : Nat → Int32
  | 0 => 0
  | k + 1 => sumU I g set k + (if (set >>> (nI k &&& 31)) &&& 1 = 1 then I (100 + 3 * (5 * g + k)) 8 else 0)
def sp_alarmSum : mv_SP := (fun as I _ => match as with
    | [.ref o] => ∃ g m : Nat, g < 18 ∧ o = 400 + 2 * g ∧ m ≤ 5 ∧ I o 1 = nI m
    | _ => False,
  fun as I J r I' J' => match as with
    | [.ref o] => I = I' ∧ J = J' ∧ ∀ g : Nat, o = 400 + 2 * g → r = some (.int (sumA I g (I o 1).toNatClampNeg))
    | _ => True)
theorem cb_alarmSum : mv_body 24 mv_t_X2_alarmSum (mv_cs []) sp_alarmSum := by
  intro as I J h
  match as, h with
  | [.ref _], ⟨g, m, hg, rfl, hm, hs⟩ =>
    have key : ∀ r k : Nat, k + r = m → mv_V mv_ow mv_swf mv_t_X2_alarmSum (mv_cs []) (sp_alarmSum.2 [.ref (400 + 2 * g)] I J) 4 [(0, .ref (400 + 2 * g)), (1, .int (sumA I g k)), (2, .int (nI k))] [] I J := by
      intro r
      induction r with
      | zero =>
        intro k hk
        have hk : k = m := hk
        subst hk
        refine mv_run_V (stop := [4]) 20 _ _ _ _ _ ?_
        refine ⟨mv_lay_gr hg, fun h1 => ?_, fun h1 => ?_⟩
        · refine ⟨rfl, rfl, fun g' hg' => ?_⟩
          have : g' = g := mv_ginj hg'
          subst this
          rw [hs, nI_clamp (by omega)]
        · rw [hs] at h1
          exact absurd h1 (nI_nlt (Nat.le_refl k) (by omega))
      | succ r ih =>
        intro k hk
        have hcl : (nI k).toNatClampNeg = k := nI_clamp (by omega)
        refine mv_run_V (stop := [4]) 20 _ _ _ _ _ ?_
        refine ⟨mv_lay_gr hg, fun h1 => ?_, fun h1 => ?_⟩
        · rw [hs] at h1
          exact absurd (nI_lt (by omega) (by omega)) h1
        · refine ⟨mv_lay_gr hg, _, mv_rf_gr hg, _, mv_lay_ga hg, vp_in_nI (by omega) (by omega), _, (by rw [hcl]; exact mv_rf_ga hg (by omega)), mv_lay_ch (by omega), ?_⟩
          have h2 := ih (k + 1) (by omega)
          rw [nI_succ] at h2
          exact h2
    refine ⟨rfl, mv_run_V (stop := [4]) 20 _ _ _ _ _ ?_⟩
    exact key m 0 (Nat.zero_add m)
theorem c_alarmSum {l : Launch} {G : mv_G} {A : Nat → Prop} (hG : mv_adk G A) : mv_Con l G A 24 sp_alarmSum := mv_con hG 24 mv_k_X2_alarmSum (by decide +kernel) (mv_cs_nil) cb_alarmSum
def sp_sumOfUps : mv_SP := (fun as I _ => match as with
    | [.ref o, .int _] => ∃ g m : Nat, g < 18 ∧ o = 400 + 2 * g ∧ m ≤ 5 ∧ I o 1 = nI m
    | _ => False,
  fun as I J r I' J' => match as with
    | [.ref o, .int set] => I = I' ∧ J = J' ∧ ∀ g : Nat, o = 400 + 2 * g → r = some (.int (sumU I g set (I o 1).toNatClampNeg))
    | _ => True)
theorem cb_sumOfUps : mv_body 30 mv_t_X2_sumOfUps (mv_cs []) sp_sumOfUps := by
  intro as I J h
  match as, h with
  | [.ref _, .int set], ⟨g, m, hg, rfl, hm, hs⟩ =>
    have key : ∀ r k : Nat, k + r = m → mv_V mv_ow mv_swf mv_t_X2_sumOfUps (mv_cs []) (sp_sumOfUps.2 [.ref (400 + 2 * g), .int set] I J) 4 [(0, .ref (400 + 2 * g)), (1, .int set), (2, .int (sumU I g set k)), (3, .int (nI k))] [] I J := by
      intro r
      induction r with
      | zero =>
        intro k hk
        have hk : k = m := hk
        subst hk
        refine mv_run_V (stop := [4]) 20 _ _ _ _ _ ?_
        refine ⟨mv_lay_gr hg, fun h1 => ?_, fun h1 => ?_⟩
        · refine ⟨rfl, rfl, fun g' hg' => ?_⟩
          have : g' = g := mv_ginj hg'
          subst this
          rw [hs, nI_clamp (by omega)]
        · rw [hs] at h1
          exact absurd h1 (nI_nlt (Nat.le_refl k) (by omega))
      | succ r ih =>
        intro k hk
        have hcl : (nI k).toNatClampNeg = k := nI_clamp (by omega)
        refine mv_run_V (stop := [4]) 40 _ _ _ _ _ ?_
        refine ⟨mv_lay_gr hg, fun h1 => ?_, fun h1 => ?_⟩
        · rw [hs] at h1
          exact absurd (nI_lt (by omega) (by omega)) h1
        · have h2 := ih (k + 1) (by omega)
          rw [nI_succ, sumU] at h2
          refine ⟨fun h3 => ?_, fun h3 => ?_⟩
          · rw [if_neg h3] at h2
            exact h2
          · rw [if_pos h3] at h2
            refine ⟨mv_lay_gr hg, _, mv_rf_gr hg, _, mv_lay_ga hg, vp_in_nI (by omega) (by omega), _, (by rw [hcl]; exact mv_rf_ga hg (by omega)), mv_lay_ch (by omega), ?_⟩
            exact h2
    refine ⟨rfl, mv_run_V (stop := [4]) 20 _ _ _ _ _ ?_⟩
    exact key m 0 (Nat.zero_add m)
theorem c_sumOfUps {l : Launch} {G : mv_G} {A : Nat → Prop} (hG : mv_adk G A) : mv_Con l G A 30 sp_sumOfUps := mv_con hG 30 mv_k_X2_sumOfUps (by decide +kernel) (mv_cs_nil) cb_sumOfUps
/-- the series i stands before the series j -/
def precP (I : mv_I) (g i j : Nat) : Prop :=
  mv_mx (I (100 + 3 * (5 * g + j)) 8) (I (100 + 3 * (5 * g + j)) 9) * I (100 + 3 * (5 * g + i)) 2 < mv_mx (I (100 + 3 * (5 * g + i)) 8) (I (100 + 3 * (5 * g + i)) 9) * I (100 + 3 * (5 * g + j)) 2 ∨
  (mv_mx (I (100 + 3 * (5 * g + i)) 8) (I (100 + 3 * (5 * g + i)) 9) * I (100 + 3 * (5 * g + j)) 2 = mv_mx (I (100 + 3 * (5 * g + j)) 8) (I (100 + 3 * (5 * g + j)) 9) * I (100 + 3 * (5 * g + i)) 2 ∧ nI i < nI j)
def sp_precedes : mv_SP := (fun as I _ => match as with
    | [.ref o, .int x, .int y] => ∃ g m i j : Nat, g < 18 ∧ o = 400 + 2 * g ∧ m ≤ 5 ∧ I o 1 = nI m ∧ i < m ∧ j < m ∧ x = nI i ∧ y = nI j
    | _ => False,
  fun as I J r I' J' => match as with
    | [.ref o, .int x, .int y] => I = I' ∧ J = J' ∧ ∀ g : Nat, o = 400 + 2 * g → ∃ z : Int32, r = some (.int z) ∧ (z = 0 ∧ ¬ precP I g x.toNatClampNeg y.toNatClampNeg ∨ z = 1 ∧ precP I g x.toNatClampNeg y.toNatClampNeg)
    | _ => True)
theorem cb_precedes : mv_body 28 mv_t_X2_precedes (mv_cs [(25, sp_at), (150, sp_max)]) sp_precedes := by
  intro as I J h
  match as, h with
  | [.ref _, .int _, .int _], ⟨g, m, i, j, hg, rfl, hm, hs, hi, hj, rfl, rfl⟩ =>
    have ci : (nI i).toNatClampNeg = i := nI_clamp (by omega)
    have cj : (nI j).toNatClampNeg = j := nI_clamp (by omega)
    refine ⟨rfl, mv_run_V (stop := []) 90 _ _ _ _ _ ?_⟩
    refine ⟨rfl, mv_lay_gr hg, ⟨g, m, hg, rfl, hm, hs⟩, fun r1 I1 J1 hp => ?_⟩
    obtain ⟨rfl, rfl, hr⟩ := hp
    have hr := hr g rfl
    rw [hs, if_pos (mv_upto2 (by omega) hi), ci] at hr
    subst hr
    refine ⟨rfl, mv_lay_gr hg, ⟨g, m, hg, rfl, hm, hs⟩, fun r1 I1 J1 hp => ?_⟩
    obtain ⟨rfl, rfl, hr⟩ := hp
    have hr := hr g rfl
    rw [hs, if_pos (mv_upto2 (by omega) hj), cj] at hr
    subst hr
    refine ⟨mv_lay_ch (by omega), mv_lay_ch (by omega), rfl, trivial, fun r1 I1 J1 hp => ?_⟩
    obtain ⟨rfl, rfl, rfl⟩ := hp
    refine ⟨mv_lay_ch (by omega), mv_lay_ch (by omega), mv_lay_ch (by omega), rfl, trivial, fun r1 I1 J1 hp => ?_⟩
    obtain ⟨rfl, rfl, rfl⟩ := hp
    refine ⟨mv_lay_ch (by omega), fun h1 => ?_, fun h1 => ?_⟩
    · refine ⟨Or.inr rfl, rfl, rfl, fun g' hg' => ⟨1, rfl, Or.inr ⟨rfl, ?_⟩⟩⟩
      have : g' = g := mv_ginj hg'
      subst this
      rw [ci, cj]
      exact Or.inl h1
    · refine ⟨fun h2 => ?_, fun h2 => ?_⟩
      · refine ⟨Or.inl rfl, rfl, rfl, fun g' hg' => ⟨0, rfl, Or.inl ⟨rfl, ?_⟩⟩⟩
        have : g' = g := mv_ginj hg'
        subst this
        rw [ci, cj]
        exact fun z => z.elim h1 (fun z => h2 z.1)
      · refine ⟨fun h3 => ?_, fun h3 => ?_⟩
        · refine ⟨Or.inl rfl, rfl, rfl, fun g' hg' => ⟨0, rfl, Or.inl ⟨rfl, ?_⟩⟩⟩
          have : g' = g := mv_ginj hg'
          subst this
          rw [ci, cj]
          exact fun z => z.elim h1 (fun z => h3 z.2)
        · refine ⟨Or.inr rfl, rfl, rfl, fun g' hg' => ⟨1, rfl, Or.inr ⟨rfl, ?_⟩⟩⟩
          have : g' = g := mv_ginj hg'
          subst this
          rw [ci, cj]
          exact Or.inr ⟨h2, h3⟩
theorem c_precedes {l : Launch} {G : mv_G} {A : Nat → Prop} (hG : mv_adk G A) : mv_Con l G A 28 sp_precedes := mv_con hG 28 mv_k_X2_precedes (by decide +kernel) (mv_cs_cons (c_at hG) (mv_cs_max (mv_cs_nil))) cb_precedes
/-- how many of the first k series stand before the series j -/
noncomputable def rnkF (I : mv_I) (g j : Nat) : Nat → Int32
  | 0 => 0
  | k + 1 => rnkF I g j k + (@ite _ (precP I g k j) (Classical.propDecidable _) 1 0)
def sp_rankOf : mv_SP := (fun as I _ => match as with
    | [.ref o, .int x] => ∃ g m j : Nat, g < 18 ∧ o = 400 + 2 * g ∧ m ≤ 5 ∧ I o 1 = nI m ∧ j < m ∧ x = nI j
    | _ => False,
  fun as I J r I' J' => match as with
    | [.ref o, .int x] => I = I' ∧ J = J' ∧ ∀ g : Nat, o = 400 + 2 * g → r = some (.int (rnkF I g x.toNatClampNeg (I o 1).toNatClampNeg))
    | _ => True)
theorem cb_rankOf : mv_body 29 mv_t_X2_rankOf (mv_cs [(28, sp_precedes)]) sp_rankOf := by
  intro as I J h
  match as, h with
  | [.ref _, .int _], ⟨g, m, j, hg, rfl, hm, hs, hj, rfl⟩ =>
    have cj : (nI j).toNatClampNeg = j := nI_clamp (by omega)
    have key : ∀ r k : Nat, k + r = m → mv_V mv_ow mv_swf mv_t_X2_rankOf (mv_cs [(28, sp_precedes)]) (sp_rankOf.2 [.ref (400 + 2 * g), .int (nI j)] I J) 4 [(0, .ref (400 + 2 * g)), (1, .int (nI j)), (2, .int (rnkF I g j k)), (3, .int (nI k))] [] I J := by
      intro r
      induction r with
      | zero =>
        intro k hk
        have hk : k = m := hk
        subst hk
        refine mv_run_V (stop := [4]) 20 _ _ _ _ _ ?_
        refine ⟨mv_lay_gr hg, fun h1 => ?_, fun h1 => ?_⟩
        · refine ⟨rfl, rfl, fun g' hg' => ?_⟩
          have : g' = g := mv_ginj hg'
          subst this
          rw [hs, cj, nI_clamp (by omega)]
        · rw [hs] at h1
          exact absurd h1 (nI_nlt (Nat.le_refl k) (by omega))
      | succ r ih =>
        intro k hk
        have hcl : (nI k).toNatClampNeg = k := nI_clamp (by omega)
        refine mv_run_V (stop := [4]) 40 _ _ _ _ _ ?_
        refine ⟨mv_lay_gr hg, fun h1 => ?_, fun h1 => ?_⟩
        · rw [hs] at h1
          exact absurd (nI_lt (by omega) (by omega)) h1
        · have h2 := ih (k + 1) (by omega)
          rw [nI_succ, rnkF] at h2
          refine ⟨rfl, mv_lay_gr hg, ⟨g, m, k, j, hg, rfl, hm, hs, by omega, hj, rfl, rfl⟩, fun r1 I1 J1 hp => ?_⟩
          obtain ⟨rfl, rfl, hr⟩ := hp
          obtain ⟨z, rfl, hz⟩ := hr g rfl
          rw [hcl, cj] at hz
          refine ⟨fun h3 => ?_, fun h3 => ?_⟩
          · rcases hz with ⟨-, hz⟩ | ⟨rfl, -⟩
            · rw [if_neg hz] at h2
              exact h2
            · exact absurd h3 (by decide)
          · rcases hz with ⟨rfl, -⟩ | ⟨-, hz⟩
            · exact absurd rfl h3
            · rw [if_pos hz] at h2
              exact h2
    refine ⟨rfl, mv_run_V (stop := [4]) 20 _ _ _ _ _ ?_⟩
    exact key m 0 (Nat.zero_add m)
theorem c_rankOf {l : Launch} {G : mv_G} {A : Nat → Prop} (hG : mv_adk G A) : mv_Con l G A 29 sp_rankOf := mv_con hG 29 mv_k_X2_rankOf (by decide +kernel) (mv_cs_cons (c_precedes hG) (mv_cs_nil)) cb_rankOf
theorem copyI_ne {I : mv_I} {o q a : Nat} (h0 : a ≠ o) (h1 : a ≠ o + 1) (h2 : a ≠ o + 2) : copyI I o q a = I a := by
  unfold copyI
  rw [mv_sr_ne h0, mv_sr_ne h2, mv_sr_ne h1]
/-- the first k series of the group h copied into the group g -/
def grpN (g h : Nat) (I : mv_I) : Nat → mv_I
  | 0 => mv_si (mv_si I (400 + 2 * g) 1 (I (400 + 2 * h) 1)) (400 + 2 * g) 2 ((mv_si I (400 + 2 * g) 1 (I (400 + 2 * h) 1)) (400 + 2 * h) 2)
  | k + 1 => copyI (grpN g h I k) (100 + 3 * (5 * g + k)) (100 + 3 * (5 * h + k))
theorem grpN_gr {g h : Nat} (hgh : g ≠ h) (hg : g < 18) (I : mv_I) : ∀ k, k ≤ 5 → grpN g h I k (400 + 2 * h) = I (400 + 2 * h)
  | 0, _ => by
    unfold grpN
    rw [mv_si_ne (by omega), mv_si_ne (by omega)]
  | k + 1, hk => by
    unfold grpN
    rw [copyI_ne (by omega) (by omega) (by omega)]
    exact grpN_gr hgh hg I k (by omega)
def sp_groupCopy : mv_SP := (fun as I _ => match as with
    | [.ref o, .ref q] => ∃ g h m : Nat, g < 18 ∧ h < 18 ∧ g ≠ h ∧ o = 400 + 2 * g ∧ q = 400 + 2 * h ∧ m ≤ 5 ∧ I q 1 = nI m
    | _ => False,
  fun as I J r I' J' => match as with
    | [.ref o, .ref q] => r = none ∧ J = J' ∧ ∀ g h : Nat, o = 400 + 2 * g → q = 400 + 2 * h → I' = grpN g h I (I q 1).toNatClampNeg
    | _ => True)
theorem cb_groupCopy : mv_body 26 mv_t_X2_copyFrom (mv_cs [(12, sp_chartCopy)]) sp_groupCopy := by
  intro as I J h
  match as, h with
  | [.ref _, .ref _], ⟨g, h, m, hg, hh, hgh, rfl, rfl, hm, hs⟩ =>
    have key : ∀ r k : Nat, k + r = m → mv_V mv_ow mv_swf mv_t_X2_copyFrom (mv_cs [(12, sp_chartCopy)]) (sp_groupCopy.2 [.ref (400 + 2 * g), .ref (400 + 2 * h)] I J) 18 [(0, .ref (400 + 2 * g)), (1, .ref (400 + 2 * h)), (2, .int (nI k))] [] (grpN g h I k) J := by
      intro r
      induction r with
      | zero =>
        intro k hk
        have hk : k = m := hk
        subst hk
        refine mv_run_V (stop := [18]) 20 _ _ _ _ _ ?_
        refine ⟨mv_lay_gr hh, fun h1 => ?_, fun h1 => ?_⟩
        · refine ⟨rfl, rfl, fun g' h' hg' hh' => ?_⟩
          have : g' = g := mv_ginj hg'
          subst this
          have : h' = h := mv_ginj hh'
          subst this
          rw [hs, nI_clamp (by omega)]
        · rw [grpN_gr hgh hg I k (by omega), hs] at h1
          exact absurd h1 (nI_nlt (Nat.le_refl k) (by omega))
      | succ r ih =>
        intro k hk
        have hcl : (nI k).toNatClampNeg = k := nI_clamp (by omega)
        refine mv_run_V (stop := [18]) 40 _ _ _ _ _ ?_
        refine ⟨mv_lay_gr hh, fun h1 => ?_, fun h1 => ?_⟩
        · rw [grpN_gr hgh hg I k (by omega), hs] at h1
          exact absurd (nI_lt (by omega) (by omega)) h1
        · refine ⟨mv_lay_gr hg, _, mv_rf_gr hg, _, mv_lay_ga hg, vp_in_nI (by omega) (by omega), _, (by rw [hcl]; exact mv_rf_ga hg (by omega)), mv_lay_gr hh, _, mv_rf_gr hh, _, mv_lay_ga hh, vp_in_nI (by omega) (by omega), _, (by rw [hcl]; exact mv_rf_ga hh (by omega)), rfl, mv_lay_ch (by omega), ⟨5 * g + k, 5 * h + k, by omega, by omega, by omega, rfl, rfl⟩, fun r1 I1 J1 hp => ?_⟩
          obtain ⟨rfl, rfl, rfl⟩ := hp
          have h2 := ih (k + 1) (by omega)
          rw [nI_succ] at h2
          exact h2
    refine ⟨rfl, mv_run_V (stop := [18]) 40 _ _ _ _ _ ?_⟩
    refine ⟨mv_lay_gr hh, mv_lay_gr hg, mv_lay_gr hh, mv_lay_gr hg, ?_⟩
    exact key m 0 (Nat.zero_add m)
theorem c_groupCopy {l : Launch} {G : mv_G} {A : Nat → Prop} (hG : mv_adk G A) : mv_Con l G A 26 sp_groupCopy := mv_con hG 26 mv_k_X2_copyFrom (by decide +kernel) (mv_cs_cons (c_chartCopy hG) (mv_cs_nil)) cb_groupCopy
