/-! judge and drawn. -/
/-- the row's statement k of n -/
def stD (R n k : Nat) : Nat := R / 10000 ^ (n - 1 - k) % 10000
def jdF (R n : Nat) : Nat → Nat → mv_I → Int32
  | 0, _, _ => -9
  | r + 1, k, T => if stB (stD R n k / 1000) (stD R n k / 100 % 10) (stD R n k % 100) T = 0 then nI k else jdF R n r (k + 1) (stI (stD R n k / 1000) (stD R n k / 100 % 10) (stD R n k % 100) T)
theorem wdF_nat {R : Nat} (hR : R < 2 ^ 63) : ∀ k, wdF (lN R) k = lN (R / 10000 ^ k)
  | 0 => by rw [wdF, Nat.pow_zero, Nat.div_one]
  | k + 1 => by
    have h : R / 10000 ^ k < 2 ^ 63 := Nat.lt_of_le_of_lt (Nat.div_le_self _ _) hR
    rw [wdF, wdF_nat hR k, show (10000 : Int64) = lN 10000 from rfl, pk_lDiv h (by decide) (by decide), Nat.div_div_eq_div_mul, Nat.pow_succ]
theorem lN_eq0 {a : Nat} (h : a < 2 ^ 63) : lN a = 0 ↔ a = 0 := pk_lEQ (b := 0) h (by decide)
theorem stD_lt (R n k : Nat) : stD R n k < 10000 := Nat.mod_lt _ (by decide)
theorem tgOk_st {I I' : mv_I} (h : tgOk I I') (a b c : Nat) : tgOk I (stI a b c I') := by
  unfold stI
  obtain ⟨m, hm, hs⟩ := h.2.1
  rw [hs, nI_clamp (by omega)]
  by_cases hb : m ≤ b
  · rw [if_pos hb]
    exact h
  · rw [if_neg hb]
    by_cases h1 : a = 1
    · rw [if_pos h1]
      exact tgOk_add h (by omega) _
    · rw [if_neg h1]
      by_cases h2 : a = 2
      · rw [if_pos h2]
        exact tgOk_app h (by omega) _
      · rw [if_neg h2]
        by_cases h3 : a = 3
        · rw [if_pos h3]
          exact tgOk_drop h (by omega)
        · rw [if_neg h3]
          exact h
def sp_judge : mv_SP := (fun as I _ => SH I ∧ ∃ (n : Int32) (row : Int64), as = [.ref 0, .int n, .long row],
  fun as I J r I' J' => J = J' ∧ tgOk I I' ∧ ∀ (n : Int32) (row : Int64), as = [.ref 0, .int n, .long row] → if 1 ≤ n ∧ n ≤ 4 then (∀ R : Nat, R < 2 ^ 63 → row = lN R → if R / 10000 ^ n.toNatClampNeg = 0 then r = some (.int (jdF R n.toNatClampNeg n.toNatClampNeg 0 (grpN 17 0 I (I 400 1).toNatClampNeg))) else r = some (.int (-2))) ∧ (row < 0 → r = some (.int (-2))) else r = some (.int (-2)))
theorem cb_judge : mv_body 62 mv_t_X6_judge (mv_cs [(84, sp_within), (85, sp_withoutDoings), (26, sp_groupCopy), (76, sp_stands)]) sp_judge := by
  intro as I J h
  obtain ⟨hS, n, row, rfl⟩ := h
  obtain ⟨m, hm, hs⟩ := SH_now hS
  have hcm : (I 400 1).toNatClampNeg = m := by rw [hs]; exact nI_clamp (by omega)
  refine ⟨rfl, mv_run_V (stop := [42]) 60 _ _ _ _ _ ?_⟩
  refine ⟨rfl, trivial, fun r I1 J1 hp => ?_⟩
  obtain ⟨rfl, rfl, rfl⟩ := hp
  refine ⟨fun h3 => ?_, fun h3 => ?_⟩
  · have h3 := mv_b0.mp h3
    exact ⟨rfl, tgOk_rfl hS, fun n' row' e => by cases e; rw [if_neg h3]⟩
  · have h3 := b_yes h3
    obtain ⟨q, hq1, hq, rfl⟩ := in_nat1 (M := 4) (by decide) h3
    have hcq : (nI q).toNatClampNeg = q := nI_clamp (by omega)
    refine ⟨fun h4 => ?_, fun h4 => ?_⟩
    · have h4 := (lg_cmp_lt _ _).mp h4
      exact ⟨rfl, tgOk_rfl hS, fun n' row' e => by
        cases e
        rw [if_pos h3]
        refine ⟨fun R hR e => ?_, fun _ => rfl⟩
        subst e
        exact absurd h4 (lg_le_not_lt ((pk_lLE (a := 0) (by decide) hR).mpr (Nat.zero_le _)))⟩
    · have h4 : ¬ row < 0 := fun z => h4 ((lg_cmp_lt _ _).mpr z)
      obtain ⟨R, hR, rfl⟩ := pk_lOf h4
      have hR2 : R / 10000 ^ q < 2 ^ 63 := Nat.lt_of_le_of_lt (Nat.div_le_self _ _) hR
      refine ⟨rfl, ⟨q, _, by omega, rfl⟩, fun r I1 J1 hp => ?_⟩
      obtain ⟨rfl, rfl, rfl⟩ := hp
      rw [hcq, wdF_nat hR]
      refine ⟨fun h5 => ?_, fun h5 => ?_⟩
      · have h5 := (lN_eq0 hR2).mp ((lg_cmp_eq _ _).mp h5)
        have key : ∀ r k : Nat, k + r = q → ∀ I1, tgOk I I1 → jdF R q r k I1 = jdF R q q 0 (grpN 17 0 I m) → mv_V mv_ow mv_swf mv_t_X6_judge (mv_cs [(84, sp_within), (85, sp_withoutDoings), (26, sp_groupCopy), (76, sp_stands)]) (sp_judge.2 [.ref 0, .int (nI q), .long (lN R)] I J) 42 [(0, .ref 0), (1, .int (nI q)), (2, .long (lN R)), (4, .int (nI k))] [] I1 J := by
          have fin : ∀ (x : Int32) (I1 : mv_I), tgOk I I1 → x = jdF R q q 0 (grpN 17 0 I m) → sp_judge.2 [.ref 0, .int (nI q), .long (lN R)] I J (some (.int x)) I1 J := by
            intro x I1 hI hx
            refine ⟨rfl, hI, fun n' row' e => ?_⟩
            cases e
            rw [if_pos h3, hcq, hcm]
            refine ⟨fun R' hR' e => ?_, fun z => absurd z (lg_le_not_lt ((pk_lLE (a := 0) (by decide) hR).mpr (Nat.zero_le _)))⟩
            have := (pk_lEQ hR hR').mp e
            subst this
            rw [if_pos h5, hx]
          intro r
          induction r with
          | zero =>
            intro k hk I1 hI hf
            have hk : k = q := hk
            subst hk
            refine mv_run_V (stop := [42]) 40 _ _ _ _ _ ?_
            refine ⟨fun h1 => ?_, fun h1 => ?_⟩
            · exact fin _ _ hI hf
            · exact absurd h1 (nI_nlt (Nat.le_refl _) (by omega))
          | succ r ih =>
            intro k hk I1 hI hf
            rw [jdF] at hf
            have hsb : nI q - 1 - nI k = nI (q - 1 - k) := by rw [show (1 : Int32) = nI 1 from rfl, pk_sub (by omega), pk_sub (by omega)]
            have hck : (nI (q - 1 - k)).toNatClampNeg = q - 1 - k := nI_clamp (by omega)
            refine mv_run_V (stop := [42]) 40 _ _ _ _ _ ?_
            refine ⟨fun h1 => ?_, fun h1 => ?_⟩
            · exact absurd (nI_lt (by omega) (by omega)) h1
            · refine ⟨rfl, ⟨q - 1 - k, lN R, by omega, by rw [hsb]; rfl⟩, fun r1 I2 J2 hp => ?_⟩
              obtain ⟨hr, rfl, rfl⟩ := hp
              have hr : r1 = some (.long (wdF (lN R) (nI q - 1 - nI k).toNatClampNeg)) := hr
              rw [hsb, hck, wdF_nat hR] at hr
              subst hr
              have hR3 : R / 10000 ^ (q - 1 - k) < 2 ^ 63 := Nat.lt_of_le_of_lt (Nat.div_le_self _ _) hR
              have hrem : lN (R / 10000 ^ (q - 1 - k)) - lN (R / 10000 ^ (q - 1 - k)) / 10000 * 10000 = lN (stD R q k) := pk_lRem (b := 10000) hR3 (by decide) (by decide)
              have hdl := stD_lt R q k
              refine ⟨mv_nz4, ?_⟩
              rw [hrem]
              have hcd : (nI (stD R q k)).toNatClampNeg = stD R q k := nI_clamp (by omega)
              refine ⟨rfl, rfl, ⟨hI.2.1, fun i hi => tgOk_nn hI hi, stD R q k, hdl, (by show [Value.ref 0, Value.int (lN (stD R q k)).toInt32] = _; rw [lN_i])⟩, fun r1 I2 J2 hp => ?_⟩
              obtain ⟨rfl, hr, hI2⟩ := hp
              have hr : r1 = some (.int (stB ((lN (stD R q k)).toInt32.toNatClampNeg / 1000) ((lN (stD R q k)).toInt32.toNatClampNeg / 100 % 10) ((lN (stD R q k)).toInt32.toNatClampNeg % 100) I1)) := hr
              have hI2 : I2 = stI ((lN (stD R q k)).toInt32.toNatClampNeg / 1000) ((lN (stD R q k)).toInt32.toNatClampNeg / 100 % 10) ((lN (stD R q k)).toInt32.toNatClampNeg % 100) I1 := hI2
              rw [lN_i, hcd] at hr hI2
              subst hr hI2
              refine ⟨fun h4 => ?_, fun h4 => ?_⟩
              · rw [if_neg h4] at hf
                have h6 := ih (k + 1) (by omega) _ (tgOk_st hI _ _ _) hf
                rw [nI_succ] at h6
                exact mv_keep [0, 1, 2, 4] h6
              · rw [if_pos h4] at hf
                exact fin _ _ (tgOk_st hI _ _ _) hf
        refine ⟨rfl, _, rfl, rfl, _, rfl, rfl, rfl, ⟨17, 0, m, by decide, by decide, by decide, rfl, rfl, hm, hs⟩, fun r1 I1 J1 hp => ?_⟩
        obtain ⟨rfl, rfl, hg⟩ := hp
        have hg := hg 17 0 rfl rfl
        rw [hcm] at hg
        subst hg
        exact key q 0 (Nat.zero_add q) _ (tgOk_grp hS hm) rfl
      · have h5 : ¬ R / 10000 ^ q = 0 := fun z => h5 ((lg_cmp_eq _ _).mpr ((lN_eq0 hR2).mpr z))
        exact ⟨rfl, tgOk_rfl hS, fun n' row' e => by
          cases e
          rw [if_pos h3, hcq]
          refine ⟨fun R' hR' e => ?_, fun z => rfl⟩
          have := (pk_lEQ hR hR').mp e
          subst this
          rw [if_neg h5]⟩
theorem c_judge {l : Launch} {G : mv_G} {A : Nat → Prop} (hG : mv_adk G A) : mv_Con l G A 62 sp_judge := mv_con hG 62 mv_k_X6_judge (by decide +kernel) (mv_cs_cons (c_within hG) (mv_cs_cons (c_withoutDoings hG) (mv_cs_cons (c_groupCopy hG) (mv_cs_cons (c_stands hG) (mv_cs_nil))))) cb_judge
