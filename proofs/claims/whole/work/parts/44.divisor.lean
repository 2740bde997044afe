/-! The reference: divisors, sums. -/
theorem lg_ge0 {a : Nat} (h : a < 2 ^ 63) : ¬ lg_cmp (lN a) 0 < 0 := by
  rw [lg_cmp_lt]
  have : ¬ lN a < lN 0 := by
    rw [pk_lLT h (by decide)]
    omega
  exact this
def sp_longDivisor : mv_SP := (fun as _ _ => ∃ a b : Nat, a < 2 ^ 63 ∧ b < 2 ^ 63 ∧ as = [.long (lN a), .long (lN b)],
  fun as I J r I' J' => I = I' ∧ J = J' ∧ ∀ a b : Nat, a < 2 ^ 63 → b < 2 ^ 63 → as = [.long (lN a), .long (lN b)] → r = some (.long (lN (Nat.gcd a b))))
theorem cb_longDivisor : mv_body 118 mv_t_X7_longDivisor (mv_cs []) sp_longDivisor := by
  intro as I J h
  obtain ⟨a, b, ha, hb, rfl⟩ := h
  have fin : ∀ x : Int64, x = lN (Nat.gcd a b) → sp_longDivisor.2 [.long (lN a), .long (lN b)] I J (some (.long x)) I J := by
    intro x hx
    refine ⟨rfl, rfl, fun a' b' ha' hb' e => ?_⟩
    injection e with e1 e2
    injection e2 with e2 e3
    injection e1 with e1
    injection e2 with e2
    have : a = a' := (pk_lEQ ha ha').mp e1
    subst this
    have : b = b' := (pk_lEQ hb hb').mp e2
    subst this
    rw [hx]
  have key : ∀ n p q : Nat, q ≤ n → p < 2 ^ 63 → q < 2 ^ 63 → Nat.gcd p q = Nat.gcd a b → mv_V mv_ow mv_swf mv_t_X7_longDivisor (mv_cs []) (sp_longDivisor.2 [.long (lN a), .long (lN b)] I J) 28 [(4, .long (lN p)), (6, .long (lN q))] [] I J := by
    intro n
    induction n with
    | zero =>
      intro p q hq hp hq2 hg
      have hq : q = 0 := by omega
      subst hq
      refine mv_run_V (stop := [28]) 30 _ _ _ _ _ ?_
      refine ⟨fun h1 => ?_, fun h1 => ?_⟩
      · exact fin _ (by rw [← hg, Nat.gcd_zero_right])
      · exact absurd ((lg_cmp_eq _ _).mpr rfl) h1
    | succ n ih =>
      intro p q hq hp hq2 hg
      refine mv_run_V (stop := [28]) 30 _ _ _ _ _ ?_
      refine ⟨fun h1 => ?_, fun h1 => ?_⟩
      · have h1 := (lN_eq0 hq2).mp ((lg_cmp_eq _ _).mp h1)
        subst h1
        exact fin _ (by rw [← hg, Nat.gcd_zero_right])
      · have h1 : ¬ q = 0 := fun z => h1 ((lg_cmp_eq _ _).mpr ((lN_eq0 hq2).mpr z))
        refine ⟨fun z => h1 ((lN_eq0 hq2).mp z), ?_⟩
        refine mv_keep [4, 6] ?_
        have hlt : p % q < q := Nat.mod_lt _ (by omega)
        have k6 := ih q (p % q) (by omega) hq2 (by omega) (by rw [← hg, Nat.gcd_comm q (p % q), ← Nat.gcd_rec, Nat.gcd_comm])
        rw [← pk_lRem hp (by omega) hq2] at k6
        exact k6
  refine ⟨rfl, mv_run_V (stop := [28]) 60 _ _ _ _ _ ?_⟩
  refine ⟨fun h1 => ?_, fun h1 => absurd h1 (lg_ge0 ha)⟩
  refine ⟨fun h2 => ?_, fun h2 => absurd h2 (lg_ge0 hb)⟩
  refine mv_keep [4, 6] ?_
  exact key b a b (Nat.le_refl _) ha hb rfl
theorem c_longDivisor {l : Launch} {G : mv_G} {A : Nat → Prop} (hG : mv_adk G A) : mv_Con l G A 118 sp_longDivisor := mv_con hG 118 mv_k_X7_longDivisor (by decide +kernel) (mv_cs_nil) cb_longDivisor
def sp_fraction : mv_SP := (fun as _ _ => ∃ (a b : Nat) (u : Int32), a < 2 ^ 31 ∧ b < 2 ^ 31 ∧ 0 < b ∧ as = [.int (nI a), .int (nI b), .int u],
  fun as I J r I' J' => I = I' ∧ J = J' ∧ ∀ (a b : Nat) (u : Int32), a < 2 ^ 31 → b < 2 ^ 31 → 0 < b → as = [.int (nI a), .int (nI b), .int u] → r = some (.int (nI ((if u = 0 then b else a) / Nat.gcd a b))))
theorem cb_fraction : mv_body 106 mv_t_X7_fraction (mv_cs [(118, sp_longDivisor)]) sp_fraction := by
  intro as I J h
  obtain ⟨a, b, u, ha, hb, hb0, rfl⟩ := h
  have hg0 : 0 < Nat.gcd a b := Nat.gcd_pos_of_pos_right _ hb0
  have hgb : Nat.gcd a b < 2 ^ 31 := Nat.lt_of_le_of_lt (Nat.le_of_dvd hb0 (Nat.gcd_dvd_right a b)) hb
  have fin : ∀ x : Int32, x = nI ((if u = 0 then b else a) / Nat.gcd a b) → sp_fraction.2 [.int (nI a), .int (nI b), .int u] I J (some (.int x)) I J := by
    intro x hx
    refine ⟨rfl, rfl, fun a' b' u' ha' hb' _ e => ?_⟩
    injection e with e1 e2
    injection e2 with e2 e3
    injection e3 with e3 e4
    injection e1 with e1
    injection e2 with e2
    injection e3 with e3
    have : a = a' := (nI_eq ha ha').mp e1
    subst this
    have : b = b' := (nI_eq hb hb').mp e2
    subst this
    subst e3
    rw [hx]
  refine ⟨rfl, mv_run_V (stop := []) 60 _ _ _ _ _ ?_⟩
  refine ⟨rfl, ⟨a, b, by omega, by omega, by rw [nI_l ha, nI_l hb]; rfl⟩, fun r1 I1 J1 hp => ?_⟩
  obtain ⟨rfl, rfl, hq⟩ := hp
  have hq := hq a b (by omega) (by omega) (by rw [nI_l ha, nI_l hb]; rfl)
  subst hq
  have hn0 : ¬ (lN (Nat.gcd a b)).toInt32 = 0 := by
    rw [lN_i]
    exact nI_ne0 hg0 hgb
  refine ⟨fun h1 => ?_, fun h1 => ?_⟩
  · refine ⟨hn0, fin _ ?_⟩
    rw [if_pos h1, lN_i, pk_div hb hg0 hgb]
  · refine ⟨hn0, fin _ ?_⟩
    rw [if_neg h1, lN_i, pk_div ha hg0 hgb]
theorem c_fraction {l : Launch} {G : mv_G} {A : Nat → Prop} (hG : mv_adk G A) : mv_Con l G A 106 sp_fraction := mv_con hG 106 mv_k_X7_fraction (by decide +kernel) (mv_cs_cons (c_longDivisor hG) (mv_cs_nil)) cb_fraction
def msA (I : mv_I) : Nat → Int32
  | 0 => 0
  | k + 1 => msA I k + I 39 (24 * k + 7)
def sp_allAlarms : mv_SP := (fun as I _ => as = [.ref 30] ∧ ∃ m : Nat, m ≤ 5 ∧ I 30 4 = nI m, fun _ I J r I' J' => I = I' ∧ J = J' ∧ r = some (.int (msA I (I 30 4).toNatClampNeg)))
theorem cb_allAlarms : mv_body 90 mv_t_X7_allAlarms (mv_cs []) sp_allAlarms := by
  intro as I J h
  obtain ⟨rfl, m, hm, hmm⟩ := h
  have key : ∀ q k : Nat, k + q = m → mv_V mv_ow mv_swf mv_t_X7_allAlarms (mv_cs []) (sp_allAlarms.2 [.ref 30] I J) 4 [(0, .ref 30), (1, .int (msA I k)), (2, .int (nI k))] [] I J := by
    intro q
    induction q with
    | zero =>
      intro k hk
      have hk : k = m := hk
      subst hk
      refine mv_run_V (stop := [4]) 30 _ _ _ _ _ ?_
      refine ⟨rfl, fun h1 => ?_, fun h1 => ?_⟩
      · exact ⟨rfl, rfl, by rw [hmm, nI_clamp (by omega)]⟩
      · rw [hmm] at h1
        exact absurd h1 (nI_nlt (Nat.le_refl _) (by omega))
    | succ q ih =>
      intro k hk
      have c7 : (nI 24 * nI k + 7).toNatClampNeg = 24 * k + 7 := by rw [e24]; exact ix (k := 7)
      refine mv_run_V (stop := [4]) 30 _ _ _ _ _ ?_
      refine ⟨rfl, fun h1 => ?_, fun h1 => ?_⟩
      · rw [hmm] at h1
        exact absurd (nI_lt (by omega) (by omega)) h1
      · refine ⟨rfl, _, rfl, _, rfl, ?_, ?_⟩
        · show vp_in (nI 24 * nI k + nI 7) 121
          rw [e24]
          exact ixin (by omega)
        · have k6 := ih (k + 1) (by omega)
          rw [nI_succ, msA, ← c7] at k6
          exact k6
  refine ⟨rfl, mv_run_V (stop := [4]) 30 _ _ _ _ _ ?_⟩
  exact key m 0 (Nat.zero_add m)
theorem c_allAlarms {l : Launch} {G : mv_G} {A : Nat → Prop} (hG : mv_adk G A) : mv_Con l G A 90 sp_allAlarms := mv_con hG 90 mv_k_X7_allAlarms (by decide +kernel) (mv_cs_nil) cb_allAlarms
def mnr (I : mv_I) (s : Nat) : Int32 := mv_mx (I 39 (24 * s + 6)) (I 39 (24 * s + 5))
def sp_nearOf : mv_SP := (fun as _ _ => ∃ s : Nat, s < 5 ∧ as = [.ref 30, .int (nI s)],
  fun as I J r I' J' => I = I' ∧ J = J' ∧ match as with
    | [_, .int s] => r = some (.int (mnr I s.toNatClampNeg))
    | _ => True)
theorem cb_nearOf : mv_body 122 mv_t_X7_nearOf (mv_cs []) sp_nearOf := by
  intro as I J h
  obtain ⟨s, hs, rfl⟩ := h
  have cs : (nI s).toNatClampNeg = s := nI_clamp (by omega)
  have c5 : (nI 24 * nI s + 5).toNatClampNeg = 24 * s + 5 := by rw [e24]; exact ix (k := 5)
  have c6 : (nI 24 * nI s + 6).toNatClampNeg = 24 * s + 6 := by rw [e24]; exact ix (k := 6)
  have i5 : vp_in (nI 24 * nI s + nI 5) 121 := by rw [e24]; exact ixin (by omega)
  have i6 : vp_in (nI 24 * nI s + nI 6) 121 := by rw [e24]; exact ixin (by omega)
  have fin : ∀ x : Int32, x = mnr I s → sp_nearOf.2 [.ref 30, .int (nI s)] I J (some (.int x)) I J := by
    intro x hx
    refine ⟨rfl, rfl, ?_⟩
    show some (Value.int x) = some (Value.int (mnr I (nI s).toNatClampNeg))
    rw [cs, hx]
  refine ⟨rfl, mv_run_V (stop := []) 60 _ _ _ _ _ ?_⟩
  refine ⟨rfl, _, rfl, _, rfl, i5, rfl, _, rfl, _, rfl, i6, fun h1 => ?_, fun h1 => ?_⟩
  · have h1 : ¬ I 39 (nI 24 * nI s + 6).toNatClampNeg < I 39 (nI 24 * nI s + 5).toNatClampNeg := h1
    have e : I 39 (nI 24 * nI s + 6).toNatClampNeg = mnr I s := by
      rw [c5, c6] at h1
      rw [c6]
      unfold mnr mv_mx
      rw [if_neg h1]
    exact fin _ e
  · have h1 : I 39 (nI 24 * nI s + 6).toNatClampNeg < I 39 (nI 24 * nI s + 5).toNatClampNeg := h1
    have e : I 39 (nI 24 * nI s + 5).toNatClampNeg = mnr I s := by
      rw [c5, c6] at h1
      rw [c5]
      unfold mnr mv_mx
      rw [if_pos h1]
    exact fin _ e
theorem c_nearOf {l : Launch} {G : mv_G} {A : Nat → Prop} (hG : mv_adk G A) : mv_Con l G A 122 sp_nearOf := mv_con hG 122 mv_k_X7_nearOf (by decide +kernel) (mv_cs_nil) cb_nearOf
/-- the chance that stands at the place i of five, the first for -2 -/
def mch (w : Int32) (i : Nat) : Int32 := w / pwF 10 (4 - i) - w / pwF 10 (4 - i) / 10 * 10
theorem pw_nz : ∀ i, i < 5 → ¬ pwF 10 (4 - i) = 0 := by decide
def sp_chanceOf : mv_SP := (fun as _ _ => ∃ i : Nat, i < 5 ∧ as = [.ref 30, .int (nI i - 2)],
  fun as I J r I' J' => I = I' ∧ J = J' ∧ ∀ i : Nat, i < 5 → as = [.ref 30, .int (nI i - 2)] → r = some (.int (mch (I 39 120) i)))
theorem two_sub : ∀ i, i < 5 → (2 : Int32) - (nI i - 2) = nI (4 - i) := by decide
theorem sub2_inj : ∀ i, i < 5 → ∀ j, j < 5 → nI i - 2 = nI j - 2 → i = j := by decide
theorem cb_chanceOf : mv_body 91 mv_t_X7_chanceOf (mv_cs [(128, sp_power)]) sp_chanceOf := by
  intro as I J h
  obtain ⟨i, hi, rfl⟩ := h
  have c4 : (nI (4 - i)).toNatClampNeg = 4 - i := nI_clamp (by omega)
  refine ⟨rfl, mv_run_V (stop := []) 60 _ _ _ _ _ ?_⟩
  refine ⟨rfl, _, rfl, _, rfl, vp_in_nI (n := 120) (by decide) (by decide), rfl, ⟨10, 4 - i, by omega, congrArg (fun z => [Value.int 10, .int z]) (two_sub i hi)⟩, fun r1 I1 J1 hp => ?_⟩
  obtain ⟨rfl, rfl, hq⟩ := hp
  have hq : r1 = some (.int (pwF 10 ((2 : Int32) - (nI i - 2)).toNatClampNeg)) := hq
  rw [two_sub i hi, c4] at hq
  subst hq
  refine ⟨pw_nz i hi, mv_nz10, rfl, rfl, fun j hj e => ?_⟩
  injection e with e1 e2
  injection e2 with e2 e3
  injection e2 with e2
  have : i = j := sub2_inj i hi j hj e2
  subst this
  rfl
theorem c_chanceOf {l : Launch} {G : mv_G} {A : Nat → Prop} (hG : mv_adk G A) : mv_Con l G A 91 sp_chanceOf := mv_con hG 91 mv_k_X7_chanceOf (by decide +kernel) (mv_cs_cons (c_power hG) (mv_cs_nil)) cb_chanceOf
