/-! Observations: which numbers agree. -/
abbrev agrP (I : mv_I) (a o : Nat) (v : Int32) : Prop := mv_b (addN 370 v (I a 1).toNatClampNeg (copyI I 370 o) 370 10 - I o 10 = I a 2) = I a 3
theorem agrP_tr {I I' : mv_I} {i c : Nat} {v : Int32} (hi : i < 6) (hc : c < 90) (h : trOk I I') : agrP I' (8 + i) (100 + 3 * c) v ↔ agrP I (8 + i) (100 + 3 * c) v := by
  unfold agrP
  rw [copyI_tr hc h, h.1 (8 + i) (by omega) (by omega) (by omega), h.1 (100 + 3 * c) (by omega) (by omega) (by omega)]
def sp_agrees : mv_SP := (fun as I _ => SH I ∧ ∃ (i c : Nat) (v : Int32), i < 6 ∧ c < 90 ∧ as = [.ref 0, .ref (8 + i), .ref (100 + 3 * c), .int v],
  fun as I J r I' J' => J = J' ∧ trOk I I' ∧ match as with
    | [_, .ref a, .ref o, .int v] => r = some (.int (mv_b (agrP I a o v)))
    | _ => True)
theorem cb_agrees : mv_body 47 mv_t_X6_agrees (mv_cs [(12, sp_chartCopy), (6, sp_addCounts)]) sp_agrees := by
  intro as I J h
  obtain ⟨hS, i, c, v, hi, hc, rfl⟩ := h
  obtain ⟨n, hn, hsn⟩ := hS.2.2.2.2.2.2 i hi
  have hT := trOk_copy (c := c) hS hc
  have hcn : (I (8 + i) 1).toNatClampNeg = n := by rw [hsn]; exact nI_clamp (by omega)
  have hU := trOk_addN (v := v) hT n
  have ha := hU.1 (8 + i) (by omega) (by omega) (by omega)
  have ho := hU.1 (100 + 3 * c) (by omega) (by omega) (by omega)
  refine ⟨rfl, mv_run_V (stop := []) 90 _ _ _ _ _ ?_⟩
  refine ⟨rfl, _, rfl, rfl, rfl, ⟨90, c, by decide, by omega, by omega, rfl, rfl⟩, fun r I1 J1 hp => ?_⟩
  obtain ⟨rfl, rfl, rfl⟩ := hp
  have hT1 : copyI I 370 (100 + 3 * c) (8 + i) 1 = nI n := by rw [hT.1 (8 + i) (by omega) (by omega) (by omega)]; exact hsn
  refine ⟨rfl, _, rfl, mv_lay_si hi, rfl, rfl, ⟨90, n, by decide, rfl, trOk_nn hT, hn, hT1⟩, fun r I1 J1 hp => ?_⟩
  obtain ⟨rfl, rfl, rfl⟩ := hp
  rw [hT1, nI_clamp (by omega)]
  refine ⟨rfl, _, rfl, rfl, mv_lay_ch (by omega), mv_lay_si hi, ?_⟩
  have fin : ∀ x y : Int32, mv_b (addN 370 v n (copyI I 370 (100 + 3 * c)) 370 10 - I (100 + 3 * c) 10 = I (8 + i) 2) = y → x = mv_b (y = I (8 + i) 3) → sp_agrees.2 [.ref 0, .ref (8 + i), .ref (100 + 3 * c), .int v] I J (some (.int x)) (addN 370 v n (copyI I 370 (100 + 3 * c))) J := by
    intro x y hy hx
    refine ⟨rfl, hU, ?_⟩
    show some (Value.int x) = _
    unfold agrP
    rw [hcn, hy, hx]
  refine ⟨fun h3 => ?_, fun h3 => ?_⟩
  · rw [ho, ha] at h3
    refine ⟨mv_lay_si hi, fun h4 => ?_, fun h4 => ?_⟩
    · rw [ha] at h4
      exact ⟨Or.inl rfl, fin 0 0 (mv_bf h3) (mv_bf h4).symm⟩
    · rw [ha] at h4
      exact ⟨Or.inr rfl, fin 1 0 (mv_bf h3) (mv_bt h4).symm⟩
  · rw [ho, ha] at h3
    refine ⟨mv_lay_si hi, fun h4 => ?_, fun h4 => ?_⟩
    · rw [ha] at h4
      exact ⟨Or.inl rfl, fin 0 1 (mv_bt h3) (mv_bf h4).symm⟩
    · rw [ha] at h4
      exact ⟨Or.inr rfl, fin 1 1 (mv_bt h3) (mv_bt h4).symm⟩
theorem c_agrees {l : Launch} {G : mv_G} {A : Nat → Prop} (hG : mv_adk G A) : mv_Con l G A 47 sp_agrees := mv_con hG 47 mv_k_X6_agrees (by decide +kernel) (mv_cs_cons (c_chartCopy hG) (mv_cs_cons (c_addCounts hG) (mv_cs_nil))) cb_agrees
/-- the first q observations agree with v -/
def allP (I : mv_I) (v : Int32) (q : Nat) : Prop := ∀ i : Nat, i < q → sv I (I (8 + i) 0) → agrP I (8 + i) (scn (I (8 + i) 0)) v
theorem sv_tr {I I' : mv_I} (h : trOk I I') (s : Int32) : sv I' s ↔ sv I s := by
  unfold sv
  rw [h.1 400 (by decide) (by decide) (by decide)]
theorem allP_tr {I I' : mv_I} (hS : SH I) (h : trOk I I') (v : Int32) {q : Nat} (hq : q ≤ 6) : allP I' v q ↔ allP I v q := by
  have e : ∀ i : Nat, i < q → I' (8 + i) = I (8 + i) := fun i hi => h.1 (8 + i) (by omega) (by omega) (by omega)
  refine ⟨fun z i hi hs => ?_, fun z i hi hs => ?_⟩
  · obtain ⟨j, hj, -, hjc⟩ := sv_in hS hs
    have z1 := z i hi
    rw [e i hi] at z1
    exact (agrP_tr (by omega) (by omega) h).mp (z1 ((sv_tr h _).mpr hs))
  · rw [e i hi] at hs ⊢
    have hs := (sv_tr h _).mp hs
    obtain ⟨j, hj, -, hjc⟩ := sv_in hS hs
    exact (agrP_tr (by omega) (by omega) h).mpr (z i hi hs)
def sp_agreesWithAll : mv_SP := (fun as I _ => SH I ∧ ∃ v : Int32, as = [.ref 0, .int v],
  fun as I J r I' J' => J = J' ∧ trOk I I' ∧ match as with
    | [_, .int v] => ∃ z : Int32, r = some (.int z) ∧ (z = 0 ∧ ¬ allP I v (I 0 6).toNatClampNeg ∨ z = 1 ∧ allP I v (I 0 6).toNatClampNeg)
    | _ => True)
theorem cb_agreesWithAll : mv_body 48 mv_t_X6_agreesWithAll (mv_cs [(25, sp_at), (47, sp_agrees)]) sp_agreesWithAll := by
  intro as I J h
  obtain ⟨hS, v, rfl⟩ := h
  obtain ⟨q, hq, hsq⟩ := hS.2.2.2.2.2.1
  have hcq : (I 0 6).toNatClampNeg = q := by rw [hsq]; exact nI_clamp (by omega)
  have key : ∀ r k : Nat, k + r = q → ∀ I1, trOk I I1 → allP I v k → mv_V mv_ow mv_swf mv_t_X6_agreesWithAll (mv_cs [(25, sp_at), (47, sp_agrees)]) (sp_agreesWithAll.2 [.ref 0, .int v] I J) 2 [(0, .ref 0), (1, .int v), (2, .int (nI k))] [] I1 J := by
    intro r
    induction r with
    | zero =>
      intro k hk I1 hI hal
      have hk : k = q := hk
      subst hk
      have e0 : I1 0 6 = nI k := by rw [hI.1 0 (by decide) (by decide) (by decide)]; exact hsq
      refine mv_run_V (stop := [2]) 60 _ _ _ _ _ ?_
      refine ⟨rfl, fun h1 => ?_, fun h1 => ?_⟩
      · refine ⟨Or.inr rfl, rfl, hI, 1, rfl, Or.inr ⟨rfl, ?_⟩⟩
        rw [hcq]
        exact hal
      · rw [e0] at h1
        exact absurd h1 (nI_nlt (Nat.le_refl k) (by omega))
    | succ r ih =>
      intro k hk I1 hI hal
      have e0 : I1 0 6 = nI q := by rw [hI.1 0 (by decide) (by decide) (by decide)]; exact hsq
      have hck : (nI k).toNatClampNeg = k := nI_clamp (by omega)
      have hS1 := trOk_SH hS hI
      obtain ⟨m, hm, hs⟩ := SH_now hS1
      have e8 : I1 (8 + k) = I (8 + k) := hI.1 (8 + k) (by omega) (by omega) (by omega)
      refine mv_run_V (stop := [2]) 60 _ _ _ _ _ ?_
      refine ⟨rfl, fun h1 => ?_, fun h1 => ?_⟩
      · rw [e0] at h1
        exact absurd (nI_lt (by omega) (by omega)) h1
      · refine ⟨rfl, _, rfl, _, rfl, vp_in_nI (by omega) (by omega), _, (by rw [hck]; exact mv_rf_si (by omega)), rfl, _, rfl, mv_lay_si (by omega), rfl, rfl, ⟨0, m, by decide, rfl, hm, hs⟩, fun r1 I2 J2 hp => ?_⟩
        obtain ⟨rfl, rfl, hr⟩ := hp
        rcases at_now hr with ⟨hv, rfl⟩ | ⟨hv, rfl⟩
        · have h5 := ih (k + 1) (by omega) I1 hI (fun i hi hs => by
            by_cases hik : i = k
            · subst hik
              rw [e8] at hv
              exact absurd ((sv_tr hI _).mpr hs) hv
            · exact hal i (by omega) hs)
          rw [nI_succ] at h5
          exact mv_keep [0, 1, 2] h5
        · obtain ⟨j, hj, -, hjc⟩ := sv_in hS1 hv
          refine ⟨rfl, rfl, ⟨hS1, k, (I1 (8 + k) 0).toNatClampNeg, v, by omega, by omega, rfl⟩, fun r1 I2 J2 hp => ?_⟩
          obtain ⟨rfl, hI2, hr2⟩ := hp
          have hr2 : r1 = some (.int (mv_b (agrP I1 (8 + k) (scn (I1 (8 + k) 0)) v))) := hr2
          subst hr2
          have hag : agrP I1 (8 + k) (scn (I1 (8 + k) 0)) v ↔ agrP I (8 + k) (scn (I (8 + k) 0)) v := by
            rw [e8]
            rw [e8] at hjc
            exact agrP_tr (by omega) (by omega) hI
          have hsv : sv I (I (8 + k) 0) := by
            rw [e8] at hv
            exact (sv_tr hI _).mp hv
          refine ⟨fun h4 => ?_, fun h4 => ?_⟩
          · have h4 := hag.mp (b_yes h4)
            have h5 := ih (k + 1) (by omega) I2 (trOk_trans hI hI2) (fun i hi hs => by
              by_cases hik : i = k
              · subst hik
                exact h4
              · exact hal i (by omega) hs)
            rw [nI_succ] at h5
            exact mv_keep [0, 1, 2] h5
          · have h4 := mv_b0.mp h4
            refine ⟨Or.inl rfl, rfl, trOk_trans hI hI2, 0, rfl, Or.inl ⟨rfl, fun z => h4 (hag.mpr (z k (by rw [hcq]; omega) hsv))⟩⟩
  refine ⟨rfl, mv_run_V (stop := [2]) 60 _ _ _ _ _ ?_⟩
  exact key q 0 (Nat.zero_add q) I (trOk_rfl hS) (fun i hi => absurd hi (Nat.not_lt_zero i))
theorem c_agreesWithAll {l : Launch} {G : mv_G} {A : Nat → Prop} (hG : mv_adk G A) : mv_Con l G A 48 sp_agreesWithAll := mv_con hG 48 mv_k_X6_agreesWithAll (by decide +kernel) (mv_cs_cons (c_at hG) (mv_cs_cons (c_agrees hG) (mv_cs_nil))) cb_agreesWithAll
noncomputable def whF (I : mv_I) (q : Nat) : Nat → Int32
  | 0 => 0
  | v + 1 => @ite _ (allP I (nI v) q) (Classical.propDecidable _) (whF I q v ||| (1 <<< (nI v &&& 31))) (whF I q v)
def sp_which : mv_SP := (fun as I _ => SH I ∧ as = [.ref 0],
  fun _ I J r I' J' => J = J' ∧ trOk I I' ∧ r = some (.int (whF I (I 0 6).toNatClampNeg 32)))
theorem cb_which : mv_body 82 mv_t_X6_which (mv_cs [(48, sp_agreesWithAll)]) sp_which := by
  intro as I J h
  obtain ⟨hS, rfl⟩ := h
  obtain ⟨q, hq, hsq⟩ := hS.2.2.2.2.2.1
  have hcq : (I 0 6).toNatClampNeg = q := by rw [hsq]; exact nI_clamp (by omega)
  have key : ∀ r k : Nat, k + r = 32 → ∀ I1, trOk I I1 → mv_V mv_ow mv_swf mv_t_X6_which (mv_cs [(48, sp_agreesWithAll)]) (sp_which.2 [.ref 0] I J) 4 [(0, .ref 0), (1, .int (whF I q k)), (2, .int (nI k))] [] I1 J := by
    intro r
    induction r with
    | zero =>
      intro k hk I1 hI
      have hk : k = 32 := hk
      subst hk
      refine mv_run_V (stop := [4]) 60 _ _ _ _ _ ?_
      refine ⟨fun h1 => ?_, fun h1 => ?_⟩
      · exact ⟨rfl, hI, by rw [hcq]⟩
      · have h1 : ¬ nI 31 < nI 32 := h1
        exact absurd (nI_lt (by decide) (by decide)) h1
    | succ r ih =>
      intro k hk I1 hI
      have e0 : (I1 0 6).toNatClampNeg = q := by rw [hI.1 0 (by decide) (by decide) (by decide)]; exact hcq
      refine mv_run_V (stop := [4]) 60 _ _ _ _ _ ?_
      refine ⟨fun h1 => ?_, fun h1 => ?_⟩
      · have h1 : nI 31 < nI k := h1
        exact absurd h1 (nI_nlt (by omega) (by omega))
      · refine ⟨rfl, rfl, ⟨trOk_SH hS hI, nI k, rfl⟩, fun r1 I2 J2 hp => ?_⟩
        obtain ⟨rfl, hI2, hz⟩ := hp
        obtain ⟨z, rfl, hz⟩ : ∃ z : Int32, r1 = some (.int z) ∧ (z = 0 ∧ ¬ allP I1 (nI k) (I1 0 6).toNatClampNeg ∨ z = 1 ∧ allP I1 (nI k) (I1 0 6).toNatClampNeg) := hz
        rw [e0, allP_tr hS hI _ hq] at hz
        have h5 := ih (k + 1) (by omega) I2 (trOk_trans hI hI2)
        rw [nI_succ, whF] at h5
        refine ⟨fun h3 => ?_, fun h3 => ?_⟩
        · rcases hz with ⟨-, hz⟩ | ⟨rfl, -⟩
          · rw [if_neg hz] at h5
            exact h5
          · exact absurd h3 (by decide)
        · rcases hz with ⟨rfl, -⟩ | ⟨-, hz⟩
          · exact absurd rfl h3
          · rw [if_pos hz] at h5
            exact h5
  refine ⟨rfl, mv_run_V (stop := [4]) 60 _ _ _ _ _ ?_⟩
  exact key 32 0 rfl I (trOk_rfl hS)
theorem c_which {l : Launch} {G : mv_G} {A : Nat → Prop} (hG : mv_adk G A) : mv_Con l G A 82 sp_which := mv_con hG 82 mv_k_X6_which (by decide +kernel) (mv_cs_cons (c_agreesWithAll hG) (mv_cs_nil)) cb_which
