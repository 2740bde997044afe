/-! Probabilities: missing days and pivots. -/
/-- 1 if one of r counts behind k days rings -/
def awF (v g : Int32) : Nat → Nat → mv_I → Int32
  | 0, _, _ => 0
  | r + 1, k, T => if (g >>> (nI k &&& 31)) &&& 1 = 1 then awF v g r (k + 1) (appI T 370 (-9)) else if addK T 370 v = 0 then awF v g r (k + 1) (addI T 370 v) else 1
def sp_awg : mv_SP := (fun as I _ => SH I ∧ ∃ (c : Nat) (v g : Int32) (n : Nat), c < 90 ∧ n < 100 ∧ as = [.ref 0, .ref (100 + 3 * c), .int v, .int (nI n), .int g],
  fun as I J r I' J' => J = J' ∧ trOk I I' ∧ match as with
    | [_, .ref o, .int v, .int n, .int g] => r = some (.int (awF v g n.toNatClampNeg 0 (copyI I 370 o)))
    | _ => True)
theorem awF_01 (v g : Int32) : ∀ r k T, awF v g r k T = 0 ∨ awF v g r k T = 1
  | 0, _, _ => Or.inl rfl
  | r + 1, k, T => by
    rw [awF]
    split
    · exact awF_01 v g r _ _
    · split
      · exact awF_01 v g r _ _
      · exact Or.inr rfl
theorem cb_awg : mv_body 50 mv_t_X6_alarmsWithGaps (mv_cs [(12, sp_chartCopy), (7, sp_addGap), (5, sp_addCount)]) sp_awg := by
  intro as I J h
  obtain ⟨hS, c, v, g, n, hc, hn, rfl⟩ := h
  have hcn : (nI n).toNatClampNeg = n := nI_clamp (by omega)
  have key : ∀ r k : Nat, k + r = n → ∀ I1, trOk I I1 → awF v g r k I1 = awF v g n 0 (copyI I 370 (100 + 3 * c)) → mv_V mv_ow mv_swf mv_t_X6_alarmsWithGaps (mv_cs [(12, sp_chartCopy), (7, sp_addGap), (5, sp_addCount)]) (sp_awg.2 [.ref 0, .ref (100 + 3 * c), .int v, .int (nI n), .int g] I J) 11 [(0, .ref 0), (1, .ref (100 + 3 * c)), (2, .int v), (3, .int (nI n)), (4, .int g), (5, .int (nI k))] [] I1 J := by
    intro r
    induction r with
    | zero =>
      intro k hk I1 hI hf
      have hk : k = n := hk
      subst hk
      refine mv_run_V (stop := [11]) 40 _ _ _ _ _ ?_
      refine ⟨fun h1 => ?_, fun h1 => ?_⟩
      · refine ⟨Or.inl rfl, rfl, hI, ?_⟩
        show some (Value.int 0) = _
        rw [hcn, ← hf]
        rfl
      · exact absurd h1 (nI_nlt (Nat.le_refl k) (by omega))
    | succ r ih =>
      intro k hk I1 hI hf
      rw [awF] at hf
      refine mv_run_V (stop := [11]) 40 _ _ _ _ _ ?_
      refine ⟨fun h1 => ?_, fun h1 => ?_⟩
      · exact absurd (nI_lt (by omega) (by omega)) h1
      · refine ⟨fun h2 => ?_, fun h2 => ?_⟩
        · rw [if_neg h2] at hf
          refine ⟨rfl, _, rfl, rfl, rfl, ⟨90, by decide, rfl, trOk_nn hI⟩, fun r1 I2 J2 hp => ?_⟩
          obtain ⟨rfl, rfl, rfl⟩ := hp
          refine ⟨fun h4 => ?_, fun h4 => ?_⟩
          · rw [if_pos h4] at hf
            have h5 := ih (k + 1) (by omega) _ (trOk_add hI) hf
            rw [nI_succ] at h5
            exact h5
          · rw [if_neg h4] at hf
            refine ⟨Or.inr rfl, rfl, trOk_add hI, ?_⟩
            show some (Value.int 1) = _
            rw [hcn, ← hf]
        · rw [if_pos h2] at hf
          refine ⟨rfl, _, rfl, rfl, rfl, ⟨90, by decide, rfl, trOk_nn hI⟩, fun r1 I2 J2 hp => ?_⟩
          obtain ⟨rfl, rfl, rfl⟩ := hp
          have h5 := ih (k + 1) (by omega) _ (trOk_app hI) hf
          rw [nI_succ] at h5
          exact h5
  refine ⟨rfl, mv_run_V (stop := [11]) 40 _ _ _ _ _ ?_⟩
  refine ⟨rfl, _, rfl, rfl, rfl, ⟨90, c, by decide, by omega, by omega, rfl, rfl⟩, fun r I1 J1 hp => ?_⟩
  obtain ⟨rfl, rfl, rfl⟩ := hp
  exact key n 0 (Nat.zero_add n) _ (trOk_copy hS hc) rfl
theorem c_awg {l : Launch} {G : mv_G} {A : Nat → Prop} (hG : mv_adk G A) : mv_Con l G A 50 sp_awg := mv_con hG 50 mv_k_X6_alarmsWithGaps (by decide +kernel) (mv_cs_cons (c_chartCopy hG) (mv_cs_cons (c_addGap hG) (mv_cs_cons (c_addCount hG) (mv_cs_nil)))) cb_awg
theorem two_pow : ∀ n, n ≤ 6 → (1 : Int32) <<< (nI n &&& 31) = nI (2 ^ n) := by decide +kernel
/-- the weight of the first k sets of gaps that ring -/
def lsF (I : mv_I) (o : Nat) (v : Int32) (n : Nat) (x : Int32) : Nat → Int64
  | 0 => 0
  | k + 1 => if awF v (nI k) n 0 (copyI I 370 o) = 0 then lsF I o v n x k else lsF I o v n x k + wgF (nI k) x n
def sp_lost : mv_SP := (fun as I _ => SH I ∧ ∃ s v n x u : Int32, as = [.ref 0, .int s, .int v, .int n, .int x, .int u],
  fun as I J r I' J' => J = J' ∧ trOk I I' ∧ ∀ s v n x u : Int32, as = [.ref 0, .int s, .int v, .int n, .int x, .int u] → r = some (.int (if sv I s then (if (0 ≤ v ∧ v ≤ 99) ∧ (1 ≤ n ∧ n ≤ 6) ∧ (0 ≤ x ∧ x ≤ 10) then (lowF (lsF I (scn s) v n.toNatClampNeg x (2 ^ n.toNatClampNeg)) (wgF 0 0 n.toNatClampNeg) u).toInt32 else -2) else -1)))
theorem in_nat1 {n : Int32} {M : Nat} (hM : M < 1000) (h : 1 ≤ n ∧ n ≤ nI M) : ∃ q : Nat, 1 ≤ q ∧ q ≤ M ∧ n = nI q := by
  have a1 := (fa_le _ _).mp h.1
  have a2 := (fa_le _ _).mp h.2
  have e1 : (1 : Int32).toInt = 1 := rfl
  rw [nI_toInt (by omega)] at a2
  refine ⟨n.toInt.toNat, by omega, by omega, ?_⟩
  rw [fa_eq, nI_toInt (by omega)]
  omega
theorem cb_lost : mv_body 66 mv_t_X6_lost (mv_cs [(25, sp_at), (84, sp_within), (50, sp_awg), (81, sp_weight), (67, sp_lowest)]) sp_lost := by
  intro as I J h
  obtain ⟨hS, s, v, n, x, u, rfl⟩ := h
  obtain ⟨m, hm, hs⟩ := SH_now hS
  refine ⟨rfl, mv_run_V (stop := [57]) 60 _ _ _ _ _ ?_⟩
  refine ⟨rfl, _, rfl, rfl, rfl, ⟨0, m, by decide, rfl, hm, hs⟩, fun r I1 J1 hp => ?_⟩
  obtain ⟨rfl, rfl, hr⟩ := hp
  rcases at_now hr with ⟨hv, rfl⟩ | ⟨hv, rfl⟩
  · exact ⟨rfl, trOk_rfl hS, fun s' v' n' x' u' e => by cases e; rw [if_neg hv]⟩
  · obtain ⟨j, hj, -, hjc⟩ := sv_in hS hv
    refine ⟨rfl, trivial, fun r I1 J1 hp => ?_⟩
    obtain ⟨rfl, rfl, rfl⟩ := hp
    refine ⟨fun h3 => ?_, fun h3 => ?_⟩
    · have h3 := mv_b0.mp h3
      exact ⟨rfl, trOk_rfl hS, fun s' v' n' x' u' e => by cases e; rw [if_pos hv, if_neg (fun z => h3 z.1)]⟩
    · have h3 := b_yes h3
      refine ⟨rfl, trivial, fun r I1 J1 hp => ?_⟩
      obtain ⟨rfl, rfl, rfl⟩ := hp
      refine ⟨fun h4 => ?_, fun h4 => ?_⟩
      · have h4 := mv_b0.mp h4
        exact ⟨rfl, trOk_rfl hS, fun s' v' n' x' u' e => by cases e; rw [if_pos hv, if_neg (fun z => h4 z.2.1)]⟩
      · have h4 := b_yes h4
        refine ⟨rfl, trivial, fun r I1 J1 hp => ?_⟩
        obtain ⟨rfl, rfl, rfl⟩ := hp
        refine ⟨fun h5 => ?_, fun h5 => ?_⟩
        · have h5 := b_yes h5
          obtain ⟨q, hq1, hq, rfl⟩ := in_nat1 (M := 6) (by decide) h4
          have hcq : (nI q).toNatClampNeg = q := nI_clamp (by omega)
          have h2q : 2 ^ q ≤ 64 := Nat.pow_le_pow_right (by decide) hq
          have h2p := two_pow q hq
          have key : ∀ r k : Nat, k + r = 2 ^ q → ∀ I1, trOk I I1 → mv_V mv_ow mv_swf mv_t_X6_lost (mv_cs [(25, sp_at), (84, sp_within), (50, sp_awg), (81, sp_weight), (67, sp_lowest)]) (sp_lost.2 [.ref 0, .int s, .int v, .int (nI q), .int x, .int u] I J) 57 [(0, .ref 0), (1, .int s), (2, .int v), (3, .int (nI q)), (4, .int x), (5, .int u), (6, .ref (scn s)), (7, .long (lsF I (scn s) v q x k)), (9, .int (nI k))] [] I1 J := by
            intro r
            induction r with
            | zero =>
              intro k hk I1 hI
              have hk : k = 2 ^ q := hk
              subst hk
              refine mv_run_V (stop := [57]) 40 _ _ _ _ _ ?_
              refine ⟨fun h1 => ?_, fun h1 => ?_⟩
              · refine ⟨rfl, ⟨q, 0, 0, by omega, rfl⟩, fun r1 I2 J2 hp => ?_⟩
                obtain ⟨rfl, rfl, rfl⟩ := hp
                refine ⟨rfl, trivial, fun r1 I2 J2 hp => ?_⟩
                obtain ⟨rfl, rfl, rfl⟩ := hp
                exact ⟨rfl, hI, fun s' v' n' x' u' e => by cases e; rw [if_pos hv, if_pos ⟨h3, h4, h5⟩, hcq]⟩
              · rw [h2p] at h1
                exact absurd h1 (nI_nlt (Nat.le_refl _) (by omega))
            | succ r ih =>
              intro k hk I1 hI
              refine mv_run_V (stop := [57]) 40 _ _ _ _ _ ?_
              refine ⟨fun h1 => ?_, fun h1 => ?_⟩
              · rw [h2p] at h1
                exact absurd (nI_lt (by omega) (by omega)) h1
              · refine ⟨rfl, rfl, ⟨trOk_SH hS hI, s.toNatClampNeg, v, nI k, q, by omega, by omega, rfl⟩, fun r1 I2 J2 hp => ?_⟩
                obtain ⟨rfl, hI2, hr⟩ := hp
                have hr : r1 = some (.int (awF v (nI k) (nI q).toNatClampNeg 0 (copyI I1 370 (scn s)))) := hr
                rw [copyI_tr (by omega) hI, hcq] at hr
                subst hr
                have h6 := ih (k + 1) (by omega) I2 (trOk_trans hI hI2)
                rw [nI_succ, lsF] at h6
                refine ⟨fun h7 => ?_, fun h7 => ?_⟩
                · rw [if_pos h7] at h6
                  exact h6
                · rw [if_neg h7] at h6
                  refine ⟨rfl, ⟨q, nI k, x, by omega, rfl⟩, fun r1 I3 J3 hp => ?_⟩
                  obtain ⟨rfl, rfl, rfl⟩ := hp
                  rw [hcq]
                  exact h6
          exact key (2 ^ q) 0 (Nat.zero_add _) I (trOk_rfl hS)
        · have h5 := mv_b0.mp h5
          exact ⟨rfl, trOk_rfl hS, fun s' v' n' x' u' e => by cases e; rw [if_pos hv, if_neg (fun z => h5 z.2.2)]⟩
theorem c_lost {l : Launch} {G : mv_G} {A : Nat → Prop} (hG : mv_adk G A) : mv_Con l G A 66 sp_lost := mv_con hG 66 mv_k_X6_lost (by decide +kernel) (mv_cs_cons (c_at hG) (mv_cs_cons (c_within hG) (mv_cs_cons (c_awg hG) (mv_cs_cons (c_weight hG) (mv_cs_cons (c_lowest hG) (mv_cs_nil)))))) cb_lost
def pcN (b : Nat) : Nat := b % 2 + b / 2 % 2 + b / 4 % 2 + b / 8 % 2 + b / 16 % 2
def sp_bitCount : mv_SP := (fun as _ _ => ∃ b : Nat, b < 32 ∧ as = [.int (nI b)],
  fun as I J r I' J' => I = I' ∧ J = J' ∧ match as with
    | [.int b] => r = some (.int (nI (pcN b.toNatClampNeg)))
    | _ => True)
def bcF (x : Int32) : Int32 :=
  let y := fun (a k : Int32) => (a.toUInt32 >>> (k.toUInt32 &&& Int32.toUInt32 31)).toInt32
  let a := x - (y x 1 &&& 1431655765)
  let b := (a &&& 858993459) + (y a 2 &&& 858993459)
  let c := (b + y b 4) &&& 252645135
  let d := c + y c 8
  let e := d + y d 16
  e &&& 63
theorem bcF_ok : ∀ b, b < 32 → bcF (nI b) = nI (pcN b) := by decide +kernel
theorem cb_bitCount : mv_body 149 mv_t_J6_bitCount_0f7a4 (mv_cs []) sp_bitCount := by
  intro as I J h
  obtain ⟨b, hb, rfl⟩ := h
  refine ⟨rfl, mv_run_V (stop := []) 90 _ _ _ _ _ ?_⟩
  refine ⟨rfl, rfl, ?_⟩
  show some (Value.int (bcF (nI b))) = some (Value.int (nI (pcN (nI b).toNatClampNeg)))
  rw [bcF_ok b hb, nI_clamp (by omega)]
theorem c_bitCount {l : Launch} {G : mv_G} {A : Nat → Prop} (hG : mv_adk G A) : mv_Con l G A 149 sp_bitCount := mv_con hG 149 mv_k_J6_bitCount_0f7a4 (by decide +kernel) (mv_cs_nil) cb_bitCount
