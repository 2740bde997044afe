/-! Statements and simulations: they run on the group 17. -/
/-- all cells but those of the group 17 are as they were -/
def tgOk (I I' : mv_I) : Prop := (∀ a, a ≠ 434 → (a < 355 ∨ 370 ≤ a) → I' a = I a) ∧ (∃ m : Nat, m ≤ 5 ∧ I' 434 1 = nI m) ∧ ∀ i : Nat, i < 5 → ∃ k : Nat, k ≤ 12 ∧ I' (100 + 3 * (85 + i)) 15 = nI k
theorem tgOk_SH {I I' : mv_I} (hS : SH I) (h : tgOk I I') : SH I' := by
  obtain ⟨h1, h2, h3⟩ := h
  refine ⟨fun g hg => ?_, fun c hc => ?_, ?_, ?_, ?_, ?_, fun i hi => ?_⟩
  · by_cases hg' : g = 17
    · subst hg'
      exact h2
    · rw [h1 _ (by omega) (by omega)]
      exact hS.1 g hg
  · by_cases h9 : 85 ≤ c ∧ c < 90
    · obtain ⟨i, rfl⟩ : ∃ i, c = 85 + i := ⟨c - 85, by omega⟩
      exact h3 i (by omega)
    · rw [h1 _ (by omega) (by omega)]
      exact hS.2.1 c hc
  · rw [h1 3 (by decide) (by decide)]
    exact hS.2.2.1
  · rw [h1 3 (by decide) (by decide)]
    exact hS.2.2.2.1
  · rw [h1 1 (by decide) (by decide)]
    exact hS.2.2.2.2.1
  · rw [h1 0 (by decide) (by decide)]
    exact hS.2.2.2.2.2.1
  · rw [h1 (8 + i) (by omega) (by omega)]
    exact hS.2.2.2.2.2.2 i hi
theorem tgOk_rfl {I : mv_I} (hS : SH I) : tgOk I I := ⟨fun _ _ _ => rfl, hS.1 17 (by decide), fun i hi => hS.2.1 (85 + i) (by omega)⟩
theorem copyI_15 {I : mv_I} {o q : Nat} : copyI I o q o 15 = I q 15 := by
  unfold copyI
  rw [mv_sr_ap, if_pos rfl, if_pos (by decide)]
theorem grpN_k {I : mv_I} (hS : SH I) {g : Nat} (hg : g < 18) (hg0 : g ≠ 0) : ∀ k, k ≤ 5 → ∀ c, c < 91 → ∃ n : Nat, n ≤ 12 ∧ grpN g 0 I k (100 + 3 * c) 15 = nI n
  | 0, _ => fun c hc => by
    unfold grpN
    rw [mv_si_ap, if_neg (by omega), mv_si_ap, if_neg (by omega)]
    exact hS.2.1 c hc
  | k + 1, hk => fun c hc => by
    unfold grpN
    by_cases hc2 : c = 5 * g + k
    · subst hc2
      rw [copyI_15]
      exact grpN_k hS hg hg0 k (by omega) _ (by omega)
    · rw [copyI_ne (by omega) (by omega) (by omega)]
      exact grpN_k hS hg hg0 k (by omega) c hc
theorem grpN_sz {I : mv_I} {g h : Nat} (hg : g < 18) : ∀ k, k ≤ 5 → grpN g h I k (400 + 2 * g) 1 = I (400 + 2 * h) 1
  | 0, _ => by
    unfold grpN
    rw [mv_si_ap, if_neg (by omega), mv_si_ap, if_pos ⟨rfl, rfl⟩]
  | k + 1, hk => by
    unfold grpN
    rw [copyI_ne (by omega) (by omega) (by omega)]
    exact grpN_sz hg k (by omega)
theorem tgOk_grp {I : mv_I} (hS : SH I) {m : Nat} (hm : m ≤ 5) : tgOk I (grpN 17 0 I m) := by
  refine ⟨fun a h0 h1 => grpN_ne I h0 (by omega) m hm, ?_, fun i hi => grpN_k hS (by decide) (by decide) m hm _ (by omega)⟩
  have h := grpN_sz (I := I) (g := 17) (h := 0) (by decide) m hm
  obtain ⟨m', hm', e⟩ := SH_now hS
  exact ⟨m', hm', h.trans e⟩
theorem tgOk_add {I I' : mv_I} (h : tgOk I I') {i : Nat} (hi : i < 5) (v : Int32) : tgOk I (addI I' (100 + 3 * (85 + i)) v) := by
  refine ⟨fun a h0 h1 => (addI_ne (by omega) (by omega)).trans (h.1 a h0 h1), ?_, fun k hk => ?_⟩
  · rw [addI_ne (by omega) (by omega)]
    exact h.2.1
  · by_cases hki : k = i
    · subst hki
      exact addI_k (h.2.2 k hk)
    · rw [addI_ne (by omega) (by omega)]
      exact h.2.2 k hk
theorem appI_ne {I : mv_I} {o a : Nat} {v : Int32} (h0 : a ≠ o) (h2 : a ≠ o + 2) : appI I o v a = I a := by
  unfold appI
  rw [mv_sr_ne h0, mv_sr_ne h2]
theorem tgOk_app {I I' : mv_I} (h : tgOk I I') {i : Nat} (hi : i < 5) (v : Int32) : tgOk I (appI I' (100 + 3 * (85 + i)) v) := by
  refine ⟨fun a h0 h1 => (appI_ne (by omega) (by omega)).trans (h.1 a h0 h1), ?_, fun k hk => ?_⟩
  · rw [appI_ne (by omega) (by omega)]
    exact h.2.1
  · by_cases hki : k = i
    · subst hki
      exact appI_k (h.2.2 k hk)
    · rw [appI_ne (by omega) (by omega)]
      exact h.2.2 k hk
theorem tgOk_drop {I I' : mv_I} (h : tgOk I I') {i : Nat} (hi : i < 5) : tgOk I (dropI I' (100 + 3 * (85 + i))) := by
  unfold dropI
  refine ⟨fun a h0 h1 => by rw [mv_si_ne (by omega), mv_si_ne (by omega)]; exact h.1 a h0 h1, ?_, fun k hk => ?_⟩
  · rw [mv_si_ne (by omega), mv_si_ne (by omega)]
    exact h.2.1
  · rw [mv_si_ap, if_neg (by omega), mv_si_ap, if_neg (by omega)]
    exact h.2.2 k hk
theorem tgOk_nn {I I' : mv_I} (h : tgOk I I') {i : Nat} (hi : i < 5) : ¬ I' (100 + 3 * (85 + i)) 15 < 0 := by
  obtain ⟨k, hk, e⟩ := h.2.2 i hi
  rw [e]
  exact nI_pos (by omega)
/-- a statement of the kind h, of the series s, with the value v: what becomes of the group, and whether it holds -/
def stI (h s v : Nat) (I : mv_I) : mv_I := if (I 434 1).toNatClampNeg ≤ s then I else if h = 1 then addI I (100 + 3 * (85 + s)) (nI v) else if h = 2 then appI I (100 + 3 * (85 + s)) (-9) else if h = 3 then dropI I (100 + 3 * (85 + s)) else I
def stB (h s v : Nat) (I : mv_I) : Int32 := if (I 434 1).toNatClampNeg ≤ s then 0 else if h = 1 then 1 else if h = 2 then mv_b (v = 0) else if h = 3 then mv_b (v = 0) else if h = 4 then mv_b (I (100 + 3 * (85 + s)) 8 = nI v) else if h = 5 then mv_b (I (100 + 3 * (85 + s)) 9 = nI v) else if h = 6 then mv_b (I (100 + 3 * (85 + s)) 11 = nI v) else if h = 7 then mv_b (exF I (100 + 3 * (85 + s)) (I (100 + 3 * (85 + s)) 7) = nI v) else 0
def sp_stands : mv_SP := (fun as I _ => (∃ m : Nat, m ≤ 5 ∧ I 434 1 = nI m) ∧ (∀ i : Nat, i < 5 → ¬ I (100 + 3 * (85 + i)) 15 < 0) ∧ ∃ d : Nat, d < 10000 ∧ as = [.ref 0, .int (nI d)],
  fun as I J r I' J' => J = J' ∧ match as with
    | [_, .int d] => r = some (.int (stB (d.toNatClampNeg / 1000) (d.toNatClampNeg / 100 % 10) (d.toNatClampNeg % 100) I)) ∧ I' = stI (d.toNatClampNeg / 1000) (d.toNatClampNeg / 100 % 10) (d.toNatClampNeg % 100) I
    | _ => True)
theorem cb_stands : mv_body 76 mv_t_X6_stands (mv_cs [(25, sp_at), (5, sp_addCount), (7, sp_addGap), (13, sp_dropSums), (14, sp_expectation)]) sp_stands := by
  intro as I J h
  obtain ⟨⟨m, hm, hs⟩, hn, d, hd, rfl⟩ := h
  have hcd : (nI d).toNatClampNeg = d := nI_clamp (by omega)
  have hcm : (I 434 1).toNatClampNeg = m := by rw [hs]; exact nI_clamp (by omega)
  have q1 : nI d - nI d / 100 * 100 = nI (d % 100) := pk_rem (d := 100) (by omega) (by decide) (by decide)
  have q2 : nI d / 100 = nI (d / 100) := pk_div (d := 100) (by omega) (by decide) (by decide)
  have q3 : nI (d / 100) - nI (d / 100) / 10 * 10 = nI (d / 100 % 10) := pk_rem (d := 10) (by omega) (by decide) (by decide)
  have q4 : nI d / 1000 = nI (d / 1000) := pk_div (d := 1000) (by omega) (by decide) (by decide)
  have e1 : ¬ (100 : Int32) = 0 := by decide
  have e2 : ¬ (1000 : Int32) = 0 := by decide
  refine ⟨rfl, mv_run_V (stop := [26]) 30 _ _ _ _ _ ?_⟩
  refine ⟨e1, rfl, _, rfl, e1, mv_nz10, ?_⟩
  rw [q1, q2, q3]
  refine ⟨rfl, rfl, ⟨17, m, by decide, rfl, hm, hs⟩, fun r1 I1 J1 hp => ?_⟩
  obtain ⟨rfl, rfl, hr⟩ := hp
  have hr := hr 17 rfl
  have hs' : d / 100 % 10 < 10 := Nat.mod_lt _ (by decide)
  by_cases hv : m ≤ d / 100 % 10
  · rw [if_neg (fun z => by
      rw [hs] at z
      obtain ⟨j, hj, e⟩ := mv_upto (m := m) (by omega) z.1 z.2
      have := (nI_eq (by omega) (by omega)).mp e
      omega)] at hr
    subst hr
    refine ⟨Or.inl rfl, rfl, ?_, ?_⟩
    · unfold stB
      rw [hcd, hcm, if_pos hv]
    · unfold stI
      rw [hcd, hcm, if_pos hv]
  · have hv2 : d / 100 % 10 < m := by omega
    have hc5 : d / 100 % 10 < 5 := by omega
    rw [hs, if_pos (mv_upto2 (by omega) hv2), nI_clamp (by omega)] at hr
    subst hr
    have hn := hn _ hc5
    have fin : ∀ (z : Int32) (I1 : mv_I), z = stB (d / 1000) (d / 100 % 10) (d % 100) I → I1 = stI (d / 1000) (d / 100 % 10) (d % 100) I → sp_stands.2 [.ref 0, .int (nI d)] I J (some (.int z)) I1 J := by
      intro z I1 h1 h2
      refine ⟨rfl, ?_, ?_⟩
      · rw [hcd, h1]
      · rw [hcd, h2]
    have uB : stB (d / 1000) (d / 100 % 10) (d % 100) I = (if d / 1000 = 1 then 1 else if d / 1000 = 2 then mv_b (d % 100 = 0) else if d / 1000 = 3 then mv_b (d % 100 = 0) else if d / 1000 = 4 then mv_b (I (100 + 3 * (85 + d / 100 % 10)) 8 = nI (d % 100)) else if d / 1000 = 5 then mv_b (I (100 + 3 * (85 + d / 100 % 10)) 9 = nI (d % 100)) else if d / 1000 = 6 then mv_b (I (100 + 3 * (85 + d / 100 % 10)) 11 = nI (d % 100)) else if d / 1000 = 7 then mv_b (exF I (100 + 3 * (85 + d / 100 % 10)) (I (100 + 3 * (85 + d / 100 % 10)) 7) = nI (d % 100)) else 0) := by
      unfold stB
      rw [hcm, if_neg hv]
    have uI : stI (d / 1000) (d / 100 % 10) (d % 100) I = (if d / 1000 = 1 then addI I (100 + 3 * (85 + d / 100 % 10)) (nI (d % 100)) else if d / 1000 = 2 then appI I (100 + 3 * (85 + d / 100 % 10)) (-9) else if d / 1000 = 3 then dropI I (100 + 3 * (85 + d / 100 % 10)) else I) := by
      unfold stI
      rw [hcm, if_neg hv]
    have en : ∀ {k : Nat}, k < 10 → (nI (d / 1000) = nI k ↔ d / 1000 = k) := fun h => nI_eq (by omega) (by omega)
    have ev : nI (d % 100) = 0 ↔ d % 100 = 0 := nI_eq (a := d % 100) (b := 0) (by omega) (by decide)
    have lay := mv_lay_ch (c := 85 + d / 100 % 10) (by omega)
    have step : mv_V mv_ow mv_swf mv_t_X6_stands (mv_cs [(25, sp_at), (5, sp_addCount), (7, sp_addGap), (13, sp_dropSums), (14, sp_expectation)]) (sp_stands.2 [.ref 0, .int (nI d)] I J) 26 [(0, .ref 0), (1, .int (nI d)), (2, .int (nI (d % 100))), (3, .ref (100 + 3 * (85 + d / 100 % 10)))] [] I J := by
      refine mv_run_V (stop := []) 30 _ _ _ _ _ ?_
      refine ⟨e2, ?_⟩
      rw [q4]
      refine ⟨fun h2 => ?_, fun h2 => ?_⟩
      · have h2 := (en (k := 1) (by decide)).mp h2
        refine ⟨rfl, lay, ⟨85 + d / 100 % 10, by omega, rfl, hn⟩, fun r1 I1 J1 hp => ?_⟩
        obtain ⟨rfl, rfl, rfl⟩ := hp
        refine ⟨rfl, Or.inr rfl, fin _ _ ?_ ?_⟩
        · rw [uB, if_pos h2]
        · rw [uI, if_pos h2]
      have h2 : ¬ d / 1000 = 1 := fun z => h2 ((en (k := 1) (by decide)).mpr z)
      refine ⟨fun h3 => ?_, fun h3 => ?_⟩
      · have h3 := (en (k := 2) (by decide)).mp h3
        refine ⟨rfl, lay, ⟨85 + d / 100 % 10, by omega, rfl, hn⟩, fun r1 I1 J1 hp => ?_⟩
        obtain ⟨rfl, rfl, rfl⟩ := hp
        refine ⟨fun h4 => ?_, fun h4 => ?_⟩
        · refine ⟨Or.inl rfl, fin _ _ ?_ ?_⟩
          · rw [uB, if_neg h2, if_pos h3, mv_bf (fun z => h4 (ev.mpr z))]
          · rw [uI, if_neg h2, if_pos h3]
        · refine ⟨Or.inr rfl, fin _ _ ?_ ?_⟩
          · rw [uB, if_neg h2, if_pos h3, mv_bt (ev.mp h4)]
          · rw [uI, if_neg h2, if_pos h3]
      have h3 : ¬ d / 1000 = 2 := fun z => h3 ((en (k := 2) (by decide)).mpr z)
      refine ⟨fun h5 => ?_, fun h5 => ?_⟩
      · have h5 := (en (k := 3) (by decide)).mp h5
        refine ⟨rfl, lay, ⟨85 + d / 100 % 10, by omega, rfl⟩, fun r1 I1 J1 hp => ?_⟩
        obtain ⟨rfl, rfl, rfl⟩ := hp
        refine ⟨fun h4 => ?_, fun h4 => ?_⟩
        · refine ⟨Or.inl rfl, fin _ _ ?_ ?_⟩
          · rw [uB, if_neg h2, if_neg h3, if_pos h5, mv_bf (fun z => h4 (ev.mpr z))]
          · rw [uI, if_neg h2, if_neg h3, if_pos h5]
        · refine ⟨Or.inr rfl, fin _ _ ?_ ?_⟩
          · rw [uB, if_neg h2, if_neg h3, if_pos h5, mv_bt (ev.mp h4)]
          · rw [uI, if_neg h2, if_neg h3, if_pos h5]
      have h5 : ¬ d / 1000 = 3 := fun z => h5 ((en (k := 3) (by decide)).mpr z)
      rw [if_neg h2, if_neg h3, if_neg h5] at uI
      rw [if_neg h2, if_neg h3, if_neg h5] at uB
      refine ⟨fun h6 => ?_, fun h6 => ?_⟩
      · have h6 := (en (k := 4) (by decide)).mp h6
        rw [if_pos h6] at uB
        refine ⟨lay, fun h4 => ?_, fun h4 => ?_⟩
        · exact ⟨Or.inl rfl, fin _ _ (by rw [uB, mv_bf h4]) uI.symm⟩
        · exact ⟨Or.inr rfl, fin _ _ (by rw [uB, mv_bt h4]) uI.symm⟩
      have h6 : ¬ d / 1000 = 4 := fun z => h6 ((en (k := 4) (by decide)).mpr z)
      rw [if_neg h6] at uB
      refine ⟨fun h7 => ?_, fun h7 => ?_⟩
      · have h7 := (en (k := 5) (by decide)).mp h7
        rw [if_pos h7] at uB
        refine ⟨lay, fun h4 => ?_, fun h4 => ?_⟩
        · exact ⟨Or.inl rfl, fin _ _ (by rw [uB, mv_bf h4]) uI.symm⟩
        · exact ⟨Or.inr rfl, fin _ _ (by rw [uB, mv_bt h4]) uI.symm⟩
      have h7 : ¬ d / 1000 = 5 := fun z => h7 ((en (k := 5) (by decide)).mpr z)
      rw [if_neg h7] at uB
      refine ⟨fun h8 => ?_, fun h8 => ?_⟩
      · have h8 := (en (k := 6) (by decide)).mp h8
        rw [if_pos h8] at uB
        refine ⟨lay, fun h4 => ?_, fun h4 => ?_⟩
        · exact ⟨Or.inl rfl, fin _ _ (by rw [uB, mv_bf h4]) uI.symm⟩
        · exact ⟨Or.inr rfl, fin _ _ (by rw [uB, mv_bt h4]) uI.symm⟩
      have h8 : ¬ d / 1000 = 6 := fun z => h8 ((en (k := 6) (by decide)).mpr z)
      rw [if_neg h8] at uB
      refine ⟨fun h9 => ?_, fun h9 => ?_⟩
      · have h9 := (en (k := 7) (by decide)).mp h9
        rw [if_pos h9] at uB
        refine ⟨rfl, lay, ⟨85 + d / 100 % 10, by omega, rfl⟩, fun r1 I1 J1 hp => ?_⟩
        obtain ⟨rfl, rfl, rfl⟩ := hp
        refine ⟨fun h4 => ?_, fun h4 => ?_⟩
        · exact ⟨Or.inl rfl, fin _ _ (by rw [uB, mv_bf h4]) uI.symm⟩
        · exact ⟨Or.inr rfl, fin _ _ (by rw [uB, mv_bt h4]) uI.symm⟩
      have h9 : ¬ d / 1000 = 7 := fun z => h9 ((en (k := 7) (by decide)).mpr z)
      rw [if_neg h9] at uB
      exact ⟨Or.inl rfl, fin _ _ uB.symm uI.symm⟩
    exact step
theorem c_stands {l : Launch} {G : mv_G} {A : Nat → Prop} (hG : mv_adk G A) : mv_Con l G A 76 sp_stands := mv_con hG 76 mv_k_X6_stands (by decide +kernel) (mv_cs_cons (c_at hG) (mv_cs_cons (c_addCount hG) (mv_cs_cons (c_addGap hG) (mv_cs_cons (c_dropSums hG) (mv_cs_cons (c_expectation hG) (mv_cs_nil)))))) cb_stands
