/-! The constructor of Charts. -/
theorem rf_hi {k : Nat} (h : 400 ≤ k) (j : Nat) : mv_rf k j = (match k % 2 with | 0 => (match j with | 0 => some (k + 1) | _ => none) | _ => (match Nat.blt j 5 with | true => some (100 + 15 * ((k - 401) / 2) + 3 * j) | false => none)) := by
  have hb : Nat.blt k 49 = false := by rw [Bool.eq_false_iff]; intro z; have := Nat.blt_eq.mp z; omega
  have hb2 : Nat.blt k 400 = false := by rw [Bool.eq_false_iff]; intro z; have := Nat.blt_eq.mp z; omega
  unfold mv_rf
  first | (rw [hb, hb2]; done) | (rw [hb, hb2]; rfl)
theorem rf_gr0 {g : Nat} (j : Nat) : mv_rf (400 + 2 * g) j = (match j with | 0 => some (400 + 2 * g + 1) | _ => none) := by
  rw [rf_hi (by omega), show (400 + 2 * g) % 2 = 0 by omega]
  rfl
theorem rf_gr {g j q : Nat} (h : mv_rf (400 + 2 * g) j = some q) : q = 401 + 2 * g := by
  rw [rf_gr0] at h
  split at h
  · have := Option.some.inj h
    omega
  · cases h
theorem rf_ga0 {g : Nat} (j : Nat) : mv_rf (401 + 2 * g) j = (match Nat.blt j 5 with | true => some (100 + 15 * ((401 + 2 * g - 401) / 2) + 3 * j) | false => none) := by
  rw [rf_hi (by omega), show (401 + 2 * g) % 2 = 1 by omega]
  rfl
theorem rf_ga {g j : Nat} : mv_rf (401 + 2 * g) j = if j < 5 then some (100 + 3 * (5 * g + j)) else none := by
  rw [rf_ga0]
  by_cases h : j < 5
  · have hb : Nat.blt j 5 = true := Nat.blt_eq.mpr h
    rw [hb, if_pos h]
    show some _ = some _
    congr 1
    omega
  · have hb : Nat.blt j 5 = false := by rw [Bool.eq_false_iff]; intro z; exact h (Nat.blt_eq.mp z)
    rw [hb, if_neg h]
/-- the cells of a group, but its head -/
def RG2 (g : Nat) (x : Nat) : Prop := x = 401 + 2 * g ∨ (100 + 15 * g ≤ x ∧ x < 115 + 15 * g)
theorem DO_group {D : va_G} {T : Nat → ClassId} {ids : List Nat} {ad : Nat → Nat} {E : Nat → va_E} {g qr : Nat} (hg : g < 18) (h0 : 400 + 2 * g ∈ ids) (h1 : 401 + 2 * g ∈ ids) (a1 : ad (401 + 2 * g) = qr) (e1 : E (401 + 2 * g) = .inl (T 11, (5, .inr (.inr (.inr (.inr (fun j => if j < 5 then some (ad (100 + 3 * (5 * g + j))) else none))))))) (e0 : E (400 + 2 * g) = .inr (2, [.ref qr, .int 0, .int 2620])) (hc : DO D T (fun x => 100 + 15 * g ≤ x ∧ x < 100 + 15 * g + 3 * 5) ids ad E) : DO D T (fun x => RG2 g x ∨ x = 400 + 2 * g) ids ad E := by
  intro x hx
  rcases hx with (rfl | ⟨b1, b2⟩) | rfl
  · refine ⟨h1, e1.trans ?_, fun j q hq => ?_⟩
    · have := mv_cell5 (G := (D, (ad, T))) (I := I00) (J := J00) (mv_lay_ga hg)
      unfold finE
      rw [this]
      congr 7
      funext j
      rw [rf_ga]
      by_cases h : j < 5
      · rw [if_pos h, if_pos h]
        rfl
      · rw [if_neg h, if_neg h]
        rfl
    · rw [rf_ga] at hq
      by_cases h : j < 5
      · rw [if_pos h] at hq
        cases hq
        exact (hc _ ⟨by omega, by omega⟩).1
      · rw [if_neg h] at hq
        cases hq
  · exact hc x ⟨b1, by omega⟩
  · refine ⟨h0, e0.trans ?_, fun j q hq => ?_⟩
    · rw [finE_obj (mv_lay_gr hg)]
      show _ = Sum.inr (2, [va_rf ((mv_rf (400 + 2 * g) 0).map ad), Value.int (I00 (400 + 2 * g) 1), Value.int (I00 (400 + 2 * g) 2)])
      have z1 : I00 (400 + 2 * g) 1 = 0 := I00_z (by omega) (by omega)
      have z2 : I00 (400 + 2 * g) 2 = 2620 := by
        unfold I00
        rw [if_neg (by omega), if_pos (by omega)]
      rw [mv_rf_gr hg, z1, z2]
      show _ = Sum.inr (2, [Value.ref (ad (401 + 2 * g)), .int 0, .int 2620])
      rw [a1]
    · rw [rf_gr hq]
      exact h1
section MVL
variable {p : Program} {l : Launch} {e : Env} {s : State} {m : MethodId} {args : Array Value} {below : List Frame} {meth : Method} {c : Code} {D : va_G} {T : Nat → ClassId} {A : Nat → Prop} {ids : List Nat} {ad : Nat → Nat} {E : Nat → va_E}
theorem charts_loop {g qr b0 : Nat} (hg : g < 18) (X : KX p s m args c cX2_init RX2 D T A s.heap) (hml : c.maxLocals = 2) (hr : meth.sig.returnType = none) (hlocks : meth.locks = false) (hb0 : ∀ q, b0 ≤ q → A q) (hsz : b0 ≤ s.heap.size) (hk0 : 400 + 2 * g ∈ ids) (hRg : ∀ x ∈ ids, ¬ RG2 g x) : ∀ r i, i + r = 5 → ∀ (ids1 : List Nat) (ad1 : Nat → Nat) (E1 : Nat → va_E) (H1 : Heap) (locs1 : List Loc) (ls : Array Slot), FR (fun x => x = 400 + 2 * g) ids ad E ids1 ad1 E1 → (∀ x ∈ ids1, x ∈ ids ∨ x = 401 + 2 * g ∨ (100 + 15 * g ≤ x ∧ x < 100 + 15 * g + 3 * i)) → DO D T (fun x => 100 + 15 * g ≤ x ∧ x < 100 + 15 * g + 3 * i) ids1 ad1 E1 → 401 + 2 * g ∈ ids1 → ad1 (401 + 2 * g) = qr → E1 (401 + 2 * g) = .inl (T 11, (5, .inr (.inr (.inr (.inr (fun j => if j < i then some (ad1 (100 + 3 * (5 * g + j))) else none)))))) → E1 (400 + 2 * g) = .inr (2, [.ref qr, .int 0, .int 2620]) → Wd D A ids1 ad1 E1 H1 → va_S A s.heap H1 locs1 → lv_has ls 2 [(1, .int (nI i)), (0, .ref (ad (400 + 2 * g)))] →
    W p l e (headSpec (kws yX2_init cX2_init 2) (krm 2 32 16 170)).room s m args below meth c H1 locs1 (1 + 3 * i) (5 + 33 * i) (MQ below (va_Qv (S := KU) (fun u => DN D T (RG2 g) (400 + 2 * g) ids ad E u.1 u.2.1 u.2.2) (fun u t => Wd D A u.1 u.2.1 u.2.2 t.heap) A) args s 16 170 A) (F0 m 26 ls []) := by
  intro r
  induction r with
  | zero =>
    intro i hi ids1 ad1 E1 H1 locs1 ls hF hm hDO m1 a1 e1 e0 hW hS hl
    have hi : i = 5 := hi
    subst hi
    refine lv_iload_n X.1 X.2.1 kd_X2_26 rfl (lv_at hl 0 rfl) ?_
    refine lv_iconst (v := 5) X.1 X.2.1 kd_X2_27 (by decide) ?_
    refine lv_icmp_ge (tgt := 50) X.1 X.2.1 kd_X2_28 (by decide) (fun hc => ?_) (fun hc => ?_)
    · exact k_end X hr hlocks kd_X2_50 hF (fun x hx => by
        rcases hm x hx with h | h | h
        · exact Or.inl h
        · exact Or.inr (Or.inl h)
        · exact Or.inr (Or.inr ⟨h.1, by omega⟩)) (DO_group hg (hF _ hk0).1 m1 a1 e1 e0 hDO) hW hS
    · exact absurd hc (by decide)
  | succ r ih =>
    intro i hi ids1 ad1 E1 H1 locs1 ls hF hm hDO m1 a1 e1 e0 hW hS hl
    have hi5 : i < 5 := by omega
    refine lv_iload_n X.1 X.2.1 kd_X2_26 rfl (lv_at hl 0 rfl) ?_
    refine lv_iconst (v := 5) X.1 X.2.1 kd_X2_27 (by decide) ?_
    refine lv_icmp_ge (tgt := 50) X.1 X.2.1 kd_X2_28 (by decide) (fun hc => ?_) (fun hc => ?_)
    · exact absurd ((nI_leI (a := 5) (by decide) (by omega)).mp hc) (by omega)
    · refine lv_aload_n X.1 X.2.1 kd_X2_31 rfl (lv_at hl 1 rfl) ?_
      refine k_get X (ci := 2) (k := 400 + 2 * g) (j := 0) (index := 11) (fs := [.ref qr, .int 0, .int 2620]) (v := .ref qr) (by decide) (hF _ hk0).2.1 (hF _ hk0).1 e0 (by decide) kf_X2_11 rfl rfl kd_X2_32 hW ?_
      refine lv_iload_n X.1 X.2.1 kd_X2_35 rfl (lv_at hl 0 rfl) ?_
      have hni : (nI i).toNatClampNeg = i := nI_clamp (by omega)
      have hrow : ∀ x ∈ ids, x ≠ 401 + 2 * g := fun x hx z => hRg x hx (Or.inl z)
      have hcs : ∀ x ∈ ids, ¬ (100 + 15 * g ≤ x ∧ x < 115 + 15 * g) := fun x hx z => hRg x hx (Or.inr z)
      refine k_elt X (kr := 401 + 2 * g) (k1 := 100 + 3 * (5 * g + i)) (ci1 := 1) (index := 9) (index2 := 24) (nL := 2) (y := yX1_init) (cd := cX1_init) (maxL := 1) (fr := 1) (lo := 12) (ce := 2) (sl := 17) (t0 := 11) (j0 := 3) (n := 5) (i := nI i) (Rg := fun x => x = 101 + 3 * (5 * g + i) ∨ x = 102 + 3 * (5 * g + i)) a1 m1 e1 rfl (vp_in_nI hi5 (by decide)) (by decide) (fun z => by
        rcases hm _ z with h | h | h
        · exact hcs _ h ⟨by omega, by omega⟩
        · omega
        · omega) kc_X2_9 ks_X1 kn_X1 hml hl.1 (kc_chart l (by omega)) hb0 hsz (fun x hx z => by
        rcases hm x hx with h | h | h
        · exact hcs x h (by omega)
        · omega
        · omega) (by omega) ⟨kb_X1, Or.inr ⟨RX6, List.mem_of_getElem? (i := 0) rfl⟩, ki_X1, kn_X1, rfl, ⟨by decide, by decide, rfl⟩, ⟨Nat.le_of_ble_eq_true rfl, Nat.le_of_ble_eq_true rfl⟩⟩ (mv_lay_ch (by omega)) ⟨by show 1 + 3 * i + (1 + 2) ≤ 16; omega, by show 5 + 33 * i + (16 + 17) ≤ 170; omega⟩ (Nat.le_of_ble_eq_true rfl) kd_X2_36 kd_X2_39 kd_X2_40 kd_X2_43 hW hS (fun q ids2 ad2 E2 H2 locs2 hF2 hm2 hDO2 a2 e2 hW hS => ?_)
      refine W.eq (g2 := F0 m 44 ls []) rfl ?_
      refine lv_iinc (v := nI (i + 1)) (lv' := [(1, .int (nI (i + 1))), (0, .ref (ad (400 + 2 * g)))]) X.1 X.2.1 kd_X2_44 hl (k := 0) rfl (nI_1 i) (by decide) rfl (fun ls hl => ?_)
      refine lv_goto (tgt := 26) X.1 X.2.1 kd_X2_47 (by decide) ?_
      have c1 : 1 + 3 * i + (1 + 2) = 1 + 3 * (i + 1) := by omega
      have c2 : 5 + 33 * i + (mv_nf 1 + 17) = 5 + 33 * (i + 1) := by
        show 5 + 33 * i + (16 + 17) = _
        omega
      rw [c1, c2]
      have hDOo := DO_FR hDO hF2 (fun x hx z => by omega)
      refine ih (i + 1) (by omega) ids2 ad2 E2 H2 locs2 ls (fun x hx => ?_) (fun x hx => ?_) (fun x hx => ?_) ((hF2 _ m1).1) (((hF2 _ m1).2.1).trans a1) (e2.trans ?_) (((hF2 _ (hF _ hk0).1).2.2 (by omega)).trans e0) hW hS hl
      · obtain ⟨f1, f2, f3⟩ := hF x hx
        obtain ⟨f4, f5, f6⟩ := hF2 x f1
        exact ⟨f4, f5.trans f2, fun z => (f6 (hrow x hx)).trans (f3 z)⟩
      · rcases hm2 x hx with h | h | h
        · rcases hm x h with h | h | h
          · exact Or.inl h
          · exact Or.inr (Or.inl h)
          · exact Or.inr (Or.inr ⟨h.1, by omega⟩)
        · exact Or.inr (Or.inr (by omega))
        · exact Or.inr (Or.inr (by omega))
      · by_cases h : x < 100 + 15 * g + 3 * i
        · exact hDOo x ⟨hx.1, h⟩
        · exact hDO2 x (by omega)
      · rw [hni]
        congr 7
        funext j
        by_cases hj : j = i
        · subst hj
          rw [up_eq, if_pos (by omega), ← a2]
        · rw [up_ne hj]
          by_cases hlt : j < i
          · rw [if_pos hlt, if_pos (by omega), (hF2 _ (hDO _ ⟨by omega, by omega⟩).1).2.1]
          · rw [if_neg hlt, if_neg (by omega)]
end MVL
theorem kc_group (l : Launch) {g : Nat} (hg : g < 18) : KC l yX2_init cX2_init 2 2 32 16 170 2 (400 + 2 * g) (RG2 g) := by
  intro D T A b0 ids ad E hb0 hk0 he hRg
  refine Met.ofW (cc := cX2_init) (maxL := 2) (ret := none) (by decide) rfl ?_
  intro p e s m args below meth c s₁ B hml hv
  obtain ⟨rfl, hsz, hW, hK, hN⟩ := hv
  have X : KX p s m ([Value.ref (ad (400 + 2 * g))] : List Value).toArray c cX2_init RX2 D T A s.heap := ⟨B.exec, B.bytes, findClass_of_methodNamed B.named, fun w hw => atoms_spec (ws := kws yX2_init cX2_init 2) B.pre w (List.mem_cons_of_mem _ hw), hK, hN, fun q h => hb0 q (Nat.le_trans hsz h)⟩
  have hr := B.returns
  have hlocks := B.notSynchronized
  have hin : meth.name = "<init>" := (name_of_methodNamed B.named B.method).1
  have hS : va_S A s.heap s.heap [] := va_S.rf
  have hl := lv_entry ([.ref (ad (400 + 2 * g))]) (n := 2) (Nat.le_of_ble_eq_true rfl)
  rw [lg_entry_eq]
  generalize (lg_sl ([.ref (ad (400 + 2 * g))]) ++ List.replicate (2 - (lg_sl ([.ref (ad (400 + 2 * g))])).length) Slot.unset).toArray = ls at hl ⊢
  have hl : lv_has ls 2 [(0, .ref (ad (400 + 2 * g)))] := hl
  refine lv_aload_n X.1 X.2.1 kd_X2_0 rfl (lv_at hl 0 rfl) ?_
  refine W.objInit X.1 X.2.1 X.2.2.1 (X.2.2.2.1 _ kl_X2_3) (X.2.2.2.1 _ ki_obj) (X.2.2.2.1 _ kb_obj) rfl (by rw [hml]; exact hl.1) rfl kd_X2_1 (Nat.le_of_ble_eq_true rfl) (Nat.le_of_ble_eq_true rfl) ?_
  refine W.eq (g2 := F0 m 4 ls []) rfl ?_
  refine lv_aload_n X.1 X.2.1 kd_X2_4 rfl (lv_at hl 0 rfl) ?_
  refine lv_iconst (v := 5) X.1 X.2.1 kd_X2_5 (by decide) ?_
  refine k_arr X hin (ci := 2) (k0 := 400 + 2 * g) (k1 := 401 + 2 * g) (j := 0) (index := 11) (index2 := 9) (fs := mv_zf 2) (C := RX1) (t0 := 11) (j0 := 3) (N' := 5) (n := 5) rfl (by decide) rfl hk0 he rfl (fun z => hRg _ z (Or.inl rfl)) rfl kc_X2_9 (List.mem_of_getElem? (i := 5) rfl) (by decide) rfl (Nat.le_of_ble_eq_true rfl) (Nat.le_of_ble_eq_true rfl) (Nat.le_of_ble_eq_true rfl) kd_X2_6 (by decide) kf_X2_11 rfl rfl (fun _ => rfl) (fun _ => rfl) kd_X2_9 hW hS (fun q ids1 ad1 E1 H1 locs1 hF hm m1 a1 e1 e0 hW hS => ?_)
  refine W.eq (g2 := F0 m 12 ls []) rfl ?_
  obtain ⟨g1, g2, g3⟩ := hF _ hk0
  refine lv_aload_n X.1 X.2.1 kd_X2_12 rfl (lv_at hl 0 rfl) ?_
  refine lv_iconst (v := 0) X.1 X.2.1 kd_X2_13 (by decide) ?_
  refine k_put X (ci := 2) (k := 400 + 2 * g) (j := 1) (index := 17) (fs := (mv_zf 2).set 0 (.ref q)) (v := .int 0) (by decide) g2 g1 e0 (by decide) rfl kf_X2_17 rfl rfl rfl rfl kd_X2_14 hW hS (fun H2 locs2 hW hS => ?_)
  refine lv_aload_n X.1 X.2.1 kd_X2_17 rfl (lv_at hl 0 rfl) ?_
  refine lv_sipush (v := 2620) X.1 X.2.1 kd_X2_18 (by decide) ?_
  refine k_put X (ci := 2) (k := 400 + 2 * g) (j := 2) (index := 21) (fs := ((mv_zf 2).set 0 (.ref q)).set 1 (.int 0)) (v := .int 2620) (by decide) g2 g1 up_eq (by decide) rfl kf_X2_21 rfl rfl rfl rfl kd_X2_21 hW hS (fun H3 locs3 hW hS => ?_)
  refine lv_iconst (v := 0) X.1 X.2.1 kd_X2_24 (by decide) ?_
  refine lv_istore_n (lv' := [(1, .int (nI 0)), (0, .ref (ad (400 + 2 * g)))]) X.1 X.2.1 kd_X2_25 rfl hl (by decide) rfl (fun ls hl => ?_)
  have hne : 401 + 2 * g ≠ 400 + 2 * g := by omega
  refine charts_loop hg X hml hr hlocks hb0 hsz hk0 hRg 5 0 rfl ids1 ad1 _ H3 locs3 ls (fun x hx => ?_) (fun x hx => ?_) (fun x hx => absurd hx (by omega)) m1 a1 (((up_ne hne).trans (up_ne hne)).trans (e1.trans ?_)) up_eq hW hS hl
  · obtain ⟨f1, f2, f3⟩ := hF x hx
    exact ⟨f1, f2, fun z => ((up_ne z).trans (up_ne z)).trans (f3 z)⟩
  · rcases hm x hx with h | h
    · exact Or.inl h
    · exact Or.inr (Or.inl h)
  · congr 7
