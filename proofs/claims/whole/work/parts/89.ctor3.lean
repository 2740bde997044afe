/-! The constructor of Acts. -/
def RG0 (x : Nat) : Prop := x = 4 ∨ (115 ≤ x ∧ x < 325) ∨ (402 ≤ x ∧ x < 430)
def RGi (i x : Nat) : Prop := (115 ≤ x ∧ x < 115 + 15 * i) ∨ (402 ≤ x ∧ x < 402 + 2 * i)
theorem rf_4 (j : Nat) : mv_rf 4 j = if j < 14 then some (402 + 2 * j) else none := by
  show (match Nat.blt j 14 with | true => some (402 + 2 * j) | false => none) = _
  by_cases h : j < 14
  · have hb : Nat.blt j 14 = true := Nat.blt_eq.mpr h
    rw [hb, if_pos h]
  · have hb : Nat.blt j 14 = false := by rw [Bool.eq_false_iff]; intro z; exact h (Nat.blt_eq.mp z)
    rw [hb, if_neg h]
theorem DO_acts {D : va_G} {T : Nat → ClassId} {ids : List Nat} {ad : Nat → Nat} {E : Nat → va_E} {qr : Nat} (h0 : 3 ∈ ids) (h1 : 4 ∈ ids) (a1 : ad 4 = qr) (e1 : E 4 = .inl (T 12, (14, .inr (.inr (.inr (.inr (fun j => if j < 14 then some (ad (402 + 2 * j)) else none))))))) (e0 : E 3 = .inr (0, [.ref qr, .int 0, .int 0])) (hc : DO D T (RGi 14) ids ad E) : DO D T (fun x => RG0 x ∨ x = 3) ids ad E := by
  intro x hx
  rcases hx with (rfl | b1) | rfl
  · refine ⟨h1, e1.trans ?_, fun j q hq => ?_⟩
    · have := mv_cell5 (G := (D, (ad, T))) (I := I00) (J := J00) (k := 4) (n := 14) (t := 2) rfl
      unfold finE
      rw [this]
      congr 7
      funext j
      rw [rf_4]
      by_cases h : j < 14
      · rw [if_pos h, if_pos h]
        rfl
      · rw [if_neg h, if_neg h]
        rfl
    · rw [rf_4] at hq
      by_cases h : j < 14
      · rw [if_pos h] at hq
        cases hq
        exact (hc _ (Or.inr ⟨by omega, by omega⟩)).1
      · rw [if_neg h] at hq
        cases hq
  · exact hc x (b1.elim (fun h => Or.inl ⟨h.1, by omega⟩) (fun h => Or.inr ⟨h.1, by omega⟩))
  · refine ⟨h0, e0.trans ?_, fun j q hq => ?_⟩
    · rw [finE_obj (ci := 0) rfl]
      show _ = Sum.inr (0, [Value.ref (ad 4), Value.int (I00 3 1), Value.int (I00 3 2)])
      rw [I00_z (by omega) (by omega), I00_z (by omega) (by omega), a1]
    · match j with
      | 0 => cases hq; exact h1
      | j + 1 => cases hq
section MVL
variable {p : Program} {l : Launch} {e : Env} {s : State} {m : MethodId} {args : Array Value} {below : List Frame} {meth : Method} {c : Code} {D : va_G} {T : Nat → ClassId} {A : Nat → Prop} {ids : List Nat} {ad : Nat → Nat} {E : Nat → va_E}
theorem acts_loop {qr b0 : Nat} (X : KX p s m args c cX0_init RX0 D T A s.heap) (hml : c.maxLocals = 2) (hr : meth.sig.returnType = none) (hlocks : meth.locks = false) (hb0 : ∀ q, b0 ≤ q → A q) (hsz : b0 ≤ s.heap.size) (hk0 : 3 ∈ ids) (hRg : ∀ x ∈ ids, ¬ RG0 x) : ∀ r i, i + r = 14 → ∀ (ids1 : List Nat) (ad1 : Nat → Nat) (E1 : Nat → va_E) (H1 : Heap) (locs1 : List Loc) (ls : Array Slot), FR (fun x => x = 3) ids ad E ids1 ad1 E1 → (∀ x ∈ ids1, x ∈ ids ∨ x = 4 ∨ RGi i x) → DO D T (RGi i) ids1 ad1 E1 → 4 ∈ ids1 → ad1 4 = qr → E1 4 = .inl (T 12, (14, .inr (.inr (.inr (.inr (fun j => if j < i then some (ad1 (402 + 2 * j)) else none)))))) → E1 3 = .inr (0, [.ref qr, .int 0, .int 0]) → Wd D A ids1 ad1 E1 H1 → va_S A s.heap H1 locs1 → lv_has ls 2 [(1, .int (nI i)), (0, .ref (ad 3))] →
    W p l e (headSpec (kws yX0_init cX0_init 2) (krm 3 53 239 2436)).room s m args below meth c H1 locs1 (1 + 17 * i) (14 + 173 * i) (MQ below (va_Qv (S := KU) (fun u => DN D T RG0 3 ids ad E u.1 u.2.1 u.2.2) (fun u t => Wd D A u.1 u.2.1 u.2.2 t.heap) A) args s 239 2436 A) (F0 m 25 ls []) := by
  intro r
  induction r with
  | zero =>
    intro i hi ids1 ad1 E1 H1 locs1 ls hF hm hDO m1 a1 e1 e0 hW hS hl
    have hi : i = 14 := hi
    subst hi
    refine lv_iload_n X.1 X.2.1 kd_X0_25 rfl (lv_at hl 0 rfl) ?_
    refine lv_bipush (v := 14) X.1 X.2.1 kd_X0_26 (by decide) ?_
    refine lv_icmp_ge (tgt := 50) X.1 X.2.1 kd_X0_28 (by decide) (fun hc => ?_) (fun hc => ?_)
    · exact k_end X hr hlocks kd_X0_50 hF (fun x hx => by
        rcases hm x hx with h | h | h | h
        · exact Or.inl h
        · exact Or.inr (Or.inl h)
        · exact Or.inr (Or.inr (Or.inl ⟨h.1, by omega⟩))
        · exact Or.inr (Or.inr (Or.inr ⟨h.1, by omega⟩))) (DO_acts (hF _ hk0).1 m1 a1 e1 e0 hDO) hW hS
    · exact absurd hc (by decide)
  | succ r ih =>
    intro i hi ids1 ad1 E1 H1 locs1 ls hF hm hDO m1 a1 e1 e0 hW hS hl
    have hi5 : i < 14 := by omega
    refine lv_iload_n X.1 X.2.1 kd_X0_25 rfl (lv_at hl 0 rfl) ?_
    refine lv_bipush (v := 14) X.1 X.2.1 kd_X0_26 (by decide) ?_
    refine lv_icmp_ge (tgt := 50) X.1 X.2.1 kd_X0_28 (by decide) (fun hc => ?_) (fun hc => ?_)
    · exact absurd ((nI_leI (a := 14) (by decide) (by omega)).mp hc) (by omega)
    · refine lv_aload_n X.1 X.2.1 kd_X0_31 rfl (lv_at hl 1 rfl) ?_
      refine k_get X (ci := 0) (k := 3) (j := 0) (index := 11) (fs := [.ref qr, .int 0, .int 0]) (v := .ref qr) (by decide) (hF _ hk0).2.1 (hF _ hk0).1 e0 (by decide) kf_X0_11 rfl rfl kd_X0_32 hW ?_
      refine lv_iload_n X.1 X.2.1 kd_X0_35 rfl (lv_at hl 0 rfl) ?_
      have hni : (nI i).toNatClampNeg = i := nI_clamp (by omega)
      have hrow : ∀ x ∈ ids, x ≠ 4 := fun x hx z => hRg x hx (Or.inl z)
      have hcs : ∀ x ∈ ids, ¬ ((115 ≤ x ∧ x < 325) ∨ (402 ≤ x ∧ x < 430)) := fun x hx z => hRg x hx (Or.inr z)
      have hnew : ∀ x ∈ ids1, ¬ (x = 402 + 2 * i ∨ x = 403 + 2 * i ∨ (115 + 15 * i ≤ x ∧ x < 130 + 15 * i)) := fun x hx z => by
        rcases hm x hx with h | h | h | h
        · exact hcs x h (by omega)
        · omega
        · omega
        · omega
      refine k_elt X (kr := 4) (k1 := 400 + 2 * (1 + i)) (ci1 := 2) (index := 9) (index2 := 22) (nL := 2) (y := yX2_init) (cd := cX2_init) (maxL := 2) (fr := 2) (lo := 32) (ce := 16) (sl := 170) (t0 := 12) (j0 := 4) (n := 14) (i := nI i) (Rg := RG2 (1 + i)) a1 m1 e1 rfl (vp_in_nI hi5 (by decide)) (by decide) (fun z => hnew _ z (by omega)) kc_X0_9 ks_X2 kn_X2 hml hl.1 (kc_group l (by omega)) hb0 hsz (fun x hx z => hnew x hx (by
        rcases z with z | z
        · omega
        · omega)) (fun z => by
        rcases z with z | z
        · omega
        · omega) ⟨kb_X2, Or.inl kl_X0_22, ki_X2, kn_X2, rfl, ⟨by decide, by decide, rfl⟩, ⟨Nat.le_of_ble_eq_true rfl, Nat.le_of_ble_eq_true rfl⟩⟩ (mv_lay_gr (by omega)) ⟨by show 1 + 17 * i + (1 + 16) ≤ 239; omega, by show 14 + 173 * i + (3 + 170) ≤ 2436; omega⟩ (Nat.le_of_ble_eq_true rfl) kd_X0_36 kd_X0_39 kd_X0_40 kd_X0_43 hW hS (fun q ids2 ad2 E2 H2 locs2 hF2 hm2 hDO2 a2 e2 hW hS => ?_)
      refine W.eq (g2 := F0 m 44 ls []) rfl ?_
      refine lv_iinc (v := nI (i + 1)) (lv' := [(1, .int (nI (i + 1))), (0, .ref (ad 3))]) X.1 X.2.1 kd_X0_44 hl (k := 0) rfl (nI_1 i) (by decide) rfl (fun ls hl => ?_)
      refine lv_goto (tgt := 25) X.1 X.2.1 kd_X0_47 (by decide) ?_
      have c1 : 1 + 17 * i + (1 + 16) = 1 + 17 * (i + 1) := by omega
      have c2 : 14 + 173 * i + (mv_nf 2 + 170) = 14 + 173 * (i + 1) := by
        show 14 + 173 * i + (3 + 170) = _
        omega
      rw [c1, c2]
      have hDOo := DO_FR hDO hF2 (fun x hx z => by
        rcases hx with h | h
        · omega
        · omega)
      refine ih (i + 1) (by omega) ids2 ad2 E2 H2 locs2 ls (fun x hx => ?_) (fun x hx => ?_) (fun x hx => ?_) ((hF2 _ m1).1) (((hF2 _ m1).2.1).trans a1) (e2.trans ?_) (((hF2 _ (hF _ hk0).1).2.2 (by omega)).trans e0) hW hS hl
      · obtain ⟨f1, f2, f3⟩ := hF x hx
        obtain ⟨f4, f5, f6⟩ := hF2 x f1
        exact ⟨f4, f5.trans f2, fun z => (f6 (hrow x hx)).trans (f3 z)⟩
      · unfold RGi RG2 at *
        rcases hm2 x hx with h | h | h | h
        · rcases hm x h with h | h | h
          · exact Or.inl h
          · exact Or.inr (Or.inl h)
          · exact Or.inr (Or.inr (by omega))
        · exact Or.inr (Or.inr (by omega))
        · exact Or.inr (Or.inr (by omega))
        · exact Or.inr (Or.inr (by omega))
      · by_cases h : RGi i x
        · exact hDOo x h
        · refine hDO2 x ?_
          unfold RGi at h hx
          unfold RG2
          omega
      · rw [hni]
        congr 7
        funext j
        by_cases hj : j = i
        · subst hj
          rw [up_eq, if_pos (by omega), ← a2, show 400 + 2 * (1 + j) = 402 + 2 * j by omega]
        · rw [up_ne hj]
          by_cases hlt : j < i
          · rw [if_pos hlt, if_pos (by omega), (hF2 _ (hDO _ (Or.inr ⟨by omega, by omega⟩)).1).2.1]
          · rw [if_neg hlt, if_neg (by omega)]
end MVL
theorem kc_acts (l : Launch) : KC l yX0_init cX0_init 2 3 53 239 2436 0 3 RG0 := by
  intro D T A b0 ids ad E hb0 hk0 he hRg
  refine Met.ofW (cc := cX0_init) (maxL := 2) (ret := none) (by decide) rfl ?_
  intro p e s m args below meth c s₁ B hml hv
  obtain ⟨rfl, hsz, hW, hK, hN⟩ := hv
  have X : KX p s m ([Value.ref (ad (3))] : List Value).toArray c cX0_init RX0 D T A s.heap := ⟨B.exec, B.bytes, findClass_of_methodNamed B.named, fun w hw => atoms_spec (ws := kws yX0_init cX0_init 2) B.pre w (List.mem_cons_of_mem _ hw), hK, hN, fun q h => hb0 q (Nat.le_trans hsz h)⟩
  have hr := B.returns
  have hlocks := B.notSynchronized
  have hin : meth.name = "<init>" := (name_of_methodNamed B.named B.method).1
  have hS : va_S A s.heap s.heap [] := va_S.rf
  have hl := lv_entry ([.ref (ad (3))]) (n := 2) (Nat.le_of_ble_eq_true rfl)
  rw [lg_entry_eq]
  generalize (lg_sl ([.ref (ad (3))]) ++ List.replicate (2 - (lg_sl ([.ref (ad (3))])).length) Slot.unset).toArray = ls at hl ⊢
  have hl : lv_has ls 2 [(0, .ref (ad (3)))] := hl
  refine lv_aload_n X.1 X.2.1 kd_X0_0 rfl (lv_at hl 0 rfl) ?_
  refine W.objInit X.1 X.2.1 X.2.2.1 (X.2.2.2.1 _ kl_X0_1) (X.2.2.2.1 _ ki_obj) (X.2.2.2.1 _ kb_obj) rfl (by rw [hml]; exact hl.1) rfl kd_X0_1 (Nat.le_of_ble_eq_true rfl) (Nat.le_of_ble_eq_true rfl) ?_
  refine W.eq (g2 := F0 m 4 ls []) rfl ?_
  refine lv_aload_n X.1 X.2.1 kd_X0_4 rfl (lv_at hl 0 rfl) ?_
  refine lv_bipush (v := 14) X.1 X.2.1 kd_X0_5 (by decide) ?_
  refine k_arr X hin (ci := 0) (k0 := 3) (k1 := 4) (j := 0) (index := 11) (index2 := 9) (fs := mv_zf 0) (C := RX2) (t0 := 12) (j0 := 4) (N' := 14) (n := 14) rfl (by decide) rfl hk0 he rfl (fun z => hRg _ z (Or.inl rfl)) rfl kc_X0_9 (List.mem_of_getElem? (i := 6) rfl) (by decide) rfl (Nat.le_of_ble_eq_true rfl) (Nat.le_of_ble_eq_true rfl) (Nat.le_of_ble_eq_true rfl) kd_X0_7 (by decide) kf_X0_11 rfl rfl (fun _ => rfl) (fun _ => rfl) kd_X0_10 hW hS (fun q ids1 ad1 E1 H1 locs1 hF hm m1 a1 e1 e0 hW hS => ?_)
  refine W.eq (g2 := F0 m 13 ls []) rfl ?_
  obtain ⟨g1, g2, g3⟩ := hF _ hk0
  refine lv_aload_n X.1 X.2.1 kd_X0_13 rfl (lv_at hl 0 rfl) ?_
  refine lv_iconst (v := 0) X.1 X.2.1 kd_X0_14 (by decide) ?_
  refine k_put X (ci := 0) (k := 3) (j := 1) (index := 15) (fs := (mv_zf 0).set 0 (.ref q)) (v := .int 0) (by decide) g2 g1 e0 (by decide) rfl kf_X0_15 rfl rfl rfl rfl kd_X0_15 hW hS (fun H2 locs2 hW hS => ?_)
  refine lv_aload_n X.1 X.2.1 kd_X0_18 rfl (lv_at hl 0 rfl) ?_
  refine lv_iconst (v := 0) X.1 X.2.1 kd_X0_19 (by decide) ?_
  refine k_put X (ci := 0) (k := 3) (j := 2) (index := 19) (fs := ((mv_zf 0).set 0 (.ref q)).set 1 (.int 0)) (v := .int 0) (by decide) g2 g1 up_eq (by decide) rfl kf_X0_19 rfl rfl rfl rfl kd_X0_20 hW hS (fun H3 locs3 hW hS => ?_)
  refine lv_iconst (v := 0) X.1 X.2.1 kd_X0_23 (by decide) ?_
  refine lv_istore_n (lv' := [(1, .int (nI 0)), (0, .ref (ad 3))]) X.1 X.2.1 kd_X0_24 rfl hl (by decide) rfl (fun ls hl => ?_)
  have hne : (4 : Nat) ≠ 3 := by decide
  refine acts_loop X hml hr hlocks hb0 hsz hk0 hRg 14 0 rfl ids1 ad1 _ H3 locs3 ls (fun x hx => ?_) (fun x hx => ?_) (fun x hx => absurd hx (by unfold RGi; omega)) m1 a1 (((up_ne hne).trans (up_ne hne)).trans (e1.trans ?_)) up_eq hW hS hl
  · obtain ⟨f1, f2, f3⟩ := hF x hx
    exact ⟨f1, f2, fun z => ((up_ne z).trans (up_ne z)).trans (f3 z)⟩
  · rcases hm x hx with h | h
    · exact Or.inl h
    · exact Or.inr (Or.inl h)
  · congr 7
