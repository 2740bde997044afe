/-! The small constructors: Sight, Text, Chart. -/
theorem I00_z {k j : Nat} (h : ¬ (k = 39 ∧ j = 120)) (h2 : ¬ (400 ≤ k ∧ k < 436 ∧ k % 2 = 0 ∧ j = 2)) : I00 k j = 0 := by
  unfold I00
  rw [if_neg h, if_neg h2]
theorem finE_obj {D : va_G} {T : Nat → ClassId} {ad : Nat → Nat} {k ci : Nat} (h : mv_lay k = (1, ci, 0)) : finE D T ad k = .inr (ci, (List.range (mv_nf ci)).map (mv_fv ad I00 J00 k ci)) := mv_cell1 (G := (D, (ad, T))) h
theorem finE_int {D : va_G} {T : Nat → ClassId} {ad : Nat → Nat} {k n : Nat} (h : mv_lay k = (2, n, 0)) (hz : ∀ j, I00 k j = 0) : finE D T ad k = .inl (T 0, (n, .inl (fun _ => 0))) := by
  have := mv_cell2 (G := (D, (ad, T))) (I := I00) (J := J00) h
  unfold finE
  rw [this]
  congr 4
  funext j
  exact hz j
theorem DN_of {D : va_G} {T : Nat → ClassId} {Rg : Nat → Prop} {k0 : Nat} {ids ids' : List Nat} {ad ad' : Nat → Nat} {E E' : Nat → va_E} (hF : FR (fun x => x = k0) ids ad E ids' ad' E') (hm : ∀ x ∈ ids', x ∈ ids ∨ Rg x) (hDO : DO D T (fun x => Rg x ∨ x = k0) ids' ad' E') : DN D T Rg k0 ids ad E ids' ad' E' := ⟨hF, hm, hDO⟩
theorem lay_si : ∀ i, i < 6 → mv_lay (8 + i) = (1, 4, 0) := by decide
theorem rf_si {i : Nat} (h : i < 6) (j : Nat) : mv_rf (8 + i) j = none := by
  match i, h with
  | 0, _ => rfl
  | 1, _ => rfl
  | 2, _ => rfl
  | 3, _ => rfl
  | 4, _ => rfl
  | 5, _ => rfl
theorem DO_si {D : va_G} {T : Nat → ClassId} {ids : List Nat} {ad : Nat → Nat} {E : Nat → va_E} {i : Nat} (hi : i < 6) (h : 8 + i ∈ ids) (he : E (8 + i) = .inr (4, mv_zf 4)) : DO D T (fun x => x < 0 ∨ x = 8 + i) ids ad E := by
  intro x hx
  have hx : x = 8 + i := hx.elim (fun h => absurd h (Nat.not_lt_zero x)) id
  subst hx
  have hz : ∀ j, I00 (8 + i) j = 0 := fun j => I00_z (by omega) (by omega)
  refine ⟨h, ?_, fun j q hq => by rw [rf_si hi] at hq; cases hq⟩
  rw [he, finE_obj (lay_si i hi)]
  show Sum.inr (4, [Value.int 0, .int 0, .int 0, .int 0]) = Sum.inr (4, [Value.int (I00 (8 + i) 0), .int (I00 (8 + i) 1), .int (I00 (8 + i) 2), .int (I00 (8 + i) 3)])
  rw [hz, hz, hz, hz]
theorem DO_text {D : va_G} {T : Nat → ClassId} {ids : List Nat} {ad : Nat → Nat} {E : Nat → va_E} {q : Nat} (h1 : 1 ∈ ids) (h2 : 2 ∈ ids) (ha : ad 2 = q) (e2 : E 2 = .inl (T 0, (80, .inl (fun _ => 0)))) (e1 : E 1 = .inr (5, [.ref q, .int 0])) : DO D T (fun x => x = 2 ∨ x = 1) ids ad E := by
  intro x hx
  rcases hx with rfl | rfl
  · exact ⟨h2, e2.trans (finE_int rfl (fun j => I00_z (by omega) (by omega))).symm, fun j q hq => by cases hq⟩
  · refine ⟨h1, e1.trans ?_, fun j q hq => ?_⟩
    · rw [finE_obj (ci := 5) rfl]
      show Sum.inr (5, [Value.ref q, .int 0]) = Sum.inr (5, [Value.ref (ad 2), .int (I00 1 1)])
      rw [ha, I00_z (by omega) (by omega)]
    · match j with
      | 0 => cases hq; exact h2
      | j + 1 => cases hq
section MVE
variable {p : Program} {l : Launch} {e : Env} {R : Room} {s : State} {m : MethodId} {args : Array Value} {below : List Frame} {meth : Method} {c : Code} {H : Heap} {locs : List Loc} {cells slots : Nat}
variable {cc : ByteArray} {pc : Nat} {ls : Array Slot} {D : va_G} {T : Nat → ClassId} {A : Nat → Prop} {own : String} {ids ids' : List Nat} {ad ad' : Nat → Nat} {E E' : Nat → va_E} {Rg : Nat → Prop} {k0 : Nat}
theorem k_end (X : KX p s m args c cc own D T A s.heap) (hr : meth.sig.returnType = none) (hlocks : meth.locks = false) (hdg : decode cc pc = .ok (.return_, 1)) (hF : FR (fun x => x = k0) ids ad E ids' ad' E') (hm : ∀ x ∈ ids', x ∈ ids ∨ Rg x) (hDO : DO D T (fun x => Rg x ∨ x = k0) ids' ad' E') (hW : Wd D A ids' ad' E' H) (hS : va_S A s.heap H locs) : W p l e R s m args below meth c H locs cells slots (MQ below (va_Qv (S := KU) (fun u => DN D T Rg k0 ids ad E u.1 u.2.1 u.2.2) (fun u t => Wd D A u.1 u.2.1 u.2.2 t.heap) A) args s cells slots A) (F0 m pc ls []) := by
  refine W.vret X.1 X.2.1 hr (fun t ht hWm => ⟨⟨(ids', ad', E'), rfl, ⟨hF, hm, hDO⟩, ?_⟩, hS.F ht⟩) hS.2.2 hdg
  show Wd D A ids' ad' E' t.heap
  rw [ht]
  exact hW
end MVE
theorem kc_sight (l : Launch) {i : Nat} (hi : i < 6) : KC l yX4_init cX4_init 1 1 12 0 0 4 (8 + i) (fun x => x < 0) := by
  intro D T A b0 ids ad E hb0 hk0 he hRg
  refine Met.ofW (cc := cX4_init) (maxL := 1) (ret := none) (by decide) rfl ?_
  intro p e s m args below meth c s₁ B hml hv
  obtain ⟨rfl, hsz, hW, hK, hN⟩ := hv
  have X : KX p s m ([Value.ref (ad (8 + i))] : List Value).toArray c cX4_init RX4 D T A s.heap := ⟨B.exec, B.bytes, findClass_of_methodNamed B.named, fun w hw => atoms_spec (ws := kws yX4_init cX4_init 1) B.pre w (List.mem_cons_of_mem _ hw), hK, hN, fun q h => hb0 q (Nat.le_trans hsz h)⟩
  have hr := B.returns
  have hlocks := B.notSynchronized
  have hin : meth.name = "<init>" := (name_of_methodNamed B.named B.method).1
  have hS : va_S A s.heap s.heap [] := va_S.rf
  have hl := lv_entry ([.ref (ad (8 + i))]) (n := 1) (Nat.le_of_ble_eq_true rfl)
  rw [lg_entry_eq]
  generalize (lg_sl ([.ref (ad (8 + i))]) ++ List.replicate (1 - (lg_sl ([.ref (ad (8 + i))])).length) Slot.unset).toArray = ls at hl ⊢
  have hl : lv_has ls 1 [(0, .ref (ad (8 + i)))] := hl
  refine lv_aload_n X.1 X.2.1 kd_X4_0 rfl (lv_at hl 0 rfl) ?_
  refine W.objInit X.1 X.2.1 X.2.2.1 (X.2.2.2.1 _ kl_X4_1) (X.2.2.2.1 _ ki_obj) (X.2.2.2.1 _ kb_obj) rfl (by rw [hml]; exact hl.1) rfl kd_X4_1 (Nat.le_of_ble_eq_true rfl) (Nat.le_of_ble_eq_true rfl) ?_
  refine W.eq (g2 := F0 m 4 ls []) rfl ?_
  exact k_end X hr hlocks kd_X4_4 FR_rfl (fun x hx => Or.inl hx) (DO_si hi hk0 he) hW hS
theorem kc_text (l : Launch) : KC l yX5_init cX5_init 1 1 12 1 80 5 1 (fun x => x = 2) := by
  intro D T A b0 ids ad E hb0 hk0 he hRg
  refine Met.ofW (cc := cX5_init) (maxL := 1) (ret := none) (by decide) rfl ?_
  intro p e s m args below meth c s₁ B hml hv
  obtain ⟨rfl, hsz, hW, hK, hN⟩ := hv
  have X : KX p s m ([Value.ref (ad (1))] : List Value).toArray c cX5_init RX5 D T A s.heap := ⟨B.exec, B.bytes, findClass_of_methodNamed B.named, fun w hw => atoms_spec (ws := kws yX5_init cX5_init 1) B.pre w (List.mem_cons_of_mem _ hw), hK, hN, fun q h => hb0 q (Nat.le_trans hsz h)⟩
  have hr := B.returns
  have hlocks := B.notSynchronized
  have hin : meth.name = "<init>" := (name_of_methodNamed B.named B.method).1
  have hS : va_S A s.heap s.heap [] := va_S.rf
  have hl := lv_entry ([.ref (ad (1))]) (n := 1) (Nat.le_of_ble_eq_true rfl)
  rw [lg_entry_eq]
  generalize (lg_sl ([.ref (ad (1))]) ++ List.replicate (1 - (lg_sl ([.ref (ad (1))])).length) Slot.unset).toArray = ls at hl ⊢
  have hl : lv_has ls 1 [(0, .ref (ad (1)))] := hl
  refine lv_aload_n X.1 X.2.1 kd_X5_0 rfl (lv_at hl 0 rfl) ?_
  refine W.objInit X.1 X.2.1 X.2.2.1 (X.2.2.2.1 _ kl_X5_3) (X.2.2.2.1 _ ki_obj) (X.2.2.2.1 _ kb_obj) rfl (by rw [hml]; exact hl.1) rfl kd_X5_1 (Nat.le_of_ble_eq_true rfl) (Nat.le_of_ble_eq_true rfl) ?_
  refine W.eq (g2 := F0 m 4 ls []) rfl ?_
  refine lv_aload_n X.1 X.2.1 kd_X5_4 rfl (lv_at hl 0 rfl) ?_
  refine lv_bipush (v := 80) X.1 X.2.1 kd_X5_5 (by decide) ?_
  refine k_row X hin (ci := 5) (k0 := 1) (k1 := 2) (j := 0) (index := 11) (fs := mv_zf 5) (atype := .int) (ty := .int) (t0 := 0) (j0 := 0) (N' := 80) (n := 80) (a0 := (80, .inl (fun _ => 0))) rfl (by decide) rfl hk0 he rfl (fun z => hRg 2 z rfl) rfl (fun C h => by cases h) rfl ka_int (fun _ => rfl) (by decide) rfl (Nat.le_of_ble_eq_true rfl) (Nat.le_of_ble_eq_true rfl) (Nat.le_of_ble_eq_true rfl) kd_X5_7 (by decide) kf_X5_11 rfl rfl (fun _ => rfl) (fun _ => rfl) kd_X5_9 hW hS (fun q ids1 ad1 E1 H1 locs1 hF hm m1 a1 e1 e0 hW hS => ?_)
  refine W.eq (g2 := F0 m 12 ls []) rfl ?_
  refine lv_aload_n X.1 X.2.1 kd_X5_12 rfl (lv_at hl 0 rfl) ?_
  refine lv_iconst (v := 0) X.1 X.2.1 kd_X5_13 (by decide) ?_
  refine k_put X (ci := 5) (k := 1) (j := 1) (index := 15) (fs := (mv_zf 5).set 0 (.ref q)) (v := .int 0) (by decide) (hF 1 hk0).2.1 ((hF 1 hk0).1) e0 (by decide) rfl kf_X5_15 rfl rfl rfl rfl kd_X5_14 hW hS (fun H2 locs2 hW hS => ?_)
  exact k_end X hr hlocks kd_X5_17 (fun x hx => ⟨(hF x hx).1, (hF x hx).2.1, fun z => (up_ne z).trans ((hF x hx).2.2 z)⟩) hm (DO_text ((hF 1 hk0).1) m1 a1 ((up_ne (by decide)).trans e1) up_eq) hW hS
theorem rf_gen {k : Nat} (h1 : 49 ≤ k) (h2 : k < 400) (j : Nat) : mv_rf k j = (match (k - 100) % 3 with | 0 => (match j with | 5 => some (k + 1) | 14 => some (k + 2) | _ => none) | _ => none) := by
  have hb : Nat.blt k 49 = false := by rw [Bool.eq_false_iff]; intro z; have := Nat.blt_eq.mp z; omega
  have hb2 : Nat.blt k 400 = true := Nat.blt_eq.mpr (by omega)
  unfold mv_rf
  first | (rw [hb, hb2]; done) | (rw [hb, hb2]; rfl)
theorem rf_cs {c : Nat} (hc : c < 91) {j : Nat} : mv_rf (101 + 3 * c) j = none := by
  rw [rf_gen (by omega) (by omega), show (101 + 3 * c - 100) % 3 = 1 by omega]
  rfl
theorem rf_ct {c : Nat} (hc : c < 91) {j : Nat} : mv_rf (102 + 3 * c) j = none := by
  rw [rf_gen (by omega) (by omega), show (102 + 3 * c - 100) % 3 = 2 by omega]
  rfl
theorem rf_ch0 {c : Nat} (hc : c < 91) (j : Nat) : mv_rf (100 + 3 * c) j = (match j with | 5 => some (100 + 3 * c + 1) | 14 => some (100 + 3 * c + 2) | _ => none) := by
  rw [rf_gen (by omega) (by omega), show (100 + 3 * c - 100) % 3 = 0 by omega]
  rfl
theorem rf_ch {c : Nat} (hc : c < 91) {j q : Nat} (h : mv_rf (100 + 3 * c) j = some q) : q = 101 + 3 * c ∨ q = 102 + 3 * c := by
  rw [rf_ch0 hc] at h
  split at h
  · have := Option.some.inj h
    omega
  · have := Option.some.inj h
    omega
  · cases h
theorem DO_chart {D : va_G} {T : Nat → ClassId} {ids : List Nat} {ad : Nat → Nat} {E : Nat → va_E} {c q1 q2 : Nat} (hc : c < 91) (h0 : 100 + 3 * c ∈ ids) (h1 : 101 + 3 * c ∈ ids) (h2 : 102 + 3 * c ∈ ids) (a1 : ad (101 + 3 * c) = q1) (a2 : ad (102 + 3 * c) = q2) (e1 : E (101 + 3 * c) = .inl (T 0, (5, .inl (fun _ => 0)))) (e2 : E (102 + 3 * c) = .inl (T 0, (12, .inl (fun _ => 0)))) (e0 : E (100 + 3 * c) = .inr (1, ((mv_zf 1).set 5 (.ref q1)).set 14 (.ref q2))) : DO D T (fun x => (x = 101 + 3 * c ∨ x = 102 + 3 * c) ∨ x = 100 + 3 * c) ids ad E := by
  intro x hx
  rcases hx with (rfl | rfl) | rfl
  · exact ⟨h1, e1.trans (finE_int (mv_lay_cs hc) (fun j => I00_z (by omega) (by omega))).symm, fun j q hq => by rw [rf_cs hc] at hq; cases hq⟩
  · exact ⟨h2, e2.trans (finE_int (mv_lay_ct hc) (fun j => I00_z (by omega) (by omega))).symm, fun j q hq => by rw [rf_ct hc] at hq; cases hq⟩
  · have hz : ∀ j, I00 (100 + 3 * c) j = 0 := fun j => I00_z (by omega) (by omega)
    refine ⟨h0, e0.trans ?_, fun j q hq => ?_⟩
    · rw [finE_obj (mv_lay_ch hc)]
      show Sum.inr (1, [Value.int 0, .int 0, .int 0, .int 0, .int 0, .ref q1, .int 0, .int 0, .int 0, .int 0, .int 0, .int 0, .int 0, .int 0, .ref q2, .int 0]) = Sum.inr (1, [Value.int (I00 (100 + 3 * c) 0), .int (I00 (100 + 3 * c) 1), .int (I00 (100 + 3 * c) 2), .int (I00 (100 + 3 * c) 3), .int (I00 (100 + 3 * c) 4), va_rf ((mv_rf (100 + 3 * c) 5).map ad), .int (I00 (100 + 3 * c) 6), .int (I00 (100 + 3 * c) 7), .int (I00 (100 + 3 * c) 8), .int (I00 (100 + 3 * c) 9), .int (I00 (100 + 3 * c) 10), .int (I00 (100 + 3 * c) 11), .int (I00 (100 + 3 * c) 12), .int (I00 (100 + 3 * c) 13), va_rf ((mv_rf (100 + 3 * c) 14).map ad), .int (I00 (100 + 3 * c) 15)])
      rw [mv_rf_cs hc, mv_rf_ct hc]
      simp only [hz]
      show _ = Sum.inr (1, [Value.int 0, .int 0, .int 0, .int 0, .int 0, .ref (ad (101 + 3 * c)), .int 0, .int 0, .int 0, .int 0, .int 0, .int 0, .int 0, .int 0, .ref (ad (102 + 3 * c)), .int 0])
      rw [a1, a2]
    · rcases rf_ch hc hq with rfl | rfl
      · exact h1
      · exact h2
theorem kc_chart (l : Launch) {k : Nat} (hk : k < 91) : KC l yX1_init cX1_init 1 1 12 2 17 1 (100 + 3 * k) (fun x => x = 101 + 3 * k ∨ x = 102 + 3 * k) := by
  intro D T A b0 ids ad E hb0 hk0 he hRg
  refine Met.ofW (cc := cX1_init) (maxL := 1) (ret := none) (by decide) rfl ?_
  intro p e s m args below meth c s₁ B hml hv
  obtain ⟨rfl, hsz, hW, hK, hN⟩ := hv
  have X : KX p s m ([Value.ref (ad (100 + 3 * k))] : List Value).toArray c cX1_init RX1 D T A s.heap := ⟨B.exec, B.bytes, findClass_of_methodNamed B.named, fun w hw => atoms_spec (ws := kws yX1_init cX1_init 1) B.pre w (List.mem_cons_of_mem _ hw), hK, hN, fun q h => hb0 q (Nat.le_trans hsz h)⟩
  have hr := B.returns
  have hlocks := B.notSynchronized
  have hin : meth.name = "<init>" := (name_of_methodNamed B.named B.method).1
  have hS : va_S A s.heap s.heap [] := va_S.rf
  have hl := lv_entry ([.ref (ad (100 + 3 * k))]) (n := 1) (Nat.le_of_ble_eq_true rfl)
  rw [lg_entry_eq]
  generalize (lg_sl ([.ref (ad (100 + 3 * k))]) ++ List.replicate (1 - (lg_sl ([.ref (ad (100 + 3 * k))])).length) Slot.unset).toArray = ls at hl ⊢
  have hl : lv_has ls 1 [(0, .ref (ad (100 + 3 * k)))] := hl
  refine lv_aload_n X.1 X.2.1 kd_X1_0 rfl (lv_at hl 0 rfl) ?_
  refine W.objInit X.1 X.2.1 X.2.2.1 (X.2.2.2.1 _ kl_X1_3) (X.2.2.2.1 _ ki_obj) (X.2.2.2.1 _ kb_obj) rfl (by rw [hml]; exact hl.1) rfl kd_X1_1 (Nat.le_of_ble_eq_true rfl) (Nat.le_of_ble_eq_true rfl) ?_
  refine W.eq (g2 := F0 m 4 ls []) rfl ?_
  refine lv_aload_n X.1 X.2.1 kd_X1_4 rfl (lv_at hl 0 rfl) ?_
  refine lv_iconst (v := 5) X.1 X.2.1 kd_X1_5 (by decide) ?_
  refine k_row X hin (ci := 1) (k0 := 100 + 3 * k) (k1 := 101 + 3 * k) (j := 5) (index := 11) (fs := mv_zf 1) (atype := .int) (ty := .int) (t0 := 0) (j0 := 0) (N' := 5) (n := 5) (a0 := (5, .inl (fun _ => 0))) rfl (by decide) rfl hk0 he rfl (fun z => hRg _ z (Or.inl rfl)) rfl (fun C h => by cases h) rfl ka_int (fun _ => rfl) (by decide) rfl (Nat.le_of_ble_eq_true rfl) (Nat.le_of_ble_eq_true rfl) (Nat.le_of_ble_eq_true rfl) kd_X1_6 (by decide) kf_X1_11 rfl rfl (fun _ => rfl) (fun _ => rfl) kd_X1_8 hW hS (fun q1 ids1 ad1 E1 H1 locs1 hF hm m1 a1 e1 e0 hW hS => ?_)
  refine W.eq (g2 := F0 m 11 ls []) rfl ?_
  refine lv_aload_n X.1 X.2.1 kd_X1_11 rfl (lv_at hl 0 rfl) ?_
  refine lv_bipush (v := 12) X.1 X.2.1 kd_X1_12 (by decide) ?_
  obtain ⟨g1, g2, g3⟩ := hF _ hk0
  refine k_row X hin (ci := 1) (k0 := 100 + 3 * k) (k1 := 102 + 3 * k) (j := 14) (index := 15) (fs := (mv_zf 1).set 5 (.ref q1)) (atype := .int) (ty := .int) (t0 := 0) (j0 := 0) (N' := 12) (n := 12) (a0 := (12, .inl (fun _ => 0))) g2 (by decide) rfl g1 e0 rfl (fun z => by
    rcases hm _ z with h | h
    · exact hRg _ h (Or.inr rfl)
    · omega) rfl (fun C h => by cases h) rfl ka_int (fun _ => rfl) (by decide) rfl (Nat.le_of_ble_eq_true rfl) (Nat.le_of_ble_eq_true rfl) (Nat.le_of_ble_eq_true rfl) kd_X1_14 (by decide) kf_X1_15 rfl rfl (fun _ => rfl) (fun _ => rfl) kd_X1_16 hW hS (fun q2 ids2 ad2 E2 H2 locs2 hF2 hm2 m2 a2 e2 e02 hW hS => ?_)
  refine W.eq (g2 := F0 m 19 ls []) rfl ?_
  obtain ⟨f1, f2, f3⟩ := hF2 _ m1
  exact k_end X hr hlocks kd_X1_19 (FR_mono (fun x hx => hx.elim id id) (FR_trans hF hF2)) (fun x hx => by
    rcases hm2 x hx with h | h
    · rcases hm x h with h | h
      · exact Or.inl h
      · exact Or.inr (Or.inl h)
    · exact Or.inr (Or.inr h)) (DO_chart hk ((hF2 _ g1).1) f1 m2 (f2.trans a1) a2 ((f3 (by omega)).trans e1) e2 e02) hW hS
