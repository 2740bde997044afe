/-! The constructor of the reference, walked. -/
theorem KE_cons {k : Nat} {e : va_E} {ke : List (Nat × va_E)} (h : k ≠ 30) (h2 : ∀ y ∈ ke, y.1 ≠ 30) : ∀ y ∈ ((k, e) :: ke), y.1 ≠ 30 := fun y hy => by
  rcases List.mem_cons.mp hy with rfl | hy
  · exact h
  · exact h2 y hy
set_option maxHeartbeats 8000000 in
theorem kc_model (l : Launch) : KC l yX7_init cX7_init 1 1 12 18 2517 7 30 RG7 := by
  intro D T A b0 ids ad E hb0 hk0 he hRg
  refine Met.ofW (cc := cX7_init) (maxL := 1) (ret := none) (by decide) rfl ?_
  intro p e s m args below meth c s₁ B hml hv
  obtain ⟨rfl, hsz, hW, hK, hN⟩ := hv
  have X : KX p s m ([Value.ref (ad (30))] : List Value).toArray c cX7_init RX7 D T A s.heap := ⟨B.exec, B.bytes, findClass_of_methodNamed B.named, fun w hw => atoms_spec (ws := kws yX7_init cX7_init 1) B.pre w (List.mem_cons_of_mem _ hw), hK, hN, fun q h => hb0 q (Nat.le_trans hsz h)⟩
  have hr := B.returns
  have hlocks := B.notSynchronized
  have hin : meth.name = "<init>" := (name_of_methodNamed B.named B.method).1
  have hS : va_S A s.heap s.heap [] := va_S.rf
  have hl := lv_entry ([.ref (ad (30))]) (n := 1) (Nat.le_of_ble_eq_true rfl)
  rw [lg_entry_eq]
  generalize (lg_sl ([.ref (ad (30))]) ++ List.replicate (1 - (lg_sl ([.ref (ad (30))])).length) Slot.unset).toArray = ls at hl ⊢
  have hl : lv_has ls 1 [(0, .ref (ad (30)))] := hl
  refine lv_aload_n X.1 X.2.1 kd_X7_0 rfl (lv_at hl 0 rfl) ?_
  refine W.objInit X.1 X.2.1 X.2.2.1 (X.2.2.2.1 _ kl_X7_1) (X.2.2.2.1 _ ki_obj) (X.2.2.2.1 _ kb_obj) rfl (by rw [hml]; exact hl.1) rfl kd_X7_1 (Nat.le_of_ble_eq_true rfl) (Nat.le_of_ble_eq_true rfl) ?_
  refine W.eq (g2 := F0 m 4 ls []) rfl ?_
  have hfl0 : (mv_zf 7).length = 26 := rfl
  have hke0 : ∀ y ∈ ([] : List (Nat × va_E)), y.1 ≠ 30 := fun y hy => absurd hy List.not_mem_nil
  have hs0 : ST7 D T ids ad E (fun x => x < 0) (fun x => x < 0) (mv_zf 7) [] [] ids ad E := ⟨FR_rfl, fun x hx => Or.inl hx, fun x hx => absurd hx (Nat.not_lt_zero x), he, fun y hy => absurd hy List.not_mem_nil, fun y hy => absurd hy List.not_mem_nil⟩
  refine lv_aload_n X.1 X.2.1 kd_X7_4 rfl (lv_at hl 0 rfl) ?_
  refine lv_bipush (v := 80) X.1 X.2.1 kd_X7_5 (by decide) ?_
  refine s7_row X hin (a := ad 30) (k1 := 31) (j := 1) (index := 7) (atype := .int) (ty := .int) (t0 := 0) (j0 := 0) (N' := 80) (n := 80) (a0 := (80, .inl (fun _ => 0))) (fun x => 31 ≤ x ∧ x < 32) hRg hk0 (fun x hx z => absurd hx (Nat.not_lt_zero x)) hke0 hs0 rfl hfl0 ⟨by unfold RG7; omega, by omega⟩ (fun x hx => by omega) rfl (fun C h => by cases h) rfl ka_int (fun _ => rfl) (by decide) rfl (Nat.le_of_ble_eq_true rfl) (Nat.le_of_ble_eq_true rfl) (Nat.le_of_ble_eq_true rfl) kd_X7_7 (by decide) kf_X7_7 rfl rfl (fun _ => rfl) (fun _ => rfl) kd_X7_9 hW hS (fun q31 ids1 ad1 E1 H1 locs1 hs1 hW hS => ?_)
  have hke1 := KE_cons (k := 31) (e := .inl (T 0, (80, .inl (fun _ => 0)))) (by decide) hke0
  have hfl1 := (List.length_set (i := 1) (a := Value.ref q31)).trans hfl0
  clear hs0 hke0 hfl0
  refine W.eq (g2 := F0 m 12 ls []) rfl ?_
  refine lv_aload_n X.1 X.2.1 kd_X7_12 rfl (lv_at hl 0 rfl) ?_
  refine lv_iconst (v := 5) X.1 X.2.1 kd_X7_13 (by decide) ?_
  refine s7_row X hin (a := ad 30) (k1 := 32) (j := 5) (index := 13) (atype := .int) (ty := .int) (t0 := 0) (j0 := 0) (N' := 5) (n := 5) (a0 := (5, .inl (fun _ => 0))) (fun x => 31 ≤ x ∧ x < 33) hRg hk0 (fun x hx z => absurd hx (Nat.not_lt_zero x)) hke1 hs1 rfl hfl1 ⟨by unfold RG7; omega, by omega⟩ (fun x hx => by omega) rfl (fun C h => by cases h) rfl ka_int (fun _ => rfl) (by decide) rfl (Nat.le_of_ble_eq_true rfl) (Nat.le_of_ble_eq_true rfl) (Nat.le_of_ble_eq_true rfl) kd_X7_14 (by decide) kf_X7_13 rfl rfl (fun _ => rfl) (fun _ => rfl) kd_X7_16 hW hS (fun q32 ids2 ad2 E2 H2 locs2 hs2 hW hS => ?_)
  have hke2 := KE_cons (k := 32) (e := .inl (T 0, (5, .inl (fun _ => 0)))) (by decide) hke1
  have hfl2 := (List.length_set (i := 5) (a := Value.ref q32)).trans hfl1
  clear hs1 hke1 hfl1
  refine W.eq (g2 := F0 m 19 ls []) rfl ?_
  refine lv_aload_n X.1 X.2.1 kd_X7_19 rfl (lv_at hl 0 rfl) ?_
  refine lv_bipush (v := 25) X.1 X.2.1 kd_X7_20 (by decide) ?_
  refine s7_row X hin (a := ad 30) (k1 := 33) (j := 6) (index := 16) (atype := .int) (ty := .int) (t0 := 0) (j0 := 0) (N' := 25) (n := 25) (a0 := (25, .inl (fun _ => 0))) (fun x => 31 ≤ x ∧ x < 34) hRg hk0 (fun x hx z => absurd hx (Nat.not_lt_zero x)) hke2 hs2 rfl hfl2 ⟨by unfold RG7; omega, by omega⟩ (fun x hx => by omega) rfl (fun C h => by cases h) rfl ka_int (fun _ => rfl) (by decide) rfl (Nat.le_of_ble_eq_true rfl) (Nat.le_of_ble_eq_true rfl) (Nat.le_of_ble_eq_true rfl) kd_X7_22 (by decide) kf_X7_16 rfl rfl (fun _ => rfl) (fun _ => rfl) kd_X7_24 hW hS (fun q33 ids3 ad3 E3 H3 locs3 hs3 hW hS => ?_)
  have hke3 := KE_cons (k := 33) (e := .inl (T 0, (25, .inl (fun _ => 0)))) (by decide) hke2
  have hfl3 := (List.length_set (i := 6) (a := Value.ref q33)).trans hfl2
  clear hs2 hke2 hfl2
  refine W.eq (g2 := F0 m 27 ls []) rfl ?_
  refine lv_aload_n X.1 X.2.1 kd_X7_27 rfl (lv_at hl 0 rfl) ?_
  refine lv_iconst (v := 5) X.1 X.2.1 kd_X7_28 (by decide) ?_
  refine s7_row X hin (a := ad 30) (k1 := 34) (j := 7) (index := 19) (atype := .int) (ty := .int) (t0 := 0) (j0 := 0) (N' := 5) (n := 5) (a0 := (5, .inl (fun _ => 0))) (fun x => 31 ≤ x ∧ x < 35) hRg hk0 (fun x hx z => absurd hx (Nat.not_lt_zero x)) hke3 hs3 rfl hfl3 ⟨by unfold RG7; omega, by omega⟩ (fun x hx => by omega) rfl (fun C h => by cases h) rfl ka_int (fun _ => rfl) (by decide) rfl (Nat.le_of_ble_eq_true rfl) (Nat.le_of_ble_eq_true rfl) (Nat.le_of_ble_eq_true rfl) kd_X7_29 (by decide) kf_X7_19 rfl rfl (fun _ => rfl) (fun _ => rfl) kd_X7_31 hW hS (fun q34 ids4 ad4 E4 H4 locs4 hs4 hW hS => ?_)
  have hke4 := KE_cons (k := 34) (e := .inl (T 0, (5, .inl (fun _ => 0)))) (by decide) hke3
  have hfl4 := (List.length_set (i := 7) (a := Value.ref q34)).trans hfl3
  clear hs3 hke3 hfl3
  refine W.eq (g2 := F0 m 34 ls []) rfl ?_
  refine lv_aload_n X.1 X.2.1 kd_X7_34 rfl (lv_at hl 0 rfl) ?_
  refine lv_iconst (v := 5) X.1 X.2.1 kd_X7_35 (by decide) ?_
  refine s7_row X hin (a := ad 30) (k1 := 35) (j := 9) (index := 22) (atype := .int) (ty := .int) (t0 := 0) (j0 := 0) (N' := 5) (n := 5) (a0 := (5, .inl (fun _ => 0))) (fun x => 31 ≤ x ∧ x < 36) hRg hk0 (fun x hx z => absurd hx (Nat.not_lt_zero x)) hke4 hs4 rfl hfl4 ⟨by unfold RG7; omega, by omega⟩ (fun x hx => by omega) rfl (fun C h => by cases h) rfl ka_int (fun _ => rfl) (by decide) rfl (Nat.le_of_ble_eq_true rfl) (Nat.le_of_ble_eq_true rfl) (Nat.le_of_ble_eq_true rfl) kd_X7_36 (by decide) kf_X7_22 rfl rfl (fun _ => rfl) (fun _ => rfl) kd_X7_38 hW hS (fun q35 ids5 ad5 E5 H5 locs5 hs5 hW hS => ?_)
  have hke5 := KE_cons (k := 35) (e := .inl (T 0, (5, .inl (fun _ => 0)))) (by decide) hke4
  have hfl5 := (List.length_set (i := 9) (a := Value.ref q35)).trans hfl4
  clear hs4 hke4 hfl4
  refine W.eq (g2 := F0 m 41 ls []) rfl ?_
  refine lv_aload_n X.1 X.2.1 kd_X7_41 rfl (lv_at hl 0 rfl) ?_
  refine lv_bipush (v := 25) X.1 X.2.1 kd_X7_42 (by decide) ?_
  refine s7_row X hin (a := ad 30) (k1 := 36) (j := 10) (index := 25) (atype := .int) (ty := .int) (t0 := 0) (j0 := 0) (N' := 25) (n := 25) (a0 := (25, .inl (fun _ => 0))) (fun x => 31 ≤ x ∧ x < 37) hRg hk0 (fun x hx z => absurd hx (Nat.not_lt_zero x)) hke5 hs5 rfl hfl5 ⟨by unfold RG7; omega, by omega⟩ (fun x hx => by omega) rfl (fun C h => by cases h) rfl ka_int (fun _ => rfl) (by decide) rfl (Nat.le_of_ble_eq_true rfl) (Nat.le_of_ble_eq_true rfl) (Nat.le_of_ble_eq_true rfl) kd_X7_44 (by decide) kf_X7_25 rfl rfl (fun _ => rfl) (fun _ => rfl) kd_X7_46 hW hS (fun q36 ids6 ad6 E6 H6 locs6 hs6 hW hS => ?_)
  have hke6 := KE_cons (k := 36) (e := .inl (T 0, (25, .inl (fun _ => 0)))) (by decide) hke5
  have hfl6 := (List.length_set (i := 10) (a := Value.ref q36)).trans hfl5
  clear hs5 hke5 hfl5
  refine W.eq (g2 := F0 m 49 ls []) rfl ?_
  refine lv_aload_n X.1 X.2.1 kd_X7_49 rfl (lv_at hl 0 rfl) ?_
  refine lv_iconst (v := 5) X.1 X.2.1 kd_X7_50 (by decide) ?_
  refine s7_row X hin (a := ad 30) (k1 := 37) (j := 11) (index := 28) (atype := .int) (ty := .int) (t0 := 0) (j0 := 0) (N' := 5) (n := 5) (a0 := (5, .inl (fun _ => 0))) (fun x => 31 ≤ x ∧ x < 38) hRg hk0 (fun x hx z => absurd hx (Nat.not_lt_zero x)) hke6 hs6 rfl hfl6 ⟨by unfold RG7; omega, by omega⟩ (fun x hx => by omega) rfl (fun C h => by cases h) rfl ka_int (fun _ => rfl) (by decide) rfl (Nat.le_of_ble_eq_true rfl) (Nat.le_of_ble_eq_true rfl) (Nat.le_of_ble_eq_true rfl) kd_X7_51 (by decide) kf_X7_28 rfl rfl (fun _ => rfl) (fun _ => rfl) kd_X7_53 hW hS (fun q37 ids7 ad7 E7 H7 locs7 hs7 hW hS => ?_)
  have hke7 := KE_cons (k := 37) (e := .inl (T 0, (5, .inl (fun _ => 0)))) (by decide) hke6
  have hfl7 := (List.length_set (i := 11) (a := Value.ref q37)).trans hfl6
  clear hs6 hke6 hfl6
  refine W.eq (g2 := F0 m 56 ls []) rfl ?_
  refine lv_aload_n X.1 X.2.1 kd_X7_56 rfl (lv_at hl 0 rfl) ?_
  refine lv_bipush (v := 121) X.1 X.2.1 kd_X7_57 (by decide) ?_
  refine s7_row X hin (a := ad 30) (k1 := 38) (j := 12) (index := 31) (atype := .int) (ty := .int) (t0 := 0) (j0 := 0) (N' := 121) (n := 121) (a0 := (121, .inl (fun _ => 0))) (fun x => 31 ≤ x ∧ x < 39) hRg hk0 (fun x hx z => absurd hx (Nat.not_lt_zero x)) hke7 hs7 rfl hfl7 ⟨by unfold RG7; omega, by omega⟩ (fun x hx => by omega) rfl (fun C h => by cases h) rfl ka_int (fun _ => rfl) (by decide) rfl (Nat.le_of_ble_eq_true rfl) (Nat.le_of_ble_eq_true rfl) (Nat.le_of_ble_eq_true rfl) kd_X7_59 (by decide) kf_X7_31 rfl rfl (fun _ => rfl) (fun _ => rfl) kd_X7_61 hW hS (fun q38 ids8 ad8 E8 H8 locs8 hs8 hW hS => ?_)
  have hke8 := KE_cons (k := 38) (e := .inl (T 0, (121, .inl (fun _ => 0)))) (by decide) hke7
  have hfl8 := (List.length_set (i := 12) (a := Value.ref q38)).trans hfl7
  clear hs7 hke7 hfl7
  refine W.eq (g2 := F0 m 64 ls []) rfl ?_
  refine lv_aload_n X.1 X.2.1 kd_X7_64 rfl (lv_at hl 0 rfl) ?_
  refine lv_bipush (v := 121) X.1 X.2.1 kd_X7_65 (by decide) ?_
  refine s7_row X hin (a := ad 30) (k1 := 39) (j := 13) (index := 34) (atype := .int) (ty := .int) (t0 := 0) (j0 := 0) (N' := 121) (n := 121) (a0 := (121, .inl (fun _ => 0))) (fun x => 31 ≤ x ∧ x < 40) hRg hk0 (fun x hx z => absurd hx (Nat.not_lt_zero x)) hke8 hs8 rfl hfl8 ⟨by unfold RG7; omega, by omega⟩ (fun x hx => by omega) rfl (fun C h => by cases h) rfl ka_int (fun _ => rfl) (by decide) rfl (Nat.le_of_ble_eq_true rfl) (Nat.le_of_ble_eq_true rfl) (Nat.le_of_ble_eq_true rfl) kd_X7_67 (by decide) kf_X7_34 rfl rfl (fun _ => rfl) (fun _ => rfl) kd_X7_69 hW hS (fun q39 ids9 ad9 E9 H9 locs9 hs9 hW hS => ?_)
  have hke9 := KE_cons (k := 39) (e := .inl (T 0, (121, .inl (fun _ => 0)))) (by decide) hke8
  have hfl9 := (List.length_set (i := 13) (a := Value.ref q39)).trans hfl8
  clear hs8 hke8 hfl8
  refine W.eq (g2 := F0 m 72 ls []) rfl ?_
  refine lv_aload_n X.1 X.2.1 kd_X7_72 rfl (lv_at hl 0 rfl) ?_
  refine lv_bipush (v := 121) X.1 X.2.1 kd_X7_73 (by decide) ?_
  refine s7_row X hin (a := ad 30) (k1 := 40) (j := 14) (index := 37) (atype := .int) (ty := .int) (t0 := 0) (j0 := 0) (N' := 121) (n := 121) (a0 := (121, .inl (fun _ => 0))) (fun x => 31 ≤ x ∧ x < 41) hRg hk0 (fun x hx z => absurd hx (Nat.not_lt_zero x)) hke9 hs9 rfl hfl9 ⟨by unfold RG7; omega, by omega⟩ (fun x hx => by omega) rfl (fun C h => by cases h) rfl ka_int (fun _ => rfl) (by decide) rfl (Nat.le_of_ble_eq_true rfl) (Nat.le_of_ble_eq_true rfl) (Nat.le_of_ble_eq_true rfl) kd_X7_75 (by decide) kf_X7_37 rfl rfl (fun _ => rfl) (fun _ => rfl) kd_X7_77 hW hS (fun q40 ids10 ad10 E10 H10 locs10 hs10 hW hS => ?_)
  have hke10 := KE_cons (k := 40) (e := .inl (T 0, (121, .inl (fun _ => 0)))) (by decide) hke9
  have hfl10 := (List.length_set (i := 14) (a := Value.ref q40)).trans hfl9
  clear hs9 hke9 hfl9
  refine W.eq (g2 := F0 m 80 ls []) rfl ?_
  refine lv_aload_n X.1 X.2.1 kd_X7_80 rfl (lv_at hl 0 rfl) ?_
  refine lv_sipush (v := 1694) X.1 X.2.1 kd_X7_81 (by decide) ?_
  refine s7_row X hin (a := ad 30) (k1 := 41) (j := 15) (index := 40) (atype := .int) (ty := .int) (t0 := 0) (j0 := 0) (N' := 1694) (n := 1694) (a0 := (1694, .inl (fun _ => 0))) (fun x => 31 ≤ x ∧ x < 42) hRg hk0 (fun x hx z => absurd hx (Nat.not_lt_zero x)) hke10 hs10 rfl hfl10 ⟨by unfold RG7; omega, by omega⟩ (fun x hx => by omega) rfl (fun C h => by cases h) rfl ka_int (fun _ => rfl) (by decide) rfl (Nat.le_of_ble_eq_true rfl) (Nat.le_of_ble_eq_true rfl) (Nat.le_of_ble_eq_true rfl) kd_X7_84 (by decide) kf_X7_40 rfl rfl (fun _ => rfl) (fun _ => rfl) kd_X7_86 hW hS (fun q41 ids11 ad11 E11 H11 locs11 hs11 hW hS => ?_)
  have hke11 := KE_cons (k := 41) (e := .inl (T 0, (1694, .inl (fun _ => 0)))) (by decide) hke10
  have hfl11 := (List.length_set (i := 15) (a := Value.ref q41)).trans hfl10
  clear hs10 hke10 hfl10
  refine W.eq (g2 := F0 m 89 ls []) rfl ?_
  refine lv_aload_n X.1 X.2.1 kd_X7_89 rfl (lv_at hl 0 rfl) ?_
  refine lv_sipush (v := 242) X.1 X.2.1 kd_X7_90 (by decide) ?_
  refine s7_row X hin (a := ad 30) (k1 := 42) (j := 17) (index := 43) (atype := .int) (ty := .int) (t0 := 0) (j0 := 0) (N' := 242) (n := 242) (a0 := (242, .inl (fun _ => 0))) (fun x => 31 ≤ x ∧ x < 43) hRg hk0 (fun x hx z => absurd hx (Nat.not_lt_zero x)) hke11 hs11 rfl hfl11 ⟨by unfold RG7; omega, by omega⟩ (fun x hx => by omega) rfl (fun C h => by cases h) rfl ka_int (fun _ => rfl) (by decide) rfl (Nat.le_of_ble_eq_true rfl) (Nat.le_of_ble_eq_true rfl) (Nat.le_of_ble_eq_true rfl) kd_X7_93 (by decide) kf_X7_43 rfl rfl (fun _ => rfl) (fun _ => rfl) kd_X7_95 hW hS (fun q42 ids12 ad12 E12 H12 locs12 hs12 hW hS => ?_)
  have hke12 := KE_cons (k := 42) (e := .inl (T 0, (242, .inl (fun _ => 0)))) (by decide) hke11
  have hfl12 := (List.length_set (i := 17) (a := Value.ref q42)).trans hfl11
  clear hs11 hke11 hfl11
  refine W.eq (g2 := F0 m 98 ls []) rfl ?_
  refine lv_aload_n X.1 X.2.1 kd_X7_98 rfl (lv_at hl 0 rfl) ?_
  refine lv_iconst (v := 2) X.1 X.2.1 kd_X7_99 (by decide) ?_
  refine s7_row X hin (a := ad 30) (k1 := 43) (j := 18) (index := 46) (atype := .boolean) (ty := .boolean) (t0 := 1) (j0 := 1) (N' := 2) (n := 2) (a0 := (2, .inl (fun _ => 0))) (fun x => 31 ≤ x ∧ x < 44) hRg hk0 (fun x hx z => absurd hx (Nat.not_lt_zero x)) hke12 hs12 rfl hfl12 ⟨by unfold RG7; omega, by omega⟩ (fun x hx => by omega) rfl (fun C h => by cases h) rfl ka_boolean (fun _ => rfl) (by decide) rfl (Nat.le_of_ble_eq_true rfl) (Nat.le_of_ble_eq_true rfl) (Nat.le_of_ble_eq_true rfl) kd_X7_100 (by decide) kf_X7_46 rfl rfl (fun _ => rfl) (fun _ => rfl) kd_X7_102 hW hS (fun q43 ids13 ad13 E13 H13 locs13 hs13 hW hS => ?_)
  have hke13 := KE_cons (k := 43) (e := .inl (T 1, (2, .inl (fun _ => 0)))) (by decide) hke12
  have hfl13 := (List.length_set (i := 18) (a := Value.ref q43)).trans hfl12
  clear hs12 hke12 hfl12
  refine W.eq (g2 := F0 m 105 ls []) rfl ?_
  refine lv_aload_n X.1 X.2.1 kd_X7_105 rfl (lv_at hl 0 rfl) ?_
  refine lv_bipush (v := 6) X.1 X.2.1 kd_X7_106 (by decide) ?_
  refine s7_row X hin (a := ad 30) (k1 := 44) (j := 20) (index := 50) (atype := .int) (ty := .int) (t0 := 0) (j0 := 0) (N' := 6) (n := 6) (a0 := (6, .inl (fun _ => 0))) (fun x => 31 ≤ x ∧ x < 45) hRg hk0 (fun x hx z => absurd hx (Nat.not_lt_zero x)) hke13 hs13 rfl hfl13 ⟨by unfold RG7; omega, by omega⟩ (fun x hx => by omega) rfl (fun C h => by cases h) rfl ka_int (fun _ => rfl) (by decide) rfl (Nat.le_of_ble_eq_true rfl) (Nat.le_of_ble_eq_true rfl) (Nat.le_of_ble_eq_true rfl) kd_X7_108 (by decide) kf_X7_50 rfl rfl (fun _ => rfl) (fun _ => rfl) kd_X7_110 hW hS (fun q44 ids14 ad14 E14 H14 locs14 hs14 hW hS => ?_)
  have hke14 := KE_cons (k := 44) (e := .inl (T 0, (6, .inl (fun _ => 0)))) (by decide) hke13
  have hfl14 := (List.length_set (i := 20) (a := Value.ref q44)).trans hfl13
  clear hs13 hke13 hfl13
  refine W.eq (g2 := F0 m 113 ls []) rfl ?_
  refine lv_aload_n X.1 X.2.1 kd_X7_113 rfl (lv_at hl 0 rfl) ?_
  refine lv_bipush (v := 6) X.1 X.2.1 kd_X7_114 (by decide) ?_
  refine s7_row X hin (a := ad 30) (k1 := 45) (j := 21) (index := 53) (atype := .int) (ty := .int) (t0 := 0) (j0 := 0) (N' := 6) (n := 6) (a0 := (6, .inl (fun _ => 0))) (fun x => 31 ≤ x ∧ x < 46) hRg hk0 (fun x hx z => absurd hx (Nat.not_lt_zero x)) hke14 hs14 rfl hfl14 ⟨by unfold RG7; omega, by omega⟩ (fun x hx => by omega) rfl (fun C h => by cases h) rfl ka_int (fun _ => rfl) (by decide) rfl (Nat.le_of_ble_eq_true rfl) (Nat.le_of_ble_eq_true rfl) (Nat.le_of_ble_eq_true rfl) kd_X7_116 (by decide) kf_X7_53 rfl rfl (fun _ => rfl) (fun _ => rfl) kd_X7_118 hW hS (fun q45 ids15 ad15 E15 H15 locs15 hs15 hW hS => ?_)
  have hke15 := KE_cons (k := 45) (e := .inl (T 0, (6, .inl (fun _ => 0)))) (by decide) hke14
  have hfl15 := (List.length_set (i := 21) (a := Value.ref q45)).trans hfl14
  clear hs14 hke14 hfl14
  refine W.eq (g2 := F0 m 121 ls []) rfl ?_
  refine lv_aload_n X.1 X.2.1 kd_X7_121 rfl (lv_at hl 0 rfl) ?_
  refine lv_bipush (v := 6) X.1 X.2.1 kd_X7_122 (by decide) ?_
  refine s7_row X hin (a := ad 30) (k1 := 46) (j := 22) (index := 56) (atype := .int) (ty := .int) (t0 := 0) (j0 := 0) (N' := 6) (n := 6) (a0 := (6, .inl (fun _ => 0))) (fun x => 31 ≤ x ∧ x < 47) hRg hk0 (fun x hx z => absurd hx (Nat.not_lt_zero x)) hke15 hs15 rfl hfl15 ⟨by unfold RG7; omega, by omega⟩ (fun x hx => by omega) rfl (fun C h => by cases h) rfl ka_int (fun _ => rfl) (by decide) rfl (Nat.le_of_ble_eq_true rfl) (Nat.le_of_ble_eq_true rfl) (Nat.le_of_ble_eq_true rfl) kd_X7_124 (by decide) kf_X7_56 rfl rfl (fun _ => rfl) (fun _ => rfl) kd_X7_126 hW hS (fun q46 ids16 ad16 E16 H16 locs16 hs16 hW hS => ?_)
  have hke16 := KE_cons (k := 46) (e := .inl (T 0, (6, .inl (fun _ => 0)))) (by decide) hke15
  have hfl16 := (List.length_set (i := 22) (a := Value.ref q46)).trans hfl15
  clear hs15 hke15 hfl15
  refine W.eq (g2 := F0 m 129 ls []) rfl ?_
  refine lv_aload_n X.1 X.2.1 kd_X7_129 rfl (lv_at hl 0 rfl) ?_
  refine lv_bipush (v := 6) X.1 X.2.1 kd_X7_130 (by decide) ?_
  refine s7_row X hin (a := ad 30) (k1 := 47) (j := 23) (index := 59) (atype := .int) (ty := .int) (t0 := 0) (j0 := 0) (N' := 6) (n := 6) (a0 := (6, .inl (fun _ => 0))) (fun x => 31 ≤ x ∧ x < 48) hRg hk0 (fun x hx z => absurd hx (Nat.not_lt_zero x)) hke16 hs16 rfl hfl16 ⟨by unfold RG7; omega, by omega⟩ (fun x hx => by omega) rfl (fun C h => by cases h) rfl ka_int (fun _ => rfl) (by decide) rfl (Nat.le_of_ble_eq_true rfl) (Nat.le_of_ble_eq_true rfl) (Nat.le_of_ble_eq_true rfl) kd_X7_132 (by decide) kf_X7_59 rfl rfl (fun _ => rfl) (fun _ => rfl) kd_X7_134 hW hS (fun q47 ids17 ad17 E17 H17 locs17 hs17 hW hS => ?_)
  have hke17 := KE_cons (k := 47) (e := .inl (T 0, (6, .inl (fun _ => 0)))) (by decide) hke16
  have hfl17 := (List.length_set (i := 23) (a := Value.ref q47)).trans hfl16
  clear hs16 hke16 hfl16
  refine W.eq (g2 := F0 m 137 ls []) rfl ?_
  refine lv_aload_n X.1 X.2.1 kd_X7_137 rfl (lv_at hl 0 rfl) ?_
  refine lv_bipush (v := 42) X.1 X.2.1 kd_X7_138 (by decide) ?_
  refine s7_row X hin (a := ad 30) (k1 := 48) (j := 25) (index := 62) (atype := .long) (ty := .long) (t0 := 2) (j0 := 2) (N' := 42) (n := 42) (a0 := (42, .inr (.inl (fun _ => 0)))) (fun x => 31 ≤ x ∧ x < 49) hRg hk0 (fun x hx z => absurd hx (Nat.not_lt_zero x)) hke17 hs17 rfl hfl17 ⟨by unfold RG7; omega, by omega⟩ (fun x hx => by omega) rfl (fun C h => by cases h) rfl ka_long (fun _ => rfl) (by decide) rfl (Nat.le_of_ble_eq_true rfl) (Nat.le_of_ble_eq_true rfl) (Nat.le_of_ble_eq_true rfl) kd_X7_140 (by decide) kf_X7_62 rfl rfl (fun _ => rfl) (fun _ => rfl) kd_X7_142 hW hS (fun q48 ids18 ad18 E18 H18 locs18 hs18 hW hS => ?_)
  have hke18 := KE_cons (k := 48) (e := .inl (T 2, (42, .inr (.inl (fun _ => 0))))) (by decide) hke17
  have hfl18 := (List.length_set (i := 25) (a := Value.ref q48)).trans hfl17
  clear hs17 hke17 hfl17
  refine W.eq (g2 := F0 m 145 ls []) rfl ?_
  obtain ⟨a1, a2, a3, a4, a5, a6⟩ := hs18
  rw [show mv_zf 7 = [Value.int 0, .null, .int 0, .int 0, .int 0, .null, .null, .null, .int 0, .null, .null, .null, .null, .null, .null, .null, .int 0, .null, .null, .int 0, .null, .null, .null, .null, .long 0, .null] from rfl] at a4
  simp only [List.set_cons_succ, List.set_cons_zero] at a4
  refine lv_aload_n X.1 X.2.1 kd_X7_145 rfl (lv_at hl 0 rfl) ?_
  refine k_get X (ci := 7) (k := 30) (j := 13) (index := 34) (v := .ref q39) (by decide) (a1 30 hk0).2.1 (a1 30 hk0).1 a4 (by decide) kf_X7_34 rfl rfl kd_X7_146 hW ?_
  refine lv_bipush (v := 120) X.1 X.2.1 kd_X7_149 (by decide) ?_
  refine lv_sipush (v := 2620) X.1 X.2.1 kd_X7_151 (by decide) ?_
  have m39 := a5 (39, q39) (List.mem_of_getElem? (i := 9) rfl)
  have e39 := a6 (39, _) (List.mem_of_getElem? (i := 9) rfl)
  refine k_iast X (k := 39) (n := 121) (f := fun _ => 0) (i := 120) (x := 2620) m39.2 m39.1 e39.2 (vp_in_nI (n := 120) (by decide) (by decide)) kd_X7_154 hW hS (fun H2 locs2 hW hS => ?_)
  rw [show (120 : Int32).toNatClampNeg = 120 from rfl] at hW
  have h39 : ∀ x ∈ ids, x ≠ 39 := fun x hx z => hRg x hx (by unfold RG7; omega)
  refine k_end X hr hlocks kd_X7_155 (fun x hx => ⟨(a1 x hx).1, (a1 x hx).2.1, fun z => (up_ne (h39 x hx)).trans ((a1 x hx).2.2 z)⟩) (fun x hx => (a2 x hx).elim Or.inl (fun h => Or.inr (by unfold RG7; omega))) (DO_model (a1 30 hk0).1 ((up_ne (by decide)).trans a4) a5 (fun y hy => ?_)) hW hS
  simp only [List.mem_cons, List.not_mem_nil, or_false] at hy
  rcases hy with rfl | rfl | rfl | rfl | rfl | rfl | rfl | rfl | rfl | rfl | rfl | rfl | rfl | rfl | rfl | rfl | rfl | rfl
  · exact (up_ne (show (31 : Nat) ≠ 39 by decide)).trans (a6 (31, _) (List.mem_of_getElem? (i := 17) rfl)).2
  · exact (up_ne (show (32 : Nat) ≠ 39 by decide)).trans (a6 (32, _) (List.mem_of_getElem? (i := 16) rfl)).2
  · exact (up_ne (show (33 : Nat) ≠ 39 by decide)).trans (a6 (33, _) (List.mem_of_getElem? (i := 15) rfl)).2
  · exact (up_ne (show (34 : Nat) ≠ 39 by decide)).trans (a6 (34, _) (List.mem_of_getElem? (i := 14) rfl)).2
  · exact (up_ne (show (35 : Nat) ≠ 39 by decide)).trans (a6 (35, _) (List.mem_of_getElem? (i := 13) rfl)).2
  · exact (up_ne (show (36 : Nat) ≠ 39 by decide)).trans (a6 (36, _) (List.mem_of_getElem? (i := 12) rfl)).2
  · exact (up_ne (show (37 : Nat) ≠ 39 by decide)).trans (a6 (37, _) (List.mem_of_getElem? (i := 11) rfl)).2
  · exact (up_ne (show (38 : Nat) ≠ 39 by decide)).trans (a6 (38, _) (List.mem_of_getElem? (i := 10) rfl)).2
  · exact up_eq
  · exact (up_ne (show (40 : Nat) ≠ 39 by decide)).trans (a6 (40, _) (List.mem_of_getElem? (i := 8) rfl)).2
  · exact (up_ne (show (41 : Nat) ≠ 39 by decide)).trans (a6 (41, _) (List.mem_of_getElem? (i := 7) rfl)).2
  · exact (up_ne (show (42 : Nat) ≠ 39 by decide)).trans (a6 (42, _) (List.mem_of_getElem? (i := 6) rfl)).2
  · exact (up_ne (show (43 : Nat) ≠ 39 by decide)).trans (a6 (43, _) (List.mem_of_getElem? (i := 5) rfl)).2
  · exact (up_ne (show (44 : Nat) ≠ 39 by decide)).trans (a6 (44, _) (List.mem_of_getElem? (i := 4) rfl)).2
  · exact (up_ne (show (45 : Nat) ≠ 39 by decide)).trans (a6 (45, _) (List.mem_of_getElem? (i := 3) rfl)).2
  · exact (up_ne (show (46 : Nat) ≠ 39 by decide)).trans (a6 (46, _) (List.mem_of_getElem? (i := 2) rfl)).2
  · exact (up_ne (show (47 : Nat) ≠ 39 by decide)).trans (a6 (47, _) (List.mem_of_getElem? (i := 1) rfl)).2
  · exact (up_ne (show (48 : Nat) ≠ 39 by decide)).trans (a6 (48, _) (List.mem_of_getElem? (i := 0) rfl)).2
