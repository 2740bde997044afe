/-! The constructor of CountWatch. -/
theorem ST_rot {D : va_G} {T : Nat → ClassId} {ids ids1 : List Nat} {ad ad1 : Nat → Nat} {E E1 : Nat → va_E} {P Pd : Nat → Prop} {fs : List Value} {kq : List (Nat × Nat)} {a b c : Nat × va_E} (h : ST D T ids ad E P Pd fs kq [a, b, c] ids1 ad1 E1) : ST D T ids ad E P Pd fs kq [c, a, b] ids1 ad1 E1 := by
  obtain ⟨a1, a2, a3, a4, a5, a6⟩ := h
  refine ⟨a1, a2, a3, a4, a5, fun y hy => a6 y ?_⟩
  simp only [List.mem_cons, List.not_mem_nil, or_false] at hy ⊢
  exact hy.elim (fun h => Or.inr (Or.inr h)) (fun h => h.elim Or.inl (fun h => Or.inr (Or.inl h)))
theorem rf_5 (j : Nat) : mv_rf 5 j = if j < 2 then some (430 + 2 * j) else none := by
  show (match Nat.blt j 2 with | true => some (430 + 2 * j) | false => none) = _
  by_cases h : j < 2
  · have hb : Nat.blt j 2 = true := Nat.blt_eq.mpr h
    rw [hb, if_pos h]
  · have hb : Nat.blt j 2 = false := by rw [Bool.eq_false_iff]; intro z; exact h (Nat.blt_eq.mp z)
    rw [hb, if_neg h]
theorem rf_7 (j : Nat) : mv_rf 7 j = if j < 6 then some (8 + j) else none := by
  show (match Nat.blt j 6 with | true => some (8 + j) | false => none) = _
  by_cases h : j < 6
  · have hb : Nat.blt j 6 = true := Nat.blt_eq.mpr h
    rw [hb, if_pos h]
  · have hb : Nat.blt j 6 = false := by rw [Bool.eq_false_iff]; intro z; exact h (Nat.blt_eq.mp z)
    rw [hb, if_neg h]
theorem rf_0 {j q : Nat} (h : mv_rf 0 j = some q) : q ∈ ([1, 400, 3, 5, 6, 7, 370, 434, 14] : List Nat) := by
  match j with
  | 0 => cases h; decide
  | 1 => cases h; decide
  | 2 => cases h; decide
  | 3 => cases h; decide
  | 4 => cases h; decide
  | 5 => cases h; decide
  | 6 => cases h
  | 7 => cases h
  | 8 => cases h; decide
  | 9 => cases h; decide
  | 10 => cases h; decide
  | j + 11 => cases h
theorem DO_cw {D : va_G} {T : Nat → ClassId} {ids : List Nat} {ad : Nat → Nat} {E : Nat → va_E} {q0 q1 q2 q3 q4 q5 q8 q9 q10 s0 s1 t0 t1 t2 t3 t4 t5 : Nat} (hd : DO D T (fun x => RG6 x ∧ x ≠ 5 ∧ x ≠ 6 ∧ x ≠ 7) ids ad E) (h0 : 0 ∈ ids) (he : E 0 = .inr (6, [.ref q0, .ref q1, .ref q2, .ref q3, .ref q4, .ref q5, .int 0, .long 0, .ref q8, .ref q9, .ref q10])) (hk : AK [(13, t5), (12, t4), (11, t3), (10, t2), (9, t1), (8, t0), (432, s1), (430, s0), (14, q10), (434, q9), (370, q8), (7, q5), (6, q4), (5, q3), (3, q2), (400, q1), (1, q0)] ids ad) (h5 : E 5 = .inl (T 12, (2, .inr (.inr (.inr (.inr (va_up (va_up (fun _ => none) 0 (some s0)) 1 (some s1)))))))) (h6 : E 6 = .inl (T 1, (2, .inl (fun _ => 0)))) (h7 : E 7 = .inl (T 14, (6, .inr (.inr (.inr (.inr (va_up (va_up (va_up (va_up (va_up (va_up (fun _ => none) 0 (some t0)) 1 (some t1)) 2 (some t2)) 3 (some t3)) 4 (some t4)) 5 (some t5)))))))) : DO D T (fun x => RG6 x ∨ x = 0) ids ad E := by
  have k := fun (y : Nat × Nat) (i : Nat) (h : ([(13, t5), (12, t4), (11, t3), (10, t2), (9, t1), (8, t0), (432, s1), (430, s0), (14, q10), (434, q9), (370, q8), (7, q5), (6, q4), (5, q3), (3, q2), (400, q1), (1, q0)] : List (Nat × Nat))[i]? = some y) => hk y (List.mem_of_getElem? h)
  intro x hx
  rcases hx with hx | rfl
  · by_cases h : x ≠ 5 ∧ x ≠ 6 ∧ x ≠ 7
    · exact hd x ⟨hx, h⟩
    · have h3 : x = 5 ∨ x = 6 ∨ x = 7 := by omega
      rcases h3 with rfl | rfl | rfl
      · refine ⟨(k (5, q3) 13 rfl).1, h5.trans ?_, fun j q hq => ?_⟩
        · have := mv_cell5 (G := (D, (ad, T))) (I := I00) (J := J00) (k := 5) (n := 2) (t := 2) rfl
          unfold finE
          rw [this]
          congr 7
          funext j
          rw [rf_5]
          match j with
          | 0 => exact congrArg some (k (430, s0) 7 rfl).2.symm
          | 1 => exact congrArg some (k (432, s1) 6 rfl).2.symm
          | j + 2 =>
            rw [if_neg (by omega), up_ne (by omega), up_ne (by omega)]
            rfl
        · rw [rf_5] at hq
          match j with
          | 0 => cases hq; exact (k (430, s0) 7 rfl).1
          | 1 => cases hq; exact (k (432, s1) 6 rfl).1
          | j + 2 =>
            rw [if_neg (by omega)] at hq
            cases hq
      · refine ⟨(k (6, q4) 12 rfl).1, h6.trans ?_, fun j q hq => by cases hq⟩
        have := mv_cell3 (G := (D, (ad, T))) (I := I00) (J := J00) (k := 6) (n := 2) rfl
        unfold finE
        rw [this]
        congr 4
      · refine ⟨(k (7, q5) 11 rfl).1, h7.trans ?_, fun j q hq => ?_⟩
        · have := mv_cell5 (G := (D, (ad, T))) (I := I00) (J := J00) (k := 7) (n := 6) (t := 4) rfl
          unfold finE
          rw [this]
          congr 7
          funext j
          rw [rf_7]
          match j with
          | 0 => exact congrArg some (k (8, t0) 5 rfl).2.symm
          | 1 => exact congrArg some (k (9, t1) 4 rfl).2.symm
          | 2 => exact congrArg some (k (10, t2) 3 rfl).2.symm
          | 3 => exact congrArg some (k (11, t3) 2 rfl).2.symm
          | 4 => exact congrArg some (k (12, t4) 1 rfl).2.symm
          | 5 => exact congrArg some (k (13, t5) 0 rfl).2.symm
          | j + 6 =>
            rw [if_neg (by omega), up_ne (by omega), up_ne (by omega), up_ne (by omega), up_ne (by omega), up_ne (by omega), up_ne (by omega)]
            rfl
        · rw [rf_7] at hq
          match j with
          | 0 => cases hq; exact (k (8, t0) 5 rfl).1
          | 1 => cases hq; exact (k (9, t1) 4 rfl).1
          | 2 => cases hq; exact (k (10, t2) 3 rfl).1
          | 3 => cases hq; exact (k (11, t3) 2 rfl).1
          | 4 => cases hq; exact (k (12, t4) 1 rfl).1
          | 5 => cases hq; exact (k (13, t5) 0 rfl).1
          | j + 6 =>
            rw [if_neg (by omega)] at hq
            cases hq
  · refine ⟨h0, he.trans ?_, fun j q hq => ?_⟩
    · rw [finE_obj (ci := 6) rfl]
      show _ = Sum.inr (6, [Value.ref (ad 1), .ref (ad 400), .ref (ad 3), .ref (ad 5), .ref (ad 6), .ref (ad 7), .int (I00 0 6), .long (J00 0 7), .ref (ad 370), .ref (ad 434), .ref (ad 14)])
      rw [(k (1, q0) 16 rfl).2, (k (400, q1) 15 rfl).2, (k (3, q2) 14 rfl).2, (k (5, q3) 13 rfl).2, (k (6, q4) 12 rfl).2, (k (7, q5) 11 rfl).2, (k (370, q8) 10 rfl).2, (k (434, q9) 9 rfl).2, (k (14, q10) 8 rfl).2]
      rfl
    · have hm := rf_0 hq
      simp only [List.mem_cons, List.not_mem_nil, or_false] at hm
      rcases hm with rfl | rfl | rfl | rfl | rfl | rfl | rfl | rfl | rfl
      · exact (k (1, q0) 16 rfl).1
      · exact (k (400, q1) 15 rfl).1
      · exact (k (3, q2) 14 rfl).1
      · exact (k (5, q3) 13 rfl).1
      · exact (k (6, q4) 12 rfl).1
      · exact (k (7, q5) 11 rfl).1
      · exact (k (370, q8) 10 rfl).1
      · exact (k (434, q9) 9 rfl).1
      · exact (k (14, q10) 8 rfl).1
theorem kc_cw (l : Launch) : KC l yX6_init cX6_init 2 4 74 330 3331 6 0 RG6 := by
  intro D T A b0 ids ad E hb0 hk0 he hRg
  refine Met.ofW (cc := cX6_init) (maxL := 2) (ret := none) (by decide) rfl ?_
  intro p e s m args below meth c s₁ B hml hv
  obtain ⟨rfl, hsz, hW, hK, hN⟩ := hv
  have X : KX p s m ([Value.ref (ad (0))] : List Value).toArray c cX6_init RX6 D T A s.heap := ⟨B.exec, B.bytes, findClass_of_methodNamed B.named, fun w hw => atoms_spec (ws := kws yX6_init cX6_init 2) B.pre w (List.mem_cons_of_mem _ hw), hK, hN, fun q h => hb0 q (Nat.le_trans hsz h)⟩
  have hr := B.returns
  have hlocks := B.notSynchronized
  have hin : meth.name = "<init>" := (name_of_methodNamed B.named B.method).1
  have hS : va_S A s.heap s.heap [] := va_S.rf
  have hl := lv_entry ([.ref (ad (0))]) (n := 2) (Nat.le_of_ble_eq_true rfl)
  rw [lg_entry_eq]
  generalize (lg_sl ([.ref (ad (0))]) ++ List.replicate (2 - (lg_sl ([.ref (ad (0))])).length) Slot.unset).toArray = ls at hl ⊢
  have hl : lv_has ls 2 [(0, .ref (ad (0)))] := hl
  refine lv_aload_n X.1 X.2.1 kd_X6_0 rfl (lv_at hl 0 rfl) ?_
  refine W.objInit X.1 X.2.1 X.2.2.1 (X.2.2.2.1 _ kl_X6_1) (X.2.2.2.1 _ ki_obj) (X.2.2.2.1 _ kb_obj) rfl (by rw [hml]; exact hl.1) rfl kd_X6_1 (Nat.le_of_ble_eq_true rfl) (Nat.le_of_ble_eq_true rfl) ?_
  refine W.eq (g2 := F0 m 4 ls []) rfl ?_
  have hs0 : ST D T ids ad E (fun x => x < 0) (fun x => x < 0) (mv_zf 6) [] [] ids ad E := ⟨FR_rfl, fun x hx => Or.inl hx, fun x hx => absurd hx (Nat.not_lt_zero x), he, fun y hy => absurd hy List.not_mem_nil, fun y hy => absurd hy List.not_mem_nil⟩
  refine lv_aload_n X.1 X.2.1 kd_X6_4 rfl (lv_at hl 0 rfl) ?_
  refine s6_obj X hin (a := ad 0) (ci1 := 5) (k1 := 1) (j := 0) (index0 := 10) (index := 7) (index2 := 9) (nL := 2) (y := yX5_init) (cd := cX5_init) (maxL := 1) (fr := 1) (lo := 12) (ce := 1) (sl := 80) (Rg := (fun x => x = 2)) (fun x => (1 ≤ x ∧ x ≤ 2)) (fun x => (1 ≤ x ∧ x ≤ 2)) hRg hk0 (fun x hx => by omega) (by simp) hs0 rfl rfl (fun x hx => by unfold RG6; omega) (by omega) (fun x hx => by omega) (fun x hx => by omega) (by decide) kc_X6_7 ks_X5 kn_X5 hml hl.1 (kc_text l) hb0 hsz ⟨kb_X5, Or.inr ⟨RX6, List.mem_of_getElem? (i := 1) rfl⟩, ki_X5, kn_X5, rfl, ⟨by decide, by decide, rfl⟩, ⟨Nat.le_of_ble_eq_true rfl, Nat.le_of_ble_eq_true rfl⟩⟩ ⟨Nat.le_of_ble_eq_true rfl, Nat.le_of_ble_eq_true rfl⟩ (Nat.le_of_ble_eq_true rfl) kd_X6_5 kd_X6_8 kd_X6_9 (by decide) kf_X6_10 rfl rfl (fun _ => rfl) (fun _ => rfl) kd_X6_12 hW hS (fun q0 ids1 ad1 E1 H1 locs1 hs1 hW hS => ?_)
  refine W.eq (g2 := F0 m 15 ls []) rfl ?_
  refine lv_aload_n X.1 X.2.1 kd_X6_15 rfl (lv_at hl 0 rfl) ?_
  refine s6_obj X hin (a := ad 0) (ci1 := 2) (k1 := 400) (j := 1) (index0 := 19) (index := 16) (index2 := 18) (nL := 2) (y := yX2_init) (cd := cX2_init) (maxL := 2) (fr := 2) (lo := 32) (ce := 16) (sl := 170) (Rg := (RG2 0)) (fun x => (1 ≤ x ∧ x ≤ 2) ∨ (100 ≤ x ∧ x < 115) ∨ (400 ≤ x ∧ x < 402)) (fun x => (1 ≤ x ∧ x ≤ 2) ∨ (100 ≤ x ∧ x < 115) ∨ (400 ≤ x ∧ x < 402)) hRg hk0 (fun x hx => by omega) (by simp) hs1 rfl rfl (fun x hx => by unfold RG2 at hx; unfold RG6; omega) (by unfold RG2; omega) (fun x hx => by unfold RG2 at hx; omega) (fun x hx => by unfold RG2; omega) (by decide) kc_X6_16 ks_X2 kn_X2 hml hl.1 (kc_group l (g := 0) (by decide)) hb0 hsz ⟨kb_X2, Or.inl kl_X6_18, ki_X2, kn_X2, rfl, ⟨by decide, by decide, rfl⟩, ⟨Nat.le_of_ble_eq_true rfl, Nat.le_of_ble_eq_true rfl⟩⟩ ⟨Nat.le_of_ble_eq_true rfl, Nat.le_of_ble_eq_true rfl⟩ (Nat.le_of_ble_eq_true rfl) kd_X6_16 kd_X6_19 kd_X6_20 (by decide) kf_X6_19 rfl rfl (fun _ => rfl) (fun _ => rfl) kd_X6_23 hW hS (fun q1 ids2 ad2 E2 H2 locs2 hs2 hW hS => ?_)
  refine W.eq (g2 := F0 m 26 ls []) rfl ?_
  refine lv_aload_n X.1 X.2.1 kd_X6_26 rfl (lv_at hl 0 rfl) ?_
  refine s6_obj X hin (a := ad 0) (ci1 := 0) (k1 := 3) (j := 2) (index0 := 26) (index := 23) (index2 := 25) (nL := 2) (y := yX0_init) (cd := cX0_init) (maxL := 2) (fr := 3) (lo := 53) (ce := 239) (sl := 2436) (Rg := RG0) (fun x => (1 ≤ x ∧ x ≤ 4) ∨ (100 ≤ x ∧ x < 325) ∨ (400 ≤ x ∧ x < 430)) (fun x => (1 ≤ x ∧ x ≤ 4) ∨ (100 ≤ x ∧ x < 325) ∨ (400 ≤ x ∧ x < 430)) hRg hk0 (fun x hx => by omega) (by simp) hs2 rfl rfl (fun x hx => by unfold RG0 at hx; unfold RG6; omega) (by unfold RG0; omega) (fun x hx => by unfold RG0 at hx; omega) (fun x hx => by unfold RG0; omega) (by decide) kc_X6_23 ks_X0 kn_X0 hml hl.1 (kc_acts l) hb0 hsz ⟨kb_X0, Or.inl kl_X6_25, ki_X0, kn_X0, rfl, ⟨by decide, by decide, rfl⟩, ⟨Nat.le_of_ble_eq_true rfl, Nat.le_of_ble_eq_true rfl⟩⟩ ⟨Nat.le_of_ble_eq_true rfl, Nat.le_of_ble_eq_true rfl⟩ (Nat.le_of_ble_eq_true rfl) kd_X6_27 kd_X6_30 kd_X6_31 (by decide) kf_X6_26 rfl rfl (fun _ => rfl) (fun _ => rfl) kd_X6_34 hW hS (fun q2 ids3 ad3 E3 H3 locs3 hs3 hW hS => ?_)
  refine W.eq (g2 := F0 m 37 ls []) rfl ?_
  refine lv_aload_n X.1 X.2.1 kd_X6_37 rfl (lv_at hl 0 rfl) ?_
  refine lv_iconst (v := 2) X.1 X.2.1 kd_X6_38 (by decide) ?_
  refine s6_arr X hin (a := ad 0) (k1 := 5) (j := 3) (index := 30) (index2 := 16) (C := RX2) (t0 := 12) (j0 := 4) (N' := 2) (n := 2) (fun x => (1 ≤ x ∧ x ≤ 5) ∨ (100 ≤ x ∧ x < 325) ∨ (400 ≤ x ∧ x < 430)) hRg hk0 (fun x hx => by omega) (by simp) hs3 rfl rfl ⟨by unfold RG6; omega, by omega⟩ (fun x hx => by omega) rfl kc_X6_16 (List.mem_of_getElem? (i := 6) rfl) (by decide) rfl (Nat.le_of_ble_eq_true rfl) (Nat.le_of_ble_eq_true rfl) (Nat.le_of_ble_eq_true rfl) kd_X6_39 (by decide) kf_X6_30 rfl rfl (fun _ => rfl) (fun _ => rfl) kd_X6_42 hW hS (fun q3 ids4 ad4 E4 H4 locs4 hs4 hW hS => ?_)
  refine W.eq (g2 := F0 m 45 ls []) rfl ?_
  refine lv_aload_n X.1 X.2.1 kd_X6_45 rfl (lv_at hl 0 rfl) ?_
  refine lv_iconst (v := 2) X.1 X.2.1 kd_X6_46 (by decide) ?_
  refine s6_row X hin (a := ad 0) (k1 := 6) (j := 4) (index := 34) (atype := .boolean) (ty := .boolean) (t0 := 1) (j0 := 1) (N' := 2) (n := 2) (a0 := (2, .inl (fun _ => 0))) (fun x => (1 ≤ x ∧ x ≤ 6) ∨ (100 ≤ x ∧ x < 325) ∨ (400 ≤ x ∧ x < 430)) hRg hk0 (fun x hx => by omega) (by simp) hs4 rfl rfl ⟨by unfold RG6; omega, by omega⟩ (fun x hx => by omega) rfl (fun C h => by cases h) rfl ka_boolean (fun _ => rfl) (by decide) rfl (Nat.le_of_ble_eq_true rfl) (Nat.le_of_ble_eq_true rfl) (Nat.le_of_ble_eq_true rfl) kd_X6_47 (by decide) kf_X6_34 rfl rfl (fun _ => rfl) (fun _ => rfl) kd_X6_49 hW hS (fun q4 ids5 ad5 E5 H5 locs5 hs5 hW hS => ?_)
  refine W.eq (g2 := F0 m 52 ls []) rfl ?_
  refine lv_aload_n X.1 X.2.1 kd_X6_52 rfl (lv_at hl 0 rfl) ?_
  refine lv_bipush (v := 6) X.1 X.2.1 kd_X6_53 (by decide) ?_
  refine s6_arr X hin (a := ad 0) (k1 := 7) (j := 5) (index := 40) (index2 := 38) (C := RX4) (t0 := 14) (j0 := 5) (N' := 6) (n := 6) (fun x => (1 ≤ x ∧ x ≤ 7) ∨ (100 ≤ x ∧ x < 325) ∨ (400 ≤ x ∧ x < 430)) hRg hk0 (fun x hx => by omega) (by simp) hs5 rfl rfl ⟨by unfold RG6; omega, by omega⟩ (fun x hx => by omega) rfl kc_X6_38 (List.mem_of_getElem? (i := 7) rfl) (by decide) rfl (Nat.le_of_ble_eq_true rfl) (Nat.le_of_ble_eq_true rfl) (Nat.le_of_ble_eq_true rfl) kd_X6_55 (by decide) kf_X6_40 rfl rfl (fun _ => rfl) (fun _ => rfl) kd_X6_58 hW hS (fun q5 ids6 ad6 E6 H6 locs6 hs6 hW hS => ?_)
  refine W.eq (g2 := F0 m 61 ls []) rfl ?_
  refine lv_aload_n X.1 X.2.1 kd_X6_61 rfl (lv_at hl 0 rfl) ?_
  refine lv_iconst (v := 0) X.1 X.2.1 kd_X6_62 (by decide) ?_
  refine k_put X (ci := 6) (k := 0) (j := 6) (index := 44) (v := .int 0) (by decide) (hs6.1 0 hk0).2.1 (hs6.1 0 hk0).1 hs6.2.2.2.1 (by decide) rfl kf_X6_44 rfl rfl rfl rfl kd_X6_63 hW hS (fun H62 locs62 hW hS => ?_)
  have hs62 := ST_put (j := 6) (v := .int 0) (fun x hx => by omega) (by simp) hs6
  clear hs6
  refine lv_aload_n X.1 X.2.1 kd_X6_66 rfl (lv_at hl 0 rfl) ?_
  refine lv_lconst (v := 0) X.1 X.2.1 kd_X6_67 (by decide) ?_
  refine k_put X (ci := 6) (k := 0) (j := 7) (index := 48) (v := .long 0) (by decide) (hs62.1 0 hk0).2.1 (hs62.1 0 hk0).1 hs62.2.2.2.1 (by decide) rfl kf_X6_48 rfl rfl rfl rfl kd_X6_68 hW hS (fun H63 locs63 hW hS => ?_)
  have hs63 := ST_put (j := 7) (v := .long 0) (fun x hx => by omega) (by simp) hs62
  clear hs62
  refine lv_aload_n X.1 X.2.1 kd_X6_71 rfl (lv_at hl 0 rfl) ?_
  refine s6_obj X hin (a := ad 0) (ci1 := 1) (k1 := 370) (j := 8) (index0 := 55) (index := 52) (index2 := 54) (nL := 2) (y := yX1_init) (cd := cX1_init) (maxL := 1) (fr := 1) (lo := 12) (ce := 2) (sl := 17) (Rg := (fun x => x = 101 + 3 * 90 ∨ x = 102 + 3 * 90)) (fun x => (1 ≤ x ∧ x ≤ 7) ∨ (100 ≤ x ∧ x < 325) ∨ (370 ≤ x ∧ x < 373) ∨ (400 ≤ x ∧ x < 430)) (fun x => (1 ≤ x ∧ x ≤ 4) ∨ (100 ≤ x ∧ x < 325) ∨ (370 ≤ x ∧ x < 373) ∨ (400 ≤ x ∧ x < 430)) hRg hk0 (fun x hx => by omega) (by simp) hs63 rfl rfl (fun x hx => by unfold RG6; omega) (by omega) (fun x hx => by omega) (fun x hx => by omega) (by decide) kc_X6_52 ks_X1 kn_X1 hml hl.1 (kc_chart l (k := 90) (by decide)) hb0 hsz ⟨kb_X1, Or.inr ⟨RX6, List.mem_of_getElem? (i := 2) rfl⟩, ki_X1, kn_X1, rfl, ⟨by decide, by decide, rfl⟩, ⟨Nat.le_of_ble_eq_true rfl, Nat.le_of_ble_eq_true rfl⟩⟩ ⟨Nat.le_of_ble_eq_true rfl, Nat.le_of_ble_eq_true rfl⟩ (Nat.le_of_ble_eq_true rfl) kd_X6_72 kd_X6_75 kd_X6_76 (by decide) kf_X6_55 rfl rfl (fun _ => rfl) (fun _ => rfl) kd_X6_79 hW hS (fun q8 ids7 ad7 E7 H7 locs7 hs7 hW hS => ?_)
  refine W.eq (g2 := F0 m 82 ls []) rfl ?_
  refine lv_aload_n X.1 X.2.1 kd_X6_82 rfl (lv_at hl 0 rfl) ?_
  refine s6_obj X hin (a := ad 0) (ci1 := 2) (k1 := 434) (j := 9) (index0 := 59) (index := 16) (index2 := 18) (nL := 2) (y := yX2_init) (cd := cX2_init) (maxL := 2) (fr := 2) (lo := 32) (ce := 16) (sl := 170) (Rg := (RG2 17)) (fun x => (1 ≤ x ∧ x ≤ 7) ∨ (100 ≤ x ∧ x < 325) ∨ (355 ≤ x ∧ x < 373) ∨ (400 ≤ x ∧ x < 430) ∨ (434 ≤ x ∧ x < 436)) (fun x => (1 ≤ x ∧ x ≤ 4) ∨ (100 ≤ x ∧ x < 325) ∨ (355 ≤ x ∧ x < 373) ∨ (400 ≤ x ∧ x < 430) ∨ (434 ≤ x ∧ x < 436)) hRg hk0 (fun x hx => by omega) (by simp) hs7 rfl rfl (fun x hx => by unfold RG2 at hx; unfold RG6; omega) (by unfold RG2; omega) (fun x hx => by unfold RG2 at hx; omega) (fun x hx => by unfold RG2; omega) (by decide) kc_X6_16 ks_X2 kn_X2 hml hl.1 (kc_group l (g := 17) (by decide)) hb0 hsz ⟨kb_X2, Or.inl kl_X6_18, ki_X2, kn_X2, rfl, ⟨by decide, by decide, rfl⟩, ⟨Nat.le_of_ble_eq_true rfl, Nat.le_of_ble_eq_true rfl⟩⟩ ⟨Nat.le_of_ble_eq_true rfl, Nat.le_of_ble_eq_true rfl⟩ (Nat.le_of_ble_eq_true rfl) kd_X6_83 kd_X6_86 kd_X6_87 (by decide) kf_X6_59 rfl rfl (fun _ => rfl) (fun _ => rfl) kd_X6_90 hW hS (fun q9 ids8 ad8 E8 H8 locs8 hs8 hW hS => ?_)
  refine W.eq (g2 := F0 m 93 ls []) rfl ?_
  refine lv_aload_n X.1 X.2.1 kd_X6_93 rfl (lv_at hl 0 rfl) ?_
  refine s6_obj X hin (a := ad 0) (ci1 := 3) (k1 := 14) (j := 10) (index0 := 65) (index := 62) (index2 := 64) (nL := 2) (y := yX3_init) (cd := cX3_init) (maxL := 1) (fr := 1) (lo := 12) (ce := 7) (sl := 48) (Rg := (fun x => 15 ≤ x ∧ x < 22)) (fun x => (1 ≤ x ∧ x ≤ 7) ∨ (14 ≤ x ∧ x < 22) ∨ (100 ≤ x ∧ x < 325) ∨ (355 ≤ x ∧ x < 373) ∨ (400 ≤ x ∧ x < 430) ∨ (434 ≤ x ∧ x < 436)) (fun x => (1 ≤ x ∧ x ≤ 4) ∨ (14 ≤ x ∧ x < 22) ∨ (100 ≤ x ∧ x < 325) ∨ (355 ≤ x ∧ x < 373) ∨ (400 ≤ x ∧ x < 430) ∨ (434 ≤ x ∧ x < 436)) hRg hk0 (fun x hx => by omega) (by simp) hs8 rfl rfl (fun x hx => by unfold RG6; omega) (by omega) (fun x hx => by omega) (fun x hx => by omega) (by decide) kc_X6_62 ks_X3 kn_X3 hml hl.1 (kc_run l) hb0 hsz ⟨kb_X3, Or.inr ⟨RX6, List.mem_of_getElem? (i := 3) rfl⟩, ki_X3, kn_X3, rfl, ⟨by decide, by decide, rfl⟩, ⟨Nat.le_of_ble_eq_true rfl, Nat.le_of_ble_eq_true rfl⟩⟩ ⟨Nat.le_of_ble_eq_true rfl, Nat.le_of_ble_eq_true rfl⟩ (Nat.le_of_ble_eq_true rfl) kd_X6_94 kd_X6_97 kd_X6_98 (by decide) kf_X6_65 rfl rfl (fun _ => rfl) (fun _ => rfl) kd_X6_101 hW hS (fun q10 ids9 ad9 E9 H9 locs9 hs9 hW hS => ?_)
  refine W.eq (g2 := F0 m 104 ls []) rfl ?_
  have hs9a := ST_rot hs9
  clear hs9
  refine lv_iconst (v := 0) X.1 X.2.1 kd_X6_104 (by decide) ?_
  refine lv_istore_n (lv' := [(1, .int 0), (0, .ref (ad 0))]) X.1 X.2.1 kd_X6_105 rfl hl (by decide) rfl (fun ls hl => ?_)
  refine lv_iload_n X.1 X.2.1 kd_X6_106 rfl (lv_at hl 0 rfl) ?_
  refine lv_iconst (v := 2) X.1 X.2.1 kd_X6_107 (by decide) ?_
  refine lv_icmp_ge (tgt := 130) X.1 X.2.1 kd_X6_108 (by decide) (fun hc => absurd hc (by decide)) (fun hc => ?_)
  refine lv_aload_n X.1 X.2.1 kd_X6_111 rfl (lv_at hl 1 rfl) ?_
  refine k_get X (ci := 6) (k := 0) (j := 3) (index := 30) (v := .ref q3) (by decide) (hs9a.1 0 hk0).2.1 (hs9a.1 0 hk0).1 hs9a.2.2.2.1 (by decide) kf_X6_30 rfl rfl kd_X6_112 hW ?_
  refine lv_iload_n X.1 X.2.1 kd_X6_115 rfl (lv_at hl 0 rfl) ?_
  refine s6_elt X (kr := 5) (a := q3) (ci1 := 2) (k1 := 430) (index := 16) (index2 := 18) (nL := 2) (y := yX2_init) (cd := cX2_init) (maxL := 2) (fr := 2) (lo := 32) (ce := 16) (sl := 170) (t0 := 12) (j0 := 4) (n := 2) (i := 0) (Rg := (RG2 15)) (fun x => (1 ≤ x ∧ x ≤ 7) ∨ (14 ≤ x ∧ x < 22) ∨ (100 ≤ x ∧ x < 340) ∨ (355 ≤ x ∧ x < 373) ∨ (400 ≤ x ∧ x < 432) ∨ (434 ≤ x ∧ x < 436)) (fun x => (1 ≤ x ∧ x ≤ 4) ∨ (14 ≤ x ∧ x < 22) ∨ (100 ≤ x ∧ x < 340) ∨ (355 ≤ x ∧ x < 373) ∨ (400 ≤ x ∧ x < 432) ∨ (434 ≤ x ∧ x < 436)) hRg hk0 (fun x hx => by omega) (by simp) hs9a ⟨by unfold RG6; omega, by decide⟩ (by simp) (fun x hx => by unfold RG2 at hx; unfold RG6; omega) (by unfold RG2; omega) (fun x hx => by unfold RG2 at hx; omega) (fun x hx => by unfold RG2; omega) rfl (vp_in_nI (n := 0) (by decide) (by decide)) (by decide) kc_X6_16 ks_X2 kn_X2 hml hl.1 (kc_group l (g := 15) (by decide)) hb0 hsz ⟨kb_X2, Or.inl kl_X6_18, ki_X2, kn_X2, rfl, ⟨by decide, by decide, rfl⟩, ⟨Nat.le_of_ble_eq_true rfl, Nat.le_of_ble_eq_true rfl⟩⟩ (mv_lay_gr (g := 15) (by decide)) ⟨Nat.le_of_ble_eq_true rfl, Nat.le_of_ble_eq_true rfl⟩ (Nat.le_of_ble_eq_true rfl) kd_X6_116 kd_X6_119 kd_X6_120 kd_X6_123 hW hS (fun s0 ids10 ad10 E10 H10 locs10 hs10 hW hS => ?_)
  refine W.eq (g2 := F0 m 124 ls []) rfl ?_
  refine lv_iinc (v := 1) (lv' := [(1, .int 1), (0, .ref (ad 0))]) X.1 X.2.1 kd_X6_124 hl (k := 0) rfl rfl (by decide) rfl (fun ls hl => ?_)
  refine lv_goto (tgt := 106) X.1 X.2.1 kd_X6_127 (by decide) ?_
  refine lv_iload_n X.1 X.2.1 kd_X6_106 rfl (lv_at hl 0 rfl) ?_
  refine lv_iconst (v := 2) X.1 X.2.1 kd_X6_107 (by decide) ?_
  refine lv_icmp_ge (tgt := 130) X.1 X.2.1 kd_X6_108 (by decide) (fun hc => absurd hc (by decide)) (fun hc => ?_)
  refine lv_aload_n X.1 X.2.1 kd_X6_111 rfl (lv_at hl 1 rfl) ?_
  refine k_get X (ci := 6) (k := 0) (j := 3) (index := 30) (v := .ref q3) (by decide) (hs10.1 0 hk0).2.1 (hs10.1 0 hk0).1 hs10.2.2.2.1 (by decide) kf_X6_30 rfl rfl kd_X6_112 hW ?_
  refine lv_iload_n X.1 X.2.1 kd_X6_115 rfl (lv_at hl 0 rfl) ?_
  refine s6_elt X (kr := 5) (a := q3) (ci1 := 2) (k1 := 432) (index := 16) (index2 := 18) (nL := 2) (y := yX2_init) (cd := cX2_init) (maxL := 2) (fr := 2) (lo := 32) (ce := 16) (sl := 170) (t0 := 12) (j0 := 4) (n := 2) (i := 1) (Rg := (RG2 16)) (fun x => (1 ≤ x ∧ x ≤ 7) ∨ (14 ≤ x ∧ x < 22) ∨ (100 ≤ x ∧ x < 355) ∨ (355 ≤ x ∧ x < 373) ∨ (400 ≤ x ∧ x < 434) ∨ (434 ≤ x ∧ x < 436)) (fun x => (1 ≤ x ∧ x ≤ 4) ∨ (14 ≤ x ∧ x < 22) ∨ (100 ≤ x ∧ x < 355) ∨ (355 ≤ x ∧ x < 373) ∨ (400 ≤ x ∧ x < 434) ∨ (434 ≤ x ∧ x < 436)) hRg hk0 (fun x hx => by omega) (by simp) hs10 ⟨by unfold RG6; omega, by decide⟩ (by simp) (fun x hx => by unfold RG2 at hx; unfold RG6; omega) (by unfold RG2; omega) (fun x hx => by unfold RG2 at hx; omega) (fun x hx => by unfold RG2; omega) rfl (vp_in_nI (n := 1) (by decide) (by decide)) (by decide) kc_X6_16 ks_X2 kn_X2 hml hl.1 (kc_group l (g := 16) (by decide)) hb0 hsz ⟨kb_X2, Or.inl kl_X6_18, ki_X2, kn_X2, rfl, ⟨by decide, by decide, rfl⟩, ⟨Nat.le_of_ble_eq_true rfl, Nat.le_of_ble_eq_true rfl⟩⟩ (mv_lay_gr (g := 16) (by decide)) ⟨Nat.le_of_ble_eq_true rfl, Nat.le_of_ble_eq_true rfl⟩ (Nat.le_of_ble_eq_true rfl) kd_X6_116 kd_X6_119 kd_X6_120 kd_X6_123 hW hS (fun s1 ids11 ad11 E11 H11 locs11 hs11 hW hS => ?_)
  refine W.eq (g2 := F0 m 124 ls []) rfl ?_
  refine lv_iinc (v := 2) (lv' := [(1, .int 2), (0, .ref (ad 0))]) X.1 X.2.1 kd_X6_124 hl (k := 0) rfl rfl (by decide) rfl (fun ls hl => ?_)
  refine lv_goto (tgt := 106) X.1 X.2.1 kd_X6_127 (by decide) ?_
  refine lv_iload_n X.1 X.2.1 kd_X6_106 rfl (lv_at hl 0 rfl) ?_
  refine lv_iconst (v := 2) X.1 X.2.1 kd_X6_107 (by decide) ?_
  refine lv_icmp_ge (tgt := 130) X.1 X.2.1 kd_X6_108 (by decide) (fun hc => ?_) (fun hc => absurd (by decide) hc)
  have hs11a := ST_rot (ST_rot hs11)
  refine lv_iconst (v := 0) X.1 X.2.1 kd_X6_130 (by decide) ?_
  refine lv_istore_n (lv' := [(1, .int 0), (0, .ref (ad 0))]) X.1 X.2.1 kd_X6_131 rfl hl (by decide) rfl (fun ls hl => ?_)
  refine lv_iload_n X.1 X.2.1 kd_X6_132 rfl (lv_at hl 0 rfl) ?_
  refine lv_bipush (v := 6) X.1 X.2.1 kd_X6_133 (by decide) ?_
  refine lv_icmp_ge (tgt := 157) X.1 X.2.1 kd_X6_135 (by decide) (fun hc => absurd hc (by decide)) (fun hc => ?_)
  refine lv_aload_n X.1 X.2.1 kd_X6_138 rfl (lv_at hl 1 rfl) ?_
  refine k_get X (ci := 6) (k := 0) (j := 5) (index := 40) (v := .ref q5) (by decide) (hs11a.1 0 hk0).2.1 (hs11a.1 0 hk0).1 hs11a.2.2.2.1 (by decide) kf_X6_40 rfl rfl kd_X6_139 hW ?_
  refine lv_iload_n X.1 X.2.1 kd_X6_142 rfl (lv_at hl 0 rfl) ?_
  refine s6_elt X (kr := 7) (a := q5) (ci1 := 4) (k1 := 8) (index := 38) (index2 := 69) (nL := 2) (y := yX4_init) (cd := cX4_init) (maxL := 1) (fr := 1) (lo := 12) (ce := 0) (sl := 0) (t0 := 14) (j0 := 5) (n := 6) (i := 0) (Rg := (fun x => x < 0)) (fun x => (1 ≤ x ∧ x ≤ 7) ∨ (8 ≤ x ∧ x < 9) ∨ (14 ≤ x ∧ x < 22) ∨ (100 ≤ x ∧ x < 373) ∨ (400 ≤ x ∧ x < 436)) (fun x => (1 ≤ x ∧ x ≤ 4) ∨ (8 ≤ x ∧ x < 9) ∨ (14 ≤ x ∧ x < 22) ∨ (100 ≤ x ∧ x < 373) ∨ (400 ≤ x ∧ x < 436)) hRg hk0 (fun x hx => by omega) (by simp) hs11a ⟨by unfold RG6; omega, by decide⟩ (by simp) (fun x hx => by unfold RG6; omega) (by omega) (fun x hx => by omega) (fun x hx => by omega) rfl (vp_in_nI (n := 0) (by decide) (by decide)) (by decide) kc_X6_38 ks_X4 kn_X4 hml hl.1 (kc_sight l (i := 0) (by decide)) hb0 hsz ⟨kb_X4, Or.inr ⟨RX6, List.mem_of_getElem? (i := 4) rfl⟩, ki_X4, kn_X4, rfl, ⟨by decide, by decide, rfl⟩, ⟨Nat.le_of_ble_eq_true rfl, Nat.le_of_ble_eq_true rfl⟩⟩ (lay_si 0 (by decide)) ⟨Nat.le_of_ble_eq_true rfl, Nat.le_of_ble_eq_true rfl⟩ (Nat.le_of_ble_eq_true rfl) kd_X6_143 kd_X6_146 kd_X6_147 kd_X6_150 hW hS (fun t0 ids12 ad12 E12 H12 locs12 hs12 hW hS => ?_)
  refine W.eq (g2 := F0 m 151 ls []) rfl ?_
  refine lv_iinc (v := 1) (lv' := [(1, .int 1), (0, .ref (ad 0))]) X.1 X.2.1 kd_X6_151 hl (k := 0) rfl rfl (by decide) rfl (fun ls hl => ?_)
  refine lv_goto (tgt := 132) X.1 X.2.1 kd_X6_154 (by decide) ?_
  refine lv_iload_n X.1 X.2.1 kd_X6_132 rfl (lv_at hl 0 rfl) ?_
  refine lv_bipush (v := 6) X.1 X.2.1 kd_X6_133 (by decide) ?_
  refine lv_icmp_ge (tgt := 157) X.1 X.2.1 kd_X6_135 (by decide) (fun hc => absurd hc (by decide)) (fun hc => ?_)
  refine lv_aload_n X.1 X.2.1 kd_X6_138 rfl (lv_at hl 1 rfl) ?_
  refine k_get X (ci := 6) (k := 0) (j := 5) (index := 40) (v := .ref q5) (by decide) (hs12.1 0 hk0).2.1 (hs12.1 0 hk0).1 hs12.2.2.2.1 (by decide) kf_X6_40 rfl rfl kd_X6_139 hW ?_
  refine lv_iload_n X.1 X.2.1 kd_X6_142 rfl (lv_at hl 0 rfl) ?_
  refine s6_elt X (kr := 7) (a := q5) (ci1 := 4) (k1 := 9) (index := 38) (index2 := 69) (nL := 2) (y := yX4_init) (cd := cX4_init) (maxL := 1) (fr := 1) (lo := 12) (ce := 0) (sl := 0) (t0 := 14) (j0 := 5) (n := 6) (i := 1) (Rg := (fun x => x < 0)) (fun x => (1 ≤ x ∧ x ≤ 7) ∨ (8 ≤ x ∧ x < 10) ∨ (14 ≤ x ∧ x < 22) ∨ (100 ≤ x ∧ x < 373) ∨ (400 ≤ x ∧ x < 436)) (fun x => (1 ≤ x ∧ x ≤ 4) ∨ (8 ≤ x ∧ x < 10) ∨ (14 ≤ x ∧ x < 22) ∨ (100 ≤ x ∧ x < 373) ∨ (400 ≤ x ∧ x < 436)) hRg hk0 (fun x hx => by omega) (by simp) hs12 ⟨by unfold RG6; omega, by decide⟩ (by simp) (fun x hx => by unfold RG6; omega) (by omega) (fun x hx => by omega) (fun x hx => by omega) rfl (vp_in_nI (n := 1) (by decide) (by decide)) (by decide) kc_X6_38 ks_X4 kn_X4 hml hl.1 (kc_sight l (i := 1) (by decide)) hb0 hsz ⟨kb_X4, Or.inr ⟨RX6, List.mem_of_getElem? (i := 4) rfl⟩, ki_X4, kn_X4, rfl, ⟨by decide, by decide, rfl⟩, ⟨Nat.le_of_ble_eq_true rfl, Nat.le_of_ble_eq_true rfl⟩⟩ (lay_si 1 (by decide)) ⟨Nat.le_of_ble_eq_true rfl, Nat.le_of_ble_eq_true rfl⟩ (Nat.le_of_ble_eq_true rfl) kd_X6_143 kd_X6_146 kd_X6_147 kd_X6_150 hW hS (fun t1 ids13 ad13 E13 H13 locs13 hs13 hW hS => ?_)
  refine W.eq (g2 := F0 m 151 ls []) rfl ?_
  refine lv_iinc (v := 2) (lv' := [(1, .int 2), (0, .ref (ad 0))]) X.1 X.2.1 kd_X6_151 hl (k := 0) rfl rfl (by decide) rfl (fun ls hl => ?_)
  refine lv_goto (tgt := 132) X.1 X.2.1 kd_X6_154 (by decide) ?_
  refine lv_iload_n X.1 X.2.1 kd_X6_132 rfl (lv_at hl 0 rfl) ?_
  refine lv_bipush (v := 6) X.1 X.2.1 kd_X6_133 (by decide) ?_
  refine lv_icmp_ge (tgt := 157) X.1 X.2.1 kd_X6_135 (by decide) (fun hc => absurd hc (by decide)) (fun hc => ?_)
  refine lv_aload_n X.1 X.2.1 kd_X6_138 rfl (lv_at hl 1 rfl) ?_
  refine k_get X (ci := 6) (k := 0) (j := 5) (index := 40) (v := .ref q5) (by decide) (hs13.1 0 hk0).2.1 (hs13.1 0 hk0).1 hs13.2.2.2.1 (by decide) kf_X6_40 rfl rfl kd_X6_139 hW ?_
  refine lv_iload_n X.1 X.2.1 kd_X6_142 rfl (lv_at hl 0 rfl) ?_
  refine s6_elt X (kr := 7) (a := q5) (ci1 := 4) (k1 := 10) (index := 38) (index2 := 69) (nL := 2) (y := yX4_init) (cd := cX4_init) (maxL := 1) (fr := 1) (lo := 12) (ce := 0) (sl := 0) (t0 := 14) (j0 := 5) (n := 6) (i := 2) (Rg := (fun x => x < 0)) (fun x => (1 ≤ x ∧ x ≤ 7) ∨ (8 ≤ x ∧ x < 11) ∨ (14 ≤ x ∧ x < 22) ∨ (100 ≤ x ∧ x < 373) ∨ (400 ≤ x ∧ x < 436)) (fun x => (1 ≤ x ∧ x ≤ 4) ∨ (8 ≤ x ∧ x < 11) ∨ (14 ≤ x ∧ x < 22) ∨ (100 ≤ x ∧ x < 373) ∨ (400 ≤ x ∧ x < 436)) hRg hk0 (fun x hx => by omega) (by simp) hs13 ⟨by unfold RG6; omega, by decide⟩ (by simp) (fun x hx => by unfold RG6; omega) (by omega) (fun x hx => by omega) (fun x hx => by omega) rfl (vp_in_nI (n := 2) (by decide) (by decide)) (by decide) kc_X6_38 ks_X4 kn_X4 hml hl.1 (kc_sight l (i := 2) (by decide)) hb0 hsz ⟨kb_X4, Or.inr ⟨RX6, List.mem_of_getElem? (i := 4) rfl⟩, ki_X4, kn_X4, rfl, ⟨by decide, by decide, rfl⟩, ⟨Nat.le_of_ble_eq_true rfl, Nat.le_of_ble_eq_true rfl⟩⟩ (lay_si 2 (by decide)) ⟨Nat.le_of_ble_eq_true rfl, Nat.le_of_ble_eq_true rfl⟩ (Nat.le_of_ble_eq_true rfl) kd_X6_143 kd_X6_146 kd_X6_147 kd_X6_150 hW hS (fun t2 ids14 ad14 E14 H14 locs14 hs14 hW hS => ?_)
  refine W.eq (g2 := F0 m 151 ls []) rfl ?_
  refine lv_iinc (v := 3) (lv' := [(1, .int 3), (0, .ref (ad 0))]) X.1 X.2.1 kd_X6_151 hl (k := 0) rfl rfl (by decide) rfl (fun ls hl => ?_)
  refine lv_goto (tgt := 132) X.1 X.2.1 kd_X6_154 (by decide) ?_
  refine lv_iload_n X.1 X.2.1 kd_X6_132 rfl (lv_at hl 0 rfl) ?_
  refine lv_bipush (v := 6) X.1 X.2.1 kd_X6_133 (by decide) ?_
  refine lv_icmp_ge (tgt := 157) X.1 X.2.1 kd_X6_135 (by decide) (fun hc => absurd hc (by decide)) (fun hc => ?_)
  refine lv_aload_n X.1 X.2.1 kd_X6_138 rfl (lv_at hl 1 rfl) ?_
  refine k_get X (ci := 6) (k := 0) (j := 5) (index := 40) (v := .ref q5) (by decide) (hs14.1 0 hk0).2.1 (hs14.1 0 hk0).1 hs14.2.2.2.1 (by decide) kf_X6_40 rfl rfl kd_X6_139 hW ?_
  refine lv_iload_n X.1 X.2.1 kd_X6_142 rfl (lv_at hl 0 rfl) ?_
  refine s6_elt X (kr := 7) (a := q5) (ci1 := 4) (k1 := 11) (index := 38) (index2 := 69) (nL := 2) (y := yX4_init) (cd := cX4_init) (maxL := 1) (fr := 1) (lo := 12) (ce := 0) (sl := 0) (t0 := 14) (j0 := 5) (n := 6) (i := 3) (Rg := (fun x => x < 0)) (fun x => (1 ≤ x ∧ x ≤ 7) ∨ (8 ≤ x ∧ x < 12) ∨ (14 ≤ x ∧ x < 22) ∨ (100 ≤ x ∧ x < 373) ∨ (400 ≤ x ∧ x < 436)) (fun x => (1 ≤ x ∧ x ≤ 4) ∨ (8 ≤ x ∧ x < 12) ∨ (14 ≤ x ∧ x < 22) ∨ (100 ≤ x ∧ x < 373) ∨ (400 ≤ x ∧ x < 436)) hRg hk0 (fun x hx => by omega) (by simp) hs14 ⟨by unfold RG6; omega, by decide⟩ (by simp) (fun x hx => by unfold RG6; omega) (by omega) (fun x hx => by omega) (fun x hx => by omega) rfl (vp_in_nI (n := 3) (by decide) (by decide)) (by decide) kc_X6_38 ks_X4 kn_X4 hml hl.1 (kc_sight l (i := 3) (by decide)) hb0 hsz ⟨kb_X4, Or.inr ⟨RX6, List.mem_of_getElem? (i := 4) rfl⟩, ki_X4, kn_X4, rfl, ⟨by decide, by decide, rfl⟩, ⟨Nat.le_of_ble_eq_true rfl, Nat.le_of_ble_eq_true rfl⟩⟩ (lay_si 3 (by decide)) ⟨Nat.le_of_ble_eq_true rfl, Nat.le_of_ble_eq_true rfl⟩ (Nat.le_of_ble_eq_true rfl) kd_X6_143 kd_X6_146 kd_X6_147 kd_X6_150 hW hS (fun t3 ids15 ad15 E15 H15 locs15 hs15 hW hS => ?_)
  refine W.eq (g2 := F0 m 151 ls []) rfl ?_
  refine lv_iinc (v := 4) (lv' := [(1, .int 4), (0, .ref (ad 0))]) X.1 X.2.1 kd_X6_151 hl (k := 0) rfl rfl (by decide) rfl (fun ls hl => ?_)
  refine lv_goto (tgt := 132) X.1 X.2.1 kd_X6_154 (by decide) ?_
  refine lv_iload_n X.1 X.2.1 kd_X6_132 rfl (lv_at hl 0 rfl) ?_
  refine lv_bipush (v := 6) X.1 X.2.1 kd_X6_133 (by decide) ?_
  refine lv_icmp_ge (tgt := 157) X.1 X.2.1 kd_X6_135 (by decide) (fun hc => absurd hc (by decide)) (fun hc => ?_)
  refine lv_aload_n X.1 X.2.1 kd_X6_138 rfl (lv_at hl 1 rfl) ?_
  refine k_get X (ci := 6) (k := 0) (j := 5) (index := 40) (v := .ref q5) (by decide) (hs15.1 0 hk0).2.1 (hs15.1 0 hk0).1 hs15.2.2.2.1 (by decide) kf_X6_40 rfl rfl kd_X6_139 hW ?_
  refine lv_iload_n X.1 X.2.1 kd_X6_142 rfl (lv_at hl 0 rfl) ?_
  refine s6_elt X (kr := 7) (a := q5) (ci1 := 4) (k1 := 12) (index := 38) (index2 := 69) (nL := 2) (y := yX4_init) (cd := cX4_init) (maxL := 1) (fr := 1) (lo := 12) (ce := 0) (sl := 0) (t0 := 14) (j0 := 5) (n := 6) (i := 4) (Rg := (fun x => x < 0)) (fun x => (1 ≤ x ∧ x ≤ 7) ∨ (8 ≤ x ∧ x < 13) ∨ (14 ≤ x ∧ x < 22) ∨ (100 ≤ x ∧ x < 373) ∨ (400 ≤ x ∧ x < 436)) (fun x => (1 ≤ x ∧ x ≤ 4) ∨ (8 ≤ x ∧ x < 13) ∨ (14 ≤ x ∧ x < 22) ∨ (100 ≤ x ∧ x < 373) ∨ (400 ≤ x ∧ x < 436)) hRg hk0 (fun x hx => by omega) (by simp) hs15 ⟨by unfold RG6; omega, by decide⟩ (by simp) (fun x hx => by unfold RG6; omega) (by omega) (fun x hx => by omega) (fun x hx => by omega) rfl (vp_in_nI (n := 4) (by decide) (by decide)) (by decide) kc_X6_38 ks_X4 kn_X4 hml hl.1 (kc_sight l (i := 4) (by decide)) hb0 hsz ⟨kb_X4, Or.inr ⟨RX6, List.mem_of_getElem? (i := 4) rfl⟩, ki_X4, kn_X4, rfl, ⟨by decide, by decide, rfl⟩, ⟨Nat.le_of_ble_eq_true rfl, Nat.le_of_ble_eq_true rfl⟩⟩ (lay_si 4 (by decide)) ⟨Nat.le_of_ble_eq_true rfl, Nat.le_of_ble_eq_true rfl⟩ (Nat.le_of_ble_eq_true rfl) kd_X6_143 kd_X6_146 kd_X6_147 kd_X6_150 hW hS (fun t4 ids16 ad16 E16 H16 locs16 hs16 hW hS => ?_)
  refine W.eq (g2 := F0 m 151 ls []) rfl ?_
  refine lv_iinc (v := 5) (lv' := [(1, .int 5), (0, .ref (ad 0))]) X.1 X.2.1 kd_X6_151 hl (k := 0) rfl rfl (by decide) rfl (fun ls hl => ?_)
  refine lv_goto (tgt := 132) X.1 X.2.1 kd_X6_154 (by decide) ?_
  refine lv_iload_n X.1 X.2.1 kd_X6_132 rfl (lv_at hl 0 rfl) ?_
  refine lv_bipush (v := 6) X.1 X.2.1 kd_X6_133 (by decide) ?_
  refine lv_icmp_ge (tgt := 157) X.1 X.2.1 kd_X6_135 (by decide) (fun hc => absurd hc (by decide)) (fun hc => ?_)
  refine lv_aload_n X.1 X.2.1 kd_X6_138 rfl (lv_at hl 1 rfl) ?_
  refine k_get X (ci := 6) (k := 0) (j := 5) (index := 40) (v := .ref q5) (by decide) (hs16.1 0 hk0).2.1 (hs16.1 0 hk0).1 hs16.2.2.2.1 (by decide) kf_X6_40 rfl rfl kd_X6_139 hW ?_
  refine lv_iload_n X.1 X.2.1 kd_X6_142 rfl (lv_at hl 0 rfl) ?_
  refine s6_elt X (kr := 7) (a := q5) (ci1 := 4) (k1 := 13) (index := 38) (index2 := 69) (nL := 2) (y := yX4_init) (cd := cX4_init) (maxL := 1) (fr := 1) (lo := 12) (ce := 0) (sl := 0) (t0 := 14) (j0 := 5) (n := 6) (i := 5) (Rg := (fun x => x < 0)) (fun x => (1 ≤ x ∧ x ≤ 7) ∨ (8 ≤ x ∧ x < 14) ∨ (14 ≤ x ∧ x < 22) ∨ (100 ≤ x ∧ x < 373) ∨ (400 ≤ x ∧ x < 436)) (fun x => (1 ≤ x ∧ x ≤ 4) ∨ (8 ≤ x ∧ x < 14) ∨ (14 ≤ x ∧ x < 22) ∨ (100 ≤ x ∧ x < 373) ∨ (400 ≤ x ∧ x < 436)) hRg hk0 (fun x hx => by omega) (by simp) hs16 ⟨by unfold RG6; omega, by decide⟩ (by simp) (fun x hx => by unfold RG6; omega) (by omega) (fun x hx => by omega) (fun x hx => by omega) rfl (vp_in_nI (n := 5) (by decide) (by decide)) (by decide) kc_X6_38 ks_X4 kn_X4 hml hl.1 (kc_sight l (i := 5) (by decide)) hb0 hsz ⟨kb_X4, Or.inr ⟨RX6, List.mem_of_getElem? (i := 4) rfl⟩, ki_X4, kn_X4, rfl, ⟨by decide, by decide, rfl⟩, ⟨Nat.le_of_ble_eq_true rfl, Nat.le_of_ble_eq_true rfl⟩⟩ (lay_si 5 (by decide)) ⟨Nat.le_of_ble_eq_true rfl, Nat.le_of_ble_eq_true rfl⟩ (Nat.le_of_ble_eq_true rfl) kd_X6_143 kd_X6_146 kd_X6_147 kd_X6_150 hW hS (fun t5 ids17 ad17 E17 H17 locs17 hs17 hW hS => ?_)
  refine W.eq (g2 := F0 m 151 ls []) rfl ?_
  refine lv_iinc (v := 6) (lv' := [(1, .int 6), (0, .ref (ad 0))]) X.1 X.2.1 kd_X6_151 hl (k := 0) rfl rfl (by decide) rfl (fun ls hl => ?_)
  refine lv_goto (tgt := 132) X.1 X.2.1 kd_X6_154 (by decide) ?_
  refine lv_iload_n X.1 X.2.1 kd_X6_132 rfl (lv_at hl 0 rfl) ?_
  refine lv_bipush (v := 6) X.1 X.2.1 kd_X6_133 (by decide) ?_
  refine lv_icmp_ge (tgt := 157) X.1 X.2.1 kd_X6_135 (by decide) (fun hc => ?_) (fun hc => absurd (by decide) hc)
  obtain ⟨a1, a2, a3, a4, a5, a6⟩ := hs17
  exact k_end X hr hlocks kd_X6_157 a1 (fun x hx => (a2 x hx).elim Or.inl (fun h => Or.inr (by unfold RG6; omega))) (DO_cw (fun x hx => a3 x (by unfold RG6 at hx; omega)) (a1 0 hk0).1 a4 a5 (a6 _ (List.mem_of_getElem? (i := 2) rfl)).2 (a6 _ (List.mem_of_getElem? (i := 1) rfl)).2 (a6 _ (List.mem_of_getElem? (i := 0) rfl)).2) hW hS
