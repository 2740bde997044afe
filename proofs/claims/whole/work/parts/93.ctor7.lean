/-! The constructor of the reference. -/
def RG7 (x : Nat) : Prop := 31 ≤ x ∧ x < 49
def ST7 (D : va_G) (T : Nat → ClassId) (ids : List Nat) (ad : Nat → Nat) (E : Nat → va_E) (P Pd : Nat → Prop) (fs : List Value) (kq : List (Nat × Nat)) (ke : List (Nat × va_E)) (ids' : List Nat) (ad' : Nat → Nat) (E' : Nat → va_E) : Prop :=
  FR (fun x => x = 30) ids ad E ids' ad' E' ∧ (∀ x ∈ ids', x ∈ ids ∨ P x) ∧ DO D T Pd ids' ad' E' ∧ E' 30 = .inr (7, fs) ∧ AK kq ids' ad' ∧ EK ke ids' E'
section MV7
variable {p : Program} {l : Launch} {e : Env} {R : Room} {s : State} {m : MethodId} {args : Array Value} {below : List Frame} {meth : Method} {c : Code} {H : Heap} {locs : List Loc} {cells slots : Nat} {Q : State → Prop}
variable {cc : ByteArray} {pc : Nat} {ls : Array Slot} {rest : List Value} {D : va_G} {T : Nat → ClassId} {A : Nat → Prop} {H0 : Heap} {ids ids1 : List Nat} {ad ad1 : Nat → Nat} {E E1 : Nat → va_E} {P Pd : Nat → Prop} {fs : List Value} {kq : List (Nat × Nat)} {ke : List (Nat × va_E)}
theorem ST7_new {P' : Nat → Prop} {ids2 : List Nat} {ad2 : Nat → Nat} {E2 : Nat → va_E} {fs2 : List Value} {Pn : Nat → Prop} (hRg : ∀ x ∈ ids, ¬ RG7 x) (h0 : 30 ∈ ids) (hPd : ∀ x, Pd x → x ≠ 30) (hke : ∀ y ∈ ke, y.1 ≠ 30) (h : ST7 D T ids ad E P Pd fs kq ke ids1 ad1 E1) (hF : FR (fun x => x = 30) ids1 ad1 E1 ids2 ad2 E2) (hm : ∀ x ∈ ids2, x ∈ ids1 ∨ Pn x) (hP : ∀ x, P x ∨ Pn x → P' x) (h2 : E2 30 = .inr (7, fs2)) : ST7 D T ids ad E P' Pd fs2 kq ke ids2 ad2 E2 := by
  obtain ⟨a1, a2, a3, a4, a5, a6⟩ := h
  refine ⟨FR_mono (fun x hx => hx.elim id id) (FR_trans a1 hF), fun x hx => ?_, DO_FR a3 hF (fun x hx z => hPd x hx z), h2, AK_FR a5 hF, EK_FR a6 hF (fun y hy z => hke y hy z)⟩
  rcases hm x hx with h | h
  · rcases a2 x h with h | h
    · exact Or.inl h
    · exact Or.inr (hP x (Or.inl h))
  · exact Or.inr (hP x (Or.inr h))
theorem s7_row (X : KX p s m args c cc RX7 D T A H0) (hin : meth.name = "<init>") {a k1 j index : Nat} {atype : ArrayType} {ty : FieldType} {t0 j0 N' : Nat} {n : Int32} {a0 : vp_A} (P' : Nat → Prop) (hRg : ∀ x ∈ ids, ¬ RG7 x) (h0 : 30 ∈ ids) (hPd : ∀ x, Pd x → x ≠ 30) (hke : ∀ y ∈ ke, y.1 ≠ 30) (hst : ST7 D T ids ad E P Pd fs kq ke ids1 ad1 E1) (hak : ad 30 = a) (hl : fs.length = 26) (hk1 : RG7 k1 ∧ ¬ P k1) (hP : ∀ x, P x ∨ x = k1 → P' x)
    (hty : newarray.typeOf atype = ty) (ho : ∀ C, ty ≠ .object C) (hj0 : (mv_tys (D, (fun _ => 0), T))[j0]? = some (T t0, ty)) (h1 : Cond.arrayClass ty ∈ mv_T) (ha : ∀ cA : ClassId, vp_cell cA a0 = arrV cA N' (fun _ => defaultValue ty)) (hn : ¬ n < 0) (hN : n.toNatClampNeg = N') (hbytes : N' * componentBytes ty ≤ 536870912) (hcells : cells + 1 ≤ R.cells) (hslots : slots + N' ≤ R.slots) (hdg : decode cc pc = .ok (.newarray atype, 2))
    (hj : j < 26) (hfl : Cond.fieldLink RX7 index RX7 ((mv_fT 7) j).2.1 ((mv_fT 7) j).2.2.1 ∈ mv_T) (hd : ((mv_fT 7) j).1 = RX7) (hf : ((mv_fT 7) j).2.2.2 = true) (hna : ∀ q, narrow (mv_tyf 7 j) (.ref q) = .ref q) (hfit : ∀ q, fits (mv_tyf 7 j) (.ref q) = true) (hdg2 : decode cc (pc + 2) = .ok (.putfield index, 3)) (hW : Wd D A ids1 ad1 E1 H) (hS : va_S A H0 H locs)
    (kk : ∀ (q : Nat) (ids' : List Nat) (ad' : Nat → Nat) (E' : Nat → va_E) (H1 : Heap) (locs1 : List Loc), ST7 D T ids ad E P' Pd (fs.set j (.ref q)) ((k1, q) :: kq) ((k1, .inl (T t0, a0)) :: ke) ids' ad' E' → Wd D A ids' ad' E' H1 → va_S A H0 H1 locs1 → W p l e R s m args below meth c H1 locs1 (cells + 1) (slots + N') Q (F0 m (pc + 2 + 3) ls rest)) : W p l e R s m args below meth c H locs cells slots Q (F0 m pc ls (.int n :: .ref a :: rest)) := by
  obtain ⟨a1, a2, a3, a4, a5, a6⟩ := id hst
  refine k_row X hin (ci := 7) (k0 := 30) (k1 := k1) (j := j) (index := index) (fs := fs) ((a1 30 h0).2.1.trans hak) (by decide) rfl (a1 30 h0).1 a4 hl (fun z => by
    rcases a2 _ z with h | h
    · exact hRg _ h hk1.1
    · exact hk1.2 h) hty ho hj0 h1 ha hn hN hbytes hcells hslots hdg hj hfl hd hf hna hfit hdg2 hW hS (fun q ids2 ad2 E2 H2 locs2 hF hm m1 b1 e1 e0 hW hS => ?_)
  obtain ⟨c1, c2, c3, c4, c5, c6⟩ := ST7_new (P' := P') hRg h0 hPd hke hst hF hm hP e0
  refine kk q ids2 ad2 E2 H2 locs2 ⟨c1, c2, c3, c4, fun y hy => ?_, fun y hy => ?_⟩ hW hS
  · rcases List.mem_cons.mp hy with rfl | hy
    · exact ⟨m1, b1⟩
    · exact c5 y hy
  · rcases List.mem_cons.mp hy with rfl | hy
    · exact ⟨m1, e1⟩
    · exact c6 y hy
end MV7
theorem rf_30 {j q : Nat} (h : mv_rf 30 j = some q) : 31 ≤ q ∧ q < 49 := by
  have hr : ∀ j, mv_rf 30 j = mv_rf30.getD j none := fun j => rfl
  rw [hr] at h
  by_cases hj : j < 26
  · have := (show ∀ j, j < 26 → ∀ q, q < 100 → mv_rf30.getD j none = some q → 31 ≤ q ∧ q < 49 by decide) j hj
    by_cases hq : q < 100
    · exact this q hq h
    · exact absurd h ((show ∀ j, j < 26 → ∀ q, ¬ q < 100 → mv_rf30.getD j none ≠ some q from fun j hj q hq e => by
        have h2 := (show ∀ j, j < 26 → (mv_rf30.getD j none).all (fun x => decide (x < 100)) = true by decide) j hj
        rw [e] at h2
        simp at h2
        omega) j hj q hq)
  · rw [List.getD_eq_getElem?_getD, List.getElem?_eq_none (by show 26 ≤ j; omega)] at h
    cases h
set_option maxRecDepth 20000 in
theorem DO_model {D : va_G} {T : Nat → ClassId} {ids : List Nat} {ad : Nat → Nat} {E : Nat → va_E} {q31 q32 q33 q34 q35 q36 q37 q38 q39 q40 q41 q42 q43 q44 q45 q46 q47 q48 : Nat} (h0 : 30 ∈ ids) (he : E 30 = .inr (7, [Value.int 0, .ref q31, .int 0, .int 0, .int 0, .ref q32, .ref q33, .ref q34, .int 0, .ref q35, .ref q36, .ref q37, .ref q38, .ref q39, .ref q40, .ref q41, .int 0, .ref q42, .ref q43, .int 0, .ref q44, .ref q45, .ref q46, .ref q47, .long 0, .ref q48])) (hk : AK [(48, q48), (47, q47), (46, q46), (45, q45), (44, q44), (43, q43), (42, q42), (41, q41), (40, q40), (39, q39), (38, q38), (37, q37), (36, q36), (35, q35), (34, q34), (33, q33), (32, q32), (31, q31)] ids ad) (hE : ∀ y ∈ ([(31, .inl (T 0, (80, .inl (fun _ => 0)))), (32, .inl (T 0, (5, .inl (fun _ => 0)))), (33, .inl (T 0, (25, .inl (fun _ => 0)))), (34, .inl (T 0, (5, .inl (fun _ => 0)))), (35, .inl (T 0, (5, .inl (fun _ => 0)))), (36, .inl (T 0, (25, .inl (fun _ => 0)))), (37, .inl (T 0, (5, .inl (fun _ => 0)))), (38, .inl (T 0, (121, .inl (fun _ => 0)))), (39, .inl (T 0, (121, .inl (upd (fun _ => 0) 120 2620)))), (40, .inl (T 0, (121, .inl (fun _ => 0)))), (41, .inl (T 0, (1694, .inl (fun _ => 0)))), (42, .inl (T 0, (242, .inl (fun _ => 0)))), (43, .inl (T 1, (2, .inl (fun _ => 0)))), (44, .inl (T 0, (6, .inl (fun _ => 0)))), (45, .inl (T 0, (6, .inl (fun _ => 0)))), (46, .inl (T 0, (6, .inl (fun _ => 0)))), (47, .inl (T 0, (6, .inl (fun _ => 0)))), (48, .inl (T 2, (42, .inr (.inl (fun _ => 0)))))] : List (Nat × va_E)), E y.1 = y.2) : DO D T (fun x => RG7 x ∨ x = 30) ids ad E := by
  have k := fun (y : Nat × Nat) (i : Nat) (h : ([(48, q48), (47, q47), (46, q46), (45, q45), (44, q44), (43, q43), (42, q42), (41, q41), (40, q40), (39, q39), (38, q38), (37, q37), (36, q36), (35, q35), (34, q34), (33, q33), (32, q32), (31, q31)] : List (Nat × Nat))[i]? = some y) => hk y (List.mem_of_getElem? h)
  have kE := fun (y : Nat × va_E) (i : Nat) (h : ([(31, .inl (T 0, (80, .inl (fun _ => 0)))), (32, .inl (T 0, (5, .inl (fun _ => 0)))), (33, .inl (T 0, (25, .inl (fun _ => 0)))), (34, .inl (T 0, (5, .inl (fun _ => 0)))), (35, .inl (T 0, (5, .inl (fun _ => 0)))), (36, .inl (T 0, (25, .inl (fun _ => 0)))), (37, .inl (T 0, (5, .inl (fun _ => 0)))), (38, .inl (T 0, (121, .inl (fun _ => 0)))), (39, .inl (T 0, (121, .inl (upd (fun _ => 0) 120 2620)))), (40, .inl (T 0, (121, .inl (fun _ => 0)))), (41, .inl (T 0, (1694, .inl (fun _ => 0)))), (42, .inl (T 0, (242, .inl (fun _ => 0)))), (43, .inl (T 1, (2, .inl (fun _ => 0)))), (44, .inl (T 0, (6, .inl (fun _ => 0)))), (45, .inl (T 0, (6, .inl (fun _ => 0)))), (46, .inl (T 0, (6, .inl (fun _ => 0)))), (47, .inl (T 0, (6, .inl (fun _ => 0)))), (48, .inl (T 2, (42, .inr (.inl (fun _ => 0)))))] : List (Nat × va_E))[i]? = some y) => hE y (List.mem_of_getElem? h)
  intro x hx
  rcases hx with hx | rfl
  · have hc : x = 31 ∨ x = 32 ∨ x = 33 ∨ x = 34 ∨ x = 35 ∨ x = 36 ∨ x = 37 ∨ x = 38 ∨ x = 39 ∨ x = 40 ∨ x = 41 ∨ x = 42 ∨ x = 43 ∨ x = 44 ∨ x = 45 ∨ x = 46 ∨ x = 47 ∨ x = 48 := by unfold RG7 at hx; omega
    rcases hc with rfl | rfl | rfl | rfl | rfl | rfl | rfl | rfl | rfl | rfl | rfl | rfl | rfl | rfl | rfl | rfl | rfl | rfl
    · exact ⟨(k (31, q31) 17 rfl).1, (kE (31, _) 0 rfl).trans (finE_int rfl (fun j => I00_z (by omega) (by omega))).symm, fun j q hq => by cases hq⟩
    · exact ⟨(k (32, q32) 16 rfl).1, (kE (32, _) 1 rfl).trans (finE_int rfl (fun j => I00_z (by omega) (by omega))).symm, fun j q hq => by cases hq⟩
    · exact ⟨(k (33, q33) 15 rfl).1, (kE (33, _) 2 rfl).trans (finE_int rfl (fun j => I00_z (by omega) (by omega))).symm, fun j q hq => by cases hq⟩
    · exact ⟨(k (34, q34) 14 rfl).1, (kE (34, _) 3 rfl).trans (finE_int rfl (fun j => I00_z (by omega) (by omega))).symm, fun j q hq => by cases hq⟩
    · exact ⟨(k (35, q35) 13 rfl).1, (kE (35, _) 4 rfl).trans (finE_int rfl (fun j => I00_z (by omega) (by omega))).symm, fun j q hq => by cases hq⟩
    · exact ⟨(k (36, q36) 12 rfl).1, (kE (36, _) 5 rfl).trans (finE_int rfl (fun j => I00_z (by omega) (by omega))).symm, fun j q hq => by cases hq⟩
    · exact ⟨(k (37, q37) 11 rfl).1, (kE (37, _) 6 rfl).trans (finE_int rfl (fun j => I00_z (by omega) (by omega))).symm, fun j q hq => by cases hq⟩
    · exact ⟨(k (38, q38) 10 rfl).1, (kE (38, _) 7 rfl).trans (finE_int rfl (fun j => I00_z (by omega) (by omega))).symm, fun j q hq => by cases hq⟩
    · refine ⟨(k (39, q39) 9 rfl).1, (kE (39, _) 8 rfl).trans ?_, fun j q hq => by cases hq⟩
      have := mv_cell2 (G := (D, (ad, T))) (I := I00) (J := J00) (k := 39) (n := 121) rfl
      unfold finE
      rw [this]
      have hu : upd (fun _ => 0) 120 2620 = I00 39 := by
        funext j
        unfold upd I00
        by_cases h : j = 120
        · rw [if_pos h, if_pos ⟨rfl, h⟩]
        · rw [if_neg h, if_neg (fun z => h z.2), if_neg (by omega)]
      show Sum.inl (T 0, (121, Sum.inl (upd (fun _ => 0) 120 2620))) = Sum.inl (T 0, (121, Sum.inl (I00 39)))
      rw [hu]
    · exact ⟨(k (40, q40) 8 rfl).1, (kE (40, _) 9 rfl).trans (finE_int rfl (fun j => I00_z (by omega) (by omega))).symm, fun j q hq => by cases hq⟩
    · exact ⟨(k (41, q41) 7 rfl).1, (kE (41, _) 10 rfl).trans (finE_int rfl (fun j => I00_z (by omega) (by omega))).symm, fun j q hq => by cases hq⟩
    · exact ⟨(k (42, q42) 6 rfl).1, (kE (42, _) 11 rfl).trans (finE_int rfl (fun j => I00_z (by omega) (by omega))).symm, fun j q hq => by cases hq⟩
    · refine ⟨(k (43, q43) 5 rfl).1, (kE (43, _) 12 rfl).trans ?_, fun j q hq => by cases hq⟩
      have := mv_cell3 (G := (D, (ad, T))) (I := I00) (J := J00) (k := 43) (n := 2) rfl
      unfold finE
      rw [this]
      congr 4
    · exact ⟨(k (44, q44) 4 rfl).1, (kE (44, _) 13 rfl).trans (finE_int rfl (fun j => I00_z (by omega) (by omega))).symm, fun j q hq => by cases hq⟩
    · exact ⟨(k (45, q45) 3 rfl).1, (kE (45, _) 14 rfl).trans (finE_int rfl (fun j => I00_z (by omega) (by omega))).symm, fun j q hq => by cases hq⟩
    · exact ⟨(k (46, q46) 2 rfl).1, (kE (46, _) 15 rfl).trans (finE_int rfl (fun j => I00_z (by omega) (by omega))).symm, fun j q hq => by cases hq⟩
    · exact ⟨(k (47, q47) 1 rfl).1, (kE (47, _) 16 rfl).trans (finE_int rfl (fun j => I00_z (by omega) (by omega))).symm, fun j q hq => by cases hq⟩
    · refine ⟨(k (48, q48) 0 rfl).1, (kE (48, _) 17 rfl).trans ?_, fun j q hq => by cases hq⟩
      have := mv_cell4 (G := (D, (ad, T))) (I := I00) (J := J00) (k := 48) (n := 42) rfl
      unfold finE
      rw [this]
      congr 5
  · refine ⟨h0, he.trans ?_, fun j q hq => ?_⟩
    · rw [finE_obj (ci := 7) rfl]
      show _ = Sum.inr (7, [Value.int (I00 30 0), .ref (ad 31), .int (I00 30 2), .int (I00 30 3), .int (I00 30 4), .ref (ad 32), .ref (ad 33), .ref (ad 34), .int (I00 30 8), .ref (ad 35), .ref (ad 36), .ref (ad 37), .ref (ad 38), .ref (ad 39), .ref (ad 40), .ref (ad 41), .int (I00 30 16), .ref (ad 42), .ref (ad 43), .int (I00 30 19), .ref (ad 44), .ref (ad 45), .ref (ad 46), .ref (ad 47), .long (J00 30 24), .ref (ad 48)])
      rw [(k (31, q31) 17 rfl).2, (k (32, q32) 16 rfl).2, (k (33, q33) 15 rfl).2, (k (34, q34) 14 rfl).2, (k (35, q35) 13 rfl).2, (k (36, q36) 12 rfl).2, (k (37, q37) 11 rfl).2, (k (38, q38) 10 rfl).2, (k (39, q39) 9 rfl).2, (k (40, q40) 8 rfl).2, (k (41, q41) 7 rfl).2, (k (42, q42) 6 rfl).2, (k (43, q43) 5 rfl).2, (k (44, q44) 4 rfl).2, (k (45, q45) 3 rfl).2, (k (46, q46) 2 rfl).2, (k (47, q47) 1 rfl).2, (k (48, q48) 0 rfl).2]
      rfl
    · have h2 := rf_30 hq
      have hc : q = 31 ∨ q = 32 ∨ q = 33 ∨ q = 34 ∨ q = 35 ∨ q = 36 ∨ q = 37 ∨ q = 38 ∨ q = 39 ∨ q = 40 ∨ q = 41 ∨ q = 42 ∨ q = 43 ∨ q = 44 ∨ q = 45 ∨ q = 46 ∨ q = 47 ∨ q = 48 := by omega
      rcases hc with rfl | rfl | rfl | rfl | rfl | rfl | rfl | rfl | rfl | rfl | rfl | rfl | rfl | rfl | rfl | rfl | rfl | rfl
      · exact (k (31, q31) 17 rfl).1
      · exact (k (32, q32) 16 rfl).1
      · exact (k (33, q33) 15 rfl).1
      · exact (k (34, q34) 14 rfl).1
      · exact (k (35, q35) 13 rfl).1
      · exact (k (36, q36) 12 rfl).1
      · exact (k (37, q37) 11 rfl).1
      · exact (k (38, q38) 10 rfl).1
      · exact (k (39, q39) 9 rfl).1
      · exact (k (40, q40) 8 rfl).1
      · exact (k (41, q41) 7 rfl).1
      · exact (k (42, q42) 6 rfl).1
      · exact (k (43, q43) 5 rfl).1
      · exact (k (44, q44) 4 rfl).1
      · exact (k (45, q45) 3 rfl).1
      · exact (k (46, q46) 2 rfl).1
      · exact (k (47, q47) 1 rfl).1
      · exact (k (48, q48) 0 rfl).1
