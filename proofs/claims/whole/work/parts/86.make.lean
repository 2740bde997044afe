/-! A field's row, a field's object, a row's object: the instructions that make them, as one. -/
def FR (S : Nat → Prop) (ids : List Nat) (ad : Nat → Nat) (E : Nat → va_E) (ids' : List Nat) (ad' : Nat → Nat) (E' : Nat → va_E) : Prop := ∀ x ∈ ids, x ∈ ids' ∧ ad' x = ad x ∧ (¬ S x → E' x = E x)
theorem FR_rfl {S : Nat → Prop} {ids : List Nat} {ad : Nat → Nat} {E : Nat → va_E} : FR S ids ad E ids ad E := fun x hx => ⟨hx, rfl, fun _ => rfl⟩
theorem FR_trans {S S2 : Nat → Prop} {ids ids' ids2 : List Nat} {ad ad' ad2 : Nat → Nat} {E E' E2 : Nat → va_E} (h : FR S ids ad E ids' ad' E') (h2 : FR S2 ids' ad' E' ids2 ad2 E2) : FR (fun x => S x ∨ S2 x) ids ad E ids2 ad2 E2 := fun x hx => by
  obtain ⟨a1, a2, a3⟩ := h x hx
  obtain ⟨b1, b2, b3⟩ := h2 x a1
  exact ⟨b1, b2.trans a2, fun z => (b3 (fun y => z (Or.inr y))).trans (a3 (fun y => z (Or.inl y)))⟩
theorem FR_mono {S S2 : Nat → Prop} {ids ids' : List Nat} {ad ad' : Nat → Nat} {E E' : Nat → va_E} (hS : ∀ x, S x → S2 x) (h : FR S ids ad E ids' ad' E') : FR S2 ids ad E ids' ad' E' := fun x hx => ⟨(h x hx).1, (h x hx).2.1, fun z => (h x hx).2.2 (fun y => z (hS x y))⟩
/-- the cells of Rg, and k, as they will be -/
def DO (D : va_G) (T : Nat → ClassId) (P : Nat → Prop) (ids : List Nat) (ad : Nat → Nat) (E : Nat → va_E) : Prop := ∀ x, P x → x ∈ ids ∧ E x = finE D T ad x ∧ ∀ j q, mv_rf x j = some q → q ∈ ids
theorem DO_FR {D : va_G} {T : Nat → ClassId} {P S : Nat → Prop} {ids ids' : List Nat} {ad ad' : Nat → Nat} {E E' : Nat → va_E} (h : DO D T P ids ad E) (hF : FR S ids ad E ids' ad' E') (hS : ∀ x, P x → ¬ S x) : DO D T P ids' ad' E' := fun x hx => by
  obtain ⟨h1, h2, h3⟩ := h x hx
  obtain ⟨f1, f2, f3⟩ := hF x h1
  exact ⟨f1, (f3 (hS x hx)).trans (h2.trans (finE_congr (fun j q hq => ((hF q (h3 j q hq)).2.1))).symm), fun j q hq => (hF q (h3 j q hq)).1⟩
theorem DO_or {D : va_G} {T : Nat → ClassId} {P P2 : Nat → Prop} {ids : List Nat} {ad : Nat → Nat} {E : Nat → va_E} (h : DO D T P ids ad E) (h2 : DO D T P2 ids ad E) : DO D T (fun x => P x ∨ P2 x) ids ad E := fun x hx => hx.elim (h x) (h2 x)
section MVM
variable {p : Program} {l : Launch} {e : Env} {R : Room} {s : State} {m : MethodId} {args : Array Value} {below : List Frame} {meth : Method} {c : Code} {H : Heap} {locs : List Loc} {cells slots : Nat} {Q : State → Prop}
variable {cc : ByteArray} {pc : Nat} {ls : Array Slot} {rest : List Value} {D : va_G} {T : Nat → ClassId} {A : Nat → Prop} {H0 : Heap} {own : String} {ids : List Nat} {ad : Nat → Nat} {E : Nat → va_E}
/-- new T[n] into a final field -/
theorem k_row (X : KX p s m args c cc own D T A H0) (hin : meth.name = "<init>") {ci k0 k1 j index a : Nat} {fs : List Value} {atype : ArrayType} {ty : FieldType} {t0 j0 N' : Nat} {n : Int32} {a0 : vp_A} (hak : ad k0 = a) (hci : ci < 8) (hown2 : own = mv_cn ci) (hk0 : k0 ∈ ids) (he : E k0 = .inr (ci, fs)) (hl : fs.length = mv_nf ci) (hk1 : k1 ∉ ids)
    (hty : newarray.typeOf atype = ty) (ho : ∀ C, ty ≠ .object C) (hj0 : (mv_tys (D, (fun _ => 0), T))[j0]? = some (T t0, ty)) (h1 : Cond.arrayClass ty ∈ mv_T) (ha : ∀ cA : ClassId, vp_cell cA a0 = arrV cA N' (fun _ => defaultValue ty)) (hn : ¬ n < 0) (hN : n.toNatClampNeg = N') (hbytes : N' * componentBytes ty ≤ 536870912) (hcells : cells + 1 ≤ R.cells) (hslots : slots + N' ≤ R.slots) (hdg : decode cc pc = .ok (.newarray atype, 2))
    (hj : j < mv_nf ci) (hfl : Cond.fieldLink own index own ((mv_fT ci) j).2.1 ((mv_fT ci) j).2.2.1 ∈ mv_T) (hd : ((mv_fT ci) j).1 = own) (hf : ((mv_fT ci) j).2.2.2 = true) (hna : ∀ q, narrow (mv_tyf ci j) (.ref q) = .ref q) (hfit : ∀ q, fits (mv_tyf ci j) (.ref q) = true) (hdg2 : decode cc (pc + 2) = .ok (.putfield index, 3)) (hW : Wd D A ids ad E H) (hS : va_S A H0 H locs)
    (kk : ∀ (q : Nat) (ids' : List Nat) (ad' : Nat → Nat) (E' : Nat → va_E) (H1 : Heap) (locs1 : List Loc), FR (fun x => x = k0) ids ad E ids' ad' E' → (∀ x ∈ ids', x ∈ ids ∨ x = k1) → k1 ∈ ids' → ad' k1 = q → E' k1 = .inl (T t0, a0) → E' k0 = .inr (ci, fs.set j (.ref q)) → Wd D A ids' ad' E' H1 → va_S A H0 H1 locs1 → W p l e R s m args below meth c H1 locs1 (cells + 1) (slots + N') Q (F0 m (pc + 2 + 3) ls rest)) : W p l e R s m args below meth c H locs cells slots Q (F0 m pc ls (.int n :: .ref a :: rest)) := by
  have hne : k0 ≠ k1 := fun z => hk1 (z ▸ hk0)
  refine k_newa X hty ho hj0 hk1 h1 ha hn hN hbytes hcells hslots hdg hW hS (fun q H1 hW hS => ?_)
  have e1 : va_up ad k1 q k0 = a := (up_ne hne).trans hak
  rw [← e1]
  refine k_putF X hin hci hown2 (List.mem_append_left _ hk0) ((up_ne hne).trans he) hj hl hfl hd hf (hna q) (hfit q) hdg2 hW hS (fun H2 locs2 hW hS => ?_)
  refine kk q _ _ _ H2 locs2 (fun x hx => ?_) (fun x hx => ?_) (List.mem_append_right _ (List.mem_singleton.mpr rfl)) up_eq ((up_ne (Ne.symm hne)).trans up_eq) up_eq hW hS
  · have hx1 : x ≠ k1 := fun z => hk1 (z ▸ hx)
    exact ⟨List.mem_append_left _ hx, up_ne hx1, fun z => (up_ne z).trans (up_ne hx1)⟩
  · rcases List.mem_append.mp hx with h | h
    · exact Or.inl h
    · exact Or.inr (List.mem_singleton.mp h)
/-- new C[n] into a final field -/
theorem k_arr (X : KX p s m args c cc own D T A H0) (hin : meth.name = "<init>") {ci k0 k1 j index index2 a : Nat} {fs : List Value} {C : String} {t0 j0 N' : Nat} {n : Int32} (hak : ad k0 = a) (hci : ci < 8) (hown2 : own = mv_cn ci) (hk0 : k0 ∈ ids) (he : E k0 = .inr (ci, fs)) (hl : fs.length = mv_nf ci) (hk1 : k1 ∉ ids)
    (hj0 : (mv_tys (D, (fun _ => 0), T))[j0]? = some (T t0, .object C)) (h1 : Cond.classLink own index2 C ∈ mv_T) (h2 : Cond.arrayOver (.object C) ∈ mv_NX) (hn : ¬ n < 0) (hN : n.toNatClampNeg = N') (hbytes : N' * 4 ≤ 536870912) (hcells : cells + 1 ≤ R.cells) (hslots : slots + N' ≤ R.slots) (hdg : decode cc pc = .ok (.anewarray index2, 3))
    (hj : j < mv_nf ci) (hfl : Cond.fieldLink own index own ((mv_fT ci) j).2.1 ((mv_fT ci) j).2.2.1 ∈ mv_T) (hd : ((mv_fT ci) j).1 = own) (hf : ((mv_fT ci) j).2.2.2 = true) (hna : ∀ q, narrow (mv_tyf ci j) (.ref q) = .ref q) (hfit : ∀ q, fits (mv_tyf ci j) (.ref q) = true) (hdg2 : decode cc (pc + 3) = .ok (.putfield index, 3)) (hW : Wd D A ids ad E H) (hS : va_S A H0 H locs)
    (kk : ∀ (q : Nat) (ids' : List Nat) (ad' : Nat → Nat) (E' : Nat → va_E) (H1 : Heap) (locs1 : List Loc), FR (fun x => x = k0) ids ad E ids' ad' E' → (∀ x ∈ ids', x ∈ ids ∨ x = k1) → k1 ∈ ids' → ad' k1 = q → E' k1 = .inl (T t0, (N', .inr (.inr (.inr (.inr (fun _ => none)))))) → E' k0 = .inr (ci, fs.set j (.ref q)) → Wd D A ids' ad' E' H1 → va_S A H0 H1 locs1 → W p l e R s m args below meth c H1 locs1 (cells + 1) (slots + N') Q (F0 m (pc + 3 + 3) ls rest)) : W p l e R s m args below meth c H locs cells slots Q (F0 m pc ls (.int n :: .ref a :: rest)) := by
  have hne : k0 ≠ k1 := fun z => hk1 (z ▸ hk0)
  refine k_newq X hj0 hk1 h1 h2 hn hN hbytes hcells hslots hdg hW hS (fun q H1 hW hS => ?_)
  have e1 : va_up ad k1 q k0 = a := (up_ne hne).trans hak
  rw [← e1]
  refine k_putF X hin hci hown2 (List.mem_append_left _ hk0) ((up_ne hne).trans he) hj hl hfl hd hf (hna q) (hfit q) hdg2 hW hS (fun H2 locs2 hW hS => ?_)
  refine kk q _ _ _ H2 locs2 (fun x hx => ?_) (fun x hx => ?_) (List.mem_append_right _ (List.mem_singleton.mpr rfl)) up_eq ((up_ne (Ne.symm hne)).trans up_eq) up_eq hW hS
  · have hx1 : x ≠ k1 := fun z => hk1 (z ▸ hx)
    exact ⟨List.mem_append_left _ hx, up_ne hx1, fun z => (up_ne z).trans (up_ne hx1)⟩
  · rcases List.mem_append.mp hx with h | h
    · exact Or.inl h
    · exact Or.inr (List.mem_singleton.mp h)
/-- what a call of a constructor asks -/
def CB (R : Room) (own : String) (index : Nat) (y : MethodName) (cd : ByteArray) (maxL fr lo : Nat) : Prop := Cond.code y cd maxL none ∈ mv_T ∧ (Cond.methodLink own index y ∈ mv_T ∨ ∃ host, Cond.methodLinkNest own index y host ∈ mv_NX) ∧ Cond.instanceMethod y ∈ mv_T ∧ Cond.initialized y.cls ∈ mv_T ∧ y.name = "<init>" ∧ (y.cls ≠ "java/lang/invoke/MethodHandle" ∧ y.cls ≠ "java/lang/invoke/VarHandle" ∧ (parseMethodDescriptor y.desc).map (fun d => d.parameters.length) = some 0) ∧ (fr + 1 ≤ R.frames ∧ 8 + (maxL + 11) + lo ≤ R.locals)
/-- new C(), on the stack -/
theorem k_made (X : KX p s m args c cc own D T A H0) {ci1 k1 index index2 nL maxL fr lo ce sl b0 : Nat} {y : MethodName} {cd : ByteArray} {Rg : Nat → Prop} (hci1 : ci1 < 8) (hk1 : k1 ∉ ids) (h1 : Cond.classLink own index (mv_cn ci1) ∈ mv_T) (h2 : Cond.instantiable (mv_cn ci1) (mv_nf ci1) ∈ mv_T) (h3 : Cond.initialized (mv_cn ci1) ∈ mv_T) (hml : c.maxLocals = nL) (hls : ls.size = nL) (hC : KC l y cd maxL fr lo ce sl ci1 k1 Rg) (hb0 : ∀ q, b0 ≤ q → A q) (hb1 : b0 ≤ H0.size) (hRg : ∀ x ∈ ids, ¬ Rg x) (hR1 : ¬ Rg k1) (hB : CB R own index2 y cd maxL fr lo)
    (hcs : cells + (1 + ce) ≤ R.cells ∧ slots + (mv_nf ci1 + sl) ≤ R.slots) (hst : ((rest.map fun v => v.category).sum) + 1 ≤ 8) (hdg : decode cc pc = .ok (.new index, 3)) (hdg2 : decode cc (pc + 3) = .ok (.dup, 1)) (hdg3 : decode cc (pc + 3 + 1) = .ok (.invokespecial index2, 3)) (hW : Wd D A ids ad E H) (hS : va_S A H0 H locs)
    (kk : ∀ (ids' : List Nat) (ad' : Nat → Nat) (E' : Nat → va_E) (H1 : Heap) (locs1 : List Loc), FR (fun _ => False) ids ad E ids' ad' E' → (∀ x ∈ ids', x ∈ ids ∨ x = k1 ∨ Rg x) → DO D T (fun x => Rg x ∨ x = k1) ids' ad' E' → Wd D A ids' ad' E' H1 → va_S A H0 H1 locs1 → W p l e R s m args below meth c H1 locs1 (cells + (1 + ce)) (slots + (mv_nf ci1 + sl)) Q (F0 m (pc + 3 + 1 + 3) ls (.ref (ad' k1) :: rest))) : W p l e R s m args below meth c H locs cells slots Q (F0 m pc ls rest) := by
  obtain ⟨c1, c2, c3, c4, c5, c6, c7⟩ := hB
  refine k_new X hci1 hk1 h1 h2 h3 (by omega) (by omega) hdg hW hS (fun q H1 hW hS => ?_)
  refine lv_dup X.1 X.2.1 hdg2 rfl ?_
  have e1 : va_up ad k1 q k1 = q := up_eq
  have key : ∀ (ids' : List Nat) (ad' : Nat → Nat) (E' : Nat → va_E) (H1 : Heap) (locs1 : List Loc), DN D T Rg k1 (ids ++ [k1]) (va_up ad k1 q) (va_up E k1 (.inr (ci1, mv_zf ci1))) ids' ad' E' → Wd D A ids' ad' E' H1 → va_S A H0 H1 locs1 → W p l e R s m args below meth c H1 locs1 (cells + 1 + ce) (slots + mv_nf ci1 + sl) Q (F0 m (pc + 3 + 1 + 3) ls (.ref q :: rest)) := by
    intro ids' ad' E' H2 locs2 hDN hW hS
    obtain ⟨d1, d2, d3⟩ := hDN
    have eq1 : ad' k1 = q := ((d1 k1 (List.mem_append_right _ (List.mem_singleton.mpr rfl))).2.1).trans e1
    have := kk ids' ad' E' H2 locs2 (fun x hx => by
      have hx1 : x ≠ k1 := fun z => hk1 (z ▸ hx)
      obtain ⟨g1, g2, g3⟩ := d1 x (List.mem_append_left _ hx)
      exact ⟨g1, g2.trans (up_ne hx1), fun _ => (g3 hx1).trans (up_ne hx1)⟩) (fun x hx => by
      rcases d2 x hx with h | h
      · rcases List.mem_append.mp h with h | h
        · exact Or.inl h
        · exact Or.inr (Or.inl (List.mem_singleton.mp h))
      · exact Or.inr (Or.inr h)) d3 hW hS
    rw [eq1, ← Nat.add_assoc, ← Nat.add_assoc] at this
    exact this
  have hmem : k1 ∈ ids ++ [k1] := List.mem_append_right _ (List.mem_singleton.mpr rfl)
  have hR2 : ∀ x ∈ ids ++ [k1], ¬ Rg x := fun x hx => by
    rcases List.mem_append.mp hx with h | h
    · exact hRg x h
    · rw [List.mem_singleton.mp h]; exact hR1
  have hst2 : (((Value.ref q :: rest).map fun v => v.category).sum) ≤ 8 := by
    rw [List.map_cons, List.sum_cons]
    show 1 + _ ≤ 8
    omega
  rcases c2 with link | ⟨host, link⟩
  · have := k_call (rest := .ref q :: rest) (Q := Q) X hml hls hC hb0 hb1 hmem up_eq hR2 c1 link c3 c4 c5 c6 c7 ⟨by omega, by omega⟩ hst2 hdg3 hW hS key
    rw [e1] at this
    exact this
  · have := k_callN (rest := .ref q :: rest) (Q := Q) X hml hls hC hb0 hb1 hmem up_eq hR2 c1 link c3 c4 c5 c6 c7 ⟨by omega, by omega⟩ hst2 hdg3 hW hS key
    rw [e1] at this
    exact this
/-- new C() into a final field -/
theorem k_obj (X : KX p s m args c cc own D T A H0) (hin : meth.name = "<init>") {ci k0 j index0 a ci1 k1 index index2 nL maxL fr lo ce sl b0 : Nat} {fs : List Value} {y : MethodName} {cd : ByteArray} {Rg : Nat → Prop} (hak : ad k0 = a) (hci : ci < 8) (hown2 : own = mv_cn ci) (hk0 : k0 ∈ ids) (he : E k0 = .inr (ci, fs)) (hl : fs.length = mv_nf ci)
    (hci1 : ci1 < 8) (hk1 : k1 ∉ ids) (h1 : Cond.classLink own index (mv_cn ci1) ∈ mv_T) (h2 : Cond.instantiable (mv_cn ci1) (mv_nf ci1) ∈ mv_T) (h3 : Cond.initialized (mv_cn ci1) ∈ mv_T) (hml : c.maxLocals = nL) (hls : ls.size = nL) (hC : KC l y cd maxL fr lo ce sl ci1 k1 Rg) (hb0 : ∀ q, b0 ≤ q → A q) (hb1 : b0 ≤ H0.size) (hRg : ∀ x ∈ ids, ¬ Rg x) (hR1 : ¬ Rg k1) (hB : CB R own index2 y cd maxL fr lo)
    (hcs : cells + (1 + ce) ≤ R.cells ∧ slots + (mv_nf ci1 + sl) ≤ R.slots) (hst : ((rest.map fun v => v.category).sum) + 2 ≤ 8) (hdg : decode cc pc = .ok (.new index, 3)) (hdg2 : decode cc (pc + 3) = .ok (.dup, 1)) (hdg3 : decode cc (pc + 3 + 1) = .ok (.invokespecial index2, 3))
    (hj : j < mv_nf ci) (hfl : Cond.fieldLink own index0 own ((mv_fT ci) j).2.1 ((mv_fT ci) j).2.2.1 ∈ mv_T) (hd : ((mv_fT ci) j).1 = own) (hf : ((mv_fT ci) j).2.2.2 = true) (hna : ∀ q, narrow (mv_tyf ci j) (.ref q) = .ref q) (hfit : ∀ q, fits (mv_tyf ci j) (.ref q) = true) (hdg4 : decode cc (pc + 3 + 1 + 3) = .ok (.putfield index0, 3)) (hW : Wd D A ids ad E H) (hS : va_S A H0 H locs)
    (kk : ∀ (q : Nat) (ids' : List Nat) (ad' : Nat → Nat) (E' : Nat → va_E) (H1 : Heap) (locs1 : List Loc), FR (fun x => x = k0) ids ad E ids' ad' E' → (∀ x ∈ ids', x ∈ ids ∨ x = k1 ∨ Rg x) → DO D T (fun x => Rg x ∨ x = k1) ids' ad' E' → ad' k1 = q → E' k0 = .inr (ci, fs.set j (.ref q)) → Wd D A ids' ad' E' H1 → va_S A H0 H1 locs1 → W p l e R s m args below meth c H1 locs1 (cells + (1 + ce)) (slots + (mv_nf ci1 + sl)) Q (F0 m (pc + 3 + 1 + 3 + 3) ls rest)) : W p l e R s m args below meth c H locs cells slots Q (F0 m pc ls (.ref a :: rest)) := by
  refine k_made X hci1 hk1 h1 h2 h3 hml hls hC hb0 hb1 hRg hR1 hB hcs (by
    rw [List.map_cons, List.sum_cons]
    show 1 + _ + 1 ≤ 8
    omega) hdg hdg2 hdg3 hW hS (fun ids1 ad1 E1 H1 locs1 hF hm hDO hW hS => ?_)
  obtain ⟨g1, g2, g3⟩ := hF k0 hk0
  have e1 : ad1 k0 = a := g2.trans hak
  rw [← e1]
  have hn0 : ∀ x, (Rg x ∨ x = k1) → x ≠ k0 := fun x hx z => by
    rcases hx with h | h
    · exact hRg k0 hk0 (z ▸ h)
    · exact hk1 (h ▸ z ▸ hk0)
  refine k_putF X hin hci hown2 g1 ((g3 not_false).trans he) hj hl hfl hd hf (hna _) (hfit _) hdg4 hW hS (fun H2 locs2 hW hS => ?_)
  refine kk _ ids1 ad1 _ H2 locs2 (fun x hx => ?_) hm (fun x hx => ?_) rfl up_eq hW hS
  · obtain ⟨f1, f2, f3⟩ := hF x hx
    exact ⟨f1, f2, fun z => (up_ne z).trans (f3 not_false)⟩
  · obtain ⟨f1, f2, f3⟩ := hDO x hx
    exact ⟨f1, (up_ne (hn0 x hx)).trans f2, f3⟩
/-- new C() into a row's place -/
theorem k_elt (X : KX p s m args c cc own D T A H0) {kr a ci1 k1 index index2 nL maxL fr lo ce sl b0 t0 j0 n : Nat} {f : Nat → Option Nat} {i : Int32} {y : MethodName} {cd : ByteArray} {Rg : Nat → Prop} (hak : ad kr = a) (hkr : kr ∈ ids) (he : E kr = .inl (T t0, (n, .inr (.inr (.inr (.inr f)))))) (hj0 : (mv_tys (D, (fun _ => 0), T))[j0]? = some (T t0, .object (mv_cn ci1))) (hi : vp_in i n)
    (hci1 : ci1 < 8) (hk1 : k1 ∉ ids) (h1 : Cond.classLink own index (mv_cn ci1) ∈ mv_T) (h2 : Cond.instantiable (mv_cn ci1) (mv_nf ci1) ∈ mv_T) (h3 : Cond.initialized (mv_cn ci1) ∈ mv_T) (hml : c.maxLocals = nL) (hls : ls.size = nL) (hC : KC l y cd maxL fr lo ce sl ci1 k1 Rg) (hb0 : ∀ q, b0 ≤ q → A q) (hb1 : b0 ≤ H0.size) (hRg : ∀ x ∈ ids, ¬ Rg x) (hR1 : ¬ Rg k1) (hB : CB R own index2 y cd maxL fr lo) (hlay : mv_lay k1 = (1, ci1, 0))
    (hcs : cells + (1 + ce) ≤ R.cells ∧ slots + (mv_nf ci1 + sl) ≤ R.slots) (hst : ((rest.map fun v => v.category).sum) + 3 ≤ 8) (hdg : decode cc pc = .ok (.new index, 3)) (hdg2 : decode cc (pc + 3) = .ok (.dup, 1)) (hdg3 : decode cc (pc + 3 + 1) = .ok (.invokespecial index2, 3)) (hdg4 : decode cc (pc + 3 + 1 + 3) = .ok (.aastore, 1)) (hW : Wd D A ids ad E H) (hS : va_S A H0 H locs)
    (kk : ∀ (q : Nat) (ids' : List Nat) (ad' : Nat → Nat) (E' : Nat → va_E) (H1 : Heap) (locs1 : List Loc), FR (fun x => x = kr) ids ad E ids' ad' E' → (∀ x ∈ ids', x ∈ ids ∨ x = k1 ∨ Rg x) → DO D T (fun x => Rg x ∨ x = k1) ids' ad' E' → ad' k1 = q → E' kr = .inl (T t0, (n, .inr (.inr (.inr (.inr (va_up f i.toNatClampNeg (some q))))))) → Wd D A ids' ad' E' H1 → va_S A H0 H1 locs1 → W p l e R s m args below meth c H1 locs1 (cells + (1 + ce)) (slots + (mv_nf ci1 + sl)) Q (F0 m (pc + 3 + 1 + 3 + 1) ls rest)) : W p l e R s m args below meth c H locs cells slots Q (F0 m pc ls (.int i :: .ref a :: rest)) := by
  refine k_made X hci1 hk1 h1 h2 h3 hml hls hC hb0 hb1 hRg hR1 hB hcs (by
    rw [List.map_cons, List.sum_cons, List.map_cons, List.sum_cons]
    show 1 + (1 + _) + 1 ≤ 8
    omega) hdg hdg2 hdg3 hW hS (fun ids1 ad1 E1 H1 locs1 hF hm hDO hW hS => ?_)
  obtain ⟨g1, g2, g3⟩ := hF kr hkr
  obtain ⟨d1, d2, d3⟩ := hDO k1 (Or.inr rfl)
  have e1 : ad1 kr = a := g2.trans hak
  rw [← e1]
  have hn0 : ∀ x, (Rg x ∨ x = k1) → x ≠ kr := fun x hx z => by
    rcases hx with h | h
    · exact hRg kr hkr (z ▸ h)
    · exact hk1 (h ▸ z ▸ hkr)
  have ev : E1 k1 = .inr (ci1, (List.range (mv_nf ci1)).map (mv_fv ad1 I00 J00 k1 ci1)) := by
    rw [d2]
    exact mv_cell1 (G := (D, (ad1, T))) hlay
  refine k_astq X hci1 hj0 g1 ((g3 not_false).trans he) d1 ev hi hdg4 hW hS (fun H2 locs2 hW hS => ?_)
  refine kk _ ids1 ad1 _ H2 locs2 (fun x hx => ?_) hm (fun x hx => ?_) rfl up_eq hW hS
  · obtain ⟨f1, f2, f3⟩ := hF x hx
    exact ⟨f1, f2, fun z => (up_ne z).trans (f3 not_false)⟩
  · obtain ⟨f1, f2, f3⟩ := hDO x hx
    exact ⟨f1, (up_ne (hn0 x hx)).trans f2, f3⟩
end MVM
