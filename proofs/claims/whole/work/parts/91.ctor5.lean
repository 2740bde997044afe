/-! The constructor of CountWatch: the state between its pieces. -/
def RG6 (x : Nat) : Prop := (1 ≤ x ∧ x < 22) ∨ (100 ≤ x ∧ x < 373) ∨ (400 ≤ x ∧ x < 436)
def AK (kq : List (Nat × Nat)) (ids : List Nat) (ad : Nat → Nat) : Prop := ∀ y ∈ kq, y.1 ∈ ids ∧ ad y.1 = y.2
def EK (ke : List (Nat × va_E)) (ids : List Nat) (E : Nat → va_E) : Prop := ∀ y ∈ ke, y.1 ∈ ids ∧ E y.1 = y.2
theorem AK_FR {S : Nat → Prop} {kq : List (Nat × Nat)} {ids ids' : List Nat} {ad ad' : Nat → Nat} {E E' : Nat → va_E} (h : AK kq ids ad) (hF : FR S ids ad E ids' ad' E') : AK kq ids' ad' := fun y hy => ⟨(hF _ (h y hy).1).1, ((hF _ (h y hy).1).2.1).trans (h y hy).2⟩
theorem EK_FR {S : Nat → Prop} {ke : List (Nat × va_E)} {ids ids' : List Nat} {ad ad' : Nat → Nat} {E E' : Nat → va_E} (h : EK ke ids E) (hF : FR S ids ad E ids' ad' E') (hS : ∀ y ∈ ke, ¬ S y.1) : EK ke ids' E' := fun y hy => ⟨(hF _ (h y hy).1).1, ((hF _ (h y hy).1).2.2 (hS y hy)).trans (h y hy).2⟩
def ST (D : va_G) (T : Nat → ClassId) (ids : List Nat) (ad : Nat → Nat) (E : Nat → va_E) (P Pd : Nat → Prop) (fs : List Value) (kq : List (Nat × Nat)) (ke : List (Nat × va_E)) (ids' : List Nat) (ad' : Nat → Nat) (E' : Nat → va_E) : Prop :=
  FR (fun x => x = 0) ids ad E ids' ad' E' ∧ (∀ x ∈ ids', x ∈ ids ∨ P x) ∧ DO D T Pd ids' ad' E' ∧ E' 0 = .inr (6, fs) ∧ AK kq ids' ad' ∧ EK ke ids' E'
section MV6
variable {p : Program} {l : Launch} {e : Env} {R : Room} {s : State} {m : MethodId} {args : Array Value} {below : List Frame} {meth : Method} {c : Code} {H : Heap} {locs : List Loc} {cells slots : Nat} {Q : State → Prop}
variable {cc : ByteArray} {pc : Nat} {ls : Array Slot} {rest : List Value} {D : va_G} {T : Nat → ClassId} {A : Nat → Prop} {H0 : Heap} {ids ids1 : List Nat} {ad ad1 : Nat → Nat} {E E1 : Nat → va_E} {P Pd : Nat → Prop} {fs : List Value} {kq : List (Nat × Nat)} {ke : List (Nat × va_E)}
theorem ST_new {P' : Nat → Prop} {ids2 : List Nat} {ad2 : Nat → Nat} {E2 : Nat → va_E} {fs2 : List Value} {Pn : Nat → Prop} (hRg : ∀ x ∈ ids, ¬ RG6 x) (h0 : 0 ∈ ids) (hPd : ∀ x, Pd x → x ≠ 0) (hke : ∀ y ∈ ke, y.1 ≠ 0) (h : ST D T ids ad E P Pd fs kq ke ids1 ad1 E1) (hF : FR (fun x => x = 0) ids1 ad1 E1 ids2 ad2 E2) (hm : ∀ x ∈ ids2, x ∈ ids1 ∨ Pn x) (hP : ∀ x, P x ∨ Pn x → P' x) (h2 : E2 0 = .inr (6, fs2)) : ST D T ids ad E P' Pd fs2 kq ke ids2 ad2 E2 := by
  obtain ⟨a1, a2, a3, a4, a5, a6⟩ := h
  refine ⟨FR_mono (fun x hx => hx.elim id id) (FR_trans a1 hF), fun x hx => ?_, DO_FR a3 hF (fun x hx z => hPd x hx z), h2, AK_FR a5 hF, EK_FR a6 hF (fun y hy z => hke y hy z)⟩
  rcases hm x hx with h | h
  · rcases a2 x h with h | h
    · exact Or.inl h
    · exact Or.inr (hP x (Or.inl h))
  · exact Or.inr (hP x (Or.inr h))
theorem s6_row (X : KX p s m args c cc RX6 D T A H0) (hin : meth.name = "<init>") {a k1 j index : Nat} {atype : ArrayType} {ty : FieldType} {t0 j0 N' : Nat} {n : Int32} {a0 : vp_A} (P' : Nat → Prop) (hRg : ∀ x ∈ ids, ¬ RG6 x) (h0 : 0 ∈ ids) (hPd : ∀ x, Pd x → x ≠ 0) (hke : ∀ y ∈ ke, y.1 ≠ 0) (hst : ST D T ids ad E P Pd fs kq ke ids1 ad1 E1) (hak : ad 0 = a) (hl : fs.length = 11) (hk1 : RG6 k1 ∧ ¬ P k1) (hP : ∀ x, P x ∨ x = k1 → P' x)
    (hty : newarray.typeOf atype = ty) (ho : ∀ C, ty ≠ .object C) (hj0 : (mv_tys (D, (fun _ => 0), T))[j0]? = some (T t0, ty)) (h1 : Cond.arrayClass ty ∈ mv_T) (ha : ∀ cA : ClassId, vp_cell cA a0 = arrV cA N' (fun _ => defaultValue ty)) (hn : ¬ n < 0) (hN : n.toNatClampNeg = N') (hbytes : N' * componentBytes ty ≤ 536870912) (hcells : cells + 1 ≤ R.cells) (hslots : slots + N' ≤ R.slots) (hdg : decode cc pc = .ok (.newarray atype, 2))
    (hj : j < 11) (hfl : Cond.fieldLink RX6 index RX6 ((mv_fT 6) j).2.1 ((mv_fT 6) j).2.2.1 ∈ mv_T) (hd : ((mv_fT 6) j).1 = RX6) (hf : ((mv_fT 6) j).2.2.2 = true) (hna : ∀ q, narrow (mv_tyf 6 j) (.ref q) = .ref q) (hfit : ∀ q, fits (mv_tyf 6 j) (.ref q) = true) (hdg2 : decode cc (pc + 2) = .ok (.putfield index, 3)) (hW : Wd D A ids1 ad1 E1 H) (hS : va_S A H0 H locs)
    (kk : ∀ (q : Nat) (ids' : List Nat) (ad' : Nat → Nat) (E' : Nat → va_E) (H1 : Heap) (locs1 : List Loc), ST D T ids ad E P' Pd (fs.set j (.ref q)) ((k1, q) :: kq) ((k1, .inl (T t0, a0)) :: ke) ids' ad' E' → Wd D A ids' ad' E' H1 → va_S A H0 H1 locs1 → W p l e R s m args below meth c H1 locs1 (cells + 1) (slots + N') Q (F0 m (pc + 2 + 3) ls rest)) : W p l e R s m args below meth c H locs cells slots Q (F0 m pc ls (.int n :: .ref a :: rest)) := by
  obtain ⟨a1, a2, a3, a4, a5, a6⟩ := id hst
  refine k_row X hin (ci := 6) (k0 := 0) (k1 := k1) (j := j) (index := index) (fs := fs) ((a1 0 h0).2.1.trans hak) (by decide) rfl (a1 0 h0).1 a4 hl (fun z => by
    rcases a2 _ z with h | h
    · exact hRg _ h hk1.1
    · exact hk1.2 h) hty ho hj0 h1 ha hn hN hbytes hcells hslots hdg hj hfl hd hf hna hfit hdg2 hW hS (fun q ids2 ad2 E2 H2 locs2 hF hm m1 b1 e1 e0 hW hS => ?_)
  obtain ⟨c1, c2, c3, c4, c5, c6⟩ := ST_new (P' := P') hRg h0 hPd hke hst hF hm hP e0
  refine kk q ids2 ad2 E2 H2 locs2 ⟨c1, c2, c3, c4, fun y hy => ?_, fun y hy => ?_⟩ hW hS
  · rcases List.mem_cons.mp hy with rfl | hy
    · exact ⟨m1, b1⟩
    · exact c5 y hy
  · rcases List.mem_cons.mp hy with rfl | hy
    · exact ⟨m1, e1⟩
    · exact c6 y hy
theorem s6_arr (X : KX p s m args c cc RX6 D T A H0) (hin : meth.name = "<init>") {a k1 j index index2 : Nat} {C : String} {t0 j0 N' : Nat} {n : Int32} (P' : Nat → Prop) (hRg : ∀ x ∈ ids, ¬ RG6 x) (h0 : 0 ∈ ids) (hPd : ∀ x, Pd x → x ≠ 0) (hke : ∀ y ∈ ke, y.1 ≠ 0) (hst : ST D T ids ad E P Pd fs kq ke ids1 ad1 E1) (hak : ad 0 = a) (hl : fs.length = 11) (hk1 : RG6 k1 ∧ ¬ P k1) (hP : ∀ x, P x ∨ x = k1 → P' x)
    (hj0 : (mv_tys (D, (fun _ => 0), T))[j0]? = some (T t0, .object C)) (h1 : Cond.classLink RX6 index2 C ∈ mv_T) (h2 : Cond.arrayOver (.object C) ∈ mv_NX) (hn : ¬ n < 0) (hN : n.toNatClampNeg = N') (hbytes : N' * 4 ≤ 536870912) (hcells : cells + 1 ≤ R.cells) (hslots : slots + N' ≤ R.slots) (hdg : decode cc pc = .ok (.anewarray index2, 3))
    (hj : j < 11) (hfl : Cond.fieldLink RX6 index RX6 ((mv_fT 6) j).2.1 ((mv_fT 6) j).2.2.1 ∈ mv_T) (hd : ((mv_fT 6) j).1 = RX6) (hf : ((mv_fT 6) j).2.2.2 = true) (hna : ∀ q, narrow (mv_tyf 6 j) (.ref q) = .ref q) (hfit : ∀ q, fits (mv_tyf 6 j) (.ref q) = true) (hdg2 : decode cc (pc + 3) = .ok (.putfield index, 3)) (hW : Wd D A ids1 ad1 E1 H) (hS : va_S A H0 H locs)
    (kk : ∀ (q : Nat) (ids' : List Nat) (ad' : Nat → Nat) (E' : Nat → va_E) (H1 : Heap) (locs1 : List Loc), ST D T ids ad E P' Pd (fs.set j (.ref q)) ((k1, q) :: kq) ((k1, .inl (T t0, (N', .inr (.inr (.inr (.inr (fun _ => none))))))) :: ke) ids' ad' E' → Wd D A ids' ad' E' H1 → va_S A H0 H1 locs1 → W p l e R s m args below meth c H1 locs1 (cells + 1) (slots + N') Q (F0 m (pc + 3 + 3) ls rest)) : W p l e R s m args below meth c H locs cells slots Q (F0 m pc ls (.int n :: .ref a :: rest)) := by
  obtain ⟨a1, a2, a3, a4, a5, a6⟩ := id hst
  refine k_arr X hin (ci := 6) (k0 := 0) (k1 := k1) (j := j) (index := index) (fs := fs) ((a1 0 h0).2.1.trans hak) (by decide) rfl (a1 0 h0).1 a4 hl (fun z => by
    rcases a2 _ z with h | h
    · exact hRg _ h hk1.1
    · exact hk1.2 h) hj0 h1 h2 hn hN hbytes hcells hslots hdg hj hfl hd hf hna hfit hdg2 hW hS (fun q ids2 ad2 E2 H2 locs2 hF hm m1 b1 e1 e0 hW hS => ?_)
  obtain ⟨c1, c2, c3, c4, c5, c6⟩ := ST_new (P' := P') hRg h0 hPd hke hst hF hm hP e0
  refine kk q ids2 ad2 E2 H2 locs2 ⟨c1, c2, c3, c4, fun y hy => ?_, fun y hy => ?_⟩ hW hS
  · rcases List.mem_cons.mp hy with rfl | hy
    · exact ⟨m1, b1⟩
    · exact c5 y hy
  · rcases List.mem_cons.mp hy with rfl | hy
    · exact ⟨m1, e1⟩
    · exact c6 y hy
theorem s6_obj (X : KX p s m args c cc RX6 D T A H0) (hin : meth.name = "<init>") {a j index0 ci1 k1 index index2 nL maxL fr lo ce sl b0 : Nat} {y : MethodName} {cd : ByteArray} {Rg : Nat → Prop} (P' Pd' : Nat → Prop) (hRg : ∀ x ∈ ids, ¬ RG6 x) (h0 : 0 ∈ ids) (hPd : ∀ x, Pd x → x ≠ 0) (hke : ∀ y ∈ ke, y.1 ≠ 0) (hst : ST D T ids ad E P Pd fs kq ke ids1 ad1 E1) (hak : ad 0 = a) (hl : fs.length = 11) (hk1 : ∀ x, (Rg x ∨ x = k1) → RG6 x ∧ ¬ P x) (hR1 : ¬ Rg k1) (hP : ∀ x, P x ∨ x = k1 ∨ Rg x → P' x) (hPd' : ∀ x, Pd' x → Pd x ∨ Rg x ∨ x = k1)
    (hci1 : ci1 < 8) (h1 : Cond.classLink RX6 index (mv_cn ci1) ∈ mv_T) (h2 : Cond.instantiable (mv_cn ci1) (mv_nf ci1) ∈ mv_T) (h3 : Cond.initialized (mv_cn ci1) ∈ mv_T) (hml : c.maxLocals = nL) (hls : ls.size = nL) (hC : KC l y cd maxL fr lo ce sl ci1 k1 Rg) (hb0 : ∀ q, b0 ≤ q → A q) (hb1 : b0 ≤ H0.size) (hB : CB R RX6 index2 y cd maxL fr lo)
    (hcs : cells + (1 + ce) ≤ R.cells ∧ slots + (mv_nf ci1 + sl) ≤ R.slots) (hst2 : ((rest.map fun v => v.category).sum) + 2 ≤ 8) (hdg : decode cc pc = .ok (.new index, 3)) (hdg2 : decode cc (pc + 3) = .ok (.dup, 1)) (hdg3 : decode cc (pc + 3 + 1) = .ok (.invokespecial index2, 3))
    (hj : j < 11) (hfl : Cond.fieldLink RX6 index0 RX6 ((mv_fT 6) j).2.1 ((mv_fT 6) j).2.2.1 ∈ mv_T) (hd : ((mv_fT 6) j).1 = RX6) (hf : ((mv_fT 6) j).2.2.2 = true) (hna : ∀ q, narrow (mv_tyf 6 j) (.ref q) = .ref q) (hfit : ∀ q, fits (mv_tyf 6 j) (.ref q) = true) (hdg4 : decode cc (pc + 3 + 1 + 3) = .ok (.putfield index0, 3)) (hW : Wd D A ids1 ad1 E1 H) (hS : va_S A H0 H locs)
    (kk : ∀ (q : Nat) (ids' : List Nat) (ad' : Nat → Nat) (E' : Nat → va_E) (H1 : Heap) (locs1 : List Loc), ST D T ids ad E P' Pd' (fs.set j (.ref q)) ((k1, q) :: kq) ke ids' ad' E' → Wd D A ids' ad' E' H1 → va_S A H0 H1 locs1 → W p l e R s m args below meth c H1 locs1 (cells + (1 + ce)) (slots + (mv_nf ci1 + sl)) Q (F0 m (pc + 3 + 1 + 3 + 3) ls rest)) : W p l e R s m args below meth c H locs cells slots Q (F0 m pc ls (.ref a :: rest)) := by
  obtain ⟨a1, a2, a3, a4, a5, a6⟩ := id hst
  have hfree : ∀ x, (Rg x ∨ x = k1) → x ∉ ids1 := fun x hx z => by
    rcases a2 _ z with h | h
    · exact hRg _ h (hk1 x hx).1
    · exact (hk1 x hx).2 h
  refine k_obj X hin (ci := 6) (k0 := 0) (k1 := k1) (j := j) (index0 := index0) (fs := fs) ((a1 0 h0).2.1.trans hak) (by decide) rfl (a1 0 h0).1 a4 hl hci1 (hfree k1 (Or.inr rfl)) h1 h2 h3 hml hls hC hb0 hb1 (fun x hx z => hfree x (Or.inl z) hx) hR1 hB hcs hst2 hdg hdg2 hdg3 hj hfl hd hf hna hfit hdg4 hW hS (fun q ids2 ad2 E2 H2 locs2 hF hm hDO b1 e0 hW hS => ?_)
  obtain ⟨c1, c2, c3, c4, c5, c6⟩ := ST_new (P' := P') hRg h0 hPd hke hst hF hm hP e0
  refine kk q ids2 ad2 E2 H2 locs2 ⟨c1, c2, fun x hx => ?_, c4, fun y hy => ?_, c6⟩ hW hS
  · rcases hPd' x hx with h | h
    · exact c3 x h
    · exact hDO x h
  · rcases List.mem_cons.mp hy with rfl | hy
    · exact ⟨(hDO k1 (Or.inr rfl)).1, b1⟩
    · exact c5 y hy
theorem s6_elt (X : KX p s m args c cc RX6 D T A H0) {kr a ci1 k1 index index2 nL maxL fr lo ce sl b0 t0 j0 n : Nat} {f : Nat → Option Nat} {i : Int32} {y : MethodName} {cd : ByteArray} {Rg : Nat → Prop} (P' Pd' : Nat → Prop) (hRg : ∀ x ∈ ids, ¬ RG6 x) (h0 : 0 ∈ ids) (hPd : ∀ x, Pd x → x ≠ kr) (hke : ∀ y ∈ ke, y.1 ≠ kr) (hst : ST D T ids ad E P Pd fs kq ((kr, .inl (T t0, (n, .inr (.inr (.inr (.inr f)))))) :: ke) ids1 ad1 E1) (hkr : RG6 kr ∧ kr ≠ 0) (hkq : (kr, a) ∈ kq) (hk1 : ∀ x, (Rg x ∨ x = k1) → RG6 x ∧ ¬ P x) (hR1 : ¬ Rg k1) (hP : ∀ x, P x ∨ x = k1 ∨ Rg x → P' x) (hPd' : ∀ x, Pd' x → Pd x ∨ Rg x ∨ x = k1)
    (hj0 : (mv_tys (D, (fun _ => 0), T))[j0]? = some (T t0, .object (mv_cn ci1))) (hi : vp_in i n)
    (hci1 : ci1 < 8) (h1 : Cond.classLink RX6 index (mv_cn ci1) ∈ mv_T) (h2 : Cond.instantiable (mv_cn ci1) (mv_nf ci1) ∈ mv_T) (h3 : Cond.initialized (mv_cn ci1) ∈ mv_T) (hml : c.maxLocals = nL) (hls : ls.size = nL) (hC : KC l y cd maxL fr lo ce sl ci1 k1 Rg) (hb0 : ∀ q, b0 ≤ q → A q) (hb1 : b0 ≤ H0.size) (hB : CB R RX6 index2 y cd maxL fr lo) (hlay : mv_lay k1 = (1, ci1, 0))
    (hcs : cells + (1 + ce) ≤ R.cells ∧ slots + (mv_nf ci1 + sl) ≤ R.slots) (hst2 : ((rest.map fun v => v.category).sum) + 3 ≤ 8) (hdg : decode cc pc = .ok (.new index, 3)) (hdg2 : decode cc (pc + 3) = .ok (.dup, 1)) (hdg3 : decode cc (pc + 3 + 1) = .ok (.invokespecial index2, 3)) (hdg4 : decode cc (pc + 3 + 1 + 3) = .ok (.aastore, 1)) (hW : Wd D A ids1 ad1 E1 H) (hS : va_S A H0 H locs)
    (kk : ∀ (q : Nat) (ids' : List Nat) (ad' : Nat → Nat) (E' : Nat → va_E) (H1 : Heap) (locs1 : List Loc), ST D T ids ad E P' Pd' fs ((k1, q) :: kq) ((kr, .inl (T t0, (n, .inr (.inr (.inr (.inr (va_up f i.toNatClampNeg (some q)))))))) :: ke) ids' ad' E' → Wd D A ids' ad' E' H1 → va_S A H0 H1 locs1 → W p l e R s m args below meth c H1 locs1 (cells + (1 + ce)) (slots + (mv_nf ci1 + sl)) Q (F0 m (pc + 3 + 1 + 3 + 1) ls rest)) : W p l e R s m args below meth c H locs cells slots Q (F0 m pc ls (.int i :: .ref a :: rest)) := by
  obtain ⟨a1, a2, a3, a4, a5, a6⟩ := hst
  have hfree : ∀ x, (Rg x ∨ x = k1) → x ∉ ids1 := fun x hx z => by
    rcases a2 _ z with h | h
    · exact hRg _ h (hk1 x hx).1
    · exact (hk1 x hx).2 h
  obtain ⟨r1, r2⟩ := a6 _ List.mem_cons_self
  obtain ⟨s1, s2⟩ := a5 _ hkq
  refine k_elt X (kr := kr) (k1 := k1) s2 r1 r2 hj0 hi hci1 (hfree k1 (Or.inr rfl)) h1 h2 h3 hml hls hC hb0 hb1 (fun x hx z => hfree x (Or.inl z) hx) hR1 hB hlay hcs hst2 hdg hdg2 hdg3 hdg4 hW hS (fun q ids2 ad2 E2 H2 locs2 hF hm hDO b1 e1 hW hS => ?_)
  have hdo := DO_FR a3 hF (fun x hx z => hPd x hx z)
  refine kk q ids2 ad2 E2 H2 locs2 ⟨fun x hx => ?_, fun x hx => ?_, fun x hx => ?_, ((hF 0 (a1 0 h0).1).2.2 (fun z => hkr.2 z.symm)).trans a4, fun y hy => ?_, fun y hy => ?_⟩ hW hS
  · obtain ⟨f1, f2, f3⟩ := a1 x hx
    obtain ⟨f4, f5, f6⟩ := hF x f1
    exact ⟨f4, f5.trans f2, fun z => (f6 (fun w => hRg x hx (w ▸ hkr.1))).trans (f3 z)⟩
  · rcases hm x hx with h | h
    · rcases a2 x h with h | h
      · exact Or.inl h
      · exact Or.inr (hP x (Or.inl h))
    · exact Or.inr (hP x (Or.inr h))
  · rcases hPd' x hx with h | h
    · exact hdo x h
    · exact hDO x h
  · rcases List.mem_cons.mp hy with rfl | hy
    · exact ⟨(hDO k1 (Or.inr rfl)).1, b1⟩
    · exact AK_FR a5 hF y hy
  · rcases List.mem_cons.mp hy with rfl | hy
    · exact ⟨(hF kr r1).1, e1⟩
    · exact EK_FR (fun y hy => a6 y (List.mem_cons_of_mem _ hy)) hF (fun y hy z => hke y hy z) y hy
theorem ST_put {j : Nat} {v : Value} (hPd : ∀ x, Pd x → x ≠ 0) (hke : ∀ y ∈ ke, y.1 ≠ 0) (h : ST D T ids ad E P Pd fs kq ke ids1 ad1 E1) : ST D T ids ad E P Pd (fs.set j v) kq ke ids1 ad1 (va_up E1 0 (.inr (6, fs.set j v))) := by
  obtain ⟨a1, a2, a3, a4, a5, a6⟩ := h
  have hF : FR (fun x => x = 0) ids1 ad1 E1 ids1 ad1 (va_up E1 0 (.inr (6, fs.set j v))) := fun x hx => ⟨hx, rfl, fun z => up_ne z⟩
  exact ⟨FR_mono (fun x hx => hx.elim id id) (FR_trans a1 hF), a2, DO_FR a3 hF (fun x hx z => hPd x hx z), up_eq, a5, EK_FR a6 hF (fun y hy z => hke y hy z)⟩
end MV6
