/-! Making: worlds that grow. A world is a list of the logical cells that are there, their addresses, what they hold. -/
def cws (ids : List Nat) (ad : Nat → Nat) (E : Nat → va_E) : va_W := ids.map (fun k => (ad k, E k))
def Wd (D : va_G) (A : Nat → Prop) (ids : List Nat) (ad : Nat → Nat) (E : Nat → va_E) (H : Heap) : Prop := va_P D mv_cl (cws ids ad E) H ∧ va_D A (cws ids ad E)
theorem up_eq {α : Type} {f : Nat → α} {k : Nat} {v : α} : va_up f k v k = v := if_pos rfl
theorem up_ne {α : Type} {f : Nat → α} {k j : Nat} {v : α} (h : j ≠ k) : va_up f k v j = f j := if_neg h
theorem cws_at {ids : List Nat} {ad : Nat → Nat} {E : Nat → va_E} {k : Nat} (h : k ∈ ids) : ∃ q0 : Nat, ids[q0]? = some k ∧ (cws ids ad E)[q0]? = some (ad k, E k) := by
  obtain ⟨q0, hq⟩ := List.getElem?_of_mem h
  exact ⟨q0, hq, by unfold cws; rw [List.getElem?_map, hq]; rfl⟩
theorem cws_inv {ids : List Nat} {ad : Nat → Nat} {E : Nat → va_E} {i : Nat} {x : Nat × va_E} (h : (cws ids ad E)[i]? = some x) : ∃ k, ids[i]? = some k ∧ x = (ad k, E k) := by
  unfold cws at h
  rw [List.getElem?_map] at h
  cases hk : ids[i]? with
  | none => rw [hk] at h; cases h
  | some k => rw [hk] at h; cases h; exact ⟨k, rfl, rfl⟩
theorem cws_push {ids : List Nat} {ad : Nat → Nat} {E : Nat → va_E} {k0 q : Nat} {e : va_E} (h : k0 ∉ ids) : cws ids ad E ++ [(q, e)] = cws (ids ++ [k0]) (va_up ad k0 q) (va_up E k0 e) := by
  unfold cws
  rw [List.map_append]
  congr 1
  · apply List.map_congr_left
    intro k hk
    have : k ≠ k0 := fun z => h (z ▸ hk)
    rw [up_ne this, up_ne this]
  · show _ = [(va_up ad k0 q k0, va_up E k0 e k0)]
    rw [up_eq, up_eq]
theorem cws_set {A : Nat → Prop} {ids : List Nat} {ad : Nat → Nat} {E : Nat → va_E} {k q0 : Nat} {e : va_E} (hD : va_D A (cws ids ad E)) (h : ids[q0]? = some k) : (cws ids ad E).set q0 (ad k, e) = cws ids ad (va_up E k e) := by
  apply List.ext_getElem?
  intro i
  rw [List.getElem?_set]
  by_cases hi : q0 = i
  · subst hi
    have hl : q0 < (cws ids ad E).length := by
      unfold cws
      rw [List.length_map]
      exact (List.getElem?_eq_some_iff.mp h).1
    rw [if_pos rfl, if_pos hl]
    unfold cws
    rw [List.getElem?_map, h]
    show _ = some (ad k, va_up E k e k)
    rw [up_eq]
  · rw [if_neg hi]
    unfold cws
    rw [List.getElem?_map, List.getElem?_map]
    cases hk : ids[i]? with
    | none => rfl
    | some k' =>
      have hne : k' ≠ k := fun z => by
        subst z
        exact hi (hD.1 q0 i _ _ (by unfold cws; rw [List.getElem?_map, h]; rfl) (by unfold cws; rw [List.getElem?_map, hk]; rfl) rfl)
      show some (ad k', E k') = some (ad k', va_up E k e k')
      rw [up_ne hne]
/-- what a new object holds -/
def mv_zf (c : Nat) : List Value := (List.range (mv_nf c)).map (fun j => match mv_ft c j with
  | 2 => .long 0
  | 3 => .null
  | _ => .int 0)
theorem mv_zf_ok {c : Nat} (h : c < 8) : ∀ j, j < mv_nf c → defaultValue (mv_tyf c j) = vp_V (mv_zf c) j := by
  match c, h with
  | 0, _ => decide +kernel
  | 1, _ => decide +kernel
  | 2, _ => decide +kernel
  | 3, _ => decide +kernel
  | 4, _ => decide +kernel
  | 5, _ => decide +kernel
  | 6, _ => decide +kernel
  | 7, _ => decide +kernel
/-- the words that are no good words: links of nest mates, arrays of objects -/
def mv_NX : List Cond := [.methodLinkNest RX2 24 yX1_init RX6, .methodLinkNest RX6 9 yX5_init RX6, .methodLinkNest RX6 54 yX1_init RX6, .methodLinkNest RX6 64 yX3_init RX6, .methodLinkNest RX6 69 yX4_init RX6, .arrayOver (.object RX1), .arrayOver (.object RX2), .arrayOver (.object RX4), .arrayOver (.array .long)]
def mv_N3 (U : State) : Prop := ∀ w ∈ mv_NX, va_Nw w U
theorem sameAO {t : FieldType} {u U : State} (h : u.vm = U.vm) (hZ : va_Nw (.arrayOver t) u) : va_Nw (.arrayOver t) U := by
  unfold va_Nw Cond.before Cond.holds at hZ ⊢
  simp only [Cond.value] at hZ ⊢
  rw [← h]
  exact hZ
theorem warmAO {t : FieldType} {s U : State} (hW : s.WarmedH U.vm) (hZ : va_Nw (.arrayOver t) s) : va_Nw (.arrayOver t) U := sameAO (u := s.setVm U.vm) rfl (by
  unfold va_Nw
  rw [Cond.arrayOver_setVmC hW.alike]
  exact hZ)
theorem mv_N3_warm {s U : State} (hW : s.WarmedH U.vm) (h : mv_N3 s) : mv_N3 U := by
  intro w hw
  have h1 := h w hw
  simp only [mv_NX, List.mem_cons, List.not_mem_nil, or_false] at hw
  rcases hw with rfl | rfl | rfl | rfl | rfl | rfl | rfl | rfl | rfl
  · exact va_Nw.warmM hW h1
  · exact va_Nw.warmM hW h1
  · exact va_Nw.warmM hW h1
  · exact va_Nw.warmM hW h1
  · exact va_Nw.warmM hW h1
  · exact warmAO hW h1
  · exact warmAO hW h1
  · exact warmAO hW h1
  · exact warmAO hW h1
theorem mv_N3_same {u U : State} (h : u.vm = U.vm) (hN : mv_N3 u) : mv_N3 U := by
  intro w hw
  have h1 := hN w hw
  simp only [mv_NX, List.mem_cons, List.not_mem_nil, or_false] at hw
  rcases hw with rfl | rfl | rfl | rfl | rfl | rfl | rfl | rfl | rfl
  · exact va_Nw.same rfl h h1
  · exact va_Nw.same rfl h h1
  · exact va_Nw.same rfl h h1
  · exact va_Nw.same rfl h h1
  · exact va_Nw.same rfl h h1
  · exact sameAO h h1
  · exact sameAO h h1
  · exact sameAO h h1
  · exact sameAO h h1
theorem mv_NX_tbl : mv_NX.all (fun w => lw_tbl.any (fun v => decide (v = w))) = true := by decide +kernel
/-- a method that makes: the machine, the code, the class, the words, the classes' numbers; what is fresh is ours -/
def KX (p : Program) (s : State) (m : MethodId) (args : Array Value) (c : Code) (cc : ByteArray) (own : String) (D : va_G) (T : Nat → ClassId) (A : Nat → Prop) (H0 : Heap) : Prop :=
  p.tables.exec = Jvm.exec ∧ c.code = cc ∧ s.vm.findClass own = some m.cls ∧ (∀ w ∈ mv_T, w.before args s = true) ∧ va_K D mv_cl (mv_tys (D, (fun _ => 0), T)) s ∧ mv_N3 s ∧ ∀ q, H0.size ≤ q → A q
section MVN
variable {p : Program} {l : Launch} {e : Env} {R : Room} {s : State} {m : MethodId} {args : Array Value} {below : List Frame} {meth : Method} {c : Code} {H : Heap} {locs : List Loc} {cells slots : Nat} {Q : State → Prop}
variable {cc : ByteArray} {pc : Nat} {ls : Array Slot} {rest : List Value} {D : va_G} {T : Nat → ClassId} {A : Nat → Prop} {H0 : Heap} {own : String} {ids : List Nat} {ad : Nat → Nat} {E : Nat → va_E}
theorem k_new (X : KX p s m args c cc own D T A H0) {ci k0 index : Nat} (hci : ci < 8) (hk0 : k0 ∉ ids) (h1 : Cond.classLink own index (mv_cn ci) ∈ mv_T) (h2 : Cond.instantiable (mv_cn ci) (mv_nf ci) ∈ mv_T) (h3 : Cond.initialized (mv_cn ci) ∈ mv_T) (hcells : cells + 1 ≤ R.cells) (hslots : slots + mv_nf ci ≤ R.slots) (hdg : decode cc pc = .ok (.new index, 3)) (hW : Wd D A ids ad E H) (hS : va_S A H0 H locs)
    (kk : ∀ (q : Nat) (H1 : Heap), Wd D A (ids ++ [k0]) (va_up ad k0 q) (va_up E k0 (.inr (ci, mv_zf ci))) H1 → va_S A H0 H1 locs → W p l e R s m args below meth c H1 locs (cells + 1) (slots + mv_nf ci) Q (F0 m (pc + 3) ls (.ref q :: rest))) : W p l e R s m args below meth c H locs cells slots Q (F0 m pc ls rest) := by
  obtain ⟨hx, hb, hown, hts, hK, hN, hA⟩ := X
  refine va_new (ci := ci) (fs := mv_zf ci) (C := mv_cn ci) (T := mv_fT ci) (N := mv_nf ci) hx hb hts (mv_wK_ok hci) (mv_tyf ci) (mv_tyf_ok hci) hown (hts _ h1) (hts _ h2) (hts _ h3) hK hW.1 hW.2 hS hA (mv_cl_at hci) (mv_zf_ok hci) hcells hslots hdg (fun q H1 hP hD hS => ?_)
  rw [cws_push hk0] at hP hD
  exact kk q H1 ⟨hP, hD⟩ hS
theorem k_newa (X : KX p s m args c cc own D T A H0) {atype : ArrayType} {ty : FieldType} {t0 j0 k0 N' : Nat} {n : Int32} {a0 : vp_A} (hty : newarray.typeOf atype = ty) (ho : ∀ C, ty ≠ .object C) (hj : (mv_tys (D, (fun _ => 0), T))[j0]? = some (T t0, ty)) (hk0 : k0 ∉ ids) (h1 : Cond.arrayClass ty ∈ mv_T) (ha : ∀ cA : ClassId, vp_cell cA a0 = arrV cA N' (fun _ => defaultValue ty)) (hn : ¬ n < 0) (hN : n.toNatClampNeg = N') (hbytes : N' * componentBytes ty ≤ 536870912) (hcells : cells + 1 ≤ R.cells) (hslots : slots + N' ≤ R.slots) (hdg : decode cc pc = .ok (.newarray atype, 2)) (hW : Wd D A ids ad E H) (hS : va_S A H0 H locs)
    (kk : ∀ (q : Nat) (H1 : Heap), Wd D A (ids ++ [k0]) (va_up ad k0 q) (va_up E k0 (.inl (T t0, a0))) H1 → va_S A H0 H1 locs → W p l e R s m args below meth c H1 locs (cells + 1) (slots + N') Q (F0 m (pc + 2) ls (.ref q :: rest))) : W p l e R s m args below meth c H locs cells slots Q (F0 m pc ls (.int n :: rest)) := by
  obtain ⟨hx, hb, hown, hts, hK, hN3, hA⟩ := X
  refine va_newa (atype := atype) hx hb (by rw [hty]; exact hts _ h1) hty hK hW.1 hW.2 hS hA ha hn hN hbytes hcells hslots hdg (fun q cA H1 hK1 hP hD hS => ?_)
  have e1 := (hK.2 j0 _ hj).2
  have e2 := (hK1.2 _ (cA, ty) (by rw [List.getElem?_append_right (Nat.le_refl _), Nat.sub_self]; rfl)).2
  have ec : T t0 = cA := by
    unfold va_RA at e1 e2
    cases ty with
    | object C => exact absurd rfl (ho C)
    | _ => exact Option.some.inj (e1.symm.trans e2)
  subst ec
  rw [cws_push hk0] at hP hD
  exact kk q H1 ⟨hP, hD⟩ hS
theorem k_newq (X : KX p s m args c cc own D T A H0) {C : String} {t0 j0 k0 N' index : Nat} {n : Int32} (hj : (mv_tys (D, (fun _ => 0), T))[j0]? = some (T t0, .object C)) (hk0 : k0 ∉ ids) (h1 : Cond.classLink own index C ∈ mv_T) (h2 : Cond.arrayOver (.object C) ∈ mv_NX) (hn : ¬ n < 0) (hN : n.toNatClampNeg = N') (hbytes : N' * 4 ≤ 536870912) (hcells : cells + 1 ≤ R.cells) (hslots : slots + N' ≤ R.slots) (hdg : decode cc pc = .ok (.anewarray index, 3)) (hW : Wd D A ids ad E H) (hS : va_S A H0 H locs)
    (kk : ∀ (q : Nat) (H1 : Heap), Wd D A (ids ++ [k0]) (va_up ad k0 q) (va_up E k0 (.inl (T t0, (N', .inr (.inr (.inr (.inr (fun _ => none)))))))) H1 → va_S A H0 H1 locs → W p l e R s m args below meth c H1 locs (cells + 1) (slots + N') Q (F0 m (pc + 3) ls (.ref q :: rest))) : W p l e R s m args below meth c H locs cells slots Q (F0 m pc ls (.int n :: rest)) := by
  obtain ⟨hx, hb, hown, hts, hK, hN3, hA⟩ := X
  refine va_newq hx hb hown (hts _ h1) (hN3 _ h2) hK hW.1 hW.2 hS hA hn hN hbytes hcells hslots hdg (fun q cA H1 hK1 hP hD hS => ?_)
  obtain ⟨kA, comp, -, -, -, e1⟩ := (hK.2 j0 _ hj).2
  obtain ⟨kB, comp2, -, -, -, e2⟩ := (hK1.2 _ (cA, .object C) (by rw [List.getElem?_append_right (Nat.le_refl _), Nat.sub_self]; rfl)).2
  have ec : T t0 = cA := Option.some.inj (e1.symm.trans e2)
  subst ec
  rw [cws_push hk0] at hP hD
  exact kk q H1 ⟨hP, hD⟩ hS
/-- a final field of the class's own constructor -/
theorem k_putF (X : KX p s m args c cc own D T A H0) (hin : meth.name = "<init>") {ci k j index : Nat} {fs : List Value} {v : Value} (hci : ci < 8) (hown2 : own = mv_cn ci) (hk : k ∈ ids) (he : E k = .inr (ci, fs)) (hj : j < mv_nf ci) (hl : fs.length = mv_nf ci) (h1 : Cond.fieldLink own index own ((mv_fT ci) j).2.1 ((mv_fT ci) j).2.2.1 ∈ mv_T) (hd : ((mv_fT ci) j).1 = own) (hf : ((mv_fT ci) j).2.2.2 = true) (hn : narrow (mv_tyf ci j) v = v) (hfit : fits (mv_tyf ci j) v = true) (hdg : decode cc pc = .ok (.putfield index, 3)) (hW : Wd D A ids ad E H) (hS : va_S A H0 H locs)
    (kk : ∀ (H1 : Heap) (locs1 : List Loc), Wd D A ids ad (va_up E k (.inr (ci, fs.set j v))) H1 → va_S A H0 H1 locs1 → W p l e R s m args below meth c H1 locs1 cells slots Q (F0 m (pc + 3) ls rest)) : W p l e R s m args below meth c H locs cells slots Q (F0 m pc ls (v :: .ref (ad k) :: rest)) := by
  obtain ⟨hx, hb, hown, hts, hK, hN3, hA⟩ := X
  obtain ⟨q0, g1, g2⟩ := cws_at (ad := ad) (E := E) hk
  rw [he] at g2
  refine va_putF (ci := ci) (v := v) (ty := mv_tyf ci j) (C := mv_cn ci) (T := mv_fT ci) (N := mv_nf ci) hx hb hts (mv_wK_ok hci) (mv_tyf ci) (mv_tyf_ok hci) (mv_nm_ok hci) hown hK hW.1 hW.2 hS q0 g2 (mv_cl_at hci) j hj (hts _ h1) (fun x h => by rw [hd] at h; exact h) hf hin hd (mv_tyf_ok hci j hj) hn hfit (by rw [hl]; exact hj) hdg (fun H1 locs1 hP hD hS => ?_)
  rw [cws_set hW.2 g1] at hP hD
  exact kk H1 locs1 ⟨hP, hD⟩ hS
theorem k_put (X : KX p s m args c cc own D T A H0) {a : Nat} {ci k j index : Nat} {fs : List Value} {v : Value} (hci : ci < 8) (hak : ad k = a) (hk : k ∈ ids) (he : E k = .inr (ci, fs)) (hj : j < mv_nf ci) (hl : fs.length = mv_nf ci) (h1 : Cond.fieldLink own index own ((mv_fT ci) j).2.1 ((mv_fT ci) j).2.2.1 ∈ mv_T) (hd : ((mv_fT ci) j).1 = own) (hf : ((mv_fT ci) j).2.2.2 = false) (hn : narrow (mv_tyf ci j) v = v) (hfit : fits (mv_tyf ci j) v = true) (hdg : decode cc pc = .ok (.putfield index, 3)) (hW : Wd D A ids ad E H) (hS : va_S A H0 H locs)
    (kk : ∀ (H1 : Heap) (locs1 : List Loc), Wd D A ids ad (va_up E k (.inr (ci, fs.set j v))) H1 → va_S A H0 H1 locs1 → W p l e R s m args below meth c H1 locs1 cells slots Q (F0 m (pc + 3) ls rest)) : W p l e R s m args below meth c H locs cells slots Q (F0 m pc ls (v :: .ref a :: rest)) := by
  subst hak
  obtain ⟨hx, hb, hown, hts, hK, hN3, hA⟩ := X
  obtain ⟨q0, g1, g2⟩ := cws_at (ad := ad) (E := E) hk
  rw [he] at g2
  refine va_put (ci := ci) (v := v) (ty := mv_tyf ci j) (C := mv_cn ci) (T := mv_fT ci) (N := mv_nf ci) hx hb hts (mv_wK_ok hci) (mv_tyf ci) (mv_tyf_ok hci) (mv_nm_ok hci) hown hK hW.1 hW.2 hS q0 g2 (mv_cl_at hci) j hj (hts _ h1) (fun x h => by rw [hd] at h; exact h) hf (mv_tyf_ok hci j hj) hn hfit (by rw [hl]; exact hj) hdg (fun H1 locs1 hP hD hS => ?_)
  rw [cws_set hW.2 g1] at hP hD
  exact kk H1 locs1 ⟨hP, hD⟩ hS
theorem k_get (X : KX p s m args c cc own D T A H0) {a : Nat} {ci k j index : Nat} {fs : List Value} {v : Value} (hci : ci < 8) (hak : ad k = a) (hk : k ∈ ids) (he : E k = .inr (ci, fs)) (hj : j < mv_nf ci) (h1 : Cond.fieldLink own index own ((mv_fT ci) j).2.1 ((mv_fT ci) j).2.2.1 ∈ mv_T) (hd : ((mv_fT ci) j).1 = own) (hv : fs[j]? = some v) (hdg : decode cc pc = .ok (.getfield index, 3)) (hW : Wd D A ids ad E H)
    (kk : W p l e R s m args below meth c H locs cells slots Q (F0 m (pc + 3) ls (v :: rest))) : W p l e R s m args below meth c H locs cells slots Q (F0 m pc ls (.ref a :: rest)) := by
  subst hak
  obtain ⟨hx, hb, hown, hts, hK, hN3, hA⟩ := X
  obtain ⟨q0, g1, g2⟩ := cws_at (ad := ad) (E := E) hk
  rw [he] at g2
  exact va_get (ci := ci) (v := v) (C := mv_cn ci) (T := mv_fT ci) (N := mv_nf ci) hx hb hts (mv_wK_ok hci) hown hK hW.1 q0 g2 (mv_cl_at hci) j hj (hts _ h1) (fun x h => by rw [hd] at h; exact h) hv hdg kk
theorem k_astq (X : KX p s m args c cc own D T A H0) {ci k kv t0 j0 n : Nat} {vs : List Value} {f : Nat → Option Nat} {i : Int32} (hci : ci < 8) (hj : (mv_tys (D, (fun _ => 0), T))[j0]? = some (T t0, .object (mv_cn ci))) (hk : k ∈ ids) (he : E k = .inl (T t0, (n, .inr (.inr (.inr (.inr f)))))) (hv : kv ∈ ids) (hev : E kv = .inr (ci, vs)) (hi : vp_in i n) (hdg : decode cc pc = .ok (.aastore, 1)) (hW : Wd D A ids ad E H) (hS : va_S A H0 H locs)
    (kk : ∀ (H1 : Heap) (locs1 : List Loc), Wd D A ids ad (va_up E k (.inl (T t0, (n, .inr (.inr (.inr (.inr (va_up f i.toNatClampNeg (some (ad kv)))))))))) H1 → va_S A H0 H1 locs1 → W p l e R s m args below meth c H1 locs1 cells slots Q (F0 m (pc + 1) ls rest)) : W p l e R s m args below meth c H locs cells slots Q (F0 m pc ls (.ref (ad kv) :: .int i :: .ref (ad k) :: rest)) := by
  obtain ⟨hx, hb, hown, hts, hK, hN3, hA⟩ := X
  obtain ⟨q0, g1, g2⟩ := cws_at (ad := ad) (E := E) hk
  obtain ⟨q1, g3, g4⟩ := cws_at (ad := ad) (E := E) hv
  rw [he] at g2
  rw [hev] at g4
  refine va_astq hx hb hK hW.1 hW.2 hS q0 j0 q1 ci g2 hj g4 (mv_cl_at hci) hi hdg (fun H1 locs1 hP hD hS => ?_)
  rw [cws_set hW.2 g1] at hP hD
  exact kk H1 locs1 ⟨hP, hD⟩ hS
theorem k_iast (X : KX p s m args c cc own D T A H0) {a : Nat} {k n : Nat} {f : Nat → Int32} {i x : Int32} (hak : ad k = a) (hk : k ∈ ids) (he : E k = .inl (T 0, (n, .inl f))) (hi : vp_in i n) (hdg : decode cc pc = .ok (.iastore, 1)) (hW : Wd D A ids ad E H) (hS : va_S A H0 H locs)
    (kk : ∀ (H1 : Heap) (locs1 : List Loc), Wd D A ids ad (va_up E k (.inl (T 0, (n, .inl (upd f i.toNatClampNeg x))))) H1 → va_S A H0 H1 locs1 → W p l e R s m args below meth c H1 locs1 cells slots Q (F0 m (pc + 1) ls rest)) : W p l e R s m args below meth c H locs cells slots Q (F0 m pc ls (.int x :: .int i :: .ref a :: rest)) := by
  subst hak
  obtain ⟨hx, hb, hown, hts, hK, hN3, hA⟩ := X
  obtain ⟨q0, g1, g2⟩ := cws_at (ad := ad) (E := E) hk
  rw [he] at g2
  refine va_iast hx hb hK hW.1 hW.2 hS q0 0 g2 rfl hi hdg (fun H1 locs1 hP hD hS => ?_)
  rw [cws_set hW.2 g1] at hP hD
  exact kk H1 locs1 ⟨hP, hD⟩ hS
end MVN
