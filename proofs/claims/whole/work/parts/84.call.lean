/-! Constructors called. -/
/-- the start of all: what fresh cells hold when the constructors are done; the script is xs, its length n -/
def I00 : mv_I := fun k j => if k = 39 ∧ j = 120 then 2620 else if 400 ≤ k ∧ k < 436 ∧ k % 2 = 0 ∧ j = 2 then 2620 else 0
def J00 : mv_J := fun k j => if k = 14 ∧ j = 2 then 1 else 0
def finE (D : va_G) (T : Nat → ClassId) (ad : Nat → Nat) (k : Nat) : va_E := mv_cell (D, (ad, T)) I00 J00 k
theorem finE_congr {D : va_G} {T : Nat → ClassId} {ad ad' : Nat → Nat} {k : Nat} (h : ∀ j q, mv_rf k j = some q → ad' q = ad q) : finE D T ad' k = finE D T ad k := by
  have h2 : ∀ j, (mv_rf k j).map ad' = (mv_rf k j).map ad := fun j => by
    cases hq : mv_rf k j with
    | none => rfl
    | some q => show some (ad' q) = some (ad q); rw [h j q hq]
  have h3 : ∀ c, mv_fv ad' I00 J00 k c = mv_fv ad I00 J00 k c := fun c => by
    funext j
    unfold mv_fv
    rw [h2 j]
  have h4 : (fun i => (mv_rf k i).map ad') = (fun i => (mv_rf k i).map ad) := funext h2
  unfold finE mv_cell
  split <;> first | rfl | (dsimp only; rw [h3]) | (dsimp only; rw [h4])
/-- done: the cells of Rg, and k0, stand as they will; the others are as they were -/
def DN (D : va_G) (T : Nat → ClassId) (Rg : Nat → Prop) (k0 : Nat) (ids : List Nat) (ad : Nat → Nat) (E : Nat → va_E) (ids' : List Nat) (ad' : Nat → Nat) (E' : Nat → va_E) : Prop :=
  (∀ x ∈ ids, x ∈ ids' ∧ ad' x = ad x ∧ (x ≠ k0 → E' x = E x)) ∧ (∀ x ∈ ids', x ∈ ids ∨ Rg x) ∧ ∀ x, (Rg x ∨ x = k0) → x ∈ ids' ∧ E' x = finE D T ad' x ∧ ∀ j q, mv_rf x j = some q → q ∈ ids'
abbrev KU : Type := List Nat × (Nat → Nat) × (Nat → va_E)
def KPc (D : va_G) (T : Nat → ClassId) (A : Nat → Prop) (b0 : Nat) (ids : List Nat) (ad : Nat → Nat) (E : Nat → va_E) (k0 : Nat) : Array Value → State → Prop := va_Pc [.ref (ad k0)] (fun U => b0 ≤ U.heap.size ∧ Wd D A ids ad E U.heap ∧ va_K D mv_cl (mv_tys (D, (fun _ => 0), T)) U ∧ mv_N3 U)
def krm (fr lo ce sl : Nat) : Room := { frames := fr, cells := ce, slots := sl, locals := lo }
def kws (y : MethodName) (cd : ByteArray) (maxL : Nat) : List Cond := .code y cd maxL none :: mv_T
/-- the contract of a constructor: on a new object, the cells of Rg come -/
def KC (l : Launch) (y : MethodName) (cd : ByteArray) (maxL fr lo ce sl ci k0 : Nat) (Rg : Nat → Prop) : Prop := ∀ (D : va_G) (T : Nat → ClassId) (A : Nat → Prop) (b0 : Nat) (ids : List Nat) (ad : Nat → Nat) (E : Nat → va_E), (∀ q, b0 ≤ q → A q) → k0 ∈ ids → E k0 = .inr (ci, mv_zf ci) → (∀ x ∈ ids, ¬ Rg x) →
  Met l y (kws y cd maxL) (krm fr lo ce sl) (KPc D T A b0 ids ad E k0) (va_Qv (S := KU) (fun u => DN D T Rg k0 ids ad E u.1 u.2.1 u.2.2) (fun u t => Wd D A u.1 u.2.1 u.2.2 t.heap) A) ce sl A
theorem KPc_blind {D : va_G} {T : Nat → ClassId} {A : Nat → Prop} {b0 : Nat} {ids : List Nat} {ad : Nat → Nat} {E : Nat → va_E} {k0 : Nat} : FrameBlind (KPc D T A b0 ids ad E k0) := by
  intro a U g mk h
  obtain ⟨h0, h1, h2, h3, h4⟩ := h
  exact ⟨h0, h1, h2, va_K.moved (u := U) (U := U.calling g mk a) (Vm.Alike.refl U.vm) h3, mv_N3_same (u := U) rfl h4⟩
section MVC
variable {p : Program} {l : Launch} {e : Env} {R : Room} {s : State} {m : MethodId} {args : Array Value} {below : List Frame} {meth : Method} {c : Code} {H : Heap} {locs : List Loc} {cells slots : Nat} {Q : State → Prop}
variable {cc : ByteArray} {pc : Nat} {ls : Array Slot} {rest : List Value} {D : va_G} {T : Nat → ClassId} {A : Nat → Prop} {H0 : Heap} {own : String} {ids : List Nat} {ad : Nat → Nat} {E : Nat → va_E}
variable {y : MethodName} {cd : ByteArray} {nL maxL fr lo ce sl ci k0 index b0 : Nat} {Rg : Nat → Prop}
theorem kws_good (h : Cond.code y cd maxL none ∈ mv_T) : GoodIn mv_T (kws y cd maxL) := fun w hw => by
  rcases List.mem_cons.mp hw with rfl | hw
  · exact mv_T_good _ h
  · exact mv_T_good _ hw
theorem k_goes {a : Array Value} (hr : va_Run p l e R s m args below meth c H locs cells slots ce sl (F0 m pc ls (.ref (ad k0) :: rest)) rest (va_Qv (S := KU) (fun u => DN D T Rg k0 ids ad E u.1 u.2.1 u.2.2) (fun u t => Wd D A u.1 u.2.1 u.2.2 t.heap) A a) A) (hS : va_S A H0 H locs)
    (kk : ∀ (ids' : List Nat) (ad' : Nat → Nat) (E' : Nat → va_E) (H1 : Heap) (locs1 : List Loc), DN D T Rg k0 ids ad E ids' ad' E' → Wd D A ids' ad' E' H1 → va_S A H0 H1 locs1 → W p l e R s m args below meth c H1 locs1 (cells + ce) (slots + sl) Q (F0 m (pc + 3) ls rest)) : W p l e R s m args below meth c H locs cells slots Q (F0 m pc ls (.ref (ad k0) :: rest)) := by
  refine va_callv hr hS (fun q _ h => h) (fun q h => h) (fun u t H1 locs1 ht _ hu hB _ _ hS1 => ?_)
  rw [ht] at hB
  exact kk _ _ _ H1 locs1 hu hB hS1
theorem k_call (X : KX p s m args c cc own D T A H0) (hml : c.maxLocals = nL) (hls : ls.size = nL) (hC : KC l y cd maxL fr lo ce sl ci k0 Rg) (hb0 : ∀ q, b0 ≤ q → A q) (hb1 : b0 ≤ H0.size) (hk0 : k0 ∈ ids) (he : E k0 = .inr (ci, mv_zf ci)) (hRg : ∀ x ∈ ids, ¬ Rg x) (h1 : Cond.code y cd maxL none ∈ mv_T) (h2 : Cond.methodLink own index y ∈ mv_T) (h3 : Cond.instanceMethod y ∈ mv_T) (h4 : Cond.initialized y.cls ∈ mv_T) (hy : y.name = "<init>") (hd : y.cls ≠ "java/lang/invoke/MethodHandle" ∧ y.cls ≠ "java/lang/invoke/VarHandle" ∧ (parseMethodDescriptor y.desc).map (fun d => d.parameters.length) = some 0) (hfr : fr + 1 ≤ R.frames ∧ 8 + (maxL + 11) + lo ≤ R.locals) (hcs : cells + ce ≤ R.cells ∧ slots + sl ≤ R.slots) (hst : (rest.map fun v => v.category).sum ≤ 8) (hdg : decode cc pc = .ok (.invokespecial index, 3)) (hW : Wd D A ids ad E H) (hS : va_S A H0 H locs)
    (kk : ∀ (ids' : List Nat) (ad' : Nat → Nat) (E' : Nat → va_E) (H1 : Heap) (locs1 : List Loc), DN D T Rg k0 ids ad E ids' ad' E' → Wd D A ids' ad' E' H1 → va_S A H0 H1 locs1 → W p l e R s m args below meth c H1 locs1 (cells + ce) (slots + sl) Q (F0 m (pc + 3) ls rest)) : W p l e R s m args below meth c H locs cells slots Q (F0 m pc ls (.ref (ad k0) :: rest)) := by
  obtain ⟨hx, hb, hown, hts, hK, hN, hA⟩ := X
  exact k_goes (va_runI (As := []) (rest := rest) ⟨hx, hb, hml, hown, hts⟩ (hC D T A b0 ids ad E hb0 hk0 he hRg) (cwI 0 hts (kws_good h1) rfl rfl rfl (hts _ h4) (hts _ h2) (hts _ h3) hy hd hfr) ⟨KPc_blind, fun U hU hWm => ⟨rfl, by rw [hU]; exact Nat.le_trans hb1 hS.1, by rw [hU]; exact hW, va_K.moved hWm.alike hK, mv_N3_warm hWm hN⟩⟩ rfl rfl hls rfl (lv_room hst) hdg hcs) hS kk
theorem k_callN (X : KX p s m args c cc own D T A H0) (hml : c.maxLocals = nL) (hls : ls.size = nL) (hC : KC l y cd maxL fr lo ce sl ci k0 Rg) (hb0 : ∀ q, b0 ≤ q → A q) (hb1 : b0 ≤ H0.size) (hk0 : k0 ∈ ids) (he : E k0 = .inr (ci, mv_zf ci)) (hRg : ∀ x ∈ ids, ¬ Rg x) (h1 : Cond.code y cd maxL none ∈ mv_T) {host : String} (h2 : Cond.methodLinkNest own index y host ∈ mv_NX) (h3 : Cond.instanceMethod y ∈ mv_T) (h4 : Cond.initialized y.cls ∈ mv_T) (hy : y.name = "<init>") (hd : y.cls ≠ "java/lang/invoke/MethodHandle" ∧ y.cls ≠ "java/lang/invoke/VarHandle" ∧ (parseMethodDescriptor y.desc).map (fun d => d.parameters.length) = some 0) (hfr : fr + 1 ≤ R.frames ∧ 8 + (maxL + 11) + lo ≤ R.locals) (hcs : cells + ce ≤ R.cells ∧ slots + sl ≤ R.slots) (hst : (rest.map fun v => v.category).sum ≤ 8) (hdg : decode cc pc = .ok (.invokespecial index, 3)) (hW : Wd D A ids ad E H) (hS : va_S A H0 H locs)
    (kk : ∀ (ids' : List Nat) (ad' : Nat → Nat) (E' : Nat → va_E) (H1 : Heap) (locs1 : List Loc), DN D T Rg k0 ids ad E ids' ad' E' → Wd D A ids' ad' E' H1 → va_S A H0 H1 locs1 → W p l e R s m args below meth c H1 locs1 (cells + ce) (slots + sl) Q (F0 m (pc + 3) ls rest)) : W p l e R s m args below meth c H locs cells slots Q (F0 m pc ls (.ref (ad k0) :: rest)) := by
  obtain ⟨hx, hb, hown, hts, hK, hN, hA⟩ := X
  exact k_goes (va_runIN (As := []) (rest := rest) ⟨hx, hb, hml, hown, hts⟩ (hC D T A b0 ids ad E hb0 hk0 he hRg) ⟨va_cnB 0 hts (kws_good h1) rfl rfl rfl (hN _ h2) (hts _ h4) hd hfr, hy, hts _ h3⟩ ⟨KPc_blind, fun U hU hWm => ⟨rfl, by rw [hU]; exact Nat.le_trans hb1 hS.1, by rw [hU]; exact hW, va_K.moved hWm.alike hK, mv_N3_warm hWm hN⟩⟩ rfl rfl hls rfl (lv_room hst) hdg hcs) hS kk
end MVC
