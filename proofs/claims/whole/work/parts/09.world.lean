/-! The world of logical cells, seen by the kit's rows. -/
theorem mv_ids_lt {k : Nat} (h : (mv_lay k).1 ≠ 0) : k ∈ mv_ids := by
  have hk : k < 440 := by
    refine Nat.lt_of_not_le fun q => h ?_
    have h1 : Nat.blt k 49 = false := by rw [Bool.eq_false_iff]; intro z; have := Nat.blt_eq.mp z; omega
    have h2 : (Nat.ble 100 k && Nat.blt k 373) = false := by
      have : Nat.blt k 373 = false := by rw [Bool.eq_false_iff]; intro z; have := Nat.blt_eq.mp z; omega
      rw [this, Bool.and_false]
    have h3 : (Nat.ble 400 k && Nat.blt k 436) = false := by
      have : Nat.blt k 436 = false := by rw [Bool.eq_false_iff]; intro z; have := Nat.blt_eq.mp z; omega
      rw [this, Bool.and_false]
    simp only [mv_lay, h1, h2, h3]
  refine List.mem_filter.mpr ⟨List.mem_range.mpr hk, ?_⟩
  simpa using h
theorem mv_ids_nd : mv_ids.Nodup := List.Nodup.sublist List.filter_sublist List.nodup_range
theorem mv_ids_998 : 998 ∉ mv_ids := fun h => by
  have := List.mem_range.mp (List.mem_filter.mp h).1
  omega
theorem mv_ids_999 : 999 ∉ mv_ids := fun h => by
  have := List.mem_range.mp (List.mem_filter.mp h).1
  omega
def mv_adk (G : mv_G) (A : Nat → Prop) : Prop := (∀ i ∈ mv_ids, ∀ j ∈ mv_ids, G.2.1 i = G.2.1 j → i = j) ∧ ∀ i ∈ mv_ids, A (G.2.1 i)
def mv_scr (I0 I : mv_I) : Prop := I 999 = I0 999 ∧ I 998 = I0 998
theorem mv_ws_at {k q0 : Nat} (G : mv_G) (I : mv_I) (J : mv_J) (h : mv_ids[q0]? = some k) : (mv_ws G I J)[q0]? = some (G.2.1 k, mv_cell G I J k) := by
  unfold mv_ws
  rw [List.getElem?_map, h]
  rfl
theorem mv_ws_inv {G : mv_G} {I : mv_I} {J : mv_J} {i : Nat} {q : Nat × va_E} (h : (mv_ws G I J)[i]? = some q) : ∃ k, mv_ids[i]? = some k ∧ q = (G.2.1 k, mv_cell G I J k) := by
  unfold mv_ws at h
  rw [List.getElem?_map] at h
  cases hk : mv_ids[i]? with
  | none => rw [hk] at h; cases h
  | some k => rw [hk] at h; cases h; exact ⟨k, rfl, rfl⟩
theorem mv_nd_ix {i j k : Nat} (h1 : mv_ids[i]? = some k) (h2 : mv_ids[j]? = some k) : i = j :=
  (List.getElem?_inj (List.getElem?_eq_some_iff.mp h1).1 mv_ids_nd).mp (h1.trans h2.symm)
theorem mv_ws_D {G : mv_G} {A : Nat → Prop} (hk : mv_adk G A) (I : mv_I) (J : mv_J) : va_D A (mv_ws G I J) := by
  refine ⟨fun i j p q hi hj e => ?_, fun i q hi => ?_⟩
  · obtain ⟨k1, a1, rfl⟩ := mv_ws_inv hi
    obtain ⟨k2, a2, rfl⟩ := mv_ws_inv hj
    have := hk.1 k1 (List.mem_of_getElem? a1) k2 (List.mem_of_getElem? a2) e
    subst this
    exact mv_nd_ix a1 a2
  · obtain ⟨k1, a1, rfl⟩ := mv_ws_inv hi
    exact hk.2 k1 (List.mem_of_getElem? a1)
theorem mv_fv_congr {ad : Nat → Nat} {I I' : mv_I} {J J' : mv_J} {k : Nat} (c : Nat) (h1 : I' k = I k) (h2 : J' k = J k) : mv_fv ad I' J' k c = mv_fv ad I J k c := by
  funext j
  unfold mv_fv
  rw [h1, h2]
theorem mv_cell_congr {G : mv_G} {I I' : mv_I} {J J' : mv_J} {k : Nat} (h1 : I' k = I k) (h2 : J' k = J k) : mv_cell G I' J' k = mv_cell G I J k := by
  unfold mv_cell
  rw [h1, h2]
  split <;> first | rfl | rw [mv_fv_congr _ h1 h2]
theorem mv_ws_set {G : mv_G} {I I' : mv_I} {J J' : mv_J} {k q0 : Nat} {x : va_E} (h : mv_ids[q0]? = some k) (hx : x = mv_cell G I' J' k) (hI : ∀ k', k' ≠ k → I' k' = I k') (hJ : ∀ k', k' ≠ k → J' k' = J k') : (mv_ws G I J).set q0 (G.2.1 k, x) = mv_ws G I' J' := by
  apply List.ext_getElem?
  intro i
  rw [List.getElem?_set]
  by_cases hi : q0 = i
  · subst hi
    rw [if_pos rfl, mv_ws_at G I' J' h, if_pos, hx]
    have := (List.getElem?_eq_some_iff.mp h).1
    unfold mv_ws
    rw [List.length_map]
    exact this
  · rw [if_neg hi]
    unfold mv_ws
    rw [List.getElem?_map, List.getElem?_map]
    cases hk : mv_ids[i]? with
    | none => rfl
    | some k' =>
      have hne : k' ≠ k := fun e => hi (mv_nd_ix h (e ▸ hk))
      simp only [Option.map_some]
      rw [mv_cell_congr (hI k' hne) (hJ k' hne)]
theorem mv_si_ne {I : mv_I} {k j k' : Nat} {x : Int32} (h : k' ≠ k) : mv_si I k j x k' = I k' := by
  funext b
  simp [mv_si, h]
theorem mv_si_eq {I : mv_I} {k j : Nat} {x : Int32} : mv_si I k j x k = upd (I k) j x := by
  funext b
  simp [mv_si, upd]
theorem mv_sj_ne {J : mv_J} {k j k' : Nat} {x : Int64} (h : k' ≠ k) : mv_sj J k j x k' = J k' := by
  funext b
  simp [mv_sj, h]
theorem mv_sj_eq {J : mv_J} {k j : Nat} {x : Int64} : mv_sj J k j x k = vp_updL (J k) j x := by
  funext b
  simp [mv_sj, vp_updL]
theorem mv_sr_ne {I : mv_I} {k k' : Nat} {f : Nat → Int32} (h : k' ≠ k) : mv_sr I k f k' = I k' := by
  simp [mv_sr, h]
theorem mv_sr_eq {I : mv_I} {k : Nat} {f : Nat → Int32} : mv_sr I k f k = f := by
  simp [mv_sr]
theorem mv_range_set {α : Type} (n j : Nat) (g g' : Nat → α) (h : ∀ i, i ≠ j → g' i = g i) (x : α) (hx : x = g' j) : ((List.range n).map g).set j x = (List.range n).map g' := by
  apply List.ext_getElem?
  intro i
  rw [List.getElem?_set, List.getElem?_map, List.getElem?_map]
  by_cases hi : j = i
  · subst hi
    rw [if_pos rfl]
    by_cases hl : j < n
    · rw [if_pos (by simpa using hl), List.getElem?_range hl, hx]
      rfl
    · rw [if_neg (by simpa using hl), List.getElem?_eq_none (by simpa using hl)]
      rfl
  · rw [if_neg hi]
    by_cases hl : i < n
    · rw [List.getElem?_range hl]
      exact congrArg some (h i (fun e => hi e.symm)).symm
    · rw [List.getElem?_eq_none (by simpa using hl)]
      rfl
theorem mv_range_get {α : Type} {n j : Nat} (g : Nat → α) (h : j < n) : ((List.range n).map g)[j]? = some (g j) := by
  rw [List.getElem?_map, List.getElem?_range h]
  rfl
theorem mv_cell1 {G : mv_G} {I : mv_I} {J : mv_J} {k c : Nat} (h : mv_lay k = (1, c, 0)) : mv_cell G I J k = .inr (c, (List.range (mv_nf c)).map (mv_fv G.2.1 I J k c)) := by
  unfold mv_cell
  rw [h]
  rfl
theorem mv_cell2 {G : mv_G} {I : mv_I} {J : mv_J} {k n : Nat} (h : mv_lay k = (2, n, 0)) : mv_cell G I J k = .inl (G.2.2 0, (n, .inl (I k))) := by
  unfold mv_cell
  rw [h]
  rfl
theorem mv_cell3 {G : mv_G} {I : mv_I} {J : mv_J} {k n : Nat} (h : mv_lay k = (3, n, 0)) : mv_cell G I J k = .inl (G.2.2 1, (n, .inl (I k))) := by
  unfold mv_cell
  rw [h]
  rfl
theorem mv_cell4 {G : mv_G} {I : mv_I} {J : mv_J} {k n : Nat} (h : mv_lay k = (4, n, 0)) : mv_cell G I J k = .inl (G.2.2 2, (n, .inr (.inl (J k)))) := by
  unfold mv_cell
  rw [h]
  rfl
theorem mv_cell5 {G : mv_G} {I : mv_I} {J : mv_J} {k n t : Nat} (h : mv_lay k = (5, n, t)) : mv_cell G I J k = .inl (G.2.2 (10 + t), (n, .inr (.inr (.inr (.inr (fun i => (mv_rf k i).map G.2.1)))))) := by
  unfold mv_cell
  rw [h]
  rfl
theorem mv_cell6 {G : mv_G} {I : mv_I} {J : mv_J} {k n : Nat} (h : mv_lay k = (6, n, 0)) : mv_cell G I J k = .inl (G.2.2 3, (n, .inr (.inr (.inr (.inr (fun i => (mv_rf k i).map G.2.1)))))) := by
  unfold mv_cell
  rw [h]
  rfl
theorem mv_id_of {k a b c : Nat} (h : mv_lay k = (a + 1, b, c)) : ∃ q0 : Nat, mv_ids[q0]? = some k := List.getElem?_of_mem (mv_ids_lt (by rw [h]; exact Nat.succ_ne_zero a))
theorem mv_not998 {k a b c : Nat} (h : mv_lay k = (a + 1, b, c)) : 999 ≠ k ∧ 998 ≠ k := by
  have hm := mv_ids_lt (k := k) (by rw [h]; exact Nat.succ_ne_zero a)
  exact ⟨fun e => mv_ids_999 (e ▸ hm), fun e => mv_ids_998 (e ▸ hm)⟩
theorem mv_scr_si {I0 I : mv_I} {k j a b c : Nat} {x : Int32} (hs : mv_scr I0 I) (h : mv_lay k = (a + 1, b, c)) : mv_scr I0 (mv_si I k j x) := by
  obtain ⟨h1, h2⟩ := mv_not998 h
  exact ⟨(mv_si_ne h1).trans hs.1, (mv_si_ne h2).trans hs.2⟩
theorem mv_scr_sr {I0 I : mv_I} {k a b c : Nat} {f : Nat → Int32} (hs : mv_scr I0 I) (h : mv_lay k = (a + 1, b, c)) : mv_scr I0 (mv_sr I k f) := by
  obtain ⟨h1, h2⟩ := mv_not998 h
  exact ⟨(mv_sr_ne h1).trans hs.1, (mv_sr_ne h2).trans hs.2⟩
-- the classes' tables
theorem mv_cl_at {c : Nat} (h : c < 8) : mv_cl[c]? = some (mv_cn c, mv_fT c, mv_nf c) := by
  match c, h with
  | 0, _ => rfl
  | 1, _ => rfl
  | 2, _ => rfl
  | 3, _ => rfl
  | 4, _ => rfl
  | 5, _ => rfl
  | 6, _ => rfl
  | 7, _ => rfl
def mv_tyl : List (Nat → FieldType) := [tyX0, tyX1, tyX2, tyX3, tyX4, tyX5, tyX6, tyX7]
def mv_tyf (c : Nat) : Nat → FieldType := mv_tyl.getD c tyX0
theorem mv_tyf_ok {c : Nat} (h : c < 8) : ∀ k, k < mv_nf c → parseFieldDescriptor ((mv_fT c) k).2.2.1 = some (mv_tyf c k) := by
  match c, h with
  | 0, _ => exact tyX0_ok
  | 1, _ => exact tyX1_ok
  | 2, _ => exact tyX2_ok
  | 3, _ => exact tyX3_ok
  | 4, _ => exact tyX4_ok
  | 5, _ => exact tyX5_ok
  | 6, _ => exact tyX6_ok
  | 7, _ => exact tyX7_ok
theorem mv_nm_ok {c : Nat} (h : c < 8) : ∀ a, a < mv_nf c → ∀ b, b < mv_nf c → a ≠ b → ((mv_fT c) a).2.1 ≠ ((mv_fT c) b).2.1 := by
  match c, h with
  | 0, _ => exact nmX0
  | 1, _ => exact nmX1
  | 2, _ => exact nmX2
  | 3, _ => exact nmX3
  | 4, _ => exact nmX4
  | 5, _ => exact nmX5
  | 6, _ => exact nmX6
  | 7, _ => exact nmX7
def mv_fto0 (c j : Nat) : Bool := decide (mv_ft c j ≠ 0) || (decide (parseFieldDescriptor ((mv_fT c) j).2.2.1 = some .int) && decide (((mv_fT c) j).2.2.2 = false))
theorem mv_fta0 : (List.range 8).all (fun c => (List.range (mv_nf c)).all (mv_fto0 c)) = true := by decide +kernel
theorem mv_ftk0 {c j : Nat} (hc : c < 8) (hj : j < mv_nf c) (h : mv_ft c j = 0) : parseFieldDescriptor ((mv_fT c) j).2.2.1 = some .int ∧ ((mv_fT c) j).2.2.2 = false := by
  have h1 := List.all_eq_true.mp (List.all_eq_true.mp mv_fta0 c (List.mem_range.mpr hc)) j (List.mem_range.mpr hj)
  simp only [mv_fto0, h, ne_eq, not_true_eq_false, decide_false, Bool.false_or, Bool.and_eq_true, decide_eq_true_eq] at h1
  exact h1
def mv_fto1 (c j : Nat) : Bool := decide (mv_ft c j ≠ 1) || (decide (parseFieldDescriptor ((mv_fT c) j).2.2.1 = some .boolean) && decide (((mv_fT c) j).2.2.2 = false))
theorem mv_fta1 : (List.range 8).all (fun c => (List.range (mv_nf c)).all (mv_fto1 c)) = true := by decide +kernel
theorem mv_ftk1 {c j : Nat} (hc : c < 8) (hj : j < mv_nf c) (h : mv_ft c j = 1) : parseFieldDescriptor ((mv_fT c) j).2.2.1 = some .boolean ∧ ((mv_fT c) j).2.2.2 = false := by
  have h1 := List.all_eq_true.mp (List.all_eq_true.mp mv_fta1 c (List.mem_range.mpr hc)) j (List.mem_range.mpr hj)
  simp only [mv_fto1, h, ne_eq, not_true_eq_false, decide_false, Bool.false_or, Bool.and_eq_true, decide_eq_true_eq] at h1
  exact h1
def mv_fto2 (c j : Nat) : Bool := decide (mv_ft c j ≠ 2) || (decide (parseFieldDescriptor ((mv_fT c) j).2.2.1 = some .long) && decide (((mv_fT c) j).2.2.2 = false))
theorem mv_fta2 : (List.range 8).all (fun c => (List.range (mv_nf c)).all (mv_fto2 c)) = true := by decide +kernel
theorem mv_ftk2 {c j : Nat} (hc : c < 8) (hj : j < mv_nf c) (h : mv_ft c j = 2) : parseFieldDescriptor ((mv_fT c) j).2.2.1 = some .long ∧ ((mv_fT c) j).2.2.2 = false := by
  have h1 := List.all_eq_true.mp (List.all_eq_true.mp mv_fta2 c (List.mem_range.mpr hc)) j (List.mem_range.mpr hj)
  simp only [mv_fto2, h, ne_eq, not_true_eq_false, decide_false, Bool.false_or, Bool.and_eq_true, decide_eq_true_eq] at h1
  exact h1
theorem mv_wK_ok {c : Nat} (h : c < 8) : ∀ w ∈ u_ws (mv_cn c) (mv_fT c) (mv_nf c), w ∈ mv_T := by
  match c, h with
  | 0, _ => exact mv_qK_ok 0 (by decide +kernel)
  | 1, _ => exact mv_qK_ok 1 (by decide +kernel)
  | 2, _ => exact mv_qK_ok 2 (by decide +kernel)
  | 3, _ => exact mv_qK_ok 3 (by decide +kernel)
  | 4, _ => exact mv_qK_ok 4 (by decide +kernel)
  | 5, _ => exact mv_qK_ok 5 (by decide +kernel)
  | 6, _ => exact mv_qK_ok 6 (by decide +kernel)
  | 7, _ => exact mv_qK_ok 7 (by decide +kernel)
-- locals
theorem mv_cat (ad : Nat → Nat) (v : Value) : (mv_z ad v).category = v.category := by cases v <;> rfl
theorem mv_lget_mem {l : mv_L} {i : Nat} {v : Value} (h : mv_lget l i = some v) : (i, v) ∈ l := by
  induction l with
  | nil => cases h
  | cons q r ih =>
    obtain ⟨j, w⟩ := q
    unfold mv_lget at h
    cases hb : Nat.beq i j with
    | true =>
      rw [hb] at h
      cases h
      have : i = j := Nat.eq_of_beq_eq_true hb
      subst this
      exact List.mem_cons_self
    | false =>
      rw [hb] at h
      exact List.mem_cons_of_mem _ (ih h)
theorem mv_lget_has {ls : Array Slot} {n : Nat} {l : mv_L} {ad : Nat → Nat} {i : Nat} {v : Value} (hl : lv_has ls n (l.map (fun q => (q.1, mv_z ad q.2)))) (h : mv_lget l i = some v) : ls[i]? = some (.val (mv_z ad v)) :=
  hl.2.2 (i, mv_z ad v) (List.mem_map.mpr ⟨(i, v), mv_lget_mem h, rfl⟩)
theorem mv_ins_mem {l : mv_L} {i : Nat} {v : Value} {q : Nat × Value} (h : q ∈ mv_ins l i v) : q = (i, v) ∨ q ∈ l := by
  induction l with
  | nil => exact Or.inl (List.mem_singleton.mp h)
  | cons p r ih =>
    obtain ⟨j, w⟩ := p
    unfold mv_ins at h
    cases hb : Nat.blt j i with
    | true =>
      rw [hb] at h
      rcases List.mem_cons.mp h with rfl | h
      · exact Or.inr List.mem_cons_self
      · rcases ih h with h | h
        · exact Or.inl h
        · exact Or.inr (List.mem_cons_of_mem _ h)
    | false =>
      rw [hb] at h
      rcases List.mem_cons.mp h with rfl | h
      · exact Or.inl rfl
      · exact Or.inr h
theorem mv_set1_has {ls : Array Slot} {n : Nat} {l : mv_L} {ad : Nat → Nat} {i : Nat} {v : Value} (h : lv_has ls n ((i, mv_z ad v) :: (l.map (fun q => (q.1, mv_z ad q.2))).filter (fun q => !(q.1 == i) && !(q.1 + 1 == i && q.2.category == 2)))) : lv_has ls n ((mv_set1 l i v).map (fun q => (q.1, mv_z ad q.2))) := by
  refine ⟨h.1, h.2.1, fun q hq => h.2.2 q ?_⟩
  obtain ⟨q', h1, rfl⟩ := List.mem_map.mp hq
  rcases mv_ins_mem h1 with rfl | h1
  · exact List.mem_cons_self
  · obtain ⟨h2, h3⟩ := List.mem_filter.mp h1
    refine List.mem_cons_of_mem _ (List.mem_filter.mpr ⟨List.mem_map.mpr ⟨q', h2, rfl⟩, ?_⟩)
    dsimp only
    rw [mv_cat]
    exact h3
theorem mv_set2_has {ls : Array Slot} {n : Nat} {l : mv_L} {ad : Nat → Nat} {i : Nat} {v : Value} (h : lv_has ls n ((i, mv_z ad v) :: (l.map (fun q => (q.1, mv_z ad q.2))).filter (fun q => !(q.1 == i) && (!(q.1 == i + 1) && !(q.1 + 1 == i && q.2.category == 2))))) : lv_has ls n ((mv_set2 l i v).map (fun q => (q.1, mv_z ad q.2))) := by
  refine ⟨h.1, h.2.1, fun q hq => h.2.2 q ?_⟩
  obtain ⟨q', h1, rfl⟩ := List.mem_map.mp hq
  rcases mv_ins_mem h1 with rfl | h1
  · exact List.mem_cons_self
  · obtain ⟨h2, h3⟩ := List.mem_filter.mp h1
    refine List.mem_cons_of_mem _ (List.mem_filter.mpr ⟨List.mem_map.mpr ⟨q', h2, rfl⟩, ?_⟩)
    dsimp only
    rw [mv_cat]
    exact h3
-- what a step says of the stack
theorem mv_i1e {st : List Value} {k : Int32 → List Value → Prop} (h : mv_i1 st k) : ∃ x r, st = .int x :: r ∧ k x r := by
  unfold mv_i1 at h
  split at h
  · exact ⟨_, _, rfl, h⟩
  · exact h.elim
theorem mv_i2e {st : List Value} {k : Int32 → Int32 → List Value → Prop} (h : mv_i2 st k) : ∃ x y r, st = .int y :: .int x :: r ∧ k x y r := by
  unfold mv_i2 at h
  split at h
  · exact ⟨_, _, _, rfl, h⟩
  · exact h.elim
theorem mv_l1e {st : List Value} {k : Int64 → List Value → Prop} (h : mv_l1 st k) : ∃ x r, st = .long x :: r ∧ k x r := by
  unfold mv_l1 at h
  split at h
  · exact ⟨_, _, rfl, h⟩
  · exact h.elim
theorem mv_l2e {st : List Value} {k : Int64 → Int64 → List Value → Prop} (h : mv_l2 st k) : ∃ x y r, st = .long y :: .long x :: r ∧ k x y r := by
  unfold mv_l2 at h
  split at h
  · exact ⟨_, _, _, rfl, h⟩
  · exact h.elim
theorem mv_lie {st : List Value} {k : Int64 → Int32 → List Value → Prop} (h : mv_li st k) : ∃ x y r, st = .int y :: .long x :: r ∧ k x y r := by
  unfold mv_li at h
  split at h
  · exact ⟨_, _, _, rfl, h⟩
  · exact h.elim
theorem mv_a1e {st : List Value} {k : Nat → List Value → Prop} (h : mv_a1 st k) : ∃ x r, st = .ref x :: r ∧ k x r := by
  unfold mv_a1 at h
  split at h
  · exact ⟨_, _, rfl, h⟩
  · exact h.elim
theorem mv_aie {st : List Value} {k : Nat → Int32 → List Value → Prop} (h : mv_ai st k) : ∃ o i r, st = .int i :: .ref o :: r ∧ k o i r := by
  unfold mv_ai at h
  split at h
  · exact ⟨_, _, _, rfl, h⟩
  · exact h.elim
theorem mv_aiie {st : List Value} {k : Nat → Int32 → Int32 → List Value → Prop} (h : mv_aii st k) : ∃ o i x r, st = .int x :: .int i :: .ref o :: r ∧ k o i x r := by
  unfold mv_aii at h
  split at h
  · exact ⟨_, _, _, _, rfl, h⟩
  · exact h.elim
theorem mv_aile {st : List Value} {k : Nat → Int32 → Int64 → List Value → Prop} (h : mv_ail st k) : ∃ o i x r, st = .long x :: .int i :: .ref o :: r ∧ k o i x r := by
  unfold mv_ail at h
  split at h
  · exact ⟨_, _, _, _, rfl, h⟩
  · exact h.elim
theorem mv_pie {st : List Value} {k : Nat → Int32 → List Value → Prop} (h : mv_pi st k) : ∃ o x r, st = .int x :: .ref o :: r ∧ k o x r := by
  unfold mv_pi at h
  split at h
  · exact ⟨_, _, _, rfl, h⟩
  · exact h.elim
theorem mv_ple {st : List Value} {k : Nat → Int64 → List Value → Prop} (h : mv_pl st k) : ∃ o x r, st = .long x :: .ref o :: r ∧ k o x r := by
  unfold mv_pl at h
  split at h
  · exact ⟨_, _, _, rfl, h⟩
  · exact h.elim
theorem mv_cpye {st : List Value} {k : Nat → Int32 → Nat → Int32 → Int32 → List Value → Prop} (h : mv_cpy st k) : ∃ o sp d dp n r, st = .int n :: .int dp :: .ref d :: .int sp :: .ref o :: r ∧ k o sp d dp n r := by
  unfold mv_cpy at h
  split at h
  · exact ⟨_, _, _, _, _, _, rfl, h⟩
  · exact h.elim
theorem mv_gie {l : mv_L} {i : Nat} {k : Int32 → Prop} (h : mv_gi l i k) : ∃ x, mv_lget l i = some (.int x) ∧ k x := by
  unfold mv_gi at h
  split at h
  · exact ⟨_, by assumption, h⟩
  · exact h.elim
theorem mv_gle {l : mv_L} {i : Nat} {k : Int64 → Prop} (h : mv_gl l i k) : ∃ x, mv_lget l i = some (.long x) ∧ k x := by
  unfold mv_gl at h
  split at h
  · exact ⟨_, by assumption, h⟩
  · exact h.elim
theorem mv_gae {l : mv_L} {i : Nat} {k : Value → Prop} (h : mv_ga l i k) : (∃ x, mv_lget l i = some (.ref x) ∧ k (.ref x)) ∨ (mv_lget l i = some .null ∧ k .null) := by
  unfold mv_ga at h
  split at h
  · exact Or.inl ⟨_, by assumption, h⟩
  · exact Or.inr ⟨by assumption, h⟩
  · exact h.elim
theorem mv_len {b : ByteArray} {pc nx k : Nat} {i : Instr} (h : nx = pc + k) (hd : decode b pc = .ok (i, nx - pc)) : decode b pc = .ok (i, k) := by
  subst h
  rw [hd, Nat.add_sub_cancel_left]
-- switches
theorem mv_sw_ok : ∀ {l : List (Int32 × Nat)} {x : Int32} {k : Nat → Prop} {d : Prop}, mv_sw l x k d → (∃ (i t : Nat), l[i]? = some (x, t) ∧ k t) ∨ ((∀ (i : Nat) (q : Int32 × Nat), l[i]? = some q → x ≠ q.1) ∧ d)
  | [], _, _, _, h => Or.inr ⟨fun i q hq => by simp at hq, h⟩
  | (c, t) :: l, x, k, d, h => by
    by_cases hx : x = c
    · exact Or.inl ⟨0, t, by rw [hx]; rfl, h.1 hx⟩
    · rcases mv_sw_ok (h.2 hx) with ⟨i, t', h1, h2⟩ | ⟨h1, h2⟩
      · exact Or.inl ⟨i + 1, t', h1, h2⟩
      · refine Or.inr ⟨fun i q hq => ?_, h2⟩
        cases i with
        | zero => cases hq; exact hx
        | succ i => exact h1 i q hq
theorem mv_csOf_at (pc : Nat) : ∀ (os : List Int) (lo : Int) (i : Nat), (mv_csOf pc lo os)[i]? = os[i]?.map (fun o => (Int32.ofInt (lo + i), ((pc : Int) + o).toNat))
  | [], lo, i => by simp [mv_csOf]
  | o :: r, lo, 0 => by simp [mv_csOf]
  | o :: r, lo, i + 1 => by
    have h := mv_csOf_at pc r (lo + 1) i
    simp only [mv_csOf, List.getElem?_cons_succ, h]
    congr 1
    funext o
    congr 2
    push_cast
    omega
