/-! new long[6][7], and the constructor of RunLength. -/
theorem vD_app {A : Nat → Prop} {W1 W2 : va_W} {N : Nat} (h1 : va_D A W1) (hlt : ∀ (k : Nat) (x : Nat × va_E), W1[k]? = some x → x.1 < N) (h2 : ∀ (k : Nat) (x : Nat × va_E), W2[k]? = some x → x.1 = N + k) (hA : ∀ q, N ≤ q → A q) : va_D A (W1 ++ W2) := by
  refine ⟨fun i j x y hi hj hxy => ?_, fun k x hx => ?_⟩
  · by_cases a1 : i < W1.length <;> by_cases a2 : j < W1.length
    · rw [List.getElem?_append_left a1] at hi
      rw [List.getElem?_append_left a2] at hj
      exact h1.1 i j x y hi hj hxy
    · rw [List.getElem?_append_left a1] at hi
      rw [List.getElem?_append_right (by omega)] at hj
      have := hlt _ _ hi
      have := h2 _ _ hj
      omega
    · rw [List.getElem?_append_right (by omega)] at hi
      rw [List.getElem?_append_left a2] at hj
      have := h2 _ _ hi
      have := hlt _ _ hj
      omega
    · rw [List.getElem?_append_right (by omega)] at hi hj
      have := h2 _ _ hi
      have := h2 _ _ hj
      omega
  · by_cases a1 : k < W1.length
    · rw [List.getElem?_append_left a1] at hx
      exact h1.2 k x hx
    · rw [List.getElem?_append_right (by omega)] at hx
      have := h2 _ _ hx
      exact hA _ (by omega)
theorem outer_is (c : ClassId) (N h0 : Nat) : ∀ i : Nat, Jvm.Free.Multi.outerC c N h0 i = arrV c N (fun j => va_rf (if j < i then some (h0 + 1 + j) else none))
  | 0 => by
    show ({ cls := c, slots := Array.replicate N .null, vm := .none } : Cell) = _
    rw [arrV_new]
    refine congrArg (arrV c N) (funext fun j => ?_)
    rw [if_neg (Nat.not_lt_zero j)]
    rfl
  | i + 1 => by
    show (Jvm.Free.Multi.outerC c N h0 i).setSlot i (.ref (h0 + 1 + i)) = _
    rw [outer_is c N h0 i, arrV_store]
    refine congrArg (arrV c N) (funext fun j => ?_)
    by_cases e : j = i
    · subst e
      rw [if_pos (Nat.lt_succ_self j)]
      simp [updV, va_rf]
    · by_cases h : j < i
      · simp [updV, e, h, Nat.lt_succ_of_lt h]
      · simp [updV, e, h, show ¬ j < i + 1 by omega]
def mAd (ad : Nat → Nat) (N : Nat) : Nat → Nat := fun x => if 15 ≤ x ∧ x < 22 then N + (x - 15) else ad x
def mEE (T : Nat → ClassId) (N : Nat) (E : Nat → va_E) : Nat → va_E := fun x => if x = 15 then .inl (T 3, (6, .inr (.inr (.inr (.inr (fun j => if j < 6 then some (N + 1 + j) else none)))))) else if 16 ≤ x ∧ x < 22 then .inl (T 2, (7, .inr (.inl (fun _ => 0)))) else E x
section MVX
variable {p : Program} {l : Launch} {e : Env} {R : Room} {s : State} {m : MethodId} {args : Array Value} {below : List Frame} {meth : Method} {c : Code} {H : Heap} {locs : List Loc} {cells slots : Nat} {Q : State → Prop}
variable {cc : ByteArray} {pc : Nat} {ls : Array Slot} {rest : List Value} {D : va_G} {T : Nat → ClassId} {A : Nat → Prop} {H0 : Heap} {own : String} {ids : List Nat} {ad : Nat → Nat} {E : Nat → va_E}
theorem k_mul (X : KX p s m args c cc own D T A H0) {index : Nat} (hids : ∀ x ∈ ids, ¬ (15 ≤ x ∧ x < 22)) (h1 : Cond.classLink own index "[[J" ∈ mv_T) (hcells : cells + 7 ≤ R.cells) (hslots : slots + 48 ≤ R.slots) (hdg : decode cc pc = .ok (.multianewarray index 2, 4)) (hW : Wd D A ids ad E H) (hS : va_S A H0 H locs)
    (kk : ∀ (N : Nat) (H1 : Heap), Wd D A (ids ++ [15, 16, 17, 18, 19, 20, 21]) (mAd ad N) (mEE T N E) H1 → va_S A H0 H1 locs → W p l e R s m args below meth c H1 locs (cells + 1 + 6) (slots + 6 + 6 * 7) Q (F0 m (pc + 4) ls (.ref N :: rest))) : W p l e R s m args below meth c H locs cells slots Q (F0 m pc ls (.int 7 :: .int 6 :: rest)) := by
  obtain ⟨hx, hb, hown, hts, hK, hN3, hA⟩ := X
  have hover : (Cond.arrayOver (.array .long)).before args s = true := hN3 (.arrayOver (.array .long)) (List.mem_of_getElem? (i := 8) rfl)
  intro Tm hT Xs
  obtain ⟨vm₁, cA, comp, -, fA, fC, hO, -, X', step⟩ := Xs.multianewarray2F hx hown (index := index) (ty := .long) (hts _ h1) hover (hts _ ka_long) (g := F0 m pc ls (.int 7 :: .int 6 :: rest)) (n := 6) (k := 7) rfl (by rw [hb]; exact hdg) rfl (by decide) (by decide) (Nat.le_of_ble_eq_true rfl) (Nat.le_of_ble_eq_true rfl) (Nat.le_of_ble_eq_true rfl) rfl rfl hcells hslots
  have eA : T 3 = cA := Option.some.inj (((hK.2 6 _ rfl).2).symm.trans fA)
  have eC : T 2 = comp := Option.some.inj (((hK.2 2 _ rfl).2).symm.trans fC)
  subst eA
  subst eC
  have n6 : (6 : Int32).toNatClampNeg = 6 := rfl
  have n7 : (7 : Int32).toNatClampNeg = 7 := rfl
  rw [n6, n7] at X' step
  generalize hF : Jvm.Free.Multi.fill (Tm.setVm vm₁) (T 3) (T 2) 6 7 (defaultValue .long) 6 = F at X' step
  have hTh : (Tm.setVm vm₁).heap = H := hT
  obtain ⟨f1, f2, -, -⟩ := Jvm.Free.Multi.fill_facts (Tm.setVm vm₁) (T 3) (T 2) 6 7 (defaultValue .long) 6
  rw [hF, hTh] at f1 f2
  have hold : ∀ x : Nat, x < H.size → F.heap[x]? = H[x]? := fun x hx => by
    have := Jvm.Free.Multi.fill_old (Tm.setVm vm₁) (T 3) (T 2) 6 7 (defaultValue .long) (a := x) (by rw [hTh]; exact hx) 6
    rw [hF, hTh] at this
    exact this
  have hrow : ∀ j : Nat, j < 6 → F.heap[H.size + 1 + j]? = some (vp_cell (T 2) (7, .inr (.inl (fun _ => 0)))) := fun j hj => by
    have := Jvm.Free.Multi.fill_inner (Tm.setVm vm₁) (T 3) (T 2) 6 7 (defaultValue .long) 6 j hj
    rw [hF, hTh] at this
    exact this
  have hout : F.heap[H.size]? = some (vp_cell (T 3) (6, .inr (.inr (.inr (.inr (fun j => if j < 6 then some (H.size + 1 + j) else none)))))) := by
    rw [f2, vp_cell_q, outer_is]
  have hlt : ∀ (k : Nat) (x : Nat × va_E), (cws ids ad E)[k]? = some x → x.1 < H.size := fun k x hx => (hW.1 k x hx).lt
  have ews : cws (ids ++ [15, 16, 17, 18, 19, 20, 21]) (mAd ad H.size) (mEE T H.size E) = cws ids ad E ++ cws [15, 16, 17, 18, 19, 20, 21] (mAd ad H.size) (mEE T H.size E) := by
    unfold cws
    rw [List.map_append]
    congr 1
    apply List.map_congr_left
    intro k hk
    have := hids k hk
    unfold mAd mEE
    rw [if_neg this, if_neg (by omega), if_neg (by omega)]
  have hnew : ∀ (k : Nat) (x : Nat × va_E), (cws [15, 16, 17, 18, 19, 20, 21] (mAd ad H.size) (mEE T H.size E))[k]? = some x → k < 7 ∧ x = (H.size + k, mEE T H.size E (15 + k)) := fun k x hx => by
    obtain ⟨y, hy, rfl⟩ := cws_inv hx
    match k with
    | 0 => cases hy; exact ⟨by decide, rfl⟩
    | 1 => cases hy; exact ⟨by decide, rfl⟩
    | 2 => cases hy; exact ⟨by decide, rfl⟩
    | 3 => cases hy; exact ⟨by decide, rfl⟩
    | 4 => cases hy; exact ⟨by decide, rfl⟩
    | 5 => cases hy; exact ⟨by decide, rfl⟩
    | 6 => cases hy; exact ⟨by decide, rfl⟩
    | k + 7 => cases hy
  have hP : va_P D mv_cl (cws (ids ++ [15, 16, 17, 18, 19, 20, 21]) (mAd ad H.size) (mEE T H.size E)) F.heap := by
    rw [ews]
    refine (va_P.kept hW.1 (fun k x hx => hold x.1 (hlt k x hx))).app (fun k x hx => ?_)
    obtain ⟨h7, rfl⟩ := hnew k x hx
    by_cases h0 : k = 0
    · subst h0
      exact hout
    · have e1 : mEE T H.size E (15 + k) = .inl (T 2, (7, .inr (.inl (fun _ => 0)))) := by
        unfold mEE
        rw [if_neg (by omega), if_pos (by omega)]
      have := hrow (k - 1) (by omega)
      rw [show H.size + 1 + (k - 1) = H.size + k by omega] at this
      rw [e1]
      exact this
  have hD : va_D A (cws (ids ++ [15, 16, 17, 18, 19, 20, 21]) (mAd ad H.size) (mEE T H.size E)) := by
    rw [ews]
    refine vD_app hW.2 hlt (fun k x hx => ?_) (fun q hq => hA q (Nat.le_trans hS.1 hq))
    rw [(hnew k x hx).2]
  obtain ⟨t, a1, b1⟩ := kk H.size F.heap ⟨hP, hD⟩ ⟨Nat.le_trans hS.1 (by rw [f1]; omega), fun x g1 g2 => (hold x (Nat.lt_of_lt_of_le g1 hS.1)).trans (hS.2.1 x g1 g2), hS.2.2⟩ F rfl X'
  refine ⟨t, step _ ?_, b1⟩
  rw [hT]
  exact a1
end MVX
theorem rf_15 (j : Nat) : mv_rf 15 j = if j < 6 then some (16 + j) else none := by
  show (match Nat.blt j 6 with | true => some (16 + j) | false => none) = _
  by_cases h : j < 6
  · have hb : Nat.blt j 6 = true := Nat.blt_eq.mpr h
    rw [hb, if_pos h]
  · have hb : Nat.blt j 6 = false := by rw [Bool.eq_false_iff]; intro z; exact h (Nat.blt_eq.mp z)
    rw [hb, if_neg h]
theorem lay_16 : ∀ x, 16 ≤ x ∧ x < 22 → mv_lay x = (4, 7, 0) := by
  intro x hx
  obtain ⟨i, hi, rfl⟩ : ∃ i, i < 6 ∧ x = 16 + i := ⟨x - 16, by omega, by omega⟩
  match i, hi with
  | 0, _ => rfl
  | 1, _ => rfl
  | 2, _ => rfl
  | 3, _ => rfl
  | 4, _ => rfl
  | 5, _ => rfl
theorem rf_16 {x : Nat} (hx : 16 ≤ x ∧ x < 22) (j : Nat) : mv_rf x j = none := by
  obtain ⟨i, hi, rfl⟩ : ∃ i, i < 6 ∧ x = 16 + i := ⟨x - 16, by omega, by omega⟩
  match i, hi with
  | 0, _ => rfl
  | 1, _ => rfl
  | 2, _ => rfl
  | 3, _ => rfl
  | 4, _ => rfl
  | 5, _ => rfl
theorem DO_run {D : va_G} {T : Nat → ClassId} {ids : List Nat} {ad : Nat → Nat} {E : Nat → va_E} {N : Nat} (h0 : 14 ∈ ids) (h1 : ∀ x, 15 ≤ x ∧ x < 22 → x ∈ ids ∧ ad x = N + (x - 15)) (e1 : E 15 = .inl (T 3, (6, .inr (.inr (.inr (.inr (fun j => if j < 6 then some (N + 1 + j) else none))))))) (e2 : ∀ x, 16 ≤ x ∧ x < 22 → E x = .inl (T 2, (7, .inr (.inl (fun _ => 0))))) (e0 : E 14 = .inr (3, [.ref N, .long 0, .long 1])) : DO D T (fun x => (15 ≤ x ∧ x < 22) ∨ x = 14) ids ad E := by
  intro x hx
  rcases hx with hx | rfl
  · refine ⟨(h1 x hx).1, ?_, fun j q hq => ?_⟩
    · by_cases h15 : x = 15
      · subst h15
        have := mv_cell6 (G := (D, (ad, T))) (I := I00) (J := J00) (k := 15) (n := 6) rfl
        unfold finE
        rw [this, e1]
        congr 7
        funext j
        rw [rf_15]
        by_cases h : j < 6
        · rw [if_pos h, if_pos h]
          show _ = some (ad (16 + j))
          rw [(h1 (16 + j) ⟨by omega, by omega⟩).2]
          congr 1
          omega
        · rw [if_neg h, if_neg h]
          rfl
      · have hx6 : 16 ≤ x ∧ x < 22 := ⟨by omega, by omega⟩
        have := mv_cell4 (G := (D, (ad, T))) (I := I00) (J := J00) (lay_16 x hx6)
        unfold finE
        rw [this, e2 x hx6]
        congr 5
        funext j
        unfold J00
        rw [if_neg (by omega)]
    · by_cases h15 : x = 15
      · subst h15
        rw [rf_15] at hq
        by_cases h : j < 6
        · rw [if_pos h] at hq
          cases hq
          exact (h1 _ ⟨by omega, by omega⟩).1
        · rw [if_neg h] at hq
          cases hq
      · rw [rf_16 ⟨by omega, by omega⟩] at hq
        cases hq
  · refine ⟨h0, e0.trans ?_, fun j q hq => ?_⟩
    · rw [finE_obj (ci := 3) rfl]
      show _ = Sum.inr (3, [Value.ref (ad 15), Value.long (J00 14 1), Value.long (J00 14 2)])
      rw [(h1 15 ⟨by decide, by decide⟩).2]
      rfl
    · match j with
      | 0 => cases hq; exact (h1 15 ⟨by decide, by decide⟩).1
      | j + 1 => cases hq
theorem kc_run (l : Launch) : KC l yX3_init cX3_init 1 1 12 7 48 3 14 (fun x => 15 ≤ x ∧ x < 22) := by
  intro D T A b0 ids ad E hb0 hk0 he hRg
  refine Met.ofW (cc := cX3_init) (maxL := 1) (ret := none) (by decide) rfl ?_
  intro p e s m args below meth c s₁ B hml hv
  obtain ⟨rfl, hsz, hW, hK, hN⟩ := hv
  have X : KX p s m ([Value.ref (ad (14))] : List Value).toArray c cX3_init RX3 D T A s.heap := ⟨B.exec, B.bytes, findClass_of_methodNamed B.named, fun w hw => atoms_spec (ws := kws yX3_init cX3_init 1) B.pre w (List.mem_cons_of_mem _ hw), hK, hN, fun q h => hb0 q (Nat.le_trans hsz h)⟩
  have hr := B.returns
  have hlocks := B.notSynchronized
  have hin : meth.name = "<init>" := (name_of_methodNamed B.named B.method).1
  have hS : va_S A s.heap s.heap [] := va_S.rf
  have hl := lv_entry ([.ref (ad (14))]) (n := 1) (Nat.le_of_ble_eq_true rfl)
  rw [lg_entry_eq]
  generalize (lg_sl ([.ref (ad (14))]) ++ List.replicate (1 - (lg_sl ([.ref (ad (14))])).length) Slot.unset).toArray = ls at hl ⊢
  have hl : lv_has ls 1 [(0, .ref (ad (14)))] := hl
  refine lv_aload_n X.1 X.2.1 kd_X3_0 rfl (lv_at hl 0 rfl) ?_
  refine W.objInit X.1 X.2.1 X.2.2.1 (X.2.2.2.1 _ kl_X3_3) (X.2.2.2.1 _ ki_obj) (X.2.2.2.1 _ kb_obj) rfl (by rw [hml]; exact hl.1) rfl kd_X3_1 (Nat.le_of_ble_eq_true rfl) (Nat.le_of_ble_eq_true rfl) ?_
  refine W.eq (g2 := F0 m 4 ls []) rfl ?_
  refine lv_aload_n X.1 X.2.1 kd_X3_4 rfl (lv_at hl 0 rfl) ?_
  refine lv_bipush (v := 6) X.1 X.2.1 kd_X3_5 (by decide) ?_
  refine lv_bipush (v := 7) X.1 X.2.1 kd_X3_7 (by decide) ?_
  refine k_mul X (index := 11) hRg kc_X3_11 (Nat.le_of_ble_eq_true rfl) (Nat.le_of_ble_eq_true rfl) kd_X3_9 hW hS (fun N H1 hW hS => ?_)
  refine W.eq (g2 := F0 m 13 ls [.ref N, .ref (mAd ad N 14)]) rfl ?_
  have m0 : 14 ∈ ids ++ [15, 16, 17, 18, 19, 20, 21] := List.mem_append_left _ hk0
  refine k_putF X hin (ci := 3) (k := 14) (j := 0) (index := 13) (fs := mv_zf 3) (v := .ref N) (by decide) rfl m0 (show mEE T N E 14 = _ from he) (by decide) rfl kf_X3_13 rfl rfl rfl rfl kd_X3_13 hW hS (fun H2 locs2 hW hS => ?_)
  refine lv_aload_n X.1 X.2.1 kd_X3_16 rfl (lv_at hl 0 rfl) ?_
  refine lv_lconst (v := 0) X.1 X.2.1 kd_X3_17 (by decide) ?_
  refine k_put X (ci := 3) (k := 14) (j := 1) (index := 16) (fs := (mv_zf 3).set 0 (.ref N)) (v := .long 0) (by decide) (show mAd ad N 14 = ad 14 from if_neg (by decide)) m0 up_eq (by decide) rfl kf_X3_16 rfl rfl rfl rfl kd_X3_18 hW hS (fun H3 locs3 hW hS => ?_)
  refine lv_aload_n X.1 X.2.1 kd_X3_21 rfl (lv_at hl 0 rfl) ?_
  refine lv_lconst (v := 1) X.1 X.2.1 kd_X3_22 (by decide) ?_
  refine k_put X (ci := 3) (k := 14) (j := 2) (index := 20) (fs := ((mv_zf 3).set 0 (.ref N)).set 1 (.long 0)) (v := .long 1) (by decide) (show mAd ad N 14 = ad 14 from if_neg (by decide)) m0 up_eq (by decide) rfl kf_X3_20 rfl rfl rfl rfl kd_X3_23 hW hS (fun H4 locs4 hW hS => ?_)
  have hup : ∀ x, x ≠ 14 → va_up (va_up (va_up (mEE T N E) 14 (.inr (3, (mv_zf 3).set 0 (.ref N)))) 14 (.inr (3, ((mv_zf 3).set 0 (.ref N)).set 1 (.long 0)))) 14 (.inr (3, (((mv_zf 3).set 0 (.ref N)).set 1 (.long 0)).set 2 (.long 1))) x = mEE T N E x := fun x hx => ((up_ne hx).trans (up_ne hx)).trans (up_ne hx)
  have hin7 : ∀ x, 15 ≤ x ∧ x < 22 → x ∈ ([15, 16, 17, 18, 19, 20, 21] : List Nat) := fun x hx => by
    have : x = 15 ∨ x = 16 ∨ x = 17 ∨ x = 18 ∨ x = 19 ∨ x = 20 ∨ x = 21 := by omega
    simpa using this
  refine k_end X hr hlocks kd_X3_26 (fun x hx => ?_) (fun x hx => ?_) (DO_run m0 (fun x hx => ⟨List.mem_append_right _ (hin7 x hx), if_pos hx⟩) ((hup 15 (by decide)).trans rfl) (fun x hx => (hup x (by omega)).trans ?_) up_eq) hW hS
  · have hn := hRg x hx
    refine ⟨List.mem_append_left _ hx, if_neg hn, fun z => (hup x z).trans ?_⟩
    unfold mEE
    rw [if_neg (fun w => hn ⟨by omega, by omega⟩), if_neg (fun w => hn ⟨by omega, by omega⟩)]
  · rcases List.mem_append.mp hx with h | h
    · exact Or.inl h
    · right
      simp only [List.mem_cons, List.not_mem_nil, or_false] at h
      omega
  · unfold mEE
    rw [if_neg (by omega), if_pos hx]
