/-! One step of the machine: what mv_step asks is enough. -/
section MVS
variable {p : Program} {l : Launch} {e : Env} {R : Room} {s : State} {m : MethodId} {args : Array Value} {below : List Frame} {meth : Method} {c : Code} {cells slots : Nat} {Q : State → Prop}
/-- a method's frame: the machine, the code, the words, the classes, the room -/
def mv_ctx (p : Program) (R : Room) (s : State) (m : MethodId) (args : Array Value) (c : Code) (cells slots : Nat) (G : mv_G) (A : Nat → Prop) (M : mv_M) : Prop :=
  p.tables.exec = Jvm.exec ∧ c.code = M.2.1 ∧ c.maxLocals = M.2.2.1 ∧ s.vm.findClass (mv_cn M.2.2.2.2.1) = some m.cls ∧ (∀ w ∈ mv_T, w.before args s = true) ∧ mv_N s ∧ va_K G.1 mv_cl (mv_tys G) s ∧ mv_adk G A ∧ M.2.2.2.2.2.2.1 ≤ R.frames ∧ M.2.2.2.2.2.2.2 ≤ R.locals ∧ cells ≤ R.cells ∧ slots ≤ R.slots
/-- the same of a place in the method -/
def mv_W (p : Program) (l : Launch) (e : Env) (R : Room) (s : State) (m : MethodId) (args : Array Value) (below : List Frame) (meth : Method) (c : Code) (cells slots : Nat) (Q : State → Prop) (G : mv_G) (A : Nat → Prop) (H0 : Heap) (I0 : mv_I) (nL : Nat) : mv_X := fun pc lv st I J =>
  ∀ (H : Heap) (locs : List Loc) (ls : Array Slot), mv_scr I0 I → va_P G.1 mv_cl (mv_ws G I J) H → va_S A H0 H locs → lv_has ls nL (lv.map (fun q => (q.1, mv_z G.2.1 q.2))) → W p l e R s m args below meth c H locs cells slots Q (F0 m pc ls (st.map (mv_z G.2.1)))
def mv_fin : Instr → Option Value → Prop
  | .ireturn, some (.int _) => True
  | .lreturn, some (.long _) => True
  | .areturn, some (.ref _) => True
  | .areturn, some .null => True
  | .return_, none => True
  | _, _ => False
/-- a method's words -/
def mv_WS (k : Nat) : List Cond := .code (mv_m k).1 (mv_m k).2.1 (mv_m k).2.2.1 (mv_m k).2.2.2.1 :: mv_T
def mv_rm (M : mv_M) : Room := { frames := M.2.2.2.2.2.2.1, cells := 0, slots := 0, locals := M.2.2.2.2.2.2.2 }
def mv_Pc (G : mv_G) (as : List Value) (I : mv_I) (J : mv_J) : Array Value → State → Prop := fun v U => v = (as.map (mv_z G.2.1)).toArray ∧ va_P G.1 mv_cl (mv_ws G I J) U.heap ∧ va_K G.1 mv_cl (mv_tys G) U ∧ mv_N U
def mv_Qc (G : mv_G) (A : Nat → Prop) (I : mv_I) (post : Option Value → mv_I → mv_J → Prop) : Array Value → State → Outcome → State → Prop := fun _ st oc t => (∃ r I' J', oc = .returned (r.map (mv_z G.2.1)) ∧ post r I' J' ∧ mv_scr I I' ∧ va_P G.1 mv_cl (mv_ws G I' J') t.heap) ∧ va_F A st t
/-- the method k keeps its word -/
def mv_Con (l : Launch) (G : mv_G) (A : Nat → Prop) (k : Nat) (sp : mv_SP) : Prop := ∀ (as : List Value) (I : mv_I) (J : mv_J), sp.1 as I J → Met l (mv_m k).1 (mv_WS k) (mv_rm (mv_m k)) (mv_Pc G as I J) (mv_Qc G A I (sp.2 as I J)) 0 0 A
/-- the callees of a method -/
def mv_CsOk (l : Launch) (G : mv_G) (A : Nat → Prop) (cs : Nat → mv_SP) : Prop := (∀ k, k ≠ 150 → k ≠ 151 → mv_Con l G A k (cs k)) ∧ (cs 150 = sp_max ∨ cs 150 = mv_none) ∧ (cs 151 = sp_min ∨ cs 151 = mv_none)
theorem mv_Pc_blind (G : mv_G) (as : List Value) (I : mv_I) (J : mv_J) : FrameBlind (mv_Pc G as I J) := by
  intro a U g mk h
  obtain ⟨h1, h2, h3, h4⟩ := h
  exact ⟨h1, h2, va_K.moved (u := U) (U := U.calling g mk a) (Vm.Alike.refl U.vm) h3, fun q hq => va_Nw.same (u := U) (by simp [mv_wN, Cond.onTables]) rfl (h4 q hq)⟩
theorem mv_N_warm {U : State} (hW : s.WarmedH U.vm) (h : mv_N s) : mv_N U := fun q hq => va_Nw.warmM hW (h q hq)
theorem mv_goes {G : mv_G} {A : Nat → Prop} {H0 H : Heap} {locs : List Loc} {pc : Nat} {ls : Array Slot} {rest st0 : List Value} {a : Array Value} {I : mv_I} {post : Option Value → mv_I → mv_J → Prop}
    (hr : va_Run p l e R s m args below meth c H locs cells slots 0 0 (F0 m pc ls st0) rest (mv_Qc G A I post a) A) (hS : va_S A H0 H locs)
    (kk : ∀ (r : Option Value) (I' : mv_I) (J' : mv_J) (H1 : Heap) (locs1 : List Loc), post r I' J' → mv_scr I I' → va_P G.1 mv_cl (mv_ws G I' J') H1 → va_S A H0 H1 locs1 → W p l e R s m args below meth c H1 locs1 cells slots Q (F0 m (pc + 3) ls ((r.map (mv_z G.2.1)).toList ++ rest))) : W p l e R s m args below meth c H locs cells slots Q (F0 m pc ls st0) := by
  intro T hT X
  obtain ⟨v, st₀, t, T', L, h0, X', hL, e1, e2, ⟨⟨r, I', J', hv, hp, hsc, hb⟩, hz, hk⟩, st⟩ := hr T hT X
  cases hv
  rw [h0] at hz hk
  obtain ⟨t2, a1, b1⟩ := kk r I' J' T'.heap (locs ++ L) hp hsc (by rw [e1]; exact hb)
    ⟨Nat.le_trans hS.1 (by rw [e1]; exact hz), fun q h1 h2 => by rw [e1, hk q (Nat.lt_of_lt_of_le h1 hS.1) h2]; exact hS.2.1 q h1 h2, fun q hq => by
      rcases List.mem_append.mp hq with h | h
      · exact hS.2.2 q h
      · exact hL q h⟩ T' rfl X'
  exact ⟨t2, st t2 a1, b1⟩
theorem mv_narb {x : Int32} (h : x = 0 ∨ x = 1) : narrow .boolean (.int x) = .int x := by
  rcases h with rfl | rfl <;> decide
theorem mv_nar1 {x : Int32} (h : x = 0 ∨ x = 1) : vp_nar .boolean x = x := by
  rcases h with rfl | rfl <;> decide
theorem mv_fitb {x : Int32} (h : x = 0 ∨ x = 1) : fits .boolean (.int x) = true := by
  rcases h with rfl | rfl <;> decide
theorem mv_tset_i {G : mv_G} {I : mv_I} {J : mv_J} {k q0 n a : Nat} {j : Nat} {x : Int32} {cA : ClassId} (hq : mv_ids[q0]? = some k) (hl : ∀ I' : mv_I, mv_cell G I' J k = .inl (cA, (n, .inl (I' k)))) : (mv_ws G I J).set q0 (G.2.1 k, .inl (cA, n, .inl (upd (I k) j x))) = mv_ws G (mv_si I k j x) J :=
  mv_ws_set hq (by rw [hl, mv_si_eq]) (fun _ h => mv_si_ne h) (fun _ _ => rfl)
theorem mv_look {pc : Nat} {d : Int} : ∀ {l : List (Int × Int)} {x : Int32} {k : Nat → Prop} {dd : Prop}, (∀ q ∈ l, 0 ≤ (pc : Int) + q.2 ∧ -1000 ≤ q.1 ∧ q.1 ≤ 1000) → mv_sw (mv_csL pc l) x k dd → (∃ (o : Int) (t : Nat), Op.lookupswitch.offset l d x.toInt = o ∧ (pc : Int) + o = (t : Int) ∧ k t) ∨ (Op.lookupswitch.offset l d x.toInt = d ∧ dd)
  | [], _, _, _, _, h => Or.inr ⟨rfl, h⟩
  | (c, o) :: l, x, k, dd, hall, h => by
    obtain ⟨g1, g2, g3⟩ := hall (c, o) List.mem_cons_self
    dsimp only at g1 g2 g3
    have hc : (Int32.ofInt c).toInt = c := Int32.toInt_ofInt_of_le (by omega) (by omega)
    by_cases hx : x = Int32.ofInt c
    · refine Or.inl ⟨o, ((pc : Int) + o).toNat, ?_, by omega, h.1 hx⟩
      rw [Op.lookupswitch.offset_cons, if_pos (by rw [hx, hc])]
    · have h2 := h.2 hx
      rw [lv_osw hx hc]
      exact mv_look (fun q hq => hall q (List.mem_cons_of_mem _ hq)) h2
theorem mv_good_of {ws : List Cond} (h : ∀ w ∈ ws, w ∈ mv_T) : GoodIn mv_T ws := fun w hw => mv_T_good w (h w hw)
def mv_mck (k n : Nat) : Bool := decide ((mv_m k).1.cls ≠ "java/lang/invoke/MethodHandle") && decide ((mv_m k).1.cls ≠ "java/lang/invoke/VarHandle") && decide ((parseMethodDescriptor (mv_m k).1.desc).map (fun d => d.parameters.length) = some n)
theorem mv_mV_ok : mv_pV.all (fun q => mv_mck q.2.2 ((mv_m q.2.2).2.2.2.2.2.1 - 1) && decide (1 ≤ (mv_m q.2.2).2.2.2.2.2.1) && decide ((mv_m q.2.2).1.cls = mv_cn (mv_ow q.2.2)) && decide (mv_ow q.2.2 < 8) && decide (q.2.2 ≠ 150) && decide (q.2.2 ≠ 151)) = true := by decide +kernel
theorem mv_mS_ok : mv_pS.all (fun q => mv_mck q.2.2.1 ((mv_m q.2.2.1).2.2.2.2.2.1) && (decide (q.2.2.2 = 0) || decide (q.2.2.2 = 1))) = true := by decide +kernel
theorem mv_noN {o i : Nat} (k : Nat) (hk : (mv_pS.all (fun q => decide (q.2.2.1 ≠ k) || decide (q.2.2.2 = 0))) = true) : (o, i, k, 1) ∉ mv_pS := fun h => by
  have := List.all_eq_true.mp hk _ h
  simp at this
theorem mv_sum_z (ad : Nat → Nat) (r : List Value) : ((r.map (mv_z ad)).map fun v => v.category).sum = mv_sum r := by
  unfold mv_sum
  rw [List.map_map]
  exact congrArg List.sum (List.map_congr_left (fun v _ => mv_cat ad v))
theorem mv_back (ad : Nat → Nat) (r : Option Value) (st : List Value) : (r.map (mv_z ad)).toList ++ st.map (mv_z ad) = (r.toList ++ st).map (mv_z ad) := by
  cases r <;> rfl
set_option maxHeartbeats 4000000 in
set_option maxRecDepth 100000 in
theorem mv_sound1 {G : mv_G} {A : Nat → Prop} {H0 : Heap} {I0 : mv_I} {M : mv_M} {cs : Nat → mv_SP} {K : mv_K} (C : mv_ctx p R s m args c cells slots G A M)
    (hret : ∀ (pc : Nat) (ls : Array Slot) (H : Heap) (locs : List Loc) (ins : Instr) (r : Option Value) (I : mv_I) (J : mv_J), decode M.2.1 pc = .ok (ins, 1) → mv_fin ins r → (∀ x, r = some (.int x) → M.2.2.2.1 = some .int ∨ (M.2.2.2.1 = some .boolean ∧ (x = 0 ∨ x = 1))) → (∀ x, r = some (.long x) → M.2.2.2.1 = some .long) → (ins = .areturn → M.2.2.2.1 = some (.object RX1)) → (r = none → M.2.2.2.1 = none) → K r I J → mv_scr I0 I → va_P G.1 mv_cl (mv_ws G I J) H → va_S A H0 H locs → W p l e R s m args below meth c H locs cells slots Q (F0 m pc ls (r.toList.map (mv_z G.2.1))))
    (hcs : mv_CsOk l G A cs)
    (hscr : M.2.2.2.2.1 = 8 → I0 998 0 = Int32.ofNat (I0 998 0).toNatClampNeg ∧ va_X (G.2.1 999) (I0 998 0).toNatClampNeg (I0 999) s H0 ∧ G.2.1 999 < H0.size ∧ ¬ A (G.2.1 999))
    {Y : mv_X} (hY : ∀ pc lv st I J, Y pc lv st I J → mv_W p l e R s m args below meth c cells slots Q G A H0 I0 M.2.2.1 pc lv st I J)
    {e0 : mv_E} (hok : mv_ok M e0 = true) {lv : mv_L} {st : List Value} {I : mv_I} {J : mv_J} (h : mv_step mv_ow mv_swf cs K Y e0 lv st I J) : mv_W p l e R s m args below meth c cells slots Q G A H0 I0 M.2.2.1 e0.1 lv st I J := by
  obtain ⟨pc, ins, nx, v, w, a, b⟩ := e0
  simp only [mv_ok, Bool.and_eq_true, decide_eq_true_eq] at hok
  obtain ⟨⟨hd, hlt⟩, hok⟩ := hok
  intro H locs ls hsc hP hS hl
  obtain ⟨hx, hb, hml, hown, hts, hN, hK, hA, hfr, hlo, hce, hsl⟩ := C
  have hD : va_D A (mv_ws G I J) := mv_ws_D hA I J
  cases ins
  case iconst n =>
    simp only [Bool.and_eq_true, decide_eq_true_eq] at hok
    obtain ⟨h1, rfl⟩ := hok
    exact lv_iconst hx hb (mv_len rfl hd) h1 (hY _ _ _ _ _ h H locs ls hsc hP hS hl)
  case bipush n =>
    simp only [Bool.and_eq_true, decide_eq_true_eq] at hok
    obtain ⟨h1, rfl⟩ := hok
    exact lv_bipush hx hb (mv_len rfl hd) h1 (hY _ _ _ _ _ h H locs ls hsc hP hS hl)
  case sipush n =>
    simp only [Bool.and_eq_true, decide_eq_true_eq] at hok
    obtain ⟨h1, rfl⟩ := hok
    exact lv_sipush hx hb (mv_len rfl hd) h1 (hY _ _ _ _ _ h H locs ls hsc hP hS hl)
  case lconst n =>
    simp only [Bool.and_eq_true, decide_eq_true_eq] at hok
    obtain ⟨h1, rfl⟩ := hok
    exact lv_lconst hx hb (mv_len rfl hd) h1 (hY _ _ _ _ _ h H locs ls hsc hP hS hl)
  case ldc i =>
    simp only [Bool.and_eq_true, decide_eq_true_eq] at hok
    obtain ⟨h1, rfl⟩ := hok
    rw [mv_pC_eq] at h1
    exact lv_ldc hx hb hown (hts _ (mv_qC_ok _ h1 _ List.mem_cons_self)) (mv_len rfl hd) (hY _ _ _ _ _ h H locs ls hsc hP hS hl)
  case ldc_w i =>
    simp only [Bool.and_eq_true, decide_eq_true_eq] at hok
    obtain ⟨h1, rfl⟩ := hok
    rw [mv_pC_eq] at h1
    exact lv_ldcw hx hb hown (hts _ (mv_qC_ok _ h1 _ List.mem_cons_self)) (mv_len rfl hd) (hY _ _ _ _ _ h H locs ls hsc hP hS hl)
  case ldc2_w i =>
    simp only [Bool.and_eq_true, decide_eq_true_eq] at hok
    obtain ⟨h1, rfl⟩ := hok
    rw [mv_pL_eq] at h1
    exact lv_ldc2 hx hb hown (hts _ (mv_qL_ok _ h1 _ List.mem_cons_self)) (mv_len rfl hd) (hY _ _ _ _ _ h H locs ls hsc hP hS hl)
  case aconst_null =>
    simp only [decide_eq_true_eq] at hok
    subst hok
    exact lv_null hx hb (mv_len rfl hd) (hY _ _ _ _ _ h H locs ls hsc hP hS hl)
  case iload n =>
    simp only [Bool.and_eq_true, decide_eq_true_eq] at hok
    obtain ⟨rfl, rfl⟩ := hok
    obtain ⟨x, h1, h⟩ := mv_gie h
    exact lv_iload hx hb (mv_len rfl hd) (mv_lget_has hl h1) (hY _ _ _ _ _ h H locs ls hsc hP hS hl)
  case iload_n n =>
    simp only [Bool.and_eq_true, decide_eq_true_eq] at hok
    obtain ⟨h0, rfl⟩ := hok
    obtain ⟨x, h1, h⟩ := mv_gie h
    exact lv_iload_n hx hb (mv_len rfl hd) h0 (mv_lget_has hl h1) (hY _ _ _ _ _ h H locs ls hsc hP hS hl)
  case lload n =>
    simp only [Bool.and_eq_true, decide_eq_true_eq] at hok
    obtain ⟨rfl, rfl⟩ := hok
    obtain ⟨x, h1, h⟩ := mv_gle h
    exact lv_lload hx hb (mv_len rfl hd) (mv_lget_has hl h1) (hY _ _ _ _ _ h H locs ls hsc hP hS hl)
  case lload_n n =>
    simp only [Bool.and_eq_true, decide_eq_true_eq] at hok
    obtain ⟨h0, rfl⟩ := hok
    obtain ⟨x, h1, h⟩ := mv_gle h
    exact lv_lload_n hx hb (mv_len rfl hd) h0 (mv_lget_has hl h1) (hY _ _ _ _ _ h H locs ls hsc hP hS hl)
  case aload n =>
    simp only [Bool.and_eq_true, decide_eq_true_eq] at hok
    obtain ⟨rfl, rfl⟩ := hok
    have h : mv_ga lv n (fun x => Y (pc + 2) lv (x :: st) I J) := h
    rcases mv_gae h with ⟨x, h1, h⟩ | ⟨h1, h⟩
    · exact lv_aload hx hb (mv_len rfl hd) (mv_lget_has hl h1) (hY _ _ _ _ _ h H locs ls hsc hP hS hl)
    · exact lv_aloadN hx hb (mv_len rfl hd) (mv_lget_has hl h1) (hY _ _ _ _ _ h H locs ls hsc hP hS hl)
  case aload_n n =>
    simp only [Bool.and_eq_true, decide_eq_true_eq] at hok
    obtain ⟨h0, rfl⟩ := hok
    have h : mv_ga lv a (fun x => Y (pc + 1) lv (x :: st) I J) := h
    rcases mv_gae h with ⟨x, h1, h⟩ | ⟨h1, h⟩
    · exact lv_aload_n hx hb (mv_len rfl hd) h0 (mv_lget_has hl h1) (hY _ _ _ _ _ h H locs ls hsc hP hS hl)
    · exact lv_aload_nN hx hb (mv_len rfl hd) h0 (mv_lget_has hl h1) (hY _ _ _ _ _ h H locs ls hsc hP hS hl)
  case istore n =>
    simp only [Bool.and_eq_true, decide_eq_true_eq] at hok
    obtain ⟨⟨rfl, rfl⟩, h0⟩ := hok
    obtain ⟨x, r, rfl, h⟩ := mv_i1e h
    exact lv_istore hx hb (mv_len rfl hd) hl h0 rfl (fun ls' hl' => hY _ _ _ _ _ h H locs ls' hsc hP hS (mv_set1_has (v := .int x) hl'))
  case istore_n n =>
    simp only [Bool.and_eq_true, decide_eq_true_eq] at hok
    obtain ⟨⟨hn, rfl⟩, h0⟩ := hok
    obtain ⟨x, r, rfl, h⟩ := mv_i1e h
    exact lv_istore_n hx hb (mv_len rfl hd) hn hl h0 rfl (fun ls' hl' => hY _ _ _ _ _ h H locs ls' hsc hP hS (mv_set1_has (v := .int x) hl'))
  case lstore n =>
    simp only [Bool.and_eq_true, decide_eq_true_eq] at hok
    obtain ⟨⟨rfl, rfl⟩, h0⟩ := hok
    obtain ⟨x, r, rfl, h⟩ := mv_l1e h
    exact lv_lstore hx hb (mv_len rfl hd) hl h0 rfl (fun ls' hl' => hY _ _ _ _ _ h H locs ls' hsc hP hS (mv_set2_has (v := .long x) hl'))
  case lstore_n n =>
    simp only [Bool.and_eq_true, decide_eq_true_eq] at hok
    obtain ⟨⟨hn, rfl⟩, h0⟩ := hok
    obtain ⟨x, r, rfl, h⟩ := mv_l1e h
    exact lv_lstore_n hx hb (mv_len rfl hd) hn hl h0 rfl (fun ls' hl' => hY _ _ _ _ _ h H locs ls' hsc hP hS (mv_set2_has (v := .long x) hl'))
  case astore n =>
    simp only [Bool.and_eq_true, decide_eq_true_eq] at hok
    obtain ⟨⟨rfl, rfl⟩, h0⟩ := hok
    simp only [mv_step] at h
    split at h
    · exact lv_astore hx hb (mv_len rfl hd) hl h0 rfl (fun ls' hl' => hY _ _ _ _ _ h H locs ls' hsc hP hS (mv_set1_has (v := .ref _) hl'))
    · exact lv_astoreN hx hb (mv_len rfl hd) hl h0 rfl (fun ls' hl' => hY _ _ _ _ _ h H locs ls' hsc hP hS (mv_set1_has (v := .null) hl'))
    · exact h.elim
  case astore_n n =>
    simp only [Bool.and_eq_true, decide_eq_true_eq] at hok
    obtain ⟨⟨hn, rfl⟩, h0⟩ := hok
    simp only [mv_step] at h
    split at h
    · exact lv_astore_n hx hb (mv_len rfl hd) hn hl h0 rfl (fun ls' hl' => hY _ _ _ _ _ h H locs ls' hsc hP hS (mv_set1_has (v := .ref _) hl'))
    · exact lv_astore_nN hx hb (mv_len rfl hd) hn hl h0 rfl (fun ls' hl' => hY _ _ _ _ _ h H locs ls' hsc hP hS (mv_set1_has (v := .null) hl'))
    · exact h.elim
  case iinc i n =>
    simp only [Bool.and_eq_true, decide_eq_true_eq] at hok
    obtain ⟨⟨⟨rfl, rfl⟩, h0⟩, hv⟩ := hok
    obtain ⟨x, h1, h⟩ := mv_gie h
    obtain ⟨q, hq⟩ := List.getElem?_of_mem (List.mem_map.mpr ⟨_, mv_lget_mem h1, rfl⟩ : (i, mv_z G.2.1 (.int x)) ∈ lv.map (fun q => (q.1, mv_z G.2.1 q.2)))
    exact lv_iinc (v := x + v) hx hb (mv_len rfl hd) hl hq (by rw [hv]) h0 rfl (fun ls' hl' => hY _ _ _ _ _ h H locs ls' hsc hP hS (mv_set1_has (v := .int (x + v)) hl'))
  case iadd =>
    simp only [decide_eq_true_eq] at hok
    subst hok
    obtain ⟨x, y, r, rfl, h⟩ := mv_i2e h
    exact lv_iadd hx hb (mv_len rfl hd) (hY _ _ _ _ _ h H locs ls hsc hP hS hl)
  case isub =>
    simp only [decide_eq_true_eq] at hok
    subst hok
    obtain ⟨x, y, r, rfl, h⟩ := mv_i2e h
    exact lv_isub hx hb (mv_len rfl hd) (hY _ _ _ _ _ h H locs ls hsc hP hS hl)
  case imul =>
    simp only [decide_eq_true_eq] at hok
    subst hok
    obtain ⟨x, y, r, rfl, h⟩ := mv_i2e h
    exact lv_imul hx hb (mv_len rfl hd) (hY _ _ _ _ _ h H locs ls hsc hP hS hl)
  case iand =>
    simp only [decide_eq_true_eq] at hok
    subst hok
    obtain ⟨x, y, r, rfl, h⟩ := mv_i2e h
    exact lv_iand hx hb (mv_len rfl hd) (hY _ _ _ _ _ h H locs ls hsc hP hS hl)
  case ior =>
    simp only [decide_eq_true_eq] at hok
    subst hok
    obtain ⟨x, y, r, rfl, h⟩ := mv_i2e h
    exact lv_ior hx hb (mv_len rfl hd) (hY _ _ _ _ _ h H locs ls hsc hP hS hl)
  case ishl =>
    simp only [decide_eq_true_eq] at hok
    subst hok
    obtain ⟨x, y, r, rfl, h⟩ := mv_i2e h
    exact lv_ishl hx hb (mv_len rfl hd) (hY _ _ _ _ _ h H locs ls hsc hP hS hl)
  case ishr =>
    simp only [decide_eq_true_eq] at hok
    subst hok
    obtain ⟨x, y, r, rfl, h⟩ := mv_i2e h
    exact lv_ishr hx hb (mv_len rfl hd) (hY _ _ _ _ _ h H locs ls hsc hP hS hl)
  case iushr =>
    simp only [decide_eq_true_eq] at hok
    subst hok
    obtain ⟨x, y, r, rfl, h⟩ := mv_i2e h
    exact lv_iushr hx hb (mv_len rfl hd) rfl (hY _ _ _ _ _ h H locs ls hsc hP hS hl)
  case idiv =>
    simp only [decide_eq_true_eq] at hok
    subst hok
    obtain ⟨x, y, r, rfl, h0, h⟩ := mv_i2e h
    exact lv_idiv hx hb (mv_len rfl hd) h0 (hY _ _ _ _ _ h H locs ls hsc hP hS hl)
  case irem =>
    simp only [decide_eq_true_eq] at hok
    subst hok
    obtain ⟨x, y, r, rfl, h0, h⟩ := mv_i2e h
    exact lv_irem hx hb (mv_len rfl hd) h0 (hY _ _ _ _ _ h H locs ls hsc hP hS hl)
  case ladd =>
    simp only [decide_eq_true_eq] at hok
    subst hok
    obtain ⟨x, y, r, rfl, h⟩ := mv_l2e h
    exact lv_ladd hx hb (mv_len rfl hd) (hY _ _ _ _ _ h H locs ls hsc hP hS hl)
  case lsub =>
    simp only [decide_eq_true_eq] at hok
    subst hok
    obtain ⟨x, y, r, rfl, h⟩ := mv_l2e h
    exact lv_lsub hx hb (mv_len rfl hd) (hY _ _ _ _ _ h H locs ls hsc hP hS hl)
  case lmul =>
    simp only [decide_eq_true_eq] at hok
    subst hok
    obtain ⟨x, y, r, rfl, h⟩ := mv_l2e h
    exact lv_lmul hx hb (mv_len rfl hd) (hY _ _ _ _ _ h H locs ls hsc hP hS hl)
  case land =>
    simp only [decide_eq_true_eq] at hok
    subst hok
    obtain ⟨x, y, r, rfl, h⟩ := mv_l2e h
    exact lv_land hx hb (mv_len rfl hd) (hY _ _ _ _ _ h H locs ls hsc hP hS hl)
  case lor =>
    simp only [decide_eq_true_eq] at hok
    subst hok
    obtain ⟨x, y, r, rfl, h⟩ := mv_l2e h
    exact lv_lor hx hb (mv_len rfl hd) (hY _ _ _ _ _ h H locs ls hsc hP hS hl)
  case ldiv =>
    simp only [decide_eq_true_eq] at hok
    subst hok
    obtain ⟨x, y, r, rfl, h0, h⟩ := mv_l2e h
    exact lv_ldiv hx hb (mv_len rfl hd) h0 (hY _ _ _ _ _ h H locs ls hsc hP hS hl)
  case lrem =>
    simp only [decide_eq_true_eq] at hok
    subst hok
    obtain ⟨x, y, r, rfl, h0, h⟩ := mv_l2e h
    exact lv_lrem hx hb (mv_len rfl hd) h0 (hY _ _ _ _ _ h H locs ls hsc hP hS hl)
  case lneg =>
    simp only [decide_eq_true_eq] at hok
    subst hok
    obtain ⟨x, r, rfl, h⟩ := mv_l1e h
    exact lv_lneg hx hb (mv_len rfl hd) (hY _ _ _ _ _ h H locs ls hsc hP hS hl)
  case lcmp =>
    simp only [decide_eq_true_eq] at hok
    subst hok
    obtain ⟨x, y, r, rfl, h⟩ := mv_l2e h
    exact W.lcmp hx hb (mv_len rfl hd) (hY _ _ _ _ _ h H locs ls hsc hP hS hl)
  case lshl =>
    simp only [decide_eq_true_eq] at hok
    subst hok
    obtain ⟨x, y, r, rfl, h⟩ := mv_lie h
    exact lv_lshl hx hb (mv_len rfl hd) rfl (hY _ _ _ _ _ h H locs ls hsc hP hS hl)
  case lushr =>
    simp only [decide_eq_true_eq] at hok
    subst hok
    obtain ⟨x, y, r, rfl, h⟩ := mv_lie h
    exact lv_lushr hx hb (mv_len rfl hd) rfl (hY _ _ _ _ _ h H locs ls hsc hP hS hl)
  case i2l =>
    simp only [decide_eq_true_eq] at hok
    subst hok
    obtain ⟨x, r, rfl, h⟩ := mv_i1e h
    exact lv_i2l hx hb (mv_len rfl hd) rfl (hY _ _ _ _ _ h H locs ls hsc hP hS hl)
  case l2i =>
    simp only [decide_eq_true_eq] at hok
    subst hok
    obtain ⟨x, r, rfl, h⟩ := mv_l1e h
    exact lv_l2i hx hb (mv_len rfl hd) rfl (hY _ _ _ _ _ h H locs ls hsc hP hS hl)
  case dup =>
    simp only [decide_eq_true_eq] at hok
    subst hok
    simp only [mv_step] at h
    split at h
    · obtain ⟨h0, h⟩ := h
      exact lv_dup hx hb (mv_len rfl hd) (by rw [mv_cat]; revert h0; rename_i x r; cases x <;> simp [mv_cat1, Value.category]) (hY _ _ _ _ _ h H locs ls hsc hP hS hl)
    · exact h.elim
  case dup2 =>
    simp only [decide_eq_true_eq] at hok
    subst hok
    simp only [mv_step] at h
    split at h
    · exact lv_dup2_2 hx hb (mv_len rfl hd) rfl (hY _ _ _ _ _ h H locs ls hsc hP hS hl)
    · exact lv_dup2_11 hx hb (mv_len rfl hd) rfl rfl (hY _ _ _ _ _ h H locs ls hsc hP hS hl)
    · exact h.elim
  case pop =>
    simp only [decide_eq_true_eq] at hok
    subst hok
    simp only [mv_step] at h
    split at h
    · obtain ⟨h0, h⟩ := h
      exact lv_pop hx hb (mv_len rfl hd) (by rw [mv_cat]; revert h0; rename_i x r; cases x <;> simp [mv_cat1, Value.category]) (hY _ _ _ _ _ h H locs ls hsc hP hS hl)
    · exact h.elim
  case ifCond cd off =>
    simp only [Bool.and_eq_true, decide_eq_true_eq] at hok
    obtain ⟨h0, rfl⟩ := hok
    cases cd
    case eq =>
      obtain ⟨x, r, rfl, h1, h2⟩ := mv_i1e h
      exact lv_if_eq hx hb (mv_len rfl hd) h0 (fun z => hY _ _ _ _ _ (h1 z) H locs ls hsc hP hS hl) (fun z => hY _ _ _ _ _ (h2 z) H locs ls hsc hP hS hl)
    case ne =>
      obtain ⟨x, r, rfl, h1, h2⟩ := mv_i1e h
      exact lv_if_ne hx hb (mv_len rfl hd) h0 (fun z => hY _ _ _ _ _ (h1 z) H locs ls hsc hP hS hl) (fun z => hY _ _ _ _ _ (h2 z) H locs ls hsc hP hS hl)
    case lt =>
      obtain ⟨x, r, rfl, h1, h2⟩ := mv_i1e h
      exact lv_if_lt hx hb (mv_len rfl hd) h0 (fun z => hY _ _ _ _ _ (h1 z) H locs ls hsc hP hS hl) (fun z => hY _ _ _ _ _ (h2 z) H locs ls hsc hP hS hl)
    case ge =>
      obtain ⟨x, r, rfl, h1, h2⟩ := mv_i1e h
      exact lv_if_ge hx hb (mv_len rfl hd) h0 (fun z => hY _ _ _ _ _ (h1 (Int32.not_lt.mpr z)) H locs ls hsc hP hS hl) (fun z => hY _ _ _ _ _ (h2 (Int32.not_le.mp z)) H locs ls hsc hP hS hl)
    case gt =>
      obtain ⟨x, r, rfl, h1, h2⟩ := mv_i1e h
      exact lv_if_gt hx hb (mv_len rfl hd) h0 (fun z => hY _ _ _ _ _ (h1 z) H locs ls hsc hP hS hl) (fun z => hY _ _ _ _ _ (h2 z) H locs ls hsc hP hS hl)
    case le =>
      obtain ⟨x, r, rfl, h1, h2⟩ := mv_i1e h
      exact lv_if_le hx hb (mv_len rfl hd) h0 (fun z => hY _ _ _ _ _ (h1 (Int32.not_lt.mpr z)) H locs ls hsc hP hS hl) (fun z => hY _ _ _ _ _ (h2 (Int32.not_le.mp z)) H locs ls hsc hP hS hl)
  case if_icmp cd off =>
    simp only [Bool.and_eq_true, decide_eq_true_eq] at hok
    obtain ⟨h0, rfl⟩ := hok
    cases cd
    case eq =>
      obtain ⟨x, y, r, rfl, h1, h2⟩ := mv_i2e h
      exact lv_icmp_eq hx hb (mv_len rfl hd) h0 (fun z => hY _ _ _ _ _ (h1 z) H locs ls hsc hP hS hl) (fun z => hY _ _ _ _ _ (h2 z) H locs ls hsc hP hS hl)
    case ne =>
      obtain ⟨x, y, r, rfl, h1, h2⟩ := mv_i2e h
      exact lv_icmp_ne hx hb (mv_len rfl hd) h0 (fun z => hY _ _ _ _ _ (h1 z) H locs ls hsc hP hS hl) (fun z => hY _ _ _ _ _ (h2 z) H locs ls hsc hP hS hl)
    case lt =>
      obtain ⟨x, y, r, rfl, h1, h2⟩ := mv_i2e h
      exact lv_icmp_lt hx hb (mv_len rfl hd) h0 (fun z => hY _ _ _ _ _ (h1 z) H locs ls hsc hP hS hl) (fun z => hY _ _ _ _ _ (h2 z) H locs ls hsc hP hS hl)
    case ge =>
      obtain ⟨x, y, r, rfl, h1, h2⟩ := mv_i2e h
      exact lv_icmp_ge hx hb (mv_len rfl hd) h0 (fun z => hY _ _ _ _ _ (h1 (Int32.not_lt.mpr z)) H locs ls hsc hP hS hl) (fun z => hY _ _ _ _ _ (h2 (Int32.not_le.mp z)) H locs ls hsc hP hS hl)
    case gt =>
      obtain ⟨x, y, r, rfl, h1, h2⟩ := mv_i2e h
      exact lv_icmp_gt hx hb (mv_len rfl hd) h0 (fun z => hY _ _ _ _ _ (h1 z) H locs ls hsc hP hS hl) (fun z => hY _ _ _ _ _ (h2 z) H locs ls hsc hP hS hl)
    case le =>
      obtain ⟨x, y, r, rfl, h1, h2⟩ := mv_i2e h
      exact lv_icmp_le hx hb (mv_len rfl hd) h0 (fun z => hY _ _ _ _ _ (h1 (Int32.not_lt.mpr z)) H locs ls hsc hP hS hl) (fun z => hY _ _ _ _ _ (h2 (Int32.not_le.mp z)) H locs ls hsc hP hS hl)
  case goto off =>
    simp only [Bool.and_eq_true, decide_eq_true_eq] at hok
    obtain ⟨h0, rfl⟩ := hok
    exact lv_goto hx hb (mv_len rfl hd) h0 (hY _ _ _ _ _ h H locs ls hsc hP hS hl)
  case ifnull off =>
    simp only [Bool.and_eq_true, decide_eq_true_eq] at hok
    obtain ⟨h0, rfl⟩ := hok
    simp only [mv_step] at h
    split at h
    · exact lv_ifnull hx hb (mv_len rfl hd) (hY _ _ _ _ _ h H locs ls hsc hP hS hl)
    · exact lv_ifnullN hx hb (mv_len rfl hd) h0 (hY _ _ _ _ _ h H locs ls hsc hP hS hl)
    · exact h.elim
  case ifnonnull off =>
    simp only [Bool.and_eq_true, decide_eq_true_eq] at hok
    obtain ⟨h0, rfl⟩ := hok
    simp only [mv_step] at h
    split at h
    · exact lv_ifnonnull hx hb (mv_len rfl hd) h0 (hY _ _ _ _ _ h H locs ls hsc hP hS hl)
    · exact lv_ifnonnullN hx hb (mv_len rfl hd) (hY _ _ _ _ _ h H locs ls hsc hP hS hl)
    · exact h.elim
  case tableswitch d lo hi os =>
    simp only [Bool.and_eq_true, decide_eq_true_eq, List.all_eq_true] at hok
    obtain ⟨⟨⟨⟨⟨hsw, hdf⟩, hhi⟩, hlo1⟩, hhi1⟩, hall⟩ := hok
    obtain ⟨x, r, rfl, h0⟩ := mv_i1e h
    rw [hsw] at h0
    rcases mv_sw_ok h0 with ⟨i, t, h1, h2⟩ | ⟨h1, h2⟩
    · rw [mv_csOf_at] at h1
      cases ho : os.toList[i]? with
      | none => rw [ho] at h1; cases h1
      | some o =>
        rw [ho] at h1
        obtain ⟨rfl, rfl⟩ := Prod.mk.inj (Option.some.inj h1)
        have hi1 : i < os.size := by
          have := (List.getElem?_eq_some_iff.mp ho).1
          simpa using this
        have hv : (Int32.ofInt (lo + (i : Int))).toInt = lo + i := Int32.toInt_ofInt_of_le (by omega) (by omega)
        have ht : (pc : Int) + o = ((((pc : Int) + o).toNat : Nat) : Int) := by
          have := hall o (List.mem_of_getElem? ho)
          omega
        refine lv_tableIn hx hb hd (off := o) (by rw [hv]; omega) (by rw [hv]; omega) ?_ ht (hY _ _ _ _ _ h2 H locs ls hsc hP hS hl)
        rw [hv, ← Array.getElem?_toList, show (lo + (i : Int) - lo).toNat = i by omega]
        exact ho
    · refine lv_tableOut hx hb hd ?_ hdf (hY _ _ _ _ _ h2 H locs ls hsc hP hS hl)
      refine Decidable.byContradiction fun hn => ?_
      have hn1 : ¬ x.toInt < lo := fun z => hn (Or.inl z)
      have hn2 : ¬ hi < x.toInt := fun z => hn (Or.inr z)
      have hi1 : (x.toInt - lo).toNat < os.toList.length := by
        rw [Array.length_toList]
        omega
      refine h1 (x.toInt - lo).toNat (Int32.ofInt (lo + ((x.toInt - lo).toNat : Nat)), ((pc : Int) + os.toList[(x.toInt - lo).toNat]).toNat) ?_ ?_
      · rw [mv_csOf_at, List.getElem?_eq_getElem hi1]
        rfl
      · rw [show lo + (((x.toInt - lo).toNat : Nat) : Int) = x.toInt by omega]
        exact (Int32.ofInt_toInt x).symm
  case lookupswitch d os =>
    simp only [Bool.and_eq_true, decide_eq_true_eq] at hok
    obtain ⟨⟨⟨hsw, hdf⟩, hall⟩, hsrt⟩ := hok
    obtain ⟨x, r, rfl, h0⟩ := mv_i1e h
    rw [hsw] at h0
    rcases mv_look (fun q hq => by
      have h9 := List.all_eq_true.mp hall q hq
      simp only [Bool.and_eq_true, decide_eq_true_eq] at h9
      exact ⟨h9.1.1, h9.1.2, h9.2⟩) h0 with ⟨o, t, h1, h2, h3⟩ | ⟨h1, h2⟩
    · exact lv_lookup hx hb hd hsrt h1 h2 (hY _ _ _ _ _ h3 H locs ls hsc hP hS hl)
    · exact lv_lookup hx hb hd hsrt h1 hdf (hY _ _ _ _ _ h2 H locs ls hsc hP hS hl)
  case getfield i =>
    simp only [Bool.and_eq_true, decide_eq_true_eq] at hok
    obtain ⟨⟨⟨h1, rfl⟩, ha⟩, hbn⟩ := hok
    rw [mv_pF_eq] at h1
    have hlk := hts _ (mv_qF_ok _ h1 _ List.mem_cons_self)
    obtain ⟨o, r, rfl, hlay, h⟩ := mv_a1e h
    obtain ⟨q0, hq⟩ := mv_id_of hlay
    have hcell := mv_ws_at G I J hq
    rw [mv_cell1 hlay] at hcell
    have key : ∀ v : Value, mv_fv G.2.1 I J o a b = v → W p l e R s m args below meth c H locs cells slots Q (F0 m (pc + 3) ls (v :: r.map (mv_z G.2.1))) → W p l e R s m args below meth c H locs cells slots Q (F0 m pc ls (.ref (G.2.1 o) :: r.map (mv_z G.2.1))) := fun v hv k =>
      va_get hx hb hts (mv_wK_ok ha) hown hK hP q0 hcell (mv_cl_at ha) b hbn hlk (fun x hx => hx) (by rw [mv_range_get _ hbn, hv]) (mv_len rfl hd) k
    split at h
    · rename_i hft
      exact key (.long (J o b)) (by unfold mv_fv; rw [hft]; rfl) (hY _ _ _ _ _ h H locs ls hsc hP hS hl)
    · rename_i hft
      obtain ⟨q, hrf, h⟩ := h
      exact key (.ref (G.2.1 q)) (by unfold mv_fv; rw [hft, hrf]; rfl) (hY _ _ _ _ _ h H locs ls hsc hP hS hl)
    · rename_i hf2 hf3
      refine key (.int (I o b)) ?_ (hY _ _ _ _ _ h H locs ls hsc hP hS hl)
      unfold mv_fv
      split
      · rename_i z; exact absurd z hf2
      · rename_i z; exact absurd z hf3
      · rfl
  case putfield i =>
    simp only [Bool.and_eq_true, decide_eq_true_eq] at hok
    obtain ⟨⟨⟨h1, rfl⟩, ha⟩, hbn⟩ := hok
    rw [mv_pF_eq] at h1
    have hlk := hts _ (mv_qF_ok _ h1 _ List.mem_cons_self)
    simp only [mv_step] at h
    split at h
    · rename_i hft
      obtain ⟨o, x, r, rfl, hlay, h⟩ := mv_pie h
      obtain ⟨q0, hq⟩ := mv_id_of hlay
      have hcell := mv_ws_at G I J hq
      rw [mv_cell1 hlay] at hcell
      obtain ⟨hpd, hfi⟩ := mv_ftk0 ha hbn hft
      refine va_put hx hb hts (mv_wK_ok ha) (mv_tyf a) (mv_tyf_ok ha) (mv_nm_ok ha) hown hK hP hD hS q0 hcell (mv_cl_at ha) b hbn hlk (fun x hx => hx) hfi hpd (v := .int x) rfl rfl (by simpa using hbn) (mv_len rfl hd) (fun H1 locs1 hP1 hD1 hS1 => ?_)
      rw [mv_ws_set (I' := mv_si I o b x) (J' := J) hq (by
        rw [mv_cell1 hlay]
        refine congrArg Sum.inr (congrArg (Prod.mk a) (mv_range_set _ _ _ _ (fun i hi => ?_) _ ?_))
        · unfold mv_fv; simp [mv_si, hi]
        · unfold mv_fv; rw [hft]; simp [mv_si]) (fun _ h => mv_si_ne h) (fun _ _ => rfl)] at hP1
      exact hY _ _ _ _ _ h H1 locs1 ls (mv_scr_si hsc hlay) hP1 hS1 hl
    · rename_i hft
      obtain ⟨o, x, r, rfl, hlay, hx01, h⟩ := mv_pie h
      obtain ⟨q0, hq⟩ := mv_id_of hlay
      have hcell := mv_ws_at G I J hq
      rw [mv_cell1 hlay] at hcell
      obtain ⟨hpd, hfi⟩ := mv_ftk1 ha hbn hft
      refine va_put hx hb hts (mv_wK_ok ha) (mv_tyf a) (mv_tyf_ok ha) (mv_nm_ok ha) hown hK hP hD hS q0 hcell (mv_cl_at ha) b hbn hlk (fun x hx => hx) hfi hpd (v := .int x) (mv_narb hx01) (mv_fitb hx01) (by simpa using hbn) (mv_len rfl hd) (fun H1 locs1 hP1 hD1 hS1 => ?_)
      rw [mv_ws_set (I' := mv_si I o b x) (J' := J) hq (by
        rw [mv_cell1 hlay]
        refine congrArg Sum.inr (congrArg (Prod.mk a) (mv_range_set _ _ _ _ (fun i hi => ?_) _ ?_))
        · unfold mv_fv; simp [mv_si, hi]
        · unfold mv_fv; rw [hft]; simp [mv_si]) (fun _ h => mv_si_ne h) (fun _ _ => rfl)] at hP1
      exact hY _ _ _ _ _ h H1 locs1 ls (mv_scr_si hsc hlay) hP1 hS1 hl
    · rename_i hft
      obtain ⟨o, x, r, rfl, hlay, h⟩ := mv_ple h
      obtain ⟨q0, hq⟩ := mv_id_of hlay
      have hcell := mv_ws_at G I J hq
      rw [mv_cell1 hlay] at hcell
      obtain ⟨hpd, hfi⟩ := mv_ftk2 ha hbn hft
      refine va_put hx hb hts (mv_wK_ok ha) (mv_tyf a) (mv_tyf_ok ha) (mv_nm_ok ha) hown hK hP hD hS q0 hcell (mv_cl_at ha) b hbn hlk (fun x hx => hx) hfi hpd (v := .long x) rfl rfl (by simpa using hbn) (mv_len rfl hd) (fun H1 locs1 hP1 hD1 hS1 => ?_)
      rw [mv_ws_set (I' := I) (J' := mv_sj J o b x) hq (by
        rw [mv_cell1 hlay]
        refine congrArg Sum.inr (congrArg (Prod.mk a) (mv_range_set _ _ _ _ (fun i hi => ?_) _ ?_))
        · unfold mv_fv; simp [mv_sj, hi]
        · unfold mv_fv; rw [hft]; simp [mv_sj]) (fun _ _ => rfl) (fun _ h => mv_sj_ne h)] at hP1
      exact hY _ _ _ _ _ h H1 locs1 ls hsc hP1 hS1 hl
    · exact h.elim
  case arraylength =>
    simp only [Bool.and_eq_true, decide_eq_true_eq] at hok
    obtain ⟨rfl, h8⟩ := hok
    obtain ⟨o, r, rfl, rfl, h0⟩ := mv_a1e h
    obtain ⟨e1, e2, e3, e4⟩ := hscr h8
    have h2 := hY _ _ _ _ _ h0 H locs ls hsc hP hS hl
    rw [show I 998 0 = Int32.ofNat (I0 998 0).toNatClampNeg from (congrFun hsc.2 0).trans e1] at h2
    exact va_slen hx hb e2 e3 e4 hS (mv_len rfl hd) h2
  case iaload =>
    simp only [Bool.and_eq_true, Bool.or_eq_true, decide_eq_true_eq] at hok
    obtain ⟨rfl, hor⟩ := hok
    simp only [mv_step] at h
    split at h
    · obtain ⟨o, i, r, rfl, n, hlay, hin, h⟩ := mv_aie h
      obtain ⟨q0, hq⟩ := mv_id_of hlay
      have hcell := mv_ws_at G I J hq
      rw [mv_cell2 hlay] at hcell
      exact va_iald hx hb hK hP q0 0 hcell rfl hin (mv_len rfl hd) (hY _ _ _ _ _ h H locs ls hsc hP hS hl)
    · rename_i hna
      obtain ⟨o, i, r, rfl, rfl, hin, h⟩ := mv_aie h
      obtain ⟨e1, e2, e3, e4⟩ := hscr (hor.resolve_left hna)
      rw [show I 998 0 = I0 998 0 from congrFun hsc.2 0] at hin
      have h2 := hY _ _ _ _ _ h H locs ls hsc hP hS hl
      rw [hsc.1] at h2
      exact va_sld hx hb e2 e3 e4 hS hin (mv_len rfl hd) h2
  case iastore =>
    simp only [decide_eq_true_eq] at hok
    subst hok
    obtain ⟨o, i, x, r, rfl, n, hlay, hin, h⟩ := mv_aiie h
    obtain ⟨q0, hq⟩ := mv_id_of hlay
    have hcell := mv_ws_at G I J hq
    rw [mv_cell2 hlay] at hcell
    refine va_iast hx hb hK hP hD hS q0 0 hcell rfl hin (mv_len rfl hd) (fun H1 locs1 hP1 hD1 hS1 => ?_)
    rw [mv_ws_set (I' := mv_si I o i.toNatClampNeg x) (J' := J) hq (by rw [mv_cell2 hlay, mv_si_eq]) (fun _ h => mv_si_ne h) (fun _ _ => rfl)] at hP1
    exact hY _ _ _ _ _ h H1 locs1 ls (mv_scr_si hsc hlay) hP1 hS1 hl
  case baload =>
    simp only [decide_eq_true_eq] at hok
    subst hok
    obtain ⟨o, i, r, rfl, n, hlay, hin, h⟩ := mv_aie h
    obtain ⟨q0, hq⟩ := mv_id_of hlay
    have hcell := mv_ws_at G I J hq
    rw [mv_cell3 hlay] at hcell
    exact va_zald hx hb hK hP q0 1 hcell rfl hin (mv_len rfl hd) (hY _ _ _ _ _ h H locs ls hsc hP hS hl)
  case bastore =>
    simp only [decide_eq_true_eq] at hok
    subst hok
    obtain ⟨o, i, x, r, rfl, n, hlay, hin, hx01, h⟩ := mv_aiie h
    obtain ⟨q0, hq⟩ := mv_id_of hlay
    have hcell := mv_ws_at G I J hq
    rw [mv_cell3 hlay] at hcell
    refine va_zast hx hb hK hP hD hS q0 1 hcell rfl hin (mv_len rfl hd) (fun H1 locs1 hP1 hD1 hS1 => ?_)
    rw [mv_nar1 hx01, mv_ws_set (I' := mv_si I o i.toNatClampNeg x) (J' := J) hq (by rw [mv_cell3 hlay, mv_si_eq]) (fun _ h => mv_si_ne h) (fun _ _ => rfl)] at hP1
    exact hY _ _ _ _ _ h H1 locs1 ls (mv_scr_si hsc hlay) hP1 hS1 hl
  case laload =>
    simp only [decide_eq_true_eq] at hok
    subst hok
    obtain ⟨o, i, r, rfl, n, hlay, hin, h⟩ := mv_aie h
    obtain ⟨q0, hq⟩ := mv_id_of hlay
    have hcell := mv_ws_at G I J hq
    rw [mv_cell4 hlay] at hcell
    exact va_lald hx hb hK hP q0 2 hcell rfl hin (mv_len rfl hd) (hY _ _ _ _ _ h H locs ls hsc hP hS hl)
  case lastore =>
    simp only [decide_eq_true_eq] at hok
    subst hok
    obtain ⟨o, i, x, r, rfl, n, hlay, hin, h⟩ := mv_aile h
    obtain ⟨q0, hq⟩ := mv_id_of hlay
    have hcell := mv_ws_at G I J hq
    rw [mv_cell4 hlay] at hcell
    refine va_last hx hb hK hP hD hS q0 2 hcell rfl hin (mv_len rfl hd) (fun H1 locs1 hP1 hD1 hS1 => ?_)
    rw [mv_ws_set (I' := I) (J' := mv_sj J o i.toNatClampNeg x) hq (by rw [mv_cell4 hlay, mv_sj_eq]) (fun _ _ => rfl) (fun _ h => mv_sj_ne h)] at hP1
    exact hY _ _ _ _ _ h H1 locs1 ls hsc hP1 hS1 hl
  case aaload =>
    simp only [Bool.and_eq_true, Bool.or_eq_true, decide_eq_true_eq] at hok
    obtain ⟨rfl, hor⟩ := hok
    simp only [mv_step] at h
    split at h
    · obtain ⟨o, i, r, rfl, n, hlay, hin, q, hrf, h⟩ := mv_aie h
      obtain ⟨q0, hq⟩ := mv_id_of hlay
      have hcell := mv_ws_at G I J hq
      rw [mv_cell5 hlay] at hcell
      have h2 := hY _ _ _ _ _ h H locs ls hsc hP hS hl
      have e2 : mv_z G.2.1 (.ref q) = va_rf ((fun i => (mv_rf o i).map G.2.1) i.toNatClampNeg) := by
        dsimp only
        rw [hrf]
        rfl
      rw [List.map_cons, e2] at h2
      have hb3 : b = 1 ∨ b = 2 ∨ b = 4 := by
        rcases hor with ⟨-, h3⟩ | h3
        · rcases h3 with (h3 | h3) | h3
          · exact Or.inl h3
          · exact Or.inr (Or.inl h3)
          · exact Or.inr (Or.inr h3)
        · exact absurd h3 (by decide)
      rcases hb3 with rfl | rfl | rfl
      · exact va_aldq hx hb hK hP q0 3 hcell rfl hin (mv_len rfl hd) h2
      · exact va_aldq hx hb hK hP q0 4 hcell rfl hin (mv_len rfl hd) h2
      · exact va_aldq hx hb hK hP q0 5 hcell rfl hin (mv_len rfl hd) h2
    · obtain ⟨o, i, r, rfl, n, hlay, hin, q, hrf, h⟩ := mv_aie h
      obtain ⟨q0, hq⟩ := mv_id_of hlay
      have hcell := mv_ws_at G I J hq
      rw [mv_cell6 hlay] at hcell
      have h2 := hY _ _ _ _ _ h H locs ls hsc hP hS hl
      have e2 : mv_z G.2.1 (.ref q) = va_rf ((fun i => (mv_rf o i).map G.2.1) i.toNatClampNeg) := by
        dsimp only
        rw [hrf]
        rfl
      rw [List.map_cons, e2] at h2
      have hlt2 : i.toNatClampNeg < n := Nat.not_le.mp fun q => hin (Or.inr q)
      exact W.aald (v := va_rf ((fun i => (mv_rf o i).map G.2.1) i.toNatClampNeg)) (ty := .array .long) hx hb (hP q0 _ hcell) ((hK.2 6 _ rfl).1 n (fun j => va_rf ((fun i => (mv_rf o i).map G.2.1) j))) rfl (fun q => by cases q) (by show ¬ (i < 0 ∨ (arrV _ _ _).slots.size ≤ _); rw [arrV_size]; exact hin) (by show (arrV _ _ _).slots[_]? = _; rw [arrV_read _ _ hlt2]) rfl rfl (mv_len rfl hd) h2
  case invokevirtual i =>
    simp only [Bool.and_eq_true, decide_eq_true_eq] at hok
    obtain ⟨⟨⟨⟨h1, rfl⟩, hb1⟩, hfr1⟩, hlo1⟩ := hok
    have hmm := List.all_eq_true.mp mv_mV_ok _ h1
    simp only [Bool.and_eq_true, decide_eq_true_eq, mv_mck] at hmm
    obtain ⟨⟨⟨⟨⟨⟨⟨hc1, hc2⟩, hdn⟩, hn1⟩, hcn⟩, ho8⟩, hn150⟩, hn151⟩ := hmm
    have hcw := mv_cW_ok a (by simpa using List.all_eq_true.mp mv_cV_in _ h1)
    rw [mv_pV_eq] at h1
    have hwd := mv_qV_ok _ h1
    simp only [mv_step] at h
    split at h
    · rename_i o as hargs
      obtain ⟨hokc, hlay, hpre, h⟩ := h
      simp only [mv_okc, Bool.and_eq_true] at hokc
      have hb2 : b ≤ st.length := Nat.le_of_ble_eq_true hokc.1
      have hlen : as.length + 1 = b := by
        have := congrArg List.length hargs
        rw [List.length_reverse, List.length_take, List.length_cons] at this
        omega
      have hst : st = as.reverse ++ .ref o :: st.drop b := by
        have e1 : st.take b = as.reverse ++ [.ref o] := by
          have := congrArg List.reverse hargs
          rw [List.reverse_reverse, List.reverse_cons] at this
          exact this
        have e2 := (List.take_append_drop b st).symm
        rw [e1, List.append_assoc] at e2
        exact e2
      obtain ⟨q0, hq⟩ := mv_id_of hlay
      have hcell := mv_ws_at G I J hq
      rw [mv_cell1 hlay] at hcell
      have hgd : GoodIn mv_T (wsV (mv_cn M.2.2.2.2.1) i (mv_m a).1.cls (mv_m a).1 (mv_WS a)) := by
        refine mv_good_of fun w hw => ?_
        unfold wsV at hw
        rcases List.mem_append.mp hw with hw | hw
        · simp only [List.mem_cons, List.not_mem_nil, or_false] at hw
          rcases hw with rfl | rfl | rfl | rfl
          · exact hwd _ (by simp [mv_wV])
          · exact hwd _ (by simp [mv_wV])
          · exact hwd _ (by simp [mv_wV])
          · exact hwd _ (by simp [mv_wV])
        · rcases List.mem_cons.mp hw with rfl | hw
          · exact hcw
          · exact hw
      refine mv_goes (I := I) (post := (cs a).2 (.ref o :: as) I J) (rest := (st.drop b).map (mv_z G.2.1)) (a := (Value.ref (G.2.1 o) :: as.map (mv_z G.2.1)).toArray) (va_runV (As := as.map (mv_z G.2.1)) ⟨hx, hb, hml, hown, hts⟩ (hcs.1 a hn150 hn151 _ I J hpre) (cwV (((mv_m a).2.2.2.2.2.1) - 1) hts hgd rfl rfl rfl ⟨rfl, hc1, hc2, hdn⟩ ⟨Nat.le_trans hfr1 hfr, Nat.le_trans hlo1 hlo⟩) ⟨mv_Pc_blind _ _ _ _, ?_, fun U hU hW => ⟨rfl, by rw [hU]; exact hP, va_K.moved hW.alike hK, mv_N_warm hW hN⟩⟩ rfl (by rw [List.length_map]; omega) hl.1 ?_ (lv_room (by rw [mv_sum_z]; exact Nat.le_of_ble_eq_true hokc.2)) (mv_len rfl hd) ⟨hce, hsl⟩) hS (fun r I' J' H1 locs1 hp hsc' hP1 hS1 => ?_)
      · rw [hcn]
        exact va_recv hK hP (mv_cl_at ho8) hcell
      · show st.map (mv_z G.2.1) = _
        rw [← List.map_reverse, show Value.ref (G.2.1 o) :: (st.drop b).map (mv_z G.2.1) = (Value.ref o :: st.drop b).map (mv_z G.2.1) from rfl, ← List.map_append, ← hst]
      · rw [mv_back]
        exact hY _ _ _ _ _ (h r I' J' hp) H1 locs1 ls ⟨hsc'.1.trans hsc.1, hsc'.2.trans hsc.2⟩ hP1 hS1 hl
    · exact h.elim
  case invokestatic i =>
    simp only [Bool.and_eq_true, decide_eq_true_eq] at hok
    obtain ⟨rfl, hok⟩ := hok
    simp only [mv_step] at h
    split at h
    · rename_i h900
      have h900 : a = 900 := Nat.eq_of_beq_eq_true h900
      rw [if_pos h900] at hok
      simp only [Bool.and_eq_true, decide_eq_true_eq] at hok
      obtain ⟨⟨⟨ho1, rfl⟩, hfr1⟩, hlo1⟩ := hok
      obtain ⟨o, sp, d, dp, n, r, rfl, rfl, n0, n1, hlay0, hlay1, g1, g2, g3, g4, g5, h⟩ := mv_cpye h
      obtain ⟨q0, hq0⟩ := mv_id_of hlay0
      obtain ⟨q1, hq1⟩ := mv_id_of hlay1
      have hcell0 := mv_ws_at G I J hq0
      rw [mv_cell2 hlay0] at hcell0
      have hcell1 := mv_ws_at G I J hq1
      rw [mv_cell2 hlay1] at hcell1
      have hwd := mv_qA_ok 0 (by decide +kernel)
      have hown2 : s.vm.findClass RX1 = some m.cls := by rw [ho1] at hown; exact hown
      refine va_copyi hx hb (hml.trans hl.1.symm) hown2 (hts _ (hwd _ (by simp [mv_wA]))) (hts _ (hwd _ (by simp [mv_wA]))) (hts _ (hwd _ (by simp [mv_wA]))) (hts _ (hwd _ (by simp [mv_wA]))) hK hP hD hS q0 q1 0 0 hcell0 hcell1 rfl rfl rfl g1 g2 g3 g4 g5 (fun _ _ => rfl) (Nat.le_trans hfr1 hfr) (Nat.le_trans hlo1 hlo) (mv_len rfl hd) (fun H1 locs1 hP1 hD1 hS1 => ?_)
      rw [mv_ws_set (I' := mv_sr I d (va_cpy (I o) (I d) sp.toNatClampNeg dp.toNatClampNeg n.toNatClampNeg)) (J' := J) hq1 (by rw [mv_cell2 hlay1, mv_sr_eq]) (fun _ h => mv_sr_ne h) (fun _ _ => rfl)] at hP1
      exact hY _ _ _ _ _ h H1 locs1 ls (mv_scr_sr hsc hlay1) hP1 hS1 hl
    · rename_i h900
      have h900 : ¬ a = 900 := fun z => by rw [z] at h900; exact absurd h900 (by decide)
      rw [if_neg h900] at hok
      simp only [Bool.and_eq_true, Bool.or_eq_true, decide_eq_true_eq] at hok
      obtain ⟨⟨⟨h1, hb1⟩, hfr1⟩, hlo1⟩ := hok
      obtain ⟨hokc, hpre, h⟩ := h
      simp only [mv_okc, Bool.and_eq_true] at hokc
      have hb2 : b ≤ st.length := Nat.le_of_ble_eq_true hokc.1
      have fin : ∀ (r : Option Value) (I' : mv_I) (J' : mv_J) (H1 : Heap) (locs1 : List Loc), (cs a).2 (st.take b).reverse I J r I' J' → mv_scr I I' → va_P G.1 mv_cl (mv_ws G I' J') H1 → va_S A H0 H1 locs1 → W p l e R s m args below meth c H1 locs1 cells slots Q (F0 m (pc + 3) ls ((r.map (mv_z G.2.1)).toList ++ (st.drop b).map (mv_z G.2.1))) := by
        intro r I' J' H1 locs1 hp hsc' hP1 hS1
        rw [mv_back]
        exact hY _ _ _ _ _ (h r I' J' hp) H1 locs1 ls ⟨hsc'.1.trans hsc.1, hsc'.2.trans hsc.2⟩ hP1 hS1 hl
      have hstk : st.map (mv_z G.2.1) = ((st.take b).reverse.map (mv_z G.2.1)).reverse ++ (st.drop b).map (mv_z G.2.1) := by
        rw [← List.map_reverse, List.reverse_reverse, ← List.map_append, List.take_append_drop]
      have hpS : PreS s H (mv_Pc G (st.take b).reverse I J) ((st.take b).reverse.map (mv_z G.2.1)) := ⟨mv_Pc_blind _ _ _ _, fun U hU hW => ⟨rfl, by rw [hU]; exact hP, va_K.moved hW.alike hK, mv_N_warm hW hN⟩⟩
      have hln : ((st.take b).reverse.map (mv_z G.2.1)).length = b := by
        rw [List.length_map, List.length_reverse, List.length_take]
        omega
      by_cases hMx : a = 150
      · subst hMx
        have hcx : cs 150 = sp_max := hcs.2.1.resolve_right (fun z => by rw [z] at hpre; exact hpre)
        have h10 : (M.2.2.2.2.1, i, 150, 0) ∈ mv_pS := h1.resolve_right (fun z => absurd z (mv_noN 150 (by decide +kernel)))
        have hcw := mv_cW_ok _ (by simpa using List.all_eq_true.mp mv_cS_in _ h10)
        rw [mv_pS_eq] at h10
        have hwd := mv_qS_ok _ h10
        rw [hcx] at hpre
        obtain ⟨x, y, hxy⟩ := mv_ii hpre
        have hst : st = .int y :: .int x :: st.drop b := by
          have e1 := congrArg List.reverse hxy
          rw [List.reverse_reverse] at e1
          have e2 := (List.take_append_drop b st).symm
          rw [e1] at e2
          exact e2
        have hsum : (((st.drop b).map (mv_z G.2.1)).map (fun v => v.category)).sum ≤ 8 := by rw [mv_sum_z]; exact Nat.le_of_ble_eq_true hokc.2
        have hk := hY _ _ _ _ _ (h (some (.int (mv_mx x y))) I J (by rw [hcx, hxy]; exact ⟨rfl, rfl, rfl⟩)) H locs ls hsc hP hS hl
        have h13 : (21 : Nat) ≤ M.2.2.2.2.2.2.2 := hlo1
        have h1f : (1 : Nat) ≤ M.2.2.2.2.2.2.1 := hfr1
        rw [hst]
        exact va_mmax hx hb (hml.trans hl.1.symm) hown (hts _ (hwd _ (List.mem_of_getElem? (i := 0) rfl))) (hts _ (hwd _ (List.mem_of_getElem? (i := 1) rfl))) (hts _ (hwd _ (List.mem_of_getElem? (i := 2) rfl))) (hts _ hcw) (Nat.le_trans h1f hfr) (by omega) hce hsl (x := x) (y := y) (rest := (st.drop b).map (mv_z G.2.1)) (mv_len rfl hd) hk
      by_cases hMn : a = 151
      · subst hMn
        have hcx : cs 151 = sp_min := hcs.2.2.resolve_right (fun z => by rw [z] at hpre; exact hpre)
        have h10 : (M.2.2.2.2.1, i, 151, 0) ∈ mv_pS := h1.resolve_right (fun z => absurd z (mv_noN 151 (by decide +kernel)))
        have hcw := mv_cW_ok _ (by simpa using List.all_eq_true.mp mv_cS_in _ h10)
        rw [mv_pS_eq] at h10
        have hwd := mv_qS_ok _ h10
        rw [hcx] at hpre
        obtain ⟨x, y, hxy⟩ := mv_ii hpre
        have hst : st = .int y :: .int x :: st.drop b := by
          have e1 := congrArg List.reverse hxy
          rw [List.reverse_reverse] at e1
          have e2 := (List.take_append_drop b st).symm
          rw [e1] at e2
          exact e2
        have hsum : (((st.drop b).map (mv_z G.2.1)).map (fun v => v.category)).sum ≤ 8 := by rw [mv_sum_z]; exact Nat.le_of_ble_eq_true hokc.2
        have hk := hY _ _ _ _ _ (h (some (.int (mv_mn x y))) I J (by rw [hcx, hxy]; exact ⟨rfl, rfl, rfl⟩)) H locs ls hsc hP hS hl
        have h13 : (21 : Nat) ≤ M.2.2.2.2.2.2.2 := hlo1
        have h1f : (1 : Nat) ≤ M.2.2.2.2.2.2.1 := hfr1
        rw [hst]
        exact va_mmin hx hb (hml.trans hl.1.symm) hown (hts _ (hwd _ (List.mem_of_getElem? (i := 0) rfl))) (hts _ (hwd _ (List.mem_of_getElem? (i := 1) rfl))) (hts _ (hwd _ (List.mem_of_getElem? (i := 2) rfl))) (hts _ hcw) (Nat.le_trans h1f hfr) (by omega) hce hsl (x := x) (y := y) (rest := (st.drop b).map (mv_z G.2.1)) (mv_len rfl hd) hk
      have hcsa := hcs.1 a hMx hMn
      rcases h1 with h1 | h1
      · have hmm := List.all_eq_true.mp mv_mS_ok _ h1
        have hcw := mv_cW_ok a (by simpa using List.all_eq_true.mp mv_cS_in _ h1)
        simp only [Bool.and_eq_true, decide_eq_true_eq, mv_mck] at hmm
        obtain ⟨⟨⟨hc1, hc2⟩, hdn⟩, -⟩ := hmm
        rw [mv_pS_eq] at h1
        have hwd := mv_qS_ok _ h1
        have hgd : GoodIn mv_T (va_wsS (mv_cn M.2.2.2.2.1) i (mv_m a).1 (mv_WS a)) := by
          refine mv_good_of fun w hw => ?_
          unfold va_wsS at hw
          rcases List.mem_append.mp hw with hw | hw
          · simp only [List.mem_cons, List.not_mem_nil, or_false] at hw
            rcases hw with rfl | rfl | rfl
            · exact hwd _ (by simp [mv_wS])
            · exact hwd _ (by simp [mv_wS])
            · exact hwd _ (by simp [mv_wS])
          · rcases List.mem_cons.mp hw with rfl | hw
            · exact hcw
            · exact hw
        exact mv_goes (I := I) (post := (cs a).2 (st.take b).reverse I J) (rest := (st.drop b).map (mv_z G.2.1)) (va_runS (As := (st.take b).reverse.map (mv_z G.2.1)) ⟨hx, hb, hml, hown, hts⟩ (hcsa _ I J hpre) (va_cwS b hts hgd rfl rfl rfl ⟨hc1, hc2, by rw [hb1]; exact hdn⟩ ⟨Nat.le_trans hfr1 hfr, Nat.le_trans hlo1 hlo⟩) hpS rfl hln hl.1 hstk (lv_room (by rw [mv_sum_z]; exact Nat.le_of_ble_eq_true hokc.2)) (mv_len rfl hd) ⟨hce, hsl⟩) hS fin
      · have hmm := List.all_eq_true.mp mv_mS_ok _ h1
        have hcw := mv_cW_ok a (by simpa using List.all_eq_true.mp mv_cS_in _ h1)
        simp only [Bool.and_eq_true, decide_eq_true_eq, mv_mck] at hmm
        obtain ⟨⟨⟨hc1, hc2⟩, hdn⟩, -⟩ := hmm
        have hnl : (mv_cn M.2.2.2.2.1, i) = (mv_cn M.2.2.2.2.1, i) := rfl
        have hn := hN _ (by rw [mv_pN_eq]; exact List.mem_filter.mpr ⟨h1, rfl⟩)
        rw [mv_pS_eq] at h1
        have hwd := mv_qS_ok _ h1
        have hgd : GoodIn mv_T (mv_WS a) := by
          refine mv_good_of fun w hw => ?_
          rcases List.mem_cons.mp hw with rfl | hw
          · exact hcw
          · exact hw
        exact mv_goes (I := I) (post := (cs a).2 (st.take b).reverse I J) (rest := (st.drop b).map (mv_z G.2.1)) (va_runSN (As := (st.take b).reverse.map (mv_z G.2.1)) ⟨hx, hb, hml, hown, hts⟩ (hcsa _ I J hpre) ⟨va_cnB b hts hgd rfl rfl rfl hn (hts _ (hwd _ (by simp [mv_wS]))) ⟨hc1, hc2, by rw [hb1]; exact hdn⟩ ⟨Nat.le_trans hfr1 hfr, Nat.le_trans hlo1 hlo⟩, hts _ (hwd _ (by simp [mv_wS])), trivial⟩ hpS rfl hln hl.1 hstk (lv_room (by rw [mv_sum_z]; exact Nat.le_of_ble_eq_true hokc.2)) (mv_len rfl hd) ⟨hce, hsl⟩) hS fin
  case ireturn =>
    simp only [Bool.and_eq_true, Bool.or_eq_true, decide_eq_true_eq] at hok
    obtain ⟨rfl, hor⟩ := hok
    simp only [mv_step] at h
    split at h
    · rename_i hb0
      split at h
      · refine hret pc ls H locs .ireturn (some (.int _)) I J (mv_len rfl hd) trivial (fun x hx => ?_) (fun x hx => by cases hx) (fun hx => by cases hx) (fun hx => by cases hx) h hsc hP hS
        rcases hor with ⟨-, h3⟩ | ⟨h3, -⟩
        · exact Or.inl h3
        · exact absurd h3 (by decide)
      · exact h.elim
    · rename_i hb0
      split at h
      · obtain ⟨hx01, h⟩ := h
        refine hret pc ls H locs .ireturn (some (.int _)) I J (mv_len rfl hd) trivial (fun x hx => ?_) (fun x hx => by cases hx) (fun hx => by cases hx) (fun hx => by cases hx) h hsc hP hS
        cases hx
        rcases hor with ⟨h3, -⟩ | ⟨-, h3⟩
        · exact absurd h3 hb0
        · exact Or.inr ⟨h3, hx01⟩
      · exact h.elim
  case lreturn =>
    simp only [Bool.and_eq_true, decide_eq_true_eq] at hok
    obtain ⟨rfl, hor⟩ := hok
    simp only [mv_step] at h
    split at h
    · exact hret pc ls H locs .lreturn (some (.long _)) I J (mv_len rfl hd) trivial (fun x hx => by cases hx) (fun x hx => hor) (fun hx => by cases hx) (fun hx => by cases hx) h hsc hP hS
    · exact h.elim
  case areturn =>
    simp only [Bool.and_eq_true, decide_eq_true_eq] at hok
    obtain ⟨rfl, hor⟩ := hok
    simp only [mv_step] at h
    split at h
    · exact hret pc ls H locs .areturn (some (.ref _)) I J (mv_len rfl hd) trivial (fun x hx => by cases hx) (fun x hx => by cases hx) (fun _ => hor) (fun hx => by cases hx) h hsc hP hS
    · exact hret pc ls H locs .areturn (some .null) I J (mv_len rfl hd) trivial (fun x hx => by cases hx) (fun x hx => by cases hx) (fun _ => hor) (fun hx => by cases hx) h hsc hP hS
    · exact h.elim
  case return_ =>
    simp only [Bool.and_eq_true, decide_eq_true_eq] at hok
    obtain ⟨rfl, hor⟩ := hok
    simp only [mv_step] at h
    split at h
    · exact hret pc ls H locs .return_ none I J (mv_len rfl hd) trivial (fun x hx => by cases hx) (fun x hx => by cases hx) (fun hx => by cases hx) (fun _ => hor) h hsc hP hS
    · exact h.elim
  all_goals exact False.elim h
end MVS
