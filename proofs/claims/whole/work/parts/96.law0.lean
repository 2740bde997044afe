def R_law : String := "CountWatchLaw"
def lw_P (b : Addr) (xs : List Int32) (args : Array Value) (s : State) : Prop := args = #[.ref b] ∧ s.IntsAt b xs ∧ xs.length ≤ 3072 ∧ (Jvm.Cond.and given_1 narrow_1).before args s = true
def lw_Q (_ : Array Value) (s : State) (o : Outcome) (t : State) : Prop := o = .returned (some (.int 1)) ∧ Framed s o t [] 600000 7302250
def lw_Z (below : List Frame) (a : Array Value) (s : State) : State → Prop := fun t => ∃ o, t.status = .running ∧ Ended t below o ∧ lw_Q a s o t
/-- the law's own end, with 1 on the stack, nothing written that was there before, its room as the claim has it -/
theorem lw_ret {p : Program} {l : Launch} {e : Env} {s : State} {m : MethodId} {below : List Frame} {meth : Method} {c : Code} {b : Nat} (hx : p.tables.exec = Jvm.exec) (hb : c.code = code) (hr : meth.sig.returnType = ret) (hlocks : meth.locks = false) {pc : Nat} {H : Heap} {ls : Array Slot} (hdg : decode code pc = .ok (.ireturn, 1)) : W p l e room_1 s m #[Value.ref b] below meth c H [] 600000 7302250 (lw_Z below #[Value.ref b] s) (F0 m pc ls [.int 1]) := by
  intro T hT X
  obtain ⟨fs, hret, hrun, hended, hW, hframe⟩ := X.leave (v := some (.int 1)) (hlocks := hlocks) (fun h => by rw [hr] at h; cases h)
  have hmeth' : T.vm.method? m = some meth := X.method'
  refine ⟨T.setFrames fs, ?_, .returned (some (.int 1)), hrun, hended, rfl, ⟨_, rfl⟩, hW, hframe⟩
  jvm_step X.here [X.here.top, hx, hb, hdg, hmeth', hr, ret, narrow_b1]
  (try refine ⟨rfl, ?_⟩); (try refine ⟨rfl, ?_⟩)
  first | (intro acts; rw [hret _ acts rfl rfl rfl]) | rw [hret _ _ rfl rfl rfl]
  exact Steps.refl _
/-- what holds at the law's entry: the machine, the code, the tables' words (any of lw_tbl by 'hts w (by decide +kernel)'), the script of L ints xs at the cell b, what the Statement gives of the start (any of its parts by flat_of_before) -/
def lw_At (p : Program) (s : State) (m : MethodId) (meth : Method) (c : Code) (b L : Nat) (xs : Nat → Int32) : Prop :=
  p.tables.exec = Jvm.exec ∧ c.code = code ∧ meth.sig.returnType = ret ∧ c.maxLocals = 4 ∧ s.vm.findClass R_law = some m.cls ∧ (∀ w ∈ lw_tbl, w.before #[Value.ref b] s = true) ∧ va_X b L xs s s.heap ∧ b < s.heap.size ∧ meth.locks = false ∧ (Jvm.Cond.and given_1 narrow_1).before #[Value.ref b] s = true
/-! The law, from its entry to its end. -/
set_option maxRecDepth 20000 in
theorem law_cs_ok {l : Launch} {G : mv_G} {A : Nat → Prop} (hG : mv_adk G A) : mv_CsOk l G A law_cs := mv_cs_cons (c_write hG) (mv_cs_cons (c_mWrite hG) (mv_cs_cons (c_wipe hG) (mv_cs_cons (c_mWipe hG) (mv_cs_cons (c_fault hG) (mv_cs_cons (c_mFault hG) (mv_cs_cons (c_watch hG) (mv_cs_cons (c_mWatch hG) (mv_cs_cons (c_series hG) (mv_cs_cons (c_mSeries hG) (mv_cs_cons (c_past hG) (mv_cs_cons (c_mPast hG) (mv_cs_cons (c_tell hG) (mv_cs_cons (c_mTell hG) (mv_cs_cons (c_gap hG) (mv_cs_cons (c_mGap hG) (mv_cs_cons (c_clear hG) (mv_cs_cons (c_mClear hG) (mv_cs_cons (c_set hG) (mv_cs_cons (c_mSet hG) (mv_cs_cons (c_chances hG) (mv_cs_cons (c_mChances hG) (mv_cs_cons (c_undo hG) (mv_cs_cons (c_mUndo hG) (mv_cs_cons (c_ahead hG) (mv_cs_cons (c_mAhead hG) (mv_cs_cons (c_rings hG) (mv_cs_cons (c_mRings hG) (mv_cs_cons (c_least hG) (mv_cs_cons (c_mLeast hG) (mv_cs_cons (c_lengthW hG) (mv_cs_cons (c_mLength hG) (mv_cs_cons (c_would hG) (mv_cs_cons (c_mWould hG) (mv_cs_cons (c_ranked hG) (mv_cs_cons (c_mRanked hG) (mv_cs_cons (c_judge hG) (mv_cs_cons (c_mJudge hG) (mv_cs_cons (c_see hG) (mv_cs_cons (c_mSee hG) (mv_cs_cons (c_unsee hG) (mv_cs_cons (c_mUnsee hG) (mv_cs_cons (c_which hG) (mv_cs_cons (c_mWhich hG) (mv_cs_cons (c_share hG) (mv_cs_cons (c_mShare hG) (mv_cs_cons (c_lost hG) (mv_cs_cons (c_mLost hG) (mv_cs_cons (c_seed hG) (mv_cs_cons (c_mSeed hG) (mv_cs_cons (c_drawn hG) (mv_cs_cons (c_mDrawn hG) (mv_cs_cons (c_keep hG) (mv_cs_cons (c_mKeep hG) (mv_cs_cons (c_again hG) (mv_cs_cons (c_mAgain hG) (mv_cs_cons (c_count hG) (mv_cs_cons (c_mCount hG) (mv_cs_nil))))))))))))))))))))))))))))))))))))))))))))))))))))))))))
/-- what the cells hold at the loop's start -/
def IS (xs : Nat → Int32) (L : Nat) : mv_I := fun k j => if k = 999 then xs j else if k = 998 then nI L else I00 k j
theorem IS_lo {xs : Nat → Int32} {L k : Nat} (h : k < 900) : IS xs L k = I00 k := by
  funext j
  unfold IS
  rw [if_neg (by omega), if_neg (by omega)]
theorem IS_z {xs : Nat → Int32} {L k j : Nat} (hk : k < 900) (h : ¬ (k = 39 ∧ j = 120)) (h2 : ¬ (400 ≤ k ∧ k < 436 ∧ k % 2 = 0 ∧ j = 2)) : IS xs L k j = 0 := by
  rw [IS_lo hk]
  exact I00_z h h2
theorem LI_start {xs : Nat → Int32} {L : Nat} : LI 0 (IS xs L) J00 := by
  have z : ∀ {k j : Nat}, k < 900 → ¬ (k = 39 ∧ j = 120) → ¬ (400 ≤ k ∧ k < 436 ∧ k % 2 = 0 ∧ j = 2) → IS xs L k j = nI 0 := fun a b c => (IS_z a b c).trans nI_0.symm
  refine ⟨⟨fun g hg => ⟨0, by decide, z (by omega) (by omega) (by omega)⟩, fun c hc => ⟨0, by decide, z (by omega) (by omega) (by omega)⟩, ⟨0, by decide, z (by omega) (by omega) (by omega)⟩, ⟨0, by decide, z (by omega) (by omega) (by omega)⟩, ⟨0, by decide, z (by omega) (by omega) (by omega)⟩, ⟨0, by decide, z (by omega) (by omega) (by omega)⟩, fun i hi => ⟨0, by decide, z (by omega) (by omega) (by omega)⟩⟩, ⟨⟨0, by decide, z (by omega) (by omega) (by omega), z (by omega) (by omega) (by omega), fun j hj => absurd hj (Nat.not_lt_zero j)⟩, ⟨0, by decide, z (by omega) (by omega) (by omega), ⟨z (by omega) (by omega) (by omega), ?_, ?_, fun s hs => absurd hs (Nat.not_lt_zero s)⟩, ⟨0, 0, by decide, by decide, z (by omega) (by omega) (by omega), z (by omega) (by omega) (by omega), z (by omega) (by omega) (by omega), fun i hi => absurd hi (Nat.not_lt_zero i)⟩, fun j hj => ⟨(IS_z (by omega) (by omega) (by omega)).trans (IS_z (by omega) (by omega) (by omega)).symm, Or.inl (IS_z (by omega) (by omega) (by omega))⟩⟩, ⟨0, by decide, z (by omega) (by omega) (by omega), z (by omega) (by omega) (by omega), fun i hi => absurd hi (Nat.not_lt_zero i)⟩⟩, rfl⟩
  · rfl
  · exact ⟨2620, by decide, rfl, by decide⟩
theorem ids_all : mv_ids.all (fun k => decide ((1 ≤ k ∧ k < 22) ∨ (100 ≤ k ∧ k < 373) ∨ (400 ≤ k ∧ k < 436) ∨ k = 0 ∨ (31 ≤ k ∧ k < 49) ∨ k = 30)) = true := by decide +kernel
set_option maxRecDepth 20000 in
theorem whole_start {p : Program} {e : Env} {s : State} {m : MethodId} {below : List Frame} {meth : Method} {c : Code} (l : Launch) (hflags : l.flags = flags0) {b L : Nat} {xs : Nat → Int32} (hL : L ≤ 3072) (C0 : lw_At p s m meth c b L xs) : W p l e room_1 s m #[Value.ref b] below meth c s.heap [] 0 0 (lw_Z below #[Value.ref b] s) (entryFrame m ([Value.ref b] : List Value).toArray 4) := by
  obtain ⟨hx, hb, hr, hml, hown, hts, hX, hbl, hlocks, hgv⟩ := C0
  obtain ⟨hT, hN3, hN⟩ := start_T hts
  obtain ⟨D, T, hK⟩ := start_K hT hN3
  have hA : ∀ q : Nat, s.heap.size ≤ q → (fun q => s.heap.size ≤ q) q := fun q h => h
  generalize hAe : (fun q : Nat => s.heap.size ≤ q) = A at hA
  have hbA : ¬ A b := by rw [← hAe]; exact Nat.not_le.mpr hbl
  have X : KX p s m #[Value.ref b] c code RL D T A s.heap := ⟨hx, hb, hown, hT, hK, hN3, hA⟩
  have hS : va_S A s.heap s.heap [] := va_S.rf
  have hl := lv_entry ([.ref b]) (n := 4) (Nat.le_of_ble_eq_true rfl)
  rw [lg_entry_eq]
  generalize (lg_sl ([.ref b]) ++ List.replicate (4 - (lg_sl ([.ref b])).length) Slot.unset).toArray = ls at hl ⊢
  have hl : lv_has ls 4 [(0, .ref b)] := hl
  have hP0 : va_P D mv_cl [] s.heap := fun k q h => absurd h (by simp)
  have hD0 : va_D A [] := ⟨fun i j x y h => absurd h (by simp), fun k q h => absurd h (by simp)⟩
  have hW : Wd D A [] (fun _ => 0) (fun _ => .inr (0, [])) s.heap := ⟨hP0, hD0⟩
  refine k_made X (pc := 0) (rest := []) (ci1 := 6) (k1 := 0) (index := 7) (index2 := 9) (nL := 4) (y := yX6_init) (cd := cX6_init) (maxL := 2) (fr := 4) (lo := 74) (ce := 330) (sl := 3331) (b0 := s.heap.size) (Rg := RG6) (by decide) List.not_mem_nil kc_L_7 ks_X6 kn_X6 hml hl.1 (kc_cw l) hA (Nat.le_refl _) (fun x hx => absurd hx List.not_mem_nil) (by unfold RG6; omega) ⟨kb_X6, Or.inl kl_L_9, ki_X6, kn_X6, rfl, ⟨by decide, by decide, rfl⟩, ⟨Nat.le_of_ble_eq_true rfl, Nat.le_of_ble_eq_true rfl⟩⟩ ⟨Nat.le_of_ble_eq_true rfl, Nat.le_of_ble_eq_true rfl⟩ (Nat.le_of_ble_eq_true rfl) kd_L_0 kd_L_3 kd_L_4 hW hS (fun ids1 ad1 E1 H1 locs1 hF1 hm1 hD1 hW hS => ?_)
  refine W.eq (g2 := F0 m 7 ls [.ref (ad1 0)]) rfl ?_
  refine lv_astore_n (lv' := [(1, .ref (ad1 0)), (0, .ref b)]) X.1 X.2.1 kd_L_7 rfl hl (by decide) rfl (fun ls hl => ?_)
  have hin1 : ∀ x ∈ ids1, x = 0 ∨ RG6 x := fun x hx => (hm1 x hx).elim (fun h => absurd h List.not_mem_nil) id
  refine k_made X (pc := 8) (rest := []) (ci1 := 7) (k1 := 30) (index := 10) (index2 := 12) (nL := 4) (y := yX7_init) (cd := cX7_init) (maxL := 1) (fr := 1) (lo := 12) (ce := 18) (sl := 2517) (b0 := s.heap.size) (Rg := RG7) (by decide) (fun z => by
    have := hin1 _ z
    unfold RG6 at this
    omega) kc_L_10 ks_X7 kn_X7 hml hl.1 (kc_model l) hA (Nat.le_refl _) (fun x hx z => by
    have := hin1 _ hx
    unfold RG6 at this
    unfold RG7 at z
    omega) (by unfold RG7; omega) ⟨kb_X7, Or.inl kl_L_12, ki_X7, kn_X7, rfl, ⟨by decide, by decide, rfl⟩, ⟨Nat.le_of_ble_eq_true rfl, Nat.le_of_ble_eq_true rfl⟩⟩ ⟨Nat.le_of_ble_eq_true rfl, Nat.le_of_ble_eq_true rfl⟩ (Nat.le_of_ble_eq_true rfl) kd_L_8 kd_L_11 kd_L_12 hW hS (fun ids2 ad2 E2 H2 locs2 hF2 hm2 hD2 hW hS => ?_)
  refine W.eq (g2 := F0 m 15 ls [.ref (ad2 30)]) rfl ?_
  have e10 : ad2 0 = ad1 0 := (hF2 0 (hD1 0 (Or.inr rfl)).1).2.1
  rw [← e10] at hl
  refine lv_astore_n (lv' := [(2, .ref (ad2 30)), (1, .ref (ad2 0)), (0, .ref b)]) X.1 X.2.1 kd_L_15 rfl hl (by decide) rfl (fun ls hl => ?_)
  have hDO : ∀ k ∈ mv_ids, k ∈ ids2 ∧ E2 k = finE D T ad2 k ∧ ∀ j q, mv_rf k j = some q → q ∈ ids2 := fun k hk => by
    have h0 := of_decide_eq_true (List.all_eq_true.mp ids_all k hk)
    have hDo := DO_FR hD1 hF2 (fun x hx z => z)
    rcases h0 with h | h | h | h | h | h
    · exact hDo k (Or.inl (Or.inl h))
    · exact hDo k (Or.inl (Or.inr (Or.inl h)))
    · exact hDo k (Or.inl (Or.inr (Or.inr h)))
    · exact hDo k (Or.inr h)
    · exact hD2 k (Or.inl h)
    · exact hD2 k (Or.inr h)
  have hlo : ∀ x ∈ ids2, x < 900 := fun x hx => by
    rcases hm2 x hx with h | h | h
    · have := hin1 x h
      unfold RG6 at this
      omega
    · omega
    · unfold RG7 at h
      omega
  have hidlo : ∀ k ∈ mv_ids, k < 900 := fun k hk => hlo k (hDO k hk).1
  generalize hadF : (fun k : Nat => if k = 999 then b else ad2 k) = adF
  have hadlo : ∀ k, k < 900 → adF k = ad2 k := fun k hk => by rw [← hadF]; exact if_neg (by omega)
  have had9 : adF 999 = b := by rw [← hadF]; exact if_pos rfl
  have hcell : ∀ k ∈ mv_ids, mv_cell (D, (adF, T)) (IS xs L) J00 k = E2 k := fun k hk => by
    obtain ⟨h1, h2, h3⟩ := hDO k hk
    rw [mv_cell_congr (I := I00) (J := J00) (IS_lo (hidlo k hk)) rfl, h2]
    exact finE_congr (fun j q hq => hadlo q (hlo q (h3 j q hq)))
  have hP : va_P D mv_cl (mv_ws (D, (adF, T)) (IS xs L) J00) H2 := fun i q hq => by
    obtain ⟨k, hk, rfl⟩ := mv_ws_inv hq
    have hk2 := List.mem_of_getElem? hk
    obtain ⟨q0, -, g2⟩ := cws_at (ad := ad2) (E := E2) (hDO k hk2).1
    have := hW.1 q0 _ g2
    rw [hcell k hk2]
    show va_at D mv_cl (adF k, E2 k) H2
    rw [hadlo k (hidlo k hk2)]
    exact this
  have hG : mv_adk (D, (adF, T)) A := by
    refine ⟨fun i hi j hj he => ?_, fun i hi => ?_⟩
    · have he : adF i = adF j := he
      rw [hadlo i (hidlo i hi), hadlo j (hidlo j hj)] at he
      obtain ⟨q0, a1, a2⟩ := cws_at (ad := ad2) (E := E2) (hDO i hi).1
      obtain ⟨q1, b1, b2⟩ := cws_at (ad := ad2) (E := E2) (hDO j hj).1
      have := hW.2.1 q0 q1 _ _ a2 b2 he
      subst this
      exact Option.some.inj (a1.symm.trans b1)
    · show A (adF i)
      rw [hadlo i (hidlo i hi)]
      obtain ⟨q0, a1, a2⟩ := cws_at (ad := ad2) (E := E2) (hDO i hi).1
      exact hW.2.2 q0 _ a2
  have e98 : IS xs L 998 0 = nI L := rfl
  have hV := law_V (J := J00) hL e98 LI_start
  refine mv_V_W (G := (D, (adF, T))) (A := A) (H0 := s.heap) (I0 := IS xs L) (M := mv_m 152) (cs := law_cs) (K := law_K) (tab := mv_t_L_law) ⟨hx, hb, hml, hown, hT, hN, hK, hG, Nat.le_of_ble_eq_true rfl, Nat.le_of_ble_eq_true rfl, Nat.le_of_ble_eq_true rfl, Nat.le_of_ble_eq_true rfl⟩ mv_k_L_law ?_ (law_cs_ok hG) (fun _ => ⟨?_, ?_, ?_, ?_⟩) hV H2 _ ls ⟨rfl, rfl⟩ hP hS ?_
  · intro pc ls H locs ins r I' J' hdd hfin hi hlg har hn hK' hsc hP' hS'
    have hK' : r = some (.int 1) := hK'
    subst hK'
    unfold mv_fin at hfin
    split at hfin
    · refine va_forget (fun q hq => ?_) ?_
      · have := hS'.2.2 q hq
        rw [← hAe] at this
        exact this
      · refine W.widen (k := 600000) (n := 7302250) (Nat.le_of_ble_eq_true rfl) (Nat.le_of_ble_eq_true rfl) ?_
        exact lw_ret hx hb hr hlocks hdd
    all_goals (first | exact hfin.elim | (rename_i h; cases h) | (rename_i h h2; cases h2))
  · rw [e98, nI_clamp (by omega)]
    rfl
  · rw [e98, nI_clamp (by omega)]
    show va_X (adF 999) L (IS xs L 999) s s.heap
    rw [had9]
    exact hX
  · show adF 999 < s.heap.size
    rw [had9]
    exact hbl
  · show ¬ A (adF 999)
    rw [had9]
    exact hbA
  · have e0 : adF 0 = ad2 0 := hadlo 0 (by decide)
    have e30 : adF 30 = ad2 30 := hadlo 30 (by decide)
    show lv_has ls 4 [(0, .ref (adF 999)), (1, .ref (adF 0)), (2, .ref (adF 30))]
    rw [had9, e0, e30]
    exact lv_sub hl [2, 1, 0] rfl
