/-! From walks to contracts. -/
def mv_cs : List (Nat × mv_SP) → Nat → mv_SP
  | [], _ => mv_none
  | (j, x) :: r, k => match Nat.beq j k with
    | true => x
    | false => mv_cs r k
theorem mv_cs_nil {l : Launch} {G : mv_G} {A : Nat → Prop} : mv_CsOk l G A (mv_cs []) := ⟨fun _ _ _ _ _ _ h => h.elim, Or.inr rfl, Or.inr rfl⟩
theorem mv_cs_cons {l : Launch} {G : mv_G} {A : Nat → Prop} {j : Nat} {x : mv_SP} {r : List (Nat × mv_SP)} (h : mv_Con l G A j x) (hr : mv_CsOk l G A (mv_cs r)) (h1 : Nat.beq j 150 = false := by rfl) (h2 : Nat.beq j 151 = false := by rfl) : mv_CsOk l G A (mv_cs ((j, x) :: r)) := by
  refine ⟨fun k n1 n2 => ?_, ?_, ?_⟩
  · unfold mv_cs
    cases hb : Nat.beq j k with
    | true =>
      have : j = k := Nat.eq_of_beq_eq_true hb
      subst this
      exact h
    | false => exact hr.1 k n1 n2
  · unfold mv_cs
    rw [h1]
    exact hr.2.1
  · unfold mv_cs
    rw [h2]
    exact hr.2.2
theorem mv_cs_max {l : Launch} {G : mv_G} {A : Nat → Prop} {r : List (Nat × mv_SP)} (hr : mv_CsOk l G A (mv_cs r)) : mv_CsOk l G A (mv_cs ((150, sp_max) :: r)) := by
  refine ⟨fun k n1 n2 => ?_, Or.inl rfl, hr.2.2⟩
  unfold mv_cs
  cases hb : Nat.beq 150 k with
  | true => exact absurd (Nat.eq_of_beq_eq_true hb).symm n1
  | false => exact hr.1 k n1 n2
theorem mv_cs_min {l : Launch} {G : mv_G} {A : Nat → Prop} {r : List (Nat × mv_SP)} (hr : mv_CsOk l G A (mv_cs r)) : mv_CsOk l G A (mv_cs ((151, sp_min) :: r)) := by
  refine ⟨fun k n1 n2 => ?_, hr.2.1, Or.inl rfl⟩
  unfold mv_cs
  cases hb : Nat.beq 151 k with
  | true => exact absurd (Nat.eq_of_beq_eq_true hb).symm n2
  | false => exact hr.1 k n1 n2
def mv_as : Nat → List Value → mv_L
  | _, [] => []
  | i, v :: vs => (i, v) :: mv_as (match Nat.beq v.category 2 with | true => i + 2 | false => i + 1) vs
theorem mv_as_z (ad : Nat → Nat) : ∀ (vs : List Value) (i : Nat), lv_args i (vs.map (mv_z ad)) = (mv_as i vs).map (fun q => (q.1, mv_z ad q.2))
  | [], _ => rfl
  | v :: vs, i => by
    have h := mv_as_z ad vs
    simp only [List.map_cons, lv_args, mv_as, mv_cat]
    cases hb : Nat.beq v.category 2 with
    | true =>
      rw [if_pos (Nat.eq_of_beq_eq_true hb)]
      dsimp only
      rw [h]
    | false =>
      rw [if_neg (Nat.ne_of_beq_eq_false hb)]
      dsimp only
      rw [h]
theorem mv_sl_len (ad : Nat → Nat) : ∀ vs : List Value, (lg_sl (vs.map (mv_z ad))).length = mv_sum vs
  | [] => rfl
  | v :: vs => by
    have h := mv_sl_len ad vs
    unfold lg_sl at h ⊢
    unfold mv_sum at h ⊢
    rw [List.map_cons, List.flatMap_cons, List.length_append, h, List.map_cons, List.sum_cons, mv_cat]
    congr 1
    rcases lv_cat v with e | e <;> simp [e]
theorem mv_find_mem : ∀ {tab : List mv_E} {pc : Nat} {e : mv_E}, mv_find tab pc = some e → e ∈ tab ∧ e.1 = pc
  | [], _, _, h => by cases h
  | e0 :: r, pc, e, h => by
    unfold mv_find at h
    cases hb : Nat.beq e0.1 pc with
    | true =>
      rw [hb] at h
      cases h
      exact ⟨List.mem_cons_self, Nat.eq_of_beq_eq_true hb⟩
    | false =>
      rw [hb] at h
      obtain ⟨h1, h2⟩ := mv_find_mem h
      exact ⟨List.mem_cons_of_mem _ h1, h2⟩
theorem mv_V_W {p : Program} {l : Launch} {e : Env} {R : Room} {s : State} {m : MethodId} {args : Array Value} {below : List Frame} {meth : Method} {c : Code} {cells slots : Nat} {Q : State → Prop} {G : mv_G} {A : Nat → Prop} {H0 : Heap} {I0 : mv_I} {M : mv_M} {cs : Nat → mv_SP} {K : mv_K} {tab : List mv_E} (C : mv_ctx p R s m args c cells slots G A M) (htab : tab.all (mv_ok M) = true)
    (hret : ∀ (pc : Nat) (ls : Array Slot) (H : Heap) (locs : List Loc) (ins : Instr) (r : Option Value) (I : mv_I) (J : mv_J), decode M.2.1 pc = .ok (ins, 1) → mv_fin ins r → (∀ x, r = some (.int x) → M.2.2.2.1 = some .int ∨ (M.2.2.2.1 = some .boolean ∧ (x = 0 ∨ x = 1))) → (∀ x, r = some (.long x) → M.2.2.2.1 = some .long) → (ins = .areturn → M.2.2.2.1 = some (.object RX1)) → (r = none → M.2.2.2.1 = none) → K r I J → mv_scr I0 I → va_P G.1 mv_cl (mv_ws G I J) H → va_S A H0 H locs → W p l e R s m args below meth c H locs cells slots Q (F0 m pc ls (r.toList.map (mv_z G.2.1))))
    (hcs : mv_CsOk l G A cs)
    (hscr : M.2.2.2.2.1 = 8 → I0 998 0 = Int32.ofNat (I0 998 0).toNatClampNeg ∧ va_X (G.2.1 999) (I0 998 0).toNatClampNeg (I0 999) s H0 ∧ G.2.1 999 < H0.size ∧ ¬ A (G.2.1 999))
    {pc : Nat} {lv : mv_L} {st : List Value} {I : mv_I} {J : mv_J} (h : mv_V mv_ow mv_swf tab cs K pc lv st I J) : mv_W p l e R s m args below meth c cells slots Q G A H0 I0 M.2.2.1 pc lv st I J := by
  refine h _ (fun pc lv st I J hy => ?_) (fun ks pc lv st I J hy H locs ls hsc hP hS hl => hy H locs ls hsc hP hS ⟨hl.1, hl.2.1, fun q hq => by
    obtain ⟨q', h1, rfl⟩ := List.mem_map.mp hq
    exact hl.2.2 _ (List.mem_map.mpr ⟨q', (List.mem_filter.mp h1).1, rfl⟩)⟩)
  obtain ⟨Y, hY, hat⟩ := hy
  unfold mv_at at hat
  split at hat
  · rename_i e0 hf
    obtain ⟨h1, h2⟩ := mv_find_mem hf
    have h3 := mv_sound1 C hret hcs hscr hY (List.all_eq_true.mp htab _ h1) hat
    rw [h2] at h3
    exact h3
  · exact hat.elim
/-- a method that has a walk keeps its word -/
def mv_body (k : Nat) (tab : List mv_E) (cs : Nat → mv_SP) (sp : mv_SP) : Prop := ∀ (as : List Value) (I : mv_I) (J : mv_J), sp.1 as I J → Nat.ble (mv_sum as) (mv_m k).2.2.1 = true ∧ mv_V mv_ow mv_swf tab cs (sp.2 as I J) 0 (mv_as 0 as) [] I J
def mv_good (k : Nat) : Bool := plainName (mv_m k).1.cls && decide (mv_cn (mv_ow k) = (mv_m k).1.cls) && decide (mv_ow k ≠ 8)
set_option maxHeartbeats 1000000 in
theorem mv_con {l : Launch} {G : mv_G} {A : Nat → Prop} (hG : mv_adk G A) (k : Nat) {tab : List mv_E} (htab : tab.all (mv_ok (mv_m k)) = true) (hk : mv_good k = true) {cs : Nat → mv_SP} (hcs : mv_CsOk l G A cs) {sp : mv_SP} (hb : mv_body k tab cs sp) : mv_Con l G A k sp := by
  simp only [mv_good, Bool.and_eq_true, decide_eq_true_eq] at hk
  obtain ⟨⟨hpl, hcn⟩, h8⟩ := hk
  intro as I J hpre
  obtain ⟨hsum, hV⟩ := hb as I J hpre
  refine Met.ofW (cc := (mv_m k).2.1) (maxL := (mv_m k).2.2.1) (ret := (mv_m k).2.2.2.1) hpl rfl ?_
  intro p e s m args below meth c s₁ B hml hv
  obtain ⟨rfl, hP, hK, hN⟩ := hv
  have hx := B.exec
  have hb := B.bytes
  have hr := B.returns
  have hts := atoms_spec (ws := mv_WS k) B.pre
  have hown : s.vm.findClass (mv_m k).1.cls = some m.cls := findClass_of_methodNamed B.named
  have hlocks := B.notSynchronized
  have hl := lv_entry (as.map (mv_z G.2.1)) (n := (mv_m k).2.2.1) (by rw [mv_sl_len]; exact Nat.le_of_ble_eq_true hsum)
  rw [mv_as_z] at hl
  rw [lg_entry_eq]
  refine mv_V_W (I0 := I) (H0 := s.heap) (M := mv_m k) ⟨hx, hb, hml, by rw [show (mv_m k).2.2.2.2.1 = mv_ow k from rfl, hcn]; exact hown, fun w hw => hts w (List.mem_cons_of_mem _ hw), hN, hK, hG, Nat.le_refl _, Nat.le_refl _, Nat.le_refl _, Nat.le_refl _⟩ htab ?_ hcs (fun q => absurd q h8) hV s.heap [] _ ⟨rfl, rfl⟩ hP va_S.rf hl
  intro pc ls H locs ins r I' J' hdd hfin hi hlg har hn hK' hsc hP' hS'
  have post : ∀ t : State, t.heap = H → s.WarmedH t.vm → mv_Qc G A I (sp.2 as I J) (as.map (mv_z G.2.1)).toArray s (.returned (r.map (mv_z G.2.1))) t := fun t ht _ => ⟨⟨r, I', J', rfl, hK', hsc, by rw [ht]; exact hP'⟩, hS'.F ht⟩
  unfold mv_fin at hfin
  split at hfin
  · rcases hi _ rfl with h1 | ⟨h1, h2⟩
    · exact W.iret hx hb (hr.trans h1) post hS'.2.2 hdd hlocks
    · exact W.zret hx hb (hr.trans h1) (mv_narb h2) post hS'.2.2 hdd hlocks
  · exact W.lret hx hb (hr.trans (hlg _ rfl)) post hS'.2.2 hdd hlocks
  · exact W.aret hx hb (hr.trans (har rfl)) (Or.inl ⟨_, rfl⟩) (Or.inr ⟨_, rfl⟩) post hS'.2.2 hdd hlocks
  · exact W.aret hx hb (hr.trans (har rfl)) (Or.inl ⟨_, rfl⟩) (Or.inl rfl) post hS'.2.2 hdd hlocks
  · exact W.vret hx hb (hr.trans (hn rfl)) post hS'.2.2 hdd hlocks
  · exact hfin.elim
