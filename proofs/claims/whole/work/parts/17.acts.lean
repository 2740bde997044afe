/-! Acts; the shape of the class's cells. -/
theorem grpN_ne {g h : Nat} (I : mv_I) {a : Nat} (h0 : a ≠ 400 + 2 * g) (h1 : a < 100 + 15 * g ∨ 115 + 15 * g ≤ a) : ∀ k, k ≤ 5 → grpN g h I k a = I a
  | 0, _ => by
    unfold grpN
    rw [mv_si_ne h0, mv_si_ne h0]
  | k + 1, hk => by
    unfold grpN
    rw [copyI_ne (by omega) (by omega) (by omega)]
    exact grpN_ne I h0 h1 k (by omega)
def remI (I : mv_I) : mv_I :=
  mv_si (mv_si (grpN (1 + (I 3 1).toNatClampNeg) 0 I (I 400 1).toNatClampNeg) 3 1 (grpN (1 + (I 3 1).toNatClampNeg) 0 I (I 400 1).toNatClampNeg 3 1 + 1 - (grpN (1 + (I 3 1).toNatClampNeg) 0 I (I 400 1).toNatClampNeg 3 1 + 1) / 14 * 14)) 3 2
    (mv_mn 14 (mv_si (grpN (1 + (I 3 1).toNatClampNeg) 0 I (I 400 1).toNatClampNeg) 3 1 (grpN (1 + (I 3 1).toNatClampNeg) 0 I (I 400 1).toNatClampNeg 3 1 + 1 - (grpN (1 + (I 3 1).toNatClampNeg) 0 I (I 400 1).toNatClampNeg 3 1 + 1) / 14 * 14) 3 2 + 1))
theorem mv_rf_ac {x : Nat} (h : x < 14) : mv_rf 4 x = some (400 + 2 * (1 + x)) := by
  have : ∀ x, x < 14 → mv_rf 4 x = some (400 + 2 * (1 + x)) := by decide +kernel
  exact this x h
def sp_remember : mv_SP := (fun as I _ => match as with
    | [.ref o, .ref q] => o = 3 ∧ q = 400 ∧ ∃ x m : Nat, I 3 1 = nI x ∧ x < 14 ∧ m ≤ 5 ∧ I 400 1 = nI m
    | _ => False,
  fun as I J r I' J' => match as with
    | [.ref _, .ref _] => r = none ∧ I' = remI I ∧ J = J'
    | _ => True)
theorem cb_remember : mv_body 2 mv_t_X0_remember (mv_cs [(26, sp_groupCopy), (151, sp_min)]) sp_remember := by
  intro as I J h
  match as, h with
  | [.ref _, .ref _], ⟨rfl, rfl, x, m, hx, hx14, hm, hs⟩ =>
    have hcx : (I 3 1).toNatClampNeg = x := by rw [hx]; exact nI_clamp (by omega)
    have hcm : (I 400 1).toNatClampNeg = m := by rw [hs]; exact nI_clamp (by omega)
    refine ⟨rfl, mv_run_V (stop := []) 60 _ _ _ _ _ ?_⟩
    refine ⟨rfl, _, rfl, rfl, _, rfl, (by rw [hx]; exact vp_in_nI hx14 (by omega)), _, (by rw [hcx]; exact mv_rf_ac hx14), rfl, mv_lay_gr (by omega), ⟨1 + x, 0, m, by omega, by omega, by omega, rfl, rfl, hm, hs⟩, fun r I1 J1 hp => ?_⟩
    obtain ⟨rfl, rfl, hI⟩ := hp
    have hI := hI (1 + x) 0 rfl rfl
    rw [hcm] at hI
    subst hI
    refine ⟨rfl, mv_nz14, rfl, rfl, rfl, trivial, fun r I1 J1 hp => ?_⟩
    obtain ⟨rfl, rfl, rfl⟩ := hp
    refine ⟨rfl, rfl, ?_, rfl⟩
    unfold remI
    rw [hcx, hcm]
theorem c_remember {l : Launch} {G : mv_G} {A : Nat → Prop} (hG : mv_adk G A) : mv_Con l G A 2 sp_remember := mv_con hG 2 mv_k_X0_remember (by decide +kernel) (mv_cs_cons (c_groupCopy hG) (mv_cs_min (mv_cs_nil))) cb_remember
/-- the place before, of the next act -/
def bckX (I : mv_I) : Int32 := I 3 1 + 14 - 1 - (I 3 1 + 14 - 1) / 14 * 14
def tkbI (I : mv_I) : mv_I :=
  mv_si (grpN 0 (1 + (bckX I).toNatClampNeg) (mv_si I 3 1 (bckX I)) (I (400 + 2 * (1 + (bckX I).toNatClampNeg)) 1).toNatClampNeg) 3 2 (grpN 0 (1 + (bckX I).toNatClampNeg) (mv_si I 3 1 (bckX I)) (I (400 + 2 * (1 + (bckX I).toNatClampNeg)) 1).toNatClampNeg 3 2 - 1)
theorem bck_ok : ∀ x, x < 14 → nI x + 14 - 1 - (nI x + 14 - 1) / 14 * 14 = nI ((x + 13) % 14) := by decide +kernel
theorem fwd_ok : ∀ x, x < 14 → nI x + 1 - (nI x + 1) / 14 * 14 = nI ((x + 1) % 14) := by decide +kernel
def sp_takeBack : mv_SP := (fun as I _ => match as with
    | [.ref o, .ref q] => o = 3 ∧ q = 400 ∧ ∃ x m : Nat, I 3 1 = nI x ∧ x < 14 ∧ m ≤ 5 ∧ I (400 + 2 * (1 + (x + 13) % 14)) 1 = nI m
    | _ => False,
  fun as I J r I' J' => match as with
    | [.ref _, .ref _] => r = none ∧ I' = tkbI I ∧ J = J'
    | _ => True)
theorem cb_takeBack : mv_body 3 mv_t_X0_takeBack (mv_cs [(26, sp_groupCopy)]) sp_takeBack := by
  intro as I J h
  match as, h with
  | [.ref _, .ref _], ⟨rfl, rfl, x, m, hx, hx14, hm, hs⟩ =>
    have hbk : bckX I = nI ((x + 13) % 14) := by unfold bckX; rw [hx]; exact bck_ok x hx14
    have hy : (x + 13) % 14 < 14 := Nat.mod_lt _ (by decide)
    have hcb : (bckX I).toNatClampNeg = (x + 13) % 14 := by rw [hbk]; exact nI_clamp (by omega)
    have hcm : (I (400 + 2 * (1 + (x + 13) % 14)) 1).toNatClampNeg = m := by rw [hs]; exact nI_clamp (by omega)
    have hn3 : 400 + 2 * (1 + (x + 13) % 14) ≠ 3 := by omega
    refine ⟨rfl, mv_run_V (stop := []) 60 _ _ _ _ _ ?_⟩
    refine ⟨rfl, mv_nz14, rfl, ?_⟩
    have hw : mv_si I 3 1 (I 3 1 + 14 - 1 - (I 3 1 + 14 - 1) / 14 * 14) 3 1 = nI ((x + 13) % 14) := hbk
    refine ⟨rfl, _, rfl, rfl, _, rfl, (by rw [hw]; exact vp_in_nI hy (by omega)), _, (by rw [hw, nI_clamp (by omega)]; exact mv_rf_ac hy), rfl, rfl, ⟨0, 1 + (x + 13) % 14, m, by omega, by omega, by omega, rfl, rfl, hm, (by rw [mv_si_ne hn3]; exact hs)⟩, fun r I1 J1 hp => ?_⟩
    obtain ⟨rfl, rfl, hI⟩ := hp
    have hI := hI 0 (1 + (x + 13) % 14) rfl rfl
    rw [mv_si_ne hn3, hcm] at hI
    subst hI
    refine ⟨rfl, rfl, rfl, rfl, ?_, rfl⟩
    unfold tkbI
    rw [hcb, hcm]
    rfl
theorem c_takeBack {l : Launch} {G : mv_G} {A : Nat → Prop} (hG : mv_adk G A) : mv_Con l G A 3 sp_takeBack := mv_con hG 3 mv_k_X0_takeBack (by decide +kernel) (mv_cs_cons (c_groupCopy hG) (mv_cs_nil)) cb_takeBack
def sp_forget : mv_SP := (fun as _ _ => match as with
    | [.ref o] => o = 3
    | _ => False,
  fun as I J r I' J' => match as with
    | [.ref _] => r = none ∧ I' = mv_si I 3 2 0 ∧ J = J'
    | _ => True)
theorem cb_forget : mv_body 0 mv_t_X0_forget (mv_cs []) sp_forget := by
  intro as I J h
  match as, h with
  | [.ref _], h0 =>
    have h0 : _ = 3 := h0
    subst h0
    refine ⟨rfl, mv_run_V (stop := []) 60 _ _ _ _ _ ?_⟩
    exact ⟨rfl, rfl, rfl, rfl⟩
theorem c_forget {l : Launch} {G : mv_G} {A : Nat → Prop} (hG : mv_adk G A) : mv_Con l G A 0 sp_forget := mv_con hG 0 mv_k_X0_forget (by decide +kernel) (mv_cs_nil) cb_forget
/-- what the class's methods need of their cells: sizes and places in range -/
def SH (I : mv_I) : Prop := (∀ g : Nat, g < 18 → ∃ m : Nat, m ≤ 5 ∧ I (400 + 2 * g) 1 = nI m) ∧ (∀ c : Nat, c < 91 → ∃ k : Nat, k ≤ 12 ∧ I (100 + 3 * c) 15 = nI k) ∧ (∃ x : Nat, x < 14 ∧ I 3 1 = nI x) ∧ (∃ d : Nat, d ≤ 14 ∧ I 3 2 = nI d) ∧ (∃ t : Nat, t ≤ 80 ∧ I 1 1 = nI t) ∧ (∃ q : Nat, q ≤ 6 ∧ I 0 6 = nI q) ∧ ∀ i : Nat, i < 6 → ∃ n : Nat, n < 1000 ∧ I (8 + i) 1 = nI n
theorem SH_now {I : mv_I} (h : SH I) : ∃ m : Nat, m ≤ 5 ∧ I 400 1 = nI m := h.1 0 (by decide)
theorem SH_nn {I : mv_I} (h : SH I) {c : Nat} (hc : c < 91) : ¬ I (100 + 3 * c) 15 < 0 := by
  obtain ⟨k, hk, e⟩ := h.2.1 c hc
  rw [e]
  exact nI_pos (by omega)
theorem remI_ne {I : mv_I} (h : SH I) {a : Nat} (h3 : a ≠ 3) (ha : a < 115 ∨ a = 400) : remI I a = I a := by
  obtain ⟨m, hm, hs⟩ := SH_now h
  have hcm : (I 400 1).toNatClampNeg = m := by rw [hs]; exact nI_clamp (by omega)
  obtain ⟨x, hx14, hx⟩ := h.2.2.1
  have hcx : (I 3 1).toNatClampNeg = x := by rw [hx]; exact nI_clamp (by omega)
  unfold remI
  rw [hcx, hcm, mv_si_ne h3, mv_si_ne h3, grpN_ne I (by omega) (by omega) _ (by omega)]
