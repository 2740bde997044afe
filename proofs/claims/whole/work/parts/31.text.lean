/-! The text: letters, faults. -/
def fitP (pl : Nat) (x b : Int32) : Prop := if pl = 0 then x = 99 else if pl = 5 then (if b = 48 then 49 ≤ x ∧ x ≤ 57 else 48 ≤ x ∧ x ≤ 57) else if pl = 6 then 48 ≤ x ∧ x ≤ 52 else if pl = 7 then 48 ≤ x ∧ x ≤ 49 else if 9 ≤ pl ∧ pl ≤ 12 then (x = 46 ∨ 48 ≤ x ∧ x ≤ 57) else if pl = 13 then x = 46 else 48 ≤ x ∧ x ≤ 57
def sp_txAppend : mv_SP := (fun as I _ => (∃ t : Nat, t ≤ 80 ∧ I 1 1 = nI t) ∧ ∃ x : Int32, as = [.ref 1, .int x],
  fun as I J r I' J' => J = J' ∧ match as with
    | [_, .int x] => if I 1 1 < 80 then r = some (.int 1) ∧ I' = mv_si (mv_si I 2 (I 1 1).toNatClampNeg x) 1 1 (I 1 1 + 1) else r = some (.int 0) ∧ I' = I
    | _ => True)
theorem cb_txAppend : mv_body 38 mv_t_X5_append (mv_cs []) sp_txAppend := by
  intro as I J h
  obtain ⟨⟨t, ht, hs⟩, x, rfl⟩ := h
  refine ⟨rfl, mv_run_V (stop := []) 40 _ _ _ _ _ ?_⟩
  refine ⟨rfl, fun h1 => ?_, fun h1 => ?_⟩
  · have h2 := h1
    rw [hs] at h2
    have h2 : nI t < nI 80 := h2
    have h2 := (nI_ltI (by omega) (by decide)).mp h2
    refine ⟨rfl, _, rfl, rfl, _, rfl, (by rw [hs]; exact vp_in_nI h2 (by decide)), rfl, rfl, rfl, Or.inr rfl, rfl, ?_⟩
    show if I 1 1 < 80 then _ else _
    rw [if_pos h1]
    exact ⟨rfl, rfl⟩
  · refine ⟨Or.inl rfl, rfl, ?_⟩
    show if I 1 1 < 80 then _ else _
    rw [if_neg h1]
    exact ⟨rfl, rfl⟩
theorem c_txAppend {l : Launch} {G : mv_G} {A : Nat → Prop} (hG : mv_adk G A) : mv_Con l G A 38 sp_txAppend := mv_con hG 38 mv_k_X5_append (by decide +kernel) (mv_cs_nil) cb_txAppend
/-- the figure at a place -/
def dgN (T : Nat → Int32) (n a : Nat) : Int32 := if a < n then T a - 48 else 0
def stN (T : Nat → Int32) (n a : Nat) : Prop := ¬ a < n ∨ T a = 46
theorem tx_in {a n : Nat} (ha : a < 1000) (hn : n < 1000) : (0 ≤ nI a ∧ nI a ≤ nI n - 1) ↔ a < n := by
  refine ⟨fun h => ?_, fun h => mv_upto2 (by omega) h⟩
  obtain ⟨j, hj, e⟩ := mv_upto (m := n) (by omega) h.1 h.2
  have := (nI_eq (by omega) (by omega)).mp e
  omega
def sp_digit : mv_SP := (fun as I _ => (∃ t : Nat, t ≤ 80 ∧ I 1 1 = nI t) ∧ ∃ a : Nat, a < 1000 ∧ as = [.ref 1, .int (nI a)],
  fun as I J r I' J' => I = I' ∧ J = J' ∧ match as with
    | [_, .int a] => r = some (.int (dgN (I 2) (I 1 1).toNatClampNeg a.toNatClampNeg))
    | _ => True)
theorem cb_digit : mv_body 39 mv_t_X5_digit (mv_cs [(84, sp_within)]) sp_digit := by
  intro as I J h
  obtain ⟨⟨t, ht, hs⟩, a, ha, rfl⟩ := h
  have hct : (I 1 1).toNatClampNeg = t := by rw [hs]; exact nI_clamp (by omega)
  have hca : (nI a).toNatClampNeg = a := nI_clamp (by omega)
  have fin : ∀ x : Int32, x = dgN (I 2) t a → sp_digit.2 [.ref 1, .int (nI a)] I J (some (.int x)) I J := by
    intro x hx
    refine ⟨rfl, rfl, ?_⟩
    show some (Value.int x) = some (Value.int (dgN (I 2) (I 1 1).toNatClampNeg (nI a).toNatClampNeg))
    rw [hct, hca, hx]
  refine ⟨rfl, mv_run_V (stop := []) 40 _ _ _ _ _ ?_⟩
  refine ⟨rfl, rfl, trivial, fun r I1 J1 hp => ?_⟩
  obtain ⟨rfl, rfl, rfl⟩ := hp
  rw [hs]
  refine ⟨fun h2 => ?_, fun h2 => ?_⟩
  · have h2 := fun z => mv_b0.mp h2 ((tx_in ha (n := t) (by omega)).mpr z)
    exact fin _ (by unfold dgN; rw [if_neg h2])
  · have h2 := (tx_in ha (n := t) (by omega)).mp (b_yes h2)
    refine ⟨rfl, _, rfl, _, rfl, vp_in_nI (by omega) (by decide), ?_⟩
    rw [hca]
    exact fin _ (by unfold dgN; rw [if_pos h2])
theorem c_digit {l : Launch} {G : mv_G} {A : Nat → Prop} (hG : mv_adk G A) : mv_Con l G A 39 sp_digit := mv_con hG 39 mv_k_X5_digit (by decide +kernel) (mv_cs_cons (c_within hG) (mv_cs_nil)) cb_digit
def sp_stopsAt : mv_SP := (fun as I _ => (∃ t : Nat, t ≤ 80 ∧ I 1 1 = nI t) ∧ ∃ a : Nat, a < 1000 ∧ as = [.ref 1, .int (nI a)],
  fun as I J r I' J' => I = I' ∧ J = J' ∧ match as with
    | [_, .int a] => ∃ z : Int32, r = some (.int z) ∧ (z = 0 ∧ ¬ stN (I 2) (I 1 1).toNatClampNeg a.toNatClampNeg ∨ z = 1 ∧ stN (I 2) (I 1 1).toNatClampNeg a.toNatClampNeg)
    | _ => True)
theorem cb_stopsAt : mv_body 45 mv_t_X5_stopsAt (mv_cs [(84, sp_within)]) sp_stopsAt := by
  intro as I J h
  obtain ⟨⟨t, ht, hs⟩, a, ha, rfl⟩ := h
  have hct : (I 1 1).toNatClampNeg = t := by rw [hs]; exact nI_clamp (by omega)
  have hca : (nI a).toNatClampNeg = a := nI_clamp (by omega)
  have fin : ∀ x : Int32, (x = 0 ∧ ¬ stN (I 2) t a ∨ x = 1 ∧ stN (I 2) t a) → sp_stopsAt.2 [.ref 1, .int (nI a)] I J (some (.int x)) I J := by
    intro x hx
    refine ⟨rfl, rfl, x, rfl, ?_⟩
    show x = 0 ∧ ¬ stN (I 2) (I 1 1).toNatClampNeg (nI a).toNatClampNeg ∨ x = 1 ∧ stN (I 2) (I 1 1).toNatClampNeg (nI a).toNatClampNeg
    rw [hct, hca]
    exact hx
  refine ⟨rfl, mv_run_V (stop := []) 40 _ _ _ _ _ ?_⟩
  refine ⟨rfl, rfl, trivial, fun r I1 J1 hp => ?_⟩
  obtain ⟨rfl, rfl, rfl⟩ := hp
  rw [hs]
  refine ⟨fun h2 => ?_, fun h2 => ?_⟩
  · have h2 := fun z => mv_b0.mp h2 ((tx_in ha (n := t) (by omega)).mpr z)
    exact ⟨Or.inr rfl, fin _ (Or.inr ⟨rfl, Or.inl h2⟩)⟩
  · have h2 := (tx_in ha (n := t) (by omega)).mp (b_yes h2)
    refine ⟨rfl, _, rfl, _, rfl, vp_in_nI (by omega) (by decide), ?_⟩
    rw [hca]
    refine ⟨fun h3 => ?_, fun h3 => ?_⟩
    · exact ⟨Or.inl rfl, fin _ (Or.inl ⟨rfl, fun z => z.elim (fun z => z h2) h3⟩)⟩
    · exact ⟨Or.inr rfl, fin _ (Or.inr ⟨rfl, Or.inr h3⟩)⟩
theorem c_stopsAt {l : Launch} {G : mv_G} {A : Nat → Prop} (hG : mv_adk G A) : mv_Con l G A 45 sp_stopsAt := mv_con hG 45 mv_k_X5_stopsAt (by decide +kernel) (mv_cs_cons (c_within hG) (mv_cs_nil)) cb_stopsAt
def sp_fits : mv_SP := (fun as _ _ => ∃ (pl : Nat) (x b : Int32), pl < 1000 ∧ as = [.int (nI pl), .int x, .int b],
  fun as I J r I' J' => I = I' ∧ J = J' ∧ match as with
    | [.int pl, .int x, .int b] => ∃ z : Int32, r = some (.int z) ∧ (z = 0 ∧ ¬ fitP pl.toNatClampNeg x b ∨ z = 1 ∧ fitP pl.toNatClampNeg x b)
    | _ => True)
theorem cb_fits : mv_body 41 mv_t_X5_fits (mv_cs [(84, sp_within)]) sp_fits := by
  intro as I J h
  obtain ⟨pl, x, b, hpl, rfl⟩ := h
  have hc : (nI pl).toNatClampNeg = pl := nI_clamp (by omega)
  have en : ∀ {k : Nat}, k < 100 → (nI pl = nI k ↔ pl = k) := fun h => nI_eq (by omega) (by omega)
  have fin : ∀ z : Int32, (z = 0 ∧ ¬ fitP pl x b ∨ z = 1 ∧ fitP pl x b) → sp_fits.2 [.int (nI pl), .int x, .int b] I J (some (.int z)) I J := by
    intro z hz
    refine ⟨rfl, rfl, z, rfl, ?_⟩
    show z = 0 ∧ ¬ fitP (nI pl).toNatClampNeg x b ∨ z = 1 ∧ fitP (nI pl).toNatClampNeg x b
    rw [hc]
    exact hz
  have finb : ∀ (P : Prop) [Decidable P], fitP pl x b = P → (mv_b P = 0 ∨ mv_b P = 1) ∧ sp_fits.2 [.int (nI pl), .int x, .int b] I J (some (.int (mv_b P))) I J := by
    intro P _ hP
    refine ⟨mv_b01 _, fin _ ?_⟩
    rw [hP]
    by_cases h : P
    · exact Or.inr ⟨mv_bt h, h⟩
    · exact Or.inl ⟨mv_bf h, h⟩
  have fin0 : ¬ fitP pl x b → ((0 : Int32) = 0 ∨ (0 : Int32) = 1) ∧ sp_fits.2 [.int (nI pl), .int x, .int b] I J (some (.int 0)) I J := fun h => ⟨Or.inl rfl, fin _ (Or.inl ⟨rfl, h⟩)⟩
  have fin1 : fitP pl x b → ((1 : Int32) = 0 ∨ (1 : Int32) = 1) ∧ sp_fits.2 [.int (nI pl), .int x, .int b] I J (some (.int 1)) I J := fun h => ⟨Or.inr rfl, fin _ (Or.inr ⟨rfl, h⟩)⟩
  refine ⟨rfl, mv_run_V (stop := []) 40 _ _ _ _ _ ?_⟩
  refine ⟨fun h => ?_, fun h => ?_⟩
  · have h := (en (k := 0) (by decide)).mp h
    subst h
    refine ⟨fun h2 => ?_, fun h2 => ?_⟩
    · exact fin0 h2
    · exact fin1 h2
  have h0 : ¬ pl = 0 := fun z => h ((en (k := 0) (by decide)).mpr z)
  refine ⟨fun h => ?_, fun h => ?_⟩
  · have h := (en (k := 1) (by decide)).mp h
    subst h
    refine ⟨rfl, trivial, fun r I1 J1 hp => ?_⟩
    obtain ⟨rfl, rfl, rfl⟩ := hp
    exact finb _ (rfl)
  have h1 : ¬ pl = 1 := fun z => h ((en (k := 1) (by decide)).mpr z)
  refine ⟨fun h => ?_, fun h => ?_⟩
  · have h := (en (k := 2) (by decide)).mp h
    subst h
    refine ⟨rfl, trivial, fun r I1 J1 hp => ?_⟩
    obtain ⟨rfl, rfl, rfl⟩ := hp
    exact finb _ (rfl)
  have h2 : ¬ pl = 2 := fun z => h ((en (k := 2) (by decide)).mpr z)
  refine ⟨fun h => ?_, fun h => ?_⟩
  · have h := (en (k := 3) (by decide)).mp h
    subst h
    refine ⟨rfl, trivial, fun r I1 J1 hp => ?_⟩
    obtain ⟨rfl, rfl, rfl⟩ := hp
    exact finb _ (rfl)
  have h3 : ¬ pl = 3 := fun z => h ((en (k := 3) (by decide)).mpr z)
  refine ⟨fun h => ?_, fun h => ?_⟩
  · have h := (en (k := 4) (by decide)).mp h
    subst h
    refine ⟨rfl, trivial, fun r I1 J1 hp => ?_⟩
    obtain ⟨rfl, rfl, rfl⟩ := hp
    exact finb _ (rfl)
  have h4 : ¬ pl = 4 := fun z => h ((en (k := 4) (by decide)).mpr z)
  refine ⟨fun h => ?_, fun h => ?_⟩
  · have h := (en (k := 5) (by decide)).mp h
    subst h
    refine ⟨fun h2 => ?_, fun h2 => ?_⟩
    · refine ⟨rfl, trivial, fun r I1 J1 hp => ?_⟩
      obtain ⟨rfl, rfl, rfl⟩ := hp
      exact finb _ (if_neg h2)
    · refine ⟨rfl, trivial, fun r I1 J1 hp => ?_⟩
      obtain ⟨rfl, rfl, rfl⟩ := hp
      exact finb _ (if_pos h2)
  have h5 : ¬ pl = 5 := fun z => h ((en (k := 5) (by decide)).mpr z)
  refine ⟨fun h => ?_, fun h => ?_⟩
  · have h := (en (k := 6) (by decide)).mp h
    subst h
    refine ⟨rfl, trivial, fun r I1 J1 hp => ?_⟩
    obtain ⟨rfl, rfl, rfl⟩ := hp
    exact finb _ (rfl)
  have h6 : ¬ pl = 6 := fun z => h ((en (k := 6) (by decide)).mpr z)
  refine ⟨fun h => ?_, fun h => ?_⟩
  · have h := (en (k := 7) (by decide)).mp h
    subst h
    refine ⟨rfl, trivial, fun r I1 J1 hp => ?_⟩
    obtain ⟨rfl, rfl, rfl⟩ := hp
    exact finb _ (rfl)
  have h7 : ¬ pl = 7 := fun z => h ((en (k := 7) (by decide)).mpr z)
  refine ⟨fun h => ?_, fun h => ?_⟩
  · have h := (en (k := 8) (by decide)).mp h
    subst h
    refine ⟨rfl, trivial, fun r I1 J1 hp => ?_⟩
    obtain ⟨rfl, rfl, rfl⟩ := hp
    exact finb _ (rfl)
  have h8 : ¬ pl = 8 := fun z => h ((en (k := 8) (by decide)).mpr z)
  refine ⟨fun h => ?_, fun h => ?_⟩
  · have h := (en (k := 9) (by decide)).mp h
    subst h
    refine ⟨fun h2 => ?_, fun h2 => ?_⟩
    · exact fin1 (Or.inl h2)
    · refine ⟨rfl, trivial, fun r I1 J1 hp => ?_⟩
      obtain ⟨rfl, rfl, rfl⟩ := hp
      refine ⟨fun h3 => ?_, fun h3 => ?_⟩
      · exact fin0 (fun z => z.elim h2 (mv_b0.mp h3))
      · exact fin1 (Or.inr (b_yes h3))
  have h9 : ¬ pl = 9 := fun z => h ((en (k := 9) (by decide)).mpr z)
  refine ⟨fun h => ?_, fun h => ?_⟩
  · have h := (en (k := 10) (by decide)).mp h
    subst h
    refine ⟨fun h2 => ?_, fun h2 => ?_⟩
    · exact fin1 (Or.inl h2)
    · refine ⟨rfl, trivial, fun r I1 J1 hp => ?_⟩
      obtain ⟨rfl, rfl, rfl⟩ := hp
      refine ⟨fun h3 => ?_, fun h3 => ?_⟩
      · exact fin0 (fun z => z.elim h2 (mv_b0.mp h3))
      · exact fin1 (Or.inr (b_yes h3))
  have h10 : ¬ pl = 10 := fun z => h ((en (k := 10) (by decide)).mpr z)
  refine ⟨fun h => ?_, fun h => ?_⟩
  · have h := (en (k := 11) (by decide)).mp h
    subst h
    refine ⟨fun h2 => ?_, fun h2 => ?_⟩
    · exact fin1 (Or.inl h2)
    · refine ⟨rfl, trivial, fun r I1 J1 hp => ?_⟩
      obtain ⟨rfl, rfl, rfl⟩ := hp
      refine ⟨fun h3 => ?_, fun h3 => ?_⟩
      · exact fin0 (fun z => z.elim h2 (mv_b0.mp h3))
      · exact fin1 (Or.inr (b_yes h3))
  have h11 : ¬ pl = 11 := fun z => h ((en (k := 11) (by decide)).mpr z)
  refine ⟨fun h => ?_, fun h => ?_⟩
  · have h := (en (k := 12) (by decide)).mp h
    subst h
    refine ⟨fun h2 => ?_, fun h2 => ?_⟩
    · exact fin1 (Or.inl h2)
    · refine ⟨rfl, trivial, fun r I1 J1 hp => ?_⟩
      obtain ⟨rfl, rfl, rfl⟩ := hp
      refine ⟨fun h3 => ?_, fun h3 => ?_⟩
      · exact fin0 (fun z => z.elim h2 (mv_b0.mp h3))
      · exact fin1 (Or.inr (b_yes h3))
  have h12 : ¬ pl = 12 := fun z => h ((en (k := 12) (by decide)).mpr z)
  refine ⟨fun h => ?_, fun h => ?_⟩
  · have h := (en (k := 13) (by decide)).mp h
    subst h
    refine ⟨fun h2 => ?_, fun h2 => ?_⟩
    · exact fin0 h2
    · exact fin1 h2
  have h13 : ¬ pl = 13 := fun z => h ((en (k := 13) (by decide)).mpr z)
  refine ⟨rfl, trivial, fun r I1 J1 hp => ?_⟩
  obtain ⟨rfl, rfl, rfl⟩ := hp
  exact finb _ (by unfold fitP; rw [if_neg h0, if_neg h5, if_neg h6, if_neg h7, if_neg (by omega), if_neg h13])
theorem c_fits {l : Launch} {G : mv_G} {A : Nat → Prop} (hG : mv_adk G A) : mv_Con l G A 41 sp_fits := mv_con hG 41 mv_k_X5_fits (by decide +kernel) (mv_cs_cons (c_within hG) (mv_cs_nil)) cb_fits
/-- the first fault from the letter k on: in a series, pl letters of it are read, co series are complete -/
noncomputable def ffF (T : Nat → Int32) (n : Nat) : Nat → Nat → Nat → Nat → Int32
  | 0, _, pl, _ => if pl = 0 then -9 else nI n
  | r + 1, k, pl, co => @ite _ (co = 5 ∨ ¬ fitP pl (T k) (T (k - 1))) (Classical.propDecidable _) (nI k) (if T k = 46 then ffF T n r (k + 1) 0 (co + 1) else ffF T n r (k + 1) (pl + 1) co)
noncomputable def fltF (T : Nat → Int32) (n : Nat) : Int32 := if n = 0 ∨ ¬ T 0 = 87 then 0 else ffF T n (n - 1) 1 0 0
def sp_findFault : mv_SP := (fun as I _ => (∃ t : Nat, t ≤ 80 ∧ I 1 1 = nI t) ∧ as = [.ref 1],
  fun _ I J r I' J' => I = I' ∧ J = J' ∧ r = some (.int (fltF (I 2) (I 1 1).toNatClampNeg)))
theorem cb_findFault : mv_body 40 mv_t_X5_findFault (mv_cs [(41, sp_fits)]) sp_findFault := by
  intro as I J h
  obtain ⟨⟨t, ht, hs⟩, rfl⟩ := h
  have hct : (I 1 1).toNatClampNeg = t := by rw [hs]; exact nI_clamp (by omega)
  have fin : ∀ x : Int32, x = fltF (I 2) t → sp_findFault.2 [.ref 1] I J (some (.int x)) I J := by
    intro x hx
    refine ⟨rfl, rfl, ?_⟩
    rw [hct, hx]
  have key : ∀ r k pl co : Nat, 1 ≤ k → k + r = t → pl ≤ k → co ≤ k → ffF (I 2) t r k pl co = fltF (I 2) t → mv_V mv_ow mv_swf mv_t_X5_findFault (mv_cs [(41, sp_fits)]) (sp_findFault.2 [.ref 1] I J) 26 [(0, .ref 1), (1, .int (nI pl)), (2, .int (nI co)), (3, .int (nI k))] [] I J := by
    intro r
    induction r with
    | zero =>
      intro k pl co hk1 hk hpl hco hf
      have hk : k = t := hk
      subst hk
      rw [ffF] at hf
      refine mv_run_V (stop := [26]) 40 _ _ _ _ _ ?_
      refine ⟨rfl, fun h1 => ?_, fun h1 => ?_⟩
      · refine ⟨fun h2 => ?_, fun h2 => ?_⟩
        · have h2 : ¬ pl = 0 := fun z => h2 (by rw [z]; rfl)
          rw [if_neg h2] at hf
          exact ⟨rfl, fin _ (hs.trans hf)⟩
        · have h2 := (nI_eq (b := 0) (by omega) (by decide)).mp h2
          rw [if_pos h2] at hf
          exact fin _ hf
      · rw [hs] at h1
        exact absurd h1 (nI_nlt (Nat.le_refl _) (by omega))
    | succ r ih =>
      intro k pl co hk1 hk hpl hco hf
      have ck : (nI k).toNatClampNeg = k := nI_clamp (by omega)
      have cpl : (nI pl).toNatClampNeg = pl := nI_clamp (by omega)
      have hk1' : nI k - 1 = nI (k - 1) := by rw [show (1 : Int32) = nI 1 from rfl, pk_sub (by omega)]
      have ck1 : (nI (k - 1)).toNatClampNeg = k - 1 := nI_clamp (by omega)
      rw [ffF] at hf
      refine mv_run_V (stop := [26]) 60 _ _ _ _ _ ?_
      refine ⟨rfl, fun h1 => ?_, fun h1 => ?_⟩
      · rw [hs] at h1
        exact absurd (nI_lt (by omega) (by omega)) h1
      · refine ⟨fun h3 => ?_, fun h3 => ?_⟩
        · have h3 := (nI_eq (b := 5) (by omega) (by decide)).mp h3
          rw [if_pos (Or.inl h3)] at hf
          exact fin _ hf
        · have h3 : ¬ co = 5 := fun z => h3 (by rw [z]; rfl)
          refine ⟨rfl, _, rfl, _, rfl, vp_in_nI (by omega) (by decide), rfl, _, rfl, _, rfl, (by rw [hk1']; exact vp_in_nI (by omega) (by decide)), rfl, ⟨pl, _, _, by omega, rfl⟩, fun r1 I2 J2 hp => ?_⟩
          obtain ⟨rfl, rfl, z, rfl, hz⟩ := hp
          rw [cpl, ck, hk1', ck1] at hz
          refine ⟨fun h5 => ?_, fun h5 => ?_⟩
          · have hfit : fitP pl (I 2 k) (I 2 (k - 1)) := by
              rcases hz with ⟨z, -⟩ | ⟨-, z⟩
              · exact absurd z h5
              · exact z
            rw [if_neg (fun z => z.elim h3 (fun z => z hfit))] at hf
            refine ⟨rfl, _, rfl, _, rfl, vp_in_nI (by omega) (by decide), ?_⟩
            rw [ck]
            refine ⟨fun h6 => ?_, fun h6 => ?_⟩
            · rw [if_neg h6] at hf
              have h7 := ih (k + 1) (pl + 1) co (by omega) (by omega) (by omega) (by omega) hf
              rw [nI_succ, nI_succ] at h7
              exact h7
            · rw [if_pos h6] at hf
              have h7 := ih (k + 1) 0 (co + 1) (by omega) (by omega) (by omega) (by omega) hf
              rw [nI_succ, nI_succ] at h7
              exact h7
          · have hfit : ¬ fitP pl (I 2 k) (I 2 (k - 1)) := by
              rcases hz with ⟨-, z⟩ | ⟨z, -⟩
              · exact z
              · rw [z] at h5
                exact absurd h5 (by decide)
            rw [if_pos (Or.inr hfit)] at hf
            exact fin _ hf
  refine ⟨rfl, mv_run_V (stop := [26]) 40 _ _ _ _ _ ?_⟩
  refine ⟨rfl, fun h1 => ?_, fun h1 => ?_⟩
  · rw [hs] at h1
    have h1 := (nI_eq (b := 0) (by omega) (by decide)).mp h1
    exact fin _ (by unfold fltF; rw [if_pos (Or.inl h1)])
  · have h1 : ¬ t = 0 := fun z => h1 (by rw [hs, z]; rfl)
    refine ⟨rfl, _, rfl, _, rfl, vp_in_nI (n := 0) (by decide) (by decide), ?_⟩
    refine ⟨fun h2 => ?_, fun h2 => ?_⟩
    · have h2 : I 2 0 = 87 := h2
      exact key (t - 1) 1 0 0 (Nat.le_refl _) (by omega) (by omega) (by omega) (by unfold fltF; rw [if_neg (fun z => z.elim h1 (fun z => z h2))])
    · have h2 : ¬ I 2 0 = 87 := h2
      exact fin _ (by unfold fltF; rw [if_pos (Or.inr h2)])
theorem c_findFault {l : Launch} {G : mv_G} {A : Nat → Prop} (hG : mv_adk G A) : mv_Con l G A 40 sp_findFault := mv_con hG 40 mv_k_X5_findFault (by decide +kernel) (mv_cs_cons (c_fits hG) (mv_cs_nil)) cb_findFault
