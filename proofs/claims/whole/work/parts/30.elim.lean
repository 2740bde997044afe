/-! Run lengths: elimination, solve, length. -/
abbrev mv_Q : Type := Nat → Nat → Int64
def elX (k : Nat) (la : Int64) (M : mv_Q) (i j : Nat) : Int64 := if la = 0 then M i j * M k k - M i k * M k j else (M i j * M k k - M i k * M k j) / la
def elM (n k : Nat) (la : Int64) (M : mv_Q) : mv_Q := fun i j => if (k < i ∧ i < n) ∧ k < j ∧ j ≤ n then elX k la M i j else M i j
def elS (n : Nat) (M : mv_Q) : Nat → Int64 × mv_Q
  | 0 => (1, M)
  | k + 1 => ((elS n M k).2 k k, elM n k (elS n M k).1 (elS n M k).2)
theorem elS_congr {n : Nat} {M M' : mv_Q} (h : ∀ i, i < n → ∀ j, j ≤ n → M i j = M' i j) : ∀ k, k < n → (elS n M k).1 = (elS n M' k).1 ∧ ∀ i, i < n → ∀ j, j ≤ n → (elS n M k).2 i j = (elS n M' k).2 i j
  | 0, _ => ⟨rfl, h⟩
  | k + 1, hk => by
    obtain ⟨h1, h2⟩ := elS_congr h k (by omega)
    refine ⟨h2 k (by omega) k (by omega), fun i hi j hj => ?_⟩
    show elM n k (elS n M k).1 (elS n M k).2 i j = elM n k (elS n M' k).1 (elS n M' k).2 i j
    unfold elM elX
    rw [h1, h2 i hi j hj, h2 k (by omega) k (by omega), h2 i hi k (by omega), h2 k (by omega) j hj]
/-- the cells of the class's rows alone differ -/
def rlOk (J J' : mv_J) : Prop := ∀ a, (a < 14 ∨ a = 15 ∨ 22 ≤ a) → J' a = J a
theorem rlOk_sj {J J' : mv_J} (h : rlOk J J') {k j : Nat} {x : Int64} (hk : ¬ (k < 14 ∨ k = 15 ∨ 22 ≤ k)) : rlOk J (mv_sj J' k j x) := fun a ha => (mv_sj_ne (by omega)).trans (h a ha)
theorem rlOk_trans {J J' J2 : mv_J} (h : rlOk J J') (h2 : rlOk J' J2) : rlOk J J2 := fun a ha => (h2 a ha).trans (h a ha)
def sp_elim : mv_SP := (fun as _ _ => ∃ n : Nat, 1 ≤ n ∧ n ≤ 6 ∧ as = [.ref 14, .int (nI n)],
  fun as I J r I' J' => I = I' ∧ rlOk J J' ∧ match as with
    | [_, .int n] => ∀ M : mv_Q, (∀ i, i < n.toNatClampNeg → ∀ j, j ≤ n.toNatClampNeg → J (16 + i) j = M i j) → J' 14 1 = (elS n.toNatClampNeg M (n.toNatClampNeg - 1)).2 (n.toNatClampNeg - 1) n.toNatClampNeg ∧ J' 14 2 = (elS n.toNatClampNeg M (n.toNatClampNeg - 1)).2 (n.toNatClampNeg - 1) (n.toNatClampNeg - 1) ∧ r = some (.int (mv_b (0 < (elS n.toNatClampNeg M (n.toNatClampNeg - 1)).2 (n.toNatClampNeg - 1) (n.toNatClampNeg - 1))))
    | _ => True)
theorem cb_elim : mv_body 33 mv_t_X3_eliminate (mv_cs []) sp_elim := by
  intro as I J h
  obtain ⟨n, hn1, hn6, rfl⟩ := h
  have cn : (nI n).toNatClampNeg = n := nI_clamp (by omega)
  have hn1' : nI n - 1 = nI (n - 1) := by rw [show (1 : Int32) = nI 1 from rfl, pk_sub (by omega)]
  have cn1 : (nI (n - 1)).toNatClampNeg = n - 1 := nI_clamp (by omega)
  let M0 : mv_Q := fun i j => J (16 + i) j
  have cd : ∀ {x : Nat}, x < 1000 → (nI x).toNatClampNeg = x := fun h => nI_clamp (by omega)
  -- outer loop
  have k5 : ∀ r k : Nat, k + r = n - 1 → ∀ J1 : mv_J, rlOk J J1 → (∀ i, i < n → ∀ j, j ≤ n → J1 (16 + i) j = (elS n M0 k).2 i j) → mv_V mv_ow mv_swf mv_t_X3_eliminate (mv_cs []) (sp_elim.2 [.ref 14, .int (nI n)] I J) 5 [(0, .ref 14), (1, .int (nI n)), (2, .long (elS n M0 k).1), (4, .int (nI k))] [] I J1 := by
    intro r
    induction r with
    | zero =>
      intro k hk J1 hJ hM
      have hk : k = n - 1 := hk
      subst hk
      have lay : mv_lay (16 + (n - 1)) = (4, 7, 0) := mv_lay_rl (by omega)
      have hrf := mv_rf_rl (i := n - 1) (by omega)
      have ne14 : ∀ x : Int64, mv_sj J1 14 1 x (16 + (n - 1)) = J1 (16 + (n - 1)) := fun x => mv_sj_ne (by omega)
      refine mv_run_V (stop := [5, 31]) 40 _ _ _ _ _ ?_
      refine ⟨fun h1 => ?_, fun h1 => ?_⟩
      · refine ⟨rfl, _, rfl, _, rfl, (by rw [hn1']; exact vp_in_nI (by omega) (by decide)), _, (by rw [hn1', cn1]; exact hrf), ?_⟩
        refine ⟨_, lay, vp_in_nI (by omega) (by decide), rfl, ?_⟩
        rw [cn]
        refine ⟨rfl, _, rfl, _, rfl, (by rw [hn1']; exact vp_in_nI (by omega) (by decide)), _, (by rw [hn1', cn1]; exact hrf), ?_⟩
        refine ⟨_, lay, (by rw [hn1']; exact vp_in_nI (by omega) (by decide)), rfl, rfl, ?_⟩
        rw [hn1', cn1, ne14]
        have hJ3 : rlOk J (mv_sj (mv_sj J1 14 1 (J1 (16 + (n - 1)) n)) 14 2 (J1 (16 + (n - 1)) (n - 1))) := rlOk_sj (rlOk_sj hJ (by decide)) (by decide)
        have fin : ∀ x : Int32, x = mv_b (0 < J1 (16 + (n - 1)) (n - 1)) → sp_elim.2 [.ref 14, .int (nI n)] I J (some (.int x)) I (mv_sj (mv_sj J1 14 1 (J1 (16 + (n - 1)) n)) 14 2 (J1 (16 + (n - 1)) (n - 1))) := by
          intro x hx
          refine ⟨rfl, hJ3, ?_⟩
          show ∀ M : mv_Q, _
          rw [cn]
          intro M h
          obtain ⟨-, e2⟩ := elS_congr (M := M0) (M' := M) (n := n) h (n - 1) (by omega)
          rw [← e2 (n - 1) (by omega) n (Nat.le_refl n), ← e2 (n - 1) (by omega) (n - 1) (by omega), ← hM (n - 1) (by omega) n (Nat.le_refl n), ← hM (n - 1) (by omega) (n - 1) (by omega)]
          exact ⟨rfl, rfl, by rw [hx]⟩
        refine ⟨fun h2 => ?_, fun h2 => ?_⟩
        · exact ⟨Or.inl rfl, fin 0 (mv_bf (fun z => h2 ((lg_cmp_gt _ _).mpr z))).symm⟩
        · exact ⟨Or.inr rfl, fin 1 (mv_bt ((lg_cmp_gt _ _).mp h2)).symm⟩
      · rw [hn1'] at h1
        exact absurd h1 (nI_nlt (Nat.le_refl _) (by omega))
    | succ r ih =>
      intro k hk J1 hJ hM
      have hck := cd (x := k) (by omega)
      -- the place of the rows i and columns j done
      have k43 : ∀ i, k < i → i < n → ∀ q j : Nat, j + q = n + 1 → k < j → ∀ J2 : mv_J, rlOk J J2 → (∀ a, a < n → ∀ b, b ≤ n → J2 (16 + a) b = if (k < a ∧ k < b) ∧ (a < i ∨ a = i ∧ b < j) then elX k (elS n M0 k).1 (elS n M0 k).2 a b else (elS n M0 k).2 a b) → (∀ J3 : mv_J, rlOk J J3 → (∀ a, a < n → ∀ b, b ≤ n → J3 (16 + a) b = if (k < a ∧ k < b) ∧ (a < i + 1) then elX k (elS n M0 k).1 (elS n M0 k).2 a b else (elS n M0 k).2 a b) → mv_V mv_ow mv_swf mv_t_X3_eliminate (mv_cs []) (sp_elim.2 [.ref 14, .int (nI n)] I J) 31 [(0, .ref 14), (1, .int (nI n)), (2, .long (elS n M0 k).1), (4, .int (nI k)), (5, .long ((elS n M0 k).2 k k)), (7, .int (nI i + 1))] [] I J3) → mv_V mv_ow mv_swf mv_t_X3_eliminate (mv_cs []) (sp_elim.2 [.ref 14, .int (nI n)] I J) 43 [(0, .ref 14), (1, .int (nI n)), (2, .long (elS n M0 k).1), (4, .int (nI k)), (5, .long ((elS n M0 k).2 k k)), (7, .int (nI i)), (8, .int (nI j))] [] I J2 := by
        intro i hki hin q
        have hci := cd (x := i) (by omega)
        induction q with
        | zero =>
          intro j hj hkj J2 hJ2 hM2 nx
          have hj : j = n + 1 := hj
          subst hj
          refine mv_run_V (stop := [31, 43]) 60 _ _ _ _ _ ?_
          refine ⟨fun h1 => ?_, fun h1 => ?_⟩
          · exact mv_keep [0, 1, 2, 4, 5, 7] (nx J2 hJ2 (fun a ha b hb => by
              rw [hM2 a ha b hb]
              have e : ((k < a ∧ k < b) ∧ (a < i ∨ a = i ∧ b < n + 1)) ↔ ((k < a ∧ k < b) ∧ a < i + 1) := by omega
              simp only [e]))
          · exact absurd (nI_lt (by omega) (by omega)) h1
        | succ q ihq =>
          intro j hj hkj J2 hJ2 hM2 nx
          have hcj := cd (x := j) (by omega)
          have li : mv_lay (16 + i) = (4, 7, 0) := mv_lay_rl (by omega)
          have lk : mv_lay (16 + k) = (4, 7, 0) := mv_lay_rl (by omega)
          have v1 : J2 (16 + i) j = (elS n M0 k).2 i j := by rw [hM2 i hin j (by omega), if_neg (by omega)]
          have v2 : J2 (16 + i) k = (elS n M0 k).2 i k := by rw [hM2 i hin k (by omega), if_neg (by omega)]
          have v3 : J2 (16 + k) j = (elS n M0 k).2 k j := by rw [hM2 k (by omega) j (by omega), if_neg (by omega)]
          have nxt : ∀ x : Int64, x = elX k (elS n M0 k).1 (elS n M0 k).2 i j → mv_V mv_ow mv_swf mv_t_X3_eliminate (mv_cs []) (sp_elim.2 [.ref 14, .int (nI n)] I J) 43 [(0, .ref 14), (1, .int (nI n)), (2, .long (elS n M0 k).1), (4, .int (nI k)), (5, .long ((elS n M0 k).2 k k)), (7, .int (nI i)), (8, .int (nI j + 1))] [] I (mv_sj J2 (16 + i) j x) := by
            intro x hx
            have h5 := ihq (j + 1) (by omega) (by omega) (mv_sj J2 (16 + i) j x) (rlOk_sj hJ2 (by omega)) (fun a ha b hb => by
              rw [mv_sj_ap]
              by_cases hab : a = i ∧ b = j
              · rw [if_pos ⟨by omega, hab.2⟩, if_pos (by omega), hx, hab.1, hab.2]
              · rw [if_neg (by omega), hM2 a ha b hb]
                have e : ((k < a ∧ k < b) ∧ (a < i ∨ a = i ∧ b < j)) ↔ ((k < a ∧ k < b) ∧ (a < i ∨ a = i ∧ b < j + 1)) := by omega
                simp only [e]) nx
            rw [nI_succ j] at h5
            exact h5
          refine mv_run_V (stop := [31, 43]) 80 _ _ _ _ _ ?_
          refine ⟨fun h1 => ?_, fun h1 => ?_⟩
          · exact absurd h1 (nI_nlt (by omega) (by omega))
          · refine ⟨rfl, _, rfl, _, rfl, vp_in_nI (by omega) (by decide), _, (by rw [hci]; exact mv_rf_rl (by omega)), ?_⟩
            refine ⟨_, li, vp_in_nI (by omega) (by decide), ?_⟩
            refine ⟨rfl, _, rfl, _, rfl, vp_in_nI (by omega) (by decide), _, (by rw [hci]; exact mv_rf_rl (by omega)), ?_⟩
            refine ⟨_, li, vp_in_nI (by omega) (by decide), ?_⟩
            refine ⟨rfl, _, rfl, _, rfl, vp_in_nI (by omega) (by decide), _, (by rw [hck]; exact mv_rf_rl (by omega)), ?_⟩
            refine ⟨_, lk, vp_in_nI (by omega) (by decide), ?_⟩
            rw [hcj, hck, v1, v2, v3]
            refine ⟨rfl, _, rfl, _, rfl, vp_in_nI (by omega) (by decide), _, (by rw [hci]; exact mv_rf_rl (by omega)), ?_⟩
            refine ⟨fun h2 => ?_, fun h2 => ?_⟩
            · have h2 := (lg_cmp_eq _ _).mp h2
              refine ⟨_, li, vp_in_nI (by omega) (by decide), ?_⟩
              rw [hcj]
              exact mv_keep [0, 1, 2, 4, 5, 7, 8] (nxt _ (by unfold elX; rw [if_pos h2]))
            · have h2 : ¬ (elS n M0 k).1 = 0 := fun z => h2 ((lg_cmp_eq _ _).mpr z)
              refine ⟨h2, _, li, vp_in_nI (by omega) (by decide), ?_⟩
              rw [hcj]
              exact mv_keep [0, 1, 2, 4, 5, 7, 8] (nxt _ (by unfold elX; rw [if_neg h2]))
      have k31 : ∀ q i : Nat, i + q = n → k < i → ∀ J2 : mv_J, rlOk J J2 → (∀ a, a < n → ∀ b, b ≤ n → J2 (16 + a) b = if (k < a ∧ k < b) ∧ a < i then elX k (elS n M0 k).1 (elS n M0 k).2 a b else (elS n M0 k).2 a b) → mv_V mv_ow mv_swf mv_t_X3_eliminate (mv_cs []) (sp_elim.2 [.ref 14, .int (nI n)] I J) 31 [(0, .ref 14), (1, .int (nI n)), (2, .long (elS n M0 k).1), (4, .int (nI k)), (5, .long ((elS n M0 k).2 k k)), (7, .int (nI i))] [] I J2 := by
        intro q
        induction q with
        | zero =>
          intro i hi hki J2 hJ2 hM2
          have hi : i = n := hi
          subst hi
          refine mv_run_V (stop := [5, 31, 43]) 60 _ _ _ _ _ ?_
          refine ⟨fun h1 => ?_, fun h1 => ?_⟩
          · have h5 := ih (k + 1) (by omega) J2 hJ2 (fun a ha b hb => by
              rw [hM2 a ha b hb]
              show _ = elM i k (elS i M0 k).1 (elS i M0 k).2 a b
              unfold elM
              have e : ((k < a ∧ k < b) ∧ a < i) ↔ ((k < a ∧ a < i) ∧ k < b ∧ b ≤ i) := by omega
              simp only [e])
            rw [nI_succ] at h5
            exact mv_keep [0, 1, 2, 4] h5
          · exact absurd h1 (nI_nlt (Nat.le_refl _) (by omega))
        | succ q ihq =>
          intro i hi hki J2 hJ2 hM2
          refine mv_run_V (stop := [5, 31, 43]) 60 _ _ _ _ _ ?_
          refine ⟨fun h1 => ?_, fun h1 => ?_⟩
          · exact absurd (nI_lt (by omega) (by omega)) h1
          · have h5 := k43 i hki (by omega) (n - k) (k + 1) (by omega) (by omega) J2 hJ2 (fun a ha b hb => by
              rw [hM2 a ha b hb]
              have e : ((k < a ∧ k < b) ∧ a < i) ↔ ((k < a ∧ k < b) ∧ (a < i ∨ a = i ∧ b < k + 1)) := by omega
              simp only [e]) (fun J3 hJ3 hM3 => by
              have h6 := ihq (i + 1) (by omega) (by omega) J3 hJ3 hM3
              rw [nI_succ] at h6
              exact h6)
            rw [nI_succ] at h5
            exact h5
      have lk : mv_lay (16 + k) = (4, 7, 0) := mv_lay_rl (by omega)
      refine mv_run_V (stop := [5, 31]) 40 _ _ _ _ _ ?_
      refine ⟨fun h1 => ?_, fun h1 => ?_⟩
      · rw [hn1'] at h1
        exact absurd (nI_lt (by omega) (by omega)) h1
      · refine ⟨rfl, _, rfl, _, rfl, vp_in_nI (by omega) (by decide), _, (by rw [hck]; exact mv_rf_rl (by omega)), ?_⟩
        refine ⟨_, lk, vp_in_nI (by omega) (by decide), ?_⟩
        rw [hck, hM k (by omega) k (by omega)]
        have h5 := k31 (n - (k + 1)) (k + 1) (by omega) (by omega) J1 hJ (fun a ha b hb => by
          rw [if_neg (by omega)]
          exact hM a ha b hb)
        rw [nI_succ] at h5
        exact h5
  refine ⟨rfl, mv_run_V (stop := [5]) 40 _ _ _ _ _ ?_⟩
  exact k5 (n - 1) 0 (by omega) J (fun _ _ => rfl) (fun i hi j hj => rfl)
theorem c_elim {l : Launch} {G : mv_G} {A : Nat → Prop} (hG : mv_adk G A) : mv_Con l G A 33 sp_elim := mv_con hG 33 mv_k_X3_eliminate (by decide +kernel) (mv_cs_nil) cb_elim
/-- the equations, the last state first -/
def eqM (s bd : Nat) (w : Int32) : mv_Q := fun i j => peF (bd - 1 - i) s bd w 5 j
def lenP (s bd : Nat) (w : Int32) : Int64 × mv_Q := elS bd (eqM s bd w) (bd - 1)
def lenA (s bd : Nat) (w : Int32) : Int64 := (lenP s bd w).2 (bd - 1) bd
def lenB (s bd : Nat) (w : Int32) : Int64 := (lenP s bd w).2 (bd - 1) (bd - 1)
def sp_solve : mv_SP := (fun as _ _ => ∃ (s bd : Nat) (w : Int32), s ≤ 9 ∧ bd < 1000 ∧ as = [.ref 14, .int (nI s), .int (nI bd), .int w],
  fun as I J r I' J' => I = I' ∧ rlOk J J' ∧ match as with
    | [_, .int s, .int bd, .int w] => if (1 ≤ bd.toNatClampNeg ∧ bd.toNatClampNeg ≤ 6) ∧ ¬ clF s w 5 0 = 0 then J' 14 1 = lenA s.toNatClampNeg bd.toNatClampNeg w ∧ J' 14 2 = lenB s.toNatClampNeg bd.toNatClampNeg w ∧ r = some (.int (mv_b (0 < lenB s.toNatClampNeg bd.toNatClampNeg w))) else r = some (.int 0)
    | _ => True)
theorem clF_01 (s w : Int32) : ∀ r k, clF s w r k = 0 ∨ clF s w r k = 1
  | 0, _ => Or.inl rfl
  | r + 1, k => by
    rw [clF]
    split
    · exact Or.inr rfl
    · exact clF_01 s w r _
theorem cb_solve : mv_body 36 mv_t_X3_solve (mv_cs [(84, sp_within), (32, sp_climbs), (35, sp_putEq), (33, sp_elim)]) sp_solve := by
  intro as I J h
  obtain ⟨s, bd, w, hs, hbd, rfl⟩ := h
  have c2 : (nI s).toNatClampNeg = s := nI_clamp (by omega)
  have c3 : (nI bd).toNatClampNeg = bd := nI_clamp (by omega)
  have no : ¬ ((1 ≤ bd ∧ bd ≤ 6) ∧ ¬ clF (nI s) w 5 0 = 0) → sp_solve.2 [.ref 14, .int (nI s), .int (nI bd), .int w] I J (some (.int 0)) I J := by
    intro hn
    refine ⟨rfl, fun _ _ => rfl, ?_⟩
    show if (1 ≤ (nI bd).toNatClampNeg ∧ (nI bd).toNatClampNeg ≤ 6) ∧ ¬ clF (nI s) w 5 0 = 0 then _ else _
    rw [c3, if_neg hn]
  have hin : (1 ≤ nI bd ∧ nI bd ≤ 6) ↔ (1 ≤ bd ∧ bd ≤ 6) := by
    rw [show (1 : Int32) = nI 1 from rfl, show (6 : Int32) = nI 6 from rfl, nI_leI (by decide) (by omega), nI_leI (by omega) (by decide)]
  refine ⟨rfl, mv_run_V (stop := [23]) 40 _ _ _ _ _ ?_⟩
  refine ⟨rfl, trivial, fun r I1 J1 hp => ?_⟩
  obtain ⟨rfl, rfl, rfl⟩ := hp
  refine ⟨fun h2 => ?_, fun h2 => ?_⟩
  · have h2 := mv_b0.mp h2
    exact ⟨Or.inl rfl, no (fun z => h2 (hin.mpr z.1))⟩
  · have h2 := hin.mp (b_yes h2)
    refine ⟨rfl, ⟨nI s, w, rfl⟩, fun r I1 J1 hp => ?_⟩
    obtain ⟨rfl, rfl, hr⟩ := hp
    have hr : r = some (.int (clF (nI s) w 5 0)) := hr
    subst hr
    refine ⟨fun h4 => ?_, fun h4 => ?_⟩
    · have key : ∀ r k : Nat, k + r = bd → ∀ J1 : mv_J, rlOk J J1 → (∀ i, bd - k ≤ i → i < bd → ∀ j, j ≤ bd → J1 (16 + i) j = eqM s bd w i j) → mv_V mv_ow mv_swf mv_t_X3_solve (mv_cs [(84, sp_within), (32, sp_climbs), (35, sp_putEq), (33, sp_elim)]) (sp_solve.2 [.ref 14, .int (nI s), .int (nI bd), .int w] I J) 23 [(0, .ref 14), (1, .int (nI s)), (2, .int (nI bd)), (3, .int w), (4, .int (nI k))] [] I J1 := by
        intro r
        induction r with
        | zero =>
          intro k hk J1 hJ hM
          have hk : k = bd := hk
          subst hk
          refine mv_run_V (stop := [23]) 40 _ _ _ _ _ ?_
          refine ⟨fun h1 => ?_, fun h1 => ?_⟩
          · refine ⟨rfl, rfl, ⟨k, h2.1, h2.2, rfl⟩, fun r1 I2 J2 hp => ?_⟩
            obtain ⟨rfl, hJ2, hr⟩ := hp
            have hr : ∀ M : mv_Q, (∀ i, i < (nI k).toNatClampNeg → ∀ j, j ≤ (nI k).toNatClampNeg → J1 (16 + i) j = M i j) → J2 14 1 = (elS (nI k).toNatClampNeg M ((nI k).toNatClampNeg - 1)).2 ((nI k).toNatClampNeg - 1) (nI k).toNatClampNeg ∧ J2 14 2 = (elS (nI k).toNatClampNeg M ((nI k).toNatClampNeg - 1)).2 ((nI k).toNatClampNeg - 1) ((nI k).toNatClampNeg - 1) ∧ r1 = some (.int (mv_b (0 < (elS (nI k).toNatClampNeg M ((nI k).toNatClampNeg - 1)).2 ((nI k).toNatClampNeg - 1) ((nI k).toNatClampNeg - 1)))) := hr
            rw [c3] at hr
            obtain ⟨e1, e2, rfl⟩ := hr (eqM s k w) (fun i hi j hj => hM i (by omega) hi j hj)
            refine ⟨mv_b01 _, rfl, rlOk_trans hJ hJ2, ?_⟩
            show if (1 ≤ (nI k).toNatClampNeg ∧ (nI k).toNatClampNeg ≤ 6) ∧ ¬ clF (nI s) w 5 0 = 0 then J2 14 1 = lenA (nI s).toNatClampNeg (nI k).toNatClampNeg w ∧ J2 14 2 = lenB (nI s).toNatClampNeg (nI k).toNatClampNeg w ∧ some _ = some (Value.int (mv_b (0 < lenB (nI s).toNatClampNeg (nI k).toNatClampNeg w))) else _
            rw [c2, c3, if_pos ⟨h2, h4⟩]
            exact ⟨e1, e2, rfl⟩
          · exact absurd h1 (nI_nlt (Nat.le_refl _) (by omega))
        | succ r ih =>
          intro k hk J1 hJ hM
          have ck : (nI k).toNatClampNeg = k := nI_clamp (by omega)
          refine mv_run_V (stop := [23]) 40 _ _ _ _ _ ?_
          refine ⟨fun h1 => ?_, fun h1 => ?_⟩
          · exact absurd (nI_lt (by omega) (by omega)) h1
          · refine ⟨rfl, rfl, ⟨k, s, bd, w, by omega, h2.2, hs, rfl⟩, fun r1 I2 J2 hp => ?_⟩
            obtain ⟨rfl, rfl, hr⟩ := hp
            have hr : (∀ j : Nat, j ≤ (nI bd).toNatClampNeg → J2 (16 + ((nI bd).toNatClampNeg - 1 - (nI k).toNatClampNeg)) j = peF (nI k).toNatClampNeg (nI s).toNatClampNeg (nI bd).toNatClampNeg w 5 j) ∧ ∀ a : Nat, a ≠ 16 + ((nI bd).toNatClampNeg - 1 - (nI k).toNatClampNeg) → J2 a = J1 a := hr
            rw [c2, c3, ck] at hr
            have h5 := ih (k + 1) (by omega) J2 (fun a ha => (hr.2 a (by omega)).trans (hJ a ha)) (fun i hi1 hi2 j hj => by
              by_cases hik : i = bd - 1 - k
              · subst hik
                rw [hr.1 j hj]
                unfold eqM
                rw [show bd - 1 - (bd - 1 - k) = k by omega]
              · rw [hr.2 (16 + i) (by omega)]
                exact hM i (by omega) hi2 j hj)
            rw [nI_succ] at h5
            exact h5
      exact key bd 0 (Nat.zero_add bd) J (fun _ _ => rfl) (fun i h1 h2 => absurd h2 (by omega))
    · exact ⟨Or.inl rfl, no (fun z => z.2 h4)⟩
theorem c_solve {l : Launch} {G : mv_G} {A : Nat → Prop} (hG : mv_adk G A) : mv_Con l G A 36 sp_solve := mv_con hG 36 mv_k_X3_solve (by decide +kernel) (mv_cs_cons (c_within hG) (mv_cs_cons (c_climbs hG) (mv_cs_cons (c_putEq hG) (mv_cs_cons (c_elim hG) (mv_cs_nil))))) cb_solve
/-- slack and bound of the series of now -/
def PB (I : mv_I) : Prop := ∀ j : Nat, j < 5 → (∃ s : Nat, s ≤ 9 ∧ I (100 + 3 * j) 1 = nI s) ∧ ∃ b : Nat, 1 ≤ b ∧ b ≤ 99 ∧ I (100 + 3 * j) 2 = nI b
def lenF (s bd : Nat) (w u : Int32) : Int64 := if 6 < bd then -3 else if clF (nI s) w 5 0 = 0 ∨ ¬ 0 < lenB s bd w then -9 else lowF (lenA s bd w) (lenB s bd w) u
def sp_length : mv_SP := (fun as I _ => SH I ∧ PB I ∧ ∃ s u : Int32, as = [.ref 0, .int s, .int u],
  fun as I J r I' J' => I = I' ∧ rlOk J J' ∧ match as with
    | [_, .int s, .int u] => r = some (.long (if sv I s then lenF (I (scn s) 1).toNatClampNeg (I (scn s) 2).toNatClampNeg (I 400 2) u else -1))
    | _ => True)
theorem cb_length : mv_body 65 mv_t_X6_length (mv_cs [(25, sp_at), (36, sp_solve), (67, sp_lowest)]) sp_length := by
  intro as I J h
  obtain ⟨hS, hB, s, u, rfl⟩ := h
  obtain ⟨m, hm, hs⟩ := SH_now hS
  have fin : ∀ (x : Int64) (J1 : mv_J), rlOk J J1 → x = (if sv I s then lenF (I (scn s) 1).toNatClampNeg (I (scn s) 2).toNatClampNeg (I 400 2) u else -1) → sp_length.2 [.ref 0, .int s, .int u] I J (some (.long x)) I J1 := by
    intro x J1 hJ hx
    exact ⟨rfl, hJ, congrArg (fun q => some (Value.long q)) hx⟩
  refine ⟨rfl, mv_run_V (stop := []) 60 _ _ _ _ _ ?_⟩
  refine ⟨rfl, _, rfl, rfl, rfl, ⟨0, m, by decide, rfl, hm, hs⟩, fun r I1 J1 hp => ?_⟩
  obtain ⟨rfl, rfl, hr⟩ := hp
  rcases at_now hr with ⟨hv, rfl⟩ | ⟨hv, rfl⟩
  · exact fin _ _ (fun _ _ => rfl) (by rw [if_neg hv])
  · obtain ⟨j, hj, -, hjc⟩ := sv_in hS hv
    obtain ⟨⟨a, ha, ea⟩, b, hb1, hb, eb⟩ := hB s.toNatClampNeg (by omega)
    have ca : (I (scn s) 1).toNatClampNeg = a := by rw [ea]; exact nI_clamp (by omega)
    have cb : (I (scn s) 2).toNatClampNeg = b := by rw [eb]; exact nI_clamp (by omega)
    have lay : mv_lay (scn s) = (1, 1, 0) := mv_lay_ch (by omega)
    rw [ca, cb, if_pos hv] at fin
    have ca2 : (nI a).toNatClampNeg = a := nI_clamp (by omega)
    have cb2 : (nI b).toNatClampNeg = b := nI_clamp (by omega)
    refine ⟨lay, fun h2 => ?_, fun h2 => ?_⟩
    · rw [eb] at h2
      have h2 : ¬ 6 < b := fun z => h2 (nI_lt z (by omega))
      refine ⟨rfl, _, rfl, lay, lay, rfl, _, rfl, rfl, rfl, rfl, ⟨a, b, I 400 2, ha, by omega, by rw [← ea, ← eb]⟩, fun r1 I2 J2 hp => ?_⟩
      obtain ⟨rfl, hJ2, hr⟩ := hp
      have hr : if (1 ≤ (I (scn s) 2).toNatClampNeg ∧ (I (scn s) 2).toNatClampNeg ≤ 6) ∧ ¬ clF (I (scn s) 1) (I 400 2) 5 0 = 0 then J2 14 1 = lenA (I (scn s) 1).toNatClampNeg (I (scn s) 2).toNatClampNeg (I 400 2) ∧ J2 14 2 = lenB (I (scn s) 1).toNatClampNeg (I (scn s) 2).toNatClampNeg (I 400 2) ∧ r1 = some (.int (mv_b (0 < lenB (I (scn s) 1).toNatClampNeg (I (scn s) 2).toNatClampNeg (I 400 2)))) else r1 = some (.int 0) := hr
      rw [ca, cb, ea] at hr
      by_cases hcl : clF (nI a) (I 400 2) 5 0 = 0
      · rw [if_neg (fun z => z.2 hcl)] at hr
        subst hr
        refine ⟨fun h4 => absurd rfl h4, fun _ => fin _ _ hJ2 ?_⟩
        unfold lenF
        rw [if_neg h2, if_pos (Or.inl hcl)]
      · rw [if_pos ⟨⟨hb1, by omega⟩, hcl⟩] at hr
        obtain ⟨e1, e2, rfl⟩ := hr
        refine ⟨fun h4 => ?_, fun h4 => ?_⟩
        · have h4 := b_yes h4
          refine ⟨rfl, _, rfl, rfl, rfl, _, rfl, rfl, rfl, trivial, fun r1 I3 J3 hp => ?_⟩
          obtain ⟨hr, rfl, rfl⟩ := hp
          have hr : r1 = some (.long (lowF (J2 14 1) (J2 14 2) u)) := hr
          subst hr
          refine fin _ _ hJ2 ?_
          unfold lenF
          rw [if_neg h2, if_neg (fun z => z.elim hcl (fun z => z h4)), e1, e2]
        · have h4 := mv_b0.mp h4
          refine fin _ _ hJ2 ?_
          unfold lenF
          rw [if_neg h2, if_pos (Or.inr h4)]
    · rw [eb] at h2
      have h2 : 6 < b := (nI_ltI (a := 6) (by decide) (by omega)).mp h2
      refine fin _ _ (fun _ _ => rfl) ?_
      unfold lenF
      rw [if_pos h2]
theorem c_length {l : Launch} {G : mv_G} {A : Nat → Prop} (hG : mv_adk G A) : mv_Con l G A 65 sp_length := mv_con hG 65 mv_k_X6_length (by decide +kernel) (mv_cs_cons (c_at hG) (mv_cs_cons (c_solve hG) (mv_cs_cons (c_lowest hG) (mv_cs_nil)))) cb_length
