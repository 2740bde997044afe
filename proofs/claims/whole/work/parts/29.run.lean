/-! Run lengths: equations and their elimination. -/
theorem mv_lay_rl {i : Nat} (h : i < 6) : mv_lay (16 + i) = (4, 7, 0) := by
  have : ∀ i, i < 6 → mv_lay (16 + i) = (4, 7, 0) := by decide +kernel
  exact this i h
theorem mv_rf_rl {i : Nat} (h : i < 6) : mv_rf 15 i = some (16 + i) := by
  have : ∀ i, i < 6 → mv_rf 15 i = some (16 + i) := by decide +kernel
  exact this i h
theorem mv_sj_ap {J : mv_J} {k j a b : Nat} {x : Int64} : mv_sj J k j x a b = if a = k ∧ b = j then x else J a b := rfl
/-- whether a step from k on climbs -/
def clF (s w : Int32) : Nat → Nat → Int32
  | 0, _ => 0
  | r + 1, k => if s < nI k - 2 ∧ 0 < chF w k then 1 else clF s w r (k + 1)
def sp_climbs : mv_SP := (fun as _ _ => ∃ s w : Int32, as = [.int s, .int w],
  fun as I J r I' J' => I = I' ∧ J = J' ∧ match as with
    | [.int s, .int w] => r = some (.int (clF s w 5 0))
    | _ => True)
theorem cb_climbs : mv_body 32 mv_t_X3_climbs (mv_cs [(31, sp_chance)]) sp_climbs := by
  intro as I J h
  obtain ⟨s, w, rfl⟩ := h
  have key : ∀ r k : Nat, k + r = 5 → clF s w r k = clF s w 5 0 → mv_V mv_ow mv_swf mv_t_X3_climbs (mv_cs [(31, sp_chance)]) (sp_climbs.2 [.int s, .int w] I J) 2 [(0, .int s), (1, .int w), (2, .int (nI k))] [] I J := by
    intro r
    induction r with
    | zero =>
      intro k hk hf
      have hk : k = 5 := hk
      subst hk
      refine mv_run_V (stop := [2]) 20 _ _ _ _ _ ?_
      refine ⟨fun h1 => ?_, fun h1 => ?_⟩
      · refine ⟨Or.inl rfl, rfl, rfl, ?_⟩
        show some (Value.int 0) = _
        rw [← hf]
        rfl
      · have h1 : nI 5 < nI 5 := h1
        exact absurd h1 (nI_nlt (Nat.le_refl _) (by decide))
    | succ r ih =>
      intro k hk hf
      rw [clF] at hf
      refine mv_run_V (stop := [2]) 20 _ _ _ _ _ ?_
      refine ⟨fun h1 => ?_, fun h1 => ?_⟩
      · have h1 : ¬ nI k < nI 5 := h1
        exact absurd (nI_lt (by omega) (by decide)) h1
      · have nx := ih (k + 1) (by omega)
        rw [nI_succ] at nx
        refine ⟨fun h2 => ?_, fun h2 => ?_⟩
        · rw [if_neg (fun z => h2 z.1)] at hf
          exact nx hf
        · refine ⟨rfl, ⟨w, k, by omega, rfl⟩, fun r1 I2 J2 hp => ?_⟩
          obtain ⟨rfl, rfl, hr⟩ := hp
          have hr := hr w k (by omega) rfl
          subst hr
          refine ⟨fun h4 => ?_, fun h4 => ?_⟩
          · rw [if_neg (fun z => h4 z.2)] at hf
            exact nx hf
          · rw [if_pos ⟨h2, h4⟩] at hf
            refine ⟨Or.inr rfl, rfl, rfl, ?_⟩
            show some (Value.int 1) = _
            rw [← hf]
  refine ⟨rfl, mv_run_V (stop := [2]) 20 _ _ _ _ _ ?_⟩
  exact key 5 0 rfl rfl
theorem c_climbs {l : Launch} {G : mv_G} {A : Nat → Prop} (hG : mv_adk G A) : mv_Con l G A 32 sp_climbs := mv_con hG 32 mv_k_X3_climbs (by decide +kernel) (mv_cs_cons (c_chance hG) (mv_cs_nil)) cb_climbs
/-- the equation of a state, after k steps, the place bd its right side -/
def peF (st s bd : Nat) (w : Int32) : Nat → Nat → Int64
  | 0, j => if j = bd ∨ j = bd - 1 - st then 10 else 0
  | k + 1, j => if st + k - 2 - s < bd ∧ j = bd - 1 - (st + k - 2 - s) then peF st s bd w k j - (chF w k).toInt64 else peF st s bd w k j
theorem mx_sub {a b c : Nat} (ha : a < 1000) (hb : b < 1000) (hc : c < 1000) : mv_mx 0 (nI a - nI b - nI c) = nI (a - b - c) := by
  have e0 : (0 : Int32).toInt = 0 := rfl
  have ea := nI_toInt (n := a) (by omega)
  have eb := nI_toInt (n := b) (by omega)
  have ec := nI_toInt (n := c) (by omega)
  have e1 : (nI a - nI b).toInt = (a : Int) - b := by rw [fb_subI (by omega) (by omega), ea, eb]
  have e2 : (nI a - nI b - nI c).toInt = (a : Int) - b - c := by rw [fb_subI (by omega) (by omega), e1, ec]
  unfold mv_mx
  by_cases h : 0 < nI a - nI b - nI c
  · rw [if_pos h, fa_eq, e2, nI_toInt (by omega)]
    rw [fa_lt, e0, e2] at h
    omega
  · rw [if_neg h, fa_eq, e0, nI_toInt (by omega)]
    rw [fa_lt, e0, e2] at h
    omega
def sp_putEq : mv_SP := (fun as _ _ => ∃ (st s bd : Nat) (w : Int32), st < bd ∧ bd ≤ 6 ∧ s ≤ 9 ∧ as = [.ref 14, .int (nI st), .int (nI s), .int (nI bd), .int w],
  fun as I J r I' J' => r = none ∧ I = I' ∧ match as with
    | [_, .int st, .int s, .int bd, .int w] => (∀ j : Nat, j ≤ bd.toNatClampNeg → J' (16 + (bd.toNatClampNeg - 1 - st.toNatClampNeg)) j = peF st.toNatClampNeg s.toNatClampNeg bd.toNatClampNeg w 5 j) ∧ ∀ a : Nat, a ≠ 16 + (bd.toNatClampNeg - 1 - st.toNatClampNeg) → J' a = J a
    | _ => True)
theorem cb_putEq : mv_body 35 mv_t_X3_putEquation (mv_cs [(150, sp_max), (31, sp_chance)]) sp_putEq := by
  intro as I J h
  obtain ⟨st, s, bd, w, hst, hbd, hs, rfl⟩ := h
  have c1 : (nI st).toNatClampNeg = st := nI_clamp (by omega)
  have c2 : (nI s).toNatClampNeg = s := nI_clamp (by omega)
  have c3 : (nI bd).toNatClampNeg = bd := nI_clamp (by omega)
  have hix : nI bd - 1 - nI st = nI (bd - 1 - st) := by rw [show (1 : Int32) = nI 1 from rfl, pk_sub (by omega), pk_sub (by omega)]
  have hic : (nI (bd - 1 - st)).toNatClampNeg = bd - 1 - st := nI_clamp (by omega)
  have lay : mv_lay (16 + (bd - 1 - st)) = (4, 7, 0) := mv_lay_rl (by omega)
  have k54 : ∀ r k : Nat, k + r = 5 → ∀ J1 : mv_J, (∀ j : Nat, j ≤ bd → J1 (16 + (bd - 1 - st)) j = peF st s bd w k j) → (∀ a : Nat, a ≠ 16 + (bd - 1 - st) → J1 a = J a) → mv_V mv_ow mv_swf mv_t_X3_putEquation (mv_cs [(150, sp_max), (31, sp_chance)]) (sp_putEq.2 [.ref 14, .int (nI st), .int (nI s), .int (nI bd), .int w] I J) 54 [(0, .ref 14), (1, .int (nI st)), (2, .int (nI s)), (3, .int (nI bd)), (4, .int w), (5, .ref (16 + (bd - 1 - st))), (6, .int (nI k))] [] I J1 := by
    intro r
    induction r with
    | zero =>
      intro k hk J1 h1 h2
      have hk : k = 5 := hk
      subst hk
      refine mv_run_V (stop := [54]) 40 _ _ _ _ _ ?_
      refine ⟨fun h3 => ?_, fun h3 => ?_⟩
      · refine ⟨rfl, rfl, ?_⟩
        show (∀ j : Nat, j ≤ (nI bd).toNatClampNeg → _) ∧ ∀ a : Nat, a ≠ _ → _
        rw [c1, c2, c3]
        exact ⟨h1, h2⟩
      · have h3 : nI 5 < nI 5 := h3
        exact absurd h3 (nI_nlt (Nat.le_refl _) (by decide))
    | succ r ih =>
      intro k hk J1 h1 h2
      have hth : mv_mx 0 (nI st + nI k - 2 - nI s) = nI (st + k - 2 - s) := by
        rw [nI_add]
        exact mx_sub (b := 2) (by omega) (by decide) (by omega)
      refine mv_run_V (stop := [54]) 40 _ _ _ _ _ ?_
      refine ⟨fun h3 => ?_, fun h3 => ?_⟩
      · have h3 : ¬ nI k < nI 5 := h3
        exact absurd (nI_lt (by omega) (by decide)) h3
      · refine ⟨rfl, trivial, fun r1 I2 J2 hp => ?_⟩
        obtain ⟨rfl, rfl, rfl⟩ := hp
        rw [hth]
        refine ⟨fun h4 => ?_, fun h4 => ?_⟩
        · have h4 : ¬ st + k - 2 - s < bd := fun z => h4 (nI_lt z (by omega))
          have h5 := ih (k + 1) (by omega) J1 (fun j hj => by rw [h1 j hj, peF, if_neg (fun z => h4 z.1)]) h2
          rw [nI_succ] at h5
          exact mv_keep [0, 1, 2, 3, 4, 5, 6] h5
        · have h4 : st + k - 2 - s < bd := (nI_ltI (by omega) (by omega)).mp h4
          have hix2 : nI bd - 1 - nI (st + k - 2 - s) = nI (bd - 1 - (st + k - 2 - s)) := by rw [show (1 : Int32) = nI 1 from rfl, pk_sub (by omega), pk_sub (by omega)]
          have hic2 : (nI (bd - 1 - (st + k - 2 - s))).toNatClampNeg = bd - 1 - (st + k - 2 - s) := nI_clamp (by omega)
          refine ⟨_, lay, (by rw [hix2]; exact vp_in_nI (by omega) (by decide)), rfl, ⟨w, k, by omega, rfl⟩, fun r1 I2 J2 hp => ?_⟩
          obtain ⟨rfl, rfl, hr⟩ := hp
          have hr := hr w k (by omega) rfl
          subst hr
          rw [hix2, hic2]
          refine ⟨_, lay, (vp_in_nI (by omega) (by decide)), ?_⟩
          rw [hic2]
          have h5 := ih (k + 1) (by omega) (mv_sj J1 (16 + (bd - 1 - st)) (bd - 1 - (st + k - 2 - s)) (J1 (16 + (bd - 1 - st)) (bd - 1 - (st + k - 2 - s)) - (chF w k).toInt64)) (fun j hj => by
            rw [mv_sj_ap, peF]
            by_cases hjj : j = bd - 1 - (st + k - 2 - s)
            · rw [if_pos ⟨rfl, hjj⟩, if_pos ⟨h4, hjj⟩, ← hjj, h1 j hj]
            · rw [if_neg (fun z => hjj z.2), if_neg (fun z => hjj z.2), h1 j hj]) (fun a ha => (mv_sj_ne ha).trans (h2 a ha))
          rw [nI_succ] at h5
          exact mv_keep [0, 1, 2, 3, 4, 5, 6] h5
  have k15 : ∀ r k : Nat, k + r = bd → ∀ J1 : mv_J, (∀ j : Nat, j < k → J1 (16 + (bd - 1 - st)) j = 0) → (∀ a : Nat, a ≠ 16 + (bd - 1 - st) → J1 a = J a) → mv_V mv_ow mv_swf mv_t_X3_putEquation (mv_cs [(150, sp_max), (31, sp_chance)]) (sp_putEq.2 [.ref 14, .int (nI st), .int (nI s), .int (nI bd), .int w] I J) 15 [(0, .ref 14), (1, .int (nI st)), (2, .int (nI s)), (3, .int (nI bd)), (4, .int w), (5, .ref (16 + (bd - 1 - st))), (6, .int (nI k))] [] I J1 := by
    intro r
    induction r with
    | zero =>
      intro k hk J1 h1 h2
      have hk : k = bd := hk
      subst hk
      refine mv_run_V (stop := [15, 54]) 40 _ _ _ _ _ ?_
      refine ⟨fun h3 => ?_, fun h3 => ?_⟩
      · refine ⟨_, lay, (by rw [hix]; exact vp_in_nI (by omega) (by decide)), ?_⟩
        rw [hix, hic]
        refine ⟨_, lay, vp_in_nI (by omega) (by decide), ?_⟩
        rw [c3]
        refine k54 5 0 rfl _ (fun j hj => ?_) (fun a ha => (mv_sj_ne ha).trans ((mv_sj_ne ha).trans (h2 a ha)))
        rw [mv_sj_ap, mv_sj_ap, peF]
        by_cases hj1 : j = k
        · rw [if_pos ⟨rfl, hj1⟩, if_pos (Or.inl hj1)]
        · rw [if_neg (fun z => hj1 z.2)]
          by_cases hj2 : j = k - 1 - st
          · rw [if_pos ⟨rfl, hj2⟩, if_pos (Or.inr hj2)]
          · rw [if_neg (fun z => hj2 z.2), if_neg (fun z => z.elim hj1 hj2), h1 j (by omega)]
      · exact absurd h3 (nI_nlt (Nat.le_refl _) (by omega))
    | succ r ih =>
      intro k hk J1 h1 h2
      have hck : (nI k).toNatClampNeg = k := nI_clamp (by omega)
      refine mv_run_V (stop := [15, 54]) 40 _ _ _ _ _ ?_
      refine ⟨fun h3 => ?_, fun h3 => ?_⟩
      · exact absurd (nI_lt (by omega) (by omega)) h3
      · refine ⟨_, lay, vp_in_nI (by omega) (by decide), ?_⟩
        rw [hck]
        have h5 := ih (k + 1) (by omega) (mv_sj J1 (16 + (bd - 1 - st)) k 0) (fun j hj => by
          rw [mv_sj_ap]
          by_cases hjk : j = k
          · rw [if_pos ⟨rfl, hjk⟩]
          · rw [if_neg (fun z => hjk z.2), h1 j (by omega)]) (fun a ha => (mv_sj_ne ha).trans (h2 a ha))
        rw [nI_succ] at h5
        exact h5
  refine ⟨rfl, mv_run_V (stop := [15]) 40 _ _ _ _ _ ?_⟩
  refine ⟨rfl, _, rfl, _, rfl, (by rw [hix]; exact vp_in_nI (by omega) (by decide)), _, (by rw [hix, hic]; exact mv_rf_rl (by omega)), ?_⟩
  exact k15 bd 0 (Nat.zero_add bd) J (fun j hj => absurd hj (Nat.not_lt_zero j)) (fun _ _ => rfl)
theorem c_putEq {l : Launch} {G : mv_G} {A : Nat → Prop} (hG : mv_adk G A) : mv_Con l G A 35 sp_putEq := mv_con hG 35 mv_k_X3_putEquation (by decide +kernel) (mv_cs_max (mv_cs_cons (c_chance hG) (mv_cs_nil))) cb_putEq
