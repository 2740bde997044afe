/-! Pivots; statements; simulations. -/
theorem pcN_lt : ∀ m, m ≤ 5 → ∀ b, b < 2 ^ m → ∀ j, j < m → (nI b >>> (nI j &&& 31)) &&& 1 = 0 → pcN b ≤ m - 1 := by decide +kernel
theorem pcN_5 : ∀ b, b < 32 → pcN b ≤ 5 := by decide +kernel
abbrev shP (I : mv_I) (j : Nat) (q : Int32) (m b : Nat) : Prop := (nI b >>> (nI j &&& 31)) &&& 1 = 0 ∧ sumU I 0 (nI b) m < q ∧ ¬ sumU I 0 (nI b) m + I (100 + 3 * j) 8 < q
def shF (I : mv_I) (j : Nat) (q : Int32) (m : Nat) : Nat → Int64
  | 0 => 0
  | k + 1 => if shP I j q m k then shF I j q m k + lN (facN (pcN k)) * lN (facN (m - 1 - pcN k)) else shF I j q m k
def sp_share : mv_SP := (fun as I _ => SH I ∧ ∃ s q u : Int32, as = [.ref 0, .int s, .int q, .int u],
  fun as I J r I' J' => I = I' ∧ J = J' ∧ ∀ s q u : Int32, as = [.ref 0, .int s, .int q, .int u] → r = some (.int (if sv I s then (if 1 ≤ q ∧ q ≤ 99 then (lowF (shF I s.toNatClampNeg q (I 400 1).toNatClampNeg (2 ^ (I 400 1).toNatClampNeg)) (lN (facN (I 400 1).toNatClampNeg)) u).toInt32 else -2) else -1)))
theorem cb_share : mv_body 75 mv_t_X6_share (mv_cs [(25, sp_at), (84, sp_within), (30, sp_sumOfUps), (149, sp_bitCount), (57, sp_factorial), (67, sp_lowest)]) sp_share := by
  intro as I J h
  obtain ⟨hS, s, q, u, rfl⟩ := h
  obtain ⟨m, hm, hs⟩ := SH_now hS
  have hcm : (I 400 1).toNatClampNeg = m := by rw [hs]; exact nI_clamp (by omega)
  refine ⟨rfl, mv_run_V (stop := [47]) 60 _ _ _ _ _ ?_⟩
  refine ⟨rfl, _, rfl, rfl, rfl, ⟨0, m, by decide, rfl, hm, hs⟩, fun r I1 J1 hp => ?_⟩
  obtain ⟨rfl, rfl, hr⟩ := hp
  rcases at_now hr with ⟨hv, rfl⟩ | ⟨hv, rfl⟩
  · exact ⟨rfl, rfl, fun s' q' u' e => by cases e; rw [if_neg hv]⟩
  · obtain ⟨j, hj, hje, hjc⟩ := sv_in hS hv
    have hjm : j < m := by
      have h1 := hv.2
      rw [hs, hje] at h1
      obtain ⟨j', hj', e⟩ := mv_upto (m := m) (by omega) (nI_pos' (by omega)) h1
      have := (nI_eq (by omega) (by omega)).mp e
      omega
    refine ⟨rfl, trivial, fun r I1 J1 hp => ?_⟩
    obtain ⟨rfl, rfl, rfl⟩ := hp
    refine ⟨fun h3 => ?_, fun h3 => ?_⟩
    · have h3 := b_yes h3
      have h2q : 2 ^ m ≤ 32 := Nat.pow_le_pow_right (j := 5) (by decide) hm
      have h2p := two_pow m (by omega)
      have hot : I 400 1 - 1 = nI (m - 1) := by
        rw [hs, show (1 : Int32) = nI 1 from rfl, pk_sub (by omega)]
      have key : ∀ r k : Nat, k + r = 2 ^ m → mv_V mv_ow mv_swf mv_t_X6_share (mv_cs [(25, sp_at), (84, sp_within), (30, sp_sumOfUps), (149, sp_bitCount), (57, sp_factorial), (67, sp_lowest)]) (sp_share.2 [.ref 0, .int s, .int q, .int u] I J) 47 [(0, .ref 0), (1, .int s), (2, .int q), (3, .int u), (4, .ref (scn s)), (5, .int (I 400 1 - 1)), (6, .long (shF I j q m k)), (8, .int (nI k))] [] I J := by
        intro r
        induction r with
        | zero =>
          intro k hk
          have hk : k = 2 ^ m := hk
          subst hk
          refine mv_run_V (stop := [47]) 40 _ _ _ _ _ ?_
          refine ⟨rfl, _, rfl, rfl, fun h1 => ?_, fun h1 => ?_⟩
          · refine ⟨rfl, _, rfl, rfl, rfl, ⟨m, by omega, by rw [hs]; rfl⟩, fun r1 I2 J2 hp => ?_⟩
            obtain ⟨rfl, rfl, hr⟩ := hp
            have hr := hr m (by omega) (by rw [hs]; rfl)
            subst hr
            refine ⟨rfl, trivial, fun r1 I2 J2 hp => ?_⟩
            obtain ⟨rfl, rfl, rfl⟩ := hp
            exact ⟨rfl, rfl, fun s' q' u' e => by cases e; rw [if_pos hv, if_pos h3, hcm, hjc]⟩
          · rw [hs, h2p] at h1
            exact absurd h1 (nI_nlt (Nat.le_refl _) (by omega))
        | succ r ih =>
          intro k hk
          have hck : (nI k).toNatClampNeg = k := nI_clamp (by omega)
          have h6 := ih (k + 1) (by omega)
          rw [nI_succ, shF] at h6
          refine mv_run_V (stop := [47]) 60 _ _ _ _ _ ?_
          refine ⟨rfl, _, rfl, rfl, fun h1 => ?_, fun h1 => ?_⟩
          · rw [hs, h2p] at h1
            exact absurd (nI_lt (by omega) (by omega)) h1
          · refine ⟨rfl, _, rfl, rfl, rfl, ⟨0, m, by decide, rfl, hm, hs⟩, fun r1 I2 J2 hp => ?_⟩
            obtain ⟨rfl, rfl, hr⟩ := hp
            have hr := hr 0 rfl
            rw [hcm] at hr
            subst hr
            refine ⟨fun h7 => ?_, fun h7 => ?_⟩
            · rw [hje] at h7
              rw [if_neg (fun z => h7 z.1)] at h6
              exact mv_keep [0, 1, 2, 3, 4, 5, 6, 8] h6
            · rw [hje] at h7
              refine ⟨fun h8 => ?_, fun h8 => ?_⟩
              · rw [if_neg (fun z => h8 z.2.1)] at h6
                exact mv_keep [0, 1, 2, 3, 4, 5, 6, 8] h6
              · refine ⟨mv_lay_ch (by omega), fun h9 => ?_, fun h9 => ?_⟩
                · have h9 : sumU I 0 (nI k) m + I (100 + 3 * s.toNatClampNeg) 8 < q := h9
                  rw [hjc] at h9
                  rw [if_neg (fun z => z.2.2 h9)] at h6
                  exact mv_keep [0, 1, 2, 3, 4, 5, 6, 8] h6
                · have h9 : ¬ sumU I 0 (nI k) m + I (100 + 3 * s.toNatClampNeg) 8 < q := h9
                  rw [hjc] at h9
                  have hp1 := pcN_lt m hm k (by omega) j hjm h7
                  rw [if_pos ⟨h7, h8, h9⟩] at h6
                  refine ⟨rfl, ⟨k, by omega, rfl⟩, fun r1 I2 J2 hp => ?_⟩
                  obtain ⟨rfl, rfl, hr⟩ := hp
                  have hr : r1 = some (.int (nI (pcN (nI k).toNatClampNeg))) := hr
                  rw [hck] at hr
                  subst hr
                  refine ⟨rfl, ⟨pcN k, by omega, rfl⟩, fun r1 I2 J2 hp => ?_⟩
                  obtain ⟨rfl, rfl, hr⟩ := hp
                  have hr := hr (pcN k) (by omega) rfl
                  subst hr
                  have hsb : I 400 1 - 1 - nI (pcN k) = nI (m - 1 - pcN k) := by rw [hot, pk_sub (by omega)]
                  refine ⟨rfl, ⟨m - 1 - pcN k, by omega, by rw [hsb]; rfl⟩, fun r1 I2 J2 hp => ?_⟩
                  obtain ⟨rfl, rfl, hr⟩ := hp
                  have hr := hr (m - 1 - pcN k) (by omega) (by rw [hsb]; rfl)
                  subst hr
                  exact mv_keep [0, 1, 2, 3, 4, 5, 6, 8] h6
      refine ⟨rfl, _, rfl, rfl, ?_⟩
      exact key (2 ^ m) 0 (Nat.zero_add _)
    · have h3 := mv_b0.mp h3
      exact ⟨rfl, rfl, fun s' q' u' e => by cases e; rw [if_pos hv, if_neg h3]⟩
theorem c_share {l : Launch} {G : mv_G} {A : Nat → Prop} (hG : mv_adk G A) : mv_Con l G A 75 sp_share := mv_con hG 75 mv_k_X6_share (by decide +kernel) (mv_cs_cons (c_at hG) (mv_cs_cons (c_within hG) (mv_cs_cons (c_sumOfUps hG) (mv_cs_cons (c_bitCount hG) (mv_cs_cons (c_factorial hG) (mv_cs_cons (c_lowest hG) (mv_cs_nil))))))) cb_share
