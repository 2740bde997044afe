/-! The reference: share, lost. -/
theorem onF_5 : ∀ b, b < 32 → onF (nI b) 8 = nI (pcN b) := by decide +kernel
def pcS (b : Nat) : Nat := pcN b + b / 32 % 2
theorem onF_6 : ∀ b, b < 64 → onF (nI b) 8 = nI (pcS b) := by decide +kernel
theorem pcS_le : ∀ n, n ≤ 6 → ∀ b, b < 2 ^ n → pcS b ≤ n := by decide +kernel
theorem pcN_lt2 : ∀ m, m ≤ 5 → ∀ b, b < 2 ^ m → ∀ j, j < m → ¬ (nI b >>> (nI j &&& 31)) &&& 1 = 1 → pcN b ≤ m - 1 := by decide +kernel
theorem facN_5 : ∀ n, n ≤ 5 → 0 < facN n ∧ facN n ≤ 120 := by decide +kernel
theorem two_5 : ∀ n, n ≤ 5 → 2 ^ n ≤ 32 := by decide +kernel
theorem two_6 : ∀ n, n ≤ 6 → 2 ^ n ≤ 64 := by decide +kernel
def msU (I : mv_I) (set : Int32) : Nat → Int32
  | 0 => 0
  | k + 1 => msU I set k + (if (set >>> (nI k &&& 31)) &&& 1 = 1 then I 39 (24 * k + 5) else 0)
abbrev mshP (I : mv_I) (j : Nat) (q : Int32) (m b : Nat) : Prop := ¬ (nI b >>> (nI j &&& 31)) &&& 1 = 1 ∧ msU I (nI b) m < q ∧ ¬ msU I (nI b) m + I 39 (24 * j + 5) < q
def mshN (I : mv_I) (j : Nat) (q : Int32) (m : Nat) : Nat → Nat
  | 0 => 0
  | b + 1 => mshN I j q m b + (if mshP I j q m b then facN (pcN b) * facN (m - 1 - pcN b) else 0)
theorem mshN_le {I : mv_I} {j m : Nat} {q : Int32} (hm : m ≤ 5) (hj : j < m) : ∀ b, b ≤ 2 ^ m → mshN I j q m b ≤ b * 14400
  | 0, _ => Nat.zero_le _
  | b + 1, hb => by
    have h := mshN_le (I := I) (q := q) hm hj b (by omega)
    rw [mshN]
    split
    · rename_i hp
      have hpc := pcN_lt2 m hm b (by omega) j hj hp.1
      have f1 := (facN_5 (pcN b) (by omega)).2
      have f2 := (facN_5 (m - 1 - pcN b) (by omega)).2
      have : facN (pcN b) * facN (m - 1 - pcN b) ≤ 120 * 120 := Nat.mul_le_mul f1 f2
      omega
    · exact Nat.le_trans h (Nat.mul_le_mul_right _ (Nat.le_succ b))
def sp_mShare : mv_SP := (fun as I _ => MH 9000 I ∧ ∃ s q u : Int32, as = [.ref 30, .int s, .int q, .int u],
  fun as I J r I' J' => J = J' ∧ I' = th I ∧ ∀ s q u : Int32, as = [.ref 30, .int s, .int q, .int u] → r = some (.int (if msv (th I) s then (if 1 ≤ q ∧ q ≤ 99 then nI ((if u = 0 then facN (th I 30 4).toNatClampNeg else mshN (th I) s.toNatClampNeg q (th I 30 4).toNatClampNeg (2 ^ (th I 30 4).toNatClampNeg)) / Nat.gcd (mshN (th I) s.toNatClampNeg q (th I 30 4).toNatClampNeg (2 ^ (th I 30 4).toNatClampNeg)) (facN (th I 30 4).toNatClampNeg)) else -2) else -1)))
theorem share_139 {I : mv_I} {J : mv_J} {s b m S : Nat} {q u sum : Int32} {K : mv_K} {t : Int32} (hm : m ≤ 5) (h4 : I 30 4 = nI m) (hb : b < 32) (hm0 : 0 < m) (ht : ¬ t = 0 → pcN b ≤ m - 1)
    (hK : mv_V mv_ow mv_swf mv_t_X7_share (mv_cs [(123, sp_noSeries), (109, sp_in), (108, sp_has), (125, sp_ones), (102, sp_mFactorial), (106, sp_fraction)]) K 36 [(0, .ref 30), (1, .int (nI s)), (2, .int q), (3, .int u), (4, .int (nI (S + (if t = 0 then 0 else facN (pcN b) * facN (m - 1 - pcN b))))), (5, .int (nI b + 1))] [] I J) : mv_V mv_ow mv_swf mv_t_X7_share (mv_cs [(123, sp_noSeries), (109, sp_in), (108, sp_has), (125, sp_ones), (102, sp_mFactorial), (106, sp_fraction)]) K 139 [(0, .ref 30), (1, .int (nI s)), (2, .int q), (3, .int u), (4, .int (nI S)), (5, .int (nI b)), (6, .int sum), (7, .int t)] [] I J := by
  have hp5 : pcN b ≤ 5 := pcN_5 b hb
  have cp : (nI (pcN b)).toNatClampNeg = pcN b := nI_clamp (by omega)
  rw [← nI_add] at hK
  refine mv_run_V (stop := [36]) 80 _ _ _ _ _ ?_
  refine ⟨fun h1 => ?_, fun h1 => ?_⟩
  · rw [if_pos h1] at hK
    exact mv_keep [0, 1, 2, 3, 4, 5] hK
  · have hpc := ht h1
    have cq : (nI (m - 1 - pcN b)).toNatClampNeg = m - 1 - pcN b := nI_clamp (by omega)
    have em : nI m - 1 - nI (pcN b) = nI (m - 1 - pcN b) := by
      rw [show (1 : Int32) = nI 1 from rfl, pk_sub (by omega), pk_sub (by omega)]
    rw [if_neg h1] at hK
    refine ⟨rfl, ⟨_, rfl⟩, fun r1 I1 J1 hp => ?_⟩
    obtain ⟨rfl, rfl, hq⟩ := hp
    have hq : r1 = some (.int (onF (nI b) 8)) := hq
    rw [onF_5 b hb] at hq
    subst hq
    refine ⟨rfl, ⟨pcN b, by omega, rfl⟩, fun r1 I1 J1 hp => ?_⟩
    obtain ⟨rfl, rfl, hq⟩ := hp
    have hq : r1 = some (.int (nI (facN (nI (pcN b)).toNatClampNeg))) := hq
    rw [cp] at hq
    subst hq
    refine ⟨rfl, rfl, ⟨_, rfl⟩, fun r1 I1 J1 hp => ?_⟩
    obtain ⟨rfl, rfl, hq⟩ := hp
    have hq : r1 = some (.int (onF (nI b) 8)) := hq
    rw [onF_5 b hb] at hq
    subst hq
    have em2 : I 30 4 - 1 - nI (pcN b) = nI (m - 1 - pcN b) := by rw [h4, em]
    refine ⟨rfl, ⟨m - 1 - pcN b, by omega, congrArg (fun z => [Value.int z]) em2⟩, fun r1 I1 J1 hp => ?_⟩
    obtain ⟨rfl, rfl, hq⟩ := hp
    have hq : r1 = some (.int (nI (facN (I 30 4 - 1 - nI (pcN b)).toNatClampNeg))) := hq
    rw [em2, cq] at hq
    subst hq
    have emul : nI (facN (pcN b) * facN (m - 1 - pcN b)) = nI (facN (pcN b)) * nI (facN (m - 1 - pcN b)) := Int32.ofNat_mul _ _
    rw [emul] at hK
    exact mv_keep [0, 1, 2, 3, 4, 5] hK
theorem share_53 {I : mv_I} {J : mv_J} {s b m S : Nat} {q u : Int32} {K : mv_K} (hm : m ≤ 5) (hs : s < m) (h4 : I 30 4 = nI m) (hb : b < 2 ^ m)
    (hK : mv_V mv_ow mv_swf mv_t_X7_share (mv_cs [(123, sp_noSeries), (109, sp_in), (108, sp_has), (125, sp_ones), (102, sp_mFactorial), (106, sp_fraction)]) K 36 [(0, .ref 30), (1, .int (nI s)), (2, .int q), (3, .int u), (4, .int (nI (S + (if mshP I s q m b then facN (pcN b) * facN (m - 1 - pcN b) else 0)))), (5, .int (nI b + 1))] [] I J) : ∀ p k : Nat, k + p = m → mv_V mv_ow mv_swf mv_t_X7_share (mv_cs [(123, sp_noSeries), (109, sp_in), (108, sp_has), (125, sp_ones), (102, sp_mFactorial), (106, sp_fraction)]) K 53 [(0, .ref 30), (1, .int (nI s)), (2, .int q), (3, .int u), (4, .int (nI S)), (5, .int (nI b)), (6, .int (msU I (nI b) k)), (7, .int (nI k))] [] I J := by
  have hb5 := two_5 m hm
  intro p
  induction p with
  | zero =>
    intro k hk
    have hk : k = m := hk
    subst hk
    have c5 : (nI 24 * nI s + 5).toNatClampNeg = 24 * s + 5 := by rw [e24]; exact ix (k := 5)
    have k0 : ∀ t : Int32, t = 0 → ¬ mshP I s q k b → mv_V mv_ow mv_swf mv_t_X7_share (mv_cs [(123, sp_noSeries), (109, sp_in), (108, sp_has), (125, sp_ones), (102, sp_mFactorial), (106, sp_fraction)]) K 139 [(0, .ref 30), (1, .int (nI s)), (2, .int q), (3, .int u), (4, .int (nI S)), (5, .int (nI b)), (6, .int (msU I (nI b) k)), (7, .int t)] [] I J := by
      intro t ht hn
      refine share_139 hm h4 (by omega) (by omega) (fun z => absurd ht z) ?_
      rw [if_neg hn] at hK
      rw [if_pos ht]
      exact hK
    refine mv_run_V (stop := [53, 139]) 60 _ _ _ _ _ ?_
    refine ⟨rfl, fun h1 => ?_, fun h1 => ?_⟩
    · refine ⟨rfl, ⟨_, _, rfl⟩, fun r1 I1 J1 hp => ?_⟩
      obtain ⟨rfl, rfl, hq⟩ := hp
      have hq : r1 = some (.int (mv_b ((nI b >>> (nI s &&& 31)) &&& 1 = 1))) := hq
      subst hq
      refine ⟨fun h2 => ?_, fun h2 => ?_⟩
      · exact k0 0 rfl (fun z => z.1 (b_yes h2))
      · have h2 := mv_b0.mp h2
        refine ⟨fun h3 => ?_, fun h3 => ?_⟩
        · exact k0 0 rfl (fun z => h3 z.2.1)
        · refine ⟨rfl, _, rfl, _, rfl, (by show vp_in (nI 24 * nI s + nI 5) 121; rw [e24]; exact ixin (by omega)), fun h5 => ?_, fun h5 => ?_⟩
          · have h5 : msU I (nI b) k + I 39 (nI 24 * nI s + 5).toNatClampNeg < q := h5
            rw [c5] at h5
            exact k0 0 rfl (fun z => z.2.2 h5)
          · have h5 : ¬ msU I (nI b) k + I 39 (nI 24 * nI s + 5).toNatClampNeg < q := h5
            rw [c5] at h5
            refine share_139 (t := 1) hm h4 (by omega) (by omega) (fun _ => pcN_lt2 k hm b hb s hs h2) ?_
            rw [if_pos ⟨h2, h3, h5⟩] at hK
            rw [if_neg (by decide)]
            exact hK
    · rw [h4] at h1
      exact absurd h1 (nI_nlt (Nat.le_refl _) (by omega))
  | succ p ih =>
    intro k hk
    have c5 : (nI 24 * nI k + 5).toNatClampNeg = 24 * k + 5 := by rw [e24]; exact ix (k := 5)
    have hx := ih (k + 1) (by omega)
    rw [msU, nI_succ k] at hx
    refine mv_run_V (stop := [53, 139]) 60 _ _ _ _ _ ?_
    refine ⟨rfl, fun h1 => ?_, fun h1 => ?_⟩
    · rw [h4] at h1
      exact absurd (nI_lt (by omega) (by omega)) h1
    · refine ⟨rfl, ⟨_, _, rfl⟩, fun r1 I1 J1 hp => ?_⟩
      obtain ⟨rfl, rfl, hq⟩ := hp
      have hq : r1 = some (.int (mv_b ((nI b >>> (nI k &&& 31)) &&& 1 = 1))) := hq
      subst hq
      refine ⟨fun h2 => ?_, fun h2 => ?_⟩
      · rw [if_neg (mv_b0.mp h2)] at hx
        exact hx
      · rw [if_pos (b_yes h2), ← c5] at hx
        exact ⟨rfl, _, rfl, _, rfl, (by show vp_in (nI 24 * nI k + nI 5) 121; rw [e24]; exact ixin (by omega)), hx⟩
theorem cb_mShare : mv_body 138 mv_t_X7_share (mv_cs [(123, sp_noSeries), (109, sp_in), (108, sp_has), (125, sp_ones), (102, sp_mFactorial), (106, sp_fraction)]) sp_mShare := by
  intro as I J h
  obtain ⟨hM, s, q, u, rfl⟩ := h
  have hM := MH_th hM
  obtain ⟨⟨m, hm, h4, -⟩, -⟩ := hM
  have cm : (th I 30 4).toNatClampNeg = m := by rw [h4]; exact nI_clamp (by omega)
  have hb5 := two_5 m hm
  have key36 : ∀ j : Nat, j < m → s = nI j → 1 ≤ q ∧ q ≤ 99 → ∀ p b : Nat, b + p = 2 ^ m → mv_V mv_ow mv_swf mv_t_X7_share (mv_cs [(123, sp_noSeries), (109, sp_in), (108, sp_has), (125, sp_ones), (102, sp_mFactorial), (106, sp_fraction)]) (sp_mShare.2 [.ref 30, .int s, .int q, .int u] I J) 36 [(0, .ref 30), (1, .int (nI j)), (2, .int q), (3, .int u), (4, .int (nI (mshN (th I) j q m b))), (5, .int (nI b))] [] (th I) J := by
    intro j hj hsj h3 p
    have cj : (nI j).toNatClampNeg = j := nI_clamp (by omega)
    have h1 : msv (th I) s := by
      rw [hsj]
      show 0 ≤ nI j ∧ nI j ≤ th I 30 4 - 1
      rw [h4]
      exact mv_upto2 (by omega) hj
    induction p with
    | zero =>
      intro b hb
      have hb : b = 2 ^ m := hb
      have hle := mshN_le (I := th I) (q := q) hm hj (2 ^ m) (Nat.le_refl _)
      have hf := facN_5 m hm
      refine mv_run_V (stop := [36, 53]) 40 _ _ _ _ _ ?_
      refine ⟨rfl, fun h2 => ?_, fun h2 => ?_⟩
      · refine ⟨rfl, rfl, ⟨m, by omega, congrArg (fun z => [Value.int z]) h4⟩, fun r1 I1 J1 hp => ?_⟩
        obtain ⟨rfl, rfl, hz⟩ := hp
        have hz : r1 = some (.int (nI (facN (th I 30 4).toNatClampNeg))) := hz
        rw [cm] at hz
        subst hz
        refine ⟨rfl, ⟨mshN (th I) j q m b, facN m, u, by rw [hb]; omega, by omega, hf.1, rfl⟩, fun r1 I1 J1 hp => ?_⟩
        obtain ⟨rfl, rfl, hz⟩ := hp
        have hz := hz (mshN (th I) j q m b) (facN m) u (by rw [hb]; omega) (by omega) hf.1 rfl
        subst hz
        refine ⟨rfl, rfl, fun s' q' u' e => ?_⟩
        cases e
        rw [if_pos h1, if_pos h3, cm, hsj, cj, ← hb]
      · have h2 : nI b < 1 <<< (th I 30 4 &&& 31) := h2
        rw [h4, two_pow m (by omega), hb] at h2
        exact absurd h2 (nI_nlt (Nat.le_refl _) (by omega))
    | succ p ih =>
      intro b hb
      have hx := ih (b + 1) (by omega)
      rw [mshN, nI_succ b] at hx
      refine mv_run_V (stop := [36, 53]) 40 _ _ _ _ _ ?_
      refine ⟨rfl, fun h2 => ?_, fun h2 => ?_⟩
      · have h2 : ¬ nI b < 1 <<< (th I 30 4 &&& 31) := h2
        rw [h4, two_pow m (by omega)] at h2
        exact absurd (nI_lt (by omega) (by omega)) h2
      · exact share_53 hm hj h4 (by omega) hx m 0 (Nat.zero_add m)
  have key : mv_V mv_ow mv_swf mv_t_X7_share (mv_cs [(123, sp_noSeries), (109, sp_in), (108, sp_has), (125, sp_ones), (102, sp_mFactorial), (106, sp_fraction)]) (sp_mShare.2 [.ref 30, .int s, .int q, .int u] I J) 5 [(0, .ref 30), (1, .int s), (2, .int q), (3, .int u)] [] (th I) J := by
    refine mv_run_V (stop := [36]) 60 _ _ _ _ _ ?_
    refine ⟨rfl, rfl, ⟨_, rfl⟩, fun r1 I1 J1 hp => ?_⟩
    obtain ⟨rfl, rfl, hqz⟩ := hp
    have hqy : r1 = some (.int (mv_b (¬ msv (th I) s))) := hqz
    clear hqz
    subst hqy
    refine ⟨fun h1 => ?_, fun h1 => ?_⟩
    · have h1 : msv (th I) s := Decidable.not_not.mp (mv_b0.mp h1)
      obtain ⟨j, hj, rfl⟩ := mv_upto (m := m) (by omega) h1.1 (by rw [← h4]; exact h1.2)
      refine ⟨rfl, ⟨_, _, _, rfl⟩, fun r1 I1 J1 hp => ?_⟩
      obtain ⟨rfl, rfl, hqz⟩ := hp
      have hqy : r1 = some (.int (mv_b ((1 : Int64) ≤ (q : Int32).toInt64 ∧ (q : Int32).toInt64 ≤ (99 : Int64)))) := hqz
      clear hqz
      rw [mv_bc (in_w (lo := 1) (hi := 99))] at hqy
      subst hqy
      refine ⟨fun h3 => ?_, fun h3 => ?_⟩
      · exact key36 j hj rfl (b_yes h3) (2 ^ m) 0 (Nat.zero_add _)
      · have h3 := mv_b0.mp h3
        refine ⟨rfl, rfl, fun s' q' u' e => ?_⟩
        cases e
        rw [if_pos h1, if_neg h3]
    · have h1 : ¬ msv (th I) s := b_yes h1
      refine ⟨rfl, rfl, fun s' q' u' e => ?_⟩
      cases e
      rw [if_neg h1]
  refine ⟨rfl, mv_run_V (stop := [5]) 40 _ _ _ _ _ ?_⟩
  exact ⟨rfl, key⟩
theorem c_mShare {l : Launch} {G : mv_G} {A : Nat → Prop} (hG : mv_adk G A) : mv_Con l G A 138 sp_mShare := mv_con hG 138 mv_k_X7_share (by decide +kernel) (mv_cs_cons (c_noSeries hG) (mv_cs_cons (c_in hG) (mv_cs_cons (c_has hG) (mv_cs_cons (c_ones hG) (mv_cs_cons (c_mFactorial hG) (mv_cs_cons (c_fraction hG) (mv_cs_nil))))))) cb_mShare
