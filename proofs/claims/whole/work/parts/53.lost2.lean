/-! The reference: lost. -/
/-- the trial behind t days, of which g tells the missing ones -/
def mlT (s : Nat) (v g : Int32) : Nat → mv_I → mv_I
  | 0, T => T
  | t + 1, T => if (g >>> (nI t &&& 31)) &&& 1 = 1 then mcm (mlT s v g t T) 40 (24 * s) (-9) else mct (mlT s v g t T) 40 (24 * s) s v
def mlR (s : Nat) (v g : Int32) (T : mv_I) : Nat → Int32
  | 0 => 0
  | t + 1 => if (g >>> (nI t &&& 31)) &&& 1 = 1 then mlR s v g T t else if 0 < mkK (mlT s v g t T) 40 (24 * s) s v then 1 else if mlR s v g T t = 0 then 0 else 1
theorem MB_mlT {N s : Nat} {T : mv_I} {v g : Int32} (h : MB N T 40 (24 * s) s) : ∀ t, MB (N + t) (mlT s v g t T) 40 (24 * s) s
  | 0 => h
  | t + 1 => by
    rw [mlT]
    split
    · exact MB_mcm (by decide) (MB_mlT h t)
    · exact MB_mct (by decide) (MB_mlT h t)
theorem TF_mlT {N s : Nat} {I T : mv_I} {v g : Int32} (hs : s < 5) (h : MB N T 40 (24 * s) s) (hT : TF I T) : ∀ t, TF I (mlT s v g t T)
  | 0 => hT
  | t + 1 => by
    rw [mlT]
    split
    · exact TF_mcm hs (MB_mlT h t) (TF_mlT hs h hT t)
    · exact TF_mct hs (MB_mlT h t) (TF_mlT hs h hT t)
def mloN (T : mv_I) (s : Nat) (v : Int32) (n X : Nat) : Nat → Nat
  | 0 => 0
  | b + 1 => mloN T s v n X b + (if mlR s v (nI b) T n = 0 then 0 else X ^ pcS b * (10 - X) ^ (n - pcS b))
theorem pw_le {X n k : Nat} (hX : X ≤ 10) (hk : k ≤ n) : X ^ k * (10 - X) ^ (n - k) ≤ 10 ^ n := by
  have h1 : X ^ k ≤ 10 ^ k := Nat.pow_le_pow_left hX k
  have h2 : (10 - X) ^ (n - k) ≤ 10 ^ (n - k) := Nat.pow_le_pow_left (by omega) _
  have h3 := Nat.mul_le_mul h1 h2
  rw [← Nat.pow_add, show k + (n - k) = n by omega] at h3
  exact h3
theorem ten_6 : ∀ n, n ≤ 6 → 0 < 10 ^ n ∧ 10 ^ n ≤ 1000000 := by decide +kernel
theorem mloN_le {T : mv_I} {s n X : Nat} {v : Int32} (hn : n ≤ 6) (hX : X ≤ 10) : ∀ b, b ≤ 2 ^ n → mloN T s v n X b ≤ b * 1000000
  | 0, _ => Nat.zero_le _
  | b + 1, hb => by
    have h := mloN_le (T := T) (s := s) (v := v) hn hX b (by omega)
    rw [mloN]
    split
    · exact Nat.le_trans h (Nat.mul_le_mul_right _ (Nat.le_succ b))
    · have h1 := pw_le (n := n) hX (pcS_le n hn b (by omega))
      have h2 := (ten_6 n hn).2
      omega
theorem pwF_nat (X : Nat) : ∀ k, pwF (nI X) k = nI (X ^ k)
  | 0 => rfl
  | k + 1 => by
    rw [pwF, pwF_nat X k, Nat.pow_succ]
    exact (Int32.ofNat_mul _ _).symm
def sp_mLost : mv_SP := (fun as I _ => MH 9000 I ∧ ∃ s v n x u : Int32, as = [.ref 30, .int s, .int v, .int n, .int x, .int u],
  fun as I J r I' J' => J = J' ∧ TF (th I) I' ∧ ∀ s v n x u : Int32, as = [.ref 30, .int s, .int v, .int n, .int x, .int u] → r = some (.int (if msv (th I) s then (if (0 ≤ v ∧ v ≤ 99) ∧ (1 ≤ n ∧ n ≤ 6) ∧ (0 ≤ x ∧ x ≤ 10) then nI ((if u = 0 then 10 ^ n.toNatClampNeg else mloN (mlt (th I)) s.toNatClampNeg v n.toNatClampNeg x.toNatClampNeg (2 ^ n.toNatClampNeg)) / Nat.gcd (mloN (mlt (th I)) s.toNatClampNeg v n.toNatClampNeg x.toNatClampNeg (2 ^ n.toNatClampNeg)) (10 ^ n.toNatClampNeg)) else -2) else -1)))
theorem lost_no {I : mv_I} {J : mv_J} {s v n x u : Int32} (h1 : msv (th I) s) (h : ¬ ((0 ≤ v ∧ v ≤ 99) ∧ (1 ≤ n ∧ n ≤ 6) ∧ (0 ≤ x ∧ x ≤ 10))) : sp_mLost.2 [.ref 30, .int s, .int v, .int n, .int x, .int u] I J (some (.int (-2))) (th I) J := by
  refine ⟨rfl, TF_rfl, fun s' v' n' x' u' e => ?_⟩
  cases e
  rw [if_pos h1, if_neg h]
theorem lost_139 {I1 : mv_I} {J : mv_J} {s n X b S : Nat} {v u R x9 : Int32} {K : mv_K} (hn : n ≤ 6) (hX : X ≤ 10) (hb : b < 2 ^ n)
    (hK : mv_V mv_ow mv_swf mv_t_X7_lost (mv_cs [(123, sp_noSeries), (109, sp_in), (115, sp_layTrial), (108, sp_has), (96, sp_comes), (98, sp_countOn), (125, sp_ones), (128, sp_power), (106, sp_fraction)]) K 61 [(0, .ref 30), (1, .int (nI s)), (2, .int v), (3, .int (nI n)), (4, .int (nI X)), (5, .int u), (6, .int (nI (S + (if R = 0 then 0 else X ^ pcS b * (10 - X) ^ (n - pcS b))))), (7, .int (nI b + 1))] [] I1 J) : mv_V mv_ow mv_swf mv_t_X7_lost (mv_cs [(123, sp_noSeries), (109, sp_in), (115, sp_layTrial), (108, sp_has), (96, sp_comes), (98, sp_countOn), (125, sp_ones), (128, sp_power), (106, sp_fraction)]) K 139 [(0, .ref 30), (1, .int (nI s)), (2, .int v), (3, .int (nI n)), (4, .int (nI X)), (5, .int u), (6, .int (nI S)), (7, .int (nI b)), (8, .int R), (9, .int x9)] [] I1 J := by
  have h64 := two_6 n hn
  have hpc := pcS_le n hn b hb
  have cp : (nI (pcS b)).toNatClampNeg = pcS b := nI_clamp (by omega)
  have cq : (nI (n - pcS b)).toNatClampNeg = n - pcS b := nI_clamp (by omega)
  rw [← nI_add] at hK
  refine mv_run_V (stop := [61]) 80 _ _ _ _ _ ?_
  refine ⟨fun h1 => ?_, fun h1 => ?_⟩
  · rw [if_pos h1] at hK
    exact mv_keep [0, 1, 2, 3, 4, 5, 6, 7] hK
  · rw [if_neg h1] at hK
    refine ⟨rfl, ⟨_, rfl⟩, fun r1 I1 J1 hp => ?_⟩
    obtain ⟨rfl, rfl, hq⟩ := hp
    have hq : r1 = some (.int (onF (nI b) 8)) := hq
    rw [onF_6 b (by omega)] at hq
    subst hq
    refine ⟨rfl, ⟨nI X, pcS b, by omega, rfl⟩, fun r1 I1 J1 hp => ?_⟩
    obtain ⟨rfl, rfl, hq⟩ := hp
    have hq : r1 = some (.int (pwF (nI X) (nI (pcS b)).toNatClampNeg)) := hq
    rw [cp, pwF_nat] at hq
    subst hq
    refine ⟨rfl, ⟨_, rfl⟩, fun r1 I1 J1 hp => ?_⟩
    obtain ⟨rfl, rfl, hq⟩ := hp
    have hq : r1 = some (.int (onF (nI b) 8)) := hq
    rw [onF_6 b (by omega)] at hq
    subst hq
    have e10 : (10 : Int32) - nI X = nI (10 - X) := pk_sub (a := 10) hX
    have en : nI n - nI (pcS b) = nI (n - pcS b) := pk_sub hpc
    have eas : [Value.int ((10 : Int32) - nI X), Value.int (nI n - nI (pcS b))] = [Value.int (nI (10 - X)), Value.int (nI (n - pcS b))] := by rw [e10, en]
    refine ⟨rfl, ⟨nI (10 - X), n - pcS b, by omega, eas⟩, fun r1 I1 J1 hp => ?_⟩
    obtain ⟨rfl, rfl, hq⟩ := hp
    have hq : r1 = some (.int (pwF ((10 : Int32) - nI X) (nI n - nI (pcS b)).toNatClampNeg)) := hq
    rw [e10, en, cq, pwF_nat] at hq
    subst hq
    have emul : nI (X ^ pcS b * (10 - X) ^ (n - pcS b)) = nI (X ^ pcS b) * nI ((10 - X) ^ (n - pcS b)) := Int32.ofNat_mul _ _
    rw [emul] at hK
    exact mv_keep [0, 1, 2, 3, 4, 5, 6, 7] hK
theorem lost_79 {I : mv_I} {J : mv_J} {s n X b S : Nat} {v u : Int32} {K : mv_K} (hs : s < 5) (hMB : MB 9000 I 39 (24 * s) s) (hn : n ≤ 6) (hX : X ≤ 10) (hb : b < 2 ^ n)
    (hK : ∀ I1, TF I I1 → mv_V mv_ow mv_swf mv_t_X7_lost (mv_cs [(123, sp_noSeries), (109, sp_in), (115, sp_layTrial), (108, sp_has), (96, sp_comes), (98, sp_countOn), (125, sp_ones), (128, sp_power), (106, sp_fraction)]) K 61 [(0, .ref 30), (1, .int (nI s)), (2, .int v), (3, .int (nI n)), (4, .int (nI X)), (5, .int u), (6, .int (nI (S + (if mlR s v (nI b) (mlt I) n = 0 then 0 else X ^ pcS b * (10 - X) ^ (n - pcS b))))), (7, .int (nI b + 1))] [] I1 J) : ∀ p t : Nat, t + p = n → mv_V mv_ow mv_swf mv_t_X7_lost (mv_cs [(123, sp_noSeries), (109, sp_in), (115, sp_layTrial), (108, sp_has), (96, sp_comes), (98, sp_countOn), (125, sp_ones), (128, sp_power), (106, sp_fraction)]) K 79 [(0, .ref 30), (1, .int (nI s)), (2, .int v), (3, .int (nI n)), (4, .int (nI X)), (5, .int u), (6, .int (nI S)), (7, .int (nI b)), (8, .int (mlR s v (nI b) (mlt I) t)), (9, .int (nI t))] [] (mlT s v (nI b) t (mlt I)) J := by
  have hM := MB_mlt hs hMB
  have cs : (nI s).toNatClampNeg = s := nI_clamp (by omega)
  intro p
  induction p with
  | zero =>
    intro t ht
    have ht : t = n := ht
    subst ht
    refine mv_run_V (stop := [79, 139]) 60 _ _ _ _ _ ?_
    refine ⟨fun h1 => ?_, fun h1 => absurd h1 (nI_nlt (Nat.le_refl _) (by omega))⟩
    exact lost_139 hn hX hb (hK _ (TF_mlT hs hM TF_mlt t))
  | succ p ih =>
    intro t ht
    have hx := ih (t + 1) (by omega)
    rw [mlR, mlT, nI_succ t] at hx
    refine mv_run_V (stop := [79, 139]) 60 _ _ _ _ _ ?_
    refine ⟨fun h1 => absurd (nI_lt (by omega) (by omega)) h1, fun h1 => ?_⟩
    refine ⟨rfl, ⟨_, _, rfl⟩, fun r1 I1 J1 hp => ?_⟩
    obtain ⟨rfl, rfl, hq⟩ := hp
    have hq : r1 = some (.int (mv_b ((nI b >>> (nI t &&& 31)) &&& 1 = 1))) := hq
    subst hq
    refine ⟨fun h2 => ?_, fun h2 => ?_⟩
    · have h2 := mv_b0.mp h2
      rw [if_neg h2, if_neg h2] at hx
      refine ⟨rfl, _, rfl, rfl, rfl, ⟨40, s, v, Or.inr rfl, hs, MB_mono (by omega) (MB_mlT hM t), rfl⟩, fun r1 I1 J1 hp => ?_⟩
      obtain ⟨rfl, hq⟩ := hp
      have hq : r1 = some (.int (mkK (mlT s v (nI b) t (mlt I)) 40 (24 * (nI s).toNatClampNeg) (nI s).toNatClampNeg v)) ∧ I1 = mct (mlT s v (nI b) t (mlt I)) 40 (24 * (nI s).toNatClampNeg) (nI s).toNatClampNeg v := hq
      rw [cs] at hq
      obtain ⟨rfl, rfl⟩ := hq
      refine ⟨fun h3 => ?_, fun h3 => ?_⟩
      · rw [if_pos h3] at hx
        exact hx
      · rw [if_neg h3] at hx
        refine ⟨fun h4 => ?_, fun h4 => ?_⟩
        · rw [if_pos h4] at hx
          exact hx
        · rw [if_neg h4] at hx
          exact hx
    · have h2 := b_yes h2
      rw [if_pos h2, if_pos h2] at hx
      refine ⟨rfl, _, rfl, rfl, ⟨40, s, -9, Or.inr rfl, hs, (MB_mlT hM t).2.1, rfl⟩, fun r1 I1 J1 hp => ?_⟩
      obtain ⟨rfl, rfl, hq⟩ := hp
      have hq : I1 = mcm (mlT s v (nI b) t (mlt I)) 40 (24 * (nI s).toNatClampNeg) (-9) := hq
      rw [cs] at hq
      subst hq
      exact hx
theorem lost_61 {I : mv_I} {J : mv_J} {s n X : Nat} {v u : Int32} {K : mv_K} (hs : s < 5) (hMB : MB 9000 I 39 (24 * s) s) (hn : n ≤ 6) (hX : X ≤ 10)
    (fin : ∀ (x : Int32) (I1 : mv_I), TF I I1 → x = nI ((if u = 0 then 10 ^ n else mloN (mlt I) s v n X (2 ^ n)) / Nat.gcd (mloN (mlt I) s v n X (2 ^ n)) (10 ^ n)) → K (some (.int x)) I1 J) : ∀ p b : Nat, b + p = 2 ^ n → ∀ I1, TF I I1 → mv_V mv_ow mv_swf mv_t_X7_lost (mv_cs [(123, sp_noSeries), (109, sp_in), (115, sp_layTrial), (108, sp_has), (96, sp_comes), (98, sp_countOn), (125, sp_ones), (128, sp_power), (106, sp_fraction)]) K 61 [(0, .ref 30), (1, .int (nI s)), (2, .int v), (3, .int (nI n)), (4, .int (nI X)), (5, .int u), (6, .int (nI (mloN (mlt I) s v n X b))), (7, .int (nI b))] [] I1 J := by
  have h64 := two_6 n hn
  have cn : (nI n).toNatClampNeg = n := nI_clamp (by omega)
  intro p
  induction p with
  | zero =>
    intro b hb I1 hT
    have hb : b = 2 ^ n := hb
    have hle := mloN_le (T := mlt I) (s := s) (v := v) hn hX (2 ^ n) (Nat.le_refl _)
    have ht := ten_6 n hn
    refine mv_run_V (stop := [61, 79]) 40 _ _ _ _ _ ?_
    refine ⟨fun h1 => ?_, fun h1 => ?_⟩
    · refine ⟨rfl, ⟨10, n, by omega, rfl⟩, fun r1 I2 J1 hp => ?_⟩
      obtain ⟨rfl, rfl, hq⟩ := hp
      have hq : r1 = some (.int (pwF (nI 10) (nI n).toNatClampNeg)) := hq
      rw [cn, pwF_nat] at hq
      subst hq
      refine ⟨rfl, ⟨mloN (mlt I) s v n X b, 10 ^ n, u, by rw [hb]; omega, by omega, ht.1, rfl⟩, fun r1 I2 J1 hp => ?_⟩
      obtain ⟨rfl, rfl, hz⟩ := hp
      have hz := hz (mloN (mlt I) s v n X b) (10 ^ n) u (by rw [hb]; omega) (by omega) ht.1 rfl
      subst hz
      exact fin _ _ hT (by rw [hb])
    · have h1 : nI b < 1 <<< (nI n &&& 31) := h1
      rw [two_pow n hn, hb] at h1
      exact absurd h1 (nI_nlt (Nat.le_refl _) (by omega))
  | succ p ih =>
    intro b hb I1 hT
    refine mv_run_V (stop := [61, 79]) 40 _ _ _ _ _ ?_
    refine ⟨fun h1 => ?_, fun h1 => ?_⟩
    · have h1 : ¬ nI b < 1 <<< (nI n &&& 31) := h1
      rw [two_pow n hn] at h1
      exact absurd (nI_lt (by omega) (by omega)) h1
    · refine ⟨rfl, rfl, rfl, fun r1 I2 J2 hp => ?_⟩
      obtain ⟨rfl, rfl, rfl⟩ := hp
      have hMB1 : MB 9000 I1 39 (24 * s) s := MB_of (hT.1 39 (by decide)) (hT.1 34 (by decide)) hMB
      refine lost_79 (S := mloN (mlt I) s v n X b) hs hMB1 hn hX (by omega) (fun I3 hT3 => ?_) n 0 (Nat.zero_add n)
      have hx := ih (b + 1) (by omega) I3 (TF_trans hT hT3)
      rw [mloN, nI_succ b] at hx
      rw [mlt_TF hT]
      exact hx
theorem lost_39 {I : mv_I} {J : mv_J} {v n x u : Int32} {j : Nat} (hj : j < 5) (hMB : MB 9000 (th I) 39 (24 * j) j) (h1 : msv (th I) (nI j)) (h2 : 0 ≤ v ∧ v ≤ 99) (h3 : 1 ≤ n ∧ n ≤ 6) : mv_V mv_ow mv_swf mv_t_X7_lost (mv_cs [(123, sp_noSeries), (109, sp_in), (115, sp_layTrial), (108, sp_has), (96, sp_comes), (98, sp_countOn), (125, sp_ones), (128, sp_power), (106, sp_fraction)]) (sp_mLost.2 [.ref 30, .int (nI j), .int v, .int n, .int x, .int u] I J) 39 [(0, .ref 30), (1, .int (nI j)), (2, .int v), (3, .int n), (4, .int x), (5, .int u)] [] (th I) J := by
  have cj : (nI j).toNatClampNeg = j := nI_clamp (by omega)
  refine mv_run_V (stop := [61]) 40 _ _ _ _ _ ?_
  refine ⟨rfl, ⟨_, _, _, rfl⟩, fun r1 I1 J1 hp => ?_⟩
  obtain ⟨rfl, rfl, hqz⟩ := hp
  have hqy : r1 = some (.int (mv_b ((0 : Int64) ≤ (x : Int32).toInt64 ∧ (x : Int32).toInt64 ≤ (10 : Int64)))) := hqz
  clear hqz
  rw [mv_bc (in_w (lo := 0) (hi := 10))] at hqy
  subst hqy
  refine ⟨fun h4 => ?_, fun h4 => ?_⟩
  · have h4 := b_yes h4
    obtain ⟨q, hq1, hq, rfl⟩ := in_nat1 (M := 6) (by decide) h3
    obtain ⟨X, hX, rfl⟩ := in_nat (M := 10) (by decide) h4
    have cq : (nI q).toNatClampNeg = q := nI_clamp (by omega)
    have cX : (nI X).toNatClampNeg = X := nI_clamp (by omega)
    refine lost_61 hj hMB hq hX (fun y I1 hT hy => ?_) (2 ^ q) 0 (Nat.zero_add _) _ TF_rfl
    refine ⟨rfl, hT, fun s' v' n' x' u' e => ?_⟩
    cases e
    rw [if_pos h1, if_pos ⟨h2, h3, h4⟩, cj, cq, cX, hy]
  · exact lost_no h1 (fun z => mv_b0.mp h4 z.2.2)
theorem lost_15 {I : mv_I} {J : mv_J} {v n x u : Int32} {j : Nat} (hj : j < 5) (hMB : MB 9000 (th I) 39 (24 * j) j) (h1 : msv (th I) (nI j)) : mv_V mv_ow mv_swf mv_t_X7_lost (mv_cs [(123, sp_noSeries), (109, sp_in), (115, sp_layTrial), (108, sp_has), (96, sp_comes), (98, sp_countOn), (125, sp_ones), (128, sp_power), (106, sp_fraction)]) (sp_mLost.2 [.ref 30, .int (nI j), .int v, .int n, .int x, .int u] I J) 15 [(0, .ref 30), (1, .int (nI j)), (2, .int v), (3, .int n), (4, .int x), (5, .int u)] [] (th I) J := by
  refine mv_run_V (stop := [39]) 40 _ _ _ _ _ ?_
  refine ⟨rfl, ⟨_, _, _, rfl⟩, fun r1 I1 J1 hp => ?_⟩
  obtain ⟨rfl, rfl, hqz⟩ := hp
  have hqy : r1 = some (.int (mv_b ((0 : Int64) ≤ (v : Int32).toInt64 ∧ (v : Int32).toInt64 ≤ (99 : Int64)))) := hqz
  clear hqz
  rw [mv_bc (in_w (lo := 0) (hi := 99))] at hqy
  subst hqy
  refine ⟨fun h4 => ?_, fun h4 => ?_⟩
  · exact lost_no h1 (fun z => mv_b0.mp h4 z.1)
  · refine ⟨rfl, ⟨_, _, _, rfl⟩, fun r1 I1 J1 hp => ?_⟩
    obtain ⟨rfl, rfl, hqz⟩ := hp
    have hqy : r1 = some (.int (mv_b ((1 : Int64) ≤ (n : Int32).toInt64 ∧ (n : Int32).toInt64 ≤ (6 : Int64)))) := hqz
    clear hqz
    rw [mv_bc (in_w (lo := 1) (hi := 6))] at hqy
    subst hqy
    refine ⟨fun h5 => ?_, fun h5 => ?_⟩
    · exact lost_no h1 (fun z => mv_b0.mp h5 z.2.1)
    · exact lost_39 hj hMB h1 (b_yes h4) (b_yes h5)
theorem cb_mLost : mv_body 120 mv_t_X7_lost (mv_cs [(123, sp_noSeries), (109, sp_in), (115, sp_layTrial), (108, sp_has), (96, sp_comes), (98, sp_countOn), (125, sp_ones), (128, sp_power), (106, sp_fraction)]) sp_mLost := by
  intro as I J h
  obtain ⟨hM, s, v, n, x, u, rfl⟩ := h
  have hM := MH_th hM
  have key : mv_V mv_ow mv_swf mv_t_X7_lost (mv_cs [(123, sp_noSeries), (109, sp_in), (115, sp_layTrial), (108, sp_has), (96, sp_comes), (98, sp_countOn), (125, sp_ones), (128, sp_power), (106, sp_fraction)]) (sp_mLost.2 [.ref 30, .int s, .int v, .int n, .int x, .int u] I J) 5 [(0, .ref 30), (1, .int s), (2, .int v), (3, .int n), (4, .int x), (5, .int u)] [] (th I) J := by
    refine mv_run_V (stop := [15]) 40 _ _ _ _ _ ?_
    refine ⟨rfl, rfl, ⟨_, rfl⟩, fun r1 I1 J1 hp => ?_⟩
    obtain ⟨rfl, rfl, hqz⟩ := hp
    have hqy : r1 = some (.int (mv_b (¬ msv (th I) s))) := hqz
    clear hqz
    subst hqy
    refine ⟨fun h1 => ?_, fun h1 => ?_⟩
    · have h1 : msv (th I) s := Decidable.not_not.mp (mv_b0.mp h1)
      obtain ⟨j, hj, rfl, cj, hMB⟩ := MH_in hM h1
      exact lost_15 hj hMB h1
    · have h1 : ¬ msv (th I) s := b_yes h1
      refine ⟨rfl, TF_rfl, fun s' v' n' x' u' e => ?_⟩
      cases e
      rw [if_neg h1]
  refine ⟨rfl, mv_run_V (stop := [5]) 40 _ _ _ _ _ ?_⟩
  exact ⟨rfl, key⟩
theorem c_mLost {l : Launch} {G : mv_G} {A : Nat → Prop} (hG : mv_adk G A) : mv_Con l G A 120 sp_mLost := mv_con hG 120 mv_k_X7_lost (by decide +kernel) (mv_cs_cons (c_noSeries hG) (mv_cs_cons (c_in hG) (mv_cs_cons (c_layTrial hG) (mv_cs_cons (c_has hG) (mv_cs_cons (c_comes hG) (mv_cs_cons (c_countOn hG) (mv_cs_cons (c_ones hG) (mv_cs_cons (c_power hG) (mv_cs_cons (c_fraction hG) (mv_cs_nil)))))))))) cb_mLost
