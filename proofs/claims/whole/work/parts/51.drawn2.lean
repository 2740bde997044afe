/-! The reference: judge, drawn. -/
theorem lpF_nat (k : Nat) : lpF 10000 k = lN (10000 ^ k) := by
  induction k with
  | zero => rfl
  | succ k ih =>
    rw [lpF, ih, show (10000 : Int64) = lN 10000 from rfl, lN_mul, Nat.pow_succ]
theorem lN_inL {R P : Nat} (hR : R < 2 ^ 63) (hP : P < 2 ^ 62) (hP0 : 0 < P) : (0 ≤ lN R ∧ lN R ≤ lN P - 1) ↔ R < P := by
  have e : lN P - 1 = lN (P - 1) := lN_sub (b := 1) hP0
  rw [e, pk_lLE hR (by omega)]
  have h0 : (0 : Int64) ≤ lN R := (pk_lLE (a := 0) (by decide) hR).mpr (Nat.zero_le _)
  exact ⟨fun z => by have := z.2; omega, fun z => ⟨h0, by omega⟩⟩
def mjd (R n : Nat) : Nat → Nat → mv_I → Int32
  | 0, _, _ => -9
  | q + 1, k, T => if mdB (stD R n k / 1000) (stD R n k / 100 % 10) (stD R n k % 100) T = 0 then nI k else mjd R n q (k + 1) (mdI (stD R n k / 1000) (stD R n k / 100 % 10) (stD R n k % 100) T)
def sp_mJudge : mv_SP := (fun as I _ => MH 9000 I ∧ ∃ (n : Int32) (row : Int64), as = [.ref 30, .int n, .long row],
  fun as I J r I' J' => J = J' ∧ TF (th I) I' ∧ ∀ (n : Int32) (row : Int64), as = [.ref 30, .int n, .long row] → if 1 ≤ n ∧ n ≤ 4 then (∀ R : Nat, R < 2 ^ 63 → row = lN R → if R / 10000 ^ n.toNatClampNeg = 0 then r = some (.int (mjd R n.toNatClampNeg n.toNatClampNeg 0 (mlt (th I)))) else r = some (.int (-2))) ∧ (row < 0 → r = some (.int (-2))) else r = some (.int (-2)))
theorem judge_44 {I : mv_I} {J : mv_J} {R n m : Nat} {K : mv_K} (hR : R < 2 ^ 63) (hn : n ≤ 4) (hm : m ≤ 5) (h4 : th I 30 4 = nI m) (fin : ∀ (x : Int32) (I1 : mv_I), TF (th I) I1 → x = mjd R n n 0 (mlt (th I)) → K (some (.int x)) I1 J) : ∀ q k : Nat, k + q = n → ∀ I1, TF (th I) I1 → MT (9000 + k) m I1 → mjd R n q k I1 = mjd R n n 0 (mlt (th I)) → mv_V mv_ow mv_swf mv_t_X7_judge (mv_cs [(109, sp_in), (119, sp_longPower), (115, sp_layTrial), (99, sp_does)]) K 44 [(0, .ref 30), (1, .int (nI n)), (2, .long (lN R)), (4, .int (nI k))] [] I1 J := by
  intro q
  induction q with
  | zero =>
    intro k hk I1 hT hM hf
    have hk : k = n := hk
    subst hk
    refine mv_run_V (stop := [44]) 40 _ _ _ _ _ ?_
    refine ⟨fun h1 => fin _ _ hT hf, fun h1 => absurd h1 (nI_nlt (Nat.le_refl _) (by omega))⟩
  | succ q ih =>
    intro k hk I1 hT hM hf
    rw [mjd] at hf
    have ej : nI n - 1 - nI k = nI (n - 1 - k) := by
      rw [show (1 : Int32) = nI 1 from rfl, pk_sub (by omega), pk_sub (by omega)]
    have cj : (nI (n - 1 - k)).toNatClampNeg = n - 1 - k := nI_clamp (by omega)
    have hp0 : 0 < 10000 ^ (n - 1 - k) := Nat.pow_pos (by decide)
    have hp1 : 10000 ^ (n - 1 - k) < 2 ^ 63 := by
      have : 10000 ^ (n - 1 - k) ≤ 10000 ^ 3 := Nat.pow_le_pow_right (by decide) (by omega)
      omega
    have hq1 : R / 10000 ^ (n - 1 - k) < 2 ^ 63 := Nat.lt_of_le_of_lt (Nat.div_le_self _ _) hR
    have hD := stD_lt R n k
    have ed : (lN R / lN (10000 ^ (n - 1 - k)) - lN R / lN (10000 ^ (n - 1 - k)) / 10000 * 10000).toInt32 = nI (stD R n k) := by
      rw [pk_lDiv hR hp0 hp1, show (10000 : Int64) = lN 10000 from rfl, pk_lRem hq1 (by decide) (by decide), lN_i]
      rfl
    have key71 : mv_V mv_ow mv_swf mv_t_X7_judge (mv_cs [(109, sp_in), (119, sp_longPower), (115, sp_layTrial), (99, sp_does)]) K 71 [(0, .ref 30), (1, .int (nI n)), (2, .long (lN R)), (4, .int (nI k)), (5, .int (nI (stD R n k)))] [] I1 J := by
      have q1 : nI (stD R n k) / 1000 = nI (stD R n k / 1000) := pk_div (d := 1000) (by omega) (by decide) (by decide)
      have q2 : nI (stD R n k) / 100 - nI (stD R n k) / 100 / 10 * 10 = nI (stD R n k / 100 % 10) := by
        rw [show nI (stD R n k) / 100 = nI (stD R n k / 100) from pk_div (d := 100) (by omega) (by decide) (by decide)]
        exact pk_rem (d := 10) (by omega) (by decide) (by decide)
      have q3 : nI (stD R n k) - nI (stD R n k) / 100 * 100 = nI (stD R n k % 100) := pk_rem (d := 100) (by omega) (by decide) (by decide)
      have c1 : (nI (stD R n k / 1000)).toNatClampNeg = stD R n k / 1000 := nI_clamp (by omega)
      have c2 : (nI (stD R n k / 100 % 10)).toNatClampNeg = stD R n k / 100 % 10 := nI_clamp (by omega)
      have c3 : (nI (stD R n k % 100)).toNatClampNeg = stD R n k % 100 := nI_clamp (by omega)
      have eas : [Value.ref 30, .int (nI (stD R n k) / 1000), .int (nI (stD R n k) / 100 - nI (stD R n k) / 100 / 10 * 10), .int (nI (stD R n k) - nI (stD R n k) / 100 * 100)] = [Value.ref 30, .int (nI (stD R n k / 1000)), .int (nI (stD R n k / 100 % 10)), .int (nI (stD R n k % 100))] := by rw [q1, q2, q3]
      refine mv_run_V (stop := [44]) 40 _ _ _ _ _ ?_
      refine ⟨mv_nz1000, mv_nz100, mv_nz10, mv_nz100, rfl, rfl, ⟨m, _, _, _, hm, (by rw [hT.1 30 (by decide)]; exact h4), MT_mono (by omega) hM, (by omega), (by omega), (by omega), eas⟩, fun r1 I2 J2 hp => ?_⟩
      obtain ⟨rfl, hq⟩ := hp
      have hq : r1 = some (.int (mdB (nI (stD R n k) / 1000).toNatClampNeg (nI (stD R n k) / 100 - nI (stD R n k) / 100 / 10 * 10).toNatClampNeg (nI (stD R n k) - nI (stD R n k) / 100 * 100).toNatClampNeg I1)) ∧ I2 = mdI (nI (stD R n k) / 1000).toNatClampNeg (nI (stD R n k) / 100 - nI (stD R n k) / 100 / 10 * 10).toNatClampNeg (nI (stD R n k) - nI (stD R n k) / 100 * 100).toNatClampNeg I1 := hq
      rw [q1, q2, q3, c1, c2, c3] at hq
      obtain ⟨rfl, rfl⟩ := hq
      have hok := mdI_ok (h := stD R n k / 1000) (s := stD R n k / 100 % 10) (v := stD R n k % 100) hm h4 hT hM
      refine ⟨fun h1 => ?_, fun h1 => ?_⟩
      · rw [if_neg h1] at hf
        have h6 := ih (k + 1) (by omega) _ hok.1 (MT_mono (by omega) hok.2) hf
        rw [nI_succ] at h6
        exact mv_keep [0, 1, 2, 4] h6
      · rw [if_pos h1] at hf
        exact fin _ _ hok.1 hf
    refine mv_run_V (stop := [44, 71]) 40 _ _ _ _ _ ?_
    refine ⟨fun h1 => absurd (nI_lt (by omega) (by omega)) h1, fun h1 => ?_⟩
    refine ⟨rfl, ⟨10000, n - 1 - k, by omega, congrArg (fun z => [Value.long 10000, .int z]) ej⟩, fun r1 I2 J2 hp => ?_⟩
    obtain ⟨rfl, rfl, hq⟩ := hp
    have hq : r1 = some (.long (lpF 10000 (nI n - 1 - nI k).toNatClampNeg)) := hq
    rw [ej, cj, lpF_nat] at hq
    subst hq
    rw [← ed] at key71
    exact ⟨fun z => absurd ((lN_eq0 hp1).mp z) (by omega), by decide, key71⟩
theorem cb_mJudge : mv_body 112 mv_t_X7_judge (mv_cs [(109, sp_in), (119, sp_longPower), (115, sp_layTrial), (99, sp_does)]) sp_mJudge := by
  intro as I J h
  obtain ⟨hM, n, row, rfl⟩ := h
  have hM := MH_th hM
  obtain ⟨m, hm, h4, hMT⟩ := MT_mlt hM
  have key17 : 1 ≤ n ∧ n ≤ 4 → mv_V mv_ow mv_swf mv_t_X7_judge (mv_cs [(109, sp_in), (119, sp_longPower), (115, sp_layTrial), (99, sp_does)]) (sp_mJudge.2 [.ref 30, .int n, .long row] I J) 17 [(0, .ref 30), (1, .int n), (2, .long row)] [] (th I) J := by
    intro h1
    obtain ⟨q, hq1, hq, rfl⟩ := in_nat1 (M := 4) (by decide) h1
    have cq : (nI q).toNatClampNeg = q := nI_clamp (by omega)
    have hp0 : 0 < 10000 ^ q := Nat.pow_pos (by decide)
    have hp1 : 10000 ^ q < 2 ^ 62 := by
      have : 10000 ^ q ≤ 10000 ^ 4 := Nat.pow_le_pow_right (by decide) (by omega)
      omega
    refine mv_run_V (stop := [44]) 40 _ _ _ _ _ ?_
    refine ⟨rfl, ⟨10000, q, by omega, rfl⟩, fun r1 I1 J1 hp => ?_⟩
    obtain ⟨rfl, rfl, hz⟩ := hp
    have hz : r1 = some (.long (lpF 10000 (nI q).toNatClampNeg)) := hz
    rw [cq, lpF_nat] at hz
    subst hz
    refine ⟨rfl, ⟨_, _, _, rfl⟩, fun r1 I1 J1 hp => ?_⟩
    obtain ⟨rfl, rfl, hz⟩ := hp
    have hz : r1 = some (.int (mv_b (0 ≤ row ∧ row ≤ lN (10000 ^ q) - 1))) := hz
    subst hz
    refine ⟨fun h2 => ?_, fun h2 => ?_⟩
    · have h2 := b_yes h2
      obtain ⟨R, hR, rfl⟩ := pk_lOf (Int64.not_lt.mpr h2.1)
      have hlt := (lN_inL hR hp1 hp0).mp h2
      refine ⟨rfl, rfl, rfl, fun r1 I1 J1 hp => ?_⟩
      obtain ⟨rfl, rfl, rfl⟩ := hp
      refine judge_44 hR (by omega) hm h4 (fun x I1 hT hx => ⟨rfl, hT, fun n' row' e => ?_⟩) q 0 (Nat.zero_add q) _ TF_mlt hMT rfl
      cases e
      rw [if_pos h1, cq]
      refine ⟨fun R' hR' e => ?_, fun z => absurd z (Int64.not_lt.mpr h2.1)⟩
      have e := (pk_lEQ hR hR').mp e
      subst e
      rw [if_pos (Nat.div_eq_of_lt hlt), hx]
    · have h2 := mv_b0.mp h2
      refine ⟨rfl, TF_rfl, fun n' row' e => ?_⟩
      cases e
      rw [if_pos h1, cq]
      refine ⟨fun R hR e => ?_, fun _ => rfl⟩
      subst e
      have hlt := fun z => h2 ((lN_inL hR hp1 hp0).mpr z)
      rw [if_neg]
      intro z
      have := Nat.lt_of_div_eq_zero hp0 z
      exact hlt this
  have key : mv_V mv_ow mv_swf mv_t_X7_judge (mv_cs [(109, sp_in), (119, sp_longPower), (115, sp_layTrial), (99, sp_does)]) (sp_mJudge.2 [.ref 30, .int n, .long row] I J) 5 [(0, .ref 30), (1, .int n), (2, .long row)] [] (th I) J := by
    refine mv_run_V (stop := [17]) 40 _ _ _ _ _ ?_
    refine ⟨rfl, ⟨_, _, _, rfl⟩, fun r1 I1 J1 hp => ?_⟩
    obtain ⟨rfl, rfl, hqz⟩ := hp
    have hqy : r1 = some (.int (mv_b ((1 : Int64) ≤ (n : Int32).toInt64 ∧ (n : Int32).toInt64 ≤ (4 : Int64)))) := hqz
    clear hqz
    rw [mv_bc (in_w (lo := 1) (hi := 4))] at hqy
    subst hqy
    refine ⟨fun h1 => ?_, fun h1 => ?_⟩
    · have h1 := mv_b0.mp h1
      refine ⟨rfl, TF_rfl, fun n' row' e => ?_⟩
      cases e
      rw [if_neg h1]
    · exact key17 (b_yes h1)
  refine ⟨rfl, mv_run_V (stop := [5]) 40 _ _ _ _ _ ?_⟩
  exact ⟨rfl, key⟩
theorem c_mJudge {l : Launch} {G : mv_G} {A : Nat → Prop} (hG : mv_adk G A) : mv_Con l G A 112 sp_mJudge := mv_con hG 112 mv_k_X7_judge (by decide +kernel) (mv_cs_cons (c_in hG) (mv_cs_cons (c_longPower hG) (mv_cs_cons (c_layTrial hG) (mv_cs_cons (c_does hG) (mv_cs_nil))))) cb_mJudge
def mdw (m : Nat) : Nat → Int64 → mv_I → Int32 → Int32
  | 0, _, _, al => al
  | q + 1, x, T, al => if m = 0 then mdw m q (lcgF x) T al else mdw m q (lcgF x) (mct T 40 (24 * (wOf (lcgF x) / 64 % m)) (wOf (lcgF x) / 64 % m) (nI (wOf (lcgF x) % 40))) (al + (if 0 < mkK T 40 (24 * (wOf (lcgF x) / 64 % m)) (wOf (lcgF x) / 64 % m) (nI (wOf (lcgF x) % 40)) then 1 else 0))
def sp_mDrawn : mv_SP := (fun as I _ => MH 9000 I ∧ ∃ n : Int32, as = [.ref 30, .int n],
  fun as I J r I' J' => TF (th I) I' ∧ match as with
    | [_, .int n] => if 1 ≤ n ∧ n ≤ 20 then J' = mv_sj J 30 24 (sdN (J 30 24) n.toNatClampNeg) ∧ r = some (.int (mdw (th I 30 4).toNatClampNeg n.toNatClampNeg (J 30 24) (mlt (th I)) 0)) else J' = J ∧ r = some (.int (-2))
    | _ => True)
theorem drawn_59 {I I1 : mv_I} {J : mv_J} {m w n k : Nat} {al W : Int32} {x : Int64} {K : mv_K} (hm : m ≤ 5) (h4 : I 30 4 = nI m) (hT : TF I I1) {N : Nat} (hN : N ≤ 9900) (hM : MT N m I1) (hW : W = nI w) (hw : w < 2 ^ 31)
    (h0 : m = 0 → mv_V mv_ow mv_swf mv_t_X7_drawn (mv_cs [(109, sp_in), (115, sp_layTrial), (98, sp_countOn)]) K 28 [(0, .ref 30), (1, .int (nI n)), (2, .int al), (3, .int (nI k + 1))] [] I1 (mv_sj J 30 24 x))
    (h1 : 0 < m → TF I (mct I1 40 (24 * (w / 64 % m)) (w / 64 % m) (nI (w % 40))) → MT (N + 1) m (mct I1 40 (24 * (w / 64 % m)) (w / 64 % m) (nI (w % 40))) → mv_V mv_ow mv_swf mv_t_X7_drawn (mv_cs [(109, sp_in), (115, sp_layTrial), (98, sp_countOn)]) K 28 [(0, .ref 30), (1, .int (nI n)), (2, .int (al + (if 0 < mkK I1 40 (24 * (w / 64 % m)) (w / 64 % m) (nI (w % 40)) then 1 else 0))), (3, .int (nI k + 1))] [] (mct I1 40 (24 * (w / 64 % m)) (w / 64 % m) (nI (w % 40))) (mv_sj J 30 24 x)) : mv_V mv_ow mv_swf mv_t_X7_drawn (mv_cs [(109, sp_in), (115, sp_layTrial), (98, sp_countOn)]) K 59 [(0, .ref 30), (1, .int (nI n)), (2, .int al), (3, .int (nI k)), (4, .int W)] [] I1 (mv_sj J 30 24 x) := by
  subst hW
  have h4' : I1 30 4 = nI m := by rw [hT.1 30 (by decide), h4]
  have e64 : ¬ (64 : Int32) = 0 := by decide
  have e40 : ¬ (40 : Int32) = 0 := by decide
  refine mv_run_V (stop := [28]) 80 _ _ _ _ _ ?_
  refine ⟨rfl, fun h2 => ?_, fun h2 => ?_⟩
  · rw [h4'] at h2
    have hm0 : m = 0 := by
      rcases Nat.eq_zero_or_pos m with z | z
      · exact z
      · exact absurd (nI_lt (a := 0) z (by omega)) h2
    exact mv_keep [0, 1, 2, 3] (h0 hm0)
  · have hm0 : 0 < m := by
      rcases Nat.eq_zero_or_pos m with z | z
      · rw [h4', z] at h2
        exact absurd h2 (by decide)
      · exact z
    have hnz : ¬ I1 30 4 = 0 := by
      rw [h4']
      exact nI_ne0 hm0 (by omega)
    have hlt : w / 64 % m < m := Nat.mod_lt _ hm0
    have q1 : nI w / 64 - nI w / 64 / I1 30 4 * I1 30 4 = nI (w / 64 % m) := by
      rw [show nI w / 64 = nI (w / 64) from pk_div (d := 64) hw (by decide) (by decide), h4']
      exact pk_rem (by omega) hm0 (by omega)
    have q2 : nI w - nI w / 40 * 40 = nI (w % 40) := pk_rem (d := 40) hw (by decide) (by decide)
    have eas : [Value.ref 30, .ref 40, .int (nI w / 64 - nI w / 64 / I1 30 4 * I1 30 4), .int (nI w - nI w / 40 * 40)] = [Value.ref 30, .ref 40, .int (nI (w / 64 % m)), .int (nI (w % 40))] := by rw [q1, q2]
    have cs : (nI (w / 64 % m)).toNatClampNeg = w / 64 % m := nI_clamp (by omega)
    have hx := h1 hm0 (TF_mct (by omega) (hM _ hlt) hT) (MT_mct hm hlt hM)
    refine ⟨rfl, _, rfl, e64, rfl, hnz, e40, rfl, rfl, ⟨40, w / 64 % m, nI (w % 40), Or.inr rfl, by omega, MB_mono (by omega) (hM _ hlt), eas⟩, fun r1 I2 J2 hp => ?_⟩
    obtain ⟨rfl, hq⟩ := hp
    have hq : r1 = some (.int (mkK I1 40 (24 * (nI w / 64 - nI w / 64 / I1 30 4 * I1 30 4).toNatClampNeg) (nI w / 64 - nI w / 64 / I1 30 4 * I1 30 4).toNatClampNeg (nI w - nI w / 40 * 40))) ∧ I2 = mct I1 40 (24 * (nI w / 64 - nI w / 64 / I1 30 4 * I1 30 4).toNatClampNeg) (nI w / 64 - nI w / 64 / I1 30 4 * I1 30 4).toNatClampNeg (nI w - nI w / 40 * 40) := hq
    rw [q1, q2, cs] at hq
    obtain ⟨rfl, rfl⟩ := hq
    refine ⟨fun h7 => ?_, fun h7 => ?_⟩
    · rw [if_neg h7] at hx
      exact mv_keep [0, 1, 2, 3] hx
    · rw [if_pos h7] at hx
      exact mv_keep [0, 1, 2, 3] hx
theorem cb_mDrawn : mv_body 100 mv_t_X7_drawn (mv_cs [(109, sp_in), (115, sp_layTrial), (98, sp_countOn)]) sp_mDrawn := by
  intro as I J h
  obtain ⟨hM, n, rfl⟩ := h
  have hM := MH_th hM
  obtain ⟨m, hm, h4, hMT⟩ := MT_mlt hM
  have key28 : ∀ n0 : Nat, n = nI n0 → n0 ≤ 20 → 1 ≤ n ∧ n ≤ 20 → ∀ q k : Nat, k + q = n0 → ∀ I1 al, TF (th I) I1 → MT (9000 + k) m I1 → mdw m q (sdN (J 30 24) k) I1 al = mdw m n0 (J 30 24) (mlt (th I)) 0 → mv_V mv_ow mv_swf mv_t_X7_drawn (mv_cs [(109, sp_in), (115, sp_layTrial), (98, sp_countOn)]) (sp_mDrawn.2 [.ref 30, .int n] I J) 28 [(0, .ref 30), (1, .int (nI n0)), (2, .int al), (3, .int (nI k))] [] I1 (mv_sj J 30 24 (sdN (J 30 24) k)) := by
    intro n0 hn hn20 h1 q
    have cn : (nI n0).toNatClampNeg = n0 := nI_clamp (by omega)
    induction q with
    | zero =>
      intro k hk I1 al hT hM1 hf
      have hk : k = n0 := hk
      subst hk
      refine mv_run_V (stop := [28]) 40 _ _ _ _ _ ?_
      refine ⟨fun h2 => ?_, fun h2 => absurd h2 (nI_nlt (Nat.le_refl _) (by omega))⟩
      refine ⟨hT, ?_⟩
      show if 1 ≤ n ∧ n ≤ 20 then _ else _
      rw [if_pos h1, hn, cn, h4, nI_clamp (by omega)]
      exact ⟨rfl, by rw [← hf]; rfl⟩
    | succ q ih =>
      intro k hk I1 al hT hM1 hf
      rw [mdw] at hf
      have hsd : lcgF (sdN (J 30 24) k) = sdN (J 30 24) (k + 1) := rfl
      have hw := wOf_lt (sdN (J 30 24) (k + 1))
      have hJ : mv_sj (mv_sj J 30 24 (sdN (J 30 24) k)) 30 24 (mv_sj J 30 24 (sdN (J 30 24) k) 30 24 * 6364136223846793005 + 1442695040888963407) = mv_sj J 30 24 (sdN (J 30 24) (k + 1)) := by
        rw [mv_sj_two, show mv_sj J 30 24 (sdN (J 30 24) k) 30 24 = sdN (J 30 24) k from if_pos ⟨rfl, rfl⟩, sdN, lcgF]
      rw [hsd] at hf
      have hsj : mv_sj J 30 24 (sdN (J 30 24) (k + 1)) 30 24 = sdN (J 30 24) (k + 1) := if_pos ⟨rfl, rfl⟩
      refine mv_run_V (stop := [28, 59]) 80 _ _ _ _ _ ?_
      refine ⟨fun h2 => absurd (nI_lt (by omega) (by omega)) h2, fun h2 => ?_⟩
      refine ⟨rfl, rfl, ?_⟩
      rw [hJ]
      refine ⟨rfl, drawn_59 hm h4 hT (N := 9000 + k) (by omega) hM1 (w := wOf (sdN (J 30 24) (k + 1))) ?_ hw (fun hm0 => ?_) (fun hm0 hT2 hM2 => ?_)⟩
      · rw [hsj]
        exact wOf_ok _
      · rw [if_pos hm0] at hf
        have h6 := ih (k + 1) (by omega) I1 al hT (MT_mono (by omega) hM1) hf
        rw [nI_succ] at h6
        exact h6
      · rw [if_neg (by omega)] at hf
        have h6 := ih (k + 1) (by omega) _ _ hT2 (MT_mono (by omega) hM2) hf
        rw [nI_succ] at h6
        exact h6
  have key : mv_V mv_ow mv_swf mv_t_X7_drawn (mv_cs [(109, sp_in), (115, sp_layTrial), (98, sp_countOn)]) (sp_mDrawn.2 [.ref 30, .int n] I J) 5 [(0, .ref 30), (1, .int n)] [] (th I) J := by
    refine mv_run_V (stop := [28]) 40 _ _ _ _ _ ?_
    refine ⟨rfl, ⟨_, _, _, rfl⟩, fun r1 I1 J1 hp => ?_⟩
    obtain ⟨rfl, rfl, hqz⟩ := hp
    have hqy : r1 = some (.int (mv_b ((1 : Int64) ≤ (n : Int32).toInt64 ∧ (n : Int32).toInt64 ≤ (20 : Int64)))) := hqz
    clear hqz
    rw [mv_bc (in_w (lo := 1) (hi := 20))] at hqy
    subst hqy
    refine ⟨fun h1 => ?_, fun h1 => ?_⟩
    · have h1 := b_yes h1
      obtain ⟨q, hq1, hq, hnq⟩ := in_nat1 (M := 20) (by decide) h1
      refine ⟨rfl, rfl, rfl, fun r1 I1 J1 hp => ?_⟩
      obtain ⟨rfl, rfl, rfl⟩ := hp
      have h6 := key28 q hnq hq h1 q 0 (Nat.zero_add q) (mlt (th I)) 0 TF_mlt hMT rfl
      rw [show sdN (J 30 24) 0 = J 30 24 from rfl, mv_sj_self, ← hnq] at h6
      exact h6
    · have h1 := mv_b0.mp h1
      refine ⟨TF_rfl, ?_⟩
      show if 1 ≤ n ∧ n ≤ 20 then _ else _
      rw [if_neg h1]
      exact ⟨rfl, rfl⟩
  refine ⟨rfl, mv_run_V (stop := [5]) 40 _ _ _ _ _ ?_⟩
  exact ⟨rfl, key⟩
theorem c_mDrawn {l : Launch} {G : mv_G} {A : Nat → Prop} (hG : mv_adk G A) : mv_Con l G A 100 sp_mDrawn := mv_con hG 100 mv_k_X7_drawn (by decide +kernel) (mv_cs_cons (c_in hG) (mv_cs_cons (c_layTrial hG) (mv_cs_cons (c_countOn hG) (mv_cs_nil)))) cb_mDrawn
