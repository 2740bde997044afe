/-! A call of the class beside a call of the reference. -/
def LI (k : Nat) (I : mv_I) (J : mv_J) : Prop := SH I ∧ REL k I I ∧ J 0 7 = J 30 24
def SC (I I' : mv_I) : Prop := I' 999 = I 999 ∧ I' 998 = I 998
def SIM (c m : mv_SP) (as : List Value) : Prop := ∀ k I J, k < 512 → LI k I J → c.1 (.ref 0 :: as) I J ∧ ∀ r I1 J1, c.2 (.ref 0 :: as) I J r I1 J1 → SC I I1 ∧ m.1 (.ref 30 :: as) I1 J1 ∧ ∀ r2 I2 J2, m.2 (.ref 30 :: as) I1 J1 r2 I2 J2 → r2 = r ∧ (∃ x, r = some (.int x)) ∧ SC I1 I2 ∧ LI (k + 1) I2 J2
def SIML (c m : mv_SP) (as : List Value) : Prop := ∀ k I J, k < 512 → LI k I J → c.1 (.ref 0 :: as) I J ∧ ∀ r I1 J1, c.2 (.ref 0 :: as) I J r I1 J1 → SC I I1 ∧ m.1 (.ref 30 :: as) I1 J1 ∧ ∀ r2 I2 J2, m.2 (.ref 30 :: as) I1 J1 r2 I2 J2 → r2 = r ∧ (∃ x, r = some (.long x)) ∧ SC I1 I2 ∧ LI (k + 1) I2 J2
/-- the class's cells, and the script's, are none of the reference's business -/
def CM (I I' : mv_I) : Prop := ∀ x, x < 30 ∨ 49 ≤ x → I' x = I x
theorem CM_rfl {I : mv_I} : CM I I := fun _ _ => rfl
theorem CM_trans {I I' I2 : mv_I} (h : CM I I') (h2 : CM I' I2) : CM I I2 := fun x hx => (h2 x hx).trans (h x hx)
theorem CM_si {I : mv_I} {a b : Nat} {x : Int32} (h : 30 ≤ a ∧ a < 49) : CM I (mv_si I a b x) := fun y hy => mv_si_ne (by omega)
theorem CM_sr {I : mv_I} {a : Nat} {f : Nat → Int32} (h : 30 ≤ a ∧ a < 49) : CM I (mv_sr I a f) := fun y hy => mv_sr_ne (by omega)
theorem CM_th {I : mv_I} : CM I (th I) := CM_si (by decide)
theorem CM_TF {I I' : mv_I} (h : TF I I') : CM I I' := fun x hx => h.1 x (by omega)
theorem CM_FRt {I I' : mv_I} (h : FRt I I') : CM I I' := fun x hx => h.1 x (by omega) (by omega)
theorem CM_nt {I : mv_I} : CM I (mnt I) := fun x hx => mnt_ne (by omega) (by omega)
theorem SC_rfl {I : mv_I} : SC I I := ⟨rfl, rfl⟩
theorem SC_CM {I I' : mv_I} (h : CM I I') : SC I I' := ⟨h 999 (by decide), h 998 (by decide)⟩
theorem SC_CF {I I' : mv_I} (h : CF I I') : SC I I' := ⟨h 999 (by decide), h 998 (by decide)⟩
theorem A0 {k : Nat} {I I1 : mv_I} {J : mv_J} (h : LI k I J) (hk : k < 512) (hC : CF I I1) : MH 9000 I1 ∧ REL k I I1 ∧ REL k I (th I1) := by
  have hR : REL k I I1 := REL_m (hC 31 (by decide)) (hC 32 (by decide)) (hC 33 (by decide)) (hC 34 (by decide)) (fun x _ => hC x (by omega)) (fun b _ => by rw [hC 30 (by decide)]) h.2.1
  exact ⟨REL_MH (by omega) hR, hR, REL_th hR⟩
theorem fin {k k' : Nat} {I1 I2 : mv_I} {J2 : mv_J} (hk : k ≤ k') (hS : SH I1) (hR : REL k I1 I2) (hc : CM I1 I2) (hJ : J2 0 7 = J2 30 24) : SC I1 I2 ∧ LI k' I2 J2 :=
  ⟨SC_CM hc, SH_cells hS hc, REL_c (fun x hx => hc x (by omega)) (REL_mono hk hR), hJ⟩
theorem REL_tr {k : Nat} {I I1 Im : mv_I} (hT : trOk I I1) (h : REL k I Im) : REL k I1 Im := REL_c (fun x hx => hT.1 x (by omega) (by omega) (by omega)) h
theorem SH_tr {I I1 : mv_I} (h : SH I) (hT : trOk I I1) : SH I1 := trOk_SH h hT
theorem REL_tg {k : Nat} {I I1 Im : mv_I} (hT : tgOk I I1) (h : REL k I Im) : REL k I1 Im := REL_c (fun x hx => hT.1 x (by omega) (by omega)) h
theorem sv_msv {N : Nat} {Ic Im : mv_I} (h : REL N Ic Im) (s : Int32) : sv Ic s ↔ msv Im s := by
  unfold sv msv
  rw [REL_sv h]
theorem some_int {x y : Int32} (h : x = y) : some (Value.int x) = some (.int y) := by rw [h]
theorem S_series (s w : Int32) : SIM sp_series sp_mSeries [.int s, .int w] := by
  intro k I J hk h
  refine ⟨⟨h.1, s, w, rfl⟩, fun r I1 J1 hp => ?_⟩
  obtain ⟨rfl, rfl, hr⟩ := hp
  obtain ⟨hM, -, hR⟩ := A0 h hk CF_rfl
  refine ⟨SC_rfl, ⟨hM, s, w, rfl⟩, fun r2 I2 J2 hq => ?_⟩
  obtain ⟨rfl, rfl, hr2⟩ := hq
  rw [hr s w rfl, hr2 s w rfl]
  refine ⟨some_int ?_, ⟨_, rfl⟩, fin (Nat.le_succ k) h.1 hR CM_th h.2.2⟩
  by_cases hs : sv I s
  · rw [if_pos hs, if_pos ((sv_msv hR s).mp hs)]
    obtain ⟨j, m, hm, hj, rfl, ej, -, -, hC⟩ := REL_in hR hs
    rw [scn, ej]
    by_cases hw : 0 ≤ w ∧ w ≤ 13
    · rw [if_pos hw, if_pos hw]
      obtain ⟨q, hq, rfl⟩ := in_nat (M := 13) (by decide) hw
      by_cases h0 : q = 0
      · subst h0
        rw [if_pos nI_0]
        exact hC.2.2.2.1.symm
      · rw [if_neg (nI_ne0 (by omega) (by omega)), nI_clamp (by omega)]
        exact (CR_tl (by omega) hC (by omega) hq).symm
    · rw [if_neg hw, if_neg hw]
  · rw [if_neg hs, if_neg (fun z => hs ((sv_msv hR s).mpr z))]
theorem S_past (s w : Int32) : SIM sp_past sp_mPast [.int s, .int w] := by
  intro k I J hk h
  refine ⟨⟨h.1, s, w, rfl⟩, fun r I1 J1 hp => ?_⟩
  obtain ⟨rfl, rfl, hr⟩ := hp
  obtain ⟨hM, -, hR⟩ := A0 h hk CF_rfl
  refine ⟨SC_rfl, ⟨hM, s, w, rfl⟩, fun r2 I2 J2 hq => ?_⟩
  obtain ⟨rfl, rfl, hr2⟩ := hq
  rw [hr s w rfl, hr2 s w rfl]
  refine ⟨some_int ?_, ⟨_, rfl⟩, fin (Nat.le_succ k) h.1 hR CM_th h.2.2⟩
  by_cases hs : sv I s
  · rw [if_pos hs, if_pos ((sv_msv hR s).mp hs)]
    obtain ⟨j, m, hm, hj, rfl, ej, -, -, hC⟩ := REL_in hR hs
    rw [scn, ej]
    obtain ⟨n, d, q1, q2, q3, e15, e7, q⟩ := hC.2.1
    have e11 : th I 39 (24 * j + 11) = nI n := by rw [← e15]; exact (hC.1 11 (by decide)).symm
    rw [e15, e11]
    by_cases hw : 0 ≤ w ∧ w ≤ nI n - 1
    · rw [if_pos hw, if_pos hw]
      obtain ⟨i, hi, rfl⟩ := mv_upto (m := n) (by omega) hw.1 hw.2
      rw [nI_clamp (by omega)]
      exact (q i hi).symm
    · rw [if_neg hw, if_neg hw]
  · rw [if_neg hs, if_neg (fun z => hs ((sv_msv hR s).mpr z))]
theorem S_ahead (n v s w : Int32) : SIM sp_ahead sp_mAhead [.int n, .int v, .int s, .int w] := by
  intro k I J hk h
  refine ⟨⟨h.1, n, v, s, w, rfl⟩, fun r I1 J1 hp => ?_⟩
  obtain ⟨rfl, hT, hr⟩ := hp
  obtain ⟨hM, -, hR⟩ := A0 h hk (CF_tr hT)
  refine ⟨SC_CF (CF_tr hT), ⟨hM, n, v, s, w, rfl⟩, fun r2 I2 J2 hq => ?_⟩
  obtain ⟨rfl, hT2, hr2⟩ := hq
  rw [hr n v s w rfl, hr2 n v s w rfl]
  refine ⟨some_int ?_, ⟨_, rfl⟩, fin (Nat.le_succ k) (SH_tr h.1 hT) (REL_tr hT (REL_TF hT2 hR)) (CM_trans CM_th (CM_TF hT2)) h.2.2⟩
  by_cases hs : sv I s
  · rw [if_pos hs, if_pos ((sv_msv hR s).mp hs)]
    obtain ⟨j, m, hm, hj, rfl, ej, -, -, hC⟩ := REL_in hR hs
    rw [scn, ej]
    by_cases hw : (0 ≤ n ∧ n ≤ 60) ∧ (0 ≤ v ∧ v ≤ 99) ∧ (5 ≤ w ∧ w ≤ 13)
    · rw [if_pos hw, if_pos hw]
      obtain ⟨x, hx, rfl⟩ := in_nat (M := 60) (by decide) hw.1
      obtain ⟨q, hq, rfl⟩ := in_nat (M := 13) (by decide) ⟨Int32.le_trans (by decide) hw.2.2.1, hw.2.2.2⟩
      have h5 : 5 ≤ q := (nI_leI (a := 5) (by decide) (by omega)).mp hw.2.2.1
      rw [nI_clamp (by omega), nI_clamp (by omega)]
      exact (CR_tl (by omega) (CR_N (by omega) (CR_try (by omega) hC) v x (by omega)) (by omega) hq).symm
    · rw [if_neg hw, if_neg hw]
  · rw [if_neg hs, if_neg (fun z => hs ((sv_msv hR s).mpr z))]
theorem S_rings (s v : Int32) : SIM sp_rings sp_mRings [.int s, .int v] := by
  intro k I J hk h
  refine ⟨⟨h.1, s, v, rfl⟩, fun r I1 J1 hp => ?_⟩
  obtain ⟨rfl, hT, hr⟩ := hp
  obtain ⟨hM, -, hR⟩ := A0 h hk (CF_tr hT)
  refine ⟨SC_CF (CF_tr hT), ⟨hM, s, v, rfl⟩, fun r2 I2 J2 hq => ?_⟩
  obtain ⟨rfl, hT2, hr2⟩ := hq
  rw [hr s v rfl, hr2 s v rfl]
  refine ⟨some_int ?_, ⟨_, rfl⟩, fin (Nat.le_succ k) (SH_tr h.1 hT) (REL_tr hT (REL_TF hT2 hR)) (CM_trans CM_th (CM_TF hT2)) h.2.2⟩
  by_cases hs : sv I s
  · rw [if_pos hs, if_pos ((sv_msv hR s).mp hs)]
    obtain ⟨j, m, hm, hj, rfl, ej, -, -, hC⟩ := REL_in hR hs
    rw [scn, ej]
    by_cases hw : 0 ≤ v ∧ v ≤ 99
    · rw [if_pos hw, if_pos hw]
      exact (far_eq (by omega) (CR_try (by omega) hC) v 60 0 (by omega)).symm
    · rw [if_neg hw, if_neg hw]
  · rw [if_neg hs, if_neg (fun z => hs ((sv_msv hR s).mpr z))]
theorem S_least (s n : Int32) : SIM sp_least sp_mLeast [.int s, .int n] := by
  intro k I J hk h
  refine ⟨⟨h.1, s, n, rfl⟩, fun r I1 J1 hp => ?_⟩
  obtain ⟨rfl, hT, hr⟩ := hp
  obtain ⟨hM, -, hR⟩ := A0 h hk (CF_tr hT)
  refine ⟨SC_CF (CF_tr hT), ⟨hM, s, n, rfl⟩, fun r2 I2 J2 hq => ?_⟩
  obtain ⟨rfl, hT2, hr2⟩ := hq
  rw [hr s n rfl, hr2 s n rfl]
  refine ⟨some_int ?_, ⟨_, rfl⟩, fin (Nat.le_succ k) (SH_tr h.1 hT) (REL_tr hT (REL_TF hT2 hR)) (CM_trans CM_th (CM_TF hT2)) h.2.2⟩
  by_cases hs : sv I s
  · rw [if_pos hs, if_pos ((sv_msv hR s).mp hs)]
    obtain ⟨j, m, hm, hj, rfl, ej, -, -, hC⟩ := REL_in hR hs
    rw [scn, ej]
    by_cases hw : 1 ≤ n ∧ n ≤ 30
    · rw [if_pos hw, if_pos hw]
      obtain ⟨x, hx1, hx, rfl⟩ := in_nat1 (M := 30) (by decide) hw
      rw [nI_clamp (by omega)]
      exact (lst_eq (by omega) (CR_try (by omega) hC) (by omega) 100 0).symm
    · rw [if_neg hw, if_neg hw]
  · rw [if_neg hs, if_neg (fun z => hs ((sv_msv hR s).mpr z))]
theorem S_would (s q w : Int32) : SIM sp_would sp_mWould [.int s, .int q, .int w] := by
  intro k I J hk h
  refine ⟨⟨h.1, s, q, w, rfl⟩, fun r I1 J1 hp => ?_⟩
  obtain ⟨rfl, rfl, hr⟩ := hp
  obtain ⟨hM, hR0, hR⟩ := A0 h hk CF_rfl
  refine ⟨SC_rfl, ⟨hM, s, q, w, rfl, fun hs => ?_⟩, fun r2 I2 J2 hq => ?_⟩
  · obtain ⟨j, m, hm, hj, rfl, ej, -, -, hC⟩ := REL_in hR0 ((sv_msv hR0 s).mpr hs)
    obtain ⟨n, d, q1, q2, q3, e15, e7, -⟩ := hC.2.1
    rw [ej]
    exact ⟨n, d, q2, by omega, q1, by rw [← e15]; exact (hC.1 11 (by decide)).symm, by rw [← e7]; exact (hC.1 4 (by decide)).symm⟩
  obtain ⟨rfl, rfl, hr2⟩ := hq
  rw [hr s q w rfl, hr2 s q w rfl]
  refine ⟨some_int ?_, ⟨_, rfl⟩, fin (Nat.le_succ k) h.1 hR CM_th h.2.2⟩
  by_cases hs : sv I s
  · rw [if_pos hs, if_pos ((sv_msv hR s).mp hs)]
    obtain ⟨j, m, hm, hj, rfl, ej, -, -, hC⟩ := REL_in hR hs
    rw [scn, ej]
    by_cases hw : (0 ≤ q ∧ q ≤ 9) ∧ (1 ≤ w ∧ w ≤ 99)
    · rw [if_pos hw, if_pos hw]
      obtain ⟨n, d, q1, q2, q3, e15, e7, -⟩ := hC.2.1
      have e11 : th I 39 (24 * j + 11) = nI n := by rw [← e15]; exact (hC.1 11 (by decide)).symm
      rw [e15, e11, nI_clamp (by omega)]
      exact (rep_eq (by omega) hC q w e15 q1 n 0 (by omega) 0 0).symm
    · rw [if_neg hw, if_neg hw]
  · rw [if_neg hs, if_neg (fun z => hs ((sv_msv hR s).mpr z))]
theorem S_ranked (p : Int32) : SIM sp_ranked sp_mRanked [.int p] := by
  intro k I J hk h
  refine ⟨⟨h.1, p, rfl⟩, fun r I1 J1 hp => ?_⟩
  obtain ⟨rfl, rfl, hr⟩ := hp
  obtain ⟨hM, -, hR⟩ := A0 h hk CF_rfl
  refine ⟨SC_rfl, ⟨hM, p, rfl⟩, fun r2 I2 J2 hq => ?_⟩
  obtain ⟨rfl, rfl, hr2⟩ := hq
  have hr1 : r = some (.int (rkdF I p (I 400 1).toNatClampNeg (I 400 1).toNatClampNeg 0)) := hr
  rw [hr1, hr2 p rfl]
  refine ⟨some_int ?_, ⟨_, rfl⟩, fin (Nat.le_succ k) h.1 hR CM_th h.2.2⟩
  obtain ⟨m, hm, em⟩ := SH_now h.1
  have e4 : th I 30 4 = nI m := by rw [← em]; exact (REL_sv hR).symm
  have e4' : (th I 30 4).toNatClampNeg = m := by rw [e4]; exact nI_clamp (by omega)
  rw [em, e4', nI_clamp (by omega)]
  exact (ranked_eq hR hm em p).symm
theorem S_which : SIM sp_which sp_mWhich [] := by
  intro k I J hk h
  refine ⟨⟨h.1, rfl⟩, fun r I1 J1 hp => ?_⟩
  obtain ⟨rfl, hT, hr⟩ := hp
  obtain ⟨hM, -, hR⟩ := A0 h hk (CF_tr hT)
  refine ⟨SC_CF (CF_tr hT), ⟨hM, rfl⟩, fun r2 I2 J2 hq => ?_⟩
  obtain ⟨rfl, hT2, hr2⟩ := hq
  rw [hr, hr2]
  refine ⟨some_int ?_, ⟨_, rfl⟩, fin (Nat.le_succ k) (SH_tr h.1 hT) (REL_tr hT (REL_TF hT2 hR)) (CM_trans CM_th (CM_TF hT2)) h.2.2⟩
  obtain ⟨q, hq, e6, e19, -⟩ := hR.2.2
  rw [e6, e19, nI_clamp (by omega)]
  exact (which_eq (by omega) hR e6 hq 32).symm
theorem S_share (s q u : Int32) : SIM sp_share sp_mShare [.int s, .int q, .int u] := by
  intro k I J hk h
  refine ⟨⟨h.1, s, q, u, rfl⟩, fun r I1 J1 hp => ?_⟩
  obtain ⟨rfl, rfl, hr⟩ := hp
  obtain ⟨hM, -, hR⟩ := A0 h hk CF_rfl
  refine ⟨SC_rfl, ⟨hM, s, q, u, rfl⟩, fun r2 I2 J2 hq => ?_⟩
  obtain ⟨rfl, rfl, hr2⟩ := hq
  rw [hr s q u rfl, hr2 s q u rfl]
  refine ⟨some_int ?_, ⟨_, rfl⟩, fin (Nat.le_succ k) h.1 hR CM_th h.2.2⟩
  by_cases hs : sv I s
  · rw [if_pos hs, if_pos ((sv_msv hR s).mp hs)]
    obtain ⟨j, m, hm, hj, rfl, ej, em, e4, hC⟩ := REL_in hR hs
    by_cases hw : 1 ≤ q ∧ q ≤ 99
    · rw [if_pos hw, if_pos hw, ej, em, e4, nI_clamp (by omega)]
      exact (share_eq hR hm hj em q u).symm
    · rw [if_neg hw, if_neg hw]
  · rw [if_neg hs, if_neg (fun z => hs ((sv_msv hR s).mpr z))]
theorem S_lost (s v n x u : Int32) : SIM sp_lost sp_mLost [.int s, .int v, .int n, .int x, .int u] := by
  intro k I J hk h
  refine ⟨⟨h.1, s, v, n, x, u, rfl⟩, fun r I1 J1 hp => ?_⟩
  obtain ⟨rfl, hT, hr⟩ := hp
  obtain ⟨hM, -, hR⟩ := A0 h hk (CF_tr hT)
  refine ⟨SC_CF (CF_tr hT), ⟨hM, s, v, n, x, u, rfl⟩, fun r2 I2 J2 hq => ?_⟩
  obtain ⟨rfl, hT2, hr2⟩ := hq
  rw [hr s v n x u rfl, hr2 s v n x u rfl]
  refine ⟨some_int ?_, ⟨_, rfl⟩, fin (Nat.le_succ k) (SH_tr h.1 hT) (REL_tr hT (REL_TF hT2 hR)) (CM_trans CM_th (CM_TF hT2)) h.2.2⟩
  by_cases hs : sv I s
  · rw [if_pos hs, if_pos ((sv_msv hR s).mp hs)]
    obtain ⟨j, m, hm, hj, rfl, ej, -, -, hC⟩ := REL_in hR hs
    rw [scn, ej]
    by_cases hw : (0 ≤ v ∧ v ≤ 99) ∧ (1 ≤ n ∧ n ≤ 6) ∧ (0 ≤ x ∧ x ≤ 10)
    · rw [if_pos hw, if_pos hw]
      obtain ⟨y, hy, rfl⟩ := in_nat (M := 10) (by decide) hw.2.2
      obtain ⟨z, hz1, hz, rfl⟩ := in_nat1 (M := 6) (by decide) hw.2.1
      rw [nI_clamp (by omega), nI_clamp (by omega)]
      exact (lost_eq (by omega) (by omega) hC hz hy v u).symm
    · rw [if_neg hw, if_neg hw]
  · rw [if_neg hs, if_neg (fun z => hs ((sv_msv hR s).mpr z))]
