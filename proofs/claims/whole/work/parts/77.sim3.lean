theorem pre_note {k : Nat} {I I1 : mv_I} (hR : REL k I (th I1)) {s : Int32} (hs : sv I s) : ∃ j m : Nat, m ≤ 5 ∧ j < m ∧ s = nI j ∧ s.toNatClampNeg = j ∧ remI I 400 1 = nI m ∧ REL k (remI I) (mnt (th I1)) ∧ CR k (remI I) (100 + 3 * j) (mnt (th I1)) 39 (24 * j) j := by
  have hN := REL_note hR
  have hs2 : sv (remI I) s := by
    rw [sv_msv hN s]
    unfold msv
    rw [mnt_30 (by decide)]
    exact (sv_msv hR s).mp hs
  obtain ⟨j, m, hm, hj, rfl, ej, em, -, hC⟩ := REL_in hN hs2
  exact ⟨j, m, hm, hj, rfl, ej, em, hN, hC⟩
theorem CR_15 {N : Nat} {Ic Im : mv_I} {o r a s : Nat} (h : CR N Ic o Im r a s) : ∃ k : Nat, k ≤ 12 ∧ Ic o 15 = nI k := by
  obtain ⟨n, d, q1, q2, q3, e15, -⟩ := h.2.1
  exact ⟨n, q1, e15⟩
theorem S_tell (s v : Int32) : SIM sp_tell sp_mTell [.int s, .int v] := by
  intro k I J hk h
  refine ⟨⟨h.1, s, v, rfl⟩, fun r I1 J1 hp => ?_⟩
  obtain ⟨rfl, hr⟩ := hp
  have hr := hr s v rfl
  by_cases hs : sv I s
  · rw [if_pos hs] at hr
    by_cases hv : 0 ≤ v ∧ v ≤ 99
    · rw [if_pos hv] at hr
      obtain ⟨rfl, rfl⟩ := hr
      obtain ⟨j0, hj0, ej0⟩ : ∃ j0 : Nat, j0 < 91 ∧ scn s = 100 + 3 * j0 := by
        obtain ⟨j, m, hm, hj, rfl, ej, -⟩ := REL_in h.2.1 hs
        exact ⟨j, by omega, by rw [scn, ej]⟩
      have hC : CF I (addI (remI I) (scn s) v) := by
        rw [ej0]
        exact CF_trans (CF_rem h.1) (CF_add hj0)
      obtain ⟨hM, -, hR0⟩ := A0 h hk hC
      obtain ⟨j, m, hm, hj, rfl, ej, em, hN, hCR⟩ := pre_note hR0 hs
      rw [show scn (nI j) = 100 + 3 * j by rw [scn, ej]] at hC hM hN hCR hR0 ⊢
      have hA := CR_add hr39 (by omega) hCR v
      have hS : SH (addI (remI I) (100 + 3 * j) v) := SH_chart (SH_rem2 h.1) (j := j) (by omega) (fun x h1 h2 => addI_ne h1 h2) (CR_15 hA)
      refine ⟨SC_CF hC, ⟨hM, _, v, rfl⟩, fun r2 I2 J2 hq => ?_⟩
      obtain ⟨rfl, hr2⟩ := hq
      have hr2 := hr2 _ v rfl
      rw [if_pos ((sv_msv hR0 _).mp hs), if_pos hv, ej] at hr2
      obtain ⟨rfl, rfl⟩ := hr2
      refine ⟨some_int (aK_mK (by omega) hCR v).symm, ⟨_, rfl⟩, fin (k := k + 1) (Nat.le_refl _) hS ?_ (CM_trans CM_th (CM_trans CM_nt CM_mct)) h.2.2⟩
      exact REL_chart (Nat.le_succ k) hN em hm hj (fun x h1 h2 => addI_ne h1 h2) (fun x hx => mct_ne hx) (fun b hb => mct_out (by decide) (CR_MB hCR) hb) hA
    · rw [if_neg hv] at hr
      obtain ⟨rfl, rfl⟩ := hr
      obtain ⟨hM, -, hR⟩ := A0 h hk CF_rfl
      refine ⟨SC_rfl, ⟨hM, s, v, rfl⟩, fun r2 I2 J2 hq => ?_⟩
      obtain ⟨rfl, hr2⟩ := hq
      have hr2 := hr2 s v rfl
      rw [if_pos ((sv_msv hR _).mp hs), if_neg hv] at hr2
      obtain ⟨rfl, rfl⟩ := hr2
      exact ⟨rfl, ⟨_, rfl⟩, fin (Nat.le_succ k) h.1 hR CM_th h.2.2⟩
  · rw [if_neg hs] at hr
    obtain ⟨rfl, rfl⟩ := hr
    obtain ⟨hM, -, hR⟩ := A0 h hk CF_rfl
    refine ⟨SC_rfl, ⟨hM, s, v, rfl⟩, fun r2 I2 J2 hq => ?_⟩
    obtain ⟨rfl, hr2⟩ := hq
    have hr2 := hr2 s v rfl
    rw [if_neg (fun z => hs ((sv_msv hR s).mpr z))] at hr2
    obtain ⟨rfl, rfl⟩ := hr2
    exact ⟨rfl, ⟨_, rfl⟩, fin (Nat.le_succ k) h.1 hR CM_th h.2.2⟩
theorem S_gap (s : Int32) : SIM sp_gap sp_mGap [.int s] := by
  intro k I J hk h
  refine ⟨⟨h.1, s, rfl⟩, fun r I1 J1 hp => ?_⟩
  obtain ⟨rfl, hr⟩ := hp
  have hr := hr s rfl
  by_cases hs : sv I s
  · rw [if_pos hs] at hr
    obtain ⟨rfl, rfl⟩ := hr
    obtain ⟨j0, hj0, ej0⟩ : ∃ j0 : Nat, j0 < 91 ∧ scn s = 100 + 3 * j0 := by
      obtain ⟨j, m, hm, hj, rfl, ej, -⟩ := REL_in h.2.1 hs
      exact ⟨j, by omega, by rw [scn, ej]⟩
    have hC : CF I (appI (remI I) (scn s) (-9)) := by
      rw [ej0]
      exact CF_trans (CF_rem h.1) (CF_app hj0)
    obtain ⟨hM, -, hR0⟩ := A0 h hk hC
    obtain ⟨j, m, hm, hj, rfl, ej, em, hN, hCR⟩ := pre_note hR0 hs
    rw [show scn (nI j) = 100 + 3 * j by rw [scn, ej]] at hC hM hN hCR hR0 ⊢
    have hA := CR_app hr39 (by omega) hCR (-9)
    have hS : SH (appI (remI I) (100 + 3 * j) (-9)) := SH_chart (SH_rem2 h.1) (j := j) (by omega) (fun x h1 h2 => appI_ne h1 h2) (CR_15 hA)
    refine ⟨SC_CF hC, ⟨hM, _, rfl⟩, fun r2 I2 J2 hq => ?_⟩
    obtain ⟨rfl, hr2⟩ := hq
    have hr2 := hr2 _ rfl
    rw [if_pos ((sv_msv hR0 _).mp hs), ej] at hr2
    obtain ⟨rfl, rfl⟩ := hr2
    refine ⟨some_int (hA.1 4 (by decide)).symm, ⟨_, rfl⟩, fin (k := k + 1) (Nat.le_refl _) hS ?_ (CM_trans CM_th (CM_trans CM_nt CM_mcm)) h.2.2⟩
    exact REL_chart (Nat.le_succ k) hN em hm hj (fun x h1 h2 => appI_ne h1 h2) (fun x hx => mcm_ne hx) (fun b hb => mcm_out (CR_MB hCR) hb) hA
  · rw [if_neg hs] at hr
    obtain ⟨rfl, rfl⟩ := hr
    obtain ⟨hM, -, hR⟩ := A0 h hk CF_rfl
    refine ⟨SC_rfl, ⟨hM, s, rfl⟩, fun r2 I2 J2 hq => ?_⟩
    obtain ⟨rfl, hr2⟩ := hq
    have hr2 := hr2 s rfl
    rw [if_neg (fun z => hs ((sv_msv hR s).mpr z))] at hr2
    obtain ⟨rfl, rfl⟩ := hr2
    exact ⟨rfl, ⟨_, rfl⟩, fin (Nat.le_succ k) h.1 hR CM_th h.2.2⟩
theorem dropI_ne {I : mv_I} {o x : Nat} (h : x ≠ o) : dropI I o x = I x := by
  unfold dropI
  rw [mv_si_ne h, mv_si_ne h]
theorem S_clear (s : Int32) : SIM sp_clear sp_mClear [.int s] := by
  intro k I J hk h
  refine ⟨⟨h.1, s, rfl⟩, fun r I1 J1 hp => ?_⟩
  obtain ⟨rfl, hr⟩ := hp
  have hr := hr s rfl
  by_cases hs : sv I s
  · rw [if_pos hs] at hr
    obtain ⟨rfl, rfl⟩ := hr
    obtain ⟨j0, hj0, ej0⟩ : ∃ j0 : Nat, j0 < 91 ∧ scn s = 100 + 3 * j0 := by
      obtain ⟨j, m, hm, hj, rfl, ej, -⟩ := REL_in h.2.1 hs
      exact ⟨j, by omega, by rw [scn, ej]⟩
    have hC : CF I (dropI (remI I) (scn s)) := by
      rw [ej0]
      exact CF_trans (CF_rem h.1) (fun x hx => dropI_ne (by omega))
    obtain ⟨hM, -, hR0⟩ := A0 h hk hC
    obtain ⟨j1, m1, -, -, e1, ej1, -, -, hC0⟩ := REL_in hR0 hs
    obtain ⟨j, m, hm, hj, rfl, ej, em, hN, hCR⟩ := pre_note hR0 hs
    have e1 : j1 = j := ej1.symm.trans ej
    subst e1
    rw [show scn (nI j1) = 100 + 3 * j1 by rw [scn, ej]] at hC hM hN hCR hR0 hC0 ⊢
    have hA := CR_drop hr39 rfl hCR
    have hS : SH (dropI (remI I) (100 + 3 * j1)) := SH_chart (SH_rem2 h.1) (j := j1) (by omega) (fun x h1 _ => dropI_ne h1) (CR_15 hA)
    refine ⟨SC_CF hC, ⟨hM, _, rfl⟩, fun r2 I2 J2 hq => ?_⟩
    obtain ⟨rfl, hr2⟩ := hq
    have hr2 := hr2 _ rfl
    rw [if_pos ((sv_msv hR0 _).mp hs), ej] at hr2
    obtain ⟨rfl, rfl⟩ := hr2
    refine ⟨some_int ?_, ⟨_, rfl⟩, fin (k := k) (Nat.le_succ k) hS ?_ (CM_trans CM_th (CM_trans CM_nt CM_dr)) h.2.2⟩
    · rw [mnt_ne (by decide) (by decide), show I (100 + 3 * j1) 8 = _ from hC0.1 5 (by decide), show I (100 + 3 * j1) 9 = _ from hC0.1 6 (by decide)]
    · refine REL_chart (Nat.le_refl k) hN em hm hj (fun x h1 _ => dropI_ne h1) (fun x hx => ?_) (fun b hb => ?_) hA
      · unfold mdr
        rw [mv_si_ne hx, mv_si_ne hx]
      · unfold mdr
        rw [mv_si_ap, if_neg (by omega), mv_si_ap, if_neg (by omega)]
  · rw [if_neg hs] at hr
    obtain ⟨rfl, rfl⟩ := hr
    obtain ⟨hM, -, hR⟩ := A0 h hk CF_rfl
    refine ⟨SC_rfl, ⟨hM, s, rfl⟩, fun r2 I2 J2 hq => ?_⟩
    obtain ⟨rfl, hr2⟩ := hq
    have hr2 := hr2 s rfl
    rw [if_neg (fun z => hs ((sv_msv hR s).mpr z))] at hr2
    obtain ⟨rfl, rfl⟩ := hr2
    exact ⟨rfl, ⟨_, rfl⟩, fin (Nat.le_succ k) h.1 hR CM_th h.2.2⟩
