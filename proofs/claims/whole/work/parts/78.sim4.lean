theorem alw_k {w v : Int32} (h : alwP w v) : ∃ k : Nat, k < 4 ∧ w = nI k ∧ parF w = k + 1 := by
  unfold alwP at h
  by_cases h0 : w = 0
  · exact ⟨0, by decide, h0, by rw [h0]; rfl⟩
  · rw [if_neg h0] at h
    by_cases h1 : w = 1
    · exact ⟨1, by decide, h1, by rw [h1]; rfl⟩
    · rw [if_neg h1] at h
      by_cases h2 : w = 2
      · exact ⟨2, by decide, h2, by rw [h2]; rfl⟩
      · rw [if_neg h2] at h
        by_cases h3 : w = 3
        · exact ⟨3, by decide, h3, by rw [h3]; rfl⟩
        · rw [if_neg h3] at h
          exact h.elim
theorem S_set (s w v : Int32) : SIM sp_set sp_mSet [.int s, .int w, .int v] := by
  intro k I J hk h
  refine ⟨⟨h.1, s, w, v, rfl⟩, fun r I1 J1 hp => ?_⟩
  obtain ⟨rfl, hr⟩ := hp
  obtain ⟨hr1, hr2, hr3⟩ := hr s w v rfl
  by_cases hs : sv I s
  · by_cases hv : alwP w v
    · obtain ⟨rfl, rfl⟩ := hr1 hs hv
      clear hr1 hr2 hr3
      obtain ⟨q, hq4, rfl, ep⟩ := alw_k hv
      rw [ep]
      obtain ⟨j0, hj0, ej0⟩ : ∃ j0 : Nat, j0 < 91 ∧ scn s = 100 + 3 * j0 := by
        obtain ⟨j, m, hm, hj, rfl, ej, -⟩ := REL_in h.2.1 hs
        exact ⟨j, by omega, by rw [scn, ej]⟩
      have hC : CF I (mv_si (remI I) (scn s) (q + 1) v) := by
        rw [ej0]
        exact CF_trans (CF_rem h.1) (CF_si (by omega))
      obtain ⟨hM, -, hR0⟩ := A0 h hk hC
      obtain ⟨j1, m1, -, -, e1, ej1, -, -, hC0⟩ := REL_in hR0 hs
      obtain ⟨j, m, hm, hj, rfl, ej, em, hN, hCR⟩ := pre_note hR0 hs
      have e1 : j1 = j := ej1.symm.trans ej
      subst e1
      rw [show scn (nI j1) = 100 + 3 * j1 by rw [scn, ej]] at hC hM hN hCR hR0 hC0 ⊢
      have hA := CR_set hr39 hq4 hv hCR
      have hS : SH (mv_si (remI I) (100 + 3 * j1) (q + 1) v) := SH_chart (SH_rem2 h.1) (j := j1) (by omega) (fun x h1 _ => mv_si_ne h1) (CR_15 hA)
      refine ⟨SC_CF hC, ⟨hM, _, _, v, rfl⟩, fun r2 I2 J2 hq => ?_⟩
      obtain ⟨rfl, hr2⟩ := hq
      obtain ⟨hr2, -, -⟩ := hr2 _ _ v rfl
      obtain ⟨rfl, rfl⟩ := hr2 ((sv_msv hR0 _).mp hs) hv
      rw [ej, nI_clamp (by omega)]
      refine ⟨some_int ?_, ⟨_, rfl⟩, fin (k := k) (Nat.le_succ k) hS ?_ (CM_trans CM_th (CM_trans CM_nt (CM_si (by decide)))) h.2.2⟩
      · rw [mnt_ne (by decide) (by decide)]
        have := hC0.1 q (by omega)
        rw [← this]
        match q, hq4 with
        | 0, _ => rfl
        | 1, _ => rfl
        | 2, _ => rfl
        | 3, _ => rfl
      · refine REL_chart (Nat.le_refl k) hN em hm hj (fun x h1 _ => mv_si_ne h1) (fun x hx => mv_si_ne hx) (fun b hb => ?_) hA
        rw [mv_si_ap, if_neg (by omega)]
    · obtain ⟨rfl, rfl⟩ := hr2 hs hv
      obtain ⟨hM, -, hR⟩ := A0 h hk CF_rfl
      refine ⟨SC_rfl, ⟨hM, s, w, v, rfl⟩, fun r2 I2 J2 hq => ?_⟩
      obtain ⟨rfl, hq2⟩ := hq
      obtain ⟨-, hq2, -⟩ := hq2 s w v rfl
      obtain ⟨rfl, rfl⟩ := hq2 ((sv_msv hR s).mp hs) hv
      exact ⟨rfl, ⟨_, rfl⟩, fin (Nat.le_succ k) h.1 hR CM_th h.2.2⟩
  · obtain ⟨rfl, rfl⟩ := hr3 hs
    obtain ⟨hM, -, hR⟩ := A0 h hk CF_rfl
    refine ⟨SC_rfl, ⟨hM, s, w, v, rfl⟩, fun r2 I2 J2 hq => ?_⟩
    obtain ⟨rfl, hq2⟩ := hq
    obtain ⟨-, -, hq2⟩ := hq2 s w v rfl
    obtain ⟨rfl, rfl⟩ := hq2 (fun z => hs ((sv_msv hR s).mpr z))
    exact ⟨rfl, ⟨_, rfl⟩, fin (Nat.le_succ k) h.1 hR CM_th h.2.2⟩
theorem mds_nat {W : Nat} (hW : W < 100000) : mds (nI W) = nI (W / 10000 + W / 1000 % 10 + W / 100 % 10 + W / 10 % 10 + W % 10) := by
  have d4 : nI W / 10000 = nI (W / 10000) := pk_div (d := 10000) (by omega) (by decide) (by decide)
  have d3 : nI W / 1000 = nI (W / 1000) := pk_div (d := 1000) (by omega) (by decide) (by decide)
  have d2 : nI W / 100 = nI (W / 100) := pk_div (d := 100) (by omega) (by decide) (by decide)
  have d1 : nI W / 10 = nI (W / 10) := pk_div (d := 10) (by omega) (by decide) (by decide)
  have m3 : nI (W / 1000) - nI (W / 1000) / 10 * 10 = nI (W / 1000 % 10) := pk_rem (d := 10) (by omega) (by decide) (by decide)
  have m2 : nI (W / 100) - nI (W / 100) / 10 * 10 = nI (W / 100 % 10) := pk_rem (d := 10) (by omega) (by decide) (by decide)
  have m1 : nI (W / 10) - nI (W / 10) / 10 * 10 = nI (W / 10 % 10) := pk_rem (d := 10) (by omega) (by decide) (by decide)
  have m0 : nI W - nI W / 10 * 10 = nI (W % 10) := pk_rem (d := 10) (by omega) (by decide) (by decide)
  unfold mds
  rw [m0, d4, d3, d2, d1, m3, m2, m1, nI_add, nI_add, nI_add, nI_add]
theorem in_big {n : Int32} {M : Nat} (hM : M < 2 ^ 31) (h : 0 ≤ n ∧ n ≤ nI M) : ∃ q : Nat, q ≤ M ∧ n = nI q := by
  obtain ⟨j, hj, rfl⟩ := nI_of (x := n) (Int32.not_lt.mpr h.1)
  exact ⟨j, (nI_leI hj hM).mp h.2, rfl⟩
theorem dg_mdg (w : Int32) : (dgP w ↔ mdgP w) ∧ (dgP w → LC w) := by
  by_cases hw : 0 ≤ w ∧ w ≤ 99999
  · obtain ⟨W, hW, rfl⟩ := in_big (M := 99999) (by decide) hw
    have e : 0 + chF (nI W) 0 + chF (nI W) 1 + chF (nI W) 2 + chF (nI W) 3 + chF (nI W) 4 = nI (W / 10000 + W / 1000 % 10 + W / 100 % 10 + W / 10 % 10 + W % 10) := by
      rw [ch_nat (by omega), ch_nat (by omega), ch_nat (by omega), ch_nat (by omega), ch_nat (by omega), ← nI_0, nI_add, nI_add, nI_add, nI_add, nI_add]
      congr 1
      omega
    have hm := mds_nat (W := W) (by omega)
    refine ⟨⟨fun z => ⟨hw, ?_⟩, fun z => ⟨hw.1, hw.2, ?_⟩⟩, fun z => ⟨W, by omega, rfl, ?_⟩⟩
    · rw [hm, ← e]
      exact z.2.2
    · rw [e, ← hm]
      exact z.2
    · have := z.2.2
      rw [e] at this
      exact (nI_eq (b := 10) (by omega) (by decide)).mp this
  · exact ⟨⟨fun z => absurd ⟨z.1, z.2.1⟩ hw, fun z => absurd z.1 hw⟩, fun z => absurd ⟨z.1, z.2.1⟩ hw⟩
theorem S_chances (w : Int32) : SIM sp_chances sp_mChances [.int w] := by
  intro k I J hk h
  refine ⟨⟨h.1, w, rfl⟩, fun r I1 J1 hp => ?_⟩
  obtain ⟨rfl, hr⟩ := hp
  have hr := hr w rfl
  by_cases hw : dgP w
  · rw [if_pos hw] at hr
    obtain ⟨rfl, rfl⟩ := hr
    have hC : CF I (mv_si (remI I) 400 2 w) := CF_trans (CF_rem h.1) (CF_si (by decide))
    obtain ⟨hM, -, hR⟩ := A0 h hk hC
    refine ⟨SC_CF hC, ⟨hM, w, rfl⟩, fun r2 I2 J2 hq => ?_⟩
    obtain ⟨rfl, hr2⟩ := hq
    have hr2 := hr2 w rfl
    rw [if_pos ((dg_mdg w).1.mp hw)] at hr2
    obtain ⟨rfl, rfl⟩ := hr2
    refine ⟨some_int ?_, ⟨_, rfl⟩, fin (k := k) (Nat.le_succ k) (SH_si (SH_rem2 h.1) (fun g _ => by omega) (fun c _ => by omega) (fun z => absurd z (by decide)) (fun z => absurd z (by decide)) (fun z => absurd z (by decide)) (fun z => absurd z (by decide)) (fun i _ z => absurd z (by omega))) (REL_chances (REL_note hR) ((dg_mdg w).2 hw)) (CM_trans CM_th (CM_trans CM_nt (CM_si (by decide)))) h.2.2⟩
    rw [mnt_ne (by decide) (by decide)]
    obtain ⟨-, ⟨m, hm, e4, hG, -⟩, -⟩ := hR
    exact hG.2.1.symm
  · rw [if_neg hw] at hr
    obtain ⟨rfl, rfl⟩ := hr
    obtain ⟨hM, -, hR⟩ := A0 h hk CF_rfl
    refine ⟨SC_rfl, ⟨hM, w, rfl⟩, fun r2 I2 J2 hq => ?_⟩
    obtain ⟨rfl, hr2⟩ := hq
    have hr2 := hr2 w rfl
    rw [if_neg (fun z => hw ((dg_mdg w).1.mpr z))] at hr2
    obtain ⟨rfl, rfl⟩ := hr2
    exact ⟨rfl, ⟨_, rfl⟩, fin (Nat.le_succ k) h.1 hR CM_th h.2.2⟩
theorem REL_16 {k : Nat} {I Im : mv_I} (h : REL k I Im) : I 3 2 = Im 30 16 := by
  obtain ⟨-, ⟨m, hm, e4, hG, ⟨x, d, a1, a2, a3, a4, a5, a6⟩, hk⟩, -⟩ := h
  rw [a4, a5]
theorem S_undo : SIM sp_undo sp_mUndo [] := by
  intro k I J hk h
  refine ⟨⟨h.1, rfl⟩, fun r I1 J1 hp => ?_⟩
  obtain ⟨rfl, hr⟩ := hp
  by_cases h0 : I 3 2 = 0
  · rw [if_pos h0] at hr
    obtain ⟨rfl, rfl⟩ := hr
    obtain ⟨hM, -, hR⟩ := A0 h hk CF_rfl
    refine ⟨SC_rfl, ⟨hM, rfl⟩, fun r2 I2 J2 hq => ?_⟩
    obtain ⟨rfl, hr2⟩ := hq
    rw [if_pos ((REL_16 hR).symm.trans h0)] at hr2
    obtain ⟨rfl, rfl⟩ := hr2
    exact ⟨rfl, ⟨_, rfl⟩, fin (Nat.le_succ k) h.1 hR CM_th h.2.2⟩
  · rw [if_neg h0] at hr
    obtain ⟨rfl, rfl⟩ := hr
    have hC := CF_tkb h.1
    obtain ⟨hM, -, hR⟩ := A0 h hk hC
    refine ⟨SC_CF hC, ⟨hM, rfl⟩, fun r2 I2 J2 hq => ?_⟩
    obtain ⟨rfl, hr2⟩ := hq
    rw [if_neg (fun z => h0 ((REL_16 hR).trans z))] at hr2
    obtain ⟨rfl, rfl⟩ := hr2
    obtain ⟨g1, g2⟩ := REL_undo hR h0
    exact ⟨some_int g2.symm, ⟨_, rfl⟩, fin (Nat.le_succ k) (SH_tkb h.1 h0) g1 (CM_trans CM_th CM_un) h.2.2⟩
theorem S_see (s n q w : Int32) : SIM sp_see sp_mSee [.int s, .int n, .int q, .int w] := by
  intro k I J hk h
  refine ⟨⟨h.1, s, n, q, w, rfl⟩, fun r I1 J1 hp => ?_⟩
  obtain ⟨rfl, hr⟩ := hp
  have hr := hr s n q w rfl
  by_cases hs : sv I s
  · rw [if_pos hs] at hr
    by_cases hv : seeP n q w
    · rw [if_pos hv] at hr
      obtain ⟨x, hx, e6, e19, -⟩ := h.2.1.2.2
      by_cases h6 : I 0 6 < 6
      · rw [if_pos h6] at hr
        obtain ⟨rfl, rfl⟩ := hr
        have hC : CF I (seeI I s n q w) := CF_see h.1 h6
        obtain ⟨hM, -, hR⟩ := A0 h hk hC
        refine ⟨SC_CF hC, ⟨hM, s, n, q, w, rfl⟩, fun r2 I2 J2 hq => ?_⟩
        obtain ⟨rfl, hr2⟩ := hq
        have hr2 := hr2 s n q w rfl
        have e19' : th (seeI I s n q w) 30 19 = nI x := by
          rw [th_30 (by decide), hC 30 (by decide)]
          exact e19
        have hne : ¬ th (seeI I s n q w) 30 19 = 6 := fun z => by
          rw [e19'] at z
          rw [e6, z] at h6
          exact absurd h6 (by decide)
        rw [if_pos ((sv_msv hR s).mp hs), if_pos hv, if_neg hne] at hr2
        obtain ⟨rfl, rfl⟩ := hr2
        exact ⟨some_int (by rw [e19', e6]), ⟨_, rfl⟩, fin (Nat.le_succ k) (SH_see h.1 hv h6) (REL_see hR hv hne) (CM_trans CM_th CM_se) h.2.2⟩
      · rw [if_neg h6] at hr
        obtain ⟨rfl, rfl⟩ := hr
        obtain ⟨hM, -, hR⟩ := A0 h hk CF_rfl
        refine ⟨SC_rfl, ⟨hM, s, n, q, w, rfl⟩, fun r2 I2 J2 hq => ?_⟩
        obtain ⟨rfl, hr2⟩ := hq
        have hr2 := hr2 s n q w rfl
        have e19' : th I 30 19 = 6 := by
          rw [th_30 (by decide), e19]
          have : ¬ x < 6 := fun z => h6 (by rw [e6]; exact (nI_ltI (b := 6) (by omega) (by decide)).mpr z)
          rw [show x = 6 by omega]
          rfl
        rw [if_pos ((sv_msv hR s).mp hs), if_pos hv, if_pos e19'] at hr2
        obtain ⟨rfl, rfl⟩ := hr2
        exact ⟨rfl, ⟨_, rfl⟩, fin (Nat.le_succ k) h.1 hR CM_th h.2.2⟩
    · rw [if_neg hv] at hr
      obtain ⟨rfl, rfl⟩ := hr
      obtain ⟨hM, -, hR⟩ := A0 h hk CF_rfl
      refine ⟨SC_rfl, ⟨hM, s, n, q, w, rfl⟩, fun r2 I2 J2 hq => ?_⟩
      obtain ⟨rfl, hr2⟩ := hq
      have hr2 := hr2 s n q w rfl
      rw [if_pos ((sv_msv hR s).mp hs), if_neg hv] at hr2
      obtain ⟨rfl, rfl⟩ := hr2
      exact ⟨rfl, ⟨_, rfl⟩, fin (Nat.le_succ k) h.1 hR CM_th h.2.2⟩
  · rw [if_neg hs] at hr
    obtain ⟨rfl, rfl⟩ := hr
    obtain ⟨hM, -, hR⟩ := A0 h hk CF_rfl
    refine ⟨SC_rfl, ⟨hM, s, n, q, w, rfl⟩, fun r2 I2 J2 hq => ?_⟩
    obtain ⟨rfl, hr2⟩ := hq
    have hr2 := hr2 s n q w rfl
    rw [if_neg (fun z => hs ((sv_msv hR s).mpr z))] at hr2
    obtain ⟨rfl, rfl⟩ := hr2
    exact ⟨rfl, ⟨_, rfl⟩, fin (Nat.le_succ k) h.1 hR CM_th h.2.2⟩
theorem S_unsee : SIM sp_unsee sp_mUnsee [] := by
  intro k I J hk h
  refine ⟨rfl, fun r I1 J1 hp => ?_⟩
  obtain ⟨rfl, rfl, rfl⟩ := hp
  obtain ⟨x, hx, e6, e19, -⟩ := h.2.1.2.2
  have hC : CF I (mv_si I 0 6 0) := CF_si (by decide)
  obtain ⟨hM, -, hR⟩ := A0 h hk hC
  refine ⟨SC_CF hC, rfl, fun r2 I2 J2 hq => ?_⟩
  obtain ⟨rfl, rfl, rfl⟩ := hq
  exact ⟨some_int (e19.trans e6.symm), ⟨_, rfl⟩, fin (k := k) (Nat.le_succ k) (SH_si h.1 (fun g _ => by omega) (fun c _ => by omega) (fun z => absurd z (by decide)) (fun z => absurd z (by decide)) (fun z => absurd z (by decide)) (fun _ _ => ⟨0, by decide, rfl⟩) (fun i _ z => absurd z (by omega))) (REL_unsee hR) (CM_trans CM_th (CM_si (by decide))) h.2.2⟩
theorem sum_eq {N m : Nat} {I Im : mv_I} (hG : GG N I 0 Im 39 0 m) : ∀ q, q ≤ m → sumA I 0 q = msA Im q
  | 0, _ => rfl
  | q + 1, hq => by
    rw [sumA, msA, sum_eq hG q (by omega)]
    have := (hG.2.2.2 q (by omega)).1 7 (by decide)
    rw [show (0 : Nat) + 24 * q = 24 * q by omega] at this
    rw [← this]
    rfl
theorem REL_sum {N : Nat} {I Im : mv_I} (h : REL N I Im) : sumA I 0 (I 400 1).toNatClampNeg = msA Im (Im 30 4).toNatClampNeg := by
  rw [← REL_sv h]
  obtain ⟨-, ⟨m, hm, e4, hG, -⟩, -⟩ := h
  rw [hG.1, nI_clamp (by omega)]
  exact sum_eq hG m (Nat.le_refl m)
theorem msA_congr {I I' : mv_I} (h : I' 39 = I 39) : ∀ q, msA I' q = msA I q
  | 0 => rfl
  | q + 1 => by rw [msA, msA, msA_congr h q, h]
theorem S_keep (s : Int32) : SIM sp_keep sp_mKeep [.int s] := by
  intro k I J hk h
  refine ⟨⟨h.1, s, rfl⟩, fun r I1 J1 hp => ?_⟩
  obtain ⟨rfl, hr⟩ := hp
  have hr := hr s rfl
  by_cases hs : 0 ≤ s ∧ s ≤ 1
  · rw [if_pos hs] at hr
    obtain ⟨rfl, rfl⟩ := hr
    obtain ⟨x, hx, rfl⟩ := in_nat (M := 1) (by decide) hs
    rw [nI_clamp (by omega)]
    have hC : CF I (kepI I x) := CF_kep h.1 (by omega)
    obtain ⟨hM, -, hR⟩ := A0 h hk hC
    refine ⟨SC_CF hC, ⟨hM, _, rfl⟩, fun r2 I2 J2 hq => ?_⟩
    obtain ⟨rfl, hr2⟩ := hq
    have hr2 := hr2 _ rfl
    rw [if_pos hs, nI_clamp (by omega)] at hr2
    obtain ⟨rfl, rfl⟩ := hr2
    refine ⟨some_int ?_, ⟨_, rfl⟩, fin (Nat.le_succ k) (SH_kep h.1 (by omega)) (REL_keep hR (by omega)) (CM_trans CM_th CM_kp) h.2.2⟩
    rw [REL_sum hR]
    exact msA_congr (by unfold mkp; rw [mv_sr_ne (by decide), mv_si_ne (by decide)]) _
  · rw [if_neg hs] at hr
    obtain ⟨rfl, rfl⟩ := hr
    obtain ⟨hM, -, hR⟩ := A0 h hk CF_rfl
    refine ⟨SC_rfl, ⟨hM, s, rfl⟩, fun r2 I2 J2 hq => ?_⟩
    obtain ⟨rfl, hr2⟩ := hq
    have hr2 := hr2 s rfl
    rw [if_neg hs] at hr2
    obtain ⟨rfl, rfl⟩ := hr2
    exact ⟨rfl, ⟨_, rfl⟩, fin (Nat.le_succ k) h.1 hR CM_th h.2.2⟩
theorem REL_43 {k : Nat} {I Im : mv_I} (h : REL k I Im) {j : Nat} (hj : j < 2) : I 6 j = Im 43 j := by
  obtain ⟨-, ⟨m, hm, e4, hG, -, hk⟩, -⟩ := h
  exact (hk j hj).1
theorem S_again (s : Int32) : SIM sp_again sp_mAgain [.int s] := by
  intro k I J hk h
  refine ⟨⟨h.1, s, rfl⟩, fun r I1 J1 hp => ?_⟩
  obtain ⟨rfl, hr⟩ := hp
  have hr := hr s rfl
  by_cases hs : 0 ≤ s ∧ s ≤ 1
  · rw [if_pos hs] at hr
    obtain ⟨x, hx, rfl⟩ := in_nat (M := 1) (by decide) hs
    rw [nI_clamp (by omega)] at hr
    by_cases h0 : I 6 x = 0
    · rw [if_pos h0] at hr
      obtain ⟨rfl, rfl⟩ := hr
      obtain ⟨hM, -, hR⟩ := A0 h hk CF_rfl
      refine ⟨SC_rfl, ⟨hM, _, rfl⟩, fun r2 I2 J2 hq => ?_⟩
      obtain ⟨rfl, hr2⟩ := hq
      have hr2 := hr2 _ rfl
      rw [if_pos hs, nI_clamp (by omega), if_pos ((REL_43 hR (by omega)).symm.trans h0)] at hr2
      obtain ⟨rfl, rfl⟩ := hr2
      exact ⟨rfl, ⟨_, rfl⟩, fin (Nat.le_succ k) h.1 hR CM_th h.2.2⟩
    · rw [if_neg h0] at hr
      obtain ⟨rfl, rfl⟩ := hr
      have hC : CF I (agnI I x) := CF_agn h.1 (by omega)
      obtain ⟨hM, -, hR⟩ := A0 h hk hC
      refine ⟨SC_CF hC, ⟨hM, _, rfl⟩, fun r2 I2 J2 hq => ?_⟩
      obtain ⟨rfl, hr2⟩ := hq
      have hr2 := hr2 _ rfl
      rw [if_pos hs, nI_clamp (by omega), if_neg (fun z => h0 ((REL_43 hR (by omega)).trans z))] at hr2
      obtain ⟨rfl, rfl⟩ := hr2
      have hA := REL_again hR (by omega) h0
      refine ⟨some_int ?_, ⟨_, rfl⟩, fin (Nat.le_succ k) (SH_agn h.1 (by omega)) hA (CM_trans CM_th CM_gn) h.2.2⟩
      rw [REL_sum hA]
      rfl
  · rw [if_neg hs] at hr
    obtain ⟨rfl, rfl⟩ := hr
    obtain ⟨hM, -, hR⟩ := A0 h hk CF_rfl
    refine ⟨SC_rfl, ⟨hM, s, rfl⟩, fun r2 I2 J2 hq => ?_⟩
    obtain ⟨rfl, hr2⟩ := hq
    have hr2 := hr2 s rfl
    rw [if_neg hs] at hr2
    obtain ⟨rfl, rfl⟩ := hr2
    exact ⟨rfl, ⟨_, rfl⟩, fin (Nat.le_succ k) h.1 hR CM_th h.2.2⟩
theorem S_count (w : Int32) : SIM sp_count sp_mCount [.int w] := by
  intro k I J hk h
  refine ⟨⟨h.1, w, rfl⟩, fun r I1 J1 hp => ?_⟩
  obtain ⟨rfl, rfl, hr⟩ := hp
  have hr1 : r = some (.int (cntF I w)) := hr
  obtain ⟨hM, -, hR⟩ := A0 h hk CF_rfl
  refine ⟨SC_rfl, ⟨hM, w, rfl⟩, fun r2 I2 J2 hq => ?_⟩
  obtain ⟨rfl, rfl, hr2⟩ := hq
  rw [hr1, hr2 w rfl]
  refine ⟨some_int ?_, ⟨_, rfl⟩, fin (Nat.le_succ k) h.1 hR CM_th h.2.2⟩
  unfold cntF mcnF
  rw [REL_sum hR, REL_sv hR, REL_16 hR]
  obtain ⟨⟨t, ht, t1, t2, -⟩, ⟨m, hm, e4, hG, -⟩, ⟨q, hq, s1, s2, -⟩⟩ := hR
  rw [s1, s2, t1, t2, show I 400 2 = th I 39 120 from hG.2.1]
