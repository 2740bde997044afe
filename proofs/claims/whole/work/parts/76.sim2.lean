/-! The acts, a call beside a call. -/
theorem CM_mct {I : mv_I} {a s : Nat} {v : Int32} : CM I (mct I 39 a s v) := fun x hx => mct_ne (by omega)
theorem CM_mcm {I : mv_I} {a : Nat} {v : Int32} : CM I (mcm I 39 a v) := fun x hx => mcm_ne (by omega)
theorem CM_dr {I : mv_I} {a : Nat} : CM I (mdr I a) := CM_trans (CM_si (by decide)) (CM_si (by decide))
theorem CM_un {I : mv_I} : CM I (mun I) := CM_trans (CM_si (by decide)) (CM_sr (by decide))
theorem CM_kp {I : mv_I} {s : Nat} : CM I (mkp I s) := CM_trans (CM_si (by decide)) (CM_sr (by decide))
theorem CM_gn {I : mv_I} {s : Nat} : CM I (mgn I s) := CM_trans (CM_sr (by decide)) (CM_si (by decide))
theorem CM_se {I : mv_I} {s n k w : Int32} : CM I (mse I s n k w) := CM_trans (CM_trans (CM_trans (CM_trans (CM_si (by decide)) (CM_si (by decide))) (CM_si (by decide))) (CM_si (by decide))) (CM_si (by decide))
theorem CM_wt {I : mv_I} : CM I (mwt I) := CM_trans (CM_trans (CM_trans (CM_trans (CM_trans (CM_trans (CM_trans (CM_si (by decide)) (CM_sr (by decide))) (CM_sr (by decide))) (CM_sr (by decide))) (CM_sr (by decide))) (CM_si (by decide))) (CM_si (by decide))) (CM_si (by decide))
theorem CF_add {I : mv_I} {c : Nat} {v : Int32} (hc : c < 91) : CF I (addI I (100 + 3 * c) v) := fun x hx => addI_ne (by omega) (by omega)
theorem CF_app {I : mv_I} {c : Nat} {v : Int32} (hc : c < 91) : CF I (appI I (100 + 3 * c) v) := fun x hx => appI_ne (by omega) (by omega)
theorem CF_kep {I : mv_I} (hS : SH I) {s : Nat} (hs : s < 2) : CF I (kepI I s) := by
  obtain ⟨m, hm, em⟩ := SH_now hS
  unfold kepI
  rw [em, nI_clamp (by omega)]
  exact CF_trans (CF_grp (by omega) hm) (CF_si (by omega))
theorem CF_agn {I : mv_I} (hS : SH I) {s : Nat} (hs : s < 2) : CF I (agnI I s) := by
  obtain ⟨m, hm, em⟩ := hS.1 (15 + s) (by omega)
  unfold agnI
  rw [em, nI_clamp (by omega)]
  exact CF_trans (CF_grp (by decide) hm) (CF_si (by omega))
theorem CF_see {I : mv_I} (hS : SH I) (h6 : I 0 6 < 6) {s n k w : Int32} : CF I (seeI I s n k w) := by
  obtain ⟨q, hq, eq⟩ := hS.2.2.2.2.2.1
  rw [eq] at h6
  have hq6 : q < 6 := (nI_ltI (b := 6) (by omega) (by decide)).mp h6
  unfold seeI
  rw [eq, nI_clamp (by omega)]
  exact CF_trans (CF_trans (CF_trans (CF_trans (CF_si (by omega)) (CF_si (by omega))) (CF_si (by omega))) (CF_si (by omega))) (CF_si (by omega))
theorem S_write (x : Int32) : SIM sp_write sp_mWrite [.int x] := by
  intro k I J hk h
  refine ⟨⟨h.1, x, rfl⟩, fun r I1 J1 hp => ?_⟩
  obtain ⟨rfl, hr⟩ := hp
  have hr := hr x rfl
  obtain ⟨t, ht, e1, e2, e3⟩ := h.2.1.1
  by_cases hx : 0 ≤ x ∧ x ≤ 255
  · rw [if_pos hx] at hr
    by_cases ht8 : t < 80
    · rw [if_pos (by rw [e1]; exact (nI_ltI (b := 80) (by omega) (by decide)).mpr ht8)] at hr
      obtain ⟨rfl, rfl⟩ := hr
      rw [e1, nI_clamp (by omega), nI_1]
      have hC : CF I (mv_si (mv_si I 2 t x) 1 1 (nI (t + 1))) := CF_trans (CF_si (by decide)) (CF_si (by decide))
      have hS : SH (mv_si (mv_si I 2 t x) 1 1 (nI (t + 1))) := by
        have := SH_write (x := x) h.1 (by rw [e1]; exact (nI_ltI (b := 80) (by omega) (by decide)).mpr ht8)
        rw [e1, nI_clamp (by omega), nI_1] at this
        exact this
      obtain ⟨hM, -, hR⟩ := A0 h hk hC
      have hR0 : REL k I (th (mv_si (mv_si I 2 t x) 1 1 (nI (t + 1)))) := hR
      refine ⟨SC_CF hC, ⟨hM, x, rfl⟩, fun r2 I2 J2 hq => ?_⟩
      obtain ⟨rfl, hr2⟩ := hq
      have hr2 := hr2 x rfl
      have e30 : th (mv_si (mv_si I 2 t x) 1 1 (nI (t + 1))) 30 2 = nI t := e2
      rw [if_pos hx, e30, if_neg (fun z => by
        have := (nI_eq (b := 80) (by omega) (by decide)).mp z
        omega), nI_clamp (by omega), nI_1] at hr2
      obtain ⟨rfl, rfl⟩ := hr2
      refine ⟨rfl, ⟨_, rfl⟩, fin (k := k) (Nat.le_succ k) hS ?_ (CM_trans CM_th (CM_trans (CM_si (by decide)) (CM_si (by decide)))) h.2.2⟩
      refine REL_text hR0 (fun y h1 h2 => ?_) (fun y h1 h2 => ?_) (fun b hb => ?_) ⟨t + 1, by omega, ?_, ?_, fun j hj => ?_⟩
      · rw [mv_si_ne h1, mv_si_ne h2]
      · rw [mv_si_ne h1, mv_si_ne h2]
      · rw [mv_si_ap, if_neg (fun z => hb z.2), mv_si_ne (by decide)]
      · rw [mv_si_ap, if_pos ⟨rfl, rfl⟩]
      · rw [mv_si_ap, if_pos ⟨rfl, rfl⟩]
      · rw [mv_si_ne (k' := 2) (k := 1) (by decide), mv_si_ne (k' := 31) (k := 30) (by decide), mv_si_ap, mv_si_ap]
        by_cases hjt : j = t
        · rw [if_pos ⟨rfl, hjt⟩, if_pos ⟨rfl, hjt⟩]
        · rw [if_neg (fun z => hjt z.2), if_neg (fun z => hjt z.2)]
          exact e3 j (by omega)
    · rw [if_neg (by rw [e1]; exact fun z => ht8 ((nI_ltI (b := 80) (by omega) (by decide)).mp z))] at hr
      obtain ⟨rfl, rfl⟩ := hr
      obtain ⟨hM, -, hR⟩ := A0 h hk CF_rfl
      refine ⟨SC_rfl, ⟨hM, x, rfl⟩, fun r2 I2 J2 hq => ?_⟩
      obtain ⟨rfl, hr2⟩ := hq
      have hr2 := hr2 x rfl
      have e30 : th I 30 2 = 80 := by
        rw [show th I 30 2 = nI t from e2, show t = 80 by omega]
        rfl
      rw [if_pos hx, if_pos e30] at hr2
      obtain ⟨rfl, rfl⟩ := hr2
      exact ⟨rfl, ⟨_, rfl⟩, fin (Nat.le_succ k) h.1 hR CM_th h.2.2⟩
  · rw [if_neg hx] at hr
    obtain ⟨rfl, rfl⟩ := hr
    obtain ⟨hM, -, hR⟩ := A0 h hk CF_rfl
    refine ⟨SC_rfl, ⟨hM, x, rfl⟩, fun r2 I2 J2 hq => ?_⟩
    obtain ⟨rfl, hr2⟩ := hq
    have hr2 := hr2 x rfl
    rw [if_neg hx] at hr2
    obtain ⟨rfl, rfl⟩ := hr2
    exact ⟨rfl, ⟨_, rfl⟩, fin (Nat.le_succ k) h.1 hR CM_th h.2.2⟩
theorem S_wipe : SIM sp_wipe sp_mWipe [] := by
  intro k I J hk h
  refine ⟨rfl, fun r I1 J1 hp => ?_⟩
  obtain ⟨rfl, rfl, rfl⟩ := hp
  obtain ⟨t, ht, e1, e2, e3⟩ := h.2.1.1
  have hC : CF I (mv_si I 1 1 0) := CF_si (by decide)
  obtain ⟨hM, -, hR⟩ := A0 h hk hC
  refine ⟨SC_CF hC, rfl, fun r2 I2 J2 hq => ?_⟩
  obtain ⟨rfl, rfl, rfl⟩ := hq
  refine ⟨some_int (e2.trans e1.symm), ⟨_, rfl⟩, fin (k := k) (Nat.le_succ k) (SH_si h.1 (fun g _ => by omega) (fun c _ => by omega) (fun z => absurd z (by decide)) (fun z => absurd z (by decide)) (fun _ _ => ⟨0, by decide, rfl⟩) (fun z => absurd z (by decide)) (fun i _ z => absurd z (by omega))) ?_ (CM_trans CM_th (CM_si (by decide))) h.2.2⟩
  refine REL_text hR (fun y h1 h2 => mv_si_ne h1) (fun y h1 h2 => mv_si_ne h1) (fun b hb => ?_) ⟨0, by decide, ?_, ?_, fun j hj => absurd hj (by omega)⟩
  · rw [mv_si_ap, if_neg (fun z => hb z.2)]
  · rw [mv_si_ap, if_pos ⟨rfl, rfl⟩]
    rfl
  · rw [mv_si_ap, if_pos ⟨rfl, rfl⟩]
    rfl
theorem flt_eq {k : Nat} {I Im : mv_I} (hR : REL k I Im) : fltF (Im 31) (Im 30 2).toNatClampNeg = fltF (I 2) (I 1 1).toNatClampNeg := by
  obtain ⟨t, ht, e1, e2, e3⟩ := hR.1
  rw [e1, e2, nI_clamp (by omega)]
  exact flt_congr (fun j hj => (e3 j hj).symm)
theorem REL_FRt {k : Nat} {I Im Im' : mv_I} (hF : FRt Im Im') (h : REL k I Im) : REL k I Im' := REL_m (hF.1 31 (by decide) (by decide)) (hF.1 32 (by decide) (by decide)) (hF.1 33 (by decide) (by decide)) (hF.1 34 (by decide) (by decide)) (fun x hx => hF.1 x (by omega) (by omega)) (fun b hb => hF.2 b (by omega) (by omega)) h
theorem S_fault : SIM sp_fault sp_mFault [] := by
  intro k I J hk h
  refine ⟨⟨h.1, rfl⟩, fun r I1 J1 hp => ?_⟩
  obtain ⟨rfl, rfl, rfl⟩ := hp
  obtain ⟨hM, -, hR⟩ := A0 h hk CF_rfl
  refine ⟨SC_rfl, ⟨hM, rfl⟩, fun r2 I2 J2 hq => ?_⟩
  obtain ⟨rfl, rfl, hF⟩ := hq
  exact ⟨some_int (flt_eq hR), ⟨_, rfl⟩, fin (Nat.le_succ k) h.1 (REL_FRt hF hR) (CM_trans CM_th (CM_FRt hF)) h.2.2⟩
theorem S_watch : SIM sp_watch sp_mWatch [] := by
  intro k I J hk h
  refine ⟨⟨h.1, rfl⟩, fun r I1 J1 hp => ?_⟩
  obtain ⟨rfl, hr⟩ := hp
  by_cases hf : fltF (I 2) (I 1 1).toNatClampNeg = -9
  · rw [if_pos hf] at hr
    obtain ⟨rfl, rfl⟩ := hr
    obtain ⟨hM, -, hR⟩ := A0 h hk (CF_wat (I := I))
    refine ⟨SC_CF CF_wat, ⟨hM, rfl⟩, fun r2 I2 J2 hq => ?_⟩
    obtain ⟨rfl, B, hF, hr2⟩ := hq
    rw [if_pos ((flt_eq hR).trans hf)] at hr2
    obtain ⟨rfl, rfl, m, hRW, hend⟩ := hr2
    obtain ⟨g1, g2⟩ := REL_watch hR hF hRW hend
    exact ⟨some_int g2.symm, ⟨_, rfl⟩, fin (Nat.le_succ k) (SH_wat h.1) g1 (CM_trans CM_th (CM_trans (CM_FRt hF) CM_wt)) h.2.2⟩
  · rw [if_neg hf] at hr
    obtain ⟨rfl, rfl⟩ := hr
    obtain ⟨hM, -, hR⟩ := A0 h hk CF_rfl
    refine ⟨SC_rfl, ⟨hM, rfl⟩, fun r2 I2 J2 hq => ?_⟩
    obtain ⟨rfl, B, hF, hr2⟩ := hq
    rw [if_neg (fun z => hf ((flt_eq hR).symm.trans z))] at hr2
    obtain ⟨rfl, rfl⟩ := hr2
    exact ⟨rfl, ⟨_, rfl⟩, fin (Nat.le_succ k) h.1 (REL_FRt hF hR) (CM_trans CM_th (CM_FRt hF)) h.2.2⟩
