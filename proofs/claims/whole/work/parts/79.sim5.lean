theorem SH_tg {I I1 : mv_I} (h : SH I) (hT : tgOk I I1) : SH I1 := tgOk_SH h hT
theorem GT_now {k : Nat} {I Im : mv_I} (hR : REL k I Im) : ∃ m : Nat, m ≤ 5 ∧ I 400 1 = nI m ∧ Im 30 4 = nI m ∧ GT k (grpN 17 0 I m) (mlt Im) m := by
  obtain ⟨-, ⟨m, hm, e4, hG, -⟩, -⟩ := hR
  exact ⟨m, hm, hG.1, e4, GT_try hm (fun s hs => by
    have := hG.2.2.2 s hs
    exact this)⟩
theorem S_judge (n : Int32) (row : Int64) : SIM sp_judge sp_mJudge [.int n, .long row] := by
  intro k I J hk h
  refine ⟨⟨h.1, n, row, rfl⟩, fun r I1 J1 hp => ?_⟩
  obtain ⟨rfl, hT, hr⟩ := hp
  have hr := hr n row rfl
  obtain ⟨hM, -, hR⟩ := A0 h hk (CF_tg hT)
  refine ⟨SC_CF (CF_tg hT), ⟨hM, n, row, rfl⟩, fun r2 I2 J2 hq => ?_⟩
  obtain ⟨rfl, hT2, hr2⟩ := hq
  have hr2 := hr2 n row rfl
  have hF := fin (Nat.le_succ k) (SH_tg h.1 hT) (REL_tg hT (REL_TF hT2 hR)) (CM_trans CM_th (CM_TF hT2)) h.2.2
  obtain ⟨m, hm, em, e4, hG⟩ := GT_now hR
  have e434 : grpN 17 0 I m 434 1 = nI m := by
    have := grpN_hd (g := 17) (h := 0) (by decide) (by decide) I m hm 1
    rw [if_neg (by decide), if_pos rfl] at this
    exact this.trans em
  have e40 : mlt (th I1) 30 4 = nI m := e4
  by_cases hn : 1 ≤ n ∧ n ≤ 4
  · rw [if_pos hn] at hr hr2
    by_cases h0 : row < 0
    · rw [hr.2 h0, hr2.2 h0]
      exact ⟨rfl, ⟨_, rfl⟩, hF⟩
    · obtain ⟨R, hR63, rfl⟩ := pk_lOf h0
      have hr := hr.1 R hR63 rfl
      have hr2 := hr2.1 R hR63 rfl
      by_cases hz : R / 10000 ^ n.toNatClampNeg = 0
      · rw [if_pos hz] at hr hr2
        rw [hr, hr2]
        obtain ⟨q, hq1, hq, rfl⟩ := in_nat1 (M := 4) (by decide) hn
        refine ⟨some_int ?_, ⟨_, rfl⟩, hF⟩
        rw [em, nI_clamp (by omega), nI_clamp (by omega)]
        exact (jd_eq hm q 0 k (by omega) _ _ hG e434 e40).symm
      · rw [if_neg hz] at hr hr2
        rw [hr, hr2]
        exact ⟨rfl, ⟨_, rfl⟩, hF⟩
  · rw [if_neg hn] at hr hr2
    rw [hr, hr2]
    exact ⟨rfl, ⟨_, rfl⟩, hF⟩
theorem S_drawn (n : Int32) : SIM sp_drawn sp_mDrawn [.int n] := by
  intro k I J hk h
  refine ⟨⟨h.1, n, rfl⟩, fun r I1 J1 hp => ?_⟩
  obtain ⟨hT, hr⟩ := hp
  have hr : if 1 ≤ n ∧ n ≤ 20 then J1 = mv_sj J 0 7 (sdN (J 0 7) n.toNatClampNeg) ∧ r = some (.int (drF (I 400 1).toNatClampNeg n.toNatClampNeg (J 0 7) (grpN 17 0 I (I 400 1).toNatClampNeg) 0)) else J1 = J ∧ r = some (.int (-2)) := hr
  obtain ⟨hM, -, hR⟩ := A0 h hk (CF_tg hT)
  refine ⟨SC_CF (CF_tg hT), ⟨hM, n, rfl⟩, fun r2 I2 J2 hq => ?_⟩
  obtain ⟨hT2, hr2⟩ := hq
  have hr2 : if 1 ≤ n ∧ n ≤ 20 then J2 = mv_sj J1 30 24 (sdN (J1 30 24) n.toNatClampNeg) ∧ r2 = some (.int (mdw (th I1 30 4).toNatClampNeg n.toNatClampNeg (J1 30 24) (mlt (th I1)) 0)) else J2 = J1 ∧ r2 = some (.int (-2)) := hr2
  have hF := fun hJ => fin (J2 := J2) (Nat.le_succ k) (SH_tg h.1 hT) (REL_tg hT (REL_TF hT2 hR)) (CM_trans CM_th (CM_TF hT2)) hJ
  obtain ⟨m, hm, em, e4, hG⟩ := GT_now hR
  by_cases hn : 1 ≤ n ∧ n ≤ 20
  · rw [if_pos hn] at hr hr2
    obtain ⟨rfl, rfl⟩ := hr
    obtain ⟨rfl, rfl⟩ := hr2
    obtain ⟨q, hq1, hq, rfl⟩ := in_nat1 (M := 20) (by decide) hn
    have e24 : mv_sj J 0 7 (sdN (J 0 7) (nI q).toNatClampNeg) 30 24 = J 0 7 := by
      rw [mv_sj_ne (by decide)]
      exact h.2.2.symm
    refine ⟨some_int ?_, ⟨_, rfl⟩, hF ?_⟩
    · rw [e24, em, e4, nI_clamp (by omega), nI_clamp (by omega)]
      exact (dr_eq hm q k (by omega) _ _ _ _ hG).symm
    · rw [e24, mv_sj_ne (k' := 0) (k := 30) (by decide), mv_sj_eq, mv_sj_eq]
      rfl
  · rw [if_neg hn] at hr hr2
    obtain ⟨rfl, rfl⟩ := hr
    obtain ⟨rfl, rfl⟩ := hr2
    exact ⟨rfl, ⟨_, rfl⟩, hF h.2.2⟩
theorem some_long {x y : Int64} (h : x = y) : some (Value.long x) = some (.long y) := by rw [h]
theorem S_seed (v : Int64) : SIML sp_seed sp_mSeed [.long v] := by
  intro k I J hk h
  refine ⟨⟨v, rfl⟩, fun r I1 J1 hp => ?_⟩
  obtain ⟨rfl, hr⟩ := hp
  have hr : r = some (.long (J 0 7)) ∧ J1 = mv_sj J 0 7 v := hr
  obtain ⟨rfl, rfl⟩ := hr
  obtain ⟨hM, -, hR⟩ := A0 h hk CF_rfl
  refine ⟨SC_rfl, ⟨v, rfl⟩, fun r2 I2 J2 hq => ?_⟩
  obtain ⟨rfl, hr2⟩ := hq
  obtain ⟨rfl, rfl⟩ := hr2 v rfl
  refine ⟨some_long ?_, ⟨_, rfl⟩, fin (Nat.le_succ k) h.1 hR CM_th ?_⟩
  · rw [mv_sj_ne (by decide)]
    exact h.2.2.symm
  · rw [mv_sj_ne (k' := 0) (k := 30) (by decide), mv_sj_eq, mv_sj_eq]
    rfl
theorem S_length (s u : Int32) : SIML sp_lengthW sp_mLength [.int s, .int u] := by
  intro k I J hk h
  refine ⟨⟨h.1, s, u, rfl, fun hs => ?_⟩, fun r I1 J1 hp => ?_⟩
  · obtain ⟨j, m, hm, hj, rfl, ej, -, -, hC⟩ := REL_in h.2.1 hs
    obtain ⟨-, -, -, -, g1, g2, -⟩ := hC
    rw [scn, ej]
    exact ⟨g1, g2⟩
  obtain ⟨rfl, hJ, hr⟩ := hp
  have hr : r = some (.long (if sv I s then lenF (I (scn s) 1).toNatClampNeg (I (scn s) 2).toNatClampNeg (I 400 2) u else -1)) := hr
  obtain ⟨hM, hR0, hR⟩ := A0 h hk CF_rfl
  have key : sv I s → ∃ j x b : Nat, s.toNatClampNeg = j ∧ x ≤ 9 ∧ 1 ≤ b ∧ b ≤ 99 ∧ I (scn s) 1 = nI x ∧ I (scn s) 2 = nI b ∧ I 39 (24 * j) = nI x ∧ I 39 (24 * j + 1) = nI b ∧ LC (I 39 120) ∧ I 400 2 = I 39 120 := by
    intro hs
    obtain ⟨j, m, hm, hj, rfl, ej, -, -, hC⟩ := REL_in hR0 hs
    obtain ⟨-, ⟨m, hm, e4, hG, -⟩, -⟩ := hR0
    obtain ⟨⟨x, hx, ex⟩, ⟨b, hb1, hb, eb⟩, -⟩ := hC.2.2.2.2
    refine ⟨j, x, b, ej, hx, hb1, hb, by rw [scn, ej]; exact ex, by rw [scn, ej]; exact eb, (hC.1 0 (by decide)).symm.trans ex, (hC.1 1 (by decide)).symm.trans eb, ?_, hG.2.1⟩
    have := hG.2.2.1
    rw [hG.2.1] at this
    exact this
  refine ⟨SC_rfl, ⟨hM, s, u, rfl, fun hs => ?_⟩, fun r2 I2 J2 hq => ?_⟩
  · obtain ⟨j, x, b, ej, hx, hb1, hb, e1, e2, e3, e4, hL, -⟩ := key ((sv_msv hR0 s).mpr hs)
    refine ⟨x, b, hx, hb1, hb, by rw [ej]; exact e3, by rw [ej]; exact e4, (len_eq hL hx hb1 hb).1⟩
  obtain ⟨rfl, hJ2, hr2⟩ := hq
  rw [hr, hr2 s u rfl]
  refine ⟨some_long ?_, ⟨_, rfl⟩, fin (Nat.le_succ k) h.1 hR CM_th ?_⟩
  · by_cases hs : sv I s
    · rw [if_pos hs, if_pos ((sv_msv hR s).mp hs)]
      obtain ⟨j, x, b, ej, hx, hb1, hb, e1, e2, e3, e4, hL, e5⟩ := key hs
      rw [e1, e2, ej, show th I 39 (24 * j) = nI x from e3, show th I 39 (24 * j + 1) = nI b from e4, nI_clamp (by omega), nI_clamp (by omega), e5]
      exact ((len_eq hL hx hb1 hb).2 u).symm
    · rw [if_neg hs, if_neg (fun z => hs ((sv_msv hR s).mpr z))]
  · rw [hJ2 0 (by decide), hJ2 30 (by decide), hJ 0 (by decide), hJ 30 (by decide)]
    exact h.2.2
