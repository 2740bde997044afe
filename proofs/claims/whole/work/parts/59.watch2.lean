/-! The reference: fault, watch. -/
def sp_mFault : mv_SP := (fun as I _ => MH 9000 I ∧ as = [.ref 30],
  fun _ I J r I' J' => J = J' ∧ r = some (.int (fltF (th I 31) (th I 30 2).toNatClampNeg)) ∧ FRt (th I) I')
theorem cb_mFault : mv_body 103 mv_t_X7_fault (mv_cs [(131, sp_mReadWatch)]) sp_mFault := by
  intro as I J h
  obtain ⟨hM, rfl⟩ := h
  have hM := MH_th hM
  obtain ⟨-, ⟨n, hn, h2⟩, -⟩ := hM
  have key : mv_V mv_ow mv_swf mv_t_X7_fault (mv_cs [(131, sp_mReadWatch)]) (sp_mFault.2 [.ref 30] I J) 5 [(0, .ref 30)] [] (th I) J := by
    refine mv_run_V (stop := []) 30 _ _ _ _ _ ?_
    refine ⟨rfl, rfl, ⟨rfl, n, hn, h2⟩, fun r1 I1 J1 hp => ?_⟩
    obtain ⟨rfl, hp⟩ := hp
    obtain ⟨rfl, hF, -⟩ := hp n hn h2
    refine ⟨rfl, ?_, hF⟩
    rw [h2, nI_clamp (by omega)]
  refine ⟨rfl, mv_run_V (stop := [5]) 30 _ _ _ _ _ ?_⟩
  exact ⟨rfl, key⟩
theorem c_mFault {l : Launch} {G : mv_G} {A : Nat → Prop} (hG : mv_adk G A) : mv_Con l G A 103 sp_mFault := mv_con hG 103 mv_k_X7_fault (by decide +kernel) (mv_cs_cons (c_mReadWatch hG) (mv_cs_nil)) cb_mFault
/-- what is read becomes what is watched -/
def mwt (B : mv_I) : mv_I := mv_si (mv_si (mv_si (mv_sr (mv_sr (mv_sr (mv_sr (mv_si B 30 4 (B 30 8)) 32 (fa_fill (B 35) (B 32) 5)) 34 (fa_fill (B 37) (B 34) 5)) 33 (fa_fill (B 36) (B 33) 25)) 39 (fa_fill (B 38) (B 39) 120)) 30 16 0) 43 0 0) 43 1 0
def mw1 (B : mv_I) (k : Nat) : mv_I := mv_sr (mv_sr (mv_si B 30 4 (B 30 8)) 32 (fa_fill (B 35) (B 32) k)) 34 (fa_fill (B 37) (B 34) k)
def sp_mWatch : mv_SP := (fun as I _ => MH 9000 I ∧ as = [.ref 30],
  fun _ I J r I' J' => J = J' ∧ ∃ B : mv_I, FRt (th I) B ∧ if fltF (th I 31) (th I 30 2).toNatClampNeg = -9 then r = some (.int (B 30 8)) ∧ I' = mwt B ∧ ∃ m : Nat, RW (th I) B (th I 30 2).toNatClampNeg m ∧ psN (th I 31) (th I 30 2).toNatClampNeg m = (th I 30 2).toNatClampNeg else r = some (.int (-3)) ∧ I' = B)
theorem watch_90 {B : mv_I} {J : mv_J} {K : mv_K} (fin : K (some (.int (B 30 8))) (mwt B) J) : ∀ q k : Nat, k + q = 120 → mv_V mv_ow mv_swf mv_t_X7_watch (mv_cs [(131, sp_mReadWatch)]) K 90 [(0, .ref 30), (1, .int (nI k))] [] (mv_sr (mv_sr (mw1 B 5) 33 (fa_fill (B 36) (B 33) 25)) 39 (fa_fill (B 38) (B 39) k)) J := by
  intro q
  induction q with
  | zero =>
    intro k hk
    have hk : k = 120 := hk
    subst hk
    have e : mv_si (mv_si (mv_si (mv_sr (mv_sr (mw1 B 5) 33 (fa_fill (B 36) (B 33) 25)) 39 (fa_fill (B 38) (B 39) 120)) 30 16 0) 43 0 0) 43 1 0 = mwt B := rfl
    have e8 : mwt B 30 4 = B 30 8 := by
      unfold mwt
      rw [mv_si_ne (by decide), mv_si_ne (by decide), mv_si_ap, if_neg (by decide), mv_sr_ne (by decide), mv_sr_ne (by decide), mv_sr_ne (by decide), mv_sr_ne (by decide), mv_si_ap, if_pos ⟨rfl, rfl⟩]
    refine mv_run_V (stop := [90]) 60 _ _ _ _ _ ?_
    refine ⟨fun _ => ?_, fun z => absurd z (by decide)⟩
    refine ⟨rfl, rfl, _, rfl, _, rfl, vp_in_nI (n := 0) (by decide) (by decide), Or.inl rfl, rfl, _, rfl, _, rfl, vp_in_nI (n := 1) (by decide) (by decide), Or.inl rfl, rfl, ?_⟩
    rw [← e8] at fin
    exact fin
  | succ q ih =>
    intro k hk
    have ck : (nI k).toNatClampNeg = k := nI_clamp (by omega)
    refine mv_run_V (stop := [90]) 30 _ _ _ _ _ ?_
    refine ⟨fun z => ?_, fun _ => ?_⟩
    · have z : ¬ nI k < nI 120 := z
      exact absurd (nI_lt (by omega) (by decide)) z
    · refine ⟨rfl, _, rfl, rfl, _, rfl, _, rfl, vp_in_nI (by omega) (by decide), _, rfl, vp_in_nI (by omega) (by decide), ?_⟩
      have k6 := ih (k + 1) (by omega)
      have e : (mv_sr (mv_sr (mw1 B 5) 33 (fa_fill (B 36) (B 33) 25)) 39 (fa_fill (B 38) (B 39) k)) 38 k = B 38 k := by
        unfold mw1
        rw [mv_sr_ne (by decide), mv_sr_ne (by decide), mv_sr_ne (by decide), mv_sr_ne (by decide), mv_si_ne (by decide)]
      rw [← fa_fill_succ (B 38) (B 39) k, ← mv_si_srx, nI_succ, ← e] at k6
      rw [ck]
      exact k6
theorem watch_64 {B : mv_I} {J : mv_J} {K : mv_K} (fin : K (some (.int (B 30 8))) (mwt B) J) : ∀ q k : Nat, k + q = 25 → mv_V mv_ow mv_swf mv_t_X7_watch (mv_cs [(131, sp_mReadWatch)]) K 64 [(0, .ref 30), (1, .int (nI k))] [] (mv_sr (mw1 B 5) 33 (fa_fill (B 36) (B 33) k)) J := by
  intro q
  induction q with
  | zero =>
    intro k hk
    have hk : k = 25 := hk
    subst hk
    have k6 := watch_90 fin 120 0 rfl
    rw [mv_sr_self (fun b => by
      rw [fa_fill_0]
      unfold mw1
      rw [mv_sr_ne (by decide), mv_sr_ne (by decide), mv_sr_ne (by decide), mv_si_ne (by decide)])] at k6
    refine mv_run_V (stop := [64, 90]) 60 _ _ _ _ _ ?_
    exact ⟨fun _ => k6, fun z => absurd z (by decide)⟩
  | succ q ih =>
    intro k hk
    have ck : (nI k).toNatClampNeg = k := nI_clamp (by omega)
    refine mv_run_V (stop := [64, 90]) 30 _ _ _ _ _ ?_
    refine ⟨fun z => ?_, fun _ => ?_⟩
    · have z : ¬ nI k < nI 25 := z
      exact absurd (nI_lt (by omega) (by decide)) z
    · refine ⟨rfl, _, rfl, rfl, _, rfl, _, rfl, vp_in_nI (by omega) (by decide), _, rfl, vp_in_nI (by omega) (by decide), ?_⟩
      have k6 := ih (k + 1) (by omega)
      have e : (mv_sr (mw1 B 5) 33 (fa_fill (B 36) (B 33) k)) 36 k = B 36 k := by
        unfold mw1
        rw [mv_sr_ne (by decide), mv_sr_ne (by decide), mv_sr_ne (by decide), mv_si_ne (by decide)]
      rw [← fa_fill_succ (B 36) (B 33) k, ← mv_si_srx, nI_succ, ← e] at k6
      rw [ck]
      exact k6
theorem mw1_succ {B : mv_I} (k : Nat) : mw1 B (k + 1) = mv_si (mv_si (mw1 B k) 32 k (B 35 k)) 34 k (B 37 k) := by
  funext a b
  unfold mw1
  simp only [mv_sr_ap, mv_si_ap]
  rw [← fa_fill_succ, ← fa_fill_succ]
  unfold upd
  by_cases h4 : a = 34
  · rw [if_pos h4, if_pos h4]
    by_cases hb : b = k
    · rw [if_pos hb, if_pos ⟨h4, hb⟩]
    · rw [if_neg hb, if_neg (fun z => hb z.2), if_neg (by omega)]
  · have h4b : ¬ (a = 34 ∧ b = k) := fun z => h4 z.1
    rw [if_neg h4, if_neg h4b, if_neg h4]
    by_cases h2 : a = 32
    · rw [if_pos h2, if_pos h2]
      by_cases hb : b = k
      · rw [if_pos hb, if_pos ⟨h2, hb⟩]
      · rw [if_neg hb, if_neg (fun z => hb z.2)]
    · have h2b : ¬ (a = 32 ∧ b = k) := fun z => h2 z.1
      rw [if_neg h2, if_neg h2b, if_neg h2]
theorem watch_27 {B : mv_I} {J : mv_J} {K : mv_K} (fin : K (some (.int (B 30 8))) (mwt B) J) : ∀ q k : Nat, k + q = 5 → mv_V mv_ow mv_swf mv_t_X7_watch (mv_cs [(131, sp_mReadWatch)]) K 27 [(0, .ref 30), (1, .int (nI k))] [] (mw1 B k) J := by
  intro q
  induction q with
  | zero =>
    intro k hk
    have hk : k = 5 := hk
    subst hk
    have k6 := watch_64 fin 25 0 rfl
    rw [mv_sr_self (fun b => by
      rw [fa_fill_0]
      unfold mw1
      rw [mv_sr_ne (by decide), mv_sr_ne (by decide), mv_si_ne (by decide)])] at k6
    refine mv_run_V (stop := [27, 64]) 60 _ _ _ _ _ ?_
    exact ⟨fun _ => k6, fun z => absurd z (by decide)⟩
  | succ q ih =>
    intro k hk
    have ck : (nI k).toNatClampNeg = k := nI_clamp (by omega)
    refine mv_run_V (stop := [27, 64]) 40 _ _ _ _ _ ?_
    refine ⟨fun z => ?_, fun _ => ?_⟩
    · have z : ¬ nI k < nI 5 := z
      exact absurd (nI_lt (by omega) (by decide)) z
    · refine ⟨rfl, _, rfl, rfl, _, rfl, _, rfl, vp_in_nI (by omega) (by decide), _, rfl, vp_in_nI (by omega) (by decide), rfl, _, rfl, rfl, _, rfl, _, rfl, vp_in_nI (by omega) (by decide), _, rfl, vp_in_nI (by omega) (by decide), ?_⟩
      rw [ck]
      have k6 := ih (k + 1) (by omega)
      have e1 : mw1 B k 35 k = B 35 k := by
        unfold mw1
        rw [mv_sr_ne (by decide), mv_sr_ne (by decide), mv_si_ne (by decide)]
      have e2 : mv_si (mw1 B k) 32 k (mw1 B k 35 k) 37 k = B 37 k := by
        rw [mv_si_ne (by decide)]
        unfold mw1
        rw [mv_sr_ne (by decide), mv_sr_ne (by decide), mv_si_ne (by decide)]
      rw [mw1_succ, nI_succ, ← e2, e1] at k6
      rw [← e1] at k6
      simp only [e1] at k6 ⊢
      exact k6
theorem cb_mWatch : mv_body 144 mv_t_X7_watch (mv_cs [(131, sp_mReadWatch)]) sp_mWatch := by
  intro as I J h
  obtain ⟨hM, rfl⟩ := h
  have hM := MH_th hM
  obtain ⟨-, ⟨n, hn, h2⟩, -⟩ := hM
  have cn : (th I 30 2).toNatClampNeg = n := by rw [h2]; exact nI_clamp (by omega)
  have key : mv_V mv_ow mv_swf mv_t_X7_watch (mv_cs [(131, sp_mReadWatch)]) (sp_mWatch.2 [.ref 30] I J) 5 [(0, .ref 30)] [] (th I) J := by
    refine mv_run_V (stop := [27]) 30 _ _ _ _ _ ?_
    refine ⟨rfl, rfl, ⟨rfl, n, hn, h2⟩, fun r1 B J1 hp => ?_⟩
    obtain ⟨rfl, hp⟩ := hp
    obtain ⟨rfl, hF, hm⟩ := hp n hn h2
    refine ⟨fun h1 => ?_, fun h1 => ?_⟩
    · have k6 := watch_27 (B := B) (J := J) (K := sp_mWatch.2 [.ref 30] I J) ⟨rfl, B, hF, by
        rw [cn, if_pos h1]
        exact ⟨rfl, rfl, hm h1⟩⟩ 5 0 rfl
      have e : mw1 B 0 = mv_si B 30 4 (B 30 8) := by
        unfold mw1
        rw [fa_fill_0, fa_fill_0, mv_sr_self (fun b => by rw [mv_sr_ne (by decide), mv_si_ne (by decide)]), mv_sr_self (fun b => by rw [mv_si_ne (by decide)])]
      rw [e] at k6
      exact ⟨rfl, rfl, k6⟩
    · refine ⟨rfl, B, hF, ?_⟩
      rw [cn, if_neg h1]
      exact ⟨rfl, rfl⟩
  refine ⟨rfl, mv_run_V (stop := [5]) 30 _ _ _ _ _ ?_⟩
  exact ⟨rfl, key⟩
theorem c_mWatch {l : Launch} {G : mv_G} {A : Nat → Prop} (hG : mv_adk G A) : mv_Con l G A 144 sp_mWatch := mv_con hG 144 mv_k_X7_watch (by decide +kernel) (mv_cs_cons (c_mReadWatch hG) (mv_cs_nil)) cb_mWatch
