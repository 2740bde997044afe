/-! The reference: set, chances, undo, keep, again, see, unsee, seed, count. -/
def sp_mSet : mv_SP := (fun as I _ => MH 9000 I ∧ ∃ s w v : Int32, as = [.ref 30, .int s, .int w, .int v],
  fun as I J r I' J' => J = J' ∧ ∀ s w v : Int32, as = [.ref 30, .int s, .int w, .int v] → (msv (th I) s → alwP w v → r = some (.int (mnt (th I) 39 (24 * s.toNatClampNeg + w.toNatClampNeg))) ∧ I' = mv_si (mnt (th I)) 39 (24 * s.toNatClampNeg + w.toNatClampNeg) v) ∧ (msv (th I) s → ¬ alwP w v → r = some (.int (-2)) ∧ I' = th I) ∧ (¬ msv (th I) s → r = some (.int (-1)) ∧ I' = th I))
theorem cb_mSet : mv_body 137 mv_t_X7_set (mv_cs [(123, sp_noSeries), (109, sp_in), (124, sp_note)]) sp_mSet := by
  intro as I J h
  obtain ⟨hM, s, w, v, rfl⟩ := h
  have hM := MH_th hM
  have key : mv_V mv_ow mv_swf mv_t_X7_set (mv_cs [(123, sp_noSeries), (109, sp_in), (124, sp_note)]) (sp_mSet.2 [.ref 30, .int s, .int w, .int v] I J) 5 [(0, .ref 30), (1, .int s), (2, .int w), (3, .int v)] [] (th I) J := by
    refine mv_run_V (stop := [72]) 60 _ _ _ _ _ ?_
    refine ⟨rfl, rfl, ⟨_, rfl⟩, fun r1 I1 J1 hp => ?_⟩
    obtain ⟨rfl, rfl, hq⟩ := hp
    have hq : r1 = some (.int (mv_b (¬ msv (th I) s))) := hq
    subst hq
    refine ⟨fun h1 => ?_, fun h1 => ?_⟩
    · have h1 : msv (th I) s := Decidable.not_not.mp (mv_b0.mp h1)
      obtain ⟨j, hj, rfl, cj, hMB⟩ := MH_in hM h1
      have no : ¬ alwP w v → sp_mSet.2 [.ref 30, .int (nI j), .int w, .int v] I J (some (.int (-2))) (th I) J := by
        intro hw
        refine ⟨rfl, fun s' w' v' e => ?_⟩
        cases e
        exact ⟨fun _ z => absurd z hw, fun _ _ => ⟨rfl, rfl⟩, fun z => absurd h1 z⟩
      refine ⟨rfl, ⟨_, _, _, rfl⟩, fun r1 I1 J1 hp => ?_⟩
      obtain ⟨rfl, rfl, hq⟩ := hp
      have hq : r1 = some (.int (mv_b ((0 : Int64) ≤ (w : Int32).toInt64 ∧ (w : Int32).toInt64 ≤ (3 : Int64)))) := hq
      rw [mv_bc (in_w (lo := 0) (hi := 3))] at hq
      subst hq
      refine ⟨fun h3 => ?_, fun h3 => ?_⟩
      · have h3 := mv_b0.mp h3
        refine no ?_
        intro z
        unfold alwP at z
        split at z
        · rename_i q; subst q; exact h3 ⟨by decide, by decide⟩
        · split at z
          · rename_i q; subst q; exact h3 ⟨by decide, by decide⟩
          · split at z
            · rename_i q; subst q; exact h3 ⟨by decide, by decide⟩
            · split at z
              · rename_i q; subst q; exact h3 ⟨by decide, by decide⟩
              · exact z
      · have h3 := b_yes h3
        obtain ⟨k, hk, rfl⟩ := in_nat (M := 3) (by decide) h3
        have ck : (nI k).toNatClampNeg = k := nI_clamp (by omega)
        have key72 : ∀ (lo hi : Int64) (lo' hi' : Int32), lo = lo'.toInt64 → hi = hi'.toInt64 → ((lo' ≤ v ∧ v ≤ hi') ↔ alwP (nI k) v) → mv_V mv_ow mv_swf mv_t_X7_set (mv_cs [(123, sp_noSeries), (109, sp_in), (124, sp_note)]) (sp_mSet.2 [.ref 30, .int (nI j), .int (nI k), .int v] I J) 72 [(0, .ref 30), (1, .int (nI j)), (2, .int (nI k)), (3, .int v)] [.long hi, .long lo, .long v.toInt64] (th I) J := by
          intro lo hi lo' hi' hlo hhi hal
          have ek : nI 24 * nI j + nI k = nI (24 * j + k) := by rw [e24, nI_add]
          have ik : vp_in (nI 24 * nI j + nI k) 121 := by rw [ek]; exact vp_in_nI (by omega) (by decide)
          have ckk : (nI 24 * nI j + nI k).toNatClampNeg = 24 * j + k := by rw [ek]; exact nI_clamp (by omega)
          refine mv_run_V (stop := []) 60 _ _ _ _ _ ?_
          refine ⟨rfl, ⟨_, _, _, rfl⟩, fun r1 I1 J1 hp => ?_⟩
          obtain ⟨rfl, rfl, hq⟩ := hp
          have hq : r1 = some (.int (mv_b (lo ≤ v.toInt64 ∧ v.toInt64 ≤ hi))) := hq
          rw [mv_bc (in_w (lo := lo') (hi := hi') hlo hhi)] at hq
          subst hq
          refine ⟨fun h4 => ?_, fun h4 => ?_⟩
          · have h4 := hal.mp (b_yes h4)
            refine ⟨rfl, rfl, ⟨rfl, hM.2.2.1⟩, fun r1 I1 J1 hp => ?_⟩
            obtain ⟨rfl, rfl, rfl⟩ := hp
            refine ⟨rfl, _, rfl, _, rfl, ik, rfl, _, rfl, _, rfl, ik, rfl, fun s' w' v' e => ?_⟩
            cases e
            refine ⟨fun _ _ => ?_, fun _ z => absurd h4 z, fun z => absurd h1 z⟩
            rw [cj, ck, ← ckk]
            exact ⟨rfl, rfl⟩
          · exact no (fun z => mv_b0.mp h4 (hal.mpr z))
        refine ⟨fun h4 => ?_, fun h4 => ?_⟩
        · refine ⟨fun h5 => ?_, fun h5 => ?_⟩
          · refine ⟨fun h6 => ?_, fun h6 => ?_⟩
            · refine ⟨fun h7 => ?_, fun h7 => ?_⟩
              · have hk3 : k = 3 := by
                  have a0 : k ≠ 0 := fun z => h5 (by rw [z]; rfl)
                  have a1 : k ≠ 1 := fun z => h4 (by rw [z]; rfl)
                  have a2 : k ≠ 2 := fun z => h7 (by rw [z]; rfl)
                  omega
                subst hk3
                exact key72 _ _ 0 1 rfl rfl Iff.rfl
              · have hk2 : k = 2 := (nI_eq (b := 2) (by omega) (by decide)).mp h7
                subst hk2
                exact key72 _ _ 0 4 rfl rfl Iff.rfl
            · exact absurd h6 h4
          · have hk0 : k = 0 := (nI_eq (b := 0) (by omega) (by decide)).mp h5
            subst hk0
            exact key72 _ _ 0 9 rfl rfl Iff.rfl
        · have hk1 : k = 1 := (nI_eq (b := 1) (by omega) (by decide)).mp h4
          subst hk1
          refine ⟨fun h5 => ?_, fun h5 => absurd h5 (by decide)⟩
          refine ⟨fun h6 => absurd rfl h6, fun h6 => ?_⟩
          exact key72 _ _ 1 99 rfl rfl Iff.rfl
    · have h1 : ¬ msv (th I) s := b_yes h1
      refine ⟨rfl, fun s' w' v' e => ?_⟩
      cases e
      exact ⟨fun z => absurd z h1, fun z => absurd z h1, fun _ => ⟨rfl, rfl⟩⟩
  refine ⟨rfl, mv_run_V (stop := [5]) 40 _ _ _ _ _ ?_⟩
  exact ⟨rfl, key⟩
theorem c_mSet {l : Launch} {G : mv_G} {A : Nat → Prop} (hG : mv_adk G A) : mv_Con l G A 137 sp_mSet := mv_con hG 137 mv_k_X7_set (by decide +kernel) (mv_cs_cons (c_noSeries hG) (mv_cs_cons (c_in hG) (mv_cs_cons (c_note hG) (mv_cs_nil)))) cb_mSet
def mds (w : Int32) : Int32 := w / 10000 + (w / 1000 - w / 1000 / 10 * 10) + (w / 100 - w / 100 / 10 * 10) + (w / 10 - w / 10 / 10 * 10) + (w - w / 10 * 10)
abbrev mdgP (w : Int32) : Prop := (0 ≤ w ∧ w ≤ 99999) ∧ mds w = 10
def sp_mChances : mv_SP := (fun as I _ => MH 9000 I ∧ ∃ w : Int32, as = [.ref 30, .int w],
  fun as I J r I' J' => J = J' ∧ ∀ w : Int32, as = [.ref 30, .int w] → if mdgP w then r = some (.int (mnt (th I) 39 120)) ∧ I' = mv_si (mnt (th I)) 39 120 w else r = some (.int (-2)) ∧ I' = th I)
theorem mv_nz100 : ¬ (100 : Int32) = 0 := by decide
theorem mv_nz1000 : ¬ (1000 : Int32) = 0 := by decide
theorem mv_nz10000 : ¬ (10000 : Int32) = 0 := by decide
theorem cb_mChances : mv_body 92 mv_t_X7_chances (mv_cs [(109, sp_in), (124, sp_note)]) sp_mChances := by
  intro as I J h
  obtain ⟨hM, w, rfl⟩ := h
  have hM := MH_th hM
  have key : mv_V mv_ow mv_swf mv_t_X7_chances (mv_cs [(109, sp_in), (124, sp_note)]) (sp_mChances.2 [.ref 30, .int w] I J) 5 [(0, .ref 30), (1, .int w)] [] (th I) J := by
    refine mv_run_V (stop := []) 80 _ _ _ _ _ ?_
    refine ⟨rfl, ⟨_, _, _, rfl⟩, fun r1 I1 J1 hp => ?_⟩
    obtain ⟨rfl, rfl, hq⟩ := hp
    have hq : r1 = some (.int (mv_b ((0 : Int64) ≤ (w : Int32).toInt64 ∧ (w : Int32).toInt64 ≤ (99999 : Int64)))) := hq
    rw [mv_bc (in_w (lo := 0) (hi := 99999))] at hq
    subst hq
    refine ⟨fun h1 => ?_, fun h1 => ?_⟩
    · have h1 := mv_b0.mp h1
      refine ⟨rfl, fun w' e => ?_⟩
      cases e
      rw [if_neg (fun z => h1 z.1)]
      exact ⟨rfl, rfl⟩
    · have h1 := b_yes h1
      refine ⟨mv_nz10000, mv_nz1000, mv_nz10, mv_nz100, mv_nz10, mv_nz10, mv_nz10, mv_nz10, fun h2 => ?_, fun h2 => ?_⟩
      · refine ⟨rfl, rfl, ⟨rfl, hM.2.2.1⟩, fun r1 I1 J1 hp => ?_⟩
        obtain ⟨rfl, rfl, rfl⟩ := hp
        refine ⟨rfl, _, rfl, _, rfl, vp_in_nI (n := 120) (by decide) (by decide), rfl, _, rfl, _, rfl, vp_in_nI (n := 120) (by decide) (by decide), rfl, fun w' e => ?_⟩
        cases e
        rw [if_pos ⟨h1, h2⟩]
        exact ⟨rfl, rfl⟩
      · refine ⟨rfl, fun w' e => ?_⟩
        cases e
        rw [if_neg (fun z => h2 z.2)]
        exact ⟨rfl, rfl⟩
  refine ⟨rfl, mv_run_V (stop := [5]) 40 _ _ _ _ _ ?_⟩
  exact ⟨rfl, key⟩
theorem c_mChances {l : Launch} {G : mv_G} {A : Nat → Prop} (hG : mv_adk G A) : mv_Con l G A 92 sp_mChances := mv_con hG 92 mv_k_X7_chances (by decide +kernel) (mv_cs_cons (c_in hG) (mv_cs_cons (c_note hG) (mv_cs_nil))) cb_mChances
def mun (I : mv_I) : mv_I := mv_sr (mv_si I 30 16 (I 30 16 - 1)) 39 (fa_fill (fun k => I 41 (121 * (I 30 16 - 1).toNatClampNeg + k)) (I 39) 121)
def sp_mUndo : mv_SP := (fun as I _ => MH 9000 I ∧ as = [.ref 30],
  fun _ I J r I' J' => J = J' ∧ if th I 30 16 = 0 then r = some (.int (-3)) ∧ I' = th I else r = some (.int (th I 30 16 - 1)) ∧ I' = mun (th I))
theorem cb_mUndo : mv_body 142 mv_t_X7_undo (mv_cs []) sp_mUndo := by
  intro as I J h
  obtain ⟨hM, rfl⟩ := h
  have hM := MH_th hM
  obtain ⟨-, -, ⟨d, hd, hdd⟩, -⟩ := hM
  have key27 : ∀ e : Nat, e < 14 → ¬ th I 30 16 = 0 → nI e = th I 30 16 - 1 → ∀ q k : Nat, k + q = 121 → mv_V mv_ow mv_swf mv_t_X7_undo (mv_cs []) (sp_mUndo.2 [.ref 30] I J) 27 [(0, .ref 30), (1, .int (nI k))] [] (mv_sr (mv_si (th I) 30 16 (nI e)) 39 (fa_fill (fun k => th I 41 (121 * e + k)) (th I 39) k)) J := by
    intro e he hne hee q
    have ce : (th I 30 16 - 1).toNatClampNeg = e := by rw [← hee]; exact nI_clamp (by omega)
    induction q with
    | zero =>
      intro k hk
      have hk : k = 121 := hk
      subst hk
      refine mv_run_V (stop := [27]) 40 _ _ _ _ _ ?_
      refine ⟨fun h1 => ?_, fun h1 => ?_⟩
      · refine ⟨rfl, rfl, ?_⟩
        rw [if_neg hne]
        unfold mun
        rw [ce, ← hee]
        exact ⟨rfl, rfl⟩
      · exact absurd h1 (by decide)
    | succ q ih =>
      intro k hk
      have ck : (nI k).toNatClampNeg = k := nI_clamp (by omega)
      have e121 : nI 121 * nI e + nI k = nI (121 * e + k) := by
        rw [← nI_add]
        congr 1
        exact (Int32.ofNat_mul 121 e).symm
      have cx : (121 * nI e + nI k).toNatClampNeg = 121 * e + k := by
        show (nI 121 * nI e + nI k).toNatClampNeg = 121 * e + k
        rw [e121]
        exact nI_clamp (by omega)
      refine mv_run_V (stop := [27]) 60 _ _ _ _ _ ?_
      refine ⟨fun h1 => ?_, fun h1 => ?_⟩
      · have h1 : ¬ nI k < nI 121 := h1
        exact absurd (nI_lt (by omega) (by decide)) h1
      · refine ⟨rfl, _, rfl, rfl, _, rfl, rfl, _, rfl, ?_, _, rfl, vp_in_nI (by omega) (by decide), ?_⟩
        · show vp_in (nI 121 * nI e + nI k) 1694
          rw [e121]
          exact vp_in_nI (by omega) (by decide)
        · have k6 := ih (k + 1) (by omega)
          rw [← fa_fill_succ, ← mv_si_srx, nI_succ, ← cx] at k6
          rw [ck]
          exact k6
  have key : mv_V mv_ow mv_swf mv_t_X7_undo (mv_cs []) (sp_mUndo.2 [.ref 30] I J) 5 [(0, .ref 30)] [] (th I) J := by
    refine mv_run_V (stop := [27]) 40 _ _ _ _ _ ?_
    refine ⟨rfl, fun h1 => ?_, fun h1 => ?_⟩
    · have h1 : ¬ th I 30 16 = 0 := h1
      have hd0 : d ≠ 0 := fun z => h1 (by rw [hdd, z]; rfl)
      have hee : nI (d - 1) = th I 30 16 - 1 := by
        rw [hdd]
        have e : d = d - 1 + 1 := by omega
        rw [e, nI_pred]
        rfl
      refine ⟨rfl, rfl, rfl, ?_⟩
      have k6 := key27 (d - 1) (by omega) h1 hee 121 0 rfl
      rw [fa_fill_0, mv_sr_self (fun b => by rw [mv_si_ne (by decide)]), hee] at k6
      exact k6
    · have h1 : th I 30 16 = 0 := h1
      refine ⟨rfl, ?_⟩
      rw [if_pos h1]
      exact ⟨rfl, rfl⟩
  refine ⟨rfl, mv_run_V (stop := [5]) 40 _ _ _ _ _ ?_⟩
  exact ⟨rfl, key⟩
theorem c_mUndo {l : Launch} {G : mv_G} {A : Nat → Prop} (hG : mv_adk G A) : mv_Con l G A 142 sp_mUndo := mv_con hG 142 mv_k_X7_undo (by decide +kernel) (mv_cs_nil) cb_mUndo
def mkp (I : mv_I) (s : Nat) : mv_I := mv_sr (mv_si I 43 s 1) 42 (fb_put (I 42) (I 39) (121 * s) 121)
def sp_mKeep : mv_SP := (fun as I _ => MH 9000 I ∧ ∃ s : Int32, as = [.ref 30, .int s],
  fun as I J r I' J' => J = J' ∧ ∀ s : Int32, as = [.ref 30, .int s] → if 0 ≤ s ∧ s ≤ 1 then r = some (.int (msA (mkp (th I) s.toNatClampNeg) (th I 30 4).toNatClampNeg)) ∧ I' = mkp (th I) s.toNatClampNeg else r = some (.int (-1)) ∧ I' = th I)
theorem cb_mKeep : mv_body 113 mv_t_X7_keep (mv_cs [(109, sp_in), (90, sp_allAlarms)]) sp_mKeep := by
  intro as I J h
  obtain ⟨hM, s, rfl⟩ := h
  have hM := MH_th hM
  obtain ⟨⟨m, hm, hmm, -⟩, -⟩ := hM
  have key26 : ∀ e : Nat, e ≤ 1 → s = nI e → ∀ q k : Nat, k + q = 121 → mv_V mv_ow mv_swf mv_t_X7_keep (mv_cs [(109, sp_in), (90, sp_allAlarms)]) (sp_mKeep.2 [.ref 30, .int s] I J) 26 [(0, .ref 30), (1, .int (nI e)), (2, .int (nI k))] [] (mv_sr (mv_si (th I) 43 e 1) 42 (fb_put (th I 42) (th I 39) (121 * e) k)) J := by
    intro e he hse q
    have ce : (nI e).toNatClampNeg = e := nI_clamp (by omega)
    induction q with
    | zero =>
      intro k hk
      have hk : k = 121 := hk
      subst hk
      refine mv_run_V (stop := [26]) 40 _ _ _ _ _ ?_
      refine ⟨fun h1 => ?_, fun h1 => ?_⟩
      · refine ⟨rfl, rfl, ⟨rfl, m, hm, hmm⟩, fun r1 I1 J1 hp => ?_⟩
        obtain ⟨rfl, rfl, rfl⟩ := hp
        refine ⟨rfl, fun s' e' => ?_⟩
        cases e'
        rw [hse, if_pos ⟨(nI_leI (a := 0) (by decide) (by omega)).mpr (by omega), (nI_leI (b := 1) (by omega) (by decide)).mpr he⟩, ce]
        exact ⟨rfl, rfl⟩
      · exact absurd h1 (by decide)
    | succ q ih =>
      intro k hk
      have ck : (nI k).toNatClampNeg = k := nI_clamp (by omega)
      have e121 : nI 121 * nI e + nI k = nI (121 * e + k) := by
        rw [← nI_add]
        congr 1
        exact (Int32.ofNat_mul 121 e).symm
      have cx : (121 * nI e + nI k).toNatClampNeg = 121 * e + k := by
        show (nI 121 * nI e + nI k).toNatClampNeg = 121 * e + k
        rw [e121]
        exact nI_clamp (by omega)
      refine mv_run_V (stop := [26]) 60 _ _ _ _ _ ?_
      refine ⟨fun h1 => ?_, fun h1 => ?_⟩
      · have h1 : ¬ nI k < nI 121 := h1
        exact absurd (nI_lt (by omega) (by decide)) h1
      · refine ⟨rfl, _, rfl, rfl, _, rfl, _, rfl, vp_in_nI (by omega) (by decide), _, rfl, ?_, ?_⟩
        · show vp_in (nI 121 * nI e + nI k) 242
          rw [e121]
          exact vp_in_nI (by omega) (by decide)
        · have k6 := ih (k + 1) (by omega)
          rw [← fb_put_succ, ← mv_si_srx, nI_succ, ← cx] at k6
          rw [ck]
          exact k6
  have key : mv_V mv_ow mv_swf mv_t_X7_keep (mv_cs [(109, sp_in), (90, sp_allAlarms)]) (sp_mKeep.2 [.ref 30, .int s] I J) 5 [(0, .ref 30), (1, .int s)] [] (th I) J := by
    refine mv_run_V (stop := [26]) 60 _ _ _ _ _ ?_
    refine ⟨rfl, ⟨_, _, _, rfl⟩, fun r1 I1 J1 hp => ?_⟩
    obtain ⟨rfl, rfl, hq⟩ := hp
    have hq : r1 = some (.int (mv_b ((0 : Int64) ≤ (s : Int32).toInt64 ∧ (s : Int32).toInt64 ≤ (1 : Int64)))) := hq
    rw [mv_bc (in_w (lo := 0) (hi := 1))] at hq
    subst hq
    refine ⟨fun h1 => ?_, fun h1 => ?_⟩
    · have h1 := b_yes h1
      obtain ⟨e, he, hse⟩ := in_nat (M := 1) (by decide) h1
      have cs : s.toNatClampNeg = e := by rw [hse]; exact nI_clamp (by omega)
      have k6 := key26 e he hse 121 0 rfl
      rw [fb_put_0, mv_sr_self (fun b => by rw [mv_si_ne (by decide)]), ← hse, ← cs] at k6
      refine ⟨rfl, _, rfl, _, rfl, (by rw [hse]; exact vp_in_nI (by omega) (by decide)), Or.inr rfl, ?_⟩
      exact k6
    · have h1 := mv_b0.mp h1
      refine ⟨rfl, fun s' e => ?_⟩
      cases e
      rw [if_neg h1]
      exact ⟨rfl, rfl⟩
  refine ⟨rfl, mv_run_V (stop := [5]) 40 _ _ _ _ _ ?_⟩
  exact ⟨rfl, key⟩
theorem c_mKeep {l : Launch} {G : mv_G} {A : Nat → Prop} (hG : mv_adk G A) : mv_Con l G A 113 sp_mKeep := mv_con hG 113 mv_k_X7_keep (by decide +kernel) (mv_cs_cons (c_in hG) (mv_cs_cons (c_allAlarms hG) (mv_cs_nil))) cb_mKeep
def mgn (I : mv_I) (s : Nat) : mv_I := mv_si (mv_sr I 39 (fa_fill (fun k => I 42 (121 * s + k)) (I 39) 121)) 30 16 0
def sp_mAgain : mv_SP := (fun as I _ => MH 9000 I ∧ ∃ s : Int32, as = [.ref 30, .int s],
  fun as I J r I' J' => J = J' ∧ ∀ s : Int32, as = [.ref 30, .int s] → if 0 ≤ s ∧ s ≤ 1 then (if th I 43 s.toNatClampNeg = 0 then r = some (.int (-3)) ∧ I' = th I else r = some (.int (msA (mgn (th I) s.toNatClampNeg) (th I 30 4).toNatClampNeg)) ∧ I' = mgn (th I) s.toNatClampNeg) else r = some (.int (-1)) ∧ I' = th I)
theorem cb_mAgain : mv_body 88 mv_t_X7_again (mv_cs [(109, sp_in), (90, sp_allAlarms)]) sp_mAgain := by
  intro as I J h
  obtain ⟨hM, s, rfl⟩ := h
  have hM := MH_th hM
  obtain ⟨⟨m, hm, hmm, -⟩, -⟩ := hM
  have key31 : ∀ e : Nat, e ≤ 1 → s = nI e → ¬ th I 43 e = 0 → ∀ q k : Nat, k + q = 121 → mv_V mv_ow mv_swf mv_t_X7_again (mv_cs [(109, sp_in), (90, sp_allAlarms)]) (sp_mAgain.2 [.ref 30, .int s] I J) 31 [(0, .ref 30), (1, .int (nI e)), (2, .int (nI k))] [] (mv_sr (th I) 39 (fa_fill (fun k => th I 42 (121 * e + k)) (th I 39) k)) J := by
    intro e he hse hk0 q
    have ce : (nI e).toNatClampNeg = e := nI_clamp (by omega)
    induction q with
    | zero =>
      intro k hk
      have hk : k = 121 := hk
      subst hk
      refine mv_run_V (stop := [31]) 40 _ _ _ _ _ ?_
      refine ⟨fun h1 => ?_, fun h1 => ?_⟩
      · refine ⟨rfl, rfl, rfl, ⟨rfl, m, hm, hmm⟩, fun r1 I1 J1 hp => ?_⟩
        obtain ⟨rfl, rfl, rfl⟩ := hp
        refine ⟨rfl, fun s' e' => ?_⟩
        cases e'
        rw [hse, if_pos ⟨(nI_leI (a := 0) (by decide) (by omega)).mpr (by omega), (nI_leI (b := 1) (by omega) (by decide)).mpr he⟩, ce, if_neg hk0]
        exact ⟨rfl, rfl⟩
      · exact absurd h1 (by decide)
    | succ q ih =>
      intro k hk
      have ck : (nI k).toNatClampNeg = k := nI_clamp (by omega)
      have e121 : nI 121 * nI e + nI k = nI (121 * e + k) := by
        rw [← nI_add]
        congr 1
        exact (Int32.ofNat_mul 121 e).symm
      have cx : (121 * nI e + nI k).toNatClampNeg = 121 * e + k := by
        show (nI 121 * nI e + nI k).toNatClampNeg = 121 * e + k
        rw [e121]
        exact nI_clamp (by omega)
      refine mv_run_V (stop := [31]) 60 _ _ _ _ _ ?_
      refine ⟨fun h1 => ?_, fun h1 => ?_⟩
      · have h1 : ¬ nI k < nI 121 := h1
        exact absurd (nI_lt (by omega) (by decide)) h1
      · refine ⟨rfl, _, rfl, rfl, _, rfl, _, rfl, ?_, _, rfl, vp_in_nI (by omega) (by decide), ?_⟩
        · show vp_in (nI 121 * nI e + nI k) 242
          rw [e121]
          exact vp_in_nI (by omega) (by decide)
        · have k6 := ih (k + 1) (by omega)
          rw [← fa_fill_succ, ← mv_si_srx, nI_succ, ← cx] at k6
          rw [ck]
          exact k6
  have key : mv_V mv_ow mv_swf mv_t_X7_again (mv_cs [(109, sp_in), (90, sp_allAlarms)]) (sp_mAgain.2 [.ref 30, .int s] I J) 5 [(0, .ref 30), (1, .int s)] [] (th I) J := by
    refine mv_run_V (stop := [31]) 60 _ _ _ _ _ ?_
    refine ⟨rfl, ⟨_, _, _, rfl⟩, fun r1 I1 J1 hp => ?_⟩
    obtain ⟨rfl, rfl, hq⟩ := hp
    have hq : r1 = some (.int (mv_b ((0 : Int64) ≤ (s : Int32).toInt64 ∧ (s : Int32).toInt64 ≤ (1 : Int64)))) := hq
    rw [mv_bc (in_w (lo := 0) (hi := 1))] at hq
    subst hq
    refine ⟨fun h1 => ?_, fun h1 => ?_⟩
    · have h1 := b_yes h1
      obtain ⟨e, he, hse⟩ := in_nat (M := 1) (by decide) h1
      have ce : s.toNatClampNeg = e := by rw [hse]; exact nI_clamp (by omega)
      refine ⟨rfl, _, rfl, _, rfl, (by rw [hse]; exact vp_in_nI (by omega) (by decide)), fun h2 => ?_, fun h2 => ?_⟩
      · have h2 : ¬ th I 43 s.toNatClampNeg = 0 := h2
        rw [ce] at h2
        have k6 := key31 e he hse h2 121 0 rfl
        rw [mv_sr_self (fun b => by rw [fa_fill_0]), ← hse] at k6
        exact k6
      · have h2 : th I 43 s.toNatClampNeg = 0 := h2
        refine ⟨rfl, fun s' e' => ?_⟩
        cases e'
        rw [if_pos h1, if_pos h2]
        exact ⟨rfl, rfl⟩
    · have h1 := mv_b0.mp h1
      refine ⟨rfl, fun s' e => ?_⟩
      cases e
      rw [if_neg h1]
      exact ⟨rfl, rfl⟩
  refine ⟨rfl, mv_run_V (stop := [5]) 40 _ _ _ _ _ ?_⟩
  exact ⟨rfl, key⟩
theorem c_mAgain {l : Launch} {G : mv_G} {A : Nat → Prop} (hG : mv_adk G A) : mv_Con l G A 88 sp_mAgain := mv_con hG 88 mv_k_X7_again (by decide +kernel) (mv_cs_cons (c_in hG) (mv_cs_cons (c_allAlarms hG) (mv_cs_nil))) cb_mAgain
def mse (I : mv_I) (s n k w : Int32) : mv_I := mv_si (mv_si (mv_si (mv_si (mv_si I 44 (I 30 19).toNatClampNeg s) 45 (I 30 19).toNatClampNeg n) 46 (I 30 19).toNatClampNeg k) 47 (I 30 19).toNatClampNeg w) 30 19 (I 30 19 + 1)
def sp_mSee : mv_SP := (fun as I _ => MH 9000 I ∧ ∃ s n k w : Int32, as = [.ref 30, .int s, .int n, .int k, .int w],
  fun as I J r I' J' => J = J' ∧ ∀ s n k w : Int32, as = [.ref 30, .int s, .int n, .int k, .int w] → if msv (th I) s then (if seeP n k w then (if th I 30 19 = 6 then r = some (.int (-4)) ∧ I' = th I else r = some (.int (th I 30 19 + 1)) ∧ I' = mse (th I) s n k w) else r = some (.int (-2)) ∧ I' = th I) else r = some (.int (-1)) ∧ I' = th I)
theorem see_fin {I : mv_I} {J : mv_J} {s n k w : Int32} {q : Nat} (hq6 : q ≤ 6) (hqq : th I 30 19 = nI q) : ∀ (x : Int32) (I1 : mv_I), msv (th I) s → seeP n k w → ¬ th I 30 19 = 6 → x = th I 30 19 + 1 → I1 = mse (th I) s n k w → sp_mSee.2 [.ref 30, .int s, .int n, .int k, .int w] I J (some (.int x)) I1 J := by
  rintro x I1 h1 h2 h6 rfl rfl
  refine ⟨rfl, fun s' n' k' w' e => ?_⟩
  cases e
  rw [if_pos h1, if_pos h2, if_neg h6]
  exact ⟨rfl, rfl⟩
theorem see_106 {I : mv_I} {J : mv_J} {s n k w : Int32} {q : Nat} (hq6 : q ≤ 6) (hqq : th I 30 19 = nI q) : ∀ B : mv_I, msv (th I) s → seeP n k w → ¬ th I 30 19 = 6 → B 30 19 = th I 30 19 → B = mv_si (mv_si (mv_si (mv_si (th I) 44 (th I 30 19).toNatClampNeg s) 45 (th I 30 19).toNatClampNeg n) 46 (th I 30 19).toNatClampNeg k) 47 (th I 30 19).toNatClampNeg w → mv_V mv_ow mv_swf mv_t_X7_see (mv_cs [(123, sp_noSeries), (109, sp_in)]) (sp_mSee.2 [.ref 30, .int s, .int n, .int k, .int w] I J) 106 [(0, .ref 30), (1, .int s), (2, .int n), (3, .int k), (4, .int w)] [] B J := by
  intro B h1 h2 h6 h30 hB
  refine mv_run_V (stop := []) 30 _ _ _ _ _ ?_
  refine ⟨rfl, rfl, rfl, rfl, see_fin hq6 hqq _ _ h1 h2 h6 ?_ ?_⟩
  · rw [mv_si_ap, if_pos ⟨rfl, rfl⟩, h30]
  · rw [h30, hB]
    rfl
theorem see_85 {I : mv_I} {J : mv_J} {s n k w : Int32} {q : Nat} (hq6 : q ≤ 6) (hqq : th I 30 19 = nI q) : ∀ B : mv_I, msv (th I) s → seeP n k w → ¬ th I 30 19 = 6 → B 30 19 = th I 30 19 → B = mv_si (mv_si (th I) 44 (th I 30 19).toNatClampNeg s) 45 (th I 30 19).toNatClampNeg n → mv_V mv_ow mv_swf mv_t_X7_see (mv_cs [(123, sp_noSeries), (109, sp_in)]) (sp_mSee.2 [.ref 30, .int s, .int n, .int k, .int w] I J) 85 [(0, .ref 30), (1, .int s), (2, .int n), (3, .int k), (4, .int w)] [] B J := by
  intro B h1 h2 h6 h30 hB
  have hq5 : q ≠ 6 := fun z => h6 (by rw [hqq, z]; rfl)
  have iq : vp_in (B 30 19) 6 := by rw [h30, hqq]; exact vp_in_nI (by omega) (by decide)
  have e1 : mv_si B 46 (B 30 19).toNatClampNeg k 30 19 = B 30 19 := by rw [mv_si_ne (by decide)]
  have iq2 : vp_in (mv_si B 46 (B 30 19).toNatClampNeg k 30 19) 6 := by rw [e1]; exact iq
  refine mv_run_V (stop := [106]) 30 _ _ _ _ _ ?_
  refine ⟨rfl, _, rfl, rfl, _, rfl, iq, rfl, _, rfl, rfl, _, rfl, iq2, ?_⟩
  refine see_106 hq6 hqq _ h1 h2 h6 ?_ ?_
  · rw [mv_si_ne (by decide), e1, h30]
  · rw [e1, h30, hB]
theorem see_65 {I : mv_I} {J : mv_J} {s n k w : Int32} {q : Nat} (hq6 : q ≤ 6) (hqq : th I 30 19 = nI q) : msv (th I) s → seeP n k w → ¬ th I 30 19 = 6 → mv_V mv_ow mv_swf mv_t_X7_see (mv_cs [(123, sp_noSeries), (109, sp_in)]) (sp_mSee.2 [.ref 30, .int s, .int n, .int k, .int w] I J) 65 [(0, .ref 30), (1, .int s), (2, .int n), (3, .int k), (4, .int w)] [] (th I) J := by
  intro h1 h2 h6
  have hq5 : q ≠ 6 := fun z => h6 (by rw [hqq, z]; rfl)
  have iq : vp_in (th I 30 19) 6 := by rw [hqq]; exact vp_in_nI (by omega) (by decide)
  have e1 : mv_si (th I) 44 (th I 30 19).toNatClampNeg s 30 19 = th I 30 19 := by rw [mv_si_ne (by decide)]
  have iq2 : vp_in (mv_si (th I) 44 (th I 30 19).toNatClampNeg s 30 19) 6 := by rw [e1]; exact iq
  refine mv_run_V (stop := [85]) 30 _ _ _ _ _ ?_
  refine ⟨rfl, _, rfl, rfl, _, rfl, iq, rfl, _, rfl, rfl, _, rfl, iq2, ?_⟩
  refine see_85 hq6 hqq _ h1 h2 h6 ?_ ?_
  · rw [mv_si_ne (by decide), e1]
  · rw [e1]
theorem see_no {I : mv_I} {J : mv_J} {s n k w : Int32} (h1 : msv (th I) s) : ¬ seeP n k w → sp_mSee.2 [.ref 30, .int s, .int n, .int k, .int w] I J (some (.int (-2))) (th I) J := by
  intro hw
  refine ⟨rfl, fun s' n' k' w' e => ?_⟩
  cases e
  rw [if_pos h1, if_neg hw]
  exact ⟨rfl, rfl⟩
theorem see_53 {I : mv_I} {J : mv_J} {s n k w : Int32} {q : Nat} (hq6 : q ≤ 6) (hqq : th I 30 19 = nI q) (h1 : msv (th I) s) (h2 : seeP n k w) : mv_V mv_ow mv_swf mv_t_X7_see (mv_cs [(123, sp_noSeries), (109, sp_in)]) (sp_mSee.2 [.ref 30, .int s, .int n, .int k, .int w] I J) 53 [(0, .ref 30), (1, .int s), (2, .int n), (3, .int k), (4, .int w)] [] (th I) J := by
  refine mv_run_V (stop := [65]) 30 _ _ _ _ _ ?_
  refine ⟨rfl, fun h6 => ?_, fun h6 => ?_⟩
  · have h6 : ¬ th I 30 19 = 6 := h6
    exact see_65 hq6 hqq h1 h2 h6
  · have h6 : th I 30 19 = 6 := h6
    refine ⟨rfl, fun s' n' k' w' e => ?_⟩
    cases e
    rw [if_pos h1, if_pos h2, if_pos h6]
    exact ⟨rfl, rfl⟩
theorem see_39 {I : mv_I} {J : mv_J} {s n k w : Int32} {q : Nat} (hq6 : q ≤ 6) (hqq : th I 30 19 = nI q) (h1 : msv (th I) s) (h3 : 0 ≤ n ∧ n ≤ 9) (h4 : 0 ≤ k ∧ k ≤ 9) : mv_V mv_ow mv_swf mv_t_X7_see (mv_cs [(123, sp_noSeries), (109, sp_in)]) (sp_mSee.2 [.ref 30, .int s, .int n, .int k, .int w] I J) 39 [(0, .ref 30), (1, .int s), (2, .int n), (3, .int k), (4, .int w)] [] (th I) J := by
  refine mv_run_V (stop := [53]) 30 _ _ _ _ _ ?_
  refine ⟨rfl, ⟨_, _, _, rfl⟩, fun r1 I1 J1 hp => ?_⟩
  obtain ⟨rfl, rfl, hq⟩ := hp
  have hq : r1 = some (.int (mv_b ((0 : Int64) ≤ (w : Int32).toInt64 ∧ (w : Int32).toInt64 ≤ (1 : Int64)))) := hq
  rw [mv_bc (in_w (lo := 0) (hi := 1))] at hq
  subst hq
  refine ⟨fun h5 => ?_, fun h5 => ?_⟩
  · exact see_53 hq6 hqq h1 ⟨h3, h4, b_yes h5⟩
  · exact see_no h1 (fun z => mv_b0.mp h5 z.2.2)
theorem see_27 {I : mv_I} {J : mv_J} {s n k w : Int32} {q : Nat} (hq6 : q ≤ 6) (hqq : th I 30 19 = nI q) (h1 : msv (th I) s) (h3 : 0 ≤ n ∧ n ≤ 9) : mv_V mv_ow mv_swf mv_t_X7_see (mv_cs [(123, sp_noSeries), (109, sp_in)]) (sp_mSee.2 [.ref 30, .int s, .int n, .int k, .int w] I J) 27 [(0, .ref 30), (1, .int s), (2, .int n), (3, .int k), (4, .int w)] [] (th I) J := by
  refine mv_run_V (stop := [39]) 30 _ _ _ _ _ ?_
  refine ⟨rfl, ⟨_, _, _, rfl⟩, fun r1 I1 J1 hp => ?_⟩
  obtain ⟨rfl, rfl, hq⟩ := hp
  have hq : r1 = some (.int (mv_b ((0 : Int64) ≤ (k : Int32).toInt64 ∧ (k : Int32).toInt64 ≤ (9 : Int64)))) := hq
  rw [mv_bc (in_w (lo := 0) (hi := 9))] at hq
  subst hq
  refine ⟨fun h5 => ?_, fun h5 => ?_⟩
  · exact see_no h1 (fun z => mv_b0.mp h5 z.2.1)
  · exact see_39 hq6 hqq h1 h3 (b_yes h5)
theorem see_15 {I : mv_I} {J : mv_J} {s n k w : Int32} {q : Nat} (hq6 : q ≤ 6) (hqq : th I 30 19 = nI q) (h1 : msv (th I) s) : mv_V mv_ow mv_swf mv_t_X7_see (mv_cs [(123, sp_noSeries), (109, sp_in)]) (sp_mSee.2 [.ref 30, .int s, .int n, .int k, .int w] I J) 15 [(0, .ref 30), (1, .int s), (2, .int n), (3, .int k), (4, .int w)] [] (th I) J := by
  refine mv_run_V (stop := [27]) 30 _ _ _ _ _ ?_
  refine ⟨rfl, ⟨_, _, _, rfl⟩, fun r1 I1 J1 hp => ?_⟩
  obtain ⟨rfl, rfl, hq⟩ := hp
  have hq : r1 = some (.int (mv_b ((0 : Int64) ≤ (n : Int32).toInt64 ∧ (n : Int32).toInt64 ≤ (9 : Int64)))) := hq
  rw [mv_bc (in_w (lo := 0) (hi := 9))] at hq
  subst hq
  refine ⟨fun h5 => ?_, fun h5 => ?_⟩
  · exact see_no h1 (fun z => mv_b0.mp h5 z.1)
  · exact see_27 hq6 hqq h1 (b_yes h5)
theorem cb_mSee : mv_body 134 mv_t_X7_see (mv_cs [(123, sp_noSeries), (109, sp_in)]) sp_mSee := by
  intro as I J h
  obtain ⟨hM, s, n, k, w, rfl⟩ := h
  have hM := MH_th hM
  obtain ⟨-, -, -, q, hq6, hqq, -⟩ := hM
  have key : mv_V mv_ow mv_swf mv_t_X7_see (mv_cs [(123, sp_noSeries), (109, sp_in)]) (sp_mSee.2 [.ref 30, .int s, .int n, .int k, .int w] I J) 5 [(0, .ref 30), (1, .int s), (2, .int n), (3, .int k), (4, .int w)] [] (th I) J := by
    refine mv_run_V (stop := [15]) 30 _ _ _ _ _ ?_
    refine ⟨rfl, rfl, ⟨_, rfl⟩, fun r1 I1 J1 hp => ?_⟩
    obtain ⟨rfl, rfl, hq⟩ := hp
    have hq : r1 = some (.int (mv_b (¬ msv (th I) s))) := hq
    subst hq
    refine ⟨fun h1 => ?_, fun h1 => ?_⟩
    · exact see_15 hq6 hqq (Decidable.not_not.mp (mv_b0.mp h1))
    · have h1 : ¬ msv (th I) s := b_yes h1
      refine ⟨rfl, fun s' n' k' w' e => ?_⟩
      cases e
      rw [if_neg h1]
      exact ⟨rfl, rfl⟩
  refine ⟨rfl, mv_run_V (stop := [5]) 40 _ _ _ _ _ ?_⟩
  exact ⟨rfl, key⟩
theorem c_mSee {l : Launch} {G : mv_G} {A : Nat → Prop} (hG : mv_adk G A) : mv_Con l G A 134 sp_mSee := mv_con hG 134 mv_k_X7_see (by decide +kernel) (mv_cs_cons (c_noSeries hG) (mv_cs_cons (c_in hG) (mv_cs_nil))) cb_mSee
def sp_mUnsee : mv_SP := (fun as _ _ => as = [.ref 30], fun _ I J r I' J' => J = J' ∧ r = some (.int (th I 30 19)) ∧ I' = mv_si (th I) 30 19 0)
theorem cb_mUnsee : mv_body 143 mv_t_X7_unsee (mv_cs []) sp_mUnsee := by
  intro as I J h
  have h : as = [.ref 30] := h
  subst h
  refine ⟨rfl, mv_run_V (stop := []) 40 _ _ _ _ _ ?_⟩
  exact ⟨rfl, rfl, rfl, rfl, rfl, rfl⟩
theorem c_mUnsee {l : Launch} {G : mv_G} {A : Nat → Prop} (hG : mv_adk G A) : mv_Con l G A 143 sp_mUnsee := mv_con hG 143 mv_k_X7_unsee (by decide +kernel) (mv_cs_nil) cb_mUnsee
def sp_mSeed : mv_SP := (fun as _ _ => ∃ v : Int64, as = [.ref 30, .long v], fun as I J r I' J' => I' = th I ∧ ∀ v : Int64, as = [.ref 30, .long v] → r = some (.long (J 30 24)) ∧ J' = mv_sj J 30 24 v)
theorem cb_mSeed : mv_body 135 mv_t_X7_seed (mv_cs []) sp_mSeed := by
  intro as I J h
  obtain ⟨v, rfl⟩ := h
  refine ⟨rfl, mv_run_V (stop := []) 40 _ _ _ _ _ ?_⟩
  refine ⟨rfl, rfl, rfl, rfl, fun v' e => ?_⟩
  cases e
  exact ⟨rfl, rfl⟩
theorem c_mSeed {l : Launch} {G : mv_G} {A : Nat → Prop} (hG : mv_adk G A) : mv_Con l G A 135 sp_mSeed := mv_con hG 135 mv_k_X7_seed (by decide +kernel) (mv_cs_nil) cb_mSeed
def mcnF (I : mv_I) (w : Int32) : Int32 := if w = 0 then I 30 2 else if w = 1 then I 30 4 else if w = 2 then msA I (I 30 4).toNatClampNeg else if w = 3 then I 39 120 else if w = 4 then I 30 16 else if w = 5 then I 30 19 else -2
def sp_mCount : mv_SP := (fun as I _ => MH 9000 I ∧ ∃ w : Int32, as = [.ref 30, .int w],
  fun as I J r I' J' => J = J' ∧ I' = th I ∧ ∀ w : Int32, as = [.ref 30, .int w] → r = some (.int (mcnF (th I) w)))
theorem cb_mCount : mv_body 97 mv_t_X7_count (mv_cs [(90, sp_allAlarms)]) sp_mCount := by
  intro as I J h
  obtain ⟨hM, w, rfl⟩ := h
  have hM := MH_th hM
  obtain ⟨⟨m, hm, hmm, -⟩, -⟩ := hM
  have fin : ∀ x : Int32, x = mcnF (th I) w → sp_mCount.2 [.ref 30, .int w] I J (some (.int x)) (th I) J := by
    intro x hx
    refine ⟨rfl, rfl, fun w' e => ?_⟩
    cases e
    rw [hx]
  have key : mv_V mv_ow mv_swf mv_t_X7_count (mv_cs [(90, sp_allAlarms)]) (sp_mCount.2 [.ref 30, .int w] I J) 5 [(0, .ref 30), (1, .int w)] [] (th I) J := by
    refine mv_run_V (stop := []) 60 _ _ _ _ _ ?_
    refine ⟨fun h0 => ?_, fun h0 => ?_⟩
    · exact ⟨rfl, fin _ (by unfold mcnF; rw [if_pos h0])⟩
    refine ⟨fun h1 => ?_, fun h1 => ?_⟩
    · exact ⟨rfl, fin _ (by unfold mcnF; rw [if_neg h0, if_pos h1])⟩
    refine ⟨fun h2 => ?_, fun h2 => ?_⟩
    · refine ⟨rfl, rfl, ⟨rfl, m, hm, hmm⟩, fun r1 I1 J1 hp => ?_⟩
      obtain ⟨rfl, rfl, rfl⟩ := hp
      exact fin _ (by unfold mcnF; rw [if_neg h0, if_neg h1, if_pos h2])
    refine ⟨fun h3 => ?_, fun h3 => ?_⟩
    · exact ⟨rfl, _, rfl, _, rfl, vp_in_nI (n := 120) (by decide) (by decide), fin _ (by unfold mcnF; rw [if_neg h0, if_neg h1, if_neg h2, if_pos h3]; rfl)⟩
    refine ⟨fun h4 => ?_, fun h4 => ?_⟩
    · exact ⟨rfl, fin _ (by unfold mcnF; rw [if_neg h0, if_neg h1, if_neg h2, if_neg h3, if_pos h4])⟩
    refine ⟨fun h5 => ?_, fun h5 => ?_⟩
    · exact ⟨rfl, fin _ (by unfold mcnF; rw [if_neg h0, if_neg h1, if_neg h2, if_neg h3, if_neg h4, if_pos h5])⟩
    exact fin _ (by unfold mcnF; rw [if_neg h0, if_neg h1, if_neg h2, if_neg h3, if_neg h4, if_neg h5])
  refine ⟨rfl, mv_run_V (stop := [5]) 40 _ _ _ _ _ ?_⟩
  exact ⟨rfl, key⟩
theorem c_mCount {l : Launch} {G : mv_G} {A : Nat → Prop} (hG : mv_adk G A) : mv_Con l G A 97 sp_mCount := mv_con hG 97 mv_k_X7_count (by decide +kernel) (mv_cs_cons (c_allAlarms hG) (mv_cs_nil)) cb_mCount
