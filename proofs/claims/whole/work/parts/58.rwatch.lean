/-! The reference: reading the watch. -/
theorem nine_ne {n : Nat} (h : n < 1000) : ¬ nI n = -9 := by
  intro z
  rw [fa_eq, nI_toInt (by omega)] at z
  have e9 : (-9 : Int32).toInt = -9 := rfl
  omega
theorem two_nat {T : Nat → Int32} {n p q : Nat} {lo : Int32} (hlo : 0 ≤ lo) (h1 : tdP T n p 0 9) (h2 : tdP T n q lo 9) : ¬ 10 * (T p - 48) + (T q - 48) = -9 := by
  obtain ⟨d, hd, e⟩ := td_nat (M := 9) (by decide) (by decide) h1
  obtain ⟨d2, hd2, e2⟩ := td_nat (M := 9) hlo (by decide) h2
  rw [e, e2]
  have : (10 : Int32) * nI d + nI d2 = nI (10 * d + d2) := by
    rw [← nI_add]
    congr 1
    exact (Int32.ofNat_mul 10 d).symm
  rw [this]
  exact nine_ne (by omega)
def sp_mReadSeries : mv_SP := (fun as I _ => as = [.ref 30] ∧ ∃ p n i : Nat, p < n ∧ n ≤ 80 ∧ i ≤ 5 ∧ I 30 3 = nI p ∧ I 30 2 = nI n ∧ I 30 8 = nI i,
  fun _ I J r I' J' => J = J' ∧ ∀ p n i : Nat, p < n → n ≤ 80 → i ≤ 5 → I 30 3 = nI p → I 30 2 = nI n → I 30 8 = nI i → FRt I I' ∧ ((r = some (.int 0) ∧ ∃ q, q ≤ n ∧ I' 30 3 = nI q ∧ ffF (I 31) n (n - p) p 0 i = nI q) ∨ (r = some (.int 1) ∧ i < 5 ∧ ∃ L, slN (I 31) n (p + 8) 5 0 = L ∧ 1 ≤ L ∧ p + 9 + L ≤ n ∧ I' 30 3 = nI (p + 9 + L) ∧ I' 30 8 = nI (i + 1) ∧ ffF (I 31) n (n - p) p 0 i = ffF (I 31) n (n - (p + 9 + L)) (p + 9 + L) 0 (i + 1) ∧ FRs I I' i ∧ RS I' (I 31) n i p)))
theorem cb_mReadSeries : mv_body 130 mv_t_X7_readSeries (mv_cs [(104, sp_figure), (141, sp_two)]) sp_mReadSeries := by
  intro as I J h
  obtain ⟨rfl, p, n, i, hp, hn, hi, h3, h2, h8⟩ := h
  have cp : (nI p).toNatClampNeg = p := nI_clamp (by omega)
  have uniq : ∀ {p' n' i' : Nat}, p' < n' → n' ≤ 80 → i' ≤ 5 → I 30 3 = nI p' → I 30 2 = nI n' → I 30 8 = nI i' → p' = p ∧ n' = n ∧ i' = i := fun a b c d e f => ⟨(nI_eq (by omega) (by omega)).mp (d.symm.trans h3), (nI_eq (by omega) (by omega)).mp (e.symm.trans h2), (nI_eq (by omega) (by omega)).mp (f.symm.trans h8)⟩
  have fin0 : ∀ I1 q, FRt I I1 → q ≤ n → I1 30 3 = nI q → ffF (I 31) n (n - p) p 0 i = nI q → sp_mReadSeries.2 [.ref 30] I J (some (.int 0)) I1 J := by
    intro I1 q hF hq hq3 hff
    refine ⟨rfl, fun p' n' i' a b c d e f => ?_⟩
    obtain ⟨rfl, rfl, rfl⟩ := uniq a b c d e f
    exact ⟨hF, Or.inl ⟨rfl, q, hq, hq3, hff⟩⟩
  have frI : FRt I I := ⟨fun _ _ _ => rfl, fun _ _ _ => rfl⟩
  refine ⟨rfl, mv_run_V (stop := [44]) 60 _ _ _ _ _ ?_⟩
  refine ⟨rfl, fun h1 => ?_, fun h1 => ?_⟩
  · refine ⟨Or.inl rfl, fin0 _ p frI (by omega) h3 (ff_fail (by omega) (Or.inr hp) (fun _ => Or.inl ?_))⟩
    rw [h8] at h1
    exact (nI_eq (b := 5) (by omega) (by decide)).mp h1
  · have hi5 : i < 5 := by
      rw [h8] at h1
      have : i ≠ 5 := fun z => h1 (by rw [z]; rfl)
      omega
    refine ⟨rfl, _, rfl, rfl, _, rfl, (by rw [h3]; exact vp_in_nI (by omega) (by decide)), ?_⟩
    rw [h3, cp]
    refine ⟨fun h4 => ?_, fun h4 => ?_⟩
    · have h4 : I 31 p = 99 := h4
      have hff1 := ff_step (T := I 31) (n := n) (pl := 0) (co := i) hp (by omega) (by unfold fitP; rw [if_pos rfl]; exact h4) (by rw [h4]; decide)
      have k6 := rs_44 (I := I) (J := J) (K := sp_mReadSeries.2 [.ref 30] I J) (i := i) (p := p) (n := n) hi5 hn h2 fin0 (fun t1 t2 f3 => rs_50 hi5 hn h2 fin0 (fun t3 f4 => rs_70 hi5 hn h2 fin0 (fun t4 t5 f6 => rs_89 hi5 hn h2 fin0 (fun t6 f7 => rs_109 hi5 hn h2 fin0 (fun t7 f8 => rs_129 hi5 hn h2 h8 (by have := t7.1; omega) fin0 (fun B L hL1 hL5 hS hlt h46 hall hff2 => by
        obtain ⟨r1, r2, r3, r4, r5, r6⟩ := RS_final (T := I 31) rfl hi5 hL1 hL5 hS hlt h46 hall t3 t4 t5
        refine rs_264 hi5 ⟨rfl, fun p' n' i' a b c d e f => ?_⟩
        obtain ⟨rfl, rfl, rfl⟩ := uniq a b c d e f
        have e9 : p' + 8 + L + 1 = p' + 9 + L := by omega
        refine ⟨r2, Or.inr ⟨rfl, hi5, L, r1, hL1, by omega, ?_, ?_, ?_, r3, r4⟩⟩
        · rw [r5, e9]
        · rw [r6, hS.2.2.2.1, h8, nI_1]
        · rw [hff2, e9]) (td_0 (by decide) t7) f8) (by have := t6.1; omega) (td_0 (by decide) t6) f7) (by have := t5.1; omega) (two_nat (by split <;> decide) t4 t5) f6) (by have := t3.1; omega) (td_0 (by decide) t3) f4) (by have := t2.1; omega) (two_nat (by split <;> decide) t1 t2) f3) (by omega) hff1
      refine ⟨rfl, rfl, rfl, rfl, ?_⟩
      have e : PL I (p + 1) = mv_si I 30 3 (nI p + 1) := by
        unfold PL
        rw [nI_1]
      have e8 : mv_si I 30 3 (nI p + 1) 30 8 = nI i := by
        rw [mv_si_ap, if_neg (by decide), h8]
      rw [h3, e8]
      rw [e, ← e24] at k6
      exact k6
    · refine ⟨Or.inl rfl, fin0 _ p frI (by omega) h3 (ff_fail (by omega) (Or.inr hp) (fun _ => Or.inr (fun hf => ?_)))⟩
      unfold fitP at hf
      rw [if_pos rfl] at hf
      exact h4 hf
theorem c_mReadSeries {l : Launch} {G : mv_G} {A : Nat → Prop} (hG : mv_adk G A) : mv_Con l G A 130 sp_mReadSeries := mv_con hG 130 mv_k_X7_readSeries (by decide +kernel) (mv_cs_cons (c_figure hG) (mv_cs_cons (c_two hG) (mv_cs_nil))) cb_mReadSeries
/-- where the c of the series s stands -/
noncomputable def psN (T : Nat → Int32) (n : Nat) : Nat → Nat
  | 0 => 1
  | s + 1 => psN T n s + 9 + slN T n (psN T n s + 8) 5 0
theorem FRt_trans {I I' I2 : mv_I} (h : FRt I I') (h2 : FRt I' I2) : FRt I I2 := ⟨fun a ha hb => (h2.1 a ha hb).trans (h.1 a ha hb), fun b hb hb8 => (h2.2 b hb hb8).trans (h.2 b hb hb8)⟩
theorem RS_cong {I I' : mv_I} {T : Nat → Int32} {n s i p : Nat} (h : FRs I I' i) (hs : s ≠ i) (hR : RS I T n s p) : RS I' T n s p := by
  obtain ⟨⟨L, hL1, hL5, hsl, h37, h36⟩, h35, a0, a1, a2, a3, a9, a10, q1, q2⟩ := hR
  obtain ⟨f1, f2, f3, -⟩ := h
  refine ⟨⟨L, hL1, hL5, hsl, (f1 s hs).2.trans h37, fun j hj => (f2 _ (by omega)).trans (h36 j hj)⟩, (f1 s hs).1.trans h35, (f3 _ (by omega)).trans a0, (f3 _ (by omega)).trans a1, (f3 _ (by omega)).trans a2, (f3 _ (by omega)).trans a3, (f3 _ (by omega)).trans a9, (f3 _ (by omega)).trans a10, q1, q2⟩
/-- the first s series are read -/
def RW (I B : mv_I) (n s : Nat) : Prop := FRt I B ∧ B 30 3 = nI (psN (I 31) n s) ∧ B 30 8 = nI s ∧ s ≤ 5 ∧ psN (I 31) n s ≤ n ∧ ffF (I 31) n (n - psN (I 31) n s) (psN (I 31) n s) 0 s = fltF (I 31) n ∧ (∀ q, q < s → RS B (I 31) n q (psN (I 31) n q) ∧ psN (I 31) n q + 10 ≤ n ∧ ∀ k, (4 ≤ k ∧ k < 9) ∨ (11 ≤ k ∧ k < 24) → B 38 (24 * q + k) = 0) ∧ ∀ b, 24 * s ≤ b → b < 121 → B 38 b = 0
def sp_mReadWatch : mv_SP := (fun as I _ => as = [.ref 30] ∧ ∃ n : Nat, n ≤ 80 ∧ I 30 2 = nI n,
  fun _ I J r I' J' => J = J' ∧ ∀ n : Nat, n ≤ 80 → I 30 2 = nI n → r = some (.int (fltF (I 31) n)) ∧ FRt I I' ∧ (fltF (I 31) n = -9 → ∃ m : Nat, RW I I' n m ∧ psN (I 31) n m = n))
theorem cb_mReadWatch : mv_body 131 mv_t_X7_readWatch (mv_cs [(130, sp_mReadSeries)]) sp_mReadWatch := by
  intro as I J h
  obtain ⟨rfl, n, hn, h2⟩ := h
  have uniq : ∀ {n' : Nat}, n' ≤ 80 → I 30 2 = nI n' → n' = n := fun b e => (nI_eq (by omega) (by omega)).mp (e.symm.trans h2)
  have fin : ∀ (x : Int32) (B : mv_I), x = fltF (I 31) n → FRt I B → (x = -9 → ∃ m : Nat, RW I B n m ∧ psN (I 31) n m = n) → sp_mReadWatch.2 [.ref 30] I J (some (.int x)) B J := by
    intro x B hx hF hm
    refine ⟨rfl, fun n' b e => ?_⟩
    have := uniq b e
    subst this
    exact ⟨by rw [hx], hF, fun z => hm (by rw [hx, z])⟩
  have key56 : ∀ r s : Nat, ∀ B, RW I B n s → n - psN (I 31) n s ≤ r → mv_V mv_ow mv_swf mv_t_X7_readWatch (mv_cs [(130, sp_mReadSeries)]) (sp_mReadWatch.2 [.ref 30] I J) 56 [(0, .ref 30)] [] B J := by
    intro r
    induction r with
    | zero =>
      intro s B hR hr
      have hR0 := hR
      obtain ⟨hF, h3, h8, hs, hle, hff, -⟩ := hR
      have hB2 : B 30 2 = nI n := (hF.2 2 (by decide) (by decide)).trans h2
      have hpe : psN (I 31) n s = n := by omega
      refine mv_run_V (stop := [56]) 30 _ _ _ _ _ ?_
      refine ⟨rfl, rfl, fun h1 => ?_, fun h1 => ?_⟩
      · refine fin _ _ ?_ hF (fun _ => ⟨s, hR0, hpe⟩)
        rw [← hff, hpe, Nat.sub_self, ffF, if_pos rfl]
      · rw [h3, hB2, hpe] at h1
        exact absurd h1 (nI_nlt (Nat.le_refl _) (by omega))
    | succ r ih =>
      intro s B hR hr
      have hR0 := hR
      obtain ⟨hF, h3, h8, hs, hle, hff, hq, hz⟩ := hR
      have hB2 : B 30 2 = nI n := (hF.2 2 (by decide) (by decide)).trans h2
      have hB31 : B 31 = I 31 := hF.1 31 (by decide) (by decide)
      refine mv_run_V (stop := [56]) 30 _ _ _ _ _ ?_
      refine ⟨rfl, rfl, fun h1 => ?_, fun h1 => ?_⟩
      · rw [h3, hB2] at h1
        have h1 : ¬ psN (I 31) n s < n := fun z => h1 (nI_lt z (by omega))
        have hpe : psN (I 31) n s = n := by omega
        refine fin _ _ ?_ hF (fun _ => ⟨s, hR0, hpe⟩)
        rw [← hff, hpe, Nat.sub_self, ffF, if_pos rfl]
      · rw [h3, hB2] at h1
        have h1 := (nI_ltI (by omega) (by omega)).mp h1
        refine ⟨rfl, rfl, ⟨rfl, _, n, s, h1, hn, hs, h3, hB2, h8⟩, fun r1 I1 J1 hp => ?_⟩
        obtain ⟨rfl, hp⟩ := hp
        obtain ⟨hF1, hp⟩ := hp _ n s h1 hn hs h3 hB2 h8
        rw [hB31, hff] at hp
        have hF2 := FRt_trans hF hF1
        rcases hp with ⟨rfl, q, hqn, hq3, hqf⟩ | ⟨rfl, hs5, L, hL, hL1, hLn, hL3, hL8, hLf, hFs, hRS⟩
        · refine ⟨fun z => absurd rfl z, fun _ => ?_⟩
          refine ⟨rfl, ?_⟩
          rw [hq3]
          exact fin _ _ hqf.symm hF2 (fun z => absurd z (nine_ne (by omega)))
        · refine ⟨fun _ => ?_, fun z => absurd z (by decide)⟩
          have eps : psN (I 31) n (s + 1) = psN (I 31) n s + 9 + L := by rw [psN, hL]
          refine ih (s + 1) I1 ⟨hF2, by rw [eps]; exact hL3, hL8, by omega, by rw [eps]; exact hLn, by rw [eps]; exact hLf.symm, fun q hqs => ?_, fun b hb1 hb2 => ?_⟩ (by rw [eps]; omega)
          · by_cases e : q = s
            · subst e
              refine ⟨hRS, by omega, fun k hk => ?_⟩
              rw [hFs.2.2.2 k hk]
              exact hz _ (by omega) (by omega)
            · obtain ⟨a, b, c⟩ := hq q (by omega)
              refine ⟨RS_cong hFs e a, b, fun k hk => ?_⟩
              rw [hFs.2.2.1 _ (by omega)]
              exact c k hk
          · rw [hFs.2.2.1 _ (by omega)]
            exact hz b (by omega) hb2
  have key31 : ∀ B, FRt I B → (∀ b, b < 121 → B 38 b = 0) → B 30 8 = 0 → mv_V mv_ow mv_swf mv_t_X7_readWatch (mv_cs [(130, sp_mReadSeries)]) (sp_mReadWatch.2 [.ref 30] I J) 31 [(0, .ref 30)] [] B J := by
    intro B hF hz h8
    have hB2 : B 30 2 = nI n := (hF.2 2 (by decide) (by decide)).trans h2
    have hB31 : B 31 = I 31 := hF.1 31 (by decide) (by decide)
    refine mv_run_V (stop := [56]) 30 _ _ _ _ _ ?_
    refine ⟨rfl, fun h1 => ?_, fun h1 => ?_⟩
    · rw [hB2] at h1
      have h1 := (nI_eq (b := 0) (by omega) (by decide)).mp h1
      exact fin 0 _ (by unfold fltF; rw [if_pos (Or.inl h1)]) hF (fun z => absurd z (by decide))
    · rw [hB2] at h1
      have h1 : ¬ n = 0 := fun z => h1 (by rw [z]; rfl)
      refine ⟨rfl, _, rfl, _, rfl, vp_in_nI (n := 0) (by decide) (by decide), ?_⟩
      rw [hB31]
      refine ⟨fun h4 => ?_, fun h4 => ?_⟩
      · have h4 : I 31 0 = 87 := h4
        refine ⟨rfl, key56 80 0 (mv_si B 30 3 1) ⟨⟨fun a ha hb => (mv_si_ne ha).trans (hF.1 a ha hb), fun b hb hb8 => ?_⟩, ?_, ?_, by decide, ?_, ?_, fun q hq => absurd hq (Nat.not_lt_zero q), fun b _ hb => ?_⟩ (by omega)⟩
        · rw [mv_si_ap, if_neg (fun z => hb z.2)]
          exact hF.2 b hb hb8
        · rw [mv_si_ap, if_pos ⟨rfl, rfl⟩]
          rfl
        · rw [mv_si_ap, if_neg (by decide)]
          exact h8
        · show 1 ≤ n
          omega
        · show ffF (I 31) n (n - 1) 1 0 0 = _
          unfold fltF
          rw [if_neg (fun z => z.elim h1 (fun z => z h4))]
        · rw [mv_si_ne (by decide)]
          exact hz b hb
      · have h4 : ¬ I 31 0 = 87 := h4
        exact fin 0 _ (by unfold fltF; rw [if_pos (Or.inr h4)]) hF (fun z => absurd z (by decide))
  have key12 : ∀ q k : Nat, k + q = 121 → mv_V mv_ow mv_swf mv_t_X7_readWatch (mv_cs [(130, sp_mReadSeries)]) (sp_mReadWatch.2 [.ref 30] I J) 12 [(0, .ref 30), (1, .int (nI k))] [] (mv_sr (mv_si (mv_si I 30 8 0) 30 3 0) 38 (fa_fill (fun _ => 0) (I 38) k)) J := by
    intro q
    induction q with
    | zero =>
      intro k hk
      have hk : k = 121 := hk
      subst hk
      refine mv_run_V (stop := [12, 31]) 30 _ _ _ _ _ ?_
      refine ⟨fun _ => ?_, fun z => absurd z (by decide)⟩
      refine mv_keep [0] (key31 _ ⟨fun a ha hb => ?_, fun b hb hb8 => ?_⟩ (fun b hb => ?_) ?_)
      · rw [mv_sr_ne (by omega), mv_si_ne ha, mv_si_ne ha]
      · rw [mv_sr_ne (by decide), mv_si_ap, if_neg (fun z => hb z.2), mv_si_ap, if_neg (fun z => hb8 z.2)]
      · rw [mv_sr_at, fa_fill_in hb]
      · rw [mv_sr_ne (by decide), mv_si_ap, if_neg (by decide), mv_si_ap, if_pos ⟨rfl, rfl⟩]
    | succ q ih =>
      intro k hk
      have ck : (nI k).toNatClampNeg = k := nI_clamp (by omega)
      refine mv_run_V (stop := [12, 31]) 30 _ _ _ _ _ ?_
      refine ⟨fun z => ?_, fun _ => ?_⟩
      · have z : ¬ nI k < nI 121 := z
        exact absurd (nI_lt (by omega) (by decide)) z
      · refine ⟨rfl, _, rfl, _, rfl, vp_in_nI (by omega) (by decide), ?_⟩
        have k6 := ih (k + 1) (by omega)
        rw [← fa_fill_succ, ← mv_si_srx, nI_succ] at k6
        rw [ck]
        exact k6
  refine ⟨rfl, mv_run_V (stop := [12]) 30 _ _ _ _ _ ?_⟩
  have k6 := key12 121 0 rfl
  rw [mv_sr_self (fun b => by rw [fa_fill_0, mv_si_ne (by decide), mv_si_ne (by decide)])] at k6
  exact ⟨rfl, rfl, k6⟩
theorem c_mReadWatch {l : Launch} {G : mv_G} {A : Nat → Prop} (hG : mv_adk G A) : mv_Con l G A 131 sp_mReadWatch := mv_con hG 131 mv_k_X7_readWatch (by decide +kernel) (mv_cs_cons (c_mReadSeries hG) (mv_cs_nil)) cb_mReadWatch
