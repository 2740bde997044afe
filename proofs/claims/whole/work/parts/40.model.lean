/-! The reference: its small methods. -/
theorem ix {a k : Nat} (h : a + k < 10000 := by omega) : (nI a + nI k).toNatClampNeg = a + k := by
  rw [nI_add]
  exact nI_clamp (by omega)
theorem ixin {a k n : Nat} (h : a + k < n) (hn : n < 10000 := by omega) : vp_in (nI a + nI k) n := by
  rw [nI_add]
  exact vp_in_nI h (by omega)
def sp_in : mv_SP := (fun as _ _ => ∃ v lo hi : Int64, as = [.long v, .long lo, .long hi],
  fun as I J r I' J' => I = I' ∧ J = J' ∧ match as with
    | [.long v, .long lo, .long hi] => r = some (.int (mv_b (lo ≤ v ∧ v ≤ hi)))
    | _ => True)
theorem cb_in : mv_body 109 mv_t_X7_in (mv_cs []) sp_in := by
  intro as I J h
  obtain ⟨v, lo, hi, rfl⟩ := h
  refine ⟨rfl, mv_run_V (stop := []) 30 _ _ _ _ _ ?_⟩
  refine ⟨fun h1 => ?_, fun h1 => ?_⟩
  · rw [lg_cmp_lt] at h1
    exact ⟨Or.inl rfl, rfl, rfl, by show _ = some (Value.int (mv_b (lo ≤ v ∧ v ≤ hi))); rw [mv_bf (fun z => absurd h1 (Int64.not_lt.mpr z.1))]⟩
  · rw [lg_cmp_lt] at h1
    refine ⟨fun h2 => ?_, fun h2 => ?_⟩
    · rw [lg_cmp_gt] at h2
      exact ⟨Or.inl rfl, rfl, rfl, by show _ = some (Value.int (mv_b (lo ≤ v ∧ v ≤ hi))); rw [mv_bf (fun z => absurd h2 (Int64.not_lt.mpr z.2))]⟩
    · rw [lg_cmp_gt] at h2
      exact ⟨Or.inr rfl, rfl, rfl, by show _ = some (Value.int (mv_b (lo ≤ v ∧ v ≤ hi))); rw [mv_bt ⟨Int64.not_lt.mp h1, Int64.not_lt.mp h2⟩]⟩
theorem c_in {l : Launch} {G : mv_G} {A : Nat → Prop} (hG : mv_adk G A) : mv_Con l G A 109 sp_in := mv_con hG 109 mv_k_X7_in (by decide +kernel) (mv_cs_nil) cb_in
theorem in_w {x lo hi : Int32} {lo' hi' : Int64} (h1 : lo' = lo.toInt64 := by rfl) (h2 : hi' = hi.toInt64 := by rfl) : (lo' ≤ x.toInt64 ∧ x.toInt64 ≤ hi') ↔ (lo ≤ x ∧ x ≤ hi) := by
  rw [h1, h2, fa_wide_le, fa_wide_le]
theorem mv_bc {c d : Prop} [Decidable c] [Decidable d] (h : c ↔ d) : mv_b c = mv_b d := by
  by_cases hd : d
  · rw [mv_bt hd, mv_bt (h.mpr hd)]
  · rw [mv_bf hd, mv_bf (fun z => hd (h.mp z))]
def sp_over : mv_SP := (fun as _ _ => ∃ x : Int32, as = [.int x],
  fun as I J r I' J' => I = I' ∧ J = J' ∧ match as with
    | [.int x] => r = some (.int (mv_mx 0 x))
    | _ => True)
theorem cb_over : mv_body 126 mv_t_X7_over (mv_cs []) sp_over := by
  intro as I J h
  obtain ⟨x, rfl⟩ := h
  have z0 : ∀ y : Int32, y = mv_mx 0 x → sp_over.2 [.int x] I J (some (.int y)) I J := fun y hy => ⟨rfl, rfl, by rw [hy]⟩
  refine ⟨rfl, mv_run_V (stop := []) 30 _ _ _ _ _ ?_⟩
  refine ⟨fun h1 => ?_, fun h1 => ?_⟩
  · refine z0 x ?_
    unfold mv_mx
    split
    · rfl
    · rename_i h2
      exact Int32.le_antisymm (Int32.not_lt.mp h2) (Int32.not_lt.mp h1)
  · refine z0 0 ?_
    unfold mv_mx
    rw [if_neg (fun z => absurd h1 (Int32.not_lt.mpr (Int32.le_of_lt z)))]
theorem c_over {l : Launch} {G : mv_G} {A : Nat → Prop} (hG : mv_adk G A) : mv_Con l G A 126 sp_over := mv_con hG 126 mv_k_X7_over (by decide +kernel) (mv_cs_nil) cb_over
def sp_noSeries : mv_SP := (fun as _ _ => ∃ s : Int32, as = [.ref 30, .int s],
  fun as I J r I' J' => I = I' ∧ J = J' ∧ match as with
    | [_, .int s] => r = some (.int (mv_b (¬ (0 ≤ s ∧ s ≤ I 30 4 - 1))))
    | _ => True)
theorem cb_noSeries : mv_body 123 mv_t_X7_noSeries (mv_cs [(109, sp_in)]) sp_noSeries := by
  intro as I J h
  obtain ⟨s, rfl⟩ := h
  refine ⟨rfl, mv_run_V (stop := []) 30 _ _ _ _ _ ?_⟩
  refine ⟨rfl, rfl, ⟨_, _, _, rfl⟩, fun r1 I1 J1 hp => ?_⟩
  obtain ⟨rfl, rfl, hr⟩ := hp
  have hr : r1 = some (.int (mv_b ((0 : Int64) ≤ s.toInt64 ∧ s.toInt64 ≤ (I 30 4 - 1).toInt64))) := hr
  rw [mv_bc (in_w (lo := 0) (hi := I 30 4 - 1))] at hr
  subst hr
  refine ⟨fun h1 => ?_, fun h1 => ?_⟩
  · exact ⟨Or.inl rfl, rfl, rfl, by show _ = some (Value.int (mv_b _)); rw [mv_bf (fun z => z (b_yes h1))]⟩
  · exact ⟨Or.inr rfl, rfl, rfl, by show _ = some (Value.int (mv_b _)); rw [mv_bt (mv_b0.mp h1)]⟩
theorem c_noSeries {l : Launch} {G : mv_G} {A : Nat → Prop} (hG : mv_adk G A) : mv_Con l G A 123 sp_noSeries := mv_con hG 123 mv_k_X7_noSeries (by decide +kernel) (mv_cs_cons (c_in hG) (mv_cs_nil)) cb_noSeries
/-- what the reference's methods need of a series' row -/
def MB (N : Nat) (I : mv_I) (r a s : Nat) : Prop := (∃ d : Nat, d ≤ N ∧ I r (a + 4) = nI d) ∧ (∃ n : Nat, n ≤ 12 ∧ I r (a + 11) = nI n) ∧ ∃ L : Nat, 1 ≤ L ∧ L ≤ 5 ∧ I 34 s = nI L
/-- the figure of the season for a day -/
def mfg (I : mv_I) (s d : Nat) : Int32 := I 33 (5 * s + d % (I 34 s).toNatClampNeg)
def sp_figureOf : mv_SP := (fun as I _ => ∃ s d : Nat, s < 5 ∧ d < 100000 ∧ (∃ L : Nat, 1 ≤ L ∧ L ≤ 5 ∧ I 34 s = nI L) ∧ as = [.ref 30, .int (nI s), .int (nI d)],
  fun as I J r I' J' => I = I' ∧ J = J' ∧ match as with
    | [_, .int s, .int d] => r = some (.int (mfg I s.toNatClampNeg d.toNatClampNeg))
    | _ => True)
theorem cb_figureOf : mv_body 105 mv_t_X7_figureOf (mv_cs []) sp_figureOf := by
  intro as I J h
  obtain ⟨s, d, hs, hd, ⟨L, hL1, hL5, hL⟩, rfl⟩ := h
  have cs : (nI s).toNatClampNeg = s := nI_clamp (by omega)
  have cd : (nI d).toNatClampNeg = d := nI_clamp (by omega)
  have hm : d % L < L := Nat.mod_lt _ (by omega)
  have hL2 : I 34 (nI s).toNatClampNeg = nI L := by rw [cs, hL]
  have e5 : nI 5 * nI s + (nI d - nI d / I 34 (nI s).toNatClampNeg * I 34 (nI s).toNatClampNeg) = nI (5 * s + d % L) := by
    rw [hL2, pk_rem (by omega) (by omega) (by omega), ← nI_add]
    congr 1
    exact (Int32.ofNat_mul 5 s).symm
  refine ⟨rfl, mv_run_V (stop := []) 30 _ _ _ _ _ ?_⟩
  refine ⟨rfl, _, rfl, rfl, _, rfl, _, rfl, vp_in_nI (by omega) (by decide), (by rw [hL2]; exact nI_ne0 (by omega) (by omega)), _, rfl, ?_, ?_⟩
  · have : vp_in (nI (5 * s + d % L)) 25 := vp_in_nI (by omega) (by decide)
    rw [← e5] at this
    exact this
  · refine ⟨rfl, rfl, ?_⟩
    show some (Value.int (I 33 (nI 5 * nI s + (nI d - nI d / I 34 (nI s).toNatClampNeg * I 34 (nI s).toNatClampNeg)).toNatClampNeg)) = some (Value.int (mfg I (nI s).toNatClampNeg (nI d).toNatClampNeg))
    rw [e5, cs, cd, nI_clamp (by omega)]
    unfold mfg
    rw [hL, nI_clamp (by omega)]
theorem c_figureOf {l : Launch} {G : mv_G} {A : Nat → Prop} (hG : mv_adk G A) : mv_Con l G A 105 sp_figureOf := mv_con hG 105 mv_k_X7_figureOf (by decide +kernel) (mv_cs_nil) cb_figureOf
theorem e24 (s : Nat) : nI 24 * nI s = nI (24 * s) := (Int32.ofNat_mul 24 s).symm
theorem mv_lay_pt {r : Nat} (h : r = 39 ∨ r = 40) : mv_lay r = (2, 121, 0) := by
  rcases h with rfl | rfl <;> rfl
/-- what is expected -/
def mex (I : mv_I) (r a s : Nat) : Int32 := (I r (a + 10) >>> ((4 : Int32) &&& 31)) + mfg I s (I r (a + 4)).toNatClampNeg - 5
def sp_expected : mv_SP := (fun as I _ => ∃ r s : Nat, (r = 39 ∨ r = 40) ∧ s < 5 ∧ MB 99999 I r (24 * s) s ∧ as = [.ref 30, .ref r, .int (nI s)],
  fun as I J r I' J' => I = I' ∧ J = J' ∧ match as with
    | [_, .ref o, .int s] => r = some (.int (mex I o (24 * s.toNatClampNeg) s.toNatClampNeg))
    | _ => True)
theorem cb_expected : mv_body 101 mv_t_X7_expected (mv_cs [(105, sp_figureOf)]) sp_expected := by
  intro as I J h
  obtain ⟨r, s, hr, hs, ⟨⟨d, hd, hdd⟩, -, hL⟩, rfl⟩ := h
  have cs : (nI s).toNatClampNeg = s := nI_clamp (by omega)
  have lay := mv_lay_pt hr
  have i10 : vp_in (nI 24 * nI s + nI 10) 121 := by rw [e24]; exact ixin (by omega)
  have i4 : vp_in (nI 24 * nI s + nI 4) 121 := by rw [e24]; exact ixin (by omega)
  have c10 : (nI 24 * nI s + nI 10).toNatClampNeg = 24 * s + 10 := by rw [e24]; exact ix
  have c4 : (nI 24 * nI s + nI 4).toNatClampNeg = 24 * s + 4 := by rw [e24]; exact ix
  have hd4 : I r (nI 24 * nI s + nI 4).toNatClampNeg = nI d := by rw [c4, hdd]
  refine ⟨rfl, mv_run_V (stop := []) 30 _ _ _ _ _ ?_⟩
  refine ⟨_, lay, i10, _, lay, i4, rfl, rfl, ⟨s, d, hs, by omega, hL, congrArg (fun z => [Value.ref 30, .int (nI s), .int z]) hd4⟩, fun r1 I1 J1 hp => ?_⟩
  obtain ⟨rfl, rfl, hq⟩ := hp
  have hq : r1 = some (.int (mfg I (nI s).toNatClampNeg (I r (nI 24 * nI s + nI 4).toNatClampNeg).toNatClampNeg)) := hq
  subst hq
  refine ⟨rfl, rfl, ?_⟩
  show some (Value.int ((I r (nI 24 * nI s + nI 10).toNatClampNeg >>> ((4 : Int32) &&& 31)) + mfg I (nI s).toNatClampNeg (I r (nI 24 * nI s + nI 4).toNatClampNeg).toNatClampNeg - 5)) = some (Value.int (mex I r (24 * (nI s).toNatClampNeg) (nI s).toNatClampNeg))
  rw [c10, c4, cs]
  rfl
theorem c_expected {l : Launch} {G : mv_G} {A : Nat → Prop} (hG : mv_adk G A) : mv_Con l G A 101 sp_expected := mv_con hG 101 mv_k_X7_expected (by decide +kernel) (mv_cs_cons (c_figureOf hG) (mv_cs_nil)) cb_expected
