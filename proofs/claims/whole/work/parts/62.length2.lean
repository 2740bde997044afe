/-! The reference: length. -/
def mlyF (s w : Int32) : Nat → Int32
  | 0 => 0
  | i + 1 => if mlyF s w i = 0 then (if s < nI i - 2 ∧ 0 < mch w i then 1 else 0) else 1
abbrev sqM (s b : Nat) (w : Int32) : mv_Q := fun r k => sqF r s b w 5 k
def mlenU (s b : Nat) (w : Int32) : Nat := ((gjS b (sqM s b w) b).2 0 b).toInt.toNat
def mlenL (s b : Nat) (w : Int32) : Nat := ((gjS b (sqM s b w) b).2 0 0).toInt.toNat
def LENOK (s b : Nat) (w : Int32) : Prop := (∀ p, p < b → ¬ (gjS b (sqM s b w) p).2 p p = 0) ∧ ∃ U L : Nat, 0 < L ∧ U < 2 ^ 62 ∧ L < 2 ^ 62 ∧ (gjS b (sqM s b w) b).2 0 b = lN U ∧ (gjS b (sqM s b w) b).2 0 0 = lN L
def mlenF (s b : Nat) (w u : Int32) : Int64 := if 6 < b then -3 else if mlyF (nI s) w 5 = 0 then -9 else lN ((if u = 0 then mlenL s b w else mlenU s b w) / Nat.gcd (mlenU s b w) (mlenL s b w))
def sp_mLength : mv_SP := (fun as I _ => MH 9000 I ∧ ∃ s u : Int32, as = [.ref 30, .int s, .int u] ∧ (msv I s → ∃ sl b : Nat, sl ≤ 9 ∧ 1 ≤ b ∧ b ≤ 99 ∧ I 39 (24 * s.toNatClampNeg) = nI sl ∧ I 39 (24 * s.toNatClampNeg + 1) = nI b ∧ (b ≤ 6 → ¬ mlyF (nI sl) (I 39 120) 5 = 0 → LENOK sl b (I 39 120))),
  fun as I J r I' J' => I' = th I ∧ (∀ a, a ≠ 48 → J' a = J a) ∧ ∀ s u : Int32, as = [.ref 30, .int s, .int u] → r = some (.long (if msv (th I) s then mlenF (th I 39 (24 * s.toNatClampNeg)).toNatClampNeg (th I 39 (24 * s.toNatClampNeg + 1)).toNatClampNeg (th I 39 120) u else -1)))
abbrev len_cs : Nat → mv_SP := mv_cs [(123, sp_noSeries), (91, sp_chanceOf), (114, sp_laySquare), (95, sp_clearSquare), (118, sp_longDivisor)]
theorem len_108 {I : mv_I} {J : mv_J} {K : mv_K} {sl b : Nat} {s u : Int32} (hs : sl ≤ 9) (hb1 : 1 ≤ b) (hb : b ≤ 6) (hok : LENOK sl b (I 39 120))
    (fin : ∀ J1 : mv_J, (∀ a, a ≠ 48 → J1 a = J a) → K (some (.long (lN ((if u = 0 then mlenL sl b (I 39 120) else mlenU sl b (I 39 120)) / Nat.gcd (mlenU sl b (I 39 120)) (mlenL sl b (I 39 120)))))) I J1) : mv_V mv_ow mv_swf mv_t_X7_length len_cs K 108 [(0, .ref 30), (1, .int s), (2, .int u), (3, .int (nI b)), (4, .int (nI sl))] [] I J := by
  have cb : (nI b).toNatClampNeg = b := nI_clamp (by omega)
  have cs : (nI sl).toNatClampNeg = sl := nI_clamp (by omega)
  obtain ⟨hpv, U, L, hL0, hU, hL, eU, eL⟩ := hok
  have mU : mlenU sl b (I 39 120) = U := by
    unfold mlenU
    rw [eU, pk_lT (by omega)]
    rfl
  have mL : mlenL sl b (I 39 120) = L := by
    unfold mlenL
    rw [eL, pk_lT (by omega)]
    rfl
  have hg0 : 0 < Nat.gcd U L := Nat.gcd_pos_of_pos_right _ hL0
  have hgL : Nat.gcd U L ≤ L := Nat.le_of_dvd hL0 (Nat.gcd_dvd_right U L)
  rw [mU, mL] at fin
  have key120 : ∀ J2 : mv_J, (∀ a, a ≠ 48 → J2 a = J a) → J2 48 b = lN U → J2 48 0 = lN L → mv_V mv_ow mv_swf mv_t_X7_length len_cs K 120 [(0, .ref 30), (1, .int s), (2, .int u), (3, .int (nI b)), (4, .int (nI sl))] [] I J2 := by
    intro J2 hJ h1 h2
    have h3 : J2 48 (nI b).toNatClampNeg = lN U := by rw [cb]; exact h1
    refine mv_run_V (stop := []) 60 _ _ _ _ _ ?_
    refine ⟨rfl, _, rfl, _, rfl, vp_in_nI (by omega) (by decide), ?_⟩
    rw [h3]
    refine ⟨rfl, _, rfl, _, rfl, vp_in_nI (n := 0) (by decide) (by decide), ?_⟩
    rw [show J2 48 (Int32.toNatClampNeg 0) = lN L from h2]
    refine ⟨rfl, ⟨U, L, by omega, by omega, rfl⟩, fun r1 I1 J3 hp => ?_⟩
    obtain ⟨rfl, rfl, hq⟩ := hp
    have hq := hq U L (by omega) (by omega) rfl
    subst hq
    have hne : ¬ lN (Nat.gcd U L) = 0 := fun z => by
      have := (lN_eq0 (by omega)).mp z
      omega
    have f := fin J2 hJ
    refine ⟨fun _ => ?_, fun z => absurd z (lg_ge0 (by omega))⟩
    refine ⟨fun h5 => ?_, fun h5 => ?_⟩
    · rw [if_pos h5, ← pk_lDiv (by omega) hg0 (by omega)] at f
      exact ⟨hne, f⟩
    · rw [if_neg h5, ← pk_lDiv (by omega) hg0 (by omega)] at f
      exact ⟨hne, f⟩
  refine mv_run_V (stop := [120]) 60 _ _ _ _ _ ?_
  refine ⟨rfl, rfl, ⟨b, sl, hb, hs, rfl⟩, fun r1 I1 J1 hp => ?_⟩
  obtain ⟨rfl, rfl, hJ1, hq⟩ := hp
  have hq : ∀ up, up < (nI b).toNatClampNeg → ∀ k, k < 7 → J1 48 (7 * up + k) = sqF up (nI sl).toNatClampNeg (nI b).toNatClampNeg (I 39 120) 5 k := hq
  rw [cb, cs] at hq
  have cg := gjS_congr (n := b) (M := fun r k => J1 48 (7 * r + k)) (M' := sqM sl b (I 39 120)) (fun i hi j hj => hq i hi j (by omega))
  refine ⟨rfl, rfl, ⟨b, hb, rfl, fun p hp z => hpv p hp ?_⟩, fun r1 I1 J2 hp => ?_⟩
  · rw [← (cg p (by omega)).2 p hp p (by omega)]
    exact z
  · obtain ⟨rfl, rfl, hJ2, hS⟩ := hp
    have hS : SQ (nI b).toNatClampNeg J2 (gjS (nI b).toNatClampNeg (fun r k => J1 48 (7 * r + k)) (nI b).toNatClampNeg).2 := hS
    rw [cb] at hS
    refine key120 J2 (fun a ha => (hJ2 a ha).trans (hJ1 a ha)) ?_ ?_
    · have := hS 0 hb1 b (Nat.le_refl _)
      rw [(cg b (Nat.le_refl _)).2 0 hb1 b (Nat.le_refl _), eU] at this
      rw [← this]
      congr 1
      omega
    · have := hS 0 hb1 0 (Nat.zero_le _)
      rw [(cg b (Nat.le_refl _)).2 0 hb1 0 (Nat.zero_le _), eL] at this
      exact this
theorem len_59 {I : mv_I} {J : mv_J} {K : mv_K} {s u b3 sl : Int32}
    (h99 : mv_V mv_ow mv_swf mv_t_X7_length len_cs K 99 [(0, .ref 30), (1, .int s), (2, .int u), (3, .int b3), (4, .int sl), (5, .int (mlyF sl (I 39 120) 5))] [] I J) : ∀ q i : Nat, i + q = 5 → mv_V mv_ow mv_swf mv_t_X7_length len_cs K 59 [(0, .ref 30), (1, .int s), (2, .int u), (3, .int b3), (4, .int sl), (5, .int (mlyF sl (I 39 120) i)), (6, .int (nI i - 2))] [] I J := by
  intro q
  induction q with
  | zero =>
    intro i hi
    have hi : i = 5 := hi
    subst hi
    refine mv_run_V (stop := [59, 99]) 40 _ _ _ _ _ ?_
    refine ⟨fun _ => ?_, fun z => absurd ((two_lt 5 (by decide)).mpr (by decide)) z⟩
    exact mv_keep [0, 1, 2, 3, 4, 5] h99
  | succ q ih =>
    intro i hi
    have hx := ih (i + 1) (by omega)
    rw [mlyF, sub2_succ] at hx
    refine mv_run_V (stop := [59, 99]) 40 _ _ _ _ _ ?_
    refine ⟨fun z => absurd ((two_lt i (by omega)).mp z) (by omega), fun _ => ?_⟩
    refine ⟨fun h1 => ?_, fun h1 => ?_⟩
    · rw [if_neg h1] at hx
      exact hx
    · rw [if_pos h1] at hx
      refine ⟨fun h2 => ?_, fun h2 => ?_⟩
      · rw [if_neg (fun z => h2 z.1)] at hx
        exact hx
      · refine ⟨rfl, rfl, ⟨i, by omega, rfl⟩, fun r1 I1 J1 hp => ?_⟩
        obtain ⟨rfl, rfl, hq⟩ := hp
        have hq := hq i (by omega) rfl
        subst hq
        refine ⟨fun h3 => ?_, fun h3 => ?_⟩
        · rw [if_neg (fun z => h3 z.2)] at hx
          exact hx
        · rw [if_pos ⟨h2, h3⟩] at hx
          exact hx
theorem cb_mLength : mv_body 117 mv_t_X7_length (mv_cs [(123, sp_noSeries), (91, sp_chanceOf), (114, sp_laySquare), (95, sp_clearSquare), (118, sp_longDivisor)]) sp_mLength := by
  intro as I J h
  obtain ⟨hM, s, u, rfl, hpre⟩ := h
  have hM := MH_th hM
  have key : mv_V mv_ow mv_swf mv_t_X7_length len_cs (sp_mLength.2 [.ref 30, .int s, .int u] I J) 5 [(0, .ref 30), (1, .int s), (2, .int u)] [] (th I) J := by
    refine mv_run_V (stop := [17]) 40 _ _ _ _ _ ?_
    refine ⟨rfl, rfl, ⟨_, rfl⟩, fun r1 I1 J1 hp => ?_⟩
    obtain ⟨rfl, rfl, hqz⟩ := hp
    have hqy : r1 = some (.int (mv_b (¬ msv (th I) s))) := hqz
    clear hqz
    subst hqy
    refine ⟨fun h1 => ?_, fun h1 => ?_⟩
    · have h1 : msv (th I) s := Decidable.not_not.mp (mv_b0.mp h1)
      obtain ⟨sl, b, hsl, hb1, hb99, e0, e1, hok⟩ := hpre h1
      obtain ⟨j, hj, rfl, cj, hMB⟩ := MH_in hM h1
      rw [cj] at e0 e1
      have eth : th I 39 = I 39 := th_ne (by decide)
      have c0 : (nI 24 * nI j + 0).toNatClampNeg = 24 * j := by rw [e24]; exact ix (k := 0)
      have c1 : (nI 24 * nI j + 1).toNatClampNeg = 24 * j + 1 := by rw [e24]; exact ix (k := 1)
      have i0 : vp_in (nI 24 * nI j + nI 0) 121 := by rw [e24]; exact ixin (by omega)
      have i1 : vp_in (nI 24 * nI j + nI 1) 121 := by rw [e24]; exact ixin (by omega)
      have v0 : th I 39 (24 * nI j + 0).toNatClampNeg = nI sl := by rw [show (24 * nI j + 0).toNatClampNeg = 24 * j from c0, eth, e0]
      have v1 : th I 39 (24 * nI j + 1).toNatClampNeg = nI b := by rw [show (24 * nI j + 1).toNatClampNeg = 24 * j + 1 from c1, eth, e1]
      have fin : ∀ (x : Int64) (J1 : mv_J), (∀ a, a ≠ 48 → J1 a = J a) → x = mlenF sl b (th I 39 120) u → sp_mLength.2 [.ref 30, .int (nI j), .int u] I J (some (.long x)) (th I) J1 := by
        intro x J1 hJ hx
        refine ⟨rfl, hJ, fun s' u' e => ?_⟩
        cases e
        rw [if_pos h1, cj, eth, e0, e1, nI_clamp (by omega), nI_clamp (by omega), hx, eth]
      have k99 : ¬ 6 < b → mv_V mv_ow mv_swf mv_t_X7_length len_cs (sp_mLength.2 [.ref 30, .int (nI j), .int u] I J) 99 [(0, .ref 30), (1, .int (nI j)), (2, .int u), (3, .int (nI b)), (4, .int (nI sl)), (5, .int (mlyF (nI sl) (th I 39 120) 5))] [] (th I) J := by
        intro hb6
        refine mv_run_V (stop := [108]) 40 _ _ _ _ _ ?_
        refine ⟨fun h2 => ?_, fun h2 => ?_⟩
        · refine mv_keep [0, 1, 2, 3, 4] (len_108 hsl hb1 (by omega) (hok (by omega) h2) (fun J1 hJ => fin _ J1 hJ ?_))
          unfold mlenF
          rw [if_neg hb6, if_neg h2]
        · refine fin _ _ (fun _ _ => rfl) ?_
          unfold mlenF
          rw [if_neg hb6, if_pos h2]
      have k17 : mv_V mv_ow mv_swf mv_t_X7_length len_cs (sp_mLength.2 [.ref 30, .int (nI j), .int u] I J) 17 [(0, .ref 30), (1, .int (nI j)), (2, .int u)] [] (th I) J := by
        refine mv_run_V (stop := [59]) 40 _ _ _ _ _ ?_
        refine ⟨rfl, _, rfl, _, rfl, i1, ?_⟩
        rw [v1]
        refine ⟨rfl, _, rfl, _, rfl, i0, ?_⟩
        rw [v0]
        refine ⟨fun h2 => ?_, fun h2 => ?_⟩
        · have h2 : ¬ 6 < b := fun z => h2 (nI_lt (a := 6) z (by omega))
          exact len_59 (k99 h2) 5 0 rfl
        · have h2 : 6 < b := (nI_ltI (a := 6) (by decide) (by omega)).mp h2
          refine fin _ _ (fun _ _ => rfl) ?_
          unfold mlenF
          rw [if_pos h2]
      exact k17
    · have h1 : ¬ msv (th I) s := b_yes h1
      refine ⟨rfl, fun _ _ => rfl, fun s' u' e => ?_⟩
      cases e
      rw [if_neg h1]
  refine ⟨rfl, mv_run_V (stop := [5]) 30 _ _ _ _ _ ?_⟩
  exact ⟨rfl, key⟩
theorem c_mLength {l : Launch} {G : mv_G} {A : Nat → Prop} (hG : mv_adk G A) : mv_Con l G A 117 sp_mLength := mv_con hG 117 mv_k_X7_length (by decide +kernel) (mv_cs_cons (c_noSeries hG) (mv_cs_cons (c_chanceOf hG) (mv_cs_cons (c_laySquare hG) (mv_cs_cons (c_clearSquare hG) (mv_cs_cons (c_longDivisor hG) (mv_cs_nil)))))) cb_mLength
