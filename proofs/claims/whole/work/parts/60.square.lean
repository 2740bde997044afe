/-! The reference: the square of a mean. -/
def sqF (up s bd : Nat) (w : Int32) : Nat → Nat → Int64
  | 0, k => if k = bd ∨ k = up then 10 else 0
  | t + 1, k => if up + t - 2 - s < bd ∧ k = up + t - 2 - s then sqF up s bd w t k - (mch w t).toInt64 else sqF up s bd w t k
theorem two_lt : ∀ i, i < 6 → ((2 : Int32) < nI i - 2 ↔ 5 ≤ i) := by decide +kernel
theorem sub2_succ (i : Nat) : nI (i + 1) - 2 = nI i - 2 + 1 := by
  rw [nI_succ, Int32.sub_eq_add_neg, Int32.sub_eq_add_neg, Int32.add_assoc, Int32.add_comm 1, ← Int32.add_assoc]
theorem e7 (s : Nat) : nI 7 * nI s = nI (7 * s) := (Int32.ofNat_mul 7 s).symm
abbrev lsq_cs : Nat → mv_SP := mv_cs [(126, sp_over), (91, sp_chanceOf)]
theorem ls_68 {J0 : mv_J} {I : mv_I} {K : mv_K} {up s bd : Nat} (hup : up < bd) (hbd : bd ≤ 6) (hs : s ≤ 9)
    (hK : ∀ J1 : mv_J, (∀ k, k < 7 → J1 48 (7 * up + k) = sqF up s bd (I 39 120) 5 k) → (∀ a, a ≠ 48 → J1 a = J0 a) → (∀ b, (b < 7 * up ∨ 7 * up + 7 ≤ b) → J1 48 b = J0 48 b) → mv_V mv_ow mv_swf mv_t_X7_laySquare lsq_cs K 2 [(0, .ref 30), (1, .int (nI bd)), (2, .int (nI s)), (3, .int (nI up + 1))] [] I J1) : ∀ q i : Nat, i + q = 5 → ∀ (J1 : mv_J) , (∀ k, k < 7 → J1 48 (7 * up + k) = sqF up s bd (I 39 120) i k) → (∀ a, a ≠ 48 → J1 a = J0 a) → (∀ b, (b < 7 * up ∨ 7 * up + 7 ≤ b) → J1 48 b = J0 48 b) → mv_V mv_ow mv_swf mv_t_X7_laySquare lsq_cs K 68 [(0, .ref 30), (1, .int (nI bd)), (2, .int (nI s)), (3, .int (nI up)), (4, .int (nI i - 2))] [] I J1 := by
  intro q
  induction q with
  | zero =>
    intro i hi J1 h1 h2 h3
    have hi : i = 5 := hi
    subst hi
    refine mv_run_V (stop := [2, 68]) 40 _ _ _ _ _ ?_
    refine ⟨fun _ => ?_, fun z => absurd ((two_lt 5 (by decide)).mpr (by decide)) z⟩
    exact mv_keep [0, 1, 2, 3] (hK J1 h1 h2 h3)
  | succ q ih =>
    intro i hi J1 h1 h2 h3
    have hlt : up + i - 2 - s < 12 := by omega
    have eo : mv_mx 0 (nI up + (nI i - 2) - nI s) = nI (up + i - 2 - s) := by
      have e : nI up + (nI i - 2) = nI (up + i) - nI 2 := by
        rw [← nI_add, Int32.sub_eq_add_neg, Int32.sub_eq_add_neg, Int32.add_assoc]
        rfl
      rw [e]
      exact mx_sub (by omega) (by omega) (by omega)
    refine mv_run_V (stop := [2, 68]) 60 _ _ _ _ _ ?_
    refine ⟨fun z => absurd ((two_lt i (by omega)).mp z) (by omega), fun _ => ?_⟩
    refine ⟨rfl, ⟨_, rfl⟩, fun r1 I1 J2 hp => ?_⟩
    obtain ⟨rfl, rfl, hq⟩ := hp
    have hq : r1 = some (.int (mv_mx 0 (nI up + (nI i - 2) - nI s))) := hq
    rw [eo] at hq
    subst hq
    have nx : ∀ J3 : mv_J, ∀ x5 : Value, (∀ k, k < 7 → J3 48 (7 * up + k) = sqF up s bd (I 39 120) (i + 1) k) → (∀ a, a ≠ 48 → J3 a = J0 a) → (∀ b, (b < 7 * up ∨ 7 * up + 7 ≤ b) → J3 48 b = J0 48 b) → mv_V mv_ow mv_swf mv_t_X7_laySquare lsq_cs K 68 [(0, .ref 30), (1, .int (nI bd)), (2, .int (nI s)), (3, .int (nI up)), (4, .int (nI i - 2 + 1)), (5, x5)] [] I J3 := by
      intro J3 x5 g1 g2 g3
      have k6 := ih (i + 1) (by omega) J3 g1 g2 g3
      rw [sub2_succ] at k6
      exact mv_keep [0, 1, 2, 3, 4] k6
    refine ⟨fun h4 => ?_, fun h4 => ?_⟩
    · have h4 : ¬ up + i - 2 - s < bd := fun z => h4 (nI_lt z (by omega))
      refine nx J1 _ (fun k hk => ?_) h2 h3
      rw [sqF, if_neg (fun z => h4 z.1)]
      exact h1 k hk
    · have h4 : up + i - 2 - s < bd := (nI_ltI (by omega) (by omega)).mp h4
      have ex : nI 7 * nI up + nI (up + i - 2 - s) = nI (7 * up + (up + i - 2 - s)) := by rw [e7, nI_add]
      have cx : (nI 7 * nI up + nI (up + i - 2 - s)).toNatClampNeg = 7 * up + (up + i - 2 - s) := by rw [ex]; exact nI_clamp (by omega)
      have ixx : vp_in (nI 7 * nI up + nI (up + i - 2 - s)) 42 := by rw [ex]; exact vp_in_nI (by omega) (by decide)
      refine ⟨rfl, _, rfl, _, rfl, ixx, rfl, rfl, ⟨i, by omega, rfl⟩, fun r1 I1 J2 hp => ?_⟩
      obtain ⟨rfl, rfl, hq⟩ := hp
      have hq := hq i (by omega) rfl
      subst hq
      refine ⟨_, rfl, ixx, ?_⟩
      refine nx _ _ (fun k hk => ?_) (fun a ha => ?_) (fun b hb => ?_)
      · show mv_sj J1 48 (nI 7 * nI up + nI (up + i - 2 - s)).toNatClampNeg (J1 48 (nI 7 * nI up + nI (up + i - 2 - s)).toNatClampNeg - (mch (I 39 120) i).toInt64) 48 (7 * up + k) = _
        rw [cx, mv_sj_ap, sqF]
        by_cases e : k = up + i - 2 - s
        · rw [if_pos ⟨rfl, by omega⟩, if_pos ⟨h4, e⟩, ← h1 k hk, e]
        · rw [if_neg (fun z => by omega), if_neg (fun z => e z.2)]
          exact h1 k hk
      · show mv_sj J1 48 _ _ a = _
        rw [mv_sj_ne ha]
        exact h2 a ha
      · show mv_sj J1 48 (nI 7 * nI up + nI (up + i - 2 - s)).toNatClampNeg _ 48 b = _
        rw [cx, mv_sj_ap, if_neg (fun z => by omega)]
        exact h3 b hb
theorem ls_10 {J0 : mv_J} {I : mv_I} {K : mv_K} {up s bd : Nat} (hup : up < bd) (hbd : bd ≤ 6) (hs : s ≤ 9)
    (hK : ∀ J1 : mv_J, (∀ k, k < 7 → J1 48 (7 * up + k) = sqF up s bd (I 39 120) 5 k) → (∀ a, a ≠ 48 → J1 a = J0 a) → (∀ b, (b < 7 * up ∨ 7 * up + 7 ≤ b) → J1 48 b = J0 48 b) → mv_V mv_ow mv_swf mv_t_X7_laySquare lsq_cs K 2 [(0, .ref 30), (1, .int (nI bd)), (2, .int (nI s)), (3, .int (nI up + 1))] [] I J1) : ∀ q i : Nat, i + q = 7 → ∀ (J1 : mv_J) , (∀ k, k < i → J1 48 (7 * up + k) = 0) → (∀ a, a ≠ 48 → J1 a = J0 a) → (∀ b, (b < 7 * up ∨ 7 * up + 7 ≤ b) → J1 48 b = J0 48 b) → mv_V mv_ow mv_swf mv_t_X7_laySquare lsq_cs K 10 [(0, .ref 30), (1, .int (nI bd)), (2, .int (nI s)), (3, .int (nI up)), (4, .int (nI i))] [] I J1 := by
  intro q
  induction q with
  | zero =>
    intro i hi J1 h1 h2 h3
    have hi : i = 7 := hi
    subst hi
    have eu : nI 7 * nI up + nI up = nI (7 * up + up) := by rw [e7, nI_add]
    have eb : nI 7 * nI up + nI bd = nI (7 * up + bd) := by rw [e7, nI_add]
    have cu : (nI 7 * nI up + nI up).toNatClampNeg = 7 * up + up := by rw [eu]; exact nI_clamp (by omega)
    have cb : (nI 7 * nI up + nI bd).toNatClampNeg = 7 * up + bd := by rw [eb]; exact nI_clamp (by omega)
    have iu : vp_in (nI 7 * nI up + nI up) 42 := by rw [eu]; exact vp_in_nI (by omega) (by decide)
    have ib : vp_in (nI 7 * nI up + nI bd) 42 := by rw [eb]; exact vp_in_nI (by omega) (by decide)
    refine mv_run_V (stop := [10, 68]) 60 _ _ _ _ _ ?_
    refine ⟨fun _ => ?_, fun z => absurd z (by decide)⟩
    refine ⟨rfl, _, rfl, _, rfl, iu, rfl, _, rfl, _, rfl, ib, ?_⟩
    refine ls_68 hup hbd hs hK 5 0 rfl _ (fun k hk => ?_) (fun a ha => ?_) (fun b hb => ?_)
    · show mv_sj (mv_sj J1 48 (nI 7 * nI up + nI up).toNatClampNeg 10) 48 (nI 7 * nI up + nI bd).toNatClampNeg 10 48 (7 * up + k) = _
      rw [cu, cb, mv_sj_ap, mv_sj_ap, sqF]
      by_cases e : k = bd
      · rw [if_pos ⟨rfl, by omega⟩, if_pos (Or.inl e)]
      · rw [if_neg (fun z => by omega)]
        by_cases e2 : k = up
        · rw [if_pos ⟨rfl, by omega⟩, if_pos (Or.inr e2)]
        · rw [if_neg (fun z => by omega), if_neg (fun z => z.elim e e2)]
          exact h1 k hk
    · show mv_sj (mv_sj J1 48 _ 10) 48 _ 10 a = _
      rw [mv_sj_ne ha, mv_sj_ne ha]
      exact h2 a ha
    · show mv_sj (mv_sj J1 48 (nI 7 * nI up + nI up).toNatClampNeg 10) 48 (nI 7 * nI up + nI bd).toNatClampNeg 10 48 b = _
      rw [cu, cb, mv_sj_ap, if_neg (fun z => by omega), mv_sj_ap, if_neg (fun z => by omega)]
      exact h3 b hb
  | succ q ih =>
    intro i hi J1 h1 h2 h3
    have ei : nI 7 * nI up + nI i = nI (7 * up + i) := by rw [e7, nI_add]
    have ci : (nI 7 * nI up + nI i).toNatClampNeg = 7 * up + i := by rw [ei]; exact nI_clamp (by omega)
    have ii : vp_in (nI 7 * nI up + nI i) 42 := by rw [ei]; exact vp_in_nI (by omega) (by decide)
    refine mv_run_V (stop := [10, 68]) 60 _ _ _ _ _ ?_
    refine ⟨fun z => ?_, fun _ => ?_⟩
    · have z : ¬ nI i < nI 7 := z
      exact absurd (nI_lt (by omega) (by decide)) z
    · refine ⟨rfl, _, rfl, _, rfl, ii, ?_⟩
      have k6 := ih (i + 1) (by omega) (mv_sj J1 48 (nI 7 * nI up + nI i).toNatClampNeg 0) (fun k hk => ?_) (fun a ha => ?_) (fun b hb => ?_)
      · rw [nI_succ] at k6
        exact k6
      · rw [ci, mv_sj_ap]
        by_cases e : k = i
        · rw [if_pos ⟨rfl, by omega⟩]
        · rw [if_neg (fun z => by omega)]
          exact h1 k (by omega)
      · rw [mv_sj_ne ha]
        exact h2 a ha
      · rw [ci, mv_sj_ap, if_neg (fun z => by omega)]
        exact h3 b hb
def sp_laySquare : mv_SP := (fun as _ _ => ∃ bd s : Nat, bd ≤ 6 ∧ s ≤ 9 ∧ as = [.ref 30, .int (nI bd), .int (nI s)],
  fun as I J r I' J' => r = none ∧ I = I' ∧ (∀ a, a ≠ 48 → J' a = J a) ∧ match as with
    | [_, .int bd, .int s] => ∀ up, up < bd.toNatClampNeg → ∀ k, k < 7 → J' 48 (7 * up + k) = sqF up s.toNatClampNeg bd.toNatClampNeg (I 39 120) 5 k
    | _ => True)
theorem cb_laySquare : mv_body 114 mv_t_X7_laySquare (mv_cs [(126, sp_over), (91, sp_chanceOf)]) sp_laySquare := by
  intro as I J h
  obtain ⟨bd, s, hbd, hs, rfl⟩ := h
  have cb : (nI bd).toNatClampNeg = bd := nI_clamp (by omega)
  have cs : (nI s).toNatClampNeg = s := nI_clamp (by omega)
  have key : ∀ q up : Nat, up + q = bd → ∀ J1 : mv_J, (∀ a, a ≠ 48 → J1 a = J a) → (∀ u, u < up → ∀ k, k < 7 → J1 48 (7 * u + k) = sqF u s bd (I 39 120) 5 k) → mv_V mv_ow mv_swf mv_t_X7_laySquare lsq_cs (sp_laySquare.2 [.ref 30, .int (nI bd), .int (nI s)] I J) 2 [(0, .ref 30), (1, .int (nI bd)), (2, .int (nI s)), (3, .int (nI up))] [] I J1 := by
    intro q
    induction q with
    | zero =>
      intro up hup J1 h1 h2
      have hup : up = bd := hup
      subst hup
      refine mv_run_V (stop := [2, 10]) 30 _ _ _ _ _ ?_
      refine ⟨fun _ => ?_, fun z => absurd z (nI_nlt (Nat.le_refl _) (by omega))⟩
      refine ⟨rfl, rfl, h1, ?_⟩
      show ∀ u, u < (nI up).toNatClampNeg → ∀ k, k < 7 → J1 48 (7 * u + k) = sqF u (nI s).toNatClampNeg (nI up).toNatClampNeg (I 39 120) 5 k
      rw [cb, cs]
      exact h2
    | succ q ih =>
      intro up hup J1 h1 h2
      refine mv_run_V (stop := [2, 10]) 30 _ _ _ _ _ ?_
      refine ⟨fun z => absurd (nI_lt (by omega) (by omega)) z, fun _ => ?_⟩
      refine ls_10 (J0 := J1) (by omega) hbd hs (fun J2 g1 g2 g3 => ?_) 7 0 rfl J1 (fun k hk => absurd hk (Nat.not_lt_zero k)) (fun _ _ => rfl) (fun _ _ => rfl)
      have k6 := ih (up + 1) (by omega) J2 (fun a ha => (g2 a ha).trans (h1 a ha)) (fun u hu k hk => ?_)
      · rw [nI_succ] at k6
        exact k6
      · by_cases e : u = up
        · rw [e]
          exact g1 k hk
        · rw [g3 _ (by omega)]
          exact h2 u (by omega) k hk
  refine ⟨rfl, mv_run_V (stop := [2]) 30 _ _ _ _ _ ?_⟩
  exact key bd 0 (Nat.zero_add bd) J (fun _ _ => rfl) (fun u hu => absurd hu (Nat.not_lt_zero u))
theorem c_laySquare {l : Launch} {G : mv_G} {A : Nat → Prop} (hG : mv_adk G A) : mv_Con l G A 114 sp_laySquare := mv_con hG 114 mv_k_X7_laySquare (by decide +kernel) (mv_cs_cons (c_over hG) (mv_cs_cons (c_chanceOf hG) (mv_cs_nil))) cb_laySquare
