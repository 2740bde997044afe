/-! The reference: clearing the square. -/
def gjX (p : Nat) (la : Int64) (M : mv_Q) (r k : Nat) : Int64 := (M p p * M r k - M r p * M p k) / la
def gjM (n p : Nat) (la : Int64) (M : mv_Q) : mv_Q := fun r k => if (r < n ∧ r ≠ p) ∧ k ≤ n then gjX p la M r k else M r k
def gjS (n : Nat) (M : mv_Q) : Nat → Int64 × mv_Q
  | 0 => (1, M)
  | p + 1 => ((gjS n M p).2 p p, gjM n p (gjS n M p).1 (gjS n M p).2)
theorem gjS_congr {n : Nat} {M M' : mv_Q} (h : ∀ i, i < n → ∀ j, j ≤ n → M i j = M' i j) : ∀ k, k ≤ n → (gjS n M k).1 = (gjS n M' k).1 ∧ ∀ i, i < n → ∀ j, j ≤ n → (gjS n M k).2 i j = (gjS n M' k).2 i j
  | 0, _ => ⟨rfl, h⟩
  | k + 1, hk => by
    obtain ⟨h1, h2⟩ := gjS_congr h k (by omega)
    refine ⟨h2 k (by omega) k (by omega), fun i hi j hj => ?_⟩
    show gjM n k (gjS n M k).1 (gjS n M k).2 i j = gjM n k (gjS n M' k).1 (gjS n M' k).2 i j
    unfold gjM gjX
    rw [h1, h2 i hi j hj, h2 k (by omega) k (by omega), h2 i hi k (by omega), h2 k (by omega) j hj]
/-- the rows before r, and of r what stands before k, are worked out -/
def gjW (p : Nat) (la : Int64) (M : mv_Q) (r k : Nat) : mv_Q := fun r' k' => if r' ≠ p ∧ (r' < r ∨ (r' = r ∧ k' < k)) then gjX p la M r' k' else M r' k'
/-- the square holds the matrix -/
def SQ (n : Nat) (J : mv_J) (M : mv_Q) : Prop := ∀ r, r < n → ∀ k, k ≤ n → J 48 (7 * r + k) = M r k
abbrev csq_cs : Nat → mv_SP := mv_cs []
theorem cs_145 {J0 : mv_J} {I : mv_I} {K : mv_K} {n p r : Nat} {la : Int64} {M : mv_Q} (hn : n ≤ 6) (hp : p < n) (hr : r < n) (hla : ¬ la = 0)
    (hK : ∀ J1 : mv_J, SQ n J1 (gjW p la M (r + 1) 0) → (∀ a, a ≠ 48 → J1 a = J0 a) → mv_V mv_ow mv_swf mv_t_X7_clearSquare csq_cs K 121 [(0, .ref 30), (1, .int (nI n)), (2, .long la), (4, .int (nI p)), (6, .long (M p p)), (8, .int (nI r + 1))] [] I J1) : ∀ q k : Nat, k + q = n + 1 → ∀ J1 : mv_J, SQ n J1 (gjW p la M r k) → (∀ a, a ≠ 48 → J1 a = J0 a) → mv_V mv_ow mv_swf mv_t_X7_clearSquare csq_cs K 145 [(0, .ref 30), (1, .int (nI n)), (2, .long la), (4, .int (nI p)), (6, .long (M p p)), (8, .int (nI r)), (9, .long (M r p)), (11, .int (nI k))] [] I J1 := by
  have done : ∀ k, (k = n + 1 ∨ r = p) → ∀ J1 : mv_J, SQ n J1 (gjW p la M r k) → SQ n J1 (gjW p la M (r + 1) 0) := by
    intro k hk J1 hS r' hr' k' hk'
    rw [hS r' hr' k' hk']
    unfold gjW
    by_cases e : r' = p
    · rw [if_neg (fun z => z.1 e), if_neg (fun z => z.1 e)]
    · by_cases e2 : r' < r ∨ (r' = r ∧ k' < k)
      · rw [if_pos ⟨e, e2⟩, if_pos ⟨e, by omega⟩]
      · rw [if_neg (fun z => e2 z.2), if_neg (fun z => by
          have := z.2
          rcases hk with h | h <;> omega)]
  intro q
  induction q with
  | zero =>
    intro k hk J1 hS h1
    have hk : k = n + 1 := hk
    subst hk
    refine mv_run_V (stop := [121, 145]) 40 _ _ _ _ _ ?_
    refine ⟨fun _ => ?_, fun z => absurd (nI_lt (by omega) (by omega)) z⟩
    exact mv_keep [0, 1, 2, 4, 6, 8] (hK J1 (done _ (Or.inl rfl) J1 hS) h1)
  | succ q ih =>
    intro k hk J1 hS h1
    have erk : nI 7 * nI r + nI k = nI (7 * r + k) := by rw [e7, nI_add]
    have epk : nI 7 * nI p + nI k = nI (7 * p + k) := by rw [e7, nI_add]
    have crk : (nI 7 * nI r + nI k).toNatClampNeg = 7 * r + k := by rw [erk]; exact nI_clamp (by omega)
    have cpk : (nI 7 * nI p + nI k).toNatClampNeg = 7 * p + k := by rw [epk]; exact nI_clamp (by omega)
    have irk : vp_in (nI 7 * nI r + nI k) 42 := by rw [erk]; exact vp_in_nI (by omega) (by decide)
    have ipk : vp_in (nI 7 * nI p + nI k) 42 := by rw [epk]; exact vp_in_nI (by omega) (by decide)
    refine mv_run_V (stop := [121, 145]) 80 _ _ _ _ _ ?_
    refine ⟨fun z => absurd z (nI_nlt (by omega) (by omega)), fun _ => ?_⟩
    refine ⟨fun z => ?_, fun z => ?_⟩
    · have hrp : r = p := (nI_eq (by omega) (by omega)).mp z
      exact mv_keep [0, 1, 2, 4, 6, 8] (hK J1 (done _ (Or.inr hrp) J1 hS) h1)
    · have hrp : r ≠ p := fun y => z (by rw [y])
      have v1 : J1 48 (7 * r + k) = M r k := by
        rw [hS r hr k (by omega)]
        unfold gjW
        rw [if_neg (fun z => by omega)]
      have v2 : J1 48 (7 * p + k) = M p k := by
        rw [hS p hp k (by omega)]
        unfold gjW
        rw [if_neg (fun z => z.1 rfl)]
      refine ⟨rfl, _, rfl, rfl, _, rfl, _, rfl, irk, rfl, _, rfl, _, rfl, ipk, hla, _, rfl, irk, ?_⟩
      have k6 := ih (k + 1) (by omega) (mv_sj J1 48 (nI 7 * nI r + nI k).toNatClampNeg ((M p p * J1 48 (nI 7 * nI r + nI k).toNatClampNeg - M r p * J1 48 (nI 7 * nI p + nI k).toNatClampNeg) / la)) (fun r' hr' k' hk' => ?_) (fun a ha => ?_)
      · rw [nI_succ] at k6
        exact k6
      · rw [crk, cpk, mv_sj_ap, v1, v2]
        by_cases e : r' = r ∧ k' = k
        · rw [if_pos ⟨rfl, by omega⟩]
          unfold gjW
          rw [if_pos ⟨by omega, by omega⟩, e.1, e.2]
          rfl
        · rw [if_neg (fun z => by
            have := z.2
            omega), hS r' hr' k' hk']
          unfold gjW
          by_cases e1 : r' ≠ p ∧ (r' < r ∨ (r' = r ∧ k' < k))
          · rw [if_pos e1, if_pos ⟨e1.1, by omega⟩]
          · rw [if_neg e1, if_neg (fun z => e1 ⟨z.1, by omega⟩)]
      · rw [mv_sj_ne ha]
        exact h1 a ha
theorem cs_121 {J0 : mv_J} {I : mv_I} {K : mv_K} {n p : Nat} {la : Int64} {M : mv_Q} (hn : n ≤ 6) (hp : p < n) (hla : ¬ la = 0)
    (hK : ∀ J1 : mv_J, SQ n J1 (gjW p la M n 0) → (∀ a, a ≠ 48 → J1 a = J0 a) → mv_V mv_ow mv_swf mv_t_X7_clearSquare csq_cs K 5 [(0, .ref 30), (1, .int (nI n)), (2, .long (M p p)), (4, .int (nI p + 1))] [] I J1) : ∀ q r : Nat, r + q = n → ∀ J1 : mv_J, SQ n J1 (gjW p la M r 0) → (∀ a, a ≠ 48 → J1 a = J0 a) → mv_V mv_ow mv_swf mv_t_X7_clearSquare csq_cs K 121 [(0, .ref 30), (1, .int (nI n)), (2, .long la), (4, .int (nI p)), (6, .long (M p p)), (8, .int (nI r))] [] I J1 := by
  intro q
  induction q with
  | zero =>
    intro r hr J1 hS h1
    have hr : r = n := hr
    subst hr
    refine mv_run_V (stop := [5, 121, 145]) 40 _ _ _ _ _ ?_
    refine ⟨fun _ => ?_, fun z => absurd z (nI_nlt (Nat.le_refl _) (by omega))⟩
    exact mv_keep [0, 1, 2, 4] (hK J1 hS h1)
  | succ q ih =>
    intro r hr J1 hS h1
    have erp : nI 7 * nI r + nI p = nI (7 * r + p) := by rw [e7, nI_add]
    have crp : (nI 7 * nI r + nI p).toNatClampNeg = 7 * r + p := by rw [erp]; exact nI_clamp (by omega)
    have irp : vp_in (nI 7 * nI r + nI p) 42 := by rw [erp]; exact vp_in_nI (by omega) (by decide)
    have v1 : J1 48 (7 * nI r + nI p).toNatClampNeg = M r p := by
      rw [show (7 * nI r + nI p).toNatClampNeg = 7 * r + p from crp, hS r (by omega) p (by omega)]
      unfold gjW
      rw [if_neg (fun z => by omega)]
    refine mv_run_V (stop := [5, 121, 145]) 40 _ _ _ _ _ ?_
    refine ⟨fun z => absurd (nI_lt (by omega) (by omega)) z, fun _ => ?_⟩
    refine ⟨rfl, _, rfl, _, rfl, irp, ?_⟩
    rw [v1]
    refine cs_145 (J0 := J0) hn hp (by omega) hla (fun J2 hS2 h2 => ?_) (n + 1) 0 (by omega) J1 (fun r' hr' k' hk' => ?_) h1
    · have k6 := ih (r + 1) (by omega) J2 hS2 h2
      rw [nI_succ] at k6
      exact k6
    · exact hS r' hr' k' hk'
def sp_clearSquare : mv_SP := (fun as _ J => ∃ n : Nat, n ≤ 6 ∧ as = [.ref 30, .int (nI n)] ∧ ∀ p, p < n → ¬ (gjS n (fun r k => J 48 (7 * r + k)) p).2 p p = 0,
  fun as I J r I' J' => r = none ∧ I = I' ∧ (∀ a, a ≠ 48 → J' a = J a) ∧ match as with
    | [_, .int n] => SQ n.toNatClampNeg J' (gjS n.toNatClampNeg (fun r k => J 48 (7 * r + k)) n.toNatClampNeg).2
    | _ => True)
theorem cb_clearSquare : mv_body 95 mv_t_X7_clearSquare (mv_cs []) sp_clearSquare := by
  intro as I J h
  obtain ⟨n, hn, rfl, hpv⟩ := h
  have cn : (nI n).toNatClampNeg = n := nI_clamp (by omega)
  have key : ∀ q p : Nat, p + q = n → ∀ J1 : mv_J, SQ n J1 (gjS n (fun r k => J 48 (7 * r + k)) p).2 → (∀ a, a ≠ 48 → J1 a = J a) → mv_V mv_ow mv_swf mv_t_X7_clearSquare csq_cs (sp_clearSquare.2 [.ref 30, .int (nI n)] I J) 5 [(0, .ref 30), (1, .int (nI n)), (2, .long (gjS n (fun r k => J 48 (7 * r + k)) p).1), (4, .int (nI p))] [] I J1 := by
    intro q
    induction q with
    | zero =>
      intro p hp J1 hS h1
      have hp : p = n := hp
      subst hp
      refine mv_run_V (stop := [5, 15]) 30 _ _ _ _ _ ?_
      refine ⟨fun _ => ?_, fun z => absurd z (nI_nlt (Nat.le_refl _) (by omega))⟩
      refine ⟨rfl, rfl, h1, ?_⟩
      show SQ (nI p).toNatClampNeg J1 (gjS (nI p).toNatClampNeg (fun r k => J 48 (7 * r + k)) (nI p).toNatClampNeg).2
      rw [cn]
      exact hS
    | succ q ih =>
      intro p hp J1 hS h1
      have epp : nI 7 * nI p + nI p = nI (7 * p + p) := by rw [e7, nI_add]
      have cpp : (nI 7 * nI p + nI p).toNatClampNeg = 7 * p + p := by rw [epp]; exact nI_clamp (by omega)
      have ipp : vp_in (nI 7 * nI p + nI p) 42 := by rw [epp]; exact vp_in_nI (by omega) (by decide)
      have vpp : J1 48 (7 * nI p + nI p).toNatClampNeg = (gjS n (fun r k => J 48 (7 * r + k)) p).2 p p := by
        rw [show (7 * nI p + nI p).toNatClampNeg = 7 * p + p from cpp]
        exact hS p (by omega) p (by omega)
      have hla : ¬ (gjS n (fun r k => J 48 (7 * r + k)) p).1 = 0 := by
        rcases p with _ | p
        · exact (by decide : ¬ (1 : Int64) = 0)
        · exact hpv p (by omega)
      have k121 := cs_121 (J0 := J) (I := I) (K := sp_clearSquare.2 [.ref 30, .int (nI n)] I J) (n := n) (p := p) (la := (gjS n (fun r k => J 48 (7 * r + k)) p).1) (M := (gjS n (fun r k => J 48 (7 * r + k)) p).2) hn (by omega) hla (fun J2 hS2 h2 => by
        have k6 := ih (p + 1) (by omega) J2 (fun r' hr' k' hk' => by
          rw [hS2 r' hr' k' hk']
          show gjW _ _ _ _ _ r' k' = gjM n p _ _ r' k'
          unfold gjW gjM
          by_cases e : r' = p
          · rw [if_neg (fun z => z.1 e), if_neg (fun z => z.1.2 e)]
          · rw [if_pos ⟨e, Or.inl hr'⟩, if_pos ⟨⟨hr', e⟩, hk'⟩]) h2
        rw [nI_succ] at k6
        exact k6) n 0 (Nat.zero_add n) J1 (fun r' hr' k' hk' => by
          rw [hS r' hr' k' hk']
          unfold gjW
          rw [if_neg (fun z => by omega)]) h1
      have k15 : mv_V mv_ow mv_swf mv_t_X7_clearSquare csq_cs (sp_clearSquare.2 [.ref 30, .int (nI n)] I J) 15 [(0, .ref 30), (1, .int (nI n)), (2, .long (gjS n (fun r k => J 48 (7 * r + k)) p).1), (4, .int (nI p)), (5, .int (nI p))] [] I J1 := by
        refine mv_run_V (stop := [15, 121]) 60 _ _ _ _ _ ?_
        refine ⟨fun z => absurd (nI_lt (by omega) (by omega)) z, fun _ => ?_⟩
        refine ⟨rfl, _, rfl, _, rfl, ipp, ?_⟩
        rw [vpp]
        refine ⟨fun _ => ?_, fun z => absurd ((lg_cmp_eq _ _).mp z) (hpv p (by omega))⟩
        refine ⟨fun _ => ?_, fun z => absurd rfl z⟩
        refine ⟨rfl, _, rfl, _, rfl, ipp, ?_⟩
        rw [vpp]
        exact mv_keep [0, 1, 2, 4, 6, 8] k121
      refine mv_run_V (stop := [5, 15]) 30 _ _ _ _ _ ?_
      exact ⟨fun z => absurd (nI_lt (by omega) (by omega)) z, fun _ => k15⟩
  refine ⟨rfl, mv_run_V (stop := [5]) 30 _ _ _ _ _ ?_⟩
  exact key n 0 (Nat.zero_add n) J (fun _ _ _ _ => rfl) (fun _ _ => rfl)
theorem c_clearSquare {l : Launch} {G : mv_G} {A : Nat → Prop} (hG : mv_adk G A) : mv_Con l G A 95 sp_clearSquare := mv_con hG 95 mv_k_X7_clearSquare (by decide +kernel) (mv_cs_nil) cb_clearSquare
