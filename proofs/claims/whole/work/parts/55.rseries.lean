/-! The reference: reading a series. -/
def FRt (I I' : mv_I) : Prop := (∀ a, a ≠ 30 → (a < 35 ∨ 39 ≤ a) → I' a = I a) ∧ ∀ b, b ≠ 3 → b ≠ 8 → I' 30 b = I 30 b
def rsA (B : mv_I) (i : Nat) (lv sl bd mo re : Int32) : mv_I := mv_si (mv_si (mv_si (mv_si (mv_si B 35 i lv) 38 (24 * i + 0) sl) 38 (24 * i + 1) bd) 38 (24 * i + 2) mo) 38 (24 * i + 3) re
def rsB (B : mv_I) (i : Nat) (lv : Int32) : mv_I := mv_si (mv_si (mv_si B 38 (24 * i + 9) (-9)) 38 (24 * i + 10) (16 * lv)) 30 8 (B 30 8 + 1)
abbrev rs_cs : Nat → mv_SP := mv_cs [(104, sp_figure), (141, sp_two)]
theorem rs_311 {B : mv_I} {J : mv_J} {K : mv_K} {i : Nat} {lv sl bd mo re : Int32} (hi : i < 5) (fin : K (some (.int 1)) (rsB B i lv) J) : mv_V mv_ow mv_swf mv_t_X7_readSeries rs_cs K 311 [(0, .ref 30), (1, .int (nI i)), (2, .int (nI (24 * i))), (3, .int lv), (4, .int sl), (5, .int bd), (6, .int mo), (7, .int re)] [] B J := by
  have c9 : (nI (24 * i) + 9).toNatClampNeg = 24 * i + 9 := ix (k := 9)
  have c10 : (nI (24 * i) + 10).toNatClampNeg = 24 * i + 10 := ix (k := 10)
  refine mv_run_V (stop := []) 60 _ _ _ _ _ ?_
  refine ⟨rfl, _, rfl, _, rfl, ixin (k := 9) (by omega), rfl, _, rfl, _, rfl, ixin (k := 10) (by omega), rfl, rfl, rfl, Or.inr rfl, ?_⟩
  have e : mv_si (mv_si (mv_si B 38 (nI (24 * i) + 9).toNatClampNeg (-9)) 38 (nI (24 * i) + 10).toNatClampNeg (16 * lv)) 30 8 ((mv_si (mv_si B 38 (nI (24 * i) + 9).toNatClampNeg (-9)) 38 (nI (24 * i) + 10).toNatClampNeg (16 * lv)) 30 8 + 1) = rsB B i lv := by
    rw [c9, c10]
    unfold rsB
    rw [mv_si_ap, if_neg (by omega), mv_si_ap, if_neg (by omega)]
  rw [← e] at fin
  exact fin
theorem rs_264 {B : mv_I} {J : mv_J} {K : mv_K} {i : Nat} {lv sl bd mo re : Int32} (hi : i < 5) (fin : K (some (.int 1)) (rsB (rsA B i lv sl bd mo re) i lv) J) : mv_V mv_ow mv_swf mv_t_X7_readSeries rs_cs K 264 [(0, .ref 30), (1, .int (nI i)), (2, .int (nI (24 * i))), (3, .int lv), (4, .int sl), (5, .int bd), (6, .int mo), (7, .int re)] [] B J := by
  have ci : (nI i).toNatClampNeg = i := nI_clamp (by omega)
  have c0 : (nI (24 * i) + 0).toNatClampNeg = 24 * i + 0 := ix (k := 0)
  have c1 : (nI (24 * i) + 1).toNatClampNeg = 24 * i + 1 := ix (k := 1)
  have c2 : (nI (24 * i) + 2).toNatClampNeg = 24 * i + 2 := ix (k := 2)
  have c3 : (nI (24 * i) + 3).toNatClampNeg = 24 * i + 3 := ix (k := 3)
  have k6 := rs_311 (B := rsA B i lv sl bd mo re) (sl := sl) (bd := bd) (mo := mo) (re := re) hi fin
  refine mv_run_V (stop := [311]) 60 _ _ _ _ _ ?_
  refine ⟨rfl, _, rfl, _, rfl, vp_in_nI hi (by decide), rfl, _, rfl, _, rfl, ixin (k := 0) (by omega), rfl, _, rfl, _, rfl, ixin (k := 1) (by omega), rfl, _, rfl, _, rfl, ixin (k := 2) (by omega), rfl, _, rfl, _, rfl, ixin (k := 3) (by omega), ?_⟩
  have e : rsA B i lv sl bd mo re = mv_si (mv_si (mv_si (mv_si (mv_si B 35 (nI i).toNatClampNeg lv) 38 (nI (24 * i) + 0).toNatClampNeg sl) 38 (nI (24 * i) + 1).toNatClampNeg bd) 38 (nI (24 * i) + 2).toNatClampNeg mo) 38 (nI (24 * i) + 3).toNatClampNeg re := by
    rw [ci, c0, c1, c2, c3]
    rfl
  rw [e] at k6
  exact k6
/-- the season's first k figures are read -/
def SS (I B : mv_I) (i p k : Nat) : Prop := FRt I B ∧ B 35 = I 35 ∧ B 38 = I 38 ∧ B 30 8 = I 30 8 ∧ (∀ j, j ≠ i → B 37 j = I 37 j) ∧ (∀ b, (b < 5 * i ∨ 5 * i + 5 ≤ b) → B 36 b = I 36 b) ∧ B 37 i = nI k ∧ ∀ j, j < k → B 36 (5 * i + j) = I 31 (p + 8 + j) - 48
theorem SS_PL {I B : mv_I} {i p k q : Nat} (h : SS I B i p k) : SS I (PL B q) i p k := by
  obtain ⟨⟨f1, f2⟩, h35, h38, h8, h37, h36, hk, hj⟩ := h
  refine ⟨⟨fun a ha hb => (PL_ne ha).trans (f1 a ha hb), fun b hb hb8 => (PL_30 hb).trans (f2 b hb hb8)⟩, (PL_ne (by decide)).trans h35, (PL_ne (by decide)).trans h38, (PL_30 (by decide)).trans h8, ?_, ?_, ?_, ?_⟩
  · rw [PL_ne (by decide)]; exact h37
  · rw [PL_ne (by decide)]; exact h36
  · rw [PL_ne (by decide)]; exact hk
  · rw [PL_ne (by decide)]; exact hj
theorem rs_227 {I B : mv_I} {J : mv_J} {K : mv_K} {i p n q k : Nat} {lv sl bd mo re x8 : Int32} (hi : i < 5) (hn : n ≤ 80) (h2 : I 30 2 = nI n) (hk1 : 1 ≤ k) (hk5 : k ≤ 5) (hq : q = p + 8 + k) (hqn : q ≤ n) (hS : SS I B i p k) (h3 : B 30 3 = nI q) (hk : k = 5 ∨ ¬ tdP (I 31) n q 0 9) (hff : ffF (I 31) n (n - p) p 0 i = ffF (I 31) n (n - q) q (8 + k) i)
    (fin0 : ∀ I1 q, FRt I I1 → q ≤ n → I1 30 3 = nI q → ffF (I 31) n (n - p) p 0 i = nI q → K (some (.int 0)) I1 J)
    (fin1 : q < n → I 31 q = 46 → ffF (I 31) n (n - p) p 0 i = ffF (I 31) n (n - (q + 1)) (q + 1) 0 (i + 1) → mv_V mv_ow mv_swf mv_t_X7_readSeries rs_cs K 264 [(0, .ref 30), (1, .int (nI i)), (2, .int (nI (24 * i))), (3, .int lv), (4, .int sl), (5, .int bd), (6, .int mo), (7, .int re)] [] (PL B (q + 1)) J) : mv_V mv_ow mv_swf mv_t_X7_readSeries rs_cs K 227 [(0, .ref 30), (1, .int (nI i)), (2, .int (nI (24 * i))), (3, .int lv), (4, .int sl), (5, .int bd), (6, .int mo), (7, .int re), (8, .int x8)] [] B J := by
  have cq : (nI q).toNatClampNeg = q := nI_clamp (by omega)
  have hB2 : B 30 2 = nI n := (hS.1.2 2 (by decide) (by decide)).trans h2
  have hB31 : B 31 = I 31 := hS.1.1 31 (by decide) (by decide)
  have nofit : q < n → ¬ I 31 q = 46 → ¬ fitP (8 + k) (I 31 q) (I 31 (q - 1)) := by
    intro hlt h46 hf
    rcases Nat.lt_or_ge k 5 with h5 | h5
    · rcases hk with h | h
      · omega
      · rcases (fit_s (by omega)).mp hf with z | z
        · exact h46 z
        · exact h ⟨hlt, z⟩
    · have : k = 5 := by omega
      subst this
      exact h46 (fit_13.mp hf)
  refine mv_run_V (stop := [264]) 60 _ _ _ _ _ ?_
  refine ⟨rfl, rfl, fun h4 => ?_, fun h4 => ?_⟩
  · rw [h3, hB2] at h4
    have h4 := (nI_eq (by omega) (by omega)).mp h4
    refine ⟨Or.inl rfl, fin0 _ q hS.1 hqn h3 ?_⟩
    rw [hff]
    exact ff_fail hqn (Or.inl (by omega)) (fun z => by omega)
  · rw [h3, hB2] at h4
    have h4 : q < n := by
      have : q ≠ n := fun z => h4 (by rw [z])
      omega
    refine ⟨rfl, _, rfl, rfl, _, rfl, (by rw [h3]; exact vp_in_nI (by omega) (by decide)), ?_⟩
    rw [h3, cq, hB31]
    refine ⟨fun h5 => ?_, fun h5 => ?_⟩
    · refine ⟨rfl, rfl, rfl, ?_⟩
      have hfit : fitP (8 + k) (I 31 q) (I 31 (q - 1)) := by
        rcases Nat.lt_or_ge k 5 with h6 | h6
        · exact (fit_s (by omega)).mpr (Or.inl h5)
        · have : k = 5 := by omega
          subst this
          exact fit_13.mpr h5
      have k6 := fin1 h4 h5 (by rw [hff]; exact ff_dot h4 (by omega) hfit h5)
      have e : PL B (q + 1) = mv_si B 30 3 (B 30 3 + 1) := by
        unfold PL
        rw [h3, nI_1]
      rw [e] at k6
      exact mv_keep [0, 1, 2, 3, 4, 5, 6, 7] k6
    · refine ⟨Or.inl rfl, fin0 _ q hS.1 hqn h3 ?_⟩
      rw [hff]
      exact ff_fail hqn (Or.inl (by omega)) (fun z => Or.inr (nofit z h5))
theorem e5 (s : Nat) : nI 5 * nI s = nI (5 * s) := (Int32.ofNat_mul 5 s).symm
theorem SS_put {I B : mv_I} {i p k : Nat} (h : SS I B i p k) (hk : k < 5) : SS I (mv_si (mv_si B 36 (5 * i + k) (I 31 (p + 8 + k) - 48)) 37 i (nI (k + 1))) i p (k + 1) := by
  obtain ⟨⟨f1, f2⟩, h35, h38, h8, h37, h36, hk0, hj⟩ := h
  refine ⟨⟨fun a ha hb => ?_, fun b hb hb8 => ?_⟩, ?_, ?_, ?_, fun j hji => ?_, fun b hb => ?_, ?_, fun j hjk => ?_⟩
  · rw [mv_si_ne (by omega), mv_si_ne (by omega)]; exact f1 a ha hb
  · rw [mv_si_ne (by decide), mv_si_ne (by decide)]; exact f2 b hb hb8
  · rw [mv_si_ne (by decide), mv_si_ne (by decide)]; exact h35
  · rw [mv_si_ne (by decide), mv_si_ne (by decide)]; exact h38
  · rw [mv_si_ne (by decide), mv_si_ne (by decide)]; exact h8
  · rw [mv_si_ap, if_neg (fun z => hji z.2), mv_si_ne (by decide)]; exact h37 j hji
  · rw [mv_si_ne (by decide), mv_si_ap, if_neg (fun z => by omega)]; exact h36 b hb
  · rw [mv_si_ap, if_pos ⟨rfl, rfl⟩]
  · rw [mv_si_ne (by decide), mv_si_ap]
    by_cases e : j = k
    · rw [if_pos ⟨rfl, by omega⟩, e]
    · rw [if_neg (fun z => by omega)]; exact hj j (by omega)
theorem rs_166 {I : mv_I} {J : mv_J} {K : mv_K} {i p n : Nat} {lv sl bd mo re : Int32} (hi : i < 5) (hn : n ≤ 80) (h2 : I 30 2 = nI n)
    (ex : ∀ (B : mv_I) (k : Nat) (x8 : Int32), 1 ≤ k → k ≤ 5 → SS I B i p k → p + 8 + k ≤ n → B 30 3 = nI (p + 8 + k) → (k = 5 ∨ ¬ tdP (I 31) n (p + 8 + k) 0 9) → ffF (I 31) n (n - p) p 0 i = ffF (I 31) n (n - (p + 8 + k)) (p + 8 + k) (8 + k) i → (∀ j, j < k → tdP (I 31) n (p + 8 + j) 0 9) → mv_V mv_ow mv_swf mv_t_X7_readSeries rs_cs K 227 [(0, .ref 30), (1, .int (nI i)), (2, .int (nI (24 * i))), (3, .int lv), (4, .int sl), (5, .int bd), (6, .int mo), (7, .int re), (8, .int x8)] [] B J) : ∀ r k : Nat, k + r = 4 → ∀ B, SS I B i p k → B 30 3 = nI (p + 9 + k) → tdP (I 31) n (p + 8 + k) 0 9 → (∀ j, j < k → tdP (I 31) n (p + 8 + j) 0 9) → ffF (I 31) n (n - p) p 0 i = ffF (I 31) n (n - (p + 9 + k)) (p + 9 + k) (9 + k) i → mv_V mv_ow mv_swf mv_t_X7_readSeries rs_cs K 166 [(0, .ref 30), (1, .int (nI i)), (2, .int (nI (24 * i))), (3, .int lv), (4, .int sl), (5, .int bd), (6, .int mo), (7, .int re), (8, .int (I 31 (p + 8 + k) - 48))] [] B J := by
  have ci : (nI i).toNatClampNeg = i := nI_clamp (by omega)
  have nend : ∀ B, mv_V mv_ow mv_swf mv_t_X7_readSeries rs_cs K 227 [(0, .ref 30), (1, .int (nI i)), (2, .int (nI (24 * i))), (3, .int lv), (4, .int sl), (5, .int bd), (6, .int mo), (7, .int re), (8, .int (-9))] [] B J → mv_V mv_ow mv_swf mv_t_X7_readSeries rs_cs K 166 [(0, .ref 30), (1, .int (nI i)), (2, .int (nI (24 * i))), (3, .int lv), (4, .int sl), (5, .int bd), (6, .int mo), (7, .int re), (8, .int (-9))] [] B J := by
    intro B hB
    refine mv_run_V (stop := [227]) 20 _ _ _ _ _ ?_
    exact ⟨fun _ => hB, fun z => absurd rfl z⟩
  intro r
  induction r with
  | zero =>
    intro k hk B hS h3 ht hall hff
    have hk : k = 4 := hk
    subst hk
    have hb : ∀ j, j < 4 + 1 → tdP (I 31) n (p + 8 + j) 0 9 := fun j hj => by
      by_cases e : j = 4
      · rw [e]; exact ht
      · exact hall j (by omega)
    have h37 : B 37 (nI i).toNatClampNeg = nI 4 := by rw [ci]; exact hS.2.2.2.2.2.2.1
    have e36 : nI 5 * nI i + B 37 (nI i).toNatClampNeg = nI (5 * i + 4) := by rw [h37, e5, nI_add]
    have c36 : (nI 5 * nI i + B 37 (nI i).toNatClampNeg).toNatClampNeg = 5 * i + 4 := by rw [e36]; exact nI_clamp (by omega)
    have k200 : mv_V mv_ow mv_swf mv_t_X7_readSeries rs_cs K 200 [(0, .ref 30), (1, .int (nI i)), (2, .int (nI (24 * i))), (3, .int lv), (4, .int sl), (5, .int bd), (6, .int mo), (7, .int re), (8, .int (I 31 (p + 8 + 4) - 48))] [] (mv_si (mv_si B 36 (5 * i + 4) (I 31 (p + 8 + 4) - 48)) 37 i (nI (4 + 1))) J := by
      refine mv_run_V (stop := [166]) 40 _ _ _ _ _ ?_
      refine ⟨rfl, _, rfl, _, rfl, vp_in_nI hi (by decide), ?_⟩
      rw [ci, mv_si_ap, if_pos ⟨rfl, rfl⟩]
      refine ⟨fun _ => ?_, fun z => absurd z (by decide)⟩
      refine nend _ ?_
      have hl := ht.1
      exact ex _ 5 _ (by decide) (by decide) (SS_put hS (by decide)) (by omega) (by rw [mv_si_ne (by decide), mv_si_ne (by decide)]; exact h3) (Or.inl rfl) hff hb
    refine mv_run_V (stop := [166, 200, 227]) 60 _ _ _ _ _ ?_
    refine ⟨fun z => absurd z (td_0 (by decide) ht), fun _ => ?_⟩
    refine ⟨rfl, _, rfl, rfl, _, rfl, _, rfl, vp_in_nI hi (by decide), _, rfl, (by rw [show (5 : Int32) * nI i + B 37 (nI i).toNatClampNeg = nI (5 * i + 4) from e36]; exact vp_in_nI (by omega) (by decide)), rfl, _, rfl, _, rfl, vp_in_nI hi (by decide), _, rfl, vp_in_nI hi (by decide), ?_⟩
    have e : mv_si (mv_si B 36 (nI 5 * nI i + B 37 (nI i).toNatClampNeg).toNatClampNeg (I 31 (p + 8 + 4) - 48)) 37 (nI i).toNatClampNeg ((mv_si B 36 (nI 5 * nI i + B 37 (nI i).toNatClampNeg).toNatClampNeg (I 31 (p + 8 + 4) - 48)) 37 (nI i).toNatClampNeg + 1) = mv_si (mv_si B 36 (5 * i + 4) (I 31 (p + 8 + 4) - 48)) 37 i (nI (4 + 1)) := by
      rw [c36, mv_si_ne (by decide), h37, ci]
      rfl
    rw [← e] at k200
    exact k200
  | succ r ih =>
    intro k hk B hS h3 ht hall hff
    have hb : ∀ j, j < k + 1 → tdP (I 31) n (p + 8 + j) 0 9 := fun j hj => by
      by_cases e : j = k
      · rw [e]; exact ht
      · exact hall j (by omega)
    have h37 : B 37 (nI i).toNatClampNeg = nI k := by rw [ci]; exact hS.2.2.2.2.2.2.1
    have e36 : nI 5 * nI i + B 37 (nI i).toNatClampNeg = nI (5 * i + k) := by rw [h37, e5, nI_add]
    have c36 : (nI 5 * nI i + B 37 (nI i).toNatClampNeg).toNatClampNeg = 5 * i + k := by rw [e36]; exact nI_clamp (by omega)
    have hl := ht.1
    have k200 : ∀ B', SS I B' i p (k + 1) → B' 30 3 = nI (p + 9 + k) → mv_V mv_ow mv_swf mv_t_X7_readSeries rs_cs K 200 [(0, .ref 30), (1, .int (nI i)), (2, .int (nI (24 * i))), (3, .int lv), (4, .int sl), (5, .int bd), (6, .int mo), (7, .int re), (8, .int (I 31 (p + 8 + k) - 48))] [] B' J := by
      intro B' hS' h3'
      have hB2 : B' 30 2 = nI n := (hS'.1.2 2 (by decide) (by decide)).trans h2
      have hB31 : B' 31 = I 31 := hS'.1.1 31 (by decide) (by decide)
      have hB37 : B' 37 (nI i).toNatClampNeg = nI (k + 1) := by rw [ci]; exact hS'.2.2.2.2.2.2.1
      refine mv_run_V (stop := [166]) 40 _ _ _ _ _ ?_
      refine ⟨rfl, _, rfl, _, rfl, vp_in_nI hi (by decide), ?_⟩
      rw [hB37]
      refine ⟨fun z => ?_, fun _ => ?_⟩
      · have z : ¬ nI (k + 1) < nI 5 := z
        exact absurd (nI_lt (by omega) (by decide)) z
      · refine ⟨rfl, rfl, ⟨⟨p + 9 + k, n, by omega, hn, h3', hB2⟩, 0, 9, by decide, rfl⟩, fun r1 I1 J1 hp1 => ?_⟩
        obtain ⟨rfl, hq⟩ := hp1
        have hq := hq (p + 9 + k) n 0 9 (by omega) hn h3' hB2 rfl
        rw [hB31] at hq
        by_cases ht2 : tdP (I 31) n (p + 9 + k) 0 9
        · rw [if_pos ht2] at hq
          obtain ⟨rfl, rfl⟩ := hq
          have hl2 := ht2.1
          have e8 : p + 8 + (k + 1) = p + 9 + k := by omega
          have k6 := ih (k + 1) (by omega) (PL B' (p + 9 + k + 1)) (SS_PL hS') (by rw [PL_3, show p + 9 + k + 1 = p + 9 + (k + 1) by omega]) (by rw [e8]; exact ht2) hb (by
            have q := ff_step (T := I 31) (n := n) (pl := 9 + k) (co := i) hl2 (by omega) ((fit_s (by omega)).mpr (Or.inr ht2.2)) (fit_n46 (by decide) ht2)
            rw [hff, q, show p + 9 + k + 1 = p + 9 + (k + 1) by omega, show 9 + k + 1 = 9 + (k + 1) by omega])
          rw [e8] at k6
          exact k6
        · rw [if_neg ht2] at hq
          obtain ⟨rfl, rfl⟩ := hq
          refine nend _ ?_
          have e8 : p + 8 + (k + 1) = p + 9 + k := by omega
          have e9 : 8 + (k + 1) = 9 + k := by omega
          exact ex _ (k + 1) _ (by omega) (by omega) hS' (by omega) (by rw [e8]; exact h3') (Or.inr (by rw [e8]; exact ht2)) (by rw [e8, e9]; exact hff) hb
    have k6 := k200 _ (SS_put hS (by omega)) (by rw [mv_si_ne (by decide), mv_si_ne (by decide)]; exact h3)
    refine mv_run_V (stop := [166, 200, 227]) 60 _ _ _ _ _ ?_
    refine ⟨fun z => absurd z (td_0 (by decide) ht), fun _ => ?_⟩
    refine ⟨rfl, _, rfl, rfl, _, rfl, _, rfl, vp_in_nI hi (by decide), _, rfl, (by rw [show (5 : Int32) * nI i + B 37 (nI i).toNatClampNeg = nI (5 * i + k) from e36]; exact vp_in_nI (by omega) (by decide)), rfl, _, rfl, _, rfl, vp_in_nI hi (by decide), _, rfl, vp_in_nI hi (by decide), ?_⟩
    have e : mv_si (mv_si B 36 (nI 5 * nI i + B 37 (nI i).toNatClampNeg).toNatClampNeg (I 31 (p + 8 + k) - 48)) 37 (nI i).toNatClampNeg ((mv_si B 36 (nI 5 * nI i + B 37 (nI i).toNatClampNeg).toNatClampNeg (I 31 (p + 8 + k) - 48)) 37 (nI i).toNatClampNeg + 1) = mv_si (mv_si B 36 (5 * i + k) (I 31 (p + 8 + k) - 48)) 37 i (nI (k + 1)) := by
      rw [c36, mv_si_ne (by decide), h37, ci, nI_1]
    rw [← e] at k6
    exact k6
