/-! The reference: reading a series, the contract. -/
theorem slN_is {T : Nat → Int32} {n st L : Nat} (h1 : ∀ j, j < L → st + j < n ∧ ¬ T (st + j) = 46) (h2 : stN T n (st + L)) : ∀ r k : Nat, k ≤ L → L ≤ k + r → slN T n st r k = L := by
  intro r
  induction r with
  | zero =>
    intro k hk hL
    rw [slN]
    omega
  | succ r ih =>
    intro k hk hL
    rw [slN]
    by_cases e : k = L
    · rw [e, if_pos h2]
    · have h := h1 k (by omega)
      rw [if_neg (fun z => z.elim (fun z => z h.1) h.2)]
      exact ih (k + 1) (by omega) (by omega)
/-- others than the series s are as they were -/
def FRs (I I' : mv_I) (s : Nat) : Prop := (∀ j, j ≠ s → I' 35 j = I 35 j ∧ I' 37 j = I 37 j) ∧ (∀ b, (b < 5 * s ∨ 5 * s + 5 ≤ b) → I' 36 b = I 36 b) ∧ (∀ b, (b < 24 * s ∨ 24 * s + 24 ≤ b) → I' 38 b = I 38 b) ∧ ∀ k, (4 ≤ k ∧ k < 9) ∨ (11 ≤ k ∧ k < 24) → I' 38 (24 * s + k) = I 38 (24 * s + k)
/-- what is read of the series s, whose c stands at p -/
def RS (I' : mv_I) (T : Nat → Int32) (n s p : Nat) : Prop := (∃ L : Nat, 1 ≤ L ∧ L ≤ 5 ∧ slN T n (p + 8) 5 0 = L ∧ I' 37 s = nI L ∧ ∀ j, j < L → I' 36 (5 * s + j) = dgN T n (p + 8 + j)) ∧
  I' 35 s = 10 * dgN T n (p + 1) + dgN T n (p + 2) ∧ I' 38 (24 * s + 0) = dgN T n (p + 3) ∧ I' 38 (24 * s + 1) = 10 * dgN T n (p + 4) + dgN T n (p + 5) ∧ I' 38 (24 * s + 2) = dgN T n (p + 6) ∧ I' 38 (24 * s + 3) = dgN T n (p + 7) ∧ I' 38 (24 * s + 9) = -9 ∧ I' 38 (24 * s + 10) = 16 * (10 * dgN T n (p + 1) + dgN T n (p + 2)) ∧
  (∃ x : Nat, x ≤ 9 ∧ dgN T n (p + 3) = nI x) ∧ ∃ y : Nat, 1 ≤ y ∧ y ≤ 99 ∧ 10 * dgN T n (p + 4) + dgN T n (p + 5) = nI y
theorem RS_final {I B : mv_I} {T : Nat → Int32} {n i p L : Nat} (hT : I 31 = T) (hi : i < 5) (hL1 : 1 ≤ L) (hL5 : L ≤ 5) (hS : SS I B i p L) (hqn : p + 8 + L < n) (h46 : T (p + 8 + L) = 46) (hall : ∀ j, j < L → tdP T n (p + 8 + j) 0 9)
    (t3 : tdP T n (p + 3) 0 9) (t4 : tdP T n (p + 4) 0 9) (t5 : tdP T n (p + 5) (if T (p + 4) - 48 = 0 then 1 else 0) 9) :
    slN T n (p + 8) 5 0 = L ∧ FRt I (rsB (rsA (PL B (p + 8 + L + 1)) i (10 * (T (p + 1) - 48) + (T (p + 2) - 48)) (T (p + 3) - 48) (10 * (T (p + 4) - 48) + (T (p + 5) - 48)) (T (p + 6) - 48) (T (p + 7) - 48)) i (10 * (T (p + 1) - 48) + (T (p + 2) - 48))) ∧
    FRs I (rsB (rsA (PL B (p + 8 + L + 1)) i (10 * (T (p + 1) - 48) + (T (p + 2) - 48)) (T (p + 3) - 48) (10 * (T (p + 4) - 48) + (T (p + 5) - 48)) (T (p + 6) - 48) (T (p + 7) - 48)) i (10 * (T (p + 1) - 48) + (T (p + 2) - 48))) i ∧
    RS (rsB (rsA (PL B (p + 8 + L + 1)) i (10 * (T (p + 1) - 48) + (T (p + 2) - 48)) (T (p + 3) - 48) (10 * (T (p + 4) - 48) + (T (p + 5) - 48)) (T (p + 6) - 48) (T (p + 7) - 48)) i (10 * (T (p + 1) - 48) + (T (p + 2) - 48))) T n i p ∧
    (rsB (rsA (PL B (p + 8 + L + 1)) i (10 * (T (p + 1) - 48) + (T (p + 2) - 48)) (T (p + 3) - 48) (10 * (T (p + 4) - 48) + (T (p + 5) - 48)) (T (p + 6) - 48) (T (p + 7) - 48)) i (10 * (T (p + 1) - 48) + (T (p + 2) - 48))) 30 3 = nI (p + 8 + L + 1) ∧
    (rsB (rsA (PL B (p + 8 + L + 1)) i (10 * (T (p + 1) - 48) + (T (p + 2) - 48)) (T (p + 3) - 48) (10 * (T (p + 4) - 48) + (T (p + 5) - 48)) (T (p + 6) - 48) (T (p + 7) - 48)) i (10 * (T (p + 1) - 48) + (T (p + 2) - 48))) 30 8 = B 30 8 + 1 := by
  have hsl : slN T n (p + 8) 5 0 = L := slN_is (fun j hj => ⟨(hall j hj).1, fit_n46 (by decide) (hall j hj)⟩) (Or.inr h46) 5 0 (Nat.zero_le _) (by omega)
  obtain ⟨⟨f1, f2⟩, h35, h38, h8, h37, h36, hk, hj⟩ := hS
  have dg : ∀ a, a < n → dgN T n a = T a - 48 := fun a ha => by unfold dgN; rw [if_pos ha]
  generalize hlv : (10 * (T (p + 1) - 48) + (T (p + 2) - 48)) = lv
  generalize hsl2 : T (p + 3) - 48 = sl
  generalize hbd : (10 * (T (p + 4) - 48) + (T (p + 5) - 48)) = bd
  generalize hmo : T (p + 6) - 48 = mo
  generalize hre : T (p + 7) - 48 = re
  have v : ∀ a b, rsB (rsA (PL B (p + 8 + L + 1)) i lv sl bd mo re) i lv a b = if a = 30 ∧ b = 8 then B 30 8 + 1 else if a = 38 ∧ b = 24 * i + 10 then 16 * lv else if a = 38 ∧ b = 24 * i + 9 then -9 else if a = 38 ∧ b = 24 * i + 3 then re else if a = 38 ∧ b = 24 * i + 2 then mo else if a = 38 ∧ b = 24 * i + 1 then bd else if a = 38 ∧ b = 24 * i + 0 then sl else if a = 35 ∧ b = i then lv else if a = 30 ∧ b = 3 then nI (p + 8 + L + 1) else B a b := by
    intro a b
    unfold rsB rsA PL
    simp only [mv_si_ap]
    by_cases q : a = 30 ∧ b = 8
    · rw [if_pos q, if_pos q]
      simp
    · rw [if_neg q, if_neg q]
  refine ⟨hsl, ⟨fun a ha hb => ?_, fun b hb hb8 => ?_⟩, ⟨fun j hji => ⟨?_, ?_⟩, fun b hb => ?_, fun b hb => ?_, fun k hk2 => ?_⟩, ⟨⟨L, hL1, hL5, hsl, ?_, fun j hjL => ?_⟩, ?_, ?_, ?_, ?_, ?_, ?_, ?_, ?_, ?_⟩, ?_, ?_⟩
  · funext b
    rw [v, if_neg (by omega), if_neg (by omega), if_neg (by omega), if_neg (by omega), if_neg (by omega), if_neg (by omega), if_neg (by omega), if_neg (by omega), if_neg (by omega)]
    exact congrFun (f1 a ha hb) b
  · rw [v, if_neg (by omega), if_neg (by omega), if_neg (by omega), if_neg (by omega), if_neg (by omega), if_neg (by omega), if_neg (by omega), if_neg (by omega), if_neg (by omega)]
    exact f2 b hb hb8
  · rw [v, if_neg (by omega), if_neg (by omega), if_neg (by omega), if_neg (by omega), if_neg (by omega), if_neg (by omega), if_neg (by omega), if_neg (by omega), if_neg (by omega), h35]
  · rw [v, if_neg (by omega), if_neg (by omega), if_neg (by omega), if_neg (by omega), if_neg (by omega), if_neg (by omega), if_neg (by omega), if_neg (by omega), if_neg (by omega)]
    exact h37 j hji
  · rw [v, if_neg (by omega), if_neg (by omega), if_neg (by omega), if_neg (by omega), if_neg (by omega), if_neg (by omega), if_neg (by omega), if_neg (by omega), if_neg (by omega)]
    exact h36 b hb
  · rw [v, if_neg (by omega), if_neg (by omega), if_neg (by omega), if_neg (by omega), if_neg (by omega), if_neg (by omega), if_neg (by omega), if_neg (by omega), if_neg (by omega), h38]
  · rw [v, if_neg (by omega), if_neg (by omega), if_neg (by omega), if_neg (by omega), if_neg (by omega), if_neg (by omega), if_neg (by omega), if_neg (by omega), if_neg (by omega), h38]
  · rw [v, if_neg (by omega), if_neg (by omega), if_neg (by omega), if_neg (by omega), if_neg (by omega), if_neg (by omega), if_neg (by omega), if_neg (by omega), if_neg (by omega)]
    exact hk
  · rw [v, if_neg (by omega), if_neg (by omega), if_neg (by omega), if_neg (by omega), if_neg (by omega), if_neg (by omega), if_neg (by omega), if_neg (by omega), if_neg (by omega), hj j hjL, hT, dg _ (hall j hjL).1]
  · rw [v, if_neg (by omega), if_neg (by omega), if_neg (by omega), if_neg (by omega), if_neg (by omega), if_neg (by omega), if_neg (by omega), if_pos ⟨rfl, rfl⟩, dg _ (by omega), dg _ (by omega), hlv]
  · rw [v, if_neg (by omega), if_neg (by omega), if_neg (by omega), if_neg (by omega), if_neg (by omega), if_neg (by omega), if_pos ⟨rfl, rfl⟩, dg _ (by omega), hsl2]
  · rw [v, if_neg (by omega), if_neg (by omega), if_neg (by omega), if_neg (by omega), if_neg (by omega), if_pos ⟨rfl, rfl⟩, dg _ (by omega), dg _ (by omega), hbd]
  · rw [v, if_neg (by omega), if_neg (by omega), if_neg (by omega), if_neg (by omega), if_pos ⟨rfl, rfl⟩, dg _ (by omega), hmo]
  · rw [v, if_neg (by omega), if_neg (by omega), if_neg (by omega), if_pos ⟨rfl, rfl⟩, dg _ (by omega), hre]
  · rw [v, if_neg (by omega), if_neg (by omega), if_pos ⟨rfl, rfl⟩]
  · rw [v, if_neg (by omega), if_pos ⟨rfl, rfl⟩, dg _ (by omega), dg _ (by omega), hlv]
  · obtain ⟨d, hd, e⟩ := td_nat (M := 9) (by decide) (by decide) t3
    exact ⟨d, hd, by rw [dg _ t3.1, e]⟩
  · obtain ⟨d, hd, e⟩ := td_nat (M := 9) (by decide) (by decide) t4
    have t50 : tdP T n (p + 5) 0 9 := by
      refine ⟨t5.1, ?_, t5.2.2⟩
      have := t5.2.1
      split at this
      · exact Int32.le_trans (by decide) this
      · exact this
    obtain ⟨d2, hd2, e2⟩ := td_nat (M := 9) (by decide) (by decide) t50
    refine ⟨10 * d + d2, ?_, by omega, ?_⟩
    · rcases Nat.eq_zero_or_pos d with z | z
      · have h1 := t5.2.1
        rw [e, z, nI_0, if_pos rfl, e2] at h1
        have := (nI_leI (a := 1) (by decide) (by omega)).mp h1
        omega
      · omega
    · rw [dg _ t4.1, dg _ t5.1, e, e2, ← nI_add]
      congr 1
      exact (Int32.ofNat_mul 10 d).symm
  · rw [v, if_neg (by omega), if_neg (by omega), if_neg (by omega), if_neg (by omega), if_neg (by omega), if_neg (by omega), if_neg (by omega), if_neg (by omega), if_pos ⟨rfl, rfl⟩]
  · rw [v, if_pos ⟨rfl, rfl⟩]
/-! once a figure is wanting, the rest is passed over -/
theorem rs_f150 {B : mv_I} {J : mv_J} {K : mv_K} (hK : K (some (.int 0)) B J) : mv_V mv_ow mv_swf mv_t_X7_readSeries rs_cs K 150 [(0, .ref 30), (8, .int (-9))] [] B J := by
  refine mv_run_V (stop := []) 20 _ _ _ _ _ ?_
  exact ⟨fun z => absurd rfl z, fun _ => ⟨Or.inl rfl, hK⟩⟩
theorem rs_f129 {B : mv_I} {J : mv_J} {K : mv_K} (hK : K (some (.int 0)) B J) : mv_V mv_ow mv_swf mv_t_X7_readSeries rs_cs K 129 [(0, .ref 30), (7, .int (-9))] [] B J := by
  refine mv_run_V (stop := [150]) 20 _ _ _ _ _ ?_
  exact ⟨fun z => absurd rfl z, fun _ => mv_keep [0, 8] (rs_f150 hK)⟩
theorem rs_f109 {B : mv_I} {J : mv_J} {K : mv_K} (hK : K (some (.int 0)) B J) : mv_V mv_ow mv_swf mv_t_X7_readSeries rs_cs K 109 [(0, .ref 30), (6, .int (-9))] [] B J := by
  refine mv_run_V (stop := [129]) 20 _ _ _ _ _ ?_
  exact ⟨fun z => absurd rfl z, fun _ => mv_keep [0, 7] (rs_f129 hK)⟩
theorem rs_f89 {B : mv_I} {J : mv_J} {K : mv_K} (hK : K (some (.int 0)) B J) : mv_V mv_ow mv_swf mv_t_X7_readSeries rs_cs K 89 [(0, .ref 30), (5, .int (-9))] [] B J := by
  refine mv_run_V (stop := [109]) 20 _ _ _ _ _ ?_
  exact ⟨fun z => absurd rfl z, fun _ => mv_keep [0, 6] (rs_f109 hK)⟩
theorem rs_f70 {B : mv_I} {J : mv_J} {K : mv_K} (hK : K (some (.int 0)) B J) : mv_V mv_ow mv_swf mv_t_X7_readSeries rs_cs K 70 [(0, .ref 30), (4, .int (-9))] [] B J := by
  refine mv_run_V (stop := [89]) 20 _ _ _ _ _ ?_
  exact ⟨fun z => absurd rfl z, fun _ => mv_keep [0, 5] (rs_f89 hK)⟩
theorem rs_f50 {B : mv_I} {J : mv_J} {K : mv_K} (hK : K (some (.int 0)) B J) : mv_V mv_ow mv_swf mv_t_X7_readSeries rs_cs K 50 [(0, .ref 30), (3, .int (-9))] [] B J := by
  refine mv_run_V (stop := [70]) 20 _ _ _ _ _ ?_
  exact ⟨fun z => absurd rfl z, fun _ => mv_keep [0, 4] (rs_f70 hK)⟩
theorem rs_129 {I : mv_I} {J : mv_J} {K : mv_K} {i p n : Nat} {lv sl bd mo re : Int32} (hi : i < 5) (hn : n ≤ 80) (h2 : I 30 2 = nI n) (h8 : I 30 8 = nI i) (hpn : p + 8 ≤ n)
    (fin0 : ∀ I1 q, FRt I I1 → q ≤ n → I1 30 3 = nI q → ffF (I 31) n (n - p) p 0 i = nI q → K (some (.int 0)) I1 J)
    (fin1 : ∀ (B : mv_I) (L : Nat), 1 ≤ L → L ≤ 5 → SS I B i p L → p + 8 + L < n → I 31 (p + 8 + L) = 46 → (∀ j, j < L → tdP (I 31) n (p + 8 + j) 0 9) → ffF (I 31) n (n - p) p 0 i = ffF (I 31) n (n - (p + 8 + L + 1)) (p + 8 + L + 1) 0 (i + 1) → mv_V mv_ow mv_swf mv_t_X7_readSeries rs_cs K 264 [(0, .ref 30), (1, .int (nI i)), (2, .int (nI (24 * i))), (3, .int lv), (4, .int sl), (5, .int bd), (6, .int mo), (7, .int re)] [] (PL B (p + 8 + L + 1)) J)
    (hre : ¬ re = -9) (hff : ffF (I 31) n (n - p) p 0 i = ffF (I 31) n (n - (p + 8)) (p + 8) 8 i) : mv_V mv_ow mv_swf mv_t_X7_readSeries rs_cs K 129 [(0, .ref 30), (1, .int (nI i)), (2, .int (nI (24 * i))), (3, .int lv), (4, .int sl), (5, .int bd), (6, .int mo), (7, .int re)] [] (PL I (p + 8)) J := by
  have ci : (nI i).toNatClampNeg = i := nI_clamp (by omega)
  have e31 : PL I (p + 8) 31 = I 31 := PL_ne (by decide)
  have frP : ∀ q, FRt I (PL I q) := fun q => ⟨fun a ha _ => PL_ne ha, fun b hb _ => PL_30 hb⟩
  have k150 : tdP (I 31) n (p + 8) 0 9 → mv_V mv_ow mv_swf mv_t_X7_readSeries rs_cs K 150 [(0, .ref 30), (1, .int (nI i)), (2, .int (nI (24 * i))), (3, .int lv), (4, .int sl), (5, .int bd), (6, .int mo), (7, .int re), (8, .int (I 31 (p + 8) - 48))] [] (PL I (p + 8 + 1)) J := by
    intro ht
    have hS : SS I (mv_si (PL I (p + 8 + 1)) 37 i 0) i p 0 := by
      refine ⟨⟨fun a ha hb => ?_, fun b hb hb8 => ?_⟩, ?_, ?_, ?_, fun j hji => ?_, fun b hb => ?_, ?_, fun j hj => absurd hj (Nat.not_lt_zero j)⟩
      · rw [mv_si_ne (by omega)]; exact PL_ne ha
      · rw [mv_si_ne (by decide)]; exact PL_30 hb
      · rw [mv_si_ne (by decide)]; exact PL_ne (by decide)
      · rw [mv_si_ne (by decide)]; exact PL_ne (by decide)
      · rw [mv_si_ne (by decide)]; exact PL_30 (by decide)
      · rw [mv_si_ap, if_neg (fun z => hji z.2)]; exact congrFun (PL_ne (by decide)) j
      · rw [mv_si_ne (by decide)]; exact congrFun (PL_ne (by decide)) b
      · rw [mv_si_ap, if_pos ⟨rfl, rfl⟩]; rfl
    have q := ff_step (T := I 31) (n := n) (pl := 8) (co := i) ht.1 (by omega) ((fit_def (Or.inr rfl)).mpr ht.2) (fit_n46 (by decide) ht)
    have k6 := rs_166 (I := I) (J := J) (K := K) (lv := lv) (sl := sl) (bd := bd) (mo := mo) (re := re) hi hn h2 (fun B k x8 hk1 hk5 hSk hle h3 hor hffk hall => rs_227 hi hn h2 hk1 hk5 rfl hle hSk h3 hor hffk fin0 (fun hlt h46 hff3 => fin1 B k hk1 hk5 hSk hlt h46 hall hff3)) 4 0 rfl (mv_si (PL I (p + 8 + 1)) 37 i 0) hS (by rw [mv_si_ne (by decide)]; exact PL_3) ht (fun j hj => absurd hj (Nat.not_lt_zero j)) (by rw [hff, q])
    refine mv_run_V (stop := [166]) 40 _ _ _ _ _ ?_
    refine ⟨fun _ => ?_, fun z => absurd z (td_0 (by decide) ht)⟩
    refine ⟨rfl, _, rfl, _, rfl, vp_in_nI hi (by decide), ?_⟩
    rw [ci]
    exact k6
  refine mv_run_V (stop := [150]) 40 _ _ _ _ _ ?_
  refine ⟨fun _ => ?_, fun z => absurd z hre⟩
  refine ⟨rfl, rfl, ⟨⟨p + 8, n, hpn, hn, PL_3, (PL_30 (by decide)).trans h2⟩, 0, 9, by decide, rfl⟩, fun r1 I1 J1 hp1 => ?_⟩
  obtain ⟨rfl, hq⟩ := hp1
  have hq := hq (p + 8) n 0 9 hpn hn PL_3 ((PL_30 (by decide)).trans h2) rfl
  rw [e31] at hq
  by_cases ht : tdP (I 31) n (p + 8) 0 9
  · rw [if_pos ht] at hq
    obtain ⟨rfl, hI⟩ := hq
    have hI : I1 = PL I (p + 8 + 1) := hI.trans PL_PL
    subst hI
    exact k150 ht
  · rw [if_neg ht] at hq
    obtain ⟨rfl, rfl⟩ := hq
    refine mv_keep [0, 8] (rs_f150 (fin0 _ (p + 8) (frP _) hpn PL_3 ?_))
    rw [hff]
    exact ff_fail hpn (Or.inl (by decide)) (fun z => Or.inr (fun hf => ht ⟨z, (fit_def (Or.inr rfl)).mp hf⟩))
