/-! length agrees: whole numbers in place of longs. -/
theorem tdiv_le (x y : Int) : -(x.natAbs : Int) ≤ x.tdiv y ∧ x.tdiv y ≤ (x.natAbs : Int) := by
  have h : (x.tdiv y).natAbs ≤ x.natAbs := by
    rw [Int.natAbs_tdiv]
    exact Nat.div_le_self _ _
  omega
theorem mul_sm {x y : Int} (hx : -1073741824 < x ∧ x < 1073741824) (hy : -1073741824 < y ∧ y < 1073741824) : -1152921504606846976 < x * y ∧ x * y < 1152921504606846976 := by
  have h : (x * y).natAbs < 1152921504606846976 := by
    rw [Int.natAbs_mul]
    have h1 : x.natAbs ≤ 1073741823 := by omega
    have h2 : y.natAbs ≤ 1073741823 := by omega
    exact Nat.lt_of_le_of_lt (Nat.mul_le_mul h1 h2) (by decide)
  omega
theorem op_int {a b c d e : Int64} (ha : -1073741824 < a.toInt ∧ a.toInt < 1073741824) (hb : -1073741824 < b.toInt ∧ b.toInt < 1073741824) (hc : -1073741824 < c.toInt ∧ c.toInt < 1073741824) (hd : -1073741824 < d.toInt ∧ d.toInt < 1073741824) : ((a * b - c * d) / e).toInt = (a.toInt * b.toInt - c.toInt * d.toInt).tdiv e.toInt := by
  have h1 := mul_sm ha hb
  have h2 := mul_sm hc hd
  have h3 := tdiv_le (a.toInt * b.toInt - c.toInt * d.toInt) e.toInt
  have m1 : (a.toInt * b.toInt).bmod (2 ^ 64) = a.toInt * b.toInt := fb_bmodL (by omega) (by omega)
  have m2 : (c.toInt * d.toInt).bmod (2 ^ 64) = c.toInt * d.toInt := fb_bmodL (by omega) (by omega)
  have m3 : (a.toInt * b.toInt - c.toInt * d.toInt).bmod (2 ^ 64) = a.toInt * b.toInt - c.toInt * d.toInt := fb_bmodL (by omega) (by omega)
  have m4 : ((a.toInt * b.toInt - c.toInt * d.toInt).tdiv e.toInt).bmod (2 ^ 64) = (a.toInt * b.toInt - c.toInt * d.toInt).tdiv e.toInt := fb_bmodL (by omega) (by omega)
  rw [Int64.toInt_div, Int64.toInt_sub, Int64.toInt_mul, Int64.toInt_mul, m1, m2, m3, m4]
/-- the reference's step, over whole numbers, by rows -/
abbrev zM : Type := List (List Int)
def zAt (M : zM) (i j : Nat) : Int := (M.getD i []).getD j 0
def zOk (x : Int) : Bool := decide (-1073741824 < x) && decide (x < 1073741824)
def zComb (h la x : Int) : List Int → List Int → List Int
  | y :: ys, z :: zs => Int.tdiv (h * y - x * z) la :: zComb h la x ys zs
  | _, _ => []
theorem zComb_at (h la x : Int) : ∀ (A B : List Int), A.length = B.length → ∀ j, j < A.length → (zComb h la x A B).getD j 0 = Int.tdiv (h * A.getD j 0 - x * B.getD j 0) la
  | [], _, _, j, hj => absurd hj (Nat.not_lt_zero j)
  | y :: ys, [], hl, _, _ => by cases hl
  | y :: ys, z :: zs, hl, 0, _ => rfl
  | y :: ys, z :: zs, hl, j + 1, hj => by
    have := zComb_at h la x ys zs (Nat.succ.inj hl) j (Nat.lt_of_succ_lt_succ hj)
    simpa [zComb] using this
theorem zComb_len (h la x : Int) : ∀ (A B : List Int), A.length = B.length → (zComb h la x A B).length = A.length
  | [], [], _ => rfl
  | [], _ :: _, hl => by cases hl
  | _ :: _, [], hl => by cases hl
  | _ :: ys, _ :: zs, hl => by
    show (zComb h la x ys zs).length + 1 = ys.length + 1
    rw [zComb_len h la x ys zs (Nat.succ.inj hl)]
/-- a step: the row p stays; c: the rows above it too -/
def zStep (c : Bool) (p : Nat) (la : Int) (M : zM) : zM := (List.range M.length).map (fun r => if r = p ∨ (c = true ∧ r < p) then M.getD r [] else zComb (zAt M p p) la (zAt M r p) (M.getD r []) (M.getD p []))
theorem getD_range (f : Nat → List Int) {n r : Nat} (h : r < n) : ((List.range n).map f).getD r [] = f r := by
  rw [List.getD_eq_getElem?_getD, List.getElem?_map, List.getElem?_range h]
  rfl
/-- the rows M stand for the square F, from the column k on, in the rows of P -/
def RQ (n k : Nat) (P : Nat → Prop) (M : zM) (F : mv_Q) : Prop := M.length = n ∧ (∀ r, r < n → (M.getD r []).length = n + 1) ∧ ∀ i j, i < n → P i → k ≤ j → j ≤ n → (F i j).toInt = zAt M i j
def zAll (M : zM) : Bool := M.all (fun r => r.all zOk)
theorem zAll_at {n : Nat} {M : zM} (h : zAll M = true) (hl : M.length = n) (hr : ∀ r, r < n → (M.getD r []).length = n + 1) {i j : Nat} (hi : i < n) (hj : j ≤ n) : -1073741824 < zAt M i j ∧ zAt M i j < 1073741824 := by
  have h1 : M.getD i [] ∈ M := by
    rw [List.getD_eq_getElem?_getD, List.getElem?_eq_getElem (by omega)]
    exact List.getElem_mem _
  have h2 := List.all_eq_true.mp h _ h1
  have h3 : (M.getD i []).getD j 0 ∈ M.getD i [] := by
    have hj2 : j < (M.getD i []).length := by rw [hr i hi]; omega
    generalize M.getD i [] = R at hj2 ⊢
    rw [List.getD_eq_getElem?_getD, List.getElem?_eq_getElem hj2]
    exact List.getElem_mem _
  have h4 := List.all_eq_true.mp h2 _ h3
  unfold zOk at h4
  rw [Bool.and_eq_true] at h4
  exact ⟨of_decide_eq_true h4.1, of_decide_eq_true h4.2⟩
theorem gj_step {n p : Nat} {M : zM} {F : mv_Q} {la : Int64} (hp : p < n) (hR : RQ n 0 (fun _ => True) M F) (hz : zAll M = true) : RQ n 0 (fun _ => True) (zStep false p la.toInt M) (gjM n p la F) := by
  obtain ⟨h1, h2, h3⟩ := hR
  refine ⟨by unfold zStep; rw [List.length_map, List.length_range]; exact h1, fun r hr => ?_, fun i j hi _ _ hj => ?_⟩
  · unfold zStep
    rw [h1, getD_range _ hr]
    split
    · exact h2 r hr
    · rw [zComb_len _ _ _ _ _ (by rw [h2 r hr, h2 p hp])]
      exact h2 r hr
  · have e : zAt (zStep false p la.toInt M) i j = ((if i = p ∨ (false = true ∧ i < p) then M.getD i [] else zComb (zAt M p p) la.toInt (zAt M i p) (M.getD i []) (M.getD p []))).getD j 0 := by
      show ((zStep false p la.toInt M).getD i []).getD j 0 = _
      unfold zStep
      rw [h1, getD_range _ hi]
    rw [e]
    unfold gjM
    by_cases hip : i = p
    · rw [if_neg (fun z => z.1.2 hip), if_pos (Or.inl hip)]
      exact h3 i j hi trivial (Nat.zero_le _) hj
    · rw [if_pos ⟨⟨hi, hip⟩, hj⟩, if_neg (fun z => z.elim hip (fun w => absurd w.1 (by decide))), zComb_at _ _ _ _ _ (by rw [h2 i hi, h2 p hp]) j (by rw [h2 i hi]; omega)]
      unfold gjX
      have a1 := h3 p p hp trivial (Nat.zero_le _) (by omega)
      have a2 := h3 i j hi trivial (Nat.zero_le _) hj
      have a3 := h3 i p hi trivial (Nat.zero_le _) (by omega)
      have a4 := h3 p j hp trivial (Nat.zero_le _) hj
      rw [op_int (by rw [a1]; exact zAll_at hz h1 h2 hp (by omega)) (by rw [a2]; exact zAll_at hz h1 h2 hi hj) (by rw [a3]; exact zAll_at hz h1 h2 hi (by omega)) (by rw [a4]; exact zAll_at hz h1 h2 hp hj), a1, a2, a3, a4]
      rfl
theorem el_step {n p : Nat} {M : zM} {F : mv_Q} {la : Int64} (hp : p < n) (hla : ¬ la = 0) (hR : RQ n p (fun i => p ≤ i) M F) (hz : zAll M = true) : RQ n (p + 1) (fun i => p + 1 ≤ i) (zStep true p la.toInt M) (elM n p la F) := by
  obtain ⟨h1, h2, h3⟩ := hR
  refine ⟨by unfold zStep; rw [List.length_map, List.length_range]; exact h1, fun r hr => ?_, fun i j hi hpi hkj hj => ?_⟩
  · unfold zStep
    rw [h1, getD_range _ hr]
    split
    · exact h2 r hr
    · rw [zComb_len _ _ _ _ _ (by rw [h2 r hr, h2 p hp])]
      exact h2 r hr
  · have hpi : p + 1 ≤ i := hpi
    have e : zAt (zStep true p la.toInt M) i j = ((if i = p ∨ (true = true ∧ i < p) then M.getD i [] else zComb (zAt M p p) la.toInt (zAt M i p) (M.getD i []) (M.getD p []))).getD j 0 := by
      show ((zStep true p la.toInt M).getD i []).getD j 0 = _
      unfold zStep
      rw [h1, getD_range _ hi]
    rw [e]
    unfold elM
    rw [if_pos ⟨⟨by omega, hi⟩, by omega, hj⟩, if_neg (fun z => z.elim (fun w => by omega) (fun w => by omega)), zComb_at _ _ _ _ _ (by rw [h2 i hi, h2 p hp]) j (by rw [h2 i hi]; omega)]
    unfold elX
    rw [if_neg hla]
    have a1 := h3 p p hp (Nat.le_refl _) (Nat.le_refl _) (by omega)
    have a2 := h3 i j hi (show p ≤ i by omega) (by omega) hj
    have a3 := h3 i p hi (show p ≤ i by omega) (Nat.le_refl _) (by omega)
    have a4 := h3 p j hp (Nat.le_refl _) (by omega) hj
    rw [op_int (by rw [a2]; exact zAll_at hz h1 h2 hi hj) (by rw [a1]; exact zAll_at hz h1 h2 hp (by omega)) (by rw [a3]; exact zAll_at hz h1 h2 hi (by omega)) (by rw [a4]; exact zAll_at hz h1 h2 hp hj), a1, a2, a3, a4, Int.mul_comm (zAt M i j)]
    rfl
def zRun (c : Bool) : Nat → Nat → Int → zM → Bool × Int × zM
  | 0, _, la, M => (zAll M, la, M)
  | q + 1, p, la, M => match zAll M && decide (zAt M p p ≠ 0) with
    | true => zRun c q (p + 1) (zAt M p p) (zStep c p la M)
    | false => (false, la, M)
theorem gj_run {n : Nat} {F0 : mv_Q} : ∀ q p, p + q ≤ n → ∀ M : zM, RQ n 0 (fun _ => True) M (gjS n F0 p).2 → (zRun false q p (gjS n F0 p).1.toInt M).1 = true → RQ n 0 (fun _ => True) (zRun false q p (gjS n F0 p).1.toInt M).2.2 (gjS n F0 (p + q)).2 ∧ zAll (zRun false q p (gjS n F0 p).1.toInt M).2.2 = true ∧ ∀ k, p ≤ k → k < p + q → ¬ (gjS n F0 k).2 k k = 0
  | 0, p, _, M, hR, h => ⟨hR, h, fun k h1 h2 => by omega⟩
  | q + 1, p, hn, M, hR, h => by
    have hp : p < n := by omega
    rw [zRun] at h ⊢
    cases hb : zAll M && decide (zAt M p p ≠ 0) with
    | false => rw [hb] at h; cases h
    | true =>
      rw [hb] at h
      dsimp only at h ⊢
      rw [Bool.and_eq_true] at hb
      have hne := of_decide_eq_true hb.2
      have e1 := hR.2.2 p p hp trivial (Nat.zero_le _) (by omega)
      have hs := gj_step (la := (gjS n F0 p).1) hp hR hb.1
      have el : (gjS n F0 (p + 1)).1 = (gjS n F0 p).2 p p := rfl
      rw [← e1, ← el] at h ⊢
      obtain ⟨r1, r2, r3⟩ := gj_run q (p + 1) (by omega) _ hs h
      rw [show p + 1 + q = p + (q + 1) by omega] at r1 r3
      refine ⟨r1, r2, fun k h1 h2 => ?_⟩
      by_cases hk : k = p
      · subst hk
        intro z
        rw [z] at e1
        exact hne e1.symm
      · exact r3 k (by omega) h2
theorem el_run {n : Nat} {F0 : mv_Q} : ∀ q p, p + q < n → ∀ M : zM, RQ n p (fun i => p ≤ i) M (elS n F0 p).2 → ¬ (elS n F0 p).1 = 0 → (zRun true q p (elS n F0 p).1.toInt M).1 = true → RQ n (p + q) (fun i => p + q ≤ i) (zRun true q p (elS n F0 p).1.toInt M).2.2 (elS n F0 (p + q)).2
  | 0, p, _, M, hR, _, h => hR
  | q + 1, p, hn, M, hR, h0, h => by
    have hp : p < n := by omega
    rw [zRun] at h ⊢
    cases hb : zAll M && decide (zAt M p p ≠ 0) with
    | false => rw [hb] at h; cases h
    | true =>
      rw [hb] at h
      dsimp only at h ⊢
      rw [Bool.and_eq_true] at hb
      have hne := of_decide_eq_true hb.2
      have e1 := hR.2.2 p p hp (Nat.le_refl _) (Nat.le_refl _) (by omega)
      have hs := el_step (la := (elS n F0 p).1) hp h0 hR hb.1
      have el : (elS n F0 (p + 1)).1 = (elS n F0 p).2 p p := rfl
      rw [← e1, ← el] at h ⊢
      have r1 := el_run q (p + 1) (by omega) _ hs (fun z => by
        rw [el] at z
        rw [z] at e1
        exact hne e1.symm) h
      rw [show p + 1 + q = p + (q + 1) by omega] at r1
      exact r1
/-- the equations over whole numbers, from the digits -/
def zS (up s bd : Nat) (d : Nat → Int) : Nat → Nat → Int
  | 0, k => if k = bd ∨ k = up then 10 else 0
  | t + 1, k => if up + t - 2 - s < bd ∧ k = up + t - 2 - s then zS up s bd d t k - d t else zS up s bd d t k
def zP (st s bd : Nat) (d : Nat → Int) : Nat → Nat → Int
  | 0, j => if j = bd ∨ j = bd - 1 - st then 10 else 0
  | k + 1, j => if st + k - 2 - s < bd ∧ j = bd - 1 - (st + k - 2 - s) then zP st s bd d k j - d k else zP st s bd d k j
theorem zS_is {up s bd : Nat} {w : Int32} {d : Nat → Int} (hd : ∀ t, t < 5 → (mch w t).toInt = d t ∧ 0 ≤ d t ∧ d t < 10) (k : Nat) : ∀ t, t ≤ 5 → (sqF up s bd w t k).toInt = zS up s bd d t k ∧ -(10 * t : Int) ≤ zS up s bd d t k ∧ zS up s bd d t k ≤ 10
  | 0, _ => by
    rw [sqF, zS]
    split
    · exact ⟨rfl, by omega, by omega⟩
    · exact ⟨rfl, by omega, by omega⟩
  | t + 1, ht => by
    obtain ⟨i1, i2, i3⟩ := zS_is (up := up) (s := s) (bd := bd) hd k t (by omega)
    obtain ⟨d1, d2, d3⟩ := hd t (by omega)
    rw [sqF, zS]
    split
    · refine ⟨?_, by omega, by omega⟩
      have m : (zS up s bd d t k - d t).bmod (2 ^ 64) = zS up s bd d t k - d t := fb_bmodL (by omega) (by omega)
      rw [Int64.toInt_sub, Int32.toInt_toInt64, i1, d1, m]
    · exact ⟨i1, by omega, by omega⟩
theorem zP_is {st s bd : Nat} {w : Int32} {d : Nat → Int} (hd : ∀ t, t < 5 → (chF w t).toInt = d t ∧ 0 ≤ d t ∧ d t < 10) (k : Nat) : ∀ t, t ≤ 5 → (peF st s bd w t k).toInt = zP st s bd d t k ∧ -(10 * t : Int) ≤ zP st s bd d t k ∧ zP st s bd d t k ≤ 10
  | 0, _ => by
    rw [peF, zP]
    split
    · exact ⟨rfl, by omega, by omega⟩
    · exact ⟨rfl, by omega, by omega⟩
  | t + 1, ht => by
    obtain ⟨i1, i2, i3⟩ := zP_is (st := st) (s := s) (bd := bd) hd k t (by omega)
    obtain ⟨d1, d2, d3⟩ := hd t (by omega)
    rw [peF, zP]
    split
    · refine ⟨?_, by omega, by omega⟩
      have m : (zP st s bd d t k - d t).bmod (2 ^ 64) = zP st s bd d t k - d t := fb_bmodL (by omega) (by omega)
      rw [Int64.toInt_sub, Int32.toInt_toInt64, i1, d1, m]
    · exact ⟨i1, by omega, by omega⟩
def zSq (s bd : Nat) (d : Nat → Int) : zM := (List.range bd).map (fun r => (List.range (bd + 1)).map (fun k => zS r s bd d 5 k))
def zEq (s bd : Nat) (d : Nat → Int) : zM := (List.range bd).map (fun i => (List.range (bd + 1)).map (fun j => zP (bd - 1 - i) s bd d 5 j))
theorem getD_rangeI (f : Nat → Int) {n r : Nat} (h : r < n) : ((List.range n).map f).getD r 0 = f r := by
  rw [List.getD_eq_getElem?_getD, List.getElem?_map, List.getElem?_range h]
  rfl
theorem RQ_sq {s bd : Nat} {w : Int32} {d : Nat → Int} (hd : ∀ t, t < 5 → (mch w t).toInt = d t ∧ 0 ≤ d t ∧ d t < 10) : RQ bd 0 (fun _ => True) (zSq s bd d) (sqM s bd w) := by
  refine ⟨by unfold zSq; rw [List.length_map, List.length_range], fun r hr => ?_, fun i j hi _ _ hj => ?_⟩
  · unfold zSq
    rw [getD_range _ hr, List.length_map, List.length_range]
  · unfold zAt zSq
    rw [getD_range _ hi, getD_rangeI _ (by omega)]
    exact (zS_is hd j 5 (by decide)).1
theorem RQ_eq {s bd : Nat} {w : Int32} {d : Nat → Int} (hd : ∀ t, t < 5 → (chF w t).toInt = d t ∧ 0 ≤ d t ∧ d t < 10) : RQ bd 0 (fun i => 0 ≤ i) (zEq s bd d) (eqM s bd w) := by
  refine ⟨by unfold zEq; rw [List.length_map, List.length_range], fun r hr => ?_, fun i j hi _ _ hj => ?_⟩
  · unfold zEq
    rw [getD_range _ hr, List.length_map, List.length_range]
  · unfold zAt zEq
    rw [getD_range _ hi, getD_rangeI _ (by omega)]
    exact (zP_is hd j 5 (by decide)).1
/-- the check of one tuple of chances: both runs go through, and give the same pair -/
def zChk (s bd : Nat) (d : Nat → Int) : Bool :=
  match zRun false bd 0 1 (zSq s bd d), zRun true (bd - 1) 0 1 (zEq s bd d) with
  | (g, _, G), (e, _, H) => g && e && decide (0 < zAt G 0 0) && decide (0 ≤ zAt G 0 bd) && decide (zAt H (bd - 1) (bd - 1) = zAt G 0 0) && decide (zAt H (bd - 1) bd = zAt G 0 bd)
theorem chk_use {s bd : Nat} {w : Int32} {d : Nat → Int} (hb1 : 1 ≤ bd) (hm : ∀ t, t < 5 → (mch w t).toInt = d t ∧ 0 ≤ d t ∧ d t < 10) (hc : ∀ t, t < 5 → (chF w t).toInt = d t ∧ 0 ≤ d t ∧ d t < 10) (h : zChk s bd d = true) : LENOK s bd w ∧ lenA s bd w = lN (mlenU s bd w) ∧ lenB s bd w = lN (mlenL s bd w) ∧ 0 < mlenL s bd w ∧ mlenL s bd w < 2 ^ 40 ∧ mlenU s bd w < 2 ^ 40 := by
  unfold zChk at h
  have hg := gj_run (n := bd) (F0 := sqM s bd w) bd 0 (by omega) (zSq s bd d) (RQ_sq hm)
  have hE := el_run (n := bd) (F0 := eqM s bd w) (bd - 1) 0 (by omega) (zEq s bd d) (RQ_eq hc) (show ¬ (1 : Int64) = 0 by decide)
  have g0 : (gjS bd (sqM s bd w) 0).1.toInt = 1 := rfl
  have e0 : (elS bd (eqM s bd w) 0).1.toInt = 1 := rfl
  rw [g0] at hg
  rw [e0] at hE
  generalize zRun false bd 0 1 (zSq s bd d) = g at h hg
  generalize zRun true (bd - 1) 0 1 (zEq s bd d) = e at h hE
  obtain ⟨g1, g2, G⟩ := g
  obtain ⟨e1, e2, H⟩ := e
  simp only [Bool.and_eq_true, decide_eq_true_eq] at h
  obtain ⟨⟨⟨⟨⟨h1, h2⟩, h3⟩, h4⟩, h5⟩, h6⟩ := h
  obtain ⟨r1, r2, r3⟩ := hg h1
  have q := hE h2
  rw [Nat.zero_add] at r1 r3 q
  have a1 := r1.2.2 0 0 (by omega) trivial (Nat.le_refl _) (by omega)
  have a2 := r1.2.2 0 bd (by omega) trivial (Nat.zero_le _) (Nat.le_refl _)
  have b1 := q.2.2 (bd - 1) (bd - 1) (by omega) (Nat.le_refl _) (Nat.le_refl _) (by omega)
  have b2 := q.2.2 (bd - 1) bd (by omega) (Nat.le_refl _) (by omega) (Nat.le_refl _)
  have c1 := zAll_at r2 r1.1 r1.2.1 (i := 0) (j := 0) (by omega) (by omega)
  have c2 := zAll_at r2 r1.1 r1.2.1 (i := 0) (j := bd) (by omega) (Nat.le_refl _)
  dsimp only at a1 a2 b1 b2 c1 c2
  have back : ∀ x : Int64, 0 ≤ x.toInt → x.toInt < 1073741824 → x = lN x.toInt.toNat := fun x hx hx2 => by
    refine Int64.toInt_inj.mp ?_
    rw [lN_toInt (by omega)]
    omega
  have eL := back _ (show 0 ≤ ((gjS bd (sqM s bd w) bd).2 0 0).toInt by rw [a1]; omega) (by rw [a1]; omega)
  have eU := back _ (show 0 ≤ ((gjS bd (sqM s bd w) bd).2 0 bd).toInt by rw [a2]; omega) (by rw [a2]; omega)
  have iB : lenB s bd w = (gjS bd (sqM s bd w) bd).2 0 0 := Int64.toInt_inj.mp (by rw [a1, ← h5]; exact b1)
  have iA : lenA s bd w = (gjS bd (sqM s bd w) bd).2 0 bd := Int64.toInt_inj.mp (by rw [a2, ← h6]; exact b2)
  have vL : mlenL s bd w = (zAt G 0 0).toNat := by unfold mlenL; rw [a1]
  have vU : mlenU s bd w = (zAt G 0 bd).toNat := by unfold mlenU; rw [a2]
  refine ⟨⟨fun p hp => r3 p (Nat.zero_le _) hp, mlenU s bd w, mlenL s bd w, ?_, ?_, ?_, eU, eL⟩, iA.trans eU, iB.trans eL, ?_, ?_, ?_⟩
  all_goals (first | rw [vL] | rw [vU])
  all_goals omega
theorem dv_nat {W : Nat} (hW : W < 2 ^ 31) : ∀ k, dvF (nI W) k = nI (W / 10 ^ k)
  | 0 => by rw [Nat.pow_zero, Nat.div_one]; rfl
  | k + 1 => by
    rw [dvF, dv_nat hW k]
    refine (pk_div (d := 10) (Nat.lt_of_le_of_lt (Nat.div_le_self _ _) hW) (by decide) (by decide)).trans ?_
    rw [Nat.div_div_eq_div_mul, Nat.pow_succ]
theorem ch_nat {W : Nat} (hW : W < 2 ^ 31) (i : Nat) : chF (nI W) i = nI (W / 10 ^ (4 - i) % 10) := by
  unfold chF
  rw [dv_nat hW]
  exact pk_rem (d := 10) (Nat.lt_of_le_of_lt (Nat.div_le_self _ _) hW) (by decide) (by decide)
theorem mch_nat {W : Nat} (hW : W < 2 ^ 31) {i : Nat} (hi : i < 5) : mch (nI W) i = nI (W / 10 ^ (4 - i) % 10) := by
  have hp : pwF 10 (4 - i) = nI (10 ^ (4 - i)) := pwF_nat 10 (4 - i)
  have hle : 10 ^ (4 - i) < 2 ^ 31 := Nat.lt_of_le_of_lt (Nat.pow_le_pow_right (by decide) (show 4 - i ≤ 4 by omega)) (by decide)
  have hd : nI W / nI (10 ^ (4 - i)) = nI (W / 10 ^ (4 - i)) := pk_div hW (Nat.pow_pos (by decide)) hle
  unfold mch
  rw [hp, hd]
  exact pk_rem (d := 10) (Nat.lt_of_le_of_lt (Nat.div_le_self _ _) hW) (by decide) (by decide)
theorem dig_int {x : Nat} (h : x < 10) : (nI x).toInt = (x : Int) ∧ (0 : Int) ≤ x ∧ (x : Int) < 10 := ⟨nI_toInt (by omega), by omega, by omega⟩
theorem cl_eq {W : Nat} (hW : W < 2 ^ 31) (s : Int32) : clF s (nI W) 5 0 = 0 ↔ mlyF s (nI W) 5 = 0 := by
  have e : ∀ k, k < 5 → chF (nI W) k = mch (nI W) k := fun k hk => by rw [ch_nat hW, mch_nat hW hk]
  have e0 := e 0 (by decide)
  have e1 := e 1 (by decide)
  have e2 := e 2 (by decide)
  have e3 := e 3 (by decide)
  have e4 := e 4 (by decide)
  simp only [clF, mlyF, e0, e1, e2, e3, e4]
  by_cases h0 : s < nI 0 - 2 ∧ 0 < mch (nI W) 0 <;> by_cases h1 : s < nI 1 - 2 ∧ 0 < mch (nI W) 1 <;> by_cases h2 : s < nI 2 - 2 ∧ 0 < mch (nI W) 2 <;> by_cases h3 : s < nI 3 - 2 ∧ 0 < mch (nI W) 3 <;> by_cases h4 : s < nI 4 - 2 ∧ 0 < mch (nI W) 4 <;> simp [h0, h1, h2, h3, h4]
