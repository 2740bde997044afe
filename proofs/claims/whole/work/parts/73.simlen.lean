/-! length agrees: whole numbers in place of longs. -/
theorem tdiv_le (x y : Int) : -(x.natAbs : Int) ≤ x.tdiv y ∧ x.tdiv y ≤ (x.natAbs : Int) := by
  have h : (x.tdiv y).natAbs ≤ x.natAbs := by
    rw [Int.natAbs_tdiv]
    exact Nat.div_le_self _ _
  omega
theorem mul_sm {x y : Int} (hx : -1073741824 < x ∧ x < 1073741824) (hy : -1073741824 < y ∧ y < 1073741824) : -1152921504606846976 < x * y ∧ x * y < 1152921504606846976 := by
  have h : (x * y).natAbs < 1152921504606846976 := by
    rw [Int.natAbs_mul]
    have h1 : x.natAbs ≤ 1073741823 := by omega
    have h2 : y.natAbs ≤ 1073741823 := by omega
    exact Nat.lt_of_le_of_lt (Nat.mul_le_mul h1 h2) (by decide)
  omega
theorem op_int {a b c d e : Int64} (ha : -1073741824 < a.toInt ∧ a.toInt < 1073741824) (hb : -1073741824 < b.toInt ∧ b.toInt < 1073741824) (hc : -1073741824 < c.toInt ∧ c.toInt < 1073741824) (hd : -1073741824 < d.toInt ∧ d.toInt < 1073741824) : ((a * b - c * d) / e).toInt = (a.toInt * b.toInt - c.toInt * d.toInt).tdiv e.toInt := by
  have h1 := mul_sm ha hb
  have h2 := mul_sm hc hd
  have h3 := tdiv_le (a.toInt * b.toInt - c.toInt * d.toInt) e.toInt
  have m1 : (a.toInt * b.toInt).bmod (2 ^ 64) = a.toInt * b.toInt := fb_bmodL (by omega) (by omega)
  have m2 : (c.toInt * d.toInt).bmod (2 ^ 64) = c.toInt * d.toInt := fb_bmodL (by omega) (by omega)
  have m3 : (a.toInt * b.toInt - c.toInt * d.toInt).bmod (2 ^ 64) = a.toInt * b.toInt - c.toInt * d.toInt := fb_bmodL (by omega) (by omega)
  have m4 : ((a.toInt * b.toInt - c.toInt * d.toInt).tdiv e.toInt).bmod (2 ^ 64) = (a.toInt * b.toInt - c.toInt * d.toInt).tdiv e.toInt := fb_bmodL (by omega) (by omega)
  rw [Int64.toInt_div, Int64.toInt_sub, Int64.toInt_mul, Int64.toInt_mul, m1, m2, m3, m4]
/-- the reference's step, over whole numbers, by rows -/
abbrev zM : Type := List (List Int)
def zAt (M : zM) (i j : Nat) : Int := (M.getD i []).getD j 0
def zOk (x : Int) : Bool := decide (-1073741824 < x) && decide (x < 1073741824)
def zComb (h la x : Int) : List Int → List Int → List Int
  | y :: ys, z :: zs => Int.tdiv (h * y - x * z) la :: zComb h la x ys zs
  | _, _ => []
theorem zComb_at (h la x : Int) : ∀ (A B : List Int), A.length = B.length → ∀ j, j < A.length → (zComb h la x A B).getD j 0 = Int.tdiv (h * A.getD j 0 - x * B.getD j 0) la
  | [], _, _, j, hj => absurd hj (Nat.not_lt_zero j)
  | y :: ys, [], hl, _, _ => by cases hl
  | y :: ys, z :: zs, hl, 0, _ => rfl
  | y :: ys, z :: zs, hl, j + 1, hj => by
    have := zComb_at h la x ys zs (Nat.succ.inj hl) j (Nat.lt_of_succ_lt_succ hj)
    simpa [zComb] using this
theorem zComb_len (h la x : Int) : ∀ (A B : List Int), A.length = B.length → (zComb h la x A B).length = A.length
  | [], [], _ => rfl
  | [], _ :: _, hl => by cases hl
  | _ :: _, [], hl => by cases hl
  | _ :: ys, _ :: zs, hl => by
    show (zComb h la x ys zs).length + 1 = ys.length + 1
    rw [zComb_len h la x ys zs (Nat.succ.inj hl)]
theorem len_eq {w : Int32} (hw : LC w) {s b : Nat} (hs : s ≤ 9) (hb1 : 1 ≤ b) (hb : b ≤ 99) : (b ≤ 6 → ¬ mlyF (nI s) w 5 = 0 → LENOK s b w) ∧ ∀ u, lenF s b w u = mlenF s b w u := by
  sorry
