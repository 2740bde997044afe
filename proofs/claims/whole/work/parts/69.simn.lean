/-! share and lost agree. -/
theorem lN_00 : lN 0 = 0 := rfl
theorem cd_gcd : ∀ (k n a b : Nat), a < 2 ^ 62 → b < 2 ^ k → k ≤ 40 → 2 * k + 1 ≤ n → cdF n (lN a) (lN b) = lN (Nat.gcd a b) := by
  intro k
  induction k with
  | zero =>
    intro n a b ha hb _ hn
    have hb0 : b = 0 := by omega
    subst hb0
    obtain ⟨n, rfl⟩ : ∃ n', n = n' + 1 := ⟨n - 1, by omega⟩
    rw [cdF, if_pos lN_00, Nat.gcd_zero_right]
  | succ k ih =>
    intro n a b ha hb hk hn
    have hp : 2 ^ (k + 1) = 2 * 2 ^ k := by rw [Nat.pow_succ, Nat.mul_comm]
    have hp40 : 2 ^ (k + 1) ≤ 2 ^ 40 := Nat.pow_le_pow_right (by decide) hk
    obtain ⟨n, rfl⟩ : ∃ n', n = n' + 2 := ⟨n - 2, by omega⟩
    have hb62 : b < 2 ^ 62 := by omega
    rw [cdF]
    by_cases hb0 : b = 0
    · subst hb0
      rw [if_pos lN_00, Nat.gcd_zero_right]
    · rw [if_neg (fun z => hb0 ((lN_eq0 (by omega)).mp z)), pk_lRem (by omega) (by omega) (by omega)]
      have hc : a % b < b := Nat.mod_lt _ (by omega)
      have hg : Nat.gcd a b = Nat.gcd b (a % b) := by rw [Nat.gcd_comm a b, Nat.gcd_rec, Nat.gcd_comm]
      rw [cdF]
      by_cases hc0 : a % b = 0
      · rw [hc0, if_pos lN_00, hg, hc0, Nat.gcd_zero_right]
      · rw [if_neg (fun z => hc0 ((lN_eq0 (by omega)).mp z)), pk_lRem (by omega) (by omega) (by omega)]
        have hd : b % (a % b) < a % b := Nat.mod_lt _ (by omega)
        have hd2 : b % (a % b) ≤ b - a % b := by
          have h1 : b % (a % b) + a % b * (b / (a % b)) = b := Nat.mod_add_div b (a % b)
          have h2 : 1 ≤ b / (a % b) := (Nat.one_le_div_iff (by omega)).mpr (by omega)
          have h3 : a % b * 1 ≤ a % b * (b / (a % b)) := Nat.mul_le_mul_left _ h2
          omega
        rw [ih n (a % b) (b % (a % b)) (by omega) (by omega) (by omega) (by omega), hg]
        congr 1
        rw [Nat.gcd_comm b (a % b), Nat.gcd_rec (a % b) b, Nat.gcd_comm]
theorem low_nat {A B : Nat} (hA : A < 2 ^ 40) (hB : B < 2 ^ 40) (hB0 : 0 < B) (u : Int32) : lowF (lN A) (lN B) u = lN ((if u = 0 then B else A) / Nat.gcd A B) := by
  have hg0 : 0 < Nat.gcd A B := Nat.gcd_pos_of_pos_right _ hB0
  have hgB : Nat.gcd A B ≤ B := Nat.le_of_dvd hB0 (Nat.gcd_dvd_right A B)
  have e := cd_gcd 40 100 A B (by omega) hB (by decide) (by decide)
  have hpos : (0 : Int64) < lN (Nat.gcd A B) := (pk_lLT (a := 0) (by decide) (by omega)).mpr hg0
  unfold lowF
  rw [e, if_pos hpos]
  split
  · exact pk_lDiv (by omega) hg0 (by omega)
  · exact pk_lDiv (by omega) hg0 (by omega)
theorem bit_01 (x : Int32) : x &&& 1 = 0 ↔ ¬ x &&& 1 = 1 := by
  obtain ⟨j, hj, e⟩ := pk_andE x (m := 1) 1 rfl
  rw [e]
  have : j = 0 ∨ j = 1 := by omega
  rcases this with rfl | rfl
  · exact ⟨fun _ z => absurd z (by decide), fun _ => rfl⟩
  · exact ⟨fun z => absurd z (by decide), fun z => absurd rfl z⟩
theorem share_eq {N : Nat} {Ic Im : mv_I} (h : REL N Ic Im) {j m : Nat} (hm : m ≤ 5) (hj : j < m) (e400 : Ic 400 1 = nI m) (q u : Int32) : (lowF (shF Ic j q m (2 ^ m)) (lN (facN m)) u).toInt32 = nI ((if u = 0 then facN m else mshN Im j q m (2 ^ m)) / Nat.gcd (mshN Im j q m (2 ^ m)) (facN m)) := by
  have up : ∀ i, i < m → Ic (100 + 3 * i) 8 = Im 39 (24 * i + 5) := by
    intro i hi
    have hs : sv Ic (nI i) := by
      show 0 ≤ nI i ∧ nI i ≤ Ic 400 1 - 1
      rw [e400]
      exact mv_upto2 (by omega) hi
    obtain ⟨j', m', hm', hj', ej, cj, -, -, hC⟩ := REL_in h hs
    have : i = j' := (nI_eq (by omega) (by omega)).mp ej
    subst this
    exact hC.1 5 (by decide)
  have hsum : ∀ (set : Int32) (k : Nat), k ≤ m → sumU Ic 0 set k = msU Im set k := by
    intro set k
    induction k with
    | zero => intro _; rfl
    | succ k ih =>
      intro hk
      rw [sumU, msU, ih (by omega), show 100 + 3 * (5 * 0 + k) = 100 + 3 * k by omega, up k (by omega)]
  have hP : ∀ b, (shP Ic j q m b ↔ mshP Im j q m b) := by
    intro b
    unfold shP mshP
    rw [hsum _ m (Nat.le_refl _), up j hj, bit_01]
  have hsh : ∀ b, b ≤ 2 ^ m → shF Ic j q m b = lN (mshN Im j q m b) := by
    intro b
    induction b with
    | zero => intro _; rfl
    | succ b ih =>
      intro hb
      rw [shF, mshN, ih (by omega)]
      by_cases hp : mshP Im j q m b
      · rw [if_pos ((hP b).mpr hp), if_pos hp, lN_mul, lN_add]
      · rw [if_neg (fun z => hp ((hP b).mp z)), if_neg hp, Nat.add_zero]
  have h32 := two_5 m hm
  have hle := mshN_le (I := Im) (q := q) hm hj (2 ^ m) (Nat.le_refl _)
  have hf := facN_5 m hm
  rw [hsh _ (Nat.le_refl _), low_nat (by omega) (by omega) hf.1, lN_i]
/-- how many of the first n bits stand -/
def ctb (b : Nat) : Nat → Nat
  | 0 => 0
  | n + 1 => ctb b n + (if (nI b >>> (nI n &&& 31)) &&& 1 = 1 then 1 else 0)
theorem ctb_le (b : Nat) : ∀ n, ctb b n ≤ n
  | 0 => Nat.le_refl _
  | n + 1 => by
    have := ctb_le b n
    rw [ctb]
    split <;> omega
theorem ctb_pc : ∀ n, n ≤ 6 → ∀ b, b < 2 ^ n → ctb b n = pcS b := by decide +kernel
theorem wg_nat {X : Nat} (hX : X ≤ 10) (b : Nat) : ∀ n, wgF (nI b) (nI X) n = lN (X ^ ctb b n * (10 - X) ^ (n - ctb b n))
  | 0 => rfl
  | n + 1 => by
    have hle := ctb_le b n
    have e10 : (10 : Int32) - nI X = nI (10 - X) := pk_sub (a := 10) hX
    rw [wgF, wg_nat hX b n, ctb]
    by_cases hb : (nI b >>> (nI n &&& 31)) &&& 1 = 1
    · rw [if_pos hb, if_pos hb, nI_l (by omega), lN_mul, Nat.pow_succ, show n + 1 - (ctb b n + 1) = n - ctb b n by omega]
      congr 1
      rw [Nat.mul_right_comm]
    · rw [if_neg hb, if_neg hb, e10, nI_l (by omega), lN_mul, Nat.add_zero, show n + 1 - ctb b n = (n - ctb b n) + 1 by omega, Nat.pow_succ, Nat.mul_assoc]
/-- the class's trial behind t days -/
def cT (v g : Int32) : Nat → mv_I → mv_I
  | 0, T => T
  | t + 1, T => if (g >>> (nI t &&& 31)) &&& 1 = 1 then appI (cT v g t T) 370 (-9) else addI (cT v g t T) 370 v
theorem CR_T {N : Nat} {Tc Tm : mv_I} {s : Nat} (hN : N < 2 ^ 20) (h : CR N Tc 370 Tm 40 (24 * s) s) (v g : Int32) : ∀ t, t < 2 ^ 20 → CR (N + t) (cT v g t Tc) 370 (mlT s v g t Tm) 40 (24 * s) s
  | 0, _ => h
  | t + 1, ht => by
    have ih := CR_T hN h v g t (by omega)
    rw [cT, mlT]
    split
    · exact CR_app hr40 (by omega) ih (-9)
    · exact CR_add hr40 (by omega) ih v
theorem mlR_01 {s : Nat} {v g : Int32} {T : mv_I} : ∀ t, mlR s v g T t = 0 ∨ mlR s v g T t = 1
  | 0 => Or.inl rfl
  | t + 1 => by
    rw [mlR]
    split
    · exact mlR_01 t
    · split
      · exact Or.inr rfl
      · split
        · exact Or.inl rfl
        · exact Or.inr rfl
theorem mlR_up {s : Nat} {v g : Int32} {T : mv_I} {t : Nat} (h : mlR s v g T t = 1) : ∀ r, mlR s v g T (t + r) = 1
  | 0 => h
  | r + 1 => by
    have ih := mlR_up h r
    show mlR s v g T (t + r + 1) = 1
    rw [mlR]
    split
    · exact ih
    · split
      · rfl
      · rw [ih, if_neg (by decide)]
theorem aw_eq {N : Nat} {Tc Tm : mv_I} {s : Nat} (hN : N < 2 ^ 20) (h : CR N Tc 370 Tm 40 (24 * s) s) (v g : Int32) : ∀ r k : Nat, k + r < 2 ^ 20 → mlR s v g Tm k = 0 → awF v g r k (cT v g k Tc) = mlR s v g Tm (k + r) := by
  intro r
  induction r with
  | zero => intro k _ h0; exact h0.symm
  | succ r ih =>
    intro k hk h0
    have e := aK_mK (by omega) (CR_T hN h v g k (by omega)) v
    have i1 := ih (k + 1) (by omega)
    rw [cT, mlR] at i1
    rw [awF, show k + (r + 1) = k + 1 + r by omega]
    by_cases hb : (g >>> (nI k &&& 31)) &&& 1 = 1
    · rw [if_pos hb]
      rw [if_pos hb, if_pos hb] at i1
      exact i1 h0
    · rw [if_neg hb]
      rw [if_neg hb, if_neg hb] at i1
      by_cases ha : mkK (mlT s v g k Tm) 40 (24 * s) s v = 0
      · rw [if_neg ((mkK_pos _ _ _ _ _).mpr ha), if_pos h0] at i1
        rw [if_pos (e.trans ha)]
        exact i1 rfl
      · rw [if_neg (fun z => ha (e.symm.trans z))]
        refine (mlR_up ?_ r).symm
        rw [mlR, if_neg hb, if_pos (Decidable.not_not.mp (fun z => ha ((mkK_pos _ _ _ _ _).mp z)))]
theorem lost_eq {N : Nat} {Ic Im : mv_I} (hN : N < 2 ^ 19) {j n X : Nat} (hj : j < 5) (hC : CR N Ic (100 + 3 * j) Im 39 (24 * j) j) (hn : n ≤ 6) (hX : X ≤ 10) (v u : Int32) : (lowF (lsF Ic (100 + 3 * j) v n (nI X) (2 ^ n)) (wgF 0 0 n) u).toInt32 = nI ((if u = 0 then 10 ^ n else mloN (mlt Im) j v n X (2 ^ n)) / Nat.gcd (mloN (mlt Im) j v n X (2 ^ n)) (10 ^ n)) := by
  have hT := CR_try hj hC
  have hls : ∀ b, b ≤ 2 ^ n → lsF Ic (100 + 3 * j) v n (nI X) b = lN (mloN (mlt Im) j v n X b) := by
    intro b
    induction b with
    | zero => intro _; rfl
    | succ b ih =>
      intro hb
      have ea := aw_eq (by omega) hT v (nI b) n 0 (by omega) rfl
      rw [Nat.zero_add] at ea
      have ea : awF v (nI b) n 0 (copyI Ic 370 (100 + 3 * j)) = mlR j v (nI b) (mlt Im) n := ea
      rw [lsF, mloN, ih (by omega), ea]
      by_cases h0 : mlR j v (nI b) (mlt Im) n = 0
      · rw [if_pos h0, if_pos h0, Nat.add_zero]
      · rw [if_neg h0, if_neg h0, wg_nat hX, ctb_pc n hn b (by omega), lN_add]
  have h64 := two_6 n hn
  have hle := mloN_le (T := mlt Im) (s := j) (v := v) hn hX (2 ^ n) (Nat.le_refl _)
  have ht := ten_6 n hn
  have e0 : wgF 0 0 n = lN (10 ^ n) := by
    have e := wg_nat (X := 0) (by decide) 0 n
    have c0 : ctb 0 n = 0 := by
      rw [ctb_pc n hn 0 (Nat.pow_pos (by decide))]
      rfl
    rw [c0, Nat.pow_zero, Nat.one_mul] at e
    exact e
  rw [hls _ (Nat.le_refl _), e0, low_nat (by omega) (by omega) ht.1, lN_i]
