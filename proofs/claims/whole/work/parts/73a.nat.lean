/-! the evaluator over naturals, each number moved by a power of two: the kernel is quick there -/
def zd (a b c d e : Nat) : Nat → Int := fun t => match t with | 0 => (a : Int) | 1 => b | 2 => c | 3 => d | 4 => e | _ => 0
def znOk (X : Nat) : Bool := and (Nat.ble 4611686017353646081 X) (Nat.ble X 4611686019501129727)
def znAt (M : List (List Nat)) (i j : Nat) : Nat := (M.getD i []).getD j 4611686018427387904
def znOp (P Q la : Nat) : Nat := Nat.sub (Nat.add 4611686018427387904 (Nat.div (Nat.sub P Q) la)) (Nat.div (Nat.sub Q P) la)
def znComb (h la x : Nat) : List Nat → List Nat → List Nat
  | y :: ys, z :: zs => znOp (Nat.add (Nat.mul h y) (Nat.mul 4611686018427387904 (Nat.add x z))) (Nat.add (Nat.mul x z) (Nat.mul 4611686018427387904 (Nat.add h y))) la :: znComb h la x ys zs
  | _, _ => []
def znAll (M : List (List Nat)) : Bool := M.all (fun r => r.all znOk)
def znStep (c : Bool) (p la : Nat) (M : List (List Nat)) : List (List Nat) := (List.range M.length).map (fun r => cond (or (Nat.beq r p) (and c (Nat.ble (Nat.succ r) p))) (M.getD r []) (znComb (znAt M p p) la (znAt M r p) (M.getD r []) (M.getD p [])))
def znRun (c : Bool) : Nat → Nat → Nat → List (List Nat) → Bool × Nat × List (List Nat)
  | 0, _, la, M => (znAll M, la, M)
  | q + 1, p, la, M => match and (znAll M) (Nat.ble 4611686018427387905 (znAt M p p)) with
    | true => znRun c q (p + 1) (Nat.sub (znAt M p p) 4611686018427387904) (znStep c p la M)
    | false => (false, la, M)
def zV (X : Nat) : Int := (X : Int) - 4611686018427387904
def zD (M : List (List Nat)) : zM := M.map (fun R => R.map zV)
theorem znOk_is {X : Nat} (h : znOk X = true) : -1073741824 < zV X ∧ zV X < 1073741824 := by
  unfold znOk at h
  rw [Bool.and_eq_true] at h
  have h1 := Nat.le_of_ble_eq_true h.1
  have h2 := Nat.le_of_ble_eq_true h.2
  unfold zV
  omega
theorem znOp_is {h x y z : Nat} (la : Nat) (hh : znOk h = true) (hx : znOk x = true) (hy : znOk y = true) (hz : znOk z = true) : zV (znOp (Nat.add (Nat.mul h y) (Nat.mul 4611686018427387904 (Nat.add x z))) (Nat.add (Nat.mul x z) (Nat.mul 4611686018427387904 (Nat.add h y))) la) = Int.tdiv (zV h * zV y - zV x * zV z) la := by
  have b1 := mul_sm (znOk_is hh) (znOk_is hy)
  have b2 := mul_sm (znOk_is hx) (znOk_is hz)
  have key : ((Nat.add (Nat.mul h y) (Nat.mul 4611686018427387904 (Nat.add x z)) : Nat) : Int) - ((Nat.add (Nat.mul x z) (Nat.mul 4611686018427387904 (Nat.add h y)) : Nat) : Int) = zV h * zV y - zV x * zV z := by
    show (((h * y + 4611686018427387904 * (x + z) : Nat)) : Int) - ((x * z + 4611686018427387904 * (h + y) : Nat) : Int) = _
    unfold zV
    rw [Int.natCast_add, Int.natCast_add, Int.natCast_mul, Int.natCast_mul, Int.natCast_mul, Int.natCast_mul, Int.sub_mul, Int.mul_sub, Int.mul_sub, Int.sub_mul, Int.mul_sub, Int.mul_sub]
    omega
  generalize Nat.add (Nat.mul h y) (Nat.mul 4611686018427387904 (Nat.add x z)) = P at key ⊢
  generalize Nat.add (Nat.mul x z) (Nat.mul 4611686018427387904 (Nat.add h y)) = Q at key ⊢
  rw [← key]
  show (((4611686018427387904 + (P - Q) / la) - (Q - P) / la : Nat) : Int) - 4611686018427387904 = _
  have d1 : (P - Q) / la ≤ P - Q := Nat.div_le_self _ _
  have d2 : (Q - P) / la ≤ Q - P := Nat.div_le_self _ _
  by_cases hc : Q ≤ P
  · have e : (P : Int) - (Q : Int) = ((P - Q : Nat) : Int) := by omega
    rw [e, show Q - P = 0 by omega, Nat.zero_div, ← Int.ofNat_tdiv]
    generalize (P - Q) / la = u at *
    omega
  · have e : (P : Int) - (Q : Int) = -((Q - P : Nat) : Int) := by omega
    rw [e, show P - Q = 0 by omega, Nat.zero_div, Int.neg_tdiv, ← Int.ofNat_tdiv]
    generalize (Q - P) / la = u at *
    omega
theorem znComb_is {h x : Nat} (la : Nat) (hh : znOk h = true) (hx : znOk x = true) : ∀ R P : List Nat, R.all znOk = true → P.all znOk = true → zComb (zV h) la (zV x) (R.map zV) (P.map zV) = (znComb h la x R P).map zV
  | [], [], _, _ => rfl
  | [], _ :: _, _, _ => rfl
  | _ :: _, [], _, _ => rfl
  | y :: ys, z :: zs, h1, h2 => by
    rw [List.all_cons, Bool.and_eq_true] at h1 h2
    show Int.tdiv (zV h * zV y - zV x * zV z) la :: zComb (zV h) la (zV x) (ys.map zV) (zs.map zV) = zV _ :: (znComb h la x ys zs).map zV
    rw [znComb_is la hh hx ys zs h1.2 h2.2, znOp_is la hh hx h1.1 h2.1]
theorem zD_row (M : List (List Nat)) (i : Nat) : (zD M).getD i [] = (M.getD i []).map zV := by
  unfold zD
  rw [List.getD_eq_getElem?_getD, List.getD_eq_getElem?_getD, List.getElem?_map]
  cases M[i]? <;> rfl
theorem zD_at (M : List (List Nat)) (i j : Nat) : zAt (zD M) i j = zV (znAt M i j) := by
  unfold zAt znAt
  rw [zD_row]
  generalize M.getD i [] = R
  rw [List.getD_eq_getElem?_getD, List.getD_eq_getElem?_getD, List.getElem?_map]
  cases R[j]? <;> rfl
theorem znAll_row {M : List (List Nat)} (h : znAll M = true) (i : Nat) : (M.getD i []).all znOk = true := by
  rw [List.getD_eq_getElem?_getD]
  cases e : M[i]? with
  | none => rfl
  | some R => exact List.all_eq_true.mp h R (List.mem_of_getElem? e)
theorem znAll_at {M : List (List Nat)} (h : znAll M = true) (i j : Nat) : znOk (znAt M i j) = true := by
  have h1 := znAll_row h i
  unfold znAt
  generalize M.getD i [] = R at h1 ⊢
  rw [List.getD_eq_getElem?_getD]
  cases e : R[j]? with
  | none => rfl
  | some x => exact List.all_eq_true.mp h1 x (List.mem_of_getElem? e)
theorem znStep_is {c : Bool} {p la : Nat} {M : List (List Nat)} (h : znAll M = true) : zStep c p (la : Int) (zD M) = zD (znStep c p la M) := by
  unfold zStep znStep
  rw [zD_at]
  have hl : (zD M).length = M.length := List.length_map _
  rw [hl]
  show _ = List.map _ (List.map _ _)
  rw [List.map_map]
  refine List.map_congr_left (fun r _ => ?_)
  rw [zD_at, zD_row, zD_row, znComb_is la (znAll_at h p p) (znAll_at h r p) _ _ (znAll_row h r) (znAll_row h p)]
  show _ = List.map zV (cond _ _ _)
  have hb : (or (Nat.beq r p) (and c (Nat.ble (Nat.succ r) p)) = true) ↔ (r = p ∨ (c = true ∧ r < p)) := by
    rw [Bool.or_eq_true, Bool.and_eq_true, Nat.beq_eq, Nat.ble_eq]
    rfl
  by_cases hc : r = p ∨ (c = true ∧ r < p)
  · rw [if_pos hc, hb.mpr hc]; rfl
  · have hf : or (Nat.beq r p) (and c (Nat.ble (Nat.succ r) p)) = false := by
      rw [Bool.eq_false_iff]; exact fun z => hc (hb.mp z)
    rw [if_neg hc, hf]; rfl
theorem znAll_z {M : List (List Nat)} (h : znAll M = true) : zAll (zD M) = true := by
  refine List.all_eq_true.mpr (fun R hR => ?_)
  obtain ⟨S, hS, rfl⟩ := List.mem_map.mp hR
  refine List.all_eq_true.mpr (fun x hx => ?_)
  obtain ⟨X, hX, rfl⟩ := List.mem_map.mp hx
  have h3 := znOk_is (List.all_eq_true.mp (List.all_eq_true.mp h S hS) X hX)
  unfold zOk
  rw [decide_eq_true h3.1, decide_eq_true h3.2]
  rfl
theorem znRun_is (c : Bool) : ∀ q p la M, (znRun c q p la M).1 = true → zRun c q p (la : Int) (zD M) = (true, ((znRun c q p la M).2.1 : Int), zD (znRun c q p la M).2.2)
  | 0, p, la, M, h => by
    show (zAll (zD M), (la : Int), zD M) = _
    rw [znAll_z h]
    rfl
  | q + 1, p, la, M, h => by
    rw [znRun] at h ⊢
    rw [zRun]
    cases hb : and (znAll M) (Nat.ble 4611686018427387905 (znAt M p p)) with
    | false => rw [hb] at h; exact Bool.noConfusion h
    | true =>
      rw [hb] at h
      rw [Bool.and_eq_true] at hb
      have hp := Nat.le_of_ble_eq_true hb.2
      have hv : zV (znAt M p p) = ((Nat.sub (znAt M p p) 4611686018427387904 : Nat) : Int) := by
        show _ = ((znAt M p p - 4611686018427387904 : Nat) : Int)
        unfold zV
        omega
      have hz : (zAll (zD M) && decide (zAt (zD M) p p ≠ 0)) = true := by
        rw [znAll_z hb.1, zD_at, Bool.true_and]
        refine decide_eq_true ?_
        unfold zV
        omega
      rw [hz]
      show zRun c q (p + 1) (zAt (zD M) p p) (zStep c p la (zD M)) = _
      rw [zD_at, hv, znStep_is hb.1]
      exact znRun_is c q (p + 1) _ _ h
/-- the start squares -/
def znP (x d bd k e : Nat) : Nat := cond (and (Nat.ble (Nat.succ e) bd) (Nat.beq k e)) (Nat.sub x d) x
def znI0 (bd k u : Nat) : Nat := cond (or (Nat.beq k bd) (Nat.beq k u)) 4611686018427387914 4611686018427387904
def znS (up s bd a b c d e k : Nat) : Nat := znP (znP (znP (znP (znP (znI0 bd k up) a bd k (Nat.sub (Nat.sub (Nat.add up 0) 2) s)) b bd k (Nat.sub (Nat.sub (Nat.add up 1) 2) s)) c bd k (Nat.sub (Nat.sub (Nat.add up 2) 2) s)) d bd k (Nat.sub (Nat.sub (Nat.add up 3) 2) s)) e bd k (Nat.sub (Nat.sub (Nat.add up 4) 2) s)
def znP2 (x d bd k e : Nat) : Nat := cond (and (Nat.ble (Nat.succ e) bd) (Nat.beq k (Nat.sub (Nat.sub bd 1) e))) (Nat.sub x d) x
def znT (st s bd a b c d e k : Nat) : Nat := znP2 (znP2 (znP2 (znP2 (znP2 (znI0 bd k (Nat.sub (Nat.sub bd 1) st)) a bd k (Nat.sub (Nat.sub (Nat.add st 0) 2) s)) b bd k (Nat.sub (Nat.sub (Nat.add st 1) 2) s)) c bd k (Nat.sub (Nat.sub (Nat.add st 2) 2) s)) d bd k (Nat.sub (Nat.sub (Nat.add st 3) 2) s)) e bd k (Nat.sub (Nat.sub (Nat.add st 4) 2) s)
def znSq (s bd a b c d e : Nat) : List (List Nat) := (List.range bd).map (fun r => (List.range (bd + 1)).map (fun k => znS r s bd a b c d e k))
def znEq (s bd a b c d e : Nat) : List (List Nat) := (List.range bd).map (fun i => (List.range (bd + 1)).map (fun j => znT (bd - 1 - i) s bd a b c d e j))
theorem znI0_is (bd k u : Nat) : zV (znI0 bd k u) = (if k = bd ∨ k = u then 10 else 0) ∧ 4611686018427387904 ≤ znI0 bd k u := by
  have hb : (or (Nat.beq k bd) (Nat.beq k u) = true) ↔ (k = bd ∨ k = u) := by
    rw [Bool.or_eq_true, Nat.beq_eq, Nat.beq_eq]
  unfold znI0
  by_cases hc : k = bd ∨ k = u
  · rw [if_pos hc, hb.mpr hc]
    exact ⟨rfl, by decide⟩
  · rw [if_neg hc, Bool.eq_false_iff.mpr (fun z => hc (hb.mp z))]
    exact ⟨rfl, by decide⟩
theorem znC_is {x d m : Nat} {y : Int} {P Q : Prop} [Decidable P] [Decidable Q] {p q : Bool} (hp : p = true ↔ P) (hq : q = true ↔ Q) (hd : d < 10) (h : zV x = y ∧ 4611686018427387894 - m ≤ x) (hm : m ≤ 100) : zV (cond (and p q) (Nat.sub x d) x) = (if P ∧ Q then y - (d : Int) else y) ∧ 4611686018427387894 - (m + 10) ≤ cond (and p q) (Nat.sub x d) x := by
  obtain ⟨h1, h2⟩ := h
  have hb : (and p q = true) ↔ (P ∧ Q) := by rw [Bool.and_eq_true, hp, hq]
  by_cases hc : P ∧ Q
  · rw [if_pos hc, hb.mpr hc]
    show zV (x - d) = _ ∧ _ ≤ x - d
    unfold zV at *
    omega
  · rw [if_neg hc, Bool.eq_false_iff.mpr (fun z => hc (hb.mp z))]
    show zV x = _ ∧ _ ≤ x
    omega
theorem znS_is (up s bd k : Nat) {a b c d e : Nat} (ha : a < 10) (hb : b < 10) (hc : c < 10) (hd : d < 10) (he : e < 10) : zV (znS up s bd a b c d e k) = zS up s bd (zd a b c d e) 5 k := by
  have h0 : zV (znI0 bd k up) = zS up s bd (zd a b c d e) 0 k ∧ 4611686018427387894 - 0 ≤ znI0 bd k up := ⟨(znI0_is bd k up).1, by have := (znI0_is bd k up).2; omega⟩
  have hq : ∀ e, Nat.beq k e = true ↔ k = e := fun e => by rw [Nat.beq_eq]
  have hp : ∀ e, Nat.ble (Nat.succ e) bd = true ↔ e < bd := fun e => by rw [Nat.ble_eq]; rfl
  have h1 := znC_is (hp (up + 0 - 2 - s)) (hq (up + 0 - 2 - s)) ha h0 (by decide)
  have h2 := znC_is (hp (up + 1 - 2 - s)) (hq (up + 1 - 2 - s)) hb h1 (by decide)
  have h3 := znC_is (hp (up + 2 - 2 - s)) (hq (up + 2 - 2 - s)) hc h2 (by decide)
  have h4 := znC_is (hp (up + 3 - 2 - s)) (hq (up + 3 - 2 - s)) hd h3 (by decide)
  have h5 := znC_is (hp (up + 4 - 2 - s)) (hq (up + 4 - 2 - s)) he h4 (by decide)
  exact h5.1
theorem znT_is (st s bd k : Nat) {a b c d e : Nat} (ha : a < 10) (hb : b < 10) (hc : c < 10) (hd : d < 10) (he : e < 10) : zV (znT st s bd a b c d e k) = zP st s bd (zd a b c d e) 5 k := by
  have h0 : zV (znI0 bd k (bd - 1 - st)) = zP st s bd (zd a b c d e) 0 k ∧ 4611686018427387894 - 0 ≤ znI0 bd k (bd - 1 - st) := ⟨(znI0_is bd k (bd - 1 - st)).1, by have := (znI0_is bd k (bd - 1 - st)).2; omega⟩
  have hq : ∀ e, Nat.beq k e = true ↔ k = e := fun e => by rw [Nat.beq_eq]
  have hp : ∀ e, Nat.ble (Nat.succ e) bd = true ↔ e < bd := fun e => by rw [Nat.ble_eq]; rfl
  have h1 := znC_is (hp (st + 0 - 2 - s)) (hq (bd - 1 - (st + 0 - 2 - s))) ha h0 (by decide)
  have h2 := znC_is (hp (st + 1 - 2 - s)) (hq (bd - 1 - (st + 1 - 2 - s))) hb h1 (by decide)
  have h3 := znC_is (hp (st + 2 - 2 - s)) (hq (bd - 1 - (st + 2 - 2 - s))) hc h2 (by decide)
  have h4 := znC_is (hp (st + 3 - 2 - s)) (hq (bd - 1 - (st + 3 - 2 - s))) hd h3 (by decide)
  have h5 := znC_is (hp (st + 4 - 2 - s)) (hq (bd - 1 - (st + 4 - 2 - s))) he h4 (by decide)
  exact h5.1
theorem znSq_is (s bd : Nat) {a b c d e : Nat} (ha : a < 10) (hb : b < 10) (hc : c < 10) (hd : d < 10) (he : e < 10) : zD (znSq s bd a b c d e) = zSq s bd (zd a b c d e) := by
  show List.map _ (List.map _ _) = List.map _ _
  rw [List.map_map]
  refine List.map_congr_left (fun r _ => ?_)
  show List.map _ (List.map _ _) = List.map _ _
  rw [List.map_map]
  exact List.map_congr_left (fun k _ => znS_is r s bd k ha hb hc hd he)
theorem znEq_is (s bd : Nat) {a b c d e : Nat} (ha : a < 10) (hb : b < 10) (hc : c < 10) (hd : d < 10) (he : e < 10) : zD (znEq s bd a b c d e) = zEq s bd (zd a b c d e) := by
  show List.map _ (List.map _ _) = List.map _ _
  rw [List.map_map]
  refine List.map_congr_left (fun r _ => ?_)
  show List.map _ (List.map _ _) = List.map _ _
  rw [List.map_map]
  exact List.map_congr_left (fun k _ => znT_is (bd - 1 - r) s bd k ha hb hc hd he)
def znEnd (g e : Bool) (x y u v : Nat) : Bool := and g (and e (and (Nat.ble 4611686018427387905 x) (and (Nat.ble 4611686018427387904 y) (and (Nat.beq u x) (Nat.beq v y)))))
def znChk (s bd a b c d e : Nat) : Bool :=
  match znRun false bd 0 1 (znSq s bd a b c d e), znRun true (bd - 1) 0 1 (znEq s bd a b c d e) with
  | (g, _, G), (e, _, H) => znEnd g e (znAt G 0 0) (znAt G 0 bd) (znAt H (bd - 1) (bd - 1)) (znAt H (bd - 1) bd)
theorem znChk_is {s bd a b c d e : Nat} (ha : a < 10) (hb : b < 10) (hc : c < 10) (hd : d < 10) (he : e < 10) (h : znChk s bd a b c d e = true) : zChk s bd (zd a b c d e) = true := by
  unfold znChk at h
  have e1 := znRun_is false bd 0 1 (znSq s bd a b c d e)
  have e2 := znRun_is true (bd - 1) 0 1 (znEq s bd a b c d e)
  rw [znSq_is s bd ha hb hc hd he] at e1
  rw [znEq_is s bd ha hb hc hd he] at e2
  generalize znRun false bd 0 1 (znSq s bd a b c d e) = g at h e1
  generalize znRun true (bd - 1) 0 1 (znEq s bd a b c d e) = f at h e2
  obtain ⟨g1, g2, G⟩ := g
  obtain ⟨f1, f2, H⟩ := f
  replace h : znEnd g1 f1 (znAt G 0 0) (znAt G 0 bd) (znAt H (bd - 1) (bd - 1)) (znAt H (bd - 1) bd) = true := h
  simp only [znEnd, Bool.and_eq_true, Nat.beq_eq, Nat.ble_eq] at h
  obtain ⟨h1, h2, h3, h4, h5, h6⟩ := h
  have k1 : zRun false bd 0 1 (zSq s bd (zd a b c d e)) = (true, (g2 : Int), zD G) := e1 h1
  have k2 : zRun true (bd - 1) 0 1 (zEq s bd (zd a b c d e)) = (true, (f2 : Int), zD H) := e2 h2
  unfold zChk
  rw [k1, k2]
  show (true && true && decide (0 < zAt (zD G) 0 0) && decide (0 ≤ zAt (zD G) 0 bd) && decide (zAt (zD H) (bd - 1) (bd - 1) = zAt (zD G) 0 0) && decide (zAt (zD H) (bd - 1) bd = zAt (zD G) 0 bd)) = true
  rw [zD_at, zD_at, zD_at, zD_at, h5, h6, decide_eq_true rfl, decide_eq_true rfl, decide_eq_true (show 0 < zV (znAt G 0 0) by unfold zV; omega), decide_eq_true (show 0 ≤ zV (znAt G 0 bd) by unfold zV; omega)]
  rfl
/-- the same without compiled recursion: quicker still in the kernel -/
noncomputable def kAll (M : List (List Nat)) : Bool := List.rec (motive := fun _ => Bool) true (fun r _ ih => and (List.rec (motive := fun _ => Bool) true (fun x _ ih2 => and (znOk x) ih2) r) ih) M
noncomputable def kComb (h la x : Nat) (R : List Nat) : List Nat → List Nat := List.rec (motive := fun _ => List Nat → List Nat) (fun _ => []) (fun y _ ih P => List.rec (motive := fun _ => List Nat) [] (fun z zs _ => znOp (Nat.add (Nat.mul h y) (Nat.mul 4611686018427387904 (Nat.add x z))) (Nat.add (Nat.mul x z) (Nat.mul 4611686018427387904 (Nat.add h y))) la :: ih zs) P) R
noncomputable def kGet (R : List Nat) : Nat → Nat := List.rec (motive := fun _ => Nat → Nat) (fun _ => 4611686018427387904) (fun x _ ih j => Nat.rec (motive := fun _ => Nat) x (fun k _ => ih k) j) R
noncomputable def kRow (M : List (List Nat)) : Nat → List Nat := List.rec (motive := fun _ => Nat → List Nat) (fun _ => []) (fun x _ ih j => Nat.rec (motive := fun _ => List Nat) x (fun k _ => ih k) j) M
noncomputable def kRows (c : Bool) (p h la : Nat) (P : List Nat) (M : List (List Nat)) : Nat → List (List Nat) := List.rec (motive := fun _ => Nat → List (List Nat)) (fun _ => []) (fun R _ ih r => cond (or (Nat.beq r p) (and c (Nat.ble (Nat.succ r) p))) R (kComb h la (kGet R p) R P) :: ih (Nat.succ r)) M
noncomputable def kRun (c : Bool) (q : Nat) : Nat → Nat → List (List Nat) → Bool × Nat × List (List Nat) := Nat.rec (motive := fun _ => Nat → Nat → List (List Nat) → Bool × Nat × List (List Nat)) (fun _ la M => (kAll M, la, M)) (fun _ ih p la M => cond (and (kAll M) (Nat.ble 4611686018427387905 (kGet (kRow M p) p))) (ih (Nat.succ p) (Nat.sub (kGet (kRow M p) p) 4611686018427387904) (kRows c p (kGet (kRow M p) p) la (kRow M p) M 0)) (false, la, M)) q
theorem kAll_eq : ∀ M : List (List Nat), kAll M = znAll M
  | [] => rfl
  | r :: rs => by
    show and (List.rec (motive := fun _ => Bool) true (fun x _ ih2 => and (znOk x) ih2) r) (kAll rs) = List.all (r :: rs) _
    have e : ∀ r : List Nat, List.rec (motive := fun _ => Bool) true (fun x _ ih2 => and (znOk x) ih2) r = r.all znOk := by
      intro r
      induction r with
      | nil => rfl
      | cons x xs ih => exact (congrArg (and (znOk x)) ih).trans List.all_cons.symm
    rw [List.all_cons, e, kAll_eq rs]
    rfl
theorem kComb_eq (h la x : Nat) : ∀ R P : List Nat, kComb h la x R P = znComb h la x R P
  | [], [] => rfl
  | [], _ :: _ => rfl
  | _ :: _, [] => rfl
  | y :: ys, z :: zs => by
    have e := kComb_eq h la x ys zs
    show znOp _ _ la :: kComb h la x ys zs = znOp _ _ la :: znComb h la x ys zs
    rw [e]
theorem kGet_eq : ∀ (R : List Nat) (j : Nat), kGet R j = R.getD j 4611686018427387904
  | [], _ => rfl
  | _ :: _, 0 => rfl
  | x :: xs, j + 1 => by
    have e := kGet_eq xs j
    rw [List.getD_cons_succ]
    exact e
theorem kRow_eq : ∀ (M : List (List Nat)) (j : Nat), kRow M j = M.getD j []
  | [], _ => rfl
  | _ :: _, 0 => rfl
  | x :: xs, j + 1 => by
    have e := kRow_eq xs j
    rw [List.getD_cons_succ]
    exact e
theorem kRows_eq (c : Bool) (p h la : Nat) (P : List Nat) : ∀ (M : List (List Nat)) (r : Nat), kRows c p h la P M r = (List.range M.length).map (fun i => cond (or (Nat.beq (r + i) p) (and c (Nat.ble (Nat.succ (r + i)) p))) (M.getD i []) (znComb h la ((M.getD i []).getD p 4611686018427387904) (M.getD i []) P))
  | [], _ => rfl
  | R :: Rs, r => by
    have e := kRows_eq c p h la P Rs (Nat.succ r)
    rw [List.length_cons, List.range_succ_eq_map, List.map_cons, List.map_map]
    show cond (or (Nat.beq r p) (and c (Nat.ble (Nat.succ r) p))) R (kComb h la (kGet R p) R P) :: kRows c p h la P Rs (Nat.succ r) = _
    rw [e, kComb_eq, kGet_eq]
    refine congrArg (cond (or (Nat.beq r p) (and c (Nat.ble (Nat.succ r) p))) R (znComb h la (R.getD p 4611686018427387904) R P) :: ·) ?_
    refine List.map_congr_left (fun i _ => ?_)
    rw [Function.comp_apply, List.getD_cons_succ, show Nat.succ r + i = r + Nat.succ i by omega]
theorem kRun_eq (c : Bool) : ∀ q p la M, kRun c q p la M = znRun c q p la M
  | 0, p, la, M => by
    show (kAll M, la, M) = (znAll M, la, M)
    rw [kAll_eq]
  | q + 1, p, la, M => by
    show cond (and (kAll M) (Nat.ble 4611686018427387905 (kGet (kRow M p) p))) (kRun c q (Nat.succ p) (Nat.sub (kGet (kRow M p) p) 4611686018427387904) (kRows c p (kGet (kRow M p) p) la (kRow M p) M 0)) (false, la, M) = _
    rw [kAll_eq, kRun_eq c q, kRows_eq, kGet_eq, kRow_eq]
    have e : (List.range M.length).map (fun i => cond (or (Nat.beq (0 + i) p) (and c (Nat.ble (Nat.succ (0 + i)) p))) (M.getD i []) (znComb ((M.getD p []).getD p 4611686018427387904) la ((M.getD i []).getD p 4611686018427387904) (M.getD i []) (M.getD p []))) = znStep c p la M := by
      refine List.map_congr_left (fun i _ => ?_)
      rw [Nat.zero_add]
      rfl
    rw [e]
    show cond (and (znAll M) (Nat.ble 4611686018427387905 (znAt M p p))) (znRun c q (p + 1) (Nat.sub (znAt M p p) 4611686018427387904) (znStep c p la M)) (false, la, M) = _
    rw [znRun]
    cases and (znAll M) (Nat.ble 4611686018427387905 (znAt M p p)) with
    | true => rfl
    | false => rfl
noncomputable def kFin (bd : Nat) (g e : Bool × Nat × List (List Nat)) : Bool := znEnd g.1 e.1 (kGet (kRow g.2.2 0) 0) (kGet (kRow g.2.2 0) bd) (kGet (kRow e.2.2 (Nat.sub bd 1)) (Nat.sub bd 1)) (kGet (kRow e.2.2 (Nat.sub bd 1)) bd)
noncomputable def kChk (s bd a b c d e : Nat) : Bool := kFin bd (kRun false bd 0 1 (znSq s bd a b c d e)) (kRun true (Nat.sub bd 1) 0 1 (znEq s bd a b c d e))
theorem kChk_is {s bd a b c d e : Nat} (ha : a < 10) (hb : b < 10) (hc : c < 10) (hd : d < 10) (he : e < 10) (h : kChk s bd a b c d e = true) : zChk s bd (zd a b c d e) = true := by
  refine znChk_is ha hb hc hd he ?_
  unfold kChk kFin at h
  rw [kRun_eq, kRun_eq, kGet_eq, kGet_eq, kGet_eq, kGet_eq, kRow_eq, kRow_eq] at h
  exact h
