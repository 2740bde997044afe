/-! THE MACHINE SEEN AS A PREDICATE TRANSFORMER: values and cells by logical numbers; the cells' shape is fixed (mv_lay, mv_rf), their whole numbers are two functions I and J. mv_step: what one instruction asks; mv_V: the least predicate closed under it. Nothing here speaks of the launch. -/
abbrev mv_I : Type := Nat → Nat → Int32
abbrev mv_J : Type := Nat → Nat → Int64
abbrev mv_L : Type := List (Nat × Value)
abbrev mv_G : Type := va_G × (Nat → Nat) × (Nat → ClassId)
abbrev mv_E : Type := Nat × Instr × Nat × Int32 × Int64 × Nat × Nat
abbrev mv_e (pc : Nat) (i : Instr) (nx a b : Nat) : mv_E := (pc, i, nx, 0, 0, a, b)
abbrev mv_ev (pc : Nat) (i : Instr) (nx : Nat) (v : Int32) (a : Nat) : mv_E := (pc, i, nx, v, 0, a, 0)
abbrev mv_ew (pc : Nat) (i : Instr) (nx : Nat) (w : Int64) : mv_E := (pc, i, nx, 0, w, 0, 0)
/-- a method: name, bytes, locals, answer, its class, how many values a call takes, frames, words -/
abbrev mv_M : Type := MethodName × ByteArray × Nat × Option FieldType × Nat × Nat × Nat × Nat
abbrev mv_SP : Type := (List Value → mv_I → mv_J → Prop) × (List Value → mv_I → mv_J → Option Value → mv_I → mv_J → Prop)
abbrev mv_X : Type := Nat → mv_L → List Value → mv_I → mv_J → Prop
abbrev mv_K : Type := Option Value → mv_I → mv_J → Prop
-- the cells: 1 an object of a class, 2 int row, 3 boolean row, 4 long row, 5 row of objects, 6 row of long rows; 0 none
def mv_small : List (Nat × Nat × Nat) := [(1, 6, 0), (1, 5, 0), (2, 80, 0), (1, 0, 0), (5, 14, 2), (5, 2, 2), (3, 2, 0), (5, 6, 4), (1, 4, 0), (1, 4, 0), (1, 4, 0), (1, 4, 0), (1, 4, 0), (1, 4, 0), (1, 3, 0), (6, 6, 0), (4, 7, 0), (4, 7, 0), (4, 7, 0), (4, 7, 0), (4, 7, 0), (4, 7, 0), (0, 0, 0), (0, 0, 0), (0, 0, 0), (0, 0, 0), (0, 0, 0), (0, 0, 0), (0, 0, 0), (0, 0, 0), (1, 7, 0), (2, 80, 0), (2, 5, 0), (2, 25, 0), (2, 5, 0), (2, 5, 0), (2, 25, 0), (2, 5, 0), (2, 121, 0), (2, 121, 0), (2, 121, 0), (2, 1694, 0), (2, 242, 0), (3, 2, 0), (2, 6, 0), (2, 6, 0), (2, 6, 0), (2, 6, 0), (4, 42, 0)]
def mv_lay (k : Nat) : Nat × Nat × Nat := match Nat.blt k 49 with
  | true => mv_small.getD k (0, 0, 0)
  | false => match Nat.ble 100 k && Nat.blt k 373 with
    | true => (match (k - 100) % 3 with | 0 => (1, 1, 0) | 1 => (2, 5, 0) | _ => (2, 12, 0))
    | false => match Nat.ble 400 k && Nat.blt k 436 with
      | true => (match k % 2 with | 0 => (1, 2, 0) | _ => (5, 5, 1))
      | false => (0, 0, 0)
/-- the series c (0 to 89: five in each of the eighteen groups; 90: the trial), its season, its past -/
abbrev mv_ch (c : Nat) : Nat := 100 + 3 * c
/-- the group g: 0 now, 1 to 14 before, 15 and 16 slots, 17 trials -/
abbrev mv_gr (g : Nat) : Nat := 400 + 2 * g
def mv_rf0 : List (Option Nat) := [some 1, some 400, some 3, some 5, some 6, some 7, none, none, some 370, some 434, some 14]
def mv_rf30 : List (Option Nat) := [none, some 31, none, none, none, some 32, some 33, some 34, none, some 35, some 36, some 37, some 38, some 39, some 40, some 41, none, some 42, some 43, none, some 44, some 45, some 46, some 47, none, some 48]
/-- the references: the field j of the cell k, the place j of the row k -/
def mv_rf (k j : Nat) : Option Nat := match Nat.blt k 49 with
  | true => (match k with
    | 0 => mv_rf0.getD j none
    | 1 => (match j with | 0 => some 2 | _ => none)
    | 3 => (match j with | 0 => some 4 | _ => none)
    | 4 => (match Nat.blt j 14 with | true => some (402 + 2 * j) | false => none)
    | 5 => (match Nat.blt j 2 with | true => some (430 + 2 * j) | false => none)
    | 7 => (match Nat.blt j 6 with | true => some (8 + j) | false => none)
    | 14 => (match j with | 0 => some 15 | _ => none)
    | 15 => (match Nat.blt j 6 with | true => some (16 + j) | false => none)
    | 30 => mv_rf30.getD j none
    | _ => none)
  | false => match Nat.blt k 400 with
    | true => (match (k - 100) % 3 with | 0 => (match j with | 5 => some (k + 1) | 14 => some (k + 2) | _ => none) | _ => none)
    | false => (match k % 2 with | 0 => (match j with | 0 => some (k + 1) | _ => none) | _ => (match Nat.blt j 5 with | true => some (100 + 15 * ((k - 401) / 2) + 3 * j) | false => none))
-- the classes: the field's kind 0 int, 1 boolean, 2 long, 3 reference
def mv_cl : List vw_C := [(RX0, TX0, 3), (RX1, TX1, 16), (RX2, TX2, 3), (RX3, TX3, 3), (RX4, TX4, 4), (RX5, TX5, 2), (RX6, TX6, 11), (RX7, TX7, 26)]
def mv_fts : List (List Nat) := [[3, 0, 0], [0, 0, 0, 0, 0, 3, 0, 0, 0, 0, 0, 0, 0, 0, 3, 0], [3, 0, 0], [3, 2, 2], [0, 0, 0, 1], [3, 0], [3, 3, 3, 3, 3, 3, 0, 2, 3, 3, 3], [0, 3, 0, 0, 0, 3, 3, 3, 0, 3, 3, 3, 3, 3, 3, 3, 0, 3, 3, 0, 3, 3, 3, 3, 2, 3]]
def mv_ft (c j : Nat) : Nat := (mv_fts.getD c []).getD j 0
def mv_nf (c : Nat) : Nat := (mv_fts.getD c []).length
def mv_si (I : mv_I) (k j : Nat) (x : Int32) : mv_I := fun a b => if a = k ∧ b = j then x else I a b
def mv_sj (J : mv_J) (k j : Nat) (x : Int64) : mv_J := fun a b => if a = k ∧ b = j then x else J a b
def mv_sr (I : mv_I) (k : Nat) (f : Nat → Int32) : mv_I := fun a => if a = k then f else I a
-- values seen from outside
def mv_z (ad : Nat → Nat) : Value → Value
  | .ref k => .ref (ad k)
  | v => v
def mv_fv (ad : Nat → Nat) (I : mv_I) (J : mv_J) (k c j : Nat) : Value := match mv_ft c j with
  | 2 => .long (J k j)
  | 3 => va_rf ((mv_rf k j).map ad)
  | _ => .int (I k j)
def mv_cell (G : mv_G) (I : mv_I) (J : mv_J) (k : Nat) : va_E := match mv_lay k with
  | (1, c, _) => .inr (c, (List.range (mv_nf c)).map (mv_fv G.2.1 I J k c))
  | (2, n, _) => .inl (G.2.2 0, (n, .inl (I k)))
  | (3, n, _) => .inl (G.2.2 1, (n, .inl (I k)))
  | (4, n, _) => .inl (G.2.2 2, (n, .inr (.inl (J k))))
  | (5, n, t) => .inl (G.2.2 (10 + t), (n, .inr (.inr (.inr (.inr (fun i => (mv_rf k i).map G.2.1))))))
  | (_, n, _) => .inl (G.2.2 3, (n, .inr (.inr (.inr (.inr (fun i => (mv_rf k i).map G.2.1))))))
def mv_ids : List Nat := (List.range 440).filter (fun k => (mv_lay k).1 != 0)
def mv_ws (G : mv_G) (I : mv_I) (J : mv_J) : va_W := mv_ids.map (fun k => (G.2.1 k, mv_cell G I J k))
def mv_tys (G : mv_G) : List (ClassId × FieldType) := [(G.2.2 0, .int), (G.2.2 1, .boolean), (G.2.2 2, .long), (G.2.2 11, .object RX1), (G.2.2 12, .object RX2), (G.2.2 14, .object RX4), (G.2.2 3, .array .long)]
-- locals
def mv_lget : mv_L → Nat → Option Value
  | [], _ => none
  | (j, v) :: r, i => match Nat.beq i j with
    | true => some v
    | false => mv_lget r i
def mv_ins : mv_L → Nat → Value → mv_L
  | [], i, v => [(i, v)]
  | (j, w) :: r, i, v => match Nat.blt j i with
    | true => (j, w) :: mv_ins r i v
    | false => (i, v) :: (j, w) :: r
def mv_set1 (l : mv_L) (i : Nat) (v : Value) : mv_L := mv_ins (l.filter (fun q => !(q.1 == i) && !(q.1 + 1 == i && q.2.category == 2))) i v
def mv_set2 (l : mv_L) (i : Nat) (v : Value) : mv_L := mv_ins (l.filter (fun q => !(q.1 == i) && (!(q.1 == i + 1) && !(q.1 + 1 == i && q.2.category == 2)))) i v
def mv_gi (l : mv_L) (i : Nat) (k : Int32 → Prop) : Prop := match mv_lget l i with
  | some (.int x) => k x
  | _ => False
def mv_gl (l : mv_L) (i : Nat) (k : Int64 → Prop) : Prop := match mv_lget l i with
  | some (.long x) => k x
  | _ => False
def mv_ga (l : mv_L) (i : Nat) (k : Value → Prop) : Prop := match mv_lget l i with
  | some (.ref x) => k (.ref x)
  | some .null => k .null
  | _ => False
-- the stack
def mv_i1 (st : List Value) (k : Int32 → List Value → Prop) : Prop := match st with
  | .int x :: r => k x r
  | _ => False
def mv_i2 (st : List Value) (k : Int32 → Int32 → List Value → Prop) : Prop := match st with
  | .int y :: .int x :: r => k x y r
  | _ => False
def mv_l1 (st : List Value) (k : Int64 → List Value → Prop) : Prop := match st with
  | .long x :: r => k x r
  | _ => False
def mv_l2 (st : List Value) (k : Int64 → Int64 → List Value → Prop) : Prop := match st with
  | .long y :: .long x :: r => k x y r
  | _ => False
def mv_li (st : List Value) (k : Int64 → Int32 → List Value → Prop) : Prop := match st with
  | .int y :: .long x :: r => k x y r
  | _ => False
def mv_a1 (st : List Value) (k : Nat → List Value → Prop) : Prop := match st with
  | .ref o :: r => k o r
  | _ => False
def mv_ai (st : List Value) (k : Nat → Int32 → List Value → Prop) : Prop := match st with
  | .int i :: .ref o :: r => k o i r
  | _ => False
def mv_aii (st : List Value) (k : Nat → Int32 → Int32 → List Value → Prop) : Prop := match st with
  | .int x :: .int i :: .ref o :: r => k o i x r
  | _ => False
def mv_ail (st : List Value) (k : Nat → Int32 → Int64 → List Value → Prop) : Prop := match st with
  | .long x :: .int i :: .ref o :: r => k o i x r
  | _ => False
def mv_pi (st : List Value) (k : Nat → Int32 → List Value → Prop) : Prop := match st with
  | .int x :: .ref o :: r => k o x r
  | _ => False
def mv_pl (st : List Value) (k : Nat → Int64 → List Value → Prop) : Prop := match st with
  | .long x :: .ref o :: r => k o x r
  | _ => False
def mv_cpy (st : List Value) (k : Nat → Int32 → Nat → Int32 → Int32 → List Value → Prop) : Prop := match st with
  | .int n :: .int dp :: .ref d :: .int sp :: .ref o :: r => k o sp d dp n r
  | _ => False
def mv_sw : List (Int32 × Nat) → Int32 → (Nat → Prop) → Prop → Prop
  | [], _, _, d => d
  | (c, t) :: l, x, k, d => (x = c → k t) ∧ (¬ x = c → mv_sw l x k d)
def mv_cat1 : Value → Bool
  | .int _ => true
  | .ref _ => true
  | .null => true
  | _ => false
def mv_sum (st : List Value) : Nat := (st.map fun v => v.category).sum
def mv_okc (b : Nat) (st : List Value) : Bool := Nat.ble b st.length && Nat.ble (mv_sum (st.drop b)) 8
/-- one instruction; k: the class of the receiver of a call (9: none); xs of the script: I 999, its length: I 998 0 -/
def mv_step (ow : Nat → Nat) (sw : Nat → List (Int32 × Nat)) (cs : Nat → mv_SP) (K : mv_K) (X : mv_X) (e : mv_E) (lv : mv_L) (st : List Value) (I : mv_I) (J : mv_J) : Prop :=
  match e with
  | (_, ins, nx, v, w, a, b) => match ins with
    | .iconst _ => X nx lv (.int v :: st) I J
    | .bipush _ => X nx lv (.int v :: st) I J
    | .sipush _ => X nx lv (.int v :: st) I J
    | .ldc _ => X nx lv (.int v :: st) I J
    | .ldc_w _ => X nx lv (.int v :: st) I J
    | .lconst _ => X nx lv (.long w :: st) I J
    | .ldc2_w _ => X nx lv (.long w :: st) I J
    | .aconst_null => X nx lv (.null :: st) I J
    | .iload _ => mv_gi lv a (fun x => X nx lv (.int x :: st) I J)
    | .iload_n _ => mv_gi lv a (fun x => X nx lv (.int x :: st) I J)
    | .lload _ => mv_gl lv a (fun x => X nx lv (.long x :: st) I J)
    | .lload_n _ => mv_gl lv a (fun x => X nx lv (.long x :: st) I J)
    | .aload _ => mv_ga lv a (fun x => X nx lv (x :: st) I J)
    | .aload_n _ => mv_ga lv a (fun x => X nx lv (x :: st) I J)
    | .istore _ => mv_i1 st (fun x r => X nx (mv_set1 lv a (.int x)) r I J)
    | .istore_n _ => mv_i1 st (fun x r => X nx (mv_set1 lv a (.int x)) r I J)
    | .lstore _ => mv_l1 st (fun x r => X nx (mv_set2 lv a (.long x)) r I J)
    | .lstore_n _ => mv_l1 st (fun x r => X nx (mv_set2 lv a (.long x)) r I J)
    | .astore _ => (match st with
      | .ref o :: r => X nx (mv_set1 lv a (.ref o)) r I J
      | .null :: r => X nx (mv_set1 lv a .null) r I J
      | _ => False)
    | .astore_n _ => (match st with
      | .ref o :: r => X nx (mv_set1 lv a (.ref o)) r I J
      | .null :: r => X nx (mv_set1 lv a .null) r I J
      | _ => False)
    | .iinc _ _ => mv_gi lv a (fun x => X nx (mv_set1 lv a (.int (x + v))) st I J)
    | .iadd => mv_i2 st (fun x y r => X nx lv (.int (x + y) :: r) I J)
    | .isub => mv_i2 st (fun x y r => X nx lv (.int (x - y) :: r) I J)
    | .imul => mv_i2 st (fun x y r => X nx lv (.int (x * y) :: r) I J)
    | .iand => mv_i2 st (fun x y r => X nx lv (.int (x &&& y) :: r) I J)
    | .ior => mv_i2 st (fun x y r => X nx lv (.int (x ||| y) :: r) I J)
    | .idiv => mv_i2 st (fun x y r => ¬ y = 0 ∧ X nx lv (.int (x / y) :: r) I J)
    | .irem => mv_i2 st (fun x y r => ¬ y = 0 ∧ X nx lv (.int (x - x / y * y) :: r) I J)
    | .ishl => mv_i2 st (fun x y r => X nx lv (.int (x <<< (y &&& 31)) :: r) I J)
    | .ishr => mv_i2 st (fun x y r => X nx lv (.int (x >>> (y &&& 31)) :: r) I J)
    | .iushr => mv_i2 st (fun x y r => X nx lv (.int ((x.toUInt32 >>> (y.toUInt32 &&& Int32.toUInt32 31)).toInt32) :: r) I J)
    | .ladd => mv_l2 st (fun x y r => X nx lv (.long (x + y) :: r) I J)
    | .lsub => mv_l2 st (fun x y r => X nx lv (.long (x - y) :: r) I J)
    | .lmul => mv_l2 st (fun x y r => X nx lv (.long (x * y) :: r) I J)
    | .land => mv_l2 st (fun x y r => X nx lv (.long (x &&& y) :: r) I J)
    | .lor => mv_l2 st (fun x y r => X nx lv (.long (x ||| y) :: r) I J)
    | .ldiv => mv_l2 st (fun x y r => ¬ y = 0 ∧ X nx lv (.long (x / y) :: r) I J)
    | .lrem => mv_l2 st (fun x y r => ¬ y = 0 ∧ X nx lv (.long (x - x / y * y) :: r) I J)
    | .lneg => mv_l1 st (fun x r => X nx lv (.long (-x) :: r) I J)
    | .lcmp => mv_l2 st (fun x y r => X nx lv (.int (lg_cmp x y) :: r) I J)
    | .lshl => mv_li st (fun x y r => X nx lv (.long (x <<< (y.toInt64 &&& 63)) :: r) I J)
    | .lushr => mv_li st (fun x y r => X nx lv (.long ((x.toUInt64 >>> (y.toInt64.toUInt64 &&& Int64.toUInt64 63)).toInt64) :: r) I J)
    | .i2l => mv_i1 st (fun x r => X nx lv (.long x.toInt64 :: r) I J)
    | .l2i => mv_l1 st (fun x r => X nx lv (.int x.toInt32 :: r) I J)
    | .dup => (match st with
      | x :: r => mv_cat1 x = true ∧ X nx lv (x :: x :: r) I J
      | _ => False)
    | .dup2 => (match st with
      | .long x :: r => X nx lv (.long x :: .long x :: r) I J
      | .int x :: .ref o :: r => X nx lv (.int x :: .ref o :: .int x :: .ref o :: r) I J
      | _ => False)
    | .pop => (match st with
      | x :: r => mv_cat1 x = true ∧ X nx lv r I J
      | _ => False)
    | .ifCond .eq _ => mv_i1 st (fun x r => (x = 0 → X a lv r I J) ∧ (¬ x = 0 → X nx lv r I J))
    | .ifCond .ne _ => mv_i1 st (fun x r => (¬ x = 0 → X a lv r I J) ∧ (x = 0 → X nx lv r I J))
    | .ifCond .lt _ => mv_i1 st (fun x r => (x < 0 → X a lv r I J) ∧ (¬ x < 0 → X nx lv r I J))
    | .ifCond .ge _ => mv_i1 st (fun x r => (¬ x < 0 → X a lv r I J) ∧ (x < 0 → X nx lv r I J))
    | .ifCond .gt _ => mv_i1 st (fun x r => (0 < x → X a lv r I J) ∧ (¬ 0 < x → X nx lv r I J))
    | .ifCond .le _ => mv_i1 st (fun x r => (¬ 0 < x → X a lv r I J) ∧ (0 < x → X nx lv r I J))
    | .if_icmp .eq _ => mv_i2 st (fun x y r => (x = y → X a lv r I J) ∧ (¬ x = y → X nx lv r I J))
    | .if_icmp .ne _ => mv_i2 st (fun x y r => (¬ x = y → X a lv r I J) ∧ (x = y → X nx lv r I J))
    | .if_icmp .lt _ => mv_i2 st (fun x y r => (x < y → X a lv r I J) ∧ (¬ x < y → X nx lv r I J))
    | .if_icmp .ge _ => mv_i2 st (fun x y r => (¬ x < y → X a lv r I J) ∧ (x < y → X nx lv r I J))
    | .if_icmp .gt _ => mv_i2 st (fun x y r => (y < x → X a lv r I J) ∧ (¬ y < x → X nx lv r I J))
    | .if_icmp .le _ => mv_i2 st (fun x y r => (¬ y < x → X a lv r I J) ∧ (y < x → X nx lv r I J))
    | .goto _ => X a lv st I J
    | .ifnull _ => (match st with
      | .ref _ :: r => X nx lv r I J
      | .null :: r => X a lv r I J
      | _ => False)
    | .ifnonnull _ => (match st with
      | .ref _ :: r => X a lv r I J
      | .null :: r => X nx lv r I J
      | _ => False)
    | .tableswitch _ _ _ _ => mv_i1 st (fun x r => mv_sw (sw b) x (fun t => X t lv r I J) (X a lv r I J))
    | .lookupswitch _ _ => mv_i1 st (fun x r => mv_sw (sw b) x (fun t => X t lv r I J) (X a lv r I J))
    | .getfield _ => mv_a1 st (fun o r => mv_lay o = (1, a, 0) ∧ (match mv_ft a b with
      | 2 => X nx lv (.long (J o b) :: r) I J
      | 3 => ∃ q, mv_rf o b = some q ∧ X nx lv (.ref q :: r) I J
      | _ => X nx lv (.int (I o b) :: r) I J))
    | .putfield _ => (match mv_ft a b with
      | 0 => mv_pi st (fun o x r => mv_lay o = (1, a, 0) ∧ X nx lv r (mv_si I o b x) J)
      | 1 => mv_pi st (fun o x r => mv_lay o = (1, a, 0) ∧ (x = 0 ∨ x = 1) ∧ X nx lv r (mv_si I o b x) J)
      | 2 => mv_pl st (fun o x r => mv_lay o = (1, a, 0) ∧ X nx lv r I (mv_sj J o b x))
      | _ => False)
    | .arraylength => mv_a1 st (fun o r => o = 999 ∧ X nx lv (.int (I 998 0) :: r) I J)
    | .iaload => (match a with
      | 0 => mv_ai st (fun o i r => ∃ n, mv_lay o = (2, n, 0) ∧ vp_in i n ∧ X nx lv (.int (I o i.toNatClampNeg) :: r) I J)
      | _ => mv_ai st (fun o i r => o = 999 ∧ vp_in i (I 998 0).toNatClampNeg ∧ X nx lv (.int (I 999 i.toNatClampNeg) :: r) I J))
    | .iastore => mv_aii st (fun o i x r => ∃ n, mv_lay o = (2, n, 0) ∧ vp_in i n ∧ X nx lv r (mv_si I o i.toNatClampNeg x) J)
    | .baload => mv_ai st (fun o i r => ∃ n, mv_lay o = (3, n, 0) ∧ vp_in i n ∧ X nx lv (.int (I o i.toNatClampNeg) :: r) I J)
    | .bastore => mv_aii st (fun o i x r => ∃ n, mv_lay o = (3, n, 0) ∧ vp_in i n ∧ (x = 0 ∨ x = 1) ∧ X nx lv r (mv_si I o i.toNatClampNeg x) J)
    | .laload => mv_ai st (fun o i r => ∃ n, mv_lay o = (4, n, 0) ∧ vp_in i n ∧ X nx lv (.long (J o i.toNatClampNeg) :: r) I J)
    | .lastore => mv_ail st (fun o i x r => ∃ n, mv_lay o = (4, n, 0) ∧ vp_in i n ∧ X nx lv r I (mv_sj J o i.toNatClampNeg x))
    | .aaload => (match a with
      | 5 => mv_ai st (fun o i r => ∃ n, mv_lay o = (5, n, b) ∧ vp_in i n ∧ ∃ q, mv_rf o i.toNatClampNeg = some q ∧ X nx lv (.ref q :: r) I J)
      | _ => mv_ai st (fun o i r => ∃ n, mv_lay o = (6, n, 0) ∧ vp_in i n ∧ ∃ q, mv_rf o i.toNatClampNeg = some q ∧ X nx lv (.ref q :: r) I J))
    | .invokevirtual _ => (match (st.take b).reverse with
      | .ref o :: as => mv_okc b st = true ∧ mv_lay o = (1, ow a, 0) ∧ (cs a).1 (.ref o :: as) I J ∧ ∀ r I' J', (cs a).2 (.ref o :: as) I J r I' J' → X nx lv (r.toList ++ st.drop b) I' J'
      | _ => False)
    | .invokestatic _ => (match Nat.beq a 900 with
      | true => mv_cpy st (fun o sp d dp n r => r = [] ∧ ∃ n0 n1, mv_lay o = (2, n0, 0) ∧ mv_lay d = (2, n1, 0) ∧ ¬ sp < 0 ∧ ¬ dp < 0 ∧ ¬ n < 0 ∧ sp.toNatClampNeg + n.toNatClampNeg ≤ n0 ∧ dp.toNatClampNeg + n.toNatClampNeg ≤ n1 ∧ X nx lv r (mv_sr I d (va_cpy (I o) (I d) sp.toNatClampNeg dp.toNatClampNeg n.toNatClampNeg)) J)
      | false => mv_okc b st = true ∧ (cs a).1 (st.take b).reverse I J ∧ ∀ r I' J', (cs a).2 (st.take b).reverse I J r I' J' → X nx lv (r.toList ++ st.drop b) I' J')
    | .ireturn => (match b with
      | 0 => (match st with
        | [.int x] => K (some (.int x)) I J
        | _ => False)
      | _ => (match st with
        | [.int x] => (x = 0 ∨ x = 1) ∧ K (some (.int x)) I J
        | _ => False))
    | .lreturn => (match st with
      | [.long x] => K (some (.long x)) I J
      | _ => False)
    | .areturn => (match st with
      | [.ref x] => K (some (.ref x)) I J
      | [.null] => K (some .null) I J
      | _ => False)
    | .return_ => (match st with
      | [] => K none I J
      | _ => False)
    | _ => False
def mv_find : List mv_E → Nat → Option mv_E
  | [], _ => none
  | e :: r, pc => match Nat.beq e.1 pc with
    | true => some e
    | false => mv_find r pc
def mv_mem : List Nat → Nat → Bool
  | [], _ => false
  | x :: r, y => match Nat.beq x y with
    | true => true
    | false => mv_mem r y
def mv_at (ow : Nat → Nat) (sw : Nat → List (Int32 × Nat)) (tab : List mv_E) (cs : Nat → mv_SP) (K : mv_K) (X : mv_X) : mv_X := fun pc lv st I J => match mv_find tab pc with
  | some e => mv_step ow sw cs K X e lv st I J
  | none => False
