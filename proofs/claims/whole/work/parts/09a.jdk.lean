/-! The JDK's max and min: no method of theirs is walked, the kit's rows say what they answer. -/
def mv_mx (x y : Int32) : Int32 := if x < y then y else x
def mv_mn (x y : Int32) : Int32 := if y < x then y else x
def mv_none : mv_SP := (fun _ _ _ => False, fun _ _ _ _ _ _ => False)
def sp_max : mv_SP := (fun as _ _ => match as with
    | [.int _, .int _] => True
    | _ => False,
  fun as I J r I' J' => match as with
    | [.int x, .int y] => r = some (.int (mv_mx x y)) ∧ I = I' ∧ J = J'
    | _ => True)
def sp_min : mv_SP := (fun as _ _ => match as with
    | [.int _, .int _] => True
    | _ => False,
  fun as I J r I' J' => match as with
    | [.int x, .int y] => r = some (.int (mv_mn x y)) ∧ I = I' ∧ J = J'
    | _ => True)
theorem mv_ii {as : List Value} (h : match as with | [.int _, .int _] => True | _ => False) : ∃ x y : Int32, as = [.int x, .int y] := by
  split at h
  · exact ⟨_, _, rfl⟩
  · exact h.elim
