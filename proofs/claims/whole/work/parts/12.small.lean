/-! Small methods. -/
def mv_b (c : Prop) [Decidable c] : Int32 := if c then 1 else 0
theorem mv_b01 (c : Prop) [Decidable c] : mv_b c = 0 ∨ mv_b c = 1 := by
  unfold mv_b
  split
  · exact Or.inr rfl
  · exact Or.inl rfl
theorem mv_b0 {c : Prop} [Decidable c] : mv_b c = 0 ↔ ¬ c := by
  unfold mv_b
  split
  · rename_i h; exact ⟨fun z => absurd z (by decide), fun z => absurd h z⟩
  · rename_i h; exact ⟨fun _ => h, fun _ => rfl⟩
theorem mv_bt {c : Prop} [Decidable c] (h : c) : mv_b c = 1 := if_pos h
theorem mv_bf {c : Prop} [Decidable c] (h : ¬ c) : mv_b c = 0 := if_neg h
def sp_within : mv_SP := (fun as _ _ => match as with
    | [.int _, .int _, .int _] => True
    | _ => False,
  fun as I J r I' J' => match as with
    | [.int v, .int lo, .int hi] => r = some (.int (mv_b (lo ≤ v ∧ v ≤ hi))) ∧ I = I' ∧ J = J'
    | _ => True)
theorem cb_within : mv_body 84 mv_t_X6_within (mv_cs []) sp_within := by
  intro as I J h
  match as, h with
  | [.int v, .int lo, .int hi], _ =>
    refine ⟨rfl, mv_run_V (stop := []) 20 _ _ _ _ _ ?_⟩
    refine ⟨fun h1 => ?_, fun h1 => ?_⟩
    · refine ⟨Or.inl rfl, ?_⟩
      refine ⟨?_, rfl, rfl⟩
      rw [mv_bf (fun z => absurd h1 (Int32.not_lt.mpr z.1))]
    · refine ⟨fun h2 => ?_, fun h2 => ?_⟩
      · refine ⟨Or.inl rfl, ?_⟩
        refine ⟨?_, rfl, rfl⟩
        rw [mv_bf (fun z => absurd h2 (Int32.not_lt.mpr z.2))]
      · refine ⟨Or.inr rfl, ?_⟩
        refine ⟨?_, rfl, rfl⟩
        rw [mv_bt ⟨Int32.not_lt.mp h1, Int32.not_lt.mp h2⟩]
theorem c_within {l : Launch} {G : mv_G} {A : Nat → Prop} (hG : mv_adk G A) : mv_Con l G A 84 sp_within := mv_con hG 84 mv_k_X6_within (by decide +kernel) mv_cs_nil cb_within
