/-! Walks. -/
/-- from this state the method comes to its end, with K; locals may be forgotten -/
def mv_V (ow : Nat → Nat) (sw : Nat → List (Int32 × Nat)) (tab : List mv_E) (cs : Nat → mv_SP) (K : mv_K) : mv_X := fun pc lv st I J =>
  ∀ X : mv_X, (∀ pc lv st I J, (∃ Y : mv_X, (∀ pc lv st I J, Y pc lv st I J → X pc lv st I J) ∧ mv_at ow sw tab cs K Y pc lv st I J) → X pc lv st I J) → (∀ (ks : List Nat) pc lv st I J, X pc (lv.filter (fun q => mv_mem ks q.1)) st I J → X pc lv st I J) → X pc lv st I J
/-- a walk of at most n instructions, that ends at the end or at a place in stop, where S holds -/
def mv_run (ow : Nat → Nat) (sw : Nat → List (Int32 × Nat)) (tab : List mv_E) (cs : Nat → mv_SP) (K : mv_K) (stop : List Nat) (S : mv_X) : Nat → mv_X
  | 0 => S
  | n + 1 => mv_at ow sw tab cs K (fun pc lv st I J => match mv_mem stop pc with
    | true => S pc lv st I J
    | false => mv_run ow sw tab cs K stop S n pc lv st I J)
theorem mv_V_of {ow : Nat → Nat} {sw : Nat → List (Int32 × Nat)} {tab : List mv_E} {cs : Nat → mv_SP} {K : mv_K} {Y : mv_X} (hY : ∀ pc lv st I J, Y pc lv st I J → mv_V ow sw tab cs K pc lv st I J) {pc : Nat} {lv : mv_L} {st : List Value} {I : mv_I} {J : mv_J} (h : mv_at ow sw tab cs K Y pc lv st I J) : mv_V ow sw tab cs K pc lv st I J :=
  fun X hX hZ => hX pc lv st I J ⟨Y, fun pc lv st I J hy => hY pc lv st I J hy X hX hZ, h⟩
theorem mv_keep {ow : Nat → Nat} {sw : Nat → List (Int32 × Nat)} {tab : List mv_E} {cs : Nat → mv_SP} {K : mv_K} (ks : List Nat) {pc : Nat} {lv : mv_L} {st : List Value} {I : mv_I} {J : mv_J} (h : mv_V ow sw tab cs K pc (lv.filter (fun q => mv_mem ks q.1)) st I J) : mv_V ow sw tab cs K pc lv st I J :=
  fun X hX hZ => hZ ks pc lv st I J (h X hX hZ)
theorem mv_run_V {ow : Nat → Nat} {sw : Nat → List (Int32 × Nat)} {tab : List mv_E} {cs : Nat → mv_SP} {K : mv_K} {stop : List Nat} : ∀ (n : Nat) (pc : Nat) (lv : mv_L) (st : List Value) (I : mv_I) (J : mv_J), mv_run ow sw tab cs K stop (mv_V ow sw tab cs K) n pc lv st I J → mv_V ow sw tab cs K pc lv st I J
  | 0, _, _, _, _, _, h => h
  | n + 1, pc, lv, st, I, J, h => by
    refine mv_V_of (Y := fun pc lv st I J => match mv_mem stop pc with
      | true => mv_V ow sw tab cs K pc lv st I J
      | false => mv_run ow sw tab cs K stop (mv_V ow sw tab cs K) n pc lv st I J) (fun pc lv st I J hy => ?_) h
    cases hm : mv_mem stop pc with
    | true => simp only [hm] at hy; exact hy
    | false => simp only [hm] at hy; exact mv_run_V n pc lv st I J hy
