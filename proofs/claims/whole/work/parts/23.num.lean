/-! Numbers: products, divisors, weights. -/
def facN : Nat → Nat
  | 0 => 1
  | n + 1 => facN n * (n + 1)
def sp_factorial : mv_SP := (fun as _ _ => ∃ n : Nat, n < 20 ∧ as = [.int (nI n)],
  fun as I J r I' J' => I = I' ∧ J = J' ∧ ∀ n : Nat, n < 20 → as = [.int (nI n)] → r = some (.long (lN (facN n))))
theorem cb_factorial : mv_body 57 mv_t_X6_factorial (mv_cs []) sp_factorial := by
  intro as I J h
  obtain ⟨n, hn, rfl⟩ := h
  have fin : ∀ k : Nat, facN k = facN n → sp_factorial.2 [.int (nI n)] I J (some (.long (lN (facN k)))) I J := by
    intro k hk
    refine ⟨rfl, rfl, fun n' hn' e => ?_⟩
    injection e with e1
    injection e1 with e1
    have : n = n' := (nI_eq (by omega) (by omega)).mp e1
    subst this
    rw [hk]
  have key : ∀ r k : Nat, k + r = n ∨ (r = 0 ∧ n ≤ k ∧ facN k = facN n ∧ k < 100) → mv_V mv_ow mv_swf mv_t_X6_factorial (mv_cs []) (sp_factorial.2 [.int (nI n)] I J) 4 [(0, .int (nI n)), (1, .long (lN (facN k))), (3, .int (nI (k + 1)))] [] I J := by
    intro r
    induction r with
    | zero =>
      intro k hk
      have hk : n ≤ k ∧ facN k = facN n ∧ k < 100 := by
        rcases hk with h | h
        · have : k = n := h
          subst this
          exact ⟨Nat.le_refl _, rfl, by omega⟩
        · exact h.2
      refine mv_run_V (stop := [4]) 20 _ _ _ _ _ ?_
      refine ⟨fun h1 => ?_, fun h1 => ?_⟩
      · exact fin k hk.2.1
      · exact absurd (nI_lt (by omega) (by omega)) h1
    | succ r ih =>
      intro k hk
      have hk : k + (r + 1) = n := by omega
      refine mv_run_V (stop := [4]) 20 _ _ _ _ _ ?_
      refine ⟨fun h1 => ?_, fun h1 => ?_⟩
      · exact absurd h1 (nI_nlt (by omega) (by omega))
      · have h2 := ih (k + 1) (Or.inl (by omega))
        rw [facN, ← lN_mul, ← nI_l (n := k + 1) (by omega), nI_succ (k + 1)] at h2
        exact h2
  refine ⟨rfl, mv_run_V (stop := [4]) 20 _ _ _ _ _ ?_⟩
  exact key (n - 1) 1 (by
    rcases n with _ | n
    · exact Or.inr ⟨rfl, by omega, rfl, by omega⟩
    · exact Or.inl (by omega))
theorem c_factorial {l : Launch} {G : mv_G} {A : Nat → Prop} (hG : mv_adk G A) : mv_Con l G A 57 sp_factorial := mv_con hG 57 mv_k_X6_factorial (by decide +kernel) (mv_cs_nil) cb_factorial
def cdF : Nat → Int64 → Int64 → Int64
  | 0, g, _ => g
  | n + 1, g, s => if s = 0 then g else cdF n s (g - g / s * s)
def sp_commonDivisor : mv_SP := (fun as _ _ => match as with
    | [.long _, .long _] => True
    | _ => False,
  fun as I J r I' J' => match as with
    | [.long a, .long b] => r = some (.long (cdF 100 a b)) ∧ I = I' ∧ J = J'
    | _ => True)
theorem cb_commonDivisor : mv_body 53 mv_t_X6_commonDivisor (mv_cs []) sp_commonDivisor := by
  intro as I J h
  match as, h with
  | [.long a, .long b], _ =>
    have key : ∀ r k : Nat, k + r = 100 → ∀ g s, cdF r g s = cdF 100 a b → mv_V mv_ow mv_swf mv_t_X6_commonDivisor (mv_cs []) (sp_commonDivisor.2 [.long a, .long b] I J) 9 [(4, .long g), (6, .long s), (8, .int (nI k))] [] I J := by
      intro r
      induction r with
      | zero =>
        intro k hk g s hc
        have hk : k = 100 := hk
        subst hk
        have hc : g = cdF 100 a b := hc
        refine mv_run_V (stop := [9]) 20 _ _ _ _ _ ?_
        refine ⟨fun h1 => ?_, fun h1 => ?_⟩
        · exact ⟨by rw [hc], rfl, rfl⟩
        · have h1 : nI 100 < nI 100 := h1
          exact absurd h1 (nI_nlt (Nat.le_refl _) (by decide))
      | succ r ih =>
        intro k hk g s hc
        rw [cdF] at hc
        refine mv_run_V (stop := [9]) 40 _ _ _ _ _ ?_
        refine ⟨fun h1 => ?_, fun h1 => ?_⟩
        · have h1 : ¬ nI k < nI 100 := h1
          exact absurd (nI_lt (by omega) (by decide)) h1
        · refine ⟨fun h2 => ?_, fun h2 => ?_⟩
          · rw [if_pos ((lg_cmp_eq _ _).mp h2)] at hc
            exact ⟨by rw [hc], rfl, rfl⟩
          · have h2 : ¬ s = 0 := fun z => h2 ((lg_cmp_eq _ _).mpr z)
            rw [if_neg h2] at hc
            refine ⟨h2, ?_⟩
            have h3 := ih (k + 1) (by omega) _ _ hc
            rw [nI_succ] at h3
            exact mv_keep [4, 6, 8] h3
    refine ⟨rfl, mv_run_V (stop := [9]) 40 _ _ _ _ _ ?_⟩
    exact mv_keep [4, 6, 8] (key 100 0 rfl a b rfl)
theorem c_commonDivisor {l : Launch} {G : mv_G} {A : Nat → Prop} (hG : mv_adk G A) : mv_Con l G A 53 sp_commonDivisor := mv_con hG 53 mv_k_X6_commonDivisor (by decide +kernel) (mv_cs_nil) cb_commonDivisor
def lowF (a b : Int64) (u : Int32) : Int64 := if 0 < cdF 100 a b then (if u = 0 then b else a) / cdF 100 a b else (if u = 0 then b else a)
def sp_lowest : mv_SP := (fun as _ _ => match as with
    | [.long _, .long _, .int _] => True
    | _ => False,
  fun as I J r I' J' => match as with
    | [.long a, .long b, .int u] => r = some (.long (lowF a b u)) ∧ I = I' ∧ J = J'
    | _ => True)
theorem cb_lowest : mv_body 67 mv_t_X6_lowest (mv_cs [(53, sp_commonDivisor)]) sp_lowest := by
  intro as I J h
  match as, h with
  | [.long a, .long b, .int u], _ =>
    refine ⟨rfl, mv_run_V (stop := []) 60 _ _ _ _ _ ?_⟩
    refine ⟨rfl, trivial, fun r1 I1 J1 hp => ?_⟩
    obtain ⟨rfl, rfl, rfl⟩ := hp
    have e0 : ∀ {x : Int64}, ¬ 0 < lg_cmp x 0 → ¬ 0 < x := fun h z => h ((lg_cmp_gt _ _).mpr z)
    have e1 : ∀ {x : Int64}, 0 < lg_cmp x 0 → 0 < x := fun h => (lg_cmp_gt _ _).mp h
    have e2 : ∀ {x : Int64}, 0 < x → ¬ x = 0 := fun h z => by subst z; exact absurd h (by decide)
    refine ⟨fun h2 => ?_, fun h2 => ?_⟩
    · refine ⟨fun h3 => ?_, fun h3 => ?_⟩
      · exact ⟨by unfold lowF; rw [if_neg (e0 h3), if_pos h2], rfl, rfl⟩
      · exact ⟨e2 (e1 h3), by unfold lowF; rw [if_pos (e1 h3), if_pos h2], rfl, rfl⟩
    · refine ⟨fun h3 => ?_, fun h3 => ?_⟩
      · exact ⟨by unfold lowF; rw [if_neg (e0 h3), if_neg h2], rfl, rfl⟩
      · exact ⟨e2 (e1 h3), by unfold lowF; rw [if_pos (e1 h3), if_neg h2], rfl, rfl⟩
theorem c_lowest {l : Launch} {G : mv_G} {A : Nat → Prop} (hG : mv_adk G A) : mv_Con l G A 67 sp_lowest := mv_con hG 67 mv_k_X6_lowest (by decide +kernel) (mv_cs_cons (c_commonDivisor hG) (mv_cs_nil)) cb_lowest
def wgF (g x : Int32) : Nat → Int64
  | 0 => 1
  | d + 1 => wgF g x d * (if (g >>> (nI d &&& 31)) &&& 1 = 1 then x.toInt64 else (10 - x).toInt64)
def sp_weight : mv_SP := (fun as _ _ => ∃ (n : Nat) (g x : Int32), n < 100 ∧ as = [.int (nI n), .int g, .int x],
  fun as I J r I' J' => match as with
    | [.int n, .int g, .int x] => r = some (.long (wgF g x n.toNatClampNeg)) ∧ I = I' ∧ J = J'
    | _ => True)
theorem cb_weight : mv_body 81 mv_t_X6_weight (mv_cs []) sp_weight := by
  intro as I J h
  obtain ⟨n, g, x, hn, rfl⟩ := h
  have hcn : (nI n).toNatClampNeg = n := nI_clamp (by omega)
  have key : ∀ r k : Nat, k + r = n → mv_V mv_ow mv_swf mv_t_X6_weight (mv_cs []) (sp_weight.2 [.int (nI n), .int g, .int x] I J) 5 [(0, .int (nI n)), (1, .int g), (2, .int x), (3, .long (wgF g x k)), (5, .int (nI k))] [] I J := by
    intro r
    induction r with
    | zero =>
      intro k hk
      have hk : k = n := hk
      subst hk
      refine mv_run_V (stop := [5]) 20 _ _ _ _ _ ?_
      refine ⟨fun h1 => ?_, fun h1 => ?_⟩
      · exact ⟨by rw [hcn], rfl, rfl⟩
      · exact absurd h1 (nI_nlt (Nat.le_refl k) (by omega))
    | succ r ih =>
      intro k hk
      refine mv_run_V (stop := [5]) 40 _ _ _ _ _ ?_
      refine ⟨fun h1 => ?_, fun h1 => ?_⟩
      · exact absurd (nI_lt (by omega) (by omega)) h1
      · have h2 := ih (k + 1) (by omega)
        rw [nI_succ, wgF] at h2
        refine ⟨fun h3 => ?_, fun h3 => ?_⟩
        · rw [if_neg h3] at h2
          exact h2
        · rw [if_pos h3] at h2
          exact h2
  refine ⟨rfl, mv_run_V (stop := [5]) 40 _ _ _ _ _ ?_⟩
  exact key n 0 (Nat.zero_add n)
theorem c_weight {l : Launch} {G : mv_G} {A : Nat → Prop} (hG : mv_adk G A) : mv_Con l G A 81 sp_weight := mv_con hG 81 mv_k_X6_weight (by decide +kernel) (mv_cs_nil) cb_weight
def wdF (row : Int64) : Nat → Int64
  | 0 => row
  | d + 1 => wdF row d / 10000
def sp_withoutDoings : mv_SP := (fun as _ _ => ∃ (n : Nat) (row : Int64), n < 100 ∧ as = [.long row, .int (nI n)],
  fun as I J r I' J' => match as with
    | [.long row, .int n] => r = some (.long (wdF row n.toNatClampNeg)) ∧ I = I' ∧ J = J'
    | _ => True)
theorem mv_nz4 : ¬ (10000 : Int64) = 0 := by decide
theorem cb_withoutDoings : mv_body 85 mv_t_X6_withoutDoings (mv_cs []) sp_withoutDoings := by
  intro as I J h
  obtain ⟨n, row, hn, rfl⟩ := h
  have hcn : (nI n).toNatClampNeg = n := nI_clamp (by omega)
  have key : ∀ r k : Nat, k + r = n → mv_V mv_ow mv_swf mv_t_X6_withoutDoings (mv_cs []) (sp_withoutDoings.2 [.long row, .int (nI n)] I J) 5 [(0, .long row), (2, .int (nI n)), (3, .long (wdF row k)), (5, .int (nI k))] [] I J := by
    intro r
    induction r with
    | zero =>
      intro k hk
      have hk : k = n := hk
      subst hk
      refine mv_run_V (stop := [5]) 20 _ _ _ _ _ ?_
      refine ⟨fun h1 => ?_, fun h1 => ?_⟩
      · exact ⟨by rw [hcn], rfl, rfl⟩
      · exact absurd h1 (nI_nlt (Nat.le_refl k) (by omega))
    | succ r ih =>
      intro k hk
      refine mv_run_V (stop := [5]) 40 _ _ _ _ _ ?_
      refine ⟨fun h1 => ?_, fun h1 => ?_⟩
      · exact absurd (nI_lt (by omega) (by omega)) h1
      · have h2 := ih (k + 1) (by omega)
        rw [nI_succ, wdF] at h2
        exact ⟨mv_nz4, h2⟩
  refine ⟨rfl, mv_run_V (stop := [5]) 40 _ _ _ _ _ ?_⟩
  exact key n 0 (Nat.zero_add n)
theorem c_withoutDoings {l : Launch} {G : mv_G} {A : Nat → Prop} (hG : mv_adk G A) : mv_Con l G A 85 sp_withoutDoings := mv_con hG 85 mv_k_X6_withoutDoings (by decide +kernel) (mv_cs_nil) cb_withoutDoings
