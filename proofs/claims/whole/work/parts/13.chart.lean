/-! Series: the methods of Chart, as functions on I. -/
theorem mv_lay_ch {c : Nat} (h : c < 91) : mv_lay (100 + 3 * c) = (1, 1, 0) := by
  have : ∀ c, c < 91 → mv_lay (100 + 3 * c) = (1, 1, 0) := by decide +kernel
  exact this c h
theorem mv_lay_cs {c : Nat} (h : c < 91) : mv_lay (101 + 3 * c) = (2, 5, 0) := by
  have : ∀ c, c < 91 → mv_lay (101 + 3 * c) = (2, 5, 0) := by decide +kernel
  exact this c h
theorem mv_lay_ct {c : Nat} (h : c < 91) : mv_lay (102 + 3 * c) = (2, 12, 0) := by
  have : ∀ c, c < 91 → mv_lay (102 + 3 * c) = (2, 12, 0) := by decide +kernel
  exact this c h
theorem mv_rf_cs {c : Nat} (h : c < 91) : mv_rf (100 + 3 * c) 5 = some (101 + 3 * c) := by
  have : ∀ c, c < 91 → mv_rf (100 + 3 * c) 5 = some (101 + 3 * c) := by decide +kernel
  exact this c h
theorem mv_rf_ct {c : Nat} (h : c < 91) : mv_rf (100 + 3 * c) 14 = some (102 + 3 * c) := by
  have : ∀ c, c < 91 → mv_rf (100 + 3 * c) 14 = some (102 + 3 * c) := by decide +kernel
  exact this c h
theorem mv_sr_ap {I : mv_I} {k a b : Nat} {f : Nat → Int32} : mv_sr I k f a b = if a = k then f b else I a b := by
  unfold mv_sr
  split <;> rfl
theorem mv_si_ap {I : mv_I} {k j a b : Nat} {x : Int32} : mv_si I k j x a b = if a = k ∧ b = j then x else I a b := rfl
theorem mv_ext1 {I I' : mv_I} {o : Nat} {f : Nat → Int32} (h : ∀ b, I' o b = f b) (h2 : ∀ a, a ≠ o → ∀ b, I' a b = I a b) : I' = mv_sr I o f := by
  funext a b
  rw [mv_sr_ap]
  by_cases ha : a = o
  · rw [if_pos ha, ha, h]
  · rw [if_neg ha, h2 a ha]
theorem vp_in_of5 {p : Int32} (h1 : ¬ p < 0) (h2 : p < 5) : vp_in p 5 := by
  rw [vp_in_iff]
  rw [Int32.lt_iff_toInt_lt] at h1 h2
  have e : (0 : Int32).toInt = 0 := rfl
  have e5 : (5 : Int32).toInt = 5 := rfl
  omega
theorem vp_in_12 {p : Int32} (h1 : ¬ p < 0) (h2 : p < 12) : vp_in p 12 := by
  rw [vp_in_iff]
  rw [Int32.lt_iff_toInt_lt] at h1 h2
  have e : (0 : Int32).toInt = 0 := rfl
  have e5 : (12 : Int32).toInt = 12 := rfl
  omega
theorem vp_in_11 : vp_in 11 12 := by
  rw [vp_in_iff]
  decide
theorem mv_nz2 : ¬ (2 : Int32) = 0 := by decide
theorem mv_nz10 : ¬ (10 : Int32) = 0 := by decide
theorem mv_nz14 : ¬ (14 : Int32) = 0 := by decide
def ringF (f : Nat → Int32) (al : Int32) : Nat → Int32 := fun b =>
  if b = 10 then f 10 + 1 else if b = 11 then al else if b = 12 then f 7
  else if b = 8 then (if al &&& 1 = 0 then 0 else if f 4 = 1 then f 2 / 2 else 0)
  else if b = 9 then (if al &&& 2 = 0 then 0 else if f 4 = 1 then f 2 / 2 else 0) else f b
def sp_ring : mv_SP := (fun as _ _ => match as with
    | [.ref o, .int _] => ∃ c : Nat, c < 91 ∧ o = 100 + 3 * c
    | _ => False,
  fun as I J r I' J' => match as with
    | [.ref o, .int al] => r = none ∧ I' = mv_sr I o (ringF (I o) al) ∧ J = J'
    | _ => True)
theorem cb_ring : mv_body 21 mv_t_X1_ring (mv_cs []) sp_ring := by
  intro as I J h
  match as, h with
  | [.ref _, .int al], ⟨c, hc, rfl⟩ =>
    refine ⟨rfl, mv_run_V (stop := []) 60 _ _ _ _ _ ?_⟩
    repeat' (first | (refine ⟨rfl, ?_⟩) | (refine ⟨mv_nz2, ?_⟩) | (refine ⟨mv_lay_ch hc, ?_⟩) | (refine ⟨fun _ => ?_, fun _ => ?_⟩) | fail)
    all_goals (refine ⟨mv_ext1 (fun b => ?_) (fun a ha b => ?_), rfl⟩)
    all_goals (first | (simp [mv_si_ap, ha]; done) | (simp [mv_si_ap, ringF] at *; grind))
theorem c_ring {l : Launch} {G : mv_G} {A : Nat → Prop} (hG : mv_adk G A) : mv_Con l G A 21 sp_ring := mv_con hG 21 mv_k_X1_ring (by decide +kernel) (mv_cs_nil) cb_ring
/-- the digit of the season for a day -/
def sdF (L : Int32) (sd : Nat → Int32) (d : Int32) : Int32 :=
  if ¬ (if 0 < L then d - d / L * L else 0) < 0 ∧ (if 0 < L then d - d / L * L else 0) < 5 then sd (if 0 < L then d - d / L * L else 0).toNatClampNeg else 0
def sp_seasonDigit : mv_SP := (fun as _ _ => match as with
    | [.ref o, .int _] => ∃ c : Nat, c < 91 ∧ o = 100 + 3 * c
    | _ => False,
  fun as I J r I' J' => match as with
    | [.ref o, .int d] => r = some (.int (sdF (I o 6) (I (o + 1)) d)) ∧ I = I' ∧ J = J'
    | _ => True)
theorem cb_seasonDigit : mv_body 22 mv_t_X1_seasonDigit (mv_cs []) sp_seasonDigit := by
  intro as I J h
  match as, h with
  | [.ref _, .int d], ⟨c, hc, rfl⟩ =>
    have e1 : 100 + 3 * c + 1 = 101 + 3 * c := by omega
    have key : ∀ p : Int32, sdF (I (100 + 3 * c) 6) (I (101 + 3 * c)) d = (if ¬ p < 0 ∧ p < 5 then I (101 + 3 * c) p.toNatClampNeg else 0) → mv_V mv_ow mv_swf mv_t_X1_seasonDigit (mv_cs []) (sp_seasonDigit.2 [.ref (100 + 3 * c), .int d] I J) 17 [(0, .ref (100 + 3 * c)), (1, .int d)] [.int p] I J := by
      intro p hp
      refine mv_run_V (stop := []) 60 _ _ _ _ _ ?_
      repeat' (first | (refine ⟨rfl, ?_⟩) | (refine ⟨mv_lay_ch hc, _, mv_rf_cs hc, ?_⟩) | (refine ⟨_, mv_lay_cs hc, vp_in_of5 (by assumption) (by assumption), ?_⟩) | (refine ⟨fun _ => ?_, fun _ => ?_⟩) | fail)
      all_goals (refine ⟨?_, rfl, rfl⟩; rw [e1, hp])
      · rename_i h1; rw [if_neg (fun z => z.1 h1)]
      · rename_i h1 h2; rw [if_neg (fun z => h2 z.2)]
      · rename_i h1 h2; rw [if_pos ⟨h1, h2⟩]
    refine ⟨rfl, mv_run_V (stop := [17]) 60 _ _ _ _ _ ?_⟩
    repeat' (first | (refine ⟨rfl, ?_⟩) | (refine ⟨mv_lay_ch hc, ?_⟩) | (refine ⟨(fun z => by rename_i h1; rw [z] at h1; exact absurd h1 (by decide)), ?_⟩) | (refine ⟨fun _ => ?_, fun _ => ?_⟩) | fail)
    · rename_i h1
      refine key 0 ?_
      unfold sdF
      rw [if_neg h1]
    · rename_i h1
      refine key _ ?_
      unfold sdF
      rw [if_pos h1]
theorem c_seasonDigit {l : Launch} {G : mv_G} {A : Nat → Prop} (hG : mv_adk G A) : mv_Con l G A 22 sp_seasonDigit := mv_con hG 22 mv_k_X1_seasonDigit (by decide +kernel) (mv_cs_nil) cb_seasonDigit
def exF (I : mv_I) (o : Nat) (d : Int32) : Int32 := (I o 13 >>> ((4 : Int32) &&& 31)) + sdF (I o 6) (I (o + 1)) d - 5
def sp_expectationOn : mv_SP := (fun as _ _ => match as with
    | [.ref o, .int _] => ∃ c : Nat, c < 91 ∧ o = 100 + 3 * c
    | _ => False,
  fun as I J r I' J' => match as with
    | [.ref o, .int d] => r = some (.int (exF I o d)) ∧ I = I' ∧ J = J'
    | _ => True)
theorem cb_expectationOn : mv_body 15 mv_t_X1_expectationOn (mv_cs [(22, sp_seasonDigit)]) sp_expectationOn := by
  intro as I J h
  match as, h with
  | [.ref _, .int d], ⟨c, hc, rfl⟩ =>
    refine ⟨rfl, mv_run_V (stop := []) 60 _ _ _ _ _ ?_⟩
    repeat' (first | (refine ⟨rfl, ?_⟩) | (refine ⟨mv_lay_ch hc, ?_⟩) | (refine ⟨⟨c, hc, rfl⟩, fun r I' J' hp => ?_⟩; obtain ⟨rfl, rfl, rfl⟩ := hp) | (refine ⟨fun _ => ?_, fun _ => ?_⟩) | fail)
    exact rfl
theorem c_expectationOn {l : Launch} {G : mv_G} {A : Nat → Prop} (hG : mv_adk G A) : mv_Con l G A 15 sp_expectationOn := mv_con hG 15 mv_k_X1_expectationOn (by decide +kernel) (mv_cs_cons (c_seasonDigit hG) (mv_cs_nil)) cb_expectationOn
def sp_expectation : mv_SP := (fun as _ _ => match as with
    | [.ref o] => ∃ c : Nat, c < 91 ∧ o = 100 + 3 * c
    | _ => False,
  fun as I J r I' J' => match as with
    | [.ref o] => r = some (.int (exF I o (I o 7))) ∧ I = I' ∧ J = J'
    | _ => True)
theorem cb_expectation : mv_body 14 mv_t_X1_expectation (mv_cs [(15, sp_expectationOn)]) sp_expectation := by
  intro as I J h
  match as, h with
  | [.ref _], ⟨c, hc, rfl⟩ =>
    refine ⟨rfl, mv_run_V (stop := []) 60 _ _ _ _ _ ?_⟩
    repeat' (first | (refine ⟨rfl, ?_⟩) | (refine ⟨mv_lay_ch hc, ?_⟩) | (refine ⟨⟨c, hc, rfl⟩, fun r I' J' hp => ?_⟩; obtain ⟨rfl, rfl, rfl⟩ := hp) | (refine ⟨fun _ => ?_, fun _ => ?_⟩) | fail)
    exact rfl
theorem c_expectation {l : Launch} {G : mv_G} {A : Nat → Prop} (hG : mv_adk G A) : mv_Con l G A 14 sp_expectation := mv_con hG 14 mv_k_X1_expectation (by decide +kernel) (mv_cs_cons (c_expectationOn hG) (mv_cs_nil)) cb_expectation
def adaptI (I : mv_I) (o : Nat) (v : Int32) : mv_I := mv_si I o 13 (mv_mx 0 (mv_mn 1584 (I o 13 + ((16 * (v - sdF (I o 6) (I (o + 1)) (I o 7) + 5) - I o 13) >>> (I o 3 &&& 31)))))
def sp_adapt : mv_SP := (fun as _ _ => match as with
    | [.ref o, .int _] => ∃ c : Nat, c < 91 ∧ o = 100 + 3 * c
    | _ => False,
  fun as I J r I' J' => match as with
    | [.ref o, .int v] => r = none ∧ I' = adaptI I o v ∧ J = J'
    | _ => True)
theorem cb_adapt : mv_body 4 mv_t_X1_adapt (mv_cs [(22, sp_seasonDigit), (150, sp_max), (151, sp_min)]) sp_adapt := by
  intro as I J h
  match as, h with
  | [.ref _, .int v], ⟨c, hc, rfl⟩ =>
    refine ⟨rfl, mv_run_V (stop := []) 60 _ _ _ _ _ ?_⟩
    repeat' (first | (refine ⟨rfl, ?_⟩) | (refine ⟨mv_lay_ch hc, ?_⟩) | (refine ⟨⟨c, hc, rfl⟩, fun r I' J' hp => ?_⟩; obtain ⟨rfl, rfl, rfl⟩ := hp) | (refine ⟨trivial, fun r I' J' hp => ?_⟩; obtain ⟨rfl, rfl, rfl⟩ := hp) | (refine ⟨fun _ => ?_, fun _ => ?_⟩) | fail)
    exact rfl
theorem c_adapt {l : Launch} {G : mv_G} {A : Nat → Prop} (hG : mv_adk G A) : mv_Con l G A 4 sp_adapt := mv_con hG 4 mv_k_X1_adapt (by decide +kernel) (mv_cs_cons (c_seasonDigit hG) (mv_cs_max (mv_cs_min (mv_cs_nil)))) cb_adapt
/-- a thing appended -/
def appI (I : mv_I) (o : Nat) (v : Int32) : mv_I :=
  mv_sr (mv_sr I (o + 2) (if I o 15 < 12 then upd (I (o + 2)) (I o 15).toNatClampNeg v else upd (va_cpy (I (o + 2)) (I (o + 2)) 1 0 11) 11 v)) o
    (fun b => if b = 15 then (if I o 15 < 12 then I o 15 + 1 else 12) else if b = 7 then I o 7 + 1 else I o b)
def sp_append : mv_SP := (fun as I _ => match as with
    | [.ref o, .int _] => ∃ c : Nat, c < 91 ∧ o = 100 + 3 * c ∧ ¬ I o 15 < 0
    | _ => False,
  fun as I J r I' J' => match as with
    | [.ref o, .int v] => r = none ∧ I' = appI I o v ∧ J = J'
    | _ => True)
theorem cb_append : mv_body 9 mv_t_X1_append (mv_cs []) sp_append := by
  intro as I J h
  match as, h with
  | [.ref _, .int v], ⟨c, hc, rfl, hn⟩ =>
    have e1 : 100 + 3 * c + 2 = 102 + 3 * c := by omega
    have e2 : ¬ 100 + 3 * c = 102 + 3 * c := by omega
    have e3 : ¬ 102 + 3 * c = 100 + 3 * c := by omega
    refine ⟨rfl, mv_run_V (stop := []) 60 _ _ _ _ _ ?_⟩
    repeat' (first | (refine ⟨rfl, ?_⟩) | (refine ⟨mv_lay_ch hc, _, mv_rf_ct hc, ?_⟩) | (refine ⟨mv_lay_ch hc, ?_⟩) | (refine ⟨_, _, mv_lay_ct hc, mv_lay_ct hc, by decide, by decide, by decide, by decide, by decide, ?_⟩) | (refine ⟨_, mv_lay_ct hc, vp_in_12 hn (by assumption), ?_⟩) | (refine ⟨_, mv_lay_ct hc, (by simp only [mv_si_ap, mv_sr_ap, e2, e3, and_self, if_true]; exact vp_in_11), ?_⟩) | (refine ⟨fun _ => ?_, fun _ => ?_⟩) | fail)
    · rename_i h1
      refine ⟨?_, rfl⟩
      unfold appI
      rw [e1]
      funext a b
      simp only [mv_si_ap, mv_sr_ap, upd, if_pos h1, e2, e3]
      grind
    · rename_i h1
      refine ⟨?_, rfl⟩
      unfold appI
      rw [e1]
      have e11 : (11 : Int32).toNatClampNeg = 11 := rfl
      have e12 : (11 : Int32) + 1 = 12 := rfl
      funext a b
      simp only [mv_si_ap, mv_sr_ap, upd, if_neg h1, e2, e3, e11, and_self, if_true]
      grind
theorem c_append {l : Launch} {G : mv_G} {A : Nat → Prop} (hG : mv_adk G A) : mv_Con l G A 9 sp_append := mv_con hG 9 mv_k_X1_append (by decide +kernel) (mv_cs_nil) cb_append
