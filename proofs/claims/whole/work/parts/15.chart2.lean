/-! Series: begin, copyFrom, addCounts, replay. -/
def beginF (f : Nat → Int32) : Nat → Int32 := fun b => if b = 7 ∨ b = 8 ∨ b = 9 ∨ b = 10 ∨ b = 11 ∨ b = 15 then 0 else if b = 12 then -9 else if b = 13 then 16 * f 0 else f b
def sp_begin : mv_SP := (fun as _ _ => match as with
    | [.ref o] => ∃ c : Nat, c < 91 ∧ o = 100 + 3 * c
    | _ => False,
  fun as I J r I' J' => match as with
    | [.ref o] => r = none ∧ I' = mv_sr I o (beginF (I o)) ∧ J = J'
    | _ => True)
theorem cb_begin : mv_body 10 mv_t_X1_begin (mv_cs []) sp_begin := by
  intro as I J h
  match as, h with
  | [.ref _], ⟨c, hc, rfl⟩ =>
    refine ⟨rfl, mv_run_V (stop := []) 60 _ _ _ _ _ ?_⟩
    repeat' (first | (refine ⟨rfl, ?_⟩) | (refine ⟨mv_lay_ch hc, ?_⟩) | (refine ⟨fun _ => ?_, fun _ => ?_⟩) | fail)
    refine ⟨mv_ext1 (fun b => ?_) (fun a ha b => ?_), rfl⟩
    · simp [mv_si_ap, beginF]; grind
    · simp [mv_si_ap, ha]
theorem c_begin {l : Launch} {G : mv_G} {A : Nat → Prop} (hG : mv_adk G A) : mv_Con l G A 10 sp_begin := mv_con hG 10 mv_k_X1_begin (by decide +kernel) (mv_cs_nil) cb_begin
def copyI (I : mv_I) (o q : Nat) : mv_I :=
  mv_sr (mv_sr (mv_sr I (o + 1) (va_cpy (I (q + 1)) (I (o + 1)) 0 0 5)) (o + 2) (va_cpy (I (q + 2)) (I (o + 2)) 0 0 12)) o (fun b => if b < 16 ∧ b ≠ 5 ∧ b ≠ 14 then I q b else I o b)
def sp_chartCopy : mv_SP := (fun as _ _ => match as with
    | [.ref o, .ref q] => ∃ c d : Nat, c < 91 ∧ d < 91 ∧ c ≠ d ∧ o = 100 + 3 * c ∧ q = 100 + 3 * d
    | _ => False,
  fun as I J r I' J' => match as with
    | [.ref o, .ref q] => r = none ∧ I' = copyI I o q ∧ J = J'
    | _ => True)
theorem mv_d0 : ¬ (0 : Int32) < 0 := by decide
theorem mv_d5 : ¬ (5 : Int32) < 0 := by decide
theorem mv_d12 : ¬ (12 : Int32) < 0 := by decide
theorem mv_d05 : (0 : Int32).toNatClampNeg + (5 : Int32).toNatClampNeg ≤ 5 := by decide
theorem mv_d012 : (0 : Int32).toNatClampNeg + (12 : Int32).toNatClampNeg ≤ 12 := by decide
/-- the first n fields copied -/
def cpyF (f g : Nat → Int32) (n : Nat) : Nat → Int32 := fun b => if b < n ∧ b ≠ 5 then g b else f b
def cpyJ (I : mv_I) (o q n : Nat) : mv_I := mv_sr (mv_sr I (o + 1) (va_cpy (I (q + 1)) (I (o + 1)) 0 0 5)) o (cpyF (I o) (I q) n)
theorem cb_chartCopy : mv_body 12 mv_t_X1_copyFrom (mv_cs []) sp_chartCopy := by
  intro as I J h
  match as, h with
  | [.ref _, .ref _], ⟨c, d, hc, hd, hcd, rfl, rfl⟩ =>
    have e1 : 100 + 3 * c + 1 = 101 + 3 * c := by omega
    have e2 : 100 + 3 * c + 2 = 102 + 3 * c := by omega
    have f1 : 100 + 3 * d + 1 = 101 + 3 * d := by omega
    have f2 : 100 + 3 * d + 2 = 102 + 3 * d := by omega
    have g1 : ¬ 100 + 3 * d = 100 + 3 * c := by omega
    have g2 : ¬ 101 + 3 * d = 100 + 3 * c := by omega
    have g3 : ¬ 102 + 3 * d = 100 + 3 * c := by omega
    have g4 : ¬ 101 + 3 * c = 100 + 3 * c := by omega
    have g5 : ¬ 102 + 3 * c = 100 + 3 * c := by omega
    have g6 : ¬ 100 + 3 * d = 101 + 3 * c := by omega
    have g7 : ¬ 102 + 3 * d = 101 + 3 * c := by omega
    have g8 : ¬ 102 + 3 * c = 101 + 3 * c := by omega
    have g9 : ¬ 100 + 3 * d = 102 + 3 * c := by omega
    have k118 : ∀ I1 : mv_I, I1 = cpyJ I (100 + 3 * c) (100 + 3 * d) 14 → mv_V mv_ow mv_swf mv_t_X1_copyFrom (mv_cs []) (sp_chartCopy.2 [.ref (100 + 3 * c), .ref (100 + 3 * d)] I J) 118 [(0, .ref (100 + 3 * c)), (1, .ref (100 + 3 * d))] [] I1 J := by
      intro I1 h1
      refine mv_run_V (stop := []) 20 _ _ _ _ _ ?_
      refine ⟨mv_lay_ch hd, _, mv_rf_ct hd, mv_lay_ch hc, _, mv_rf_ct hc, rfl, _, _, mv_lay_ct hd, mv_lay_ct hc, mv_d0, mv_d0, mv_d12, mv_d012, mv_d012, mv_lay_ch hd, mv_lay_ch hc, rfl, ?_⟩
      refine ⟨?_, rfl⟩
      rw [h1]
      unfold copyI cpyJ cpyF
      rw [e1, e2, f1, f2]
      rw [show (0 : Int32).toNatClampNeg = 0 from rfl, show (12 : Int32).toNatClampNeg = 12 from rfl]
      simp only [mv_sr_ne g1, mv_sr_ne g2, mv_sr_ne g3, mv_sr_ne g4, mv_sr_ne g5, mv_sr_ne g6, mv_sr_ne g7, mv_sr_ne g8, mv_sr_ne g9]
      funext a b
      simp only [mv_si_ap, mv_sr_ap]
      grind
    have k86 : ∀ I1 : mv_I, I1 = cpyJ I (100 + 3 * c) (100 + 3 * d) 10 → mv_V mv_ow mv_swf mv_t_X1_copyFrom (mv_cs []) (sp_chartCopy.2 [.ref (100 + 3 * c), .ref (100 + 3 * d)] I J) 86 [(0, .ref (100 + 3 * c)), (1, .ref (100 + 3 * d))] [] I1 J := by
      intro I1 h1
      refine mv_run_V (stop := [118]) 40 _ _ _ _ _ ?_
      refine ⟨mv_lay_ch hd, mv_lay_ch hc, mv_lay_ch hd, mv_lay_ch hc, mv_lay_ch hd, mv_lay_ch hc, mv_lay_ch hd, mv_lay_ch hc, ?_⟩
      refine k118 _ ?_
      rw [h1]
      unfold cpyJ cpyF
      funext a b
      simp only [mv_si_ap, mv_sr_ap]
      grind
    have k54 : ∀ I1 : mv_I, I1 = cpyJ I (100 + 3 * c) (100 + 3 * d) 5 → mv_V mv_ow mv_swf mv_t_X1_copyFrom (mv_cs []) (sp_chartCopy.2 [.ref (100 + 3 * c), .ref (100 + 3 * d)] I J) 54 [(0, .ref (100 + 3 * c)), (1, .ref (100 + 3 * d))] [] I1 J := by
      intro I1 h1
      refine mv_run_V (stop := [86]) 40 _ _ _ _ _ ?_
      refine ⟨mv_lay_ch hd, mv_lay_ch hc, mv_lay_ch hd, mv_lay_ch hc, mv_lay_ch hd, mv_lay_ch hc, mv_lay_ch hd, mv_lay_ch hc, ?_⟩
      refine k86 _ ?_
      rw [h1]
      unfold cpyJ cpyF
      funext a b
      simp only [mv_si_ap, mv_sr_ap]
      grind
    refine ⟨rfl, mv_run_V (stop := [54]) 40 _ _ _ _ _ ?_⟩
    refine ⟨mv_lay_ch hd, mv_lay_ch hc, mv_lay_ch hd, mv_lay_ch hc, mv_lay_ch hd, mv_lay_ch hc, mv_lay_ch hd, mv_lay_ch hc, mv_lay_ch hd, mv_lay_ch hc, mv_lay_ch hd, _, mv_rf_cs hd, mv_lay_ch hc, _, mv_rf_cs hc, rfl, _, _, mv_lay_cs hd, mv_lay_cs hc, mv_d0, mv_d0, mv_d5, mv_d05, mv_d05, ?_⟩
    refine k54 _ ?_
    unfold cpyJ cpyF
    rw [e1, f1]
    rw [show (0 : Int32).toNatClampNeg = 0 from rfl, show (5 : Int32).toNatClampNeg = 5 from rfl]
    simp only [mv_si_ne g1, mv_si_ne g2, mv_si_ne g4]
    funext a b
    simp only [mv_si_ap, mv_sr_ap]
    grind
theorem c_chartCopy {l : Launch} {G : mv_G} {A : Nat → Prop} (hG : mv_adk G A) : mv_Con l G A 12 sp_chartCopy := mv_con hG 12 mv_k_X1_copyFrom (by decide +kernel) (mv_cs_nil) cb_chartCopy
def addN (o : Nat) (v : Int32) : Nat → mv_I → mv_I
  | 0, I => I
  | k + 1, I => addI (addN o v k I) o v
theorem mv_inc12 {x : Int32} (h : ¬ x < 0) (h2 : x < 12) : ¬ x + 1 < 0 := by
  rw [fa_lt] at h h2 ⊢
  have e0 : (0 : Int32).toInt = 0 := rfl
  have e1 : (1 : Int32).toInt = 1 := rfl
  have e12 : (12 : Int32).toInt = 12 := rfl
  rw [fb_addI (by omega) (by omega)]
  omega
theorem addI_15 {I : mv_I} {o : Nat} {v : Int32} (h : ¬ I o 15 < 0) : ¬ addI I o v o 15 < 0 := by
  unfold addI appI
  rw [mv_sr_ap, if_pos rfl, if_pos rfl, add3_15]
  split
  · rename_i h2
    exact mv_inc12 h h2
  · decide
theorem addN_15 {I : mv_I} {o : Nat} {v : Int32} (h : ¬ I o 15 < 0) : ∀ k, ¬ addN o v k I o 15 < 0
  | 0 => h
  | k + 1 => addI_15 (addN_15 h k)
def sp_addCounts : mv_SP := (fun as I _ => match as with
    | [.ref o, .int _, .int n] => ∃ c m : Nat, c < 91 ∧ o = 100 + 3 * c ∧ ¬ I o 15 < 0 ∧ m < 1000 ∧ n = nI m
    | _ => False,
  fun as I J r I' J' => match as with
    | [.ref o, .int v, .int n] => r = none ∧ I' = addN o v n.toNatClampNeg I ∧ J = J'
    | _ => True)
theorem cb_addCounts : mv_body 6 mv_t_X1_addCounts (mv_cs [(5, sp_addCount)]) sp_addCounts := by
  intro as I J h
  match as, h with
  | [.ref _, .int v, .int _], ⟨c, m, hc, rfl, hn, hm, rfl⟩ =>
    have key : ∀ (r k : Nat), k + r = m → mv_V mv_ow mv_swf mv_t_X1_addCounts (mv_cs [(5, sp_addCount)]) (sp_addCounts.2 [.ref (100 + 3 * c), .int v, .int (nI m)] I J) 2 [(0, .ref (100 + 3 * c)), (1, .int v), (2, .int (nI m)), (3, .int (nI k))] [] (addN (100 + 3 * c) v k I) J := by
      intro r
      induction r with
      | zero =>
        intro k hk
        have hk : k = m := hk
        subst hk
        refine mv_run_V (stop := [2]) 20 _ _ _ _ _ ?_
        refine ⟨fun h1 => ?_, fun h1 => ?_⟩
        · refine ⟨rfl, ?_, rfl⟩
          rw [nI_clamp (by omega)]
        · exact absurd h1 (nI_nlt (Nat.le_refl k) (by omega))
      | succ r ih =>
        intro k hk
        refine mv_run_V (stop := [2]) 20 _ _ _ _ _ ?_
        refine ⟨fun h1 => ?_, fun h1 => ?_⟩
        · exact absurd (nI_lt (by omega) (by omega)) h1
        · repeat' (first | (refine ⟨rfl, ?_⟩) | (refine ⟨mv_lay_ch hc, ?_⟩) | (refine ⟨⟨c, hc, rfl, addN_15 hn k⟩, fun r I' J' hp => ?_⟩; obtain ⟨rfl, rfl, rfl⟩ := hp) | (refine ⟨fun _ => ?_, fun _ => ?_⟩) | fail)
          have h2 := ih (k + 1) (by omega)
          rw [nI_succ] at h2
          exact h2
    refine ⟨rfl, mv_run_V (stop := [2]) 20 _ _ _ _ _ ?_⟩
    exact key m 0 (Nat.zero_add m)
theorem c_addCounts {l : Launch} {G : mv_G} {A : Nat → Prop} (hG : mv_adk G A) : mv_Con l G A 6 sp_addCounts := mv_con hG 6 mv_k_X1_addCounts (by decide +kernel) (mv_cs_cons (c_addCount hG) (mv_cs_nil)) cb_addCounts
/-- the first place after which a sum is at least h -/
def repF (I : mv_I) (o : Nat) (k h : Int32) : Nat → Nat → Int32 → Int32 → Int32
  | 0, _, _, _ => -9
  | r + 1, p, a, b =>
    if I (o + 2) p = -9 then repF I o k h r (p + 1) a b
    else if ¬ mv_mx 0 (a + I (o + 2) p - exF I o (I o 7 - I o 15 + nI p) - k) < h then nI p
    else if ¬ mv_mx 0 (b + exF I o (I o 7 - I o 15 + nI p) - I (o + 2) p - k) < h then nI p
    else repF I o k h r (p + 1) (mv_mx 0 (a + I (o + 2) p - exF I o (I o 7 - I o 15 + nI p) - k)) (mv_mx 0 (b + exF I o (I o 7 - I o 15 + nI p) - I (o + 2) p - k))
def sp_replay : mv_SP := (fun as I _ => match as with
    | [.ref o, .int _, .int _] => ∃ c m : Nat, c < 91 ∧ o = 100 + 3 * c ∧ m ≤ 12 ∧ I o 15 = nI m
    | _ => False,
  fun as I J r I' J' => match as with
    | [.ref o, .int k, .int h] => r = some (.int (repF I o k h (I o 15).toNatClampNeg 0 0 0)) ∧ I = I' ∧ J = J'
    | _ => True)
theorem cb_replay : mv_body 20 mv_t_X1_replay (mv_cs [(15, sp_expectationOn), (150, sp_max)]) sp_replay := by
  intro as I J h
  match as, h with
  | [.ref _, .int k, .int w], ⟨c, m, hc, rfl, hm, h15⟩ =>
    have e2 : 100 + 3 * c + 2 = 102 + 3 * c := by omega
    have key : ∀ (r p : Nat) (a b : Int32), p + r = m → repF I (100 + 3 * c) k w r p a b = repF I (100 + 3 * c) k w m 0 0 0 → mv_V mv_ow mv_swf mv_t_X1_replay (mv_cs [(15, sp_expectationOn), (150, sp_max)]) (sp_replay.2 [.ref (100 + 3 * c), .int k, .int w] I J) 8 [(0, .ref (100 + 3 * c)), (1, .int k), (2, .int w), (3, .int a), (4, .int b), (5, .int (nI p))] [] I J := by
      intro r
      induction r with
      | zero =>
        intro p a b hp hv
        have hp : p = m := hp
        subst hp
        refine mv_run_V (stop := [8]) 60 _ _ _ _ _ ?_
        refine ⟨mv_lay_ch hc, ?_⟩
        refine ⟨fun h1 => ?_, fun h1 => ?_⟩
        · refine ⟨?_, rfl, rfl⟩
          rw [h15, nI_clamp (by omega), ← hv]
          rfl
        · rw [h15] at h1
          exact absurd h1 (nI_nlt (Nat.le_refl p) (by omega))
      | succ r ih =>
        intro p a b hp hv
        rw [repF, e2] at hv
        refine mv_run_V (stop := [8]) 60 _ _ _ _ _ ?_
        refine ⟨mv_lay_ch hc, ?_⟩
        refine ⟨fun h1 => ?_, fun h1 => ?_⟩
        · rw [h15] at h1
          exact absurd (nI_lt (by omega) (by omega)) h1
        · have hcl : (nI p).toNatClampNeg = p := nI_clamp (by omega)
          refine ⟨mv_lay_ch hc, _, mv_rf_ct hc, ?_⟩
          refine ⟨_, mv_lay_ct hc, vp_in_nI (by omega) (by omega), ?_⟩
          refine ⟨fun h2 => ?_, fun h2 => ?_⟩
          · rw [hcl] at h2
            rw [if_pos h2] at hv
            have h3 := ih (p + 1) a b (by omega) hv
            rw [nI_succ] at h3
            exact mv_keep [0, 1, 2, 3, 4, 5] h3
          · rw [hcl] at h2
            rw [if_neg h2] at hv
            refine ⟨mv_lay_ch hc, mv_lay_ch hc, rfl, mv_lay_ch hc, ⟨c, hc, rfl⟩, fun r1 I1 J1 hp1 => ?_⟩
            obtain ⟨rfl, rfl, rfl⟩ := hp1
            refine ⟨rfl, trivial, fun r1 I1 J1 hp1 => ?_⟩
            obtain ⟨rfl, rfl, rfl⟩ := hp1
            refine ⟨rfl, trivial, fun r1 I1 J1 hp1 => ?_⟩
            obtain ⟨rfl, rfl, rfl⟩ := hp1
            refine ⟨fun h3 => ?_, fun h3 => ?_⟩
            · rw [hcl] at h3
              rw [if_pos h3] at hv
              refine ⟨?_, rfl, rfl⟩
              rw [h15, nI_clamp (by omega), ← hv]
            · rw [hcl] at h3
              rw [if_neg (fun z => z h3)] at hv
              refine ⟨fun h4 => ?_, fun h4 => ?_⟩
              · rw [hcl] at h4
                rw [if_neg (fun z => z h4)] at hv
                have h5 := ih (p + 1) _ _ (by omega) hv
                rw [nI_succ] at h5
                rw [hcl]
                exact mv_keep [0, 1, 2, 3, 4, 5] h5
              · rw [hcl] at h4
                rw [if_pos h4] at hv
                refine ⟨?_, rfl, rfl⟩
                rw [h15, nI_clamp (by omega), ← hv]
    refine ⟨rfl, mv_run_V (stop := [8]) 60 _ _ _ _ _ ?_⟩
    exact key m 0 0 0 (Nat.zero_add m) rfl
theorem c_replay {l : Launch} {G : mv_G} {A : Nat → Prop} (hG : mv_adk G A) : mv_Con l G A 20 sp_replay := mv_con hG 20 mv_k_X1_replay (by decide +kernel) (mv_cs_cons (c_expectationOn hG) (mv_cs_max (mv_cs_nil))) cb_replay
