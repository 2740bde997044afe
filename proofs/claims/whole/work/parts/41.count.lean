/-! The reference: a thing comes, the level moves, a count. -/
def mcf (f : Nat → Int32) (a : Nat) (v : Int32) : Nat → Int32 := fun b => if b = a + 4 then f (a + 4) + 1 else if b = a + 11 then f (a + 11) + 1 else if b = a + 12 + (f (a + 11)).toNatClampNeg then v else f b
def msf (f : Nat → Int32) (a : Nat) : Nat → Int32 := fun b => if b = a + 11 then 11 else if a + 12 ≤ b ∧ b < a + 23 then f (b + 1) else f b
def mcm (I : mv_I) (r a : Nat) (v : Int32) : mv_I := mv_sr I r (mcf (if I r (a + 11) = 12 then msf (I r) a else I r) a v)
def sp_comes : mv_SP := (fun as I _ => ∃ (r s : Nat) (v : Int32), (r = 39 ∨ r = 40) ∧ s < 5 ∧ (∃ n : Nat, n ≤ 12 ∧ I r (24 * s + 11) = nI n) ∧ as = [.ref r, .int (nI s), .int v],
  fun as I J r I' J' => r = none ∧ J = J' ∧ match as with
    | [.ref o, .int s, .int v] => I' = mcm I o (24 * s.toNatClampNeg) v
    | _ => True)
theorem cb_comes : mv_body 96 mv_t_X7_comes (mv_cs []) sp_comes := by
  intro as I J h
  obtain ⟨r, s, v, hr, hs, ⟨n, hn, hnn⟩, rfl⟩ := h
  have cs : (nI s).toNatClampNeg = s := nI_clamp (by omega)
  have lay := mv_lay_pt hr
  obtain ⟨a, ha, haa⟩ : ∃ a, a = 24 * s ∧ a ≤ 96 := ⟨_, rfl, by omega⟩
  have ea : nI a = nI 24 * nI s := by rw [ha, e24]
  rw [← ha] at hnn
  have fin : ∀ I1, I1 = mcm I r a v → sp_comes.2 [.ref r, .int (nI s), .int v] I J none I1 J := fun I1 h => ⟨rfl, rfl, by
    show I1 = mcm I r (24 * (nI s).toNatClampNeg) v
    rw [cs, ← ha, h]⟩
  have c4 : (nI a + 4).toNatClampNeg = a + 4 := ix (k := 4)
  have c11 : (nI a + 11).toNatClampNeg = a + 11 := ix (k := 11)
  have key64 : ∀ f : Nat → Int32, (if I r (a + 11) = 12 then msf (I r) a else I r) = f → (∃ m : Nat, m ≤ 11 ∧ f (a + 11) = nI m) → mv_V mv_ow mv_swf mv_t_X7_comes (mv_cs []) (sp_comes.2 [.ref r, .int (nI s), .int v] I J) 64 [(0, .ref r), (1, .int (nI s)), (2, .int v), (3, .int (nI a))] [] (mv_sr I r f) J := by
    intro f hf ⟨m, hm, hfm⟩
    have g11 : (mv_sr I r f) r (nI a + 11).toNatClampNeg = nI m := by rw [c11, mv_sr_ap, if_pos rfl, hfm]
    have cx : (nI a + 12 + nI m).toNatClampNeg = a + 12 + m := by
      show (nI a + nI 12 + nI m).toNatClampNeg = a + 12 + m
      rw [nI_add, nI_add]
      exact nI_clamp (by omega)
    have ixx : vp_in (nI a + 12 + (mv_sr I r f) r (nI a + 11).toNatClampNeg) 121 := by
      rw [g11]
      show vp_in (nI a + nI 12 + nI m) 121
      rw [nI_add, nI_add]
      exact vp_in_nI (by omega) (by decide)
    refine mv_run_V (stop := []) 80 _ _ _ _ _ ?_
    refine ⟨_, lay, ixin (k := 11) (by omega), _, lay, ixx, _, lay, ixin (k := 11) (by omega), _, lay, ixin (k := 11) (by omega), _, lay, ixin (k := 4) (by omega), _, lay, ixin (k := 4) (by omega), ?_⟩
    refine fin _ ?_
    unfold mcm
    rw [hf, g11, cx, c11, c4]
    funext x b
    simp only [mv_si_ap, mv_sr_ap, true_and, if_true]
    unfold mcf
    have hcm : (f (a + 11)).toNatClampNeg = m := by rw [hfm]; exact nI_clamp (by omega)
    rw [hcm]
    have hne : ¬ a + 11 = a + 12 + m := by omega
    have hne2 : ¬ a + 4 = a + 12 + m := by omega
    have hne3 : ¬ a + 4 = a + 11 := by omega
    by_cases hx : x = r
    · subst hx
      simp only [true_and, if_true, hne, hne2, hne3, if_false]
    · simp only [hx, false_and, if_false]
  have key19 : ∀ q k : Nat, k + q = 11 → I r (a + 11) = 12 → mv_V mv_ow mv_swf mv_t_X7_comes (mv_cs []) (sp_comes.2 [.ref r, .int (nI s), .int v] I J) 19 [(0, .ref r), (1, .int (nI s)), (2, .int v), (3, .int (nI a)), (4, .int (nI k))] [] (mv_sr I r (fun b => if a + 12 ≤ b ∧ b < a + 12 + k then I r (b + 1) else I r b)) J := by
    intro q
    induction q with
    | zero =>
      intro k hk h12
      have hk : k = 11 := hk
      subst hk
      refine mv_run_V (stop := [64]) 80 _ _ _ _ _ ?_
      refine ⟨fun h1 => ?_, fun h1 => ?_⟩
      · refine ⟨_, lay, ixin (k := 11) (by omega), _, lay, ixin (k := 11) (by omega), ?_⟩
        refine mv_keep [0, 1, 2, 3] ?_
        have k6 := key64 (msf (I r) a) (if_pos h12) ⟨11, Nat.le_refl _, by unfold msf; rw [if_pos rfl]; rfl⟩
        have e : mv_sr I r (msf (I r) a) = mv_si (mv_sr I r (fun b => if a + 12 ≤ b ∧ b < a + 12 + 11 then I r (b + 1) else I r b)) r (nI a + 11).toNatClampNeg ((mv_sr I r (fun b => if a + 12 ≤ b ∧ b < a + 12 + 11 then I r (b + 1) else I r b)) r (nI a + 11).toNatClampNeg - 1) := by
          rw [c11]
          funext x b
          simp only [mv_si_ap, mv_sr_ap, if_true, true_and]
          by_cases hx : x = r
          · subst hx
            simp only [true_and, if_true]
            unfold msf
            by_cases hb : b = a + 11
            · subst hb
              rw [if_pos rfl, if_pos rfl, if_neg (by omega), h12]
              rfl
            · rw [if_neg hb, if_neg hb]
          · simp only [hx, false_and, if_false]
        rw [e] at k6
        exact k6
      · exact absurd h1 (by decide)
    | succ q ih =>
      intro k hk h12
      refine mv_run_V (stop := [19]) 80 _ _ _ _ _ ?_
      refine ⟨fun h1 => ?_, fun h1 => ?_⟩
      · have h1 : ¬ nI k + nI 1 < nI 12 := h1
        rw [nI_add] at h1
        exact absurd (nI_lt (by omega) (by decide)) h1
      · have cA : (nI a + 12 + nI k).toNatClampNeg = a + 12 + k := by
          show (nI a + nI 12 + nI k).toNatClampNeg = a + 12 + k
          rw [nI_add, nI_add]
          exact nI_clamp (by omega)
        have cB : (nI a + 12 + nI k + 1).toNatClampNeg = a + 12 + k + 1 := by
          show (nI a + nI 12 + nI k + nI 1).toNatClampNeg = a + 12 + k + 1
          rw [nI_add, nI_add, nI_add]
          exact nI_clamp (by omega)
        refine ⟨_, lay, ?_, _, lay, ?_, ?_⟩
        · show vp_in (nI a + nI 12 + nI k + nI 1) 121
          rw [nI_add, nI_add, nI_add]
          exact vp_in_nI (by omega) (by decide)
        · show vp_in (nI a + nI 12 + nI k) 121
          rw [nI_add, nI_add]
          exact vp_in_nI (by omega) (by decide)
        · have k6 := ih (k + 1) (by omega) h12
          have e : mv_sr I r (fun b => if a + 12 ≤ b ∧ b < a + 12 + (k + 1) then I r (b + 1) else I r b) = mv_si (mv_sr I r (fun b => if a + 12 ≤ b ∧ b < a + 12 + k then I r (b + 1) else I r b)) r (nI a + 12 + nI k).toNatClampNeg ((mv_sr I r (fun b => if a + 12 ≤ b ∧ b < a + 12 + k then I r (b + 1) else I r b)) r (nI a + 12 + nI k + 1).toNatClampNeg) := by
            rw [cA, cB]
            funext x b
            simp only [mv_si_ap, mv_sr_ap, if_true]
            by_cases hx : x = r
            · subst hx
              simp only [true_and, if_true]
              by_cases hb : b = a + 12 + k
              · subst hb
                rw [if_pos rfl, if_pos (by omega), if_neg (by omega)]
              · rw [if_neg hb]
                by_cases hb2 : a + 12 ≤ b ∧ b < a + 12 + k
                · rw [if_pos (by omega), if_pos hb2]
                · rw [if_neg (by omega), if_neg hb2]
            · simp only [hx, false_and, if_false]
          rw [e, nI_succ] at k6
          exact k6
  have key5 : mv_V mv_ow mv_swf mv_t_X7_comes (mv_cs []) (sp_comes.2 [.ref r, .int (nI s), .int v] I J) 5 [(0, .ref r), (1, .int (nI s)), (2, .int v), (3, .int (nI a))] [] I J := by
    refine mv_run_V (stop := [19, 64]) 40 _ _ _ _ _ ?_
    refine ⟨_, lay, ixin (k := 11) (by omega), fun h1 => ?_, fun h1 => ?_⟩
    · have h1 : ¬ I r (nI a + 11).toNatClampNeg = 12 := h1
      rw [c11] at h1
      have k6 := key64 (I r) (if_neg h1) ⟨n, by
        have : n ≠ 12 := fun z => h1 (by rw [hnn, z]; rfl)
        omega, hnn⟩
      have e : mv_sr I r (I r) = I := by
        funext x b
        rw [mv_sr_ap]
        by_cases hx : x = r
        · rw [if_pos hx, hx]
        · rw [if_neg hx]
      rw [e] at k6
      exact k6
    · have h1 : I r (nI a + 11).toNatClampNeg = 12 := h1
      rw [c11] at h1
      have k6 := key19 11 0 rfl h1
      have e : mv_sr I r (fun b => if a + 12 ≤ b ∧ b < a + 12 + 0 then I r (b + 1) else I r b) = I := by
        funext x b
        rw [mv_sr_ap]
        by_cases hx : x = r
        · rw [if_pos hx, if_neg (by omega), hx]
        · rw [if_neg hx]
      rw [e] at k6
      exact k6
  rw [ea] at key5
  refine ⟨rfl, mv_run_V (stop := [5]) 40 _ _ _ _ _ ?_⟩
  exact key5
theorem c_comes {l : Launch} {G : mv_G} {A : Nat → Prop} (hG : mv_adk G A) : mv_Con l G A 96 sp_comes := mv_con hG 96 mv_k_X7_comes (by decide +kernel) (mv_cs_nil) cb_comes
def mmv (I : mv_I) (r a s : Nat) (v : Int32) : mv_I := mv_si I r (a + 10) (mv_mx 0 (mv_mn 1584 (I r (a + 10) + ((16 * (v - mfg I s (I r (a + 4)).toNatClampNeg + 5) - I r (a + 10)) >>> (I r (a + 2) &&& 31)))))
def sp_moves : mv_SP := (fun as I _ => ∃ (r s : Nat) (v : Int32), (r = 39 ∨ r = 40) ∧ s < 5 ∧ MB 99999 I r (24 * s) s ∧ as = [.ref 30, .ref r, .int (nI s), .int v],
  fun as I J r I' J' => r = none ∧ J = J' ∧ match as with
    | [_, .ref o, .int s, .int v] => I' = mmv I o (24 * s.toNatClampNeg) s.toNatClampNeg v
    | _ => True)
theorem mx_hi {x : Int32} (h1 : ¬ x < 0) (h2 : 1584 < x) : mv_mx 0 (mv_mn 1584 x) = 1584 := by
  unfold mv_mn
  rw [if_neg (fun z => absurd h2 (Int32.not_lt.mpr (Int32.le_of_lt z)))]
  rfl
theorem mx_mid {x : Int32} (h1 : ¬ x < 0) (h2 : ¬ 1584 < x) : mv_mx 0 (mv_mn 1584 x) = x := by
  have e : mv_mn 1584 x = x := by
    unfold mv_mn
    split
    · rfl
    · rename_i h3
      exact Int32.le_antisymm (Int32.not_lt.mp h3) (Int32.not_lt.mp h2)
  rw [e]
  unfold mv_mx
  split
  · rfl
  · rename_i h3
    exact Int32.le_antisymm (Int32.not_lt.mp h1) (Int32.not_lt.mp h3)
theorem mx_lo {x : Int32} (h1 : x < 0) : mv_mx 0 (mv_mn 1584 x) = 0 := by
  have e : mv_mn 1584 x = x := by
    unfold mv_mn
    rw [if_pos]
    rw [Int32.lt_iff_toInt_lt] at h1 ⊢
    have e0 : (0 : Int32).toInt = 0 := rfl
    have e1 : (1584 : Int32).toInt = 1584 := rfl
    omega
  rw [e]
  unfold mv_mx
  rw [if_neg (fun z => absurd h1 (Int32.not_lt.mpr (Int32.le_of_lt z)))]
theorem cb_moves : mv_body 121 mv_t_X7_moves (mv_cs [(105, sp_figureOf)]) sp_moves := by
  intro as I J h
  obtain ⟨r, s, v, hr, hs, ⟨⟨d, hd, hdd⟩, -, hL⟩, rfl⟩ := h
  have cs : (nI s).toNatClampNeg = s := nI_clamp (by omega)
  have lay := mv_lay_pt hr
  obtain ⟨a, ha, haa⟩ : ∃ a, a = 24 * s ∧ a ≤ 96 := ⟨_, rfl, by omega⟩
  have ea : nI a = nI 24 * nI s := by rw [ha, e24]
  rw [← ha] at hdd
  have c2 : (nI a + 2).toNatClampNeg = a + 2 := ix (k := 2)
  have c4 : (nI a + 4).toNatClampNeg = a + 4 := ix (k := 4)
  have c10 : (nI a + 10).toNatClampNeg = a + 10 := ix (k := 10)
  have hd4 : I r (nI a + 4).toNatClampNeg = nI d := by rw [c4, hdd]
  have fin : ∀ x, x = mv_mx 0 (mv_mn 1584 (I r (nI a + 10).toNatClampNeg + ((16 * (v - mfg I (nI s).toNatClampNeg (I r (nI a + 4).toNatClampNeg).toNatClampNeg + 5) - I r (nI a + 10).toNatClampNeg) >>> (I r (nI a + 2).toNatClampNeg &&& 31)))) → sp_moves.2 [.ref 30, .ref r, .int (nI s), .int v] I J none (mv_si I r (nI a + 10).toNatClampNeg x) J := fun x h => ⟨rfl, rfl, by
    show _ = mmv I r (24 * (nI s).toNatClampNeg) (nI s).toNatClampNeg v
    rw [c2, c4, c10, cs] at h
    rw [cs, ← ha, h, c10]
    rfl⟩
  have key6 : mv_V mv_ow mv_swf mv_t_X7_moves (mv_cs [(105, sp_figureOf)]) (sp_moves.2 [.ref 30, .ref r, .int (nI s), .int v] I J) 6 [(0, .ref 30), (1, .ref r), (2, .int (nI s)), (3, .int v), (4, .int (nI a))] [] I J := by
    refine mv_run_V (stop := []) 80 _ _ _ _ _ ?_
    refine ⟨_, lay, ixin (k := 4) (by omega), rfl, rfl, ⟨s, d, hs, by omega, hL, congrArg (fun z => [Value.ref 30, .int (nI s), .int z]) hd4⟩, fun r1 I1 J1 hp => ?_⟩
    obtain ⟨rfl, rfl, hq⟩ := hp
    have hq : r1 = some (.int (mfg I (nI s).toNatClampNeg (I r (nI a + 4).toNatClampNeg).toNatClampNeg)) := hq
    subst hq
    refine ⟨_, lay, ixin (k := 10) (by omega), _, lay, ixin (k := 10) (by omega), _, lay, ixin (k := 2) (by omega), fun h1 => ?_, fun h1 => ?_⟩
    · refine ⟨fun h2 => ?_, fun h2 => ?_⟩
      · exact ⟨_, lay, ixin (k := 10) (by omega), fin _ (mx_mid h1 h2).symm⟩
      · exact ⟨_, lay, ixin (k := 10) (by omega), fin _ (mx_hi h1 h2).symm⟩
    · exact ⟨_, lay, ixin (k := 10) (by omega), fin _ (mx_lo h1).symm⟩
  rw [ea] at key6
  refine ⟨rfl, mv_run_V (stop := [6]) 40 _ _ _ _ _ ?_⟩
  exact key6
theorem c_moves {l : Launch} {G : mv_G} {A : Nat → Prop} (hG : mv_adk G A) : mv_Con l G A 121 sp_moves := mv_con hG 121 mv_k_X7_moves (by decide +kernel) (mv_cs_cons (c_figureOf hG) (mv_cs_nil)) cb_moves
