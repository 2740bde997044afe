/-! The reference: figures told, pages, small numbers. -/
def mtl (I : mv_I) (r a s k : Nat) : Int32 := if k = 12 then mex I r a s + 100 else if k = 13 then I r (a + 11) else I r (a + (k - 1))
def sp_tellOf : mv_SP := (fun as I _ => ∃ r s k : Nat, (r = 39 ∨ r = 40) ∧ s < 5 ∧ 1 ≤ k ∧ k ≤ 13 ∧ MB 99999 I r (24 * s) s ∧ as = [.ref 30, .ref r, .int (nI s), .int (nI k)],
  fun as I J r I' J' => I = I' ∧ J = J' ∧ match as with
    | [_, .ref o, .int s, .int k] => r = some (.int (mtl I o (24 * s.toNatClampNeg) s.toNatClampNeg k.toNatClampNeg))
    | _ => True)
theorem cb_tellOf : mv_body 140 mv_t_X7_tellOf (mv_cs [(101, sp_expected)]) sp_tellOf := by
  intro as I J h
  obtain ⟨r, s, k, hr, hs, hk1, hk2, hMB, rfl⟩ := h
  have cs : (nI s).toNatClampNeg = s := nI_clamp (by omega)
  have ck : (nI k).toNatClampNeg = k := nI_clamp (by omega)
  have lay := mv_lay_pt hr
  obtain ⟨a, ha, haa⟩ : ∃ a, a = 24 * s ∧ a ≤ 96 := ⟨_, rfl, by omega⟩
  have ea : nI a = nI 24 * nI s := by rw [ha, e24]
  have c11 : (nI a + 11).toNatClampNeg = a + 11 := ix (k := 11)
  have ek : nI a + nI k - 1 = nI (a + (k - 1)) := by
    rw [nI_add, show a + k = a + (k - 1) + 1 by omega, nI_pred]
  have fin : ∀ x : Int32, x = mtl I r a s k → sp_tellOf.2 [.ref 30, .ref r, .int (nI s), .int (nI k)] I J (some (.int x)) I J := by
    intro x hx
    refine ⟨rfl, rfl, ?_⟩
    show some (Value.int x) = some (Value.int (mtl I r (24 * (nI s).toNatClampNeg) (nI s).toNatClampNeg (nI k).toNatClampNeg))
    rw [cs, ck, ← ha, hx]
  have key6 : mv_V mv_ow mv_swf mv_t_X7_tellOf (mv_cs [(101, sp_expected)]) (sp_tellOf.2 [.ref 30, .ref r, .int (nI s), .int (nI k)] I J) 6 [(0, .ref 30), (1, .ref r), (2, .int (nI s)), (3, .int (nI k)), (4, .int (nI a))] [] I J := by
    refine mv_run_V (stop := []) 60 _ _ _ _ _ ?_
    refine ⟨fun h1 => ?_, fun h1 => ?_⟩
    · have h1 := (nI_eq (b := 12) (by omega) (by decide)).mp h1
      refine ⟨rfl, rfl, ⟨r, s, hr, hs, hMB, rfl⟩, fun r1 I1 J1 hp => ?_⟩
      obtain ⟨rfl, rfl, hq⟩ := hp
      have hq : r1 = some (.int (mex I r (24 * (nI s).toNatClampNeg) (nI s).toNatClampNeg)) := hq
      subst hq
      exact fin _ (by unfold mtl; rw [if_pos h1, cs, ← ha])
    · have h1 : ¬ k = 12 := fun z => h1 (by rw [z]; rfl)
      refine ⟨fun h2 => ?_, fun h2 => ?_⟩
      · have h2 := (nI_eq (b := 13) (by omega) (by decide)).mp h2
        exact ⟨_, lay, ixin (k := 11) (by omega), fin _ (by unfold mtl; rw [if_neg h1, if_pos h2, c11])⟩
      · have h2 : ¬ k = 13 := fun z => h2 (by rw [z]; rfl)
        refine ⟨_, lay, ?_, fin _ ?_⟩
        · show vp_in (nI a + nI k - 1) 121
          rw [ek]
          exact vp_in_nI (by omega) (by decide)
        · rw [ek, nI_clamp (by omega)]
          unfold mtl
          rw [if_neg h1, if_neg h2]
  rw [ea] at key6
  refine ⟨rfl, mv_run_V (stop := [6]) 40 _ _ _ _ _ ?_⟩
  exact key6
theorem c_tellOf {l : Launch} {G : mv_G} {A : Nat → Prop} (hG : mv_adk G A) : mv_Con l G A 140 sp_tellOf := mv_con hG 140 mv_k_X7_tellOf (by decide +kernel) (mv_cs_cons (c_expected hG) (mv_cs_nil)) cb_tellOf
def mlt (I : mv_I) : mv_I := mv_sr I 40 (fa_fill (I 39) (I 40) 121)
theorem mv_sr_self {I : mv_I} {r : Nat} {f : Nat → Int32} (h : ∀ b, f b = I r b) : mv_sr I r f = I := by
  funext x b
  rw [mv_sr_ap]
  by_cases hx : x = r
  · rw [if_pos hx, hx, h]
  · rw [if_neg hx]
theorem mv_si_sr {I : mv_I} {r k : Nat} {x : Int32} : mv_si I r k x = mv_sr I r (upd (I r) k x) := by
  funext y b
  rw [mv_sr_ap, mv_si_ap]
  unfold upd
  by_cases hx : y = r
  · subst hx
    simp only [true_and, if_true]
  · simp only [hx, false_and, if_false]
theorem mv_sr_sr {I : mv_I} {r : Nat} {f g : Nat → Int32} : mv_sr (mv_sr I r f) r g = mv_sr I r g := by
  funext y b
  rw [mv_sr_ap, mv_sr_ap, mv_sr_ap]
  split <;> rfl
theorem mv_si_srx {I : mv_I} {r k : Nat} {f : Nat → Int32} {x : Int32} : mv_si (mv_sr I r f) r k x = mv_sr I r (upd f k x) := by
  rw [mv_si_sr, mv_sr_sr]
  congr 2
  funext b
  rw [mv_sr_ap, if_pos rfl]
theorem mv_sr_at {I : mv_I} {r : Nat} {f : Nat → Int32} : mv_sr I r f r = f := by
  funext b
  rw [mv_sr_ap, if_pos rfl]
def sp_layTrial : mv_SP := (fun as _ _ => as = [.ref 30], fun _ I J r I' J' => r = none ∧ I' = mlt I ∧ J = J')
theorem cb_layTrial : mv_body 115 mv_t_X7_layTrial (mv_cs []) sp_layTrial := by
  intro as I J h
  have h : as = [.ref 30] := h
  subst h
  have key : ∀ q k : Nat, k + q = 121 → mv_V mv_ow mv_swf mv_t_X7_layTrial (mv_cs []) (sp_layTrial.2 [.ref 30] I J) 2 [(0, .ref 30), (1, .int (nI k))] [] (mv_sr I 40 (fa_fill (I 39) (I 40) k)) J := by
    intro q
    induction q with
    | zero =>
      intro k hk
      have hk : k = 121 := hk
      subst hk
      refine mv_run_V (stop := [2]) 30 _ _ _ _ _ ?_
      refine ⟨fun h1 => ?_, fun h1 => ?_⟩
      · exact ⟨rfl, rfl, rfl⟩
      · exact absurd h1 (by decide)
    | succ q ih =>
      intro k hk
      have ck : (nI k).toNatClampNeg = k := nI_clamp (by omega)
      refine mv_run_V (stop := [2]) 60 _ _ _ _ _ ?_
      refine ⟨fun h1 => ?_, fun h1 => ?_⟩
      · have h1 : ¬ nI k < nI 121 := h1
        exact absurd (nI_lt (by omega) (by decide)) h1
      · refine ⟨rfl, _, rfl, rfl, _, rfl, _, rfl, vp_in_nI (by omega) (by decide), _, rfl, vp_in_nI (by omega) (by decide), ?_⟩
        have k6 := ih (k + 1) (by omega)
        rw [← fa_fill_succ, ← mv_si_srx, nI_succ] at k6
        rw [ck]
        exact k6
  refine ⟨rfl, mv_run_V (stop := [2]) 40 _ _ _ _ _ ?_⟩
  have k6 := key 121 0 rfl
  rw [mv_sr_self (fun b => by rw [fa_fill_0])] at k6
  exact k6
theorem c_layTrial {l : Launch} {G : mv_G} {A : Nat → Prop} (hG : mv_adk G A) : mv_Con l G A 115 sp_layTrial := mv_con hG 115 mv_k_X7_layTrial (by decide +kernel) (mv_cs_nil) cb_layTrial
/-- how many acts can be undone before this one is noted, 13 at most -/
def mnE (I : mv_I) : Nat := if I 30 16 = 14 then 13 else (I 30 16).toNatClampNeg
def mnB (I : mv_I) : Nat → Int32 := fb_put (if I 30 16 = 14 then fa_fill (fun b => I 41 (b + 121)) (I 41) 1573 else I 41) (I 39) (121 * mnE I) 121
def mnt (I : mv_I) : mv_I := mv_si (mv_sr (mv_si I 30 16 (nI (mnE I))) 41 (mnB I)) 30 16 (nI (mnE I + 1))
def sp_note : mv_SP := (fun as I _ => as = [.ref 30] ∧ ∃ d : Nat, d ≤ 14 ∧ I 30 16 = nI d, fun _ I J r I' J' => r = none ∧ I' = mnt I ∧ J = J')
theorem cb_note : mv_body 124 mv_t_X7_note (mv_cs []) sp_note := by
  intro as I J h
  obtain ⟨rfl, d, hd, hdd⟩ := h
  have key51 : ∀ (f : Nat → Int32) (e : Nat), e ≤ 13 → e = mnE I → f = (if I 30 16 = 14 then fa_fill (fun b => I 41 (b + 121)) (I 41) 1573 else I 41) → ∀ q k : Nat, k + q = 121 → mv_V mv_ow mv_swf mv_t_X7_note (mv_cs []) (sp_note.2 [.ref 30] I J) 51 [(0, .ref 30), (1, .int (nI k))] [] (mv_sr (mv_si I 30 16 (nI e)) 41 (fb_put f (I 39) (121 * e) k)) J := by
    intro f e he hee hf q
    induction q with
    | zero =>
      intro k hk
      have hk : k = 121 := hk
      subst hk
      refine mv_run_V (stop := [51]) 40 _ _ _ _ _ ?_
      refine ⟨fun h1 => ?_, fun h1 => ?_⟩
      · refine ⟨rfl, rfl, rfl, rfl, ?_, rfl⟩
        unfold mnt mnB
        rw [← hee, ← hf, nI_succ]
        rfl
      · exact absurd h1 (by decide)
    | succ q ih =>
      intro k hk
      have ck : (nI k).toNatClampNeg = k := nI_clamp (by omega)
      have e121 : nI 121 * nI e + nI k = nI (121 * e + k) := by
        rw [← nI_add]
        congr 1
        exact (Int32.ofNat_mul 121 e).symm
      have cx : (121 * nI e + nI k).toNatClampNeg = 121 * e + k := by
        show (nI 121 * nI e + nI k).toNatClampNeg = 121 * e + k
        rw [e121]
        exact nI_clamp (by omega)
      refine mv_run_V (stop := [51]) 60 _ _ _ _ _ ?_
      refine ⟨fun h1 => ?_, fun h1 => ?_⟩
      · have h1 : ¬ nI k < nI 121 := h1
        exact absurd (nI_lt (by omega) (by decide)) h1
      · refine ⟨rfl, _, rfl, rfl, rfl, _, rfl, _, rfl, vp_in_nI (by omega) (by decide), _, rfl, ?_, ?_⟩
        · show vp_in (nI 121 * nI e + nI k) 1694
          rw [e121]
          exact vp_in_nI (by omega) (by decide)
        · have k6 := ih (k + 1) (by omega)
          rw [← fb_put_succ, ← mv_si_srx, nI_succ, ← cx] at k6
          rw [ck]
          exact k6
  have key11 : ∀ q k : Nat, k + q = 1573 → I 30 16 = 14 → mv_V mv_ow mv_swf mv_t_X7_note (mv_cs []) (sp_note.2 [.ref 30] I J) 11 [(0, .ref 30), (1, .int (nI k))] [] (mv_sr I 41 (fa_fill (fun b => I 41 (b + 121)) (I 41) k)) J := by
    intro q
    induction q with
    | zero =>
      intro k hk h14
      have hk : k = 1573 := hk
      subst hk
      refine mv_run_V (stop := [11, 51]) 40 _ _ _ _ _ ?_
      refine ⟨fun h1 => ?_, fun h1 => ?_⟩
      · refine ⟨rfl, rfl, rfl, ?_⟩
        have k6 := key51 _ 13 (Nat.le_refl _) (by unfold mnE; rw [if_pos h14]) rfl 121 0 rfl
        rw [fb_put_0, if_pos h14] at k6
        have e : mv_sr (mv_si I 30 16 (nI 13)) 41 (fa_fill (fun b => I 41 (b + 121)) (I 41) 1573) = mv_si (mv_sr I 41 (fa_fill (fun b => I 41 (b + 121)) (I 41) 1573)) 30 16 ((mv_sr I 41 (fa_fill (fun b => I 41 (b + 121)) (I 41) 1573)) 30 16 - 1) := by
          funext x b
          rw [mv_sr_ap, mv_si_ap, mv_si_ap, mv_sr_ap, mv_sr_ap, if_neg (by decide : ¬ 30 = 41), h14]
          by_cases hx : x = 41
          · rw [if_pos hx, if_neg (by omega), if_pos hx]
          · rw [if_neg hx, if_neg hx]
            rfl
        rw [e] at k6
        exact k6
      · exact absurd h1 (by decide)
    | succ q ih =>
      intro k hk h14
      have ck : (nI k).toNatClampNeg = k := nI_clamp (by omega)
      have cx : (nI k + 121).toNatClampNeg = k + 121 := ix (k := 121)
      refine mv_run_V (stop := [11]) 60 _ _ _ _ _ ?_
      refine ⟨fun h1 => ?_, fun h1 => ?_⟩
      · have h1 : ¬ nI k < nI 1573 := h1
        exact absurd (nI_lt (by omega) (by decide)) h1
      · refine ⟨rfl, _, rfl, rfl, _, rfl, _, rfl, ixin (k := 121) (by omega), _, rfl, vp_in_nI (by omega) (by decide), ?_⟩
        have k6 := ih (k + 1) (by omega) h14
        have e : mv_sr I 41 (fa_fill (fun b => I 41 (b + 121)) (I 41) (k + 1)) = mv_si (mv_sr I 41 (fa_fill (fun b => I 41 (b + 121)) (I 41) k)) 41 k ((mv_sr I 41 (fa_fill (fun b => I 41 (b + 121)) (I 41) k)) 41 (nI k + 121).toNatClampNeg) := by
          rw [mv_si_srx, mv_sr_at, cx, fa_fill_out (by omega), ← fa_fill_succ]
        rw [e, nI_succ] at k6
        rw [ck]
        exact k6
  refine ⟨rfl, mv_run_V (stop := [11, 51]) 40 _ _ _ _ _ ?_⟩
  refine ⟨rfl, fun h1 => ?_, fun h1 => ?_⟩
  · have h1 : ¬ I 30 16 = 14 := h1
    have hd14 : d ≠ 14 := fun z => h1 (by rw [hdd, z]; rfl)
    have k6 := key51 _ d (by omega) (by unfold mnE; rw [if_neg h1, hdd, nI_clamp (by omega)]) rfl 121 0 rfl
    rw [fb_put_0, if_neg h1] at k6
    have e : mv_sr (mv_si I 30 16 (nI d)) 41 (I 41) = I := by
      rw [← hdd]
      funext x b
      rw [mv_sr_ap, mv_si_ap]
      by_cases hx : x = 41
      · rw [if_pos hx, hx]
      · rw [if_neg hx]
        split
        · rename_i hh; rw [hh.1, hh.2]
        · rfl
    rw [e] at k6
    exact k6
  · have h1 : I 30 16 = 14 := h1
    have k6 := key11 1573 0 rfl h1
    rw [mv_sr_self (fun b => by rw [fa_fill_0])] at k6
    exact k6
theorem c_note {l : Launch} {G : mv_G} {A : Nat → Prop} (hG : mv_adk G A) : mv_Con l G A 124 sp_note := mv_con hG 124 mv_k_X7_note (by decide +kernel) (mv_cs_nil) cb_note
def sp_has : mv_SP := (fun as _ _ => ∃ x k : Int32, as = [.int x, .int k],
  fun as I J r I' J' => I = I' ∧ J = J' ∧ match as with
    | [.int x, .int k] => r = some (.int (mv_b ((x >>> (k &&& 31)) &&& 1 = 1)))
    | _ => True)
theorem cb_has : mv_body 108 mv_t_X7_has (mv_cs []) sp_has := by
  intro as I J h
  obtain ⟨x, k, rfl⟩ := h
  refine ⟨rfl, mv_run_V (stop := []) 30 _ _ _ _ _ ?_⟩
  refine ⟨fun h1 => ?_, fun h1 => ?_⟩
  · exact ⟨Or.inl rfl, rfl, rfl, by show _ = some (Value.int (mv_b _)); rw [mv_bf h1]⟩
  · exact ⟨Or.inr rfl, rfl, rfl, by show _ = some (Value.int (mv_b _)); rw [mv_bt h1]⟩
theorem c_has {l : Launch} {G : mv_G} {A : Nat → Prop} (hG : mv_adk G A) : mv_Con l G A 108 sp_has := mv_con hG 108 mv_k_X7_has (by decide +kernel) (mv_cs_nil) cb_has
def onF (x : Int32) : Nat → Int32
  | 0 => 0
  | k + 1 => onF x k + ((x >>> (nI k &&& 31)) &&& 1)
def sp_ones : mv_SP := (fun as _ _ => ∃ x : Int32, as = [.int x],
  fun as I J r I' J' => I = I' ∧ J = J' ∧ match as with
    | [.int x] => r = some (.int (onF x 8))
    | _ => True)
theorem cb_ones : mv_body 125 mv_t_X7_ones (mv_cs []) sp_ones := by
  intro as I J h
  obtain ⟨x, rfl⟩ := h
  have key : ∀ q k : Nat, k + q = 8 → mv_V mv_ow mv_swf mv_t_X7_ones (mv_cs []) (sp_ones.2 [.int x] I J) 4 [(0, .int x), (1, .int (onF x k)), (2, .int (nI k))] [] I J := by
    intro q
    induction q with
    | zero =>
      intro k hk
      have hk : k = 8 := hk
      subst hk
      refine mv_run_V (stop := [4]) 30 _ _ _ _ _ ?_
      refine ⟨fun h1 => ?_, fun h1 => ?_⟩
      · exact ⟨rfl, rfl, rfl⟩
      · exact absurd h1 (by decide)
    | succ q ih =>
      intro k hk
      refine mv_run_V (stop := [4]) 30 _ _ _ _ _ ?_
      refine ⟨fun h1 => ?_, fun h1 => ?_⟩
      · have h1 : ¬ nI k < nI 8 := h1
        exact absurd (nI_lt (by omega) (by decide)) h1
      · have k6 := ih (k + 1) (by omega)
        rw [nI_succ] at k6
        exact k6
  refine ⟨rfl, mv_run_V (stop := [4]) 30 _ _ _ _ _ ?_⟩
  exact key 8 0 rfl
theorem c_ones {l : Launch} {G : mv_G} {A : Nat → Prop} (hG : mv_adk G A) : mv_Con l G A 125 sp_ones := mv_con hG 125 mv_k_X7_ones (by decide +kernel) (mv_cs_nil) cb_ones
def pwF (x : Int32) : Nat → Int32
  | 0 => 1
  | k + 1 => pwF x k * x
def sp_power : mv_SP := (fun as _ _ => ∃ (x : Int32) (n : Nat), n < 1000 ∧ as = [.int x, .int (nI n)],
  fun as I J r I' J' => I = I' ∧ J = J' ∧ match as with
    | [.int x, .int n] => r = some (.int (pwF x n.toNatClampNeg))
    | _ => True)
theorem cb_power : mv_body 128 mv_t_X7_power (mv_cs []) sp_power := by
  intro as I J h
  obtain ⟨x, n, hn, rfl⟩ := h
  have cn : (nI n).toNatClampNeg = n := nI_clamp (by omega)
  have key : ∀ q k : Nat, k + q = n → mv_V mv_ow mv_swf mv_t_X7_power (mv_cs []) (sp_power.2 [.int x, .int (nI n)] I J) 4 [(0, .int x), (1, .int (nI n)), (2, .int (pwF x k)), (3, .int (nI k))] [] I J := by
    intro q
    induction q with
    | zero =>
      intro k hk
      have hk : k = n := hk
      subst hk
      refine mv_run_V (stop := [4]) 30 _ _ _ _ _ ?_
      refine ⟨fun h1 => ?_, fun h1 => ?_⟩
      · exact ⟨rfl, rfl, by show _ = some (Value.int (pwF x (nI k).toNatClampNeg)); rw [cn]⟩
      · exact absurd h1 (nI_nlt (Nat.le_refl _) (by omega))
    | succ q ih =>
      intro k hk
      refine mv_run_V (stop := [4]) 30 _ _ _ _ _ ?_
      refine ⟨fun h1 => ?_, fun h1 => ?_⟩
      · exact absurd (nI_lt (by omega) (by omega)) h1
      · have k6 := ih (k + 1) (by omega)
        rw [nI_succ] at k6
        exact k6
  refine ⟨rfl, mv_run_V (stop := [4]) 30 _ _ _ _ _ ?_⟩
  exact key n 0 (Nat.zero_add n)
theorem c_power {l : Launch} {G : mv_G} {A : Nat → Prop} (hG : mv_adk G A) : mv_Con l G A 128 sp_power := mv_con hG 128 mv_k_X7_power (by decide +kernel) (mv_cs_nil) cb_power
def lpF (x : Int64) : Nat → Int64
  | 0 => 1
  | k + 1 => lpF x k * x
def sp_longPower : mv_SP := (fun as _ _ => ∃ (x : Int64) (n : Nat), n < 1000 ∧ as = [.long x, .int (nI n)],
  fun as I J r I' J' => I = I' ∧ J = J' ∧ match as with
    | [.long x, .int n] => r = some (.long (lpF x n.toNatClampNeg))
    | _ => True)
theorem cb_longPower : mv_body 119 mv_t_X7_longPower (mv_cs []) sp_longPower := by
  intro as I J h
  obtain ⟨x, n, hn, rfl⟩ := h
  have cn : (nI n).toNatClampNeg = n := nI_clamp (by omega)
  have key : ∀ q k : Nat, k + q = n → mv_V mv_ow mv_swf mv_t_X7_longPower (mv_cs []) (sp_longPower.2 [.long x, .int (nI n)] I J) 5 [(0, .long x), (2, .int (nI n)), (3, .long (lpF x k)), (5, .int (nI k))] [] I J := by
    intro q
    induction q with
    | zero =>
      intro k hk
      have hk : k = n := hk
      subst hk
      refine mv_run_V (stop := [5]) 30 _ _ _ _ _ ?_
      refine ⟨fun h1 => ?_, fun h1 => ?_⟩
      · exact ⟨rfl, rfl, by show _ = some (Value.long (lpF x (nI k).toNatClampNeg)); rw [cn]⟩
      · exact absurd h1 (nI_nlt (Nat.le_refl _) (by omega))
    | succ q ih =>
      intro k hk
      refine mv_run_V (stop := [5]) 30 _ _ _ _ _ ?_
      refine ⟨fun h1 => ?_, fun h1 => ?_⟩
      · exact absurd (nI_lt (by omega) (by omega)) h1
      · have k6 := ih (k + 1) (by omega)
        rw [nI_succ] at k6
        exact k6
  refine ⟨rfl, mv_run_V (stop := [5]) 30 _ _ _ _ _ ?_⟩
  exact key n 0 (Nat.zero_add n)
theorem c_longPower {l : Launch} {G : mv_G} {A : Nat → Prop} (hG : mv_adk G A) : mv_Con l G A 119 sp_longPower := mv_con hG 119 mv_k_X7_longPower (by decide +kernel) (mv_cs_nil) cb_longPower
def sp_mFactorial : mv_SP := (fun as _ _ => ∃ n : Nat, n < 20 ∧ as = [.int (nI n)],
  fun as I J r I' J' => I = I' ∧ J = J' ∧ match as with
    | [.int n] => r = some (.int (nI (facN n.toNatClampNeg)))
    | _ => True)
theorem cb_mFactorial : mv_body 102 mv_t_X7_factorial (mv_cs []) sp_mFactorial := by
  intro as I J h
  obtain ⟨n, hn, rfl⟩ := h
  have cn : (nI n).toNatClampNeg = n := nI_clamp (by omega)
  have fin : ∀ k : Nat, facN k = facN n → sp_mFactorial.2 [.int (nI n)] I J (some (.int (nI (facN k)))) I J := by
    intro k hk
    refine ⟨rfl, rfl, ?_⟩
    show _ = some (Value.int (nI (facN (nI n).toNatClampNeg)))
    rw [cn, hk]
  have key : ∀ r k : Nat, k + r = n ∨ (r = 0 ∧ n ≤ k ∧ facN k = facN n ∧ k < 100) → mv_V mv_ow mv_swf mv_t_X7_factorial (mv_cs []) (sp_mFactorial.2 [.int (nI n)] I J) 4 [(0, .int (nI n)), (1, .int (nI (facN k))), (2, .int (nI (k + 1)))] [] I J := by
    intro r
    induction r with
    | zero =>
      intro k hk
      have hk : n ≤ k ∧ facN k = facN n ∧ k < 100 := by
        rcases hk with h | h
        · have : k = n := h
          subst this
          exact ⟨Nat.le_refl _, rfl, by omega⟩
        · exact h.2
      refine mv_run_V (stop := [4]) 20 _ _ _ _ _ ?_
      refine ⟨fun h1 => ?_, fun h1 => ?_⟩
      · exact fin k hk.2.1
      · exact absurd (nI_lt (by omega) (by omega)) h1
    | succ r ih =>
      intro k hk
      have hk : k + (r + 1) = n := by omega
      refine mv_run_V (stop := [4]) 20 _ _ _ _ _ ?_
      refine ⟨fun h1 => ?_, fun h1 => ?_⟩
      · exact absurd h1 (nI_nlt (by omega) (by omega))
      · have h2 := ih (k + 1) (Or.inl (by omega))
        have em : nI (facN k * (k + 1)) = nI (facN k) * nI (k + 1) := Int32.ofNat_mul _ _
        rw [facN, em, nI_succ (k + 1)] at h2
        exact h2
  refine ⟨rfl, mv_run_V (stop := [4]) 20 _ _ _ _ _ ?_⟩
  exact key (n - 1) 1 (by
    rcases n with _ | n
    · exact Or.inr ⟨rfl, by omega, rfl, by omega⟩
    · exact Or.inl (by omega))
theorem c_mFactorial {l : Launch} {G : mv_G} {A : Nat → Prop} (hG : mv_adk G A) : mv_Con l G A 102 sp_mFactorial := mv_con hG 102 mv_k_X7_factorial (by decide +kernel) (mv_cs_nil) cb_mFactorial
