/-! The reference: figures of the text. -/
def PL (I : mv_I) (q : Nat) : mv_I := mv_si I 30 3 (nI q)
theorem PL_PL {I : mv_I} {q r : Nat} : mv_si (PL I q) 30 3 (nI r) = PL I r := by
  funext a b
  unfold PL
  rw [mv_si_ap, mv_si_ap, mv_si_ap]
  split <;> rfl
theorem PL_ne {I : mv_I} {q a : Nat} (h : a ≠ 30) : PL I q a = I a := by
  unfold PL
  rw [mv_si_ne h]
theorem PL_30 {I : mv_I} {q b : Nat} (h : b ≠ 3) : PL I q 30 b = I 30 b := by
  unfold PL
  rw [mv_si_ap, if_neg (fun z => h z.2)]
theorem PL_3 {I : mv_I} {q : Nat} : PL I q 30 3 = nI q := by
  unfold PL
  rw [mv_si_ap, if_pos ⟨rfl, rfl⟩]
theorem PL_self {I : mv_I} {q : Nat} (h : I 30 3 = nI q) : PL I q = I := by
  funext a b
  unfold PL
  rw [mv_si_ap]
  split
  · rename_i hh; rw [hh.1, hh.2, h]
  · rfl
abbrev tdP (T : Nat → Int32) (n p : Nat) (lo hi : Int32) : Prop := p < n ∧ lo ≤ T p - 48 ∧ T p - 48 ≤ hi
def sp_figure : mv_SP := (fun as I _ => (∃ p n : Nat, p ≤ n ∧ n ≤ 80 ∧ I 30 3 = nI p ∧ I 30 2 = nI n) ∧ ∃ lo hi : Int32, 0 ≤ lo ∧ as = [.ref 30, .int lo, .int hi],
  fun as I J r I' J' => J = J' ∧ ∀ (p n : Nat) (lo hi : Int32), p ≤ n → n ≤ 80 → I 30 3 = nI p → I 30 2 = nI n → as = [.ref 30, .int lo, .int hi] → if tdP (I 31) n p lo hi then r = some (.int (I 31 p - 48)) ∧ I' = PL I (p + 1) else r = some (.int (-9)) ∧ I' = I)
theorem cb_figure : mv_body 104 mv_t_X7_figure (mv_cs [(109, sp_in)]) sp_figure := by
  intro as I J h
  obtain ⟨⟨p, n, hp, hn, h3, h2⟩, lo, hi, hlo, rfl⟩ := h
  have cp : (nI p).toNatClampNeg = p := nI_clamp (by omega)
  have e3 : I 30 3 + 1 = nI (p + 1) := by rw [h3, nI_1]
  have uniq : ∀ {p' n' : Nat}, n' ≤ 80 → p' ≤ n' → I 30 3 = nI p' → I 30 2 = nI n' → p' = p ∧ n' = n := by
    intro p' n' hn' hp' h3' h2'
    exact ⟨(nI_eq (by omega) (by omega)).mp (h3'.symm.trans h3), (nI_eq (by omega) (by omega)).mp (h2'.symm.trans h2)⟩
  have yes : tdP (I 31) n p lo hi → sp_figure.2 [.ref 30, .int lo, .int hi] I J (some (.int (I 31 p - 48))) (mv_si I 30 3 (I 30 3 + 1)) J := by
    intro ht
    refine ⟨rfl, fun p' n' lo' hi' hp' hn' h3' h2' e => ?_⟩
    obtain ⟨rfl, rfl⟩ := uniq hn' hp' h3' h2'
    cases e
    rw [if_pos ht, e3]
    exact ⟨rfl, rfl⟩
  have no : ¬ tdP (I 31) n p lo hi → sp_figure.2 [.ref 30, .int lo, .int hi] I J (some (.int (-9))) I J := by
    intro ht
    refine ⟨rfl, fun p' n' lo' hi' hp' hn' h3' h2' e => ?_⟩
    obtain ⟨rfl, rfl⟩ := uniq hn' hp' h3' h2'
    cases e
    rw [if_neg ht]
    exact ⟨rfl, rfl⟩
  have key28 : ∀ v : Int32, v = (if p < n then I 31 p - 48 else -9) → mv_V mv_ow mv_swf mv_t_X7_figure (mv_cs [(109, sp_in)]) (sp_figure.2 [.ref 30, .int lo, .int hi] I J) 28 [(0, .ref 30), (1, .int lo), (2, .int hi)] [.int v] I J := by
    intro v hv
    refine mv_run_V (stop := []) 60 _ _ _ _ _ ?_
    refine ⟨rfl, ⟨_, _, _, rfl⟩, fun r1 I1 J1 hp => ?_⟩
    obtain ⟨rfl, rfl, hq⟩ := hp
    have hq : r1 = some (.int (mv_b (lo.toInt64 ≤ v.toInt64 ∧ v.toInt64 ≤ hi.toInt64))) := hq
    rw [mv_bc (in_w (lo := lo) (hi := hi))] at hq
    subst hq
    refine ⟨fun h4 => ?_, fun h4 => ?_⟩
    · have h4 := b_yes h4
      by_cases hpn : p < n
      · rw [if_pos hpn] at hv
        subst hv
        exact ⟨rfl, rfl, rfl, yes ⟨hpn, h4⟩⟩
      · rw [if_neg hpn] at hv
        subst hv
        have := h4.1
        rw [fa_le] at this hlo
        have e0 : (0 : Int32).toInt = 0 := rfl
        have e9 : (-9 : Int32).toInt = -9 := rfl
        omega
    · have h4 := mv_b0.mp h4
      refine no (fun z => h4 ?_)
      rw [if_pos z.1] at hv
      rw [hv]
      exact z.2
  refine ⟨rfl, mv_run_V (stop := [28]) 40 _ _ _ _ _ ?_⟩
  refine ⟨rfl, rfl, fun h1 => ?_, fun h1 => ?_⟩
  · refine key28 (-9) ?_
    rw [h3, h2] at h1
    rw [if_neg (fun z => h1 (nI_lt z (by omega)))]
  · rw [h3, h2] at h1
    have h1 := (nI_ltI (by omega) (by omega)).mp h1
    refine ⟨rfl, _, rfl, rfl, _, rfl, (by rw [h3]; exact vp_in_nI (by omega) (by decide)), ?_⟩
    rw [h3, cp]
    exact key28 _ (by rw [if_pos h1])
theorem c_figure {l : Launch} {G : mv_G} {A : Nat → Prop} (hG : mv_adk G A) : mv_Con l G A 104 sp_figure := mv_con hG 104 mv_k_X7_figure (by decide +kernel) (mv_cs_cons (c_in hG) (mv_cs_nil)) cb_figure
theorem td_0 {T : Nat → Int32} {n p : Nat} {lo hi : Int32} (hlo : 0 ≤ lo) (h : tdP T n p lo hi) : ¬ T p - 48 = -9 := by
  intro z
  have := h.2.1
  rw [z, fa_le] at this
  rw [fa_le] at hlo
  have e0 : (0 : Int32).toInt = 0 := rfl
  have e9 : (-9 : Int32).toInt = -9 := rfl
  omega
theorem td_nat {T : Nat → Int32} {n p : Nat} {lo : Int32} {M : Nat} (hlo : 0 ≤ lo) (hM : M < 1000) (h : tdP T n p lo (nI M)) : ∃ d : Nat, d ≤ M ∧ T p - 48 = nI d := in_nat hM ⟨Int32.le_trans hlo h.2.1, h.2.2⟩
def sp_two : mv_SP := (fun as I _ => (∃ p n : Nat, p ≤ n ∧ n ≤ 80 ∧ I 30 3 = nI p ∧ I 30 2 = nI n) ∧ ∃ lo : Int32, 0 ≤ lo ∧ as = [.ref 30, .int lo],
  fun as I J r I' J' => J = J' ∧ ∀ (p n : Nat) (lo : Int32), p ≤ n → n ≤ 80 → I 30 3 = nI p → I 30 2 = nI n → as = [.ref 30, .int lo] → if tdP (I 31) n p 0 9 then (if tdP (I 31) n (p + 1) (if I 31 p - 48 = 0 then lo else 0) 9 then r = some (.int (10 * (I 31 p - 48) + (I 31 (p + 1) - 48))) ∧ I' = PL I (p + 2) else r = some (.int (-9)) ∧ I' = PL I (p + 1)) else r = some (.int (-9)) ∧ I' = I)
theorem cb_two : mv_body 141 mv_t_X7_two (mv_cs [(104, sp_figure)]) sp_two := by
  intro as I J h
  obtain ⟨⟨p, n, hp, hn, h3, h2⟩, lo, hlo, rfl⟩ := h
  have uniq : ∀ {p' n' : Nat}, n' ≤ 80 → p' ≤ n' → I 30 3 = nI p' → I 30 2 = nI n' → p' = p ∧ n' = n := by
    intro p' n' hn' hp' h3' h2'
    exact ⟨(nI_eq (by omega) (by omega)).mp (h3'.symm.trans h3), (nI_eq (by omega) (by omega)).mp (h2'.symm.trans h2)⟩
  have fin : ∀ (x : Int32) (I1 : mv_I), (if tdP (I 31) n p 0 9 then (if tdP (I 31) n (p + 1) (if I 31 p - 48 = 0 then lo else 0) 9 then some (Value.int x) = some (.int (10 * (I 31 p - 48) + (I 31 (p + 1) - 48))) ∧ I1 = PL I (p + 2) else some (Value.int x) = some (.int (-9)) ∧ I1 = PL I (p + 1)) else some (Value.int x) = some (.int (-9)) ∧ I1 = I) → sp_two.2 [.ref 30, .int lo] I J (some (.int x)) I1 J := by
    intro x I1 hx
    refine ⟨rfl, fun p' n' lo' hp' hn' h3' h2' e => ?_⟩
    obtain ⟨rfl, rfl⟩ := uniq hn' hp' h3' h2'
    cases e
    exact hx
  refine ⟨rfl, mv_run_V (stop := [31]) 40 _ _ _ _ _ ?_⟩
  refine ⟨rfl, rfl, ⟨⟨p, n, hp, hn, h3, h2⟩, 0, 9, by decide, rfl⟩, fun r1 I1 J1 hp1 => ?_⟩
  obtain ⟨rfl, hq⟩ := hp1
  have hq := hq p n 0 9 hp hn h3 h2 rfl
  by_cases ht : tdP (I 31) n p 0 9
  · rw [if_pos ht] at hq
    obtain ⟨rfl, rfl⟩ := hq
    have e31 : PL I (p + 1) 31 = I 31 := PL_ne (by decide)
    have key31 : ∀ l : Int32, l = (if I 31 p - 48 = 0 then lo else 0) → mv_V mv_ow mv_swf mv_t_X7_two (mv_cs [(104, sp_figure)]) (sp_two.2 [.ref 30, .int lo] I J) 31 [(0, .ref 30), (1, .int lo), (2, .int (I 31 p - 48))] [.int 9, .int l, .ref 30] (PL I (p + 1)) J := by
      intro l hl
      have hl0 : 0 ≤ l := by
        rw [hl]
        split
        · exact hlo
        · decide
      refine mv_run_V (stop := []) 40 _ _ _ _ _ ?_
      refine ⟨rfl, rfl, ⟨⟨p + 1, n, by have := ht.1; omega, hn, PL_3, (PL_30 (by decide)).trans h2⟩, l, 9, hl0, rfl⟩, fun r1 I1 J1 hp1 => ?_⟩
      obtain ⟨rfl, hq⟩ := hp1
      have hq := hq (p + 1) n l 9 (by have := ht.1; omega) hn PL_3 ((PL_30 (by decide)).trans h2) rfl
      rw [e31] at hq
      by_cases ht2 : tdP (I 31) n (p + 1) l 9
      · rw [if_pos ht2] at hq
        obtain ⟨rfl, rfl⟩ := hq
        refine ⟨fun h5 => ?_, fun h5 => absurd h5 (td_0 hl0 ht2)⟩
        refine fin _ _ ?_
        rw [if_pos ht, ← hl, if_pos ht2]
        exact ⟨rfl, PL_PL⟩
      · rw [if_neg ht2] at hq
        obtain ⟨rfl, rfl⟩ := hq
        refine ⟨fun h5 => absurd rfl h5, fun _ => ?_⟩
        refine fin _ _ ?_
        rw [if_pos ht, ← hl, if_neg ht2]
        exact ⟨rfl, rfl⟩
    refine ⟨fun h4 => ?_, fun h4 => absurd h4 (td_0 (by decide) ht)⟩
    refine ⟨fun h5 => ?_, fun h5 => ?_⟩
    · exact key31 0 (by rw [if_neg h5])
    · exact key31 lo (by rw [if_pos h5])
  · rw [if_neg ht] at hq
    obtain ⟨rfl, rfl⟩ := hq
    refine ⟨fun h4 => absurd rfl h4, fun _ => ?_⟩
    refine ⟨fun h4 => absurd rfl h4, fun _ => ?_⟩
    refine fin _ _ ?_
    rw [if_neg ht]
    exact ⟨rfl, rfl⟩
theorem c_two {l : Launch} {G : mv_G} {A : Nat → Prop} (hG : mv_adk G A) : mv_Con l G A 141 sp_two := mv_con hG 141 mv_k_X7_two (by decide +kernel) (mv_cs_cons (c_figure hG) (mv_cs_nil)) cb_two
/-! what the class's search for a fault says at each letter -/
theorem ff_step {T : Nat → Int32} {n k pl co : Nat} (hk : k < n) (hco : ¬ co = 5) (hf : fitP pl (T k) (T (k - 1))) (h46 : ¬ T k = 46) : ffF T n (n - k) k pl co = ffF T n (n - (k + 1)) (k + 1) (pl + 1) co := by
  rw [show n - k = (n - (k + 1)) + 1 by omega, ffF, if_neg (fun z => z.elim hco (fun z => z hf)), if_neg h46]
theorem ff_dot {T : Nat → Int32} {n k pl co : Nat} (hk : k < n) (hco : ¬ co = 5) (hf : fitP pl (T k) (T (k - 1))) (h46 : T k = 46) : ffF T n (n - k) k pl co = ffF T n (n - (k + 1)) (k + 1) 0 (co + 1) := by
  rw [show n - k = (n - (k + 1)) + 1 by omega, ffF, if_neg (fun z => z.elim hco (fun z => z hf)), if_pos h46]
theorem ff_fail {T : Nat → Int32} {n k pl co : Nat} (hk : k ≤ n) (h0 : pl ≠ 0 ∨ k < n) (h : k < n → co = 5 ∨ ¬ fitP pl (T k) (T (k - 1))) : ffF T n (n - k) k pl co = nI k := by
  rcases Nat.lt_or_ge k n with hlt | hge
  · rw [show n - k = (n - (k + 1)) + 1 by omega, ffF, if_pos (h hlt)]
  · have : k = n := by omega
    subst this
    rw [Nat.sub_self, ffF, if_neg (by omega)]
theorem td_iff {x : Int32} {lo hi : Nat} (hlo : lo ≤ 9) (hhi : hi ≤ 9) : (nI lo ≤ x - 48 ∧ x - 48 ≤ nI hi) ↔ (nI (48 + lo) ≤ x ∧ x ≤ nI (48 + hi)) := by
  have e48 : (48 : Int32).toInt = 48 := rfl
  have r1 := fb_rng x
  have r2 := fb_rng (x - 48)
  rw [fa_le, fa_le, fa_le, fa_le, nI_toInt (by omega), nI_toInt (by omega), nI_toInt (by omega), nI_toInt (by omega)]
  constructor
  · intro h
    have hx : x.toInt = (x - 48).toInt + 48 := by
      have e : x = (x - 48) + 48 := (Int32.sub_add_cancel x 48).symm
      conv => lhs; rw [e]
      rw [fb_addI (by omega) (by omega), e48]
    omega
  · intro h
    rw [fb_subI (by omega) (by omega), e48]
    omega
theorem fit_n46 {T : Nat → Int32} {n p : Nat} {lo hi : Int32} (hlo : 0 ≤ lo) (h : tdP T n p lo hi) : ¬ T p = 46 := by
  intro z
  have h1 := h.2.1
  rw [z] at h1
  have : (46 : Int32) - 48 = -2 := rfl
  rw [this, fa_le] at h1
  rw [fa_le] at hlo
  have e0 : (0 : Int32).toInt = 0 := rfl
  have e9 : (-2 : Int32).toInt = -2 := rfl
  omega
/-- the figure that may stand at a place, by td's -/
theorem fit_def {pl : Nat} {x b : Int32} (h : (1 ≤ pl ∧ pl ≤ 4) ∨ pl = 8) : fitP pl x b ↔ (0 ≤ x - 48 ∧ x - 48 ≤ 9) := by
  have e := td_iff (x := x) (lo := 0) (hi := 9) (by decide) (by decide)
  unfold fitP
  rw [if_neg (by omega), if_neg (by omega), if_neg (by omega), if_neg (by omega), if_neg (by omega), if_neg (by omega)]
  exact e.symm
theorem fit_5 {x b : Int32} : fitP 5 x b ↔ ((if b - 48 = 0 then (1 : Int32) else 0) ≤ x - 48 ∧ x - 48 ≤ 9) := by
  have e := td_iff (x := x) (lo := 0) (hi := 9) (by decide) (by decide)
  have e1 := td_iff (x := x) (lo := 1) (hi := 9) (by decide) (by decide)
  unfold fitP
  rw [if_neg (by decide), if_pos rfl]
  by_cases hb : b = 48
  · rw [if_pos hb, if_pos (by rw [hb]; rfl)]
    exact e1.symm
  · have hb2 : ¬ b - 48 = 0 := by
      intro z
      apply hb
      have q := Int32.sub_add_cancel b 48
      rw [z] at q
      rw [← q]
      rfl
    rw [if_neg hb, if_neg hb2]
    exact e.symm
theorem fit_6 {x b : Int32} : fitP 6 x b ↔ (0 ≤ x - 48 ∧ x - 48 ≤ 4) := by
  have e := td_iff (x := x) (lo := 0) (hi := 4) (by decide) (by decide)
  unfold fitP
  rw [if_neg (by decide), if_neg (by decide), if_pos rfl]
  exact e.symm
theorem fit_7 {x b : Int32} : fitP 7 x b ↔ (0 ≤ x - 48 ∧ x - 48 ≤ 1) := by
  have e := td_iff (x := x) (lo := 0) (hi := 1) (by decide) (by decide)
  unfold fitP
  rw [if_neg (by decide), if_neg (by decide), if_neg (by decide), if_pos rfl]
  exact e.symm
theorem fit_s {pl : Nat} {x b : Int32} (h : 9 ≤ pl ∧ pl ≤ 12) : fitP pl x b ↔ (x = 46 ∨ (0 ≤ x - 48 ∧ x - 48 ≤ 9)) := by
  have e := td_iff (x := x) (lo := 0) (hi := 9) (by decide) (by decide)
  unfold fitP
  rw [if_neg (by omega), if_neg (by omega), if_neg (by omega), if_neg (by omega), if_pos h]
  exact ⟨fun z => z.imp id e.mpr, fun z => z.imp id e.mp⟩
theorem fit_13 {x b : Int32} : fitP 13 x b ↔ x = 46 := by
  unfold fitP
  rw [if_neg (by decide), if_neg (by decide), if_neg (by decide), if_neg (by decide), if_neg (by decide), if_pos rfl]
