/-! The shape of the class's cells is kept. -/
/-- what SH speaks of, place by place -/
theorem SH_upd {I I' : mv_I} (h : SH I) (h1 : ∀ g, g < 18 → I' (400 + 2 * g) 1 = I (400 + 2 * g) 1 ∨ ∃ m : Nat, m ≤ 5 ∧ I' (400 + 2 * g) 1 = nI m) (h2 : ∀ c, c < 91 → I' (100 + 3 * c) 15 = I (100 + 3 * c) 15 ∨ ∃ k : Nat, k ≤ 12 ∧ I' (100 + 3 * c) 15 = nI k) (h3 : I' 3 1 = I 3 1 ∨ ∃ x : Nat, x < 14 ∧ I' 3 1 = nI x) (h4 : I' 3 2 = I 3 2 ∨ ∃ d : Nat, d ≤ 14 ∧ I' 3 2 = nI d) (h5 : I' 1 1 = I 1 1 ∨ ∃ t : Nat, t ≤ 80 ∧ I' 1 1 = nI t) (h6 : I' 0 6 = I 0 6 ∨ ∃ q : Nat, q ≤ 6 ∧ I' 0 6 = nI q) (h7 : ∀ i, i < 6 → I' (8 + i) 1 = I (8 + i) 1 ∨ ∃ n : Nat, n < 1000 ∧ I' (8 + i) 1 = nI n) : SH I' := by
  obtain ⟨g1, g2, g3, g4, g5, g6, g7⟩ := h
  refine ⟨fun g hg => ?_, fun c hc => ?_, ?_, ?_, ?_, ?_, fun i hi => ?_⟩
  · rcases h1 g hg with e | e
    · rw [e]; exact g1 g hg
    · exact e
  · rcases h2 c hc with e | e
    · rw [e]; exact g2 c hc
    · exact e
  · rcases h3 with e | e
    · rw [e]; exact g3
    · exact e
  · rcases h4 with e | e
    · rw [e]; exact g4
    · exact e
  · rcases h5 with e | e
    · rw [e]; exact g5
    · exact e
  · rcases h6 with e | e
    · rw [e]; exact g6
    · exact e
  · rcases h7 i hi with e | e
    · rw [e]; exact g7 i hi
    · exact e
theorem SH_cells {I I' : mv_I} (h : SH I) (hc : ∀ x, x < 30 ∨ 49 ≤ x → I' x = I x) : SH I' :=
  SH_upd h (fun g _ => Or.inl (by rw [hc _ (by omega)])) (fun c _ => Or.inl (by rw [hc _ (by omega)])) (Or.inl (by rw [hc 3 (by omega)])) (Or.inl (by rw [hc 3 (by omega)])) (Or.inl (by rw [hc 1 (by omega)])) (Or.inl (by rw [hc 0 (by omega)])) (fun i hi => Or.inl (by rw [hc _ (by omega)]))
theorem grpN_15 {I : mv_I} (hS : SH I) {g h : Nat} (hg : g < 18) (hh : h < 18) : ∀ k, k ≤ 5 → ∀ c, c < 91 → ∃ n : Nat, n ≤ 12 ∧ grpN g h I k (100 + 3 * c) 15 = nI n
  | 0, _, c, hc => by
    rw [grpN, mv_si_ne (by omega), mv_si_ne (by omega)]
    exact hS.2.1 c hc
  | k + 1, hk, c, hc => by
    rw [grpN]
    by_cases e : c = 5 * g + k
    · subst e
      rw [copyI_15]
      exact grpN_15 hS hg hh k (by omega) _ (by omega)
    · rw [copyI_ne (by omega) (by omega) (by omega)]
      exact grpN_15 hS hg hh k (by omega) c hc
theorem SH_grp {I : mv_I} (hS : SH I) {g h m : Nat} (hg : g < 18) (hh : h < 18) (hm : m ≤ 5) : SH (grpN g h I m) := by
  refine SH_upd hS (fun q hq => ?_) (fun c hc => Or.inr (grpN_15 hS hg hh m hm c hc)) (Or.inl (by rw [grpN_low hm (by decide) hg])) (Or.inl (by rw [grpN_low hm (by decide) hg])) (Or.inl (by rw [grpN_low hm (by decide) hg])) (Or.inl (by rw [grpN_low hm (by decide) hg])) (fun i hi => Or.inl (by rw [grpN_low hm (by omega) hg]))
  by_cases e : q = g
  · subst e
    right
    rw [grpN_hd hq hh I m hm 1, if_neg (by decide), if_pos rfl]
    exact hS.1 h hh
  · left
    rw [grpN_ne I (by omega) (by omega) m hm]
theorem SH_si {I : mv_I} (hS : SH I) {a b : Nat} {x : Int32} (h1 : ∀ g, g < 18 → ¬ (400 + 2 * g = a ∧ 1 = b)) (h2 : ∀ c, c < 91 → ¬ (100 + 3 * c = a ∧ 15 = b)) (h3 : a = 3 → b = 1 → ∃ y : Nat, y < 14 ∧ x = nI y) (h4 : a = 3 → b = 2 → ∃ y : Nat, y ≤ 14 ∧ x = nI y) (h5 : a = 1 → b = 1 → ∃ y : Nat, y ≤ 80 ∧ x = nI y) (h6 : a = 0 → b = 6 → ∃ y : Nat, y ≤ 6 ∧ x = nI y) (h7 : ∀ i, i < 6 → a = 8 + i → b = 1 → ∃ y : Nat, y < 1000 ∧ x = nI y) : SH (mv_si I a b x) := by
  refine SH_upd hS (fun g hg => Or.inl ?_) (fun c hc => Or.inl ?_) ?_ ?_ ?_ ?_ (fun i hi => ?_)
  · rw [mv_si_ap, if_neg (h1 g hg)]
  · rw [mv_si_ap, if_neg (h2 c hc)]
  · rw [mv_si_ap]
    by_cases e : 3 = a ∧ 1 = b
    · rw [if_pos e]; exact Or.inr (h3 e.1.symm e.2.symm)
    · rw [if_neg e]; exact Or.inl rfl
  · rw [mv_si_ap]
    by_cases e : 3 = a ∧ 2 = b
    · rw [if_pos e]; exact Or.inr (h4 e.1.symm e.2.symm)
    · rw [if_neg e]; exact Or.inl rfl
  · rw [mv_si_ap]
    by_cases e : 1 = a ∧ 1 = b
    · rw [if_pos e]; exact Or.inr (h5 e.1.symm e.2.symm)
    · rw [if_neg e]; exact Or.inl rfl
  · rw [mv_si_ap]
    by_cases e : 0 = a ∧ 6 = b
    · rw [if_pos e]; exact Or.inr (h6 e.1.symm e.2.symm)
    · rw [if_neg e]; exact Or.inl rfl
  · rw [mv_si_ap]
    by_cases e : 8 + i = a ∧ 1 = b
    · rw [if_pos e]; exact Or.inr (h7 i hi e.1.symm e.2.symm)
    · rw [if_neg e]; exact Or.inl rfl
theorem SH_rem2 {I : mv_I} (hS : SH I) : SH (remI I) := by
  obtain ⟨m, hm, em⟩ := SH_now hS
  obtain ⟨x, hx, ex⟩ := hS.2.2.1
  obtain ⟨d, hd, ed⟩ := hS.2.2.2.1
  rw [remI_is hx hd hm ex ed em]
  refine SH_si (SH_si (SH_grp hS (by omega) (by decide) hm) (fun g _ => by omega) (fun c _ => by omega) (fun _ _ => ⟨_, Nat.mod_lt _ (by decide), rfl⟩) (fun _ z => absurd z (by decide)) (fun z => absurd z (by decide)) (fun z => absurd z (by decide)) (fun i _ z => absurd z (by omega))) (fun g _ => by omega) (fun c _ => by omega) (fun _ z => absurd z (by decide)) (fun _ _ => ⟨(if d = 14 then 13 else d) + 1, by split <;> omega, rfl⟩) (fun z => absurd z (by decide)) (fun z => absurd z (by decide)) (fun i _ z => absurd z (by omega))
theorem SH_chart {I I' : mv_I} (hS : SH I) {j : Nat} (hj : j < 91) (hc : ∀ x, x ≠ 100 + 3 * j → x ≠ 100 + 3 * j + 2 → I' x = I x) (h15 : ∃ k : Nat, k ≤ 12 ∧ I' (100 + 3 * j) 15 = nI k) : SH I' := by
  refine SH_upd hS (fun g _ => Or.inl (by rw [hc _ (by omega) (by omega)])) (fun c hc2 => ?_) (Or.inl (by rw [hc _ (by omega) (by omega)])) (Or.inl (by rw [hc _ (by omega) (by omega)])) (Or.inl (by rw [hc _ (by omega) (by omega)])) (Or.inl (by rw [hc _ (by omega) (by omega)])) (fun i _ => Or.inl (by rw [hc _ (by omega) (by omega)]))
  by_cases e : c = j
  · rw [e]; exact Or.inr h15
  · exact Or.inl (by rw [hc _ (by omega) (by omega)])
theorem SH_tkb {I : mv_I} (hS : SH I) (h0 : ¬ I 3 2 = 0) : SH (tkbI I) := by
  obtain ⟨x, hx, ex⟩ := hS.2.2.1
  obtain ⟨d, hd, ed⟩ := hS.2.2.2.1
  have hd0 : d ≠ 0 := fun z => h0 (by rw [ed, z]; rfl)
  have hy : (x + 13) % 14 < 14 := Nat.mod_lt _ (by decide)
  have hbk : bckX I = nI ((x + 13) % 14) := by unfold bckX; rw [ex]; exact bck_ok x hx
  obtain ⟨m, hm, em⟩ := hS.1 (1 + (x + 13) % 14) (by omega)
  have hS1 : SH (mv_si I 3 1 (nI ((x + 13) % 14))) := SH_si hS (fun g _ => by omega) (fun c _ => by omega) (fun _ _ => ⟨_, hy, rfl⟩) (fun _ z => absurd z (by decide)) (fun z => absurd z (by decide)) (fun z => absurd z (by decide)) (fun i _ z => absurd z (by omega))
  unfold tkbI
  rw [hbk, nI_clamp (by omega), em, nI_clamp (by omega)]
  refine SH_si (SH_grp hS1 (by decide) (by omega) hm) (fun g _ => by omega) (fun c _ => by omega) (fun _ z => absurd z (by decide)) (fun _ _ => ⟨d - 1, by omega, ?_⟩) (fun z => absurd z (by decide)) (fun z => absurd z (by decide)) (fun i _ z => absurd z (by omega))
  rw [grpN_low hm (by decide) (by decide), mv_si_ap, if_neg (fun z => absurd z.2 (by decide)), ed]
  rw [show d = d - 1 + 1 by omega, nI_pred]
  rfl
theorem SH_kep {I : mv_I} (hS : SH I) {s : Nat} (hs : s < 2) : SH (kepI I s) := by
  obtain ⟨m, hm, em⟩ := SH_now hS
  unfold kepI
  rw [em, nI_clamp (by omega)]
  exact SH_si (SH_grp hS (by omega) (by decide) hm) (fun g _ => by omega) (fun c _ => by omega) (fun z => absurd z (by decide)) (fun z => absurd z (by decide)) (fun z => absurd z (by decide)) (fun z => absurd z (by decide)) (fun i _ z => absurd z (by omega))
theorem SH_agn {I : mv_I} (hS : SH I) {s : Nat} (hs : s < 2) : SH (agnI I s) := by
  obtain ⟨m, hm, em⟩ := hS.1 (15 + s) (by omega)
  unfold agnI
  rw [em, nI_clamp (by omega)]
  exact SH_si (SH_grp hS (by decide) (by omega) hm) (fun g _ => by omega) (fun c _ => by omega) (fun _ z => absurd z (by decide)) (fun _ _ => ⟨0, by decide, rfl⟩) (fun z => absurd z (by decide)) (fun z => absurd z (by decide)) (fun i _ z => absurd z (by omega))
theorem SH_see {I : mv_I} (hS : SH I) {s n k w : Int32} (hp : seeP n k w) (h6 : I 0 6 < 6) : SH (seeI I s n k w) := by
  obtain ⟨q, hq, eq⟩ := hS.2.2.2.2.2.1
  rw [eq] at h6
  have hq6 : q < 6 := (nI_ltI (b := 6) (by omega) (by decide)).mp h6
  obtain ⟨n', hn', en⟩ := in_nat (M := 9) (by decide) hp.1
  unfold seeI
  rw [eq, nI_clamp (by omega)]
  refine SH_si (SH_si (SH_si (SH_si (SH_si hS ?_ ?_ ?_ ?_ ?_ ?_ ?_) ?_ ?_ ?_ ?_ ?_ ?_ ?_) ?_ ?_ ?_ ?_ ?_ ?_ ?_) ?_ ?_ ?_ ?_ ?_ ?_ ?_) ?_ ?_ ?_ ?_ ?_ ?_ ?_
  all_goals (first | (intro g _; omega) | (intro z; exact absurd z (by omega)) | (intro i _ z; exact absurd z (by omega)) | skip)
  all_goals (first | (intro i _ _ z; exact absurd z (by decide)) | skip)
  · intro i _ _ _
    exact ⟨n', by omega, en⟩
  · intro _ _
    exact ⟨q + 1, by omega, nI_1 q⟩
theorem SH_write {I : mv_I} (hS : SH I) {x : Int32} (h : I 1 1 < 80) : SH (mv_si (mv_si I 2 (I 1 1).toNatClampNeg x) 1 1 (I 1 1 + 1)) := by
  obtain ⟨t, ht, et⟩ := hS.2.2.2.2.1
  rw [et] at h
  have ht8 : t < 80 := (nI_ltI (b := 80) (by omega) (by decide)).mp h
  refine SH_si (SH_si hS (fun g _ => by omega) (fun c _ => by omega) (fun z => absurd z (by decide)) (fun z => absurd z (by decide)) (fun z => absurd z (by decide)) (fun z => absurd z (by decide)) (fun i _ z => absurd z (by omega))) (fun g _ => by omega) (fun c _ => by omega) (fun z => absurd z (by decide)) (fun z => absurd z (by decide)) (fun _ _ => ⟨t + 1, by omega, by rw [et, nI_1]⟩) (fun z => absurd z (by decide)) (fun i _ z => absurd z (by omega))
theorem rin_sh {t : Nat} : ∀ (r i : Nat) (B : mv_I) (a : Nat), i + r = 5 → SH B → SH (rinI t r B i a) := by
  intro r
  induction r with
  | zero =>
    intro i B a hi hS
    rw [rinI]
    refine SH_upd hS (fun g hg => ?_) (fun c _ => Or.inl (by rw [mv_si_ne (by omega)])) (Or.inl (by rw [mv_si_ne (by omega)])) (Or.inl (by rw [mv_si_ne (by omega)])) (Or.inl (by rw [mv_si_ne (by omega)])) (Or.inl (by rw [mv_si_ne (by omega)])) (fun i _ => Or.inl (by rw [mv_si_ne (by omega)]))
    by_cases e : g = 0
    · subst e
      exact Or.inr ⟨i, by omega, by rw [mv_si_ap, if_pos ⟨rfl, rfl⟩]⟩
    · exact Or.inl (by rw [mv_si_ne (by omega)])
  | succ r ih =>
    intro i B a hi hS
    rw [rinI]
    split
    · refine ih (i + 1) _ _ (by omega) ?_
      refine SH_upd hS (fun g hg => Or.inl (by rw [rdI_ne (by omega) (by omega)])) (fun c _ => ?_) (Or.inl (by rw [rdI_ne (by omega) (by omega)])) (Or.inl (by rw [rdI_ne (by omega) (by omega)])) (Or.inl (by rw [rdI_ne (by omega) (by omega)])) (Or.inl (by rw [rdI_ne (by omega) (by omega)])) (fun i _ => Or.inl (by rw [rdI_ne (by omega) (by omega)]))
      by_cases e : c = i
      · subst e
        refine Or.inr ⟨0, by decide, ?_⟩
        unfold rdI
        rw [mv_sr_at]
        rfl
      · exact Or.inl (by rw [rdI_ne (by omega) (by omega)])
    · refine SH_upd hS (fun g hg => ?_) (fun c _ => Or.inl (by rw [mv_si_ne (by omega)])) (Or.inl (by rw [mv_si_ne (by omega)])) (Or.inl (by rw [mv_si_ne (by omega)])) (Or.inl (by rw [mv_si_ne (by omega)])) (Or.inl (by rw [mv_si_ne (by omega)])) (fun i _ => Or.inl (by rw [mv_si_ne (by omega)]))
      by_cases e : g = 0
      · subst e
        exact Or.inr ⟨i, by omega, by rw [mv_si_ap, if_pos ⟨rfl, rfl⟩]⟩
      · exact Or.inl (by rw [mv_si_ne (by omega)])
theorem SH_wat {I : mv_I} (hS : SH I) : SH (watI I) := by
  unfold watI
  refine SH_si (SH_si (SH_si (rin_sh 5 0 I 1 rfl hS) (fun g _ => by omega) (fun c _ => by omega) (fun _ z => absurd z (by decide)) (fun _ _ => ⟨0, by decide, rfl⟩) (fun z => absurd z (by decide)) (fun z => absurd z (by decide)) (fun i _ z => absurd z (by omega))) (fun g _ => by omega) (fun c _ => by omega) (fun z => absurd z (by decide)) (fun z => absurd z (by decide)) (fun z => absurd z (by decide)) (fun z => absurd z (by decide)) (fun i _ z => absurd z (by omega))) (fun g _ => by omega) (fun c _ => by omega) (fun z => absurd z (by decide)) (fun z => absurd z (by decide)) (fun z => absurd z (by decide)) (fun z => absurd z (by decide)) (fun i _ z => absurd z (by omega))
/-! the reference's cells, and the script's, are none of the class's business -/
def CF (I I' : mv_I) : Prop := ∀ x, (30 ≤ x ∧ x < 49) ∨ 500 ≤ x → I' x = I x
theorem CF_rfl {I : mv_I} : CF I I := fun _ _ => rfl
theorem CF_trans {I I' I2 : mv_I} (h : CF I I') (h2 : CF I' I2) : CF I I2 := fun x hx => (h2 x hx).trans (h x hx)
theorem CF_si {I : mv_I} {a b : Nat} {x : Int32} (h : ¬ ((30 ≤ a ∧ a < 49) ∨ 500 ≤ a)) : CF I (mv_si I a b x) := fun y hy => mv_si_ne (fun z => h (z ▸ hy))
theorem CF_grp {I : mv_I} {g h m : Nat} (hg : g < 18) (hm : m ≤ 5) : CF I (grpN g h I m) := fun y hy => grpN_ne I (by omega) (by omega) m hm
theorem CF_rem {I : mv_I} (hS : SH I) : CF I (remI I) := by
  obtain ⟨m, hm, em⟩ := SH_now hS
  obtain ⟨x, hx, ex⟩ := hS.2.2.1
  obtain ⟨d, hd, ed⟩ := hS.2.2.2.1
  rw [remI_is hx hd hm ex ed em]
  exact CF_trans (CF_trans (CF_grp (by omega) hm) (CF_si (by omega))) (CF_si (by omega))
theorem CF_tkb {I : mv_I} (hS : SH I) : CF I (tkbI I) := by
  obtain ⟨x, hx, ex⟩ := hS.2.2.1
  have hbk : bckX I = nI ((x + 13) % 14) := by unfold bckX; rw [ex]; exact bck_ok x hx
  obtain ⟨m, hm, em⟩ := hS.1 (1 + (x + 13) % 14) (by omega)
  unfold tkbI
  rw [hbk, nI_clamp (by omega), em, nI_clamp (by omega)]
  exact CF_trans (CF_trans (CF_si (by omega)) (CF_grp (by decide) hm)) (CF_si (by omega))
theorem CF_tr {I I' : mv_I} (h : trOk I I') : CF I I' := fun x hx => h.1 x (by omega) (by omega) (by omega)
theorem CF_tg {I I' : mv_I} (h : tgOk I I') : CF I I' := fun x hx => h.1 x (by omega) (by omega)
theorem rin_cf {t : Nat} : ∀ (r i : Nat) (B : mv_I) (a : Nat), i + r = 5 → CF B (rinI t r B i a) := by
  intro r
  induction r with
  | zero =>
    intro i B a _
    rw [rinI]
    exact CF_si (by omega)
  | succ r ih =>
    intro i B a hi
    rw [rinI]
    split
    · exact CF_trans (fun x hx => rdI_ne (by omega) (by omega)) (ih (i + 1) _ _ (by omega))
    · exact CF_si (by omega)
theorem CF_wat {I : mv_I} : CF I (watI I) := by
  unfold watI
  exact CF_trans (CF_trans (CF_trans (rin_cf 5 0 I 1 rfl) (CF_si (by omega))) (CF_si (by omega))) (CF_si (by omega))
