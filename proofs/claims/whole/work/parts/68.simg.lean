/-! judge and drawn agree. -/
theorem grpN_v {N : Nat} {Ic Im : mv_I} {g h r a m : Nat} (hh : h < 18) (hgh : g ≠ h) (hm : m ≤ 5) (hC : ∀ s, s < m → CR N Ic (100 + 3 * (5 * h + s)) Im r (a + 24 * s) s) : ∀ k, k ≤ m → ∀ s, s < k → CR N (grpN g h Ic k) (100 + 3 * (5 * g + s)) Im r (a + 24 * s) s
  | 0, _, s, hs => absurd hs (Nat.not_lt_zero s)
  | k + 1, hk, s, hs => by
    rw [grpN]
    by_cases e : s = k
    · subst e
      refine CR_copy (c := 5 * h + s) (c' := 5 * g + s) ?_
      refine CR_c (fun b _ _ _ => ?_) (fun j _ => ?_) (fun j _ => ?_) (hC s (by omega))
      · rw [grpN_ne Ic (by omega) (by omega) s (by omega)]
      · rw [grpN_ne Ic (by omega) (by omega) s (by omega)]
      · rw [grpN_ne Ic (by omega) (by omega) s (by omega)]
    · refine CR_c (fun b _ _ _ => ?_) (fun j _ => ?_) (fun j _ => ?_) (grpN_v hh hgh hm hC k (by omega) s (by omega))
      · rw [copyI_ne (by omega) (by omega) (by omega)]
      · rw [copyI_ne (by omega) (by omega) (by omega)]
      · rw [copyI_ne (by omega) (by omega) (by omega)]
/-- the trials' group beside the trial's page -/
def GT (N : Nat) (T Tm : mv_I) (m : Nat) : Prop := ∀ s, s < m → CR N T (100 + 3 * (85 + s)) Tm 40 (24 * s) s
theorem GT_try {N : Nat} {Ic Im : mv_I} {m : Nat} (hm : m ≤ 5) (hC : ∀ s, s < m → CR N Ic (100 + 3 * (5 * 0 + s)) Im 39 (0 + 24 * s) s) : GT N (grpN 17 0 Ic m) (mlt Im) m := by
  intro s hs
  have := grpN_v (g := 17) (h := 0) (by decide) (by decide) hm hC m (Nat.le_refl _) s hs
  rw [Nat.zero_add] at this
  exact CR_mlt (by omega) this
theorem GT_mono {N N' : Nat} {T Tm : mv_I} {m : Nat} (hN : N ≤ N') (h : GT N T Tm m) : GT N' T Tm m := fun s hs => CR_mono hN (h s hs)
theorem GT_step {N : Nat} {T Tm T' Tm' : mv_I} {m i : Nat} (hm : m ≤ 5) (hi : i < m) (h : GT N T Tm m) (h1 : CR (N + 1) T' (100 + 3 * (85 + i)) Tm' 40 (24 * i) i) (h2 : ∀ x, x ≠ 100 + 3 * (85 + i) → x ≠ 100 + 3 * (85 + i) + 2 → T' x = T x) (h3 : ∀ x, x ≠ 40 → Tm' x = Tm x) (h4 : ∀ b, (b < 24 * i ∨ 24 * i + 24 ≤ b) → Tm' 40 b = Tm 40 b) : GT (N + 1) T' Tm' m := by
  intro s hs
  by_cases e : s = i
  · rw [e]; exact h1
  · refine CR_mono (Nat.le_succ N) (CR_m (fun k hk => h4 _ (by omega)) (by rw [h3 32 (by decide)]) (fun j _ => by rw [h3 33 (by decide)]) (by rw [h3 34 (by decide)]) (CR_c (fun b _ _ _ => ?_) (fun j _ => ?_) (fun j _ => ?_) (h s hs)))
    · rw [h2 _ (by omega) (by omega)]
    · rw [h2 _ (by omega) (by omega)]
    · rw [h2 _ (by omega) (by omega)]
theorem GT_add {N : Nat} {T Tm : mv_I} {m i : Nat} (hN : N < 2 ^ 20) (hm : m ≤ 5) (hi : i < m) (h : GT N T Tm m) (v : Int32) : GT (N + 1) (addI T (100 + 3 * (85 + i)) v) (mct Tm 40 (24 * i) i v) m :=
  GT_step hm hi h (CR_add hr40 (by omega) (h i hi) v) (fun x a b => addI_ne a b) (fun x a => mct_ne a) (fun b hb => mct_out (by decide) (CR_MB (h i hi)) hb)
theorem GT_app {N : Nat} {T Tm : mv_I} {m i : Nat} (hN : N < 2 ^ 20) (hm : m ≤ 5) (hi : i < m) (h : GT N T Tm m) (v : Int32) : GT (N + 1) (appI T (100 + 3 * (85 + i)) v) (mcm Tm 40 (24 * i) v) m :=
  GT_step hm hi h (CR_app hr40 (by omega) (h i hi) v) (fun x a b => by unfold appI; rw [mv_sr_ne a, mv_sr_ne b]) (fun x a => mcm_ne a) (fun b hb => mcm_out (CR_MB (h i hi)) hb)
theorem CR_drop {N : Nat} {Ic Im Im' : mv_I} {o r a s : Nat} (hr : r ≠ 32 ∧ r ≠ 33 ∧ r ≠ 34) (e : Im' = mv_si (mv_si Im r (a + 5) 0) r (a + 6) 0) (h : CR N Ic o Im r a s) : CR N (dropI Ic o) o Im' r a s := by
  subst e
  obtain ⟨g, ⟨n, d, q1, q2, q3, e15, e7, q⟩, ⟨L, l1, l5, e6, e34, l⟩, gb, p1, p2, p8, p9⟩ := h
  have cv : ∀ b, dropI Ic o o b = if b = 9 then 0 else if b = 8 then 0 else Ic o b := fun b => by
    unfold dropI
    simp only [mv_si_ap, true_and]
  have cn : ∀ x, x ≠ o → dropI Ic o x = Ic x := fun x hx => by
    unfold dropI
    rw [mv_si_ne hx, mv_si_ne hx]
  have same : ∀ b, b ≠ 9 → b ≠ 8 → dropI Ic o o b = Ic o b := fun b h1 h2 => by rw [cv, if_neg h1, if_neg h2]
  have mv : ∀ k, k ≠ 5 → k ≠ 6 → mv_si (mv_si Im r (a + 5) 0) r (a + 6) 0 r (a + k) = Im r (a + k) := fun k h1 h2 => by
    rw [mv_si_ap, if_neg (fun z => h2 (by omega)), mv_si_ap, if_neg (fun z => h1 (by omega))]
  have mn : ∀ x, x ≠ r → mv_si (mv_si Im r (a + 5) 0) r (a + 6) 0 x = Im x := fun x hx => by rw [mv_si_ne hx, mv_si_ne hx]
  refine ⟨all12 ?_ ?_ ?_ ?_ ?_ ?_ ?_ ?_ ?_ ?_ ?_ ?_, ⟨n, d, q1, q2, q3, (same 15 (by decide) (by decide)).trans e15, (same 7 (by decide) (by decide)).trans e7, fun j hj => ?_⟩, ⟨L, l1, l5, (same 6 (by decide) (by decide)).trans e6, by rw [mn 34 (by omega)]; exact e34, fun j hj => ?_⟩, ?_, ?_, ?_, ⟨0, by decide, ?_⟩, ⟨0, by decide, ?_⟩⟩
  · exact (same 1 (by decide) (by decide)).trans ((g 0 (by decide)).trans (mv 0 (by decide) (by decide)).symm)
  · exact (same 2 (by decide) (by decide)).trans ((g 1 (by decide)).trans (mv 1 (by decide) (by decide)).symm)
  · exact (same 3 (by decide) (by decide)).trans ((g 2 (by decide)).trans (mv 2 (by decide) (by decide)).symm)
  · exact (same 4 (by decide) (by decide)).trans ((g 3 (by decide)).trans (mv 3 (by decide) (by decide)).symm)
  · exact (same 7 (by decide) (by decide)).trans ((g 4 (by decide)).trans (mv 4 (by decide) (by decide)).symm)
  · show dropI Ic o o 8 = mv_si (mv_si Im r (a + 5) 0) r (a + 6) 0 r (a + 5)
    rw [cv, if_neg (by decide), if_pos rfl, mv_si_ap, if_neg (fun z => by omega), mv_si_ap, if_pos ⟨rfl, rfl⟩]
  · show dropI Ic o o 9 = mv_si (mv_si Im r (a + 5) 0) r (a + 6) 0 r (a + 6)
    rw [cv, if_pos rfl, mv_si_ap, if_pos ⟨rfl, rfl⟩]
  · exact (same 10 (by decide) (by decide)).trans ((g 7 (by decide)).trans (mv 7 (by decide) (by decide)).symm)
  · exact (same 11 (by decide) (by decide)).trans ((g 8 (by decide)).trans (mv 8 (by decide) (by decide)).symm)
  · exact (same 12 (by decide) (by decide)).trans ((g 9 (by decide)).trans (mv 9 (by decide) (by decide)).symm)
  · exact (same 13 (by decide) (by decide)).trans ((g 10 (by decide)).trans (mv 10 (by decide) (by decide)).symm)
  · exact (same 15 (by decide) (by decide)).trans ((g 11 (by decide)).trans (mv 11 (by decide) (by decide)).symm)
  · rw [cn _ (by omega), q j hj, Nat.add_assoc, mv (12 + j) (by omega) (by omega)]
  · rw [cn _ (by omega), l j hj, mn 33 (by omega)]
  · rw [same 0 (by decide) (by decide), mn 32 (by omega)]; exact gb
  · rw [same 1 (by decide) (by decide)]; exact p1
  · rw [same 2 (by decide) (by decide)]; exact p2
  · rw [cv, if_neg (by decide), if_pos rfl]; rfl
  · rw [cv, if_pos rfl]; rfl
theorem st_eq {N : Nat} {T Tm : mv_I} {m h s v : Nat} (hN : N < 2 ^ 20) (hm : m ≤ 5) (hG : GT N T Tm m) (h1 : T 434 1 = nI m) (h2 : Tm 30 4 = nI m) : stB h s v T = mdB h s v Tm ∧ (¬ stB h s v T = 0 → GT (N + 1) (stI h s v T) (mdI h s v Tm) m ∧ stI h s v T 434 1 = nI m ∧ mdI h s v Tm 30 4 = nI m) := by
  have cm : (nI m).toNatClampNeg = m := nI_clamp (by omega)
  unfold stB mdB stI mdI
  rw [h1, h2, cm]
  by_cases hs : m ≤ s
  · rw [if_pos hs, if_pos hs, if_pos hs, if_pos hs]
    exact ⟨rfl, fun z => absurd rfl z⟩
  rw [if_neg hs, if_neg hs, if_neg hs, if_neg hs]
  have hC := hG s (by omega)
  have hC0 := hC
  obtain ⟨g, -⟩ := hC
  have g5 : T (100 + 3 * (85 + s)) 8 = Tm 40 (24 * s + 5) := g 5 (by decide)
  have g6 : T (100 + 3 * (85 + s)) 9 = Tm 40 (24 * s + 6) := g 6 (by decide)
  have g8 : T (100 + 3 * (85 + s)) 11 = Tm 40 (24 * s + 8) := g 8 (by decide)
  have ge := ex_ex (by omega) hC0
  have keep : GT (N + 1) T Tm m ∧ T 434 1 = nI m ∧ Tm 30 4 = nI m := ⟨GT_mono (Nat.le_succ N) hG, h1, h2⟩
  by_cases e1 : h = 1
  · rw [if_pos e1, if_pos e1, if_pos e1, if_pos e1]
    exact ⟨rfl, fun _ => ⟨GT_add hN hm (by omega) hG _, by rw [addI_ne (by omega) (by omega)]; exact h1, by rw [mct_ne (by decide)]; exact h2⟩⟩
  rw [if_neg e1, if_neg e1, if_neg e1, if_neg e1]
  by_cases e2 : h = 2
  · rw [if_pos e2, if_pos e2, if_pos e2, if_pos e2]
    refine ⟨rfl, fun z => ?_⟩
    have hv := b_yes z
    rw [if_pos hv]
    exact ⟨GT_app hN hm (by omega) hG _, by unfold appI; rw [mv_sr_ne (by omega), mv_sr_ne (by omega)]; exact h1, by rw [mcm_ne (by decide)]; exact h2⟩
  rw [if_neg e2, if_neg e2, if_neg e2, if_neg e2]
  by_cases e3 : h = 3
  · rw [if_pos e3, if_pos e3, if_pos e3, if_pos e3]
    refine ⟨rfl, fun z => ?_⟩
    have hv := b_yes z
    rw [if_pos hv]
    refine ⟨GT_step hm (by omega) hG (CR_mono (Nat.le_succ N) (CR_drop hr40 rfl hC0)) (fun x a b => by unfold dropI; rw [mv_si_ne a, mv_si_ne a]) (fun x a => by unfold mdt; rw [mv_si_ne a, mv_si_ne a]) (fun b hb => by unfold mdt; rw [mv_si_ap, if_neg (fun z => by omega), mv_si_ap, if_neg (fun z => by omega)]), ?_, ?_⟩
    · unfold dropI
      rw [mv_si_ne (by omega), mv_si_ne (by omega)]
      exact h1
    · unfold mdt
      rw [mv_si_ne (by decide), mv_si_ne (by decide)]
      exact h2
  rw [if_neg e3, if_neg e3, if_neg e3, if_neg e3, g5, g6, g8, ge]
  exact ⟨rfl, fun _ => keep⟩
theorem jd_eq {R n m : Nat} (hm : m ≤ 5) : ∀ q k N : Nat, N + q < 2 ^ 20 → ∀ T Tm : mv_I, GT N T Tm m → T 434 1 = nI m → Tm 30 4 = nI m → jdF R n q k T = mjd R n q k Tm := by
  intro q
  induction q with
  | zero => intro k N hN T Tm _ _ _; rfl
  | succ q ih =>
    intro k N hN T Tm hG h1 h2
    obtain ⟨e, hn⟩ := st_eq (h := stD R n k / 1000) (s := stD R n k / 100 % 10) (v := stD R n k % 100) (by omega) hm hG h1 h2
    rw [jdF, mjd, ← e]
    by_cases z : stB (stD R n k / 1000) (stD R n k / 100 % 10) (stD R n k % 100) T = 0
    · rw [if_pos z, if_pos z]
    · rw [if_neg z, if_neg z]
      obtain ⟨a, b, c⟩ := hn z
      exact ih (k + 1) (N + 1) (by omega) _ _ a b c
theorem dr_eq {m : Nat} (hm : m ≤ 5) : ∀ q N : Nat, N + q < 2 ^ 20 → ∀ (x : Int64) (T Tm : mv_I) (al : Int32), GT N T Tm m → drF m q x T al = mdw m q x Tm al := by
  intro q
  induction q with
  | zero => intro N hN x T Tm al _; rfl
  | succ q ih =>
    intro N hN x T Tm al hG
    rw [drF, mdw]
    by_cases hm0 : m = 0
    · rw [if_pos hm0, if_pos hm0]
      exact ih N (by omega) _ _ _ _ hG
    · rw [if_neg hm0, if_neg hm0]
      have hlt : wOf (lcgF x) / 64 % m < m := Nat.mod_lt _ (by omega)
      have hG2 := GT_add (by omega) hm hlt hG (nI (wOf (lcgF x) % 40))
      have e := aK_mK (by omega) (hG _ hlt) (nI (wOf (lcgF x) % 40))
      rw [e, ih (N + 1) (by omega) _ _ _ _ hG2, ih (N + 1) (by omega) _ _ _ _ hG2]
      by_cases h0 : mkK Tm 40 (24 * (wOf (lcgF x) / 64 % m)) (wOf (lcgF x) / 64 % m) (nI (wOf (lcgF x) % 40)) = 0
      · rw [if_pos h0, if_neg ((mkK_pos _ _ _ _ _).mpr h0), Int32.add_zero]
      · rw [if_neg h0, if_pos (Decidable.not_not.mp (fun z => h0 ((mkK_pos _ _ _ _ _).mp z)))]
