/-! The text is read alike. -/
theorem ff_congr {T T' : Nat → Int32} {n : Nat} (h : ∀ j, j < n → T j = T' j) : ∀ r k pl co, k + r = n → 1 ≤ k → ffF T n r k pl co = ffF T' n r k pl co := by
  intro r
  induction r with
  | zero => intro k pl co _ _; rfl
  | succ r ih =>
    intro k pl co hk h1
    rw [ffF, ffF, h k (by omega), h (k - 1) (by omega), ih (k + 1) 0 (co + 1) (by omega) (by omega), ih (k + 1) (pl + 1) co (by omega) (by omega)]
theorem flt_congr {T T' : Nat → Int32} {n : Nat} (h : ∀ j, j < n → T j = T' j) : fltF T n = fltF T' n := by
  unfold fltF
  rcases Nat.eq_zero_or_pos n with z | z
  · rw [if_pos (Or.inl z), if_pos (Or.inl z)]
  · rw [h 0 z, ff_congr h (n - 1) 1 0 0 (by omega) (by decide)]
theorem st_congr {T T' : Nat → Int32} {n a : Nat} (h : ∀ j, j < n → T j = T' j) : stN T n a ↔ stN T' n a := by
  unfold stN
  by_cases ha : a < n
  · rw [h a ha]
  · exact ⟨fun _ => Or.inl ha, fun _ => Or.inl ha⟩
theorem sl_congr {T T' : Nat → Int32} {n st : Nat} (h : ∀ j, j < n → T j = T' j) : ∀ r k, slN T n st r k = slN T' n st r k := by
  intro r
  induction r with
  | zero => intro k; rfl
  | succ r ih =>
    intro k
    rw [slN, slN, ih (k + 1)]
    by_cases hs : stN T n (st + k)
    · rw [if_pos hs, if_pos ((st_congr h).mp hs)]
    · rw [if_neg hs, if_neg (fun z => hs ((st_congr h).mpr z))]
theorem dg_congr {T T' : Nat → Int32} {n a : Nat} (h : ∀ j, j < n → T j = T' j) : dgN T n a = dgN T' n a := by
  unfold dgN
  by_cases ha : a < n
  · rw [if_pos ha, if_pos ha, h a ha]
  · rw [if_neg ha, if_neg ha]
theorem ps_congr {T T' : Nat → Int32} {n : Nat} (h : ∀ j, j < n → T j = T' j) : ∀ s, psN T n s = psN T' n s
  | 0 => rfl
  | s + 1 => by rw [psN, psN, ps_congr h s, sl_congr h 5 0]
/-- what the class reads -/
theorem rin_is {t m : Nat} {T : Nat → Int32} (hm : m ≤ 5) (hend : psN T t m = t) (hle : ∀ s, s < m → psN T t s + 10 ≤ t) : ∀ (r i : Nat) (B : mv_I), i + r = 5 → i ≤ m → B 2 = T → (rinI t r B i (psN T t i) 400 1 = nI m ∧ (∀ b, b ≠ 1 → rinI t r B i (psN T t i) 400 b = B 400 b) ∧ (∀ s, i ≤ s → s < m → rinI t r B i (psN T t i) (100 + 3 * s) = rdF T t (psN T t s) (B (100 + 3 * s)) ∧ rinI t r B i (psN T t i) (100 + 3 * s + 1) = ssF T t (psN T t s) (slN T t (psN T t s + 8) 5 0) (B (100 + 3 * s + 1))) ∧ ∀ x, x ≠ 400 → (∀ s, i ≤ s → s < m → x ≠ 100 + 3 * s ∧ x ≠ 100 + 3 * s + 1) → rinI t r B i (psN T t i) x = B x) := by
  intro r
  induction r with
  | zero =>
    intro i B hi him hB
    have e : i = m := by omega
    subst e
    rw [rinI]
    refine ⟨by rw [mv_si_ap, if_pos ⟨rfl, rfl⟩], fun b hb => by rw [mv_si_ap, if_neg (fun z => hb z.2)], fun s h1 h2 => absurd h1 (by omega), fun x hx _ => mv_si_ne hx⟩
  | succ r ih =>
    intro i B hi him hB
    rw [rinI]
    by_cases hlt : i < m
    · rw [if_pos (hle i hlt)]
      have hB2 : rdI B (100 + 3 * i) t (psN T t i) 2 = T := by rw [rdI_ne (by omega) (by omega)]; exact hB
      have e := ih (i + 1) (rdI B (100 + 3 * i) t (psN T t i)) (by omega) (by omega) hB2
      have eps : psN T t i + 9 + slN (B 2) t (psN T t i + 8) 5 0 = psN T t (i + 1) := by rw [hB, psN]
      rw [eps]
      obtain ⟨g1, g2, g3, g4⟩ := e
      refine ⟨g1, fun b hb => (g2 b hb).trans (by rw [rdI_ne (by omega) (by omega)]), fun s h1 h2 => ?_, fun x hx hs => ?_⟩
      · by_cases e : s = i
        · subst e
          rw [g4 (100 + 3 * s) (by omega) (fun s' a b => by omega), g4 (100 + 3 * s + 1) (by omega) (fun s' a b => by omega)]
          unfold rdI
          rw [mv_sr_at, mv_sr_ne (by omega), mv_sr_at, hB]
          exact ⟨rfl, rfl⟩
        · obtain ⟨q1, q2⟩ := g3 s (by omega) h2
          rw [q1, q2, rdI_ne (by omega) (by omega), rdI_ne (by omega) (by omega)]
          exact ⟨rfl, rfl⟩
      · rw [g4 x hx (fun s a b => hs s (by omega) b)]
        have := hs i (Nat.le_refl _) hlt
        exact rdI_ne this.1 this.2
    · have e : i = m := by omega
      subst e
      rw [hend, if_neg (by omega)]
      refine ⟨by rw [mv_si_ap, if_pos ⟨rfl, rfl⟩], fun b hb => by rw [mv_si_ap, if_neg (fun z => hb z.2)], fun s h1 h2 => absurd h1 (by omega), fun x hx _ => mv_si_ne hx⟩
theorem REL_watch {N : Nat} {Ic Im B : mv_I} (h : REL N Ic Im) (hF : FRt Im B) {m : Nat} (hRW : RW Im B (Im 30 2).toNatClampNeg m) (hend : psN (Im 31) (Im 30 2).toNatClampNeg m = (Im 30 2).toNatClampNeg) : REL N (watI Ic) (mwt B) ∧ watI Ic 400 1 = B 30 8 := by
  obtain ⟨⟨t, ht, t1, t2, t3⟩, ⟨m', hm', e4, hG, ⟨x, d, hx, hd, a3, a4, a5, a6⟩, hk⟩, ⟨q, hq, s1, s2, s3⟩⟩ := h
  have ct : (Im 30 2).toNatClampNeg = t := by rw [t2]; exact nI_clamp (by omega)
  have ct1 : (Ic 1 1).toNatClampNeg = t := by rw [t1]; exact nI_clamp (by omega)
  rw [ct] at hRW hend
  obtain ⟨-, h3, h8, hm, -, -, hs, -⟩ := hRW
  have t3' : ∀ j, j < t → Im 31 j = Ic 2 j := fun j hj => (t3 j hj).symm
  have eps : ∀ s, psN (Im 31) t s = psN (Ic 2) t s := ps_congr t3'
  have hr := rin_is (T := Ic 2) (t := t) (m := m) hm (by rw [← eps]; exact hend) (fun s hs' => by rw [← eps]; exact (hs s hs').2.1) 5 0 Ic (by omega) (Nat.zero_le _) rfl
  obtain ⟨g1, g2, g3, g4⟩ := hr
  have eW : ∀ y, y ≠ 3 → y ≠ 6 → watI Ic y = rinI t 5 Ic 0 1 y := fun y h1 h2 => by
    unfold watI
    rw [mv_si_ne h2, mv_si_ne h2, mv_si_ne h1, ct1]
  have w3 : ∀ b, watI Ic 3 b = if b = 2 then 0 else Ic 3 b := fun b => by
    unfold watI
    rw [mv_si_ne (by decide), mv_si_ne (by decide), mv_si_ap, ct1, show rinI t 5 Ic 0 1 3 = Ic 3 from g4 3 (by decide) (fun s _ _ => by omega)]
    simp only [true_and]
  have w6 : ∀ j, j < 2 → watI Ic 6 j = 0 := fun j hj => by
    unfold watI
    rw [mv_si_ap, mv_si_ap]
    rcases (show j = 0 ∨ j = 1 by omega) with rfl | rfl
    · rw [if_neg (fun z => absurd z.2 (by decide)), if_pos ⟨rfl, rfl⟩]
    · rw [if_pos ⟨rfl, rfl⟩]
  have wl : ∀ y, y < 100 → y ≠ 3 → y ≠ 6 → watI Ic y = Ic y := fun y hy h1 h2 => (eW y h1 h2).trans (g4 y (by omega) (fun s _ _ => by omega))
  -- the reference
  have b30 : ∀ b, b ≠ 3 → b ≠ 8 → B 30 b = Im 30 b := hF.2
  have bne : ∀ a, a ≠ 30 → (a < 35 ∨ 39 ≤ a) → B a = Im a := hF.1
  have v30 : ∀ b, mwt B 30 b = if b = 16 then 0 else if b = 4 then B 30 8 else B 30 b := fun b => by
    unfold mwt
    rw [mv_si_ne (by decide), mv_si_ne (by decide), mv_si_ap, mv_sr_ne (by decide), mv_sr_ne (by decide), mv_sr_ne (by decide), mv_sr_ne (by decide), mv_si_ap]
    simp only [true_and]
  have v43 : ∀ j, j < 2 → mwt B 43 j = 0 := fun j hj => by
    unfold mwt
    rw [mv_si_ap, mv_si_ap]
    rcases (show j = 0 ∨ j = 1 by omega) with rfl | rfl
    · rw [if_neg (fun z => absurd z.2 (by decide)), if_pos ⟨rfl, rfl⟩]
    · rw [if_pos ⟨rfl, rfl⟩]
  have v39 : ∀ b, mwt B 39 b = if b < 120 then B 38 b else B 39 b := fun b => by
    unfold mwt
    rw [mv_si_ne (by decide), mv_si_ne (by decide), mv_si_ne (by decide), mv_sr_at]
    rfl
  have v33 : ∀ b, b < 25 → mwt B 33 b = B 36 b := fun b hb => by
    unfold mwt
    rw [mv_si_ne (by decide), mv_si_ne (by decide), mv_si_ne (by decide), mv_sr_ne (by decide), mv_sr_at, fa_fill_in hb]
  have v34 : ∀ b, b < 5 → mwt B 34 b = B 37 b := fun b hb => by
    unfold mwt
    rw [mv_si_ne (by decide), mv_si_ne (by decide), mv_si_ne (by decide), mv_sr_ne (by decide), mv_sr_ne (by decide), mv_sr_at, fa_fill_in hb]
  have v32 : ∀ b, b < 5 → mwt B 32 b = B 35 b := fun b hb => by
    unfold mwt
    rw [mv_si_ne (by decide), mv_si_ne (by decide), mv_si_ne (by decide), mv_sr_ne (by decide), mv_sr_ne (by decide), mv_sr_ne (by decide), mv_sr_at, fa_fill_in hb]
  have vne : ∀ a, (a = 31 ∨ (44 ≤ a ∧ a < 48)) → mwt B a = Im a := fun a ha => by
    unfold mwt
    rw [mv_si_ne (by omega), mv_si_ne (by omega), mv_si_ne (by omega), mv_sr_ne (by omega), mv_sr_ne (by omega), mv_sr_ne (by omega), mv_sr_ne (by omega), mv_si_ne (by omega)]
    exact bne a (by omega) (by omega)
  have e400 : watI Ic 400 1 = nI m := by
    rw [eW 400 (by decide) (by decide)]
    exact g1
  refine ⟨⟨⟨t, ht, by rw [wl 1 (by decide) (by decide) (by decide)]; exact t1, by rw [v30, if_neg (by decide), if_neg (by decide), b30 2 (by decide) (by decide)]; exact t2, fun j hj => by rw [wl 2 (by decide) (by decide) (by decide), vne 31 (by omega)]; exact t3 j hj⟩, ⟨m, hm, by rw [v30, if_neg (by decide), if_pos rfl]; exact h8, ⟨e400, ?_, ?_, fun s hsm => ?_⟩, ⟨x, 0, hx, by decide, by rw [w3, if_neg (by decide)]; exact a3, by rw [w3, if_pos rfl]; rfl, by rw [v30, if_pos rfl]; rfl, fun i hi => absurd hi (Nat.not_lt_zero i)⟩, fun j hj => ⟨by rw [w6 j hj, v43 j hj], Or.inl (w6 j hj)⟩⟩, ⟨q, hq, by rw [wl 0 (by decide) (by decide) (by decide)]; exact s1, by rw [v30, if_neg (by decide), if_neg (by decide), b30 19 (by decide) (by decide)]; exact s2, fun i hi => by rw [wl (8 + i) (by omega) (by omega) (by omega), vne 44 (by omega), vne 45 (by omega), vne 46 (by omega), vne 47 (by omega)]; exact s3 i hi⟩⟩, ?_⟩
  · show watI Ic 400 2 = mwt B 39 (0 + 120)
    have ee : rinI t 5 Ic 0 1 400 2 = Ic 400 2 := g2 2 (by decide)
    rw [eW 400 (by decide) (by decide), ee, v39, if_neg (by decide), bne 39 (by decide) (by omega)]
    exact hG.2.1
  · show LC (watI Ic 400 2)
    have ee : rinI t 5 Ic 0 1 400 2 = Ic 400 2 := g2 2 (by decide)
    rw [eW 400 (by decide) (by decide), ee]
    exact hG.2.2.1
  · rw [show 100 + 3 * (5 * 0 + s) = 100 + 3 * s by omega, Nat.zero_add]
    obtain ⟨⟨⟨L, hL1, hL5, hsl, r37, r36⟩, r35, r0, r1, r2, r3, r9, r10, ⟨sx, hsx, esx⟩, ⟨by', hb1, hb2, eby⟩⟩, hps, hz⟩ := hs s hsm
    have c0 : watI Ic (100 + 3 * s) = rdF (Ic 2) t (psN (Ic 2) t s) (Ic (100 + 3 * s)) := by
      rw [eW _ (by omega) (by omega)]
      exact (g3 s (Nat.zero_le _) hsm).1
    have c1 : watI Ic (100 + 3 * s + 1) = ssF (Ic 2) t (psN (Ic 2) t s) (slN (Ic 2) t (psN (Ic 2) t s + 8) 5 0) (Ic (100 + 3 * s + 1)) := by
      rw [eW _ (by omega) (by omega)]
      exact (g3 s (Nat.zero_le _) hsm).2
    have dg : ∀ a, dgN (Im 31) t a = dgN (Ic 2) t a := fun a => dg_congr t3'
    rw [eps] at hsl r36 r35 r0 r1 r2 r3 r10 esx eby
    have hsl2 : slN (Ic 2) t (psN (Ic 2) t s + 8) 5 0 = L := by rw [← sl_congr t3' 5 0]; exact hsl
    simp only [dg] at r36 r35 r0 r1 r2 r3 r10 esx eby
    have fv : ∀ b, rdF (Ic 2) t (psN (Ic 2) t s) (Ic (100 + 3 * s)) b = if b = 7 ∨ b = 8 ∨ b = 9 ∨ b = 10 ∨ b = 11 ∨ b = 15 then 0 else if b = 12 then -9 else if b = 13 then 16 * putF (Ic 2) t (psN (Ic 2) t s) (Ic (100 + 3 * s)) 0 else putF (Ic 2) t (psN (Ic 2) t s) (Ic (100 + 3 * s)) b := fun b => rfl
    have pv : ∀ k, k < 24 → mwt B 39 (24 * s + k) = B 38 (24 * s + k) := fun k hk => by rw [v39, if_pos (by omega)]
    refine ⟨all12 ?_ ?_ ?_ ?_ ?_ ?_ ?_ ?_ ?_ ?_ ?_ ?_, ⟨0, 0, by decide, by decide, Nat.zero_le _, by rw [c0]; rfl, by rw [c0]; rfl, fun j hj => absurd hj (Nat.not_lt_zero j)⟩, ⟨L, hL1, hL5, ?_, ?_, fun j hj => ?_⟩, ?_, ⟨sx, hsx, ?_⟩, ⟨by', hb1, hb2, ?_⟩, ⟨0, by decide, by rw [c0]; rfl⟩, ⟨0, by decide, by rw [c0]; rfl⟩⟩
    · show watI Ic (100 + 3 * s) 1 = mwt B 39 (24 * s + 0)
      rw [c0, pv 0 (by decide), r0]; rfl
    · show watI Ic (100 + 3 * s) 2 = mwt B 39 (24 * s + 1)
      rw [c0, pv 1 (by decide), r1]; rfl
    · show watI Ic (100 + 3 * s) 3 = mwt B 39 (24 * s + 2)
      rw [c0, pv 2 (by decide), r2]; rfl
    · show watI Ic (100 + 3 * s) 4 = mwt B 39 (24 * s + 3)
      rw [c0, pv 3 (by decide), r3]; rfl
    · show watI Ic (100 + 3 * s) 7 = mwt B 39 (24 * s + 4)
      rw [c0, pv 4 (by decide), hz 4 (by omega)]; rfl
    · show watI Ic (100 + 3 * s) 8 = mwt B 39 (24 * s + 5)
      rw [c0, pv 5 (by decide), hz 5 (by omega)]; rfl
    · show watI Ic (100 + 3 * s) 9 = mwt B 39 (24 * s + 6)
      rw [c0, pv 6 (by decide), hz 6 (by omega)]; rfl
    · show watI Ic (100 + 3 * s) 10 = mwt B 39 (24 * s + 7)
      rw [c0, pv 7 (by decide), hz 7 (by omega)]; rfl
    · show watI Ic (100 + 3 * s) 11 = mwt B 39 (24 * s + 8)
      rw [c0, pv 8 (by decide), hz 8 (by omega)]; rfl
    · show watI Ic (100 + 3 * s) 12 = mwt B 39 (24 * s + 9)
      rw [c0, pv 9 (by decide), r9]; rfl
    · show watI Ic (100 + 3 * s) 13 = mwt B 39 (24 * s + 10)
      rw [c0, pv 10 (by decide), r10]; rfl
    · show watI Ic (100 + 3 * s) 15 = mwt B 39 (24 * s + 11)
      rw [c0, pv 11 (by decide), hz 11 (by omega)]; rfl
    · rw [c0, fv, if_neg (by decide), if_neg (by decide), if_neg (by decide)]
      unfold putF
      rw [if_neg (by decide), if_neg (by decide), if_neg (by decide), if_neg (by decide), if_neg (by decide), if_pos rfl, hsl2]
    · rw [v34 s (by omega)]; exact r37
    · rw [c1, hsl2]
      unfold ssF
      rw [if_pos hj, v33 _ (by omega), r36 j hj]
    · rw [c0, v32 s (by omega), r35]; rfl
    · rw [c0, ← esx]; rfl
    · rw [c0, ← eby]; rfl
  · rw [e400, h8]
