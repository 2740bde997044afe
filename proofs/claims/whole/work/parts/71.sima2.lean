/-! Acts: undo, keep, again, chances, set; observations; letters. -/
theorem REL_undo {N : Nat} {Ic Im : mv_I} (h : REL N Ic Im) (h0 : ¬ Ic 3 2 = 0) : REL N (tkbI Ic) (mun Im) ∧ tkbI Ic 3 2 = Im 30 16 - 1 := by
  obtain ⟨⟨t, ht, t1, t2, t3⟩, ⟨m, hm, e4, hG, ⟨x, d, hx, hd, a3, a4, a5, a6⟩, hk⟩, ⟨q, hq, s1, s2, s3⟩⟩ := h
  have hd0 : d ≠ 0 := fun z => h0 (by rw [a4, z]; rfl)
  have hy : (x + 13) % 14 < 14 := Nat.mod_lt _ (by decide)
  have hbk : bckX Ic = nI ((x + 13) % 14) := by unfold bckX; rw [a3]; exact bck_ok x hx
  have hlast := a6 (d - 1) (by omega)
  rw [show 1 + (x + 14 - d + (d - 1)) % 14 = 1 + (x + 13) % 14 by omega] at hlast
  have eS : Ic (400 + 2 * (1 + (x + 13) % 14)) 1 = nI m := hlast.1
  have ed : nI d - 1 = nI (d - 1) := by
    rw [show d = d - 1 + 1 by omega, nI_pred]
    rfl
  have eT : tkbI Ic = mv_si (grpN 0 (1 + (x + 13) % 14) (mv_si Ic 3 1 (nI ((x + 13) % 14))) m) 3 2 (nI (d - 1)) := by
    unfold tkbI
    rw [hbk, nI_clamp (by omega), eS, nI_clamp (by omega)]
    congr 1
    rw [grpN_low hm (by decide) (by decide), mv_si_ap, if_neg (fun z => absurd z.2 (by decide)), a4, ed]
  have e16 : Im 30 16 - 1 = nI (d - 1) := by rw [a5, ed]
  have m39 : ∀ b, b < 121 → mun Im 39 b = Im 41 (121 * (d - 1) + b) := fun b hb => by
    unfold mun
    rw [mv_sr_at, fa_fill_in hb, e16, nI_clamp (by omega)]
  have mne : ∀ y, y ≠ 39 → y ≠ 30 → mun Im y = Im y := fun y h1 h2 => by
    unfold mun
    rw [mv_sr_ne h1, mv_si_ne h2]
  have m30 : ∀ b, b ≠ 16 → mun Im 30 b = Im 30 b := fun b hb => by
    unfold mun
    rw [mv_sr_ne (by decide), mv_si_ap, if_neg (fun z => hb z.2)]
  have n32 : mun Im 32 = Im 32 := mne 32 (by decide) (by decide)
  have n33 : mun Im 33 = Im 33 := mne 33 (by decide) (by decide)
  have n34 : mun Im 34 = Im 34 := mne 34 (by decide) (by decide)
  have up0 : ∀ {g r a : Nat}, g < 18 → GG N Ic g Im r a m → GG N (mv_si Ic 3 1 (nI ((x + 13) % 14))) g Im r a m := fun h18 hg => GG_c hm (by rw [mv_si_ne (by omega)]) (fun y _ _ => by rw [mv_si_ne (by omega)]) hg
  have up : ∀ {g r a : Nat}, g < 18 → GG N (grpN 0 (1 + (x + 13) % 14) (mv_si Ic 3 1 (nI ((x + 13) % 14))) m) g (mun Im) r a m → GG N (tkbI Ic) g (mun Im) r a m := fun h18 hg => by
    rw [eT]
    exact GG_c hm (by rw [mv_si_ne (by omega)]) (fun y _ _ => by rw [mv_si_ne (by omega)]) hg
  have low : ∀ y, y < 100 → y ≠ 3 → tkbI Ic y = Ic y := fun y hy h3 => by
    rw [eT, mv_si_ne h3, grpN_low hm hy (by decide), mv_si_ne h3]
  refine ⟨⟨⟨t, ht, by rw [low 1 (by decide) (by decide)]; exact t1, by rw [m30 2 (by decide)]; exact t2, fun j hj => by rw [low 2 (by decide) (by decide), mne 31 (by decide) (by decide)]; exact t3 j hj⟩, ⟨m, hm, by rw [m30 4 (by decide)]; exact e4, ?_, ⟨(x + 13) % 14, d - 1, hy, by omega, ?_, ?_, ?_, fun i hi => ?_⟩, fun j hj => ⟨?_, ?_⟩⟩, ⟨q, hq, by rw [low 0 (by decide) (by decide)]; exact s1, by rw [m30 19 (by decide)]; exact s2, fun i hi => ?_⟩⟩, ?_⟩
  · exact up (by decide) (GG_copy (by decide) (by omega) (by omega) hm (up0 (by omega) hlast) (fun b hb => by rw [Nat.zero_add]; exact m39 b hb) n32 n33 n34)
  · rw [eT, mv_si_ap, if_neg (fun z => absurd z.2 (by decide)), grpN_low hm (by decide) (by decide), mv_si_ap, if_pos ⟨rfl, rfl⟩]
  · rw [eT, mv_si_ap, if_pos ⟨rfl, rfl⟩]
  · unfold mun
    rw [mv_sr_ne (by decide), mv_si_ap, if_pos ⟨rfl, rfl⟩, e16]
  · rw [show 1 + ((x + 13) % 14 + 14 - (d - 1) + i) % 14 = 1 + (x + 14 - d + i) % 14 by omega]
    exact up (by omega) (GG_other (by omega) (by omega) (by decide) hm (up0 (by omega) (a6 i (by omega))) (fun b _ => by rw [mne 41 (by decide) (by decide)]) n32 n33 n34)
  · rw [low 6 (by decide) (by decide), mne 43 (by decide) (by decide)]
    exact (hk j hj).1
  · rw [low 6 (by decide) (by decide)]
    rcases (hk j hj).2 with z | z
    · exact Or.inl z
    · exact Or.inr ⟨z.1, up (by omega) (GG_other (by omega) (by omega) (by decide) hm (up0 (by omega) z.2) (fun b _ => by rw [mne 42 (by decide) (by decide)]) n32 n33 n34)⟩
  · rw [low (8 + i) (by omega) (by omega), mne 44 (by decide) (by decide), mne 45 (by decide) (by decide), mne 46 (by decide) (by decide), mne 47 (by decide) (by decide)]
    exact s3 i hi
  · rw [eT, mv_si_ap, if_pos ⟨rfl, rfl⟩, e16]
theorem REL_keep {N : Nat} {Ic Im : mv_I} (h : REL N Ic Im) {s : Nat} (hs : s < 2) : REL N (kepI Ic s) (mkp Im s) := by
  obtain ⟨⟨t, ht, t1, t2, t3⟩, ⟨m, hm, e4, hG, ⟨x, d, hx, hd, a3, a4, a5, a6⟩, hk⟩, ⟨q, hq, s1, s2, s3⟩⟩ := h
  have e400 : Ic 400 1 = nI m := hG.1
  have eK : kepI Ic s = mv_si (grpN (15 + s) 0 Ic m) 6 s 1 := by
    unfold kepI
    rw [e400, nI_clamp (by omega)]
  have m42 : ∀ b, mkp Im s 42 b = fb_put (Im 42) (Im 39) (121 * s) 121 b := fun b => by
    unfold mkp
    rw [mv_sr_at]
  have m43 : ∀ b, mkp Im s 43 b = if b = s then 1 else Im 43 b := fun b => by
    unfold mkp
    rw [mv_sr_ne (by decide), mv_si_ap]
    simp only [true_and]
  have mne : ∀ y, y ≠ 42 → y ≠ 43 → mkp Im s y = Im y := fun y h1 h2 => by
    unfold mkp
    rw [mv_sr_ne h1, mv_si_ne h2]
  have n32 : mkp Im s 32 = Im 32 := mne 32 (by decide) (by decide)
  have n33 : mkp Im s 33 = Im 33 := mne 33 (by decide) (by decide)
  have n34 : mkp Im s 34 = Im 34 := mne 34 (by decide) (by decide)
  have up : ∀ {g r a : Nat}, g < 18 → GG N (grpN (15 + s) 0 Ic m) g (mkp Im s) r a m → GG N (kepI Ic s) g (mkp Im s) r a m := fun h18 hg => by
    rw [eK]
    exact GG_c hm (by rw [mv_si_ne (by omega)]) (fun y _ _ => by rw [mv_si_ne (by omega)]) hg
  have low : ∀ y, y < 100 → y ≠ 6 → kepI Ic s y = Ic y := fun y hy h3 => by
    rw [eK, mv_si_ne h3, grpN_low hm hy (by omega)]
  have k6 : ∀ j, kepI Ic s 6 j = if j = s then 1 else Ic 6 j := fun j => by
    rw [eK, mv_si_ap, grpN_low hm (by decide) (by omega)]
    simp only [true_and]
  refine ⟨⟨t, ht, by rw [low 1 (by decide) (by decide)]; exact t1, by rw [mne 30 (by decide) (by decide)]; exact t2, fun j hj => by rw [low 2 (by decide) (by decide), mne 31 (by decide) (by decide)]; exact t3 j hj⟩, ⟨m, hm, by rw [mne 30 (by decide) (by decide)]; exact e4, ?_, ⟨x, d, hx, hd, by rw [low 3 (by decide) (by decide)]; exact a3, by rw [low 3 (by decide) (by decide)]; exact a4, by rw [mne 30 (by decide) (by decide)]; exact a5, fun i hi => ?_⟩, fun j hj => ⟨?_, ?_⟩⟩, ⟨q, hq, by rw [low 0 (by decide) (by decide)]; exact s1, by rw [mne 30 (by decide) (by decide)]; exact s2, fun i hi => ?_⟩⟩
  · exact up (by decide) (GG_other (by decide) (by omega) (by omega) hm hG (fun b _ => by rw [mne 39 (by decide) (by decide)]) n32 n33 n34)
  · exact up (by omega) (GG_other (by omega) (by omega) (by omega) hm (a6 i hi) (fun b _ => by rw [mne 41 (by decide) (by decide)]) n32 n33 n34)
  · rw [k6, m43]
    by_cases e : j = s
    · rw [if_pos e, if_pos e]
    · rw [if_neg e, if_neg e]
      exact (hk j hj).1
  · rw [k6]
    by_cases e : j = s
    · refine Or.inr ⟨if_pos e, up (by omega) ?_⟩
      rw [e]
      exact GG_copy (by omega) (by decide) (by omega) hm hG (fun b hb => by
        rw [m42, fb_put_in (by omega) (by omega), Nat.zero_add]
        congr 1
        omega) n32 n33 n34
    · rw [if_neg e]
      rcases (hk j hj).2 with z | z
      · exact Or.inl z
      · exact Or.inr ⟨z.1, up (by omega) (GG_other (by omega) (by omega) (by omega) hm z.2 (fun b hb => by
          rw [m42, fb_put_out (by omega)]) n32 n33 n34)⟩
  · rw [low (8 + i) (by omega) (by omega), mne 44 (by decide) (by decide), mne 45 (by decide) (by decide), mne 46 (by decide) (by decide), mne 47 (by decide) (by decide)]
    exact s3 i hi
theorem REL_again {N : Nat} {Ic Im : mv_I} (h : REL N Ic Im) {s : Nat} (hs : s < 2) (h0 : ¬ Ic 6 s = 0) : REL N (agnI Ic s) (mgn Im s) := by
  obtain ⟨⟨t, ht, t1, t2, t3⟩, ⟨m, hm, e4, hG, ⟨x, d, hx, hd, a3, a4, a5, a6⟩, hk⟩, ⟨q, hq, s1, s2, s3⟩⟩ := h
  have hS : GG N Ic (15 + s) Im 42 (121 * s) m := by
    rcases (hk s hs).2 with z | z
    · exact absurd z h0
    · exact z.2
  have eK : agnI Ic s = mv_si (grpN 0 (15 + s) Ic m) 3 2 0 := by
    unfold agnI
    rw [hS.1, nI_clamp (by omega)]
  have m39 : ∀ b, b < 121 → mgn Im s 39 b = Im 42 (121 * s + b) := fun b hb => by
    unfold mgn
    rw [mv_si_ne (by decide), mv_sr_at, fa_fill_in hb]
  have mne : ∀ y, y ≠ 39 → y ≠ 30 → mgn Im s y = Im y := fun y h1 h2 => by
    unfold mgn
    rw [mv_si_ne h2, mv_sr_ne h1]
  have m30 : ∀ b, mgn Im s 30 b = if b = 16 then 0 else Im 30 b := fun b => by
    unfold mgn
    rw [mv_si_ap, mv_sr_ne (by decide)]
    simp only [true_and]
  have n32 : mgn Im s 32 = Im 32 := mne 32 (by decide) (by decide)
  have n33 : mgn Im s 33 = Im 33 := mne 33 (by decide) (by decide)
  have n34 : mgn Im s 34 = Im 34 := mne 34 (by decide) (by decide)
  have up : ∀ {g r a : Nat}, g < 18 → GG N (grpN 0 (15 + s) Ic m) g (mgn Im s) r a m → GG N (agnI Ic s) g (mgn Im s) r a m := fun h18 hg => by
    rw [eK]
    exact GG_c hm (by rw [mv_si_ne (by omega)]) (fun y _ _ => by rw [mv_si_ne (by omega)]) hg
  have low : ∀ y, y < 100 → y ≠ 3 → agnI Ic s y = Ic y := fun y hy h3 => by
    rw [eK, mv_si_ne h3, grpN_low hm hy (by decide)]
  refine ⟨⟨t, ht, by rw [low 1 (by decide) (by decide)]; exact t1, by rw [m30, if_neg (by decide)]; exact t2, fun j hj => by rw [low 2 (by decide) (by decide), mne 31 (by decide) (by decide)]; exact t3 j hj⟩, ⟨m, hm, by rw [m30, if_neg (by decide)]; exact e4, ?_, ⟨x, 0, hx, by decide, ?_, ?_, ?_, fun i hi => absurd hi (Nat.not_lt_zero i)⟩, fun j hj => ⟨?_, ?_⟩⟩, ⟨q, hq, by rw [low 0 (by decide) (by decide)]; exact s1, by rw [m30, if_neg (by decide)]; exact s2, fun i hi => ?_⟩⟩
  · exact up (by decide) (GG_copy (by decide) (by omega) (by omega) hm hS (fun b hb => by rw [Nat.zero_add]; exact m39 b hb) n32 n33 n34)
  · rw [eK, mv_si_ap, if_neg (fun z => absurd z.2 (by decide)), grpN_low hm (by decide) (by decide)]
    exact a3
  · rw [eK, mv_si_ap, if_pos ⟨rfl, rfl⟩]
    rfl
  · rw [m30, if_pos rfl]
    rfl
  · rw [low 6 (by decide) (by decide), mne 43 (by decide) (by decide)]
    exact (hk j hj).1
  · rw [low 6 (by decide) (by decide)]
    rcases (hk j hj).2 with z | z
    · exact Or.inl z
    · exact Or.inr ⟨z.1, up (by omega) (GG_other (by omega) (by omega) (by decide) hm z.2 (fun b _ => by rw [mne 42 (by decide) (by decide)]) n32 n33 n34)⟩
  · rw [low (8 + i) (by omega) (by omega), mne 44 (by decide) (by decide), mne 45 (by decide) (by decide), mne 46 (by decide) (by decide), mne 47 (by decide) (by decide)]
    exact s3 i hi
theorem REL_chances {N : Nat} {Ic Im : mv_I} (h : REL N Ic Im) {w : Int32} (hw : LC w) : REL N (mv_si Ic 400 2 w) (mv_si Im 39 120 w) := by
  obtain ⟨⟨t, ht, t1, t2, t3⟩, ⟨m, hm, e4, hG, ⟨x, d, hx, hd, a3, a4, a5, a6⟩, hk⟩, ⟨q, hq, s1, s2, s3⟩⟩ := h
  have low : ∀ y, y ≠ 400 → mv_si Ic 400 2 w y = Ic y := fun y hy => mv_si_ne hy
  have mne : ∀ y, y ≠ 39 → mv_si Im 39 120 w y = Im y := fun y h1 => mv_si_ne h1
  have old : ∀ {g r a : Nat}, 0 < g → g < 18 → (r = 41 ∨ r = 42) → GG N Ic g Im r a m → GG N (mv_si Ic 400 2 w) g (mv_si Im 39 120 w) r a m := fun h0 h18 hr hg => GG_m hm (fun b _ => by rw [mne _ (by omega)]) (fun s _ => by rw [mne 32 (by decide)]) (fun b _ => by rw [mne 33 (by decide)]) (fun s _ => by rw [mne 34 (by decide)]) (GG_c hm (low _ (by omega)) (fun y _ _ => low y (by omega)) hg)
  refine ⟨⟨t, ht, by rw [low 1 (by decide)]; exact t1, by rw [mne 30 (by decide)]; exact t2, fun j hj => by rw [low 2 (by decide), mne 31 (by decide)]; exact t3 j hj⟩, ⟨m, hm, by rw [mne 30 (by decide)]; exact e4, ⟨?_, ?_, ?_, fun s hs => ?_⟩, ⟨x, d, hx, hd, by rw [low 3 (by decide)]; exact a3, by rw [low 3 (by decide)]; exact a4, by rw [mne 30 (by decide)]; exact a5, fun i hi => old (by omega) (by omega) (Or.inl rfl) (a6 i hi)⟩, fun j hj => ⟨by rw [low 6 (by decide), mne 43 (by decide)]; exact (hk j hj).1, ?_⟩⟩, ⟨q, hq, by rw [low 0 (by decide)]; exact s1, by rw [mne 30 (by decide)]; exact s2, fun i hi => by rw [low (8 + i) (by omega), mne 44 (by decide), mne 45 (by decide), mne 46 (by decide), mne 47 (by decide)]; exact s3 i hi⟩⟩
  · show mv_si Ic 400 2 w 400 1 = nI m
    rw [mv_si_ap, if_neg (fun z => absurd z.2 (by decide))]
    exact hG.1
  · show mv_si Ic 400 2 w 400 2 = mv_si Im 39 120 w 39 (0 + 120)
    rw [mv_si_ap, if_pos ⟨rfl, rfl⟩, mv_si_ap, if_pos ⟨rfl, rfl⟩]
  · show LC (mv_si Ic 400 2 w 400 2)
    rw [mv_si_ap, if_pos ⟨rfl, rfl⟩]
    exact hw
  · refine CR_m (fun k hk => ?_) (by rw [mne 32 (by decide)]) (fun j _ => by rw [mne 33 (by decide)]) (by rw [mne 34 (by decide)]) (CR_c (fun b _ _ _ => ?_) (fun i _ => ?_) (fun i _ => ?_) (hG.2.2.2 s hs))
    · rw [mv_si_ap, if_neg (fun z => by omega)]
    · rw [low _ (by omega)]
    · rw [low _ (by omega)]
    · rw [low _ (by omega)]
  · rw [low 6 (by decide)]
    rcases (hk j hj).2 with z | z
    · exact Or.inl z
    · exact Or.inr ⟨z.1, old (by omega) (by omega) (Or.inr rfl) z.2⟩
theorem nI_00 : nI 0 = 0 := rfl
theorem nI_11 : nI 1 = 1 := rfl
theorem CR_set {N : Nat} {Ic Im : mv_I} {o r a s k : Nat} (hr : r ≠ 32 ∧ r ≠ 33 ∧ r ≠ 34) (hk : k < 4) {v : Int32} (hv : alwP (nI k) v) (h : CR N Ic o Im r a s) : CR N (mv_si Ic o (k + 1) v) o (mv_si Im r (a + k) v) r a s := by
  obtain ⟨g, ⟨n, d, q1, q2, q3, e15, e7, q⟩, ⟨L, l1, l5, e6, e34, l⟩, gb, p1, p2, p8, p9⟩ := h
  have cv : ∀ b, mv_si Ic o (k + 1) v o b = if b = k + 1 then v else Ic o b := fun b => by
    simp only [mv_si_ap, true_and]
  have cn : ∀ x, x ≠ o → mv_si Ic o (k + 1) v x = Ic x := fun x hx => mv_si_ne hx
  have same : ∀ b, b ≠ k + 1 → mv_si Ic o (k + 1) v o b = Ic o b := fun b h1 => by rw [cv, if_neg h1]
  have mv : ∀ i, mv_si Im r (a + k) v r (a + i) = if i = k then v else Im r (a + i) := fun i => by
    rw [mv_si_ap]
    by_cases e : i = k
    · rw [if_pos ⟨rfl, by omega⟩, if_pos e]
    · rw [if_neg (fun z => e (by omega)), if_neg e]
  have mn : ∀ x, x ≠ r → mv_si Im r (a + k) v x = Im x := fun x hx => mv_si_ne hx
  have fld : ∀ i, i < 12 → mv_si Ic o (k + 1) v o (cf i) = mv_si Im r (a + k) v r (a + i) := by
    intro i hi
    rw [cv, mv]
    have hcf : ∀ i, i < 12 → ∀ k, k < 4 → (cf i = k + 1 ↔ i = k) := by decide
    by_cases e : i = k
    · rw [if_pos ((hcf i hi k hk).mpr e), if_pos e]
    · rw [if_neg (fun z => e ((hcf i hi k hk).mp z)), if_neg e]
      exact g i hi
  refine ⟨fld, ⟨n, d, q1, q2, q3, (same 15 (by omega)).trans e15, (same 7 (by omega)).trans e7, fun j hj => ?_⟩, ⟨L, l1, l5, (same 6 (by omega)).trans e6, by rw [mn 34 (by omega)]; exact e34, fun j hj => ?_⟩, ?_, ?_, ?_, ?_, ?_⟩
  · rw [cn _ (by omega), q j hj, Nat.add_assoc, mv (12 + j), if_neg (by omega)]
  · rw [cn _ (by omega), l j hj, mn 33 (by omega)]
  · rw [same 0 (by omega), mn 32 (by omega)]; exact gb
  · rw [cv]
    by_cases e : k = 0
    · subst e
      rw [if_pos rfl]
      unfold alwP at hv
      rw [if_pos nI_00] at hv
      exact in_nat (M := 9) (by decide) hv
    · rw [if_neg (by omega)]; exact p1
  · rw [cv]
    by_cases e : k = 1
    · subst e
      rw [if_pos rfl]
      unfold alwP at hv
      rw [if_neg (by decide), if_pos nI_11] at hv
      exact in_nat1 (M := 99) (by decide) hv
    · rw [if_neg (by omega)]; exact p2
  · rw [same 8 (by omega)]; exact p8
  · rw [same 9 (by omega)]; exact p9
theorem REL_see {N : Nat} {Ic Im : mv_I} (h : REL N Ic Im) {s n k w : Int32} (hp : seeP n k w) (h6 : ¬ Im 30 19 = 6) : REL N (seeI Ic s n k w) (mse Im s n k w) := by
  obtain ⟨⟨t, ht, t1, t2, t3⟩, ⟨m, hm, e4, hG, ⟨x, d, hx, hd, a3, a4, a5, a6⟩, hk⟩, ⟨q, hq, s1, s2, s3⟩⟩ := h
  have hq5 : q ≠ 6 := fun z => h6 (by rw [s2, z]; rfl)
  have cq : (Ic 0 6).toNatClampNeg = q := by rw [s1]; exact nI_clamp (by omega)
  have cq2 : (Im 30 19).toNatClampNeg = q := by rw [s2]; exact nI_clamp (by omega)
  have eS : seeI Ic s n k w = mv_si (mv_si (mv_si (mv_si (mv_si Ic (8 + q) 0 s) (8 + q) 1 n) (8 + q) 2 k) (8 + q) 3 w) 0 6 (nI (q + 1)) := by
    unfold seeI
    rw [cq, s1, nI_1]
  have eM : mse Im s n k w = mv_si (mv_si (mv_si (mv_si (mv_si Im 44 q s) 45 q n) 46 q k) 47 q w) 30 19 (nI (q + 1)) := by
    unfold mse
    rw [cq2, s2, nI_1]
  have low : ∀ y, y ≠ 0 → y ≠ 8 + q → seeI Ic s n k w y = Ic y := fun y h1 h2 => by
    rw [eS, mv_si_ne h1, mv_si_ne h2, mv_si_ne h2, mv_si_ne h2, mv_si_ne h2]
  have mne : ∀ y, y ≠ 30 → (y < 44 ∨ 48 ≤ y) → mse Im s n k w y = Im y := fun y h1 h2 => by
    rw [eM, mv_si_ne h1, mv_si_ne (by omega), mv_si_ne (by omega), mv_si_ne (by omega), mv_si_ne (by omega)]
  have m30 : ∀ b, b ≠ 19 → mse Im s n k w 30 b = Im 30 b := fun b hb => by
    rw [eM, mv_si_ap, if_neg (fun z => hb z.2), mv_si_ne (by decide), mv_si_ne (by decide), mv_si_ne (by decide), mv_si_ne (by decide)]
  have old : ∀ {g r a : Nat}, g < 18 → (r = 39 ∨ r = 41 ∨ r = 42) → GG N Ic g Im r a m → GG N (seeI Ic s n k w) g (mse Im s n k w) r a m := fun h18 hr hg => GG_m hm (fun b _ => by rw [mne _ (by omega) (by omega)]) (fun s _ => by rw [mne 32 (by decide) (by decide)]) (fun b _ => by rw [mne 33 (by decide) (by decide)]) (fun s _ => by rw [mne 34 (by decide) (by decide)]) (GG_c hm (low _ (by omega) (by omega)) (fun y _ _ => low y (by omega) (by omega)) hg)
  refine ⟨⟨t, ht, by rw [low 1 (by decide) (by omega)]; exact t1, by rw [m30 2 (by decide)]; exact t2, fun j hj => by rw [low 2 (by decide) (by omega), mne 31 (by decide) (by decide)]; exact t3 j hj⟩, ⟨m, hm, by rw [m30 4 (by decide)]; exact e4, old (by decide) (by omega) hG, ⟨x, d, hx, hd, by rw [low 3 (by decide) (by omega)]; exact a3, by rw [low 3 (by decide) (by omega)]; exact a4, by rw [m30 16 (by decide)]; exact a5, fun i hi => old (by omega) (by omega) (a6 i hi)⟩, fun j hj => ⟨by rw [low 6 (by decide) (by omega), mne 43 (by decide) (by decide)]; exact (hk j hj).1, ?_⟩⟩, ⟨q + 1, by omega, ?_, ?_, fun i hi => ?_⟩⟩
  · rw [low 6 (by decide) (by omega)]
    rcases (hk j hj).2 with z | z
    · exact Or.inl z
    · exact Or.inr ⟨z.1, old (by omega) (by omega) z.2⟩
  · rw [eS, mv_si_ap, if_pos ⟨rfl, rfl⟩]
  · rw [eM, mv_si_ap, if_pos ⟨rfl, rfl⟩]
  · by_cases e : i = q
    · subst e
      have c : ∀ b, seeI Ic s n k w (8 + i) b = if b = 3 then w else if b = 2 then k else if b = 1 then n else if b = 0 then s else Ic (8 + i) b := fun b => by
        rw [eS, mv_si_ne (by omega)]
        simp only [mv_si_ap, true_and]
      have m44 : mse Im s n k w 44 i = s := by
        rw [eM, mv_si_ne (by decide), mv_si_ne (by decide), mv_si_ne (by decide), mv_si_ne (by decide), mv_si_ap, if_pos ⟨rfl, rfl⟩]
      have m45 : mse Im s n k w 45 i = n := by
        rw [eM, mv_si_ne (by decide), mv_si_ne (by decide), mv_si_ne (by decide), mv_si_ap, if_pos ⟨rfl, rfl⟩]
      have m46 : mse Im s n k w 46 i = k := by
        rw [eM, mv_si_ne (by decide), mv_si_ne (by decide), mv_si_ap, if_pos ⟨rfl, rfl⟩]
      have m47 : mse Im s n k w 47 i = w := by
        rw [eM, mv_si_ne (by decide), mv_si_ap, if_pos ⟨rfl, rfl⟩]
      rw [m44, m45, m46, m47, c, c, c, c]
      refine ⟨rfl, rfl, rfl, rfl, in_nat (M := 9) (by decide) hp.1, ?_⟩
      obtain ⟨j, hj, e⟩ := in_nat (M := 1) (by decide) hp.2.2
      rw [e]
      rcases (show j = 0 ∨ j = 1 by omega) with rfl | rfl
      · exact Or.inl rfl
      · exact Or.inr rfl
    · have mo : ∀ y, (y = 44 ∨ y = 45 ∨ y = 46 ∨ y = 47) → mse Im s n k w y i = Im y i := fun y hy => by
        rw [eM, mv_si_ne (by omega), mv_si_ap, if_neg (fun z => e z.2), mv_si_ap, if_neg (fun z => e z.2), mv_si_ap, if_neg (fun z => e z.2), mv_si_ap, if_neg (fun z => e z.2)]
      rw [low (8 + i) (by omega) (by omega), mo 44 (by omega), mo 45 (by omega), mo 46 (by omega), mo 47 (by omega)]
      exact s3 i (by omega)
theorem REL_unsee {N : Nat} {Ic Im : mv_I} (h : REL N Ic Im) : REL N (mv_si Ic 0 6 0) (mv_si Im 30 19 0) := by
  obtain ⟨⟨t, ht, t1, t2, t3⟩, ⟨m, hm, e4, hG, ⟨x, d, hx, hd, a3, a4, a5, a6⟩, hk⟩, -⟩ := h
  have low : ∀ y, y ≠ 0 → mv_si Ic 0 6 0 y = Ic y := fun y h1 => mv_si_ne h1
  have mne : ∀ y, y ≠ 30 → mv_si Im 30 19 0 y = Im y := fun y h1 => mv_si_ne h1
  have m30 : ∀ b, b ≠ 19 → mv_si Im 30 19 0 30 b = Im 30 b := fun b hb => by rw [mv_si_ap, if_neg (fun z => hb z.2)]
  have old : ∀ {g r a : Nat}, g < 18 → (r = 39 ∨ r = 41 ∨ r = 42) → GG N Ic g Im r a m → GG N (mv_si Ic 0 6 0) g (mv_si Im 30 19 0) r a m := fun h18 hr hg => GG_m hm (fun b _ => by rw [mne _ (by omega)]) (fun s _ => by rw [mne 32 (by decide)]) (fun b _ => by rw [mne 33 (by decide)]) (fun s _ => by rw [mne 34 (by decide)]) (GG_c hm (low _ (by omega)) (fun y _ _ => low y (by omega)) hg)
  refine ⟨⟨t, ht, by rw [low 1 (by decide)]; exact t1, by rw [m30 2 (by decide)]; exact t2, fun j hj => by rw [low 2 (by decide), mne 31 (by decide)]; exact t3 j hj⟩, ⟨m, hm, by rw [m30 4 (by decide)]; exact e4, old (by decide) (by omega) hG, ⟨x, d, hx, hd, by rw [low 3 (by decide)]; exact a3, by rw [low 3 (by decide)]; exact a4, by rw [m30 16 (by decide)]; exact a5, fun i hi => old (by omega) (by omega) (a6 i hi)⟩, fun j hj => ⟨by rw [low 6 (by decide), mne 43 (by decide)]; exact (hk j hj).1, ?_⟩⟩, ⟨0, by decide, ?_, ?_, fun i hi => absurd hi (Nat.not_lt_zero i)⟩⟩
  · rw [low 6 (by decide)]
    rcases (hk j hj).2 with z | z
    · exact Or.inl z
    · exact Or.inr ⟨z.1, old (by omega) (by omega) z.2⟩
  · rw [mv_si_ap, if_pos ⟨rfl, rfl⟩]; rfl
  · rw [mv_si_ap, if_pos ⟨rfl, rfl⟩]; rfl
/-- the text changes: t letters now -/
theorem REL_text {N : Nat} {Ic Ic' Im Im' : mv_I} (h : REL N Ic Im) (hc : ∀ y, y ≠ 1 → y ≠ 2 → Ic' y = Ic y) (hm1 : ∀ y, y ≠ 30 → y ≠ 31 → Im' y = Im y) (hm2 : ∀ b, b ≠ 2 → Im' 30 b = Im 30 b) (ht : ∃ t : Nat, t ≤ 80 ∧ Ic' 1 1 = nI t ∧ Im' 30 2 = nI t ∧ ∀ j, j < t → Ic' 2 j = Im' 31 j) : REL N Ic' Im' := by
  obtain ⟨-, ⟨m, hm, e4, hG, ⟨x, d, hx, hd, a3, a4, a5, a6⟩, hk⟩, ⟨q, hq, s1, s2, s3⟩⟩ := h
  have old : ∀ {g r a : Nat}, g < 18 → (r = 39 ∨ r = 41 ∨ r = 42) → GG N Ic g Im r a m → GG N Ic' g Im' r a m := fun h18 hr hg => GG_m hm (fun b _ => by rw [hm1 _ (by omega) (by omega)]) (fun s _ => by rw [hm1 32 (by decide) (by decide)]) (fun b _ => by rw [hm1 33 (by decide) (by decide)]) (fun s _ => by rw [hm1 34 (by decide) (by decide)]) (GG_c hm (hc _ (by omega) (by omega)) (fun y _ _ => hc y (by omega) (by omega)) hg)
  refine ⟨ht, ⟨m, hm, (hm2 4 (by decide)).trans e4, old (by decide) (by omega) hG, ⟨x, d, hx, hd, by rw [hc 3 (by decide) (by decide)]; exact a3, by rw [hc 3 (by decide) (by decide)]; exact a4, (hm2 16 (by decide)).trans a5, fun i hi => old (by omega) (by omega) (a6 i hi)⟩, fun j hj => ⟨by rw [hc 6 (by decide) (by decide), hm1 43 (by decide) (by decide)]; exact (hk j hj).1, ?_⟩⟩, ⟨q, hq, by rw [hc 0 (by decide) (by decide)]; exact s1, (hm2 19 (by decide)).trans s2, fun i hi => by rw [hc (8 + i) (by omega) (by omega), hm1 44 (by decide) (by decide), hm1 45 (by decide) (by decide), hm1 46 (by decide) (by decide), hm1 47 (by decide) (by decide)]; exact s3 i hi⟩⟩
  rw [hc 6 (by decide) (by decide)]
  rcases (hk j hj).2 with z | z
  · exact Or.inl z
  · exact Or.inr ⟨z.1, old (by omega) (by omega) z.2⟩
