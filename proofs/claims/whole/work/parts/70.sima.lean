/-! Acts: the state of both goes along. -/
theorem grpN_hd {g h : Nat} (hg : g < 18) (hh : h < 18) (I : mv_I) : ∀ k, k ≤ 5 → ∀ b, grpN g h I k (400 + 2 * g) b = if b = 2 then I (400 + 2 * h) 2 else if b = 1 then I (400 + 2 * h) 1 else I (400 + 2 * g) b
  | 0, _, b => by
    unfold grpN
    rw [mv_si_ap, mv_si_ap, mv_si_ap]
    by_cases b2 : b = 2
    · rw [if_pos ⟨rfl, b2⟩, if_pos b2, if_neg (fun z => absurd z.2 (by decide))]
    · rw [if_neg (fun z => b2 z.2), if_neg b2]
      by_cases b1 : b = 1
      · rw [if_pos ⟨rfl, b1⟩, if_pos b1]
      · rw [if_neg (fun z => b1 z.2), if_neg b1]
  | k + 1, hk, b => by
    rw [grpN, copyI_ne (by omega) (by omega) (by omega)]
    exact grpN_hd hg hh I k (by omega) b
theorem GG_copy {N : Nat} {Ic Im Im' : mv_I} {g h r r' a a' m : Nat} (hg : g < 18) (hh : h < 18) (hgh : g ≠ h) (hm : m ≤ 5) (hG : GG N Ic h Im r a m) (hb : ∀ b, b < 121 → Im' r' (a' + b) = Im r (a + b)) (h32 : Im' 32 = Im 32) (h33 : Im' 33 = Im 33) (h34 : Im' 34 = Im 34) : GG N (grpN g h Ic m) g Im' r' a' m := by
  have e1 := grpN_hd hg hh Ic m hm 1
  have e2 := grpN_hd hg hh Ic m hm 2
  rw [if_neg (by decide), if_pos rfl] at e1
  rw [if_pos rfl] at e2
  refine ⟨e1.trans hG.1, e2.trans (hG.2.1.trans (hb 120 (by decide)).symm), by rw [e2]; exact hG.2.2.1, fun s hs => ?_⟩
  refine CR_m (fun k hk => ?_) (by rw [h32]) (fun j _ => by rw [h33]) (by rw [h34]) (grpN_v hh hgh hm hG.2.2.2 m (Nat.le_refl _) s hs)
  rw [Nat.add_assoc, Nat.add_assoc, hb (24 * s + k) (by omega)]
theorem GG_other {N : Nat} {Ic Im Im' : mv_I} {g h q r r' a a' m : Nat} (hq : q < 18) (hqg : q ≠ g) (hg : g < 18) (hm : m ≤ 5) (hG : GG N Ic q Im r a m) (hb : ∀ b, b < 121 → Im' r' (a' + b) = Im r (a + b)) (h32 : Im' 32 = Im 32) (h33 : Im' 33 = Im 33) (h34 : Im' 34 = Im 34) : GG N (grpN g h Ic m) q Im' r' a' m := by
  refine GG_m hm hb (fun s _ => by rw [h32]) (fun b _ => by rw [h33]) (fun s _ => by rw [h34]) (GG_c hm ?_ (fun x h1 h2 => ?_) hG)
  · rw [grpN_ne Ic (by omega) (by omega) m hm]
  · rw [grpN_ne Ic (by omega) (by omega) m hm]
theorem grpN_low {g h : Nat} {Ic : mv_I} {m x : Nat} (hm : m ≤ 5) (hx : x < 100) (hg : g < 18) : grpN g h Ic m x = Ic x := grpN_ne Ic (by omega) (by omega) m hm
theorem mnB_row {Im : mv_I} {d : Nat} (hd : d ≤ 14) (e16 : Im 30 16 = nI d) : (∀ b, b < 121 → mnt Im 41 (121 * (if d = 14 then 13 else d) + b) = Im 39 b) ∧ ∀ i, i < (if d = 14 then 13 else d) → ∀ b, b < 121 → mnt Im 41 (121 * i + b) = Im 41 (121 * (if d = 14 then i + 1 else i) + b) := by
  have h14 : (nI d = 14) ↔ d = 14 := nI_eq (b := 14) (by omega) (by decide)
  have eE : mnE Im = if d = 14 then 13 else d := by
    unfold mnE
    rw [e16]
    by_cases h : d = 14
    · rw [if_pos (h14.mpr h), if_pos h]
    · rw [if_neg (fun z => h (h14.mp z)), if_neg h, nI_clamp (by omega)]
  have e41 : mnt Im 41 = mnB Im := by
    unfold mnt
    rw [mv_si_ne (by decide), mv_sr_at]
  rw [e41]
  unfold mnB
  rw [eE]
  refine ⟨fun b hb => ?_, fun i hi b hb => ?_⟩
  · rw [fb_put_in (by omega) (by omega)]
    congr 1
    omega
  · rw [fb_put_out (Or.inl (by omega)), e16]
    by_cases h : d = 14
    · rw [if_pos h] at hi
      rw [if_pos (h14.mpr h), if_pos h, fa_fill_in (by omega)]
      congr 1
      omega
    · rw [if_neg (fun z => h (h14.mp z)), if_neg h]
theorem mnt_16 {Im : mv_I} {d : Nat} (hd : d ≤ 14) (e16 : Im 30 16 = nI d) : mnt Im 30 16 = nI ((if d = 14 then 13 else d) + 1) := by
  have h14 : (nI d = 14) ↔ d = 14 := nI_eq (b := 14) (by omega) (by decide)
  unfold mnt
  rw [mv_si_ap, if_pos ⟨rfl, rfl⟩]
  unfold mnE
  rw [e16]
  by_cases h : d = 14
  · rw [if_pos (h14.mpr h), if_pos h]
  · rw [if_neg (fun z => h (h14.mp z)), if_neg h, nI_clamp (by omega)]
theorem mnt_30 {Im : mv_I} {b : Nat} (hb : b ≠ 16) : mnt Im 30 b = Im 30 b := by
  unfold mnt
  rw [mv_si_ap, if_neg (fun z => hb z.2), mv_sr_ne (by decide), mv_si_ap, if_neg (fun z => hb z.2)]
theorem remI_is {Ic : mv_I} {x d m : Nat} (hx : x < 14) (hd : d ≤ 14) (hm : m ≤ 5) (e1 : Ic 3 1 = nI x) (e2 : Ic 3 2 = nI d) (e4 : Ic 400 1 = nI m) : remI Ic = mv_si (mv_si (grpN (1 + x) 0 Ic m) 3 1 (nI ((x + 1) % 14))) 3 2 (nI ((if d = 14 then 13 else d) + 1)) := by
  have g3 : grpN (1 + x) 0 Ic m 3 = Ic 3 := grpN_low hm (by decide) (by omega)
  have emn : mv_mn 14 (nI d + 1) = nI ((if d = 14 then 13 else d) + 1) := by
    have : ∀ d, d ≤ 14 → mv_mn 14 (nI d + 1) = nI ((if d = 14 then 13 else d) + 1) := by decide +kernel
    exact this d hd
  unfold remI
  rw [e1, e4, nI_clamp (by omega), nI_clamp (by omega), g3, e1, fwd_ok x hx]
  congr 1
  rw [mv_si_ap, if_neg (fun z => absurd z.2 (by decide)), g3, e2, emn]
theorem REL_note {N : Nat} {Ic Im : mv_I} (h : REL N Ic Im) : REL N (remI Ic) (mnt Im) := by
  obtain ⟨⟨t, ht, t1, t2, t3⟩, ⟨m, hm, e4, hG, ⟨x, d, hx, hd, a3, a4, a5, a6⟩, hk⟩, ⟨q, hq, s1, s2, s3⟩⟩ := h
  have hG0 := hG.1
  obtain ⟨r1, r2⟩ := mnB_row hd a5
  have n32 : mnt Im 32 = Im 32 := mnt_ne (by decide) (by decide)
  have n33 : mnt Im 33 = Im 33 := mnt_ne (by decide) (by decide)
  have n34 : mnt Im 34 = Im 34 := mnt_ne (by decide) (by decide)
  rw [remI_is hx hd hm a3 a4 hG0]
  have low : ∀ y, y < 100 → y ≠ 3 → mv_si (mv_si (grpN (1 + x) 0 Ic m) 3 1 (nI ((x + 1) % 14))) 3 2 (nI ((if d = 14 then 13 else d) + 1)) y = Ic y := fun y hy h3 => by
    rw [mv_si_ne h3, mv_si_ne h3]
    exact grpN_low hm hy (by omega)
  have up : ∀ {g r a : Nat}, GG N (grpN (1 + x) 0 Ic m) g (mnt Im) r a m → g < 18 → GG N (mv_si (mv_si (grpN (1 + x) 0 Ic m) 3 1 (nI ((x + 1) % 14))) 3 2 (nI ((if d = 14 then 13 else d) + 1))) g (mnt Im) r a m := fun hg hg18 => GG_c hm (by rw [mv_si_ne (by omega), mv_si_ne (by omega)]) (fun y _ _ => by rw [mv_si_ne (by omega), mv_si_ne (by omega)]) hg
  refine ⟨⟨t, ht, by rw [low 1 (by decide) (by decide)]; exact t1, by rw [mnt_30 (by decide)]; exact t2, fun j hj => by rw [low 2 (by decide) (by decide), mnt_ne (by decide) (by decide)]; exact t3 j hj⟩, ⟨m, hm, by rw [mnt_30 (by decide)]; exact e4, ?_, ⟨(x + 1) % 14, (if d = 14 then 13 else d) + 1, Nat.mod_lt _ (by decide), by split <;> omega, ?_, ?_, mnt_16 hd a5, fun i hi => ?_⟩, fun j hj => ⟨?_, ?_⟩⟩, ⟨q, hq, by rw [low 0 (by decide) (by decide)]; exact s1, by rw [mnt_30 (by decide)]; exact s2, fun i hi => ?_⟩⟩
  · exact up (GG_other (by decide) (by omega) (by omega) hm hG (fun b _ => by rw [mnt_ne (by decide) (by decide)]) n32 n33 n34) (by decide)
  · rw [mv_si_ap, if_neg (fun z => absurd z.2 (by decide)), mv_si_ap, if_pos ⟨rfl, rfl⟩]
  · rw [mv_si_ap, if_pos ⟨rfl, rfl⟩]
  · refine up ?_ (by omega)
    by_cases hl : i = (if d = 14 then 13 else d)
    · have eg : 1 + ((x + 1) % 14 + 14 - ((if d = 14 then 13 else d) + 1) + i) % 14 = 1 + x := by
        rw [hl]
        split <;> omega
      rw [eg, hl]
      exact GG_copy (by omega) (by decide) (by omega) hm hG (fun b hb => by rw [Nat.zero_add]; exact r1 b hb) n32 n33 n34
    · have hi2 : i < (if d = 14 then 13 else d) := by omega
      have hold : (if d = 14 then i + 1 else i) < d := by
        split at hi2
        · rename_i h14; rw [if_pos h14]; omega
        · rename_i h14; rw [if_neg h14]; omega
      have eg : 1 + ((x + 1) % 14 + 14 - ((if d = 14 then 13 else d) + 1) + i) % 14 = 1 + (x + 14 - d + (if d = 14 then i + 1 else i)) % 14 := by
        split <;> omega
      have hne : 1 + (x + 14 - d + (if d = 14 then i + 1 else i)) % 14 ≠ 1 + x := by
        by_cases h14 : d = 14
        · rw [if_pos h14] at hi2 ⊢
          omega
        · rw [if_neg h14] at hi2 ⊢
          omega
      rw [eg]
      exact GG_other (by omega) hne (by omega) hm (a6 _ hold) (fun b hb => r2 i hi2 b hb) n32 n33 n34
  · rw [low 6 (by decide) (by decide), mnt_ne (by decide) (by decide)]
    exact (hk j hj).1
  · rw [low 6 (by decide) (by decide)]
    rcases (hk j hj).2 with z | z
    · exact Or.inl z
    · exact Or.inr ⟨z.1, up (GG_other (by omega) (by omega) (by omega) hm z.2 (fun b _ => by rw [mnt_ne (by decide) (by decide)]) n32 n33 n34) (by omega)⟩
  · rw [low (8 + i) (by omega) (by omega), mnt_ne (by decide) (by decide), mnt_ne (by decide) (by decide), mnt_ne (by decide) (by decide), mnt_ne (by decide) (by decide)]
    exact s3 i hi
/-- one series of now changes -/
theorem REL_chart {N N' : Nat} {Ic Ic' Im Im' : mv_I} {j m : Nat} (hN : N ≤ N') (h : REL N Ic Im) (hm : Ic 400 1 = nI m) (hm5 : m ≤ 5) (hj : j < m) (hc : ∀ x, x ≠ 100 + 3 * j → x ≠ 100 + 3 * j + 2 → Ic' x = Ic x) (h1 : ∀ x, x ≠ 39 → Im' x = Im x) (h2 : ∀ b, (b < 24 * j ∨ 24 * j + 24 ≤ b) → Im' 39 b = Im 39 b) (hC : CR N' Ic' (100 + 3 * j) Im' 39 (24 * j) j) : REL N' Ic' Im' := by
  obtain ⟨⟨t, ht, t1, t2, t3⟩, ⟨m', hm', e4, hG, ⟨x, d, hx, hd, a3, a4, a5, a6⟩, hk⟩, ⟨q, hq, s1, s2, s3⟩⟩ := h
  have em : m' = m := (nI_eq (by omega) (by omega)).mp (hG.1.symm.trans hm)
  subst em
  have low : ∀ y, y < 100 → Ic' y = Ic y := fun y hy => hc y (by omega) (by omega)
  have old : ∀ {g r a : Nat}, 0 < g → g < 18 → (r = 41 ∨ r = 42) → GG N Ic g Im r a m' → GG N' Ic' g Im' r a m' := fun h0 h18 hr hg => GG_mono hN (GG_m hm' (fun b _ => by rw [h1 _ (by omega)]) (fun s _ => by rw [h1 32 (by decide)]) (fun b _ => by rw [h1 33 (by decide)]) (fun s _ => by rw [h1 34 (by decide)]) (GG_c hm' (hc _ (by omega) (by omega)) (fun y _ _ => hc y (by omega) (by omega)) hg))
  have e400 : Ic' 400 = Ic 400 := hc 400 (by omega) (by omega)
  refine ⟨⟨t, ht, by rw [low 1 (by decide)]; exact t1, by rw [h1 30 (by decide)]; exact t2, fun j hj => by rw [low 2 (by decide), h1 31 (by decide)]; exact t3 j hj⟩, ⟨m', hm', by rw [h1 30 (by decide)]; exact e4, ⟨?_, ?_, ?_, fun s hs => ?_⟩, ⟨x, d, hx, hd, by rw [low 3 (by decide)]; exact a3, by rw [low 3 (by decide)]; exact a4, by rw [h1 30 (by decide)]; exact a5, fun i hi => old (by omega) (by omega) (Or.inl rfl) (a6 i hi)⟩, fun j hj => ⟨by rw [low 6 (by decide), h1 43 (by decide)]; exact (hk j hj).1, ?_⟩⟩, ⟨q, hq, by rw [low 0 (by decide)]; exact s1, by rw [h1 30 (by decide)]; exact s2, fun i hi => by rw [low (8 + i) (by omega), h1 44 (by decide), h1 45 (by decide), h1 46 (by decide), h1 47 (by decide)]; exact s3 i hi⟩⟩
  · show Ic' 400 1 = nI m'
    rw [e400]
    exact hG.1
  · show Ic' 400 2 = _
    rw [e400, h2 _ (by omega)]
    exact hG.2.1
  · show LC (Ic' 400 2)
    rw [e400]
    exact hG.2.2.1
  · rw [Nat.zero_add, Nat.zero_add]
    by_cases e : s = j
    · rw [e]; exact hC
    · have hs2 := hG.2.2.2 s hs
      rw [Nat.zero_add, Nat.zero_add] at hs2
      refine CR_mono hN (CR_m (fun k hk => h2 _ (by omega)) (by rw [h1 32 (by decide)]) (fun j _ => by rw [h1 33 (by decide)]) (by rw [h1 34 (by decide)]) (CR_c (fun b _ _ _ => ?_) (fun i _ => ?_) (fun i _ => ?_) hs2))
      · rw [hc _ (by omega) (by omega)]
      · rw [hc _ (by omega) (by omega)]
      · rw [hc _ (by omega) (by omega)]
  · rw [low 6 (by decide)]
    rcases (hk j hj).2 with z | z
    · exact Or.inl z
    · exact Or.inr ⟨z.1, old (by omega) (by omega) (Or.inr rfl) z.2⟩
