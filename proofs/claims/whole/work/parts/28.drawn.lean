/-! drawn. -/
def lcgF (x : Int64) : Int64 := x * 6364136223846793005 + 1442695040888963407
def sdN (x : Int64) : Nat → Int64
  | 0 => x
  | k + 1 => lcgF (sdN x k)
def wOf (x : Int64) : Nat := x.toUInt64.toNat / 2 ^ 33
theorem wOf_lt (x : Int64) : wOf x < 2 ^ 31 := by
  have : x.toUInt64.toNat < 2 ^ 64 := x.toUInt64.toNat_lt
  unfold wOf
  omega
theorem wOf_ok (x : Int64) : ((x.toUInt64 >>> ((33 : Int32).toInt64.toUInt64 &&& Int64.toUInt64 63)).toInt64).toInt32 = nI (wOf x) := by
  have h1 : ((33 : Int32).toInt64.toUInt64 &&& Int64.toUInt64 63) = 33 := by decide
  rw [h1]
  have h2 : (x.toUInt64 >>> 33).toInt64 = lN (wOf x) := by
    apply Int64.toBitVec_inj.mp
    apply BitVec.eq_of_toNat_eq
    have hw := wOf_lt x
    show (x.toUInt64 >>> 33).toNat = (BitVec.ofNat 64 (wOf x)).toNat
    rw [BitVec.toNat_ofNat, Nat.mod_eq_of_lt (show wOf x < 2 ^ 64 by omega), UInt64.toNat_shiftRight]
    show x.toUInt64.toNat >>> 33 = _
    rw [Nat.shiftRight_eq_div_pow]
    rfl
  rw [h2, lN_i]
def drF (m : Nat) : Nat → Int64 → mv_I → Int32 → Int32
  | 0, _, _, al => al
  | r + 1, x, T, al => if m = 0 then drF m r (lcgF x) T al else if addK T (100 + 3 * (85 + wOf (lcgF x) / 64 % m)) (nI (wOf (lcgF x) % 40)) = 0 then drF m r (lcgF x) (addI T (100 + 3 * (85 + wOf (lcgF x) / 64 % m)) (nI (wOf (lcgF x) % 40))) al else drF m r (lcgF x) (addI T (100 + 3 * (85 + wOf (lcgF x) / 64 % m)) (nI (wOf (lcgF x) % 40))) (al + 1)
theorem mv_sj_self (J : mv_J) (k j : Nat) : mv_sj J k j (J k j) = J := by
  funext a b
  unfold mv_sj
  split
  · rename_i h; rw [h.1, h.2]
  · rfl
theorem mv_sj_two (J : mv_J) (k j : Nat) (x y : Int64) : mv_sj (mv_sj J k j x) k j y = mv_sj J k j y := by
  funext a b
  unfold mv_sj
  split <;> rfl
def sp_drawn : mv_SP := (fun as I _ => SH I ∧ ∃ n : Int32, as = [.ref 0, .int n],
  fun as I J r I' J' => tgOk I I' ∧ match as with
    | [_, .int n] => if 1 ≤ n ∧ n ≤ 20 then J' = mv_sj J 0 7 (sdN (J 0 7) n.toNatClampNeg) ∧ r = some (.int (drF (I 400 1).toNatClampNeg n.toNatClampNeg (J 0 7) (grpN 17 0 I (I 400 1).toNatClampNeg) 0)) else J' = J ∧ r = some (.int (-2))
    | _ => True)
theorem cb_drawn : mv_body 56 mv_t_X6_drawn (mv_cs [(84, sp_within), (26, sp_groupCopy), (25, sp_at), (5, sp_addCount)]) sp_drawn := by
  intro as I J h
  obtain ⟨hS, n, rfl⟩ := h
  obtain ⟨m, hm, hs⟩ := SH_now hS
  have hcm : (I 400 1).toNatClampNeg = m := by rw [hs]; exact nI_clamp (by omega)
  refine ⟨rfl, mv_run_V (stop := [28]) 60 _ _ _ _ _ ?_⟩
  refine ⟨rfl, trivial, fun r I1 J1 hp => ?_⟩
  obtain ⟨rfl, rfl, rfl⟩ := hp
  refine ⟨fun h3 => ?_, fun h3 => ?_⟩
  · have h3 := b_yes h3
    obtain ⟨q, hq1, hq, rfl⟩ := in_nat1 (M := 20) (by decide) h3
    have hcq : (nI q).toNatClampNeg = q := nI_clamp (by omega)
    have key : ∀ r k : Nat, k + r = q → ∀ I1 al, tgOk I I1 → I1 434 1 = nI m → drF m r (sdN (J 0 7) k) I1 al = drF m q (J 0 7) (grpN 17 0 I m) 0 → mv_V mv_ow mv_swf mv_t_X6_drawn (mv_cs [(84, sp_within), (26, sp_groupCopy), (25, sp_at), (5, sp_addCount)]) (sp_drawn.2 [.ref 0, .int (nI q)] I J) 28 [(0, .ref 0), (1, .int (nI q)), (2, .int al), (3, .int (nI k))] [] I1 (mv_sj J 0 7 (sdN (J 0 7) k)) := by
      intro r
      induction r with
      | zero =>
        intro k hk I1 al hI h4 hf
        have hk : k = q := hk
        subst hk
        refine mv_run_V (stop := [28]) 40 _ _ _ _ _ ?_
        refine ⟨fun h1 => ?_, fun h1 => ?_⟩
        · refine ⟨hI, ?_⟩
          show if 1 ≤ nI k ∧ nI k ≤ 20 then _ else _
          rw [if_pos h3, hcq, hcm]
          refine ⟨rfl, ?_⟩
          show some (Value.int al) = _
          rw [← hf]
          rfl
        · exact absurd h1 (nI_nlt (Nat.le_refl _) (by omega))
      | succ r ih =>
        intro k hk I1 al hI h4 hf
        rw [drF] at hf
        have hsd : lcgF (sdN (J 0 7) k) = sdN (J 0 7) (k + 1) := rfl
        have hw := wOf_lt (sdN (J 0 7) (k + 1))
        have hJ : mv_sj (mv_sj J 0 7 (sdN (J 0 7) k)) 0 7 (mv_sj J 0 7 (sdN (J 0 7) k) 0 7 * 6364136223846793005 + 1442695040888963407) = mv_sj J 0 7 (sdN (J 0 7) (k + 1)) := by
          rw [mv_sj_two, show mv_sj J 0 7 (sdN (J 0 7) k) 0 7 = sdN (J 0 7) k from if_pos ⟨rfl, rfl⟩, sdN, lcgF]
        rw [hsd] at hf
        have hsj : mv_sj J 0 7 (sdN (J 0 7) (k + 1)) 0 7 = sdN (J 0 7) (k + 1) := if_pos ⟨rfl, rfl⟩
        have e64 : ¬ (64 : Int32) = 0 := by decide
        have e40 : ¬ (40 : Int32) = 0 := by decide
        have k59 : ∀ (w : Nat) (W : Int32) (x : Int64), W = nI w → w < 2 ^ 31 → (∀ (I2 : mv_I) (al2 : Int32), tgOk I I2 → I2 434 1 = nI m → (if m = 0 then drF m r x I2 al2 else drF m r x I2 al2) = drF m q (J 0 7) (grpN 17 0 I m) 0 → mv_V mv_ow mv_swf mv_t_X6_drawn (mv_cs [(84, sp_within), (26, sp_groupCopy), (25, sp_at), (5, sp_addCount)]) (sp_drawn.2 [.ref 0, .int (nI q)] I J) 28 [(0, .ref 0), (1, .int (nI q)), (2, .int al2), (3, .int (nI k + 1))] [] I2 (mv_sj J 0 7 x)) → (if m = 0 then drF m r x I1 al else if addK I1 (100 + 3 * (85 + w / 64 % m)) (nI (w % 40)) = 0 then drF m r x (addI I1 (100 + 3 * (85 + w / 64 % m)) (nI (w % 40))) al else drF m r x (addI I1 (100 + 3 * (85 + w / 64 % m)) (nI (w % 40))) (al + 1)) = drF m q (J 0 7) (grpN 17 0 I m) 0 → mv_V mv_ow mv_swf mv_t_X6_drawn (mv_cs [(84, sp_within), (26, sp_groupCopy), (25, sp_at), (5, sp_addCount)]) (sp_drawn.2 [.ref 0, .int (nI q)] I J) 59 [(0, .ref 0), (1, .int (nI q)), (2, .int al), (3, .int (nI k)), (4, .int W)] [] I1 (mv_sj J 0 7 x) := by
          intro w W x hW hw nxt hf
          subst hW
          refine mv_run_V (stop := [28]) 80 _ _ _ _ _ ?_
          refine ⟨rfl, _, rfl, rfl, fun h2 => ?_, fun h2 => ?_⟩
          · rw [h4] at h2
            have hm0 : m = 0 := by
              rcases Nat.eq_zero_or_pos m with z | z
              · exact z
              · exact absurd (nI_lt (a := 0) z (by omega)) h2
            rw [if_pos hm0] at hf
            exact mv_keep [0, 1, 2, 3] (nxt I1 al hI h4 (by rw [if_pos hm0]; exact hf))
          · have hm0 : 0 < m := by
              rcases Nat.eq_zero_or_pos m with z | z
              · rw [h4, z] at h2
                exact absurd h2 (by decide)
              · exact z
            have hnz : ¬ I1 434 1 = 0 := by
              rw [h4]
              exact fun z => absurd ((nI_eq (b := 0) (by omega) (by decide)).mp z) (by omega)
            have hlt : w / 64 % m < m := Nat.mod_lt _ hm0
            rw [if_neg (by omega)] at hf
            refine ⟨rfl, _, rfl, e64, rfl, _, rfl, rfl, hnz, rfl, rfl, ⟨17, m, by decide, rfl, hm, h4⟩, fun r1 I2 J2 hp => ?_⟩
            obtain ⟨rfl, rfl, hr⟩ := hp
            have hr := hr 17 rfl
            have q1 : nI w / 64 = nI (w / 64) := pk_div (d := 64) hw (by decide) (by decide)
            rw [q1, h4, pk_rem (by omega) hm0 (by omega), if_pos (mv_upto2 (by omega) hlt), nI_clamp (by omega)] at hr
            subst hr
            have hn := tgOk_nn hI (i := w / 64 % m) (by omega)
            refine ⟨e40, rfl, mv_lay_ch (by omega), ⟨85 + w / 64 % m, by omega, rfl, hn⟩, fun r1 I2 J2 hp => ?_⟩
            obtain ⟨hr, hI2, rfl⟩ := hp
            have q2 : nI w - nI w / 40 * 40 = nI (w % 40) := pk_rem (d := 40) hw (by decide) (by decide)
            have hr : r1 = some (.int (addK I1 (100 + 3 * (85 + w / 64 % m)) (nI w - nI w / 40 * 40))) := hr
            have hI2 : I2 = addI I1 (100 + 3 * (85 + w / 64 % m)) (nI w - nI w / 40 * 40) := hI2
            rw [q2] at hr hI2
            subst hr hI2
            have hI5 := tgOk_add hI (i := w / 64 % m) (by omega) (nI (w % 40))
            have h45 : addI I1 (100 + 3 * (85 + w / 64 % m)) (nI (w % 40)) 434 1 = nI m := by
              rw [addI_ne (by omega) (by omega)]
              exact h4
            refine ⟨fun h7 => ?_, fun h7 => ?_⟩
            · rw [if_pos h7] at hf
              exact mv_keep [0, 1, 2, 3] (nxt _ al hI5 h45 (by rw [if_neg (by omega)]; exact hf))
            · rw [if_neg h7] at hf
              exact mv_keep [0, 1, 2, 3] (nxt _ (al + 1) hI5 h45 (by rw [if_neg (by omega)]; exact hf))
        refine mv_run_V (stop := [28, 59]) 80 _ _ _ _ _ ?_
        refine ⟨fun h1 => ?_, fun h1 => ?_⟩
        · exact absurd (nI_lt (by omega) (by omega)) h1
        · refine ⟨rfl, rfl, ?_⟩
          rw [hJ]
          refine ⟨rfl, k59 (wOf (sdN (J 0 7) (k + 1))) _ (sdN (J 0 7) (k + 1)) ?_ hw (fun I2 al2 a1 a2 a3 => ?_) hf⟩
          · rw [hsj]
            exact wOf_ok _
          · rw [ite_self] at a3
            have h6 := ih (k + 1) (by omega) I2 al2 a1 a2 a3
            rw [nI_succ] at h6
            exact h6
    refine ⟨rfl, _, rfl, rfl, _, rfl, rfl, rfl, ⟨17, 0, m, by decide, by decide, by decide, rfl, rfl, hm, hs⟩, fun r1 I1 J1 hp => ?_⟩
    obtain ⟨rfl, rfl, hg⟩ := hp
    have hg := hg 17 0 rfl rfl
    rw [hcm] at hg
    subst hg
    have h6 := key q 0 (Nat.zero_add q) (grpN 17 0 I m) 0 (tgOk_grp hS hm) ((grpN_sz (by decide) m hm).trans hs) rfl
    rw [show sdN (J 0 7) 0 = J 0 7 from rfl, mv_sj_self] at h6
    exact h6
  · have h3 := mv_b0.mp h3
    refine ⟨tgOk_rfl hS, ?_⟩
    show if 1 ≤ n ∧ n ≤ 20 then _ else _
    rw [if_neg h3]
    exact ⟨rfl, rfl⟩
theorem c_drawn {l : Launch} {G : mv_G} {A : Nat → Prop} (hG : mv_adk G A) : mv_Con l G A 56 sp_drawn := mv_con hG 56 mv_k_X6_drawn (by decide +kernel) (mv_cs_cons (c_within hG) (mv_cs_cons (c_groupCopy hG) (mv_cs_cons (c_at hG) (mv_cs_cons (c_addCount hG) (mv_cs_nil))))) cb_drawn
