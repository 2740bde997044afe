/-! The text: reading. -/
/-- how long the season is whose first figure stands at st -/
noncomputable def slN (T : Nat → Int32) (n st : Nat) : Nat → Nat → Nat
  | 0, k => k
  | r + 1, k => @ite _ (stN T n (st + k)) (Classical.propDecidable _) k (slN T n st r (k + 1))
theorem slN_le (T : Nat → Int32) (n st : Nat) : ∀ r k, slN T n st r k ≤ k + r
  | 0, k => Nat.le_refl _
  | r + 1, k => by
    rw [slN]
    split
    · omega
    · have := slN_le T n st r (k + 1)
      omega
/-- the fields of a series whose c stands at a -/
noncomputable def putF (T : Nat → Int32) (n a : Nat) (f : Nat → Int32) : Nat → Int32 := fun b => if b = 0 then 10 * dgN T n (a + 1) + dgN T n (a + 2) else if b = 1 then dgN T n (a + 3) else if b = 2 then 10 * dgN T n (a + 4) + dgN T n (a + 5) else if b = 3 then dgN T n (a + 6) else if b = 4 then dgN T n (a + 7) else if b = 6 then nI (slN T n (a + 8) 5 0) else f b
noncomputable def rdF (T : Nat → Int32) (n a : Nat) (f : Nat → Int32) : Nat → Int32 := beginF (putF T n a f)
noncomputable def ssF (T : Nat → Int32) (n a L : Nat) (f : Nat → Int32) : Nat → Int32 := fun j => if j < L then dgN T n (a + 8 + j) else f j
noncomputable def rdI (I : mv_I) (o n a : Nat) : mv_I := mv_sr (mv_sr I (o + 1) (ssF (I 2) n a (slN (I 2) n (a + 8) 5 0) (I (o + 1)))) o (rdF (I 2) n a (I o))
def sp_readSeries : mv_SP := (fun as I _ => ∃ (t a c : Nat), t ≤ 80 ∧ I 1 1 = nI t ∧ a < 500 ∧ c < 91 ∧ as = [.ref 1, .int (nI a), .ref (100 + 3 * c)],
  fun as I J r I' J' => J = J' ∧ match as with
    | [_, .int a, .ref o] => I' = rdI I o (I 1 1).toNatClampNeg a.toNatClampNeg ∧ r = some (.int (nI (a.toNatClampNeg + 9 + slN (I 2) (I 1 1).toNatClampNeg (a.toNatClampNeg + 8) 5 0)))
    | _ => True)
theorem cb_readSeries : mv_body 44 mv_t_X5_readSeries (mv_cs [(39, sp_digit), (45, sp_stopsAt), (10, sp_begin)]) sp_readSeries := by
  intro as I J h
  obtain ⟨t, a, c, ht, hs, ha, hc, rfl⟩ := h
  have hct : (I 1 1).toNatClampNeg = t := by rw [hs]; exact nI_clamp (by omega)
  have hca : (nI a).toNatClampNeg = a := nI_clamp (by omega)
  have lay := mv_lay_ch hc
  have e1 : 100 + 3 * c + 1 = 101 + 3 * c := by omega
  have ca : ∀ {x : Nat}, x < 1000 → (nI x).toNatClampNeg = x := fun h => nI_clamp (by omega)
  -- the season
  have key : ∀ (s5 : mv_I), s5 1 = I 1 → s5 2 = I 2 → (∀ b, b ≠ 100 + 3 * c → s5 b = I b) → (∀ b, b ≠ 6 → s5 (100 + 3 * c) b = putF (I 2) t a (I (100 + 3 * c)) b) → ∀ r k : Nat, k + r = 5 → slN (I 2) t (a + 8) r k = slN (I 2) t (a + 8) 5 0 → mv_V mv_ow mv_swf mv_t_X5_readSeries (mv_cs [(39, sp_digit), (45, sp_stopsAt), (10, sp_begin)]) (sp_readSeries.2 [.ref 1, .int (nI a), .ref (100 + 3 * c)] I J) 87 [(0, .ref 1), (1, .int (nI a)), (2, .ref (100 + 3 * c)), (3, .int (nI (a + 8))), (4, .int (nI k))] [] (mv_sr s5 (101 + 3 * c) (ssF (I 2) t a k (I (101 + 3 * c)))) J := by
    intro s5 h1 h2 h3 h4 r
    have fin : ∀ k : Nat, k ≤ 5 → k = slN (I 2) t (a + 8) 5 0 → sp_readSeries.2 [.ref 1, .int (nI a), .ref (100 + 3 * c)] I J (some (.int (nI (a + 8) + nI k + 1))) (mv_sr (mv_si (mv_sr s5 (101 + 3 * c) (ssF (I 2) t a k (I (101 + 3 * c)))) (100 + 3 * c) 6 (nI k)) (100 + 3 * c) (beginF ((mv_si (mv_sr s5 (101 + 3 * c) (ssF (I 2) t a k (I (101 + 3 * c)))) (100 + 3 * c) 6 (nI k)) (100 + 3 * c)))) J := by
      intro k hk5 hk
      refine ⟨rfl, ?_⟩
      show mv_sr _ _ _ = rdI I (100 + 3 * c) (I 1 1).toNatClampNeg (nI a).toNatClampNeg ∧ some (Value.int _) = some (Value.int (nI ((nI a).toNatClampNeg + 9 + slN (I 2) (I 1 1).toNatClampNeg ((nI a).toNatClampNeg + 8) 5 0)))
      rw [hct, hca, ← hk, nI_add, ← nI_succ]
      refine ⟨?_, by rw [show a + 8 + k + 1 = a + 9 + k by omega]⟩
      unfold rdI
      rw [e1, ← hk]
      have hput : mv_si (mv_sr s5 (101 + 3 * c) (ssF (I 2) t a k (I (101 + 3 * c)))) (100 + 3 * c) 6 (nI k) (100 + 3 * c) = putF (I 2) t a (I (100 + 3 * c)) := by
        funext b
        rw [mv_si_ap, mv_sr_ap, if_neg (by omega : ¬ 100 + 3 * c = 101 + 3 * c)]
        by_cases hb : b = 6
        · rw [if_pos ⟨rfl, hb⟩, hb]
          unfold putF
          rw [if_neg (by decide), if_neg (by decide), if_neg (by decide), if_neg (by decide), if_neg (by decide), if_pos rfl, ← hk]
        · rw [if_neg (fun z => hb z.2), h4 b hb]
      rw [hput]
      unfold rdF
      funext x b
      rw [mv_sr_ap, mv_sr_ap, mv_sr_ap, mv_si_ap, mv_sr_ap]
      by_cases hx : x = 100 + 3 * c
      · rw [if_pos hx, if_pos hx]
      · rw [if_neg hx, if_neg hx, if_neg (fun z => hx z.1)]
        by_cases hx2 : x = 101 + 3 * c
        · rw [if_pos hx2, if_pos hx2]
        · rw [if_neg hx2, if_neg hx2, h3 x hx]
    have q1 : ∀ f, (mv_sr s5 (101 + 3 * c) f) 1 = I 1 := fun f => (mv_sr_ne (by omega)).trans h1
    have q2 : ∀ f, (mv_sr s5 (101 + 3 * c) f) 2 = I 2 := fun f => (mv_sr_ne (by omega)).trans h2
    induction r with
    | zero =>
      intro k hk hf
      have hk : k = 5 := hk
      subst hk
      refine mv_run_V (stop := [87]) 40 _ _ _ _ _ ?_
      refine ⟨fun h5 => ?_, fun h5 => ?_⟩
      · refine ⟨lay, rfl, lay, ⟨c, hc, rfl⟩, fun r1 I2 J2 hp => ?_⟩
        obtain ⟨rfl, rfl, rfl⟩ := hp
        exact fin 5 (by decide) hf
      · have h5 : nI 5 < nI 5 := h5
        exact absurd h5 (nI_nlt (Nat.le_refl _) (by decide))
    | succ r ih =>
      intro k hk hf
      rw [slN] at hf
      have hadd : nI (a + 8) + nI k = nI (a + 8 + k) := nI_add _ _
      refine mv_run_V (stop := [87]) 60 _ _ _ _ _ ?_
      refine ⟨fun h5 => ?_, fun h5 => ?_⟩
      · have h5 : ¬ nI k < nI 5 := h5
        exact absurd (nI_lt (by omega) (by decide)) h5
      · refine ⟨rfl, rfl, ⟨⟨t, ht, (congrFun (q1 _) 1).trans hs⟩, a + 8 + k, by omega, by rw [← hadd]⟩, fun r1 I2 J2 hp => ?_⟩
        obtain ⟨rfl, rfl, z, rfl, hz⟩ := hp
        rw [q2, q1, hct, hadd, ca (by omega)] at hz
        refine ⟨fun h6 => ?_, fun h6 => ?_⟩
        · have hst : stN (I 2) t (a + 8 + k) := by
            rcases hz with ⟨z, -⟩ | ⟨-, z⟩
            · exact absurd z h6
            · exact z
          rw [if_pos hst] at hf
          refine ⟨lay, rfl, lay, ⟨c, hc, rfl⟩, fun r1 I2 J2 hp => ?_⟩
          obtain ⟨rfl, rfl, rfl⟩ := hp
          exact fin k (by omega) hf
        · have hst : ¬ stN (I 2) t (a + 8 + k) := by
            rcases hz with ⟨-, z⟩ | ⟨z, -⟩
            · exact z
            · rw [z] at h6
              exact absurd h6 (by decide)
          rw [if_neg hst] at hf
          refine ⟨lay, _, mv_rf_cs hc, rfl, rfl, ⟨⟨t, ht, (congrFun (q1 _) 1).trans hs⟩, a + 8 + k, by omega, by rw [← hadd]⟩, fun r1 I2 J2 hp => ?_⟩
          obtain ⟨rfl, rfl, hr⟩ := hp
          have hr : r1 = some (.int (dgN ((mv_sr s5 (101 + 3 * c) (ssF (I 2) t a k (I (101 + 3 * c)))) 2) ((mv_sr s5 (101 + 3 * c) (ssF (I 2) t a k (I (101 + 3 * c)))) 1 1).toNatClampNeg (nI (a + 8) + nI k).toNatClampNeg)) := hr
          rw [q2, q1, hct, hadd, ca (by omega)] at hr
          subst hr
          refine ⟨_, mv_lay_cs hc, vp_in_nI (by omega) (by decide), ?_⟩
          rw [ca (by omega)]
          have hnx : mv_si (mv_sr s5 (101 + 3 * c) (ssF (I 2) t a k (I (101 + 3 * c)))) (101 + 3 * c) k (dgN (I 2) t (a + 8 + k)) = mv_sr s5 (101 + 3 * c) (ssF (I 2) t a (k + 1) (I (101 + 3 * c))) := by
            funext x b
            rw [mv_si_ap, mv_sr_ap, mv_sr_ap]
            unfold ssF
            by_cases hx : x = 101 + 3 * c
            · rw [if_pos hx, if_pos hx]
              by_cases hb : b = k
              · rw [if_pos ⟨hx, hb⟩, if_pos (by omega), hb]
              · rw [if_neg (fun z => hb z.2)]
                by_cases hb2 : b < k
                · rw [if_pos hb2, if_pos (by omega)]
                · rw [if_neg hb2, if_neg (by omega)]
            · rw [if_neg (fun z => hx z.1), if_neg hx, if_neg hx]
          rw [hnx]
          have h7 := ih (k + 1) (by omega) hf
          rw [nI_succ k] at h7
          exact h7
  have dg : ∀ (Ik : mv_I) (x : Nat), Ik 1 = I 1 → Ik 2 = I 2 → x < 1000 → dgN (Ik 2) (Ik 1 1).toNatClampNeg (nI x).toNatClampNeg = dgN (I 2) t x := by
    intro Ik x h1 h2 hx
    rw [h1, h2, hct, ca hx]
  have si1 : ∀ {Ik : mv_I} {j : Nat} {x : Int32}, Ik 1 = I 1 → (mv_si Ik (100 + 3 * c) j x) 1 = I 1 := fun h => (mv_si_ne (by omega)).trans h
  have si2 : ∀ {Ik : mv_I} {j : Nat} {x : Int32}, Ik 2 = I 2 → (mv_si Ik (100 + 3 * c) j x) 2 = I 2 := fun h => (mv_si_ne (by omega)).trans h
  have ad : ∀ x : Nat, nI a + nI x = nI (a + x) := fun x => nI_add a x
  have st : ∀ (Ik : mv_I) (q : Nat) (z : Int32), Ik 1 = I 1 → Ik 2 = I 2 → q < 100 → z = nI q → (∃ t : Nat, t ≤ 80 ∧ Ik 1 1 = nI t) ∧ ∃ x : Nat, x < 1000 ∧ [Value.ref 1, .int (nI a + z)] = [.ref 1, .int (nI x)] := by
    intro Ik q z h1 h2 hq hz
    exact ⟨⟨t, ht, (congrFun h1 1).trans hs⟩, a + q, by omega, by rw [hz, ad]⟩
  have ps : ∀ (Ik : mv_I) (q : Nat) (z : Int32) (r : Option Value), Ik 1 = I 1 → Ik 2 = I 2 → q < 100 → z = nI q → r = some (.int (dgN (Ik 2) (Ik 1 1).toNatClampNeg (nI a + z).toNatClampNeg)) → r = some (.int (dgN (I 2) t (a + q))) := by
    intro Ik q z r h1 h2 hq hz hr
    rw [hz, ad, dg Ik (a + q) h1 h2 (by omega)] at hr
    exact hr
  refine ⟨rfl, mv_run_V (stop := [87]) 60 _ _ _ _ _ ?_⟩
  refine ⟨rfl, rfl, st I 1 _ rfl rfl (by decide) rfl, fun r1 I2 J2 hp => ?_⟩
  obtain ⟨rfl, rfl, hr⟩ := hp
  have hr := ps I 1 _ _ rfl rfl (by decide) rfl hr
  subst hr
  refine ⟨rfl, rfl, st I 2 _ rfl rfl (by decide) rfl, fun r1 I2 J2 hp => ?_⟩
  obtain ⟨rfl, rfl, hr⟩ := hp
  have hr := ps I 2 _ _ rfl rfl (by decide) rfl hr
  subst hr
  refine ⟨lay, rfl, rfl, st _ 3 _ (si1 rfl) (si2 rfl) (by decide) rfl, fun r1 I2 J2 hp => ?_⟩
  obtain ⟨rfl, rfl, hr⟩ := hp
  have hr := ps _ 3 _ _ (si1 rfl) (si2 rfl) (by decide) rfl hr
  subst hr
  refine ⟨lay, rfl, rfl, st _ 4 _ (si1 (si1 rfl)) (si2 (si2 rfl)) (by decide) rfl, fun r1 I2 J2 hp => ?_⟩
  obtain ⟨rfl, rfl, hr⟩ := hp
  have hr := ps _ 4 _ _ (si1 (si1 rfl)) (si2 (si2 rfl)) (by decide) rfl hr
  subst hr
  refine ⟨rfl, rfl, st _ 5 _ (si1 (si1 rfl)) (si2 (si2 rfl)) (by decide) rfl, fun r1 I2 J2 hp => ?_⟩
  obtain ⟨rfl, rfl, hr⟩ := hp
  have hr := ps _ 5 _ _ (si1 (si1 rfl)) (si2 (si2 rfl)) (by decide) rfl hr
  subst hr
  refine ⟨lay, rfl, rfl, st _ 6 _ (si1 (si1 (si1 rfl))) (si2 (si2 (si2 rfl))) (by decide) rfl, fun r1 I2 J2 hp => ?_⟩
  obtain ⟨rfl, rfl, hr⟩ := hp
  have hr := ps _ 6 _ _ (si1 (si1 (si1 rfl))) (si2 (si2 (si2 rfl))) (by decide) rfl hr
  subst hr
  refine ⟨lay, rfl, rfl, st _ 7 _ (si1 (si1 (si1 (si1 rfl)))) (si2 (si2 (si2 (si2 rfl)))) (by decide) rfl, fun r1 I2 J2 hp => ?_⟩
  obtain ⟨rfl, rfl, hr⟩ := hp
  have hr := ps _ 7 _ _ (si1 (si1 (si1 (si1 rfl)))) (si2 (si2 (si2 (si2 rfl)))) (by decide) rfl hr
  subst hr
  refine ⟨lay, ?_⟩
  have k := key (mv_si (mv_si (mv_si (mv_si (mv_si I (100 + 3 * c) 0 (10 * dgN (I 2) t (a + 1) + dgN (I 2) t (a + 2))) (100 + 3 * c) 1 (dgN (I 2) t (a + 3))) (100 + 3 * c) 2 (10 * dgN (I 2) t (a + 4) + dgN (I 2) t (a + 5))) (100 + 3 * c) 3 (dgN (I 2) t (a + 6))) (100 + 3 * c) 4 (dgN (I 2) t (a + 7))) (si1 (si1 (si1 (si1 (si1 rfl))))) (si2 (si2 (si2 (si2 (si2 rfl))))) (fun b hb => (mv_si_ne hb).trans ((mv_si_ne hb).trans ((mv_si_ne hb).trans ((mv_si_ne hb).trans (mv_si_ne hb))))) (fun b hb => by
    simp only [mv_si_ap, putF, true_and, if_neg hb]
    grind) 5 0 rfl rfl
  have hsr : mv_sr (mv_si (mv_si (mv_si (mv_si (mv_si I (100 + 3 * c) 0 (10 * dgN (I 2) t (a + 1) + dgN (I 2) t (a + 2))) (100 + 3 * c) 1 (dgN (I 2) t (a + 3))) (100 + 3 * c) 2 (10 * dgN (I 2) t (a + 4) + dgN (I 2) t (a + 5))) (100 + 3 * c) 3 (dgN (I 2) t (a + 6))) (100 + 3 * c) 4 (dgN (I 2) t (a + 7))) (101 + 3 * c) (ssF (I 2) t a 0 (I (101 + 3 * c))) = (mv_si (mv_si (mv_si (mv_si (mv_si I (100 + 3 * c) 0 (10 * dgN (I 2) t (a + 1) + dgN (I 2) t (a + 2))) (100 + 3 * c) 1 (dgN (I 2) t (a + 3))) (100 + 3 * c) 2 (10 * dgN (I 2) t (a + 4) + dgN (I 2) t (a + 5))) (100 + 3 * c) 3 (dgN (I 2) t (a + 6))) (100 + 3 * c) 4 (dgN (I 2) t (a + 7))) := by
    funext x b
    rw [mv_sr_ap]
    by_cases hx : x = 101 + 3 * c
    · rw [if_pos hx]
      have h0 : ∀ {Ik : mv_I} {j : Nat} {y : Int32}, Ik x b = I (101 + 3 * c) b → mv_si Ik (100 + 3 * c) j y x b = I (101 + 3 * c) b := fun h => by rw [mv_si_ne (by omega)]; exact h
      rw [h0 (h0 (h0 (h0 (h0 (by rw [hx])))))]
      unfold ssF
      rw [if_neg (Nat.not_lt_zero b)]
    · rw [if_neg hx]
  rw [hsr, ← ad 8] at k
  exact k
theorem c_readSeries {l : Launch} {G : mv_G} {A : Nat → Prop} (hG : mv_adk G A) : mv_Con l G A 44 sp_readSeries := mv_con hG 44 mv_k_X5_readSeries (by decide +kernel) (mv_cs_cons (c_digit hG) (mv_cs_cons (c_stopsAt hG) (mv_cs_cons (c_begin hG) (mv_cs_nil)))) cb_readSeries
