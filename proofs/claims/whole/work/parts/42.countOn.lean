/-! The reference: a count; a figure told. -/
def mup (I : mv_I) (r a s : Nat) (v : Int32) : Int32 := mv_mx 0 (I r (a + 5) + v - mex I r a s - I r (a + 0))
def mdn (I : mv_I) (r a s : Nat) (v : Int32) : Int32 := mv_mx 0 (I r (a + 6) + mex I r a s - v - I r (a + 0))
def mkK (I : mv_I) (r a s : Nat) (v : Int32) : Int32 := (if mup I r a s v < I r (a + 1) then 0 else 1) + (if mdn I r a s v < I r (a + 1) then 0 else 2)
def mag (I : mv_I) (r a : Nat) : Int32 := if I r (a + 3) = 1 then I r (a + 1) / 2 else 0
def mca (I : mv_I) (r a s : Nat) (v : Int32) : mv_I := if mkK I r a s v = 0 then (if 0 < I r (a + 2) ∧ mup I r a s v = 0 ∧ mdn I r a s v = 0 then mmv I r a s v else I) else mv_si (mv_si (mv_si I r (a + 7) (I r (a + 7) + 1)) r (a + 8) (mkK I r a s v)) r (a + 9) (I r (a + 4))
def mcu (I : mv_I) (r a s : Nat) (v : Int32) : Int32 := if mkK I r a s v = 0 then mup I r a s v else if mup I r a s v < I r (a + 1) then 0 else mag I r a
def mcd (I : mv_I) (r a s : Nat) (v : Int32) : Int32 := if mkK I r a s v = 0 then mdn I r a s v else if mdn I r a s v < I r (a + 1) then 0 else mag I r a
def mct (I : mv_I) (r a s : Nat) (v : Int32) : mv_I := mcm (mv_si (mv_si (mca I r a s v) r (a + 5) (mcu I r a s v)) r (a + 6) (mcd I r a s v)) r a v
theorem mkK_pos (I : mv_I) (r a s : Nat) (v : Int32) : ¬ 0 < mkK I r a s v ↔ mkK I r a s v = 0 := by
  unfold mkK
  split <;> split <;> decide
theorem mca_k {I : mv_I} {r a s k : Nat} {v : Int32} (h7 : k ≠ 7) (h8 : k ≠ 8) (h9 : k ≠ 9) (h10 : k ≠ 10) : mca I r a s v r (a + k) = I r (a + k) := by
  unfold mca
  split
  · split
    · unfold mmv
      rw [mv_si_ap, if_neg (by omega)]
    · rfl
  · rw [mv_si_ap, if_neg (by omega), mv_si_ap, if_neg (by omega), mv_si_ap, if_neg (by omega)]
def sp_countOn : mv_SP := (fun as I _ => ∃ (r s : Nat) (v : Int32), (r = 39 ∨ r = 40) ∧ s < 5 ∧ MB 99999 I r (24 * s) s ∧ as = [.ref 30, .ref r, .int (nI s), .int v],
  fun as I J r I' J' => J = J' ∧ match as with
    | [_, .ref o, .int s, .int v] => r = some (.int (mkK I o (24 * s.toNatClampNeg) s.toNatClampNeg v)) ∧ I' = mct I o (24 * s.toNatClampNeg) s.toNatClampNeg v
    | _ => True)
theorem cb_countOn : mv_body 98 mv_t_X7_countOn (mv_cs [(101, sp_expected), (126, sp_over), (121, sp_moves), (96, sp_comes)]) sp_countOn := by
  intro as I J h
  obtain ⟨r, s, v, hr, hs, hMB, rfl⟩ := h
  have cs : (nI s).toNatClampNeg = s := nI_clamp (by omega)
  have lay := mv_lay_pt hr
  have e24s : nI (24 * s) = nI 24 * nI s := (e24 s).symm
  obtain ⟨a, ha, haa⟩ : ∃ a, a = 24 * s ∧ a ≤ 96 := ⟨_, rfl, by omega⟩
  have ea : nI a = nI 24 * nI s := by rw [ha, e24]
  have c0 : (nI a + 0).toNatClampNeg = a + 0 := ix (k := 0)
  have c1 : (nI a + 1).toNatClampNeg = a + 1 := ix (k := 1)
  have c2 : (nI a + 2).toNatClampNeg = a + 2 := ix (k := 2)
  have c3 : (nI a + 3).toNatClampNeg = a + 3 := ix (k := 3)
  have c4 : (nI a + 4).toNatClampNeg = a + 4 := ix (k := 4)
  have c5 : (nI a + 5).toNatClampNeg = a + 5 := ix (k := 5)
  have c6 : (nI a + 6).toNatClampNeg = a + 6 := ix (k := 6)
  have c7 : (nI a + 7).toNatClampNeg = a + 7 := ix (k := 7)
  have c8 : (nI a + 8).toNatClampNeg = a + 8 := ix (k := 8)
  have c9 : (nI a + 9).toNatClampNeg = a + 9 := ix (k := 9)
  have hMB2 := hMB
  rw [← ha] at hMB2
  obtain ⟨-, ⟨n, hn, hnn⟩, -⟩ := hMB2
  have key213 : ∀ (B : mv_I) (up dn : Int32), mv_si (mv_si B r (a + 5) up) r (a + 6) dn = mv_si (mv_si (mca I r a s v) r (a + 5) (mcu I r a s v)) r (a + 6) (mcd I r a s v) → mv_V mv_ow mv_swf mv_t_X7_countOn (mv_cs [(101, sp_expected), (126, sp_over), (121, sp_moves), (96, sp_comes)]) (sp_countOn.2 [.ref 30, .ref r, .int (nI s), .int v] I J) 213 [(0, .ref 30), (1, .ref r), (2, .int (nI s)), (3, .int v), (4, .int (nI a)), (6, .int up), (7, .int dn), (8, .int (I r (a + 1))), (9, .int (mkK I r a s v))] [] B J := by
    intro B up dn hB
    refine mv_run_V (stop := []) 60 _ _ _ _ _ ?_
    refine ⟨_, lay, ixin (k := 5) (by omega), _, lay, ixin (k := 6) (by omega), rfl, ⟨r, s, v, hr, hs, ⟨n, hn, ?_⟩, rfl⟩, fun r1 I1 J1 hp => ?_⟩
    · rw [c5, c6, hB, ← ha, mv_si_ap, if_neg (by omega), mv_si_ap, if_neg (by omega), mca_k (by decide) (by decide) (by decide) (by decide)]
      exact hnn
    · obtain ⟨rfl, rfl, hI⟩ := hp
      have hI : I1 = mcm (mv_si (mv_si B r (nI a + 5).toNatClampNeg up) r (nI a + 6).toNatClampNeg dn) r (24 * (nI s).toNatClampNeg) v := hI
      rw [c5, c6, hB, cs, ← ha] at hI
      refine ⟨rfl, ?_⟩
      show some (Value.int (mkK I r a s v)) = some (Value.int (mkK I r (24 * (nI s).toNatClampNeg) (nI s).toNatClampNeg v)) ∧ I1 = mct I r (24 * (nI s).toNatClampNeg) (nI s).toNatClampNeg v
      rw [cs, ← ha]
      exact ⟨rfl, hI⟩
  have key134 : ¬ mkK I r a s v = 0 → mv_V mv_ow mv_swf mv_t_X7_countOn (mv_cs [(101, sp_expected), (126, sp_over), (121, sp_moves), (96, sp_comes)]) (sp_countOn.2 [.ref 30, .ref r, .int (nI s), .int v] I J) 134 [(0, .ref 30), (1, .ref r), (2, .int (nI s)), (3, .int v), (4, .int (nI a)), (6, .int (mup I r a s v)), (7, .int (mdn I r a s v)), (8, .int (I r (a + 1))), (9, .int (mkK I r a s v))] [] (mv_si (mv_si (mv_si I r (a + 7) (I r (a + 7) + 1)) r (a + 8) (mkK I r a s v)) r (a + 9) (I r (a + 4))) J := by
    intro hk
    have em : mca I r a s v = mv_si (mv_si (mv_si I r (a + 7) (I r (a + 7) + 1)) r (a + 8) (mkK I r a s v)) r (a + 9) (I r (a + 4)) := by
      unfold mca
      rw [if_neg hk]
    rw [← em]
    have h3 : mca I r a s v r (nI a + 3).toNatClampNeg = I r (a + 3) := by
      rw [c3]
      exact mca_k (by decide) (by decide) (by decide) (by decide)
    have fin : ∀ q up dn : Int32, q = mag I r a → up = (if mup I r a s v < I r (a + 1) then 0 else q) → dn = (if mdn I r a s v < I r (a + 1) then 0 else q) → mv_V mv_ow mv_swf mv_t_X7_countOn (mv_cs [(101, sp_expected), (126, sp_over), (121, sp_moves), (96, sp_comes)]) (sp_countOn.2 [.ref 30, .ref r, .int (nI s), .int v] I J) 213 [(0, .ref 30), (1, .ref r), (2, .int (nI s)), (3, .int v), (4, .int (nI a)), (6, .int up), (7, .int dn), (8, .int (I r (a + 1))), (9, .int (mkK I r a s v)), (10, .int q)] [] (mca I r a s v) J := by
      intro q up dn hq hu hd
      refine mv_keep [0, 1, 2, 3, 4, 6, 7, 8, 9] ?_
      refine key213 _ _ _ ?_
      unfold mcu mcd
      rw [if_neg hk, if_neg hk, hu, hd, hq]
    have key152 : ∀ q : Int32, q = mag I r a → mv_V mv_ow mv_swf mv_t_X7_countOn (mv_cs [(101, sp_expected), (126, sp_over), (121, sp_moves), (96, sp_comes)]) (sp_countOn.2 [.ref 30, .ref r, .int (nI s), .int v] I J) 152 [(0, .ref 30), (1, .ref r), (2, .int (nI s)), (3, .int v), (4, .int (nI a)), (6, .int (mup I r a s v)), (7, .int (mdn I r a s v)), (8, .int (I r (a + 1))), (9, .int (mkK I r a s v))] [.int q] (mca I r a s v) J := by
      intro q hq
      refine mv_run_V (stop := [213]) 60 _ _ _ _ _ ?_
      refine ⟨fun h1 => ?_, fun h1 => ?_⟩
      · refine ⟨fun h2 => ?_, fun h2 => ?_⟩
        · exact fin q 0 0 hq (by rw [if_pos h1]) (by rw [if_pos h2])
        · exact fin q 0 q hq (by rw [if_pos h1]) (by rw [if_neg h2])
      · refine ⟨fun h2 => ?_, fun h2 => ?_⟩
        · exact fin q q 0 hq (by rw [if_neg h1]) (by rw [if_pos h2])
        · exact fin q q q hq (by rw [if_neg h1]) (by rw [if_neg h2])
    refine mv_run_V (stop := [152]) 60 _ _ _ _ _ ?_
    refine ⟨_, lay, ixin (k := 3) (by omega), fun h1 => ?_, fun h1 => ?_⟩
    · rw [h3] at h1
      exact key152 0 (by unfold mag; rw [if_neg h1])
    · rw [h3] at h1
      exact ⟨mv_nz2, key152 _ (by unfold mag; rw [if_pos h1])⟩
  have key96 : ∀ up dn bd kd : Int32, up = mup I r a s v → dn = mdn I r a s v → bd = I r (a + 1) → kd = mkK I r a s v → mv_V mv_ow mv_swf mv_t_X7_countOn (mv_cs [(101, sp_expected), (126, sp_over), (121, sp_moves), (96, sp_comes)]) (sp_countOn.2 [.ref 30, .ref r, .int (nI s), .int v] I J) 96 [(0, .ref 30), (1, .ref r), (2, .int (nI s)), (3, .int v), (4, .int (nI a)), (6, .int up), (7, .int dn), (8, .int bd), (9, .int kd)] [] I J := by
    rintro up dn bd kd rfl rfl rfl rfl
    refine mv_run_V (stop := [134, 213]) 60 _ _ _ _ _ ?_
    refine ⟨fun h1 => ?_, fun h1 => ?_⟩
    · have hk := (mkK_pos I r a s v).mp h1
      have f0 : ∀ B, mca I r a s v = B → mv_si (mv_si B r (a + 5) (mup I r a s v)) r (a + 6) (mdn I r a s v) = mv_si (mv_si (mca I r a s v) r (a + 5) (mcu I r a s v)) r (a + 6) (mcd I r a s v) := by
        intro B hB
        unfold mcu mcd
        rw [if_pos hk, if_pos hk, hB]
      refine ⟨_, lay, ixin (k := 2) (by omega), fun h2 => ?_, fun h2 => ?_⟩
      · rw [c2] at h2
        exact key213 _ _ _ (f0 _ (by unfold mca; rw [if_pos hk, if_neg (fun z => h2 z.1)]))
      · rw [c2] at h2
        refine ⟨fun h3 => ?_, fun h3 => ?_⟩
        · exact key213 _ _ _ (f0 _ (by unfold mca; rw [if_pos hk, if_neg (fun z => h3 z.2.1)]))
        · refine ⟨fun h4 => ?_, fun h4 => ?_⟩
          · exact key213 _ _ _ (f0 _ (by unfold mca; rw [if_pos hk, if_neg (fun z => h4 z.2.2)]))
          · refine ⟨rfl, rfl, ⟨r, s, v, hr, hs, hMB, rfl⟩, fun r1 I1 J1 hp => ?_⟩
            obtain ⟨rfl, rfl, hI⟩ := hp
            have hI : I1 = mmv I r (24 * (nI s).toNatClampNeg) (nI s).toNatClampNeg v := hI
            rw [cs, ← ha] at hI
            exact key213 _ _ _ (f0 _ (by unfold mca; rw [if_pos hk, if_pos ⟨h2, h3, h4⟩, hI]))
    · have hk : ¬ mkK I r a s v = 0 := fun z => (mkK_pos I r a s v).mpr z h1
      refine ⟨_, lay, ixin (k := 7) (by omega), _, lay, ixin (k := 7) (by omega), _, lay, ixin (k := 8) (by omega), _, lay, ixin (k := 4) (by omega), _, lay, ixin (k := 9) (by omega), ?_⟩
      have k6 := key134 hk
      have e : mv_si (mv_si (mv_si I r (a + 7) (I r (a + 7) + 1)) r (a + 8) (mkK I r a s v)) r (a + 9) (I r (a + 4)) = mv_si (mv_si (mv_si I r (nI a + 7).toNatClampNeg (I r (nI a + 7).toNatClampNeg + 1)) r (nI a + 8).toNatClampNeg (mkK I r a s v)) r (nI a + 9).toNatClampNeg ((mv_si (mv_si I r (nI a + 7).toNatClampNeg (I r (nI a + 7).toNatClampNeg + 1)) r (nI a + 8).toNatClampNeg (mkK I r a s v)) r (nI a + 4).toNatClampNeg) := by
        rw [c7, c8, c9, c4]
        congr 1
        rw [mv_si_ap, if_neg (by omega), mv_si_ap, if_neg (by omega)]
      rw [e] at k6
      exact k6
  have key6 : mv_V mv_ow mv_swf mv_t_X7_countOn (mv_cs [(101, sp_expected), (126, sp_over), (121, sp_moves), (96, sp_comes)]) (sp_countOn.2 [.ref 30, .ref r, .int (nI s), .int v] I J) 6 [(0, .ref 30), (1, .ref r), (2, .int (nI s)), (3, .int v), (4, .int (nI a))] [] I J := by
    have eu : mv_mx 0 (I r (nI a + 5).toNatClampNeg + v - mex I r (24 * (nI s).toNatClampNeg) (nI s).toNatClampNeg - I r (nI a + 0).toNatClampNeg) = mup I r a s v := by
      rw [c5, c0, cs, ← ha]
      rfl
    have ed : mv_mx 0 (I r (nI a + 6).toNatClampNeg + mex I r (24 * (nI s).toNatClampNeg) (nI s).toNatClampNeg - v - I r (nI a + 0).toNatClampNeg) = mdn I r a s v := by
      rw [c6, c0, cs, ← ha]
      rfl
    have eb : I r (nI a + 1).toNatClampNeg = I r (a + 1) := by rw [c1]
    refine mv_run_V (stop := [96]) 80 _ _ _ _ _ ?_
    refine ⟨rfl, rfl, ⟨r, s, hr, hs, hMB, rfl⟩, fun r1 I1 J1 hp => ?_⟩
    obtain ⟨rfl, rfl, hq⟩ := hp
    have hq : r1 = some (.int (mex I r (24 * (nI s).toNatClampNeg) (nI s).toNatClampNeg)) := hq
    subst hq
    refine ⟨_, lay, ixin (k := 5) (by omega), _, lay, ixin (k := 0) (by omega), rfl, ⟨_, rfl⟩, fun r1 I1 J1 hp => ?_⟩
    obtain ⟨rfl, rfl, hq⟩ := hp
    have hq : r1 = some (.int (mv_mx 0 (I r (nI a + 5).toNatClampNeg + v - mex I r (24 * (nI s).toNatClampNeg) (nI s).toNatClampNeg - I r (nI a + 0).toNatClampNeg))) := hq
    rw [eu] at hq
    subst hq
    refine ⟨_, lay, ixin (k := 6) (by omega), _, lay, ixin (k := 0) (by omega), rfl, ⟨_, rfl⟩, fun r1 I1 J1 hp => ?_⟩
    obtain ⟨rfl, rfl, hq⟩ := hp
    have hq : r1 = some (.int (mv_mx 0 (I r (nI a + 6).toNatClampNeg + mex I r (24 * (nI s).toNatClampNeg) (nI s).toNatClampNeg - v - I r (nI a + 0).toNatClampNeg))) := hq
    rw [ed] at hq
    subst hq
    refine ⟨_, lay, ixin (k := 1) (by omega), fun h1 => ?_, fun h1 => ?_⟩
    · have h1b := h1
      rw [eb] at h1b
      refine ⟨fun h2 => ?_, fun h2 => ?_⟩
      · have h2b := h2
        rw [eb] at h2b
        refine mv_keep [0, 1, 2, 3, 4, 6, 7, 8, 9] ?_
        exact key96 _ _ _ (0 + 0) rfl rfl eb (by unfold mkK; rw [if_pos h1b, if_pos h2b])
      · have h2b := h2
        rw [eb] at h2b
        refine mv_keep [0, 1, 2, 3, 4, 6, 7, 8, 9] ?_
        exact key96 _ _ _ (0 + 2) rfl rfl eb (by unfold mkK; rw [if_pos h1b, if_neg h2b])
    · have h1b := h1
      rw [eb] at h1b
      refine ⟨fun h2 => ?_, fun h2 => ?_⟩
      · have h2b := h2
        rw [eb] at h2b
        refine mv_keep [0, 1, 2, 3, 4, 6, 7, 8, 9] ?_
        exact key96 _ _ _ (1 + 0) rfl rfl eb (by unfold mkK; rw [if_neg h1b, if_pos h2b])
      · have h2b := h2
        rw [eb] at h2b
        refine mv_keep [0, 1, 2, 3, 4, 6, 7, 8, 9] ?_
        exact key96 _ _ _ (1 + 2) rfl rfl eb (by unfold mkK; rw [if_neg h1b, if_neg h2b])
  rw [ea] at key6
  refine ⟨rfl, mv_run_V (stop := [6]) 40 _ _ _ _ _ ?_⟩
  exact key6
theorem c_countOn {l : Launch} {G : mv_G} {A : Nat → Prop} (hG : mv_adk G A) : mv_Con l G A 98 sp_countOn := mv_con hG 98 mv_k_X7_countOn (by decide +kernel) (mv_cs_cons (c_expected hG) (mv_cs_cons (c_over hG) (mv_cs_cons (c_moves hG) (mv_cs_cons (c_comes hG) (mv_cs_nil))))) cb_countOn
