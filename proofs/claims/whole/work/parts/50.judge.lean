/-! The reference: judge, drawn. -/
def mdt (I : mv_I) (a : Nat) : mv_I := mv_si (mv_si I 40 (a + 5) 0) 40 (a + 6) 0
/-- a statement of the kind h, of the series s, with the value v -/
def mdI (h s v : Nat) (I : mv_I) : mv_I := if (I 30 4).toNatClampNeg ≤ s then I else if h = 1 then mct I 40 (24 * s) s (nI v) else if h = 2 then (if v = 0 then mcm I 40 (24 * s) (-9) else I) else if h = 3 then (if v = 0 then mdt I (24 * s) else I) else I
def mdB (h s v : Nat) (I : mv_I) : Int32 := if (I 30 4).toNatClampNeg ≤ s then 0 else if h = 1 then 1 else if h = 2 then mv_b (v = 0) else if h = 3 then mv_b (v = 0) else if h = 4 then mv_b (I 40 (24 * s + 5) = nI v) else if h = 5 then mv_b (I 40 (24 * s + 6) = nI v) else if h = 6 then mv_b (I 40 (24 * s + 8) = nI v) else if h = 7 then mv_b (mex I 40 (24 * s) s = nI v) else 0
/-- every series of the trial is in range -/
def MT (N m : Nat) (I : mv_I) : Prop := ∀ s, s < m → MB N I 40 (24 * s) s
theorem MT_mct {N m s : Nat} {I : mv_I} {v : Int32} (hm : m ≤ 5) (hs : s < m) (h : MT N m I) : MT (N + 1) m (mct I 40 (24 * s) s v) := by
  intro s' hs'
  by_cases e : s' = s
  · subst e
    exact MB_mct (by decide) (h s' hs')
  · have q4 : mct I 40 (24 * s) s v 40 (24 * s' + 4) = I 40 (24 * s' + 4) := mct_out (by decide) (h s hs) (by omega)
    have q11 : mct I 40 (24 * s) s v 40 (24 * s' + 11) = I 40 (24 * s' + 11) := mct_out (by decide) (h s hs) (by omega)
    have q34 : mct I 40 (24 * s) s v 34 = I 34 := mct_ne (by decide)
    have := MB_mono (Nat.le_succ N) (h s' hs')
    unfold MB at *
    rw [q4, q11, q34]
    exact this
theorem MT_mcm {N m s : Nat} {I : mv_I} {v : Int32} (hm : m ≤ 5) (hs : s < m) (h : MT N m I) : MT (N + 1) m (mcm I 40 (24 * s) v) := by
  intro s' hs'
  by_cases e : s' = s
  · subst e
    exact MB_mcm (by decide) (h s' hs')
  · have q4 : mcm I 40 (24 * s) v 40 (24 * s' + 4) = I 40 (24 * s' + 4) := mcm_out (h s hs) (by omega)
    have q11 : mcm I 40 (24 * s) v 40 (24 * s' + 11) = I 40 (24 * s' + 11) := mcm_out (h s hs) (by omega)
    have q34 : mcm I 40 (24 * s) v 34 = I 34 := mcm_ne (by decide)
    have := MB_mono (Nat.le_succ N) (h s' hs')
    unfold MB at *
    rw [q4, q11, q34]
    exact this
theorem MT_mdt {N m s : Nat} {I : mv_I} (h : MT N m I) : MT (N + 1) m (mdt I (24 * s)) := by
  intro s' hs'
  have q4 : mdt I (24 * s) 40 (24 * s' + 4) = I 40 (24 * s' + 4) := by
    unfold mdt
    rw [mv_si_ap, if_neg (by omega), mv_si_ap, if_neg (by omega)]
  have q11 : mdt I (24 * s) 40 (24 * s' + 11) = I 40 (24 * s' + 11) := by
    unfold mdt
    rw [mv_si_ap, if_neg (by omega), mv_si_ap, if_neg (by omega)]
  have q34 : mdt I (24 * s) 34 = I 34 := by
    unfold mdt
    rw [mv_si_ne (by decide), mv_si_ne (by decide)]
  have := MB_mono (Nat.le_succ N) (h s' hs')
  unfold MB at *
  rw [q4, q11, q34]
  exact this
theorem MT_mono {N N' m : Nat} {I : mv_I} (hN : N ≤ N') (h : MT N m I) : MT N' m I := fun s hs => MB_mono hN (h s hs)
theorem MT_mlt {N : Nat} {I : mv_I} (h : MH N I) : ∃ m : Nat, m ≤ 5 ∧ I 30 4 = nI m ∧ MT N m (mlt I) := by
  obtain ⟨⟨m, hm, e, hb⟩, -⟩ := h
  exact ⟨m, hm, e, fun s hs => MB_mlt (by omega) (hb s hs)⟩
theorem mdI_ok {N m h s v : Nat} {I I' : mv_I} (hm : m ≤ 5) (h4 : I 30 4 = nI m) (hT : TF I I') (hM : MT N m I') : TF I (mdI h s v I') ∧ MT (N + 1) m (mdI h s v I') := by
  have e4 : (I' 30 4).toNatClampNeg = m := by rw [hT.1 30 (by decide), h4]; exact nI_clamp (by omega)
  unfold mdI
  rw [e4]
  by_cases hs : m ≤ s
  · rw [if_pos hs]
    exact ⟨hT, MT_mono (by omega) hM⟩
  rw [if_neg hs]
  by_cases h1 : h = 1
  · rw [if_pos h1]
    exact ⟨TF_mct (by omega) (hM s (by omega)) hT, MT_mct hm (by omega) hM⟩
  rw [if_neg h1]
  by_cases h2 : h = 2
  · rw [if_pos h2]
    by_cases hv : v = 0
    · rw [if_pos hv]
      exact ⟨TF_mcm (by omega) (hM s (by omega)) hT, MT_mcm hm (by omega) hM⟩
    · rw [if_neg hv]
      exact ⟨hT, MT_mono (by omega) hM⟩
  rw [if_neg h2]
  by_cases h3 : h = 3
  · rw [if_pos h3]
    by_cases hv : v = 0
    · rw [if_pos hv]
      refine ⟨⟨fun a ha => ?_, fun b hb => ?_⟩, MT_mdt hM⟩
      · unfold mdt
        rw [mv_si_ne ha, mv_si_ne ha]
        exact hT.1 a ha
      · unfold mdt
        rw [mv_si_ap, if_neg (by omega), mv_si_ap, if_neg (by omega)]
        exact hT.2 b hb
    · rw [if_neg hv]
      exact ⟨hT, MT_mono (by omega) hM⟩
  rw [if_neg h3]
  exact ⟨hT, MT_mono (by omega) hM⟩
def sp_does : mv_SP := (fun as I _ => ∃ m h s v : Nat, m ≤ 5 ∧ I 30 4 = nI m ∧ MT 9900 m I ∧ h < 10 ∧ s < 10 ∧ v < 100 ∧ as = [.ref 30, .int (nI h), .int (nI s), .int (nI v)],
  fun as I J r I' J' => J = J' ∧ match as with
    | [_, .int h, .int s, .int v] => r = some (.int (mdB h.toNatClampNeg s.toNatClampNeg v.toNatClampNeg I)) ∧ I' = mdI h.toNatClampNeg s.toNatClampNeg v.toNatClampNeg I
    | _ => True)
theorem cb_does : mv_body 99 mv_t_X7_does (mv_cs [(123, sp_noSeries), (98, sp_countOn), (96, sp_comes), (101, sp_expected)]) sp_does := by
  intro as I J hpre
  obtain ⟨m, h, s, v, hm, h4, hMT, hh, hs, hv, rfl⟩ := hpre
  have ch : (nI h).toNatClampNeg = h := nI_clamp (by omega)
  have cs : (nI s).toNatClampNeg = s := nI_clamp (by omega)
  have cv : (nI v).toNatClampNeg = v := nI_clamp (by omega)
  have cm : (I 30 4).toNatClampNeg = m := by rw [h4]; exact nI_clamp (by omega)
  have fin : ∀ (x : Int32) (I1 : mv_I), x = mdB h s v I → I1 = mdI h s v I → sp_does.2 [.ref 30, .int (nI h), .int (nI s), .int (nI v)] I J (some (.int x)) I1 J := by
    intro x I1 hx hI
    refine ⟨rfl, ?_⟩
    show some (Value.int x) = some (Value.int (mdB (nI h).toNatClampNeg (nI s).toNatClampNeg (nI v).toNatClampNeg I)) ∧ I1 = mdI (nI h).toNatClampNeg (nI s).toNatClampNeg (nI v).toNatClampNeg I
    rw [ch, cs, cv]
    exact ⟨by rw [hx], hI⟩
  have ne : ∀ {x k : Nat}, x < 100 → k < 100 → (nI x = nI k ↔ x = k) := fun h1 h2 => nI_eq (by omega) (by omega)
  have key16 : ¬ m ≤ s → mv_V mv_ow mv_swf mv_t_X7_does (mv_cs [(123, sp_noSeries), (98, sp_countOn), (96, sp_comes), (101, sp_expected)]) (sp_does.2 [.ref 30, .int (nI h), .int (nI s), .int (nI v)] I J) 16 [(0, .ref 30), (1, .int (nI h)), (2, .int (nI s)), (3, .int (nI v)), (4, .int (nI (24 * s)))] [] I J := by
    intro hsm
    have hMB := hMT s (by omega)
    have c5 : (nI (24 * s) + 5).toNatClampNeg = 24 * s + 5 := ix (k := 5)
    have c6 : (nI (24 * s) + 6).toNatClampNeg = 24 * s + 6 := ix (k := 6)
    have c8 : (nI (24 * s) + 8).toNatClampNeg = 24 * s + 8 := ix (k := 8)
    have fin : ∀ (x : Int32) (I1 : mv_I), x = (if h = 1 then 1 else if h = 2 then mv_b (v = 0) else if h = 3 then mv_b (v = 0) else if h = 4 then mv_b (I 40 (24 * s + 5) = nI v) else if h = 5 then mv_b (I 40 (24 * s + 6) = nI v) else if h = 6 then mv_b (I 40 (24 * s + 8) = nI v) else if h = 7 then mv_b (mex I 40 (24 * s) s = nI v) else 0) → I1 = (if h = 1 then mct I 40 (24 * s) s (nI v) else if h = 2 then (if v = 0 then mcm I 40 (24 * s) (-9) else I) else if h = 3 then (if v = 0 then mdt I (24 * s) else I) else I) → sp_does.2 [.ref 30, .int (nI h), .int (nI s), .int (nI v)] I J (some (.int x)) I1 J := by
      intro x I1 hx hI
      refine fin x I1 ?_ ?_
      · unfold mdB
        rw [cm, if_neg hsm, hx]
      · unfold mdI
        rw [cm, if_neg hsm, hI]
    refine mv_run_V (stop := []) 60 _ _ _ _ _ ?_
    refine ⟨fun h1 => ?_, fun h1 => ?_⟩
    · have h1 := (ne (k := 1) (by omega) (by decide)).mp h1
      refine ⟨rfl, _, rfl, rfl, rfl, ⟨40, s, nI v, Or.inr rfl, by omega, MB_mono (by omega) hMB, rfl⟩, fun r1 I1 J1 hp => ?_⟩
      obtain ⟨rfl, hq⟩ := hp
      have hq : r1 = some (.int (mkK I 40 (24 * (nI s).toNatClampNeg) (nI s).toNatClampNeg (nI v))) ∧ I1 = mct I 40 (24 * (nI s).toNatClampNeg) (nI s).toNatClampNeg (nI v) := hq
      rw [cs] at hq
      obtain ⟨rfl, rfl⟩ := hq
      exact ⟨rfl, Or.inr rfl, fin _ _ (by rw [if_pos h1]) (by rw [if_pos h1])⟩
    have h1 : ¬ h = 1 := fun z => h1 (by rw [z]; rfl)
    refine ⟨fun h2 => ?_, fun h2 => ?_⟩
    · have h2 := (ne (k := 2) (by omega) (by decide)).mp h2
      refine ⟨fun h3 => ?_, fun h3 => ?_⟩
      · have h3 := (ne (k := 0) (by omega) (by decide)).mp h3
        refine ⟨rfl, _, rfl, rfl, ⟨40, s, -9, Or.inr rfl, by omega, hMB.2.1, rfl⟩, fun r1 I1 J1 hp => ?_⟩
        obtain ⟨rfl, rfl, hq⟩ := hp
        have hq : I1 = mcm I 40 (24 * (nI s).toNatClampNeg) (-9) := hq
        rw [cs] at hq
        subst hq
        exact ⟨Or.inr rfl, fin _ _ (by rw [if_neg h1, if_pos h2, mv_bt h3]) (by rw [if_neg h1, if_pos h2, if_pos h3])⟩
      · have h3 : ¬ v = 0 := fun z => h3 (by rw [z]; rfl)
        exact ⟨Or.inl rfl, fin _ _ (by rw [if_neg h1, if_pos h2, mv_bf h3]) (by rw [if_neg h1, if_pos h2, if_neg h3])⟩
    have h2 : ¬ h = 2 := fun z => h2 (by rw [z]; rfl)
    refine ⟨fun h3 => ?_, fun h3 => ?_⟩
    · have h3 := (ne (k := 3) (by omega) (by decide)).mp h3
      refine ⟨fun h4 => ?_, fun h4 => ?_⟩
      · have h4 := (ne (k := 0) (by omega) (by decide)).mp h4
        refine ⟨rfl, _, rfl, _, rfl, ixin (k := 5) (by omega), rfl, _, rfl, _, rfl, ixin (k := 6) (by omega), Or.inr rfl, fin _ _ (by rw [if_neg h1, if_neg h2, if_pos h3, mv_bt h4]) ?_⟩
        rw [if_neg h1, if_neg h2, if_pos h3, if_pos h4, c5, c6]
        rfl
      · have h4 : ¬ v = 0 := fun z => h4 (by rw [z]; rfl)
        exact ⟨Or.inl rfl, fin _ _ (by rw [if_neg h1, if_neg h2, if_pos h3, mv_bf h4]) (by rw [if_neg h1, if_neg h2, if_pos h3, if_neg h4])⟩
    have h3 : ¬ h = 3 := fun z => h3 (by rw [z]; rfl)
    have eI : I = (if h = 1 then mct I 40 (24 * s) s (nI v) else if h = 2 then (if v = 0 then mcm I 40 (24 * s) (-9) else I) else if h = 3 then (if v = 0 then mdt I (24 * s) else I) else I) := by
      rw [if_neg h1, if_neg h2, if_neg h3]
    refine ⟨fun h4 => ?_, fun h4 => ?_⟩
    · have h4 := (ne (k := 4) (by omega) (by decide)).mp h4
      refine ⟨rfl, _, rfl, _, rfl, ixin (k := 5) (by omega), fun h5 => ?_, fun h5 => ?_⟩
      · have h5 : ¬ I 40 (nI (24 * s) + 5).toNatClampNeg = nI v := h5
        rw [c5] at h5
        exact ⟨Or.inl rfl, fin _ _ (by rw [if_neg h1, if_neg h2, if_neg h3, if_pos h4, mv_bf h5]) eI⟩
      · have h5 : I 40 (nI (24 * s) + 5).toNatClampNeg = nI v := h5
        rw [c5] at h5
        exact ⟨Or.inr rfl, fin _ _ (by rw [if_neg h1, if_neg h2, if_neg h3, if_pos h4, mv_bt h5]) eI⟩
    have h4 : ¬ h = 4 := fun z => h4 (by rw [z]; rfl)
    refine ⟨fun h5 => ?_, fun h5 => ?_⟩
    · have h5 := (ne (k := 5) (by omega) (by decide)).mp h5
      refine ⟨rfl, _, rfl, _, rfl, ixin (k := 6) (by omega), fun h6 => ?_, fun h6 => ?_⟩
      · have h6 : ¬ I 40 (nI (24 * s) + 6).toNatClampNeg = nI v := h6
        rw [c6] at h6
        exact ⟨Or.inl rfl, fin _ _ (by rw [if_neg h1, if_neg h2, if_neg h3, if_neg h4, if_pos h5, mv_bf h6]) eI⟩
      · have h6 : I 40 (nI (24 * s) + 6).toNatClampNeg = nI v := h6
        rw [c6] at h6
        exact ⟨Or.inr rfl, fin _ _ (by rw [if_neg h1, if_neg h2, if_neg h3, if_neg h4, if_pos h5, mv_bt h6]) eI⟩
    have h5 : ¬ h = 5 := fun z => h5 (by rw [z]; rfl)
    refine ⟨fun h6 => ?_, fun h6 => ?_⟩
    · have h6 := (ne (k := 6) (by omega) (by decide)).mp h6
      refine ⟨rfl, _, rfl, _, rfl, ixin (k := 8) (by omega), fun h7 => ?_, fun h7 => ?_⟩
      · have h7 : ¬ I 40 (nI (24 * s) + 8).toNatClampNeg = nI v := h7
        rw [c8] at h7
        exact ⟨Or.inl rfl, fin _ _ (by rw [if_neg h1, if_neg h2, if_neg h3, if_neg h4, if_neg h5, if_pos h6, mv_bf h7]) eI⟩
      · have h7 : I 40 (nI (24 * s) + 8).toNatClampNeg = nI v := h7
        rw [c8] at h7
        exact ⟨Or.inr rfl, fin _ _ (by rw [if_neg h1, if_neg h2, if_neg h3, if_neg h4, if_neg h5, if_pos h6, mv_bt h7]) eI⟩
    have h6 : ¬ h = 6 := fun z => h6 (by rw [z]; rfl)
    refine ⟨fun h7 => ?_, fun h7 => ?_⟩
    · have h7 := (ne (k := 7) (by omega) (by decide)).mp h7
      refine ⟨rfl, _, rfl, rfl, rfl, ⟨40, s, Or.inr rfl, by omega, MB_mono (by omega) hMB, rfl⟩, fun r1 I1 J1 hp => ?_⟩
      obtain ⟨rfl, rfl, hq⟩ := hp
      have hq : r1 = some (.int (mex I 40 (24 * (nI s).toNatClampNeg) (nI s).toNatClampNeg)) := hq
      rw [cs] at hq
      subst hq
      refine ⟨fun h8 => ?_, fun h8 => ?_⟩
      · exact ⟨Or.inl rfl, fin _ _ (by rw [if_neg h1, if_neg h2, if_neg h3, if_neg h4, if_neg h5, if_neg h6, if_pos h7, mv_bf h8]) eI⟩
      · exact ⟨Or.inr rfl, fin _ _ (by rw [if_neg h1, if_neg h2, if_neg h3, if_neg h4, if_neg h5, if_neg h6, if_pos h7, mv_bt h8]) eI⟩
    have h7 : ¬ h = 7 := fun z => h7 (by rw [z]; rfl)
    exact ⟨Or.inl rfl, fin _ _ (by rw [if_neg h1, if_neg h2, if_neg h3, if_neg h4, if_neg h5, if_neg h6, if_neg h7]) eI⟩
  refine ⟨rfl, mv_run_V (stop := [16]) 40 _ _ _ _ _ ?_⟩
  refine ⟨rfl, rfl, ⟨_, rfl⟩, fun r1 I1 J1 hp => ?_⟩
  obtain ⟨rfl, rfl, hqz⟩ := hp
  have hqy : r1 = some (.int (mv_b (¬ msv I (nI s)))) := hqz
  clear hqz
  subst hqy
  refine ⟨fun h1 => ?_, fun h1 => ?_⟩
  · have h1 : msv I (nI s) := Decidable.not_not.mp (mv_b0.mp h1)
    have hsm : ¬ m ≤ s := by
      obtain ⟨j, hj, e⟩ := mv_upto (m := m) (by omega) h1.1 (by rw [← h4]; exact h1.2)
      have := (ne (x := s) (k := j) (by omega) (by omega)).mp e
      omega
    have k6 := key16 hsm
    rw [← e24 s] at k6
    exact k6
  · have h1 : ¬ msv I (nI s) := b_yes h1
    have hsm : m ≤ s := by
      rcases Nat.lt_or_ge s m with z | z
      · have := mv_upto2 (m := m) (by omega) z
        rw [← h4] at this
        exact absurd this h1
      · exact z
    exact ⟨Or.inl rfl, fin _ _ (by unfold mdB; rw [cm, if_pos hsm]) (by unfold mdI; rw [cm, if_pos hsm])⟩
theorem c_does {l : Launch} {G : mv_G} {A : Nat → Prop} (hG : mv_adk G A) : mv_Con l G A 99 sp_does := mv_con hG 99 mv_k_X7_does (by decide +kernel) (mv_cs_cons (c_noSeries hG) (mv_cs_cons (c_countOn hG) (mv_cs_cons (c_comes hG) (mv_cs_cons (c_expected hG) (mv_cs_nil))))) cb_does
