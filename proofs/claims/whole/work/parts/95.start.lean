/-! The law's start: the classes' numbers. -/
theorem aoL_spec {args : Array Value} {s : State} (h : (Cond.arrayOver (.array .long)).before args s = true) : ∃ c k comp, s.vm.findClass ("[" ++ (FieldType.array .long).toString) = some c ∧ s.vm.classes[c]? = some k ∧ k.kind = .array comp (.array .long) := by
  unfold Cond.before at h
  simp only [Cond.holds, Cond.value, beq_iff_eq] at h
  cases hc : s.vm.findClass (FieldType.array .long).toString with
  | none => simp [hc] at h
  | some comp =>
    simp only [hc, Option.bind_some, Option.bind_eq_some_iff, Option.map_eq_some_iff] at h
    obtain ⟨c, hi, k, hk, hb⟩ := h
    cases hkind : k.kind with
    | array component ty =>
      rw [hkind] at hb
      simp at hb
      exact ⟨c, k, component, hb.2, hk, by rw [hkind, hb.1]⟩
    | _ => rw [hkind] at hb; simp at hb
theorem arr_of {args : Array Value} {s : State} {t : FieldType} (h : (Cond.arrayClass t).before args s = true) (ho : ∀ C, t ≠ .object C) : ∃ c : ClassId, ArrOfT s c t ∧ va_RA s c t := by
  obtain ⟨c, k, comp, h1, h2, h3⟩ := Cond.arrayClass_spec h
  refine ⟨c, fun N z => ⟨(fun q hq => by cases hq), k, h2, comp, h3⟩, ?_⟩
  cases t with
  | object C => exact absurd rfl (ho C)
  | _ => exact h1
theorem arr_oo {s : State} {C : String} (h : va_AO C s) : ∃ c : ClassId, ArrOfT s c (.object C) ∧ va_RA s c (.object C) := by
  obtain ⟨comp, c, k, h1, -, h3, h4, h5⟩ := Cond.arrayOver_spec h
  exact ⟨c, fun N z => ⟨(fun q hq => by cases hq), k, h3, comp, h4⟩, k, comp, h3, h4, h1, h5⟩
theorem arr_ll {args : Array Value} {s : State} (h : (Cond.arrayOver (.array .long)).before args s = true) : ∃ c : ClassId, ArrOfT s c (.array .long) ∧ va_RA s c (.array .long) := by
  obtain ⟨c, k, comp, h1, h2, h3⟩ := aoL_spec h
  exact ⟨c, fun N z => ⟨(fun q hq => by cases hq), k, h2, comp, h3⟩, h1⟩
theorem start_K {args : Array Value} {s : State} (hts : ∀ w ∈ mv_T, w.before args s = true) (hN : mv_N3 s) : ∃ (D : va_G) (T : Nat → ClassId), va_K D mv_cl (mv_tys (D, (fun _ => 0), T)) s := by
  obtain ⟨c0, i0, k0⟩ := u_known (C := RX0) (T := TX0) (N := 3) hts (mv_wK_ok (c := 0) (by decide)) (hts _ ks_X0)
  obtain ⟨c1, i1, k1⟩ := u_known (C := RX1) (T := TX1) (N := 16) hts (mv_wK_ok (c := 1) (by decide)) (hts _ ks_X1)
  obtain ⟨c2, i2, k2⟩ := u_known (C := RX2) (T := TX2) (N := 3) hts (mv_wK_ok (c := 2) (by decide)) (hts _ ks_X2)
  obtain ⟨c3, i3, k3⟩ := u_known (C := RX3) (T := TX3) (N := 3) hts (mv_wK_ok (c := 3) (by decide)) (hts _ ks_X3)
  obtain ⟨c4, i4, k4⟩ := u_known (C := RX4) (T := TX4) (N := 4) hts (mv_wK_ok (c := 4) (by decide)) (hts _ ks_X4)
  obtain ⟨c5, i5, k5⟩ := u_known (C := RX5) (T := TX5) (N := 2) hts (mv_wK_ok (c := 5) (by decide)) (hts _ ks_X5)
  obtain ⟨c6, i6, k6⟩ := u_known (C := RX6) (T := TX6) (N := 11) hts (mv_wK_ok (c := 6) (by decide)) (hts _ ks_X6)
  obtain ⟨c7, i7, k7⟩ := u_known (C := RX7) (T := TX7) (N := 26) hts (mv_wK_ok (c := 7) (by decide)) (hts _ ks_X7)
  obtain ⟨a0, b0, d0⟩ := arr_of (hts _ ka_int) (fun C h => by cases h)
  obtain ⟨a1, b1, d1⟩ := arr_of (hts _ ka_boolean) (fun C h => by cases h)
  obtain ⟨a2, b2, d2⟩ := arr_of (hts _ ka_long) (fun C h => by cases h)
  obtain ⟨a11, b11, d11⟩ := arr_oo (C := RX1) (hN _ (List.mem_of_getElem? (i := 5) rfl))
  obtain ⟨a12, b12, d12⟩ := arr_oo (C := RX2) (hN _ (List.mem_of_getElem? (i := 6) rfl))
  obtain ⟨a14, b14, d14⟩ := arr_oo (C := RX4) (hN _ (List.mem_of_getElem? (i := 7) rfl))
  obtain ⟨a3, b3, d3⟩ := arr_ll (hN (.arrayOver (.array .long)) (List.mem_of_getElem? (i := 8) rfl))
  refine ⟨(fun c => [c0, c1, c2, c3, c4, c5, c6, c7].getD c c0, fun c => [i0, i1, i2, i3, i4, i5, i6, i7].getD c i0), fun t => match t with | 0 => a0 | 1 => a1 | 2 => a2 | 3 => a3 | 11 => a11 | 12 => a12 | 14 => a14 | _ => a0, fun c q h => ?_, fun k q h => ?_⟩
  · match c with
    | 0 => cases h; exact k0
    | 1 => cases h; exact k1
    | 2 => cases h; exact k2
    | 3 => cases h; exact k3
    | 4 => cases h; exact k4
    | 5 => cases h; exact k5
    | 6 => cases h; exact k6
    | 7 => cases h; exact k7
    | c + 8 => cases h
  · match k with
    | 0 => cases h; exact ⟨b0, d0⟩
    | 1 => cases h; exact ⟨b1, d1⟩
    | 2 => cases h; exact ⟨b2, d2⟩
    | 3 => cases h; exact ⟨b11, d11⟩
    | 4 => cases h; exact ⟨b12, d12⟩
    | 5 => cases h; exact ⟨b14, d14⟩
    | 6 => cases h; exact ⟨b3, d3⟩
    | k + 7 => cases h
theorem start_T {s : State} {args : Array Value} (hts : ∀ w ∈ lw_tbl, w.before args s = true) : (∀ w ∈ mv_T, w.before args s = true) ∧ mv_N3 s ∧ mv_N s := by
  refine ⟨fun w hw => hts w (List.mem_filter.mp hw).1, fun w hw => ?_, fun q hq => va_Nw.of rfl (hts _ (mv_pN_tbl q hq))⟩
  have hm : w ∈ lw_tbl := by
    have h1 := List.all_eq_true.mp mv_NX_tbl w hw
    obtain ⟨v, hv, he⟩ := List.any_eq_true.mp h1
    rw [← of_decide_eq_true he]
    exact hv
  have h1 := hts w hm
  simp only [mv_NX, List.mem_cons, List.not_mem_nil, or_false] at hw
  rcases hw with rfl | rfl | rfl | rfl | rfl | rfl | rfl | rfl | rfl
  · exact va_Nw.of rfl h1
  · exact va_Nw.of rfl h1
  · exact va_Nw.of rfl h1
  · exact va_Nw.of rfl h1
  · exact va_Nw.of rfl h1
  · exact h1
  · exact h1
  · exact h1
  · exact h1
