/-! THE START: what the statement gives of it -/
theorem zX_of {args : Array Value} {s : State} {tm : Term} {N : Nat} {f : Nat → Int32} (hN : N < 2 ^ 31) (harr : (Cond.arrayOf tm .int).before args s = true) (hlen : (Cond.eq (.length tm) (.int (Int32.ofNat N))).before args s = true) (hel : ∀ j : Nat, j < N → (Cond.eq (.elem tm (.int (Int32.ofNat j))) (.int (f j))).before args s = true) : ∃ t : Nat, tm.eval args s none [] s = some (.ref t) ∧ t < s.heap.size ∧ va_X t N f s s.heap := by
  have hl := va_eqt hlen
  obtain ⟨t, ht, cell, h1, h2, h3, h4, h5, h6, -⟩ := va_Tof (A := fun _ => False) (f := fun j => .int (f j)) hN harr hl (fun j hj => va_eqt (hel j hj)) (fun _ _ h => h)
  obtain ⟨t2, cell2, ht2, harr2, -⟩ := Term.length_spec hl
  cases ht.symm.trans ht2
  obtain ⟨hc2, -, -, -⟩ := State.arrayAt?_spec harr2
  cases h1.symm.trans hc2
  have hsz : cell.slots.size < 2 ^ 31 := by
    simp only [Term.eval, ht, harr2, Option.bind_eq_bind, Option.bind_some] at hl
    by_cases hlt : cell.slots.size < 2147483648
    · exact hlt
    · simp [hlt] at hl
  have hq : cell.slots.size = N := by
    have e := congrArg Int32.toInt h5
    rw [show cell.slots.size.toInt32 = Int32.ofNat cell.slots.size from rfl, Int32.toInt_ofNat_small hsz, Int32.toInt_ofNat_small hN] at e
    omega
  exact ⟨t, ht, (Array.getElem?_eq_some_iff.mp h1).1, cell, h1, h2, h3, hq, h6⟩
theorem zAr_int {args : Array Value} {s : State} (h : (Cond.arrayClass .int).before args s = true) : ∃ cA, ArrOfT s cA .int ∧ va_RA s cA .int := by
  obtain ⟨cA, kA, comp, h1, h2, h3⟩ := Cond.arrayClass_spec h
  exact ⟨cA, fun n z => ⟨fun k h => (by cases h), kA, h2, comp, h3⟩, h1⟩
theorem zAr_boolean {args : Array Value} {s : State} (h : (Cond.arrayClass .boolean).before args s = true) : ∃ cA, ArrOfT s cA .boolean ∧ va_RA s cA .boolean := by
  obtain ⟨cA, kA, comp, h1, h2, h3⟩ := Cond.arrayClass_spec h
  exact ⟨cA, fun n z => ⟨fun k h => (by cases h), kA, h2, comp, h3⟩, h1⟩
theorem zAr_obj {args : Array Value} {s : State} {C : String} (h : (Cond.arrayOver (.object C)).before args s = true) : ∃ cA, ArrOfT s cA (.object C) ∧ va_RA s cA (.object C) := by
  obtain ⟨comp, c, k, h1, h2, h3, h4, h5⟩ := Cond.arrayOver_spec h
  exact ⟨c, fun n z => ⟨fun k h => (by cases h), k, h3, comp, h4⟩, k, comp, h3, h4, h1, h5⟩
theorem zStr_of {args : Array Value} {s : State} {own text : String} {k : Nat} (h : (Cond.stringRef own k text).before args s = true) : ∃ sa, vk_R own k text sa s := by
  have hcur : ∃ cur, s.vm.findClass own = some cur := by
    have h1 := h
    simp only [Cond.before, Cond.holds, Cond.value] at h1
    cases hc : s.vm.findClass own with
    | none => simp [hc] at h1
    | some cur => exact ⟨cur, rfl⟩
  obtain ⟨cur, hcur⟩ := hcur
  obtain ⟨_, _, _, a, _, _, _, _, _, hev⟩ := Cond.stringRef_spec hcur h
  exact ⟨a, vk_R.of h hev⟩
theorem zStart {s : State} {l : Launch} (hflags : l.flags = flags0) {b L : Nat} {xs : Nat → Int32} (hts : ∀ w ∈ lw_tbl, w.before #[Value.ref b] s = true) (hX : va_X b L xs s s.heap) (hbl : b < s.heap.size) (hgv : (Jvm.Cond.and given_1 narrow_1).before #[Value.ref b] s = true) : ∃ Γ : zΓ, Γ.1 = l ∧ Γ.2.1 = s ∧ zad Γ 0 = b ∧ zBase Γ ∧ zOld Γ 0 L xs := by
  have hs := flat_of_before _ hgv
  obtain ⟨c0, i0, k0⟩ := u_known (C := RX0) (T := TX0) (N := 5) (n := 5) hts (fun w hw => (ug_0 w hw).1) (hts (.instantiable RX0 5) (List.mem_of_getElem? (i := 42) (by decide +kernel)))
  obtain ⟨c1, i1, k1⟩ := u_known (C := RX1) (T := TX1) (N := 3) (n := 3) hts (fun w hw => (ug_1 w hw).1) (hts (.instantiable RX1 3) (List.mem_of_getElem? (i := 48) (by decide +kernel)))
  obtain ⟨c2, i2, k2⟩ := u_known (C := RX2) (T := TX2) (N := 2) (n := 2) hts (fun w hw => (ug_2 w hw).1) (hts (.instantiable RX2 2) (List.mem_of_getElem? (i := 78) (by decide +kernel)))
  obtain ⟨c3, i3, k3⟩ := u_known (C := RX3) (T := TX3) (N := 10) (n := 10) hts (fun w hw => (ug_3 w hw).1) (hts (.instantiable RX3 10) (List.mem_of_getElem? (i := 72) (by decide +kernel)))
  obtain ⟨c4, i4, k4⟩ := u_known (C := RX4) (T := TX4) (N := 9) (n := 9) hts (fun w hw => (ug_4 w hw).1) (hts (.instantiable RX4 9) (List.mem_of_getElem? (i := 145) (by decide +kernel)))
  obtain ⟨c5, i5, k5⟩ := u_known (C := RX5) (T := TX5) (N := 2) (n := 2) hts (fun w hw => (ug_5 w hw).1) (hts (.instantiable RX5 2) (List.mem_of_getElem? (i := 214) (by decide +kernel)))
  obtain ⟨c6, i6, k6⟩ := u_known (C := RX6) (T := TX6) (N := 9) (n := 9) hts (fun w hw => (ug_6 w hw).1) (hts (.instantiable RX6 9) (List.mem_of_getElem? (i := 34) (by decide +kernel)))
  obtain ⟨t0, q0⟩ := zAr_int (hts (.arrayClass .int) (List.mem_of_getElem? (i := 70) (by decide +kernel)))
  obtain ⟨t2, q2⟩ := zAr_boolean (hts (.arrayClass .boolean) (List.mem_of_getElem? (i := 228) (by decide +kernel)))
  obtain ⟨t4, q4⟩ := zAr_obj (C := "TombolaBooks$Book") (hts (.arrayOver (.object "TombolaBooks$Book")) (List.mem_of_getElem? (i := 212) (by decide +kernel)))
  obtain ⟨a1, e1, l1, x1⟩ := zX_of (N := 3) (f := fun j => nI ([10, 0, 0].getD j 0)) (tm := .static "TombolaBooks" "FIRST_VALUES" "[I") (by decide) (hs _ (by decide +kernel)) (hs _ (by decide +kernel)) (fun j hj => by
    match j, hj with
    | 0, _ => exact hs _ (by decide +kernel)
    | 1, _ => exact hs _ (by decide +kernel)
    | 2, _ => exact hs _ (by decide +kernel)
    | j + 3, h => exact absurd h (by omega))
  obtain ⟨a2, e2, l2, x2⟩ := zX_of (N := 3) (f := fun j => nI ([1, 0, 0].getD j 0)) (tm := .static "TombolaBooks" "LEAST_VALUES" "[I") (by decide) (hs _ (by decide +kernel)) (hs _ (by decide +kernel)) (fun j hj => by
    match j, hj with
    | 0, _ => exact hs _ (by decide +kernel)
    | 1, _ => exact hs _ (by decide +kernel)
    | 2, _ => exact hs _ (by decide +kernel)
    | j + 3, h => exact absurd h (by omega))
  obtain ⟨a3, e3, l3, x3⟩ := zX_of (N := 3) (f := fun j => nI ([99, 99, 1].getD j 0)) (tm := .static "TombolaBooks" "GREATEST_VALUES" "[I") (by decide) (hs _ (by decide +kernel)) (hs _ (by decide +kernel)) (fun j hj => by
    match j, hj with
    | 0, _ => exact hs _ (by decide +kernel)
    | 1, _ => exact hs _ (by decide +kernel)
    | 2, _ => exact hs _ (by decide +kernel)
    | j + 3, h => exact absurd h (by omega))
  obtain ⟨a4, e4, l4, x4⟩ := zX_of (N := 4) (f := fun j => nI ([10, 10, 20, 40].getD j 0)) (tm := .static "TombolaBooks" "HUNDREDTHS" "[I") (by decide) (hs _ (by decide +kernel)) (hs _ (by decide +kernel)) (fun j hj => by
    match j, hj with
    | 0, _ => exact hs _ (by decide +kernel)
    | 1, _ => exact hs _ (by decide +kernel)
    | 2, _ => exact hs _ (by decide +kernel)
    | 3, _ => exact hs _ (by decide +kernel)
    | j + 4, h => exact absurd h (by omega))
  have hA : ∀ a : Nat, a < s.heap.size → ¬ s.heap.size ≤ a := fun a h => Nat.not_le.mpr h
  refine ⟨(l, s, (fun k => match k with | 0 => c0 | 1 => c1 | 2 => c2 | 3 => c3 | 4 => c4 | 5 => c5 | _ => c6, fun k => match k with | 0 => i0 | 1 => i1 | 2 => i2 | 3 => i3 | 4 => i4 | 5 => i5 | _ => i6), (fun k => match k with | 0 => t0 | 1 => t0 | 2 => t2 | 3 => t0 | _ => t4), (fun k => match k with | 0 => b | 1 => a1 | 2 => a2 | 3 => a3 | _ => a4)), rfl, rfl, rfl, ⟨⟨_, hts⟩, ⟨?_, ?_⟩, ?_, ?_, ?_, ?_, ?_, ?_, ?_, ?_, ?_, ?_, ?_, ?_, ?_, ?_, ?_, ?_, ?_⟩, ?_⟩
  · intro k q hq
    match k, hq with
    | 0, hq => cases hq; exact k0
    | 1, hq => cases hq; exact k1
    | 2, hq => cases hq; exact k2
    | 3, hq => cases hq; exact k3
    | 4, hq => cases hq; exact k4
    | 5, hq => cases hq; exact k5
    | 6, hq => cases hq; exact k6
    | k + 7, hq => simp [vwCl] at hq
  · intro k q hq
    match k, hq with
    | 0, hq => cases hq; exact q0
    | 1, hq => cases hq; exact q0
    | 2, hq => cases hq; exact q2
    | 3, hq => cases hq; exact q0
    | 4, hq => cases hq; exact q4
    | k + 5, hq => simp [ztys] at hq
  · show l.stackTraces = false
    unfold Launch.stackTraces
    rw [hflags]
    decide +kernel
  · exact vx_Zqof (args := #[Value.ref b]) (hts (.laysStatic "java/lang/Throwable" "UNASSIGNED_STACK" "[Ljava/lang/StackTraceElement;") (List.mem_of_getElem? (i := 421) (by decide +kernel))) (hts (.initialized "java/lang/Throwable") (List.mem_of_getElem? (i := 25) (by decide +kernel))) (hs _ (by decide +kernel)) hA
  · exact vx_Zqof (args := #[Value.ref b]) (hts (.laysStatic "java/lang/Throwable" "SUPPRESSED_SENTINEL" "Ljava/util/List;") (List.mem_of_getElem? (i := 423) (by decide +kernel))) (hts (.initialized "java/lang/Throwable") (List.mem_of_getElem? (i := 25) (by decide +kernel))) (hs _ (by decide +kernel)) hA
  · exact ⟨by decide, l1, x1⟩
  · exact ⟨by decide, l2, x2⟩
  · exact ⟨by decide, l3, x3⟩
  · exact ⟨by decide, l4, x4⟩
  · exact ⟨by decide, va_Zof (args := #[Value.ref b]) (hts (.laysStatic "TombolaBooks" "FIRST_VALUES" "[I") (List.mem_of_getElem? (i := 187) (by decide +kernel))) (hts (.initialized "TombolaBooks") (List.mem_of_getElem? (i := 16) (by decide +kernel))) e1 hA⟩
  · exact ⟨by decide, va_Zof (args := #[Value.ref b]) (hts (.laysStatic "TombolaBooks" "LEAST_VALUES" "[I") (List.mem_of_getElem? (i := 611) (by decide +kernel))) (hts (.initialized "TombolaBooks") (List.mem_of_getElem? (i := 16) (by decide +kernel))) e2 hA⟩
  · exact ⟨by decide, va_Zof (args := #[Value.ref b]) (hts (.laysStatic "TombolaBooks" "GREATEST_VALUES" "[I") (List.mem_of_getElem? (i := 613) (by decide +kernel))) (hts (.initialized "TombolaBooks") (List.mem_of_getElem? (i := 16) (by decide +kernel))) e3 hA⟩
  · exact ⟨by decide, va_Zof (args := #[Value.ref b]) (hts (.laysStatic "TombolaBooks" "HUNDREDTHS" "[I") (List.mem_of_getElem? (i := 306) (by decide +kernel))) (hts (.initialized "TombolaBooks") (List.mem_of_getElem? (i := 16) (by decide +kernel))) e4 hA⟩
  · exact zStr_of (hts (.stringRef "TombolaBooks" 347 "there is no such place, card, game or setting") (List.mem_of_getElem? (i := 435) (by decide +kernel)))
  · exact zStr_of (hts (.stringRef "TombolaBooks" 354 "a value is out of range") (List.mem_of_getElem? (i := 475) (by decide +kernel)))
  · exact zStr_of (hts (.stringRef "TombolaBooks" 359 "this cannot be done now") (List.mem_of_getElem? (i := 536) (by decide +kernel)))
  · exact va_Nc.of (hs _ (by decide +kernel))
  · exact va_Nc.of (hs _ (by decide +kernel))
  · exact va_Nc.of (hs _ (by decide +kernel))
  · exact ⟨by decide, hbl, hX⟩
