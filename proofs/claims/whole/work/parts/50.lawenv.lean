/-! what the tables and the statics give at the law's entry -/
theorem nwF_in : ∀ q ∈ nwF, Cond.fieldLinkNest q.1 q.2.1 q.2.2.1 q.2.2.2.1 q.2.2.2.2 "StackedLeaves" ∈ lw_tbl := by decide +kernel
theorem nwM_in : ∀ q ∈ nwM, Cond.methodLinkNest q.1 q.2.1 q.2.2 "StackedLeaves" ∈ lw_tbl := by decide +kernel
theorem arr_of {ty : FieldType} {args : Array Value} {s : State} (hr : ∀ c, s.vm.findClass ("[" ++ ty.toString) = some c → va_RA s c ty) (h : (Cond.arrayClass ty).before args s = true) : ∃ cA, ArrOfT s cA ty ∧ va_RA s cA ty := by
  obtain ⟨c, k, comp, h1, h2, h3⟩ := Cond.arrayClass_spec h
  exact ⟨c, fun n z => ⟨fun k h => (by cases h), k, h2, comp, h3⟩, hr c h1⟩
theorem law_env {s : State} {b : Nat} (hts : ∀ w ∈ lw_tbl, w.before #[Value.ref b] s = true) (hgv : (Jvm.Cond.and given_1 narrow_1).before #[Value.ref b] s = true) : ∃ g : GG, va_K g.1 vwCl (gTy g) s ∧ EV (fun q => s.heap.size ≤ q) s s.heap ∧ va_AO RX2 s := by
  obtain ⟨c0, i0, k0⟩ := u_known (C := RX0) (T := TX0) (N := 3) hts (fun w hw => (lwi_wsX00 w hw).1) (hts (.instantiable RX0 3) (by decide +kernel))
  obtain ⟨c1, i1, k1⟩ := u_known (C := RX1) (T := TX1) (N := 2) hts (fun w hw => (lwi_wsX10 w hw).1) (hts (.instantiable RX1 2) (by decide +kernel))
  obtain ⟨c2, i2, k2⟩ := u_known (C := RX2) (T := TX2) (N := 3) hts (fun w hw => (lwi_wsX20 w hw).1) (hts (.instantiable RX2 3) (by decide +kernel))
  obtain ⟨c3, i3, k3⟩ := u_known (C := RX3) (T := TX3) (N := 8) hts (fun w hw => (lwi_wsX30 w hw).1) (hts (.instantiable RX3 8) (by decide +kernel))
  obtain ⟨c4, i4, k4⟩ := u_known (C := RX4) (T := TX4) (N := 3) hts (fun w hw => (lwi_wsX40 w hw).1) (hts (.instantiable RX4 3) (by decide +kernel))
  obtain ⟨c5, i5, k5⟩ := u_known (C := RX5) (T := TX5) (N := 2) hts (fun w hw => (lwi_wsX50 w hw).1) (hts (.instantiable RX5 2) (by decide +kernel))
  obtain ⟨c6, i6, k6⟩ := u_known (C := RX6) (T := TX6) (N := 8) hts (fun w hw => (lwi_wsX60 w hw).1) (hts (.instantiable RX6 8) (by decide +kernel))
  obtain ⟨c7, i7, k7⟩ := u_known (C := RX7) (T := TX7) (N := 23) hts (fun w hw => (lwi_wsX70 w hw).1) (hts (.instantiable RX7 23) (by decide +kernel))
  obtain ⟨eC, hC1, hC2⟩ := arr_of (ty := .char) (fun c h => h) (hts (.arrayClass .char) (by decide +kernel))
  obtain ⟨eI, hI1, hI2⟩ := arr_of (ty := .int) (fun c h => h) (hts (.arrayClass .int) (by decide +kernel))
  obtain ⟨eZ, hZ1, hZ2⟩ := arr_of (ty := .boolean) (fun c h => h) (hts (.arrayClass .boolean) (by decide +kernel))
  have hO : (Cond.arrayOver (.object RX2)).before #[Value.ref b] s = true := hts (.arrayOver (.object RX2)) (by decide +kernel)
  obtain ⟨comp, eO, kO, o1, -, o3, o4, o5⟩ := Cond.arrayOver_spec hO
  have hs := flat_of_before _ hgv
  have hA : ∀ a : Nat, a < s.heap.size → ¬ (fun q => s.heap.size ≤ q) a := fun a h q => absurd q (Nat.not_le.mpr h)
  obtain ⟨t1, v1, T1⟩ := va_Tof (args := #[Value.ref b]) (s := s) (tm := .static "StackedLeaves" "LEAST_NUMBER" "[I") (ty := .int) (N := 4) (f := fun j => .int (fLe j)) (A := fun q => s.heap.size ≤ q) (by decide) (hs _ (by decide +kernel)) (va_eqt (z := 4) (hs _ (by decide +kernel))) (fun j hj => by
    rcases (show j = 0 ∨ j = 1 ∨ j = 2 ∨ j = 3 by omega) with rfl | rfl | rfl | rfl
    · exact va_eqt (z := 1) (hs _ (by decide +kernel))
    · exact va_eqt (z := 1) (hs _ (by decide +kernel))
    · exact va_eqt (z := 0) (hs _ (by decide +kernel))
    · exact va_eqt (z := 1) (hs _ (by decide +kernel))) hA
  obtain ⟨t2, v2, T2⟩ := va_Tof (args := #[Value.ref b]) (s := s) (tm := .static "StackedLeaves" "MOST_NUMBER" "[I") (ty := .int) (N := 4) (f := fun j => .int (fMo j)) (A := fun q => s.heap.size ≤ q) (by decide) (hs _ (by decide +kernel)) (va_eqt (z := 4) (hs _ (by decide +kernel))) (fun j hj => by
    rcases (show j = 0 ∨ j = 1 ∨ j = 2 ∨ j = 3 by omega) with rfl | rfl | rfl | rfl
    · exact va_eqt (z := 9) (hs _ (by decide +kernel))
    · exact va_eqt (z := 9) (hs _ (by decide +kernel))
    · exact va_eqt (z := 30) (hs _ (by decide +kernel))
    · exact va_eqt (z := 99) (hs _ (by decide +kernel))) hA
  have hini : (Cond.initialized "StackedLeaves").before #[Value.ref b] s = true := hts (.initialized "StackedLeaves") (by decide +kernel)
  refine ⟨((fun c => match c with | 0 => c0 | 1 => c1 | 2 => c2 | 3 => c3 | 4 => c4 | 5 => c5 | 6 => c6 | _ => c7, fun c => match c with | 0 => i0 | 1 => i1 | 2 => i2 | 3 => i3 | 4 => i4 | 5 => i5 | 6 => i6 | _ => i7), eC, eI, eZ, eO), ⟨fun c q hq => ?_, fun k q hq => ?_⟩, ⟨⟨fun q hq => va_Nw.of rfl (hts _ (nwF_in q hq)), fun q hq => va_Nw.of rfl (hts _ (nwM_in q hq))⟩, ⟨t1, va_Zref (hts (.laysStatic "StackedLeaves" "LEAST_NUMBER" "[I") (by decide +kernel)) hini v1 hA, T1⟩, ⟨t2, va_Zref (hts (.laysStatic "StackedLeaves" "MOST_NUMBER" "[I") (by decide +kernel)) hini v2 hA, T2⟩⟩, va_AO.of hO⟩
  · match c, hq with
    | 0, h => cases h; exact k0
    | 1, h => cases h; exact k1
    | 2, h => cases h; exact k2
    | 3, h => cases h; exact k3
    | 4, h => cases h; exact k4
    | 5, h => cases h; exact k5
    | 6, h => cases h; exact k6
    | 7, h => cases h; exact k7
    | (c + 8), h => cases h
  · match k, hq with
    | 0, h => cases h; exact ⟨hC1, hC2⟩
    | 1, h => cases h; exact ⟨hI1, hI2⟩
    | 2, h => cases h; exact ⟨hZ1, hZ2⟩
    | 3, h => cases h; exact ⟨fun n z => ⟨fun k h => (by cases h), kO, o3, comp, o4⟩, kO, comp, o3, o4, o1, o5⟩
    | (k + 4), h => cases h
