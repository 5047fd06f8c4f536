/-! P30: THE WORLD at the law's entry -/
theorem arr_of {args : Array Value} {s : State} {ty : FieldType} (h : (Cond.arrayClass ty).before args s = true) (hr : ∀ cA, s.vm.findClass ("[" ++ ty.toString) = some cA → va_RA s cA ty) : ∃ cA, ArrOfT s cA ty ∧ va_RA s cA ty := by
  obtain ⟨cA, kA, comp, h1, h2, h3⟩ := Cond.arrayClass_spec h
  exact ⟨cA, fun n z => ⟨fun k h => (by cases h), kA, h2, comp, h3⟩, hr cA h1⟩
theorem arr_ofO {args : Array Value} {s : State} {C : String} (h : (Cond.arrayOver (.object C)).before args s = true) : ∃ cA, ArrOfT s cA (.object C) ∧ va_RA s cA (.object C) := by
  obtain ⟨comp, c, k, h1, h2, h3, h4, h5⟩ := Cond.arrayOver_spec h
  exact ⟨c, fun n z => ⟨fun k h => (by cases h), k, h3, comp, h4⟩, k, comp, h3, h4, h1, h5⟩
theorem world {s : State} {b : Nat} (hts : ∀ w ∈ lw_tbl, w.before #[Value.ref b] s = true) (hgv : (Jvm.Cond.and given_1 narrow_1).before #[Value.ref b] s = true) : ∃ (D : va_G) (C : ClassId × ClassId × ClassId × ClassId × Nat × Nat), va_K D kCl (kty (s.heap.size, D, C, true)) s ∧ KS (s.heap.size, D, C, true) s s.heap := by
  have hG : ∀ w ∈ GT, w.before #[Value.ref b] s = true := fun w hw => hts w (List.mem_filter.mp hw).1
  have hf := flat_of_before _ hgv
  have hA : ∀ a : Nat, a < s.heap.size → ¬ (fun q => s.heap.size ≤ q) a := fun a h => Nat.not_le.mpr h
  obtain ⟨c0, i0, n0⟩ := u_known (C := RX0) (T := TX0) (N := 2) hG kc0.2.1 (hG _ in_X0)
  obtain ⟨c1, i1, n1⟩ := u_known (C := RX1) (T := TX1) (N := 1) hG kc1.2.1 (hG _ in_X1)
  obtain ⟨c2, i2, n2⟩ := u_known (C := RX2) (T := TX2) (N := 5) hG kc2.2.1 (hG _ in_X2)
  obtain ⟨c3, i3, n3⟩ := u_known (C := RX3) (T := TX3) (N := 6) hG kc3.2.1 (hG _ in_X3)
  obtain ⟨c4, i4, n4⟩ := u_known (C := RX4) (T := TX4) (N := 1) hG kc4.2.1 (hG _ in_X4)
  obtain ⟨c5, i5, n5⟩ := u_known (C := RX7) (T := TX7) (N := 15) hG kc5.2.1 (hG _ in_X7)
  obtain ⟨c6, i6, n6⟩ := u_known (C := RX8) (T := TX8) (N := 4) hG kc6.2.1 (hG _ in_X8)
  obtain ⟨c7, i7, n7⟩ := u_known (C := RX10) (T := TX10) (N := 4) hG kc7.2.1 (hG _ in_X10)
  obtain ⟨a0, p0⟩ := arr_of (hts (.arrayClass .int) (List.mem_of_getElem? (i := 61) (by decide +kernel))) (fun _ h => h)
  obtain ⟨a1, p1⟩ := arr_of (hts (.arrayClass .boolean) (List.mem_of_getElem? (i := 220) (by decide +kernel))) (fun _ h => h)
  obtain ⟨a2, p2⟩ := arr_ofO (hts (.arrayOver (.object "SignReforms$State")) (List.mem_of_getElem? (i := 201) (by decide +kernel)))
  refine ⟨(fun k => [c0, c1, c2, c3, c4, c5, c6, c7].getD k c0, fun k => [i0, i1, i2, i3, i4, i5, i6, i7].getD k i0), (a0, a1, a2, c0, 0, 0), ⟨fun k q hq => ?_, fun k q hq => ?_⟩, ⟨fun w hw hn => va_Nw.of (nw_tabs hn) (hts w hw), fun q hq => ?_, fun own k tx hm => ?_, va_AO.of (hts _ (List.mem_of_getElem? (i := 201) (by decide +kernel)))⟩, ?_, ?_⟩
  · match k, hq with
    | 0, hq => cases hq; exact n0
    | 1, hq => cases hq; exact n1
    | 2, hq => cases hq; exact n2
    | 3, hq => cases hq; exact n3
    | 4, hq => cases hq; exact n4
    | 5, hq => cases hq; exact n5
    | 6, hq => cases hq; exact n6
    | 7, hq => cases hq; exact n7
    | k + 8, hq => simp [kCl] at hq
  · match k, hq with
    | 0, hq => cases hq; exact p0
    | 1, hq => cases hq; exact p1
    | 2, hq => cases hq; exact p2
    | k + 3, hq => simp [kty] at hq
  · simp only [kNC, List.mem_cons, List.not_mem_nil, or_false] at hq
    rcases hq with rfl | rfl | rfl <;> exact va_Nc.of (hf _ (by decide +kernel))
  · have hb := hts _ hm
    have hcur : ∃ cur, s.vm.findClass own = some cur := by
      have h1 := hb
      simp only [Cond.before, Cond.holds, Cond.value] at h1
      cases hc : s.vm.findClass own with
      | none => simp [hc] at h1
      | some cur => exact ⟨cur, rfl⟩
    obtain ⟨cur, hcur⟩ := hcur
    obtain ⟨k9, cf, i9, a, -, -, -, -, -, hev9⟩ := Cond.stringRef_spec hcur hb
    exact ⟨a, vk_R.of hb hev9⟩
  · exact vx_Zqof (hts _ (List.mem_of_getElem? (i := 265) (by decide +kernel))) (hts (.initialized Bundle.tN) (by decide +kernel)) (hf _ (by decide +kernel)) hA
  · exact vx_Zqof (hts _ (List.mem_of_getElem? (i := 267) (by decide +kernel))) (hts (.initialized Bundle.tN) (by decide +kernel)) (hf _ (by decide +kernel)) hA
