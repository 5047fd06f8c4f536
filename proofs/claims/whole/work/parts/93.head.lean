/-! THE LAW: its head: both objects are made, the long too -/
theorem cl_L_8 : Cond.classLink RL 8 RX10 ∈ GT := gt_in 96 (by decide +kernel) rfl
theorem cl_L_94 : Cond.classLink RL 94 RX11 ∈ GT := gt_in 1070 (by decide +kernel) rfl
theorem in_X10 : Cond.instantiable RX10 4 ∈ GT := gt_in 97 (by decide +kernel) rfl
theorem ii_X10 : Cond.initialized RX10 ∈ GT := gt_in 70 (by decide +kernel) rfl
theorem in_X11 : Cond.instantiable RX11 18 ∈ GT := gt_in 1071 (by decide +kernel) rfl
theorem ii_X11 : Cond.initialized RX11 ∈ GT := gt_in 79 (by decide +kernel) rfl
theorem ac_J : Cond.arrayClass (newarray.typeOf .long) ∈ GT := gt_in 1477 (by decide +kernel) rfl
theorem ml_L_i10 : Cond.methodLink RL 93 yX10_init ∈ GT := gt_in 98 (by decide +kernel) rfl
theorem ml_L_i11 : Cond.methodLink RL 96 yX11_init ∈ GT := gt_in 1072 (by decide +kernel) rfl
/-- the pool's end is not known any more -/
theorem k_flag {X : KX} {A : Nat} {D : va_G} {C : ClassId × ClassId × ClassId × ClassId × Nat × Nat} {L : KLay} {nL cn sn : Nat} {M : KMem} {pc : Nat} {ls : List (Nat × Value)} {st : List Value} (k : KK X (A, D, C, false) L nL cn sn M pc ls st) : KK X (A, D, C, true) L nL cn sn M pc ls st :=
  fun H locs la hW hS hla => k H locs la ⟨hW.1, (fun e => by cases e), hW.2.2⟩ hS hla
theorem law_head {X : KX} {A : Nat} {D : va_G} {C : ClassId × ClassId × ClassId × ClassId × Nat × Nat} {b Ln : Nat} {xs : Nat → Int32} (G : Good X (A, D, C, true) RL code 7 room_1) (hL : Ln ≤ 2560) (hX : va_X b Ln xs (xS X) (xS X).heap) (hb : b < (xS X).heap.size) (hbA : b < A)
    (E : ∀ (L : KLay) M cn sn, cn ≤ 601024 → sn ≤ 7293034 → KK X (A, D, C, false) L 7 cn sn M 1770 [] [.int 1]) : KK X (A, D, C, true) l00 7 0 0 m00 0 [(0, .ref b)] [] := by
  obtain ⟨L1, M1, L2, M2, e1, n1, e2, n2, o1, o2, g⟩ := start_ok
  refine k_new G rfl kc7 df_7 (dc d_law_h 0 rfl) cl_L_8 in_X10 ii_X10 rfl rfl ?_
  refine k_dup G (dc d_law_h 1 rfl) rfl ?_
  refine k_callI G (k := 0) (dc d_law_h 2 rfl) mi_SR_init mn_SR_init ml_L_i10 (c_SR_init (gst G) rfl e1) rfl rfl ⟨rfl, rfl⟩ rfl ⟨rfl, rfl⟩ ?_
  refine k_astore_n G (dc d_law_h 3 rfl) rfl rfl rfl ?_
  refine k_new G rfl kc8 df_8 (dc d_law_h 4 rfl) cl_L_94 in_X11 ii_X11 rfl rfl ?_
  rw [n1]
  refine k_dup G (dc d_law_h 5 rfl) rfl ?_
  refine k_callI G (k := 235) (dc d_law_h 6 rfl) mi_Mo_init mn_Mo_init ml_L_i11 (c_Mo_init (gst G) rfl e2) rfl rfl ⟨rfl, rfl⟩ rfl ⟨rfl, rfl⟩ ?_
  refine k_astore_n G (dc d_law_h 7 rfl) rfl rfl rfl ?_
  refine k_iconst G (dc d_law_h 8 rfl) cI_1 ?_
  refine k_newJ G rfl ac_J (dc d_law_h 9 rfl) (by decide) (len := 1) (by decide) rfl rfl rfl ?_
  rw [n2]
  refine k_astore_n G (dc d_law_h 10 rfl) rfl rfl rfl ?_
  refine k_iconst G (dc d_law_h 11 rfl) cI_0 ?_
  refine k_istore G (dc d_law_h 12 rfl) rfl rfl ?_
  refine k_flag ?_
  have hlt : 244 < (lNew L2 12 1).1 := by show 244 < L2.1 + 1; omega
  have ho : arL (lNew L2 12 1) 244 12 1 := by
    refine ⟨hlt, ?_, ?_⟩
    · show va_up L2.2.1 L2.1 12 244 = 12
      rw [n2, va_up_s]
    · show va_up L2.2.2.1 L2.1 1 244 = 1
      rw [n2, va_up_s]
  have H : LG X (A, D, C, false) (lNew L2 12 1) b Ln xs := ⟨G, rfl, ⟨o1, o2, ho⟩, hX, hb, hbA⟩
  refine k_sub [4, 3, 2, 1, 0] rfl ?_
  exact law_loop H hL (fun M cn sn h1 h2 => E _ M cn sn h1 h2) 512 0 _ _ _ g (by omega) (by omega) (Nat.le_of_ble_eq_true rfl) (Nat.le_of_ble_eq_true rfl)
