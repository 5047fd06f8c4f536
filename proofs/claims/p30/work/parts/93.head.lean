/-! P30: THE LAW: its loop, its head: both objects are made, the int too -/
theorem cB_48 : (Int8.ofInt 48).toInt32 = 48 := by decide
theorem cB_m32 : (Int8.ofInt (-32)).toInt32 = (-32) := by decide
set_option maxRecDepth 100000 in
theorem mi_La_cell : MI yL_cell cL_cell 2 (some .int) 2 := ⟨gt_in 366 (by rfl) rfl, gt_in 14 (by decide +kernel) rfl, by decide +kernel, by decide +kernel⟩
theorem ms_La_cell : Cond.static yL_cell ∈ GT := gt_in 365 (by decide +kernel) rfl
theorem ml_RL_101 : Cond.methodLink RL 101 yL_cell ∈ GT := gt_in 364 (by decide +kernel) rfl
theorem cl_L_9 : Cond.classLink RL 9 RX10 ∈ GT := gt_in 33 (by decide +kernel) rfl
theorem in_X10 : Cond.instantiable RX10 4 ∈ GT := gt_in 34 (by decide +kernel) rfl
theorem ii_X10 : Cond.initialized RX10 ∈ GT := gt_in 15 (by decide +kernel) rfl
theorem ml_L_i10 : Cond.methodLink RL 100 yX10_init ∈ GT := gt_in 35 (by decide +kernel) rfl
abbrev ls5 (B : KB) (b : Nat) (i : Int32) : List (Nat × Value) := [(0, .ref b), (1, .ref (B.1 + 0)), (2, .ref (B.1 + 235)), (3, .ref (B.1 + 470)), (4, .int i)]
set_option maxRecDepth 20000 in
theorem law_loop {X : KX} {B : KB} {L : KLay} {b Ln : Nat} {xs : Nat → Int32} (H : LG X B L b Ln xs) (hL : Ln ≤ 260) (E : ∀ M cn sn, cn ≤ 600104 → sn ≤ 7301314 → KK X B L 9 cn sn M 288 [] [.int 1]) :
    ∀ m e M cn sn, e + m = 48 → INV (60 * e) M → cn + 100 * (m + 1) ≤ 600104 → sn + 1000 * (m + 1) ≤ 7301314 → KK X B L 9 cn sn M 23 (ls5 B b (nI e)) [] := by
  obtain ⟨G, hx, ⟨hu, hv, ho⟩, hX, hb, hbB⟩ := id H
  intro m
  induction m with
  | zero =>
    intro e M cn sn he hi hc hs
    have hc1 : cn + 100 ≤ 600104 := by omega
    have hs1 : sn + 1000 ≤ 7301314 := by omega
    obtain rfl : e = 48 := by omega
    show KK X B L 9 (cn + 0) (sn + 0) M 23 (ls5 B b (nI 48)) []
    refine k_iload G (dc d_La_law 13 rfl) 4 rfl ?_
    refine k_bipush G (dc d_La_law 14 rfl) cB_48 ?_
    refine k_icmp_ge G (dc d_La_law 15 rfl) (tgt := 284) rfl (fun c => ?_) (fun c => (c (show (48 : Int32) ≤ nI 48 from by decide)).elim)
    refine k_aload_n G (dc d_La_law 154 rfl) 1 rfl rfl ?_
    obtain ⟨a, hF, hM, ⟨H0, k0, g⟩, -⟩ := hi
    obtain ⟨⟨x, M1⟩, e1, r1, -⟩ := sums_ok g hF hM (by omega)
    simp only at r1
    subst r1
    refine k_callS G (dc d_La_law 155 rfl) mi_La_areSums ms_La_areSums ml_RL_113 (c_La_areSums (gst G) hu e1) rfl rfl ⟨rfl, rfl⟩ rfl ⟨blC hc1 rfl, blS hs1 rfl⟩ ?_
    show KK X B L 9 (cn + 0) (sn + 0) M1 288 (ls5 B b (nI 48)) [.int 1]
    exact k_sub [] rfl (E M1 _ _ (by omega) (by omega))
  | succ m ih =>
    intro e M cn sn he hi hc hs
    have hc1 : cn + 100 ≤ 600104 := by omega
    have hs1 : sn + 1000 ≤ 7301314 := by omega
    have he48 : e < 48 := by omega
    show KK X B L 9 (cn + 0) (sn + 0) M 23 (ls5 B b (nI e)) []
    have go : ∀ v, KK X B L 9 (cn + 0) (sn + 0) M 54 (ls5 B b (nI e)) [.int v] := fun v => by
      refine b_La_step H hc1 hs1 ?_
      refine kWk _ (step_ok hi (by omega)) (fun M' h' => ?_)
      refine k_iinc G (dc d_La_law 152 rfl) 4 rfl cI_1 rfl rfl ?_
      refine k_goto G (dc d_La_law 153 rfl) (tgt := 23) rfl ?_
      refine k_sub [1, 2, 3, 4, 0] rfl ?_
      have h6 : INV (60 * (e + 1)) M' := by
        rw [show 60 * (e + 1) = 60 * e + 60 from by omega]
        exact h'
      have := ih (e + 1) M' (cn + 10) (sn + 60) (by omega) h6 (by omega) (by omega)
      rw [← show nI e + 1 = nI (e + 1) from nI_add e 1] at this
      exact this
    have cell : CtrS (xL X) B b Ln xs (nI e) L M (cellV Ln xs e) := c_La_cell (gst G) he48 (by omega)
    refine k_iload G (dc d_La_law 13 rfl) 4 rfl ?_
    refine k_bipush G (dc d_La_law 14 rfl) cB_48 ?_
    refine k_icmp_ge G (dc d_La_law 15 rfl) (tgt := 284) rfl (fun c => ?_) (fun c => ?_)
    · exfalso
      rw [show (48 : Int32) = nI 48 from rfl, nI_leI (by omega) (by omega)] at c
      omega
    refine k_iload G (dc d_La_law 16 rfl) 4 rfl ?_
    refine k_iconst G (dc d_La_law 17 rfl) cI_3 ?_
    refine k_icmp_ge G (dc d_La_law 18 rfl) (tgt := 48) rfl (fun c => ?_) (fun c => ?_)
    · refine k_aload_n G (dc d_La_law 25 rfl) 0 rfl rfl ?_
      refine k_iload G (dc d_La_law 26 rfl) 4 rfl ?_
      refine k_callcell G (dc d_La_law 27 rfl) mi_La_cell ms_La_cell ml_RL_101 hX hb hbB cell ⟨rfl, rfl⟩ rfl ⟨blC hc1 rfl, blS hs1 rfl⟩ ?_
      exact go _
    · refine k_aload_n G (dc d_La_law 19 rfl) 0 rfl rfl ?_
      refine k_iload G (dc d_La_law 20 rfl) 4 rfl ?_
      refine k_callcell G (dc d_La_law 21 rfl) mi_La_cell ms_La_cell ml_RL_101 hX hb hbB cell ⟨rfl, rfl⟩ rfl ⟨blC hc1 rfl, blS hs1 rfl⟩ ?_
      refine k_bipush G (dc d_La_law 22 rfl) cB_m32 ?_
      refine k_iand G (dc d_La_law 23 rfl) ?_
      refine k_goto G (dc d_La_law 24 rfl) (tgt := 54) rfl ?_
      exact go _
/-- the pool's end is not known any more -/
theorem k_flag {X : KX} {A : Nat} {D : va_G} {C : ClassId × ClassId × ClassId × ClassId × Nat × Nat} {L : KLay} {nL cn sn : Nat} {M : KMem} {pc : Nat} {ls : List (Nat × Value)} {st : List Value} (k : KK X (A, D, C, false) L nL cn sn M pc ls st) : KK X (A, D, C, true) L nL cn sn M pc ls st :=
  fun H locs la hW hS hla => k H locs la ⟨hW.1, (fun e => by cases e), hW.2.2⟩ hS hla
theorem law_head {X : KX} {A : Nat} {D : va_G} {C : ClassId × ClassId × ClassId × ClassId × Nat × Nat} {b Ln : Nat} {xs : Nat → Int32} (G : Good X (A, D, C, true) RL code 9 room_1) (hL : Ln ≤ 260) (hX : va_X b Ln xs (xS X) (xS X).heap) (hb : b < (xS X).heap.size) (hbA : b < A)
    (E : ∀ (L : KLay) M cn sn, cn ≤ 600104 → sn ≤ 7301314 → KK X (A, D, C, false) L 9 cn sn M 288 [] [.int 1]) : KK X (A, D, C, true) l00 9 0 0 m00 0 [(0, .ref b)] [] := by
  obtain ⟨L1, M1, L2, M2, e1, n1, e2, n2, o1, o2, g⟩ := start_ok
  refine k_new G rfl kc7 df_7 (dc d_La_law 0 rfl) cl_L_9 in_X10 ii_X10 rfl rfl ?_
  refine k_dup G (dc d_La_law 1 rfl) rfl ?_
  refine k_callI G (k := 0) (dc d_La_law 2 rfl) mi_SR_init mn_SR_init ml_L_i10 (c_SR_init (gst G) rfl e1) rfl rfl ⟨rfl, rfl⟩ rfl ⟨rfl, rfl⟩ ?_
  refine k_astore_n G (dc d_La_law 3 rfl) rfl rfl rfl ?_
  refine k_new G rfl kc7 df_7 (dc d_La_law 4 rfl) cl_L_9 in_X10 ii_X10 rfl rfl ?_
  rw [n1]
  refine k_dup G (dc d_La_law 5 rfl) rfl ?_
  refine k_callI G (k := 235) (dc d_La_law 6 rfl) mi_SR_init mn_SR_init ml_L_i10 (c_SR_init (gst G) rfl e2) rfl rfl ⟨rfl, rfl⟩ rfl ⟨rfl, rfl⟩ ?_
  refine k_astore_n G (dc d_La_law 7 rfl) rfl rfl rfl ?_
  refine k_iconst G (dc d_La_law 8 rfl) cI_1 ?_
  refine k_newI G rfl ar_int (dc d_La_law 9 rfl) (len := 1) (by decide) (by decide) rfl rfl rfl ?_
  rw [n2]
  refine k_astore_n G (dc d_La_law 10 rfl) rfl rfl rfl ?_
  refine k_iconst G (dc d_La_law 11 rfl) cI_0 ?_
  refine k_istore G (dc d_La_law 12 rfl) rfl rfl ?_
  refine k_flag ?_
  have hlt : 470 < (lNew L2 9 1).1 := by show 470 < L2.1 + 1; omega
  have ho : arL (lNew L2 9 1) 470 9 1 := by
    refine ⟨hlt, ?_, ?_⟩
    · show va_up L2.2.1 L2.1 9 470 = 9
      rw [n2, va_up_s]
    · show va_up L2.2.2.1 L2.1 1 470 = 1
      rw [n2, va_up_s]
  have H : LG X (A, D, C, false) (lNew L2 9 1) b Ln xs := ⟨G, rfl, ⟨o1, o2, ho⟩, hX, hb, hbA⟩
  refine k_sub [4, 3, 2, 1, 0] rfl ?_
  exact law_loop H hL (fun M cn sn h1 h2 => E _ M cn sn h1 h2) 48 0 _ _ _ rfl g (Nat.le_of_ble_eq_true rfl) (Nat.le_of_ble_eq_true rfl)
