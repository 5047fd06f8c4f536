/-! LAYER 2: the class's town: paint, months, amnesties, counts -/
/-- what a guild pays -/
theorem charge_ok {u p n s g : Nat} {x : Int32} {M : KMem} (h : M (u + 1) 1 = nI n) (hn : n ≤ 8) (hs : s < n) (hg : M (u + 4) s = nI g) (h4 : g < 4) : m_Tw_charge u p 4 (nI s) x M = some (kup M p g (M p g + x)) := by
  unfold m_Tw_charge
  rw [hasSign_y h hn hs, bS, if_neg (by decide), rdN (by omega) (by omega), bS, hg, bS, if_neg (nI_pos (by omega)), if_neg (by show ¬ nI 4 ≤ nI g; rw [nI_leI (by omega) (by omega)]; omega), rdN (by omega) (by omega), bS, wrN (by omega) (by omega)]
  rfl
theorem repaint_ok {a : Row} {u s : Nat} {M : KMem} (h : CR a u M) (hI : InvB a) (hs : s < sN a) :
    kOk (m_Tw_repaint u (nI s) M) (fun q => q.1 = coA a s ∧ CR (paintsA a s) u q.2 ∧ frS (twn u) M q.2) := by
  have h8 := hI.1.1
  have h10 := hI.2.1.1
  obtain ⟨g1, g2⟩ := gN_e hI hs
  unfold m_Tw_repaint
  rw [hasSign_y (h.n hI) h8 hs, bS, if_neg (by decide)]
  refine kB _ (costOf_ok h hI hs) ?_
  rintro ⟨x, M6⟩ ⟨hx, hf⟩
  simp only at hx hf
  subst hx
  have h6 := h.sc hf
  obtain ⟨⟨k1, k2, k3, k4, k5, k6⟩, k7, k8, k9, k10, k11⟩ := h6
  obtain ⟨l1, l2, l3, l4, l5, l6⟩ := k8 s hs
  show kOk ((m_Tw_charge u (u + 11) 4 (nI s) (coA a s) M6).bind _) _
  rw [charge_ok (k1.trans hI.1.2) h8 hs (l1.trans g2) g1, bS, (k9 _ g1).2, rdN (by omega) (by omega), bS, kup_n _ _ _ (by omega), l4, wrN (by omega) (by omega), bS, rdN (by omega) (by omega), bS, kup_n _ _ _ (by omega), kup_n _ _ _ (by omega), l5, wrN (by omega) (by omega), bS]
  have l0 := paintsA_l0 hI hs
  have out : ∀ i, i ≠ 5 * s + 3 → i ≠ 5 * s + 4 → i ≠ 102 + gN a s → i ≠ 96 → paintsA a s i = a i := fun i h1 h2 h3 h4 => paintsA_out h1 h2 h3 h4
  have T : ∀ j, 1 ≤ j → j ≤ 17 → twn u (u + j) := fun j h1 h2 => ⟨by omega, by omega⟩
  refine kOk_i ?_
  dsimp only
  refine ⟨rfl, ⟨⟨?_, ?_, ?_, ?_, ?_, ?_⟩, ?_, ?_, ?_, ?_, ?_⟩, frS.k (frS.k (frS.k (scr_twn hf) (T 11 (by omega) (by omega))) (T 6 (by omega) (by omega))) (T 8 (by omega) (by omega))⟩
  · simp (disch := omega) only [kup_n]
    rw [l0.1]; exact k1
  · simp (disch := omega) only [kup_n]
    rw [l0.2.1]; exact k2
  · simp (disch := omega) only [kup_n]
    rw [out _ (by omega) (by omega) (by omega) (by omega)]; exact k3
  · simp (disch := omega) only [kup_n]
    rw [out _ (by omega) (by omega) (by omega) (by omega)]; exact k4
  · simp (disch := omega) only [kup_n]
    rw [out _ (by omega) (by omega) (by omega) (by omega)]; exact k5
  · simp (disch := omega) only [kup_n]
    rw [out _ (by omega) (by omega) (by omega) (by omega)]; exact k6
  · rw [l0.n.2]
    intro i hi
    simp (disch := omega) only [kup_n]
    rw [l0.2.2.2 i hi]; exact k7 i hi
  · rw [l0.n.1]
    intro t ht
    obtain ⟨j1, j2, j3, j4, j5, j6⟩ := k8 t ht
    rw [l0.rt ht, (l0.2.2.1 t ht).1, (l0.2.2.1 t ht).2, out (5 * t + 5) (by omega) (by omega) (by omega) (by omega)]
    refine ⟨?_, ?_, ?_, ?_, ?_, ?_⟩
    · simp (disch := omega) only [kup_n]; exact j1
    · simp (disch := omega) only [kup_n]; exact j2
    · rw [kup_n _ _ _ (by omega)]
      by_cases hts : t = s
      · subst hts; rw [kup_s, paintsA_3 (by omega)]
      · rw [kup_j _ _ _ hts, kup_n _ _ _ (by omega), out _ (by omega) (by omega) (by omega) (by omega)]; exact j3
    · simp (disch := omega) only [kup_n]; exact j4
    · by_cases hts : t = s
      · subst hts; rw [kup_s, paintsA_4 (by omega)]
      · rw [kup_j _ _ _ hts, kup_n _ _ _ (by omega), kup_n _ _ _ (by omega), out _ (by omega) (by omega) (by omega) (by omega)]; exact j5
    · simp (disch := omega) only [kup_n]; exact j6
  · intro g hg
    refine ⟨?_, ?_⟩
    · simp (disch := omega) only [kup_n]
      rw [out _ (by omega) (by omega) (by omega) (by omega)]; exact (k9 g hg).1
    · rw [kup_n _ _ _ (by omega), kup_n _ _ _ (by omega)]
      by_cases hgs : g = gN a s
      · subst hgs; rw [kup_s, paintsA_g]
      · rw [kup_j _ _ _ hgs, out _ (by omega) (by omega) (by omega) (by omega)]; exact (k9 g hg).2
  · simp (disch := omega) only [kup_n]
    rw [out _ (by omega) (by omega) (by omega) (by omega)]; exact k10
  · simp (disch := omega) only [kup_n]
    rw [out _ (by omega) (by omega) (by omega) (by omega)]; exact k11
theorem repaint_no {a : Row} {u : Nat} {p : Int32} {M : KMem} (h : CR a u M) (hI : InvB a) (hp : p < 0 ∨ nI (sN a) ≤ p) : m_Tw_repaint u p M = some (-1, M) := by
  unfold m_Tw_repaint
  rcases hasSign_c p (h.n hI) hI.1.1 with ⟨s, h1, rfl, h3⟩ | ⟨h1, h2⟩
  · exfalso
    have := hI.1.1
    rcases hp with c | c
    · exact nI_pos (by omega) c
    · rw [nI_leI (by omega) (by omega)] at c; omega
  · rw [h2, bS, if_pos rfl]
/-- fines of a month -/
theorem finS_no {b : Row} {s : Nat} (h : b (5 * s + 3) = rtA b s) : finS b s = b := by
  funext i
  unfold finS
  rw [if_pos h]
  have e : ∀ x : Int32, x + 0 = x := fun x => Int32.add_zero x
  by_cases h1 : i = 95
  · subst h1; rw [pk_us, e]
  · rw [pk_un h1]
    by_cases h2 : i = 98 + gN b s
    · subst h2; rw [pk_us, e]
    · rw [pk_un h2]
      by_cases h3 : i = 5 * s + 5
      · subst h3; rw [pk_us, e]
      · rw [pk_un h3]
theorem finA_107 {a : Row} (h : Inv a) : ∀ s, s ≤ sN a → finA a s 107 = a 107 := by
  intro s
  induction s with
  | zero => intro _; rfl
  | succ s ih =>
    intro hs
    obtain ⟨j1, j2⟩ := finA_inv h s (by omega)
    have := j1.1.1.1
    have hg := (gN_e j1.1 (s := s) (by omega)).1
    show finS (finA a s) s 107 = _
    rw [finS_out (by omega) (by omega) (by omega)]
    exact ih (by omega)
theorem fine_ok {a : Row} {u : Nat} {M : KMem} (h : CR a u M) (hI : Inv a) :
    kOk (m_Tw_fineWrongSigns u M) (fun M' => CR (finA a (sN a)) u M' ∧ frS (twn u) M M') := by
  have h8 := hI.1.1.1
  unfold m_Tw_fineWrongSigns
  rw [show rdI M (u + 12) 2 1 = some (M (u + 12) 1) from rdN (j := 1) (by omega) (by omega), bS, h.2.2.2.2.2]
  refine kB (fun M' => CR (finA a (sN a)) u M' ∧ frS (twn u) M M') (kFor (fun s q => ∃ M1, q = (nI s, M1) ∧ CR (finA a s) u M1 ∧ s ≤ sN a ∧ frS (twn u) M M1) (sN a) ?_ ?_ (i0 := 0) (by omega) (by omega) ⟨M, rfl, h, by omega, frS.rf⟩) (fun x hx => kOk_i hx)
  · rintro s _ hs ⟨M1, rfl, c1, c2, c3⟩
    obtain ⟨i1, i2⟩ := finA_inv hI s c2
    have h107 := finA_107 hI s c2
    have hn1 := c1.n i1.1
    rw [i2] at hn1
    have hw := isWrong_ok c1 i1.1 (s := s) (by omega)
    have hstep : CR (finA a (s + 1)) u M1 ↔ CR (finS (finA a s) s) u M1 := Iff.rfl
    by_cases hwr : finA a s (5 * s + 3) = rtA (finA a s) s
    · refine Or.inl ⟨(nI (s + 1), M1), ?_, M1, rfl, ?_, by omega, c3⟩
      · unfold m_Tw_fineWrongSigns_l12
        show (if 8 ≤ nI s then _ else _) = _
        rw [if_neg (by rw [nI_8F (by omega)]; exact id), hasSign_y hn1 h8 hs, bS, if_neg (by decide), hw, if_pos hwr, bS, if_pos rfl, bS, nI_1]
      · show CR (finS (finA a s) s) u M1
        rw [finS_no hwr]; exact c1
    · obtain ⟨g1, g2⟩ := gN_e i1.1 (s := s) (by omega)
      have l0 := finS_l0 i1.1 (s := s) (by omega)
      have out : ∀ i, i ≠ 5 * s + 5 → i ≠ 98 + gN (finA a s) s → i ≠ 95 → finS (finA a s) s i = finA a s i := fun i h1 h2 h3 => finS_out h1 h2 h3
      have v5 : finS (finA a s) s (5 * s + 5) = finA a s (5 * s + 5) + a 107 := by
        unfold finS
        rw [pk_un (by omega), pk_un (by omega), pk_us, if_neg hwr, h107]
      have vg : finS (finA a s) s (98 + gN (finA a s) s) = finA a s (98 + gN (finA a s) s) + a 107 := by
        unfold finS
        rw [pk_un (by omega), pk_us, if_neg hwr, h107]
      have hs' : s < sN (finA a s) := by omega
      have hd10 := i1.1.2.1.1
      generalize hb : finA a s = b at *
      obtain ⟨⟨k1, k2, k3, k4, k5, k6⟩, k7, k8, k9, k10, k11⟩ := c1
      obtain ⟨l1, l2, l3, l4, l5, l6⟩ := k8 s hs'
      have T : ∀ j, 1 ≤ j → j ≤ 17 → twn u (u + j) := fun j h1 h2 => ⟨by omega, by omega⟩
      refine Or.inl ⟨(nI (s + 1), kup (kup M1 (u + 9) s (b (5 * s + 5) + a 107)) (u + 10) (gN b s) (b (98 + gN b s) + a 107)), ?_, _, rfl, ?_, by omega, frS.k (frS.k c3 (T 9 (by omega) (by omega))) (T 10 (by omega) (by omega))⟩
      · unfold m_Tw_fineWrongSigns_l12
        show (if 8 ≤ nI s then _ else _) = _
        rw [if_neg (by rw [nI_8F (by omega)]; exact id), hasSign_y hn1 h8 hs, bS, if_neg (by decide), hw, if_neg hwr, bS, if_neg (by decide), rdN (by omega) (by omega), bS, l6, wrN (by omega) (by omega), bS, charge_ok (n := sN a) (g := gN b s) (by rw [kup_n _ _ _ (by omega)]; exact hn1) h8 (by omega) (by rw [kup_n _ _ _ (by omega)]; exact l1.trans g2) g1, bS, kup_n _ _ _ (by omega), (k9 _ g1).1, bS, nI_1]
      · show CR (finS (finA a s) s) u _
        rw [hb]
        refine ⟨⟨?_, ?_, ?_, ?_, ?_, ?_⟩, ?_, ?_, ?_, ?_, ?_⟩
        · simp (disch := omega) only [kup_n]
          rw [l0.1.1]; exact k1
        · simp (disch := omega) only [kup_n]
          rw [l0.1.2.1]; exact k2
        · simp (disch := omega) only [kup_n]
          rw [out _ (by omega) (by omega) (by omega)]; exact k3
        · simp (disch := omega) only [kup_n]
          rw [out _ (by omega) (by omega) (by omega)]; exact k4
        · simp (disch := omega) only [kup_n]
          rw [out _ (by omega) (by omega) (by omega)]; exact k5
        · simp (disch := omega) only [kup_n]
          rw [out _ (by omega) (by omega) (by omega)]; exact k6
        · rw [l0.1.n.2]
          intro i hi
          simp (disch := omega) only [kup_n]
          rw [l0.1.2.2.2 i hi]; exact k7 i hi
        · rw [l0.1.n.1]
          intro t ht
          obtain ⟨j1, j2, j3, j4, j5, j6⟩ := k8 t ht
          rw [l0.1.rt ht, (l0.1.2.2.1 t ht).1, (l0.1.2.2.1 t ht).2, l0.2 t ht, out (5 * t + 4) (by omega) (by omega) (by omega)]
          refine ⟨?_, ?_, ?_, ?_, ?_, ?_⟩
          · simp (disch := omega) only [kup_n]; exact j1
          · simp (disch := omega) only [kup_n]; exact j2
          · simp (disch := omega) only [kup_n]; exact j3
          · simp (disch := omega) only [kup_n]; exact j4
          · simp (disch := omega) only [kup_n]; exact j5
          · rw [kup_n _ _ _ (by omega)]
            by_cases hts : t = s
            · subst hts; rw [kup_s, v5]
            · rw [kup_j _ _ _ hts, out _ (by omega) (by omega) (by omega)]; exact j6
        · intro g hg
          refine ⟨?_, ?_⟩
          · by_cases hgs : g = gN b s
            · subst hgs; rw [kup_s, vg]
            · rw [kup_j _ _ _ hgs, kup_n _ _ _ (by omega), out _ (by omega) (by omega) (by omega)]; exact (k9 g hg).1
          · simp (disch := omega) only [kup_n]
            rw [out _ (by omega) (by omega) (by omega)]; exact (k9 g hg).2
        · simp (disch := omega) only [kup_n]
          rw [out _ (by omega) (by omega) (by omega)]; exact k10
        · simp (disch := omega) only [kup_n]
          rw [out _ (by omega) (by omega) (by omega)]; exact k11
  · rintro _ ⟨M1, rfl, c1, c2, c3⟩
    obtain ⟨i1, i2⟩ := finA_inv hI _ c2
    have hn1 := c1.n i1.1
    rw [i2] at hn1
    refine ⟨M1, ?_, c1, c3⟩
    unfold m_Tw_fineWrongSigns_l12
    show (if 8 ≤ nI (sN a) then _ else _) = _
    split
    · rfl
    · rw [hasSign_n hn1 h8 (Nat.le_refl _) (by omega), bS, if_pos rfl]
theorem sum_ok {o : Nat} {M : KMem} : m_Tw_sum o 4 M = some (M o 0 + M o 1 + M o 2 + M o 3) := by
  refine kEx ?_
  unfold m_Tw_sum
  refine kB (fun r => r = M o 0 + M o 1 + M o 2 + M o 3) (kFor (fun i q => q = ((match i with | 0 => 0 | 1 => M o 0 | 2 => M o 0 + M o 1 | 3 => M o 0 + M o 1 + M o 2 | _ => M o 0 + M o 1 + M o 2 + M o 3), nI i)) 4 ?_ ?_ (i0 := 0) (by omega) (by omega) rfl) (fun x hx => kOk_i hx)
  · rintro i _ hi rfl
    refine Or.inl ⟨_, ?_, rfl⟩
    unfold m_Tw_sum_l10
    show (if Int32.ofNat 4 ≤ nI i then _ else _) = _
    rw [if_neg (by show ¬ nI 4 ≤ nI i; rw [nI_leI (by omega) (by omega)]; omega), rdN (by omega) (by omega), bS, nI_1]
    match i, hi with
    | 0, _ =>
      show some (Sum.inl ((0 : Int32) + M o 0, nI 1)) = some (Sum.inl (M o 0, nI 1))
      rw [Int32.zero_add]
    | 1, _ => rfl
    | 2, _ => rfl
    | 3, _ => rfl
  · rintro _ rfl
    exact ⟨_, rfl, rfl⟩
theorem allFines_ok {a : Row} {u : Nat} {M : KMem} (h : CR a u M) (hI : InvC a) : m_Tw_allFines u M = some (a 95) := by
  have k9 := h.2.2.2.1
  unfold m_Tw_allFines
  rw [sum_ok, bS, (k9 0 (by omega)).1, (k9 1 (by omega)).1, (k9 2 (by omega)).1, (k9 3 (by omega)).1, hI.1]
theorem paidSum_ok {a : Row} {u : Nat} {M : KMem} (h : CR a u M) (hI : InvC a) : m_Tw_sum (u + 11) 4 M = some (a 96) := by
  have k9 := h.2.2.2.1
  rw [sum_ok, (k9 0 (by omega)).2, (k9 1 (by omega)).2, (k9 2 (by omega)).2, (k9 3 (by omega)).2, hI.2.1]
theorem CR_92 {a : Row} {u : Nat} {x : Int32} {M : KMem} (h : CR a u M) (hI : InvB a) : CR (upd a 92 x) u (kup M (u + 1) 11 x) := by
  have h1 := hI.1.1
  have h2 := hI.2.1.1
  have l0 : L0 a (upd a 92 x) := ⟨pk_un (by omega), pk_un (by omega), fun t ht => ⟨pk_un (by omega), pk_un (by omega)⟩, fun i hi => pk_un (by omega)⟩
  obtain ⟨⟨k1, k2, k3, k4, k5, k6⟩, k7, k8, k9, k10, k11⟩ := h
  refine ⟨⟨?_, ?_, ?_, ?_, ?_, ?_⟩, ?_, ?_, ?_, ?_, ?_⟩
  · rw [kup_j _ _ _ (by omega), pk_un (by omega)]; exact k1
  · rw [kup_n _ _ _ (by omega), pk_un (by omega)]; exact k2
  · rw [kup_s, pk_us]
  · rw [kup_j _ _ _ (by omega), pk_un (by omega)]; exact k4
  · rw [kup_j _ _ _ (by omega), pk_un (by omega)]; exact k5
  · rw [kup_j _ _ _ (by omega), pk_un (by omega)]; exact k6
  · rw [l0.n.2]; intro i hi; rw [kup_n _ _ _ (by omega), pk_un (by omega)]; exact k7 i hi
  · rw [l0.n.1]; intro s hs; rw [l0.rt hs]
    simp (disch := omega) only [kup_n, pk_un]; exact k8 s hs
  · intro g hg; simp (disch := omega) only [kup_n, pk_un]; exact k9 g hg
  · rw [kup_n _ _ _ (by omega), pk_un (by omega)]; exact k10
  · rw [kup_n _ _ _ (by omega), pk_un (by omega)]; exact k11
theorem CR_93 {a : Row} {u : Nat} {x : Int32} {M : KMem} (h : CR a u M) (hI : InvB a) : CR (upd a 93 x) u (kup M (u + 1) 12 x) := by
  have h1 := hI.1.1
  have h2 := hI.2.1.1
  have l0 : L0 a (upd a 93 x) := ⟨pk_un (by omega), pk_un (by omega), fun t ht => ⟨pk_un (by omega), pk_un (by omega)⟩, fun i hi => pk_un (by omega)⟩
  obtain ⟨⟨k1, k2, k3, k4, k5, k6⟩, k7, k8, k9, k10, k11⟩ := h
  refine ⟨⟨?_, ?_, ?_, ?_, ?_, ?_⟩, ?_, ?_, ?_, ?_, ?_⟩
  · rw [kup_j _ _ _ (by omega), pk_un (by omega)]; exact k1
  · rw [kup_n _ _ _ (by omega), pk_un (by omega)]; exact k2
  · rw [kup_j _ _ _ (by omega), pk_un (by omega)]; exact k3
  · rw [kup_s, pk_us]
  · rw [kup_j _ _ _ (by omega), pk_un (by omega)]; exact k5
  · rw [kup_j _ _ _ (by omega), pk_un (by omega)]; exact k6
  · rw [l0.n.2]; intro i hi; rw [kup_n _ _ _ (by omega), pk_un (by omega)]; exact k7 i hi
  · rw [l0.n.1]; intro s hs; rw [l0.rt hs]
    simp (disch := omega) only [kup_n, pk_un]; exact k8 s hs
  · intro g hg; simp (disch := omega) only [kup_n, pk_un]; exact k9 g hg
  · rw [kup_n _ _ _ (by omega), pk_un (by omega)]; exact k10
  · rw [kup_n _ _ _ (by omega), pk_un (by omega)]; exact k11
theorem CR_94 {a : Row} {u : Nat} {x : Int32} {M : KMem} (h : CR a u M) (hI : InvB a) : CR (upd a 94 x) u (kup M (u + 1) 13 x) := by
  have h1 := hI.1.1
  have h2 := hI.2.1.1
  have l0 : L0 a (upd a 94 x) := ⟨pk_un (by omega), pk_un (by omega), fun t ht => ⟨pk_un (by omega), pk_un (by omega)⟩, fun i hi => pk_un (by omega)⟩
  obtain ⟨⟨k1, k2, k3, k4, k5, k6⟩, k7, k8, k9, k10, k11⟩ := h
  refine ⟨⟨?_, ?_, ?_, ?_, ?_, ?_⟩, ?_, ?_, ?_, ?_, ?_⟩
  · rw [kup_j _ _ _ (by omega), pk_un (by omega)]; exact k1
  · rw [kup_n _ _ _ (by omega), pk_un (by omega)]; exact k2
  · rw [kup_j _ _ _ (by omega), pk_un (by omega)]; exact k3
  · rw [kup_j _ _ _ (by omega), pk_un (by omega)]; exact k4
  · rw [kup_s, pk_us]
  · rw [kup_j _ _ _ (by omega), pk_un (by omega)]; exact k6
  · rw [l0.n.2]; intro i hi; rw [kup_n _ _ _ (by omega), pk_un (by omega)]; exact k7 i hi
  · rw [l0.n.1]; intro s hs; rw [l0.rt hs]
    simp (disch := omega) only [kup_n, pk_un]; exact k8 s hs
  · intro g hg; simp (disch := omega) only [kup_n, pk_un]; exact k9 g hg
  · rw [kup_n _ _ _ (by omega), pk_un (by omega)]; exact k10
  · rw [kup_n _ _ _ (by omega), pk_un (by omega)]; exact k11
theorem CR_97 {a : Row} {u : Nat} {x : Int32} {M : KMem} (h : CR a u M) (hI : InvB a) : CR (upd a 97 x) u (kup M (u + 1) 14 x) := by
  have h1 := hI.1.1
  have h2 := hI.2.1.1
  have l0 : L0 a (upd a 97 x) := ⟨pk_un (by omega), pk_un (by omega), fun t ht => ⟨pk_un (by omega), pk_un (by omega)⟩, fun i hi => pk_un (by omega)⟩
  obtain ⟨⟨k1, k2, k3, k4, k5, k6⟩, k7, k8, k9, k10, k11⟩ := h
  refine ⟨⟨?_, ?_, ?_, ?_, ?_, ?_⟩, ?_, ?_, ?_, ?_, ?_⟩
  · rw [kup_j _ _ _ (by omega), pk_un (by omega)]; exact k1
  · rw [kup_n _ _ _ (by omega), pk_un (by omega)]; exact k2
  · rw [kup_j _ _ _ (by omega), pk_un (by omega)]; exact k3
  · rw [kup_j _ _ _ (by omega), pk_un (by omega)]; exact k4
  · rw [kup_j _ _ _ (by omega), pk_un (by omega)]; exact k5
  · rw [kup_s, pk_us]
  · rw [l0.n.2]; intro i hi; rw [kup_n _ _ _ (by omega), pk_un (by omega)]; exact k7 i hi
  · rw [l0.n.1]; intro s hs; rw [l0.rt hs]
    simp (disch := omega) only [kup_n, pk_un]; exact k8 s hs
  · intro g hg; simp (disch := omega) only [kup_n, pk_un]; exact k9 g hg
  · rw [kup_n _ _ _ (by omega), pk_un (by omega)]; exact k10
  · rw [kup_n _ _ _ (by omega), pk_un (by omega)]; exact k11
theorem upd_id (a : Row) (i : Nat) : upd a i (a i) = a := by
  funext j
  by_cases h : j = i
  · subst h; rw [pk_us]
  · rw [pk_un h]
theorem tw1 {u : Nat} : twn u (u + 1) := ⟨by omega, by omega⟩
theorem finA_93 {a : Row} (h : Inv a) : ∀ s, s ≤ sN a → finA a s 93 = a 93 := by
  intro s
  induction s with
  | zero => intro _; rfl
  | succ s ih =>
    intro hs
    have := h.1.1.1
    show finS (finA a s) s 93 = _
    rw [finS_93 (by omega)]
    exact ih (by omega)
theorem months_ok {a : Row} {u n : Nat} {M : KMem} (h : CR a u M) (hI : Inv a) (hn : n ≤ 1000) :
    kOk (m_Tw_passMonths u (nI n) M) (fun q => q.1 = monsA a n 95 - a 95 ∧ CR (monsA a n) u q.2 ∧ frS (twn u) M q.2) := by
  unfold m_Tw_passMonths
  rw [allFines_ok h hI.2.2, bS]
  refine kB (fun M' => CR (monsA a n) u M' ∧ frS (twn u) M M') (kFor (fun i q => ∃ M1, q = (nI i, M1) ∧ CR (monsA a i) u M1 ∧ frS (twn u) M M1) n ?_ ?_ (i0 := 0) (by omega) (by omega) ⟨M, rfl, h, frS.rf⟩) ?_
  · rintro i _ hi ⟨M1, rfl, c1, c2⟩
    have hJ := monsA_inv hI i
    have c3 : CR (upd (monsA a i) 92 (monsA a i 92 + 1)) u (kup M1 (u + 1) 11 (M1 (u + 1) 11 + 1)) := by
      rw [c1.1.2.2.1]; exact CR_92 c1 hJ.1
    have hb : Inv (upd (monsA a i) 92 (monsA a i 92 + 1)) := inv_92 hJ
    have hmon : monsA a (i + 1) = monA (monsA a i) := rfl
    unfold monA at hmon
    simp only at hmon
    generalize upd (monsA a i) 92 (monsA a i 92 + 1) = b at *
    obtain ⟨-, x, hx, e93⟩ := hb.2.2.2.2.2
    have e12 : kup M1 (u + 1) 11 (M1 (u + 1) 11 + 1) (u + 1) 12 = nI x := c3.1.2.2.2.1.trans e93
    have hstart : ∀ F, m_Tw_passMonths_l7 u (nI n) (nI i, M1) = some (.inl (nI (i + 1), F)) ↔ (if nI x ≤ 0 then (m_Tw_fineWrongSigns u (kup M1 (u + 1) 11 (M1 (u + 1) 11 + 1))).bind (fun M12 => some M12) else some (kup (kup M1 (u + 1) 11 (M1 (u + 1) 11 + 1)) (u + 1) 12 (nI x - 1))) = some F := fun F => by
      unfold m_Tw_passMonths_l7
      show (if nI n ≤ nI i then _ else _) = _ ↔ _
      rw [if_neg (by rw [nI_leI (by omega) (by omega)]; omega), bS, bS, e12, nI_1]
      generalize (if nI x ≤ 0 then (m_Tw_fineWrongSigns u (kup M1 (u + 1) 11 (M1 (u + 1) 11 + 1))).bind (fun M12 => some M12) else some (kup (kup M1 (u + 1) 11 (M1 (u + 1) 11 + 1)) (u + 1) 12 (nI x - 1))) = o
      cases o with
      | none => exact ⟨fun e => (nomatch e), fun e => (nomatch e)⟩
      | some F' =>
        rw [bS]
        constructor
        · intro e; cases e; rfl
        · intro e; cases e; rfl
    by_cases hx0 : x = 0
    · subst hx0
      obtain ⟨M12, e, d1, d2⟩ := fine_ok c3 hb
      refine Or.inl ⟨(nI (i + 1), M12), (hstart M12).mpr ?_, M12, rfl, ?_, (frS.k c2 tw1).tr d2⟩
      · rw [if_pos (by decide), e, bS]
      · rw [hmon, if_pos (show b 93 = 0 from e93)]
        have hz : finA b (sN b) 93 = 0 := (finA_93 hb _ (Nat.le_refl _)).trans e93
        rw [hz, if_pos (by decide), show (0 : Int32) - 0 = finA b (sN b) 93 from hz.symm, upd_id]
        exact d1
    · refine Or.inl ⟨(nI (i + 1), _), (hstart _).mpr (by rw [if_neg (nI_nle (by omega) (by omega))]), _, rfl, ?_, frS.k (frS.k c2 tw1) tw1⟩
      have hne : ¬ b 93 = 0 := by rw [e93]; exact nI_ne0 (by omega) (by omega)
      rw [hmon, if_neg hne, e93, if_neg (nI_nle (by omega) (by omega))]
      exact CR_93 c3 hb.1
  · rintro _ ⟨M1, rfl, c1, c2⟩
    refine ⟨M1, ?_, c1, c2⟩
    unfold m_Tw_passMonths_l7
    show (if nI n ≤ nI n then _ else _) = _
    rw [if_pos (Int32.le_refl _)]
  · rintro M15 ⟨c1, c2⟩
    rw [allFines_ok c1 (monsA_inv hI n).2.2, bS]
    exact kOk_i ⟨rfl, c1, c2⟩
theorem canForgive_c {a : Row} {u : Nat} {M : KMem} (h : CR a u M) : (cfA a ∧ m_Tw_canForgive u M = some 1) ∨ (¬ cfA a ∧ m_Tw_canForgive u M = some 0) := by
  obtain ⟨⟨k1, k2, k3, k4, k5, k6⟩, -⟩ := h
  unfold m_Tw_canForgive
  rw [k3, k4, k5]
  by_cases c1 : a 93 ≤ 0
  · rw [if_pos c1]
    by_cases c2 : a 94 = -1
    · rw [if_pos c2]; exact Or.inl ⟨⟨c1, Or.inl c2⟩, rfl⟩
    · rw [if_neg c2]
      by_cases c3 : a 92 - a 94 < 12
      · rw [if_pos c3]; exact Or.inr ⟨fun e => e.2.elim c2 (fun z => Int32.not_lt.mpr z c3), rfl⟩
      · rw [if_neg c3]; exact Or.inl ⟨⟨c1, Or.inr (Int32.not_lt.mp c3)⟩, rfl⟩
  · rw [if_neg c1]; exact Or.inr ⟨fun e => c1 e.1, rfl⟩
theorem forgive_ok {a : Row} {u n : Nat} {M : KMem} (h : CR a u M) (hI : Inv a) (hn : n ≤ 9) (hc : cfA a) :
    kOk (m_Tw_forgive u (nI n) M) (fun q => q.1 = wrC (sparesA a (nI n)) (sN (sparesA a (nI n))) ∧ CR (sparesA a (nI n)) u q.2 ∧ frS (twn u) M q.2) := by
  unfold m_Tw_forgive
  rcases canForgive_c h with ⟨h1, h2⟩ | ⟨h1, h2⟩
  · rw [h2, bS, if_neg (by decide), bS, bS]
    have c1 := CR_93 (x := nI n) h hI.1
    have c2 := CR_94 (x := a 92) c1 (inv_93 hI hn).1
    have e : kup M (u + 1) 12 (nI n) (u + 1) 11 = a 92 := by rw [kup_j _ _ _ (by omega)]; exact h.1.2.2.1
    rw [e, wrongSigns_ok c2 (sparesA_inv hI hn).1, bS]
    exact kOk_i ⟨rfl, c2, frS.k (frS.k frS.rf tw1) tw1⟩
  · exact (h1 hc).elim
theorem forgive_no {a : Row} {u : Nat} {p : Int32} {M : KMem} (h : CR a u M) (hc : ¬ cfA a) : m_Tw_forgive u p M = some (-1, M) := by
  unfold m_Tw_forgive
  rcases canForgive_c h with ⟨h1, h2⟩ | ⟨h1, h2⟩
  · exact (hc h1).elim
  · rw [h2, bS, if_pos rfl]
theorem counted_ok {a : Row} {u : Nat} {r : Int32} {M : KMem} (h : CR a u M) (hI : InvB a) :
    kOk (m_Tw_counted u r M) (fun q => q.1 = r ∧ CR (upd a 97 (a 97 + (if r = 0 then 0 else 1))) u q.2 ∧ frS (twn u) M q.2) := by
  unfold m_Tw_counted
  by_cases hr : r = 0
  · rw [if_pos hr, bS, if_pos hr, show a 97 + 0 = a 97 from Int32.add_zero _, upd_id]
    exact kOk_i ⟨rfl, h, frS.rf⟩
  · rw [if_neg hr, bS, bS, if_neg hr, h.1.2.2.2.2.2]
    exact kOk_i ⟨rfl, CR_97 h hI, frS.k frS.rf tw1⟩
