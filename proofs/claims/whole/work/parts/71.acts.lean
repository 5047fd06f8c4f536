/-! LAYER 2: undo, the save slots, the text buffer -/
theorem CS.R {a b : Row} {H : Nat → Row} {k : Nat} {S : Nat → Row} {kp len : Nat} {T : Nat → Nat} {M : KMem} (h : CS a H k S kp len T M) (hi : ∀ i, i < 108 → b i = a i) : CS b H k S kp len T M :=
  h.le (LE.of h.1.1.1.1 h.1.1.2.1.1 hi)
theorem pub_undo {M : KMem} (h : GI M) : Pub M [eS] (m_SR_undo 0 M) (m_Mo_undo 235) := by
  have h' := h
  obtain ⟨H, k, S, kp, len, T, hc, hm⟩ := h'
  obtain ⟨hI, hcr, ⟨o, hmr⟩, hsl, hct⟩ := hc
  have hk := hmr.k
  have e39 : M 39 2 = nI k := hmr.2.1
  by_cases hk0 : k = 0
  · refine pub_no h eS 0 rfl ?_ ?_
    · unfold m_SR_undo
      show (if M 39 2 = 0 then _ else _) = _
      rw [if_pos (by rw [e39, hk0]; rfl)]
    · unfold m_Mo_undo
      rw [hm.1, if_pos (by rw [hk0]; decide), bS, show m_Mo_holds 235 1 M = _ from Mholds_n (by decide) M, bS]
      rfl
  · have hcls : kOk (m_SR_undo 0 M) (fun q => q.1 = .inr (nI (k - 1)) ∧ CS (H (k - 1)) H (k - 1) S kp len T q.2 ∧ frS clO M q.2) := by
      unfold m_SR_undo
      show kOk (if M 39 2 = 0 then _ else _) _
      rw [if_neg (by rw [e39]; exact nI_ne0 (by omega) (by omega))]
      refine kB _ (Cback_ok hmr (by omega)) ?_
      rintro M3 ⟨b1, b2, b3, b4⟩
      refine kOk_i ⟨?_, ⟨(hmr.2.2.2.2 (k - 1) (by omega)).1, b3, ⟨o, b1⟩, hsl.fr (b4 42 (by omega)) (fun p p1 p2 => b4 p (by omega)), hct.fr (congrFun (b4 1 (by omega)) 1) (b4 2 (by omega))⟩, b4.wk (fun p hp => by omega)⟩
      show Sum.inr (M3 39 2) = _
      rw [b2]
    obtain ⟨⟨r, M1⟩, e1, r1, r2, r3⟩ := hcls
    simp only at r1 r2 r3
    subst r1
    refine pub_yes e1 r3 r2 (fun M1 r3 => ?_)
    obtain ⟨a1, a2, a3, a4, a5, a6⟩ := hm.cl r3
    unfold m_Mo_undo
    rw [a1, if_neg (nI_nle (by omega) (by omega)), bS, Mholds_0, bS]
    show kOk (if (1 : Int32) = 0 then _ else _) _
    rw [if_neg u10, bS]
    have e4 : kup M1 235 0 0 235 4 = nI k := by rw [kup_j _ _ _ (by omega)]; exact a1
    rw [e4, nI_s1 (by omega)]
    refine kB _ (Mundo_loop (k := k - 1) (by omega) (kup_s _ _ _ _)) ?_
    rintro M16 ⟨g1, g2⟩
    have F : frS (fun o => o = 235 ∨ o = 236) M1 M16 := (frS.k (frS.up (Or.inl rfl)) (Or.inl rfl)).tr (g2.wk (fun o ho => Or.inr ho))
    have e5 : ∀ j, M16 235 j = kup (kup M1 235 0 0) 235 4 (nI (k - 1)) 235 j := fun j => by rw [g2 235 (by omega)]
    have hh : ∀ j, hst (kup (kup M1 235 0 0) 235 4 (nI (k - 1))) j = hst M1 j := fun j => by
      unfold hst
      rw [kup_n _ _ _ (by omega), kup_n _ _ _ (by omega)]
    have hIk := (hmr.2.2.2.2 (k - 1) (by omega)).1
    refine kOk_i ⟨?_, ?_, ?_, F.wk (fun o ho => by omega), ?_, fun j hj i hi => ?_, ?_, fun s hs hb i hi => ?_, ?_, fun i hi => ?_⟩
    · show M16 235 4 = _
      rw [e5, kup_s]
    · show M16 235 0 = _
      rw [e5, kup_j _ _ _ (by omega), kup_s]
    · refine LE.of hIk.1.1.1 hIk.1.2.1.1 (fun i hi => (g1 i hi).trans ?_)
      rw [hh]
      exact a2 (k - 1) (by omega) i hi
    · show M16 235 4 = _
      rw [e5, kup_s]
    · show M16 238 _ = _
      rw [F 238 (by omega)]
      exact a2 j (by omega) i hi
    · show M16 235 6 = _
      rw [e5, kup_j _ _ _ (by omega), kup_j _ _ _ (by omega)]; exact a3
    · show M16 239 _ = _
      rw [F 239 (by omega)]
      exact a4 s hs hb i hi
    · show M16 235 8 = _
      rw [e5, kup_j _ _ _ (by omega), kup_j _ _ _ (by omega)]; exact a5
    · show M16 240 _ = _
      rw [F 240 (by omega)]
      exact a6 i hi
theorem tb_or : ∀ kp, kp < 4 → ∀ s, s < 2 → ∀ t, t < 2 → (kp ||| 2 ^ s).testBit t = (kp.testBit t || decide (t = s)) := by decide
theorem tb_lt : ∀ kp, kp < 4 → ∀ s, s < 2 → kp ||| 2 ^ s < 4 := by decide
theorem tb_set : ∀ kp, kp < 4 → ∀ s, s < 2 → (nI kp ||| jshl 1 (nI s)) = nI (kp ||| 2 ^ s) := by decide +kernel
theorem tb_get : ∀ kp, kp < 4 → ∀ s, s < 2 → decide ((jshr (nI kp) (nI s) &&& 1) = 0) = !kp.testBit s := by decide +kernel
theorem wrZ1 {M : KMem} {o s : Nat} (hs : s < 2) : wrZ M o 2 (nI s) 1 = some (kup M o s 1) := by
  unfold wrZ
  rw [if_neg (nI_in hs (by omega)), nI_clamp (by omega)]
  rfl
theorem reqSlot_y {j : Nat} (hj : j < 2) : m_SR_requireSlot (nI j) = some none := by
  unfold m_SR_requireSlot
  rw [if_neg (nI_pos (by omega)), if_pos (show nI j < 2 from (nI_ltI (b := 2) (by omega) (by omega)).mpr hj)]
theorem reqSlot_n {p : Int32} (h : p < 0 ∨ nI 1 < p) : m_SR_requireSlot p = some (some eI) := by
  unfold m_SR_requireSlot
  by_cases c0 : p < 0
  · rw [if_pos c0]
  · rw [if_neg c0, if_neg]
    intro c4
    obtain ⟨j, hj, rfl⟩ := nI_of c0
    have c3 := h.elim (fun z => (c0 z).elim) id
    rw [nI_ltI (by omega) (by omega)] at c3
    rw [show (2 : Int32) = nI 2 from rfl, nI_ltI (by omega) (by omega)] at c4
    omega
def setS (S : Nat → Row) (s : Nat) (a : Row) : Nat → Row := fun j => if j = s then a else S j
theorem pub_save {M : KMem} (h : GI M) (p0 : Int32) : Pub M [eI] (m_SR_save 0 p0 M) (m_Mo_save 235 p0) := by
  have h' := h
  obtain ⟨H, k, S, kp, len, T, hc, hm⟩ := h'
  obtain ⟨hI, hcr, ⟨o, hmr⟩, hsl, hct⟩ := hc
  have hkp := hsl.1
  rcases in_c p0 (lo := 0) (hi := 1) (by omega) (by omega) with ⟨s, s1, s2, rfl, e⟩ | ⟨g1, e⟩
  · have hs : s < 2 := by omega
    have hcls : kOk (m_SR_save 0 (nI s) M) (fun q => q.1 = .inr (M 236 92) ∧ CS (M 236) H k (setS S s (M 236)) (kp ||| 2 ^ s) len T q.2 ∧ frS clO M q.2) := by
      unfold m_SR_save
      rw [reqSlot_y hs, bS]
      show kOk (Option.bind (m_Me_fillSlot 39 (nI s) 4 M) _) _
      refine kB (fun M5 => CS (M 236) H k (setS S s (M 236)) (kp ||| 2 ^ s) len T M5 ∧ frS clO M M5) ?_ ?_
      · unfold m_Me_fillSlot
        rw [if_neg (nI_pos (by omega)), if_pos (show nI s < 2 from (nI_ltI (b := 2) (by omega) (by omega)).mpr hs), ckN hs (by omega), bS, show 39 + (172 + 12 * s) = 210 + 12 * s + 1 by omega]
        refine kB _ (copy_ok (d := 210 + 12 * s) (p := 3) (by omega)) ?_
        rintro M7 ⟨b1, b2⟩
        show kOk (Option.bind (wrZ M7 42 2 (nI s) 1) _) _
        rw [wrZ1 hs, bS]
        have F : frS (fun p => p = 42 ∨ (211 + 12 * s ≤ p ∧ p ≤ 222 + 12 * s)) M (kup M7 42 s 1) := frS.k (b2.wk (fun p (hp : 210 + 12 * s + 1 ≤ p ∧ p ≤ 210 + 12 * s + 12) => Or.inr ⟨by omega, by omega⟩)) (Or.inl rfl)
        have f7 : frS (fun p => p = 42) M7 (kup M7 42 s 1) := frS.up rfl
        refine kOk_i ⟨⟨hI, hcr.fr F (fun p hp => by omega), ⟨o, hmr.fr (by rw [F 39 (by omega)]) (by rw [F 39 (by omega)]) (fun p p1 p2 => F p (by omega))⟩, ⟨tb_lt kp hkp s hs, fun t ht => ?_⟩, hct.fr (congrFun (F 1 (by omega)) 1) (F 2 (by omega))⟩, F.wk (fun p hp => by omega)⟩
        rw [tb_or kp hkp s hs t ht]
        unfold setS
        by_cases hts : t = s
        · subst hts
          rw [if_pos rfl]
          refine ⟨by rw [kup_s]; simp, fun _ => ⟨hI, (b1 (M 236) hI.1 hcr).fr f7 (fun p hp => by omega)⟩⟩
        · rw [if_neg hts]
          obtain ⟨c1, c2⟩ := hsl.2 t ht
          refine ⟨by rw [kup_j _ _ _ hts, b2 42 (by omega), c1]; simp [hts], fun hb => ?_⟩
          obtain ⟨d1, d2⟩ := c2 (by simpa [hts] using hb)
          exact ⟨d1, d2.fr F (fun p hp => by omega)⟩
      · rintro M5 ⟨b1, b2⟩
        refine kOk_i ⟨?_, b1, b2⟩
        show Sum.inr (M5 4 11) = _
        rw [show M5 4 11 = M 236 92 from b1.2.1.1.2.2.1]
    obtain ⟨⟨r, M1⟩, e1, r1, r2, r3⟩ := hcls
    simp only at r1 r2 r3
    subst r1
    refine pub_yes e1 r3 r2 (fun M1 r3 => ?_)
    obtain ⟨a1, a2, a3, a4, a5, a6⟩ := hm.cl r3
    unfold m_Mo_save
    rw [show m_Mo_in (nI s) 0 1 = some 1 from e, bS, if_neg u10, bS, Mholds_0, bS]
    show kOk (if (1 : Int32) = 0 then _ else _) _
    rw [if_neg u10]
    refine kB _ (Msave_loop hs) ?_
    rintro M16 ⟨g1, g2, g3⟩
    have e5 : ∀ j, M16 235 j = kup M1 235 0 0 235 j := fun j => by rw [g3 235 (by omega)]
    have e6 : M16 236 = M 236 := by rw [g3 236 (by omega), kup_n _ _ _ (by omega)]; exact r3 236 (by omega)
    have e66 : M16 235 6 = nI kp := by rw [e5, kup_j _ _ _ (by omega)]; exact a3
    rw [bS, e66, tb_set kp hkp s hs, show ∀ X : KMem, rdI X (235 + 1) 108 92 = some (X 236 92) from fun X => r92, bS]
    refine kOk_i ?_
    show kup M16 235 6 (nI (kp ||| 2 ^ s)) 236 92 = M 236 92 ∧ kup M16 235 6 (nI (kp ||| 2 ^ s)) 235 0 = 0 ∧ LE (M 236) (kup M16 235 6 (nI (kp ||| 2 ^ s)) 236) ∧ frS moO M1 (kup M16 235 6 (nI (kp ||| 2 ^ s))) ∧ MS H k (setS S s (M 236)) (kp ||| 2 ^ s) len T (kup M16 235 6 (nI (kp ||| 2 ^ s)))
    have F : frS moO M1 M16 := (frS.up (S := moO) ⟨by omega, by omega⟩).tr (g3.wk (fun o ho => by omega))
    refine ⟨?_, ?_, ?_, frS.k F ⟨by omega, by omega⟩, ?_, fun j hj i hi => ?_, ?_, fun t ht hb i hi => ?_, ?_, fun i hi => ?_⟩
    · rw [kup_n _ _ _ (by omega), e6]
    · rw [kup_j _ _ _ (by omega), e5, kup_s]
    · rw [kup_n _ _ _ (by omega), e6]; exact LE.rf
    · rw [kup_j _ _ _ (by omega), e5, kup_j _ _ _ (by omega)]; exact a1
    · show kup M16 235 6 _ 238 _ = _
      rw [kup_n _ _ _ (by omega), g3 238 (by omega), kup_n _ _ _ (by omega)]
      exact a2 j hj i hi
    · rw [kup_s]
    · rw [tb_or kp hkp s hs t ht] at hb
      show kup M16 235 6 _ 239 _ = _
      rw [kup_n _ _ _ (by omega)]
      unfold setS
      by_cases hts : t = s
      · subst hts
        rw [if_pos rfl]
        refine (g1 i hi).trans ?_
        rw [kup_n _ _ _ (by omega), r3 236 (by omega)]
      · rw [if_neg hts]
        refine (g2 t hts ht i hi).trans ?_
        have := a4 t ht (by simpa [hts] using hb) i hi
        unfold slt at this ⊢
        rw [kup_n _ _ _ (by omega)]
        exact this
    · rw [kup_j _ _ _ (by omega), e5, kup_j _ _ _ (by omega)]; exact a5
    · rw [kup_n _ _ _ (by omega), g3 240 (by omega), kup_n _ _ _ (by omega)]
      exact a6 i hi
  · refine pub_no h eI 0 rfl ?_ ?_
    · unfold m_SR_save
      rw [reqSlot_n g1]
      rfl
    · unfold m_Mo_save
      rw [show m_Mo_in p0 0 1 = some 0 from e, bS, if_pos rfl, bS, show m_Mo_holds 235 1 M = _ from Mholds_n (by decide) M, bS]
      rfl
theorem filled_ok {S : Nat → Row} {kp s : Nat} {M : KMem} (h : CSl S kp M) (hs : s < 2) : m_Me_isFilled 39 (nI s) M = some (if kp.testBit s = true then 1 else 0) := by
  unfold m_Me_isFilled
  rw [if_neg (nI_pos (by omega)), if_neg (by rw [show (2 : Int32) = nI 2 from rfl, nI_leI (by omega) (by omega)]; omega)]
  show Option.bind (Option.bind (rdI M 42 2 (nI s)) _) _ = _
  rw [rdN hs (by omega), bS, (h.2 s hs).1]
  by_cases hb : kp.testBit s = true
  · rw [if_pos hb, if_neg u10]; rfl
  · rw [if_neg hb, if_pos rfl]; rfl
theorem pub_restore {M : KMem} (h : GI M) (p0 : Int32) : Pub M [eI, eS] (m_SR_restore 0 p0 M) (m_Mo_restore 235 p0) := by
  have h' := h
  obtain ⟨H, k, S, kp, len, T, hc, hm⟩ := h'
  obtain ⟨hI, hcr, ⟨o, hmr⟩, hsl, hct⟩ := hc
  have hkp := hsl.1
  rcases in_c p0 (lo := 0) (hi := 1) (by omega) (by omega) with ⟨s, s1, s2, rfl, e⟩ | ⟨g1, e⟩
  · have hs : s < 2 := by omega
    have hfil := filled_ok hsl hs
    have hget := tb_get kp hkp s hs
    by_cases hb : kp.testBit s = true
    · rw [if_pos hb] at hfil
      obtain ⟨hIs, hcs⟩ := (hsl.2 s hs).2 hb
      have hcls : kOk (m_SR_restore 0 (nI s) M) (fun q => q.1 = .inr (S s 92) ∧ CS (S s) H 0 S kp len T q.2 ∧ frS clO M q.2) := by
        unfold m_SR_restore
        rw [reqSlot_y hs, bS]
        show kOk (Option.bind (m_Me_isFilled 39 (nI s) M) _) _
        rw [hfil, bS, if_neg u10]
        show kOk (Option.bind (m_Me_copySlot 39 (nI s) 4 M) _) _
        refine kB (fun M8 => CR (S s) 3 M8 ∧ frS (stO 3) M M8) ?_ ?_
        · unfold m_Me_copySlot
          rw [hfil, bS, if_neg u10, ckN hs (by omega), bS, show 39 + (172 + 12 * s) = 210 + 12 * s + 1 by omega]
          refine kB _ (copy_ok (d := 3) (p := 210 + 12 * s) (by omega)) ?_
          rintro M7 ⟨b1, b2⟩
          exact kOk_i ⟨b1 _ hIs.1 hcs, b2⟩
        · rintro M8 ⟨b1, b2⟩
          unfold m_Me_forgetStates
          rw [bS, bS]
          have F : frS (fun p => p = 39 ∨ (4 ≤ p ∧ p ≤ 15)) M (kup M8 39 2 0) := frS.k (b2.wk (fun p (hp : 3 + 1 ≤ p ∧ p ≤ 3 + 12) => Or.inr ⟨by omega, by omega⟩)) (Or.inl rfl)
          have c8 : CR (S s) 3 (kup M8 39 2 0) := b1.fr (frS.up (S := fun p => p = 39) rfl) (fun p hp => by omega)
          refine kOk_i ⟨?_, ⟨hIs, c8, ⟨o, ?_, ?_, hmr.2.2.1, by omega, fun j hj => by omega⟩, hsl.fr (F 42 (by omega)) (fun p p1 p2 => F p (by omega)), hct.fr (congrFun (F 1 (by omega)) 1) (F 2 (by omega))⟩, F.wk (fun p hp => by omega)⟩
          · show Sum.inr (kup M8 39 2 0 4 11) = _
            rw [show kup M8 39 2 0 4 11 = S s 92 from c8.1.2.2.1]
          · show kup M8 39 2 0 39 1 = _
            rw [kup_j _ _ _ (by omega), b2 39 (by omega)]; exact hmr.1
          · show kup M8 39 2 0 39 2 = _
            rw [kup_s]; rfl
      obtain ⟨⟨r, M1⟩, e1, r1, r2, r3⟩ := hcls
      simp only at r1 r2 r3
      subst r1
      refine pub_yes e1 r3 r2 (fun M1 r3 => ?_)
      obtain ⟨a1, a2, a3, a4, a5, a6⟩ := hm.cl r3
      unfold m_Mo_restore
      rw [show m_Mo_in (nI s) 0 1 = some 1 from e, bS, if_neg u10, a3, if_neg (by
        rw [hb] at hget
        exact of_decide_eq_false hget), bS, Mholds_0, bS]
      show kOk (if (1 : Int32) = 0 then _ else _) _
      rw [if_neg u10]
      refine kB _ (Mrest_loop hs) ?_
      rintro M16 ⟨g1, g2⟩
      have e5 : ∀ j, M16 235 j = kup M1 235 0 0 235 j := fun j => by rw [g2 235 (by omega)]
      rw [bS, show ∀ X : KMem, rdI X (235 + 1) 108 92 = some (X 236 92) from fun X => r92, bS]
      have er : ∀ i, i < 108 → M16 236 i = S s i := fun i hi => by
        rw [g1 i hi, ← a4 s hs hb i hi]
        unfold slt
        rw [kup_n _ _ _ (by omega)]
      refine kOk_i ?_
      show kup M16 235 4 0 236 92 = S s 92 ∧ kup M16 235 4 0 235 0 = 0 ∧ LE (S s) (kup M16 235 4 0 236) ∧ frS moO M1 (kup M16 235 4 0) ∧ MS H 0 S kp len T (kup M16 235 4 0)
      have F : frS moO M1 M16 := (frS.up (S := moO) ⟨by omega, by omega⟩).tr (g2.wk (fun o ho => by omega))
      refine ⟨?_, ?_, ?_, frS.k F ⟨by omega, by omega⟩, ?_, fun j hj i hi => by omega, ?_, fun t ht hbt i hi => ?_, ?_, fun i hi => ?_⟩
      · rw [kup_n _ _ _ (by omega), er 92 (by omega)]
      · rw [kup_j _ _ _ (by omega), e5, kup_s]
      · rw [kup_n _ _ _ (by omega)]
        exact LE.of hIs.1.1.1 hIs.1.2.1.1 er
      · rw [kup_s]; rfl
      · rw [kup_j _ _ _ (by omega), e5, kup_j _ _ _ (by omega)]; exact a3
      · show kup M16 235 4 _ 239 _ = _
        rw [kup_n _ _ _ (by omega), g2 239 (by omega), kup_n _ _ _ (by omega)]
        exact a4 t ht hbt i hi
      · rw [kup_j _ _ _ (by omega), e5, kup_j _ _ _ (by omega)]; exact a5
      · rw [kup_n _ _ _ (by omega), g2 240 (by omega), kup_n _ _ _ (by omega)]
        exact a6 i hi
    · rw [if_neg hb] at hfil
      refine pub_no h eS 1 rfl ?_ ?_
      · unfold m_SR_restore
        rw [reqSlot_y hs, bS]
        show Option.bind (m_Me_isFilled 39 (nI s) M) _ = _
        rw [hfil, bS, if_pos rfl]
      · unfold m_Mo_restore
        rw [show m_Mo_in (nI s) 0 1 = some 1 from e, bS, if_neg u10, hm.2.2.1, if_pos (by
          have hb' : kp.testBit s = false := by simpa using hb
          rw [hb'] at hget
          exact of_decide_eq_true hget), bS, show m_Mo_holds 235 2 M = _ from Mholds_n (by decide) M, bS]
        rfl
  · refine pub_no h eI 0 rfl ?_ ?_
    · unfold m_SR_restore
      rw [reqSlot_n g1]
      rfl
    · unfold m_Mo_restore
      rw [show m_Mo_in p0 0 1 = some 0 from e, bS, if_pos rfl, bS, show m_Mo_holds 235 1 M = _ from Mholds_n (by decide) M, bS]
      rfl
