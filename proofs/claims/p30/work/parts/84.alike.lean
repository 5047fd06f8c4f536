/-! P30: two objects that show the same row answer alike -/
abbrev scs : Nat → Prop := fun o => scr (0 + 3) o ∨ scr (235 + 3) o
theorem sc0 {M M' : KMem} (h : frS (scr (0 + 3)) M M') : frS scs M M' := h.wk (fun o ho => Or.inl ho)
theorem sc2 {M M' : KMem} (h : frS (scr (235 + 3)) M M') : frS scs M M' := h.wk (fun o ho => Or.inr ho)
def Two (a : Row) (M : KMem) : Prop := (∃ H k, GO 0 a H k M) ∧ ∃ H k, GO 235 a H k M
theorem Two.sc {a : Row} {M M' : KMem} (h : Two a M) (hf : frS scs M M') : Two a M' := by
  obtain ⟨⟨H, k, h1⟩, H', k', h2⟩ := h
  exact ⟨⟨H, k, h1.fr hf (fun o ho => by omega)⟩, H', k', h2.fr hf (fun o ho => by omega)⟩
theorem two_about {a : Row} {j : Nat} {M : KMem} (h : Two a M) (hj : j ≤ 11) : ∃ M1 M2, m_Sn_about 0 (nI j) M = some (abV a j, M1) ∧ m_Sn_about 235 (nI j) M1 = some (abV a j, M2) ∧ frS scs M M1 ∧ frS scs M M2 := by
  obtain ⟨⟨H, k, h1⟩, -⟩ := id h
  obtain ⟨⟨x, M1⟩, e1, f1, g1⟩ := q_about h1 hj
  simp only at f1 g1
  subst f1
  obtain ⟨-, H', k', h2⟩ := h.sc (sc0 g1)
  obtain ⟨⟨x, M2⟩, e2, f2, g2⟩ := q_about h2 hj
  simp only at f2 g2
  subst f2
  exact ⟨M1, M2, e1, e2, sc0 g1, (sc0 g1).tr (sc2 g2)⟩
theorem two_sign {a : Row} {s j : Nat} {M : KMem} (h : Two a M) (hs : s < sN a) (hj : j ≤ 7) : ∃ M1 M2, m_Sn_signOf 0 (nI s) (nI j) M = some (sgV a s j, M1) ∧ m_Sn_signOf 235 (nI s) (nI j) M1 = some (sgV a s j, M2) ∧ frS scs M M2 := by
  obtain ⟨⟨H, k, h1⟩, -⟩ := id h
  obtain ⟨⟨x, M1⟩, e1, f1, g1⟩ := q_signOf h1 hs hj
  simp only at f1 g1
  subst f1
  obtain ⟨-, H', k', h2⟩ := h.sc (sc0 g1)
  obtain ⟨⟨x, M2⟩, e2, f2, g2⟩ := q_signOf h2 hs hj
  simp only at f2 g2
  subst f2
  exact ⟨M1, M2, e1, e2, (sc0 g1).tr (sc2 g2)⟩
theorem alike_ok {a : Row} {M : KMem} (h : Two a M) : kOk (m_La_areAlike 0 235 M) (fun q => q.1 = 1 ∧ frS scs M q.2) := by
  have hI : Inv a := by obtain ⟨⟨H, k, h1⟩, -⟩ := h; exact h1.1
  have h8 := hI.1.1.1
  have h10 := hI.1.2.1.1
  have a0 : abV a 0 = nI (sN a) := hI.1.1.2
  have a1 : abV a 1 = nI (dN a) := hI.1.2.1.2
  unfold m_La_areAlike
  obtain ⟨⟨H, k, h1⟩, H', k', h2⟩ := id h
  rw [show m_Sn_setting 0 0 M = _ from q_setting (j := 0) h1 (by omega), bS, show m_Sn_setting 235 0 M = _ from q_setting (j := 0) h2 (by omega), bS, if_pos rfl, show m_Sn_setting 0 1 M = _ from q_setting (j := 1) h1 (by omega), bS, show m_Sn_setting 235 1 M = _ from q_setting (j := 1) h2 (by omega), bS, if_pos rfl, bS]
  refine kB (fun q => q.1 = 1 ∧ frS scs M q.2) (kFor (fun i s => ∃ M1, s = (1, nI i, M1) ∧ frS scs M M1) 12 ?_ ?_ (i0 := 0) (by omega) (by omega) ⟨M, rfl, frS.rf⟩) ?_
  · rintro i _ hi ⟨M1, rfl, f1⟩
    obtain ⟨M2, M3, e1, e2, g1, g2⟩ := two_about (j := i) (h.sc f1) (by omega)
    refine Or.inl ⟨(1, nI (i + 1), M3), ?_, M3, rfl, f1.tr g2⟩
    unfold m_La_areAlike_l34
    show (if 12 ≤ nI i then _ else Option.bind (if (1 : Int32) = 0 then _ else Option.bind (m_Sn_about 0 (nI i) M1) _) _) = _
    rw [if_neg (by rw [show (12 : Int32) = nI 12 from rfl, nI_leI (by omega) (by omega)]; omega), if_neg u10, e1, bS]
    show Option.bind (Option.bind (m_Sn_about 235 (nI i) M2) _) _ = _
    rw [e2, bS]
    show Option.bind (if abV a i = abV a i then _ else _) _ = _
    rw [if_pos rfl, bS, nI_1]
  · rintro _ ⟨M1, rfl, f1⟩
    exact ⟨(1, M1), rfl, rfl, f1⟩
  rintro ⟨x, M1⟩ ⟨f0, f1⟩
  simp only at f0 f1
  subst f0
  refine kB (fun q => q.1 = 1 ∧ frS scs M q.2) (kFor (fun i s => ∃ M2, s = (1, nI i, M2) ∧ frS scs M M2) (8 * sN a) ?_ ?_ (i0 := 0) (by omega) (by omega) ⟨M1, rfl, f1⟩) ?_
  · rintro i _ hi ⟨M2, rfl, f2⟩
    obtain ⟨M3, -, e1, -, g1, -⟩ := two_about (j := 0) (h.sc f2) (by omega)
    obtain ⟨M4, M5, e3, e4, g2⟩ := two_sign (s := i / 8) (j := i % 8) ((h.sc f2).sc g1) (by omega) (by omega)
    refine Or.inl ⟨(1, nI (i + 1), M5), ?_, M5, rfl, (f2.tr g1).tr g2⟩
    have d1 : nI i / 8 = nI (i / 8) := pk_div (d := 8) (by omega) (by omega) (by omega)
    have d2 : jrem (nI i) 8 = nI (i % 8) := remN (d := 8) (by omega) (by omega) (by omega)
    unfold m_La_areAlike_l71
    show Option.bind (m_Sn_about 0 (nI 0) M2) _ = _
    rw [e1, bS]
    show (if 8 * abV a 0 ≤ nI i then _ else Option.bind (if (1 : Int32) = 0 then _ else Option.bind (m_Sn_signOf 0 (nI i / 8) (jrem (nI i) 8) M3) _) _) = _
    rw [a0, show (8 : Int32) * nI (sN a) = nI (8 * sN a) from pk_mul 8 _, if_neg (by rw [nI_leI (by omega) (by omega)]; omega), if_neg u10, d1, d2, e3, bS]
    show Option.bind (Option.bind (m_Sn_signOf 235 (nI (i / 8)) (nI (i % 8)) M4) _) _ = _
    rw [e4, bS]
    show Option.bind (if sgV a (i / 8) (i % 8) = sgV a (i / 8) (i % 8) then _ else _) _ = _
    rw [if_pos rfl, bS, nI_1]
  · rintro _ ⟨M2, rfl, f2⟩
    obtain ⟨M3, -, e1, -, g1, -⟩ := two_about (j := 0) (h.sc f2) (by omega)
    refine ⟨(1, M3), ?_, rfl, f2.tr g1⟩
    unfold m_La_areAlike_l71
    show Option.bind (m_Sn_about 0 (nI 0) M2) _ = _
    rw [e1, bS]
    show (if 8 * abV a 0 ≤ nI (8 * sN a) then _ else _) = _
    rw [a0, show (8 : Int32) * nI (sN a) = nI (8 * sN a) from pk_mul 8 _, if_pos (Int32.le_refl _)]
  rintro ⟨x, M2⟩ ⟨f0, f2⟩
  simp only at f0 f2
  subst f0
  refine kB (fun q => q.1 = 1 ∧ frS scs M q.2) (kFor (fun i s => ∃ M3, s = (1, nI i, M3) ∧ frS scs M M3) (5 * dN a) ?_ ?_ (i0 := 0) (by omega) (by omega) ⟨M2, rfl, f2⟩) ?_
  · rintro i _ hi ⟨M3, rfl, f3⟩
    obtain ⟨M4, -, e1, -, g1, -⟩ := two_about (j := 1) (h.sc f3) (by omega)
    obtain ⟨⟨H4, k4, h4⟩, H5, k5, h5⟩ := (h.sc f3).sc g1
    have d1 : nI i / 5 = nI (i / 5) := pk_div (d := 5) (by omega) (by omega) (by omega)
    have d2 : jrem (nI i) 5 = nI (i % 5) := remN (d := 5) (by omega) (by omega) (by omega)
    refine Or.inl ⟨(1, nI (i + 1), M4), ?_, M4, rfl, f3.tr g1⟩
    unfold m_La_areAlike_l128
    show Option.bind (m_Sn_about 0 (nI 1) M3) _ = _
    rw [e1, bS]
    show (if 5 * abV a 1 ≤ nI i then _ else Option.bind (if (1 : Int32) = 0 then _ else Option.bind (m_Sn_decreeOf 0 (nI i / 5) (jrem (nI i) 5) M4) _) _) = _
    rw [a1, show (5 : Int32) * nI (dN a) = nI (5 * dN a) from pk_mul 5 _, if_neg (by rw [nI_leI (by omega) (by omega)]; omega), if_neg u10, d1, d2, q_decreeOf h4 (by omega) (by omega), bS, q_decreeOf h5 (by omega) (by omega), bS, if_pos rfl, bS, nI_1]
  · rintro _ ⟨M3, rfl, f3⟩
    obtain ⟨M4, -, e1, -, g1, -⟩ := two_about (j := 1) (h.sc f3) (by omega)
    refine ⟨(1, M4), ?_, rfl, f3.tr g1⟩
    unfold m_La_areAlike_l128
    show Option.bind (m_Sn_about 0 (nI 1) M3) _ = _
    rw [e1, bS]
    show (if 5 * abV a 1 ≤ nI (5 * dN a) then _ else _) = _
    rw [a1, show (5 : Int32) * nI (dN a) = nI (5 * dN a) from pk_mul 5 _, if_pos (Int32.le_refl _)]
  rintro ⟨x, M3⟩ ⟨f0, f3⟩
  simp only at f0 f3
  subst f0
  obtain ⟨⟨H4, k4, h4⟩, H5, k5, h5⟩ := h.sc f3
  refine kB (fun r => r = 1) (kFor (fun i s => s = (1, nI i)) 16 ?_ ?_ (i0 := 0) (by omega) (by omega) rfl) ?_
  · rintro i _ hi rfl
    have d1 : nI i / 4 = nI (i / 4) := pk_div (d := 4) (by omega) (by omega) (by omega)
    have d2 : jrem (nI i) 4 = nI (i % 4) := remN (d := 4) (by omega) (by omega) (by omega)
    refine Or.inl ⟨(1, nI (i + 1)), ?_, rfl⟩
    unfold m_La_areAlike_l180
    show (if 16 ≤ nI i then _ else Option.bind (if (1 : Int32) = 0 then _ else Option.bind (m_Sn_guildOf 0 (nI i / 4) (jrem (nI i) 4) M3) _) _) = _
    rw [if_neg (by rw [show (16 : Int32) = nI 16 from rfl, nI_leI (by omega) (by omega)]; omega), if_neg u10, d1, d2, q_guildOf h4 (by omega) (by omega), bS, q_guildOf h5 (by omega) (by omega), bS, if_pos rfl, bS, nI_1]
  · rintro _ rfl
    exact ⟨1, rfl, rfl⟩
  · rintro r rfl
    rw [kz_1, bS]
    exact kOk_i ⟨rfl, f3⟩
