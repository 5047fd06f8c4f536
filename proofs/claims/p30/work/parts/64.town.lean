/-! LAYER 2: the class's town and the model's row -/
/-- the State at u + 1 (as the town at u has it) shows the row a -/
def CR (a : Row) (u : Nat) (M : KMem) : Prop :=
  (M (u + 1) 1 = a 0 ∧ M (u + 2) 0 = a 41 ∧ M (u + 1) 11 = a 92 ∧ M (u + 1) 12 = a 93 ∧ M (u + 1) 13 = a 94 ∧ M (u + 1) 14 = a 97) ∧
  (∀ i, i < 5 * dN a → M (u + 3) i = a (42 + i)) ∧
  (∀ s, s < sN a → M (u + 4) s = a (5 * s + 1) ∧ M (u + 5) s = a (5 * s + 2) ∧ M (u + 6) s = a (5 * s + 3) ∧ M (u + 7) s = rtA a s ∧ M (u + 8) s = a (5 * s + 4) ∧ M (u + 9) s = a (5 * s + 5)) ∧
  (∀ g, g < 4 → M (u + 10) g = a (98 + g) ∧ M (u + 11) g = a (102 + g)) ∧ M (u + 12) 0 = a 106 ∧ M (u + 12) 1 = a 107
theorem CR.fr {a : Row} {u : Nat} {M M' : KMem} {S : Nat → Prop} (h : CR a u M) (hf : frS S M M') (hS : ∀ o, S o → o ≤ u ∨ u + 12 < o) : CR a u M' := by
  have e : ∀ j, 1 ≤ j → j ≤ 12 → M' (u + j) = M (u + j) := fun j h1 h2 => hf _ (fun hs => by have := hS _ hs; omega)
  obtain ⟨h1, h2, h3, h4, h5⟩ := h
  unfold CR
  rw [e 1 (by omega) (by omega), e 2 (by omega) (by omega), e 3 (by omega) (by omega), e 4 (by omega) (by omega), e 5 (by omega) (by omega), e 6 (by omega) (by omega), e 7 (by omega) (by omega), e 8 (by omega) (by omega), e 9 (by omega) (by omega), e 10 (by omega) (by omega), e 11 (by omega) (by omega), e 12 (by omega) (by omega)]
  exact ⟨h1, h2, h3, h4, h5⟩
theorem CR.le {a b : Row} {u : Nat} {M : KMem} (h : CR a u M) (hl : LE a b) : CR b u M := by
  obtain ⟨⟨h1, h2, h3, h4, h5, h6⟩, h7, h8, h9, h10, h11⟩ := h
  have e := hl.2.2.2.2
  refine ⟨⟨h1.trans hl.1.symm, h2.trans hl.2.1.symm, h3.trans (e _ (by omega) (by omega)).symm, h4.trans (e _ (by omega) (by omega)).symm, h5.trans (e _ (by omega) (by omega)).symm, h6.trans (e _ (by omega) (by omega)).symm⟩, ?_, ?_, ?_, h10.trans (e _ (by omega) (by omega)).symm, h11.trans (e _ (by omega) (by omega)).symm⟩
  · rw [hl.n.2]
    intro i hi
    exact (h7 i hi).trans (hl.2.2.2.1 i hi).symm
  · rw [hl.n.1]
    intro s hs
    obtain ⟨k1, k2, k3, k4, k5, k6⟩ := h8 s hs
    exact ⟨k1.trans (hl.sg (j := 0) hs (by omega)).symm, k2.trans (hl.sg (j := 1) hs (by omega)).symm, k3.trans (hl.sg (j := 2) hs (by omega)).symm, k4.trans (hl.rt hs).symm, k5.trans (hl.sg (j := 3) hs (by omega)).symm, k6.trans (hl.sg (j := 4) hs (by omega)).symm⟩
  · intro g hg
    exact ⟨(h9 g hg).1.trans (e _ (by omega) (by omega)).symm, (h9 g hg).2.trans (e _ (by omega) (by omega)).symm⟩
/-- the scratch of the town at u -/
abbrev scr (u : Nat) : Nat → Prop := fun o => o = u + 14 ∨ o = u + 16 ∨ o = u + 17
/-- all of the town at u -/
abbrev twn (u : Nat) : Nat → Prop := fun o => u + 1 ≤ o ∧ o ≤ u + 17
theorem CR.sc {a : Row} {u : Nat} {M M' : KMem} (h : CR a u M) (hf : frS (scr u) M M') : CR a u M' := h.fr hf (fun o ho => by omega)
theorem scr_twn {u : Nat} {M M' : KMem} (hf : frS (scr u) M M') : frS (twn u) M M' := hf.wk (fun o ho => by constructor <;> omega)
theorem hasSign_c {u n : Nat} {M : KMem} (p : Int32) (h : M (u + 1) 1 = nI n) (hn : n ≤ 8) : (∃ s, s < n ∧ p = nI s ∧ m_Tw_hasSign u p M = some 1) ∨ ((p < 0 ∨ nI n ≤ p) ∧ m_Tw_hasSign u p M = some 0) := by
  unfold m_Tw_hasSign
  rw [h]
  rcases pk_ix p (n := n) (by omega) with c | c | ⟨j, hj, rfl⟩
  · rw [if_pos c]; exact Or.inr ⟨Or.inl c, rfl⟩
  · by_cases c0 : p < 0
    · rw [if_pos c0]; exact Or.inr ⟨Or.inl c0, rfl⟩
    · rw [if_neg c0, if_pos c]; exact Or.inr ⟨Or.inr c, rfl⟩
  · rw [if_neg (nI_pos (by omega)), if_neg (by rw [nI_leI (by omega) (by omega)]; omega), if_neg (by rw [nI_8n (by omega)]; exact id)]
    exact Or.inl ⟨j, hj, rfl, rfl⟩
theorem hasSign_y {u n s : Nat} {M : KMem} (h : M (u + 1) 1 = nI n) (hn : n ≤ 8) (hs : s < n) : m_Tw_hasSign u (nI s) M = some 1 := by
  rcases hasSign_c (nI s) h hn with ⟨s', -, -, e⟩ | ⟨e1, -⟩
  · exact e
  · exfalso
    rcases e1 with e | e
    · exact nI_pos (by omega) e
    · rw [nI_leI (by omega) (by omega)] at e; omega
theorem hasSign_n {u n s : Nat} {M : KMem} (h : M (u + 1) 1 = nI n) (hn : n ≤ 8) (hs : n ≤ s) (hs2 : s < 2 ^ 31) : m_Tw_hasSign u (nI s) M = some 0 := by
  rcases hasSign_c (nI s) h hn with ⟨s', h1, h2, e⟩ | ⟨-, e⟩
  · rw [nI_eq (by omega) (by omega)] at h2; omega
  · exact e
theorem nI_8F {i : Nat} (h : i < 8) : ((8 : Int32) ≤ nI i) = False := nI_8n h
theorem CR.n {a : Row} {u : Nat} {M : KMem} (h : CR a u M) (hI : InvB a) : M (u + 1) 1 = nI (sN a) := h.1.1.trans hI.1.2
theorem CR.d {a : Row} {u : Nat} {M : KMem} (h : CR a u M) (hI : InvB a) : M (u + 2) 0 = nI (dN a) := h.1.2.1.trans hI.2.1.2
theorem isWrong_ok {a : Row} {u s : Nat} {M : KMem} (h : CR a u M) (hI : InvB a) (hs : s < sN a) : m_Tw_isWrong u (nI s) M = some (if a (5 * s + 3) = rtA a s then 0 else 1) := by
  have h8 := hI.1.1
  obtain ⟨k1, k2, k3, k4, k5, k6⟩ := h.2.2.1 s hs
  unfold m_Tw_isWrong
  rw [hasSign_y (h.n hI) h8 hs, bS, if_neg (by decide), rdN (by omega) (by omega), bS, rdN (by omega) (by omega), bS, bI, kz_i, bS, k3, k4]
theorem wrongSigns_ok {a : Row} {u : Nat} {M : KMem} (h : CR a u M) (hI : InvB a) : m_Tw_wrongSigns u M = some (wrC a (sN a)) := by
  have h8 := hI.1.1
  refine kEx ?_
  unfold m_Tw_wrongSigns
  refine kB (fun r => r = wrC a (sN a)) (kFor (fun s q => q = (wrC a s, nI s)) (sN a) ?_ ?_ (i0 := 0) (by omega) (by omega) rfl) (fun x hx => kOk_i hx)
  · rintro s _ hs rfl
    refine Or.inl ⟨_, ?_, rfl⟩
    unfold m_Tw_wrongSigns_l4
    show (if 8 ≤ nI s then _ else _) = _
    rw [if_neg (by rw [nI_8F (by omega)]; exact id), hasSign_y (h.n hI) h8 hs, bS, if_neg (by decide), isWrong_ok h hI hs, bS, bI, nI_1]
    simp only [i10, wrC]
  · rintro _ rfl
    refine ⟨_, ?_, rfl⟩
    unfold m_Tw_wrongSigns_l4
    show (if 8 ≤ nI (sN a) then _ else _) = _
    split
    · rfl
    · rw [hasSign_n (h.n hI) h8 (Nat.le_refl _) (by omega), bS, if_pos rfl]
theorem lettersWrong_ok {a : Row} {u s : Nat} {M : KMem} (h : CR a u M) (hI : InvB a) (hs : s < sN a) : kOk (m_Tw_lettersWrong u (nI s) M) (fun q => q.1 = nI (apA a s) ∧ frS (scr u) M q.2) := by
  have h8 := hI.1.1
  obtain ⟨k1, k2, k3, k4, k5, k6⟩ := h.2.2.1 s hs
  unfold m_Tw_lettersWrong
  rw [hasSign_y (h.n hI) h8 hs, bS, if_neg (by decide), rdN (by omega) (by omega), bS, rdN (by omega) (by omega), bS, k3, k4]
  refine kB _ (measured_w (hI.2.2.2 s hs).2.2 (rt_vW hI hs)) ?_
  rintro ⟨x, M1⟩ ⟨h1, h2⟩
  exact kOk_i ⟨h1, h2.wk (fun o ho => Or.inl ho)⟩
theorem costOf_ok {a : Row} {u s : Nat} {M : KMem} (h : CR a u M) (hI : InvB a) (hs : s < sN a) : kOk (m_Tw_costOf u (nI s) M) (fun q => q.1 = coA a s ∧ frS (scr u) M q.2) := by
  unfold m_Tw_costOf
  refine kB _ (lettersWrong_ok h hI hs) ?_
  rintro ⟨x, M1⟩ ⟨h1, h2⟩
  simp only at h1 h2
  have h3 := h.sc h2
  subst h1
  show kOk ((rdI M1 (u + 12) 2 0).bind _) _
  rw [show rdI M1 (u + 12) 2 0 = some (M1 (u + 12) 0) from rdN (j := 0) (by omega) (by omega), bS, h3.2.2.2.2.1]
  exact kOk_i ⟨Int32.mul_comm _ _, h2⟩
/-- why what is planned would be refused -/
theorem plan_ok {b : Row} {u n : Nat} {M : KMem} (h0 : M (u + 1) 1 = nI n) (hn : n ≤ 8) (hb : sN b = n) (hp : ∀ s, s < n → M (u + 4) s = b (5 * s + 1) ∧ M (u + 17) s = rtA b s) : m_Tw_reasonAgainstPlan u M = some (hind b) := by
  subst hb
  refine kEx ?_
  unfold m_Tw_reasonAgainstPlan
  refine kB (fun r => (r = .inl 1 ∧ hE b) ∨ (r = .inr () ∧ ¬ hE b)) (kFor (fun s q => q = nI s ∧ ∀ t, t < s → rtA b t ≠ 0) (sN b) ?_ ?_ (i0 := 0) (by omega) (by omega) ⟨rfl, fun t ht => by omega⟩) ?_
  · rintro s _ hs ⟨rfl, h1⟩
    have e1 : rdI M (u + 17) 8 (nI s) = some (rtA b s) := by rw [rdN (by omega) (by omega), (hp s hs).2]
    unfold m_Tw_reasonAgainstPlan_l2
    simp only [nI_8F (i := s) (by omega), if_false]
    rw [hasSign_y h0 hn hs, bS, if_neg (by decide), e1, bS]
    by_cases hz : rtA b s = 0
    · rw [if_pos hz]
      exact Or.inr ⟨.inl 1, rfl, Or.inl ⟨rfl, s, hs, hz⟩⟩
    · rw [if_neg hz, nI_1]
      refine Or.inl ⟨_, rfl, rfl, fun t ht => ?_⟩
      by_cases hts : t = s
      · subst hts; exact hz
      · exact h1 t (by omega)
  · rintro _ ⟨rfl, h1⟩
    refine ⟨.inr (), ?_, Or.inr ⟨rfl, fun ⟨s, hs, e⟩ => h1 s hs e⟩⟩
    unfold m_Tw_reasonAgainstPlan_l2
    show (if 8 ≤ nI (sN b) then _ else _) = _
    split
    · rfl
    · rw [hasSign_n h0 hn (Nat.le_refl _) (by omega), bS, if_pos rfl]
  · rintro r (⟨rfl, hE1⟩ | ⟨rfl, hE0⟩)
    · exact kOk_i (hind_1 hE1).symm
    · refine kB (fun r => (r = .inl 2 ∧ hS b) ∨ (r = .inr () ∧ ¬ hS b)) (kFor (fun s q => q = nI s ∧ ∀ t, t < s → ∀ o, o < t → b (5 * o + 1) = b (5 * t + 1) → rtA b o ≠ rtA b t) (sN b) ?_ ?_ (i0 := 0) (by omega) (by omega) ⟨rfl, fun t ht => by omega⟩) ?_
      · rintro s _ hs ⟨rfl, h1⟩
        have key : kOk (kLp (m_Tw_reasonAgainstPlan_l51 u M (nI s)) kFU 0) (fun r => (r = .inl 2 ∧ hS b) ∨ (r = .inr () ∧ ∀ o, o < s → b (5 * o + 1) = b (5 * s + 1) → rtA b o ≠ rtA b s)) := by
          refine kFor (fun o q => q = nI o ∧ ∀ o', o' < o → b (5 * o' + 1) = b (5 * s + 1) → rtA b o' ≠ rtA b s) s ?_ ?_ (i0 := 0) (by omega) (by omega) ⟨rfl, fun t ht => by omega⟩
          · rintro o _ ho ⟨rfl, h2⟩
            have f1 : ∀ t, t < sN b → rdI M (u + 4) 8 (nI t) = some (b (5 * t + 1)) := fun t ht => by rw [rdN (by omega) (by omega), (hp t ht).1]
            have f2 : ∀ t, t < sN b → rdI M (u + 17) 8 (nI t) = some (rtA b t) := fun t ht => by rw [rdN (by omega) (by omega), (hp t ht).2]
            unfold m_Tw_reasonAgainstPlan_l51
            simp only [nI_leF (a := s) (b := o) (by omega) (by omega) ho, if_false]
            rw [f1 s hs, bS, f1 o (by omega), bS, f2 s hs, bS, f2 o (by omega), bS]
            by_cases c1 : b (5 * s + 1) = b (5 * o + 1)
            · rw [if_pos c1]
              by_cases c2 : rtA b s = rtA b o
              · rw [if_pos c2]
                exact Or.inr ⟨.inl 2, rfl, Or.inl ⟨rfl, s, hs, o, ho, c1.symm, c2.symm⟩⟩
              · rw [if_neg c2, nI_1]
                refine Or.inl ⟨_, rfl, rfl, fun o' ho' e1 e2 => ?_⟩
                by_cases hoo : o' = o
                · subst hoo; exact c2 e2.symm
                · exact h2 o' (by omega) e1 e2
            · rw [if_neg c1, nI_1]
              refine Or.inl ⟨_, rfl, rfl, fun o' ho' e1 e2 => ?_⟩
              by_cases hoo : o' = o
              · subst hoo; exact c1 e1.symm
              · exact h2 o' (by omega) e1 e2
          · rintro _ ⟨rfl, h2⟩
            refine ⟨.inr (), ?_, Or.inr ⟨rfl, h2⟩⟩
            unfold m_Tw_reasonAgainstPlan_l51
            show (if nI s ≤ nI s then _ else _) = _
            rw [if_pos (Int32.le_refl _)]
        obtain ⟨r, e, hr⟩ := key
        unfold m_Tw_reasonAgainstPlan_l35
        simp only [nI_8F (i := s) (by omega), if_false]
        rw [hasSign_y h0 hn hs, bS, if_neg (by decide), e, bS]
        rcases hr with ⟨rfl, h2⟩ | ⟨rfl, h2⟩
        · exact Or.inr ⟨.inl 2, rfl, Or.inl ⟨rfl, h2⟩⟩
        · refine Or.inl ⟨nI (s + 1), by rw [← nI_1], rfl, fun t ht o ho e1 => ?_⟩
          by_cases hts : t = s
          · subst hts; exact h2 o ho e1
          · exact h1 t (by omega) o ho e1
      · rintro _ ⟨rfl, h1⟩
        refine ⟨.inr (), ?_, Or.inr ⟨rfl, fun ⟨s, hs, t, ht, e1, e2⟩ => h1 s hs t ht e1 e2⟩⟩
        unfold m_Tw_reasonAgainstPlan_l35
        show (if 8 ≤ nI (sN b) then _ else _) = _
        split
        · rfl
        · rw [hasSign_n h0 hn (Nat.le_refl _) (by omega), bS, if_pos rfl]
      · rintro r (⟨rfl, hS1⟩ | ⟨rfl, hS0⟩)
        · exact kOk_i (hind_2 hE0 hS1).symm
        · exact kOk_i (hind_0 hE0 hS0).symm
theorem mkRow (a : Row) (n : Nat) (P : Nat → Int32) : ∃ b : Row, b 0 = nI n ∧ b 41 = nI 0 ∧ (∀ s, s < 8 → b (5 * s + 1) = a (5 * s + 1)) ∧ ∀ s, s < 8 → b (5 * s + 2) = P s := by
  refine ⟨fun i => if i = 0 then nI n else if i = 41 then nI 0 else if i % 5 = 2 then P ((i - 2) / 5) else a i, ?_, ?_, fun s hs => ?_, fun s hs => ?_⟩
  · exact if_pos rfl
  · show (if 41 = 0 then _ else if 41 = 41 then _ else _) = _
    rw [if_neg (by omega), if_pos rfl]
  · show (if 5 * s + 1 = 0 then _ else if 5 * s + 1 = 41 then _ else if (5 * s + 1) % 5 = 2 then _ else _) = _
    rw [if_neg (by omega), if_neg (by omega), if_neg (by omega)]
  · show (if 5 * s + 2 = 0 then _ else if 5 * s + 2 = 41 then _ else if (5 * s + 2) % 5 = 2 then _ else _) = _
    rw [if_neg (by omega), if_neg (by omega), if_pos (by omega), show (5 * s + 2 - 2) / 5 = s by omega]
/-- the reason against a decree -/
theorem against_ok {a : Row} {u : Nat} {k x y z : Int32} {M : KMem} (h : CR a u M) (hI : InvB a) (hd : okD k x y z) :
    kOk (m_Tw_reasonAgainstDecree u k x y z M) (fun q => (∀ b : Row, sN b = sN a → (∀ s, s < sN a → b (5 * s + 1) = a (5 * s + 1) ∧ rtA b s = dz k x y z (rtA a s)) → q.1 = hind b) ∧ (∀ s, s < sN a → q.2 (u + 17) s = dz k x y z (rtA a s)) ∧ frS (fun o => o = u + 17) M q.2) := by
  have h8 := hI.1.1
  unfold m_Tw_reasonAgainstDecree
  refine kB (fun M' => (∀ s, s < sN a → M' (u + 17) s = dz k x y z (rtA a s)) ∧ frS (fun o => o = u + 17) M M') (kFor (fun s q => ∃ M1, q = (nI s, M1) ∧ (∀ t, t < s → M1 (u + 17) t = dz k x y z (rtA a t)) ∧ frS (fun o => o = u + 17) M M1) (sN a) ?_ ?_ (i0 := 0) (by omega) (by omega) ⟨M, rfl, fun t ht => by omega, frS.rf⟩) ?_
  · rintro s _ hs ⟨M1, rfl, g1, g2⟩
    have h1 : CR a u M1 := h.fr g2 (fun o ho => by omega)
    obtain ⟨k1, k2, k3, k4, k5, k6⟩ := h1.2.2.1 s hs
    refine Or.inl ⟨(nI (s + 1), kup M1 (u + 17) s (dz k x y z (rtA a s))), ?_, _, rfl, fun t ht => ?_, frS.k g2 rfl⟩
    · unfold m_Tw_reasonAgainstDecree_l3
      show (if 8 ≤ nI s then _ else _) = _
      rw [if_neg (by rw [nI_8F (by omega)]; exact id), hasSign_y (h1.n hI) h8 hs, bS, if_neg (by decide), rdN (by omega) (by omega), bS, k4, (decreed_w hd (rt_vW hI hs)).1, bS, wrN (by omega) (by omega), bS, nI_1]
    · by_cases hts : t = s
      · subst hts; rw [kup_s]
      · rw [kup_j _ _ _ hts]; exact g1 t (by omega)
  · rintro _ ⟨M1, rfl, g1, g2⟩
    have h1 : CR a u M1 := h.fr g2 (fun o ho => by omega)
    refine ⟨M1, ?_, g1, g2⟩
    unfold m_Tw_reasonAgainstDecree_l3
    show (if 8 ≤ nI (sN a) then _ else _) = _
    split
    · rfl
    · rw [hasSign_n (h1.n hI) h8 (Nat.le_refl _) (by omega), bS, if_pos rfl]
  · rintro M13 ⟨g1, g2⟩
    have h1 : CR a u M13 := h.fr g2 (fun o ho => by omega)
    have hex : ∃ r, m_Tw_reasonAgainstPlan u M13 = some r ∧ ∀ b : Row, sN b = sN a → (∀ s, s < sN a → b (5 * s + 1) = a (5 * s + 1) ∧ rtA b s = dz k x y z (rtA a s)) → r = hind b := by
      by_cases hb : ∃ b : Row, sN b = sN a ∧ (∀ s, s < sN a → b (5 * s + 1) = a (5 * s + 1) ∧ rtA b s = dz k x y z (rtA a s))
      · obtain ⟨b, hb1, hb2⟩ := hb
        refine ⟨_, plan_ok (b := b) (h1.n hI) h8 hb1 (fun s hs => ⟨((h1.2.2.1 s hs).1).trans (hb2 s hs).1.symm, (g1 s hs).trans (hb2 s hs).2.symm⟩), fun c hc1 hc2 => ?_⟩
        have p1 := plan_ok (b := b) (h1.n hI) h8 hb1 (fun s hs => ⟨((h1.2.2.1 s hs).1).trans (hb2 s hs).1.symm, (g1 s hs).trans (hb2 s hs).2.symm⟩)
        have p2 := plan_ok (b := c) (h1.n hI) h8 hc1 (fun s hs => ⟨((h1.2.2.1 s hs).1).trans (hc2 s hs).1.symm, (g1 s hs).trans (hc2 s hs).2.symm⟩)
        rw [p1] at p2
        exact Option.some.inj p2
      · exfalso
        obtain ⟨b, b0, b41, b1, b2⟩ := mkRow a (sN a) (fun s => dz k x y z (rtA a s))
        refine hb ⟨b, sN_of b0 (by omega), fun s hs => ⟨b1 s (by omega), ?_⟩⟩
        unfold rtA
        rw [dN_of b41 (by omega), b2 s (by omega)]
        rfl
    obtain ⟨r, e, hr⟩ := hex
    rw [e, bS]
    exact kOk_i ⟨hr, g1, g2⟩
theorem cpN {M : KMem} {o0 n0 o1 n1 sp dp n : Nat} (h0 : sp + n ≤ n0) (h1 : dp + n ≤ n1) (hb : n0 < 2 ^ 30 ∧ n1 < 2 ^ 30) : cpI M o0 n0 o1 n1 (nI sp) (nI dp) (nI n) = some (cpM M o0 o1 sp dp n) := by
  unfold cpI
  rw [nI_clamp (by omega), nI_clamp (by omega), nI_clamp (by omega), if_neg]
  rintro (h | h | h | h | h)
  · exact nI_pos (by omega) h
  · exact nI_pos (by omega) h
  · exact nI_pos (by omega) h
  · omega
  · omega
theorem cpM_fr {M : KMem} {o0 o1 sp dp n : Nat} {S : Nat → Prop} (h : S o1) : frS S M (cpM M o0 o1 sp dp n) := fun o ho => by
  unfold cpM
  rw [if_neg (fun e => ho (by rw [e]; exact h))]
theorem cpM_in {M : KMem} {o0 o1 sp dp n j : Nat} (h1 : dp ≤ j) (h2 : j < dp + n) : cpM M o0 o1 sp dp n o1 j = M o0 (sp + (j - dp)) := by
  unfold cpM
  rw [if_pos rfl, pk_cpy_in h1 h2]
theorem cpM_out {M : KMem} {o0 o1 sp dp n j : Nat} (h1 : j < dp ∨ dp + n ≤ j) : cpM M o0 o1 sp dp n o1 j = M o1 j := by
  unfold cpM
  rw [if_pos rfl, pk_cpy_out h1]
theorem areFull_ok {d n : Nat} {M : KMem} (h : M d 0 = nI n) (hn : n ≤ 10) : m_De_areFull d M = some (if n = 10 then 1 else 0) := by
  unfold m_De_areFull
  rw [h]
  by_cases h10 : n = 10
  · rw [if_neg (by rw [show (10 : Int32) = nI 10 from rfl, nI_ltI (by omega) (by omega)]; omega), if_pos h10]; rfl
  · rw [if_pos (by rw [show (10 : Int32) = nI 10 from rfl, nI_ltI (by omega) (by omega)]; omega), if_neg h10]; rfl
theorem add_ok {d n : Nat} {k x y z w : Int32} {M : KMem} (h : M d 0 = nI n) (hn : n < 10) :
    kOk (m_De_add d k x y z w M) (fun M' => M' d 0 = nI (n + 1) ∧ (∀ j, j ≠ 0 → M' d j = M d j) ∧ (∀ i, i < 5 * n → M' (d + 1) i = M (d + 1) i) ∧ (M' (d + 1) (5 * n) = k ∧ M' (d + 1) (5 * n + 1) = x ∧ M' (d + 1) (5 * n + 2) = y ∧ M' (d + 1) (5 * n + 3) = z ∧ M' (d + 1) (5 * n + 4) = w) ∧ frS (fun o => o = d ∨ o = d + 1) M M') := by
  have e5 : nI n * 5 = nI (5 * n) := by rw [show nI n * 5 = nI (n * 5) from pk_mul n 5, Nat.mul_comm]
  have q : ∀ j, j < 5 → nI (5 * n) + nI j = nI (5 * n + j) := fun j _ => nI_add _ _
  unfold m_De_add
  rw [areFull_ok h (by omega), if_neg (by omega), bS, if_pos rfl, h, e5, wrN (by omega) (by omega), bS, show nI (5 * n) + 1 = nI (5 * n + 1) from q 1 (by omega), wrN (by omega) (by omega), bS, show nI (5 * n) + 2 = nI (5 * n + 2) from q 2 (by omega), wrN (by omega) (by omega), bS, show nI (5 * n) + 3 = nI (5 * n + 3) from q 3 (by omega), wrN (by omega) (by omega), bS, show nI (5 * n) + 4 = nI (5 * n + 4) from q 4 (by omega), wrN (by omega) (by omega), bS, bS]
  refine kOk_i ⟨?_, fun j hj => ?_, fun i hi => ?_, ?_, frS.k (frS.k (frS.k (frS.k (frS.k (frS.k frS.rf (Or.inr rfl)) (Or.inr rfl)) (Or.inr rfl)) (Or.inr rfl)) (Or.inr rfl)) (Or.inl rfl)⟩
  · rw [kup_s, kup_n _ _ _ (by omega), kup_n _ _ _ (by omega), kup_n _ _ _ (by omega), kup_n _ _ _ (by omega), kup_n _ _ _ (by omega), h, nI_1]
  · rw [kup_j _ _ _ hj, kup_n _ _ _ (by omega), kup_n _ _ _ (by omega), kup_n _ _ _ (by omega), kup_n _ _ _ (by omega), kup_n _ _ _ (by omega)]
  · rw [kup_n _ _ _ (by omega), kup_j _ _ _ (by omega), kup_j _ _ _ (by omega), kup_j _ _ _ (by omega), kup_j _ _ _ (by omega), kup_j _ _ _ (by omega)]
  · have hd : d + 1 ≠ d := by omega
    refine ⟨?_, ?_, ?_, ?_, ?_⟩ <;> rw [kup_n _ _ _ hd] <;> simp (disch := omega) only [kup_fn, pk_un, pk_us]
/-- a decree is given -/
theorem give_ok {a : Row} {u : Nat} {k x y z : Int32} {M : KMem} (h : CR a u M) (hI : InvB a) (hd : okD k x y z) (hm : dN a < 10) :
    kOk (m_Tw_giveDecree u k x y z M) (fun q => q.1 = hind (givesB a k x y z) ∧ CR (givesA a k x y z) u q.2 ∧ frS (twn u) M q.2) := by
  have h8 := hI.1.1
  unfold m_Tw_giveDecree
  rw [areFull_ok (h.d hI) (by omega), if_neg (by omega), bS, if_pos rfl]
  refine kB _ (against_ok h hI hd) ?_
  rintro ⟨r, M6⟩ ⟨g1, g2, g3⟩
  obtain ⟨n1, n2⟩ := givesB_n (k := k) (x := x) (y := y) (z := z) h8 hI.2.1.1
  have hr := g1 (givesB a k x y z) n1 (fun s hs => ⟨givesB_out (by omega) (by omega), givesB_rt h8 hI.2.1.1 hs⟩)
  simp only at hr g2 g3
  have h6 : CR a u M6 := h.fr g3 (fun o ho => by omega)
  subst hr
  show kOk ((if hind (givesB a k x y z) = 0 then _ else some M6).bind _) _
  by_cases hz : hind (givesB a k x y z) = 0
  · rw [if_pos hz, givesA_y hz]
    refine kB (fun M' => CR (givesB a k x y z) u M' ∧ frS (twn u) M M') ?_ (fun M' hM' => kOk_i ⟨rfl, hM'⟩)
    refine kB _ (add_ok (h6.d hI) hm) ?_
    rintro M11 ⟨q1, q2, q3, q4, q5⟩
    rw [show cpI M11 (u + 17) 8 (u + 7) 8 0 0 8 = some (cpM M11 (u + 17) (u + 7) 0 0 8) from cpN (sp := 0) (dp := 0) (n := 8) (by omega) (by omega) (by omega), bS]
    have e : ∀ o, o ≠ u + 7 → cpM M11 (u + 17) (u + 7) 0 0 8 o = M11 o := fun o ho => cpM_fr (S := fun o => o = u + 7) rfl o ho
    have e2 : ∀ o, o ≠ u + 2 → o ≠ u + 3 → M11 o = M6 o := fun o h1 h2 => q5 o (by omega)
    obtain ⟨⟨k1, k2, k3, k4, k5, k6⟩, k7, k8, k9, k10, k11⟩ := h6
    have out : ∀ i, 92 ≤ i → givesB a k x y z i = a i := fun i hi => givesB_out (by omega) (by omega)
    refine kOk_i ⟨⟨⟨?_, ?_, ?_, ?_, ?_, ?_⟩, ?_, ?_, ?_, ?_, ?_⟩, ?_⟩
    · rw [e _ (by omega), e2 _ (by omega) (by omega), givesB_out (by omega) (by omega)]; exact k1
    · rw [e _ (by omega), givesB_41]; exact q1
    · rw [e _ (by omega), e2 _ (by omega) (by omega), out _ (by omega)]; exact k3
    · rw [e _ (by omega), e2 _ (by omega) (by omega), out _ (by omega)]; exact k4
    · rw [e _ (by omega), e2 _ (by omega) (by omega), out _ (by omega)]; exact k5
    · rw [e _ (by omega), e2 _ (by omega) (by omega), out _ (by omega)]; exact k6
    · rw [n2]
      intro i hi
      rw [e _ (by omega)]
      by_cases hi2 : i < 5 * dN a
      · rw [givesB_out (by omega) (by omega), ← k7 i hi2]; exact q3 i hi2
      · obtain ⟨j0, j1, j2, j3, j4⟩ := givesB_j a k x y z
        obtain ⟨p0, p1, p2, p3, p4⟩ := q4
        have hi3 : i = 5 * dN a ∨ i = 5 * dN a + 1 ∨ i = 5 * dN a + 2 ∨ i = 5 * dN a + 3 ∨ i = 5 * dN a + 4 := by omega
        rcases hi3 with rfl | rfl | rfl | rfl | rfl
        · rw [j0]; exact p0
        · rw [← Nat.add_assoc, j1]; exact p1
        · rw [← Nat.add_assoc, j2]; exact p2
        · rw [← Nat.add_assoc, j3]; exact p3
        · rw [← Nat.add_assoc, j4]; exact p4.trans k3
    · rw [n1]
      intro s hs
      obtain ⟨l1, l2, l3, l4, l5, l6⟩ := k8 s hs
      refine ⟨?_, ?_, ?_, ?_, ?_, ?_⟩
      · rw [e _ (by omega), e2 _ (by omega) (by omega), givesB_out (by omega) (by omega)]; exact l1
      · rw [e _ (by omega), e2 _ (by omega) (by omega), givesB_out (by omega) (by omega)]; exact l2
      · rw [e _ (by omega), e2 _ (by omega) (by omega), givesB_out (by omega) (by omega)]; exact l3
      · rw [cpM_in (by omega) (by omega), givesB_rt h8 hI.2.1.1 hs, e2 _ (by omega) (by omega), show 0 + (s - 0) = s by omega]; exact g2 s hs
      · rw [e _ (by omega), e2 _ (by omega) (by omega), givesB_out (by omega) (by omega)]; exact l5
      · rw [e _ (by omega), e2 _ (by omega) (by omega), givesB_out (by omega) (by omega)]; exact l6
    · intro g hg
      rw [e _ (by omega), e _ (by omega), e2 _ (by omega) (by omega), e2 _ (by omega) (by omega), out _ (by omega), out _ (by omega)]
      exact k9 g hg
    · rw [e _ (by omega), e2 _ (by omega) (by omega), out _ (by omega)]; exact k10
    · rw [e _ (by omega), e2 _ (by omega) (by omega), out _ (by omega)]; exact k11
    · exact ((g3.wk (fun o (ho : o = u + 17) => ⟨by omega, by omega⟩)).tr (q5.wk (fun o (ho : o = u + 2 ∨ o = u + 2 + 1) => ⟨by omega, by omega⟩))).tr (cpM_fr (show u + 1 ≤ u + 7 ∧ u + 7 ≤ u + 17 from ⟨by omega, by omega⟩))
  · rw [if_neg hz, bS]
    exact kOk_i ⟨rfl, h6.le (givesA_n hI hm hz), g3.wk (fun o (ho : o = u + 17) => ⟨by omega, by omega⟩)⟩
