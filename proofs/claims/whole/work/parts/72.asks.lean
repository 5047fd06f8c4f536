/-! LAYER 2: questions, class and model alike -/
abbrev moQ : Nat → Prop := fun o => o = 235 ∨ o = 236 ∨ o = 241 ∨ o = 242 ∨ o = 243
theorem MS.q {H : Nat → Row} {k : Nat} {S : Nat → Row} {kp len : Nat} {T : Nat → Nat} {M M' : KMem} (h : MS H k S kp len T M) (hf : frS moQ M M') (hj : ∀ j, j = 4 ∨ j = 6 ∨ j = 8 → M' 235 j = M 235 j) : MS H k S kp len T M' := by
  obtain ⟨a1, a2, a3, a4, a5, a6⟩ := h
  unfold MS hst slt
  rw [hj 4 (Or.inl rfl), hj 6 (Or.inr (Or.inl rfl)), hj 8 (Or.inr (Or.inr rfl)), hf 238 (by omega), hf 239 (by omega), hf 240 (by omega)]
  exact ⟨a1, a2, a3, a4, a5, a6⟩
theorem pub_q {M : KMem} {xs : List String} {oc : Option ((String ⊕ Int32) × KMem)} {om : KMem → Option (Int32 × KMem)} {v : Int32} (h : GI M) (hoc : kOk oc (fun q => q.1 = .inr v ∧ frS (scr 3) M q.2))
    (hom : ∀ M1, M1 236 = M 236 → kOk (om M1) (fun q => q.1 = v ∧ q.2 235 0 = 0 ∧ LE (M 236) (q.2 236) ∧ frS moQ M1 q.2 ∧ ∀ j, j = 4 ∨ j = 6 ∨ j = 8 → q.2 235 j = M1 235 j)) : Pub M xs oc om := by
  obtain ⟨H, k, S, kp, len, T, hc, hm⟩ := h
  obtain ⟨⟨r, M1⟩, e1, r1, r2⟩ := hoc
  simp only at r1 r2
  subst r1
  have hf : frS clO M M1 := r2.wk (fun o ho => by omega)
  refine pub_yes e1 hf (hc.fr (r2.wk (fun o ho => by omega)) (congrFun (r2 1 (by omega)) 1)) (fun M1 hf => kWk _ (hom M1 (hf 236 (by omega))) ?_)
  rintro ⟨b, M2⟩ ⟨q1, q2, q3, q4, q5⟩
  exact ⟨q1, q2, q3, q4.wk (fun o ho => by omega), (hm.cl hf).q q4 q5⟩
/-- a question that the model answers by reading -/
theorem pub_r {M : KMem} {xs : List String} {oc : Option ((String ⊕ Int32) × KMem)} {om : KMem → Option (Int32 × KMem)} {v : Int32} (h : GI M) (hoc : kOk oc (fun q => q.1 = .inr v ∧ frS (scr 3) M q.2))
    (F : KMem → Option (Int32 × KMem)) (hom : ∀ M1, M1 236 = M 236 → om M1 = F (kup M1 235 0 0)) (hF : ∀ M7, M7 236 = M 236 → kOk (F M7) (fun q => q.1 = v ∧ frS (fun o => o = 241) M7 q.2)) : Pub M xs oc om := by
  refine pub_q h hoc (fun M1 e => ?_)
  have e7 : (kup M1 235 0 0) 236 = M 236 := by rw [kup_n _ _ _ (by omega)]; exact e
  rw [hom M1 e]
  refine kWk _ (hF _ e7) ?_
  rintro ⟨b, M2⟩ ⟨q1, q2⟩
  simp only at q2
  refine ⟨q1, ?_, ?_, (frS.up (Or.inl rfl)).tr (q2.wk (fun o ho => Or.inr (Or.inr (Or.inl ho)))), fun j hj => ?_⟩
  · show M2 235 0 = 0
    rw [q2 235 (by omega), kup_s]
  · show LE _ (M2 236)
    rw [q2 236 (by omega), e7]
    exact LE.rf
  · show M2 235 j = _
    rw [q2 235 (by omega), kup_j _ _ _ (by omega)]
theorem CR.n3 {M : KMem} (h : CR (M 236) 3 M) (hI : InvB (M 236)) : M 4 1 = nI (sN (M 236)) := h.n hI
theorem reqSign_c {M : KMem} (h : GI M) (p : Int32) : (∃ s, s < sN (M 236) ∧ p = nI s ∧ m_SR_requireSign 0 p M = some none ∧ m_Mo_isSign 235 p M = some 1 ∧ m_Tw_hasSign 3 p M = some 1) ∨ (m_SR_requireSign 0 p M = some (some eI) ∧ m_Mo_isSign 235 p M = some 0) := by
  obtain ⟨H, k, S, kp, len, T, hc, hm⟩ := h
  have hI := hc.1
  have h8 := hI.1.1.1
  have hn := hc.2.1.n hI.1
  rcases isSign_c (v := 235) (M := M) p hI.1.1.2 (by omega) with ⟨s, s1, rfl, e⟩ | ⟨g1, e⟩
  · refine Or.inl ⟨s, s1, rfl, ?_, e, hasSign_y hn h8 s1⟩
    unfold m_SR_requireSign
    show Option.bind (m_Tw_hasSign 3 (nI s) M) _ = _
    rw [hasSign_y hn h8 s1, bS, if_neg u10]
  · refine Or.inr ⟨?_, e⟩
    unfold m_SR_requireSign
    show Option.bind (m_Tw_hasSign 3 p M) _ = _
    rcases hasSign_c p hn h8 with ⟨s, s1, rfl, e2⟩ | ⟨g2, e2⟩
    · exfalso
      rcases g1 with c | c
      · exact nI_pos (by omega) c
      · have c' : nI (sN (M 236)) ≤ nI s := c
        rw [nI_leI (by omega) (by omega)] at c'; omega
    · rw [e2]; rfl
/-! sums over the signs -/
def sumF (f : Nat → Int32) : Nat → Int32
  | 0 => 0
  | s + 1 => sumF f s + f s
theorem CletW {a : Row} {u : Nat} {M : KMem} (h : CR a u M) (hI : InvB a) : m_Tw_lettersOf u (u + 5) 8 M = some (sumF (fun s => nI (nl (a (5 * s + 2)))) (sN a)) := by
  have h8 := hI.1.1
  refine kEx ?_
  unfold m_Tw_lettersOf
  refine kB (fun r => r = sumF (fun s => nI (nl (a (5 * s + 2)))) (sN a)) (kFor (fun s q => q = (sumF (fun s => nI (nl (a (5 * s + 2)))) s, nI s)) (sN a) ?_ ?_ (i0 := 0) (by omega) (by omega) rfl) (fun x hx => kOk_i hx)
  · rintro s _ hs rfl
    obtain ⟨k1, k2, k3, k4, k5, k6⟩ := h.2.2.1 s hs
    refine Or.inl ⟨_, ?_, rfl⟩
    unfold m_Tw_lettersOf_l4
    show (if 8 ≤ nI s then _ else _) = _
    rw [if_neg (by rw [nI_8F (by omega)]; exact id), hasSign_y (h.n hI) h8 hs, bS, if_neg u10, rdN (by omega) (by omega), bS, k2, letters_w (hI.2.2.2 s hs).2.1, bS, nI_1]
    rfl
  · rintro _ rfl
    refine ⟨_, ?_, rfl⟩
    unfold m_Tw_lettersOf_l4
    show (if 8 ≤ nI (sN a) then _ else _) = _
    split
    · rfl
    · rw [hasSign_n (h.n hI) h8 (Nat.le_refl _) (by omega), bS, if_pos rfl]
theorem CletR {a : Row} {u : Nat} {M : KMem} (h : CR a u M) (hI : InvB a) : m_Tw_lettersOf u (u + 7) 8 M = some (sumF (fun s => nI (nl (rtA a s))) (sN a)) := by
  have h8 := hI.1.1
  refine kEx ?_
  unfold m_Tw_lettersOf
  refine kB (fun r => r = sumF (fun s => nI (nl (rtA a s))) (sN a)) (kFor (fun s q => q = (sumF (fun s => nI (nl (rtA a s))) s, nI s)) (sN a) ?_ ?_ (i0 := 0) (by omega) (by omega) rfl) (fun x hx => kOk_i hx)
  · rintro s _ hs rfl
    obtain ⟨k1, k2, k3, k4, k5, k6⟩ := h.2.2.1 s hs
    refine Or.inl ⟨_, ?_, rfl⟩
    unfold m_Tw_lettersOf_l4
    show (if 8 ≤ nI s then _ else _) = _
    rw [if_neg (by rw [nI_8F (by omega)]; exact id), hasSign_y (h.n hI) h8 hs, bS, if_neg u10, rdN (by omega) (by omega), bS, k4, letters_w (rt_vW hI hs), bS, nI_1]
    rfl
  · rintro _ rfl
    refine ⟨_, ?_, rfl⟩
    unfold m_Tw_lettersOf_l4
    show (if 8 ≤ nI (sN a) then _ else _) = _
    split
    · rfl
    · rw [hasSign_n (h.n hI) h8 (Nat.le_refl _) (by omega), bS, if_pos rfl]
theorem CcostAll {a : Row} {u : Nat} {M : KMem} (h : CR a u M) (hI : InvB a) : kOk (m_Tw_costOfAll u M) (fun q => q.1 = sumF (coA a) (sN a) ∧ frS (scr u) M q.2) := by
  have h8 := hI.1.1
  unfold m_Tw_costOfAll
  refine kB (fun q => q.1 = sumF (coA a) (sN a) ∧ frS (scr u) M q.2) (kFor (fun s q => ∃ M1, q = (sumF (coA a) s, nI s, M1) ∧ frS (scr u) M M1) (sN a) ?_ ?_ (i0 := 0) (by omega) (by omega) ⟨M, rfl, frS.rf⟩) (fun x hx => kOk_i hx)
  · rintro s _ hs ⟨M1, rfl, g1⟩
    have h1 := h.sc g1
    obtain ⟨⟨x, M2⟩, e, q1, q2⟩ := costOf_ok h1 hI hs
    simp only at q1 q2
    subst q1
    refine Or.inl ⟨(sumF (coA a) (s + 1), nI (s + 1), M2), ?_, M2, rfl, g1.tr q2⟩
    unfold m_Tw_costOfAll_l4
    show (if 8 ≤ nI s then _ else _) = _
    rw [if_neg (by rw [nI_8F (by omega)]; exact id), hasSign_y (h1.n hI) h8 hs, bS, if_neg u10, e, bS, nI_1]
    rfl
  · rintro _ ⟨M1, rfl, g1⟩
    have h1 := h.sc g1
    refine ⟨(sumF (coA a) (sN a), M1), ?_, rfl, g1⟩
    unfold m_Tw_costOfAll_l4
    show (if 8 ≤ nI (sN a) then _ else _) = _
    split
    · rfl
    · rw [hasSign_n (h1.n hI) h8 (Nat.le_refl _) (by omega), bS, if_pos rfl]
/-- the model's sums: what 0, 1, 2 -/
def sumV (a : Row) (w : Nat) (s : Nat) : Int32 := if w = 0 then nI (nl (a (5 * s + 2))) else if w = 1 then nI (nl (rtA a s)) else coA a s
theorem MsumOf {a : Row} {w : Nat} {M : KMem} (ha : M 236 = a) (hI : InvB a) (hw : w ≤ 2) : kOk (m_Mo_sumOf 235 (nI w) M) (fun q => q.1 = sumF (sumV a w) (sN a) ∧ frS (fun o => o = 241) M q.2) := by
  have h8 := hI.1.1
  unfold m_Mo_sumOf
  refine kB (fun q => q.1 = sumF (sumV a w) (sN a) ∧ frS (fun o => o = 241) M q.2) (kFor (fun s q => ∃ M1, q = (sumF (sumV a w) s, nI s, M1) ∧ frS (fun o => o = 241) M M1) (sN a) ?_ ?_ (i0 := 0) (by omega) (by omega) ⟨M, rfl, frS.rf⟩) (fun x hx => kOk_i hx)
  · rintro s _ hs ⟨M1, rfl, g1⟩
    have e1 : M1 236 = a := (g1 236 (by omega)).trans ha
    have e0 : rdI M1 (235 + 1) 108 0 = some (nI (sN a)) := by rw [r0, show M1 (235 + 1) = a from e1, hI.1.2]
    have eL : ¬ nI (sN a) ≤ nI s := by rw [nI_leI (by omega) (by omega)]; omega
    have key : kOk (if nI w = 0 then (Option.bind (m_Mo_of (nI s) 1) fun x20 => Option.bind (rdI M1 (235 + 1) 108 x20) fun x22 => Option.bind (m_Mo_lettersOf x22) fun x24 => some (x24, M1)) else (if nI w = 1 then (Option.bind (m_Mo_rightOf 235 (nI s) M1) fun x16 => Option.bind (m_Mo_lettersOf x16) fun x18 => some (x18, M1)) else (Option.bind (m_Mo_costOf 235 (nI s) M1) fun (x13, M14) => some (x13, M14)))) (fun q => q.1 = sumV a w s ∧ frS (fun o => o = 241) M1 q.2) := by
      have hr : m_Mo_rightOf 235 (nI s) M1 = some (rtA a s) := by
        have := Mright (v := 235) (M := M1) (s := s) (by rw [show M1 (235 + 1) = a from e1]; exact hI) (by rw [show M1 (235 + 1) = a from e1]; exact hs)
        rw [show M1 (235 + 1) = a from e1] at this
        exact this
      unfold sumV
      by_cases w0 : w = 0
      · subst w0
        rw [if_pos (show nI 0 = 0 from rfl), if_pos rfl, of_1, bS, rdN (by omega) (by omega), bS, show M1 (235 + 1) = a from e1, lettersOf_w (hI.2.2.2 s hs).2.1, bS]
        exact kOk_i ⟨rfl, frS.rf⟩
      · rw [if_neg (nI_ne0 (by omega) (by omega)), if_neg w0]
        by_cases w1 : w = 1
        · subst w1
          rw [if_pos (show nI 1 = 1 from rfl), if_pos rfl, hr, bS, lettersOf_w (rt_vW hI hs), bS]
          exact kOk_i ⟨rfl, frS.rf⟩
        · rw [if_neg (by rw [show (1 : Int32) = nI 1 from rfl, nI_eq (by omega) (by omega)]; exact w1), if_neg w1]
          refine kB _ (Mcost (v := 235) (M := M1) (s := s) (by rw [show M1 (235 + 1) = a from e1]; exact hI) (by rw [show M1 (235 + 1) = a from e1]; exact hs)) ?_
          rintro ⟨x, M2⟩ ⟨q1, q2⟩
          rw [show M1 (235 + 1) = a from e1] at q1
          exact kOk_i ⟨q1, q2⟩
    obtain ⟨⟨x, M2⟩, e, q1, q2⟩ := key
    simp only at q1 q2
    subst q1
    refine Or.inl ⟨(sumF (sumV a w) (s + 1), nI (s + 1), M2), ?_, M2, rfl, g1.tr q2⟩
    unfold m_Mo_sumOf_l4
    show Option.bind (rdI M1 (235 + 1) 108 0) _ = _
    rw [e0, bS, if_neg eL, e, bS, nI_1]
    rfl
  · rintro _ ⟨M1, rfl, g1⟩
    have e1 : M1 236 = a := (g1 236 (by omega)).trans ha
    have e0 : rdI M1 (235 + 1) 108 0 = some (nI (sN a)) := by rw [r0, show M1 (235 + 1) = a from e1, hI.1.2]
    refine ⟨(sumF (sumV a w) (sN a), M1), ?_, rfl, g1⟩
    unfold m_Mo_sumOf_l4
    show Option.bind (rdI M1 (235 + 1) 108 0) _ = _
    rw [e0, bS, if_pos (Int32.le_refl _)]
theorem sumV_0 (a : Row) (n : Nat) : sumF (sumV a 0) n = sumF (fun s => nI (nl (a (5 * s + 2)))) n := rfl
theorem sumV_1 (a : Row) (n : Nat) : sumF (sumV a 1) n = sumF (fun s => nI (nl (rtA a s))) n := rfl
theorem sumV_2 (a : Row) (n : Nat) : sumF (sumV a 2) n = sumF (coA a) n := rfl
/-- the numbers of the town -/
def abV (a : Row) (j : Nat) : Int32 := match j with
  | 0 => a 0 | 1 => a 41 | 2 => wrC a (sN a) | 3 => a 92 | 4 => a 93 | 5 => a 94 | 6 => a 95 | 7 => a 96 | 8 => a 97
  | 9 => sumF (sumV a 0) (sN a) | 10 => sumF (sumV a 1) (sN a) | _ => sumF (sumV a 2) (sN a)
theorem upto11 {j : Nat} (h : j ≤ 11) : j = 0 ∨ j = 1 ∨ j = 2 ∨ j = 3 ∨ j = 4 ∨ j = 5 ∨ j = 6 ∨ j = 7 ∨ j = 8 ∨ j = 9 ∨ j = 10 ∨ j = 11 := by omega
theorem Cabout {a : Row} {M : KMem} {j : Nat} (h : CR a 3 M) (hI : Inv a) (hj : j ≤ 11) : kOk (m_Tw_numberOfTown 3 (nI j) M) (fun q => q.1 = abV a j ∧ frS (scr 3) M q.2) := by
  obtain ⟨k1, k2, k3, k4, k5, k6⟩ := h.1
  unfold m_Tw_numberOfTown
  rcases upto11 hj with rfl | rfl | rfl | rfl | rfl | rfl | rfl | rfl | rfl | rfl | rfl | rfl
  · rw [if_pos (by decide)]
    exact kOk_i ⟨k1, frS.rf⟩
  · rw [if_neg (by decide), if_pos (by decide)]
    exact kOk_i ⟨k2, frS.rf⟩
  · rw [if_neg (by decide), if_neg (by decide), if_pos (by decide), wrongSigns_ok h hI.1]
    exact kOk_i ⟨rfl, frS.rf⟩
  · rw [if_neg (by decide), if_neg (by decide), if_neg (by decide), if_pos (by decide)]
    exact kOk_i ⟨k3, frS.rf⟩
  · rw [if_neg (by decide), if_neg (by decide), if_neg (by decide), if_neg (by decide), if_pos (by decide)]
    exact kOk_i ⟨k4, frS.rf⟩
  · rw [if_neg (by decide), if_neg (by decide), if_neg (by decide), if_neg (by decide), if_neg (by decide), if_pos (by decide)]
    exact kOk_i ⟨k5, frS.rf⟩
  · rw [if_neg (by decide), if_neg (by decide), if_neg (by decide), if_neg (by decide), if_neg (by decide), if_neg (by decide), if_pos (by decide), allFines_ok h hI.2.2]
    exact kOk_i ⟨rfl, frS.rf⟩
  · rw [if_neg (by decide), if_neg (by decide), if_neg (by decide), if_neg (by decide), if_neg (by decide), if_neg (by decide), if_neg (by decide), if_pos (by decide), paidSum_ok h hI.2.2]
    exact kOk_i ⟨rfl, frS.rf⟩
  · rw [if_neg (by decide), if_neg (by decide), if_neg (by decide), if_neg (by decide), if_neg (by decide), if_neg (by decide), if_neg (by decide), if_neg (by decide), if_pos (by decide)]
    exact kOk_i ⟨k6, frS.rf⟩
  · rw [if_neg (by decide), if_neg (by decide), if_neg (by decide), if_neg (by decide), if_neg (by decide), if_neg (by decide), if_neg (by decide), if_neg (by decide), if_neg (by decide), if_pos (by decide), CletW h hI.1]
    exact kOk_i ⟨rfl, frS.rf⟩
  · rw [if_neg (by decide), if_neg (by decide), if_neg (by decide), if_neg (by decide), if_neg (by decide), if_neg (by decide), if_neg (by decide), if_neg (by decide), if_neg (by decide), if_neg (by decide), if_pos (by decide)]
    unfold m_Tw_lettersOfRights
    rw [CletR h hI.1]
    exact kOk_i ⟨rfl, frS.rf⟩
  · rw [if_neg (by decide), if_neg (by decide), if_neg (by decide), if_neg (by decide), if_neg (by decide), if_neg (by decide), if_neg (by decide), if_neg (by decide), if_neg (by decide), if_neg (by decide), if_neg (by decide)]
    refine kB _ (CcostAll h hI.1) ?_
    rintro ⟨x, M1⟩ hq
    exact kOk_i hq
theorem Mtold {a : Row} {M : KMem} {j : Nat} (ha : M 236 = a) (hI : Inv a) (hj : j ≤ 11) : kOk (m_Mo_told 235 (nI j) M) (fun q => q.1 = abV a j ∧ frS (fun o => o = 241) M q.2) := by
  unfold m_Mo_told
  have ha' : M (235 + 1) = a := ha
  have big : ∀ j i, i < 108 → ((92 : Int32) + nI j) - 3 = nI i → kOk (Option.bind (rdI M (235 + 1) 108 ((92 + nI j) - 3)) fun x19 => some (x19, M)) (fun q => q.1 = a i ∧ frS (fun o => o = 241) M q.2) := fun j i hi e => by
    rw [e, rdN hi (by omega), bS, ha']
    exact kOk_i ⟨rfl, frS.rf⟩
  have su : ∀ w, w ≤ 2 → kOk (Option.bind (m_Mo_sumOf 235 (nI w) M) fun (x15, M16) => some (x15, M16)) (fun q => q.1 = sumF (sumV a w) (sN a) ∧ frS (fun o => o = 241) M q.2) := fun w hw => by
    refine kB _ (MsumOf ha hI.1 hw) ?_
    rintro ⟨x, M1⟩ hq
    exact kOk_i hq
  rcases upto11 hj with rfl | rfl | rfl | rfl | rfl | rfl | rfl | rfl | rfl | rfl | rfl | rfl
  · rw [if_pos (by decide), r0, bS, ha']
    exact kOk_i ⟨rfl, frS.rf⟩
  · rw [if_neg (by decide), if_pos (by decide), r41, bS, ha']
    exact kOk_i ⟨rfl, frS.rf⟩
  · rw [if_neg (by decide), if_neg (by decide), if_pos (by decide), Mwrongs (by rw [ha']; exact hI.1), bS, ha']
    exact kOk_i ⟨rfl, frS.rf⟩
  · rw [if_neg (by decide), if_neg (by decide), if_neg (by decide), if_neg (by decide)]; exact big 3 92 (by omega) (by decide)
  · rw [if_neg (by decide), if_neg (by decide), if_neg (by decide), if_neg (by decide)]; exact big 4 93 (by omega) (by decide)
  · rw [if_neg (by decide), if_neg (by decide), if_neg (by decide), if_neg (by decide)]; exact big 5 94 (by omega) (by decide)
  · rw [if_neg (by decide), if_neg (by decide), if_neg (by decide), if_neg (by decide)]; exact big 6 95 (by omega) (by decide)
  · rw [if_neg (by decide), if_neg (by decide), if_neg (by decide), if_neg (by decide)]; exact big 7 96 (by omega) (by decide)
  · rw [if_neg (by decide), if_neg (by decide), if_neg (by decide), if_neg (by decide)]; exact big 8 97 (by omega) (by decide)
  · rw [if_neg (by decide), if_neg (by decide), if_neg (by decide), if_pos (by decide)]; exact su 0 (by omega)
  · rw [if_neg (by decide), if_neg (by decide), if_neg (by decide), if_pos (by decide)]; exact su 1 (by omega)
  · rw [if_neg (by decide), if_neg (by decide), if_neg (by decide), if_pos (by decide)]; exact su 2 (by omega)
theorem ge_of {p : Int32} {n : Nat} (c0 : ¬ p < 0) (h : p < nI 0 ∨ nI n < p) : ¬ p ≤ nI n := fun z => Int32.not_le.mpr (h.elim (fun w => (c0 w).elim) id) z
theorem pub_about {M : KMem} (h : GI M) (p0 : Int32) : Pub M [eA] (m_SR_about 0 p0 M) (m_Mo_about 235 p0) := by
  have h' := h
  obtain ⟨H, k, S, kp, len, T, hc, hm⟩ := h'
  have hI := hc.1
  rcases in_c p0 (lo := 0) (hi := 11) (by omega) (by omega) with ⟨j, j1, j2, rfl, e⟩ | ⟨g1, e⟩
  · refine pub_r (v := abV (M 236) j) h ?_ (fun M7 => Option.bind (Option.bind (m_Mo_told 235 (nI j) M7) fun (x, M8) => some (x, M8)) fun (x, M8) => some (x, M8)) (fun M1 _ => ?_) (fun M7 e7 => kPair (Mtold e7 hI j2))
    · unfold m_SR_about
      rw [if_neg (nI_pos (by omega)), if_pos (show nI j ≤ 11 from (nI_leI (b := 11) (by omega) (by omega)).mpr j2)]
      refine kB _ (Cabout hc.2.1 hI j2) ?_
      rintro ⟨x, M1⟩ ⟨q1, q2⟩
      exact kOk_i ⟨congrArg Sum.inr q1, q2⟩
    · unfold m_Mo_about
      rw [show m_Mo_in (nI j) 0 11 = some 1 from e, bS, if_neg u10, bS, Mholds_0, bS]
      exact Mif rfl
  · refine pub_no h eA 0 rfl ?_ ?_
    · unfold m_SR_about
      by_cases c0 : p0 < 0
      · rw [if_pos c0]
      · rw [if_neg c0, if_neg (show ¬ p0 ≤ 11 from ge_of (n := 11) c0 g1)]
    · unfold m_Mo_about
      rw [show m_Mo_in p0 0 11 = some 0 from e, bS, if_pos rfl, bS, show m_Mo_holds 235 1 M = _ from Mholds_n (by decide) M, bS]
      rfl
