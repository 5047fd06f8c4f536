/-! sums over the signs -/
def sumF (f : Nat → Int32) : Nat → Int32
  | 0 => 0
  | s + 1 => sumF f s + f s
theorem CletW {a : Row} {u : Nat} {M : KMem} (h : CR a u M) (hI : InvB a) : m_Tw_lettersOf u (u + 5) 8 M = some (sumF (fun s => nI (nl (a (5 * s + 2)))) (sN a)) := by
  have h8 := hI.1.1
  refine kEx ?_
  unfold m_Tw_lettersOf
  refine kB (fun r => r = sumF (fun s => nI (nl (a (5 * s + 2)))) (sN a)) (kFor (fun s q => q = (sumF (fun s => nI (nl (a (5 * s + 2)))) s, nI s)) (sN a) ?_ ?_ (i0 := 0) (by omega) (by omega) rfl) (fun x hx => kOk_i hx)
  · rintro s _ hs rfl
    obtain ⟨k1, k2, k3, k4, k5, k6⟩ := h.2.2.1 s hs
    refine Or.inl ⟨_, ?_, rfl⟩
    unfold m_Tw_lettersOf_l4
    show (if 8 ≤ nI s then _ else _) = _
    rw [if_neg (by rw [nI_8F (by omega)]; exact id), hasSign_y (h.n hI) h8 hs, bS, if_neg u10, rdN (by omega) (by omega), bS, k2, letters_w (hI.2.2.2 s hs).2.1, bS, nI_1]
    rfl
  · rintro _ rfl
    refine ⟨_, ?_, rfl⟩
    unfold m_Tw_lettersOf_l4
    show (if 8 ≤ nI (sN a) then _ else _) = _
    split
    · rfl
    · rw [hasSign_n (h.n hI) h8 (Nat.le_refl _) (by omega), bS, if_pos rfl]
theorem CletR {a : Row} {u : Nat} {M : KMem} (h : CR a u M) (hI : InvB a) : m_Tw_lettersOf u (u + 7) 8 M = some (sumF (fun s => nI (nl (rtA a s))) (sN a)) := by
  have h8 := hI.1.1
  refine kEx ?_
  unfold m_Tw_lettersOf
  refine kB (fun r => r = sumF (fun s => nI (nl (rtA a s))) (sN a)) (kFor (fun s q => q = (sumF (fun s => nI (nl (rtA a s))) s, nI s)) (sN a) ?_ ?_ (i0 := 0) (by omega) (by omega) rfl) (fun x hx => kOk_i hx)
  · rintro s _ hs rfl
    obtain ⟨k1, k2, k3, k4, k5, k6⟩ := h.2.2.1 s hs
    refine Or.inl ⟨_, ?_, rfl⟩
    unfold m_Tw_lettersOf_l4
    show (if 8 ≤ nI s then _ else _) = _
    rw [if_neg (by rw [nI_8F (by omega)]; exact id), hasSign_y (h.n hI) h8 hs, bS, if_neg u10, rdN (by omega) (by omega), bS, k4, letters_w (rt_vW hI hs), bS, nI_1]
    rfl
  · rintro _ rfl
    refine ⟨_, ?_, rfl⟩
    unfold m_Tw_lettersOf_l4
    show (if 8 ≤ nI (sN a) then _ else _) = _
    split
    · rfl
    · rw [hasSign_n (h.n hI) h8 (Nat.le_refl _) (by omega), bS, if_pos rfl]
theorem CcostAll {a : Row} {u : Nat} {M : KMem} (h : CR a u M) (hI : InvB a) : kOk (m_Tw_costOfAll u M) (fun q => q.1 = sumF (coA a) (sN a) ∧ frS (scr u) M q.2) := by
  have h8 := hI.1.1
  unfold m_Tw_costOfAll
  refine kB (fun q => q.1 = sumF (coA a) (sN a) ∧ frS (scr u) M q.2) (kFor (fun s q => ∃ M1, q = (sumF (coA a) s, nI s, M1) ∧ frS (scr u) M M1) (sN a) ?_ ?_ (i0 := 0) (by omega) (by omega) ⟨M, rfl, frS.rf⟩) (fun x hx => kOk_i hx)
  · rintro s _ hs ⟨M1, rfl, g1⟩
    have h1 := h.sc g1
    obtain ⟨⟨x, M2⟩, e, q1, q2⟩ := costOf_ok h1 hI hs
    simp only at q1 q2
    subst q1
    refine Or.inl ⟨(sumF (coA a) (s + 1), nI (s + 1), M2), ?_, M2, rfl, g1.tr q2⟩
    unfold m_Tw_costOfAll_l4
    show (if 8 ≤ nI s then _ else _) = _
    rw [if_neg (by rw [nI_8F (by omega)]; exact id), hasSign_y (h1.n hI) h8 hs, bS, if_neg u10, e, bS, nI_1]
    rfl
  · rintro _ ⟨M1, rfl, g1⟩
    have h1 := h.sc g1
    refine ⟨(sumF (coA a) (sN a), M1), ?_, rfl, g1⟩
    unfold m_Tw_costOfAll_l4
    show (if 8 ≤ nI (sN a) then _ else _) = _
    split
    · rfl
    · rw [hasSign_n (h1.n hI) h8 (Nat.le_refl _) (by omega), bS, if_pos rfl]
/-- the model's sums: what 0, 1, 2 -/
def sumV (a : Row) (w : Nat) (s : Nat) : Int32 := if w = 0 then nI (nl (a (5 * s + 2))) else if w = 1 then nI (nl (rtA a s)) else coA a s
theorem sumV_0 (a : Row) (n : Nat) : sumF (sumV a 0) n = sumF (fun s => nI (nl (a (5 * s + 2)))) n := rfl
theorem sumV_1 (a : Row) (n : Nat) : sumF (sumV a 1) n = sumF (fun s => nI (nl (rtA a s))) n := rfl
theorem sumV_2 (a : Row) (n : Nat) : sumF (sumV a 2) n = sumF (coA a) n := rfl
/-- the numbers of the town -/
def abV (a : Row) (j : Nat) : Int32 := match j with
  | 0 => a 0 | 1 => a 41 | 2 => wrC a (sN a) | 3 => a 92 | 4 => a 93 | 5 => a 94 | 6 => a 95 | 7 => a 96 | 8 => a 97
  | 9 => sumF (sumV a 0) (sN a) | 10 => sumF (sumV a 1) (sN a) | _ => sumF (sumV a 2) (sN a)
theorem upto11 {j : Nat} (h : j ≤ 11) : j = 0 ∨ j = 1 ∨ j = 2 ∨ j = 3 ∨ j = 4 ∨ j = 5 ∨ j = 6 ∨ j = 7 ∨ j = 8 ∨ j = 9 ∨ j = 10 ∨ j = 11 := by omega
theorem Cabout {u : Nat} {a : Row} {M : KMem} {j : Nat} (h : CR a u M) (hI : Inv a) (hj : j ≤ 11) : kOk (m_Tw_numberOfTown u (nI j) M) (fun q => q.1 = abV a j ∧ frS (scr u) M q.2) := by
  obtain ⟨k1, k2, k3, k4, k5, k6⟩ := h.1
  unfold m_Tw_numberOfTown
  rcases upto11 hj with rfl | rfl | rfl | rfl | rfl | rfl | rfl | rfl | rfl | rfl | rfl | rfl
  · rw [if_pos (by decide)]
    exact kOk_i ⟨k1, frS.rf⟩
  · rw [if_neg (by decide), if_pos (by decide)]
    exact kOk_i ⟨k2, frS.rf⟩
  · rw [if_neg (by decide), if_neg (by decide), if_pos (by decide), wrongSigns_ok h hI.1]
    exact kOk_i ⟨rfl, frS.rf⟩
  · rw [if_neg (by decide), if_neg (by decide), if_neg (by decide), if_pos (by decide)]
    exact kOk_i ⟨k3, frS.rf⟩
  · rw [if_neg (by decide), if_neg (by decide), if_neg (by decide), if_neg (by decide), if_pos (by decide)]
    exact kOk_i ⟨k4, frS.rf⟩
  · rw [if_neg (by decide), if_neg (by decide), if_neg (by decide), if_neg (by decide), if_neg (by decide), if_pos (by decide)]
    exact kOk_i ⟨k5, frS.rf⟩
  · rw [if_neg (by decide), if_neg (by decide), if_neg (by decide), if_neg (by decide), if_neg (by decide), if_neg (by decide), if_pos (by decide), allFines_ok h hI.2.2]
    exact kOk_i ⟨rfl, frS.rf⟩
  · rw [if_neg (by decide), if_neg (by decide), if_neg (by decide), if_neg (by decide), if_neg (by decide), if_neg (by decide), if_neg (by decide), if_pos (by decide), paidSum_ok h hI.2.2]
    exact kOk_i ⟨rfl, frS.rf⟩
  · rw [if_neg (by decide), if_neg (by decide), if_neg (by decide), if_neg (by decide), if_neg (by decide), if_neg (by decide), if_neg (by decide), if_neg (by decide), if_pos (by decide)]
    exact kOk_i ⟨k6, frS.rf⟩
  · rw [if_neg (by decide), if_neg (by decide), if_neg (by decide), if_neg (by decide), if_neg (by decide), if_neg (by decide), if_neg (by decide), if_neg (by decide), if_neg (by decide), if_pos (by decide), CletW h hI.1]
    exact kOk_i ⟨rfl, frS.rf⟩
  · rw [if_neg (by decide), if_neg (by decide), if_neg (by decide), if_neg (by decide), if_neg (by decide), if_neg (by decide), if_neg (by decide), if_neg (by decide), if_neg (by decide), if_neg (by decide), if_pos (by decide)]
    unfold m_Tw_lettersOfRights
    rw [CletR h hI.1]
    exact kOk_i ⟨rfl, frS.rf⟩
  · rw [if_neg (by decide), if_neg (by decide), if_neg (by decide), if_neg (by decide), if_neg (by decide), if_neg (by decide), if_neg (by decide), if_neg (by decide), if_neg (by decide), if_neg (by decide), if_neg (by decide)]
    refine kB _ (CcostAll h hI.1) ?_
    rintro ⟨x, M1⟩ hq
    exact kOk_i hq
theorem ge_of {p : Int32} {n : Nat} (c0 : ¬ p < 0) (h : p < nI 0 ∨ nI n < p) : ¬ p ≤ nI n := fun z => Int32.not_le.mpr (h.elim (fun w => (c0 w).elim) id) z
