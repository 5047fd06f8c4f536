/-! LAYER 2: more questions -/
def sgV (a : Row) (s j : Nat) : Int32 := match j with
  | 0 => a (5 * s + 1) | 1 => a (5 * s + 2) | 2 => a (5 * s + 3) | 3 => if a (5 * s + 3) = rtA a s then 0 else 1 | 4 => nI (apA a s) | 5 => coA a s | 6 => a (5 * s + 4) | _ => a (5 * s + 5)
theorem upto7 {j : Nat} (h : j ≤ 7) : j = 0 ∨ j = 1 ∨ j = 2 ∨ j = 3 ∨ j = 4 ∨ j = 5 ∨ j = 6 ∨ j = 7 := by omega
theorem i01n {c : Prop} [Decidable c] : (if (if c then (0 : Int32) else 1) = 0 then (0 : Int32) else 1) = if c then 0 else 1 := by
  by_cases h : c
  · rw [if_pos h, if_pos rfl]
  · rw [if_neg h, if_neg u10]
theorem Csign {u : Nat} {a : Row} {M : KMem} {s j : Nat} (h : CR a u M) (hI : Inv a) (hs : s < sN a) (hj : j ≤ 7) : kOk (m_Tw_numberOfSign u (nI s) (nI j) M) (fun q => q.1 = sgV a s j ∧ frS (scr u) M q.2) := by
  have h8 := hI.1.1.1
  obtain ⟨k1, k2, k3, k4, k5, k6⟩ := h.2.2.1 s hs
  unfold m_Tw_numberOfSign
  rw [hasSign_y (h.n hI.1) h8 hs, bS, if_neg u10]
  rcases upto7 hj with rfl | rfl | rfl | rfl | rfl | rfl | rfl | rfl
  · rw [if_pos (by decide), rdN (by omega) (by omega), bS]
    exact kOk_i ⟨k1, frS.rf⟩
  · rw [if_neg (by decide), if_pos (by decide), rdN (by omega) (by omega), bS]
    exact kOk_i ⟨k2, frS.rf⟩
  · rw [if_neg (by decide), if_neg (by decide), if_pos (by decide), rdN (by omega) (by omega), bS]
    exact kOk_i ⟨k3, frS.rf⟩
  · rw [if_neg (by decide), if_neg (by decide), if_neg (by decide), if_pos (by decide), isWrong_ok h hI.1 hs, bS, bI, i01n]
    exact kOk_i ⟨rfl, frS.rf⟩
  · rw [if_neg (by decide), if_neg (by decide), if_neg (by decide), if_neg (by decide), if_pos (by decide)]
    refine kB _ (lettersWrong_ok h hI.1 hs) ?_
    rintro ⟨x, M1⟩ hq
    exact kOk_i hq
  · rw [if_neg (by decide), if_neg (by decide), if_neg (by decide), if_neg (by decide), if_neg (by decide), if_pos (by decide)]
    refine kB _ (costOf_ok h hI.1 hs) ?_
    rintro ⟨x, M1⟩ hq
    exact kOk_i hq
  · rw [if_neg (by decide), if_neg (by decide), if_neg (by decide), if_neg (by decide), if_neg (by decide), if_neg (by decide), if_pos (by decide), rdN (by omega) (by omega), bS]
    exact kOk_i ⟨k5, frS.rf⟩
  · rw [if_neg (by decide), if_neg (by decide), if_neg (by decide), if_neg (by decide), if_neg (by decide), if_neg (by decide), if_neg (by decide), rdN (by omega) (by omega), bS]
    exact kOk_i ⟨k6, frS.rf⟩
/-- a guild's signs, or the wrong ones -/
def grC (a : Row) (g w : Nat) : Nat → Int32
  | 0 => 0
  | s + 1 => grC a g w s + (if a (5 * s + 1) = nI g ∧ (w = 0 ∨ a (5 * s + 3) ≠ rtA a s) then 1 else 0)
theorem Cguild {u : Nat} {a : Row} {M : KMem} {g w : Nat} (h : CR a u M) (hI : Inv a) (hw : w ≤ 1) : m_Tw_signsOfGuild u (nI g) (nI w) M = some (grC a g w (sN a)) := by
  have h8 := hI.1.1.1
  refine kEx ?_
  unfold m_Tw_signsOfGuild
  refine kB (fun r => r = grC a g w (sN a)) (kFor (fun s q => q = (grC a g w s, nI s)) (sN a) ?_ ?_ (i0 := 0) (by omega) (by omega) rfl) (fun x hx => kOk_i hx)
  · rintro s _ hs rfl
    obtain ⟨k1, k2, k3, k4, k5, k6⟩ := h.2.2.1 s hs
    refine Or.inl ⟨_, ?_, rfl⟩
    unfold m_Tw_signsOfGuild_l5
    show (if 8 ≤ nI s then _ else _) = _
    rw [if_neg (by rw [nI_8F (by omega)]; exact id), hasSign_y (h.n hI.1) h8 hs, bS, if_neg u10, rdN (by omega) (by omega), bS, k1, nI_1]
    have hr : grC a g w (s + 1) = grC a g w s + (if a (5 * s + 1) = nI g ∧ (w = 0 ∨ a (5 * s + 3) ≠ rtA a s) then 1 else 0) := rfl
    rw [hr]
    by_cases c1 : a (5 * s + 1) = nI g
    · rw [if_pos c1]
      by_cases c2 : w = 0
      · rw [if_pos (by rw [c2]; rfl), bS, if_pos ⟨c1, Or.inl c2⟩]
      · rw [if_neg (nI_ne0 (by omega) (by omega)), isWrong_ok h hI.1 hs, bS]
        by_cases c3 : a (5 * s + 3) = rtA a s
        · rw [if_pos c3, if_pos rfl, bS, if_neg (fun z => z.2.elim c2 (fun w => w c3)), Int32.add_zero]
        · rw [if_neg c3, if_neg u10, bS, if_pos ⟨c1, Or.inr c3⟩]
    · rw [if_neg c1, bS, if_neg (fun z => c1 z.1), Int32.add_zero]
  · rintro _ rfl
    refine ⟨_, ?_, rfl⟩
    unfold m_Tw_signsOfGuild_l5
    show (if 8 ≤ nI (sN a) then _ else _) = _
    split
    · rfl
    · rw [hasSign_n (h.n hI.1) h8 (Nat.le_refl _) (by omega), bS, if_pos rfl]
theorem reqGuild_y {g : Nat} (hg : g < 4) : m_SR_requireGuild (nI g) = some none := by
  unfold m_SR_requireGuild
  rw [if_neg (nI_pos (by omega)), if_pos (show nI g < 4 from (nI_ltI (b := 4) (by omega) (by omega)).mpr hg)]
theorem reqGuild_n {p : Int32} (h : p < nI 0 ∨ nI 3 < p) : m_SR_requireGuild p = some (some eI) := by
  unfold m_SR_requireGuild
  by_cases c0 : p < 0
  · rw [if_pos c0]
  · rw [if_neg c0, if_neg]
    intro c4
    obtain ⟨j, hj, rfl⟩ := nI_of c0
    have c3 := h.elim (fun z => (c0 z).elim) id
    rw [nI_ltI (by omega) (by omega)] at c3
    rw [show (4 : Int32) = nI 4 from rfl, nI_ltI (by omega) (by omega)] at c4
    omega
def guV (a : Row) (g j : Nat) : Int32 := match j with
  | 0 => grC a g 0 (sN a) | 1 => grC a g 1 (sN a) | 2 => a (98 + g) | _ => a (102 + g)
