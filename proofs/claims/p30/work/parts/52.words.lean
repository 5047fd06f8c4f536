/-! LAYER 2: words as lists of letters; what decrees make of them; the mirrors of both sides -/
theorem wN_rev (l : List Nat) : wN l = wR l.reverse := rfl
theorem wR_rev (l : List Nat) : wR l = wN l.reverse := by simp [wN_rev]
theorem wR_nil : wR [] = 0 := rfl
theorem wR_c0 {d : Nat} {l : List Nat} (h : wl (d :: l)) (hl : (d :: l).length ≤ 8) : (wR (d :: l) = 0) = False := by
  rw [wR_0 h hl]
  simp
theorem nI_8n {i : Nat} (h : i < 8) : ((8 : Int32) ≤ nI i) = False := by
  rw [nI_8 (by omega)]
  exact eq_false (by omega)
theorem nI_ne {a b : Nat} (ha : a < 2 ^ 31) (hb : b < 2 ^ 31) (h : a ≠ b) : (nI a = nI b) = False := by
  rw [nI_eq ha hb]
  exact eq_false h
theorem nI_e {a b : Nat} (h : a = b) : (nI a = nI b) = True := eq_true (by rw [h])
theorem wR_hd {l : List Nat} (h : wl l) (hl : l.length ≤ 8) : jrem (wR l) 10 = nI (l.headD 0) := by
  cases l with
  | nil => rfl
  | cons d l => exact wR_mod h hl
theorem wl_tail {l : List Nat} (h : wl l) : wl l.tail := fun d hd => h d (List.mem_of_mem_tail hd)
theorem wR_div100 {d : Nat} {l : List Nat} (h : wl (d :: l)) (hl : (d :: l).length ≤ 8) : wR (d :: l) / 100 = wR l.tail := by
  have h1 := vr_8 h hl
  have h2 := (wl_cons.mp h).1.2
  show nI _ / nI 100 = nI _
  rw [pk_div (by omega) (by decide) (by decide)]
  congr 1
  cases l with
  | nil => simp only [vr, List.tail_nil]; omega
  | cons e l =>
    have h3 := (wl_cons.mp (wl_cons.mp h).2).1.2
    simp only [vr, List.tail_cons]
    omega
theorem mirrored_N {l : List Nat} (h : wl l) (hl : l.length ≤ 8) : m_Wo_mirrored (wN l) = some (wR l) := by
  rw [wN_rev, mirrored_ok (wl_rev.mpr h) (by simpa using hl), wN_rev]
  simp
/-- a decree of the kinds 0, 1, 2 -/
def dcD (a : Nat) : List Nat → List Nat
  | [] => []
  | d :: l => if d = a then dcD a l else d :: dcD a l
def dcJ (a b c : Nat) : List Nat → List Nat
  | [] => []
  | [d] => [d]
  | d :: e :: l => if d = a ∧ e = b then c :: dcJ a b c l else d :: dcJ a b c (e :: l)
def dcS (a : Nat) : Nat → List Nat → List Nat
  | _, [] => []
  | p, d :: l => if d = a ∧ p = a then dcS a d l else d :: dcS a d l
def dcl (k a b c : Nat) (l : List Nat) : List Nat := if k = 0 then dcD a l else if k = 1 then dcJ a b c l else dcS a 0 l
theorem dcJ_c {a b c d : Nat} {l : List Nat} (hb : 1 ≤ b) : dcJ a b c (d :: l) = if d = a ∧ l.headD 0 = b then c :: dcJ a b c l.tail else d :: dcJ a b c l := by
  cases l with
  | nil =>
    rw [if_neg (by simp; omega)]
    simp only [dcJ]
  | cons e l =>
    simp only [dcJ, List.headD_cons, List.tail_cons]
    rfl
theorem dcD_wl {a : Nat} : ∀ {l : List Nat}, wl l → wl (dcD a l) ∧ (dcD a l).length ≤ l.length := by
  intro l
  induction l with
  | nil => intro h; exact ⟨h, Nat.le_refl _⟩
  | cons d l ih =>
    intro h
    obtain ⟨h1, h2⟩ := wl_cons.mp h
    obtain ⟨h3, h4⟩ := ih h2
    simp only [dcD]
    split
    · exact ⟨h3, by simp; omega⟩
    · exact ⟨wl_cons.mpr ⟨h1, h3⟩, by simp; omega⟩
theorem dcS_wl {a : Nat} : ∀ {l : List Nat} {p : Nat}, wl l → wl (dcS a p l) ∧ (dcS a p l).length ≤ l.length := by
  intro l
  induction l with
  | nil => intro p h; exact ⟨h, Nat.le_refl _⟩
  | cons d l ih =>
    intro p h
    obtain ⟨h1, h2⟩ := wl_cons.mp h
    obtain ⟨h3, h4⟩ := ih (p := d) h2
    simp only [dcS]
    split
    · exact ⟨h3, by simp; omega⟩
    · exact ⟨wl_cons.mpr ⟨h1, h3⟩, by simp; omega⟩
theorem dcJ_wl {a b c : Nat} (hb : 1 ≤ b) (hc : 1 ≤ c ∧ c ≤ 6) : ∀ (n : Nat) {l : List Nat}, l.length ≤ n → wl l → wl (dcJ a b c l) ∧ (dcJ a b c l).length ≤ l.length := by
  intro n
  induction n with
  | zero =>
    intro l hl h
    have : l = [] := List.length_eq_zero_iff.mp (by omega)
    subst this
    exact ⟨h, Nat.le_refl _⟩
  | succ n ih =>
    intro l hl h
    cases l with
    | nil => exact ⟨h, Nat.le_refl _⟩
    | cons d l =>
      simp only [List.length_cons] at hl
      obtain ⟨h1, h2⟩ := wl_cons.mp h
      rw [dcJ_c hb]
      split
      · obtain ⟨h3, h4⟩ := ih (l := l.tail) (by simp; omega) (wl_tail h2)
        simp only [List.length_tail] at h4
        exact ⟨wl_cons.mpr ⟨hc, h3⟩, by simp; omega⟩
      · obtain ⟨h3, h4⟩ := ih (l := l) (by omega) h2
        exact ⟨wl_cons.mpr ⟨h1, h3⟩, by simp; omega⟩
/-- a decree's numbers -/
def okN4 (k a b c : Nat) : Prop := k ≤ 2 ∧ (1 ≤ a ∧ a ≤ 6) ∧ b ≤ 6 ∧ c ≤ 6 ∧ (k = 1 → 1 ≤ b ∧ 1 ≤ c)
theorem dcl_wl {k a b c : Nat} {l : List Nat} (hd : okN4 k a b c) (h : wl l) : wl (dcl k a b c l) ∧ (dcl k a b c l).length ≤ l.length := by
  unfold dcl
  split
  · exact dcD_wl h
  · split
    · rename_i h1
      exact dcJ_wl (hd.2.2.2.2 h1).1 ⟨(hd.2.2.2.2 h1).2, hd.2.2.2.1⟩ l.length (Nat.le_refl _) h
    · exact dcS_wl h
theorem dropped_ok {a : Nat} {l : List Nat} (ha : a ≤ 6) (h : wl l) (hl : l.length ≤ 8) : m_Wo_dropped (wR l) (nI a) = some (wN (dcD a l)) := by
  refine kEx ?_
  unfold m_Wo_dropped
  refine kB (fun r => r = wN (dcD a l)) (kDig (fun l' i s => ∃ acc, s = (wN acc, wR l', nI i) ∧ acc ++ dcD a l' = dcD a l) ?_ ?_ h (i := 0) (by omega) ⟨[], rfl, rfl⟩) (fun x hx => kOk_i hx)
  · rintro i _ hi ⟨acc, rfl, hacc⟩
    refine ⟨wN acc, ?_, by rw [← hacc]; simp [dcD]⟩
    simp only [m_Wo_dropped_l7]
    split
    · rfl
    · simp [wR_nil]
  · rintro d l' i _ hw hl hi ⟨acc, rfl, hacc⟩
    refine Or.inl ?_
    have hd := (wl_cons.mp hw).1
    by_cases hda : d = a
    · refine ⟨(wN acc, wR l', nI (i + 1)), l', i + 1, ?_, Nat.le_refl _, (wl_cons.mp hw).2, by simp; omega, acc, rfl, ?_⟩
      · simp only [m_Wo_dropped_l7, nI_8n hi, wR_c0 hw hl, wR_mod hw hl, wR_div hw hl, if_false, nI_e hda, if_true, bS, nI_1]
      · rw [← hacc]; simp [dcD, hda]
    · refine ⟨(wN (acc ++ [d]), wR l', nI (i + 1)), l', i + 1, ?_, Nat.le_refl _, (wl_cons.mp hw).2, by simp; omega, acc ++ [d], rfl, ?_⟩
      · simp only [m_Wo_dropped_l7, nI_8n hi, wR_c0 hw hl, wR_mod hw hl, wR_div hw hl, if_false, nI_ne (a := d) (b := a) (by omega) (by omega) hda, bS, nI_1, wN_snoc]
      · rw [← hacc]; simp [dcD, hda]
theorem joined_ok {a b c : Nat} {l : List Nat} (ha : a ≤ 6) (hb : 1 ≤ b ∧ b ≤ 6) (h : wl l) (hl : l.length ≤ 8) : m_Wo_joined (wR l) (nI a) (nI b) (nI c) = some (wN (dcJ a b c l)) := by
  refine kEx ?_
  unfold m_Wo_joined
  refine kB (fun r => r = wN (dcJ a b c l)) (kDig (fun l' i s => ∃ acc, s = (wN acc, wR l', nI i) ∧ acc ++ dcJ a b c l' = dcJ a b c l) ?_ ?_ h (i := 0) (by omega) ⟨[], rfl, rfl⟩) (fun x hx => kOk_i hx)
  · rintro i _ hi ⟨acc, rfl, hacc⟩
    refine ⟨wN acc, ?_, by rw [← hacc]; simp [dcJ]⟩
    simp only [m_Wo_joined_l9]
    split
    · rfl
    · simp [wR_nil]
  · rintro d l' i _ hw hl hi ⟨acc, rfl, hacc⟩
    refine Or.inl ?_
    have hd := (wl_cons.mp hw).1
    have hw' := (wl_cons.mp hw).2
    have hl' : l'.length ≤ 8 := by simp at hl; omega
    have hh : l'.headD 0 ≤ 6 := by
      cases l' with
      | nil => simp
      | cons e l => exact (wl_cons.mp hw').1.2
    rw [dcJ_c hb.1] at hacc
    by_cases hda : d = a
    · by_cases heb : l'.headD 0 = b
      · rw [if_pos ⟨hda, heb⟩] at hacc
        refine ⟨(wN (acc ++ [c]), wR l'.tail, nI (i + 1)), l'.tail, i + 1, ?_, by simp, wl_tail hw', by simp; omega, acc ++ [c], rfl, ?_⟩
        · simp only [m_Wo_joined_l9, nI_8n hi, wR_c0 hw hl, wR_mod hw hl, wR_div hw hl, wR_div100 hw hl, wR_hd hw' hl', if_false, nI_e hda, nI_e heb, if_true, bS, nI_1, wN_snoc]
        · rw [← hacc]; simp
      · rw [if_neg (fun h => heb h.2)] at hacc
        refine ⟨(wN (acc ++ [d]), wR l', nI (i + 1)), l', i + 1, ?_, Nat.le_refl _, hw', by simp; omega, acc ++ [d], rfl, ?_⟩
        · simp only [m_Wo_joined_l9, nI_8n hi, wR_c0 hw hl, wR_mod hw hl, wR_div hw hl, wR_hd hw' hl', if_false, nI_e hda, if_true, nI_ne (a := l'.headD 0) (b := b) (by omega) (by omega) heb, bS, nI_1, wN_snoc]
        · rw [← hacc]; simp
    · rw [if_neg (fun h => hda h.1)] at hacc
      refine ⟨(wN (acc ++ [d]), wR l', nI (i + 1)), l', i + 1, ?_, Nat.le_refl _, hw', by simp; omega, acc ++ [d], rfl, ?_⟩
      · simp only [m_Wo_joined_l9, nI_8n hi, wR_c0 hw hl, wR_mod hw hl, wR_div hw hl, if_false, nI_ne (a := d) (b := a) (by omega) (by omega) hda, bS, nI_1, wN_snoc]
      · rw [← hacc]; simp
theorem single_ok {a : Nat} {l : List Nat} (ha : a ≤ 6) (h : wl l) (hl : l.length ≤ 8) : m_Wo_single (wR l) (nI a) = some (wN (dcS a 0 l)) := by
  refine kEx ?_
  unfold m_Wo_single
  refine kB (fun r => r = wN (dcS a 0 l)) (kDig (fun l' i s => ∃ acc p, s = (wN acc, nI p, wR l', nI i) ∧ p ≤ 6 ∧ acc ++ dcS a p l' = dcS a 0 l) ?_ ?_ h (i := 0) (by omega) ⟨[], 0, rfl, by omega, rfl⟩) (fun x hx => kOk_i hx)
  · rintro i _ hi ⟨acc, p, rfl, hp, hacc⟩
    refine ⟨wN acc, ?_, by rw [← hacc]; simp [dcS]⟩
    simp only [m_Wo_single_l10]
    split
    · rfl
    · simp [wR_nil]
  · rintro d l' i _ hw hl hi ⟨acc, p, rfl, hp, hacc⟩
    refine Or.inl ?_
    have hd := (wl_cons.mp hw).1
    by_cases hda : d = a
    · by_cases hpa : p = a
      · refine ⟨(wN acc, nI d, wR l', nI (i + 1)), l', i + 1, ?_, Nat.le_refl _, (wl_cons.mp hw).2, by simp; omega, acc, d, rfl, by omega, ?_⟩
        · simp only [m_Wo_single_l10, nI_8n hi, wR_c0 hw hl, wR_mod hw hl, wR_div hw hl, if_false, nI_e hda, nI_e hpa, if_true, bS, nI_1]
        · rw [← hacc]; simp [dcS, hda, hpa]
      · refine ⟨(wN (acc ++ [d]), nI d, wR l', nI (i + 1)), l', i + 1, ?_, Nat.le_refl _, (wl_cons.mp hw).2, by simp; omega, acc ++ [d], d, rfl, by omega, ?_⟩
        · simp only [m_Wo_single_l10, nI_8n hi, wR_c0 hw hl, wR_mod hw hl, wR_div hw hl, if_false, nI_e hda, if_true, nI_ne (a := p) (b := a) (by omega) (by omega) hpa, bS, nI_1, wN_snoc]
        · rw [← hacc]; simp [dcS, hpa]
    · refine ⟨(wN (acc ++ [d]), nI d, wR l', nI (i + 1)), l', i + 1, ?_, Nat.le_refl _, (wl_cons.mp hw).2, by simp; omega, acc ++ [d], d, rfl, by omega, ?_⟩
      · simp only [m_Wo_single_l10, nI_8n hi, wR_c0 hw hl, wR_mod hw hl, wR_div hw hl, if_false, nI_ne (a := d) (b := a) (by omega) (by omega) hda, bS, nI_1, wN_snoc]
      · rw [← hacc]; simp [dcS, hda]
theorem decreed_ok {k a b c : Nat} {l : List Nat} (hd : okN4 k a b c) (h : wl l) (hl : l.length ≤ 8) : m_Wo_decreed (nI k) (nI a) (nI b) (nI c) (wN l) = some (wN (dcl k a b c l)) := by
  obtain ⟨hk, ha, hb, hc, hj⟩ := hd
  unfold m_Wo_decreed dcl
  rw [mirrored_N h hl, bS]
  by_cases h0 : k = 0
  · subst h0
    rw [if_pos (show nI 0 = 0 from rfl), if_pos rfl, dropped_ok ha.2 h hl]
    rfl
  · rw [if_neg (by show ¬ nI k = nI 0; rw [nI_eq (by omega) (by omega)]; exact h0), if_neg h0]
    by_cases h1 : k = 1
    · subst h1
      rw [if_pos (show nI 1 = 1 from rfl), if_pos rfl, joined_ok ha.2 ⟨(hj rfl).1, hb⟩ h hl]
      rfl
    · rw [if_neg (by show ¬ nI k = nI 1; rw [nI_eq (by omega) (by omega)]; exact h1), if_neg h1, single_ok ha.2 h hl]
      rfl
theorem letters_ok {l : List Nat} (h : wl l) (hl : l.length ≤ 8) : m_Wo_letters (wN l) = some (nI l.length) := by
  refine kEx ?_
  unfold m_Wo_letters
  refine kB (fun r => r = nI l.length) (kDig (fun l' i s => s = (nI i, wR l', nI i) ∧ l'.length + i = l.length) ?_ ?_ (l := l.reverse) (i := 0) (wl_rev.mpr h) (by simpa using hl) ⟨rfl, by simp⟩) (fun x hx => kOk_i hx)
  · rintro i _ hi ⟨rfl, hacc⟩
    refine ⟨nI i, ?_, by simp at hacc; rw [hacc]⟩
    simp only [m_Wo_letters_l6]
    split
    · rfl
    · simp [wR_nil]
  · rintro d l' i _ hw hl hi ⟨rfl, hacc⟩
    refine Or.inl ⟨(nI (i + 1), wR l', nI (i + 1)), l', i + 1, ?_, Nat.le_refl _, (wl_cons.mp hw).2, by simp; omega, rfl, by simp at hacc; omega⟩
    simp only [m_Wo_letters_l6, nI_8n hi, wR_c0 hw hl, wR_div hw hl, if_false, nI_1]
/-- the letters of a word's number -/
def dgr : Nat → Nat → List Nat
  | 0, _ => []
  | k + 1, n => if n = 0 then [] else (n % 10) :: dgr k (n / 10)
theorem dgr_vr : ∀ {l : List Nat} {k : Nat}, wl l → l.length ≤ k → dgr k (vr l) = l := by
  intro l
  induction l with
  | nil =>
    intro k _ _
    cases k <;> simp [dgr, vr]
  | cons d l ih =>
    intro k h hk
    simp only [List.length_cons] at hk
    obtain ⟨k, rfl⟩ : ∃ j, k = j + 1 := ⟨k - 1, by omega⟩
    obtain ⟨h1, h2⟩ := wl_cons.mp h
    have h3 := vr_pos l h1.1
    simp only [dgr]
    rw [if_neg (by omega), vr_mod l h1.2, vr_div l h1.2, ih h2 (by omega)]
def dg (w : Int32) : List Nat := (dgr 8 w.toNatClampNeg).reverse
theorem dg_wN {l : List Nat} (h : wl l) (hl : l.length ≤ 8) : dg (wN l) = l := by
  unfold dg wN
  have h1 := vr_8 (wl_rev.mpr h) (by simpa using hl)
  rw [nI_clamp (by omega), dgr_vr (wl_rev.mpr h) (by simpa using hl)]
  simp
theorem dg_0 : dg 0 = [] := dg_wN (l := []) wl_nil (by simp)
theorem wN_inj {a b : List Nat} (ha : wl a) (la : a.length ≤ 8) (hb : wl b) (lb : b.length ≤ 8) (h : wN a = wN b) : a = b := by
  have := congrArg dg h
  rwa [dg_wN ha la, dg_wN hb lb] at this
/-- the number of a word, or of the empty one -/
def vW (w : Int32) : Prop := ∃ l, wl l ∧ l.length ≤ 8 ∧ w = wN l
theorem vW_dg {w : Int32} (h : vW w) : wl (dg w) ∧ (dg w).length ≤ 8 ∧ w = wN (dg w) := by
  obtain ⟨l, h1, h2, rfl⟩ := h
  rw [dg_wN h1 h2]
  exact ⟨h1, h2, rfl⟩
theorem vW_wN {l : List Nat} (h : wl l) (hl : l.length ≤ 8) : vW (wN l) := ⟨l, h, hl, rfl⟩
theorem vW_0 : vW 0 := ⟨[], wl_nil, by simp, rfl⟩
theorem vW_eq {x y : Int32} (hx : vW x) (hy : vW y) : x = y ↔ dg x = dg y := by
  refine ⟨fun h => by rw [h], fun h => ?_⟩
  rw [(vW_dg hx).2.2, (vW_dg hy).2.2, h]
/-- how many letters -/
def nl (w : Int32) : Nat := (dg w).length
theorem letters_w {w : Int32} (h : vW w) : m_Wo_letters w = some (nI (nl w)) := by
  obtain ⟨h1, h2, h3⟩ := vW_dg h
  have := letters_ok h1 h2
  rw [← h3] at this
  exact this
/-- what a decree makes of a word's number -/
def dz (k a b c w : Int32) : Int32 := wN (dcl k.toNatClampNeg a.toNatClampNeg b.toNatClampNeg c.toNatClampNeg (dg w))
def okD (k a b c : Int32) : Prop := ∃ k' a' b' c' : Nat, okN4 k' a' b' c' ∧ k = nI k' ∧ a = nI a' ∧ b = nI b' ∧ c = nI c'
theorem okN4_b {k a b c : Nat} (h : okN4 k a b c) : k < 2 ^ 31 ∧ a < 2 ^ 31 ∧ b < 2 ^ 31 ∧ c < 2 ^ 31 := by
  obtain ⟨h1, h2, h3, h4, -⟩ := h
  omega
theorem dz_nI {k a b c : Nat} {w : Int32} (h : okN4 k a b c) : dz (nI k) (nI a) (nI b) (nI c) w = wN (dcl k a b c (dg w)) := by
  obtain ⟨h1, h2, h3, h4⟩ := okN4_b h
  unfold dz
  rw [nI_clamp h1, nI_clamp h2, nI_clamp h3, nI_clamp h4]
theorem decreed_w {k a b c w : Int32} (hd : okD k a b c) (h : vW w) : m_Wo_decreed k a b c w = some (dz k a b c w) ∧ vW (dz k a b c w) := by
  obtain ⟨k, a, b, c, hd, rfl, rfl, rfl, rfl⟩ := hd
  obtain ⟨h1, h2, h3⟩ := vW_dg h
  rw [dz_nI hd]
  have h4 := decreed_ok hd h1 h2
  rw [← h3] at h4
  have h5 := dcl_wl hd h1
  exact ⟨h4, vW_wN h5.1 (by omega)⟩
