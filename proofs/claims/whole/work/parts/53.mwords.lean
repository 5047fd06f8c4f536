/-! LAYER 2: the model's reading of words; what is a word on both sides -/
theorem in_eq (x lo hi : Int32) : m_Mo_in x lo hi = some (if x < lo ∨ hi < x then 0 else 1) := by
  unfold m_Mo_in
  by_cases h1 : x < lo
  · rw [if_pos h1, if_pos (Or.inl h1)]; rfl
  · rw [if_neg h1]
    by_cases h2 : hi < x
    · rw [if_pos h2, if_pos (Or.inr h2)]; rfl
    · rw [if_neg h2, if_neg (fun h => h.elim h1 h2)]; rfl
theorem in_n {x lo hi : Nat} (hx : x < 2 ^ 31) (hl : lo < 2 ^ 31) (hh : hi < 2 ^ 31) : m_Mo_in (nI x) (nI lo) (nI hi) = some (if lo ≤ x ∧ x ≤ hi then 1 else 0) := by
  rw [in_eq]
  by_cases h : lo ≤ x ∧ x ≤ hi
  · rw [if_pos h, if_neg]
    rw [nI_ltI hx hl, nI_ltI hh hx]
    omega
  · rw [if_neg h, if_pos]
    rw [nI_ltI hx hl, nI_ltI hh hx]
    omega
/-- in a range: by cases -/
theorem in_c (x : Int32) {lo hi : Nat} (hh : hi < 2 ^ 31) (hl : lo ≤ hi) : (∃ j, lo ≤ j ∧ j ≤ hi ∧ x = nI j ∧ m_Mo_in x (nI lo) (nI hi) = some 1) ∨ ((x < nI lo ∨ nI hi < x) ∧ m_Mo_in x (nI lo) (nI hi) = some 0) := by
  rw [in_eq]
  by_cases h : x < nI lo ∨ nI hi < x
  · rw [if_pos h]; exact Or.inr ⟨h, rfl⟩
  · rw [if_neg h]
    have h1 : nI lo ≤ x := Int32.not_lt.mp (fun e => h (Or.inl e))
    have h2 : x ≤ nI hi := Int32.not_lt.mp (fun e => h (Or.inr e))
    have h0 : ¬ x < 0 := fun e => by
      have := Int32.lt_of_lt_of_le e (nI_pos' (n := lo) (by omega))
      exact h (Or.inl (Int32.lt_of_lt_of_le e (Int32.le_trans (nI_pos' (n := lo) (by omega)) (Int32.le_refl _))))
    obtain ⟨j, hj, rfl⟩ := nI_of3 hh h0 h2
    exact Or.inl ⟨j, (nI_leI (by omega) (by omega)).mp h1, hj, rfl, rfl⟩
theorem MisLetter_n {d : Nat} (hd : d < 2 ^ 31) : m_Mo_isLetter (nI d) = some (if 1 ≤ d ∧ d ≤ 6 then 1 else 0) := by
  unfold m_Mo_isLetter
  rw [show m_Mo_in (nI d) 1 6 = _ from in_n hd (lo := 1) (hi := 6) (by omega) (by omega), bS, kz_j, bS]
theorem WisLetter_n {d : Nat} (hd : d < 2 ^ 31) : m_Wo_isLetter (nI d) = some (if 1 ≤ d ∧ d ≤ 6 then 1 else 0) := by
  unfold m_Wo_isLetter
  by_cases h1 : 1 ≤ d
  · rw [if_neg (by rw [show (1 : Int32) = nI 1 from rfl, nI_ltI hd (by omega)]; omega)]
    by_cases h2 : d ≤ 6
    · rw [if_neg (by rw [show (6 : Int32) = nI 6 from rfl, nI_ltI (by omega) hd]; omega), if_pos ⟨h1, h2⟩]; rfl
    · rw [if_pos (by rw [show (6 : Int32) = nI 6 from rfl, nI_ltI (by omega) hd]; omega), if_neg (fun h => h2 h.2)]; rfl
  · rw [if_pos (by rw [show (1 : Int32) = nI 1 from rfl, nI_ltI hd (by omega)]; omega), if_neg (fun h => h1 h.1)]; rfl
theorem WisLetter_eq (x : Int32) : m_Wo_isLetter x = m_Mo_isLetter x := by
  unfold m_Wo_isLetter m_Mo_isLetter
  rw [in_eq]
  by_cases h1 : x < 1
  · rw [if_pos h1, if_pos (Or.inl h1)]
  · rw [if_neg h1]
    by_cases h2 : 6 < x
    · rw [if_pos h2, if_pos (Or.inr h2)]
    · rw [if_neg h2, if_neg (fun h => h.elim h1 h2)]
/-- all digits are letters -/
def alL : Nat → Nat → Bool
  | 0, _ => true
  | k + 1, n => if n = 0 then true else if 1 ≤ n % 10 ∧ n % 10 ≤ 6 then alL k (n / 10) else false
theorem alL_w : ∀ {k n : Nat}, n < 10 ^ k → alL k n = true → ∃ l, wl l ∧ l.length ≤ k ∧ n = vr l := by
  intro k
  induction k with
  | zero =>
    intro n hn _
    exact ⟨[], wl_nil, by simp, by simp at hn; simp [vr, hn]⟩
  | succ k ih =>
    intro n hn h
    simp only [alL] at h
    by_cases h0 : n = 0
    · exact ⟨[], wl_nil, by simp, by simp [vr, h0]⟩
    · rw [if_neg h0] at h
      by_cases h1 : 1 ≤ n % 10 ∧ n % 10 ≤ 6
      · rw [if_pos h1] at h
        rw [Nat.pow_succ] at hn
        obtain ⟨l, h2, h3, h4⟩ := ih (by omega) h
        exact ⟨n % 10 :: l, wl_cons.mpr ⟨h1, h2⟩, by simp; omega, by simp only [vr]; omega⟩
      · rw [if_neg h1] at h
        cases h
def wB (n : Nat) : Bool := alL 8 n
theorem wB_w {n : Nat} (h0 : 1 ≤ n) (hn : n ≤ 66666666) (h : wB n = true) : ∃ l, wl l ∧ 1 ≤ l.length ∧ l.length ≤ 8 ∧ nI n = wN l := by
  obtain ⟨l, h1, h2, h3⟩ := alL_w (k := 8) (by omega) h
  refine ⟨l.reverse, wl_rev.mpr h1, ?_, by simpa using h2, by simp [wN, h3]⟩
  cases l with
  | nil => simp [vr] at h3; omega
  | cons d l => simp
theorem WisWord_n {n : Nat} (h0 : 1 ≤ n) (hn : n ≤ 66666666) : m_Wo_isWord (nI n) = some (if wB n = true then 1 else 0) := by
  unfold m_Wo_isWord
  rw [if_neg (by rw [show (1 : Int32) = nI 1 from rfl, nI_ltI (by omega) (by omega)]; omega), if_pos (by rw [show (66666666 : Int32) = nI 66666666 from rfl, nI_leI (by omega) (by omega)]; omega)]
  have hlp : kOk (kLp m_Wo_isWord_l17 kFU (nI n, 0)) (fun r => (r = .inl 0 ∧ wB n = false) ∨ (r = .inr () ∧ wB n = true)) := by
    refine kFor (fun i s => ∃ q, s = (nI q, nI i) ∧ q < 10 ^ (8 - i) ∧ alL (8 - i) q = wB n) 8 ?_ ?_ (i0 := 0) (by omega) (by omega) ⟨n, rfl, by omega, rfl⟩
    · rintro i s hi ⟨q, rfl, hq, hal⟩
      obtain ⟨k, hk⟩ : ∃ k, 8 - i = k + 1 := ⟨8 - i - 1, by omega⟩
      have hk2 : 8 - (i + 1) = k := by omega
      have hq9 : q < 100000000 := Nat.lt_of_lt_of_le hq (Nat.le_trans (Nat.pow_le_pow_right (by decide) (show _ ≤ 8 by omega)) (by decide))
      rw [hk] at hal hq
      rw [Nat.pow_succ] at hq
      simp only [alL] at hal
      by_cases hq0 : q = 0
      · rw [if_pos hq0] at hal
        refine Or.inr ⟨.inr (), ?_, Or.inr ⟨rfl, hal.symm⟩⟩
        simp only [m_Wo_isWord_l17, nI_8n hi, if_false, hq0]
        rfl
      · rw [if_neg hq0] at hal
        have e1 : m_Wo_isLetter (jrem (nI q) 10) = some (if 1 ≤ q % 10 ∧ q % 10 ≤ 6 then 1 else 0) := by
          rw [show jrem (nI q) 10 = nI (q % 10) from remN (d := 10) (by omega) (by omega) (by omega)]
          exact WisLetter_n (by omega)
        have e2 : (nI q = 0) = False := nI_ne (b := 0) (by omega) (by omega) hq0
        have e3 : nI q / 10 = nI (q / 10) := pk_div (d := 10) (by omega) (by omega) (by omega)
        by_cases h1 : 1 ≤ q % 10 ∧ q % 10 ≤ 6
        · rw [if_pos h1] at hal
          refine Or.inl ⟨(nI (q / 10), nI (i + 1)), ?_, q / 10, rfl, by rw [hk2]; omega, by rw [hk2]; exact hal⟩
          simp only [m_Wo_isWord_l17, nI_8n hi, if_false, e2, e1, bS, if_pos h1, e3, nI_1]
          rfl
        · rw [if_neg h1] at hal
          refine Or.inr ⟨.inl 0, ?_, Or.inl ⟨rfl, hal.symm⟩⟩
          simp only [m_Wo_isWord_l17, nI_8n hi, if_false, e2, e1, bS, if_neg h1]
          rfl
    · rintro s ⟨q, rfl, hq, hal⟩
      exact ⟨.inr (), rfl, Or.inr ⟨rfl, hal.symm⟩⟩
  obtain ⟨r, e, hr⟩ := hlp
  rw [e, bS]
  rcases hr with ⟨rfl, hb⟩ | ⟨rfl, hb⟩
  · rw [if_neg (by rw [hb]; simp)]
  · rw [if_pos hb]; rfl
theorem MisWord_n {n : Nat} (h0 : 1 ≤ n) (hn : n ≤ 66666666) : m_Mo_isWord (nI n) = some (if wB n = true then 1 else 0) := by
  unfold m_Mo_isWord
  rw [show m_Mo_in (nI n) 1 66666666 = some 1 from by
    rw [show m_Mo_in (nI n) 1 66666666 = _ from in_n (x := n) (lo := 1) (hi := 66666666) (by omega) (by omega) (by omega), if_pos ⟨h0, hn⟩], bS]
  have hlp : kOk (kLp m_Mo_isWord_l10 kFU (1, nI n)) (fun r => r = if wB n = true then 1 else 0) := by
    refine kWh (fun m s => (∃ k q, m = k + 1 ∧ k ≤ 8 ∧ s = (1, nI q) ∧ q < 10 ^ k ∧ alL k q = wB n) ∨ (m = 0 ∧ ∃ v, s = (0, v) ∧ wB n = false)) ?_ 9 _ (by omega) (Or.inl ⟨8, n, rfl, by omega, rfl, by omega, rfl⟩)
    rintro m s (⟨k, q, rfl, hk, rfl, hq, hal⟩ | ⟨rfl, v, rfl, hb⟩)
    · have hq9 : q < 100000000 := Nat.lt_of_lt_of_le hq (Nat.le_trans (Nat.pow_le_pow_right (by decide) (show _ ≤ 8 by omega)) (by decide))
      by_cases hq0 : q = 0
      · refine Or.inr ⟨1, ?_, ?_⟩
        · simp only [m_Mo_isWord_l10, hq0]
          rfl
        · have : alL k q = true := by
            cases k with
            | zero => rfl
            | succ k => simp only [alL]; rw [if_pos hq0]
          rw [if_pos (by rw [← hal]; exact this)]
      · obtain ⟨k, rfl⟩ : ∃ j, k = j + 1 := ⟨k - 1, by
          cases k with
          | zero => simp at hq; omega
          | succ k => omega⟩
        simp only [alL] at hal
        rw [if_neg hq0] at hal
        rw [Nat.pow_succ] at hq
        have e1 : m_Mo_isLetter (jrem (nI q) 10) = some (if 1 ≤ q % 10 ∧ q % 10 ≤ 6 then 1 else 0) := by
          rw [show jrem (nI q) 10 = nI (q % 10) from remN (d := 10) (by omega) (by omega) (by omega)]
          exact MisLetter_n (by omega)
        have e2 : (nI q ≤ 0) = False := eq_false (nI_nle (by omega) (by omega))
        have e3 : nI q / 10 = nI (q / 10) := pk_div (d := 10) (by omega) (by omega) (by omega)
        have e4 : ((1 : Int32) = 0) = False := by decide
        by_cases h1 : 1 ≤ q % 10 ∧ q % 10 ≤ 6
        · rw [if_pos h1] at hal
          refine Or.inl ⟨(1, nI (q / 10)), k + 1, ?_, by omega, Or.inl ⟨k, q / 10, rfl, by omega, rfl, by omega, hal⟩⟩
          simp only [m_Mo_isWord_l10, e2, e4, if_false, e1, bS, if_pos h1, e3]
        · rw [if_neg h1] at hal
          refine Or.inl ⟨(0, nI (q / 10)), 0, ?_, by omega, Or.inr ⟨rfl, _, rfl, hal.symm⟩⟩
          simp only [m_Mo_isWord_l10, e2, e4, if_false, e1, bS, if_neg h1, e3]
    · refine Or.inr ⟨0, ?_, by rw [if_neg (by rw [hb]; simp)]⟩
      simp only [m_Mo_isWord_l10]
      split
      · rfl
      · rfl
  rw [kEx hlp, bS, kz_j, bS]
/-- a word, or none, on both sides -/
theorem isWord_c (x : Int32) : (m_Wo_isWord x = some 1 ∧ m_Mo_isWord x = some 1 ∧ vW x ∧ x ≠ 0) ∨ (m_Wo_isWord x = some 0 ∧ m_Mo_isWord x = some 0) := by
  rcases in_c x (lo := 1) (hi := 66666666) (by omega) (by omega) with ⟨j, h1, h2, rfl, h3⟩ | ⟨h1, h2⟩
  · rw [WisWord_n h1 h2, MisWord_n h1 h2]
    by_cases hb : wB j = true
    · obtain ⟨l, h4, h5, h6, h7⟩ := wB_w h1 h2 hb
      rw [if_pos hb]
      exact Or.inl ⟨rfl, rfl, ⟨l, h4, h6, h7⟩, nI_ne0 (by omega) (by omega)⟩
    · rw [if_neg hb]
      exact Or.inr ⟨rfl, rfl⟩
  · refine Or.inr ⟨?_, ?_⟩
    · unfold m_Wo_isWord
      by_cases h3 : x < 1
      · rw [if_pos h3]; rfl
      · rw [if_neg h3]
        have h4 : nI 66666666 < x := h1.elim (fun e => (h3 e).elim) id
        rw [if_neg (show ¬ x ≤ 66666666 from fun e => (Int32.not_le.mpr h4) e)]
        rfl
    · unfold m_Mo_isWord
      rw [show m_Mo_in x 1 66666666 = some 0 from h2, bS]
      have : kLp m_Mo_isWord_l10 kFU (0, x) = some 0 := by
        rw [kFU_s]
        refine kLp_r ?_
        simp only [m_Mo_isWord_l10]
        split
        · rfl
        · rfl
      rw [this]
      rfl
theorem lettersOf_R {l : List Nat} (h : wl l) (hl : l.length ≤ 8) : m_Mo_lettersOf (wR l) = some (nI l.length) := by
  refine kEx ?_
  unfold m_Mo_lettersOf
  refine kB (fun r => r = nI l.length) (kDig (fun l' i s => s = (nI i, wR l') ∧ l'.length + i = l.length) ?_ ?_ (l := l) (i := 0) h (by simpa using hl) ⟨rfl, by simp⟩) (fun x hx => kOk_i hx)
  · rintro i _ hi ⟨rfl, hacc⟩
    exact ⟨nI i, by simp only [m_Mo_lettersOf_l4]; rfl, by simp at hacc; rw [hacc]⟩
  · rintro d l' i _ hw hl hi ⟨rfl, hacc⟩
    refine Or.inl ⟨(nI (i + 1), wR l'), l', i + 1, ?_, Nat.le_refl _, (wl_cons.mp hw).2, by simp; omega, rfl, by simp at hacc; omega⟩
    have e : (wR (d :: l') ≤ 0) = False := eq_false (nI_nle (vr_pos l' (wl_cons.mp hw).1.1) (by have := vr_8 hw hl; omega))
    simp only [m_Mo_lettersOf_l4, e, wR_div hw hl, if_false, nI_1]
theorem lettersOf_ok {l : List Nat} (h : wl l) (hl : l.length ≤ 8) : m_Mo_lettersOf (wN l) = some (nI l.length) := by
  rw [wN_rev, lettersOf_R (wl_rev.mpr h) (by simpa using hl), List.length_reverse]
theorem lettersOf_w {w : Int32} (h : vW w) : m_Mo_lettersOf w = some (nI (nl w)) := by
  obtain ⟨h1, h2, h3⟩ := vW_dg h
  have := lettersOf_ok h1 h2
  rw [← h3] at this
  exact this
theorem tk_snoc : ∀ {l : List Nat} {k : Nat}, k < l.length → l.take (k + 1) = l.take k ++ [l.getD k 0] := by
  intro l
  induction l with
  | nil => intro k h; simp at h
  | cons d l ih =>
    intro k h
    cases k with
    | zero => simp
    | succ k =>
      simp only [List.length_cons] at h
      rw [List.take_succ_cons, ih (by omega), List.take_succ_cons]
      simp
theorem dp_cons : ∀ {l : List Nat} {k : Nat}, k < l.length → l.drop k = l.getD k 0 :: l.drop (k + 1) := by
  intro l
  induction l with
  | nil => intro k h; simp at h
  | cons d l ih =>
    intro k h
    cases k with
    | zero => simp
    | succ k =>
      simp only [List.length_cons] at h
      rw [List.drop_succ_cons, ih (by omega), List.drop_succ_cons]
      simp
theorem wl_take {l : List Nat} (h : wl l) (k : Nat) : wl (l.take k) := fun d hd => h d (List.mem_of_mem_take hd)
theorem wl_drop {l : List Nat} (h : wl l) (k : Nat) : wl (l.drop k) := fun d hd => h d (List.mem_of_mem_drop hd)
theorem getD_le {l : List Nat} (h : wl l) (k : Nat) : l.getD k 0 ≤ 6 := by
  by_cases hk : k < l.length
  · have h1 : l.getD k 0 ∈ l := by
      rw [List.getD_eq_getElem?_getD, List.getElem?_eq_getElem hk]
      exact List.getElem_mem hk
    exact (h _ h1).2
  · rw [List.getD_eq_getElem?_getD, List.getElem?_eq_none (by omega)]
    simp
theorem getD_out {l : List Nat} {k : Nat} (hk : l.length ≤ k) : l.getD k 0 = 0 := by
  rw [List.getD_eq_getElem?_getD, List.getElem?_eq_none hk]
  rfl
theorem wN_div {d : Nat} {l : List Nat} (h : wl (l ++ [d])) (hl : (l ++ [d]).length ≤ 8) : wN (l ++ [d]) / 10 = wN l ∧ jrem (wN (l ++ [d])) 10 = nI d := by
  have e : wN (l ++ [d]) = wR (d :: l.reverse) := by rw [wN_rev]; simp
  have h1 : wl (d :: l.reverse) := by
    obtain ⟨h1, h2⟩ := wl_app.mp h
    exact wl_cons.mpr ⟨(wl_cons.mp h2).1, wl_rev.mpr h1⟩
  rw [e, wR_div h1 (by simpa using hl), wR_mod h1 (by simpa using hl)]
  exact ⟨rfl, rfl⟩
theorem letterAt_ok {l : List Nat} {p : Nat} (h : wl l) (hl : l.length ≤ 8) (hp : p < 1000) : m_Mo_letterAt (wN l) (nI p) = some (nI (l.getD p 0)) := by
  refine kEx ?_
  unfold m_Mo_letterAt
  rw [lettersOf_ok h hl, bS]
  by_cases hpl : p < l.length
  · refine kB (fun r => r = wN (l.take (p + 1))) (kFor (fun i s => s = (wN (l.take (l.length - i)), nI (l.length - 1 - i)) ∧ i ≤ l.length - 1 - p) (l.length - 1 - p) ?_ ?_ (i0 := 0) (by omega) (by omega) ⟨?_, by omega⟩) ?_
    · rintro i s hi ⟨rfl, _⟩
      refine Or.inl ⟨(wN (l.take (l.length - (i + 1))), nI (l.length - 1 - (i + 1))), ?_, rfl, by omega⟩
      have e1 : (nI (l.length - 1 - i) ≤ nI p) = False := by
        rw [nI_leI (by omega) (by omega)]; exact eq_false (by omega)
      have e2 : l.take (l.length - i) = l.take (l.length - (i + 1)) ++ [l.getD (l.length - (i + 1)) 0] := by
        rw [← tk_snoc (by omega)]
        congr 1
        omega
      have e3 : wN (l.take (l.length - i)) / 10 = wN (l.take (l.length - (i + 1))) := by
        rw [e2]
        exact (wN_div (by rw [← e2]; exact wl_take h _) (by rw [← e2]; simp; omega)).1
      have e4 : nI (l.length - 1 - i) + (-1) = nI (l.length - 1 - (i + 1)) := by
        rw [show l.length - 1 - i = (l.length - 1 - (i + 1)) + 1 by omega, pk_m1]
      simp only [m_Mo_letterAt_l9, e1, if_false, e3, e4]
    · rintro s ⟨rfl, _⟩
      refine ⟨wN (l.take (p + 1)), ?_, rfl⟩
      have e1 : nI (l.length - 1 - (l.length - 1 - p)) ≤ nI p := by
        rw [nI_leI (by omega) (by omega)]; omega
      simp only [m_Mo_letterAt_l9]
      rw [if_pos e1, show l.length - (l.length - 1 - p) = p + 1 by omega]
    · rw [show nI l.length - 1 = nI (l.length - 1) from pk_sub (b := 1) (by omega)]
      simp
    · rintro x rfl
      rw [bS, if_neg (by rw [nI_leI (by omega) (by omega)]; omega), bS]
      refine kOk_i ?_
      have e2 := tk_snoc hpl
      rw [e2]
      exact (wN_div (by rw [← e2]; exact wl_take h _) (by rw [← e2]; simp; omega)).2
  · have e : kLp (m_Mo_letterAt_l9 (nI p)) kFU (wN l, nI l.length - 1) = some (wN l) := by
      rw [kFU_s]
      refine kLp_r ?_
      have e1 : nI l.length - 1 ≤ nI p := by
        cases hn : l.length with
        | zero => exact Int32.le_trans (show nI 0 - 1 ≤ 0 by decide) (nI_pos' (by omega))
        | succ n =>
          rw [nI_pred, nI_leI (by omega) (by omega)]
          omega
      simp only [m_Mo_letterAt_l9]
      rw [if_pos e1]
    rw [e, bS, bS, if_pos (by rw [nI_leI (by omega) (by omega)]; omega), bS]
    exact kOk_i (by rw [getD_out (by omega)]; rfl)
/-- the model's way with doubled letters: the last one of a row is left -/
def dcT (a : Nat) : List Nat → List Nat
  | [] => []
  | d :: l => if d = a ∧ l.headD 0 = a then dcT a l else d :: dcT a l
theorem dcT_S {a : Nat} (ha : 1 ≤ a) : ∀ (l : List Nat), (∀ p, p ≠ a → dcS a p l = dcT a l) ∧ a :: dcS a a l = dcT a (a :: l) := by
  intro l
  induction l with
  | nil =>
    refine ⟨fun p hp => rfl, ?_⟩
    simp only [dcS, dcT]
    rw [if_neg (by simp; omega)]
  | cons d l ih =>
    obtain ⟨ih1, ih2⟩ := ih
    by_cases hda : d = a
    · subst hda
      refine ⟨fun p hp => ?_, ?_⟩
      · simp only [dcS]
        rw [if_neg (fun h => hp h.2)]
        exact ih2
      · simp only [dcS]
        rw [if_pos ⟨by trivial, by trivial⟩, ih2]
        show _ = dcT d (d :: d :: l)
        rw [show dcT d (d :: d :: l) = if d = d ∧ (d :: l).headD 0 = d then dcT d (d :: l) else d :: dcT d (d :: l) from rfl, if_pos ⟨rfl, rfl⟩]
    · refine ⟨fun p hp => ?_, ?_⟩
      · simp only [dcS, dcT]
        rw [if_neg (fun h => hda h.1), if_neg (fun h => hda h.1), ih1 d hda]
      · rw [show dcT a (a :: d :: l) = if a = a ∧ (d :: l).headD 0 = a then dcT a (d :: l) else a :: dcT a (d :: l) from rfl, if_neg (fun h => hda h.2)]
        simp only [dcS, dcT]
        rw [if_neg (fun h => hda h.1), if_neg (fun h => hda h.1), ih1 d hda]
theorem drop_hd {l : List Nat} {p : Nat} : (l.drop (p + 1)).headD 0 = l.getD (p + 1) 0 := by
  by_cases h : p + 1 < l.length
  · rw [dp_cons h]; rfl
  · rw [List.drop_eq_nil_of_le (by omega), getD_out (by omega)]; rfl
/-- the model's loop over a word, for a function G that takes it so apart -/
theorem made_loop {k a b c : Nat} {l : List Nat} {G : List Nat → List Nat} (hd : okN4 k a b c) (h : wl l) (hl : l.length ≤ 8) (hG0 : G [] = [])
    (hG : ∀ p, p < l.length → G (l.drop p) = if k = 1 ∧ l.getD p 0 = a ∧ l.getD (p + 1) 0 = b then c :: G (l.drop (p + 2)) else if l.getD p 0 = a ∧ (k = 0 ∨ k = 2 ∧ l.getD (p + 1) 0 = a) then G (l.drop (p + 1)) else l.getD p 0 :: G (l.drop (p + 1))) :
    kLp (m_Mo_made_l59 (wN l) (nI k) (nI a) (nI b) (nI c) (nI l.length)) kFU (0, 0) = some (wN (G l)) := by
  obtain ⟨hk, ha, hb, hc, hj⟩ := hd
  refine kEx (kWh (fun m s => ∃ p acc, m = l.length + 1 - p ∧ s = (wN acc, nI p) ∧ p ≤ l.length + 1 ∧ acc ++ G (l.drop p) = G l) ?_ (l.length + 1) _ (by omega) ⟨0, [], rfl, rfl, by omega, rfl⟩)
  rintro m s ⟨p, acc, rfl, rfl, hp, hacc⟩
  by_cases hpl : l.length ≤ p
  · refine Or.inr ⟨wN acc, ?_, ?_⟩
    · simp only [m_Mo_made_l59]
      rw [if_pos (by rw [nI_leI (by omega) (by omega)]; omega)]
    · rw [List.drop_eq_nil_of_le hpl, hG0, List.append_nil] at hacc
      rw [hacc]
  · rw [hG p (by omega)] at hacc
    have e0 : (nI l.length ≤ nI p) = False := by rw [nI_leI (by omega) (by omega)]; exact eq_false hpl
    have hd1 := getD_le h p
    have hd2 := getD_le h (p + 1)
    have e1 := letterAt_ok (p := p) h hl (by omega)
    have e2 := letterAt_ok (p := p + 1) h hl (by omega)
    have f1 : (nI k = 1) = (k = 1) := propext (nI_eq (b := 1) (by omega) (by omega))
    have f0 : (nI k = 0) = (k = 0) := propext (nI_eq (b := 0) (by omega) (by omega))
    have f2 : (nI k = 2) = (k = 2) := propext (nI_eq (b := 2) (by omega) (by omega))
    have g1 : (nI (l.getD p 0) = nI a) = (l.getD p 0 = a) := propext (nI_eq (by omega) (by omega))
    have g2 : (nI (l.getD (p + 1) 0) = nI b) = (l.getD (p + 1) 0 = b) := propext (nI_eq (by omega) (by omega))
    have g3 : (nI (l.getD (p + 1) 0) = nI a) = (l.getD (p + 1) 0 = a) := propext (nI_eq (by omega) (by omega))
    have u1 : ((1 : Int32) = 0) = False := by decide
    have sn : ∀ x : Nat, 10 * wN acc + nI x = wN (acc ++ [x]) := fun x => by rw [wN_snoc, Int32.mul_comm]
    have m1 : nI p + 2 = nI (p + 2) := nI_add p 2
    by_cases c1 : k = 1 ∧ l.getD p 0 = a ∧ l.getD (p + 1) 0 = b
    · rw [if_pos c1] at hacc
      refine Or.inl ⟨(wN (acc ++ [c]), nI (p + 2)), l.length + 1 - (p + 2), ?_, by omega, p + 2, acc ++ [c], rfl, rfl, by omega, by rw [← hacc]; simp⟩
      simp only [m_Mo_made_l59, e0, if_false, e1, nI_1, e2, bS, f1, f0, f2, g1, g2, g3]
      simp only [c1.1, c1.2.1, c1.2.2, if_true, bS, u1, if_false, sn, m1]
      simp only [show ((1 : Nat) = 0) = False by decide, show ((1 : Nat) = 2) = False by decide, if_false, bS]
    · rw [if_neg c1] at hacc
      have hpair : (if k = 1 then if l.getD p 0 = a then if l.getD (p + 1) 0 = b then some 1 else some 0 else some 0 else some 0 : Option Int32) = some 0 := by
        split
        · split
          · split
            · rename_i x y z; exact (c1 ⟨x, y, z⟩).elim
            · rfl
          · rfl
        · rfl
      by_cases c2 : l.getD p 0 = a ∧ (k = 0 ∨ k = 2 ∧ l.getD (p + 1) 0 = a)
      · rw [if_pos c2] at hacc
        have hlost : (if l.getD p 0 = a then if k = 0 then some 1 else if k = 2 then if l.getD (p + 1) 0 = a then some 1 else some 0 else some 0 else some 0 : Option Int32) = some 1 := by
          rw [if_pos c2.1]
          rcases c2.2 with x | ⟨x, y⟩
          · rw [if_pos x]
          · rw [if_neg (by omega), if_pos x, if_pos y]
        refine Or.inl ⟨(wN acc, nI (p + 1)), l.length + 1 - (p + 1), ?_, by omega, p + 1, acc, rfl, rfl, by omega, hacc⟩
        simp only [m_Mo_made_l59, e0, if_false, e1, nI_1, e2, bS, f1, f0, f2, g1, g2, g3, hpair, hlost, u1, if_true]
      · rw [if_neg c2] at hacc
        have hlost : (if l.getD p 0 = a then if k = 0 then some 1 else if k = 2 then if l.getD (p + 1) 0 = a then some 1 else some 0 else some 0 else some 0 : Option Int32) = some 0 := by
          split
          · rename_i x
            split
            · rename_i y; exact (c2 ⟨x, Or.inl y⟩).elim
            · split
              · rename_i z
                split
                · rename_i w; exact (c2 ⟨x, Or.inr ⟨z, w⟩⟩).elim
                · rfl
              · rfl
          · rfl
        refine Or.inl ⟨(wN (acc ++ [l.getD p 0]), nI (p + 1)), l.length + 1 - (p + 1), ?_, by omega, p + 1, acc ++ [l.getD p 0], rfl, rfl, by omega, by rw [← hacc]; simp⟩
        simp only [m_Mo_made_l59, e0, if_false, e1, nI_1, e2, bS, f1, f0, f2, g1, g2, g3, hpair, hlost, u1, if_true, sn]
theorem made_list {k a b c : Nat} {l : List Nat} (hd : okN4 k a b c) (h : wl l) (hl : l.length ≤ 8) :
    kLp (m_Mo_made_l59 (wN l) (nI k) (nI a) (nI b) (nI c) (nI l.length)) kFU (0, 0) = some (wN (dcl k a b c l)) := by
  have hd' := hd
  obtain ⟨hk, ha, hb, hc, hj⟩ := hd'
  unfold dcl
  by_cases h0 : k = 0
  · subst h0
    rw [if_pos rfl]
    refine made_loop hd h hl rfl (fun p hp => ?_)
    rw [dp_cons hp, if_neg (by omega)]
    simp only [dcD]
    by_cases hx : l.getD p 0 = a
    · rw [if_pos hx, if_pos ⟨hx, Or.inl (by trivial)⟩]
    · rw [if_neg hx, if_neg (fun e => hx e.1)]
  · rw [if_neg h0]
    by_cases h1 : k = 1
    · subst h1
      rw [if_pos rfl]
      refine made_loop hd h hl rfl (fun p hp => ?_)
      rw [dp_cons hp, dcJ_c (hj rfl).1, drop_hd, List.tail_drop]
      by_cases hx : l.getD p 0 = a ∧ l.getD (p + 1) 0 = b
      · rw [if_pos hx, if_pos ⟨by trivial, hx⟩]
      · rw [if_neg hx, if_neg (fun e => hx e.2), if_neg (by omega)]
    · have h2 : k = 2 := by omega
      subst h2
      rw [if_neg h1, (dcT_S ha.1 l).1 0 (by omega)]
      refine made_loop hd h hl rfl (fun p hp => ?_)
      rw [dp_cons hp, if_neg (by omega)]
      simp only [dcT]
      rw [drop_hd]
      by_cases hx : l.getD p 0 = a ∧ l.getD (p + 1) 0 = a
      · rw [if_pos hx, if_pos ⟨hx.1, Or.inr ⟨by trivial, hx.2⟩⟩]
      · rw [if_neg hx, if_neg (fun e => hx ⟨e.1, e.2.elim (fun z => by omega) (fun z => z.2)⟩)]
theorem made_w {u n : Nat} {w : Int32} {M : KMem} (hn : n < 10) (hd : okD (M (u + 1) (42 + 5 * n)) (M (u + 1) (42 + 5 * n + 1)) (M (u + 1) (42 + 5 * n + 2)) (M (u + 1) (42 + 5 * n + 3))) (h : vW w) :
    m_Mo_made u (nI n) w M = some (dz (M (u + 1) (42 + 5 * n)) (M (u + 1) (42 + 5 * n + 1)) (M (u + 1) (42 + 5 * n + 2)) (M (u + 1) (42 + 5 * n + 3)) w) := by
  obtain ⟨k, a, b, c, hd, e0, e1, e2, e3⟩ := hd
  obtain ⟨h1, h2, h3⟩ := vW_dg h
  have f : ∀ j : Nat, j < 5 → rdI M (u + 1) 108 (nI (42 + 5 * n + j)) = some (M (u + 1) (42 + 5 * n + j)) := fun j hj => rdN (by omega) (by omega)
  have g : ∀ j : Nat, (42 : Int32) + 5 * nI n + nI j = nI (42 + 5 * n + j) := fun j => by
    rw [show (5 : Int32) * nI n = nI (5 * n) from pk_mul 5 n, show (42 : Int32) + nI (5 * n) = nI (42 + 5 * n) from nI_add _ _, nI_add]
  unfold m_Mo_made m_Mo_ofDecree
  rw [bS, show (42 : Int32) + 5 * nI n + 0 = nI (42 + 5 * n) from g 0, show rdI M (u + 1) 108 (nI (42 + 5 * n)) = some (M (u + 1) (42 + 5 * n)) from f 0 (by omega), bS, bS, show (42 : Int32) + 5 * nI n + 1 = nI (42 + 5 * n + 1) from g 1, f 1 (by omega), bS, bS, show (42 : Int32) + 5 * nI n + 2 = nI (42 + 5 * n + 2) from g 2, f 2 (by omega), bS, bS, show (42 : Int32) + 5 * nI n + 3 = nI (42 + 5 * n + 3) from g 3, f 3 (by omega), bS, e0, e1, e2, e3, dz_nI hd]
  have hlo := lettersOf_w h
  rw [hlo, bS]
  have := made_list hd h1 h2
  rw [← h3] at this
  rw [show nl w = (dg w).length from rfl, this, bS]
