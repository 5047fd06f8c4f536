theorem WisLetter_n {d : Nat} (hd : d < 2 ^ 31) : m_Wo_isLetter (nI d) = some (if 1 ≤ d ∧ d ≤ 6 then 1 else 0) := by
  unfold m_Wo_isLetter
  by_cases h1 : 1 ≤ d
  · rw [if_neg (by rw [show (1 : Int32) = nI 1 from rfl, nI_ltI hd (by omega)]; omega)]
    by_cases h2 : d ≤ 6
    · rw [if_neg (by rw [show (6 : Int32) = nI 6 from rfl, nI_ltI (by omega) hd]; omega), if_pos ⟨h1, h2⟩]; rfl
    · rw [if_pos (by rw [show (6 : Int32) = nI 6 from rfl, nI_ltI (by omega) hd]; omega), if_neg (fun h => h2 h.2)]; rfl
  · rw [if_pos (by rw [show (1 : Int32) = nI 1 from rfl, nI_ltI hd (by omega)]; omega), if_neg (fun h => h1 h.1)]; rfl
/-- all digits are letters -/
def alL : Nat → Nat → Bool
  | 0, _ => true
  | k + 1, n => if n = 0 then true else if 1 ≤ n % 10 ∧ n % 10 ≤ 6 then alL k (n / 10) else false
theorem alL_w : ∀ {k n : Nat}, n < 10 ^ k → alL k n = true → ∃ l, wl l ∧ l.length ≤ k ∧ n = vr l := by
  intro k
  induction k with
  | zero =>
    intro n hn _
    exact ⟨[], wl_nil, by simp, by simp at hn; simp [vr, hn]⟩
  | succ k ih =>
    intro n hn h
    simp only [alL] at h
    by_cases h0 : n = 0
    · exact ⟨[], wl_nil, by simp, by simp [vr, h0]⟩
    · rw [if_neg h0] at h
      by_cases h1 : 1 ≤ n % 10 ∧ n % 10 ≤ 6
      · rw [if_pos h1] at h
        rw [Nat.pow_succ] at hn
        obtain ⟨l, h2, h3, h4⟩ := ih (by omega) h
        exact ⟨n % 10 :: l, wl_cons.mpr ⟨h1, h2⟩, by simp; omega, by simp only [vr]; omega⟩
      · rw [if_neg h1] at h
        cases h
def wB (n : Nat) : Bool := alL 8 n
theorem wB_w {n : Nat} (h0 : 1 ≤ n) (hn : n ≤ 66666666) (h : wB n = true) : ∃ l, wl l ∧ 1 ≤ l.length ∧ l.length ≤ 8 ∧ nI n = wN l := by
  obtain ⟨l, h1, h2, h3⟩ := alL_w (k := 8) (by omega) h
  refine ⟨l.reverse, wl_rev.mpr h1, ?_, by simpa using h2, by simp [wN, h3]⟩
  cases l with
  | nil => simp [vr] at h3; omega
  | cons d l => simp
theorem WisWord_n {n : Nat} (h0 : 1 ≤ n) (hn : n ≤ 66666666) : m_Wo_isWord (nI n) = some (if wB n = true then 1 else 0) := by
  unfold m_Wo_isWord
  rw [if_neg (by rw [show (1 : Int32) = nI 1 from rfl, nI_ltI (by omega) (by omega)]; omega), if_pos (by rw [show (66666666 : Int32) = nI 66666666 from rfl, nI_leI (by omega) (by omega)]; omega)]
  have hlp : kOk (kLp m_Wo_isWord_l17 kFU (nI n, 0)) (fun r => (r = .inl 0 ∧ wB n = false) ∨ (r = .inr () ∧ wB n = true)) := by
    refine kFor (fun i s => ∃ q, s = (nI q, nI i) ∧ q < 10 ^ (8 - i) ∧ alL (8 - i) q = wB n) 8 ?_ ?_ (i0 := 0) (by omega) (by omega) ⟨n, rfl, by omega, rfl⟩
    · rintro i s hi ⟨q, rfl, hq, hal⟩
      obtain ⟨k, hk⟩ : ∃ k, 8 - i = k + 1 := ⟨8 - i - 1, by omega⟩
      have hk2 : 8 - (i + 1) = k := by omega
      have hq9 : q < 100000000 := Nat.lt_of_lt_of_le hq (Nat.le_trans (Nat.pow_le_pow_right (by decide) (show _ ≤ 8 by omega)) (by decide))
      rw [hk] at hal hq
      rw [Nat.pow_succ] at hq
      simp only [alL] at hal
      by_cases hq0 : q = 0
      · rw [if_pos hq0] at hal
        refine Or.inr ⟨.inr (), ?_, Or.inr ⟨rfl, hal.symm⟩⟩
        simp only [m_Wo_isWord_l17, nI_8n hi, if_false, hq0]
        rfl
      · rw [if_neg hq0] at hal
        have e1 : m_Wo_isLetter (jrem (nI q) 10) = some (if 1 ≤ q % 10 ∧ q % 10 ≤ 6 then 1 else 0) := by
          rw [show jrem (nI q) 10 = nI (q % 10) from remN (d := 10) (by omega) (by omega) (by omega)]
          exact WisLetter_n (by omega)
        have e2 : (nI q = 0) = False := nI_ne (b := 0) (by omega) (by omega) hq0
        have e3 : nI q / 10 = nI (q / 10) := pk_div (d := 10) (by omega) (by omega) (by omega)
        by_cases h1 : 1 ≤ q % 10 ∧ q % 10 ≤ 6
        · rw [if_pos h1] at hal
          refine Or.inl ⟨(nI (q / 10), nI (i + 1)), ?_, q / 10, rfl, by rw [hk2]; omega, by rw [hk2]; exact hal⟩
          simp only [m_Wo_isWord_l17, nI_8n hi, if_false, e2, e1, bS, if_pos h1, e3, nI_1]
          rfl
        · rw [if_neg h1] at hal
          refine Or.inr ⟨.inl 0, ?_, Or.inl ⟨rfl, hal.symm⟩⟩
          simp only [m_Wo_isWord_l17, nI_8n hi, if_false, e2, e1, bS, if_neg h1]
          rfl
    · rintro s ⟨q, rfl, hq, hal⟩
      exact ⟨.inr (), rfl, Or.inr ⟨rfl, hal.symm⟩⟩
  obtain ⟨r, e, hr⟩ := hlp
  rw [e, bS]
  rcases hr with ⟨rfl, hb⟩ | ⟨rfl, hb⟩
  · rw [if_neg (by rw [hb]; simp)]
  · rw [if_pos hb]; rfl
theorem tk_snoc : ∀ {l : List Nat} {k : Nat}, k < l.length → l.take (k + 1) = l.take k ++ [l.getD k 0] := by
  intro l
  induction l with
  | nil => intro k h; simp at h
  | cons d l ih =>
    intro k h
    cases k with
    | zero => simp
    | succ k =>
      simp only [List.length_cons] at h
      rw [List.take_succ_cons, ih (by omega), List.take_succ_cons]
      simp
theorem dp_cons : ∀ {l : List Nat} {k : Nat}, k < l.length → l.drop k = l.getD k 0 :: l.drop (k + 1) := by
  intro l
  induction l with
  | nil => intro k h; simp at h
  | cons d l ih =>
    intro k h
    cases k with
    | zero => simp
    | succ k =>
      simp only [List.length_cons] at h
      rw [List.drop_succ_cons, ih (by omega), List.drop_succ_cons]
      simp
theorem wl_take {l : List Nat} (h : wl l) (k : Nat) : wl (l.take k) := fun d hd => h d (List.mem_of_mem_take hd)
theorem wl_drop {l : List Nat} (h : wl l) (k : Nat) : wl (l.drop k) := fun d hd => h d (List.mem_of_mem_drop hd)
theorem getD_le {l : List Nat} (h : wl l) (k : Nat) : l.getD k 0 ≤ 6 := by
  by_cases hk : k < l.length
  · have h1 : l.getD k 0 ∈ l := by
      rw [List.getD_eq_getElem?_getD, List.getElem?_eq_getElem hk]
      exact List.getElem_mem hk
    exact (h _ h1).2
  · rw [List.getD_eq_getElem?_getD, List.getElem?_eq_none (by omega)]
    simp
theorem getD_out {l : List Nat} {k : Nat} (hk : l.length ≤ k) : l.getD k 0 = 0 := by
  rw [List.getD_eq_getElem?_getD, List.getElem?_eq_none hk]
  rfl
theorem wN_div {d : Nat} {l : List Nat} (h : wl (l ++ [d])) (hl : (l ++ [d]).length ≤ 8) : wN (l ++ [d]) / 10 = wN l ∧ jrem (wN (l ++ [d])) 10 = nI d := by
  have e : wN (l ++ [d]) = wR (d :: l.reverse) := by rw [wN_rev]; simp
  have h1 : wl (d :: l.reverse) := by
    obtain ⟨h1, h2⟩ := wl_app.mp h
    exact wl_cons.mpr ⟨(wl_cons.mp h2).1, wl_rev.mpr h1⟩
  rw [e, wR_div h1 (by simpa using hl), wR_mod h1 (by simpa using hl)]
  exact ⟨rfl, rfl⟩
/-- the model's way with doubled letters: the last one of a row is left -/
def dcT (a : Nat) : List Nat → List Nat
  | [] => []
  | d :: l => if d = a ∧ l.headD 0 = a then dcT a l else d :: dcT a l
theorem dcT_S {a : Nat} (ha : 1 ≤ a) : ∀ (l : List Nat), (∀ p, p ≠ a → dcS a p l = dcT a l) ∧ a :: dcS a a l = dcT a (a :: l) := by
  intro l
  induction l with
  | nil =>
    refine ⟨fun p hp => rfl, ?_⟩
    simp only [dcS, dcT]
    rw [if_neg (by simp; omega)]
  | cons d l ih =>
    obtain ⟨ih1, ih2⟩ := ih
    by_cases hda : d = a
    · subst hda
      refine ⟨fun p hp => ?_, ?_⟩
      · simp only [dcS]
        rw [if_neg (fun h => hp h.2)]
        exact ih2
      · simp only [dcS]
        rw [if_pos ⟨by trivial, by trivial⟩, ih2]
        show _ = dcT d (d :: d :: l)
        rw [show dcT d (d :: d :: l) = if d = d ∧ (d :: l).headD 0 = d then dcT d (d :: l) else d :: dcT d (d :: l) from rfl, if_pos ⟨rfl, rfl⟩]
    · refine ⟨fun p hp => ?_, ?_⟩
      · simp only [dcS, dcT]
        rw [if_neg (fun h => hda h.1), if_neg (fun h => hda h.1), ih1 d hda]
      · rw [show dcT a (a :: d :: l) = if a = a ∧ (d :: l).headD 0 = a then dcT a (d :: l) else a :: dcT a (d :: l) from rfl, if_neg (fun h => hda h.2)]
        simp only [dcS, dcT]
        rw [if_neg (fun h => hda h.1), if_neg (fun h => hda h.1), ih1 d hda]
theorem drop_hd {l : List Nat} {p : Nat} : (l.drop (p + 1)).headD 0 = l.getD (p + 1) 0 := by
  by_cases h : p + 1 < l.length
  · rw [dp_cons h]; rfl
  · rw [List.drop_eq_nil_of_le (by omega), getD_out (by omega)]; rfl
