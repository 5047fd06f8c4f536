/-! LAYER 2: words, months and commands in the text -/
theorem C_mark {len : Nat} {T : Nat → Nat} {M0 M : KMem} {p m : Nat} {c g n : Int32} (hT : TX len T) (h : CX len T M0 p c g n M) (hp : p ≤ len) (hm : m < 256) :
    kOk (m_Tx_readMark 1 (nI m) M) (fun q => q.1 = b01 (decide (Hit len T p m m)) ∧ CX len T M0 (if Hit len T p m m then p + 1 else p) c g n q.2) := by
  have hl := hT.1
  unfold m_Tx_readMark
  rw [C_more hT h hp, bS]
  by_cases g1 : p < len
  · have ht := hT.2 p g1
    rw [if_pos g1, if_neg u10, C_rd hT h g1, bS]
    by_cases g2 : T p = m
    · have hh : Hit len T p m m := ⟨g1, by omega, by omega⟩
      rw [if_pos (by rw [g2]), bS, if_pos hh, decide_eq_true hh]
      show kOk (some ((1 : Int32), _)) _
      refine kOk_i ⟨rfl, ?_⟩
      show CX len T M0 (p + 1) c g n (kup M 1 2 (M 1 2 + 1))
      obtain ⟨h0, h1, h2, h3, h4, h5, h6⟩ := h
      refine ⟨frS.k h0 rfl, ?_, fun i hi => ?_, ?_, ?_, ?_, ?_⟩
      · rw [kup_j _ _ _ (by omega)]; exact h1
      · rw [kup_n _ _ _ (by omega)]; exact h2 i hi
      · rw [kup_s, h3, nI_1]
      · rw [kup_j _ _ _ (by omega)]; exact h4
      · rw [kup_j _ _ _ (by omega)]; exact h5
      · rw [kup_j _ _ _ (by omega)]; exact h6
    · have hh : ¬ Hit len T p m m := fun z => g2 (by have := z.2; omega)
      rw [if_neg (fun z => g2 ((nI_eq (by omega) (by omega)).mp z)), if_neg hh, decide_eq_false hh]
      exact kOk_i ⟨rfl, h⟩
  · have hh : ¬ Hit len T p m m := fun z => g1 z.1
    rw [if_neg g1, if_pos rfl, if_neg hh, decide_eq_false hh]
    exact kOk_i ⟨rfl, h⟩
theorem M_mark {len : Nat} {T : Nat → Nat} {M0 M : KMem} {p m : Nat} (hT : TX len T) (h : MX len T M0 p 0 M) (hp : p ≤ len) (hm : m < 256) :
    kOk (m_Mo_takes 235 (nI m) (nI m) M) (fun q => q.1 = 0 ∧ MX len T M0 (if Hit len T p m m then p + 1 else p) (bd (decide (Hit len T p m m))) q.2 ∧ ∀ j, j ≠ 15 → j ≠ 16 → q.2 235 j = M 235 j) := by
  by_cases hh : Hit len T p m m
  · refine kWk _ (M_hit hT h hh hm) ?_
    rintro q ⟨q1, q2, q3⟩
    rw [if_pos hh, decide_eq_true hh]
    exact ⟨by rw [q1, show T p - m = 0 by have := hh.2; omega]; rfl, q2, q3⟩
  · refine kWk _ (M_miss hT h hp hh hm hm) ?_
    rintro q ⟨q1, q2, q3⟩
    rw [if_neg hh, decide_eq_false hh]
    exact ⟨q1, q2, q3⟩
/-- the end of the class's word -/
abbrev cEnd (r : (Int32 × KMem) ⊕ KMem) : Option (Int32 × KMem) := match r with
 | .inl q => some q
 | .inr M24 =>
 (Option.bind (m_Tx_readMark 1 46 M24) fun (x26, M27) =>
 Option.bind (kz x26) fun z28 =>
 some (z28, M27))
abbrev mEnd (r : Int32 × KMem) : Option (Int32 × KMem) := match r with
 | (v1_14, M15) =>
 Option.bind (m_Mo_takes 235 46 46 M15) fun (x17, M18) =>
 some (v1_14, M18)
theorem W_both {len : Nat} {T : Nat → Nat} (hT : TX len T) : ∀ k i p l, i + k = 8 → wl l → l.length = i → p ≤ len → ∃ (ok : Bool) (p' : Nat) (l' : List Nat), p ≤ p' ∧ p' ≤ len ∧ (wl l' ∧ i ≤ l'.length ∧ l'.length ≤ 8) ∧
    (∀ M0 M c g F, CX len T M0 p c g (wN l) M → k < F → kOk (Option.bind (kLp (m_Tx_readWord_l24 1) F (nI i, M)) cEnd) (fun q => q.1 = b01 ok ∧ CX len T M0 p' c g (wN l') q.2)) ∧
    (∀ M0 M F, MX len T M0 p 0 M → k < F → kOk (Option.bind (kLp (m_Mo_readWord_l13 235) F (wN l, nI i, M)) mEnd) (fun q => q.1 = wN l' ∧ MX len T M0 p' (bd ok) q.2 ∧ ∀ j, j ≠ 15 → j ≠ 16 → q.2 235 j = M 235 j)) := by
  have exC : ∀ {M0 M : KMem} {p : Nat} {c g n : Int32}, CX len T M0 p c g n M → p ≤ len → kOk (cEnd (.inr M)) (fun q => q.1 = b01 (decide (Hit len T p 46 46)) ∧ CX len T M0 (if Hit len T p 46 46 then p + 1 else p) c g n q.2) := fun {M0 M p c g n} h hp => by
    show kOk (Option.bind (m_Tx_readMark 1 (nI 46) M) _) _
    refine kB _ (C_mark hT h hp (by omega)) ?_
    rintro ⟨x, M1⟩ ⟨q1, q2⟩
    simp only at q1 q2
    subst q1
    show kOk (Option.bind (kz (b01 _)) _) _
    rw [kz_j, bS]
    exact kOk_i ⟨rfl, q2⟩
  have exM : ∀ {M0 M : KMem} {p : Nat} {v : Int32}, MX len T M0 p 0 M → p ≤ len → kOk (mEnd (v, M)) (fun q => q.1 = v ∧ MX len T M0 (if Hit len T p 46 46 then p + 1 else p) (bd (decide (Hit len T p 46 46))) q.2 ∧ ∀ j, j ≠ 15 → j ≠ 16 → q.2 235 j = M 235 j) := fun {M0 M p v} h hp => by
    show kOk (Option.bind (m_Mo_takes 235 (nI 46) (nI 46) M) _) _
    refine kB _ (M_mark hT h hp (by omega)) ?_
    rintro ⟨x, M1⟩ ⟨q1, q2, q3⟩
    exact kOk_i ⟨rfl, q2, q3⟩
  have pe : ∀ p, p ≤ len → p ≤ (if Hit len T p 46 46 then p + 1 else p) ∧ (if Hit len T p 46 46 then p + 1 else p) ≤ len := fun p hp => by
    by_cases hh : Hit len T p 46 46
    · rw [if_pos hh]; have := hh.1; omega
    · rw [if_neg hh]; omega
  have hl := hT.1
  intro k
  induction k with
  | zero =>
    intro i p l hik hw hi hp
    have hi8 : i = 8 := by omega
    subst hi8
    obtain ⟨p1, p2⟩ := pe p hp
    refine ⟨decide (Hit len T p 46 46), _, l, p1, p2, ⟨hw, by omega, by omega⟩, fun M0 M c g F hc hF => ?_, fun M0 M F hm hF => ?_⟩
    · obtain ⟨f, rfl⟩ : ∃ f, F = f + 1 := ⟨F - 1, by omega⟩
      rw [kLp_r (r := .inr M)]
      · rw [bS]
        exact exC hc hp
      · unfold m_Tx_readWord_l24
        show (if 8 ≤ nI 8 then _ else _) = _
        rw [if_pos (by decide)]
    · obtain ⟨f, rfl⟩ : ∃ f, F = f + 1 := ⟨F - 1, by omega⟩
      rw [kLp_r (r := (wN l, M))]
      · rw [bS]
        exact exM hm hp
      · unfold m_Mo_readWord_l13
        show (if 8 ≤ nI 8 then _ else _) = _
        rw [if_pos (by decide)]
  | succ k ih =>
    intro i p l hik hw hi hp
    have hi8 : ¬ (8 : Int32) ≤ nI i := fun z => by rw [nI_8n (by omega)] at z; exact z
    by_cases hL : Hit len T p (48 + 1) (48 + 6)
    · -- a letter
      have hd : 1 ≤ T p - 48 ∧ T p - 48 ≤ 6 := by have := hL.2; omega
      have n46 : ¬ nI (T p) = 46 := fun z => by
        have := (nI_eq (a := T p) (b := 46) (by have := hT.2 p hL.1; omega) (by omega)).mp z
        have := hL.2
        omega
      obtain ⟨ok, p', l', g1, g2, g3, g4, g5⟩ := ih (i + 1) (p + 1) (l ++ [T p - 48]) (by omega) (wl_app.mpr ⟨hw, wl_cons.mpr ⟨hd, wl_nil⟩⟩) (by simp [hi]) (by have := hL.1; omega)
      refine ⟨ok, p', l', by omega, g2, ⟨g3.1, by omega, g3.2.2⟩, fun M0 M c g F hc hF => ?_, fun M0 M F hm hF => ?_⟩
      · obtain ⟨f, rfl⟩ : ∃ f, F = f + 1 := ⟨F - 1, by omega⟩
        obtain ⟨⟨x, M1⟩, em, t1, t2⟩ := C_hit (lo := 1) (hi := 6) hT hc hL (by omega)
        simp only at t1 t2
        subst t1
        rw [← wN_snoc] at t2
        rw [kLp_i (s' := (nI (i + 1), M1))]
        · exact g4 M0 M1 c g f t2 (by omega)
        · unfold m_Tx_readWord_l24
          show (if 8 ≤ nI i then _ else _) = _
          rw [if_neg hi8, C_more hT hc hp, if_pos hL.1, bS, if_neg u10, C_rd hT hc hL.1, bS, if_neg n46]
          unfold m_Tx_readLetter
          rw [show m_Tx_readDigit 1 1 6 M = _ from em, bS]
          show Option.bind (Option.bind (kz 1) fun z4 => some (z4, M1)) _ = _
          rw [kz_1, bS, bS]
          show (if (1 : Int32) = 0 then _ else _) = _
          rw [if_neg u10, nI_1]
      · obtain ⟨f, rfl⟩ : ∃ f, F = f + 1 := ⟨F - 1, by omega⟩
        obtain ⟨⟨x, M1⟩, em, t1, t2, t3⟩ := M_hit (a := 49) (b := 54) hT hm hL (by omega)
        simp only at t1 t2 t3
        subst t1
        rw [kLp_i (s' := (wN (l ++ [T p - 48]), nI (i + 1), M1))]
        · refine kWk _ (g5 M0 M1 f t2 (by omega)) ?_
          rintro q ⟨q1, q2, q3⟩
          exact ⟨q1, q2, fun j j1 j2 => (q3 j j1 j2).trans (t3 j j1 j2)⟩
        · unfold m_Mo_readWord_l13
          show (if 8 ≤ nI i then _ else _) = _
          rw [if_neg hi8, show m_Mo_isNext 235 49 54 M = _ from M_next (a := 49) (b := 54) hT hm hp (by omega) (by omega), if_pos hL, bS, if_neg u10, show m_Mo_takes 235 49 54 M = _ from em, bS]
          show some (Sum.inl (10 * wN l + 1 + nI (T p - 49), nI i + 1, M1)) = _
          rw [wN_snoc, nI_1, Int32.add_assoc, show (1 : Int32) + nI (T p - 49) = nI (T p - 48) from by rw [show (1 : Int32) = nI 1 from rfl, nI_add]; congr 1; have := hL.2; omega, Int32.mul_comm]
    · obtain ⟨p1, p2⟩ := pe p hp
      refine ⟨decide (Hit len T p 46 46), _, l, p1, p2, ⟨hw, by omega, by omega⟩, fun M0 M c g F hc hF => ?_, fun M0 M F hm hF => ?_⟩
      · obtain ⟨f, rfl⟩ : ∃ f, F = f + 1 := ⟨F - 1, by omega⟩
        by_cases hpl : p < len
        · by_cases h46 : T p = 46
          · rw [kLp_r (r := .inr M)]
            · rw [bS]
              exact exC hc hp
            · unfold m_Tx_readWord_l24
              show (if 8 ≤ nI i then _ else _) = _
              rw [if_neg hi8, C_more hT hc hp, if_pos hpl, bS, if_neg u10, C_rd hT hc hpl, bS, if_pos (by rw [h46]; rfl)]
          · have n46 : ¬ nI (T p) = 46 := fun z => h46 ((nI_eq (a := T p) (b := 46) (by have := hT.2 p hpl; omega) (by omega)).mp z)
            have hh : ¬ Hit len T p 46 46 := fun z => h46 (by have := z.2; omega)
            rw [kLp_r (r := .inl (0, M))]
            · rw [bS, if_neg hh, decide_eq_false hh]
              exact kOk_i ⟨rfl, hc⟩
            · unfold m_Tx_readWord_l24
              show (if 8 ≤ nI i then _ else _) = _
              rw [if_neg hi8, C_more hT hc hp, if_pos hpl, bS, if_neg u10, C_rd hT hc hpl, bS, if_neg n46]
              unfold m_Tx_readLetter
              rw [show m_Tx_readDigit 1 1 6 M = _ from C_miss (lo := 1) (hi := 6) hT hc hp hL (by omega) (by omega), bS]
              rfl
        · rw [kLp_r (r := .inr M)]
          · rw [bS]
            exact exC hc hp
          · unfold m_Tx_readWord_l24
            show (if 8 ≤ nI i then _ else _) = _
            rw [if_neg hi8, C_more hT hc hp, if_neg hpl, bS, if_pos rfl]
      · obtain ⟨f, rfl⟩ : ∃ f, F = f + 1 := ⟨F - 1, by omega⟩
        rw [kLp_r (r := (wN l, M))]
        · rw [bS]
          exact exM hm hp
        · unfold m_Mo_readWord_l13
          show (if 8 ≤ nI i then _ else _) = _
          rw [if_neg hi8, show m_Mo_isNext 235 49 54 M = _ from M_next (a := 49) (b := 54) hT hm hp (by omega) (by omega), if_neg hL, bS, if_pos rfl]
/-- the model goes on reading a word in a bad text -/
theorem W_bad {len : Nat} {T : Nat → Nat} {M0 M : KMem} {p : Nat} {v : Int32} (h : MX len T M0 p 1 M) :
    kOk (Option.bind (kLp (m_Mo_readWord_l13 235) kFU (v, 1, M)) mEnd) (fun q => MX len T M0 p 1 q.2 ∧ ∀ j, j ≠ 15 → j ≠ 16 → q.2 235 j = M 235 j) := by
  rw [kFU_s, kLp_r (r := (v, M))]
  · rw [bS]
    show kOk (Option.bind (m_Mo_takes 235 46 46 M) _) _
    refine kB _ (M_bad h) ?_
    rintro ⟨x, M1⟩ ⟨q1, q2, q3⟩
    exact kOk_i ⟨q2, q3⟩
  · unfold m_Mo_readWord_l13
    show (if (8 : Int32) ≤ 1 then _ else _) = _
    rw [if_neg (by decide), M_nbad h, bS, if_pos rfl]
