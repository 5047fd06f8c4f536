/-! LAYER 2: reading the text, on both sides -/
def cB (M18 : KMem) : Option (Int32 × KMem) :=
 if (M18 1 3) = 106 then
 (Option.bind (m_Tx_readLetter 1 M18) fun (x26, M27) =>
 Option.bind (α := Int32 × KMem) (if x26 = 0 then
 (some (0, M27))
 else
 (Option.bind (m_Tx_readLetter 1 M27) fun (x35, M36) =>
 if x35 = 0 then
 (some (0, M36))
 else
 (Option.bind (m_Tx_readLetter 1 M36) fun (x39, M40) =>
 if x39 = 0 then
 (some (0, M40))
 else
 (some (1, M40))))) fun (t28, M29) =>
 Option.bind (kz t28) fun z31 =>
 some (z31, M29))
 else
 (if (M18 1 3) = 109 then
 (Option.bind (m_Tx_readMonths 1 M18) fun (x44, M45) =>
 Option.bind (kz x44) fun z46 =>
 some (z46, M45))
 else
 (if (M18 1 3) = 112 then
 (Option.bind (m_Tx_readDigit 1 0 7 M18) fun (x50, M51) =>
 Option.bind (kz x50) fun z52 =>
 some (z52, M51))
 else
 (if (M18 1 3) = 114 then
 (Option.bind (m_Tx_readDigit 1 0 9 M18) fun (x56, M57) =>
 Option.bind (kz x56) fun z58 =>
 some (z58, M57))
 else
 (if (M18 1 3) = 115 then
 (Option.bind (m_Tx_readDigit 1 0 3 M18) fun (x62, M63) =>
 Option.bind (α := Int32 × KMem) (if x62 = 0 then
 (some (0, M63))
 else
 (Option.bind (m_Tx_readWord 1 M63) fun (x71, M72) =>
 if x71 = 0 then
 (some (0, M72))
 else
 (some (1, M72)))) fun (t64, M65) =>
 Option.bind (kz t64) fun z67 =>
 some (z67, M65))
 else
 (if (M18 1 3) = 121 then
 (Option.bind (m_Tx_readDigit 1 1 9 M18) fun (x76, M77) =>
 Option.bind (kz x76) fun z78 =>
 some (z78, M77))
 else
 (Option.bind (m_Tx_readLetter 1 M18) fun (x82, M83) =>
 Option.bind (kz x82) fun z84 =>
 some (z84, M83)))))))
def mB (M14 : KMem) : Option KMem :=
 (if (M14 235 11) = 100 ∨ (M14 235 11) = 111 then
 (Option.bind (m_Mo_takes 235 49 54 M14) fun (x25, M26) =>
 Option.bind (some (kup M26 235 12 (1 + x25))) fun M28 =>
 some M28)
 else
 (if (M14 235 11) = 106 then
 (Option.bind (m_Mo_takes 235 49 54 M14) fun (x31, M32) =>
 Option.bind (some (kup M32 235 12 (1 + x31))) fun M34 =>
 Option.bind (m_Mo_takes 235 49 54 M34) fun (x36, M37) =>
 Option.bind (some (kup M37 235 13 (1 + x36))) fun M39 =>
 Option.bind (m_Mo_takes 235 49 54 M39) fun (x41, M42) =>
 Option.bind (some (kup M42 235 14 (1 + x41))) fun M44 =>
 some M44)
 else
 (if (M14 235 11) = 109 then
 (Option.bind (m_Mo_readMonths 235 M14) fun (x47, M48) =>
 Option.bind (some (kup M48 235 12 x47)) fun M50 =>
 some M50)
 else
 (if (M14 235 11) = 112 then
 (Option.bind (m_Mo_takes 235 48 55 M14) fun (x53, M54) =>
 Option.bind (some (kup M54 235 12 x53)) fun M56 =>
 some M56)
 else
 (if (M14 235 11) = 114 then
 (Option.bind (m_Mo_takes 235 48 57 M14) fun (x59, M60) =>
 Option.bind (some (kup M60 235 12 x59)) fun M62 =>
 some M62)
 else
 (if (M14 235 11) = 115 then
 (Option.bind (m_Mo_takes 235 48 51 M14) fun (x65, M66) =>
 Option.bind (some (kup M66 235 12 x65)) fun M68 =>
 Option.bind (m_Mo_readWord 235 M68) fun (x70, M71) =>
 Option.bind (some (kup M71 235 13 x70)) fun M73 =>
 some M73)
 else
 (if (M14 235 11) = 121 then
 (Option.bind (m_Mo_takes 235 49 57 M14) fun (x76, M77) =>
 Option.bind (some (kup M77 235 12 (1 + x76))) fun M79 =>
 some M79)
 else
 (Option.bind (some (kup M14 235 12 0)) fun M82 =>
 some M82))))))))
abbrev oT : Nat → Prop := fun o => o = 1
abbrev oM : Nat → Prop := fun o => o = 235
def TX (len : Nat) (T : Nat → Nat) : Prop := len ≤ 120 ∧ ∀ i, i < len → T i < 256
/-- the class's reading stands at p -/
def CX (len : Nat) (T : Nat → Nat) (M0 : KMem) (p : Nat) (c g n : Int32) (M : KMem) : Prop := frS oT M0 M ∧ M 1 1 = nI len ∧ (∀ i, i < len → M 2 i = nI (T i)) ∧ M 1 2 = nI p ∧ M 1 3 = c ∧ M 1 4 = g ∧ M 1 5 = n
/-- the model's reading stands at p; z: it is bad -/
def MX (len : Nat) (T : Nat → Nat) (M0 : KMem) (p : Nat) (z : Int32) (M : KMem) : Prop := (frS oM M0 M ∧ ∀ j, j < 11 → M 235 j = M0 235 j) ∧ M 235 8 = nI len ∧ (∀ i, i < len → M 240 i = nI (T i)) ∧ M 235 15 = nI p ∧ M 235 16 = z
abbrev Hit (len : Nat) (T : Nat → Nat) (p a b : Nat) : Prop := p < len ∧ a ≤ T p ∧ T p ≤ b
abbrev bd (ok : Bool) : Int32 := if ok = true then 0 else 1
theorem nI_48 : ∀ t, t < 48 → nI t - 48 < 0 := by decide +kernel
theorem C_more {len : Nat} {T : Nat → Nat} {M0 M : KMem} {p : Nat} {c g n : Int32} (hT : TX len T) (h : CX len T M0 p c g n M) (hp : p ≤ len) : m_Tx_hasMore 1 M = some (if p < len then 1 else 0) := by
  obtain ⟨h0, h1, h2, h3, h4, h5, h6⟩ := h
  have hl := hT.1
  unfold m_Tx_hasMore
  rw [h1, h3]
  by_cases hpl : p < len
  · rw [if_neg (by rw [nI_leI (by omega) (by omega)]; omega), if_neg (by rw [show (120 : Int32) = nI 120 from rfl, nI_leI (by omega) (by omega)]; omega), bS, if_pos hpl]
    rfl
  · rw [if_pos (by rw [nI_leI (by omega) (by omega)]; omega), bS, if_neg hpl]
    rfl
theorem C_rd {len : Nat} {T : Nat → Nat} {M0 M : KMem} {p : Nat} {c g n : Int32} (hT : TX len T) (h : CX len T M0 p c g n M) (hp : p < len) : rdI M (1 + 1) 120 (M 1 2) = some (nI (T p)) := by
  obtain ⟨h0, h1, h2, h3, h4, h5, h6⟩ := h
  have hl := hT.1
  rw [h3, rdN (by omega) (by omega), show M (1 + 1) p = _ from h2 p hp]
theorem C_hit {len : Nat} {T : Nat → Nat} {M0 M : KMem} {p lo hi : Nat} {c g n : Int32} (hT : TX len T) (h : CX len T M0 p c g n M) (hh : Hit len T p (48 + lo) (48 + hi)) (hi9 : hi ≤ 9) :
    kOk (m_Tx_readDigit 1 (nI lo) (nI hi) M) (fun q => q.1 = 1 ∧ CX len T M0 (p + 1) c g (n * 10 + nI (T p - 48)) q.2) := by
  have h' := h
  obtain ⟨h0, h1, h2, h3, h4, h5, h6⟩ := h'
  obtain ⟨g1, g2, g3⟩ := hh
  have hl := hT.1
  unfold m_Tx_readDigit
  rw [C_more hT h (by omega), bS, if_pos g1, if_neg u10, C_rd hT h g1, bS]
  have e48 : nI (T p) - 48 = nI (T p - 48) := pk_sub (a := T p) (b := 48) (by omega)
  rw [e48, if_neg (by rw [nI_ltI (by omega) (by omega)]; omega), if_pos (by rw [nI_leI (by omega) (by omega)]; omega), bS, bS]
  show kOk (some ((1 : Int32), _)) _
  refine kOk_i ⟨rfl, ?_⟩
  show CX len T M0 (p + 1) c g (n * 10 + nI (T p - 48)) (kup (kup M 1 5 (M 1 5 * 10 + nI (T p - 48))) 1 2 (kup M 1 5 (M 1 5 * 10 + nI (T p - 48)) 1 2 + 1))
  refine ⟨frS.k (frS.k h0 rfl) rfl, ?_, fun i hi => ?_, ?_, ?_, ?_, ?_⟩
  · rw [kup_j _ _ _ (by omega), kup_j _ _ _ (by omega)]; exact h1
  · rw [kup_n _ _ _ (by omega), kup_n _ _ _ (by omega)]; exact h2 i hi
  · rw [kup_s, kup_j _ _ _ (by omega), h3, nI_1]
  · rw [kup_j _ _ _ (by omega), kup_j _ _ _ (by omega)]; exact h4
  · rw [kup_j _ _ _ (by omega), kup_j _ _ _ (by omega)]; exact h5
  · rw [kup_j _ _ _ (by omega), kup_s, h6]
theorem C_miss {len : Nat} {T : Nat → Nat} {M0 M : KMem} {p lo hi : Nat} {c g n : Int32} (hT : TX len T) (h : CX len T M0 p c g n M) (hp : p ≤ len) (hh : ¬ Hit len T p (48 + lo) (48 + hi)) (hi9 : hi ≤ 9) (hlo : lo ≤ 9) :
    m_Tx_readDigit 1 (nI lo) (nI hi) M = some (0, M) := by
  have hl := hT.1
  unfold m_Tx_readDigit
  rw [C_more hT h hp, bS]
  by_cases g1 : p < len
  · have ht := hT.2 p g1
    rw [if_pos g1, if_neg u10, C_rd hT h g1, bS]
    by_cases h48 : 48 ≤ T p
    · have e48 : nI (T p) - 48 = nI (T p - 48) := pk_sub (a := T p) (b := 48) (by omega)
      rw [e48]
      by_cases h2 : T p - 48 < lo
      · rw [if_pos (by rw [nI_ltI (by omega) (by omega)]; omega)]
        rfl
      · rw [if_neg (by rw [nI_ltI (by omega) (by omega)]; omega), if_neg (by
          rw [nI_leI (by omega) (by omega)]
          intro h3
          exact hh ⟨g1, by omega, by omega⟩)]
        rfl
    · have h2 := nI_48 _ (show T p < 48 by omega)
      rw [if_pos (show nI (T p) - 48 < nI lo from Int32.lt_of_lt_of_le h2 ((nI_leI (a := 0) (by omega) (by omega)).mpr (by omega)))]
      rfl
  · rw [if_neg g1, if_pos rfl]
    rfl
theorem M_next {len : Nat} {T : Nat → Nat} {M0 M : KMem} {p a b : Nat} (hT : TX len T) (h : MX len T M0 p 0 M) (hp : p ≤ len) (hb : b < 256) (ha : a < 256) : m_Mo_isNext 235 (nI a) (nI b) M = some (if Hit len T p a b then 1 else 0) := by
  obtain ⟨h0, h1, h2, h3, h4⟩ := h
  have hl := hT.1
  unfold m_Mo_isNext
  rw [h4, if_pos rfl, h1, h3]
  by_cases g1 : p < len
  · have ht := hT.2 p g1
    rw [if_neg (by rw [nI_leI (by omega) (by omega)]; omega), rdN (by omega) (by omega), bS, show M (235 + 5) p = _ from h2 p g1, in_n (by omega) (by omega) (by omega), bS]
    by_cases g2 : a ≤ T p ∧ T p ≤ b
    · rw [if_pos g2, if_neg u10, if_pos ⟨g1, g2⟩]; rfl
    · rw [if_neg g2, if_pos rfl, if_neg (fun z => g2 z.2)]; rfl
  · rw [if_pos (by rw [nI_leI (by omega) (by omega)]; omega), if_neg (fun z => g1 z.1)]; rfl
theorem M_nbad {len : Nat} {T : Nat → Nat} {M0 M : KMem} {p : Nat} {a b : Int32} (h : MX len T M0 p 1 M) : m_Mo_isNext 235 a b M = some 0 := by
  obtain ⟨h0, h1, h2, h3, h4⟩ := h
  unfold m_Mo_isNext
  rw [h4, if_neg u10]
  rfl
theorem MX.k {len : Nat} {T : Nat → Nat} {M0 M : KMem} {p j : Nat} {z v : Int32} (h : MX len T M0 p z M) (h1 : 11 ≤ j) (h2 : j ≤ 14) : MX len T M0 p z (kup M 235 j v) := by
  obtain ⟨h0, g1, g2, g3, g4⟩ := h
  refine ⟨⟨frS.k h0.1 rfl, fun i hi => ?_⟩, ?_, fun i hi => ?_, ?_, ?_⟩
  · rw [kup_j _ _ _ (by omega)]; exact h0.2 i hi
  · rw [kup_j _ _ _ (by omega)]; exact g1
  · rw [kup_n _ _ _ (by omega)]; exact g2 i hi
  · rw [kup_j _ _ _ (by omega)]; exact g3
  · rw [kup_j _ _ _ (by omega)]; exact g4
theorem M_up {len : Nat} {T : Nat → Nat} {M0 M : KMem} {p p' : Nat} {z z' : Int32} (h : MX len T M0 p z M) : MX len T M0 p' z' (kup (kup M 235 15 (nI p')) 235 16 z') ∧ ∀ j, j ≠ 15 → j ≠ 16 → (kup (kup M 235 15 (nI p')) 235 16 z') 235 j = M 235 j := by
  obtain ⟨h0, g1, g2, g3, g4⟩ := h
  refine ⟨⟨⟨frS.k (frS.k h0.1 rfl) rfl, fun i hi => ?_⟩, ?_, fun i hi => ?_, ?_, ?_⟩, fun j h1 h2 => ?_⟩
  · rw [kup_j _ _ _ (by omega), kup_j _ _ _ (by omega)]; exact h0.2 i hi
  · rw [kup_j _ _ _ (by omega), kup_j _ _ _ (by omega)]; exact g1
  · rw [kup_n _ _ _ (by omega), kup_n _ _ _ (by omega)]; exact g2 i hi
  · rw [kup_j _ _ _ (by omega), kup_s]
  · rw [kup_s]
  · rw [kup_j _ _ _ h2, kup_j _ _ _ h1]
theorem M_hit {len : Nat} {T : Nat → Nat} {M0 M : KMem} {p a b : Nat} (hT : TX len T) (h : MX len T M0 p 0 M) (hh : Hit len T p a b) (hb : b < 256) :
    kOk (m_Mo_takes 235 (nI a) (nI b) M) (fun q => q.1 = nI (T p - a) ∧ MX len T M0 (p + 1) 0 q.2 ∧ ∀ j, j ≠ 15 → j ≠ 16 → q.2 235 j = M 235 j) := by
  have g := M_up (p' := p + 1) (z' := 0) h
  have hn := M_next (a := a) (b := b) hT h (by omega) hb (by omega)
  obtain ⟨h0, h1, h2, h3, h4⟩ := h
  have hl := hT.1
  unfold m_Mo_takes
  rw [hn, if_pos hh, bS, if_neg u10, h3, rdN (by omega) (by omega), bS, show M (235 + 5) p = _ from h2 p hh.1, bS, if_neg u10, bS, bS, show nI p + 1 = _ from nI_1 p, kup_j _ _ _ (by omega), h4, if_pos rfl, if_neg u10, bS]
  show kOk (some (nI (T p) - nI a, _)) _
  rw [pk_sub hh.2.1]
  exact kOk_i ⟨rfl, g⟩
theorem M_miss {len : Nat} {T : Nat → Nat} {M0 M : KMem} {p a b : Nat} (hT : TX len T) (h : MX len T M0 p 0 M) (hp : p ≤ len) (hh : ¬ Hit len T p a b) (hb : b < 256) (ha : a < 256) :
    kOk (m_Mo_takes 235 (nI a) (nI b) M) (fun q => q.1 = 0 ∧ MX len T M0 p 1 q.2 ∧ ∀ j, j ≠ 15 → j ≠ 16 → q.2 235 j = M 235 j) := by
  have g := M_up (p' := p) (z' := 1) h
  have hn := M_next (a := a) (b := b) hT h hp hb ha
  obtain ⟨h0, h1, h2, h3, h4⟩ := h
  unfold m_Mo_takes
  rw [hn, if_neg hh, bS, if_pos rfl, bS, if_pos rfl, bS, h3, bS, show nI p + 0 = nI p from Int32.add_zero _, kup_j _ _ _ (by omega), h4, if_pos rfl, if_pos rfl, bS]
  exact kOk_i ⟨rfl, g⟩
theorem M_bad {len : Nat} {T : Nat → Nat} {M0 M : KMem} {p : Nat} {a b : Int32} (h : MX len T M0 p 1 M) :
    kOk (m_Mo_takes 235 a b M) (fun q => q.1 = 0 ∧ MX len T M0 p 1 q.2 ∧ ∀ j, j ≠ 15 → j ≠ 16 → q.2 235 j = M 235 j) := by
  have g := M_up (p' := p) (z' := 1) h
  have hn := M_nbad (a := a) (b := b) h
  obtain ⟨h0, h1, h2, h3, h4⟩ := h
  unfold m_Mo_takes
  rw [hn, bS, if_pos rfl, bS, if_pos rfl, bS, h3, bS, show nI p + 0 = nI p from Int32.add_zero _, kup_j _ _ _ (by omega), h4, if_neg u10, bS]
  exact kOk_i ⟨rfl, g⟩
theorem M_no {len : Nat} {T : Nat → Nat} {M0 M : KMem} {p a b : Nat} {z : Int32} (hT : TX len T) (h : MX len T M0 p z M) (hz : z = 1 ∨ (z = 0 ∧ p ≤ len ∧ ¬ Hit len T p a b)) (hb : b < 256) (ha : a < 256) :
    kOk (m_Mo_takes 235 (nI a) (nI b) M) (fun q => q.1 = 0 ∧ MX len T M0 p 1 q.2 ∧ ∀ j, j ≠ 15 → j ≠ 16 → q.2 235 j = M 235 j) := by
  rcases hz with rfl | ⟨rfl, h1, h2⟩
  · exact M_bad h
  · exact M_miss hT h h1 h2 hb ha
