/-! LAYER 2: what the two objects hold at the start -/
def l00 : KLay := (0, fun _ => 0, fun _ => 0, fun _ _ => none)
def m00 : KMem := fun _ _ => 0
def okLb (L : KLay) (t : Nat) (T : kT) : Bool := T.all (fun q => Nat.blt (t + q.1) L.1 && (L.2.1 (t + q.1) == q.2.1) && (L.2.2.1 (t + q.1) == q.2.2.1) && q.2.2.2.all (fun r => L.2.2.2 (t + q.1) r.1 == some (t + r.2)))
def ini1 : Option (KLay × KMem) := m_SR_init 0 (lNew l00 7 0) (mNew l00 m00)
def chk (M : KMem) (l : List (Nat × Nat × Int32)) : Bool := l.all (fun q => M q.1 q.2.1 == q.2.2)
theorem chk_in {M : KMem} {l : List (Nat × Nat × Int32)} (h : chk M l = true) (i : Nat) {o j : Nat} {v : Int32} (hi : l[i]? = some (o, j, v)) : M o j = v := by
  have := List.all_eq_true.mp h _ (List.mem_of_getElem? hi)
  exact eq_of_beq this
def iniL : List (Nat × Nat × Int32) := [(4, 1, 0), (5, 0, 0), (4, 11, 0), (4, 12, 0), (4, 13, -1), (4, 14, 0), (13, 0, 0), (13, 1, 0), (13, 2, 0), (13, 3, 0), (14, 0, 0), (14, 1, 0), (14, 2, 0), (14, 3, 0), (15, 0, 4), (15, 1, 3), (39, 1, 0), (39, 2, 0), (42, 0, 0), (42, 1, 0), (1, 1, 0), (235, 4, 0), (235, 6, 0), (235, 8, 0)]
def rowB (M : KMem) : Bool := (List.range 108).all (fun j => M 236 j == if j = 94 then -1 else if j = 106 then 4 else if j = 107 then 3 else 0)
def lk1 (q : KLay × KMem) : Bool := Nat.beq q.1.1 235
def ini2 : Option (KLay × KMem) := ini1.bind (fun q => m_Mo_init 235 (lNew q.1 8 0) (mNew q.1 q.2))
def lk2 (q : KLay × KMem) : Bool := Nat.beq q.1.1 244 && okLb (lNew q.1 12 1) 0 srT && okLb (lNew q.1 12 1) 235 moT && chk (mNew q.1 q.2) iniL && rowB (mNew q.1 q.2)
set_option maxRecDepth 100000 in
theorem ini1_t : ini1.any lk1 = true := by decide +kernel
set_option maxRecDepth 100000 in
theorem ini2_t : ini2.any lk2 = true := by decide +kernel
theorem okLb_ok {L : KLay} {t : Nat} {T : kT} (h : okLb L t T = true) : okL L t T := by
  intro q hq
  have h1 := List.all_eq_true.mp h q hq
  simp only [Bool.and_eq_true, beq_iff_eq, List.all_eq_true] at h1
  obtain ⟨⟨⟨h2, h3⟩, h4⟩, h5⟩ := h1
  exact ⟨by simpa [Nat.blt_eq] using h2, h3, h4, fun r hr => h5 r hr⟩
theorem row_bg {M : KMem} (h : rowB M = true) : ∀ i, i < 108 → M 236 i = bg (M 236) i := by
  intro i hi
  have h1 : M 236 i = if i = 94 then -1 else if i = 106 then 4 else if i = 107 then 3 else 0 := eq_of_beq (List.all_eq_true.mp h i (List.mem_range.mpr hi))
  rw [h1]
  by_cases c1 : i = 94
  · rw [if_pos c1, c1, bg_94]
  · rw [if_neg c1]
    by_cases c2 : i = 106
    · rw [if_pos c2, c2, bg_106]
    · rw [if_neg c2]
      by_cases c3 : i = 107
      · rw [if_pos c3, c3, bg_107]
      · rw [if_neg c3, bg_z _ hi c1 c2 c3]
theorem GI_st {M : KMem} (hl : chk M iniL = true) (hr : rowB M = true) : GI M := by
  obtain ⟨n1, n2⟩ := bg_n (M 236)
  have hle : LE (bg (M 236)) (M 236) := LE.of (by omega) (by omega) (row_bg hr)
  refine ⟨fun _ => bg (M 236), 0, fun _ => bg (M 236), 0, 0, fun _ => 0, ⟨hle.inv (bg_inv _), CR.le ?_ hle, ⟨0, ?_, ?_, by omega, by omega, fun j hj => by omega⟩, ⟨by omega, fun s hs => ⟨?_, fun hb => ?_⟩⟩, by omega, ?_, fun i hi => by omega⟩, ?_, fun j hj => by omega, ?_, fun s hs hb => ?_, ?_, fun i hi => by omega⟩
  · have z : ∀ j, j < 108 → j ≠ 94 → j ≠ 106 → j ≠ 107 → bg (M 236) j = 0 := fun j a1 a2 a3 a4 => bg_z _ a1 a2 a3 a4
    refine ⟨⟨?_, ?_, ?_, ?_, ?_, ?_⟩, fun i hi => by rw [n2] at hi; omega, fun s hs => by rw [n1] at hs; omega, fun g hg => ?_, ?_, ?_⟩
    · rw [z 0 (by omega) (by omega) (by omega) (by omega)]; exact chk_in hl 0 rfl
    · rw [z 41 (by omega) (by omega) (by omega) (by omega)]; exact chk_in hl 1 rfl
    · rw [z 92 (by omega) (by omega) (by omega) (by omega)]; exact chk_in hl 2 rfl
    · rw [z 93 (by omega) (by omega) (by omega) (by omega)]; exact chk_in hl 3 rfl
    · rw [bg_94]; exact chk_in hl 4 rfl
    · rw [z 97 (by omega) (by omega) (by omega) (by omega)]; exact chk_in hl 5 rfl
    · have hg4 : g = 0 ∨ g = 1 ∨ g = 2 ∨ g = 3 := by omega
      rw [z (98 + g) (by omega) (by omega) (by omega) (by omega), z (102 + g) (by omega) (by omega) (by omega) (by omega)]
      rcases hg4 with rfl | rfl | rfl | rfl
      · exact ⟨chk_in hl 6 rfl, chk_in hl 10 rfl⟩
      · exact ⟨chk_in hl 7 rfl, chk_in hl 11 rfl⟩
      · exact ⟨chk_in hl 8 rfl, chk_in hl 12 rfl⟩
      · exact ⟨chk_in hl 9 rfl, chk_in hl 13 rfl⟩
    · rw [bg_106]; exact chk_in hl 14 rfl
    · rw [bg_107]; exact chk_in hl 15 rfl
  · exact chk_in hl 16 rfl
  · exact chk_in hl 17 rfl
  · rw [Nat.zero_testBit, if_neg (by decide)]
    have : s = 0 ∨ s = 1 := by omega
    rcases this with rfl | rfl
    · exact chk_in hl 18 rfl
    · exact chk_in hl 19 rfl
  · rw [Nat.zero_testBit] at hb; cases hb
  · exact chk_in hl 20 rfl
  · exact chk_in hl 21 rfl
  · exact chk_in hl 22 rfl
  · rw [Nat.zero_testBit] at hb; cases hb
  · exact chk_in hl 23 rfl
/-- the start: both constructors come to their ends, and all agrees -/
theorem start_ok : ∃ L1 M1 L2 M2, m_SR_init 0 (lNew l00 7 0) (mNew l00 m00) = some (L1, M1) ∧ L1.1 = 235 ∧ m_Mo_init 235 (lNew L1 8 0) (mNew L1 M1) = some (L2, M2) ∧ L2.1 = 244 ∧ okL (lNew L2 12 1) 0 srT ∧ okL (lNew L2 12 1) 235 moT ∧ GI (mNew L2 M2) := by
  have h1 := ini1_t
  have h2 := ini2_t
  cases e1 : ini1 with
  | none => rw [e1] at h1; cases h1
  | some q1 =>
    rw [e1] at h1
    cases e2 : ini2 with
    | none => rw [e2] at h2; cases h2
    | some q2 =>
      rw [e2] at h2
      have k1 : lk1 q1 = true := h1
      have k2 : lk2 q2 = true := h2
      have e2' : m_Mo_init 235 (lNew q1.1 8 0) (mNew q1.1 q1.2) = some q2 := by
        unfold ini2 at e2
        rw [e1, bS] at e2
        exact e2
      unfold lk2 at k2
      simp only [Bool.and_eq_true] at k2
      obtain ⟨⟨⟨⟨a1, a2⟩, a3⟩, a4⟩, a5⟩ := k2
      exact ⟨q1.1, q1.2, q2.1, q2.2, e1, Nat.eq_of_beq_eq_true k1, e2', Nat.eq_of_beq_eq_true a1, okLb_ok a2, okLb_ok a3, GI_st a4 a5⟩
/-- the long that the law keeps an answer in is nothing to the two -/
theorem GI.out {M : KMem} (h : GI M) (v : Int32) : GI (kup M 244 0 v) := by
  obtain ⟨H, k, S, kp, len, T, hc, hm⟩ := h
  refine ⟨H, k, S, kp, len, T, ?_, ?_⟩
  · rw [kup_n _ _ _ (by omega)]
    exact hc.fr (frS.up (by show 244 = 1 ∨ _; omega)) (by rw [kup_n _ _ _ (by omega)])
  · obtain ⟨a1, a2, a3, a4, a5, a6⟩ := hm
    unfold MS hst slt
    rw [kup_n _ _ _ (by omega), kup_n _ _ _ (by omega), kup_n _ _ _ (by omega), kup_n _ _ _ (by omega)]
    exact ⟨a1, a2, a3, a4, a5, a6⟩
