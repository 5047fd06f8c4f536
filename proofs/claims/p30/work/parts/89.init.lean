/-! P30: what the two objects hold at the start -/
def row0 : Row := fun j => if j = 94 then -1 else if j = 106 then 4 else if j = 107 then 3 else 0
theorem row0_z {j : Nat} (h1 : j ≠ 94) (h2 : j ≠ 106) (h3 : j ≠ 107) : row0 j = 0 := by
  unfold row0
  rw [if_neg h1, if_neg h2, if_neg h3]
theorem row0_94 : row0 94 = -1 := if_pos rfl
theorem row0_106 : row0 106 = 4 := (if_neg (by decide)).trans (if_pos rfl)
theorem row0_107 : row0 107 = 3 := (if_neg (by decide)).trans ((if_neg (by decide)).trans (if_pos rfl))
theorem row0_n : sN row0 = 0 ∧ dN row0 = 0 := ⟨sN_of (row0_z (by omega) (by omega) (by omega)) (by omega), dN_of (row0_z (by omega) (by omega) (by omega)) (by omega)⟩
theorem row0_inv : Inv row0 := by
  obtain ⟨h1, h2⟩ := row0_n
  have z : ∀ j, j ≠ 94 → j ≠ 106 → j ≠ 107 → row0 j = 0 := fun j a2 a3 a4 => row0_z a2 a3 a4
  refine ⟨⟨⟨by omega, by rw [h1]; exact z 0 (by omega) (by omega) (by omega)⟩, ⟨by omega, by rw [h2]; exact z 41 (by omega) (by omega) (by omega)⟩, ?_, fun s hs => by omega⟩, ⟨fun s hs => by omega, fun s t _ hs => by omega⟩, ?_, ?_, ⟨4, by omega, row0_106⟩, ⟨3, by omega, row0_107⟩, 0, by omega, z 93 (by omega) (by omega) (by omega)⟩
  · rw [h2]
    exact fun k hk => absurd hk (Nat.not_lt_zero _)
  · rw [z 95 (by omega) (by omega) (by omega), z 98 (by omega) (by omega) (by omega), z 99 (by omega) (by omega) (by omega), z 100 (by omega) (by omega) (by omega), z 101 (by omega) (by omega) (by omega)]
    decide
  · rw [z 96 (by omega) (by omega) (by omega), z 102 (by omega) (by omega) (by omega), z 103 (by omega) (by omega) (by omega), z 104 (by omega) (by omega) (by omega), z 105 (by omega) (by omega) (by omega)]
    decide
theorem row0_F : InvF row0 := by
  unfold InvF
  rw [row0_n.1, row0_z (by omega) (by omega) (by omega)]
  rfl
theorem row0_M : InvM 0 row0 := ⟨0, by omega, row0_z (by omega) (by omega) (by omega), Or.inl row0_94⟩
def l00 : KLay := (0, fun _ => 0, fun _ => 0, fun _ _ => none)
def m00 : KMem := fun _ _ => 0
def okLb (L : KLay) (t : Nat) (T : kT) : Bool := T.all (fun q => Nat.blt (t + q.1) L.1 && (L.2.1 (t + q.1) == q.2.1) && (L.2.2.1 (t + q.1) == q.2.2.1) && q.2.2.2.all (fun r => L.2.2.2 (t + q.1) r.1 == some (t + r.2)))
def ini1 : Option (KLay × KMem) := m_SR_init 0 (lNew l00 7 0) (mNew l00 m00)
def chk (M : KMem) (l : List (Nat × Nat × Int32)) : Bool := l.all (fun q => M q.1 q.2.1 == q.2.2)
theorem chk_in {M : KMem} {l : List (Nat × Nat × Int32)} (h : chk M l = true) (i : Nat) {o j : Nat} {v : Int32} (hi : l[i]? = some (o, j, v)) : M o j = v := by
  have := List.all_eq_true.mp h _ (List.mem_of_getElem? hi)
  exact eq_of_beq this
def iniL (t : Nat) : List (Nat × Nat × Int32) := [(t + 3 + 1, 1, 0), (t + 3 + 2, 0, 0), (t + 3 + 1, 11, 0), (t + 3 + 1, 12, 0), (t + 3 + 1, 13, -1), (t + 3 + 1, 14, 0), (t + 3 + 10, 0, 0), (t + 3 + 10, 1, 0), (t + 3 + 10, 2, 0), (t + 3 + 10, 3, 0), (t + 3 + 11, 0, 0), (t + 3 + 11, 1, 0), (t + 3 + 11, 2, 0), (t + 3 + 11, 3, 0), (t + 3 + 12, 0, 4), (t + 3 + 12, 1, 3), (t + 39, 1, 0), (t + 39, 2, 0)]
def lk1 (q : KLay × KMem) : Bool := Nat.beq q.1.1 235
def ini2 : Option (KLay × KMem) := ini1.bind (fun q => m_SR_init 235 (lNew q.1 7 0) (mNew q.1 q.2))
def lk2 (q : KLay × KMem) : Bool := Nat.beq q.1.1 470 && okLb (lNew q.1 9 1) 0 srT && okLb (lNew q.1 9 1) 235 srT && chk (mNew q.1 q.2) (iniL 0) && chk (mNew q.1 q.2) (iniL 235)
set_option maxRecDepth 100000 in
theorem ini1_t : ini1.any lk1 = true := by decide +kernel
set_option maxRecDepth 100000 in
theorem ini2_t : ini2.any lk2 = true := by decide +kernel
theorem okLb_ok {L : KLay} {t : Nat} {T : kT} (h : okLb L t T = true) : okL L t T := by
  intro q hq
  have h1 := List.all_eq_true.mp h q hq
  simp only [Bool.and_eq_true, beq_iff_eq, List.all_eq_true] at h1
  obtain ⟨⟨⟨h2, h3⟩, h4⟩, h5⟩ := h1
  exact ⟨by simpa [Nat.blt_eq] using h2, h3, h4, fun r hr => h5 r hr⟩
theorem GO_st {t : Nat} {M : KMem} (hl : chk M (iniL t) = true) : GO t row0 (fun _ => row0) 0 M := by
  obtain ⟨n1, n2⟩ := row0_n
  have z : ∀ j, j ≠ 94 → j ≠ 106 → j ≠ 107 → row0 j = 0 := fun j a2 a3 a4 => row0_z a2 a3 a4
  refine ⟨row0_inv, ⟨⟨?_, ?_, ?_, ?_, ?_, ?_⟩, fun i hi => by rw [n2] at hi; omega, fun s hs => by rw [n1] at hs; omega, fun g hg => ?_, ?_, ?_⟩, 0, ?_, ?_, by omega, by omega, fun j hj => by omega⟩
  · rw [z 0 (by omega) (by omega) (by omega)]; exact chk_in hl 0 rfl
  · rw [z 41 (by omega) (by omega) (by omega)]; exact chk_in hl 1 rfl
  · rw [z 92 (by omega) (by omega) (by omega)]; exact chk_in hl 2 rfl
  · rw [z 93 (by omega) (by omega) (by omega)]; exact chk_in hl 3 rfl
  · rw [row0_94]; exact chk_in hl 4 rfl
  · rw [z 97 (by omega) (by omega) (by omega)]; exact chk_in hl 5 rfl
  · have hg4 : g = 0 ∨ g = 1 ∨ g = 2 ∨ g = 3 := by omega
    rw [z (98 + g) (by omega) (by omega) (by omega), z (102 + g) (by omega) (by omega) (by omega)]
    rcases hg4 with rfl | rfl | rfl | rfl
    · exact ⟨chk_in hl 6 rfl, chk_in hl 10 rfl⟩
    · exact ⟨chk_in hl 7 rfl, chk_in hl 11 rfl⟩
    · exact ⟨chk_in hl 8 rfl, chk_in hl 12 rfl⟩
    · exact ⟨chk_in hl 9 rfl, chk_in hl 13 rfl⟩
  · rw [row0_106]; exact chk_in hl 14 rfl
  · rw [row0_107]; exact chk_in hl 15 rfl
  · exact chk_in hl 16 rfl
  · exact chk_in hl 17 rfl
/-- the start: both constructors come to their ends, and the two are alike -/
theorem start_ok : ∃ L1 M1 L2 M2, m_SR_init 0 (lNew l00 7 0) (mNew l00 m00) = some (L1, M1) ∧ L1.1 = 235 ∧ m_SR_init 235 (lNew L1 7 0) (mNew L1 M1) = some (L2, M2) ∧ L2.1 = 470 ∧ okL (lNew L2 9 1) 0 srT ∧ okL (lNew L2 9 1) 235 srT ∧ INV 0 (mNew L2 M2) := by
  have h1 := ini1_t
  have h2 := ini2_t
  cases e1 : ini1 with
  | none => rw [e1] at h1; cases h1
  | some q1 =>
    rw [e1] at h1
    cases e2 : ini2 with
    | none => rw [e2] at h2; cases h2
    | some q2 =>
      rw [e2] at h2
      have k1 : lk1 q1 = true := h1
      have k2 : lk2 q2 = true := h2
      have e2' : m_SR_init 235 (lNew q1.1 7 0) (mNew q1.1 q1.2) = some q2 := by
        unfold ini2 at e2
        rw [e1, bS] at e2
        exact e2
      unfold lk2 at k2
      simp only [Bool.and_eq_true] at k2
      obtain ⟨⟨⟨⟨a1, a2⟩, a3⟩, a4⟩, a5⟩ := k2
      exact ⟨q1.1, q1.2, q2.1, q2.2, e1, Nat.eq_of_beq_eq_true k1, e2', Nat.eq_of_beq_eq_true a1, okLb_ok a2, okLb_ok a3, row0, row0_F, row0_M, ⟨_, _, GO_st a4⟩, _, _, GO_st a5⟩
