/-! LAYER 2: the model's acts: paint, months, amnesties; what it does -/
def gN (a : Row) (s : Nat) : Nat := (a (5 * s + 1)).toNatClampNeg
theorem gN_e {a : Row} (h : InvB a) {s : Nat} (hs : s < sN a) : gN a s < 4 ∧ a (5 * s + 1) = nI (gN a s) := by
  obtain ⟨g, hg, e⟩ := (h.2.2.2 s hs).1
  unfold gN
  rw [e, nI_clamp (by omega)]
  exact ⟨hg, rfl⟩
/-- a sign is painted -/
def paintsA (a : Row) (s : Nat) : Row :=
  upd (upd (upd (upd a (5 * s + 3) (rtA a s)) (5 * s + 4) (a (5 * s + 4) + 1)) (102 + gN a s) (a (102 + gN a s) + coA a s)) 96 (a 96 + coA a s)
theorem paintsA_out {a : Row} {s i : Nat} (h1 : i ≠ 5 * s + 3) (h2 : i ≠ 5 * s + 4) (h3 : i ≠ 102 + gN a s) (h4 : i ≠ 96) : paintsA a s i = a i := by
  unfold paintsA
  rw [pk_un h4, pk_un h3, pk_un h2, pk_un h1]
theorem paintsA_3 {a : Row} {s : Nat} (hs : s < 8) : paintsA a s (5 * s + 3) = rtA a s := by
  unfold paintsA
  rw [pk_un (by omega), pk_un (by omega), pk_un (by omega), pk_us]
theorem paintsA_4 {a : Row} {s : Nat} (hs : s < 8) : paintsA a s (5 * s + 4) = a (5 * s + 4) + 1 := by
  unfold paintsA
  rw [pk_un (by omega), pk_un (by omega), pk_us]
theorem paintsA_g {a : Row} {s : Nat} : paintsA a s (102 + gN a s) = a (102 + gN a s) + coA a s := by
  unfold paintsA
  rw [pk_un (by omega), pk_us]
theorem paintsA_96 {a : Row} {s : Nat} : paintsA a s 96 = a 96 + coA a s := by
  unfold paintsA
  rw [pk_us]
theorem paintsA_l0 {a : Row} (h : InvB a) {s : Nat} (hs : s < sN a) : L0 a (paintsA a s) := by
  have h1 := h.1.1
  have h2 := h.2.1.1
  refine ⟨paintsA_out (by omega) (by omega) (by omega) (by omega), paintsA_out (by omega) (by omega) (by omega) (by omega), fun t ht => ⟨paintsA_out (by omega) (by omega) (by omega) (by omega), paintsA_out (by omega) (by omega) (by omega) (by omega)⟩, fun i hi => paintsA_out (by omega) (by omega) (by omega) (by omega)⟩
theorem sum4 {x c : Int32} {f f' : Nat → Int32} {b g : Nat} (hg : g < 4) (hx : x = f b + f (b + 1) + f (b + 2) + f (b + 3)) (h1 : f' (b + g) = f (b + g) + c) (h2 : ∀ j, j < 4 → j ≠ g → f' (b + j) = f (b + j)) : x + c = f' b + f' (b + 1) + f' (b + 2) + f' (b + 3) := by
  have e : ∀ p q r s c : Int32, p + q + r + s + c = p + c + q + r + s ∧ p + q + r + s + c = p + (q + c) + r + s ∧ p + q + r + s + c = p + q + (r + c) + s ∧ p + q + r + s + c = p + q + r + (s + c) := fun p q r s c => by
    refine ⟨?_, ?_, ?_, ?_⟩ <;> ac_rfl
  obtain ⟨e0, e1, e2, e3⟩ := e (f b) (f (b + 1)) (f (b + 2)) (f (b + 3)) c
  rw [hx]
  match g, hg with
  | 0, _ =>
    rw [show f' b = f b + c from h1, h2 1 (by omega) (by omega), h2 2 (by omega) (by omega), h2 3 (by omega) (by omega)]
    exact e0
  | 1, _ =>
    rw [h1, show f' b = f b from h2 0 (by omega) (by omega), h2 2 (by omega) (by omega), h2 3 (by omega) (by omega)]
    exact e1
  | 2, _ =>
    rw [h1, show f' b = f b from h2 0 (by omega) (by omega), h2 1 (by omega) (by omega), h2 3 (by omega) (by omega)]
    exact e2
  | 3, _ =>
    rw [h1, show f' b = f b from h2 0 (by omega) (by omega), h2 1 (by omega) (by omega), h2 2 (by omega) (by omega)]
    exact e3
theorem paintsA_inv {a : Row} (h : Inv a) {s : Nat} (hs : s < sN a) : Inv (paintsA a s) := by
  have hB := h.1
  have h1 := hB.1.1
  have l0 := paintsA_l0 hB hs
  obtain ⟨g1, g2⟩ := gN_e hB hs
  have hc := h.2.2
  have o : ∀ i, 92 ≤ i → i ≠ 96 → i ≠ 102 + gN a s → paintsA a s i = a i := fun i h1 h2 h3 => paintsA_out (by omega) (by omega) h3 h2
  refine ⟨l0.invB hB (fun t ht => ?_), l0.invR h.2.1, ?_⟩
  · by_cases hts : t = s
    · subst hts
      rw [paintsA_3 (by omega)]
      exact rt_vW hB hs
    · rw [paintsA_out (by omega) (by omega) (by omega) (by omega)]
      exact (hB.2.2.2 t ht).2.2
  · unfold InvC
    rw [o 93 (by omega) (by omega) (by omega), o 95 (by omega) (by omega) (by omega), o 98 (by omega) (by omega) (by omega), o 99 (by omega) (by omega) (by omega), o 100 (by omega) (by omega) (by omega), o 101 (by omega) (by omega) (by omega), o 106 (by omega) (by omega) (by omega), o 107 (by omega) (by omega) (by omega), paintsA_96]
    exact ⟨hc.1, sum4 (b := 102) g1 hc.2.1 paintsA_g (fun j hj hjg => o _ (by omega) (by omega) (by omega)), hc.2.2⟩
/-- a month goes by -/
def finS (b : Row) (s : Nat) : Row :=
  upd (upd (upd b (5 * s + 5) (b (5 * s + 5) + (if b (5 * s + 3) = rtA b s then 0 else b 107))) (98 + gN b s) (b (98 + gN b s) + (if b (5 * s + 3) = rtA b s then 0 else b 107))) 95 (b 95 + (if b (5 * s + 3) = rtA b s then 0 else b 107))
def finA (a : Row) : Nat → Row
  | 0 => a
  | s + 1 => finS (finA a s) s
def monA (a : Row) : Row :=
  let b := upd a 92 (a 92 + 1)
  let c := if b 93 = 0 then finA b (sN b) else b
  upd c 93 (c 93 - (if c 93 ≤ 0 then 0 else 1))
def monsA (a : Row) : Nat → Row
  | 0 => a
  | n + 1 => monA (monsA a n)
theorem finS_out {b : Row} {s i : Nat} (h1 : i ≠ 5 * s + 5) (h2 : i ≠ 98 + gN b s) (h3 : i ≠ 95) : finS b s i = b i := by
  unfold finS
  rw [pk_un h3, pk_un h2, pk_un h1]
theorem finS_l0 {b : Row} (h : InvB b) {s : Nat} (hs : s < 8) : L0 b (finS b s) ∧ ∀ t, t < sN b → finS b s (5 * t + 3) = b (5 * t + 3) := by
  have h1 := h.1.1
  have h2 := h.2.1.1
  exact ⟨⟨finS_out (by omega) (by omega) (by omega), finS_out (by omega) (by omega) (by omega), fun t ht => ⟨finS_out (by omega) (by omega) (by omega), finS_out (by omega) (by omega) (by omega)⟩, fun i hi => finS_out (by omega) (by omega) (by omega)⟩, fun t ht => finS_out (by omega) (by omega) (by omega)⟩
theorem finS_inv {b : Row} (h : Inv b) {s : Nat} (hs : s < sN b) : Inv (finS b s) ∧ sN (finS b s) = sN b := by
  have h8 := h.1.1.1
  obtain ⟨l0, l3⟩ := finS_l0 h.1 (s := s) (by omega)
  obtain ⟨g1, g2⟩ := gN_e h.1 hs
  have hc := h.2.2
  have o : ∀ i, 92 ≤ i → i ≠ 95 → i ≠ 98 + gN b s → finS b s i = b i := fun i h1 h2 h3 => finS_out (by omega) h3 h2
  refine ⟨⟨l0.invB h.1 (fun t ht => by rw [l3 t ht]; exact (h.1.2.2.2 t ht).2.2), l0.invR h.2.1, ?_⟩, l0.n.1⟩
  have q95 : finS b s 95 = b 95 + (if b (5 * s + 3) = rtA b s then 0 else b 107) := by unfold finS; rw [pk_us]
  have qg : finS b s (98 + gN b s) = b (98 + gN b s) + (if b (5 * s + 3) = rtA b s then 0 else b 107) := by unfold finS; rw [pk_un (by omega), pk_us]
  unfold InvC
  rw [o 93 (by omega) (by omega) (by omega), o 96 (by omega) (by omega) (by omega), o 102 (by omega) (by omega) (by omega), o 103 (by omega) (by omega) (by omega), o 104 (by omega) (by omega) (by omega), o 105 (by omega) (by omega) (by omega), o 106 (by omega) (by omega) (by omega), o 107 (by omega) (by omega) (by omega), q95]
  exact ⟨sum4 (b := 98) g1 hc.1 qg (fun j hj hjg => o _ (by omega) (by omega) (by omega)), hc.2⟩
theorem finA_inv {a : Row} (h : Inv a) : ∀ s, s ≤ sN a → Inv (finA a s) ∧ sN (finA a s) = sN a := by
  intro s
  induction s with
  | zero => intro _; exact ⟨h, rfl⟩
  | succ s ih =>
    intro hs
    obtain ⟨i1, i2⟩ := ih (by omega)
    obtain ⟨j1, j2⟩ := finS_inv i1 (s := s) (by omega)
    exact ⟨j1, j2.trans i2⟩
theorem inv_92 {a : Row} {x : Int32} (h : Inv a) : Inv (upd a 92 x) := by
  have h1 := h.1.1.1
  have h2 := h.1.2.1.1
  have l0 : L0 a (upd a 92 x) := ⟨pk_un (by omega), pk_un (by omega), fun t ht => ⟨pk_un (by omega), pk_un (by omega)⟩, fun i hi => pk_un (by omega)⟩
  refine ⟨l0.invB h.1 (fun t ht => ?_), l0.invR h.2.1, ?_⟩
  · rw [pk_un (by omega)]; exact (h.1.2.2.2 t ht).2.2
  · have hc := h.2.2
    unfold InvC
    simp (disch := omega) only [pk_un]
    exact hc
theorem inv_93 {a : Row} {x : Nat} (h : Inv a) (hx : x ≤ 9) : Inv (upd a 93 (nI x)) := by
  have h1 := h.1.1.1
  have h2 := h.1.2.1.1
  have l0 : L0 a (upd a 93 (nI x)) := ⟨pk_un (by omega), pk_un (by omega), fun t ht => ⟨pk_un (by omega), pk_un (by omega)⟩, fun i hi => pk_un (by omega)⟩
  refine ⟨l0.invB h.1 (fun t ht => ?_), l0.invR h.2.1, ?_⟩
  · rw [pk_un (by omega)]; exact (h.1.2.2.2 t ht).2.2
  · obtain ⟨c1, c2, c3, c4, c5⟩ := h.2.2
    unfold InvC
    simp (disch := omega) only [pk_un, pk_us]
    exact ⟨c1, c2, c3, c4, x, hx, rfl⟩
theorem inv_94 {a : Row} {x : Int32} (h : Inv a) : Inv (upd a 94 x) := by
  have h1 := h.1.1.1
  have h2 := h.1.2.1.1
  have l0 : L0 a (upd a 94 x) := ⟨pk_un (by omega), pk_un (by omega), fun t ht => ⟨pk_un (by omega), pk_un (by omega)⟩, fun i hi => pk_un (by omega)⟩
  refine ⟨l0.invB h.1 (fun t ht => ?_), l0.invR h.2.1, ?_⟩
  · rw [pk_un (by omega)]; exact (h.1.2.2.2 t ht).2.2
  · have hc := h.2.2
    unfold InvC
    simp (disch := omega) only [pk_un]
    exact hc
theorem inv_97 {a : Row} {x : Int32} (h : Inv a) : Inv (upd a 97 x) := by
  have h1 := h.1.1.1
  have h2 := h.1.2.1.1
  have l0 : L0 a (upd a 97 x) := ⟨pk_un (by omega), pk_un (by omega), fun t ht => ⟨pk_un (by omega), pk_un (by omega)⟩, fun i hi => pk_un (by omega)⟩
  refine ⟨l0.invB h.1 (fun t ht => ?_), l0.invR h.2.1, ?_⟩
  · rw [pk_un (by omega)]; exact (h.1.2.2.2 t ht).2.2
  · have hc := h.2.2
    unfold InvC
    simp (disch := omega) only [pk_un]
    exact hc
theorem dec_93 {x : Nat} (hx : x ≤ 9) : nI x - (if nI x ≤ 0 then 0 else 1) = nI (x - 1) := by
  cases x with
  | zero => rfl
  | succ x => rw [if_neg (nI_nle (by omega) (by omega)), nI_pred]; rfl
theorem monA_inv {a : Row} (h : Inv a) : Inv (monA a) := by
  have hb : Inv (upd a 92 (a 92 + 1)) := inv_92 h
  unfold monA
  simp only
  generalize upd a 92 (a 92 + 1) = b at *
  have hc : Inv (if b 93 = 0 then finA b (sN b) else b) := by
    split
    · exact (finA_inv hb _ (Nat.le_refl _)).1
    · exact hb
  generalize (if b 93 = 0 then finA b (sN b) else b) = c at *
  obtain ⟨x, hx, e⟩ := hc.2.2.2.2.2.2
  rw [e, dec_93 hx]
  exact inv_93 hc (by omega)
theorem monsA_inv {a : Row} (h : Inv a) (n : Nat) : Inv (monsA a n) := by
  induction n with
  | zero => exact h
  | succ n ih => exact monA_inv ih
theorem finS_93 {b : Row} {s : Nat} (hs : s < 8) : finS b s 93 = b 93 := finS_out (by omega) (by omega) (by omega)
/-- an amnesty -/
def sparesA (a : Row) (n : Int32) : Row := upd (upd a 93 n) 94 (a 92)
theorem sparesA_inv {a : Row} {n : Nat} (h : Inv a) (hn : n ≤ 9) : Inv (sparesA a (nI n)) := inv_94 (inv_93 h hn)
