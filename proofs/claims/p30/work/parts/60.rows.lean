/-! LAYER 2: the state as the model's row of numbers; what is right, why something is refused; the model's helpers -/
abbrev Row : Type := Nat → Int32
def sN (a : Row) : Nat := (a 0).toNatClampNeg
def dN (a : Row) : Nat := (a 41).toNatClampNeg
abbrev rD (a : Row) : Nat → Int32 := fun i => a (42 + i)
def rtA (a : Row) (s : Nat) : Int32 := spR (rD a) (dN a) (a (5 * s + 2))
/-- what holds of each state: places, words, decrees -/
def InvB (a : Row) : Prop := (sN a ≤ 8 ∧ a 0 = nI (sN a)) ∧ (dN a ≤ 10 ∧ a 41 = nI (dN a)) ∧ okR (rD a) (dN a) ∧ ∀ s, s < sN a → (∃ g, g < 4 ∧ a (5 * s + 1) = nI g) ∧ vW (a (5 * s + 2)) ∧ vW (a (5 * s + 3))
/-- right spellings are there and unlike -/
def InvR (a : Row) : Prop := (∀ s, s < sN a → rtA a s ≠ 0) ∧ ∀ s t, t < s → s < sN a → a (5 * t + 1) = a (5 * s + 1) → rtA a t ≠ rtA a s
/-- accounts, settings, amnesty -/
def InvC (a : Row) : Prop := a 95 = a 98 + a 99 + a 100 + a 101 ∧ a 96 = a 102 + a 103 + a 104 + a 105 ∧ (∃ x, x ≤ 20 ∧ a 106 = nI x) ∧ (∃ x, x ≤ 20 ∧ a 107 = nI x) ∧ ∃ x, x ≤ 9 ∧ a 93 = nI x
def Inv (a : Row) : Prop := InvB a ∧ InvR a ∧ InvC a
theorem rt_vW {a : Row} (h : InvB a) {s : Nat} (hs : s < sN a) : vW (rtA a s) := spR_vW h.2.2.1 (h.2.2.2 s hs).2.1 _ (Nat.le_refl _)
theorem sN_of {a : Row} {n : Nat} (h : a 0 = nI n) (hn : n < 2 ^ 31) : sN a = n := by unfold sN; rw [h, nI_clamp hn]
theorem dN_of {a : Row} {n : Nat} (h : a 41 = nI n) (hn : n < 2 ^ 31) : dN a = n := by unfold dN; rw [h, nI_clamp hn]
/-- the same guilds, words and decrees -/
def L0 (a b : Row) : Prop := b 0 = a 0 ∧ b 41 = a 41 ∧ (∀ s, s < sN a → b (5 * s + 1) = a (5 * s + 1) ∧ b (5 * s + 2) = a (5 * s + 2)) ∧ ∀ i, i < 5 * dN a → b (42 + i) = a (42 + i)
theorem L0.n {a b : Row} (h : L0 a b) : sN b = sN a ∧ dN b = dN a := by
  unfold sN dN
  rw [h.1, h.2.1]
  exact ⟨rfl, rfl⟩
theorem L0.tr {a b c : Row} (h : L0 a b) (k : L0 b c) : L0 a c := by
  obtain ⟨n1, n2⟩ := h.n
  refine ⟨k.1.trans h.1, k.2.1.trans h.2.1, fun s hs => ?_, fun i hi => ?_⟩
  · have h1 := k.2.2.1 s (by omega)
    have h2 := h.2.2.1 s hs
    exact ⟨h1.1.trans h2.1, h1.2.trans h2.2⟩
  · exact (k.2.2.2 i (by omega)).trans (h.2.2.2 i hi)
theorem L0.rt {a b : Row} (h : L0 a b) {s : Nat} (hs : s < sN a) : rtA b s = rtA a s := by
  unfold rtA
  rw [h.n.2, (h.2.2.1 s hs).2]
  exact spR_congr _ _ (fun i hi => h.2.2.2 i hi)
theorem L0.invB {a b : Row} (h : L0 a b) (hI : InvB a) (hp : ∀ s, s < sN a → vW (b (5 * s + 3))) : InvB b := by
  obtain ⟨h1, h2, h3, h4⟩ := hI
  refine ⟨?_, ?_, ?_, ?_⟩
  · rw [h.n.1, h.1]; exact h1
  · rw [h.n.2, h.2.1]; exact h2
  · rw [h.n.2]
    intro k hk
    have e : ∀ j, j < 5 → rD b (5 * k + j) = rD a (5 * k + j) := fun j hj => h.2.2.2 (5 * k + j) (by omega)
    rw [show rD b (5 * k) = rD a (5 * k) from e 0 (by omega), e 1 (by omega), e 2 (by omega), e 3 (by omega)]
    exact h3 k hk
  · rw [h.n.1]
    intro s hs
    rw [(h.2.2.1 s hs).1, (h.2.2.1 s hs).2]
    exact ⟨(h4 s hs).1, (h4 s hs).2.1, hp s hs⟩
theorem L0.invR {a b : Row} (h : L0 a b) (hI : InvR a) : InvR b := by
  obtain ⟨h1, h2⟩ := hI
  unfold InvR
  rw [h.n.1]
  refine ⟨fun s hs => by rw [h.rt hs]; exact h1 s hs, fun s t ht hs => ?_⟩
  rw [h.rt hs, h.rt (by omega), (h.2.2.1 s hs).1, (h.2.2.1 t (by omega)).1]
  exact h2 s t ht hs
/-- the same in all that counts -/
def LE (a b : Row) : Prop := b 0 = a 0 ∧ b 41 = a 41 ∧ (∀ i, i < 5 * sN a → b (1 + i) = a (1 + i)) ∧ (∀ i, i < 5 * dN a → b (42 + i) = a (42 + i)) ∧ ∀ i, 92 ≤ i → i < 108 → b i = a i
theorem LE.sg {a b : Row} (h : LE a b) {s j : Nat} (hs : s < sN a) (hj : j < 5) : b (5 * s + 1 + j) = a (5 * s + 1 + j) := by
  have := h.2.2.1 (5 * s + j) (by omega)
  rw [show 5 * s + 1 + j = 1 + (5 * s + j) by omega]
  exact this
theorem LE.l0 {a b : Row} (h : LE a b) : L0 a b := ⟨h.1, h.2.1, fun s hs => ⟨h.sg (j := 0) hs (by omega), h.sg (j := 1) hs (by omega)⟩, h.2.2.2.1⟩
theorem LE.n {a b : Row} (h : LE a b) : sN b = sN a ∧ dN b = dN a := h.l0.n
theorem LE.rt {a b : Row} (h : LE a b) {s : Nat} (hs : s < sN a) : rtA b s = rtA a s := h.l0.rt hs
theorem LE.invB {a b : Row} (h : LE a b) (hI : InvB a) : InvB b := h.l0.invB hI (fun s hs => by
  rw [show b (5 * s + 3) = a (5 * s + 3) from h.sg (j := 2) hs (by omega)]
  exact (hI.2.2.2 s hs).2.2)
theorem LE.invR {a b : Row} (h : LE a b) (hI : InvR a) : InvR b := h.l0.invR hI
theorem LE.invC {a b : Row} (h : LE a b) (hI : InvC a) : InvC b := by
  have e := h.2.2.2.2
  unfold InvC
  rw [e 93 (by omega) (by omega), e 95 (by omega) (by omega), e 96 (by omega) (by omega), e 98 (by omega) (by omega), e 99 (by omega) (by omega), e 100 (by omega) (by omega), e 101 (by omega) (by omega), e 102 (by omega) (by omega), e 103 (by omega) (by omega), e 104 (by omega) (by omega), e 105 (by omega) (by omega), e 106 (by omega) (by omega), e 107 (by omega) (by omega)]
  exact hI
theorem LE.inv {a b : Row} (h : LE a b) (hI : Inv a) : Inv b := ⟨h.invB hI.1, h.invR hI.2.1, h.invC hI.2.2⟩
theorem LE.of {a b : Row} (hs : sN a ≤ 8) (hd : dN a ≤ 10) (h : ∀ i, i < 108 → b i = a i) : LE a b :=
  ⟨h 0 (by omega), h 41 (by omega), fun i hi => h _ (by omega), fun i hi => h _ (by omega), fun i _ hi => h i hi⟩
theorem LE.rf {a : Row} : LE a a := ⟨rfl, rfl, fun _ _ => rfl, fun _ _ => rfl, fun _ _ _ => rfl⟩
/-! the model's reads -/
theorem r0 {M : KMem} {o : Nat} : rdI M o 108 0 = some (M o 0) := rdN (j := 0) (by omega) (by omega)
theorem r41 {M : KMem} {o : Nat} : rdI M o 108 41 = some (M o 41) := rdN (j := 41) (by omega) (by omega)
theorem r92 {M : KMem} {o : Nat} : rdI M o 108 92 = some (M o 92) := rdN (j := 92) (by omega) (by omega)
theorem r93 {M : KMem} {o : Nat} : rdI M o 108 93 = some (M o 93) := rdN (j := 93) (by omega) (by omega)
theorem r94 {M : KMem} {o : Nat} : rdI M o 108 94 = some (M o 94) := rdN (j := 94) (by omega) (by omega)
theorem r95 {M : KMem} {o : Nat} : rdI M o 108 95 = some (M o 95) := rdN (j := 95) (by omega) (by omega)
theorem r96 {M : KMem} {o : Nat} : rdI M o 108 96 = some (M o 96) := rdN (j := 96) (by omega) (by omega)
theorem r97 {M : KMem} {o : Nat} : rdI M o 108 97 = some (M o 97) := rdN (j := 97) (by omega) (by omega)
theorem r106 {M : KMem} {o : Nat} : rdI M o 108 106 = some (M o 106) := rdN (j := 106) (by omega) (by omega)
theorem r107 {M : KMem} {o : Nat} : rdI M o 108 107 = some (M o 107) := rdN (j := 107) (by omega) (by omega)
theorem w0 {M : KMem} {o : Nat} {x : Int32} : wrI M o 108 0 x = some (kup M o 0 x) := wrN (j := 0) (by omega) (by omega)
theorem w41 {M : KMem} {o : Nat} {x : Int32} : wrI M o 108 41 x = some (kup M o 41 x) := wrN (j := 41) (by omega) (by omega)
theorem w92 {M : KMem} {o : Nat} {x : Int32} : wrI M o 108 92 x = some (kup M o 92 x) := wrN (j := 92) (by omega) (by omega)
theorem w93 {M : KMem} {o : Nat} {x : Int32} : wrI M o 108 93 x = some (kup M o 93 x) := wrN (j := 93) (by omega) (by omega)
theorem w94 {M : KMem} {o : Nat} {x : Int32} : wrI M o 108 94 x = some (kup M o 94 x) := wrN (j := 94) (by omega) (by omega)
theorem w95 {M : KMem} {o : Nat} {x : Int32} : wrI M o 108 95 x = some (kup M o 95 x) := wrN (j := 95) (by omega) (by omega)
theorem w96 {M : KMem} {o : Nat} {x : Int32} : wrI M o 108 96 x = some (kup M o 96 x) := wrN (j := 96) (by omega) (by omega)
theorem w97 {M : KMem} {o : Nat} {x : Int32} : wrI M o 108 97 x = some (kup M o 97 x) := wrN (j := 97) (by omega) (by omega)
/-- the truth of a statement, as 1 or 0 -/
noncomputable def bz (p : Prop) : Int32 := @ite _ p (Classical.propDecidable p) 1 0
theorem bz_t {p : Prop} (h : p) : bz p = 1 := if_pos h
theorem bz_f {p : Prop} (h : ¬ p) : bz p = 0 := if_neg h
theorem bz_0 {p : Prop} : (bz p = 0) ↔ ¬ p := by
  by_cases h : p
  · rw [bz_t h]; exact ⟨fun e => absurd e (by decide), fun e => (e h).elim⟩
  · rw [bz_f h]; exact ⟨fun _ => h, fun _ => rfl⟩
theorem bz_c {p q : Prop} (h : p ↔ q) : bz p = bz q := by rw [propext h]
def hE (b : Row) : Prop := ∃ s, s < sN b ∧ rtA b s = 0
def hS (b : Row) : Prop := ∃ s, s < sN b ∧ ∃ t, t < s ∧ b (5 * t + 1) = b (5 * s + 1) ∧ rtA b t = rtA b s
noncomputable def hind (b : Row) : Int32 := @ite _ (hE b) (Classical.propDecidable _) 1 (@ite _ (hS b) (Classical.propDecidable _) 2 0)
theorem hind_1 {b : Row} (h : hE b) : hind b = 1 := if_pos h
theorem hind_2 {b : Row} (h : ¬ hE b) (h2 : hS b) : hind b = 2 := by unfold hind; rw [if_neg h, if_pos h2]
theorem hind_0 {b : Row} (h : ¬ hE b) (h2 : ¬ hS b) : hind b = 0 := by unfold hind; rw [if_neg h, if_neg h2]
theorem hind_c (b : Row) : (hind b = 1 ∧ hE b) ∨ (hind b = 2 ∧ ¬ hE b ∧ hS b) ∨ (hind b = 0 ∧ ¬ hE b ∧ ¬ hS b) := by
  by_cases h : hE b
  · exact Or.inl ⟨hind_1 h, h⟩
  · by_cases h2 : hS b
    · exact Or.inr (Or.inl ⟨hind_2 h h2, h, h2⟩)
    · exact Or.inr (Or.inr ⟨hind_0 h h2, h, h2⟩)
theorem hind_le (b : Row) : (hind b ≤ 0) ↔ hind b = 0 := by
  rcases hind_c b with ⟨e, -⟩ | ⟨e, -⟩ | ⟨e, -⟩ <;> rw [e] <;> decide
theorem hind_R {b : Row} (h : hind b = 0) : InvR b := by
  rcases hind_c b with ⟨e, -⟩ | ⟨e, -⟩ | ⟨e, h1, h2⟩
  · rw [e] at h; cases h
  · rw [e] at h; cases h
  · exact ⟨fun s hs e => h1 ⟨s, hs, e⟩, fun s t ht hs e1 e2 => h2 ⟨s, hs, t, ht, e1, e2⟩⟩
theorem R_hind {b : Row} (h : InvR b) : hind b = 0 := by
  refine hind_0 ?_ ?_
  · rintro ⟨s, hs, e⟩; exact h.1 s hs e
  · rintro ⟨s, hs, t, ht, e1, e2⟩; exact h.2 s t ht hs e1 e2
theorem ex_succ {P : Nat → Prop} {n : Nat} : (∃ s, s < n + 1 ∧ P s) ↔ (∃ s, s < n ∧ P s) ∨ P n := by
  constructor
  · rintro ⟨s, hs, hp⟩
    by_cases h : s = n
    · subst h; exact Or.inr hp
    · exact Or.inl ⟨s, by omega, hp⟩
  · rintro (⟨s, hs, hp⟩ | hp)
    · exact ⟨s, by omega, hp⟩
    · exact ⟨n, by omega, hp⟩
theorem ex_zero {P : Nat → Prop} : ¬ ∃ s, s < 0 ∧ P s := by
  rintro ⟨s, hs, -⟩
  omega
theorem nI_leF {a b : Nat} (ha : a < 2 ^ 31) (hb : b < 2 ^ 31) (h : b < a) : (nI a ≤ nI b) = False := by
  rw [nI_leI ha hb]
  exact eq_false (by omega)
/-- wrong signs -/
def wrC (a : Row) : Nat → Int32
  | 0 => 0
  | s + 1 => wrC a s + (if a (5 * s + 3) = rtA a s then 0 else 1)
/-- how far a sign is from right; what it costs -/
def apA (a : Row) (s : Nat) : Nat := lv (a (5 * s + 3)) (rtA a s)
def coA (a : Row) (s : Nat) : Int32 := a 106 * nI (apA a s)
theorem ap_8 {a : Row} (h : InvB a) {s : Nat} (hs : s < sN a) : apA a s ≤ 8 := lv_8 (h.2.2.2 s hs).2.2 (rt_vW h hs)
theorem ap_0 {a : Row} (h : InvB a) {s : Nat} (hs : s < sN a) : apA a s = 0 ↔ a (5 * s + 3) = rtA a s := lv_0 (h.2.2.2 s hs).2.2 (rt_vW h hs)
