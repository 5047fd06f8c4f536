/-! LAYER 2, no machine from here on: words as lists of letters, and what the mirrors of Words do with them -/
theorem kLp_s {σ ρ : Type} (f : σ → Option (σ ⊕ ρ)) (n : Nat) (s : σ) : kLp f (n + 1) s = (f s).bind (fun r => match r with | .inl s' => kLp f n s' | .inr r => some r) := rfl
theorem kLp_i {σ ρ : Type} {f : σ → Option (σ ⊕ ρ)} {n : Nat} {s s' : σ} (h : f s = some (.inl s')) : kLp f (n + 1) s = kLp f n s' := by rw [kLp_s, h]; rfl
theorem kLp_r {σ ρ : Type} {f : σ → Option (σ ⊕ ρ)} {n : Nat} {s : σ} {r : ρ} (h : f s = some (.inr r)) : kLp f (n + 1) s = some r := by rw [kLp_s, h]; rfl
theorem kFU_s : kFU = 99999 + 1 := rfl
theorem lit_nI (n : Nat) : (OfNat.ofNat n : Int32) = nI n := rfl
/-- a word's number, its last letter first in the list -/
def vr : List Nat → Nat
  | [] => 0
  | d :: l => d + 10 * vr l
/-- letters, at most 8 of them -/
def wl (l : List Nat) : Prop := ∀ d ∈ l, 1 ≤ d ∧ d ≤ 6
theorem wl_nil : wl [] := fun _ h => nomatch h
theorem wl_cons {d : Nat} {l : List Nat} : wl (d :: l) ↔ (1 ≤ d ∧ d ≤ 6) ∧ wl l := by simp [wl]
theorem wl_app {a b : List Nat} : wl (a ++ b) ↔ wl a ∧ wl b := by
  simp only [wl, List.mem_append]
  exact ⟨fun h => ⟨fun d hd => h d (Or.inl hd), fun d hd => h d (Or.inr hd)⟩, fun h d hd => hd.elim (h.1 d) (h.2 d)⟩
theorem wl_rev {l : List Nat} : wl l.reverse ↔ wl l := by simp [wl]
theorem vr_lt : ∀ {l : List Nat}, wl l → vr l < 10 ^ l.length := by
  intro l
  induction l with
  | nil => intro _; simp [vr]
  | cons d l ih =>
    intro h
    obtain ⟨h1, h2⟩ := wl_cons.mp h
    have h3 := ih h2
    simp only [vr, List.length_cons, Nat.pow_succ]
    omega
theorem vr_8 {l : List Nat} (h : wl l) (hl : l.length ≤ 8) : vr l < 100000000 := by
  have h1 := vr_lt h
  have h2 : (10 : Nat) ^ l.length ≤ 10 ^ 8 := Nat.pow_le_pow_right (by decide) hl
  have h3 : (10 : Nat) ^ 8 = 100000000 := by decide
  omega
theorem vr_mod {d : Nat} (l : List Nat) (h : d ≤ 6) : vr (d :: l) % 10 = d := by simp only [vr]; omega
theorem vr_div {d : Nat} (l : List Nat) (h : d ≤ 6) : vr (d :: l) / 10 = vr l := by simp only [vr]; omega
theorem vr_pos {d : Nat} (l : List Nat) (h : 1 ≤ d) : 0 < vr (d :: l) := by simp only [vr]; omega
theorem vr_inj : ∀ {a b : List Nat}, wl a → wl b → vr a = vr b → a = b := by
  intro a
  induction a with
  | nil =>
    intro b _ hb h
    cases b with
    | nil => rfl
    | cons d l =>
      have := vr_pos l (wl_cons.mp hb).1.1
      simp only [vr] at h this
      omega
  | cons d l ih =>
    intro b ha hb h
    cases b with
    | nil =>
      have := vr_pos l (wl_cons.mp ha).1.1
      simp only [vr] at h this
      omega
    | cons d' l' =>
      obtain ⟨h1, h2⟩ := wl_cons.mp ha
      obtain ⟨h3, h4⟩ := wl_cons.mp hb
      simp only [vr] at h
      have e1 : d = d' := by omega
      have e2 : vr l = vr l' := by omega
      rw [e1, ih h2 h4 e2]
/-- a word as the class and the model hold it: its letters from the left -/
def wN (l : List Nat) : Int32 := nI (vr l.reverse)
def wR (l : List Nat) : Int32 := nI (vr l)
theorem wN_snoc (l : List Nat) (d : Nat) : wN (l ++ [d]) = wN l * 10 + nI d := by
  simp only [wN, List.reverse_append, List.reverse_cons, List.reverse_nil, List.nil_append, List.singleton_append, vr, lit_nI, pk_mul, nI_add]
  congr 1
  omega
theorem wN_nil : wN [] = 0 := rfl
theorem wR_mod {d : Nat} {l : List Nat} (h : wl (d :: l)) (hl : (d :: l).length ≤ 8) : jrem (wR (d :: l)) 10 = nI d := by
  have h1 := vr_8 h hl
  have h2 := (wl_cons.mp h).1.2
  show nI _ - nI _ / nI 10 * nI 10 = _
  rw [pk_rem (by omega) (by decide) (by decide), vr_mod l h2]
theorem wR_div {d : Nat} {l : List Nat} (h : wl (d :: l)) (hl : (d :: l).length ≤ 8) : wR (d :: l) / 10 = wR l := by
  have h1 := vr_8 h hl
  have h2 := (wl_cons.mp h).1.2
  show nI _ / nI 10 = _
  rw [pk_div (by omega) (by decide) (by decide), vr_div l h2]
  rfl
theorem wR_0 {l : List Nat} (h : wl l) (hl : l.length ≤ 8) : wR l = 0 ↔ l = [] := by
  have h1 := vr_8 h hl
  show nI _ = nI 0 ↔ _
  rw [nI_eq (by omega) (by decide)]
  cases l with
  | nil => simp [vr]
  | cons d l =>
    have := vr_pos l (wl_cons.mp h).1.1
    simp
    omega
theorem nI_8 {i : Nat} (h : i ≤ 8) : (8 : Int32) ≤ nI i ↔ 8 ≤ i := nI_leI (by decide) (by omega)
/-- Words.mirrored -/
theorem mir_loop : ∀ (l acc : List Nat) (i n : Nat), wl l → i + l.length ≤ 8 → l.length < n → kLp m_Wo_mirrored_l6 n (wN acc, wR l, nI i) = some (wN (acc ++ l)) := by
  intro l
  induction l with
  | nil =>
    intro acc i n h hi hn
    obtain ⟨k, rfl⟩ : ∃ k, n = k + 1 := ⟨n - 1, by simp at hn; omega⟩
    refine kLp_r ?_
    simp only [m_Wo_mirrored_l6, List.append_nil]
    have h0 : wR [] = 0 := rfl
    simp [h0]
  | cons d l ih =>
    intro acc i n h hi hn
    simp only [List.length_cons] at hi hn
    obtain ⟨k, rfl⟩ : ∃ k, n = k + 1 := ⟨n - 1, by omega⟩
    have hl : (d :: l).length ≤ 8 := by simp; omega
    rw [kLp_i (s' := (wN (acc ++ [d]), wR l, nI (i + 1)))]
    · rw [ih (acc ++ [d]) (i + 1) k (wl_cons.mp h).2 (by omega) (by omega)]
      simp
    · simp only [m_Wo_mirrored_l6]
      rw [if_neg (by rw [nI_8 (by omega)]; omega), if_neg (by rw [wR_0 h hl]; simp), wR_mod h hl, wR_div h hl, ← wN_snoc, nI_1]
theorem mirrored_ok {l : List Nat} (h : wl l) (hl : l.length ≤ 8) : m_Wo_mirrored (wR l) = some (wN l) := by
  have h1 := mir_loop l [] 0 kFU h (by omega) (by have : kFU = 100000 := rfl; omega)
  simp only [m_Wo_mirrored]
  have e : kLp m_Wo_mirrored_l6 kFU (0, wR l, 0) = some (wN l) := h1
  rw [e]
  rfl
