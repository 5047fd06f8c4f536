/-! LAYER 2: tools for total runs of the mirrors -/
theorem kB {α β : Type} {o : Option α} {f : α → Option β} {P : β → Prop} (Q : α → Prop) (h : kOk o Q) (k : ∀ x, Q x → kOk (f x) P) : kOk (o.bind f) P := by
  obtain ⟨x, rfl, hx⟩ := h
  exact k x hx
theorem kBe {α β : Type} {o : Option α} {f : α → Option β} {r : α} {P : β → Prop} (e : o = some r) (k : kOk (f r) P) : kOk (o.bind f) P := by
  rw [e]
  exact k
theorem kWk {α : Type} {o : Option α} {P : α → Prop} (Q : α → Prop) (h : kOk o Q) (k : ∀ r, Q r → P r) : kOk o P := by
  obtain ⟨x, e, hx⟩ := h
  exact ⟨x, e, k x hx⟩
theorem kEx {α : Type} {o : Option α} {r : α} (h : kOk o (fun x => x = r)) : o = some r := by
  obtain ⟨x, e, rfl⟩ := h
  exact e
theorem bE {α β : Type} {o : Option α} {f : α → Option β} {r : α} (e : o = some r) : o.bind f = f r := by
  rw [e]
  rfl
theorem kz_0 : kz 0 = some 0 := rfl
theorem kz_1 : kz 1 = some 1 := rfl
theorem kz_i {c : Prop} [Decidable c] : kz (if c then 0 else 1) = some (if c then 0 else 1) := by
  split <;> rfl
theorem kz_j {c : Prop} [Decidable c] : kz (if c then 1 else 0) = some (if c then 1 else 0) := by
  split <;> rfl
theorem bS {α β : Type} (x : α) (f : α → Option β) : Option.bind (some x) f = f x := rfl
theorem bI {α β : Type} {c : Prop} [Decidable c] (a b : α) (f : α → Option β) : Option.bind (if c then some a else some b) f = f (if c then a else b) := by
  split <;> rfl
theorem i01 {c : Prop} [Decidable c] : ((if c then (1 : Int32) else 0) = 0) ↔ ¬ c := by
  by_cases h : c <;> simp [h]
theorem i10 {c : Prop} [Decidable c] : ((if c then (0 : Int32) else 1) = 0) ↔ c := by
  by_cases h : c <;> simp [h]
/-- a loop, by a measure that falls -/
theorem kWh {σ ρ : Type} {f : σ → Option (σ ⊕ ρ)} {Q : ρ → Prop} (I : Nat → σ → Prop)
    (hs : ∀ m s, I m s → (∃ s' m', f s = some (.inl s') ∧ m' < m ∧ I m' s') ∨ ∃ q, f s = some (.inr q) ∧ Q q)
    (m : Nat) (s : σ) (hm : m < 90000) (h : I m s) : kOk (kLp f kFU s) Q := by
  have key : ∀ n m s, m < n → I m s → kOk (kLp f n s) Q := by
    intro n
    induction n with
    | zero => intro m s h; omega
    | succ n ih =>
      intro m s hm h
      rcases hs m s h with ⟨s', m', e, h1, h2⟩ | ⟨q, e, hq⟩
      · rw [kLp_i e]
        exact ih m' s' (by omega) h2
      · rw [kLp_r e]
        exact ⟨q, rfl, hq⟩
  exact key kFU m s (by have : kFU = 100000 := rfl; omega) h
/-- a loop by a counter up to N -/
theorem kFor {σ ρ : Type} {f : σ → Option (σ ⊕ ρ)} {Q : ρ → Prop} (I : Nat → σ → Prop) (N : Nat)
    (hs : ∀ i s, i < N → I i s → (∃ s', f s = some (.inl s') ∧ I (i + 1) s') ∨ ∃ q, f s = some (.inr q) ∧ Q q)
    (he : ∀ s, I N s → ∃ q, f s = some (.inr q) ∧ Q q)
    {i0 : Nat} {s : σ} (hi : i0 ≤ N) (hN : N < 90000) (h : I i0 s) : kOk (kLp f kFU s) Q := by
  refine kWh (fun m s => ∃ i, i ≤ N ∧ m = N - i ∧ I i s) ?_ (N - i0) s (by omega) ⟨i0, hi, rfl, h⟩
  rintro m s ⟨i, h1, rfl, h2⟩
  by_cases hN : i = N
  · subst hN
    exact Or.inr (he s h2)
  · rcases hs i s (by omega) h2 with ⟨s', e, h3⟩ | h3
    · exact Or.inl ⟨s', N - (i + 1), e, by omega, i + 1, by omega, rfl, h3⟩
    · exact Or.inr h3
/-- a loop over the letters of a word's number -/
theorem kDig {σ ρ : Type} {f : σ → Option (σ ⊕ ρ)} {Q : ρ → Prop} (I : List Nat → Nat → σ → Prop)
    (h0 : ∀ i s, i ≤ 8 → I [] i s → ∃ q, f s = some (.inr q) ∧ Q q)
    (hs : ∀ d l i s, wl (d :: l) → (d :: l).length ≤ 8 → i < 8 → I (d :: l) i s → (∃ s' l' i', f s = some (.inl s') ∧ l'.length ≤ l.length ∧ wl l' ∧ l'.length + i' ≤ (d :: l).length + i ∧ I l' i' s') ∨ ∃ q, f s = some (.inr q) ∧ Q q)
    {l : List Nat} {i : Nat} {s : σ} (hw : wl l) (hl : l.length + i ≤ 8) (h : I l i s) : kOk (kLp f kFU s) Q := by
  refine kWh (fun m s => ∃ l i, m = l.length ∧ wl l ∧ l.length + i ≤ 8 ∧ I l i s) ?_ l.length s (by omega) ⟨l, i, rfl, hw, hl, h⟩
  rintro m s ⟨l, i, rfl, h1, h2, h3⟩
  cases l with
  | nil => exact Or.inr (h0 i s (by simpa using h2) h3)
  | cons d l =>
    rcases hs d l i s h1 (by omega) (by simp at h2; omega) h3 with ⟨s', l', i', e, h4, h5, h6, h7⟩ | h4
    · exact Or.inl ⟨s', l'.length, e, by simp; omega, l', i', rfl, h5, by omega, h7⟩
    · exact Or.inr h4
theorem rdN {M : KMem} {o n j : Nat} (h : j < n) (hn : n < 2 ^ 31) : rdI M o n (nI j) = some (M o j) := by
  unfold rdI
  rw [if_neg (nI_in h hn), nI_clamp (by omega)]
theorem wrN {M : KMem} {o n j : Nat} {x : Int32} (h : j < n) (hn : n < 2 ^ 31) : wrI M o n (nI j) x = some (kup M o j x) := by
  unfold wrI
  rw [if_neg (nI_in h hn), nI_clamp (by omega)]
theorem ckN {n j : Nat} (h : j < n) (hn : n < 2 ^ 31) : ckI n (nI j) = some j := by
  unfold ckI
  rw [if_neg (nI_in h hn), nI_clamp (by omega)]
theorem remN {a d : Nat} (ha : a < 2 ^ 31) (h0 : 0 < d) (hd : d < 2 ^ 31) : jrem (nI a) (nI d) = nI (a % d) := pk_rem ha h0 hd
theorem nI_of3 {x : Int32} {n : Nat} (hn : n < 2 ^ 31) (h : ¬ x < 0) (h5 : x ≤ nI n) : ∃ j : Nat, j ≤ n ∧ x = nI j :=
  nI_of2 (nI_toInt hn) h h5
/-- only objects in S differ -/
def frS (S : Nat → Prop) (M M' : KMem) : Prop := ∀ o, ¬ S o → M' o = M o
theorem frS.rf {S : Nat → Prop} {M : KMem} : frS S M M := fun _ _ => rfl
theorem frS.tr {S : Nat → Prop} {M M1 M2 : KMem} (h : frS S M M1) (h2 : frS S M1 M2) : frS S M M2 := fun o ho => (h2 o ho).trans (h o ho)
theorem frS.wk {S T : Nat → Prop} {M M1 : KMem} (h : frS S M M1) (hs : ∀ o, S o → T o) : frS T M M1 := fun o ho => h o (fun hn => ho (hs o hn))
theorem frS.up {S : Nat → Prop} {M : KMem} {o j : Nat} {v : Int32} (h : S o) : frS S M (kup M o j v) := fun o' ho => kup_n M j v (fun e => ho (e ▸ h))
