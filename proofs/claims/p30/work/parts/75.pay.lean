/-! LAYER 2: how many signs a purse can pay -/
def gr : Nat → List Nat → Nat
  | _, [] => 0
  | L, x :: xs => if x ≤ L then 1 + gr (L - x) xs else gr L xs
def ins (x : Nat) : List Nat → List Nat
  | [] => [x]
  | y :: l => if x ≤ y then x :: y :: l else y :: ins x l
def srt : List Nat → List Nat
  | [] => []
  | x :: l => ins x (srt l)
theorem ins_ins (x y : Nat) : ∀ l, ins x (ins y l) = ins y (ins x l) := by
  intro l
  induction l with
  | nil =>
    simp only [ins]
    by_cases h1 : x ≤ y
    · by_cases h2 : y ≤ x
      · have : x = y := by omega
        subst this; rfl
      · rw [if_pos h1, if_neg h2]
    · rw [if_neg h1, if_pos (by omega)]
  | cons z l ih =>
    simp only [ins]
    by_cases h1 : y ≤ z
    · by_cases h2 : x ≤ z
      · rw [if_pos h1, if_pos h2]
        simp only [ins]
        by_cases h3 : x ≤ y
        · by_cases h4 : y ≤ x
          · have : x = y := by omega
            subst this; rfl
          · rw [if_pos h3, if_neg h4, if_pos h1]
        · rw [if_neg h3, if_pos h2, if_pos (by omega)]
      · rw [if_pos h1, if_neg h2]
        simp only [ins]
        rw [if_neg (by omega), if_neg h2, if_pos h1]
    · by_cases h2 : x ≤ z
      · rw [if_neg h1, if_pos h2]
        simp only [ins]
        rw [if_pos h2, if_neg (by omega), if_neg h1]
      · rw [if_neg h1, if_neg h2]
        simp only [ins]
        rw [if_neg h2, if_neg h1, ih]
theorem srt_perm {l l' : List Nat} (h : l.Perm l') : srt l = srt l' := by
  induction h with
  | nil => rfl
  | cons x _ ih => simp only [srt, ih]
  | swap x y l => simp only [srt]; exact ins_ins _ _ _
  | trans _ _ ih1 ih2 => exact ih1.trans ih2
theorem mem_ins {x z : Nat} : ∀ {l : List Nat}, z ∈ ins x l → z = x ∨ z ∈ l := by
  intro l
  induction l with
  | nil => intro h; simp [ins] at h; exact Or.inl h
  | cons y l ih =>
    intro h
    simp only [ins] at h
    split at h
    · rcases List.mem_cons.mp h with h | h
      · exact Or.inl h
      · exact Or.inr h
    · rcases List.mem_cons.mp h with h | h
      · exact Or.inr (by rw [h]; simp)
      · rcases ih h with h | h
        · exact Or.inl h
        · exact Or.inr (List.mem_cons_of_mem _ h)
theorem mem_srt {z : Nat} : ∀ {l : List Nat}, z ∈ srt l → z ∈ l := by
  intro l
  induction l with
  | nil => intro h; exact h
  | cons x l ih =>
    intro h
    rcases mem_ins h with h | h
    · rw [h]; simp
    · exact List.mem_cons_of_mem _ (ih h)
theorem ins_min {x : Nat} {l : List Nat} (h : ∀ z, z ∈ l → x ≤ z) : ins x l = x :: l := by
  cases l with
  | nil => rfl
  | cons y l => simp only [ins]; rw [if_pos (h y (by simp))]
theorem srt_min {x : Nat} {l : List Nat} (h : ∀ z, z ∈ l → x ≤ z) : srt (x :: l) = x :: srt l := by
  simp only [srt]
  exact ins_min (fun z hz => h z (mem_srt hz))
theorem srt_sorted : ∀ {l : List Nat}, l.Pairwise (· ≤ ·) → srt l = l := by
  intro l
  induction l with
  | nil => intro _; rfl
  | cons x l ih =>
    intro h
    obtain ⟨h1, h2⟩ := List.pairwise_cons.mp h
    simp only [srt]
    rw [ih h2]
    exact ins_min h1
theorem gr_none {L : Nat} : ∀ {l : List Nat}, (∀ z, z ∈ l → L < z) → gr L l = 0 := by
  intro l
  induction l with
  | nil => intro _; rfl
  | cons x l ih =>
    intro h
    simp only [gr]
    rw [if_neg (by have := h x (by simp); omega), ih (fun z hz => h z (List.mem_cons_of_mem _ hz))]
section Pay
variable (c : Nat) (d : Nat → Nat)
/-- the signs from s on with l letters -/
def lvf (l : Nat) : Nat → Nat → List Nat
  | _, 0 => []
  | s, m + 1 => if d s = l then c * l :: lvf l (s + 1) m else lvf l (s + 1) m
/-- k levels, the last of them the eighth -/
def remK (s m : Nat) : Nat → List Nat
  | 0 => []
  | k + 1 => lvf c d (8 - k) s m ++ remK s m k
/-- the wrong signs from s on that are not in D -/
def clf (D : Nat → Bool) : Nat → Nat → List Nat
  | _, 0 => []
  | s, m + 1 => if D s = false ∧ d s ≠ 0 then c * d s :: clf D (s + 1) m else clf D (s + 1) m
theorem remK_perm {s m : Nat} : ∀ k, k ≤ 8 → (remK c d s (m + 1) k).Perm (if 9 - k ≤ d s ∧ d s ≤ 8 then c * d s :: remK c d (s + 1) m k else remK c d (s + 1) m k) := by
  intro k
  induction k with
  | zero =>
    intro _
    rw [if_neg (by omega)]
    exact List.Perm.refl _
  | succ k ih =>
    intro hk
    have ih := ih (by omega)
    simp only [remK, lvf]
    by_cases h1 : d s = 8 - k
    · rw [if_pos h1, if_pos (by omega)]
      rw [if_neg (by omega)] at ih
      rw [h1]
      exact List.Perm.cons _ (List.Perm.append_left _ ih)
    · rw [if_neg h1]
      by_cases h2 : 9 - k ≤ d s ∧ d s ≤ 8
      · rw [if_pos h2] at ih
        rw [if_pos (by omega)]
        exact (List.Perm.append_left _ ih).trans List.perm_middle
      · rw [if_neg h2] at ih
        rw [if_neg (by omega)]
        exact List.Perm.append_left _ ih
theorem remK_nil : ∀ k s, remK c d s 0 k = [] := by
  intro k
  induction k with
  | zero => intro s; rfl
  | succ k ih => intro s; simp only [remK, lvf, ih]; rfl
theorem remK_clf (hd : ∀ s, d s ≤ 8) : ∀ m s, (remK c d s m 8).Perm (clf c d (fun _ => false) s m) := by
  intro m
  induction m with
  | zero => intro s; rw [remK_nil]; exact List.Perm.refl _
  | succ m ih =>
    intro s
    refine (remK_perm c d 8 (Nat.le_refl _)).trans ?_
    simp only [clf]
    by_cases h : d s = 0
    · rw [if_neg (by omega), if_neg (fun z => z.2 h)]
      exact ih _
    · have h8 := hd s
      rw [if_pos (by omega), if_pos ⟨by trivial, h⟩]
      exact List.Perm.cons _ (ih _)
theorem lvf_all {l : Nat} : ∀ m s z, z ∈ lvf c d l s m → z = c * l := by
  intro m
  induction m with
  | zero => intro s z h; simp [lvf] at h
  | succ m ih =>
    intro s z h
    simp only [lvf] at h
    split at h
    · rcases List.mem_cons.mp h with h | h
      · exact h
      · exact ih _ _ h
    · exact ih _ _ h
theorem remK_ge {s m : Nat} : ∀ k z, k ≤ 8 → z ∈ remK c d s m k → c * (9 - k) ≤ z := by
  intro k
  induction k with
  | zero => intro z _ h; simp [remK] at h
  | succ k ih =>
    intro z hk h
    simp only [remK] at h
    rcases List.mem_append.mp h with h | h
    · rw [lvf_all c d _ _ _ h]
      exact Nat.mul_le_mul_left _ (by omega)
    · exact Nat.le_trans (Nat.mul_le_mul_left _ (by omega)) (ih z (by omega) h)
theorem lvf_sorted {l : Nat} : ∀ m s, (lvf c d l s m).Pairwise (· ≤ ·) := by
  intro m
  induction m with
  | zero => intro s; exact List.Pairwise.nil
  | succ m ih =>
    intro s
    simp only [lvf]
    split
    · exact List.pairwise_cons.mpr ⟨fun z hz => by rw [lvf_all c d _ _ _ hz]; exact Nat.le_refl _, ih _⟩
    · exact ih _
theorem remK_sorted {s m : Nat} : ∀ k, k ≤ 8 → (remK c d s m k).Pairwise (· ≤ ·) := by
  intro k
  induction k with
  | zero => intro _; exact List.Pairwise.nil
  | succ k ih =>
    intro hk
    simp only [remK]
    refine List.pairwise_append.mpr ⟨lvf_sorted c d _ _, ih (by omega), fun x hx y hy => ?_⟩
    rw [lvf_all c d _ _ _ hx]
    exact Nat.le_trans (Nat.mul_le_mul_left _ (by omega)) (remK_ge c d k y (by omega) hy)
theorem clf_mem {D : Nat → Bool} : ∀ m s z, z ∈ clf c d D s m ↔ ∃ t, s ≤ t ∧ t < s + m ∧ D t = false ∧ d t ≠ 0 ∧ z = c * d t := by
  intro m
  induction m with
  | zero =>
    intro s z
    simp only [clf]
    constructor
    · intro h; simp at h
    · rintro ⟨t, h1, h2, -⟩; omega
  | succ m ih =>
    intro s z
    simp only [clf]
    by_cases h : D s = false ∧ d s ≠ 0
    · rw [if_pos h, List.mem_cons, ih]
      constructor
      · rintro (rfl | ⟨t, h1, h2, h3, h4, h5⟩)
        · exact ⟨s, Nat.le_refl _, by omega, h.1, h.2, rfl⟩
        · exact ⟨t, by omega, by omega, h3, h4, h5⟩
      · rintro ⟨t, h1, h2, h3, h4, h5⟩
        by_cases hts : t = s
        · subst hts; exact Or.inl h5
        · exact Or.inr ⟨t, by omega, by omega, h3, h4, h5⟩
    · rw [if_neg h, ih]
      constructor
      · rintro ⟨t, h1, h2, h3, h4, h5⟩
        exact ⟨t, by omega, by omega, h3, h4, h5⟩
      · rintro ⟨t, h1, h2, h3, h4, h5⟩
        by_cases hts : t = s
        · subst hts; exact (h ⟨h3, h4⟩).elim
        · exact ⟨t, by omega, by omega, h3, h4, h5⟩
theorem clf_same {D D' : Nat → Bool} : ∀ m s, (∀ t, s ≤ t → t < s + m → D t = D' t) → clf c d D s m = clf c d D' s m := by
  intro m
  induction m with
  | zero => intro s _; rfl
  | succ m ih =>
    intro s h
    simp only [clf]
    rw [h s (Nat.le_refl _) (by omega), ih (s + 1) (fun t h1 h2 => h t (by omega) (by omega))]
theorem clf_take {D D' : Nat → Bool} {f : Nat} (hf : D f = false) (hw : d f ≠ 0) (h1 : D' f = true) (h2 : ∀ t, t ≠ f → D' t = D t) : ∀ m s, s ≤ f → f < s + m → (clf c d D s m).Perm (c * d f :: clf c d D' s m) := by
  intro m
  induction m with
  | zero => intro s h3 h4; omega
  | succ m ih =>
    intro s h3 h4
    simp only [clf]
    by_cases hs : s = f
    · subst hs
      rw [if_pos ⟨hf, hw⟩, if_neg (fun z => by rw [h1] at z; exact absurd z.1 (by decide)), clf_same c d (D := D) (D' := D') m (s + 1) (fun t h5 h6 => (h2 t (by omega)).symm)]
    · rw [h2 s hs]
      have ih' := ih (s + 1) (by omega) (by omega)
      by_cases h : D s = false ∧ d s ≠ 0
      · rw [if_pos h, if_pos h]
        exact (List.Perm.cons _ ih').trans (List.Perm.swap _ _ _)
      · rw [if_neg h, if_neg h]
        exact ih'
/-- a cheapest sign is taken -/
theorem gr_take {D D' : Nat → Bool} {f n L : Nat} (hfn : f < n) (hf : D f = false) (hw : d f ≠ 0) (h1 : D' f = true) (h2 : ∀ t, t ≠ f → D' t = D t) (hL : c * d f ≤ L) (hmin : ∀ t, t < n → D t = false → d t ≠ 0 → c * d t ≤ L → c * d f ≤ c * d t) :
    gr L (srt (clf c d D 0 n)) = 1 + gr (L - c * d f) (srt (clf c d D' 0 n)) := by
  rw [srt_perm (clf_take c d hf hw h1 h2 n 0 (by omega) (by omega)), srt_min (fun z hz => ?_)]
  · simp only [gr]
    rw [if_pos hL]
  · obtain ⟨t, g1, g2, g3, g4, rfl⟩ := (clf_mem c d n 0 z).mp hz
    have g5 : D t = false := by
      by_cases htf : t = f
      · subst htf; exact hf
      · rw [← h2 t htf]; exact g3
    by_cases g6 : c * d t ≤ L
    · exact hmin t (by omega) g5 g4 g6
    · omega
theorem gr_stop {D : Nat → Bool} {n L : Nat} (h : ∀ t, t < n → D t = false → d t ≠ 0 → ¬ c * d t ≤ L) : gr L (srt (clf c d D 0 n)) = 0 := by
  refine gr_none (fun z hz => ?_)
  obtain ⟨t, g1, g2, g3, g4, rfl⟩ := (clf_mem c d n 0 z).mp (mem_srt hz)
  have := h t (by omega) g3 g4
  omega
theorem gr_class (hd : ∀ s, d s ≤ 8) (n L : Nat) : gr L (remK c d 0 n 8) = gr L (srt (clf c d (fun _ => false) 0 n)) := by
  rw [← srt_perm (remK_clf c d hd n 0), srt_sorted (remK_sorted c d 8 (Nat.le_refl _))]
end Pay
