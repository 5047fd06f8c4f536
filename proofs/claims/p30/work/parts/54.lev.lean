/-! LAYER 2: how far two spellings are apart, read from either end -/
def ne (x y : Nat) : Nat := if x = y then 0 else 1
theorem ne_le (x y : Nat) : ne x y ≤ 1 := by unfold ne; split <;> omega
def levR (x : Nat) (f : List Nat → Nat) : List Nat → Nat
  | [] => f [] + 1
  | y :: t => min (f t + ne x y) (1 + min (f (y :: t)) (levR x f t))
def lev : List Nat → List Nat → Nat
  | [] => List.length
  | x :: s => levR x (lev s)
theorem lev_n (t : List Nat) : lev [] t = t.length := rfl
theorem lev_c0 (x : Nat) (s : List Nat) : lev (x :: s) [] = lev s [] + 1 := rfl
theorem lev_cc (x y : Nat) (s t : List Nat) : lev (x :: s) (y :: t) = min (lev s t + ne x y) (1 + min (lev s (y :: t)) (lev (x :: s) t)) := rfl
theorem lev_0 : ∀ s : List Nat, lev s [] = s.length := by
  intro s
  induction s with
  | nil => rfl
  | cons x s ih => rw [lev_c0, ih]; simp
theorem lev_alg (P Q α β γ δ ε ζ η θ ι : Nat) : min (min (α + P) (1 + min δ ε) + Q) (1 + min (min (β + P) (1 + min ζ η)) (min (γ + P) (1 + min θ ι))) = min (min (α + Q) (1 + min β γ) + P) (1 + min (min (δ + Q) (1 + min ζ θ)) (min (ε + Q) (1 + min η ι))) := by
  apply Nat.le_antisymm
  · simp only [← Nat.add_min_add_right, ← Nat.add_min_add_left, Nat.le_min]
    refine ⟨⟨?_, ?_, ?_⟩, ⟨?_, ?_, ?_⟩, ?_, ?_, ?_⟩ <;> omega
  · simp only [← Nat.add_min_add_right, ← Nat.add_min_add_left, Nat.le_min]
    refine ⟨⟨?_, ?_, ?_⟩, ⟨?_, ?_, ?_⟩, ?_, ?_, ?_⟩ <;> omega
theorem lev_snoc (x y : Nat) : ∀ (s t : List Nat), lev (s ++ [x]) (t ++ [y]) = min (lev s t + ne x y) (1 + min (lev s (t ++ [y])) (lev (s ++ [x]) t)) := by
  intro s
  induction s with
  | nil =>
    intro t
    induction t with
    | nil => rfl
    | cons b t ih =>
      simp only [List.nil_append, List.cons_append] at ih ⊢
      have h1 := ne_le x b
      have h2 := ne_le x y
      simp only [lev_cc, ih, lev_n, List.length_cons, List.length_append, List.length_nil]
      omega
  | cons a s ih =>
    intro t
    induction t with
    | nil =>
      have h := ih []
      simp only [List.nil_append, List.cons_append] at h ⊢
      have h1 := ne_le x y
      have h2 := ne_le a y
      simp only [lev_cc, h, lev_0, List.length_cons, List.length_append, List.length_nil]
      omega
    | cons b t iht =>
      have h1 := ih t
      have h2 := ih (b :: t)
      simp only [List.cons_append] at h1 h2 iht ⊢
      simp only [lev_cc, h1, h2, iht]
      exact lev_alg _ _ _ _ _ _ _ _ _ _ _
theorem lev_rev : ∀ (s t : List Nat), lev s.reverse t.reverse = lev s t := by
  intro s
  induction s with
  | nil => intro t; simp [lev_n]
  | cons x s ih =>
    intro t
    induction t with
    | nil => simp [lev_0]
    | cons y t iht =>
      have h2 := ih (y :: t)
      simp only [List.reverse_cons] at h2 iht ⊢
      rw [lev_snoc, ih t, h2, iht]
      rfl
theorem lev_le : ∀ (s t : List Nat), lev s t ≤ max s.length t.length := by
  intro s
  induction s with
  | nil => intro t; rw [lev_n]; omega
  | cons x s ih =>
    intro t
    cases t with
    | nil => rw [lev_0]; omega
    | cons y t =>
      have h1 := ih t
      have h2 := ne_le x y
      rw [lev_cc]
      simp only [List.length_cons]
      omega
theorem lev_eq : ∀ (s t : List Nat), lev s t = 0 ↔ s = t := by
  intro s
  induction s with
  | nil =>
    intro t
    rw [lev_n]
    cases t <;> simp
  | cons x s ih =>
    intro t
    cases t with
    | nil => rw [lev_0]; simp
    | cons y t =>
      have h1 := ih t
      rw [lev_cc]
      have h2 : ne x y = 0 ↔ x = y := by unfold ne; split <;> simp [*]
      constructor
      · intro h
        have h3 : lev s t = 0 := by omega
        have h4 : ne x y = 0 := by omega
        rw [h2.mp h4, h1.mp h3]
      · intro h
        injection h with e1 e2
        have h3 := h1.mpr e2
        have h4 := h2.mpr e1
        omega
/-- how far two words are apart -/
def lv (x y : Int32) : Nat := lev (dg x) (dg y)
theorem lv_8 {x y : Int32} (hx : vW x) (hy : vW y) : lv x y ≤ 8 := by
  have h1 := lev_le (dg x) (dg y)
  have h2 := (vW_dg hx).2.1
  have h3 := (vW_dg hy).2.1
  unfold lv
  omega
theorem lv_0 {x y : Int32} (hx : vW x) (hy : vW y) : lv x y = 0 ↔ x = y := by
  unfold lv
  rw [lev_eq, vW_eq hx hy]
theorem jmin_n {a b : Nat} (ha : a < 2 ^ 31) (hb : b < 2 ^ 31) : jmin (nI a) (nI b) = nI (min a b) := by
  unfold jmin
  by_cases h : b < a
  · rw [if_pos ((nI_ltI hb ha).mpr h), Nat.min_eq_right (by omega)]
  · rw [if_neg (fun e => h ((nI_ltI hb ha).mp e)), Nat.min_eq_left (by omega)]
theorem tk_rev {l : List Nat} {i : Nat} (h : i < l.length) : (l.take (i + 1)).reverse = l.getD i 0 :: (l.take i).reverse := by
  rw [tk_snoc h]
  simp
/-- Ruler.lastOfNextRow -/
theorem nextRow_ok {u x : Nat} {tr acc : List Nat} {M : KMem} (hx : x ≤ 6) (ha : acc.length < 8) (ht : wl tr) (hl : tr.length ≤ 8)
    (hr : ∀ j, j ≤ tr.length → M (u + 1) j = nI (lev acc (tr.take j).reverse)) :
    kOk (m_Ru_lastOfNextRow u (nI x) (wR tr) M) (fun q => q.1 = nI (lev (x :: acc) tr.reverse) ∧ (∀ j, j ≤ tr.length → q.2 (u + 1) j = nI (lev (x :: acc) (tr.take j).reverse)) ∧ frS (fun o => o = u + 1) M q.2) := by
  have hb : ∀ (a : List Nat) j, a.length ≤ 8 → lev a (tr.take j).reverse ≤ 8 := fun a j h => by
    have h1 := lev_le a (tr.take j).reverse
    simp only [List.length_reverse, List.length_take] at h1
    omega
  have h0 := hr 0 (by omega)
  unfold m_Ru_lastOfNextRow
  rw [show rdI M (u + 1) 9 0 = some (M (u + 1) 0) from rdN (j := 0) (by omega) (by omega), bS, bS, show ∀ v, wrI M (u + 1) 9 0 v = some (kup M (u + 1) 0 v) from fun v => wrN (j := 0) (by omega) (by omega), bS, show rdI (kup M (u + 1) 0 (M (u + 1) 0 + 1)) (u + 1) 9 0 = some (kup M (u + 1) 0 (M (u + 1) 0 + 1) (u + 1) 0) from rdN (j := 0) (by omega) (by omega), bS, kup_s]
  refine kB (fun q => q.1 = nI (lev (x :: acc) tr.reverse) ∧ (∀ j, j ≤ tr.length → q.2 (u + 1) j = nI (lev (x :: acc) (tr.take j).reverse)) ∧ frS (fun o => o = u + 1) M q.2) (kDig (fun l' i s => ∃ M1, s = (nI (lev acc (tr.take i).reverse), nI (lev (x :: acc) (tr.take i).reverse), wR l', nI (i + 1), M1) ∧ l' = tr.drop i ∧ i ≤ tr.length ∧ (∀ j, j ≤ i → M1 (u + 1) j = nI (lev (x :: acc) (tr.take j).reverse)) ∧ (∀ j, i < j → j ≤ tr.length → M1 (u + 1) j = nI (lev acc (tr.take j).reverse)) ∧ frS (fun o => o = u + 1) M M1) ?_ ?_ (l := tr) (i := 0) ht (by omega) ?_) (fun q h => kOk_i h)
  · rintro i s hi ⟨M1, rfl, h1, h2, h3, h4, h5⟩
    have hil : i = tr.length := by
      have := congrArg List.length h1
      simp at this
      omega
    refine ⟨(nI (lev (x :: acc) (tr.take i).reverse), M1), ?_, ?_, fun j hj => h3 j (by omega), h5⟩
    · simp only [m_Ru_lastOfNextRow_l31, wR_nil]
      split
      · rfl
      · rfl
    · rw [hil, List.take_length]
  · rintro d l' i s hw hl8 hi ⟨M1, rfl, h1, h2, h3, h4, h5⟩
    have hil : i < tr.length := by
      have := congrArg List.length h1
      simp at this
      omega
    have hd := (wl_cons.mp hw).1
    have hde : d = tr.getD i 0 := by
      rw [dp_cons hil] at h1
      injection h1
    have hle : l' = tr.drop (i + 1) := by
      rw [dp_cons hil] at h1
      injection h1
    have e1 : ((8 : Int32) < nI (i + 1)) = False := by
      rw [show (8 : Int32) = nI 8 from rfl, nI_ltI (by omega) (by omega)]
      exact eq_false (by omega)
    have e2 : rdI M1 (u + 1) 9 (nI (i + 1)) = some (nI (lev acc (tr.take (i + 1)).reverse)) := by rw [rdN (by omega) (by omega), h4 (i + 1) (by omega) (by omega)]
    have e4 : (if nI d = nI x then some (0 : Int32) else some 1) = some (nI (ne x d)) := by
      unfold ne
      by_cases h : x = d
      · rw [if_pos (by rw [h]), if_pos h]; rfl
      · rw [if_neg (fun e => h ((nI_eq (by omega) (by omega)).mp e).symm), if_neg h]; rfl
    have e5 : jmin (nI (lev acc (tr.take i).reverse) + nI (ne x d)) (1 + jmin (nI (lev acc (tr.take (i + 1)).reverse)) (nI (lev (x :: acc) (tr.take i).reverse))) = nI (lev (x :: acc) (tr.take (i + 1)).reverse) := by
      have b1 := hb acc i (by omega)
      have b2 := hb acc (i + 1) (by omega)
      have b3 := hb (x :: acc) i (by simp; omega)
      have b4 := ne_le x d
      rw [nI_add, jmin_n (by omega) (by omega), show (1 : Int32) + nI (min (lev acc (tr.take (i + 1)).reverse) (lev (x :: acc) (tr.take i).reverse)) = nI (1 + min (lev acc (tr.take (i + 1)).reverse) (lev (x :: acc) (tr.take i).reverse)) from nI_add _ _, jmin_n (by omega) (by omega), tk_rev hil, lev_cc, ← hde]
    refine Or.inl ⟨(nI (lev acc (tr.take (i + 1)).reverse), nI (lev (x :: acc) (tr.take (i + 1)).reverse), wR l', nI (i + 1 + 1), kup M1 (u + 1) (i + 1) (nI (lev (x :: acc) (tr.take (i + 1)).reverse))), l', i + 1, ?_, Nat.le_refl _, (wl_cons.mp hw).2, by simp; omega, _, rfl, hle, by omega, fun j hj => ?_, fun j hj hj2 => ?_, h5.tr (frS.up rfl)⟩
    · simp only [m_Ru_lastOfNextRow_l31, e1, wR_c0 hw hl8, if_false, wR_mod hw hl8, wR_div hw hl8, e4, bS, e2, e5, wrN (M := M1) (o := u + 1) (n := 9) (j := i + 1) (by omega) (by omega), nI_1]
    · by_cases hje : j = i + 1
      · subst hje; rw [kup_s]
      · rw [kup_j _ _ _ hje]; exact h3 j (by omega)
    · rw [kup_j _ _ _ (by omega)]; exact h4 j (by omega) hj2
  · have e0 : M (u + 1) 0 + 1 = nI (lev (x :: acc) (tr.take 0).reverse) := by
      rw [h0, nI_1]
      simp only [List.take_zero, List.reverse_nil, lev_0, List.length_cons]
    refine ⟨kup M (u + 1) 0 (M (u + 1) 0 + 1), by rw [e0, h0]; rfl, by simp, by omega, fun j hj => ?_, fun j hj hj2 => ?_, frS.up rfl⟩
    · have : j = 0 := by omega
      subst this
      rw [kup_s, e0]
    · rw [kup_j _ _ _ (by omega)]; exact hr j hj2
/-- Ruler.measured -/
theorem measured_ok {u : Nat} {f t : List Nat} {M : KMem} (hf : wl f) (lf : f.length ≤ 8) (ht : wl t) (lt : t.length ≤ 8) :
    kOk (m_Ru_measured u (wN f) (wN t) M) (fun q => q.1 = nI (lev f t) ∧ frS (fun o => o = u + 1) M q.2) := by
  have hwt := wl_rev.mpr ht
  have hlt : t.reverse.length ≤ 8 := by simpa using lt
  unfold m_Ru_measured
  refine kB (fun M' => (∀ j, j ≤ 8 → M' (u + 1) j = nI j) ∧ frS (fun o => o = u + 1) M M') (kFor (fun i s => ∃ M1, s = (nI i, M1) ∧ (∀ j, j < i → M1 (u + 1) j = nI j) ∧ frS (fun o => o = u + 1) M M1) 9 ?_ ?_ (i0 := 0) (by omega) (by omega) ⟨M, rfl, fun j hj => by omega, frS.rf⟩) ?_
  · rintro i s hi ⟨M1, rfl, h1, h2⟩
    have e1 : ((8 : Int32) < nI i) = False := by
      rw [show (8 : Int32) = nI 8 from rfl, nI_ltI (by omega) (by omega)]
      exact eq_false (by omega)
    refine Or.inl ⟨(nI (i + 1), kup M1 (u + 1) i (nI i)), ?_, _, rfl, fun j hj => ?_, h2.tr (frS.up rfl)⟩
    · simp only [m_Ru_measured_l2, e1, if_false, wrN (M := M1) (o := u + 1) (n := 9) (j := i) (by omega) (by omega), bS, nI_1]
    · by_cases hje : j = i
      · subst hje; rw [kup_s]
      · rw [kup_j _ _ _ hje]; exact h1 j (by omega)
  · rintro s ⟨M1, rfl, h1, h2⟩
    exact ⟨M1, rfl, fun j hj => h1 j (by omega), h2⟩
  · rintro M6 ⟨h1, h2⟩
    rw [letters_ok ht lt, bS]
    refine kB (fun q => q.1 = nI (lev f t) ∧ frS (fun o => o = u + 1) M q.2) (kDig (fun l' i s => ∃ M1 acc, s = (nI (lev acc t), wR l', nI i, M1) ∧ l'.reverse ++ acc = f ∧ acc.length = i ∧ (∀ j, j ≤ t.reverse.length → M1 (u + 1) j = nI (lev acc (t.reverse.take j).reverse)) ∧ frS (fun o => o = u + 1) M M1) ?_ ?_ (l := f.reverse) (i := 0) (wl_rev.mpr hf) (by simpa using lf) ⟨M6, [], rfl, by simp, rfl, fun j hj => ?_, h2⟩) (fun q h => kOk_i h)
    · rintro i s hi ⟨M1, acc, rfl, h3, h4, h5, h6⟩
      simp only [List.reverse_nil, List.nil_append] at h3
      subst h3
      refine ⟨(nI (lev acc t), M1), ?_, rfl, h6⟩
      simp only [m_Ru_measured_l32, wR_nil]
      split
      · rfl
      · rfl
    · rintro d l' i s hw hl8 hi ⟨M1, acc, rfl, h3, h4, h5, h6⟩
      have hd := (wl_cons.mp hw).1
      obtain ⟨⟨r2, M2⟩, e, h9, h7, h8⟩ := nextRow_ok (u := u) (x := d) hd.2 (by omega) hwt hlt h5
      have e' : m_Ru_lastOfNextRow u (nI d) (wN t) M1 = some (r2, M2) := e
      have h9' : r2 = nI (lev (d :: acc) t) := by
        have h10 : r2 = nI (lev (d :: acc) t.reverse.reverse) := h9
        rwa [List.reverse_reverse] at h10
      subst h9'
      refine Or.inl ⟨(nI (lev (d :: acc) t), wR l', nI (i + 1), M2), l', i + 1, ?_, Nat.le_refl _, (wl_cons.mp hw).2, by simp; omega, M2, d :: acc, rfl, by rw [← h3]; simp, by simp; omega, h7, h6.tr h8⟩
      simp only [m_Ru_measured_l32, nI_8n hi, wR_c0 hw hl8, if_false, wR_mod hw hl8, wR_div hw hl8, e', bS, nI_1]
    · rw [h1 j (by omega), lev_n, List.length_reverse, List.length_take, Nat.min_eq_left hj]
theorem measured_w {u : Nat} {x y : Int32} {M : KMem} (hx : vW x) (hy : vW y) :
    kOk (m_Ru_measured u x y M) (fun q => q.1 = nI (lv x y) ∧ frS (fun o => o = u + 1) M q.2) := by
  obtain ⟨h1, h2, h3⟩ := vW_dg hx
  obtain ⟨h4, h5, h6⟩ := vW_dg hy
  have h := measured_ok (u := u) (M := M) h1 h2 h4 h5
  rw [← h3, ← h6] at h
  exact h
/-- the model's table: the first i letters, the last of them first -/
def tkr (l : List Nat) : Nat → List Nat
  | 0 => []
  | i + 1 => l.getD i 0 :: tkr l i
theorem tkr_len (l : List Nat) : ∀ i, (tkr l i).length = i := by
  intro i
  induction i with
  | zero => rfl
  | succ i ih => simp [tkr, ih]
theorem tkr_eq (l : List Nat) : ∀ i, i ≤ l.length → tkr l i = (l.take i).reverse := by
  intro i
  induction i with
  | zero => intro _; rfl
  | succ i ih => intro h; rw [tk_rev (by omega), ← ih (by omega)]; rfl
