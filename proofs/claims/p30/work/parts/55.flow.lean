/-! LAYER 2: the right spelling, decree by decree on both sides, and letter by letter -/
/-- a table of decrees, five numbers each -/
def dzR (R : Nat → Int32) (k : Nat) (w : Int32) : Int32 := dz (R (5 * k)) (R (5 * k + 1)) (R (5 * k + 2)) (R (5 * k + 3)) w
def okR (R : Nat → Int32) (m : Nat) : Prop := ∀ k, k < m → okD (R (5 * k)) (R (5 * k + 1)) (R (5 * k + 2)) (R (5 * k + 3))
def spR (R : Nat → Int32) : Nat → Int32 → Int32
  | 0, w => w
  | k + 1, w => dzR R k (spR R k w)
theorem okR_le {R : Nat → Int32} {m n : Nat} (h : okR R m) (hn : n ≤ m) : okR R n := fun k hk => h k (by omega)
theorem dzR_vW {R : Nat → Int32} {m k : Nat} {w : Int32} (h : okR R m) (hk : k < m) (hw : vW w) : vW (dzR R k w) := (decreed_w (h k hk) hw).2
theorem spR_vW {R : Nat → Int32} {m : Nat} {w : Int32} (h : okR R m) (hw : vW w) : ∀ n, n ≤ m → vW (spR R n w) := by
  intro n
  induction n with
  | zero => intro _; exact hw
  | succ n ih => intro hn; exact dzR_vW h (by omega) (ih (by omega))
theorem dzR_congr {R R' : Nat → Int32} {k : Nat} (w : Int32) (h : ∀ j, j < 4 → R (5 * k + j) = R' (5 * k + j)) : dzR R k w = dzR R' k w := by
  unfold dzR
  rw [show R (5 * k) = R' (5 * k) from h 0 (by omega), h 1 (by omega), h 2 (by omega), h 3 (by omega)]
theorem spR_congr {R R' : Nat → Int32} (w : Int32) : ∀ m, (∀ i, i < 5 * m → R i = R' i) → spR R m w = spR R' m w := by
  intro m
  induction m with
  | zero => intro _; rfl
  | succ m ih =>
    intro h
    show dzR R m (spR R m w) = dzR R' m (spR R' m w)
    rw [ih (fun i hi => h i (by omega)), dzR_congr _ (fun j hj => h _ (by omega))]
/-- the class's, perhaps without one of them -/
def spX (R : Nat → Int32) (x : Int32) : Nat → Int32 → Int32
  | 0, w => w
  | k + 1, w => if nI k = x then spX R x k w else dzR R k (spX R x k w)
theorem spX_vW {R : Nat → Int32} {m : Nat} {x w : Int32} (h : okR R m) (hw : vW w) : ∀ n, n ≤ m → vW (spX R x n w) := by
  intro n
  induction n with
  | zero => intro _; exact hw
  | succ n ih =>
    intro hn
    simp only [spX]
    split
    · exact ih (by omega)
    · exact dzR_vW h (by omega) (ih (by omega))
theorem has_n {p0 m k : Nat} {M : KMem} (h0 : M p0 0 = nI m) (hm : m ≤ 10) (hk : k < 2 ^ 31) : m_De_has p0 (nI k) M = some (if k < m then 1 else 0) := by
  unfold m_De_has
  rw [if_neg (nI_pos hk), h0]
  by_cases h : k < m
  · rw [if_neg (by rw [nI_leI (by omega) hk]; omega), if_neg (by rw [show (10 : Int32) = nI 10 from rfl, nI_leI (by omega) hk]; omega), if_pos h]; rfl
  · rw [if_pos (by rw [nI_leI (by omega) hk]; omega), if_neg h]; rfl
theorem has_y {p0 m k : Nat} {M : KMem} (h0 : M p0 0 = nI m) (hm : m ≤ 10) (hk : k < m) : m_De_has p0 (nI k) M = some 1 := by
  rw [has_n h0 hm (by omega), if_pos hk]
theorem has_no {p0 m : Nat} {M : KMem} (h0 : M p0 0 = nI m) (hm : m ≤ 10) : m_De_has p0 (nI m) M = some 0 := by
  rw [has_n h0 hm (by omega), if_neg (by omega)]
theorem Dwithout {u m : Nat} {x w : Int32} {M : KMem} (hm : m ≤ 10) (h0 : M u 0 = nI m) (hR : okR (M (u + 1)) m) (hw : vW w) :
    m_De_spellingWithout u x w M = some (spX (M (u + 1)) x m w) := by
  refine kEx ?_
  unfold m_De_spellingWithout
  refine kB (fun r => r = spX (M (u + 1)) x m w) (kFor (fun i s => s = (spX (M (u + 1)) x i w, nI i)) m ?_ ?_ (i0 := 0) (by omega) (by omega) rfl) (fun x hx => kOk_i hx)
  · rintro i s hi rfl
    refine Or.inl ⟨_, ?_, rfl⟩
    have e2 := has_y h0 hm hi
    have e6 : ((1 : Int32) = 0) = False := by decide
    have e3 : ((10 : Int32) ≤ nI i) = False := by rw [show (10 : Int32) = nI 10 from rfl, nI_leI (by omega) (by omega)]; exact eq_false (by omega)
    have e4 : nI i * 5 = nI (5 * i) := by rw [show nI i * 5 = nI (i * 5) from pk_mul i 5, Nat.mul_comm]
    have f : ∀ j, j < 4 → rdI M (u + 1) 50 (nI (5 * i + j)) = some (M (u + 1) (5 * i + j)) := fun j hj => rdN (by omega) (by omega)
    have a1 : nI (5 * i) + 1 = nI (5 * i + 1) := nI_add _ 1
    have a2 : nI (5 * i) + 2 = nI (5 * i + 2) := nI_add _ 2
    have a3 : nI (5 * i) + 3 = nI (5 * i + 3) := nI_add _ 3
    have e5 := (decreed_w (hR i hi) (spX_vW (x := x) hR hw i (by omega))).1
    by_cases hx : nI i = x
    · simp only [m_De_spellingWithout_l5, e2, e3, e6, if_false, spX, if_pos hx, bS, nI_1]
    · simp only [m_De_spellingWithout_l5, e2, e3, e6, if_false, spX, if_neg hx, e4, a1, a2, a3, show rdI M (u + 1) 50 (nI (5 * i)) = some (M (u + 1) (5 * i)) from f 0 (by omega), f 1 (by omega), f 2 (by omega), f 3 (by omega), bS, e5, nI_1]
      rfl
  · rintro s rfl
    refine ⟨_, ?_, rfl⟩
    simp only [m_De_spellingWithout_l5, has_no h0 hm, bS]
    split
    · rfl
    · rfl
theorem nI_nm1 {i : Nat} (hi : i < 2 ^ 31) : ¬ nI i = -1 := by
  intro e
  have h := nI_pos (n := i) hi
  rw [e] at h
  exact h (by decide)
theorem spX_none (R : Nat → Int32) (w : Int32) : ∀ n, n < 2 ^ 31 → spX R (-1) n w = spR R n w := by
  intro n
  induction n with
  | zero => intro _; rfl
  | succ n ih =>
    intro hn
    simp only [spX, spR]
    rw [if_neg (nI_nm1 (by omega)), ih (by omega)]
theorem Dspelling {u m : Nat} {w : Int32} {M : KMem} (hm : m ≤ 10) (h0 : M u 0 = nI m) (hR : okR (M (u + 1)) m) (hw : vW w) :
    m_De_spellingOf u w M = some (spR (M (u + 1)) m w) := by
  unfold m_De_spellingOf
  rw [Dwithout hm h0 hR hw, spX_none _ _ _ (by omega)]
  rfl
/-- a decree that reads letter by letter; what it holds -/
def tr1 (k a b c h d : Nat) : List Nat × Nat :=
  if k = 0 then (if d = a then [] else [d], h)
  else if k = 1 ∧ h ≠ 0 ∧ d = b then ([c], 0)
  else if d = a then (if k = 1 ∧ h ≠ 0 then [h] else [], d)
  else (if h = 0 then [d] else [h, d], 0)
def trn (k a b c : Nat) : Nat → List Nat → List Nat × Nat
  | h, [] => ([], h)
  | h, d :: l => ((tr1 k a b c h d).1 ++ (trn k a b c (tr1 k a b c h d).2 l).1, (trn k a b c (tr1 k a b c h d).2 l).2)
def flu (h : Nat) : List Nat := if h = 0 then [] else [h]
theorem trn_app (k a b c : Nat) : ∀ (x y : List Nat) (h : Nat), trn k a b c h (x ++ y) = ((trn k a b c h x).1 ++ (trn k a b c (trn k a b c h x).2 y).1, (trn k a b c (trn k a b c h x).2 y).2) := by
  intro x
  induction x with
  | nil => intro y h; simp [trn]
  | cons d x ih => intro y h; simp only [List.cons_append, trn, ih, List.append_assoc]
theorem tr1_h {k a b c h d : Nat} (hh : h = 0 ∨ h = a) : (tr1 k a b c h d).2 = 0 ∨ (tr1 k a b c h d).2 = a := by
  unfold tr1
  split
  · exact hh
  · split
    · exact Or.inl rfl
    · split
      · exact Or.inr (by assumption)
      · exact Or.inl rfl
theorem trn_h {k a b c : Nat} : ∀ (l : List Nat) (h : Nat), h = 0 ∨ h = a → (trn k a b c h l).2 = 0 ∨ (trn k a b c h l).2 = a := by
  intro l
  induction l with
  | nil => intro h hh; exact hh
  | cons d l ih => intro h hh; exact ih _ (tr1_h hh)
theorem tr1_wl {k a b c h d : Nat} (hd : okN4 k a b c) (hh : h = 0 ∨ h = a) (h1 : 1 ≤ d ∧ d ≤ 6) : wl (tr1 k a b c h d).1 ∧ (tr1 k a b c h d).1.length + (flu (tr1 k a b c h d).2).length ≤ 1 + (flu h).length := by
  obtain ⟨hk, ha, hb, hc, hj⟩ := hd
  have w1 : ∀ x, 1 ≤ x ∧ x ≤ 6 → wl [x] := fun x hx => wl_cons.mpr ⟨hx, wl_nil⟩
  have fl0 : (flu 0).length = 0 := rfl
  have fln : ∀ x, x ≠ 0 → (flu x).length = 1 := fun x hx => by unfold flu; rw [if_neg hx]; rfl
  unfold tr1
  split
  · split
    · exact ⟨wl_nil, by simp⟩
    · exact ⟨w1 d h1, by simp⟩
  · split
    · rename_i h2
      exact ⟨w1 c ⟨(hj h2.1).2, hc⟩, by simp [fl0]⟩
    · split
      · split
        · rename_i h4
          have hha : h = a := hh.elim (fun e => (h4.2 e).elim) id
          exact ⟨w1 h (hha ▸ ha), by simp only [List.length_singleton]; rw [fln d (by omega), fln h h4.2]; omega⟩
        · exact ⟨wl_nil, by simp only [List.length_nil]; rw [fln d (by omega)]; omega⟩
      · split
        · exact ⟨w1 d h1, by simp [fl0]⟩
        · rename_i h4
          have hha : h = a := hh.elim (fun e => (h4 e).elim) id
          exact ⟨wl_cons.mpr ⟨hha ▸ ha, w1 d h1⟩, by simp only [List.length_cons, List.length_nil, fl0]; rw [fln h h4]; omega⟩
theorem trn_wl {k a b c : Nat} (hd : okN4 k a b c) : ∀ (l : List Nat) (h : Nat), h = 0 ∨ h = a → wl l → wl (trn k a b c h l).1 ∧ (trn k a b c h l).1.length + (flu (trn k a b c h l).2).length ≤ l.length + (flu h).length := by
  intro l
  induction l with
  | nil => intro h hh hl; exact ⟨wl_nil, by simp [trn]⟩
  | cons d l ih =>
    intro h hh hl
    obtain ⟨h1, h2⟩ := wl_cons.mp hl
    obtain ⟨h3, h4⟩ := tr1_wl hd hh h1
    obtain ⟨h5, h6⟩ := ih _ (tr1_h (k := k) (b := b) (c := c) (d := d) hh) h2
    simp only [trn]
    exact ⟨wl_app.mpr ⟨h3, h5⟩, by simp only [List.length_append, List.length_cons]; omega⟩
theorem trn_D {a b c : Nat} : ∀ (l : List Nat) (h : Nat), trn 0 a b c h l = (dcD a l, h) := by
  intro l
  induction l with
  | nil => intro h; rfl
  | cons d l ih =>
    intro h
    have e2 : (tr1 0 a b c h d).2 = h := by unfold tr1; rw [if_pos rfl]
    have e1 : (tr1 0 a b c h d).1 = if d = a then [] else [d] := by unfold tr1; rw [if_pos rfl]
    simp only [trn, e2, ih, e1, dcD]
    split <;> rfl
theorem trn_J {a b c : Nat} (ha : 1 ≤ a) (hb : 1 ≤ b) : ∀ (l : List Nat) (h : Nat), h = 0 ∨ h = a → (trn 1 a b c h l).1 ++ flu (trn 1 a b c h l).2 = dcJ a b c (flu h ++ l) := by
  intro l
  induction l with
  | nil =>
    rintro h (rfl | rfl)
    · rfl
    · have fa : flu h = [h] := by unfold flu; rw [if_neg (by omega)]
      simp only [trn, List.nil_append, List.append_nil, fa]
      rfl
  | cons d l ih =>
    have f0 : flu 0 = [] := rfl
    have fa : flu a = [a] := by unfold flu; rw [if_neg (by omega)]
    rintro h (rfl | rfl)
    · by_cases hd : d = a
      · have e : tr1 1 a b c 0 d = ([], a) := by simp [tr1, hd]
        simp only [trn, e, List.nil_append, f0]
        rw [ih a (Or.inr rfl), fa, hd]
        rfl
      · have e : tr1 1 a b c 0 d = ([d], 0) := by simp [tr1, hd]
        simp only [trn, e, f0, List.nil_append]
        rw [List.append_assoc, ih 0 (Or.inl rfl), f0, dcJ_c hb, if_neg (fun z => hd z.1)]
        rfl
    · rw [fa]
      show _ = dcJ h b c (h :: d :: l)
      rw [dcJ_c hb]
      have hn : h ≠ 0 := by omega
      by_cases hdb : d = b
      · have e : tr1 1 h b c h d = ([c], 0) := by simp [tr1, hdb, hn]
        simp only [trn, e]
        rw [List.append_assoc, ih 0 (Or.inl rfl), f0, if_pos ⟨by trivial, hdb⟩]
        rfl
      · rw [if_neg (fun z => hdb z.2)]
        by_cases hd : d = h
        · have e : tr1 1 h b c h d = ([h], h) := by simp [tr1, hd, hn]; intro hz; exact (hdb (hd.trans hz)).elim
          simp only [trn, e]
          rw [List.append_assoc, ih h (Or.inr rfl), fa, hd]
          rfl
        · have e : tr1 1 h b c h d = ([h, d], 0) := by simp [tr1, hd, hdb, hn]
          simp only [trn, e]
          rw [List.append_assoc, ih 0 (Or.inl rfl), f0, dcJ_c hb, if_neg (fun z => hd z.1)]
          rfl
theorem trn_T {a b c : Nat} (ha : 1 ≤ a) : ∀ (l : List Nat) (h : Nat), h = 0 ∨ h = a → (trn 2 a b c h l).1 ++ flu (trn 2 a b c h l).2 = dcT a (flu h ++ l) := by
  intro l
  have f0 : flu 0 = [] := rfl
  have fa : flu a = [a] := by unfold flu; rw [if_neg (by omega)]
  induction l with
  | nil =>
    rintro h (rfl | rfl)
    · rfl
    · simp only [trn, fa, List.nil_append, List.append_nil, dcT]
      rw [if_neg (by simp; omega)]
  | cons d l ih =>
    rintro h (rfl | rfl)
    · by_cases hd : d = a
      · have e : tr1 2 a b c 0 d = ([], a) := by simp [tr1, hd]
        simp only [trn, e, List.nil_append, f0]
        rw [ih a (Or.inr rfl), fa, hd]
        rfl
      · have e : tr1 2 a b c 0 d = ([d], 0) := by simp [tr1, hd]
        simp only [trn, e, f0, List.nil_append]
        rw [List.append_assoc, ih 0 (Or.inl rfl), f0]
        show _ = dcT a (d :: l)
        simp only [dcT]
        rw [if_neg (fun z => hd z.1)]
        rfl
    · rw [fa]
      show _ = dcT h (h :: d :: l)
      rw [show dcT h (h :: d :: l) = if h = h ∧ (d :: l).headD 0 = h then dcT h (d :: l) else h :: dcT h (d :: l) from rfl]
      have hn : h ≠ 0 := by omega
      by_cases hd : d = h
      · have e : tr1 2 h b c h d = ([], h) := by simp [tr1, hd]
        simp only [trn, e, List.nil_append]
        rw [ih h (Or.inr rfl), fa, if_pos ⟨by trivial, hd⟩, hd]
        rfl
      · have e : tr1 2 h b c h d = ([h, d], 0) := by simp [tr1, hd, hn]
        simp only [trn, e]
        rw [List.append_assoc, ih 0 (Or.inl rfl), f0, if_neg (fun z => hd z.2)]
        simp only [dcT]
        rw [if_neg (fun z => hd z.1)]
        rfl
theorem trn_dcl {k a b c : Nat} (hd : okN4 k a b c) (l : List Nat) : (trn k a b c 0 l).1 ++ flu (trn k a b c 0 l).2 = dcl k a b c l := by
  obtain ⟨hk, ha, hb, hc, hj⟩ := hd
  unfold dcl
  by_cases h0 : k = 0
  · subst h0
    rw [if_pos rfl, trn_D]
    simp [flu]
  · rw [if_neg h0]
    by_cases h1 : k = 1
    · subst h1
      rw [if_pos rfl, trn_J ha.1 (hj rfl).1 l 0 (Or.inl rfl)]
      rfl
    · have h2 : k = 2 := by omega
      subst h2
      rw [if_neg h1, trn_T ha.1 l 0 (Or.inl rfl), (dcT_S ha.1 l).1 0 (by omega)]
      rfl
/-- all decrees: D k j is the number j of the decree k -/
abbrev tD (D : Nat → Nat → Nat) (k : Nat) : Nat → List Nat → List Nat × Nat := trn (D k 0) (D k 1) (D k 2) (D k 3)
abbrev okDs (D : Nat → Nat → Nat) (m : Nat) : Prop := ∀ k, k < m → okN4 (D k 0) (D k 1) (D k 2) (D k 3)
def Ot (D : Nat → Nat → Nat) : Nat → List Nat → List Nat
  | 0, p => p
  | k + 1, p => (tD D k 0 (Ot D k p)).1
def Hd (D : Nat → Nat → Nat) (k : Nat) (p : List Nat) : Nat := (tD D k 0 (Ot D k p)).2
def Cd (D : Nat → Nat → Nat) : Nat → List Nat → List Nat
  | 0, p => p
  | k + 1, p => dcl (D k 0) (D k 1) (D k 2) (D k 3) (Cd D k p)
theorem Ot_wl {D : Nat → Nat → Nat} {m : Nat} {p : List Nat} (h : okDs D m) (hp : wl p) : ∀ k, k ≤ m → wl (Ot D k p) ∧ (Ot D k p).length ≤ p.length := by
  intro k
  induction k with
  | zero => intro _; exact ⟨hp, Nat.le_refl _⟩
  | succ k ih =>
    intro hk
    obtain ⟨h1, h2⟩ := ih (by omega)
    obtain ⟨h3, h4⟩ := trn_wl (h k (by omega)) (Ot D k p) 0 (Or.inl rfl) h1
    have : (flu 0).length = 0 := rfl
    exact ⟨h3, by show (trn _ _ _ _ 0 (Ot D k p)).1.length ≤ _; omega⟩
theorem Cd_wl {D : Nat → Nat → Nat} {m : Nat} {p : List Nat} (h : okDs D m) (hp : wl p) : ∀ k, k ≤ m → wl (Cd D k p) ∧ (Cd D k p).length ≤ p.length := by
  intro k
  induction k with
  | zero => intro _; exact ⟨hp, Nat.le_refl _⟩
  | succ k ih =>
    intro hk
    obtain ⟨h1, h2⟩ := ih (by omega)
    obtain ⟨h3, h4⟩ := dcl_wl (h k (by omega)) h1
    exact ⟨h3, by show (dcl _ _ _ _ (Cd D k p)).length ≤ _; omega⟩
theorem Hd_h (D : Nat → Nat → Nat) (k : Nat) (p : List Nat) : Hd D k p = 0 ∨ Hd D k p = D k 1 := trn_h _ _ (Or.inl rfl)
theorem Ot_step {D : Nat → Nat → Nat} {k : Nat} {p q y : List Nat} (h : Ot D k q = Ot D k p ++ y) : Ot D (k + 1) q = Ot D (k + 1) p ++ (tD D k (Hd D k p) y).1 ∧ Hd D k q = (tD D k (Hd D k p) y).2 := by
  constructor
  · show (tD D k 0 (Ot D k q)).1 = _
    rw [h]
    show (trn _ _ _ _ 0 _).1 = _
    rw [trn_app]
    rfl
  · show (tD D k 0 (Ot D k q)).2 = _
    rw [h]
    show (trn _ _ _ _ 0 _).2 = _
    rw [trn_app]
    rfl
theorem Cd_step {D : Nat → Nat → Nat} {m k : Nat} {p z : List Nat} (hd : okDs D m) (hk : k < m) (h : Cd D k p = Ot D k p ++ z) : Cd D (k + 1) p = Ot D (k + 1) p ++ ((tD D k (Hd D k p) z).1 ++ flu (tD D k (Hd D k p) z).2) := by
  show dcl _ _ _ _ (Cd D k p) = _
  rw [← trn_dcl (hd k hk), h, trn_app, ← List.append_assoc]
  rfl
theorem Ot_nil (D : Nat → Nat → Nat) : ∀ k, Ot D k [] = [] := by
  intro k
  induction k with
  | zero => rfl
  | succ k ih => show (tD D k 0 (Ot D k [])).1 = []; rw [ih]; rfl
theorem Hd_nil (D : Nat → Nat → Nat) (k : Nat) : Hd D k [] = 0 := by
  show (tD D k 0 (Ot D k [])).2 = 0
  rw [Ot_nil]
  rfl
/-- the decrees in the memory -/
def DcI (D : Nat → Nat → Nat) (m p0 : Nat) (M : KMem) : Prop := M p0 0 = nI m ∧ m ≤ 10 ∧ okDs D m ∧ ∀ k, k < m → ∀ j, j < 4 → M (p0 + 1) (5 * k + j) = nI (D k j)
theorem DcI.fr {D : Nat → Nat → Nat} {m p0 : Nat} {M M' : KMem} {S : Nat → Prop} (h : DcI D m p0 M) (hf : frS S M M') (h1 : ¬ S p0) (h2 : ¬ S (p0 + 1)) : DcI D m p0 M' := by
  obtain ⟨a, b, c, d⟩ := h
  exact ⟨by rw [hf _ h1]; exact a, b, c, fun k hk j hj => by rw [hf _ h2]; exact d k hk j hj⟩
theorem number_n {p0 m k j : Nat} {M : KMem} (h0 : M p0 0 = nI m) (hm : m ≤ 10) (hk : k < m) (hj : j < 5) : m_De_number p0 (nI k) (nI j) M = some (M (p0 + 1) (5 * k + j)) := by
  unfold m_De_number
  rw [has_n h0 hm (by omega), if_pos hk, bS, if_neg (by decide), if_neg (nI_pos (by omega)), if_pos (show nI j < 5 from (nI_ltI (b := 5) (by omega) (by omega)).mpr hj), show nI k * 5 + nI j = nI (5 * k + j) from by rw [show nI k * 5 = nI (k * 5) from pk_mul k 5, nI_add, Nat.mul_comm], rdN (by omega) (by omega)]
  rfl
theorem wN_1 (d : Nat) : wN [d] = nI d := by simp [wN, vr]
theorem wN_2 (h d : Nat) : wN [h, d] = nI h * 10 + nI d := by
  rw [show [h, d] = [h] ++ [d] from rfl, wN_snoc, wN_1]
theorem wN_flu (h : Nat) : wN (flu h) = nI h := by
  unfold flu
  split
  · rename_i e; subst e; rfl
  · exact wN_1 h
theorem joinedTo_ok {x y : List Nat} (hy : wl y) (ly : y.length ≤ 8) : m_Fl_joinedTo (wN x) (wN y) = some (wN (x ++ y)) := by
  refine kEx ?_
  unfold m_Fl_joinedTo
  rw [mirrored_N hy ly, bS]
  refine kB (fun r => r = wN (x ++ y)) (kDig (fun l' i s => ∃ acc, s = (wN acc, wR l', nI i) ∧ acc ++ l' = x ++ y) ?_ ?_ hy (i := 0) (by omega) ⟨x, rfl, rfl⟩) (fun x hx => kOk_i hx)
  · rintro i _ hi ⟨acc, rfl, hacc⟩
    refine ⟨wN acc, ?_, by rw [← hacc]; simp⟩
    simp only [m_Fl_joinedTo_l10]
    split
    · rfl
    · simp [wR_nil]
  · rintro d l' i _ hw hl hi ⟨acc, rfl, hacc⟩
    refine Or.inl ⟨(wN (acc ++ [d]), wR l', nI (i + 1)), l', i + 1, ?_, Nat.le_refl _, (wl_cons.mp hw).2, by simp; omega, acc ++ [d], rfl, by rw [← hacc]; simp⟩
    simp only [m_Fl_joinedTo_l10, nI_8n hi, wR_c0 hw hl, wR_mod hw hl, wR_div hw hl, if_false, nI_1, wN_snoc]
theorem let_ok {D : Nat → Nat → Nat} {u p0 m k h d : Nat} {M : KMem} (hD : DcI D m p0 M) (hk : k < m) (hp : p0 ≠ u + 1 ∧ p0 + 1 ≠ u + 1) (hh : h = 0 ∨ h = D k 1) (hM : M (u + 1) k = nI h) (hd : 1 ≤ d ∧ d ≤ 6) :
    kOk (m_Fl_let u p0 (nI k) (nI d) M) (fun q => q.1 = wN (tr1 (D k 0) (D k 1) (D k 2) (D k 3) h d).1 ∧ q.2 (u + 1) k = nI (tr1 (D k 0) (D k 1) (D k 2) (D k 3) h d).2 ∧ (∀ j, j ≠ k → q.2 (u + 1) j = M (u + 1) j) ∧ frS (fun o => o = u + 1) M q.2) := by
  obtain ⟨h0, hm, hok, hv⟩ := hD
  obtain ⟨hk2, ha, hb, hc, hj⟩ := hok k hk
  have n0 : m_De_number p0 (nI k) 0 M = some (nI (D k 0)) := by rw [show m_De_number p0 (nI k) 0 M = _ from number_n (j := 0) h0 hm hk (by omega), hv k hk 0 (by omega)]
  have n1 : m_De_number p0 (nI k) 1 M = some (nI (D k 1)) := by rw [show m_De_number p0 (nI k) 1 M = _ from number_n (j := 1) h0 hm hk (by omega), hv k hk 1 (by omega)]
  have n2 : m_De_number p0 (nI k) 2 M = some (nI (D k 2)) := by rw [show m_De_number p0 (nI k) 2 M = _ from number_n (j := 2) h0 hm hk (by omega), hv k hk 2 (by omega)]
  have n3 : ∀ v, m_De_number p0 (nI k) 3 (kup M (u + 1) k v) = some (nI (D k 3)) := fun v => by
    rw [show m_De_number p0 (nI k) 3 (kup M (u + 1) k v) = _ from number_n (j := 3) (by rw [kup_n _ _ _ hp.1]; exact h0) hm hk (by omega), kup_n _ _ _ hp.2, hv k hk 3 (by omega)]
  have rd : rdI M (u + 1) 10 (nI k) = some (nI h) := by rw [rdN (by omega) (by omega), hM]
  have wr : ∀ v, wrI M (u + 1) 10 (nI k) v = some (kup M (u + 1) k v) := fun v => wrN (by omega) (by omega)
  have fin : ∀ (v : Nat), (kup M (u + 1) k (nI v)) (u + 1) k = nI v ∧ (∀ j, j ≠ k → (kup M (u + 1) k (nI v)) (u + 1) j = M (u + 1) j) ∧ frS (fun o => o = u + 1) M (kup M (u + 1) k (nI v)) := fun v => ⟨kup_s _ _ _ _, fun j hj => kup_j _ _ _ hj, frS.up rfl⟩
  have f0 : (nI (D k 0) = 0) = (D k 0 = 0) := propext (nI_eq (b := 0) (by omega) (by omega))
  have f1 : (nI (D k 0) = 1) = (D k 0 = 1) := propext (nI_eq (b := 1) (by omega) (by omega))
  have fa : (nI d = nI (D k 1)) = (d = D k 1) := propext (nI_eq (by omega) (by omega))
  have fb : (nI d = nI (D k 2)) = (d = D k 2) := propext (nI_eq (by omega) (by omega))
  have fh : (nI h = 0) = (h = 0) := propext (nI_eq (b := 0) (by omega) (by omega))
  have u0 : ((0 : Int32) = 0) = True := by decide
  have u1 : ((1 : Int32) = 0) = False := by decide
  unfold m_Fl_let tr1
  rw [has_y h0 hm hk, bS, if_neg (by decide)]
  simp only [n0, n1, bS, rd, wr, n2, f0, f1, fa, fb, fh]
  by_cases c0 : D k 0 = 0
  · simp only [c0, if_true]
    by_cases ca : d = D k 1
    · simp only [ca, if_true, bS, u1, if_false]
      exact kOk_i ⟨rfl, hM, fun _ _ => rfl, frS.rf⟩
    · simp only [ca, if_false, bS, if_true]
      exact kOk_i ⟨(wN_1 d).symm, hM, fun _ _ => rfl, frS.rf⟩
  · simp only [c0, if_false]
    by_cases c1 : D k 0 = 1
    · simp only [c1, if_true, true_and]
      by_cases ch : h = 0
      · simp only [ch, if_true, ne_eq, not_true, false_and, if_false]
        by_cases ca : d = D k 1
        · simp only [ca, if_true, bS, u1, if_false]
          refine kOk_i ⟨rfl, ?_⟩
          exact fin (D k 1)
        · simp only [ca, if_false, bS, if_true]
          refine kOk_i ⟨by rw [wN_1]; show (0 : Int32) * 10 + nI d = nI d; rw [Int32.zero_mul, Int32.zero_add], ?_⟩
          exact fin 0
      · simp only [ch, if_false, ne_eq, not_false_eq_true, true_and]
        by_cases cb : d = D k 2
        · simp only [cb, if_true, n3, bS, bI]
          refine kOk_i ?_
          exact ⟨(wN_1 _).symm, fin 0⟩
        · simp only [cb, if_false]
          by_cases ca : d = D k 1
          · have cab : ¬ D k 1 = D k 2 := fun e => cb (ca.trans e)
            simp only [ca, if_true, bS, u1, if_false]
            exact kOk_i ⟨(wN_1 _).symm, fin (D k 1)⟩
          · simp only [ca, if_false, bS, if_true]
            exact kOk_i ⟨(wN_2 _ _).symm, fin 0⟩
    · simp only [c1, if_false, false_and]
      by_cases ca : d = D k 1
      · simp only [ca, if_true, bS, u1, if_false]
        exact kOk_i ⟨rfl, fin (D k 1)⟩
      · simp only [ca, if_false, bS, if_true]
        refine kOk_i ⟨?_, fin 0⟩
        by_cases ch : h = 0
        · subst ch
          rw [if_pos rfl, wN_1]
          show (0 : Int32) * 10 + nI d = nI d
          rw [Int32.zero_mul, Int32.zero_add]
        · rw [if_neg ch, wN_2]
theorem past_ok {D : Nat → Nat → Nat} {u p0 m k h : Nat} {y : List Nat} {M : KMem} (hD : DcI D m p0 M) (hk : k < m) (hp : p0 ≠ u + 1 ∧ p0 + 1 ≠ u + 1) (hh : h = 0 ∨ h = D k 1) (hM : M (u + 1) k = nI h) (hy : wl y) (ly : y.length ≤ 8) :
    kOk (m_Fl_pastDecree u p0 (nI k) (wN y) M) (fun q => q.1 = wN (tD D k h y).1 ∧ q.2 (u + 1) k = nI (tD D k h y).2 ∧ (∀ j, j ≠ k → q.2 (u + 1) j = M (u + 1) j) ∧ frS (fun o => o = u + 1) M q.2) := by
  unfold m_Fl_pastDecree
  rw [mirrored_N hy ly, bS]
  refine kB (fun q => q.1 = wN (tD D k h y).1 ∧ q.2 (u + 1) k = nI (tD D k h y).2 ∧ (∀ j, j ≠ k → q.2 (u + 1) j = M (u + 1) j) ∧ frS (fun o => o = u + 1) M q.2) (kDig (fun l' i s => ∃ acc h1 M1, s = (wN acc, wR l', nI i, M1) ∧ (h1 = 0 ∨ h1 = D k 1) ∧ M1 (u + 1) k = nI h1 ∧ acc ++ (tD D k h1 l').1 = (tD D k h y).1 ∧ (tD D k h1 l').2 = (tD D k h y).2 ∧ (∀ j, j ≠ k → M1 (u + 1) j = M (u + 1) j) ∧ frS (fun o => o = u + 1) M M1) ?_ ?_ hy (i := 0) (by omega) ⟨[], h, M, rfl, hh, hM, rfl, rfl, fun _ _ => rfl, frS.rf⟩) (fun x hx => kOk_i hx)
  · rintro i _ hi ⟨acc, h1, M1, rfl, h2, h3, h4, h5, h6, h7⟩
    refine ⟨(wN acc, M1), ?_, ?_, ?_, h6, h7⟩
    · simp only [m_Fl_pastDecree_l12]
      split
      · rfl
      · simp [wR_nil]
    · rw [← h4]; simp [trn]
    · rw [← h5]; exact h3
  · rintro d l' i _ hw hl hi ⟨acc, h1, M1, rfl, h2, h3, h4, h5, h6, h7⟩
    have hd := (wl_cons.mp hw).1
    obtain ⟨⟨x, M2⟩, e, g1, g2, g3, g4⟩ := let_ok (hD.fr h7 hp.1 hp.2) hk hp h2 h3 hd
    simp only at g1 g2 g3 g4
    subst g1
    have hw1 := tr1_wl (hD.2.2.1 k hk) (d := d) h2 hd
    have hfl : (flu h1).length ≤ 1 := by unfold flu; split <;> simp
    have ej := joinedTo_ok (x := acc) hw1.1 (by omega)
    refine Or.inl ⟨(wN (acc ++ (tr1 (D k 0) (D k 1) (D k 2) (D k 3) h1 d).1), wR l', nI (i + 1), M2), l', i + 1, ?_, Nat.le_refl _, (wl_cons.mp hw).2, by simp; omega, _, _, M2, rfl, tr1_h h2, g2, ?_, h5, fun j hj => (g3 j hj).trans (h6 j hj), h7.tr g4⟩
    · simp only [m_Fl_pastDecree_l12, nI_8n hi, wR_c0 hw hl, wR_mod hw hl, wR_div hw hl, if_false, e, bS, ej, nI_1]
    · rw [← h4, List.append_assoc]
      rfl
theorem fillI_ok {a n : Nat} {v : Int32} {M : KMem} (hn : n < 80000) :
    kOk (m_Ar_fillI a n v M) (fun M' => (∀ j, M' a j = if j < n then v else M a j) ∧ frS (fun o => o = a) M M') := by
  unfold m_Ar_fillI
  refine kB (fun M' => (∀ j, M' a j = if j < n then v else M a j) ∧ frS (fun o => o = a) M M') (kFor (fun i s => ∃ M1, s = (nI i, M1) ∧ (∀ j, M1 a j = if j < i then v else M a j) ∧ frS (fun o => o = a) M M1) n ?_ ?_ (i0 := 0) (by omega) (by omega) ⟨M, rfl, fun j => by rw [if_neg (by omega)], frS.rf⟩) (fun x hx => kOk_i hx)
  · rintro i _ hi ⟨M1, rfl, h1, h2⟩
    have e : (Int32.ofNat n ≤ nI i) = False := by
      rw [show Int32.ofNat n = nI n from rfl, nI_leI (by omega) (by omega)]
      exact eq_false (by omega)
    refine Or.inl ⟨(nI (i + 1), kup M1 a i v), ?_, _, rfl, fun j => ?_, h2.tr (frS.up rfl)⟩
    · simp only [m_Ar_fillI_l5, e, if_false, wrN (M := M1) (o := a) (n := n) (j := i) hi (by omega), bS, nI_1]
    · by_cases hj : j = i
      · subst hj
        rw [kup_s, if_pos (by omega)]
      · rw [kup_j _ _ _ hj, h1]
        by_cases h3 : j < i
        · rw [if_pos h3, if_pos (by omega)]
        · rw [if_neg h3, if_neg (by omega)]
  · rintro _ ⟨M1, rfl, h1, h2⟩
    refine ⟨M1, ?_, h1, h2⟩
    simp only [m_Ar_fillI_l5]
    rw [if_pos (show Int32.ofNat n ≤ nI n from Int32.le_refl _)]
theorem sfx_wl {x p y : List Nat} (h : x = p ++ y) (hx : wl x) (lx : x.length ≤ 8) : wl y ∧ y.length ≤ 8 := by
  subst h
  simp only [List.length_append] at lx
  exact ⟨(wl_app.mp hx).2, by omega⟩
/-- a letter through all decrees -/
theorem through_ok {D : Nat → Nat → Nat} {u p0 m d : Nat} {p : List Nat} {M : KMem} (hD : DcI D m p0 M) (hp : p0 ≠ u + 1 ∧ p0 + 1 ≠ u + 1) (hH : ∀ j, j < m → M (u + 1) j = nI (Hd D j p)) (hw : wl (p ++ [d])) (lw : (p ++ [d]).length ≤ 8) :
    kOk (m_Fl_through u p0 (nI d) 0 M) (fun q => ∃ y, q.1 = wN y ∧ Ot D m (p ++ [d]) = Ot D m p ++ y ∧ wl y ∧ y.length ≤ 8 ∧ (∀ j, j < m → q.2 (u + 1) j = nI (Hd D j (p ++ [d]))) ∧ frS (fun o => o = u + 1) M q.2) := by
  have hm := hD.2.1
  unfold m_Fl_through
  refine kB (fun q => ∃ y, q.1 = wN y ∧ Ot D m (p ++ [d]) = Ot D m p ++ y ∧ wl y ∧ y.length ≤ 8 ∧ (∀ j, j < m → q.2 (u + 1) j = nI (Hd D j (p ++ [d]))) ∧ frS (fun o => o = u + 1) M q.2) (kFor (fun k s => ∃ y M1, s = (wN y, nI k, M1) ∧ Ot D k (p ++ [d]) = Ot D k p ++ y ∧ (∀ j, j < k → M1 (u + 1) j = nI (Hd D j (p ++ [d]))) ∧ (∀ j, k ≤ j → j < m → M1 (u + 1) j = nI (Hd D j p)) ∧ frS (fun o => o = u + 1) M M1) m ?_ ?_ (i0 := 0) (by omega) (by omega) ⟨[d], M, by rw [wN_1]; rfl, rfl, fun j hj => by omega, fun j _ hj => hH j hj, frS.rf⟩) (fun x hx => kOk_i hx)
  · rintro k _ hk ⟨y, M1, rfl, h1, h2, h3, h4⟩
    obtain ⟨o1, o2⟩ := Ot_wl hD.2.2.1 hw k (by omega)
    obtain ⟨y1, y2⟩ := sfx_wl h1 o1 (by omega)
    have hD1 := hD.fr h4 hp.1 hp.2
    obtain ⟨⟨x, M2⟩, e, g1, g2, g3, g4⟩ := past_ok hD1 hk hp (Hd_h D k p) (h3 k (Nat.le_refl _) hk) y1 y2
    simp only at g1 g2 g3 g4
    subst g1
    obtain ⟨s1, s2⟩ := Ot_step h1
    refine Or.inl ⟨(wN (tD D k (Hd D k p) y).1, nI (k + 1), M2), ?_, _, M2, rfl, s1, fun j hj => ?_, fun j hj hj2 => ?_, h4.tr g4⟩
    · have e1 : (nI m ≤ nI k) = False := by rw [nI_leI (by omega) (by omega)]; exact eq_false (by omega)
      have e2 : ((10 : Int32) ≤ nI k) = False := by rw [show (10 : Int32) = nI 10 from rfl, nI_leI (by omega) (by omega)]; exact eq_false (by omega)
      have e6 : ((1 : Int32) = 0) = False := by decide
      simp only [m_Fl_through_l6, has_y hD1.1 hm hk, e2, e6, if_false, e, bS, if_true, nI_1]
    · by_cases hjk : j = k
      · subst hjk; rw [g2, s2]
      · rw [g3 j hjk]; exact h2 j (by omega)
    · rw [g3 j (by omega)]; exact h3 j (by omega) hj2
  · rintro _ ⟨y, M1, rfl, h1, h2, h3, h4⟩
    obtain ⟨o1, o2⟩ := Ot_wl hD.2.2.1 hw m (Nat.le_refl _)
    obtain ⟨y1, y2⟩ := sfx_wl h1 o1 (by omega)
    refine ⟨(wN y, M1), ?_, y, rfl, h1, y1, y2, h2, h4⟩
    simp only [m_Fl_through_l6, has_no (hD.fr h4 hp.1 hp.2).1 hm, bS]
    split
    · rfl
    · rfl
/-- the end of the word -/
theorem throughEnd_ok {D : Nat → Nat → Nat} {u p0 m : Nat} {p : List Nat} {M : KMem} (hD : DcI D m p0 M) (hp : p0 ≠ u + 1 ∧ p0 + 1 ≠ u + 1) (hH : ∀ j, j < m → M (u + 1) j = nI (Hd D j p)) (hw : wl p) (lw : p.length ≤ 8) :
    kOk (m_Fl_through u p0 0 1 M) (fun q => ∃ z, q.1 = wN z ∧ Cd D m p = Ot D m p ++ z ∧ wl z ∧ z.length ≤ 8 ∧ frS (fun o => o = u + 1) M q.2) := by
  have hm := hD.2.1
  unfold m_Fl_through
  refine kB (fun q => ∃ z, q.1 = wN z ∧ Cd D m p = Ot D m p ++ z ∧ wl z ∧ z.length ≤ 8 ∧ frS (fun o => o = u + 1) M q.2) (kFor (fun k s => ∃ z M1, s = (wN z, nI k, M1) ∧ Cd D k p = Ot D k p ++ z ∧ (∀ j, k ≤ j → j < m → M1 (u + 1) j = nI (Hd D j p)) ∧ frS (fun o => o = u + 1) M M1) m ?_ ?_ (i0 := 0) (by omega) (by omega) ⟨[], M, rfl, by simp [Cd, Ot], fun j _ hj => hH j hj, frS.rf⟩) (fun x hx => kOk_i hx)
  · rintro k _ hk ⟨z, M1, rfl, h1, h3, h4⟩
    obtain ⟨o1, o2⟩ := Cd_wl hD.2.2.1 hw k (by omega)
    obtain ⟨y1, y2⟩ := sfx_wl h1 o1 (by omega)
    have hD1 := hD.fr h4 hp.1 hp.2
    obtain ⟨⟨x, M2⟩, e, g1, g2, g3, g4⟩ := past_ok hD1 hk hp (Hd_h D k p) (h3 k (Nat.le_refl _) hk) y1 y2
    simp only at g1 g2 g3 g4
    subst g1
    have s1 := Cd_step hD.2.2.1 hk h1
    obtain ⟨o3, o4⟩ := Cd_wl hD.2.2.1 hw (k + 1) (by omega)
    obtain ⟨y3, y4⟩ := sfx_wl s1 o3 (by omega)
    have rd : rdI M2 (u + 1) 10 (nI k) = some (wN (flu (tD D k (Hd D k p) z).2)) := by rw [rdN (by omega) (by omega), g2, wN_flu]
    have ej := joinedTo_ok (x := (tD D k (Hd D k p) z).1) (y := flu (tD D k (Hd D k p) z).2) (wl_app.mp y3).2 (by simp only [List.length_append] at y4; omega)
    refine Or.inl ⟨(wN ((tD D k (Hd D k p) z).1 ++ flu (tD D k (Hd D k p) z).2), nI (k + 1), M2), ?_, _, M2, rfl, s1, fun j hj hj2 => ?_, h4.tr g4⟩
    · have e1 : (nI m ≤ nI k) = False := by rw [nI_leI (by omega) (by omega)]; exact eq_false (by omega)
      have e2 : ((10 : Int32) ≤ nI k) = False := by rw [show (10 : Int32) = nI 10 from rfl, nI_leI (by omega) (by omega)]; exact eq_false (by omega)
      have e3 : ((1 : Int32) = 0) = False := by decide
      simp only [m_Fl_through_l6, has_y hD1.1 hm hk, e2, if_false, e, bS, e3, rd, ej, nI_1]
    · rw [g3 j (by omega)]; exact h3 j (by omega) hj2
  · rintro _ ⟨z, M1, rfl, h1, h3, h4⟩
    obtain ⟨o1, o2⟩ := Cd_wl hD.2.2.1 hw m (Nat.le_refl _)
    obtain ⟨y1, y2⟩ := sfx_wl h1 o1 (by omega)
    refine ⟨(wN z, M1), ?_, z, rfl, h1, y1, y2, h4⟩
    simp only [m_Fl_through_l6, has_no (hD.fr h4 hp.1 hp.2).1 hm, bS]
    split
    · rfl
    · rfl
theorem flow_ok {D : Nat → Nat → Nat} {u p0 m : Nat} {l : List Nat} {M : KMem} (hD : DcI D m p0 M) (hp : p0 ≠ u + 1 ∧ p0 + 1 ≠ u + 1) (hw : wl l) (lw : l.length ≤ 8) :
    kOk (m_Fl_spellingOf u p0 (wN l) M) (fun q => q.1 = wN (Cd D m l) ∧ frS (fun o => o = u + 1) M q.2) := by
  have hm := hD.2.1
  unfold m_Fl_spellingOf
  refine kB _ (fillI_ok (by omega)) (fun M2 h2 => ?_)
  obtain ⟨h2, h3⟩ := h2
  rw [mirrored_N hw lw, bS]
  refine kB (fun q => q.1 = wN (Ot D m l) ∧ (∀ j, j < m → q.2 (u + 1) j = nI (Hd D j l)) ∧ frS (fun o => o = u + 1) M q.2) (kDig (fun l' i s => ∃ p M1, s = (wN (Ot D m p), wR l', nI i, M1) ∧ p ++ l' = l ∧ (∀ j, j < m → M1 (u + 1) j = nI (Hd D j p)) ∧ frS (fun o => o = u + 1) M M1) ?_ ?_ hw (i := 0) (by omega) ⟨[], M2, by rw [Ot_nil]; rfl, rfl, fun j hj => by rw [h2, if_pos (by omega), Hd_nil]; rfl, h3⟩) ?_
  · rintro i _ hi ⟨p, M1, rfl, h4, h5, h6⟩
    simp only [List.append_nil] at h4
    subst h4
    refine ⟨(wN (Ot D m p), M1), ?_, rfl, h5, h6⟩
    simp only [m_Fl_spellingOf_l19]
    split
    · rfl
    · simp [wR_nil]
  · rintro d l' i _ hwd hl hi ⟨p, M1, rfl, h4, h5, h6⟩
    have h7 : wl (p ++ [d]) ∧ (p ++ [d]).length ≤ 8 := by
      have : (p ++ [d]) ++ l' = l := by rw [← h4]; simp
      rw [← this] at hw lw
      simp only [List.length_append] at lw ⊢
      exact ⟨(wl_app.mp hw).1, by omega⟩
    obtain ⟨⟨x, M3⟩, e, y, g1, g2, g3, g4, g5, g6⟩ := through_ok (u := u) (hD.fr h6 hp.1 hp.2) hp h5 h7.1 h7.2
    simp only at g1 g5 g6
    subst g1
    have ej := joinedTo_ok (x := Ot D m p) g3 g4
    refine Or.inl ⟨(wN (Ot D m (p ++ [d])), wR l', nI (i + 1), M3), l', i + 1, ?_, Nat.le_refl _, (wl_cons.mp hwd).2, by simp; omega, p ++ [d], M3, rfl, by rw [← h4]; simp, g5, h6.tr g6⟩
    simp only [m_Fl_spellingOf_l19, nI_8n hi, wR_c0 hwd hl, wR_mod hwd hl, wR_div hwd hl, if_false, e, bS, ej, nI_1, g2]
  · rintro ⟨x, M17⟩ ⟨h4, h5, h6⟩
    simp only at h4 h5 h6
    subst h4
    refine kB _ (throughEnd_ok (u := u) (hD.fr h6 hp.1 hp.2) hp h5 hw lw) ?_
    rintro ⟨x, M20⟩ ⟨z, g1, g2, g3, g4, g6⟩
    simp only at g1 g6
    subst g1
    show kOk ((m_Fl_joinedTo (wN (Ot D m l)) (wN z)).bind _) _
    rw [joinedTo_ok g3 g4, bS, ← g2]
    exact kOk_i ⟨rfl, h6.tr g6⟩
theorem okR_D {R : Nat → Int32} {m : Nat} (h : okR R m) : ∃ D : Nat → Nat → Nat, okDs D m ∧ ∀ k, k < m → ∀ j, j < 4 → R (5 * k + j) = nI (D k j) := by
  refine ⟨fun k j => (R (5 * k + j)).toNatClampNeg, fun k hk => ?_, fun k hk j hj => ?_⟩
  · obtain ⟨a, b, c, d, h1, e0, e1, e2, e3⟩ := h k hk
    obtain ⟨g1, g2, g3, g4⟩ := okN4_b h1
    show okN4 (R (5 * k + 0)).toNatClampNeg (R (5 * k + 1)).toNatClampNeg (R (5 * k + 2)).toNatClampNeg (R (5 * k + 3)).toNatClampNeg
    rw [Nat.add_zero, e0, e1, e2, e3, nI_clamp g1, nI_clamp g2, nI_clamp g3, nI_clamp g4]
    exact h1
  · obtain ⟨a, b, c, d, h1, e0, e1, e2, e3⟩ := h k hk
    obtain ⟨g1, g2, g3, g4⟩ := okN4_b h1
    match j, hj with
    | 0, _ => show R (5 * k) = nI (R (5 * k)).toNatClampNeg; rw [e0, nI_clamp g1]
    | 1, _ => show R (5 * k + 1) = nI (R (5 * k + 1)).toNatClampNeg; rw [e1, nI_clamp g2]
    | 2, _ => show R (5 * k + 2) = nI (R (5 * k + 2)).toNatClampNeg; rw [e2, nI_clamp g3]
    | 3, _ => show R (5 * k + 3) = nI (R (5 * k + 3)).toNatClampNeg; rw [e3, nI_clamp g4]
theorem spR_Cd {R : Nat → Int32} {D : Nat → Nat → Nat} {m : Nat} {l : List Nat} (hD : okDs D m) (hv : ∀ k, k < m → ∀ j, j < 4 → R (5 * k + j) = nI (D k j)) (hw : wl l) (lw : l.length ≤ 8) : ∀ n, n ≤ m → spR R n (wN l) = wN (Cd D n l) := by
  intro n
  induction n with
  | zero => intro _; rfl
  | succ n ih =>
    intro hn
    obtain ⟨h1, h2⟩ := Cd_wl hD hw n (by omega)
    show dzR R n (spR R n (wN l)) = _
    rw [ih (by omega)]
    unfold dzR
    rw [show R (5 * n) = _ from hv n (by omega) 0 (by omega), hv n (by omega) 1 (by omega), hv n (by omega) 2 (by omega), hv n (by omega) 3 (by omega), dz_nI (hD n (by omega)), dg_wN h1 (by omega)]
    rfl
/-- letter by letter is the same -/
theorem flow_w {u p0 m : Nat} {w : Int32} {M : KMem} (hm : m ≤ 10) (h0 : M p0 0 = nI m) (hR : okR (M (p0 + 1)) m) (hp : p0 ≠ u + 1 ∧ p0 + 1 ≠ u + 1) (hw : vW w) :
    kOk (m_Fl_spellingOf u p0 w M) (fun q => q.1 = spR (M (p0 + 1)) m w ∧ frS (fun o => o = u + 1) M q.2) := by
  obtain ⟨D, h1, h2⟩ := okR_D hR
  obtain ⟨h3, h4, h5⟩ := vW_dg hw
  have h := flow_ok (u := u) (M := M) ⟨h0, hm, h1, h2⟩ hp h3 h4
  rw [← spR_Cd h1 h2 h3 h4 m (Nat.le_refl _), ← h5] at h
  exact h
