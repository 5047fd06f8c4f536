/-! P30: sums; how far words are apart -/
theorem lev_comm : ∀ (s t : List Nat), lev s t = lev t s := by
  intro s
  induction s with
  | nil => intro t; rw [lev_n, lev_0]
  | cons x s ih =>
    intro t
    induction t with
    | nil => rw [lev_n, lev_0]
    | cons y t iht =>
      have hne : ne x y = ne y x := by
        unfold ne
        by_cases h : x = y
        · rw [if_pos h, if_pos h.symm]
        · rw [if_neg h, if_neg (fun e => h e.symm)]
      have h1 := ih t
      have h2 := ih (y :: t)
      rw [lev_cc, lev_cc, h1, h2, iht, hne, Nat.min_comm (lev (y :: t) s)]
theorem lev_low : ∀ (s t : List Nat), s.length ≤ lev s t + t.length := by
  intro s
  induction s with
  | nil => intro t; simp
  | cons x s ih =>
    intro t
    induction t with
    | nil => rw [lev_0]; simp
    | cons y t iht =>
      have h1 := ih t
      have h2 := ih (y :: t)
      have h3 := ne_le x y
      rw [lev_cc]
      simp only [List.length_cons] at *
      omega
theorem lv_comm (x y : Int32) : lv x y = lv y x := lev_comm _ _
theorem lv_low (x y : Int32) : nl x ≤ lv x y + nl y ∧ nl y ≤ lv x y + nl x := ⟨lev_low _ _, by rw [lv_comm]; exact lev_low _ _⟩
theorem lv_up (x y : Int32) : lv x y ≤ max (nl x) (nl y) := lev_le _ _
theorem nl_8 {x : Int32} (h : vW x) : nl x ≤ 8 := (vW_dg h).2.1
theorem nl_wN {l : List Nat} (h : wl l) (hl : l.length ≤ 8) : nl (wN l) = l.length := by
  unfold nl
  rw [dg_wN h hl]
theorem nl_dz {k a b c w : Int32} (hd : okD k a b c) (h : vW w) : nl (dz k a b c w) ≤ nl w := by
  obtain ⟨k', a', b', c', hN, rfl, rfl, rfl, rfl⟩ := hd
  obtain ⟨h1, h2, h3⟩ := vW_dg h
  obtain ⟨h4, h5⟩ := dcl_wl hN h1
  rw [dz_nI hN, nl_wN h4 (by omega)]
  exact h5
theorem nl_spR {R : Nat → Int32} {m : Nat} {w : Int32} (h : okR R m) (hw : vW w) : ∀ n, n ≤ m → nl (spR R n w) ≤ nl w := by
  intro n
  induction n with
  | zero => intro _; exact Nat.le_refl _
  | succ n ih =>
    intro hn
    have h1 := ih (by omega)
    have h2 : nl (dzR R n (spR R n w)) ≤ nl (spR R n w) := nl_dz (h n (by omega)) (spR_vW h hw n (by omega))
    exact Nat.le_trans h2 h1
theorem nl_rt {a : Row} (hI : InvB a) {s : Nat} (hs : s < sN a) : nl (rtA a s) ≤ nl (a (5 * s + 2)) := nl_spR hI.2.2.1 (hI.2.2.2 s hs).2.1 _ (Nat.le_refl _)
theorem vW_pos {w : Int32} (h : vW w) (h0 : w ≠ 0) : ¬ w ≤ 0 := by
  obtain ⟨l, h1, h2, rfl⟩ := h
  have h3 := vr_8 (wl_rev.mpr h1) (by simpa using h2)
  refine nI_nle (n := vr l.reverse) ?_ (by omega)
  refine Nat.pos_of_ne_zero (fun e => h0 ?_)
  show nI (vr l.reverse) = 0
  rw [e]
  rfl
/-- sums of naturals -/
def sumN (f : Nat → Nat) : Nat → Nat
  | 0 => 0
  | s + 1 => sumN f s + f s
theorem sumF_N {f : Nat → Int32} {g : Nat → Nat} : ∀ n, (∀ s, s < n → f s = nI (g s)) → sumF f n = nI (sumN g n) := by
  intro n
  induction n with
  | zero => intro _; rfl
  | succ n ih =>
    intro h
    show sumF f n + f n = nI (sumN g n + g n)
    rw [ih (fun s hs => h s (by omega)), h n (by omega), nI_add]
theorem sumN_le {g : Nat → Nat} {c : Nat} : ∀ n, (∀ s, s < n → g s ≤ c) → sumN g n ≤ n * c := by
  intro n
  induction n with
  | zero => intro _; simp [sumN]
  | succ n ih =>
    intro h
    have h1 := ih (fun s hs => h s (by omega))
    have h2 := h n (by omega)
    show sumN g n + g n ≤ _
    rw [Nat.add_mul, Nat.one_mul]
    omega
/-- how many signs are wrong -/
def wrgN (a : Row) : Nat := sumN (fun s => if dA a s = 0 then 0 else 1) (sN a)
theorem wrC_N {a : Row} (hI : InvB a) : ∀ n, n ≤ sN a → wrC a n = nI (sumN (fun s => if dA a s = 0 then 0 else 1) n) := by
  intro n
  induction n with
  | zero => intro _; rfl
  | succ n ih =>
    intro hn
    show wrC a n + (if a (5 * n + 3) = rtA a n then 0 else 1) = nI (sumN (fun s => if dA a s = 0 then 0 else 1) n + (if dA a n = 0 then 0 else 1))
    rw [ih (by omega), ← nI_add]
    congr 1
    have h1 := ap_0 hI (s := n) (by omega)
    rw [← dA_e (by omega)] at h1
    by_cases hz : dA a n = 0
    · rw [if_pos hz, if_pos (h1.mp hz)]; rfl
    · rw [if_neg hz, if_neg (fun e => hz (h1.mpr e))]; rfl
theorem wrgN_8 {a : Row} (hI : InvB a) : wrgN a ≤ 8 := by
  have h8 := hI.1.1
  have := sumN_le (g := fun s => if dA a s = 0 then 0 else 1) (c := 1) (sN a) (fun s _ => by split <;> omega)
  unfold wrgN
  omega
/-! loops and questions, one behind another -/
theorem kForK {σ ρ : Type} {f : σ → Option (σ ⊕ ρ)} {Q : ρ → Prop} (I : Nat → σ → Prop) (N : Nat)
    (hs : ∀ i s, i < N → I i s → kOk (f s) (fun r => ∃ s', r = .inl s' ∧ I (i + 1) s'))
    (he : ∀ s, I N s → kOk (f s) (fun r => ∃ q, r = .inr q ∧ Q q))
    {i0 : Nat} {s : σ} (hi : i0 ≤ N) (hN : N < 90000) (h : I i0 s) : kOk (kLp f kFU s) Q :=
  kFor I N (fun i s hi h => by
    obtain ⟨r, e, s', rfl, h2⟩ := hs i s hi h
    exact Or.inl ⟨s', e, h2⟩) (fun s h => by
    obtain ⟨r, e, q, rfl, h2⟩ := he s h
    exact ⟨q, e, h2⟩) hi hN h
theorem kAsk {α : Type} {S : Nat → Prop} {M0 M : KMem} {o : Option (Int32 × KMem)} {v : Int32} {f : Int32 × KMem → Option α} {P : α → Prop} (F : frS S M0 M) (h : kOk o (fun q => q.1 = v ∧ frS S M q.2)) (k : ∀ M', frS S M0 M' → kOk (f (v, M')) P) : kOk (o.bind f) P := by
  obtain ⟨⟨x, M1⟩, e, h1, h2⟩ := h
  simp only at h1 h2
  subst h1
  rw [e]
  exact k M1 (F.tr h2)
theorem beq_ok {p q : Prop} [Decidable p] [Decidable q] (h : p ↔ q) {α : Type} {x y : α} : (if (if p then (1 : Int32) else 0) = (if q then 1 else 0) then x else y) = x := by
  by_cases hp : p
  · rw [if_pos hp, if_pos (h.mp hp), if_pos rfl]
  · rw [if_neg hp, if_neg (fun z => hp (h.mpr z)), if_pos rfl]
theorem beq_no {p q : Prop} [Decidable p] [Decidable q] (h : p ↔ ¬ q) {α : Type} {x y : α} : (if (if p then (1 : Int32) else 0) = (if q then 0 else 1) then x else y) = x := by
  by_cases hq : q
  · rw [if_neg (fun z => h.mp z hq), if_pos hq, if_pos rfl]
  · rw [if_pos (h.mpr hq), if_neg hq, if_pos rfl]
/-- a sign's checks -/
theorem sums_inner {t s : Nat} {a : Row} {H : Nat → Row} {k : Nat} {M0 M : KMem} (h : GO t a H k M0) (hs : s < sN a) (F : frS (scr (t + 3)) M0 M) :
    kOk (kLp (m_La_areSums_l324 t (nI s) (rtA a s)) kFU (1, 0, M)) (fun q => q.1 = 1 ∧ frS (scr (t + 3)) M0 q.2) := by
  have hI := h.1
  have h8 := hI.1.1.1
  refine kForK (fun i q => ∃ M1, q = (1, nI i, M1) ∧ frS (scr (t + 3)) M0 M1) s ?_ ?_ (i0 := 0) (by omega) (by omega) ⟨M, rfl, F⟩
  · rintro i _ hi ⟨M, rfl, F⟩
    have l1 := lv_8 (rt_vW hI.1 hs) (rt_vW hI.1 (s := i) (by omega))
    have l0 := lv_0 (rt_vW hI.1 hs) (rt_vW hI.1 (s := i) (by omega))
    have lz : (nI (lv (rtA a s) (rtA a i)) = 0) ↔ lv (rtA a s) (rtA a i) = 0 := nI_eq (b := 0) (by omega) (by omega)
    unfold m_La_areSums_l324
    dsimp only
    rw [if_neg (by rw [nI_leI (by omega) (by omega)]; omega)]
    refine kAsk F (q_apart (h.sc F) hs (o := i) (by omega)) (fun M F => ?_)
    dsimp only
    refine kB (fun q => q.1 = 1 ∧ frS (scr (t + 3)) M0 q.2) ?_ ?_
    · rw [if_neg u10]
      refine kAsk F (q_apart (h.sc F) (s := i) (o := s) (by omega) hs) (fun M F => ?_)
      dsimp only
      rw [lv_comm (rtA a i), if_pos rfl, bI]
      refine kAsk F (q_right (w := 0) (h.sc F) (s := i) (by omega) (by omega)) (fun M F => ?_)
      dsimp only
      rw [bI, beq_ok (show (nI (lv (rtA a s) (rtA a i)) = 0) ↔ (rtA a i = rtA a s) from lz.trans (l0.trans ⟨fun e => e.symm, fun e => e.symm⟩))]
      refine kAsk F (q_signOf (j := 0) (h.sc F) (s := i) (by omega) (by omega)) (fun M F => ?_)
      dsimp only
      refine kAsk F (q_signOf (j := 0) (h.sc F) hs (by omega)) (fun M F => ?_)
      dsimp only
      by_cases hg : sgV a i 0 = sgV a s 0
      · rw [if_pos hg, if_neg]
        · exact kOk_i ⟨rfl, F⟩
        · intro hle
          have hz : lv (rtA a s) (rtA a i) = 0 := by
            rw [show (0 : Int32) = nI 0 from rfl, nI_leI (by omega) (by omega)] at hle
            omega
          exact hI.2.1.2 s i hi hs hg (l0.mp hz).symm
      · rw [if_neg hg]
        exact kOk_i ⟨rfl, F⟩
    · rintro ⟨x, M⟩ ⟨g1, F⟩
      simp only at g1 F
      subst g1
      dsimp only
      rw [nI_1]
      exact kOk_i ⟨_, rfl, M, rfl, F⟩
  · rintro _ ⟨M, rfl, F⟩
    unfold m_La_areSums_l324
    dsimp only
    rw [if_pos (Int32.le_refl _)]
    exact kOk_i ⟨_, rfl, rfl, F⟩
/-- the law's sums up to the sign s -/
abbrev sumsAt (a : Row) (s : Nat) (M : KMem) : Int32 × Int32 × Int32 × Int32 × Int32 × Int32 × Int32 × KMem :=
  (wrC a s, sumF (sumV a 0) s, sumF (sumV a 1) s, sumF (coA a) s, sumF (fun s => a (5 * s + 5)) s, 1, nI s, M)
theorem sums_loop {t : Nat} {a : Row} {H : Nat → Row} {k : Nat} {M0 : KMem} (h : GO t a H k M0) :
    kOk (kLp (m_La_areSums_l18 t) kFU (0, 0, 0, 0, 0, 1, 0, M0)) (fun q => ∃ M, q = (wrC a (sN a), sumF (sumV a 0) (sN a), sumF (sumV a 1) (sN a), sumF (coA a) (sN a), sumF (fun s => a (5 * s + 5)) (sN a), 1, M) ∧ frS (scr (t + 3)) M0 M) := by
  have hI := h.1
  have h8 := hI.1.1.1
  have a0 : abV a 0 = nI (sN a) := hI.1.1.2
  refine kForK (fun s q => ∃ M, q = sumsAt a s M ∧ frS (scr (t + 3)) M0 M) (sN a) ?_ ?_ (i0 := 0) (by omega) (by omega) ⟨M0, rfl, frS.rf⟩
  · rintro s _ hs ⟨M, rfl, F⟩
    have hw := (hI.1.2.2.2 s hs).2.1
    have hp := (hI.1.2.2.2 s hs).2.2
    have hr := rt_vW hI.1 hs
    have n1 := nl_8 hw
    have n2 := nl_8 hp
    have n3 := nl_8 hr
    have n4 := nl_rt hI.1 hs
    have d0 := ap_0 hI.1 hs
    have d8 := ap_8 hI.1 hs
    have dl : nl (a (5 * s + 3)) ≤ apA a s + nl (rtA a s) ∧ nl (rtA a s) ≤ apA a s + nl (a (5 * s + 3)) := lv_low _ _
    have du : apA a s ≤ max (nl (a (5 * s + 3))) (nl (rtA a s)) := lv_up _ _
    have z1 : (nI (apA a s) = 0) ↔ apA a s = 0 := nI_eq (b := 0) (by omega) (by omega)
    have lrt := letters_v hr
    have lwd : m_La_letters (sgV a s 1) = _ := letters_v hw
    have h42 : (if nI (nl (rtA a s)) ≤ nI (nl (a (5 * s + 3))) then (some (nI (nl (a (5 * s + 3)))) : Option Int32) else Option.bind (some (nI (nl (rtA a s)))) fun x => some x) = some (nI (max (nl (a (5 * s + 3))) (nl (rtA a s)))) := by
      by_cases hc : nl (rtA a s) ≤ nl (a (5 * s + 3))
      · rw [if_pos ((nI_leI (by omega) (by omega)).mpr hc), Nat.max_eq_left hc]
      · rw [if_neg (fun z => hc ((nI_leI (by omega) (by omega)).mp z)), Nat.max_eq_right (by omega)]
        rfl
    have h46 : (if nI (nl (rtA a s)) ≤ nI (nl (a (5 * s + 3))) then (Option.bind (some (nI (nl (rtA a s)))) fun x => (some (nI (nl (a (5 * s + 3))) - x) : Option Int32)) else Option.bind (some (nI (nl (rtA a s)))) fun x => some (x - nI (nl (a (5 * s + 3))))) = some (nI ((nl (a (5 * s + 3)) - nl (rtA a s)) + (nl (rtA a s) - nl (a (5 * s + 3))))) := by
      by_cases hc : nl (rtA a s) ≤ nl (a (5 * s + 3))
      · rw [if_pos ((nI_leI (by omega) (by omega)).mpr hc), bS, pk_sub hc]
        congr 2
        omega
      · rw [if_neg (fun z => hc ((nI_leI (by omega) (by omega)).mp z)), bS, pk_sub (by omega)]
        congr 2
        omega
    unfold m_La_areSums_l18
    dsimp only
    refine kAsk F (q_about (j := 0) (h.sc F) (by omega)) (fun M F => ?_)
    dsimp only
    rw [a0, if_neg (by rw [nI_leI (by omega) (by omega)]; omega)]
    refine kAsk F (q_right (w := 0) (h.sc F) hs (by omega)) (fun M F => ?_)
    dsimp only
    refine kAsk F (q_signOf (j := 4) (h.sc F) hs (by omega)) (fun M F => ?_)
    dsimp only
    refine kAsk F (q_signOf (j := 3) (h.sc F) hs (by omega)) (fun M F => ?_)
    dsimp only
    refine kAsk F (q_signOf (j := 1) (h.sc F) hs (by omega)) (fun M F => ?_)
    dsimp only
    rw [lwd, bS, lrt, bS]
    refine kAsk F (q_signOf (j := 5) (h.sc F) hs (by omega)) (fun M F => ?_)
    dsimp only
    refine kAsk F (q_signOf (j := 7) (h.sc F) hs (by omega)) (fun M F => ?_)
    dsimp only
    refine kAsk F (q_signOf (j := 2) (h.sc F) hs (by omega)) (fun M F => ?_)
    dsimp only
    rw [show sgV a s 2 = a (5 * s + 3) from rfl, show m_La_letters (a (5 * s + 3)) = _ from letters_v hp, bS, bS, h42, bS, bS, h46, bS]
    refine kB (fun q => q.1 = 1 ∧ frS (scr (t + 3)) M0 q.2) ?_ ?_
    · rw [if_neg u10, if_neg (vW_pos hr (hI.2.1.1 s hs))]
      refine kAsk F (q_right (w := 1) (h.sc F) hs (by omega)) (fun M F => ?_)
      dsimp only
      rw [if_pos rfl, bS]
      refine kAsk F (q_signOf (j := 1) (h.sc F) hs (by omega)) (fun M F => ?_)
      dsimp only
      rw [lwd, bS, if_neg (by show ¬ nI (nl (a (5 * s + 2))) < nI (nl (rtA a s)); rw [nI_ltI (by omega) (by omega)]; omega)]
      refine kAsk F (q_signOf (j := 3) (h.sc F) hs (by omega)) (fun M F => ?_)
      dsimp only
      rw [bI]
      refine kAsk F (q_signOf (j := 2) (h.sc F) hs (by omega)) (fun M F => ?_)
      dsimp only
      have e3 : sgV a s 3 = if a (5 * s + 3) = rtA a s then 0 else 1 := rfl
      rw [bI, beq_no (show (sgV a s 3 = 1) ↔ ¬ (sgV a s 2 = rtA a s) from by
        rw [e3, show sgV a s 2 = a (5 * s + 3) from rfl]
        by_cases hc : a (5 * s + 3) = rtA a s
        · rw [if_pos hc]; exact ⟨fun z => absurd z (by decide), fun z => (z hc).elim⟩
        · rw [if_neg hc]; exact ⟨fun _ => hc, fun _ => rfl⟩), bI]
      refine kAsk F (q_signOf (j := 3) (h.sc F) hs (by omega)) (fun M F => ?_)
      dsimp only
      rw [bI, beq_ok (show (sgV a s 4 = 0) ↔ (sgV a s 3 = 0) from by
        rw [e3, show sgV a s 4 = nI (apA a s) from rfl, z1, d0]
        by_cases hc : a (5 * s + 3) = rtA a s
        · rw [if_pos hc]; exact ⟨fun _ => rfl, fun _ => hc⟩
        · rw [if_neg hc]; exact ⟨fun z => (hc z).elim, fun z => absurd z (by decide)⟩), if_neg (by show ¬ nI (apA a s) < _; rw [nI_ltI (by omega) (by omega)]; omega), if_neg (by show ¬ _ < nI (apA a s); rw [nI_ltI (by omega) (by omega)]; omega)]
      refine kAsk F (q_signOf (j := 5) (h.sc F) hs (by omega)) (fun M F => ?_)
      dsimp only
      rw [show m_Sn_setting t 0 M = _ from q_setting (j := 0) (h.sc F) (by omega), bS, if_pos (show sgV a s 5 = sgV a s 4 * a (106 + 0) from Int32.mul_comm _ _)]
      refine kAsk F (q_apart (h.sc F) hs hs) (fun M F => ?_)
      dsimp only
      rw [if_pos (show nI (lv (rtA a s) (rtA a s)) = 0 from by rw [(lv_0 hr hr).mpr rfl]; rfl)]
      exact kOk_i ⟨rfl, F⟩
    · rintro ⟨x, M⟩ ⟨g1, F⟩
      simp only at g1 F
      subst g1
      dsimp only
      refine kB _ (sums_inner h hs F) ?_
      rintro ⟨x, M⟩ ⟨g1, F⟩
      simp only at g1 F
      subst g1
      dsimp only
      rw [nI_1]
      exact kOk_i ⟨_, rfl, M, rfl, F⟩
  · rintro _ ⟨M, rfl, F⟩
    unfold m_La_areSums_l18
    dsimp only
    refine kAsk F (q_about (j := 0) (h.sc F) (by omega)) (fun M F => ?_)
    dsimp only
    rw [a0, if_pos (Int32.le_refl _)]
    exact kOk_i ⟨_, rfl, M, rfl, F⟩
/-! greedy payment: all are paid where the purse has enough -/
theorem gr_len : ∀ (l : List Nat) (L : Nat), gr L l ≤ l.length := by
  intro l
  induction l with
  | nil => intro L; exact Nat.le_refl _
  | cons x l ih =>
    intro L
    simp only [gr, List.length_cons]
    split
    · have := ih (L - x); omega
    · have := ih L; omega
theorem gr_all : ∀ (l : List Nat) (L : Nat), gr L l = l.length ↔ l.sum ≤ L := by
  intro l
  induction l with
  | nil => intro L; simp [gr]
  | cons x l ih =>
    intro L
    simp only [gr, List.length_cons, List.sum_cons]
    split
    · have := ih (L - x)
      omega
    · have := gr_len l L
      omega
theorem gr_mono : ∀ (l : List Nat) (L L' : Nat), l.Pairwise (· ≤ ·) → L ≤ L' → gr L l ≤ gr L' l := by
  intro l
  induction l with
  | nil => intro L L' _ _; exact Nat.le_refl _
  | cons x l ih =>
    intro L L' hs hL
    obtain ⟨h1, h2⟩ := List.pairwise_cons.mp hs
    simp only [gr]
    by_cases hx : x ≤ L
    · rw [if_pos hx, if_pos (by omega)]
      have := ih (L - x) (L' - x) h2 (by omega)
      omega
    · rw [if_neg hx, gr_none (fun z hz => by have := h1 z hz; omega)]
      omega
theorem sumN_front (f : Nat → Nat) : ∀ n, sumN f (n + 1) = f 0 + sumN (fun i => f (i + 1)) n := by
  intro n
  induction n with
  | zero => simp [sumN]
  | succ n ih =>
    show sumN f (n + 1) + f (n + 1) = f 0 + (sumN (fun i => f (i + 1)) n + f (n + 1))
    rw [ih, Nat.add_assoc]
theorem clf_sums (c : Nat) (d : Nat → Nat) : ∀ m s, (clf c d (fun _ => false) s m).length = sumN (fun i => if d (s + i) = 0 then 0 else 1) m ∧ (clf c d (fun _ => false) s m).sum = sumN (fun i => c * d (s + i)) m := by
  intro m
  induction m with
  | zero => intro s; exact ⟨rfl, rfl⟩
  | succ m ih =>
    intro s
    obtain ⟨h1, h2⟩ := ih (s + 1)
    have e1 : (fun i => if d (s + (i + 1)) = 0 then 0 else 1) = fun i => if d (s + 1 + i) = 0 then 0 else 1 := by
      funext i
      rw [show s + (i + 1) = s + 1 + i by omega]
    have e2 : (fun i => c * d (s + (i + 1))) = fun i => c * d (s + 1 + i) := by
      funext i
      rw [show s + (i + 1) = s + 1 + i by omega]
    rw [sumN_front, sumN_front, e1, e2, ← h1, ← h2]
    simp only [clf, Nat.add_zero]
    by_cases hz : d s = 0
    · rw [if_neg (fun z => z.2 hz), if_pos hz, hz]
      omega
    · rw [if_pos ⟨trivial, hz⟩, if_neg hz]
      simp only [List.length_cons, List.sum_cons]
      exact ⟨Nat.add_comm _ _, trivial⟩
abbrev payL (a : Row) : List Nat := remK (c106 a) (dA a) 0 (sN a) 8
/-- what it costs to paint all -/
def allN (a : Row) : Nat := sumN (fun i => c106 a * dA a i) (sN a)
theorem payL_ok {a : Row} (hI : Inv a) : (payL a).length = wrgN a ∧ (payL a).sum = allN a ∧ (payL a).Pairwise (· ≤ ·) := by
  have hp := remK_clf (c106 a) (dA a) (fun s => dA_8 hI.1 s) (sN a) 0
  obtain ⟨h1, h2⟩ := clf_sums (c106 a) (dA a) (sN a) 0
  refine ⟨?_, ?_, remK_sorted (c106 a) (dA a) 8 (by omega)⟩
  · rw [hp.length_eq, h1]
    simp only [Nat.zero_add]
    rfl
  · rw [hp.sum_nat, h2]
    simp only [Nat.zero_add]
    rfl
theorem all_cost {a : Row} (hI : Inv a) : sumF (coA a) (sN a) = nI (allN a) := sumF_N _ (fun s hs => coA_e hI hs)
theorem allN_b {a : Row} (hI : Inv a) : allN a ≤ 1280 := by
  have h8 := hI.1.1.1
  have := sumN_le (g := fun i => c106 a * dA a i) (c := 160) (sN a) (fun s _ => cd_le hI s)
  unfold allN
  omega
/-! guilds -/
theorem grC_sum {a : Row} (hI : InvB a) : ∀ n, n ≤ sN a → sumF (fun g => grC a g 0 n) 4 = nI n ∧ sumF (fun g => grC a g 1 n) 4 = wrC a n := by
  intro n
  induction n with
  | zero =>
    intro _
    refine ⟨?_, ?_⟩
    · show (0 : Int32) + 0 + 0 + 0 + 0 = nI 0
      decide
    · show (0 : Int32) + 0 + 0 + 0 + 0 = 0
      decide
  | succ n ih =>
    intro hn
    obtain ⟨h1, h2⟩ := ih (by omega)
    obtain ⟨g1, g2⟩ := gN_e hI (s := n) (by omega)
    have other : ∀ w g, g < 4 → g ≠ gN a n → grC a g w (n + 1) = grC a g w n := fun w g hg hne => by
      show grC a g w n + (if a (5 * n + 1) = nI g ∧ (w = 0 ∨ a (5 * n + 3) ≠ rtA a n) then 1 else 0) = _
      rw [if_neg, Int32.add_zero]
      rintro ⟨e, -⟩
      rw [g2, nI_eq (by omega) (by omega)] at e
      exact hne e.symm
    constructor
    · rw [sumF_add (f := fun g => grC a g 0 n) (c := 1) (s := gN a n) 4 g1 (fun g hg hne => other 0 g hg hne) ?_, h1, nI_1]
      show grC a (gN a n) 0 n + (if a (5 * n + 1) = nI (gN a n) ∧ ((0 : Nat) = 0 ∨ a (5 * n + 3) ≠ rtA a n) then 1 else 0) = _
      rw [if_pos ⟨g2, Or.inl rfl⟩]
    · rw [sumF_add (f := fun g => grC a g 1 n) (c := if a (5 * n + 3) = rtA a n then 0 else 1) (s := gN a n) 4 g1 (fun g hg hne => other 1 g hg hne) ?_, h2]
      · rfl
      · show grC a (gN a n) 1 n + (if a (5 * n + 1) = nI (gN a n) ∧ ((1 : Nat) = 0 ∨ a (5 * n + 3) ≠ rtA a n) then 1 else 0) = _
        by_cases hc : a (5 * n + 3) = rtA a n
        · rw [if_neg (fun z => z.2.elim (by omega) (fun w => w hc)), if_pos hc]
        · rw [if_pos ⟨g2, Or.inr hc⟩, if_neg hc]
theorem sumF_lin (f g : Nat → Int32) (c : Int32) : ∀ n, sumF (fun s => f s + c * g s) n = sumF f n + c * sumF g n := by
  intro n
  induction n with
  | zero =>
    show (0 : Int32) = 0 + c * 0
    rw [Int32.mul_zero, Int32.add_zero]
  | succ n ih =>
    show sumF (fun s => f s + c * g s) n + (f n + c * g n) = (sumF f n + f n) + c * (sumF g n + g n)
    rw [ih, Int32.mul_add]
    ac_rfl
theorem sub_add_self (x y : Int32) : (x + y) - x = y := by rw [Int32.add_comm, Int32.add_sub_cancel]
/-- the law's sums hold -/
theorem sums_ok {t n : Nat} {a : Row} {H : Nat → Row} {k : Nat} {M : KMem} (h : GO t a H k M) (hF : InvF a) (hM : InvM n a) (hn : n < 2 ^ 30) : kOk (m_La_areSums t M) (fun q => q.1 = 1 ∧ frS (scr (t + 3)) M q.2) := by
  have hI := h.1
  have h8 := hI.1.1.1
  obtain ⟨c1, c2, -, -, x93, c3, c4⟩ := hI.2.2
  obtain ⟨g1, g2⟩ := grC_sum hI.1 (sN a) (Nat.le_refl _)
  have wN := wrC_N hI.1 (sN a) (Nat.le_refl _)
  have w8 := wrgN_8 hI.1
  unfold m_La_areSums
  refine kB _ (sums_loop h) ?_
  rintro _ ⟨M1, rfl, F⟩
  dsimp only
  have h1 := h.sc F
  refine kB (fun q => q = (sumF (fun s => a (5 * s + 5)) (sN a) - sumF (fun g => a (98 + g)) 4, sumF (fun g => grC a g 0 (sN a) + 100 * grC a g 1 (sN a)) 4, sumF (fun g => a (102 + g)) 4)) (kFor (fun g q => q = (sumF (fun s => a (5 * s + 5)) (sN a) - sumF (fun g => a (98 + g)) g, sumF (fun g => grC a g 0 (sN a) + 100 * grC a g 1 (sN a)) g, sumF (fun g => a (102 + g)) g, nI g)) 4 ?_ ?_ (i0 := 0) (by omega) (by omega) (by
    show (sumF (fun s => a (5 * s + 5)) (sN a), (0 : Int32), (0 : Int32), (0 : Int32)) = (sumF (fun s => a (5 * s + 5)) (sN a) - 0, 0, 0, nI 0)
    rw [Int32.sub_zero]
    rfl)) ?_
  · rintro g _ hg rfl
    refine Or.inl ⟨_, ?_, rfl⟩
    unfold m_La_areSums_l439
    dsimp only
    rw [if_neg (show ¬ 4 ≤ nI g from by rw [show (4 : Int32) = nI 4 from rfl, nI_leI (by omega) (by omega)]; omega), show m_Sn_guildOf t (nI g) 0 M1 = _ from q_guildOf (j := 0) h1 hg (by omega), bS, show m_Sn_guildOf t (nI g) 1 M1 = _ from q_guildOf (j := 1) h1 hg (by omega), bS, show m_Sn_guildOf t (nI g) 3 M1 = _ from q_guildOf (j := 3) h1 hg (by omega), bS, show m_Sn_guildOf t (nI g) 2 M1 = _ from q_guildOf (j := 2) h1 hg (by omega), bS, Int32.sub_sub, nI_1]
    rfl
  · rintro _ rfl
    exact ⟨_, rfl, rfl⟩
  rintro _ rfl
  dsimp only
  refine kB (fun q => q.1 = 1 ∧ frS (scr (t + 3)) M q.2) ?_ ?_
  · rw [if_neg u10]
    refine kAsk F (q_about (j := 0) (h.sc F) (by omega)) (fun M1 F => ?_)
    dsimp only
    rw [if_pos (show sumF (fun g => grC a g 0 (sN a) + 100 * grC a g 1 (sN a)) 4 = abV a 0 + 100 * wrC a (sN a) from by rw [sumF_lin, g1, g2]; rw [show abV a 0 = nI (sN a) from hI.1.1.2])]
    refine kAsk F (q_about (j := 2) (h.sc F) (by omega)) (fun M1 F => ?_)
    dsimp only
    rw [if_pos (show wrC a (sN a) = abV a 2 from rfl)]
    refine kAsk F (q_about (j := 9) (h.sc F) (by omega)) (fun M1 F => ?_)
    dsimp only
    rw [if_pos (show sumF (sumV a 0) (sN a) = abV a 9 from rfl)]
    refine kAsk F (q_about (j := 10) (h.sc F) (by omega)) (fun M1 F => ?_)
    dsimp only
    rw [if_pos (show sumF (sumV a 1) (sN a) = abV a 10 from rfl)]
    refine kAsk F (q_about (j := 11) (h.sc F) (by omega)) (fun M1 F => ?_)
    dsimp only
    rw [if_pos (show sumF (coA a) (sN a) = abV a 11 from rfl), if_pos (show sumF (fun s => a (5 * s + 5)) (sN a) - sumF (fun g => a (98 + g)) 4 = 0 from by
      have e : sumF (fun s => a (5 * s + 5)) (sN a) = a 95 := hF
      rw [e, c1]
      show a 98 + a 99 + a 100 + a 101 - (0 + a 98 + a 99 + a 100 + a 101) = 0
      rw [Int32.zero_add, Int32.sub_self])]
    refine kAsk F (q_about (j := 7) (h.sc F) (by omega)) (fun M1 F => ?_)
    dsimp only
    rw [if_pos (show sumF (fun g => a (102 + g)) 4 = abV a 7 from by
      show 0 + a 102 + a 103 + a 104 + a 105 = a 96
      rw [Int32.zero_add, c2]), show m_Sn_guildOf t 0 2 M1 = _ from q_guildOf (g := 0) (j := 2) (h.sc F) (by omega) (by omega), bS, show m_Sn_guildOf t 1 2 M1 = _ from q_guildOf (g := 1) (j := 2) (h.sc F) (by omega) (by omega), bS, show m_Sn_guildOf t 2 2 M1 = _ from q_guildOf (g := 2) (j := 2) (h.sc F) (by omega) (by omega), bS, show m_Sn_guildOf t 3 2 M1 = _ from q_guildOf (g := 3) (j := 2) (h.sc F) (by omega) (by omega), bS]
    refine kAsk F (q_about (j := 6) (h.sc F) (by omega)) (fun M1 F => ?_)
    dsimp only
    rw [if_pos (show guV a 0 2 + guV a 1 2 + guV a 2 2 + guV a 3 2 = abV a 6 from c1.symm)]
    refine kAsk F (q_payable (L := 999) (h.sc F) (by omega)) (fun M1 F => ?_)
    dsimp only
    have hg := gr_len (payL a) 999
    rw [(payL_ok hI).1] at hg
    rw [if_neg (show ¬ wrC a (sN a) < nI (gr 999 (payL a)) from by
      rw [wN]
      show ¬ nI (wrgN a) < _
      rw [nI_ltI (by omega) (by omega)]
      omega)]
    refine kAsk F (q_about (j := 4) (h.sc F) (by omega)) (fun M1 F => ?_)
    dsimp only
    rw [if_neg (show ¬ 10 ≤ abV a 4 from by
      rw [show abV a 4 = nI x93 from c4, show (10 : Int32) = nI 10 from rfl, nI_leI (by omega) (by omega)]
      omega)]
    refine kAsk F (q_about (j := 5) (h.sc F) (by omega)) (fun M1 F => ?_)
    dsimp only
    refine kAsk F (q_about (j := 3) (h.sc F) (by omega)) (fun M1 F => ?_)
    dsimp only
    rw [if_neg (show ¬ abV a 3 < abV a 5 from by
      obtain ⟨m, m1, m2, m3⟩ := hM
      show ¬ a 92 < a 94
      rw [m2]
      rcases m3 with e | ⟨q, q1, e⟩
      · rw [e]
        exact Int32.not_lt.mpr (Int32.le_trans (show (-1 : Int32) ≤ 0 by decide) (nI_pos' (by omega)))
      · rw [e, nI_ltI (by omega) (by omega)]
        omega)]
    exact kOk_i ⟨rfl, F⟩
  · rintro ⟨x, M2⟩ ⟨r1, F⟩
    simp only at r1 F
    subst r1
    dsimp only
    rw [kz_1, bS]
    exact kOk_i ⟨rfl, F⟩
