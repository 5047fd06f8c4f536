/-! P30: an object at t: its row a, what it remembers; what each action does to it -/
theorem ix_c (x : Int32) {lo hi : Nat} (hh : hi < 2 ^ 30) (hl : lo ≤ hi) : (∃ j, lo ≤ j ∧ j ≤ hi ∧ x = nI j) ∨ (x < nI lo ∨ nI hi < x) := by
  rcases pk_ix x (n := hi + 1) (by omega) with h | h | ⟨j, hj, rfl⟩
  · exact Or.inr (Or.inl (Int32.lt_of_lt_of_le h (nI_pos' (by omega))))
  · exact Or.inr (Or.inr (Int32.lt_of_lt_of_le (nI_lt (a := hi) (b := hi + 1) (by omega) (by omega)) h))
  · by_cases h2 : lo ≤ j
    · exact Or.inl ⟨j, h2, by omega, rfl⟩
    · exact Or.inr (Or.inl (nI_lt (by omega) (by omega)))
theorem isWordc (x : Int32) : (m_Wo_isWord x = some 1 ∧ vW x ∧ x ≠ 0) ∨ m_Wo_isWord x = some 0 := by
  rcases ix_c x (lo := 1) (hi := 66666666) (by omega) (by omega) with ⟨j, h1, h2, rfl⟩ | h1
  · rw [WisWord_n h1 h2]
    by_cases hb : wB j = true
    · obtain ⟨l, h4, h5, h6, h7⟩ := wB_w h1 h2 hb
      rw [if_pos hb]
      exact Or.inl ⟨rfl, ⟨l, h4, h6, h7⟩, nI_ne0 (by omega) (by omega)⟩
    · rw [if_neg hb]
      exact Or.inr rfl
  · refine Or.inr ?_
    unfold m_Wo_isWord
    by_cases h3 : x < 1
    · rw [if_pos h3]; rfl
    · rw [if_neg h3]
      have h4 : nI 66666666 < x := h1.elim (fun e => (h3 e).elim) id
      rw [if_neg (show ¬ x ≤ 66666666 from fun e => (Int32.not_le.mpr h4) e)]
      rfl
theorem isLetc (x : Int32) : (∃ j, 1 ≤ j ∧ j ≤ 6 ∧ x = nI j ∧ m_Wo_isLetter x = some 1) ∨ m_Wo_isLetter x = some 0 := by
  rcases ix_c x (lo := 1) (hi := 6) (by omega) (by omega) with ⟨j, h1, h2, rfl⟩ | h1
  · rw [WisLetter_n (by omega), if_pos ⟨h1, h2⟩]
    exact Or.inl ⟨j, h1, h2, rfl, rfl⟩
  · refine Or.inr ?_
    unfold m_Wo_isLetter
    by_cases h3 : x < 1
    · rw [if_pos h3]; rfl
    · rw [if_neg h3]
      have h4 : nI 6 < x := h1.elim (fun e => (h3 e).elim) id
      rw [if_pos (show 6 < x from h4)]
      rfl
theorem argsc (k a b c : Int32) : (m_De_canBe k a b c = some 1 ∧ okD k a b c) ∨ m_De_canBe k a b c = some 0 := by
  have u1 : ¬ (1 : Int32) = 0 := by decide
  unfold m_De_canBe
  rcases ix_c k (lo := 0) (hi := 2) (by omega) (by omega) with ⟨j, h1, h2, h3⟩ | h1
  · have k1 : ¬ k < 0 := by rw [h3]; exact nI_pos (by omega)
    have k2 : ¬ 2 < k := by rw [h3, show (2 : Int32) = nI 2 from rfl, nI_ltI (by omega) (by omega)]; omega
    rw [if_neg k1, if_neg k2]
    have kk : (k = 1) ↔ j = 1 := by rw [h3]; exact nI_eq (b := 1) (by omega) (by omega)
    rcases isLetc a with ⟨ja, a1, a2, a3, a4⟩ | a4
    · rw [a4, bS, if_neg u1]
      by_cases hk : k = 1
      · rw [if_pos hk]
        rcases isLetc b with ⟨jb, b1, b2, b3, b4⟩ | b4
        · rw [b4, bS, if_neg u1]
          rcases isLetc c with ⟨jc, c1, c2, c3, c4⟩ | c4
          · rw [c4]
            exact Or.inl ⟨rfl, j, ja, jb, jc, ⟨h2, ⟨a1, a2⟩, b2, c2, fun _ => ⟨b1, c1⟩⟩, h3, a3, b3, c3⟩
          · rw [c4]; exact Or.inr rfl
        · rw [b4]; exact Or.inr rfl
      · rw [if_neg hk]
        by_cases hb : b = 0
        · rw [if_pos hb]
          by_cases hc : c = 0
          · rw [if_pos hc]
            exact Or.inl ⟨rfl, j, ja, 0, 0, ⟨h2, ⟨a1, a2⟩, by omega, by omega, fun e => (hk (kk.mpr e)).elim⟩, h3, a3, hb, hc⟩
          · rw [if_neg hc]; exact Or.inr rfl
        · rw [if_neg hb]; exact Or.inr rfl
    · rw [a4]
      exact Or.inr rfl
  · refine Or.inr ?_
    by_cases k1 : k < 0
    · rw [if_pos k1]; rfl
    · rw [if_neg k1, if_pos (show (2 : Int32) < k from h1.elim (fun e => (k1 e).elim) id)]; rfl
/-! what else holds of a row: fines add up; the month, the latest amnesty -/
theorem sumF_congr {f g : Nat → Int32} : ∀ n, (∀ s, s < n → f s = g s) → sumF f n = sumF g n := by
  intro n
  induction n with
  | zero => intro _; rfl
  | succ n ih =>
    intro h
    show sumF f n + f n = sumF g n + g n
    rw [ih (fun s hs => h s (by omega)), h n (by omega)]
theorem sumF_add {f g : Nat → Int32} {c : Int32} {s : Nat} : ∀ n, s < n → (∀ t, t < n → t ≠ s → g t = f t) → g s = f s + c → sumF g n = sumF f n + c := by
  intro n
  induction n with
  | zero => intro h; omega
  | succ n ih =>
    intro hs h h2
    show sumF g n + g n = sumF f n + f n + c
    by_cases e : s = n
    · subst e
      rw [sumF_congr (f := g) (g := f) s (fun t ht => h t (by omega) (by omega)), h2, Int32.add_assoc]
    · rw [ih (by omega) (fun t ht => h t (by omega)) h2, h n (by omega) (fun z => e z.symm), Int32.add_assoc, Int32.add_comm c, ← Int32.add_assoc]
def InvF (a : Row) : Prop := sumF (fun s => a (5 * s + 5)) (sN a) = a 95
def InvM (n : Nat) (a : Row) : Prop := ∃ m, m ≤ n ∧ a 92 = nI m ∧ (a 94 = -1 ∨ ∃ q, q ≤ m ∧ a 94 = nI q)
theorem InvF.of {a b : Row} (h : InvF a) (hn : sN b = sN a) (h1 : ∀ s, s < sN a → b (5 * s + 5) = a (5 * s + 5)) (h2 : b 95 = a 95) : InvF b := by
  unfold InvF
  rw [hn, h2, ← h]
  exact sumF_congr _ (fun s hs => h1 s hs)
theorem InvM.of {a b : Row} {n n' : Nat} (h : InvM n a) (hn : n ≤ n') (h1 : b 92 = a 92) (h2 : b 94 = a 94) : InvM n' b := by
  obtain ⟨m, h3, h4, h5⟩ := h
  exact ⟨m, by omega, h1.trans h4, by rw [h2]; exact h5⟩
/-- from a row to the next -/
def Nx (a b : Row) : Prop := Inv b ∧ (InvF a → InvF b) ∧ ∀ n, InvM n a → InvM (n + 60) b
theorem nx_of {a b : Row} (hI : Inv b) (hn : sN b = sN a) (h1 : ∀ s, s < sN a → b (5 * s + 5) = a (5 * s + 5)) (h2 : b 95 = a 95) (h3 : b 92 = a 92) (h4 : b 94 = a 94) : Nx a b :=
  ⟨hI, fun h => h.of hn h1 h2, fun n h => h.of (by omega) h3 h4⟩
theorem nx_le {a b : Row} (hI : Inv a) (h : LE a b) : Nx a b :=
  nx_of (h.inv hI) h.n.1 (fun s hs => h.sg (j := 4) hs (by omega)) (h.2.2.2.2 _ (by omega) (by omega)) (h.2.2.2.2 _ (by omega) (by omega)) (h.2.2.2.2 _ (by omega) (by omega))
theorem nx_97 {a b : Row} {x : Int32} (h : Nx a b) : Nx a (upd b 97 x) := by
  have h8 := h.1.1.1.1
  refine ⟨inv_97 h.1, fun hf => (h.2.1 hf).of (by unfold sN; rw [pk_un (by omega)]) (fun s hs => pk_un (by omega)) (pk_un (by omega)), fun n hn => (h.2.2 n hn).of (Nat.le_refl _) (pk_un (by omega)) (pk_un (by omega))⟩
theorem nx_comes {a : Row} {g : Nat} {w : Int32} (hI : Inv a) (hn : sN a < 8) (hg : g < 4) (hw : vW w) : Nx a (comesA a (nI g) w) := by
  by_cases hz : hind (comesB a (nI g) w) = 0
  · have hI' := comesA_inv hI hn hg hw
    rw [comesA_y hz] at hI' ⊢
    refine ⟨hI', fun hf => ?_, fun n h => h.of (by omega) (comesB_out (by omega) (by omega)) (comesB_out (by omega) (by omega))⟩
    unfold InvF
    rw [(comesB_n hn).1, comesB_out (i := 95) (by omega) (by omega), ← hf]
    show sumF (fun s => comesB a (nI g) w (5 * s + 5)) (sN a) + comesB a (nI g) w (5 * sN a + 5) = _
    rw [comesB_5, Int32.add_zero]
    exact sumF_congr _ (fun s hs => comesB_out (by omega) (by omega))
  · exact nx_le hI (comesA_n hI.1 hn hz)
theorem nx_gives {a : Row} {k x y z : Int32} (hI : Inv a) (hm : dN a < 10) (hd : okD k x y z) : Nx a (givesA a k x y z) := by
  by_cases hz : hind (givesB a k x y z) = 0
  · have hI' := givesA_inv hI hm hd
    have h8 := hI.1.1.1
    rw [givesA_y hz] at hI' ⊢
    exact nx_of hI' (givesB_n h8 (by omega)).1 (fun s hs => givesB_out (by omega) (by omega)) (givesB_out (by omega) (by omega)) (givesB_out (by omega) (by omega)) (givesB_out (by omega) (by omega))
  · exact nx_le hI (givesA_n hI.1 hm hz)
theorem nx_rev {a : Row} {k : Nat} (hI : Inv a) (hk : k < dN a) : Nx a (revA a k) := by
  have hI' := revA_inv hI hk
  have h8 := hI.1.1.1
  have h10 := hI.1.2.1.1
  by_cases hz : hind (revB a k) = 0
  · rw [revA_y hz] at hI' ⊢
    exact nx_of hI' (revB_n h10).1 (fun s hs => revB_out (by omega) (by omega)) (revB_out (by omega) (by omega)) (revB_out (by omega) (by omega)) (revB_out (by omega) (by omega))
  · rw [revA_n hz]
    exact nx_le hI LE.rf
theorem nx_paint {a : Row} {s : Nat} (hI : Inv a) (hs : s < sN a) : Nx a (paintsA a s) := by
  have h8 := hI.1.1.1
  have hg := (gN_e hI.1 hs).1
  exact nx_of (paintsA_inv hI hs) (paintsA_l0 hI.1 hs).n.1 (fun t ht => paintsA_out (by omega) (by omega) (by omega) (by omega)) (paintsA_out (by omega) (by omega) (by omega) (by omega)) (paintsA_out (by omega) (by omega) (by omega) (by omega)) (paintsA_out (by omega) (by omega) (by omega) (by omega))
theorem nx_set {a : Row} {j x : Nat} (hI : Inv a) (hj : j < 2) (hx : x ≤ 20) : Nx a (upd a (106 + j) (nI x)) := by
  have h8 := hI.1.1.1
  exact nx_of (inv_set hI hj hx) (by unfold sN; rw [pk_un (by omega)]) (fun s hs => pk_un (by omega)) (pk_un (by omega)) (pk_un (by omega)) (pk_un (by omega))
theorem nx_spares {a : Row} {n : Nat} (hI : Inv a) (hn : n ≤ 9) : Nx a (sparesA a (nI n)) := by
  have h8 := hI.1.1.1
  refine ⟨sparesA_inv hI hn, fun hf => hf.of (by unfold sparesA sN; rw [pk_un (by omega), pk_un (by omega)]) (fun s hs => by unfold sparesA; rw [pk_un (by omega), pk_un (by omega)]) (by unfold sparesA; rw [pk_un (by omega), pk_un (by omega)]), fun q hq => ?_⟩
  obtain ⟨m, h1, h2, h3⟩ := hq
  refine ⟨m, by omega, ?_, Or.inr ⟨m, Nat.le_refl _, ?_⟩⟩
  · unfold sparesA; rw [pk_un (by omega), pk_un (by omega)]; exact h2
  · unfold sparesA; rw [pk_us]; exact h2
theorem finS_fine {b : Row} (hI : Inv b) {s : Nat} (hs : s < sN b) (hf : InvF b) : InvF (finS b s) := by
  have h8 := hI.1.1.1
  have hg := (gN_e hI.1 hs).1
  unfold InvF
  rw [(finS_inv hI hs).2]
  have e95 : finS b s 95 = b 95 + (if b (5 * s + 3) = rtA b s then 0 else b 107) := by unfold finS; rw [pk_us]
  rw [e95, ← hf]
  refine sumF_add (s := s) _ hs (fun t ht hts => finS_out (by omega) (by omega) (by omega)) ?_
  show finS b s (5 * s + 5) = _
  unfold finS
  rw [pk_un (by omega), pk_un (by omega), pk_us]
theorem finA_more {a : Row} (hI : Inv a) : ∀ s, s ≤ sN a → (InvF a → InvF (finA a s)) ∧ finA a s 92 = a 92 ∧ finA a s 94 = a 94 := by
  intro s
  induction s with
  | zero => intro _; exact ⟨id, rfl, rfl⟩
  | succ s ih =>
    intro hs
    obtain ⟨h1, h2, h3⟩ := ih (by omega)
    obtain ⟨j1, j2⟩ := finA_inv hI s (by omega)
    have h8 := hI.1.1.1
    have hg := (gN_e j1.1 (s := s) (by omega)).1
    refine ⟨fun hf => finS_fine j1 (by omega) (h1 hf), ?_, ?_⟩
    · show finS (finA a s) s 92 = _
      rw [finS_out (by omega) (by omega) (by omega)]; exact h2
    · show finS (finA a s) s 94 = _
      rw [finS_out (by omega) (by omega) (by omega)]; exact h3
theorem monA_more {a : Row} (hI : Inv a) : (InvF a → InvF (monA a)) ∧ monA a 92 = a 92 + 1 ∧ monA a 94 = a 94 := by
  have h8 := hI.1.1.1
  have hb := inv_92 (x := a 92 + 1) hI
  have f0 : InvF a → InvF (upd a 92 (a 92 + 1)) := fun hf => hf.of (by unfold sN; rw [pk_un (by omega)]) (fun s hs => pk_un (by omega)) (pk_un (by omega))
  have e92 : upd a 92 (a 92 + 1) 92 = a 92 + 1 := pk_us
  have e94 : upd a 92 (a 92 + 1) 94 = a 94 := pk_un (by omega)
  unfold monA
  simp only
  generalize upd a 92 (a 92 + 1) = b at *
  have h8b := hb.1.1.1
  have key : ∀ (c : Row) (x : Int32), sN c ≤ 8 → (InvF c → InvF (upd c 93 x)) ∧ upd c 93 x 92 = c 92 ∧ upd c 93 x 94 = c 94 := fun c x hc => ⟨fun hf => hf.of (by unfold sN; rw [pk_un (by omega)]) (fun s hs => pk_un (by omega)) (pk_un (by omega)), pk_un (by omega), pk_un (by omega)⟩
  by_cases hz : b 93 = 0
  · rw [if_pos hz]
    obtain ⟨g1, g2, g3⟩ := finA_more hb (sN b) (Nat.le_refl _)
    obtain ⟨i1, i2⟩ := finA_inv hb (sN b) (Nat.le_refl _)
    obtain ⟨k1, k2, k3⟩ := key (finA b (sN b)) (finA b (sN b) 93 - if finA b (sN b) 93 ≤ 0 then 0 else 1) (by omega)
    exact ⟨fun hf => k1 (g1 (f0 hf)), k2.trans (g2.trans e92), k3.trans (g3.trans e94)⟩
  · rw [if_neg hz]
    obtain ⟨k1, k2, k3⟩ := key b (b 93 - if b 93 ≤ 0 then 0 else 1) h8b
    exact ⟨fun hf => k1 (f0 hf), k2.trans e92, k3.trans e94⟩
theorem nx_mons {a : Row} (hI : Inv a) (n : Nat) (hn : n ≤ 60) : Nx a (monsA a n) := by
  have key : ∀ n, (InvF a → InvF (monsA a n)) ∧ ∀ q, InvM q a → InvM (q + n) (monsA a n) := by
    intro n
    induction n with
    | zero => exact ⟨id, fun q h => h⟩
    | succ n ih =>
      obtain ⟨h1, h2, h3⟩ := monA_more (monsA_inv hI n)
      refine ⟨fun hf => h1 (ih.1 hf), fun q hq => ?_⟩
      obtain ⟨m, g1, g2, g3⟩ := ih.2 q hq
      refine ⟨m + 1, by omega, ?_, ?_⟩
      · show monA (monsA a n) 92 = _
        rw [h2, g2, nI_1]
      · show monA (monsA a n) 94 = -1 ∨ ∃ r, r ≤ m + 1 ∧ monA (monsA a n) 94 = nI r
        rw [h3]
        rcases g3 with g | ⟨r, g4, g5⟩
        · exact Or.inl g
        · exact Or.inr ⟨r, by omega, g5⟩
  exact ⟨monsA_inv hI n, (key n).1, fun q hq => ((key n).2 q hq).of (by omega) rfl rfl⟩
/-! the object -/
abbrev rg (t : Nat) : Nat → Prop := fun o => t ≤ o ∧ o < t + 235
def GO (t : Nat) (a : Row) (H : Nat → Row) (k : Nat) (M : KMem) : Prop := Inv a ∧ CR a (t + 3) M ∧ ∃ o, MR t H o k M
theorem MR.fr {t : Nat} {H : Nat → Row} {o k : Nat} {M M' : KMem} (h : MR t H o k M) (h1 : M' (t + 39) = M (t + 39)) (hf : ∀ p, t + 43 ≤ p → p ≤ t + 210 → M' p = M p) : MR t H o k M' := by
  obtain ⟨a1, a2, a3, a4, a5⟩ := h
  exact ⟨by rw [h1]; exact a1, by rw [h1]; exact a2, a3, a4, fun j hj => ⟨(a5 j hj).1, (a5 j hj).2.fr2 (fun p p1 p2 => hf p (by omega) (by omega))⟩⟩
theorem GO.fr {t : Nat} {a : Row} {H : Nat → Row} {k : Nat} {S : Nat → Prop} {M M' : KMem} (h : GO t a H k M) (hf : frS S M M') (hS : ∀ o, S o → o < t + 4 ∨ o = t + 17 ∨ o = t + 19 ∨ o = t + 20 ∨ t + 235 ≤ o) : GO t a H k M' := by
  obtain ⟨h1, h2, o, h3⟩ := h
  have e : ∀ p, t + 4 ≤ p → p < t + 235 → p ≠ t + 17 → p ≠ t + 19 → p ≠ t + 20 → M' p = M p := fun p p1 p2 p3 p4 p5 => hf p (fun hs => by have := hS p hs; omega)
  exact ⟨h1, h2.fr2 (fun p p1 p2 => e p (by omega) (by omega) (by omega) (by omega) (by omega)), o, h3.fr (e _ (by omega) (by omega) (by omega) (by omega) (by omega)) (fun p p1 p2 => e p (by omega) (by omega) (by omega) (by omega) (by omega))⟩
theorem GO.sc {t : Nat} {a : Row} {H : Nat → Row} {k : Nat} {M M' : KMem} (h : GO t a H k M) (hf : frS (scr (t + 3)) M M') : GO t a H k M' := h.fr hf (fun o ho => by omega)
theorem scr_rg {t : Nat} {M M' : KMem} (hf : frS (scr (t + 3)) M M') : frS (rg t) M M' := hf.wk (fun o ho => by constructor <;> omega)
theorem Gacts {t : Nat} {a a' : Row} {H : Nat → Row} {k : Nat} {M : KMem} (h : GO t a H k M) :
    kOk (m_Me_remember (t + 39) (t + 4) M) (fun M9 => CR a (t + 3) M9 ∧ ∀ M', frS (twn (t + 3)) M9 M' → Inv a' → CR a' (t + 3) M' → GO t a' (pushH H k a) (min k 13 + 1) M' ∧ frS (rg t) M M') := by
  obtain ⟨h1, h2, o, h3⟩ := h
  refine kWk _ (Crem_ok h3 h1 h2) ?_
  rintro M9 ⟨⟨o', g1⟩, g2, g3⟩
  refine ⟨g2, fun M' hf hI hc => ⟨⟨hI, hc, o', g1.fr (hf _ (by omega)) (fun p p1 p2 => hf p (by omega))⟩, (g3.wk (fun p hp => ?_)).tr (hf.wk (fun p hp => ?_))⟩⟩
  · constructor <;> omega
  · constructor <;> omega
