/-! LAYER 2: what may be done, on both sides; what the model does -/
theorem lt_nI {x : Int32} {n : Nat} (h : ¬ nI n ≤ x) : x < nI n := Int32.not_le.mp h
theorem args_c (k a b c : Int32) : (m_De_canBe k a b c = some 1 ∧ m_Mo_areArguments k a b c = some 1 ∧ okD k a b c) ∨ (m_De_canBe k a b c = some 0 ∧ m_Mo_areArguments k a b c = some 0) := by
  have L : ∀ x : Int32, (∃ j, 1 ≤ j ∧ j ≤ 6 ∧ x = nI j ∧ m_Wo_isLetter x = some 1 ∧ m_Mo_isLetter x = some 1) ∨ (m_Wo_isLetter x = some 0 ∧ m_Mo_isLetter x = some 0) := fun x => by
    rw [WisLetter_eq]
    unfold m_Mo_isLetter
    rcases in_c x (lo := 1) (hi := 6) (by omega) (by omega) with ⟨j, h1, h2, h3, h4⟩ | ⟨h1, h2⟩
    · rw [show m_Mo_in x 1 6 = some 1 from h4]
      exact Or.inl ⟨j, h1, h2, h3, rfl, rfl⟩
    · rw [show m_Mo_in x 1 6 = some 0 from h2]
      exact Or.inr ⟨rfl, rfl⟩
  have u1 : ¬ (1 : Int32) = 0 := by decide
  unfold m_De_canBe m_Mo_areArguments
  rcases in_c k (lo := 0) (hi := 2) (by omega) (by omega) with ⟨j, h1, h2, h3, h4⟩ | ⟨h1, h2⟩
  · have k1 : ¬ k < 0 := by rw [h3]; exact nI_pos (by omega)
    have k2 : ¬ 2 < k := by rw [h3, show (2 : Int32) = nI 2 from rfl, nI_ltI (by omega) (by omega)]; omega
    have k3 : m_Mo_in k 0 2 = some 1 := h4
    rw [if_neg k1, if_neg k2, k3]
    have kk : (k = 1) ↔ j = 1 := by rw [h3]; exact nI_eq (b := 1) (by omega) (by omega)
    rcases L a with ⟨ja, a1, a2, a3, a4, a5⟩ | ⟨a4, a5⟩
    · rw [a4, a5, bS, if_neg u1]
      by_cases hk : k = 1
      · rw [if_pos hk, if_pos hk]
        rcases L b with ⟨jb, b1, b2, b3, b4, b5⟩ | ⟨b4, b5⟩
        · rw [b4, b5, bS, bS, if_neg u1, if_neg u1]
          rcases L c with ⟨jc, c1, c2, c3, c4, c5⟩ | ⟨c4, c5⟩
          · rw [c4, c5]
            exact Or.inl ⟨rfl, rfl, j, ja, jb, jc, ⟨h2, ⟨a1, a2⟩, b2, c2, fun _ => ⟨b1, c1⟩⟩, h3, a3, b3, c3⟩
          · rw [c4, c5]; exact Or.inr ⟨rfl, rfl⟩
        · rw [b4, b5]; exact Or.inr ⟨rfl, rfl⟩
      · rw [if_neg hk, if_neg hk]
        by_cases hb : b = 0
        · rw [if_pos hb]
          by_cases hc : c = 0
          · rw [if_pos hc]
            exact Or.inl ⟨rfl, rfl, j, ja, 0, 0, ⟨h2, ⟨a1, a2⟩, by omega, by omega, fun e => (hk (kk.mpr e)).elim⟩, h3, a3, hb, hc⟩
          · rw [if_neg hc]; exact Or.inr ⟨rfl, rfl⟩
        · rw [if_neg hb]; exact Or.inr ⟨rfl, rfl⟩
    · rw [a4, a5]
      refine Or.inr ⟨rfl, ?_⟩
      split
      · rcases L b with ⟨jb, b1, b2, b3, b4, b5⟩ | ⟨b4, b5⟩
        · rw [b5, bS, if_neg u1]
          rcases L c with ⟨jc, c1, c2, c3, c4, c5⟩ | ⟨c4, c5⟩ <;> rw [c5] <;> rfl
        · rw [b5]; rfl
      · split
        · split <;> rfl
        · rfl
  · have k3 : m_Mo_in k 0 2 = some 0 := h2
    rw [k3]
    refine Or.inr ⟨?_, ?_⟩
    · by_cases k1 : k < 0
      · rw [if_pos k1]; rfl
      · rw [if_neg k1, if_pos (show (2 : Int32) < k from h1.elim (fun e => (k1 e).elim) id)]; rfl
    · split
      · rcases L b with ⟨jb, b1, b2, b3, b4, b5⟩ | ⟨b4, b5⟩
        · rw [b5, bS, if_neg u1]
          rcases L c with ⟨jc, c1, c2, c3, c4, c5⟩ | ⟨c4, c5⟩ <;> rw [c5] <;> rfl
        · rw [b5]; rfl
      · split
        · split <;> rfl
        · rfl
theorem errSign_c {v : Nat} {M : KMem} (hI : InvB (M (v + 1))) (p0 p1 : Int32) :
    (∃ g, g < 4 ∧ p0 = nI g ∧ vW p1 ∧ p1 ≠ 0 ∧ m_Wo_isWord p1 = some 1 ∧ sN (M (v + 1)) < 8 ∧ m_Mo_errorOfSign v p0 p1 M = some 0) ∨ ((p0 < 0 ∨ nI 3 < p0) ∧ m_Mo_errorOfSign v p0 p1 M = some 1) ∨ (∃ g, g < 4 ∧ p0 = nI g ∧ m_Wo_isWord p1 = some 0 ∧ m_Mo_errorOfSign v p0 p1 M = some 2) ∨ (∃ g, g < 4 ∧ p0 = nI g ∧ vW p1 ∧ p1 ≠ 0 ∧ m_Wo_isWord p1 = some 1 ∧ sN (M (v + 1)) = 8 ∧ m_Mo_errorOfSign v p0 p1 M = some 3) := by
  have u1 : ¬ (1 : Int32) = 0 := by decide
  unfold m_Mo_errorOfSign
  rcases in_c p0 (lo := 0) (hi := 3) (by omega) (by omega) with ⟨j, h1, h2, h3, h4⟩ | ⟨h1, h2⟩
  · rw [show m_Mo_in p0 0 3 = some 1 from h4, bS, if_neg u1]
    rcases isWord_c p1 with ⟨w1, w2, w3, w4⟩ | ⟨w1, w2⟩
    · rw [w2, bS, if_neg u1, r0, bS, hI.1.2]
      by_cases h8 : sN (M (v + 1)) = 8
      · rw [if_pos (by rw [h8]; rfl)]
        exact Or.inr (Or.inr (Or.inr ⟨j, by omega, h3, w3, w4, w1, h8, rfl⟩))
      · rw [if_neg (by
          have := hI.1.1
          rw [show (8 : Int32) = nI 8 from rfl, nI_eq (by omega) (by omega)]
          exact h8)]
        exact Or.inl ⟨j, by omega, h3, w3, w4, w1, by have := hI.1.1; omega, rfl⟩
    · rw [w2]
      exact Or.inr (Or.inr (Or.inl ⟨j, by omega, h3, w1, rfl⟩))
  · rw [show m_Mo_in p0 0 3 = some 0 from h2]
    exact Or.inr (Or.inl ⟨h1, rfl⟩)
theorem errDecree_c {v : Nat} {M : KMem} (hI : InvB (M (v + 1))) (k a b c : Int32) :
    (m_De_canBe k a b c = some 1 ∧ okD k a b c ∧ dN (M (v + 1)) < 10 ∧ m_Mo_errorOfDecree v k a b c M = some 0) ∨ (m_De_canBe k a b c = some 0 ∧ m_Mo_errorOfDecree v k a b c M = some 1) ∨ (m_De_canBe k a b c = some 1 ∧ okD k a b c ∧ dN (M (v + 1)) = 10 ∧ m_Mo_errorOfDecree v k a b c M = some 2) := by
  have u1 : ¬ (1 : Int32) = 0 := by decide
  have hd := hI.2.1
  unfold m_Mo_errorOfDecree
  rcases args_c k a b c with ⟨h1, h2, h3⟩ | ⟨h1, h2⟩
  · rw [h2, bS, if_neg u1, r41, bS, hd.2]
    by_cases h10 : dN (M (v + 1)) = 10
    · rw [if_pos (by rw [h10]; rfl)]
      exact Or.inr (Or.inr ⟨h1, h3, h10, rfl⟩)
    · rw [if_neg (by
        rw [show (10 : Int32) = nI 10 from rfl, nI_eq (by omega) (by omega)]
        exact h10)]
      exact Or.inl ⟨h1, h3, by omega, rfl⟩
  · rw [h2]
    exact Or.inr (Or.inl ⟨h1, rfl⟩)
/-- an amnesty can be given -/
def cfA (a : Row) : Prop := a 93 ≤ 0 ∧ (a 94 = -1 ∨ 12 ≤ a 92 - a 94)
theorem errAmn_c {v : Nat} {M : KMem} (p : Int32) :
    (∃ n, 1 ≤ n ∧ n ≤ 9 ∧ p = nI n ∧ cfA (M (v + 1)) ∧ m_Mo_errorOfAmnesty v p M = some 0) ∨ ((p < nI 1 ∨ nI 9 < p) ∧ m_Mo_errorOfAmnesty v p M = some 1) ∨ (∃ n, 1 ≤ n ∧ n ≤ 9 ∧ p = nI n ∧ ¬ cfA (M (v + 1)) ∧ m_Mo_errorOfAmnesty v p M = some 2) := by
  have u1 : ¬ (1 : Int32) = 0 := by decide
  unfold m_Mo_errorOfAmnesty
  rw [r93, bS]
  have et : ∀ (P : Int32 → Option Int32), ∃ t : Int32, (t = 0 ∧ cfA (M (v + 1)) ∨ t = 1 ∧ ¬ cfA (M (v + 1))) ∧ Option.bind (if 0 < M (v + 1) 93 then some 1 else (rdI M (v + 1) 108 94).bind fun x13 => if x13 = -1 then some 0 else (rdI M (v + 1) 108 92).bind fun x16 => (rdI M (v + 1) 108 94).bind fun x18 => if 12 ≤ x16 - x18 then some 0 else some 1) P = P t := fun P => by
    rw [r94, bS, r92, bS, bS]
    by_cases c1 : 0 < M (v + 1) 93
    · rw [if_pos c1]
      exact ⟨1, Or.inr ⟨rfl, fun h => (Int32.not_le.mpr c1) h.1⟩, rfl⟩
    · rw [if_neg c1]
      have c1' := Int32.not_lt.mp c1
      by_cases c2 : M (v + 1) 94 = -1
      · rw [if_pos c2]
        exact ⟨0, Or.inl ⟨rfl, c1', Or.inl c2⟩, rfl⟩
      · rw [if_neg c2]
        by_cases c3 : 12 ≤ M (v + 1) 92 - M (v + 1) 94
        · rw [if_pos c3]
          exact ⟨0, Or.inl ⟨rfl, c1', Or.inr c3⟩, rfl⟩
        · rw [if_neg c3]
          exact ⟨1, Or.inr ⟨rfl, fun h => h.2.elim c2 c3⟩, rfl⟩
  obtain ⟨t, ht, e⟩ := et _
  rw [e]
  rcases in_c p (lo := 1) (hi := 9) (by omega) (by omega) with ⟨j, h1, h2, h3, h4⟩ | ⟨h1, h2⟩
  · rw [show m_Mo_in p 1 9 = some 1 from h4, bS, if_neg u1]
    rcases ht with ⟨rfl, hc⟩ | ⟨rfl, hc⟩
    · exact Or.inl ⟨j, h1, h2, h3, hc, rfl⟩
    · exact Or.inr (Or.inr ⟨j, h1, h2, h3, hc, rfl⟩)
  · rw [show m_Mo_in p 1 9 = some 0 from h2]
    exact Or.inr (Or.inl ⟨h1, rfl⟩)
section Does
variable {v : Nat} {M : KMem}
abbrev dsP (v : Nat) (M : KMem) (r : Int32) (b : Row) : Int32 × KMem → Prop := fun q => q.1 = r ∧ q.2 (v + 1) = b ∧ frS (fun o => o = v + 1 ∨ o = v + 6 ∨ o = v + 7) M q.2
theorem does_s (h : M v 11 = 115) : m_Mo_does v M = Option.bind (m_Mo_errorOfSign v (M v 12) (M v 13) M) fun x69 => Option.bind (α := Int32 × KMem) (if x69 = 0 then (Option.bind (m_Mo_comes v (M v 12) (M v 13) M) fun (x75, M76) => some (x75, M76)) else (some ((-9), M))) fun (t70, M71) => some (t70, M71) := by
  unfold m_Mo_does
  rw [if_neg (by rw [h]; decide), if_neg (by rw [h]; decide), if_neg (by rw [h]; decide), if_neg (by rw [h]; decide), if_neg (by rw [h]; decide), if_neg (by rw [h]; decide), if_pos h]
theorem does_d (h : M v 11 = 100) : m_Mo_does v M = Option.bind (m_Mo_errorOfDecree v 0 (M v 12) 0 0 M) fun x9 => Option.bind (α := Int32 × KMem) (if x9 = 0 then (Option.bind (m_Mo_gives v 0 (M v 12) 0 0 M) fun (x15, M16) => some (x15, M16)) else (some ((-9), M))) fun (t10, M11) => some (t10, M11) := by
  unfold m_Mo_does
  rw [if_pos h]
theorem does_j (h : M v 11 = 106) : m_Mo_does v M = Option.bind (m_Mo_errorOfDecree v 1 (M v 12) (M v 13) (M v 14) M) fun x9 => Option.bind (α := Int32 × KMem) (if x9 = 0 then (Option.bind (m_Mo_gives v 1 (M v 12) (M v 13) (M v 14) M) fun (x15, M16) => some (x15, M16)) else (some ((-9), M))) fun (t10, M11) => some (t10, M11) := by
  unfold m_Mo_does
  rw [if_neg (by rw [h]; decide), if_pos h]
theorem does_m (h : M v 11 = 109) : m_Mo_does v M = Option.bind (m_Mo_in (M v 12) 1 60) fun x9 => Option.bind (α := Int32 × KMem) (if x9 = 0 then (some ((-9), M)) else (Option.bind (m_Mo_goesOn v (M v 12) M) fun (x15, M16) => some (x15, M16))) fun (t10, M11) => some (t10, M11) := by
  unfold m_Mo_does
  rw [if_neg (by rw [h]; decide), if_neg (by rw [h]; decide), if_pos h]
theorem does_o (h : M v 11 = 111) : m_Mo_does v M = Option.bind (m_Mo_errorOfDecree v 2 (M v 12) 0 0 M) fun x9 => Option.bind (α := Int32 × KMem) (if x9 = 0 then (Option.bind (m_Mo_gives v 2 (M v 12) 0 0 M) fun (x15, M16) => some (x15, M16)) else (some ((-9), M))) fun (t10, M11) => some (t10, M11) := by
  unfold m_Mo_does
  rw [if_neg (by rw [h]; decide), if_neg (by rw [h]; decide), if_neg (by rw [h]; decide), if_pos h]
theorem does_p (h : M v 11 = 112) : m_Mo_does v M = Option.bind (m_Mo_isSign v (M v 12) M) fun x9 => Option.bind (α := Int32 × KMem) (if x9 = 0 then (some ((-9), M)) else (Option.bind (m_Mo_paints v (M v 12) M) fun (x15, M16) => some (x15, M16))) fun (t10, M11) => some (t10, M11) := by
  unfold m_Mo_does
  rw [if_neg (by rw [h]; decide), if_neg (by rw [h]; decide), if_neg (by rw [h]; decide), if_neg (by rw [h]; decide), if_pos h]
theorem does_r (h : M v 11 = 114) : m_Mo_does v M = Option.bind (m_Mo_isDecree v (M v 12) M) fun x9 => Option.bind (α := Int32 × KMem) (if x9 = 0 then (some ((-9), M)) else (Option.bind (m_Mo_revokes v (M v 12) M) fun (x15, M16) => some (x15, M16))) fun (t10, M11) => some (t10, M11) := by
  unfold m_Mo_does
  rw [if_neg (by rw [h]; decide), if_neg (by rw [h]; decide), if_neg (by rw [h]; decide), if_neg (by rw [h]; decide), if_neg (by rw [h]; decide), if_pos h]
theorem does_y (h : M v 11 = 121) : m_Mo_does v M = Option.bind (m_Mo_errorOfAmnesty v (M v 12) M) fun x9 => Option.bind (α := Int32 × KMem) (if x9 = 0 then (Option.bind (m_Mo_spares v (M v 12) M) fun (x15, M16) => some (x15, M16)) else (some ((-9), M))) fun (t10, M11) => some (t10, M11) := by
  unfold m_Mo_does
  rw [if_neg (by rw [h]; decide), if_neg (by rw [h]; decide), if_neg (by rw [h]; decide), if_neg (by rw [h]; decide), if_neg (by rw [h]; decide), if_neg (by rw [h]; decide), if_neg (by rw [h]; decide)]
theorem kPair {P : Int32 × KMem → Prop} {o : Option (Int32 × KMem)} (h : kOk o P) : kOk (Option.bind (Option.bind o fun (x, M1) => some (x, M1)) fun (t, M2) => some (t, M2)) P := by
  obtain ⟨⟨x, M1⟩, rfl, hp⟩ := h
  exact ⟨_, rfl, hp⟩
theorem does_no {e : Int32} {F : Option (Int32 × KMem)} {o : Option Int32} (ho : o = some e) (he : e ≠ 0) : (Option.bind o fun x69 => Option.bind (α := Int32 × KMem) (if x69 = 0 then F else (some ((-9), M))) fun (t70, M71) => some (t70, M71)) = some (-9, M) := by
  rw [ho, bS, if_neg he]
  rfl
theorem does_no0 {F : Option (Int32 × KMem)} {o : Option Int32} (ho : o = some 0) : (Option.bind o fun x69 => Option.bind (α := Int32 × KMem) (if x69 = 0 then (some ((-9), M)) else F) fun (t70, M71) => some (t70, M71)) = some (-9, M) := by
  rw [ho, bS, if_pos rfl]
  rfl
theorem Mdoes_s {g : Nat} {w : Int32} (hI : InvB (M (v + 1))) (h : M v 11 = 115) (h0 : M v 12 = nI g) (h1 : M v 13 = w) (hg : g < 4) (hw : m_Wo_isWord w = some 1) (hn : sN (M (v + 1)) < 8) : kOk (m_Mo_does v M) (dsP v M (hind (comesB (M (v + 1)) (nI g) w)) (comesA (M (v + 1)) (nI g) w)) := by
  rw [does_s h, h0, h1]
  rcases errSign_c hI (nI g) w with ⟨g', e1, e2, e3, e4, e5, e6, e7⟩ | ⟨e1, e2⟩ | ⟨g', e1, e2, e3, e4⟩ | ⟨g', e1, e2, e3, e4, e5, e6, e7⟩
  · rw [e7, bS, if_pos rfl]
    refine kPair (kWk _ (Mcomes hI hn hg e3) (fun q hq => ⟨hq.1, hq.2.1, hq.2.2.wk (fun o ho => Or.inl ho)⟩))
  · exfalso
    rcases e1 with e | e
    · exact nI_pos (by omega) e
    · rw [nI_ltI (by omega) (by omega)] at e; omega
  · rw [hw] at e3; cases e3
  · omega
theorem Mdoes_g {k a b c : Int32} {o : Option (Int32 × KMem)} (hI : InvB (M (v + 1))) (h : o = Option.bind (m_Mo_errorOfDecree v k a b c M) fun x9 => Option.bind (α := Int32 × KMem) (if x9 = 0 then (Option.bind (m_Mo_gives v k a b c M) fun (x15, M16) => some (x15, M16)) else (some ((-9), M))) fun (t10, M11) => some (t10, M11)) (hd : m_De_canBe k a b c = some 1) (hn : dN (M (v + 1)) < 10) : kOk o (dsP v M (hind (givesB (M (v + 1)) k a b c)) (givesA (M (v + 1)) k a b c)) := by
  rw [h]
  rcases errDecree_c hI k a b c with ⟨e1, e2, e3, e4⟩ | ⟨e1, e2⟩ | ⟨e1, e2, e3, e4⟩
  · rw [e4, bS, if_pos rfl]
    refine kPair (kWk _ (Mgives hI hn e2) (fun q hq => ⟨hq.1, hq.2.1, hq.2.2.wk (fun o ho => Or.inl ho)⟩))
  · rw [hd] at e1; cases e1
  · omega
theorem Mdoes_m {n : Nat} (hI : Inv (M (v + 1))) (h : M v 11 = 109) (h0 : M v 12 = nI n) (h1 : 1 ≤ n) (h2 : n ≤ 60) : kOk (m_Mo_does v M) (dsP v M (monsA (M (v + 1)) n 95 - M (v + 1) 95) (monsA (M (v + 1)) n)) := by
  rw [does_m h, h0, show m_Mo_in (nI n) 1 60 = _ from in_n (lo := 1) (hi := 60) (by omega) (by omega) (by omega), if_pos ⟨h1, h2⟩, bS, if_neg (by decide)]
  exact kPair (kWk _ (MgoesOn hI (by omega)) (fun q hq => ⟨hq.1, hq.2.1, hq.2.2.wk (fun o ho => Or.inl ho)⟩))
theorem Mdoes_p {s : Nat} (hI : InvB (M (v + 1))) (h : M v 11 = 112) (h0 : M v 12 = nI s) (hs : s < sN (M (v + 1))) : kOk (m_Mo_does v M) (dsP v M (coA (M (v + 1)) s) (paintsA (M (v + 1)) s)) := by
  have h8 := hI.1.1
  rw [does_p h, h0]
  rcases isSign_c (v := v) (M := M) (nI s) hI.1.2 (by omega) with ⟨s', e1, e2, e3⟩ | ⟨e1, e2⟩
  · rw [e3, bS, if_neg (by decide)]
    exact kPair (kWk _ (Mpaints hI hs) (fun q hq => ⟨hq.1, hq.2.1, hq.2.2.wk (fun o ho => ho.elim Or.inl (fun z => Or.inr (Or.inl z)))⟩))
  · exfalso
    rcases e1 with e | e
    · exact nI_pos (by omega) e
    · rw [nI_leI (by omega) (by omega)] at e; omega
theorem Mdoes_r {s : Nat} (hI : InvB (M (v + 1))) (h : M v 11 = 114) (h0 : M v 12 = nI s) (hs : s < dN (M (v + 1))) : kOk (m_Mo_does v M) (dsP v M (hind (revB (M (v + 1)) s)) (revA (M (v + 1)) s)) := by
  have h8 := hI.2.1.1
  rw [does_r h, h0]
  rcases isDecree_c (v := v) (M := M) (nI s) hI.2.1.2 (by omega) with ⟨s', e1, e2, e3⟩ | ⟨e1, e2⟩
  · rw [e3, bS, if_neg (by decide)]
    exact kPair (kWk _ (Mrevokes hI hs) (fun q hq => ⟨hq.1, hq.2.1, hq.2.2.wk (fun o ho => ho.elim Or.inl (fun z => Or.inr (Or.inr z)))⟩))
  · exfalso
    rcases e1 with e | e
    · exact nI_pos (by omega) e
    · rw [nI_leI (by omega) (by omega)] at e; omega
theorem Mdoes_y {n : Nat} (hI : Inv (M (v + 1))) (h : M v 11 = 121) (h0 : M v 12 = nI n) (h1 : 1 ≤ n) (h2 : n ≤ 9) (hc : cfA (M (v + 1))) : kOk (m_Mo_does v M) (dsP v M (wrC (sparesA (M (v + 1)) (nI n)) (sN (sparesA (M (v + 1)) (nI n)))) (sparesA (M (v + 1)) (nI n))) := by
  rw [does_y h, h0]
  rcases errAmn_c (v := v) (M := M) (nI n) with ⟨n', e1, e2, e3, e4, e5⟩ | ⟨e1, e2⟩ | ⟨n', e1, e2, e3, e4, e5⟩
  · rw [e5, bS, if_pos rfl]
    exact kPair (kWk _ (Mspares hI h2) (fun q hq => ⟨hq.1, hq.2.1, hq.2.2.wk (fun o ho => Or.inl ho)⟩))
  · exfalso
    rcases e1 with e | e
    · rw [nI_ltI (by omega) (by omega)] at e; omega
    · rw [nI_ltI (by omega) (by omega)] at e; omega
  · exact (e4 hc).elim
end Does
