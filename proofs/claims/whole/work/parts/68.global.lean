/-! LAYER 2: all that the class at 0 and the model at 235 hold; actions -/
def CSl (S : Nat → Row) (kp : Nat) (M : KMem) : Prop := kp < 4 ∧ ∀ s, s < 2 → M 42 s = (if kp.testBit s = true then 1 else 0) ∧ (kp.testBit s = true → Inv (S s) ∧ CR (S s) (210 + 12 * s) M)
def CT (len : Nat) (T : Nat → Nat) (M : KMem) : Prop := len ≤ 120 ∧ M 1 1 = nI len ∧ ∀ i, i < len → T i < 256 ∧ M 2 i = nI (T i)
/-- the class's side: what a, the remembered H, the saved S and the text T say -/
def CS (a : Row) (H : Nat → Row) (k : Nat) (S : Nat → Row) (kp len : Nat) (T : Nat → Nat) (M : KMem) : Prop :=
  Inv a ∧ CR a 3 M ∧ (∃ o, MR H o k M) ∧ CSl S kp M ∧ CT len T M
/-- the model's side, but for its row -/
def MS (H : Nat → Row) (k : Nat) (S : Nat → Row) (kp len : Nat) (T : Nat → Nat) (M : KMem) : Prop :=
  M 235 4 = nI k ∧ (∀ j, j < k → ∀ i, i < 108 → hst M j i = H j i) ∧ M 235 6 = nI kp ∧ (∀ s, s < 2 → kp.testBit s = true → ∀ i, i < 108 → slt M s i = S s i) ∧ M 235 8 = nI len ∧ ∀ i, i < len → M 240 i = nI (T i)
def GI (M : KMem) : Prop := ∃ H k S kp len T, CS (M 236) H k S kp len T M ∧ MS H k S kp len T M
abbrev clO : Nat → Prop := fun o => o < 235
/-- the same, and the law's long -/
abbrev clQ : Nat → Prop := fun o => o < 235 ∨ o = 244
theorem frS.q {M M' : KMem} (h : frS clO M M') : frS clQ M M' := h.wk (fun _ ho => Or.inl ho)
abbrev moO : Nat → Prop := fun o => 235 ≤ o ∧ o < 244
abbrev alO : Nat → Prop := fun o => o < 244
theorem CR.fr2 {a : Row} {u : Nat} {M M' : KMem} (h : CR a u M) (hf : ∀ o, u + 1 ≤ o → o ≤ u + 12 → M' o = M o) : CR a u M' := h.fr (S := fun o => o ≤ u ∨ u + 12 < o) (fun o ho => hf o (by omega) (by omega)) (fun o ho => ho)
theorem MR.fr {H : Nat → Row} {o k : Nat} {M M' : KMem} (h : MR H o k M) (h1 : M' 39 1 = M 39 1) (h2 : M' 39 2 = M 39 2) (hf : ∀ p, 43 ≤ p → p ≤ 210 → M' p = M p) : MR H o k M' := by
  obtain ⟨a1, a2, a3, a4, a5⟩ := h
  refine ⟨h1.trans a1, h2.trans a2, a3, a4, fun j hj => ⟨(a5 j hj).1, (a5 j hj).2.fr2 (fun p p1 p2 => hf p (by omega) (by omega))⟩⟩
theorem CSl.fr {S : Nat → Row} {kp : Nat} {M M' : KMem} (h : CSl S kp M) (h1 : M' 42 = M 42) (hf : ∀ p, 211 ≤ p → p ≤ 234 → M' p = M p) : CSl S kp M' := by
  refine ⟨h.1, fun s hs => ⟨by rw [h1]; exact (h.2 s hs).1, fun hb => ?_⟩⟩
  obtain ⟨a1, a2⟩ := (h.2 s hs).2 hb
  exact ⟨a1, a2.fr2 (fun p p1 p2 => hf p (by omega) (by omega))⟩
theorem CT.fr {len : Nat} {T : Nat → Nat} {M M' : KMem} (h : CT len T M) (h1 : M' 1 1 = M 1 1) (h2 : M' 2 = M 2) : CT len T M' := by
  obtain ⟨a1, a2, a3⟩ := h
  exact ⟨a1, h1.trans a2, fun i hi => by rw [h2]; exact a3 i hi⟩
/-- what the class may change without notice: scratch, the draft, the text's reading -/
abbrev frO : Nat → Prop := fun o => o = 1 ∨ o = 17 ∨ o = 19 ∨ o = 20 ∨ (21 ≤ o ∧ o ≤ 38) ∨ 235 ≤ o
theorem CS.fr {a : Row} {H : Nat → Row} {k : Nat} {S : Nat → Row} {kp len : Nat} {T : Nat → Nat} {M M' : KMem} (h : CS a H k S kp len T M) (hf : frS frO M M') (h1 : M' 1 1 = M 1 1) : CS a H k S kp len T M' := by
  obtain ⟨a1, a2, ⟨o, a3⟩, a4, a5⟩ := h
  have e : ∀ p, 2 ≤ p → p < 235 → p ≠ 17 → p ≠ 19 → p ≠ 20 → (p < 21 ∨ 38 < p) → M' p = M p := fun p p1 p2 p3 p4 p5 p6 => hf p (by omega)
  exact ⟨a1, a2.fr2 (fun p p1 p2 => e p (by omega) (by omega) (by omega) (by omega) (by omega) (by omega)), ⟨o, a3.fr (by rw [e 39 (by omega) (by omega) (by omega) (by omega) (by omega) (by omega)]) (by rw [e 39 (by omega) (by omega) (by omega) (by omega) (by omega) (by omega)]) (fun p p1 p2 => e p (by omega) (by omega) (by omega) (by omega) (by omega) (by omega))⟩, a4.fr (e 42 (by omega) (by omega) (by omega) (by omega) (by omega) (by omega)) (fun p p1 p2 => e p (by omega) (by omega) (by omega) (by omega) (by omega) (by omega)), a5.fr h1 (e 2 (by omega) (by omega) (by omega) (by omega) (by omega) (by omega))⟩
theorem CS.mo {a : Row} {H : Nat → Row} {k : Nat} {S : Nat → Row} {kp len : Nat} {T : Nat → Nat} {M M' : KMem} (h : CS a H k S kp len T M) (hf : frS moO M M') : CS a H k S kp len T M' :=
  h.fr (hf.wk (fun o ho => by omega)) (by rw [hf 1 (by omega)])
theorem MS.cl {H : Nat → Row} {k : Nat} {S : Nat → Row} {kp len : Nat} {T : Nat → Nat} {M M' : KMem} (h : MS H k S kp len T M) (hf : frS clQ M M') : MS H k S kp len T M' := by
  have e : ∀ p, 235 ≤ p → p < 244 → M' p = M p := fun p hp hq => hf p (by show ¬ (p < 235 ∨ p = 244); omega)
  obtain ⟨a1, a2, a3, a4, a5, a6⟩ := h
  unfold MS hst slt
  rw [e 235 (by omega) (by omega), e 238 (by omega) (by omega), e 239 (by omega) (by omega), e 240 (by omega) (by omega)]
  exact ⟨a1, a2, a3, a4, a5, a6⟩
theorem CS.le {a b : Row} {H : Nat → Row} {k : Nat} {S : Nat → Row} {kp len : Nat} {T : Nat → Nat} {M : KMem} (h : CS a H k S kp len T M) (hl : LE a b) : CS b H k S kp len T M :=
  ⟨hl.inv h.1, h.2.1.le hl, h.2.2⟩
/-- an answer, or the place of an exception -/
def rl (xs : List String) (r : String ⊕ Int32) (b t : Int32) : Prop := match r with
  | .inr v => t = 0 ∧ v = b
  | .inl E => ∃ i, xs[i]? = some E ∧ t = nI (i + 1)
/-- what the law's wrapper may leave: an answer in its long, or nothing -/
def outP (r : String ⊕ Int32) (M1 M2 : KMem) : Prop := match r with
  | .inr _ => frS (fun o => o = 244) M1 M2
  | .inl _ => M2 = M1
def Pub (M : KMem) (xs : List String) (oc : Option ((String ⊕ Int32) × KMem)) (om : KMem → Option (Int32 × KMem)) : Prop :=
  ∃ r M1, oc = some (r, M1) ∧ frS clO M M1 ∧ ∀ M3, outP r M1 M3 → ∃ b M2, om M3 = some (b, M2) ∧ frS moO M3 M2 ∧ rl xs r b (M2 235 0) ∧ GI M2
theorem holds_eq (t : Int32) (M : KMem) : m_Mo_holds 235 t M = some (if t = 0 then 1 else 0, kup M 235 0 t) := by
  unfold m_Mo_holds
  rw [bS, bI, kz_j, bS]
theorem Mholds_0 (M : KMem) : m_Mo_holds 235 0 M = some (1, kup M 235 0 0) := holds_eq 0 M
theorem Mholds_n {t : Int32} (h : t ≠ 0) (M : KMem) : m_Mo_holds 235 t M = some (0, kup M 235 0 t) := by rw [holds_eq, if_neg h]
theorem MS.k0 {H : Nat → Row} {k : Nat} {S : Nat → Row} {kp len : Nat} {T : Nat → Nat} {M : KMem} (h : MS H k S kp len T M) {j : Nat} {t : Int32} (hj : j ≠ 4 ∧ j ≠ 6 ∧ j ≠ 8) : MS H k S kp len T (kup M 235 j t) := by
  obtain ⟨a1, a2, a3, a4, a5, a6⟩ := h
  unfold MS hst slt
  rw [kup_j _ _ _ (by omega), kup_j _ _ _ (by omega), kup_j _ _ _ (by omega), kup_n _ _ _ (by omega), kup_n _ _ _ (by omega), kup_n _ _ _ (by omega)]
  exact ⟨a1, a2, a3, a4, a5, a6⟩
/-- a refusal by an exception, nothing else -/
theorem pub_no {M : KMem} {xs : List String} {oc : Option ((String ⊕ Int32) × KMem)} {om : KMem → Option (Int32 × KMem)} (h : GI M) (E : String) (i : Nat) (hi : xs[i]? = some E) (hoc : oc = some (.inl E, M)) (hom : om M = some (0, kup M 235 0 (nI (i + 1)))) : Pub M xs oc om := by
  obtain ⟨H, k, S, kp, len, T, h1, h2⟩ := h
  refine ⟨_, _, hoc, frS.rf, fun M3 h3 => ?_⟩
  have h3 : M3 = M := h3
  subst h3
  refine ⟨_, _, hom, frS.up ⟨by omega, by omega⟩, ⟨i, hi, kup_s _ _ _ _⟩, H, k, S, kp, len, T, ?_, h2.k0 ⟨by omega, by omega, by omega⟩⟩
  rw [kup_n _ _ _ (by omega)]
  exact h1.mo (frS.up ⟨by omega, by omega⟩)
/-- an answer that the model gives with its row as a' -/
theorem pub_yes {M M1 : KMem} {xs : List String} {oc : Option ((String ⊕ Int32) × KMem)} {om : KMem → Option (Int32 × KMem)} {a' : Row} {H : Nat → Row} {k : Nat} {S : Nat → Row} {kp len : Nat} {T : Nat → Nat} {v : Int32}
    (hoc : oc = some (.inr v, M1)) (hf : frS clO M M1) (hc : CS a' H k S kp len T M1) (hom : ∀ M1, frS clQ M M1 → kOk (om M1) (fun q => q.1 = v ∧ q.2 235 0 = 0 ∧ LE a' (q.2 236) ∧ frS moO M1 q.2 ∧ MS H k S kp len T q.2)) : Pub M xs oc om := by
  refine ⟨_, _, hoc, hf, fun M3 h3 => ?_⟩
  have h3 : frS (fun o => o = 244) M1 M3 := h3
  obtain ⟨⟨b, M2⟩, e, h1, h2, h4, h5, h6⟩ := hom M3 (hf.q.tr (h3.wk (fun o ho => Or.inr ho)))
  exact ⟨b, M2, e, h5, ⟨h2, h1.symm⟩, H, k, S, kp, len, T, ((hc.fr (h3.wk (fun o ho => by omega)) (congrFun (h3 1 (by omega)) 1)).mo h5).le h4, h6⟩
theorem pushH_congr {H H' : Nat → Row} {k : Nat} {a : Row} (hk : k ≤ 14) (h : ∀ j, j < k → ∀ i, i < 108 → H j i = H' j i) : ∀ j, j < min k 13 + 1 → ∀ i, i < 108 → pushH H k a j i = pushH H' k a j i := by
  intro j hj i hi
  unfold pushH
  by_cases hk14 : k < 14
  · rw [if_pos hk14, if_pos hk14]
    by_cases hjk : j = k
    · rw [if_pos hjk, if_pos hjk]
    · rw [if_neg hjk, if_neg hjk]; exact h j (by omega) i hi
  · rw [if_neg hk14, if_neg hk14]
    by_cases hj13 : j < 13
    · rw [if_pos hj13, if_pos hj13]; exact h (j + 1) (by omega) i hi
    · rw [if_neg hj13, if_neg hj13]
def rcs (c : Int32) : Prop := c = 115 ∨ c = 100 ∨ c = 106 ∨ c = 111 ∨ c = 114
theorem hasReasons_ok {M : KMem} {c : Int32} (h : M 235 11 = c) : m_Mo_hasReasons 235 M = some (bz (rcs c)) := by
  unfold m_Mo_hasReasons rcs
  rw [h]
  by_cases h1 : c = 115
  · rw [if_pos h1, bz_t (Or.inl h1)]; rfl
  · rw [if_neg h1]
    by_cases h2 : c = 100
    · rw [if_pos h2, bz_t (Or.inr (Or.inl h2))]; rfl
    · rw [if_neg h2]
      by_cases h3 : c = 106
      · rw [if_pos h3, bz_t (Or.inr (Or.inr (Or.inl h3)))]; rfl
      · rw [if_neg h3]
        by_cases h4 : c = 111
        · rw [if_pos h4, bz_t (Or.inr (Or.inr (Or.inr (Or.inl h4))))]; rfl
        · rw [if_neg h4]
          by_cases h5 : c = 114
          · rw [if_pos h5, bz_t (Or.inr (Or.inr (Or.inr (Or.inr h5))))]; rfl
          · rw [if_neg h5, bz_f (fun z => by rcases z with z | z | z | z | z <;> exact absurd z (by assumption))]; rfl
/-- what a command adds to the refusals -/
noncomputable def cnt (c r : Int32) : Int32 := bz (rcs c ∧ ¬ r ≤ 0)
theorem Macts {k : Nat} {c p1 p2 p3 r : Int32} {row : Row} {M : KMem} {H : Nat → Row} {S : Nat → Row} {kp len : Nat} {T : Nat → Nat} (hk : k ≤ 14) (hm : MS H k S kp len T M)
    (hd : ∀ M', M' 236 = M 236 → M' 235 11 = c → M' 235 12 = p1 → M' 235 13 = p2 → M' 235 14 = p3 → kOk (m_Mo_does 235 M') (dsP 235 M' r row)) :
    kOk (m_Mo_acts 235 c p1 p2 p3 M) (fun q => q.1 = r ∧ q.2 235 0 = M 235 0 ∧ q.2 236 = upd row 97 (row 97 + cnt c r) ∧ frS moO M q.2 ∧ MS (pushH H k (M 236)) (min k 13 + 1) S kp len T q.2) := by
  obtain ⟨a1, a2, a3, a4, a5, a6⟩ := hm
  unfold m_Mo_acts
  refine kB _ (Mrem_ok hk a1) ?_
  rintro M2 ⟨g1, g2, g3, g4⟩
  rw [bS, bS, bS, bS]
  generalize hM : kup (kup (kup (kup M2 235 11 c) 235 12 p1) 235 13 p2) 235 14 p3 = M10
  have hf : frS (fun o => o = 235 ∨ o = 238) M M10 := by
    rw [← hM]
    exact frS.k (frS.k (frS.k (frS.k g4 (Or.inl rfl)) (Or.inl rfl)) (Or.inl rfl)) (Or.inl rfl)
  have hj : ∀ j, j < 11 → M10 235 j = M2 235 j := fun j hj => by rw [← hM, kup_j _ _ _ (by omega), kup_j _ _ _ (by omega), kup_j _ _ _ (by omega), kup_j _ _ _ (by omega)]
  have h8 : M10 238 = M2 238 := by rw [← hM, kup_n _ _ _ (by omega), kup_n _ _ _ (by omega), kup_n _ _ _ (by omega), kup_n _ _ _ (by omega)]
  have c11 : M10 235 11 = c := by rw [← hM, kup_j _ _ _ (by omega), kup_j _ _ _ (by omega), kup_j _ _ _ (by omega), kup_s]
  refine kB _ (hd M10 (hf 236 (by omega)) c11 (by rw [← hM, kup_j _ _ _ (by omega), kup_j _ _ _ (by omega), kup_s]) (by rw [← hM, kup_j _ _ _ (by omega), kup_s]) (by rw [← hM, kup_s])) ?_
  rintro ⟨x, M13⟩ ⟨q1, q2, q3⟩
  simp only at q1 q2 q3
  subst q1
  have e5 : M13 235 = M10 235 := q3 235 (by omega)
  show kOk ((rdI M13 236 108 97).bind _) _
  rw [r97, bS, hasReasons_ok (c := c) (by rw [e5]; exact c11), bS]
  have et : ∀ (P : Int32 → Option (Int32 × KMem)), Option.bind (if bz (rcs c) = 0 then some 0 else if x ≤ 0 then some 0 else some 1) P = P (cnt c x) := fun P => by
    unfold cnt
    by_cases h1 : rcs c
    · rw [bz_t h1, if_neg (by decide)]
      by_cases h2 : x ≤ 0
      · rw [if_pos h2, bS, bz_f (fun z => z.2 h2)]
      · rw [if_neg h2, bS, bz_t ⟨h1, h2⟩]
    · rw [bz_f h1, if_pos rfl, bS, bz_f (fun z => h1 z.1)]
  rw [et, w97, bS]
  have F : frS moO M M13 := (hf.wk (fun o ho => by omega)).tr (q3.wk (fun o ho => by omega))
  have q2' : M13 236 = row := q2
  refine kOk_i ?_
  show x = x ∧ kup M13 236 97 (M13 236 97 + cnt c x) 235 0 = M 235 0 ∧ kup M13 236 97 (M13 236 97 + cnt c x) 236 = upd row 97 (row 97 + cnt c x) ∧ frS moO M (kup M13 236 97 (M13 236 97 + cnt c x)) ∧ MS (pushH H k (M 236)) (min k 13 + 1) S kp len T (kup M13 236 97 (M13 236 97 + cnt c x))
  refine ⟨rfl, ?_, ?_, frS.k F ⟨by omega, by omega⟩, ?_, fun j hj2 i hi => ?_, ?_, fun s hs hb i hi => ?_, ?_, fun i hi => ?_⟩
  · rw [kup_n _ _ _ (by omega), e5, hj 0 (by omega), g2 0 (by omega)]
  · rw [kup_fn, q2']
  · rw [kup_n _ _ _ (by omega), e5, hj 4 (by omega), g1]
  · unfold hst
    rw [kup_n _ _ _ (by omega), q3 238 (by omega), h8]
    exact (g3 j hj2 i hi).trans (pushH_congr hk a2 j hj2 i hi)
  · rw [kup_n _ _ _ (by omega), e5, hj 6 (by omega), g2 6 (by omega)]; exact a3
  · unfold slt
    rw [kup_n _ _ _ (by omega), q3 239 (by omega), hf 239 (by omega)]
    exact a4 s hs hb i hi
  · rw [kup_n _ _ _ (by omega), e5, hj 8 (by omega), g2 8 (by omega)]; exact a5
  · rw [kup_n _ _ _ (by omega), q3 240 (by omega), hf 240 (by omega)]
    exact a6 i hi
/-- the class remembers, and then acts in its town -/
theorem Cacts {a a' : Row} {H : Nat → Row} {k : Nat} {S : Nat → Row} {kp len : Nat} {T : Nat → Nat} {M : KMem} (h : CS a H k S kp len T M) :
    kOk (m_Me_remember 39 4 M) (fun M9 => CR a 3 M9 ∧ frS clO M M9 ∧ ∀ M', frS (twn 3) M9 M' → Inv a' → CR a' 3 M' → CS a' (pushH H k a) (min k 13 + 1) S kp len T M' ∧ frS clO M M') := by
  obtain ⟨h1, h2, ⟨o, h3⟩, h4, h5⟩ := h
  refine kWk _ (Crem_ok h3 h1 h2) ?_
  rintro M9 ⟨⟨o', g1⟩, g2, g3⟩
  have f9 : frS clO M M9 := g3.wk (fun p hp => by omega)
  refine ⟨g2, f9, fun M' hf hI hc => ⟨⟨hI, hc, ⟨o', g1.fr (by rw [hf 39 (by omega)]) (by rw [hf 39 (by omega)]) (fun p p1 p2 => hf p (by omega))⟩, h4.fr (by rw [hf 42 (by omega), g3 42 (by omega)]) (fun p p1 p2 => by rw [hf p (by omega), g3 p (by omega)]), h5.fr (by rw [hf 1 (by omega), g3 1 (by omega)]) (by rw [hf 2 (by omega), g3 2 (by omega)])⟩, f9.tr (hf.wk (fun p hp => by omega))⟩⟩
