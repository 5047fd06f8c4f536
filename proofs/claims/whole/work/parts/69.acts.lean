/-! LAYER 2: the actions, class and model alike -/
abbrev eA : String := "java/lang/IllegalArgumentException"
abbrev eS : String := "java/lang/IllegalStateException"
abbrev eI : String := "java/lang/IndexOutOfBoundsException"
theorem u10 : ¬ (1 : Int32) = 0 := by decide
theorem cnt_h {c : Int32} {b : Row} (h : rcs c) : cnt c (hind b) = if hind b = 0 then 0 else 1 := by
  unfold cnt
  by_cases hz : hind b = 0
  · rw [if_pos hz, bz_f (fun z => z.2 ((hind_le b).mpr hz))]
  · rw [if_neg hz, bz_t ⟨h, fun z => hz ((hind_le b).mp z)⟩]
theorem cnt_n {c r : Int32} (h : ¬ rcs c) : cnt c r = 0 := bz_f (fun z => h z.1)
theorem errSign_eq {M M' : KMem} (h : M' (235 + 1) = M (235 + 1)) (p0 p1 : Int32) : m_Mo_errorOfSign 235 p0 p1 M' = m_Mo_errorOfSign 235 p0 p1 M := by
  unfold m_Mo_errorOfSign
  simp only [r0, h]
theorem errDecree_eq {M M' : KMem} (h : M' (235 + 1) = M (235 + 1)) (k a b c : Int32) : m_Mo_errorOfDecree 235 k a b c M' = m_Mo_errorOfDecree 235 k a b c M := by
  unfold m_Mo_errorOfDecree
  simp only [r41, h]
theorem errAmn_eq {M M' : KMem} (h : M' (235 + 1) = M (235 + 1)) (p : Int32) : m_Mo_errorOfAmnesty 235 p M' = m_Mo_errorOfAmnesty 235 p M := by
  unfold m_Mo_errorOfAmnesty
  simp only [r92, r93, r94, h]
theorem isSign_eq {M M' : KMem} (h : M' (235 + 1) = M (235 + 1)) (p : Int32) : m_Mo_isSign 235 p M' = m_Mo_isSign 235 p M := by
  unfold m_Mo_isSign
  simp only [r0, h]
theorem isDecree_eq {M M' : KMem} (h : M' (235 + 1) = M (235 + 1)) (p : Int32) : m_Mo_isDecree 235 p M' = m_Mo_isDecree 235 p M := by
  unfold m_Mo_isDecree
  simp only [r41, h]
/-- the model's end of an action -/
theorem Mtail {M M1 : KMem} {k : Nat} {c p1 p2 p3 r : Int32} {row a' : Row} {H : Nat → Row} {S : Nat → Row} {kp len : Nat} {T : Nat → Nat} {om : Option (Int32 × KMem)} (hk : k ≤ 14) (hm : MS H k S kp len T M) (hf : frS clQ M M1)
    (hom : om = Option.bind (Option.bind (m_Mo_acts 235 c p1 p2 p3 (kup M1 235 0 0)) fun (x, M2) => some (x, M2)) fun (x, M2) => some (x, M2))
    (hd : ∀ M', M' 236 = M 236 → M' 235 11 = c → M' 235 12 = p1 → M' 235 13 = p2 → M' 235 14 = p3 → kOk (m_Mo_does 235 M') (dsP 235 M' r row)) (ha : LE a' (upd row 97 (row 97 + cnt c r))) :
    kOk om (fun q => q.1 = r ∧ q.2 235 0 = 0 ∧ LE a' (q.2 236) ∧ frS moO M1 q.2 ∧ MS (pushH H k (M 236)) (min k 13 + 1) S kp len T q.2) := by
  rw [hom]
  have e6 : (kup M1 235 0 0) 236 = M 236 := by rw [kup_n _ _ _ (by omega)]; exact hf 236 (by omega)
  refine kPair (kWk _ (Macts hk ((hm.cl hf).k0 ⟨by omega, by omega, by omega⟩) (fun M' h1 => hd M' (h1.trans e6))) ?_)
  rintro ⟨x, M2⟩ ⟨q1, q2, q3, q4, q5⟩
  rw [e6] at q5
  exact ⟨q1, q2.trans (kup_s _ _ _ _), by rw [show (x, M2).2 236 = _ from q3]; exact ha, (frS.up (S := moO) ⟨by omega, by omega⟩).tr q4, q5⟩
theorem MR.k {H : Nat → Row} {o k : Nat} {M : KMem} (h : MR H o k M) : k ≤ 14 := h.2.2.2.1
theorem CS.k {a : Row} {H : Nat → Row} {k : Nat} {S : Nat → Row} {kp len : Nat} {T : Nat → Nat} {M : KMem} (h : CS a H k S kp len T M) : k ≤ 14 := by
  obtain ⟨o, h⟩ := h.2.2.1
  exact h.k
theorem pub_sign {M : KMem} (h : GI M) (p0 p1 : Int32) : Pub M [eI, eA, eS] (m_SR_sign 0 p0 p1 M) (m_Mo_sign 235 p0 p1) := by
  have h' := h
  obtain ⟨H, k, S, kp, len, T, hc, hm⟩ := h'
  have hI := hc.1
  have hn4 := hc.2.1.n hI.1
  have rg : ∀ g, g < 4 → m_SR_requireGuild (nI g) = some none := fun g hg => by
    unfold m_SR_requireGuild
    rw [if_neg (nI_pos (by omega)), if_pos (show nI g < 4 from (nI_ltI (b := 4) (by omega) (by omega)).mpr hg)]
  have no : ∀ {e : Int32}, e ≠ 0 → m_Mo_errorOfSign 235 p0 p1 M = some e → m_Mo_sign 235 p0 p1 M = some (0, kup M 235 0 e) := fun {e} he h1 => by
    unfold m_Mo_sign
    rw [h1, bS, Mholds_n he, bS]
    rfl
  rcases errSign_c (v := 235) hI.1 p0 p1 with ⟨g, g1, rfl, w1, w2, w3, n1, e⟩ | ⟨g1, e⟩ | ⟨g, g1, rfl, w3, e⟩ | ⟨g, g1, rfl, w1, w2, w3, n1, e⟩
  · have hA : Inv (comesA (M 236) (nI g) p1) := comesA_inv hI n1 g1 w1
    have hcls : kOk (m_SR_sign 0 (nI g) p1 M) (fun q => q.1 = .inr (hind (comesB (M 236) (nI g) p1)) ∧ CS (upd (comesA (M 236) (nI g) p1) 97 (comesA (M 236) (nI g) p1 97 + (if hind (comesB (M 236) (nI g) p1) = 0 then 0 else 1))) (pushH H k (M 236)) (min k 13 + 1) S kp len T q.2 ∧ frS clO M q.2) := by
      unfold m_SR_sign
      rw [rg g g1, bS]
      show kOk (Option.bind (m_Wo_isWord p1) _) _
      rw [w3, bS, if_neg u10]
      show kOk (if M 4 1 < 8 then _ else _) _
      have n1' : sN (M 236) < 8 := n1
      rw [if_pos (by rw [hn4, show (8 : Int32) = nI 8 from rfl, nI_ltI (by omega) (by omega)]; exact n1')]
      refine kB _ (Cacts (a' := upd (comesA (M 236) (nI g) p1) 97 (comesA (M 236) (nI g) p1 97 + (if hind (comesB (M 236) (nI g) p1) = 0 then 0 else 1))) hc) ?_
      rintro M9 ⟨c1, c2, c3⟩
      refine kB _ (bring_ok c1 hI n1 g1 w1) ?_
      rintro ⟨x, M12⟩ ⟨b1, b2, b3⟩
      simp only at b1 b2 b3
      subst b1
      refine kB _ (counted_ok (u := 3) (r := hind (comesB (M 236) (nI g) p1)) b2 hA.1) ?_
      rintro ⟨y, M15⟩ ⟨d1, d2, d3⟩
      simp only at d1 d2 d3
      subst d1
      have := c3 M15 (b3.tr d3) (inv_97 hA) d2
      exact kOk_i ⟨rfl, this.1, this.2⟩
    obtain ⟨⟨r, M1⟩, e1, r1, r2, r3⟩ := hcls
    simp only at r1 r2 r3
    subst r1
    refine pub_yes e1 r3 r2 (fun M1 r3 => Mtail (c := 115) (p1 := nI g) (p2 := p1) (p3 := 0) (row := comesA (M 236) (nI g) p1) hc.k hm r3 ?_ (fun M' h1 h2 h3 h4 h5 => ?_) ?_)
    rotate_left
    · have := Mdoes_s (v := 235) (M := M') (by rw [h1]; exact hI.1) h2 h3 h4 g1 w3 (by rw [h1]; exact n1)
      rw [h1] at this
      exact this
    · rw [cnt_h (Or.inl rfl)]
      exact LE.rf
    · unfold m_Mo_sign
      rw [errSign_eq (M := M) (r3 236 (by omega)), e, bS, Mholds_0, bS]
      rfl
  · refine pub_no h eI 0 rfl ?_ (no (by decide) e)
    unfold m_SR_sign m_SR_requireGuild
    by_cases c0 : p0 < 0
    · rw [if_pos c0]; rfl
    · rw [if_neg c0, if_neg]
      · rfl
      · intro c4
        obtain ⟨j, hj, rfl⟩ := nI_of c0
        have c3 := g1.elim (fun z => (c0 z).elim) id
        rw [nI_ltI (by omega) (by omega)] at c3
        rw [show (4 : Int32) = nI 4 from rfl, nI_ltI (by omega) (by omega)] at c4
        omega
  · refine pub_no h eA 1 rfl ?_ (no (by decide) e)
    unfold m_SR_sign
    rw [rg g g1, bS]
    show Option.bind (m_Wo_isWord p1) _ = _
    rw [w3, bS, if_pos rfl]
  · refine pub_no h eS 2 rfl ?_ (no (by decide) e)
    unfold m_SR_sign
    rw [rg g g1, bS]
    show Option.bind (m_Wo_isWord p1) _ = _
    rw [w3, bS, if_neg u10]
    show (if M 4 1 < 8 then _ else _) = _
    have n1' : sN (M 236) = 8 := n1
    rw [if_neg (by rw [hn4, show (8 : Int32) = nI 8 from rfl, nI_ltI (by omega) (by omega)]; omega)]
theorem rcs_g {k : Nat} (c : Int32) (h : c = if k = 0 then 100 else if k = 1 then 106 else 111) : rcs c := by
  unfold rcs
  by_cases h0 : k = 0
  · rw [if_pos h0] at h; exact Or.inr (Or.inl h)
  · rw [if_neg h0] at h
    by_cases h1 : k = 1
    · rw [if_pos h1] at h; exact Or.inr (Or.inr (Or.inl h))
    · rw [if_neg h1] at h; exact Or.inr (Or.inr (Or.inr (Or.inl h)))
/-- the model gives a decree of any kind, by its letter -/
theorem Mdoes_k {M' : KMem} {a : Row} {k x y z c : Int32} (hI : InvB a) (h1 : M' 236 = a) (hb : m_De_canBe k x y z = some 1) (hd : okD k x y z) (hn : dN a < 10) (hc : c = if k = 0 then 100 else if k = 1 then 106 else 111) (h2 : M' 235 11 = c) (h3 : M' 235 12 = x) (h4 : k = 1 → M' 235 13 = y) (h5 : k = 1 → M' 235 14 = z) :
    kOk (m_Mo_does 235 M') (dsP 235 M' (hind (givesB a k x y z)) (givesA a k x y z)) := by
  obtain ⟨k', x', y', z', hN, rfl, rfl, rfl, rfl⟩ := hd
  subst h1
  obtain ⟨o1, o2, o3, o4⟩ := okN4_b hN
  by_cases k0 : k' = 0
  · subst k0
    have hb2 : ∀ n, n < 2 ^ 31 → (nI n = 0 ↔ n = 0) := fun n hn => nI_eq (b := 0) hn (by omega)
    have hyz : y' = 0 ∧ z' = 0 := by
      unfold m_De_canBe at hb
      rw [if_neg (by decide), if_neg (by decide), WisLetter_n o2, if_pos hN.2.1, bS, if_neg u10, if_neg (by decide)] at hb
      by_cases c1 : nI y' = 0
      · rw [if_pos c1] at hb
        by_cases c2 : nI z' = 0
        · exact ⟨(hb2 _ o3).mp c1, (hb2 _ o4).mp c2⟩
        · rw [if_neg c2] at hb; cases hb
      · rw [if_neg c1] at hb; cases hb
    obtain ⟨rfl, rfl⟩ := hyz
    refine Mdoes_g hI ?_ hb hn
    rw [does_d (by rw [h2, hc]; rfl), h3]
    rfl
  · by_cases k1 : k' = 1
    · subst k1
      refine Mdoes_g hI ?_ hb hn
      rw [does_j (by rw [h2, hc]; rfl), h3, h4 rfl, h5 rfl]
      rfl
    · have k2 : k' = 2 := by have := hN.1; omega
      subst k2
      have hb2 : ∀ n, n < 2 ^ 31 → (nI n = 0 ↔ n = 0) := fun n hn => nI_eq (b := 0) hn (by omega)
      have hyz : y' = 0 ∧ z' = 0 := by
        unfold m_De_canBe at hb
        rw [if_neg (by decide), if_neg (by decide), WisLetter_n o2, if_pos hN.2.1, bS, if_neg u10, if_neg (by decide)] at hb
        by_cases c1 : nI y' = 0
        · rw [if_pos c1] at hb
          by_cases c2 : nI z' = 0
          · exact ⟨(hb2 _ o3).mp c1, (hb2 _ o4).mp c2⟩
          · rw [if_neg c2] at hb; cases hb
        · rw [if_neg c1] at hb; cases hb
      obtain ⟨rfl, rfl⟩ := hyz
      refine Mdoes_g hI ?_ hb hn
      rw [does_o (by rw [h2, hc]; rfl), h3]
      rfl
theorem pub_decree {M : KMem} (h : GI M) (p0 p1 p2 p3 : Int32) : Pub M [eA, eS] (m_SR_decree 0 p0 p1 p2 p3 M) (m_Mo_decree 235 p0 p1 p2 p3) := by
  have h' := h
  obtain ⟨H, k, S, kp, len, T, hc, hm⟩ := h'
  have hI := hc.1
  have hd4 := hc.2.1.d hI.1
  have no : ∀ {e : Int32}, e ≠ 0 → m_Mo_errorOfDecree 235 p0 p1 p2 p3 M = some e → m_Mo_decree 235 p0 p1 p2 p3 M = some (0, kup M 235 0 e) := fun {e} he h1 => by
    unfold m_Mo_decree
    rw [h1, bS, Mholds_n he, bS]
    rfl
  rcases errDecree_c (v := 235) hI.1 p0 p1 p2 p3 with ⟨b1, hd, n1, e⟩ | ⟨b1, e⟩ | ⟨b1, hd, n1, e⟩
  · have hA : Inv (givesA (M 236) p0 p1 p2 p3) := givesA_inv hI n1 hd
    have hcls : kOk (m_SR_decree 0 p0 p1 p2 p3 M) (fun q => q.1 = .inr (hind (givesB (M 236) p0 p1 p2 p3)) ∧ CS (upd (givesA (M 236) p0 p1 p2 p3) 97 (givesA (M 236) p0 p1 p2 p3 97 + (if hind (givesB (M 236) p0 p1 p2 p3) = 0 then 0 else 1))) (pushH H k (M 236)) (min k 13 + 1) S kp len T q.2 ∧ frS clO M q.2) := by
      unfold m_SR_decree m_SR_requireDecreeArguments
      rw [b1, bS, if_neg u10, bS]
      show kOk (Option.bind (m_De_areFull 5 M) _) _
      rw [areFull_ok hd4 (by have := hI.1.2.1.1; omega), if_neg (by have n1' : dN (M 236) < 10 := n1; omega), bS, if_pos rfl]
      refine kB _ (Cacts (a' := upd (givesA (M 236) p0 p1 p2 p3) 97 (givesA (M 236) p0 p1 p2 p3 97 + (if hind (givesB (M 236) p0 p1 p2 p3) = 0 then 0 else 1))) hc) ?_
      rintro M9 ⟨c1, c2, c3⟩
      refine kB _ (give_ok c1 hI.1 hd n1) ?_
      rintro ⟨x, M12⟩ ⟨b1, b2, b3⟩
      simp only at b1 b2 b3
      subst b1
      refine kB _ (counted_ok (u := 3) (r := hind (givesB (M 236) p0 p1 p2 p3)) b2 hA.1) ?_
      rintro ⟨y, M15⟩ ⟨d1, d2, d3⟩
      simp only at d1 d2 d3
      subst d1
      have := c3 M15 (b3.tr d3) (inv_97 hA) d2
      exact kOk_i ⟨rfl, this.1, this.2⟩
    obtain ⟨⟨r, M1⟩, e1, r1, r2, r3⟩ := hcls
    simp only at r1 r2 r3
    subst r1
    refine pub_yes e1 r3 r2 (fun M1 r3 => Mtail (c := if p0 = 0 then 100 else if p0 = 1 then 106 else 111) (p1 := p1) (p2 := p2) (p3 := p3) hc.k hm r3 ?_ (fun M' h1 h2 h3 h4 h5 => Mdoes_k hI.1 h1 b1 hd n1 rfl h2 h3 (fun _ => h4) (fun _ => h5)) ?_)
    · unfold m_Mo_decree
      rw [errDecree_eq (M := M) (r3 236 (by omega)), e, bS, Mholds_0, bS]
      show Option.bind (Option.bind (if p0 = 0 then some 100 else if p0 = 1 then some 106 else some 111) _) _ = _
      by_cases c0 : p0 = 0
      · simp only [if_pos c0, bS]
      · by_cases c1 : p0 = 1
        · simp only [if_neg c0, if_pos c1, bS]
        · simp only [if_neg c0, if_neg c1, bS]
    · rw [cnt_h]
      · exact LE.rf
      · unfold rcs
        by_cases c0 : p0 = 0
        · rw [if_pos c0]; exact Or.inr (Or.inl rfl)
        · rw [if_neg c0]
          by_cases c1 : p0 = 1
          · rw [if_pos c1]; exact Or.inr (Or.inr (Or.inl rfl))
          · rw [if_neg c1]; exact Or.inr (Or.inr (Or.inr (Or.inl rfl)))
  · refine pub_no h eA 0 rfl ?_ (no (by decide) e)
    unfold m_SR_decree m_SR_requireDecreeArguments
    rw [b1, bS, if_pos rfl]
    rfl
  · refine pub_no h eS 1 rfl ?_ (no (by decide) e)
    unfold m_SR_decree m_SR_requireDecreeArguments
    rw [b1, bS, if_neg u10, bS]
    show Option.bind (m_De_areFull 5 M) _ = _
    rw [areFull_ok hd4 (by have := hI.1.2.1.1; omega), if_pos n1, bS, if_neg u10]
