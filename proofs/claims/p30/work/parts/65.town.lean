/-! LAYER 2: the class's town: revoking, signs, paint, months, amnesties -/
theorem okR_congr {R R' : Nat → Int32} {m : Nat} (h : ∀ i, i < 5 * m → R' i = R i) (hR : okR R m) : okR R' m := fun k hk => by
  rw [h (5 * k) (by omega), h (5 * k + 1) (by omega), h (5 * k + 2) (by omega), h (5 * k + 3) (by omega)]
  exact hR k hk
theorem spX_congr {R R' : Nat → Int32} (x w : Int32) : ∀ m, (∀ i, i < 5 * m → R' i = R i) → spX R' x m w = spX R x m w := by
  intro m
  induction m with
  | zero => intro _; rfl
  | succ m ih =>
    intro h
    simp only [spX]
    rw [ih (fun i hi => h i (by omega)), dzR_congr (R := R') (R' := R) _ (fun j hj => h _ (by omega))]
theorem CR.R {a : Row} {u : Nat} {M : KMem} (h : CR a u M) : ∀ i, i < 5 * dN a → M (u + 2 + 1) i = rD a i := fun i hi => h.2.1 i hi
theorem without_ok {a : Row} {u k : Nat} {w : Int32} {M : KMem} (h : CR a u M) (hI : InvB a) (hw : vW w) : m_De_spellingWithout (u + 2) (nI k) w M = some (spX (rD a) (nI k) (dN a) w) := by
  rw [Dwithout (m := dN a) hI.2.1.1 (h.d hI) (okR_congr h.R hI.2.2.1) hw, spX_congr _ _ _ h.R]
theorem spelling_ok {a : Row} {u : Nat} {w : Int32} {M : KMem} (h : CR a u M) (hI : InvB a) (hw : vW w) : m_De_spellingOf (u + 2) w M = some (spR (rD a) (dN a) w) := by
  rw [Dspelling (m := dN a) hI.2.1.1 (h.d hI) (okR_congr h.R hI.2.2.1) hw, spR_congr (R := M (u + 2 + 1)) (R' := rD a) _ _ h.R]
theorem remove_ok {d n k : Nat} {M : KMem} (h : M d 0 = nI n) (hn : n ≤ 10) (hk : k < n) :
    kOk (m_De_remove d (nI k) M) (fun M' => M' d 0 = nI (n - 1) ∧ (∀ j, j ≠ 0 → M' d j = M d j) ∧ (∀ i, i < 5 * (n - 1) → M' (d + 1) i = shR (M (d + 1)) k i) ∧ frS (fun o => o = d ∨ o = d + 1) M M') := by
  unfold m_De_remove
  have e1 : (nI k + 1) * 5 = nI (5 * (k + 1)) := by rw [nI_1, show nI (k + 1) * 5 = nI ((k + 1) * 5) from pk_mul _ 5, Nat.mul_comm]
  have e2 : nI k * 5 = nI (5 * k) := by rw [show nI k * 5 = nI (k * 5) from pk_mul _ 5, Nat.mul_comm]
  have e3 : (nI n - 1 - nI k) * 5 = nI (5 * (n - 1 - k)) := by rw [nI_s1 (by omega), pk_sub (by omega), show nI (n - 1 - k) * 5 = nI ((n - 1 - k) * 5) from pk_mul _ 5, Nat.mul_comm]
  rw [has_n h hn (by omega), if_pos hk, bS, if_neg (by decide), h, e1, e2, e3, cpN (by omega) (by omega) (by omega), bS, bS]
  have hd : d ≠ d + 1 := by omega
  have e4 : cpM M (d + 1) (d + 1) (5 * (k + 1)) (5 * k) (5 * (n - 1 - k)) d = M d := cpM_fr (S := fun o => o = d + 1) rfl d hd
  refine kOk_i ⟨?_, fun j hj => ?_, fun i hi => ?_, frS.k (cpM_fr (Or.inr rfl)) (Or.inl rfl)⟩
  · rw [kup_s, e4, h, nI_s1 (by omega)]
  · rw [kup_j _ _ _ hj, e4]
  · rw [kup_n _ _ _ (by omega)]
    unfold shR
    by_cases hik : 5 * k ≤ i
    · rw [if_pos hik, cpM_in hik (by omega), show 5 * (k + 1) + (i - 5 * k) = i + 5 by omega]
    · rw [if_neg hik, cpM_out (by omega)]
/-- a decree is revoked -/
theorem take_ok {a : Row} {u k : Nat} {M : KMem} (h : CR a u M) (hI : InvB a) (hk : k < dN a) :
    kOk (m_Tw_takeDecree u (nI k) M) (fun q => q.1 = hind (revB a k) ∧ CR (revA a k) u q.2 ∧ frS (twn u) M q.2) := by
  have h8 := hI.1.1
  have h10 := hI.2.1.1
  unfold m_Tw_takeDecree
  rw [has_n (h.d hI) h10 (by omega), if_pos hk, bS, if_neg (by decide)]
  refine kB (fun M' => (∀ s, s < sN a → M' (u + 17) s = rtA (revB a k) s) ∧ frS (fun o => o = u + 17) M M') (kFor (fun s q => ∃ M1, q = (nI s, M1) ∧ (∀ t, t < s → M1 (u + 17) t = rtA (revB a k) t) ∧ frS (fun o => o = u + 17) M M1) (sN a) ?_ ?_ (i0 := 0) (by omega) (by omega) ⟨M, rfl, fun t ht => by omega, frS.rf⟩) ?_
  · rintro s _ hs ⟨M1, rfl, g1, g2⟩
    have h1 : CR a u M1 := h.fr g2 (fun o (ho : o = u + 17) => by omega)
    obtain ⟨k1, k2, k3, k4, k5, k6⟩ := h1.2.2.1 s hs
    refine Or.inl ⟨(nI (s + 1), kup M1 (u + 17) s (rtA (revB a k) s)), ?_, _, rfl, fun t ht => ?_, frS.k g2 rfl⟩
    · unfold m_Tw_takeDecree_l18
      show (if 8 ≤ nI s then _ else _) = _
      rw [if_neg (by rw [nI_8F (by omega)]; exact id), hasSign_y (h1.n hI) h8 hs, bS, if_neg (by decide), rdN (by omega) (by omega), bS, k2, without_ok h1 hI (hI.2.2.2 s hs).2.1, bS, wrN (by omega) (by omega), bS, nI_1, revB_rt h8 h10 hk hs]
    · by_cases hts : t = s
      · subst hts; rw [kup_s]
      · rw [kup_j _ _ _ hts]; exact g1 t (by omega)
  · rintro _ ⟨M1, rfl, g1, g2⟩
    have h1 : CR a u M1 := h.fr g2 (fun o (ho : o = u + 17) => by omega)
    refine ⟨M1, ?_, g1, g2⟩
    unfold m_Tw_takeDecree_l18
    show (if 8 ≤ nI (sN a) then _ else _) = _
    split
    · rfl
    · rw [hasSign_n (h1.n hI) h8 (Nat.le_refl _) (by omega), bS, if_pos rfl]
  · rintro M16 ⟨g1, g2⟩
    have h6 : CR a u M16 := h.fr g2 (fun o (ho : o = u + 17) => by omega)
    obtain ⟨n1, n2⟩ := revB_n (a := a) (k := k) h10
    rw [plan_ok (b := revB a k) (h6.n hI) h8 n1 (fun s hs => ⟨by rw [revB_out (by omega) (by omega)]; exact (h6.2.2.1 s hs).1, g1 s hs⟩), bS]
    by_cases hz : hind (revB a k) = 0
    · rw [if_pos hz, revA_y hz]
      refine kB (fun M' => CR (revB a k) u M' ∧ frS (twn u) M M') ?_ (fun M' hM' => kOk_i ⟨rfl, hM'⟩)
      refine kB _ (remove_ok (h6.d hI) h10 hk) ?_
      rintro M11 ⟨q1, q2, q3, q5⟩
      rw [show cpI M11 (u + 17) 8 (u + 7) 8 0 0 8 = some (cpM M11 (u + 17) (u + 7) 0 0 8) from cpN (sp := 0) (dp := 0) (n := 8) (by omega) (by omega) (by omega), bS]
      have e : ∀ o, o ≠ u + 7 → cpM M11 (u + 17) (u + 7) 0 0 8 o = M11 o := fun o ho => cpM_fr (S := fun o => o = u + 7) rfl o ho
      have e2 : ∀ o, o ≠ u + 2 → o ≠ u + 3 → M11 o = M16 o := fun o h1 h2 => q5 o (by omega)
      have hR := h6.R
      obtain ⟨⟨k1, k2, k3, k4, k5, k6⟩, k7, k8, k9, k10, k11⟩ := h6
      have out : ∀ i, 92 ≤ i → revB a k i = a i := fun i hi => revB_out (by omega) (by omega)
      refine kOk_i ⟨⟨⟨?_, ?_, ?_, ?_, ?_, ?_⟩, ?_, ?_, ?_, ?_, ?_⟩, ?_⟩
      · rw [e _ (by omega), e2 _ (by omega) (by omega), revB_out (by omega) (by omega)]; exact k1
      · rw [e _ (by omega)]
        exact q1.trans (show nI (dN a - 1) = revB a k 41 from by unfold revB; rw [pk_us])
      · rw [e _ (by omega), e2 _ (by omega) (by omega), out _ (by omega)]; exact k3
      · rw [e _ (by omega), e2 _ (by omega) (by omega), out _ (by omega)]; exact k4
      · rw [e _ (by omega), e2 _ (by omega) (by omega), out _ (by omega)]; exact k5
      · rw [e _ (by omega), e2 _ (by omega) (by omega), out _ (by omega)]; exact k6
      · rw [n2]
        intro i hi
        rw [e _ (by omega)]
        refine (q3 i hi).trans ((?_ : _ = shR (rD a) k i).trans (revB_D hi).symm)
        unfold shR
        split
        · exact hR _ (by omega)
        · exact hR _ (by omega)
      · rw [n1]
        intro s hs
        obtain ⟨l1, l2, l3, l4, l5, l6⟩ := k8 s hs
        refine ⟨?_, ?_, ?_, ?_, ?_, ?_⟩
        · rw [e _ (by omega), e2 _ (by omega) (by omega), revB_out (by omega) (by omega)]; exact l1
        · rw [e _ (by omega), e2 _ (by omega) (by omega), revB_out (by omega) (by omega)]; exact l2
        · rw [e _ (by omega), e2 _ (by omega) (by omega), revB_out (by omega) (by omega)]; exact l3
        · rw [cpM_in (by omega) (by omega), e2 _ (by omega) (by omega), show 0 + (s - 0) = s by omega]; exact g1 s hs
        · rw [e _ (by omega), e2 _ (by omega) (by omega), revB_out (by omega) (by omega)]; exact l5
        · rw [e _ (by omega), e2 _ (by omega) (by omega), revB_out (by omega) (by omega)]; exact l6
      · intro g hg
        rw [e _ (by omega), e _ (by omega), e2 _ (by omega) (by omega), e2 _ (by omega) (by omega), out _ (by omega), out _ (by omega)]
        exact k9 g hg
      · rw [e _ (by omega), e2 _ (by omega) (by omega), out _ (by omega)]; exact k10
      · rw [e _ (by omega), e2 _ (by omega) (by omega), out _ (by omega)]; exact k11
      · exact ((g2.wk (fun o (ho : o = u + 17) => ⟨by omega, by omega⟩)).tr (q5.wk (fun o (ho : o = u + 2 ∨ o = u + 2 + 1) => ⟨by omega, by omega⟩))).tr (cpM_fr (show u + 1 ≤ u + 7 ∧ u + 7 ≤ u + 17 from ⟨by omega, by omega⟩))
    · rw [if_neg hz, bS, revA_n hz]
      exact kOk_i ⟨rfl, h6, g2.wk (fun o (ho : o = u + 17) => ⟨by omega, by omega⟩)⟩
theorem take_no {a : Row} {u : Nat} {p : Int32} {M : KMem} (h : CR a u M) (hI : InvB a) (hp : p < 0 ∨ nI (dN a) ≤ p) : m_Tw_takeDecree u p M = some (3, M) := by
  unfold m_Tw_takeDecree m_De_has
  rw [h.d hI]
  rcases hp with c | c
  · rw [if_pos c]; rfl
  · by_cases c0 : p < 0
    · rw [if_pos c0]; rfl
    · rw [if_neg c0, if_pos c]; rfl
theorem give_full {a : Row} {u : Nat} {k x y z : Int32} {M : KMem} (h : CR a u M) (hI : InvB a) (hm : dN a = 10) : m_Tw_giveDecree u k x y z M = some (3, M) := by
  unfold m_Tw_giveDecree
  rw [areFull_ok (h.d hI) (by omega), if_pos hm, bS, if_neg (by decide)]
/-- a sign comes -/
theorem againstSign_ok {a : Row} {u : Nat} {g w : Int32} {M : KMem} (h : CR a u M) (hI : Inv a) (hn : sN a < 8) : m_Tw_reasonAgainstSign u g (spR (rD a) (dN a) w) M = some (hind (comesB a g w)) := by
  have h8 := hI.1.1.1
  obtain ⟨n1, n2, n3⟩ := comesB_n (g := g) (w := w) hn
  have hE' : hE (comesB a g w) ↔ spR (rD a) (dN a) w = 0 := by
    unfold hE
    rw [n1, ex_succ]
    constructor
    · rintro (⟨s, hs, e⟩ | e)
      · rw [comesB_rt hn hs] at e; exact (hI.2.1.1 s hs e).elim
      · rwa [comesB_rn hn] at e
    · intro e; exact Or.inr (by rw [comesB_rn hn]; exact e)
  have hS' : hS (comesB a g w) ↔ ∃ t, t < sN a ∧ a (5 * t + 1) = g ∧ rtA a t = spR (rD a) (dN a) w := by
    unfold hS
    rw [n1, ex_succ]
    constructor
    · rintro (⟨s, hs, t, ht, e1, e2⟩ | ⟨t, ht, e1, e2⟩)
      · rw [comesB_out (by omega) (by omega), comesB_out (by omega) (by omega)] at e1
        rw [comesB_rt hn hs, comesB_rt hn (by omega)] at e2
        exact (hI.2.1.2 s t ht hs e1 e2).elim
      · rw [comesB_1, comesB_out (by omega) (by omega)] at e1
        rw [comesB_rn hn, comesB_rt hn ht] at e2
        exact ⟨t, ht, e1, e2⟩
    · rintro ⟨t, ht, e1, e2⟩
      refine Or.inr ⟨t, ht, ?_, ?_⟩
      · rw [comesB_1, comesB_out (by omega) (by omega)]; exact e1
      · rw [comesB_rn hn, comesB_rt hn ht]; exact e2
  refine kEx ?_
  unfold m_Tw_reasonAgainstSign
  by_cases hz : spR (rD a) (dN a) w = 0
  · rw [if_pos hz]; exact kOk_i (hind_1 (hE'.mpr hz)).symm
  · rw [if_neg hz]
    have hE0 : ¬ hE (comesB a g w) := fun e => hz (hE'.mp e)
    refine kB (fun r => (r = .inl 2 ∧ hS (comesB a g w)) ∨ (r = .inr () ∧ ¬ hS (comesB a g w))) (kFor (fun s q => q = nI s ∧ ∀ t, t < s → a (5 * t + 1) = g → rtA a t ≠ spR (rD a) (dN a) w) (sN a) ?_ ?_ (i0 := 0) (by omega) (by omega) ⟨rfl, fun t ht => by omega⟩) ?_
    · rintro s _ hs ⟨rfl, h1⟩
      obtain ⟨k1, k2, k3, k4, k5, k6⟩ := h.2.2.1 s hs
      unfold m_Tw_reasonAgainstSign_l8
      simp only [nI_8F (i := s) (by omega), if_false]
      rw [hasSign_y (h.n hI.1) h8 hs, bS, if_neg (by decide), rdN (by omega) (by omega), bS, k1, rdN (by omega) (by omega), bS, k4]
      by_cases c1 : a (5 * s + 1) = g
      · rw [if_pos c1]
        by_cases c2 : rtA a s = spR (rD a) (dN a) w
        · rw [if_pos c2]; exact Or.inr ⟨_, rfl, Or.inl ⟨rfl, hS'.mpr ⟨s, hs, c1, c2⟩⟩⟩
        · rw [if_neg c2, nI_1]
          refine Or.inl ⟨_, rfl, rfl, fun t ht e1 => ?_⟩
          by_cases hts : t = s
          · subst hts; exact c2
          · exact h1 t (by omega) e1
      · rw [if_neg c1, nI_1]
        refine Or.inl ⟨_, rfl, rfl, fun t ht e1 => ?_⟩
        by_cases hts : t = s
        · subst hts; exact (c1 e1).elim
        · exact h1 t (by omega) e1
    · rintro _ ⟨rfl, h1⟩
      refine ⟨.inr (), ?_, Or.inr ⟨rfl, fun e => ?_⟩⟩
      · unfold m_Tw_reasonAgainstSign_l8
        show (if 8 ≤ nI (sN a) then _ else _) = _
        split
        · rfl
        · rw [hasSign_n (h.n hI.1) h8 (Nat.le_refl _) (by omega), bS, if_pos rfl]
      · obtain ⟨t, ht, e1, e2⟩ := hS'.mp e
        exact h1 t ht e1 e2
    · rintro r (⟨rfl, hS1⟩ | ⟨rfl, hS0⟩)
      · exact kOk_i (hind_2 hE0 hS1).symm
      · exact kOk_i (hind_0 hE0 hS0).symm
theorem bring_ok {a : Row} {u g : Nat} {w : Int32} {M : KMem} (h : CR a u M) (hI : Inv a) (hn : sN a < 8) (hg : g < 4) (hw : vW w) :
    kOk (m_Tw_bringSign u (nI g) w M) (fun q => q.1 = hind (comesB a (nI g) w) ∧ CR (comesA a (nI g) w) u q.2 ∧ frS (twn u) M q.2) := by
  unfold m_Tw_bringSign
  rw [h.n hI.1, if_neg (by rw [nI_8F hn]; exact id), if_neg (nI_pos (by omega)), if_pos (show nI g < 4 from (nI_ltI (b := 4) (by omega) (by omega)).mpr hg), spelling_ok h hI.1 hw, bS, againstSign_ok h hI hn, bS]
  by_cases hz : hind (comesB a (nI g) w) = 0
  · rw [if_pos hz, comesA_y hz, wrN (by omega) (by omega), bS, wrN (by omega) (by omega), bS, wrN (by omega) (by omega), bS, wrN (by omega) (by omega), bS, wrN (by omega) (by omega), bS, wrN (by omega) (by omega), bS, bS]
    obtain ⟨n1, n2, n3⟩ := comesB_n (g := nI g) (w := w) hn
    have hnn := h.n hI.1
    obtain ⟨⟨k1, k2, k3, k4, k5, k6⟩, k7, k8, k9, k10, k11⟩ := h
    have T : ∀ j, u + 1 ≤ u + j → u + j ≤ u + 17 → twn u (u + j) := fun j h1 h2 => ⟨h1, h2⟩
    refine kOk_i ⟨hz.symm, ⟨⟨?_, ?_, ?_, ?_, ?_, ?_⟩, ?_, ?_, ?_, ?_, ?_⟩, frS.k (frS.k (frS.k (frS.k (frS.k (frS.k (frS.k frS.rf (T 4 (by omega) (by omega))) (T 5 (by omega) (by omega))) (T 6 (by omega) (by omega))) (T 7 (by omega) (by omega))) (T 8 (by omega) (by omega))) (T 9 (by omega) (by omega))) (T 1 (by omega) (by omega))⟩
    · show kup _ _ _ _ (u + 1) 1 = _
      rw [kup_s, kup_n _ _ _ (by omega), kup_n _ _ _ (by omega), kup_n _ _ _ (by omega), kup_n _ _ _ (by omega), kup_n _ _ _ (by omega), kup_n _ _ _ (by omega), hnn, nI_1, comesB_0]
    · simp (disch := omega) only [kup_n]
      rw [comesB_out (by omega) (by omega)]; exact k2
    · simp (disch := omega) only [kup_n, kup_j]
      rw [comesB_out (by omega) (by omega)]; exact k3
    · simp (disch := omega) only [kup_n, kup_j]
      rw [comesB_out (by omega) (by omega)]; exact k4
    · simp (disch := omega) only [kup_n, kup_j]
      rw [comesB_out (by omega) (by omega)]; exact k5
    · simp (disch := omega) only [kup_n, kup_j]
      rw [comesB_out (by omega) (by omega)]; exact k6
    · rw [n2]
      intro i hi
      have hd10 := hI.1.2.1.1
      simp (disch := omega) only [kup_n]
      rw [comesB_out (by omega) (by omega)]; exact k7 i hi
    · rw [n1]
      intro s hs
      by_cases hsn : s = sN a
      · subst hsn
        rw [comesB_1, comesB_2, comesB_3, comesB_rn hn, comesB_4, comesB_5]
        refine ⟨?_, ?_, ?_, ?_, ?_, ?_⟩ <;> simp (disch := omega) only [kup_n, kup_s]
      · obtain ⟨l1, l2, l3, l4, l5, l6⟩ := k8 s (by omega)
        rw [comesB_out (by omega) (by omega), comesB_out (by omega) (by omega), comesB_out (by omega) (by omega), comesB_rt hn (by omega), comesB_out (by omega) (by omega), comesB_out (by omega) (by omega)]
        refine ⟨?_, ?_, ?_, ?_, ?_, ?_⟩ <;> simp (disch := omega) only [kup_n, kup_j] <;> assumption
    · intro g' hg'
      simp (disch := omega) only [kup_n]
      rw [comesB_out (by omega) (by omega), comesB_out (by omega) (by omega)]; exact k9 g' hg'
    · simp (disch := omega) only [kup_n]
      rw [comesB_out (by omega) (by omega)]; exact k10
    · simp (disch := omega) only [kup_n]
      rw [comesB_out (by omega) (by omega)]; exact k11
  · rw [if_neg hz]
    exact kOk_i ⟨rfl, h.le (comesA_n hI.1 hn hz), frS.rf⟩
theorem bring_no {a : Row} {u : Nat} {p w : Int32} {M : KMem} (h : CR a u M) (hI : InvB a) (hc : sN a = 8 ∨ p < 0 ∨ nI 3 < p) : m_Tw_bringSign u p w M = some (3, M) := by
  have h8 := hI.1.1
  unfold m_Tw_bringSign
  rw [h.n hI]
  by_cases hn : sN a = 8
  · rw [if_pos (by rw [hn]; decide)]
  · rw [if_neg (by rw [nI_8F (by omega)]; exact id)]
    by_cases c0 : p < 0
    · rw [if_pos c0]
    · rw [if_neg c0, if_neg]
      intro c4
      have c3 : nI 3 < p := by
        rcases hc with c | c | c
        · exact (hn c).elim
        · exact (c0 c).elim
        · exact c
      obtain ⟨j, hj, rfl⟩ := nI_of c0
      rw [nI_ltI (by omega) (by omega)] at c3
      rw [show (4 : Int32) = nI 4 from rfl, nI_ltI (by omega) (by omega)] at c4
      omega
