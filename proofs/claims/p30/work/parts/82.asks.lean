/-! P30: the questions that the law asks, at any object -/
theorem kPair' {P : Int32 × KMem → Prop} {o : Option (Int32 × KMem)} (h : kOk o P) : kOk (Option.bind o fun (x, M1) => some (x, M1)) P := by
  obtain ⟨⟨x, M1⟩, e, hp⟩ := h
  rw [e]
  exact kOk_i hp
theorem q_about {t j : Nat} {a : Row} {H : Nat → Row} {k : Nat} {M : KMem} (h : GO t a H k M) (hj : j ≤ 11) : kOk (m_Sn_about t (nI j) M) (fun q => q.1 = abV a j ∧ frS (scr (t + 3)) M q.2) := by
  unfold m_Sn_about
  rw [if_neg (nI_pos (by omega)), if_pos (show nI j ≤ 11 from (nI_leI (b := 11) (by omega) (by omega)).mpr hj)]
  exact kPair' (Cabout h.2.1 h.1 hj)
theorem q_setting {t j : Nat} {a : Row} {H : Nat → Row} {k : Nat} {M : KMem} (h : GO t a H k M) (hj : j < 2) : m_Sn_setting t (nI j) M = some (a (106 + j)) := by
  unfold m_Sn_setting m_Sn_requireSetting
  rw [if_neg (nI_pos (by omega)), if_pos (show nI j < 2 from (nI_ltI (b := 2) (by omega) (by omega)).mpr hj), bS, rdN (by omega) (by omega), bS, show M (t + 15) j = a (106 + j) from h.2.1.set hj]
theorem q_req {t s : Nat} {a : Row} {H : Nat → Row} {k : Nat} {M : KMem} (h : GO t a H k M) (hs : s < sN a) : m_Sn_requireSign t (nI s) M = some () := by
  unfold m_Sn_requireSign
  rw [hasSign_y (h.2.1.n h.1.1) h.1.1.1.1 hs, bS, if_neg u10]
theorem q_signOf {t s j : Nat} {a : Row} {H : Nat → Row} {k : Nat} {M : KMem} (h : GO t a H k M) (hs : s < sN a) (hj : j ≤ 7) : kOk (m_Sn_signOf t (nI s) (nI j) M) (fun q => q.1 = sgV a s j ∧ frS (scr (t + 3)) M q.2) := by
  unfold m_Sn_signOf
  rw [q_req h hs, bS, if_neg (nI_pos (by omega)), if_pos (show nI j ≤ 7 from (nI_leI (b := 7) (by omega) (by omega)).mpr hj)]
  exact kPair' (Csign h.2.1 h.1 hs hj)
theorem q_decreeOf {t s j : Nat} {a : Row} {H : Nat → Row} {k : Nat} {M : KMem} (h : GO t a H k M) (hs : s < dN a) (hj : j ≤ 4) : m_Sn_decreeOf t (nI s) (nI j) M = some (a (42 + (5 * s + j))) := by
  have h10 := h.1.1.2.1.1
  have hd5 : M (t + 5) 0 = nI (dN a) := h.2.1.d h.1.1
  unfold m_Sn_decreeOf m_Sn_requireDecree
  rw [has_y hd5 h10 hs, bS, if_neg u10, bS, if_neg (nI_pos (by omega)), if_pos (show nI j ≤ 4 from (nI_leI (b := 4) (by omega) (by omega)).mpr hj), number_n hd5 h10 hs (by omega), bS]
  show some (M (t + 6) (5 * s + j)) = _
  rw [show M (t + 6) (5 * s + j) = a (42 + (5 * s + j)) from h.2.1.2.1 (5 * s + j) (by omega)]
theorem q_guildOf {t g j : Nat} {a : Row} {H : Nat → Row} {k : Nat} {M : KMem} (h : GO t a H k M) (hg : g < 4) (hj : j ≤ 3) : m_Sn_guildOf t (nI g) (nI j) M = some (guV a g j) := by
  have k9 := h.2.1.2.2.2.1 g hg
  unfold m_Sn_guildOf m_Sn_requireGuild m_Tw_numberOfGuild
  rw [if_neg (nI_pos (by omega)), if_pos (show nI g < 4 from (nI_ltI (b := 4) (by omega) (by omega)).mpr hg), bS, if_neg (nI_pos (by omega)), if_pos (show nI j ≤ 3 from (nI_leI (b := 3) (by omega) (by omega)).mpr hj), if_neg (nI_pos (by omega)), if_pos (show nI g < 4 from (nI_ltI (b := 4) (by omega) (by omega)).mpr hg)]
  have hjj : j = 0 ∨ j = 1 ∨ j = 2 ∨ j = 3 := by omega
  rcases hjj with rfl | rfl | rfl | rfl
  · rw [if_pos (by decide), show m_Tw_signsOfGuild (t + 3) (nI g) 0 M = _ from Cguild (w := 0) h.2.1 h.1 (by omega)]
    rfl
  · rw [if_neg (by decide), if_pos (by decide), show m_Tw_signsOfGuild (t + 3) (nI g) 1 M = _ from Cguild (w := 1) h.2.1 h.1 (by omega)]
    rfl
  · rw [if_neg (by decide), if_neg (by decide), if_pos (by decide), rdN (by omega) (by omega), bS, bS, k9.1]
    rfl
  · rw [if_neg (by decide), if_neg (by decide), if_neg (by decide), rdN (by omega) (by omega), bS, bS, k9.2]
    rfl
theorem spelled_ok {t s w : Nat} {a : Row} {H : Nat → Row} {k : Nat} {M : KMem} (h : GO t a H k M) (hs : s < sN a) (hw1 : w ≤ 1) : kOk (m_Tw_spelled (t + 3) (nI s) (nI w) M) (fun q => q.1 = rtA a s ∧ frS (scr (t + 3)) M q.2) := by
  obtain ⟨hI, hc, -⟩ := h
  have h8 := hI.1.1.1
  obtain ⟨k1, k2, k3, k4, k5, k6⟩ := hc.2.2.1 s hs
  have hw := (hI.1.2.2.2 s hs).2.1
  unfold m_Tw_spelled
  rw [hasSign_y (hc.n hI.1) h8 hs, bS, if_neg u10, rdN (by omega) (by omega), bS, k2]
  by_cases w0 : w = 0
  · rw [if_pos (by rw [w0]; rfl), spelling_ok hc hI.1 hw, bS, bS]
    exact kOk_i ⟨rfl, frS.rf⟩
  · rw [if_neg (nI_ne0 (by omega) (by omega))]
    refine kPair' (kPair' (kWk _ (flow_w (u := t + 3 + 15) (p0 := t + 3 + 2) hI.1.2.1.1 (hc.d hI.1) (okR_congr hc.R hI.1.2.2.1) (by omega) hw) ?_))
    rintro ⟨x, M1⟩ ⟨q1, q2⟩
    refine ⟨q1.trans ?_, q2.wk (fun o ho => Or.inr (Or.inl ho))⟩
    exact spR_congr (R := M (t + 3 + 2 + 1)) (R' := rD a) _ _ hc.R
theorem q_right {t s w : Nat} {a : Row} {H : Nat → Row} {k : Nat} {M : KMem} (h : GO t a H k M) (hs : s < sN a) (hw : w ≤ 1) : kOk (m_Sn_right t (nI s) (nI w) M) (fun q => q.1 = rtA a s ∧ frS (scr (t + 3)) M q.2) := by
  unfold m_Sn_right
  rw [q_req h hs, bS]
  by_cases w0 : w = 0
  · subst w0
    rw [if_pos (by decide), if_neg (by decide), bS]
    exact kPair' (spelled_ok (w := 0) h hs (by omega))
  · have w1 : w = 1 := by omega
    subst w1
    rw [if_neg (by decide), if_pos (by decide), if_pos (by decide), bS]
    exact kPair' (spelled_ok (w := 1) h hs (by omega))
theorem q_apart {t s o : Nat} {a : Row} {H : Nat → Row} {k : Nat} {M : KMem} (h : GO t a H k M) (hs : s < sN a) (ho : o < sN a) : kOk (m_Sn_apart t (nI s) (nI o) M) (fun q => q.1 = nI (lv (rtA a s) (rtA a o)) ∧ frS (scr (t + 3)) M q.2) := by
  have h8 := h.1.1.1.1
  have hn := h.2.1.n h.1.1
  unfold m_Sn_apart
  rw [q_req h hs, bS, q_req h ho, bS]
  refine kPair' ?_
  unfold m_Tw_spellingsApart
  have e1 := (h.2.1.2.2.1 s hs).2.2.2.1
  have e2 := (h.2.1.2.2.1 o ho).2.2.2.1
  rw [hasSign_y hn h8 hs, bS, if_neg u10, hasSign_y hn h8 ho, bS, if_neg u10, rdN (by omega) (by omega), bS, rdN (by omega) (by omega), bS, e1, e2]
  refine kPair' (kWk _ (measured_w (rt_vW h.1.1 hs) (rt_vW h.1.1 ho)) ?_)
  rintro ⟨x, M1⟩ ⟨q1, q2⟩
  exact ⟨q1, q2.wk (fun p hp => Or.inl hp)⟩
theorem q_payable {t L : Nat} {a : Row} {H : Nat → Row} {k : Nat} {M : KMem} (h : GO t a H k M) (hL : L ≤ 999) : kOk (m_Sn_payable t (nI L) M) (fun q => q.1 = nI (gr L (remK (c106 a) (dA a) 0 (sN a) 8)) ∧ frS (scr (t + 3)) M q.2) := by
  unfold m_Sn_payable
  rw [if_neg (nI_pos (by omega)), if_pos (show nI L ≤ 999 from (nI_leI (b := 999) (by omega) (by omega)).mpr hL)]
  exact kPair' (Cpay h.2.1 h.1 hL)
theorem q_worthIn {t s : Nat} {a : Row} {H : Nat → Row} {k : Nat} {M : KMem} (h : GO t a H k M) (hs : s < sN a) : kOk (m_Sn_worthIn t (nI s) M) (fun q => wR' (c107 a) (a93 a) (c106 a * dA a s) (decide (dA a s ≠ 0)) q.1 ∧ frS (scr (t + 3)) M q.2) := by
  unfold m_Sn_worthIn
  rw [q_req h hs, bS]
  exact kPair' (Cworth h.2.1 h.1 hs)
/-- the reason against a decree -/
def whyE (a : Row) (k x y z : Int32) : Prop := ∃ s, s < sN a ∧ dz k x y z (rtA a s) = 0
def whyS (a : Row) (k x y z : Int32) : Prop := ∃ s, s < sN a ∧ ∃ t, t < s ∧ a (5 * t + 1) = a (5 * s + 1) ∧ dz k x y z (rtA a t) = dz k x y z (rtA a s)
noncomputable def whyV (a : Row) (k x y z : Int32) : Int32 := @ite _ (whyE a k x y z) (Classical.propDecidable _) 1 (@ite _ (whyS a k x y z) (Classical.propDecidable _) 2 0)
theorem whyV_c (a : Row) (k x y z : Int32) : (whyV a k x y z = 1 ∧ whyE a k x y z) ∨ (whyV a k x y z = 2 ∧ ¬ whyE a k x y z ∧ whyS a k x y z) ∨ (whyV a k x y z = 0 ∧ ¬ whyE a k x y z ∧ ¬ whyS a k x y z) := by
  unfold whyV
  by_cases h : whyE a k x y z
  · exact Or.inl ⟨if_pos h, h⟩
  · by_cases h2 : whyS a k x y z
    · refine Or.inr (Or.inl ⟨?_, h, h2⟩)
      rw [if_neg h, if_pos h2]
    · refine Or.inr (Or.inr ⟨?_, h, h2⟩)
      rw [if_neg h, if_neg h2]
theorem hind_why {a b : Row} {k x y z : Int32} (hn : sN b = sN a) (hb : ∀ s, s < sN a → b (5 * s + 1) = a (5 * s + 1) ∧ rtA b s = dz k x y z (rtA a s)) : hind b = whyV a k x y z := by
  have hE' : hE b ↔ whyE a k x y z := by
    unfold hE whyE
    rw [hn]
    exact ⟨fun ⟨s, hs, e⟩ => ⟨s, hs, by rw [← (hb s hs).2]; exact e⟩, fun ⟨s, hs, e⟩ => ⟨s, hs, by rw [(hb s hs).2]; exact e⟩⟩
  have hS' : hS b ↔ whyS a k x y z := by
    unfold hS whyS
    rw [hn]
    constructor
    · rintro ⟨s, hs, t, ht, e1, e2⟩
      rw [(hb s hs).1, (hb t (by omega)).1] at e1
      rw [(hb s hs).2, (hb t (by omega)).2] at e2
      exact ⟨s, hs, t, ht, e1, e2⟩
    · rintro ⟨s, hs, t, ht, e1, e2⟩
      refine ⟨s, hs, t, ht, ?_, ?_⟩
      · rw [(hb s hs).1, (hb t (by omega)).1]; exact e1
      · rw [(hb s hs).2, (hb t (by omega)).2]; exact e2
  rcases whyV_c a k x y z with ⟨e, p⟩ | ⟨e, p, q⟩ | ⟨e, p, q⟩
  · rw [e, hind_1 (hE'.mpr p)]
  · rw [e, hind_2 (fun z => p (hE'.mp z)) (hS'.mpr q)]
  · rw [e, hind_0 (fun z => p (hE'.mp z)) (fun z => q (hS'.mp z))]
theorem against_why {t : Nat} {a : Row} {k x y z : Int32} {M : KMem} (h : CR a t M) (hI : Inv a) (hd : okD k x y z) :
    kOk (m_Tw_reasonAgainstDecree t k x y z M) (fun q => q.1 = whyV a k x y z ∧ frS (fun o => o = t + 17) M q.2) := by
  refine kWk _ (against_ok h hI.1 hd) ?_
  rintro ⟨r, M2⟩ ⟨g1, g2, g3⟩
  obtain ⟨b, b0, b41, b1, b2⟩ := mkRow a (sN a) (fun s => dz k x y z (rtA a s))
  have h8 := hI.1.1.1
  have hb1 : sN b = sN a := sN_of b0 (by omega)
  have hb2 : ∀ s, s < sN a → b (5 * s + 1) = a (5 * s + 1) ∧ rtA b s = dz k x y z (rtA a s) := fun s hs => by
    refine ⟨b1 s (by omega), ?_⟩
    unfold rtA
    rw [dN_of b41 (by omega), b2 s (by omega)]
    rfl
  exact ⟨(g1 b hb1 hb2).trans (hind_why hb1 hb2), g3⟩
theorem canBe_of {k x y z : Int32} (h : m_De_canBe k x y z = some 1) : okD k x y z := by
  rcases argsc k x y z with ⟨-, h2⟩ | h2
  · exact h2
  · rw [h] at h2; cases h2
theorem q_why {t : Nat} {a : Row} {H : Nat → Row} {kk : Nat} {k x y z : Int32} {M : KMem} (h : GO t a H kk M) (hb : m_De_canBe k x y z = some 1) : kOk (m_Sn_why t k x y z M) (fun q => q.1 = whyV a k x y z ∧ frS (scr (t + 3)) M q.2) := by
  unfold m_Sn_why m_Sn_requireDecreeArguments
  rw [hb, bS, if_neg u10, bS]
  refine kPair' (kWk _ (against_why h.2.1 h.1 (canBe_of hb)) ?_)
  rintro ⟨r, M2⟩ ⟨g1, g2⟩
  exact ⟨g1, g2.wk (fun o ho => Or.inr (Or.inr ho))⟩
/-- the letters that could be dropped: what is asked of them is their bits -/
theorem q_droppable {t : Nat} {a : Row} {H : Nat → Row} {k : Nat} {M : KMem} (h : GO t a H k M) : kOk (m_SR_droppable t M) (fun q => (∀ i, i < 6 → (jshr q.1 (nI i)) &&& 1 = if whyV a 0 (nI (i + 1)) 0 0 = 0 then 1 else 0) ∧ frS (scr (t + 3)) M q.2) := by
  have od : ∀ i, i < 6 → okD 0 (nI (i + 1)) 0 0 := fun i hi => ⟨0, i + 1, 0, 0, ⟨by omega, ⟨by omega, by omega⟩, by omega, by omega, fun e => by omega⟩, rfl, rfl, rfl, rfl⟩
  unfold m_SR_droppable
  refine kB (fun q => (∀ i, i < 6 → (jshr q.1 (nI i)) &&& 1 = if whyV a 0 (nI (i + 1)) 0 0 = 0 then 1 else 0) ∧ frS (scr (t + 3)) M q.2) (kFor (fun i q => ∃ v M1, q = (nI v, nI (i + 1), M1) ∧ v < 2 ^ i ∧ (∀ j, j < i → (v.testBit j = true ↔ whyV a 0 (nI (j + 1)) 0 0 = 0)) ∧ frS (scr (t + 3)) M M1) 6 ?_ ?_ (i0 := 0) (by omega) (by omega) ⟨0, M, rfl, by decide, fun j hj => by omega, frS.rf⟩) (fun x hx => kPair' (kOk_i hx))
  · rintro i _ hi ⟨v, M1, rfl, f1, f2, f3⟩
    obtain ⟨⟨r, M2⟩, e, g1, g2⟩ := against_why (h.sc f3).2.1 h.1 (od i hi)
    simp only at g1 g2
    subst g1
    have f4 : frS (scr (t + 3)) M M2 := f3.tr (g2.wk (fun o ho => Or.inr (Or.inr ho)))
    have hv : nI v ||| jshl 1 (nI i) = nI (v + 2 ^ i) := by
      have : ∀ i, i < 6 → ∀ v, v < 2 ^ i → nI v ||| jshl 1 (nI i) = nI (v + 2 ^ i) := by decide +kernel
      exact this i hi v f1
    have hstep : ∀ w, (if whyV a 0 (nI (i + 1)) 0 0 = 0 then (some (nI v ||| jshl 1 (nI (i + 1) - 1)) : Option Int32) else some (nI v)) = some (nI w) → m_SR_droppable_l4 t (nI v, nI (i + 1), M1) = some (.inl (nI w, nI (i + 1 + 1), M2)) := fun w hw => by
      unfold m_SR_droppable_l4
      show (if 6 < nI (i + 1) then _ else Option.bind (m_Tw_reasonAgainstDecree (t + 3) 0 (nI (i + 1)) 0 0 M1) _) = _
      rw [if_neg (by rw [show (6 : Int32) = nI 6 from rfl, nI_ltI (by omega) (by omega)]; omega), e, bS]
      show Option.bind (if whyV a 0 (nI (i + 1)) 0 0 = 0 then some (nI v ||| jshl 1 (nI (i + 1) - 1)) else some (nI v)) _ = _
      rw [hw, bS, nI_1]
    have bits : ∀ i, i < 6 → ∀ v, v < 2 ^ i → ∀ j, j < 6 → ((v + 2 ^ i).testBit j = (v.testBit j || decide (j = i))) := by decide +kernel
    by_cases hr : whyV a 0 (nI (i + 1)) 0 0 = 0
    · refine Or.inl ⟨(nI (v + 2 ^ i), nI (i + 1 + 1), M2), hstep _ (by rw [if_pos hr, nI_pred, hv]), v + 2 ^ i, M2, rfl, by rw [Nat.pow_succ]; omega, fun j hj => ?_, f4⟩
      rw [bits i hi v f1 j (by omega)]
      by_cases hji : j = i
      · subst hji; simp [hr]
      · simp only [hji, decide_false, Bool.or_false]; exact f2 j (by omega)
    · refine Or.inl ⟨(nI v, nI (i + 1 + 1), M2), hstep _ (by rw [if_neg hr]), v, M2, rfl, by rw [Nat.pow_succ]; omega, fun j hj => ?_, f4⟩
      by_cases hji : j = i
      · subst hji
        have : v.testBit j = false := Nat.testBit_lt_two_pow f1
        rw [this]
        exact ⟨fun z => Bool.noConfusion z, fun z => (hr z).elim⟩
      · exact f2 j (by omega)
  · rintro _ ⟨v, M1, rfl, f1, f2, f3⟩
    refine ⟨(nI v, M1), rfl, fun i hi => ?_, f3⟩
    have : ∀ v, v < 2 ^ 6 → ∀ i, i < 6 → (jshr (nI v) (nI i)) &&& 1 = if v.testBit i = true then 1 else 0 := by decide +kernel
    show jshr (nI v) (nI i) &&& 1 = _
    rw [this v f1 i hi]
    by_cases hr : whyV a 0 (nI (i + 1)) 0 0 = 0
    · rw [if_pos hr, if_pos ((f2 i hi).mpr hr)]
    · rw [if_neg hr, if_neg (fun z => hr ((f2 i hi).mp z))]
/-! the actions that the law does with its own arguments -/
theorem n_months {t n : Nat} {a : Row} {H : Nat → Row} {k : Nat} {M : KMem} (h : GO t a H k M) (h1 : 1 ≤ n) (h2 : n ≤ 60) : kOk (m_Sn_months t (nI n) M) (fun q => q.1 = monsA a n 95 - a 95 ∧ GO t (monsA a n) (pushH H k a) (min k 13 + 1) q.2 ∧ frS (rg t) M q.2) := by
  unfold m_Sn_months
  rw [if_neg (by rw [show (1 : Int32) = nI 1 from rfl, nI_ltI (by omega) (by omega)]; omega), if_pos (by rw [show (60 : Int32) = nI 60 from rfl, nI_leI (by omega) (by omega)]; omega)]
  refine kB _ (Gacts (a' := monsA a n) h) ?_
  rintro M9 ⟨c1, c3⟩
  refine kB _ (months_ok (n := n) c1 h.1 (by omega)) ?_
  rintro ⟨x, M12⟩ ⟨b1, b2, b3⟩
  simp only at b1 b2 b3
  subst b1
  have := c3 M12 b3 (monsA_inv h.1 n) b2
  exact kOk_i ⟨rfl, this.1, this.2⟩
theorem n_paint {t s : Nat} {a : Row} {H : Nat → Row} {k : Nat} {M : KMem} (h : GO t a H k M) (hs : s < sN a) : kOk (m_Sn_paint t (nI s) M) (fun q => q.1 = coA a s ∧ GO t (paintsA a s) (pushH H k a) (min k 13 + 1) q.2 ∧ frS (rg t) M q.2) := by
  unfold m_Sn_paint
  rw [q_req h hs, bS]
  refine kB _ (Gacts (a' := paintsA a s) h) ?_
  rintro M9 ⟨c1, c3⟩
  refine kB _ (repaint_ok c1 h.1.1 hs) ?_
  rintro ⟨x, M12⟩ ⟨b1, b2, b3⟩
  simp only at b1 b2 b3
  subst b1
  have := c3 M12 b3 (paintsA_inv h.1 hs) b2
  exact kOk_i ⟨rfl, this.1, this.2⟩
theorem n_undo {t : Nat} {a b : Row} {H : Nat → Row} {k : Nat} {M : KMem} (h : GO t b (pushH H k a) (min k 13 + 1) M) (hk : k ≤ 14) : kOk (m_Sn_undo t M) (fun q => q.1 = nI (min k 13) ∧ GO t a (pushH H k a) (min k 13) q.2 ∧ frS (rg t) M q.2) := by
  have := sn_undo h (by omega)
  rw [push_top hk] at this
  exact this
