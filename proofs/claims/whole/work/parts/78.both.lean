/-! LAYER 2: commands, on both sides at once -/
/-- what the model's answer to a command says of its success -/
def tkP (c : Int32) (ok : Bool) (t : Int32) : Prop := (ok = true → (rcs c → t = 0) ∧ t ≠ -9) ∧ (ok = false → (rcs c → t ≠ 0) ∧ (t = -9 ∨ (rcs c ∧ ¬ t ≤ 0)) ∧ (¬ rcs c → t = -9))
abbrev moD : Nat → Prop := fun o => o = 236 ∨ o = 241 ∨ o = 242
/-- the class's command in the town u (its success: suc) and the model's (its letter c), from the state b -/
def BT (u : Nat) (b : Row) (c p1 p2 p3 : Int32) (cl : KMem → Option (Int32 × KMem)) (suc : Int32 → Prop) : Prop :=
  ∃ (ok : Bool) (b' : Row), Inv b' ∧ (∀ M, CR b u M → kOk (cl M) (fun q => (ok = true ↔ suc q.1) ∧ CR b' u q.2 ∧ frS (twn u) M q.2)) ∧
    ∀ M, M 236 = b → M 235 11 = c → M 235 12 = p1 → (c = 106 ∨ c = 115 → M 235 13 = p2) → (c = 106 → M 235 14 = p3) → kOk (m_Mo_does 235 M) (fun q => tkP c ok q.1 ∧ q.2 236 = b' ∧ frS moD M q.2)
theorem tk_h {c : Int32} (hc : rcs c) (b : Row) : tkP c (decide (hind b = 0)) (hind b) := by
  rcases hind_c b with ⟨e, -⟩ | ⟨e, -⟩ | ⟨e, -⟩
  · rw [e]
    exact ⟨fun h => absurd h (by decide), fun _ => ⟨fun _ => by decide, Or.inr ⟨hc, by decide⟩, fun z => (z hc).elim⟩⟩
  · rw [e]
    exact ⟨fun h => absurd h (by decide), fun _ => ⟨fun _ => by decide, Or.inr ⟨hc, by decide⟩, fun z => (z hc).elim⟩⟩
  · rw [e]
    exact ⟨fun _ => ⟨fun _ => rfl, by decide⟩, fun h => absurd h (by decide)⟩
theorem tk_no (c : Int32) : tkP c false (-9) := ⟨fun h => absurd h (by decide), fun _ => ⟨fun _ => by decide, Or.inl rfl, fun _ => rfl⟩⟩
theorem nI_nm9 {k : Nat} (h : k < 2 ^ 31) : nI k ≠ -9 := fun e => by
  have h1 := nI_pos (n := k) h
  rw [e] at h1
  exact h1 (by decide)
theorem tk_n {c : Int32} (hc : ¬ rcs c) {k : Nat} (hk : k < 2 ^ 31) : tkP c true (nI k) := ⟨fun _ => ⟨fun z => (hc z).elim, nI_nm9 hk⟩, fun h => absurd h (by decide)⟩
theorem ds_D {M : KMem} {r : Int32} {b : Row} {q : Int32 × KMem} (h : dsP 235 M r b q) : q.1 = r ∧ q.2 236 = b ∧ frS moD M q.2 := h
theorem BT_s {u : Nat} {b : Row} {g : Nat} {w : Int32} (hI : Inv b) (hg : g < 4) (hw : m_Wo_isWord w = some 1) (p3 : Int32) : BT u b 115 (nI g) w p3 (m_Tw_bringSign u (nI g) w) (fun r => r = 0) := by
  have vw : vW w := by
    rcases isWord_c w with ⟨-, -, h, -⟩ | ⟨h, -⟩
    · exact h
    · rw [hw] at h; cases h
  by_cases hn : sN b < 8
  · refine ⟨decide (hind (comesB b (nI g) w) = 0), comesA b (nI g) w, comesA_inv hI hn hg vw, fun M hc => ?_, fun M h1 h2 h3 h4 h5 => ?_⟩
    · refine kWk _ (bring_ok hc hI hn hg vw) ?_
      rintro q ⟨q1, q2, q3⟩
      exact ⟨by rw [q1]; exact decide_eq_true_iff, q2, q3⟩
    · have := Mdoes_s (v := 235) (M := M) (g := g) (w := w) (by rw [show M (235 + 1) = b from h1]; exact hI.1) h2 h3 (h4 (Or.inr rfl)) hg hw (by rw [show M (235 + 1) = b from h1]; exact hn)
      rw [show M (235 + 1) = b from h1] at this
      refine kWk _ this ?_
      rintro q ⟨q1, q2, q3⟩
      exact ⟨by rw [q1]; exact tk_h (Or.inl rfl) _, q2, q3⟩
  · have hn8 : sN b = 8 := by have := hI.1.1.1; omega
    refine ⟨false, b, hI, fun M hc => ?_, fun M h1 h2 h3 h4 h5 => ?_⟩
    · rw [bring_no hc hI.1 (Or.inl hn8)]
      exact kOk_i ⟨⟨fun h => absurd h (by decide), fun h => absurd h (show ¬ (3 : Int32) = 0 by decide)⟩, hc, frS.rf⟩
    · rw [does_s h2, h3, h4 (Or.inr rfl)]
      rcases errSign_c (v := 235) (M := M) (by rw [show M (235 + 1) = b from h1]; exact hI.1) (nI g) w with ⟨g', e1, e2, e3, e4, e5, e6, e7⟩ | ⟨e1, e2⟩ | ⟨g', e1, e2, e3, e4⟩ | ⟨g', e1, e2, e3, e4, e5, e6, e7⟩
      · rw [show M (235 + 1) = b from h1] at e6; omega
      · rw [does_no e2 (by decide)]; exact kOk_i ⟨tk_no _, h1, frS.rf⟩
      · rw [does_no e4 (by decide)]; exact kOk_i ⟨tk_no _, h1, frS.rf⟩
      · rw [does_no e7 (by decide)]; exact kOk_i ⟨tk_no _, h1, frS.rf⟩
theorem BT_g {u : Nat} {b : Row} {k x y z c : Int32} (hI : Inv b) (hb : m_De_canBe k x y z = some 1) (hd : okD k x y z) (hc : c = if k = 0 then 100 else if k = 1 then 106 else 111) : BT u b c x y z (m_Tw_giveDecree u k x y z) (fun r => r = 0) := by
  have hrc : rcs c := by
    rw [hc]
    unfold rcs
    by_cases c0 : k = 0
    · rw [if_pos c0]; exact Or.inr (Or.inl rfl)
    · rw [if_neg c0]
      by_cases c1 : k = 1
      · rw [if_pos c1]; exact Or.inr (Or.inr (Or.inl rfl))
      · rw [if_neg c1]; exact Or.inr (Or.inr (Or.inr (Or.inl rfl)))
  have h106 : k = 1 → c = 106 := fun h => by rw [hc, h]; rfl
  by_cases hn : dN b < 10
  · refine ⟨decide (hind (givesB b k x y z) = 0), givesA b k x y z, givesA_inv hI hn hd, fun M hcr => ?_, fun M h1 h2 h3 h4 h5 => ?_⟩
    · refine kWk _ (give_ok hcr hI.1 hd hn) ?_
      rintro q ⟨q1, q2, q3⟩
      exact ⟨by rw [q1]; exact decide_eq_true_iff, q2, q3⟩
    · refine kWk _ (Mdoes_k hI.1 h1 hb hd hn hc h2 h3 (fun e => h4 (Or.inl (h106 e))) (fun e => h5 (h106 e))) ?_
      rintro q ⟨q1, q2, q3⟩
      exact ⟨by rw [q1]; exact tk_h hrc _, q2, q3⟩
  · have hn10 : dN b = 10 := by have := hI.1.2.1.1; omega
    refine ⟨false, b, hI, fun M hcr => ?_, fun M h1 h2 h3 h4 h5 => ?_⟩
    · rw [give_full hcr hI.1 hn10]
      exact kOk_i ⟨⟨fun h => absurd h (by decide), fun h => absurd h (show ¬ (3 : Int32) = 0 by decide)⟩, hcr, frS.rf⟩
    · have hIM : InvB (M (235 + 1)) := by rw [show M (235 + 1) = b from h1]; exact hI.1
      have er : ∀ y' z' k', m_De_canBe k' x y' z' = some 1 → m_Mo_errorOfDecree 235 k' x y' z' M = some 2 := fun y' z' k' hb' => by
        rcases errDecree_c hIM k' x y' z' with ⟨e1, e2, e3, e4⟩ | ⟨e1, e2⟩ | ⟨e1, e2, e3, e4⟩
        · rw [show M (235 + 1) = b from h1] at e3; omega
        · rw [hb'] at e1; cases e1
        · exact e4
      obtain ⟨k', x', y', z', hN, rfl, rfl, rfl, rfl⟩ := hd
      by_cases c0 : nI k' = 0
      · rw [if_pos c0] at hc
        rw [does_d (h2.trans hc), h3]
        have hyz : nI y' = 0 ∧ nI z' = 0 := by
          unfold m_De_canBe at hb
          rw [c0, if_neg (by decide), if_neg (by decide), WisLetter_n (by have := hN.2.1; omega), if_pos hN.2.1, bS, if_neg u10, if_neg (by decide)] at hb
          by_cases c1 : nI y' = 0
          · rw [if_pos c1] at hb
            by_cases c2 : nI z' = 0
            · exact ⟨c1, c2⟩
            · rw [if_neg c2] at hb; cases hb
          · rw [if_neg c1] at hb; cases hb
        rw [hyz.1, hyz.2, c0] at hb
        rw [does_no (er 0 0 0 hb) (by decide)]
        exact kOk_i ⟨tk_no _, h1, frS.rf⟩
      · rw [if_neg c0] at hc
        by_cases c1 : nI k' = 1
        · rw [if_pos c1] at hc
          rw [does_j (h2.trans hc), h3, h4 (Or.inl hc), h5 hc]
          rw [c1] at hb
          rw [does_no (er _ _ 1 hb) (by decide)]
          exact kOk_i ⟨tk_no _, h1, frS.rf⟩
        · rw [if_neg c1] at hc
          have k2 : k' = 2 := by
            have := hN.1
            have d0 : k' ≠ 0 := fun e => c0 (by rw [e]; rfl)
            have d1 : k' ≠ 1 := fun e => c1 (by rw [e]; rfl)
            omega
          subst k2
          rw [does_o (h2.trans hc), h3]
          have hyz : nI y' = 0 ∧ nI z' = 0 := by
            unfold m_De_canBe at hb
            rw [if_neg (by decide), if_neg (by decide), WisLetter_n (by have := hN.2.1; omega), if_pos hN.2.1, bS, if_neg u10, if_neg (by decide)] at hb
            by_cases c1 : nI y' = 0
            · rw [if_pos c1] at hb
              by_cases c2 : nI z' = 0
              · exact ⟨c1, c2⟩
              · rw [if_neg c2] at hb; cases hb
            · rw [if_neg c1] at hb; cases hb
          rw [hyz.1, hyz.2] at hb
          rw [does_no (er 0 0 2 hb) (by decide)]
          exact kOk_i ⟨tk_no _, h1, frS.rf⟩
theorem BT_r {u : Nat} {b : Row} {k : Nat} (hI : Inv b) (hk : k < 2 ^ 30) (p2 p3 : Int32) : BT u b 114 (nI k) p2 p3 (m_Tw_takeDecree u (nI k)) (fun r => r = 0) := by
  have h10 := hI.1.2.1.1
  by_cases hn : k < dN b
  · refine ⟨decide (hind (revB b k) = 0), revA b k, revA_inv hI hn, fun M hc => ?_, fun M h1 h2 h3 h4 h5 => ?_⟩
    · refine kWk _ (take_ok hc hI.1 hn) ?_
      rintro q ⟨q1, q2, q3⟩
      exact ⟨by rw [q1]; exact decide_eq_true_iff, q2, q3⟩
    · have := Mdoes_r (v := 235) (M := M) (s := k) (by rw [show M (235 + 1) = b from h1]; exact hI.1) h2 h3 (by rw [show M (235 + 1) = b from h1]; exact hn)
      rw [show M (235 + 1) = b from h1] at this
      refine kWk _ this ?_
      rintro q ⟨q1, q2, q3⟩
      exact ⟨by rw [q1]; exact tk_h (by unfold rcs; simp) _, q2, q3⟩
  · refine ⟨false, b, hI, fun M hc => ?_, fun M h1 h2 h3 h4 h5 => ?_⟩
    · rw [take_no hc hI.1 (Or.inr (by rw [nI_leI (by omega) (by omega)]; omega))]
      exact kOk_i ⟨⟨fun h => absurd h (by decide), fun h => absurd h (show ¬ (3 : Int32) = 0 by decide)⟩, hc, frS.rf⟩
    · rw [does_r h2, h3]
      rcases isDecree_c (v := 235) (M := M) (n := dN b) (nI k) (by rw [show M (235 + 1) = b from h1]; exact hI.1.2.1.2) (by omega) with ⟨s, e1, e2, e3⟩ | ⟨e1, e2⟩
      · rw [nI_eq (by omega) (by omega)] at e2; omega
      · rw [does_no0 e2]; exact kOk_i ⟨tk_no _, h1, frS.rf⟩
theorem coA_n {a : Row} (h : Inv a) {s : Nat} (hs : s < sN a) : ∃ k, k ≤ 160 ∧ coA a s = nI k := ⟨_, cd_le h s, coA_e h hs⟩
theorem BT_p {u : Nat} {b : Row} {s : Nat} (hI : Inv b) (hk : s < 2 ^ 30) (p2 p3 : Int32) : BT u b 112 (nI s) p2 p3 (m_Tw_repaint u (nI s)) (fun r => r ≠ -1) := by
  have h8 := hI.1.1.1
  have hrc : ¬ rcs 112 := by unfold rcs; decide
  by_cases hn : s < sN b
  · obtain ⟨k, hk, ek⟩ := coA_n hI hn
    refine ⟨true, paintsA b s, paintsA_inv hI hn, fun M hc => ?_, fun M h1 h2 h3 h4 h5 => ?_⟩
    · refine kWk _ (repaint_ok hc hI.1 hn) ?_
      rintro q ⟨q1, q2, q3⟩
      exact ⟨⟨fun _ => by rw [q1, ek]; exact nI_nm1 (by omega), fun _ => rfl⟩, q2, q3⟩
    · have := Mdoes_p (v := 235) (M := M) (s := s) (by rw [show M (235 + 1) = b from h1]; exact hI.1) h2 h3 (by rw [show M (235 + 1) = b from h1]; exact hn)
      rw [show M (235 + 1) = b from h1] at this
      refine kWk _ this ?_
      rintro q ⟨q1, q2, q3⟩
      exact ⟨by rw [q1, ek]; exact tk_n hrc (by omega), q2, q3⟩
  · refine ⟨false, b, hI, fun M hc => ?_, fun M h1 h2 h3 h4 h5 => ?_⟩
    · rw [repaint_no hc hI.1 (Or.inr (by rw [nI_leI (by omega) (by omega)]; omega))]
      exact kOk_i ⟨⟨fun h => absurd h (by decide), fun h => (h rfl).elim⟩, hc, frS.rf⟩
    · rw [does_p h2, h3]
      rcases isSign_c (v := 235) (M := M) (n := sN b) (nI s) (by rw [show M (235 + 1) = b from h1]; exact hI.1.1.2) (by omega) with ⟨t, e1, e2, e3⟩ | ⟨e1, e2⟩
      · rw [nI_eq (by omega) (by omega)] at e2; omega
      · rw [does_no0 e2]; exact kOk_i ⟨tk_no _, h1, frS.rf⟩
/-- fines only grow, and slowly -/
theorem finA_95 {a : Row} (h : Inv a) : ∀ s, s ≤ sN a → ∃ k, k ≤ 20 * s ∧ finA a s 95 = a 95 + nI k := by
  intro s
  induction s with
  | zero => intro _; exact ⟨0, by omega, by show a 95 = a 95 + nI 0; rw [nI_0, Int32.add_zero]⟩
  | succ s ih =>
    intro hs
    obtain ⟨k, hk, e⟩ := ih (by omega)
    obtain ⟨x, hx, ex⟩ := h.2.2.2.2.2.1
    have e107 := finA_107 h s (by omega)
    have hstep : finA a (s + 1) 95 = finA a s 95 + (if finA a s (5 * s + 3) = rtA (finA a s) s then 0 else finA a s 107) := by
      show finS (finA a s) s 95 = _
      unfold finS
      rw [pk_us]
    by_cases hw : finA a s (5 * s + 3) = rtA (finA a s) s
    · rw [if_pos hw, Int32.add_zero] at hstep
      exact ⟨k, by omega, by rw [hstep, e]⟩
    · rw [if_neg hw, e107, ex, e] at hstep
      refine ⟨k + x, by omega, ?_⟩
      rw [hstep, Int32.add_assoc, nI_add]
theorem monA_95 {a : Row} (h : Inv a) : ∃ k, k ≤ 160 ∧ monA a 95 = a 95 + nI k := by
  have hb : Inv (upd a 92 (a 92 + 1)) := inv_92 h
  have e95 : upd a 92 (a 92 + 1) 95 = a 95 := pk_un (by omega)
  obtain ⟨b, hbe⟩ : ∃ b, b = upd a 92 (a 92 + 1) := ⟨_, rfl⟩
  have em : monA a 95 = (if b 93 = 0 then finA b (sN b) else b) 95 := by rw [hbe]; exact pk_un (by omega)
  rw [em, ← e95, ← hbe]
  rw [← hbe] at hb
  have h8 := hb.1.1.1
  split
  · obtain ⟨k, hk, e⟩ := finA_95 hb _ (Nat.le_refl _)
    exact ⟨k, by omega, e⟩
  · exact ⟨0, by omega, by rw [nI_0, Int32.add_zero]⟩
theorem monsA_95 {a : Row} (h : Inv a) : ∀ n, ∃ k, k ≤ 160 * n ∧ monsA a n 95 = a 95 + nI k := by
  intro n
  induction n with
  | zero => exact ⟨0, by omega, by show a 95 = _; rw [nI_0, Int32.add_zero]⟩
  | succ n ih =>
    obtain ⟨k, hk, e⟩ := ih
    obtain ⟨j, hj, e2⟩ := monA_95 (monsA_inv h n)
    refine ⟨k + j, by omega, ?_⟩
    show monA (monsA a n) 95 = _
    rw [e2, e, Int32.add_assoc, nI_add]
theorem add_sub_c (a b : Int32) : a + b - a = b := by
  rw [Int32.add_comm]
  exact Int32.add_sub_cancel _ _
theorem BT_m {u : Nat} {b : Row} {n : Nat} (hI : Inv b) (h1 : 1 ≤ n) (h2 : n ≤ 60) (p2 p3 : Int32) : BT u b 109 (nI n) p2 p3 (m_Tw_passMonths u (nI n)) (fun _ => True) := by
  have hrc : ¬ rcs 109 := by unfold rcs; decide
  obtain ⟨k, hk, ek⟩ := monsA_95 hI n
  refine ⟨true, monsA b n, monsA_inv hI n, fun M hc => ?_, fun M g1 g2 g3 g4 g5 => ?_⟩
  · refine kWk _ (months_ok hc hI (by omega)) ?_
    rintro q ⟨q1, q2, q3⟩
    exact ⟨⟨fun _ => trivial, fun _ => rfl⟩, q2, q3⟩
  · have := Mdoes_m (v := 235) (M := M) (n := n) (by rw [show M (235 + 1) = b from g1]; exact hI) g2 g3 h1 h2
    rw [show M (235 + 1) = b from g1] at this
    refine kWk _ this ?_
    rintro q ⟨q1, q2, q3⟩
    exact ⟨by rw [q1, ek, add_sub_c]; exact tk_n hrc (by omega), q2, q3⟩
theorem wrC_n (a : Row) : ∀ n, ∃ k, k ≤ n ∧ wrC a n = nI k := by
  intro n
  induction n with
  | zero => exact ⟨0, by omega, rfl⟩
  | succ n ih =>
    obtain ⟨k, hk, e⟩ := ih
    simp only [wrC]
    rw [e]
    split
    · exact ⟨k, by omega, Int32.add_zero _⟩
    · exact ⟨k + 1, by omega, nI_1 k⟩
theorem BT_y {u : Nat} {b : Row} {n : Nat} (hI : Inv b) (h1 : 1 ≤ n) (h2 : n ≤ 9) (p2 p3 : Int32) : BT u b 121 (nI n) p2 p3 (m_Tw_forgive u (nI n)) (fun r => r ≠ -1) := by
  have hrc : ¬ rcs 121 := by unfold rcs; decide
  by_cases hcf : cfA b
  · obtain ⟨k, hk, ek⟩ := wrC_n (sparesA b (nI n)) (sN (sparesA b (nI n)))
    have hs8 := (sparesA_inv hI h2).1.1.1
    refine ⟨true, sparesA b (nI n), sparesA_inv hI h2, fun M hc => ?_, fun M g1 g2 g3 g4 g5 => ?_⟩
    · refine kWk _ (forgive_ok hc hI h2 hcf) ?_
      rintro q ⟨q1, q2, q3⟩
      exact ⟨⟨fun _ => by rw [q1, ek]; exact nI_nm1 (by omega), fun _ => rfl⟩, q2, q3⟩
    · have := Mdoes_y (v := 235) (M := M) (n := n) (by rw [show M (235 + 1) = b from g1]; exact hI) g2 g3 h1 h2 (by rw [show M (235 + 1) = b from g1]; exact hcf)
      rw [show M (235 + 1) = b from g1] at this
      refine kWk _ this ?_
      rintro q ⟨q1, q2, q3⟩
      exact ⟨by rw [q1, ek]; exact tk_n hrc (by omega), q2, q3⟩
  · refine ⟨false, b, hI, fun M hc => ?_, fun M g1 g2 g3 g4 g5 => ?_⟩
    · rw [forgive_no hc hcf]
      exact kOk_i ⟨⟨fun h => absurd h (by decide), fun h => (h rfl).elim⟩, hc, frS.rf⟩
    · rw [does_y g2, g3]
      rcases errAmn_c (v := 235) (M := M) (nI n) with ⟨m, e1, e2, e3, e4, e5⟩ | ⟨e1, e2⟩ | ⟨m, e1, e2, e3, e4, e5⟩
      · rw [show M (235 + 1) = b from g1] at e4; exact (hcf e4).elim
      · rw [does_no e2 (by decide)]; exact kOk_i ⟨tk_no _, g1, frS.rf⟩
      · rw [does_no e5 (by decide)]; exact kOk_i ⟨tk_no _, g1, frS.rf⟩
