/-! LAYER 2: the model's acts, as functions of its row -/
theorem frS.k {S : Nat → Prop} {M M1 : KMem} {o j : Nat} {v : Int32} (h : frS S M M1) (ho : S o) : frS S M (kup M1 o j v) := h.tr (frS.up ho)
theorem nI_s1 {n : Nat} (h : 1 ≤ n) : nI n - 1 = nI (n - 1) := pk_sub h
theorem kup_fn {M : KMem} {o j : Nat} {v : Int32} : kup M o j v o = upd (M o) j v := kup_o M o j v
/-- a sign comes -/
def comesB (a : Row) (g w : Int32) : Row := upd (upd (upd (upd (upd (upd a 0 (nI (sN a + 1))) (5 * sN a + 1) g) (5 * sN a + 2) w) (5 * sN a + 3) (spR (rD a) (dN a) w)) (5 * sN a + 4) 0) (5 * sN a + 5) 0
noncomputable def comesA (a : Row) (g w : Int32) : Row := upd (comesB a g w) 0 (comesB a g w 0 - if hind (comesB a g w) ≤ 0 then 0 else 1)
theorem comesB_out {a : Row} {g w : Int32} {i : Nat} (h0 : i ≠ 0) (h : i < 5 * sN a + 1 ∨ 5 * sN a + 5 < i) : comesB a g w i = a i := by
  simp (disch := omega) only [comesB, pk_un]
theorem comesB_0 (a : Row) (g w : Int32) : comesB a g w 0 = nI (sN a + 1) := by
  simp (disch := omega) only [comesB, pk_un, pk_us]
theorem comesB_1 (a : Row) (g w : Int32) : comesB a g w (5 * sN a + 1) = g := by
  simp (disch := omega) only [comesB, pk_un, pk_us]
theorem comesB_2 (a : Row) (g w : Int32) : comesB a g w (5 * sN a + 2) = w := by
  simp (disch := omega) only [comesB, pk_un, pk_us]
theorem comesB_3 (a : Row) (g w : Int32) : comesB a g w (5 * sN a + 3) = spR (rD a) (dN a) w := by
  simp (disch := omega) only [comesB, pk_un, pk_us]
theorem comesB_4 (a : Row) (g w : Int32) : comesB a g w (5 * sN a + 4) = 0 := by
  simp (disch := omega) only [comesB, pk_un, pk_us]
theorem comesB_5 (a : Row) (g w : Int32) : comesB a g w (5 * sN a + 5) = 0 := by
  simp (disch := omega) only [comesB, pk_us]
theorem comesB_n {a : Row} {g w : Int32} (hn : sN a < 8) : sN (comesB a g w) = sN a + 1 ∧ dN (comesB a g w) = dN a ∧ rD (comesB a g w) = rD a := by
  refine ⟨sN_of (comesB_0 a g w) (by omega), ?_, ?_⟩
  · unfold dN
    rw [comesB_out (by omega) (by omega)]
  · funext i
    exact comesB_out (by omega) (by omega)
theorem comesB_rt {a : Row} {g w : Int32} (hn : sN a < 8) {s : Nat} (hs : s < sN a) : rtA (comesB a g w) s = rtA a s := by
  obtain ⟨h1, h2, h3⟩ := comesB_n (g := g) (w := w) hn
  unfold rtA
  rw [h2, h3, comesB_out (by omega) (by omega)]
theorem comesB_rn {a : Row} {g w : Int32} (hn : sN a < 8) : rtA (comesB a g w) (sN a) = spR (rD a) (dN a) w := by
  obtain ⟨h1, h2, h3⟩ := comesB_n (g := g) (w := w) hn
  unfold rtA
  rw [h2, h3, comesB_2]
theorem comesB_inv {a : Row} {g : Nat} {w : Int32} (hI : InvB a) (hn : sN a < 8) (hg : g < 4) (hw : vW w) : InvB (comesB a (nI g) w) := by
  obtain ⟨h1, h2, h3⟩ := comesB_n (g := nI g) (w := w) hn
  obtain ⟨i1, i2, i3, i4⟩ := hI
  refine ⟨⟨by omega, by rw [h1, comesB_0]⟩, ⟨by omega, by rw [h2, comesB_out (by omega) (by omega)]; exact i2.2⟩, by rw [h2, h3]; exact i3, fun s hs => ?_⟩
  rw [h1] at hs
  by_cases hsn : s = sN a
  · subst hsn
    rw [comesB_1, comesB_2, comesB_3]
    exact ⟨⟨g, hg, rfl⟩, hw, spR_vW i3 hw _ (Nat.le_refl _)⟩
  · rw [comesB_out (by omega) (by omega), comesB_out (by omega) (by omega), comesB_out (by omega) (by omega)]
    exact i4 s (by omega)
theorem comesB_C {a : Row} {g w : Int32} (hn : sN a < 8) (hI : InvC a) : InvC (comesB a g w) := by
  have e : ∀ i, 92 ≤ i → comesB a g w i = a i := fun i hi => comesB_out (by omega) (by omega)
  unfold InvC
  rw [e 93 (by omega), e 95 (by omega), e 96 (by omega), e 98 (by omega), e 99 (by omega), e 100 (by omega), e 101 (by omega), e 102 (by omega), e 103 (by omega), e 104 (by omega), e 105 (by omega), e 106 (by omega), e 107 (by omega)]
  exact hI
theorem comesA_y {a : Row} {g w : Int32} (h : hind (comesB a g w) = 0) : comesA a g w = comesB a g w := by
  funext i
  unfold comesA
  rw [h, if_pos (by decide)]
  by_cases hi : i = 0
  · subst hi; rw [pk_us]; exact Int32.sub_zero _
  · rw [pk_un hi]
theorem comesA_n {a : Row} {g w : Int32} (hI : InvB a) (hn : sN a < 8) (h : hind (comesB a g w) ≠ 0) : LE a (comesA a g w) := by
  have hne : ¬ hind (comesB a g w) ≤ 0 := fun e => h ((hind_le _).mp e)
  have e : ∀ i, i ≠ 0 → comesA a g w i = comesB a g w i := fun i hi => by unfold comesA; rw [pk_un hi]
  refine ⟨?_, ?_, fun i hi => ?_, fun i hi => ?_, fun i h1 h2 => ?_⟩
  · unfold comesA
    rw [pk_us, if_neg hne, comesB_0, nI_pred]
    exact hI.1.2.symm
  · rw [e 41 (by omega), comesB_out (by omega) (by omega)]
  · rw [e _ (by omega), comesB_out (by omega) (by omega)]
  · rw [e _ (by omega), comesB_out (by omega) (by omega)]
  · rw [e _ (by omega), comesB_out (by omega) (by omega)]
theorem comesA_inv {a : Row} {g : Nat} {w : Int32} (hI : Inv a) (hn : sN a < 8) (hg : g < 4) (hw : vW w) : Inv (comesA a (nI g) w) := by
  by_cases h : hind (comesB a (nI g) w) = 0
  · rw [comesA_y h]
    exact ⟨comesB_inv hI.1 hn hg hw, hind_R h, comesB_C hn hI.2.2⟩
  · exact (comesA_n hI.1 hn h).inv hI
/-- a decree is given -/
def givesB (a : Row) (k x y z : Int32) : Row := upd (upd (upd (upd (upd (upd a 41 (nI (dN a + 1))) (42 + 5 * dN a + 0) k) (42 + 5 * dN a + 1) x) (42 + 5 * dN a + 2) y) (42 + 5 * dN a + 3) z) (42 + 5 * dN a + 4) (a 92)
noncomputable def givesA (a : Row) (k x y z : Int32) : Row := upd (givesB a k x y z) 41 (givesB a k x y z 41 - if hind (givesB a k x y z) ≤ 0 then 0 else 1)
theorem givesB_out {a : Row} {k x y z : Int32} {i : Nat} (h0 : i ≠ 41) (h : i < 42 + 5 * dN a ∨ 42 + 5 * dN a + 4 < i) : givesB a k x y z i = a i := by
  simp (disch := omega) only [givesB, pk_un]
theorem givesB_41 (a : Row) (k x y z : Int32) : givesB a k x y z 41 = nI (dN a + 1) := by
  simp (disch := omega) only [givesB, pk_un, pk_us]
theorem givesB_j (a : Row) (k x y z : Int32) : givesB a k x y z (42 + 5 * dN a) = k ∧ givesB a k x y z (42 + 5 * dN a + 1) = x ∧ givesB a k x y z (42 + 5 * dN a + 2) = y ∧ givesB a k x y z (42 + 5 * dN a + 3) = z ∧ givesB a k x y z (42 + 5 * dN a + 4) = a 92 := by
  refine ⟨?_, ?_, ?_, ?_, ?_⟩
  · show givesB a k x y z (42 + 5 * dN a + 0) = k
    simp (disch := omega) only [givesB, pk_un, pk_us]
  · simp (disch := omega) only [givesB, pk_un, pk_us]
  · simp (disch := omega) only [givesB, pk_un, pk_us]
  · simp (disch := omega) only [givesB, pk_un, pk_us]
  · simp (disch := omega) only [givesB, pk_us]
theorem givesB_n {a : Row} {k x y z : Int32} (hn : sN a ≤ 8) (hd : dN a ≤ 10) : sN (givesB a k x y z) = sN a ∧ dN (givesB a k x y z) = dN a + 1 := by
  refine ⟨?_, dN_of (givesB_41 a k x y z) (by omega)⟩
  unfold sN
  rw [givesB_out (by omega) (by omega)]
theorem givesB_rt {a : Row} {k x y z : Int32} (hn : sN a ≤ 8) (hd : dN a ≤ 10) {s : Nat} (hs : s < sN a) : rtA (givesB a k x y z) s = dz k x y z (rtA a s) := by
  obtain ⟨h1, h2⟩ := givesB_n (k := k) (x := x) (y := y) (z := z) hn hd
  obtain ⟨j0, j1, j2, j3, j4⟩ := givesB_j a k x y z
  unfold rtA
  rw [h2, givesB_out (i := 5 * s + 2) (by omega) (by omega)]
  show dzR (rD (givesB a k x y z)) (dN a) (spR (rD (givesB a k x y z)) (dN a) _) = _
  rw [spR_congr (R := rD (givesB a k x y z)) (R' := rD a) _ _ (fun i hi => givesB_out (by omega) (by omega))]
  unfold dzR
  show dz (givesB a k x y z (42 + 5 * dN a)) (givesB a k x y z (42 + (5 * dN a + 1))) (givesB a k x y z (42 + (5 * dN a + 2))) (givesB a k x y z (42 + (5 * dN a + 3))) _ = _
  rw [j0, ← Nat.add_assoc, j1, ← Nat.add_assoc, j2, ← Nat.add_assoc, j3]
theorem givesB_inv {a : Row} {k x y z : Int32} (hI : InvB a) (hm : dN a < 10) (hd : okD k x y z) : InvB (givesB a k x y z) := by
  obtain ⟨i1, i2, i3, i4⟩ := hI
  obtain ⟨h1, h2⟩ := givesB_n (k := k) (x := x) (y := y) (z := z) i1.1 i2.1
  obtain ⟨j0, j1, j2, j3, j4⟩ := givesB_j a k x y z
  refine ⟨by rw [h1, givesB_out (by omega) (by omega)]; exact i1, ⟨by omega, by rw [h2, givesB_41]⟩, ?_, fun s hs => ?_⟩
  · rw [h2]
    intro q hq
    show okD (givesB a k x y z (42 + 5 * q)) (givesB a k x y z (42 + (5 * q + 1))) (givesB a k x y z (42 + (5 * q + 2))) (givesB a k x y z (42 + (5 * q + 3)))
    by_cases hqn : q = dN a
    · subst hqn
      rw [j0, ← Nat.add_assoc, j1, ← Nat.add_assoc, j2, ← Nat.add_assoc, j3]
      exact hd
    · rw [givesB_out (by omega) (by omega), givesB_out (by omega) (by omega), givesB_out (by omega) (by omega), givesB_out (by omega) (by omega)]
      exact i3 q (by omega)
  · rw [h1] at hs
    rw [givesB_out (by omega) (by omega), givesB_out (by omega) (by omega), givesB_out (by omega) (by omega)]
    exact i4 s hs
theorem givesB_C {a : Row} {k x y z : Int32} (hm : dN a < 10) (hI : InvC a) : InvC (givesB a k x y z) := by
  have e : ∀ i, 92 ≤ i → givesB a k x y z i = a i := fun i hi => givesB_out (by omega) (by omega)
  unfold InvC
  rw [e 93 (by omega), e 95 (by omega), e 96 (by omega), e 98 (by omega), e 99 (by omega), e 100 (by omega), e 101 (by omega), e 102 (by omega), e 103 (by omega), e 104 (by omega), e 105 (by omega), e 106 (by omega), e 107 (by omega)]
  exact hI
theorem givesA_y {a : Row} {k x y z : Int32} (h : hind (givesB a k x y z) = 0) : givesA a k x y z = givesB a k x y z := by
  funext i
  unfold givesA
  rw [h, if_pos (by decide)]
  by_cases hi : i = 41
  · subst hi; rw [pk_us]; exact Int32.sub_zero _
  · rw [pk_un hi]
theorem givesA_n {a : Row} {k x y z : Int32} (hI : InvB a) (hm : dN a < 10) (h : hind (givesB a k x y z) ≠ 0) : LE a (givesA a k x y z) := by
  have hne : ¬ hind (givesB a k x y z) ≤ 0 := fun e => h ((hind_le _).mp e)
  have e : ∀ i, i ≠ 41 → givesA a k x y z i = givesB a k x y z i := fun i hi => by unfold givesA; rw [pk_un hi]
  have h8 := hI.1.1
  refine ⟨?_, ?_, fun i hi => ?_, fun i hi => ?_, fun i h1 h2 => ?_⟩
  · rw [e _ (by omega), givesB_out (by omega) (by omega)]
  · unfold givesA
    rw [pk_us, if_neg hne, givesB_41, nI_pred]
    exact hI.2.1.2.symm
  · rw [e _ (by omega), givesB_out (by omega) (by omega)]
  · rw [e _ (by omega), givesB_out (by omega) (by omega)]
  · rw [e _ (by omega), givesB_out (by omega) (by omega)]
theorem givesA_inv {a : Row} {k x y z : Int32} (hI : Inv a) (hm : dN a < 10) (hd : okD k x y z) : Inv (givesA a k x y z) := by
  by_cases h : hind (givesB a k x y z) = 0
  · rw [givesA_y h]
    exact ⟨givesB_inv hI.1 hm hd, hind_R h, givesB_C hm hI.2.2⟩
  · exact (givesA_n hI.1 hm h).inv hI
/-- a decree is revoked -/
def shR (R : Nat → Int32) (k : Nat) : Nat → Int32 := fun i => if 5 * k ≤ i then R (i + 5) else R i
theorem shR_spX {R : Nat → Int32} {k : Nat} {w : Int32} : (∀ n, n ≤ k → k < 2 ^ 31 → spR (shR R k) n w = spX R (nI k) n w) ∧ (∀ n, k ≤ n → n < 2 ^ 31 - 1 → spR (shR R k) n w = spX R (nI k) (n + 1) w) := by
  have A : ∀ n, n ≤ k → k < 2 ^ 31 → spR (shR R k) n w = spX R (nI k) n w := by
    intro n
    induction n with
    | zero => intro _ _; rfl
    | succ n ih =>
      intro hn hk
      simp only [spR, spX]
      rw [if_neg (by rw [nI_eq (by omega) hk]; omega), ih (by omega) hk]
      refine dzR_congr _ (fun j hj => ?_)
      unfold shR
      rw [if_neg (by omega)]
  refine ⟨A, ?_⟩
  intro n
  induction n with
  | zero =>
    intro hk hn
    have : k = 0 := by omega
    subst this
    simp only [spR, spX]
    rw [if_pos trivial]
  | succ n ih =>
    intro hk hn
    by_cases hkn : k = n + 1
    · rw [A _ (by omega) (by omega)]
      show spX R (nI k) (n + 1) w = if nI (n + 1) = nI k then spX R (nI k) (n + 1) w else dzR R (n + 1) (spX R (nI k) (n + 1) w)
      rw [if_pos (by rw [hkn])]
    · show dzR (shR R k) n (spR (shR R k) n w) = if nI (n + 1) = nI k then spX R (nI k) (n + 1) w else dzR R (n + 1) (spX R (nI k) (n + 1) w)
      rw [if_neg (by rw [nI_eq (by omega) (by omega)]; omega), ih (by omega) (by omega)]
      unfold dzR
      rw [show shR R k (5 * n) = R (5 * (n + 1)) from by unfold shR; rw [if_pos (by omega)]; congr 1, show shR R k (5 * n + 1) = R (5 * (n + 1) + 1) from by unfold shR; rw [if_pos (by omega)]; congr 1, show shR R k (5 * n + 2) = R (5 * (n + 1) + 2) from by unfold shR; rw [if_pos (by omega)]; congr 1, show shR R k (5 * n + 3) = R (5 * (n + 1) + 3) from by unfold shR; rw [if_pos (by omega)]; congr 1]
def shB (a : Row) (k e : Nat) : Row := fun i => if 42 + 5 * k ≤ i ∧ i < e then a (i + 5) else a i
def revB (a : Row) (k : Nat) : Row := upd (shB a k (42 + 5 * (dN a - 1))) 41 (nI (dN a - 1))
noncomputable def revA (a : Row) (k : Nat) : Row := @ite _ (hind (revB a k) ≤ 0) (Classical.propDecidable _) (revB a k) a
theorem revB_out {a : Row} {k i : Nat} (h0 : i ≠ 41) (h : i < 42 + 5 * k ∨ 42 + 5 * (dN a - 1) ≤ i) : revB a k i = a i := by
  unfold revB shB
  rw [pk_un h0, if_neg (by omega)]
theorem revB_n {a : Row} {k : Nat} (hd : dN a ≤ 10) : sN (revB a k) = sN a ∧ dN (revB a k) = dN a - 1 := by
  refine ⟨?_, dN_of (by unfold revB; exact pk_us) (by omega)⟩
  unfold sN
  rw [revB_out (by omega) (by omega)]
theorem revB_D {a : Row} {k i : Nat} (hi : i < 5 * (dN a - 1)) : rD (revB a k) i = shR (rD a) k i := by
  show revB a k (42 + i) = _
  unfold revB shB shR
  rw [pk_un (by omega)]
  by_cases h : 5 * k ≤ i
  · rw [if_pos (by omega), if_pos h]
    rfl
  · rw [if_neg (by omega), if_neg h]
theorem revB_rt {a : Row} {k : Nat} (hn : sN a ≤ 8) (hd : dN a ≤ 10) (hk : k < dN a) {s : Nat} (hs : s < sN a) : rtA (revB a k) s = spX (rD a) (nI k) (dN a) (a (5 * s + 2)) := by
  unfold rtA
  rw [(revB_n hd).2, revB_out (by omega) (by omega), spR_congr (R' := shR (rD a) k) _ _ (fun i hi => revB_D hi), shR_spX.2 (dN a - 1) (by omega) (by omega), show dN a - 1 + 1 = dN a by omega]
theorem revB_inv {a : Row} {k : Nat} (hI : InvB a) (hk : k < dN a) : InvB (revB a k) := by
  obtain ⟨i1, i2, i3, i4⟩ := hI
  obtain ⟨h1, h2⟩ := revB_n (a := a) (k := k) i2.1
  refine ⟨by rw [h1, revB_out (by omega) (by omega)]; exact i1, ⟨by omega, by rw [h2]; unfold revB; exact pk_us⟩, ?_, fun s hs => ?_⟩
  · rw [h2]
    intro q hq
    rw [revB_D (by omega), revB_D (by omega), revB_D (by omega), revB_D (by omega)]
    by_cases hqk : k ≤ q
    · have := i3 (q + 1) (by omega)
      unfold shR
      rw [if_pos (by omega), if_pos (by omega), if_pos (by omega), if_pos (by omega)]
      exact this
    · unfold shR
      rw [if_neg (by omega), if_neg (by omega), if_neg (by omega), if_neg (by omega)]
      exact i3 q (by omega)
  · rw [h1] at hs
    rw [revB_out (by omega) (by omega), revB_out (by omega) (by omega), revB_out (by omega) (by omega)]
    exact i4 s hs
theorem revB_C {a : Row} {k : Nat} (hd : dN a ≤ 10) (hI : InvC a) : InvC (revB a k) := by
  have e : ∀ i, 92 ≤ i → revB a k i = a i := fun i hi => revB_out (by omega) (by omega)
  unfold InvC
  rw [e 93 (by omega), e 95 (by omega), e 96 (by omega), e 98 (by omega), e 99 (by omega), e 100 (by omega), e 101 (by omega), e 102 (by omega), e 103 (by omega), e 104 (by omega), e 105 (by omega), e 106 (by omega), e 107 (by omega)]
  exact hI
theorem revA_y {a : Row} {k : Nat} (h : hind (revB a k) = 0) : revA a k = revB a k := by
  unfold revA
  rw [if_pos (by rw [h]; decide)]
theorem revA_n {a : Row} {k : Nat} (h : hind (revB a k) ≠ 0) : revA a k = a := by
  unfold revA
  rw [if_neg (fun e => h ((hind_le _).mp e))]
theorem revA_inv {a : Row} {k : Nat} (hI : Inv a) (hk : k < dN a) : Inv (revA a k) := by
  by_cases h : hind (revB a k) = 0
  · rw [revA_y h]
    exact ⟨revB_inv hI.1 hk, hind_R h, revB_C hI.1.2.1.1 hI.2.2⟩
  · rw [revA_n h]; exact hI
