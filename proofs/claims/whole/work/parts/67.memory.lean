/-! LAYER 2: states copied, remembered, saved -/
theorem cpM_n {M : KMem} {o0 o1 sp dp n o : Nat} (h : o ≠ o1) : cpM M o0 o1 sp dp n o = M o := if_neg h
theorem cpM_0 {M : KMem} {o0 o1 n j : Nat} (h : j < n) : cpM M o0 o1 0 0 n o1 j = M o0 j := by
  rw [cpM_in (by omega) (by omega)]
  congr 1
  omega
theorem cp8 {M : KMem} {o0 o1 : Nat} : cpI M o0 8 o1 8 0 0 8 = some (cpM M o0 o1 0 0 8) := cpN (sp := 0) (dp := 0) (n := 8) (by omega) (by omega) (by omega)
theorem cp4 {M : KMem} {o0 o1 : Nat} : cpI M o0 4 o1 4 0 0 4 = some (cpM M o0 o1 0 0 4) := cpN (sp := 0) (dp := 0) (n := 4) (by omega) (by omega) (by omega)
theorem cp2 {M : KMem} {o0 o1 : Nat} : cpI M o0 2 o1 2 0 0 2 = some (cpM M o0 o1 0 0 2) := cpN (sp := 0) (dp := 0) (n := 2) (by omega) (by omega) (by omega)
theorem cp50 {M : KMem} {o0 o1 : Nat} : cpI M o0 50 o1 50 0 0 (Int32.ofNat 50) = some (cpM M o0 o1 0 0 50) := cpN (sp := 0) (dp := 0) (n := 50) (by omega) (by omega) (by omega)
theorem frS.c {S : Nat → Prop} {M M1 : KMem} {o0 o1 sp dp n : Nat} (h : frS S M M1) (ho : S o1) : frS S M (cpM M1 o0 o1 sp dp n) := h.tr (cpM_fr ho)
/-- the objects of a State -/
abbrev stO (d : Nat) : Nat → Prop := fun o => d + 1 ≤ o ∧ o ≤ d + 12
theorem copy_ok {d p : Nat} {M : KMem} (hdp : d + 12 ≤ p ∨ p + 12 ≤ d) :
    kOk (m_St_copyFrom (d + 1) (p + 1) M) (fun M' => (∀ a, InvB a → CR a p M → CR a d M') ∧ frS (stO d) M M') := by
  have T : ∀ j, 1 ≤ j → j ≤ 12 → stO d (d + j) := fun j h1 h2 => ⟨by omega, by omega⟩
  unfold m_St_copyFrom m_De_copyFrom
  rw [bS, cp50, bS, bS, bS, cp8, bS, cp8, bS, cp8, bS, cp8, bS, cp8, bS, cp8, bS, cp4, bS, cp4, bS, cp2, bS, bS, bS, bS, bS]
  refine kOk_i ⟨fun a hI h => ?_, frS.k (frS.k (frS.k (frS.k (frS.c (frS.c (frS.c (frS.c (frS.c (frS.c (frS.c (frS.c (frS.c (frS.k (frS.c (frS.k frS.rf (T 2 (by omega) (by omega))) (T 3 (by omega) (by omega))) (T 1 (by omega) (by omega))) (T 4 (by omega) (by omega))) (T 5 (by omega) (by omega))) (T 6 (by omega) (by omega))) (T 7 (by omega) (by omega))) (T 8 (by omega) (by omega))) (T 9 (by omega) (by omega))) (T 10 (by omega) (by omega))) (T 11 (by omega) (by omega))) (T 12 (by omega) (by omega))) (T 1 (by omega) (by omega))) (T 1 (by omega) (by omega))) (T 1 (by omega) (by omega))) (T 1 (by omega) (by omega))⟩
  have h8 := hI.1.1
  have h10 := hI.2.1.1
  obtain ⟨⟨k1, k2, k3, k4, k5, k6⟩, k7, k8, k9, k10, k11⟩ := h
  have e2 : p + 1 + 1 = p + 2 := rfl
  refine ⟨⟨?_, ?_, ?_, ?_, ?_, ?_⟩, fun i hi => ?_, fun s hs => ?_, fun g hg => ?_, ?_, ?_⟩
  · simp (disch := omega) only [kup_n, kup_j, kup_s, cpM_n]; exact k1
  · simp (disch := omega) only [kup_n, kup_j, kup_s, cpM_n]; exact k2
  · simp (disch := omega) only [kup_n, kup_j, kup_s, cpM_n]; exact k3
  · simp (disch := omega) only [kup_n, kup_j, kup_s, cpM_n]; exact k4
  · simp (disch := omega) only [kup_n, kup_j, kup_s, cpM_n]; exact k5
  · simp (disch := omega) only [kup_n, kup_j, kup_s, cpM_n]; exact k6
  · simp (disch := omega) only [kup_n, cpM_n]
    refine (cpM_0 (o1 := d + 1 + 1 + 1) (by omega)).trans ?_
    rw [kup_n _ _ _ (by omega)]
    exact k7 i hi
  · obtain ⟨l1, l2, l3, l4, l5, l6⟩ := k8 s hs
    refine ⟨?_, ?_, ?_, ?_, ?_, ?_⟩
    · simp (disch := omega) only [kup_n, cpM_n]
      refine (cpM_0 (o1 := d + 1 + 3) (by omega)).trans ?_
      simp (disch := omega) only [kup_n, cpM_n]
      exact l1
    · simp (disch := omega) only [kup_n, cpM_n]
      refine (cpM_0 (o1 := d + 1 + 4) (by omega)).trans ?_
      simp (disch := omega) only [kup_n, cpM_n]
      exact l2
    · simp (disch := omega) only [kup_n, cpM_n]
      refine (cpM_0 (o1 := d + 1 + 5) (by omega)).trans ?_
      simp (disch := omega) only [kup_n, cpM_n]
      exact l3
    · simp (disch := omega) only [kup_n, cpM_n]
      refine (cpM_0 (o1 := d + 1 + 6) (by omega)).trans ?_
      simp (disch := omega) only [kup_n, cpM_n]
      exact l4
    · simp (disch := omega) only [kup_n, cpM_n]
      refine (cpM_0 (o1 := d + 1 + 7) (by omega)).trans ?_
      simp (disch := omega) only [kup_n, cpM_n]
      exact l5
    · simp (disch := omega) only [kup_n, cpM_n]
      refine (cpM_0 (o1 := d + 1 + 8) (by omega)).trans ?_
      simp (disch := omega) only [kup_n, cpM_n]
      exact l6
  · refine ⟨?_, ?_⟩
    · simp (disch := omega) only [kup_n, cpM_n]
      refine (cpM_0 (o1 := d + 1 + 9) (by omega)).trans ?_
      simp (disch := omega) only [kup_n, cpM_n]
      exact (k9 g hg).1
    · simp (disch := omega) only [kup_n, cpM_n]
      refine (cpM_0 (o1 := d + 1 + 10) (by omega)).trans ?_
      simp (disch := omega) only [kup_n, cpM_n]
      exact (k9 g hg).2
  · simp (disch := omega) only [kup_n, cpM_n]
    refine (cpM_0 (o1 := d + 1 + 11) (by omega)).trans ?_
    simp (disch := omega) only [kup_n, cpM_n]
    exact k10
  · simp (disch := omega) only [kup_n, cpM_n]
    refine (cpM_0 (o1 := d + 1 + 11) (by omega)).trans ?_
    simp (disch := omega) only [kup_n, cpM_n]
    exact k11
/-! the remembered states: of the class, at 39; H: what they show -/
def MR (H : Nat → Row) (o k : Nat) (M : KMem) : Prop := M 39 1 = nI o ∧ M 39 2 = nI k ∧ o < 14 ∧ k ≤ 14 ∧ ∀ j, j < k → Inv (H j) ∧ CR (H j) (42 + 12 * ((o + j) % 14)) M
theorem rem14 {o k : Nat} (h1 : o < 14) (h2 : k ≤ 14) : jrem (nI o + nI k) 14 = nI ((o + k) % 14) := by
  rw [nI_add]
  exact remN (d := 14) (by omega) (by omega) (by omega)
/-- what the ring shows when a is remembered -/
def pushH (H : Nat → Row) (k : Nat) (a : Row) : Nat → Row := fun j => if k < 14 then (if j = k then a else H j) else if j < 13 then H (j + 1) else a
theorem Crem_ok {H : Nat → Row} {o k : Nat} {a : Row} {M : KMem} (h : MR H o k M) (hI : Inv a) (hc : CR a 3 M) :
    kOk (m_Me_remember 39 4 M) (fun M' => (∃ o', MR (pushH H k a) o' (min k 13 + 1) M') ∧ CR a 3 M' ∧ frS (fun p => p = 39 ∨ 43 ≤ p ∧ p ≤ 210) M M') := by
  obtain ⟨h1, h2, h3, h4, h5⟩ := h
  have hq : (o + k) % 14 < 14 := Nat.mod_lt _ (by omega)
  unfold m_Me_remember
  rw [h1, h2, rem14 h3 h4, ckN hq (by omega), bS]
  obtain ⟨q, hqe⟩ : ∃ q, q = (o + k) % 14 := ⟨_, rfl⟩
  rw [← hqe] at hq ⊢
  refine kB (fun M' => (∀ a, InvB a → CR a 3 M → CR a (42 + 12 * q) M') ∧ frS (stO (42 + 12 * q)) M M') ?_ ?_
  · have e : 39 + (4 + 12 * q) = 42 + 12 * q + 1 := by omega
    rw [e]
    exact copy_ok (p := 3) (by omega)
  rintro M5 ⟨g1, g2⟩
  have hc5 : CR a 3 M5 := hc.fr g2 (fun p hp => by omega)
  have hcq := g1 a hI.1 hc
  have e1 : M5 39 1 = nI o := by rw [g2 39 (by omega)]; exact h1
  have e2 : M5 39 2 = nI k := by rw [g2 39 (by omega)]; exact h2
  have old : ∀ j, j < k → (o + j) % 14 ≠ q → CR (H j) (42 + 12 * ((o + j) % 14)) M5 := fun j hj hne => (h5 j hj).2.fr g2 (fun p hp => by omega)
  have fr1 : frS (fun p => p = 39 ∨ 43 ≤ p ∧ p ≤ 210) M M5 := g2.wk (fun p (hp : 42 + 12 * q + 1 ≤ p ∧ p ≤ 42 + 12 * q + 12) => Or.inr ⟨by omega, by omega⟩)
  by_cases hk : k = 14
  · subst hk
    rw [if_pos (by rw [e2]; decide), bS, bS, e1]
    have hqo : q = o := by omega
    have ej : jrem (nI o + 1) 14 = nI ((o + 1) % 14) := by
      rw [nI_1]
      exact remN (d := 14) (by omega) (by omega) (by omega)
    rw [ej]
    have hlt : (o + 1) % 14 < 14 := Nat.mod_lt _ (by omega)
    refine kOk_i ⟨⟨(o + 1) % 14, kup_s _ _ _ _, by rw [kup_j _ _ _ (by omega)]; exact e2, hlt, by omega, fun j hj => ?_⟩, hc5.fr (frS.up (S := fun p => p = 39) rfl) (fun p hp => by omega), frS.k fr1 (Or.inl rfl)⟩
    unfold pushH
    rw [if_neg (by omega)]
    by_cases hj13 : j < 13
    · rw [if_pos hj13]
      have e3 : ((o + 1) % 14 + j) % 14 = (o + (j + 1)) % 14 := by omega
      rw [e3]
      refine ⟨(h5 (j + 1) (by omega)).1, (old (j + 1) (by omega) (by omega)).fr (frS.up (S := fun p => p = 39) rfl) (fun p hp => by omega)⟩
    · rw [if_neg hj13]
      have e3 : ((o + 1) % 14 + j) % 14 = q := by omega
      rw [e3]
      exact ⟨hI, hcq.fr (frS.up (S := fun p => p = 39) rfl) (fun p hp => by omega)⟩
  · rw [if_neg (by rw [e2, show (14 : Int32) = nI 14 from rfl, nI_leI (by omega) (by omega)]; omega), bS, bS, e2, nI_1]
    refine kOk_i ⟨⟨o, by rw [kup_j _ _ _ (by omega)]; exact e1, by rw [kup_s, Nat.min_eq_left (by omega)], h3, by omega, fun j hj => ?_⟩, hc5.fr (frS.up (S := fun p => p = 39) rfl) (fun p hp => by omega), frS.k fr1 (Or.inl rfl)⟩
    unfold pushH
    rw [if_pos (by omega)]
    by_cases hjk : j = k
    · subst hjk
      rw [if_pos rfl, ← hqe]
      exact ⟨hI, hcq.fr (frS.up (S := fun p => p = 39) rfl) (fun p hp => by omega)⟩
    · rw [if_neg hjk]
      exact ⟨(h5 j (by omega)).1, (old j (by omega) (by omega)).fr (frS.up (S := fun p => p = 39) rfl) (fun p hp => by omega)⟩
theorem Cback_ok {H : Nat → Row} {o k : Nat} {M : KMem} (h : MR H o k M) (hk : 0 < k) :
    kOk (m_Me_takeBack 39 4 M) (fun M' => MR H o (k - 1) M' ∧ M' 39 2 = nI (k - 1) ∧ CR (H (k - 1)) 3 M' ∧ frS (fun p => p = 39 ∨ 4 ≤ p ∧ p ≤ 15) M M') := by
  obtain ⟨h1, h2, h3, h4, h5⟩ := h
  have hq : (o + (k - 1)) % 14 < 14 := Nat.mod_lt _ (by omega)
  unfold m_Me_takeBack
  rw [h2, if_neg (nI_ne0 hk (by omega)), bS, nI_s1 (by omega), kup_j _ _ _ (by omega), kup_s, h1, rem14 h3 (by omega), ckN hq (by omega), bS]
  obtain ⟨q, hqe⟩ : ∃ q, q = (o + (k - 1)) % 14 := ⟨_, rfl⟩
  rw [← hqe] at hq ⊢
  have hM3 : frS (fun p => p = 39) M (kup M 39 2 (nI (k - 1))) := frS.up rfl
  refine kB (fun M' => (∀ a, InvB a → CR a (42 + 12 * q) (kup M 39 2 (nI (k - 1))) → CR a 3 M') ∧ frS (stO 3) (kup M 39 2 (nI (k - 1))) M') ?_ ?_
  · have e : 39 + (4 + 12 * q) = 42 + 12 * q + 1 := by omega
    rw [e]
    exact copy_ok (d := 3) (by omega)
  rintro M8 ⟨g1, g2⟩
  have e1 : M8 39 1 = nI o := by rw [g2 39 (by omega), kup_j _ _ _ (by omega)]; exact h1
  have e2 : M8 39 2 = nI (k - 1) := by rw [g2 39 (by omega), kup_s]
  have hl := h5 (k - 1) (by omega)
  rw [← hqe] at hl
  refine kOk_i ⟨⟨e1, e2, h3, by omega, fun j hj => ⟨(h5 j (by omega)).1, ((h5 j (by omega)).2.fr hM3 (fun p hp => by omega)).fr g2 (fun p hp => by omega)⟩⟩, e2, g1 _ hl.1.1 (hl.2.fr hM3 (fun p hp => by omega)), (hM3.wk (fun p hp => Or.inl hp)).tr (g2.wk (fun p (hp : 3 + 1 ≤ p ∧ p ≤ 3 + 12) => Or.inr ⟨by omega, by omega⟩))⟩
/-! the model's -/
def hst (M : KMem) (j : Nat) : Row := fun i => M 238 (108 * j + i)
theorem Mrem_loop {v k : Nat} {M : KMem} (hk : k < 14) (h4 : M v 4 = nI k) :
    kOk (kLp (m_Mo_remember_l51 v) kFU (0, M)) (fun M' => (∀ i, M' (v + 3) i = if 108 * k ≤ i ∧ i < 108 * k + 108 then M (v + 1) (i - 108 * k) else M (v + 3) i) ∧ frS (fun o => o = v + 3) M M') := by
  refine kFor (fun i s => ∃ M1, s = (nI i, M1) ∧ (∀ j, M1 (v + 3) j = if 108 * k ≤ j ∧ j < 108 * k + i then M (v + 1) (j - 108 * k) else M (v + 3) j) ∧ frS (fun o => o = v + 3) M M1) 108 ?_ ?_ (i0 := 0) (by omega) (by omega) ⟨M, rfl, fun j => by rw [if_neg (by omega)], frS.rf⟩
  · rintro i _ hi ⟨M1, rfl, h1, h2⟩
    have e4 : M1 v 4 = nI k := by rw [h2 v (by omega)]; exact h4
    refine Or.inl ⟨(nI (i + 1), kup M1 (v + 3) (108 * k + i) (M (v + 1) i)), ?_, _, rfl, fun j => ?_, frS.k h2 rfl⟩
    · unfold m_Mo_remember_l51
      show (if 108 ≤ nI i then _ else _) = _
      rw [if_neg (by rw [show (108 : Int32) = nI 108 from rfl, nI_leI (by omega) (by omega)]; omega), rdN (by omega) (by omega), bS, e4, show (108 : Int32) * nI k + nI i = nI (108 * k + i) from by rw [show (108 : Int32) * nI k = nI (108 * k) from pk_mul 108 k, nI_add], wrN (by omega) (by omega), bS, nI_1, h2 (v + 1) (by omega)]
    · by_cases hj : j = 108 * k + i
      · subst hj
        rw [kup_s, if_pos (by omega), show 108 * k + i - 108 * k = i by omega]
      · rw [kup_j _ _ _ hj, h1]
        by_cases h3 : 108 * k ≤ j ∧ j < 108 * k + i
        · rw [if_pos h3, if_pos (by omega)]
        · rw [if_neg h3, if_neg (by omega)]
  · rintro _ ⟨M1, rfl, h1, h2⟩
    exact ⟨M1, rfl, h1, h2⟩
theorem Mrem_shift {v : Nat} {M : KMem} :
    kOk (kLp (m_Mo_remember_l11 v) kFU (0, M)) (fun M' => (∀ i, M' (v + 3) i = if i < 1404 then M (v + 3) (i + 108) else M (v + 3) i) ∧ frS (fun o => o = v + 3) M M') := by
  refine kFor (fun i s => ∃ M1, s = (nI i, M1) ∧ (∀ j, M1 (v + 3) j = if j < i then M (v + 3) (j + 108) else M (v + 3) j) ∧ frS (fun o => o = v + 3) M M1) 1404 ?_ ?_ (i0 := 0) (by omega) (by omega) ⟨M, rfl, fun j => by rw [if_neg (by omega)], frS.rf⟩
  · rintro i _ hi ⟨M1, rfl, h1, h2⟩
    refine Or.inl ⟨(nI (i + 1), kup M1 (v + 3) i (M (v + 3) (i + 108))), ?_, _, rfl, fun j => ?_, frS.k h2 rfl⟩
    · unfold m_Mo_remember_l11
      show (if 1404 ≤ nI i then _ else _) = _
      rw [if_neg (by rw [show (1404 : Int32) = nI 1404 from rfl, nI_leI (by omega) (by omega)]; omega), show nI i + 108 = nI (i + 108) from nI_add _ 108, rdN (by omega) (by omega), bS, wrN (by omega) (by omega), bS, nI_1, h1, if_neg (by omega)]
    · by_cases hj : j = i
      · subst hj
        rw [kup_s, if_pos (by omega)]
      · rw [kup_j _ _ _ hj, h1]
        by_cases h3 : j < i
        · rw [if_pos h3, if_pos (by omega)]
        · rw [if_neg h3, if_neg (by omega)]
  · rintro _ ⟨M1, rfl, h1, h2⟩
    exact ⟨M1, rfl, h1, h2⟩
theorem Mrem_ok {k : Nat} {M : KMem} (hk : k ≤ 14) (h4 : M 235 4 = nI k) :
    kOk (m_Mo_remember 235 M) (fun M' => M' 235 4 = nI (min k 13 + 1) ∧ (∀ j, j ≠ 4 → M' 235 j = M 235 j) ∧ (∀ j, j < min k 13 + 1 → ∀ i, i < 108 → hst M' j i = pushH (hst M) k (M 236) j i) ∧ frS (fun o => o = 235 ∨ o = 238) M M') := by
  unfold m_Mo_remember
  by_cases hk14 : k = 14
  · subst hk14
    rw [if_pos (show M 235 4 = 14 from h4)]
    refine kB (fun M' => M' 235 4 = nI 13 ∧ (∀ j, j ≠ 4 → M' 235 j = M 235 j) ∧ (∀ i, M' 238 i = if i < 1404 then M 238 (i + 108) else M 238 i) ∧ frS (fun o => o = 235 ∨ o = 238) M M') ?_ ?_
    · refine kB _ (Mrem_shift (v := 235)) ?_
      rintro M23 ⟨g1, g2⟩
      rw [bS]
      refine kOk_i ⟨?_, fun j hj => ?_, fun i => ?_, frS.k (g2.wk (fun o ho => Or.inr ho)) (Or.inl rfl)⟩
      · rw [kup_s, g2 235 (by omega), h4]; rfl
      · rw [kup_j _ _ _ hj, g2 235 (by omega)]
      · rw [kup_n _ _ _ (by omega)]; exact g1 i
    · rintro M1 ⟨g1, g2, g3, g4⟩
      refine kB _ (Mrem_loop (v := 235) (k := 13) (by omega) g1) ?_
      rintro M10 ⟨q1, q2⟩
      rw [bS]
      refine kOk_i ⟨?_, fun j hj => ?_, fun j hj i hi => ?_, frS.k (g4.tr (q2.wk (fun o ho => Or.inr ho))) (Or.inl rfl)⟩
      · rw [kup_s, q2 235 (by omega), g1]; rfl
      · rw [kup_j _ _ _ hj, q2 235 (by omega)]; exact g2 j hj
      · unfold hst pushH
        rw [kup_n _ _ _ (by omega), if_neg (by omega)]
        refine (q1 _).trans ?_
        by_cases hj13 : j < 13
        · rw [if_neg (by omega), if_pos hj13]
          refine (g3 _).trans ?_
          rw [if_pos (by omega)]
          exact congrArg (M 238) (show 108 * j + i + 108 = 108 * (j + 1) + i by omega)
        · rw [if_pos (by omega), if_neg hj13, g4 _ (by omega)]
          exact congrArg (M 236) (show 108 * j + i - 108 * 13 = i by omega)
  · rw [if_neg (by rw [h4, show (14 : Int32) = nI 14 from rfl, nI_eq (by omega) (by omega)]; exact hk14), bS]
    refine kB _ (Mrem_loop (v := 235) (k := k) (by omega) h4) ?_
    rintro M10 ⟨q1, q2⟩
    rw [bS]
    refine kOk_i ⟨?_, fun j hj => ?_, fun j hj i hi => ?_, frS.k (q2.wk (fun o ho => Or.inr ho)) (Or.inl rfl)⟩
    · rw [kup_s, q2 235 (by omega), h4, nI_1, Nat.min_eq_left (by omega)]
    · rw [kup_j _ _ _ hj, q2 235 (by omega)]
    · unfold hst pushH
      rw [kup_n _ _ _ (by omega), if_pos (by omega)]
      refine (q1 _).trans ?_
      by_cases hjk : j = k
      · subst hjk
        rw [if_pos (by omega), if_pos rfl]
        exact congrArg (M 236) (show 108 * j + i - 108 * j = i by omega)
      · rw [if_neg (by omega), if_neg hjk]
/-- the rows of two places, for the model's copying -/
theorem Mcopy_loop {f : (Int32 × KMem) → Option ((Int32 × KMem) ⊕ KMem)} {so to n m b c : Nat} {M : KMem} (hst : so ≠ to) (hb : b + 108 ≤ n) (hc : c + 108 ≤ m) (hn : n < 2 ^ 30) (hm : m < 2 ^ 30)
    (hstep : ∀ i M1, i < 108 → frS (fun o => o = to) M M1 → f (nI i, M1) = Option.bind (rdI M1 so n (nI (b + i))) fun x => Option.bind (wrI M1 to m (nI (c + i)) x) fun M15 => some (.inl (nI i + 1, M15)))
    (hend : ∀ M1, f (nI 108, M1) = some (.inr M1)) :
    kOk (kLp f kFU (0, M)) (fun M' => (∀ j, M' to j = if c ≤ j ∧ j < c + 108 then M so (b + (j - c)) else M to j) ∧ frS (fun o => o = to) M M') := by
  refine kFor (fun i s => ∃ M1, s = (nI i, M1) ∧ (∀ j, M1 to j = if c ≤ j ∧ j < c + i then M so (b + (j - c)) else M to j) ∧ frS (fun o => o = to) M M1) 108 ?_ ?_ (i0 := 0) (by omega) (by omega) ⟨M, rfl, fun j => by rw [if_neg (by omega)], frS.rf⟩
  · rintro i _ hi ⟨M1, rfl, h1, h2⟩
    refine Or.inl ⟨(nI (i + 1), kup M1 to (c + i) (M so (b + i))), ?_, _, rfl, fun j => ?_, frS.k h2 rfl⟩
    · rw [hstep i M1 hi h2, rdN (by omega) (by omega), bS, wrN (by omega) (by omega), bS, nI_1, h2 so hst]
    · by_cases hj : j = c + i
      · subst hj
        rw [kup_s, if_pos (by omega), show c + i - c = i by omega]
      · rw [kup_j _ _ _ hj, h1]
        by_cases h3 : c ≤ j ∧ j < c + i
        · rw [if_pos h3, if_pos (by omega)]
        · rw [if_neg h3, if_neg (by omega)]
  · rintro _ ⟨M1, rfl, h1, h2⟩
    exact ⟨M1, hend M1, h1, h2⟩
theorem nI_108F {i : Nat} (h : i < 108) : ¬ (108 : Int32) ≤ nI i := by
  rw [show (108 : Int32) = nI 108 from rfl, nI_leI (by omega) (by omega)]
  omega
theorem Maside_ok {M : KMem} : kOk (m_Mo_putAside 235 M) (fun M' => (∀ i, i < 108 → M' 237 i = M 236 i) ∧ frS (fun o => o = 237) M M') := by
  unfold m_Mo_putAside
  refine kB _ (Mcopy_loop (so := 236) (to := 237) (n := 108) (m := 108) (b := 0) (c := 0) (by omega) (by omega) (by omega) (by omega) (by omega) (fun i M1 hi _ => ?_) (fun M1 => rfl)) ?_
  · unfold m_Mo_putAside_l2
    show (if 108 ≤ nI i then _ else _) = _
    rw [if_neg (nI_108F hi), Nat.zero_add]
  · rintro M1 ⟨h1, h2⟩
    exact kOk_i ⟨fun i hi => by rw [h1, if_pos (by omega)]; congr 1; omega, h2⟩
theorem Mback_ok {M : KMem} : kOk (m_Mo_putBack 235 M) (fun M' => (∀ i, i < 108 → M' 236 i = M 237 i) ∧ frS (fun o => o = 236) M M') := by
  unfold m_Mo_putBack
  refine kB _ (Mcopy_loop (so := 237) (to := 236) (n := 108) (m := 108) (b := 0) (c := 0) (by omega) (by omega) (by omega) (by omega) (by omega) (fun i M1 hi _ => ?_) (fun M1 => rfl)) ?_
  · unfold m_Mo_putBack_l2
    show (if 108 ≤ nI i then _ else _) = _
    rw [if_neg (nI_108F hi), Nat.zero_add]
  · rintro M1 ⟨h1, h2⟩
    exact kOk_i ⟨fun i hi => by rw [h1, if_pos (by omega)]; congr 1; omega, h2⟩
theorem Mundo_loop {k : Nat} {M : KMem} (hk : k < 14) (h4 : M 235 4 = nI k) : kOk (kLp (m_Mo_undo_l33 235) kFU (0, M)) (fun M' => (∀ i, i < 108 → M' 236 i = hst M k i) ∧ frS (fun o => o = 236) M M') := by
  refine kWk _ (Mcopy_loop (so := 238) (to := 236) (n := 1512) (m := 108) (b := 108 * k) (c := 0) (by omega) (by omega) (by omega) (by omega) (by omega) (fun i M1 hi hf => ?_) (fun M1 => rfl)) ?_
  · unfold m_Mo_undo_l33
    show (if 108 ≤ nI i then _ else _) = _
    rw [if_neg (nI_108F hi), Nat.zero_add, hf 235 (by omega), h4, show (108 : Int32) * nI k + nI i = nI (108 * k + i) from by rw [show (108 : Int32) * nI k = nI (108 * k) from pk_mul 108 k, nI_add]]
  · rintro M1 ⟨h1, h2⟩
    exact ⟨fun i hi => by rw [h1, if_pos (by omega)]; rfl, h2⟩
def slt (M : KMem) (j : Nat) : Row := fun i => M 239 (108 * j + i)
theorem Msave_loop {k : Nat} {M : KMem} (hk : k < 2) : kOk (kLp (m_Mo_save_l25 235 (nI k)) kFU (0, M)) (fun M' => (∀ i, i < 108 → slt M' k i = M 236 i) ∧ (∀ j, j ≠ k → j < 2 → ∀ i, i < 108 → slt M' j i = slt M j i) ∧ frS (fun o => o = 239) M M') := by
  refine kWk _ (Mcopy_loop (so := 236) (to := 239) (n := 108) (m := 216) (b := 0) (c := 108 * k) (by omega) (by omega) (by omega) (by omega) (by omega) (fun i M1 hi hf => ?_) (fun M1 => rfl)) ?_
  · unfold m_Mo_save_l25
    show (if 108 ≤ nI i then _ else _) = _
    rw [if_neg (nI_108F hi), Nat.zero_add, show (108 : Int32) * nI k + nI i = nI (108 * k + i) from by rw [show (108 : Int32) * nI k = nI (108 * k) from pk_mul 108 k, nI_add]]
  · rintro M1 ⟨h1, h2⟩
    refine ⟨fun i hi => ?_, fun j hj hj2 i hi => ?_, h2⟩
    · unfold slt
      rw [h1, if_pos (by omega)]
      congr 1
      omega
    · unfold slt
      rw [h1, if_neg (by omega)]
theorem Mrest_loop {k : Nat} {M : KMem} (hk : k < 2) : kOk (kLp (m_Mo_restore_l40 235 (nI k)) kFU (0, M)) (fun M' => (∀ i, i < 108 → M' 236 i = slt M k i) ∧ frS (fun o => o = 236) M M') := by
  refine kWk _ (Mcopy_loop (so := 239) (to := 236) (n := 216) (m := 108) (b := 108 * k) (c := 0) (by omega) (by omega) (by omega) (by omega) (by omega) (fun i M1 hi hf => ?_) (fun M1 => rfl)) ?_
  · unfold m_Mo_restore_l40
    show (if 108 ≤ nI i then _ else _) = _
    rw [if_neg (nI_108F hi), Nat.zero_add, show (108 : Int32) * nI k + nI i = nI (108 * k + i) from by rw [show (108 : Int32) * nI k = nI (108 * k) from pk_mul 108 k, nI_add]]
  · rintro M1 ⟨h1, h2⟩
    exact ⟨fun i hi => by rw [h1, if_pos (by omega)]; rfl, h2⟩
