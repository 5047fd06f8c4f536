/-! LAYER 2: states copied, remembered, saved -/
theorem cpM_n {M : KMem} {o0 o1 sp dp n o : Nat} (h : o ≠ o1) : cpM M o0 o1 sp dp n o = M o := if_neg h
theorem cpM_0 {M : KMem} {o0 o1 n j : Nat} (h : j < n) : cpM M o0 o1 0 0 n o1 j = M o0 j := by
  rw [cpM_in (by omega) (by omega)]
  congr 1
  omega
theorem cp8 {M : KMem} {o0 o1 : Nat} : cpI M o0 8 o1 8 0 0 8 = some (cpM M o0 o1 0 0 8) := cpN (sp := 0) (dp := 0) (n := 8) (by omega) (by omega) (by omega)
theorem cp4 {M : KMem} {o0 o1 : Nat} : cpI M o0 4 o1 4 0 0 4 = some (cpM M o0 o1 0 0 4) := cpN (sp := 0) (dp := 0) (n := 4) (by omega) (by omega) (by omega)
theorem cp2 {M : KMem} {o0 o1 : Nat} : cpI M o0 2 o1 2 0 0 2 = some (cpM M o0 o1 0 0 2) := cpN (sp := 0) (dp := 0) (n := 2) (by omega) (by omega) (by omega)
theorem cp50 {M : KMem} {o0 o1 : Nat} : cpI M o0 50 o1 50 0 0 (Int32.ofNat 50) = some (cpM M o0 o1 0 0 50) := cpN (sp := 0) (dp := 0) (n := 50) (by omega) (by omega) (by omega)
theorem frS.c {S : Nat → Prop} {M M1 : KMem} {o0 o1 sp dp n : Nat} (h : frS S M M1) (ho : S o1) : frS S M (cpM M1 o0 o1 sp dp n) := h.tr (cpM_fr ho)
/-- the objects of a State -/
abbrev stO (d : Nat) : Nat → Prop := fun o => d + 1 ≤ o ∧ o ≤ d + 12
theorem copy_ok {d p : Nat} {M : KMem} (hdp : d + 12 ≤ p ∨ p + 12 ≤ d) :
    kOk (m_St_copyFrom (d + 1) (p + 1) M) (fun M' => (∀ a, InvB a → CR a p M → CR a d M') ∧ frS (stO d) M M') := by
  have T : ∀ j, 1 ≤ j → j ≤ 12 → stO d (d + j) := fun j h1 h2 => ⟨by omega, by omega⟩
  unfold m_St_copyFrom m_De_copyFrom
  rw [bS, cp50, bS, bS, bS, cp8, bS, cp8, bS, cp8, bS, cp8, bS, cp8, bS, cp8, bS, cp4, bS, cp4, bS, cp2, bS, bS, bS, bS, bS]
  refine kOk_i ⟨fun a hI h => ?_, frS.k (frS.k (frS.k (frS.k (frS.c (frS.c (frS.c (frS.c (frS.c (frS.c (frS.c (frS.c (frS.c (frS.k (frS.c (frS.k frS.rf (T 2 (by omega) (by omega))) (T 3 (by omega) (by omega))) (T 1 (by omega) (by omega))) (T 4 (by omega) (by omega))) (T 5 (by omega) (by omega))) (T 6 (by omega) (by omega))) (T 7 (by omega) (by omega))) (T 8 (by omega) (by omega))) (T 9 (by omega) (by omega))) (T 10 (by omega) (by omega))) (T 11 (by omega) (by omega))) (T 12 (by omega) (by omega))) (T 1 (by omega) (by omega))) (T 1 (by omega) (by omega))) (T 1 (by omega) (by omega))) (T 1 (by omega) (by omega))⟩
  have h8 := hI.1.1
  have h10 := hI.2.1.1
  obtain ⟨⟨k1, k2, k3, k4, k5, k6⟩, k7, k8, k9, k10, k11⟩ := h
  have e2 : p + 1 + 1 = p + 2 := rfl
  refine ⟨⟨?_, ?_, ?_, ?_, ?_, ?_⟩, fun i hi => ?_, fun s hs => ?_, fun g hg => ?_, ?_, ?_⟩
  · simp (disch := omega) only [kup_n, kup_j, kup_s, cpM_n]; exact k1
  · simp (disch := omega) only [kup_n, kup_j, kup_s, cpM_n]; exact k2
  · simp (disch := omega) only [kup_n, kup_j, kup_s, cpM_n]; exact k3
  · simp (disch := omega) only [kup_n, kup_j, kup_s, cpM_n]; exact k4
  · simp (disch := omega) only [kup_n, kup_j, kup_s, cpM_n]; exact k5
  · simp (disch := omega) only [kup_n, kup_j, kup_s, cpM_n]; exact k6
  · simp (disch := omega) only [kup_n, cpM_n]
    refine (cpM_0 (o1 := d + 1 + 1 + 1) (by omega)).trans ?_
    rw [kup_n _ _ _ (by omega)]
    exact k7 i hi
  · obtain ⟨l1, l2, l3, l4, l5, l6⟩ := k8 s hs
    refine ⟨?_, ?_, ?_, ?_, ?_, ?_⟩
    · simp (disch := omega) only [kup_n, cpM_n]
      refine (cpM_0 (o1 := d + 1 + 3) (by omega)).trans ?_
      simp (disch := omega) only [kup_n, cpM_n]
      exact l1
    · simp (disch := omega) only [kup_n, cpM_n]
      refine (cpM_0 (o1 := d + 1 + 4) (by omega)).trans ?_
      simp (disch := omega) only [kup_n, cpM_n]
      exact l2
    · simp (disch := omega) only [kup_n, cpM_n]
      refine (cpM_0 (o1 := d + 1 + 5) (by omega)).trans ?_
      simp (disch := omega) only [kup_n, cpM_n]
      exact l3
    · simp (disch := omega) only [kup_n, cpM_n]
      refine (cpM_0 (o1 := d + 1 + 6) (by omega)).trans ?_
      simp (disch := omega) only [kup_n, cpM_n]
      exact l4
    · simp (disch := omega) only [kup_n, cpM_n]
      refine (cpM_0 (o1 := d + 1 + 7) (by omega)).trans ?_
      simp (disch := omega) only [kup_n, cpM_n]
      exact l5
    · simp (disch := omega) only [kup_n, cpM_n]
      refine (cpM_0 (o1 := d + 1 + 8) (by omega)).trans ?_
      simp (disch := omega) only [kup_n, cpM_n]
      exact l6
  · refine ⟨?_, ?_⟩
    · simp (disch := omega) only [kup_n, cpM_n]
      refine (cpM_0 (o1 := d + 1 + 9) (by omega)).trans ?_
      simp (disch := omega) only [kup_n, cpM_n]
      exact (k9 g hg).1
    · simp (disch := omega) only [kup_n, cpM_n]
      refine (cpM_0 (o1 := d + 1 + 10) (by omega)).trans ?_
      simp (disch := omega) only [kup_n, cpM_n]
      exact (k9 g hg).2
  · simp (disch := omega) only [kup_n, cpM_n]
    refine (cpM_0 (o1 := d + 1 + 11) (by omega)).trans ?_
    simp (disch := omega) only [kup_n, cpM_n]
    exact k10
  · simp (disch := omega) only [kup_n, cpM_n]
    refine (cpM_0 (o1 := d + 1 + 11) (by omega)).trans ?_
    simp (disch := omega) only [kup_n, cpM_n]
    exact k11
/-! the remembered states: of the class, at (t + 39); H: what they show -/
def MR (t : Nat) (H : Nat → Row) (o k : Nat) (M : KMem) : Prop := M (t + 39) 1 = nI o ∧ M (t + 39) 2 = nI k ∧ o < 14 ∧ k ≤ 14 ∧ ∀ j, j < k → Inv (H j) ∧ CR (H j) (t + 42 + 12 * ((o + j) % 14)) M
theorem rem14 {o k : Nat} (h1 : o < 14) (h2 : k ≤ 14) : jrem (nI o + nI k) 14 = nI ((o + k) % 14) := by
  rw [nI_add]
  exact remN (d := 14) (by omega) (by omega) (by omega)
/-- what the ring shows when a is remembered -/
def pushH (H : Nat → Row) (k : Nat) (a : Row) : Nat → Row := fun j => if k < 14 then (if j = k then a else H j) else if j < 13 then H (j + 1) else a
theorem Crem_ok {t : Nat} {H : Nat → Row} {o k : Nat} {a : Row} {M : KMem} (h : MR t H o k M) (hI : Inv a) (hc : CR a (t + 3) M) :
    kOk (m_Me_remember (t + 39) (t + 4) M) (fun M' => (∃ o', MR t (pushH H k a) o' (min k 13 + 1) M') ∧ CR a (t + 3) M' ∧ frS (fun p => p = (t + 39) ∨ t + 43 ≤ p ∧ p ≤ t + 210) M M') := by
  obtain ⟨h1, h2, h3, h4, h5⟩ := h
  have hq : (o + k) % 14 < 14 := Nat.mod_lt _ (by omega)
  unfold m_Me_remember
  rw [h1, h2, rem14 h3 h4, ckN hq (by omega), bS]
  obtain ⟨q, hqe⟩ : ∃ q, q = (o + k) % 14 := ⟨_, rfl⟩
  rw [← hqe] at hq ⊢
  refine kB (fun M' => (∀ a, InvB a → CR a (t + 3) M → CR a (t + 42 + 12 * q) M') ∧ frS (stO (t + 42 + 12 * q)) M M') ?_ ?_
  · have e : (t + 39) + (4 + 12 * q) = t + 42 + 12 * q + 1 := by omega
    rw [e]
    exact copy_ok (p := t + 3) (by omega)
  rintro M5 ⟨g1, g2⟩
  have hc5 : CR a (t + 3) M5 := hc.fr g2 (fun p hp => by omega)
  have hcq := g1 a hI.1 hc
  have e1 : M5 (t + 39) 1 = nI o := by rw [g2 (t + 39) (by omega)]; exact h1
  have e2 : M5 (t + 39) 2 = nI k := by rw [g2 (t + 39) (by omega)]; exact h2
  have old : ∀ j, j < k → (o + j) % 14 ≠ q → CR (H j) (t + 42 + 12 * ((o + j) % 14)) M5 := fun j hj hne => (h5 j hj).2.fr g2 (fun p hp => by omega)
  have fr1 : frS (fun p => p = (t + 39) ∨ t + 43 ≤ p ∧ p ≤ t + 210) M M5 := g2.wk (fun p (hp : t + 42 + 12 * q + 1 ≤ p ∧ p ≤ t + 42 + 12 * q + 12) => Or.inr ⟨by omega, by omega⟩)
  by_cases hk : k = 14
  · subst hk
    rw [if_pos (by rw [e2]; decide), bS, bS, e1]
    have hqo : q = o := by omega
    have ej : jrem (nI o + 1) 14 = nI ((o + 1) % 14) := by
      rw [nI_1]
      exact remN (d := 14) (by omega) (by omega) (by omega)
    rw [ej]
    have hlt : (o + 1) % 14 < 14 := Nat.mod_lt _ (by omega)
    refine kOk_i ⟨⟨(o + 1) % 14, kup_s _ _ _ _, by rw [kup_j _ _ _ (by omega)]; exact e2, hlt, by omega, fun j hj => ?_⟩, hc5.fr (frS.up (S := fun p => p = (t + 39)) rfl) (fun p hp => by omega), frS.k fr1 (Or.inl rfl)⟩
    unfold pushH
    rw [if_neg (by omega)]
    by_cases hj13 : j < 13
    · rw [if_pos hj13]
      have e3 : ((o + 1) % 14 + j) % 14 = (o + (j + 1)) % 14 := by omega
      rw [e3]
      refine ⟨(h5 (j + 1) (by omega)).1, (old (j + 1) (by omega) (by omega)).fr (frS.up (S := fun p => p = (t + 39)) rfl) (fun p hp => by omega)⟩
    · rw [if_neg hj13]
      have e3 : ((o + 1) % 14 + j) % 14 = q := by omega
      rw [e3]
      exact ⟨hI, hcq.fr (frS.up (S := fun p => p = (t + 39)) rfl) (fun p hp => by omega)⟩
  · rw [if_neg (by rw [e2, show (14 : Int32) = nI 14 from rfl, nI_leI (by omega) (by omega)]; omega), bS, bS, e2, nI_1]
    refine kOk_i ⟨⟨o, by rw [kup_j _ _ _ (by omega)]; exact e1, by rw [kup_s, Nat.min_eq_left (by omega)], h3, by omega, fun j hj => ?_⟩, hc5.fr (frS.up (S := fun p => p = (t + 39)) rfl) (fun p hp => by omega), frS.k fr1 (Or.inl rfl)⟩
    unfold pushH
    rw [if_pos (by omega)]
    by_cases hjk : j = k
    · subst hjk
      rw [if_pos rfl, ← hqe]
      exact ⟨hI, hcq.fr (frS.up (S := fun p => p = (t + 39)) rfl) (fun p hp => by omega)⟩
    · rw [if_neg hjk]
      exact ⟨(h5 j (by omega)).1, (old j (by omega) (by omega)).fr (frS.up (S := fun p => p = (t + 39)) rfl) (fun p hp => by omega)⟩
theorem Cback_ok {t : Nat} {H : Nat → Row} {o k : Nat} {M : KMem} (h : MR t H o k M) (hk : 0 < k) :
    kOk (m_Me_takeBack (t + 39) (t + 4) M) (fun M' => MR t H o (k - 1) M' ∧ M' (t + 39) 2 = nI (k - 1) ∧ CR (H (k - 1)) (t + 3) M' ∧ frS (fun p => p = (t + 39) ∨ t + 4 ≤ p ∧ p ≤ t + 15) M M') := by
  obtain ⟨h1, h2, h3, h4, h5⟩ := h
  have hq : (o + (k - 1)) % 14 < 14 := Nat.mod_lt _ (by omega)
  unfold m_Me_takeBack
  rw [h2, if_neg (nI_ne0 hk (by omega)), bS, nI_s1 (by omega), kup_j _ _ _ (by omega), kup_s, h1, rem14 h3 (by omega), ckN hq (by omega), bS]
  obtain ⟨q, hqe⟩ : ∃ q, q = (o + (k - 1)) % 14 := ⟨_, rfl⟩
  rw [← hqe] at hq ⊢
  have hM3 : frS (fun p => p = (t + 39)) M (kup M (t + 39) 2 (nI (k - 1))) := frS.up rfl
  refine kB (fun M' => (∀ a, InvB a → CR a (t + 42 + 12 * q) (kup M (t + 39) 2 (nI (k - 1))) → CR a (t + 3) M') ∧ frS (stO (t + 3)) (kup M (t + 39) 2 (nI (k - 1))) M') ?_ ?_
  · have e : (t + 39) + (4 + 12 * q) = t + 42 + 12 * q + 1 := by omega
    rw [e]
    exact copy_ok (d := t + 3) (by omega)
  rintro M8 ⟨g1, g2⟩
  have e1 : M8 (t + 39) 1 = nI o := by rw [g2 (t + 39) (by omega), kup_j _ _ _ (by omega)]; exact h1
  have e2 : M8 (t + 39) 2 = nI (k - 1) := by rw [g2 (t + 39) (by omega), kup_s]
  have hl := h5 (k - 1) (by omega)
  rw [← hqe] at hl
  refine kOk_i ⟨⟨e1, e2, h3, by omega, fun j hj => ⟨(h5 j (by omega)).1, ((h5 j (by omega)).2.fr hM3 (fun p hp => by omega)).fr g2 (fun p hp => by omega)⟩⟩, e2, g1 _ hl.1.1 (hl.2.fr hM3 (fun p hp => by omega)), (hM3.wk (fun p hp => Or.inl hp)).tr (g2.wk (fun p (hp : t + 3 + 1 ≤ p ∧ p ≤ t + 3 + 12) => Or.inr ⟨by omega, by omega⟩))⟩
