theorem paintsA_97 {a : Row} (h : InvB a) {s : Nat} (hs : s < sN a) : paintsA a s 97 = a 97 := by
  have h8 := h.1.1
  exact paintsA_out (by omega) (by omega) (by omega) (by omega)
theorem inv_set {a : Row} {j x : Nat} (h : Inv a) (hj : j < 2) (hx : x ≤ 20) : Inv (upd a (106 + j) (nI x)) := by
  have h1 := h.1.1.1
  have h2 := h.1.2.1.1
  have l0 : L0 a (upd a (106 + j) (nI x)) := ⟨pk_un (by omega), pk_un (by omega), fun t ht => ⟨pk_un (by omega), pk_un (by omega)⟩, fun i hi => pk_un (by omega)⟩
  refine ⟨l0.invB h.1 (fun t ht => ?_), l0.invR h.2.1, ?_⟩
  · rw [pk_un (by omega)]; exact (h.1.2.2.2 t ht).2.2
  · obtain ⟨c1, c2, c3, c4, c5⟩ := h.2.2
    unfold InvC
    have e : ∀ i, i < 106 → upd a (106 + j) (nI x) i = a i := fun i hi => pk_un (by omega)
    rw [e 93 (by omega), e 95 (by omega), e 96 (by omega), e 98 (by omega), e 99 (by omega), e 100 (by omega), e 101 (by omega), e 102 (by omega), e 103 (by omega), e 104 (by omega), e 105 (by omega)]
    refine ⟨c1, c2, ?_, ?_, c5⟩
    · by_cases hj0 : j = 0
      · subst hj0; exact ⟨x, hx, pk_us⟩
      · rw [pk_un (by omega)]; exact c3
    · by_cases hj0 : j = 1
      · subst hj0; exact ⟨x, hx, pk_us⟩
      · rw [pk_un (by omega)]; exact c4
theorem CR_set {a : Row} {u j : Nat} {x : Int32} {M : KMem} (h : CR a u M) (hI : InvB a) (hj : j < 2) : CR (upd a (106 + j) x) u (kup M (u + 12) j x) := by
  have h1 := hI.1.1
  have h2 := hI.2.1.1
  have l0 : L0 a (upd a (106 + j) x) := ⟨pk_un (by omega), pk_un (by omega), fun t ht => ⟨pk_un (by omega), pk_un (by omega)⟩, fun i hi => pk_un (by omega)⟩
  obtain ⟨⟨k1, k2, k3, k4, k5, k6⟩, k7, k8, k9, k10, k11⟩ := h
  refine ⟨⟨?_, ?_, ?_, ?_, ?_, ?_⟩, ?_, ?_, ?_, ?_, ?_⟩
  · rw [kup_n _ _ _ (by omega), pk_un (by omega)]; exact k1
  · rw [kup_n _ _ _ (by omega), pk_un (by omega)]; exact k2
  · rw [kup_n _ _ _ (by omega), pk_un (by omega)]; exact k3
  · rw [kup_n _ _ _ (by omega), pk_un (by omega)]; exact k4
  · rw [kup_n _ _ _ (by omega), pk_un (by omega)]; exact k5
  · rw [kup_n _ _ _ (by omega), pk_un (by omega)]; exact k6
  · rw [l0.n.2]; intro i hi; rw [kup_n _ _ _ (by omega), pk_un (by omega)]; exact k7 i hi
  · rw [l0.n.1]; intro s hs; rw [l0.rt hs]
    simp (disch := omega) only [kup_n, pk_un]; exact k8 s hs
  · intro g hg; simp (disch := omega) only [kup_n, pk_un]; exact k9 g hg
  · by_cases hj0 : j = 0
    · subst hj0; rw [kup_s]; exact pk_us.symm
    · rw [kup_j _ _ _ (by omega), pk_un (by omega)]; exact k10
  · by_cases hj0 : j = 1
    · subst hj0; rw [kup_s]; exact pk_us.symm
    · rw [kup_j _ _ _ (by omega), pk_un (by omega)]; exact k11
theorem CR.set {a : Row} {u j : Nat} {M : KMem} (h : CR a u M) (hj : j < 2) : M (u + 12) j = a (106 + j) := by
  match j, hj with
  | 0, _ => exact h.2.2.2.2.1
  | 1, _ => exact h.2.2.2.2.2
theorem reqSet_y {j : Nat} (hj : j < 2) : m_SR_requireSetting (nI j) = some none := by
  unfold m_SR_requireSetting
  rw [if_neg (nI_pos (by omega)), if_pos (show nI j < 2 from (nI_ltI (b := 2) (by omega) (by omega)).mpr hj)]
theorem reqSet_n {p : Int32} (h : p < 0 ∨ nI 1 < p) : m_SR_requireSetting p = some (some eA) := by
  unfold m_SR_requireSetting
  by_cases c0 : p < 0
  · rw [if_pos c0]
  · rw [if_neg c0, if_neg]
    intro c4
    obtain ⟨j, hj, rfl⟩ := nI_of c0
    have c3 := h.elim (fun z => (c0 z).elim) id
    rw [nI_ltI (by omega) (by omega)] at c3
    rw [show (2 : Int32) = nI 2 from rfl, nI_ltI (by omega) (by omega)] at c4
    omega
