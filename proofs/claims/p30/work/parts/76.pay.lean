/-! LAYER 2: payable, worthIn -/
/-- the coins for a letter -/
def c106 (a : Row) : Nat := (a 106).toNatClampNeg
theorem c106_e {a : Row} (h : InvC a) : c106 a ≤ 20 ∧ a 106 = nI (c106 a) := by
  obtain ⟨x, hx, e⟩ := h.2.2.1
  unfold c106
  rw [e, nI_clamp (by omega)]
  exact ⟨hx, rfl⟩
/-- how far the sign s is from right; 0 behind the last one -/
def dA (a : Row) (s : Nat) : Nat := if s < sN a then apA a s else 0
theorem dA_8 {a : Row} (h : InvB a) (s : Nat) : dA a s ≤ 8 := by
  unfold dA
  split
  · exact ap_8 h (by assumption)
  · omega
theorem dA_e {a : Row} {s : Nat} (hs : s < sN a) : dA a s = apA a s := if_pos hs
theorem coA_e {a : Row} (h : Inv a) {s : Nat} (hs : s < sN a) : coA a s = nI (c106 a * dA a s) := by
  unfold coA
  rw [dA_e hs, (c106_e h.2.2).2, pk_mul]
theorem cd_le {a : Row} (h : Inv a) (s : Nat) : c106 a * dA a s ≤ 160 := by
  have h1 := (c106_e h.2.2).1
  have h2 := dA_8 h.1 s
  have : c106 a * dA a s ≤ 20 * 8 := Nat.mul_le_mul h1 h2
  omega
theorem Cpay {u : Nat} {a : Row} {L0 : Nat} {M : KMem} (h : CR a u M) (hI : Inv a) (hL : L0 ≤ 999) :
    kOk (m_Tw_signsPaidBy u (nI L0) M) (fun q => q.1 = nI (gr L0 (remK (c106 a) (dA a) 0 (sN a) 8)) ∧ frS (scr u) M q.2) := by
  have h8 := hI.1.1.1
  obtain ⟨c1, c2⟩ := c106_e hI.2.2
  generalize hK : gr L0 (remK (c106 a) (dA a) 0 (sN a) 8) = K
  unfold m_Tw_signsPaidBy
  refine kB (fun q => q.1 = nI K ∧ frS (scr u) M q.2) (kFor (fun i q => ∃ L N M1, q = (nI L, nI N, nI (i + 1), M1) ∧ L ≤ 999 ∧ N + gr L (remK (c106 a) (dA a) 0 (sN a) (8 - i)) = K ∧ frS (scr u) M M1) 8 ?_ ?_ (i0 := 0) (by omega) (by omega) ⟨L0, 0, M, rfl, hL, by rw [Nat.zero_add]; exact hK, frS.rf⟩) (fun x hx => kOk_i hx)
  · rintro i _ hi ⟨L, N, M1, rfl, g1, g2, g3⟩
    obtain ⟨k, hk⟩ : ∃ k, 8 - i = k + 1 := ⟨8 - i - 1, by omega⟩
    have hl : 8 - k = i + 1 := by omega
    have h1 := h.sc g3
    have inner : kOk (kLp (m_Tw_signsPaidBy_l31 u (nI (i + 1)) (a 106)) kFU (nI L, nI N, 0, M1)) (fun q => ∃ L' N', q.1 = nI L' ∧ q.2.1 = nI N' ∧ L' ≤ 999 ∧ N' + gr L' (remK (c106 a) (dA a) 0 (sN a) k) = K ∧ frS (scr u) M q.2.2) := by
      refine kFor (fun s q => ∃ L' N' M2, q = (nI L', nI N', nI s, M2) ∧ L' ≤ 999 ∧ N' + gr L' (lvf (c106 a) (dA a) (i + 1) s (sN a - s) ++ remK (c106 a) (dA a) 0 (sN a) k) = K ∧ frS (scr u) M M2) (sN a) ?_ ?_ (i0 := 0) (by omega) (by omega) ⟨L, N, M1, rfl, g1, by rw [hk] at g2; simp only [remK] at g2; rw [hl] at g2; exact g2, g3⟩
      · rintro s _ hs ⟨L', N', M2, rfl, f1, f2, f3⟩
        have h2 := h.sc f3
        obtain ⟨⟨x, M3⟩, e, q1, q2⟩ := lettersWrong_ok h2 hI.1 hs
        simp only at q1 q2
        subst q1
        have hd8 := dA_8 hI.1 s
        have hm : nI (i + 1) * a 106 = nI (c106 a * (i + 1)) := by rw [c2, pk_mul, Nat.mul_comm]
        have hcl : c106 a * (i + 1) ≤ 160 := by
          have : c106 a * (i + 1) ≤ 20 * 8 := Nat.mul_le_mul c1 (by omega)
          omega
        obtain ⟨m, hm1⟩ : ∃ m, sN a - s = m + 1 := ⟨sN a - s - 1, by omega⟩
        have hm2 : sN a - (s + 1) = m := by omega
        rw [hm1] at f2
        simp only [lvf] at f2
        have hde : (nI (apA a s) = nI (i + 1)) ↔ (dA a s = i + 1) := by
          rw [dA_e hs]
          exact nI_eq (by rw [dA_e hs] at hd8; omega) (by omega)
        have run : ∀ A B, (if nI (apA a s) = nI (i + 1) then (if nI L' < nI (i + 1) * a 106 then some (nI L', nI N') else some (nI L' - nI (i + 1) * a 106, nI N' + 1)) else some (nI L', nI N')) = some (A, B) → m_Tw_signsPaidBy_l31 u (nI (i + 1)) (a 106) (nI L', nI N', nI s, M2) = some (.inl (A, B, nI (s + 1), M3)) := fun A B eAB => by
          unfold m_Tw_signsPaidBy_l31
          show (if 8 ≤ nI s then _ else Option.bind (m_Tw_hasSign u (nI s) M2) _) = _
          rw [if_neg (by rw [nI_8F (by omega)]; exact id), hasSign_y (h2.n hI.1) h8 hs, bS, if_neg u10, e, bS]
          show Option.bind (if nI (apA a s) = nI (i + 1) then (if nI L' < nI (i + 1) * a 106 then some (nI L', nI N') else some (nI L' - nI (i + 1) * a 106, nI N' + 1)) else some (nI L', nI N')) _ = _
          rw [eAB, bS, nI_1]
        by_cases hds : dA a s = i + 1
        · rw [if_pos hds] at f2
          simp only [List.cons_append, gr] at f2
          by_cases hle : c106 a * (i + 1) ≤ L'
          · rw [if_pos hle] at f2
            refine Or.inl ⟨_, run (nI (L' - c106 a * (i + 1))) (nI (N' + 1)) ?_, L' - c106 a * (i + 1), N' + 1, M3, rfl, by omega, by rw [hm2]; omega, f3.tr q2⟩
            rw [if_pos (hde.mpr hds), hm, if_neg (by rw [nI_ltI (by omega) (by omega)]; omega), pk_sub hle, nI_1]
          · rw [if_neg hle] at f2
            refine Or.inl ⟨_, run (nI L') (nI N') ?_, L', N', M3, rfl, f1, by rw [hm2]; exact f2, f3.tr q2⟩
            rw [if_pos (hde.mpr hds), hm, if_pos (by rw [nI_ltI (by omega) (by omega)]; omega)]
        · rw [if_neg hds] at f2
          refine Or.inl ⟨_, run (nI L') (nI N') ?_, L', N', M3, rfl, f1, by rw [hm2]; exact f2, f3.tr q2⟩
          rw [if_neg (fun z => hds (hde.mp z))]
      · rintro _ ⟨L', N', M2, rfl, f1, f2, f3⟩
        have h2 := h.sc f3
        rw [show sN a - sN a = 0 by omega] at f2
        simp only [lvf, List.nil_append] at f2
        refine ⟨(nI L', nI N', M2), ?_, L', N', rfl, rfl, f1, f2, f3⟩
        unfold m_Tw_signsPaidBy_l31
        show (if 8 ≤ nI (sN a) then _ else Option.bind (m_Tw_hasSign u (nI (sN a)) M2) _) = _
        split
        · rfl
        · rw [hasSign_n (h2.n hI.1) h8 (Nat.le_refl _) (by omega), bS, if_pos rfl]
    obtain ⟨⟨A, B, M2⟩, e, L', N', q1, q2, q3, q4, q5⟩ := inner
    simp only at q1 q2 q5
    subst q1
    subst q2
    refine Or.inl ⟨(nI L', nI N', nI (i + 1 + 1), M2), ?_, L', N', M2, rfl, q3, by rw [show 8 - (i + 1) = k by omega]; exact q4, q5⟩
    unfold m_Tw_signsPaidBy_l7
    show (if 8 < nI (i + 1) then _ else Option.bind (rdI M1 (u + 12) 2 0) _) = _
    rw [if_neg (by rw [show (8 : Int32) = nI 8 from rfl, nI_ltI (by omega) (by omega)]; omega), show rdI M1 (u + 12) 2 0 = some (M1 (u + 12) 0) from rdN (j := 0) (by omega) (by omega), bS, show M1 (u + 12) 0 = a 106 from h1.2.2.2.2.1, e, bS, nI_1]
  · rintro _ ⟨L, N, M1, rfl, g1, g2, g3⟩
    refine ⟨(nI N, M1), rfl, ?_, g3⟩
    have : remK (c106 a) (dA a) 0 (sN a) (8 - 8) = [] := rfl
    rw [this] at g2
    simp only [gr] at g2
    show nI N = nI K
    rw [← g2]
    rfl
