/-! LAYER 2: payable, worthIn -/
/-- the coins for a letter -/
def c106 (a : Row) : Nat := (a 106).toNatClampNeg
theorem c106_e {a : Row} (h : InvC a) : c106 a ≤ 20 ∧ a 106 = nI (c106 a) := by
  obtain ⟨x, hx, e⟩ := h.2.2.1
  unfold c106
  rw [e, nI_clamp (by omega)]
  exact ⟨hx, rfl⟩
/-- how far the sign s is from right; 0 behind the last one -/
def dA (a : Row) (s : Nat) : Nat := if s < sN a then apA a s else 0
theorem dA_8 {a : Row} (h : InvB a) (s : Nat) : dA a s ≤ 8 := by
  unfold dA
  split
  · exact ap_8 h (by assumption)
  · omega
theorem dA_e {a : Row} {s : Nat} (hs : s < sN a) : dA a s = apA a s := if_pos hs
theorem coA_e {a : Row} (h : Inv a) {s : Nat} (hs : s < sN a) : coA a s = nI (c106 a * dA a s) := by
  unfold coA
  rw [dA_e hs, (c106_e h.2.2).2, pk_mul]
theorem cd_le {a : Row} (h : Inv a) (s : Nat) : c106 a * dA a s ≤ 160 := by
  have h1 := (c106_e h.2.2).1
  have h2 := dA_8 h.1 s
  have : c106 a * dA a s ≤ 20 * 8 := Nat.mul_le_mul h1 h2
  omega
theorem Cpay {a : Row} {L0 : Nat} {M : KMem} (h : CR a 3 M) (hI : Inv a) (hL : L0 ≤ 999) :
    kOk (m_Tw_signsPaidBy 3 (nI L0) M) (fun q => q.1 = nI (gr L0 (remK (c106 a) (dA a) 0 (sN a) 8)) ∧ frS (scr 3) M q.2) := by
  have h8 := hI.1.1.1
  obtain ⟨c1, c2⟩ := c106_e hI.2.2
  generalize hK : gr L0 (remK (c106 a) (dA a) 0 (sN a) 8) = K
  unfold m_Tw_signsPaidBy
  refine kB (fun q => q.1 = nI K ∧ frS (scr 3) M q.2) (kFor (fun i q => ∃ L N M1, q = (nI L, nI N, nI (i + 1), M1) ∧ L ≤ 999 ∧ N + gr L (remK (c106 a) (dA a) 0 (sN a) (8 - i)) = K ∧ frS (scr 3) M M1) 8 ?_ ?_ (i0 := 0) (by omega) (by omega) ⟨L0, 0, M, rfl, hL, by rw [Nat.zero_add]; exact hK, frS.rf⟩) (fun x hx => kOk_i hx)
  · rintro i _ hi ⟨L, N, M1, rfl, g1, g2, g3⟩
    obtain ⟨k, hk⟩ : ∃ k, 8 - i = k + 1 := ⟨8 - i - 1, by omega⟩
    have hl : 8 - k = i + 1 := by omega
    have h1 := h.sc g3
    have inner : kOk (kLp (m_Tw_signsPaidBy_l31 3 (nI (i + 1)) (a 106)) kFU (nI L, nI N, 0, M1)) (fun q => ∃ L' N', q.1 = nI L' ∧ q.2.1 = nI N' ∧ L' ≤ 999 ∧ N' + gr L' (remK (c106 a) (dA a) 0 (sN a) k) = K ∧ frS (scr 3) M q.2.2) := by
      refine kFor (fun s q => ∃ L' N' M2, q = (nI L', nI N', nI s, M2) ∧ L' ≤ 999 ∧ N' + gr L' (lvf (c106 a) (dA a) (i + 1) s (sN a - s) ++ remK (c106 a) (dA a) 0 (sN a) k) = K ∧ frS (scr 3) M M2) (sN a) ?_ ?_ (i0 := 0) (by omega) (by omega) ⟨L, N, M1, rfl, g1, by rw [hk] at g2; simp only [remK] at g2; rw [hl] at g2; exact g2, g3⟩
      · rintro s _ hs ⟨L', N', M2, rfl, f1, f2, f3⟩
        have h2 := h.sc f3
        obtain ⟨⟨x, M3⟩, e, q1, q2⟩ := lettersWrong_ok h2 hI.1 hs
        simp only at q1 q2
        subst q1
        have hd8 := dA_8 hI.1 s
        have hm : nI (i + 1) * a 106 = nI (c106 a * (i + 1)) := by rw [c2, pk_mul, Nat.mul_comm]
        have hcl : c106 a * (i + 1) ≤ 160 := by
          have : c106 a * (i + 1) ≤ 20 * 8 := Nat.mul_le_mul c1 (by omega)
          omega
        obtain ⟨m, hm1⟩ : ∃ m, sN a - s = m + 1 := ⟨sN a - s - 1, by omega⟩
        have hm2 : sN a - (s + 1) = m := by omega
        rw [hm1] at f2
        simp only [lvf] at f2
        have hde : (nI (apA a s) = nI (i + 1)) ↔ (dA a s = i + 1) := by
          rw [dA_e hs]
          exact nI_eq (by rw [dA_e hs] at hd8; omega) (by omega)
        have run : ∀ A B, (if nI (apA a s) = nI (i + 1) then (if nI L' < nI (i + 1) * a 106 then some (nI L', nI N') else some (nI L' - nI (i + 1) * a 106, nI N' + 1)) else some (nI L', nI N')) = some (A, B) → m_Tw_signsPaidBy_l31 3 (nI (i + 1)) (a 106) (nI L', nI N', nI s, M2) = some (.inl (A, B, nI (s + 1), M3)) := fun A B eAB => by
          unfold m_Tw_signsPaidBy_l31
          show (if 8 ≤ nI s then _ else Option.bind (m_Tw_hasSign 3 (nI s) M2) _) = _
          rw [if_neg (by rw [nI_8F (by omega)]; exact id), hasSign_y (h2.n hI.1) h8 hs, bS, if_neg u10, e, bS]
          show Option.bind (if nI (apA a s) = nI (i + 1) then (if nI L' < nI (i + 1) * a 106 then some (nI L', nI N') else some (nI L' - nI (i + 1) * a 106, nI N' + 1)) else some (nI L', nI N')) _ = _
          rw [eAB, bS, nI_1]
        by_cases hds : dA a s = i + 1
        · rw [if_pos hds] at f2
          simp only [List.cons_append, gr] at f2
          by_cases hle : c106 a * (i + 1) ≤ L'
          · rw [if_pos hle] at f2
            refine Or.inl ⟨_, run (nI (L' - c106 a * (i + 1))) (nI (N' + 1)) ?_, L' - c106 a * (i + 1), N' + 1, M3, rfl, by omega, by rw [hm2]; omega, f3.tr q2⟩
            rw [if_pos (hde.mpr hds), hm, if_neg (by rw [nI_ltI (by omega) (by omega)]; omega), pk_sub hle, nI_1]
          · rw [if_neg hle] at f2
            refine Or.inl ⟨_, run (nI L') (nI N') ?_, L', N', M3, rfl, f1, by rw [hm2]; exact f2, f3.tr q2⟩
            rw [if_pos (hde.mpr hds), hm, if_pos (by rw [nI_ltI (by omega) (by omega)]; omega)]
        · rw [if_neg hds] at f2
          refine Or.inl ⟨_, run (nI L') (nI N') ?_, L', N', M3, rfl, f1, by rw [hm2]; exact f2, f3.tr q2⟩
          rw [if_neg (fun z => hds (hde.mp z))]
      · rintro _ ⟨L', N', M2, rfl, f1, f2, f3⟩
        have h2 := h.sc f3
        rw [show sN a - sN a = 0 by omega] at f2
        simp only [lvf, List.nil_append] at f2
        refine ⟨(nI L', nI N', M2), ?_, L', N', rfl, rfl, f1, f2, f3⟩
        unfold m_Tw_signsPaidBy_l31
        show (if 8 ≤ nI (sN a) then _ else Option.bind (m_Tw_hasSign 3 (nI (sN a)) M2) _) = _
        split
        · rfl
        · rw [hasSign_n (h2.n hI.1) h8 (Nat.le_refl _) (by omega), bS, if_pos rfl]
    obtain ⟨⟨A, B, M2⟩, e, L', N', q1, q2, q3, q4, q5⟩ := inner
    simp only at q1 q2 q5
    subst q1
    subst q2
    refine Or.inl ⟨(nI L', nI N', nI (i + 1 + 1), M2), ?_, L', N', M2, rfl, q3, by rw [show 8 - (i + 1) = k by omega]; exact q4, q5⟩
    unfold m_Tw_signsPaidBy_l7
    show (if 8 < nI (i + 1) then _ else Option.bind (rdI M1 15 2 0) _) = _
    rw [if_neg (by rw [show (8 : Int32) = nI 8 from rfl, nI_ltI (by omega) (by omega)]; omega), show rdI M1 15 2 0 = some (M1 15 0) from rdN (j := 0) (by omega) (by omega), bS, show M1 15 0 = a 106 from h1.2.2.2.2.1, e, bS, nI_1]
  · rintro _ ⟨L, N, M1, rfl, g1, g2, g3⟩
    refine ⟨(nI N, M1), rfl, ?_, g3⟩
    have : remK (c106 a) (dA a) 0 (sN a) (8 - 8) = [] := rfl
    rw [this] at g2
    simp only [gr] at g2
    show nI N = nI K
    rw [← g2]
    rfl
theorem tb8_get : ∀ q, q < 256 → ∀ s, s < 8 → decide ((jshr (nI q) (nI s) &&& 1) = 0) = !q.testBit s := by decide +kernel
theorem tb8_set : ∀ q, q < 256 → ∀ s, s < 8 → (nI q ||| jshl 1 (nI s)) = nI (q ||| 2 ^ s) := by decide +kernel
theorem tb8_lt : ∀ q, q < 256 → ∀ s, s < 8 → q ||| 2 ^ s < 256 := by decide +kernel
theorem tb8_or (q s t : Nat) : (q ||| 2 ^ s).testBit t = (q.testBit t || decide (s = t)) := by
  rw [Nat.testBit_or, Nat.testBit_two_pow]
theorem Mpay {a : Row} {L0 : Nat} {M : KMem} (ha : M 236 = a) (hI : Inv a) (hL : L0 ≤ 999) :
    kOk (m_Mo_paidBy 235 (nI L0) M) (fun q => q.1 = nI (gr L0 (srt (clf (c106 a) (dA a) (fun _ => false) 0 (sN a)))) ∧ frS (fun o => o = 241) M q.2) := by
  have h8 := hI.1.1.1
  obtain ⟨c1, c2⟩ := c106_e hI.2.2
  generalize hK : gr L0 (srt (clf (c106 a) (dA a) (fun _ => false) 0 (sN a))) = K
  have hcost : ∀ s M1, s < sN a → frS (fun o => o = 241) M M1 → ∃ M2, m_Mo_costOf 235 (nI s) M1 = some (nI (c106 a * dA a s), M2) ∧ frS (fun o => o = 241) M M2 := fun s M1 hs hf => by
    have e1 : M1 (235 + 1) = a := (hf 236 (by omega)).trans ha
    obtain ⟨⟨x, M2⟩, e, q1, q2⟩ := Mcost (v := 235) (M := M1) (s := s) (by rw [e1]; exact hI.1) (by rw [e1]; exact hs)
    rw [e1] at q1
    simp only at q1 q2
    subst q1
    rw [coA_e hI hs] at e
    exact ⟨M2, e, hf.tr q2⟩
  have hwrong : ∀ s M1, s < sN a → frS (fun o => o = 241) M M1 → m_Mo_isWrong 235 (nI s) M1 = some (if dA a s = 0 then 0 else 1) := fun s M1 hs hf => by
    have e1 : M1 (235 + 1) = a := (hf 236 (by omega)).trans ha
    have := Mwrong (v := 235) (M := M1) (s := s) (by rw [e1]; exact hI.1) (by rw [e1]; exact hs)
    rw [this, e1, dA_e hs]
    by_cases hw : apA a s = 0
    · rw [if_pos hw, if_pos ((ap_0 hI.1 hs).mp hw)]
    · rw [if_neg hw, if_neg (fun z => hw ((ap_0 hI.1 hs).mpr z))]
  -- the cheapest one
  have inner : ∀ L q M1, L ≤ 999 → q < 256 → frS (fun o => o = 241) M M1 → kOk (kLp (m_Mo_paidBy_l21 235 (nI L) (nI q)) kFU (-1, 0, M1)) (fun r => ((r.1 = -1 ∧ ∀ t, t < sN a → q.testBit t = false → dA a t ≠ 0 → ¬ c106 a * dA a t ≤ L) ∨ ∃ f, f < sN a ∧ r.1 = nI f ∧ q.testBit f = false ∧ dA a f ≠ 0 ∧ c106 a * dA a f ≤ L ∧ ∀ t, t < sN a → q.testBit t = false → dA a t ≠ 0 → c106 a * dA a t ≤ L → c106 a * dA a f ≤ c106 a * dA a t) ∧ frS (fun o => o = 241) M r.2) := fun L q M1 hL1 hq hf1 => by
    refine kFor (fun s r => ∃ fo M2, r = (fo, nI s, M2) ∧ ((fo = -1 ∧ ∀ t, t < s → q.testBit t = false → dA a t ≠ 0 → ¬ c106 a * dA a t ≤ L) ∨ ∃ f, f < s ∧ fo = nI f ∧ q.testBit f = false ∧ dA a f ≠ 0 ∧ c106 a * dA a f ≤ L ∧ ∀ t, t < s → q.testBit t = false → dA a t ≠ 0 → c106 a * dA a t ≤ L → c106 a * dA a f ≤ c106 a * dA a t) ∧ frS (fun o => o = 241) M M2) (sN a) ?_ ?_ (i0 := 0) (by omega) (by omega) ⟨-1, M1, rfl, Or.inl ⟨rfl, fun t ht => by omega⟩, hf1⟩
    · rintro s _ hs ⟨fo, M2, rfl, hfo, f2⟩
      have e1 : M2 (235 + 1) = a := (f2 236 (by omega)).trans ha
      have hget := tb8_get q hq s (by omega)
      have hcs := cd_le hI s
      obtain ⟨Mc, ec, fc⟩ := hcost s M2 hs f2
      -- may it be taken
      have may : ∃ M3, (if ((jshr (nI q) (nI s)) &&& 1) = 0 then (Option.bind (m_Mo_isWrong 235 (nI s) M2) fun x30 => if x30 = 0 then (some ((0 : Int32), M2)) else (Option.bind (m_Mo_costOf 235 (nI s) M2) fun (x33, M34) => if nI L < x33 then (some (0, M34)) else (some (1, M34)))) else (some (0, M2))) = some (bz (q.testBit s = false ∧ dA a s ≠ 0 ∧ c106 a * dA a s ≤ L), M3) ∧ frS (fun o => o = 241) M M3 := by
        by_cases hb : q.testBit s = true
        · rw [hb] at hget
          rw [if_neg (of_decide_eq_false hget), bz_f (fun z => by rw [hb] at z; exact absurd z.1 (by decide))]
          exact ⟨M2, rfl, f2⟩
        · have hb' : q.testBit s = false := by simpa using hb
          rw [hb'] at hget
          rw [if_pos (of_decide_eq_true hget), hwrong s M2 hs f2, bS]
          by_cases hw : dA a s = 0
          · rw [if_pos hw, if_pos rfl, bz_f (fun z => z.2.1 hw)]
            exact ⟨M2, rfl, f2⟩
          · rw [if_neg hw, if_neg u10, ec, bS]
            refine ⟨Mc, ?_, fc⟩
            show (if nI L < nI (c106 a * dA a s) then _ else _) = _
            by_cases hle : c106 a * dA a s ≤ L
            · rw [if_neg (by rw [nI_ltI (by omega) (by omega)]; omega), bz_t ⟨hb', hw, hle⟩]
            · rw [if_pos (by rw [nI_ltI (by omega) (by omega)]; omega), bz_f (fun z => hle z.2.2)]
      obtain ⟨M3, em, f3⟩ := may
      have start : ∀ fo' M4, Option.bind (some (bz (q.testBit s = false ∧ dA a s ≠ 0 ∧ c106 a * dA a s ≤ L), M3)) (fun (t13, M14) => Option.bind (α := Int32 × KMem) (if t13 = 0 then (some (fo, M14)) else (if fo = (-1) then (some (nI s, M14)) else (Option.bind (m_Mo_costOf 235 (nI s) M14) fun (x22, M23) => Option.bind (m_Mo_costOf 235 fo M23) fun (x25, M26) => if x25 ≤ x22 then (some (fo, M26)) else (some (nI s, M26))))) fun (t16, M17) => some (t16, M17)) = some (fo', M4) → m_Mo_paidBy_l21 235 (nI L) (nI q) (fo, nI s, M2) = some (.inl (fo', nI (s + 1), M4)) := fun fo' M4 es => by
        unfold m_Mo_paidBy_l21
        show Option.bind (rdI M2 (235 + 1) 108 0) _ = _
        rw [r0, bS, e1, hI.1.1.2, if_neg (by rw [nI_leI (by omega) (by omega)]; omega)]
        show Option.bind (if ((jshr (nI q) (nI s)) &&& 1) = 0 then _ else _) _ = _
        rw [em]
        rw [bS] at es ⊢
        have : ∀ (o : Option (Int32 × KMem)), (o.bind fun (t16, M17) => some (t16, M17)) = some (fo', M4) → (o.bind fun (t16, M17) => some (Sum.inl (t16, nI s + 1, M17))) = (some (.inl (fo', nI (s + 1), M4)) : Option ((Int32 × Int32 × KMem) ⊕ (Int32 × KMem))) := fun o ho => by
          cases o with
          | none => cases ho
          | some w => obtain ⟨w1, w2⟩ := w; cases ho; rw [← nI_1]; rfl
        exact this _ es
      by_cases hmay : q.testBit s = false ∧ dA a s ≠ 0 ∧ c106 a * dA a s ≤ L
      · rw [bz_t hmay] at start
        rcases hfo with ⟨rfl, hno⟩ | ⟨f, hf, rfl, m1, m2, m3, m4⟩
        · refine Or.inl ⟨(nI s, nI (s + 1), M3), start _ _ ?_, nI s, M3, rfl, Or.inr ⟨s, by omega, rfl, hmay.1, hmay.2.1, hmay.2.2, fun t ht t1 t2 t3 => ?_⟩, f3⟩
          · rw [bS]
            show Option.bind (if (1 : Int32) = 0 then _ else (if (-1 : Int32) = -1 then _ else _)) _ = _
            rw [if_neg u10, if_pos rfl]
            rfl
          · by_cases hts : t = s
            · subst hts; exact Nat.le_refl _
            · exact (hno t (by omega) t1 t2 t3).elim
        · have hcf := cd_le hI f
          obtain ⟨Mc3, ec3, fc3⟩ := hcost s M3 hs f3
          obtain ⟨Mc4, ec4, fc4⟩ := hcost f Mc3 (by omega) fc3
          by_cases hcmp : c106 a * dA a f ≤ c106 a * dA a s
          · refine Or.inl ⟨(nI f, nI (s + 1), Mc4), start _ _ ?_, nI f, Mc4, rfl, Or.inr ⟨f, by omega, rfl, m1, m2, m3, fun t ht t1 t2 t3 => ?_⟩, fc4⟩
            · rw [bS]
              show Option.bind (if (1 : Int32) = 0 then _ else (if nI f = -1 then _ else Option.bind (m_Mo_costOf 235 (nI s) M3) _)) _ = _
              rw [if_neg u10, if_neg (nI_nm1 (by omega)), ec3, bS]
              show Option.bind (Option.bind (m_Mo_costOf 235 (nI f) Mc3) _) _ = _
              rw [ec4, bS]
              show Option.bind (if nI (c106 a * dA a f) ≤ nI (c106 a * dA a s) then _ else _) _ = _
              rw [if_pos (by rw [nI_leI (by omega) (by omega)]; exact hcmp)]
              rfl
            · by_cases hts : t = s
              · subst hts; exact hcmp
              · exact m4 t (by omega) t1 t2 t3
          · refine Or.inl ⟨(nI s, nI (s + 1), Mc4), start _ _ ?_, nI s, Mc4, rfl, Or.inr ⟨s, by omega, rfl, hmay.1, hmay.2.1, hmay.2.2, fun t ht t1 t2 t3 => ?_⟩, fc4⟩
            · rw [bS]
              show Option.bind (if (1 : Int32) = 0 then _ else (if nI f = -1 then _ else Option.bind (m_Mo_costOf 235 (nI s) M3) _)) _ = _
              rw [if_neg u10, if_neg (nI_nm1 (by omega)), ec3, bS]
              show Option.bind (Option.bind (m_Mo_costOf 235 (nI f) Mc3) _) _ = _
              rw [ec4, bS]
              show Option.bind (if nI (c106 a * dA a f) ≤ nI (c106 a * dA a s) then _ else _) _ = _
              rw [if_neg (by rw [nI_leI (by omega) (by omega)]; omega)]
              rfl
            · by_cases hts : t = s
              · subst hts; exact Nat.le_refl _
              · have := m4 t (by omega) t1 t2 t3
                omega
      · rw [bz_f hmay] at start
        refine Or.inl ⟨(fo, nI (s + 1), M3), start _ _ ?_, fo, M3, rfl, ?_, f3⟩
        · rw [bS]
          show Option.bind (if (0 : Int32) = 0 then _ else _) _ = _
          rw [if_pos rfl]
          rfl
        · rcases hfo with ⟨e0, hno⟩ | ⟨f, hf, e0, m1, m2, m3, m4⟩
          · refine Or.inl ⟨e0, fun t ht t1 t2 t3 => ?_⟩
            by_cases hts : t = s
            · subst hts; exact hmay ⟨t1, t2, t3⟩
            · exact hno t (by omega) t1 t2 t3
          · refine Or.inr ⟨f, by omega, e0, m1, m2, m3, fun t ht t1 t2 t3 => ?_⟩
            by_cases hts : t = s
            · subst hts; exact (hmay ⟨t1, t2, t3⟩).elim
            · exact m4 t (by omega) t1 t2 t3
    · rintro _ ⟨fo, M2, rfl, hfo, f2⟩
      have e1 : M2 (235 + 1) = a := (f2 236 (by omega)).trans ha
      refine ⟨(fo, M2), ?_, hfo, f2⟩
      unfold m_Mo_paidBy_l21
      show Option.bind (rdI M2 (235 + 1) 108 0) _ = _
      rw [r0, bS, e1, hI.1.1.2, if_pos (Int32.le_refl _)]
  unfold m_Mo_paidBy
  refine kB (fun q => q.1 = nI K ∧ frS (fun o => o = 241) M q.2) (kWh (fun m r => ∃ L N q M1, L ≤ 999 ∧ q < 256 ∧ frS (fun o => o = 241) M M1 ∧ ((r = (nI L, nI N, nI q, 1, M1) ∧ m = (clf (c106 a) (dA a) (fun t => q.testBit t) 0 (sN a)).length + 1 ∧ N + gr L (srt (clf (c106 a) (dA a) (fun t => q.testBit t) 0 (sN a))) = K) ∨ (r = (nI L, nI N, nI q, 0, M1) ∧ m = 0 ∧ N = K))) ?_ ((clf (c106 a) (dA a) (fun t => (0 : Nat).testBit t) 0 (sN a)).length + 1) _ ?_ ⟨L0, 0, 0, M, hL, by omega, frS.rf, Or.inl ⟨rfl, rfl, ?_⟩⟩) (fun x hx => kOk_i hx)
  · rintro m r ⟨L, N, q, M1, g1, g2, g3, ⟨rfl, rfl, g4⟩ | ⟨rfl, rfl, g4⟩⟩
    · obtain ⟨⟨fo, M2⟩, e, hfo, f2⟩ := inner L q M1 g1 g2 g3
      simp only at hfo f2
      rcases hfo with ⟨rfl, hno⟩ | ⟨f, hf, rfl, m1, m2, m3, m4⟩
      · refine Or.inl ⟨(nI L, nI N, nI q, 0, M2), 0, ?_, by omega, L, N, q, M2, g1, g2, f2, Or.inr ⟨rfl, rfl, ?_⟩⟩
        · unfold m_Mo_paidBy_l10
          show (if (1 : Int32) = 0 then _ else Option.bind (kLp (m_Mo_paidBy_l21 235 (nI L) (nI q)) kFU (-1, 0, M1)) _) = _
          rw [if_neg u10, e, bS]
          show Option.bind (if (-1 : Int32) = -1 then some 0 else some 1) _ = _
          rw [if_pos rfl, bS, if_pos rfl, bS, if_pos rfl, bS]
          show Option.bind (if (0 : Int32) = 0 then some 0 else some 1) _ = _
          rw [if_pos rfl, bS, show ∀ v : Int32, v - 0 = v from fun v => Int32.sub_zero v, Int32.add_zero, Int32.or_zero]
        · rw [gr_stop (c106 a) (dA a) (D := fun t => q.testBit t) (fun t ht t1 t2 => hno t ht t1 t2)] at g4
          omega
      · have hcf := cd_le hI f
        obtain ⟨Mc, ec, fc⟩ := hcost f M2 hf f2
        have D1 : (fun t => (q ||| 2 ^ f).testBit t) f = true := by simp only [tb8_or]; simp
        have D2 : ∀ t, t ≠ f → (fun t => (q ||| 2 ^ f).testBit t) t = (fun t => q.testBit t) t := fun t ht => by
          simp only [tb8_or]
          rw [decide_eq_false (fun z => ht z.symm)]
          simp
        have hgr := gr_take (c106 a) (dA a) (D := fun t => q.testBit t) (D' := fun t => (q ||| 2 ^ f).testBit t) (n := sN a) hf m1 m2 D1 D2 m3 m4
        have hlen := (clf_take (c106 a) (dA a) (D := fun t => q.testBit t) (D' := fun t => (q ||| 2 ^ f).testBit t) m1 m2 D1 D2 (sN a) 0 (by omega) (by omega)).length_eq
        rw [List.length_cons] at hlen
        refine Or.inl ⟨(nI (L - c106 a * dA a f), nI (N + 1), nI (q ||| 2 ^ f), 1, Mc), (clf (c106 a) (dA a) (fun t => (q ||| 2 ^ f).testBit t) 0 (sN a)).length + 1, ?_, by omega, L - c106 a * dA a f, N + 1, q ||| 2 ^ f, Mc, by omega, tb8_lt q g2 f (by omega), fc, Or.inl ⟨rfl, rfl, by omega⟩⟩
        unfold m_Mo_paidBy_l10
        show (if (1 : Int32) = 0 then _ else Option.bind (kLp (m_Mo_paidBy_l21 235 (nI L) (nI q)) kFU (-1, 0, M1)) _) = _
        rw [if_neg u10, e, bS]
        show Option.bind (if nI f = -1 then some 0 else some 1) _ = _
        rw [if_neg (nI_nm1 (by omega)), bS, if_neg u10, bS, if_neg u10]
        show Option.bind (Option.bind (m_Mo_costOf 235 (nI f) M2) _) _ = _
        rw [ec, bS]
        show Option.bind (some (nI (c106 a * dA a f), Mc)) _ = _
        rw [bS]
        show Option.bind (if (1 : Int32) = 0 then some 0 else some 1) _ = _
        rw [if_neg u10, bS, pk_sub m3, nI_1, tb8_set q g2 f (by omega)]
    · refine Or.inr ⟨(nI N, M1), ?_, ?_, g3⟩
      · unfold m_Mo_paidBy_l10
        show (if (0 : Int32) = 0 then _ else _) = _
        rw [if_pos rfl]
      · show nI N = nI K
        rw [g4]
  · have hle : ∀ m s, (clf (c106 a) (dA a) (fun t => (0 : Nat).testBit t) s m).length ≤ m := by
      intro m
      induction m with
      | zero => intro s; simp [clf]
      | succ m ih =>
        intro s
        simp only [clf]
        have := ih (s + 1)
        split
        · simp only [List.length_cons]; omega
        · omega
    have := hle (sN a) 0
    omega
  · rw [← hK, clf_same (c106 a) (dA a) (D := fun t => (0 : Nat).testBit t) (D' := fun _ => false) (sN a) 0 (fun t _ _ => Nat.zero_testBit t)]
    omega
theorem pub_payable {M : KMem} (h : GI M) (p0 : Int32) : Pub M [eA] (m_SR_payable 0 p0 M) (m_Mo_payable 235 p0) := by
  have h' := h
  obtain ⟨H, k, S, kp, len, T, hc, hm⟩ := h'
  have hI := hc.1
  rcases in_c p0 (lo := 0) (hi := 999) (by omega) (by omega) with ⟨j, j1, j2, rfl, e⟩ | ⟨g1, e⟩
  · refine pub_r (v := nI (gr j (remK (c106 (M 236)) (dA (M 236)) 0 (sN (M 236)) 8))) h ?_ (fun M7 => Option.bind (Option.bind (m_Mo_paidBy 235 (nI j) M7) fun (x, M8) => some (x, M8)) fun (x, M8) => some (x, M8)) (fun M1 _ => ?_) (fun M7 e7 => ?_)
    · unfold m_SR_payable
      rw [if_neg (nI_pos (by omega)), if_pos (show nI j ≤ 999 from (nI_leI (b := 999) (by omega) (by omega)).mpr j2)]
      refine kB _ (Cpay hc.2.1 hI j2) ?_
      rintro ⟨x, M1⟩ ⟨q1, q2⟩
      exact kOk_i ⟨congrArg Sum.inr q1, q2⟩
    · unfold m_Mo_payable
      rw [show m_Mo_in (nI j) 0 999 = some 1 from e, bS, if_neg u10, bS, Mholds_0, bS]
      exact Mif rfl
    · rw [gr_class (c106 (M 236)) (dA (M 236)) (fun s => dA_8 hI.1 s)]
      exact kPair (Mpay e7 hI j2)
  · refine pub_no h eA 0 rfl ?_ ?_
    · unfold m_SR_payable
      by_cases c0 : p0 < 0
      · rw [if_pos c0]
      · rw [if_neg c0, if_neg (show ¬ p0 ≤ 999 from ge_of (n := 999) c0 g1)]
    · unfold m_Mo_payable
      rw [show m_Mo_in p0 0 999 = some 0 from e, bS, if_pos rfl, bS, show m_Mo_holds 235 1 M = _ from Mholds_n (by decide) M, bS]
      rfl
