/-! LAYER 2: worthIn; the text buffer -/
/-- the first month in which the fines are more than c -/
def wP (f am c n : Nat) : Prop := am < n ∧ n ≤ 200 ∧ c < f * (n - am)
def wR' (f am c : Nat) (w : Bool) (r : Int32) : Prop := (∃ n, w = true ∧ wP f am c n ∧ (∀ m, m < n → ¬ wP f am c m) ∧ r = nI n) ∨ ((w = false ∨ ∀ m, ¬ wP f am c m) ∧ r = -1)
theorem wR_uniq {f am c : Nat} {w : Bool} {r r' : Int32} (h : wR' f am c w r) (h' : wR' f am c w r') : r = r' := by
  rcases h with ⟨n, h1, h2, h3, rfl⟩ | ⟨h1, rfl⟩
  · rcases h' with ⟨m, g1, g2, g3, rfl⟩ | ⟨g1, rfl⟩
    · have : n = m := by
        by_cases h4 : n < m
        · exact (g3 n h4 h2).elim
        · by_cases h5 : m < n
          · exact (h3 m h5 g2).elim
          · omega
      rw [this]
    · rcases g1 with g1 | g1
      · rw [g1] at h1; cases h1
      · exact (g1 n h2).elim
  · rcases h' with ⟨m, g1, g2, g3, rfl⟩ | ⟨g1, rfl⟩
    · rcases h1 with h1 | h1
      · rw [g1] at h1; cases h1
      · exact (h1 m g2).elim
    · rfl
def c107 (a : Row) : Nat := (a 107).toNatClampNeg
def a93 (a : Row) : Nat := (a 93).toNatClampNeg
theorem c107_e {a : Row} (h : InvC a) : (c107 a ≤ 20 ∧ a 107 = nI (c107 a)) ∧ (a93 a ≤ 9 ∧ a 93 = nI (a93 a)) := by
  obtain ⟨-, -, -, ⟨x, hx, e⟩, y, hy, e2⟩ := h
  unfold c107 a93
  rw [e, e2, nI_clamp (by omega), nI_clamp (by omega)]
  exact ⟨⟨hx, rfl⟩, hy, rfl⟩
theorem Cworth {a : Row} {M : KMem} {s : Nat} (h : CR a 3 M) (hI : Inv a) (hs : s < sN a) :
    kOk (m_Tw_monthsTillFinesAreMore 3 (nI s) M) (fun q => wR' (c107 a) (a93 a) (c106 a * dA a s) (decide (dA a s ≠ 0)) q.1 ∧ frS (scr 3) M q.2) := by
  have h8 := hI.1.1.1
  obtain ⟨⟨f1, f2⟩, m1, m2⟩ := c107_e hI.2.2
  unfold m_Tw_monthsTillFinesAreMore
  rw [hasSign_y (h.n hI.1) h8 hs, bS, if_neg u10, isWrong_ok h hI.1 hs, bS]
  by_cases hw : dA a s = 0
  · rw [if_pos ((ap_0 hI.1 hs).mp (by rw [← dA_e hs]; exact hw)), if_pos rfl]
    exact kOk_i ⟨Or.inr ⟨Or.inl (by simp [hw]), rfl⟩, frS.rf⟩
  · rw [if_neg (fun z => hw (by rw [dA_e hs]; exact (ap_0 hI.1 hs).mpr (i10.mp z)))]
    obtain ⟨⟨x, M9⟩, e, q1, q2⟩ := costOf_ok h hI.1 hs
    simp only at q1 q2
    rw [coA_e hI hs] at q1
    subst q1
    rw [e, bS]
    have hc := cd_le hI s
    have h9 := h.sc q2
    generalize c106 a * dA a s = c at *
    show kOk (Option.bind (kLp (m_Tw_monthsTillFinesAreMore_l29 3 (nI c) M9) kFU (0, 1)) _) _
    refine kB (fun r => (∃ n, r = .inl (nI n, M9) ∧ wP (c107 a) (a93 a) c n ∧ ∀ m, m < n → ¬ wP (c107 a) (a93 a) c m) ∨ (r = .inr () ∧ ∀ m, ¬ wP (c107 a) (a93 a) c m)) (kFor (fun n q => q = (nI (c107 a * (n - 1 - a93 a)), nI n) ∧ ∀ m, m < n → ¬ wP (c107 a) (a93 a) c m) 201 ?_ ?_ (i0 := 1) (by omega) (by omega) ⟨?_, fun m hm => ?_⟩) ?_
    · rintro n _ hn ⟨rfl, g1⟩
      have hb : ∀ k, k ≤ 200 → c107 a * k ≤ 4000 := fun k hk => by
        have : c107 a * k ≤ 20 * 200 := Nat.mul_le_mul f1 hk
        omega
      have b1 := hb (n - 1 - a93 a) (by omega)
      have b2 := hb (n - a93 a) (by omega)
      have key : (if nI n ≤ M9 (3 + 1) 12 then some (nI (c107 a * (n - 1 - a93 a))) else (Option.bind (rdI M9 (3 + 12) 2 1) fun x18 => some (nI (c107 a * (n - 1 - a93 a)) + x18))) = some (nI (c107 a * (n - a93 a))) := by
        have e12 : M9 (3 + 1) 12 = nI (a93 a) := h9.1.2.2.2.1.trans m2
        by_cases hna : n ≤ a93 a
        · rw [if_pos (by rw [e12, nI_leI (by omega) (by omega)]; exact hna), show n - 1 - a93 a = n - a93 a by omega]
        · rw [if_neg (by rw [e12, nI_leI (by omega) (by omega)]; exact hna), show rdI M9 (3 + 12) 2 1 = some (M9 (3 + 12) 1) from rdN (j := 1) (by omega) (by omega), bS, show M9 (3 + 12) 1 = a 107 from h9.2.2.2.2.2, f2, nI_add]
          congr 2
          rw [show n - a93 a = (n - 1 - a93 a) + 1 by omega, Nat.mul_add, Nat.mul_one]
      have run : m_Tw_monthsTillFinesAreMore_l29 3 (nI c) M9 (nI (c107 a * (n - 1 - a93 a)), nI n) = if nI (c107 a * (n - a93 a)) ≤ nI c then some (.inl (nI (c107 a * (n - a93 a)), nI n + 1)) else some (.inr (.inl (nI n, M9))) := by
        unfold m_Tw_monthsTillFinesAreMore_l29
        show (if 200 < nI n then _ else Option.bind (if nI n ≤ M9 (3 + 1) 12 then some (nI (c107 a * (n - 1 - a93 a))) else (Option.bind (rdI M9 (3 + 12) 2 1) fun x18 => some (nI (c107 a * (n - 1 - a93 a)) + x18))) _) = _
        rw [if_neg (by rw [show (200 : Int32) = nI 200 from rfl, nI_ltI (by omega) (by omega)]; omega), key, bS]
      by_cases hle : c107 a * (n - a93 a) ≤ c
      · rw [if_pos (by rw [nI_leI (by omega) (by omega)]; exact hle), nI_1] at run
        refine Or.inl ⟨_, run, by rw [show n + 1 - 1 - a93 a = n - a93 a by omega], fun m hm => ?_⟩
        by_cases hmn : m = n
        · subst hmn
          rintro ⟨w1, w2, w3⟩
          omega
        · exact g1 m (by omega)
      · rw [if_neg (by rw [nI_leI (by omega) (by omega)]; exact hle)] at run
        refine Or.inr ⟨_, run, Or.inl ⟨n, rfl, ⟨?_, by omega, by omega⟩, g1⟩⟩
        by_cases hna : a93 a < n
        · exact hna
        · rw [show n - a93 a = 0 by omega, Nat.mul_zero] at hle
          omega
    · rintro _ ⟨rfl, g1⟩
      refine ⟨.inr (), rfl, Or.inr ⟨rfl, fun m hm => g1 m (by have := hm.2.1; omega) hm⟩⟩
    · rw [show 1 - 1 - a93 a = 0 by omega, Nat.mul_zero]
      rfl
    · rintro ⟨w1, w2, w3⟩
      omega
    · rintro r (⟨n, rfl, g1, g2⟩ | ⟨rfl, g1⟩)
      · exact kOk_i ⟨Or.inl ⟨n, by simp [hw], g1, g2, rfl⟩, q2⟩
      · exact kOk_i ⟨Or.inr ⟨Or.inr g1, rfl⟩, q2⟩
theorem Mworth {a : Row} {M : KMem} {s : Nat} (ha : M 236 = a) (hI : Inv a) (hs : s < sN a) :
    kOk (m_Mo_worthBehind 235 (nI s) M) (fun q => wR' (c107 a) (a93 a) (c106 a * dA a s) (decide (dA a s ≠ 0)) q.1 ∧ frS (fun o => o = 241) M q.2) := by
  have h8 := hI.1.1.1
  obtain ⟨⟨f1, f2⟩, m1, m2⟩ := c107_e hI.2.2
  unfold m_Mo_worthBehind
  have ha' : M (235 + 1) = a := ha
  refine kB _ (Mcost (v := 235) (M := M) (s := s) (by rw [ha']; exact hI.1) (by rw [ha']; exact hs)) ?_
  rintro ⟨x, M3⟩ ⟨q1, q2⟩
  rw [ha'] at q1
  simp only at q1 q2
  rw [coA_e hI hs] at q1
  subst q1
  have e1 : M3 (235 + 1) = a := (q2 236 (by omega)).trans ha
  have hc := cd_le hI s
  have hw : m_Mo_isWrong 235 (nI s) M3 = some (if dA a s = 0 then 0 else 1) := by
    have := Mwrong (v := 235) (M := M3) (s := s) (by rw [e1]; exact hI.1) (by rw [e1]; exact hs)
    rw [this, e1, dA_e hs]
    by_cases hw : apA a s = 0
    · rw [if_pos hw, if_pos ((ap_0 hI.1 hs).mp hw)]
    · rw [if_neg hw, if_neg (fun z => hw ((ap_0 hI.1 hs).mpr z))]
  have e93 : ∀ X : Int32 → Option (((Int32 × Int32) ⊕ Int32)), Option.bind (rdI M3 (235 + 1) 108 93) X = X (nI (a93 a)) := fun X => by rw [r93, bS, e1, m2]
  generalize c106 a * dA a s = c at *
  show kOk (Option.bind (kLp (m_Mo_worthBehind_l13 235 (nI s) (nI c) M3) kFU (-1, 200)) _) _
  refine kB (fun r => wR' (c107 a) (a93 a) c (decide (dA a s ≠ 0)) r) (kWh (fun n q => a93 a ≤ n ∧ n ≤ 200 ∧ ∃ fo, q = (fo, nI n) ∧ ((fo = -1 ∧ ∀ m, n < m → ¬ wP (c107 a) (a93 a) c m) ∨ ∃ p, dA a s ≠ 0 ∧ n < p ∧ fo = nI p ∧ wP (c107 a) (a93 a) c p ∧ ∀ m, n < m → m < p → ¬ wP (c107 a) (a93 a) c m)) ?_ 200 _ (by omega) ⟨by omega, by omega, -1, rfl, Or.inl ⟨rfl, fun m hm hp => by have := hp.2.1; omega⟩⟩) ?_
  · rintro n _ ⟨g1, g2, fo, rfl, g3⟩
    by_cases hn : n = a93 a
    · subst hn
      refine Or.inr ⟨fo, ?_, ?_⟩
      · unfold m_Mo_worthBehind_l13
        show Option.bind (rdI M3 (235 + 1) 108 93) _ = _
        rw [e93, if_pos (Int32.le_refl _)]
      · rcases g3 with ⟨rfl, g4⟩ | ⟨p, g0, g5, rfl, g6, g7⟩
        · exact Or.inr ⟨Or.inr (fun m hm => g4 m hm.1 hm), rfl⟩
        · exact Or.inl ⟨p, by simp [g0], g6, fun m hm hp => g7 m hp.1 hm hp, rfl⟩
    · by_cases hwr : dA a s = 0
      · refine Or.inr ⟨fo, ?_, ?_⟩
        · unfold m_Mo_worthBehind_l13
          show Option.bind (rdI M3 (235 + 1) 108 93) _ = _
          rw [e93, if_neg (by rw [nI_leI (by omega) (by omega)]; omega), hw, if_pos hwr, bS, if_pos rfl]
        · rcases g3 with ⟨rfl, g4⟩ | ⟨p, g0, g5, rfl, g6, g7⟩
          · exact Or.inr ⟨Or.inl (by simp [hwr]), rfl⟩
          · exact (g0 hwr).elim
      · have hb : c107 a * (n - a93 a) ≤ 4000 := by
          have : c107 a * (n - a93 a) ≤ 20 * 200 := Nat.mul_le_mul f1 (by omega)
          omega
        have run : m_Mo_worthBehind_l13 235 (nI s) (nI c) M3 (fo, nI n) = some (.inl (if nI (c107 a * (n - a93 a)) ≤ nI c then fo else nI n, nI (n - 1))) := by
          unfold m_Mo_worthBehind_l13
          show Option.bind (rdI M3 (235 + 1) 108 93) _ = _
          rw [e93, if_neg (by rw [nI_leI (by omega) (by omega)]; omega), hw, if_neg hwr, bS, if_neg u10, r107, bS, e1, f2, e93, pk_sub g1, pk_mul, bI, show nI n + (-1) = nI (n - 1) from by rw [show n = (n - 1) + 1 by omega, pk_m1]; rfl]
        by_cases hle : c107 a * (n - a93 a) ≤ c
        · rw [if_pos (by rw [nI_leI (by omega) (by omega)]; exact hle)] at run
          refine Or.inl ⟨_, n - 1, run, by omega, by omega, by omega, fo, rfl, ?_⟩
          have hnp : ¬ wP (c107 a) (a93 a) c n := fun z => by have := z.2.2; omega
          rcases g3 with ⟨rfl, g4⟩ | ⟨p, g0, g5, rfl, g6, g7⟩
          · refine Or.inl ⟨rfl, fun m hm => ?_⟩
            by_cases hmn : m = n
            · subst hmn; exact hnp
            · exact g4 m (by omega)
          · refine Or.inr ⟨p, g0, by omega, rfl, g6, fun m h1 h2 => ?_⟩
            by_cases hmn : m = n
            · subst hmn; exact hnp
            · exact g7 m (by omega) h2
        · rw [if_neg (by rw [nI_leI (by omega) (by omega)]; exact hle)] at run
          refine Or.inl ⟨_, n - 1, run, by omega, by omega, by omega, nI n, rfl, Or.inr ⟨n, hwr, by omega, rfl, ⟨by omega, g2, by omega⟩, fun m h1 h2 => by omega⟩⟩
  · rintro r hr
    exact kOk_i ⟨hr, q2⟩
theorem pub_worthIn {M : KMem} (h : GI M) (p0 : Int32) : Pub M [eI] (m_SR_worthIn 0 p0 M) (m_Mo_worthIn 235 p0) := by
  have h' := h
  obtain ⟨H, k, S, kp, len, T, hc, hm⟩ := h'
  have hI := hc.1
  rcases reqSign_c h p0 with ⟨s, s1, rfl, e1, e2, e3⟩ | ⟨e1, e2⟩
  · obtain ⟨⟨v, Mv⟩, ev, w1, w2⟩ := Cworth hc.2.1 hI s1
    simp only at w1 w2
    refine pub_r (v := v) h ?_ (fun M7 => Option.bind (Option.bind (m_Mo_worthBehind 235 (nI s) M7) fun (x, M8) => some (x, M8)) fun (x, M8) => some (x, M8)) (fun M1 eM => ?_) (fun M7 e7 => kPair (kWk _ (Mworth e7 hI s1) (fun q hq => ⟨wR_uniq hq.1 w1, hq.2⟩)))
    · unfold m_SR_worthIn
      rw [e1, bS]
      show kOk (Option.bind (m_Tw_monthsTillFinesAreMore 3 (nI s) M) _) _
      rw [ev]
      exact kOk_i ⟨rfl, w2⟩
    · unfold m_Mo_worthIn
      rw [isSign_eq (M := M) eM, e2, bS, if_neg u10, bS, Mholds_0, bS]
      exact Mif rfl
  · refine pub_no h eI 0 rfl ?_ ?_
    · unfold m_SR_worthIn
      rw [e1]
      rfl
    · unfold m_Mo_worthIn
      rw [e2, bS, if_pos rfl, bS, show m_Mo_holds 235 1 M = _ from Mholds_n (by decide) M, bS]
      rfl
/-! the text buffer -/
theorem pub_clearText {M : KMem} (h : GI M) : Pub0 M (m_SR_clearText 0 M) (m_Mo_clearText 235) := by
  obtain ⟨H, k, S, kp, len, T, hc, hm⟩ := h
  obtain ⟨hI, hcr, hmr, hsl, t1, t2, t3⟩ := hc
  obtain ⟨a1, a2, a3, a4, a5, a6⟩ := hm
  have f1 : frS clO M (kup M 1 1 0) := frS.up (by show 1 < 235; omega)
  have f2 : frS moO (kup M 1 1 0) (kup (kup (kup M 1 1 0) 235 0 0) 235 8 0) := frS.k (frS.up ⟨by omega, by omega⟩) ⟨by omega, by omega⟩
  refine ⟨nI len, kup M 1 1 0, ?_, f1, kup (kup (kup M 1 1 0) 235 0 0) 235 8 0, ?_, f2, H, k, S, kp, 0, T, ?_, ?_⟩
  · unfold m_SR_clearText
    rw [bS]
    show some (M 1 1, _) = _
    rw [t2]
  · unfold m_Mo_clearText
    rw [bS, bS, kup_j _ _ _ (by omega), kup_n _ _ _ (by omega), a5]
  · have e236 : (kup (kup (kup M 1 1 0) 235 0 0) 235 8 0) 236 = M 236 := by rw [kup_n _ _ _ (by omega), kup_n _ _ _ (by omega), kup_n _ _ _ (by omega)]
    rw [e236]
    have F : frS (fun o => o = 1 ∨ o = 235) M (kup (kup (kup M 1 1 0) 235 0 0) 235 8 0) := frS.k (frS.k (frS.up (Or.inl rfl)) (Or.inr rfl)) (Or.inr rfl)
    obtain ⟨o, hmr⟩ := hmr
    exact ⟨hI, hcr.fr F (fun p hp => by omega), ⟨o, hmr.fr (congrFun (F 39 (by omega)) 1) (congrFun (F 39 (by omega)) 2) (fun p p1 p2 => F p (by omega))⟩, hsl.fr (F 42 (by omega)) (fun p p1 p2 => F p (by omega)), by omega, by rw [kup_n _ _ _ (by omega), kup_n _ _ _ (by omega), kup_s]; rfl, fun i hi => by omega⟩
  · unfold MS hst slt
    rw [kup_j _ _ _ (by omega), kup_j _ _ _ (by omega), kup_j _ _ _ (by omega), kup_j _ _ _ (by omega), kup_n _ _ _ (by omega), kup_s]
    simp (disch := omega) only [kup_n]
    exact ⟨a1, a2, a3, a4, rfl, fun i hi => by omega⟩
theorem pub_append {M : KMem} (h : GI M) (p0 : Int32) : Pub M [eA, eS] (m_SR_append 0 p0 M) (m_Mo_append 235 p0) := by
  have h' := h
  obtain ⟨H, k, S, kp, len, T, hc, hm⟩ := h'
  obtain ⟨hI, hcr, ⟨o, hmr⟩, hsl, t1, t2, t3⟩ := hc
  obtain ⟨a1, a2, a3, a4, a5, a6⟩ := hm
  rcases in_c p0 (lo := 0) (hi := 255) (by omega) (by omega) with ⟨c, c1, c2, rfl, e⟩ | ⟨g1, e⟩
  · have hcl : m_SR_append 0 (nI c) M = if M 1 1 < 120 then Option.bind (m_Tx_put 1 (nI c) M) fun M5 => some (.inr (M5 1 1), M5) else some (.inl eS, M) := by
      unfold m_SR_append
      rw [if_neg (nI_pos (by omega)), if_pos (show nI c ≤ 255 from (nI_leI (b := 255) (by omega) (by omega)).mpr c2)]
    by_cases hl : len = 120
    · refine pub_no h eS 1 rfl ?_ ?_
      · rw [hcl, if_neg (by rw [t2, hl]; decide)]
      · unfold m_Mo_append
        rw [show m_Mo_in (nI c) 0 255 = some 1 from e, bS, if_neg u10, a5, if_pos (by rw [hl]; rfl), bS, show m_Mo_holds 235 2 M = _ from Mholds_n (by decide) M, bS]
        rfl
    · let T' : Nat → Nat := fun i => if i = len then c else T i
      have hcls : kOk (m_SR_append 0 (nI c) M) (fun q => q.1 = .inr (nI (len + 1)) ∧ CS (M 236) H k S kp (len + 1) T' q.2 ∧ frS clO M q.2) := by
        rw [hcl, if_pos (by rw [t2, show (120 : Int32) = nI 120 from rfl, nI_ltI (by omega) (by omega)]; omega)]
        unfold m_Tx_put
        rw [t2, if_neg (by rw [show (120 : Int32) = nI 120 from rfl, nI_leI (by omega) (by omega)]; omega), wrN (by omega) (by omega), bS, bS, bS, bS]
        have e1 : kup M (1 + 1) len (nI c) 1 1 = nI len := by rw [kup_n _ _ _ (by omega)]; exact t2
        rw [e1, nI_1]
        have F : frS (fun o => o = 1 ∨ o = 2) M (kup (kup M (1 + 1) len (nI c)) 1 1 (nI (len + 1))) := frS.k (frS.up (Or.inr rfl)) (Or.inl rfl)
        refine kOk_i ⟨?_, ⟨hI, hcr.fr F (fun p hp => by omega), ⟨o, hmr.fr (congrFun (F 39 (by omega)) 1) (congrFun (F 39 (by omega)) 2) (fun p p1 p2 => F p (by omega))⟩, hsl.fr (F 42 (by omega)) (fun p p1 p2 => F p (by omega)), by omega, (by show kup (kup M (1 + 1) len (nI c)) 1 1 (nI (len + 1)) 1 1 = nI (len + 1); rw [kup_s]), fun i hi => ?_⟩, F.wk (fun p hp => by show p < 235; omega)⟩
        · show Sum.inr (kup _ 1 1 _ 1 1) = _
          rw [kup_s]
        · show (if i = len then c else T i) < 256 ∧ kup (kup M 2 len (nI c)) 1 1 (nI (len + 1)) 2 i = nI (if i = len then c else T i)
          rw [kup_n _ _ _ (by omega)]
          by_cases hil : i = len
          · subst hil
            rw [if_pos rfl, kup_s]
            exact ⟨by omega, rfl⟩
          · rw [if_neg hil, kup_j _ _ _ hil]
            exact t3 i (by omega)
      obtain ⟨⟨r, M1⟩, e1, r1, r2, r3⟩ := hcls
      simp only at r1 r2 r3
      subst r1
      refine pub_yes e1 r3 r2 (fun M1 r3 => ?_)
      have m5 : M1 235 = M 235 := r3 235 (by omega)
      unfold m_Mo_append
      rw [show m_Mo_in (nI c) 0 255 = some 1 from e, bS, if_neg u10, m5, a5, if_neg (by rw [show (120 : Int32) = nI 120 from rfl, nI_eq (by omega) (by omega)]; exact hl), bS, Mholds_0, bS]
      show kOk (if (1 : Int32) = 0 then _ else Option.bind (wrI (kup M1 235 0 0) 240 120 (kup M1 235 0 0 235 8) (nI c)) _) _
      rw [if_neg u10, kup_j _ _ _ (by omega), m5, a5, wrN (by omega) (by omega), bS, bS]
      refine kOk_i ?_
      have e8 : kup (kup M1 235 0 0) 240 len (nI c) 235 8 = nI len := by rw [kup_n _ _ _ (by omega), kup_j _ _ _ (by omega), m5]; exact a5
      rw [e8, nI_1]
      show kup (kup (kup M1 235 0 0) 240 len (nI c)) 235 8 (nI (len + 1)) 235 8 = nI (len + 1) ∧ kup (kup (kup M1 235 0 0) 240 len (nI c)) 235 8 (nI (len + 1)) 235 0 = 0 ∧ LE (M 236) (kup (kup (kup M1 235 0 0) 240 len (nI c)) 235 8 (nI (len + 1)) 236) ∧ frS moO M1 (kup (kup (kup M1 235 0 0) 240 len (nI c)) 235 8 (nI (len + 1))) ∧ MS H k S kp (len + 1) T' (kup (kup (kup M1 235 0 0) 240 len (nI c)) 235 8 (nI (len + 1)))
      have g : ∀ p, 235 ≤ p → p < 244 → M1 p = M p := fun p hp hq => r3 p (by omega)
      refine ⟨kup_s _ _ _ _, ?_, ?_, frS.k (frS.k (frS.up ⟨by omega, by omega⟩) ⟨by omega, by omega⟩) ⟨by omega, by omega⟩, ?_⟩
      · rw [kup_j _ _ _ (by omega), kup_n _ _ _ (by omega), kup_s]
      · rw [kup_n _ _ _ (by omega), kup_n _ _ _ (by omega), kup_n _ _ _ (by omega), g 236 (by omega) (by omega)]
        exact LE.rf
      · unfold MS hst slt
        rw [kup_j _ _ _ (by omega), kup_n _ _ _ (by omega), kup_j _ _ _ (by omega), m5]
        refine ⟨a1, fun j hj i hi => ?_, ?_, fun s hs hb i hi => ?_, kup_s _ _ _ _, fun i hi => ?_⟩
        · simp (disch := omega) only [kup_n]
          rw [g 238 (by omega) (by omega)]
          exact a2 j hj i hi
        · rw [kup_j _ _ _ (by omega), kup_n _ _ _ (by omega), kup_j _ _ _ (by omega), m5]; exact a3
        · simp (disch := omega) only [kup_n]
          rw [g 239 (by omega) (by omega)]
          exact a4 s hs hb i hi
        · show kup (kup (kup M1 235 0 0) 240 len (nI c)) 235 8 (nI (len + 1)) 240 i = nI (if i = len then c else T i)
          rw [kup_n _ _ _ (by omega)]
          by_cases hil : i = len
          · subst hil
            rw [if_pos rfl, kup_s]
          · rw [if_neg hil, kup_j _ _ _ hil, kup_n _ _ _ (by omega), g 240 (by omega) (by omega)]
            exact a6 i (by omega)
  · refine pub_no h eA 0 rfl ?_ ?_
    · unfold m_SR_append
      by_cases c0 : p0 < 0
      · rw [if_pos c0]
      · rw [if_neg c0, if_neg (show ¬ p0 ≤ 255 from ge_of (n := 255) c0 g1)]
    · unfold m_Mo_append
      rw [show m_Mo_in p0 0 255 = some 0 from e, bS, if_pos rfl, bS, show m_Mo_holds 235 1 M = _ from Mholds_n (by decide) M, bS]
      rfl
