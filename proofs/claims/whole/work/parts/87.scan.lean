/-! LAYER 2: the whole text, on both sides -/
def isC (t : Nat) : Bool := t == 115 || t == 100 || t == 106 || t == 111 || t == 114 || t == 112 || t == 109 || t == 121
theorem isC_8 {t : Nat} (h : isC t = true) : t = 115 ∨ t = 100 ∨ t = 106 ∨ t = 111 ∨ t = 114 ∨ t = 112 ∨ t = 109 ∨ t = 121 := by
  simp only [isC, Bool.or_eq_true, beq_iff_eq] at h
  omega
def ixB (t : Nat) : Bool := match m_Sg_indexOf (jchar (nI t)) (fun _ _ => 0) with
  | some x => decide (0 ≤ x) == isC t
  | none => false
theorem ixB_t : ∀ t, t < 256 → ixB t = true := by decide +kernel
theorem ix_M (c : Int32) (M : KMem) : m_Sg_indexOf c M = m_Sg_indexOf c (fun _ _ => 0) := rfl
theorem ix_ok {t : Nat} (h : t < 256) (M : KMem) : ∃ x, m_Sg_indexOf (jchar (nI t)) M = some x ∧ (0 ≤ x ↔ isC t = true) := by
  have hb := ixB_t t h
  rw [ix_M]
  unfold ixB at hb
  cases e : m_Sg_indexOf (jchar (nI t)) (fun _ _ => 0) with
  | none => rw [e] at hb; cases hb
  | some x =>
    rw [e] at hb
    refine ⟨x, rfl, ?_⟩
    have hb2 : decide (0 ≤ x) = isC t := eq_of_beq hb
    rw [← hb2, decide_eq_true_iff]
theorem ch_ok : ∀ t, t < 256 → (if nI t = 115 then some (0 : Int32) else if nI t = 100 then some 0 else if nI t = 106 then some 0 else if nI t = 111 then some 0 else if nI t = 114 then some 0 else if nI t = 112 then some 0 else if nI t = 109 then some 0 else if nI t = 121 then some 0 else some 1) = some (if isC t = true then 0 else 1) := by decide +kernel
theorem ch_no : ∀ t, t < 256 → isC t = false → ¬ (nI t = 100 ∨ nI t = 111) ∧ ¬ nI t = 106 ∧ ¬ nI t = 109 ∧ ¬ nI t = 112 ∧ ¬ nI t = 114 ∧ ¬ nI t = 115 ∧ ¬ nI t = 121 := by decide +kernel
theorem BQ_ok {len : Nat} {T : Nat → Nat} (hT : TX len T) {p1 t : Nat} (hp : p1 ≤ len) (h : isC t = true) : BQ len T p1 (nI t) := by
  rcases isC_8 h with rfl | rfl | rfl | rfl | rfl | rfl | rfl | rfl
  · exact BQ_s hT hp
  · exact BQ_d hT hp
  · exact BQ_j hT hp
  · exact BQ_o hT hp
  · exact BQ_r hT hp
  · exact BQ_p hT hp
  · exact BQ_m hT hp
  · exact BQ_y hT hp
theorem RQ_ok {len : Nat} {T : Nat → Nat} (hT : TX len T) {p : Nat} (hp : p < len) : ∃ (ok : Bool) (p' : Nat) (c g n x y z : Int32), p ≤ p' ∧ p' ≤ len ∧ (ok = true → p < p') ∧
    (∀ M0 M c0 g0 n0, CX len T M0 p c0 g0 n0 M → kOk (m_Tx_readCommand 1 M) (fun q => q.1 = b01 ok ∧ ∃ c1 g1 n1, CX len T M0 p' c1 g1 n1 q.2 ∧ (ok = true → c1 = c ∧ n1 = n ∧ (c = 115 → g1 = g)))) ∧
    (∀ M0 M, MX len T M0 p 0 M → kOk (m_Mo_readCommand 235 M) (fun M' => MX len T M0 p' (bd ok) M' ∧ (ok = true → M' 235 11 = c ∧ M' 235 12 = x ∧ (c = 106 ∨ c = 115 → M' 235 13 = y) ∧ (c = 106 → M' 235 14 = z)))) ∧
    (ok = true → DN c g n x y z) := by
  have ht := hT.2 p hp
  have hl := hT.1
  have cpre : ∀ M0 M c0 g0 n0, CX len T M0 p c0 g0 n0 M → m_Tx_readCommand 1 M = if isC (T p) = true then cB (kup (kup (kup M 1 5 0) 1 3 (nI (T p))) 1 2 (nI (p + 1))) else some (0, kup M 1 5 0) := fun M0 M c0 g0 n0 hc => by
    have h2 := hc.k5 (v := 0)
    unfold m_Tx_readCommand
    rw [bS, C_more hT h2 (by omega), if_pos hp, bS, if_neg u10, C_rd hT h2 hp, bS]
    obtain ⟨x, ex, hx⟩ := ix_ok ht (kup M 1 5 0)
    rw [ex, bS]
    by_cases hC : isC (T p) = true
    · rw [if_pos hC, if_pos (hx.mpr hC), bS, bS, bS]
      have e2 : kup (kup M 1 5 0) 1 3 (nI (T p)) 1 2 + 1 = nI (p + 1) := by rw [kup_j _ _ _ (by omega), h2.2.2.2.1, nI_1]
      rw [e2]
      rfl
    · rw [if_neg hC, if_neg (fun z => hC (hx.mp z))]
      rfl
  have mpre : ∀ M0 M, MX len T M0 p 0 M → ∃ M14, m_Mo_readCommand 235 M = Option.bind (mB M14) (fun M15 => some M15) ∧ M14 235 11 = nI (T p) ∧ MX len T M0 (if isC (T p) = true then p + 1 else p) (bd (isC (T p))) M14 := fun M0 M hm => by
    have h0 := hm
    obtain ⟨g0, g1, g2, g3, g4⟩ := h0
    refine ⟨kup (kup (kup M 235 11 (nI (T p))) 235 16 (bd (isC (T p)))) 235 15 (nI (if isC (T p) = true then p + 1 else p)), ?_, ?_, ?_⟩
    · unfold m_Mo_readCommand
      rw [g3, rdN (by omega) (by omega), bS, show M (235 + 5) p = _ from g2 p hp, bS, kup_s]
      have hch := ch_ok _ ht
      rw [hch, bS, kz_i, bS, bS, kup_s]
      have e15 : ∀ v, kup (kup M 235 11 (nI (T p))) 235 16 v 235 15 = nI p := fun v => by rw [kup_j _ _ _ (by omega), kup_j _ _ _ (by omega), g3]
      rw [e15]
      cases hC : isC (T p) with
      | true =>
        rw [if_pos rfl, if_pos rfl, bS, if_pos rfl, nI_1, bS]
        rfl
      | false =>
        rw [if_neg (by decide), bS, Int32.add_zero, bS]
        rfl
    · rw [kup_j _ _ _ (by omega), kup_j _ _ _ (by omega), kup_s]
    · refine ⟨⟨frS.k (frS.k (frS.k g0.1 rfl) rfl) rfl, fun j hj => ?_⟩, ?_, fun i hi => ?_, kup_s _ _ _ _, ?_⟩
      · rw [kup_j _ _ _ (by omega), kup_j _ _ _ (by omega), kup_j _ _ _ (by omega)]; exact g0.2 j hj
      · rw [kup_j _ _ _ (by omega), kup_j _ _ _ (by omega), kup_j _ _ _ (by omega)]; exact g1
      · rw [kup_n _ _ _ (by omega), kup_n _ _ _ (by omega), kup_n _ _ _ (by omega)]; exact g2 i hi
      · rw [kup_j _ _ _ (by omega), kup_s]
  cases hC : isC (T p) with
  | true =>
    obtain ⟨ok, p', g, n, x, y, z, b1, b2, b3, b4, b5⟩ := BQ_ok hT (p1 := p + 1) hp hC
    refine ⟨ok, p', nI (T p), g, n, x, y, z, by omega, b2, fun _ => by omega, fun M0 M c0 g0 n0 hc => ?_, fun M0 M hm => ?_, b5⟩
    · rw [cpre M0 M c0 g0 n0 hc, if_pos hC]
      refine kWk _ (b3 M0 _ g0 ((hc.k5 (v := 0)).k3.k2)) ?_
      rintro q ⟨q1, g1, n1, q2, q3⟩
      exact ⟨q1, _, g1, n1, q2, fun hk => ⟨rfl, (q3 hk).1, (q3 hk).2⟩⟩
    · obtain ⟨M14, e, e11, m⟩ := mpre M0 M hm
      rw [if_pos hC, hC] at m
      rw [e]
      refine kB _ (b4 M0 M14 m e11) ?_
      intro M' hM'
      exact kOk_i hM'
  | false =>
    refine ⟨false, p, 0, 0, 0, 0, 0, 0, by omega, by omega, fun z => absurd z (by decide), fun M0 M c0 g0 n0 hc => ?_, fun M0 M hm => ?_, fun z => absurd z (by decide)⟩
    · rw [cpre M0 M c0 g0 n0 hc, if_neg (by rw [hC]; decide)]
      exact kOk_i ⟨rfl, _, _, _, hc.k5, fun z => absurd z (by decide)⟩
    · obtain ⟨M14, e, e11, m⟩ := mpre M0 M hm
      rw [if_neg (by rw [hC]; decide), hC] at m
      obtain ⟨n1, n2, n3, n4, n5, n6, n7⟩ := ch_no _ ht hC
      rw [e]
      unfold mB
      rw [e11, if_neg n1, if_neg n2, if_neg n3, if_neg n4, if_neg n5, if_neg n6, if_neg n7]
      exact kOk_i ⟨m.k (by omega) (by omega), fun z => absurd z (by decide)⟩
theorem CX.rb {len : Nat} {T : Nat → Nat} {M0 M : KMem} {p : Nat} {c g n : Int32} (h : CX len T M0 p c g n M) : CX len T M p c g n M := ⟨frS.rf, h.2⟩
theorem CX.tr {len : Nat} {T : Nat → Nat} {M0 M1 M : KMem} {p : Nat} {c g n : Int32} (h : CX len T M1 p c g n M) (h0 : frS oT M0 M1) : CX len T M0 p c g n M := ⟨h0.tr h.1, h.2⟩
theorem CX.fr {len : Nat} {T : Nat → Nat} {M0 M M' : KMem} {p : Nat} {c g n : Int32} (h : CX len T M0 p c g n M) (hf : frS (twn 3) M M') : CX len T M' p c g n M' := by
  obtain ⟨h0, h1, h2, h3, h4, h5, h6⟩ := h
  have e1 : M' 1 = M 1 := hf 1 (by omega)
  have e2 : M' 2 = M 2 := hf 2 (by omega)
  exact ⟨frS.rf, by rw [e1]; exact h1, by rw [e2]; exact h2, by rw [e1]; exact h3, by rw [e1]; exact h4, by rw [e1]; exact h5, by rw [e1]; exact h6⟩
theorem MX.rb {len : Nat} {T : Nat → Nat} {M0 M : KMem} {p : Nat} {z : Int32} (h : MX len T M0 p z M) : MX len T M p z M := ⟨⟨frS.rf, fun _ _ => rfl⟩, h.2⟩
theorem MX.fr {len : Nat} {T : Nat → Nat} {M0 M M' : KMem} {p : Nat} {z : Int32} (h : MX len T M0 p z M) (hf : frS moD M M') : MX len T M' p z M' := by
  obtain ⟨h0, h1, h2, h3, h4⟩ := h
  have e1 : M' 235 = M 235 := hf 235 (by omega)
  have e2 : M' 240 = M 240 := hf 240 (by omega)
  exact ⟨⟨frS.rf, fun _ _ => rfl⟩, by rw [e1]; exact h1, by rw [e2]; exact h2, by rw [e1]; exact h3, by rw [e1]; exact h4⟩
/-- the place of the first error, none: there is no error -/
def ev : Option Nat → Int32
  | none => -1
  | some k => nI k
abbrev fEnd (r : (Int32 × KMem) ⊕ KMem) : Option (Int32 × KMem) := match r with
 | .inl q => some q
 | .inr M15 =>
 (some ((-1), M15))
def SC (len : Nat) (T : Nat → Nat) (p : Nat) (e : Option Nat) : Prop := ∀ M0 M c g n i F, CX len T M0 p c g n M → i < p → len - p < F → kOk (Option.bind (kLp (m_Tx_firstError_l14 1) F (nI i, M)) fEnd) (fun q => q.1 = ev e ∧ ∃ p' c' g' n', CX len T M0 p' c' g' n' q.2)
def SM (len : Nat) (T : Nat → Nat) (p : Nat) (e : Option Nat) : Prop := ∀ M0 M v F, MX len T M0 p 0 M → len - p < F → kOk (kLp (m_Mo_goesThrough_l21 235 0) F (v, M)) (fun q => ∃ p', MX len T M0 p' (if e = none then 0 else 1) q.2 ∧ ∀ k, e = some k → p' = k)
/-- loading the rest of the text from p -/
def LD (len : Nat) (T : Nat → Nat) (p : Nat) : Prop := ∀ b v, Inv b → ∃ (b' : Row) (v' : Int32), Inv b' ∧
  (∀ M c g n i F, CX len T M p c g n M → CR b 3 M → i < p → len - p < F → kOk (kLp (m_SR_load_l57 0) F (v, nI i, M)) (fun q => q.1 = v' ∧ CR b' 3 q.2 ∧ frS (fun o => o = 1 ∨ twn 3 o) M q.2 ∧ q.2 1 1 = M 1 1)) ∧
  (∀ M F, MX len T M p 0 M → M 236 = b → len - p < F → kOk (kLp (m_Mo_goesThrough_l21 235 1) F (v, M)) (fun q => q.1 = v' ∧ q.2 236 = b' ∧ frS moE M q.2 ∧ (∀ j, j < 11 → q.2 235 j = M 235 j)))
theorem told_ok {c t : Int32} {k : Bool} {M : KMem} (h : tkP c k t) (hM : M 235 11 = c) : (if t = -9 then some (1 : Int32) else Option.bind (m_Mo_hasReasons 235 M) fun x23 => if x23 = 0 then some 0 else if t ≤ 0 then some 0 else some 1) = some (bd k) := by
  rw [hasReasons_ok hM]
  cases k with
  | true =>
    obtain ⟨h1, h2⟩ := h.1 rfl
    rw [if_neg h2, bS]
    by_cases hc : rcs c
    · rw [bz_t hc, if_neg u10, h1 hc, if_pos (Int32.le_refl _)]; rfl
    · rw [bz_f hc, if_pos rfl]; rfl
  | false =>
    obtain ⟨h1, h2, h3⟩ := h.2 rfl
    by_cases h9 : t = -9
    · rw [if_pos h9]; rfl
    · obtain ⟨hc, h0⟩ := h2.resolve_left h9
      rw [if_neg h9, bS, bz_t hc, if_neg u10, if_neg h0]; rfl
theorem scan_ok {len : Nat} {T : Nat → Nat} (hT : TX len T) : ∀ m p, len - p ≤ m → p ≤ len → ∃ e : Option Nat, (∀ k, e = some k → k ≤ len) ∧ SC len T p e ∧ SM len T p e ∧ (e = none → LD len T p) := by
  have hl := hT.1
  -- at the end
  have fin : ∃ e : Option Nat, (∀ k, e = some k → k ≤ len) ∧ SC len T len e ∧ SM len T len e ∧ (e = none → LD len T len) := by
    have mle : ∀ {M0 M : KMem}, MX len T M0 len 0 M → M 235 8 ≤ M 235 15 := fun {M0 M} h => by rw [h.2.1, h.2.2.2.1]; exact Int32.le_refl _
    have c120 : ∀ i, i < len → ¬ (120 : Int32) ≤ nI i := fun i hi => by rw [show (120 : Int32) = nI 120 from rfl, nI_leI (by omega) (by omega)]; omega
    refine ⟨none, fun k h => (by cases h), fun M0 M c g n i F hc hi hF => ?_, fun M0 M v F hm hF => ?_, fun _ b v hI => ⟨b, v, hI, fun M c g n i F hc hcr hi hF => ?_, fun M F hm hb hF => ?_⟩⟩
    · obtain ⟨f, rfl⟩ : ∃ f, F = f + 1 := ⟨F - 1, by omega⟩
      rw [kLp_r (r := .inr M)]
      · exact kOk_i ⟨rfl, _, _, _, _, hc⟩
      · unfold m_Tx_firstError_l14
        show (if 120 ≤ nI i then _ else _) = _
        rw [if_neg (c120 i hi), C_more hT hc (Nat.le_refl _), if_neg (by omega), bS, if_pos rfl]
    · obtain ⟨f, rfl⟩ : ∃ f, F = f + 1 := ⟨F - 1, by omega⟩
      rw [kLp_r (r := (v, M))]
      · exact kOk_i ⟨len, by rw [if_pos rfl]; exact hm, fun k h => (by cases h)⟩
      · unfold m_Mo_goesThrough_l21
        show (if M 235 16 = 0 then _ else _) = _
        rw [if_pos hm.2.2.2.2, if_pos (mle hm)]
    · obtain ⟨f, rfl⟩ : ∃ f, F = f + 1 := ⟨F - 1, by omega⟩
      rw [kLp_r (r := (v, M))]
      · exact kOk_i ⟨rfl, hcr, frS.rf, rfl⟩
      · unfold m_SR_load_l57
        show (if 120 ≤ nI i then _ else _) = _
        rw [if_neg (c120 i hi), show m_Tx_hasMore (0 + 1) M = _ from C_more hT hc (Nat.le_refl _), if_neg (by omega), bS, if_pos rfl]
    · obtain ⟨f, rfl⟩ : ∃ f, F = f + 1 := ⟨F - 1, by omega⟩
      rw [kLp_r (r := (v, M))]
      · exact kOk_i ⟨rfl, hb, frS.rf, fun _ _ => rfl⟩
      · unfold m_Mo_goesThrough_l21
        show (if M 235 16 = 0 then _ else _) = _
        rw [if_pos hm.2.2.2.2, if_pos (mle hm)]
  intro m
  induction m with
  | zero =>
    intro p hm hp
    have : p = len := by omega
    subst this
    exact fin
  | succ m ih =>
    intro p hm hp
    by_cases hpl : p = len
    · subst hpl
      exact fin
    · have hlt : p < len := by omega
      obtain ⟨ok, p', c, g, n, x, y, z, b1, b2, b3, b4, b5, b6⟩ := RQ_ok hT hlt
      have c120 : ∀ i, i < p → ¬ (120 : Int32) ≤ nI i := fun i hi => by rw [show (120 : Int32) = nI 120 from rfl, nI_leI (by omega) (by omega)]; omega
      have mle : ∀ {M0 M : KMem}, MX len T M0 p 0 M → ¬ M 235 8 ≤ M 235 15 := fun {M0 M} h => by rw [h.2.1, h.2.2.2.1, nI_leI (by omega) (by omega)]; omega
      have cstep : ∀ M0 M c0 g0 n0 i, CX len T M0 p c0 g0 n0 M → i < p → ∃ M13, (∃ c1 g1 n1, CX len T M0 p' c1 g1 n1 M13) ∧ m_Tx_firstError_l14 1 (nI i, M) = some (if ok = true then .inl (nI (i + 1), M13) else .inr (.inl (nI p', M13))) := fun M0 M c0 g0 n0 i hc hi => by
        obtain ⟨⟨x, M13⟩, em, t1, c1, g1, n1, t2, t3⟩ := b4 M0 M c0 g0 n0 hc
        simp only at t1 t2
        subst t1
        refine ⟨M13, ⟨c1, g1, n1, t2⟩, ?_⟩
        unfold m_Tx_firstError_l14
        show (if 120 ≤ nI i then _ else _) = _
        rw [if_neg (c120 i hi), C_more hT hc hp, if_pos hlt, bS, if_neg u10, em, bS]
        show (if b01 ok = 0 then _ else _) = _
        cases ok with
        | true => rw [if_neg (by decide), if_pos rfl, nI_1]
        | false => rw [if_pos (by decide), if_neg (by decide), t2.2.2.2.1]
      have mstep : ∀ M0 M v, MX len T M0 p 0 M → ∃ M15, MX len T M0 p' (bd ok) M15 ∧ ∃ v', m_Mo_goesThrough_l21 235 0 (v, M) = some (.inl (v', M15)) := fun M0 M v hm => by
        obtain ⟨M15, em, t1, t2⟩ := b5 M0 M hm
        refine ⟨M15, t1, ?_⟩
        unfold m_Mo_goesThrough_l21
        show ∃ v', (if M 235 16 = 0 then _ else _) = _
        rw [if_pos hm.2.2.2.2, if_neg (mle hm), em, bS, if_pos rfl, bS]
        show ∃ v', Option.bind (if (0 : Int32) = -9 then some (1 : Int32) else Option.bind (m_Mo_hasReasons 235 M15) fun x23 => if x23 = 0 then some 0 else if (0 : Int32) ≤ 0 then some 0 else some 1) _ = some (Sum.inl (v', M15))
        rw [if_neg (by decide), hasReasons_ok (c := M15 235 11) rfl, bS]
        by_cases hz : bz (rcs (M15 235 11)) = 0
        · rw [if_pos hz, bS]; exact ⟨_, rfl⟩
        · rw [if_neg hz, if_pos (Int32.le_refl _), bS]; exact ⟨_, rfl⟩
      cases ok with
      | false =>
        refine ⟨some p', fun k h => (by cases h; exact b2), fun M0 M c0 g0 n0 i F hc hi hF => ?_, fun M0 M v F hm hF => ?_, fun h => by cases h⟩
        · obtain ⟨f, rfl⟩ : ∃ f, F = f + 1 := ⟨F - 1, by omega⟩
          obtain ⟨M13, ⟨c1, g1, n1, t2⟩, e⟩ := cstep M0 M c0 g0 n0 i hc hi
          rw [if_neg (by decide)] at e
          rw [kLp_r e]
          exact kOk_i ⟨rfl, _, _, _, _, t2⟩
        · obtain ⟨f, rfl⟩ : ∃ f, F = f + 2 := ⟨F - 2, by omega⟩
          obtain ⟨M15, t1, v', e⟩ := mstep M0 M v hm
          rw [kLp_i e, kLp_r (r := (v', M15))]
          · exact kOk_i ⟨p', t1, fun k h => (by cases h; rfl)⟩
          · unfold m_Mo_goesThrough_l21
            show (if M15 235 16 = 0 then _ else _) = _
            rw [if_neg (show ¬ M15 235 16 = 0 from by rw [t1.2.2.2.2]; decide)]
      | true =>
        have hpp := b3 rfl
        obtain ⟨e, e0, e1, e2, e3⟩ := ih p' (by omega) b2
        refine ⟨e, e0, fun M0 M c0 g0 n0 i F hc hi hF => ?_, fun M0 M v F hm hF => ?_, fun he b v hI => ?_⟩
        · obtain ⟨f, rfl⟩ : ∃ f, F = f + 1 := ⟨F - 1, by omega⟩
          obtain ⟨M13, ⟨c1, g1, n1, t2⟩, es⟩ := cstep M0 M c0 g0 n0 i hc hi
          rw [if_pos rfl] at es
          rw [kLp_i es]
          exact e1 M0 M13 c1 g1 n1 (i + 1) f t2 (by omega) (by omega)
        · obtain ⟨f, rfl⟩ : ∃ f, F = f + 1 := ⟨F - 1, by omega⟩
          obtain ⟨M15, t1, v', es⟩ := mstep M0 M v hm
          rw [kLp_i es]
          exact e2 M0 M15 v' f t1 (by omega)
        · obtain ⟨k, b', d1, d2, d3⟩ := b6 rfl b hI
          obtain ⟨b'', v'', f1, f2, f3⟩ := e3 he b' (v + bd k) d1
          refine ⟨b'', v'', f1, fun M c0 g0 n0 i F hc hcr hi hF => ?_, fun M F hm hb hF => ?_⟩
          · obtain ⟨f, rfl⟩ : ∃ f, F = f + 1 := ⟨F - 1, by omega⟩
            obtain ⟨⟨x, M23⟩, em, t1, c1, g1, n1, t2, t3⟩ := b4 M M c0 g0 n0 hc
            simp only at t1 t2
            subst t1
            obtain ⟨hc1, hn1, hg1⟩ := t3 rfl
            subst hc1 hn1
            have hcr2 : CR b 3 M23 := hcr.fr t2.1 (fun o (ho : o = 1) => by omega)
            obtain ⟨⟨y', M30⟩, em2, s1, s2, s3⟩ := d2 M23 hcr2 t2.2.2.2.2.1 t2.2.2.2.2.2.2 (fun h => by rw [← hg1 h]; exact t2.2.2.2.2.2.1)
            simp only at s1 s2 s3
            subst s1
            have hst : m_SR_load_l57 0 (v, nI i, M) = some (.inl (v + bd k, nI (i + 1), M30)) := by
              unfold m_SR_load_l57
              show (if 120 ≤ nI i then _ else _) = _
              rw [if_neg (c120 i hi), show m_Tx_hasMore (0 + 1) M = _ from C_more hT hc hp, if_pos hlt, bS, if_neg u10, show m_Tx_readCommand (0 + 1) M = _ from em, bS]
              show Option.bind (if (1 : Int32) = 0 then _ else _) _ = _
              rw [if_neg u10, em2, bS]
              show Option.bind (if b01 k = 0 then _ else _) _ = _
              cases k with
              | true => rw [if_neg (by decide), bS]; show some (Sum.inl (v, nI i + 1, M30)) = _; rw [nI_1, show bd true = 0 from rfl, Int32.add_zero]
              | false => rw [if_pos (by decide), bS]; show some (Sum.inl (v + 1, nI i + 1, M30)) = _; rw [nI_1]; rfl
            rw [kLp_i hst]
            refine kWk _ (f2 M30 _ _ _ (i + 1) f (t2.fr s3) s2 (by omega) (by omega)) ?_
            rintro q ⟨q1, q2, q3, q4⟩
            refine ⟨q1, q2, ((t2.1.wk (fun o ho => Or.inl ho)).tr (s3.wk (fun o ho => Or.inr ho))).tr q3, ?_⟩
            rw [q4, s3 1 (by omega), t2.2.1, hc.2.1]
          · obtain ⟨f, rfl⟩ : ∃ f, F = f + 1 := ⟨F - 1, by omega⟩
            obtain ⟨M15, em, t1, t2⟩ := b5 M M hm
            obtain ⟨h11, h12, h13, h14⟩ := t2 rfl
            have hb15 : M15 236 = b := (t1.1.1 236 (by show ¬ 236 = 235; omega)).trans hb
            obtain ⟨⟨t, M29⟩, em2, s1, s2, s3⟩ := d3 M15 hb15 h11 h12 h13 h14
            simp only at s1 s2 s3
            have hst : m_Mo_goesThrough_l21 235 1 (v, M) = some (.inl (v + bd k, M29)) := by
              unfold m_Mo_goesThrough_l21
              show (if M 235 16 = 0 then _ else _) = _
              rw [if_pos hm.2.2.2.2, if_neg (mle hm), em, bS, if_neg u10, em2, bS, bS]
              show Option.bind (if t = -9 then some (1 : Int32) else Option.bind (m_Mo_hasReasons 235 M29) fun x23 => if x23 = 0 then some 0 else if t ≤ 0 then some 0 else some 1) _ = _
              rw [told_ok s1 (by rw [s3 235 (by omega)]; exact h11), bS]
            have hm29 : MX len T M29 p' 0 M29 := t1.fr s3
            rw [kLp_i hst]
            refine kWk _ (f3 M29 f hm29 s2 (by omega)) ?_
            rintro q ⟨q1, q2, q3, q4⟩
            refine ⟨q1, q2, ((t1.1.1.wk (fun o (ho : o = 235) => Or.inl ho)).tr (s3.wk (fun o ho => Or.inr ho))).tr q3, fun j hj => ?_⟩
            rw [q4 j hj, s3 235 (by omega)]
            exact t1.1.2 j hj
