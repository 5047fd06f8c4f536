/-! LAYER 2: the place of the first error -/
theorem CX.st {len : Nat} {T : Nat → Nat} {M : KMem} (h : CT len T M) : CX len T M 0 (M 1 3) (M 1 4) (M 1 5) (kup M 1 2 0) := by
  refine ⟨frS.up rfl, ?_, fun i hi => ?_, kup_s _ _ _ _, ?_, ?_, ?_⟩
  · rw [kup_j _ _ _ (by omega)]; exact h.2.1
  · rw [kup_n _ _ _ (by omega)]; exact (h.2.2 i hi).2
  · rw [kup_j _ _ _ (by omega)]
  · rw [kup_j _ _ _ (by omega)]
  · rw [kup_j _ _ _ (by omega)]
theorem CT.tx {len : Nat} {T : Nat → Nat} {M : KMem} (h : CT len T M) : TX len T := ⟨h.1, fun i hi => (h.2.2 i hi).1⟩
theorem restart_ok {len : Nat} {T : Nat → Nat} {M : KMem} (h : CT len T M) : kOk (m_Tx_restart 1 M) (fun q => q.1 = b01 (decide (Hit len T 0 82 82)) ∧ ∃ c g n, CX len T M (if Hit len T 0 82 82 then 0 + 1 else 0) c g n q.2) := by
  unfold m_Tx_restart
  rw [bS]
  refine kB _ (C_mark (m := 82) h.tx (CX.st h) (by omega) (by omega)) ?_
  rintro ⟨x, M1⟩ ⟨q1, q2⟩
  simp only at q1 q2
  subst q1
  show kOk (Option.bind (kz (b01 _)) _) _
  rw [kz_j, bS]
  exact kOk_i ⟨rfl, _, _, _, q2⟩
def MT (len : Nat) (T : Nat → Nat) (M : KMem) : Prop := M 235 8 = nI len ∧ ∀ i, i < len → M 240 i = nI (T i)
theorem gT_st {len : Nat} {T : Nat → Nat} {M : KMem} (hT : TX len T) (h : MT len T M) {p0 : Int32} {P : Int32 × KMem → Prop}
    (k : ∀ M9, MX len T M (if Hit len T 0 82 82 then 0 + 1 else 0) (bd (decide (Hit len T 0 82 82))) M9 → kOk (kLp (m_Mo_goesThrough_l21 235 p0) kFU (0, M9)) P) : kOk (m_Mo_goesThrough 235 p0 M) P := by
  unfold m_Mo_goesThrough
  rw [bS, kz_0, bS, bS]
  have hm : MX len T M 0 0 (kup (kup M 235 15 0) 235 16 0) := by
    refine ⟨⟨frS.k (frS.up rfl) rfl, fun j hj => ?_⟩, ?_, fun i hi => ?_, ?_, kup_s _ _ _ _⟩
    · rw [kup_j _ _ _ (by omega), kup_j _ _ _ (by omega)]
    · rw [kup_j _ _ _ (by omega), kup_j _ _ _ (by omega)]; exact h.1
    · rw [kup_n _ _ _ (by omega), kup_n _ _ _ (by omega)]; exact h.2 i hi
    · rw [kup_j _ _ _ (by omega), kup_s]; rfl
  refine kB _ (M_mark (m := 82) hT hm (by omega) (by omega)) ?_
  rintro ⟨x, M9⟩ ⟨q1, q2, q3⟩
  refine kB _ (k M9 q2) ?_
  rintro ⟨v, M31⟩ hq
  exact kOk_i hq
theorem first_ok {len : Nat} {T : Nat → Nat} (hT : TX len T) : ∃ e : Option Nat, (∀ k, e = some k → k ≤ len) ∧
    (∀ M, CT len T M → kOk (m_Tx_firstError 1 M) (fun q => q.1 = ev e ∧ frS oT M q.2 ∧ CT len T q.2)) ∧
    (∀ M, MT len T M → kOk (m_Mo_goesThrough 235 0 M) (fun q => ∃ p', MX len T M p' (if e = none then 0 else 1) q.2 ∧ ∀ k, e = some k → p' = k)) ∧
    (e = none → Hit len T 0 82 82 ∧ LD len T 1) := by
  have hl := hT.1
  have ct : ∀ {M M1 : KMem} {p : Nat} {c g n : Int32}, CT len T M → CX len T M p c g n M1 → CT len T M1 := fun h hx => ⟨h.1, hx.2.1, fun i hi => ⟨(h.2.2 i hi).1, hx.2.2.1 i hi⟩⟩
  by_cases hh : Hit len T 0 82 82
  · obtain ⟨e, e0, e1, e2, e3⟩ := scan_ok hT 120 1 (by omega) hh.1
    refine ⟨e, e0, fun M h => ?_, fun M h => ?_, fun he => ⟨hh, e3 he⟩⟩
    · obtain ⟨⟨x, M3⟩, em, t1, c, g, n, t2⟩ := restart_ok h
      rw [if_pos hh] at t2
      simp only [decide_eq_true hh] at t1 t2
      subst t1
      unfold m_Tx_firstError
      rw [em, bS]
      show kOk (if (1 : Int32) = 0 then _ else _) _
      rw [if_neg u10]
      refine kWk _ (e1 M M3 c g n 0 kFU t2 (by omega) (by have : kFU = 100000 := rfl; omega)) ?_
      rintro q ⟨q1, p', c', g', n', q2⟩
      exact ⟨q1, q2.1, ct h q2⟩
    · refine gT_st hT h (fun M9 h9 => ?_)
      rw [if_pos hh, decide_eq_true hh] at h9
      exact e2 M M9 0 kFU h9 (by have : kFU = 100000 := rfl; omega)
  · refine ⟨some 0, fun k h => (by cases h; omega), fun M h => ?_, fun M h => ?_, fun h => (by cases h)⟩
    · obtain ⟨⟨x, M3⟩, em, t1, c, g, n, t2⟩ := restart_ok h
      rw [if_neg hh] at t2
      simp only [decide_eq_false hh] at t1 t2
      subst t1
      unfold m_Tx_firstError
      rw [em, bS]
      show kOk (if (0 : Int32) = 0 then _ else _) _
      rw [if_pos rfl]
      exact kOk_i ⟨t2.2.2.2.1, t2.1, ct h t2⟩
    · refine gT_st hT h (fun M9 h9 => ?_)
      rw [if_neg hh, decide_eq_false hh] at h9
      rw [kFU_s, kLp_r (r := (0, M9))]
      · exact kOk_i ⟨0, h9, fun k h => (by cases h; rfl)⟩
      · unfold m_Mo_goesThrough_l21
        show (if M9 235 16 = 0 then _ else _) = _
        rw [if_neg (show ¬ M9 235 16 = 0 from by rw [h9.2.2.2.2]; decide)]
/-- reading changes nothing that stays -/
theorem GI.rd {M M1 M2 : KMem} {H : Nat → Row} {k : Nat} {S : Nat → Row} {kp len : Nat} {T : Nat → Nat} (hc : CS (M 236) H k S kp len T M) (hm : MS H k S kp len T M) (h1 : frS oT M M1) (hT : CT len T M1) (h2 : frS oM M1 M2) (h3 : ∀ j, j = 4 ∨ j = 6 ∨ j = 8 → M2 235 j = M1 235 j) : GI M2 := by
  have e236 : M2 236 = M 236 := (h2 236 (by show ¬ 236 = 235; omega)).trans (h1 236 (by show ¬ 236 = 1; omega))
  refine ⟨H, k, S, kp, len, T, ?_, ?_⟩
  · rw [e236]
    refine (hc.fr (h1.wk (fun o ho => Or.inl ho)) ?_).mo (h2.wk (fun o (ho : o = 235) => by omega))
    rw [hT.2.1, hc.2.2.2.2.2.1]
  · obtain ⟨a1, a2, a3, a4, a5, a6⟩ := hm.cl (h1.wk (fun o (ho : o = 1) => by show o < 235 ∨ o = 244; omega))
    unfold MS hst slt
    rw [h3 4 (by omega), h3 6 (by omega), h3 8 (by omega), h2 238 (by show ¬ 238 = 235; omega), h2 239 (by show ¬ 239 = 235; omega), h2 240 (by show ¬ 240 = 235; omega)]
    exact ⟨a1, a2, a3, a4, a5, a6⟩
theorem pub_errorPosition {M : KMem} (h : GI M) : Pub0 M (m_SR_errorPosition 0 M) (m_Mo_errorPosition 235) := by
  obtain ⟨H, k, S, kp, len, T, hc, hm⟩ := h
  have hct := hc.2.2.2.2
  obtain ⟨e, e0, e1, e2, e3⟩ := first_ok hct.tx
  obtain ⟨⟨x, M3⟩, em, t1, t2, t3⟩ := e1 M hct
  simp only at t1 t2 t3
  subst t1
  have hmt : MT len T (kup M3 235 0 0) := by
    obtain ⟨a1, a2, a3, a4, a5, a6⟩ := hm.cl (t2.wk (fun o (ho : o = 1) => by show o < 235 ∨ o = 244; omega))
    exact ⟨by rw [kup_j _ _ _ (by omega)]; exact a5, fun i hi => by rw [kup_n _ _ _ (by omega)]; exact a6 i hi⟩
  obtain ⟨⟨y, M5⟩, em2, p', s1, s2⟩ := e2 _ hmt
  simp only at s1
  refine ⟨ev e, M3, ?_, t2.wk (fun o (ho : o = 1) => by show o < 235; omega), M5, ?_, (frS.up ⟨by omega, by omega⟩).tr (s1.1.1.wk (fun o (ho : o = 235) => ⟨by omega, by omega⟩)), ?_⟩
  · unfold m_SR_errorPosition
    rw [show m_Tx_firstError (0 + 1) M = _ from em, bS]
  · unfold m_Mo_errorPosition
    rw [bS, em2, bS]
    show Option.bind (if M5 235 16 = 0 then _ else _) _ = _
    rw [s1.2.2.2.2]
    cases e with
    | none => rw [if_pos rfl, if_pos rfl, bS]; rfl
    | some k => rw [if_neg (show ¬ some k = none by intro z; cases z), if_neg u10, bS, s1.2.2.2.1, s2 k rfl]; rfl
  · refine GI.rd hc hm t2 t3 (M2 := M5) ((frS.up (S := oM) rfl).tr s1.1.1) (fun j hj => ?_)
    rw [s1.1.2 j (by omega), kup_j _ _ _ (by omega)]
/-- the row of a new town -/
def bg (a : Row) : Row := upd (upd (upd (fun j => if j < 108 then 0 else a j) 94 (-1)) 106 4) 107 3
theorem bg_z (a : Row) {j : Nat} (h : j < 108) (h1 : j ≠ 94) (h2 : j ≠ 106) (h3 : j ≠ 107) : bg a j = 0 := by
  unfold bg
  rw [pk_un (by omega), pk_un (by omega), pk_un (by omega)]
  exact if_pos h
theorem bg_94 (a : Row) : bg a 94 = -1 := by
  unfold bg
  rw [pk_un (by omega), pk_un (by omega), pk_us]
theorem bg_106 (a : Row) : bg a 106 = 4 := by
  unfold bg
  rw [pk_un (by omega), pk_us]
theorem bg_107 (a : Row) : bg a 107 = 3 := by
  unfold bg
  rw [pk_us]
theorem bg_n (a : Row) : sN (bg a) = 0 ∧ dN (bg a) = 0 := ⟨sN_of (bg_z a (by omega) (by omega) (by omega) (by omega)) (by omega), dN_of (bg_z a (by omega) (by omega) (by omega) (by omega)) (by omega)⟩
theorem bg_inv (a : Row) : Inv (bg a) := by
  obtain ⟨h1, h2⟩ := bg_n a
  have z : ∀ j, j < 108 → j ≠ 94 → j ≠ 106 → j ≠ 107 → bg a j = 0 := fun j a1 a2 a3 a4 => bg_z a a1 a2 a3 a4
  refine ⟨⟨⟨by omega, by rw [h1]; exact z 0 (by omega) (by omega) (by omega) (by omega)⟩, ⟨by omega, by rw [h2]; exact z 41 (by omega) (by omega) (by omega) (by omega)⟩, ?_, fun s hs => by omega⟩, ⟨fun s hs => by omega, fun s t _ hs => by omega⟩, ?_, ?_, ⟨4, by omega, bg_106 a⟩, ⟨3, by omega, bg_107 a⟩, 0, by omega, z 93 (by omega) (by omega) (by omega) (by omega)⟩
  · rw [h2]
    exact fun k hk => absurd hk (Nat.not_lt_zero _)
  · rw [z 95 (by omega) (by omega) (by omega) (by omega), z 98 (by omega) (by omega) (by omega) (by omega), z 99 (by omega) (by omega) (by omega) (by omega), z 100 (by omega) (by omega) (by omega) (by omega), z 101 (by omega) (by omega) (by omega) (by omega)]
    decide
  · rw [z 96 (by omega) (by omega) (by omega) (by omega), z 102 (by omega) (by omega) (by omega) (by omega), z 103 (by omega) (by omega) (by omega) (by omega), z 104 (by omega) (by omega) (by omega) (by omega), z 105 (by omega) (by omega) (by omega) (by omega)]
    decide
theorem begins_ok {M : KMem} : kOk (m_Mo_begins 235 M) (fun M' => M' 236 = bg (M 236) ∧ frS (fun o => o = 236) M M') := by
  unfold m_Mo_begins
  refine kB (fun M1 => M1 236 = (fun j => if j < 108 then 0 else M 236 j) ∧ frS (fun o => o = 236) M M1) (kFor (fun i s => ∃ M1, s = (nI i, M1) ∧ (∀ j, M1 236 j = if j < i then 0 else M 236 j) ∧ frS (fun o => o = 236) M M1) 108 ?_ ?_ (i0 := 0) (by omega) (by omega) ⟨M, rfl, fun j => by rw [if_neg (by omega)], frS.rf⟩) ?_
  · rintro i _ hi ⟨M1, rfl, h1, h2⟩
    refine Or.inl ⟨(nI (i + 1), kup M1 236 i 0), ?_, _, rfl, fun j => ?_, frS.k h2 rfl⟩
    · unfold m_Mo_begins_l2
      show (if 108 ≤ nI i then _ else _) = _
      rw [if_neg (by rw [show (108 : Int32) = nI 108 from rfl, nI_leI (by omega) (by omega)]; omega), wrN (by omega) (by omega), bS, nI_1]
    · by_cases hj : j = i
      · subst hj
        rw [kup_s, if_pos (by omega)]
      · rw [kup_j _ _ _ hj, h1]
        by_cases h3 : j < i
        · rw [if_pos h3, if_pos (by omega)]
        · rw [if_neg h3, if_neg (by omega)]
  · rintro _ ⟨M1, rfl, h1, h2⟩
    refine ⟨M1, ?_, funext h1, h2⟩
    unfold m_Mo_begins_l2
    show (if 108 ≤ nI 108 then _ else _) = _
    rw [if_pos (by decide)]
  · rintro M1 ⟨h1, h2⟩
    rw [show wrI M1 (235 + 1) 108 94 (-1) = _ from w94, bS, show ∀ M', wrI M' (235 + 1) 108 106 4 = some (kup M' 236 106 4) from fun M' => wrN (j := 106) (by omega) (by omega), bS, show ∀ M', wrI M' (235 + 1) 108 107 3 = some (kup M' 236 107 3) from fun M' => wrN (j := 107) (by omega) (by omega), bS]
    refine kOk_i ⟨?_, frS.k (frS.k (frS.k h2 rfl) rfl) rfl⟩
    show kup (kup (kup M1 236 94 (-1)) 236 106 4) 236 107 3 236 = bg (M 236)
    rw [kup_fn, kup_fn, kup_fn, h1]
    rfl
theorem clear_ok {M : KMem} (a : Row) : kOk (m_St_clear 4 M) (fun M' => CR (bg a) 3 M' ∧ frS (fun o => 4 ≤ o ∧ o ≤ 15) M M') := by
  obtain ⟨n1, n2⟩ := bg_n a
  unfold m_St_clear
  rw [bS, bS]
  refine kB _ (fillI_ok (a := 4 + 9) (n := 4) (v := 0) (by omega)) ?_
  rintro M6 ⟨f1, f2⟩
  refine kB _ (fillI_ok (a := 4 + 10) (n := 4) (v := 0) (by omega)) ?_
  rintro M8 ⟨g1, g2⟩
  rw [show wrI M8 (4 + 11) 2 0 4 = some (kup M8 15 0 4) from wrN (j := 0) (by omega) (by omega), bS, show wrI (kup M8 15 0 4) (4 + 11) 2 1 3 = some (kup (kup M8 15 0 4) 15 1 3) from wrN (j := 1) (by omega) (by omega), bS, bS, bS, bS, bS]
  have e4 : ∀ j, M8 4 j = kup (kup M (4 + 1) 0 0) 4 1 0 4 j := fun j => by rw [g2 4 (by omega), f2 4 (by omega)]
  have e5 : ∀ j, M8 5 j = kup (kup M (4 + 1) 0 0) 4 1 0 5 j := fun j => by rw [g2 5 (by omega), f2 5 (by omega)]
  refine kOk_i ⟨⟨⟨?_, ?_, ?_, ?_, ?_, ?_⟩, fun i hi => by rw [n2] at hi; omega, fun s hs => by rw [n1] at hs; omega, fun g hg => ⟨?_, ?_⟩, ?_, ?_⟩, ?_⟩
  · rw [bg_z a (by omega) (by omega) (by omega) (by omega), kup_j _ _ _ (by omega), kup_j _ _ _ (by omega), kup_j _ _ _ (by omega), kup_j _ _ _ (by omega), kup_n _ _ _ (by omega), kup_n _ _ _ (by omega), e4, kup_s]
  · rw [bg_z a (by omega) (by omega) (by omega) (by omega), kup_n _ _ _ (by omega), kup_n _ _ _ (by omega), kup_n _ _ _ (by omega), kup_n _ _ _ (by omega), kup_n _ _ _ (by omega), kup_n _ _ _ (by omega), e5, kup_n _ _ _ (by omega), kup_s]
  · rw [bg_z a (by omega) (by omega) (by omega) (by omega), kup_j _ _ _ (by omega), kup_j _ _ _ (by omega), kup_j _ _ _ (by omega), kup_s]
  · rw [bg_z a (by omega) (by omega) (by omega) (by omega), kup_j _ _ _ (by omega), kup_j _ _ _ (by omega), kup_s]
  · rw [bg_94, kup_j _ _ _ (by omega), kup_s]
  · rw [bg_z a (by omega) (by omega) (by omega) (by omega), kup_s]
  · rw [bg_z a (by omega) (by omega) (by omega) (by omega), kup_n _ _ _ (by omega), kup_n _ _ _ (by omega), kup_n _ _ _ (by omega), kup_n _ _ _ (by omega), kup_n _ _ _ (by omega), kup_n _ _ _ (by omega), g2 (3 + 10) (by omega), f1, if_pos hg]
  · rw [bg_z a (by omega) (by omega) (by omega) (by omega), kup_n _ _ _ (by omega), kup_n _ _ _ (by omega), kup_n _ _ _ (by omega), kup_n _ _ _ (by omega), kup_n _ _ _ (by omega), kup_n _ _ _ (by omega), g1, if_pos hg]
  · rw [bg_106, kup_n _ _ _ (by omega), kup_n _ _ _ (by omega), kup_n _ _ _ (by omega), kup_n _ _ _ (by omega), kup_j _ _ _ (by omega), kup_s]
  · rw [bg_107, kup_n _ _ _ (by omega), kup_n _ _ _ (by omega), kup_n _ _ _ (by omega), kup_n _ _ _ (by omega), kup_s]
  · have F2 : frS (fun o => 4 ≤ o ∧ o ≤ 15) M M8 := ((frS.k (frS.up (S := fun o => 4 ≤ o ∧ o ≤ 15) (show 4 ≤ 4 + 1 ∧ 4 + 1 ≤ 15 by omega)) (show 4 ≤ 4 ∧ 4 ≤ 15 by omega)).tr (f2.wk (fun o (ho : o = 4 + 9) => ⟨by omega, by omega⟩))).tr (g2.wk (fun o (ho : o = 4 + 10) => ⟨by omega, by omega⟩))
    exact frS.k (frS.k (frS.k (frS.k (frS.k (frS.k F2 ⟨by omega, by omega⟩) ⟨by omega, by omega⟩) ⟨by omega, by omega⟩) ⟨by omega, by omega⟩) ⟨by omega, by omega⟩) ⟨by omega, by omega⟩
theorem slots_ok (M : KMem) : m_Me_emptySlots 39 M = some (kup (kup M 42 0 0) 42 1 0) := by
  unfold m_Me_emptySlots
  rw [show kFU = 99997 + 1 + 1 + 1 from rfl, kLp_i (s' := (1, kup M 42 0 0)) rfl, kLp_i (s' := (2, kup (kup M 42 0 0) 42 1 0)) rfl, kLp_r (r := kup (kup M 42 0 0) 42 1 0) rfl]
  rfl
theorem pub_load {M : KMem} (h : GI M) : Pub M [eS] (m_SR_load 0 M) (m_Mo_load 235) := by
  obtain ⟨H, k, S, kp, len, T, hc, hm⟩ := h
  have hct := hc.2.2.2.2
  obtain ⟨e, e0, e1, e2, e3⟩ := first_ok hct.tx
  obtain ⟨⟨x, M3⟩, em, t1, t2, t3⟩ := e1 M hct
  simp only at t1 t2 t3
  subst t1
  have f3 : frS clO M M3 := t2.wk (fun o (ho : o = 1) => by show o < 235; omega)
  have hl := hct.1
  have hm3 := hm.cl f3.q
  cases e with
  | some q =>
    have hq := e0 q rfl
    obtain ⟨⟨y, M5⟩, em2, p', s1, s2⟩ := e2 M3 ⟨hm3.2.2.2.2.1, hm3.2.2.2.2.2⟩
    simp only at s1
    rw [if_neg (show ¬ some q = none by intro z; cases z)] at s1
    refine ⟨.inl eS, M3, ?_, f3, fun M4 h4 => (show M4 = M3 from h4) ▸ ⟨0, kup M5 235 0 1, ?_, frS.k (s1.1.1.wk (fun o (ho : o = 235) => ⟨by omega, by omega⟩)) ⟨by omega, by omega⟩, ⟨0, rfl, kup_s _ _ _ _⟩, ?_⟩⟩
    · unfold m_SR_load
      rw [show m_Tx_firstError (0 + 1) M = _ from em, bS]
      show (if nI q = -1 then _ else _) = _
      rw [if_neg (nI_nm1 (by omega))]
    · unfold m_Mo_load
      rw [em2, bS]
      show Option.bind (if M5 235 16 = 0 then _ else _) _ = _
      rw [s1.2.2.2.2, if_neg u10, bS, Mholds_n (by decide), bS]
      show (if (0 : Int32) = 0 then _ else _) = _
      rw [if_pos rfl]
    · exact GI.rd hc hm t2 t3 (frS.k s1.1.1 rfl) (fun j hj => by rw [kup_j _ _ _ (by omega), s1.1.2 j (by omega)])
  | none =>
    obtain ⟨hh, hL⟩ := e3 rfl
    obtain ⟨b', v', hb', l1, l2⟩ := hL (bg (M 236)) 0 (bg_inv _)
    obtain ⟨hI, hcr, ⟨o, hmr⟩, hsl, -⟩ := hc
    -- the class
    have hcls : kOk (m_SR_load 0 M) (fun q => q.1 = .inr v' ∧ CS b' H 0 S 0 len T q.2 ∧ frS clO M q.2) := by
      unfold m_SR_load
      rw [show m_Tx_firstError (0 + 1) M = _ from em, bS]
      show kOk (if ev none = -1 then _ else _) _
      rw [if_pos (show ev none = -1 from rfl)]
      refine kB _ (clear_ok (M 236)) ?_
      rintro M6 ⟨c1, c2⟩
      unfold m_Me_forgetStates
      rw [bS, bS, show m_Me_emptySlots (0 + 39) _ = _ from slots_ok _, bS]
      generalize hM10 : kup (kup (kup M6 (0 + 39) 2 0) 42 0 0) 42 1 0 = M10
      have F : frS (fun o => o = 39 ∨ o = 42) M6 M10 := by
        rw [← hM10]
        exact frS.k (frS.k (frS.up (Or.inl rfl)) (Or.inr rfl)) (Or.inr rfl)
      have hT10 : CT len T M10 := by
        refine ⟨hl, ?_, fun i hi => ⟨(t3.2.2 i hi).1, ?_⟩⟩
        · rw [F 1 (by omega), c2 1 (by omega)]; exact t3.2.1
        · rw [F 2 (by omega), c2 2 (by omega)]; exact (t3.2.2 i hi).2
      obtain ⟨⟨z, M13⟩, em3, r1, c, g, n, r2⟩ := restart_ok hT10
      rw [if_pos hh] at r2
      simp only at r2
      rw [show m_Tx_restart (0 + 1) M10 = _ from em3, bS]
      have hcr13 : CR (bg (M 236)) 3 M13 := (c1.fr F (fun o ho => by omega)).fr r2.1 (fun o (ho : o = 1) => by omega)
      refine kB _ (l1 M13 c g n 0 kFU r2.rb hcr13 (by omega) (by have : kFU = 100000 := rfl; omega)) ?_
      rintro ⟨v, M33⟩ ⟨q1, q2, q3, q4⟩
      simp only at q1 q2 q3 q4
      subst q1
      have e39 : M33 39 = M10 39 := by rw [q3 39 (by show ¬ (39 = 1 ∨ (3 + 1 ≤ 39 ∧ 39 ≤ 3 + 17)); omega), r2.1 39 (by show ¬ 39 = 1; omega)]
      have e42 : M33 42 = M10 42 := by rw [q3 42 (by show ¬ (42 = 1 ∨ (3 + 1 ≤ 42 ∧ 42 ≤ 3 + 17)); omega), r2.1 42 (by show ¬ 42 = 1; omega)]
      refine kOk_i ⟨rfl, ⟨hb', q2, ⟨o, ?_, ?_, hmr.2.2.1, by omega, fun j hj => by omega⟩, ⟨by omega, fun s hs => ⟨?_, fun hb => ?_⟩⟩, hl, ?_, fun i hi => ⟨(t3.2.2 i hi).1, ?_⟩⟩, ?_⟩
      · show M33 39 1 = nI o
        rw [e39, ← hM10, kup_n _ _ _ (by omega), kup_n _ _ _ (by omega), kup_j _ _ _ (by omega), c2 39 (by omega), t2 39 (by show ¬ 39 = 1; omega)]
        exact hmr.1
      · show M33 39 2 = nI 0
        rw [e39, ← hM10, kup_n _ _ _ (by omega), kup_n _ _ _ (by omega), kup_s]
        rfl
      · show M33 42 s = _
        rw [Nat.zero_testBit, if_neg (by decide), e42, ← hM10]
        have : s = 0 ∨ s = 1 := by omega
        rcases this with rfl | rfl
        · rw [kup_j _ _ _ (by omega), kup_s]
        · rw [kup_s]
      · rw [Nat.zero_testBit] at hb; cases hb
      · show M33 1 1 = nI len
        rw [q4, r2.2.1]
      · show M33 2 i = _
        rw [q3 2 (by show ¬ (2 = 1 ∨ (3 + 1 ≤ 2 ∧ 2 ≤ 3 + 17)); omega)]
        exact r2.2.2.1 i hi
      · exact (((f3.tr (c2.wk (fun o ho => by show o < 235; omega))).tr (F.wk (fun o ho => by show o < 235; omega))).tr (r2.1.wk (fun o (ho : o = 1) => by show o < 235; omega))).tr (q3.wk (fun o ho => by
          rcases ho with ho | ho
          · show o < 235; omega
          · have : 3 + 1 ≤ o ∧ o ≤ 3 + 17 := ho
            show o < 235; omega))
    obtain ⟨⟨r, M33⟩, ec, u1, u2, u3⟩ := hcls
    simp only at u1 u2 u3
    subst u1
    refine pub_yes ec u3 u2 (fun M33 u3 => ?_)
    have hm33 := hm.cl u3
    -- the model
    obtain ⟨⟨y, M5⟩, em2, p', s1, s2⟩ := e2 M33 ⟨hm33.2.2.2.2.1, hm33.2.2.2.2.2⟩
    simp only at s1
    rw [if_pos trivial] at s1
    unfold m_Mo_load
    rw [em2, bS]
    show kOk (Option.bind (if M5 235 16 = 0 then _ else _) _) _
    rw [s1.2.2.2.2, if_pos rfl, bS, Mholds_0, bS]
    show kOk (if (1 : Int32) = 0 then _ else _) _
    rw [if_neg u10]
    refine kB _ begins_ok ?_
    rintro M11 ⟨b1, b2⟩
    have e236 : kup M5 235 0 0 236 = M 236 := by rw [kup_n _ _ _ (by omega), s1.1.1 236 (by show ¬ 236 = 235; omega), u3 236 (by show ¬ (236 < 235 ∨ 236 = 244); omega)]
    rw [e236] at b1
    have hmt : MT len T M11 := ⟨by rw [b2 235 (by omega), kup_j _ _ _ (by omega)]; exact s1.2.1, fun i hi => by rw [b2 240 (by omega), kup_n _ _ _ (by omega)]; exact s1.2.2.1 i hi⟩
    refine kB (fun q => q.1 = v' ∧ q.2 236 = b' ∧ frS moE M11 q.2 ∧ ∀ j, j < 11 → q.2 235 j = M11 235 j) (gT_st hct.tx hmt (fun M9 h9 => ?_)) ?_
    · rw [if_pos hh, decide_eq_true hh] at h9
      have h936 : M9 236 = bg (M 236) := (h9.1.1 236 (by show ¬ 236 = 235; omega)).trans b1
      refine kWk _ (l2 M9 kFU h9.rb h936 (by have : kFU = 100000 := rfl; omega)) ?_
      rintro q ⟨q1, q2, q3, q4⟩
      exact ⟨q1, q2, (h9.1.1.wk (fun o (ho : o = 235) => Or.inl ho)).tr q3, fun j hj => (q4 j hj).trans (h9.1.2 j hj)⟩
    · rintro ⟨v, M14⟩ ⟨q1, q2, q3, q4⟩
      simp only at q1 q2 q3 q4
      subst q1
      show kOk (Option.bind (some (kup M14 235 4 0)) _) _
      rw [bS, bS]
      have j11 : ∀ j, 1 ≤ j → j < 11 → M14 235 j = M33 235 j := fun j hj1 hj => by rw [q4 j hj, b2 235 (by omega), kup_j _ _ _ (by omega), s1.1.2 j hj]
      have G : frS (fun o => o = 235 ∨ o = 236 ∨ o = 241 ∨ o = 242) M33 M14 := (((s1.1.1.wk (fun o (ho : o = 235) => Or.inl ho)).tr (frS.up (Or.inl rfl))).tr (b2.wk (fun o (ho : o = 236) => Or.inr (Or.inl ho)))).tr q3
      refine kOk_i ⟨rfl, ?_, ?_, ?_, ?_⟩
      · show kup (kup M14 235 4 0) 235 6 0 235 0 = 0
        rw [kup_j _ _ _ (by omega), kup_j _ _ _ (by omega), q4 0 (by omega), b2 235 (by omega), kup_s]
      · show LE b' (kup (kup M14 235 4 0) 235 6 0 236)
        rw [kup_n _ _ _ (by omega), kup_n _ _ _ (by omega), q2]
        exact LE.rf
      · exact frS.k (frS.k (G.wk (fun o ho => by show 235 ≤ o ∧ o < 244; omega)) ⟨by omega, by omega⟩) ⟨by omega, by omega⟩
      · obtain ⟨a1, a2, a3, a4, a5, a6⟩ := hm33
        refine ⟨?_, fun j hj => by omega, ?_, fun s hs hb => ?_, ?_, fun i hi => ?_⟩
        · show kup (kup M14 235 4 0) 235 6 0 235 4 = nI 0
          rw [kup_j _ _ _ (by omega), kup_s]; rfl
        · show kup (kup M14 235 4 0) 235 6 0 235 6 = nI 0
          rw [kup_s]; rfl
        · rw [Nat.zero_testBit] at hb; cases hb
        · show kup (kup M14 235 4 0) 235 6 0 235 8 = nI len
          rw [kup_j _ _ _ (by omega), kup_j _ _ _ (by omega), j11 8 (by omega) (by omega)]; exact a5
        · show kup (kup M14 235 4 0) 235 6 0 240 i = nI (T i)
          rw [kup_n _ _ _ (by omega), kup_n _ _ _ (by omega), G 240 (by omega)]; exact a6 i hi
