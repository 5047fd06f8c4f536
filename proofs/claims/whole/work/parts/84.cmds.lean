/-! LAYER 2: commands in the text -/
theorem CX.k5 {len : Nat} {T : Nat → Nat} {M0 M : KMem} {p : Nat} {c g n v : Int32} (h : CX len T M0 p c g n M) : CX len T M0 p c g v (kup M 1 5 v) := by
  obtain ⟨h0, h1, h2, h3, h4, h5, h6⟩ := h
  refine ⟨frS.k h0 rfl, ?_, fun i hi => ?_, ?_, ?_, ?_, kup_s _ _ _ _⟩
  · rw [kup_j _ _ _ (by omega)]; exact h1
  · rw [kup_n _ _ _ (by omega)]; exact h2 i hi
  · rw [kup_j _ _ _ (by omega)]; exact h3
  · rw [kup_j _ _ _ (by omega)]; exact h4
  · rw [kup_j _ _ _ (by omega)]; exact h5
theorem CX.k4 {len : Nat} {T : Nat → Nat} {M0 M : KMem} {p : Nat} {c g n v : Int32} (h : CX len T M0 p c g n M) : CX len T M0 p c v n (kup M 1 4 v) := by
  obtain ⟨h0, h1, h2, h3, h4, h5, h6⟩ := h
  refine ⟨frS.k h0 rfl, ?_, fun i hi => ?_, ?_, ?_, kup_s _ _ _ _, ?_⟩
  · rw [kup_j _ _ _ (by omega)]; exact h1
  · rw [kup_n _ _ _ (by omega)]; exact h2 i hi
  · rw [kup_j _ _ _ (by omega)]; exact h3
  · rw [kup_j _ _ _ (by omega)]; exact h4
  · rw [kup_j _ _ _ (by omega)]; exact h6
theorem CX.k3 {len : Nat} {T : Nat → Nat} {M0 M : KMem} {p : Nat} {c g n v : Int32} (h : CX len T M0 p c g n M) : CX len T M0 p v g n (kup M 1 3 v) := by
  obtain ⟨h0, h1, h2, h3, h4, h5, h6⟩ := h
  refine ⟨frS.k h0 rfl, ?_, fun i hi => ?_, ?_, kup_s _ _ _ _, ?_, ?_⟩
  · rw [kup_j _ _ _ (by omega)]; exact h1
  · rw [kup_n _ _ _ (by omega)]; exact h2 i hi
  · rw [kup_j _ _ _ (by omega)]; exact h3
  · rw [kup_j _ _ _ (by omega)]; exact h5
  · rw [kup_j _ _ _ (by omega)]; exact h6
theorem CX.k2 {len : Nat} {T : Nat → Nat} {M0 M : KMem} {p q : Nat} {c g n : Int32} (h : CX len T M0 p c g n M) : CX len T M0 q c g n (kup M 1 2 (nI q)) := by
  obtain ⟨h0, h1, h2, h3, h4, h5, h6⟩ := h
  refine ⟨frS.k h0 rfl, ?_, fun i hi => ?_, kup_s _ _ _ _, ?_, ?_, ?_⟩
  · rw [kup_j _ _ _ (by omega)]; exact h1
  · rw [kup_n _ _ _ (by omega)]; exact h2 i hi
  · rw [kup_j _ _ _ (by omega)]; exact h4
  · rw [kup_j _ _ _ (by omega)]; exact h5
  · rw [kup_j _ _ _ (by omega)]; exact h6
theorem dg48 {t a : Nat} (h : 48 + 1 ≤ t) (ha : a = t - 48) : (1 : Int32) + nI (t - 49) = nI a := by
  rw [show (1 : Int32) = nI 1 from rfl, nI_add]
  congr 1
  omega
theorem word_ok {len : Nat} {T : Nat → Nat} (hT : TX len T) {p : Nat} (hp : p ≤ len) : ∃ (ok : Bool) (p' : Nat) (l' : List Nat), p ≤ p' ∧ p' ≤ len ∧ (ok = true → wl l' ∧ 1 ≤ l'.length ∧ l'.length ≤ 8) ∧
    (∀ M0 M c g n, CX len T M0 p c g n M → kOk (m_Tx_readWord 1 M) (fun q => q.1 = b01 ok ∧ ∃ n', CX len T M0 p' c n n' q.2 ∧ (ok = true → n' = wN l'))) ∧
    (∀ M0 M, MX len T M0 p 0 M → kOk (m_Mo_readWord 235 M) (fun q => (ok = true → q.1 = wN l') ∧ MX len T M0 p' (bd ok) q.2 ∧ ∀ j, j ≠ 15 → j ≠ 16 → q.2 235 j = M 235 j)) := by
  by_cases hL : Hit len T p (48 + 1) (48 + 6)
  · have hd : 1 ≤ T p - 48 ∧ T p - 48 ≤ 6 := by have := hL.2; omega
    obtain ⟨ok, p', l', g1, g2, g3, g4, g5⟩ := W_both hT 7 1 (p + 1) [T p - 48] (by omega) (wl_cons.mpr ⟨hd, wl_nil⟩) rfl (by have := hL.1; omega)
    refine ⟨ok, p', l', by omega, g2, fun _ => g3, fun M0 M c g n hc => ?_, fun M0 M hm => ?_⟩
    · have hc4 : CX len T M0 p c n (wN []) (kup (kup M 1 4 (M 1 5)) 1 5 0) := by
        rw [hc.2.2.2.2.2.2]
        exact (CX.k4 (v := n) hc).k5
      unfold m_Tx_readWord
      rw [bS, bS]
      obtain ⟨⟨x, M1⟩, em, t1, t2⟩ := C_hit (lo := 1) (hi := 6) hT hc4 hL (by omega)
      simp only at t1 t2
      subst t1
      rw [← wN_snoc] at t2
      unfold m_Tx_readLetter
      rw [show m_Tx_readDigit 1 1 6 (kup (kup M 1 4 (M 1 5)) 1 5 0) = _ from em, bS]
      show kOk (Option.bind (Option.bind (kz 1) fun z4 => some (z4, M1)) _) _
      rw [kz_1, bS, bS]
      show kOk (if (1 : Int32) = 0 then _ else _) _
      rw [if_neg u10]
      refine kWk _ (g4 M0 M1 c n kFU t2 (by have : kFU = 100000 := rfl; omega)) ?_
      rintro q ⟨q1, q2⟩
      exact ⟨q1, _, q2, fun _ => rfl⟩
    · unfold m_Mo_readWord
      refine kB _ (M_hit (a := 49) (b := 54) hT hm hL (by omega)) ?_
      rintro ⟨x, M1⟩ ⟨t1, t2, t3⟩
      simp only at t1 t2 t3
      subst t1
      show kOk (Option.bind (kLp (m_Mo_readWord_l13 235) kFU (1 + nI (T p - 49), 1, M1)) _) _
      rw [dg48 hL.2.1 rfl, ← wN_1]
      refine kWk _ (g5 M0 M1 kFU t2 (by have : kFU = 100000 := rfl; omega)) ?_
      rintro q ⟨q1, q2, q3⟩
      exact ⟨fun _ => q1, q2, fun j j1 j2 => (q3 j j1 j2).trans (t3 j j1 j2)⟩
  · refine ⟨false, p, [], by omega, hp, fun z => absurd z (by decide), fun M0 M c g n hc => ?_, fun M0 M hm => ?_⟩
    · have hc4 : CX len T M0 p c n 0 (kup (kup M 1 4 (M 1 5)) 1 5 0) := by
        rw [hc.2.2.2.2.2.2]
        exact (CX.k4 (v := n) hc).k5
      unfold m_Tx_readWord
      rw [bS, bS]
      unfold m_Tx_readLetter
      rw [show m_Tx_readDigit 1 1 6 (kup (kup M 1 4 (M 1 5)) 1 5 0) = _ from C_miss (lo := 1) (hi := 6) hT hc4 hp hL (by omega) (by omega), bS]
      exact kOk_i ⟨rfl, _, hc4, fun z => absurd z (by decide)⟩
    · unfold m_Mo_readWord
      refine kB _ (M_miss (a := 49) (b := 54) hT hm hp hL (by omega) (by omega)) ?_
      rintro ⟨x, M1⟩ ⟨t1, t2, t3⟩
      refine kWk _ (W_bad t2) ?_
      rintro q ⟨q2, q3⟩
      exact ⟨fun z => absurd z (by decide), q2, fun j j1 j2 => (q3 j j1 j2).trans (t3 j j1 j2)⟩
theorem months_rd {len : Nat} {T : Nat → Nat} (hT : TX len T) {p : Nat} (hp : p ≤ len) : ∃ (ok : Bool) (p' n' : Nat), p ≤ p' ∧ p' ≤ len ∧ (ok = true → 1 ≤ n' ∧ n' ≤ 60) ∧
    (∀ M0 M c g, CX len T M0 p c g 0 M → kOk (m_Tx_readMonths 1 M) (fun q => q.1 = b01 ok ∧ ∃ n1, CX len T M0 p' c g n1 q.2 ∧ (ok = true → n1 = nI n'))) ∧
    (∀ M0 M, MX len T M0 p 0 M → kOk (m_Mo_readMonths 235 M) (fun q => (ok = true → q.1 = nI n') ∧ MX len T M0 p' (bd ok) q.2 ∧ ∀ j, j ≠ 15 → j ≠ 16 → q.2 235 j = M 235 j)) := by
  by_cases h1 : Hit len T p (48 + 0) (48 + 6)
  · have hl := hT.1
    obtain ⟨d, hd⟩ : ∃ d, d = T p - 48 := ⟨_, rfl⟩
    have hd6 : d ≤ 6 := by have := h1.2; omega
    have hTp : T p = 48 + d := by have := h1.2; omega
    have hp1 : p + 1 ≤ len := h1.1
    have n0 : ¬ d = 0 → ¬ nI d = 0 := fun z e => z ((nI_eq (b := 0) (by omega) (by omega)).mp e)
    have n6 : ¬ d = 6 → ¬ nI d = 6 := fun z e => z ((nI_eq (b := 6) (by omega) (by omega)).mp e)
    obtain ⟨lo, hlo⟩ : ∃ lo, lo = if d = 0 then 1 else 0 := ⟨_, rfl⟩
    obtain ⟨hi, hhi⟩ : ∃ hi, hi = if d = 6 then 0 else 9 := ⟨_, rfl⟩
    have hlo9 : lo ≤ 1 := by rw [hlo]; split <;> omega
    have hhi9 : hi ≤ 9 := by rw [hhi]; split <;> omega
    have c5 : ∀ M0 M c g, CX len T M0 p c g 0 M → ∃ M1, m_Tx_readDigit 1 (nI 0) (nI 6) M = some (1, M1) ∧ CX len T M0 (p + 1) c g (nI d) M1 := fun M0 M c g hc => by
      obtain ⟨⟨x, M1⟩, em, t1, t2⟩ := C_hit (lo := 0) (hi := 6) hT hc h1 (by omega)
      simp only at t1 t2
      subst t1
      rw [← hd, show (0 : Int32) * 10 + nI d = nI d from by rw [show (0 : Int32) * 10 = 0 from by decide, Int32.zero_add]] at t2
      exact ⟨M1, em, t2⟩
    have m5 : ∀ M0 M, MX len T M0 p 0 M → ∃ M1, m_Mo_takes 235 (nI 48) (nI 54) M = some (nI d, M1) ∧ MX len T M0 (p + 1) 0 M1 ∧ ∀ j, j ≠ 15 → j ≠ 16 → M1 235 j = M 235 j := fun M0 M hm => by
      obtain ⟨⟨x, M1⟩, em, t1, t2⟩ := M_hit (a := 48) (b := 54) hT hm h1 (by omega)
      simp only at t1 t2
      subst t1
      rw [← hd] at em
      exact ⟨M1, em, t2⟩
    have cpre : ∀ M0 M c g, CX len T M0 p c g 0 M → ∃ M1, CX len T M0 (p + 1) c g (nI d) M1 ∧ m_Tx_readMonths 1 M = Option.bind (m_Tx_readDigit 1 (nI lo) (nI hi) M1) fun (x10, M11) => Option.bind (kz x10) fun z12 => some (z12, M11) := fun M0 M c g hc => by
      obtain ⟨M1, em, t2⟩ := c5 M0 M c g hc
      refine ⟨M1, t2, ?_⟩
      unfold m_Tx_readMonths
      rw [show m_Tx_readDigit 1 0 6 M = _ from em, bS]
      show (if (1 : Int32) = 0 then _ else _) = _
      rw [if_neg u10, t2.2.2.2.2.2.2]
      have e1 : (if nI d = 0 then some (1 : Int32) else some 0) = some (nI lo) := by
        rw [hlo]
        by_cases z : d = 0
        · rw [if_pos (by rw [z]; rfl), if_pos z]; rfl
        · rw [if_neg (n0 z), if_neg z]; rfl
      have e2 : (if nI d = 6 then some (0 : Int32) else some 9) = some (nI hi) := by
        rw [hhi]
        by_cases z : d = 6
        · rw [if_pos (by rw [z]; rfl), if_pos z]; rfl
        · rw [if_neg (n6 z), if_neg z]; rfl
      rw [e1, bS, e2, bS]
    have mpre : ∀ M0 M, MX len T M0 p 0 M → ∃ M1, MX len T M0 (p + 1) 0 M1 ∧ (∀ j, j ≠ 15 → j ≠ 16 → M1 235 j = M 235 j) ∧ m_Mo_readMonths 235 M = Option.bind (m_Mo_takes 235 (nI (48 + lo)) (nI (48 + hi)) M1) fun (x, M16) => some (if d = 0 then 1 + x else 10 * nI d + x, M16) := fun M0 M hm => by
      obtain ⟨M1, em, t2, t3⟩ := m5 M0 M hm
      refine ⟨M1, t2, t3, ?_⟩
      unfold m_Mo_readMonths
      rw [show m_Mo_takes 235 48 54 M = _ from em, bS]
      show Option.bind (if nI d = 0 then _ else _) _ = _
      by_cases z : d = 0
      · subst z
        rw [if_pos (by rfl), hlo, hhi, if_pos rfl, if_neg (by omega)]
        show Option.bind (Option.bind (m_Mo_takes 235 49 57 M1) _) _ = Option.bind (m_Mo_takes 235 49 57 M1) _
        cases m_Mo_takes 235 49 57 M1 with
        | none => rfl
        | some q => rfl
      · rw [if_neg (n0 z), hlo, hhi, if_neg z]
        have e2 : (if nI d = 6 then some (48 : Int32) else some 57) = some (nI (48 + (if d = 6 then 0 else 9))) := by
          by_cases z6 : d = 6
          · rw [if_pos (by rw [z6]; rfl), if_pos z6]; rfl
          · rw [if_neg (n6 z6), if_neg z6]; rfl
        rw [e2, bS]
        show Option.bind (Option.bind (m_Mo_takes 235 48 _ M1) _) _ = Option.bind (m_Mo_takes 235 48 _ M1) _
        cases m_Mo_takes 235 48 (nI (48 + (if d = 6 then 0 else 9))) M1 with
        | none => rfl
        | some q => simp only [bS, if_neg z]
    by_cases h2 : Hit len T (p + 1) (48 + lo) (48 + hi)
    · obtain ⟨e, he⟩ : ∃ e, e = T (p + 1) - 48 := ⟨_, rfl⟩
      have heb : lo ≤ e ∧ e ≤ hi ∧ T (p + 1) = 48 + e := by have := h2.2; omega
      have hb : 1 ≤ 10 * d + e ∧ 10 * d + e ≤ 60 := by
        by_cases z : d = 0
        · rw [if_pos z] at hlo; omega
        · by_cases z6 : d = 6
          · rw [if_pos z6] at hhi; omega
          · omega
      refine ⟨true, p + 1 + 1, 10 * d + e, by omega, h2.1, fun _ => hb, fun M0 M c g hc => ?_, fun M0 M hm => ?_⟩
      · obtain ⟨M1, t2, t3⟩ := cpre M0 M c g hc
        rw [t3]
        refine kB _ (C_hit hT t2 h2 hhi9) ?_
        rintro ⟨x, M2⟩ ⟨q1, q2⟩
        simp only at q1 q2
        subst q1
        refine kOk_i ⟨rfl, _, q2, fun _ => ?_⟩
        rw [← he, show nI d * 10 = nI (d * 10) from pk_mul d 10, nI_add, Nat.mul_comm]
      · obtain ⟨M1, t2, t3, t4⟩ := mpre M0 M hm
        rw [t4]
        refine kB _ (M_hit hT t2 h2 (by omega)) ?_
        rintro ⟨x, M2⟩ ⟨q1, q2, q3⟩
        simp only at q1 q2 q3
        subst q1
        refine kOk_i ⟨fun _ => ?_, q2, fun j j1 j2 => (q3 j j1 j2).trans (t3 j j1 j2)⟩
        show (if d = 0 then 1 + nI (T (p + 1) - (48 + lo)) else 10 * nI d + nI (T (p + 1) - (48 + lo))) = nI (10 * d + e)
        by_cases z : d = 0
        · rw [if_pos z] at hlo
          rw [if_pos z, show (1 : Int32) = nI 1 from rfl, nI_add]
          congr 1
          omega
        · rw [if_neg z] at hlo
          rw [if_neg z, show (10 : Int32) * nI d = nI (10 * d) from pk_mul 10 d, nI_add]
          congr 1
          omega
    · refine ⟨false, p + 1, 0, by omega, hp1, fun z => absurd z (by decide), fun M0 M c g hc => ?_, fun M0 M hm => ?_⟩
      · obtain ⟨M1, t2, t3⟩ := cpre M0 M c g hc
        rw [t3, C_miss hT t2 hp1 h2 hhi9 (by omega), bS]
        exact kOk_i ⟨rfl, _, t2, fun z => absurd z (by decide)⟩
      · obtain ⟨M1, t2, t3, t4⟩ := mpre M0 M hm
        rw [t4]
        refine kB _ (M_miss hT t2 hp1 h2 (by omega) (by omega)) ?_
        rintro ⟨x, M2⟩ ⟨q1, q2, q3⟩
        exact kOk_i ⟨fun z => absurd z (by decide), q2, fun j j1 j2 => (q3 j j1 j2).trans (t3 j j1 j2)⟩
  · refine ⟨false, p, 0, by omega, hp, fun z => absurd z (by decide), fun M0 M c g hc => ?_, fun M0 M hm => ?_⟩
    · unfold m_Tx_readMonths
      rw [show m_Tx_readDigit 1 0 6 M = _ from C_miss (lo := 0) (hi := 6) hT hc hp h1 (by omega) (by omega), bS]
      exact kOk_i ⟨rfl, _, hc, fun z => absurd z (by decide)⟩
    · unfold m_Mo_readMonths
      refine kB _ (M_miss (a := 48) (b := 54) hT hm hp h1 (by omega) (by omega)) ?_
      rintro ⟨x, M1⟩ ⟨t1, t2, t3⟩
      simp only at t1 t2 t3
      subst t1
      show kOk (Option.bind (Option.bind (m_Mo_takes 235 49 57 M1) _) _) _
      obtain ⟨⟨y, M2⟩, em, q1, q2, q3⟩ := M_bad (a := 49) (b := 57) t2
      rw [em]
      exact kOk_i ⟨fun z => absurd z (by decide), q2, fun j j1 j2 => (q3 j j1 j2).trans (t3 j j1 j2)⟩
