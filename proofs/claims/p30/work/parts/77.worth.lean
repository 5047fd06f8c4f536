/-! LAYER 2: worthIn; the text buffer -/
/-- the first month in which the fines are more than c -/
def wP (f am c n : Nat) : Prop := am < n ∧ n ≤ 200 ∧ c < f * (n - am)
def wR' (f am c : Nat) (w : Bool) (r : Int32) : Prop := (∃ n, w = true ∧ wP f am c n ∧ (∀ m, m < n → ¬ wP f am c m) ∧ r = nI n) ∨ ((w = false ∨ ∀ m, ¬ wP f am c m) ∧ r = -1)
theorem wR_uniq {f am c : Nat} {w : Bool} {r r' : Int32} (h : wR' f am c w r) (h' : wR' f am c w r') : r = r' := by
  rcases h with ⟨n, h1, h2, h3, rfl⟩ | ⟨h1, rfl⟩
  · rcases h' with ⟨m, g1, g2, g3, rfl⟩ | ⟨g1, rfl⟩
    · have : n = m := by
        by_cases h4 : n < m
        · exact (g3 n h4 h2).elim
        · by_cases h5 : m < n
          · exact (h3 m h5 g2).elim
          · omega
      rw [this]
    · rcases g1 with g1 | g1
      · rw [g1] at h1; cases h1
      · exact (g1 n h2).elim
  · rcases h' with ⟨m, g1, g2, g3, rfl⟩ | ⟨g1, rfl⟩
    · rcases h1 with h1 | h1
      · rw [g1] at h1; cases h1
      · exact (h1 m g2).elim
    · rfl
def c107 (a : Row) : Nat := (a 107).toNatClampNeg
def a93 (a : Row) : Nat := (a 93).toNatClampNeg
theorem c107_e {a : Row} (h : InvC a) : (c107 a ≤ 20 ∧ a 107 = nI (c107 a)) ∧ (a93 a ≤ 9 ∧ a 93 = nI (a93 a)) := by
  obtain ⟨-, -, -, ⟨x, hx, e⟩, y, hy, e2⟩ := h
  unfold c107 a93
  rw [e, e2, nI_clamp (by omega), nI_clamp (by omega)]
  exact ⟨⟨hx, rfl⟩, hy, rfl⟩
theorem Cworth {u : Nat} {a : Row} {M : KMem} {s : Nat} (h : CR a u M) (hI : Inv a) (hs : s < sN a) :
    kOk (m_Tw_monthsTillFinesAreMore u (nI s) M) (fun q => wR' (c107 a) (a93 a) (c106 a * dA a s) (decide (dA a s ≠ 0)) q.1 ∧ frS (scr u) M q.2) := by
  have h8 := hI.1.1.1
  obtain ⟨⟨f1, f2⟩, m1, m2⟩ := c107_e hI.2.2
  unfold m_Tw_monthsTillFinesAreMore
  rw [hasSign_y (h.n hI.1) h8 hs, bS, if_neg u10, isWrong_ok h hI.1 hs, bS]
  by_cases hw : dA a s = 0
  · rw [if_pos ((ap_0 hI.1 hs).mp (by rw [← dA_e hs]; exact hw)), if_pos rfl]
    exact kOk_i ⟨Or.inr ⟨Or.inl (by simp [hw]), rfl⟩, frS.rf⟩
  · rw [if_neg (fun z => hw (by rw [dA_e hs]; exact (ap_0 hI.1 hs).mpr (i10.mp z)))]
    obtain ⟨⟨x, M9⟩, e, q1, q2⟩ := costOf_ok h hI.1 hs
    simp only at q1 q2
    rw [coA_e hI hs] at q1
    subst q1
    rw [e, bS]
    have hc := cd_le hI s
    have h9 := h.sc q2
    generalize c106 a * dA a s = c at *
    show kOk (Option.bind (kLp (m_Tw_monthsTillFinesAreMore_l29 u (nI c) M9) kFU (0, 1)) _) _
    refine kB (fun r => (∃ n, r = .inl (nI n, M9) ∧ wP (c107 a) (a93 a) c n ∧ ∀ m, m < n → ¬ wP (c107 a) (a93 a) c m) ∨ (r = .inr () ∧ ∀ m, ¬ wP (c107 a) (a93 a) c m)) (kFor (fun n q => q = (nI (c107 a * (n - 1 - a93 a)), nI n) ∧ ∀ m, m < n → ¬ wP (c107 a) (a93 a) c m) 201 ?_ ?_ (i0 := 1) (by omega) (by omega) ⟨?_, fun m hm => ?_⟩) ?_
    · rintro n _ hn ⟨rfl, g1⟩
      have hb : ∀ k, k ≤ 200 → c107 a * k ≤ 4000 := fun k hk => by
        have : c107 a * k ≤ 20 * 200 := Nat.mul_le_mul f1 hk
        omega
      have b1 := hb (n - 1 - a93 a) (by omega)
      have b2 := hb (n - a93 a) (by omega)
      have key : (if nI n ≤ M9 (u + 1) 12 then some (nI (c107 a * (n - 1 - a93 a))) else (Option.bind (rdI M9 (u + 12) 2 1) fun x18 => some (nI (c107 a * (n - 1 - a93 a)) + x18))) = some (nI (c107 a * (n - a93 a))) := by
        have e12 : M9 (u + 1) 12 = nI (a93 a) := h9.1.2.2.2.1.trans m2
        by_cases hna : n ≤ a93 a
        · rw [if_pos (by rw [e12, nI_leI (by omega) (by omega)]; exact hna), show n - 1 - a93 a = n - a93 a by omega]
        · rw [if_neg (by rw [e12, nI_leI (by omega) (by omega)]; exact hna), show rdI M9 (u + 12) 2 1 = some (M9 (u + 12) 1) from rdN (j := 1) (by omega) (by omega), bS, show M9 (u + 12) 1 = a 107 from h9.2.2.2.2.2, f2, nI_add]
          congr 2
          rw [show n - a93 a = (n - 1 - a93 a) + 1 by omega, Nat.mul_add, Nat.mul_one]
      have run : m_Tw_monthsTillFinesAreMore_l29 u (nI c) M9 (nI (c107 a * (n - 1 - a93 a)), nI n) = if nI (c107 a * (n - a93 a)) ≤ nI c then some (.inl (nI (c107 a * (n - a93 a)), nI n + 1)) else some (.inr (.inl (nI n, M9))) := by
        unfold m_Tw_monthsTillFinesAreMore_l29
        show (if 200 < nI n then _ else Option.bind (if nI n ≤ M9 (u + 1) 12 then some (nI (c107 a * (n - 1 - a93 a))) else (Option.bind (rdI M9 (u + 12) 2 1) fun x18 => some (nI (c107 a * (n - 1 - a93 a)) + x18))) _) = _
        rw [if_neg (by rw [show (200 : Int32) = nI 200 from rfl, nI_ltI (by omega) (by omega)]; omega), key, bS]
      by_cases hle : c107 a * (n - a93 a) ≤ c
      · rw [if_pos (by rw [nI_leI (by omega) (by omega)]; exact hle), nI_1] at run
        refine Or.inl ⟨_, run, by rw [show n + 1 - 1 - a93 a = n - a93 a by omega], fun m hm => ?_⟩
        by_cases hmn : m = n
        · subst hmn
          rintro ⟨w1, w2, w3⟩
          omega
        · exact g1 m (by omega)
      · rw [if_neg (by rw [nI_leI (by omega) (by omega)]; exact hle)] at run
        refine Or.inr ⟨_, run, Or.inl ⟨n, rfl, ⟨?_, by omega, by omega⟩, g1⟩⟩
        by_cases hna : a93 a < n
        · exact hna
        · rw [show n - a93 a = 0 by omega, Nat.mul_zero] at hle
          omega
    · rintro _ ⟨rfl, g1⟩
      refine ⟨.inr (), rfl, Or.inr ⟨rfl, fun m hm => g1 m (by have := hm.2.1; omega) hm⟩⟩
    · rw [show 1 - 1 - a93 a = 0 by omega, Nat.mul_zero]
      rfl
    · rintro ⟨w1, w2, w3⟩
      omega
    · rintro r (⟨n, rfl, g1, g2⟩ | ⟨rfl, g1⟩)
      · exact kOk_i ⟨Or.inl ⟨n, by simp [hw], g1, g2, rfl⟩, q2⟩
      · exact kOk_i ⟨Or.inr ⟨Or.inr g1, rfl⟩, q2⟩
