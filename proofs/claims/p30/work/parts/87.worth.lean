/-! P30: fines of some months; when they are more than paint -/
/-- what a month's fine of the sign s is, where there is no amnesty -/
def fS (a : Row) (s : Nat) : Int32 := if a (5 * s + 3) = rtA a s then 0 else a 107
theorem finA_val {a : Row} (hI : Inv a) : ∀ s, s ≤ sN a → L0 a (finA a s) ∧ (∀ t, t < sN a → finA a s (5 * t + 3) = a (5 * t + 3)) ∧ (∀ t, t < sN a → finA a s (5 * t + 5) = a (5 * t + 5) + (if t < s then fS a t else 0)) ∧ finA a s 95 = a 95 + sumF (fS a) s := by
  have h8 := hI.1.1.1
  intro s
  induction s with
  | zero =>
    intro _
    refine ⟨⟨rfl, rfl, fun _ _ => ⟨rfl, rfl⟩, fun _ _ => rfl⟩, fun _ _ => rfl, fun t _ => ?_, ?_⟩
    · rw [if_neg (by omega), Int32.add_zero]; rfl
    · show a 95 = a 95 + 0
      rw [Int32.add_zero]
  | succ s ih =>
    intro hs
    obtain ⟨i1, i2, i3, i4⟩ := ih (by omega)
    obtain ⟨j1, j2⟩ := finA_inv hI s (by omega)
    have e107 := finA_107 hI s (by omega)
    have hg := (gN_e j1.1 (s := s) (by omega)).1
    obtain ⟨l1, l2⟩ := finS_l0 j1.1 (s := s) (by omega)
    have efs : (if finA a s (5 * s + 3) = rtA (finA a s) s then 0 else finA a s 107) = fS a s := by
      rw [i2 s (by omega), i1.rt (s := s) (by omega), e107]
      rfl
    refine ⟨i1.tr l1, fun t ht => ?_, fun t ht => ?_, ?_⟩
    · show finS (finA a s) s (5 * t + 3) = _
      rw [l2 t (by omega)]
      exact i2 t ht
    · show finS (finA a s) s (5 * t + 5) = _
      by_cases hts : t = s
      · subst hts
        have e5 : finS (finA a t) t (5 * t + 5) = finA a t (5 * t + 5) + (if finA a t (5 * t + 3) = rtA (finA a t) t then 0 else finA a t 107) := by
          unfold finS
          rw [pk_un (by omega), pk_un (by omega), pk_us]
        rw [e5, efs, i3 t ht, if_neg (by omega), Int32.add_zero, if_pos (by omega)]
      · rw [finS_out (by omega) (by omega) (by omega), i3 t ht]
        by_cases hlt : t < s
        · rw [if_pos hlt, if_pos (by omega)]
        · rw [if_neg hlt, if_neg (by omega)]
    · show finS (finA a s) s 95 = _
      have e5 : finS (finA a s) s 95 = finA a s 95 + (if finA a s (5 * s + 3) = rtA (finA a s) s then 0 else finA a s 107) := by
        unfold finS
        rw [pk_us]
      rw [e5, efs, i4, Int32.add_assoc]
      rfl
theorem L0.up {a : Row} {i : Nat} {x : Int32} (hI : InvB a) (hi : 92 ≤ i) : L0 a (upd a i x) := by
  have h8 := hI.1.1
  have h10 := hI.2.1.1
  exact ⟨pk_un (by omega), pk_un (by omega), fun t ht => ⟨pk_un (by omega), pk_un (by omega)⟩, fun j hj => pk_un (by omega)⟩
/-- what a month does, as far as the law asks -/
theorem monA_val {a : Row} (hI : Inv a) {x : Nat} (hx : x ≤ 9) (e93 : a 93 = nI x) : L0 a (monA a) ∧ (∀ t, t < sN a → monA a (5 * t + 3) = a (5 * t + 3)) ∧ (∀ t, t < sN a → monA a (5 * t + 5) = a (5 * t + 5) + (if x = 0 then fS a t else 0)) ∧ monA a 95 = a 95 + (if x = 0 then sumF (fS a) (sN a) else 0) ∧ monA a 93 = nI (x - 1) ∧ monA a 107 = a 107 := by
  have h8 := hI.1.1.1
  have hb := inv_92 (x := a 92 + 1) hI
  have l1 := L0.up (x := a 92 + 1) hI.1 (i := 92) (by omega)
  have b93 : upd a 92 (a 92 + 1) 93 = nI x := (pk_un (by omega)).trans e93
  have b107 : upd a 92 (a 92 + 1) 107 = a 107 := pk_un (by omega)
  have b95 : upd a 92 (a 92 + 1) 95 = a 95 := pk_un (by omega)
  have b3 : ∀ t, t < sN a → upd a 92 (a 92 + 1) (5 * t + 3) = a (5 * t + 3) := fun t ht => pk_un (by omega)
  have b5 : ∀ t, t < sN a → upd a 92 (a 92 + 1) (5 * t + 5) = a (5 * t + 5) := fun t ht => pk_un (by omega)
  unfold monA
  simp only
  generalize upd a 92 (a 92 + 1) = b at *
  have hn := l1.n.1
  have efs : ∀ t, t < sN a → fS b t = fS a t := fun t ht => by
    unfold fS
    rw [b3 t ht, l1.rt ht, b107]
  by_cases hz : x = 0
  · rw [if_pos (by rw [b93, hz]; rfl)]
    obtain ⟨f1, f2, f3, f4⟩ := finA_val hb (sN b) (Nat.le_refl _)
    obtain ⟨j1, j2⟩ := finA_inv hb (sN b) (Nat.le_refl _)
    have g93 := (finA_93 hb (sN b) (Nat.le_refl _)).trans b93
    have g107 := (finA_107 hb (sN b) (Nat.le_refl _)).trans b107
    generalize finA b (sN b) = c at *
    refine ⟨(l1.tr f1).tr (L0.up j1.1 (by omega)), fun t ht => ?_, fun t ht => ?_, ?_, ?_, ?_⟩
    · rw [pk_un (by omega), f2 t (by omega)]; exact b3 t ht
    · rw [pk_un (by omega), f3 t (by omega), b5 t ht, if_pos (by omega), if_pos hz, efs t ht]
    · rw [pk_un (by omega), f4, b95, if_pos hz, hn]
      congr 1
      exact sumF_congr _ (fun t ht => efs t ht)
    · rw [pk_us, g93, dec_93 hx]
    · rw [pk_un (by omega)]; exact g107
  · rw [if_neg (show ¬ b 93 = 0 from by rw [b93]; exact nI_ne0 (by omega) (by omega))]
    refine ⟨l1.tr (L0.up hb.1 (by omega)), fun t ht => ?_, fun t ht => ?_, ?_, ?_, ?_⟩
    · rw [pk_un (by omega)]; exact b3 t ht
    · rw [pk_un (by omega), b5 t ht, if_neg hz, Int32.add_zero]
    · rw [pk_un (by omega), b95, if_neg hz, Int32.add_zero]
    · rw [pk_us, b93, dec_93 hx]
    · rw [pk_un (by omega)]; exact b107
/-- a wrong sign's fine of a month -/
def fN (a : Row) (s : Nat) : Nat := if dA a s = 0 then 0 else c107 a
theorem fS_N {a : Row} (hI : Inv a) {s : Nat} (hs : s < sN a) : fS a s = nI (fN a s) := by
  have h1 := ap_0 hI.1 hs
  rw [← dA_e hs] at h1
  obtain ⟨⟨-, h2⟩, -⟩ := c107_e hI.2.2
  unfold fS fN
  by_cases hz : dA a s = 0
  · rw [if_pos hz, if_pos (h1.mp hz)]; rfl
  · rw [if_neg hz, if_neg (fun e => hz (h1.mpr e)), h2]
theorem fN_b {a : Row} (hI : Inv a) (s : Nat) : fN a s ≤ 20 := by
  obtain ⟨⟨h1, -⟩, -⟩ := c107_e hI.2.2
  unfold fN
  split <;> omega
theorem mons_val {a : Row} (hI : Inv a) : ∀ n, L0 a (monsA a n) ∧ (∀ t, t < sN a → monsA a n (5 * t + 3) = a (5 * t + 3)) ∧ (∀ t, t < sN a → monsA a n (5 * t + 5) = a (5 * t + 5) + nI (fN a t * (n - a93 a))) ∧ monsA a n 95 = a 95 + nI (sumN (fN a) (sN a) * (n - a93 a)) ∧ monsA a n 93 = nI (a93 a - n) ∧ monsA a n 107 = a 107 := by
  obtain ⟨-, hx, e93⟩ := c107_e hI.2.2
  intro n
  induction n with
  | zero =>
    refine ⟨⟨rfl, rfl, fun _ _ => ⟨rfl, rfl⟩, fun _ _ => rfl⟩, fun _ _ => rfl, fun t _ => ?_, ?_, e93, rfl⟩
    · rw [Nat.zero_sub, Nat.mul_zero, show nI 0 = 0 from rfl, Int32.add_zero]; rfl
    · rw [Nat.zero_sub, Nat.mul_zero, show nI 0 = 0 from rfl, Int32.add_zero]; rfl
  | succ n ih =>
    obtain ⟨i1, i2, i3, i4, i5, i6⟩ := ih
    obtain ⟨k1, k2, k3, k4, k5, k6⟩ := monA_val (monsA_inv hI n) (x := a93 a - n) (by omega) i5
    have hn := i1.n.1
    have efs : ∀ t, t < sN a → fS (monsA a n) t = nI (fN a t) := fun t ht => by
      rw [← fS_N hI ht]
      unfold fS
      rw [i2 t ht, i1.rt ht, i6]
    have esum : sumF (fS (monsA a n)) (sN (monsA a n)) = nI (sumN (fN a) (sN a)) := by
      rw [hn]
      exact sumF_N _ (fun t ht => efs t ht)
    have step : ∀ w : Nat, nI (w * (n - a93 a)) + (if a93 a - n = 0 then nI w else 0) = nI (w * (n + 1 - a93 a)) := fun w => by
      by_cases hz : a93 a - n = 0
      · rw [if_pos hz, nI_add, show n + 1 - a93 a = (n - a93 a) + 1 by omega, Nat.mul_add, Nat.mul_one]
      · rw [if_neg hz, Int32.add_zero, show n + 1 - a93 a = 0 by omega, show n - a93 a = 0 by omega]
    refine ⟨i1.tr k1, fun t ht => ?_, fun t ht => ?_, ?_, ?_, ?_⟩
    · exact (k2 t (by omega)).trans (i2 t ht)
    · refine (k3 t (by omega)).trans ?_
      rw [i3 t ht, efs t ht, Int32.add_assoc, step]
    · refine k4.trans ?_
      rw [i4, esum, Int32.add_assoc, step]
    · exact k5.trans (congrArg nI (by omega))
    · exact k6.trans i6
/-- what the months tell, where none of the numbers is large -/
theorem mons_told {a : Row} (hI : Inv a) {n : Nat} (hn : n ≤ 60) : ∃ F, F ≤ 9600 ∧ monsA a n 95 - a 95 = nI F := by
  obtain ⟨-, -, -, h4, -, -⟩ := mons_val hI n
  have h8 := hI.1.1.1
  have h1 := sumN_le (g := fN a) (c := 20) (sN a) (fun s _ => fN_b hI s)
  refine ⟨_, ?_, by rw [h4, sub_add_self]⟩
  have h2 : sumN (fN a) (sN a) * (n - a93 a) ≤ 160 * 60 := Nat.mul_le_mul (by omega) (by omega)
  omega
theorem mons_sign {a : Row} (hI : Inv a) {n s : Nat} (hs : s < sN a) : sgV (monsA a n) s 7 - sgV a s 7 = nI (fN a s * (n - a93 a)) := by
  obtain ⟨-, -, h3, -⟩ := mons_val hI n
  show monsA a n (5 * s + 5) - a (5 * s + 5) = _
  rw [h3 s hs, sub_add_self]
abbrev GX (a : Row) (M : KMem) : Prop := ∃ H k, GO 0 a H k M
theorem worth_ok {a : Row} {s L : Nat} {M : KMem} (h : GX a M) (hs : s < sN a) (hL : L < 200) :
    kOk (m_La_isWorthSo 0 (nI s) (nI L) M) (fun q => q.1 = 1 ∧ GX a q.2 ∧ frS (rg 0) M q.2) := by
  obtain ⟨H, k, h⟩ := h
  have hI := h.1
  have h8 := hI.1.1.1
  have kk := h.k.1
  have hc := cd_le hI s
  have ec : sgV a s 5 = nI (c106 a * dA a s) := coA_e hI hs
  have d0 := ap_0 hI.1 hs
  rw [← dA_e hs] at d0
  obtain ⟨p1, p2, p3⟩ := payL_ok hI
  have w8 := wrgN_8 hI.1
  have aB := allN_b hI
  have wN := wrC_N hI.1 (sN a) (Nat.le_refl _)
  obtain ⟨⟨c1, c2⟩, am1, am2⟩ := c107_e hI.2.2
  -- the payments
  have payQ : ∀ (M0 : KMem) (H : Nat → Row) (k : Nat), GO 0 a H k M0 → ∀ M1, frS (scr (0 + 3)) M0 M1 → kOk (Option.bind (m_Sn_payable 0 (nI L) M1) fun x => Option.bind (m_Sn_payable 0 (nI L + 7) x.2) fun y => if y.1 < x.1 then some ((0 : Int32), y.2) else Option.bind (m_Sn_payable 0 (nI L) y.2) fun z => if z.1 < 0 then some (0, z.2) else Option.bind (m_Sn_payable 0 (nI L) z.2) fun u => Option.bind (m_Sn_about 0 2 u.2) fun w => Option.bind (if u.1 = w.1 then some (1 : Int32) else some 0) fun t127 => Option.bind (m_Sn_about 0 11 w.2) fun v => Option.bind (if nI L < v.1 then some (0 : Int32) else some 1) fun t132 => if t127 = t132 then some (1, v.2) else some (0, v.2)) (fun q => q.1 = 1 ∧ frS (scr (0 + 3)) M0 q.2) := by
    intro M0 H k h M1 F
    have m1 := gr_len (payL a) L
    have m2 := gr_len (payL a) (L + 7)
    have m3 := gr_mono (payL a) L (L + 7) p3 (by omega)
    have m4 := gr_all (payL a) L
    rw [p1] at m1 m2 m4
    rw [p2] at m4
    refine kAsk F (q_payable (L := L) (h.sc F) (by omega)) (fun M1 F => ?_)
    dsimp only
    rw [show nI L + 7 = nI (L + 7) from nI_add L 7]
    refine kAsk F (q_payable (L := L + 7) (h.sc F) (by omega)) (fun M1 F => ?_)
    dsimp only
    rw [if_neg (show ¬ nI (gr (L + 7) (payL a)) < nI (gr L (payL a)) from by rw [nI_ltI (by omega) (by omega)]; omega)]
    refine kAsk F (q_payable (L := L) (h.sc F) (by omega)) (fun M1 F => ?_)
    dsimp only
    rw [if_neg (show ¬ nI (gr L (payL a)) < 0 from nI_pos (by omega))]
    refine kAsk F (q_payable (L := L) (h.sc F) (by omega)) (fun M1 F => ?_)
    dsimp only
    refine kAsk F (q_about (j := 2) (h.sc F) (by omega)) (fun M1 F => ?_)
    dsimp only
    rw [bI]
    refine kAsk F (q_about (j := 11) (h.sc F) (by omega)) (fun M1 F => ?_)
    dsimp only
    rw [bI, beq_no (show (nI (gr L (payL a)) = abV a 2) ↔ ¬ (nI L < abV a 11) from by
      rw [show abV a 2 = nI (wrgN a) from wN, show abV a 11 = nI (allN a) from all_cost hI, nI_eq (by omega) (by omega), nI_ltI (by omega) (by omega)]
      omega)]
    exact kOk_i ⟨rfl, F⟩
  unfold m_La_isWorthSo
  have F : frS (scr (0 + 3)) M M := frS.rf
  refine kB _ (q_worthIn (h.sc F) hs) ?_
  rintro ⟨r, M1⟩ ⟨hr, f1⟩
  dsimp only at hr f1 ⊢
  replace F := F.tr f1
  refine kAsk F (q_signOf (j := 7) (h.sc F) hs (by omega)) (fun M1 F => ?_)
  dsimp only
  refine kAsk F (q_signOf (j := 5) (h.sc F) hs (by omega)) (fun M1 F => ?_)
  dsimp only
  have ht10 : (if r = -1 then (some 1 : Option Int32) else if r ≤ 0 then some 0 else if 200 < r then some 0 else some 1) = some 1 := by
    rcases hr with ⟨n, -, hw, -, rfl⟩ | ⟨-, rfl⟩
    · have := hw.2.1
      have := hw.1
      rw [if_neg (nI_nm1 (by omega)), if_neg (nI_nle (by omega) (by omega)), if_neg (by rw [show (200 : Int32) = nI 200 from rfl, nI_ltI (by omega) (by omega)]; omega)]
    · rw [if_pos rfl]
  rw [ht10, bS]
  refine kB (fun q => q.1 = 1 ∧ frS (scr (0 + 3)) M q.2) ?_ ?_
  · rw [if_neg u10]
    refine kAsk F (q_signOf (j := 3) (h.sc F) hs (by omega)) (fun M1 F => ?_)
    dsimp only
    by_cases h3 : sgV a s 3 = 1
    · rw [if_pos h3]
      exact payQ M H k h M1 F
    · rw [if_neg h3]
      have hz : dA a s = 0 := by
        refine d0.mpr ?_
        by_cases hc : a (5 * s + 3) = rtA a s
        · exact hc
        · exfalso
          exact h3 (if_neg hc)
      have hr1 : r = -1 := by
        rcases hr with ⟨n, hw, -⟩ | ⟨-, e⟩
        · simp [hz] at hw
        · exact e
      rw [if_pos hr1]
      exact payQ M H k h M1 F
  rintro ⟨x, M2⟩ ⟨r1, F⟩
  simp only at r1 F
  subst r1
  dsimp only
  -- the months ahead
  refine kB (fun q => q.1 = 1 ∧ GX a q.2 ∧ frS (rg 0) M q.2) ?_ ?_
  · rcases hr with ⟨n, hw, hP, hmin, rfl⟩ | ⟨-, rfl⟩
    · by_cases h1 : n ≤ 1
      · rw [if_pos (show nI n ≤ 1 from (nI_leI (b := 1) (by omega) (by omega)).mpr h1)]
        exact kOk_i ⟨rfl, ⟨H, k, h.sc F⟩, scr_rg F⟩
      · have hn200 := hP.2.1
        rw [if_neg (show ¬ nI n ≤ 1 from fun z => h1 ((nI_leI (b := 1) (by omega) (by omega)).mp z))]
        by_cases h61 : 61 ≤ n
        · rw [if_pos (show 61 ≤ nI n from (nI_leI (a := 61) (by omega) (by omega)).mpr h61)]
          exact kOk_i ⟨rfl, ⟨H, k, h.sc F⟩, scr_rg F⟩
        · rw [if_neg (show ¬ 61 ≤ nI n from fun z => h61 ((nI_leI (a := 61) (by omega) (by omega)).mp z)), if_neg u10]
          refine kB (fun q => q.1 = 1 ∧ GX a q.2 ∧ frS (rg 0) M q.2) ?_ ?_
          · rw [nI_s1 (by omega)]
            refine kB _ (n_months (n := n - 1) (h.sc F) (by omega) (by omega)) ?_
            rintro ⟨x, M3⟩ ⟨r1, g, r3⟩
            simp only at r1 g r3
            obtain ⟨T, hT, eT⟩ := mons_told hI (n := n - 1) (by omega)
            rw [eT] at r1
            subst r1
            dsimp only
            rw [if_neg (nI_pos (by omega))]
            have sn := (mons_val hI (n - 1)).1.n.1
            have G0 : frS (scr (0 + 3)) M3 M3 := frS.rf
            refine kAsk G0 (q_signOf (j := 7) (g.sc G0) (s := s) (by omega) (by omega)) (fun M4 G0 => ?_)
            dsimp only
            have hle : fN a s * (n - 1 - a93 a) ≤ c106 a * dA a s := by
              have hm := hmin (n - 1) (by omega)
              by_cases ha : a93 a < n - 1
              · have : ¬ c106 a * dA a s < c107 a * (n - 1 - a93 a) := fun z => hm ⟨ha, by omega, z⟩
                have hf : fN a s * (n - 1 - a93 a) ≤ c107 a * (n - 1 - a93 a) := Nat.mul_le_mul_right _ (by unfold fN; split <;> omega)
                omega
              · rw [show n - 1 - a93 a = 0 by omega, Nat.mul_zero]
                exact Nat.zero_le _
            rw [mons_sign hI hs, ec, if_neg (by rw [nI_ltI (by omega) (by omega)]; omega)]
            refine kB _ (n_undo (g.sc G0) kk) ?_
            rintro ⟨x, M5⟩ ⟨q1, q2, q3⟩
            simp only at q1 q2 q3
            subst q1
            dsimp only
            rw [if_neg (nI_pos (by omega))]
            exact kOk_i ⟨rfl, ⟨_, _, q2⟩, (((scr_rg F).tr r3).tr (scr_rg G0)).tr q3⟩
          · rintro ⟨x, M3⟩ ⟨r1, r2, r3⟩
            simp only at r1 r2 r3
            subst r1
            exact kOk_i ⟨rfl, r2, r3⟩
    · rw [if_pos (show (-1 : Int32) ≤ 1 by decide)]
      exact kOk_i ⟨rfl, ⟨H, k, h.sc F⟩, scr_rg F⟩
  rintro ⟨x, M3⟩ ⟨r1, ⟨H3, k3, h3⟩, R3⟩
  simp only at r1 h3 R3
  subst r1
  dsimp only
  refine kB (fun q => q.1 = 1 ∧ GX a q.2 ∧ frS (rg 0) M q.2) ?_ ?_
  · rcases hr with ⟨n, hw, hP, hmin, rfl⟩ | ⟨-, rfl⟩
    · have hn1 := hP.1
      have hn200 := hP.2.1
      rw [if_neg (nI_nle (by omega) (by omega))]
      by_cases h61 : 61 ≤ n
      · rw [if_pos (show 61 ≤ nI n from (nI_leI (a := 61) (by omega) (by omega)).mpr h61)]
        exact kOk_i ⟨rfl, ⟨H3, k3, h3⟩, R3⟩
      · rw [if_neg (show ¬ 61 ≤ nI n from fun z => h61 ((nI_leI (a := 61) (by omega) (by omega)).mp z)), if_neg u10]
        refine kB (fun q => q.1 = 1 ∧ GX a q.2 ∧ frS (rg 0) M q.2) ?_ ?_
        · refine kB _ (n_months (n := n) h3 (by omega) (by omega)) ?_
          rintro ⟨x, M4⟩ ⟨r1, g, r3⟩
          simp only at r1 g r3
          obtain ⟨T, hT, eT⟩ := mons_told hI (n := n) (by omega)
          rw [eT] at r1
          subst r1
          dsimp only
          rw [if_neg (nI_pos (by omega))]
          have sn := (mons_val hI n).1.n.1
          have G0 : frS (scr (0 + 3)) M4 M4 := frS.rf
          refine kAsk G0 (q_signOf (j := 7) (g.sc G0) (s := s) (by omega) (by omega)) (fun M5 G0 => ?_)
          dsimp only
          have hd : dA a s ≠ 0 := of_decide_eq_true hw
          have hf : fN a s = c107 a := if_neg hd
          have hgt : c106 a * dA a s < c107 a * (n - a93 a) := hP.2.2
          have hb : c107 a * (n - a93 a) ≤ 20 * 60 := Nat.mul_le_mul c1 (by omega)
          rw [mons_sign hI hs, ec, hf, if_neg (by rw [nI_leI (by omega) (by omega)]; omega)]
          refine kB _ (n_undo (g.sc G0) h3.k.1) ?_
          rintro ⟨x, M6⟩ ⟨q1, q2, q3⟩
          simp only at q1 q2 q3
          subst q1
          dsimp only
          rw [if_neg (nI_pos (by omega))]
          exact kOk_i ⟨rfl, ⟨_, _, q2⟩, ((R3.tr r3).tr (scr_rg G0)).tr q3⟩
        · rintro ⟨x, M4⟩ ⟨r1, r2, r3⟩
          simp only at r1 r2 r3
          subst r1
          exact kOk_i ⟨rfl, r2, r3⟩
    · rw [if_pos (show (-1 : Int32) ≤ 0 by decide)]
      exact kOk_i ⟨rfl, ⟨H3, k3, h3⟩, R3⟩
  rintro ⟨x, M4⟩ ⟨r1, ⟨H4, k4, h4⟩, R4⟩
  simp only at r1 h4 R4
  subst r1
  dsimp only
  have F : frS (scr (0 + 3)) M4 M4 := frS.rf
  refine kAsk F (q_about (j := 7) (h4.sc F) (by omega)) (fun M5 F => ?_)
  dsimp only
  refine kB (fun q => q.1 = 1 ∧ GX a q.2 ∧ frS (rg 0) M q.2) ?_ ?_
  · rw [if_neg u10]
    refine kB _ (n_paint (h4.sc F) hs) ?_
    rintro ⟨x, M6⟩ ⟨r1, g, r3⟩
    simp only at r1 g r3
    subst r1
    dsimp only
    rw [if_pos (show coA a s = sgV a s 5 from rfl)]
    have l0 := paintsA_l0 hI.1 hs
    have sn := l0.n.1
    have rt := l0.rt hs
    have e3 : paintsA a s (5 * s + 3) = rtA a s := paintsA_3 (by omega)
    have hg := (gN_e hI.1 hs).1
    have hI2 := paintsA_inv hI hs
    have dz : dA (paintsA a s) s = 0 := by
      rw [dA_e (by omega)]
      exact (ap_0 hI2.1 (s := s) (by omega)).mpr (by rw [e3, rt])
    have G0 : frS (scr (0 + 3)) M6 M6 := frS.rf
    refine kAsk G0 (q_signOf (j := 3) (g.sc G0) (s := s) (by omega) (by omega)) (fun M7 G0 => ?_)
    dsimp only
    rw [if_pos (show sgV (paintsA a s) s 3 = 0 from if_pos (by rw [e3, rt]))]
    refine kAsk G0 (q_signOf (j := 2) (g.sc G0) (s := s) (by omega) (by omega)) (fun M7 G0 => ?_)
    dsimp only
    refine kAsk G0 (q_right (w := 1) (g.sc G0) (s := s) (by omega) (by omega)) (fun M7 G0 => ?_)
    dsimp only
    rw [if_pos (show sgV (paintsA a s) s 2 = rtA (paintsA a s) s from by rw [rt]; exact e3)]
    refine kAsk G0 (q_about (j := 7) (g.sc G0) (by omega)) (fun M7 G0 => ?_)
    dsimp only
    rw [if_pos (show abV (paintsA a s) 7 = abV a 7 + sgV a s 5 from paintsA_96)]
    refine kB _ (q_worthIn (g.sc G0) (s := s) (by omega)) ?_
    rintro ⟨x, M8⟩ ⟨q1, q2⟩
    dsimp only at q1 q2 ⊢
    have hx : x = -1 := by
      rcases q1 with ⟨n, hw, -⟩ | ⟨-, e⟩
      · simp [dz] at hw
      · exact e
    rw [if_pos hx]
    refine kB _ (n_undo (g.sc (G0.tr q2)) h4.k.1) ?_
    rintro ⟨x, M9⟩ ⟨s1, s2, s3⟩
    simp only at s1 s2 s3
    subst s1
    dsimp only
    rw [if_neg (nI_pos (by omega))]
    exact kOk_i ⟨rfl, ⟨_, _, s2⟩, (((R4.tr (scr_rg F)).tr r3).tr (scr_rg (G0.tr q2))).tr s3⟩
  rintro ⟨x, M6⟩ ⟨r1, ⟨H6, k6, h6⟩, R6⟩
  simp only at r1 h6 R6
  subst r1
  dsimp only
  refine kB (fun q => q.1 = 1 ∧ GX a q.2 ∧ frS (rg 0) M q.2) ?_ ?_
  · rw [if_neg u10]
    have F : frS (scr (0 + 3)) M6 M6 := frS.rf
    refine kAsk F (q_signOf (j := 5) (h6.sc F) hs (by omega)) (fun M7 F => ?_)
    dsimp only
    rw [if_pos rfl]
    refine kAsk F (q_signOf (j := 7) (h6.sc F) hs (by omega)) (fun M7 F => ?_)
    dsimp only
    rw [if_pos rfl]
    exact kOk_i ⟨rfl, ⟨_, _, h6.sc F⟩, R6.tr (scr_rg F)⟩
  · rintro ⟨x, M7⟩ ⟨r1, r2, r3⟩
    simp only at r1 r2 r3
    subst r1
    dsimp only
    rw [kz_1, bS]
    exact kOk_i ⟨rfl, r2, r3⟩
