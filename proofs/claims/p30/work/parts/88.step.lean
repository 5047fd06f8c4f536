/-! P30: one turn of the law's loop -/
def INV (n : Nat) (M : KMem) : Prop := ∃ a, InvF a ∧ InvM n a ∧ Two a M
theorem InvM.up {a : Row} {n n' : Nat} (h : InvM n a) (hn : n ≤ n') : InvM n' a := h.of hn rfl rfl
theorem two_l {a : Row} {M M' : KMem} {H : Nat → Row} {k : Nat} (h : GO 235 a H k M) (h0 : GX a M') (hf : frS (fun o => rg 0 o ∨ o = 470) M M') : Two a M' :=
  ⟨h0, H, k, h.fr hf (fun o ho => by omega)⟩
/-- a turn's end: sums, whys, worths -/
def m_tail (i v : Int32) (M17 : KMem) : Option KMem :=
 Option.bind (α := KMem) (if (jrem i 3) = 2 then
 (Option.bind (m_La_areSums 0 M17) fun (x44, M45) =>
 Option.bind (α := Unit) (if x44 = 0 then
 (none)
 else
 (some ())) fun _ =>
 Option.bind (m_La_low (jshr v 5) 3) fun x48 =>
 Option.bind (m_La_isWhySo 0 x48 (jshr v 7) 470 1 M45) fun (x50, M51) =>
 if x50 = 0 then
 (none)
 else
 (some M51))
 else
 (some M17)) fun M19 =>
 if (jrem i 3) = 2 then
 (Option.bind (m_Sn_about 0 0 M19) fun (x23, M24) =>
 if x23 ≤ 0 then
 (some M24)
 else
 (Option.bind (m_Sn_about 0 0 M24) fun (x27, M28) =>
 Option.bind (m_La_low (jshr v 6) x27) fun x30 =>
 Option.bind (m_La_low (jshr v 8) 200) fun x32 =>
 Option.bind (m_La_isWorthSo 0 x30 x32 M28) fun (x34, M35) =>
 Option.bind (α := Unit) (if x34 = 0 then
 (none)
 else
 (some ())) fun _ =>
 Option.bind (m_La_areAlike 0 235 M35) fun (x38, M39) =>
 if x38 = 0 then
 (none)
 else
 (some M39)))
 else
 (some M19)
theorem tail_ok {i v : Int32} {a : Row} {n : Nat} {M : KMem} (h : Two a M) (hF : InvF a) (hM : InvM n a) (hn : n < 2 ^ 30) : kOk (m_tail i v M) (fun M' => Two a M') := by
  have hI : Inv a := by obtain ⟨⟨H, k, h1⟩, -⟩ := h; exact h1.1
  have h8 := hI.1.1.1
  have a0 : abV a 0 = nI (sN a) := hI.1.1.2
  unfold m_tail
  by_cases c : jrem i 3 = 2
  · rw [if_pos c]
    refine kB (fun M' => Two a M') ?_ ?_
    · obtain ⟨⟨H, k, g⟩, H', k', g'⟩ := id h
      obtain ⟨q, hq, e1⟩ := low_ok (jshr v 5) (n := 3) (by omega) (by omega)
      have e1' : m_La_low (jshr v 5) 3 = some (nI q) := e1
      refine kB _ (sums_ok g hF hM hn) ?_
      rintro ⟨x, M1⟩ ⟨r1, F1⟩
      simp only at r1 F1
      subst r1
      dsimp only
      rw [if_neg u10, bS, e1', bS]
      refine kB _ (why_ok (g.sc F1) hq) ?_
      rintro ⟨x, M2⟩ ⟨r2, g2, F2⟩
      simp only at r2 g2 F2
      subst r2
      dsimp only
      rw [if_neg u10]
      exact kOk_i (two_l g' g2 (((scr_rg F1).wk (fun o ho => Or.inl ho)).tr F2))
    · intro M1 h1
      rw [if_pos c]
      obtain ⟨⟨H, k, g⟩, -⟩ := id h1
      refine kB _ (q_about (j := 0) g (by omega)) ?_
      rintro ⟨x, M2⟩ ⟨r1, F1⟩
      simp only at r1 F1
      subst r1
      dsimp only
      rw [a0]
      by_cases s0 : sN a = 0
      · rw [if_pos (by rw [s0]; decide)]
        exact kOk_i (h1.sc (sc0 F1))
      · rw [if_neg (nI_nle (by omega) (by omega))]
        refine kB _ (q_about (j := 0) (g.sc F1) (by omega)) ?_
        rintro ⟨x, M3⟩ ⟨r2, F2⟩
        simp only at r2 F2
        subst r2
        dsimp only
        obtain ⟨s, hs, e2⟩ := low_ok (jshr v 6) (n := sN a) (by omega) (by omega)
        obtain ⟨L, hL, e3⟩ := low_ok (jshr v 8) (n := 200) (by omega) (by omega)
        have e3' : m_La_low (jshr v 8) 200 = some (nI L) := e3
        rw [a0, e2, bS, e3', bS]
        have h3 := h1.sc (sc0 (F1.tr F2))
        obtain ⟨g30, H3, k3, g3⟩ := id h3
        refine kB _ (worth_ok g30 hs hL) ?_
        rintro ⟨x, M4⟩ ⟨r3, g4, F3⟩
        simp only at r3 g4 F3
        subst r3
        dsimp only
        rw [if_neg u10, bS]
        have h4 : Two a M4 := two_l g3 g4 (F3.wk (fun o ho => Or.inl ho))
        refine kB _ (alike_ok h4) ?_
        rintro ⟨x, M5⟩ ⟨r4, F4⟩
        simp only at r4 F4
        subst r4
        dsimp only
        rw [if_neg u10]
        exact kOk_i (h4.sc F4)
  · rw [if_neg c, bS, if_neg c]
    exact kOk_i h
theorem step_ok {n : Nat} {i v : Int32} {M : KMem} (h : INV n M) (hn : n + 60 < 2 ^ 30) : kOk (m_La_step i v M) (fun M' => INV (n + 60) M') := by
  obtain ⟨a, hF, hM, hT⟩ := h
  obtain ⟨⟨H, k, g⟩, H', k', g'⟩ := id hT
  have hI := g.1
  have kk := g.k.1
  have tl : ∀ (b : Row) (M17 : KMem), InvF b → InvM (n + 60) b → Two b M17 → kOk (m_tail i v M17) (fun M' => INV (n + 60) M') := fun b M17 h1 h2 h3 => kWk _ (tail_ok h3 h1 h2 hn) (fun M' h4 => ⟨b, h1, h2, h4⟩)
  unfold m_La_step
  rcases act_ok hI v with ⟨r, r0, hA⟩ | ⟨w, b, hb, hA⟩
  · refine kB _ (hA 0 H k M g (by omega)) ?_
    rintro ⟨x, M3⟩ ⟨p1, p2, p3⟩
    simp only at p1 p2 p3
    subst p1
    have hT3 : Two a M3 := ⟨⟨H, k, p2⟩, H', k', g'.fr p3 (fun o ho => by omega)⟩
    dsimp only
    simp only [r470, bS, if_neg r0]
    refine kB (fun M' => Two a M') ?_ ?_
    · refine kB _ (alike_ok hT3) ?_
      rintro ⟨y, M5⟩ ⟨r4, F4⟩
      simp only at r4 F4
      subst r4
      dsimp only
      rw [if_neg u10]
      exact kOk_i (hT3.sc F4)
    intro M6 h6
    obtain ⟨⟨H6, k6, g6⟩, H7, k7, g7⟩ := id h6
    refine kB _ (hA 235 H7 k7 M6 g7 (by omega)) ?_
    rintro ⟨y, M12⟩ ⟨q1, q2, q3⟩
    simp only at q1 q2 q3
    subst q1
    have h12 : Two a M12 := ⟨⟨H6, k6, g6.fr q3 (fun o ho => by omega)⟩, H7, k7, q2⟩
    dsimp only
    rw [if_pos rfl, bS]
    refine kB _ (alike_ok h12) ?_
    rintro ⟨y, M17⟩ ⟨r4, F4⟩
    simp only at r4 F4
    subst r4
    dsimp only
    rw [if_neg u10, bS]
    exact tl a M17 hF (hM.up (by omega)) (h12.sc F4)
  · refine kB _ (hA 0 H k M g (by omega)) ?_
    rintro ⟨x, M3⟩ ⟨p1, p2, p3, p4⟩
    simp only at p1 p2 p3 p4
    subst p1
    have g2 : GO 235 a H' k' M3 := g'.fr p4 (fun o ho => by omega)
    dsimp only
    simp only [r470, bS, if_true, p3]
    refine kB (fun M' => (∃ H k, GO 0 b H k M') ∧ ∃ H k, GO 235 a H k M') ?_ ?_
    · by_cases c : (jshr v 9) &&& 1 = 0
      · rw [if_pos c]
        have uo := undoes_ok p2 (by omega) (by omega)
        rw [push_top kk] at uo
        refine kB _ uo ?_
        rintro ⟨x, M4⟩ ⟨s1, s2, s3, s4⟩
        simp only at s1 s2 s3 s4
        subst s1
        have s5 : ¬ (13 : Int32) < M4 470 0 := by
          rw [s3, show (13 : Int32) = nI 13 from rfl, nI_ltI (by omega) (by omega)]
          omega
        have hT4 : Two a M4 := ⟨⟨_, _, s2⟩, H', k', g2.fr s4 (fun o ho => by omega)⟩
        dsimp only
        simp only [if_true, bS, if_neg s5]
        refine kB _ (alike_ok hT4) ?_
        rintro ⟨x, M5⟩ ⟨r4, F4⟩
        simp only at r4 F4
        subst r4
        dsimp only
        rw [if_neg u10, bS]
        obtain ⟨⟨H5, k5, g5⟩, H6, k6, g6⟩ := hT4.sc F4
        refine kB _ (hA 0 H5 k5 M5 g5 (by omega)) ?_
        rintro ⟨x, M6⟩ ⟨q1, q2, q3, q4⟩
        simp only at q1 q2 q3 q4
        subst q1
        dsimp only
        simp only [if_true, bS, if_pos q3]
        exact kOk_i ⟨⟨_, _, q2⟩, H6, k6, g6.fr q4 (fun o ho => by omega)⟩
      · rw [if_neg c]
        exact kOk_i ⟨⟨_, _, p2⟩, H', k', g2⟩
    rintro M8 ⟨⟨H8, k8, g8⟩, H9, k9, g9⟩
    refine kB _ (hA 235 H9 k9 M8 g9 (by omega)) ?_
    rintro ⟨x, M12⟩ ⟨q1, q2, q3, q4⟩
    simp only at q1 q2 q3 q4
    subst q1
    have h12 : Two b M12 := ⟨⟨H8, k8, g8.fr q4 (fun o ho => by omega)⟩, _, _, q2⟩
    dsimp only
    simp only [if_true, bS, if_pos q3]
    refine kB _ (alike_ok h12) ?_
    rintro ⟨x, M17⟩ ⟨r4, F4⟩
    simp only at r4 F4
    subst r4
    dsimp only
    rw [if_neg u10, bS]
    exact tl b M17 (hb.2.1 hF) (hb.2.2 n hM) (h12.sc F4)
