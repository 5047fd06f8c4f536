/-! LAYER 2: more questions -/
def sgV (a : Row) (s j : Nat) : Int32 := match j with
  | 0 => a (5 * s + 1) | 1 => a (5 * s + 2) | 2 => a (5 * s + 3) | 3 => if a (5 * s + 3) = rtA a s then 0 else 1 | 4 => nI (apA a s) | 5 => coA a s | 6 => a (5 * s + 4) | _ => a (5 * s + 5)
theorem upto7 {j : Nat} (h : j ≤ 7) : j = 0 ∨ j = 1 ∨ j = 2 ∨ j = 3 ∨ j = 4 ∨ j = 5 ∨ j = 6 ∨ j = 7 := by omega
theorem i01n {c : Prop} [Decidable c] : (if (if c then (0 : Int32) else 1) = 0 then (0 : Int32) else 1) = if c then 0 else 1 := by
  by_cases h : c
  · rw [if_pos h, if_pos rfl]
  · rw [if_neg h, if_neg u10]
theorem Csign {a : Row} {M : KMem} {s j : Nat} (h : CR a 3 M) (hI : Inv a) (hs : s < sN a) (hj : j ≤ 7) : kOk (m_Tw_numberOfSign 3 (nI s) (nI j) M) (fun q => q.1 = sgV a s j ∧ frS (scr 3) M q.2) := by
  have h8 := hI.1.1.1
  obtain ⟨k1, k2, k3, k4, k5, k6⟩ := h.2.2.1 s hs
  unfold m_Tw_numberOfSign
  rw [hasSign_y (h.n hI.1) h8 hs, bS, if_neg u10]
  rcases upto7 hj with rfl | rfl | rfl | rfl | rfl | rfl | rfl | rfl
  · rw [if_pos (by decide), rdN (by omega) (by omega), bS]
    exact kOk_i ⟨k1, frS.rf⟩
  · rw [if_neg (by decide), if_pos (by decide), rdN (by omega) (by omega), bS]
    exact kOk_i ⟨k2, frS.rf⟩
  · rw [if_neg (by decide), if_neg (by decide), if_pos (by decide), rdN (by omega) (by omega), bS]
    exact kOk_i ⟨k3, frS.rf⟩
  · rw [if_neg (by decide), if_neg (by decide), if_neg (by decide), if_pos (by decide), isWrong_ok h hI.1 hs, bS, bI, i01n]
    exact kOk_i ⟨rfl, frS.rf⟩
  · rw [if_neg (by decide), if_neg (by decide), if_neg (by decide), if_neg (by decide), if_pos (by decide)]
    refine kB _ (lettersWrong_ok h hI.1 hs) ?_
    rintro ⟨x, M1⟩ hq
    exact kOk_i hq
  · rw [if_neg (by decide), if_neg (by decide), if_neg (by decide), if_neg (by decide), if_neg (by decide), if_pos (by decide)]
    refine kB _ (costOf_ok h hI.1 hs) ?_
    rintro ⟨x, M1⟩ hq
    exact kOk_i hq
  · rw [if_neg (by decide), if_neg (by decide), if_neg (by decide), if_neg (by decide), if_neg (by decide), if_neg (by decide), if_pos (by decide), rdN (by omega) (by omega), bS]
    exact kOk_i ⟨k5, frS.rf⟩
  · rw [if_neg (by decide), if_neg (by decide), if_neg (by decide), if_neg (by decide), if_neg (by decide), if_neg (by decide), if_neg (by decide), rdN (by omega) (by omega), bS]
    exact kOk_i ⟨k6, frS.rf⟩
theorem Msign {a : Row} {M : KMem} {s j : Nat} (ha : M 236 = a) (hI : Inv a) (hs : s < sN a) (hj : j ≤ 7) : kOk (m_Mo_ofSign 235 (nI s) (nI j) M) (fun q => q.1 = sgV a s j ∧ frS (fun o => o = 241) M q.2) := by
  have h8 := hI.1.1.1
  have ha' : M (235 + 1) = a := ha
  have hI' : InvB (M (235 + 1)) := by rw [ha']; exact hI.1
  have hs' : s < sN (M (235 + 1)) := by rw [ha']; exact hs
  unfold m_Mo_ofSign
  rcases upto7 hj with rfl | rfl | rfl | rfl | rfl | rfl | rfl | rfl
  · rw [if_neg (by decide), if_neg (by decide), if_neg (by decide), if_neg (by decide), show m_Mo_of (nI s) (nI 0) = _ from of_0 s, bS, rdN (by omega) (by omega), bS, ha']
    exact kOk_i ⟨rfl, frS.rf⟩
  · rw [if_neg (by decide), if_neg (by decide), if_neg (by decide), if_neg (by decide), show m_Mo_of (nI s) (nI 1) = _ from of_1 s, bS, rdN (by omega) (by omega), bS, ha']
    exact kOk_i ⟨rfl, frS.rf⟩
  · rw [if_neg (by decide), if_neg (by decide), if_neg (by decide), if_neg (by decide), show m_Mo_of (nI s) (nI 2) = _ from of_2 s, bS, rdN (by omega) (by omega), bS, ha']
    exact kOk_i ⟨rfl, frS.rf⟩
  · rw [if_pos (by decide), Mwrong hI' hs', bS, bI, i01n, ha']
    exact kOk_i ⟨rfl, frS.rf⟩
  · rw [if_neg (by decide), if_pos (by decide)]
    refine kB _ (MapartBy hI' hs') ?_
    rintro ⟨x, M1⟩ ⟨q1, q2⟩
    rw [ha'] at q1
    exact kOk_i ⟨q1, q2⟩
  · rw [if_neg (by decide), if_neg (by decide), if_pos (by decide)]
    refine kB _ (Mcost hI' hs') ?_
    rintro ⟨x, M1⟩ ⟨q1, q2⟩
    rw [ha'] at q1
    exact kOk_i ⟨q1, q2⟩
  · rw [if_neg (by decide), if_neg (by decide), if_neg (by decide), if_pos (by decide), show m_Mo_of (nI s) (nI 6 - 3) = _ from of_3 s, bS, rdN (by omega) (by omega), bS, ha']
    exact kOk_i ⟨rfl, frS.rf⟩
  · rw [if_neg (by decide), if_neg (by decide), if_neg (by decide), if_pos (by decide), show m_Mo_of (nI s) (nI 7 - 3) = _ from of_4 s, bS, rdN (by omega) (by omega), bS, ha']
    exact kOk_i ⟨rfl, frS.rf⟩
theorem pub_signOf {M : KMem} (h : GI M) (p0 p1 : Int32) : Pub M [eI, eA] (m_SR_signOf 0 p0 p1 M) (m_Mo_signOf 235 p0 p1) := by
  have h' := h
  obtain ⟨H, k, S, kp, len, T, hc, hm⟩ := h'
  have hI := hc.1
  rcases reqSign_c h p0 with ⟨s, s1, rfl, e1, e2, e3⟩ | ⟨e1, e2⟩
  · rcases in_c p1 (lo := 0) (hi := 7) (by omega) (by omega) with ⟨j, j1, j2, rfl, e⟩ | ⟨g1, e⟩
    · refine pub_r (v := sgV (M 236) s j) h ?_ (fun M7 => Option.bind (Option.bind (m_Mo_ofSign 235 (nI s) (nI j) M7) fun (x, M8) => some (x, M8)) fun (x, M8) => some (x, M8)) (fun M1 eM => ?_) (fun M7 e7 => kPair (Msign e7 hI s1 j2))
      · unfold m_SR_signOf
        rw [e1, bS]
        show kOk (if nI j < 0 then _ else (if nI j ≤ 7 then _ else _)) _
        rw [if_neg (nI_pos (by omega)), if_pos (show nI j ≤ 7 from (nI_leI (b := 7) (by omega) (by omega)).mpr j2)]
        refine kB _ (Csign hc.2.1 hI s1 j2) ?_
        rintro ⟨x, M1⟩ ⟨q1, q2⟩
        exact kOk_i ⟨congrArg Sum.inr q1, q2⟩
      · unfold m_Mo_signOf
        rw [isSign_eq (M := M) eM, e2, bS, if_neg u10, show m_Mo_in (nI j) 0 7 = some 1 from e, bS, if_neg u10, bS, Mholds_0, bS]
        exact Mif rfl
    · refine pub_no h eA 1 rfl ?_ ?_
      · unfold m_SR_signOf
        rw [e1, bS]
        show (if p1 < 0 then _ else (if p1 ≤ 7 then _ else _)) = _
        by_cases c0 : p1 < 0
        · rw [if_pos c0]
        · rw [if_neg c0, if_neg (show ¬ p1 ≤ 7 from ge_of (n := 7) c0 g1)]
      · unfold m_Mo_signOf
        rw [e2, bS, if_neg u10, show m_Mo_in p1 0 7 = some 0 from e, bS, if_pos rfl, bS, show m_Mo_holds 235 2 M = _ from Mholds_n (by decide) M, bS]
        rfl
  · refine pub_no h eI 0 rfl ?_ ?_
    · unfold m_SR_signOf
      rw [e1]
      rfl
    · unfold m_Mo_signOf
      rw [e2, bS, if_pos rfl, bS, show m_Mo_holds 235 1 M = _ from Mholds_n (by decide) M, bS]
      rfl
/-- the class's answers that change nothing -/
def wm (M : KMem) (o : Option (String ⊕ Int32)) : Option ((String ⊕ Int32) × KMem) := o.map (fun r => (r, M))
theorem pub_decreeOf {M : KMem} (h : GI M) (p0 p1 : Int32) : Pub M [eI, eA] (wm M (m_SR_decreeOf 0 p0 p1 M)) (m_Mo_decreeOf 235 p0 p1) := by
  have h' := h
  obtain ⟨H, k, S, kp, len, T, hc, hm⟩ := h'
  have hI := hc.1
  have hd5 : M 5 0 = nI (dN (M 236)) := hc.2.1.d hI.1
  have h10 := hI.1.2.1.1
  rcases isDecree_c (v := 235) (M := M) p0 hI.1.2.1.2 (by omega) with ⟨s, s1, rfl, e2⟩ | ⟨g0, e2⟩
  · have s1' : s < dN (M 236) := s1
    have er : m_SR_requireDecree 0 (nI s) M = some none := by
      unfold m_SR_requireDecree
      show Option.bind (m_De_has 5 (nI s) M) _ = _
      rw [has_n hd5 (by omega) (by omega), if_pos s1', bS, if_neg u10]
    rcases in_c p1 (lo := 0) (hi := 4) (by omega) (by omega) with ⟨j, j1, j2, rfl, e⟩ | ⟨g1, e⟩
    · refine pub_r (v := M 236 (42 + 5 * s + j)) h ?_ (fun M7 => Option.bind (Option.bind (m_Mo_ofDecree (nI s) (nI j)) fun x12 => Option.bind (rdI M7 (235 + 1) 108 x12) fun x14 => some x14) fun t8 => some (t8, M7)) (fun M1 eM => ?_) (fun M7 e7 => ?_)
      · unfold m_SR_decreeOf wm
        rw [er, bS]
        show kOk (Option.map _ (if nI j < 0 then _ else (if nI j ≤ 4 then _ else _))) _
        rw [if_neg (nI_pos (by omega)), if_pos (show nI j ≤ 4 from (nI_leI (b := 4) (by omega) (by omega)).mpr j2)]
        show kOk (Option.map _ (Option.bind (m_De_number 5 (nI s) (nI j) M) _)) _
        rw [number_n hd5 h10 s1' (by omega), bS]
        refine kOk_i ⟨?_, frS.rf⟩
        show Sum.inr (M 6 (5 * s + j)) = _
        rw [show M 6 (5 * s + j) = M 236 (42 + (5 * s + j)) from hc.2.1.2.1 (5 * s + j) (by omega), ← Nat.add_assoc]
      · unfold m_Mo_decreeOf
        rw [isDecree_eq (M := M) eM, e2, bS, if_neg u10, show m_Mo_in (nI j) 0 4 = some 1 from e, bS, if_neg u10, bS, Mholds_0, bS]
        show Option.bind (if (1 : Int32) = 0 then _ else _) _ = _
        rw [if_neg u10]
      · rw [ofD_j, bS, rdN (by omega) (by omega), bS, bS]
        refine kOk_i ⟨?_, frS.rf⟩
        show M7 236 _ = _
        rw [e7]
    · refine pub_no h eA 1 rfl ?_ ?_
      · unfold m_SR_decreeOf wm
        rw [er, bS]
        show Option.map _ (if p1 < 0 then _ else (if p1 ≤ 4 then _ else _)) = _
        by_cases c0 : p1 < 0
        · rw [if_pos c0]; rfl
        · rw [if_neg c0, if_neg (show ¬ p1 ≤ 4 from ge_of (n := 4) c0 g1)]; rfl
      · unfold m_Mo_decreeOf
        rw [e2, bS, if_neg u10, show m_Mo_in p1 0 4 = some 0 from e, bS, if_pos rfl, bS, show m_Mo_holds 235 2 M = _ from Mholds_n (by decide) M, bS]
        rfl
  · refine pub_no h eI 0 rfl ?_ ?_
    · unfold m_SR_decreeOf wm m_SR_requireDecree m_De_has
      show Option.map _ (Option.bind (Option.bind (Option.bind (if p0 < 0 then _ else (if M 5 0 ≤ p0 then _ else _)) _) _) _) = _
      rw [hd5]
      rcases g0 with c | c
      · rw [if_pos c]; rfl
      · by_cases c0 : p0 < 0
        · rw [if_pos c0]; rfl
        · rw [if_neg c0, if_pos c]; rfl
    · unfold m_Mo_decreeOf
      rw [e2, bS, if_pos rfl, bS, show m_Mo_holds 235 1 M = _ from Mholds_n (by decide) M, bS]
      rfl
/-- a guild's signs, or the wrong ones -/
def grC (a : Row) (g w : Nat) : Nat → Int32
  | 0 => 0
  | s + 1 => grC a g w s + (if a (5 * s + 1) = nI g ∧ (w = 0 ∨ a (5 * s + 3) ≠ rtA a s) then 1 else 0)
theorem Cguild {a : Row} {M : KMem} {g w : Nat} (h : CR a 3 M) (hI : Inv a) (hw : w ≤ 1) : m_Tw_signsOfGuild 3 (nI g) (nI w) M = some (grC a g w (sN a)) := by
  have h8 := hI.1.1.1
  refine kEx ?_
  unfold m_Tw_signsOfGuild
  refine kB (fun r => r = grC a g w (sN a)) (kFor (fun s q => q = (grC a g w s, nI s)) (sN a) ?_ ?_ (i0 := 0) (by omega) (by omega) rfl) (fun x hx => kOk_i hx)
  · rintro s _ hs rfl
    obtain ⟨k1, k2, k3, k4, k5, k6⟩ := h.2.2.1 s hs
    refine Or.inl ⟨_, ?_, rfl⟩
    unfold m_Tw_signsOfGuild_l5
    show (if 8 ≤ nI s then _ else _) = _
    rw [if_neg (by rw [nI_8F (by omega)]; exact id), hasSign_y (h.n hI.1) h8 hs, bS, if_neg u10, rdN (by omega) (by omega), bS, k1, nI_1]
    have hr : grC a g w (s + 1) = grC a g w s + (if a (5 * s + 1) = nI g ∧ (w = 0 ∨ a (5 * s + 3) ≠ rtA a s) then 1 else 0) := rfl
    rw [hr]
    by_cases c1 : a (5 * s + 1) = nI g
    · rw [if_pos c1]
      by_cases c2 : w = 0
      · rw [if_pos (by rw [c2]; rfl), bS, if_pos ⟨c1, Or.inl c2⟩]
      · rw [if_neg (nI_ne0 (by omega) (by omega)), isWrong_ok h hI.1 hs, bS]
        by_cases c3 : a (5 * s + 3) = rtA a s
        · rw [if_pos c3, if_pos rfl, bS, if_neg (fun z => z.2.elim c2 (fun w => w c3)), Int32.add_zero]
        · rw [if_neg c3, if_neg u10, bS, if_pos ⟨c1, Or.inr c3⟩]
    · rw [if_neg c1, bS, if_neg (fun z => c1 z.1), Int32.add_zero]
  · rintro _ rfl
    refine ⟨_, ?_, rfl⟩
    unfold m_Tw_signsOfGuild_l5
    show (if 8 ≤ nI (sN a) then _ else _) = _
    split
    · rfl
    · rw [hasSign_n (h.n hI.1) h8 (Nat.le_refl _) (by omega), bS, if_pos rfl]
theorem Mguild {a : Row} {M : KMem} {g w : Nat} (ha : M 236 = a) (hI : Inv a) (hw : w ≤ 1) (hg : g < 4) : kLp (m_Mo_ofGuild_l30 235 (nI g) (nI w) M) kFU (0, 0) = some (grC a g w (sN a)) := by
  have h8 := hI.1.1.1
  have ha' : M (235 + 1) = a := ha
  refine kEx (kFor (fun s q => q = (grC a g w s, nI s)) (sN a) ?_ ?_ (i0 := 0) (by omega) (by omega) rfl)
  · rintro s _ hs rfl
    refine Or.inl ⟨_, ?_, rfl⟩
    unfold m_Mo_ofGuild_l30
    show Option.bind (rdI M (235 + 1) 108 0) _ = _
    rw [r0, bS, ha', hI.1.1.2, if_neg (by rw [nI_leI (by omega) (by omega)]; omega), of_0, bS, rdN (by omega) (by omega), bS, ha', nI_1]
    have hr : grC a g w (s + 1) = grC a g w s + (if a (5 * s + 1) = nI g ∧ (w = 0 ∨ a (5 * s + 3) ≠ rtA a s) then 1 else 0) := rfl
    rw [hr]
    by_cases c1 : a (5 * s + 1) = nI g
    · rw [if_pos c1]
      by_cases c2 : w = 0
      · rw [if_pos (by rw [c2]; rfl), bS, if_pos ⟨c1, Or.inl c2⟩]
      · have hw := Mwrong (v := 235) (M := M) (s := s) (by rw [ha']; exact hI.1) (by rw [ha']; exact hs)
        rw [ha'] at hw
        rw [if_neg (nI_ne0 (by omega) (by omega)), hw, bS]
        by_cases c3 : a (5 * s + 3) = rtA a s
        · rw [if_pos c3, if_pos rfl, bS, if_neg (fun z => z.2.elim c2 (fun w => w c3))]
        · rw [if_neg c3, if_neg u10, bS, if_pos ⟨c1, Or.inr c3⟩]
    · rw [if_neg c1, bS, if_neg (fun z => c1 z.1)]
  · rintro _ rfl
    refine ⟨_, ?_, rfl⟩
    unfold m_Mo_ofGuild_l30
    show Option.bind (rdI M (235 + 1) 108 0) _ = _
    rw [r0, bS, ha', hI.1.1.2, if_pos (Int32.le_refl _)]
theorem reqGuild_y {g : Nat} (hg : g < 4) : m_SR_requireGuild (nI g) = some none := by
  unfold m_SR_requireGuild
  rw [if_neg (nI_pos (by omega)), if_pos (show nI g < 4 from (nI_ltI (b := 4) (by omega) (by omega)).mpr hg)]
theorem reqGuild_n {p : Int32} (h : p < nI 0 ∨ nI 3 < p) : m_SR_requireGuild p = some (some eI) := by
  unfold m_SR_requireGuild
  by_cases c0 : p < 0
  · rw [if_pos c0]
  · rw [if_neg c0, if_neg]
    intro c4
    obtain ⟨j, hj, rfl⟩ := nI_of c0
    have c3 := h.elim (fun z => (c0 z).elim) id
    rw [nI_ltI (by omega) (by omega)] at c3
    rw [show (4 : Int32) = nI 4 from rfl, nI_ltI (by omega) (by omega)] at c4
    omega
def guV (a : Row) (g j : Nat) : Int32 := match j with
  | 0 => grC a g 0 (sN a) | 1 => grC a g 1 (sN a) | 2 => a (98 + g) | _ => a (102 + g)
theorem pub_guildOf {M : KMem} (h : GI M) (p0 p1 : Int32) : Pub M [eI, eA] (wm M (m_SR_guildOf 0 p0 p1 M)) (m_Mo_guildOf 235 p0 p1) := by
  have h' := h
  obtain ⟨H, k, S, kp, len, T, hc, hm⟩ := h'
  have hI := hc.1
  have k9 := hc.2.1.2.2.2.1
  rcases in_c p0 (lo := 0) (hi := 3) (by omega) (by omega) with ⟨g, g1, g2, rfl, e0⟩ | ⟨g0, e0⟩
  · rcases in_c p1 (lo := 0) (hi := 3) (by omega) (by omega) with ⟨j, j1, j2, rfl, e⟩ | ⟨g1, e⟩
    · have hj : j = 0 ∨ j = 1 ∨ j = 2 ∨ j = 3 := by omega
      refine pub_r (v := guV (M 236) g j) h ?_ (fun M7 => Option.bind (Option.bind (m_Mo_ofGuild 235 (nI g) (nI j) M7) fun x12 => some x12) fun t8 => some (t8, M7)) (fun M1 eM => ?_) (fun M7 e7 => ?_)
      · unfold m_SR_guildOf wm
        rw [reqGuild_y (by omega), bS]
        show kOk (Option.map _ (if nI j < 0 then _ else (if nI j ≤ 3 then _ else _))) _
        rw [if_neg (nI_pos (by omega)), if_pos (show nI j ≤ 3 from (nI_leI (b := 3) (by omega) (by omega)).mpr j2)]
        show kOk (Option.map _ (Option.bind (m_Tw_numberOfGuild 3 (nI g) (nI j) M) _)) _
        have key : m_Tw_numberOfGuild 3 (nI g) (nI j) M = some (guV (M 236) g j) := by
          unfold m_Tw_numberOfGuild
          rw [if_neg (nI_pos (by omega)), if_pos (show nI g < 4 from (nI_ltI (b := 4) (by omega) (by omega)).mpr (by omega))]
          rcases hj with rfl | rfl | rfl | rfl
          · rw [if_pos (by decide), show m_Tw_signsOfGuild 3 (nI g) 0 M = _ from Cguild (w := 0) hc.2.1 hI (by omega)]; rfl
          · rw [if_neg (by decide), if_pos (by decide), show m_Tw_signsOfGuild 3 (nI g) 1 M = _ from Cguild (w := 1) hc.2.1 hI (by omega)]; rfl
          · rw [if_neg (by decide), if_neg (by decide), if_pos (by decide), rdN (by omega) (by omega), bS, (k9 g (by omega)).1]; rfl
          · rw [if_neg (by decide), if_neg (by decide), if_neg (by decide), rdN (by omega) (by omega), bS, (k9 g (by omega)).2]; rfl
        rw [key]
        exact kOk_i ⟨rfl, frS.rf⟩
      · unfold m_Mo_guildOf
        rw [show m_Mo_in (nI g) 0 3 = some 1 from e0, bS, if_neg u10, show m_Mo_in (nI j) 0 3 = some 1 from e, bS, if_neg u10, bS, Mholds_0, bS]
        show Option.bind (if (1 : Int32) = 0 then _ else _) _ = _
        rw [if_neg u10]
      · have key : m_Mo_ofGuild 235 (nI g) (nI j) M7 = some (guV (M 236) g j) := by
          unfold m_Mo_ofGuild
          have e7' : M7 (235 + 1) = M 236 := e7
          rcases hj with rfl | rfl | rfl | rfl
          · rw [if_pos (by decide), Mguild e7 hI (by omega) (by omega)]; rfl
          · rw [if_pos (by decide), Mguild e7 hI (by omega) (by omega)]; rfl
          · rw [if_neg (by decide), if_pos (by decide), bS, show (98 : Int32) + nI g = nI (98 + g) from nI_add _ _, rdN (by omega) (by omega), bS, e7']; rfl
          · rw [if_neg (by decide), if_neg (by decide), bS, show (102 : Int32) + nI g = nI (102 + g) from nI_add _ _, rdN (by omega) (by omega), bS, e7']; rfl
        rw [key]
        exact kOk_i ⟨rfl, frS.rf⟩
    · refine pub_no h eA 1 rfl ?_ ?_
      · unfold m_SR_guildOf wm
        rw [reqGuild_y (by omega), bS]
        show Option.map _ (if p1 < 0 then _ else (if p1 ≤ 3 then _ else _)) = _
        by_cases c0 : p1 < 0
        · rw [if_pos c0]; rfl
        · rw [if_neg c0, if_neg (show ¬ p1 ≤ 3 from ge_of (n := 3) c0 g1)]; rfl
      · unfold m_Mo_guildOf
        rw [show m_Mo_in (nI g) 0 3 = some 1 from e0, bS, if_neg u10, show m_Mo_in p1 0 3 = some 0 from e, bS, if_pos rfl, bS, show m_Mo_holds 235 2 M = _ from Mholds_n (by decide) M, bS]
        rfl
  · refine pub_no h eI 0 rfl ?_ ?_
    · unfold m_SR_guildOf wm
      rw [reqGuild_n g0]
      rfl
    · unfold m_Mo_guildOf
      rw [show m_Mo_in p0 0 3 = some 0 from e0, bS, if_pos rfl, bS, show m_Mo_holds 235 1 M = _ from Mholds_n (by decide) M, bS]
      rfl
theorem pub_setting {M : KMem} (h : GI M) (p0 : Int32) : Pub M [eA] (wm M (m_SR_setting 0 p0 M)) (m_Mo_setting 235 p0) := by
  have h' := h
  obtain ⟨H, k, S, kp, len, T, hc, hm⟩ := h'
  rcases in_c p0 (lo := 0) (hi := 1) (by omega) (by omega) with ⟨j, j1, j2, rfl, e⟩ | ⟨g1, e⟩
  · refine pub_r (v := M 236 (106 + j)) h ?_ (fun M7 => Option.bind (Option.bind (rdI M7 (235 + 1) 108 (106 + nI j)) fun x14 => some x14) fun t8 => some (t8, M7)) (fun M1 eM => ?_) (fun M7 e7 => ?_)
    · unfold m_SR_setting wm
      rw [reqSet_y (by omega), bS]
      show kOk (Option.map _ (Option.bind (rdI M 15 2 (nI j)) _)) _
      rw [rdN (by omega) (by omega), bS]
      refine kOk_i ⟨?_, frS.rf⟩
      show Sum.inr (M 15 j) = _
      rw [show M 15 j = M 236 (106 + j) from hc.2.1.set (by omega)]
    · unfold m_Mo_setting
      rw [show m_Mo_in (nI j) 0 1 = some 1 from e, bS, if_neg u10, bS, Mholds_0, bS]
      show Option.bind (if (1 : Int32) = 0 then _ else _) _ = _
      rw [if_neg u10]
    · rw [show (106 : Int32) + nI j = nI (106 + j) from nI_add _ _, rdN (by omega) (by omega), bS, bS]
      refine kOk_i ⟨?_, frS.rf⟩
      show M7 236 _ = _
      rw [e7]
  · refine pub_no h eA 0 rfl ?_ ?_
    · unfold m_SR_setting wm
      rw [reqSet_n g1]
      rfl
    · unfold m_Mo_setting
      rw [show m_Mo_in p0 0 1 = some 0 from e, bS, if_pos rfl, bS, show m_Mo_holds 235 1 M = _ from Mholds_n (by decide) M, bS]
      rfl
theorem pub_right {M : KMem} (h : GI M) (p0 p1 : Int32) : Pub M [eI, eA] (m_SR_right 0 p0 p1 M) (m_Mo_right 235 p0 p1) := by
  have h' := h
  obtain ⟨H, k, S, kp, len, T, hc, hm⟩ := h'
  have hI := hc.1
  have h8 := hI.1.1.1
  rcases reqSign_c h p0 with ⟨s, s1, rfl, e1, e2, e3⟩ | ⟨e1, e2⟩
  · rcases in_c p1 (lo := 0) (hi := 1) (by omega) (by omega) with ⟨j, j1, j2, rfl, e⟩ | ⟨g1, e⟩
    · refine pub_r (v := rtA (M 236) s) h ?_ (fun M7 => Option.bind (Option.bind (m_Mo_rightOf 235 (nI s) M7) fun x12 => some x12) fun t8 => some (t8, M7)) (fun M1 eM => ?_) (fun M7 e7 => ?_)
      · obtain ⟨k1, k2, k3, k4, k5, k6⟩ := hc.2.1.2.2.1 s s1
        have hw := (hI.1.2.2.2 s s1).2.1
        have hspell : ∀ w : Nat, w ≤ 1 → kOk (m_Tw_spelled 3 (nI s) (nI w) M) (fun q => q.1 = rtA (M 236) s ∧ frS (scr 3) M q.2) := fun w hw1 => by
          unfold m_Tw_spelled
          rw [e3, bS, if_neg u10, rdN (by omega) (by omega), bS, k2]
          by_cases w0 : w = 0
          · rw [if_pos (by rw [w0]; rfl), spelling_ok hc.2.1 hI.1 hw, bS, bS]
            exact kOk_i ⟨rfl, frS.rf⟩
          · rw [if_neg (nI_ne0 (by omega) (by omega))]
            refine kPair ?_
            refine kWk _ (flow_w (u := 3 + 15) (p0 := 3 + 2) hI.1.2.1.1 (hc.2.1.d hI.1) (okR_congr hc.2.1.R hI.1.2.2.1) (by omega) hw) ?_
            rintro ⟨x, M1⟩ ⟨q1, q2⟩
            refine ⟨q1.trans ?_, q2.wk (fun o ho => Or.inr (Or.inl ho))⟩
            exact spR_congr (R := M (3 + 2 + 1)) (R' := rD (M 236)) _ _ hc.2.1.R
        unfold m_SR_right
        rw [e1, bS]
        show kOk (if nI j = 0 then _ else (if nI j = 1 then _ else _)) _
        by_cases j0 : j = 0
        · subst j0
          rw [if_pos (by decide), if_neg (by decide), bS]
          refine kB _ (hspell 0 (by omega)) ?_
          rintro ⟨x, M1⟩ ⟨q1, q2⟩
          exact kOk_i ⟨congrArg Sum.inr q1, q2⟩
        · have j01 : j = 1 := by omega
          subst j01
          rw [if_neg (by decide), if_pos (by decide), if_pos (by decide), bS]
          refine kB _ (hspell 1 (by omega)) ?_
          rintro ⟨x, M1⟩ ⟨q1, q2⟩
          exact kOk_i ⟨congrArg Sum.inr q1, q2⟩
      · unfold m_Mo_right
        rw [isSign_eq (M := M) eM, e2, bS, if_neg u10, show m_Mo_in (nI j) 0 1 = some 1 from e, bS, if_neg u10, bS, Mholds_0, bS]
        show Option.bind (if (1 : Int32) = 0 then _ else _) _ = _
        rw [if_neg u10]
      · have e7' : M7 (235 + 1) = M 236 := e7
        rw [Mright (v := 235) (M := M7) (s := s) (by rw [e7']; exact hI.1) (by rw [e7']; exact s1), e7']
        exact kOk_i ⟨rfl, frS.rf⟩
    · refine pub_no h eA 1 rfl ?_ ?_
      · unfold m_SR_right
        rw [e1, bS]
        show (if p1 = 0 then _ else (if p1 = 1 then _ else _)) = _
        have n0 : ¬ p1 = 0 := fun z => by rw [z] at g1; revert g1; decide
        have n1 : ¬ p1 = 1 := fun z => by rw [z] at g1; revert g1; decide
        rw [if_neg n0, if_neg n1]
      · unfold m_Mo_right
        rw [e2, bS, if_neg u10, show m_Mo_in p1 0 1 = some 0 from e, bS, if_pos rfl, bS, show m_Mo_holds 235 2 M = _ from Mholds_n (by decide) M, bS]
        rfl
  · refine pub_no h eI 0 rfl ?_ ?_
    · unfold m_SR_right
      rw [e1]
      rfl
    · unfold m_Mo_right
      rw [e2, bS, if_pos rfl, bS, show m_Mo_holds 235 1 M = _ from Mholds_n (by decide) M, bS]
      rfl
theorem pub_apart {M : KMem} (h : GI M) (p0 p1 : Int32) : Pub M [eI] (m_SR_apart 0 p0 p1 M) (m_Mo_apart 235 p0 p1) := by
  have h' := h
  obtain ⟨H, k, S, kp, len, T, hc, hm⟩ := h'
  have hI := hc.1
  have h8 := hI.1.1.1
  rcases reqSign_c h p0 with ⟨s, s1, rfl, e1, e2, e3⟩ | ⟨e1, e2⟩
  · rcases reqSign_c h p1 with ⟨t, t1, rfl, f1, f2, f3⟩ | ⟨f1, f2⟩
    · refine pub_r (v := nI (lv (rtA (M 236) s) (rtA (M 236) t))) h ?_ (fun M7 => Option.bind (Option.bind (m_Mo_rightOf 235 (nI s) M7) fun x13 => Option.bind (m_Mo_rightOf 235 (nI t) M7) fun x15 => Option.bind (m_Mo_apartOf 235 x13 x15 M7) fun (x17, M18) => some (x17, M18)) fun (t8, M9) => some (t8, M9)) (fun M1 eM => ?_) (fun M7 e7 => ?_)
      · have k4 := (hc.2.1.2.2.1 s s1).2.2.2.1
        have l4 := (hc.2.1.2.2.1 t t1).2.2.2.1
        unfold m_SR_apart
        rw [e1, bS]
        show kOk (Option.bind (m_SR_requireSign 0 (nI t) M) _) _
        rw [f1, bS]
        show kOk (Option.bind (m_Tw_spellingsApart 3 (nI s) (nI t) M) _) _
        unfold m_Tw_spellingsApart
        rw [e3, bS, if_neg u10, f3, bS, if_neg u10, rdN (by omega) (by omega), bS, rdN (by omega) (by omega), bS, k4, l4]
        obtain ⟨⟨x, M1⟩, e, q1, q2⟩ := measured_w (u := 3 + 13) (M := M) (rt_vW hI.1 s1) (rt_vW hI.1 t1)
        rw [e]
        exact kOk_i ⟨congrArg Sum.inr q1, q2.wk (fun o ho => Or.inl ho)⟩
      · unfold m_Mo_apart
        rw [isSign_eq (M := M) eM, e2, bS, if_neg u10, isSign_eq (M := M) eM, f2, bS, if_neg u10, bS, Mholds_0, bS]
        show Option.bind (if (1 : Int32) = 0 then _ else _) _ = _
        rw [if_neg u10]
      · have e7' : M7 (235 + 1) = M 236 := e7
        rw [Mright (v := 235) (M := M7) (s := s) (by rw [e7']; exact hI.1) (by rw [e7']; exact s1), e7', bS, Mright (v := 235) (M := M7) (s := t) (by rw [e7']; exact hI.1) (by rw [e7']; exact t1), e7', bS]
        exact kPair (apartOf_w (u := 235) (rt_vW hI.1 s1) (rt_vW hI.1 t1))
    · refine pub_no h eI 0 rfl ?_ ?_
      · unfold m_SR_apart
        rw [e1, bS]
        show Option.bind (m_SR_requireSign 0 p1 M) _ = _
        rw [f1]
        rfl
      · unfold m_Mo_apart
        rw [e2, bS, if_neg u10, f2, bS, if_pos rfl, bS, show m_Mo_holds 235 1 M = _ from Mholds_n (by decide) M, bS]
        rfl
  · refine pub_no h eI 0 rfl ?_ ?_
    · unfold m_SR_apart
      rw [e1]
      rfl
    · unfold m_Mo_apart
      rw [e2, bS, if_pos rfl, bS, show m_Mo_holds 235 1 M = _ from Mholds_n (by decide) M, bS]
      rfl
