/-! P30: why a decree cannot be given, and that it is so -/
theorem wN_0 {l : List Nat} (h : wl l) (hl : l.length ≤ 8) (e : wN l = 0) : l = [] := by
  have h1 := (wR_0 (wl_rev.mpr h) (by simpa using hl)).mp e
  simpa using h1
theorem dcJ_ne {a b c : Nat} : ∀ {l : List Nat}, l ≠ [] → dcJ a b c l ≠ [] := by
  intro l h
  match l, h with
  | [d], _ => simp [dcJ]
  | d :: e :: l, _ =>
    simp only [dcJ]
    split <;> simp
theorem dcS_ne {a : Nat} (ha : 1 ≤ a) {l : List Nat} (h : l ≠ []) : dcS a 0 l ≠ [] := by
  match l, h with
  | d :: l, _ =>
    simp only [dcS]
    rw [if_neg (fun z => by omega)]
    simp
theorem dz_ne {k : Nat} {x y z w : Int32} (hd : okD (nI k) x y z) (hk : k < 3) (h0 : k ≠ 0) (hw : vW w) (hz : w ≠ 0) : dz (nI k) x y z w ≠ 0 := by
  obtain ⟨k', a', b', c', hN, hk', rfl, rfl, rfl⟩ := hd
  have hkk : k = k' := (nI_eq (by omega) (okN4_b hN).1).mp hk'
  subst hkk
  obtain ⟨h1, h2, h3⟩ := vW_dg hw
  obtain ⟨h4, h5⟩ := dcl_wl hN h1
  have hne : dg w ≠ [] := fun e => hz (by rw [h3, e]; rfl)
  rw [dz_nI hN]
  intro e
  have h6 := wN_0 h4 (by omega) e
  unfold dcl at h6
  rw [if_neg h0] at h6
  by_cases k1 : k = 1
  · rw [if_pos k1] at h6
    exact dcJ_ne hne h6
  · rw [if_neg k1] at h6
    exact dcS_ne hN.2.1.1 hne h6
theorem why_none {a : Row} {k x y z : Int32} (h : sN a = 0) : whyV a k x y z = 0 := by
  rcases whyV_c a k x y z with ⟨-, s, hs, -⟩ | ⟨-, -, s, hs, -⟩ | ⟨e, -⟩
  · omega
  · omega
  · exact e
theorem why_n1 {a : Row} {k : Nat} {x y z : Int32} (hI : Inv a) (hd : okD (nI k) x y z) (hk : k < 3) (h0 : k ≠ 0) : whyV a (nI k) x y z ≠ 1 := by
  rcases whyV_c a (nI k) x y z with ⟨-, s, hs, e⟩ | ⟨e, -⟩ | ⟨e, -⟩
  · exact (dz_ne hd hk h0 (rt_vW hI.1 hs) (hI.2.1.1 s hs) e).elim
  · rw [e]; decide
  · rw [e]; decide
theorem why_3 (a : Row) (k x y z : Int32) : ¬ whyV a k x y z < 0 ∧ ¬ 3 ≤ whyV a k x y z := by
  rcases whyV_c a k x y z with ⟨e, -⟩ | ⟨e, -⟩ | ⟨e, -⟩ <;> rw [e] <;> decide
theorem canBe_y {k l b c : Nat} {y z : Int32} (hk : k < 3) (hl : l < 6) (hb : b < 6) (hc : c < 6) (hy : y = if k = 1 then nI (b + 1) else 0) (hz : z = if k = 1 then nI (c + 1) else 0) : m_De_canBe (nI k) (nI (l + 1)) y z = some 1 := by
  unfold m_De_canBe
  rw [if_neg (nI_pos (by omega)), if_neg (by rw [show (2 : Int32) = nI 2 from rfl, nI_ltI (by omega) (by omega)]; omega), WisLetter_n (by omega), if_pos ⟨by omega, by omega⟩, bS, if_neg u10]
  by_cases k1 : k = 1
  · rw [if_pos k1] at hy hz
    subst hy; subst hz
    rw [if_pos (by rw [k1]; rfl), WisLetter_n (by omega), if_pos ⟨by omega, by omega⟩, bS, if_neg u10, WisLetter_n (by omega), if_pos ⟨by omega, by omega⟩]
    rfl
  · rw [if_neg k1] at hy hz
    subst hy; subst hz
    rw [if_neg (show ¬ nI k = 1 from fun e => k1 ((nI_eq (b := 1) (by omega) (by omega)).mp e)), if_pos rfl, if_pos rfl]
    rfl
/-- a decree that may be asked for: given or refused; 10 are in force -/
noncomputable abbrev givR (a : Row) (k x y z : Int32) : Row := upd (givesA a k x y z) 97 (givesA a k x y z 97 + (if hind (givesB a k x y z) = 0 then 0 else 1))
theorem dec_y {t : Nat} {a : Row} {H : Nat → Row} {kk : Nat} {k x y z : Int32} {M : KMem} (h : GO t a H kk M) (ht : t ≤ 235) (b1 : m_De_canBe k x y z = some 1) (n1 : dN a < 10) :
    kOk (m_La_decrees t k x y z 470 1 M) (fun q => q.1 = 0 ∧ GO t (givR a k x y z) (pushH H kk a) (min kk 13 + 1) q.2 ∧ q.2 470 0 = hind (givesB a k x y z) ∧ frS (fun o => rg t o ∨ o = 470) M q.2) := by
  have hI := h.1
  have h10 := hI.1.2.1.1
  have hd := canBe_of b1
  have hA := nx_gives hI n1 hd
  have hd4 : M (t + 5) 0 = nI (dN a) := h.2.1.d hI.1
  have key : kOk (m_SR_decree t k x y z M) (fun q => q.1 = .inr (hind (givesB a k x y z)) ∧ GO t (givR a k x y z) (pushH H kk a) (min kk 13 + 1) q.2 ∧ frS (rg t) M q.2) := by
    unfold m_SR_decree m_SR_requireDecreeArguments
    rw [b1, bS, if_neg u10, bS]
    show kOk (Option.bind (m_De_areFull (t + 5) M) _) _
    rw [areFull_ok hd4 h10, if_neg (by omega), bS, if_pos rfl]
    refine kB _ (Gacts (a' := givR a k x y z) h) ?_
    rintro M9 ⟨c1, c3⟩
    refine kB _ (give_ok c1 hI.1 hd n1) ?_
    rintro ⟨r, M12⟩ ⟨b1, b2, b3⟩
    simp only at b1 b2 b3
    subst b1
    refine kB _ (counted_ok (u := t + 3) (r := hind (givesB a k x y z)) b2 hA.1.1) ?_
    rintro ⟨r, M15⟩ ⟨d1, d2, d3⟩
    simp only at d1 d2 d3
    subst d1
    have := c3 M15 (b3.tr d3) (inv_97 hA.1) d2
    exact kOk_i ⟨rfl, this.1, this.2⟩
  unfold m_La_decrees
  refine kB _ key ?_
  rintro ⟨r, M1⟩ ⟨h1, h2, h3⟩
  simp only at h1 h2 h3
  subst h1
  dsimp only
  rw [w470, bS]
  exact kOk_i ⟨rfl, h2.fr (S := fun o => o = 470) (frS.up rfl) (fun o ho => by omega), show kup M1 470 0 (hind (givesB a k x y z)) 470 0 = _ from kup_s _ _ _ _, (h3.wk (fun o ho => Or.inl ho)).tr (frS.up (Or.inr rfl))⟩
theorem dec_n {t : Nat} {a : Row} {H : Nat → Row} {kk : Nat} {k x y z : Int32} {M : KMem} (h : GO t a H kk M) (b1 : m_De_canBe k x y z = some 1) (n1 : dN a = 10) : m_La_decrees t k x y z 470 1 M = some (3, M) := by
  have hI := h.1
  have h10 := hI.1.2.1.1
  have hd4 : M (t + 5) 0 = nI (dN a) := h.2.1.d hI.1
  have key : m_SR_decree t k x y z M = some (.inl eS, M) := by
    unfold m_SR_decree m_SR_requireDecreeArguments
    rw [b1, bS, if_neg u10, bS]
    show Option.bind (m_De_areFull (t + 5) M) _ = _
    rw [areFull_ok hd4 h10, if_pos (by omega), bS, if_neg u10]
  unfold m_La_decrees
  rw [key, bS]
  dsimp only
  rw [if_neg (by decide), if_pos rfl]
theorem why_ok {a : Row} {H : Nat → Row} {k0 kd : Nat} {p2 : Int32} {M : KMem} (h : GO 0 a H k0 M) (hk : kd < 3) :
    kOk (m_La_isWhySo 0 (nI kd) p2 470 1 M) (fun q => q.1 = 1 ∧ (∃ H' k', GO 0 a H' k' q.2) ∧ frS (fun o => rg 0 o ∨ o = 470) M q.2) := by
  have hI := h.1
  have h8 := hI.1.1.1
  have h10 := hI.1.2.1.1
  have kk := h.k.1
  obtain ⟨l, hl, e1⟩ := low_ok p2 (n := 6) (by omega) (by omega)
  obtain ⟨b, hb, e2⟩ := low_ok (jshr p2 3) (n := 6) (by omega) (by omega)
  obtain ⟨c, hc, e3⟩ := low_ok (jshr p2 6) (n := 6) (by omega) (by omega)
  have p1 : (nI kd = 1) ↔ kd = 1 := nI_eq (b := 1) (by omega) (by omega)
  have p0 : (nI kd = 0) ↔ kd = 0 := nI_eq (b := 0) (by omega) (by omega)
  obtain ⟨y, hy, e4⟩ : ∃ y : Int32, (y = if kd = 1 then nI (b + 1) else 0) ∧ (if nI kd = 1 then (Option.bind (m_La_low (jshr p2 3) 6) fun x136 => (some (1 + x136) : Option Int32)) else some 0) = some y := by
    refine ⟨_, rfl, ?_⟩
    by_cases hk1 : kd = 1
    · rw [if_pos hk1, if_pos (p1.mpr hk1), show m_La_low (jshr p2 3) 6 = _ from e2, bS, show (1 : Int32) + nI b = nI (1 + b) from nI_add 1 b, Nat.add_comm]
    · rw [if_neg hk1, if_neg (fun z => hk1 (p1.mp z))]
  obtain ⟨z, hz, e5⟩ : ∃ y : Int32, (y = if kd = 1 then nI (c + 1) else 0) ∧ (if nI kd = 1 then (Option.bind (m_La_low (jshr p2 6) 6) fun x136 => (some (1 + x136) : Option Int32)) else some 0) = some y := by
    refine ⟨_, rfl, ?_⟩
    by_cases hk1 : kd = 1
    · rw [if_pos hk1, if_pos (p1.mpr hk1), show m_La_low (jshr p2 6) 6 = _ from e3, bS, show (1 : Int32) + nI c = nI (1 + c) from nI_add 1 c, Nat.add_comm]
    · rw [if_neg hk1, if_neg (fun z => hk1 (p1.mp z))]
  have ex : (1 : Int32) + nI l = nI (l + 1) := by rw [show (1 : Int32) + nI l = nI (1 + l) from nI_add 1 l, Nat.add_comm]
  have hcb := canBe_y hk hl hb hc hy hz
  have hd := canBe_of hcb
  have hV3 := why_3 a (nI kd) (nI (l + 1)) y z
  have hVc := whyV_c a (nI kd) (nI (l + 1)) y z
  have hVn : sN a = 0 → whyV a (nI kd) (nI (l + 1)) y z = 0 := fun e => why_none e
  have hV1 : kd ≠ 0 → whyV a (nI kd) (nI (l + 1)) y z ≠ 1 := fun e => why_n1 hI hd hk e
  have hVd : kd = 0 → whyV a 0 (nI (l + 1)) 0 0 = whyV a (nI kd) (nI (l + 1)) y z := fun e => by
    subst e
    rw [hy, hz]
    rfl
  have hVh : dN a < 10 → hind (givesB a (nI kd) (nI (l + 1)) y z) = whyV a (nI kd) (nI (l + 1)) y z := fun hm =>
    hind_why (givesB_n h8 h10).1 (fun s hs => ⟨givesB_out (by omega) (by omega), givesB_rt h8 h10 hs⟩)
  unfold m_La_isWhySo
  rw [show m_La_low p2 6 = _ from e1, bS, e4, bS, e5, bS, ex]
  have F : frS (scr (0 + 3)) M M := frS.rf
  refine kAsk F (q_why (h.sc F) hcb) (fun M1 F => ?_)
  generalize whyV a (nI kd) (nI (l + 1)) y z = V at *
  dsimp only
  refine kAsk F (q_about (j := 1) (h.sc F) (by omega)) (fun M1 F => ?_)
  dsimp only
  refine kAsk F (q_about (j := 8) (h.sc F) (by omega)) (fun M1 F => ?_)
  dsimp only
  have tailQ : ∀ M1, frS (scr (0 + 3)) M M1 → kOk (Option.bind (m_Sn_about 0 0 M1) fun x => if 0 < x.1 then some ((1 : Int32), x.2) else if V = 0 then some (1, x.2) else some (0, x.2)) (fun q => q.1 = 1 ∧ frS (scr (0 + 3)) M q.2) := fun M1 F => by
    refine kAsk F (q_about (j := 0) (h.sc F) (by omega)) (fun M1 F => ?_)
    dsimp only
    by_cases hs : sN a = 0
    · rw [if_pos (hVn hs)]
      split <;> exact kOk_i ⟨rfl, F⟩
    · rw [if_pos (show 0 < abV a 0 from by
        rw [show abV a 0 = nI (sN a) from hI.1.1.2]
        exact (nI_ltI (a := 0) (by omega) (by omega)).mpr (by omega))]
      exact kOk_i ⟨rfl, F⟩
  refine kB (fun q => q.1 = 1 ∧ frS (scr (0 + 3)) M q.2) ?_ ?_
  · rw [if_neg hV3.1, if_neg hV3.2]
    by_cases hk0 : kd = 0
    · rw [if_pos (p0.mpr hk0)]
      refine kB _ (q_droppable (h.sc F)) ?_
      rintro ⟨D, M2⟩ ⟨d1, d2⟩
      have F2 := F.tr d2
      dsimp only at d1 ⊢
      have d3 := d1 l hl
      rw [hVd hk0] at d3
      rw [bI, nI_pred, d3, if_pos rfl, if_pos (p0.mpr hk0)]
      exact tailQ M2 F2
    · rw [if_neg (fun z => hk0 (p0.mp z)), if_neg (fun z => hk0 (p0.mp z)), if_neg (hV1 hk0)]
      exact tailQ M1 F
  rintro ⟨x, M1⟩ ⟨r1, F⟩
  simp only at r1 F
  subst r1
  dsimp only
  have hx : (abV a 1 = 10) ↔ dN a = 10 := by
    rw [show abV a 1 = nI (dN a) from hI.1.2.1.2]
    exact nI_eq (b := 10) (by omega) (by omega)
  by_cases hm : dN a = 10
  · rw [dec_n (h.sc F) hcb hm, bS]
    dsimp only
    rw [if_pos (hx.mpr hm), if_neg u10, if_pos rfl]
    refine kB (fun q => q.1 = 1 ∧ frS (scr (0 + 3)) M q.2) ?_ ?_
    · refine kAsk F (q_about (j := 1) (h.sc F) (by omega)) (fun M1 F => ?_)
      dsimp only
      rw [if_pos (hx.mpr hm)]
      refine kAsk F (q_about (j := 8) (h.sc F) (by omega)) (fun M1 F => ?_)
      dsimp only
      rw [if_pos rfl]
      exact kOk_i ⟨rfl, F⟩
    · rintro ⟨x, M2⟩ ⟨r1, F⟩
      simp only at r1 F
      subst r1
      dsimp only
      rw [kz_1, bS]
      exact kOk_i ⟨rfl, ⟨H, k0, h.sc F⟩, (scr_rg F).wk (fun o ho => Or.inl ho)⟩
  · have hm' : dN a < 10 := by omega
    refine kB _ (dec_y (h.sc F) (by omega) hcb hm') ?_
    rintro ⟨x, M2⟩ ⟨r1, g, r2, r3⟩
    simp only at r1 g r2 r3
    subst r1
    rw [hVh hm'] at r2
    have F0 : frS (fun o => rg 0 o ∨ o = 470) M M2 := ((scr_rg F).wk (fun o ho => Or.inl ho)).tr r3
    have eG : givR a (nI kd) (nI (l + 1)) y z 41 = abV a 1 + (if V = 0 then 1 else 0) ∧ givR a (nI kd) (nI (l + 1)) y z 97 = a 97 + (if V = 0 then 0 else 1) ∧ givR a (nI kd) (nI (l + 1)) y z 92 = a 92 ∧ (V = 0 → dN a < dN (givR a (nI kd) (nI (l + 1)) y z) ∧ givR a (nI kd) (nI (l + 1)) y z (42 + (5 * dN a + 0)) = nI kd ∧ givR a (nI kd) (nI (l + 1)) y z (42 + (5 * dN a + 1)) = nI (l + 1) ∧ givR a (nI kd) (nI (l + 1)) y z (42 + (5 * dN a + 2)) = y ∧ givR a (nI kd) (nI (l + 1)) y z (42 + (5 * dN a + 3)) = z ∧ givR a (nI kd) (nI (l + 1)) y z (42 + (5 * dN a + 4)) = a 92) := by
      have u41 : givR a (nI kd) (nI (l + 1)) y z 41 = givesA a (nI kd) (nI (l + 1)) y z 41 := pk_un (by omega)
      have u97 : givR a (nI kd) (nI (l + 1)) y z 97 = givesA a (nI kd) (nI (l + 1)) y z 97 + (if hind (givesB a (nI kd) (nI (l + 1)) y z) = 0 then 0 else 1) := pk_us
      have u92 : givR a (nI kd) (nI (l + 1)) y z 92 = givesA a (nI kd) (nI (l + 1)) y z 92 := pk_un (by omega)
      rw [hVh hm'] at u97
      by_cases hv : V = 0
      · have eA := givesA_y (show hind (givesB a (nI kd) (nI (l + 1)) y z) = 0 from (hVh hm').trans hv)
        obtain ⟨j0, j1, j2, j3, j4⟩ := givesB_j a (nI kd) (nI (l + 1)) y z
        have e97 : givesB a (nI kd) (nI (l + 1)) y z 97 = a 97 := givesB_out (by omega) (by omega)
        have e92 : givesB a (nI kd) (nI (l + 1)) y z 92 = a 92 := givesB_out (by omega) (by omega)
        have uo : ∀ i, i ≠ 97 → givR a (nI kd) (nI (l + 1)) y z i = givesB a (nI kd) (nI (l + 1)) y z i := fun i hi => (pk_un hi).trans (congrFun eA i)
        refine ⟨?_, ?_, ?_, fun _ => ⟨?_, ?_, ?_, ?_, ?_, ?_⟩⟩
        · rw [uo 41 (by omega), givesB_41, if_pos hv, show abV a 1 = nI (dN a) from hI.1.2.1.2, nI_1]
        · rw [u97, eA, e97]
        · rw [uo 92 (by omega), e92]
        · rw [show dN (givR a (nI kd) (nI (l + 1)) y z) = dN a + 1 from dN_of ((uo 41 (by omega)).trans (givesB_41 _ _ _ _ _)) (by omega)]
          omega
        · rw [uo _ (by omega)]; exact j0
        · rw [uo _ (by omega), ← Nat.add_assoc]; exact j1
        · rw [uo _ (by omega), ← Nat.add_assoc]; exact j2
        · rw [uo _ (by omega), ← Nat.add_assoc]; exact j3
        · rw [uo _ (by omega), ← Nat.add_assoc]; exact j4
      · have hL := givesA_n hI.1 hm' (show hind (givesB a (nI kd) (nI (l + 1)) y z) ≠ 0 from fun e => hv ((hVh hm').symm.trans e))
        refine ⟨?_, ?_, ?_, fun z => (hv z).elim⟩
        · rw [u41, hL.2.1, if_neg hv, Int32.add_zero]; rfl
        · rw [u97, hL.2.2.2.2 97 (by omega) (by omega)]
        · rw [u92, hL.2.2.2.2 92 (by omega) (by omega)]
    generalize givR a (nI kd) (nI (l + 1)) y z = G at *
    obtain ⟨G1, G2, G3, G4⟩ := eG
    dsimp only
    rw [if_neg (fun z => hm (hx.mp z)), if_neg u10, if_pos rfl, r470, bS, r2, if_pos rfl]
    have F3 : frS (scr (0 + 3)) M2 M2 := frS.rf
    refine kB (fun q => q.1 = 1 ∧ frS (scr (0 + 3)) M2 q.2) ?_ ?_
    · refine kAsk F3 (q_about (j := 1) (g.sc F3) (by omega)) (fun M1 F3 => ?_)
      dsimp only
      rw [bI, if_pos (show abV G 1 = abV a 1 + (if V = 0 then 1 else 0) from G1)]
      refine kAsk F3 (q_about (j := 8) (g.sc F3) (by omega)) (fun M1 F3 => ?_)
      dsimp only
      rw [bI, if_pos (show abV G 8 = abV a 8 + (if V = 0 then 0 else 1) from G2)]
      by_cases hv : V = 0
      · obtain ⟨G5, J0, J1, J2, J3, J4⟩ := G4 hv
        rw [if_neg (by rw [hv]; decide), show abV a 1 = nI (dN a) from hI.1.2.1.2, show m_Sn_decreeOf 0 (nI (dN a)) 0 M1 = _ from q_decreeOf (j := 0) (g.sc F3) G5 (by omega), bS, if_pos J0, show m_Sn_decreeOf 0 (nI (dN a)) 1 M1 = _ from q_decreeOf (j := 1) (g.sc F3) G5 (by omega), bS, if_pos J1, show m_Sn_decreeOf 0 (nI (dN a)) 2 M1 = _ from q_decreeOf (j := 2) (g.sc F3) G5 (by omega), bS, if_pos J2, show m_Sn_decreeOf 0 (nI (dN a)) 3 M1 = _ from q_decreeOf (j := 3) (g.sc F3) G5 (by omega), bS, if_pos J3, show m_Sn_decreeOf 0 (nI (dN a)) 4 M1 = _ from q_decreeOf (j := 4) (g.sc F3) G5 (by omega), bS]
        refine kAsk F3 (q_about (j := 3) (g.sc F3) (by omega)) (fun M1 F3 => ?_)
        dsimp only
        rw [if_pos (show G (42 + (5 * dN a + 4)) = abV G 3 from J4.trans G3.symm)]
        exact kOk_i ⟨rfl, F3⟩
      · rw [if_pos (show 0 < V from by
          rcases hVc with ⟨e, -⟩ | ⟨e, -⟩ | ⟨e, -⟩
          · rw [e]; decide
          · rw [e]; decide
          · exact (hv e).elim)]
        exact kOk_i ⟨rfl, F3⟩
    rintro ⟨x, M3⟩ ⟨r1, F3⟩
    simp only at r1 F3
    subst r1
    dsimp only
    rw [if_neg u10]
    have g3 := g.sc F3
    have uo := undoes_ok g3 (by omega) (by omega)
    rw [push_top kk] at uo
    refine kB (fun q => q.1 = 1 ∧ (∃ H' k', GO 0 a H' k' q.2) ∧ frS (fun o => rg 0 o ∨ o = 470) M q.2) ?_ ?_
    · refine kB _ uo ?_
      rintro ⟨x, M4⟩ ⟨s1, s2, s3, s4⟩
      simp only at s1 s2 s3 s4
      subst s1
      have F4 : frS (scr (0 + 3)) M4 M4 := frS.rf
      have F5 : frS (fun o => rg 0 o ∨ o = 470) M M4 := (F0.tr ((scr_rg F3).wk (fun o ho => Or.inl ho))).tr s4
      dsimp only
      rw [if_pos rfl]
      refine kAsk F4 (q_about (j := 1) (s2.sc F4) (by omega)) (fun M1 F4 => ?_)
      dsimp only
      rw [if_pos rfl]
      refine kAsk F4 (q_about (j := 8) (s2.sc F4) (by omega)) (fun M1 F4 => ?_)
      dsimp only
      rw [if_pos rfl]
      exact kOk_i ⟨rfl, ⟨_, _, s2.sc F4⟩, F5.tr ((scr_rg F4).wk (fun o ho => Or.inl ho))⟩
    · rintro ⟨x, M4⟩ ⟨r1, r2, r3⟩
      simp only at r1 r2 r3
      subst r1
      dsimp only
      rw [kz_1, bS]
      exact kOk_i ⟨rfl, r2, r3⟩
