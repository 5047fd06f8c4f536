/-! LAYER 2: why, droppable -/
/-- what the model finds against a decree; its row stays the same in all that counts -/
def whyP (a : Row) (k x y z : Int32) (M : KMem) : Int32 × KMem → Prop := fun q => (∃ b : Row, sN b = sN a ∧ (∀ s, s < sN a → b (5 * s + 1) = a (5 * s + 1) ∧ rtA b s = dz k x y z (rtA a s)) ∧ q.1 = hind b) ∧ LE a (q.2 236) ∧ frS (fun o => o = 236 ∨ o = 242 ∨ o = 243) M q.2
theorem Mw_few {a : Row} {k x y z : Int32} {M : KMem} (hl : LE a (M 236)) (hI : Inv a) (hd : okD k x y z) (hm : dN a < 10) :
    kOk (Option.bind (m_Mo_gives 235 k x y z M) fun (x5, M6) => Option.bind (rdI M6 (235 + 1) 108 41) fun x8 => Option.bind (α := Int32) (if x5 = 0 then (some 1) else (some 0)) fun t9 => Option.bind (wrI M6 (235 + 1) 108 41 (x8 - t9)) fun M12 => some (x5, M12)) (whyP a k x y z M) := by
  have hIr := hl.inv hI
  have hm' : dN (M 236) < 10 := by rw [hl.n.2]; exact hm
  have h8 := hIr.1.1.1
  refine kB _ (Mgives (v := 235) hIr.1 hm' hd) ?_
  rintro ⟨r, M6⟩ ⟨q1, q2, q3⟩
  simp only at q1 q2 q3
  subst q1
  have q2' : M6 236 = givesA (M 236) k x y z := q2
  show kOk (Option.bind (rdI M6 236 108 41) _) _
  rw [r41, bS, bI, w41, bS, q2']
  have hB : hind (givesB (M (235 + 1)) k x y z) = hind (givesB (M 236) k x y z) := rfl
  rw [hB]
  obtain ⟨n1, n2⟩ := givesB_n (a := M 236) (k := k) (x := x) (y := y) (z := z) h8 hIr.1.2.1.1
  refine kOk_i ⟨⟨givesB (M 236) k x y z, n1.trans hl.n.1, fun s hs => ⟨?_, ?_⟩, rfl⟩, ?_, frS.k (q3.wk (fun o ho => Or.inl ho)) (Or.inl rfl)⟩
  · have hs' : s < sN (M 236) := by rw [hl.n.1]; exact hs
    rw [givesB_out (by omega) (by omega), (hl.l0.2.2.1 s hs).1]
  · have hs' : s < sN (M 236) := by rw [hl.n.1]; exact hs
    rw [givesB_rt h8 hIr.1.2.1.1 hs', hl.rt hs]
  · show LE a (kup M6 236 41 _ 236)
    rw [kup_fn, q2']
    by_cases hz : hind (givesB (M 236) k x y z) = 0
    · rw [if_pos hz, givesA_y hz, givesB_41, nI_pred]
      have e : ∀ i, i ≠ 41 → (i < 42 + 5 * dN (M 236) ∨ 42 + 5 * dN (M 236) + 4 < i) → upd (givesB (M 236) k x y z) 41 (nI (dN (M 236))) i = M 236 i := fun i h1 h2 => by
        rw [pk_un h1, givesB_out h1 h2]
      have hdd := hl.n.2
      have hss := hl.n.1
      refine ⟨?_, ?_, fun i hi => ?_, fun i hi => ?_, fun i h1 h2 => ?_⟩
      · rw [e 0 (by omega) (by omega)]; exact hl.1
      · rw [pk_us, ← hIr.1.2.1.2]; exact hl.2.1
      · rw [e _ (by omega) (by omega)]; exact hl.2.2.1 i hi
      · rw [e _ (by omega) (by omega)]; exact hl.2.2.2.1 i hi
      · rw [e _ (by omega) (by omega)]; exact hl.2.2.2.2 i h1 h2
    · rw [if_neg hz, show ∀ v : Int32, v - 0 = v from fun v => Int32.sub_zero v, upd_id]
      have h2 := givesA_n hIr.1 hm' hz
      refine ⟨h2.1.trans hl.1, h2.2.1.trans hl.2.1, fun i hi => ?_, fun i hi => ?_, fun i h3 h4 => ?_⟩
      · exact (h2.2.2.1 i (by rw [hl.n.1]; exact hi)).trans (hl.2.2.1 i hi)
      · exact (h2.2.2.2.1 i (by rw [hl.n.2]; exact hi)).trans (hl.2.2.2.1 i hi)
      · exact (h2.2.2.2.2 i h3 h4).trans (hl.2.2.2.2 i h3 h4)
/-- ten decrees in force -/
theorem Mw_more {a : Row} {k x y z : Int32} {M : KMem} (hl : LE a (M 236)) (hI : Inv a) (hd : okD k x y z) (hm : dN a = 10) : kOk (m_Mo_wouldHinderMore 235 k x y z M) (whyP a k x y z M) := by
  have hIr := hl.inv hI
  have h8 := hIr.1.1.1
  have hss := hl.n.1
  have hdd := hl.n.2
  unfold m_Mo_wouldHinderMore
  refine kB _ (Mkeeps (v := 235)) ?_
  rintro M2 ⟨g1, g2⟩
  have e2 : M2 236 = M 236 := g2 236 (by omega)
  have i2 : InvB (M2 236) := by rw [e2]; exact hIr.1
  -- the words as they are right
  refine kB (fun M' => (∀ s, s < sN (M 236) → M' 243 s = rtA (M 236) s) ∧ frS (fun o => o = 243) M2 M') (kFor (fun s q => ∃ M1, q = (nI s, M1) ∧ (∀ t, t < s → M1 243 t = rtA (M 236) t) ∧ frS (fun o => o = 243) M2 M1) (sN (M 236)) ?_ ?_ (i0 := 0) (by omega) (by omega) ⟨M2, rfl, fun t ht => by omega, frS.rf⟩) ?_
  · rintro s _ hs ⟨M1, rfl, f1, f2⟩
    have e1 : M1 (235 + 1) = M 236 := (f2 236 (by omega)).trans e2
    refine Or.inl ⟨(nI (s + 1), kup M1 243 s (rtA (M 236) s)), ?_, _, rfl, fun t ht => ?_, frS.k f2 rfl⟩
    · unfold m_Mo_wouldHinderMore_l7
      show Option.bind (rdI M1 (235 + 1) 108 0) _ = _
      rw [r0, bS, e1, hIr.1.1.2, if_neg (by rw [nI_leI (by omega) (by omega)]; omega), Mright (v := 235) (by rw [e1]; exact hIr.1) (by rw [e1]; exact hs), bS, e1, wrN (by omega) (by omega), bS, nI_1]
    · by_cases hts : t = s
      · subst hts; rw [kup_s]
      · rw [kup_j _ _ _ hts]; exact f1 t (by omega)
  · rintro _ ⟨M1, rfl, f1, f2⟩
    have e1 : M1 (235 + 1) = M 236 := (f2 236 (by omega)).trans e2
    refine ⟨M1, ?_, f1, f2⟩
    unfold m_Mo_wouldHinderMore_l7
    show Option.bind (rdI M1 (235 + 1) 108 0) _ = _
    rw [r0, bS, e1, hIr.1.1.2, if_pos (Int32.le_refl _)]
  rintro M12 ⟨f1, f2⟩
  have e12 : M12 236 = M 236 := (f2 236 (by omega)).trans e2
  show kOk (Option.bind (wrI M12 236 108 41 0) _) _
  rw [w41, bS]
  have e14 : kup M12 236 41 0 (235 + 1) = upd (M 236) 41 0 := by show kup M12 236 41 0 236 = _; rw [kup_fn, e12]
  have d14 : dN (kup M12 236 41 0 (235 + 1)) = 0 := by rw [e14]; exact dN_of (n := 0) pk_us (by omega)
  refine kB _ (Mputs (v := 235) (by rw [d14]; omega) (by rw [d14, e14, pk_us]; rfl)) ?_
  rintro M16 ⟨p1, p2⟩
  rw [e14] at p1
  have d0 : dN (upd (M 236) 41 0) = 0 := dN_of (n := 0) pk_us (by omega)
  -- the row with the one decree
  have p16 : ∀ i, i ≠ 41 → (i < 42 ∨ 46 < i) → M16 236 i = M 236 i := fun i h1 h2 => by
    rw [show M16 236 = _ from p1, givesB_out h1 (by rw [d0]; omega), pk_un h1]
  have p41 : M16 236 41 = nI 1 := by rw [show M16 236 = _ from p1, givesB_41, d0]
  have pj := givesB_j (upd (M 236) 41 0) k x y z
  rw [d0] at pj
  have f16 : ∀ s, s < sN (M 236) → M16 243 s = rtA (M 236) s := fun s hs => by
    rw [p2 243 (by omega), kup_n _ _ _ (by omega)]; exact f1 s hs
  -- words put there
  refine kB (fun M' => (∀ i, M' 236 i = if i < 5 * sN (M 236) ∧ i % 5 = 2 then rtA (M 236) (i / 5) else M16 236 i) ∧ (∀ s, s < sN (M 236) → M' 243 s = M 236 (5 * s + 2)) ∧ frS (fun o => o = 236 ∨ o = 243) M16 M') (kFor (fun s q => ∃ M1, q = (nI s, M1) ∧ (∀ i, M1 236 i = if i < 5 * s ∧ i % 5 = 2 then rtA (M 236) (i / 5) else M16 236 i) ∧ (∀ t, t < s → M1 243 t = M 236 (5 * t + 2)) ∧ (∀ t, s ≤ t → M1 243 t = M16 243 t) ∧ frS (fun o => o = 236 ∨ o = 243) M16 M1) (sN (M 236)) ?_ ?_ (i0 := 0) (by omega) (by omega) ⟨M16, rfl, fun i => by rw [if_neg (by omega)], fun t ht => by omega, fun t _ => rfl, frS.rf⟩) ?_
  · rintro s _ hs ⟨M1, rfl, c1, c2, c3, c4⟩
    have c0 : M1 (235 + 1) 0 = nI (sN (M 236)) := by
      refine (c1 0).trans ?_
      rw [if_neg (by omega), p16 0 (by omega) (by omega)]; exact hIr.1.1.2
    have cw : M1 (235 + 1) (5 * s + 2) = M 236 (5 * s + 2) := by
      refine (c1 (5 * s + 2)).trans ?_
      rw [if_neg (by omega), p16 _ (by omega) (by omega)]
    have cr : M1 (235 + 8) s = rtA (M 236) s := (c3 s (Nat.le_refl _)).trans (f16 s hs)
    refine Or.inl ⟨(nI (s + 1), kup (kup M1 236 (5 * s + 2) (rtA (M 236) s)) 243 s (M 236 (5 * s + 2))), ?_, _, rfl, fun i => ?_, fun t ht => ?_, fun t ht => ?_, frS.k (frS.k c4 (Or.inl rfl)) (Or.inr rfl)⟩
    · unfold m_Mo_wouldHinderMore_l57
      show Option.bind (rdI M1 (235 + 1) 108 0) _ = _
      rw [r0, bS, c0, if_neg (by rw [nI_leI (by omega) (by omega)]; omega), of_1, bS, rdN (by omega) (by omega), bS, cw, bS, rdN (by omega) (by omega), bS, cr, wrN (by omega) (by omega), bS, wrN (by omega) (by omega), bS, nI_1]
    · rw [kup_n _ _ _ (by omega)]
      by_cases hi : i = 5 * s + 2
      · subst hi
        rw [kup_s, if_pos (by omega), show (5 * s + 2) / 5 = s by omega]
      · rw [kup_j _ _ _ hi, c1]
        by_cases h3 : i < 5 * s ∧ i % 5 = 2
        · rw [if_pos h3, if_pos (by omega)]
        · rw [if_neg h3, if_neg (by omega)]
    · by_cases hts : t = s
      · subst hts; rw [kup_s]
      · rw [kup_j _ _ _ hts, kup_n _ _ _ (by omega)]; exact c2 t (by omega)
    · rw [kup_j _ _ _ (by omega), kup_n _ _ _ (by omega)]; exact c3 t (by omega)
  · rintro _ ⟨M1, rfl, c1, c2, c3, c4⟩
    have c0 : M1 (235 + 1) 0 = nI (sN (M 236)) := by
      refine (c1 0).trans ?_
      rw [if_neg (by omega), p16 0 (by omega) (by omega)]; exact hIr.1.1.2
    refine ⟨M1, ?_, c1, c2, c4⟩
    unfold m_Mo_wouldHinderMore_l57
    show Option.bind (rdI M1 (235 + 1) 108 0) _ = _
    rw [r0, bS, c0, if_pos (Int32.le_refl _)]
  rintro M34 ⟨c1, c2, c4⟩
  have cN : sN (M34 236) = sN (M 236) := sN_of (by rw [c1 0, if_neg (by omega), p16 0 (by omega) (by omega)]; exact hIr.1.1.2) (by omega)
  have cD : M34 236 41 = nI 1 := by rw [c1 41, if_neg (by omega)]; exact p41
  have cd1 : dN (M34 236) = 1 := dN_of cD (by omega)
  have c16 : ∀ i, (5 * sN (M 236) ≤ i ∨ i % 5 ≠ 2) → M34 236 i = M16 236 i := fun i hi => by rw [c1 i, if_neg (by omega)]
  have cw : ∀ s, s < sN (M 236) → M34 236 (5 * s + 2) = rtA (M 236) s := fun s hs => by rw [c1, if_pos (by omega), show (5 * s + 2) / 5 = s by omega]
  have cg : ∀ s, s < sN (M 236) → M34 236 (5 * s + 1) = M 236 (5 * s + 1) ∧ M34 236 (5 * s + 3) = M 236 (5 * s + 3) := fun s hs => by
    refine ⟨?_, ?_⟩
    · rw [c16 _ (by omega), p16 _ (by omega) (by omega)]
    · rw [c16 _ (by omega), p16 _ (by omega) (by omega)]
  have ck : M34 236 42 = k ∧ M34 236 43 = x ∧ M34 236 44 = y ∧ M34 236 45 = z := by
    have q : ∀ i, 41 < i → M34 236 i = givesB (upd (M 236) 41 0) k x y z i := fun i hi => by rw [c16 i (by omega), show M16 236 = _ from p1]
    exact ⟨(q 42 (by omega)).trans pj.1, (q 43 (by omega)).trans pj.2.1, (q 44 (by omega)).trans pj.2.2.1, (q 45 (by omega)).trans pj.2.2.2.1⟩
  have hB : InvB (M34 236) := by
    refine ⟨⟨by rw [cN]; exact h8, by rw [cN, c16 0 (by omega), p16 0 (by omega) (by omega)]; exact hIr.1.1.2⟩, ⟨by rw [cd1]; omega, by rw [cd1]; exact cD⟩, ?_, fun s hs => ?_⟩
    · rw [cd1]
      intro q hq
      have : q = 0 := by omega
      subst this
      show okD (M34 236 42) (M34 236 43) (M34 236 44) (M34 236 45)
      rw [ck.1, ck.2.1, ck.2.2.1, ck.2.2.2]
      exact hd
    · rw [cN] at hs
      rw [cw s hs, (cg s hs).1, (cg s hs).2]
      exact ⟨(hIr.1.2.2.2 s hs).1, rt_vW hIr.1 hs, (hIr.1.2.2.2 s hs).2.2⟩
  rw [Mhindrance (v := 235) hB, bS]
  -- the words go back
  refine kB (fun M' => (∀ i, M' 236 i = if i < 5 * sN (M 236) ∧ i % 5 = 2 then M 236 i else M34 236 i) ∧ frS (fun o => o = 236) M34 M') (kFor (fun s q => ∃ M1, q = (nI s, M1) ∧ (∀ i, M1 236 i = if i < 5 * s ∧ i % 5 = 2 then M 236 i else M34 236 i) ∧ frS (fun o => o = 236) M34 M1) (sN (M 236)) ?_ ?_ (i0 := 0) (by omega) (by omega) ⟨M34, rfl, fun i => by rw [if_neg (by omega)], frS.rf⟩) ?_
  · rintro s _ hs ⟨M1, rfl, v1, v2⟩
    have c0 : M1 (235 + 1) 0 = nI (sN (M 236)) := by
      refine (v1 0).trans ?_
      rw [if_neg (by omega), c16 0 (by omega), p16 0 (by omega) (by omega)]; exact hIr.1.1.2
    have cr : M1 (235 + 8) s = M 236 (5 * s + 2) := by
      show M1 243 s = _
      rw [v2 243 (by omega)]; exact c2 s hs
    refine Or.inl ⟨(nI (s + 1), kup M1 236 (5 * s + 2) (M 236 (5 * s + 2))), ?_, _, rfl, fun i => ?_, frS.k v2 rfl⟩
    · unfold m_Mo_wouldHinderMore_l123
      show Option.bind (rdI M1 (235 + 1) 108 0) _ = _
      rw [r0, bS, c0, if_neg (by rw [nI_leI (by omega) (by omega)]; omega), of_1, bS, rdN (by omega) (by omega), bS, cr, wrN (by omega) (by omega), bS, nI_1]
    · by_cases hi : i = 5 * s + 2
      · subst hi
        rw [kup_s, if_pos (by omega)]
      · rw [kup_j _ _ _ hi, v1]
        by_cases h3 : i < 5 * s ∧ i % 5 = 2
        · rw [if_pos h3, if_pos (by omega)]
        · rw [if_neg h3, if_neg (by omega)]
  · rintro _ ⟨M1, rfl, v1, v2⟩
    have c0 : M1 (235 + 1) 0 = nI (sN (M 236)) := by
      refine (v1 0).trans ?_
      rw [if_neg (by omega), c16 0 (by omega), p16 0 (by omega) (by omega)]; exact hIr.1.1.2
    refine ⟨M1, ?_, v1, v2⟩
    unfold m_Mo_wouldHinderMore_l123
    show Option.bind (rdI M1 (235 + 1) 108 0) _ = _
    rw [r0, bS, c0, if_pos (Int32.le_refl _)]
  rintro M48 ⟨v1, v2⟩
  refine kB _ (Mrestores (v := 235)) ?_
  rintro M50 ⟨t1, t2⟩
  have F16 : frS (fun o => o = 236 ∨ o = 242 ∨ o = 243) M M16 := (((g2.wk (fun o (ho : o = 235 + 7) => Or.inr (Or.inl ho))).tr (f2.wk (fun o ho => Or.inr (Or.inr ho)))).tr (frS.up (S := fun o => o = 236 ∨ o = 242 ∨ o = 243) (Or.inl rfl))).tr (p2.wk (fun o (ho : o = 235 + 1) => Or.inl ho))
  have F48 : frS (fun o => o = 236 ∨ o = 242 ∨ o = 243) M M48 := (F16.tr (c4.wk (fun o ho => ho.elim Or.inl (fun z => Or.inr (Or.inr z))))).tr (v2.wk (fun o ho => Or.inl ho))
  have k7 : ∀ j, j < 51 → M48 (235 + 7) j = M 236 (41 + j) := fun j hj => by
    show M48 242 j = _
    rw [v2 242 (by omega), c4 242 (by omega), p2 242 (by omega), kup_n _ _ _ (by omega), f2 242 (by omega)]
    exact g1 j hj
  have fin : ∀ i, i < 108 → M50 236 i = M 236 i := fun i hi => by
    rw [show M50 236 = _ from t1]
    show (if 41 ≤ i ∧ i < 92 then M48 (235 + 7) (i - 41) else M48 236 i) = _
    by_cases hi2 : 41 ≤ i ∧ i < 92
    · rw [if_pos hi2, k7 _ (by omega), show 41 + (i - 41) = i by omega]
    · rw [if_neg hi2, v1]
      by_cases h3 : i < 5 * sN (M 236) ∧ i % 5 = 2
      · rw [if_pos h3]
      · rw [if_neg h3, c16 i (by omega), p16 i (by omega) (by omega)]
  have hl2 : LE (M 236) (M50 236) := LE.of h8 hIr.1.2.1.1 fin
  refine kOk_i ⟨⟨M34 236, cN.trans hss, fun s hs => ?_, rfl⟩, ?_, F48.tr (t2.wk (fun o (ho : o = 235 + 1) => Or.inl ho))⟩
  · have hs' : s < sN (M 236) := by rw [hss]; exact hs
    refine ⟨by rw [(cg s hs').1, (hl.l0.2.2.1 s hs).1], ?_⟩
    unfold rtA
    rw [cd1, cw s hs']
    show dzR (rD (M34 236)) 0 (rtA (M 236) s) = _
    unfold dzR
    show dz (M34 236 42) (M34 236 43) (M34 236 44) (M34 236 45) _ = _
    rw [ck.1, ck.2.1, ck.2.2.1, ck.2.2.2, hl.rt hs]
    rfl
  · refine ⟨hl2.1.trans hl.1, hl2.2.1.trans hl.2.1, fun i hi => ?_, fun i hi => ?_, fun i h3 h4 => ?_⟩
    · exact (hl2.2.2.1 i (by rw [hl.n.1]; exact hi)).trans (hl.2.2.1 i hi)
    · exact (hl2.2.2.2.1 i (by rw [hl.n.2]; exact hi)).trans (hl.2.2.2.1 i hi)
    · exact (hl2.2.2.2.2 i h3 h4).trans (hl.2.2.2.2 i h3 h4)
theorem Mwould {a : Row} {k x y z : Int32} {M : KMem} (hl : LE a (M 236)) (hI : Inv a) (hd : okD k x y z) : kOk (m_Mo_wouldHinder 235 k x y z M) (whyP a k x y z M) := by
  have hIr := hl.inv hI
  unfold m_Mo_wouldHinder
  show kOk (Option.bind (rdI M 236 108 41) _) _
  rw [r41, bS, hIr.1.2.1.2, hl.n.2]
  by_cases h10 : dN a = 10
  · rw [if_pos (by rw [h10]; rfl)]
    refine kB _ (Mw_more hl hI hd h10) ?_
    rintro ⟨r, M1⟩ hq
    exact kOk_i hq
  · have hd10 := hI.1.2.1.1
    rw [if_neg (by rw [show (10 : Int32) = nI 10 from rfl, nI_eq (by omega) (by omega)]; exact h10)]
    exact Mw_few hl hI hd (by omega)
theorem pub_why {M : KMem} (h : GI M) (p0 p1 p2 p3 : Int32) : Pub M [eA] (m_SR_why 0 p0 p1 p2 p3 M) (m_Mo_why 235 p0 p1 p2 p3) := by
  have h' := h
  obtain ⟨H, k, S, kp, len, T, hc, hm⟩ := h'
  have hI := hc.1
  rcases args_c p0 p1 p2 p3 with ⟨b1, b2, hd⟩ | ⟨b1, b2⟩
  · obtain ⟨⟨r, M1⟩, e, g1, g2, g3⟩ := against_ok hc.2.1 hI.1 hd
    simp only at g1 g2 g3
    refine pub_q (v := r) h ?_ (fun M1 eM => ?_)
    · unfold m_SR_why m_SR_requireDecreeArguments
      rw [b1, bS, if_neg u10, bS]
      show kOk (Option.bind (m_Tw_reasonAgainstDecree 3 p0 p1 p2 p3 M) _) _
      rw [e]
      exact kOk_i ⟨rfl, g3.wk (fun o ho => Or.inr (Or.inr ho))⟩
    · unfold m_Mo_why
      rw [b2, bS, if_neg u10, bS, Mholds_0, bS]
      show kOk (Option.bind (if (1 : Int32) = 0 then _ else _) _) _
      rw [if_neg u10]
      have e7 : (kup M1 235 0 0) 236 = M 236 := by rw [kup_n _ _ _ (by omega)]; exact eM
      refine kPair (kWk _ (Mwould (a := M 236) (by rw [e7]; exact LE.rf) hI hd) ?_)
      rintro ⟨r', M2⟩ ⟨⟨b, c1, c2, c3⟩, c4, c5⟩
      simp only at c3 c4 c5
      refine ⟨?_, ?_, c4, (frS.up (Or.inl rfl)).tr (c5.wk (fun o (ho : o = 236 ∨ o = 242 ∨ o = 243) => by show o = 235 ∨ o = 236 ∨ o = 241 ∨ o = 242 ∨ o = 243; omega)), fun j hj => ?_⟩
      · show r' = r
        rw [c3, g1 b c1 c2]
      · show M2 235 0 = 0
        rw [c5 235 (by omega), kup_s]
      · show M2 235 j = _
        rw [c5 235 (by omega), kup_j _ _ _ (by omega)]
  · refine pub_no h eA 0 rfl ?_ ?_
    · unfold m_SR_why m_SR_requireDecreeArguments
      rw [b1, bS, if_pos rfl]
      rfl
    · unfold m_Mo_why
      rw [b2, bS, if_pos rfl, bS, show m_Mo_holds 235 1 M = _ from Mholds_n (by decide) M, bS]
      rfl
/-- answers of methods that throw nothing -/
def Pub0 (M : KMem) (oc : Option (Int32 × KMem)) (om : KMem → Option (Int32 × KMem)) : Prop :=
  ∃ v M1, oc = some (v, M1) ∧ frS clO M M1 ∧ ∃ M2, om M1 = some (v, M2) ∧ frS moO M1 M2 ∧ GI M2
theorem pub_droppable {M : KMem} (h : GI M) : Pub0 M (m_SR_droppable 0 M) (m_Mo_droppable 235) := by
  obtain ⟨H, k, S, kp, len, T, hc, hm⟩ := h
  have hI := hc.1
  have od : ∀ i, i < 6 → okD 0 (nI (i + 1)) 0 0 := fun i hi => ⟨0, i + 1, 0, 0, ⟨by omega, ⟨by omega, by omega⟩, by omega, by omega, fun e => by omega⟩, rfl, rfl, rfl, rfl⟩
  -- the reasons, by any row that shows them
  have key : ∃ R : Nat → Int32, (∀ i, i < 6 → ∀ b : Row, sN b = sN (M 236) → (∀ s, s < sN (M 236) → b (5 * s + 1) = M 236 (5 * s + 1) ∧ rtA b s = dz 0 (nI (i + 1)) 0 0 (rtA (M 236) s)) → R i = hind b) ∧ ∀ i, i < 6 → ∀ M1, frS (fun o => o = 20) M M1 → ∃ M2, m_Tw_reasonAgainstDecree 3 0 (nI (i + 1)) 0 0 M1 = some (R i, M2) ∧ frS (fun o => o = 20) M M2 := by
    have q : ∀ i, ∃ r, i < 6 → ∃ M2, m_Tw_reasonAgainstDecree 3 0 (nI (i + 1)) 0 0 M = some (r, M2) ∧ ∀ b : Row, sN b = sN (M 236) → (∀ s, s < sN (M 236) → b (5 * s + 1) = M 236 (5 * s + 1) ∧ rtA b s = dz 0 (nI (i + 1)) 0 0 (rtA (M 236) s)) → r = hind b := fun i => by
      by_cases hi : i < 6
      · obtain ⟨⟨r, M2⟩, e, g1, g2, g3⟩ := against_ok hc.2.1 hI.1 (od i hi)
        exact ⟨r, fun _ => ⟨M2, e, g1⟩⟩
      · exact ⟨0, fun z => (hi z).elim⟩
    refine ⟨fun i => (q i).choose, fun i hi b h1 h2 => ?_, fun i hi M1 hf => ?_⟩
    · obtain ⟨M2, -, h3⟩ := (q i).choose_spec hi
      exact h3 b h1 h2
    · obtain ⟨M2', -, h3⟩ := (q i).choose_spec hi
      have c1 : CR (M 236) 3 M1 := hc.2.1.fr hf (fun o ho => by omega)
      obtain ⟨⟨r, M2⟩, e, g1, g2, g3⟩ := against_ok c1 hI.1 (od i hi)
      simp only at g1 g3
      refine ⟨M2, ?_, hf.tr g3⟩
      rw [e]
      obtain ⟨b, b0, b41, b1, b2⟩ := mkRow (M 236) (sN (M 236)) (fun s => dz 0 (nI (i + 1)) 0 0 (rtA (M 236) s))
      have h8 := hI.1.1.1
      have hb : sN b = sN (M 236) ∧ ∀ s, s < sN (M 236) → b (5 * s + 1) = M 236 (5 * s + 1) ∧ rtA b s = dz 0 (nI (i + 1)) 0 0 (rtA (M 236) s) := by
        refine ⟨sN_of b0 (by omega), fun s hs => ⟨b1 s (by omega), ?_⟩⟩
        unfold rtA
        rw [dN_of b41 (by omega), b2 s (by omega)]
        rfl
      have e1 : r = hind b := g1 b hb.1 hb.2
      have e2 : (q i).choose = hind b := h3 b hb.1 hb.2
      rw [e1, ← e2]
  obtain ⟨R, R1, R2⟩ := key
  let V : Nat → Int32 := fun n => Nat.rec 0 (fun i v => v ||| (if R i = 0 then jshl 1 (nI i) else 0)) n
  have hV : ∀ i, V (i + 1) = V i ||| (if R i = 0 then jshl 1 (nI i) else 0) := fun i => rfl
  have hcls : kOk (m_SR_droppable 0 M) (fun q => q.1 = V 6 ∧ frS (fun o => o = 20) M q.2) := by
    unfold m_SR_droppable
    refine kB (fun q => q.1 = V 6 ∧ frS (fun o => o = 20) M q.2) (kFor (fun i q => ∃ M1, q = (V i, nI (i + 1), M1) ∧ frS (fun o => o = 20) M M1) 6 ?_ ?_ (i0 := 0) (by omega) (by omega) ⟨M, rfl, frS.rf⟩) (fun x hx => kOk_i hx)
    · rintro i _ hi ⟨M1, rfl, f1⟩
      obtain ⟨M2, e, f2⟩ := R2 i hi M1 f1
      refine Or.inl ⟨(V (i + 1), nI (i + 1 + 1), M2), ?_, M2, rfl, f2⟩
      unfold m_SR_droppable_l4
      show (if 6 < nI (i + 1) then _ else Option.bind (m_Tw_reasonAgainstDecree 3 0 (nI (i + 1)) 0 0 M1) _) = _
      rw [if_neg (by rw [show (6 : Int32) = nI 6 from rfl, nI_ltI (by omega) (by omega)]; omega), e, bS]
      show Option.bind (if R i = 0 then some (V i ||| jshl 1 (nI (i + 1) - 1)) else some (V i)) _ = _
      rw [bI, nI_pred, nI_1, hV]
      by_cases hr : R i = 0
      · rw [if_pos hr, if_pos hr]
      · rw [if_neg hr, if_neg hr, Int32.or_zero]
    · rintro _ ⟨M1, rfl, f1⟩
      exact ⟨(V 6, M1), rfl, rfl, f1⟩
  obtain ⟨⟨v, M1⟩, e1, r1, r2⟩ := hcls
  simp only at r1 r2
  subst r1
  have hf : frS clO M M1 := r2.wk (fun o ho => by omega)
  have hmod : kOk (m_Mo_droppable 235 M1) (fun q => q.1 = V 6 ∧ LE (M 236) (q.2 236) ∧ frS moQ M1 q.2 ∧ ∀ j, j = 4 ∨ j = 6 ∨ j = 8 → q.2 235 j = M1 235 j) := by
    unfold m_Mo_droppable
    rw [bS]
    have e7 : (kup M1 235 0 0) 236 = M 236 := by rw [kup_n _ _ _ (by omega)]; exact hf 236 (by omega)
    refine kB (fun q => q.1 = V 6 ∧ LE (M 236) (q.2 236) ∧ frS moQ M1 q.2 ∧ ∀ j, j = 4 ∨ j = 6 ∨ j = 8 → q.2 235 j = M1 235 j) (kFor (fun i q => ∃ M2, q = (V i, nI (i + 1), M2) ∧ LE (M 236) (M2 236) ∧ frS moQ M1 M2 ∧ ∀ j, j = 4 ∨ j = 6 ∨ j = 8 → M2 235 j = M1 235 j) 6 ?_ ?_ (i0 := 0) (by omega) (by omega) ⟨_, rfl, by rw [e7]; exact LE.rf, frS.up (Or.inl rfl), fun j hj => kup_j _ _ _ (by omega)⟩) (fun x hx => kOk_i hx)
    · rintro i _ hi ⟨M2, rfl, f1, f2, f3⟩
      obtain ⟨⟨r, M3⟩, e, ⟨b, c1, c2, c3⟩, c4, c5⟩ := Mwould f1 hI (od i hi)
      simp only at c3 c4 c5
      have hr : r = R i := by rw [c3, R1 i hi b c1 c2]
      subst hr
      refine Or.inl ⟨(V (i + 1), nI (i + 1 + 1), M3), ?_, M3, rfl, c4, f2.tr (c5.wk (fun o (ho : o = 236 ∨ o = 242 ∨ o = 243) => by show o = 235 ∨ o = 236 ∨ o = 241 ∨ o = 242 ∨ o = 243; omega)), fun j hj => by rw [c5 235 (by omega)]; exact f3 j hj⟩
      unfold m_Mo_droppable_l9
      show (if 6 < nI (i + 1) then _ else Option.bind (m_Mo_wouldHinder 235 0 (nI (i + 1)) 0 0 M2) _) = _
      rw [if_neg (by rw [show (6 : Int32) = nI 6 from rfl, nI_ltI (by omega) (by omega)]; omega), e, bS]
      show Option.bind (if R i = 0 then some (jshl 1 (nI (i + 1) - 1)) else some 0) _ = _
      rw [bI, nI_pred, nI_1, hV]
    · rintro _ ⟨M2, rfl, f1, f2, f3⟩
      exact ⟨(V 6, M2), rfl, rfl, f1, f2, f3⟩
  obtain ⟨⟨v', M2⟩, e2, s1, s2, s3, s4⟩ := hmod
  simp only at s1 s2 s3 s4
  subst s1
  have s3' : frS moO M1 M2 := s3.wk (fun o ho => by omega)
  exact ⟨_, _, e1, hf, M2, e2, s3', H, k, S, kp, len, T, ((hc.fr (r2.wk (fun o ho => by omega)) (congrFun (r2 1 (by omega)) 1)).mo s3').le s2, (hm.cl hf.q).q s3 s4⟩
