/-! LAYER 2: the other actions, class and model alike -/
theorem Mif {A B : Option (Int32 × KMem)} {om : Option (Int32 × KMem)} (h : om = Option.bind (if (1 : Int32) = 0 then A else B) fun (t, M) => some (t, M)) : om = Option.bind B fun (t, M) => some (t, M) := by
  rw [h, if_neg u10]
theorem pub_revoke {M : KMem} (h : GI M) (p0 : Int32) : Pub M [eI] (m_SR_revoke 0 p0 M) (m_Mo_revoke 235 p0) := by
  have h' := h
  obtain ⟨H, k, S, kp, len, T, hc, hm⟩ := h'
  have hI := hc.1
  have hd4 := hc.2.1.d hI.1
  have h10 := hI.1.2.1.1
  rcases isDecree_c (v := 235) (M := M) p0 hI.1.2.1.2 (by omega) with ⟨s, s1, rfl, e⟩ | ⟨g1, e⟩
  · have hA : Inv (revA (M 236) s) := revA_inv hI s1
    have hcls : kOk (m_SR_revoke 0 (nI s) M) (fun q => q.1 = .inr (hind (revB (M 236) s)) ∧ CS (upd (revA (M 236) s) 97 (revA (M 236) s 97 + (if hind (revB (M 236) s) = 0 then 0 else 1))) (pushH H k (M 236)) (min k 13 + 1) S kp len T q.2 ∧ frS clO M q.2) := by
      unfold m_SR_revoke m_SR_requireDecree
      show kOk (Option.bind (Option.bind (m_De_has 5 (nI s) M) _) _) _
      rw [has_n hd4 (by omega) (by omega), if_pos s1, bS, if_neg u10, bS]
      refine kB _ (Cacts (a' := upd (revA (M 236) s) 97 (revA (M 236) s 97 + (if hind (revB (M 236) s) = 0 then 0 else 1))) hc) ?_
      rintro M9 ⟨c1, c2, c3⟩
      refine kB _ (take_ok c1 hI.1 s1) ?_
      rintro ⟨x, M12⟩ ⟨b1, b2, b3⟩
      simp only at b1 b2 b3
      subst b1
      refine kB _ (counted_ok (u := 3) (r := hind (revB (M 236) s)) b2 hA.1) ?_
      rintro ⟨y, M15⟩ ⟨d1, d2, d3⟩
      simp only at d1 d2 d3
      subst d1
      have := c3 M15 (b3.tr d3) (inv_97 hA) d2
      exact kOk_i ⟨rfl, this.1, this.2⟩
    obtain ⟨⟨r, M1⟩, e1, r1, r2, r3⟩ := hcls
    simp only at r1 r2 r3
    subst r1
    refine pub_yes e1 r3 r2 (fun M1 r3 => Mtail (c := 114) (p1 := nI s) (p2 := 0) (p3 := 0) (row := revA (M 236) s) hc.k hm r3 ?_ (fun M' h1 h2 h3 h4 h5 => ?_) ?_)
    · unfold m_Mo_revoke
      rw [isDecree_eq (M := M) (r3 236 (by omega)), e, bS, if_neg u10, bS, Mholds_0, bS]
      exact Mif rfl
    · have := Mdoes_r (v := 235) (M := M') (s := s) (by rw [h1]; exact hI.1) h2 h3 (by rw [h1]; exact s1)
      rw [h1] at this
      exact this
    · rw [cnt_h (by unfold rcs; simp)]
      exact LE.rf
  · refine pub_no h eI 0 rfl ?_ ?_
    · unfold m_SR_revoke m_SR_requireDecree m_De_has
      show Option.bind (Option.bind (Option.bind (if p0 < 0 then _ else (if M 5 0 ≤ p0 then _ else _)) _) _) _ = _
      rw [hd4]
      rcases g1 with c | c
      · rw [if_pos c]; rfl
      · by_cases c0 : p0 < 0
        · rw [if_pos c0]; rfl
        · rw [if_neg c0, if_pos c]; rfl
    · unfold m_Mo_revoke
      rw [e, bS, if_pos rfl, bS, show m_Mo_holds 235 1 M = _ from Mholds_n (by decide) M, bS]
      rfl
theorem paintsA_97 {a : Row} (h : InvB a) {s : Nat} (hs : s < sN a) : paintsA a s 97 = a 97 := by
  have h8 := h.1.1
  exact paintsA_out (by omega) (by omega) (by omega) (by omega)
theorem pub_paint {M : KMem} (h : GI M) (p0 : Int32) : Pub M [eI] (m_SR_paint 0 p0 M) (m_Mo_paint 235 p0) := by
  have h' := h
  obtain ⟨H, k, S, kp, len, T, hc, hm⟩ := h'
  have hI := hc.1
  have hn4 := hc.2.1.n hI.1
  have h8 := hI.1.1.1
  rcases isSign_c (v := 235) (M := M) p0 hI.1.1.2 (by omega) with ⟨s, s1, rfl, e⟩ | ⟨g1, e⟩
  · have s1' : s < sN (M 236) := s1
    have hA : Inv (paintsA (M 236) s) := paintsA_inv hI s1
    have hcls : kOk (m_SR_paint 0 (nI s) M) (fun q => q.1 = .inr (coA (M 236) s) ∧ CS (paintsA (M 236) s) (pushH H k (M 236)) (min k 13 + 1) S kp len T q.2 ∧ frS clO M q.2) := by
      unfold m_SR_paint m_SR_requireSign
      show kOk (Option.bind (Option.bind (m_Tw_hasSign 3 (nI s) M) _) _) _
      rw [hasSign_y hn4 h8 s1', bS, if_neg u10, bS]
      refine kB _ (Cacts (a' := paintsA (M 236) s) hc) ?_
      rintro M9 ⟨c1, c2, c3⟩
      refine kB _ (repaint_ok c1 hI.1 s1) ?_
      rintro ⟨x, M12⟩ ⟨b1, b2, b3⟩
      simp only at b1 b2 b3
      subst b1
      have := c3 M12 b3 hA b2
      exact kOk_i ⟨rfl, this.1, this.2⟩
    obtain ⟨⟨r, M1⟩, e1, r1, r2, r3⟩ := hcls
    simp only at r1 r2 r3
    subst r1
    refine pub_yes e1 r3 r2 (fun M1 r3 => Mtail (c := 112) (p1 := nI s) (p2 := 0) (p3 := 0) (row := paintsA (M 236) s) hc.k hm r3 ?_ (fun M' h1 h2 h3 h4 h5 => ?_) ?_)
    · unfold m_Mo_paint
      rw [isSign_eq (M := M) (r3 236 (by omega)), e, bS, if_neg u10, bS, Mholds_0, bS]
      exact Mif rfl
    · have := Mdoes_p (v := 235) (M := M') (s := s) (by rw [h1]; exact hI.1) h2 h3 (by rw [h1]; exact s1)
      rw [h1] at this
      exact this
    · rw [cnt_n (by unfold rcs; decide), Int32.add_zero, upd_id]
      exact LE.rf
  · refine pub_no h eI 0 rfl ?_ ?_
    · unfold m_SR_paint m_SR_requireSign
      show Option.bind (Option.bind (m_Tw_hasSign 3 p0 M) _) _ = _
      rcases hasSign_c p0 hn4 h8 with ⟨s, s1, rfl, e2⟩ | ⟨g2, e2⟩
      · exfalso
        rcases g1 with c | c
        · exact nI_pos (by omega) c
        · have c' : nI (sN (M 236)) ≤ nI s := c
          rw [nI_leI (by omega) (by omega)] at c'; omega
      · rw [e2]; rfl
    · unfold m_Mo_paint
      rw [e, bS, if_pos rfl, bS, show m_Mo_holds 235 1 M = _ from Mholds_n (by decide) M, bS]
      rfl
theorem pub_months {M : KMem} (h : GI M) (p0 : Int32) : Pub M [eA] (m_SR_months 0 p0 M) (m_Mo_months 235 p0) := by
  have h' := h
  obtain ⟨H, k, S, kp, len, T, hc, hm⟩ := h'
  have hI := hc.1
  rcases in_c p0 (lo := 1) (hi := 60) (by omega) (by omega) with ⟨n, n1, n2, rfl, e⟩ | ⟨g1, e⟩
  · have hA := monsA_inv hI n
    have hcls : kOk (m_SR_months 0 (nI n) M) (fun q => q.1 = .inr (monsA (M 236) n 95 - M 236 95) ∧ CS (monsA (M 236) n) (pushH H k (M 236)) (min k 13 + 1) S kp len T q.2 ∧ frS clO M q.2) := by
      unfold m_SR_months
      rw [if_neg (by rw [show (1 : Int32) = nI 1 from rfl, nI_ltI (by omega) (by omega)]; omega), if_pos (by rw [show (60 : Int32) = nI 60 from rfl, nI_leI (by omega) (by omega)]; omega)]
      refine kB _ (Cacts (a' := monsA (M 236) n) hc) ?_
      rintro M9 ⟨c1, c2, c3⟩
      refine kB _ (months_ok (n := n) c1 hI (by omega)) ?_
      rintro ⟨x, M12⟩ ⟨b1, b2, b3⟩
      simp only at b1 b2 b3
      subst b1
      have := c3 M12 b3 hA b2
      exact kOk_i ⟨rfl, this.1, this.2⟩
    obtain ⟨⟨r, M1⟩, e1, r1, r2, r3⟩ := hcls
    simp only at r1 r2 r3
    subst r1
    refine pub_yes e1 r3 r2 (fun M1 r3 => Mtail (c := 109) (p1 := nI n) (p2 := 0) (p3 := 0) (row := monsA (M 236) n) hc.k hm r3 ?_ (fun M' h1 h2 h3 h4 h5 => ?_) ?_)
    · unfold m_Mo_months
      rw [show m_Mo_in (nI n) 1 60 = some 1 from e, bS, if_neg u10, bS, Mholds_0, bS]
      exact Mif rfl
    · have := Mdoes_m (v := 235) (M := M') (n := n) (by rw [h1]; exact hI) h2 h3 n1 n2
      rw [h1] at this
      exact this
    · rw [cnt_n (by unfold rcs; decide), Int32.add_zero, upd_id]
      exact LE.rf
  · refine pub_no h eA 0 rfl ?_ ?_
    · unfold m_SR_months
      by_cases c0 : p0 < 1
      · rw [if_pos c0]
      · rw [if_neg c0, if_neg (show ¬ p0 ≤ 60 from fun z => Int32.not_le.mpr (g1.elim (fun w => (c0 w).elim) id) z)]
    · unfold m_Mo_months
      rw [show m_Mo_in p0 1 60 = some 0 from e, bS, if_pos rfl, bS, show m_Mo_holds 235 1 M = _ from Mholds_n (by decide) M, bS]
      rfl
theorem pub_amnesty {M : KMem} (h : GI M) (p0 : Int32) : Pub M [eA, eS] (m_SR_amnesty 0 p0 M) (m_Mo_amnesty 235 p0) := by
  have h' := h
  obtain ⟨H, k, S, kp, len, T, hc, hm⟩ := h'
  have hI := hc.1
  have no : ∀ {e : Int32}, e ≠ 0 → m_Mo_errorOfAmnesty 235 p0 M = some e → m_Mo_amnesty 235 p0 M = some (0, kup M 235 0 e) := fun {e} he h1 => by
    unfold m_Mo_amnesty
    rw [h1, bS, Mholds_n he, bS]
    rfl
  have i1 : ∀ n, 1 ≤ n → n ≤ 9 → ¬ nI n < 1 ∧ nI n ≤ 9 := fun n h1 h2 => by
    rw [show (1 : Int32) = nI 1 from rfl, nI_ltI (by omega) (by omega), show (9 : Int32) = nI 9 from rfl, nI_leI (by omega) (by omega)]
    omega
  rcases errAmn_c (v := 235) (M := M) p0 with ⟨n, n1, n2, rfl, hcf, e⟩ | ⟨g1, e⟩ | ⟨n, n1, n2, rfl, hcf, e⟩
  · have hA := sparesA_inv (n := n) hI n2
    have hcls : kOk (m_SR_amnesty 0 (nI n) M) (fun q => q.1 = .inr (wrC (sparesA (M 236) (nI n)) (sN (sparesA (M 236) (nI n)))) ∧ CS (sparesA (M 236) (nI n)) (pushH H k (M 236)) (min k 13 + 1) S kp len T q.2 ∧ frS clO M q.2) := by
      unfold m_SR_amnesty
      rw [if_neg (i1 n n1 n2).1, if_pos (i1 n n1 n2).2]
      show kOk (Option.bind (m_Tw_canForgive 3 M) _) _
      rcases canForgive_c hc.2.1 with ⟨f1, f2⟩ | ⟨f1, f2⟩
      · rw [f2, bS, if_neg u10]
        refine kB _ (Cacts (a' := sparesA (M 236) (nI n)) hc) ?_
        rintro M9 ⟨c1, c2, c3⟩
        refine kB _ (forgive_ok (n := n) c1 hI n2 hcf) ?_
        rintro ⟨x, M12⟩ ⟨b1, b2, b3⟩
        simp only at b1 b2 b3
        subst b1
        have := c3 M12 b3 hA b2
        exact kOk_i ⟨rfl, this.1, this.2⟩
      · exact (f1 hcf).elim
    obtain ⟨⟨r, M1⟩, e1, r1, r2, r3⟩ := hcls
    simp only at r1 r2 r3
    subst r1
    refine pub_yes e1 r3 r2 (fun M1 r3 => Mtail (c := 121) (p1 := nI n) (p2 := 0) (p3 := 0) (row := sparesA (M 236) (nI n)) hc.k hm r3 ?_ (fun M' h1 h2 h3 h4 h5 => ?_) ?_)
    · unfold m_Mo_amnesty
      rw [errAmn_eq (M := M) (r3 236 (by omega)), e, bS, Mholds_0, bS]
      exact Mif rfl
    · have := Mdoes_y (v := 235) (M := M') (n := n) (by rw [h1]; exact hI) h2 h3 n1 n2 (by rw [h1]; exact hcf)
      rw [h1] at this
      exact this
    · rw [cnt_n (by unfold rcs; decide), Int32.add_zero, upd_id]
      exact LE.rf
  · refine pub_no h eA 0 rfl ?_ (no (by decide) e)
    unfold m_SR_amnesty
    by_cases c0 : p0 < 1
    · rw [if_pos c0]
    · rw [if_neg c0, if_neg (show ¬ p0 ≤ 9 from fun z => Int32.not_le.mpr (g1.elim (fun w => (c0 w).elim) id) z)]
  · refine pub_no h eS 1 rfl ?_ (no (by decide) e)
    unfold m_SR_amnesty
    rw [if_neg (i1 n n1 n2).1, if_pos (i1 n n1 n2).2]
    show Option.bind (m_Tw_canForgive 3 M) _ = _
    rcases canForgive_c hc.2.1 with ⟨f1, f2⟩ | ⟨f1, f2⟩
    · exact (hcf f1).elim
    · rw [f2, bS, if_pos rfl]
theorem inv_set {a : Row} {j x : Nat} (h : Inv a) (hj : j < 2) (hx : x ≤ 20) : Inv (upd a (106 + j) (nI x)) := by
  have h1 := h.1.1.1
  have h2 := h.1.2.1.1
  have l0 : L0 a (upd a (106 + j) (nI x)) := ⟨pk_un (by omega), pk_un (by omega), fun t ht => ⟨pk_un (by omega), pk_un (by omega)⟩, fun i hi => pk_un (by omega)⟩
  refine ⟨l0.invB h.1 (fun t ht => ?_), l0.invR h.2.1, ?_⟩
  · rw [pk_un (by omega)]; exact (h.1.2.2.2 t ht).2.2
  · obtain ⟨c1, c2, c3, c4, c5⟩ := h.2.2
    unfold InvC
    have e : ∀ i, i < 106 → upd a (106 + j) (nI x) i = a i := fun i hi => pk_un (by omega)
    rw [e 93 (by omega), e 95 (by omega), e 96 (by omega), e 98 (by omega), e 99 (by omega), e 100 (by omega), e 101 (by omega), e 102 (by omega), e 103 (by omega), e 104 (by omega), e 105 (by omega)]
    refine ⟨c1, c2, ?_, ?_, c5⟩
    · by_cases hj0 : j = 0
      · subst hj0; exact ⟨x, hx, pk_us⟩
      · rw [pk_un (by omega)]; exact c3
    · by_cases hj0 : j = 1
      · subst hj0; exact ⟨x, hx, pk_us⟩
      · rw [pk_un (by omega)]; exact c4
theorem CR_set {a : Row} {u j : Nat} {x : Int32} {M : KMem} (h : CR a u M) (hI : InvB a) (hj : j < 2) : CR (upd a (106 + j) x) u (kup M (u + 12) j x) := by
  have h1 := hI.1.1
  have h2 := hI.2.1.1
  have l0 : L0 a (upd a (106 + j) x) := ⟨pk_un (by omega), pk_un (by omega), fun t ht => ⟨pk_un (by omega), pk_un (by omega)⟩, fun i hi => pk_un (by omega)⟩
  obtain ⟨⟨k1, k2, k3, k4, k5, k6⟩, k7, k8, k9, k10, k11⟩ := h
  refine ⟨⟨?_, ?_, ?_, ?_, ?_, ?_⟩, ?_, ?_, ?_, ?_, ?_⟩
  · rw [kup_n _ _ _ (by omega), pk_un (by omega)]; exact k1
  · rw [kup_n _ _ _ (by omega), pk_un (by omega)]; exact k2
  · rw [kup_n _ _ _ (by omega), pk_un (by omega)]; exact k3
  · rw [kup_n _ _ _ (by omega), pk_un (by omega)]; exact k4
  · rw [kup_n _ _ _ (by omega), pk_un (by omega)]; exact k5
  · rw [kup_n _ _ _ (by omega), pk_un (by omega)]; exact k6
  · rw [l0.n.2]; intro i hi; rw [kup_n _ _ _ (by omega), pk_un (by omega)]; exact k7 i hi
  · rw [l0.n.1]; intro s hs; rw [l0.rt hs]
    simp (disch := omega) only [kup_n, pk_un]; exact k8 s hs
  · intro g hg; simp (disch := omega) only [kup_n, pk_un]; exact k9 g hg
  · by_cases hj0 : j = 0
    · subst hj0; rw [kup_s]; exact pk_us.symm
    · rw [kup_j _ _ _ (by omega), pk_un (by omega)]; exact k10
  · by_cases hj0 : j = 1
    · subst hj0; rw [kup_s]; exact pk_us.symm
    · rw [kup_j _ _ _ (by omega), pk_un (by omega)]; exact k11
theorem CR.set {a : Row} {u j : Nat} {M : KMem} (h : CR a u M) (hj : j < 2) : M (u + 12) j = a (106 + j) := by
  match j, hj with
  | 0, _ => exact h.2.2.2.2.1
  | 1, _ => exact h.2.2.2.2.2
theorem reqSet_y {j : Nat} (hj : j < 2) : m_SR_requireSetting (nI j) = some none := by
  unfold m_SR_requireSetting
  rw [if_neg (nI_pos (by omega)), if_pos (show nI j < 2 from (nI_ltI (b := 2) (by omega) (by omega)).mpr hj)]
theorem reqSet_n {p : Int32} (h : p < 0 ∨ nI 1 < p) : m_SR_requireSetting p = some (some eA) := by
  unfold m_SR_requireSetting
  by_cases c0 : p < 0
  · rw [if_pos c0]
  · rw [if_neg c0, if_neg]
    intro c4
    obtain ⟨j, hj, rfl⟩ := nI_of c0
    have c3 := h.elim (fun z => (c0 z).elim) id
    rw [nI_ltI (by omega) (by omega)] at c3
    rw [show (2 : Int32) = nI 2 from rfl, nI_ltI (by omega) (by omega)] at c4
    omega
theorem pub_set {M : KMem} (h : GI M) (p0 p1 : Int32) : Pub M [eA] (m_SR_set 0 p0 p1 M) (m_Mo_set 235 p0 p1) := by
  have h' := h
  obtain ⟨H, k, S, kp, len, T, hc, hm⟩ := h'
  have hI := hc.1
  rcases in_c p0 (lo := 0) (hi := 1) (by omega) (by omega) with ⟨j, j1, j2, rfl, e⟩ | ⟨g1, e⟩
  · rcases in_c p1 (lo := 0) (hi := 20) (by omega) (by omega) with ⟨x, x1, x2, rfl, e2⟩ | ⟨g1, e2⟩
    · have hj : j < 2 := by omega
      have hA := inv_set hI hj x2
      have hcls : kOk (m_SR_set 0 (nI j) (nI x) M) (fun q => q.1 = .inr (M 236 (106 + j)) ∧ CS (upd (M 236) (106 + j) (nI x)) (pushH H k (M 236)) (min k 13 + 1) S kp len T q.2 ∧ frS clO M q.2) := by
        unfold m_SR_set
        rw [reqSet_y hj, bS]
        show kOk (if nI x < 0 then _ else (if nI x ≤ 20 then _ else _)) _
        rw [if_neg (nI_pos (by omega)), if_pos (show nI x ≤ 20 from (nI_leI (b := 20) (by omega) (by omega)).mpr x2)]
        refine kB _ (Cacts (a' := upd (M 236) (106 + j) (nI x)) hc) ?_
        rintro M9 ⟨c1, c2, c3⟩
        show kOk (Option.bind (rdI M9 15 2 (nI j)) _) _
        rw [rdN (by omega) (by omega), bS, show M9 15 j = M 236 (106 + j) from c1.set hj]
        show kOk (Option.bind (wrI M9 15 2 (nI j) (nI x)) _) _
        rw [wrN (by omega) (by omega), bS]
        have := c3 (kup M9 15 j (nI x)) (frS.up ⟨by omega, by omega⟩) hA (CR_set c1 hI.1 hj)
        exact kOk_i ⟨rfl, this.1, this.2⟩
      obtain ⟨⟨r, M1⟩, e1, r1, r2, r3⟩ := hcls
      simp only at r1 r2 r3
      subst r1
      refine pub_yes e1 r3 r2 (fun M1 r3 => ?_)
      unfold m_Mo_set
      rw [show m_Mo_in (nI j) 0 1 = some 1 from e, bS, if_neg u10, show m_Mo_in (nI x) 0 20 = some 1 from e2, bS, if_neg u10, bS, Mholds_0, bS]
      show kOk (if (1 : Int32) = 0 then _ else _) _
      rw [if_neg u10]
      obtain ⟨a1, a2, a3, a4, a5, a6⟩ := hm.cl r3
      have e6 : (kup M1 235 0 0) 236 = M 236 := by rw [kup_n _ _ _ (by omega)]; exact r3 236 (by omega)
      refine kB _ (Mrem_ok (M := kup M1 235 0 0) hc.k (by rw [kup_j _ _ _ (by omega)]; exact a1)) ?_
      rintro M10 ⟨g1, g2, g3, g4⟩
      have e10 : M10 236 = M 236 := (g4 236 (by omega)).trans e6
      show kOk (Option.bind (rdI M10 236 108 (106 + nI j)) _) _
      rw [show (106 : Int32) + nI j = nI (106 + j) from nI_add _ _, rdN (by omega) (by omega), bS, wrN (by omega) (by omega), bS, e10]
      refine kOk_i ?_
      show M 236 (106 + j) = M 236 (106 + j) ∧ kup M10 236 (106 + j) (nI x) 235 0 = 0 ∧ LE (upd (M 236) (106 + j) (nI x)) (kup M10 236 (106 + j) (nI x) 236) ∧ frS moO M1 (kup M10 236 (106 + j) (nI x)) ∧ MS (pushH H k (M 236)) (min k 13 + 1) S kp len T (kup M10 236 (106 + j) (nI x))
      have F : frS moO M1 M10 := (frS.up (S := moO) ⟨by omega, by omega⟩).tr (g4.wk (fun o ho => by omega))
      refine ⟨rfl, ?_, ?_, frS.k F ⟨by omega, by omega⟩, ?_, fun q hq i hi => ?_, ?_, fun s hs hb i hi => ?_, ?_, fun i hi => ?_⟩
      · rw [kup_n _ _ _ (by omega), g2 0 (by omega), kup_s]
      · rw [kup_fn, e10]; exact LE.rf
      · rw [kup_n _ _ _ (by omega), g1]
      · unfold hst
        rw [kup_n _ _ _ (by omega)]
        have := g3 q hq i hi
        rw [e6] at this
        refine Eq.trans this (pushH_congr hc.k (fun q' hq' i' hi' => ?_) q hq i hi)
        unfold hst
        rw [kup_n _ _ _ (by omega)]
        exact a2 q' hq' i' hi'
      · rw [kup_n _ _ _ (by omega), g2 6 (by omega), kup_j _ _ _ (by omega)]; exact a3
      · unfold slt
        rw [kup_n _ _ _ (by omega), g4 239 (by omega), kup_n _ _ _ (by omega)]
        exact a4 s hs hb i hi
      · rw [kup_n _ _ _ (by omega), g2 8 (by omega), kup_j _ _ _ (by omega)]; exact a5
      · rw [kup_n _ _ _ (by omega), g4 240 (by omega), kup_n _ _ _ (by omega)]
        exact a6 i hi
    · refine pub_no h eA 0 rfl ?_ ?_
      · unfold m_SR_set
        rw [reqSet_y (by omega), bS]
        show (if p1 < 0 then _ else (if p1 ≤ 20 then _ else _)) = _
        by_cases c0 : p1 < 0
        · rw [if_pos c0]
        · rw [if_neg c0, if_neg (show ¬ p1 ≤ 20 from fun z => Int32.not_le.mpr (g1.elim (fun w => (c0 w).elim) id) z)]
      · unfold m_Mo_set
        rw [show m_Mo_in (nI j) 0 1 = some 1 from e, bS, if_neg u10, show m_Mo_in p1 0 20 = some 0 from e2, bS, if_pos rfl, bS, show m_Mo_holds 235 1 M = _ from Mholds_n (by decide) M, bS]
        rfl
  · refine pub_no h eA 0 rfl ?_ ?_
    · unfold m_SR_set
      rw [reqSet_n g1]
      rfl
    · unfold m_Mo_set
      rw [show m_Mo_in p0 0 1 = some 0 from e, bS, if_pos rfl, bS, show m_Mo_holds 235 1 M = _ from Mholds_n (by decide) M, bS]
      rfl
