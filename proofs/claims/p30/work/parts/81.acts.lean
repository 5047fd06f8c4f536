/-! P30: the actions, at any object -/
def ActP (xs : List String) (a : Row) (f : Nat → KMem → Option ((String ⊕ Int32) × KMem)) : Prop :=
  (∃ E, E ∈ xs ∧ ∀ t H k M, GO t a H k M → f t M = some (.inl E, M)) ∨
  ∃ v a', Nx a a' ∧ ∀ t H k M, GO t a H k M → kOk (f t M) (fun q => q.1 = .inr v ∧ GO t a' (pushH H k a) (min k 13 + 1) q.2 ∧ frS (rg t) M q.2)
theorem act_sign {a : Row} (hI : Inv a) (p0 p1 : Int32) : ActP [eI, eA, eS] a (fun t M => m_SR_sign t p0 p1 M) := by
  have h8 := hI.1.1.1
  rcases ix_c p0 (lo := 0) (hi := 3) (by omega) (by omega) with ⟨g, -, g1, rfl⟩ | g1
  · have rq : m_SR_requireGuild (nI g) = some none := reqGuild_y (by omega)
    rcases isWordc p1 with ⟨w3, w1, w2⟩ | w3
    · by_cases n1 : sN a < 8
      · have hA := nx_comes hI n1 (show g < 4 by omega) w1
        refine Or.inr ⟨hind (comesB a (nI g) p1), _, nx_97 (x := comesA a (nI g) p1 97 + (if hind (comesB a (nI g) p1) = 0 then 0 else 1)) hA, fun t H k M h => ?_⟩
        have hn4 : M (t + 4) 1 = nI (sN a) := h.2.1.n hI.1
        show kOk (m_SR_sign t (nI g) p1 M) _
        unfold m_SR_sign
        rw [rq, bS]
        show kOk (Option.bind (m_Wo_isWord p1) _) _
        rw [w3, bS, if_neg u10]
        show kOk (if M (t + 4) 1 < 8 then _ else _) _
        rw [if_pos (by rw [hn4, show (8 : Int32) = nI 8 from rfl, nI_ltI (by omega) (by omega)]; exact n1)]
        refine kB _ (Gacts (a' := upd (comesA a (nI g) p1) 97 (comesA a (nI g) p1 97 + (if hind (comesB a (nI g) p1) = 0 then 0 else 1))) h) ?_
        rintro M9 ⟨c1, c3⟩
        refine kB _ (bring_ok c1 hI n1 (by omega) w1) ?_
        rintro ⟨x, M12⟩ ⟨b1, b2, b3⟩
        simp only at b1 b2 b3
        subst b1
        refine kB _ (counted_ok (u := t + 3) (r := hind (comesB a (nI g) p1)) b2 hA.1.1) ?_
        rintro ⟨y, M15⟩ ⟨d1, d2, d3⟩
        simp only at d1 d2 d3
        subst d1
        have := c3 M15 (b3.tr d3) (inv_97 hA.1) d2
        exact kOk_i ⟨rfl, this.1, this.2⟩
      · refine Or.inl ⟨eS, by simp, fun t H k M h => ?_⟩
        have hn4 : M (t + 4) 1 = nI (sN a) := h.2.1.n hI.1
        show m_SR_sign t (nI g) p1 M = _
        unfold m_SR_sign
        rw [rq, bS]
        show Option.bind (m_Wo_isWord p1) _ = _
        rw [w3, bS, if_neg u10]
        show (if M (t + 4) 1 < 8 then _ else _) = _
        rw [if_neg (by rw [hn4, show (8 : Int32) = nI 8 from rfl, nI_ltI (by omega) (by omega)]; omega)]
    · refine Or.inl ⟨eA, by simp, fun t H k M h => ?_⟩
      show m_SR_sign t (nI g) p1 M = _
      unfold m_SR_sign
      rw [rq, bS]
      show Option.bind (m_Wo_isWord p1) _ = _
      rw [w3, bS, if_pos rfl]
  · refine Or.inl ⟨eI, by simp, fun t H k M h => ?_⟩
    show m_SR_sign t p0 p1 M = _
    unfold m_SR_sign
    rw [reqGuild_n g1]
    rfl
theorem act_decree {a : Row} (hI : Inv a) (p0 p1 p2 p3 : Int32) : ActP [eA, eS] a (fun t M => m_SR_decree t p0 p1 p2 p3 M) := by
  have h10 := hI.1.2.1.1
  rcases argsc p0 p1 p2 p3 with ⟨b1, hd⟩ | b1
  · by_cases n1 : dN a < 10
    · have hA := nx_gives hI n1 hd
      refine Or.inr ⟨hind (givesB a p0 p1 p2 p3), _, nx_97 (x := givesA a p0 p1 p2 p3 97 + (if hind (givesB a p0 p1 p2 p3) = 0 then 0 else 1)) hA, fun t H k M h => ?_⟩
      have hd4 : M (t + 5) 0 = nI (dN a) := h.2.1.d hI.1
      show kOk (m_SR_decree t p0 p1 p2 p3 M) _
      unfold m_SR_decree m_SR_requireDecreeArguments
      rw [b1, bS, if_neg u10, bS]
      show kOk (Option.bind (m_De_areFull (t + 5) M) _) _
      rw [areFull_ok hd4 h10, if_neg (by omega), bS, if_pos rfl]
      refine kB _ (Gacts (a' := upd (givesA a p0 p1 p2 p3) 97 (givesA a p0 p1 p2 p3 97 + (if hind (givesB a p0 p1 p2 p3) = 0 then 0 else 1))) h) ?_
      rintro M9 ⟨c1, c3⟩
      refine kB _ (give_ok c1 hI.1 hd n1) ?_
      rintro ⟨x, M12⟩ ⟨b1, b2, b3⟩
      simp only at b1 b2 b3
      subst b1
      refine kB _ (counted_ok (u := t + 3) (r := hind (givesB a p0 p1 p2 p3)) b2 hA.1.1) ?_
      rintro ⟨y, M15⟩ ⟨d1, d2, d3⟩
      simp only at d1 d2 d3
      subst d1
      have := c3 M15 (b3.tr d3) (inv_97 hA.1) d2
      exact kOk_i ⟨rfl, this.1, this.2⟩
    · refine Or.inl ⟨eS, by simp, fun t H k M h => ?_⟩
      have hd4 : M (t + 5) 0 = nI (dN a) := h.2.1.d hI.1
      show m_SR_decree t p0 p1 p2 p3 M = _
      unfold m_SR_decree m_SR_requireDecreeArguments
      rw [b1, bS, if_neg u10, bS]
      show Option.bind (m_De_areFull (t + 5) M) _ = _
      rw [areFull_ok hd4 h10, if_pos (by omega), bS, if_neg u10]
  · refine Or.inl ⟨eA, by simp, fun t H k M h => ?_⟩
    show m_SR_decree t p0 p1 p2 p3 M = _
    unfold m_SR_decree m_SR_requireDecreeArguments
    rw [b1]
    rfl
theorem has_c {p0 m : Nat} {M : KMem} (p : Int32) (h0 : M p0 0 = nI m) (hm : m ≤ 10) : (∃ s, s < m ∧ p = nI s ∧ m_De_has p0 p M = some 1) ∨ m_De_has p0 p M = some 0 := by
  rcases pk_ix p (n := m) (by omega) with c | c | ⟨j, hj, rfl⟩
  · refine Or.inr ?_
    unfold m_De_has
    rw [if_pos c]
    rfl
  · refine Or.inr ?_
    unfold m_De_has
    by_cases c0 : p < 0
    · rw [if_pos c0]; rfl
    · rw [if_neg c0, h0, if_pos c]; rfl
  · exact Or.inl ⟨j, hj, rfl, has_y h0 hm hj⟩
theorem act_revoke {a : Row} (hI : Inv a) (p0 : Int32) : ActP [eI, eA, eS] a (fun t M => m_SR_revoke t p0 M) := by
  have h10 := hI.1.2.1.1
  by_cases hs : ∃ s, s < dN a ∧ p0 = nI s
  · obtain ⟨s, s1, rfl⟩ := hs
    have hA := nx_rev hI s1
    refine Or.inr ⟨hind (revB a s), _, nx_97 (x := revA a s 97 + (if hind (revB a s) = 0 then 0 else 1)) hA, fun t H k M h => ?_⟩
    have hd4 : M (t + 5) 0 = nI (dN a) := h.2.1.d hI.1
    show kOk (m_SR_revoke t (nI s) M) _
    unfold m_SR_revoke m_SR_requireDecree
    show kOk (Option.bind (Option.bind (m_De_has (t + 5) (nI s) M) _) _) _
    rw [has_y hd4 h10 s1, bS, if_neg u10, bS]
    refine kB _ (Gacts (a' := upd (revA a s) 97 (revA a s 97 + (if hind (revB a s) = 0 then 0 else 1))) h) ?_
    rintro M9 ⟨c1, c3⟩
    refine kB _ (take_ok c1 hI.1 s1) ?_
    rintro ⟨x, M12⟩ ⟨b1, b2, b3⟩
    simp only at b1 b2 b3
    subst b1
    refine kB _ (counted_ok (u := t + 3) (r := hind (revB a s)) b2 hA.1.1) ?_
    rintro ⟨y, M15⟩ ⟨d1, d2, d3⟩
    simp only at d1 d2 d3
    subst d1
    have := c3 M15 (b3.tr d3) (inv_97 hA.1) d2
    exact kOk_i ⟨rfl, this.1, this.2⟩
  · refine Or.inl ⟨eI, by simp, fun t H k M h => ?_⟩
    have hd4 : M (t + 5) 0 = nI (dN a) := h.2.1.d hI.1
    show m_SR_revoke t p0 M = _
    unfold m_SR_revoke m_SR_requireDecree
    show Option.bind (Option.bind (m_De_has (t + 5) p0 M) _) _ = _
    rcases has_c p0 hd4 h10 with ⟨s, s1, e, -⟩ | e
    · exact (hs ⟨s, s1, e⟩).elim
    · rw [e]; rfl
theorem act_paint {a : Row} (hI : Inv a) (p0 : Int32) : ActP [eI, eA, eS] a (fun t M => m_SR_paint t p0 M) := by
  have h8 := hI.1.1.1
  by_cases hs : ∃ s, s < sN a ∧ p0 = nI s
  · obtain ⟨s, s1, rfl⟩ := hs
    refine Or.inr ⟨coA a s, _, nx_paint hI s1, fun t H k M h => ?_⟩
    show kOk (m_SR_paint t (nI s) M) _
    unfold m_SR_paint m_SR_requireSign
    rw [hasSign_y (h.2.1.n hI.1) h8 s1, bS, if_neg u10, bS]
    refine kB _ (Gacts (a' := paintsA a s) h) ?_
    rintro M9 ⟨c1, c3⟩
    refine kB _ (repaint_ok c1 hI.1 s1) ?_
    rintro ⟨x, M12⟩ ⟨b1, b2, b3⟩
    simp only at b1 b2 b3
    subst b1
    have := c3 M12 b3 (paintsA_inv hI s1) b2
    exact kOk_i ⟨rfl, this.1, this.2⟩
  · refine Or.inl ⟨eI, by simp, fun t H k M h => ?_⟩
    show m_SR_paint t p0 M = _
    unfold m_SR_paint m_SR_requireSign
    rcases hasSign_c p0 (h.2.1.n hI.1) h8 with ⟨s, s1, e, -⟩ | ⟨-, e⟩
    · exact (hs ⟨s, s1, e⟩).elim
    · rw [e]; rfl
theorem act_months {a : Row} (hI : Inv a) (p0 : Int32) : ActP [eI, eA, eS] a (fun t M => m_SR_months t p0 M) := by
  rcases ix_c p0 (lo := 1) (hi := 60) (by omega) (by omega) with ⟨n, n1, n2, rfl⟩ | g1
  · refine Or.inr ⟨monsA a n 95 - a 95, _, nx_mons hI n n2, fun t H k M h => ?_⟩
    show kOk (m_SR_months t (nI n) M) _
    unfold m_SR_months
    rw [if_neg (by rw [show (1 : Int32) = nI 1 from rfl, nI_ltI (by omega) (by omega)]; omega), if_pos (by rw [show (60 : Int32) = nI 60 from rfl, nI_leI (by omega) (by omega)]; omega)]
    refine kB _ (Gacts (a' := monsA a n) h) ?_
    rintro M9 ⟨c1, c3⟩
    refine kB _ (months_ok (n := n) c1 hI (by omega)) ?_
    rintro ⟨x, M12⟩ ⟨b1, b2, b3⟩
    simp only at b1 b2 b3
    subst b1
    have := c3 M12 b3 (monsA_inv hI n) b2
    exact kOk_i ⟨rfl, this.1, this.2⟩
  · refine Or.inl ⟨eA, by simp, fun t H k M h => ?_⟩
    show m_SR_months t p0 M = _
    unfold m_SR_months
    by_cases c0 : p0 < 1
    · rw [if_pos c0]
    · rw [if_neg c0, if_neg (show ¬ p0 ≤ 60 from fun z => Int32.not_le.mpr (g1.elim (fun w => (c0 w).elim) id) z)]
theorem act_amnesty {a : Row} (hI : Inv a) (p0 : Int32) : ActP [eI, eA, eS] a (fun t M => m_SR_amnesty t p0 M) := by
  have i1 : ∀ n, 1 ≤ n → n ≤ 9 → ¬ nI n < 1 ∧ nI n ≤ 9 := fun n h1 h2 => by
    rw [show (1 : Int32) = nI 1 from rfl, nI_ltI (by omega) (by omega), show (9 : Int32) = nI 9 from rfl, nI_leI (by omega) (by omega)]
    omega
  rcases ix_c p0 (lo := 1) (hi := 9) (by omega) (by omega) with ⟨n, n1, n2, rfl⟩ | g1
  · by_cases hcf : cfA a
    · refine Or.inr ⟨wrC (sparesA a (nI n)) (sN (sparesA a (nI n))), _, nx_spares hI n2, fun t H k M h => ?_⟩
      show kOk (m_SR_amnesty t (nI n) M) _
      unfold m_SR_amnesty
      rw [if_neg (i1 n n1 n2).1, if_pos (i1 n n1 n2).2]
      rcases canForgive_c h.2.1 with ⟨f1, f2⟩ | ⟨f1, f2⟩
      · rw [f2, bS, if_neg u10]
        refine kB _ (Gacts (a' := sparesA a (nI n)) h) ?_
        rintro M9 ⟨c1, c3⟩
        refine kB _ (forgive_ok (n := n) c1 hI n2 hcf) ?_
        rintro ⟨x, M12⟩ ⟨b1, b2, b3⟩
        simp only at b1 b2 b3
        subst b1
        have := c3 M12 b3 (sparesA_inv hI n2) b2
        exact kOk_i ⟨rfl, this.1, this.2⟩
      · exact (f1 hcf).elim
    · refine Or.inl ⟨eS, by simp, fun t H k M h => ?_⟩
      show m_SR_amnesty t (nI n) M = _
      unfold m_SR_amnesty
      rw [if_neg (i1 n n1 n2).1, if_pos (i1 n n1 n2).2]
      rcases canForgive_c h.2.1 with ⟨f1, f2⟩ | ⟨f1, f2⟩
      · exact (hcf f1).elim
      · rw [f2, bS, if_pos rfl]
  · refine Or.inl ⟨eA, by simp, fun t H k M h => ?_⟩
    show m_SR_amnesty t p0 M = _
    unfold m_SR_amnesty
    by_cases c0 : p0 < 1
    · rw [if_pos c0]
    · rw [if_neg c0, if_neg (show ¬ p0 ≤ 9 from fun z => Int32.not_le.mpr (g1.elim (fun w => (c0 w).elim) id) z)]
theorem act_set {a : Row} (hI : Inv a) (p0 p1 : Int32) : ActP [eI, eA, eS] a (fun t M => m_SR_set t p0 p1 M) := by
  rcases ix_c p0 (lo := 0) (hi := 1) (by omega) (by omega) with ⟨j, j1, j2, rfl⟩ | g1
  · have hj : j < 2 := by omega
    rcases ix_c p1 (lo := 0) (hi := 20) (by omega) (by omega) with ⟨x, x1, x2, rfl⟩ | g1
    · refine Or.inr ⟨a (106 + j), _, nx_set hI hj x2, fun t H k M h => ?_⟩
      show kOk (m_SR_set t (nI j) (nI x) M) _
      unfold m_SR_set
      rw [reqSet_y hj, bS]
      show kOk (if nI x < 0 then _ else (if nI x ≤ 20 then _ else _)) _
      rw [if_neg (nI_pos (by omega)), if_pos (show nI x ≤ 20 from (nI_leI (b := 20) (by omega) (by omega)).mpr x2)]
      refine kB _ (Gacts (a' := upd a (106 + j) (nI x)) h) ?_
      rintro M9 ⟨c1, c3⟩
      show kOk (Option.bind (rdI M9 (t + 15) 2 (nI j)) _) _
      rw [rdN (by omega) (by omega), bS, show M9 (t + 15) j = a (106 + j) from c1.set hj]
      show kOk (Option.bind (wrI M9 (t + 15) 2 (nI j) (nI x)) _) _
      rw [wrN (by omega) (by omega), bS]
      have := c3 (kup M9 (t + 15) j (nI x)) (frS.up ⟨by omega, by omega⟩) (inv_set hI hj x2) (CR_set c1 hI.1 hj)
      exact kOk_i ⟨rfl, this.1, this.2⟩
    · refine Or.inl ⟨eA, by simp, fun t H k M h => ?_⟩
      show m_SR_set t (nI j) p1 M = _
      unfold m_SR_set
      rw [reqSet_y hj, bS]
      show (if p1 < 0 then _ else (if p1 ≤ 20 then _ else _)) = _
      by_cases c0 : p1 < 0
      · rw [if_pos c0]
      · rw [if_neg c0, if_neg (show ¬ p1 ≤ 20 from fun z => Int32.not_le.mpr (g1.elim (fun w => (c0 w).elim) id) z)]
  · refine Or.inl ⟨eA, by simp, fun t H k M h => ?_⟩
    show m_SR_set t p0 p1 M = _
    unfold m_SR_set
    rw [reqSet_n g1]
    rfl
/-- what was remembered last comes back -/
theorem back_ok {t : Nat} {a : Row} {H : Nat → Row} {k : Nat} {M : KMem} (h : GO t a H k M) (hk : 0 < k) :
    kOk (m_Me_takeBack (t + 39) (t + 4) M) (fun M' => M' (t + 39) 2 = nI (k - 1) ∧ GO t (H (k - 1)) H (k - 1) M' ∧ frS (rg t) M M') := by
  obtain ⟨h1, h2, o, h3⟩ := h
  refine kWk _ (Cback_ok h3 hk) ?_
  rintro M3 ⟨b1, b2, b3, b4⟩
  refine ⟨b2, ⟨(h3.2.2.2.2 (k - 1) (by omega)).1, b3, o, b1⟩, b4.wk (fun p hp => ?_)⟩
  constructor <;> omega
theorem GO.k {t : Nat} {a : Row} {H : Nat → Row} {k : Nat} {M : KMem} (h : GO t a H k M) : k ≤ 14 ∧ M (t + 39) 2 = nI k := by
  obtain ⟨h1, h2, o, h3⟩ := h
  exact ⟨h3.2.2.2.1, h3.2.1⟩
theorem push_top {H : Nat → Row} {k : Nat} {a : Row} (hk : k ≤ 14) : pushH H k a (min k 13 + 1 - 1) = a := by
  unfold pushH
  by_cases h : k < 14
  · rw [if_pos h, if_pos (by omega)]
  · rw [if_neg h, if_neg (by omega)]
theorem sr_undo {t : Nat} {a : Row} {H : Nat → Row} {k : Nat} {M : KMem} (h : GO t a H k M) (hk : 0 < k) :
    kOk (m_SR_undo t M) (fun q => q.1 = .inr (nI (k - 1)) ∧ GO t (H (k - 1)) H (k - 1) q.2 ∧ frS (rg t) M q.2) := by
  have e := h.k
  unfold m_SR_undo
  rw [if_neg (by rw [e.2]; exact nI_ne0 hk (by omega))]
  refine kB _ (back_ok h hk) ?_
  rintro M3 ⟨b1, b2, b3⟩
  exact kOk_i ⟨congrArg Sum.inr b1, b2, b3⟩
theorem sn_undo {t : Nat} {a : Row} {H : Nat → Row} {k : Nat} {M : KMem} (h : GO t a H k M) (hk : 0 < k) :
    kOk (m_Sn_undo t M) (fun q => q.1 = nI (k - 1) ∧ GO t (H (k - 1)) H (k - 1) q.2 ∧ frS (rg t) M q.2) := by
  have e := h.k
  unfold m_Sn_undo
  rw [if_neg (by rw [e.2]; exact nI_ne0 hk (by omega))]
  refine kB _ (back_ok h hk) ?_
  rintro M3 ⟨b1, b2, b3⟩
  exact kOk_i ⟨b1, b2, b3⟩
