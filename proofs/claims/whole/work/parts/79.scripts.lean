/-! LAYER 2: commands of scripts -/
abbrev b01 (ok : Bool) : Int32 := if ok = true then 1 else 0
abbrev moE : Nat → Prop := fun o => o = 235 ∨ o = 236 ∨ o = 241 ∨ o = 242
abbrev fld (M M' : KMem) : Prop := ∀ j, j = 0 ∨ j = 4 ∨ j = 6 ∨ j = 8 → M' 235 j = M 235 j
theorem hC0 {o : Option (Int32 × KMem)} {ok : Bool} {P : KMem → Prop} (h : kOk o (fun q => (ok = true ↔ q.1 = 0) ∧ P q.2)) : kOk (o.bind fun (x, M) => if x = 0 then some ((1 : Int32), M) else some (0, M)) (fun q => q.1 = b01 ok ∧ P q.2) := by
  obtain ⟨⟨x, M⟩, rfl, h1, h2⟩ := h
  rw [bS]
  show kOk (if x = 0 then _ else _) _
  by_cases hx : x = 0
  · rw [if_pos hx]; exact kOk_i ⟨(if_pos (h1.mpr hx)).symm, h2⟩
  · rw [if_neg hx]; exact kOk_i ⟨(if_neg (fun z => hx (h1.mp z))).symm, h2⟩
theorem hCn {o : Option (Int32 × KMem)} {ok : Bool} {P : KMem → Prop} (h : kOk o (fun q => (ok = true ↔ q.1 ≠ -1) ∧ P q.2)) : kOk (o.bind fun (x, M) => if x = -1 then some ((0 : Int32), M) else some (1, M)) (fun q => q.1 = b01 ok ∧ P q.2) := by
  obtain ⟨⟨x, M⟩, rfl, h1, h2⟩ := h
  rw [bS]
  show kOk (if x = -1 then _ else _) _
  by_cases hx : x = -1
  · rw [if_pos hx]; exact kOk_i ⟨(if_neg (fun z => h1.mp z hx)).symm, h2⟩
  · rw [if_neg hx]; exact kOk_i ⟨(if_pos (h1.mpr hx)).symm, h2⟩
theorem hKz {o : Option (Int32 × KMem)} {ok : Bool} {P : KMem → Prop} (h : kOk o (fun q => q.1 = b01 ok ∧ P q.2)) : kOk (o.bind fun (x, M) => Option.bind (kz x) fun z => some (z, M)) (fun q => q.1 = b01 ok ∧ P q.2) := by
  obtain ⟨⟨x, M⟩, rfl, h1, h2⟩ := h
  simp only at h1
  subst h1
  rw [bS]
  show kOk (Option.bind (kz (b01 ok)) _) _
  rw [show kz (b01 ok) = some (b01 ok) from kz_j, bS]
  exact kOk_i ⟨rfl, h2⟩
theorem hM0 {o : Option (Int32 × KMem)} {ok : Bool} {c : Int32} {P : KMem → Prop} (hc : rcs c) (h : kOk o (fun q => tkP c ok q.1 ∧ P q.2)) : kOk (o.bind fun (x, M) => if x = 0 then some ((1 : Int32), M) else some (0, M)) (fun q => q.1 = b01 ok ∧ P q.2) := by
  refine hC0 (kWk _ h ?_)
  rintro q ⟨h1, h2⟩
  refine ⟨⟨fun z => (h1.1 z).1 hc, fun z => ?_⟩, h2⟩
  cases ok with
  | true => rfl
  | false => exact ((h1.2 rfl).1 hc z).elim
theorem hM9 {o : Option (Int32 × KMem)} {ok : Bool} {c : Int32} {P : KMem → Prop} (hc : ¬ rcs c) (h : kOk o (fun q => tkP c ok q.1 ∧ P q.2)) : kOk (o.bind fun (x, M) => if x = -9 then some ((0 : Int32), M) else some (1, M)) (fun q => q.1 = b01 ok ∧ P q.2) := by
  obtain ⟨⟨x, M⟩, rfl, h1, h2⟩ := h
  rw [bS]
  show kOk (if x = -9 then _ else _) _
  by_cases hx : x = -9
  · rw [if_pos hx]
    refine kOk_i ⟨?_, h2⟩
    cases ok with
    | true => exact ((h1.1 rfl).2 hx).elim
    | false => rfl
  · rw [if_neg hx]
    refine kOk_i ⟨?_, h2⟩
    cases ok with
    | true => rfl
    | false => exact (hx ((h1.2 rfl).2.2 hc)).elim
theorem isGiven_both {u : Nat} {b : Row} {k x y z c : Int32} (hI : Inv b) (hc : c = if k = 0 then 100 else if k = 1 then 106 else 111) (hk : k = 0 ∨ k = 1 ∨ k = 2) (hyz : k ≠ 1 → y = 0 ∧ z = 0) :
    ∃ (ok : Bool) (b' : Row), Inv b' ∧ (∀ M, CR b u M → kOk (m_Sc_isGiven u k x y z M) (fun q => q.1 = b01 ok ∧ CR b' u q.2 ∧ frS (twn u) M q.2)) ∧
      ∀ M, M 236 = b → M 235 11 = c → M 235 12 = x → (c = 106 ∨ c = 115 → M 235 13 = y) → (c = 106 → M 235 14 = z) → kOk (m_Mo_does 235 M) (fun q => tkP c ok q.1 ∧ q.2 236 = b' ∧ frS moD M q.2) := by
  rcases args_c k x y z with ⟨a1, a2, hd⟩ | ⟨a1, a2⟩
  · obtain ⟨ok, b', h1, h2, h3⟩ := BT_g (u := u) hI a1 hd hc
    refine ⟨ok, b', h1, fun M hcr => ?_, h3⟩
    unfold m_Sc_isGiven
    rw [a1, bS, if_neg u10]
    exact hKz (P := fun M' => CR b' u M' ∧ frS (twn u) M M') (hC0 (P := fun M' => CR b' u M' ∧ frS (twn u) M M') (h2 M hcr))
  · refine ⟨false, b, hI, fun M hcr => ?_, fun M g1 g2 g3 g4 g5 => ?_⟩
    · unfold m_Sc_isGiven
      rw [a1, bS, if_pos rfl]
      exact kOk_i ⟨rfl, hcr, frS.rf⟩
    · have er : m_Mo_errorOfDecree 235 k x y z M = some 1 := by
        unfold m_Mo_errorOfDecree
        rw [a2, bS, if_pos rfl]
        rfl
      rcases hk with rfl | rfl | rfl
      · obtain ⟨rfl, rfl⟩ := hyz (by decide)
        rw [does_d (g2.trans hc), g3, does_no er (by decide)]
        exact kOk_i ⟨tk_no _, g1, frS.rf⟩
      · rw [does_j (g2.trans hc), g3, g4 (Or.inl hc), g5 hc, does_no er (by decide)]
        exact kOk_i ⟨tk_no _, g1, frS.rf⟩
      · obtain ⟨rfl, rfl⟩ := hyz (by decide)
        rw [does_o (g2.trans hc), g3, does_no er (by decide)]
        exact kOk_i ⟨tk_no _, g1, frS.rf⟩
/-- a script's command, on both sides -/
def SB (b : Row) (x : Nat) : Prop := ∃ (ok : Bool) (b' : Row), Inv b' ∧ (∀ M, CR b 21 M → kOk (m_Sc_succeeds 21 (nI x) M) (fun q => q.1 = b01 ok ∧ CR b' 21 q.2 ∧ frS (twn 21) M q.2)) ∧
  ∀ M, M 236 = b → kOk (m_Mo_succeeds 235 (nI x) M) (fun q => q.1 = b01 ok ∧ q.2 236 = b' ∧ frS moE M q.2 ∧ fld M q.2)
theorem md_up {M M1 M2 : KMem} (h : frS moD M1 M2) (h1 : frS moE M M1) (h2 : fld M M1) : frS moE M M2 ∧ fld M M2 := by
  refine ⟨h1.tr (h.wk (fun o ho => Or.inr ho)), fun j hj => ?_⟩
  rw [h 235 (by show ¬ (235 = 236 ∨ 235 = 241 ∨ 235 = 242); omega)]
  exact h2 j hj
theorem fld_k {M M1 : KMem} {j : Nat} {v : Int32} (h : fld M M1) (hj : 11 ≤ j) : fld M (kup M1 235 j v) := fun i hi => by
  rw [kup_j _ _ _ (by omega)]
  exact h i hi
theorem frE_k {M M1 : KMem} {j : Nat} {v : Int32} (h : frS moE M M1) : frS moE M (kup M1 235 j v) := frS.k h (Or.inl rfl)
theorem k236 {M1 : KMem} {j : Nat} {v : Int32} {b : Row} (h : M1 236 = b) : kup M1 235 j v 236 = b := by rw [kup_n _ _ _ (by omega)]; exact h
theorem kfinE {M M1 : KMem} {b : Row} (h : M1 236 = b) (F : frS moE M M1) (f : fld M M1) : kOk (some ((0 : Int32), M1)) (fun q => q.1 = b01 false ∧ q.2 236 = b ∧ frS moE M q.2 ∧ fld M q.2) := kOk_i ⟨rfl, h, F, f⟩
theorem SB_ok {b : Row} {x : Nat} (hI : Inv b) (hx : x < 10000) : SB b x := by
  have h8 := hI.1.1.1
  have e1 : nI x / 1000 = nI (x / 1000) := pk_div (d := 1000) (by omega) (by omega) (by omega)
  have e2 : jrem (nI x / 100) 10 = nI (x / 100 % 10) := by
    rw [show nI x / 100 = nI (x / 100) from pk_div (d := 100) (by omega) (by omega) (by omega)]
    exact remN (d := 10) (by omega) (by omega) (by omega)
  have e3 : jrem (nI x / 10) 10 = nI (x / 10 % 10) := by
    rw [show nI x / 10 = nI (x / 10) from pk_div (d := 10) (by omega) (by omega) (by omega)]
    exact remN (d := 10) (by omega) (by omega) (by omega)
  have e4 : jrem (nI x) 10 = nI (x % 10) := remN (d := 10) (by omega) (by omega) (by omega)
  have e5 : jrem (nI x) 100 = nI (x % 100) := remN (d := 100) (by omega) (by omega) (by omega)
  have e6 : 10 * nI (x / 10 % 10) + nI (x % 10) = nI (x % 100) := by
    rw [show (10 : Int32) * nI (x / 10 % 10) = nI (10 * (x / 10 % 10)) from pk_mul 10 _, nI_add]
    congr 1
    omega
  have z0 : ∀ n, n < 2 ^ 31 → (nI n = 0 ↔ n = 0) := fun n hn => nI_eq (b := 0) hn (by omega)
  unfold SB m_Sc_succeeds m_Mo_succeeds
  simp only [e1, e2, e3, e4, e5, e6]
  obtain ⟨d1, hd1⟩ : ∃ d, d = x / 1000 := ⟨_, rfl⟩
  obtain ⟨d2, hd2⟩ : ∃ d, d = x / 100 % 10 := ⟨_, rfl⟩
  obtain ⟨d3, hd3⟩ : ∃ d, d = x / 10 % 10 := ⟨_, rfl⟩
  obtain ⟨d4, hd4⟩ : ∃ d, d = x % 10 := ⟨_, rfl⟩
  obtain ⟨d5, hd5⟩ : ∃ d, d = x % 100 := ⟨_, rfl⟩
  rw [← hd1, ← hd2, ← hd3, ← hd4, ← hd5]
  have l1 : d1 < 10 := by omega
  have l2 : d2 < 10 := by omega
  have l3 : d3 < 10 := by omega
  have l4 : d4 < 10 := by omega
  have l5 : d5 < 100 := by omega
  have c1 : ∀ n, (nI n = 1 ↔ n = 1) ∨ 2 ^ 31 ≤ n := fun n => by
    by_cases h : n < 2 ^ 31
    · exact Or.inl (nI_eq (b := 1) h (by omega))
    · exact Or.inr (by omega)
  have hdd : d1 = 0 ∨ d1 = 1 ∨ d1 = 2 ∨ d1 = 3 ∨ d1 = 4 ∨ d1 = 5 ∨ d1 = 6 ∨ d1 = 7 ∨ d1 = 8 ∨ d1 = 9 := by omega
  clear hd1 hd2 hd3 hd4 hd5 e1 e2 e3 e4 e5 e6 hx
  rcases hdd with rfl | rfl | rfl | rfl | rfl | rfl | rfl | rfl | rfl | rfl
  · -- 0
    refine ⟨false, b, hI, fun M hc => ?_, fun M hm => ?_⟩
    · rw [if_neg (by decide), if_neg (by decide), if_neg (by decide), if_neg (by decide), if_neg (by decide), if_neg (by decide), if_neg (by decide), if_neg (by decide), if_neg (by decide)]
      exact kOk_i ⟨rfl, hc, frS.rf⟩
    · rw [bS, if_neg (by decide), if_neg (by decide), if_neg (by decide), if_neg (by decide), if_neg (by decide), if_neg (by decide), if_neg (by decide), if_neg (by decide), if_neg (by decide)]
      exact kfinE (k236 (j := 12) (v := nI d2) hm) (frE_k frS.rf) (fld_k (fun _ _ => rfl) (by omega))
  · -- 1
    have key : ∃ (ok : Bool) (b' : Row), Inv b' ∧ (∀ M, CR b 21 M → kOk (if nI d4 = 0 then (if nI d2 = 1 then some ((0 : Int32), M) else Option.bind (m_Sc_isGiven 21 (nI d2) (nI d3) 0 0 M) fun (x18, M19) => if x18 = 0 then some (0, M19) else some (1, M19)) else some (0, M)) (fun q => q.1 = b01 ok ∧ CR b' 21 q.2 ∧ frS (twn 21) M q.2)) ∧
        ∀ M, M 236 = b → M 235 11 = (if nI d2 = 0 then 100 else 111) → M 235 12 = nI d3 → kOk (if nI d2 = 0 then (if nI d4 = 0 then (Option.bind (m_Mo_does 235 M) fun (x26, M27) => if x26 = 0 then some ((1 : Int32), M27) else some (0, M27)) else some (0, M)) else (if nI d2 = 2 then (if nI d4 = 0 then (Option.bind (m_Mo_does 235 M) fun (x32, M33) => if x32 = 0 then some (1, M33) else some (0, M33)) else some (0, M)) else some (0, M))) (fun q => q.1 = b01 ok ∧ q.2 236 = b' ∧ frS moD M q.2) := by
      have conv : ∀ {o : Option (Int32 × KMem)} {ok : Bool} {P : KMem → Prop}, kOk o (fun q => q.1 = b01 ok ∧ P q.2) → kOk (o.bind fun (x18, M19) => if x18 = 0 then some ((0 : Int32), M19) else some (1, M19)) (fun q => q.1 = b01 ok ∧ P q.2) := fun {o ok P} h => by
        obtain ⟨⟨x, M⟩, rfl, h1, h2⟩ := h
        simp only at h1
        subst h1
        rw [bS]
        cases ok with
        | true => exact kOk_i ⟨rfl, h2⟩
        | false => exact kOk_i ⟨rfl, h2⟩
      by_cases h4 : d4 = 0
      · subst h4
        by_cases h0 : d2 = 0
        · subst h0
          obtain ⟨ok, b', g1, g2, g3⟩ := isGiven_both (u := 21) (k := 0) (x := nI d3) (y := 0) (z := 0) (c := 100) hI rfl (Or.inl rfl) (fun _ => ⟨rfl, rfl⟩)
          refine ⟨ok, b', g1, fun M hc => ?_, fun M h1 h2 h3 => ?_⟩
          · rw [if_pos (by decide), if_neg (by decide)]
            exact conv (P := fun M' => CR b' 21 M' ∧ frS (twn 21) M M') (g2 M hc)
          · rw [if_pos (by decide), if_pos (by decide)]
            exact hM0 (c := 100) (P := fun M' => M' 236 = b' ∧ frS moD M M') (Or.inr (Or.inl rfl)) (g3 M h1 (h2.trans (if_pos (by decide))) h3 (fun z => absurd z (by decide)) (fun z => absurd z (by decide)))
        · by_cases h2' : d2 = 2
          · subst h2'
            obtain ⟨ok, b', g1, g2, g3⟩ := isGiven_both (u := 21) (k := 2) (x := nI d3) (y := 0) (z := 0) (c := 111) hI rfl (Or.inr (Or.inr rfl)) (fun _ => ⟨rfl, rfl⟩)
            refine ⟨ok, b', g1, fun M hc => ?_, fun M h1 h2 h3 => ?_⟩
            · rw [if_pos (by decide), if_neg (by decide)]
              exact conv (P := fun M' => CR b' 21 M' ∧ frS (twn 21) M M') (g2 M hc)
            · rw [if_neg (by decide), if_pos (by decide), if_pos (by decide)]
              exact hM0 (c := 111) (P := fun M' => M' 236 = b' ∧ frS moD M M') (Or.inr (Or.inr (Or.inr (Or.inl rfl)))) (g3 M h1 (h2.trans (if_neg (by decide))) h3 (fun z => absurd z (by decide)) (fun z => absurd z (by decide)))
          · refine ⟨false, b, hI, fun M hc => ?_, fun M h1 h2 h3 => ?_⟩
            · rw [if_pos (by decide)]
              by_cases h1' : d2 = 1
              · rw [if_pos (by rw [h1']; rfl)]; exact kOk_i ⟨rfl, hc, frS.rf⟩
              · rw [if_neg (show ¬ nI d2 = 1 from fun z => h1' ((nI_eq (b := 1) (by omega) (by omega)).mp z))]
                refine conv (P := fun M' => CR b 21 M' ∧ frS (twn 21) M M') ?_
                have : m_De_canBe (nI d2) (nI d3) 0 0 = some 0 := by
                  unfold m_De_canBe
                  rw [if_neg (nI_pos (by omega)), if_pos (show (2 : Int32) < nI d2 from (nI_ltI (a := 2) (by omega) (by omega)).mpr (by omega))]
                  rfl
                unfold m_Sc_isGiven
                rw [this, bS, if_pos rfl]
                exact kOk_i ⟨rfl, hc, frS.rf⟩
            · rw [if_neg (fun z => h0 ((z0 _ (by omega)).mp z)), if_neg (show ¬ nI d2 = 2 from fun z => h2' ((nI_eq (b := 2) (by omega) (by omega)).mp z))]
              exact kOk_i ⟨rfl, h1, frS.rf⟩
      · refine ⟨false, b, hI, fun M hc => ?_, fun M h1 h2 h3 => ?_⟩
        · rw [if_neg (fun z => h4 ((z0 _ (by omega)).mp z))]
          exact kOk_i ⟨rfl, hc, frS.rf⟩
        · rw [if_neg (fun z => h4 ((z0 _ (by omega)).mp z))]
          by_cases h0 : nI d2 = 0
          · rw [if_pos h0]; exact kOk_i ⟨rfl, h1, frS.rf⟩
          · rw [if_neg h0]
            by_cases h2' : nI d2 = 2
            · rw [if_pos h2']; exact kOk_i ⟨rfl, h1, frS.rf⟩
            · rw [if_neg h2']; exact kOk_i ⟨rfl, h1, frS.rf⟩
    obtain ⟨ok, b', g1, g2, g3⟩ := key
    refine ⟨ok, b', g1, fun M hc => ?_, fun M hm => ?_⟩
    · rw [if_pos (by decide)]
      exact hKz (P := fun M' => CR b' 21 M' ∧ frS (twn 21) M M') (g2 M hc)
    · rw [bS, if_pos (by decide), bI, bS, bS]
      refine hKz (P := fun M' => M' 236 = b' ∧ frS moE M M' ∧ fld M M') (kWk _ (g3 _ (k236 (k236 (k236 hm))) (by rw [kup_j _ _ _ (by omega), kup_s]) (kup_s _ _ _ _)) ?_)
      rintro q ⟨q1, q2, q3⟩
      exact ⟨q1, q2, md_up q3 (frE_k (frE_k (frE_k frS.rf))) (fld_k (fld_k (fld_k (fun _ _ => rfl) (by omega)) (by omega)) (by omega))⟩
  · -- 2
    obtain ⟨ok, b', g1, g2, g3⟩ := isGiven_both (u := 21) (k := 1) (x := nI d2) (y := nI d3) (z := nI d4) (c := 106) hI rfl (Or.inr (Or.inl rfl)) (fun z => (z rfl).elim)
    refine ⟨ok, b', g1, fun M hc => ?_, fun M hm => ?_⟩
    · rw [if_neg (by decide), if_pos (by decide)]
      exact hKz (P := fun M' => CR b' 21 M' ∧ frS (twn 21) M M') (g2 M hc)
    · rw [bS, if_neg (by decide), if_pos (by decide), bS, bS, bS]
      have hd := g3 _ (k236 (k236 (k236 (k236 hm)))) (by rw [kup_j _ _ _ (by omega), kup_j _ _ _ (by omega), kup_s]) (by rw [kup_j _ _ _ (by omega), kup_j _ _ _ (by omega), kup_j _ _ _ (by omega), kup_s]) (fun _ => by rw [kup_j _ _ _ (by omega), kup_s]) (fun _ => kup_s (kup (kup (kup M 235 12 (nI d2)) 235 11 106) 235 13 (nI d3)) 235 14 (nI d4))
      obtain ⟨⟨t, M45⟩, ed, t1, t2, t3⟩ := hd
      rw [ed]
      have h0 : kOk (some (t, M45)) (fun q : Int32 × KMem => tkP 106 ok q.1 ∧ q.2 = M45) := kOk_i ⟨t1, rfl⟩
      obtain ⟨⟨r, M46⟩, er, r1, r2⟩ := hM0 (c := 106) (P := fun M' => M' = M45) (by unfold rcs; simp) h0
      simp only at r1 r2
      subst r2
      have hup := md_up t3 (frE_k (frE_k (frE_k (frE_k frS.rf)))) (fld_k (fld_k (fld_k (fld_k (fun _ _ => rfl) (by omega)) (by omega)) (by omega)) (by omega))
      rw [bS] at er ⊢
      show kOk (Option.bind (if t = 0 then some (1 : Int32) else some 0) fun t46 => Option.bind (kz t46) fun z48 => some (z48, M46)) _
      have er' : (if t = 0 then some ((1 : Int32), M46) else some (0, M46)) = some (r, M46) := er
      by_cases ht : t = 0
      · rw [if_pos ht] at er' ⊢
        cases er'
        exact kOk_i ⟨r1, t2, hup⟩
      · rw [if_neg ht] at er' ⊢
        cases er'
        exact kOk_i ⟨r1, t2, hup⟩
  · -- 3
    by_cases h34 : d3 = 0 ∧ d4 = 0
    · obtain ⟨rfl, rfl⟩ := h34
      obtain ⟨ok, b', g1, g2, g3⟩ := BT_r (u := 21) (k := d2) hI (by omega) 0 0
      refine ⟨ok, b', g1, fun M hc => ?_, fun M hm => ?_⟩
      · rw [if_neg (by decide), if_neg (by decide), if_pos (by decide), if_pos (by decide), if_pos (by decide)]
        exact hKz (P := fun M' => CR b' 21 M' ∧ frS (twn 21) M M') (hC0 (P := fun M' => CR b' 21 M' ∧ frS (twn 21) M M') (g2 M hc))
      · rw [bS, if_neg (by decide), if_neg (by decide), if_pos (by decide), bS, if_pos (by decide), if_pos (by decide)]
        refine hKz (P := fun M' => M' 236 = b' ∧ frS moE M M' ∧ fld M M') (hM0 (c := 114) (P := fun M' => M' 236 = b' ∧ frS moE M M' ∧ fld M M') (by unfold rcs; simp) (kWk _ (g3 _ (k236 (k236 hm)) (kup_s _ _ _ _) (by rw [kup_j _ _ _ (by omega), kup_s]) (fun z => absurd z (by decide)) (fun z => absurd z (by decide))) ?_))
        rintro q ⟨q1, q2, q3⟩
        exact ⟨q1, q2, md_up q3 (frE_k (frE_k frS.rf)) (fld_k (fld_k (fun _ _ => rfl) (by omega)) (by omega))⟩
    · refine ⟨false, b, hI, fun M hc => ?_, fun M hm => ?_⟩
      · rw [if_neg (by decide), if_neg (by decide), if_pos (by decide)]
        refine hKz (P := fun M' => CR b 21 M' ∧ frS (twn 21) M M') ?_
        by_cases h3 : d3 = 0
        · rw [if_pos (by rw [h3]; rfl), if_neg (fun z => h34 ⟨h3, (z0 _ (by omega)).mp z⟩)]
          exact kOk_i ⟨rfl, hc, frS.rf⟩
        · rw [if_neg (fun z => h3 ((z0 _ (by omega)).mp z))]
          exact kOk_i ⟨rfl, hc, frS.rf⟩
      · rw [bS, if_neg (by decide), if_neg (by decide), if_pos (by decide), bS]
        refine hKz (P := fun M' => M' 236 = b ∧ frS moE M M' ∧ fld M M') ?_
        have fin : kOk (some ((0 : Int32), kup (kup M 235 12 (nI d2)) 235 11 114)) (fun q => q.1 = b01 false ∧ q.2 236 = b ∧ frS moE M q.2 ∧ fld M q.2) := kfinE (k236 (k236 hm)) (frE_k (frE_k frS.rf)) (fld_k (fld_k (fun _ _ => rfl) (by omega)) (by omega))
        by_cases h3 : d3 = 0
        · rw [if_pos (by rw [h3]; rfl), if_neg (fun z => h34 ⟨h3, (z0 _ (by omega)).mp z⟩)]
          exact fin
        · rw [if_neg (fun z => h3 ((z0 _ (by omega)).mp z))]
          exact fin
  · -- 4
    by_cases h34 : d3 = 0 ∧ d4 = 0
    · obtain ⟨rfl, rfl⟩ := h34
      obtain ⟨ok, b', g1, g2, g3⟩ := BT_p (u := 21) (s := d2) hI (by omega) 0 0
      refine ⟨ok, b', g1, fun M hc => ?_, fun M hm => ?_⟩
      · rw [if_neg (by decide), if_neg (by decide), if_neg (by decide), if_pos (by decide), if_pos (by decide), if_pos (by decide)]
        exact hKz (P := fun M' => CR b' 21 M' ∧ frS (twn 21) M M') (hCn (P := fun M' => CR b' 21 M' ∧ frS (twn 21) M M') (g2 M hc))
      · rw [bS, if_neg (by decide), if_neg (by decide), if_neg (by decide), if_pos (by decide), bS, if_pos (by decide), if_pos (by decide)]
        refine hKz (P := fun M' => M' 236 = b' ∧ frS moE M M' ∧ fld M M') (hM9 (c := 112) (P := fun M' => M' 236 = b' ∧ frS moE M M' ∧ fld M M') (by unfold rcs; decide) (kWk _ (g3 _ (k236 (k236 hm)) (kup_s _ _ _ _) (by rw [kup_j _ _ _ (by omega), kup_s]) (fun z => absurd z (by decide)) (fun z => absurd z (by decide))) ?_))
        rintro q ⟨q1, q2, q3⟩
        exact ⟨q1, q2, md_up q3 (frE_k (frE_k frS.rf)) (fld_k (fld_k (fun _ _ => rfl) (by omega)) (by omega))⟩
    · refine ⟨false, b, hI, fun M hc => ?_, fun M hm => ?_⟩
      · rw [if_neg (by decide), if_neg (by decide), if_neg (by decide), if_pos (by decide)]
        refine hKz (P := fun M' => CR b 21 M' ∧ frS (twn 21) M M') ?_
        by_cases h3 : d3 = 0
        · rw [if_pos (by rw [h3]; rfl), if_neg (fun z => h34 ⟨h3, (z0 _ (by omega)).mp z⟩)]
          exact kOk_i ⟨rfl, hc, frS.rf⟩
        · rw [if_neg (fun z => h3 ((z0 _ (by omega)).mp z))]
          exact kOk_i ⟨rfl, hc, frS.rf⟩
      · rw [bS, if_neg (by decide), if_neg (by decide), if_neg (by decide), if_pos (by decide), bS]
        refine hKz (P := fun M' => M' 236 = b ∧ frS moE M M' ∧ fld M M') ?_
        have fin : kOk (some ((0 : Int32), kup (kup M 235 12 (nI d2)) 235 11 112)) (fun q => q.1 = b01 false ∧ q.2 236 = b ∧ frS moE M q.2 ∧ fld M q.2) := kfinE (k236 (k236 hm)) (frE_k (frE_k frS.rf)) (fld_k (fld_k (fun _ _ => rfl) (by omega)) (by omega))
        by_cases h3 : d3 = 0
        · rw [if_pos (by rw [h3]; rfl), if_neg (fun z => h34 ⟨h3, (z0 _ (by omega)).mp z⟩)]
          exact fin
        · rw [if_neg (fun z => h3 ((z0 _ (by omega)).mp z))]
          exact fin
  · -- 5
    have k1 : ∀ M : KMem, m_Sc_monthsPass 21 (nI d5) M = if 1 ≤ d5 ∧ d5 ≤ 60 then Option.bind (m_Tw_passMonths 21 (nI d5) M) fun (x6, M7) => Option.bind (kz 1) fun z8 => some (z8, M7) else some (0, M) := fun M => by
      unfold m_Sc_monthsPass
      by_cases h1 : 1 ≤ d5
      · rw [if_neg (by rw [show (1 : Int32) = nI 1 from rfl, nI_ltI (by omega) (by omega)]; omega)]
        by_cases h2 : d5 ≤ 60
        · rw [if_pos (by rw [show (60 : Int32) = nI 60 from rfl, nI_leI (by omega) (by omega)]; omega), if_pos ⟨h1, h2⟩]
        · rw [if_neg (by rw [show (60 : Int32) = nI 60 from rfl, nI_leI (by omega) (by omega)]; omega), if_neg (fun z => h2 z.2)]
          rfl
      · rw [if_pos (by rw [show (1 : Int32) = nI 1 from rfl, nI_ltI (by omega) (by omega)]; omega), if_neg (fun z => h1 z.1)]
        rfl
    have conv : ∀ {o : Option (Int32 × KMem)} {ok : Bool} {P : KMem → Prop}, kOk o (fun q => q.1 = b01 ok ∧ P q.2) → kOk (o.bind fun (x18, M19) => if x18 = 0 then some ((0 : Int32), M19) else some (1, M19)) (fun q => q.1 = b01 ok ∧ P q.2) := fun {o ok P} h => by
      obtain ⟨⟨x, M⟩, rfl, h1, h2⟩ := h
      simp only at h1
      subst h1
      rw [bS]
      cases ok with
      | true => exact kOk_i ⟨rfl, h2⟩
      | false => exact kOk_i ⟨rfl, h2⟩
    by_cases h2 : d2 = 0
    · subst h2
      by_cases h5 : 1 ≤ d5 ∧ d5 ≤ 60
      · obtain ⟨ok, b', g1, g2, g3⟩ := BT_m (u := 21) (n := d5) hI h5.1 h5.2 0 0
        refine ⟨ok, b', g1, fun M hc => ?_, fun M hm => ?_⟩
        · rw [if_neg (by decide), if_neg (by decide), if_neg (by decide), if_neg (by decide), if_pos (by decide), if_pos (by decide), k1, if_pos h5]
          refine hKz (P := fun M' => CR b' 21 M' ∧ frS (twn 21) M M') (conv (P := fun M' => CR b' 21 M' ∧ frS (twn 21) M M') ?_)
          obtain ⟨⟨t, M1⟩, e, t1, t2⟩ := g2 M hc
          rw [e]
          exact kOk_i ⟨by rw [show ok = true from t1.mpr trivial]; rfl, t2⟩
        · rw [bS, if_neg (by decide), if_neg (by decide), if_neg (by decide), if_neg (by decide), if_pos (by decide), bS, bS, if_pos (by decide)]
          refine hKz (P := fun M' => M' 236 = b' ∧ frS moE M M' ∧ fld M M') (hM9 (c := 109) (P := fun M' => M' 236 = b' ∧ frS moE M M' ∧ fld M M') (by unfold rcs; decide) (kWk _ (g3 _ (k236 (k236 (k236 hm))) (by rw [kup_j _ _ _ (by omega), kup_s]) (kup_s _ _ _ _) (fun z => absurd z (by decide)) (fun z => absurd z (by decide))) ?_))
          rintro q ⟨q1, q2, q3⟩
          exact ⟨q1, q2, md_up q3 (frE_k (frE_k (frE_k frS.rf))) (fld_k (fld_k (fld_k (fun _ _ => rfl) (by omega)) (by omega)) (by omega))⟩
      · refine ⟨false, b, hI, fun M hc => ?_, fun M hm => ?_⟩
        · rw [if_neg (by decide), if_neg (by decide), if_neg (by decide), if_neg (by decide), if_pos (by decide), if_pos (by decide), k1, if_neg h5]
          exact kOk_i ⟨rfl, hc, frS.rf⟩
        · rw [bS, if_neg (by decide), if_neg (by decide), if_neg (by decide), if_neg (by decide), if_pos (by decide), bS, bS, if_pos (by decide), does_m (by rw [kup_j _ _ _ (by omega), kup_s]), kup_s, does_no0 (show m_Mo_in (nI d5) 1 60 = some 0 from by rw [show m_Mo_in (nI d5) 1 60 = _ from in_n (lo := 1) (hi := 60) (by omega) (by omega) (by omega), if_neg h5])]
          exact kfinE (M1 := kup (kup (kup M 235 12 (nI 0)) 235 11 109) 235 12 (nI d5)) (k236 (k236 (k236 hm))) (frE_k (frE_k (frE_k frS.rf))) (fld_k (fld_k (fld_k (fun _ _ => rfl) (by omega)) (by omega)) (by omega))
    · refine ⟨false, b, hI, fun M hc => ?_, fun M hm => ?_⟩
      · rw [if_neg (by decide), if_neg (by decide), if_neg (by decide), if_neg (by decide), if_pos (by decide), if_neg (fun z => h2 ((z0 _ (by omega)).mp z))]
        exact kOk_i ⟨rfl, hc, frS.rf⟩
      · rw [bS, if_neg (by decide), if_neg (by decide), if_neg (by decide), if_neg (by decide), if_pos (by decide), bS, bS, if_neg (fun z => h2 ((z0 _ (by omega)).mp z))]
        exact kfinE (M1 := kup (kup (kup M 235 12 (nI d2)) 235 11 109) 235 12 (nI d5)) (k236 (k236 (k236 hm))) (frE_k (frE_k (frE_k frS.rf))) (fld_k (fld_k (fld_k (fun _ _ => rfl) (by omega)) (by omega)) (by omega))
  · -- 6
    by_cases h23 : d2 = 0 ∧ d3 = 0
    · obtain ⟨rfl, rfl⟩ := h23
      by_cases h4 : 1 ≤ d4
      · obtain ⟨ok, b', g1, g2, g3⟩ := BT_y (u := 21) (n := d4) hI h4 (by omega) 0 0
        refine ⟨ok, b', g1, fun M hc => ?_, fun M hm => ?_⟩
        · rw [if_neg (by decide), if_neg (by decide), if_neg (by decide), if_neg (by decide), if_neg (by decide), if_pos (by decide), if_pos (by decide), if_pos (by decide), if_neg (by rw [show (1 : Int32) = nI 1 from rfl, nI_ltI (by omega) (by omega)]; omega)]
          exact hKz (P := fun M' => CR b' 21 M' ∧ frS (twn 21) M M') (hCn (P := fun M' => CR b' 21 M' ∧ frS (twn 21) M M') (g2 M hc))
        · rw [bS, if_neg (by decide), if_neg (by decide), if_neg (by decide), if_neg (by decide), if_neg (by decide), if_pos (by decide), bS, bS, if_pos (by decide), if_pos (by decide)]
          refine hKz (P := fun M' => M' 236 = b' ∧ frS moE M M' ∧ fld M M') (hM9 (c := 121) (P := fun M' => M' 236 = b' ∧ frS moE M M' ∧ fld M M') (by unfold rcs; decide) (kWk _ (g3 _ (k236 (k236 (k236 hm))) (by rw [kup_j _ _ _ (by omega), kup_s]) (kup_s _ _ _ _) (fun z => absurd z (by decide)) (fun z => absurd z (by decide))) ?_))
          rintro q ⟨q1, q2, q3⟩
          exact ⟨q1, q2, md_up q3 (frE_k (frE_k (frE_k frS.rf))) (fld_k (fld_k (fld_k (fun _ _ => rfl) (by omega)) (by omega)) (by omega))⟩
      · have h40 : d4 = 0 := by omega
        subst h40
        refine ⟨false, b, hI, fun M hc => ?_, fun M hm => ?_⟩
        · rw [if_neg (by decide), if_neg (by decide), if_neg (by decide), if_neg (by decide), if_neg (by decide), if_pos (by decide), if_pos (by decide), if_pos (by decide), if_pos (by decide)]
          exact kOk_i ⟨rfl, hc, frS.rf⟩
        · rw [bS, if_neg (by decide), if_neg (by decide), if_neg (by decide), if_neg (by decide), if_neg (by decide), if_pos (by decide), bS, bS, if_pos (by decide), if_pos (by decide), does_y (by rw [kup_j _ _ _ (by omega), kup_s]), kup_s]
          rcases errAmn_c (v := 235) (M := kup (kup (kup M 235 12 (nI 0)) 235 11 121) 235 12 (nI 0)) (nI 0) with ⟨m, q1, q2, q3, q4, q5⟩ | ⟨q1, q2⟩ | ⟨m, q1, q2, q3, q4, q5⟩
          · rw [nI_eq (by omega) (by omega)] at q3; omega
          · rw [does_no q2 (by decide)]
            exact kfinE (M1 := kup (kup (kup M 235 12 (nI 0)) 235 11 121) 235 12 (nI 0)) (k236 (k236 (k236 hm))) (frE_k (frE_k (frE_k frS.rf))) (fld_k (fld_k (fld_k (fun _ _ => rfl) (by omega)) (by omega)) (by omega))
          · rw [nI_eq (by omega) (by omega)] at q3; omega
    · refine ⟨false, b, hI, fun M hc => ?_, fun M hm => ?_⟩
      · rw [if_neg (by decide), if_neg (by decide), if_neg (by decide), if_neg (by decide), if_neg (by decide), if_pos (by decide)]
        refine hKz (P := fun M' => CR b 21 M' ∧ frS (twn 21) M M') ?_
        by_cases h3 : d2 = 0
        · rw [if_pos (by rw [h3]; rfl), if_neg (fun z => h23 ⟨h3, (z0 _ (by omega)).mp z⟩)]
          exact kOk_i ⟨rfl, hc, frS.rf⟩
        · rw [if_neg (fun z => h3 ((z0 _ (by omega)).mp z))]
          exact kOk_i ⟨rfl, hc, frS.rf⟩
      · rw [bS, if_neg (by decide), if_neg (by decide), if_neg (by decide), if_neg (by decide), if_neg (by decide), if_pos (by decide), bS, bS]
        refine hKz (P := fun M' => M' 236 = b ∧ frS moE M M' ∧ fld M M') ?_
        have fin : kOk (some ((0 : Int32), kup (kup (kup M 235 12 (nI d2)) 235 11 121) 235 12 (nI d4))) (fun q => q.1 = b01 false ∧ q.2 236 = b ∧ frS moE M q.2 ∧ fld M q.2) := kfinE (k236 (k236 (k236 hm))) (frE_k (frE_k (frE_k frS.rf))) (fld_k (fld_k (fld_k (fun _ _ => rfl) (by omega)) (by omega)) (by omega))
        by_cases h3 : d2 = 0
        · rw [if_pos (by rw [h3]; rfl), if_neg (fun z => h23 ⟨h3, (z0 _ (by omega)).mp z⟩)]
          exact fin
        · rw [if_neg (fun z => h3 ((z0 _ (by omega)).mp z))]
          exact fin
  · -- 7
    by_cases h3 : d3 = 0 ∧ d2 < sN b
    · obtain ⟨rfl, hs⟩ := h3
      have ha8 := ap_8 hI.1 hs
      refine ⟨decide (apA b d2 ≤ d4), b, hI, fun M hc => ?_, fun M hm => ?_⟩
      · rw [if_neg (by decide), if_neg (by decide), if_neg (by decide), if_neg (by decide), if_neg (by decide), if_neg (by decide), if_pos (by decide), if_pos (by decide), hasSign_y (hc.n hI.1) h8 hs, bS, if_neg u10]
        refine hKz (P := fun M' => CR b 21 M' ∧ frS (twn 21) M M') ?_
        obtain ⟨⟨t, M1⟩, e, t1, t2⟩ := lettersWrong_ok hc hI.1 hs
        simp only at t1 t2
        subst t1
        rw [e, bS]
        show kOk (if nI d4 < nI (apA b d2) then _ else _) _
        by_cases h4 : apA b d2 ≤ d4
        · rw [if_neg (by rw [nI_ltI (by omega) (by omega)]; omega)]
          exact kOk_i ⟨by simp [h4], hc.sc t2, scr_twn t2⟩
        · rw [if_pos (by rw [nI_ltI (by omega) (by omega)]; omega)]
          exact kOk_i ⟨by simp [h4], hc.sc t2, scr_twn t2⟩
      · rw [bS, if_neg (by decide), if_neg (by decide), if_neg (by decide), if_neg (by decide), if_neg (by decide), if_neg (by decide), if_pos (by decide), if_pos (by decide)]
        refine hKz (P := fun M' => M' 236 = b ∧ frS moE M M' ∧ fld M M') ?_
        have hm2 : kup M 235 12 (nI d2) (235 + 1) = b := k236 hm
        rcases isSign_c (v := 235) (M := kup M 235 12 (nI d2)) (n := sN b) (nI d2) (by rw [hm2]; exact hI.1.1.2) (by omega) with ⟨s', q1, q2, q3⟩ | ⟨q1, q2⟩
        · rw [q3, bS, if_neg u10]
          obtain ⟨⟨t, M1⟩, e, t1, t2⟩ := MapartBy (v := 235) (M := kup M 235 12 (nI d2)) (s := d2) (by rw [hm2]; exact hI.1) (by rw [hm2]; exact hs)
          rw [hm2] at t1
          simp only at t1 t2
          subst t1
          rw [e, bS]
          have hup := md_up (t2.wk (fun o (ho : o = 235 + 6) => Or.inr (Or.inl ho))) (frE_k (j := 12) (v := nI d2) (frS.rf (M := M))) (fld_k (fun _ _ => rfl) (by omega))
          have m236 : M1 236 = b := (t2 236 (by omega)).trans (k236 hm)
          show kOk (if nI d4 < nI (apA b d2) then _ else _) _
          by_cases h4 : apA b d2 ≤ d4
          · rw [if_neg (by rw [nI_ltI (by omega) (by omega)]; omega)]
            exact kOk_i ⟨by simp [h4], m236, hup⟩
          · rw [if_pos (by rw [nI_ltI (by omega) (by omega)]; omega)]
            exact kOk_i ⟨by simp [h4], m236, hup⟩
        · exfalso
          rcases q1 with e | e
          · exact nI_pos (by omega) e
          · rw [nI_leI (by omega) (by omega)] at e; omega
    · refine ⟨false, b, hI, fun M hc => ?_, fun M hm => ?_⟩
      · rw [if_neg (by decide), if_neg (by decide), if_neg (by decide), if_neg (by decide), if_neg (by decide), if_neg (by decide), if_pos (by decide)]
        refine hKz (P := fun M' => CR b 21 M' ∧ frS (twn 21) M M') ?_
        by_cases h30 : d3 = 0
        · rw [if_pos (by rw [h30]; rfl), hasSign_n (hc.n hI.1) h8 (by omega) (by omega), bS, if_pos rfl]
          exact kOk_i ⟨rfl, hc, frS.rf⟩
        · rw [if_neg (fun z => h30 ((z0 _ (by omega)).mp z))]
          exact kOk_i ⟨rfl, hc, frS.rf⟩
      · rw [bS, if_neg (by decide), if_neg (by decide), if_neg (by decide), if_neg (by decide), if_neg (by decide), if_neg (by decide), if_pos (by decide)]
        refine hKz (P := fun M' => M' 236 = b ∧ frS moE M M' ∧ fld M M') ?_
        have fin : kOk (some ((0 : Int32), kup M 235 12 (nI d2))) (fun q => q.1 = b01 false ∧ q.2 236 = b ∧ frS moE M q.2 ∧ fld M q.2) := kfinE (k236 hm) (frE_k frS.rf) (fld_k (fun _ _ => rfl) (by omega))
        by_cases h30 : d3 = 0
        · rw [if_pos (by rw [h30]; rfl)]
          have hm2 : kup M 235 12 (nI d2) (235 + 1) = b := k236 hm
          rcases isSign_c (v := 235) (M := kup M 235 12 (nI d2)) (n := sN b) (nI d2) (by rw [hm2]; exact hI.1.1.2) (by omega) with ⟨s', q1, q2, q3⟩ | ⟨q1, q2⟩
          · rw [nI_eq (by omega) (by omega)] at q2; omega
          · rw [q2, bS, if_pos rfl]; exact fin
        · rw [if_neg (fun z => h30 ((z0 _ (by omega)).mp z))]
          exact fin
  · -- 8
    obtain ⟨w, hw, ew⟩ := wrC_n b (sN b)
    refine ⟨decide (d2 = 0 ∧ d3 = 0 ∧ w ≤ d4), b, hI, fun M hc => ?_, fun M hm => ?_⟩
    · rw [if_neg (by decide), if_neg (by decide), if_neg (by decide), if_neg (by decide), if_neg (by decide), if_neg (by decide), if_neg (by decide), if_pos (by decide), wrongSigns_ok hc hI.1, ew, bS]
      by_cases h2 : d2 = 0
      · rw [if_pos (by rw [h2]; rfl)]
        by_cases h3 : d3 = 0
        · rw [if_pos (by rw [h3]; rfl)]
          by_cases h4 : w ≤ d4
          · rw [if_neg (by rw [nI_ltI (by omega) (by omega)]; omega)]
            exact kOk_i ⟨by simp [h2, h3, h4], hc, frS.rf⟩
          · rw [if_pos (by rw [nI_ltI (by omega) (by omega)]; omega)]
            exact kOk_i ⟨by simp [h4], hc, frS.rf⟩
        · rw [if_neg (fun z => h3 ((z0 _ (by omega)).mp z))]
          exact kOk_i ⟨by simp [h3], hc, frS.rf⟩
      · rw [if_neg (fun z => h2 ((z0 _ (by omega)).mp z))]
        exact kOk_i ⟨by simp [h2], hc, frS.rf⟩
    · have hm2 : kup M 235 12 (nI d2) (235 + 1) = b := k236 hm
      have hwm := Mwrongs (v := 235) (M := kup M 235 12 (nI d2)) (by rw [hm2]; exact hI.1)
      rw [hm2] at hwm
      rw [bS, if_neg (by decide), if_neg (by decide), if_neg (by decide), if_neg (by decide), if_neg (by decide), if_neg (by decide), if_neg (by decide), if_pos (by decide), hwm, ew, bS]
      have hfin : frS moE M (kup M 235 12 (nI d2)) ∧ fld M (kup M 235 12 (nI d2)) := ⟨frE_k frS.rf, fld_k (fun _ _ => rfl) (by omega)⟩
      by_cases h2 : d2 = 0
      · rw [if_pos (by rw [h2]; rfl)]
        by_cases h3 : d3 = 0
        · rw [if_pos (by rw [h3]; rfl)]
          by_cases h4 : w ≤ d4
          · rw [if_neg (by rw [nI_ltI (by omega) (by omega)]; omega)]
            exact kOk_i ⟨by simp [h2, h3, h4], hm2, hfin⟩
          · rw [if_pos (by rw [nI_ltI (by omega) (by omega)]; omega)]
            exact kOk_i ⟨by simp [h4], hm2, hfin⟩
        · rw [if_neg (fun z => h3 ((z0 _ (by omega)).mp z))]
          exact kOk_i ⟨by simp [h3], hm2, hfin⟩
      · rw [if_neg (fun z => h2 ((z0 _ (by omega)).mp z))]
        exact kOk_i ⟨by simp [h2], hm2, hfin⟩
  · -- 9
    have bzb : ∀ p : Prop, ∃ ok : Bool, (ok = true ↔ p) := fun p => by
      by_cases h : p
      · exact ⟨true, fun _ => h, fun _ => rfl⟩
      · exact ⟨false, fun z => absurd z (by decide), fun z => (h z).elim⟩
    obtain ⟨ok, hok⟩ := bzb (d2 < 4 ∧ ¬ b (98 + d2) < nI d5)
    refine ⟨ok, b, hI, fun M hc => ?_, fun M hm => ?_⟩
    · rw [if_neg (by decide), if_neg (by decide), if_neg (by decide), if_neg (by decide), if_neg (by decide), if_neg (by decide), if_neg (by decide), if_neg (by decide), if_pos (by decide)]
      by_cases h2 : d2 < 4
      · rw [if_neg (show ¬ 4 ≤ nI d2 from fun z => by rw [show (4 : Int32) = nI 4 from rfl, nI_leI (by omega) (by omega)] at z; omega), rdN (by omega) (by omega), bS, show M (21 + 10) d2 = b (98 + d2) from (hc.2.2.2.1 d2 h2).1]
        by_cases h5 : b (98 + d2) < nI d5
        · rw [if_pos h5]; exact kOk_i ⟨(if_neg (fun z => (hok.mp z).2 h5)).symm, hc, frS.rf⟩
        · rw [if_neg h5]; exact kOk_i ⟨(if_pos (hok.mpr ⟨h2, h5⟩)).symm, hc, frS.rf⟩
      · rw [if_pos (show 4 ≤ nI d2 from (nI_leI (a := 4) (by omega) (by omega)).mpr (by omega))]
        exact kOk_i ⟨(if_neg (fun z => h2 (hok.mp z).1)).symm, hc, frS.rf⟩
    · have hm2 : kup M 235 12 (nI d2) (235 + 1) = b := k236 hm
      have hfin : frS moE M (kup M 235 12 (nI d2)) ∧ fld M (kup M 235 12 (nI d2)) := ⟨frE_k frS.rf, fld_k (fun _ _ => rfl) (by omega)⟩
      rw [bS, if_neg (by decide), if_neg (by decide), if_neg (by decide), if_neg (by decide), if_neg (by decide), if_neg (by decide), if_neg (by decide), if_neg (by decide), if_pos (by decide)]
      by_cases h2 : d2 < 4
      · rw [if_neg (show ¬ 4 ≤ nI d2 from fun z => by rw [show (4 : Int32) = nI 4 from rfl, nI_leI (by omega) (by omega)] at z; omega), show (98 : Int32) + nI d2 = nI (98 + d2) from nI_add _ _, rdN (by omega) (by omega), bS, hm2]
        by_cases h5 : b (98 + d2) < nI d5
        · rw [if_pos h5]; exact kOk_i ⟨(if_neg (fun z => (hok.mp z).2 h5)).symm, hm2, hfin⟩
        · rw [if_neg h5]; exact kOk_i ⟨(if_pos (hok.mpr ⟨h2, h5⟩)).symm, hm2, hfin⟩
      · rw [if_pos (show 4 ≤ nI d2 from (nI_leI (a := 4) (by omega) (by omega)).mpr (by omega))]
        exact kOk_i ⟨(if_neg (fun z => h2 (hok.mp z).1)).symm, hm2, hfin⟩
