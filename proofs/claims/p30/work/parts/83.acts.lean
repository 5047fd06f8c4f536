/-! P30: the law's small methods; an act by a cell -/
theorem low_ok (v : Int32) {n : Nat} (h0 : 0 < n) (hn : n < 2 ^ 31) : ∃ r, r < n ∧ m_La_low v (nI n) = some (nI r) := by
  have hm : (2147483647 : Int32).toBitVec.toNat = 2 ^ 31 - 1 := by decide
  obtain ⟨j, hj, e⟩ := pk_andE v 31 hm
  refine ⟨j % n, Nat.mod_lt _ h0, ?_⟩
  unfold m_La_low
  rw [e]
  unfold rmI
  rw [if_neg (nI_ne0 h0 hn), bS, remN hj h0 hn]
theorem word_ok (v : Int32) : ∃ w, m_La_word v = some w := by
  have h : kOk (m_La_word v) (fun _ => True) := by
    unfold m_La_word
    obtain ⟨r, hr, e⟩ := low_ok v (n := 8) (by omega) (by omega)
    rw [show m_La_low v 8 = some (nI r) from e, bS]
    refine kB (fun _ => True) (kFor (fun i s => ∃ w, s = (w, nI i)) (1 + r) ?_ ?_ (i0 := 0) (by omega) (by omega) ⟨0, rfl⟩) (fun x _ => kOk_i trivial)
    · rintro i _ hi ⟨w, rfl⟩
      have hc : ∀ q, ∃ z, m_La_low q (if ((jshr v 19) &&& 1) = 0 then 6 else 3) = some z := fun q => by
        split
        · obtain ⟨z, -, h⟩ := low_ok q (n := 6) (by omega) (by omega); exact ⟨_, h⟩
        · obtain ⟨z, -, h⟩ := low_ok q (n := 3) (by omega) (by omega); exact ⟨_, h⟩
      obtain ⟨z, hz⟩ := hc (jshr v (3 + 2 * nI i))
      refine Or.inl ⟨(((10 * w) + 1) + z, nI (i + 1)), ?_, _, rfl⟩
      unfold m_La_word_l13
      show (if 1 + nI r ≤ nI i then _ else _) = _
      rw [if_neg (by rw [show (1 : Int32) + nI r = nI (1 + r) from nI_add 1 r, nI_leI (by omega) (by omega)]; omega), bI, hz, bS, nI_1]
    · rintro _ ⟨w, rfl⟩
      refine ⟨w, ?_, trivial⟩
      unfold m_La_word_l13
      show (if 1 + nI r ≤ nI (1 + r) then _ else _) = _
      rw [if_pos (by rw [show (1 : Int32) + nI r = nI (1 + r) from nI_add 1 r]; exact Int32.le_refl _)]
  obtain ⟨w, e, -⟩ := h
  exact ⟨w, e⟩
theorem letters_n {l : List Nat} (h : wl l) (hl : l.length ≤ 8) : m_La_letters (wN l) = some (nI l.length) := by
  refine kEx ?_
  unfold m_La_letters
  rw [wN_rev]
  refine kB (fun r => r = nI l.length) (kDig (fun l' i s => s = (nI i, wR l') ∧ l'.length + i = l.length) ?_ ?_ (l := l.reverse) (i := 0) (wl_rev.mpr h) (by simpa using hl) ⟨rfl, by simp⟩) (fun x hx => kOk_i hx)
  · rintro i _ hi ⟨rfl, hacc⟩
    exact ⟨nI i, by simp only [m_La_letters_l4]; rfl, by simp at hacc; rw [hacc]⟩
  · rintro d l' i _ hw hl hi ⟨rfl, hacc⟩
    refine Or.inl ⟨(nI (i + 1), wR l'), l', i + 1, ?_, Nat.le_refl _, (wl_cons.mp hw).2, by simp; omega, rfl, by simp at hacc; omega⟩
    have e : (wR (d :: l') ≤ 0) = False := eq_false (nI_nle (vr_pos l' (wl_cons.mp hw).1.1) (by have := vr_8 hw hl; omega))
    simp only [m_La_letters_l4, e, wR_div hw hl, if_false, nI_1]
theorem letters_v {w : Int32} (h : vW w) : m_La_letters w = some (nI (nl w)) := by
  obtain ⟨h1, h2, h3⟩ := vW_dg h
  have := letters_n h1 h2
  rw [← h3] at this
  exact this
/-! an act, with the row behind it and what is written into the law's int -/
/-- at any object: r is 0 and b comes, v is told; or r is not 0 and nothing changes -/
def Act3 (a : Row) (f : Nat → KMem → Option (Int32 × KMem)) : Prop :=
  (∃ r, r ≠ 0 ∧ ∀ t H k M, GO t a H k M → t ≤ 235 → kOk (f t M) (fun q => q.1 = r ∧ GO t a H k q.2 ∧ frS (rg t) M q.2)) ∨
  ∃ v b, Nx a b ∧ ∀ t H k M, GO t a H k M → t ≤ 235 → kOk (f t M) (fun q => q.1 = 0 ∧ GO t b (pushH H k a) (min k 13 + 1) q.2 ∧ q.2 470 0 = v ∧ frS (fun o => rg t o ∨ o = 470) M q.2)
theorem w470 {M : KMem} {v : Int32} : wrI M 470 1 0 v = some (kup M 470 0 v) := wrN (j := 0) (by omega) (by omega)
theorem r470 {M : KMem} : rdI M 470 1 0 = some (M 470 0) := rdN (j := 0) (by omega) (by omega)
/-- a wrapper that catches what f throws -/
def wrapF (n : String → Option Int32) (f : Nat → KMem → Option ((String ⊕ Int32) × KMem)) (t : Nat) (M : KMem) : Option (Int32 × KMem) :=
  Option.bind (f t M) fun (r, M1) => match r with
  | .inl E => (n E).map (fun c => (c, M1))
  | .inr x => Option.bind (wrI M1 470 1 0 x) fun M2 => some (0, M2)
theorem wrap_ok {a : Row} {xs : List String} {n : String → Option Int32} {f : Nat → KMem → Option ((String ⊕ Int32) × KMem)} (h : ActP xs a f) (hn : ∀ E, E ∈ xs → ∃ c, n E = some c ∧ c ≠ 0) : Act3 a (wrapF n f) := by
  rcases h with ⟨E, hE, h⟩ | ⟨v, b, hb, h⟩
  · obtain ⟨c, hc, hc0⟩ := hn E hE
    refine Or.inl ⟨c, hc0, fun t H k M hg _ => ?_⟩
    unfold wrapF
    rw [h t H k M hg, bS]
    show kOk ((n E).map _) _
    rw [hc]
    exact kOk_i ⟨rfl, hg, frS.rf⟩
  · refine Or.inr ⟨v, b, hb, fun t H k M hg ht => ?_⟩
    unfold wrapF
    refine kB _ (h t H k M hg) ?_
    rintro ⟨r, M1⟩ ⟨h1, h2, h3⟩
    simp only at h1 h2 h3
    subst h1
    show kOk (Option.bind (wrI M1 470 1 0 v) _) _
    rw [w470, bS]
    exact kOk_i ⟨rfl, h2.fr (S := fun o => o = 470) (frS.up rfl) (fun o ho => by omega), show kup M1 470 0 v 470 0 = v from kup_s _ _ _ _, (h3.wk (fun o ho => Or.inl ho)).tr (frS.up (Or.inr rfl))⟩
def n3 (E : String) : Option Int32 := if E = "java/lang/IndexOutOfBoundsException" then some 1 else if E = "java/lang/IllegalArgumentException" then some 2 else if E = "java/lang/IllegalStateException" then some 3 else none
def n2 (E : String) : Option Int32 := if E = "java/lang/IllegalArgumentException" then some 2 else if E = "java/lang/IllegalStateException" then some 3 else none
theorem n3_ok : ∀ E, E ∈ [eI, eA, eS] → ∃ c, n3 E = some c ∧ c ≠ 0 := by
  intro E h
  simp only [List.mem_cons, List.not_mem_nil, or_false] at h
  rcases h with rfl | rfl | rfl
  · exact ⟨1, by decide, by decide⟩
  · exact ⟨2, by decide, by decide⟩
  · exact ⟨3, by decide, by decide⟩
theorem n2_ok : ∀ E, E ∈ [eA, eS] → ∃ c, n2 E = some c ∧ c ≠ 0 := by
  intro E h
  simp only [List.mem_cons, List.not_mem_nil, or_false] at h
  rcases h with rfl | rfl
  · exact ⟨2, by decide, by decide⟩
  · exact ⟨3, by decide, by decide⟩
theorem ch_tail (o : Option ((String ⊕ Int32) × KMem)) : (Option.bind o fun (r, M1) => match r with
  | .inl E => (if E = "java/lang/IndexOutOfBoundsException" then (some ((1 : Int32), M1)) else (if E = "java/lang/IllegalArgumentException" then (some (2, M1)) else (if E = "java/lang/IllegalStateException" then (some (3, M1)) else none)))
  | .inr x => (Option.bind (wrI M1 470 1 0 x) fun M2 => some (0, M2))) = (Option.bind o fun (r, M1) => match r with
  | .inl E => (n3 E).map (fun c => (c, M1))
  | .inr x => Option.bind (wrI M1 470 1 0 x) fun M2 => some (0, M2)) := by
  congr 1
  funext ⟨r, M1⟩
  cases r with
  | inr x => rfl
  | inl E =>
    dsimp only
    unfold n3
    by_cases h1 : E = "java/lang/IndexOutOfBoundsException"
    · rw [if_pos h1, if_pos h1]; rfl
    · rw [if_neg h1, if_neg h1]
      by_cases h2 : E = "java/lang/IllegalArgumentException"
      · rw [if_pos h2, if_pos h2]; rfl
      · rw [if_neg h2, if_neg h2]
        by_cases h3 : E = "java/lang/IllegalStateException"
        · rw [if_pos h3, if_pos h3]; rfl
        · rw [if_neg h3, if_neg h3]; rfl
theorem de_tail (o : Option ((String ⊕ Int32) × KMem)) : (Option.bind o fun (r, M1) => match r with
  | .inl E => (if E = "java/lang/IllegalArgumentException" then (some ((2 : Int32), M1)) else (if E = "java/lang/IllegalStateException" then (some (3, M1)) else none))
  | .inr x => (Option.bind (wrI M1 470 1 0 x) fun M2 => some (0, M2))) = (Option.bind o fun (r, M1) => match r with
  | .inl E => (n2 E).map (fun c => (c, M1))
  | .inr x => Option.bind (wrI M1 470 1 0 x) fun M2 => some (0, M2)) := by
  congr 1
  funext ⟨r, M1⟩
  cases r with
  | inr x => rfl
  | inl E =>
    dsimp only
    unfold n2
    by_cases h2 : E = "java/lang/IllegalArgumentException"
    · rw [if_pos h2, if_pos h2]; rfl
    · rw [if_neg h2, if_neg h2]
      by_cases h3 : E = "java/lang/IllegalStateException"
      · rw [if_pos h3, if_pos h3]; rfl
      · rw [if_neg h3, if_neg h3]; rfl
theorem Act3.eq {a : Row} {f g : Nat → KMem → Option (Int32 × KMem)} (h : Act3 a f) (e : ∀ t M, g t M = f t M) : Act3 a g := by
  have : g = f := by funext t M; exact e t M
  rw [this]
  exact h
theorem ch_eq (p1 p2 p3 : Int32) (t : Nat) (M : KMem) : m_La_changes t p1 p2 p3 470 1 M = wrapF n3 (fun t M => if p1 = 0 then m_SR_sign t p2 p3 M else if p1 = 1 then m_SR_revoke t p2 M else if p1 = 2 then m_SR_paint t p2 M else if p1 = 3 then m_SR_months t p2 M else if p1 = 4 then m_SR_amnesty t p2 M else m_SR_set t p2 p3 M) t M := by
  unfold m_La_changes wrapF
  by_cases h0 : p1 = 0
  · simp only [if_pos h0]; exact ch_tail _
  · simp only [if_neg h0]
    by_cases h1 : p1 = 1
    · simp only [if_pos h1]; exact ch_tail _
    · simp only [if_neg h1]
      by_cases h2 : p1 = 2
      · simp only [if_pos h2]; exact ch_tail _
      · simp only [if_neg h2]
        by_cases h3 : p1 = 3
        · simp only [if_pos h3]; exact ch_tail _
        · simp only [if_neg h3]
          by_cases h4 : p1 = 4
          · simp only [if_pos h4]; exact ch_tail _
          · simp only [if_neg h4]; exact ch_tail _
theorem changes_ok {a : Row} (hI : Inv a) (p1 p2 p3 : Int32) : Act3 a (fun t M => m_La_changes t p1 p2 p3 470 1 M) := by
  refine Act3.eq (wrap_ok (xs := [eI, eA, eS]) ?_ n3_ok) (fun t M => ch_eq p1 p2 p3 t M)
  by_cases h0 : p1 = 0
  · simp only [if_pos h0]; exact act_sign hI p2 p3
  · simp only [if_neg h0]
    by_cases h1 : p1 = 1
    · simp only [if_pos h1]; exact act_revoke hI p2
    · simp only [if_neg h1]
      by_cases h2 : p1 = 2
      · simp only [if_pos h2]; exact act_paint hI p2
      · simp only [if_neg h2]
        by_cases h3 : p1 = 3
        · simp only [if_pos h3]; exact act_months hI p2
        · simp only [if_neg h3]
          by_cases h4 : p1 = 4
          · simp only [if_pos h4]; exact act_amnesty hI p2
          · simp only [if_neg h4]; exact act_set hI p2 p3
theorem decrees_ok {a : Row} (hI : Inv a) (p1 p2 p3 p4 : Int32) : Act3 a (fun t M => m_La_decrees t p1 p2 p3 p4 470 1 M) := by
  refine Act3.eq (wrap_ok (act_decree hI p1 p2 p3 p4) n2_ok) (fun t M => ?_)
  unfold m_La_decrees wrapF
  exact de_tail _
theorem undoes_ok {t : Nat} {a : Row} {H : Nat → Row} {k : Nat} {M : KMem} (h : GO t a H k M) (hk : 0 < k) (ht : t ≤ 235) :
    kOk (m_La_undoes t 470 1 M) (fun q => q.1 = 0 ∧ GO t (H (k - 1)) H (k - 1) q.2 ∧ q.2 470 0 = nI (k - 1) ∧ frS (fun o => rg t o ∨ o = 470) M q.2) := by
  unfold m_La_undoes
  refine kB _ (sr_undo h hk) ?_
  rintro ⟨r, M1⟩ ⟨h1, h2, h3⟩
  simp only at h1 h2 h3
  subst h1
  show kOk (Option.bind (wrI M1 470 1 0 (nI (k - 1))) _) _
  rw [w470, bS]
  exact kOk_i ⟨rfl, h2.fr (S := fun o => o = 470) (frS.up rfl) (fun o ho => by omega), show kup M1 470 0 (nI (k - 1)) 470 0 = nI (k - 1) from kup_s _ _ _ _, (h3.wk (fun o ho => Or.inl ho)).tr (frS.up (Or.inr rfl))⟩
/-- what comes ahead of an act may write scratch -/
theorem Act3.sc {a : Row} {f : Nat → KMem → Option (Int32 × KMem)} {g : Int32 → Nat → KMem → Option (Int32 × KMem)} {z : Int32} (h : Act3 a (g z)) (e : ∀ t H k M, GO t a H k M → t ≤ 235 → ∃ M1, frS (scr (t + 3)) M M1 ∧ f t M = g z t M1) : Act3 a f := by
  rcases h with ⟨r, h0, h⟩ | ⟨v, b, hb, h⟩
  · refine Or.inl ⟨r, h0, fun t H k M hg ht => ?_⟩
    obtain ⟨M1, h1, h2⟩ := e t H k M hg ht
    rw [h2]
    refine kWk _ (h t H k M1 (hg.sc h1) ht) ?_
    rintro q ⟨q1, q2, q3⟩
    exact ⟨q1, q2, (scr_rg h1).tr q3⟩
  · refine Or.inr ⟨v, b, hb, fun t H k M hg ht => ?_⟩
    obtain ⟨M1, h1, h2⟩ := e t H k M hg ht
    rw [h2]
    refine kWk _ (h t H k M1 (hg.sc h1) ht) ?_
    rintro q ⟨q1, q2, q3, q4⟩
    exact ⟨q1, q2, q3, ((scr_rg h1).wk (fun o ho => Or.inl ho)).tr q4⟩
theorem kP2 (o : Option (Int32 × KMem)) : (Option.bind o fun (x, M1) => some (x, M1)) = o := by
  cases o with
  | none => rfl
  | some q => rfl
/-- how many there are, as the law asks for it ahead of an act -/
theorem many_ok {t j : Nat} {a : Row} {H : Nat → Row} {k : Nat} {M : KMem} {t5 : Int32} (h : GO t a H k M) (hj : j ≤ 11) :
    kOk (if t5 = 0 then
 (Option.bind (m_Sn_about t (nI j) M) fun (x55, M56) =>
 some (x55 + 1, M56))
 else
 (Option.bind (m_Sn_about t (nI j) M) fun (x58, M59) =>
 if x58 ≤ 0 then
 (Option.bind (m_Sn_about t (nI j) M59) fun (x62, M63) =>
 some (x62 + 1, M63))
 else
 (Option.bind (m_Sn_about t (nI j) M59) fun (x65, M66) =>
 some (x65, M66)))) (fun q => q.1 = (if t5 = 0 then abV a j + 1 else if abV a j ≤ 0 then abV a j + 1 else abV a j) ∧ frS (scr (t + 3)) M q.2) := by
  obtain ⟨⟨x, M1⟩, e1, f1, g1⟩ := q_about h hj
  simp only at f1 g1
  subst f1
  obtain ⟨⟨x, M2⟩, e2, f2, g2⟩ := q_about (h.sc g1) hj
  simp only at f2 g2
  subst f2
  rw [e1]
  by_cases h5 : t5 = 0
  · simp only [if_pos h5, bS]
    exact kOk_i ⟨rfl, g1⟩
  · simp only [if_neg h5, bS]
    by_cases h6 : abV a j ≤ 0
    · simp only [if_pos h6, e2, bS]
      exact kOk_i ⟨rfl, g1.tr g2⟩
    · simp only [if_neg h6, e2, bS]
      exact kOk_i ⟨rfl, g1.tr g2⟩
theorem many_pos {a : Row} {j n : Nat} {t5 : Int32} (h : abV a j = nI n) (hn : n ≤ 10) : ∃ q, 0 < q ∧ q ≤ 11 ∧ (if t5 = 0 then abV a j + 1 else if abV a j ≤ 0 then abV a j + 1 else abV a j) = nI q := by
  rw [h, nI_1]
  by_cases h5 : t5 = 0
  · exact ⟨n + 1, by omega, by omega, if_pos h5⟩
  · rw [if_neg h5]
    by_cases h6 : n = 0
    · exact ⟨n + 1, by omega, by omega, if_pos (by rw [h6]; decide)⟩
    · exact ⟨n, by omega, by omega, if_neg (nI_nle (by omega) (by omega))⟩
theorem low_i (q : Int32) {c : Prop} [Decidable c] {m n : Nat} (hm : 0 < m ∧ m < 2 ^ 31) (hn : 0 < n ∧ n < 2 ^ 31) : ∃ z, m_La_low q (if c then nI m else nI n) = some z := by
  split
  · obtain ⟨z, -, h⟩ := low_ok q hm.1 hm.2; exact ⟨_, h⟩
  · obtain ⟨z, -, h⟩ := low_ok q hn.1 hn.2; exact ⟨_, h⟩
theorem low_6 (q : Int32) : ∃ z, m_La_low q 6 = some z := by
  obtain ⟨z, -, h⟩ := low_ok q (n := 6) (by omega) (by omega)
  exact ⟨_, h⟩
/-- an act by any cell -/
theorem act_ok {a : Row} (hI : Inv a) (v : Int32) : Act3 a (fun t M => m_La_act t v 470 1 M) := by
  obtain ⟨w, hw, e1⟩ := low_ok v (n := 32) (by omega) (by omega)
  obtain ⟨y, hy, e2⟩ := low_ok (jshr v 22) (n := 7) (by omega) (by omega)
  have e1' : m_La_low v 32 = some (nI w) := e1
  have e2' : m_La_low (jshr v 22) 7 = some (nI y) := e2
  obtain ⟨t5, ht5⟩ : ∃ t5 : Int32, (if nI y ≤ 0 then (some 0 : Option Int32) else some 1) = some t5 := by split <;> exact ⟨_, rfl⟩
  have p10 : (10 ≤ nI w) ↔ 10 ≤ w := nI_leI (a := 10) (by omega) (by omega)
  have p17 : (17 ≤ nI w) ↔ 17 ≤ w := nI_leI (a := 17) (by omega) (by omega)
  have p19 : (19 ≤ nI w) ↔ 19 ≤ w := nI_leI (a := 19) (by omega) (by omega)
  have p23 : (23 ≤ nI w) ↔ 23 ≤ w := nI_leI (a := 23) (by omega) (by omega)
  have p25 : (25 ≤ nI w) ↔ 25 ≤ w := nI_leI (a := 25) (by omega) (by omega)
  have q25 : (nI w = 25) ↔ w = 25 := nI_eq (b := 25) (by omega) (by omega)
  by_cases h10 : 10 ≤ w
  · by_cases h17 : 17 ≤ w
    · by_cases h19 : 19 ≤ w
      · by_cases h23 : 23 ≤ w
        · by_cases h25 : 25 ≤ w
          · by_cases h26 : w = 25
            · obtain ⟨z1, f1⟩ := low_i (jshr v 5) (c := t5 = 0) (m := 3) (n := 2) (by omega) (by omega)
              obtain ⟨z2, f2⟩ := low_i (jshr (jshr v 5) 2) (c := t5 = 0) (m := 25) (n := 21) (by omega) (by omega)
              refine Act3.eq (changes_ok hI 5 z1 z2) (fun t M => ?_)
              show m_La_act t v 470 1 M = m_La_changes t 5 z1 z2 470 1 M
              unfold m_La_act
              rw [e1', bS, e2', bS, ht5, bS, if_pos (p10.mpr h10), if_pos (p17.mpr h17), if_pos (p19.mpr h19), if_pos (p23.mpr h23), if_pos (p25.mpr h25), if_pos (q25.mpr h26), bI, show m_La_low (jshr v 5) (if t5 = 0 then 3 else 2) = some z1 from f1, bS, bI, show m_La_low (jshr (jshr v 5) 2) (if t5 = 0 then 25 else 21) = some z2 from f2, bS]
              exact (kP2 _).trans (kP2 _)
            · obtain ⟨z1, f1⟩ := low_i (jshr v 5) (c := t5 = 0) (m := 70) (n := 9) (by omega) (by omega)
              refine Act3.eq (changes_ok hI 3 z1 0) (fun t M => ?_)
              show m_La_act t v 470 1 M = m_La_changes t 3 z1 0 470 1 M
              unfold m_La_act
              rw [e1', bS, e2', bS, ht5, bS, if_pos (p10.mpr h10), if_pos (p17.mpr h17), if_pos (p19.mpr h19), if_pos (p23.mpr h23), if_pos (p25.mpr h25), if_neg (fun z => h26 (q25.mp z)), bI, show m_La_low (jshr v 5) (if t5 = 0 then 70 else 9) = some z1 from f1, bS]
              exact (kP2 _).trans (kP2 _)
          · obtain ⟨z1, f1⟩ := low_i (jshr v 5) (c := t5 = 0) (m := 12) (n := 10) (by omega) (by omega)
            refine Act3.eq (changes_ok hI 4 z1 0) (fun t M => ?_)
            show m_La_act t v 470 1 M = m_La_changes t 4 z1 0 470 1 M
            unfold m_La_act
            rw [e1', bS, e2', bS, ht5, bS, if_pos (p10.mpr h10), if_pos (p17.mpr h17), if_pos (p19.mpr h19), if_pos (p23.mpr h23), if_neg (fun z => h25 (p25.mp z)), bI, show m_La_low (jshr v 5) (if t5 = 0 then 12 else 10) = some z1 from f1, bS]
            exact (kP2 _).trans (kP2 _)
        · obtain ⟨q, q0, q1, hq⟩ := many_pos (a := a) (j := 0) (n := sN a) (t5 := t5) hI.1.1.2 (by have := hI.1.1.1; omega)
          obtain ⟨z, hz, f1⟩ := low_ok (jshr v 5) (n := q) q0 (by omega)
          refine Act3.sc (g := fun z t M => m_La_changes t 2 z 0 470 1 M) (z := nI z) (changes_ok hI 2 (nI z) 0) (fun t H k M hg ht => ?_)
          obtain ⟨⟨x, M1⟩, e, g1, g2⟩ := many_ok (t5 := t5) (j := 0) hg (by omega)
          simp only at g1 g2
          rw [hq] at g1
          subst g1
          refine ⟨M1, g2, ?_⟩
          show m_La_act t v 470 1 M = m_La_changes t 2 (nI z) 0 470 1 M1
          unfold m_La_act
          rw [e1', bS, e2', bS, ht5, bS, if_pos (p10.mpr h10), if_pos (p17.mpr h17), if_pos (p19.mpr h19), if_neg (fun z => h23 (p23.mp z))]
          refine (bE e).trans ?_
          show Option.bind (m_La_low (jshr v 5) (nI q)) _ = _
          rw [f1, bS]
          exact kP2 _
      · obtain ⟨q, q0, q1, hq⟩ := many_pos (a := a) (j := 1) (n := dN a) (t5 := t5) hI.1.2.1.2 (by have := hI.1.2.1.1; omega)
        obtain ⟨z, hz, f1⟩ := low_ok (jshr v 5) (n := q) q0 (by omega)
        refine Act3.sc (g := fun z t M => m_La_changes t 1 z 0 470 1 M) (z := nI z) (changes_ok hI 1 (nI z) 0) (fun t H k M hg ht => ?_)
        obtain ⟨⟨x, M1⟩, e, g1, g2⟩ := many_ok (t5 := t5) (j := 1) hg (by omega)
        simp only at g1 g2
        rw [hq] at g1
        subst g1
        refine ⟨M1, g2, ?_⟩
        show m_La_act t v 470 1 M = m_La_changes t 1 (nI z) 0 470 1 M1
        unfold m_La_act
        rw [e1', bS, e2', bS, ht5, bS, if_pos (p10.mpr h10), if_pos (p17.mpr h17), if_neg (fun z => h19 (p19.mp z))]
        refine (bE e).trans ?_
        show Option.bind (m_La_low (jshr v 5) (nI q)) _ = _
        rw [f1, bS]
        exact kP2 _
    · obtain ⟨q, hq, g1⟩ := low_ok (jshr v 5) (n := 5) (by omega) (by omega)
      have g1' : m_La_low (jshr v 5) 5 = some (nI q) := g1
      obtain ⟨t91, h91⟩ : ∃ z : Int32, (if 3 ≤ nI q then (Option.bind (m_La_low (jshr v 5) 5) fun x122 => if x122 = 3 then (some 0 : Option Int32) else some 2) else some 1) = some z := by
        rw [g1']
        split
        · rw [bS]
          split <;> exact ⟨_, rfl⟩
        · exact ⟨_, rfl⟩
      obtain ⟨z1, f1⟩ := low_i (jshr (jshr v 5) 3) (c := t5 = 0) (m := 8) (n := 6) (by omega) (by omega)
      have h6 : ∀ q : Int32, ∃ z : Int32, (if t5 = 0 then (Option.bind (m_La_low q 6) fun x => (some (1 + x) : Option Int32)) else (if t91 = 1 then (Option.bind (m_La_low q 6) fun x => some (1 + x)) else some 0)) = some z := fun q => by
        obtain ⟨z, h⟩ := low_6 q
        rw [h]
        split
        · exact ⟨_, rfl⟩
        · split
          · exact ⟨_, rfl⟩
          · exact ⟨_, rfl⟩
      obtain ⟨z2, f2⟩ := h6 (jshr (jshr v 5) 6)
      obtain ⟨z3, f3⟩ := h6 (jshr (jshr v 5) 9)
      refine Act3.eq (decrees_ok hI t91 (z1 + (if t5 = 0 then 0 else 1)) z2 z3) (fun t M => ?_)
      show m_La_act t v 470 1 M = m_La_decrees t t91 (z1 + (if t5 = 0 then 0 else 1)) z2 z3 470 1 M
      unfold m_La_act
      rw [e1', bS, e2', bS, ht5, bS, if_pos (p10.mpr h10), if_neg (fun z => h17 (p17.mp z)), g1', bS, ← g1', h91, bS, bI, show m_La_low (jshr (jshr v 5) 3) (if t5 = 0 then 8 else 6) = some z1 from f1, bS, bI, f2, bS, f3, bS]
      exact kP2 _
  · obtain ⟨z1, f1⟩ := low_i (jshr v 5) (c := t5 = 0) (m := 5) (n := 3) (by omega) (by omega)
    obtain ⟨z2, f2⟩ : ∃ z : Int32, (if t5 = 0 then (Option.bind (m_La_low (jshr (jshr v 5) 2) 700) fun x135 => (some x135 : Option Int32)) else (Option.bind (m_La_word (jshr (jshr v 5) 2)) fun x137 => some x137)) = some z := by
      obtain ⟨r, -, h⟩ := low_ok (jshr (jshr v 5) 2) (n := 700) (by omega) (by omega)
      obtain ⟨w, h2⟩ := word_ok (jshr (jshr v 5) 2)
      rw [show m_La_low (jshr (jshr v 5) 2) 700 = some (nI r) from h, h2]
      split <;> exact ⟨_, rfl⟩
    refine Act3.eq (changes_ok hI 0 z1 z2) (fun t M => ?_)
    show m_La_act t v 470 1 M = m_La_changes t 0 z1 z2 470 1 M
    unfold m_La_act
    rw [e1', bS, e2', bS, ht5, bS, if_neg (fun z => h10 (p10.mp z)), bI, show m_La_low (jshr v 5) (if t5 = 0 then 5 else 3) = some z1 from f1, bS, f2, bS]
    exact kP2 _
