/-! LAYER 2: scripts on a copy -/
theorem lgc_n {a b : Nat} (ha : a < 2 ^ 63) (hb : b < 2 ^ 63) : (lg_cmp (lN a) (lN b) < 0 ↔ a < b) ∧ (0 ≤ lg_cmp (lN a) (lN b) ↔ b ≤ a) := by
  unfold lg_cmp
  by_cases h1 : b < a
  · rw [if_pos (show lN a > lN b from (pk_lLT hb ha).mpr h1)]
    exact ⟨⟨fun h => absurd h (by decide), fun h => by omega⟩, fun _ => by omega, fun _ => by decide⟩
  · rw [if_neg (show ¬ lN a > lN b from fun z => h1 ((pk_lLT hb ha).mp z))]
    by_cases h2 : a = b
    · rw [if_pos (by rw [h2])]
      exact ⟨⟨fun h => absurd h (by decide), fun h => by omega⟩, fun _ => by omega, fun _ => by decide⟩
    · rw [if_neg (fun z => h2 ((pk_lEQ ha hb).mp z))]
      exact ⟨⟨fun _ => by omega, fun _ => by decide⟩, fun h => absurd h (by decide), fun h => by omega⟩
theorem lgc_neg {x : Int64} (h : x < 0) : lg_cmp x 0 < 0 := by
  unfold lg_cmp
  rw [if_neg (show ¬ x > 0 from fun z => Int64.lt_irrefl (Int64.lt_trans h z)), if_neg (fun z => by rw [z] at h; exact Int64.lt_irrefl h)]
  decide
theorem p4_le {k : Nat} (h : k ≤ 4) : 10000 ^ k ≤ 10000000000000000 := Nat.le_trans (Nat.pow_le_pow_right (by decide) h) (by decide)
theorem p4_pos (k : Nat) : 0 < 10000 ^ k := Nat.pow_pos (by decide)
/-- the group of a script -/
def grp (s n i : Nat) : Nat := s / 10000 ^ (n - 1 - i) % 10000
theorem unit_ok {n : Nat} (h1 : 1 ≤ n) (h2 : n ≤ 4) : kLp (m_SR_runScript_l26 (nI n)) kFU (1, 0) = some (lN (10000 ^ n)) := by
  refine kEx (kFor (fun i q => q = (lN (10000 ^ i), nI i)) n ?_ ?_ (i0 := 0) (by omega) (by omega) rfl)
  · rintro i _ hi rfl
    refine Or.inl ⟨(lN (10000 ^ (i + 1)), nI (i + 1)), ?_, rfl⟩
    unfold m_SR_runScript_l26
    show (if nI n ≤ nI i then _ else _) = _
    rw [if_neg (by rw [nI_leI (by omega) (by omega)]; omega), show (10000 : Int64) = lN 10000 from rfl, lN_mul, nI_1, Nat.pow_succ]
  · rintro _ rfl
    refine ⟨_, ?_, rfl⟩
    unfold m_SR_runScript_l26
    show (if nI n ≤ nI n then _ else _) = _
    rw [if_pos (Int32.le_refl _)]
theorem rest_ok {s n i : Nat} (hs : s < 2 ^ 63) (hi : i < n) (hn : n ≤ 4) : kLp (m_Mo_runs_l31 (nI n)) kFU (lN s, nI (i + 1)) = some (lN (s / 10000 ^ (n - 1 - i))) := by
  refine kEx (kFor (fun j q => q = (lN (s / 10000 ^ (j - (i + 1))), nI j) ∧ i + 1 ≤ j) n ?_ ?_ (i0 := i + 1) (by omega) (by omega) ⟨by rw [Nat.sub_self]; simp, Nat.le_refl _⟩)
  · rintro j _ hj ⟨rfl, hji⟩
    refine Or.inl ⟨(lN (s / 10000 ^ (j + 1 - (i + 1))), nI (j + 1)), ?_, rfl, by omega⟩
    unfold m_Mo_runs_l31
    show (if nI n ≤ nI j then _ else _) = _
    rw [if_neg (by rw [nI_leI (by omega) (by omega)]; omega), show (10000 : Int64) = lN 10000 from rfl, pk_lDiv (Nat.lt_of_le_of_lt (Nat.div_le_self _ _) hs) (by omega) (by omega), nI_1, Nat.div_div_eq_div_mul]
    rw [show j + 1 - (i + 1) = (j - (i + 1)) + 1 by omega, Nat.pow_succ]
  · rintro _ ⟨rfl, -⟩
    refine ⟨_, ?_, rfl⟩
    unfold m_Mo_runs_l31
    show (if nI n ≤ nI n then _ else _) = _
    rw [if_pos (Int32.le_refl _), show n - (i + 1) = n - 1 - i by omega]
theorem run_both {s n : Nat} (hn1 : 1 ≤ n) (hn : n ≤ 4) (hs : s < 10000 ^ n) : ∀ j i b, i + j = n → Inv b → ∃ v : Int32,
    (∀ M F, CR b 21 M → j < F → kOk (kLp (m_SR_runScript_l89 0 (nI n) (lN s)) F (lN (10000 ^ (n - i)), nI i, M)) (fun r => ∃ M', frS (twn 21) M M' ∧ (r = .inl (.inr v, M') ∨ (v = -1 ∧ r = .inr M')))) ∧
    (∀ M F, M 236 = b → j + 1 < F → kOk (kLp (m_Mo_runs_l10 235 (nI n) (lN s)) F (-1, nI i, M)) (fun r => r.1 = v ∧ frS moE M r.2 ∧ fld M r.2)) := by
  have hs63 : s < 2 ^ 63 := by have := p4_le hn; omega
  intro j
  induction j with
  | zero =>
    intro i b hij hI
    have hin : i = n := by omega
    subst hin
    refine ⟨-1, fun M F hc hF => ?_, fun M F hm hF => ?_⟩
    · obtain ⟨f, rfl⟩ : ∃ f, F = f + 1 := ⟨F - 1, by omega⟩
      rw [kLp_r (r := .inr M)]
      · exact kOk_i ⟨M, frS.rf, Or.inr ⟨rfl, rfl⟩⟩
      · unfold m_SR_runScript_l89
        show (if nI i ≤ nI i then _ else _) = _
        rw [if_pos (Int32.le_refl _)]
    · obtain ⟨f, rfl⟩ : ∃ f, F = f + 1 := ⟨F - 1, by omega⟩
      rw [kLp_r (r := (-1, M))]
      · exact kOk_i ⟨rfl, frS.rf, fun _ _ => rfl⟩
      · unfold m_Mo_runs_l10
        show (if nI i ≤ nI i then _ else _) = _
        rw [if_pos (Int32.le_refl _)]
  | succ j ih =>
    intro i b hij hI
    have hin : i < n := by omega
    have hgrp : grp s n i < 10000 := Nat.mod_lt _ (by omega)
    obtain ⟨ok, b', h1, h2, h3⟩ := SB_ok hI hgrp
    obtain ⟨v', c1, c2⟩ := ih (i + 1) b' (by omega) h1
    have hdiv : s / 10000 ^ (n - 1 - i) < 2 ^ 63 := Nat.lt_of_le_of_lt (Nat.div_le_self _ _) hs63
    have hle : ¬ nI n ≤ nI i := by rw [nI_leI (by omega) (by omega)]; omega
    have eg : ∀ x, x < 2 ^ 63 → (jremL (lN x) 10000).toInt32 = nI (x % 10000) := fun x hx => by
      have : jremL (lN x) (lN 10000) = lN (x % 10000) := pk_lRem hx (by omega) (by omega)
      rw [show (10000 : Int64) = lN 10000 from rfl, this, lN_i]
    have hu : 10000 ^ (n - i) = 10000 ^ (n - 1 - i) * 10000 := by rw [← Nat.pow_succ]; congr 1; omega
    have hp1 := p4_le (k := n - i) (by omega)
    have hp2 := p4_le (k := n - 1 - i) (by omega)
    have hp3 := p4_pos (n - 1 - i)
    have cstep : ∀ M M21, m_Sc_succeeds 21 (nI (grp s n i)) M = some (b01 ok, M21) → m_SR_runScript_l89 0 (nI n) (lN s) (lN (10000 ^ (n - i)), nI i, M) = if ok = true then some (.inl (lN (10000 ^ (n - (i + 1))), nI (i + 1), M21)) else some (.inr (.inl (.inr (nI i), M21))) := fun M M21 em => by
      unfold m_SR_runScript_l89
      show (if nI n ≤ nI i then _ else _) = _
      rw [if_neg hle, show (10000 : Int64) = lN 10000 from rfl, if_neg (fun z => by
        have := (lgc_n (a := 10000 ^ (n - i)) (b := 10000) (by omega) (by omega)).1.mp z
        omega), bS, pk_lDiv (by omega) (by omega) (by omega), show 10000 ^ (n - i) / 10000 = 10000 ^ (n - 1 - i) from by rw [hu]; exact Nat.mul_div_cancel _ (by omega)]
      have ed : dvL (lN s) (lN (10000 ^ (n - 1 - i))) = some (lN (s / 10000 ^ (n - 1 - i))) := by
        unfold dvL
        rw [if_neg (show ¬ lN (10000 ^ (n - 1 - i)) = 0 from fun z => by
          have := (pk_lEQ (a := 10000 ^ (n - 1 - i)) (b := 0) (by omega) (by omega)).mp z
          omega), pk_lDiv hs63 hp3 (by omega)]
      rw [ed, bS]
      show Option.bind (m_Sc_succeeds 21 ((jremL (lN (s / 10000 ^ (n - 1 - i))) 10000).toInt32) M) _ = _
      rw [eg _ hdiv, show nI (s / 10000 ^ (n - 1 - i) % 10000) = nI (grp s n i) from rfl, em, bS]
      show (if b01 ok = 0 then _ else _) = _
      cases ok with
      | true => rw [if_neg (by decide), if_pos rfl, nI_1, show n - (i + 1) = n - 1 - i by omega]
      | false => rw [if_pos (by decide), if_neg (by decide)]
    have mstep : ∀ M M14, m_Mo_succeeds 235 (nI (grp s n i)) M = some (b01 ok, M14) → m_Mo_runs_l10 235 (nI n) (lN s) (-1, nI i, M) = some (.inl (if ok = true then -1 else nI i, nI (i + 1), M14)) := fun M M14 em => by
      unfold m_Mo_runs_l10
      show (if nI n ≤ nI i then _ else (if (-1 : Int32) = -1 then _ else _)) = _
      rw [if_neg hle, if_pos rfl, nI_1, rest_ok hs63 hin hn, bS, eg _ hdiv, show nI (s / 10000 ^ (n - 1 - i) % 10000) = nI (grp s n i) from rfl, em, bS]
      show Option.bind (if b01 ok = 0 then some (nI i) else some (-1)) _ = _
      cases ok with
      | true => rw [if_neg (by decide), bS, if_pos rfl]
      | false => rw [if_pos (by decide), bS, if_neg (by decide)]
    cases ok with
    | true =>
      refine ⟨v', fun M F hc hF => ?_, fun M F hm hF => ?_⟩
      · obtain ⟨f, rfl⟩ : ∃ f, F = f + 1 := ⟨F - 1, by omega⟩
        obtain ⟨⟨t, M21⟩, em, t1, t2, t3⟩ := h2 M hc
        simp only at t1 t2 t3
        subst t1
        have hst := cstep M M21 em
        rw [if_pos rfl] at hst
        rw [kLp_i hst]
        refine kWk _ (c1 M21 f t2 (by omega)) ?_
        rintro r ⟨M', q1, q2⟩
        exact ⟨M', t3.tr q1, q2⟩
      · obtain ⟨f, rfl⟩ : ∃ f, F = f + 1 := ⟨F - 1, by omega⟩
        obtain ⟨⟨t, M14⟩, em, t1, t2, t3, t4⟩ := h3 M hm
        simp only at t1 t2 t3 t4
        subst t1
        have hst := mstep M M14 em
        rw [if_pos rfl] at hst
        rw [kLp_i hst]
        refine kWk _ (c2 M14 f t2 (by omega)) ?_
        rintro r ⟨q1, q2, q3⟩
        exact ⟨q1, t3.tr q2, fun j hj => (q3 j hj).trans (t4 j hj)⟩
    | false =>
      refine ⟨nI i, fun M F hc hF => ?_, fun M F hm hF => ?_⟩
      · obtain ⟨f, rfl⟩ : ∃ f, F = f + 1 := ⟨F - 1, by omega⟩
        obtain ⟨⟨t, M21⟩, em, t1, t2, t3⟩ := h2 M hc
        simp only at t1 t2 t3
        subst t1
        have hst := cstep M M21 em
        rw [if_neg (by decide)] at hst
        rw [kLp_r hst]
        exact kOk_i ⟨M21, t3, Or.inl rfl⟩
      · obtain ⟨f, rfl⟩ : ∃ f, F = f + 2 := ⟨F - 2, by omega⟩
        obtain ⟨⟨t, M14⟩, em, t1, t2, t3, t4⟩ := h3 M hm
        simp only at t1 t2 t3 t4
        subst t1
        have hst := mstep M M14 em
        rw [if_neg (by decide)] at hst
        rw [kLp_i hst, kLp_r (r := (nI i, M14))]
        · exact kOk_i ⟨rfl, t3, t4⟩
        · unfold m_Mo_runs_l10
          show (if nI n ≤ nI (i + 1) then _ else (if nI i = -1 then _ else _)) = _
          rw [if_neg (nI_nm1 (by omega))]
          split <;> rfl
theorem Mbound {n : Nat} (h1 : 1 ≤ n) (h2 : n ≤ 4) : (if nI n = 1 then some (10000 : Int64) else (if nI n = 2 then some 100000000 else (if nI n = 3 then some 1000000000000 else some 10000000000000000))) = some (lN (10000 ^ n)) := by
  have : n = 1 ∨ n = 2 ∨ n = 3 ∨ n = 4 := by omega
  rcases this with rfl | rfl | rfl | rfl
  · rw [if_pos (by decide)]; rfl
  · rw [if_neg (by decide), if_pos (by decide)]; rfl
  · rw [if_neg (by decide), if_neg (by decide), if_pos (by decide)]; rfl
  · rw [if_neg (by decide), if_neg (by decide), if_neg (by decide)]; rfl
/-- the class's copy for what would be -/
theorem draft_ok {M : KMem} (hI : Inv (M 236)) (hc : CR (M 236) 3 M) : kOk (m_St_copyFrom 22 4 M) (fun M' => CR (M 236) 21 M' ∧ frS (fun o => 22 ≤ o ∧ o ≤ 33) M M') := by
  refine kWk _ (copy_ok (d := 21) (p := 3) (by omega)) ?_
  rintro M' ⟨h1, h2⟩
  exact ⟨h1 _ hI.1 hc, h2⟩
/-- a question that the model answers on its row, which comes back -/
theorem pub_d {M : KMem} {xs : List String} {oc : Option ((String ⊕ Int32) × KMem)} {om : KMem → Option (Int32 × KMem)} {v : Int32} (h : GI M) (hoc : kOk oc (fun q => q.1 = .inr v ∧ frS (fun o => 21 ≤ o ∧ o ≤ 38) M q.2))
    (hom : ∀ M1, M1 236 = M 236 → kOk (om M1) (fun q => q.1 = v ∧ q.2 235 0 = 0 ∧ (∀ i, i < 108 → q.2 236 i = M 236 i) ∧ frS (fun o => o = 235 ∨ o = 236 ∨ o = 237 ∨ o = 241 ∨ o = 242) M1 q.2 ∧ ∀ j, j = 4 ∨ j = 6 ∨ j = 8 → q.2 235 j = M1 235 j)) : Pub M xs oc om := by
  obtain ⟨H, k, S, kp, len, T, hc, hm⟩ := h
  obtain ⟨⟨r, M1⟩, e1, r1, r2⟩ := hoc
  simp only at r1 r2
  subst r1
  have hf : frS clO M M1 := r2.wk (fun o ho => by show o < 235; omega)
  refine pub_yes e1 hf (hc.fr (r2.wk (fun o ho => by omega)) (congrFun (r2 1 (by omega)) 1)) (fun M1 hf => kWk _ (hom M1 (hf 236 (by omega))) ?_)
  rintro ⟨b, M2⟩ ⟨q1, q2, q3, q4, q5⟩
  simp only at q3 q4 q5
  refine ⟨q1, q2, LE.of hc.1.1.1.1 hc.1.1.2.1.1 q3, q4.wk (fun o ho => by show 235 ≤ o ∧ o < 244; omega), ?_⟩
  obtain ⟨a1, a2, a3, a4, a5, a6⟩ := hm.cl hf
  show MS _ _ _ _ _ _ M2
  unfold MS hst slt
  rw [q5 4 (Or.inl rfl), q5 6 (Or.inr (Or.inl rfl)), q5 8 (Or.inr (Or.inr rfl)), q4 238 (by omega), q4 239 (by omega), q4 240 (by omega)]
  exact ⟨a1, a2, a3, a4, a5, a6⟩
theorem pub_runScript {M : KMem} (h : GI M) (p0 : Int32) (p1 : Int64) : Pub M [eA] (m_SR_runScript 0 p0 p1 M) (m_Mo_runScript 235 p0 p1) := by
  have h' := h
  obtain ⟨H, k, S, kp, len, T, hc, hm⟩ := h'
  have hI := hc.1
  rcases in_c p0 (lo := 1) (hi := 4) (by omega) (by omega) with ⟨n, n1, n2, rfl, e⟩ | ⟨g1, e⟩
  · have hp4 := p4_le n2
    have hcl : m_SR_runScript 0 (nI n) p1 M = if lg_cmp p1 0 < 0 then some (.inl eA, M) else (if lg_cmp p1 (lN (10000 ^ n)) < 0 then (Option.bind (m_St_copyFrom 22 4 M) fun M10 => Option.bind (α := ((String ⊕ Int32) × KMem) ⊕ KMem) (kLp (m_SR_runScript_l89 0 (nI n) p1) kFU (lN (10000 ^ n), 0, M10)) fun r => match r with | .inl q => some q | .inr M24 => (some (.inr (-1), M24))) else some (.inl eA, M)) := by
      unfold m_SR_runScript
      rw [if_neg (by rw [show (1 : Int32) = nI 1 from rfl, nI_ltI (by omega) (by omega)]; omega), if_pos (by rw [show (4 : Int32) = nI 4 from rfl, nI_leI (by omega) (by omega)]; omega), unit_ok n1 n2, bS]
      rfl
    by_cases hneg : p1 < 0
    · refine pub_no h eA 0 rfl ?_ ?_
      · rw [hcl, if_pos (lgc_neg hneg)]
      · unfold m_Mo_runScript
        rw [Mbound n1 n2, bS, show m_Mo_in (nI n) 1 4 = some 1 from e, bS, if_neg u10, if_pos (lgc_neg hneg), bS, show m_Mo_holds 235 1 M = _ from Mholds_n (by decide) M, bS]
        rfl
    · obtain ⟨s, hs, rfl⟩ := pk_lOf hneg
      have z0 : ¬ lg_cmp (lN s) 0 < 0 := fun z => by
        have := (lgc_n (a := s) (b := 0) hs (by omega)).1.mp z
        omega
      have hb := lgc_n (a := s) (b := 10000 ^ n) hs (by omega)
      by_cases hlt : s < 10000 ^ n
      · obtain ⟨v, c1, c2⟩ := run_both n1 n2 hlt n 0 (M 236) (by omega) hI
        refine pub_d (v := v) h ?_ (fun M1 eM => ?_)
        · rw [hcl, if_neg z0, if_pos (hb.1.mpr hlt)]
          refine kB _ (draft_ok hI hc.2.1) ?_
          rintro M10 ⟨d1, d2⟩
          obtain ⟨r, er, M', q1, q2⟩ := c1 M10 kFU d1 (by have : kFU = 100000 := rfl; omega)
          rw [Nat.sub_zero, show nI 0 = 0 from rfl] at er
          rw [er, bS]
          have F : frS (fun o => 21 ≤ o ∧ o ≤ 38) M M' := (d2.wk (fun o ho => ⟨by omega, by omega⟩)).tr (q1.wk (fun o (ho : 21 + 1 ≤ o ∧ o ≤ 21 + 17) => ⟨by omega, by omega⟩))
          rcases q2 with rfl | ⟨rfl, rfl⟩
          · exact kOk_i ⟨rfl, F⟩
          · exact kOk_i ⟨rfl, F⟩
        · unfold m_Mo_runScript
          rw [Mbound n1 n2, bS, show m_Mo_in (nI n) 1 4 = some 1 from e, bS, if_neg u10, if_neg z0, if_neg (fun z => by have := hb.2.mp z; omega), bS, Mholds_0, bS]
          show kOk (Option.bind (if (1 : Int32) = 0 then _ else _) _) _
          rw [if_neg u10]
          refine kPair ?_
          unfold m_Mo_runs
          refine kB _ Maside_ok ?_
          rintro M2 ⟨s1, s2⟩
          have e2 : M2 236 = M 236 := by rw [s2 236 (by omega), kup_n _ _ _ (by omega)]; exact eM
          refine kB _ (c2 M2 kFU e2 (by have : kFU = 100000 := rfl; omega)) ?_
          rintro ⟨x, M21⟩ ⟨q1, q2, q3⟩
          simp only at q1 q2 q3
          subst q1
          refine kB _ Mback_ok ?_
          rintro M23 ⟨b1, b2⟩
          have F : frS (fun o => o = 235 ∨ o = 236 ∨ o = 237 ∨ o = 241 ∨ o = 242) M1 M23 := ((frS.up (Or.inl rfl)).tr (s2.wk (fun o ho => Or.inr (Or.inr (Or.inl ho))))).tr ((q2.wk (fun o (ho : o = 235 ∨ o = 236 ∨ o = 241 ∨ o = 242) => by omega)).tr (b2.wk (fun o ho => Or.inr (Or.inl ho))))
          have ff : ∀ j, j = 0 ∨ j = 4 ∨ j = 6 ∨ j = 8 → M23 235 j = kup M1 235 0 0 235 j := fun j hj => by
            rw [b2 235 (by omega), q3 j hj, s2 235 (by omega)]
          refine kOk_i ⟨rfl, ?_, fun i hi => ?_, F, fun j hj => ?_⟩
          · show M23 235 0 = 0
            rw [ff 0 (Or.inl rfl), kup_s]
          · show M23 236 i = _
            rw [b1 i hi, q2 237 (by show ¬ (237 = 235 ∨ 237 = 236 ∨ 237 = 241 ∨ 237 = 242); omega), s1 i hi, kup_n _ _ _ (by omega), eM]
          · show M23 235 j = _
            rw [ff j (Or.inr hj), kup_j _ _ _ (by omega)]
      · refine pub_no h eA 0 rfl ?_ ?_
        · rw [hcl, if_neg z0, if_neg (fun z => hlt (hb.1.mp z))]
        · unfold m_Mo_runScript
          rw [Mbound n1 n2, bS, show m_Mo_in (nI n) 1 4 = some 1 from e, bS, if_neg u10, if_neg z0, if_pos (hb.2.mpr (by omega)), bS, show m_Mo_holds 235 1 M = _ from Mholds_n (by decide) M, bS]
          rfl
  · refine pub_no h eA 0 rfl ?_ ?_
    · unfold m_SR_runScript
      by_cases c0 : p0 < 1
      · rw [if_pos c0]
      · rw [if_neg c0, if_neg (show ¬ p0 ≤ 4 from fun z => Int32.not_le.mpr (g1.elim (fun w => (c0 w).elim) id) z)]
    · unfold m_Mo_runScript
      have : ∀ (o : Option Int64) (F : Int64 → Option (Int32 × KMem)) (r : Option (Int32 × KMem)), (∃ t, o = some t) → (∀ t, F t = r) → o.bind F = r := fun o F r ⟨t, ht⟩ hF => by rw [ht, bS, hF]
      refine this _ _ _ ?_ (fun t => ?_)
      · split
        · exact ⟨_, rfl⟩
        · split
          · exact ⟨_, rfl⟩
          · split
            · exact ⟨_, rfl⟩
            · exact ⟨_, rfl⟩
      · rw [show m_Mo_in p0 1 4 = some 0 from e, bS, if_pos rfl, bS, show m_Mo_holds 235 1 M = _ from Mholds_n (by decide) M, bS]
        rfl
