/-! LAYER 2: every command of the text, on both sides -/
theorem hD0 {o : Option (Int32 × KMem)} {ok : Bool} {P : KMem → Prop} (h : kOk o (fun q => (ok = true ↔ q.1 = 0) ∧ P q.2)) : kOk (o.bind fun (x, M) => Option.bind (α := Int32) (if x = 0 then some 1 else some 0) fun t => Option.bind (kz t) fun z => some (z, M)) (fun q => q.1 = b01 ok ∧ P q.2) := by
  obtain ⟨⟨x, M⟩, rfl, h1, h2⟩ := h
  rw [bS]
  show kOk (Option.bind (if x = 0 then some 1 else some 0) _) _
  by_cases hx : x = 0
  · rw [if_pos hx, bS, kz_1, bS]; exact kOk_i ⟨(if_pos (h1.mpr hx)).symm, h2⟩
  · rw [if_neg hx, bS, kz_0, bS]; exact kOk_i ⟨(if_neg (fun z => hx (h1.mp z))).symm, h2⟩
theorem hDn {o : Option (Int32 × KMem)} {ok : Bool} {P : KMem → Prop} (h : kOk o (fun q => (ok = true ↔ q.1 ≠ -1) ∧ P q.2)) : kOk (o.bind fun (x, M) => Option.bind (α := Int32) (if x = -1 then some 0 else some 1) fun t => Option.bind (kz t) fun z => some (z, M)) (fun q => q.1 = b01 ok ∧ P q.2) := by
  obtain ⟨⟨x, M⟩, rfl, h1, h2⟩ := h
  rw [bS]
  show kOk (Option.bind (if x = -1 then some 0 else some 1) _) _
  by_cases hx : x = -1
  · rw [if_pos hx, bS, kz_0, bS]; exact kOk_i ⟨(if_neg (fun z => h1.mp z hx)).symm, h2⟩
  · rw [if_neg hx, bS, kz_1, bS]; exact kOk_i ⟨(if_pos (h1.mpr hx)).symm, h2⟩
/-- what a command of the text does, on both sides -/
def DN (c g n x y z : Int32) : Prop := ∀ b, Inv b → ∃ (k : Bool) (b' : Row), Inv b' ∧
  (∀ M, CR b 3 M → M 1 3 = c → M 1 5 = n → (c = 115 → M 1 4 = g) → kOk (m_SR_doneInTown 0 M) (fun q => q.1 = b01 k ∧ CR b' 3 q.2 ∧ frS (twn 3) M q.2)) ∧
  (∀ M, M 236 = b → M 235 11 = c → M 235 12 = x → (c = 106 ∨ c = 115 → M 235 13 = y) → (c = 106 → M 235 14 = z) → kOk (m_Mo_does 235 M) (fun q => tkP c k q.1 ∧ q.2 236 = b' ∧ frS moD M q.2))
theorem DN_d {a : Nat} (h : a < 6) : DN 100 0 (nI (1 + a)) (nI (1 + a)) 0 0 := fun b hI => by
  have hb := cb_0 a h
  obtain ⟨k, b', h1, h2, h3⟩ := BT_g (u := 3) (c := 100) hI hb (cb_ok hb) rfl
  refine ⟨k, b', h1, fun M hc e3 e5 e4 => ?_, fun M m0 m1 m2 m3 m4 => h3 M m0 m1 m2 (fun e => absurd e (by decide)) (fun e => absurd e (by decide))⟩
  unfold m_SR_doneInTown
  rw [show M (0 + 1) 3 = 100 from e3, if_pos rfl, show M (0 + 1) 5 = _ from e5]
  exact hD0 (P := fun M' => CR b' 3 M' ∧ frS (twn 3) M M') (h2 M hc)
theorem DN_o {a : Nat} (h : a < 6) : DN 111 0 (nI (1 + a)) (nI (1 + a)) 0 0 := fun b hI => by
  have hb := cb_2 a h
  obtain ⟨k, b', h1, h2, h3⟩ := BT_g (u := 3) (c := 111) hI hb (cb_ok hb) rfl
  refine ⟨k, b', h1, fun M hc e3 e5 e4 => ?_, fun M m0 m1 m2 m3 m4 => h3 M m0 m1 m2 (fun e => absurd e (by decide)) (fun e => absurd e (by decide))⟩
  unfold m_SR_doneInTown
  rw [show M (0 + 1) 3 = 111 from e3, if_neg (by decide), if_neg (by decide), if_neg (by decide), if_pos rfl, show M (0 + 1) 5 = _ from e5]
  exact hD0 (P := fun M' => CR b' 3 M' ∧ frS (twn 3) M M') (h2 M hc)
theorem DN_j {a b c : Nat} (ha : a < 6) (hb' : b < 6) (hc' : c < 6) : DN 106 0 (nI (100 * (1 + a) + 10 * (1 + b) + (1 + c))) (nI (1 + a)) (nI (1 + b)) (nI (1 + c)) := fun r hI => by
  have hb := cb_1 a ha b hb' c hc'
  obtain ⟨k, b', h1, h2, h3⟩ := BT_g (u := 3) (c := 106) hI hb (cb_ok hb) rfl
  refine ⟨k, b', h1, fun M hc e3 e5 e4 => ?_, fun M m0 m1 m2 m3 m4 => h3 M m0 m1 m2 m3 m4⟩
  unfold m_SR_doneInTown
  rw [show M (0 + 1) 3 = 106 from e3, if_neg (by decide), if_pos rfl, show M (0 + 1) 5 = _ from e5]
  rw [show nI (100 * (1 + a) + 10 * (1 + b) + (1 + c)) / 100 = nI (1 + a) from by rw [show (100 : Int32) = nI 100 from rfl, pk_div (by omega) (by omega) (by omega)]; congr 1; omega]
  rw [show nI (100 * (1 + a) + 10 * (1 + b) + (1 + c)) / 10 = nI (10 * (1 + a) + (1 + b)) from by rw [show (10 : Int32) = nI 10 from rfl, pk_div (by omega) (by omega) (by omega)]; congr 1; omega]
  rw [show jrem (nI (10 * (1 + a) + (1 + b))) 10 = nI (1 + b) from by rw [show (10 : Int32) = nI 10 from rfl, remN (by omega) (by omega) (by omega)]; congr 1; omega]
  rw [show jrem (nI (100 * (1 + a) + 10 * (1 + b) + (1 + c))) 10 = nI (1 + c) from by rw [show (10 : Int32) = nI 10 from rfl, remN (by omega) (by omega) (by omega)]; congr 1; omega]
  exact hD0 (P := fun M' => CR b' 3 M' ∧ frS (twn 3) M M') (h2 M hc)
theorem DN_m {n : Nat} (ha : 1 ≤ n) (hb : n ≤ 60) : DN 109 0 (nI n) (nI n) 0 0 := fun r hI => by
  obtain ⟨k, b', h1, h2, h3⟩ := BT_m (u := 3) hI ha hb 0 0
  refine ⟨k, b', h1, fun M hc e3 e5 e4 => ?_, fun M m0 m1 m2 m3 m4 => h3 M m0 m1 m2 (fun e => absurd e (by decide)) (fun e => absurd e (by decide))⟩
  unfold m_SR_doneInTown
  rw [show M (0 + 1) 3 = 109 from e3, if_neg (by decide), if_neg (by decide), if_pos rfl, show M (0 + 1) 5 = _ from e5]
  obtain ⟨⟨x, M1⟩, em, t1, t2⟩ := h2 M hc
  rw [show m_Tw_passMonths (0 + 3) (nI n) M = _ from em, bS]
  show kOk (Option.bind (kz 1) fun z30 => some (z30, M1)) _
  rw [kz_1, bS]
  exact kOk_i ⟨by rw [show k = true from t1.mpr trivial]; rfl, t2⟩
theorem DN_p {s : Nat} (hs : s < 10) : DN 112 0 (nI s) (nI s) 0 0 := fun r hI => by
  obtain ⟨k, b', h1, h2, h3⟩ := BT_p (u := 3) (s := s) hI (by omega) 0 0
  refine ⟨k, b', h1, fun M hc e3 e5 e4 => ?_, fun M m0 m1 m2 m3 m4 => h3 M m0 m1 m2 (fun e => absurd e (by decide)) (fun e => absurd e (by decide))⟩
  unfold m_SR_doneInTown
  rw [show M (0 + 1) 3 = 112 from e3, if_neg (by decide), if_neg (by decide), if_neg (by decide), if_neg (by decide), if_pos rfl, show M (0 + 1) 5 = _ from e5]
  exact hDn (P := fun M' => CR b' 3 M' ∧ frS (twn 3) M M') (h2 M hc)
theorem DN_r {s : Nat} (hs : s < 10) : DN 114 0 (nI s) (nI s) 0 0 := fun r hI => by
  obtain ⟨k, b', h1, h2, h3⟩ := BT_r (u := 3) (k := s) hI (by omega) 0 0
  refine ⟨k, b', h1, fun M hc e3 e5 e4 => ?_, fun M m0 m1 m2 m3 m4 => h3 M m0 m1 m2 (fun e => absurd e (by decide)) (fun e => absurd e (by decide))⟩
  unfold m_SR_doneInTown
  rw [show M (0 + 1) 3 = 114 from e3, if_neg (by decide), if_neg (by decide), if_neg (by decide), if_neg (by decide), if_neg (by decide), if_pos rfl, show M (0 + 1) 5 = _ from e5]
  exact hD0 (P := fun M' => CR b' 3 M' ∧ frS (twn 3) M M') (h2 M hc)
theorem DN_s {g : Nat} {w : Int32} (hg : g < 4) (hw : m_Wo_isWord w = some 1) : DN 115 (nI g) w (nI g) w 0 := fun r hI => by
  obtain ⟨k, b', h1, h2, h3⟩ := BT_s (u := 3) hI hg hw 0
  refine ⟨k, b', h1, fun M hc e3 e5 e4 => ?_, fun M m0 m1 m2 m3 m4 => h3 M m0 m1 m2 m3 (fun e => absurd e (by decide))⟩
  unfold m_SR_doneInTown
  rw [show M (0 + 1) 3 = 115 from e3, if_neg (by decide), if_neg (by decide), if_neg (by decide), if_neg (by decide), if_neg (by decide), if_neg (by decide), if_pos rfl, show M (0 + 1) 5 = _ from e5, show M (0 + 1) 4 = _ from e4 rfl]
  exact hD0 (P := fun M' => CR b' 3 M' ∧ frS (twn 3) M M') (h2 M hc)
theorem DN_y {n : Nat} (ha : 1 ≤ n) (hb : n ≤ 9) : DN 121 0 (nI n) (nI n) 0 0 := fun r hI => by
  obtain ⟨k, b', h1, h2, h3⟩ := BT_y (u := 3) hI ha hb 0 0
  refine ⟨k, b', h1, fun M hc e3 e5 e4 => ?_, fun M m0 m1 m2 m3 m4 => h3 M m0 m1 m2 (fun e => absurd e (by decide)) (fun e => absurd e (by decide))⟩
  unfold m_SR_doneInTown
  rw [show M (0 + 1) 3 = 121 from e3, if_neg (by decide), if_neg (by decide), if_neg (by decide), if_neg (by decide), if_neg (by decide), if_neg (by decide), if_neg (by decide), if_pos rfl, show M (0 + 1) 5 = _ from e5]
  exact hDn (P := fun M' => CR b' 3 M' ∧ frS (twn 3) M M') (h2 M hc)
/-- a command's rest, after its letter c, from p1 -/
def BQ (len : Nat) (T : Nat → Nat) (p1 : Nat) (c : Int32) : Prop := ∃ (ok : Bool) (p' : Nat) (g n x y z : Int32), p1 ≤ p' ∧ p' ≤ len ∧
  (∀ M0 M g0, CX len T M0 p1 c g0 0 M → kOk (cB M) (fun q => q.1 = b01 ok ∧ ∃ g1 n1, CX len T M0 p' c g1 n1 q.2 ∧ (ok = true → n1 = n ∧ (c = 115 → g1 = g)))) ∧
  (∀ M0 M, MX len T M0 p1 0 M → M 235 11 = c → kOk (mB M) (fun M' => MX len T M0 p' (bd ok) M' ∧ (ok = true → M' 235 11 = c ∧ M' 235 12 = x ∧ (c = 106 ∨ c = 115 → M' 235 13 = y) ∧ (c = 106 → M' 235 14 = z)))) ∧
  (ok = true → DN c g n x y z)
theorem BQ_1 {len : Nat} {T : Nat → Nat} (hT : TX len T) {p1 lo hi : Nat} {c : Int32} (hp : p1 ≤ len) (h9 : hi ≤ 9) (hlo : lo ≤ 1) (c106 : c ≠ 106) (c115 : c ≠ 115) (V : Int32 → Int32)
    (hcl : ∀ M x M', M 1 3 = c → (x = 0 ∨ x = 1) → m_Tx_readDigit 1 (nI lo) (nI hi) M = some (x, M') → cB M = some (x, M'))
    (hmo : ∀ M, M 235 11 = c → mB M = Option.bind (m_Mo_takes 235 (nI (48 + lo)) (nI (48 + hi)) M) fun (x, M') => some (kup M' 235 12 (V x)))
    (hV : ∀ d, lo ≤ d → d ≤ hi → V (nI (d - lo)) = nI d) (hD : ∀ d, lo ≤ d → d ≤ hi → DN c 0 (nI d) (nI d) 0 0) : BQ len T p1 c := by
  have hl := hT.1
  by_cases hh : Hit len T p1 (48 + lo) (48 + hi)
  · obtain ⟨d, hd⟩ : ∃ d, d = T p1 - 48 := ⟨_, rfl⟩
    have hdb : lo ≤ d ∧ d ≤ hi ∧ T p1 = 48 + d := by have := hh.2; omega
    refine ⟨true, p1 + 1, 0, nI d, nI d, 0, 0, by omega, hh.1, fun M0 M g0 hc => ?_, fun M0 M hm h11 => ?_, fun _ => hD d hdb.1 hdb.2.1⟩
    · obtain ⟨⟨x, M1⟩, em, t1, t2⟩ := C_hit hT hc hh h9
      simp only at t1 t2
      subst t1
      rw [hcl M 1 M1 hc.2.2.2.2.1 (Or.inr rfl) em]
      rw [← hd, show (0 : Int32) * 10 + nI d = nI d from by rw [show (0 : Int32) * 10 = 0 from by decide, Int32.zero_add]] at t2
      exact kOk_i ⟨rfl, _, _, t2, fun _ => ⟨rfl, fun e => (c115 e).elim⟩⟩
    · rw [hmo M h11]
      refine kB _ (M_hit hT hm hh (by omega)) ?_
      rintro ⟨x, M1⟩ ⟨t1, t2, t3⟩
      simp only at t1 t2 t3
      subst t1
      refine kOk_i ⟨t2.k (by omega) (by omega), fun _ => ⟨?_, ?_, fun e => e.elim (fun e => (c106 e).elim) (fun e => (c115 e).elim), fun e => (c106 e).elim⟩⟩
      · show kup M1 235 12 _ 235 11 = c
        rw [kup_j _ _ _ (by omega), t3 11 (by omega) (by omega), h11]
      · show kup M1 235 12 _ 235 12 = nI d
        rw [kup_s, show T p1 - (48 + lo) = d - lo by omega]
        exact hV d hdb.1 hdb.2.1
  · refine ⟨false, p1, 0, 0, 0, 0, 0, by omega, hp, fun M0 M g0 hc => ?_, fun M0 M hm h11 => ?_, fun z => absurd z (by decide)⟩
    · rw [hcl M 0 M hc.2.2.2.2.1 (Or.inl rfl) (C_miss hT hc hp hh h9 (by omega))]
      exact kOk_i ⟨rfl, _, _, hc, fun z => absurd z (by decide)⟩
    · rw [hmo M h11]
      refine kB _ (M_miss hT hm hp hh (by omega) (by omega)) ?_
      rintro ⟨x, M1⟩ ⟨t1, t2, t3⟩
      exact kOk_i ⟨t2.k (by omega) (by omega), fun z => absurd z (by decide)⟩
