/-! LAYER 2: simulations -/
def sd (q : Nat) : Nat → Nat
  | 0 => 1 + q / 32 % 6
  | i + 1 => 1 + (sd q i + q % 5) % 6
def sw (q : Nat) : Nat → List Nat
  | 0 => [sd q 0]
  | i + 1 => sw q i ++ [sd q (i + 1)]
theorem sd_6 (q i : Nat) : 1 ≤ sd q i ∧ sd q i ≤ 6 := by
  cases i <;> simp only [sd] <;> omega
theorem sw_wl (q : Nat) : ∀ i, wl (sw q i) ∧ (sw q i).length = i + 1 := by
  intro i
  induction i with
  | zero => exact ⟨wl_cons.mpr ⟨sd_6 q 0, wl_nil⟩, rfl⟩
  | succ i ih => exact ⟨wl_app.mpr ⟨ih.1, wl_cons.mpr ⟨sd_6 q _, wl_nil⟩⟩, by simp only [sw, List.length_append, ih.2]; rfl⟩
def m6 : Nat → Nat
  | 0 => 0
  | k + 1 => 6 + 10 * m6 k
theorem vr_m6 : ∀ {l : List Nat}, wl l → vr l ≤ m6 l.length := by
  intro l
  induction l with
  | nil => intro _; exact Nat.le_refl _
  | cons d l ih =>
    intro h
    have h1 := wl_cons.mp h
    have h2 := ih h1.2
    show d + 10 * vr l ≤ 6 + 10 * m6 l.length
    omega
theorem m6_mono {a b : Nat} (h : a ≤ b) : m6 a ≤ m6 b := by
  induction b with
  | zero => rw [show a = 0 by omega]; exact Nat.le_refl _
  | succ b ih =>
    by_cases hab : a = b + 1
    · rw [hab]; exact Nat.le_refl _
    · have := ih (by omega)
      show m6 a ≤ 6 + 10 * m6 b
      omega
theorem alL_vr : ∀ {l : List Nat} {k : Nat}, wl l → l.length ≤ k → alL k (vr l) = true := by
  intro l
  induction l with
  | nil => intro k _ _; cases k <;> simp [alL, vr]
  | cons d l ih =>
    intro k h hk
    have h1 := wl_cons.mp h
    obtain ⟨j, rfl⟩ : ∃ j, k = j + 1 := ⟨k - 1, by simp at hk; omega⟩
    simp only [alL]
    by_cases h0 : vr (d :: l) = 0
    · rw [if_pos h0]
    · rw [if_neg h0, vr_mod l h1.1.2, if_pos h1.1, vr_div l h1.1.2]
      exact ih h1.2 (by simp at hk; omega)
theorem isWord_wl {l : List Nat} (h : wl l) (h1 : 1 ≤ l.length) (h8 : l.length ≤ 8) : m_Wo_isWord (wN l) = some 1 := by
  have hr := wl_rev.mpr h
  have hl : l.reverse.length = l.length := List.length_reverse
  have hb : vr l.reverse ≤ 66666666 := Nat.le_trans (vr_m6 hr) (by rw [hl]; exact Nat.le_trans (m6_mono h8) (by decide))
  have h0 : 1 ≤ vr l.reverse := by
    cases e : l.reverse with
    | nil => rw [e] at hl; simp at hl; omega
    | cons d t =>
      rw [e] at hr
      have := vr_pos t (wl_cons.mp hr).1.1
      omega
  show m_Wo_isWord (nI (vr l.reverse)) = some 1
  rw [WisWord_n h0 hb, show wB (vr l.reverse) = true from alL_vr hr (by omega), if_pos rfl]
theorem word_both {q : Nat} (hq : q < 2 ^ 30) : ∃ w, m_Wo_isWord w = some 1 ∧ m_Si_wordFrom (nI q) = some w ∧ m_Mo_wordBy (nI q) = some w := by
  have hn : q / 4 % 8 < 8 := Nat.mod_lt _ (by omega)
  have e1 : (1 : Int32) + jrem (nI q / 4) 8 = nI (q / 4 % 8 + 1) := by
    rw [show nI q / 4 = nI (q / 4) from pk_div (d := 4) (by omega) (by omega) (by omega), show jrem (nI (q / 4)) 8 = nI (q / 4 % 8) from remN (d := 8) (by omega) (by omega) (by omega), show (1 : Int32) = nI 1 from rfl, nI_add, Nat.add_comm]
  have e2 : (1 : Int32) + jrem (nI q / 32) 6 = nI (sd q 0) := by
    rw [show nI q / 32 = nI (q / 32) from pk_div (d := 32) (by omega) (by omega) (by omega), show jrem (nI (q / 32)) 6 = nI (q / 32 % 6) from remN (d := 6) (by omega) (by omega) (by omega), show (1 : Int32) = nI 1 from rfl, nI_add]
    rfl
  have e3 : jrem (nI q) 5 = nI (q % 5) := remN (d := 5) (by omega) (by omega) (by omega)
  have e4 : ∀ i, (1 : Int32) + jrem (nI (sd q i) + nI (q % 5)) 6 = nI (sd q (i + 1)) := fun i => by
    have h6 := sd_6 q i
    rw [nI_add, show jrem (nI (sd q i + q % 5)) 6 = nI ((sd q i + q % 5) % 6) from remN (d := 6) (by omega) (by omega) (by omega), show (1 : Int32) = nI 1 from rfl, nI_add]
    rfl
  obtain ⟨n, hn'⟩ : ∃ n, n = q / 4 % 8 := ⟨_, rfl⟩
  rw [← hn'] at e1 hn
  have hle : ∀ i, i < n → ¬ nI (n + 1) ≤ nI (i + 1) := fun i hi => by rw [nI_leI (by omega) (by omega)]; omega
  have w0 : nI (sd q 0) = wN (sw q 0) := (wN_1 _).symm
  refine ⟨wN (sw q n), isWord_wl (sw_wl q n).1 (by rw [(sw_wl q n).2]; omega) (by rw [(sw_wl q n).2]; omega), ?_, ?_⟩
  · refine kEx ?_
    unfold m_Si_wordFrom
    rw [e2]
    refine kB (fun r => r = wN (sw q n)) (kFor (fun i s => s = (nI (sd q i), wN (sw q i), nI (i + 1))) n ?_ ?_ (i0 := 0) (by omega) (by omega) (by rw [w0]; rfl)) (fun x hx => kOk_i hx)
    · rintro i _ hi rfl
      refine Or.inl ⟨(nI (sd q (i + 1)), wN (sw q (i + 1)), nI (i + 1 + 1)), ?_, rfl⟩
      unfold m_Si_wordFrom_l24
      show (if 1 + jrem (nI q / 4) 8 ≤ nI (i + 1) then _ else _) = _
      rw [e1, if_neg (hle i hi), e3, e4, nI_1, show sw q (i + 1) = sw q i ++ [sd q (i + 1)] from rfl, wN_snoc]
    · rintro _ rfl
      refine ⟨_, ?_, rfl⟩
      unfold m_Si_wordFrom_l24
      show (if 1 + jrem (nI q / 4) 8 ≤ nI (n + 1) then _ else _) = _
      rw [e1, if_pos (Int32.le_refl _)]
  · refine kEx ?_
    unfold m_Mo_wordBy
    rw [e2]
    refine kB (fun r => r = wN (sw q n)) (kFor (fun i s => s = (nI (sd q i), wN (sw q i), nI (i + 1))) n ?_ ?_ (i0 := 0) (by omega) (by omega) (by rw [w0]; rfl)) (fun x hx => kOk_i hx)
    · rintro i _ hi rfl
      refine Or.inl ⟨(nI (sd q (i + 1)), wN (sw q (i + 1)), nI (i + 1 + 1)), ?_, rfl⟩
      unfold m_Mo_wordBy_l24
      show (if 1 + jrem (nI q / 4) 8 ≤ nI (i + 1) then _ else _) = _
      rw [e1, if_neg (hle i hi), e3, e4, nI_1, show sw q (i + 1) = sw q i ++ [sd q (i + 1)] from rfl, wN_snoc, Int32.mul_comm]
    · rintro _ rfl
      refine ⟨_, ?_, rfl⟩
      unfold m_Mo_wordBy_l24
      show (if 1 + jrem (nI q / 4) 8 ≤ nI (n + 1) then _ else _) = _
      rw [e1, if_pos (Int32.le_refl _)]
theorem rnd_n (x : Int64) : ∃ r, r < 2 ^ 31 ∧ (jushrL x 33).toInt32 = nI r := by
  have e : jushrL x 33 = (x.toUInt64 >>> 33).toInt64 := by
    unfold jushrL
    rw [show (33 : Int32).toInt64.toUInt64 &&& Int64.toUInt64 63 = 33 from by decide]
  have hs : (x.toUInt64 >>> 33).toNat < 2 ^ 31 := by
    rw [UInt64.toNat_shiftRight, show (33 : UInt64).toNat % 64 = 33 from by decide, Nat.shiftRight_eq_div_pow]
    have := x.toUInt64.toNat_lt
    omega
  refine ⟨(x.toUInt64 >>> 33).toNat, hs, ?_⟩
  rw [e]
  generalize x.toUInt64 >>> 33 = u
  have eu : u.toInt64 = lN u.toNat := by
    have h1 : UInt64.ofNat u.toNat = u := UInt64.ofNat_toNat
    have h2 : ∀ m : Nat, (UInt64.ofNat m).toInt64 = Int64.ofNat m := fun m => rfl
    calc u.toInt64 = (UInt64.ofNat u.toNat).toInt64 := by rw [h1]
      _ = _ := h2 _
  rw [eu, lN_i]
/-- a turn's command, on both sides -/
def TB (b : Row) (oc : KMem → Option KMem) (P : KMem → Prop) : Prop := ∃ b', Inv b' ∧ (∀ M, CR b 21 M → kOk (oc M) (fun M' => CR b' 21 M' ∧ frS (twn 21) M M')) ∧
  ∀ M3, M3 236 = b → P M3 → kOk (Option.bind (m_Mo_does 235 M3) fun (x6, M7) => some (x6, M7)) (fun q => q.2 236 = b' ∧ frS moD M3 q.2)
theorem TB_of {b : Row} {c p1 p2 p3 : Int32} {cl : KMem → Option (Int32 × KMem)} {suc : Int32 → Prop} (h : BT 21 b c p1 p2 p3 cl suc) :
    TB b (fun M => Option.bind (Option.bind (cl M) fun (x12, M13) => some M13) fun M1 => some M1) (fun M3 => M3 235 11 = c ∧ M3 235 12 = p1 ∧ (c = 106 ∨ c = 115 → M3 235 13 = p2) ∧ (c = 106 → M3 235 14 = p3)) := by
  obtain ⟨ok, b', h1, h2, h3⟩ := h
  refine ⟨b', h1, fun M hc => ?_, fun M3 e hp => ?_⟩
  · obtain ⟨⟨x, M1⟩, em, t1, t2, t3⟩ := h2 M hc
    show kOk (Option.bind (Option.bind (cl M) fun (x12, M13) => some M13) fun M1 => some M1) _
    rw [em]
    exact kOk_i ⟨t2, t3⟩
  · obtain ⟨⟨x, M1⟩, em, t1, t2, t3⟩ := h3 M3 e hp.1 hp.2.1 hp.2.2.1 hp.2.2.2
    rw [em]
    exact kOk_i ⟨t2, t3⟩
theorem cb_0 : ∀ a, a < 6 → m_De_canBe 0 (nI (1 + a)) 0 0 = some 1 := by decide +kernel
theorem cb_2 : ∀ a, a < 6 → m_De_canBe 2 (nI (1 + a)) 0 0 = some 1 := by decide +kernel
theorem cb_1 : ∀ a, a < 6 → ∀ b, b < 6 → ∀ c, c < 6 → m_De_canBe 1 (nI (1 + a)) (nI (1 + b)) (nI (1 + c)) = some 1 := by decide +kernel
theorem cb_ok {k a b c : Int32} (h : m_De_canBe k a b c = some 1) : okD k a b c := by
  rcases args_c k a b c with ⟨-, -, h1⟩ | ⟨h1, -⟩
  · exact h1
  · rw [h] at h1; cases h1
theorem turn_both {b : Row} {r : Nat} (hI : Inv b) (hr : r < 2 ^ 31) : ∃ b', Inv b' ∧ (∀ M, CR b 21 M → kOk (m_Si_takeTurn 21 (nI r) M) (fun M' => CR b' 21 M' ∧ frS (twn 21) M M')) ∧
    ∀ M, M 236 = b → kOk (m_Mo_turns 235 (nI r) M) (fun q => q.2 236 = b' ∧ frS moE M q.2 ∧ fld M q.2) := by
  have e1 : jrem (nI r) 8 = nI (r % 8) := remN (d := 8) hr (by omega) (by omega)
  have e2 : nI r / 8 = nI (r / 8) := pk_div (d := 8) hr (by omega) (by omega)
  have hq : r / 8 < 2 ^ 28 := by omega
  have hk : r % 8 < 8 := Nat.mod_lt _ (by omega)
  obtain ⟨q, eq⟩ : ∃ q, q = r / 8 := ⟨_, rfl⟩
  obtain ⟨k, ek⟩ : ∃ k, k = r % 8 := ⟨_, rfl⟩
  have d1 : ∀ d, 0 < d → d < 100 → jrem (nI q) (nI d) = nI (q % d) := fun d h1 h2 => remN (by omega) h1 (by omega)
  have p1 : ∀ x, (1 : Int32) + nI x = nI (1 + x) := fun x => nI_add 1 x
  unfold m_Si_takeTurn m_Mo_turns
  simp only [e1, e2]
  rw [← ek, ← eq]
  rw [← eq] at hq
  rw [← ek] at hk
  have e6 : jrem (nI q) 6 = nI (q % 6) := d1 6 (by omega) (by omega)
  rw [e6, p1]
  have m6 : q % 6 < 6 := Nat.mod_lt _ (by omega)
  -- how a turn's command ends
  have fin : ∀ {oc : KMem → Option KMem} {P : KMem → Prop} (tb : TB b oc P) {oc' : KMem → Option KMem} {om : KMem → Option (Int32 × KMem)} (up : KMem → KMem), (∀ M, M 236 = b → up M 236 = b ∧ P (up M) ∧ frS moE M (up M) ∧ fld M (up M)) → (∀ M, oc' M = oc M) → (∀ M, om M = Option.bind (m_Mo_does 235 (up M)) fun (x6, M7) => some (x6, M7)) →
      ∃ b', Inv b' ∧ (∀ M, CR b 21 M → kOk (oc' M) (fun M' => CR b' 21 M' ∧ frS (twn 21) M M')) ∧ ∀ M, M 236 = b → kOk (om M) (fun q => q.2 236 = b' ∧ frS moE M q.2 ∧ fld M q.2) := by
    rintro oc P ⟨b', t1, t2, t3⟩ oc' om up hup hc ho
    refine ⟨b', t1, fun M hm => by rw [hc M]; exact t2 M hm, fun M hm => ?_⟩
    obtain ⟨u1, u2, u3, u4⟩ := hup M hm
    rw [ho M]
    refine kWk _ (t3 (up M) u1 u2) ?_
    rintro q ⟨q1, q2⟩
    exact ⟨q1, md_up q2 u3 u4⟩
  have hkk : k = 0 ∨ k = 1 ∨ k = 2 ∨ k = 3 ∨ k = 4 ∨ k = 5 ∨ k = 6 ∨ k = 7 := by omega
  obtain ⟨w, w1, w2, w3⟩ := word_both (q := q) (by omega)
  have e4 : jrem (nI q) 4 = nI (q % 4) := d1 4 (by omega) (by omega)
  clear ek eq e1 e2
  -- the forms of the model's memory
  have f2 : ∀ (M : KMem) (c x : Int32), M 236 = b → (kup (kup (kup M 235 12 (nI (1 + q % 6))) 235 11 c) 235 12 x) 236 = b ∧ (kup (kup (kup M 235 12 (nI (1 + q % 6))) 235 11 c) 235 12 x) 235 11 = c ∧ (kup (kup (kup M 235 12 (nI (1 + q % 6))) 235 11 c) 235 12 x) 235 12 = x ∧ frS moE M (kup (kup (kup M 235 12 (nI (1 + q % 6))) 235 11 c) 235 12 x) ∧ fld M (kup (kup (kup M 235 12 (nI (1 + q % 6))) 235 11 c) 235 12 x) := fun M c x hm =>
    ⟨k236 (k236 (k236 hm)), by rw [kup_j _ _ _ (by omega), kup_s], kup_s _ _ _ _, frE_k (frE_k (frE_k frS.rf)), fld_k (fld_k (fld_k (fun _ _ => rfl) (by omega)) (by omega)) (by omega)⟩
  have tbs := TB_of (BT_s (u := 21) (g := q % 4) (w := w) hI (Nat.mod_lt _ (by omega)) w1 0)
  have ups : ∀ M, M 236 = b → (kup (kup (kup (kup M 235 12 (nI (1 + q % 6))) 235 11 115) 235 12 (nI (q % 4))) 235 13 w) 236 = b ∧ ((kup (kup (kup (kup M 235 12 (nI (1 + q % 6))) 235 11 115) 235 12 (nI (q % 4))) 235 13 w) 235 11 = 115 ∧ (kup (kup (kup (kup M 235 12 (nI (1 + q % 6))) 235 11 115) 235 12 (nI (q % 4))) 235 13 w) 235 12 = nI (q % 4) ∧ (((115 : Int32) = 106 ∨ (115 : Int32) = 115) → (kup (kup (kup (kup M 235 12 (nI (1 + q % 6))) 235 11 115) 235 12 (nI (q % 4))) 235 13 w) 235 13 = w) ∧ ((115 : Int32) = 106 → (kup (kup (kup (kup M 235 12 (nI (1 + q % 6))) 235 11 115) 235 12 (nI (q % 4))) 235 13 w) 235 14 = 0)) ∧ frS moE M (kup (kup (kup (kup M 235 12 (nI (1 + q % 6))) 235 11 115) 235 12 (nI (q % 4))) 235 13 w) ∧ fld M (kup (kup (kup (kup M 235 12 (nI (1 + q % 6))) 235 11 115) 235 12 (nI (q % 4))) 235 13 w) := fun M hm => by
    obtain ⟨g1, g2, g3, g4, g5⟩ := f2 M 115 (nI (q % 4)) hm
    exact ⟨k236 g1, ⟨by rw [kup_j _ _ _ (by omega)]; exact g2, by rw [kup_j _ _ _ (by omega)]; exact g3, fun _ => kup_s _ _ _ _, fun z => absurd z (by decide)⟩, frE_k g4, fld_k g5 (by omega)⟩
  rcases hkk with rfl | rfl | rfl | rfl | rfl | rfl | rfl | rfl
  · refine fin tbs _ ups (fun M => ?_) (fun M => ?_)
    · rw [if_pos (by decide), w2, bS, e4]
    · rw [bS, if_pos (by decide), w3, e4]
      rfl
  · refine fin tbs _ ups (fun M => ?_) (fun M => ?_)
    · rw [if_pos (by decide), w2, bS, e4]
    · rw [bS, if_pos (by decide), w3, e4]
      rfl
  · have e36 : nI q / 6 = nI (q / 6) := pk_div (d := 6) (by omega) (by omega) (by omega)
    have e3 : jrem (nI (q / 6)) 3 = nI (q / 6 % 3) := remN (d := 3) (by omega) (by omega) (by omega)
    by_cases h0 : q / 6 % 3 = 0
    · have hb := cb_0 _ m6
      refine fin (TB_of (BT_g (u := 21) (c := 100) hI hb (cb_ok hb) rfl)) (fun M => kup (kup M 235 12 (nI (1 + q % 6))) 235 11 100) (fun M hm => ⟨k236 (k236 hm), ⟨kup_s _ _ _ _, by rw [kup_j _ _ _ (by omega), kup_s], fun z => absurd z (by decide), fun z => absurd z (by decide)⟩, frE_k (frE_k frS.rf), fld_k (fld_k (fun _ _ => rfl) (by omega)) (by omega)⟩) (fun M => ?_) (fun M => ?_)
      · rw [if_neg (by decide), if_pos (by decide), e36, e3, h0, if_pos (by decide), bS]
      · rw [bS, if_neg (by decide), if_pos (by decide), e36, e3, h0, if_pos (by decide), bS]
        rfl
    · have hb := cb_2 _ m6
      have n0 : ¬ nI (q / 6 % 3) = 0 := fun z => h0 ((nI_eq (b := 0) (by omega) (by omega)).mp z)
      refine fin (TB_of (BT_g (u := 21) (c := 111) hI hb (cb_ok hb) rfl)) (fun M => kup (kup M 235 12 (nI (1 + q % 6))) 235 11 111) (fun M hm => ⟨k236 (k236 hm), ⟨kup_s _ _ _ _, by rw [kup_j _ _ _ (by omega), kup_s], fun z => absurd z (by decide), fun z => absurd z (by decide)⟩, frE_k (frE_k frS.rf), fld_k (fld_k (fun _ _ => rfl) (by omega)) (by omega)⟩) (fun M => ?_) (fun M => ?_)
      · rw [if_neg (by decide), if_pos (by decide), e36, e3, if_neg n0, bS]
      · rw [bS, if_neg (by decide), if_pos (by decide), e36, e3, if_neg n0, bS]
        rfl
  · have e8 : nI q / 8 = nI (q / 8) := pk_div (d := 8) (by omega) (by omega) (by omega)
    have e64 : nI q / 64 = nI (q / 64) := pk_div (d := 64) (by omega) (by omega) (by omega)
    have e86 : jrem (nI (q / 8)) 6 = nI (q / 8 % 6) := remN (d := 6) (by omega) (by omega) (by omega)
    have e646 : jrem (nI (q / 64)) 6 = nI (q / 64 % 6) := remN (d := 6) (by omega) (by omega) (by omega)
    have hb := cb_1 _ m6 (q / 8 % 6) (Nat.mod_lt _ (by omega)) (q / 64 % 6) (Nat.mod_lt _ (by omega))
    refine fin (TB_of (BT_g (u := 21) (c := 106) hI hb (cb_ok hb) rfl)) (fun M => kup (kup (kup (kup M 235 12 (nI (1 + q % 6))) 235 11 106) 235 13 (nI (1 + q / 8 % 6))) 235 14 (nI (1 + q / 64 % 6))) (fun M hm => ⟨k236 (k236 (k236 (k236 hm))), ⟨by rw [kup_j _ _ _ (by omega), kup_j _ _ _ (by omega), kup_s], by rw [kup_j _ _ _ (by omega), kup_j _ _ _ (by omega), kup_j _ _ _ (by omega), kup_s], fun _ => by rw [kup_j _ _ _ (by omega), kup_s], fun _ => kup_s _ _ _ _⟩, frE_k (frE_k (frE_k (frE_k frS.rf))), fld_k (fld_k (fld_k (fld_k (fun _ _ => rfl) (by omega)) (by omega)) (by omega)) (by omega)⟩) (fun M => ?_) (fun M => ?_)
    · rw [if_neg (by decide), if_neg (by decide), if_pos (by decide), e8, e64, e86, e646, p1, p1]
    · rw [bS, if_neg (by decide), if_neg (by decide), if_pos (by decide), e8, e64, e86, e646, p1, p1]
      rfl
  · have e10 : jrem (nI q) 10 = nI (q % 10) := d1 10 (by omega) (by omega)
    refine fin (TB_of (BT_r (u := 21) (k := q % 10) hI (by omega) 0 0)) (fun M => kup (kup (kup M 235 12 (nI (1 + q % 6))) 235 11 114) 235 12 (nI (q % 10))) (fun M hm => ?_) (fun M => ?_) (fun M => ?_)
    · obtain ⟨g1, g2, g3, g4, g5⟩ := f2 M 114 (nI (q % 10)) hm
      exact ⟨g1, ⟨g2, g3, fun z => absurd z (by decide), fun z => absurd z (by decide)⟩, g4, g5⟩
    · rw [if_neg (by decide), if_neg (by decide), if_neg (by decide), if_pos (by decide), e10]
    · rw [bS, if_neg (by decide), if_neg (by decide), if_neg (by decide), if_pos (by decide), e10]
      rfl
  · have e10 : jrem (nI q) 8 = nI (q % 8) := d1 8 (by omega) (by omega)
    refine fin (TB_of (BT_p (u := 21) (s := q % 8) hI (by omega) 0 0)) (fun M => kup (kup (kup M 235 12 (nI (1 + q % 6))) 235 11 112) 235 12 (nI (q % 8))) (fun M hm => ?_) (fun M => ?_) (fun M => ?_)
    · obtain ⟨g1, g2, g3, g4, g5⟩ := f2 M 112 (nI (q % 8)) hm
      exact ⟨g1, ⟨g2, g3, fun z => absurd z (by decide), fun z => absurd z (by decide)⟩, g4, g5⟩
    · rw [if_neg (by decide), if_neg (by decide), if_neg (by decide), if_neg (by decide), if_pos (by decide), e10]
    · rw [bS, if_neg (by decide), if_neg (by decide), if_neg (by decide), if_neg (by decide), if_pos (by decide), e10]
      rfl
  · have e10 : jrem (nI q) 9 = nI (q % 9) := d1 9 (by omega) (by omega)
    refine fin (TB_of (BT_y (u := 21) (n := 1 + q % 9) hI (by omega) (by omega) 0 0)) (fun M => kup (kup (kup M 235 12 (nI (1 + q % 6))) 235 11 121) 235 12 (nI (1 + q % 9))) (fun M hm => ?_) (fun M => ?_) (fun M => ?_)
    · obtain ⟨g1, g2, g3, g4, g5⟩ := f2 M 121 (nI (1 + q % 9)) hm
      exact ⟨g1, ⟨g2, g3, fun z => absurd z (by decide), fun z => absurd z (by decide)⟩, g4, g5⟩
    · rw [if_neg (by decide), if_neg (by decide), if_neg (by decide), if_neg (by decide), if_neg (by decide), if_pos (by decide), e10, p1]
    · rw [bS, if_neg (by decide), if_neg (by decide), if_neg (by decide), if_neg (by decide), if_neg (by decide), if_pos (by decide), e10, p1]
      rfl
  · have e10 : jrem (nI q) 12 = nI (q % 12) := d1 12 (by omega) (by omega)
    refine fin (TB_of (BT_m (u := 21) (n := 1 + q % 12) hI (by omega) (by omega) 0 0)) (fun M => kup (kup (kup M 235 12 (nI (1 + q % 6))) 235 11 109) 235 12 (nI (1 + q % 12))) (fun M hm => ?_) (fun M => ?_) (fun M => ?_)
    · obtain ⟨g1, g2, g3, g4, g5⟩ := f2 M 109 (nI (1 + q % 12)) hm
      exact ⟨g1, ⟨g2, g3, fun z => absurd z (by decide), fun z => absurd z (by decide)⟩, g4, g5⟩
    · rw [if_neg (by decide), if_neg (by decide), if_neg (by decide), if_neg (by decide), if_neg (by decide), if_neg (by decide), e10, p1]
    · rw [bS, if_neg (by decide), if_neg (by decide), if_neg (by decide), if_neg (by decide), if_neg (by decide), if_neg (by decide), e10, p1]
      rfl
theorem sim_both {n : Nat} (hn : n ≤ 60) : ∀ j i (x : Int64) b, i + j = n → Inv b → ∃ b', Inv b' ∧
    (∀ M F, CR b 21 M → j < F → kOk (kLp (m_SR_simulate_l53 0 (nI n)) F (x, nI i, M)) (fun M' => CR b' 21 M' ∧ frS (twn 21) M M')) ∧
    (∀ M F, M 236 = b → j < F → kOk (kLp (m_Mo_simulates_l13 235 (nI n)) F (x, nI i, M)) (fun M' => M' 236 = b' ∧ frS moE M M' ∧ fld M M')) := by
  intro j
  induction j with
  | zero =>
    intro i x b hij hI
    have hin : i = n := by omega
    subst hin
    refine ⟨b, hI, fun M F hc hF => ?_, fun M F hm hF => ?_⟩
    · obtain ⟨f, rfl⟩ : ∃ f, F = f + 1 := ⟨F - 1, by omega⟩
      rw [kLp_r (r := M)]
      · exact kOk_i ⟨hc, frS.rf⟩
      · unfold m_SR_simulate_l53
        show (if nI i ≤ nI i then _ else _) = _
        rw [if_pos (Int32.le_refl _)]
    · obtain ⟨f, rfl⟩ : ∃ f, F = f + 1 := ⟨F - 1, by omega⟩
      rw [kLp_r (r := M)]
      · exact kOk_i ⟨hm, frS.rf, fun _ _ => rfl⟩
      · unfold m_Mo_simulates_l13
        show (if nI i ≤ nI i then _ else _) = _
        rw [if_pos (Int32.le_refl _)]
  | succ j ih =>
    intro i x b hij hI
    have hle : ¬ nI n ≤ nI i := by rw [nI_leI (by omega) (by omega)]; omega
    obtain ⟨r, hr, er⟩ := rnd_n (x * 6364136223846793005 + 1442695040888963407)
    obtain ⟨b1, h1, h2, h3⟩ := turn_both hI hr
    obtain ⟨b', g1, g2, g3⟩ := ih (i + 1) (x * 6364136223846793005 + 1442695040888963407) b1 (by omega) h1
    refine ⟨b', g1, fun M F hc hF => ?_, fun M F hm hF => ?_⟩
    · obtain ⟨f, rfl⟩ : ∃ f, F = f + 1 := ⟨F - 1, by omega⟩
      obtain ⟨M1, em, t1, t2⟩ := h2 M hc
      rw [kLp_i (s' := (x * 6364136223846793005 + 1442695040888963407, nI (i + 1), M1))]
      · refine kWk _ (g2 M1 f t1 (by omega)) ?_
        rintro M2 ⟨q1, q2⟩
        exact ⟨q1, t2.tr q2⟩
      · unfold m_SR_simulate_l53
        show (if nI n ≤ nI i then _ else _) = _
        rw [if_neg hle, er]
        show Option.bind (m_Si_takeTurn 21 (nI r) M) _ = _
        rw [em, bS, nI_1]
    · obtain ⟨f, rfl⟩ : ∃ f, F = f + 1 := ⟨F - 1, by omega⟩
      obtain ⟨⟨y, M1⟩, em, t1, t2, t3⟩ := h3 M hm
      simp only at t1 t2 t3
      rw [kLp_i (s' := (x * 6364136223846793005 + 1442695040888963407, nI (i + 1), M1))]
      · refine kWk _ (g3 M1 f t1 (by omega)) ?_
        rintro M2 ⟨q1, q2, q3⟩
        exact ⟨q1, t2.tr q2, fun j hj => (q3 j hj).trans (t3 j hj)⟩
      · unfold m_Mo_simulates_l13
        show (if nI n ≤ nI i then _ else _) = _
        rw [if_neg hle, er, em, bS, nI_1]
theorem pub_simulate {M : KMem} (h : GI M) (p0 : Int64) (p1 : Int32) : Pub M [eA] (m_SR_simulate 0 p0 p1 M) (m_Mo_simulate 235 p0 p1) := by
  have h' := h
  obtain ⟨H, k, S, kp, len, T, hc, hm⟩ := h'
  have hI := hc.1
  rcases in_c p1 (lo := 1) (hi := 60) (by omega) (by omega) with ⟨n, n1, n2, rfl, e⟩ | ⟨g1, e⟩
  · obtain ⟨b', hb', c1, c2⟩ := sim_both n2 n 0 p0 (M 236) (by omega) hI
    refine pub_d (v := 10000 * jrem (b' 95 - M 236 95) 10000 + 100 * sumF (sumV b' 1) (sN b') + 10 * wrC b' (sN b') + b' 0) h ?_ (fun M1 eM => ?_)
    · unfold m_SR_simulate
      rw [if_neg (by rw [show (1 : Int32) = nI 1 from rfl, nI_ltI (by omega) (by omega)]; omega), if_pos (by rw [show (60 : Int32) = nI 60 from rfl, nI_leI (by omega) (by omega)]; omega)]
      refine kB _ (draft_ok hI hc.2.1) ?_
      rintro M4 ⟨d1, d2⟩
      rw [show m_Tw_allFines (0 + 21) M4 = _ from allFines_ok d1 hI.2.2, bS]
      refine kB _ (c1 M4 kFU d1 (by have : kFU = 100000 := rfl; omega)) ?_
      rintro M13 ⟨q1, q2⟩
      rw [show m_Tw_allFines (0 + 21) M13 = _ from allFines_ok q1 hb'.2.2, bS]
      have el : m_Tw_lettersOfRights (0 + 21) M13 = some (sumF (sumV b' 1) (sN b')) := by
        unfold m_Tw_lettersOfRights
        rw [show m_Tw_lettersOf (0 + 21) (0 + 21 + 7) 8 M13 = _ from CletR q1 hb'.1, sumV_1]
        rfl
      rw [el, bS, show m_Tw_wrongSigns (0 + 21) M13 = _ from wrongSigns_ok q1 hb'.1, bS, show M13 (0 + 22) 1 = b' 0 from q1.1.1]
      exact kOk_i ⟨rfl, (d2.wk (fun o ho => ⟨by omega, by omega⟩)).tr (q2.wk (fun o (ho : 21 + 1 ≤ o ∧ o ≤ 21 + 17) => ⟨by omega, by omega⟩))⟩
    · unfold m_Mo_simulate
      rw [show m_Mo_in (nI n) 1 60 = some 1 from e, bS, if_neg u10, bS, Mholds_0, bS]
      show kOk (Option.bind (if (1 : Int32) = 0 then _ else _) _) _
      rw [if_neg u10]
      refine kPair ?_
      unfold m_Mo_simulates
      refine kB _ Maside_ok ?_
      rintro M2 ⟨s1, s2⟩
      have e2 : M2 236 = M 236 := by rw [s2 236 (by omega), kup_n _ _ _ (by omega)]; exact eM
      refine kB _ (c2 M2 kFU e2 (by have : kFU = 100000 := rfl; omega)) ?_
      rintro M10 ⟨q1, q2, q3⟩
      rw [show rdI M10 (235 + 1) 108 95 = _ from r95, bS, show rdI M10 (235 + 2) 108 95 = _ from r95, bS]
      have e237 : M10 237 = M2 237 := q2 237 (by show ¬ (237 = 235 ∨ 237 = 236 ∨ 237 = 241 ∨ 237 = 242); omega)
      refine kB _ (MsumOf (w := 1) q1 hb'.1 (by omega)) ?_
      rintro ⟨x, M17⟩ ⟨t1, t2⟩
      simp only at t1 t2
      subst t1
      have e17 : M17 236 = b' := (t2 236 (by omega)).trans q1
      have hw := Mwrongs (v := 235) (M := M17) (by rw [show M17 (235 + 1) = b' from e17]; exact hb'.1)
      rw [show M17 (235 + 1) = b' from e17] at hw
      show kOk (Option.bind (m_Mo_wrongs 235 M17) _) _
      rw [hw, bS, show rdI M17 (235 + 1) 108 0 = _ from r0, bS]
      refine kB _ Mback_ok ?_
      rintro M23 ⟨b1, b2⟩
      have F : frS (fun o => o = 235 ∨ o = 236 ∨ o = 237 ∨ o = 241 ∨ o = 242) M1 M23 := ((frS.up (Or.inl rfl)).tr (s2.wk (fun o ho => Or.inr (Or.inr (Or.inl ho))))).tr ((q2.wk (fun o (ho : o = 235 ∨ o = 236 ∨ o = 241 ∨ o = 242) => by omega)).tr ((t2.wk (fun o ho => Or.inr (Or.inr (Or.inr (Or.inl ho))))).tr (b2.wk (fun o ho => Or.inr (Or.inl ho)))))
      have ff : ∀ j, j = 0 ∨ j = 4 ∨ j = 6 ∨ j = 8 → M23 235 j = kup M1 235 0 0 235 j := fun j hj => by
        rw [b2 235 (by omega), t2 235 (by omega), q3 j hj, s2 235 (by omega)]
      refine kOk_i ⟨?_, ?_, fun i hi => ?_, F, fun j hj => ?_⟩
      · show 10000 * jrem (M10 (235 + 1) 95 - M10 (235 + 2) 95) 10000 + 100 * sumF (sumV b' 1) (sN b') + 10 * wrC b' (sN b') + M17 (235 + 1) 0 = _
        rw [show M17 (235 + 1) = b' from e17, show M10 (235 + 1) = b' from q1, show M10 (235 + 2) = M2 237 from e237, s1 95 (by omega), kup_n _ _ _ (by omega), eM]
      · show M23 235 0 = 0
        rw [ff 0 (Or.inl rfl), kup_s]
      · show M23 236 i = _
        rw [b1 i hi, t2 237 (by omega), e237, s1 i hi, kup_n _ _ _ (by omega), eM]
      · show M23 235 j = _
        rw [ff j (Or.inr hj), kup_j _ _ _ (by omega)]
  · refine pub_no h eA 0 rfl ?_ ?_
    · unfold m_SR_simulate
      by_cases c0 : p1 < 1
      · rw [if_pos c0]
      · rw [if_neg c0, if_neg (show ¬ p1 ≤ 60 from fun z => Int32.not_le.mpr (g1.elim (fun w => (c0 w).elim) id) z)]
    · unfold m_Mo_simulate
      rw [show m_Mo_in p1 1 60 = some 0 from e, bS, if_pos rfl, bS, show m_Mo_holds 235 1 M = _ from Mholds_n (by decide) M, bS]
      rfl
