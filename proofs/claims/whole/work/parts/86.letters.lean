/-! LAYER 2: every command of the text: its letters -/
theorem L_hit {len : Nat} {T : Nat → Nat} {M0 M : KMem} {p : Nat} {c g n : Int32} (hT : TX len T) (h : CX len T M0 p c g n M) (hh : Hit len T p (48 + 1) (48 + 6)) : ∃ M1, m_Tx_readLetter 1 M = some (1, M1) ∧ CX len T M0 (p + 1) c g (n * 10 + nI (T p - 48)) M1 := by
  obtain ⟨⟨x, M1⟩, em, t1, t2⟩ := C_hit (lo := 1) (hi := 6) hT h hh (by omega)
  simp only at t1 t2
  subst t1
  refine ⟨M1, ?_, t2⟩
  unfold m_Tx_readLetter
  rw [show m_Tx_readDigit 1 1 6 M = _ from em]
  rfl
theorem L_miss {len : Nat} {T : Nat → Nat} {M0 M : KMem} {p : Nat} {c g n : Int32} (hT : TX len T) (h : CX len T M0 p c g n M) (hp : p ≤ len) (hh : ¬ Hit len T p (48 + 1) (48 + 6)) : m_Tx_readLetter 1 M = some (0, M) := by
  unfold m_Tx_readLetter
  rw [show m_Tx_readDigit 1 1 6 M = _ from C_miss (lo := 1) (hi := 6) hT h hp hh (by omega) (by omega)]
  rfl
theorem kz_01 {x : Int32} (h : x = 0 ∨ x = 1) : kz x = some x := by
  rcases h with rfl | rfl <;> rfl
theorem BQ_d {len : Nat} {T : Nat → Nat} (hT : TX len T) {p1 : Nat} (hp : p1 ≤ len) : BQ len T p1 100 := by
  refine BQ_1 (lo := 1) (hi := 6) hT hp (by omega) (by omega) (by decide) (by decide) (fun x => 1 + x) (fun M x M' e hx em => ?_) (fun M e => ?_) (fun d h1 h2 => ?_) (fun d h1 h2 => ?_)
  · unfold cB m_Tx_readLetter
    rw [e, if_neg (by decide), if_neg (by decide), if_neg (by decide), if_neg (by decide), if_neg (by decide), if_neg (by decide), show m_Tx_readDigit 1 1 6 M = _ from em, bS]
    show Option.bind (Option.bind (kz x) _) _ = _
    rw [kz_01 hx, bS, bS]
    show Option.bind (kz x) _ = _
    rw [kz_01 hx, bS]
  · unfold mB
    rw [e, if_pos (Or.inl rfl)]
    rfl
  · show (1 : Int32) + nI (d - 1) = nI d
    rw [show (1 : Int32) = nI 1 from rfl, nI_add]; congr 1; omega
  · have := DN_d (a := d - 1) (by omega)
    rw [show 1 + (d - 1) = d by omega] at this
    exact this
theorem BQ_o {len : Nat} {T : Nat → Nat} (hT : TX len T) {p1 : Nat} (hp : p1 ≤ len) : BQ len T p1 111 := by
  refine BQ_1 (lo := 1) (hi := 6) hT hp (by omega) (by omega) (by decide) (by decide) (fun x => 1 + x) (fun M x M' e hx em => ?_) (fun M e => ?_) (fun d h1 h2 => ?_) (fun d h1 h2 => ?_)
  · unfold cB m_Tx_readLetter
    rw [e, if_neg (by decide), if_neg (by decide), if_neg (by decide), if_neg (by decide), if_neg (by decide), if_neg (by decide), show m_Tx_readDigit 1 1 6 M = _ from em, bS]
    show Option.bind (Option.bind (kz x) _) _ = _
    rw [kz_01 hx, bS, bS]
    show Option.bind (kz x) _ = _
    rw [kz_01 hx, bS]
  · unfold mB
    rw [e, if_pos (Or.inr rfl)]
    rfl
  · show (1 : Int32) + nI (d - 1) = nI d
    rw [show (1 : Int32) = nI 1 from rfl, nI_add]; congr 1; omega
  · have := DN_o (a := d - 1) (by omega)
    rw [show 1 + (d - 1) = d by omega] at this
    exact this
theorem BQ_p {len : Nat} {T : Nat → Nat} (hT : TX len T) {p1 : Nat} (hp : p1 ≤ len) : BQ len T p1 112 := by
  refine BQ_1 (lo := 0) (hi := 7) hT hp (by omega) (by omega) (by decide) (by decide) (fun x => x) (fun M x M' e hx em => ?_) (fun M e => ?_) (fun d h1 h2 => by rw [Nat.sub_zero]) (fun d h1 h2 => DN_p (by omega))
  · unfold cB
    rw [e, if_neg (by decide), if_neg (by decide), if_pos (by decide), show m_Tx_readDigit 1 0 7 M = _ from em, bS]
    show Option.bind (kz x) _ = _
    rw [kz_01 hx, bS]
  · unfold mB
    rw [e, if_neg (by decide), if_neg (by decide), if_neg (by decide), if_pos (by decide)]
    rfl
theorem BQ_r {len : Nat} {T : Nat → Nat} (hT : TX len T) {p1 : Nat} (hp : p1 ≤ len) : BQ len T p1 114 := by
  refine BQ_1 (lo := 0) (hi := 9) hT hp (by omega) (by omega) (by decide) (by decide) (fun x => x) (fun M x M' e hx em => ?_) (fun M e => ?_) (fun d h1 h2 => by rw [Nat.sub_zero]) (fun d h1 h2 => DN_r (by omega))
  · unfold cB
    rw [e, if_neg (by decide), if_neg (by decide), if_neg (by decide), if_pos (by decide), show m_Tx_readDigit 1 0 9 M = _ from em, bS]
    show Option.bind (kz x) _ = _
    rw [kz_01 hx, bS]
  · unfold mB
    rw [e, if_neg (by decide), if_neg (by decide), if_neg (by decide), if_neg (by decide), if_pos (by decide)]
    rfl
theorem BQ_y {len : Nat} {T : Nat → Nat} (hT : TX len T) {p1 : Nat} (hp : p1 ≤ len) : BQ len T p1 121 := by
  refine BQ_1 (lo := 1) (hi := 9) hT hp (by omega) (by omega) (by decide) (by decide) (fun x => 1 + x) (fun M x M' e hx em => ?_) (fun M e => ?_) (fun d h1 h2 => ?_) (fun d h1 h2 => DN_y h1 h2)
  · unfold cB
    rw [e, if_neg (by decide), if_neg (by decide), if_neg (by decide), if_neg (by decide), if_neg (by decide), if_pos (by decide), show m_Tx_readDigit 1 1 9 M = _ from em, bS]
    show Option.bind (kz x) _ = _
    rw [kz_01 hx, bS]
  · unfold mB
    rw [e, if_neg (by decide), if_neg (by decide), if_neg (by decide), if_neg (by decide), if_neg (by decide), if_neg (by decide), if_pos (by decide)]
    rfl
  · show (1 : Int32) + nI (d - 1) = nI d
    rw [show (1 : Int32) = nI 1 from rfl, nI_add]; congr 1; omega
theorem BQ_m {len : Nat} {T : Nat → Nat} (hT : TX len T) {p1 : Nat} (hp : p1 ≤ len) : BQ len T p1 109 := by
  obtain ⟨ok, p', n', g1, g2, g3, g4, g5⟩ := months_rd hT hp
  refine ⟨ok, p', 0, nI n', nI n', 0, 0, g1, g2, fun M0 M g0 hc => ?_, fun M0 M hm h11 => ?_, fun hk => DN_m (g3 hk).1 (g3 hk).2⟩
  · unfold cB
    rw [hc.2.2.2.2.1, if_neg (by decide), if_pos (by decide)]
    refine kB _ (g4 M0 M 109 g0 hc) ?_
    rintro ⟨x, M1⟩ ⟨q1, n1, q2, q3⟩
    simp only at q1 q2
    subst q1
    show kOk (Option.bind (kz (b01 ok)) _) _
    rw [kz_j, bS]
    exact kOk_i ⟨rfl, _, _, q2, fun hk => ⟨q3 hk, fun e => absurd e (by decide)⟩⟩
  · unfold mB
    rw [h11, if_neg (by decide), if_neg (by decide), if_pos (by decide)]
    refine kB _ (g5 M0 M hm) ?_
    rintro ⟨x, M1⟩ ⟨q1, q2, q3⟩
    simp only at q1 q2 q3
    refine kOk_i ⟨q2.k (by omega) (by omega), fun hk => ⟨?_, ?_, fun e => absurd e (by decide), fun e => absurd e (by decide)⟩⟩
    · show kup M1 235 12 x 235 11 = 109
      rw [kup_j _ _ _ (by omega), q3 11 (by omega) (by omega), h11]
    · show kup M1 235 12 x 235 12 = nI n'
      rw [kup_s, q1 hk]
theorem BQ_s {len : Nat} {T : Nat → Nat} (hT : TX len T) {p1 : Nat} (hp : p1 ≤ len) : BQ len T p1 115 := by
  have hl := hT.1
  by_cases hh : Hit len T p1 (48 + 0) (48 + 3)
  · obtain ⟨d, hd⟩ : ∃ d, d = T p1 - 48 := ⟨_, rfl⟩
    have hdb : d ≤ 3 ∧ T p1 = 48 + d := by have := hh.2; omega
    obtain ⟨ok, p', l', g1, g2, g3, g4, g5⟩ := word_ok hT (p := p1 + 1) hh.1
    refine ⟨ok, p', nI d, wN l', nI d, wN l', 0, by omega, g2, fun M0 M g0 hc => ?_, fun M0 M hm h11 => ?_, fun hk => DN_s (by omega) (isWord_wl (g3 hk).1 (g3 hk).2.1 (g3 hk).2.2)⟩
    · obtain ⟨⟨x, M1⟩, em, t1, t2⟩ := C_hit (lo := 0) (hi := 3) hT hc hh (by omega)
      simp only at t1 t2
      subst t1
      rw [← hd, show (0 : Int32) * 10 + nI d = nI d from by rw [show (0 : Int32) * 10 = 0 from by decide, Int32.zero_add]] at t2
      unfold cB
      rw [hc.2.2.2.2.1, if_neg (by decide), if_neg (by decide), if_neg (by decide), if_neg (by decide), if_pos (by decide), show m_Tx_readDigit 1 0 3 M = _ from em, bS]
      show kOk (Option.bind (if (1 : Int32) = 0 then _ else _) _) _
      rw [if_neg u10]
      obtain ⟨⟨y, M2⟩, e2, q1, n1, q2, q3⟩ := g4 M0 M1 115 g0 (nI d) t2
      simp only at q1 q2
      subst q1
      rw [e2, bS]
      show kOk (Option.bind (if b01 ok = 0 then _ else _) _) _
      cases ok with
      | true => exact kOk_i ⟨rfl, _, _, q2, fun _ => ⟨q3 rfl, fun _ => rfl⟩⟩
      | false => exact kOk_i ⟨rfl, _, _, q2, fun z => absurd z (by decide)⟩
    · unfold mB
      rw [h11, if_neg (by decide), if_neg (by decide), if_neg (by decide), if_neg (by decide), if_neg (by decide), if_pos (by decide)]
      refine kB _ (M_hit (a := 48) (b := 51) hT hm hh (by omega)) ?_
      rintro ⟨x, M1⟩ ⟨t1, t2, t3⟩
      simp only at t1 t2 t3
      subst t1
      rw [← hd]
      show kOk (Option.bind (some (kup M1 235 12 (nI d))) _) _
      rw [bS]
      refine kB _ (g5 M0 _ (t2.k (by omega) (by omega))) ?_
      rintro ⟨y, M2⟩ ⟨q1, q2, q3⟩
      simp only at q1 q2 q3
      refine kOk_i ⟨q2.k (by omega) (by omega), fun hk => ⟨?_, ?_, fun _ => ?_, fun e => absurd e (by decide)⟩⟩
      · show kup M2 235 13 y 235 11 = 115
        rw [kup_j _ _ _ (by omega), q3 11 (by omega) (by omega), kup_j _ _ _ (by omega), t3 11 (by omega) (by omega), h11]
      · show kup M2 235 13 y 235 12 = nI d
        rw [kup_j _ _ _ (by omega), q3 12 (by omega) (by omega), kup_s]
      · show kup M2 235 13 y 235 13 = wN l'
        rw [kup_s, q1 hk]
  · refine ⟨false, p1, 0, 0, 0, 0, 0, by omega, hp, fun M0 M g0 hc => ?_, fun M0 M hm h11 => ?_, fun z => absurd z (by decide)⟩
    · unfold cB
      rw [hc.2.2.2.2.1, if_neg (by decide), if_neg (by decide), if_neg (by decide), if_neg (by decide), if_pos (by decide), show m_Tx_readDigit 1 0 3 M = _ from C_miss (lo := 0) (hi := 3) hT hc hp hh (by omega) (by omega), bS]
      exact kOk_i ⟨rfl, _, _, hc, fun z => absurd z (by decide)⟩
    · unfold mB
      rw [h11, if_neg (by decide), if_neg (by decide), if_neg (by decide), if_neg (by decide), if_neg (by decide), if_pos (by decide)]
      refine kB _ (M_miss (a := 48) (b := 51) hT hm hp hh (by omega) (by omega)) ?_
      rintro ⟨x, M1⟩ ⟨t1, t2, t3⟩
      show kOk (Option.bind (some (kup M1 235 12 x)) _) _
      rw [bS]
      unfold m_Mo_readWord
      have b1 := t2.k (j := 12) (v := x) (by omega) (by omega)
      obtain ⟨⟨y, M2⟩, e2, r1, r2, r3⟩ := M_bad (a := 49) (b := 54) b1
      simp only at r1 r2 r3
      rw [e2, bS]
      show kOk (Option.bind (Option.bind (kLp (m_Mo_readWord_l13 235) kFU (1 + y, 1, M2)) _) _) _
      obtain ⟨⟨v, M3⟩, e3, s1, s2⟩ := W_bad (v := 1 + y) r2
      refine kB (fun q => MX len T M0 p1 1 q.2) (kWk _ (W_bad (v := 1 + y) r2) (fun q hq => hq.1)) ?_
      rintro ⟨v', M3'⟩ hq
      exact kOk_i ⟨hq.k (by omega) (by omega), fun z => absurd z (by decide)⟩
theorem BQ_j {len : Nat} {T : Nat → Nat} (hT : TX len T) {p1 : Nat} (hp : p1 ≤ len) : BQ len T p1 106 := by
  have hl := hT.1
  have e0 : ∀ a, (0 : Int32) * 10 + nI a = nI a := fun a => by rw [show (0 : Int32) * 10 = 0 from by decide, Int32.zero_add]
  -- the model in a bad text
  have bad1 : ∀ {M0 M : KMem} {p : Nat}, MX len T M0 p 1 M → kOk (Option.bind (m_Mo_takes 235 49 54 M) fun (x41, M42) => Option.bind (some (kup M42 235 14 (1 + x41))) fun M44 => some M44) (fun M' => MX len T M0 p 1 M') := fun {M0 M p} h => by
    refine kB _ (M_bad h) ?_
    rintro ⟨x, M1⟩ ⟨q1, q2, q3⟩
    exact kOk_i (q2.k (by omega) (by omega))
  have bad2 : ∀ {M0 M : KMem} {p : Nat}, MX len T M0 p 1 M → kOk (Option.bind (m_Mo_takes 235 49 54 M) fun (x36, M37) => Option.bind (some (kup M37 235 13 (1 + x36))) fun M39 => Option.bind (m_Mo_takes 235 49 54 M39) fun (x41, M42) => Option.bind (some (kup M42 235 14 (1 + x41))) fun M44 => some M44) (fun M' => MX len T M0 p 1 M') := fun {M0 M p} h => by
    refine kB _ (M_bad h) ?_
    rintro ⟨x, M1⟩ ⟨q1, q2, q3⟩
    exact bad1 (q2.k (j := 13) (v := 1 + x) (by omega) (by omega))
  by_cases h1 : Hit len T p1 (48 + 1) (48 + 6)
  · obtain ⟨a, ha⟩ : ∃ a, a = T p1 - 49 := ⟨_, rfl⟩
    have hab : a < 6 ∧ T p1 - 48 = 1 + a := by have := h1.2; omega
    have cl1 : ∀ M0 M g0, CX len T M0 p1 106 g0 0 M → ∃ M1, m_Tx_readLetter 1 M = some (1, M1) ∧ CX len T M0 (p1 + 1) 106 g0 (nI (1 + a)) M1 := fun M0 M g0 hc => by
      obtain ⟨M1, em, t⟩ := L_hit hT hc h1
      rw [hab.2, e0] at t
      exact ⟨M1, em, t⟩
    have mo1 : ∀ M0 M, MX len T M0 p1 0 M → M 235 11 = 106 → ∃ M1, m_Mo_takes 235 49 54 M = some (nI a, M1) ∧ MX len T M0 (p1 + 1) 0 (kup M1 235 12 (nI (1 + a))) ∧ kup M1 235 12 (nI (1 + a)) 235 11 = 106 ∧ kup M1 235 12 (nI (1 + a)) 235 12 = nI (1 + a) := fun M0 M hm h11 => by
      obtain ⟨⟨x, M1⟩, em, t1, t2, t3⟩ := M_hit (a := 49) (b := 54) hT hm h1 (by omega)
      simp only at t1 t2 t3
      subst t1
      rw [← ha] at em
      exact ⟨M1, em, t2.k (by omega) (by omega), by rw [kup_j _ _ _ (by omega), t3 11 (by omega) (by omega), h11], kup_s _ _ _ _⟩
    by_cases h2 : Hit len T (p1 + 1) (48 + 1) (48 + 6)
    · obtain ⟨b, hb⟩ : ∃ b, b = T (p1 + 1) - 49 := ⟨_, rfl⟩
      have hbb : b < 6 ∧ T (p1 + 1) - 48 = 1 + b := by have := h2.2; omega
      have cl2 : ∀ M0 M g0, CX len T M0 (p1 + 1) 106 g0 (nI (1 + a)) M → ∃ M1, m_Tx_readLetter 1 M = some (1, M1) ∧ CX len T M0 (p1 + 1 + 1) 106 g0 (nI (10 * (1 + a) + (1 + b))) M1 := fun M0 M g0 hc => by
        obtain ⟨M1, em, t⟩ := L_hit hT hc h2
        rw [hbb.2, show nI (1 + a) * 10 = nI ((1 + a) * 10) from pk_mul (1 + a) 10, nI_add, Nat.mul_comm] at t
        exact ⟨M1, em, t⟩
      have mo2 : ∀ M0 M, MX len T M0 (p1 + 1) 0 M → M 235 11 = 106 → M 235 12 = nI (1 + a) → ∃ M1, m_Mo_takes 235 49 54 M = some (nI b, M1) ∧ MX len T M0 (p1 + 1 + 1) 0 (kup M1 235 13 (nI (1 + b))) ∧ kup M1 235 13 (nI (1 + b)) 235 11 = 106 ∧ kup M1 235 13 (nI (1 + b)) 235 12 = nI (1 + a) ∧ kup M1 235 13 (nI (1 + b)) 235 13 = nI (1 + b) := fun M0 M hm h11 h12 => by
        obtain ⟨⟨x, M1⟩, em, t1, t2, t3⟩ := M_hit (a := 49) (b := 54) hT hm h2 (by omega)
        simp only at t1 t2 t3
        subst t1
        rw [← hb] at em
        exact ⟨M1, em, t2.k (by omega) (by omega), by rw [kup_j _ _ _ (by omega), t3 11 (by omega) (by omega), h11], by rw [kup_j _ _ _ (by omega), t3 12 (by omega) (by omega), h12], kup_s _ _ _ _⟩
      have v1 : ∀ a, (1 : Int32) + nI a = nI (1 + a) := fun a => nI_add 1 a
      by_cases h3 : Hit len T (p1 + 1 + 1) (48 + 1) (48 + 6)
      · obtain ⟨d, hd⟩ : ∃ d, d = T (p1 + 1 + 1) - 49 := ⟨_, rfl⟩
        have hdb : d < 6 ∧ T (p1 + 1 + 1) - 48 = 1 + d := by have := h3.2; omega
        refine ⟨true, p1 + 1 + 1 + 1, 0, nI (100 * (1 + a) + 10 * (1 + b) + (1 + d)), nI (1 + a), nI (1 + b), nI (1 + d), by omega, h3.1, fun M0 M g0 hc => ?_, fun M0 M hm h11 => ?_, fun _ => DN_j hab.1 hbb.1 hdb.1⟩
        · obtain ⟨M1, em1, t1⟩ := cl1 M0 M g0 hc
          obtain ⟨M2, em2, t2⟩ := cl2 M0 M1 g0 t1
          obtain ⟨M3, em3, t3⟩ := L_hit hT t2 h3
          rw [hdb.2, show nI (10 * (1 + a) + (1 + b)) * 10 = nI ((10 * (1 + a) + (1 + b)) * 10) from pk_mul _ 10, nI_add, show (10 * (1 + a) + (1 + b)) * 10 + (1 + d) = 100 * (1 + a) + 10 * (1 + b) + (1 + d) by omega] at t3
          unfold cB
          rw [hc.2.2.2.2.1, if_pos rfl, em1, bS]
          show kOk (Option.bind (if (1 : Int32) = 0 then _ else _) _) _
          rw [if_neg u10, em2, bS]
          show kOk (Option.bind (if (1 : Int32) = 0 then _ else _) _) _
          rw [if_neg u10, em3, bS]
          exact kOk_i ⟨rfl, _, _, t3, fun _ => ⟨rfl, fun e => absurd e (by decide)⟩⟩
        · obtain ⟨M1, em1, t1, r1, r2⟩ := mo1 M0 M hm h11
          obtain ⟨M2, em2, t2, s1, s2, s3⟩ := mo2 M0 _ t1 r1 r2
          obtain ⟨⟨x, M3⟩, em3, u1, u2, u3⟩ := M_hit (a := 49) (b := 54) hT t2 h3 (by omega)
          simp only at u1 u2 u3
          subst u1
          rw [← hd] at em3
          unfold mB
          rw [h11, if_neg (by decide), if_pos (by decide), em1, bS]
          show kOk (Option.bind (some (kup M1 235 12 (1 + nI a))) _) _
          rw [bS, v1, em2, bS]
          show kOk (Option.bind (some (kup M2 235 13 (1 + nI b))) _) _
          rw [bS, v1, show m_Mo_takes 235 49 54 (kup M2 235 13 (nI (1 + b))) = _ from em3, bS]
          show kOk (Option.bind (some (kup M3 235 14 (1 + nI d))) _) _
          rw [bS, v1]
          refine kOk_i ⟨u2.k (by omega) (by omega), fun _ => ⟨?_, ?_, fun _ => ?_, fun _ => kup_s _ _ _ _⟩⟩
          · rw [kup_j _ _ _ (by omega), u3 11 (by omega) (by omega), s1]
          · rw [kup_j _ _ _ (by omega), u3 12 (by omega) (by omega), s2]
          · rw [kup_j _ _ _ (by omega), u3 13 (by omega) (by omega), s3]
      · refine ⟨false, p1 + 1 + 1, 0, 0, 0, 0, 0, by omega, h2.1, fun M0 M g0 hc => ?_, fun M0 M hm h11 => ?_, fun z => absurd z (by decide)⟩
        · obtain ⟨M1, em1, t1⟩ := cl1 M0 M g0 hc
          obtain ⟨M2, em2, t2⟩ := cl2 M0 M1 g0 t1
          unfold cB
          rw [hc.2.2.2.2.1, if_pos rfl, em1, bS]
          show kOk (Option.bind (if (1 : Int32) = 0 then _ else _) _) _
          rw [if_neg u10, em2, bS]
          show kOk (Option.bind (if (1 : Int32) = 0 then _ else _) _) _
          rw [if_neg u10, L_miss hT t2 h2.1 h3, bS]
          exact kOk_i ⟨rfl, _, _, t2, fun z => absurd z (by decide)⟩
        · obtain ⟨M1, em1, t1, r1, r2⟩ := mo1 M0 M hm h11
          obtain ⟨M2, em2, t2, s1, s2, s3⟩ := mo2 M0 _ t1 r1 r2
          unfold mB
          rw [h11, if_neg (by decide), if_pos (by decide), em1, bS]
          show kOk (Option.bind (some (kup M1 235 12 (1 + nI a))) _) _
          rw [bS, v1, em2, bS]
          show kOk (Option.bind (some (kup M2 235 13 (1 + nI b))) _) _
          rw [bS, v1]
          refine kB _ (M_miss (a := 49) (b := 54) hT t2 h2.1 h3 (by omega) (by omega)) ?_
          rintro ⟨x, M3⟩ ⟨u1, u2, u3⟩
          exact kOk_i ⟨u2.k (by omega) (by omega), fun z => absurd z (by decide)⟩
    · refine ⟨false, p1 + 1, 0, 0, 0, 0, 0, by omega, h1.1, fun M0 M g0 hc => ?_, fun M0 M hm h11 => ?_, fun z => absurd z (by decide)⟩
      · obtain ⟨M1, em1, t1⟩ := cl1 M0 M g0 hc
        unfold cB
        rw [hc.2.2.2.2.1, if_pos rfl, em1, bS]
        show kOk (Option.bind (if (1 : Int32) = 0 then _ else _) _) _
        rw [if_neg u10, L_miss hT t1 h1.1 h2, bS]
        exact kOk_i ⟨rfl, _, _, t1, fun z => absurd z (by decide)⟩
      · obtain ⟨M1, em1, t1, r1, r2⟩ := mo1 M0 M hm h11
        unfold mB
        rw [h11, if_neg (by decide), if_pos (by decide), em1, bS]
        show kOk (Option.bind (some (kup M1 235 12 (1 + nI a))) _) _
        rw [bS, show (1 : Int32) + nI a = nI (1 + a) from nI_add 1 a]
        refine kB _ (M_miss (a := 49) (b := 54) hT t1 h1.1 h2 (by omega) (by omega)) ?_
        rintro ⟨x, M2⟩ ⟨u1, u2, u3⟩
        exact kWk _ (bad1 (u2.k (j := 13) (v := 1 + x) (by omega) (by omega))) (fun M' h => ⟨h, fun z => absurd z (by decide)⟩)
  · refine ⟨false, p1, 0, 0, 0, 0, 0, by omega, hp, fun M0 M g0 hc => ?_, fun M0 M hm h11 => ?_, fun z => absurd z (by decide)⟩
    · unfold cB
      rw [hc.2.2.2.2.1, if_pos rfl, L_miss hT hc hp h1, bS]
      exact kOk_i ⟨rfl, _, _, hc, fun z => absurd z (by decide)⟩
    · unfold mB
      rw [h11, if_neg (by decide), if_pos (by decide)]
      refine kB _ (M_miss (a := 49) (b := 54) hT hm hp h1 (by omega) (by omega)) ?_
      rintro ⟨x, M1⟩ ⟨u1, u2, u3⟩
      exact kWk _ (bad2 (u2.k (j := 12) (v := 1 + x) (by omega) (by omega))) (fun M' h => ⟨h, fun z => absurd z (by decide)⟩)
