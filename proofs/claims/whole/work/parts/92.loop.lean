/-! THE LAW: its switch, its loop, its head -/
theorem cB_31 : (Int8.ofInt 31).toInt32 = 31 := by decide
theorem l_sw {X : KX} {B : KB} {L : KLay} {b Ln : Nat} {xs : Nat → Int32} {M : KMem} {cn sn : Nat} {i w : Int32} (H : LG X B L b Ln xs) (hg : GI M) (h1 : vp_in (i + 1) Ln) (h2 : vp_in (i + 2) Ln) (h3 : vp_in (i + 3) Ln) (h4 : vp_in (i + 4) Ln) (hc : cn + 100 ≤ 601024) (hs : sn + 1000 ≤ 7293034) (K : ∀ M3 k n, GI M3 → k ≤ cn + 100 → n ≤ sn + 1000 → KK X B L 7 k n M3 1763 (ls5 B b i) []) : KK X B L 7 cn sn M 39 (ls5 B b i) [.int w] := by
  have G := H.1
  rcases ts_out w 0 26 with ho | ⟨k9, h91, h92, h93⟩
  · exact k_tableOut G (dc d_law_h 24 rfl) (tgt := 1763) ho rfl (K M cn sn hg (Nat.le_add_right _ _) (Nat.le_add_right _ _))
  · have h94 : k9 = 0 ∨ k9 = 1 ∨ k9 = 2 ∨ k9 = 3 ∨ k9 = 4 ∨ k9 = 5 ∨ k9 = 6 ∨ k9 = 7 ∨ k9 = 8 ∨ k9 = 9 ∨ k9 = 10 ∨ k9 = 11 ∨ k9 = 12 ∨ k9 = 13 ∨ k9 = 14 ∨ k9 = 15 ∨ k9 = 16 ∨ k9 = 17 ∨ k9 = 18 ∨ k9 = 19 ∨ k9 = 20 ∨ k9 = 21 ∨ k9 = 22 ∨ k9 = 23 ∨ k9 = 24 ∨ k9 = 25 ∨ k9 = 26 := by omega
    rcases h94 with rfl | rfl | rfl | rfl | rfl | rfl | rfl | rfl | rfl | rfl | rfl | rfl | rfl | rfl | rfl | rfl | rfl | rfl | rfl | rfl | rfl | rfl | rfl | rfl | rfl | rfl | rfl
    · exact k_tsI G (dc d_law_h 24 rfl) (off := 121) (tgt := 160) (h93.trans (show Int32.ofInt 0 = 0 by decide)) (by decide) (by decide) (by decide) (by decide) (l_0 H hg h1 h2 h3 h4 hc hs K)
    · exact k_tsI G (dc d_law_h 24 rfl) (off := 177) (tgt := 216) (h93.trans (show Int32.ofInt 1 = 1 by decide)) (by decide) (by decide) (by decide) (by decide) (l_1 H hg h1 h2 h3 h4 hc hs K)
    · exact k_tsI G (dc d_law_h 24 rfl) (off := 190) (tgt := 229) (h93.trans (show Int32.ofInt 2 = 2 by decide)) (by decide) (by decide) (by decide) (by decide) (l_2 H hg h1 h2 h3 h4 hc hs K)
    · exact k_tsI G (dc d_law_h 24 rfl) (off := 203) (tgt := 242) (h93.trans (show Int32.ofInt 3 = 3 by decide)) (by decide) (by decide) (by decide) (by decide) (l_3 H hg h1 h2 h3 h4 hc hs K)
    · exact k_tsI G (dc d_law_h 24 rfl) (off := 247) (tgt := 286) (h93.trans (show Int32.ofInt 4 = 4 by decide)) (by decide) (by decide) (by decide) (by decide) (l_4 H hg h1 h2 h3 h4 hc hs K)
    · exact k_tsI G (dc d_law_h 24 rfl) (off := 303) (tgt := 342) (h93.trans (show Int32.ofInt 5 = 5 by decide)) (by decide) (by decide) (by decide) (by decide) (l_5 H hg h1 h2 h3 h4 hc hs K)
    · exact k_tsI G (dc d_law_h 24 rfl) (off := 371) (tgt := 410) (h93.trans (show Int32.ofInt 6 = 6 by decide)) (by decide) (by decide) (by decide) (by decide) (l_6 H hg h1 h2 h3 h4 hc hs K)
    · exact k_tsI G (dc d_law_h 24 rfl) (off := 439) (tgt := 478) (h93.trans (show Int32.ofInt 7 = 7 by decide)) (by decide) (by decide) (by decide) (by decide) (l_7 H hg h1 h2 h3 h4 hc hs K)
    · exact k_tsI G (dc d_law_h 24 rfl) (off := 507) (tgt := 546) (h93.trans (show Int32.ofInt 8 = 8 by decide)) (by decide) (by decide) (by decide) (by decide) (l_8 H hg h1 h2 h3 h4 hc hs K)
    · exact k_tsI G (dc d_law_h 24 rfl) (off := 575) (tgt := 614) (h93.trans (show Int32.ofInt 9 = 9 by decide)) (by decide) (by decide) (by decide) (by decide) (l_9 H hg h1 h2 h3 h4 hc hs K)
    · exact k_tsI G (dc d_law_h 24 rfl) (off := 631) (tgt := 670) (h93.trans (show Int32.ofInt 10 = 10 by decide)) (by decide) (by decide) (by decide) (by decide) (l_10 H hg h1 h2 h3 h4 hc hs K)
    · exact k_tsI G (dc d_law_h 24 rfl) (off := 699) (tgt := 738) (h93.trans (show Int32.ofInt 11 = 11 by decide)) (by decide) (by decide) (by decide) (by decide) (l_11 H hg h1 h2 h3 h4 hc hs K)
    · exact k_tsI G (dc d_law_h 24 rfl) (off := 791) (tgt := 830) (h93.trans (show Int32.ofInt 12 = 12 by decide)) (by decide) (by decide) (by decide) (by decide) (l_12 H hg h1 h2 h3 h4 hc hs K)
    · exact k_tsI G (dc d_law_h 24 rfl) (off := 847) (tgt := 886) (h93.trans (show Int32.ofInt 13 = 13 by decide)) (by decide) (by decide) (by decide) (by decide) (l_13 H hg h1 h2 h3 h4 hc hs K)
    · exact k_tsI G (dc d_law_h 24 rfl) (off := 903) (tgt := 942) (h93.trans (show Int32.ofInt 14 = 14 by decide)) (by decide) (by decide) (by decide) (by decide) (l_14 H hg h1 h2 h3 h4 hc hs K)
    · exact k_tsI G (dc d_law_h 24 rfl) (off := 959) (tgt := 998) (h93.trans (show Int32.ofInt 15 = 15 by decide)) (by decide) (by decide) (by decide) (by decide) (l_15 H hg h1 h2 h3 h4 hc hs K)
    · exact k_tsI G (dc d_law_h 24 rfl) (off := 1015) (tgt := 1054) (h93.trans (show Int32.ofInt 16 = 16 by decide)) (by decide) (by decide) (by decide) (by decide) (l_16 H hg h1 h2 h3 h4 hc hs K)
    · exact k_tsI G (dc d_law_h 24 rfl) (off := 1083) (tgt := 1122) (h93.trans (show Int32.ofInt 17 = 17 by decide)) (by decide) (by decide) (by decide) (by decide) (l_17 H hg h1 h2 h3 h4 hc hs K)
    · exact k_tsI G (dc d_law_h 24 rfl) (off := 1127) (tgt := 1166) (h93.trans (show Int32.ofInt 18 = 18 by decide)) (by decide) (by decide) (by decide) (by decide) (l_18 H hg h1 h2 h3 h4 hc hs K)
    · exact k_tsI G (dc d_law_h 24 rfl) (off := 1219) (tgt := 1258) (h93.trans (show Int32.ofInt 19 = 19 by decide)) (by decide) (by decide) (by decide) (by decide) (l_19 H hg h1 h2 h3 h4 hc hs K)
    · exact k_tsI G (dc d_law_h 24 rfl) (off := 1232) (tgt := 1271) (h93.trans (show Int32.ofInt 20 = 20 by decide)) (by decide) (by decide) (by decide) (by decide) (l_20 H hg h1 h2 h3 h4 hc hs K)
    · exact k_tsI G (dc d_law_h 24 rfl) (off := 1300) (tgt := 1339) (h93.trans (show Int32.ofInt 21 = 21 by decide)) (by decide) (by decide) (by decide) (by decide) (l_21 H hg h1 h2 h3 h4 hc hs K)
    · exact k_tsI G (dc d_law_h 24 rfl) (off := 1356) (tgt := 1395) (h93.trans (show Int32.ofInt 22 = 22 by decide)) (by decide) (by decide) (by decide) (by decide) (l_22 H hg h1 h2 h3 h4 hc hs K)
    · exact k_tsI G (dc d_law_h 24 rfl) (off := 1412) (tgt := 1451) (h93.trans (show Int32.ofInt 23 = 23 by decide)) (by decide) (by decide) (by decide) (by decide) (l_23 H hg h1 h2 h3 h4 hc hs K)
    · exact k_tsI G (dc d_law_h 24 rfl) (off := 1512) (tgt := 1551) (h93.trans (show Int32.ofInt 24 = 24 by decide)) (by decide) (by decide) (by decide) (by decide) (l_24 H hg h1 h2 h3 h4 hc hs K)
    · exact k_tsI G (dc d_law_h 24 rfl) (off := 1612) (tgt := 1651) (h93.trans (show Int32.ofInt 25 = 25 by decide)) (by decide) (by decide) (by decide) (by decide) (l_25 H hg h1 h2 h3 h4 hc hs K)
    · exact k_tsI G (dc d_law_h 24 rfl) (off := 1668) (tgt := 1707) (h93.trans (show Int32.ofInt 26 = 26 by decide)) (by decide) (by decide) (by decide) (by decide) (l_26 H hg h1 h2 h3 h4 hc hs K)
theorem len_n5 : ∀ n, n < 5 → nI n - 5 < 0 := by decide
set_option maxRecDepth 20000 in
theorem law_loop {X : KX} {B : KB} {L : KLay} {b Ln : Nat} {xs : Nat → Int32} (H : LG X B L b Ln xs) (hL : Ln ≤ 2560) (E : ∀ M cn sn, cn ≤ 601024 → sn ≤ 7293034 → KK X B L 7 cn sn M 1770 [] [.int 1]) :
    ∀ n j M cn sn, GI M → Ln < 5 * j + 5 * n + 5 → 5 * j ≤ 2560 → cn + 100 * n ≤ 601024 → sn + 1000 * n ≤ 7293034 → KK X B L 7 cn sn M 23 (ls5 B b (nI (5 * j))) [] := by
  have G := H.1
  have go : ∀ {M : KMem} {cn sn : Nat} {i : Int32} (j : Nat), 5 * j ≤ 2560 → (∀ (c : ¬ nI Ln - 5 < nI (5 * j)), KK X B L 7 cn sn M 32 (ls5 B b (nI (5 * j))) []) → cn ≤ 601024 → sn ≤ 7293034 → KK X B L 7 cn sn M 23 (ls5 B b (nI (5 * j))) [] := fun {M cn sn i} j hj k h1 h2 => by
    refine k_iload G (dc d_law_h 13 rfl) 4 rfl ?_
    refine k_aload_n G (dc d_law_h 14 rfl) 0 rfl rfl ?_
    refine k_slen H (dc d_law_h 15 rfl) ?_
    refine k_iconst G (dc d_law_h 16 rfl) cI_5 ?_
    refine k_isub G (dc d_law_h 17 rfl) ?_
    refine k_icmp_gt G (dc d_law_h 18 rfl) (tgt := 1769) rfl (fun c => ?_) k
    refine k_iconst G (dc d_law_e 2 rfl) cI_1 ?_
    exact k_sub [] rfl (E M cn sn h1 h2)
  intro n
  induction n with
  | zero =>
    intro j M cn sn hg hn hj hc hs
    refine go (i := 0) j hj (fun c => (c ?_).elim) (by omega) (by omega)
    by_cases h5 : 5 ≤ Ln
    · rw [show nI Ln - 5 = nI (Ln - 5) from pk_sub (a := Ln) (b := 5) h5, nI_ltI (by omega) (by omega)]
      omega
    · exact Int32.lt_of_lt_of_le (len_n5 Ln (by omega)) ((nI_leI (a := 0) (by omega) (by omega)).mpr (by omega))
  | succ n ih =>
    intro j M cn sn hg hn hj hc hs
    refine go (i := 0) j hj (fun c => ?_) (by omega) (by omega)
    have h5 : 5 ≤ Ln := by
      by_cases h5 : 5 ≤ Ln
      · exact h5
      · exact (c (Int32.lt_of_lt_of_le (len_n5 Ln (by omega)) ((nI_leI (a := 0) (by omega) (by omega)).mpr (by omega)))).elim
    have hle : 5 * j + 5 ≤ Ln := by
      rw [show nI Ln - 5 = nI (Ln - 5) from pk_sub (a := Ln) (b := 5) h5, nI_ltI (by omega) (by omega)] at c
      omega
    have v : ∀ k, k < 5 → vp_in (nI (5 * j) + nI k) Ln := fun k hk => by rw [nI_add]; exact vp_in_nI (by omega) (by omega)
    refine k_aload_n G (dc d_law_h 19 rfl) 0 rfl rfl ?_
    refine k_iload G (dc d_law_h 20 rfl) 4 rfl ?_
    refine k_sld H (vp_in_nI (by omega) (by omega)) (dc d_law_h 21 rfl) ?_
    refine k_bipush G (dc d_law_h 22 rfl) cB_31 ?_
    refine k_iand G (dc d_law_h 23 rfl) ?_
    have hc1 : cn + 100 ≤ 601024 := Nat.le_trans (by omega) hc
    have hs1 : sn + 1000 ≤ 7293034 := Nat.le_trans (by omega) hs
    refine l_sw H hg (v 1 (by omega)) (v 2 (by omega)) (v 3 (by omega)) (v 4 (by omega)) hc1 hs1 (fun M3 k m g3 hk hm => ?_)
    refine k_iinc G (dc d_law_e 0 rfl) 4 rfl cI_5 rfl rfl ?_
    refine k_goto G (dc d_law_e 1 rfl) (tgt := 23) rfl ?_
    refine k_sub [1, 2, 3, 4, 0] rfl ?_
    have := ih (j + 1) M3 k m g3 (by omega) (by omega) (by omega) (by omega)
    rw [show nI (5 * (j + 1)) = nI (5 * j) + 5 from by rw [show (5 : Int32) = nI 5 from rfl, nI_add]; congr 1] at this
    exact this
