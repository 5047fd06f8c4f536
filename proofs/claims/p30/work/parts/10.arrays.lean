/-! laid by wip/p30/g30.py: Ar_fillI -/
def I_Ar_fillI : List (Nat × Instr × Nat) := [(0, .iconst 0, 1), (1, .istore_n 2, 1), (2, .aload_n 0, 1), (3, .arraylength, 1), (4, .istore_n 3, 1), (5, .iload_n 2, 1), (6, .iload_n 3, 1), (7, .if_icmp .ge 13, 3), (10, .aload_n 0, 1), (11, .iload_n 2, 1), (12, .iload_n 1, 1), (13, .iastore, 1), (14, .iinc 2 1, 3), (17, .goto (-12), 3), (20, .return_, 1)]
set_option maxRecDepth 100000 in
theorem d_Ar_fillI : decA cJ7_fill_53178 I_Ar_fillI = true := by decide +kernel
abbrev rm_Ar_fillI : Room := ({ frames := 0, cells := 0, slots := 0, locals := 0 } : Room)
def m_Ar_fillI_l5 (p0 : Nat) (p0n : Nat) (p1 : Int32) : (Int32 × KMem) → Option ((Int32 × KMem) ⊕ KMem) := fun (v2_1, M2) =>
 if (Int32.ofNat p0n) ≤ v2_1 then
 (some (.inr M2))
 else
 (Option.bind (wrI M2 p0 p0n v2_1 p1) fun M5 =>
 some (.inl (v2_1 + 1, M5)))
def m_Ar_fillI (p0 : Nat) (p0n : Nat) (p1 : Int32) (M : KMem) : Option KMem :=
 Option.bind (α := KMem) (kLp (m_Ar_fillI_l5 p0 p0n p1) kFU (0, M)) fun M6 =>
 some M6
set_option maxHeartbeats 4000000 in
set_option maxRecDepth 100000 in
theorem b_Ar_fillI {X : KX} {B : KB} {L : KLay} {M : KMem} {p0 : Nat} {p0n : Nat} {p1 : Int32} (G : Good X B RJ7 cJ7_fill_53178 4 rm_Ar_fillI) (hp0 : arL L p0 9 p0n) (h : kOk (m_Ar_fillI p0 p0n p1 M) (fun r => RV X B L 4 cJ7_fill_53178 rm_Ar_fillI r)) : KK X B L 4 0 0 M 0 [(0, .ref (B.1 + p0)), (1, .int p1)] [] := by
  unfold m_Ar_fillI at h
  refine k_iconst G (dc d_Ar_fillI 0 rfl) cI_0 ?_
  refine k_istore_n G (dc d_Ar_fillI 1 rfl) (ls' := [(2, .int 0), (0, .ref (B.1 + p0)), (1, .int p1)]) rfl rfl rfl ?_
  refine k_aload_n G (dc d_Ar_fillI 2 rfl) 1 rfl rfl ?_
  refine k_len G (dc d_Ar_fillI 3 rfl) hp0.1 hp0.2.1 (v := Int32.ofNat p0n) (by rw [hp0.2.2]) ?_
  refine k_istore_n G (dc d_Ar_fillI 4 rfl) (ls' := [(3, .int (Int32.ofNat p0n)), (2, .int 0), (0, .ref (B.1 + p0)), (1, .int p1)]) rfl rfl rfl ?_
  refine kJ h (fun r7 => KK X B L 4 0 0 r7 20 [] []) (fun r7 h => ?_) (fun h => ?_)
  · obtain ⟨M6, rfl⟩ : ∃ z, z = r7 := ⟨_, rfl⟩
    show KK X B L 4 0 0 M6 20 [] []
    exact (kOk_s h) _ _ _ _ rfl rfl (dc d_Ar_fillI 14 rfl)
  · refine k_sub [2, 3, 1, 0] rfl ?_
    refine kLp_ok (P := fun s8 => KK X B L 4 0 0 s8.2 5 [(0, .ref (B.1 + p0)), (1, .int p1), (2, .int s8.1), (3, .int (Int32.ofNat p0n))] []) (fun s8 h => ?_) kFU _ h
    obtain ⟨v2_1, M2⟩ := s8
    unfold m_Ar_fillI_l5 at h
    show KK X B L 4 0 0 M2 5 [(0, .ref (B.1 + p0)), (1, .int p1), (2, .int v2_1), (3, .int (Int32.ofNat p0n))] []
    refine k_iload_n G (dc d_Ar_fillI 5 rfl) 2 rfl rfl ?_
    refine k_iload_n G (dc d_Ar_fillI 6 rfl) 3 rfl rfl ?_
    refine k_icmp_ge G (dc d_Ar_fillI 7 rfl) (tgt := 20) rfl (fun c3 => ?_) (fun c3 => ?_)
    · replace h := kOk_p c3 h
      refine k_sub [] rfl ?_
      have h9 := kOk_s h
      exact h9
    · replace h := kOk_n c3 h
      refine k_aload_n G (dc d_Ar_fillI 8 rfl) 0 rfl rfl ?_
      refine k_iload_n G (dc d_Ar_fillI 9 rfl) 2 rfl rfl ?_
      refine k_iload_n G (dc d_Ar_fillI 10 rfl) 1 rfl rfl ?_
      obtain ⟨M5, e4, h⟩ := kOk_b h
      refine k_ist G (dc d_Ar_fillI 11 rfl) hp0.1 hp0.2.1 hp0.2.2 e4 ?_
      refine k_iinc G (dc d_Ar_fillI 12 rfl) (ls' := [(2, .int (v2_1 + 1)), (0, .ref (B.1 + p0)), (1, .int p1), (3, .int (Int32.ofNat p0n))]) 2 rfl cI_1 rfl rfl ?_
      refine k_goto G (dc d_Ar_fillI 13 rfl) (tgt := 5) rfl ?_
      refine k_sub [1, 2, 0, 3] rfl ?_
      have h9 := kOk_s h
      exact h9
theorem c_Ar_fillI {l : Launch} {B : KB} {L : KLay} {M : KMem} {p0 : Nat} {p0n : Nat} {p1 : Int32} (hst : l.stackTraces = false) (hp0 : arL L p0 9 p0n) {M' : KMem} (e : m_Ar_fillI p0 p0n p1 M = some M') : CtrN l B yJ7_fill_53178 cJ7_fill_53178 4 none rm_Ar_fillI [.ref (B.1 + p0), .int p1] L M none L M' :=
  mk_V rfl hst rfl (fun X hl G _ R => b_Ar_fillI G hp0 ⟨_, e, R⟩)
