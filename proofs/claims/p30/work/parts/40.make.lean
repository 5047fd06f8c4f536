/-! MAKING: new objects and arrays, references written, for constructors (the heap's end is exact there) -/
def lNew (L : KLay) (k len : Nat) : KLay := (L.1 + 1, va_up L.2.1 L.1 k, va_up L.2.2.1 L.1 len, va_up L.2.2.2 L.1 (fun _ => none))
def mNew (L : KLay) (M : KMem) : KMem := fun o => if o = L.1 then (fun _ => 0) else M o
def lRef (L : KLay) (o j q : Nat) : KLay := (L.1, L.2.1, L.2.2.1, va_up L.2.2.2 o (va_up (L.2.2.2 o) j (some q)))
theorem va_up_s {α : Type} (f : Nat → α) (k : Nat) (v : α) : va_up f k v k = v := by simp [va_up]
theorem va_up_n {α : Type} (f : Nat → α) {k j : Nat} (v : α) (h : j ≠ k) : va_up f k v j = f j := by simp [va_up, h]
theorem kE_congr {B : KB} {L L' : KLay} {M M' : KMem} {k : Nat} (h1 : L'.2.1 k = L.2.1 k) (h2 : L'.2.2.1 k = L.2.2.1 k) (h3 : L'.2.2.2 k = L.2.2.2 k) (h4 : M' k = M k) : kE B L' M' k = kE B L M k := by
  have hv : kV B.1 L' M' k = kV B.1 L M k := by
    funext j
    simp [kV, h1, h3, h4]
  simp [kE, h1, h2, h3, h4, hv]
theorem kW_push {B : KB} {L : KLay} {M : KMem} {k len : Nat} : kW B (lNew L k len) (mNew L M) = kW B L M ++ [(B.1 + L.1, kE B (lNew L k len) (mNew L M) L.1)] := by
  show (List.range (L.1 + 1)).map _ = _
  rw [List.range_succ, List.map_append]
  have key : (List.range L.1).map (fun j => (B.1 + j, kE B (lNew L k len) (mNew L M) j)) = (List.range L.1).map (fun j => (B.1 + j, kE B L M j)) := by
   refine List.map_congr_left fun j hj => ?_
   have hj : j < L.1 := List.mem_range.mp hj
   have hne : j ≠ L.1 := Nat.ne_of_lt hj
   refine congrArg (fun e => (B.1 + j, e)) (kE_congr (va_up_n _ _ hne) (va_up_n _ _ hne) (va_up_n _ _ hne) ?_)
   show (if j = L.1 then _ else _) = _
   rw [if_neg hne]
  rw [key]
  rfl
section MRows
variable {X : KX} {B : KB} {L : KLay} {own : String} {cc : ByteArray} {nL : Nat} {rm : Room} {cn sn : Nat} {M : KMem} {pc : Nat} {ls : List (Nat × Value)} {st rest : List Value} {ci : Nat} {C : String} {T : u_T} {N : Nat} {ty : Nat → FieldType} {k : Nat}
theorem kW_grown {H H1 : Heap} {kd len : Nat} {e : va_E} (hx : B.2.2.2 = true) (hW : KW B L M H) (z1 : H1.size = H.size + 1) (o1 : ∀ q : Nat, q < H.size → H1[q]? = H[q]?) (he : kE B (lNew L kd len) (mNew L M) L.1 = e) (hat : va_at B.2.1 kCl (B.1 + L.1, e) H1) : KW B (lNew L kd len) (mNew L M) H1 := by
  have hz := hW.2.1 hx
  refine ⟨?_, fun _ => by rw [z1, hz]; rfl, by rw [z1]; exact Nat.le_succ_of_le hW.2.2⟩
  rw [kW_push, he]
  refine (hW.1.kept (fun k x hx => o1 x.1 ((hW.1 k x hx).lt))).app (fun k x hx => ?_)
  have hk : k < 1 := (List.getElem?_eq_some_iff.mp hx).1
  rw [show k = 0 by omega] at hx
  cases hx
  exact hat
theorem va_S_push {A : Nat → Prop} {H0 H H1 : Heap} {locs : List Loc} (hS : va_S A H0 H locs) (z1 : H1.size = H.size + 1) (o1 : ∀ q : Nat, q < H.size → H1[q]? = H[q]?) : va_S A H0 H1 locs :=
  ⟨Nat.le_trans hS.1 (by omega), fun x h1 h2 => (o1 x (Nat.lt_of_lt_of_le h1 hS.1)).trans (hS.2.1 x h1 h2), hS.2.2⟩
/-- new C -/
theorem k_new (G : Good X B own cc nL rm) (hx : B.2.2.2 = true) (K : KC ci C T N ty) (hdef : ∀ j, j < N → defaultValue (ty j) = if kR ci j = true then Value.null else Value.int 0) {idx : Nat} (d : decode cc pc = .ok (.new idx, 3)) (hl : Cond.classLink own idx C ∈ GT) (hi : Cond.instantiable C N ∈ GT) (hn : Cond.initialized C ∈ GT) (hc : Nat.ble (cn + 1) rm.cells = true) (hs : Nat.ble (sn + N) rm.slots = true)
    (kk : KK X B (lNew L ci 0) nL (cn + 1) (sn + N) (mNew L M) (pc + 3) ls (.ref (B.1 + L.1) :: st)) : KK X B L nL cn sn M pc ls st := by
  intro H locs la hW hS hla
  have hrm : xR X = rm := G.2.2.2.2.2.2.2.2.2.2
  have hts := G.2.2.2.2.1
  obtain ⟨hcl, hin, hty, hnm, hN, h9⟩ := K
  have hz := hW.2.1 hx
  have hKn := G.2.2.2.2.2.1.1 ci _ hcl
  refine W.newcK G.1 G.2.1 G.2.2.2.1 (hts _ hl) (hts _ hi) (hts _ hn) rfl d (by rw [hrm]; exact Nat.le_of_ble_eq_true hc) (by rw [hrm]; exact Nat.le_of_ble_eq_true hs) hKn.2.1 hz fun H1 kC hkC e1 z1 o1 => ?_
  rw [← hz] at e1 z1 o1
  have hkd : (lNew L ci 0).2.1 L.1 = ci := va_up_s _ _ _
  refine kk H1 locs la (kW_grown hx hW z1 o1 (kE_obj hkd h9) ⟨_, hcl, ?_⟩) (va_S_push hS z1 o1) hla
  rw [← hz]
  refine (u_born ty hts hin hKn hkC e1 hty).to fun j hj => ?_
  rw [hdef j hj]
  simp only [vp_V, hN]
  rw [List.getD_eq_getElem?_getD, kfs_get hj]
  simp only [kV, hkd]
  by_cases hR : kR ci j = true
  · rw [if_pos hR, if_pos hR]
    simp [lNew, va_up, va_rf]
  · rw [if_neg hR, if_neg hR]
    simp [mNew]
/-- new int[n], new boolean[n], new long[n] -/
theorem k_newI (G : Good X B own cc nL rm) (hx : B.2.2.2 = true) (ha : Cond.arrayClass (newarray.typeOf .int) ∈ GT) (d : decode cc pc = .ok (.newarray .int, 2)) {n : Int32} {len : Nat} (hn : ¬ n < 0) (hN : n.toNatClampNeg = len) (hb : Nat.ble len 100000 = true) (hc : Nat.ble (cn + 1) rm.cells = true) (hs : Nat.ble (sn + len) rm.slots = true)
    (kk : KK X B (lNew L 9 len) nL (cn + 1) (sn + len) (mNew L M) (pc + 2) ls (.ref (B.1 + L.1) :: st)) : KK X B L nL cn sn M pc ls (.int n :: st) := by
  intro H locs la hW hS hla
  have hrm : xR X = rm := G.2.2.2.2.2.2.2.2.2.2
  have hts := G.2.2.2.2.1
  have hz := hW.2.1 hx
  have hb := Nat.le_of_ble_eq_true hb
  refine va_newaK G.1 G.2.1 (atype := .int) (hts _ ha) rfl d rfl hn hN (by show len * 4 ≤ _; omega) (by rw [hrm]; exact Nat.le_of_ble_eq_true hc) (by rw [hrm]; exact Nat.le_of_ble_eq_true hs) hz fun H1 cA e1 z1 o1 hAr hNm => ?_
  rw [← hz] at e1 z1 o1
  have hkd : (lNew L 9 len).2.1 L.1 = 9 := va_up_s _ _ _
  have hcA : cA = B.2.2.1.1 := Option.some.inj (hNm.symm.trans (G.2.2.2.2.2.1.2 0 _ rfl).2)
  refine kk H1 locs la (kW_grown hx hW z1 o1 (kE_9 hkd) ?_) (va_S_push hS z1 o1) hla
  show H1[B.1 + L.1]? = some (vp_cell _ _)
  rw [← hz, e1, hcA, vp_cell_i]
  simp [lNew, va_up, mNew]
  rfl
theorem k_newZ (G : Good X B own cc nL rm) (hx : B.2.2.2 = true) (ha : Cond.arrayClass (newarray.typeOf .boolean) ∈ GT) (d : decode cc pc = .ok (.newarray .boolean, 2)) {n : Int32} {len : Nat} (hn : ¬ n < 0) (hN : n.toNatClampNeg = len) (hb : Nat.ble len 100000 = true) (hc : Nat.ble (cn + 1) rm.cells = true) (hs : Nat.ble (sn + len) rm.slots = true)
    (kk : KK X B (lNew L 10 len) nL (cn + 1) (sn + len) (mNew L M) (pc + 2) ls (.ref (B.1 + L.1) :: st)) : KK X B L nL cn sn M pc ls (.int n :: st) := by
  intro H locs la hW hS hla
  have hrm : xR X = rm := G.2.2.2.2.2.2.2.2.2.2
  have hts := G.2.2.2.2.1
  have hz := hW.2.1 hx
  have hb := Nat.le_of_ble_eq_true hb
  refine va_newaK G.1 G.2.1 (atype := .boolean) (hts _ ha) rfl d rfl hn hN (by show len * 1 ≤ _; omega) (by rw [hrm]; exact Nat.le_of_ble_eq_true hc) (by rw [hrm]; exact Nat.le_of_ble_eq_true hs) hz fun H1 cA e1 z1 o1 hAr hNm => ?_
  rw [← hz] at e1 z1 o1
  have hkd : (lNew L 10 len).2.1 L.1 = 10 := va_up_s _ _ _
  have hcA : cA = B.2.2.1.2.1 := Option.some.inj (hNm.symm.trans (G.2.2.2.2.2.1.2 1 _ rfl).2)
  refine kk H1 locs la (kW_grown hx hW z1 o1 (kE_10 hkd) ?_) (va_S_push hS z1 o1) hla
  show H1[B.1 + L.1]? = some (vp_cell _ _)
  rw [← hz, e1, hcA, vp_cell_i]
  simp [lNew, va_up, mNew]
  rfl
/-- new State[n] -/
theorem k_newQ (G : Good X B own cc nL rm) (hx : B.2.2.2 = true) {idx : Nat} (hl : Cond.classLink own idx "SignReforms$State" ∈ GT) (d : decode cc pc = .ok (.anewarray idx, 3)) {n : Int32} {len : Nat} (hn : ¬ n < 0) (hN : n.toNatClampNeg = len) (hb : Nat.ble len 100000 = true) (hc : Nat.ble (cn + 1) rm.cells = true) (hs : Nat.ble (sn + len) rm.slots = true)
    (kk : KK X B (lNew L 11 len) nL (cn + 1) (sn + len) (mNew L M) (pc + 3) ls (.ref (B.1 + L.1) :: st)) : KK X B L nL cn sn M pc ls (.int n :: st) := by
  intro H locs la hW hS hla
  have hrm : xR X = rm := G.2.2.2.2.2.2.2.2.2.2
  have hts := G.2.2.2.2.1
  have hz := hW.2.1 hx
  have hb := Nat.le_of_ble_eq_true hb
  subst hN
  refine W.anew G.1 G.2.1 G.2.2.2.1 (hts _ hl) (va_AO.use G.2.2.2.2.2.2.1.1.2.2.2) rfl d rfl hn (by omega) (by rw [hrm]; exact Nat.le_of_ble_eq_true hc) (by rw [hrm]; exact Nat.le_of_ble_eq_true hs) fun cA kA comp f1 f2 f3 f4 => ?_
  generalize hH1 : H.push ({ cls := cA, slots := Array.replicate n.toNatClampNeg .null, vm := .none } : Cell) = H1
  have z1 : H1.size = H.size + 1 := by rw [← hH1, Array.size_push]
  have e1 : H1[H.size]? = some (arrV cA n.toNatClampNeg (fun _ => .null)) := by rw [← hH1, Array.getElem?_push_size, ← arrV_new]
  have o1 : ∀ q : Nat, q < H.size → H1[q]? = H[q]? := fun q hq => by rw [← hH1, Array.getElem?_push, if_neg (Nat.ne_of_lt hq)]
  have hkd : (lNew L 11 n.toNatClampNeg).2.1 L.1 = 11 := va_up_s _ _ _
  obtain ⟨kA', comp', g1, g2, g3, g4⟩ := (G.2.2.2.2.2.1.2 2 _ rfl).2
  have hcA : cA = B.2.2.1.2.2.1 := Option.some.inj (f1.symm.trans g4)
  have e9 : H.size = B.1 + L.1 := hz
  rw [e9]
  refine kk H1 locs la (kW_grown hx hW z1 o1 (kE_11 hkd) ?_) (va_S_push hS z1 o1) hla
  show H1[B.1 + L.1]? = some (vp_cell _ _)
  rw [← hz, e1, hcA, vp_cell_q]
  simp [lNew, va_up, va_rf]
/-- a reference is written into a final field -/
theorem k_putFR (G : Good X B own cc nL rm) (K : KC ci C T N ty) {idx : Nat} (d : decode cc pc = .ok (.putfield idx, 3)) (hk : k < L.1) (hc : L.2.1 k = ci) (j : Nat) (hj : j < N) (hR : kR ci j = true) (hfin : (T j).2.2.2 = true) (hin2 : (xH X).name = "<init>") (hdecl : (T j).1 = own) (hl : Cond.fieldLink own idx (T j).1 (T j).2.1 (T j).2.2.1 ∈ GT) {q : Nat} (hn : narrow (ty j) (.ref (B.1 + q)) = .ref (B.1 + q)) (hfit : fits (ty j) (.ref (B.1 + q)) = true) (kk : KK X B (lRef L k j q) nL cn sn M (pc + 3) ls st) : KK X B L nL cn sn M pc ls (.ref (B.1 + q) :: .ref (B.1 + k) :: st) := by
  refine k_putF G K d hk hc j hj hfin hin2 hdecl hl hn hfit (L' := lRef L k j q) (M' := M) rfl ?_ (fun i hi => kE_congr rfl rfl (va_up_n _ _ hi) rfl) kk
  have hkd : (lRef L k j q).2.1 k = ci := hc
  rw [kE_obj hkd K.2.2.2.2.2]
  refine congrArg (fun z => Sum.inr (ci, z)) (kfs_set ?_ ?_).symm
  · exact kV_r (by rw [hkd]; exact hR) (by simp [lRef, va_up])
  · intro i hi
    simp only [kV]
    have e : (lRef L k j q).2.2.2 k i = L.2.2.2 k i := by simp [lRef, va_up, hi]
    rw [e]
    rfl
/-- a reference is written into an array of them -/
theorem k_qst (G : Good X B own cc nL rm) (d : decode cc pc = .ok (.aastore, 1)) (hk : k < L.1) (hc : L.2.1 k = 11) {n : Nat} (hn : L.2.2.1 k = n) {i : Int32} {j q : Nat} (e : ckI n i = some j) (hq : q < L.1) (hqc : L.2.1 q = 5) (kk : KK X B (lRef L k j q) nL cn sn M (pc + 1) ls st) : KK X B L nL cn sn M pc ls (.ref (B.1 + q) :: .int i :: .ref (B.1 + k) :: st) := by
  intro H locs la hW hS hla
  subst hn
  obtain ⟨hi, rfl, hlt⟩ := ckI_ok e
  have hK := G.2.2.2.2.2.1
  have hget : (kW B L M)[k]? = some (B.1 + k, .inl (B.2.2.1.2.2.1, L.2.2.1 k, .inr (.inr (.inr (.inr (fun j => (L.2.2.2 k j).map (B.1 + ·))))))) := by rw [kW_get hk, kE_11 hc]
  have hgq : (kW B L M)[q]? = some (B.1 + q, .inr (5, (List.range (kN 5)).map (kV B.1 L M q))) := by rw [kW_get hq, kE_obj hqc (by decide)]
  obtain ⟨r', hr', cellV, g1, g2, g3, -⟩ := hW.1 q _ hgq
  have hcls := (hK.1 5 _ rfl).2
  obtain ⟨kA, comp, k1, k2, k3, -⟩ := (hK.2 2 _ rfl).2
  have hcomp : comp = B.2.1.1 5 := Option.some.inj (k3.symm.trans hcls.1)
  subst hcomp
  obtain ⟨kC, hkC, -⟩ := hcls.2
  have h0 : ¬ i < 0 := fun q => hi (Or.inl q)
  refine W.aast G.1 G.2.1 (hW.1 k _ hget) (fun q h => by cases h) (fun h => by cases h) k1 k2 rfl hkC ⟨h0, by show _ < (arrV _ _ _).slots.size; rw [arrV_size]; exact hlt⟩ g1 (fun q h => by rw [g3] at h; cases h) (by rw [g2]; exact hkC) (by rw [g2]; exact va_assign hcls) rfl rfl d fun H1 e z oq => ?_
  refine kk H1 _ la (KW_put (L' := lRef L k i.toNatClampNeg q) (M' := M) hW rfl z (hW.1.set (kW_D B L M) hget (e := .inl (B.2.2.1.2.2.1, L.2.2.1 k, .inr (.inr (.inr (.inr (va_up (fun j => (L.2.2.2 k j).map (B.1 + ·)) i.toNatClampNeg (some (B.1 + q)))))))) ?_ oq) (kW_set hk rfl ?_ (fun j hj => kE_congr rfl rfl (va_up_n _ _ hj) rfl))) (hS.put z oq (Nat.le_add_right _ _)) hla
  · show H1[B.1 + k]? = some (vp_cell _ _)
    rw [e]
    rw [vp_cell_q, vp_cell_q, arrV_store]
    congr 2
    funext q
    by_cases hq : q = i.toNatClampNeg
    · subst hq
      simp [updV, va_up, va_rf]
    · simp [updV, va_up, hq]
  · have hkd : (lRef L k i.toNatClampNeg q).2.1 k = 11 := hc
    rw [kE_11 hkd]
    refine congrArg (fun f => Sum.inl (B.2.2.1.2.2.1, L.2.2.1 k, Sum.inr (Sum.inr (Sum.inr (Sum.inr f))))) ?_
    funext j
    by_cases hj : j = i.toNatClampNeg
    · subst hj
      simp [lRef, va_up]
    · simp [lRef, va_up, hj]
/-- Object's constructor -/
theorem k_objInit (G : Good X B own cc nL rm) {idx : Nat} (d : decode cc pc = .ok (.invokespecial idx, 3)) (hl : Cond.methodLink own idx Lib.objectInit ∈ GT) (hm : Cond.instanceMethod Lib.objectInit ∈ GT ∧ Cond.code Lib.objectInit ⟨#[0xb1]⟩ 1 none ∈ GT) {a : Nat} (hf : Nat.ble 1 rm.frames = true) (hlo : Nat.ble ((st.map fun v => v.category).sum + 12) rm.locals = true) (kk : KK X B L nL cn sn M (pc + 3) ls st) : KK X B L nL cn sn M pc ls (.ref a :: st) := by
  intro H locs la hW hS hla
  have hrm : xR X = rm := G.2.2.2.2.2.2.2.2.2.2
  have hts := G.2.2.2.2.1
  refine W.objInit G.1 G.2.1 G.2.2.2.1 (hts _ hl) (hts _ hm.1) (hts _ hm.2) rfl (by rw [G.2.2.1]; exact hla.1) rfl d (by rw [hrm]; exact Nat.le_of_ble_eq_true hf) ?_ (kk H locs la hW hS hla)
  rw [hrm]
  have h9 := Nat.le_of_ble_eq_true hlo
  show 2 * 0 + _ + 12 ≤ _
  omega
end MRows
