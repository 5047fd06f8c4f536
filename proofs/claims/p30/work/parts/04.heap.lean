/-! FIELDS AND ARRAYS, for KK -/
def KC (ci : Nat) (C : String) (T : u_T) (N : Nat) (ty : Nat → FieldType) : Prop :=
  kCl[ci]? = some (C, T, N) ∧ (∀ w ∈ u_ws C T N, w ∈ GT) ∧ (∀ k, k < N → parseFieldDescriptor (T k).2.2.1 = some (ty k)) ∧ (∀ a, a < N → ∀ b, b < N → a ≠ b → (T a).2.1 ≠ (T b).2.1) ∧ kN ci = N ∧ ci < 9
theorem gt_ws {C : String} {T : u_T} {N : Nat} (h : (u_ws C T N).all (fun w => decide (w ∈ lw_tbl) && goodWord w) = true) : ∀ w ∈ u_ws C T N, w ∈ GT := by
  intro w hw
  have h1 := List.all_eq_true.mp h w hw
  rw [Bool.and_eq_true] at h1
  exact List.mem_filter.mpr ⟨of_decide_eq_true h1.1, h1.2⟩
theorem kc0 : KC 0 RX0 TX0 2 tyX0 := ⟨rfl, gt_ws (by decide +kernel), tyX0_ok, nmX0, rfl, by decide⟩
theorem kc1 : KC 1 RX1 TX1 1 tyX1 := ⟨rfl, gt_ws (by decide +kernel), tyX1_ok, nmX1, rfl, by decide⟩
theorem kc2 : KC 2 RX2 TX2 5 tyX2 := ⟨rfl, gt_ws (by decide +kernel), tyX2_ok, nmX2, rfl, by decide⟩
theorem kc3 : KC 3 RX3 TX3 6 tyX3 := ⟨rfl, gt_ws (by decide +kernel), tyX3_ok, nmX3, rfl, by decide⟩
theorem kc4 : KC 4 RX4 TX4 1 tyX4 := ⟨rfl, gt_ws (by decide +kernel), tyX4_ok, nmX4, rfl, by decide⟩
theorem kc5 : KC 5 RX7 TX7 15 tyX7 := ⟨rfl, gt_ws (by decide +kernel), tyX7_ok, nmX7, rfl, by decide⟩
theorem kc6 : KC 6 RX8 TX8 4 tyX8 := ⟨rfl, gt_ws (by decide +kernel), tyX8_ok, nmX8, rfl, by decide⟩
theorem kc7 : KC 7 RX10 TX10 4 tyX10 := ⟨rfl, gt_ws (by decide +kernel), tyX10_ok, nmX10, rfl, by decide⟩
theorem kE_obj {B : KB} {L : KLay} {M : KMem} {k ci : Nat} (hc : L.2.1 k = ci) (h9 : ci < 9) : kE B L M k = .inr (ci, (List.range (kN ci)).map (kV B.1 L M k)) := by
  simp only [kE]
  rw [if_neg (by omega), if_neg (by omega), if_neg (by omega), if_neg (by omega), hc]
theorem kfs_get {g : Nat → Value} {N j : Nat} (h : j < N) : ((List.range N).map g)[j]? = some (g j) := by simp [h]
theorem kfs_set {g g' : Nat → Value} {N j : Nat} {v : Value} (hv : g' j = v) (ho : ∀ i, i ≠ j → g' i = g i) : ((List.range N).map g).set j v = (List.range N).map g' := by
  refine List.ext_getElem? fun i => ?_
  rw [List.getElem?_set]
  by_cases h : j = i
  · subst h
    rw [if_pos rfl]
    by_cases hN : j < N
    · simp [hN, hv]
    · simp [hN]
  · rw [if_neg h]
    by_cases hN : i < N
    · simp [hN, ho i (fun e => h e.symm)]
    · simp [hN]
section HRows
variable {X : KX} {B : KB} {L : KLay} {own : String} {cc : ByteArray} {nL : Nat} {rm : Room} {cn sn : Nat} {M : KMem} {pc : Nat} {ls : List (Nat × Value)} {st : List Value} {ci : Nat} {C : String} {T : u_T} {N : Nat} {ty : Nat → FieldType} {k : Nat}
theorem k_getV (G : Good X B own cc nL rm) (K : KC ci C T N ty) {idx : Nat} (d : decode cc pc = .ok (.getfield idx, 3)) (hk : k < L.1) (hc : L.2.1 k = ci) (j : Nat) (hj : j < N) (hl : Cond.fieldLink own idx (T j).1 (T j).2.1 (T j).2.2.1 ∈ GT) {v : Value} (hv : kV B.1 L M k j = v) (kk : KK X B L nL cn sn M (pc + 3) ls (v :: st)) : KK X B L nL cn sn M pc ls (.ref (B.1 + k) :: st) := by
  intro H locs la hW hS hla
  subst hv
  refine va_get G.1 G.2.1 G.2.2.2.2.1 K.2.1 G.2.2.2.1 G.2.2.2.2.2.1 hW.1 k (fs := (List.range (kN ci)).map (kV B.1 L M k)) ?_ K.1 j hj (G.2.2.2.2.1 _ hl) (fun _ h => h) ?_ d (kk H locs la hW hS hla)
  · rw [kW_get hk, kE_obj hc K.2.2.2.2.2]
  · exact kfs_get (by rw [K.2.2.2.2.1]; exact hj)
theorem k_getVN (G : Good X B own cc nL rm) (K : KC ci C T N ty) {idx : Nat} {host : String} (d : decode cc pc = .ok (.getfield idx, 3)) (hk : k < L.1) (hc : L.2.1 k = ci) (j : Nat) (hj : j < N) (hl : Cond.fieldLinkNest own idx (T j).1 (T j).2.1 (T j).2.2.1 host ∈ lw_tbl) {v : Value} (hv : kV B.1 L M k j = v) (kk : KK X B L nL cn sn M (pc + 3) ls (v :: st)) : KK X B L nL cn sn M pc ls (.ref (B.1 + k) :: st) := by
  intro H locs la hW hS hla
  subst hv
  refine va_getN G.1 G.2.1 G.2.2.2.2.1 K.2.1 G.2.2.2.1 G.2.2.2.2.2.1 hW.1 k (fs := (List.range (kN ci)).map (kV B.1 L M k)) ?_ K.1 j hj (va_Nw.use rfl (G.2.2.2.2.2.2.1.1.1 _ hl rfl)) (fun _ h => h) ?_ d (kk H locs la hW hS hla)
  · rw [kW_get hk, kE_obj hc K.2.2.2.2.2]
  · exact kfs_get (by rw [K.2.2.2.2.1]; exact hj)
theorem kV_i {b : Nat} {j : Nat} (h : kR (L.2.1 k) j = false) : kV b L M k j = .int (M k j) := by simp [kV, h]
theorem kV_r {b : Nat} {j q : Nat} (h : kR (L.2.1 k) j = true) (hq : L.2.2.2 k j = some q) : kV b L M k j = .ref (b + q) := by simp [kV, h, hq, va_rf]
/-- a field that is a number -/
theorem k_getI (G : Good X B own cc nL rm) (K : KC ci C T N ty) {idx : Nat} (d : decode cc pc = .ok (.getfield idx, 3)) (hk : k < L.1) (hc : L.2.1 k = ci) (j : Nat) (hj : j < N) (hR : kR ci j = false) (hl : Cond.fieldLink own idx (T j).1 (T j).2.1 (T j).2.2.1 ∈ GT) (kk : KK X B L nL cn sn M (pc + 3) ls (.int (M k j) :: st)) : KK X B L nL cn sn M pc ls (.ref (B.1 + k) :: st) :=
  k_getV G K d hk hc j hj hl (kV_i (by rw [hc]; exact hR)) kk
theorem k_getIN (G : Good X B own cc nL rm) (K : KC ci C T N ty) {idx : Nat} {host : String} (d : decode cc pc = .ok (.getfield idx, 3)) (hk : k < L.1) (hc : L.2.1 k = ci) (j : Nat) (hj : j < N) (hR : kR ci j = false) (hl : Cond.fieldLinkNest own idx (T j).1 (T j).2.1 (T j).2.2.1 host ∈ lw_tbl) (kk : KK X B L nL cn sn M (pc + 3) ls (.int (M k j) :: st)) : KK X B L nL cn sn M pc ls (.ref (B.1 + k) :: st) :=
  k_getVN G K d hk hc j hj hl (kV_i (by rw [hc]; exact hR)) kk
/-- a field that is a reference -/
theorem k_getR (G : Good X B own cc nL rm) (K : KC ci C T N ty) {idx : Nat} (d : decode cc pc = .ok (.getfield idx, 3)) (hk : k < L.1) (hc : L.2.1 k = ci) (j : Nat) (hj : j < N) (hR : kR ci j = true) (hl : Cond.fieldLink own idx (T j).1 (T j).2.1 (T j).2.2.1 ∈ GT) (q : Nat) (hq : L.2.2.2 k j = some q) (kk : KK X B L nL cn sn M (pc + 3) ls (.ref (B.1 + q) :: st)) : KK X B L nL cn sn M pc ls (.ref (B.1 + k) :: st) :=
  k_getV G K d hk hc j hj hl (kV_r (by rw [hc]; exact hR) hq) kk
theorem k_getRN (G : Good X B own cc nL rm) (K : KC ci C T N ty) {idx : Nat} {host : String} (d : decode cc pc = .ok (.getfield idx, 3)) (hk : k < L.1) (hc : L.2.1 k = ci) (j : Nat) (hj : j < N) (hR : kR ci j = true) (hl : Cond.fieldLinkNest own idx (T j).1 (T j).2.1 (T j).2.2.1 host ∈ lw_tbl) (q : Nat) (hq : L.2.2.2 k j = some q) (kk : KK X B L nL cn sn M (pc + 3) ls (.ref (B.1 + q) :: st)) : KK X B L nL cn sn M pc ls (.ref (B.1 + k) :: st) :=
  k_getVN G K d hk hc j hj hl (kV_r (by rw [hc]; exact hR) hq) kk
theorem kW_up {B : KB} {e : va_E} {i : Nat} {x : Int32} (hk : k < L.1) (he : kE B L (kup M k i x) k = e) : (kW B L M).set k (B.1 + k, e) = kW B L (kup M k i x) :=
  kW_set hk rfl he (fun j hj => kE_n (kup_n M i x hj))
theorem KW_put {H H1 : Heap} {M' : KMem} {L' : KLay} {ws : va_W} (h : KW B L M H) (hn : L'.1 = L.1) (hz : H1.size = H.size) (hP : va_P B.2.1 kCl ws H1) (hw : ws = kW B L' M') : KW B L' M' H1 := by
  subst hw
  exact ⟨hP, fun e => by rw [hz, hn]; exact h.2.1 e, by rw [hz]; exact h.2.2⟩
/-- a field that isn't final is written -/
theorem k_putV (G : Good X B own cc nL rm) (K : KC ci C T N ty) {idx : Nat} (d : decode cc pc = .ok (.putfield idx, 3)) (hk : k < L.1) (hc : L.2.1 k = ci) (j : Nat) (hj : j < N) (hfin : (T j).2.2.2 = false) (hl : Cond.fieldLink own idx (T j).1 (T j).2.1 (T j).2.2.1 ∈ GT) {v : Value} (hn : narrow (ty j) v = v) (hfit : fits (ty j) v = true) {L' : KLay} {M' : KMem} (hL : L'.1 = L.1)
    (he : kE B L' M' k = .inr (ci, ((List.range (kN ci)).map (kV B.1 L M k)).set j v)) (ho : ∀ i, i ≠ k → kE B L' M' i = kE B L M i) (kk : KK X B L' nL cn sn M' (pc + 3) ls st) : KK X B L nL cn sn M pc ls (v :: .ref (B.1 + k) :: st) := by
  intro H locs la hW hS hla
  obtain ⟨hcl, hin, hty, hnm, hN, h9⟩ := K
  have hK := G.2.2.2.2.2.1
  have hts := G.2.2.2.2.1
  have hown := G.2.2.2.1
  have hap := va_apart (own := own) hts hin ty hty hnm hK hcl
  have hget : (kW B L M)[k]? = some (B.1 + k, .inr (ci, (List.range (kN ci)).map (kV B.1 L M k))) := by rw [kW_get hk, kE_obj hc h9]
  obtain ⟨r, h1, cell, q1, q2, q3, q4⟩ := hW.1 k _ hget
  have hr : r = (C, T, N) := Option.some.inj (h1.symm.trans hcl)
  subst hr
  obtain ⟨hSl, hfc, kC, hkC, hkind⟩ := hK.1 ci _ hcl
  obtain ⟨cf, kf, fi, f, hi, hsl⟩ := hSl j hj
  have hlay := hts _ (hin _ (u_in_lay hj))
  unfold u_lay at hlay
  rw [if_neg (by rw [hfin]; decide)] at hlay
  have hst := (u_facts hfc hkC (u_lays hts hin hj) hi).1
  have h6 := u_store hfc hkC hkind hlay hi (hty j hj) hn hfit
  refine W.putK G.1 G.2.1 (f := f) ⟨hown, hts _ hl, ⟨_, _, _, hi⟩, hst⟩ (by rw [q2]; exact h6) q1 q3 (by rw [hsl]; exact k2_hasslot (q4 j hj)) rfl rfl d fun H' e1 e2 e3 => ?_
  rw [hsl] at e1 ⊢
  refine kk H' _ la (KW_put hW hL e2 (hW.1.set (kW_D B L M) hget (e := .inr (ci, ((List.range (kN ci)).map (kV B.1 L M k)).set j v)) ⟨_, hcl, t_OB.to (V := updV (vp_V ((List.range (kN ci)).map (kV B.1 L M k))) j v) ⟨_, e1, q2, q3, t_set q4 hap hj v⟩ (fun j' _ => vp_updV_set (by simp [hN, hj]) v j')⟩ e3) (kW_set hk hL he ho)) (hS.put e2 e3 (Nat.le_add_right _ _)) hla
/-- the same, of a nest mate -/
theorem k_putVN (G : Good X B own cc nL rm) (K : KC ci C T N ty) {idx : Nat} {host : String} (d : decode cc pc = .ok (.putfield idx, 3)) (hk : k < L.1) (hc : L.2.1 k = ci) (j : Nat) (hj : j < N) (hfin : (T j).2.2.2 = false) (hl : Cond.fieldLinkNest own idx (T j).1 (T j).2.1 (T j).2.2.1 host ∈ lw_tbl) {v : Value} (hn : narrow (ty j) v = v) (hfit : fits (ty j) v = true) {L' : KLay} {M' : KMem} (hL : L'.1 = L.1)
    (he : kE B L' M' k = .inr (ci, ((List.range (kN ci)).map (kV B.1 L M k)).set j v)) (ho : ∀ i, i ≠ k → kE B L' M' i = kE B L M i) (kk : KK X B L' nL cn sn M' (pc + 3) ls st) : KK X B L nL cn sn M pc ls (v :: .ref (B.1 + k) :: st) := by
  intro H locs la hW hS hla
  obtain ⟨hcl, hin, hty, hnm, hN, h9⟩ := K
  have hK := G.2.2.2.2.2.1
  have hts := G.2.2.2.2.1
  have hown := G.2.2.2.1
  have hap := va_apart (own := own) hts hin ty hty hnm hK hcl
  have hget : (kW B L M)[k]? = some (B.1 + k, .inr (ci, (List.range (kN ci)).map (kV B.1 L M k))) := by rw [kW_get hk, kE_obj hc h9]
  obtain ⟨r, h1, cell, q1, q2, q3, q4⟩ := hW.1 k _ hget
  have hr : r = (C, T, N) := Option.some.inj (h1.symm.trans hcl)
  subst hr
  obtain ⟨hSl, hfc, kC, hkC, hkind⟩ := hK.1 ci _ hcl
  obtain ⟨cf, kf, fi, f, hi, hsl⟩ := hSl j hj
  have hlay := hts _ (hin _ (u_in_lay hj))
  unfold u_lay at hlay
  rw [if_neg (by rw [hfin]; decide)] at hlay
  have hst := (u_facts hfc hkC (u_lays hts hin hj) hi).1
  have h6 := u_store hfc hkC hkind hlay hi (hty j hj) hn hfit
  refine va_WputK G.1 G.2.1 (f := f) hown (va_Nw.use rfl (G.2.2.2.2.2.2.1.1.1 _ hl rfl)) hi hst (by rw [q2]; exact h6) q1 q3 (by rw [hsl]; exact k2_hasslot (q4 j hj)) rfl rfl d fun H' e1 e2 e3 => ?_
  rw [hsl] at e1 ⊢
  refine kk H' _ la (KW_put hW hL e2 (hW.1.set (kW_D B L M) hget (e := .inr (ci, ((List.range (kN ci)).map (kV B.1 L M k)).set j v)) ⟨_, hcl, t_OB.to (V := updV (vp_V ((List.range (kN ci)).map (kV B.1 L M k))) j v) ⟨_, e1, q2, q3, t_set q4 hap hj v⟩ (fun j' _ => vp_updV_set (by simp [hN, hj]) v j')⟩ e3) (kW_set hk hL he ho)) (hS.put e2 e3 (Nat.le_add_right _ _)) hla
/-- a final field is written, in a constructor -/
theorem k_putF (G : Good X B own cc nL rm) (K : KC ci C T N ty) {idx : Nat} (d : decode cc pc = .ok (.putfield idx, 3)) (hk : k < L.1) (hc : L.2.1 k = ci) (j : Nat) (hj : j < N) (hfin : (T j).2.2.2 = true) (hin2 : (xH X).name = "<init>") (hdecl : (T j).1 = own) (hl : Cond.fieldLink own idx (T j).1 (T j).2.1 (T j).2.2.1 ∈ GT) {v : Value} (hn : narrow (ty j) v = v) (hfit : fits (ty j) v = true) {L' : KLay} {M' : KMem} (hL : L'.1 = L.1)
    (he : kE B L' M' k = .inr (ci, ((List.range (kN ci)).map (kV B.1 L M k)).set j v)) (ho : ∀ i, i ≠ k → kE B L' M' i = kE B L M i) (kk : KK X B L' nL cn sn M' (pc + 3) ls st) : KK X B L nL cn sn M pc ls (v :: .ref (B.1 + k) :: st) := by
  intro H locs la hW hS hla
  obtain ⟨hcl, hin, hty, hnm, hN, h9⟩ := K
  have hK := G.2.2.2.2.2.1
  have hts := G.2.2.2.2.1
  have hown := G.2.2.2.1
  have hap := va_apart (own := own) hts hin ty hty hnm hK hcl
  have hget : (kW B L M)[k]? = some (B.1 + k, .inr (ci, (List.range (kN ci)).map (kV B.1 L M k))) := by rw [kW_get hk, kE_obj hc h9]
  obtain ⟨r, h1, cell, q1, q2, q3, q4⟩ := hW.1 k _ hget
  have hr : r = (C, T, N) := Option.some.inj (h1.symm.trans hcl)
  subst hr
  obtain ⟨hSl, hfc, kC, hkC, hkind⟩ := hK.1 ci _ hcl
  obtain ⟨cf, kf, fi, f, hi, hsl⟩ := hSl j hj
  have hlay := hts _ (hin _ (u_in_lay hj))
  unfold u_lay at hlay
  rw [if_pos hfin] at hlay
  have hst := (u_facts hfc hkC (u_lays hts hin hj) hi).1
  have hcf : (xM X).cls = cf := by
    obtain ⟨_, _, c', _, _, _, -, -, hf', -, -, -, hown2, -⟩ := Cond.laysFinal_spec hlay
    have e1 : c' = cf := by have := hi.symm.trans hf'; simp at this; exact this.1.symm
    rw [hdecl] at hown2
    rw [← e1]; exact Option.some.inj (hown.symm.trans hown2)
  have h6 := u_fits hfc hkC hkind (Or.inr hlay) hi (hty j hj) hn hfit
  refine W.putFinK G.1 G.2.1 hown (hts _ hl) hi hst hcf hin2 (by rw [q2]; exact h6) q1 q3 (by rw [hsl]; exact k2_hasslot (q4 j hj)) rfl rfl d fun H' e1 e2 e3 => ?_
  rw [hsl] at e1 ⊢
  refine kk H' _ la (KW_put hW hL e2 (hW.1.set (kW_D B L M) hget (e := .inr (ci, ((List.range (kN ci)).map (kV B.1 L M k)).set j v)) ⟨_, hcl, t_OB.to (V := updV (vp_V ((List.range (kN ci)).map (kV B.1 L M k))) j v) ⟨_, e1, q2, q3, t_set q4 hap hj v⟩ (fun j' _ => vp_updV_set (by simp [hN, hj]) v j')⟩ e3) (kW_set hk hL he ho)) (hS.put e2 e3 (Nat.le_add_right _ _)) hla
/-- a number is written into a field -/
theorem k_putI (G : Good X B own cc nL rm) (K : KC ci C T N ty) {idx : Nat} (d : decode cc pc = .ok (.putfield idx, 3)) (hk : k < L.1) (hc : L.2.1 k = ci) (j : Nat) (hj : j < N) (hR : kR ci j = false) (hfin : (T j).2.2.2 = false) (hl : Cond.fieldLink own idx (T j).1 (T j).2.1 (T j).2.2.1 ∈ GT) {x : Int32} (hn : narrow (ty j) (.int x) = .int x) (hfit : fits (ty j) (.int x) = true) {M' : KMem} (e : some (kup M k j x) = some M') (kk : KK X B L nL cn sn M' (pc + 3) ls st) : KK X B L nL cn sn M pc ls (.int x :: .ref (B.1 + k) :: st) := by
  cases e
  refine k_putV G K d hk hc j hj hfin hl hn hfit (L' := L) (M' := kup M k j x) rfl ?_ (fun i hi => kE_n (kup_n M j x hi)) kk
  rw [kE_obj hc K.2.2.2.2.2]
  refine congrArg (fun z => Sum.inr (ci, z)) (kfs_set ?_ ?_).symm
  · rw [kV_i (by rw [hc]; exact hR), kup_s]
  · intro i hi
    simp only [kV]
    rw [kup_j M k x hi]
/-- the same, of a nest mate -/
theorem k_putIN (G : Good X B own cc nL rm) (K : KC ci C T N ty) {idx : Nat} {host : String} (d : decode cc pc = .ok (.putfield idx, 3)) (hk : k < L.1) (hc : L.2.1 k = ci) (j : Nat) (hj : j < N) (hR : kR ci j = false) (hfin : (T j).2.2.2 = false) (hl : Cond.fieldLinkNest own idx (T j).1 (T j).2.1 (T j).2.2.1 host ∈ lw_tbl) {x : Int32} (hn : narrow (ty j) (.int x) = .int x) (hfit : fits (ty j) (.int x) = true) {M' : KMem} (e : some (kup M k j x) = some M') (kk : KK X B L nL cn sn M' (pc + 3) ls st) : KK X B L nL cn sn M pc ls (.int x :: .ref (B.1 + k) :: st) := by
  cases e
  refine k_putVN G K d hk hc j hj hfin hl hn hfit (L' := L) (M' := kup M k j x) rfl ?_ (fun i hi => kE_n (kup_n M j x hi)) kk
  rw [kE_obj hc K.2.2.2.2.2]
  refine congrArg (fun z => Sum.inr (ci, z)) (kfs_set ?_ ?_).symm
  · rw [kV_i (by rw [hc]; exact hR), kup_s]
  · intro i hi
    simp only [kV]
    rw [kup_j M k x hi]
/-- an array of ints is read, written; of booleans -/
def rdI (M : KMem) (o n : Nat) (i : Int32) : Option Int32 := if i < 0 ∨ n ≤ i.toNatClampNeg then none else some (M o i.toNatClampNeg)
def wrI (M : KMem) (o n : Nat) (i x : Int32) : Option KMem := if i < 0 ∨ n ≤ i.toNatClampNeg then none else some (kup M o i.toNatClampNeg x)
def wrZ (M : KMem) (o n : Nat) (i x : Int32) : Option KMem := if i < 0 ∨ n ≤ i.toNatClampNeg then none else some (kup M o i.toNatClampNeg (vp_nar .boolean x))
def ckI (n : Nat) (i : Int32) : Option Nat := if i < 0 ∨ n ≤ i.toNatClampNeg then none else some i.toNatClampNeg
theorem rdI_ok {M : KMem} {o n : Nat} {i x : Int32} (h : rdI M o n i = some x) : vp_in i n ∧ x = M o i.toNatClampNeg := by
  unfold rdI at h
  split at h
  · cases h
  · rename_i hc
    exact ⟨hc, (Option.some.inj h).symm⟩
theorem wrI_ok {M M' : KMem} {o n : Nat} {i x : Int32} (h : wrI M o n i x = some M') : vp_in i n ∧ M' = kup M o i.toNatClampNeg x := by
  unfold wrI at h
  split at h
  · cases h
  · rename_i hc
    exact ⟨hc, (Option.some.inj h).symm⟩
theorem wrZ_ok {M M' : KMem} {o n : Nat} {i x : Int32} (h : wrZ M o n i x = some M') : vp_in i n ∧ M' = kup M o i.toNatClampNeg (vp_nar .boolean x) := by
  unfold wrZ at h
  split at h
  · cases h
  · rename_i hc
    exact ⟨hc, (Option.some.inj h).symm⟩
theorem ckI_ok {n j : Nat} {i : Int32} (h : ckI n i = some j) : vp_in i n ∧ j = i.toNatClampNeg ∧ j < n := by
  unfold ckI at h
  split at h
  · cases h
  · rename_i hc
    have e := (Option.some.inj h).symm
    exact ⟨hc, e, by rw [e]; exact Nat.not_le.mp fun q => hc (Or.inr q)⟩
theorem kE_9 (h : L.2.1 k = 9) : kE B L M k = .inl (B.2.2.1.1, L.2.2.1 k, .inl (M k)) := by simp [kE, h]
theorem kE_10 (h : L.2.1 k = 10) : kE B L M k = .inl (B.2.2.1.2.1, L.2.2.1 k, .inl (M k)) := by simp [kE, h]
theorem kE_11 (h : L.2.1 k = 11) : kE B L M k = .inl (B.2.2.1.2.2.1, L.2.2.1 k, .inr (.inr (.inr (.inr (fun j => (L.2.2.2 k j).map (B.1 + ·)))))) := by simp [kE, h]
theorem kE_12 (h : L.2.1 k = 12) : kE B L M k = .inl (B.2.2.1.2.2.2.1, L.2.2.1 k, .inr (.inl (fun j => (M k j).toInt64))) := by simp [kE, h]
theorem k_ild (G : Good X B own cc nL rm) (d : decode cc pc = .ok (.iaload, 1)) (hk : k < L.1) (hc : L.2.1 k = 9) {n : Nat} (hn : L.2.2.1 k = n) {i x : Int32} (e : rdI M k n i = some x) (kk : KK X B L nL cn sn M (pc + 1) ls (.int x :: st)) : KK X B L nL cn sn M pc ls (.int i :: .ref (B.1 + k) :: st) := by
  intro H locs la hW hS hla
  subst hn
  obtain ⟨hi, rfl⟩ := rdI_ok e
  exact va_iald G.1 G.2.1 G.2.2.2.2.2.1 hW.1 k 0 (by rw [kW_get hk, kE_9 hc]) rfl hi d (kk H locs la hW hS hla)
theorem k_zld (G : Good X B own cc nL rm) (d : decode cc pc = .ok (.baload, 1)) (hk : k < L.1) (hc : L.2.1 k = 10) {n : Nat} (hn : L.2.2.1 k = n) {i x : Int32} (e : rdI M k n i = some x) (kk : KK X B L nL cn sn M (pc + 1) ls (.int x :: st)) : KK X B L nL cn sn M pc ls (.int i :: .ref (B.1 + k) :: st) := by
  intro H locs la hW hS hla
  subst hn
  obtain ⟨hi, rfl⟩ := rdI_ok e
  exact va_zald G.1 G.2.1 G.2.2.2.2.2.1 hW.1 k 1 (by rw [kW_get hk, kE_10 hc]) rfl hi d (kk H locs la hW hS hla)
theorem k_qld (G : Good X B own cc nL rm) (d : decode cc pc = .ok (.aaload, 1)) (hk : k < L.1) (hc : L.2.1 k = 11) {n : Nat} (hn : L.2.2.1 k = n) {i : Int32} {j q : Nat} (e : ckI n i = some j) (hq : L.2.2.2 k j = some q) (kk : KK X B L nL cn sn M (pc + 1) ls (.ref (B.1 + q) :: st)) : KK X B L nL cn sn M pc ls (.int i :: .ref (B.1 + k) :: st) := by
  intro H locs la hW hS hla
  subst hn
  obtain ⟨hi, rfl, -⟩ := ckI_ok e
  refine va_aldq G.1 G.2.1 G.2.2.2.2.2.1 hW.1 k 2 (C := "SignReforms$State") (by rw [kW_get hk, kE_11 hc]) rfl hi d ?_
  rw [hq]
  exact kk H locs la hW hS hla
theorem k_ist (G : Good X B own cc nL rm) (d : decode cc pc = .ok (.iastore, 1)) (hk : k < L.1) (hc : L.2.1 k = 9) {n : Nat} (hn : L.2.2.1 k = n) {i x : Int32} {M' : KMem} (e : wrI M k n i x = some M') (kk : KK X B L nL cn sn M' (pc + 1) ls st) : KK X B L nL cn sn M pc ls (.int x :: .int i :: .ref (B.1 + k) :: st) := by
  intro H locs la hW hS hla
  subst hn
  obtain ⟨hi, rfl⟩ := wrI_ok e
  have hget : (kW B L M)[k]? = some (B.1 + k, .inl (B.2.2.1.1, L.2.2.1 k, .inl (M k))) := by rw [kW_get hk, kE_9 hc]
  refine W.iast G.1 G.2.1 (hW.1 k _ hget) ((G.2.2.2.2.2.1.2 0 _ rfl).1 (L.2.2.1 k) (fun j => .int (M k j))) (fun q => by cases q) (by show ¬ (i < 0 ∨ (arrV _ _ _).slots.size ≤ _); rw [arrV_size]; exact hi) rfl rfl d fun H1 e z oq => ?_
  refine kk H1 _ la (KW_put hW rfl z (hW.1.set (kW_D B L M) hget (e := .inl (B.2.2.1.1, L.2.2.1 k, .inl (upd (M k) i.toNatClampNeg x))) ?_ oq) (kW_up hk (by rw [kE_9 hc, kup_o]))) (hS.put z oq (Nat.le_add_right _ _)) hla
  show H1[B.1 + k]? = some (vp_cell _ _)
  rw [e]
  rw [vp_cell_i, vp_cell_i, arrV_store]
  congr 2
  funext q
  by_cases hq : q = i.toNatClampNeg
  · subst hq
    simp [updV, upd]
  · simp [updV, upd, hq]
theorem k_zst (G : Good X B own cc nL rm) (d : decode cc pc = .ok (.bastore, 1)) (hk : k < L.1) (hc : L.2.1 k = 10) {n : Nat} (hn : L.2.2.1 k = n) {i x : Int32} {M' : KMem} (e : wrZ M k n i x = some M') (kk : KK X B L nL cn sn M' (pc + 1) ls st) : KK X B L nL cn sn M pc ls (.int x :: .int i :: .ref (B.1 + k) :: st) := by
  intro H locs la hW hS hla
  subst hn
  obtain ⟨hi, rfl⟩ := wrZ_ok e
  have hget : (kW B L M)[k]? = some (B.1 + k, .inl (B.2.2.1.2.1, L.2.2.1 k, .inl (M k))) := by rw [kW_get hk, kE_10 hc]
  refine W.zast G.1 G.2.1 (hW.1 k _ hget) ((G.2.2.2.2.2.1.2 1 _ rfl).1 (L.2.2.1 k) (fun j => .int (M k j))) (fun q => by cases q) (by show ¬ (i < 0 ∨ (arrV _ _ _).slots.size ≤ _); rw [arrV_size]; exact hi) rfl rfl d fun H1 e z oq => ?_
  refine kk H1 _ la (KW_put hW rfl z (hW.1.set (kW_D B L M) hget (e := .inl (B.2.2.1.2.1, L.2.2.1 k, .inl (upd (M k) i.toNatClampNeg (vp_nar .boolean x)))) ?_ oq) (kW_up hk (by rw [kE_10 hc, kup_o]))) (hS.put z oq (Nat.le_add_right _ _)) hla
  show H1[B.1 + k]? = some (vp_cell _ _)
  rw [e]
  rw [vp_cell_i, vp_cell_i, arrV_store]
  congr 2
  funext q
  by_cases hq : q = i.toNatClampNeg
  · subst hq
    simp [updV, upd, vp_nar]
    try rfl
  · simp [updV, upd, hq]
/-- the law's long: it holds an int -/
theorem k_len (G : Good X B own cc nL rm) (d : decode cc pc = .ok (.arraylength, 1)) (hk : k < L.1) (hc : L.2.1 k = 9) {v : Int32} (hv : Int32.ofNat (L.2.2.1 k) = v) (kk : KK X B L nL cn sn M (pc + 1) ls (.int v :: st)) : KK X B L nL cn sn M pc ls (.ref (B.1 + k) :: st) := by
  intro H locs la hW hS hla
  exact va_alen G.1 G.2.1 G.2.2.2.2.2.1 hW.1 k 0 (by rw [kW_get hk, kE_9 hc]) rfl hv d (kk H locs la hW hS hla)
theorem k_lenZ (G : Good X B own cc nL rm) (d : decode cc pc = .ok (.arraylength, 1)) (hk : k < L.1) (hc : L.2.1 k = 10) {v : Int32} (hv : Int32.ofNat (L.2.2.1 k) = v) (kk : KK X B L nL cn sn M (pc + 1) ls (.int v :: st)) : KK X B L nL cn sn M pc ls (.ref (B.1 + k) :: st) := by
  intro H locs la hW hS hla
  exact va_alen G.1 G.2.1 G.2.2.2.2.2.1 hW.1 k 1 (by rw [kW_get hk, kE_10 hc]) rfl hv d (kk H locs la hW hS hla)
end HRows
