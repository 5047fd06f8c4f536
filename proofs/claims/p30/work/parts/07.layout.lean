/-! THE LAYOUT: which objects lie behind one another -/
abbrev kT : Type := List (Nat × Nat × Nat × List (Nat × Nat))
/-- from t on: (place, kind, length, (field or place, place of what it refers to)) -/
def okL (L : KLay) (t : Nat) (T : kT) : Prop := ∀ q ∈ T, t + q.1 < L.1 ∧ L.2.1 (t + q.1) = q.2.1 ∧ L.2.2.1 (t + q.1) = q.2.2.1 ∧ ∀ r ∈ q.2.2.2, L.2.2.2 (t + q.1) r.1 = some (t + r.2)
section OK
variable {L : KLay} {t : Nat} {T : kT}
theorem okL_lt {o k n : Nat} {rs : List (Nat × Nat)} (h : okL L t T) (i : Nat) (hq : T[i]? = some (o, k, n, rs)) : t + o < L.1 := (h _ (List.mem_of_getElem? hq)).1
theorem okL_k {o k n : Nat} {rs : List (Nat × Nat)} (h : okL L t T) (i : Nat) (hq : T[i]? = some (o, k, n, rs)) : L.2.1 (t + o) = k := (h _ (List.mem_of_getElem? hq)).2.1
theorem okL_n {o k n : Nat} {rs : List (Nat × Nat)} (h : okL L t T) (i : Nat) (hq : T[i]? = some (o, k, n, rs)) : L.2.2.1 (t + o) = n := (h _ (List.mem_of_getElem? hq)).2.2.1
theorem okL_r {o k n j c : Nat} {rs : List (Nat × Nat)} (h : okL L t T) (i : Nat) (hq : T[i]? = some (o, k, n, rs)) (p : Nat) (hr : rs[p]? = some (j, c)) : L.2.2.2 (t + o) j = some (t + c) := (h _ (List.mem_of_getElem? hq)).2.2.2 _ (List.mem_of_getElem? hr)
def kSh (c : Nat) (q : Nat × Nat × Nat × List (Nat × Nat)) : Nat × Nat × Nat × List (Nat × Nat) := (c + q.1, q.2.1, q.2.2.1, q.2.2.2.map (fun r => (r.1, c + r.2)))
def subT (T1 : kT) (c : Nat) (T2 : kT) : Bool := T2.all (fun q => decide (kSh c q ∈ T1))
theorem okL_sub {T2 : kT} (h : okL L t T) (c : Nat) (hs : subT T c T2 = true) : okL L (t + c) T2 := by
  intro q hq
  have h1 := h _ (of_decide_eq_true (List.all_eq_true.mp hs q hq))
  refine ⟨?_, ?_, ?_, fun r hr => ?_⟩
  · rw [Nat.add_assoc]; exact h1.1
  · rw [Nat.add_assoc]; exact h1.2.1
  · rw [Nat.add_assoc]; exact h1.2.2.1
  · have h2 := h1.2.2.2 (r.1, c + r.2) (List.mem_map.mpr ⟨r, hr, rfl⟩)
    rw [Nat.add_assoc, Nat.add_assoc]
    exact h2
end OK
/-- an array -/
def arL (L : KLay) (a k n : Nat) : Prop := a < L.1 ∧ L.2.1 a = k ∧ L.2.2.1 a = n
theorem okL_a {L : KLay} {t : Nat} {T : kT} {o k n : Nat} {rs : List (Nat × Nat)} (h : okL L t T) (i : Nat) (hq : T[i]? = some (o, k, n, rs)) : arL L (t + o) k n := ⟨okL_lt h i hq, okL_k h i hq, okL_n h i hq⟩
def deT : kT := [(0, 0, 0, [(1, 1)]), (1, 9, 50, [])]
def stT : kT := [(0, 5, 0, [(0, 1), (2, 3), (3, 4), (4, 5), (5, 6), (6, 7), (7, 8), (8, 9), (9, 10), (10, 11)]), (1, 0, 0, [(1, 2)]), (2, 9, 50, []), (3, 9, 8, []), (4, 9, 8, []), (5, 9, 8, []), (6, 9, 8, []), (7, 9, 8, []), (8, 9, 8, []), (9, 9, 4, []), (10, 9, 4, []), (11, 9, 2, [])]
def ruT : kT := [(0, 4, 0, [(0, 1)]), (1, 9, 9, [])]
def flT : kT := [(0, 1, 0, [(0, 1)]), (1, 9, 10, [])]
def twT : kT := [(0, 6, 0, [(0, 1), (1, 13), (2, 15), (3, 17)])] ++ stT.map (kSh 1) ++ ruT.map (kSh 13) ++ flT.map (kSh 15) ++ [(17, 9, 8, [])]
def txT : kT := [(0, 3, 0, [(0, 1)]), (1, 9, 120, [])]
def meT : kT := [(0, 2, 0, [(0, 1), (3, 2), (4, 3)]), (1, 11, 14, (List.range 14).map (fun j => (j, 4 + 12 * j))), (2, 11, 2, (List.range 2).map (fun j => (j, 172 + 12 * j))), (3, 10, 2, [])] ++ (List.range 16).flatMap (fun j => stT.map (kSh (4 + 12 * j)))
def srT : kT := [(0, 7, 0, [(0, 1), (1, 3), (2, 21), (3, 39)])] ++ txT.map (kSh 1) ++ twT.map (kSh 3) ++ twT.map (kSh 21) ++ meT.map (kSh 39)
def moT : kT := [(0, 8, 0, [(1, 1), (2, 2), (3, 3), (5, 4), (7, 5), (9, 6), (10, 7), (17, 8)]), (1, 9, 108, []), (2, 9, 108, []), (3, 9, 1512, []), (4, 9, 216, []), (5, 9, 120, []), (6, 9, 81, []), (7, 9, 51, []), (8, 9, 8, [])]
theorem me_ring {L : KLay} {m j : Nat} (h : okL L m meT) (hj : j < 14) : L.2.2.2 (m + 1) j = some (m + (4 + 12 * j)) := by
  have h1 := h (1, 11, 14, (List.range 14).map (fun j => (j, 4 + 12 * j))) (by decide +kernel)
  exact h1.2.2.2 (j, 4 + 12 * j) (List.mem_map.mpr ⟨j, List.mem_range.mpr hj, rfl⟩)
theorem me_slot {L : KLay} {m j : Nat} (h : okL L m meT) (hj : j < 2) : L.2.2.2 (m + 2) j = some (m + (172 + 12 * j)) := by
  have h1 := h (2, 11, 2, (List.range 2).map (fun j => (j, 172 + 12 * j))) (by decide +kernel)
  exact h1.2.2.2 (j, 172 + 12 * j) (List.mem_map.mpr ⟨j, List.mem_range.mpr hj, rfl⟩)
theorem me_subs : ∀ j, j < 16 → subT meT (4 + 12 * j) stT = true := by decide +kernel
theorem me_rs {L : KLay} {m j : Nat} (h : okL L m meT) (hj : j < 14) : okL L (m + (4 + 12 * j)) stT := okL_sub h _ (me_subs j (by omega))
theorem me_ss {L : KLay} {m j : Nat} (h : okL L m meT) (hj : j < 2) : okL L (m + (172 + 12 * j)) stT := by
  have e : 172 + 12 * j = 4 + 12 * (14 + j) := by omega
  rw [e]
  exact okL_sub h _ (me_subs (14 + j) (by omega))
/-- a boolean's value -/
def kz (x : Int32) : Option Int32 := if x = 0 ∨ x = 1 then some x else none
theorem kz_ok {x v : Int32} (h : kz x = some v) : x = v ∧ narrow .boolean (.int v) = .int v ∧ fits .boolean (.int v) = true := by
  unfold kz at h
  split at h
  · rename_i hc
    cases h
    rcases hc with rfl | rfl <;> exact ⟨rfl, rfl, rfl⟩
  · cases h
/-- a join: what is behind it, what leads there -/
theorem kJ {α β : Type} {o : Option α} {f : α → Option β} {P : β → Prop} {G : Prop} (h : kOk (o.bind f) P) (Q : α → Prop) (hr : ∀ x, kOk (f x) P → Q x) (hb : kOk o Q → G) : G := by
  obtain ⟨x, h1, h2⟩ := kOk_b h
  exact hb ⟨x, h1, hr x h2⟩

theorem gst {X : KX} {B : KB} {own : String} {cc : ByteArray} {nL : Nat} {rm : Room} (G : Good X B own cc nL rm) : (xL X).stackTraces = false := G.2.2.2.2.2.2.2.2.2.1
/-- what a method that may throw answers: an exception's name, or an int (RXI), or nothing (RXV) -/
def rI (r : String ⊕ Int32) : String ⊕ Option Value := match r with | .inl E => .inl E | .inr v => .inr (some (.int v))
def rV (r : Option String) : String ⊕ Option Value := match r with | some E => .inl E | none => .inr none
theorem rV_inr {r : Option String} {v : Option Value} (h : rV r = .inr v) : r = none ∧ v = none := by
  cases r with
  | none => cases h; exact ⟨rfl, rfl⟩
  | some E => cases h
theorem rV_inl {r : Option String} {E : String} (h : rV r = .inl E) : r = some E := by
  cases r with
  | none => cases h
  | some E9 => cases h; rfl
theorem rI_inr {r : String ⊕ Int32} {v : Option Value} (h : rI r = .inr v) : ∃ x, r = .inr x ∧ v = some (.int x) := by
  cases r with
  | inl E => cases h
  | inr x => cases h; exact ⟨x, rfl, rfl⟩
theorem rI_inl {r : String ⊕ Int32} {E : String} (h : rI r = .inl E) : r = .inl E := by
  cases r with
  | inl E9 => cases h; rfl
  | inr x => cases h
def RXI (X : KX) (B : KB) (L : KLay) (nL : Nat) (own : String) (cc : ByteArray) (fty : FieldType) (rm : Room) (r : String ⊕ Int32) (M : KMem) : Prop :=
  (∀ v, r = .inr v → RI X B L nL cc fty rm v M) ∧ ∀ E, r = .inl E → RP X B L nL rm E M ∧ RT X B L nL own cc rm E M ∧ RTW X B L nL own cc rm E M
def RXV (X : KX) (B : KB) (L : KLay) (nL : Nat) (own : String) (cc : ByteArray) (rm : Room) (r : Option String) (M : KMem) : Prop :=
  (r = none → RV X B L nL cc rm M) ∧ ∀ E, r = some E → RP X B L nL rm E M ∧ RT X B L nL own cc rm E M ∧ RTW X B L nL own cc rm E M
section MkX
variable {l : Launch} {B : KB} {y : MethodName} {bytes : ByteArray} {maxL : Nat} {rm : Room} {As : List Value} {L : KLay} {M M' : KMem}
theorem mkXI {fty : FieldType} {r : String ⊕ Int32} (hx : B.2.2.2 = false) (hy : plainName y.cls = true) (hst : l.stackTraces = false) (hlen : Nat.ble (lg_sl As).length maxL = true)
    (body : ∀ X : KX, xL X = l → Good X B y.cls bytes maxL rm → RXI X B L maxL y.cls bytes fty rm r M' → KK X B L maxL 0 0 M 0 (lv_args 0 As) []) : CtrX l B y bytes maxL (some fty) rm As L M (rI r) M' := by
  refine mk_X hx hy hst hlen fun X hl G h1 h2 h3 h4 h5 => body X hl G ⟨fun v hv => ?_, fun E hE => ?_⟩
  · subst hv
    exact h1 v fty rfl rfl
  · subst hE
    exact ⟨h3 E rfl, h4 E rfl, h5 E rfl⟩
theorem mkXV {r : Option String} (hx : B.2.2.2 = false) (hy : plainName y.cls = true) (hst : l.stackTraces = false) (hlen : Nat.ble (lg_sl As).length maxL = true)
    (body : ∀ X : KX, xL X = l → Good X B y.cls bytes maxL rm → RXV X B L maxL y.cls bytes rm r M' → KK X B L maxL 0 0 M 0 (lv_args 0 As) []) : CtrX l B y bytes maxL none rm As L M (rV r) M' := by
  refine mk_X hx hy hst hlen fun X hl G h1 h2 h3 h4 h5 => body X hl G ⟨fun hv => ?_, fun E hE => ?_⟩
  · subst hv
    exact h2 rfl rfl
  · subst hE
    exact ⟨h3 E rfl, h4 E rfl, h5 E rfl⟩
end MkX
theorem kzb_ok {x v : Int32} (h : kz x = some v) : x = v ∧ narrow .byte (.int v) = .int v ∧ fits .byte (.int v) = true := by
  unfold kz at h
  split at h
  · rename_i hc
    cases h
    rcases hc with rfl | rfl <;> exact ⟨rfl, rfl, rfl⟩
  · cases h
theorem kOk_none {α : Type} {P : α → Prop} (h : kOk (none : Option α) P) : False := by
  obtain ⟨r, h, -⟩ := h
  cases h
