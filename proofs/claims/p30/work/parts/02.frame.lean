/-! THE FRAME: an own judgement KK over a memory of ints. The world is a pool of objects, numbered 0, 1, .. from the address B.1 on; L says how many there are, of which kind, how long the arrays are, and what the fields and elements that are references hold; the memory M holds what is a number. -/
def GT : List Cond := lw_tbl.filter goodWord
theorem gt_in {w : Cond} (i : Nat) (h : lw_tbl[i]? = some w) (hg : goodWord w = true) : w ∈ GT := List.mem_filter.mpr ⟨List.mem_of_getElem? h, hg⟩
theorem gt_good {w : Cond} (h : w ∈ GT) : (w.onTables && w.keeps) = true ∨ ∃ ty, w = .arrayClass ty := good_of_word (List.mem_filter.mp h).2
abbrev kCl : List vw_C := [(RX0, TX0, 2), (RX1, TX1, 1), (RX2, TX2, 5), (RX3, TX3, 6), (RX4, TX4, 1), (RX7, TX7, 15), (RX8, TX8, 4), (RX10, TX10, 4)]
abbrev KMem : Type := Nat → Nat → Int32
abbrev KLay : Type := Nat × (Nat → Nat) × (Nat → Nat) × (Nat → Nat → Option Nat)
abbrev KB : Type := Nat × va_G × (ClassId × ClassId × ClassId × ClassId × Nat × Nat) × Bool
/-- the text of the commands, its bytes -/
abbrev bSa (B : KB) : Nat := B.2.2.1.2.2.2.2.1
abbrev bVa (B : KB) : Nat := B.2.2.1.2.2.2.2.2
abbrev KX : Type := Program × Launch × Env × Room × State × MethodId × Array Value × List Frame × Method × Code × (State → Prop)
abbrev xP (X : KX) : Program := X.1
abbrev xL (X : KX) : Launch := X.2.1
abbrev xE (X : KX) : Env := X.2.2.1
abbrev xR (X : KX) : Room := X.2.2.2.1
abbrev xS (X : KX) : State := X.2.2.2.2.1
abbrev xM (X : KX) : MethodId := X.2.2.2.2.2.1
abbrev xA (X : KX) : Array Value := X.2.2.2.2.2.2.1
abbrev xW (X : KX) : List Frame := X.2.2.2.2.2.2.2.1
abbrev xH (X : KX) : Method := X.2.2.2.2.2.2.2.2.1
abbrev xC (X : KX) : Code := X.2.2.2.2.2.2.2.2.2.1
abbrev xQ (X : KX) : State → Prop := X.2.2.2.2.2.2.2.2.2.2
/-- how many fields an object of a kind has, which of them are references -/
def kN : Nat → Nat
  | 0 => 2 | 1 => 1 | 2 => 5 | 3 => 6 | 4 => 1 | 5 => 15 | 6 => 4 | 7 => 4 | 8 => 18 | _ => 0
def kR : Nat → Nat → Bool
  | 0, j => j == 1
  | 1, _ => true
  | 2, j => j == 0 || (j == 3 || j == 4)
  | 3, j => j == 0
  | 4, _ => true
  | 5, j => j == 0 || (Nat.ble 2 j && Nat.ble j 10)
  | 6, _ => true
  | 7, _ => true
  | 8, j => j == 1 || (j == 2 || (j == 3 || (j == 5 || (j == 7 || (j == 9 || (j == 10 || j == 17))))))
  | _, _ => false
def kV (b : Nat) (L : KLay) (M : KMem) (k j : Nat) : Value := if kR (L.2.1 k) j = true then va_rf ((L.2.2.2 k j).map (b + ·)) else .int (M k j)
def kE (B : KB) (L : KLay) (M : KMem) (k : Nat) : va_E :=
  if L.2.1 k = 9 then .inl (B.2.2.1.1, L.2.2.1 k, .inl (M k))
  else if L.2.1 k = 10 then .inl (B.2.2.1.2.1, L.2.2.1 k, .inl (M k))
  else if L.2.1 k = 11 then .inl (B.2.2.1.2.2.1, L.2.2.1 k, .inr (.inr (.inr (.inr (fun j => (L.2.2.2 k j).map (B.1 + ·))))))
  else if L.2.1 k = 12 then .inl (B.2.2.1.2.2.2.1, L.2.2.1 k, .inr (.inl (fun j => (M k j).toInt64)))
  else .inr (L.2.1 k, (List.range (kN (L.2.1 k))).map (kV B.1 L M k))
def kW (B : KB) (L : KLay) (M : KMem) : va_W := (List.range L.1).map (fun k => (B.1 + k, kE B L M k))
def kA (B : KB) : Nat → Prop := fun q => B.1 ≤ q
abbrev kty (B : KB) : List (ClassId × FieldType) := [(B.2.2.1.1, .int), (B.2.2.1.2.1, .boolean), (B.2.2.1.2.2.1, .object "SignReforms$State")]
theorem kW_len {B : KB} {L : KLay} {M : KMem} : (kW B L M).length = L.1 := by simp [kW]
theorem kW_get {B : KB} {L : KLay} {M : KMem} {k : Nat} (h : k < L.1) : (kW B L M)[k]? = some (B.1 + k, kE B L M k) := by
  simp [kW, h]
theorem kW_some {B : KB} {L : KLay} {M : KMem} {k : Nat} {q : Nat × va_E} (h : (kW B L M)[k]? = some q) : k < L.1 ∧ q = (B.1 + k, kE B L M k) := by
  have h1 : k < (kW B L M).length := (List.getElem?_eq_some_iff.mp h).1
  rw [kW_len] at h1
  rw [kW_get h1] at h
  exact ⟨h1, (Option.some.inj h).symm⟩
theorem kW_D (B : KB) (L : KLay) (M : KMem) : va_D (kA B) (kW B L M) := by
  refine ⟨fun i j p q hp hq h => ?_, fun k q h => ?_⟩
  · obtain ⟨-, rfl⟩ := kW_some hp
    obtain ⟨-, rfl⟩ := kW_some hq
    have h : B.1 + i = B.1 + j := h
    omega
  · obtain ⟨-, rfl⟩ := kW_some h
    exact Nat.le_add_right _ _
theorem kW_set {B : KB} {L L' : KLay} {M M' : KMem} {k : Nat} {e : va_E} (hk : k < L.1) (hn : L'.1 = L.1) (he : kE B L' M' k = e) (ho : ∀ j, j ≠ k → kE B L' M' j = kE B L M j) : (kW B L M).set k (B.1 + k, e) = kW B L' M' := by
  refine List.ext_getElem? fun i => ?_
  rw [List.getElem?_set, kW_len]
  by_cases h : k = i
  · subst h
    rw [if_pos rfl, if_pos hk, kW_get (by rw [hn]; exact hk), he]
  · rw [if_neg h]
    by_cases hi : i < L.1
    · rw [kW_get hi, kW_get (by rw [hn]; exact hi), ho i (fun e => h e.symm)]
    · rw [List.getElem?_eq_none (by rw [kW_len]; omega), List.getElem?_eq_none (by rw [kW_len]; omega)]
/-- writing a number -/
def kup (M : KMem) (o j : Nat) (v : Int32) : KMem := fun o' => if o' = o then upd (M o) j v else M o'
theorem kup_o (M : KMem) (o j : Nat) (v : Int32) : kup M o j v o = upd (M o) j v := if_pos rfl
theorem kup_n (M : KMem) {o o' : Nat} (j : Nat) (v : Int32) (h : o' ≠ o) : kup M o j v o' = M o' := if_neg h
theorem kup_s (M : KMem) (o j : Nat) (v : Int32) : kup M o j v o j = v := by rw [kup_o]; exact if_pos rfl
theorem kup_j (M : KMem) (o : Nat) {j j' : Nat} (v : Int32) (h : j' ≠ j) : kup M o j v o j' = M o j' := by rw [kup_o]; exact if_neg h
theorem kE_n {B : KB} {L : KLay} {M M' : KMem} {k : Nat} (h : M' k = M k) : kE B L M' k = kE B L M k := by
  have hv : kV B.1 L M' k = kV B.1 L M k := by
    funext j
    simp [kV, h]
  simp [kE, h, hv]
/-- the world: the pool, and (where it must be exact) the heap's end -/
def KW (B : KB) (L : KLay) (M : KMem) (H : Heap) : Prop := va_P B.2.1 kCl (kW B L M) H ∧ (B.2.2.2 = true → H.size = B.1 + L.1) ∧ B.1 ≤ H.size
/-- the words that are no premises of a method: links between nest mates, casts -/
def nwWord : Cond → Bool
  | .castable .. => true
  | .fieldLinkNest .. => true
  | .methodLinkNest .. => true
  | .declares _ => true
  | _ => false
def kNC : List (String × String) := [("java/lang/IllegalStateException", "java/lang/IllegalArgumentException"), ("java/lang/IllegalArgumentException", "java/lang/IndexOutOfBoundsException"), ("java/lang/IllegalStateException", "java/lang/IndexOutOfBoundsException")]
def KN (U : State) : Prop := (∀ w ∈ lw_tbl, nwWord w = true → va_Nw w U) ∧ (∀ q ∈ kNC, va_Nc q.1 q.2 U) ∧ (∀ own k tx, Cond.stringRef own k tx ∈ lw_tbl → ∃ a, vk_R own k tx a U) ∧ va_AO "SignReforms$State" U
theorem KN.moved {u U : State} (hW : u.WarmedH U.vm) (h : KN u) : KN U := by
  obtain ⟨h1, h2, h3, h4⟩ := h
  refine ⟨fun w hw hn => ?_, fun q hq => va_Nc.moved hW.alike (h2 q hq), fun own k tx hm => ?_, va_AO.moved hW.alike h4⟩
  · have h4 := h1 w hw hn
    cases w <;> first | (cases hn; done) | exact va_Nw.warmC hW h4 | exact va_Nw.warmF hW h4 | exact va_Nw.warmM hW h4 | exact va_Nw.warmD hW h4
  · obtain ⟨a, ha⟩ := h3 own k tx hm
    exact ⟨a, vk_R.warm hW ha⟩
theorem nw_tabs {w : Cond} (h : nwWord w = true) : w.onTables = true := by
  cases w <;> first | (cases h; done) | rfl
theorem KN.vmEq {u U : State} (hv : U.vm = u.vm) (h : KN u) : KN U := by
  obtain ⟨h1, h2, h3, h4⟩ := h
  have ha : u.vm.Alike U.vm := by rw [hv]; exact Vm.Alike.refl _
  refine ⟨fun w hw hn => va_Nw.same (nw_tabs hn) hv.symm (h1 w hw hn), fun q hq => va_Nc.moved ha (h2 q hq), fun own k tx hm => ?_, va_AO.moved ha h4⟩
  obtain ⟨a, ha⟩ := h3 own k tx hm
  exact ⟨a, vk_R.same hv ha⟩
def KS (B : KB) (U : State) (H : Heap) : Prop :=
  KN U ∧ vx_Zq Bundle.tN "UNASSIGNED_STACK" Bundle.steD (kA B) U H ∧ vx_Zq Bundle.tN "SUPPRESSED_SENTINEL" Bundle.listD (kA B) U H
theorem KS.moved {B : KB} {u U : State} {H : Heap} (hW : u.WarmedH U.vm) (h : KS B u H) : KS B U H := by
  obtain ⟨h0, h1, h2⟩ := h
  exact ⟨h0.moved hW, vx_Zq.moved hW.alike h1, vx_Zq.moved hW.alike h2⟩
theorem KS.vmEq {B : KB} {u U : State} {H : Heap} (hv : U.vm = u.vm) (h : KS B u H) : KS B U H := by
  have ha : u.vm.Alike U.vm := by rw [hv]; exact Vm.Alike.refl _
  obtain ⟨h0, h1, h2⟩ := h
  exact ⟨h0.vmEq hv, vx_Zq.moved ha h1, vx_Zq.moved ha h2⟩
theorem KS.kept {B : KB} {U : State} {H H1 : Heap} (h : KS B U H) (hq : ∀ a : Nat, a < H.size → ¬ kA B a → H1[a]? = H[a]?) : KS B U H1 := by
  obtain ⟨h0, h1, h2⟩ := h
  exact ⟨h0, vx_Zq.kept h1 hq, vx_Zq.kept h2 hq⟩
def KWO (B : KB) (L : KLay) (M : KMem) (U : State) : Prop := KW B L M U.heap ∧ va_K B.2.1 kCl (kty B) U ∧ KS B U U.heap
def Good (X : KX) (B : KB) (own : String) (cc : ByteArray) (nL : Nat) (rm : Room) : Prop :=
  (xP X).tables.exec = Jvm.exec ∧ (xC X).code = cc ∧ (xC X).maxLocals = nL ∧ (xS X).vm.findClass own = some (xM X).cls ∧ (∀ w ∈ GT, w.before (xA X) (xS X) = true) ∧
  va_K B.2.1 kCl (kty B) (xS X) ∧ KS B (xS X) (xS X).heap ∧ B.1 ≤ (xS X).heap.size ∧ (xH X).locks = false ∧ (xL X).stackTraces = false ∧ xR X = rm
/-- the judgement: from the heap that holds L and M, the locals ls, the stack st, at pc, the machine comes to its end -/
def KK (X : KX) (B : KB) (L : KLay) (nL cn sn : Nat) (M : KMem) (pc : Nat) (ls : List (Nat × Value)) (st : List Value) : Prop :=
  ∀ (H : Heap) (locs : List Loc) (la : Array Slot), KW B L M H → va_S (kA B) (xS X).heap H locs → lv_has la nL ls →
    W (xP X) (xL X) (xE X) (xR X) (xS X) (xM X) (xA X) (xW X) (xH X) (xC X) H locs cn sn (xQ X) (F0 (xM X) pc la st)
/-- the same where E is thrown -/
def KT (X : KX) (B : KB) (L : KLay) (nL cn sn : Nat) (M : KMem) (pc : Nat) (ls : List (Nat × Value)) (st : List Value) (E : String) : Prop :=
  ∀ (H : Heap) (locs : List Loc) (la : Array Slot) (q : Addr) (ce : Cell), KW B L M H → va_S (kA B) (xS X).heap H locs → lv_has la nL ls → H[q]? = some ce → ce.vm = .none → (xS X).vm.findClass E = some ce.cls →
    vx_W (xP X) (xL X) (xE X) (xR X) (xS X) (xM X) (xA X) (xW X) (xH X) (xC X) H locs cn sn (xQ X) (F0 (xM X) pc la st) q
/-- an answer that is there, and what holds of it -/
def kOk {α : Type} (o : Option α) (P : α → Prop) : Prop := ∃ r, o = some r ∧ P r
theorem kOk_b {α β : Type} {o : Option α} {f : α → Option β} {P : β → Prop} (h : kOk (o.bind f) P) : ∃ x, o = some x ∧ kOk (f x) P := by
  obtain ⟨r, h, hp⟩ := h
  obtain ⟨x, h1, h2⟩ := Option.bind_eq_some_iff.mp h
  exact ⟨x, h1, r, h2, hp⟩
theorem kOk_j {α β : Type} {o : Option α} {f : α → Option β} {P : β → Prop} (h : kOk (o.bind f) P) : kOk o (fun x => kOk (f x) P) := by
  obtain ⟨x, h1, h2⟩ := kOk_b h
  exact ⟨x, h1, h2⟩
theorem kOk_p {α : Type} {c : Prop} {d : Decidable c} {a b : Option α} {P : α → Prop} (hc : c) (h : kOk (@ite _ c d a b) P) : kOk a P := by rw [if_pos hc] at h; exact h
theorem kOk_n {α : Type} {c : Prop} {d : Decidable c} {a b : Option α} {P : α → Prop} (hc : ¬ c) (h : kOk (@ite _ c d a b) P) : kOk b P := by rw [if_neg hc] at h; exact h
theorem kOk_s {α : Type} {a : α} {P : α → Prop} (h : kOk (some a) P) : P a := by
  obtain ⟨r, h, hp⟩ := h
  cases h
  exact hp
theorem kOk_i {α : Type} {a : α} {P : α → Prop} (h : P a) : kOk (some a) P := ⟨a, rfl, h⟩
/-- a loop: a step goes on (inl) or leaves (inr) -/
def kLp {σ ρ : Type} (f : σ → Option (σ ⊕ ρ)) : Nat → σ → Option ρ
  | 0, _ => none
  | n + 1, s => (f s).bind (fun r => match r with | .inl s' => kLp f n s' | .inr r => some r)
theorem kLp_ok {σ ρ : Type} {f : σ → Option (σ ⊕ ρ)} {P : σ → Prop} {Q : ρ → Prop} (hs : ∀ s, kOk (f s) (fun r => match r with | .inl s' => P s' | .inr r => Q r) → P s) : ∀ (n : Nat) (s : σ), kOk (kLp f n s) Q → P s := by
  intro n
  induction n with
  | zero =>
    intro s h
    obtain ⟨r, h, -⟩ := h
    cases h
  | succ n ih =>
    intro s h
    refine hs s ?_
    obtain ⟨x, h1, h2⟩ := kOk_b h
    refine ⟨x, h1, ?_⟩
    cases x with
    | inl s' => exact ih s' h2
    | inr r =>
      have h3 : kOk (some r) Q := h2
      exact kOk_s (P := Q) (a := r) h3
def kFU : Nat := 100000
