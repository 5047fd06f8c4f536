/-! LAYER 2: what the two objects hold at the start -/
def l00 : KLay := (0, fun _ => 0, fun _ => 0, fun _ _ => none)
def m00 : KMem := fun _ _ => 0
def okLb (L : KLay) (t : Nat) (T : kT) : Bool := T.all (fun q => Nat.blt (t + q.1) L.1 && (L.2.1 (t + q.1) == q.2.1) && (L.2.2.1 (t + q.1) == q.2.2.1) && q.2.2.2.all (fun r => L.2.2.2 (t + q.1) r.1 == some (t + r.2)))
def ini1 : Option (KLay × KMem) := m_SR_init 0 (lNew l00 7 0) (mNew l00 m00)
def ini1b : Bool := match ini1 with
  | some (L, M) => okLb L 0 srT && Nat.beq L.1 235 && ([(4, 1, 0), (5, 0, 0), (4, 11, 0), (4, 12, 0), (4, 13, -1), (4, 14, 0), (13, 0, 0), (13, 1, 0), (13, 2, 0), (13, 3, 0), (14, 0, 0), (14, 1, 0), (14, 2, 0), (14, 3, 0), (15, 0, 4), (15, 1, 3), (39, 1, 0), (39, 2, 0), (42, 0, 0), (42, 1, 0), (1, 1, 0)] : List (Nat × Nat × Int32)).all (fun q => M q.1 q.2.1 == q.2.2)
  | none => false
set_option maxRecDepth 100000 in
theorem ini1_t : ini1b = true := by decide +kernel
