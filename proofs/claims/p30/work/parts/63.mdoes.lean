/-! LAYER 2: what may be done, on both sides; what the model does -/
theorem lt_nI {x : Int32} {n : Nat} (h : ¬ nI n ≤ x) : x < nI n := Int32.not_le.mp h
/-- an amnesty can be given -/
def cfA (a : Row) : Prop := a 93 ≤ 0 ∧ (a 94 = -1 ∨ 12 ≤ a 92 - a 94)
section Does
variable {v : Nat} {M : KMem}
end Does
