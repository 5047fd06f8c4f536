theorem CR.fr2 {a : Row} {u : Nat} {M M' : KMem} (h : CR a u M) (hf : ∀ o, u + 1 ≤ o → o ≤ u + 12 → M' o = M o) : CR a u M' := h.fr (S := fun o => o ≤ u ∨ u + 12 < o) (fun o ho => hf o (by omega) (by omega)) (fun o ho => ho)
theorem pushH_congr {H H' : Nat → Row} {k : Nat} {a : Row} (hk : k ≤ 14) (h : ∀ j, j < k → ∀ i, i < 108 → H j i = H' j i) : ∀ j, j < min k 13 + 1 → ∀ i, i < 108 → pushH H k a j i = pushH H' k a j i := by
  intro j hj i hi
  unfold pushH
  by_cases hk14 : k < 14
  · rw [if_pos hk14, if_pos hk14]
    by_cases hjk : j = k
    · rw [if_pos hjk, if_pos hjk]
    · rw [if_neg hjk, if_neg hjk]; exact h j (by omega) i hi
  · rw [if_neg hk14, if_neg hk14]
    by_cases hj13 : j < 13
    · rw [if_pos hj13, if_pos hj13]; exact h (j + 1) (by omega) i hi
    · rw [if_neg hj13, if_neg hj13]
