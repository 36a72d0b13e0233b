theorem k_dec1 {a q : Nat} (h : q + 1 ≤ a) : nI (a - q) + (-1) = nI (a - (q + 1)) := by
  obtain ⟨b, hb⟩ : ∃ b, a - q = b + 1 := ⟨a - q - 1, by omega⟩
  rw [show a - (q + 1) = b from by omega, hb, show nI (b + 1) + (-1) = nI (b + 1) - 1 from (Int32.sub_eq_add_neg _ _).symm]
  exact nI_pred b
