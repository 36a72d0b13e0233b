/-! ===== the two sides at the start ===== -/
section WI
variable {b : Nat} {u : n_gu} {D : va_G} {s : State}
theorem w_tys (h1 : n_gK D u s) : w_ty u (w_tb u) ∧ va_K D vwCl (g_tys (w_tb u)) s := by
  obtain ⟨k1, k2⟩ := h1
  have c0 := k1.2 0 _ rfl
  have x0 := k1.2 1 _ rfl
  have c2 := k1.2 2 _ rfl
  have s0 := (k2 0 (by decide)).2 0 _ rfl
  have s1 := (k2 0 (by decide)).2 1 _ rfl
  refine ⟨⟨⟨rfl, rfl, rfl⟩, fun r hr => ?_⟩, k1.1, fun k q hk => ?_⟩
  · have kr := k2 r hr
    exact ⟨va_RA_one (kr.2 0 _ rfl).2 s0.2, va_RA_one (kr.2 1 _ rfl).2 s1.2, va_RA_one (kr.2 2 _ rfl).2 x0.2, va_RA_one (kr.2 3 _ rfl).2 x0.2, va_RA_one (kr.2 4 _ rfl).2 x0.2, va_RA_one (kr.2 5 _ rfl).2 x0.2⟩
  · match k, hk with
    | 0, hk => cases hk; exact x0
    | 1, hk => cases hk; exact c0
    | 2, hk => cases hk; exact s0
    | 3, hk => cases hk; exact s1
    | 4, hk => cases hk; exact c2
    | k + 5, hk => simp [g_tys] at hk
end WI
theorem w_row : ∀ x : Fin 146, m_row0 x.val = if x.val = 6 then 70 else if x.val = 7 then 90 else if x.val = 8 then 3 else if x.val = 9 then 4 else if x.val = 10 then 30 else if x.val = 11 then 20 else if x.val = 12 then 10 else if x.val = 28 then 1 else if x.val = 30 then 1 else if x.val = 32 then 2 else 0 := by decide +kernel
theorem w_rowN {x : Nat} (h : x < 146) : m_row0 x = if x = 6 then 70 else if x = 7 then 90 else if x = 8 then 3 else if x = 9 then 4 else if x = 10 then 30 else if x = 11 then 20 else if x = 12 then 10 else if x = 28 then 1 else if x = 30 then 1 else if x = 32 then 2 else 0 := w_row ⟨x, h⟩
theorem w_row0 {x : Nat} (h : x < 6 ∨ (13 ≤ x ∧ x < 28) ∨ (33 ≤ x ∧ x < 146)) : m_row0 x = 0 := by
  rw [w_rowN (by omega), if_neg (by omega), if_neg (by omega), if_neg (by omega), if_neg (by omega), if_neg (by omega), if_neg (by omega), if_neg (by omega), if_neg (by omega), if_neg (by omega), if_neg (by omega)]
theorem w_L : z_L w_V m_row0 0 (fun _ => 0) := by
  refine ⟨⟨w_row0 (by omega), by decide⟩, fun k hk => absurd hk (Nat.not_lt_zero k), fun k k' hk => absurd hk (Nat.not_lt_zero k), fun c j x hx => ?_, fun i hi _ => ?_⟩
  · rcases hx with ⟨rfl, h, rfl⟩ | ⟨rfl, h, rfl⟩ | ⟨rfl, h, rfl⟩ | ⟨rfl, h, rfl⟩ | ⟨rfl, h, h2, rfl⟩ | ⟨q, hq, rfl, h, rfl⟩ | ⟨k, hk, -⟩
    · rcases (show j = 0 ∨ j = 1 ∨ j = 2 by omega) with rfl | rfl | rfl <;> decide
    · rcases (show j = 0 ∨ j = 1 ∨ j = 2 ∨ j = 3 by omega) with rfl | rfl | rfl | rfl <;> decide
    · rw [w_row0 (by omega)]; rfl
    · rw [w_row0 (by omega)]; rfl
    · rw [w_row0 (by omega)]; rfl
    · rcases (show j = 0 ∨ j = 1 by omega) with rfl | rfl <;> rcases (show q = 0 ∨ q = 1 ∨ q = 2 ∨ q = 3 ∨ q = 4 by omega) with rfl | rfl | rfl | rfl | rfl <;> decide
    · exact absurd hk (Nat.not_lt_zero k)
  · unfold z_free
    rw [w_V_rec, w_V_rec, w_V_rec, w_V_rec, w_V_rec, w_V_rec, w_V_rec]
    exact ⟨rfl, rfl, rfl, rfl, rfl, rfl, rfl⟩
theorem w_y1 : y_1 m_row0 0 := by
  refine ⟨⟨w_row0 (by omega), by decide⟩, fun k hk => absurd hk (Nat.not_lt_zero k), ?_, fun q hq => ?_, fun q _ _ => ?_⟩
  · unfold y_set
    refine ⟨by decide, by decide, by decide, by decide, fun j hj => ?_⟩
    rcases (show j = 0 ∨ j = 1 ∨ j = 2 by omega) with rfl | rfl | rfl <;> decide
  · rcases (show q = 0 ∨ q = 1 ∨ q = 2 ∨ q = 3 ∨ q = 4 by omega) with rfl | rfl | rfl | rfl | rfl <;> decide
  · rw [z_tot_0]
    refine z_tot_pos (fun i hi => ?_)
    unfold y_bterm
    split
    · rw [w_rowN (x := 24 + 2 * i + 1) (by omega), if_neg (by omega), if_neg (by omega), if_neg (by omega), if_neg (by omega), if_neg (by omega), if_neg (by omega), if_neg (by omega), if_neg (by omega), if_neg (by omega), if_neg (by omega)]
      exact Int.le_refl 0
    · exact Int.le_refl 0
theorem w_R0 : z_R w_V m_row0 0 0 0 0 := ⟨_, w_L, w_y1, ⟨fun k k' _ hk => absurd hk (Nat.not_lt_zero k'), fun k hk => absurd hk (Nat.not_lt_zero k), by rw [w_row0 (by omega)]; decide, by rw [w_row0 (by omega)]; decide⟩, fun o ho => by rw [w_row0 (by omega)]; decide⟩
theorem w_Rel0 : z_Rel w_P w_M 0 0 0 := by
  refine ⟨⟨fun i => ?_, fun i j hi hj e => ?_⟩, ⟨0, rfl, rfl, by decide, fun j hj => absurd hj (Nat.not_lt_zero j), fun j => rfl⟩, 0, rfl, rfl, by decide, ⟨0, w_R0⟩, fun i hi => absurd hi (Nat.not_lt_zero i)⟩
  · unfold w_P
    split
    · assumption
    · decide
  · unfold w_P at e
    rw [if_pos hi, if_pos hj] at e
    exact e
theorem w_v4 : v_I w_P w_M := fun i hi _ j hj => by
  have e : w_M (w_P i) = w_V := by
    unfold w_P
    rw [if_pos hi]
    exact if_pos hi
  rw [e]
  exact Or.inl ⟨w_V_rec.trans (if_pos (Or.inr rfl)), w_V_rec.trans (if_neg (by decide))⟩
