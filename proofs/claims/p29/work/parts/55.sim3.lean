/-! ===== a day, days ===== -/
def d_lim (r : Nat → Int32) (p c : Int32) : Int32 := r 3 * p * c / 100
abbrev d_gone (r : Nat → Int32) (l : Int32) : Prop := ¬ r 6 ≤ 0 ∧ ¬ r 5 ≤ l ∧ r 6 - 1 ≤ 0
def d_row (r : Nat → Int32) (l : Int32) (j : Nat) : Int32 :=
  if r 6 ≤ 0 then r j else if r 5 ≤ l then (if j = 6 then 0 else r j) else if r 6 - 1 ≤ 0 then (if j = 1 then 5 + r 4 else if j = 4 then -1 else if j = 5 then 0 else if j = 6 then 0 else r j) else (if j = 6 then r 6 - 1 else r j)
theorem d_row_of {r r' : Nat → Int32} {l : Int32} (h : ∀ j, j < 7 → r j = r' j) {j : Nat} (hj : j < 7) : d_row r l j = d_row r' l j := by
  unfold d_row
  rw [h 6 (by decide), h 5 (by decide), h 4 (by decide), h j hj]
theorem d_gone_of {r r' : Nat → Int32} {l : Int32} (h : ∀ j, j < 7 → r j = r' j) : d_gone r l ↔ d_gone r' l := by
  unfold d_gone
  rw [h 6 (by decide), h 5 (by decide)]
def q_lim (V : g_V) (i : Nat) : Int32 := d_lim (V (12 + i)) (V 3 2) (V 4 1)
def m_row (W : g_V) (k j : Nat) : Int32 := W 1 (34 + 7 * k + j)
def m_lim (W : g_V) (k : Nat) : Int32 := d_lim (m_row W k) (W 1 12) (W 1 7)
section ZD
variable {V W : g_V} {n : Nat} {g : Nat → Nat} {mb lo hi : Int} {k : Nat}
theorem q_dec_r {i j : Nat} (h : j ≠ 6) : q_dec V i (12 + i) j = V (12 + i) j := w2_ne (by omega)
theorem q_dec_6 {i : Nat} : q_dec V i (12 + i) 6 = V (12 + i) 6 - 1 := w2_at
theorem q_dec_c {i c j : Nat} (h : c ≠ 12 + i) : q_dec V i c j = V c j := w2_ne (by omega)
theorem q_day1 {i : Nat} (ht : ¬ V (12 + i) 6 ≤ 0 → ∃ t : Nat, t < 3 ∧ V (12 + i) 4 = nI t) : (∀ j, q_dayStep i V (12 + i) j = d_row (V (12 + i)) (q_lim V i) j) ∧ (∀ t, t < 3 → q_dayStep i V 6 t = V 6 t + if d_gone (V (12 + i)) (q_lim V i) ∧ V (12 + i) 4 = nI t then V (12 + i) 5 else 0) ∧ (q_dayStep i V 0 8 = V 0 8 + if d_gone (V (12 + i)) (q_lim V i) then 1 else 0) ∧ ∀ c j, c ≠ 12 + i → c ≠ 6 → ¬ (c = 0 ∧ j = 8) → q_dayStep i V c j = V c j := by
  have eh : q_tooHigh (q_dec V i) i ↔ ¬ V (12 + i) 5 ≤ q_lim V i := by
    unfold q_tooHigh q_callLimit q_worth q_lim d_lim
    rw [q_dec_r (by decide), q_dec_r (by decide), q_dec_c (by omega), q_dec_c (by omega)]
  unfold q_dayStep
  by_cases c1 : V (12 + i) 6 ≤ 0
  · rw [if_neg (fun z => z c1)]
    refine ⟨fun j => ?_, fun t _ => ?_, ?_, fun _ _ _ _ _ => rfl⟩
    · unfold d_row; rw [if_pos c1]
    · rw [if_neg (fun z => z.1.1 c1), Int32.add_zero]
    · rw [if_neg (fun z => z.1 c1), Int32.add_zero]
  · rw [if_pos c1]
    obtain ⟨t0, ht0, et⟩ := ht c1
    by_cases c2 : V (12 + i) 5 ≤ q_lim V i
    · rw [if_neg (fun z => (eh.mp z) c2)]
      refine ⟨fun j => ?_, fun t _ => ?_, ?_, fun c j h _ _ => ?_⟩
      · unfold d_row; rw [if_neg c1, if_pos c2]
        by_cases e : j = 6
        · subst e; rw [w2_at, if_pos rfl]
        · rw [w2_ne (by omega), q_dec_r e, if_neg e]
      · rw [if_neg (fun z => z.1.2.1 c2), Int32.add_zero, w2_ne (by omega), q_dec_c (by omega)]
      · rw [if_neg (fun z => z.2.1 c2), Int32.add_zero, w2_ne (by omega), q_dec_c (by omega)]
      · rw [w2_ne (by omega), q_dec_c h]
    · rw [if_pos (eh.mpr c2)]
      by_cases c3 : V (12 + i) 6 - 1 ≤ 0
      · rw [if_neg (fun z => z (by rw [q_dec_6]; exact c3))]
        have hg : d_gone (V (12 + i)) (q_lim V i) := ⟨c1, c2, c3⟩
        have e4 : q_dec V i (12 + i) 4 = nI t0 := (q_dec_r (by decide)).trans et
        unfold q_seize q_seize2 q_seize1
        rw [e4, nI_clamp (by omega), if_pos ⟨nI_pos (by omega), nI_ge ht0 (by decide)⟩]
        unfold q_endPledge
        refine ⟨fun j => ?_, fun t ht => ?_, ?_, fun c j h h6 h08 => ?_⟩
        · unfold d_row; rw [if_neg c1, if_neg c2, if_pos c3]
          by_cases e1 : j = 1
          · subst e1; rw [w2_ne (by omega), w2_ne (by omega), w2_ne (by omega), w2_at, if_pos rfl, et]
          · by_cases e4 : j = 4
            · subst e4; rw [w2_ne (by omega), w2_ne (by omega), w2_at, if_neg (by decide), if_pos rfl]
            · by_cases e5 : j = 5
              · subst e5; rw [w2_ne (by omega), w2_at, if_neg (by decide), if_neg (by decide), if_pos rfl]
              · by_cases e6 : j = 6
                · subst e6; rw [w2_at, if_neg (by decide), if_neg (by decide), if_neg (by decide), if_pos rfl]
                · rw [w2_ne (by omega), w2_ne (by omega), w2_ne (by omega), w2_ne (by omega), w2_ne (by omega), w2_ne (by omega), q_dec_r e6, if_neg e1, if_neg e4, if_neg e5, if_neg e6]
        · rw [w2_ne (by omega), w2_ne (by omega), w2_ne (by omega), w2_ne (by omega), w2_ne (by omega)]
          by_cases e : t = t0
          · subst e; rw [w2_at, if_pos ⟨hg, et⟩, q_dec_c (by omega), q_dec_r (by decide)]
          · rw [w2_ne (by omega), q_dec_c (by omega), if_neg (fun z => e ((nI_eq (by omega) (by omega)).mp (z.2.symm.trans et))), Int32.add_zero]
        · rw [w2_ne (by omega), w2_ne (by omega), w2_ne (by omega), w2_ne (by omega), w2_at, w2_ne (by omega), q_dec_c (by omega), if_pos hg]
        · rw [w2_ne (by omega), w2_ne (by omega), w2_ne (by omega), w2_ne (by omega), w2_ne (by omega), w2_ne (by omega), q_dec_c h]
      · rw [if_pos (show ¬ q_dec V i (12 + i) 6 ≤ 0 by rw [q_dec_6]; exact c3)]
        refine ⟨fun j => ?_, fun t _ => ?_, ?_, fun c j h _ _ => q_dec_c h⟩
        · unfold d_row; rw [if_neg c1, if_neg c2, if_neg c3]
          by_cases e : j = 6
          · subst e; rw [q_dec_6, if_pos rfl]
          · rw [q_dec_r e, if_neg e]
        · rw [if_neg (fun z => c3 z.1.2.2), Int32.add_zero, q_dec_c (by omega)]
        · rw [if_neg (fun z => c3 z.2.2), Int32.add_zero, q_dec_c (by omega)]
theorem q_day_cf (ht : ∀ i, i < 16 → ¬ V (12 + i) 6 ≤ 0 → ∃ t : Nat, t < 3 ∧ V (12 + i) 4 = nI t) : ∀ N, N ≤ 16 → (∀ i, i < N → ∀ j, k_iter q_dayStep V N (12 + i) j = d_row (V (12 + i)) (q_lim V i) j) ∧ (∀ t, t < 3 → k_iter q_dayStep V N 6 t = V 6 t + k_sum (fun i => if d_gone (V (12 + i)) (q_lim V i) ∧ V (12 + i) 4 = nI t then V (12 + i) 5 else 0) N) ∧ (k_iter q_dayStep V N 0 8 = V 0 8 + k_sum (fun i => if d_gone (V (12 + i)) (q_lim V i) then 1 else 0) N) ∧ ∀ c j, ¬ (12 ≤ c ∧ c < 12 + N) → c ≠ 6 → ¬ (c = 0 ∧ j = 8) → k_iter q_dayStep V N c j = V c j
  | 0, _ => ⟨fun i hi => absurd hi (Nat.not_lt_zero i), fun t _ => (Int32.add_zero _).symm, (Int32.add_zero _).symm, fun _ _ _ _ _ => rfl⟩
  | N + 1, hN => by
    obtain ⟨h1, h2, h3, h4⟩ := q_day_cf ht N (by omega)
    rw [k_iter, k_sum]
    generalize k_iter q_dayStep V N = U at h1 h2 h3 h4 ⊢
    have er : U (12 + N) = V (12 + N) := funext fun j => h4 _ _ (by omega) (by omega) (by omega)
    have el : q_lim U N = q_lim V N := by unfold q_lim; rw [er, h4 3 2 (by omega) (by omega) (by omega), h4 4 1 (by omega) (by omega) (by omega)]
    obtain ⟨a1, a2, a3, a4⟩ := q_day1 (V := U) (i := N) (by rw [er]; exact ht N (by omega))
    rw [er, el] at a1 a2 a3
    refine ⟨fun i hi j => ?_, fun t h => ?_, ?_, fun c j h5 h6 h7 => ?_⟩
    · by_cases e : i = N
      · subst e; exact a1 j
      · rw [a4 _ _ (by omega) (by omega) (by omega)]; exact h1 i (by omega) j
    · rw [a2 t h, h2 t h, k_sum, Int32.add_assoc]
    · rw [a3, h3, Int32.add_assoc]
    · rw [a4 c j (by omega) h6 h7, h4 c j (by omega) h6 h7]
theorem m_dec_n {x : Nat} (h : x ≠ 34 + 7 * k + 6) : m_dec W k 1 x = W 1 x := w2_ne (by omega)
theorem m_dec_6 : m_dec W k 1 (34 + 7 * k + 6) = W 1 (34 + 7 * k + 6) - 1 := w2_at
theorem m_day1 (ht : ¬ W 1 (34 + 7 * k + 6) ≤ 0 → ∃ t : Nat, t < 3 ∧ W 1 (34 + 7 * k + 4) = nI t) (hl : 0 ≤ (W 1 (34 + 7 * k + 6)).toInt) : (∀ j, j < 7 → m_dayStep k W 1 (34 + 7 * k + j) = d_row (m_row W k) (m_lim W k) j) ∧ (∀ t, t < 3 → m_dayStep k W 1 (21 + t) = W 1 (21 + t) + if d_gone (m_row W k) (m_lim W k) ∧ m_row W k 4 = nI t then m_row W k 5 else 0) ∧ (m_dayStep k W 1 3 = W 1 3 + if d_gone (m_row W k) (m_lim W k) then 1 else 0) ∧ ∀ x, (x < 34 + 7 * k ∨ 34 + 7 * k + 7 ≤ x) → x ≠ 3 → (x < 21 ∨ 24 ≤ x) → m_dayStep k W 1 x = W 1 x := by
  have eh : m_above (m_dec W k) k ↔ ¬ m_row W k 5 ≤ m_lim W k := by
    unfold m_above m_share m_worth m_lim d_lim m_row
    rw [m_dec_n (by omega), m_dec_n (by omega), m_dec_n (by omega), m_dec_n (by omega)]
  have r6 : m_row W k 6 = W 1 (34 + 7 * k + 6) := rfl
  unfold m_dayStep
  by_cases c1 : W 1 (34 + 7 * k + 6) ≤ 0
  · rw [if_pos c1]
    refine ⟨fun j _ => ?_, fun t _ => ?_, ?_, fun _ _ _ _ => rfl⟩
    · unfold d_row; rw [r6, if_pos c1]; rfl
    · rw [if_neg (fun z => z.1.1 c1), Int32.add_zero]
    · rw [if_neg (fun z => z.1 c1), Int32.add_zero]
  · rw [if_neg c1]
    obtain ⟨t0, ht0, et⟩ := ht c1
    have hp := z_pos c1
    have e61 : (W 1 (34 + 7 * k + 6) - 1).toInt = (W 1 (34 + 7 * k + 6)).toInt - 1 := by
      have := Int32.toInt_lt (W 1 (34 + 7 * k + 6))
      rw [z_sub (by rw [z_i1]; omega) (by rw [z_i1]; omega), z_i1]
    by_cases c2 : m_row W k 5 ≤ m_lim W k
    · rw [if_neg (fun z => (eh.mp z) c2)]
      refine ⟨fun j hj => ?_, fun t ht => ?_, ?_, fun x h h3 h21 => ?_⟩
      · unfold d_row; rw [r6, if_neg c1, if_pos c2]
        by_cases e : j = 6
        · subst e; rw [w2_at, if_pos rfl]
        · rw [w2_ne (by omega), m_dec_n (by omega), if_neg e]; rfl
      · rw [if_neg (fun z => z.1.2.1 c2), Int32.add_zero, w2_ne (by omega), m_dec_n (by omega)]
      · rw [if_neg (fun z => z.2.1 c2), Int32.add_zero, w2_ne (by omega), m_dec_n (by omega)]
      · rw [w2_ne (by omega), m_dec_n (by omega)]
    · rw [if_pos (eh.mpr c2), m_dec_6]
      by_cases c3 : W 1 (34 + 7 * k + 6) - 1 = 0
      · have c3' : m_row W k 6 - 1 ≤ 0 := by rw [r6, c3]; exact Int32.le_refl _
        rw [if_pos c3]
        have hg : d_gone (m_row W k) (m_lim W k) := ⟨c1, c2, c3'⟩
        have e4 : m_dec W k 1 (34 + 7 * k + 4) = nI t0 := (m_dec_n (by omega)).trans et
        rw [e4, nI_clamp (by omega)]
        unfold m_seizes m_frees
        refine ⟨fun j hj => ?_, fun t ht => ?_, ?_, fun x h h3 h21 => ?_⟩
        · unfold d_row; rw [r6, if_neg c1, if_neg c2, if_pos (by rw [← r6]; exact c3')]
          by_cases e1 : j = 1
          · subst e1; rw [w2_ne (by omega), w2_ne (by omega), w2_ne (by omega), w2_at, if_pos rfl, show m_row W k 4 = nI t0 from et]; exact (nI_add 5 t0).symm
          · by_cases e4 : j = 4
            · subst e4; rw [w2_ne (by omega), w2_ne (by omega), w2_at, if_neg (by decide), if_pos rfl]
            · by_cases e5 : j = 5
              · subst e5; rw [w2_ne (by omega), w2_at, if_neg (by decide), if_neg (by decide), if_pos rfl]
              · by_cases e6 : j = 6
                · subst e6; rw [w2_at, if_neg (by decide), if_neg (by decide), if_neg (by decide), if_pos rfl]
                · rw [w2_ne (by omega), w2_ne (by omega), w2_ne (by omega), w2_ne (by omega), w2_ne (by omega), w2_ne (by omega), m_dec_n (by omega), if_neg e1, if_neg e4, if_neg e5, if_neg e6]; rfl
        · rw [w2_ne (by omega), w2_ne (by omega), w2_ne (by omega), w2_ne (by omega), w2_ne (by omega)]
          by_cases e : t = t0
          · subst e; rw [w2_at, if_pos ⟨hg, et⟩, m_dec_n (by omega), m_dec_n (by omega)]; rfl
          · rw [w2_ne (by omega), m_dec_n (by omega), if_neg (fun z => e ((nI_eq (by omega) (by omega)).mp (z.2.symm.trans et))), Int32.add_zero]
        · rw [w2_ne (by omega), w2_ne (by omega), w2_ne (by omega), w2_ne (by omega), w2_at, w2_ne (by omega), m_dec_n (by omega), if_pos hg]
        · rw [w2_ne (by omega), w2_ne (by omega), w2_ne (by omega), w2_ne (by omega), w2_ne (by omega), w2_ne (by omega), m_dec_n (by omega)]
      · have c3' : ¬ m_row W k 6 - 1 ≤ 0 := by
          intro z
          rw [r6, Int32.le_iff_toInt_le, z_i0, e61] at z
          exact c3 (z_ext (by rw [e61, z_i0]; omega))
        rw [if_neg c3]
        refine ⟨fun j hj => ?_, fun t _ => ?_, ?_, fun x h _ _ => m_dec_n (by omega)⟩
        · unfold d_row; rw [r6, if_neg c1, if_neg c2, if_neg (by rw [← r6]; exact c3')]
          by_cases e : j = 6
          · subst e; rw [m_dec_6, if_pos rfl]
          · rw [m_dec_n (by omega), if_neg e]; rfl
        · rw [if_neg (fun z => c3' z.1.2.2), Int32.add_zero, m_dec_n (by omega)]
        · rw [if_neg (fun z => c3' z.2.2), Int32.add_zero, m_dec_n (by omega)]
theorem m_days_cf (h1 : y_1 (W 1) n) : ∀ N, N ≤ n → (∀ k, k < N → ∀ j, j < 7 → m_days W N 1 (34 + 7 * k + j) = d_row (m_row W k) (m_lim W k) j) ∧ (∀ t, t < 3 → m_days W N 1 (21 + t) = W 1 (21 + t) + k_sum (fun k => if d_gone (m_row W k) (m_lim W k) ∧ m_row W k 4 = nI t then m_row W k 5 else 0) N) ∧ (m_days W N 1 3 = W 1 3 + k_sum (fun k => if d_gone (m_row W k) (m_lim W k) then 1 else 0) N) ∧ ∀ x, (x < 34 ∨ 34 + 7 * N ≤ x) → x ≠ 3 → (x < 21 ∨ 24 ≤ x) → m_days W N 1 x = W 1 x
  | 0, _ => ⟨fun i hi => absurd hi (Nat.not_lt_zero i), fun t _ => (Int32.add_zero _).symm, (Int32.add_zero _).symm, fun _ _ _ _ => rfl⟩
  | N + 1, hN => by
    obtain ⟨b1, b2, b3, b4⟩ := m_days_cf h1 N (by omega)
    have es : m_days W (N + 1) = m_dayStep N (m_days W N) := by unfold m_days; rw [k_iter]
    rw [es, k_sum]
    generalize m_days W N = U at b1 b2 b3 b4 ⊢
    have er : m_row U N = fun j => U 1 (34 + 7 * N + j) := rfl
    have er : ∀ j, U 1 (34 + 7 * N + j) = W 1 (34 + 7 * N + j) := fun j => b4 _ (by omega) (by omega) (by omega)
    have er' : m_row U N = m_row W N := funext er
    have el : m_lim U N = m_lim W N := by unfold m_lim; rw [er', b4 12 (by omega) (by omega) (by omega), b4 7 (by omega) (by omega) (by omega)]
    obtain ⟨a1, a2, a3, a4⟩ := m_day1 (W := U) (k := N) (by rw [er, er]; exact h1.okL N (by omega)) (by rw [er]; exact (h1.row (by omega)).2.2.2.2.2.1.1)
    rw [er', el] at a1 a2 a3
    refine ⟨fun i hi j hj => ?_, fun t h => ?_, ?_, fun x h5 h6 h7 => ?_⟩
    · by_cases e : i = N
      · subst e; exact a1 j hj
      · rw [a4 _ (by omega) (by omega) (by omega)]; exact b1 i (by omega) j hj
    · rw [a2 t h, b2 t h, k_sum, Int32.add_assoc]
    · rw [a3, b3, Int32.add_assoc]
    · rw [a4 x (by omega) h6 h7, b4 x (by omega) h6 h7]
theorem y_row.day {S' : Nat → Int32} {l : Int32} (h : y_row (W 1) k) (hr : ∀ j, j < 7 → S' (34 + 7 * k + j) = d_row (m_row W k) l j) : y_row S' k := by
  unfold y_row at h ⊢
  rw [hr 1 (by decide), hr 2 (by decide), hr 3 (by decide), hr 4 (by decide), hr 5 (by decide), hr 6 (by decide)]
  obtain ⟨h1, h2, h3, h4, h5, h6, h7⟩ := h
  unfold d_row m_row
  by_cases c1 : W 1 (34 + 7 * k + 6) ≤ 0
  · simp only [if_pos c1]
    exact ⟨h1, h2, h3, h4, h5, h6, h7⟩
  · have hp := z_pos c1
    have e61 : (W 1 (34 + 7 * k + 6) - 1).toInt = (W 1 (34 + 7 * k + 6)).toInt - 1 := by
      rw [z_sub (by rw [z_i1]; omega) (by rw [z_i1]; omega), z_i1]
    simp only [if_neg c1]
    by_cases c2 : W 1 (34 + 7 * k + 5) ≤ l
    · simp only [if_pos c2, reduceIte, Nat.reduceEqDiff]
      exact ⟨h1, h2, h3, h4, h5, by decide, fun z => absurd z (by decide)⟩
    · simp only [if_neg c2]
      by_cases c3 : W 1 (34 + 7 * k + 6) - 1 ≤ 0
      · simp only [if_pos c3, reduceIte, Nat.reduceEqDiff]
        have e5 : ((5 : Int32) + W 1 (34 + 7 * k + 4)).toInt = 5 + (W 1 (34 + 7 * k + 4)).toInt := z_add (a := 5) (by show -2147483648 ≤ (5 : Int) + _; omega) (by show (5 : Int) + _ < _; omega)
        have := h7 hp
        exact ⟨by rw [e5]; omega, h2, h3, by decide, by decide, by decide, fun z => absurd z (by decide)⟩
      · simp only [if_neg c3, reduceIte, Nat.reduceEqDiff]
        exact ⟨h1, h2, h3, h4, h5, by rw [e61]; omega, fun _ => h7 hp⟩
end ZD
