theorem m_read_no {V : g_V} (h : m_isF V = 0) : m_read V 0 10 = 0 := by
  obtain ⟨w, hw, e⟩ := m_wants_n (m_sign V)
  have h0 : w = 0 := by
    unfold m_isF at h
    split at h
    · cases h
    · next z => rw [e] at z; exact Decidable.byContradiction (fun y => z ((nI_ltI (a := 0) (b := w) (by omega) (by omega)).mpr (by omega)))
  unfold m_read
  rw [e, h0, show (nI 0).toNatClampNeg = 0 from rfl]
  show m_takes (m_f3 V) 59 0 10 = 0
  have h1 : m_f3 V 0 10 = 0 := by unfold m_f3; rw [w2_ne (by omega), w2_at]; exact h
  unfold m_takes
  rw [if_pos h1, w2_ne (by omega), w2_at]
/-- the number of saved states and the text's length stay -/
def k_hd (V W : g_V) : Prop := W 0 3 = V 0 3 ∧ W 0 5 = V 0 5
theorem k_hd.rfl {V : g_V} : k_hd V V := ⟨Eq.refl _, Eq.refl _⟩
theorem k_hd.trans {U V W : g_V} (h1 : k_hd U V) (h2 : k_hd V W) : k_hd U W := ⟨h2.1.trans h1.1, h2.2.trans h1.2⟩
theorem k_hd.w {V W : g_V} (h : k_hd V W) {c k : Nat} {x : Int32} (hc : ¬ (c = 0 ∧ (k = 3 ∨ k = 5))) : k_hd V (g_w2 W c k x) := ⟨(w2_ne (by omega)).trans h.1, (w2_ne (by omega)).trans h.2⟩
theorem m_takes_h {V : g_V} {x : Int32} : k_hd V (m_takes V x) := by
  unfold m_takes
  repeat' split
  all_goals exact (k_hd.rfl.w (by omega)).w (by omega)
theorem m_numN_h : ∀ (j : Nat) (q : g_V × Int32), k_hd q.1 (m_numN j q).1
  | 0, _ => k_hd.rfl
  | j + 1, q => by
    rw [m_numN]
    split
    · exact k_hd.rfl
    · split
      · exact (k_hd.rfl.w (V := q.1) (by omega)).trans (m_numN_h j (g_w2 q.1 0 6 (q.1 0 6 + 1), 10 * q.2 + m_here q.1 - 48))
      · exact k_hd.rfl
theorem m_number_h {V : g_V} : k_hd V (m_number V).1 := by
  refine k_hd.trans ?_ (m_numN_h 6 (m_num0 V, 0))
  show k_hd V (m_num0 V)
  unfold m_num0
  repeat' split
  all_goals exact k_hd.rfl.w (by omega)
theorem m_oneN_h {k : Nat} {V : g_V} : k_hd V (m_oneN k V) := by
  unfold m_oneN
  split
  · exact (m_takes_h.trans m_number_h).w (by omega)
  · exact m_number_h.w (by omega)
theorem m_read_h {V : g_V} : k_hd V (m_read V) := by
  have h1 : ∀ n, k_hd (m_f3 V) (k_iter m_oneN (m_f3 V) n) := fun n => by
    induction n with
    | zero => exact k_hd.rfl
    | succ n ih => exact ih.trans m_oneN_h
  have h0 : k_hd V (m_f3 V) := ((k_hd.rfl.w (by omega)).w (by omega)).w (by omega)
  exact (h0.trans (h1 _)).trans m_takes_h
theorem m_told_0 {V : g_V} : (m_told V).2 0 = m_read V 0 := m_called_s 0 (by decide)
theorem m_told_h {V : g_V} : k_hd V (m_told V).2 := ⟨(congrFun m_told_0 3).trans m_read_h.1, (congrFun m_told_0 5).trans m_read_h.2⟩
theorem m_doesN_h : ∀ (j : Nat) (V : g_V), k_hd V (m_doesN j V).2
  | 0, _ => k_hd.rfl
  | j + 1, V => by
    rw [m_doesN]
    repeat' split
    · exact k_hd.rfl
    · exact m_read_h.w (by omega)
    · exact m_told_h.w (by omega)
    · exact ((m_told_h.w (by omega)).w (by omega)).trans (m_doesN_h j (m_next V))
    · exact m_told_h.w (by omega)
theorem m_does_h {V : g_V} : k_hd V (m_does V).2 := ((k_hd.rfl.w (by omega)).w (by omega)).trans (m_doesN_h 61 _)
theorem m_Tg_f3 {V : g_V} {ln i : Nat} (h : m_Tg V ln i) (hlt : ¬ V 0 5 ≤ V 0 6) : m_Tg (m_f3 V) ln i ∧ (m_isF V ≠ 0 → m_Tg (m_f3 V) ln (i + 1)) := by
  obtain ⟨z, a, b, c, d, e⟩ := h
  have hz : z < ln := by
    rw [b, c] at hlt
    exact Nat.lt_of_not_le (fun y => hlt ((nI_leI (by omega) (by omega)).mpr y))
  have h5 : m_f3 V 0 5 = nI ln := by unfold m_f3 m_from; rw [w2_ne (by omega), w2_ne (by omega), w2_ne (by omega), b]
  by_cases hF : m_isF V = 0
  · have h6 : m_f3 V 0 6 = nI z := by unfold m_f3; rw [w2_at, if_pos hF, c, Int32.add_zero]
    exact ⟨⟨z, a, h5, h6, d, e⟩, fun y => absurd hF y⟩
  · have h6 : m_f3 V 0 6 = nI (z + 1) := by unfold m_f3; rw [w2_at, if_neg hF, c]; exact nI_1 z
    exact ⟨⟨z + 1, by omega, h5, h6, hz, e⟩, fun _ => ⟨z + 1, by omega, h5, h6, hz, e⟩⟩
