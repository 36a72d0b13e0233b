/-! ===== the reference: texts ===== -/
/-- where the text is read: at most its length, at most 60 -/
def m_T (V : g_V) : Prop := ∃ ln q : Nat, V 0 5 = nI ln ∧ V 0 6 = nI q ∧ q ≤ ln ∧ ln ≤ 60
abbrev m_B (V : g_V) : Prop := V 0 10 = 0 ∨ V 0 10 = 1
def m_here (V : g_V) : Int32 := if V 0 5 ≤ V 0 6 then -1 else V 4 (V 0 6).toNatClampNeg
theorem m_T.len {V : g_V} (h : m_T V) : ∀ {W : g_V}, W 0 5 = V 0 5 → W 0 6 = V 0 6 → m_T W := by
  intro W h1 h2
  obtain ⟨ln, q, a, b, c, d⟩ := h
  exact ⟨ln, q, h1.trans a, h2.trans b, c, d⟩
theorem m_T.step {V : g_V} (h : m_T V) (hh : ¬ m_here V = -1) : ∀ {W : g_V}, W 0 5 = V 0 5 → W 0 6 = V 0 6 + 1 → m_T W := by
  intro W h1 h2
  obtain ⟨ln, q, a, b, c, d⟩ := h
  refine ⟨ln, q + 1, h1.trans a, by rw [h2, b]; exact nI_1 q, ?_, d⟩
  refine Nat.lt_of_le_of_ne c (fun e => hh ?_)
  unfold m_here
  rw [a, b, e, if_pos (Int32.le_refl _)]
def m_takes (V : g_V) (x : Int32) : g_V :=
  if V 0 10 = 0 then g_w2 (g_w2 V 0 10 0) 0 6 (V 0 6 + 0) else (if m_here V = x then g_w2 (g_w2 V 0 10 1) 0 6 (V 0 6 + 1) else g_w2 (g_w2 V 0 10 0) 0 6 (V 0 6 + 0))
def m_numN : Nat → g_V × Int32 → g_V × Int32
  | 0, q => q
  | j + 1, q => if q.1 0 10 = 0 then q else (if m_in (m_here q.1) 48 57 then m_numN j (g_w2 q.1 0 6 (q.1 0 6 + 1), 10 * q.2 + m_here q.1 - 48) else q)
def m_num0 (V : g_V) : g_V := if V 0 10 = 0 then g_w2 V 0 10 0 else (if m_in (m_here V) 48 57 then g_w2 V 0 10 1 else g_w2 V 0 10 0)
def m_number (V : g_V) : g_V × Int32 := m_numN 6 (m_num0 V, 0)
theorem m_T_w {V : g_V} {c k : Nat} {x : Int32} (h : m_T V) (h1 : ¬ (c = 0 ∧ (k = 5 ∨ k = 6))) : m_T (g_w2 V c k x) :=
  h.len (w2_ne (by omega)) (w2_ne (by omega))
theorem m_T_s {V : g_V} (h : m_T V) (hh : ¬ m_here V = -1) : m_T (g_w2 V 0 6 (V 0 6 + 1)) := h.step hh (w2_ne (by omega)) w2_at
theorem m_here_w {V : g_V} {c k : Nat} {x : Int32} (h1 : ¬ (c = 0 ∧ (k = 5 ∨ k = 6))) (h2 : c ≠ 4) : m_here (g_w2 V c k x) = m_here V := by
  unfold m_here
  rw [w2_ne (by omega), w2_ne (by omega), w2_c (Ne.symm h2)]
theorem m_dig {x : Int32} (h : m_in x 48 57) : ¬ x = -1 := fun z => by rw [z] at h; exact absurd h (by decide)
theorem m_T_takes {V : g_V} {x : Int32} (h : m_T V) (hx : ¬ x = -1) : m_T (m_takes V x) := by
  unfold m_takes
  split
  · exact h.len (by rw [w2_ne (by omega), w2_ne (by omega)]) (by rw [w2_at, Int32.add_zero])
  · split
    · next h1 => exact h.step (fun z => hx (h1.symm.trans z)) (by rw [w2_ne (by omega), w2_ne (by omega)]) w2_at
    · exact h.len (by rw [w2_ne (by omega), w2_ne (by omega)]) (by rw [w2_at, Int32.add_zero])
theorem m_B_takes {V : g_V} {x : Int32} : m_B (m_takes V x) := by
  unfold m_takes
  split
  · exact Or.inl (by rw [w2_ne (by omega), w2_at])
  · split
    · exact Or.inr (by rw [w2_ne (by omega), w2_at])
    · exact Or.inl (by rw [w2_ne (by omega), w2_at])
theorem m_T_num0 {V : g_V} (h : m_T V) : m_T (m_num0 V) := by
  unfold m_num0
  repeat' split
  all_goals exact m_T_w h (by omega)
theorem m_B_num0 {V : g_V} : m_B (m_num0 V) := by
  unfold m_num0
  split
  · exact Or.inl w2_at
  · split
    · exact Or.inr w2_at
    · exact Or.inl w2_at
theorem m_numN_ok : ∀ (j : Nat) (q : g_V × Int32), m_T q.1 → m_T (m_numN j q).1 ∧ (m_numN j q).1 0 10 = q.1 0 10
  | 0, _, h => ⟨h, rfl⟩
  | j + 1, q, h => by
    rw [m_numN]
    split
    · exact ⟨h, rfl⟩
    · split
      · next h2 =>
        obtain ⟨a, b⟩ := m_numN_ok j (g_w2 q.1 0 6 (q.1 0 6 + 1), 10 * q.2 + m_here q.1 - 48) (m_T_s h (m_dig h2))
        exact ⟨a, b.trans (show g_w2 q.1 0 6 (q.1 0 6 + 1) 0 10 = q.1 0 10 from w2_ne (by omega))⟩
      · exact ⟨h, rfl⟩
theorem m_T_number {V : g_V} (h : m_T V) : m_T (m_number V).1 := (m_numN_ok 6 _ (m_T_num0 h)).1
theorem m_B_number {V : g_V} (h : m_T V) : m_B (m_number V).1 := by
  have h1 := (m_numN_ok 6 (m_num0 V, 0) (m_T_num0 h)).2
  have h2 : m_B (m_num0 V) := m_B_num0
  unfold m_B
  rw [show (m_number V).1 0 10 = m_num0 V 0 10 from h1]
  exact h2
def m_wants (x : Int32) : Int32 := if x = 108 then 3 else if x = 112 then 2 else if x = 115 then 3 else if x = 99 then 1 else if x = 100 then 1 else if x = 116 then 1 else 0
