/-! ===== the reference: whole texts; only s is written by the calls ===== -/
def k_sm (V W : g_V) : Prop := ∀ c, c ≠ 1 → W c = V c
theorem k_sm.rfl {V : g_V} : k_sm V V := fun _ _ => Eq.refl _
theorem k_sm.trans {U V W : g_V} (h1 : k_sm U V) (h2 : k_sm V W) : k_sm U W := fun c hc => (h2 c hc).trans (h1 c hc)
theorem k_sm.w {V W : g_V} (h : k_sm V W) {k : Nat} {x : Int32} : k_sm V (g_w2 W 1 k x) := fun c hc => (w2_c hc).trans (h c hc)
theorem k_sm_iter {f : Nat → g_V → g_V} (h : ∀ k U, k_sm U (f k U)) {V : g_V} : ∀ n, k_sm V (k_iter f V n)
  | 0 => k_sm.rfl
  | n + 1 => (k_sm_iter h n).trans (h n _)
theorem k_sm_iter1 {α : Type} {f : Nat → g_V × α → g_V × α} (h : ∀ k q, k_sm q.1 (f k q).1) {q : g_V × α} : ∀ n, k_sm q.1 (k_iter f q n).1
  | 0 => k_sm.rfl
  | n + 1 => (k_sm_iter1 h n).trans (h n _)
theorem m_frees_s {V W : g_V} {a : Nat} (h : k_sm V W) : k_sm V (m_frees W a) := h.w.w.w
theorem m_makes_s {V W : g_V} {o g a : Int32} {n : Nat} (h : k_sm V W) : k_sm V (m_makes W o g a n) := (m_frees_s h.w.w.w.w.w).w
theorem m_fill_s {g : Int32} {k : Nat} {q : g_V × Int32} : k_sm q.1 (m_fillStep g k q).1 := by
  unfold m_fillStep
  split
  · exact k_sm.rfl.w
  · exact k_sm.rfl
theorem m_removes_s {V W : g_V} {n a : Nat} (h : k_sm V W) : k_sm V (m_removes W n a) :=
  ((h.w.trans (k_sm_iter (fun _ _ => k_sm.rfl.w) _)).trans (k_sm_iter (fun _ _ => k_sm.rfl.w) _))
theorem m_delv_s {own : Int32} : ∀ (j : Nat) (q : g_V × Int32 × Int32), k_sm q.1 (m_delv own j q).1
  | 0, _ => k_sm.rfl
  | j + 1, q => (k_sm_iter1 (fun _ _ => k_sm.rfl.w) 5).trans (m_delv_s j _)
theorem m_callStep_s {le : Int32} {k : Nat} {q : g_V × Int32} : k_sm q.1 (m_callStep le k q).1 := by
  unfold m_callStep
  split
  · exact k_sm.rfl.w
  · exact k_sm.rfl
theorem m_dayStep_s {k : Nat} {W : g_V} : k_sm W (m_dayStep k W) := by
  unfold m_dayStep
  repeat' split
  · exact k_sm.rfl
  · exact m_frees_s k_sm.rfl.w.w.w.w
  · exact k_sm.rfl.w
  · exact k_sm.rfl.w.w
theorem m_day_s {W : g_V} {n : Nat} : k_sm W (m_day W n) := (k_sm_iter (fun _ _ => m_dayStep_s) n).w
theorem m_letN_s {V : g_V} {n d : Nat} : k_sm V (m_letN V n d) := k_sm_iter (fun _ _ => m_day_s) d
theorem m_stores_s {V : g_V} {o g a : Int32} {n : Nat} : k_sm V (m_stores V o g a n).2 := by
  unfold m_stores
  repeat' split
  all_goals first | exact k_sm.rfl | exact m_makes_s (k_sm_iter1 (fun _ _ => m_fill_s) 5)
theorem m_pledges_s {V : g_V} {x le lo : Int32} {n : Nat} : k_sm V (m_pledges V x le lo n).2 := by
  unfold m_pledges
  repeat' split
  all_goals first | exact k_sm.rfl | exact k_sm.rfl.w.w.w
theorem m_prices_s {V : g_V} {g x : Int32} : k_sm V (m_prices V g x).2 := by
  unfold m_prices
  repeat' split
  all_goals first | exact k_sm.rfl | exact k_sm.rfl.w
theorem m_calls_s {V : g_V} {le : Int32} {n : Nat} : k_sm V (m_calls V le n).2 := by
  unfold m_calls
  split
  · exact k_sm_iter1 (q := (V, (0 : Int32))) (fun _ _ => m_callStep_s) n
  · exact k_sm.rfl
theorem m_delivers_s {V : g_V} {x : Int32} {n : Nat} : k_sm V (m_delivers V x n).2 := by
  unfold m_delivers
  split
  · exact k_sm.rfl
  · split
    · exact k_sm.rfl
    · exact m_removes_s ((k_sm.rfl (V := V)).w.trans (m_delv_s _ _))
theorem m_lets_s {V : g_V} {d : Int32} {n : Nat} : k_sm V (m_lets V d n).2 := by
  unfold m_lets
  split
  · exact m_letN_s
  · exact k_sm.rfl
def m_called (V : g_V) (x : Int32) (n : Nat) : Int32 × g_V :=
  if x = 99 then m_calls V (V 5 0) n else if x = 100 then m_delivers V (V 5 0) n else if x = 108 then m_pledges V (V 5 0) (V 5 1) (V 5 2) n else if x = 112 then m_prices V (V 5 0) (V 5 1) else if x = 115 then m_stores V (V 5 0) (V 5 1) (V 5 2) n else m_lets V (V 5 0) n
theorem m_called_s {V : g_V} {x : Int32} {n : Nat} : k_sm V (m_called V x n).2 := by
  unfold m_called
  repeat' split
  all_goals first | exact m_calls_s | exact m_delivers_s | exact m_pledges_s | exact m_prices_s | exact m_stores_s | exact m_lets_s
/-- where the text is read, with its length -/
def m_Tq (V : g_V) (ln q : Nat) : Prop := V 0 5 = nI ln ∧ V 0 6 = nI q ∧ q ≤ ln ∧ ln ≤ 60
theorem m_Tq.T {V : g_V} {ln q : Nat} (h : m_Tq V ln q) : m_T V := ⟨ln, q, h⟩
def m_Tg (V : g_V) (ln q : Nat) : Prop := ∃ z, q ≤ z ∧ m_Tq V ln z
theorem m_Tg.T {V : g_V} {ln q : Nat} (h : m_Tg V ln q) : m_T V := h.choose_spec.2.T
theorem m_Tg.of {V W : g_V} {ln q : Nat} (h : m_Tg V ln q) (h5 : W 0 5 = V 0 5) (h6 : W 0 6 = V 0 6) : m_Tg W ln q := by
  obtain ⟨z, a, b, c, d⟩ := h
  exact ⟨z, a, h5.trans b, h6.trans c, d⟩
theorem m_Tg.step {V W : g_V} {ln q : Nat} (h : m_Tg V ln q) (hh : ¬ m_here V = -1) (h5 : W 0 5 = V 0 5) (h6 : W 0 6 = V 0 6 + 1) : m_Tg W ln (q + 1) := by
  obtain ⟨z, a, b, c, d, e⟩ := h
  refine ⟨z + 1, by omega, h5.trans b, by rw [h6, c]; exact nI_1 z, ?_, e⟩
  refine Nat.lt_of_le_of_ne d (fun i => hh ?_)
  unfold m_here
  rw [b, c, i, if_pos (Int32.le_refl _)]
theorem m_Tg.le {V : g_V} {ln q p : Nat} (h : m_Tg V ln q) (hp : p ≤ q) : m_Tg V ln p := by
  obtain ⟨z, a, b⟩ := h
  exact ⟨z, Nat.le_trans hp a, b⟩
theorem m_Tg_takes {V : g_V} {x : Int32} {ln q : Nat} (h : m_Tg V ln q) (hx : ¬ x = -1) : m_Tg (m_takes V x) ln q := by
  unfold m_takes
  split
  · exact h.of (by rw [w2_ne (by omega), w2_ne (by omega)]) (by rw [w2_at, Int32.add_zero])
  · split
    · next h1 => exact (h.step (fun z => hx (h1.symm.trans z)) (by rw [w2_ne (by omega), w2_ne (by omega)]) w2_at).le (Nat.le_succ q)
    · exact h.of (by rw [w2_ne (by omega), w2_ne (by omega)]) (by rw [w2_at, Int32.add_zero])
theorem m_Tg_num0 {V : g_V} {ln q : Nat} (h : m_Tg V ln q) : m_Tg (m_num0 V) ln q := by
  unfold m_num0
  repeat' split
  all_goals exact h.of (w2_ne (by omega)) (w2_ne (by omega))
theorem m_Tg_numN {ln p : Nat} : ∀ (j : Nat) (q : g_V × Int32), m_Tg q.1 ln p → m_Tg (m_numN j q).1 ln p
  | 0, _, h => h
  | j + 1, q, h => by
    rw [m_numN]
    split
    · exact h
    · split
      · next h2 => exact m_Tg_numN j (g_w2 q.1 0 6 (q.1 0 6 + 1), 10 * q.2 + m_here q.1 - 48) ((h.step (m_dig h2) (w2_ne (by omega)) w2_at).le (Nat.le_succ p))
      · exact h
theorem m_Tg_number {V : g_V} {ln q : Nat} (h : m_Tg V ln q) : m_Tg (m_number V).1 ln q := m_Tg_numN 6 _ (m_Tg_num0 h)
/-- rows and text stay as they are -/
def k_st (V W : g_V) : Prop := ∀ c, c ≠ 0 → c ≠ 5 → W c = V c
theorem k_st.rfl {V : g_V} : k_st V V := fun _ _ _ => Eq.refl _
theorem k_st.trans {U V W : g_V} (h1 : k_st U V) (h2 : k_st V W) : k_st U W := fun c hc hd => (h2 c hc hd).trans (h1 c hc hd)
theorem k_st.w {V W : g_V} (h : k_st V W) {k : Nat} {x : Int32} : k_st V (g_w2 W 0 k x) := fun c hc hd => (w2_c hc).trans (h c hc hd)
theorem k_st.w5 {V W : g_V} (h : k_st V W) {k : Nat} {x : Int32} : k_st V (g_w2 W 5 k x) := fun c hc hd => (w2_c hd).trans (h c hc hd)
theorem m_takes_t {V : g_V} {x : Int32} : k_st V (m_takes V x) := by
  unfold m_takes
  repeat' split
  all_goals exact k_st.rfl.w.w
theorem m_numN_t : ∀ (j : Nat) (q : g_V × Int32), k_st q.1 (m_numN j q).1
  | 0, _ => k_st.rfl
  | j + 1, q => by
    rw [m_numN]
    split
    · exact k_st.rfl
    · split
      · exact (k_st.rfl.w (V := q.1)).trans (m_numN_t j (g_w2 q.1 0 6 (q.1 0 6 + 1), 10 * q.2 + m_here q.1 - 48))
      · exact k_st.rfl
theorem m_number_t {V : g_V} : k_st V (m_number V).1 := by
  refine k_st.trans ?_ (m_numN_t 6 (m_num0 V, 0))
  show k_st V (m_num0 V)
  unfold m_num0
  repeat' split
  all_goals exact k_st.rfl.w
def m_oneN (k : Nat) (V : g_V) : g_V :=
  if 0 < k then g_w2 (m_number (m_takes V 44)).1 5 k (m_number (m_takes V 44)).2 else g_w2 (m_number V).1 5 k (m_number V).2
theorem m_oneN_t {k : Nat} {V : g_V} : k_st V (m_oneN k V) := by
  unfold m_oneN
  split
  · exact (m_takes_t.trans m_number_t).w5
  · exact m_number_t.w5
theorem m_Tg_one {k : Nat} {V : g_V} {ln q : Nat} (h : m_Tg V ln q) : m_Tg (m_oneN k V) ln q := by
  unfold m_oneN
  split
  · exact (m_Tg_number (m_Tg_takes h (by decide))).of (w2_ne (by omega)) (w2_ne (by omega))
  · exact (m_Tg_number h).of (w2_ne (by omega)) (w2_ne (by omega))
def m_from (V : g_V) : g_V := g_w2 V 0 7 (V 0 6)
def m_sign (V : g_V) : Int32 := m_here (m_from V)
def m_isF (V : g_V) : Int32 := if 0 < m_wants (m_sign V) then 1 else 0
def m_f3 (V : g_V) : g_V := g_w2 (g_w2 (m_from V) 0 10 (m_isF V)) 0 6 (V 0 6 + (if m_isF V = 0 then 0 else 1))
def m_read (V : g_V) : g_V := m_takes (k_iter m_oneN (m_f3 V) (m_wants (m_sign V)).toNatClampNeg) 59
def m_told (V : g_V) : Int32 × g_V := m_called (m_read V) (m_sign V) (m_read V 1 0).toNatClampNeg
def m_next (V : g_V) : g_V := g_w2 (g_w2 (m_told V).2 0 9 (m_told V).1) 0 8 ((m_told V).2 0 8 + 1)
def m_doesN : Nat → g_V → Int32 × g_V
  | 0, V => (1, V)
  | j + 1, V => if V 0 5 ≤ V 0 6 then (1, V) else if m_read V 0 10 = 0 then (0, g_w2 (m_read V) 0 9 0) else if (m_told V).2 0 10 = 0 then (0, g_w2 (m_told V).2 0 9 (m_told V).1) else if -2000000001 < (m_told V).1 then m_doesN j (m_next V) else (0, g_w2 (m_told V).2 0 9 (m_told V).1)
def m_does (V : g_V) : Int32 × g_V := m_doesN 61 (g_w2 (g_w2 V 0 6 0) 0 8 0)
theorem m_read_t {V : g_V} : k_st V (m_read V) := by
  have h1 : ∀ n, k_st (m_f3 V) (k_iter m_oneN (m_f3 V) n) := fun n => by
    induction n with
    | zero => exact k_st.rfl
    | succ n ih => exact ih.trans m_oneN_t
  have h0 : k_st V (m_f3 V) := k_st.rfl.w.w.w
  exact (h0.trans (h1 _)).trans m_takes_t
theorem m_wants_n (x : Int32) : ∃ w : Nat, w ≤ 3 ∧ m_wants x = nI w := by
  unfold m_wants
  repeat' split
  · exact ⟨3, by decide, rfl⟩
  · exact ⟨2, by decide, rfl⟩
  · exact ⟨3, by decide, rfl⟩
  · exact ⟨1, by decide, rfl⟩
  · exact ⟨1, by decide, rfl⟩
  · exact ⟨1, by decide, rfl⟩
  · exact ⟨0, by decide, rfl⟩
