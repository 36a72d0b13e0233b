/-! ===== the reference: orders' plain functions ===== -/
theorem m_nI {x b : Int32} {N : Nat} (h : m_in x 0 b) (hb : b.toInt = N) : ∃ j : Nat, j ≤ N ∧ x = nI j := by
  obtain ⟨h1, h2⟩ := h
  rw [Int32.lt_iff_toInt_lt, Int32.toInt_zero] at h1
  rw [Int32.lt_iff_toInt_lt, hb] at h2
  refine ⟨x.toInt.toNat, by omega, Int32.toInt_inj.mp ?_⟩
  have hb := Int32.toInt_lt x
  rw [nI_toInt (by omega)]
  omega
theorem m_nI1 {x b : Int32} {N : Nat} (h : m_in x 1 b) (hb : b.toInt = N) : ∃ j : Nat, (1 ≤ j ∧ j ≤ N) ∧ x = nI j := by
  obtain ⟨h1, h2⟩ := h
  rw [Int32.lt_iff_toInt_lt, show (1 : Int32).toInt = 1 from rfl] at h1
  rw [Int32.lt_iff_toInt_lt, hb] at h2
  refine ⟨x.toInt.toNat, by omega, Int32.toInt_inj.mp ?_⟩
  have hb := Int32.toInt_lt x
  rw [nI_toInt (by omega)]
  omega
theorem k_pos {x a : Int32} (h1 : 1 ≤ a) (h2 : a < x) : 0 < x := by
  rw [Int32.le_iff_toInt_le, show (1 : Int32).toInt = 1 from rfl] at h1
  rw [Int32.lt_iff_toInt_lt] at h2
  rw [Int32.lt_iff_toInt_lt, Int32.toInt_zero]
  omega
/-- what the reference's rows keep -/
def m_okR (V : g_V) (n : Nat) : Prop := ∀ k, k < n → (∃ o : Nat, o < 8 ∧ V 1 (34 + 7 * k + 1) = nI o) ∧ (∃ g : Nat, g < 3 ∧ V 1 (34 + 7 * k + 2) = nI g) ∧ (V 1 (34 + 7 * k + 4) = -1 ∨ ∃ t : Nat, t < 3 ∧ V 1 (34 + 7 * k + 4) = nI t)
def m_okL (V : g_V) (n : Nat) : Prop := ∀ k, k < n → ¬ V 1 (34 + 7 * k + 6) ≤ 0 → ∃ t : Nat, t < 3 ∧ V 1 (34 + 7 * k + 4) = nI t
theorem m_frees_ne {V : g_V} {a j : Nat} (h : j < 34 + 7 * a + 4 ∨ 34 + 7 * a + 7 ≤ j) : m_frees V a 1 j = V 1 j := by
  unfold m_frees
  rw [w2_ne (by omega), w2_ne (by omega), w2_ne (by omega)]
theorem m_makes_lo {V : g_V} {o g a : Int32} {n j : Nat} (h : 3 ≤ j) (h2 : j < 34 + 7 * n) : m_makes V o g a n 1 j = V 1 j := by
  unfold m_makes
  rw [w2_ne (by omega), m_frees_ne (by omega), w2_ne (by omega), w2_ne (by omega), w2_ne (by omega), w2_ne (by omega), w2_ne (by omega)]
def m_fpart (W : g_V) (left : Int32) (k : Nat) : Int32 := if left ≤ 2000 - W 1 (24 + 2 * k + 1) then left else 2000 - W 1 (24 + 2 * k + 1)
def m_fillStep (g : Int32) (k : Nat) (q : g_V × Int32) : g_V × Int32 := if q.1 1 (24 + 2 * k) = g then (m_moves q.1 k (m_fpart q.1 q.2 k), q.2 - m_fpart q.1 q.2 k) else q
def m_part (W : g_V) (g left : Int32) (k : Nat) : Int32 := if W 1 (24 + 2 * k) = g then (if left ≤ W 1 (24 + 2 * k + 1) then left else W 1 (24 + 2 * k + 1)) else 0
def m_delStep (g own : Int32) (k : Nat) (q : g_V × Int32 × Int32) : g_V × Int32 × Int32 :=
  (m_moves q.1 k (-(m_part q.1 g q.2.1 k)), q.2.1 - m_part q.1 g q.2.1 k, q.2.2 + (if own ≤ g then 0 else m_part q.1 g q.2.1 k))
def m_delv (own : Int32) : Nat → g_V × Int32 × Int32 → g_V × Int32 × Int32
  | 0, q => q
  | j + 1, q => m_delv own j (k_iter (m_delStep (nI j) own) q 5)
theorem m_delv_step {own : Int32} {k : Nat} (hk : 1 ≤ k) {q : g_V × Int32 × Int32} : m_delv own k q = m_delv own (k - 1) (k_iter (m_delStep (nI k - 1) own) q 5) := by
  cases k with
  | zero => omega
  | succ n => rw [m_delv, Nat.add_sub_cancel, nI_pred]
def m_delivers1 (V : g_V) (i : Nat) : g_V × Int32 × Int32 := m_delv (V 1 (34 + 7 * i + 2)) ((V 1 (34 + 7 * i + 2)).toNatClampNeg + 1) (g_w2 V 1 4 (V 1 4 + V 1 (34 + 7 * i + 3)), V 1 (34 + 7 * i + 3), 0)
def m_delivers (V : g_V) (x : Int32) (n : Nat) : Int32 × g_V :=
  match m_place V x n with
  | none => (-2000000001, V)
  | some i => if m_pledged V i then (-2000000002, V) else ((m_delivers1 V i).2.2, m_removes (m_delivers1 V i).1 n i)
abbrev m_would (V : g_V) (a : Nat) (le : Int32) : Prop := V 1 (34 + 7 * a + 4) = le ∧ V 1 (34 + 7 * a + 6) = 0 ∧ m_above V a
def m_callStep (le : Int32) (k : Nat) (q : g_V × Int32) : g_V × Int32 := if m_would q.1 k le then (g_w2 q.1 1 (34 + 7 * k + 6) (q.1 1 8), q.2 + 1) else q
def m_seizes (V : g_V) (a t : Nat) : g_V :=
  m_frees (g_w2 (g_w2 (g_w2 V 1 (21 + t) (V 1 (21 + t) + V 1 (34 + 7 * a + 5))) 1 3 ((g_w2 V 1 (21 + t) (V 1 (21 + t) + V 1 (34 + 7 * a + 5))) 1 3 + 1)) 1 (34 + 7 * a + 1) (nI (5 + t))) a
def m_dec (V : g_V) (k : Nat) : g_V := g_w2 V 1 (34 + 7 * k + 6) (V 1 (34 + 7 * k + 6) - 1)
def m_dayStep (k : Nat) (W : g_V) : g_V :=
  if W 1 (34 + 7 * k + 6) ≤ 0 then W else (if m_above (m_dec W k) k then (if (m_dec W k) 1 (34 + 7 * k + 6) = 0 then m_seizes (m_dec W k) k ((m_dec W k) 1 (34 + 7 * k + 4)).toNatClampNeg else m_dec W k) else g_w2 (m_dec W k) 1 (34 + 7 * k + 6) 0)
def m_days (V : g_V) (n : Nat) : g_V := k_iter m_dayStep V n
def m_day (V : g_V) (n : Nat) : g_V := g_w2 (m_days V n) 1 1 ((m_days V n) 1 1 + 1)
def m_letN (V : g_V) (n d : Nat) : g_V := k_iter (fun _ W => m_day W n) V d
theorem m_seizes_ne {V : g_V} {a t j : Nat} (ht : t < 3) (h : j < 34 + 7 * a ∨ 34 + 7 * a + 7 ≤ j) (h3 : j ≠ 3) (h4 : j < 21 ∨ 24 ≤ j) : m_seizes V a t 1 j = V 1 j := by
  unfold m_seizes
  rw [m_frees_ne (by omega), w2_ne (by omega), w2_ne (by omega), w2_ne (by omega)]
theorem m_seizes_l {V : g_V} {a t : Nat} : m_seizes V a t 1 (34 + 7 * a + 6) = 0 := by
  unfold m_seizes m_frees
  exact w2_at
theorem m_dayStep_ne {W : g_V} {k j : Nat} (ht : ¬ W 1 (34 + 7 * k + 6) ≤ 0 → ∃ t : Nat, t < 3 ∧ W 1 (34 + 7 * k + 4) = nI t) (h : j < 34 + 7 * k ∨ 34 + 7 * k + 7 ≤ j) (h3 : j ≠ 3) (h4 : j < 21 ∨ 24 ≤ j) : m_dayStep k W 1 j = W 1 j := by
  unfold m_dayStep
  by_cases c : W 1 (34 + 7 * k + 6) ≤ 0
  · rw [if_pos c]
  · obtain ⟨t, ht3, hte⟩ := ht c
    have e : (m_dec W k) 1 (34 + 7 * k + 4) = nI t := by unfold m_dec; rw [w2_ne (by omega)]; exact hte
    rw [if_neg c, e, nI_clamp (by omega)]
    have e2 : m_dec W k 1 j = W 1 j := by unfold m_dec; rw [w2_ne (by omega)]
    split
    · split
      · rw [m_seizes_ne ht3 h h3 h4, e2]
      · exact e2
    · rw [w2_ne (by omega), e2]
theorem m_dayStep_row {W : g_V} {k : Nat} (ht : ¬ W 1 (34 + 7 * k + 6) ≤ 0 → ∃ t : Nat, t < 3 ∧ W 1 (34 + 7 * k + 4) = nI t) : ¬ m_dayStep k W 1 (34 + 7 * k + 6) ≤ 0 → ∃ t : Nat, t < 3 ∧ m_dayStep k W 1 (34 + 7 * k + 4) = nI t := by
  unfold m_dayStep
  by_cases c : W 1 (34 + 7 * k + 6) ≤ 0
  · rw [if_pos c]; exact fun z => absurd c z
  · obtain ⟨t, ht3, hte⟩ := ht c
    have e : (m_dec W k) 1 (34 + 7 * k + 4) = nI t := by unfold m_dec; rw [w2_ne (by omega)]; exact hte
    rw [if_neg c]
    split
    · split
      · rw [m_seizes_l]; exact fun z => absurd (by decide) z
      · exact fun _ => ⟨t, ht3, e⟩
    · rw [w2_at]; exact fun z => absurd (by decide) z
theorem m_days_ok {V : g_V} {n : Nat} (hn : V 1 0 = nI n) (hL : m_okL V n) : ∀ k, k ≤ n → (m_days V k) 1 0 = nI n ∧ m_okL (m_days V k) n ∧ ∀ j, 34 + 7 * k ≤ j → (m_days V k) 1 j = V 1 j := by
  intro k
  induction k with
  | zero => exact fun _ => ⟨hn, hL, fun _ _ => rfl⟩
  | succ k ih =>
    intro hk
    obtain ⟨h1, h2, h3⟩ := ih (by omega)
    have e : m_days V (k + 1) = m_dayStep k (m_days V k) := by unfold m_days; rw [k_iter]
    have ht := h2 k (by omega)
    rw [e]
    refine ⟨by rw [m_dayStep_ne ht (by omega) (by omega) (by omega)]; exact h1, fun i hi => ?_, fun j hj => by rw [m_dayStep_ne ht (by omega) (by omega) (by omega)]; exact h3 j (by omega)⟩
    by_cases hik : i = k
    · subst hik; exact m_dayStep_row ht
    · rw [m_dayStep_ne ht (by omega) (by omega) (by omega), m_dayStep_ne ht (by omega) (by omega) (by omega)]
      exact h2 i hi
theorem m_day_ok {V : g_V} {n : Nat} (hn : V 1 0 = nI n) (hL : m_okL V n) : (m_day V n) 1 0 = nI n ∧ m_okL (m_day V n) n := by
  obtain ⟨h1, h2, -⟩ := m_days_ok hn hL n (Nat.le_refl n)
  unfold m_day
  refine ⟨by rw [w2_ne (by omega)]; exact h1, fun i hi => ?_⟩
  rw [w2_ne (by omega), w2_ne (by omega)]
  exact h2 i hi
