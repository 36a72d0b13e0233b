/-! ===== looking up; what two answers must show ===== -/
theorem k_last_none {f : Nat → Bool} : ∀ {n : Nat}, k_last f n = none → ∀ i, i < n → f i = false
  | 0, _, i, hi => absurd hi (Nat.not_lt_zero i)
  | n + 1, h, i, hi => by
    rw [k_last] at h
    by_cases hf : f n = true
    · rw [if_pos hf] at h; cases h
    · rw [if_neg hf] at h
      by_cases e : i = n
      · subst e; simpa using hf
      · exact k_last_none h i (by omega)
section ZK
variable {V V' W W' : g_V} {S S' : Nat → Int32} {n n' : Nat} {g : Nat → Nat} {mb lo hi : Int}
theorem z_used (hL : z_L V S n g) (h2 : y_2 S n mb) {k : Nat} (hk : k < n) : q_used V (g k) := by
  have h3 := (h2.2.1 k hk).1
  intro e
  have e1 := hL.row hk (j := 0) (by decide)
  rw [Nat.add_zero] at e1
  rw [← e1, e, show (-1 : Int32).toInt = -1 from rfl] at h3
  omega
theorem z_unused {i : Nat} (h : z_free V i) : ¬ q_used V i := fun z => z h.1
theorem z_find {x : Int32} (hL : z_L V (W 1) n g) (h2 : y_2 (W 1) n mb) : q_find V x = (m_place W x n).map g := by
  unfold q_find m_place
  cases hp : k_last (fun k => decide (W 1 (34 + 7 * k + 0) = x)) n with
  | none =>
    refine k_find_none.mpr (fun i hi => ?_)
    have h1 := k_last_none hp
    refine decide_eq_false (fun z => ?_)
    rcases hL.cases hi with h | ⟨k, hk, rfl⟩
    · exact z_unused h z.1
    · have h3 := of_decide_eq_false (h1 k hk)
      exact h3 ((hL.row hk (by decide)).symm.trans z.2)
  | some k =>
    obtain ⟨hk, hx⟩ := k_last_lt hp
    have hx := of_decide_eq_true hx
    refine k_find_at (hL.g16 hk) (decide_eq_true ⟨z_used hL h2 hk, (hL.row hk (by decide)).trans hx⟩) (fun j hj => decide_eq_false (fun z => ?_))
    rcases hL.cases (show j < 16 by have := hL.g16 hk; omega) with h | ⟨k', hk', rfl⟩
    · exact z_unused h z.1
    · have e := (hL.row hk' (j := 0) (by decide)).symm.trans (z.2.trans hx.symm)
      have := h2.eq hk' hk e
      rw [this] at hj
      omega
theorem z_place {x : Int32} {k : Nat} (h : m_place W x n = some k) : k < n ∧ W 1 (34 + 7 * k) = x := by
  obtain ⟨a, b⟩ := k_last_lt h
  exact ⟨a, of_decide_eq_true b⟩
/-- how many places are taken -/
theorem z_many (hL : z_L V S n g) (h2 : y_2 S n mb) : z_tot (fun i => if q_used V i then 1 else 0) 16 = n := by
  have h1 : z_tot (fun i => if q_used V i then (1 : Int) else 0) 16 = z_tot (fun k => if q_used V (g k) then (1 : Int) else 0) n :=
    k_fold_map (f := fun i => if q_used V i then (1 : Int) else 0) (g := g) Int.add_comm Int.add_assoc Int.add_zero (fun k hk => hL.g16 hk) (fun k k' hk hk' => hL.inj hk hk') (fun i hi hk => if_neg (z_unused (hL.fr hi hk)))
  rw [h1, z_tot_congr (g := fun _ => 1) (fun k hk => if_pos (z_used hL h2 hk))]
  clear h1 h2 hL
  induction n with
  | zero => rfl
  | succ n ih => rw [z_tot_s, ih]; omega
theorem z_freeP (hL : z_L V S n g) (h2 : y_2 S n mb) : (n = 16 ∧ q_freePlace V = none) ∨ (n < 16 ∧ ∃ i, i < 16 ∧ q_freePlace V = some i ∧ ∀ k, k < n → g k ≠ i) := by
  have h3 := z_many hL h2
  cases hp : q_freePlace V with
  | none =>
    refine Or.inl ⟨?_, rfl⟩
    have h1 := k_find_none.mp hp
    rw [z_tot_congr (g := fun _ => 1) (fun i hi => if_pos (by have := of_decide_eq_false (h1 i hi); exact Decidable.not_not.mp this))] at h3
    have h4 : z_tot (fun _ => (1 : Int)) 16 = 16 := by decide
    omega
  | some i =>
    obtain ⟨hi, hu, -⟩ := k_find_some hp
    have hu := of_decide_eq_true hu
    have hni : ∀ k, k < n → g k ≠ i := fun k hk z => hu (by rw [← z]; exact z_used hL h2 hk)
    refine Or.inr ⟨?_, i, hi, rfl, hni⟩
    have h4 := z_tot_one (f := fun i => if q_used V i then (1 : Int) else 0) (g := fun q => if q = i then 1 else if q_used V q then (1 : Int) else 0) hi (fun q _ hne => (if_neg hne).symm)
    have h5 := z_tot_bd (f := fun q => if q = i then 1 else if q_used V q then (1 : Int) else 0) (c := 1) (n := 16) (fun q _ => by
      split
      · exact Int.le_refl 1
      · split <;> omega)
    simp only [if_true] at h4
    rw [if_neg hu] at h4
    omega
/-- the two sides, with what the reference's row keeps -/
def z_R (V : g_V) (S : Nat → Int32) (n : Nat) (mb lo hi : Int) : Prop := ∃ g, z_L V S n g ∧ y_1 S n ∧ y_2 S n mb ∧ y_3 S lo hi
def z_err (a : Int32) : Prop := a = -2000000001 ∨ a = -2000000002 ∨ a = -2000000003
def z_good (a : Int32) : Prop := -2000000001 < a.toInt
def z_S (V W : g_V) (a b : Int32 × g_V) (mb lo hi : Int) : Prop := a.1 = b.1 ∧ ((z_err b.1 ∧ a.2 = V ∧ b.2 = W) ∨ (z_good b.1 ∧ ∃ n, z_R a.2 (b.2 1) n mb lo hi))
theorem z_S.e1 : z_S V W (-2000000001, V) (-2000000001, W) mb lo hi := ⟨rfl, Or.inl ⟨Or.inl rfl, rfl, rfl⟩⟩
theorem z_S.e2 : z_S V W (-2000000002, V) (-2000000002, W) mb lo hi := ⟨rfl, Or.inl ⟨Or.inr (Or.inl rfl), rfl, rfl⟩⟩
theorem z_S.e3 : z_S V W (-2000000003, V) (-2000000003, W) mb lo hi := ⟨rfl, Or.inl ⟨Or.inr (Or.inr rfl), rfl, rfl⟩⟩
theorem z_S.ok {a a' : Int32} (e : a = a') (h : z_good a') (hR : z_R V' (W' 1) n mb lo hi) : z_S V W (a, V') (a', W') mb lo hi := ⟨e, Or.inr ⟨h, n, hR⟩⟩
theorem z_R.mono {mb' lo' hi' : Int} (h : z_R V S n mb lo hi) (h1 : mb ≤ mb') (h2 : lo' ≤ lo) (h3 : hi ≤ hi') : z_R V S n mb' lo' hi' := by
  obtain ⟨g, a, b, c, d⟩ := h
  exact ⟨g, a, b, c.mono h1, d.mono h2 h3⟩
theorem z_good_n {a : Nat} (h : a < 2 ^ 31) : z_good (nI a) := by
  unfold z_good
  rw [nI_toInt h]
  omega
theorem z_good_0 {a : Int32} (h : 0 ≤ a.toInt) : z_good a := by unfold z_good; omega
theorem z_err_k {a : Int32} (h : z_err a) : k_isError a ∧ ¬ -2000000001 < a := by
  rcases h with rfl | rfl | rfl <;> decide
theorem z_good_k {a : Int32} (h : z_good a) : ¬ k_isError a ∧ -2000000001 < a := by
  unfold z_good at h
  have h1 : (-2000000001 : Int32).toInt = -2000000001 := rfl
  have h2 : (-2000000001 : Int32) < a := by rw [Int32.lt_iff_toInt_lt, h1]; exact h
  exact ⟨fun z => z.2 h2, h2⟩
end ZK
/-! ===== ranges ===== -/
theorem z_i1 : (1 : Int32).toInt = 1 := rfl
theorem z_i0 : (0 : Int32).toInt = 0 := rfl
theorem z_in3 {x : Int32} : m_in x 0 2 ↔ k_in x 3 := by
  unfold m_in k_in
  simp only [Int32.lt_iff_toInt_lt, Int32.le_iff_toInt_le, show (3 : Int32).toInt = 3 from rfl, show (2 : Int32).toInt = 2 from rfl, z_i0]
  omega
theorem z_in5 {x : Int32} : m_in x 0 4 ↔ k_in x 5 := by
  unfold m_in k_in
  simp only [Int32.lt_iff_toInt_lt, Int32.le_iff_toInt_le, show (5 : Int32).toInt = 5 from rfl, show (4 : Int32).toInt = 4 from rfl, z_i0]
  omega
theorem z_in8 {x : Int32} : m_in x 0 7 ↔ k_in x 8 := by
  unfold m_in k_in
  simp only [Int32.lt_iff_toInt_lt, Int32.le_iff_toInt_le, show (8 : Int32).toInt = 8 from rfl, show (7 : Int32).toInt = 7 from rfl, z_i0]
  omega
theorem z_in4 {x : Int32} : m_in x 0 3 ↔ k_in x 4 := by
  unfold m_in k_in
  simp only [Int32.lt_iff_toInt_lt, Int32.le_iff_toInt_le, show (4 : Int32).toInt = 4 from rfl, show (3 : Int32).toInt = 3 from rfl, z_i0]
  omega
theorem z_lt {a b : Int32} : ¬ a < b ↔ b ≤ a := Int32.not_lt
theorem z_le {a b : Int32} : ¬ a ≤ b ↔ b < a := Int32.not_le
theorem z_cl {x m : Int32} {N : Nat} (h : k_in x m) (hm : m.toInt = N) : x.toNatClampNeg < N ∧ x = nI x.toNatClampNeg ∧ x.toInt = x.toNatClampNeg := by
  have h1 := k_in_ti h
  have h2 : x.toNatClampNeg = x.toInt.toNat := rfl
  have h3 := Int32.toInt_lt x
  refine ⟨by omega, ?_, by omega⟩
  rw [h2]
  exact z_nI h1.1
