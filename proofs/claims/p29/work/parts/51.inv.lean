/-! ===== totals of integers; what the reference's row keeps ===== -/
def z_tot (f : Nat → Int) (n : Nat) : Int := k_fold (· + ·) (0 : Int) f n
theorem z_tot_0 {f : Nat → Int} : z_tot f 0 = 0 := rfl
theorem z_tot_s {f : Nat → Int} {n : Nat} : z_tot f (n + 1) = z_tot f n + f n := rfl
theorem z_tot_congr {f g : Nat → Int} {n : Nat} (h : ∀ i, i < n → f i = g i) : z_tot f n = z_tot g n := k_fold_congr h
theorem z_tot_pos {f : Nat → Int} : ∀ {n : Nat}, (∀ i, i < n → 0 ≤ f i) → 0 ≤ z_tot f n
  | 0, _ => Int.le_refl 0
  | n + 1, h => by
    have h1 := z_tot_pos (f := f) (n := n) (fun i hi => h i (by omega))
    have h2 := h n (by omega)
    rw [z_tot_s]
    omega
theorem z_tot_le {f g : Nat → Int} : ∀ {n : Nat}, (∀ i, i < n → f i ≤ g i) → z_tot f n ≤ z_tot g n
  | 0, _ => Int.le_refl 0
  | n + 1, h => by
    have h1 := z_tot_le (f := f) (g := g) (n := n) (fun i hi => h i (by omega))
    have h2 := h n (by omega)
    rw [z_tot_s, z_tot_s]
    omega
theorem z_tot_bd {f : Nat → Int} {c : Int} : ∀ {n : Nat}, (∀ i, i < n → f i ≤ c) → z_tot f n ≤ c * n
  | 0, _ => by rw [z_tot_0]; simp
  | n + 1, h => by
    have h1 := z_tot_bd (f := f) (c := c) (n := n) (fun i hi => h i (by omega))
    have h2 := h n (by omega)
    rw [z_tot_s]
    have h3 : c * ((n + 1 : Nat) : Int) = c * n + c := by rw [Int.natCast_add, Int.mul_add]; simp
    omega
/-- one term changes -/
theorem z_tot_one {f g : Nat → Int} {k : Nat} : ∀ {n : Nat}, k < n → (∀ i, i < n → i ≠ k → f i = g i) → z_tot f n + g k = z_tot g n + f k
  | 0, h, _ => absurd h (Nat.not_lt_zero k)
  | n + 1, h, he => by
    rw [z_tot_s, z_tot_s]
    by_cases hk : k = n
    · subst hk
      rw [z_tot_congr (g := g) (fun i hi => he i (by omega) (by omega))]
      omega
    · have h1 := z_tot_one (n := n) (show k < n by omega) (fun i hi hne => he i (by omega) hne)
      have h2 := he n (by omega) (fun z => hk z.symm)
      omega
theorem z_tot_ge {f : Nat → Int} {k n : Nat} (hk : k < n) (h : ∀ i, i < n → 0 ≤ f i) : f k ≤ z_tot f n := by
  have h1 := z_tot_one (f := f) (g := fun i => if i = k then 0 else f i) hk (fun i _ hne => (if_neg hne).symm)
  have h2 : 0 ≤ z_tot (fun i => if i = k then 0 else f i) n := z_tot_pos (fun i hi => by
    split
    · exact Int.le_refl 0
    · exact h i hi)
  simp only [if_true] at h1
  omega
/-- two terms together -/
theorem z_tot_ge2 {f : Nat → Int} {k k' n : Nat} (hk : k < n) (hk' : k' < n) (hne : k ≠ k') (h : ∀ i, i < n → 0 ≤ f i) : f k + f k' ≤ z_tot f n := by
  have h1 := z_tot_one (f := f) (g := fun i => if i = k then 0 else f i) hk (fun i _ hne => (if_neg hne).symm)
  have h2 := z_tot_ge (f := fun i => if i = k then 0 else f i) hk' (fun i hi => by
    split
    · exact Int.le_refl 0
    · exact h i hi)
  simp only [if_true] at h1
  rw [if_neg (fun z => hne z.symm)] at h2
  omega
/-- one term is gone, the later ones come one place down -/
theorem z_tot_gone {f : Nat → Int} {a : Nat} : ∀ {n : Nat}, a < n → z_tot (fun k => f (if k < a then k else k + 1)) (n - 1) + f a = z_tot f n
  | 0, h => absurd h (Nat.not_lt_zero a)
  | n + 1, h => by
    rw [z_tot_s, Nat.add_sub_cancel]
    by_cases hk : a = n
    · subst hk
      rw [z_tot_congr (g := f) (fun i hi => by rw [if_pos hi])]
    · have h1 := z_tot_gone (f := f) (n := n) (show a < n by omega)
      obtain ⟨m, rfl⟩ : ∃ m, n = m + 1 := ⟨n - 1, by omega⟩
      rw [Nat.add_sub_cancel] at h1
      rw [z_tot_s, if_neg (by omega)]
      omega
def y_row (S : Nat → Int32) (k : Nat) : Prop :=
  (0 ≤ (S (34 + 7 * k + 1)).toInt ∧ (S (34 + 7 * k + 1)).toInt ≤ 7) ∧ (0 ≤ (S (34 + 7 * k + 2)).toInt ∧ (S (34 + 7 * k + 2)).toInt ≤ 2) ∧ 1 ≤ (S (34 + 7 * k + 3)).toInt ∧ (-1 ≤ (S (34 + 7 * k + 4)).toInt ∧ (S (34 + 7 * k + 4)).toInt ≤ 2) ∧ (0 ≤ (S (34 + 7 * k + 5)).toInt ∧ (S (34 + 7 * k + 5)).toInt ≤ 990000) ∧ (0 ≤ (S (34 + 7 * k + 6)).toInt ∧ (S (34 + 7 * k + 6)).toInt ≤ 30) ∧ (0 < (S (34 + 7 * k + 6)).toInt → 0 ≤ (S (34 + 7 * k + 4)).toInt)
def y_set (S : Nat → Int32) : Prop := (10 ≤ (S 6).toInt ∧ (S 6).toInt ≤ 100) ∧ (10 ≤ (S 7).toInt ∧ (S 7).toInt ≤ 150) ∧ (1 ≤ (S 8).toInt ∧ (S 8).toInt ≤ 30) ∧ (0 ≤ (S 9).toInt ∧ (S 9).toInt ≤ 20) ∧ ∀ j, j < 3 → 1 ≤ (S (10 + j)).toInt ∧ (S (10 + j)).toInt ≤ 99
def y_bins (S : Nat → Int32) : Prop := ∀ b, b < 5 → (0 ≤ (S (24 + 2 * b)).toInt ∧ (S (24 + 2 * b)).toInt ≤ 2) ∧ 0 ≤ (S (24 + 2 * b + 1)).toInt ∧ (S (24 + 2 * b + 1)).toInt ≤ 2000
def y_term (S : Nat → Int32) (g : Int) (k : Nat) : Int := if (S (34 + 7 * k + 2)).toInt ≤ g then (S (34 + 7 * k + 3)).toInt else 0
def y_bterm (S : Nat → Int32) (g : Int) (b : Nat) : Int := if (S (24 + 2 * b)).toInt ≤ g then (S (24 + 2 * b + 1)).toInt else 0
def y_cov (S : Nat → Int32) (n : Nat) : Prop := ∀ g : Int, 0 ≤ g → g ≤ 2 → z_tot (y_term S g) n ≤ z_tot (y_bterm S g) 5
def y_1 (S : Nat → Int32) (n : Nat) : Prop := (S 0 = nI n ∧ n ≤ 16) ∧ (∀ k, k < n → y_row S k) ∧ y_set S ∧ y_bins S ∧ y_cov S n
/-- the numbers of receipts rise, and are below the next one -/
def y_2 (S : Nat → Int32) (n : Nat) (mb : Int) : Prop := (∀ k k', k < k' → k' < n → (S (34 + 7 * k)).toInt < (S (34 + 7 * k')).toInt) ∧ (∀ k, k < n → 0 ≤ (S (34 + 7 * k)).toInt ∧ (S (34 + 7 * k)).toInt < (S 2).toInt) ∧ 0 ≤ (S 2).toInt ∧ (S 2).toInt ≤ mb
def y_3 (S : Nat → Int32) (lo hi : Int) : Prop := ∀ o, o < 8 → lo ≤ (S (13 + o)).toInt ∧ (S (13 + o)).toInt ≤ hi
section YI
variable {S S' : Nat → Int32} {n k : Nat}
theorem y_1.n0 (h : y_1 S n) : S 0 = nI n := h.1.1
theorem y_1.n16 (h : y_1 S n) : n ≤ 16 := h.1.2
theorem y_1.row (h : y_1 S n) (hk : k < n) : y_row S k := h.2.1 k hk
theorem y_1.set (h : y_1 S n) : y_set S := h.2.2.1
theorem y_1.bins (h : y_1 S n) : y_bins S := h.2.2.2.1
theorem y_1.cov (h : y_1 S n) : y_cov S n := h.2.2.2.2
theorem y_row.of (h : y_row S k) (hS : ∀ j, j < 7 → S' (34 + 7 * k + j) = S (34 + 7 * k + j)) : y_row S' k := by
  unfold y_row
  rw [hS 1 (by decide), hS 2 (by decide), hS 3 (by decide), hS 4 (by decide), hS 5 (by decide), hS 6 (by decide)]
  exact h
theorem y_row.at {k' : Nat} (h : y_row S k) (hS : ∀ j, j < 7 → S' (34 + 7 * k' + j) = S (34 + 7 * k + j)) : y_row S' k' := by
  unfold y_row
  rw [hS 1 (by decide), hS 2 (by decide), hS 3 (by decide), hS 4 (by decide), hS 5 (by decide), hS 6 (by decide)]
  exact h
theorem y_set.of (h : y_set S) (hS : ∀ x, 6 ≤ x → x < 13 → S' x = S x) : y_set S' := by
  unfold y_set
  rw [hS 6 (by decide) (by decide), hS 7 (by decide) (by decide), hS 8 (by decide) (by decide), hS 9 (by decide) (by decide)]
  refine ⟨h.1, h.2.1, h.2.2.1, h.2.2.2.1, fun j hj => ?_⟩
  rw [hS (10 + j) (by omega) (by omega)]
  exact h.2.2.2.2 j hj
theorem y_bins.of (h : y_bins S) (hS : ∀ x, 24 ≤ x → x < 34 → S' x = S x) : y_bins S' := fun b hb => by
  rw [hS _ (by omega) (by omega), hS _ (by omega) (by omega)]
  exact h b hb
theorem y_bterm_of {g : Int} (hS : ∀ x, 24 ≤ x → x < 34 → S' x = S x) : z_tot (y_bterm S' g) 5 = z_tot (y_bterm S g) 5 := z_tot_congr (fun b hb => by
  unfold y_bterm
  rw [hS _ (by omega) (by omega), hS _ (by omega) (by omega)])
theorem y_term_of {g : Int} (h2 : ∀ k, k < n → S' (34 + 7 * k + 2) = S (34 + 7 * k + 2)) (h3 : ∀ k, k < n → S' (34 + 7 * k + 3) = S (34 + 7 * k + 3)) : z_tot (y_term S' g) n = z_tot (y_term S g) n := z_tot_congr (fun k hk => by
  unfold y_term
  rw [h2 k hk, h3 k hk])
/-- nothing that is kept is written -/
theorem y_1.misc (h : y_1 S n) (hS : ∀ x, x = 0 ∨ (6 ≤ x ∧ x < 13) ∨ 24 ≤ x → S' x = S x) : y_1 S' n := by
  refine ⟨⟨(hS 0 (Or.inl rfl)).trans h.n0, h.n16⟩, fun k hk => (h.row hk).of (fun j _ => hS _ (by omega)), h.set.of (fun x h1 h2 => hS x (by omega)), h.bins.of (fun x h1 h2 => hS x (by omega)), fun g h0 h2 => ?_⟩
  rw [y_term_of (fun k _ => hS _ (by omega)) (fun k _ => hS _ (by omega)), y_bterm_of (fun x h1 h2 => hS x (by omega))]
  exact h.cov g h0 h2
/-- settings or prices are written -/
theorem y_1.sets (h : y_1 S n) (hS : ∀ x, x = 0 ∨ 24 ≤ x → S' x = S x) (hs : y_set S') : y_1 S' n := by
  refine ⟨⟨(hS 0 (Or.inl rfl)).trans h.n0, h.n16⟩, fun k hk => (h.row hk).of (fun j _ => hS _ (by omega)), hs, h.bins.of (fun x h1 h2 => hS x (by omega)), fun g h0 h2 => ?_⟩
  rw [y_term_of (fun k _ => hS _ (by omega)) (fun k _ => hS _ (by omega)), y_bterm_of (fun x h1 h2 => hS x (by omega))]
  exact h.cov g h0 h2
/-- a row is written, but for its grade and its amount -/
theorem y_1.rows (h : y_1 S n) (hS : ∀ x, x = 0 ∨ (6 ≤ x ∧ x < 13) ∨ 24 ≤ x → x ≠ 34 + 7 * k + 1 → x ≠ 34 + 7 * k + 4 → x ≠ 34 + 7 * k + 5 → x ≠ 34 + 7 * k + 6 → S' x = S x) (hr : k < n → y_row S' k) : y_1 S' n := by
  refine ⟨⟨(hS 0 (by omega) (by omega) (by omega) (by omega) (by omega)).trans h.n0, h.n16⟩, fun i hi => ?_, h.set.of (fun x h1 h2 => hS x (by omega) (by omega) (by omega) (by omega) (by omega)), h.bins.of (fun x h1 h2 => hS x (by omega) (by omega) (by omega) (by omega) (by omega)), fun g h0 h2 => ?_⟩
  · by_cases e : i = k
    · subst e; exact hr hi
    · exact (h.row hi).of (fun j hj => hS _ (by omega) (by omega) (by omega) (by omega) (by omega))
  · rw [y_term_of (fun i _ => hS _ (by omega) (by omega) (by omega) (by omega) (by omega)) (fun i _ => hS _ (by omega) (by omega) (by omega) (by omega) (by omega)), y_bterm_of (fun x h1 h2 => hS x (by omega) (by omega) (by omega) (by omega) (by omega))]
    exact h.cov g h0 h2
theorem y_term_pos (h : y_1 S n) {g : Int} : ∀ k, k < n → 0 ≤ y_term S g k := fun k hk => by
  have := (h.row hk).2.2.1
  unfold y_term
  split <;> omega
theorem y_bterm_pos (h : y_bins S) {g : Int} : ∀ b, b < 5 → 0 ≤ y_bterm S g b := fun b hb => by
  have := (h b hb).2.1
  unfold y_bterm
  split <;> omega
theorem y_B_le (h : y_bins S) {g : Int} : z_tot (y_bterm S g) 5 ≤ 10000 := z_tot_bd (c := 2000) (n := 5) (fun b hb => by
  have := (h b hb).2
  unfold y_bterm
  split <;> omega)
theorem y_1.amt (h : y_1 S n) (hk : k < n) : (S (34 + 7 * k + 3)).toInt ≤ 10000 := by
  have h1 : y_term S 2 k ≤ z_tot (y_term S 2) n := z_tot_ge hk (y_term_pos h)
  have h2 := h.cov 2 (by decide) (by decide)
  have h3 := y_B_le h.bins (g := 2)
  have h4 := (h.row hk).2.1.2
  have h5 : y_term S 2 k = (S (34 + 7 * k + 3)).toInt := if_pos h4
  omega
theorem y_2.of {mb : Int} (h : y_2 S n mb) (h2 : S' 2 = S 2) (hS : ∀ k, k < n → S' (34 + 7 * k) = S (34 + 7 * k)) : y_2 S' n mb := by
  refine ⟨fun k k' h3 h4 => ?_, fun k hk => ?_, ?_⟩
  · rw [hS k (by omega), hS k' h4]; exact h.1 k k' h3 h4
  · rw [hS k hk, h2]; exact h.2.1 k hk
  · rw [h2]; exact h.2.2
theorem y_2.mono {mb mb' : Int} (h : y_2 S n mb) (hm : mb ≤ mb') : y_2 S n mb' := ⟨h.1, h.2.1, h.2.2.1, by have := h.2.2.2; omega⟩
theorem y_3.of {lo hi : Int} (h : y_3 S lo hi) (hS : ∀ o, o < 8 → S' (13 + o) = S (13 + o)) : y_3 S' lo hi := fun o ho => by rw [hS o ho]; exact h o ho
theorem y_3.mono {lo hi lo' hi' : Int} (h : y_3 S lo hi) (h1 : lo' ≤ lo) (h2 : hi ≤ hi') : y_3 S lo' hi' := fun o ho => by have := h o ho; omega
theorem y_2.eq {mb : Int} (h : y_2 S n mb) {k k' : Nat} (hk : k < n) (hk' : k' < n) (e : S (34 + 7 * k) = S (34 + 7 * k')) : k = k' := by
  rcases Nat.lt_trichotomy k k' with h1 | h1 | h1
  · have := h.1 k k' h1 hk'; rw [e] at this; omega
  · exact h1
  · have := h.1 k' k h1 hk; rw [e] at this; omega
end YI
/-- what the reference's contracts want of its rows -/
theorem y_1.mN {W : g_V} {n : Nat} (h : y_1 (W 1) n) : m_N W n := ⟨h.n0, h.n16⟩
theorem z_lo {a : Int32} {N : Nat} (h0 : 0 ≤ a.toInt) (h1 : a.toInt < N) : ∃ j : Nat, j < N ∧ a = nI j := ⟨a.toInt.toNat, by omega, z_nI h0⟩
theorem y_1.okR {W : g_V} {n : Nat} (h : y_1 (W 1) n) : m_okR W n := fun k hk => by
  obtain ⟨h1, h2, -, h4, -⟩ := h.row hk
  refine ⟨z_lo h1.1 (by omega), z_lo h2.1 (by omega), ?_⟩
  by_cases e : (W 1 (34 + 7 * k + 4)).toInt = -1
  · exact Or.inl (z_ext e)
  · exact Or.inr (z_lo (by omega) (by omega))
theorem z_pos {a : Int32} (h : ¬ a ≤ 0) : 0 < a.toInt := by
  rw [Int32.le_iff_toInt_le, Int32.toInt_zero] at h
  omega
theorem y_1.okL {W : g_V} {n : Nat} (h : y_1 (W 1) n) : m_okL W n := fun k hk hl => by
  obtain ⟨-, -, -, h4, -, -, h7⟩ := h.row hk
  have := h7 (z_pos hl)
  exact z_lo this (by omega)
theorem y_1.okG {W : g_V} {n : Nat} (h : y_1 (W 1) n) : m_okG W := fun b hb => by
  obtain ⟨h1, -⟩ := h.bins b hb
  exact z_lo h1.1 (by omega)
theorem z_L.okG {V : g_V} {S : Nat → Int32} {n : Nat} {g : Nat → Nat} (hL : z_L V S n g) (h : y_1 S n) : q_okG V := fun b hb => by
  obtain ⟨h1, -⟩ := h.bins b hb
  obtain ⟨j, hj, e⟩ := z_lo (N := 3) h1.1 (by omega)
  exact ⟨j, hj, (hL.bin hb (by decide)).trans e⟩
theorem z_L.okR {V : g_V} {S : Nat → Int32} {n : Nat} {g : Nat → Nat} (hL : z_L V S n g) (h : y_1 S n) : q_okR V := fun i hi => by
  rcases hL.cases hi with z | ⟨k, hk, rfl⟩
  · exact ⟨0, by decide, z.2.2.1⟩
  · obtain ⟨-, h2, -⟩ := h.row hk
    obtain ⟨j, hj, e⟩ := z_lo (N := 3) h2.1 (by omega)
    exact ⟨j, hj, (hL.row hk (by decide)).trans e⟩
