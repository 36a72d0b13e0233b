/-! ===== the pure part: sums over places and over rows ===== -/
def k_fold {α : Type} (op : α → α → α) (e : α) (f : Nat → α) : Nat → α
  | 0 => e
  | n + 1 => op (k_fold op e f n) (f n)
section ZF
variable {α : Type} {op : α → α → α} {e : α}
theorem k_fold_congr {f g : Nat → α} : ∀ {n : Nat}, (∀ i, i < n → f i = g i) → k_fold op e f n = k_fold op e g n
  | 0, _ => rfl
  | n + 1, h => by rw [k_fold, k_fold, k_fold_congr (fun i hi => h i (Nat.lt_succ_of_lt hi)), h n (Nat.lt_succ_self n)]
theorem k_fold_e {f : Nat → α} (he : ∀ a, op a e = a) : ∀ {n : Nat}, (∀ i, i < n → f i = e) → k_fold op e f n = e
  | 0, _ => rfl
  | n + 1, h => by rw [k_fold, k_fold_e he (fun i hi => h i (Nat.lt_succ_of_lt hi)), h n (Nat.lt_succ_self n), he]
theorem k_fold_pull {f : Nat → α} {j : Nat} (hc : ∀ a b, op a b = op b a) (ha : ∀ a b c, op (op a b) c = op a (op b c)) (he : ∀ a, op a e = a) : ∀ {n : Nat}, j < n → k_fold op e f n = op (k_fold op e (fun i => if i = j then e else f i) n) (f j)
  | 0, h => absurd h (Nat.not_lt_zero j)
  | n + 1, h => by
    by_cases hj : j = n
    · subst hj
      rw [k_fold, k_fold, if_pos rfl, he, k_fold_congr (g := fun i => if i = j then e else f i) (fun i hi => (if_neg (by omega)).symm)]
    · rw [k_fold, k_fold, k_fold_pull hc ha he (show j < n by omega), if_neg (fun z => hj z.symm), ha, ha, hc (f j)]
theorem k_fold_map {f : Nat → α} (hc : ∀ a b, op a b = op b a) (ha : ∀ a b c, op (op a b) c = op a (op b c)) (he : ∀ a, op a e = a) {N : Nat} {g : Nat → Nat} : ∀ {n : Nat} {f : Nat → α}, (∀ k, k < n → g k < N) → (∀ k k', k < n → k' < n → g k = g k' → k = k') → (∀ i, i < N → (∀ k, k < n → g k ≠ i) → f i = e) → k_fold op e f N = k_fold op e (fun k => f (g k)) n
  | 0, f, _, _, h => by
    rw [k_fold_e he (fun i hi => h i hi (fun k hk => absurd hk (Nat.not_lt_zero k)))]
    rfl
  | n + 1, f, h1, h2, h => by
    have hne : ∀ k, k < n → g k ≠ g n := fun k hk z => by have := h2 k n (by omega) (by omega) z; omega
    rw [k_fold, k_fold_pull hc ha he (h1 n (Nat.lt_succ_self n)), k_fold_map (f := f) hc ha he (n := n) (fun k hk => h1 k (by omega)) (fun k k' hk hk' => h2 k k' (by omega) (by omega)) (fun i hi hk => ?_)]
    · rw [k_fold_congr (g := fun k => f (g k)) (fun k hk => if_neg (hne k hk))]
    · by_cases hin : i = g n
      · rw [if_pos hin]
      · rw [if_neg hin]
        refine h i hi (fun q hq z => ?_)
        by_cases hqn : q = n
        · subst hqn; exact hin z.symm
        · exact hk q (by omega) z
end ZF
theorem k_sum_fold {f : Nat → Int32} : ∀ {n : Nat}, k_sum f n = k_fold (· + ·) 0 f n
  | 0 => rfl
  | n + 1 => by rw [k_sum, k_fold, k_sum_fold]
theorem k_sum_congr {f g : Nat → Int32} {n : Nat} (h : ∀ i, i < n → f i = g i) : k_sum f n = k_sum g n := by
  rw [k_sum_fold, k_sum_fold, k_fold_congr h]
theorem k_sum_map {f : Nat → Int32} {N n : Nat} {g : Nat → Nat} (h1 : ∀ k, k < n → g k < N) (h2 : ∀ k k', k < n → k' < n → g k = g k' → k = k') (h : ∀ i, i < N → (∀ k, k < n → g k ≠ i) → f i = 0) : k_sum f N = k_sum (fun k => f (g k)) n := by
  rw [k_sum_fold, k_sum_fold, k_fold_map (f := f) Int32.add_comm Int32.add_assoc Int32.add_zero h1 h2 h]
theorem k_sum_add {f g : Nat → Int32} : ∀ {n : Nat}, k_sum (fun i => f i + g i) n = k_sum f n + k_sum g n
  | 0 => rfl
  | n + 1 => by
    rw [k_sum, k_sum, k_sum, k_sum_add]
    grind
theorem k_sum_sub {f g : Nat → Int32} : ∀ {n : Nat}, k_sum (fun i => f i - g i) n = k_sum f n - k_sum g n
  | 0 => show (0 : Int32) = 0 - 0 by decide
  | n + 1 => by
    rw [k_sum, k_sum, k_sum, k_sum_sub]
    grind
theorem k_sum_zero {f : Nat → Int32} {n : Nat} (h : ∀ i, i < n → f i = 0) : k_sum f n = 0 := by
  rw [k_sum_fold]
  exact k_fold_e Int32.add_zero h
/-- some of them -/
theorem k_find_isSome {f : Nat → Bool} {n : Nat} : (k_find f n).isSome = true ↔ ∃ i, i < n ∧ f i = true := by
  constructor
  · intro h
    obtain ⟨i, hi⟩ := Option.isSome_iff_exists.mp h
    obtain ⟨a, b, -⟩ := k_find_some hi
    exact ⟨i, a, b⟩
  · rintro ⟨i, a, b⟩
    cases h : k_find f n with
    | some j => rfl
    | none => rw [k_find_none.mp h i a] at b; cases b
/-! ===== ints as integers ===== -/
theorem z_bm {x : Int} (h1 : -2147483648 ≤ x) (h2 : x < 2147483648) : x.bmod (2 ^ 32) = x := Int.bmod_eq_of_le (by omega) (by omega)
theorem z_add {a b : Int32} (h1 : -2147483648 ≤ a.toInt + b.toInt) (h2 : a.toInt + b.toInt < 2147483648) : (a + b).toInt = a.toInt + b.toInt := by rw [Int32.toInt_add, z_bm h1 h2]
theorem z_sub {a b : Int32} (h1 : -2147483648 ≤ a.toInt - b.toInt) (h2 : a.toInt - b.toInt < 2147483648) : (a - b).toInt = a.toInt - b.toInt := by rw [Int32.toInt_sub, z_bm h1 h2]
theorem z_neg {a : Int32} (h1 : -2147483648 < a.toInt) : (-a).toInt = -a.toInt := by
  rw [Int32.toInt_neg]
  have := Int32.toInt_lt a
  exact z_bm (by omega) (by omega)
theorem z_mul {a b : Int32} (h1 : -2147483648 ≤ a.toInt * b.toInt) (h2 : a.toInt * b.toInt < 2147483648) : (a * b).toInt = a.toInt * b.toInt := by rw [Int32.toInt_mul, z_bm h1 h2]
theorem z_div {a b : Int32} (h0 : 0 ≤ a.toInt) (hb : 0 < b.toInt) : (a / b).toInt = a.toInt / b.toInt := by
  have h1 := Int32.toInt_lt a
  rw [Int32.toInt_div, Int.tdiv_eq_ediv_of_nonneg h0]
  have h2 : 0 ≤ a.toInt / b.toInt := Int.ediv_nonneg h0 (by omega)
  have h3 : a.toInt / b.toInt ≤ a.toInt := Int.ediv_le_self _ h0
  exact z_bm (by omega) (by omega)
theorem z_ext {a b : Int32} (h : a.toInt = b.toInt) : a = b := Int32.toInt_inj.mp h
theorem z_nI {a : Int32} (h : 0 ≤ a.toInt) : a = nI a.toInt.toNat := by
  have h1 := Int32.toInt_lt a
  refine z_ext ?_
  rw [nI_toInt (by omega)]
  omega
theorem z_clamp {a : Int32} : a.toNatClampNeg = a.toInt.toNat := rfl
theorem upd_eq {f : Nat → Int32} {k : Nat} {x : Int32} {j : Nat} : upd f k x j = if j = k then x else f j := rfl
theorem upd_ne {f : Nat → Int32} {k : Nat} {x : Int32} {j : Nat} (h : j ≠ k) : upd f k x j = f j := if_neg h
theorem upd_at {f : Nat → Int32} {k : Nat} {x : Int32} : upd f k x k = x := if_pos rfl
/-! ===== a state of the class beside the reference's row: where each number stands ===== -/
def z_lk (n : Nat) (g : Nat → Nat) (c j x : Nat) : Prop :=
  (c = 3 ∧ j < 3 ∧ x = 10 + j) ∨ (c = 4 ∧ j < 4 ∧ x = 6 + j) ∨ (c = 5 ∧ j < 8 ∧ x = 13 + j) ∨ (c = 6 ∧ j < 3 ∧ x = 21 + j) ∨ (c = 0 ∧ 6 ≤ j ∧ j < 11 ∧ x = j - 5) ∨ (∃ b, b < 5 ∧ c = 7 + b ∧ j < 2 ∧ x = 24 + 2 * b + j) ∨ (∃ k, k < n ∧ c = 12 + g k ∧ j < 7 ∧ x = 34 + 7 * k + j)
def z_free (V : g_V) (i : Nat) : Prop := V (12 + i) 0 = -1 ∧ V (12 + i) 1 = 0 ∧ V (12 + i) 2 = 0 ∧ V (12 + i) 3 = 0 ∧ V (12 + i) 4 = -1 ∧ V (12 + i) 5 = 0 ∧ V (12 + i) 6 = 0
def z_L (V : g_V) (S : Nat → Int32) (n : Nat) (g : Nat → Nat) : Prop :=
  (S 0 = nI n ∧ n ≤ 16) ∧ (∀ k, k < n → g k < 16) ∧ (∀ k k', k < n → k' < n → g k = g k' → k = k') ∧ (∀ c j x, z_lk n g c j x → V c j = S x) ∧ ∀ i, i < 16 → (∀ k, k < n → g k ≠ i) → z_free V i
section ZL
variable {V V' : g_V} {S S' : Nat → Int32} {n : Nat} {g : Nat → Nat}
theorem z_L.n0 (h : z_L V S n g) : S 0 = nI n := h.1.1
theorem z_L.n16 (h : z_L V S n g) : n ≤ 16 := h.1.2
theorem z_L.g16 (h : z_L V S n g) {k : Nat} (hk : k < n) : g k < 16 := h.2.1 k hk
theorem z_L.inj (h : z_L V S n g) {k k' : Nat} (hk : k < n) (hk' : k' < n) (e : g k = g k') : k = k' := h.2.2.1 k k' hk hk' e
theorem z_L.at (h : z_L V S n g) {c j x : Nat} (hx : z_lk n g c j x) : V c j = S x := h.2.2.2.1 c j x hx
theorem z_L.fr (h : z_L V S n g) {i : Nat} (hi : i < 16) (hk : ∀ k, k < n → g k ≠ i) : z_free V i := h.2.2.2.2 i hi hk
theorem z_L.pr (h : z_L V S n g) {j : Nat} (hj : j < 3) : V 3 j = S (10 + j) := h.at (Or.inl ⟨rfl, hj, rfl⟩)
theorem z_L.se (h : z_L V S n g) {j : Nat} (hj : j < 4) : V 4 j = S (6 + j) := h.at (Or.inr (Or.inl ⟨rfl, hj, rfl⟩))
theorem z_L.mo (h : z_L V S n g) {j : Nat} (hj : j < 8) : V 5 j = S (13 + j) := h.at (Or.inr (Or.inr (Or.inl ⟨rfl, hj, rfl⟩)))
theorem z_L.sz (h : z_L V S n g) {j : Nat} (hj : j < 3) : V 6 j = S (21 + j) := h.at (Or.inr (Or.inr (Or.inr (Or.inl ⟨rfl, hj, rfl⟩))))
theorem z_L.sc (h : z_L V S n g) {j : Nat} (h1 : 6 ≤ j) (h2 : j < 11) : V 0 j = S (j - 5) := h.at (Or.inr (Or.inr (Or.inr (Or.inr (Or.inl ⟨rfl, h1, h2, rfl⟩)))))
theorem z_L.bin (h : z_L V S n g) {b j : Nat} (hb : b < 5) (hj : j < 2) : V (7 + b) j = S (24 + 2 * b + j) := h.at (Or.inr (Or.inr (Or.inr (Or.inr (Or.inr (Or.inl ⟨b, hb, rfl, hj, rfl⟩))))))
theorem z_L.row (h : z_L V S n g) {k j : Nat} (hk : k < n) (hj : j < 7) : V (12 + g k) j = S (34 + 7 * k + j) := h.at (Or.inr (Or.inr (Or.inr (Or.inr (Or.inr (Or.inr ⟨k, hk, rfl, hj, rfl⟩))))))
theorem z_lk_pr {j : Nat} (hj : j < 3) : z_lk n g 3 j (10 + j) := Or.inl ⟨rfl, hj, rfl⟩
theorem z_lk_se {j : Nat} (hj : j < 4) : z_lk n g 4 j (6 + j) := Or.inr (Or.inl ⟨rfl, hj, rfl⟩)
theorem z_lk_mo {j : Nat} (hj : j < 8) : z_lk n g 5 j (13 + j) := Or.inr (Or.inr (Or.inl ⟨rfl, hj, rfl⟩))
theorem z_lk_sz {j : Nat} (hj : j < 3) : z_lk n g 6 j (21 + j) := Or.inr (Or.inr (Or.inr (Or.inl ⟨rfl, hj, rfl⟩)))
theorem z_lk_sc {j : Nat} (h1 : 6 ≤ j) (h2 : j < 11) : z_lk n g 0 j (j - 5) := Or.inr (Or.inr (Or.inr (Or.inr (Or.inl ⟨rfl, h1, h2, rfl⟩))))
theorem z_lk_bin {b j : Nat} (hb : b < 5) (hj : j < 2) : z_lk n g (7 + b) j (24 + 2 * b + j) := Or.inr (Or.inr (Or.inr (Or.inr (Or.inr (Or.inl ⟨b, hb, rfl, hj, rfl⟩)))))
theorem z_lk_row {k j : Nat} (hk : k < n) (hj : j < 7) : z_lk n g (12 + g k) j (34 + 7 * k + j) := Or.inr (Or.inr (Or.inr (Or.inr (Or.inr (Or.inr ⟨k, hk, rfl, hj, rfl⟩)))))
/-- one place, one number -/
theorem z_lk_one (hi : ∀ k k', k < n → k' < n → g k = g k' → k = k') {c j x c' j' x' : Nat} (h : z_lk n g c j x) (h' : z_lk n g c' j' x') : (c = c' ∧ j = j') ↔ x = x' := by
  rcases h with h | h | h | h | h | ⟨b, h⟩ | ⟨k, h⟩ <;> rcases h' with h' | h' | h' | h' | h' | ⟨b', h'⟩ | ⟨k', h'⟩
  all_goals first
    | omega
    | (obtain ⟨h1, h2, h3, h4⟩ := h
       obtain ⟨h5, h6, h7, h8⟩ := h'
       constructor
       · rintro ⟨e1, e2⟩
         have : k = k' := hi k k' h1 h5 (by omega)
         omega
       · intro e
         have : k = k' := by omega
         subst this
         omega)
/-- a number of both is written -/
theorem z_L.up (h : z_L V S n g) {c j x : Nat} (hx : z_lk n g c j x) (v : Int32) : z_L (g_w2 V c j v) (upd S x v) n g := by
  refine ⟨⟨?_, h.n16⟩, h.2.1, h.2.2.1, fun c' j' x' h' => ?_, fun i hi hk => ?_⟩
  · rw [upd_ne]
    · exact h.n0
    · rcases hx with h | h | h | h | h | ⟨b, h⟩ | ⟨k, h⟩ <;> omega
  · by_cases e : x' = x
    · obtain ⟨rfl, rfl⟩ := (z_lk_one h.2.2.1 h' hx).mpr e
      rw [w2_at, e, upd_at]
    · rw [w2_ne (fun z => e ((z_lk_one h.2.2.1 h' hx).mp z)), upd_ne e]
      exact h.at h'
  · have hne : ∀ f, g_w2 V c j v (12 + i) f = V (12 + i) f := fun f => w2_ne (fun z => by
      rcases hx with h | h | h | h | h | ⟨b, h⟩ | ⟨k, h1, h2, h⟩
      iterate 6 omega
      exact hk k h1 (by omega))
    unfold z_free
    rw [hne, hne, hne, hne, hne, hne, hne]
    exact h.fr hi hk
/-- two pictures that show the same -/
theorem z_L.same (h : z_L V S n g) (hV : ∀ c j, V' c j = V c j) (hS : ∀ x, S' x = S x) : z_L V' S' n g := by
  have e1 : V' = V := funext fun c => funext fun j => hV c j
  have e2 : S' = S := funext hS
  rw [e1, e2]
  exact h
/-- a row is made -/
theorem z_L.make (h : z_L V S n g) {i : Nat} (hi : i < 16) (hni : ∀ k, k < n → g k ≠ i) (hn : n < 16) (hV : ∀ c j, c ≠ 12 + i → V' c j = V c j) (hS : ∀ x, x ≠ 0 → x < 34 + 7 * n ∨ 34 + 7 * n + 7 ≤ x → S' x = S x) (h0 : S' 0 = nI (n + 1)) (hr : ∀ j, j < 7 → V' (12 + i) j = S' (34 + 7 * n + j)) : z_L V' S' (n + 1) (va_up g n i) := by
  have hg : ∀ k, k < n → va_up g n i k = g k := fun k hk => va_up_ne g i (by omega)
  refine ⟨⟨h0, by omega⟩, fun k hk => ?_, fun k k' hk hk' e => ?_, fun c j x hx => ?_, fun q hq hk => ?_⟩
  · by_cases e : k = n
    · subst e; rw [va_up_self]; exact hi
    · rw [hg k (by omega)]; exact h.g16 (by omega)
  · by_cases e1 : k = n <;> by_cases e2 : k' = n
    · omega
    · subst e1
      rw [va_up_self, hg k' (by omega)] at e
      exact absurd e.symm (hni k' (by omega))
    · subst e2
      rw [va_up_self, hg k (by omega)] at e
      exact absurd e (hni k (by omega))
    · rw [hg k (by omega), hg k' (by omega)] at e
      exact h.inj (by omega) (by omega) e
  · by_cases e : ∃ k, k < n + 1 ∧ c = 12 + va_up g n i k ∧ j < 7 ∧ x = 34 + 7 * k + j
    · obtain ⟨k, h1, h2, h3, h4⟩ := e
      by_cases e1 : k = n
      · subst e1
        rw [va_up_self] at h2
        rw [h2, h4]
        exact hr j h3
      · rw [hg k (by omega)] at h2
        rw [hV c j (fun z => hni k (by omega) (by omega)), hS x (by omega) (by omega), h2, h4]
        exact h.row (by omega) h3
    · have hx' : z_lk n g c j x := by
        rcases hx with h | h | h | h | h | h | h
        · exact Or.inl h
        · exact Or.inr (Or.inl h)
        · exact Or.inr (Or.inr (Or.inl h))
        · exact Or.inr (Or.inr (Or.inr (Or.inl h)))
        · exact Or.inr (Or.inr (Or.inr (Or.inr (Or.inl h))))
        · exact Or.inr (Or.inr (Or.inr (Or.inr (Or.inr (Or.inl h)))))
        · exact absurd h e
      rw [hV c j (fun z => by rcases hx with h | h | h | h | h | ⟨b, h⟩ | h; iterate 6 omega
                              exact e h), hS x (by rcases hx with h | h | h | h | h | ⟨b, h⟩ | h; iterate 6 omega
                                                   exact absurd h e) (by rcases hx with h | h | h | h | h | ⟨b, h⟩ | h; iterate 6 omega
                                                                         exact absurd h e)]
      exact h.at hx'
  · have hqi : q ≠ i := fun z => hk n (by omega) (by rw [va_up_self]; exact z.symm)
    have hne : ∀ f, V' (12 + q) f = V (12 + q) f := fun f => hV _ _ (by omega)
    unfold z_free
    rw [hne, hne, hne, hne, hne, hne, hne]
    exact h.fr hq (fun k hk1 => by rw [← hg k hk1]; exact hk k (by omega))
/-- a row is gone -/
theorem z_L.gone (h : z_L V S n g) {a : Nat} (ha : a < n) (hV : ∀ c j, c ≠ 12 + g a → V' c j = V c j) (hf : z_free V' (g a)) (h0 : S' 0 = nI (n - 1)) (hS : ∀ x, x ≠ 0 → x < 34 → S' x = S x) (hr : ∀ k j, k < n - 1 → j < 7 → S' (34 + 7 * k + j) = S (34 + 7 * (if k < a then k else k + 1) + j)) : z_L V' S' (n - 1) (fun k => g (if k < a then k else k + 1)) := by
  have hk1 : ∀ k, k < n - 1 → (if k < a then k else k + 1) < n ∧ (if k < a then k else k + 1) ≠ a := fun k hk => by split <;> omega
  refine ⟨⟨h0, by have := h.n16; omega⟩, fun k hk => h.g16 (hk1 k hk).1, fun k k' hk hk' e => ?_, fun c j x hx => ?_, fun q hq hk => ?_⟩
  · have := h.inj (hk1 k hk).1 (hk1 k' hk').1 e
    split at this <;> split at this <;> omega
  · by_cases e : ∃ k, k < n - 1 ∧ c = 12 + g (if k < a then k else k + 1) ∧ j < 7 ∧ x = 34 + 7 * k + j
    · obtain ⟨k, h1, h2, h3, h4⟩ := e
      rw [hV c j (fun z => (hk1 k h1).2 (h.inj (hk1 k h1).1 ha (by omega))), h4, hr k j h1 h3, h2]
      exact h.row (hk1 k h1).1 h3
    · have hx' : z_lk n g c j x := by
        rcases hx with h | h | h | h | h | h | h
        · exact Or.inl h
        · exact Or.inr (Or.inl h)
        · exact Or.inr (Or.inr (Or.inl h))
        · exact Or.inr (Or.inr (Or.inr (Or.inl h)))
        · exact Or.inr (Or.inr (Or.inr (Or.inr (Or.inl h))))
        · exact Or.inr (Or.inr (Or.inr (Or.inr (Or.inr (Or.inl h)))))
        · exact absurd h e
      have h34 : x ≠ 0 ∧ x < 34 ∧ c < 12 := by
        rcases hx with h | h | h | h | h | ⟨b, h⟩ | h
        iterate 6 omega
        exact absurd h e
      rw [hV c j (by omega), hS x h34.1 h34.2.1]
      exact h.at hx'
  · by_cases e : q = g a
    · rw [e]; exact hf
    · have hne : ∀ f, V' (12 + q) f = V (12 + q) f := fun f => hV _ _ (by omega)
      unfold z_free
      rw [hne, hne, hne, hne, hne, hne, hne]
      refine h.fr hq (fun k hkn z => ?_)
      by_cases h1 : k < a
      · exact hk k (by omega) (by dsimp only; rw [if_pos h1]; exact z)
      · by_cases h2 : k = a
        · subst h2; exact e z.symm
        · refine hk (k - 1) (by omega) ?_
          dsimp only
          rw [if_neg (by omega), show k - 1 + 1 = k by omega]
          exact z
/-- a sum over the places of receipts is one over the rows -/
theorem z_L.sum (h : z_L V S n g) {f : Nat → Int32} {F : Nat → Int32} (hf : ∀ i, i < 16 → z_free V i → f i = 0) (hF : ∀ k, k < n → f (g k) = F k) : k_sum f 16 = k_sum F n := by
  rw [k_sum_map (f := f) (fun k hk => h.g16 hk) (fun k k' hk hk' => h.inj hk hk') (fun i hi hk => hf i hi (h.fr hi hk))]
  exact k_sum_congr hF
/-- each place is free, or a row's -/
theorem z_L.cases (h : z_L V S n g) {i : Nat} (hi : i < 16) : z_free V i ∨ ∃ k, k < n ∧ g k = i := by
  by_cases e : ∃ k, k < n ∧ g k = i
  · exact Or.inr e
  · exact Or.inl (h.fr hi (fun k hk z => e ⟨k, hk, z⟩))
theorem z_L.any (h : z_L V S n g) {f F : Nat → Bool} (hf : ∀ i, i < 16 → z_free V i → f i = false) (hF : ∀ k, k < n → f (g k) = F k) : (k_find f 16).isSome = (k_find F n).isSome := by
  rw [Bool.eq_iff_iff, k_find_isSome, k_find_isSome]
  constructor
  · rintro ⟨i, hi, e⟩
    rcases h.cases hi with z | ⟨k, hk, rfl⟩
    · rw [hf i hi z] at e; cases e
    · exact ⟨k, hk, by rw [← hF k hk]; exact e⟩
  · rintro ⟨k, hk, e⟩
    exact ⟨g k, h.g16 hk, by rw [hF k hk]; exact e⟩
end ZL
