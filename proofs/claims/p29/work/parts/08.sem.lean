/-! ===== plain functions that the methods answer ===== -/
section GT
variable {p : Program} {l : Launch} {e : Env} {R : Room} {s : State} {m : MethodId} {args : Array Value} {below : List Frame} {meth : Method} {c : Code} {H : Heap} {locs : List Loc} {cells slots : Nat} {Q : State → Prop}
variable {pc : Nat} {ls : Array Slot} {rest : List Value}
theorem g_te {x y : Int32} (h : x = y) (k : W p l e R s m args below meth c H locs cells slots Q (F0 m pc ls (.int y :: rest))) : W p l e R s m args below meth c H locs cells slots Q (F0 m pc ls (.int x :: rest)) := h ▸ k
end GT
theorem k_ti {x y : Int32} (h : ¬ x = y) {k : Int} (hy : y.toInt = k) : ¬ x.toInt = k := fun z => h (Int32.toInt_inj.mp (z.trans hy.symm))
def k_min (x y : Int32) : Int32 := if y < x then y else x
def k_max (x y : Int32) : Int32 := if x < y then y else x
def k_sum (f : Nat → Int32) : Nat → Int32
  | 0 => 0
  | n + 1 => k_sum f n + f n
def k_find (f : Nat → Bool) : Nat → Option Nat
  | 0 => none
  | n + 1 => match k_find f n with
    | some i => some i
    | none => if f n then some n else none
def k_iter {α : Type} (f : Nat → α → α) (x : α) : Nat → α
  | 0 => x
  | n + 1 => f n (k_iter f x n)
theorem k_find_none {f : Nat → Bool} : ∀ {n : Nat}, k_find f n = none ↔ ∀ j, j < n → f j = false
  | 0 => ⟨fun _ j h => absurd h (Nat.not_lt_zero j), fun _ => rfl⟩
  | n + 1 => by
    have ih := k_find_none (f := f) (n := n)
    constructor
    · intro h j hj
      unfold k_find at h
      cases h1 : k_find f n with
      | some i => rw [h1] at h; cases h
      | none =>
        rw [h1] at h
        by_cases hjn : j = n
        · subst hjn
          cases hf : f j with
          | false => rfl
          | true => simp [hf] at h
        · exact ih.mp h1 j (by omega)
    · intro h
      unfold k_find
      rw [ih.mpr (fun j hj => h j (by omega))]
      simp [h n (by omega)]
theorem k_find_some {f : Nat → Bool} : ∀ {n i : Nat}, k_find f n = some i → i < n ∧ f i = true ∧ ∀ j, j < i → f j = false
  | 0, i, h => by cases h
  | n + 1, i, h => by
    unfold k_find at h
    cases h1 : k_find f n with
    | some j =>
      rw [h1] at h
      cases h
      obtain ⟨a, b, c⟩ := k_find_some h1
      exact ⟨by omega, b, c⟩
    | none =>
      rw [h1] at h
      by_cases hf : f n = true
      · simp only [hf, if_true] at h
        cases h
        exact ⟨by omega, hf, fun j hj => k_find_none.mp h1 j hj⟩
      · simp [hf] at h
theorem k_find_at {f : Nat → Bool} {n i : Nat} (hi : i < n) (h : f i = true) (hn : ∀ j, j < i → f j = false) : k_find f n = some i := by
  cases h1 : k_find f n with
  | none =>
    have := k_find_none.mp h1 i hi
    rw [h] at this
    cases this
  | some j =>
    obtain ⟨a, b, c⟩ := k_find_some h1
    rcases Nat.lt_trichotomy i j with h2 | h2 | h2
    · rw [c i h2] at h; cases h
    · rw [h2]
    · rw [hn j h2] at b; cases b
theorem k_find_lt {f : Nat → Bool} {n i : Nat} (h : k_find f n = some i) : i < n := (k_find_some h).1
abbrev k_in (x n : Int32) : Prop := ¬ x < 0 ∧ ¬ n ≤ x
theorem k_in_ti {x n : Int32} (h : k_in x n) : 0 ≤ x.toInt ∧ x.toInt < n.toInt := by
  obtain ⟨h1, h2⟩ := h
  rw [Int32.lt_iff_toInt_lt, Int32.toInt_zero] at h1
  rw [Int32.le_iff_toInt_le] at h2
  omega
theorem k_vin {x : Int32} {n : Int32} {N : Nat} (h : k_in x n) (hn : n.toInt = N) : vp_in x N := by
  rw [vp_in_iff, ← hn]
  exact k_in_ti h
abbrev k_isError (x : Int32) : Prop := ¬ x < -2000000004 ∧ ¬ -2000000001 < x
abbrev k_digit (x : Int32) : Prop := ¬ x < 48 ∧ ¬ 57 < x
/-! the class: a state's picture V -/
abbrev q_used (V : g_V) (i : Nat) : Prop := ¬ V (12 + i) 0 = -1
abbrev q_pledged (V : g_V) (i : Nat) : Prop := ¬ V (12 + i) 4 = -1
abbrev q_called (V : g_V) (i : Nat) : Prop := ¬ V (12 + i) 6 ≤ 0
def q_use (V : g_V) (i : Nat) (a b c d : Int32) : g_V := g_w2 (g_w2 (g_w2 (g_w2 V (12 + i) 0 a) (12 + i) 1 b) (12 + i) 2 c) (12 + i) 3 d
def q_endPledge (V : g_V) (i : Nat) : g_V := g_w2 (g_w2 (g_w2 V (12 + i) 4 (-1)) (12 + i) 5 0) (12 + i) 6 0
def q_free (V : g_V) (i : Nat) : g_V := q_endPledge (q_use V i (-1) 0 0 0) i
def q_copyRec (V V2 : g_V) (i j : Nat) : g_V := g_w2 (g_w2 (g_w2 (q_use V i (V2 (12 + j) 0) (V2 (12 + j) 1) (V2 (12 + j) 2) (V2 (12 + j) 3)) (12 + i) 4 (V2 (12 + j) 4)) (12 + i) 5 (V2 (12 + j) 5)) (12 + i) 6 (V2 (12 + j) 6)
def q_copyBin (V V2 : g_V) (i j : Nat) : g_V := g_w2 (g_w2 V (7 + i) 0 (V2 (7 + j) 0)) (7 + i) 1 (V2 (7 + j) 1)
def q_grainF (V : g_V) (a b : Int32) (i : Nat) : Int32 := if ¬ V (7 + i) 0 < a ∧ ¬ b < V (7 + i) 0 then V (7 + i) 1 else 0
def q_grainOf (V : g_V) (a b : Int32) : Int32 := k_sum (q_grainF V a b) 5
def q_roomF (V : g_V) (g : Int32) (i : Nat) : Int32 := if V (7 + i) 0 = g then 2000 - V (7 + i) 1 else 0
def q_roomIn (V : g_V) (g : Int32) : Int32 := k_sum (q_roomF V g) 5
def q_recF (V : g_V) (a b : Int32) (i : Nat) : Int32 := if q_used V i ∧ ¬ V (12 + i) 2 < a ∧ ¬ b < V (12 + i) 2 then V (12 + i) 3 else 0
def q_receiptsOf (V : g_V) (a b : Int32) : Int32 := k_sum (q_recF V a b) 16
def q_belowF (V : g_V) (n : Int32) (i : Nat) : Int32 := if q_used V i ∧ ¬ n ≤ V (12 + i) 0 then 1 else 0
def q_below (V : g_V) (n : Int32) : Int32 := k_sum (q_belowF V n) 16
def q_surplus (V : g_V) (g : Int32) : Int32 := q_grainOf V 0 g - q_receiptsOf V 0 g
def q_find (V : g_V) (n : Int32) : Option Nat := k_find (fun i => decide (q_used V i ∧ V (12 + i) 0 = n)) 16
def q_freePlace (V : g_V) : Option Nat := k_find (fun i => decide (¬ q_used V i)) 16
def q_worth (V : g_V) (i : Nat) : Int32 := V (12 + i) 3 * V 3 2
def q_greatestLoan (V : g_V) (i : Nat) : Int32 := q_worth V i * V 4 0 / 100
def q_callLimit (V : g_V) (w : Int32) : Int32 := w * V 4 1 / 100
abbrev q_tooHigh (V : g_V) (i : Nat) : Prop := ¬ V (12 + i) 5 ≤ q_callLimit V (q_worth V i)
abbrev q_would (V : g_V) (i : Nat) (lender price : Int32) : Prop := V (12 + i) 4 = lender ∧ ¬ q_called V i ∧ ¬ V (12 + i) 5 ≤ q_callLimit V (V (12 + i) 3 * price)
