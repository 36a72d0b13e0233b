/-! ===== the reference: plain functions of its picture V (V 1 the state, V 2 the begun one, V 3 the past, V 4 the text, V 5 the numbers) ===== -/
theorem w2_eq (V : g_V) (c k : Nat) (x : Int32) (c' j : Nat) : g_w2 V c k x c' j = if c' = c then (if j = k then x else V c' j) else V c' j := by
  unfold g_w2 va_up upd
  by_cases h : c' = c
  · subst h; simp
  · simp [h]
theorem w2_ne {V : g_V} {c k : Nat} {x : Int32} {c' j : Nat} (h : ¬ (c' = c ∧ j = k)) : g_w2 V c k x c' j = V c' j := by
  rw [w2_eq]
  split
  · rw [if_neg (fun z => h ⟨by assumption, z⟩)]
  · rfl
theorem w2_at {V : g_V} {c k : Nat} {x : Int32} : g_w2 V c k x c k = x := by rw [w2_eq, if_pos rfl, if_pos rfl]
theorem k_0 {α : Type} {f : Nat → α → α} {x : α} : x = k_iter f x 0 := rfl
theorem k_s0 {f : Nat → Int32} : 0 = k_sum f 0 := rfl
abbrev m_in (v a b : Int32) : Prop := ¬ v < a ∧ ¬ b < v
abbrev m_N (V : g_V) (n : Nat) : Prop := V 1 0 = nI n ∧ n ≤ 16
def k_last (f : Nat → Bool) : Nat → Option Nat
  | 0 => none
  | n + 1 => if f n then some n else k_last f n
theorem k_last_lt {f : Nat → Bool} : ∀ {n i : Nat}, k_last f n = some i → i < n ∧ f i = true
  | 0, i, h => by cases h
  | n + 1, i, h => by
    rw [k_last] at h
    by_cases hf : f n = true
    · rw [if_pos hf] at h; cases h; exact ⟨by omega, hf⟩
    · rw [if_neg hf] at h; have := k_last_lt h; exact ⟨by omega, this.2⟩
def m_pi (o : Option Nat) : Int32 := match o with
  | none => -1
  | some i => nI i
section GP
variable {p : Program} {l : Launch} {e : Env} {R : Room} {s : State} {m : MethodId} {args : Array Value} {below : List Frame} {meth : Method} {c : Code} {H : Heap} {locs : List Loc} {cells slots : Nat} {Q : State → Prop}
variable {pc : Nat} {ls : Array Slot} {rest : List Value}
theorem g_pf {o : Option Nat} (h0 : o = none → W p l e R s m args below meth c H locs cells slots Q (F0 m pc ls (.int (-1) :: rest))) (h1 : ∀ i, o = some i → W p l e R s m args below meth c H locs cells slots Q (F0 m pc ls (.int (nI i) :: rest))) : W p l e R s m args below meth c H locs cells slots Q (F0 m pc ls (.int (m_pi o) :: rest)) := by
  cases o with
  | none => exact h0 rfl
  | some i => exact h1 i rfl
end GP
def m_copyN (V : g_V) (a b : Nat) (n : Nat) : g_V := k_iter (fun k W => g_w2 W a k (W b k)) V n
def m_begins (V : g_V) : g_V := m_copyN V 2 1 146
def m_returns (V : g_V) : g_V := m_copyN V 1 2 146
def m_place (V : g_V) (x : Int32) (n : Nat) : Option Nat := k_last (fun k => decide (V 1 (34 + 7 * k + 0) = x)) n
abbrev m_pledged (V : g_V) (a : Nat) : Prop := ¬ V 1 (34 + 7 * a + 4) < 0
def m_worth (V : g_V) (a : Nat) : Int32 := V 1 (34 + 7 * a + 3) * V 1 12
def m_share (V : g_V) (a st : Nat) : Int32 := m_worth V a * V 1 (6 + st) / 100
abbrev m_above (V : g_V) (a : Nat) : Prop := ¬ V 1 (34 + 7 * a + 5) ≤ m_share V a 1
def m_moves (V : g_V) (b : Nat) (x : Int32) : g_V := g_w2 V 1 (24 + 2 * b + 1) (V 1 (24 + 2 * b + 1) + x)
def m_binF (V : g_V) (g : Int32) (k : Nat) : Int32 := if V 1 (24 + 2 * k) = g then V 1 (24 + 2 * k + 1) else 0
def m_inBins (V : g_V) (g : Int32) : Int32 := k_sum (m_binF V g) 5
def m_recF (V : g_V) (g : Int32) (k : Nat) : Int32 := if V 1 (34 + 7 * k + 2) = g then V 1 (34 + 7 * k + 3) else 0
def m_inReceipts (V : g_V) (n : Nat) (g : Int32) : Int32 := k_sum (m_recF V g) n
def m_roomF (V : g_V) (g : Int32) (k : Nat) : Int32 := if V 1 (24 + 2 * k) = g then 2000 - V 1 (24 + 2 * k + 1) else 0
def m_room (V : g_V) (g : Int32) : Int32 := k_sum (m_roomF V g) 5
def m_surF (V : g_V) (n : Nat) (j : Nat) : Int32 := m_inBins V (nI j) - m_inReceipts V n (nI j)
def m_surplus (V : g_V) (n g : Nat) : Int32 := k_sum (m_surF V n) (g + 1)
abbrev m_covered (V : g_V) (n : Nat) : Prop := ¬ m_surplus V n 0 < 0 ∧ ¬ m_surplus V n 1 < 0 ∧ ¬ m_surplus V n 2 < 0
def m_shiftN (V : g_V) (a0 c : Nat) : g_V := k_iter (fun j W => g_w2 W 1 (a0 + j) (W 1 (a0 + j + 7))) V c
def m_zeroN (V : g_V) (b0 c : Nat) : g_V := k_iter (fun j W => g_w2 W 1 (b0 + j) 0) V c
def m_removes (V : g_V) (n a : Nat) : g_V := m_zeroN (m_shiftN (g_w2 V 1 0 (nI (n - 1))) (34 + 7 * a) (34 + 7 * (n - 1) - (34 + 7 * a))) (34 + 7 * (n - 1)) 7
