/-! ===== lists of cells made in a loop ===== -/
theorem n_setR {α : Type} {A : List α} {x y : α} {i : Nat} (h : i = A.length) : (A ++ [x]).set i y = A ++ [y] := by
  subst h
  rw [List.set_append_right _ _ (Nat.le_refl _), Nat.sub_self]
  rfl
theorem n_setL {α : Type} {A B : List α} {y : α} {i : Nat} (h : i < A.length) : (A ++ B).set i y = A.set i y ++ B := List.set_append_left _ _ h
theorem n_atR {α : Type} {A : List α} {x : α} {i : Nat} (h : i = A.length) : (A ++ [x])[i]? = some x := by
  subst h
  rw [List.getElem?_append_right (Nat.le_refl _), Nat.sub_self]
  rfl
theorem n_atL {α : Type} {A B : List α} {x : α} {i : Nat} (h : A[i]? = some x) : (A ++ B)[i]? = some x := by
  rw [List.getElem?_append_left (List.getElem?_eq_some_iff.mp h).1]
  exact h
def n_many {α : Type} (f : Nat → α) (k : Nat) : List α := (List.range k).map f
theorem n_many_len {α : Type} {f : Nat → α} {k : Nat} : (n_many f k).length = k := by unfold n_many; rw [List.length_map, List.length_range]
theorem n_many_succ {α : Type} {f : Nat → α} {k : Nat} : n_many f (k + 1) = n_many f k ++ [f k] := by
  unfold n_many
  rw [List.range_succ, List.map_append]
  rfl
theorem n_many_congr {α : Type} {f g : Nat → α} {k : Nat} (h : ∀ i, i < k → f i = g i) : n_many f k = n_many g k := by
  unfold n_many
  exact List.map_congr_left (fun i hi => h i (List.mem_range.mp hi))
theorem n_many_at {α : Type} {f : Nat → α} {k i : Nat} (h : i < k) : (n_many f k)[i]? = some (f i) := by
  unfold n_many
  rw [List.getElem?_map, List.getElem?_range h]
  rfl
/-- one more is made: the new list, from the old one and the new cell -/
theorem n_many_up {α β : Type} {F : Nat → β → α} {B : Nat → β} {k : Nat} {q : β} : n_many (fun i => F i (va_up B k q i)) (k + 1) = n_many (fun i => F i (B i)) k ++ [F k q] := by
  rw [n_many_succ, va_up_self, n_many_congr (g := fun i => F i (B i)) (fun i hi => by rw [va_up_ne B q (by omega)])]
/-- the references of the first k -/
def n_refs (B : Nat → Nat) (k : Nat) : Nat → Option Nat := fun i => if i < k then some (B i) else none
theorem n_refs_up {B : Nat → Nat} {k q : Nat} : va_up (n_refs B k) k (some q) = n_refs (va_up B k q) (k + 1) := by
  funext i
  unfold n_refs
  by_cases h : i = k
  · subst h
    rw [va_up_self, if_pos (Nat.lt_succ_self i), va_up_self]
  · rw [va_up_ne _ _ h]
    by_cases h2 : i < k
    · rw [if_pos h2, if_pos (by omega), va_up_ne _ _ h]
    · rw [if_neg h2, if_neg (by omega)]
