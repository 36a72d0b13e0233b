/-! ===== further plain functions of a state ===== -/
theorem k_range {x : Int32} {N : Nat} {lim : Int32} (h1 : ¬ x < 1) (h2 : x ≤ lim) (hl : lim.toInt = N) : ∃ n : Nat, (1 ≤ n ∧ n ≤ N) ∧ x = nI n := by
  rw [Int32.lt_iff_toInt_lt, show (1 : Int32).toInt = 1 from rfl] at h1
  rw [Int32.le_iff_toInt_le, hl] at h2
  refine ⟨x.toInt.toNat, by omega, ?_⟩
  refine Int32.toInt_inj.mp ?_
  have hb := Int32.toInt_lt x
  rw [nI_toInt (by omega)]
  omega
theorem k_dneg {k : Nat} (hk : k < 1000) (h : nI k - 1 < 0) : k = 0 := by
  cases k with
  | zero => rfl
  | succ n =>
    rw [nI_pred] at h
    exact absurd h (nI_pos (by omega))
theorem k_dpos {k : Nat} (h : ¬ nI k - 1 < 0) : 1 ≤ k := by
  cases k with
  | zero => exact absurd (by decide) h
  | succ n => omega
theorem k_dp {k : Nat} (h : 1 ≤ k) : nI k - 1 = nI (k - 1) := by
  cases k with
  | zero => omega
  | succ n => exact nI_pred n
theorem k_dm {k : Nat} (h : 1 ≤ k) : nI k + Int32.ofInt (-1) = nI (k - 1) := by
  cases k with
  | zero => omega
  | succ n => exact pk_m1 n
theorem k_dd {k : Nat} (h : 1 ≤ k) : (nI k - 1) + Int32.ofInt (-1) = nI (k - 1) - 1 := by
  rw [k_dp h, show Int32.ofInt (-1) = -1 from by decide]
  exact (Int32.sub_eq_add_neg (nI (k - 1)) 1).symm
theorem q_take_hi {V : g_V} {g a : Int32} {c : Nat} (hc : 12 ≤ c) : (q_take V g a).1 c = V c := by
  unfold q_take
  have key : ∀ n, n ≤ 5 → (k_iter (q_takeStep g) (V, a) n).1 c = V c := by
    intro n
    induction n with
    | zero => intro _; rfl
    | succ n ih =>
      intro hn
      rw [k_iter, q_takeStep]
      split
      · show g_w2 _ _ _ _ c = _
        rw [g_w2, va_up_ne _ _ (by omega)]
        exact ih (by omega)
      · exact ih (by omega)
  exact key 5 (Nat.le_refl 5)
def q_okR (V : g_V) : Prop := ∀ i, i < 16 → ∃ g : Nat, g < 3 ∧ V (12 + i) 2 = nI g
def q_delv : Nat → g_V × Int32 → g_V × Int32
  | 0, q => q
  | k + 1, q => q_delv k (q_take q.1 (nI k) q.2)
theorem q_delv_step {k : Nat} (hk : 1 ≤ k) {V : g_V} {x : Int32} : q_delv k (V, x) = q_delv (k - 1) ((q_take V (nI (k - 1)) x).1, (q_take V (nI (k - 1)) x).2) := by
  cases k with
  | zero => omega
  | succ n =>
    rw [q_delv, Nat.add_sub_cancel]
def q_deliver1 (V : g_V) (i : Nat) : g_V := (q_delv (V (12 + i) 2).toNatClampNeg (q_take V (V (12 + i) 2) (V (12 + i) 3))).1
def q_deliver (V : g_V) (n : Int32) : Int32 × g_V :=
  match q_find V n with
  | none => (-2000000001, V)
  | some i => if q_pledged V i then (-2000000002, V) else ((q_take V (V (12 + i) 2) (V (12 + i) 3)).2, q_free (g_w2 (q_deliver1 V i) 0 9 ((q_deliver1 V i) 0 9 + (q_deliver1 V i) (12 + i) 3)) i)
def q_anyW (V : g_V) (le pr : Int32) : Bool := (k_find (fun i => decide (q_would V i le pr)) 16).isSome
def q_fallTo (V : g_V) (le : Int32) : Int32 :=
  if k_in le 3 then (match k_find (fun j => q_anyW V le (nI (99 - j))) 99 with | none => -2000000004 | some j => nI (99 - j)) else -2000000001
def q_numberAt (V : g_V) (x : Int32) : Int32 :=
  if 0 ≤ x then (match k_find (fun i => decide (q_used V i ∧ q_below V (V (12 + i) 0) = x)) 16 with | none => -2000000004 | some i => V (12 + i) 0) else -2000000001
def q_passN (V : g_V) (n : Nat) : g_V := k_iter (fun _ W => q_passDay W) V n
def q_regFail (V : g_V) (b h0 g1 : Nat) : Option Nat := k_find (fun j => decide (h0 ≤ j ∧ ¬ V (7 + b) 1 ≤ q_surplus V (nI j))) g1
def q_regrade2 (V : g_V) (b h0 g1 : Nat) : Int32 × g_V :=
  match q_regFail V b h0 g1 with
  | some _ => (-2000000002, V)
  | none => (V (7 + b) 0, g_w2 V (7 + b) 0 (nI g1))
def q_regrade (V : g_V) (bn g : Int32) : Int32 × g_V :=
  if k_in bn 5 then (if k_in g 3 then (if V (7 + bn.toNatClampNeg) 0 ≤ g then q_regrade2 V bn.toNatClampNeg (V (7 + bn.toNatClampNeg) 0).toNatClampNeg g.toNatClampNeg
    else (if V (7 + bn.toNatClampNeg) 1 ≤ 0 then q_regrade2 V bn.toNatClampNeg (V (7 + bn.toNatClampNeg) 0).toNatClampNeg g.toNatClampNeg else (-2000000002, V))) else (-2000000001, V)) else (-2000000001, V)
def q_ownF (V : g_V) (o : Int32) (f : Nat → Int32) (i : Nat) : Int32 := if q_used V i ∧ V (12 + i) 1 = o then f i else 0
def q_lenF (V : g_V) (o : Int32) (f : Nat → Int32) (i : Nat) : Int32 := if V (12 + i) 4 = o then f i else 0
