/-! ===== what the methods of a state answer and leave, V its picture ===== -/
def q_okG (V : g_V) : Prop := ∀ i, i < 5 → ∃ g : Nat, g < 3 ∧ V (7 + i) 0 = nI g
def q_loss (V : g_V) (i g0 k : Nat) : Int32 := k_iter (fun j acc => k_min acc (q_surplus V (nI (g0 + j)))) (V (7 + i) 1) (k - g0)
def q_fillStep (g : Int32) (i : Nat) (q : g_V × Int32) : g_V × Int32 :=
  if q.1 (7 + i) 0 = g then (g_w2 q.1 (7 + i) 1 (q.1 (7 + i) 1 + k_min q.2 (2000 - q.1 (7 + i) 1)), q.2 - k_min q.2 (2000 - q.1 (7 + i) 1)) else q
def q_fill (V : g_V) (g a : Int32) : g_V := (k_iter (q_fillStep g) (V, a) 5).1
def q_takeStep (g : Int32) (i : Nat) (q : g_V × Int32) : g_V × Int32 :=
  if q.1 (7 + i) 0 = g then (g_w2 q.1 (7 + i) 1 (q.1 (7 + i) 1 - k_min q.2 (q.1 (7 + i) 1)), q.2 - k_min q.2 (q.1 (7 + i) 1)) else q
def q_take (V : g_V) (g a : Int32) : g_V × Int32 := k_iter (q_takeStep g) (V, a) 5
def q_next (V : g_V) : g_V := g_w2 V 0 7 (V 0 7 + 1)
def q_priceOf (V : g_V) (g : Int32) : Int32 := if k_in g 3 then V 3 g.toNatClampNeg else 0
def q_moneyOf (V : g_V) (o : Int32) : Int32 := if k_in o 8 then V 5 o.toNatClampNeg else 0
def q_addMoney (V : g_V) (o a : Int32) : g_V := if k_in o 8 then g_w2 V 5 o.toNatClampNeg (V 5 o.toNatClampNeg + a) else V
def q_splitN (V : g_V) (i j : Nat) : Int32 := ((V (12 + i) 5).toInt64 * (V (12 + j) 3).toInt64 / (V (12 + i) 3).toInt64).toInt32
def q_splitLoan (V : g_V) (i j : Nat) : g_V :=
  if V (12 + i) 3 ≤ 0 then V else if q_splitN V i j ≤ 0 then V else
    g_w2 (g_w2 (g_w2 V (12 + j) 4 (V (12 + i) 4)) (12 + j) 5 (q_splitN V i j)) (12 + i) 5 ((g_w2 (g_w2 V (12 + j) 4 (V (12 + i) 4)) (12 + j) 5 (q_splitN V i j)) (12 + i) 5 - q_splitN V i j)
def q_seize1 (V : g_V) (i : Nat) : g_V := g_w2 V 6 (V (12 + i) 4).toNatClampNeg (V 6 (V (12 + i) 4).toNatClampNeg + V (12 + i) 5)
def q_seize2 (V : g_V) (i : Nat) : g_V := g_w2 (q_seize1 V i) 0 8 ((q_seize1 V i) 0 8 + 1)
def q_seize (V : g_V) (i : Nat) : g_V := if k_in (V (12 + i) 4) 3 then q_endPledge (g_w2 (q_seize2 V i) (12 + i) 1 (5 + V (12 + i) 4)) i else V
def q_dec (V : g_V) (i : Nat) : g_V := g_w2 V (12 + i) 6 (V (12 + i) 6 - 1)
def q_dayStep (i : Nat) (V : g_V) : g_V := if q_called V i then (if q_tooHigh (q_dec V i) i then (if q_called (q_dec V i) i then q_dec V i else q_seize (q_dec V i) i) else g_w2 (q_dec V i) (12 + i) 6 0) else V
def q_passDay (V : g_V) : g_V := k_iter q_dayStep (g_w2 V 0 6 (V 0 6 + 1)) 16
def q_callStep (lender : Int32) (i : Nat) (q : g_V × Int32) : g_V × Int32 := if q_would q.1 i lender (q.1 3 2) then (g_w2 q.1 (12 + i) 6 (q.1 4 2), q.2 + 1) else q
def q_calls (V : g_V) (lender : Int32) : Int32 × g_V := if k_in lender 3 then ((k_iter (q_callStep lender) (V, 0) 16).2, (k_iter (q_callStep lender) (V, 0) 16).1) else (-2000000001, V)
theorem k_nI {x n : Int32} {N : Nat} (h : k_in x n) (hn : n.toInt = N) : ∃ j : Nat, j < N ∧ x = nI j := by
  have h1 := k_in_ti h
  rw [hn] at h1
  refine ⟨x.toInt.toNat, by omega, ?_⟩
  refine Int32.toInt_inj.mp ?_
  have hb := Int32.toInt_lt x
  rw [nI_toInt (by omega)]
  omega
