/-! ===== copies of states, settings, the class' own history ===== -/
theorem k_eta {M : g_M} {r : Nat} {V : g_V} (h : M r = V) : va_up M r V = M := by rw [← h]; exact g_eta M r
theorem k_ne6 {x : Nat} (h : x < 6) : (6 : Nat) ≠ x := by omega
theorem k_6ne {x : Nat} (h : x < 6) : x ≠ (6 : Nat) := by omega
def q_cpBins (V2 : g_V) (k : Nat) (W : g_V) : g_V := q_copyBin W V2 k k
def q_cpRecs (V2 : g_V) (k : Nat) (W : g_V) : g_V := q_copyRec W V2 k k
def q_cpRow (V V2 : g_V) (c N : Nat) : g_V := va_up V c (va_cpy (V2 c) (V c) 0 0 N)
def q_copyA (V V2 : g_V) : g_V := k_iter (q_cpRecs V2) (k_iter (q_cpBins V2) V 5) 16
def q_copyB (V V2 : g_V) : g_V := q_cpRow (q_cpRow (q_cpRow (q_cpRow (q_copyA V V2) V2 3 3) V2 4 4) V2 5 8) V2 6 3
def q_copy (V V2 : g_V) : g_V := g_w2 (g_w2 (g_w2 (g_w2 (g_w2 (q_copyB V V2) 0 6 (V2 0 6)) 0 7 (V2 0 7)) 0 8 (V2 0 8)) 0 9 (V2 0 9)) 0 10 (V2 0 10)
def q_set (V : g_V) (x y : Int32) : Int32 × g_V :=
  if k_in x 4 then (if y < g_least x.toNatClampNeg then (-2000000001, V) else if y ≤ g_great x.toNatClampNeg then (V 4 x.toNatClampNeg, g_w2 V 4 x.toNatClampNeg y) else (-2000000001, V)) else (-2000000001, V)
def q_recP (P : g_P) : g_P :=
  va_up (va_up (va_up (va_up (va_up P (2 + 3) (P (2 + 2))) (2 + 2) ((va_up P (2 + 3) (P (2 + 2))) (2 + 1))) (2 + 1) ((va_up (va_up P (2 + 3) (P (2 + 2))) (2 + 2) ((va_up P (2 + 3) (P (2 + 2))) (2 + 1))) (2 + 0))) (2 + 0) ((va_up (va_up (va_up P (2 + 3) (P (2 + 2))) (2 + 2) ((va_up P (2 + 3) (P (2 + 2))) (2 + 1))) (2 + 1) ((va_up (va_up P (2 + 3) (P (2 + 2))) (2 + 2) ((va_up P (2 + 3) (P (2 + 2))) (2 + 1))) (2 + 0))) 1)) 1 (P (2 + 3))
theorem q_recP_v (P : g_P) : q_recP P 0 = P 0 ∧ q_recP P 1 = P 5 ∧ q_recP P 2 = P 1 ∧ q_recP P 3 = P 2 ∧ q_recP P 4 = P 3 ∧ q_recP P 5 = P 4 := ⟨rfl, rfl, rfl, rfl, rfl, rfl⟩
theorem q_recP_lt {P : g_P} (h : ∀ i, P i < 6) : ∀ i, q_recP P i < 6 := k_upP (k_upP (k_upP (k_upP (k_upP h (h _)) (k_upP h (h _) _)) (k_upP (k_upP h (h _)) (k_upP h (h _) _) _)) (k_upP (k_upP (k_upP h (h _)) (k_upP h (h _) _)) (k_upP (k_upP h (h _)) (k_upP h (h _) _) _) _)) (h _)
def q_histUp (G : g_V) : g_V := if 4 ≤ G 0 2 then G else g_w2 G 0 2 (G 0 2 + 1)
def q_recdP (x : Int32) (P : g_P) : g_P := if k_isError x then P else q_recP P
def q_recdG (x : Int32) (G : g_V) : g_V := if k_isError x then G else q_histUp G
theorem q_recdP_lt {x : Int32} {P : g_P} (h : ∀ i, P i < 6) : ∀ i, q_recdP x P i < 6 := by
  unfold q_recdP
  split
  · exact h
  · exact q_recP_lt h
def q_undoP (P : g_P) : g_P :=
  va_up (va_up (va_up (va_up (va_up P 0 (P (2 + 0))) (2 + 0) ((va_up P 0 (P (2 + 0))) (2 + 1))) (2 + 1) ((va_up (va_up P 0 (P (2 + 0))) (2 + 0) ((va_up P 0 (P (2 + 0))) (2 + 1))) (2 + 2))) (2 + 2) ((va_up (va_up (va_up P 0 (P (2 + 0))) (2 + 0) ((va_up P 0 (P (2 + 0))) (2 + 1))) (2 + 1) ((va_up (va_up P 0 (P (2 + 0))) (2 + 0) ((va_up P 0 (P (2 + 0))) (2 + 1))) (2 + 2))) (2 + 3))) (2 + 3) (P 0)
theorem q_undoP_v (P : g_P) : q_undoP P 0 = P 2 ∧ q_undoP P 1 = P 1 ∧ q_undoP P 2 = P 3 ∧ q_undoP P 3 = P 4 ∧ q_undoP P 4 = P 5 ∧ q_undoP P 5 = P 0 := ⟨rfl, rfl, rfl, rfl, rfl, rfl⟩
def q_doOrder (V G : g_V) (x : Int32) : Int32 × g_V :=
  if x = 99 then q_call V (G 3 0) else if x = 100 then q_deliver V (G 3 0) else if x = 108 then q_pledge V (G 3 0) (G 3 1) (G 3 2) else if x = 112 then q_price V (G 3 0) (G 3 1) else if x = 115 then q_store V (G 3 0) (G 3 1) (G 3 2) else if x = 116 then q_pass V (G 3 0) else (-2000000001, V)
