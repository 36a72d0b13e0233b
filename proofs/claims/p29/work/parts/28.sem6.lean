/-! ===== the class' reading of a whole text ===== -/
theorem q_ordN_2 (w : Int32) : ∀ (n i : Nat) (G : g_V), (q_ordN w n i G).2 2 = G 2
  | 0, _, _ => rfl
  | n + 1, i, G => by
    have h1 : (q_ordN w n (i + 1) (q_step (q_num1 G i))).2 2 = G 2 := by
      rw [q_ordN_2 w n, show q_step (q_num1 G i) 2 = q_num1 G i 2 from w2_c (by decide)]
      exact q_num1_2
    rw [q_ordN]
    by_cases c1 : w ≤ nI i
    · rw [if_pos c1]
    · rw [if_neg c1]
      by_cases c2 : k_digit (q_ch G)
      · rw [if_pos c2]
        by_cases c3 : q_ch (q_num1 G i) = (if w ≤ nI (i + 1) then 59 else 44)
        · rw [if_pos c3]; exact h1
        · rw [if_neg c3]; exact q_num1_2 (i := i)
      · rw [if_neg c2]
theorem q_readOrder_2 {G : g_V} : (q_readOrder G).2 2 = G 2 := by
  unfold q_readOrder
  split
  · rfl
  · rw [q_ordN_2]; rfl
def q_orders0 (G : g_V) : g_V := g_w2 (g_w2 (g_w2 G 1 4 0) 1 6 0) 1 3 0
def q_ordAns (q : g_V × g_V) : Int32 × g_V := q_doOrder q.2 (q_readOrder q.1).2 (q_charAt (q_readOrder q.1).2 (q.1 1 3))
def q_ordersN : Nat → g_V × g_V → g_V × g_V
  | 0, q => q
  | n + 1, q =>
    if q.1 1 2 ≤ q.1 1 3 then q
    else if (q_readOrder q.1).1 = 0 then (q_setFault (q_readOrder q.1).2 (q.1 1 3) 1 ((q_readOrder q.1).2 1 3 - q.1 1 3), q.2)
    else if k_isError (q_ordAns q).1 then (q_setFault (q_readOrder q.1).2 (q.1 1 3) 2 (q_ordAns q).1, (q_ordAns q).2)
    else q_ordersN n (g_w2 (q_readOrder q.1).2 1 4 ((q_readOrder q.1).2 1 4 + 1), (q_ordAns q).2)
def q_orders (V G : g_V) : g_V × g_V := q_ordersN 60 (q_orders0 G, V)
theorem k_lay2 {M : g_M} {st : Nat} {V G : g_V} {a : g_V × g_V} (h : (G, V) = a) : va_up (va_up M st V) 6 G = va_up (va_up M st a.2) 6 a.1 := by subst h; rfl
theorem k_swap {M : g_M} {st : Nat} {V V' G : g_V} (hst : st < 6) : va_up (va_up (va_up M st V) 6 G) st V' = va_up (va_up M st V') 6 G := by
  funext r
  unfold va_up
  by_cases h : r = st
  · subst h
    rw [if_pos rfl, if_neg (by omega), if_pos rfl]
  · simp only [if_neg h]
