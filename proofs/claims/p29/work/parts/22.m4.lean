def m_lenderOf (V : g_V) (le : Int32) (w : Int32) (n : Nat) : Int32 :=
  if m_in le 0 2 then (if m_in w 0 5 then (if w = 4 then (V 1 (21 + (le.toNatClampNeg))) else (k_sum (m_lenF V (le) w) n)) else (-2000000001)) else (-2000000001)
