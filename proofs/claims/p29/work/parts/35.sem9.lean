/-! ===== the reference: fault and play ===== -/
def m_fault (V : g_V) (w : Int32) : Int32 × g_V :=
  if m_in w 0 2 then (if (m_does (m_begins V)).1 = 0 then
    (if w = 0 then (m_returns (m_does (m_begins V)).2 0 7, m_returns (m_does (m_begins V)).2)
    else if w = 1 then (if m_returns (m_does (m_begins V)).2 0 10 = 0 then (1, m_returns (m_does (m_begins V)).2) else (2, m_returns (m_does (m_begins V)).2))
    else (if m_returns (m_does (m_begins V)).2 0 10 = 0 then (m_returns (m_does (m_begins V)).2 0 6 - m_returns (m_does (m_begins V)).2 0 7, m_returns (m_does (m_begins V)).2) else (m_returns (m_does (m_begins V)).2 0 9, m_returns (m_does (m_begins V)).2)))
    else (-2000000004, m_returns (m_does (m_begins V)).2)) else (-2000000001, V)
def m_play (V : g_V) (sn : Nat) : Int32 × g_V :=
  if (m_does (m_begins V)).1 = 0 then (-2000000002, m_acted (m_does (m_begins V)).2 (-2000000002) sn) else ((m_does (m_begins V)).2 0 8, m_acted (m_does (m_begins V)).2 ((m_does (m_begins V)).2 0 8) sn)
