/-! ===== the reference's constructor ===== -/
abbrev n_z : Nat → Int32 := fun _ => 0
def m_row1 : Nat → Int32 := upd (upd (upd (upd n_z 6 70) 7 90) 8 3) 9 4
def m_st1 (k : Nat) (f : Nat → Int32) : Nat → Int32 := upd f (10 + k) (30 - 10 * nI k)
def m_st2 (k : Nat) (f : Nat → Int32) : Nat → Int32 := upd f (24 + 2 * k) (nI k / 2)
def m_row0 : Nat → Int32 := k_iter m_st2 (k_iter m_st1 m_row1 3) 5
