/-! ===== for the walk of acts ===== -/
section UA
variable {P P1 : g_P} {M M1 : g_M} {V W : g_V} {n : Nat} {c mb lo hi : Int} {k : Nat} {x y z d : Int32}
theorem u_amt2 (h : z_R V (W 1) n mb lo hi) (hk : k < n) : 0 < (W 1 (34 + 7 * k + 3) + 2).toInt := by
  obtain ⟨g, hL, h1, h2, h3⟩ := h
  have ham := h1.amt hk
  obtain ⟨-, -, hr3, -⟩ := h1.row hk
  have e2 : (2 : Int32).toInt = 2 := rfl
  rw [z_add (by omega) (by omega), e2]
  omega
theorem u_most2 (h : z_R V (W 1) n mb lo hi) (hk : k < n) : 0 < (m_share W k 0 + 2).toInt := by
  have hw := u_worth h hk
  obtain ⟨g, hL, h1, h2, h3⟩ := h
  have e2 : (2 : Int32).toInt = 2 := rfl
  have hs := m_share_i h1 hk
  have h4 : 10 ≤ (W 1 (6 + 0)).toInt ∧ (W 1 (6 + 0)).toInt ≤ 100 := h1.set.1
  have h7 : (m_worth W k).toInt * (W 1 (6 + 0)).toInt ≤ (m_worth W k).toInt * 100 := Int.mul_le_mul_of_nonneg_left h4.2 (by omega)
  have h6 : 0 ≤ (m_worth W k).toInt * (W 1 (6 + 0)).toInt := Int.mul_nonneg (by omega) (by omega)
  have e : (m_worth W k * W 1 (6 + 0)).toInt = (m_worth W k).toInt * (W 1 (6 + 0)).toInt := z_mul (by omega) (by omega)
  have h0 : 0 ≤ (m_share W k 0).toInt := by
    unfold m_share
    rw [z_div (by rw [e]; exact h6) (by decide), e]
    exact Int.ediv_nonneg h6 (by decide)
  rw [z_add (by omega) (by omega), e2]
  omega
theorem u_loan2 (h : z_R V (W 1) n mb lo hi) (hk : k < n) (hc : ¬ u_loan W k = -2000000004) : 0 < (u_loan W k + 2).toInt := by
  rw [(u_loan_is hc).2]
  obtain ⟨g, hL, h1, h2, h3⟩ := h
  obtain ⟨-, -, -, -, h5, -⟩ := h1.row hk
  have e2 : (2 : Int32).toInt = 2 := rfl
  rw [z_add (by omega) (by omega), e2]
  omega
theorem u_pos1 (h : n ≤ 16) : 0 < (nI (n + 1)).toInt := by
  rw [nI_toInt (by omega)]
  omega
theorem u_c22 (h : z_R V (W 1) n mb lo hi) : q_tellNumber V 22 = W 1 8 := by
  obtain ⟨g, hL, h1, h2, h3⟩ := h
  exact hL.se (j := 2) (by decide)
theorem u_c23 (h : z_R V (W 1) n mb lo hi) : q_tellNumber V 23 = W 1 9 := by
  obtain ⟨g, hL, h1, h2, h3⟩ := h
  exact hL.se (j := 3) (by decide)
theorem z_O.good {B : Int32 × g_V} (h : z_O P M c B P1 M1) (hg : z_good B.1) : M1 7 1 = B.2 1 := by
  rcases h.2.2 with ⟨a, -⟩ | ⟨-, b⟩
  · exact absurd (z_good_k hg).2 (z_err_k a).2
  · exact b
theorem u_delG (h : z_R (M (P 0)) (M 7 1) n mb lo hi) (hk : k < n) (hc : u_loan (M 7) k = -2000000004) (hO : z_O P M c (m_delivers (m_begins (M 7)) (M 7 1 (34 + 7 * k)) n) P1 M1) : q_tellReceipt (M1 (P1 0)) (M 7 1 (34 + 7 * k)) 0 = -2000000001 := by
  obtain ⟨a, b⟩ := E_deliver h hk hc
  have e := hO.good (z_good_0 a.1)
  obtain ⟨n1, h1⟩ := z_Rel.row hO.1.1
  refine u_none h1 (u_no (fun i hi => ?_))
  rw [e]
  obtain ⟨g, hL, -⟩ := h1
  exact b n1 (by rw [← e]; exact hL.n0) hL.n16 i hi
theorem u_callG (h : z_R (M (P 0)) (M 7 1) n mb lo hi) (hx : 0 ≤ x.toInt ∧ x.toInt < 4) (c1 : ¬ x = 3) (hO : z_O P M c (m_calls (m_begins (M 7)) x n) P1 M1) : q_tellLender (M1 (P1 0)) x 5 = 0 := by
  have hg : z_good (m_calls (m_begins (M 7)) x n).1 := by
    rw [← (s_call (x_beg h)).1]
    have d1 := u_ne 3 (by decide) c1
    unfold q_call
    rw [if_pos (z_in3.mp (u_in (a := 0) (b := 2) hx.1 (by show x.toInt ≤ 2; omega)))]
    dsimp only
    rw [(q_calls_cf (V := M (P 0)) (le := x) 16 (Nat.le_refl 16)).2.2]
    exact z_good_0 (k_sum_1 (by decide)).1
  obtain ⟨n1, h1⟩ := z_Rel.row hO.1.1
  exact E_call0 h hx c1 h1 (hO.good hg)
theorem u_passG (h : z_R (M (P 0)) (M 7 1) n mb lo hi) (hx : 0 ≤ d.toInt ∧ d.toInt ≤ 100) (c0 : ¬ d = 0) (c1 : ¬ d = 100) (hO : z_O P M c (m_lets (m_begins (M 7)) d n) P1 M1) : M1 7 1 3 = M 7 1 3 + (m_lets (m_begins (M 7)) d n).1 ∧ M1 7 1 1 = M 7 1 1 + d := by
  have hg : z_good (m_lets (m_begins (M 7)) d n).1 := by
    have d0 := u_ne 0 (by decide) c0
    have d1 := u_ne 100 (by decide) c1
    obtain ⟨-, q, hq, e⟩ := s_days (x_beg h) (d.toNatClampNeg)
    unfold m_lets
    rw [if_pos (u_in (a := 1) (b := 99) (by show 1 ≤ d.toInt; omega) (by show d.toInt ≤ 99; omega))]
    dsimp only
    rw [e, Int32.add_comm, Int32.add_sub_cancel]
    exact z_good_n (by rw [z_clamp] at hq; omega)
  have e := hO.good hg
  obtain ⟨a, b⟩ := (E_pass (W := M 7) (n := n) hx).2 c0 c1
  rw [e]
  exact ⟨a.symm, b.symm⟩
theorem u_regG (h : z_R (M (P 0)) (M 7 1) n mb lo hi) (hx : 0 ≤ x.toInt ∧ x.toInt < 6) (hy : 0 ≤ y.toInt ∧ y.toInt < 4) (c1 : ¬ x = 5) (c2 : ¬ y = 3) (c3 : ¬ (m_regrades (m_begins (M 7)) x y n).1 = -2000000002) (hO : z_O P M c (m_regrades (m_begins (M 7)) x y n) P1 M1) : (m_regrades (m_begins (M 7)) x y n).1 = q_tellBin (M (P 0)) x 0 ∧ q_tellBin (M1 (P1 0)) x 0 = y := by
  rcases (E_regrade h hx hy).2 c1 c2 with ⟨a, -⟩ | ⟨a, -, b, d⟩
  · exact absurd a c3
  · refine ⟨a, ?_⟩
    obtain ⟨n1, h1⟩ := z_Rel.row hO.1.1
    rw [u_bin0 h1 hx c1, hO.good b]
    exact d
theorem u_regS (h : z_R (M (P 0)) (M 7 1) n mb lo hi) (hx : 0 ≤ x.toInt ∧ x.toInt < 6) (hy : 0 ≤ y.toInt ∧ y.toInt < 4) (c1 : ¬ x = 5) (c2 : ¬ y = 3) (c3 : (m_regrades (m_begins (M 7)) x y n).1 = -2000000002) : ¬ y = q_tellBin (M (P 0)) x 0 := by
  rcases (E_regrade h hx hy).2 c1 c2 with ⟨-, a⟩ | ⟨-, b, -⟩
  · exact a
  · exact absurd c3 b
theorem u_lo {x : Int32} {m : Nat} (h0 : 0 ≤ x.toInt) (h1 : ¬ nI m ≤ x) (hm : m ≤ 16) : ∃ i : Nat, i < m ∧ x = nI i := by
  rw [Int32.le_iff_toInt_le, nI_toInt (by omega)] at h1
  exact z_lo h0 (by omega)
theorem u_hi {x : Int32} {m : Nat} (h1 : x.toInt < (nI (m + 1)).toInt) (h2 : nI m ≤ x) (hm : m ≤ 16) : x = nI m := by
  rw [Int32.le_iff_toInt_le, nI_toInt (by omega)] at h2
  rw [nI_toInt (by omega)] at h1
  exact z_ext (by rw [nI_toInt (by omega)]; omega)
end UA
