section ZQ2
variable {V W : g_V} {n : Nat} {g : Nat → Nat} {mb lo hi : Int} {k : Nat}
theorem z_count0 (hL : z_L V (W 1) n g) (h2 : y_2 (W 1) n mb) : q_below V (V 0 7) = nI n := by
  have h16 := hL.n16
  have e7 : V 0 7 = W 1 2 := hL.sc (by decide) (by decide)
  have e : q_below V (V 0 7) = k_sum (fun i => if i < n then 1 else 0) n := hL.sum (fun i _ hf => if_neg (fun z => z_unused hf z.1)) (fun j hj => by
    have e2 := hL.row hj (j := 0) (by decide)
    rw [Nat.add_zero] at e2
    unfold q_belowF
    rw [if_pos hj, if_pos ⟨z_used hL h2 hj, by rw [e7, e2, Int32.le_iff_toInt_le]; have := h2.2.1 j hj; omega⟩])
  rw [e, k_sum_below (by omega), Nat.min_self]
theorem z_sum3 {f : Nat → Int32} : k_sum f 3 = 0 + f 0 + f 1 + f 2 := rfl
theorem z_count1 (hL : z_L V (W 1) n g) (h1 : y_1 (W 1) n) (h2 : y_2 (W 1) n mb) : q_receiptsOf V 0 2 = k_sum (m_sumF W n 1) 3 := by
  refine z_ext ?_
  have e0 := z_recs hL h2 h1.ok (x := 2) (by decide)
  have i0 := m_inRec_i h1.ok (x := 0) (by decide)
  have i1 := m_inRec_i h1.ok (x := 1) (by decide)
  have i2 := m_inRec_i h1.ok (x := 2) (by decide)
  have s0 := y_A_step (W := W) (n := n) (x := (0 : Nat))
  have s1 := y_A_step (W := W) (n := n) (x := (1 : Nat))
  have s2 := y_A_step (W := W) (n := n) (x := (2 : Nat))
  have hm : z_tot (y_term (W 1) (((0 : Nat) : Int) - 1)) n = 0 := by
    rw [z_tot_congr (g := fun _ => 0) (fun k hk => by
      have := h1.ok.2.2 k hk
      unfold y_term
      rw [if_neg (by omega)])]
    have h := z_tot_bd (f := fun _ => (0 : Int)) (c := 0) (n := n) (fun _ _ => Int.le_refl 0)
    have h' := z_tot_pos (f := fun _ => (0 : Int)) (n := n) (fun _ _ => Int.le_refl 0)
    omega
  have a0 := y_A_bd (W := W) h1.ok (q := ((0 : Nat) : Int))
  have a1 := y_A_bd (W := W) h1.ok (q := ((1 : Nat) : Int))
  have a2 := y_A_bd (W := W) h1.ok (q := ((2 : Nat) : Int))
  rw [show (((1 : Nat) : Int) - 1) = ((0 : Nat) : Int) from rfl] at s1
  rw [show (((2 : Nat) : Int) - 1) = ((1 : Nat) : Int) from rfl] at s2
  rw [show q_receiptsOf V 0 2 = q_receiptsOf V 0 (nI 2) from rfl, e0, z_sum3]
  have f0 : m_sumF W n 1 0 = m_inReceipts W n (nI 0) := if_pos rfl
  have f1 : m_sumF W n 1 1 = m_inReceipts W n (nI 1) := if_pos rfl
  have f2 : m_sumF W n 1 2 = m_inReceipts W n (nI 2) := if_pos rfl
  rw [f0, f1, f2, Int32.zero_add]
  have t1 : (m_inReceipts W n (nI 0) + m_inReceipts W n (nI 1)).toInt = (m_inReceipts W n (nI 0)).toInt + (m_inReceipts W n (nI 1)).toInt := z_add (by omega) (by omega)
  rw [z_add (by omega) (by omega)]
  omega
theorem z_count2 (hL : z_L V (W 1) n g) (h1 : y_1 (W 1) n) : q_grainOf V 0 2 = k_sum (m_sumF W n 2) 3 := by
  refine z_ext ?_
  have hb := h1.bins
  have e0 := z_grain hL hb (x := 2) (by decide)
  have i0 := m_inBins_i hb (x := 0) (by decide)
  have i1 := m_inBins_i hb (x := 1) (by decide)
  have i2 := m_inBins_i hb (x := 2) (by decide)
  have s0 := y_B_step (W := W) hb (x := ((0 : Nat) : Int))
  have s1 := y_B_step (W := W) hb (x := ((1 : Nat) : Int))
  have s2 := y_B_step (W := W) hb (x := ((2 : Nat) : Int))
  have hm : z_tot (y_bterm (W 1) (((0 : Nat) : Int) - 1)) 5 = 0 := y_B_neg hb (by decide)
  have a0 := y_B_bd (W := W) hb (q := ((0 : Nat) : Int))
  have a1 := y_B_bd (W := W) hb (q := ((1 : Nat) : Int))
  have a2 := y_B_bd (W := W) hb (q := ((2 : Nat) : Int))
  rw [show (((1 : Nat) : Int) - 1) = ((0 : Nat) : Int) from rfl] at s1
  rw [show (((2 : Nat) : Int) - 1) = ((1 : Nat) : Int) from rfl] at s2
  rw [show q_grainOf V 0 2 = q_grainOf V 0 (nI 2) from rfl, e0, z_sum3]
  have f0 : m_sumF W n 2 0 = m_inBins W (nI 0) := if_neg (by decide)
  have f1 : m_sumF W n 2 1 = m_inBins W (nI 1) := if_neg (by decide)
  have f2 : m_sumF W n 2 2 = m_inBins W (nI 2) := if_neg (by decide)
  rw [f0, f1, f2, Int32.zero_add]
  have t1 : (m_inBins W (nI 0) + m_inBins W (nI 1)).toInt = (m_inBins W (nI 0)).toInt + (m_inBins W (nI 1)).toInt := z_add (by omega) (by omega)
  rw [z_add (by omega) (by omega)]
  omega
theorem t_count {x : Int32} (h : z_R V (W 1) n mb lo hi) (h8 : ¬ x = 8) (h9 : ¬ x = 9) : q_tellNumber V x = m_count W x n := by
  obtain ⟨g, hL, h1, h2, h3⟩ := h
  by_cases c0 : x = 0
  · subst c0; exact (z_count0 hL h2).trans hL.n0.symm
  by_cases c1 : x = 1
  · subst c1; exact z_count1 hL h1 h2
  by_cases c2 : x = 2
  · subst c2; exact z_count2 hL h1
  by_cases c3 : x = 3
  · subst c3; exact hL.sc (j := 6) (by decide) (by decide)
  by_cases c4 : x = 4
  · subst c4; exact hL.sc (j := 7) (by decide) (by decide)
  by_cases c5 : x = 5
  · subst c5; exact hL.sc (j := 8) (by decide) (by decide)
  by_cases c6 : x = 6
  · subst c6; exact hL.sc (j := 9) (by decide) (by decide)
  by_cases c7 : x = 7
  · subst c7; exact hL.sc (j := 10) (by decide) (by decide)
  by_cases d0 : x = 20
  · subst d0; exact hL.se (j := 0) (by decide)
  by_cases d1 : x = 21
  · subst d1; exact hL.se (j := 1) (by decide)
  by_cases d2 : x = 22
  · subst d2; exact hL.se (j := 2) (by decide)
  by_cases d3 : x = 23
  · subst d3; exact hL.se (j := 3) (by decide)
  unfold q_tellNumber m_count
  rw [if_neg c0, if_neg c1, if_neg c2, if_neg c3, if_neg c4, if_neg c5, if_neg c6, if_neg c7, if_neg c0, if_neg c1, if_neg c2, if_neg c3, if_neg c4, if_neg c5, if_neg c6, if_neg c7, if_neg h8, if_neg h9, if_neg h8, if_neg h9]
  rw [if_neg (c := m_in x 20 23) (fun z => by
    have hz : 20 ≤ x.toInt ∧ x.toInt ≤ 23 := z_rg z
    have := z_eqn (j := 20) (by decide) d0
    have := z_eqn (j := 21) (by decide) d1
    have := z_eqn (j := 22) (by decide) d2
    have := z_eqn (j := 23) (by decide) d3
    omega)]
  iterate 10 (split; · rfl)
  rfl
end ZQ2
