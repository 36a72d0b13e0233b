/-! ===== what the queries answer ===== -/
theorem k_iter_congr {α : Type} {f f' : Nat → α → α} {x : α} : ∀ {N : Nat}, (∀ j, j < N → ∀ a, f j a = f' j a) → k_iter f x N = k_iter f' x N
  | 0, _ => rfl
  | N + 1, h => by rw [k_iter, k_iter, k_iter_congr (fun j hj => h j (by omega)), h N (by omega)]
theorem k_sum_below {k : Nat} : ∀ {n : Nat}, n < 1000 → k_sum (fun i => if i < k then 1 else 0) n = nI (min k n)
  | 0, _ => by rw [Nat.min_zero]; rfl
  | n + 1, h => by
    rw [k_sum, k_sum_below (by omega)]
    by_cases c : n < k
    · rw [if_pos c, show min k n = n by omega, show min k (n + 1) = n + 1 by omega]; exact nI_1 n
    · rw [if_neg c, Int32.add_zero, show min k n = k by omega, show min k (n + 1) = k by omega]
section ZQ
variable {V W : g_V} {n : Nat} {g : Nat → Nat} {mb lo hi : Int} {k : Nat}
theorem z_ratio (h1 : y_1 (W 1) n) (hk : k < n) : kPos (FP.fdiv (FP.i2f (W 1 (34 + 7 * k + 5))) (FP.i2f (m_worth W k))) := by
  obtain ⟨-, -, -, -, h5, -⟩ := h1.row hk
  obtain ⟨-, h6, h7, -⟩ := m_worth_i h1 hk
  rw [z_nI h5.1, z_nI (show 0 ≤ (m_worth W k).toInt by omega)]
  exact kPos_div (by omega) (by omega) (by omega)
theorem z_ratioV (hL : z_L V (W 1) n g) (h1 : y_1 (W 1) n) : ∀ i, i < 16 → 0 < q_worth V i → kPos (FP.fdiv (FP.i2f (V (12 + i) 5)) (FP.i2f (q_worth V i))) := fun i hi hw => by
  rcases hL.cases hi with z | ⟨k, hk, rfl⟩
  · unfold q_worth at hw
    rw [z.2.2.2.1, Int32.zero_mul] at hw
    exact absurd hw (by decide)
  · rw [z_worth hL hk, hL.row hk (by decide)]
    exact z_ratio h1 hk
theorem t_receiptOf {x w : Int32} (h : z_R V (W 1) n mb lo hi) : q_tellReceipt V x w = m_receiptOf W x w n := by
  obtain ⟨g, hL, h1, h2, h3⟩ := h
  unfold q_tellReceipt m_receiptOf
  rw [z_find hL h2]
  cases hp : m_place W x n with
  | none => rfl
  | some k =>
    simp only [Option.map_some]
    obtain ⟨hk, -⟩ := z_place hp
    obtain ⟨-, -, -, -, h5, -⟩ := h1.row hk
    obtain ⟨-, hw1, hw2, -⟩ := m_worth_i h1 hk
    by_cases c0 : w = 0
    · subst c0; rw [if_pos rfl, if_pos (by decide)]; exact hL.row hk (by decide)
    rw [if_neg c0]
    by_cases c1 : w = 1
    · subst c1; rw [if_pos rfl, if_pos (by decide)]; exact hL.row hk (by decide)
    rw [if_neg c1]
    by_cases c2 : w = 2
    · subst c2; rw [if_pos rfl, if_pos (by decide)]; exact hL.row hk (by decide)
    rw [if_neg c2]
    by_cases c3 : w = 3
    · subst c3; rw [if_pos rfl, if_pos (by decide), if_pos rfl]; exact z_worth hL hk
    rw [if_neg c3]
    by_cases c4 : w = 4
    · subst c4; rw [if_pos rfl, if_pos (show m_in (4 : Int32) 0 9 by decide), if_neg (show ¬ (4 : Int32) = 3 by decide), if_pos (show (4 : Int32) = 4 from rfl)]
      by_cases c : m_pledged W k
      · rw [if_pos ((z_pledged hL h1 hk).mpr c), if_pos c]; exact hL.row hk (by decide)
      · rw [if_neg (fun z => c ((z_pledged hL h1 hk).mp z)), if_neg c]
    rw [if_neg c4]
    by_cases c5 : w = 5
    · subst c5; rw [if_pos rfl, if_pos (show m_in (5 : Int32) 0 9 by decide), if_neg (show ¬ (5 : Int32) = 3 by decide), if_neg (show ¬ (5 : Int32) = 4 by decide), if_pos (show (5 : Int32) = 5 from rfl)]
      by_cases c : m_pledged W k
      · rw [if_pos ((z_pledged hL h1 hk).mpr c), if_pos c]; exact hL.row hk (by decide)
      · rw [if_neg (fun z => c ((z_pledged hL h1 hk).mp z)), if_neg c]
    rw [if_neg c5]
    by_cases c6 : w = 6
    · subst c6; rw [if_pos rfl, if_pos (show m_in (6 : Int32) 0 9 by decide), if_neg (show ¬ (6 : Int32) = 3 by decide), if_neg (show ¬ (6 : Int32) = 4 by decide), if_neg (show ¬ (6 : Int32) = 5 by decide), if_pos (show (6 : Int32) = 6 from rfl)]
      have e6 := hL.row hk (j := 6) (by decide)
      by_cases c : W 1 (34 + 7 * k + 6) ≤ 0
      · rw [if_pos c, if_neg (fun z => z (by rw [e6]; exact c))]
      · rw [if_neg c, if_pos (show ¬ V (12 + g k) 6 ≤ 0 by rw [e6]; exact c)]; exact e6
    rw [if_neg c6]
    by_cases c7 : w = 7
    · subst c7; rw [if_pos rfl, if_pos (by decide), if_neg (by decide), if_neg (by decide), if_neg (by decide), if_neg (by decide), if_pos rfl]; exact z_glo hL hk
    rw [if_neg c7]
    by_cases c8 : w = 8
    · subst c8; rw [if_pos rfl, if_pos (by decide), if_neg (by decide), if_neg (by decide), if_neg (by decide), if_neg (by decide), if_neg (by decide), if_pos rfl, z_clim hL hk, hL.row hk (by decide)]
      have h4 : 10 ≤ (W 1 (6 + 1)).toInt ∧ (W 1 (6 + 1)).toInt ≤ 150 := h1.set.2.1
      have h7 : (m_worth W k).toInt * (W 1 (6 + 1)).toInt ≤ (m_worth W k).toInt * 150 := Int.mul_le_mul_of_nonneg_left h4.2 (by omega)
      have h6 : 0 ≤ (m_worth W k).toInt * (W 1 (6 + 1)).toInt := Int.mul_nonneg (by omega) (by omega)
      have e : (m_worth W k * W 1 (6 + 1)).toInt = (m_worth W k).toInt * (W 1 (6 + 1)).toInt := z_mul (by omega) (by omega)
      have es : (m_share W k 1).toInt = (m_worth W k).toInt * (W 1 (6 + 1)).toInt / 100 := by
        unfold m_share
        rw [z_div (by omega) (by decide), e]
        rfl
      have ed : (W 1 (34 + 7 * k + 5) - m_share W k 1).toInt = (W 1 (34 + 7 * k + 5)).toInt - (m_share W k 1).toInt := z_sub (by omega) (by omega)
      unfold k_max
      by_cases c : m_above W k
      · rw [if_pos c, if_pos]
        have c' : ¬ W 1 (34 + 7 * k + 5) ≤ m_share W k 1 := c
        rw [Int32.le_iff_toInt_le] at c'
        rw [Int32.lt_iff_toInt_lt, z_i0, ed]
        omega
      · rw [if_neg c, if_neg]
        have c' : W 1 (34 + 7 * k + 5) ≤ m_share W k 1 := Decidable.not_not.mp c
        rw [Int32.le_iff_toInt_le] at c'
        rw [Int32.lt_iff_toInt_lt, z_i0, ed]
        omega
    rw [if_neg c8]
    by_cases c9 : w = 9
    · subst c9; rw [if_pos rfl, if_pos (by decide), if_neg (by decide), if_neg (by decide), if_neg (by decide), if_neg (by decide), if_neg (by decide), if_neg (by decide), if_pos rfl]
      unfold q_ratio
      rw [z_worth hL hk, hL.row hk (by decide), if_pos (by rw [Int32.lt_iff_toInt_lt, z_i0]; omega)]
    rw [if_neg c9, if_neg]
    intro z
    have hz : 0 ≤ w.toInt ∧ w.toInt ≤ 9 := z_rg z
    have hne : ∀ j : Nat, j ≤ 9 → w ≠ nI j → w.toInt ≠ j := fun j hj hn e => hn (z_ext (by rw [nI_toInt (by omega)]; exact e))
    have d0 := hne 0 (by decide) c0
    have d1 := hne 1 (by decide) c1
    have d2 := hne 2 (by decide) c2
    have d3 := hne 3 (by decide) c3
    have d4 := hne 4 (by decide) c4
    have d5 := hne 5 (by decide) c5
    have d6 := hne 6 (by decide) c6
    have d7 := hne 7 (by decide) c7
    have d8 := hne 8 (by decide) c8
    have d9 := hne 9 (by decide) c9
    omega
theorem z_below (hL : z_L V (W 1) n g) (h2 : y_2 (W 1) n mb) (hk : k < n) : q_below V (V (12 + g k) 0) = nI k := by
  have h16 := hL.n16
  have e : q_below V (V (12 + g k) 0) = k_sum (fun i => if i < k then 1 else 0) n := hL.sum (fun i _ hf => if_neg (fun z => z_unused hf z.1)) (fun j hj => by
    have e1 := hL.row hk (j := 0) (by decide)
    have e2 := hL.row hj (j := 0) (by decide)
    rw [Nat.add_zero] at e1 e2
    unfold q_belowF
    by_cases c : j < k
    · rw [if_pos c, if_pos ⟨z_used hL h2 hj, by rw [e1, e2, Int32.le_iff_toInt_le]; have := h2.1 j k c hk; omega⟩]
    · rw [if_neg c, if_neg (fun z => z.2 (by
        rw [e1, e2, Int32.le_iff_toInt_le]
        by_cases d : j = k
        · subst d; exact Int.le_refl _
        · have := h2.1 k j (by omega) hj; omega))])
  rw [e, k_sum_below (by omega), show min k n = k by omega]
theorem t_receipt {x : Int32} (h : z_R V (W 1) n mb lo hi) : q_numberAt V x = m_receipt W x n := by
  obtain ⟨g, hL, h1, h2, h3⟩ := h
  have h16 := hL.n16
  unfold q_numberAt m_receipt
  by_cases c1 : 0 ≤ x
  · rw [if_pos c1, if_pos c1]
    have hx0 : 0 ≤ x.toInt := by rw [Int32.le_iff_toInt_le, z_i0] at c1; exact c1
    have ex := z_nI hx0
    have hcl : x.toNatClampNeg = x.toInt.toNat := rfl
    have hx31 := Int32.toInt_lt x
    rw [hcl]
    obtain ⟨q, hq⟩ : ∃ q, q = x.toInt.toNat := ⟨_, rfl⟩
    rw [← hq] at ex ⊢
    have hq31 : q < 2 ^ 31 := by omega
    subst ex
    by_cases c2 : n ≤ q
    · rw [if_pos ((nI_leI (by omega) hq31).mpr c2)]
      have hn : k_find (fun i => decide (q_used V i ∧ q_below V (V (12 + i) 0) = nI q)) 16 = none := k_find_none.mpr (fun i hi => decide_eq_false (fun z => by
        rcases hL.cases hi with hf | ⟨k, hk, rfl⟩
        · exact z_unused hf z.1
        · have e := z.2
          rw [z_below hL h2 hk] at e
          have := (nI_eq (by omega) hq31).mp e
          omega))
      rw [hn]
    · rw [if_neg (fun z => c2 ((nI_leI (by omega) hq31).mp z))]
      have hn : k_find (fun i => decide (q_used V i ∧ q_below V (V (12 + i) 0) = nI q)) 16 = some (g q) := k_find_at (hL.g16 (by omega)) (decide_eq_true ⟨z_used hL h2 (by omega), z_below hL h2 (by omega)⟩) (fun j hj => decide_eq_false (fun z => by
        rcases hL.cases (show j < 16 by have := hL.g16 (k := q) (by omega); omega) with hf | ⟨k, hk, rfl⟩
        · exact z_unused hf z.1
        · have e := z.2
          rw [z_below hL h2 hk] at e
          have := (nI_eq (by omega) hq31).mp e
          subst this
          omega))
      rw [hn]
      exact hL.row (by omega) (by decide)
  · rw [if_neg c1, if_neg c1]
theorem z_eqn {w : Int32} {j : Nat} (hj : j < 1000) (h : ¬ w = nI j) : w.toInt ≠ j := fun e => h (z_ext (by rw [nI_toInt (by omega)]; exact e))
theorem z_lossE (hL : z_L V (W 1) n g) (h1 : y_1 (W 1) n) (h2 : y_2 (W 1) n mb) {b g0 : Nat} (hb : b < 5) : q_loss V b g0 3 = m_lossN W n b g0 3 := by
  unfold q_loss m_lossN
  rw [hL.bin hb (by decide)]
  exact k_iter_congr (fun j hj a => by rw [z_surplus hL h2 h1.ok (by omega), z_min])
theorem t_binOf {bn w : Int32} (h : z_R V (W 1) n mb lo hi) : q_tellBin V bn w = m_binOf W bn w n := by
  obtain ⟨g, hL, h1, h2, h3⟩ := h
  unfold q_tellBin m_binOf
  by_cases c1 : k_in bn 5
  · rw [if_pos c1, if_pos (z_in5.mpr c1)]
    obtain ⟨hb, -, -⟩ := z_cl c1 (N := 5) rfl
    generalize bn.toNatClampNeg = b at hb ⊢
    have e0 := hL.bin hb (j := 0) (by decide)
    rw [Nat.add_zero] at e0
    by_cases c : w = 0
    · subst c; rw [if_pos rfl, if_pos (by decide), if_neg (by decide)]; exact e0
    rw [if_neg c]
    by_cases d : w = 1
    · subst d; rw [if_pos rfl, if_pos (by decide), if_neg (by decide)]; exact hL.bin hb (by decide)
    rw [if_neg d]
    by_cases e : w = 2
    · subst e; rw [if_pos rfl, if_pos (by decide), if_pos rfl, e0]; exact z_lossE hL h1 h2 hb
    rw [if_neg e, if_neg]
    intro z
    have hz : 0 ≤ w.toInt ∧ w.toInt ≤ 2 := z_rg z
    have := z_eqn (j := 0) (by decide) c
    have := z_eqn (j := 1) (by decide) d
    have := z_eqn (j := 2) (by decide) e
    omega
  · rw [if_neg c1, if_neg (fun z => c1 (z_in5.mp z))]
theorem z_grainE (hL : z_L V (W 1) n g) {x : Int32} : q_grainOf V x x = m_inBins W x := k_sum_congr (fun b hb => by
  have e0 := hL.bin hb (j := 0) (by decide)
  rw [Nat.add_zero] at e0
  unfold q_grainF m_binF
  rw [e0, hL.bin hb (by decide)]
  by_cases c : W 1 (24 + 2 * b) = x
  · rw [if_pos c, if_pos (by rw [c]; exact ⟨Int32.lt_irrefl, Int32.lt_irrefl⟩)]
  · rw [if_neg c, if_neg (fun z => c (z_ext (by simp only [Int32.lt_iff_toInt_lt] at z; omega)))])
theorem z_recsE (hL : z_L V (W 1) n g) (h2 : y_2 (W 1) n mb) {x : Int32} : q_receiptsOf V x x = m_inReceipts W n x := hL.sum (fun i _ hf => if_neg (fun z => z_unused hf z.1)) (fun k hk => by
  unfold q_recF m_recF
  rw [hL.row hk (j := 2) (by decide), hL.row hk (j := 3) (by decide)]
  by_cases c : W 1 (34 + 7 * k + 2) = x
  · rw [if_pos c, if_pos ⟨z_used hL h2 hk, by rw [c]; exact ⟨Int32.lt_irrefl, Int32.lt_irrefl⟩⟩]
  · rw [if_neg c, if_neg (fun z => c (z_ext (by have z := z.2; simp only [Int32.lt_iff_toInt_lt] at z; omega)))])
theorem t_gradeOf {x w : Int32} (h : z_R V (W 1) n mb lo hi) : q_tellGrade V x w = m_gradeOf W x w n := by
  obtain ⟨g, hL, h1, h2, h3⟩ := h
  unfold q_tellGrade m_gradeOf
  by_cases c1 : k_in x 3
  · rw [if_pos c1, if_pos (z_in3.mpr c1)]
    obtain ⟨hx, ex, -⟩ := z_cl c1 (N := 3) rfl
    by_cases c : w = 0
    · subst c; rw [if_pos rfl, if_pos (by decide), if_pos rfl]; exact hL.pr hx
    rw [if_neg c]
    by_cases d : w = 1
    · subst d; rw [if_pos rfl, if_pos (by decide), if_neg (by decide), if_pos rfl]; exact z_grainE hL
    rw [if_neg d]
    by_cases e : w = 2
    · subst e; rw [if_pos rfl, if_pos (by decide), if_neg (by decide), if_neg (by decide), if_pos rfl]; exact z_recsE hL h2
    rw [if_neg e]
    by_cases f : w = 3
    · subst f; rw [if_pos rfl, if_pos (by decide), if_neg (by decide), if_neg (by decide), if_neg (by decide), if_pos rfl, ← z_surplus hL h2 h1.ok hx, ← ex]
    rw [if_neg f]
    by_cases i : w = 4
    · subst i; rw [if_pos rfl, if_pos (by decide), if_neg (by decide), if_neg (by decide), if_neg (by decide), if_neg (by decide)]; exact z_roomIn hL
    rw [if_neg i, if_neg]
    intro z
    have hz : 0 ≤ w.toInt ∧ w.toInt ≤ 4 := z_rg z
    have := z_eqn (j := 0) (by decide) c
    have := z_eqn (j := 1) (by decide) d
    have := z_eqn (j := 2) (by decide) e
    have := z_eqn (j := 3) (by decide) f
    have := z_eqn (j := 4) (by decide) i
    omega
  · rw [if_neg c1, if_neg (fun z => c1 (z_in3.mp z))]
theorem z_own (hL : z_L V (W 1) n g) (h2 : y_2 (W 1) n mb) {o : Int32} {f F : Nat → Int32} (hf : ∀ k, k < n → f (g k) = F k) : k_sum (q_ownF V o f) 16 = k_sum (m_ownF W o F) n := hL.sum (fun i _ hf => if_neg (fun z => z_unused hf z.1)) (fun k hk => by
  unfold q_ownF m_ownF
  have e := hL.row hk (j := 1) (by decide)
  by_cases c : W 1 (34 + 7 * k + 1) = o
  · rw [if_pos c, if_pos ⟨z_used hL h2 hk, e.trans c⟩]; exact hf k hk
  · rw [if_neg c, if_neg (fun z => c (e.symm.trans z.2))])
theorem t_ownerOf {o w : Int32} (h : z_R V (W 1) n mb lo hi) : q_tellOwner V o w = m_ownerOf W o w n := by
  obtain ⟨g, hL, h1, h2, h3⟩ := h
  unfold q_tellOwner m_ownerOf
  by_cases c1 : k_in o 8
  · rw [if_pos c1, if_pos (z_in8.mpr c1)]
    obtain ⟨ho, -, -⟩ := z_cl c1 (N := 8) rfl
    by_cases c : w = 0
    · subst c; rw [if_pos rfl, if_pos (by decide), if_pos rfl]; exact hL.mo ho
    rw [if_neg c]
    by_cases d : w = 1
    · subst d; rw [if_pos rfl, if_pos (by decide), if_neg (by decide), if_pos rfl]; exact z_own hL h2 (fun _ _ => rfl)
    rw [if_neg d]
    by_cases e : w = 2
    · subst e; rw [if_pos rfl, if_pos (by decide), if_neg (by decide), if_neg (by decide), if_pos rfl]; exact z_own hL h2 (fun k hk => hL.row hk (by decide))
    rw [if_neg e]
    by_cases f : w = 3
    · subst f; rw [if_pos rfl, if_pos (by decide), if_neg (by decide), if_neg (by decide), if_neg (by decide), if_pos rfl]; exact z_own hL h2 (fun k hk => hL.row hk (by decide))
    rw [if_neg f]
    by_cases i : w = 4
    · subst i; rw [if_pos rfl, if_pos (by decide), if_neg (by decide), if_neg (by decide), if_neg (by decide), if_neg (by decide), hL.mo ho]
      rw [z_own hL h2 (F := fun k => W 1 (34 + 7 * k + 3) * W 1 (10 + (W 1 (34 + 7 * k + 2)).toNatClampNeg)) (fun k hk => by
        obtain ⟨-, hr2, -⟩ := h1.row hk
        obtain ⟨j, hj, ej⟩ := z_lo (N := 3) hr2.1 (by omega)
        rw [hL.row hk (by decide), hL.row hk (by decide), ej]
        unfold q_priceOf
        rw [nI_clamp (by omega), if_pos ⟨nI_pos (by omega), nI_ge hj (by decide)⟩, hL.pr hj])]
      rw [z_own hL h2 (F := fun k => W 1 (34 + 7 * k + 5)) (fun k hk => hL.row hk (by decide))]
      have e : k_sum (m_ownF W o (m_netF W)) n = k_sum (m_ownF W o (fun k => W 1 (34 + 7 * k + 3) * W 1 (10 + (W 1 (34 + 7 * k + 2)).toNatClampNeg))) n - k_sum (m_ownF W o (fun k => W 1 (34 + 7 * k + 5))) n := by
        rw [← k_sum_sub]
        refine k_sum_congr (fun k hk => ?_)
        unfold m_ownF m_netF
        by_cases c : W 1 (34 + 7 * k + 1) = o
        · rw [if_pos c, if_pos c, if_pos c]
        · rw [if_neg c, if_neg c, if_neg c]; decide
      rw [e]
      grind
    rw [if_neg i, if_neg]
    intro z
    have hz : 0 ≤ w.toInt ∧ w.toInt ≤ 4 := z_rg z
    have := z_eqn (j := 0) (by decide) c
    have := z_eqn (j := 1) (by decide) d
    have := z_eqn (j := 2) (by decide) e
    have := z_eqn (j := 3) (by decide) f
    have := z_eqn (j := 4) (by decide) i
    omega
  · rw [if_neg c1, if_neg (fun z => c1 (z_in8.mp z))]
theorem z_len (hL : z_L V (W 1) n g) {le : Int32} (hle : 0 ≤ le.toInt) {f F : Nat → Int32} (hf : ∀ k, k < n → W 1 (34 + 7 * k + 4) = le → f (g k) = F k) : k_sum (q_lenF V le f) 16 = k_sum (fun k => if W 1 (34 + 7 * k + 4) = le then F k else 0) n := hL.sum (fun i _ hfr => if_neg (fun z => by
  have e := hfr.2.2.2.2.1.symm.trans z
  rw [← e, show (-1 : Int32).toInt = -1 from rfl] at hle
  omega)) (fun k hk => by
  unfold q_lenF
  have e := hL.row hk (j := 4) (by decide)
  by_cases c : W 1 (34 + 7 * k + 4) = le
  · rw [if_pos c, if_pos (e.trans c)]; exact hf k hk c
  · rw [if_neg c, if_neg (fun z => c (e.symm.trans z))])
theorem t_lenderOf {le w : Int32} (h : z_R V (W 1) n mb lo hi) : q_tellLender V le w = m_lenderOf W le w n := by
  obtain ⟨g, hL, h1, h2, h3⟩ := h
  unfold q_tellLender m_lenderOf
  by_cases c1 : k_in le 3
  · rw [if_pos c1, if_pos (z_in3.mpr c1)]
    obtain ⟨hl, -, hli⟩ := z_cl c1 (N := 3) rfl
    have hle : 0 ≤ le.toInt := by omega
    by_cases c : w = 0
    · subst c; rw [if_pos rfl, if_pos (by decide), if_neg (by decide)]
      refine (z_len hL hle (F := m_lenT W le 0) (fun k hk _ => ?_)).trans rfl
      unfold m_lenT
      rw [if_neg (by decide), if_neg (by decide), if_pos (Or.inl rfl)]
    rw [if_neg c]
    by_cases d : w = 1
    · subst d; rw [if_pos rfl, if_pos (by decide), if_neg (by decide)]
      refine (z_len hL hle (F := m_lenT W le 1) (fun k hk _ => ?_)).trans rfl
      unfold m_lenT
      rw [if_pos rfl]; exact hL.row hk (by decide)
    rw [if_neg d]
    by_cases e : w = 2
    · subst e; rw [if_pos rfl, if_pos (by decide), if_neg (by decide)]
      refine (z_len hL hle (F := m_lenT W le 2) (fun k hk _ => ?_)).trans rfl
      unfold m_lenT
      rw [if_neg (by decide), if_pos rfl]; exact z_worth hL hk
    rw [if_neg e]
    by_cases f : w = 3
    · subst f; rw [if_pos rfl, if_pos (by decide), if_neg (by decide)]
      refine (z_len hL hle (F := m_lenT W le 3) (fun k hk _ => ?_)).trans rfl
      unfold m_lenT
      rw [if_neg (show ¬ (3 : Int32) = 1 by decide), if_neg (show ¬ (3 : Int32) = 2 by decide)]
      have e6 := hL.row hk (j := 6) (by decide)
      by_cases c : 0 < W 1 (34 + 7 * k + 6)
      · rw [if_pos (show ¬ V (12 + g k) 6 ≤ 0 by rw [e6]; exact z_le.mpr c), if_pos (Or.inr (Or.inl ⟨rfl, c⟩))]
      · rw [if_neg (fun z => c (by rw [← e6]; exact z_le.mp z)), if_neg (fun z => by
          rcases z with z | z | z
          · exact absurd z (by decide)
          · exact c z.2
          · exact absurd z.1 (by decide))]
    rw [if_neg f]
    by_cases i : w = 4
    · subst i; rw [if_pos rfl, if_pos (by decide), if_pos rfl]; exact hL.sz hl
    rw [if_neg i]
    by_cases j : w = 5
    · subst j; rw [if_pos rfl, if_pos (by decide), if_neg (by decide)]
      refine (z_len hL hle (F := m_lenT W le 5) (fun k hk _ => ?_)).trans rfl
      unfold m_lenT
      rw [if_neg (show ¬ (5 : Int32) = 1 by decide), if_neg (show ¬ (5 : Int32) = 2 by decide)]
      by_cases c : m_would W k le
      · rw [if_pos ((z_would hL h1 hk).mpr c), if_pos (Or.inr (Or.inr ⟨rfl, c⟩))]
      · rw [if_neg (fun z => c ((z_would hL h1 hk).mp z)), if_neg (fun z => by
          rcases z with z | z | z
          · exact absurd z (by decide)
          · exact absurd z.1 (by decide)
          · exact c z.2)]
    rw [if_neg j, if_neg]
    intro z
    have hz : 0 ≤ w.toInt ∧ w.toInt ≤ 5 := z_rg z
    have := z_eqn (j := 0) (by decide) c
    have := z_eqn (j := 1) (by decide) d
    have := z_eqn (j := 2) (by decide) e
    have := z_eqn (j := 3) (by decide) f
    have := z_eqn (j := 4) (by decide) i
    have := z_eqn (j := 5) (by decide) j
    omega
  · rw [if_neg c1, if_neg (fun z => c1 (z_in3.mp z))]
theorem t_fallTo {le : Int32} (h : z_R V (W 1) n mb lo hi) : q_fallTo V le = m_fallTo W le n := by
  obtain ⟨g, hL, h1, h2, h3⟩ := h
  unfold q_fallTo m_fallTo
  by_cases c1 : k_in le 3
  · rw [if_pos c1, if_pos (z_in3.mpr c1)]
    have hle := (z_rk c1).1
    have e : ∀ pr, q_anyW V le pr = m_any W le pr n := fun pr => hL.any (fun i _ hf => decide_eq_false (z_free_nw hf hle)) (fun k hk => by
      refine decide_eq_decide.mpr ?_
      unfold q_would m_wAt
      rw [hL.row hk (j := 4) (by decide), hL.row hk (j := 5) (by decide), z_left0 hL h1 hk, z_lim hL hk])
    rw [show (fun j => q_anyW V le (nI (99 - j))) = fun j => m_any W le (nI (99 - j)) n from funext fun j => e _]
    cases k_find (fun j => m_any W le (nI (99 - j)) n) 99 with
    | none => rfl
    | some j => rfl
  · rw [if_neg c1, if_neg (fun z => c1 (z_in3.mp z))]
end ZQ
