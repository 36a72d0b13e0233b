/-! ===== what the questions answer, in the words of the row ===== -/
def u_loan (W : g_V) (k : Nat) : Int32 := if m_pledged W k then W 1 (34 + 7 * k + 5) else -2000000004
def u_W (S : Nat → Int32) : g_V := fun _ => S
section UV
variable {V V' W : g_V} {S : Nat → Int32} {n : Nat} {g : Nat → Nat} {mb lo hi : Int} {k : Nat} {x : Int32}
theorem u_place (h2 : y_2 (W 1) n mb) (hk : k < n) : m_place W (W 1 (34 + 7 * k)) n = some k := by
  cases hp : m_place W (W 1 (34 + 7 * k)) n with
  | none =>
    unfold m_place at hp
    exact absurd rfl (of_decide_eq_false (k_last_none hp k hk))
  | some k' =>
    obtain ⟨a, b⟩ := z_place hp
    rw [h2.eq a hk b]
theorem u_no (hne : ∀ k, k < n → W 1 (34 + 7 * k) ≠ x) : m_place W x n = none := by
  cases hp : m_place W x n with
  | none => rfl
  | some k' =>
    obtain ⟨a, b⟩ := z_place hp
    exact absurd b (hne k' a)
theorem u_made (h2 : y_2 (W 1) n mb) : m_place W (W 1 2) n = none := u_no (fun k hk e => by
  have := (h2.2.1 k hk).2
  rw [e] at this
  omega)
theorem u_made1 (h2 : y_2 (W 1) n mb) (hm : mb < 2000000000) : m_place W (W 1 2 + 1) n = none := u_no (fun k hk e => by
  have h1 := (h2.2.1 k hk).2
  have h3 := h2.2.2
  have e1 : (W 1 2 + 1).toInt = (W 1 2).toInt + 1 := by rw [z_add (by rw [z_i1]; omega) (by rw [z_i1]; omega), z_i1]
  rw [e, e1] at h1
  omega)
theorem u_find (hL : z_L V (W 1) n g) (h2 : y_2 (W 1) n mb) (hk : k < n) : q_find V (W 1 (34 + 7 * k)) = some (g k) := by
  rw [z_find hL h2, u_place h2 hk]
  rfl
theorem u_r0 (h : z_R V (W 1) n mb lo hi) (hk : k < n) : q_tellReceipt V (W 1 (34 + 7 * k)) 0 = W 1 (34 + 7 * k + 1) := by
  obtain ⟨g, hL, h1, h2, h3⟩ := h
  unfold q_tellReceipt
  rw [u_find hL h2 hk]
  exact hL.row hk (by decide)
theorem u_r1 (h : z_R V (W 1) n mb lo hi) (hk : k < n) : q_tellReceipt V (W 1 (34 + 7 * k)) 1 = W 1 (34 + 7 * k + 2) := by
  obtain ⟨g, hL, h1, h2, h3⟩ := h
  unfold q_tellReceipt
  rw [u_find hL h2 hk]
  exact hL.row hk (by decide)
theorem u_r2 (h : z_R V (W 1) n mb lo hi) (hk : k < n) : q_tellReceipt V (W 1 (34 + 7 * k)) 2 = W 1 (34 + 7 * k + 3) := by
  obtain ⟨g, hL, h1, h2, h3⟩ := h
  unfold q_tellReceipt
  rw [u_find hL h2 hk]
  exact hL.row hk (by decide)
theorem u_r3 (h : z_R V (W 1) n mb lo hi) (hk : k < n) : q_tellReceipt V (W 1 (34 + 7 * k)) 3 = m_worth W k := by
  obtain ⟨g, hL, h1, h2, h3⟩ := h
  unfold q_tellReceipt
  rw [u_find hL h2 hk]
  exact z_worth hL hk
theorem u_r4 (h : z_R V (W 1) n mb lo hi) (hk : k < n) : q_tellReceipt V (W 1 (34 + 7 * k)) 4 = if m_pledged W k then W 1 (34 + 7 * k + 4) else -2000000004 := by
  obtain ⟨g, hL, h1, h2, h3⟩ := h
  unfold q_tellReceipt
  rw [u_find hL h2 hk]
  have e : (if q_pledged V (g k) then V (12 + g k) 4 else -2000000004) = if m_pledged W k then W 1 (34 + 7 * k + 4) else -2000000004 := by
    by_cases c : m_pledged W k
    · rw [if_pos ((z_pledged hL h1 hk).mpr c), if_pos c]; exact hL.row hk (by decide)
    · rw [if_neg (fun z => c ((z_pledged hL h1 hk).mp z)), if_neg c]
  exact e
theorem u_r5 (h : z_R V (W 1) n mb lo hi) (hk : k < n) : q_tellReceipt V (W 1 (34 + 7 * k)) 5 = u_loan W k := by
  obtain ⟨g, hL, h1, h2, h3⟩ := h
  unfold q_tellReceipt
  rw [u_find hL h2 hk]
  have e : (if q_pledged V (g k) then V (12 + g k) 5 else -2000000004) = u_loan W k := by
    unfold u_loan
    by_cases c : m_pledged W k
    · rw [if_pos ((z_pledged hL h1 hk).mpr c), if_pos c]; exact hL.row hk (by decide)
    · rw [if_neg (fun z => c ((z_pledged hL h1 hk).mp z)), if_neg c]
  exact e
theorem u_r7 (h : z_R V (W 1) n mb lo hi) (hk : k < n) : q_tellReceipt V (W 1 (34 + 7 * k)) 7 = m_share W k 0 := by
  obtain ⟨g, hL, h1, h2, h3⟩ := h
  unfold q_tellReceipt
  rw [u_find hL h2 hk]
  exact z_glo hL hk
theorem u_r8 (h : z_R V (W 1) n mb lo hi) (hk : k < n) : q_tellReceipt V (W 1 (34 + 7 * k)) 8 = if m_above W k then W 1 (34 + 7 * k + 5) - m_share W k 1 else 0 := by
  rw [t_receiptOf h]
  obtain ⟨g, hL, h1, h2, h3⟩ := h
  unfold m_receiptOf
  rw [u_place h2 hk]
  dsimp only
  rw [if_pos (by decide), if_neg (by decide), if_neg (by decide), if_neg (by decide), if_neg (by decide), if_neg (by decide), if_pos rfl]
theorem u_r9 (h : z_R V (W 1) n mb lo hi) (hk : k < n) : q_tellReceipt V (W 1 (34 + 7 * k)) 9 = (FP.fdiv (FP.i2f (W 1 (34 + 7 * k + 5))) (FP.i2f (m_worth W k))).toInt32 := by
  rw [t_receiptOf h]
  obtain ⟨g, hL, h1, h2, h3⟩ := h
  unfold m_receiptOf
  rw [u_place h2 hk]
  dsimp only
  rw [if_pos (by decide), if_neg (by decide), if_neg (by decide), if_neg (by decide), if_neg (by decide), if_neg (by decide), if_neg (by decide), if_pos rfl]
theorem u_none {w : Int32} (h : z_R V (W 1) n mb lo hi) (hp : m_place W x n = none) : q_tellReceipt V x w = -2000000001 := by
  rw [t_receiptOf h]
  unfold m_receiptOf
  rw [hp]
theorem u_v (h : z_R V (W 1) n mb lo hi) (hv : v_4 V) (hk : k < n) : (¬ m_pledged W k ∧ W 1 (34 + 7 * k + 5) = 0) ∨ (m_pledged W k ∧ 1 ≤ (W 1 (34 + 7 * k + 5)).toInt) := by
  obtain ⟨g, hL, h1, h2, h3⟩ := h
  have e5 := hL.row hk (j := 5) (by decide)
  rcases hv (g k) (hL.g16 hk) with ⟨a, b⟩ | ⟨a, b⟩
  · exact Or.inl ⟨fun z => (z_pledged hL h1 hk).mpr z a, e5.symm.trans b⟩
  · exact Or.inr ⟨(z_pledged hL h1 hk).mp a, by rw [← e5]; exact b⟩
theorem u_worth (h : z_R V (W 1) n mb lo hi) (hk : k < n) : 1 ≤ (m_worth W k).toInt ∧ (m_worth W k).toInt ≤ 990000 := by
  obtain ⟨g, hL, h1, h2, h3⟩ := h
  obtain ⟨-, a, b, -⟩ := m_worth_i h1 hk
  exact ⟨a, b⟩
theorem u_bits (h : z_R V (W 1) n mb lo hi) (hv : v_4 V) (hk : k < n) : (FP.fdiv (FP.i2f (W 1 (34 + 7 * k + 5))) (FP.i2f (m_worth W k))).toInt32 = 0 ↔ ¬ m_pledged W k := by
  obtain ⟨w1, w2⟩ := u_worth h hk
  obtain ⟨E2, T2, b1, b2, b3, b4⟩ := kF_int (a := (m_worth W k).toInt.toNat) (by omega) (by omega)
  rw [← z_nI (by omega)] at b4
  rw [b4]
  rcases u_v h hv hk with ⟨a, b⟩ | ⟨a, b⟩
  · rw [b, show FP.i2f 0 = 0 from by decide, kF_quot0 b1 b2 b3]
    exact ⟨fun _ => a, fun _ => by decide⟩
  · obtain ⟨g, hL, h1, h2, h3⟩ := h
    obtain ⟨-, -, -, -, h5, -⟩ := h1.row hk
    obtain ⟨E, T, a1, a2, a3, a4⟩ := kF_int (a := (W 1 (34 + 7 * k + 5)).toInt.toNat) (by omega) (by omega)
    rw [← z_nI (by omega)] at a4
    rw [a4]
    obtain ⟨E', T', d1, d2, d3, d4⟩ := kF_quotP a1 a2 a3 b1 b2 b3
    rw [d4]
    refine ⟨fun z => ?_, fun z => absurd a z⟩
    have e1 := kF_nat (E := E') (T := T') d2 d3
    have e2 : kF E' T' = 0 := by
      have h0 : ((kF E' T').toInt32).toUInt32 = (0 : Int32).toUInt32 := congrArg Int32.toUInt32 z
      rw [show ((kF E' T').toInt32).toUInt32 = kF E' T' from rfl, show (0 : Int32).toUInt32 = 0 from by decide] at h0
      exact h0
    rw [e2] at e1
    have : (0 : UInt32).toNat = 0 := rfl
    omega
theorem u_num (h : z_R V (W 1) n mb lo hi) (hk : k < n) : q_numberAt V (nI k) = W 1 (34 + 7 * k) := by
  rw [t_receipt h]
  obtain ⟨g, hL, h1, h2, h3⟩ := h
  have := hL.n16
  unfold m_receipt
  rw [if_pos (nI_pos' (by omega)), if_neg (nI_ge hk (by omega)), nI_clamp (by omega), Nat.add_zero]
theorem u_numn (h : z_R V (W 1) n mb lo hi) : q_numberAt V (nI n) = -2000000004 := by
  rw [t_receipt h]
  obtain ⟨g, hL, h1, h2, h3⟩ := h
  have := hL.n16
  unfold m_receipt
  rw [if_pos (nI_pos' (by omega)), if_pos (Int32.le_refl _)]
theorem u_c0 (h : z_R V (W 1) n mb lo hi) : q_tellNumber V 0 = nI n := by
  obtain ⟨g, hL, h1, h2, h3⟩ := h
  exact z_count0 hL h2
theorem u_c3 (h : z_R V (W 1) n mb lo hi) : q_tellNumber V 3 = W 1 1 := by
  obtain ⟨g, hL, h1, h2, h3⟩ := h
  exact hL.sc (j := 6) (by decide) (by decide)
theorem u_c4 (h : z_R V (W 1) n mb lo hi) : q_tellNumber V 4 = W 1 2 := by
  obtain ⟨g, hL, h1, h2, h3⟩ := h
  exact hL.sc (j := 7) (by decide) (by decide)
theorem u_c5 (h : z_R V (W 1) n mb lo hi) : q_tellNumber V 5 = W 1 3 := by
  obtain ⟨g, hL, h1, h2, h3⟩ := h
  exact hL.sc (j := 8) (by decide) (by decide)
theorem u_c20 (h : z_R V (W 1) n mb lo hi) : q_tellNumber V 20 = W 1 6 := by
  obtain ⟨g, hL, h1, h2, h3⟩ := h
  exact hL.se (j := 0) (by decide)
theorem u_c21 (h : z_R V (W 1) n mb lo hi) : q_tellNumber V 21 = W 1 7 := by
  obtain ⟨g, hL, h1, h2, h3⟩ := h
  exact hL.se (j := 1) (by decide)
theorem u_g20 (h : z_R V (W 1) n mb lo hi) : q_tellGrade V 2 0 = W 1 12 := by
  obtain ⟨g, hL, h1, h2, h3⟩ := h
  exact hL.pr (j := 2) (by decide)
/-- the sums of holds -/
theorem u_sum (h : z_R V (W 1) n mb lo hi) : k_sum (fun k => W 1 (34 + 7 * k + 3)) n = q_receiptsOf V 0 2 := by
  obtain ⟨g, hL, h1, h2, h3⟩ := h
  refine (hL.sum (f := q_recF V 0 2) (fun i hi hf => ?_) (fun k hk => ?_)).symm
  · unfold q_recF
    exact if_neg (fun z => z_unused hf z.1)
  · obtain ⟨-, hg, -⟩ := h1.row hk
    have e := hL.row hk (j := 2) (by decide)
    unfold q_recF
    rw [if_pos]
    · exact hL.row hk (by decide)
    · refine ⟨z_used hL h2 hk, ?_, ?_⟩
      · rw [e, Int32.lt_iff_toInt_lt, z_i0]; omega
      · rw [e, Int32.lt_iff_toInt_lt, show (2 : Int32).toInt = 2 from rfl]; omega
theorem u_len2 (h : z_R V (W 1) n mb lo hi) {le : Int32} (hle : le = 0 ∨ le = 1 ∨ le = 2) : q_tellLender V le 2 = k_sum (fun k => if W 1 (34 + 7 * k + 4) = le then m_worth W k else 0) n := by
  obtain ⟨g, hL, h1, h2, h3⟩ := h
  have e : k_sum (q_lenF V le (fun i => q_worth V i)) 16 = k_sum (fun k => if W 1 (34 + 7 * k + 4) = le then m_worth W k else 0) n := z_len hL (by rcases hle with rfl | rfl | rfl <;> decide) (fun k hk _ => z_worth hL hk)
  rcases hle with rfl | rfl | rfl <;> exact e
theorem u_worths (h : z_R V (W 1) n mb lo hi) : k_sum (fun k => if m_pledged W k then m_worth W k else 0) n = q_tellLender V 0 2 + q_tellLender V 1 2 + q_tellLender V 2 2 := by
  rw [u_len2 h (Or.inl rfl), u_len2 h (Or.inr (Or.inl rfl)), u_len2 h (Or.inr (Or.inr rfl)), ← k_sum_add, ← k_sum_add]
  obtain ⟨g, hL, h1, h2, h3⟩ := h
  refine k_sum_congr (fun k hk => ?_)
  obtain ⟨-, -, -, h4, -⟩ := h1.row hk
  have e : W 1 (34 + 7 * k + 4) = -1 ∨ W 1 (34 + 7 * k + 4) = 0 ∨ W 1 (34 + 7 * k + 4) = 1 ∨ W 1 (34 + 7 * k + 4) = 2 := by
    rcases (show (W 1 (34 + 7 * k + 4)).toInt = -1 ∨ (W 1 (34 + 7 * k + 4)).toInt = 0 ∨ (W 1 (34 + 7 * k + 4)).toInt = 1 ∨ (W 1 (34 + 7 * k + 4)).toInt = 2 by omega) with e | e | e | e
    · exact Or.inl (z_ext e)
    · exact Or.inr (Or.inl (z_ext e))
    · exact Or.inr (Or.inr (Or.inl (z_ext e)))
    · exact Or.inr (Or.inr (Or.inr (z_ext e)))
  have no : ∀ a b : Int32, W 1 (34 + 7 * k + 4) = a → ¬ a = b → ¬ W 1 (34 + 7 * k + 4) = b := fun a b h1 h2 h3 => h2 (h1.symm.trans h3)
  have pl : ∀ a : Int32, W 1 (34 + 7 * k + 4) = a → ¬ a < 0 → m_pledged W k := fun a h1 h2 h3 => h2 (h1 ▸ h3)
  rcases e with e | e | e | e
  · rw [if_neg (no _ 0 e (by decide)), if_neg (no _ 1 e (by decide)), if_neg (no _ 2 e (by decide)), if_neg (show ¬ m_pledged W k from fun z => z (by rw [e]; decide))]; rfl
  · rw [if_pos e, if_neg (no _ 1 e (by decide)), if_neg (no _ 2 e (by decide)), if_pos (pl _ e (by decide)), Int32.add_zero, Int32.add_zero]
  · rw [if_neg (no _ 0 e (by decide)), if_pos e, if_neg (no _ 2 e (by decide)), if_pos (pl _ e (by decide)), Int32.add_zero, Int32.zero_add]
  · rw [if_neg (no _ 0 e (by decide)), if_neg (no _ 1 e (by decide)), if_pos e, if_pos (pl _ e (by decide)), Int32.zero_add, Int32.zero_add]
theorem u_sur (h : z_R V (W 1) n mb lo hi) {j : Nat} (hj : j < 3) : 0 ≤ (q_surplus V (nI j)).toInt := by
  obtain ⟨g, hL, h1, h2, h3⟩ := h
  have e := z_sur hL h2 h1.ok hj
  have := h1.cov (j : Int) (by omega) (by omega)
  omega
theorem u_cov (h : z_R V (W 1) n mb lo hi) : (q_receiptsOf V 0 2).toInt ≤ (q_grainOf V 0 2).toInt := by
  obtain ⟨g, hL, h1, h2, h3⟩ := h
  have e1 := z_grain hL h1.bins (x := 2) (by decide)
  have e2 := z_recs hL h2 h1.ok (x := 2) (by decide)
  have := h1.cov ((2 : Nat) : Int) (by decide) (by decide)
  have e3 : (nI 2 : Int32) = 2 := rfl
  rw [e3] at e1 e2
  omega
/-- two pictures of one row answer alike -/
theorem z_same.tell (h : z_same V V') {x w : Int32} : q_tellReceipt V x w = q_tellReceipt V' x w ∧ q_numberAt V x = q_numberAt V' x ∧ q_tellBin V x w = q_tellBin V' x w ∧ q_tellGrade V x w = q_tellGrade V' x w ∧ q_tellOwner V x w = q_tellOwner V' x w ∧ q_tellLender V x w = q_tellLender V' x w ∧ q_fallTo V x = q_fallTo V' x ∧ (¬ x = 8 → ¬ x = 9 → q_tellNumber V x = q_tellNumber V' x) := by
  obtain ⟨S, n, mb, lo, hi, a, b⟩ := h
  have a : z_R V (u_W S 1) n mb lo hi := a
  have b : z_R V' (u_W S 1) n mb lo hi := b
  exact ⟨(t_receiptOf a).trans (t_receiptOf b).symm, (t_receipt a).trans (t_receipt b).symm, (t_binOf a).trans (t_binOf b).symm, (t_gradeOf a).trans (t_gradeOf b).symm, (t_ownerOf a).trans (t_ownerOf b).symm, (t_lenderOf a).trans (t_lenderOf b).symm, (t_fallTo a).trans (t_fallTo b).symm, fun h8 h9 => (t_count a h8 h9).trans (t_count b h8 h9).symm⟩
theorem q_cnt_of {P : g_P} {M : g_M} (h8 : ¬ x = 8) (h9 : ¬ x = 9) : q_cnt P M x = q_tellNumber (M (P 0)) x := by
  unfold q_cnt
  rw [if_neg h8, if_neg h9]
end UV
