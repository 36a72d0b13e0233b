/-! ===== prices, pledges, payments: both sides answer alike ===== -/
theorem z_rg {x a b : Int32} (h : m_in x a b) : a.toInt ≤ x.toInt ∧ x.toInt ≤ b.toInt := by
  obtain ⟨h1, h2⟩ := h
  rw [Int32.lt_iff_toInt_lt] at h1 h2
  omega
theorem z_rk {x b : Int32} (h : k_in x b) : 0 ≤ x.toInt ∧ x.toInt < b.toInt := by
  obtain ⟨h1, h2⟩ := h
  rw [Int32.lt_iff_toInt_lt, z_i0] at h1
  rw [Int32.le_iff_toInt_le] at h2
  omega
section YU
variable {S : Nat → Int32} {n k : Nat} {v : Int32}
theorem y_row.o (h : y_row S k) (h1 : 0 ≤ v.toInt ∧ v.toInt ≤ 7) : y_row (upd S (34 + 7 * k + 1) v) k := by
  unfold y_row at h ⊢
  rw [upd_at, upd_ne (by omega), upd_ne (by omega), upd_ne (by omega), upd_ne (by omega), upd_ne (by omega)]
  exact ⟨h1, h.2⟩
theorem y_row.le (h : y_row S k) (h1 : -1 ≤ v.toInt ∧ v.toInt ≤ 2) (h2 : 0 < (S (34 + 7 * k + 6)).toInt → 0 ≤ v.toInt) : y_row (upd S (34 + 7 * k + 4) v) k := by
  unfold y_row at h ⊢
  rw [upd_at, upd_ne (by omega), upd_ne (by omega), upd_ne (by omega), upd_ne (by omega), upd_ne (by omega)]
  exact ⟨h.1, h.2.1, h.2.2.1, h1, h.2.2.2.2.1, h.2.2.2.2.2.1, h2⟩
theorem y_row.lo (h : y_row S k) (h1 : 0 ≤ v.toInt ∧ v.toInt ≤ 990000) : y_row (upd S (34 + 7 * k + 5) v) k := by
  unfold y_row at h ⊢
  rw [upd_at, upd_ne (by omega), upd_ne (by omega), upd_ne (by omega), upd_ne (by omega), upd_ne (by omega)]
  exact ⟨h.1, h.2.1, h.2.2.1, h.2.2.2.1, h1, h.2.2.2.2.2⟩
theorem y_row.lf (h : y_row S k) (h1 : 0 ≤ v.toInt ∧ v.toInt ≤ 30) (h2 : 0 < v.toInt → 0 ≤ (S (34 + 7 * k + 4)).toInt) : y_row (upd S (34 + 7 * k + 6) v) k := by
  unfold y_row at h ⊢
  rw [upd_at, upd_ne (by omega), upd_ne (by omega), upd_ne (by omega), upd_ne (by omega), upd_ne (by omega)]
  exact ⟨h.1, h.2.1, h.2.2.1, h.2.2.2.1, h.2.2.2.2.1, h1, h2⟩
theorem y_1.r1 (h : y_1 S n) {j : Nat} (hj : j = 1 ∨ j = 4 ∨ j = 5 ∨ j = 6) (hr : k < n → y_row (upd S (34 + 7 * k + j) v) k) : y_1 (upd S (34 + 7 * k + j) v) n := h.rows (k := k) (fun x _ _ _ _ _ => upd_ne (by omega)) hr
theorem y_1.ms (h : y_1 S n) {j : Nat} (hj : (1 ≤ j ∧ j < 6) ∨ (13 ≤ j ∧ j < 24)) : y_1 (upd S j v) n := h.misc (fun x _ => upd_ne (by omega))
theorem y_2.up {mb : Int} (h : y_2 S n mb) {j : Nat} (h2 : j ≠ 2) (hj : j < 34 ∨ ∃ i f, 1 ≤ f ∧ f < 7 ∧ j = 34 + 7 * i + f) : y_2 (upd S j v) n mb := h.of (upd_ne (Ne.symm h2)) (fun k _ => upd_ne (by
  rcases hj with h | ⟨i, f, h⟩ <;> omega))
theorem y_3.up {lo hi : Int} (h : y_3 S lo hi) {j : Nat} (hj : j < 13 ∨ 21 ≤ j) : y_3 (upd S j v) lo hi := h.of (fun o _ => upd_ne (by omega))
theorem y_3.mo {lo hi lo' hi' : Int} (h : y_3 S lo hi) {o : Nat} (h1 : lo' ≤ lo) (h2 : hi ≤ hi') (hv : lo' ≤ v.toInt ∧ v.toInt ≤ hi') : y_3 (upd S (13 + o) v) lo' hi' := fun q hq => by
  by_cases e : q = o
  · subst e; rw [upd_at]; exact hv
  · rw [upd_ne (by omega)]; have := h q hq; omega
theorem y_set_pr (h : y_set S) {j : Nat} (hv : 1 ≤ v.toInt ∧ v.toInt ≤ 99) : y_set (upd S (10 + j) v) := by
  obtain ⟨a, b, c, d, f⟩ := h
  unfold y_set
  rw [upd_ne (by omega), upd_ne (by omega), upd_ne (by omega), upd_ne (by omega)]
  refine ⟨a, b, c, d, fun i hi => ?_⟩
  by_cases e : i = j
  · subst e; rw [upd_at]; exact hv
  · rw [upd_ne (by omega)]; exact f i hi
end YU
section ZM
variable {V W : g_V} {n : Nat} {g : Nat → Nat} {mb lo hi : Int} {k : Nat}
theorem z_pledged (hL : z_L V (W 1) n g) (h1 : y_1 (W 1) n) (hk : k < n) : q_pledged V (g k) ↔ m_pledged W k := by
  have h4 := (h1.row hk).2.2.2.1
  have e := hL.row hk (j := 4) (by decide)
  unfold q_pledged m_pledged
  rw [e, Int32.lt_iff_toInt_lt, z_i0]
  constructor
  · intro h h5
    exact h (z_ext (by show _ = (-1 : Int); omega))
  · intro h h5
    rw [h5, show (-1 : Int32).toInt = -1 from rfl] at h
    omega
theorem z_worth (hL : z_L V (W 1) n g) (hk : k < n) : q_worth V (g k) = m_worth W k := by
  unfold q_worth m_worth
  rw [hL.row hk (by decide), hL.pr (by decide)]
theorem z_glo (hL : z_L V (W 1) n g) (hk : k < n) : q_greatestLoan V (g k) = m_share W k 0 := by
  unfold q_greatestLoan m_share
  rw [z_worth hL hk, hL.se (by decide)]
theorem z_clim (hL : z_L V (W 1) n g) (hk : k < n) : q_callLimit V (q_worth V (g k)) = m_share W k 1 := by
  unfold q_callLimit m_share
  rw [z_worth hL hk, hL.se (by decide)]
theorem z_above (hL : z_L V (W 1) n g) (hk : k < n) : q_tooHigh V (g k) ↔ m_above W k := by
  unfold q_tooHigh m_above
  rw [hL.row hk (by decide), z_clim hL hk]
theorem m_worth_i (h1 : y_1 (W 1) n) (hk : k < n) : (m_worth W k).toInt = (W 1 (34 + 7 * k + 3)).toInt * (W 1 12).toInt ∧ 1 ≤ (m_worth W k).toInt ∧ (m_worth W k).toInt ≤ 990000 ∧ (m_worth W k).toInt ≤ 99 * (W 1 (34 + 7 * k + 3)).toInt := by
  have h2 := (h1.row hk).2.2.1
  have h3 := h1.amt hk
  have h4 := h1.set.2.2.2.2 2 (by decide)
  have h4 : 1 ≤ (W 1 12).toInt ∧ (W 1 12).toInt ≤ 99 := h4
  have h5 : (W 1 (34 + 7 * k + 3)).toInt * (W 1 12).toInt ≤ (W 1 (34 + 7 * k + 3)).toInt * 99 := Int.mul_le_mul_of_nonneg_left h4.2 (by omega)
  have h6 : (W 1 (34 + 7 * k + 3)).toInt * 1 ≤ (W 1 (34 + 7 * k + 3)).toInt * (W 1 12).toInt := Int.mul_le_mul_of_nonneg_left h4.1 (by omega)
  have e : (m_worth W k).toInt = (W 1 (34 + 7 * k + 3)).toInt * (W 1 12).toInt := z_mul (by omega) (by omega)
  omega
theorem m_share_i (h1 : y_1 (W 1) n) (hk : k < n) : (m_share W k 0).toInt ≤ (m_worth W k).toInt := by
  obtain ⟨-, h2, h3, -⟩ := m_worth_i h1 hk
  have h4 : 10 ≤ (W 1 (6 + 0)).toInt ∧ (W 1 (6 + 0)).toInt ≤ 100 := h1.set.1
  have h5 : (m_worth W k).toInt * (W 1 (6 + 0)).toInt ≤ (m_worth W k).toInt * 100 := Int.mul_le_mul_of_nonneg_left h4.2 (by omega)
  have h6 : 0 ≤ (m_worth W k).toInt * (W 1 (6 + 0)).toInt := Int.mul_nonneg (by omega) (by omega)
  have e : (m_worth W k * W 1 (6 + 0)).toInt = (m_worth W k).toInt * (W 1 (6 + 0)).toInt := z_mul (by omega) (by omega)
  unfold m_share
  rw [z_div (by omega) (by decide), e, show (100 : Int32).toInt = 100 from rfl]
  omega
theorem s_price {x y : Int32} (h : z_R V (W 1) n mb lo hi) : z_S V W (q_price V x y) (m_prices W x y) mb lo hi := by
  obtain ⟨g, hL, h1, h2, h3⟩ := h
  unfold q_price m_prices
  by_cases c1 : k_in x 3
  · rw [if_pos c1, if_pos (z_in3.mpr c1)]
    by_cases c2 : m_in y 1 99
    · rw [if_neg c2.1, if_pos (z_lt.mp c2.2), if_pos c2]
      obtain ⟨e1, e2, e3⟩ := z_cl c1 (N := 3) rfl
      have hp := h1.set.2.2.2.2 _ e1
      have hy : 1 ≤ y.toInt ∧ y.toInt ≤ 99 := z_rg c2
      refine z_S.ok (hL.pr e1) (z_good_0 (by omega)) (n := n) ?_
      rw [w2_s]
      exact ⟨g, hL.up (z_lk_pr e1) y, h1.sets (fun z hz => upd_ne (by omega)) (y_set_pr h1.set hy), h2.up (by omega) (Or.inl (by omega)), h3.up (by omega)⟩
    · rw [if_neg c2]
      by_cases c3 : y < 1
      · rw [if_pos c3]; exact z_S.e1
      · rw [if_neg c3, if_neg (fun z => c2 ⟨c3, z_lt.mpr z⟩)]; exact z_S.e1
  · rw [if_neg c1, if_neg (fun z => c1 (z_in3.mp z))]; exact z_S.e1
theorem q_addMoney_at {o a : Int32} {j : Nat} (ho : o = nI j) (hj : j < 8) : q_addMoney V o a = g_w2 V 5 j (V 5 j + a) := by
  subst ho
  unfold q_addMoney
  rw [nI_clamp (by omega), if_pos]
  exact ⟨nI_pos (by omega), nI_ge hj (by decide)⟩
theorem q_moneyOf_at {o : Int32} {j : Nat} (ho : o = nI j) (hj : j < 8) : q_moneyOf V o = V 5 j := by
  subst ho
  unfold q_moneyOf
  rw [nI_clamp (by omega), if_pos]
  exact ⟨nI_pos (by omega), nI_ge hj (by decide)⟩
theorem s_pledge {x le ln : Int32} (h : z_R V (W 1) n mb lo hi) (hlo : -600000000 ≤ lo) (hhi : hi ≤ 2030000000) : z_S V W (q_pledge V x le ln) (m_pledges W x le ln n) mb lo (hi + max 0 ln.toInt) := by
  obtain ⟨g, hL, h1, h2, h3⟩ := h
  unfold q_pledge m_pledges
  rw [z_find hL h2]
  cases hp : m_place W x n with
  | none => exact z_S.e1
  | some k =>
    simp only [Option.map_some]
    obtain ⟨hk, -⟩ := z_place hp
    by_cases c1 : k_in le 3
    · rw [if_pos c1, if_pos (z_in3.mpr c1)]
      by_cases c2 : 1 ≤ ln
      · rw [if_pos c2, if_pos c2]
        by_cases c3 : m_pledged W k
        · rw [if_pos ((z_pledged hL h1 hk).mpr c3), if_pos c3]; exact z_S.e2
        · rw [if_neg (fun z => c3 ((z_pledged hL h1 hk).mp z)), if_neg c3, hL.row hk (by decide)]
          by_cases c4 : W 1 (34 + 7 * k + 1) = 5 + le
          · rw [if_pos c4, if_pos c4]; exact z_S.e2
          · rw [if_neg c4, if_neg c4, z_glo hL hk]
            by_cases c5 : ln ≤ m_share W k 0
            · rw [if_pos c5, if_pos c5]
              obtain ⟨h4, -, -, h7, -, h9, h10⟩ := h1.row hk
              obtain ⟨j, hj, ej⟩ := z_lo (N := 8) h4.1 (by omega)
              have e1 : (g_w2 (g_w2 V (12 + g k) 4 le) (12 + g k) 5 ln) (12 + g k) 1 = nI j := by rw [w2_ne (by omega), w2_ne (by omega), hL.row hk (by decide), ej]
              rw [e1, q_addMoney_at rfl hj, q_moneyOf_at (j := j) (by rw [w2_ne (by omega)]; exact e1) hj, ej, nI_clamp (by omega), w2_at, w2_ne (by omega), w2_ne (by omega), hL.mo hj, w2_at, w2_ne (by omega), w2_ne (by omega)]
              have h3j := h3 j hj
              have h5 := m_share_i h1 hk
              obtain ⟨-, h11, h12, -⟩ := m_worth_i h1 hk
              have c2' : 1 ≤ ln.toInt := by rw [Int32.le_iff_toInt_le, z_i1] at c2; exact c2
              rw [Int32.le_iff_toInt_le] at c5
              have e2 : (W 1 (13 + j) + ln).toInt = (W 1 (13 + j)).toInt + ln.toInt := z_add (by omega) (by omega)
              refine z_S.ok rfl (by unfold z_good; omega) (n := n) ?_
              rw [w2_s, w2_s, w2_s]
              have hle := z_rk c1
              have hle : 0 ≤ le.toInt ∧ le.toInt < 3 := hle
              refine ⟨g, ((hL.up (z_lk_row hk (by decide)) le).up (z_lk_row hk (by decide)) ln).up (z_lk_mo hj) _, ?_, ?_, ?_⟩
              · exact ((h1.r1 (by omega) (fun _ => (h1.row hk).le (by omega) (by omega))).r1 (by omega) (fun _ => ((h1.row hk).le (by omega) (by omega)).lo (by omega))).ms (by omega)
              · exact ((h2.up (by omega) (Or.inr ⟨k, 4, by omega⟩)).up (by omega) (Or.inr ⟨k, 5, by omega⟩)).up (by omega) (Or.inl (by omega))
              · exact ((h3.up (by omega)).up (by omega)).mo (Int.le_refl _) (by omega) (by omega)
            · rw [if_neg c5, if_neg c5]; exact z_S.e2
      · rw [if_neg c2, if_neg c2]; exact z_S.e1
    · rw [if_neg c1, if_neg (fun z => c1 (z_in3.mp z))]; exact z_S.e1
end ZM
