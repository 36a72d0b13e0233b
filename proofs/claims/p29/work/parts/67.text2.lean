/-! ===== an order is read ===== -/
section XO
variable {ln : Nat}
/-- what reading an order leaves on both sides -/
def x_out (G U : g_V) (ln p0 p w : Nat) (a : Int32 × g_V) (b : g_V) : Prop :=
  x_pg G a.2 ∧ x_pw U b ∧ ∃ p', p ≤ p' ∧ x_tx a.2 b ln p' ∧ ((a.1 = 0 ∧ b 0 10 = 0) ∨ (a.1 = 1 ∧ b 0 10 = 1 ∧ (∀ k, k < w → a.2 3 k = b 5 k) ∧ ∃ d, 1 ≤ d ∧ d ≤ 6 ∧ 0 ≤ (b 5 (w - 1)).toInt ∧ (b 5 (w - 1)).toInt < 10 ^ d ∧ p0 + 2 * w + d ≤ p'))
theorem x_num1 {i p : Nat} {G U : g_V} (h : x_tx G U ln p) (hf : U 0 10 = 1) (hd : m_in (m_here U) 48 57) : ∃ p', p < p' ∧ p' - p ≤ 6 ∧ x_tx (q_num1 G i) (m_oneT i U) ln p' ∧ m_oneT i U 0 10 = 1 ∧ x_pg G (q_num1 G i) ∧ x_pw U (m_oneT i U) ∧ (∀ k, k ≠ i → q_num1 G i 3 k = G 3 k ∧ m_oneT i U 5 k = U 5 k) ∧ q_num1 G i 3 i = m_oneT i U 5 i ∧ 0 ≤ (m_oneT i U 5 i).toInt ∧ (m_oneT i U 5 i).toInt < 10 ^ (p' - p) := by
  have e0 : m_num0 U = g_w2 U 0 10 1 := by
    unfold m_num0
    rw [if_neg (by rw [hf]; decide), if_pos hd]
  have h0 : x_tx G (g_w2 U 0 10 1) ln p := h.of x_pg.rf (x_pw.rf.w0 (by omega)) h.2.2.1 (by rw [w2_ne (by omega)]; exact h.2.2.2.1) h.2.2.2.2.1
  have hh : m_here (g_w2 U 0 10 1) = m_here U := m_here_w (by omega) (by decide)
  obtain ⟨p', a1, a2, a3, a4, a5, a6, a7, a8, a9, a10, a11, a12⟩ := x_numN 6 0 p G (g_w2 U 0 10 1) 0 h0 w2_at (by decide) (by decide) (by decide)
  have e1 : m_number U = m_numN 6 (g_w2 U 0 10 1, 0) := by unfold m_number; rw [e0]
  unfold q_num1 m_oneT q_readNum
  rw [e1]
  generalize q_numN 6 (G, 0) = a at a2 a3 a5 a6 ⊢
  generalize m_numN 6 (g_w2 U 0 10 1, 0) = b at a2 a3 a4 a7 a8 a9 a10 ⊢
  have hw : x_pw U b.1 := (x_pw.rf.w0 (by omega)).tr a7
  refine ⟨p', a12 (by decide) (by rw [hh]; exact hd), a11, ?_, by rw [w2_ne (by omega)]; exact a4, a5.w3, hw.w5, fun k hk => ⟨?_, ?_⟩, ?_, ?_, ?_⟩
  · exact a2.of x_pg.rf.w3 x_pw.rf.w5 (by rw [w2_ne (by omega)]; exact a2.2.2.1) (by rw [w2_ne (by omega)]; exact a2.2.2.2.1) a2.2.2.2.2.1
  · rw [w2_ne (by omega), a6]
  · rw [w2_ne (by omega), a8, w2_c (by decide)]
  · rw [w2_at, w2_at, a3]
  · rw [w2_at]; exact a9
  · rw [w2_at, show p' - p = 0 + (p' - p) by omega]; exact a10
theorem x_ord : ∀ (c i j p0 p : Nat) (G U : g_V), 1 ≤ c → i + c ≤ 3 → c ≤ j → x_tx G U ln p → U 0 10 = 1 → p0 + 1 + 2 * i ≤ p → (∀ k, k < i → G 3 k = U 5 k) → x_out G U ln p0 p (i + c) (q_ordN (nI (i + c)) j i G) (m_fin (c - 1) (i + 1) (m_oneT i U))
  | 0, _, _, _, _, _, _, h, _, _, _, _, _, _ => absurd h (by decide)
  | c + 1, i, 0, p0, p, G, U, _, _, h, _, _, _, _ => by omega
  | c + 1, i, j + 1, p0, p, G, U, _, hw, hj, h, hf, hp0, hk0 => by
    rw [q_ordN, if_neg (nI_ge (by omega) (by omega)), Nat.add_sub_cancel]
    by_cases c1 : m_in (m_here U) 48 57
    · rw [if_pos (h.dig.mpr c1)]
      obtain ⟨p1, b1, b2, b3, b4, b5, b6, b7, b8, b9, b10⟩ := x_num1 (i := i) h hf c1
      generalize q_num1 G i = G1 at b3 b5 b7 b8 ⊢
      generalize m_oneT i U = U2 at b3 b4 b6 b7 b8 b9 b10 ⊢
      have hk1 : ∀ k, k < i + 1 → G1 3 k = U2 5 k := fun k hk => by
        by_cases e : k = i
        · subst e; exact b8
        · rw [(b7 k e).1, (b7 k e).2]; exact hk0 k (by omega)
      by_cases c2 : c = 0
      · subst c2
        rw [if_pos (nI_le (by omega) (by omega))]
        have h59 : q_ch G1 = 59 ↔ m_here U2 = 59 := b3.eq (by decide)
        rw [m_fin]
        by_cases c3 : m_here U2 = 59
        · rw [if_pos (h59.mpr c3)]
          have hlt := b3.lt (by decide) c3
          obtain ⟨d1, d2, d3, d4⟩ := m_takes_ok b4 c3
          have e1 : q_ordN (nI (i + (0 + 1))) j (i + 1) (q_step G1) = (1, q_step G1) := by
            cases j with
            | zero => rfl
            | succ j => rw [q_ordN, if_pos (nI_le (by omega) (by omega))]
          rw [e1]
          refine ⟨b5.tr x_pg.rf.w1, b6.tr d3, p1 + 1, by omega, b3.of x_pg.rf.w1 d3 (by rw [w2_at, b3.2.2.1]; exact nI_1 p1) (by rw [d2, b3.2.2.2.1]; exact nI_1 p1) hlt, Or.inr ⟨rfl, d1, fun k hk => ?_, p1 - p, by omega, b2, ?_, ?_, by omega⟩⟩
          · rw [d4]
            show q_step G1 3 k = _
            unfold q_step
            rw [w2_ne (by omega)]
            exact hk1 k (by omega)
          · rw [d4, show i + (0 + 1) - 1 = i by omega]; exact b9
          · rw [d4, show i + (0 + 1) - 1 = i by omega]; exact b10
        · rw [if_neg (fun z => c3 (h59.mp z))]
          obtain ⟨d1, d2, d3, d4⟩ := m_takes_bad b4 c3
          exact ⟨b5, b6.tr d3, p1, by omega, b3.of x_pg.rf d3 b3.2.2.1 (d2.trans b3.2.2.2.1) b3.2.2.2.2.1, Or.inl ⟨rfl, d1⟩⟩
      · obtain ⟨c', rfl⟩ : ∃ c', c = c' + 1 := ⟨c - 1, by omega⟩
        rw [if_neg (nI_ge (by omega) (by omega))]
        have h44 : q_ch G1 = 44 ↔ m_here U2 = 44 := b3.eq (by decide)
        rw [m_fin, m_oneN_eq, if_pos (Nat.succ_pos i)]
        by_cases c3 : m_here U2 = 44
        · rw [if_pos (h44.mpr c3)]
          have hlt := b3.lt (by decide) c3
          obtain ⟨d1, d2, d3, d4⟩ := m_takes_ok b4 c3
          have hx : x_tx (q_step G1) (m_takes U2 44) ln (p1 + 1) := b3.of x_pg.rf.w1 d3 (by rw [w2_at, b3.2.2.1]; exact nI_1 p1) (by rw [d2, b3.2.2.2.1]; exact nI_1 p1) hlt
          have ih := x_ord (c' + 1) (i + 1) j p0 (p1 + 1) (q_step G1) (m_takes U2 44) (by omega) (by omega) (by omega) hx d1 (by omega) (fun k hk => by
            rw [d4]
            unfold q_step
            rw [w2_ne (by omega)]
            exact hk1 k hk)
          rw [show i + 1 + (c' + 1) = i + (c' + 1 + 1) by omega, Nat.add_sub_cancel] at ih
          obtain ⟨e1, e2, p', e3, e4, e5⟩ := ih
          exact ⟨(b5.tr x_pg.rf.w1).tr e1, (b6.tr d3).tr e2, p', by omega, e4, e5⟩
        · rw [if_neg (fun z => c3 (h44.mp z))]
          obtain ⟨d1, d2, d3, d4⟩ := m_takes_bad b4 c3
          obtain ⟨f1, f2, f3⟩ := m_oneT_no (i := i + 1) (Or.inl d1)
          obtain ⟨g1, g2, g3⟩ := m_fin_no c' (i + 1 + 1) _ f1
          refine ⟨b5, ((b6.tr d3).tr f3).tr g3, p1, by omega, b3.of x_pg.rf ((d3.tr f3).tr g3) b3.2.2.1 ?_ b3.2.2.2.2.1, Or.inl ⟨rfl, g1⟩⟩
          rw [g2, f2, d2]
          exact b3.2.2.2.1
    · rw [if_neg (fun z => c1 (h.dig.mp z))]
      obtain ⟨f1, f2, f3⟩ := m_oneT_no (i := i) (Or.inr ⟨hf, c1⟩)
      obtain ⟨g1, g2, g3⟩ := m_fin_no c (i + 1) _ f1
      refine ⟨x_pg.rf, f3.tr g3, p, Nat.le_refl p, h.of x_pg.rf (f3.tr g3) h.2.2.1 ?_ h.2.2.2.2.1, Or.inl ⟨rfl, g1⟩⟩
      rw [g2, f2]
      exact h.2.2.2.1
/-- a whole order: the reference notes where it begins -/
theorem x_read {G W : g_V} {p : Nat} (h : x_tx G W ln p) (hp : p < ln) : ∃ w : Nat, w ≤ 3 ∧ m_wants (W 4 p) = nI w ∧ m_sign W = W 4 p ∧ m_read W 0 7 = nI p ∧ (x_pg G (q_readOrder G).2 ∧ (∀ c, c ≠ 0 → c ≠ 5 → m_read W c = W c) ∧ (∀ j, j ≠ 6 → j ≠ 7 → j ≠ 10 → m_read W 0 j = W 0 j) ∧ ∃ p', p ≤ p' ∧ x_tx (q_readOrder G).2 (m_read W) ln p' ∧ (((q_readOrder G).1 = 0 ∧ m_read W 0 10 = 0) ∨ ((q_readOrder G).1 = 1 ∧ m_read W 0 10 = 1 ∧ 1 ≤ w ∧ (∀ k, k < w → (q_readOrder G).2 3 k = m_read W 5 k) ∧ ∃ d, 1 ≤ d ∧ d ≤ 6 ∧ 0 ≤ (m_read W 5 (w - 1)).toInt ∧ (m_read W 5 (w - 1)).toInt < 10 ^ d ∧ p + 2 * w + d ≤ p'))) := by
  have h6 := h.2.2.2.1
  have hln : ln ≤ 60 := h.2.2.2.2.2.1
  obtain ⟨-, ech, ehe, -⟩ : p < ln ∧ q_ch G = W 4 p ∧ m_here W = W 4 p ∧ 32 ≤ (W 4 p).toInt ∧ (W 4 p).toInt ≤ 126 := by
    rcases h.ch with z | z
    · exact z
    · omega
  have es : m_sign W = W 4 p := by
    unfold m_sign m_from
    rw [m_here_w (by omega) (by decide)]
    exact ehe
  obtain ⟨w, hw, ew⟩ := m_wants_n (W 4 p)
  have hF7 : m_from W 0 7 = nI p := by unfold m_from; rw [w2_at]; exact h6
  have hfx : x_tx G (m_from W) ln p := ⟨h.1, by unfold m_from; rw [w2_ne (by omega)]; exact h.2.1, h.2.2.1, by unfold m_from; rw [w2_ne (by omega)]; exact h6, h.2.2.2.2.1, hln, fun j hj => by unfold m_from; rw [w2_c (by decide)]; exact h.2.2.2.2.2.2 j hj⟩
  have hread : m_read W = m_fin w 0 (m_f3 W) := by
    unfold m_read
    rw [es, ew, nI_clamp (by omega)]
    have e : k_iter m_oneN (m_f3 W) 0 = m_f3 W := rfl
    have := m_fin_eq w 0 (m_f3 W)
    rw [Nat.zero_add] at this
    rw [← this]
    rfl
  have hlast : ∀ U : g_V, x_pw (m_from W) U → U 0 7 = nI p ∧ (∀ c, c ≠ 0 → c ≠ 5 → U c = W c) ∧ ∀ j, j ≠ 6 → j ≠ 7 → j ≠ 10 → U 0 j = W 0 j := fun U hU => by
    refine ⟨(hU.2 7 (by decide) (by decide)).trans hF7, fun c c0 c5 => (hU.1 c c0 c5).trans (w2_c c0), fun j j6 j7 j10 => (hU.2 j j6 j10).trans (w2_ne (by omega))⟩
  refine ⟨w, hw, ew, es, ?_⟩
  unfold q_readOrder
  rw [ech, ew]
  by_cases c : w = 0
  · subst c
    rw [if_pos (show nI 0 = 0 from nI_0)]
    have eF : m_isF W = 0 := by unfold m_isF; rw [es, ew]; exact if_neg (by decide)
    have e3 : m_f3 W 0 10 = 0 := by unfold m_f3; rw [w2_ne (by omega), w2_at]; exact eF
    have e36 : m_f3 W 0 6 = W 0 6 := by unfold m_f3; rw [w2_at, if_pos eF, Int32.add_zero]
    have e3w : x_pw (m_from W) (m_f3 W) := (x_pw.rf.w0 (by omega)).w0 (by omega)
    obtain ⟨g1, g2, g3⟩ := m_fin_no 0 0 _ e3
    rw [hread]
    obtain ⟨l1, l2, l3⟩ := hlast _ (e3w.tr g3)
    exact ⟨l1, x_pg.rf, l2, l3, p, Nat.le_refl p, hfx.of x_pg.rf (e3w.tr g3) h.2.2.1 (by rw [g2, e36]; exact h6) h.2.2.2.2.1, Or.inl ⟨rfl, g1⟩⟩
  · rw [if_neg (nI_ne0 (by omega) (by omega))]
    have eF : m_isF W = 1 := by unfold m_isF; rw [es, ew]; exact if_pos (nI_ltI (a := 0) (b := w) (by decide) (by omega) |>.mpr (by omega))
    have e3 : m_f3 W 0 10 = 1 := by unfold m_f3; rw [w2_ne (by omega), w2_at]; exact eF
    have e36 : m_f3 W 0 6 = nI (p + 1) := by unfold m_f3; rw [w2_at, if_neg (by rw [eF]; decide), h6]; exact nI_1 p
    have e3w : x_pw (m_from W) (m_f3 W) := (x_pw.rf.w0 (by omega)).w0 (by omega)
    have hx : x_tx (q_step G) (m_f3 W) ln (p + 1) := hfx.of x_pg.rf.w1 e3w (by rw [w2_at, h.2.2.1]; exact nI_1 p) e36 hp
    obtain ⟨c', rfl⟩ : ∃ c', w = c' + 1 := ⟨w - 1, by omega⟩
    have ho := x_ord (c' + 1) 0 3 p (p + 1) (q_step G) (m_f3 W) (by omega) (by omega) (by omega) hx e3 (by omega) (fun k hk => absurd hk (Nat.not_lt_zero k))
    rw [hread, m_fin, m_oneN_eq, if_neg (Nat.lt_irrefl 0)]
    rw [Nat.zero_add, Nat.add_sub_cancel] at ho
    obtain ⟨o1, o2, p', o3, o4, o5⟩ := ho
    obtain ⟨l1, l2, l3⟩ := hlast _ (e3w.tr o2)
    refine ⟨l1, (x_pg.rf.w1).tr o1, l2, l3, p', by omega, o4, ?_⟩
    rcases o5 with o5 | ⟨o5, o6, o7, o8⟩
    · exact Or.inl o5
    · exact Or.inr ⟨o5, o6, by omega, o7, o8⟩
end XO
