/-! ===== both sides read the same text ===== -/
def x_tx (G W : g_V) (ln p : Nat) : Prop := G 1 2 = nI ln ∧ W 0 5 = nI ln ∧ G 1 3 = nI p ∧ W 0 6 = nI p ∧ p ≤ ln ∧ ln ≤ 60 ∧ ∀ j, j < ln → G 2 j = W 4 j ∧ 32 ≤ (G 2 j).toInt ∧ (G 2 j).toInt ≤ 126
/-- what reading leaves as it is -/
def x_pg (G0 G : g_V) : Prop := (∀ c, c ≠ 1 → c ≠ 3 → G c = G0 c) ∧ ∀ j, j ≠ 3 → G 1 j = G0 1 j
def x_pw (W0 W : g_V) : Prop := (∀ c, c ≠ 0 → c ≠ 5 → W c = W0 c) ∧ ∀ j, j ≠ 6 → j ≠ 10 → W 0 j = W0 0 j
theorem x_pg.rf {G : g_V} : x_pg G G := ⟨fun _ _ _ => rfl, fun _ _ => rfl⟩
theorem x_pw.rf {W : g_V} : x_pw W W := ⟨fun _ _ _ => rfl, fun _ _ _ => rfl⟩
theorem x_pg.tr {A B C : g_V} (h1 : x_pg A B) (h2 : x_pg B C) : x_pg A C := ⟨fun c a b => (h2.1 c a b).trans (h1.1 c a b), fun j a => (h2.2 j a).trans (h1.2 j a)⟩
theorem x_pw.tr {A B C : g_V} (h1 : x_pw A B) (h2 : x_pw B C) : x_pw A C := ⟨fun c a b => (h2.1 c a b).trans (h1.1 c a b), fun j a b => (h2.2 j a b).trans (h1.2 j a b)⟩
theorem x_pg.w1 {A B : g_V} (h : x_pg A B) {v : Int32} : x_pg A (g_w2 B 1 3 v) := ⟨fun c a b => (w2_c a).trans (h.1 c a b), fun j a => (w2_ne (by omega)).trans (h.2 j a)⟩
theorem x_pg.w3 {A B : g_V} (h : x_pg A B) {i : Nat} {v : Int32} : x_pg A (g_w2 B 3 i v) := ⟨fun c a b => (w2_c b).trans (h.1 c a b), fun j a => (w2_ne (by omega)).trans (h.2 j a)⟩
theorem x_pw.w0 {A B : g_V} (h : x_pw A B) {i : Nat} {v : Int32} (hi : i = 6 ∨ i = 10) : x_pw A (g_w2 B 0 i v) := ⟨fun c a b => (w2_c a).trans (h.1 c a b), fun j a b => (w2_ne (by omega)).trans (h.2 j a b)⟩
theorem x_pw.w5 {A B : g_V} (h : x_pw A B) {i : Nat} {v : Int32} : x_pw A (g_w2 B 5 i v) := ⟨fun c a b => (w2_c b).trans (h.1 c a b), fun j a b => (w2_ne (by omega)).trans (h.2 j a b)⟩
section XT
variable {G W : g_V} {ln p : Nat}
theorem x_tx.ch (h : x_tx G W ln p) : (p < ln ∧ q_ch G = W 4 p ∧ m_here W = W 4 p ∧ 32 ≤ (W 4 p).toInt ∧ (W 4 p).toInt ≤ 126) ∨ (p = ln ∧ q_ch G = 0 ∧ m_here W = -1) := by
  obtain ⟨h1, h2, h3, h4, h5, h6, h7⟩ := h
  unfold q_ch q_charAt m_here
  rw [h1, h3, h2, h4, nI_clamp (by omega)]
  by_cases c : p < ln
  · obtain ⟨e1, e2, e3⟩ := h7 p c
    rw [if_neg (nI_pos (by omega)), if_neg (nI_ge c (by omega)), if_neg (show ¬ (60 : Int32) ≤ nI p from nI_ge (a := p) (b := 60) (by omega) (by decide)), if_neg (nI_ge c (by omega))]
    rw [e1] at e2 e3
    exact Or.inl ⟨c, e1, rfl, e2, e3⟩
  · have e : p = ln := by omega
    subst e
    rw [if_neg (nI_pos (by omega)), if_pos (Int32.le_refl _), if_pos (Int32.le_refl _)]
    exact Or.inr ⟨rfl, rfl, rfl⟩
theorem x_tx.eq (h : x_tx G W ln p) {x : Int32} (hx : 32 ≤ x.toInt) : q_ch G = x ↔ m_here W = x := by
  rcases h.ch with ⟨-, e1, e2, -⟩ | ⟨-, e1, e2⟩
  · rw [e1, e2]
  · rw [e1, e2]
    constructor
    · intro z; rw [← z] at hx; exact absurd hx (by decide)
    · intro z; rw [← z] at hx; exact absurd hx (by decide)
theorem x_tx.dig (h : x_tx G W ln p) : k_digit (q_ch G) ↔ m_in (m_here W) 48 57 := by
  rcases h.ch with ⟨-, e1, e2, -⟩ | ⟨-, e1, e2⟩
  · rw [e1, e2]
  · rw [e1, e2]; decide
theorem x_tx.wants (h : x_tx G W ln p) : m_wants (q_ch G) = m_wants (m_here W) := by
  rcases h.ch with ⟨-, e1, e2, -⟩ | ⟨-, e1, e2⟩
  · rw [e1, e2]
  · rw [e1, e2]; decide
theorem x_tx.lt (h : x_tx G W ln p) {x : Int32} (hx : 32 ≤ x.toInt) (e : m_here W = x) : p < ln := by
  rcases h.ch with ⟨h1, -⟩ | ⟨-, -, e2⟩
  · exact h1
  · rw [← e, e2] at hx; exact absurd hx (by decide)
theorem x_tx.of {G' W' : g_V} (h : x_tx G W ln p) (hG : x_pg G G') (hW : x_pw W W') {p' : Nat} (h1 : G' 1 3 = nI p') (h2 : W' 0 6 = nI p') (h3 : p' ≤ ln) : x_tx G' W' ln p' := by
  obtain ⟨a1, a2, a3, a4, a5, a6, a7⟩ := h
  refine ⟨(hG.2 2 (by decide)).trans a1, (hW.2 5 (by decide) (by decide)).trans a2, h1, h2, h3, a6, fun j hj => ?_⟩
  rw [hG.1 2 (by decide) (by decide), hW.1 4 (by decide) (by decide)]
  exact a7 j hj
theorem x_pow (d : Nat) : (10 : Int) ^ (d + 1) = 10 * 10 ^ d := by rw [Int.pow_succ, Int.mul_comm]
/-- a number is read -/
theorem x_numN : ∀ (j d p : Nat) (G W : g_V) (a : Int32), x_tx G W ln p → W 0 10 = 1 → j + d ≤ 6 → 0 ≤ a.toInt → a.toInt < 10 ^ d → ∃ p', p ≤ p' ∧ x_tx (q_numN j (G, a)).1 (m_numN j (W, a)).1 ln p' ∧ (q_numN j (G, a)).2 = (m_numN j (W, a)).2 ∧ (m_numN j (W, a)).1 0 10 = 1 ∧ x_pg G (q_numN j (G, a)).1 ∧ (q_numN j (G, a)).1 3 = G 3 ∧ x_pw W (m_numN j (W, a)).1 ∧ (m_numN j (W, a)).1 5 = W 5 ∧ 0 ≤ (m_numN j (W, a)).2.toInt ∧ (m_numN j (W, a)).2.toInt < 10 ^ (d + (p' - p)) ∧ p' - p ≤ j ∧ (1 ≤ j → m_in (m_here W) 48 57 → p < p')
  | 0, d, p, G, W, a, h, hf, _, h0, h1 => ⟨p, Nat.le_refl p, h, rfl, hf, x_pg.rf, rfl, x_pw.rf, rfl, h0, by rw [Nat.sub_self, Nat.add_zero]; exact h1, by omega, fun z => absurd z (by decide)⟩
  | j + 1, d, p, G, W, a, h, hf, hd, h0, h1 => by
    rw [q_numN, m_numN]
    dsimp only
    rw [if_neg (show ¬ W 0 10 = 0 by rw [hf]; decide)]
    by_cases c : m_in (m_here W) 48 57
    · rw [if_pos (h.dig.mpr c), if_pos c]
      have hc : 48 ≤ (m_here W).toInt ∧ (m_here W).toInt ≤ 57 := z_rg c
      rcases h.ch with ⟨hp, e1, e2, -⟩ | ⟨-, -, e2⟩
      · have hb : (10 : Int) ^ d ≤ 100000 := by
          have hd5 : d ≤ 5 := by omega
          rcases (show d = 0 ∨ d = 1 ∨ d = 2 ∨ d = 3 ∨ d = 4 ∨ d = 5 by omega) with rfl | rfl | rfl | rfl | rfl | rfl <;> decide
        have ea : a * 10 + (q_ch G - 48) = 10 * a + m_here W - 48 := by rw [e1, ← e2]; grind
        have t1 : (10 * a).toInt = 10 * a.toInt := z_mul (a := 10) (by show -2147483648 ≤ 10 * a.toInt; omega) (by show 10 * a.toInt < 2147483648; omega)
        have t2 : (10 * a + m_here W).toInt = 10 * a.toInt + (m_here W).toInt := by rw [z_add (by omega) (by omega), t1]
        have t3 : (10 * a + m_here W - 48).toInt = 10 * a.toInt + (m_here W).toInt - 48 := by rw [z_sub (by rw [t2]; show _ ≤ _ - (48 : Int); omega) (by rw [t2]; show _ - (48 : Int) < _; omega), t2]; rfl
        rw [ea]
        have hx : x_tx (q_step G) (g_w2 W 0 6 (W 0 6 + 1)) ln (p + 1) := h.of x_pg.rf.w1 (x_pw.rf.w0 (by omega)) (by rw [w2_at, h.2.2.1]; exact nI_1 p) (by rw [w2_at, h.2.2.2.1]; exact nI_1 p) hp
        have hpow := x_pow d
        obtain ⟨p', a1, a2, a3, a4, a5, a6, a7, a8, a9, a10, a11, -⟩ := x_numN j (d + 1) (p + 1) (q_step G) (g_w2 W 0 6 (W 0 6 + 1)) (10 * a + m_here W - 48) hx (by rw [w2_ne (by omega)]; exact hf) (by omega) (by omega) (by rw [hpow]; omega)
        refine ⟨p', by omega, a2, a3, a4, (x_pg.rf.w1).tr a5, a6.trans (w2_c (by decide)), (x_pw.rf.w0 (by omega)).tr a7, a8.trans (w2_c (by decide)), a9, ?_, by omega, fun _ _ => by omega⟩
        rw [show d + (p' - p) = d + 1 + (p' - (p + 1)) by omega]
        exact a10
      · rw [e2] at hc; exact absurd hc.1 (by decide)
    · rw [if_neg (fun z => c (h.dig.mp z)), if_neg c]
      exact ⟨p, Nat.le_refl p, h, rfl, hf, x_pg.rf, rfl, x_pw.rf, rfl, h0, by rw [Nat.sub_self, Nat.add_zero]; exact h1, by omega, fun _ z => absurd z c⟩
theorem m_takes_no {x : Int32} (h : W 0 10 = 0) : m_takes W x 0 10 = 0 ∧ m_takes W x 0 6 = W 0 6 ∧ x_pw W (m_takes W x) ∧ m_takes W x 5 = W 5 := by
  unfold m_takes
  rw [if_pos h]
  refine ⟨?_, ?_, (x_pw.rf.w0 (by omega)).w0 (by omega), ?_⟩
  · rw [w2_ne (by omega), w2_at]
  · rw [w2_at, Int32.add_zero]
  · rw [w2_c (by decide), w2_c (by decide)]
theorem m_takes_bad {x : Int32} (h : W 0 10 = 1) (hx : ¬ m_here W = x) : m_takes W x 0 10 = 0 ∧ m_takes W x 0 6 = W 0 6 ∧ x_pw W (m_takes W x) ∧ m_takes W x 5 = W 5 := by
  unfold m_takes
  rw [if_neg (by rw [h]; decide), if_neg hx]
  refine ⟨?_, ?_, (x_pw.rf.w0 (by omega)).w0 (by omega), ?_⟩
  · rw [w2_ne (by omega), w2_at]
  · rw [w2_at, Int32.add_zero]
  · rw [w2_c (by decide), w2_c (by decide)]
theorem m_takes_ok {x : Int32} (h : W 0 10 = 1) (hx : m_here W = x) : m_takes W x 0 10 = 1 ∧ m_takes W x 0 6 = W 0 6 + 1 ∧ x_pw W (m_takes W x) ∧ m_takes W x 5 = W 5 := by
  unfold m_takes
  rw [if_neg (by rw [h]; decide), if_pos hx]
  refine ⟨?_, ?_, (x_pw.rf.w0 (by omega)).w0 (by omega), ?_⟩
  · rw [w2_ne (by omega), w2_at]
  · rw [w2_at]
  · rw [w2_c (by decide), w2_c (by decide)]
theorem m_numN_no : ∀ (j : Nat) (q : g_V × Int32), q.1 0 10 = 0 → m_numN j q = q
  | 0, _, _ => rfl
  | j + 1, q, h => by rw [m_numN, if_pos h]
def m_oneT (i : Nat) (U : g_V) : g_V := g_w2 (m_number U).1 5 i (m_number U).2
theorem m_oneN_eq {i : Nat} {U : g_V} : m_oneN i U = m_oneT i (if 0 < i then m_takes U 44 else U) := by
  unfold m_oneN m_oneT
  by_cases c : 0 < i
  · rw [if_pos c, if_pos c]
  · rw [if_neg c, if_neg c]
theorem m_oneT_no {i : Nat} (h : W 0 10 = 0 ∨ (W 0 10 = 1 ∧ ¬ m_in (m_here W) 48 57)) : m_oneT i W 0 10 = 0 ∧ m_oneT i W 0 6 = W 0 6 ∧ x_pw W (m_oneT i W) := by
  have e0 : m_num0 W = g_w2 W 0 10 0 := by
    unfold m_num0
    rcases h with h | ⟨h, h2⟩
    · rw [if_pos h]
    · rw [if_neg (by rw [h]; decide), if_neg h2]
  have e1 : m_number W = (g_w2 W 0 10 0, 0) := by
    unfold m_number
    rw [e0]
    exact m_numN_no 6 (g_w2 W 0 10 0, 0) (show g_w2 W 0 10 0 0 10 = 0 from w2_at)
  unfold m_oneT
  rw [e1]
  dsimp only
  refine ⟨?_, ?_, (x_pw.rf.w0 (by omega)).w5⟩
  · rw [w2_ne (by omega), w2_at]
  · rw [w2_ne (by omega), w2_ne (by omega)]
def m_fin : Nat → Nat → g_V → g_V
  | 0, _, U => m_takes U 59
  | c + 1, i, U => m_fin c (i + 1) (m_oneN i U)
theorem m_fin_eq : ∀ (c i : Nat) (U : g_V), m_fin c i (k_iter m_oneN U i) = m_takes (k_iter m_oneN U (i + c)) 59
  | 0, _, _ => rfl
  | c + 1, i, U => by
    rw [m_fin, show m_oneN i (k_iter m_oneN U i) = k_iter m_oneN U (i + 1) by rw [k_iter], m_fin_eq c (i + 1) U, show i + 1 + c = i + (c + 1) by omega]
theorem m_fin_no : ∀ (c i : Nat) (U : g_V), U 0 10 = 0 → m_fin c i U 0 10 = 0 ∧ m_fin c i U 0 6 = U 0 6 ∧ x_pw U (m_fin c i U)
  | 0, _, U, h => by
    obtain ⟨a, b, c, -⟩ := m_takes_no (x := 59) h
    exact ⟨a, b, c⟩
  | c + 1, i, U, h => by
    rw [m_fin]
    have h1 : m_oneN i U 0 10 = 0 ∧ m_oneN i U 0 6 = U 0 6 ∧ x_pw U (m_oneN i U) := by
      rw [m_oneN_eq]
      by_cases d : 0 < i
      · rw [if_pos d]
        obtain ⟨a1, a2, a3, -⟩ := m_takes_no (x := 44) h
        obtain ⟨b1, b2, b3⟩ := m_oneT_no (i := i) (Or.inl a1)
        exact ⟨b1, b2.trans a2, a3.tr b3⟩
      · rw [if_neg d]
        exact m_oneT_no (Or.inl h)
    obtain ⟨a, b, d⟩ := m_fin_no c (i + 1) _ h1.1
    exact ⟨a, b.trans h1.2.1, h1.2.2.tr d⟩
end XT
