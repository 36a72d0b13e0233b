/-! ===== days pass on both sides ===== -/
theorem d_row_k {r : Nat → Int32} {l : Int32} {j : Nat} (h : j = 0 ∨ j = 2 ∨ j = 3) : d_row r l j = r j := by
  unfold d_row
  rcases h with rfl | rfl | rfl <;> simp
section ZE
variable {V W : g_V} {n : Nat} {g : Nat → Nat} {mb lo hi : Int} {k : Nat}
theorem z_qlim (hL : z_L V (W 1) n g) (hk : k < n) : q_lim V (g k) = m_lim W k := by
  unfold q_lim m_lim d_lim m_row
  rw [hL.row hk (by decide), hL.pr (by decide), hL.se (by decide)]
theorem z_mrow (hL : z_L V (W 1) n g) (hk : k < n) : ∀ j, j < 7 → V (12 + g k) j = m_row W k j := fun _ hj => hL.row hk hj
theorem z_gone0 {i : Nat} {l : Int32} (h : z_free V i) : ¬ d_gone (V (12 + i)) l := fun z => z.1 (by rw [h.2.2.2.2.2.2]; exact Int32.le_refl 0)
theorem s_day (h : z_R V (W 1) n mb lo hi) : z_R (q_passDay V) (m_day W n 1) n mb lo hi ∧ ∃ c : Nat, c ≤ 16 ∧ m_day W n 1 3 = W 1 3 + nI c := by
  obtain ⟨g, hL, h1, h2, h3⟩ := h
  have e0 : ∀ c j, ¬ (c = 0 ∧ j = 6) → g_w2 V 0 6 (V 0 6 + 1) c j = V c j := fun c j h => w2_ne h
  have er : ∀ i, g_w2 V 0 6 (V 0 6 + 1) (12 + i) = V (12 + i) := fun i => funext fun j => e0 _ _ (by omega)
  have el : ∀ i, q_lim (g_w2 V 0 6 (V 0 6 + 1)) i = q_lim V i := fun i => by unfold q_lim; rw [er, e0 3 2 (by omega), e0 4 1 (by omega)]
  have ht : ∀ i, i < 16 → ¬ V (12 + i) 6 ≤ 0 → ∃ t : Nat, t < 3 ∧ V (12 + i) 4 = nI t := fun i hi hc => by
    rcases hL.cases hi with z | ⟨k, hk, rfl⟩
    · rw [z.2.2.2.2.2.2] at hc; exact absurd (Int32.le_refl 0) hc
    · rw [hL.row hk (by decide)] at hc ⊢
      exact h1.okL k hk hc
  obtain ⟨a1, a2, a3, a4⟩ := q_day_cf (V := g_w2 V 0 6 (V 0 6 + 1)) (fun i hi => by rw [er]; exact ht i hi) 16 (Nat.le_refl 16)
  obtain ⟨b1, b2, b3, b4⟩ := m_days_cf h1 n (Nat.le_refl n)
  simp only [er, el] at a1 a2 a3
  have ePd : q_passDay V = k_iter q_dayStep (g_w2 V 0 6 (V 0 6 + 1)) 16 := rfl
  rw [ePd]
  generalize k_iter q_dayStep (g_w2 V 0 6 (V 0 6 + 1)) 16 = U at a1 a2 a3 a4 ⊢
  have eMd : m_day W n 1 = upd (m_days W n 1) 1 (m_days W n 1 1 + 1) := by unfold m_day; rw [w2_s]
  rw [eMd]
  generalize m_days W n 1 = S at b1 b2 b3 b4 ⊢
  have hgo : ∀ k, k < n → (d_gone (V (12 + g k)) (q_lim V (g k)) ↔ d_gone (m_row W k) (m_lim W k)) := fun k hk => by rw [z_qlim hL hk]; exact d_gone_of (z_mrow hL hk)
  have hcnt : k_sum (fun i => if d_gone (V (12 + i)) (q_lim V i) then 1 else 0) 16 = k_sum (fun k => if d_gone (m_row W k) (m_lim W k) then 1 else 0) n := hL.sum (fun i _ hf => if_neg (z_gone0 hf)) (fun k hk => by
    by_cases c : d_gone (m_row W k) (m_lim W k)
    · rw [if_pos c, if_pos ((hgo k hk).mpr c)]
    · rw [if_neg c, if_neg (fun z => c ((hgo k hk).mp z))])
  have hamt : ∀ t : Nat, k_sum (fun i => if d_gone (V (12 + i)) (q_lim V i) ∧ V (12 + i) 4 = nI t then V (12 + i) 5 else 0) 16 = k_sum (fun k => if d_gone (m_row W k) (m_lim W k) ∧ m_row W k 4 = nI t then m_row W k 5 else 0) n := fun t => hL.sum (fun i _ hf => if_neg (fun z => z_gone0 hf z.1)) (fun k hk => by
    by_cases c : d_gone (m_row W k) (m_lim W k) ∧ m_row W k 4 = nI t
    · rw [if_pos c, if_pos ⟨(hgo k hk).mpr c.1, (z_mrow hL hk 4 (by decide)).trans c.2⟩]; exact z_mrow hL hk 5 (by decide)
    · rw [if_neg c, if_neg (fun z => c ⟨(hgo k hk).mp z.1, (z_mrow hL hk 4 (by decide)).symm.trans z.2⟩)])
  have hb : ∀ x, (x < 34 ∨ 34 + 7 * n ≤ x) → x ≠ 3 → x ≠ 1 → (x < 21 ∨ 24 ≤ x) → upd S 1 (S 1 + 1) x = W 1 x := fun x c1 c2 c3 c4 => by rw [upd_ne c3, b4 x c1 c2 c4]
  have hr : ∀ k, k < n → ∀ j, j < 7 → upd S 1 (S 1 + 1) (34 + 7 * k + j) = d_row (m_row W k) (m_lim W k) j := fun k hk j hj => by rw [upd_ne (by omega), b1 k hk j hj]
  refine ⟨⟨g, hL.ptw (hb 0 (by omega) (by omega) (by omega) (by omega)) (fun c j x hx => ?_) (fun i hi hf => ?_), ?_, ?_, ?_⟩, ?_⟩
  · rcases hx with ⟨h5, h6, h7⟩ | ⟨h5, h6, h7⟩ | ⟨h5, h6, h7⟩ | ⟨h5, h6, h7⟩ | ⟨h5, h6, h7, h8⟩ | ⟨b, h5, h6, h7, h8⟩ | ⟨k, h5, h6, h7, h8⟩
    · subst h5; subst h7
      rw [a4 _ _ (by omega) (by omega) (by omega), e0 _ _ (by omega), hb _ (by omega) (by omega) (by omega) (by omega), hL.pr h6]
    · subst h5; subst h7
      rw [a4 _ _ (by omega) (by omega) (by omega), e0 _ _ (by omega), hb _ (by omega) (by omega) (by omega) (by omega), hL.se h6]
    · subst h5; subst h7
      rw [a4 _ _ (by omega) (by omega) (by omega), e0 _ _ (by omega), hb _ (by omega) (by omega) (by omega) (by omega), hL.mo h6]
    · subst h5; subst h7
      rw [a2 j h6, upd_ne (by omega), b2 j h6, e0 _ _ (by omega), hL.sz h6, hamt j]
    · subst h5; subst h8
      by_cases e8 : j = 8
      · subst e8
        rw [a3, upd_ne (by omega), b3, e0 _ _ (by omega), hL.sc (by decide) (by decide), hcnt]
      · rw [a4 _ _ (by omega) (by omega) (by omega)]
        by_cases e6 : j = 6
        · subst e6
          rw [w2_at, upd_at, hL.sc (by decide) (by decide), b4 1 (by omega) (by omega) (by omega)]
        · rw [e0 _ _ (by omega), hb _ (by omega) (by omega) (by omega) (by omega), hL.sc h6 h7]
    · subst h6; subst h8
      rw [a4 _ _ (by omega) (by omega) (by omega), e0 _ _ (by omega), hb _ (by omega) (by omega) (by omega) (by omega), hL.bin h5 h7]
    · subst h6; subst h8
      rw [a1 _ (hL.g16 h5), hr k h5 j h7, z_qlim hL h5]
      exact d_row_of (z_mrow hL h5) h7
  · unfold z_free
    have hne : ∀ f, U (12 + i) f = V (12 + i) f := fun f => by
      rw [a1 i hi f]
      unfold d_row
      rw [if_pos (by rw [hf.2.2.2.2.2.2]; exact Int32.le_refl 0)]
    rw [hne, hne, hne, hne, hne, hne, hne]
    exact hf
  · refine ⟨⟨(hb 0 (by omega) (by omega) (by omega) (by omega)).trans h1.n0, h1.n16⟩, fun k hk => (h1.row hk).day (hr k hk), h1.set.of (fun x _ _ => hb x (by omega) (by omega) (by omega) (by omega)), h1.bins.of (fun x _ _ => hb x (by omega) (by omega) (by omega) (by omega)), fun q h0 h2 => ?_⟩
    rw [y_term_of (fun k hk => by rw [hr k hk 2 (by decide), d_row_k (by omega)]; rfl) (fun k hk => by rw [hr k hk 3 (by decide), d_row_k (by omega)]; rfl), y_bterm_of (fun x _ _ => hb x (by omega) (by omega) (by omega) (by omega))]
    exact h1.cov q h0 h2
  · exact h2.of (hb 2 (by omega) (by omega) (by omega) (by omega)) (fun k hk => by
      have := hr k hk 0 (by decide)
      rw [d_row_k (by omega), Nat.add_zero] at this
      exact this)
  · exact h3.of (fun o ho => hb _ (by omega) (by omega) (by omega) (by omega))
  · rw [upd_ne (by decide), b3]
    have hc := k_sum_1 (q := fun k => d_gone (m_row W k) (m_lim W k)) (m := n) (by have := h1.n16; omega)
    have := h1.n16
    exact ⟨(k_sum (fun k => if d_gone (m_row W k) (m_lim W k) then 1 else 0) n).toInt.toNat, by omega, congrArg (fun z => W 1 3 + z) (z_nI hc.1)⟩
theorem s_days (h : z_R V (W 1) n mb lo hi) : ∀ d, z_R (q_passN V d) (m_letN W n d 1) n mb lo hi ∧ ∃ c : Nat, c ≤ 16 * d ∧ m_letN W n d 1 3 = W 1 3 + nI c
  | 0 => ⟨h, 0, Nat.le_refl 0, by show W 1 3 = _; rw [nI_0, Int32.add_zero]⟩
  | d + 1 => by
    obtain ⟨h1, c, hc, e⟩ := s_days h d
    obtain ⟨h2, c', hc', e'⟩ := s_day h1
    have e1 : q_passN V (d + 1) = q_passDay (q_passN V d) := by unfold q_passN; rw [k_iter]
    have e2 : m_letN W n (d + 1) = m_day (m_letN W n d) n := by unfold m_letN; rw [k_iter]
    rw [e1, e2]
    refine ⟨h2, c + c', by omega, ?_⟩
    rw [e', e, Int32.add_assoc, nI_add]
theorem s_pass {days : Int32} (h : z_R V (W 1) n mb lo hi) : z_S V W (q_pass V days) (m_lets W days n) mb lo hi := by
  unfold q_pass m_lets
  by_cases c1 : m_in days 1 99
  · rw [if_neg c1.1, if_pos (z_lt.mp c1.2), if_pos c1]
    have hd : 1 ≤ days.toInt ∧ days.toInt ≤ 99 := z_rg c1
    have hd2 : days.toNatClampNeg ≤ 99 := by rw [z_clamp]; omega
    obtain ⟨h1, c, hc, e⟩ := s_days h days.toNatClampNeg
    obtain ⟨g, hL, -⟩ := h
    have h1' := h1
    obtain ⟨g', hL', -⟩ := h1
    have e1 : q_passN V days.toNatClampNeg 0 8 = m_letN W n days.toNatClampNeg 1 3 := hL'.sc (by decide) (by decide)
    have e2 : V 0 8 = W 1 3 := hL.sc (by decide) (by decide)
    refine z_S.ok (by rw [e1, e2]) ?_ (n := n) h1'
    have e3 : W 1 3 + nI c - W 1 3 = nI c := by grind
    rw [e, e3]
    exact z_good_n (by omega)
  · rw [if_neg c1]
    by_cases c3 : days < 1
    · rw [if_pos c3]; exact z_S.e1
    · rw [if_neg c3, if_neg (fun z => c1 ⟨c3, z_lt.mpr z⟩)]; exact z_S.e1
end ZE
