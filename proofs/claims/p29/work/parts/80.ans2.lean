/-! ===== deliveries, calls, days, bins' grades, settings ===== -/
section UF
variable {V V' W W' : g_V} {n n' : Nat} {mb lo hi mb' lo' hi' : Int} {k : Nat} {x y z : Int32}
theorem E_deliverP (h : z_R V (W 1) n mb lo hi) (hk : k < n) (c : ¬ u_loan W k = -2000000004) : (m_delivers (m_begins W) (W 1 (34 + 7 * k)) n).1 = -2000000002 := by
  have hp := (u_loan_is c).1
  have hb := x_beg h
  have e1 : m_begins W 1 = W 1 := m_begins_c (by decide)
  have hp' : m_pledged (m_begins W) k := by unfold m_pledged; rw [e1]; exact hp
  rw [← e1]
  generalize m_begins W = U at hb hp' ⊢
  obtain ⟨g, hL, a1, a2, a3⟩ := hb
  unfold m_delivers
  rw [u_place a2 hk]
  dsimp only
  rw [if_pos hp']
/-- what a delivery takes of other grades is at most the amount -/
theorem m_del_rg {U : g_V} (h : z_R V (U 1) n mb lo hi) (hk : k < n) (hp : ¬ m_pledged U k) : 0 ≤ ((m_delivers U (U 1 (34 + 7 * k)) n).1).toInt ∧ ((m_delivers U (U 1 (34 + 7 * k)) n).1).toInt ≤ (U 1 (34 + 7 * k + 3)).toInt := by
  rw [← (s_deliver h).1]
  obtain ⟨g, hL, a1, a2, a3⟩ := h
  have ham := a1.amt hk
  obtain ⟨-, -, hr3, -⟩ := a1.row hk
  unfold q_deliver
  rw [u_find hL a2 hk]
  dsimp only
  rw [if_neg (fun z => hp ((z_pledged hL a1 hk).mp z))]
  dsimp only
  rw [hL.row hk (j := 2) (by decide), hL.row hk (j := 3) (by decide)]
  unfold q_take
  rw [(z_take hL (own := 0) (b := 0) 5 (Nat.le_refl 5)).2]
  exact (y_take (W := U) (x := U 1 (34 + 7 * k + 2)) (own := 0) (a := U 1 (34 + 7 * k + 3)) (b := 0) a1.bins (by omega) (by decide) (by rw [z_i0]; omega) 5 (Nat.le_refl 5)).2.2.1
theorem E_deliver (h : z_R V (W 1) n mb lo hi) (hk : k < n) (c : u_loan W k = -2000000004) : (0 ≤ ((m_delivers (m_begins W) (W 1 (34 + 7 * k)) n).1).toInt ∧ ((m_delivers (m_begins W) (W 1 (34 + 7 * k)) n).1).toInt ≤ (W 1 (34 + 7 * k + 3)).toInt) ∧ ∀ n', (m_delivers (m_begins W) (W 1 (34 + 7 * k)) n).2 1 0 = nI n' → n' ≤ 16 → ∀ i, i < n' → (m_delivers (m_begins W) (W 1 (34 + 7 * k)) n).2 1 (34 + 7 * i) ≠ W 1 (34 + 7 * k) := by
  have hp := (u_loan_no h hk).mp c
  have hb := x_beg h
  have e1 : m_begins W 1 = W 1 := m_begins_c (by decide)
  have hp' : ¬ m_pledged (m_begins W) k := by unfold m_pledged; rw [e1]; exact hp
  rw [← e1]
  generalize m_begins W = U at hb hp' ⊢
  have hr := m_del_rg hb hk hp'
  obtain ⟨g, hL, a1, a2, a3⟩ := hb
  obtain ⟨hx, hY⟩ := y_deliver a1 hk
  have e : m_delivers U (U 1 (34 + 7 * k)) n = ((m_delivers1 U k).2.2, m_removes (m_delivers1 U k).1 n k) := by
    unfold m_delivers
    rw [u_place a2 hk]
    dsimp only
    rw [if_neg hp']
  rw [e] at hr ⊢
  dsimp only at hr ⊢
  refine ⟨hr, fun n' h0 h16 i hi => ?_⟩
  rw [m_rem_0] at h0
  have hn16 := a1.n16
  have en : n - 1 = n' := (nI_eq (by omega) (by omega)).mp h0
  subst en
  have e3 := m_rem_r (W := (m_delivers1 U k).1) (n := n) (a := k) (j := 0) hk hi (by decide)
  rw [Nat.add_zero, Nat.add_zero] at e3
  rw [e3, hx _ (fun ⟨c, hc, e⟩ => by omega) (by omega)]
  intro z
  have := a2.eq (k := if i < k then i else i + 1) (k' := k) (by split <;> omega) hk z
  split at this <;> omega
theorem E_call (h : z_R V (W 1) n mb lo hi) (h1 : 0 ≤ x.toInt ∧ x.toInt < 4) : (m_calls (m_begins W) x n).1 = if x = 3 then -2000000001 else q_tellLender V x 5 := by
  rw [← (s_call (x_beg h)).1]
  unfold q_call
  by_cases c1 : x = 3
  · rw [if_neg (fun z => u_nin (x := x) (a := 0) (b := 2) (Or.inr (by rw [c1]; decide)) (z_in3.mpr z)), if_pos c1]
  have d1 := u_ne 3 (by decide) c1
  have hx : k_in x 3 := z_in3.mp (u_in (a := 0) (b := 2) h1.1 (by show x.toInt ≤ 2; omega))
  rw [if_pos hx, if_neg c1]
  dsimp only
  obtain ⟨-, -, e⟩ := q_calls_cf (V := V) (le := x) 16 (Nat.le_refl 16)
  rw [e]
  have e5 : q_tellLender V x 5 = k_sum (q_lenF V x (fun i => if q_would V i x (V 3 2) then 1 else 0)) 16 := by
    unfold q_tellLender
    rw [if_pos hx]
    rfl
  rw [e5]
  refine k_sum_congr (fun i hi => ?_)
  unfold q_lenF
  by_cases c : V (12 + i) 4 = x
  · rw [if_pos c]
  · rw [if_neg c, if_neg (fun z => c z.1)]
theorem E_call0 (h : z_R V (W 1) n mb lo hi) (h1 : 0 ≤ x.toInt ∧ x.toInt < 4) (c1 : ¬ x = 3) (h' : z_R V' (W' 1) n' mb' lo' hi') (hW : W' 1 = (m_calls (m_begins W) x n).2 1) : q_tellLender V' x 5 = 0 := by
  have d1 := u_ne 3 (by decide) c1
  have hx : m_in x 0 2 := u_in (a := 0) (b := 2) h1.1 (by show x.toInt ≤ 2; omega)
  have hb := x_beg h
  generalize m_begins W = U at hb hW
  obtain ⟨g, hL, a1, a2, a3⟩ := hb
  have eW : W' 1 = (k_iter (m_callStep x) (U, 0) n).1 1 := by
    rw [hW]
    unfold m_calls
    rw [if_pos hx]
  obtain ⟨b1, b2, -⟩ := m_calls_cf (W := U) (le := x) n
  rw [t_lenderOf h']
  have e0 : W' 1 0 = nI n := by rw [eW, b1 0 (fun ⟨k, hk, e⟩ => by omega)]; exact a1.n0
  have en : n' = n := by
    obtain ⟨g', hL', -⟩ := h'
    have h16 := hL'.n16
    have hn16 := a1.n16
    exact (nI_eq (by omega) (by omega)).mp (hL'.n0.symm.trans e0)
  subst en
  have e5 : m_lenderOf W' x 5 n' = k_sum (m_lenF W' x 5) n' := by
    unfold m_lenderOf
    rw [if_pos hx]
    rfl
  rw [e5]
  refine k_sum_zero (fun k hk => ?_)
  unfold m_lenF
  by_cases c : W' 1 (34 + 7 * k + 4) = x
  · rw [if_pos c]
    have hnw : ¬ m_would W' k x := fun hw => by
      have e4 : ∀ j, j < 7 → j ≠ 6 → W' 1 (34 + 7 * k + j) = U 1 (34 + 7 * k + j) := fun j hj h6 => by rw [eW]; exact b1 _ (fun ⟨i, hi, e⟩ => by omega)
      have e6 : W' 1 (34 + 7 * k + 6) = if m_would U k x then U 1 8 else U 1 (34 + 7 * k + 6) := by rw [eW]; exact b2 k hk
      by_cases hu : m_would U k x
      · rw [if_pos hu] at e6
        have h8 := a1.set.2.2.1.1
        have := hw.2.1
        rw [e6] at this
        rw [this] at h8
        exact absurd h8 (by decide)
      · rw [if_neg hu] at e6
        have m12 : W' 1 12 = U 1 12 := by rw [eW]; exact b1 _ (fun ⟨i, hi, e⟩ => by omega)
        have m7 : W' 1 (6 + 1) = U 1 (6 + 1) := by rw [eW]; exact b1 _ (fun ⟨i, hi, e⟩ => by omega)
        exact hu ((m_would_of (W := U) (W' := W') (i := k) (le := x) (fun j hj => by
          by_cases j6 : j = 6
          · subst j6; exact e6
          · exact e4 j hj j6) m7 m12).mp hw)
    unfold m_lenT
    rw [if_neg (by decide), if_neg (by decide), if_neg]
    rintro (z | z | z)
    · exact absurd z (by decide)
    · exact absurd z.1 (by decide)
    · exact hnw z.2
  · rw [if_neg c]
theorem m_days_1 {U : g_V} {j : Nat} (hj : j = 1) : ∀ N, m_days U N 1 j = U 1 j := by
  subst hj
  intro N
  unfold m_days
  induction N with
  | zero => rfl
  | succ N ih =>
    rw [k_iter, ← ih]
    generalize k_iter m_dayStep U N = X
    unfold m_dayStep
    split
    · rfl
    · split
      · split
        · unfold m_seizes m_frees m_dec
          rw [w2_ne (by omega), w2_ne (by omega), w2_ne (by omega), w2_ne (by omega), w2_ne (by omega), w2_ne (by omega), w2_ne (by omega)]
        · unfold m_dec
          rw [w2_ne (by omega)]
      · unfold m_dec
        rw [w2_ne (by omega), w2_ne (by omega)]
theorem m_letN_1 {U : g_V} : ∀ d, d < 1000 → m_letN U n d 1 1 = U 1 1 + nI d
  | 0, _ => by
    show U 1 1 = U 1 1 + nI 0
    rw [show nI 0 = 0 from rfl, Int32.add_zero]
  | d + 1, hd => by
    have e : m_letN U n (d + 1) = m_day (m_letN U n d) n := rfl
    rw [e]
    unfold m_day
    rw [w2_at, m_days_1 rfl, m_letN_1 d (by omega), Int32.add_assoc, nI_1 d]
theorem E_pass (h1 : 0 ≤ x.toInt ∧ x.toInt ≤ 100) : ((x = 0 ∨ x = 100) → (m_lets (m_begins W) x n).1 = -2000000001) ∧ (¬ x = 0 → ¬ x = 100 → W 1 3 + (m_lets (m_begins W) x n).1 = (m_lets (m_begins W) x n).2 1 3 ∧ W 1 1 + x = (m_lets (m_begins W) x n).2 1 1) := by
  have e1 : m_begins W 1 = W 1 := m_begins_c (by decide)
  rw [← e1]
  generalize m_begins W = U
  unfold m_lets
  refine ⟨fun c => ?_, fun c0 c1 => ?_⟩
  · rw [if_neg]
    rcases c with c | c
    · exact u_nin (Or.inl (by rw [c]; decide))
    · exact u_nin (Or.inr (by rw [c]; decide))
  · have d0 := u_ne 0 (by decide) c0
    have d1 := u_ne 100 (by decide) c1
    rw [if_pos (u_in (a := 1) (b := 99) (by show 1 ≤ x.toInt; omega) (by show x.toInt ≤ 99; omega))]
    dsimp only
    refine ⟨?_, ?_⟩
    · grind
    · rw [m_letN_1 _ (by rw [z_clamp]; omega), z_clamp, ← z_nI h1.1]
theorem E_regrade (h : z_R V (W 1) n mb lo hi) (h1 : 0 ≤ x.toInt ∧ x.toInt < 6) (h2 : 0 ≤ y.toInt ∧ y.toInt < 4) : ((x = 5 ∨ y = 3) → (m_regrades (m_begins W) x y n).1 = -2000000001) ∧ (¬ x = 5 → ¬ y = 3 → ((m_regrades (m_begins W) x y n).1 = -2000000002 ∧ ¬ y = q_tellBin V x 0) ∨ ((m_regrades (m_begins W) x y n).1 = q_tellBin V x 0 ∧ (¬ (m_regrades (m_begins W) x y n).1 = -2000000002) ∧ z_good (m_regrades (m_begins W) x y n).1 ∧ (m_regrades (m_begins W) x y n).2 1 (24 + 2 * x.toNatClampNeg) = y)) := by
  have hb := x_beg h
  generalize m_begins W = U at hb ⊢
  obtain ⟨g, hL, a1, a2, a3⟩ := hb
  unfold m_regrades
  refine ⟨fun c => ?_, fun c1 c2 => ?_⟩
  · rcases c with c | c
    · rw [if_neg (u_nin (Or.inr (by rw [c]; decide)))]
    · split
      · rw [if_neg (u_nin (Or.inr (by rw [c]; decide)))]
      · rfl
  · have d1 := u_ne 5 (by decide) c1
    have d2 := u_ne 3 (by decide) c2
    have hx : m_in x 0 4 := u_in (a := 0) (b := 4) h1.1 (by show x.toInt ≤ 4; omega)
    rw [if_pos hx, if_pos (u_in (a := 0) (b := 2) h2.1 (by show y.toInt ≤ 2; omega))]
    obtain ⟨hj, -, -⟩ := z_cl (z_in5.mp hx) (N := 5) rfl
    have e0 : q_tellBin V x 0 = U 1 (24 + 2 * x.toNatClampNeg) := by
      unfold q_tellBin
      rw [if_pos (z_in5.mp hx)]
      exact hL.bin hj (by decide)
    rw [e0]
    obtain ⟨⟨b1, b2⟩, -⟩ := a1.bins _ hj
    generalize x.toNatClampNeg = b at hj e0 b1 b2 ⊢
    have hsame : y = U 1 (24 + 2 * b) → m_covered (g_w2 U 1 (24 + 2 * b) y) n := fun e => by
      rw [e, w2_self]
      exact (m_cov_i a1.ok).mpr a1.cov
    have hne : ¬ U 1 (24 + 2 * b) = -2000000002 := fun z => by rw [z] at b1; exact absurd b1 (by decide)
    by_cases c3 : U 1 (24 + 2 * b) ≤ y ∨ U 1 (24 + 2 * b + 1) ≤ 0
    · rw [if_pos c3]
      by_cases c4 : m_covered (g_w2 U 1 (24 + 2 * b) y) n
      · rw [if_pos c4]
        refine Or.inr ⟨rfl, hne, z_good_0 b1, ?_⟩
        dsimp only
        exact w2_at
      · rw [if_neg c4]
        exact Or.inl ⟨rfl, fun e => c4 (hsame e)⟩
    · rw [if_neg c3]
      exact Or.inl ⟨rfl, fun e => c3 (Or.inl (by rw [e]; exact Int32.le_refl _))⟩
theorem u_bin0 (h : z_R V (W 1) n mb lo hi) (h1 : 0 ≤ x.toInt ∧ x.toInt < 6) (c1 : ¬ x = 5) : q_tellBin V x 0 = W 1 (24 + 2 * x.toNatClampNeg) := by
  obtain ⟨g, hL, a1, a2, a3⟩ := h
  have d1 := u_ne 5 (by decide) c1
  have hx : m_in x 0 4 := u_in (a := 0) (b := 4) h1.1 (by show x.toInt ≤ 4; omega)
  obtain ⟨hj, -, -⟩ := z_cl (z_in5.mp hx) (N := 5) rfl
  unfold q_tellBin
  rw [if_pos (z_in5.mp hx)]
  exact hL.bin hj (by decide)
theorem E_set0 (h2 : 0 ≤ y.toInt ∧ y.toInt < 30) : (m_sets (m_begins W) 0 y).1 = if y < 10 then -2000000001 else W 1 6 := by
  have e1 : m_begins W 1 = W 1 := m_begins_c (by decide)
  rw [← e1]
  unfold m_sets
  rw [if_pos (by decide)]
  have e : (0 : Int32).toNatClampNeg = 0 := by decide
  rw [e, show g_least 0 = 10 from by decide, show g_great 0 = 100 from by decide]
  by_cases c : y < 10
  · rw [if_pos c, if_pos c]
  · rw [if_neg c, if_neg c, if_pos (show y ≤ 100 by rw [Int32.le_iff_toInt_le]; show y.toInt ≤ 100; omega)]
theorem E_set1 (h2 : 0 ≤ y.toInt ∧ y.toInt < 30) : (m_sets (m_begins W) 1 y).1 = if y < 10 then -2000000001 else W 1 7 := by
  have e1 : m_begins W 1 = W 1 := m_begins_c (by decide)
  rw [← e1]
  unfold m_sets
  rw [if_pos (by decide)]
  have e : (1 : Int32).toNatClampNeg = 1 := by decide
  rw [e, show g_least 1 = 10 from by decide, show g_great 1 = 150 from by decide]
  by_cases c : y < 10
  · rw [if_pos c, if_pos c]
  · rw [if_neg c, if_neg c, if_pos (show y ≤ 150 by rw [Int32.le_iff_toInt_le]; show y.toInt ≤ 150; omega)]
theorem E_set2 (h2 : 0 ≤ y.toInt ∧ y.toInt < 30) : (m_sets (m_begins W) 2 y).1 = if y = 0 then -2000000001 else W 1 8 := by
  have e1 : m_begins W 1 = W 1 := m_begins_c (by decide)
  rw [← e1]
  unfold m_sets
  rw [if_pos (by decide)]
  have e : (2 : Int32).toNatClampNeg = 2 := by decide
  rw [e, show g_least 2 = 1 from by decide, show g_great 2 = 30 from by decide]
  by_cases c : y = 0
  · rw [if_pos (by rw [c]; decide), if_pos c]
  · have d := u_ne 0 (by decide) c
    rw [if_neg (show ¬ y < 1 by rw [Int32.lt_iff_toInt_lt, z_i1]; omega), if_neg c, if_pos (show y ≤ 30 by rw [Int32.le_iff_toInt_le]; show y.toInt ≤ 30; omega)]
theorem E_set3 (h2 : 0 ≤ y.toInt ∧ y.toInt < 30) : (m_sets (m_begins W) 3 y).1 = if y ≤ 20 then W 1 9 else -2000000001 := by
  have e1 : m_begins W 1 = W 1 := m_begins_c (by decide)
  rw [← e1]
  unfold m_sets
  rw [if_pos (by decide)]
  have e : (3 : Int32).toNatClampNeg = 3 := by decide
  rw [e, show g_least 3 = 0 from by decide, show g_great 3 = 20 from by decide, if_neg (show ¬ y < 0 by rw [Int32.lt_iff_toInt_lt, z_i0]; omega)]
  by_cases c : y ≤ 20
  · rw [if_pos c, if_pos c]
  · rw [if_neg c, if_neg c]
theorem E_set4 : (m_sets (m_begins W) 4 y).1 = -2000000001 := by
  unfold m_sets
  rw [if_neg (by decide)]
end UF
