/-! ===== surpluses; bins lose grain, get another grade; settings ===== -/
theorem k_iter_min {f : Nat → Int32} {x a : Int32} : ∀ N, a ≤ k_iter (fun j acc => k_min acc (f j)) x N ↔ a ≤ x ∧ ∀ j, j < N → a ≤ f j
  | 0 => ⟨fun h => ⟨h, fun j hj => absurd hj (Nat.not_lt_zero j)⟩, fun h => h.1⟩
  | N + 1 => by
    have ih := k_iter_min (f := f) (x := x) (a := a) N
    rw [k_iter, z_min]
    generalize k_iter (fun j acc => k_min acc (f j)) x N = m at ih ⊢
    have h1 : a ≤ (if m ≤ f N then m else f N) ↔ a ≤ m ∧ a ≤ f N := by
      by_cases c : m ≤ f N
      · rw [if_pos c]
        simp only [Int32.le_iff_toInt_le] at *
        omega
      · rw [if_neg c]
        simp only [Int32.le_iff_toInt_le] at *
        omega
    rw [h1, ih]
    constructor
    · rintro ⟨⟨h2, h3⟩, h4⟩
      refine ⟨h2, fun j hj => ?_⟩
      by_cases e : j = N
      · subst e; exact h4
      · exact h3 j (by omega)
    · rintro ⟨h2, h3⟩
      exact ⟨⟨h2, fun j hj => h3 j (by omega)⟩, h3 N (by omega)⟩
section ZV
variable {V W : g_V} {n : Nat} {g : Nat → Nat} {mb lo hi : Int} {k : Nat}
def y_ok (S : Nat → Int32) (n : Nat) : Prop := n ≤ 16 ∧ y_bins S ∧ ∀ k, k < n → 0 ≤ (S (34 + 7 * k + 2)).toInt ∧ 0 ≤ (S (34 + 7 * k + 3)).toInt ∧ (S (34 + 7 * k + 3)).toInt ≤ 10000
theorem y_1.ok (h : y_1 (W 1) n) : y_ok (W 1) n := ⟨h.n16, h.bins, fun k hk => by
  obtain ⟨-, h2, h3, -⟩ := h.row hk
  have := h.amt hk
  omega⟩
theorem z_grain (hL : z_L V (W 1) n g) (hb : y_bins (W 1)) {x : Nat} (hx : x < 3) : (q_grainOf V 0 (nI x)).toInt = z_tot (y_bterm (W 1) x) 5 := by
  refine (k_sum_int (B := 2000) (by decide) (fun b hb5 => ?_) (by decide)).1
  have h1 := hb b hb5
  have e0 := hL.bin hb5 (j := 0) (by decide)
  rw [Nat.add_zero] at e0
  have ex : (nI x).toInt = x := nI_toInt (by omega)
  unfold q_grainF y_bterm
  rw [e0, hL.bin hb5 (by decide)]
  by_cases c : (W 1 (24 + 2 * b)).toInt ≤ x
  · rw [if_pos c, if_pos (by simp only [Int32.lt_iff_toInt_lt, ex, z_i0]; omega)]
    exact ⟨rfl, by omega, by omega⟩
  · rw [if_neg c, if_neg (by simp only [Int32.lt_iff_toInt_lt, ex, z_i0]; omega)]
    exact ⟨rfl, by decide, by decide⟩
theorem z_recs (hL : z_L V (W 1) n g) (h2 : y_2 (W 1) n mb) (ho : y_ok (W 1) n) {x : Nat} (hx : x < 3) : (q_receiptsOf V 0 (nI x)).toInt = z_tot (y_term (W 1) x) n := by
  have ex : (nI x).toInt = x := nI_toInt (by omega)
  have e1 : q_receiptsOf V 0 (nI x) = k_sum (fun k => if (W 1 (34 + 7 * k + 2)).toInt ≤ x then W 1 (34 + 7 * k + 3) else 0) n := hL.sum (fun i _ hf => if_neg (fun z => z_unused hf z.1)) (fun k hk => by
    have h1 := ho.2.2 k hk
    unfold q_recF
    rw [hL.row hk (j := 2) (by decide), hL.row hk (j := 3) (by decide)]
    by_cases c : (W 1 (34 + 7 * k + 2)).toInt ≤ x
    · rw [if_pos c, if_pos ⟨z_used hL h2 hk, by simp only [Int32.lt_iff_toInt_lt, ex, z_i0]; omega⟩]
    · rw [if_neg c, if_neg (fun z => by have := z.2; simp only [Int32.lt_iff_toInt_lt, ex, z_i0] at this; omega)])
  rw [e1]
  have h16 := ho.1
  refine (k_sum_int (B := 10000) (by decide) (fun k hk => ?_) (by omega)).1
  have h1 := ho.2.2 k hk
  unfold y_term
  by_cases c : (W 1 (34 + 7 * k + 2)).toInt ≤ x
  · rw [if_pos c, if_pos c]
    exact ⟨rfl, by omega, by omega⟩
  · rw [if_neg c, if_neg c]
    exact ⟨rfl, by decide, by decide⟩
theorem y_A_bd (ho : y_ok (W 1) n) {q : Int} : 0 ≤ z_tot (y_term (W 1) q) n ∧ z_tot (y_term (W 1) q) n ≤ 160000 := by
  have h16 := ho.1
  have h1 := z_tot_bd (f := y_term (W 1) q) (c := 10000) (n := n) (fun k hk => by
    have h1 := ho.2.2 k hk
    unfold y_term
    split <;> omega)
  have h2 : 0 ≤ z_tot (y_term (W 1) q) n := z_tot_pos (fun k hk => by
    have h1 := ho.2.2 k hk
    unfold y_term
    split <;> omega)
  omega
theorem y_B_bd (hb : y_bins (W 1)) {q : Int} : 0 ≤ z_tot (y_bterm (W 1) q) 5 ∧ z_tot (y_bterm (W 1) q) 5 ≤ 10000 := ⟨z_tot_pos (y_bterm_pos hb), y_B_le hb⟩
theorem z_sur (hL : z_L V (W 1) n g) (h2 : y_2 (W 1) n mb) (ho : y_ok (W 1) n) {x : Nat} (hx : x < 3) : (q_surplus V (nI x)).toInt = z_tot (y_bterm (W 1) x) 5 - z_tot (y_term (W 1) x) n := by
  have a := y_A_bd (W := W) ho (q := x)
  have b := y_B_bd (W := W) ho.2.1 (q := x)
  unfold q_surplus
  rw [z_sub (by rw [z_grain hL ho.2.1 hx, z_recs hL h2 ho hx]; omega) (by rw [z_grain hL ho.2.1 hx, z_recs hL h2 ho hx]; omega), z_grain hL ho.2.1 hx, z_recs hL h2 ho hx]
def y_rg (S : Nat → Int32) (x : Int) (k : Nat) : Int := if (S (34 + 7 * k + 2)).toInt = x then (S (34 + 7 * k + 3)).toInt else 0
theorem y_A_step {x : Int} : z_tot (y_rg (W 1) x) n = z_tot (y_term (W 1) x) n - z_tot (y_term (W 1) (x - 1)) n := by
  have h1 : z_tot (y_term (W 1) x) n = z_tot (fun b => y_term (W 1) (x - 1) b + y_rg (W 1) x b) n := z_tot_congr (fun b _ => by
    unfold y_term y_rg
    by_cases c : (W 1 (34 + 7 * b + 2)).toInt = x
    · rw [if_pos (by omega), if_neg (by omega), if_pos c]; omega
    · rw [if_neg c]
      by_cases d : (W 1 (34 + 7 * b + 2)).toInt ≤ x
      · rw [if_pos d, if_pos (by omega)]; omega
      · rw [if_neg d, if_neg (by omega)]; omega)
  rw [h1, z_tot_add]
  omega
theorem m_inBins_i (hb : y_bins (W 1)) {x : Nat} (hx : x < 3) : (m_inBins W (nI x)).toInt = z_tot (y_gr (W 1) x) 5 := by
  refine (k_sum_int (B := 2000) (by decide) (fun b hb5 => ?_) (by decide)).1
  have h1 := (hb b hb5).2
  have ex : (nI x).toInt = x := nI_toInt (by omega)
  unfold m_binF y_gr
  by_cases c : W 1 (24 + 2 * b) = nI x
  · rw [if_pos c, if_pos (by rw [c, ex])]
    exact ⟨rfl, by omega, by omega⟩
  · rw [if_neg c, if_neg (fun z => c (z_ext (by rw [ex]; exact z)))]
    exact ⟨rfl, by decide, by decide⟩
theorem m_inRec_i (ho : y_ok (W 1) n) {x : Nat} (hx : x < 3) : (m_inReceipts W n (nI x)).toInt = z_tot (y_rg (W 1) x) n := by
  have h16 := ho.1
  refine (k_sum_int (B := 10000) (by decide) (fun k hk => ?_) (by omega)).1
  have h1 := ho.2.2 k hk
  have ex : (nI x).toInt = x := nI_toInt (by omega)
  unfold m_recF y_rg
  by_cases c : W 1 (34 + 7 * k + 2) = nI x
  · rw [if_pos c, if_pos (by rw [c, ex])]
    exact ⟨rfl, by omega, by omega⟩
  · rw [if_neg c, if_neg (fun z => c (z_ext (by rw [ex]; exact z)))]
    exact ⟨rfl, by decide, by decide⟩
theorem m_sur_i (ho : y_ok (W 1) n) : ∀ {x : Nat}, x < 3 → (m_surplus W n x).toInt = z_tot (y_bterm (W 1) x) 5 - z_tot (y_term (W 1) x) n := by
  have key : ∀ N : Nat, N ≤ 3 → (k_sum (m_surF W n) N).toInt = z_tot (y_bterm (W 1) ((N : Int) - 1)) 5 - z_tot (y_term (W 1) ((N : Int) - 1)) n := by
    intro N
    induction N with
    | zero =>
      intro _
      rw [y_B_neg ho.2.1 (by omega)]
      have : z_tot (y_term (W 1) (((0 : Nat) : Int) - 1)) n = 0 := by
        rw [z_tot_congr (g := fun _ => 0) (fun k hk => by
          have := ho.2.2 k hk
          unfold y_term
          rw [if_neg (by omega)])]
        have h := z_tot_bd (f := fun _ => (0 : Int)) (c := 0) (n := n) (fun _ _ => Int.le_refl 0)
        have h' := z_tot_pos (f := fun _ => (0 : Int)) (n := n) (fun _ _ => Int.le_refl 0)
        omega
      rw [this]
      rfl
    | succ N ih =>
      intro hN
      have e1 : ((N + 1 : Nat) : Int) - 1 = N := by omega
      rw [e1, k_sum]
      have ih := ih (by omega)
      have b1 := y_B_bd (W := W) ho.2.1 (q := (N : Int) - 1)
      have b2 := y_B_bd (W := W) ho.2.1 (q := N)
      have a1 := y_A_bd (W := W) ho (q := (N : Int) - 1)
      have a2 := y_A_bd (W := W) ho (q := N)
      have s1 := y_B_step (W := W) ho.2.1 (x := N)
      have s2 := y_A_step (W := W) (n := n) (x := N)
      have e2 : (m_surF W n N).toInt = z_tot (y_gr (W 1) N) 5 - z_tot (y_rg (W 1) N) n := by
        unfold m_surF
        rw [z_sub (by rw [m_inBins_i ho.2.1 (by omega), m_inRec_i ho (by omega)]; omega) (by rw [m_inBins_i ho.2.1 (by omega), m_inRec_i ho (by omega)]; omega), m_inBins_i ho.2.1 (by omega), m_inRec_i ho (by omega)]
      rw [z_add (by rw [ih, e2]; omega) (by rw [ih, e2]; omega), ih, e2]
      omega
  intro x hx
  have := key (x + 1) (by omega)
  rw [show ((x + 1 : Nat) : Int) - 1 = x by omega] at this
  exact this
theorem z_surplus (hL : z_L V (W 1) n g) (h2 : y_2 (W 1) n mb) (ho : y_ok (W 1) n) {x : Nat} (hx : x < 3) : q_surplus V (nI x) = m_surplus W n x := z_ext (by rw [z_sur hL h2 ho hx, m_sur_i ho hx])
theorem m_cov_i (ho : y_ok (W 1) n) : m_covered W n ↔ y_cov (W 1) n := by
  unfold m_covered y_cov
  have h0 := m_sur_i ho (x := 0) (by decide)
  have h1 := m_sur_i ho (x := 1) (by decide)
  have h2 := m_sur_i ho (x := 2) (by decide)
  simp only [Int32.lt_iff_toInt_lt, z_i0, h0, h1, h2]
  constructor
  · rintro ⟨a, b, c⟩ q h3 h4
    rcases (show q = 0 ∨ q = 1 ∨ q = 2 by omega) with rfl | rfl | rfl
    · have a : ¬ z_tot (y_bterm (W 1) 0) 5 - z_tot (y_term (W 1) 0) n < 0 := a
      omega
    · have b : ¬ z_tot (y_bterm (W 1) 1) 5 - z_tot (y_term (W 1) 1) n < 0 := b
      omega
    · have c : ¬ z_tot (y_bterm (W 1) 2) 5 - z_tot (y_term (W 1) 2) n < 0 := c
      omega
  · intro h
    have a := h 0 (by decide) (by decide)
    have b := h 1 (by decide) (by decide)
    have c := h 2 (by decide) (by decide)
    refine ⟨?_, ?_, ?_⟩
    · show ¬ z_tot (y_bterm (W 1) 0) 5 - z_tot (y_term (W 1) 0) n < 0
      omega
    · show ¬ z_tot (y_bterm (W 1) 1) 5 - z_tot (y_term (W 1) 1) n < 0
      omega
    · show ¬ z_tot (y_bterm (W 1) 2) 5 - z_tot (y_term (W 1) 2) n < 0
      omega
def m_lost (W : g_V) (b : Nat) (a : Int32) : g_V := g_w2 (m_moves W b (-a)) 1 5 ((m_moves W b (-a)) 1 5 + a)
def m_loses (W : g_V) (bn a : Int32) (n : Nat) : Int32 × g_V :=
  if m_in bn 0 4 then (if 1 ≤ a then (if a ≤ W 1 (24 + 2 * bn.toNatClampNeg + 1) then (if m_covered (m_lost W bn.toNatClampNeg a) n then (m_lost W bn.toNatClampNeg a 1 (24 + 2 * bn.toNatClampNeg + 1), m_lost W bn.toNatClampNeg a) else (-2000000002, W)) else (-2000000002, W)) else (-2000000001, W)) else (-2000000001, W)
theorem m_lost_1 {b : Nat} (hb : b < 5) {a : Int32} : m_lost W b a 1 = upd (upd (W 1) (24 + 2 * b + 1) (W 1 (24 + 2 * b + 1) - a)) 5 (W 1 5 + a) := by
  unfold m_lost m_moves
  have e : upd (W 1) (24 + 2 * b + 1) (W 1 (24 + 2 * b + 1) + -a) 5 = W 1 5 := upd_ne (by omega)
  rw [w2_s, w2_s, e, ← Int32.sub_eq_add_neg]
theorem s_lose {bn a : Int32} (h : z_R V (W 1) n mb lo hi) : z_S V W (q_lose V bn a) (m_loses W bn a n) mb lo hi := by
  obtain ⟨g, hL, h1, h2, h3⟩ := h
  unfold q_lose m_loses
  by_cases c1 : k_in bn 5
  · rw [if_pos c1, if_pos (z_in5.mpr c1)]
    by_cases c2 : 1 ≤ a
    · rw [if_pos c2, if_pos c2]
      obtain ⟨hb, -, -⟩ := z_cl c1 (N := 5) rfl
      generalize bn.toNatClampNeg = b at hb ⊢
      have hbb := h1.bins b hb
      have e0 := hL.bin hb (j := 0) (by decide)
      rw [Nat.add_zero] at e0
      obtain ⟨g0, hg0, eg0⟩ := z_lo (N := 3) hbb.1.1 (by omega)
      have ei : (W 1 (24 + 2 * b)).toInt = g0 := by rw [eg0, nI_toInt (by omega)]
      have ecl : (V (7 + b) 0).toNatClampNeg = g0 := by rw [e0, eg0, nI_clamp (by omega)]
      have e1 := hL.bin hb (j := 1) (by decide)
      rw [ecl, e1]
      have c2' : 1 ≤ a.toInt := by rw [Int32.le_iff_toInt_le, z_i1] at c2; exact c2
      by_cases c3 : a ≤ W 1 (24 + 2 * b + 1)
      · rw [if_pos c3]
        have c3' : a.toInt ≤ (W 1 (24 + 2 * b + 1)).toInt := Int32.le_iff_toInt_le.mp c3
        have em : (W 1 (24 + 2 * b + 1) - a).toInt = (W 1 (24 + 2 * b + 1)).toInt - a.toInt := z_sub (by omega) (by omega)
        have hS := m_lost_1 (W := W) hb (a := a)
        have hx : ∀ x, x ≠ 5 → x ≠ 24 + 2 * b + 1 → m_lost W b a 1 x = W 1 x := fun x h5 hx => by rw [hS, upd_ne h5, upd_ne hx]
        have hB : ∀ q, z_tot (y_bterm (m_lost W b a 1) q) 5 = z_tot (y_bterm (W 1) q) 5 - if (g0 : Int) ≤ q then a.toInt else 0 := fun q => by
          have h6 := z_tot_one (f := y_bterm (m_lost W b a 1) q) (g := y_bterm (W 1) q) (k := b) (n := 5) hb (fun i hi hne => by
            unfold y_bterm
            rw [hx _ (by omega) (by omega), hx _ (by omega) (by omega)])
          have h7 : y_bterm (m_lost W b a 1) q b = if (g0 : Int) ≤ q then (W 1 (24 + 2 * b + 1)).toInt - a.toInt else 0 := by
            unfold y_bterm
            rw [hx _ (by omega) (by omega), ei, hS, upd_ne (by omega), upd_at, em]
          have h8 : y_bterm (W 1) q b = if (g0 : Int) ≤ q then (W 1 (24 + 2 * b + 1)).toInt else 0 := by
            unfold y_bterm
            rw [ei]
          rw [h7, h8] at h6
          by_cases c : (g0 : Int) ≤ q
          · rw [if_pos c] at h6 ⊢; rw [if_pos c] at h6; omega
          · rw [if_neg c] at h6 ⊢; rw [if_neg c] at h6; omega
        have hA : ∀ q, z_tot (y_term (m_lost W b a 1) q) n = z_tot (y_term (W 1) q) n := fun q => y_term_of (fun k hk => hx _ (by omega) (by omega)) (fun k hk => hx _ (by omega) (by omega))
        have hbins : y_bins (m_lost W b a 1) := fun c hc => by
          rw [hx (24 + 2 * c) (by omega) (by omega)]
          by_cases e : c = b
          · subst e; rw [hS, upd_ne (by omega), upd_at, em]; exact ⟨hbb.1, by omega⟩
          · rw [hx _ (by omega) (by omega)]; exact h1.bins c hc
        have hok : y_ok (m_lost W b a 1) n := ⟨h1.n16, hbins, fun k hk => by rw [hx _ (by omega) (by omega), hx _ (by omega) (by omega)]; exact h1.ok.2.2 k hk⟩
        have hcov : m_covered (m_lost W b a) n ↔ a ≤ q_loss V b g0 3 := by
          rw [m_cov_i hok]
          unfold q_loss
          rw [k_iter_min, e1]
          constructor
          · intro h
            refine ⟨c3, fun j hj => ?_⟩
            have h6 := h ((g0 + j : Nat) : Int) (by omega) (by omega)
            rw [hA, hB, if_pos (by omega)] at h6
            rw [Int32.le_iff_toInt_le, z_sur hL h2 h1.ok (by omega)]
            omega
          · rintro ⟨-, h⟩ q hq0 hq2
            rw [hA, hB]
            have h6 := h1.cov q hq0 hq2
            by_cases c : (g0 : Int) ≤ q
            · rw [if_pos c]
              obtain ⟨j, hj⟩ : ∃ j : Nat, q = ((g0 + j : Nat) : Int) := ⟨(q - g0).toNat, by omega⟩
              have h7 := h j (by omega)
              rw [Int32.le_iff_toInt_le, z_sur hL h2 h1.ok (by omega), ← hj] at h7
              omega
            · rw [if_neg c]; omega
        by_cases c4 : m_covered (m_lost W b a) n
        · rw [if_pos c4, if_pos (hcov.mp c4)]
          have e10 : V 0 10 = W 1 5 := hL.sc (by decide) (by decide)
          have ea : g_w2 V (7 + b) 1 (W 1 (24 + 2 * b + 1) - a) 0 10 = W 1 5 := by rw [w2_ne (by omega)]; exact e10
          rw [ea]
          refine z_S.ok ?_ ?_ (n := n) ⟨g, ?_, ?_, ?_, ?_⟩
          · rw [w2_ne (by omega), w2_at, hS, upd_ne (by omega), upd_at]
          · rw [hS, upd_ne (by omega), upd_at]; exact z_good_0 (by omega)
          · rw [hS]; exact (hL.up (z_lk_bin hb (by decide)) _).up (z_lk_sc (by decide) (by decide)) _
          · exact ⟨⟨(hx 0 (by omega) (by omega)).trans h1.n0, h1.n16⟩, fun k hk => (h1.row hk).of (fun j hj => hx _ (by omega) (by omega)), h1.set.of (fun x _ _ => hx x (by omega) (by omega)), hbins, (m_cov_i hok).mp c4⟩
          · exact h2.of (hx 2 (by omega) (by omega)) (fun k hk => hx _ (by omega) (by omega))
          · exact h3.of (fun o ho => hx _ (by omega) (by omega))
        · rw [if_neg c4, if_neg (fun z => c4 (hcov.mpr z))]; exact z_S.e2
      · rw [if_neg c3, if_neg (fun z => c3 (by
          unfold q_loss at z
          rw [k_iter_min, e1] at z
          exact z.1))]
        exact z_S.e2
    · rw [if_neg c2, if_neg c2]; exact z_S.e1
  · rw [if_neg c1, if_neg (fun z => c1 (z_in5.mp z))]; exact z_S.e1
end ZV
