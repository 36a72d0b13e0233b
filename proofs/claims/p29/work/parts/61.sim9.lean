/-! ===== deliveries alike ===== -/
section ZU
variable {V W : g_V} {n : Nat} {g : Nat → Nat} {mb lo hi : Int} {k : Nat}
theorem y_A_own (h1 : y_1 (W 1) n) (hk : k < n) {q : Int} (hq : q < (W 1 (34 + 7 * k + 2)).toInt) : z_tot (y_term (W 1) q) n + (W 1 (34 + 7 * k + 3)).toInt ≤ z_tot (y_term (W 1) (W 1 (34 + 7 * k + 2)).toInt) n := by
  have e1 : y_term (W 1) (W 1 (34 + 7 * k + 2)).toInt k = (W 1 (34 + 7 * k + 3)).toInt := if_pos (Int.le_refl _)
  have h2 := z_tot_one (f := y_term (W 1) (W 1 (34 + 7 * k + 2)).toInt) (g := fun i => if i = k then 0 else y_term (W 1) (W 1 (34 + 7 * k + 2)).toInt i) hk (fun i _ hne => (if_neg hne).symm)
  have h3 : z_tot (y_term (W 1) q) n ≤ z_tot (fun i => if i = k then 0 else y_term (W 1) (W 1 (34 + 7 * k + 2)).toInt i) n := z_tot_le (fun i hi => by
    have h4 := (h1.row hi).2.2.1
    by_cases e : i = k
    · subst e
      rw [if_pos rfl]
      unfold y_term
      rw [if_neg (by omega)]
      exact Int.le_refl 0
    · rw [if_neg e]
      unfold y_term
      split
      · rw [if_pos (by omega)]; exact Int.le_refl _
      · split <;> omega)
  simp only [if_true] at h2
  omega
theorem y_A_le (h1 : y_1 (W 1) n) (hk : k < n) : (W 1 (34 + 7 * k + 3)).toInt ≤ z_tot (y_bterm (W 1) (W 1 (34 + 7 * k + 2)).toInt) 5 := by
  have e1 : y_term (W 1) (W 1 (34 + 7 * k + 2)).toInt k = (W 1 (34 + 7 * k + 3)).toInt := if_pos (Int.le_refl _)
  have h2 := z_tot_ge (f := y_term (W 1) (W 1 (34 + 7 * k + 2)).toInt) hk (y_term_pos h1)
  have h3 := (h1.row hk).2.1
  have h4 := h1.cov _ h3.1 h3.2
  omega
theorem y_deliver (h1 : y_1 (W 1) n) (hk : k < n) : (∀ x, ¬ (∃ c, c < 5 ∧ x = 24 + 2 * c + 1) → x ≠ 4 → (m_delivers1 W k).1 1 x = W 1 x) ∧ y_1 (m_removes (m_delivers1 W k).1 n k 1) (n - 1) := by
  obtain ⟨-, hr2, hr3, -⟩ := h1.row hk
  have ham := h1.amt hk
  obtain ⟨j, hj, ej⟩ := z_lo (N := 3) hr2.1 (by omega)
  have ei : (W 1 (34 + 7 * k + 2)).toInt = j := by rw [ej, nI_toInt (by omega)]
  have hW0 : ∀ x, x ≠ 4 → g_w2 W 1 4 (W 1 4 + W 1 (34 + 7 * k + 3)) 1 x = W 1 x := fun x hx => w2_ne (by omega)
  have hb0 : y_bins (g_w2 W 1 4 (W 1 4 + W 1 (34 + 7 * k + 3)) 1) := h1.bins.of (fun x _ _ => hW0 x (by omega))
  have hB0 : ∀ q, z_tot (y_bterm (g_w2 W 1 4 (W 1 4 + W 1 (34 + 7 * k + 3)) 1) q) 5 = z_tot (y_bterm (W 1) q) 5 := fun q => y_bterm_of (fun x _ _ => hW0 x (by omega))
  have hA := y_A_le h1 hk
  rw [ei] at hA
  have e1 : ((j + 1 : Nat) : Int) - 1 = j := by omega
  obtain ⟨a1, a2, a3, a4, a5, -⟩ := y_delv (own := W 1 (34 + 7 * k + 2)) (j + 1) (g_w2 W 1 4 (W 1 4 + W 1 (34 + 7 * k + 3)), W 1 (34 + 7 * k + 3), 0) (by omega) hb0 (by show 0 ≤ (W 1 (34 + 7 * k + 3)).toInt; omega) (show (0 : Int) ≤ (0 : Int32).toInt by decide) (by show (W 1 (34 + 7 * k + 3)).toInt + (0 : Int32).toInt ≤ 100000; rw [z_i0]; omega) (by show (W 1 (34 + 7 * k + 3)).toInt ≤ z_tot (y_bterm (g_w2 W 1 4 (W 1 4 + W 1 (34 + 7 * k + 3)) 1) (((j + 1 : Nat) : Int) - 1)) 5; rw [hB0, e1]; exact hA)
  have eD : m_delivers1 W k = m_delv (W 1 (34 + 7 * k + 2)) (j + 1) (g_w2 W 1 4 (W 1 4 + W 1 (34 + 7 * k + 3)), W 1 (34 + 7 * k + 3), 0) := by
    unfold m_delivers1
    rw [show (W 1 (34 + 7 * k + 2)).toNatClampNeg = j by rw [ej, nI_clamp (by omega)]]
  rw [eD]
  generalize m_delv (W 1 (34 + 7 * k + 2)) (j + 1) (g_w2 W 1 4 (W 1 4 + W 1 (34 + 7 * k + 3)), W 1 (34 + 7 * k + 3), 0) = R at a1 a2 a3 a4 a5 ⊢
  have hx : ∀ x, ¬ (∃ c, c < 5 ∧ x = 24 + 2 * c + 1) → x ≠ 4 → R.1 1 x = W 1 x := fun x h2 h4 => (a1 x h2).trans (hW0 x h4)
  have hx34 : ∀ x, 34 ≤ x → R.1 1 x = W 1 x := fun x h => hx x (fun ⟨c, hc, e⟩ => by omega) (by omega)
  refine ⟨hx, y_gone hk h1.n16 (fun i hi _ => (h1.row hi).of (fun f hf => hx34 _ (by omega))) (h1.set.of (fun x _ _ => hx x (fun ⟨c, hc, e⟩ => by omega) (by omega))) a2 (fun q h0 h2 => ?_)⟩
  rw [y_term_of (S := W 1) (fun i hi => hx34 _ (by omega)) (fun i hi => hx34 _ (by omega))]
  have et : y_term (R.1 1) q k = if (j : Int) ≤ q then (W 1 (34 + 7 * k + 3)).toInt else 0 := by
    unfold y_term
    rw [hx34 _ (by omega), hx34 _ (by omega), ei]
  have hc := h1.cov q h0 h2
  rw [et]
  by_cases c : (j : Int) ≤ q
  · rw [if_pos c, a5 q (by omega), hB0]
    dsimp only
    omega
  · rw [if_neg c, a4 q (by omega), hB0, hB0, e1]
    have h3 := y_A_own h1 hk (q := q) (by rw [ei]; omega)
    rw [ei] at h3
    have h4 := h1.cov j (by omega) (by omega)
    dsimp only
    omega
theorem s_deliver {x : Int32} (h : z_R V (W 1) n mb lo hi) : z_S V W (q_deliver V x) (m_delivers W x n) mb lo hi := by
  obtain ⟨g, hL, h1, h2, h3⟩ := h
  unfold q_deliver m_delivers
  rw [z_find hL h2]
  cases hp : m_place W x n with
  | none => exact z_S.e1
  | some k =>
    simp only [Option.map_some]
    obtain ⟨hk, -⟩ := z_place hp
    by_cases c3 : m_pledged W k
    · rw [if_pos ((z_pledged hL h1 hk).mpr c3), if_pos c3]; exact z_S.e2
    · rw [if_neg (fun z => c3 ((z_pledged hL h1 hk).mp z)), if_neg c3]
      obtain ⟨hx, hY1⟩ := y_deliver h1 hk
      obtain ⟨-, hr2, hr3, -⟩ := h1.row hk
      have ham := h1.amt hk
      obtain ⟨j, hj, ej⟩ := z_lo (N := 3) hr2.1 (by omega)
      have ei : (W 1 (34 + 7 * k + 2)).toInt = j := by rw [ej, nI_toInt (by omega)]
      have ecl : (W 1 (34 + 7 * k + 2)).toNatClampNeg = j := by rw [ej, nI_clamp (by omega)]
      have e4 : V 0 9 = W 1 4 := hL.sc (by decide) (by decide)
      have hL0 : z_L (g_w2 V 0 9 (W 1 4 + W 1 (34 + 7 * k + 3))) (g_w2 W 1 4 (W 1 4 + W 1 (34 + 7 * k + 3)) 1) n g := by
        rw [w2_s]
        exact hL.up (z_lk_sc (by decide) (by decide)) _
      obtain ⟨t1, t2⟩ := z_take hL0 (x := W 1 (34 + 7 * k + 2)) (own := W 1 (34 + 7 * k + 2)) (a := W 1 (34 + 7 * k + 3)) (b := 0) 5 (Nat.le_refl 5)
      obtain ⟨d1, d2⟩ := z_delv (own := W 1 (34 + 7 * k + 2)) j _ _ t1 t2
      have eR : m_delivers1 W k = m_delv (W 1 (34 + 7 * k + 2)) j (k_iter (m_delStep (W 1 (34 + 7 * k + 2)) (W 1 (34 + 7 * k + 2))) (g_w2 W 1 4 (W 1 4 + W 1 (34 + 7 * k + 3)), W 1 (34 + 7 * k + 3), 0) 5) := by
        unfold m_delivers1
        rw [ecl, m_delv, ← ej]
      have hb0 : y_bins (g_w2 W 1 4 (W 1 4 + W 1 (34 + 7 * k + 3)) 1) := h1.bins.of (fun x _ _ => w2_ne (by omega))
      have hB0 : ∀ q, z_tot (y_bterm (g_w2 W 1 4 (W 1 4 + W 1 (34 + 7 * k + 3)) 1) q) 5 = z_tot (y_bterm (W 1) q) 5 := fun q => y_bterm_of (fun x _ _ => w2_ne (by omega))
      obtain ⟨-, u2, u3, u4, u5, u6⟩ := y_take (W := g_w2 W 1 4 (W 1 4 + W 1 (34 + 7 * k + 3))) (x := W 1 (34 + 7 * k + 2)) (own := W 1 (34 + 7 * k + 2)) (a := W 1 (34 + 7 * k + 3)) (b := 0) hb0 (by omega) (by decide) (by rw [z_i0]; omega) 5 (Nat.le_refl 5)
      have hA := y_A_le h1 hk
      have hst := y_B_step (W := g_w2 W 1 4 (W 1 4 + W 1 (34 + 7 * k + 3))) hb0 (x := (W 1 (34 + 7 * k + 2)).toInt)
      rw [hB0, hB0] at hst
      rw [q_take_09] at t1 t2 d1 d2
      have eT : q_take V (W 1 (34 + 7 * k + 2)) (W 1 (34 + 7 * k + 3)) = k_iter (q_takeStep (W 1 (34 + 7 * k + 2))) (V, W 1 (34 + 7 * k + 3)) 5 := rfl
      have eC : ∀ c, c < 7 ∨ 12 ≤ c → (k_iter (q_takeStep (W 1 (34 + 7 * k + 2))) (V, W 1 (34 + 7 * k + 3)) 5).1 c = V c := fun c hc => q_take_c hc 5 (Nat.le_refl 5)
      unfold q_deliver1
      rw [hL.row hk (by decide), hL.row hk (by decide), eT, ecl, eR]
      rw [eR] at hx hY1
      generalize k_iter (q_takeStep (W 1 (34 + 7 * k + 2))) (V, W 1 (34 + 7 * k + 3)) 5 = t at t1 t2 d1 d2 eC ⊢
      generalize hrr : k_iter (m_delStep (W 1 (34 + 7 * k + 2)) (W 1 (34 + 7 * k + 2))) (g_w2 W 1 4 (W 1 4 + W 1 (34 + 7 * k + 3)), W 1 (34 + 7 * k + 3), 0) 5 = r at t1 t2 d1 d2 u2 u3 u4 u5 u6 hx hY1 ⊢
      rw [q_delv_09] at d1 d2
      have eD : (q_delv j t).1 0 9 + (q_delv j t).1 (12 + g k) 3 = W 1 4 + W 1 (34 + 7 * k + 3) := by
        rw [q_delv_c (by omega), q_delv_c (by omega), eC 0 (by omega), eC (12 + g k) (by omega), e4, hL.row hk (by decide)]
      rw [eD]
      have b1 := u4 ((j : Int) - 1)
      rw [ei] at hA hst u5 b1
      rw [if_neg (by omega), hB0] at b1
      have hpos : 0 ≤ z_tot (y_bterm (r.1 1) ((j : Int) - 1)) 5 := z_tot_pos (y_bterm_pos u2)
      rw [if_pos (Int.le_refl _), z_i0] at u6
      obtain ⟨-, -, -, -, -, w6⟩ := y_delv (own := W 1 (34 + 7 * k + 2)) j r (by omega) u2 u3.1 (by omega) (by omega) (by omega)
      have ew := w6 (by omega)
      obtain ⟨g', hG⟩ := z_gone d1 hk
      refine z_S.ok (z_ext ?_) (z_good_0 (by omega)) (n := n - 1) ⟨g', hG, hY1, y2_gone (h2.of (hx 2 (fun ⟨c, hc, e⟩ => by omega) (by omega)) (fun i hi => hx _ (fun ⟨c, hc, e⟩ => by omega) (by omega))) hk, y3_gone (h3.of (fun o ho => hx _ (fun ⟨c, hc, e⟩ => by omega) (by omega))) hk⟩
      dsimp only at t2
      rw [t2, ew]
      omega
end ZU
