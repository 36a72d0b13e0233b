/-! ===== a row goes: joining ===== -/
section ZR
variable {V W : g_V} {n : Nat} {g : Nat → Nat} {mb lo hi : Int} {k a : Nat}
theorem m_shiftN_v {a0 : Nat} : ∀ {c : Nat}, ∀ x, m_shiftN W a0 c 1 x = if a0 ≤ x ∧ x < a0 + c then W 1 (x + 7) else W 1 x
  | 0, x => by rw [if_neg (by omega)]; rfl
  | c + 1, x => by
    have e : m_shiftN W a0 (c + 1) = g_w2 (m_shiftN W a0 c) 1 (a0 + c) (m_shiftN W a0 c 1 (a0 + c + 7)) := by unfold m_shiftN; rw [k_iter]
    rw [e]
    by_cases h : x = a0 + c
    · subst h
      rw [w2_at, m_shiftN_v (c := c) (a0 + c + 7), if_neg (by omega), if_pos (by omega)]
    · rw [w2_ne (by omega), m_shiftN_v (c := c) x]
      by_cases h1 : a0 ≤ x ∧ x < a0 + c
      · rw [if_pos h1, if_pos (by omega)]
      · rw [if_neg h1, if_neg (by omega)]
theorem m_zeroN_v {b0 : Nat} : ∀ {c : Nat}, ∀ x, m_zeroN W b0 c 1 x = if b0 ≤ x ∧ x < b0 + c then 0 else W 1 x
  | 0, x => by rw [if_neg (by omega)]; rfl
  | c + 1, x => by
    have e : m_zeroN W b0 (c + 1) = g_w2 (m_zeroN W b0 c) 1 (b0 + c) 0 := by unfold m_zeroN; rw [k_iter]
    rw [e]
    by_cases h : x = b0 + c
    · subst h; rw [w2_at, if_pos (by omega)]
    · rw [w2_ne (by omega), m_zeroN_v (c := c) x]
      by_cases h1 : b0 ≤ x ∧ x < b0 + c
      · rw [if_pos h1, if_pos (by omega)]
      · rw [if_neg h1, if_neg (by omega)]
theorem m_rem_0 : m_removes W n a 1 0 = nI (n - 1) := by
  unfold m_removes
  rw [m_zeroN_v, if_neg (by omega), m_shiftN_v, if_neg (by omega), w2_at]
theorem m_rem_x {x : Nat} (ha : a < n) (h0 : x ≠ 0) (h : x < 34) : m_removes W n a 1 x = W 1 x := by
  unfold m_removes
  rw [m_zeroN_v, if_neg (by omega), m_shiftN_v, if_neg (by omega), w2_ne (by omega)]
theorem m_rem_r {j : Nat} (ha : a < n) (hk : k < n - 1) (hj : j < 7) : m_removes W n a 1 (34 + 7 * k + j) = W 1 (34 + 7 * (if k < a then k else k + 1) + j) := by
  unfold m_removes
  rw [m_zeroN_v, if_neg (by omega), m_shiftN_v]
  by_cases h : k < a
  · rw [if_neg (by omega), w2_ne (by omega), if_pos h]
  · rw [if_pos (by omega), w2_ne (by omega), if_neg h]
    congr 1
    omega
theorem z_gone (hL : z_L V (W 1) n g) (ha : a < n) : ∃ g', z_L (q_free V (g a)) (m_removes W n a 1) (n - 1) g' := by
  refine ⟨_, hL.gone ha (fun c j hc => ?_) ?_ m_rem_0 (fun x h0 h => m_rem_x ha h0 h) (fun k j hk hj => m_rem_r ha hk hj)⟩
  · unfold q_free q_endPledge q_use
    rw [w2_ne (by omega), w2_ne (by omega), w2_ne (by omega), w2_ne (by omega), w2_ne (by omega), w2_ne (by omega), w2_ne (by omega)]
  · unfold z_free q_free q_endPledge q_use
    refine ⟨?_, ?_, ?_, ?_, ?_, ?_, ?_⟩
    · rw [w2_ne (by omega), w2_ne (by omega), w2_ne (by omega), w2_ne (by omega), w2_ne (by omega), w2_ne (by omega), w2_at]
    · rw [w2_ne (by omega), w2_ne (by omega), w2_ne (by omega), w2_ne (by omega), w2_ne (by omega), w2_at]
    · rw [w2_ne (by omega), w2_ne (by omega), w2_ne (by omega), w2_ne (by omega), w2_at]
    · rw [w2_ne (by omega), w2_ne (by omega), w2_ne (by omega), w2_at]
    · rw [w2_ne (by omega), w2_ne (by omega), w2_at]
    · rw [w2_ne (by omega), w2_at]
    · rw [w2_at]
theorem y_gone (ha : a < n) (hn : n ≤ 16) (hr : ∀ k, k < n → k ≠ a → y_row (W 1) k) (hs : y_set (W 1)) (hb : y_bins (W 1)) (hc : ∀ q : Int, 0 ≤ q → q ≤ 2 → z_tot (y_term (W 1) q) n - y_term (W 1) q a ≤ z_tot (y_bterm (W 1) q) 5) : y_1 (m_removes W n a 1) (n - 1) := by
  refine ⟨⟨m_rem_0, by omega⟩, fun k hk => ?_, hs.of (fun x _ _ => m_rem_x ha (by omega) (by omega)), hb.of (fun x _ _ => m_rem_x ha (by omega) (by omega)), fun q h0 h2 => ?_⟩
  · exact (hr (if k < a then k else k + 1) (by split <;> omega) (by split <;> omega)).at (fun j hj => m_rem_r ha hk hj)
  · rw [y_bterm_of (S := W 1) (fun x _ _ => m_rem_x ha (by omega) (by omega))]
    have h1 := z_tot_gone (f := y_term (W 1) q) ha
    have h3 : z_tot (y_term (m_removes W n a 1) q) (n - 1) = z_tot (fun k => y_term (W 1) q (if k < a then k else k + 1)) (n - 1) := z_tot_congr (fun k hk => by
      unfold y_term
      rw [m_rem_r ha hk (by decide), m_rem_r ha hk (by decide)])
    have h4 := hc q h0 h2
    omega
theorem y2_gone (h : y_2 (W 1) n mb) (ha : a < n) : y_2 (m_removes W n a 1) (n - 1) mb := by
  have er : ∀ k, k < n - 1 → m_removes W n a 1 (34 + 7 * k) = W 1 (34 + 7 * (if k < a then k else k + 1)) := fun k hk => m_rem_r (j := 0) ha hk (by decide)
  have e2 : m_removes W n a 1 2 = W 1 2 := m_rem_x ha (by omega) (by omega)
  refine ⟨fun k k' hk hk' => ?_, fun k hk => ?_, ?_⟩
  · rw [er k (by omega), er k' hk']
    exact h.1 _ _ (by split <;> split <;> omega) (by split <;> omega)
  · rw [er k hk, e2]
    exact h.2.1 _ (by split <;> omega)
  · rw [e2]; exact h.2.2
theorem y3_gone (h : y_3 (W 1) lo hi) (ha : a < n) : y_3 (m_removes W n a 1) lo hi := h.of (fun o ho => m_rem_x ha (by omega) (by omega))
theorem s_join {x z : Int32} (h : z_R V (W 1) n mb lo hi) : z_S V W (q_join V x z) (m_joins W x z n) mb lo hi := by
  obtain ⟨g, hL, h1, h2, h3⟩ := h
  unfold q_join m_joins
  rw [z_find hL h2, z_find hL h2]
  cases hp : m_place W x n with
  | none =>
    cases hq : m_place W z n with
    | none => exact z_S.e1
    | some j => exact z_S.e1
  | some k =>
    cases hq : m_place W z n with
    | none => exact z_S.e1
    | some j =>
      simp only [Option.map_some]
      obtain ⟨hk, ek⟩ := z_place hp
      obtain ⟨hj, ej⟩ := z_place hq
      have h16 := h1.n16
      by_cases c1 : k = j
      · subst c1
        rw [if_pos (ek.symm.trans ej), if_pos rfl]; exact z_S.e1
      · rw [if_neg (fun y => c1 (h2.eq hk hj (by rw [ek, ej]; exact y))), if_neg (fun y => c1 ((nI_eq (by omega) (by omega)).mp y)), hL.row hk (by decide), hL.row hj (by decide)]
        by_cases c2 : W 1 (34 + 7 * k + 1) = W 1 (34 + 7 * j + 1)
        · rw [if_pos c2, if_pos c2, hL.row hk (by decide), hL.row hj (by decide)]
          by_cases c3 : W 1 (34 + 7 * k + 2) = W 1 (34 + 7 * j + 2)
          · rw [if_pos c3, if_pos c3]
            by_cases c4 : m_pledged W k
            · rw [if_pos ((z_pledged hL h1 hk).mpr c4), if_pos c4]; exact z_S.e2
            · rw [if_neg (fun y => c4 ((z_pledged hL h1 hk).mp y)), if_neg c4]
              by_cases c5 : m_pledged W j
              · rw [if_pos ((z_pledged hL h1 hj).mpr c5), if_pos c5]; exact z_S.e2
              · rw [if_neg (fun y => c5 ((z_pledged hL h1 hj).mp y)), if_neg c5, hL.row hk (by decide), hL.row hj (by decide), Int32.add_comm (W 1 (34 + 7 * j + 3))]
                have hg : g k ≠ g j := fun y => c1 (hL.inj hk hj y)
                have hk3 := (h1.row hk).2.2.1
                have hj3 := (h1.row hj).2.2.1
                have hka := h1.amt hk
                have hja := h1.amt hj
                have es : (W 1 (34 + 7 * k + 3) + W 1 (34 + 7 * j + 3)).toInt = (W 1 (34 + 7 * k + 3)).toInt + (W 1 (34 + 7 * j + 3)).toInt := z_add (by omega) (by omega)
                generalize W 1 (34 + 7 * k + 3) + W 1 (34 + 7 * j + 3) = sm at es ⊢
                have hL1 : z_L (g_w2 V (12 + g j) 3 sm) (g_w2 W 1 (34 + 7 * j + 3) sm 1) n g := by
                  rw [w2_s]
                  exact hL.up (z_lk_row hj (by decide)) _
                obtain ⟨g', hL2⟩ := z_gone hL1 hk
                have e1 : ∀ y, y ≠ 34 + 7 * j + 3 → g_w2 W 1 (34 + 7 * j + 3) sm 1 y = W 1 y := fun y hy => w2_ne (by omega)
                refine z_S.ok ?_ (z_good_0 (by omega)) (n := n - 1) ⟨g', hL2, y_gone hk h16 (fun i hi hne => ?_) (h1.set.of (fun y _ _ => e1 y (by omega))) (h1.bins.of (fun y _ _ => e1 y (by omega))) (fun q h0 h2 => ?_), y2_gone (h2.of (e1 2 (by omega)) (fun i hi => e1 _ (by omega))) hk, y3_gone (h3.of (fun o ho => e1 _ (by omega))) hk⟩
                · unfold q_free q_endPledge q_use
                  rw [w2_ne (by omega), w2_ne (by omega), w2_ne (by omega), w2_ne (by omega), w2_ne (by omega), w2_ne (by omega), w2_ne (by omega), w2_at]
                · by_cases ei : i = j
                  · subst ei
                    have hri := h1.row hi
                    unfold y_row at hri ⊢
                    rw [e1 _ (by omega), e1 (34 + 7 * i + 2) (by omega), e1 (34 + 7 * i + 4) (by omega), e1 (34 + 7 * i + 5) (by omega), e1 (34 + 7 * i + 6) (by omega), w2_at]
                    exact ⟨hri.1, hri.2.1, by omega, hri.2.2.2⟩
                  · exact (h1.row hi).of (fun f hf => e1 _ (by omega))
                · rw [y_bterm_of (S := W 1) (fun y _ _ => e1 y (by omega))]
                  have h5 := z_tot_one (f := y_term (g_w2 W 1 (34 + 7 * j + 3) sm 1) q) (g := y_term (W 1) q) hj (fun i hi hne => by
                    unfold y_term
                    rw [e1 _ (by omega), e1 _ (by omega)])
                  have h6 : y_term (g_w2 W 1 (34 + 7 * j + 3) sm 1) q j = if (W 1 (34 + 7 * j + 2)).toInt ≤ q then sm.toInt else 0 := by
                    unfold y_term
                    rw [e1 _ (by omega), w2_at]
                  have h7 : y_term (W 1) q j = if (W 1 (34 + 7 * j + 2)).toInt ≤ q then (W 1 (34 + 7 * j + 3)).toInt else 0 := rfl
                  have h8 : y_term (g_w2 W 1 (34 + 7 * j + 3) sm 1) q k = if (W 1 (34 + 7 * j + 2)).toInt ≤ q then (W 1 (34 + 7 * k + 3)).toInt else 0 := by
                    unfold y_term
                    rw [e1 _ (by omega), e1 _ (by omega), c3]
                  have h9 := h1.cov q h0 h2
                  rw [h6, h7] at h5
                  rw [h8]
                  split at h5 <;> simp_all <;> omega
          · rw [if_neg c3, if_neg c3]; exact z_S.e2
        · rw [if_neg c2, if_neg c2]; exact z_S.e2
end ZR
