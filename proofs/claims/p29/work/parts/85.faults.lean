/-! ===== what reading a text tells: counts, places, causes ===== -/
def r_res (b : Int32 × g_V) (ln : Nat) : Prop := (b.1 = 1 ∧ ∃ cn : Nat, b.2 0 8 = nI cn ∧ 3 * cn ≤ ln) ∨ (b.1 = 0 ∧ ∃ p q : Nat, p < ln ∧ p ≤ q ∧ q ≤ ln ∧ b.2 0 7 = nI p ∧ b.2 0 6 = nI q ∧ (b.2 0 10 = 0 ∨ (b.2 0 10 = 1 ∧ z_err (b.2 0 9))))
section RL
variable {ln : Nat} {lo hi0 : Int}
theorem r_loop (hlo : -600000000 ≤ lo) (hhi : hi0 + 3960000 ≤ 2030000000) : ∀ (f p n cnt : Nat) (G V W : g_V) (mb gain : Int), x_tx G W ln p → z_R V (W 1) n mb lo (hi0 + gain) → 60 ≤ p + f → cnt + f ≤ 60 → mb + f ≤ 2000000000 → x_pt (W 1) p gain → W 0 8 = nI cnt → 3 * cnt ≤ p → r_res (m_doesN (f + 1) W) ln
  | f, p, n, cnt, G, V, W, mb, gain, h, hR, hf, hc, hm, hpt, h8, h3 => by
    have hln : ln ≤ 60 := h.2.2.2.2.2.1
    have hpl : p ≤ ln := h.2.2.2.2.1
    have hn1 : y_1 (W 1) n := hR.choose_spec.2.1
    have hgb := x_pt_bd hpt (by omega) hn1
    by_cases c1 : ln ≤ p
    · have eW : m_doesN (f + 1) W = (1, W) := by
        rw [m_doesN, if_pos]
        rw [h.2.1, h.2.2.2.1]
        exact nI_le c1 (by omega)
      rw [eW]
      exact Or.inl ⟨rfl, cnt, h8, by omega⟩
    · obtain ⟨f', rfl⟩ : ∃ f', f = f' + 1 := ⟨f - 1, by omega⟩
      have hplt : p < ln := by omega
      obtain ⟨w, hw3, ew, es, r7, rg, rc, r0, p', hpp, rx, hcase⟩ := x_read h hplt
      rw [m_doesN]
      rw [if_neg (show ¬ W 0 5 ≤ W 0 6 by rw [h.2.1, h.2.2.2.1]; exact nI_ge hplt (by omega))]
      have hp' : p' ≤ ln := rx.2.2.2.2.1
      rcases hcase with ⟨k1, k2⟩ | ⟨k1, k2, hw1, hk, d, hd1, hd6, hv0, hvd, hpd⟩
      · rw [if_pos k2]
        refine Or.inr ⟨rfl, p, p', hplt, hpp, hp', ?_, ?_, Or.inl ?_⟩
        · dsimp only; rw [w2_ne (by omega)]; exact r7
        · dsimp only; rw [w2_ne (by omega)]; exact rx.2.2.2.1
        · dsimp only; rw [w2_ne (by omega)]; exact k2
      · rw [if_neg (show ¬ m_read W 0 10 = 0 by rw [k2]; decide)]
        have e1 : m_read W 1 = W 1 := rc 1 (by decide) (by decide)
        have hR' : z_R V (m_read W 1) n mb lo (hi0 + gain) := by rw [e1]; exact hR
        have hY' : y_1 (m_read W 1) n := by rw [e1]; exact hn1
        have hst := x_step (G := (q_readOrder G).2) (x := W 4 p) hR' (by omega) hlo (by omega) ew hw1 hw3 hk
        have et : m_told W = m_called (m_read W) (W 4 p) n := by
          unfold m_told
          have hn16 := hn1.n16
          rw [es, e1, hn1.n0, nI_clamp (by omega)]
        have hsm : k_sm (m_read W) (m_called (m_read W) (W 4 p) n).2 := m_called_s
        have hpot := x_pot (W := m_read W) (x := W 4 p) (n := n) hY'
        rw [et]
        have hd0 : (m_called (m_read W) (W 4 p) n).2 0 = m_read W 0 := hsm 0 (by decide)
        rw [if_neg (show ¬ (m_called (m_read W) (W 4 p) n).2 0 10 = 0 by rw [hd0, k2]; decide)]
        have enx : m_next W = g_w2 (g_w2 (m_called (m_read W) (W 4 p) n).2 0 9 (m_called (m_read W) (W 4 p) n).1) 0 8 ((m_called (m_read W) (W 4 p) n).2 0 8 + 1) := by unfold m_next; rw [et]
        rw [enx]
        obtain ⟨s1, s2⟩ := hst
        generalize q_doOrder V (q_readOrder G).2 (W 4 p) = A at s1 s2
        generalize m_called (m_read W) (W 4 p) n = B at s1 s2 hsm hd0 hpot ⊢
        rcases s2 with ⟨s3, s4, s5⟩ | ⟨s3, n', s4⟩
        · rw [if_neg (z_err_k s3).2]
          refine Or.inr ⟨rfl, p, p', hplt, hpp, hp', ?_, ?_, Or.inr ⟨?_, ?_⟩⟩
          · dsimp only; rw [w2_ne (by omega), hd0]; exact r7
          · dsimp only; rw [w2_ne (by omega), hd0]; exact rx.2.2.2.1
          · dsimp only; rw [w2_ne (by omega), hd0]; exact k2
          · dsimp only; rw [w2_at]; exact s3
        · rw [if_pos (z_good_k s3).2]
          have hx' : x_tx (g_w2 (q_readOrder G).2 1 4 ((q_readOrder G).2 1 4 + 1)) (g_w2 (g_w2 B.2 0 9 B.1) 0 8 (B.2 0 8 + 1)) ln p' := by
            refine ⟨?_, ?_, ?_, ?_, hp', hln, fun j hj => ?_⟩
            · rw [w2_ne (by omega)]; exact rx.1
            · rw [w2_ne (by omega), w2_ne (by omega), hd0]; exact rx.2.1
            · rw [w2_ne (by omega)]; exact rx.2.2.1
            · rw [w2_ne (by omega), w2_ne (by omega), hd0]; exact rx.2.2.2.1
            · rw [w2_c (by decide), w2_c (by decide), w2_c (by decide), hsm 4 (by decide)]
              exact rx.2.2.2.2.2.2 j hj
          have hR1 : z_R A.2 (g_w2 (g_w2 B.2 0 9 B.1) 0 8 (B.2 0 8 + 1) 1) n' (mb + 1) lo (hi0 + (gain + x_gain (m_read W) (W 4 p))) := by
            rw [w2_c (by decide), w2_c (by decide)]
            exact s4.mono (Int.le_refl _) (Int.le_refl _) (by omega)
          have hYn : y_1 (B.2 1) n' := s4.choose_spec.2.1
          have hpt' : x_pt (g_w2 (g_w2 B.2 0 9 B.1) 0 8 (B.2 0 8 + 1) 1) p' (gain + x_gain (m_read W) (W 4 p)) := by
            rw [w2_c (by decide), w2_c (by decide)]
            obtain ⟨m, q1, q2⟩ := hpt
            have hb0 := y_P_bd hn1
            have hb1 := y_P_bd hYn
            by_cases c6 : W 4 p = 116
            · have eg : x_gain (m_read W) (W 4 p) = 0 := if_neg (by rw [c6]; decide)
              rw [eg]
              exact ⟨m + 1, by omega, by omega⟩
            · have hz := hpot s3 c6 (by rw [ew]; exact nI_ne0 (by omega) (by omega))
              rw [e1] at hz
              by_cases c8 : W 4 p = 108
              · rw [if_pos c8] at hz
                have e3 : w = 3 := (nI_eq (by omega) (by decide)).mp (ew.symm.trans (by rw [c8]; decide))
                subst e3
                have eg : x_gain (m_read W) (W 4 p) = (m_read W 5 2).toInt := by
                  unfold x_gain
                  rw [if_pos c8]
                  omega
                rw [eg]
                have hvd' : (m_read W 5 2).toInt < 10 ^ d := hvd
                have h82 : (m_read W 5 2).toInt ≤ 82500 * ((p' : Int) - p) := by
                  by_cases c9 : d = 6
                  · omega
                  · have h5 : (10 : Int) ^ d ≤ 100000 := by
                      rcases (show d = 1 ∨ d = 2 ∨ d = 3 ∨ d = 4 ∨ d = 5 by omega) with rfl | rfl | rfl | rfl | rfl <;> decide
                    omega
                exact ⟨m, by omega, by omega⟩
              · rw [if_neg c8] at hz
                have eg : x_gain (m_read W) (W 4 p) = 0 := if_neg c8
                rw [eg]
                exact ⟨m, by omega, by omega⟩
          have hw8 : B.2 0 8 = nI cnt := by rw [hd0, r0 8 (by decide) (by decide) (by decide)]; exact h8
          exact r_loop hlo hhi f' p' n' (cnt + 1) (g_w2 (q_readOrder G).2 1 4 ((q_readOrder G).2 1 4 + 1)) A.2 (g_w2 (g_w2 B.2 0 9 B.1) 0 8 (B.2 0 8 + 1)) (mb + 1) (gain + x_gain (m_read W) (W 4 p)) hx' hR1 (by omega) (by omega) (by omega) hpt' (by rw [w2_at, hw8]; exact nI_1 cnt) (by omega)
end RL
theorem r_does {P : g_P} {M : g_M} {mb lo hi : Int} (h : z_Rel P M mb lo hi) (hmb : mb + 60 ≤ 2000000000) (hlo : -600000000 ≤ lo) (hhi : hi + 3960000 ≤ 2030000000) : ∃ ln : Nat, M 6 1 2 = nI ln ∧ ln ≤ 60 ∧ r_res (m_does (m_begins (M 7))) ln := by
  obtain ⟨hP, ⟨ln, t1, t2, t3, t4, t5⟩, s, a, b, c, ⟨n, d⟩, e⟩ := h
  refine ⟨ln, t1, t3, ?_⟩
  generalize M 6 = G at t1 t4
  generalize M 7 = W at t2 t4 d ⊢
  generalize M (P 0) = V at d
  have hb : ∀ c, c ≠ 0 → c ≠ 2 → g_w2 (g_w2 (m_begins W) 0 6 0) 0 8 0 c = W c := fun c c0 c2 => by rw [w2_c c0, w2_c c0, m_begins_c c2]
  have hx : x_tx (q_orders0 G) (g_w2 (g_w2 (m_begins W) 0 6 0) 0 8 0) ln 0 := by
    unfold q_orders0
    refine ⟨?_, ?_, ?_, ?_, Nat.zero_le _, t3, fun j hj => ?_⟩
    · rw [w2_ne (by omega), w2_ne (by omega), w2_ne (by omega)]; exact t1
    · rw [w2_ne (by omega), w2_ne (by omega), m_begins_c (by decide)]; exact t2
    · rw [w2_at]; rfl
    · rw [w2_ne (by omega), w2_at]; rfl
    · rw [w2_c (by decide), w2_c (by decide), w2_c (by decide), hb 4 (by decide) (by decide)]; exact t4 j hj
  have hR : z_R V (g_w2 (g_w2 (m_begins W) 0 6 0) 0 8 0 1) n mb lo (hi + 0) := by
    rw [Int.add_zero, hb 1 (by decide) (by decide)]
    exact d
  have hY : y_1 (W 1) n := d.choose_spec.2.1
  have hpt : x_pt (g_w2 (g_w2 (m_begins W) 0 6 0) 0 8 0 1) 0 0 := by
    rw [hb 1 (by decide) (by decide)]
    have := (y_P_bd hY).1
    exact ⟨0, by omega, by omega⟩
  have f := r_loop hlo hhi 60 0 n 0 (q_orders0 G) V (g_w2 (g_w2 (m_begins W) 0 6 0) 0 8 0) mb 0 hx hR (by omega) (by omega) (by omega) hpt (by rw [w2_at]; rfl) (by omega)
  have eD : m_does (m_begins W) = m_doesN (60 + 1) (g_w2 (g_w2 (m_begins W) 0 6 0) 0 8 0) := by unfold m_does; with_reducible rfl
  rw [eD]
  exact f
