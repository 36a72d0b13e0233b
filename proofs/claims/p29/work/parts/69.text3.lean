/-! ===== all orders of a text ===== -/
def x_pt (S : Nat → Int32) (p : Nat) (gain : Int) : Prop := ∃ m : Nat, gain ≤ 82500 * ((p : Int) - 3 * m) ∧ gain ≤ 990000 * m + 99 * y_P S
theorem x_pt_bd {S : Nat → Int32} {p n : Nat} {gain : Int} (h : x_pt S p gain) (hp : p ≤ 60) (h1 : y_1 S n) : gain ≤ 3960000 := by
  obtain ⟨m, a, b⟩ := h
  have := (y_P_bd h1).2
  by_cases c : m ≤ 3
  · omega
  · omega
def x_fr (a : g_V × g_V) (b : Int32 × g_V) (G W : g_V) : Prop := ((∀ c, c ≠ 1 → c ≠ 3 → a.1 c = G c) ∧ a.1 1 2 = G 1 2) ∧ (∀ c, c ≠ 0 → c ≠ 1 → c ≠ 5 → b.2 c = W c) ∧ b.2 0 3 = W 0 3 ∧ b.2 0 5 = W 0 5
theorem x_fr.tr {a : g_V × g_V} {b : Int32 × g_V} {G W G' W' : g_V} (h : x_fr a b G' W') (h1 : ∀ c, c ≠ 1 → c ≠ 3 → G' c = G c) (h2 : G' 1 2 = G 1 2) (h3 : ∀ c, c ≠ 0 → c ≠ 1 → c ≠ 5 → W' c = W c) (h4 : W' 0 3 = W 0 3) (h5 : W' 0 5 = W 0 5) : x_fr a b G W :=
  ⟨⟨fun c c1 c3 => (h.1.1 c c1 c3).trans (h1 c c1 c3), h.1.2.trans h2⟩, fun c c0 c1 c5 => (h.2.1 c c0 c1 c5).trans (h3 c c0 c1 c5), h.2.2.1.trans h4, h.2.2.2.trans h5⟩
def x_res (a : g_V × g_V) (b : Int32 × g_V) (mb lo hi : Int) : Prop :=
  (b.1 = 1 ∧ a.1 1 6 = 0 ∧ a.1 1 4 = b.2 0 8 ∧ 0 ≤ (b.2 0 8).toInt ∧ ∃ n, z_R a.2 (b.2 1) n mb lo hi) ∨ (b.1 = 0 ∧ ((a.1 1 6 = 1 ∧ b.2 0 10 = 0) ∨ (a.1 1 6 = 2 ∧ b.2 0 10 = 1)) ∧ a.1 1 5 = b.2 0 7 ∧ a.1 1 7 = if b.2 0 10 = 0 then b.2 0 6 - b.2 0 7 else b.2 0 9)
section XL
variable {ln : Nat} {lo hi0 : Int}
theorem x_loop (hlo : -600000000 ≤ lo) (hhi : hi0 + 3960000 ≤ 2030000000) : ∀ (f p n cnt : Nat) (G V W : g_V) (mb gain : Int), x_tx G W ln p → z_R V (W 1) n mb lo (hi0 + gain) → 60 ≤ p + f → cnt + f ≤ 60 → mb + f ≤ 2000000000 → x_pt (W 1) p gain → G 1 4 = nI cnt → W 0 8 = nI cnt → G 1 6 = 0 → x_fr (q_ordersN f (G, V)) (m_doesN (f + 1) W) G W ∧ x_res (q_ordersN f (G, V)) (m_doesN (f + 1) W) (mb + f) lo (hi0 + 3960000)
  | f, p, n, cnt, G, V, W, mb, gain, h, hR, hf, hc, hm, hpt, h4, h8, h6 => by
    have hln : ln ≤ 60 := h.2.2.2.2.2.1
    have hpl : p ≤ ln := h.2.2.2.2.1
    have hn1 : y_1 (W 1) n := hR.choose_spec.2.1
    have hgb := x_pt_bd hpt (by omega) hn1
    by_cases c1 : ln ≤ p
    · have e : p = ln := by omega
      have eW : m_doesN (f + 1) W = (1, W) := by
        rw [m_doesN, if_pos]
        rw [h.2.1, h.2.2.2.1]
        exact nI_le c1 (by omega)
      have eG : q_ordersN f (G, V) = (G, V) := by
        cases f with
        | zero => rfl
        | succ f =>
          rw [q_ordersN, if_pos]
          dsimp only
          rw [h.1, h.2.2.1]
          exact nI_le c1 (by omega)
      rw [eW, eG]
      refine ⟨⟨⟨fun _ _ _ => rfl, rfl⟩, fun _ _ _ _ => rfl, rfl, rfl⟩, Or.inl ⟨rfl, h6, h4.trans h8.symm, ?_, n, hR.mono (by omega) (Int.le_refl _) (by omega)⟩⟩
      dsimp only
      rw [h8, nI_toInt (by omega)]
      omega
    · obtain ⟨f', rfl⟩ : ∃ f', f = f' + 1 := ⟨f - 1, by omega⟩
      have hplt : p < ln := by omega
      obtain ⟨w, hw3, ew, es, r7, rg, rc, r0, p', hpp, rx, hcase⟩ := x_read h hplt
      rw [q_ordersN, m_doesN]
      dsimp only
      rw [if_neg (show ¬ G 1 2 ≤ G 1 3 by rw [h.1, h.2.2.1]; exact nI_ge hplt (by omega)), if_neg (show ¬ W 0 5 ≤ W 0 6 by rw [h.2.1, h.2.2.2.1]; exact nI_ge hplt (by omega))]
      rcases hcase with ⟨k1, k2⟩ | ⟨k1, k2, hw1, hk, d, hd1, hd6, hv0, hvd, hpd⟩
      · rw [if_pos k1, if_pos k2]
        refine ⟨⟨⟨fun c c1 c3 => ?_, ?_⟩, fun c c0 c1 c5 => ?_, ?_, ?_⟩, Or.inr ⟨rfl, Or.inl ⟨?_, ?_⟩, ?_, ?_⟩⟩
        · dsimp only
          unfold q_setFault
          rw [w2_c c1, w2_c c1, w2_c c1]
          exact rg.1 c c1 c3
        · dsimp only
          unfold q_setFault
          rw [w2_ne (by omega), w2_ne (by omega), w2_ne (by omega)]
          exact rg.2 2 (by decide)
        · dsimp only
          rw [w2_c c0]
          exact rc c c0 c5
        · dsimp only
          rw [w2_ne (by omega)]
          exact r0 3 (by decide) (by decide) (by decide)
        · dsimp only
          rw [w2_ne (by omega)]
          exact r0 5 (by decide) (by decide) (by decide)
        · dsimp only
          unfold q_setFault
          rw [w2_ne (by omega), w2_at]
        · dsimp only
          rw [w2_ne (by omega)]
          exact k2
        · dsimp only
          unfold q_setFault
          rw [w2_ne (by omega), w2_ne (by omega), w2_at, w2_ne (by omega), r7]
          exact h.2.2.1
        · dsimp only
          unfold q_setFault
          rw [w2_at]
          refine Eq.trans ?_ (if_pos (show g_w2 (m_read W) 0 9 0 0 10 = 0 by rw [w2_ne (by omega)]; exact k2)).symm
          rw [w2_ne (by omega), w2_ne (by omega), r7, rx.2.2.2.1, rx.2.2.1, h.2.2.1]
      · rw [if_neg (show ¬ (q_readOrder G).1 = 0 by rw [k1]; decide), if_neg (show ¬ m_read W 0 10 = 0 by rw [k2]; decide)]
        have e1 : m_read W 1 = W 1 := rc 1 (by decide) (by decide)
        have hR' : z_R V (m_read W 1) n mb lo (hi0 + gain) := by rw [e1]; exact hR
        have hY' : y_1 (m_read W 1) n := by rw [e1]; exact hn1
        have hst := x_step (G := (q_readOrder G).2) (x := W 4 p) hR' (by omega) hlo (by omega) ew hw1 hw3 hk
        have ea : q_ordAns (G, V) = q_doOrder V (q_readOrder G).2 (W 4 p) := by
          unfold q_ordAns
          dsimp only
          have ec : q_charAt (q_readOrder G).2 (G 1 3) = W 4 p := by
            have e2 : (q_readOrder G).2 2 = G 2 := rg.1 2 (by decide) (by decide)
            have e3 : (q_readOrder G).2 1 2 = G 1 2 := rg.2 2 (by decide)
            unfold q_charAt
            rw [e2, e3, h.2.2.1, h.1, if_neg (nI_pos (by omega)), if_neg (nI_ge hplt (by omega)), if_neg (show ¬ (60 : Int32) ≤ nI p from nI_ge (a := p) (b := 60) (by omega) (by decide)), nI_clamp (by omega)]
            exact (h.2.2.2.2.2.2 p hplt).1
          rw [ec]
        have et : m_told W = m_called (m_read W) (W 4 p) n := by
          unfold m_told
          have hn16 := hn1.n16
          rw [es, e1, hn1.n0, nI_clamp (by omega)]
        have hsm : k_sm (m_read W) (m_called (m_read W) (W 4 p) n).2 := m_called_s
        have hpot := x_pot (W := m_read W) (x := W 4 p) (n := n) hY'
        rw [ea, et]
        have hd0 : (m_called (m_read W) (W 4 p) n).2 0 = m_read W 0 := hsm 0 (by decide)
        rw [if_neg (show ¬ (m_called (m_read W) (W 4 p) n).2 0 10 = 0 by rw [hd0, k2]; decide)]
        have enx : m_next W = g_w2 (g_w2 (m_called (m_read W) (W 4 p) n).2 0 9 (m_called (m_read W) (W 4 p) n).1) 0 8 ((m_called (m_read W) (W 4 p) n).2 0 8 + 1) := by unfold m_next; rw [et]
        rw [enx]
        obtain ⟨s1, s2⟩ := hst
        generalize q_doOrder V (q_readOrder G).2 (W 4 p) = A at s1 s2 ⊢
        generalize m_called (m_read W) (W 4 p) n = B at s1 s2 hsm hd0 hpot ⊢
        rcases s2 with ⟨s3, s4, s5⟩ | ⟨s3, n', s4⟩
        · rw [if_pos (show k_isError A.1 by rw [s1]; exact (z_err_k s3).1), if_neg (z_err_k s3).2]
          refine ⟨⟨⟨fun c c1 c3 => ?_, ?_⟩, fun c c0 c1 c5 => ?_, ?_, ?_⟩, Or.inr ⟨rfl, Or.inr ⟨?_, ?_⟩, ?_, ?_⟩⟩
          · dsimp only
            unfold q_setFault
            rw [w2_c c1, w2_c c1, w2_c c1]
            exact rg.1 c c1 c3
          · dsimp only
            unfold q_setFault
            rw [w2_ne (by omega), w2_ne (by omega), w2_ne (by omega)]
            exact rg.2 2 (by decide)
          · dsimp only
            rw [w2_c c0, s5]
            exact rc c c0 c5
          · dsimp only
            rw [w2_ne (by omega), s5]
            exact r0 3 (by decide) (by decide) (by decide)
          · dsimp only
            rw [w2_ne (by omega), s5]
            exact r0 5 (by decide) (by decide) (by decide)
          · dsimp only
            unfold q_setFault
            rw [w2_ne (by omega), w2_at]
          · dsimp only
            rw [w2_ne (by omega), s5]
            exact k2
          · dsimp only
            unfold q_setFault
            rw [w2_ne (by omega), w2_ne (by omega), w2_at, w2_ne (by omega), s5, r7]
            exact h.2.2.1
          · dsimp only
            unfold q_setFault
            rw [w2_at]
            refine Eq.trans ?_ (if_neg (show ¬ g_w2 B.2 0 9 B.1 0 10 = 0 by rw [w2_ne (by omega), hd0, k2]; decide)).symm
            rw [w2_at]
            exact s1
        · rw [if_neg (show ¬ k_isError A.1 by rw [s1]; exact (z_good_k s3).1), if_pos (z_good_k s3).2]
          have hp' : p' ≤ ln := rx.2.2.2.2.1
          have hx' : x_tx (g_w2 (q_readOrder G).2 1 4 ((q_readOrder G).2 1 4 + 1)) (g_w2 (g_w2 B.2 0 9 B.1) 0 8 (B.2 0 8 + 1)) ln p' := by
            refine ⟨?_, ?_, ?_, ?_, hp', hln, fun j hj => ?_⟩
            · rw [w2_ne (by omega)]; exact rx.1
            · rw [w2_ne (by omega), w2_ne (by omega), hd0]; exact rx.2.1
            · rw [w2_ne (by omega)]; exact rx.2.2.1
            · rw [w2_ne (by omega), w2_ne (by omega), hd0]; exact rx.2.2.2.1
            · rw [w2_c (by decide), w2_c (by decide), w2_c (by decide), hsm 4 (by decide)]
              exact rx.2.2.2.2.2.2 j hj
          have hR1 : z_R A.2 (g_w2 (g_w2 B.2 0 9 B.1) 0 8 (B.2 0 8 + 1) 1) n' (mb + 1) lo (hi0 + (gain + x_gain (m_read W) (W 4 p))) := by
            rw [w2_c (by decide), w2_c (by decide)]
            exact s4.mono (Int.le_refl _) (Int.le_refl _) (by omega)
          have hYn : y_1 (B.2 1) n' := s4.choose_spec.2.1
          have hpt' : x_pt (g_w2 (g_w2 B.2 0 9 B.1) 0 8 (B.2 0 8 + 1) 1) p' (gain + x_gain (m_read W) (W 4 p)) := by
            rw [w2_c (by decide), w2_c (by decide)]
            obtain ⟨m, q1, q2⟩ := hpt
            have hb0 := y_P_bd hn1
            have hb1 := y_P_bd hYn
            by_cases c6 : W 4 p = 116
            · have eg : x_gain (m_read W) (W 4 p) = 0 := if_neg (by rw [c6]; decide)
              rw [eg]
              exact ⟨m + 1, by omega, by omega⟩
            · have hz := hpot s3 c6 (by rw [ew]; exact nI_ne0 (by omega) (by omega))
              rw [e1] at hz
              by_cases c8 : W 4 p = 108
              · rw [if_pos c8] at hz
                have e3 : w = 3 := (nI_eq (by omega) (by decide)).mp (ew.symm.trans (by rw [c8]; decide))
                subst e3
                have eg : x_gain (m_read W) (W 4 p) = (m_read W 5 2).toInt := by
                  unfold x_gain
                  rw [if_pos c8]
                  omega
                rw [eg]
                have hvd' : (m_read W 5 2).toInt < 10 ^ d := hvd
                have h82 : (m_read W 5 2).toInt ≤ 82500 * ((p' : Int) - p) := by
                  by_cases c9 : d = 6
                  · omega
                  · have h5 : (10 : Int) ^ d ≤ 100000 := by
                      rcases (show d = 1 ∨ d = 2 ∨ d = 3 ∨ d = 4 ∨ d = 5 by omega) with rfl | rfl | rfl | rfl | rfl <;> decide
                    omega
                exact ⟨m, by omega, by omega⟩
              · rw [if_neg c8] at hz
                have eg : x_gain (m_read W) (W 4 p) = 0 := if_neg c8
                rw [eg]
                exact ⟨m, by omega, by omega⟩
          have hg4 : (q_readOrder G).2 1 4 = nI cnt := (rg.2 4 (by decide)).trans h4
          have hw8 : B.2 0 8 = nI cnt := by rw [hd0, r0 8 (by decide) (by decide) (by decide)]; exact h8
          obtain ⟨i1, i2⟩ := x_loop hlo hhi f' p' n' (cnt + 1) (g_w2 (q_readOrder G).2 1 4 ((q_readOrder G).2 1 4 + 1)) A.2 (g_w2 (g_w2 B.2 0 9 B.1) 0 8 (B.2 0 8 + 1)) (mb + 1) (gain + x_gain (m_read W) (W 4 p)) hx' hR1 (by omega) (by omega) (by omega) hpt' (by rw [w2_at, hg4]; exact nI_1 cnt) (by rw [w2_at, hw8]; exact nI_1 cnt) (by rw [w2_ne (by omega)]; exact (rg.2 6 (by decide)).trans h6)
          refine ⟨i1.tr (fun c c1 c3 => (w2_c c1).trans (rg.1 c c1 c3)) ((w2_ne (by omega)).trans (rg.2 2 (by decide))) (fun c c0 c1 c5 => ?_) ?_ ?_, ?_⟩
          · rw [w2_c c0, w2_c c0, hsm c c1]; exact rc c c0 c5
          · rw [w2_ne (by omega), w2_ne (by omega), hd0]; exact r0 3 (by decide) (by decide) (by decide)
          · rw [w2_ne (by omega), w2_ne (by omega), hd0]; exact r0 5 (by decide) (by decide) (by decide)
          · rw [show mb + ((f' + 1 : Nat) : Int) = mb + 1 + (f' : Int) by omega]
            exact i2
end XL
