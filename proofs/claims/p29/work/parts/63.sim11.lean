/-! ===== another grade, settings ===== -/
section ZW
variable {V W : g_V} {n : Nat} {g : Nat → Nat} {mb lo hi : Int} {k : Nat}
def m_regrades (W : g_V) (bn x : Int32) (n : Nat) : Int32 × g_V :=
  if m_in bn 0 4 then (if m_in x 0 2 then (if W 1 (24 + 2 * bn.toNatClampNeg) ≤ x ∨ W 1 (24 + 2 * bn.toNatClampNeg + 1) ≤ 0 then (if m_covered (g_w2 W 1 (24 + 2 * bn.toNatClampNeg) x) n then (W 1 (24 + 2 * bn.toNatClampNeg), g_w2 W 1 (24 + 2 * bn.toNatClampNeg) x) else (-2000000002, W)) else (-2000000002, W)) else (-2000000001, W)) else (-2000000001, W)
theorem s_regrade {bn x : Int32} (h : z_R V (W 1) n mb lo hi) : z_S V W (q_regrade V bn x) (m_regrades W bn x n) mb lo hi := by
  obtain ⟨g, hL, h1, h2, h3⟩ := h
  unfold q_regrade m_regrades
  by_cases c1 : k_in bn 5
  · rw [if_pos c1, if_pos (z_in5.mpr c1)]
    by_cases c2 : k_in x 3
    · rw [if_pos c2, if_pos (z_in3.mpr c2)]
      obtain ⟨hb, -, -⟩ := z_cl c1 (N := 5) rfl
      obtain ⟨hx3, ex, exi⟩ := z_cl c2 (N := 3) rfl
      generalize bn.toNatClampNeg = b at hb ⊢
      generalize x.toNatClampNeg = y at hx3 ex exi ⊢
      have hbb := h1.bins b hb
      have e0 := hL.bin hb (j := 0) (by decide)
      rw [Nat.add_zero] at e0
      have e1 := hL.bin hb (j := 1) (by decide)
      obtain ⟨g0, hg0, eg0⟩ := z_lo (N := 3) hbb.1.1 (by omega)
      have ei : (W 1 (24 + 2 * b)).toInt = g0 := by rw [eg0, nI_toInt (by omega)]
      have ecl : (V (7 + b) 0).toNatClampNeg = g0 := by rw [e0, eg0, nI_clamp (by omega)]
      rw [ecl]
      have hx : ∀ z, z ≠ 24 + 2 * b → g_w2 W 1 (24 + 2 * b) x 1 z = W 1 z := fun z hz => w2_ne (by omega)
      have hB : ∀ q, z_tot (y_bterm (g_w2 W 1 (24 + 2 * b) x 1) q) 5 + (if (g0 : Int) ≤ q then (W 1 (24 + 2 * b + 1)).toInt else 0) = z_tot (y_bterm (W 1) q) 5 + if (y : Int) ≤ q then (W 1 (24 + 2 * b + 1)).toInt else 0 := fun q => by
        have h6 := z_tot_one (f := y_bterm (g_w2 W 1 (24 + 2 * b) x 1) q) (g := y_bterm (W 1) q) (k := b) (n := 5) hb (fun i hi hne => by
          unfold y_bterm
          rw [hx _ (by omega), hx _ (by omega)])
        have h7 : y_bterm (g_w2 W 1 (24 + 2 * b) x 1) q b = if (y : Int) ≤ q then (W 1 (24 + 2 * b + 1)).toInt else 0 := by
          unfold y_bterm
          rw [w2_at, hx _ (by omega), exi]
        have h8 : y_bterm (W 1) q b = if (g0 : Int) ≤ q then (W 1 (24 + 2 * b + 1)).toInt else 0 := by
          unfold y_bterm
          rw [ei]
        rw [h7, h8] at h6
        omega
      have hA : ∀ q, z_tot (y_term (g_w2 W 1 (24 + 2 * b) x 1) q) n = z_tot (y_term (W 1) q) n := fun q => y_term_of (fun k hk => hx _ (by omega)) (fun k hk => hx _ (by omega))
      have hbins : y_bins (g_w2 W 1 (24 + 2 * b) x 1) := fun c hc => by
        rw [hx (24 + 2 * c + 1) (by omega)]
        by_cases e : c = b
        · subst e; rw [w2_at, exi]; exact ⟨by omega, (h1.bins c hc).2⟩
        · rw [hx _ (by omega)]; exact h1.bins c hc
      have hok : y_ok (g_w2 W 1 (24 + 2 * b) x 1) n := ⟨h1.n16, hbins, fun k hk => by rw [hx _ (by omega), hx _ (by omega)]; exact h1.ok.2.2 k hk⟩
      have hcov : (W 1 (24 + 2 * b) ≤ x ∨ W 1 (24 + 2 * b + 1) ≤ 0) → (m_covered (g_w2 W 1 (24 + 2 * b) x) n ↔ q_regFail V b g0 y = none) := fun hor => by
        rw [m_cov_i hok]
        unfold q_regFail
        rw [k_find_none, e1]
        have hor' : (g0 : Int) ≤ y ∨ (W 1 (24 + 2 * b + 1)).toInt = 0 := by
          rcases hor with h | h
          · rw [Int32.le_iff_toInt_le] at h; omega
          · rw [Int32.le_iff_toInt_le, z_i0] at h; omega
        constructor
        · intro h j hj
          refine decide_eq_false (fun z => ?_)
          obtain ⟨z1, z2⟩ := z
          have h6 := h (j : Int) (by omega) (by omega)
          have h7 := hB j
          rw [if_pos (by omega), if_neg (by omega)] at h7
          rw [hA] at h6
          rw [Int32.le_iff_toInt_le, z_sur hL h2 h1.ok (by omega)] at z2
          omega
        · intro h q hq0 hq2
          rw [hA]
          have h6 := h1.cov q hq0 hq2
          have h7 := hB q
          by_cases c : (g0 : Int) ≤ q
          · by_cases d : (y : Int) ≤ q
            · rw [if_pos c, if_pos d] at h7; omega
            · obtain ⟨j, hj⟩ : ∃ j : Nat, q = (j : Int) := ⟨q.toNat, by omega⟩
              have h8 := of_decide_eq_false (h j (by omega))
              have h9 : W 1 (24 + 2 * b + 1) ≤ q_surplus V (nI j) := Decidable.byContradiction (fun z => h8 ⟨by omega, z⟩)
              rw [Int32.le_iff_toInt_le, z_sur hL h2 h1.ok (by omega), ← hj] at h9
              rw [if_pos c, if_neg d] at h7
              omega
          · rw [if_neg c] at h7
            by_cases d : (y : Int) ≤ q
            · rw [if_pos d] at h7; omega
            · rw [if_neg d] at h7; omega
      have hmain : (W 1 (24 + 2 * b) ≤ x ∨ W 1 (24 + 2 * b + 1) ≤ 0) → z_S V W (q_regrade2 V b g0 y) (if m_covered (g_w2 W 1 (24 + 2 * b) x) n then (W 1 (24 + 2 * b), g_w2 W 1 (24 + 2 * b) x) else (-2000000002, W)) mb lo hi := fun hor => by
        have hc := hcov hor
        unfold q_regrade2
        cases hf : q_regFail V b g0 y with
        | some j =>
          rw [hf] at hc
          rw [if_neg (fun z => by have := hc.mp z; cases this)]
          exact z_S.e2
        | none =>
          rw [hf] at hc
          have hcc := hc.mpr rfl
          rw [if_pos hcc, ← ex]
          refine z_S.ok e0 (z_good_0 (by omega)) (n := n) ⟨g, ?_, ?_, ?_, ?_⟩
          · rw [w2_s]; exact hL.up (z_lk_bin (j := 0) hb (by decide)) _
          · exact ⟨⟨(hx 0 (by omega)).trans h1.n0, h1.n16⟩, fun k hk => (h1.row hk).of (fun j hj => hx _ (by omega)), h1.set.of (fun x _ _ => hx x (by omega)), hbins, (m_cov_i hok).mp hcc⟩
          · exact h2.of (hx 2 (by omega)) (fun k hk => hx _ (by omega))
          · exact h3.of (fun o ho => hx _ (by omega))
      by_cases c3 : W 1 (24 + 2 * b) ≤ x
      · rw [if_pos (show V (7 + b) 0 ≤ x by rw [e0]; exact c3), if_pos (Or.inl c3)]
        exact hmain (Or.inl c3)
      · rw [if_neg (show ¬ V (7 + b) 0 ≤ x by rw [e0]; exact c3)]
        by_cases c4 : W 1 (24 + 2 * b + 1) ≤ 0
        · rw [if_pos (show V (7 + b) 1 ≤ 0 by rw [e1]; exact c4), if_pos (Or.inr c4)]
          exact hmain (Or.inr c4)
        · rw [if_neg (show ¬ V (7 + b) 1 ≤ 0 by rw [e1]; exact c4), if_neg (fun z => by rcases z with z | z; exact c3 z; exact c4 z)]
          exact z_S.e2
    · rw [if_neg c2, if_neg (fun z => c2 (z_in3.mp z))]; exact z_S.e1
  · rw [if_neg c1, if_neg (fun z => c1 (z_in5.mp z))]; exact z_S.e1
def m_sets (W : g_V) (x y : Int32) : Int32 × g_V :=
  if k_in x 4 then (if y < g_least x.toNatClampNeg then (-2000000001, W) else if y ≤ g_great x.toNatClampNeg then (W 1 (6 + x.toNatClampNeg), g_w2 W 1 (6 + x.toNatClampNeg) y) else (-2000000001, W)) else (-2000000001, W)
theorem y_set_up {S : Nat → Int32} (h : y_set S) {j : Nat} (hj : j < 4) {y : Int32} (h1 : ¬ y < g_least j) (h2 : y ≤ g_great j) : y_set (upd S (6 + j) y) := by
  obtain ⟨a, b, c, d, f⟩ := h
  have hf : ∀ i, i < 3 → 1 ≤ (upd S (6 + j) y (10 + i)).toInt ∧ (upd S (6 + j) y (10 + i)).toInt ≤ 99 := fun i hi => by rw [upd_ne (by omega)]; exact f i hi
  rw [Int32.lt_iff_toInt_lt] at h1
  rw [Int32.le_iff_toInt_le] at h2
  unfold y_set
  rcases (show j = 0 ∨ j = 1 ∨ j = 2 ∨ j = 3 by omega) with rfl | rfl | rfl | rfl
  · have h1 : ¬ y.toInt < 10 := h1
    have h2 : y.toInt ≤ 100 := h2
    exact ⟨⟨by show 10 ≤ y.toInt; omega, h2⟩, b, c, d, hf⟩
  · have h1 : ¬ y.toInt < 10 := h1
    have h2 : y.toInt ≤ 150 := h2
    exact ⟨a, ⟨by show 10 ≤ y.toInt; omega, h2⟩, c, d, hf⟩
  · have h1 : ¬ y.toInt < 1 := h1
    have h2 : y.toInt ≤ 30 := h2
    exact ⟨a, b, ⟨by show 1 ≤ y.toInt; omega, h2⟩, d, hf⟩
  · have h1 : ¬ y.toInt < 0 := h1
    have h2 : y.toInt ≤ 20 := h2
    exact ⟨a, b, c, ⟨by show 0 ≤ y.toInt; omega, h2⟩, hf⟩
theorem s_set {x y : Int32} (h : z_R V (W 1) n mb lo hi) : z_S V W (q_set V x y) (m_sets W x y) mb lo hi := by
  obtain ⟨g, hL, h1, h2, h3⟩ := h
  unfold q_set m_sets
  by_cases c1 : k_in x 4
  · rw [if_pos c1, if_pos c1]
    obtain ⟨hj, -, -⟩ := z_cl c1 (N := 4) rfl
    generalize x.toNatClampNeg = j at hj ⊢
    by_cases c2 : y < g_least j
    · rw [if_pos c2, if_pos c2]; exact z_S.e1
    · rw [if_neg c2, if_neg c2]
      by_cases c3 : y ≤ g_great j
      · rw [if_pos c3, if_pos c3]
        have hg : z_good (W 1 (6 + j)) := by
          obtain ⟨a, b, c, d, -⟩ := h1.set
          rcases (show j = 0 ∨ j = 1 ∨ j = 2 ∨ j = 3 by omega) with rfl | rfl | rfl | rfl
          · exact z_good_0 (by show 0 ≤ (W 1 6).toInt; omega)
          · exact z_good_0 (by show 0 ≤ (W 1 7).toInt; omega)
          · exact z_good_0 (by show 0 ≤ (W 1 8).toInt; omega)
          · exact z_good_0 (by show 0 ≤ (W 1 9).toInt; omega)
        refine z_S.ok (hL.se hj) hg (n := n) ?_
        rw [w2_s]
        exact ⟨g, hL.up (z_lk_se hj) y, h1.sets (fun z hz => upd_ne (by omega)) (y_set_up h1.set hj c2 c3), h2.up (by omega) (Or.inl (by omega)), h3.up (by omega)⟩
      · rw [if_neg c3, if_neg c3]; exact z_S.e1
  · rw [if_neg c1, if_neg c1]; exact z_S.e1
end ZW
