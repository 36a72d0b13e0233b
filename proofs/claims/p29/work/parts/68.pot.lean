/-! ===== how much the money can grow in one text ===== -/
def y_pg (S : Nat → Int32) (k : Nat) : Int := if 0 ≤ (S (34 + 7 * k + 4)).toInt then (S (34 + 7 * k + 3)).toInt else 0
def y_P (S : Nat → Int32) : Int := z_tot (y_pg S) (S 0).toNatClampNeg
section XP
variable {V W : g_V} {S S' : Nat → Int32} {n : Nat} {g : Nat → Nat} {mb lo hi : Int} {k : Nat}
theorem y_P_n (h0 : S 0 = nI n) (hn : n ≤ 16) : y_P S = z_tot (y_pg S) n := by
  unfold y_P
  rw [h0, nI_clamp (by omega)]
theorem y_pg_pos (h1 : y_1 S n) : ∀ i, i < n → 0 ≤ y_pg S i := fun i hi => by
  have := (h1.row hi).2.2.1
  unfold y_pg
  split <;> omega
theorem y_P_bd (h1 : y_1 S n) : 0 ≤ y_P S ∧ y_P S ≤ 10000 := by
  rw [y_P_n h1.n0 h1.n16]
  refine ⟨z_tot_pos (y_pg_pos h1), ?_⟩
  have h2 : z_tot (y_pg S) n ≤ z_tot (y_term S 2) n := z_tot_le (fun i hi => by
    have h3 := (h1.row hi).2.2.1
    have h4 := (h1.row hi).2.1.2
    unfold y_pg y_term
    rw [if_pos h4]
    split <;> omega)
  have h3 := h1.cov 2 (by decide) (by decide)
  have h4 := y_B_le h1.bins (g := 2)
  omega
theorem y_P_of (h1 : y_1 S n) (h0 : S' 0 = S 0) (h3 : ∀ k, k < n → S' (34 + 7 * k + 3) = S (34 + 7 * k + 3)) (h4 : ∀ k, k < n → S' (34 + 7 * k + 4) = S (34 + 7 * k + 4)) : y_P S' = y_P S := by
  rw [y_P_n (h0.trans h1.n0) h1.n16, y_P_n h1.n0 h1.n16]
  exact z_tot_congr (fun k hk => by
    unfold y_pg
    rw [h3 k hk, h4 k hk])
theorem P_prices {x y : Int32} (h1 : y_1 (W 1) n) : y_P ((m_prices W x y).2 1) = y_P (W 1) := by
  unfold m_prices
  by_cases c : m_in x 0 2
  · rw [if_pos c]
    by_cases d : m_in y 1 99
    · rw [if_pos d]
      obtain ⟨hj, -, -⟩ := z_cl (z_in3.mp c) (N := 3) rfl
      dsimp only
      rw [w2_s]
      exact y_P_of h1 (upd_ne (by omega)) (fun k _ => upd_ne (by omega)) (fun k _ => upd_ne (by omega))
    · rw [if_neg d]
  · rw [if_neg c]
theorem P_calls {le : Int32} (h1 : y_1 (W 1) n) : y_P ((m_calls W le n).2 1) = y_P (W 1) := by
  unfold m_calls
  by_cases c : m_in le 0 2
  · rw [if_pos c]
    obtain ⟨b1, -, -⟩ := m_calls_cf (W := W) (le := le) n
    exact y_P_of h1 (b1 0 (fun ⟨k, hk, e⟩ => by omega)) (fun k _ => b1 _ (fun ⟨k', hk, e⟩ => by omega)) (fun k _ => b1 _ (fun ⟨k', hk, e⟩ => by omega))
  · rw [if_neg c]
theorem P_stores {o x a : Int32} (h1 : y_1 (W 1) n) : y_P ((m_stores W o x a n).2 1) = y_P (W 1) := by
  unfold m_stores
  by_cases c1 : m_in o 0 4
  · rw [if_pos c1]
    by_cases c2 : m_in x 0 2
    · rw [if_pos c2]
      by_cases c3 : m_in a 1 4000
      · rw [if_pos c3]
        by_cases c4 : m_room W x < a
        · rw [if_pos c4]
        · rw [if_neg c4]
          by_cases c5 : nI n = 16
          · rw [if_pos c5]
          · rw [if_neg c5]
            have ha : 1 ≤ a.toInt ∧ a.toInt ≤ 4000 := z_rg c3
            have hn : n < 16 := by
              have := h1.n16
              by_cases e : n = 16
              · subst e; exact absurd rfl c5
              · omega
            obtain ⟨f3, -, -⟩ := y_fill5 h1.bins (x := x) (a := a) (by omega) (Int32.le_iff_toInt_le.mp (z_lt.mp c4))
            dsimp only
            generalize (k_iter (m_fillStep x) (W, a) 5).1 = F at f3 ⊢
            have e0 : m_makes F o x (a - a * F 1 9 / 100) n 1 0 = nI (n + 1) := by rw [m_makes_0, f3 0 (fun ⟨b, hb, e⟩ => by omega), h1.n0]; exact nI_1 n
            have en : y_pg (m_makes F o x (a - a * F 1 9 / 100) n 1) n = 0 := by
              unfold y_pg
              rw [m_makes_r (by decide), show ∀ a b c d, m_newRow a b c d 4 = -1 from fun _ _ _ _ => rfl]
              rfl
            rw [y_P_n e0 (by omega), y_P_n h1.n0 h1.n16, z_tot_s, en, Int.add_zero]
            exact z_tot_congr (fun k hk => by
              unfold y_pg
              rw [m_makes_x (by omega) (by omega) (by omega), m_makes_x (by omega) (by omega) (by omega), f3 _ (fun ⟨b, hb, e⟩ => by omega), f3 _ (fun ⟨b, hb, e⟩ => by omega)])
      · rw [if_neg c3]
    · rw [if_neg c2]
  · rw [if_neg c1]
theorem P_delivers {x : Int32} (h1 : y_1 (W 1) n) : y_P ((m_delivers W x n).2 1) = y_P (W 1) := by
  unfold m_delivers
  cases hp : m_place W x n with
  | none => rfl
  | some k =>
    dsimp only
    obtain ⟨hk, -⟩ := z_place hp
    by_cases c : m_pledged W k
    · rw [if_pos c]
    · rw [if_neg c]
      obtain ⟨hx, hY⟩ := y_deliver h1 hk
      dsimp only
      generalize (m_delivers1 W k).1 = R at hx hY ⊢
      have hk4 : y_pg (W 1) k = 0 := by
        have c' : W 1 (34 + 7 * k + 4) < 0 := Decidable.not_not.mp c
        rw [Int32.lt_iff_toInt_lt, z_i0] at c'
        exact if_neg (by omega)
      have h3 := z_tot_gone (f := y_pg (W 1)) hk
      rw [y_P_n m_rem_0 (by have := h1.n16; omega), y_P_n h1.n0 h1.n16, ← h3, hk4, Int.add_zero]
      exact z_tot_congr (fun i hi => by
        unfold y_pg
        rw [m_rem_r hk hi (by decide), m_rem_r hk hi (by decide), hx _ (fun ⟨c, hc, e⟩ => by omega) (by omega), hx _ (fun ⟨c, hc, e⟩ => by omega) (by omega)])
theorem P_pledges {x le ln : Int32} (h1 : y_1 (W 1) n) (hg : z_good (m_pledges W x le ln n).1) : 1 ≤ ln.toInt ∧ ln.toInt ≤ 99 * (y_P ((m_pledges W x le ln n).2 1) - y_P (W 1)) := by
  have hb1 : ¬ z_good (-2000000001) := by unfold z_good; decide
  have hb2 : ¬ z_good (-2000000002) := by unfold z_good; decide
  unfold m_pledges at hg ⊢
  cases hp : m_place W x n with
  | none => rw [hp] at hg; exact absurd hg hb1
  | some k =>
    rw [hp] at hg
    dsimp only at hg ⊢
    obtain ⟨hk, -⟩ := z_place hp
    by_cases c1 : m_in le 0 2
    · rw [if_pos c1] at hg ⊢
      by_cases c2 : 1 ≤ ln
      · rw [if_pos c2] at hg ⊢
        by_cases c3 : m_pledged W k
        · rw [if_pos c3] at hg; exact absurd hg hb2
        · rw [if_neg c3] at hg ⊢
          by_cases c4 : W 1 (34 + 7 * k + 1) = 5 + le
          · rw [if_pos c4] at hg; exact absurd hg hb2
          · rw [if_neg c4] at hg ⊢
            by_cases c5 : ln ≤ m_share W k 0
            · rw [if_pos c5]
              obtain ⟨hr1, -, hr3, -⟩ := h1.row hk
              obtain ⟨j, hj, ej⟩ := z_lo (N := 8) hr1.1 (by omega)
              have hs := m_share_i h1 hk
              obtain ⟨-, -, -, hw⟩ := m_worth_i h1 hk
              rw [Int32.le_iff_toInt_le] at c5
              rw [Int32.le_iff_toInt_le, z_i1] at c2
              refine ⟨c2, ?_⟩
              have hle : 0 ≤ le.toInt ∧ le.toInt ≤ 2 := z_rg c1
              dsimp only
              rw [ej, nI_clamp (by omega), w2_s, w2_s, w2_s, y_P_n (n := n) (by rw [upd_ne (by omega), upd_ne (by omega), upd_ne (by omega)]; exact h1.n0) h1.n16, y_P_n h1.n0 h1.n16]
              have h3 := z_tot_one (f := y_pg (W 1)) (g := y_pg (upd (upd (upd (W 1) (34 + 7 * k + 4) le) (34 + 7 * k + 5) ln) (13 + j) (g_w2 (g_w2 W 1 (34 + 7 * k + 4) le) 1 (34 + 7 * k + 5) ln 1 (13 + j) + ln))) hk (fun i hi hne => by
                unfold y_pg
                rw [upd_ne (by omega), upd_ne (by omega), upd_ne (by omega), upd_ne (by omega), upd_ne (by omega), upd_ne (by omega)])
              have h4 : y_pg (upd (upd (upd (W 1) (34 + 7 * k + 4) le) (34 + 7 * k + 5) ln) (13 + j) (g_w2 (g_w2 W 1 (34 + 7 * k + 4) le) 1 (34 + 7 * k + 5) ln 1 (13 + j) + ln)) k = (W 1 (34 + 7 * k + 3)).toInt := by
                unfold y_pg
                rw [upd_ne (by omega), upd_ne (by omega), upd_at, upd_ne (by omega), upd_ne (by omega), upd_ne (by omega), if_pos hle.1]
              have h5 : y_pg (W 1) k = 0 := by
                have c' : W 1 (34 + 7 * k + 4) < 0 := Decidable.not_not.mp c3
                rw [Int32.lt_iff_toInt_lt, z_i0] at c'
                exact if_neg (by omega)
              rw [h4, h5] at h3
              simp only [w2_s] at h3
              omega
            · rw [if_neg c5] at hg; exact absurd hg hb2
      · rw [if_neg c2] at hg; exact absurd hg hb1
    · rw [if_neg c1] at hg; exact absurd hg hb1
/-- one order on both sides -/
def x_gain (W : g_V) (x : Int32) : Int := if x = 108 then max 0 (W 5 2).toInt else 0
theorem x_step {G : g_V} {x : Int32} {w : Nat} (h : z_R V (W 1) n mb lo hi) (hm : mb < 2000000000) (hlo : -600000000 ≤ lo) (hhi : hi ≤ 2030000000) (hw : m_wants x = nI w) (hw1 : 1 ≤ w) (hw3 : w ≤ 3) (hk : ∀ k, k < w → G 3 k = W 5 k) : z_S V W (q_doOrder V G x) (m_called W x n) (mb + 1) lo (hi + x_gain W x) := by
  have up : ∀ (a b : Int32 × g_V) (m h' : Int), m ≤ mb + 1 → h' ≤ hi + x_gain W x → z_S V W a b m lo h' → z_S V W a b (mb + 1) lo (hi + x_gain W x) := by
    rintro a b m h' h1 h2 ⟨e, hh⟩
    refine ⟨e, ?_⟩
    rcases hh with hh | ⟨h3, n', h4⟩
    · exact Or.inl hh
    · exact Or.inr ⟨h3, n', h4.mono h1 (Int.le_refl _) h2⟩
  have g0 : 0 ≤ x_gain W x := by unfold x_gain; split <;> omega
  unfold q_doOrder m_called
  by_cases c1 : x = 99
  · subst c1
    rw [if_pos rfl, if_pos rfl, hk 0 (by omega)]
    exact up _ _ mb hi (by omega) (by omega) (s_call h)
  rw [if_neg c1, if_neg c1]
  by_cases c2 : x = 100
  · subst c2
    rw [if_pos rfl, if_pos rfl, hk 0 (by omega)]
    exact up _ _ mb hi (by omega) (by omega) (s_deliver h)
  rw [if_neg c2, if_neg c2]
  by_cases c3 : x = 108
  · subst c3
    have e3 : w = 3 := (nI_eq (by omega) (by decide)).mp (hw.symm.trans (show m_wants 108 = nI 3 by decide))
    rw [if_pos rfl, if_pos rfl, hk 0 (by omega), hk 1 (by omega), hk 2 (by omega)]
    exact up _ _ mb _ (by omega) (Int.le_refl _) (s_pledge h hlo hhi)
  rw [if_neg c3, if_neg c3]
  by_cases c4 : x = 112
  · subst c4
    have e3 : w = 2 := (nI_eq (by omega) (by decide)).mp (hw.symm.trans (show m_wants 112 = nI 2 by decide))
    rw [if_pos rfl, if_pos rfl, hk 0 (by omega), hk 1 (by omega)]
    exact up _ _ mb hi (by omega) (by omega) (s_price h)
  rw [if_neg c4, if_neg c4]
  by_cases c5 : x = 115
  · subst c5
    have e3 : w = 3 := (nI_eq (by omega) (by decide)).mp (hw.symm.trans (show m_wants 115 = nI 3 by decide))
    rw [if_pos rfl, if_pos rfl, hk 0 (by omega), hk 1 (by omega), hk 2 (by omega)]
    exact up _ _ (mb + 1) hi (by omega) (by omega) (s_store h hm)
  rw [if_neg c5, if_neg c5]
  by_cases c6 : x = 116
  · subst c6
    rw [if_pos rfl, hk 0 (by omega)]
    exact up _ _ mb hi (by omega) (by omega) (s_pass h)
  · exfalso
    have e0 : m_wants x = 0 := by
      unfold m_wants
      repeat' split
      all_goals first | rfl | contradiction
    rw [e0] at hw
    have := (nI_eq (a := 0) (b := w) (by decide) (by omega)).mp hw
    omega
theorem x_pot {x : Int32} (h1 : y_1 (W 1) n) (hg : z_good (m_called W x n).1) (h116 : ¬ x = 116) (hw : ¬ m_wants x = 0) : if x = 108 then 1 ≤ (W 5 2).toInt ∧ (W 5 2).toInt ≤ 99 * (y_P ((m_called W x n).2 1) - y_P (W 1)) else y_P ((m_called W x n).2 1) = y_P (W 1) := by
  unfold m_called at hg ⊢
  by_cases c1 : x = 99
  · subst c1; rw [if_pos rfl, if_neg (by decide)]; exact P_calls h1
  rw [if_neg c1] at hg ⊢
  by_cases c2 : x = 100
  · subst c2; rw [if_pos rfl, if_neg (by decide)]; exact P_delivers h1
  rw [if_neg c2] at hg ⊢
  by_cases c3 : x = 108
  · subst c3; rw [if_pos rfl] at hg; rw [if_pos rfl, if_pos rfl]; exact P_pledges h1 hg
  rw [if_neg c3] at hg; rw [if_neg c3, if_neg c3]
  by_cases c4 : x = 112
  · subst c4; rw [if_pos rfl]; exact P_prices h1
  rw [if_neg c4] at hg ⊢
  by_cases c5 : x = 115
  · subst c5; rw [if_pos rfl]; exact P_stores h1
  · exfalso
    refine hw ?_
    unfold m_wants
    repeat' split
    all_goals first | rfl | contradiction
end XP
