/-! ===== grain is stored, a receipt is split ===== -/
theorem z_bm64 {x : Int} (h1 : -9223372036854775808 ≤ x) (h2 : x < 9223372036854775808) : x.bmod (2 ^ 64) = x := Int.bmod_eq_of_le (by omega) (by omega)
theorem z_share {l a A : Int32} (hl : 0 ≤ l.toInt) (ha : 0 ≤ a.toInt) (haA : a.toInt ≤ A.toInt) (hA : 1 ≤ A.toInt) (hlM : l.toInt ≤ 990000) (hAM : A.toInt ≤ 10000) : 0 ≤ ((l.toInt64 * a.toInt64 / A.toInt64).toInt32).toInt ∧ ((l.toInt64 * a.toInt64 / A.toInt64).toInt32).toInt ≤ l.toInt := by
  have h1 : l.toInt * a.toInt ≤ l.toInt * A.toInt := Int.mul_le_mul_of_nonneg_left haA hl
  have h2 : l.toInt * A.toInt ≤ l.toInt * 10000 := Int.mul_le_mul_of_nonneg_left hAM hl
  have h3 : 0 ≤ l.toInt * a.toInt := Int.mul_nonneg hl ha
  have e1 : (l.toInt64 * a.toInt64).toInt = l.toInt * a.toInt := by
    rw [Int64.toInt_mul, Int32.toInt_toInt64, Int32.toInt_toInt64]
    exact z_bm64 (by omega) (by omega)
  have h4 : 0 ≤ l.toInt * a.toInt / A.toInt := Int.ediv_nonneg h3 (by omega)
  have h5 : l.toInt * a.toInt / A.toInt ≤ l.toInt := by
    have h6 : l.toInt * a.toInt / A.toInt ≤ l.toInt * A.toInt / A.toInt := Int.ediv_le_ediv (by omega) h1
    rw [Int.mul_ediv_cancel _ (by omega)] at h6
    exact h6
  have e2 : (l.toInt64 * a.toInt64 / A.toInt64).toInt = l.toInt * a.toInt / A.toInt := by
    rw [Int64.toInt_div, e1, Int32.toInt_toInt64, Int.tdiv_eq_ediv_of_nonneg h3]
    exact z_bm64 (by omega) (by omega)
  have e3 : ((l.toInt64 * a.toInt64 / A.toInt64).toInt32).toInt = l.toInt * a.toInt / A.toInt := by
    rw [Int64.toInt_toInt32, e2]
    exact z_bm (by omega) (by omega)
  omega
theorem y_split {S S' : Nat → Int32} {n k : Nat} {a : Int} (h : y_1 S n) (hk : k < n) (hn : n < 16) (h0 : S' 0 = nI (n + 1)) (hx : ∀ x, x ≠ 0 → x ≠ 2 → x < 34 + 7 * n → x ≠ 34 + 7 * k + 3 → x ≠ 34 + 7 * k + 5 → S' x = S x) (e3 : (S' (34 + 7 * k + 3)).toInt = (S (34 + 7 * k + 3)).toInt - a) (ha : 1 ≤ a ∧ a < (S (34 + 7 * k + 3)).toInt) (e5 : 0 ≤ (S' (34 + 7 * k + 5)).toInt ∧ (S' (34 + 7 * k + 5)).toInt ≤ 990000) (n1 : S' (34 + 7 * n + 1) = S (34 + 7 * k + 1)) (n2 : S' (34 + 7 * n + 2) = S (34 + 7 * k + 2)) (n3 : (S' (34 + 7 * n + 3)).toInt = a) (n4 : -1 ≤ (S' (34 + 7 * n + 4)).toInt ∧ (S' (34 + 7 * n + 4)).toInt ≤ 2) (n5 : 0 ≤ (S' (34 + 7 * n + 5)).toInt ∧ (S' (34 + 7 * n + 5)).toInt ≤ 990000) (n6 : S' (34 + 7 * n + 6) = 0) : y_1 S' (n + 1) := by
  have hrk := h.row hk
  refine ⟨⟨h0, by omega⟩, fun i hi => ?_, h.set.of (fun x _ _ => hx x (by omega) (by omega) (by omega) (by omega) (by omega)), h.bins.of (fun x _ _ => hx x (by omega) (by omega) (by omega) (by omega) (by omega)), fun q h1 h2 => ?_⟩
  · by_cases en : i = n
    · subst en
      unfold y_row at hrk ⊢
      rw [n1, n2, n3, n6]
      exact ⟨hrk.1, hrk.2.1, ha.1, n4, n5, by decide, fun z => absurd z (by decide)⟩
    · by_cases ek : i = k
      · subst ek
        unfold y_row at hrk ⊢
        rw [hx _ (by omega) (by omega) (by omega) (by omega) (by omega), hx _ (by omega) (by omega) (by omega) (by omega) (by omega), hx (34 + 7 * i + 4) (by omega) (by omega) (by omega) (by omega) (by omega), hx (34 + 7 * i + 6) (by omega) (by omega) (by omega) (by omega) (by omega), e3]
        exact ⟨hrk.1, hrk.2.1, by omega, hrk.2.2.2.1, e5, hrk.2.2.2.2.2⟩
      · exact (h.row (by omega)).of (fun j hj => hx _ (by omega) (by omega) (by omega) (by omega) (by omega))
  · rw [z_tot_s, y_bterm_of (fun x _ _ => hx x (by omega) (by omega) (by omega) (by omega) (by omega))]
    have h3 := z_tot_one (f := y_term S' q) (g := y_term S q) hk (fun i hi hne => by
      unfold y_term
      rw [hx _ (by omega) (by omega) (by omega) (by omega) (by omega), hx _ (by omega) (by omega) (by omega) (by omega) (by omega)])
    have h4 : y_term S' q k = if (S (34 + 7 * k + 2)).toInt ≤ q then (S (34 + 7 * k + 3)).toInt - a else 0 := by
      unfold y_term
      rw [hx _ (by omega) (by omega) (by omega) (by omega) (by omega), e3]
    have h5 : y_term S' q n = if (S (34 + 7 * k + 2)).toInt ≤ q then a else 0 := by
      unfold y_term
      rw [n2, n3]
    have h6 : y_term S q k = if (S (34 + 7 * k + 2)).toInt ≤ q then (S (34 + 7 * k + 3)).toInt else 0 := rfl
    have h7 := h.cov q h1 h2
    rw [h5]
    rw [h4, h6] at h3
    split at h3 <;> simp_all <;> omega
section ZG
variable {V W : g_V} {n : Nat} {g : Nat → Nat} {mb lo hi : Int} {k : Nat}
theorem s_store {o x a : Int32} (h : z_R V (W 1) n mb lo hi) (hm : mb < 2000000000) : z_S V W (q_store V o x a) (m_stores W o x a n) (mb + 1) lo hi := by
  obtain ⟨g, hL, h1, h2, h3⟩ := h
  unfold q_store m_stores
  by_cases c1 : k_in o 5
  · rw [if_neg c1.1, if_neg c1.2, if_pos (z_in5.mpr c1)]
    by_cases c2 : k_in x 3
    · rw [if_pos c2, if_pos (z_in3.mpr c2)]
      by_cases c3 : m_in a 1 4000
      · rw [if_neg c3.1, if_pos (z_lt.mp c3.2), if_pos c3]
        rcases z_freeP hL h2 with ⟨e16, ef⟩ | ⟨hn, i, hi6, ef, hni⟩
        · rw [ef]
          subst e16
          by_cases c4 : m_room W x < a
          · rw [if_pos c4]; exact z_S.e3
          · rw [if_neg c4, if_pos (by decide)]; exact z_S.e3
        · rw [ef]
          dsimp only
          rw [z_roomIn hL]
          by_cases c4 : a ≤ m_room W x
          · rw [if_pos c4, if_neg (z_lt.mpr c4), if_neg (fun z => by
              have := (nI_eq (a := n) (b := 16) (by omega) (by decide)).mp z
              omega)]
            have ha : 1 ≤ a.toInt ∧ a.toInt ≤ 4000 := z_rg c3
            obtain ⟨f1, f2⟩ := z_fill hL (x := x) (a := a) 5 (Nat.le_refl 5)
            obtain ⟨f3, f4, f5⟩ := y_fill5 h1.bins (x := x) (a := a) (by omega) (Int32.le_iff_toInt_le.mp c4)
            unfold q_fill
            generalize (k_iter (q_fillStep x) (V, a) 5).1 = F at f1 ⊢
            generalize (k_iter (m_fillStep x) (W, a) 5).1 = G at f1 f3 f4 f5 ⊢
            have e43 : F 4 3 = G 1 9 := f1.se (by decide)
            have e07 : F 0 7 = G 1 2 := f1.sc (by decide) (by decide)
            rw [e43]
            have hs9 : 0 ≤ (G 1 9).toInt ∧ (G 1 9).toInt ≤ 20 := by rw [f3 9 (fun ⟨b, hb, e⟩ => by omega)]; exact h1.set.2.2.2.1
            have hp1 : a.toInt * (G 1 9).toInt ≤ a.toInt * 20 := Int.mul_le_mul_of_nonneg_left hs9.2 (by omega)
            have hp0 : 0 ≤ a.toInt * (G 1 9).toInt := Int.mul_nonneg (by omega) hs9.1
            have ep : (a * G 1 9).toInt = a.toInt * (G 1 9).toInt := z_mul (by omega) (by omega)
            have ed : (a * G 1 9 / 100).toInt = a.toInt * (G 1 9).toInt / 100 := by rw [z_div (by omega) (by decide), ep]; rfl
            have em : (a - a * G 1 9 / 100).toInt = a.toInt - a.toInt * (G 1 9).toInt / 100 := by rw [z_sub (by rw [ed]; omega) (by rw [ed]; omega), ed]
            generalize a - a * G 1 9 / 100 = am at em ⊢
            have hY2 : y_2 (G 1) n mb := h2.of (f3 2 (fun ⟨b, hb, e⟩ => by omega)) (fun k hk => f3 _ (fun ⟨b, hb, e⟩ => by omega))
            have hY3 : y_3 (G 1) lo hi := h3.of (fun o ho => f3 _ (fun ⟨b, hb, e⟩ => by omega))
            have hx := z_rk c2
            have hx : 0 ≤ x.toInt ∧ x.toInt < 3 := hx
            have ho : 0 ≤ o.toInt ∧ o.toInt < 5 := z_rk c1
            refine z_S.ok ?_ ?_ (n := n + 1) ⟨va_up g n i, z_make f1 hi6 hni hn, ?_, y2_make hY2 hm, y3_make hY3⟩
            · rw [m_makes_r (by decide)]
              unfold q_use
              rw [w2_ne (by omega), w2_ne (by omega), w2_ne (by omega), w2_at]
              exact e07
            · rw [m_makes_r (by decide)]
              exact z_good_0 hY2.2.2.1
            · refine y_make ((f3 0 (fun ⟨b, hb, e⟩ => by omega)).trans h1.n0) hn (fun k hk => (h1.row hk).of (fun j hj => f3 _ (fun ⟨b, hb, e⟩ => by omega))) (h1.set.of (fun x _ _ => f3 x (fun ⟨b, hb, e⟩ => by omega))) f4 (fun q h0 h2 => ?_) (by omega) (by omega) (by omega)
              rw [y_term_of (fun k hk => f3 _ (fun ⟨b, hb, e⟩ => by omega)) (fun k hk => f3 _ (fun ⟨b, hb, e⟩ => by omega)), f5 q]
              have h7 := h1.cov q h0 h2
              split <;> omega
          · rw [if_neg c4, if_pos (z_le.mp c4)]; exact z_S.e3
      · rw [if_neg c3]
        by_cases c4 : a < 1
        · rw [if_pos c4]; exact z_S.e1
        · rw [if_neg c4, if_neg (fun z => c3 ⟨c4, z_lt.mpr z⟩)]; exact z_S.e1
    · rw [if_neg c2, if_neg (fun z => c2 (z_in3.mp z))]; exact z_S.e1
  · rw [if_neg (fun z => c1 (z_in5.mp z))]
    by_cases c2 : o < 0
    · rw [if_pos c2]; exact z_S.e1
    · by_cases c3 : 5 ≤ o
      · rw [if_neg c2, if_pos c3]; exact z_S.e1
      · exact absurd ⟨c2, c3⟩ c1
theorem s_split {x a : Int32} (h : z_R V (W 1) n mb lo hi) (hm : mb < 2000000000) : z_S V W (q_split V x a) (m_splits W x a n) (mb + 1) lo hi := by
  obtain ⟨g, hL, h1, h2, h3⟩ := h
  unfold q_split m_splits
  rw [z_find hL h2]
  cases hp : m_place W x n with
  | none => exact z_S.e1
  | some k =>
    simp only [Option.map_some]
    obtain ⟨hk, -⟩ := z_place hp
    by_cases c1 : 1 ≤ a
    · rw [if_pos c1, if_pos c1, hL.row hk (by decide)]
      by_cases c2 : a < W 1 (34 + 7 * k + 3)
      · rw [if_pos c2, if_pos c2]
        rcases z_freeP hL h2 with ⟨e16, ef⟩ | ⟨hn, i, hi6, ef, hni⟩
        · rw [ef]
          subst e16
          rw [if_pos (by decide)]; exact z_S.e3
        · rw [ef]
          dsimp only
          rw [if_neg (fun z => by
            have := (nI_eq (a := n) (b := 16) (by omega) (by decide)).mp z
            omega)]
          have eo : q_next V (12 + g k) 1 = W 1 (34 + 7 * k + 1) := by unfold q_next; rw [w2_ne (by omega)]; exact hL.row hk (by decide)
          have eg : q_next V (12 + g k) 2 = W 1 (34 + 7 * k + 2) := by unfold q_next; rw [w2_ne (by omega)]; exact hL.row hk (by decide)
          rw [eo, eg]
          have hM := z_make (o := W 1 (34 + 7 * k + 1)) (q := W 1 (34 + 7 * k + 2)) (a := a) hL hi6 hni hn
          have hM2 := y2_make (o := W 1 (34 + 7 * k + 1)) (q := W 1 (34 + 7 * k + 2)) (a := a) h2 hm
          have hM3 := y3_make (n := n) (o := W 1 (34 + 7 * k + 1)) (q := W 1 (34 + 7 * k + 2)) (a := a) h3
          have hMx : ∀ z, z ≠ 0 → z ≠ 2 → z < 34 + 7 * n → m_makes W (W 1 (34 + 7 * k + 1)) (W 1 (34 + 7 * k + 2)) a n 1 z = W 1 z := fun z h0 h2 h => m_makes_x h0 h2 (Or.inl h)
          have hMr : ∀ j, j < 7 → m_makes W (W 1 (34 + 7 * k + 1)) (W 1 (34 + 7 * k + 2)) a n 1 (34 + 7 * n + j) = m_newRow W (W 1 (34 + 7 * k + 1)) (W 1 (34 + 7 * k + 2)) a j := fun j hj => m_makes_r hj
          have hM0 : m_makes W (W 1 (34 + 7 * k + 1)) (W 1 (34 + 7 * k + 2)) a n 1 0 = nI (n + 1) := by rw [m_makes_0, h1.n0]; exact nI_1 n
          generalize m_makes W (W 1 (34 + 7 * k + 1)) (W 1 (34 + 7 * k + 2)) a n = M at hM hM2 hM3 hMx hMr hM0 ⊢
          generalize q_use (q_next V) i (V 0 7) (W 1 (34 + 7 * k + 1)) (W 1 (34 + 7 * k + 2)) a = U at hM ⊢
          have egk : va_up g n i k = g k := va_up_ne g i (by omega)
          have egn : va_up g n i n = i := va_up_self g n i
          have hUk : ∀ j, j < 7 → U (12 + g k) j = W 1 (34 + 7 * k + j) := fun j hj => by
            rw [← egk, hM.row (k := k) (by omega) hj]
            exact hMx _ (by omega) (by omega) (by omega)
          have hUn : ∀ j, j < 7 → U (12 + i) j = m_newRow W (W 1 (34 + 7 * k + 1)) (W 1 (34 + 7 * k + 2)) a j := fun j hj => by
            rw [← hMr j hj, ← hM.row (k := n) (by omega) hj, egn]
          have hUn0 : U (12 + i) 0 = W 1 2 := hUn 0 (by decide)
          have hUn3 : U (12 + i) 3 = a := hUn 3 (by decide)
          have hMn0 : M 1 (34 + 7 * n + 0) = W 1 2 := hMr 0 (by decide)
          have hMk3 : M 1 (34 + 7 * k + 3) = W 1 (34 + 7 * k + 3) := hMx _ (by omega) (by omega) (by omega)
          have hMk4 : M 1 (34 + 7 * k + 4) = W 1 (34 + 7 * k + 4) := hMx _ (by omega) (by omega) (by omega)
          have hMk5 : M 1 (34 + 7 * k + 5) = W 1 (34 + 7 * k + 5) := hMx _ (by omega) (by omega) (by omega)
          obtain ⟨hr1, hr2, hr3, hr4, hr5, -⟩ := h1.row hk
          have hamt := h1.amt hk
          have c1' : 1 ≤ a.toInt := by rw [Int32.le_iff_toInt_le, z_i1] at c1; exact c1
          have c2' : a.toInt < (W 1 (34 + 7 * k + 3)).toInt := Int32.lt_iff_toInt_lt.mp c2
          have e3 : (W 1 (34 + 7 * k + 3) - a).toInt = (W 1 (34 + 7 * k + 3)).toInt - a.toInt := z_sub (by omega) (by omega)
          obtain ⟨hs1, hs2⟩ := z_share (l := W 1 (34 + 7 * k + 5)) (a := a) (A := W 1 (34 + 7 * k + 3)) hr5.1 (by omega) (by omega) (by omega) hr5.2 hamt
          have hlk : ∀ {j : Nat}, j < 7 → z_lk (n + 1) (va_up g n i) (12 + g k) j (34 + 7 * k + j) := fun hj => by
            have := z_lk_row (n := n + 1) (g := va_up g n i) (k := k) (by omega) hj
            rw [egk] at this
            exact this
          have hln : ∀ {j : Nat}, j < 7 → z_lk (n + 1) (va_up g n i) (12 + i) j (34 + 7 * n + j) := fun hj => by
            have := z_lk_row (n := n + 1) (g := va_up g n i) (k := n) (by omega) hj
            rw [egn] at this
            exact this
          have hki : g k ≠ i := hni k hk
          unfold q_splitLoanA
          rw [hUk 3 (by decide), hUk 5 (by decide), hUk 4 (by decide), hUn3, hMk3, hMk5, if_pos (by rw [Int32.lt_iff_toInt_lt, z_i0]; omega)]
          generalize ((W 1 (34 + 7 * k + 5)).toInt64 * a.toInt64 / (W 1 (34 + 7 * k + 3)).toInt64).toInt32 = L at hs1 hs2 ⊢
          by_cases c3 : L ≤ 0
          · rw [if_pos c3, if_pos c3, hUk 3 (by decide)]
            refine z_S.ok (by rw [w2_ne (by omega), w2_ne (by omega), hUn0, hMn0]) (by rw [w2_ne (by omega), hMn0]; exact z_good_0 h2.2.2.1) (n := n + 1) ?_
            rw [w2_s]
            refine ⟨_, hM.up (hlk (by decide)) _, ?_, hM2.up (by omega) (Or.inr ⟨k, 3, by omega⟩), hM3.up (by omega)⟩
            refine y_split (a := a.toInt) h1 hk hn (by rw [upd_ne (by omega)]; exact hM0) (fun z z0 z2 zn z3 z5 => by rw [upd_ne z3]; exact hMx z z0 z2 zn) (by rw [upd_at]; exact e3) ⟨c1', c2'⟩ (by rw [upd_ne (by omega), hMk5]; exact hr5) (by rw [upd_ne (by omega), hMr 1 (by decide)]; rfl) (by rw [upd_ne (by omega), hMr 2 (by decide)]; rfl) (by rw [upd_ne (by omega), hMr 3 (by decide)]; rfl) (by rw [upd_ne (by omega), hMr 4 (by decide), show ∀ a b c d, m_newRow a b c d 4 = -1 from fun _ _ _ _ => rfl]; decide) (by rw [upd_ne (by omega), hMr 5 (by decide), show ∀ a b c d, m_newRow a b c d 5 = 0 from fun _ _ _ _ => rfl]; decide) (by rw [upd_ne (by omega), hMr 6 (by decide)]; rfl)
          · rw [if_neg c3, if_neg c3]
            have e5 : (W 1 (34 + 7 * k + 5) - L).toInt = (W 1 (34 + 7 * k + 5)).toInt - L.toInt := z_sub (by omega) (by omega)
            rw [w2_ne (V := g_w2 U (12 + i) 4 (W 1 (34 + 7 * k + 4))) (c := 12 + i) (k := 5) (c' := 12 + g k) (j := 5) (by omega), w2_ne (V := U) (c := 12 + i) (k := 4) (c' := 12 + g k) (j := 5) (by omega), hUk 5 (by decide)]
            rw [w2_ne (c := 12 + g k) (k := 5) (c' := 12 + g k) (j := 3) (by omega), w2_ne (c := 12 + i) (k := 5) (c' := 12 + g k) (j := 3) (by omega), w2_ne (V := U) (c := 12 + i) (k := 4) (c' := 12 + g k) (j := 3) (by omega), hUk 3 (by decide)]
            rw [w2_ne (V := M) (c := 1) (k := 34 + 7 * k + 3) (c' := 1) (j := 34 + 7 * k + 4) (by omega), hMk4]
            rw [w2_ne (c := 1) (k := 34 + 7 * n + 5) (c' := 1) (j := 34 + 7 * k + 5) (by omega), w2_ne (c := 1) (k := 34 + 7 * n + 4) (c' := 1) (j := 34 + 7 * k + 5) (by omega), w2_ne (V := M) (c := 1) (k := 34 + 7 * k + 3) (c' := 1) (j := 34 + 7 * k + 5) (by omega), hMk5]
            refine z_S.ok (by rw [w2_ne (by omega), w2_ne (by omega), w2_ne (by omega), w2_ne (by omega), w2_ne (by omega), w2_ne (by omega), w2_ne (by omega), w2_ne (by omega), hUn0, hMn0]) (by rw [w2_ne (by omega), w2_ne (by omega), w2_ne (by omega), w2_ne (by omega), hMn0]; exact z_good_0 h2.2.2.1) (n := n + 1) ?_
            rw [w2_s, w2_s, w2_s, w2_s]
            have eS : upd (upd (upd (upd (M 1) (34 + 7 * k + 3) (W 1 (34 + 7 * k + 3) - a)) (34 + 7 * n + 4) (W 1 (34 + 7 * k + 4))) (34 + 7 * n + 5) L) (34 + 7 * k + 5) (W 1 (34 + 7 * k + 5) - L) = upd (upd (upd (upd (M 1) (34 + 7 * n + 4) (W 1 (34 + 7 * k + 4))) (34 + 7 * n + 5) L) (34 + 7 * k + 5) (W 1 (34 + 7 * k + 5) - L)) (34 + 7 * k + 3) (W 1 (34 + 7 * k + 3) - a) := by
              rw [upd_comm (a := 34 + 7 * k + 3) (b := 34 + 7 * n + 4) (by omega), upd_comm (a := 34 + 7 * k + 3) (b := 34 + 7 * n + 5) (by omega), upd_comm (a := 34 + 7 * k + 3) (b := 34 + 7 * k + 5) (by omega)]
            rw [eS]
            refine ⟨_, (((hM.up (hln (by decide)) _).up (hln (by decide)) _).up (hlk (by decide)) _).up (hlk (by decide)) _, ?_, (((hM2.up (by omega) (Or.inr ⟨n, 4, by omega⟩)).up (by omega) (Or.inr ⟨n, 5, by omega⟩)).up (by omega) (Or.inr ⟨k, 5, by omega⟩)).up (by omega) (Or.inr ⟨k, 3, by omega⟩), (((hM3.up (by omega)).up (by omega)).up (by omega)).up (by omega)⟩
            refine y_split (a := a.toInt) h1 hk hn (by rw [upd_ne (by omega), upd_ne (by omega), upd_ne (by omega), upd_ne (by omega)]; exact hM0) (fun z z0 z2 zn z3 z5 => by rw [upd_ne z3, upd_ne z5, upd_ne (by omega), upd_ne (by omega)]; exact hMx z z0 z2 zn) (by rw [upd_at]; exact e3) ⟨c1', c2'⟩ (by rw [upd_ne (by omega), upd_at]; omega) (by rw [upd_ne (by omega), upd_ne (by omega), upd_ne (by omega), upd_ne (by omega), hMr 1 (by decide)]; rfl) (by rw [upd_ne (by omega), upd_ne (by omega), upd_ne (by omega), upd_ne (by omega), hMr 2 (by decide)]; rfl) (by rw [upd_ne (by omega), upd_ne (by omega), upd_ne (by omega), upd_ne (by omega), hMr 3 (by decide)]; rfl) (by rw [upd_ne (by omega), upd_ne (by omega), upd_ne (by omega), upd_at]; exact hr4) (by rw [upd_ne (by omega), upd_ne (by omega), upd_at]; omega) (by rw [upd_ne (by omega), upd_ne (by omega), upd_ne (by omega), upd_ne (by omega), hMr 6 (by decide)]; rfl)
      · rw [if_neg c2, if_neg c2]; exact z_S.e2
    · rw [if_neg c1, if_neg c1]; exact z_S.e1
end ZG
