/-! ===== grain is stored ===== -/
theorem z_min {a b : Int32} : k_min a b = if a ≤ b then a else b := by
  unfold k_min
  by_cases c : b < a
  · rw [if_pos c, if_neg (z_le.mpr c)]
  · rw [if_neg c, if_pos (z_lt.mp c)]
theorem k_sum_int {f : Nat → Int32} {F : Nat → Int} {B : Int} (hB : 0 ≤ B) : ∀ {n : Nat}, (∀ i, i < n → (f i).toInt = F i ∧ -B ≤ F i ∧ F i ≤ B) → B * n < 2147483648 → (k_sum f n).toInt = z_tot F n ∧ -(B * n) ≤ z_tot F n ∧ z_tot F n ≤ B * n
  | 0, _, _ => by
    refine ⟨rfl, ?_, ?_⟩ <;> rw [z_tot_0] <;> simp
  | n + 1, h, hn => by
    have h3 : B * ((n + 1 : Nat) : Int) = B * n + B := by rw [Int.natCast_add, Int.mul_add]; simp
    have h4 : 0 ≤ B * (n : Int) := Int.mul_nonneg hB (by omega)
    obtain ⟨h1, h5, h6⟩ := k_sum_int hB (n := n) (fun i hi => h i (by omega)) (by omega)
    obtain ⟨h2, h7, h8⟩ := h n (by omega)
    rw [k_sum, z_tot_s, h3]
    refine ⟨?_, by omega, by omega⟩
    rw [z_add (by rw [h1, h2]; omega) (by rw [h1, h2]; omega), h1, h2]
section ZB
variable {V W : g_V} {n : Nat} {g : Nat → Nat} {mb lo hi : Int} {k : Nat}
theorem z_roomIn (hL : z_L V (W 1) n g) {x : Int32} : q_roomIn V x = m_room W x := k_sum_congr (fun b hb => by
  unfold q_roomF m_roomF
  rw [hL.bin hb (by decide), hL.bin hb (by decide), Nat.add_zero])
theorem z_fill (hL : z_L V (W 1) n g) {x a : Int32} : ∀ N, N ≤ 5 → z_L (k_iter (q_fillStep x) (V, a) N).1 ((k_iter (m_fillStep x) (W, a) N).1 1) n g ∧ (k_iter (q_fillStep x) (V, a) N).2 = (k_iter (m_fillStep x) (W, a) N).2
  | 0, _ => ⟨hL, rfl⟩
  | N + 1, hN => by
    obtain ⟨h1, h2⟩ := z_fill hL (x := x) (a := a) N (by omega)
    rw [k_iter, k_iter]
    generalize k_iter (q_fillStep x) (V, a) N = q at h1 h2 ⊢
    generalize k_iter (m_fillStep x) (W, a) N = r at h1 h2 ⊢
    have e0 := h1.bin (b := N) (j := 0) (by omega) (by decide)
    have e1 := h1.bin (b := N) (j := 1) (by omega) (by decide)
    rw [Nat.add_zero] at e0
    unfold q_fillStep m_fillStep
    rw [e0]
    by_cases c : r.1 1 (24 + 2 * N) = x
    · rw [if_pos c, if_pos c]
      dsimp only
      rw [e1, z_min, h2]
      unfold m_moves m_fpart
      rw [w2_s]
      exact ⟨h1.up (z_lk_bin (by omega) (by decide)) _, rfl⟩
    · rw [if_neg c, if_neg c]
      exact ⟨h1, h2⟩
/-- the room of a grade's bins, the first N -/
def y_room (S : Nat → Int32) (x : Int) (b : Nat) : Int := if (S (24 + 2 * b)).toInt = x then 2000 - (S (24 + 2 * b + 1)).toInt else 0
theorem m_room_i (hb : y_bins (W 1)) {x : Int32} : (m_room W x).toInt = z_tot (y_room (W 1) x.toInt) 5 := by
  refine (k_sum_int (B := 2000) (by decide) (fun b h => ?_) (by decide)).1
  have h1 := (hb b h).2
  unfold m_roomF y_room
  by_cases c : W 1 (24 + 2 * b) = x
  · rw [if_pos c, if_pos (congrArg Int32.toInt c)]
    refine ⟨?_, by omega, by omega⟩
    rw [z_sub (by rw [show (2000 : Int32).toInt = 2000 from rfl]; omega) (by rw [show (2000 : Int32).toInt = 2000 from rfl]; omega)]
    rfl
  · rw [if_neg c, if_neg (fun z => c (z_ext z))]
    exact ⟨rfl, by decide, by decide⟩
theorem y_fill (hb : y_bins (W 1)) {x a : Int32} (ha : 0 ≤ a.toInt) : ∀ N, N ≤ 5 → (∀ j, ¬ (∃ b, b < N ∧ j = 24 + 2 * b + 1) → (k_iter (m_fillStep x) (W, a) N).1 1 j = W 1 j) ∧ y_bins ((k_iter (m_fillStep x) (W, a) N).1 1) ∧ (0 ≤ (k_iter (m_fillStep x) (W, a) N).2.toInt ∧ (k_iter (m_fillStep x) (W, a) N).2.toInt ≤ a.toInt) ∧ (∀ q, z_tot (y_bterm ((k_iter (m_fillStep x) (W, a) N).1 1) q) 5 = z_tot (y_bterm (W 1) q) 5 + if x.toInt ≤ q then a.toInt - (k_iter (m_fillStep x) (W, a) N).2.toInt else 0) ∧ ((k_iter (m_fillStep x) (W, a) N).2.toInt = 0 ∨ z_tot (y_room (W 1) x.toInt) N ≤ a.toInt - (k_iter (m_fillStep x) (W, a) N).2.toInt)
  | 0, _ => ⟨fun _ _ => rfl, hb, ⟨ha, Int.le_refl _⟩, fun q => by show z_tot (y_bterm (W 1) q) 5 = z_tot (y_bterm (W 1) q) 5 + if x.toInt ≤ q then a.toInt - a.toInt else 0; rw [Int.sub_self]; split <;> omega, Or.inr (by show (0 : Int) ≤ a.toInt - a.toInt; omega)⟩
  | N + 1, hN => by
    obtain ⟨h1, h2, h3, h4, h5⟩ := y_fill hb (x := x) ha N (by omega)
    rw [k_iter]
    generalize k_iter (m_fillStep x) (W, a) N = r at h1 h2 h3 h4 h5 ⊢
    have e0 : r.1 1 (24 + 2 * N) = W 1 (24 + 2 * N) := h1 _ (fun ⟨b, hb, e⟩ => by omega)
    have e1 : r.1 1 (24 + 2 * N + 1) = W 1 (24 + 2 * N + 1) := h1 _ (fun ⟨b, hb, e⟩ => by omega)
    have hbN := hb N (by omega)
    have er : y_room (W 1) x.toInt N = if (W 1 (24 + 2 * N)).toInt = x.toInt then 2000 - (W 1 (24 + 2 * N + 1)).toInt else 0 := rfl
    unfold m_fillStep
    rw [e0]
    by_cases c : W 1 (24 + 2 * N) = x
    · rw [if_pos c]
      rw [if_pos (congrArg Int32.toInt c)] at er
      have ep : (2000 - r.1 1 (24 + 2 * N + 1)).toInt = 2000 - (W 1 (24 + 2 * N + 1)).toInt := by
        rw [e1, z_sub (by rw [show (2000 : Int32).toInt = 2000 from rfl]; omega) (by rw [show (2000 : Int32).toInt = 2000 from rfl]; omega)]
        rfl
      have hpart : 0 ≤ (m_fpart r.1 r.2 N).toInt ∧ (m_fpart r.1 r.2 N).toInt ≤ r.2.toInt ∧ (m_fpart r.1 r.2 N).toInt ≤ 2000 - (W 1 (24 + 2 * N + 1)).toInt ∧ ((m_fpart r.1 r.2 N).toInt = r.2.toInt ∨ (m_fpart r.1 r.2 N).toInt = 2000 - (W 1 (24 + 2 * N + 1)).toInt) := by
        unfold m_fpart
        by_cases d : r.2 ≤ 2000 - r.1 1 (24 + 2 * N + 1)
        · rw [if_pos d]
          rw [Int32.le_iff_toInt_le, ep] at d
          exact ⟨h3.1, Int.le_refl _, d, Or.inl rfl⟩
        · rw [if_neg d]
          rw [Int32.le_iff_toInt_le, ep] at d
          rw [ep]
          omega
      generalize m_fpart r.1 r.2 N = p at hpart ⊢
      have ha2 := Int32.toInt_lt a
      have e2 : (r.2 - p).toInt = r.2.toInt - p.toInt := z_sub (by omega) (by omega)
      have e3 : (r.1 1 (24 + 2 * N + 1) + p).toInt = (W 1 (24 + 2 * N + 1)).toInt + p.toInt := by rw [e1, z_add (by omega) (by omega)]
      dsimp only
      unfold m_moves
      rw [w2_s]
      refine ⟨fun j hj => ?_, fun b hb5 => ?_, by omega, fun q => ?_, ?_⟩
      · rw [upd_ne (fun z => hj ⟨N, by omega, z⟩)]
        exact h1 j (fun ⟨b, hb, e⟩ => hj ⟨b, by omega, e⟩)
      · rw [upd_ne (by omega)]
        by_cases e : b = N
        · subst e; rw [upd_at, e3]; exact ⟨(h2 b hb5).1, by omega⟩
        · rw [upd_ne (by omega)]; exact h2 b hb5
      · have h6 := z_tot_one (f := y_bterm (upd (r.1 1) (24 + 2 * N + 1) (r.1 1 (24 + 2 * N + 1) + p)) q) (g := y_bterm (r.1 1) q) (k := N) (n := 5) (by omega) (fun i hi hne => by
          unfold y_bterm
          rw [upd_ne (by omega), upd_ne (by omega)])
        have h7 : y_bterm (upd (r.1 1) (24 + 2 * N + 1) (r.1 1 (24 + 2 * N + 1) + p)) q N = if x.toInt ≤ q then (W 1 (24 + 2 * N + 1)).toInt + p.toInt else 0 := by
          unfold y_bterm
          rw [upd_ne (by omega), upd_at, e3, e0, c]
        have h8 : y_bterm (r.1 1) q N = if x.toInt ≤ q then (W 1 (24 + 2 * N + 1)).toInt else 0 := by
          unfold y_bterm
          rw [e0, e1, c]
        have h9 := h4 q
        rw [h7, h8] at h6
        rw [e2]
        split at h6 <;> simp_all <;> omega
      · rw [z_tot_s, er, e2]
        omega
    · rw [if_neg c]
      rw [if_neg (fun z => c (z_ext z))] at er
      refine ⟨fun j hj => h1 j (fun ⟨b, hb, e⟩ => hj ⟨b, by omega, e⟩), h2, h3, h4, ?_⟩
      rw [z_tot_s, er]
      omega
theorem y_fill5 (hb : y_bins (W 1)) {x a : Int32} (ha : 0 ≤ a.toInt) (hr : a.toInt ≤ (m_room W x).toInt) : (∀ j, ¬ (∃ b, b < 5 ∧ j = 24 + 2 * b + 1) → (k_iter (m_fillStep x) (W, a) 5).1 1 j = W 1 j) ∧ y_bins ((k_iter (m_fillStep x) (W, a) 5).1 1) ∧ (∀ q, z_tot (y_bterm ((k_iter (m_fillStep x) (W, a) 5).1 1) q) 5 = z_tot (y_bterm (W 1) q) 5 + if x.toInt ≤ q then a.toInt else 0) := by
  obtain ⟨h1, h2, h3, h4, h5⟩ := y_fill hb (x := x) ha 5 (Nat.le_refl 5)
  rw [m_room_i hb] at hr
  have h6 : (k_iter (m_fillStep x) (W, a) 5).2.toInt = 0 := by omega
  rw [h6] at h4
  simp only [Int.sub_zero] at h4
  exact ⟨h1, h2, h4⟩
/-! a receipt is made -/
theorem m_makes_0 {o q a : Int32} : m_makes W o q a n 1 0 = W 1 0 + 1 := by
  unfold m_makes
  rw [w2_ne (by omega), m_frees_ne (by omega), w2_ne (by omega), w2_ne (by omega), w2_ne (by omega), w2_ne (by omega), w2_at]
theorem m_makes_2 {o q a : Int32} : m_makes W o q a n 1 2 = W 1 2 + 1 := by
  unfold m_makes
  rw [w2_at, m_frees_ne (by omega), w2_ne (by omega), w2_ne (by omega), w2_ne (by omega), w2_ne (by omega), w2_ne (by omega)]
theorem m_makes_x {o q a : Int32} {x : Nat} (h0 : x ≠ 0) (h2 : x ≠ 2) (h : x < 34 + 7 * n ∨ 34 + 7 * n + 7 ≤ x) : m_makes W o q a n 1 x = W 1 x := by
  unfold m_makes
  rw [w2_ne (by omega), m_frees_ne (by omega), w2_ne (by omega), w2_ne (by omega), w2_ne (by omega), w2_ne (by omega), w2_ne (by omega)]
def m_newRow (W : g_V) (o q a : Int32) (j : Nat) : Int32 := if j = 0 then W 1 2 else if j = 1 then o else if j = 2 then q else if j = 3 then a else if j = 4 then -1 else 0
theorem m_makes_r {o q a : Int32} {j : Nat} (hj : j < 7) : m_makes W o q a n 1 (34 + 7 * n + j) = m_newRow W o q a j := by
  unfold m_makes
  rw [w2_ne (by omega)]
  unfold m_frees m_newRow
  rcases (show j = 0 ∨ j = 1 ∨ j = 2 ∨ j = 3 ∨ j = 4 ∨ j = 5 ∨ j = 6 by omega) with rfl | rfl | rfl | rfl | rfl | rfl | rfl
  · rw [w2_ne (by omega), w2_ne (by omega), w2_ne (by omega), w2_ne (by omega), w2_ne (by omega), w2_ne (by omega), w2_at, w2_ne (by omega)]; rfl
  · rw [w2_ne (by omega), w2_ne (by omega), w2_ne (by omega), w2_ne (by omega), w2_ne (by omega), w2_at]; rfl
  · rw [w2_ne (by omega), w2_ne (by omega), w2_ne (by omega), w2_ne (by omega), w2_at]; rfl
  · rw [w2_ne (by omega), w2_ne (by omega), w2_ne (by omega), w2_at]; rfl
  · rw [w2_ne (by omega), w2_ne (by omega), w2_at]; rfl
  · rw [w2_ne (by omega), w2_at]; rfl
  · rw [w2_at]; rfl
theorem z_make (hL : z_L V (W 1) n g) {i : Nat} (hi : i < 16) (hni : ∀ k, k < n → g k ≠ i) (hn : n < 16) {o q a : Int32} : z_L (q_use (q_next V) i (V 0 7) o q a) (m_makes W o q a n 1) (n + 1) (va_up g n i) := by
  have hf := hL.fr hi hni
  have e7 : V 0 7 = W 1 2 := hL.sc (by decide) (by decide)
  have hL1 : z_L (q_next V) (upd (W 1) 2 (W 1 2 + 1)) n g := by
    unfold q_next
    rw [e7]
    exact hL.up (z_lk_sc (by decide) (by decide)) _
  refine hL1.make hi hni hn (fun c j hc => ?_) (fun x h0 hx => ?_) ?_ (fun j hj => ?_)
  · unfold q_use
    rw [w2_ne (by omega), w2_ne (by omega), w2_ne (by omega), w2_ne (by omega)]
  · by_cases h2 : x = 2
    · subst h2; rw [m_makes_2, upd_at]
    · rw [m_makes_x h0 h2 hx, upd_ne h2]
  · rw [m_makes_0, hL.n0]; exact nI_1 n
  · rw [m_makes_r hj]
    have eN : ∀ j, q_next V (12 + i) j = V (12 + i) j := fun j => w2_ne (by omega)
    unfold q_use m_newRow
    rcases (show j = 0 ∨ j = 1 ∨ j = 2 ∨ j = 3 ∨ j = 4 ∨ j = 5 ∨ j = 6 by omega) with rfl | rfl | rfl | rfl | rfl | rfl | rfl
    · rw [w2_ne (by omega), w2_ne (by omega), w2_ne (by omega), w2_at]; exact e7
    · rw [w2_ne (by omega), w2_ne (by omega), w2_at]; rfl
    · rw [w2_ne (by omega), w2_at]; rfl
    · rw [w2_at]; rfl
    · rw [w2_ne (by omega), w2_ne (by omega), w2_ne (by omega), w2_ne (by omega), eN]; exact hf.2.2.2.2.1
    · rw [w2_ne (by omega), w2_ne (by omega), w2_ne (by omega), w2_ne (by omega), eN]; exact hf.2.2.2.2.2.1
    · rw [w2_ne (by omega), w2_ne (by omega), w2_ne (by omega), w2_ne (by omega), eN]; exact hf.2.2.2.2.2.2
theorem y_make {o q a : Int32} (h0 : W 1 0 = nI n) (hn : n < 16) (hr : ∀ k, k < n → y_row (W 1) k) (hs : y_set (W 1)) (hb : y_bins (W 1)) (hc : ∀ x : Int, 0 ≤ x → x ≤ 2 → z_tot (y_term (W 1) x) n + (if q.toInt ≤ x then a.toInt else 0) ≤ z_tot (y_bterm (W 1) x) 5) (ho : 0 ≤ o.toInt ∧ o.toInt ≤ 7) (hq : 0 ≤ q.toInt ∧ q.toInt ≤ 2) (ha : 1 ≤ a.toInt) : y_1 (m_makes W o q a n 1) (n + 1) := by
  have hx : ∀ x, x ≠ 0 → x ≠ 2 → x < 34 + 7 * n → m_makes W o q a n 1 x = W 1 x := fun x h0 h2 h => m_makes_x h0 h2 (Or.inl h)
  refine ⟨⟨by rw [m_makes_0, h0]; exact nI_1 n, by omega⟩, fun k hk => ?_, hs.of (fun x _ _ => hx x (by omega) (by omega) (by omega)), hb.of (fun x _ _ => hx x (by omega) (by omega) (by omega)), fun x h1 h2 => ?_⟩
  · by_cases e : k = n
    · subst e
      unfold y_row
      rw [m_makes_r (by decide), m_makes_r (by decide), m_makes_r (by decide), m_makes_r (by decide), m_makes_r (by decide), m_makes_r (by decide), show m_newRow W o q a 4 = -1 from rfl, show m_newRow W o q a 5 = 0 from rfl, show m_newRow W o q a 6 = 0 from rfl]
      exact ⟨ho, hq, ha, by decide, by decide, by decide, fun z => absurd z (by decide)⟩
    · exact (hr k (by omega)).of (fun j hj => hx _ (by omega) (by omega) (by omega))
  · rw [z_tot_s, y_term_of (fun k hk => hx _ (by omega) (by omega) (by omega)) (fun k hk => hx _ (by omega) (by omega) (by omega)), y_bterm_of (fun x _ _ => hx x (by omega) (by omega) (by omega))]
    have e : y_term (m_makes W o q a n 1) x n = if q.toInt ≤ x then a.toInt else 0 := by
      unfold y_term
      rw [m_makes_r (by decide), m_makes_r (by decide)]
      rfl
    rw [e]
    exact hc x h1 h2
theorem y2_make {o q a : Int32} (h : y_2 (W 1) n mb) (hm : mb < 2000000000) : y_2 (m_makes W o q a n 1) (n + 1) (mb + 1) := by
  obtain ⟨h1, h2, h3, h4⟩ := h
  have e2 : (m_makes W o q a n 1 2).toInt = (W 1 2).toInt + 1 := by rw [m_makes_2, z_add (by rw [z_i1]; omega) (by rw [z_i1]; omega), z_i1]
  have er : ∀ k, k < n → m_makes W o q a n 1 (34 + 7 * k) = W 1 (34 + 7 * k) := fun k hk => m_makes_x (by omega) (by omega) (by omega)
  have en : m_makes W o q a n 1 (34 + 7 * n) = W 1 2 := m_makes_r (j := 0) (by decide)
  refine ⟨fun k k' hk hk' => ?_, fun k hk => ?_, by omega, by omega⟩
  · rw [er k (by omega)]
    by_cases e : k' = n
    · subst e; rw [en]; exact (h2 k (by omega)).2
    · rw [er k' (by omega)]; exact h1 k k' hk (by omega)
  · rw [e2]
    by_cases e : k = n
    · subst e; rw [en]; omega
    · rw [er k (by omega)]; have := h2 k (by omega); omega
theorem y3_make {o q a : Int32} (h : y_3 (W 1) lo hi) : y_3 (m_makes W o q a n 1) lo hi := h.of (fun o ho => m_makes_x (by omega) (by omega) (by omega))
end ZB
