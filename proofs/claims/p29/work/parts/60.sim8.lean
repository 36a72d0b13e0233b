/-! ===== a delivery ===== -/
theorem w2_comm {V : g_V} {c k c' k' : Nat} {x y : Int32} (h : ¬ (c = c' ∧ k = k')) : g_w2 (g_w2 V c k x) c' k' y = g_w2 (g_w2 V c' k' y) c k x := by
  funext a b
  by_cases h1 : a = c ∧ b = k
  · rw [h1.1, h1.2, w2_ne (by omega), w2_at, w2_at]
  · by_cases h2 : a = c' ∧ b = k'
    · rw [h2.1, h2.2, w2_at, w2_ne (by omega), w2_at]
    · rw [w2_ne h2, w2_ne h1, w2_ne h1, w2_ne h2]
theorem w2_self {V : g_V} {c k : Nat} : g_w2 V c k (V c k) = V := by
  funext a b
  by_cases h1 : a = c ∧ b = k
  · rw [h1.1, h1.2, w2_at]
  · rw [w2_ne h1]
theorem z_tot_add {f g : Nat → Int} : ∀ {n : Nat}, z_tot (fun i => f i + g i) n = z_tot f n + z_tot g n
  | 0 => rfl
  | n + 1 => by rw [z_tot_s, z_tot_s, z_tot_s, z_tot_add]; omega
def y_gr (S : Nat → Int32) (x : Int) (b : Nat) : Int := if (S (24 + 2 * b)).toInt = x then (S (24 + 2 * b + 1)).toInt else 0
section ZT
variable {V W : g_V} {n : Nat} {g : Nat → Nat} {mb lo hi : Int} {k : Nat}
theorem q_take_09 {x a v : Int32} : ∀ N, k_iter (q_takeStep x) (g_w2 V 0 9 v, a) N = (g_w2 (k_iter (q_takeStep x) (V, a) N).1 0 9 v, (k_iter (q_takeStep x) (V, a) N).2)
  | 0 => rfl
  | N + 1 => by
    rw [k_iter, k_iter, q_take_09 N]
    generalize k_iter (q_takeStep x) (V, a) N = q
    unfold q_takeStep
    dsimp only
    have e0 : g_w2 q.1 0 9 v (7 + N) 0 = q.1 (7 + N) 0 := w2_ne (by omega)
    have e1 : g_w2 q.1 0 9 v (7 + N) 1 = q.1 (7 + N) 1 := w2_ne (by omega)
    by_cases c : q.1 (7 + N) 0 = x
    · rw [if_pos (e0.trans c), if_pos c, e1, w2_comm (by omega)]
    · rw [if_neg (fun z => c (e0.symm.trans z)), if_neg c]
theorem q_delv_09 {v : Int32} : ∀ (j : Nat) (q : g_V × Int32), q_delv j (g_w2 q.1 0 9 v, q.2) = (g_w2 (q_delv j q).1 0 9 v, (q_delv j q).2)
  | 0, q => rfl
  | j + 1, q => by
    rw [q_delv, q_delv]
    have e : q_take (g_w2 q.1 0 9 v) (nI j) q.2 = (g_w2 (q_take q.1 (nI j) q.2).1 0 9 v, (q_take q.1 (nI j) q.2).2) := q_take_09 5
    rw [e]
    exact q_delv_09 j (q_take q.1 (nI j) q.2)
theorem q_take_c {x a : Int32} {c : Nat} (h : c < 7 ∨ 12 ≤ c) : ∀ N, N ≤ 5 → (k_iter (q_takeStep x) (V, a) N).1 c = V c
  | 0, _ => rfl
  | N + 1, hN => by
    rw [k_iter]
    unfold q_takeStep
    split
    · dsimp only
      rw [w2_c (by omega)]
      exact q_take_c h N (by omega)
    · exact q_take_c h N (by omega)
theorem q_delv_c {c : Nat} (h : c < 7 ∨ 12 ≤ c) : ∀ (j : Nat) (q : g_V × Int32), (q_delv j q).1 c = q.1 c
  | 0, q => rfl
  | j + 1, q => by
    rw [q_delv, q_delv_c h j]
    exact q_take_c h 5 (Nat.le_refl 5)
theorem z_take (hL : z_L V (W 1) n g) {x own a b : Int32} : ∀ N, N ≤ 5 → z_L (k_iter (q_takeStep x) (V, a) N).1 ((k_iter (m_delStep x own) (W, a, b) N).1 1) n g ∧ (k_iter (q_takeStep x) (V, a) N).2 = (k_iter (m_delStep x own) (W, a, b) N).2.1
  | 0, _ => ⟨hL, rfl⟩
  | N + 1, hN => by
    obtain ⟨h1, h2⟩ := z_take hL (x := x) (own := own) (a := a) (b := b) N (by omega)
    rw [k_iter, k_iter]
    generalize k_iter (q_takeStep x) (V, a) N = q at h1 h2 ⊢
    generalize k_iter (m_delStep x own) (W, a, b) N = r at h1 h2 ⊢
    have e0 := h1.bin (b := N) (j := 0) (by omega) (by decide)
    have e1 := h1.bin (b := N) (j := 1) (by omega) (by decide)
    rw [Nat.add_zero] at e0
    unfold q_takeStep m_delStep m_part
    rw [e0]
    by_cases c : r.1 1 (24 + 2 * N) = x
    · rw [if_pos c, if_pos c]
      dsimp only
      rw [e1, z_min, h2]
      unfold m_moves
      rw [w2_s, ← Int32.sub_eq_add_neg]
      exact ⟨h1.up (z_lk_bin (by omega) (by decide)) _, rfl⟩
    · rw [if_neg c, if_neg c]
      dsimp only
      unfold m_moves
      rw [show -(0 : Int32) = 0 from by decide, Int32.add_zero, w2_self]
      exact ⟨h1, h2.trans (by rw [Int32.sub_eq_add_neg, show -(0 : Int32) = 0 from by decide, Int32.add_zero])⟩
theorem z_delv {own : Int32} : ∀ (j : Nat) (q : g_V × Int32) (r : g_V × Int32 × Int32), z_L q.1 (r.1 1) n g → q.2 = r.2.1 → z_L (q_delv j q).1 ((m_delv own j r).1 1) n g ∧ (q_delv j q).2 = (m_delv own j r).2.1
  | 0, q, r, h1, h2 => ⟨h1, h2⟩
  | j + 1, q, r, h1, h2 => by
    rw [q_delv, m_delv]
    obtain ⟨h3, h4⟩ := z_take h1 (x := nI j) (own := own) (a := q.2) (b := r.2.2) 5 (Nat.le_refl 5)
    have e : ((r.1, q.2, r.2.2) : g_V × Int32 × Int32) = r := by rw [h2]
    rw [e] at h3 h4
    exact z_delv j (q_take q.1 (nI j) q.2) (k_iter (m_delStep (nI j) own) r 5) h3 h4
/-- what one grade's bins give -/
theorem y_take {x own a b : Int32} (hb : y_bins (W 1)) (ha : 0 ≤ a.toInt) (hbb : 0 ≤ b.toInt) (hab : a.toInt + b.toInt ≤ 100000) : ∀ N, N ≤ 5 → (∀ j, ¬ (∃ c, c < N ∧ j = 24 + 2 * c + 1) → (k_iter (m_delStep x own) (W, a, b) N).1 1 j = W 1 j) ∧ y_bins ((k_iter (m_delStep x own) (W, a, b) N).1 1) ∧ (0 ≤ (k_iter (m_delStep x own) (W, a, b) N).2.1.toInt ∧ (k_iter (m_delStep x own) (W, a, b) N).2.1.toInt ≤ a.toInt) ∧ (∀ q, z_tot (y_bterm ((k_iter (m_delStep x own) (W, a, b) N).1 1) q) 5 = z_tot (y_bterm (W 1) q) 5 - if x.toInt ≤ q then a.toInt - (k_iter (m_delStep x own) (W, a, b) N).2.1.toInt else 0) ∧ ((k_iter (m_delStep x own) (W, a, b) N).2.1.toInt = 0 ∨ z_tot (y_gr (W 1) x.toInt) N = a.toInt - (k_iter (m_delStep x own) (W, a, b) N).2.1.toInt) ∧ (k_iter (m_delStep x own) (W, a, b) N).2.2.toInt = b.toInt + if own.toInt ≤ x.toInt then 0 else a.toInt - (k_iter (m_delStep x own) (W, a, b) N).2.1.toInt
  | 0, _ => ⟨fun _ _ => rfl, hb, ⟨ha, Int.le_refl _⟩, fun q => by show z_tot (y_bterm (W 1) q) 5 = z_tot (y_bterm (W 1) q) 5 - if x.toInt ≤ q then a.toInt - a.toInt else 0; rw [Int.sub_self]; split <;> omega, Or.inr (by show (0 : Int) = a.toInt - a.toInt; omega), by show b.toInt = b.toInt + if own.toInt ≤ x.toInt then 0 else a.toInt - a.toInt; rw [Int.sub_self]; split <;> omega⟩
  | N + 1, hN => by
    obtain ⟨h1, h2, h3, h4, h5, h6⟩ := y_take (x := x) (own := own) hb ha hbb hab N (by omega)
    rw [k_iter]
    generalize k_iter (m_delStep x own) (W, a, b) N = r at h1 h2 h3 h4 h5 h6 ⊢
    have e0 : r.1 1 (24 + 2 * N) = W 1 (24 + 2 * N) := h1 _ (fun ⟨b, hb, e⟩ => by omega)
    have e1 : r.1 1 (24 + 2 * N + 1) = W 1 (24 + 2 * N + 1) := h1 _ (fun ⟨b, hb, e⟩ => by omega)
    have hbN := hb N (by omega)
    have er : y_gr (W 1) x.toInt N = if (W 1 (24 + 2 * N)).toInt = x.toInt then (W 1 (24 + 2 * N + 1)).toInt else 0 := rfl
    have hpart : 0 ≤ (m_part r.1 x r.2.1 N).toInt ∧ (m_part r.1 x r.2.1 N).toInt ≤ r.2.1.toInt ∧ (m_part r.1 x r.2.1 N).toInt ≤ (W 1 (24 + 2 * N + 1)).toInt ∧ (W 1 (24 + 2 * N) ≠ x → (m_part r.1 x r.2.1 N).toInt = 0) ∧ (W 1 (24 + 2 * N) = x → (m_part r.1 x r.2.1 N).toInt = r.2.1.toInt ∨ (m_part r.1 x r.2.1 N).toInt = (W 1 (24 + 2 * N + 1)).toInt) := by
      unfold m_part
      rw [e0, e1]
      by_cases c : W 1 (24 + 2 * N) = x
      · rw [if_pos c]
        by_cases d : r.2.1 ≤ W 1 (24 + 2 * N + 1)
        · rw [if_pos d]
          rw [Int32.le_iff_toInt_le] at d
          exact ⟨h3.1, Int.le_refl _, d, fun z => absurd c z, fun _ => Or.inl rfl⟩
        · rw [if_neg d]
          rw [Int32.le_iff_toInt_le] at d
          exact ⟨hbN.2.1, by omega, Int.le_refl _, fun z => absurd c z, fun _ => Or.inr rfl⟩
      · rw [if_neg c]
        exact ⟨by decide, by rw [z_i0]; exact h3.1, by rw [z_i0]; exact hbN.2.1, fun _ => rfl, fun z => absurd z c⟩
    unfold m_delStep
    generalize m_part r.1 x r.2.1 N = p at hpart ⊢
    have e2 : (r.2.1 - p).toInt = r.2.1.toInt - p.toInt := z_sub (by omega) (by omega)
    have en : (-p).toInt = -p.toInt := z_neg (by omega)
    have e3 : (r.1 1 (24 + 2 * N + 1) + -p).toInt = (W 1 (24 + 2 * N + 1)).toInt - p.toInt := by rw [e1, z_add (by rw [en]; omega) (by rw [en]; omega), en]; omega
    dsimp only
    unfold m_moves
    rw [w2_s]
    refine ⟨fun j hj => ?_, fun c hc5 => ?_, by omega, fun q => ?_, ?_, ?_⟩
    · rw [upd_ne (fun z => hj ⟨N, by omega, z⟩)]
      exact h1 j (fun ⟨b, hb, e⟩ => hj ⟨b, by omega, e⟩)
    · rw [upd_ne (by omega)]
      by_cases e : c = N
      · subst e; rw [upd_at, e3]; exact ⟨(h2 c hc5).1, by omega⟩
      · rw [upd_ne (by omega)]; exact h2 c hc5
    · have h7 := z_tot_one (f := y_bterm (upd (r.1 1) (24 + 2 * N + 1) (r.1 1 (24 + 2 * N + 1) + -p)) q) (g := y_bterm (r.1 1) q) (k := N) (n := 5) (by omega) (fun i hi hne => by
        unfold y_bterm
        rw [upd_ne (by omega), upd_ne (by omega)])
      have h8 : y_bterm (upd (r.1 1) (24 + 2 * N + 1) (r.1 1 (24 + 2 * N + 1) + -p)) q N = if (W 1 (24 + 2 * N)).toInt ≤ q then (W 1 (24 + 2 * N + 1)).toInt - p.toInt else 0 := by
        unfold y_bterm
        rw [upd_ne (by omega), upd_at, e3, e0]
      have h9 : y_bterm (r.1 1) q N = if (W 1 (24 + 2 * N)).toInt ≤ q then (W 1 (24 + 2 * N + 1)).toInt else 0 := by
        unfold y_bterm
        rw [e0, e1]
      have h10 := h4 q
      rw [h8, h9] at h7
      rw [e2]
      by_cases c : W 1 (24 + 2 * N) = x
      · rw [c] at h7
        by_cases d : x.toInt ≤ q
        · rw [if_pos d] at h7 h10 ⊢; omega
        · rw [if_neg d] at h7 h10 ⊢; omega
      · have hp0 := hpart.2.2.2.1 c
        rw [hp0, Int.sub_zero] at h7 ⊢
        by_cases d : x.toInt ≤ q
        · rw [if_pos d] at h10 ⊢; omega
        · rw [if_neg d] at h10 ⊢; omega
    · rw [z_tot_s, er, e2]
      by_cases c : W 1 (24 + 2 * N) = x
      · rw [if_pos (congrArg Int32.toInt c)]
        have := hpart.2.2.2.2 c
        omega
      · rw [if_neg (fun z => c (z_ext z))]
        have := hpart.2.2.2.1 c
        omega
    · rw [e2]
      by_cases c : own.toInt ≤ x.toInt
      · rw [if_pos c] at h6 ⊢
        rw [if_pos (Int32.le_iff_toInt_le.mpr c), Int32.add_zero]
        omega
      · rw [if_neg c] at h6 ⊢
        rw [if_neg (fun z => c (Int32.le_iff_toInt_le.mp z)), z_add (by omega) (by omega)]
        omega
theorem y_B_step (hb : y_bins (W 1)) {x : Int} : z_tot (y_gr (W 1) x) 5 = z_tot (y_bterm (W 1) x) 5 - z_tot (y_bterm (W 1) (x - 1)) 5 := by
  have h1 : z_tot (y_bterm (W 1) x) 5 = z_tot (fun b => y_bterm (W 1) (x - 1) b + y_gr (W 1) x b) 5 := z_tot_congr (fun b _ => by
    unfold y_bterm y_gr
    by_cases c : (W 1 (24 + 2 * b)).toInt = x
    · rw [if_pos (by omega), if_neg (by omega), if_pos c]; omega
    · rw [if_neg c]
      by_cases d : (W 1 (24 + 2 * b)).toInt ≤ x
      · rw [if_pos d, if_pos (by omega)]; omega
      · rw [if_neg d, if_neg (by omega)]; omega)
  rw [h1, z_tot_add]
  omega
theorem y_B_mono (hb : y_bins (W 1)) {x y : Int} (h : x ≤ y) : z_tot (y_bterm (W 1) x) 5 ≤ z_tot (y_bterm (W 1) y) 5 := z_tot_le (fun b hb5 => by
  have := (hb b hb5).2
  unfold y_bterm
  split
  · rw [if_pos (by omega)]; omega
  · split <;> omega)
theorem y_B_neg (hb : y_bins (W 1)) {x : Int} (h : x < 0) : z_tot (y_bterm (W 1) x) 5 = 0 := by
  rw [z_tot_congr (g := fun _ => 0) (fun b hb5 => by
    have := (hb b hb5).1
    unfold y_bterm
    rw [if_neg (by omega)])]
  decide
theorem y_delv {own : Int32} : ∀ (j : Nat) (r : g_V × Int32 × Int32), j ≤ 3 → y_bins (r.1 1) → 0 ≤ r.2.1.toInt → 0 ≤ r.2.2.toInt → r.2.1.toInt + r.2.2.toInt ≤ 100000 → r.2.1.toInt ≤ z_tot (y_bterm (r.1 1) ((j : Int) - 1)) 5 →
    (∀ x, ¬ (∃ c, c < 5 ∧ x = 24 + 2 * c + 1) → (m_delv own j r).1 1 x = r.1 1 x) ∧ y_bins ((m_delv own j r).1 1) ∧ (m_delv own j r).2.1.toInt = 0 ∧ (∀ q : Int, q < j → z_tot (y_bterm ((m_delv own j r).1 1) q) 5 = min (z_tot (y_bterm (r.1 1) q) 5) (z_tot (y_bterm (r.1 1) ((j : Int) - 1)) 5 - r.2.1.toInt)) ∧ (∀ q : Int, (j : Int) - 1 ≤ q → z_tot (y_bterm ((m_delv own j r).1 1) q) 5 = z_tot (y_bterm (r.1 1) q) 5 - r.2.1.toInt) ∧ ((j : Int) ≤ own.toInt → (m_delv own j r).2.2.toInt = r.2.2.toInt + r.2.1.toInt)
  | 0, r, _, hb, h0, _, _, hB => by
    rw [y_B_neg hb (by omega)] at hB
    have e : r.2.1.toInt = 0 := by omega
    refine ⟨fun _ _ => rfl, hb, e, fun q hq => ?_, fun q hq => ?_, fun _ => ?_⟩
    · show z_tot (y_bterm (r.1 1) q) 5 = _
      rw [y_B_neg hb (show q < 0 by omega), y_B_neg hb (by omega), e]
      decide
    · show z_tot (y_bterm (r.1 1) q) 5 = _
      rw [e]; omega
    · show r.2.2.toInt = _
      rw [e]; omega
  | j + 1, r, hj, hb, h0, hb0, hs, hB => by
    rw [m_delv]
    have ej : (nI j).toInt = j := nI_toInt (by omega)
    obtain ⟨a1, a2, a3, a4, a5, a6⟩ := y_take (W := r.1) (x := nI j) (own := own) (a := r.2.1) (b := r.2.2) hb h0 hb0 hs 5 (Nat.le_refl 5)
    rw [show ((r.1, r.2.1, r.2.2) : g_V × Int32 × Int32) = r from rfl] at a1 a2 a3 a4 a5 a6
    rw [ej] at a4 a5 a6
    generalize k_iter (m_delStep (nI j) own) r 5 = t at a1 a2 a3 a4 a5 a6 ⊢
    rw [show ((j + 1 : Nat) : Int) - 1 = j by omega] at hB ⊢
    have hst := y_B_step (W := r.1) hb (x := j)
    have hm1 := y_B_mono (W := t.1) a2 (x := (j : Int) - 1) (y := j) (by omega)
    have hpos : 0 ≤ z_tot (y_bterm (t.1 1) ((j : Int) - 1)) 5 := z_tot_pos (y_bterm_pos a2)
    have b1 := a4 ((j : Int) - 1)
    have b2 := a4 j
    rw [if_neg (by omega)] at b1
    rw [if_pos (Int.le_refl _)] at b2
    obtain ⟨c1, c2, c3, c4, c5, c6⟩ := y_delv (own := own) j t (by omega) a2 a3.1 (by rw [a6]; split <;> omega) (by rw [a6]; split <;> omega) (by omega)
    refine ⟨fun x hx => (c1 x hx).trans (a1 x hx), c2, c3, fun q hq => ?_, fun q hq => ?_, fun ho => ?_⟩
    · by_cases e : q < j
      · rw [c4 q e]
        have b3 := a4 q
        rw [if_neg (by omega)] at b3
        have hm2 := y_B_mono (W := r.1) hb (x := q) (y := (j : Int) - 1) (by omega)
        rcases a5 with a5 | a5
        · rw [b3, b1, a5]; omega
        · rw [b3, b1]; omega
      · have e : q = j := by omega
        subst e
        rw [c5 j (by omega), b2]
        omega
    · have b3 := a4 q
      rw [if_pos (by omega)] at b3
      rw [c5 q (by omega), b3]
      omega
    · rw [c6 (by omega), a6, if_neg (by omega)]
      omega
end ZT
