/-! ===== handing on, paying back, calling ===== -/
theorem upd_comm {f : Nat → Int32} {a b : Nat} {x y : Int32} (h : a ≠ b) : upd (upd f a x) b y = upd (upd f b y) a x := by
  funext j
  by_cases h1 : j = a
  · subst h1; rw [upd_ne h, upd_at, upd_at]
  · by_cases h2 : j = b
    · subst h2; rw [upd_at, upd_ne h1, upd_at]
    · rw [upd_ne h2, upd_ne h1, upd_ne h1, upd_ne h2]
theorem y_row.fr {S : Nat → Int32} {k : Nat} (h : y_row S k) : y_row (upd (upd (upd S (34 + 7 * k + 4) (-1)) (34 + 7 * k + 5) 0) (34 + 7 * k + 6) 0) k := by
  unfold y_row at h ⊢
  rw [upd_at, upd_ne (by omega), upd_ne (by omega), upd_ne (by omega), upd_ne (by omega), upd_ne (by omega), upd_ne (by omega), upd_ne (by omega), upd_ne (by omega), upd_ne (by omega), upd_ne (by omega), upd_ne (by omega), upd_at, upd_ne (by omega), upd_at]
  exact ⟨h.1, h.2.1, h.2.2.1, by decide, by decide, by decide, fun z => absurd z (by decide)⟩
section ZN
variable {V W : g_V} {n : Nat} {g : Nat → Nat} {mb lo hi : Int} {k : Nat}
theorem m_frees_1 : m_frees W k 1 = upd (upd (upd (W 1) (34 + 7 * k + 4) (-1)) (34 + 7 * k + 5) 0) (34 + 7 * k + 6) 0 := by
  unfold m_frees
  rw [w2_s, w2_s, w2_s]
theorem z_L.frees (hL : z_L V (W 1) n g) (hk : k < n) : z_L (q_endPledge V (g k)) (m_frees W k 1) n g := by
  rw [m_frees_1]
  exact ((hL.up (z_lk_row hk (by decide)) _).up (z_lk_row hk (by decide)) _).up (z_lk_row hk (by decide)) _
theorem y_1.frees (h1 : y_1 (W 1) n) : y_1 (m_frees W k 1) n := by
  rw [m_frees_1]
  exact h1.rows (k := k) (fun x _ _ h4 h5 h6 => by rw [upd_ne h6, upd_ne h5, upd_ne h4]) (fun hk => (h1.row hk).fr)
theorem y_2.frees (h2 : y_2 (W 1) n mb) : y_2 (m_frees W k 1) n mb := by
  rw [m_frees_1]
  exact ((h2.up (by omega) (Or.inr ⟨k, 4, by omega⟩)).up (by omega) (Or.inr ⟨k, 5, by omega⟩)).up (by omega) (Or.inr ⟨k, 6, by omega⟩)
theorem y_3.frees (h3 : y_3 (W 1) lo hi) : y_3 (m_frees W k 1) lo hi := by
  rw [m_frees_1]
  exact ((h3.up (by omega)).up (by omega)).up (by omega)
def m_hands (W : g_V) (x o : Int32) (n : Nat) : Int32 × g_V :=
  match m_place W x n with
  | none => (-2000000001, W)
  | some k => if m_in o 0 7 then (if W 1 (34 + 7 * k + 1) = o then (-2000000002, W) else (if m_pledged W k then (-2000000002, W) else (W 1 (34 + 7 * k + 1), g_w2 W 1 (34 + 7 * k + 1) o))) else (-2000000001, W)
theorem s_hand {x o : Int32} (h : z_R V (W 1) n mb lo hi) : z_S V W (q_hand V x o) (m_hands W x o n) mb lo hi := by
  obtain ⟨g, hL, h1, h2, h3⟩ := h
  unfold q_hand m_hands
  rw [z_find hL h2]
  cases hp : m_place W x n with
  | none => exact z_S.e1
  | some k =>
    simp only [Option.map_some]
    obtain ⟨hk, -⟩ := z_place hp
    by_cases c1 : k_in o 8
    · rw [if_pos c1, if_pos (z_in8.mpr c1), hL.row hk (by decide)]
      by_cases c2 : W 1 (34 + 7 * k + 1) = o
      · rw [if_pos c2, if_pos c2]; exact z_S.e2
      · rw [if_neg c2, if_neg c2]
        by_cases c3 : m_pledged W k
        · rw [if_pos ((z_pledged hL h1 hk).mpr c3), if_pos c3]; exact z_S.e2
        · rw [if_neg (fun z => c3 ((z_pledged hL h1 hk).mp z)), if_neg c3]
          have h4 := (h1.row hk).1
          have ho : 0 ≤ o.toInt ∧ o.toInt < 8 := z_rk c1
          refine z_S.ok rfl (z_good_0 h4.1) (n := n) ?_
          rw [w2_s]
          exact ⟨g, hL.up (z_lk_row hk (by decide)) o, h1.r1 (by omega) (fun _ => (h1.row hk).o (by omega)), h2.up (by omega) (Or.inr ⟨k, 1, by omega⟩), h3.up (by omega)⟩
    · rw [if_neg c1, if_neg (fun z => c1 (z_in8.mp z))]; exact z_S.e1
theorem s_repay {x a : Int32} (h : z_R V (W 1) n mb lo hi) (hlo : -600000000 ≤ lo) (hhi : hi ≤ 2030000000) : z_S V W (q_repay V x a) (m_repays W x a n) mb (lo - 990000) hi := by
  obtain ⟨g, hL, h1, h2, h3⟩ := h
  unfold q_repay m_repays
  rw [z_find hL h2]
  cases hp : m_place W x n with
  | none => exact z_S.e1
  | some k =>
    simp only [Option.map_some]
    obtain ⟨hk, -⟩ := z_place hp
    by_cases c2 : 1 ≤ a
    · rw [if_pos c2, if_pos c2]
      by_cases c3 : m_pledged W k
      · rw [if_pos ((z_pledged hL h1 hk).mpr c3), if_pos c3, hL.row hk (by decide)]
        by_cases c5 : a ≤ W 1 (34 + 7 * k + 5)
        · rw [if_pos c5, if_pos c5]
          obtain ⟨h4, -, -, h7, h8, h9, h10⟩ := h1.row hk
          obtain ⟨j, hj, ej⟩ := z_lo (N := 8) h4.1 (by omega)
          have c2' : 1 ≤ a.toInt := by rw [Int32.le_iff_toInt_le, z_i1] at c2; exact c2
          have c5' : a.toInt ≤ (W 1 (34 + 7 * k + 5)).toInt := Int32.le_iff_toInt_le.mp c5
          have e1 : (g_w2 V (12 + g k) 5 (W 1 (34 + 7 * k + 5) - a)) (12 + g k) 1 = nI j := by rw [w2_ne (by omega), hL.row hk (by decide), ej]
          have h3j := h3 j hj
          have el : (W 1 (34 + 7 * k + 5) - a).toInt = (W 1 (34 + 7 * k + 5)).toInt - a.toInt := z_sub (by omega) (by omega)
          have em : (W 1 (13 + j) - a).toInt = (W 1 (13 + j)).toInt - a.toInt := z_sub (by omega) (by omega)
          rw [e1, q_addMoney_at rfl hj, ej, nI_clamp (by omega), w2_ne (V := V) (c := 12 + g k) (c' := 5) (by omega), hL.mo hj, ← Int32.sub_eq_add_neg]
          have hL1 : z_L (g_w2 (g_w2 V (12 + g k) 5 (W 1 (34 + 7 * k + 5) - a)) 5 j (W 1 (13 + j) - a)) (g_w2 (g_w2 W 1 (13 + j) (W 1 (13 + j) - a)) 1 (34 + 7 * k + 5) (W 1 (34 + 7 * k + 5) - a) 1) n g := by
            rw [w2_s, w2_s, upd_comm (by omega)]
            exact (hL.up (z_lk_row hk (by decide)) _).up (z_lk_mo hj) _
          have hY1 : y_1 (g_w2 (g_w2 W 1 (13 + j) (W 1 (13 + j) - a)) 1 (34 + 7 * k + 5) (W 1 (34 + 7 * k + 5) - a) 1) n := by
            rw [w2_s, w2_s]
            have h11 := h1.ms (v := W 1 (13 + j) - a) (j := 13 + j) (by omega)
            exact h11.r1 (by omega) (fun _ => (h11.row hk).lo (by omega))
          have hY2 : y_2 (g_w2 (g_w2 W 1 (13 + j) (W 1 (13 + j) - a)) 1 (34 + 7 * k + 5) (W 1 (34 + 7 * k + 5) - a) 1) n mb := by
            rw [w2_s, w2_s]
            exact (h2.up (by omega) (Or.inl (by omega))).up (by omega) (Or.inr ⟨k, 5, by omega⟩)
          have hY3 : y_3 (g_w2 (g_w2 W 1 (13 + j) (W 1 (13 + j) - a)) 1 (34 + 7 * k + 5) (W 1 (34 + 7 * k + 5) - a) 1) (lo - 990000) hi := by
            rw [w2_s, w2_s]
            exact (h3.mo (by omega) (Int.le_refl _) (by omega)).up (by omega)
          generalize hV1 : g_w2 (g_w2 V (12 + g k) 5 (W 1 (34 + 7 * k + 5) - a)) 5 j (W 1 (13 + j) - a) = V1 at hL1 ⊢
          have eV : V1 (12 + g k) 5 = W 1 (34 + 7 * k + 5) - a := by rw [← hV1, w2_ne (by omega), w2_at]
          generalize hW1 : g_w2 (g_w2 W 1 (13 + j) (W 1 (13 + j) - a)) 1 (34 + 7 * k + 5) (W 1 (34 + 7 * k + 5) - a) = W1 at hL1 hY1 hY2 hY3 ⊢
          have eW : W1 1 (34 + 7 * k + 5) = W 1 (34 + 7 * k + 5) - a := by rw [← hW1, w2_at]
          by_cases c6 : W 1 (34 + 7 * k + 5) - a = 0
          · rw [if_pos (eV.trans c6), if_pos c6]
            refine z_S.ok ?_ (z_good_0 (by omega)) (n := n) ⟨g, hL1.frees hk, hY1.frees, hY2.frees, hY3.frees⟩
            rw [c6]
            unfold q_endPledge
            rw [w2_ne (by omega), w2_at]
          · rw [if_neg (fun z => c6 (eV.symm.trans z)), if_neg c6]
            by_cases c7 : m_above W1 k
            · rw [if_pos ((z_above hL1 hk).mpr c7), if_pos c7]
              exact z_S.ok eV (z_good_0 (by omega)) (n := n) ⟨g, hL1, hY1, hY2, hY3⟩
            · rw [if_neg (fun z => c7 ((z_above hL1 hk).mp z)), if_neg c7]
              refine z_S.ok (by rw [w2_ne (by omega), eV]) (z_good_0 (by omega)) (n := n) ?_
              rw [w2_s]
              exact ⟨g, hL1.up (z_lk_row hk (by decide)) 0, hY1.r1 (by omega) (fun _ => (hY1.row hk).lf (by decide) (fun z => absurd z (by decide))), hY2.up (by omega) (Or.inr ⟨k, 6, by omega⟩), hY3.up (by omega)⟩
        · rw [if_neg c5, if_neg c5]; exact z_S.e2
      · rw [if_neg (fun z => c3 ((z_pledged hL h1 hk).mp z)), if_neg c3]; exact z_S.e2
    · rw [if_neg c2, if_neg c2]; exact z_S.e1
/-! calls -/
theorem q_would_of {V' : g_V} {i : Nat} {le pr : Int32} (h : ∀ j, V' (12 + i) j = V (12 + i) j) (h4 : V' 4 1 = V 4 1) : q_would V' i le pr ↔ q_would V i le pr := by
  unfold q_would q_called q_callLimit
  rw [h, h, h, h, h4]
theorem q_calls_cf {le : Int32} : ∀ N, N ≤ 16 → (∀ c j, ¬ (12 ≤ c ∧ c < 12 + N ∧ j = 6) → (k_iter (q_callStep le) (V, 0) N).1 c j = V c j) ∧ (∀ i, i < N → (k_iter (q_callStep le) (V, 0) N).1 (12 + i) 6 = if q_would V i le (V 3 2) then V 4 2 else V (12 + i) 6) ∧ (k_iter (q_callStep le) (V, 0) N).2 = k_sum (fun i => if q_would V i le (V 3 2) then 1 else 0) N
  | 0, _ => ⟨fun _ _ _ => rfl, fun i hi => absurd hi (Nat.not_lt_zero i), rfl⟩
  | N + 1, hN => by
    obtain ⟨h1, h2, h3⟩ := q_calls_cf (le := le) N (by omega)
    rw [k_iter, k_sum]
    generalize k_iter (q_callStep le) (V, 0) N = q at h1 h2 h3 ⊢
    have e3 : q.1 3 2 = V 3 2 := h1 3 2 (by omega)
    have e4 : q.1 4 2 = V 4 2 := h1 4 2 (by omega)
    have ew : q_would q.1 N le (V 3 2) ↔ q_would V N le (V 3 2) := q_would_of (fun j => h1 _ _ (by omega)) (h1 4 1 (by omega))
    unfold q_callStep
    rw [e3, e4]
    by_cases c : q_would V N le (V 3 2)
    · rw [if_pos (ew.mpr c), if_pos c]
      refine ⟨fun c' j h => ?_, fun i hi => ?_, ?_⟩
      · show g_w2 _ _ _ _ c' j = _
        rw [w2_ne (by omega)]; exact h1 c' j (by omega)
      · show g_w2 _ _ _ _ _ _ = _
        by_cases e : i = N
        · subst e; rw [w2_at, if_pos c]
        · rw [w2_ne (by omega)]; exact h2 i (by omega)
      · show q.2 + 1 = _
        rw [h3]
    · rw [if_neg (fun z => c (ew.mp z)), if_neg c]
      refine ⟨fun c' j h => h1 c' j (by omega), fun i hi => ?_, ?_⟩
      · by_cases e : i = N
        · subst e; rw [if_neg c]; exact h1 _ _ (by omega)
        · exact h2 i (by omega)
      · rw [h3, Int32.add_zero]
theorem m_would_of {W' : g_V} {i : Nat} {le : Int32} (h : ∀ j, j < 7 → W' 1 (34 + 7 * i + j) = W 1 (34 + 7 * i + j)) (h7 : W' 1 (6 + 1) = W 1 (6 + 1)) (h12 : W' 1 12 = W 1 12) : m_would W' i le ↔ m_would W i le := by
  unfold m_would m_above m_share m_worth
  rw [h 4 (by decide), h 6 (by decide), h 5 (by decide), h 3 (by decide), h7, h12]
theorem m_calls_cf {le : Int32} : ∀ N, (∀ x, ¬ (∃ k, k < N ∧ x = 34 + 7 * k + 6) → (k_iter (m_callStep le) (W, 0) N).1 1 x = W 1 x) ∧ (∀ k, k < N → (k_iter (m_callStep le) (W, 0) N).1 1 (34 + 7 * k + 6) = if m_would W k le then W 1 8 else W 1 (34 + 7 * k + 6)) ∧ (k_iter (m_callStep le) (W, 0) N).2 = k_sum (fun k => if m_would W k le then 1 else 0) N
  | 0 => ⟨fun _ _ => rfl, fun i hi => absurd hi (Nat.not_lt_zero i), rfl⟩
  | N + 1 => by
    obtain ⟨h1, h2, h3⟩ := m_calls_cf (le := le) N
    rw [k_iter, k_sum]
    generalize k_iter (m_callStep le) (W, 0) N = q at h1 h2 h3 ⊢
    have e8 : q.1 1 8 = W 1 8 := h1 8 (by omega)
    have ew : m_would q.1 N le ↔ m_would W N le := m_would_of (fun j hj => h1 _ (fun ⟨k, hk, e⟩ => by omega)) (h1 7 (by omega)) (h1 12 (by omega))
    unfold m_callStep
    rw [e8]
    by_cases c : m_would W N le
    · rw [if_pos (ew.mpr c), if_pos c]
      refine ⟨fun x h => ?_, fun i hi => ?_, ?_⟩
      · dsimp only
        rw [w2_ne (fun z => h ⟨N, by omega, z.2⟩)]; exact h1 x (fun ⟨k, hk, e⟩ => h ⟨k, by omega, e⟩)
      · dsimp only
        by_cases e : i = N
        · subst e; rw [w2_at, if_pos c]
        · rw [w2_ne (by omega)]; exact h2 i (by omega)
      · show q.2 + 1 = _
        rw [h3]
    · rw [if_neg (fun z => c (ew.mp z)), if_neg c]
      refine ⟨fun x h => h1 x (fun ⟨k, hk, e⟩ => h ⟨k, by omega, e⟩), fun i hi => ?_, ?_⟩
      · by_cases e : i = N
        · subst e; rw [if_neg c]; exact h1 _ (fun ⟨k, hk, e⟩ => by omega)
        · exact h2 i (by omega)
      · rw [h3, Int32.add_zero]
theorem z_lim (hL : z_L V (W 1) n g) (hk : k < n) {pr : Int32} : q_callLimit V (V (12 + g k) 3 * pr) = W 1 (34 + 7 * k + 3) * pr * W 1 7 / 100 := by
  unfold q_callLimit
  rw [hL.row hk (by decide), hL.se (by decide)]
theorem z_left0 (hL : z_L V (W 1) n g) (h1 : y_1 (W 1) n) (hk : k < n) : ¬ q_called V (g k) ↔ W 1 (34 + 7 * k + 6) = 0 := by
  have h6 := (h1.row hk).2.2.2.2.2.1
  unfold q_called
  rw [hL.row hk (by decide), Decidable.not_not, Int32.le_iff_toInt_le, z_i0]
  constructor
  · intro h
    exact z_ext (by rw [z_i0]; omega)
  · intro h
    rw [h, z_i0]
    exact Int.le_refl 0
theorem z_would (hL : z_L V (W 1) n g) (h1 : y_1 (W 1) n) (hk : k < n) {le : Int32} : q_would V (g k) le (V 3 2) ↔ m_would W k le := by
  unfold q_would m_would m_above m_share m_worth
  rw [hL.row hk (j := 4) (by decide), hL.row hk (j := 5) (by decide), z_left0 hL h1 hk, z_lim hL hk, hL.pr (by decide)]
theorem z_free_nw {i : Nat} {le pr : Int32} (h : z_free V i) (hle : 0 ≤ le.toInt) : ¬ q_would V i le pr := fun z => by
  have e := h.2.2.2.2.1.symm.trans z.1
  rw [← e, show (-1 : Int32).toInt = -1 from rfl] at hle
  omega
theorem z_L.ptw {V' : g_V} {S S' : Nat → Int32} (h : z_L V S n g) (h0 : S' 0 = S 0) (he : ∀ c j x, z_lk n g c j x → V' c j = S' x) (hf : ∀ i, i < 16 → z_free V i → z_free V' i) : z_L V' S' n g :=
  ⟨⟨h0.trans h.n0, h.n16⟩, h.2.1, h.2.2.1, he, fun i hi hk => hf i hi (h.fr hi hk)⟩
theorem k_sum_1 {q : Nat → Prop} [d : DecidablePred q] : ∀ {m : Nat}, m < 1000 → 0 ≤ (k_sum (fun i => if q i then 1 else 0) m).toInt ∧ (k_sum (fun i => if q i then 1 else 0) m).toInt ≤ m
  | 0, _ => ⟨Int.le_refl 0, Int.le_refl 0⟩
  | m + 1, h => by
    obtain ⟨h1, h2⟩ := k_sum_1 (q := q) (m := m) (by omega)
    rw [k_sum]
    by_cases c : q m
    · rw [if_pos c, z_add (by rw [z_i1]; omega) (by rw [z_i1]; omega), z_i1]; omega
    · rw [if_neg c, Int32.add_zero]; omega
theorem s_call {le : Int32} (h : z_R V (W 1) n mb lo hi) : z_S V W (q_call V le) (m_calls W le n) mb lo hi := by
  obtain ⟨g, hL, h1, h2, h3⟩ := h
  unfold q_call m_calls
  by_cases c1 : k_in le 3
  · rw [if_pos c1, if_pos (z_in3.mpr c1)]
    have hle := z_rk c1
    obtain ⟨a1, a2, a3⟩ := q_calls_cf (V := V) (le := le) 16 (Nat.le_refl 16)
    obtain ⟨b1, b2, b3⟩ := m_calls_cf (W := W) (le := le) n
    have e : (k_iter (q_callStep le) (V, 0) 16).2 = (k_iter (m_callStep le) (W, 0) n).2 := by
      rw [a3, b3]
      refine hL.sum (fun i _ hf => if_neg (z_free_nw hf hle.1)) (fun k hk => ?_)
      by_cases c : m_would W k le
      · rw [if_pos c, if_pos ((z_would hL h1 hk).mpr c)]
      · rw [if_neg c, if_neg (fun z => c ((z_would hL h1 hk).mp z))]
    have hgood : z_good (k_iter (m_callStep le) (W, 0) n).2 := by
      rw [b3]
      have := h1.n16
      exact z_good_0 (k_sum_1 (by omega)).1
    generalize k_iter (q_callStep le) (V, 0) 16 = q at a1 a2 a3 e ⊢
    generalize k_iter (m_callStep le) (W, 0) n = r at b1 b2 b3 e hgood ⊢
    refine z_S.ok e hgood (n := n) ⟨g, hL.ptw (b1 0 (fun ⟨k, hk, e⟩ => by omega)) (fun c j x hx => ?_) (fun i hi hf => ?_), ?_, ?_, ?_⟩
    · by_cases c6 : ∃ k, k < n ∧ c = 12 + g k ∧ j = 6 ∧ x = 34 + 7 * k + 6
      · obtain ⟨k, hk, e1, e2, e3⟩ := c6
        rw [e1, e2, e3, a2 _ (hL.g16 hk), b2 k hk]
        by_cases c : m_would W k le
        · rw [if_pos c, if_pos ((z_would hL h1 hk).mpr c)]; exact hL.se (by decide)
        · rw [if_neg c, if_neg (fun z => c ((z_would hL h1 hk).mp z))]; exact hL.row hk (by decide)
      · rw [a1 c j (fun z => ?_), b1 x (fun z => ?_)]
        · exact hL.at hx
        · obtain ⟨k, hk, e⟩ := z
          rcases hx with h | h | h | h | h | ⟨b, h⟩ | ⟨k', h5, h6, h7, h8⟩
          iterate 6 omega
          exact c6 ⟨k', h5, h6, by omega, by omega⟩
        · rcases hx with h | h | h | h | h | ⟨b, h⟩ | ⟨k', h5, h6, h7, h8⟩
          iterate 6 omega
          exact c6 ⟨k', h5, h6, z.2.2, by omega⟩
    · unfold z_free
      have hne : ∀ f, q.1 (12 + i) f = V (12 + i) f := fun f => by
        by_cases e6 : f = 6
        · subst e6; rw [a2 i hi, if_neg (z_free_nw hf hle.1)]
        · exact a1 _ _ (by omega)
      rw [hne, hne, hne, hne, hne, hne, hne]
      exact hf
    · have hb : ∀ x, (∀ k, k < n → x ≠ 34 + 7 * k + 6) → r.1 1 x = W 1 x := fun x hx => b1 x (fun ⟨k, hk, e⟩ => hx k hk e)
      refine ⟨⟨(hb 0 (fun k hk => by omega)).trans h1.n0, h1.n16⟩, fun k hk => ?_, h1.set.of (fun x _ _ => hb x (fun k hk => by omega)), h1.bins.of (fun x _ _ => hb x (fun k hk => by omega)), fun q h0 h2 => ?_⟩
      · have hr := h1.row hk
        have hs := h1.set.2.2.1
        unfold y_row at hr ⊢
        rw [hb (34 + 7 * k + 1) (fun k hk => by omega), hb (34 + 7 * k + 2) (fun k hk => by omega), hb (34 + 7 * k + 3) (fun k hk => by omega), hb (34 + 7 * k + 4) (fun k hk => by omega), hb (34 + 7 * k + 5) (fun k hk => by omega), b2 k hk]
        by_cases c : m_would W k le
        · rw [if_pos c]
          refine ⟨hr.1, hr.2.1, hr.2.2.1, hr.2.2.2.1, hr.2.2.2.2.1, by omega, fun _ => ?_⟩
          rw [c.1]
          exact hle.1
        · rw [if_neg c]; exact hr
      · rw [y_term_of (fun i _ => hb _ (fun k hk => by omega)) (fun i _ => hb _ (fun k hk => by omega)), y_bterm_of (fun x h1 h2 => hb x (fun k hk => by omega))]
        exact h1.cov q h0 h2
    · exact h2.of (b1 2 (fun ⟨k, hk, e⟩ => by omega)) (fun k hk => b1 _ (fun ⟨k', hk', e⟩ => by omega))
    · exact h3.of (fun o ho => b1 _ (fun ⟨k', hk', e⟩ => by omega))
  · rw [if_neg c1, if_neg (fun z => c1 (z_in3.mp z))]; exact z_S.e1
end ZN
