/-! ===== copies of states on both sides ===== -/
def z_pl (c j : Nat) : Prop := (c = 0 ∧ 6 ≤ j ∧ j < 11) ∨ (c = 3 ∧ j < 3) ∨ (c = 4 ∧ j < 4) ∨ (c = 5 ∧ j < 8) ∨ (c = 6 ∧ j < 3) ∨ (7 ≤ c ∧ c < 12 ∧ j < 2) ∨ (12 ≤ c ∧ c < 28 ∧ j < 7)
section XC
variable {V V' W : g_V} {S S' : Nat → Int32} {n : Nat} {g : Nat → Nat} {mb lo hi : Int}
theorem z_L.cong (h : z_L V S n g) (hV : ∀ c j, z_pl c j → V' c j = V c j) (hS : ∀ x, x < 146 → S' x = S x) : z_L V' S' n g := by
  have h16 := h.n16
  refine h.ptw (hS 0 (by decide)) (fun c j x hx => ?_) (fun i hi hf => ?_)
  · have hx' : x < 146 := by rcases hx with z | z | z | z | z | ⟨b, z⟩ | ⟨k, z1, z2, z3, z4⟩ <;> omega
    have hc' : z_pl c j := by
      unfold z_pl
      rcases hx with z | z | z | z | z | ⟨b, z⟩ | ⟨k, z1, z2, z3, z4⟩
      iterate 6 omega
      have := h.g16 z1
      omega
    rw [hS x hx', hV c j hc']
    exact h.at hx
  · unfold z_free
    have hne : ∀ f, f < 7 → V' (12 + i) f = V (12 + i) f := fun f hf => hV _ _ (by unfold z_pl; omega)
    rw [hne 0 (by decide), hne 1 (by decide), hne 2 (by decide), hne 3 (by decide), hne 4 (by decide), hne 5 (by decide), hne 6 (by decide)]
    exact hf
theorem y_1.cong (h : y_1 S n) (hS : ∀ x, x < 146 → S' x = S x) : y_1 S' n := by
  have h16 := h.n16
  refine ⟨⟨(hS 0 (by decide)).trans h.n0, h16⟩, fun k hk => (h.row hk).of (fun j hj => hS _ (by omega)), h.set.of (fun x _ _ => hS x (by omega)), h.bins.of (fun x _ _ => hS x (by omega)), fun q h0 h2 => ?_⟩
  rw [y_term_of (fun k hk => hS _ (by omega)) (fun k hk => hS _ (by omega)), y_bterm_of (fun x _ _ => hS x (by omega))]
  exact h.cov q h0 h2
theorem z_R.cong (h : z_R V S n mb lo hi) (hV : ∀ c j, z_pl c j → V' c j = V c j) (hS : ∀ x, x < 146 → S' x = S x) : z_R V' S' n mb lo hi := by
  obtain ⟨g, a, b, c, d⟩ := h
  have h16 := b.n16
  exact ⟨g, a.cong hV hS, b.cong hS, c.of (hS 2 (by decide)) (fun k hk => hS _ (by omega)), d.of (fun o ho => hS _ (by omega))⟩
theorem q_cpRow_ne {V V2 : g_V} {c N c' : Nat} (h : c' ≠ c) : q_cpRow V V2 c N c' = V c' := va_up_ne V _ h
theorem q_cpRow_at {V V2 : g_V} {c N j : Nat} (h : j < N) : q_cpRow V V2 c N c j = V2 c j := by
  unfold q_cpRow
  rw [va_up_self]
  unfold va_cpy
  rw [if_pos (by omega)]
  exact congrArg (V2 c) (by omega)
theorem q_cpBins_v {V2 : g_V} : ∀ (N : Nat), N ≤ 5 → (∀ c j, 7 ≤ c → c < 7 + N → j < 2 → k_iter (q_cpBins V2) V N c j = V2 c j)
  | 0, _ => fun c j h1 h2 _ => by omega
  | N + 1, hN => fun c j h1 h2 hj => by
    rw [k_iter]
    unfold q_cpBins q_copyBin
    by_cases e : c = 7 + N
    · subst e
      rcases (show j = 0 ∨ j = 1 by omega) with rfl | rfl
      · rw [w2_ne (by omega), w2_at]
      · rw [w2_at]
    · rw [w2_ne (by omega), w2_ne (by omega)]
      exact q_cpBins_v N (by omega) c j h1 (by omega) hj
theorem q_cpRecs_v {V2 : g_V} : ∀ (N : Nat), N ≤ 16 → (∀ c j, 12 ≤ c → c < 12 + N → j < 7 → k_iter (q_cpRecs V2) V N c j = V2 c j) ∧ ∀ c j, c < 12 → k_iter (q_cpRecs V2) V N c j = V c j
  | 0, _ => ⟨fun c j h1 h2 _ => by omega, fun _ _ _ => rfl⟩
  | N + 1, hN => by
    obtain ⟨i1, i2⟩ := q_cpRecs_v (V2 := V2) N (by omega)
    rw [k_iter]
    unfold q_cpRecs q_copyRec q_use
    refine ⟨fun c j h1 h2 hj => ?_, fun c j h1 => ?_⟩
    · by_cases e : c = 12 + N
      · subst e
        rcases (show j = 0 ∨ j = 1 ∨ j = 2 ∨ j = 3 ∨ j = 4 ∨ j = 5 ∨ j = 6 by omega) with rfl | rfl | rfl | rfl | rfl | rfl | rfl
        · rw [w2_ne (by omega), w2_ne (by omega), w2_ne (by omega), w2_ne (by omega), w2_ne (by omega), w2_ne (by omega), w2_at]
        · rw [w2_ne (by omega), w2_ne (by omega), w2_ne (by omega), w2_ne (by omega), w2_ne (by omega), w2_at]
        · rw [w2_ne (by omega), w2_ne (by omega), w2_ne (by omega), w2_ne (by omega), w2_at]
        · rw [w2_ne (by omega), w2_ne (by omega), w2_ne (by omega), w2_at]
        · rw [w2_ne (by omega), w2_ne (by omega), w2_at]
        · rw [w2_ne (by omega), w2_at]
        · rw [w2_at]
      · rw [w2_ne (by omega), w2_ne (by omega), w2_ne (by omega), w2_ne (by omega), w2_ne (by omega), w2_ne (by omega), w2_ne (by omega)]
        exact i1 c j h1 (by omega) hj
    · rw [w2_ne (by omega), w2_ne (by omega), w2_ne (by omega), w2_ne (by omega), w2_ne (by omega), w2_ne (by omega), w2_ne (by omega)]
      exact i2 c j h1
theorem q_copy_v {V V2 : g_V} {c j : Nat} (h : z_pl c j) : q_copy V V2 c j = V2 c j := by
  have ha : ∀ c j, (7 ≤ c ∧ c < 12 ∧ j < 2) ∨ (12 ≤ c ∧ c < 28 ∧ j < 7) → q_copyA V V2 c j = V2 c j := fun c j h => by
    unfold q_copyA
    rcases h with h | h
    · rw [(q_cpRecs_v 16 (Nat.le_refl 16)).2 c j (by omega)]
      exact q_cpBins_v 5 (Nat.le_refl 5) c j (by omega) (by omega) (by omega)
    · exact (q_cpRecs_v 16 (Nat.le_refl 16)).1 c j (by omega) (by omega) (by omega)
  unfold q_copy
  rcases h with ⟨rfl, h1, h2⟩ | ⟨rfl, h⟩ | ⟨rfl, h⟩ | ⟨rfl, h⟩ | ⟨rfl, h⟩ | h | h
  · rcases (show j = 6 ∨ j = 7 ∨ j = 8 ∨ j = 9 ∨ j = 10 by omega) with rfl | rfl | rfl | rfl | rfl
    · rw [w2_ne (by omega), w2_ne (by omega), w2_ne (by omega), w2_ne (by omega), w2_at]
    · rw [w2_ne (by omega), w2_ne (by omega), w2_ne (by omega), w2_at]
    · rw [w2_ne (by omega), w2_ne (by omega), w2_at]
    · rw [w2_ne (by omega), w2_at]
    · rw [w2_at]
  · rw [w2_ne (by omega), w2_ne (by omega), w2_ne (by omega), w2_ne (by omega), w2_ne (by omega)]
    unfold q_copyB
    rw [q_cpRow_ne (by decide), q_cpRow_ne (by decide), q_cpRow_ne (by decide)]
    exact q_cpRow_at h
  · rw [w2_ne (by omega), w2_ne (by omega), w2_ne (by omega), w2_ne (by omega), w2_ne (by omega)]
    unfold q_copyB
    rw [q_cpRow_ne (by decide), q_cpRow_ne (by decide)]
    exact q_cpRow_at h
  · rw [w2_ne (by omega), w2_ne (by omega), w2_ne (by omega), w2_ne (by omega), w2_ne (by omega)]
    unfold q_copyB
    rw [q_cpRow_ne (by decide)]
    exact q_cpRow_at h
  · rw [w2_ne (by omega), w2_ne (by omega), w2_ne (by omega), w2_ne (by omega), w2_ne (by omega)]
    unfold q_copyB
    exact q_cpRow_at h
  · rw [w2_ne (by omega), w2_ne (by omega), w2_ne (by omega), w2_ne (by omega), w2_ne (by omega)]
    unfold q_copyB
    rw [q_cpRow_ne (by omega), q_cpRow_ne (by omega), q_cpRow_ne (by omega), q_cpRow_ne (by omega)]
    exact ha c j (Or.inl h)
  · rw [w2_ne (by omega), w2_ne (by omega), w2_ne (by omega), w2_ne (by omega), w2_ne (by omega)]
    unfold q_copyB
    rw [q_cpRow_ne (by omega), q_cpRow_ne (by omega), q_cpRow_ne (by omega), q_cpRow_ne (by omega)]
    exact ha c j (Or.inr h)
/-! the reference's rows -/
theorem m_copyN_v {a b : Nat} (hab : a ≠ b) : ∀ {N : Nat} (x : Nat), m_copyN W a b N a x = if x < N then W b x else W a x
  | 0, x => by rw [if_neg (Nat.not_lt_zero x)]; rfl
  | N + 1, x => by
    have e : m_copyN W a b (N + 1) = g_w2 (m_copyN W a b N) a N (m_copyN W a b N b N) := by unfold m_copyN; rw [k_iter]
    rw [e, m_copyN_c hab.symm]
    by_cases h : x = N
    · subst h; rw [w2_at, if_pos (by omega)]
    · rw [w2_ne (by omega), m_copyN_v hab]
      by_cases h1 : x < N
      · rw [if_pos h1, if_pos (by omega)]
      · rw [if_neg h1, if_neg (by omega)]
theorem m_begins_2 {x : Nat} (h : x < 146) : m_begins W 2 x = W 1 x := by
  unfold m_begins
  rw [m_copyN_v (by decide), if_pos h]
theorem m_returns_1 {x : Nat} (h : x < 146) : m_returns W 1 x = W 2 x := by
  unfold m_returns
  rw [m_copyN_v (by decide), if_pos h]
theorem m_pushN_v {b : Nat} : ∀ {N : Nat} (x : Nat), m_pushN W b N 3 x = if b ≤ x ∧ x < b + N then W 2 (x - b) else W 3 x
  | 0, x => by rw [if_neg (by omega)]; rfl
  | N + 1, x => by
    have e : m_pushN W b (N + 1) = g_w2 (m_pushN W b N) 3 (b + N) (m_pushN W b N 2 N) := by unfold m_pushN; rw [k_iter]
    rw [e, m_pushN_c (c := 2) (by decide)]
    by_cases h : x = b + N
    · subst h; rw [w2_at, if_pos (by omega), Nat.add_sub_cancel_left]
    · rw [w2_ne (by omega), m_pushN_v]
      by_cases h1 : b ≤ x ∧ x < b + N
      · rw [if_pos h1, if_pos (by omega)]
      · rw [if_neg h1, if_neg (by omega)]
theorem m_dropN_v : ∀ {N : Nat} (x : Nat), m_dropN W N 3 x = if x < N then W 3 (x + 146) else W 3 x
  | 0, x => by rw [if_neg (by omega)]; rfl
  | N + 1, x => by
    have e : m_dropN W (N + 1) = g_w2 (m_dropN W N) 3 N (m_dropN W N 3 (N + 146)) := by unfold m_dropN; rw [k_iter]
    rw [e]
    by_cases h : x = N
    · subst h; rw [w2_at, if_pos (by omega), m_dropN_v (N := x) (x + 146), if_neg (by omega)]
    · rw [w2_ne (by omega), m_dropN_v]
      by_cases h1 : x < N
      · rw [if_pos h1, if_pos (by omega)]
      · rw [if_neg h1, if_neg (by omega)]
theorem m_undoN_v {b : Nat} : ∀ {N : Nat} (x : Nat), m_undoN W b N 1 x = if x < N then W 3 (b + x) else W 1 x
  | 0, x => by rw [if_neg (by omega)]; rfl
  | N + 1, x => by
    have e : m_undoN W b (N + 1) = g_w2 (m_undoN W b N) 1 N (m_undoN W b N 3 (b + N)) := by unfold m_undoN; rw [k_iter]
    have e3 : m_undoN W b N 3 = W 3 := k_iter_c (fun _ _ => w2_c (by decide)) N
    rw [e, e3]
    by_cases h : x = N
    · subst h; rw [w2_at, if_pos (by omega)]
    · rw [w2_ne (by omega), m_undoN_v]
      by_cases h1 : x < N
      · rw [if_pos h1, if_pos (by omega)]
      · rw [if_neg h1, if_neg (by omega)]
theorem m_undoN_c {b N c : Nat} (h : c ≠ 1) : m_undoN W b N c = W c := k_iter_c (fun _ _ => w2_c h) N
/-- what acted leaves, when the answer is no error: sn states were saved -/
theorem m_acted_good {X : g_V} {a : Int32} {sn : Nat} (hs : X 0 3 = nI sn) (hs4 : sn ≤ 4) (hg : z_good a) : m_acted X a sn 1 = X 1 ∧ m_acted X a sn 4 = X 4 ∧ m_acted X a sn 0 5 = X 0 5 ∧ m_acted X a sn 0 3 = nI (min (sn + 1) 4) ∧ (∀ x, x < 146 → m_acted X a sn 3 (146 * (min (sn + 1) 4 - 1) + x) = X 2 x) ∧ ∀ i x, 1 ≤ i → i < min (sn + 1) 4 → x < 146 → m_acted X a sn 3 (146 * (min (sn + 1) 4 - 1 - i) + x) = X 3 (146 * (sn - 1 - (i - 1)) + x) := by
  unfold m_acted
  rw [if_pos (z_good_k hg).2]
  have key : ∀ (Y : g_V) (t : Nat), Y 0 3 = nI t → t ≤ 3 → m_push Y 1 = Y 1 ∧ m_push Y 4 = Y 4 ∧ m_push Y 0 5 = Y 0 5 ∧ m_push Y 0 3 = nI (t + 1) ∧ ∀ x, m_push Y 3 x = if 146 * t ≤ x ∧ x < 146 * t + 146 then Y 2 (x - 146 * t) else Y 3 x := by
    intro Y t ht ht3
    have e : m_push1 Y = m_pushN Y (146 * t) 146 := by unfold m_push1; rw [ht, nI_clamp (by omega)]
    unfold m_push
    rw [e]
    refine ⟨?_, ?_, ?_, ?_, fun x => ?_⟩
    · rw [w2_c (by decide), m_pushN_c (by decide)]
    · rw [w2_c (by decide), m_pushN_c (by decide)]
    · rw [w2_ne (by omega), m_pushN_c (by decide)]
    · rw [w2_at, m_pushN_c (by decide), ht]; exact nI_1 t
    · rw [w2_c (by decide), m_pushN_v]
  by_cases c : sn = 4
  · subst c
    rw [if_pos rfl]
    have e3 : m_drop X 0 3 = nI 3 := by unfold m_drop; exact w2_at
    have ec : ∀ c, c ≠ 0 → c ≠ 3 → m_drop X c = X c := fun c c0 c3 => by unfold m_drop; rw [w2_c c0, m_dropN_c c3]
    obtain ⟨a1, a2, a3, a4, a5⟩ := key (m_drop X) 3 e3 (by decide)
    refine ⟨a1.trans (ec 1 (by decide) (by decide)), a2.trans (ec 4 (by decide) (by decide)), ?_, a4, fun x hx => ?_, fun i x h1 h2 hx => ?_⟩
    · rw [a3]
      unfold m_drop
      rw [w2_ne (by omega), m_dropN_c (by decide)]
    · rw [a5, if_pos (by omega), show 146 * (min (4 + 1) 4 - 1) + x - 146 * 3 = x by omega, ec 2 (by decide) (by decide)]
    · rw [a5, if_neg (by omega)]
      unfold m_drop
      rw [w2_c (by decide), m_dropN_v, if_pos (by omega)]
      exact congrArg (X 3) (by omega)
  · rw [if_neg c]
    obtain ⟨a1, a2, a3, a4, a5⟩ := key X sn hs (by omega)
    have em : min (sn + 1) 4 = sn + 1 := by omega
    rw [em]
    refine ⟨a1, a2, a3, a4, fun x hx => ?_, fun i x h1 h2 hx => ?_⟩
    · rw [a5, if_pos (by omega), show 146 * (sn + 1 - 1) + x - 146 * sn = x by omega]
    · rw [a5, if_neg (by omega)]
      exact congrArg (X 3) (by omega)
theorem m_acted_err {X : g_V} {a : Int32} {sn : Nat} (he : z_err a) : m_acted X a sn = m_returns X := by
  unfold m_acted
  rw [if_neg (z_err_k he).2]
end XC
