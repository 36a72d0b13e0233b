/-! ===== every act of the face ===== -/
section XF
variable {P : g_P} {M : g_M} {V S G W W' : g_V} {mb lo hi mb' lo' hi' : Int} {n sn : Nat}
theorem z_Rel.get (h : z_Rel P M mb lo hi) : ∃ n sn, z_R (M (P 0)) (M 7 1) n mb lo hi ∧ M 7 0 3 = nI sn ∧ sn ≤ 4 := by
  obtain ⟨hP, hT, s, a, b, c, ⟨n, d⟩, e⟩ := h
  exact ⟨n, s, d, b, c⟩
theorem z_Rel.mono (h : z_Rel P M mb lo hi) (h1 : mb ≤ mb') (h2 : lo' ≤ lo) (h3 : hi ≤ hi') : z_Rel P M mb' lo' hi' := by
  obtain ⟨hP, hT, s, a, b, c, ⟨n, d⟩, e⟩ := h
  refine ⟨hP, hT, s, a, b, c, ⟨n, d.mono h1 h2 h3⟩, fun i hi => ?_⟩
  obtain ⟨n', f⟩ := e i hi
  exact ⟨n', f.mono h1 h2 h3⟩
theorem z_S.mono {A B : Int32 × g_V} (h : z_S V W A B mb lo hi) (h1 : mb ≤ mb') (h2 : lo' ≤ lo) (h3 : hi ≤ hi') : z_S V W A B mb' lo' hi' := by
  obtain ⟨e, h⟩ := h
  refine ⟨e, ?_⟩
  rcases h with h | ⟨a, n, b⟩
  · exact Or.inl h
  · exact Or.inr ⟨a, n, b.mono h1 h2 h3⟩
def x_fc (R B : Int32 × g_V) (W : g_V) (sn : Nat) : Prop := (z_err B.1 ∧ R.1 = B.1 ∧ x_same W R.2) ∨ R = (B.1, m_acted B.2 B.1 sn)
theorem f_act {A B R : Int32 × g_V} (h : z_Rel P M mb lo hi) (hV : M (P 0) = V) (hS : M (P 1) = S) (hG : M 6 = G) (hW : M 7 = W) (hsn : W 0 3 = nI sn ∧ sn ≤ 4) (hsim : z_S V (m_begins W) A B mb' lo' hi') (hmb : mb ≤ mb') (hlo : lo' ≤ lo) (hhi : hi ≤ hi') (hk : ∀ c, c ≠ 1 → B.2 c = m_begins W c) (hf : x_fc R B W sn) :
    A.1 = R.1 ∧ z_Rel (q_recdP A.1 P) (va_up (va_up (va_up (va_up M (P 1) (q_copy S V)) (P 0) A.2) 6 (q_recdG A.1 G)) 7 R.2) mb' lo' hi' := by
  have e1 : R.1 = B.1 := by
    rcases hf with h | h
    · exact h.2.1
    · rw [h]
  refine ⟨hsim.1.trans e1.symm, z_act (B := B) (sn := sn) h hV hS hG hW hsn hsim hmb hlo hhi hk ?_⟩
  rcases hsim.2 with ⟨h1, -, -⟩ | ⟨h1, -⟩
  · refine Or.inl ⟨h1, ?_⟩
    rcases hf with h | h
    · exact h.2.2
    · rw [h]
      dsimp only
      rw [m_acted_err h1]
      exact x_same.ret hk
  · refine Or.inr ⟨h1, ?_⟩
    rcases hf with h | h
    · exact absurd (z_good_k h1).2 (z_err_k h.1).2
    · rw [h]
theorem x_beg {n : Nat} (h : z_R V (W 1) n mb lo hi) : z_R V (m_begins W 1) n mb lo hi := by
  rw [m_begins_c (by decide)]
  exact h
theorem fc_hand {x o : Int32} : x_fc (m_hand W x o sn n) (m_hands (m_begins W) x o n) W sn := by
  unfold m_hand m_hands x_fc
  cases m_place (m_begins W) x n with
  | none => exact Or.inl ⟨Or.inl rfl, rfl, x_same.beg⟩
  | some k =>
    dsimp only
    by_cases c1 : m_in o 0 7
    · rw [if_pos c1, if_pos c1]
      by_cases c2 : m_begins W 1 (34 + 7 * k + 1) = o
      · rw [if_pos c2, if_pos c2]; exact Or.inl ⟨Or.inr (Or.inl rfl), rfl, x_same.beg⟩
      · rw [if_neg c2, if_neg c2]
        by_cases c3 : m_pledged (m_begins W) k
        · rw [if_pos c3, if_pos c3]; exact Or.inl ⟨Or.inr (Or.inl rfl), rfl, x_same.beg⟩
        · rw [if_neg c3, if_neg c3]; exact Or.inr (by dsimp only)
    · rw [if_neg c1, if_neg c1]; exact Or.inl ⟨Or.inl rfl, rfl, x_same.beg⟩
theorem fc_lose {bn a : Int32} : x_fc (m_lose W bn a sn n) (m_loses (m_begins W) bn a n) W sn := by
  unfold m_lose m_loses x_fc
  by_cases c1 : m_in bn 0 4
  · rw [if_pos c1, if_pos c1]
    by_cases c2 : 1 ≤ a
    · rw [if_pos c2, if_pos c2]
      by_cases c3 : a ≤ m_begins W 1 (24 + 2 * bn.toNatClampNeg + 1)
      · rw [if_pos c3, if_pos c3]
        have e : m_lost (m_begins W) bn.toNatClampNeg a = g_w2 (m_moves (m_begins W) bn.toNatClampNeg (-a)) 1 5 ((m_moves (m_begins W) bn.toNatClampNeg (-a)) 1 5 + a) := rfl
        rw [← e]
        by_cases c4 : m_covered (m_lost (m_begins W) bn.toNatClampNeg a) n
        · rw [if_pos c4, if_pos c4]; exact Or.inr rfl
        · rw [if_neg c4, if_neg c4]
          refine Or.inl ⟨Or.inr (Or.inl rfl), rfl, ?_⟩
          dsimp only
          rw [m_acted_err (Or.inr (Or.inl rfl))]
          exact x_same.ret (fun c hc => by unfold m_lost m_moves; rw [w2_c hc, w2_c hc])
      · rw [if_neg c3, if_neg c3]; exact Or.inl ⟨Or.inr (Or.inl rfl), rfl, x_same.beg⟩
    · rw [if_neg c2, if_neg c2]; exact Or.inl ⟨Or.inl rfl, rfl, x_same.beg⟩
  · rw [if_neg c1, if_neg c1]; exact Or.inl ⟨Or.inl rfl, rfl, x_same.beg⟩
theorem fc_regrade {bn x : Int32} : x_fc (m_regrade W bn x sn n) (m_regrades (m_begins W) bn x n) W sn := by
  unfold m_regrade m_regrades x_fc
  by_cases c1 : m_in bn 0 4
  · rw [if_pos c1, if_pos c1]
    by_cases c2 : m_in x 0 2
    · rw [if_pos c2, if_pos c2]
      have hin : ∀ R : Int32 × g_V, R = (if m_covered (g_w2 (m_begins W) 1 (24 + 2 * bn.toNatClampNeg) x) n then (m_begins W 1 (24 + 2 * bn.toNatClampNeg), m_acted (g_w2 (m_begins W) 1 (24 + 2 * bn.toNatClampNeg) x) (m_begins W 1 (24 + 2 * bn.toNatClampNeg)) sn) else (-2000000002, m_acted (g_w2 (m_begins W) 1 (24 + 2 * bn.toNatClampNeg) x) (-2000000002) sn)) → (z_err (if m_covered (g_w2 (m_begins W) 1 (24 + 2 * bn.toNatClampNeg) x) n then (m_begins W 1 (24 + 2 * bn.toNatClampNeg), g_w2 (m_begins W) 1 (24 + 2 * bn.toNatClampNeg) x) else (-2000000002, m_begins W)).1 ∧ R.1 = (if m_covered (g_w2 (m_begins W) 1 (24 + 2 * bn.toNatClampNeg) x) n then (m_begins W 1 (24 + 2 * bn.toNatClampNeg), g_w2 (m_begins W) 1 (24 + 2 * bn.toNatClampNeg) x) else (-2000000002, m_begins W)).1 ∧ x_same W R.2) ∨ R = ((if m_covered (g_w2 (m_begins W) 1 (24 + 2 * bn.toNatClampNeg) x) n then (m_begins W 1 (24 + 2 * bn.toNatClampNeg), g_w2 (m_begins W) 1 (24 + 2 * bn.toNatClampNeg) x) else (-2000000002, m_begins W)).1, m_acted (if m_covered (g_w2 (m_begins W) 1 (24 + 2 * bn.toNatClampNeg) x) n then (m_begins W 1 (24 + 2 * bn.toNatClampNeg), g_w2 (m_begins W) 1 (24 + 2 * bn.toNatClampNeg) x) else (-2000000002, m_begins W)).2 (if m_covered (g_w2 (m_begins W) 1 (24 + 2 * bn.toNatClampNeg) x) n then (m_begins W 1 (24 + 2 * bn.toNatClampNeg), g_w2 (m_begins W) 1 (24 + 2 * bn.toNatClampNeg) x) else (-2000000002, m_begins W)).1 sn) := by
        intro R hR
        by_cases c4 : m_covered (g_w2 (m_begins W) 1 (24 + 2 * bn.toNatClampNeg) x) n
        · rw [if_pos c4] at hR
          simp only [if_pos c4]
          exact Or.inr hR
        · rw [if_neg c4] at hR
          simp only [if_neg c4]
          refine Or.inl ⟨Or.inr (Or.inl rfl), by rw [hR], ?_⟩
          rw [hR]
          dsimp only
          rw [m_acted_err (Or.inr (Or.inl rfl))]
          exact x_same.ret (fun c hc => w2_c hc)
      by_cases c3 : m_begins W 1 (24 + 2 * bn.toNatClampNeg) ≤ x
      · rw [if_pos c3, if_pos (Or.inl c3)]
        exact hin _ rfl
      · rw [if_neg c3]
        by_cases c4 : m_begins W 1 (24 + 2 * bn.toNatClampNeg + 1) ≤ 0
        · rw [if_pos c4, if_pos (Or.inr c4)]
          exact hin _ rfl
        · rw [if_neg c4, if_neg (fun z => by rcases z with z | z; exact c3 z; exact c4 z)]
          exact Or.inl ⟨Or.inr (Or.inl rfl), rfl, x_same.beg⟩
    · rw [if_neg c2, if_neg c2]; exact Or.inl ⟨Or.inl rfl, rfl, x_same.beg⟩
  · rw [if_neg c1, if_neg c1]; exact Or.inl ⟨Or.inl rfl, rfl, x_same.beg⟩
theorem fc_one {x v a b : Int32} (hx : k_in x 4) (ha : g_least x.toNatClampNeg = a) (hb : g_great x.toNatClampNeg = b) (R : Int32 × g_V) (hR : R = if m_in x 0 3 then (if m_in v a b then (m_begins W 1 (6 + x.toNatClampNeg), m_acted (g_w2 (m_begins W) 1 (6 + x.toNatClampNeg) v) (m_begins W 1 (6 + x.toNatClampNeg)) sn) else (-2000000001, m_begins W)) else (-2000000001, m_begins W)) : x_fc R (m_sets (m_begins W) x v) W sn := by
  unfold m_sets
  rw [if_pos hx, ha, hb]
  rw [if_pos (z_in4.mpr hx)] at hR
  by_cases c : v < a
  · rw [if_neg (fun z => z.1 c)] at hR
    rw [if_pos c, hR]
    exact Or.inl ⟨Or.inl rfl, rfl, x_same.beg⟩
  · rw [if_neg c]
    by_cases d : v ≤ b
    · rw [if_pos ⟨c, z_lt.mpr d⟩] at hR
      rw [if_pos d, hR]
      exact Or.inr (by dsimp only)
    · rw [if_neg (fun z => z.2 (z_le.mp d))] at hR
      rw [if_neg d, hR]
      exact Or.inl ⟨Or.inl rfl, rfl, x_same.beg⟩
theorem fc_set {x v : Int32} : x_fc (m_set W x v sn) (m_sets (m_begins W) x v) W sn := by
  by_cases c0 : x = 0
  · subst c0
    refine fc_one (a := 10) (b := 100) (by decide) (by decide) (by decide) _ ?_
    unfold m_set
    rw [if_neg (show ¬ (0 : Int32) = 2 by decide), if_neg (show ¬ (0 : Int32) = 3 by decide), if_pos (show (0 : Int32) = 0 from rfl)]
  by_cases c1 : x = 1
  · subst c1
    refine fc_one (a := 10) (b := 150) (by decide) (by decide) (by decide) _ ?_
    unfold m_set
    rw [if_neg (show ¬ (1 : Int32) = 2 by decide), if_neg (show ¬ (1 : Int32) = 3 by decide), if_neg (show ¬ (1 : Int32) = 0 by decide), if_pos (show (1 : Int32) = 1 from rfl)]
  by_cases c2 : x = 2
  · subst c2
    refine fc_one (a := 1) (b := 30) (by decide) (by decide) (by decide) _ ?_
    unfold m_set
    rw [if_pos (show (2 : Int32) = 2 from rfl), if_neg (show ¬ (2 : Int32) = 0 by decide), if_neg (show ¬ (2 : Int32) = 1 by decide), if_pos (show (2 : Int32) = 2 from rfl)]
  by_cases c3 : x = 3
  · subst c3
    refine fc_one (a := 0) (b := 20) (by decide) (by decide) (by decide) _ ?_
    unfold m_set
    rw [if_neg (show ¬ (3 : Int32) = 2 by decide), if_pos (show (3 : Int32) = 3 from rfl), if_neg (show ¬ (3 : Int32) = 0 by decide), if_neg (show ¬ (3 : Int32) = 1 by decide), if_neg (show ¬ (3 : Int32) = 2 by decide)]
  have hn : ¬ m_in x 0 3 := fun z => by
    have hz : 0 ≤ x.toInt ∧ x.toInt ≤ 3 := z_rg z
    have := z_eqn (j := 0) (by decide) c0
    have := z_eqn (j := 1) (by decide) c1
    have := z_eqn (j := 2) (by decide) c2
    have := z_eqn (j := 3) (by decide) c3
    omega
  have e1 : m_set W x v sn = (-2000000001, m_begins W) := by
    unfold m_set
    rw [if_neg c2, if_neg c3, if_neg c0, if_neg c1, if_neg c2, if_neg hn]
  have e2 : m_sets (m_begins W) x v = (-2000000001, m_begins W) := by
    unfold m_sets
    rw [if_neg (fun z => hn (z_in4.mpr z))]
  rw [e1, e2]
  exact Or.inl ⟨Or.inl rfl, rfl, x_same.beg⟩
theorem hk_hand {x o : Int32} : ∀ c, c ≠ 1 → (m_hands W x o n).2 c = W c := fun c hc => by
  unfold m_hands
  repeat' split
  all_goals first | rfl | (dsimp only; rw [w2_c hc])
theorem hk_lose {x o : Int32} : ∀ c, c ≠ 1 → (m_loses W x o n).2 c = W c := fun c hc => by
  unfold m_loses m_lost m_moves
  repeat' split
  all_goals first | rfl | (dsimp only; rw [w2_c hc, w2_c hc])
theorem hk_regrade {x o : Int32} : ∀ c, c ≠ 1 → (m_regrades W x o n).2 c = W c := fun c hc => by
  unfold m_regrades
  repeat' split
  all_goals first | rfl | (dsimp only; rw [w2_c hc])
theorem hk_set {x o : Int32} : ∀ c, c ≠ 1 → (m_sets W x o).2 c = W c := fun c hc => by
  unfold m_sets
  repeat' split
  all_goals first | rfl | (dsimp only; rw [w2_c hc])
end XF
