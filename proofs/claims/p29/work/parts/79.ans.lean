/-! ===== what the acts answer, in the words of the row before ===== -/
theorem u_in {x a b : Int32} (h1 : a.toInt ≤ x.toInt) (h2 : x.toInt ≤ b.toInt) : m_in x a b := ⟨by rw [Int32.lt_iff_toInt_lt]; omega, by rw [Int32.lt_iff_toInt_lt]; omega⟩
theorem u_ne {w : Int32} (j : Nat) (hj : j < 1000) (h : ¬ w = nI j) : w.toInt ≠ j := z_eqn hj h
theorem u_nin {x a b : Int32} (h : x.toInt < a.toInt ∨ b.toInt < x.toInt) : ¬ m_in x a b := fun z => by
  have := z_rg z
  omega
theorem u_n16 {n : Nat} (h : n ≤ 16) (c : ¬ nI n = 16) : n < 16 := by
  rcases Nat.lt_or_ge n 16 with h1 | h1
  · exact h1
  · exact absurd (show nI n = 16 by rw [show n = 16 by omega]; rfl) c
section UE
variable {V W : g_V} {n : Nat} {mb lo hi : Int} {k : Nat} {x y z : Int32}
theorem u_loan_no (h : z_R V (W 1) n mb lo hi) (hk : k < n) : u_loan W k = -2000000004 ↔ ¬ m_pledged W k := by
  unfold u_loan
  by_cases c : m_pledged W k
  · rw [if_pos c]
    refine ⟨fun e => ?_, fun e => absurd c e⟩
    obtain ⟨g, hL, h1, h2, h3⟩ := h
    obtain ⟨-, -, -, -, h5, -⟩ := h1.row hk
    rw [e] at h5
    exact absurd h5.1 (by decide)
  · rw [if_neg c]
    exact ⟨fun _ => c, fun _ => rfl⟩
theorem u_loan_is (c : ¬ u_loan W k = -2000000004) : m_pledged W k ∧ u_loan W k = W 1 (34 + 7 * k + 5) := by
  by_cases d : m_pledged W k
  · exact ⟨d, if_pos d⟩
  · exact absurd (if_neg d) c
theorem E_store (h : z_R V (W 1) n mb lo hi) (h1 : 0 ≤ x.toInt ∧ x.toInt < 6) (h2 : 0 ≤ y.toInt ∧ y.toInt < 4) (h3 : 0 ≤ z.toInt ∧ z.toInt < 700) : (m_stores (m_begins W) x y z n).1 = if x = 5 ∨ y = 3 ∨ z = 0 then -2000000001 else if q_tellGrade V y 4 < z ∨ nI n = 16 then -2000000003 else W 1 2 := by
  have hb := x_beg h
  have e1 : m_begins W 1 = W 1 := m_begins_c (by decide)
  rw [← e1]
  generalize m_begins W = U at hb ⊢
  obtain ⟨g, hL, a1, a2, a3⟩ := hb
  unfold m_stores
  by_cases c1 : x = 5
  · rw [if_neg (u_nin (Or.inr (by rw [c1]; decide))), if_pos (Or.inl c1)]
  have d1 := u_ne 5 (by decide) c1
  rw [if_pos (u_in (a := 0) (b := 4) h1.1 (by show x.toInt ≤ 4; omega))]
  by_cases c2 : y = 3
  · rw [if_neg (u_nin (Or.inr (by rw [c2]; decide))), if_pos (Or.inr (Or.inl c2))]
  have d2 := u_ne 3 (by decide) c2
  rw [if_pos (u_in (a := 0) (b := 2) h2.1 (by show y.toInt ≤ 2; omega))]
  by_cases c3 : z = 0
  · rw [if_neg (u_nin (Or.inl (by rw [c3]; decide))), if_pos (Or.inr (Or.inr c3))]
  have d3 := u_ne 0 (by decide) c3
  rw [if_pos (u_in (a := 1) (b := 4000) (by show 1 ≤ z.toInt; omega) (by show z.toInt ≤ 4000; omega)), if_neg (show ¬ (x = 5 ∨ y = 3 ∨ z = 0) from fun q => by rcases q with q | q | q; exact c1 q; exact c2 q; exact c3 q)]
  have er : q_tellGrade V y 4 = m_room U y := by
    unfold q_tellGrade
    rw [if_pos (z_in3.mp (u_in (a := 0) (b := 2) h2.1 (by show y.toInt ≤ 2; omega)))]
    exact z_roomIn hL
  rw [er]
  by_cases c4 : m_room U y < z
  · rw [if_pos c4, if_pos (Or.inl c4)]
  rw [if_neg c4]
  by_cases c5 : nI n = 16
  · rw [if_pos c5, if_pos (Or.inr c5)]
  rw [if_neg c5, if_neg (show ¬ (m_room U y < z ∨ nI n = 16) from fun q => by rcases q with q | q; exact c4 q; exact c5 q)]
  obtain ⟨f3, -, -⟩ := y_fill5 a1.bins (x := y) (a := z) (by omega) (Int32.le_iff_toInt_le.mp (z_lt.mp c4))
  dsimp only
  generalize (k_iter (m_fillStep y) (U, z) 5).1 = F at f3 ⊢
  rw [m_makes_r (j := 0) (by decide)]
  exact f3 2 (fun ⟨b, hb, e⟩ => by omega)
theorem E_new {U : g_V} {a b x : Int32} {n : Nat} : m_makes U a b x n 1 (34 + 7 * n + 0) = U 1 2 := (m_makes_r (j := 0) (by decide)).trans (if_pos rfl)
theorem E_splitA {U : g_V} (hp : m_place U y n = some k) (hk : k < n) (c1 : 1 ≤ x) (c2 : x < U 1 (34 + 7 * k + 3)) (c3 : ¬ nI n = 16) : (m_splits U y x n).1 = U 1 2 := by
  unfold m_splits
  rw [hp]
  dsimp only
  rw [if_pos c1, if_pos c2, if_neg c3]
  generalize hM : m_makes U (U 1 (34 + 7 * k + 1)) (U 1 (34 + 7 * k + 2)) x n = Mk
  have e0 : Mk 1 (34 + 7 * n + 0) = U 1 2 := hM ▸ E_new
  clear hM
  split
  · dsimp only
    rw [w2_ne (by omega)]
    exact e0
  · dsimp only
    rw [w2_ne (by omega), w2_ne (by omega), w2_ne (by omega), w2_ne (by omega)]
    exact e0
theorem E_split (h : z_R V (W 1) n mb lo hi) (hk : k < n) (h1 : 0 ≤ x.toInt) : (m_splits (m_begins W) (W 1 (34 + 7 * k)) x n).1 = if x = 0 then -2000000001 else if x < W 1 (34 + 7 * k + 3) then (if nI n = 16 then -2000000003 else W 1 2) else -2000000002 := by
  have hb := x_beg h
  have e1 : m_begins W 1 = W 1 := m_begins_c (by decide)
  rw [← e1]
  generalize m_begins W = U at hb ⊢
  obtain ⟨g, hL, a1, a2, a3⟩ := hb
  have hp := u_place a2 hk
  by_cases c1 : x = 0
  · rw [if_pos c1]
    unfold m_splits
    rw [hp]
    dsimp only
    rw [if_neg (show ¬ (1 : Int32) ≤ x by rw [c1]; decide)]
  have d1 := u_ne 0 (by decide) c1
  have c1' : (1 : Int32) ≤ x := by rw [Int32.le_iff_toInt_le, z_i1]; omega
  rw [if_neg c1]
  by_cases c2 : x < U 1 (34 + 7 * k + 3)
  · rw [if_pos c2]
    by_cases c3 : nI n = 16
    · rw [if_pos c3]
      unfold m_splits
      rw [hp]
      dsimp only
      rw [if_pos c1', if_pos c2, if_pos c3]
    · rw [if_neg c3]
      exact E_splitA hp hk c1' c2 c3
  · rw [if_neg c2]
    unfold m_splits
    rw [hp]
    dsimp only
    rw [if_pos c1', if_neg c2]
theorem E_split0 (h : m_place W x n = none) : (m_splits (m_begins W) x y n).1 = -2000000001 := by
  have e1 : m_begins W 1 = W 1 := m_begins_c (by decide)
  have e : m_place (m_begins W) x n = none := by unfold m_place; rw [e1]; exact h
  unfold m_splits
  rw [e]
theorem E_join (h : z_R V (W 1) n mb lo hi) (hk : k < n) {i : Nat} (hi' : i < n) : (m_joins (m_begins W) (W 1 (34 + 7 * k)) (W 1 (34 + 7 * i)) n).1 = if W 1 (34 + 7 * k) = W 1 (34 + 7 * i) then -2000000001 else if W 1 (34 + 7 * k + 1) = W 1 (34 + 7 * i + 1) then (if W 1 (34 + 7 * k + 2) = W 1 (34 + 7 * i + 2) then (if u_loan W k = -2000000004 then (if u_loan W i = -2000000004 then W 1 (34 + 7 * k + 3) + W 1 (34 + 7 * i + 3) else -2000000002) else -2000000002) else -2000000002) else -2000000002 := by
  have hb := x_beg h
  have e1 : m_begins W 1 = W 1 := m_begins_c (by decide)
  have el : ∀ j, u_loan W j = u_loan (m_begins W) j := fun j => by unfold u_loan m_pledged; rw [e1]
  rw [el k, el i, ← e1]
  generalize m_begins W = U at hb ⊢
  have hn : ∀ j, j < n → (u_loan U j = -2000000004 ↔ ¬ m_pledged U j) := fun j hj => u_loan_no hb hj
  obtain ⟨g, hL, a1, a2, a3⟩ := hb
  have := a1.n16
  unfold m_joins
  rw [u_place a2 hk, u_place a2 hi']
  dsimp only
  by_cases c1 : k = i
  · subst c1
    rw [if_pos rfl, if_pos rfl]
  rw [if_neg (fun z => c1 ((nI_eq (by omega) (by omega)).mp z)), if_neg (fun z => c1 (a2.eq hk hi' z))]
  by_cases c2 : U 1 (34 + 7 * k + 1) = U 1 (34 + 7 * i + 1)
  · rw [if_pos c2, if_pos c2]
    by_cases c3 : U 1 (34 + 7 * k + 2) = U 1 (34 + 7 * i + 2)
    · rw [if_pos c3, if_pos c3]
      by_cases c4 : m_pledged U k
      · rw [if_pos c4, if_neg (fun z => (hn k hk).mp z c4)]
      · rw [if_neg c4, if_pos ((hn k hk).mpr c4)]
        by_cases c5 : m_pledged U i
        · rw [if_pos c5, if_neg (fun z => (hn i hi').mp z c5)]
        · rw [if_neg c5, if_pos ((hn i hi').mpr c5)]
    · rw [if_neg c3, if_neg c3]
  · rw [if_neg c2, if_neg c2]
theorem E_join0 (h : m_place W x n = none ∨ m_place W y n = none) : (m_joins (m_begins W) x y n).1 = -2000000001 := by
  have e1 : m_begins W 1 = W 1 := m_begins_c (by decide)
  have e : ∀ x, m_place (m_begins W) x n = m_place W x n := fun x => by unfold m_place; rw [e1]
  unfold m_joins
  rw [e, e]
  rcases h with h | h
  · rw [h]
    dsimp only
    split <;> rfl
  · rw [h]
    split <;> rfl
theorem E_hand (h : z_R V (W 1) n mb lo hi) (hk : k < n) (h1 : 0 ≤ x.toInt ∧ x.toInt < 9) : (m_hands (m_begins W) (W 1 (34 + 7 * k)) x n).1 = if x = 8 then -2000000001 else if x = W 1 (34 + 7 * k + 1) then -2000000002 else if u_loan W k = -2000000004 then W 1 (34 + 7 * k + 1) else -2000000002 := by
  have hb := x_beg h
  have e1 : m_begins W 1 = W 1 := m_begins_c (by decide)
  have el : ∀ j, u_loan W j = u_loan (m_begins W) j := fun j => by unfold u_loan m_pledged; rw [e1]
  rw [el k, ← e1]
  generalize m_begins W = U at hb ⊢
  have hn := u_loan_no hb hk
  obtain ⟨g, hL, a1, a2, a3⟩ := hb
  unfold m_hands
  rw [u_place a2 hk]
  dsimp only
  by_cases c1 : x = 8
  · rw [if_neg (u_nin (Or.inr (by rw [c1]; decide))), if_pos c1]
  have d1 := u_ne 8 (by decide) c1
  rw [if_pos (u_in (a := 0) (b := 7) h1.1 (by show x.toInt ≤ 7; omega)), if_neg c1]
  by_cases c2 : x = U 1 (34 + 7 * k + 1)
  · rw [if_pos c2.symm, if_pos c2]
  rw [if_neg (fun z => c2 z.symm), if_neg c2]
  by_cases c4 : m_pledged U k
  · rw [if_pos c4, if_neg (fun z => hn.mp z c4)]
  · rw [if_neg c4, if_pos (hn.mpr c4)]
theorem E_hand0 (h : m_place W x n = none) : (m_hands (m_begins W) x y n).1 = -2000000001 := by
  have e1 : m_begins W 1 = W 1 := m_begins_c (by decide)
  have e : m_place (m_begins W) x n = none := by unfold m_place; rw [e1]; exact h
  unfold m_hands
  rw [e]
theorem E_deliver0 (h : m_place W x n = none) : (m_delivers (m_begins W) x n).1 = -2000000001 := by
  have e1 : m_begins W 1 = W 1 := m_begins_c (by decide)
  have e : m_place (m_begins W) x n = none := by unfold m_place; rw [e1]; exact h
  unfold m_delivers
  rw [e]
theorem E_pledge0 (h : m_place W x n = none) : (m_pledges (m_begins W) x y z n).1 = -2000000001 := by
  have e1 : m_begins W 1 = W 1 := m_begins_c (by decide)
  have e : m_place (m_begins W) x n = none := by unfold m_place; rw [e1]; exact h
  unfold m_pledges
  rw [e]
theorem E_repay0 (h : m_place W x n = none) : (m_repays (m_begins W) x y n).1 = -2000000001 := by
  have e1 : m_begins W 1 = W 1 := m_begins_c (by decide)
  have e : m_place (m_begins W) x n = none := by unfold m_place; rw [e1]; exact h
  unfold m_repays
  rw [e]
theorem E_pledge (h : z_R V (W 1) n mb lo hi) (hk : k < n) (h1 : 0 ≤ x.toInt ∧ x.toInt < 4) (h2 : 0 ≤ y.toInt) : (m_pledges (m_begins W) (W 1 (34 + 7 * k)) x y n).1 = if x = 3 then -2000000001 else if y = 0 then -2000000001 else if u_loan W k = -2000000004 then (if W 1 (34 + 7 * k + 1) = 5 + x then -2000000002 else if y ≤ m_share W k 0 then q_tellOwner V (W 1 (34 + 7 * k + 1)) 0 + y else -2000000002) else -2000000002 := by
  have hb := x_beg h
  have e1 : m_begins W 1 = W 1 := m_begins_c (by decide)
  have el : ∀ j, u_loan W j = u_loan (m_begins W) j := fun j => by unfold u_loan m_pledged; rw [e1]
  have es : ∀ j, m_share W k j = m_share (m_begins W) k j := fun j => by unfold m_share m_worth; rw [e1]
  rw [el k, es, ← e1]
  generalize m_begins W = U at hb ⊢
  have hn := u_loan_no hb hk
  obtain ⟨g, hL, a1, a2, a3⟩ := hb
  unfold m_pledges
  rw [u_place a2 hk]
  dsimp only
  by_cases c1 : x = 3
  · rw [if_neg (u_nin (Or.inr (by rw [c1]; decide))), if_pos c1]
  have d1 := u_ne 3 (by decide) c1
  rw [if_pos (u_in (a := 0) (b := 2) h1.1 (by show x.toInt ≤ 2; omega)), if_neg c1]
  by_cases c2 : y = 0
  · rw [if_neg (by rw [c2]; decide), if_pos c2]
  have d2 := u_ne 0 (by decide) c2
  rw [if_pos (show (1 : Int32) ≤ y by rw [Int32.le_iff_toInt_le, z_i1]; omega), if_neg c2]
  by_cases c4 : m_pledged U k
  · rw [if_pos c4, if_neg (fun z => hn.mp z c4)]
  · rw [if_neg c4, if_pos (hn.mpr c4)]
    by_cases c5 : U 1 (34 + 7 * k + 1) = 5 + x
    · rw [if_pos c5, if_pos c5]
    · rw [if_neg c5, if_neg c5]
      by_cases c6 : y ≤ m_share U k 0
      · rw [if_pos c6, if_pos c6]
        dsimp only
        obtain ⟨hr1, -⟩ := a1.row hk
        obtain ⟨j, hj, ej⟩ := z_lo (N := 8) hr1.1 (by omega)
        rw [ej, nI_clamp (by omega), w2_at, w2_ne (by omega), w2_ne (by omega)]
        have e2 : q_tellOwner V (nI j) 0 = V 5 j := by
          unfold q_tellOwner
          rw [if_pos (show k_in (nI j) 8 from ⟨nI_pos (by omega), nI_ge (a := j) (b := 8) hj (by decide)⟩), if_pos rfl, nI_clamp (by omega)]
        rw [e2, hL.mo hj]
      · rw [if_neg c6, if_neg c6]
theorem E_repay (h : z_R V (W 1) n mb lo hi) (hk : k < n) (h2 : 0 ≤ y.toInt) : (m_repays (m_begins W) (W 1 (34 + 7 * k)) y n).1 = if y = 0 then -2000000001 else if u_loan W k = -2000000004 then -2000000002 else if y ≤ u_loan W k then u_loan W k - y else -2000000002 := by
  have hb := x_beg h
  have e1 : m_begins W 1 = W 1 := m_begins_c (by decide)
  have el : ∀ j, u_loan W j = u_loan (m_begins W) j := fun j => by unfold u_loan m_pledged; rw [e1]
  rw [el k, ← e1]
  generalize m_begins W = U at hb ⊢
  have hn := u_loan_no hb hk
  obtain ⟨g, hL, a1, a2, a3⟩ := hb
  unfold m_repays
  rw [u_place a2 hk]
  dsimp only
  by_cases c2 : y = 0
  · rw [if_neg (by rw [c2]; decide), if_pos c2]
  have d2 := u_ne 0 (by decide) c2
  rw [if_pos (show (1 : Int32) ≤ y by rw [Int32.le_iff_toInt_le, z_i1]; omega), if_neg c2]
  by_cases c4 : m_pledged U k
  · have e5 : u_loan U k = U 1 (34 + 7 * k + 5) := if_pos c4
    rw [if_pos c4, if_neg (fun z => hn.mp z c4), e5]
    by_cases c5 : y ≤ U 1 (34 + 7 * k + 5)
    · rw [if_pos c5, if_pos c5]
      split
      · rfl
      · split <;> rfl
    · rw [if_neg c5, if_neg c5]
  · rw [if_neg c4, if_pos (hn.mpr c4)]
theorem E_price (h : z_R V (W 1) n mb lo hi) (h1 : 0 ≤ x.toInt ∧ x.toInt < 4) (h2 : 0 ≤ y.toInt ∧ y.toInt < 40) : (m_prices (m_begins W) x y).1 = if x = 3 then -2000000001 else if y = 0 then -2000000001 else q_tellGrade V x 0 := by
  have hb := x_beg h
  generalize m_begins W = U at hb ⊢
  obtain ⟨g, hL, a1, a2, a3⟩ := hb
  unfold m_prices
  by_cases c1 : x = 3
  · rw [if_neg (u_nin (Or.inr (by rw [c1]; decide))), if_pos c1]
  have d1 := u_ne 3 (by decide) c1
  have hx : m_in x 0 2 := u_in (a := 0) (b := 2) h1.1 (by show x.toInt ≤ 2; omega)
  rw [if_pos hx, if_neg c1]
  by_cases c2 : y = 0
  · rw [if_neg (u_nin (Or.inl (by rw [c2]; decide))), if_pos c2]
  have d2 := u_ne 0 (by decide) c2
  rw [if_pos (u_in (a := 1) (b := 99) (by show 1 ≤ y.toInt; omega) (by show y.toInt ≤ 99; omega)), if_neg c2]
  obtain ⟨hj, -, -⟩ := z_cl (z_in3.mp hx) (N := 3) rfl
  unfold q_tellGrade
  rw [if_pos (z_in3.mp hx), if_pos rfl]
  exact (hL.pr hj).symm
theorem E_lose (h : z_R V (W 1) n mb lo hi) (h1 : 0 ≤ x.toInt ∧ x.toInt < 6) (h2 : 0 ≤ y.toInt) : (m_loses (m_begins W) x y n).1 = if x = 5 then -2000000001 else if y = 0 then -2000000001 else if y ≤ q_tellBin V x 2 then q_tellBin V x 1 - y else -2000000002 := by
  rw [← (s_lose (x_beg h)).1]
  unfold q_lose
  by_cases c1 : x = 5
  · rw [if_neg (fun z => u_nin (x := x) (a := 0) (b := 4) (Or.inr (by rw [c1]; decide)) (z_in5.mpr z)), if_pos c1]
  have d1 := u_ne 5 (by decide) c1
  have hx : m_in x 0 4 := u_in (a := 0) (b := 4) h1.1 (by show x.toInt ≤ 4; omega)
  rw [if_pos (z_in5.mp hx), if_neg c1]
  by_cases c2 : y = 0
  · rw [if_neg (by rw [c2]; decide), if_pos c2]
  have d2 := u_ne 0 (by decide) c2
  rw [if_pos (show (1 : Int32) ≤ y by rw [Int32.le_iff_toInt_le, z_i1]; omega), if_neg c2]
  have e2 : q_tellBin V x 2 = q_loss V (x.toNatClampNeg) ((V (7 + (x.toNatClampNeg)) 0).toNatClampNeg) 3 := by
    unfold q_tellBin
    rw [if_pos (z_in5.mp hx)]
    rfl
  have e1 : q_tellBin V x 1 = V (7 + (x.toNatClampNeg)) 1 := by
    unfold q_tellBin
    rw [if_pos (z_in5.mp hx)]
    rfl
  rw [e1, e2]
  by_cases c3 : y ≤ q_loss V (x.toNatClampNeg) ((V (7 + (x.toNatClampNeg)) 0).toNatClampNeg) 3
  · rw [if_pos c3, if_pos c3]
    dsimp only
    rw [w2_ne (by omega), w2_at]
  · rw [if_neg c3, if_neg c3]
end UE
