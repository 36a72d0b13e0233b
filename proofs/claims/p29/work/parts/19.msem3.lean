/-! ===== the reference: history, and what it tells ===== -/
theorem w2_c {V : g_V} {k : Nat} {x : Int32} {c c' : Nat} (h : c' ≠ c) : g_w2 V c k x c' = V c' := va_up_ne V _ h
theorem k_iter_c {f : Nat → g_V → g_V} {V : g_V} {c : Nat} (h : ∀ k W, f k W c = W c) : ∀ n, k_iter f V n c = V c := by
  intro n
  induction n with
  | zero => rfl
  | succ n ih => rw [k_iter, h, ih]
theorem m_copyN_c {V : g_V} {a b n c : Nat} (h : c ≠ a) : m_copyN V a b n c = V c := k_iter_c (fun _ _ => w2_c h) n
theorem m_begins_c {V : g_V} {c : Nat} (h : c ≠ 2) : m_begins V c = V c := m_copyN_c h
theorem m_returns_c {V : g_V} {c : Nat} (h : c ≠ 1) : m_returns V c = V c := m_copyN_c h
theorem m_N_begins {V : g_V} {n : Nat} (h : m_N V n) : m_N (m_begins V) n := by unfold m_N; rw [m_begins_c (by decide)]; exact h
theorem m_okR_begins {V : g_V} {n : Nat} (h : m_okR V n) : m_okR (m_begins V) n := by unfold m_okR; rw [m_begins_c (by decide)]; exact h
theorem m_okL_begins {V : g_V} {n : Nat} (h : m_okL V n) : m_okL (m_begins V) n := by unfold m_okL; rw [m_begins_c (by decide)]; exact h
def m_dropN (V : g_V) (n : Nat) : g_V := k_iter (fun k U => g_w2 U 3 k (U 3 (k + 146))) V n
def m_drop (V : g_V) : g_V := g_w2 (m_dropN V 438) 0 3 (nI 3)
def m_pushN (V : g_V) (b0 n : Nat) : g_V := k_iter (fun k U => g_w2 U 3 (b0 + k) (U 2 k)) V n
def m_push1 (W : g_V) : g_V := m_pushN W (146 * (W 0 3).toNatClampNeg) 146
def m_push (W : g_V) : g_V := g_w2 (m_push1 W) 0 3 (m_push1 W 0 3 + 1)
def m_acted (V : g_V) (a : Int32) (sn : Nat) : g_V := if -2000000001 < a then m_push (if sn = 4 then m_drop V else V) else m_returns V
abbrev m_S (V : g_V) (sn : Nat) : Prop := V 0 3 = nI sn ∧ sn ≤ 4
theorem m_dropN_c {V : g_V} {n c : Nat} (h : c ≠ 3) : m_dropN V n c = V c := k_iter_c (fun _ _ => w2_c h) n
theorem m_pushN_c {V : g_V} {b n c : Nat} (h : c ≠ 3) : m_pushN V b n c = V c := k_iter_c (fun _ _ => w2_c h) n
theorem m_frees_c {V : g_V} {a c : Nat} (h : c ≠ 1) : m_frees V a c = V c := by unfold m_frees; rw [w2_c h, w2_c h, w2_c h]
theorem m_makes_c {V : g_V} {o g a : Int32} {n c : Nat} (h : c ≠ 1) : m_makes V o g a n c = V c := by
  unfold m_makes; rw [w2_c h, m_frees_c h, w2_c h, w2_c h, w2_c h, w2_c h, w2_c h]
theorem m_moves_c {V : g_V} {b : Nat} {x : Int32} {c : Nat} (h : c ≠ 1) : m_moves V b x c = V c := w2_c h
theorem m_removes_c {V : g_V} {n a c : Nat} (h : c ≠ 1) : m_removes V n a c = V c := by
  unfold m_removes m_zeroN m_shiftN
  rw [k_iter_c (fun _ _ => w2_c h), k_iter_c (fun _ _ => w2_c h), w2_c h]
theorem k_iter2_c {α : Type} {f : Nat → g_V × α → g_V × α} {c : Nat} (h : ∀ k q, (f k q).1 c = q.1 c) (q : g_V × α) : ∀ n, (k_iter f q n).1 c = q.1 c := by
  intro n
  induction n with
  | zero => rfl
  | succ n ih => rw [k_iter, h, ih]
theorem m_fill_c {g : Int32} {q : g_V × Int32} {n c : Nat} (h : c ≠ 1) : (k_iter (m_fillStep g) q n).1 c = q.1 c := k_iter2_c (fun k q => by
  unfold m_fillStep
  split
  · exact m_moves_c h
  · rfl) q n
theorem m_stores_c {V : g_V} {o g a : Int32} {n c : Nat} (h : c ≠ 1) : (m_stores V o g a n).2 c = V c := by
  unfold m_stores
  repeat' split
  all_goals first | rfl | (show m_makes _ _ _ _ _ c = _; rw [m_makes_c h, m_fill_c h])
theorem m_splits_c {V : g_V} {x a : Int32} {n c : Nat} (h : c ≠ 1) : (m_splits V x a n).2 c = V c := by
  unfold m_splits
  repeat' split
  all_goals first | rfl | (dsimp only; rw [w2_c h, m_makes_c h]) | (dsimp only; rw [w2_c h, w2_c h, w2_c h, w2_c h, m_makes_c h])
theorem m_joins_c {V : g_V} {x z : Int32} {n c : Nat} (h : c ≠ 1) : (m_joins V x z n).2 c = V c := by
  unfold m_joins
  repeat' split
  all_goals first | rfl | (dsimp only; rw [m_removes_c h, w2_c h])
theorem m_pledges_c {V : g_V} {x le lo : Int32} {n c : Nat} (h : c ≠ 1) : (m_pledges V x le lo n).2 c = V c := by
  unfold m_pledges
  repeat' split
  all_goals first | rfl | (dsimp only; rw [w2_c h, w2_c h, w2_c h])
theorem m_repays_c {V : g_V} {x a : Int32} {n c : Nat} (h : c ≠ 1) : (m_repays V x a n).2 c = V c := by
  unfold m_repays
  repeat' split
  all_goals first | rfl | (dsimp only; simp only [w2_c h, m_frees_c h])
theorem m_prices_c {V : g_V} {g x : Int32} {c : Nat} (h : c ≠ 1) : (m_prices V g x).2 c = V c := by
  unfold m_prices
  repeat' split
  all_goals first | rfl | (dsimp only; rw [w2_c h])
theorem m_calls_c {V : g_V} {le : Int32} {n c : Nat} (h : c ≠ 1) : (m_calls V le n).2 c = V c := by
  unfold m_calls
  split
  · exact k_iter2_c (fun k q => by
      unfold m_callStep
      split
      · exact w2_c h
      · rfl) _ n
  · rfl
theorem m_seizes_c {V : g_V} {a t c : Nat} (h : c ≠ 1) : m_seizes V a t c = V c := by
  unfold m_seizes; rw [m_frees_c h, w2_c h, w2_c h, w2_c h]
theorem m_day_c {V : g_V} {n c : Nat} (h : c ≠ 1) : m_day V n c = V c := by
  unfold m_day m_days
  rw [w2_c h, k_iter_c (fun k W => by
    unfold m_dayStep m_dec
    repeat' split
    all_goals first | rfl | (rw [m_seizes_c h, w2_c h]) | (rw [w2_c h, w2_c h]) | (rw [w2_c h]))]
theorem m_lets_c {V : g_V} {d : Int32} {n c : Nat} (h : c ≠ 1) : (m_lets V d n).2 c = V c := by
  unfold m_lets
  split
  · exact k_iter_c (fun _ _ => m_day_c h) _
  · rfl
theorem m_delv_c {own : Int32} {c : Nat} (h : c ≠ 1) : ∀ (j : Nat) (q : g_V × Int32 × Int32), (m_delv own j q).1 c = q.1 c
  | 0, _ => rfl
  | j + 1, q => by
    rw [m_delv, m_delv_c h j, k_iter2_c (fun k q => by unfold m_delStep; exact m_moves_c h)]
theorem m_delivers_c {V : g_V} {x : Int32} {n c : Nat} (h : c ≠ 1) : (m_delivers V x n).2 c = V c := by
  unfold m_delivers
  repeat' split
  all_goals first | rfl | (dsimp only; rw [m_removes_c h]; unfold m_delivers1; rw [m_delv_c h]; dsimp only; rw [w2_c h])
theorem k_nIlt {x : Int32} {n : Nat} (h0 : 0 ≤ x) (h : ¬ nI n ≤ x) (hn : n < 2 ^ 31) : ∃ j : Nat, j < n ∧ x = nI j := by
  rw [Int32.le_iff_toInt_le, Int32.toInt_zero] at h0
  rw [Int32.le_iff_toInt_le, nI_toInt hn] at h
  refine ⟨x.toInt.toNat, by omega, Int32.toInt_inj.mp ?_⟩
  have hb := Int32.toInt_lt x
  rw [nI_toInt (by omega)]
  omega
theorem m_nI20 {x b : Int32} {N : Nat} (h : m_in x 20 b) (hb : b.toInt = N) : ∃ j : Nat, (20 ≤ j ∧ j ≤ N) ∧ x = nI j := by
  obtain ⟨h1, h2⟩ := h
  rw [Int32.lt_iff_toInt_lt, show (20 : Int32).toInt = 20 from rfl] at h1
  rw [Int32.lt_iff_toInt_lt, hb] at h2
  refine ⟨x.toInt.toNat, by omega, Int32.toInt_inj.mp ?_⟩
  have hb := Int32.toInt_lt x
  rw [nI_toInt (by omega)]
  omega
def m_okG (V : g_V) : Prop := ∀ b, b < 5 → ∃ g : Nat, g < 3 ∧ V 1 (24 + 2 * b) = nI g
def m_lossN (V : g_V) (n b g0 k : Nat) : Int32 := k_iter (fun j acc => if acc ≤ m_surplus V n (g0 + j) then acc else m_surplus V n (g0 + j)) (V 1 (24 + 2 * b + 1)) (k - g0)
def m_ownF (V : g_V) (o : Int32) (f : Nat → Int32) (k : Nat) : Int32 := if V 1 (34 + 7 * k + 1) = o then f k else 0
def m_netF (V : g_V) (k : Nat) : Int32 := V 1 (34 + 7 * k + 3) * V 1 (10 + (V 1 (34 + 7 * k + 2)).toNatClampNeg) - V 1 (34 + 7 * k + 5)
abbrev m_lenIs (V : g_V) (le w : Int32) (k : Nat) : Prop := w = 0 ∨ (w = 3 ∧ 0 < V 1 (34 + 7 * k + 6)) ∨ (w = 5 ∧ m_would V k le)
def m_lenT (V : g_V) (le w : Int32) (k : Nat) : Int32 := if w = 1 then V 1 (34 + 7 * k + 5) else if w = 2 then m_worth V k else if m_lenIs V le w k then 1 else 0
def m_lenF (V : g_V) (le w : Int32) (k : Nat) : Int32 := if V 1 (34 + 7 * k + 4) = le then m_lenT V le w k else 0
abbrev m_wAt (V : g_V) (le pr : Int32) (k : Nat) : Prop := V 1 (34 + 7 * k + 4) = le ∧ V 1 (34 + 7 * k + 6) = 0 ∧ ¬ V 1 (34 + 7 * k + 5) ≤ V 1 (34 + 7 * k + 3) * pr * V 1 7 / 100
def m_any (V : g_V) (le pr : Int32) (n : Nat) : Bool := (k_find (fun k => decide (m_wAt V le pr k)) n).isSome
theorem m_any_y {V : g_V} {le pr : Int32} {k : Nat} (h : m_any V le pr k = true) : m_any V le pr (k + 1) = true := by
  unfold m_any at h ⊢
  rw [k_find]
  cases hf : k_find (fun k => decide (m_wAt V le pr k)) k with
  | none => rw [hf] at h; cases h
  | some i => rfl
theorem m_any_n {V : g_V} {le pr : Int32} {k : Nat} (h : m_wAt V le pr k) : m_any V le pr (k + 1) = true := by
  unfold m_any
  rw [k_find]
  cases hf : k_find (fun k => decide (m_wAt V le pr k)) k with
  | none => simp only []; rw [if_pos (decide_eq_true h)]; rfl
  | some i => rfl
theorem m_any_f {V : g_V} {le pr : Int32} {k : Nat} (h : ¬ m_any V le pr k = true) (h2 : ¬ m_wAt V le pr k) : ¬ m_any V le pr (k + 1) = true := by
  unfold m_any at h ⊢
  rw [k_find]
  cases hf : k_find (fun k => decide (m_wAt V le pr k)) k with
  | none => simp only []; rw [if_neg (fun z => h2 (of_decide_eq_true z))]; simp
  | some i => rw [hf] at h; exact absurd rfl h
def m_fallTo (V : g_V) (le : Int32) (n : Nat) : Int32 :=
  if m_in le 0 2 then (match k_find (fun j => m_any V le (nI (99 - j)) n) 99 with | none => -2000000004 | some j => nI (99 - j)) else -2000000001
def m_sumF (V : g_V) (n : Nat) (w : Int32) (j : Nat) : Int32 := if w = 1 then m_inReceipts V n (nI j) else m_inBins V (nI j)
def m_undoN (V : g_V) (b0 n : Nat) : g_V := k_iter (fun k U => g_w2 U 1 k (U 3 (b0 + k))) V n
