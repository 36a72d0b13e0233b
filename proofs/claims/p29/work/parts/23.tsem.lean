/-! ===== the class' text: G the picture of region 6 (G 1 the script's fields, G 2 its characters, G 3 its numbers) ===== -/
def q_okC (G : g_V) : Prop := ∀ j, narrow .char (.int (G 2 j)) = .int (G 2 j)
theorem q_okC.w {G : g_V} (h : q_okC G) {c k : Nat} {x : Int32} (hc : c ≠ 2) : q_okC (g_w2 G c k x) := by
  intro j
  rw [w2_c (Ne.symm hc)]
  exact h j
theorem k_vin2 {x : Int32} {N : Nat} {n : Int32} (h1 : ¬ x < 0) (h2 : x < n) (hn : n.toInt = N) : vp_in x N := by
  rw [vp_in_iff, ← hn]
  rw [Int32.lt_iff_toInt_lt, Int32.toInt_zero] at h1
  rw [Int32.lt_iff_toInt_lt] at h2
  omega
theorem k_vin3 {x : Int32} {N : Nat} {n : Int32} (h1 : ¬ x < 0) (h2 : ¬ n ≤ x) (hn : n.toInt = N) : vp_in x N := k_vin ⟨h1, h2⟩ hn
def q_charAt (G : g_V) (p : Int32) : Int32 := if p < 0 then 0 else (if G 1 2 ≤ p then 0 else (if 60 ≤ p then 0 else G 2 p.toNatClampNeg))
def q_ch (G : g_V) : Int32 := q_charAt G (G 1 3)
theorem q_charAt_nar {G : g_V} (h : q_okC G) {p : Int32} : narrow .char (.int (q_charAt G p)) = .int (q_charAt G p) := by
  unfold q_charAt
  repeat' split
  all_goals first | rfl | exact h _
def q_step (G : g_V) : g_V := g_w2 G 1 3 (G 1 3 + 1)
def q_numN : Nat → g_V × Int32 → g_V × Int32
  | 0, q => q
  | j + 1, q => if k_digit (q_ch q.1) then q_numN j (q_step q.1, q.2 * 10 + (q_ch q.1 - 48)) else q
def q_readNum (G : g_V) : g_V × Int32 := q_numN 6 (G, 0)
theorem q_numN_c {c : Nat} (hc : c ≠ 1) : ∀ (j : Nat) (q : g_V × Int32), (q_numN j q).1 c = q.1 c
  | 0, _ => rfl
  | j + 1, q => by
    rw [q_numN]
    split
    · rw [q_numN_c hc j]; exact w2_c hc
    · rfl
theorem q_okC.of {G W : g_V} (h : q_okC G) (e : W 2 = G 2) : q_okC W := by unfold q_okC; rw [e]; exact h
def q_num1 (G : g_V) (i : Nat) : g_V := g_w2 (q_readNum G).1 3 i (q_readNum G).2
theorem q_num1_2 {G : g_V} {i : Nat} : q_num1 G i 2 = G 2 := by
  unfold q_num1 q_readNum
  rw [w2_c (by decide), q_numN_c (by decide)]
def q_ordN (w : Int32) : Nat → Nat → g_V → Int32 × g_V
  | 0, _, G => (1, G)
  | j + 1, i, G => if w ≤ nI i then (1, G) else (if k_digit (q_ch G) then (if q_ch (q_num1 G i) = (if w ≤ nI (i + 1) then 59 else 44) then q_ordN w j (i + 1) (q_step (q_num1 G i)) else (0, q_num1 G i)) else (0, G))
def q_readOrder (G : g_V) : Int32 × g_V := if m_wants (q_ch G) = 0 then (0, G) else q_ordN (m_wants (q_ch G)) 3 0 (q_step G)
