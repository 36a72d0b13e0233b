/-! ===== what every order keeps, on each side alone ===== -/
section XK
variable {V W : g_V} {n : Nat}
theorem q_okR.w {V : g_V} (h : q_okR V) {c k : Nat} {x : Int32} (hc : c < 12 ∨ k ≠ 2) : q_okR (g_w2 V c k x) := fun i hi => by
  obtain ⟨g, hg, e⟩ := h i hi
  exact ⟨g, hg, by rw [w2_ne (by omega)]; exact e⟩
theorem q_okR.w2 {V : g_V} (h : q_okR V) {c : Nat} {x : Int32} {j : Nat} (hj : j < 3) (hx : x = nI j) : q_okR (g_w2 V c 2 x) := fun i hi => by
  obtain ⟨g, hg, e⟩ := h i hi
  by_cases d : c = 12 + i
  · subst d; exact ⟨j, hj, by rw [w2_at]; exact hx⟩
  · exact ⟨g, hg, by rw [w2_ne (by omega)]; exact e⟩
theorem q_okR.same {V V' : g_V} (h : q_okR V) (e : ∀ i, i < 16 → V' (12 + i) 2 = V (12 + i) 2) : q_okR V' := fun i hi => by
  obtain ⟨g, hg, e1⟩ := h i hi
  exact ⟨g, hg, (e i hi).trans e1⟩
theorem q_okR.iter {f : Nat → g_V → g_V} (hf : ∀ i U, q_okR U → q_okR (f i U)) {V : g_V} (h : q_okR V) : ∀ N, q_okR (k_iter f V N)
  | 0 => h
  | N + 1 => by rw [k_iter]; exact hf N _ (q_okR.iter hf h N)
theorem q_okR.iter2 {f : Nat → g_V × Int32 → g_V × Int32} (hf : ∀ i q, q_okR q.1 → q_okR (f i q).1) {q : g_V × Int32} (h : q_okR q.1) : ∀ N, q_okR (k_iter f q N).1
  | 0 => h
  | N + 1 => by rw [k_iter]; exact hf N _ (q_okR.iter2 hf h N)
theorem q_okR.use {V : g_V} (h : q_okR V) {i : Nat} {a b c d : Int32} {j : Nat} (hj : j < 3) (hx : c = nI j) : q_okR (q_use V i a b c d) :=
  (((h.w (by omega)).w (by omega)).w2 hj hx).w (by omega)
theorem q_okR.endP {V : g_V} (h : q_okR V) {i : Nat} : q_okR (q_endPledge V i) := ((h.w (by omega)).w (by omega)).w (by omega)
theorem q_okR.addM {V : g_V} (h : q_okR V) {o a : Int32} : q_okR (q_addMoney V o a) := by
  unfold q_addMoney
  split
  · exact h.w (by omega)
  · exact h
theorem q_okR.day {V : g_V} (h : q_okR V) : q_okR (q_passDay V) := by
  refine q_okR.iter (fun i U hU => ?_) (h.w (by omega)) 16
  have hd : q_okR (q_dec U i) := hU.w (by omega)
  unfold q_dayStep
  split
  · split
    · split
      · exact hd
      · unfold q_seize
        split
        · unfold q_seize2 q_seize1
          exact (((hd.w (by omega)).w (by omega)).w (by omega)).endP
        · exact hd
    · exact hd.w (by omega)
  · exact hU
theorem q_okR.deliv {V : g_V} (h : q_okR V) (j : Nat) {q : g_V × Int32} (hq : ∀ i, i < 16 → q.1 (12 + i) 2 = V (12 + i) 2) : q_okR (q_delv j q).1 := h.same (fun i hi => by rw [q_delv_c (by omega)]; exact hq i hi)
theorem q_okR.callS {le : Int32} {i : Nat} {q : g_V × Int32} (hq : q_okR q.1) : q_okR (q_callStep le i q).1 := by
  unfold q_callStep
  split
  · exact hq.w (by omega)
  · exact hq
theorem q_okR.call {le : Int32} (h : q_okR V) : q_okR (q_call V le).2 := by
  unfold q_call
  split
  · dsimp only
    exact q_okR.iter2 (f := q_callStep le) (q := (V, 0)) (fun i q hq => hq.callS) h 16
  · exact h
theorem q_okR.delr {x : Int32} (h : q_okR V) : q_okR (q_deliver V x).2 := by
  unfold q_deliver
  split
  · exact h
  · split
    · exact h
    · dsimp only
      unfold q_free q_deliver1
      refine q_okR.endP ?_
      refine q_okR.use (j := 0) ?_ (by decide) rfl
      refine q_okR.w ?_ (by omega)
      exact h.deliv _ (fun i hi => by
        have e : ∀ a b, (q_take V a b).1 (12 + i) = V (12 + i) := fun a b => q_take_c (by omega) 5 (Nat.le_refl 5)
        rw [e])
theorem q_okR.plg {x le lo : Int32} (h : q_okR V) : q_okR (q_pledge V x le lo).2 := by
  unfold q_pledge
  split
  · exact h
  · split
    · split
      · split
        · exact h
        · split
          · exact h
          · split
            · exact ((h.w (by omega)).w (by omega)).addM
            · exact h
      · exact h
    · exact h
theorem q_okR.prc {x y : Int32} (h : q_okR V) : q_okR (q_price V x y).2 := by
  unfold q_price
  split
  · split
    · exact h
    · split
      · exact h.w (by omega)
      · exact h
  · exact h
theorem q_okR.fillS {x : Int32} {i : Nat} {q : g_V × Int32} (hq : q_okR q.1) : q_okR (q_fillStep x i q).1 := by
  unfold q_fillStep
  split
  · exact hq.w (by omega)
  · exact hq
theorem q_okR.fil {x a : Int32} (h : q_okR V) : q_okR (q_fill V x a) := by
  unfold q_fill
  exact q_okR.iter2 (f := q_fillStep x) (q := (V, a)) (fun i q hq => hq.fillS) h 5
theorem q_okR.sto {o x a : Int32} (h : q_okR V) : q_okR (q_store V o x a).2 := by
  unfold q_store
  split
  · exact h
  · split
    · exact h
    · split
      · next hk =>
        split
        · exact h
        · split
          · split
            · exact h
            · split
              · obtain ⟨hj, ej, -⟩ := z_cl hk (N := 3) rfl
                refine q_okR.use ?_ hj ej
                unfold q_next
                exact h.fil.w (by omega)
              · exact h
          · exact h
      · exact h
theorem q_okR.pas {x : Int32} (h : q_okR V) : q_okR (q_pass V x).2 := by
  unfold q_pass
  split
  · exact h
  · split
    · dsimp only
      unfold q_passN
      exact q_okR.iter (fun _ U hU => hU.day) h _
    · exact h
theorem q_okR.order {V F : g_V} {x : Int32} (h : q_okR V) : q_okR (q_doOrder V F x).2 := by
  unfold q_doOrder
  split
  · exact h.call
  · split
    · exact h.delr
    · split
      · exact h.plg
      · split
        · exact h.prc
        · split
          · exact h.sto
          · split
            · exact h.pas
            · exact h
def m_J (f : Nat → Int32) : Prop := ∃ n, y_1 f n
theorem m_J1 (U : g_V) (h : m_J (U 1)) : m_N U (U 1 0).toNatClampNeg ∧ m_okR U (U 1 0).toNatClampNeg ∧ m_okL U (U 1 0).toNatClampNeg := by
  obtain ⟨n, h1⟩ := h
  have h16 := h1.n16
  rw [h1.n0, nI_clamp (by omega)]
  exact ⟨h1.mN, h1.okR, h1.okL⟩
theorem K_prices {x y : Int32} (h1 : y_1 (W 1) n) : m_J ((m_prices W x y).2 1) := by
  unfold m_prices
  by_cases c : m_in x 0 2
  · rw [if_pos c]
    by_cases d : m_in y 1 99
    · rw [if_pos d]
      have hy : 1 ≤ y.toInt ∧ y.toInt ≤ 99 := z_rg d
      dsimp only
      rw [w2_s]
      exact ⟨n, h1.sets (fun z hz => upd_ne (by have := (z_cl (z_in3.mp c) (N := 3) rfl).1; omega)) (y_set_pr h1.set hy)⟩
    · rw [if_neg d]; exact ⟨n, h1⟩
  · rw [if_neg c]; exact ⟨n, h1⟩
theorem K_calls {le : Int32} (h1 : y_1 (W 1) n) : m_J ((m_calls W le n).2 1) := by
  unfold m_calls
  by_cases c : m_in le 0 2
  · rw [if_pos c]
    obtain ⟨b1, b2, -⟩ := m_calls_cf (W := W) (le := le) n
    have hle : 0 ≤ le.toInt ∧ le.toInt ≤ 2 := z_rg c
    dsimp only
    generalize k_iter (m_callStep le) (W, 0) n = r at b1 b2 ⊢
    have hb : ∀ x, (∀ k, k < n → x ≠ 34 + 7 * k + 6) → r.1 1 x = W 1 x := fun x hx => b1 x (fun ⟨k, hk, e⟩ => hx k hk e)
    refine ⟨n, ⟨(hb 0 (fun k hk => by omega)).trans h1.n0, h1.n16⟩, fun k hk => ?_, h1.set.of (fun x _ _ => hb x (fun k hk => by omega)), h1.bins.of (fun x _ _ => hb x (fun k hk => by omega)), fun q h0 h2 => ?_⟩
    · have hr := h1.row hk
      have hs := h1.set.2.2.1
      unfold y_row at hr ⊢
      rw [hb (34 + 7 * k + 1) (fun k hk => by omega), hb (34 + 7 * k + 2) (fun k hk => by omega), hb (34 + 7 * k + 3) (fun k hk => by omega), hb (34 + 7 * k + 4) (fun k hk => by omega), hb (34 + 7 * k + 5) (fun k hk => by omega), b2 k hk]
      by_cases c : m_would W k le
      · rw [if_pos c]
        refine ⟨hr.1, hr.2.1, hr.2.2.1, hr.2.2.2.1, hr.2.2.2.2.1, by omega, fun _ => ?_⟩
        rw [c.1]
        exact hle.1
      · rw [if_neg c]; exact hr
    · rw [y_term_of (fun i _ => hb _ (fun k hk => by omega)) (fun i _ => hb _ (fun k hk => by omega)), y_bterm_of (fun x h1 h2 => hb x (fun k hk => by omega))]
      exact h1.cov q h0 h2
  · rw [if_neg c]; exact ⟨n, h1⟩
theorem K_day (h1 : y_1 (W 1) n) : y_1 (m_day W n 1) n := by
  obtain ⟨b1, b2, b3, b4⟩ := m_days_cf h1 n (Nat.le_refl n)
  have eMd : m_day W n 1 = upd (m_days W n 1) 1 (m_days W n 1 1 + 1) := by unfold m_day; rw [w2_s]
  rw [eMd]
  generalize m_days W n 1 = S at b1 b2 b3 b4 ⊢
  have hb : ∀ x, (x < 34 ∨ 34 + 7 * n ≤ x) → x ≠ 3 → x ≠ 1 → (x < 21 ∨ 24 ≤ x) → upd S 1 (S 1 + 1) x = W 1 x := fun x c1 c2 c3 c4 => by rw [upd_ne c3, b4 x c1 c2 c4]
  have hr : ∀ k, k < n → ∀ j, j < 7 → upd S 1 (S 1 + 1) (34 + 7 * k + j) = d_row (m_row W k) (m_lim W k) j := fun k hk j hj => by rw [upd_ne (by omega), b1 k hk j hj]
  refine ⟨⟨(hb 0 (by omega) (by omega) (by omega) (by omega)).trans h1.n0, h1.n16⟩, fun k hk => (h1.row hk).day (hr k hk), h1.set.of (fun x _ _ => hb x (by omega) (by omega) (by omega) (by omega)), h1.bins.of (fun x _ _ => hb x (by omega) (by omega) (by omega) (by omega)), fun q h0 h2 => ?_⟩
  rw [y_term_of (fun k hk => by rw [hr k hk 2 (by decide), d_row_k (by omega)]; rfl) (fun k hk => by rw [hr k hk 3 (by decide), d_row_k (by omega)]; rfl), y_bterm_of (fun x _ _ => hb x (by omega) (by omega) (by omega) (by omega))]
  exact h1.cov q h0 h2
theorem K_lets {days : Int32} (h1 : y_1 (W 1) n) : m_J ((m_lets W days n).2 1) := by
  unfold m_lets
  by_cases c : m_in days 1 99
  · rw [if_pos c]
    refine ⟨n, ?_⟩
    dsimp only
    generalize days.toNatClampNeg = d
    induction d with
    | zero => exact h1
    | succ d ih =>
      have e2 : m_letN W n (d + 1) = m_day (m_letN W n d) n := by unfold m_letN; rw [k_iter]
      rw [e2]
      exact K_day ih
  · rw [if_neg c]; exact ⟨n, h1⟩
theorem K_delivers {x : Int32} (h1 : y_1 (W 1) n) : m_J ((m_delivers W x n).2 1) := by
  unfold m_delivers
  cases hp : m_place W x n with
  | none => exact ⟨n, h1⟩
  | some k =>
    dsimp only
    obtain ⟨hk, -⟩ := z_place hp
    by_cases c : m_pledged W k
    · rw [if_pos c]; exact ⟨n, h1⟩
    · rw [if_neg c]; exact ⟨n - 1, (y_deliver h1 hk).2⟩
theorem K_pledges {x le ln : Int32} (h1 : y_1 (W 1) n) : m_J ((m_pledges W x le ln n).2 1) := by
  unfold m_pledges
  cases hp : m_place W x n with
  | none => exact ⟨n, h1⟩
  | some k =>
    dsimp only
    obtain ⟨hk, -⟩ := z_place hp
    by_cases c1 : m_in le 0 2
    · rw [if_pos c1]
      by_cases c2 : 1 ≤ ln
      · rw [if_pos c2]
        by_cases c3 : m_pledged W k
        · rw [if_pos c3]; exact ⟨n, h1⟩
        · rw [if_neg c3]
          by_cases c4 : W 1 (34 + 7 * k + 1) = 5 + le
          · rw [if_pos c4]; exact ⟨n, h1⟩
          · rw [if_neg c4]
            by_cases c5 : ln ≤ m_share W k 0
            · rw [if_pos c5]
              obtain ⟨h4, -, -, h7, -, h9, h10⟩ := h1.row hk
              obtain ⟨j, hj, ej⟩ := z_lo (N := 8) h4.1 (by omega)
              have hs := m_share_i h1 hk
              obtain ⟨-, h11, h12, -⟩ := m_worth_i h1 hk
              rw [Int32.le_iff_toInt_le] at c5
              rw [Int32.le_iff_toInt_le, z_i1] at c2
              have hle : 0 ≤ le.toInt ∧ le.toInt ≤ 2 := z_rg c1
              refine ⟨n, ?_⟩
              dsimp only
              rw [ej, nI_clamp (by omega), w2_s, w2_s, w2_s]
              exact ((h1.r1 (by omega) (fun _ => (h1.row hk).le (by omega) (by omega))).r1 (by omega) (fun _ => ((h1.row hk).le (by omega) (by omega)).lo (by omega))).ms (by omega)
            · rw [if_neg c5]; exact ⟨n, h1⟩
      · rw [if_neg c2]; exact ⟨n, h1⟩
    · rw [if_neg c1]; exact ⟨n, h1⟩
theorem K_stores {o x a : Int32} (h1 : y_1 (W 1) n) : m_J ((m_stores W o x a n).2 1) := by
  unfold m_stores
  by_cases c1 : m_in o 0 4
  · rw [if_pos c1]
    by_cases c2 : m_in x 0 2
    · rw [if_pos c2]
      by_cases c3 : m_in a 1 4000
      · rw [if_pos c3]
        by_cases c4 : m_room W x < a
        · rw [if_pos c4]; exact ⟨n, h1⟩
        · rw [if_neg c4]
          by_cases c5 : nI n = 16
          · rw [if_pos c5]; exact ⟨n, h1⟩
          · rw [if_neg c5]
            have ha : 1 ≤ a.toInt ∧ a.toInt ≤ 4000 := z_rg c3
            have hx : 0 ≤ x.toInt ∧ x.toInt ≤ 2 := z_rg c2
            have ho : 0 ≤ o.toInt ∧ o.toInt ≤ 4 := z_rg c1
            have hn : n < 16 := by
              have := h1.n16
              by_cases e : n = 16
              · subst e; exact absurd rfl c5
              · omega
            obtain ⟨f3, f4, f5⟩ := y_fill5 h1.bins (x := x) (a := a) (by omega) (Int32.le_iff_toInt_le.mp (z_lt.mp c4))
            dsimp only
            generalize (k_iter (m_fillStep x) (W, a) 5).1 = F at f3 f4 f5 ⊢
            have hs9 : 0 ≤ (F 1 9).toInt ∧ (F 1 9).toInt ≤ 20 := by rw [f3 9 (fun ⟨b, hb, e⟩ => by omega)]; exact h1.set.2.2.2.1
            have hp1 : a.toInt * (F 1 9).toInt ≤ a.toInt * 20 := Int.mul_le_mul_of_nonneg_left hs9.2 (by omega)
            have hp0 : 0 ≤ a.toInt * (F 1 9).toInt := Int.mul_nonneg (by omega) hs9.1
            have ep : (a * F 1 9).toInt = a.toInt * (F 1 9).toInt := z_mul (by omega) (by omega)
            have ed : (a * F 1 9 / 100).toInt = a.toInt * (F 1 9).toInt / 100 := by rw [z_div (by omega) (by decide), ep]; rfl
            have em : (a - a * F 1 9 / 100).toInt = a.toInt - a.toInt * (F 1 9).toInt / 100 := by rw [z_sub (by rw [ed]; omega) (by rw [ed]; omega), ed]
            refine ⟨n + 1, y_make ((f3 0 (fun ⟨b, hb, e⟩ => by omega)).trans h1.n0) hn (fun k hk => (h1.row hk).of (fun j hj => f3 _ (fun ⟨b, hb, e⟩ => by omega))) (h1.set.of (fun x _ _ => f3 x (fun ⟨b, hb, e⟩ => by omega))) f4 (fun q h0 h2 => ?_) (by omega) (by omega) (by omega)⟩
            rw [y_term_of (fun k hk => f3 _ (fun ⟨b, hb, e⟩ => by omega)) (fun k hk => f3 _ (fun ⟨b, hb, e⟩ => by omega)), f5 q]
            have h7 := h1.cov q h0 h2
            split <;> omega
      · rw [if_neg c3]; exact ⟨n, h1⟩
    · rw [if_neg c2]; exact ⟨n, h1⟩
  · rw [if_neg c1]; exact ⟨n, h1⟩
theorem m_J2 (U : g_V) (y : Int32) (h : m_J (U 1)) : m_J ((m_called U y (U 1 0).toNatClampNeg).2 1) := by
  obtain ⟨n, h1⟩ := h
  have h16 := h1.n16
  rw [h1.n0, nI_clamp (by omega)]
  unfold m_called
  split
  · exact K_calls h1
  · split
    · exact K_delivers h1
    · split
      · exact K_pledges h1
      · split
        · exact K_prices h1
        · split
          · exact K_stores h1
          · exact K_lets h1
end XK
