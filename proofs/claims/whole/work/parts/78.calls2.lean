/-! ===== one call on both sides ===== -/
section LC
variable {l : Launch} {D : va_G} {tb : g_T} {ad : g_Ad} {P : g_P} {M : g_M} {c : Int}
def z_Rc (P : g_P) (M : g_M) (c : Int) : Prop := z_Rel P M (61 * c) (-(990000 * c)) (3960000 * c)
theorem w_M7 {A B G : g_V} {i j : Nat} (hi : i < 6) (hj : j < 6) : va_up (va_up (va_up M i A) j B) 6 G 7 = M 7 := by
  rw [va_up_ne _ _ (by decide), va_up_ne _ _ (by omega), va_up_ne _ _ (by omega)]
theorem w_M72 {A G : g_V} {i : Nat} (hi : i < 6) : va_up (va_up M i A) 6 G 7 = M 7 := by
  rw [va_up_ne _ _ (by decide), va_up_ne _ _ (by omega)]
theorem w_M71 {G : g_V} : va_up M 6 G 7 = M 7 := by
  rw [va_up_ne _ _ (by decide)]
theorem z_Rc.up (h : z_Rc P M c) (h0 : 0 ≤ c) : z_Rc P M (c + 1) := z_Rel.mono h (by omega) (by omega) (by omega)
theorem z_Rc.cut {mb lo hi : Int} (h : z_Rel P M mb lo hi) (h1 : mb ≤ 61 * (c + 1)) (h2 : -(990000 * (c + 1)) ≤ lo) (h3 : hi ≤ 3960000 * (c + 1)) : z_Rc P M (c + 1) := z_Rel.mono h h1 h2 h3
theorem L_store (hj : g_inj ad) (h : z_Rc P M c) (h0 : 0 ≤ c) (h1 : c ≤ 511) (o x a : Int32) : ∃ (fr : Int32) (P1 : g_P) (M1 M2 : g_M), g_Ci l yX4_store cX4_store 4 (some .int) rm_X4_store D tb ad [.ref (ad 6 0), .int o, .int x, .int a] P M fr P1 M1 ∧ g_Ci l yX5_store cX5_store 4 (some .int) rm_X5_store D tb ad [.ref (ad 7 0), .int o, .int x, .int a] P1 M1 fr P1 M2 ∧ z_Rc P1 M2 (c + 1) := by
  obtain ⟨n, sn, hz, hs, hs4⟩ := z_Rel.get h
  have hy : y_1 (M 7 1) n := hz.choose_spec.2.1
  have hb := x_beg hz
  have hb1 : (-(990000 * c)) - 990000 = -(990000 * (c + 1)) := by omega
  have hsim : z_S (M (P 0)) (m_begins (M 7)) (q_store (M (P 0)) o x a) (m_stores (m_begins (M 7)) o x a n) (61 * (c + 1)) (-(990000 * (c + 1))) (3960000 * (c + 1)) := z_S.mono (s_store hb (by omega)) (by omega) (by omega) (by omega)
  have hf := f_act (R := m_store (M 7) o x a sn n) h rfl rfl rfl rfl ⟨hs, hs4⟩ hsim (by omega) (by omega) (by omega) (fun c hc => m_stores_c hc) (Or.inr (by unfold m_store; with_reducible rfl))
  have h4 := c_X4_store l D tb ad hj P M o x a (z_Rel.P6 h) (z_Rel.ne h (by decide) (by decide) (by decide)) _ rfl _ rfl _ rfl
  have h5 := c_X5_store l D tb ad hj (q_recdP (q_store (M (P 0)) o x a).1 P) (va_up (va_up (va_up M (P 1) (q_copy (M (P 1)) (M (P 0)))) (P 0) (q_store (M (P 0)) o x a).2) 6 (q_recdG (q_store (M (P 0)) o x a).1 (M 6))) (M 7) o x a sn ⟨hs, hs4⟩ n hy.mN
  rw [k_eta (w_M7 (z_Rel.P6 h 1) (z_Rel.P6 h 0)), ← hf.1] at h5
  exact ⟨_, _, _, _, h4, h5, hf.2⟩
theorem L_split (hj : g_inj ad) (h : z_Rc P M c) (h0 : 0 ≤ c) (h1 : c ≤ 511) (x a : Int32) : ∃ (fr : Int32) (P1 : g_P) (M1 M2 : g_M), g_Ci l yX4_split cX4_split 3 (some .int) rm_X4_split D tb ad [.ref (ad 6 0), .int x, .int a] P M fr P1 M1 ∧ g_Ci l yX5_split cX5_split 3 (some .int) rm_X5_split D tb ad [.ref (ad 7 0), .int x, .int a] P1 M1 fr P1 M2 ∧ z_Rc P1 M2 (c + 1) := by
  obtain ⟨n, sn, hz, hs, hs4⟩ := z_Rel.get h
  have hy : y_1 (M 7 1) n := hz.choose_spec.2.1
  have hb := x_beg hz
  have hb1 : (-(990000 * c)) - 990000 = -(990000 * (c + 1)) := by omega
  have hsim : z_S (M (P 0)) (m_begins (M 7)) (q_split (M (P 0)) x a) (m_splits (m_begins (M 7)) x a n) (61 * (c + 1)) (-(990000 * (c + 1))) (3960000 * (c + 1)) := z_S.mono (s_split hb (by omega)) (by omega) (by omega) (by omega)
  have hf := f_act (R := m_split (M 7) x a sn n) h rfl rfl rfl rfl ⟨hs, hs4⟩ hsim (by omega) (by omega) (by omega) (fun c hc => m_splits_c hc) (Or.inr (by unfold m_split; with_reducible rfl))
  have h4 := c_X4_split l D tb ad hj P M x a (z_Rel.P6 h) (z_Rel.ne h (by decide) (by decide) (by decide)) _ rfl _ rfl _ rfl
  have h5 := c_X5_split l D tb ad hj (q_recdP (q_split (M (P 0)) x a).1 P) (va_up (va_up (va_up M (P 1) (q_copy (M (P 1)) (M (P 0)))) (P 0) (q_split (M (P 0)) x a).2) 6 (q_recdG (q_split (M (P 0)) x a).1 (M 6))) (M 7) x a sn ⟨hs, hs4⟩ n hy.mN
  rw [k_eta (w_M7 (z_Rel.P6 h 1) (z_Rel.P6 h 0)), ← hf.1] at h5
  exact ⟨_, _, _, _, h4, h5, hf.2⟩
theorem L_join (hj : g_inj ad) (h : z_Rc P M c) (h0 : 0 ≤ c) (h1 : c ≤ 511) (x z : Int32) : ∃ (fr : Int32) (P1 : g_P) (M1 M2 : g_M), g_Ci l yX4_join cX4_join 3 (some .int) rm_X4_join D tb ad [.ref (ad 6 0), .int x, .int z] P M fr P1 M1 ∧ g_Ci l yX5_join cX5_join 3 (some .int) rm_X5_join D tb ad [.ref (ad 7 0), .int x, .int z] P1 M1 fr P1 M2 ∧ z_Rc P1 M2 (c + 1) := by
  obtain ⟨n, sn, hz, hs, hs4⟩ := z_Rel.get h
  have hy : y_1 (M 7 1) n := hz.choose_spec.2.1
  have hb := x_beg hz
  have hb1 : (-(990000 * c)) - 990000 = -(990000 * (c + 1)) := by omega
  have hsim : z_S (M (P 0)) (m_begins (M 7)) (q_join (M (P 0)) x z) (m_joins (m_begins (M 7)) x z n) (61 * (c + 1)) (-(990000 * (c + 1))) (3960000 * (c + 1)) := z_S.mono (s_join hb) (by omega) (by omega) (by omega)
  have hf := f_act (R := m_join (M 7) x z sn n) h rfl rfl rfl rfl ⟨hs, hs4⟩ hsim (by omega) (by omega) (by omega) (fun c hc => m_joins_c hc) (Or.inr (by unfold m_join; with_reducible rfl))
  have h4 := c_X4_join l D tb ad hj P M x z (z_Rel.P6 h) (z_Rel.ne h (by decide) (by decide) (by decide)) _ rfl _ rfl _ rfl
  have h5 := c_X5_join l D tb ad hj (q_recdP (q_join (M (P 0)) x z).1 P) (va_up (va_up (va_up M (P 1) (q_copy (M (P 1)) (M (P 0)))) (P 0) (q_join (M (P 0)) x z).2) 6 (q_recdG (q_join (M (P 0)) x z).1 (M 6))) (M 7) x z sn ⟨hs, hs4⟩ n hy.mN
  rw [k_eta (w_M7 (z_Rel.P6 h 1) (z_Rel.P6 h 0)), ← hf.1] at h5
  exact ⟨_, _, _, _, h4, h5, hf.2⟩
theorem L_hand (hj : g_inj ad) (h : z_Rc P M c) (h0 : 0 ≤ c) (h1 : c ≤ 511) (x o : Int32) : ∃ (fr : Int32) (P1 : g_P) (M1 M2 : g_M), g_Ci l yX4_hand cX4_hand 3 (some .int) rm_X4_hand D tb ad [.ref (ad 6 0), .int x, .int o] P M fr P1 M1 ∧ g_Ci l yX5_hand cX5_hand 5 (some .int) rm_X5_hand D tb ad [.ref (ad 7 0), .int x, .int o] P1 M1 fr P1 M2 ∧ z_Rc P1 M2 (c + 1) := by
  obtain ⟨n, sn, hz, hs, hs4⟩ := z_Rel.get h
  have hy : y_1 (M 7 1) n := hz.choose_spec.2.1
  have hb := x_beg hz
  have hb1 : (-(990000 * c)) - 990000 = -(990000 * (c + 1)) := by omega
  have hsim : z_S (M (P 0)) (m_begins (M 7)) (q_hand (M (P 0)) x o) (m_hands (m_begins (M 7)) x o n) (61 * (c + 1)) (-(990000 * (c + 1))) (3960000 * (c + 1)) := z_S.mono (s_hand hb) (by omega) (by omega) (by omega)
  have hf := f_act (R := m_hand (M 7) x o sn n) h rfl rfl rfl rfl ⟨hs, hs4⟩ hsim (by omega) (by omega) (by omega) (fun c hc => hk_hand c hc) fc_hand
  have h4 := c_X4_hand l D tb ad hj P M x o (z_Rel.P6 h) (z_Rel.ne h (by decide) (by decide) (by decide)) _ rfl _ rfl _ rfl
  have h5 := c_X5_hand l D tb ad hj (q_recdP (q_hand (M (P 0)) x o).1 P) (va_up (va_up (va_up M (P 1) (q_copy (M (P 1)) (M (P 0)))) (P 0) (q_hand (M (P 0)) x o).2) 6 (q_recdG (q_hand (M (P 0)) x o).1 (M 6))) (M 7) x o sn ⟨hs, hs4⟩ n hy.mN
  rw [k_eta (w_M7 (z_Rel.P6 h 1) (z_Rel.P6 h 0)), ← hf.1] at h5
  exact ⟨_, _, _, _, h4, h5, hf.2⟩
theorem L_deliver (hj : g_inj ad) (h : z_Rc P M c) (h0 : 0 ≤ c) (h1 : c ≤ 511) (x : Int32) : ∃ (fr : Int32) (P1 : g_P) (M1 M2 : g_M), g_Ci l yX4_deliver cX4_deliver 2 (some .int) rm_X4_deliver D tb ad [.ref (ad 6 0), .int x] P M fr P1 M1 ∧ g_Ci l yX5_deliver cX5_deliver 2 (some .int) rm_X5_deliver D tb ad [.ref (ad 7 0), .int x] P1 M1 fr P1 M2 ∧ z_Rc P1 M2 (c + 1) := by
  obtain ⟨n, sn, hz, hs, hs4⟩ := z_Rel.get h
  have hy : y_1 (M 7 1) n := hz.choose_spec.2.1
  have hb := x_beg hz
  have hb1 : (-(990000 * c)) - 990000 = -(990000 * (c + 1)) := by omega
  have hsim : z_S (M (P 0)) (m_begins (M 7)) (q_deliver (M (P 0)) x) (m_delivers (m_begins (M 7)) x n) (61 * (c + 1)) (-(990000 * (c + 1))) (3960000 * (c + 1)) := z_S.mono (s_deliver hb) (by omega) (by omega) (by omega)
  have hf := f_act (R := m_deliver (M 7) x sn n) h rfl rfl rfl rfl ⟨hs, hs4⟩ hsim (by omega) (by omega) (by omega) (fun c hc => m_delivers_c hc) (Or.inr (by unfold m_deliver; with_reducible rfl))
  have h4 := c_X4_deliver l D tb ad hj P M x (z_Rel.P6 h) (z_Rel.ne h (by decide) (by decide) (by decide)) _ rfl _ rfl _ rfl (hz.choose_spec.1.okR hy)
  have h5 := c_X5_deliver l D tb ad hj (q_recdP (q_deliver (M (P 0)) x).1 P) (va_up (va_up (va_up M (P 1) (q_copy (M (P 1)) (M (P 0)))) (P 0) (q_deliver (M (P 0)) x).2) 6 (q_recdG (q_deliver (M (P 0)) x).1 (M 6))) (M 7) x sn ⟨hs, hs4⟩ n hy.mN hy.okR
  rw [k_eta (w_M7 (z_Rel.P6 h 1) (z_Rel.P6 h 0)), ← hf.1] at h5
  exact ⟨_, _, _, _, h4, h5, hf.2⟩
theorem L_pledge (hj : g_inj ad) (h : z_Rc P M c) (h0 : 0 ≤ c) (h1 : c ≤ 511) (x le lo : Int32) : ∃ (fr : Int32) (P1 : g_P) (M1 M2 : g_M), g_Ci l yX4_pledge cX4_pledge 4 (some .int) rm_X4_pledge D tb ad [.ref (ad 6 0), .int x, .int le, .int lo] P M fr P1 M1 ∧ g_Ci l yX5_pledge cX5_pledge 4 (some .int) rm_X5_pledge D tb ad [.ref (ad 7 0), .int x, .int le, .int lo] P1 M1 fr P1 M2 ∧ z_Rc P1 M2 (c + 1) := by
  obtain ⟨n, sn, hz, hs, hs4⟩ := z_Rel.get h
  have hy : y_1 (M 7 1) n := hz.choose_spec.2.1
  have hb := x_beg hz
  have hb1 : (-(990000 * c)) - 990000 = -(990000 * (c + 1)) := by omega
  have hsim0 := s_pledge (W := m_begins (M 7)) hb (by omega) (by omega) (x := x) (le := le) (ln := lo)
  have hsim : z_S (M (P 0)) (m_begins (M 7)) (q_pledge (M (P 0)) x le lo) (m_pledges (m_begins (M 7)) x le lo n) (61 * (c + 1)) (-(990000 * (c + 1))) (3960000 * (c + 1)) := by
    obtain ⟨e, hh⟩ := hsim0
    refine ⟨e, ?_⟩
    rcases hh with hh | ⟨hg, n', hR⟩
    · exact Or.inl hh
    · have hyb : y_1 (m_begins (M 7) 1) n := hb.choose_spec.2.1
      have hp := P_pledges hyb hg
      have hp1 := (y_P_bd hyb).1
      have hp2 := (y_P_bd hR.choose_spec.2.1).2
      exact Or.inr ⟨hg, n', hR.mono (by omega) (by omega) (by omega)⟩
  have hf := f_act (R := m_pledge (M 7) x le lo sn n) h rfl rfl rfl rfl ⟨hs, hs4⟩ hsim (by omega) (by omega) (by omega) (fun c hc => m_pledges_c hc) (Or.inr (by unfold m_pledge; with_reducible rfl))
  have h4 := c_X4_pledge l D tb ad hj P M x le lo (z_Rel.P6 h) (z_Rel.ne h (by decide) (by decide) (by decide)) _ rfl _ rfl _ rfl
  have h5 := c_X5_pledge l D tb ad hj (q_recdP (q_pledge (M (P 0)) x le lo).1 P) (va_up (va_up (va_up M (P 1) (q_copy (M (P 1)) (M (P 0)))) (P 0) (q_pledge (M (P 0)) x le lo).2) 6 (q_recdG (q_pledge (M (P 0)) x le lo).1 (M 6))) (M 7) x le lo sn ⟨hs, hs4⟩ n hy.mN hy.okR
  rw [k_eta (w_M7 (z_Rel.P6 h 1) (z_Rel.P6 h 0)), ← hf.1] at h5
  exact ⟨_, _, _, _, h4, h5, hf.2⟩
theorem L_repay (hj : g_inj ad) (h : z_Rc P M c) (h0 : 0 ≤ c) (h1 : c ≤ 511) (x a : Int32) : ∃ (fr : Int32) (P1 : g_P) (M1 M2 : g_M), g_Ci l yX4_repay cX4_repay 3 (some .int) rm_X4_repay D tb ad [.ref (ad 6 0), .int x, .int a] P M fr P1 M1 ∧ g_Ci l yX5_repay cX5_repay 3 (some .int) rm_X5_repay D tb ad [.ref (ad 7 0), .int x, .int a] P1 M1 fr P1 M2 ∧ z_Rc P1 M2 (c + 1) := by
  obtain ⟨n, sn, hz, hs, hs4⟩ := z_Rel.get h
  have hy : y_1 (M 7 1) n := hz.choose_spec.2.1
  have hb := x_beg hz
  have hb1 : (-(990000 * c)) - 990000 = -(990000 * (c + 1)) := by omega
  have hsim : z_S (M (P 0)) (m_begins (M 7)) (q_repay (M (P 0)) x a) (m_repays (m_begins (M 7)) x a n) (61 * (c + 1)) (-(990000 * (c + 1))) (3960000 * (c + 1)) := z_S.mono (s_repay hb (by omega) (by omega)) (by omega) (by omega) (by omega)
  have hf := f_act (R := m_repay (M 7) x a sn n) h rfl rfl rfl rfl ⟨hs, hs4⟩ hsim (by omega) (by omega) (by omega) (fun c hc => m_repays_c hc) (Or.inr (by unfold m_repay; with_reducible rfl))
  have h4 := c_X4_repay l D tb ad hj P M x a (z_Rel.P6 h) (z_Rel.ne h (by decide) (by decide) (by decide)) _ rfl _ rfl _ rfl
  have h5 := c_X5_repay l D tb ad hj (q_recdP (q_repay (M (P 0)) x a).1 P) (va_up (va_up (va_up M (P 1) (q_copy (M (P 1)) (M (P 0)))) (P 0) (q_repay (M (P 0)) x a).2) 6 (q_recdG (q_repay (M (P 0)) x a).1 (M 6))) (M 7) x a sn ⟨hs, hs4⟩ n hy.mN hy.okR
  rw [k_eta (w_M7 (z_Rel.P6 h 1) (z_Rel.P6 h 0)), ← hf.1] at h5
  exact ⟨_, _, _, _, h4, h5, hf.2⟩
theorem L_price (hj : g_inj ad) (h : z_Rc P M c) (h0 : 0 ≤ c) (h1 : c ≤ 511) (x y : Int32) : ∃ (fr : Int32) (P1 : g_P) (M1 M2 : g_M), g_Ci l yX4_price cX4_price 3 (some .int) rm_X4_price D tb ad [.ref (ad 6 0), .int x, .int y] P M fr P1 M1 ∧ g_Ci l yX5_price cX5_price 3 (some .int) rm_X5_price D tb ad [.ref (ad 7 0), .int x, .int y] P1 M1 fr P1 M2 ∧ z_Rc P1 M2 (c + 1) := by
  obtain ⟨n, sn, hz, hs, hs4⟩ := z_Rel.get h
  have hy : y_1 (M 7 1) n := hz.choose_spec.2.1
  have hb := x_beg hz
  have hb1 : (-(990000 * c)) - 990000 = -(990000 * (c + 1)) := by omega
  have hsim : z_S (M (P 0)) (m_begins (M 7)) (q_price (M (P 0)) x y) (m_prices (m_begins (M 7)) x y) (61 * (c + 1)) (-(990000 * (c + 1))) (3960000 * (c + 1)) := z_S.mono (s_price hb) (by omega) (by omega) (by omega)
  have hf := f_act (R := m_price (M 7) x y sn) h rfl rfl rfl rfl ⟨hs, hs4⟩ hsim (by omega) (by omega) (by omega) (fun c hc => m_prices_c hc) (Or.inr (by unfold m_price; with_reducible rfl))
  have h4 := c_X4_price l D tb ad hj P M x y (z_Rel.P6 h) (z_Rel.ne h (by decide) (by decide) (by decide)) _ rfl _ rfl _ rfl
  have h5 := c_X5_price l D tb ad hj (q_recdP (q_price (M (P 0)) x y).1 P) (va_up (va_up (va_up M (P 1) (q_copy (M (P 1)) (M (P 0)))) (P 0) (q_price (M (P 0)) x y).2) 6 (q_recdG (q_price (M (P 0)) x y).1 (M 6))) (M 7) x y sn ⟨hs, hs4⟩
  rw [k_eta (w_M7 (z_Rel.P6 h 1) (z_Rel.P6 h 0)), ← hf.1] at h5
  exact ⟨_, _, _, _, h4, h5, hf.2⟩
theorem L_call (hj : g_inj ad) (h : z_Rc P M c) (h0 : 0 ≤ c) (h1 : c ≤ 511) (le : Int32) : ∃ (fr : Int32) (P1 : g_P) (M1 M2 : g_M), g_Ci l yX4_call cX4_call 2 (some .int) rm_X4_call D tb ad [.ref (ad 6 0), .int le] P M fr P1 M1 ∧ g_Ci l yX5_call cX5_call 2 (some .int) rm_X5_call D tb ad [.ref (ad 7 0), .int le] P1 M1 fr P1 M2 ∧ z_Rc P1 M2 (c + 1) := by
  obtain ⟨n, sn, hz, hs, hs4⟩ := z_Rel.get h
  have hy : y_1 (M 7 1) n := hz.choose_spec.2.1
  have hb := x_beg hz
  have hb1 : (-(990000 * c)) - 990000 = -(990000 * (c + 1)) := by omega
  have hsim : z_S (M (P 0)) (m_begins (M 7)) (q_call (M (P 0)) le) (m_calls (m_begins (M 7)) le n) (61 * (c + 1)) (-(990000 * (c + 1))) (3960000 * (c + 1)) := z_S.mono (s_call hb) (by omega) (by omega) (by omega)
  have hf := f_act (R := m_call (M 7) le sn n) h rfl rfl rfl rfl ⟨hs, hs4⟩ hsim (by omega) (by omega) (by omega) (fun c hc => m_calls_c hc) (Or.inr (by unfold m_call; with_reducible rfl))
  have h4 := c_X4_call l D tb ad hj P M le (z_Rel.P6 h) (z_Rel.ne h (by decide) (by decide) (by decide)) _ rfl _ rfl _ rfl
  have h5 := c_X5_call l D tb ad hj (q_recdP (q_call (M (P 0)) le).1 P) (va_up (va_up (va_up M (P 1) (q_copy (M (P 1)) (M (P 0)))) (P 0) (q_call (M (P 0)) le).2) 6 (q_recdG (q_call (M (P 0)) le).1 (M 6))) (M 7) le sn ⟨hs, hs4⟩ n hy.mN
  rw [k_eta (w_M7 (z_Rel.P6 h 1) (z_Rel.P6 h 0)), ← hf.1] at h5
  exact ⟨_, _, _, _, h4, h5, hf.2⟩
theorem L_pass (hj : g_inj ad) (h : z_Rc P M c) (h0 : 0 ≤ c) (h1 : c ≤ 511) (d : Int32) : ∃ (fr : Int32) (P1 : g_P) (M1 M2 : g_M), g_Ci l yX4_pass cX4_pass 2 (some .int) rm_X4_pass D tb ad [.ref (ad 6 0), .int d] P M fr P1 M1 ∧ g_Ci l yX5_pass cX5_pass 2 (some .int) rm_X5_pass D tb ad [.ref (ad 7 0), .int d] P1 M1 fr P1 M2 ∧ z_Rc P1 M2 (c + 1) := by
  obtain ⟨n, sn, hz, hs, hs4⟩ := z_Rel.get h
  have hy : y_1 (M 7 1) n := hz.choose_spec.2.1
  have hb := x_beg hz
  have hb1 : (-(990000 * c)) - 990000 = -(990000 * (c + 1)) := by omega
  have hsim : z_S (M (P 0)) (m_begins (M 7)) (q_pass (M (P 0)) d) (m_lets (m_begins (M 7)) d n) (61 * (c + 1)) (-(990000 * (c + 1))) (3960000 * (c + 1)) := z_S.mono (s_pass hb) (by omega) (by omega) (by omega)
  have hf := f_act (R := m_pass (M 7) d sn n) h rfl rfl rfl rfl ⟨hs, hs4⟩ hsim (by omega) (by omega) (by omega) (fun c hc => m_lets_c hc) (Or.inr (by unfold m_pass; with_reducible rfl))
  have h4 := c_X4_pass l D tb ad hj P M d (z_Rel.P6 h) (z_Rel.ne h (by decide) (by decide) (by decide)) _ rfl _ rfl _ rfl
  have h5 := c_X5_pass l D tb ad hj (q_recdP (q_pass (M (P 0)) d).1 P) (va_up (va_up (va_up M (P 1) (q_copy (M (P 1)) (M (P 0)))) (P 0) (q_pass (M (P 0)) d).2) 6 (q_recdG (q_pass (M (P 0)) d).1 (M 6))) (M 7) d sn ⟨hs, hs4⟩ n hy.mN hy.okL
  rw [k_eta (w_M7 (z_Rel.P6 h 1) (z_Rel.P6 h 0)), ← hf.1] at h5
  exact ⟨_, _, _, _, h4, h5, hf.2⟩
theorem L_lose (hj : g_inj ad) (h : z_Rc P M c) (h0 : 0 ≤ c) (h1 : c ≤ 511) (bn a : Int32) : ∃ (fr : Int32) (P1 : g_P) (M1 M2 : g_M), g_Ci l yX4_lose cX4_lose 3 (some .int) rm_X4_lose D tb ad [.ref (ad 6 0), .int bn, .int a] P M fr P1 M1 ∧ g_Ci l yX5_lose cX5_lose 3 (some .int) rm_X5_lose D tb ad [.ref (ad 7 0), .int bn, .int a] P1 M1 fr P1 M2 ∧ z_Rc P1 M2 (c + 1) := by
  obtain ⟨n, sn, hz, hs, hs4⟩ := z_Rel.get h
  have hy : y_1 (M 7 1) n := hz.choose_spec.2.1
  have hb := x_beg hz
  have hb1 : (-(990000 * c)) - 990000 = -(990000 * (c + 1)) := by omega
  have hsim : z_S (M (P 0)) (m_begins (M 7)) (q_lose (M (P 0)) bn a) (m_loses (m_begins (M 7)) bn a n) (61 * (c + 1)) (-(990000 * (c + 1))) (3960000 * (c + 1)) := z_S.mono (s_lose hb) (by omega) (by omega) (by omega)
  have hf := f_act (R := m_lose (M 7) bn a sn n) h rfl rfl rfl rfl ⟨hs, hs4⟩ hsim (by omega) (by omega) (by omega) (fun c hc => hk_lose c hc) fc_lose
  have h4 := c_X4_lose l D tb ad hj P M bn a (z_Rel.P6 h) (z_Rel.ne h (by decide) (by decide) (by decide)) _ rfl _ rfl _ rfl (hz.choose_spec.1.okG hy)
  have h5 := c_X5_lose l D tb ad hj (q_recdP (q_lose (M (P 0)) bn a).1 P) (va_up (va_up (va_up M (P 1) (q_copy (M (P 1)) (M (P 0)))) (P 0) (q_lose (M (P 0)) bn a).2) 6 (q_recdG (q_lose (M (P 0)) bn a).1 (M 6))) (M 7) bn a sn ⟨hs, hs4⟩ n hy.mN
  rw [k_eta (w_M7 (z_Rel.P6 h 1) (z_Rel.P6 h 0)), ← hf.1] at h5
  exact ⟨_, _, _, _, h4, h5, hf.2⟩
theorem L_regrade (hj : g_inj ad) (h : z_Rc P M c) (h0 : 0 ≤ c) (h1 : c ≤ 511) (bn x : Int32) : ∃ (fr : Int32) (P1 : g_P) (M1 M2 : g_M), g_Ci l yX4_regrade cX4_regrade 3 (some .int) rm_X4_regrade D tb ad [.ref (ad 6 0), .int bn, .int x] P M fr P1 M1 ∧ g_Ci l yX5_regrade cX5_regrade 4 (some .int) rm_X5_regrade D tb ad [.ref (ad 7 0), .int bn, .int x] P1 M1 fr P1 M2 ∧ z_Rc P1 M2 (c + 1) := by
  obtain ⟨n, sn, hz, hs, hs4⟩ := z_Rel.get h
  have hy : y_1 (M 7 1) n := hz.choose_spec.2.1
  have hb := x_beg hz
  have hb1 : (-(990000 * c)) - 990000 = -(990000 * (c + 1)) := by omega
  have hsim : z_S (M (P 0)) (m_begins (M 7)) (q_regrade (M (P 0)) bn x) (m_regrades (m_begins (M 7)) bn x n) (61 * (c + 1)) (-(990000 * (c + 1))) (3960000 * (c + 1)) := z_S.mono (s_regrade hb) (by omega) (by omega) (by omega)
  have hf := f_act (R := m_regrade (M 7) bn x sn n) h rfl rfl rfl rfl ⟨hs, hs4⟩ hsim (by omega) (by omega) (by omega) (fun c hc => hk_regrade c hc) fc_regrade
  have h4 := c_X4_regrade l D tb ad hj P M bn x (z_Rel.P6 h) (z_Rel.ne h (by decide) (by decide) (by decide)) _ rfl _ rfl _ rfl (hz.choose_spec.1.okG hy)
  have h5 := c_X5_regrade l D tb ad hj (q_recdP (q_regrade (M (P 0)) bn x).1 P) (va_up (va_up (va_up M (P 1) (q_copy (M (P 1)) (M (P 0)))) (P 0) (q_regrade (M (P 0)) bn x).2) 6 (q_recdG (q_regrade (M (P 0)) bn x).1 (M 6))) (M 7) bn x sn ⟨hs, hs4⟩ n hy.mN
  rw [k_eta (w_M7 (z_Rel.P6 h 1) (z_Rel.P6 h 0)), ← hf.1] at h5
  exact ⟨_, _, _, _, h4, h5, hf.2⟩
theorem L_set (hj : g_inj ad) (h : z_Rc P M c) (h0 : 0 ≤ c) (h1 : c ≤ 511) (x y : Int32) : ∃ (fr : Int32) (P1 : g_P) (M1 M2 : g_M), g_Ci l yX4_set cX4_set 3 (some .int) rm_X4_set D tb ad [.ref (ad 6 0), .int x, .int y] P M fr P1 M1 ∧ g_Ci l yX5_set cX5_set 6 (some .int) rm_X5_set D tb ad [.ref (ad 7 0), .int x, .int y] P1 M1 fr P1 M2 ∧ z_Rc P1 M2 (c + 1) := by
  obtain ⟨n, sn, hz, hs, hs4⟩ := z_Rel.get h
  have hy : y_1 (M 7 1) n := hz.choose_spec.2.1
  have hb := x_beg hz
  have hb1 : (-(990000 * c)) - 990000 = -(990000 * (c + 1)) := by omega
  have hsim : z_S (M (P 0)) (m_begins (M 7)) (q_set (M (P 0)) x y) (m_sets (m_begins (M 7)) x y) (61 * (c + 1)) (-(990000 * (c + 1))) (3960000 * (c + 1)) := z_S.mono (s_set hb) (by omega) (by omega) (by omega)
  have hf := f_act (R := m_set (M 7) x y sn) h rfl rfl rfl rfl ⟨hs, hs4⟩ hsim (by omega) (by omega) (by omega) (fun c hc => hk_set c hc) fc_set
  have h4 := c_X4_set l D tb ad hj P M x y (z_Rel.P6 h) (z_Rel.ne h (by decide) (by decide) (by decide)) _ rfl _ rfl _ rfl
  have h5 := c_X5_set l D tb ad hj (q_recdP (q_set (M (P 0)) x y).1 P) (va_up (va_up (va_up M (P 1) (q_copy (M (P 1)) (M (P 0)))) (P 0) (q_set (M (P 0)) x y).2) 6 (q_recdG (q_set (M (P 0)) x y).1 (M 6))) (M 7) x y sn ⟨hs, hs4⟩
  rw [k_eta (w_M7 (z_Rel.P6 h 1) (z_Rel.P6 h 0)), ← hf.1] at h5
  exact ⟨_, _, _, _, h4, h5, hf.2⟩
theorem L_receiptOf (hj : g_inj ad) (h : z_Rc P M c) (h0 : 0 ≤ c) (h1 : c ≤ 511) (x w : Int32) : ∃ (fr : Int32) (P1 : g_P) (M1 M2 : g_M), g_Ci l yX4_receiptOf cX4_receiptOf 3 (some .int) rm_X4_receiptOf D tb ad [.ref (ad 6 0), .int x, .int w] P M fr P1 M1 ∧ g_Ci l yX5_receiptOf cX5_receiptOf 4 (some .int) rm_X5_receiptOf D tb ad [.ref (ad 7 0), .int x, .int w] P1 M1 fr P1 M2 ∧ z_Rc P1 M2 (c + 1) := by
  obtain ⟨n, sn, hz, hs, hs4⟩ := z_Rel.get h
  have hy : y_1 (M 7 1) n := hz.choose_spec.2.1
  have hL := hz.choose_spec.1
  have e := (t_receiptOf (x := x) (w := w) hz)
  have h4 := c_X4_receiptOf l D tb ad hj P M x w (z_Rel.P6 h) _ rfl (z_ratioV hL hy)
  have h5 := c_X5_receiptOf l D tb ad hj P M (M 7) x w n hy.mN (fun a ha => z_ratio hy ha)
  rw [g_eta, ← e] at h5
  exact ⟨_, _, _, _, h4, h5, z_Rc.up h h0⟩
theorem L_receipt (hj : g_inj ad) (h : z_Rc P M c) (h0 : 0 ≤ c) (h1 : c ≤ 511) (x : Int32) : ∃ (fr : Int32) (P1 : g_P) (M1 M2 : g_M), g_Ci l yX4_receipt cX4_receipt 2 (some .int) rm_X4_receipt D tb ad [.ref (ad 6 0), .int x] P M fr P1 M1 ∧ g_Ci l yX5_receipt cX5_receipt 2 (some .int) rm_X5_receipt D tb ad [.ref (ad 7 0), .int x] P1 M1 fr P1 M2 ∧ z_Rc P1 M2 (c + 1) := by
  obtain ⟨n, sn, hz, hs, hs4⟩ := z_Rel.get h
  have hy : y_1 (M 7 1) n := hz.choose_spec.2.1
  have hL := hz.choose_spec.1
  have e := (t_receipt (x := x) hz)
  have h4 := c_X4_receipt l D tb ad hj P M x (z_Rel.P6 h) _ rfl
  have h5 := c_X5_receipt l D tb ad hj P M (M 7) x n hy.mN
  rw [g_eta, ← e] at h5
  exact ⟨_, _, _, _, h4, h5, z_Rc.up h h0⟩
theorem L_binOf (hj : g_inj ad) (h : z_Rc P M c) (h0 : 0 ≤ c) (h1 : c ≤ 511) (x w : Int32) : ∃ (fr : Int32) (P1 : g_P) (M1 M2 : g_M), g_Ci l yX4_binOf cX4_binOf 3 (some .int) rm_X4_binOf D tb ad [.ref (ad 6 0), .int x, .int w] P M fr P1 M1 ∧ g_Ci l yX5_binOf cX5_binOf 3 (some .int) rm_X5_binOf D tb ad [.ref (ad 7 0), .int x, .int w] P1 M1 fr P1 M2 ∧ z_Rc P1 M2 (c + 1) := by
  obtain ⟨n, sn, hz, hs, hs4⟩ := z_Rel.get h
  have hy : y_1 (M 7 1) n := hz.choose_spec.2.1
  have hL := hz.choose_spec.1
  have e := (t_binOf (bn := x) (w := w) hz)
  have h4 := c_X4_binOf l D tb ad hj P M x w (z_Rel.P6 h) _ rfl (hL.okG hy)
  have h5 := c_X5_binOf l D tb ad hj P M (M 7) x w n hy.mN hy.okG
  rw [g_eta, ← e] at h5
  exact ⟨_, _, _, _, h4, h5, z_Rc.up h h0⟩
theorem L_gradeOf (hj : g_inj ad) (h : z_Rc P M c) (h0 : 0 ≤ c) (h1 : c ≤ 511) (x w : Int32) : ∃ (fr : Int32) (P1 : g_P) (M1 M2 : g_M), g_Ci l yX4_gradeOf cX4_gradeOf 3 (some .int) rm_X4_gradeOf D tb ad [.ref (ad 6 0), .int x, .int w] P M fr P1 M1 ∧ g_Ci l yX5_gradeOf cX5_gradeOf 3 (some .int) rm_X5_gradeOf D tb ad [.ref (ad 7 0), .int x, .int w] P1 M1 fr P1 M2 ∧ z_Rc P1 M2 (c + 1) := by
  obtain ⟨n, sn, hz, hs, hs4⟩ := z_Rel.get h
  have hy : y_1 (M 7 1) n := hz.choose_spec.2.1
  have hL := hz.choose_spec.1
  have e := (t_gradeOf (x := x) (w := w) hz)
  have h4 := c_X4_gradeOf l D tb ad hj P M x w (z_Rel.P6 h) _ rfl
  have h5 := c_X5_gradeOf l D tb ad hj P M (M 7) x w n hy.mN
  rw [g_eta, ← e] at h5
  exact ⟨_, _, _, _, h4, h5, z_Rc.up h h0⟩
theorem L_ownerOf (hj : g_inj ad) (h : z_Rc P M c) (h0 : 0 ≤ c) (h1 : c ≤ 511) (x w : Int32) : ∃ (fr : Int32) (P1 : g_P) (M1 M2 : g_M), g_Ci l yX4_ownerOf cX4_ownerOf 3 (some .int) rm_X4_ownerOf D tb ad [.ref (ad 6 0), .int x, .int w] P M fr P1 M1 ∧ g_Ci l yX5_ownerOf cX5_ownerOf 8 (some .int) rm_X5_ownerOf D tb ad [.ref (ad 7 0), .int x, .int w] P1 M1 fr P1 M2 ∧ z_Rc P1 M2 (c + 1) := by
  obtain ⟨n, sn, hz, hs, hs4⟩ := z_Rel.get h
  have hy : y_1 (M 7 1) n := hz.choose_spec.2.1
  have hL := hz.choose_spec.1
  have e := (t_ownerOf (o := x) (w := w) hz)
  have h4 := c_X4_ownerOf l D tb ad hj P M x w (z_Rel.P6 h) _ rfl
  have h5 := c_X5_ownerOf l D tb ad hj P M (M 7) x w n hy.mN hy.okR
  rw [g_eta, ← e] at h5
  exact ⟨_, _, _, _, h4, h5, z_Rc.up h h0⟩
theorem L_lenderOf (hj : g_inj ad) (h : z_Rc P M c) (h0 : 0 ≤ c) (h1 : c ≤ 511) (x w : Int32) : ∃ (fr : Int32) (P1 : g_P) (M1 M2 : g_M), g_Ci l yX4_lenderOf cX4_lenderOf 3 (some .int) rm_X4_lenderOf D tb ad [.ref (ad 6 0), .int x, .int w] P M fr P1 M1 ∧ g_Ci l yX5_lenderOf cX5_lenderOf 6 (some .int) rm_X5_lenderOf D tb ad [.ref (ad 7 0), .int x, .int w] P1 M1 fr P1 M2 ∧ z_Rc P1 M2 (c + 1) := by
  obtain ⟨n, sn, hz, hs, hs4⟩ := z_Rel.get h
  have hy : y_1 (M 7 1) n := hz.choose_spec.2.1
  have hL := hz.choose_spec.1
  have e := (t_lenderOf (le := x) (w := w) hz)
  have h4 := c_X4_lenderOf l D tb ad hj P M x w (z_Rel.P6 h) _ rfl
  have h5 := c_X5_lenderOf l D tb ad hj P M (M 7) x w n hy.mN
  rw [g_eta, ← e] at h5
  exact ⟨_, _, _, _, h4, h5, z_Rc.up h h0⟩
theorem L_fallTo (hj : g_inj ad) (h : z_Rc P M c) (h0 : 0 ≤ c) (h1 : c ≤ 511) (x : Int32) : ∃ (fr : Int32) (P1 : g_P) (M1 M2 : g_M), g_Ci l yX4_fallTo cX4_fallTo 2 (some .int) rm_X4_fallTo D tb ad [.ref (ad 6 0), .int x] P M fr P1 M1 ∧ g_Ci l yX5_fallTo cX5_fallTo 3 (some .int) rm_X5_fallTo D tb ad [.ref (ad 7 0), .int x] P1 M1 fr P1 M2 ∧ z_Rc P1 M2 (c + 1) := by
  obtain ⟨n, sn, hz, hs, hs4⟩ := z_Rel.get h
  have hy : y_1 (M 7 1) n := hz.choose_spec.2.1
  have hL := hz.choose_spec.1
  have e := (t_fallTo (le := x) hz)
  have h4 := c_X4_fallTo l D tb ad hj P M x (z_Rel.P6 h) _ rfl
  have h5 := c_X5_fallTo l D tb ad hj P M (M 7) x n hy.mN
  rw [g_eta, ← e] at h5
  exact ⟨_, _, _, _, h4, h5, z_Rc.up h h0⟩
theorem L_count (hj : g_inj ad) (h : z_Rc P M c) (h0 : 0 ≤ c) (h1 : c ≤ 511) (x : Int32) : ∃ (fr : Int32) (P1 : g_P) (M1 M2 : g_M), g_Ci l yX4_count cX4_count 2 (some .int) rm_X4_count D tb ad [.ref (ad 6 0), .int x] P M fr P1 M1 ∧ g_Ci l yX5_count cX5_count 2 (some .int) rm_X5_count D tb ad [.ref (ad 7 0), .int x] P1 M1 fr P1 M2 ∧ z_Rc P1 M2 (c + 1) := by
  obtain ⟨n, sn, hz, hs, hs4⟩ := z_Rel.get h
  have hy : y_1 (M 7 1) n := hz.choose_spec.2.1
  have hh := h
  obtain ⟨hP, ⟨ln, t1, t2, -⟩, s, a, b, -⟩ := hh
  have e : (if x = 8 then M 6 0 2 else if x = 9 then M 6 1 2 else q_tellNumber (M (P 0)) x) = m_count (M 7) x n := by
    by_cases c8 : x = 8
    · subst c8
      rw [if_pos rfl, a, ← b]
      rfl
    · rw [if_neg c8]
      by_cases c9 : x = 9
      · subst c9
        rw [if_pos rfl, t1, ← t2]
        rfl
      · rw [if_neg c9]
        exact t_count hz c8 c9
  have h4 := c_X4_count l D tb ad hj P M x (z_Rel.P6 h) _ rfl _ rfl
  have h5 := c_X5_count l D tb ad hj P M (M 7) x n hy.mN
  rw [g_eta, ← e] at h5
  exact ⟨_, _, _, _, h4, h5, z_Rc.up h h0⟩
theorem L_undo (hj : g_inj ad) (h : z_Rc P M c) (h0 : 0 ≤ c) (h1 : c ≤ 511) : ∃ (fr : Int32) (P1 : g_P) (M1 M2 : g_M), g_Ci l yX4_undo cX4_undo 3 (some .int) rm_X4_undo D tb ad [.ref (ad 6 0)] P M fr P1 M1 ∧ g_Ci l yX5_undo cX5_undo 2 (some .int) rm_X5_undo D tb ad [.ref (ad 7 0)] P1 M1 fr P1 M2 ∧ z_Rc P1 M2 (c + 1) := by
  obtain ⟨n, sn, hz, hs, hs4⟩ := z_Rel.get h
  obtain ⟨e, hr⟩ := z_undo h rfl rfl
  have h4 := c_X4_undo l D tb ad hj P M (z_Rel.P6 h) _ rfl
  have h5 := c_X5_undo l D tb ad hj (if 0 < M 6 0 2 then q_undoP P else P) (va_up M 6 (if 0 < M 6 0 2 then g_w2 (M 6) 0 2 (M 6 0 2 - 1) else M 6)) (M 7) sn ⟨hs, hs4⟩
  rw [k_eta w_M71, ← e] at h5
  exact ⟨_, _, _, _, h4, h5, z_Rc.cut hr (by omega) (by omega) (by omega)⟩
theorem L_type (hj : g_inj ad) (h : z_Rc P M c) (h0 : 0 ≤ c) (h1 : c ≤ 511) (x : Int32) : ∃ (fr : Int32) (P1 : g_P) (M1 M2 : g_M), g_Ci l yX4_type cX4_type 2 (some .int) rm_X4_type D tb ad [.ref (ad 6 0), .int x] P M fr P1 M1 ∧ g_Ci l yX5_type cX5_type 2 (some .int) rm_X5_type D tb ad [.ref (ad 7 0), .int x] P1 M1 fr P1 M2 ∧ z_Rc P1 M2 (c + 1) := by
  obtain ⟨e, hr⟩ := z_type (ch := x) h rfl rfl
  have hh := h
  obtain ⟨hP, ⟨ln, t1, t2, t3, -⟩, -⟩ := hh
  have h4 := c_X4_type l D tb ad hj P M x _ rfl
  have h5 := c_X5_type l D tb ad hj P (va_up M 6 (q_append (M 6) x).2) (M 7) x ln ⟨t2, t3⟩
  rw [k_eta w_M71, ← e] at h5
  exact ⟨_, _, _, _, h4, h5, z_Rc.cut hr (by omega) (by omega) (by omega)⟩
theorem L_clearText (hj : g_inj ad) (h : z_Rc P M c) (h0 : 0 ≤ c) (h1 : c ≤ 511) : ∃ (fr : Int32) (P1 : g_P) (M1 M2 : g_M), g_Ci l yX4_clearText cX4_clearText 2 (some .int) rm_X4_clearText D tb ad [.ref (ad 6 0)] P M fr P1 M1 ∧ g_Ci l yX5_clearText cX5_clearText 2 (some .int) rm_X5_clearText D tb ad [.ref (ad 7 0)] P1 M1 fr P1 M2 ∧ z_Rc P1 M2 (c + 1) := by
  obtain ⟨e, hr⟩ := z_clear h rfl rfl
  have h4 := c_X4_clearText l D tb ad hj P M _ rfl
  have h5 := c_X5_clearText l D tb ad hj P (va_up M 6 (g_w2 (M 6) 1 2 0)) (M 7)
  rw [k_eta w_M71, ← e] at h5
  exact ⟨_, _, _, _, h4, h5, z_Rc.cut hr (by omega) (by omega) (by omega)⟩
theorem L_fault (hj : g_inj ad) (h : z_Rc P M c) (h0 : 0 ≤ c) (h1 : c ≤ 511) (w : Int32) : ∃ (fr : Int32) (P1 : g_P) (M1 M2 : g_M), g_Ci l yX4_fault cX4_fault 2 (some .int) rm_X4_fault D tb ad [.ref (ad 6 0), .int w] P M fr P1 M1 ∧ g_Ci l yX5_fault cX5_fault 3 (some .int) rm_X5_fault D tb ad [.ref (ad 7 0), .int w] P1 M1 fr P1 M2 ∧ z_Rc P1 M2 (c + 1) := by
  obtain ⟨n, sn, hz, hs, hs4⟩ := z_Rel.get h
  have hy : y_1 (M 7 1) n := hz.choose_spec.2.1
  have hc : z_R (q_copy (M (P 1)) (M (P 0))) (M 7 1) n (61 * c) (-(990000 * c)) (3960000 * c) := hz.cong (fun _ _ hp => q_copy_v hp) (fun _ _ => rfl)
  have hJ : q_okR (q_copy (M (P 1)) (M (P 0))) := hc.choose_spec.1.okR hy
  have hh := h
  obtain ⟨hP, ⟨ln, t1, t2, t3, t4, t5⟩, -⟩ := hh
  obtain ⟨e, hr⟩ := z_fault (w := w) h rfl rfl rfl rfl (by omega) (by omega) (by omega)
  have h4 := c_X4_fault l D tb ad hj P M w (z_Rel.P6 h) (z_Rel.ne h (by decide) (by decide) (by decide)) _ rfl _ rfl _ rfl q_okR (fun _ h => h) (fun _ _ _ h => h.order) hJ t5
  have h5 := c_X5_fault l D tb ad hj P (va_up (va_up M (P 1) (if w < 0 then M (P 1) else if w ≤ 2 then (q_orders (q_copy (M (P 1)) (M (P 0))) (M 6)).2 else M (P 1))) 6 (if w < 0 then M 6 else if w ≤ 2 then (q_orders (q_copy (M (P 1)) (M (P 0))) (M 6)).1 else M 6)) (M 7) w ln t2 t3 m_J m_J1 m_J2 ⟨n, hy⟩
  rw [k_eta (w_M72 (z_Rel.P6 h 1)), ← e] at h5
  exact ⟨_, _, _, _, h4, h5, z_Rc.cut hr (by omega) (by omega) (by omega)⟩
theorem L_play (hj : g_inj ad) (h : z_Rc P M c) (h0 : 0 ≤ c) (h1 : c ≤ 511) : ∃ (fr : Int32) (P1 : g_P) (M1 M2 : g_M), g_Ci l yX4_play cX4_play 2 (some .int) rm_X4_play D tb ad [.ref (ad 6 0)] P M fr P1 M1 ∧ g_Ci l yX5_play cX5_play 1 (some .int) rm_X5_play D tb ad [.ref (ad 7 0)] P1 M1 fr P1 M2 ∧ z_Rc P1 M2 (c + 1) := by
  obtain ⟨n, sn, hz, hs, hs4⟩ := z_Rel.get h
  have hy : y_1 (M 7 1) n := hz.choose_spec.2.1
  have hc : z_R (q_copy (M (P 1)) (M (P 0))) (M 7 1) n (61 * c) (-(990000 * c)) (3960000 * c) := hz.cong (fun _ _ hp => q_copy_v hp) (fun _ _ => rfl)
  have hJ : q_okR (q_copy (M (P 1)) (M (P 0))) := hc.choose_spec.1.okR hy
  have hh := h
  obtain ⟨hP, ⟨ln, t1, t2, t3, t4, t5⟩, -⟩ := hh
  obtain ⟨e, hr⟩ := z_play h rfl rfl rfl rfl ⟨hs, hs4⟩ (by omega) (by omega) (by omega)
  have h4 := c_X4_play l D tb ad hj P M (z_Rel.P6 h) (z_Rel.ne h (by decide) (by decide) (by decide)) _ rfl _ rfl _ rfl q_okR (fun _ h => h) (fun _ _ _ h => h.order) hJ t5
  have h5 := c_X5_play l D tb ad hj (if (q_orders (q_copy (M (P 1)) (M (P 0))) (M 6)).1 1 6 = 0 then q_recP (va_up (va_up P 0 (P 1)) 1 (P 0)) else P) (va_up (va_up M (P 1) (q_orders (q_copy (M (P 1)) (M (P 0))) (M 6)).2) 6 (if (q_orders (q_copy (M (P 1)) (M (P 0))) (M 6)).1 1 6 = 0 then q_histUp (q_orders (q_copy (M (P 1)) (M (P 0))) (M 6)).1 else (q_orders (q_copy (M (P 1)) (M (P 0))) (M 6)).1)) (M 7) ln t2 t3 m_J m_J1 m_J2 ⟨n, hy⟩ sn ⟨hs, hs4⟩
  rw [k_eta (w_M72 (z_Rel.P6 h 1)), ← e] at h5
  exact ⟨_, _, _, _, h4, h5, z_Rc.cut hr (by omega) (by omega) (by omega)⟩
end LC
