/-! ===== what an act leaves: the state before is the state now, or the first of the history ===== -/
def z_Rc (P : g_P) (M : g_M) (c : Int) : Prop := z_Rel P M (61 * c) (-(990000 * c)) (3960000 * c)
theorem z_Rc.up {P : g_P} {M : g_M} {c : Int} (h : z_Rc P M c) (h0 : 0 ≤ c) : z_Rc P M (c + 1) := z_Rel.mono h (by omega) (by omega) (by omega)
def z_In (P : g_P) (M : g_M) (c : Int) : Prop := z_Rc P M c ∧ v_I P M
def z_same (V V' : g_V) : Prop := ∃ (S : Nat → Int32) (n : Nat) (mb lo hi : Int), z_R V S n mb lo hi ∧ z_R V' S n mb lo hi
def z_Step (P : g_P) (M : g_M) (P1 : g_P) (M1 : g_M) : Prop := ∃ h h' : Nat, h ≤ 4 ∧ h' ≤ 4 ∧ M 6 0 2 = nI h ∧ M1 6 0 2 = nI h' ∧ ((h' = h ∧ z_same (M (P 0)) (M1 (P1 0))) ∨ (h' = min (h + 1) 4 ∧ z_same (M (P 0)) (M1 (P1 2))))
/-- after an act with the row's answer and end B -/
def z_O (P : g_P) (M : g_M) (c : Int) (B : Int32 × g_V) (P1 : g_P) (M1 : g_M) : Prop :=
  z_In P1 M1 (c + 1) ∧ z_Step P M P1 M1 ∧ ((z_err B.1 ∧ ∀ x, x < 146 → M1 7 1 x = M 7 1 x) ∨ (z_good B.1 ∧ M1 7 1 = B.2 1))
section ZO
variable {P : g_P} {M : g_M} {V S G W W' : g_V} {mb lo hi mb' lo' hi' c : Int} {n sn : Nat}
theorem f_v4 {A B : Int32 × g_V} (h : z_Rel P M mb lo hi) (hV : M (P 0) = V) (hv : v_I P M) (hA : v_4 A.2) (hsim : z_S V (m_begins W) A B mb' lo' hi') {G' W' : g_V} : v_I (q_recdP A.1 P) (va_up (va_up (va_up (va_up M (P 1) (q_copy S V)) (P 0) A.2) 6 G') 7 W') := by
  have hP := h.1
  have mr : ∀ (X : g_M) (Y Z : g_V) (r : Nat), r < 6 → va_up (va_up X 6 Y) 7 Z r = X r := fun X Y Z r hr => by rw [va_up_ne _ _ (by omega), va_up_ne _ _ (by omega)]
  have key : ∀ i, i < 6 → i ≠ 1 → v_4 (va_up (va_up (va_up (va_up M (P 1) (q_copy S V)) (P 0) A.2) 6 G') 7 W' (P i)) := fun i hi h1 => by
    rw [mr _ _ _ _ (hP.1 i)]
    by_cases e : i = 0
    · subst e; rw [va_up_self]; exact hA
    · rw [va_up_ne _ _ (fun z => e (hP.2 i 0 hi (by decide) z)), va_up_ne _ _ (fun z => h1 (hP.2 i 1 hi (by decide) z))]
      exact hv i hi h1
  unfold q_recdP
  by_cases ek : k_isError A.1
  · rw [if_pos ek]; exact key
  · rw [if_neg ek]
    obtain ⟨r0, r1, r2, r3, r4, r5⟩ := q_recP_v P
    intro i hi h1
    rcases (show i = 0 ∨ i = 2 ∨ i = 3 ∨ i = 4 ∨ i = 5 by omega) with rfl | rfl | rfl | rfl | rfl
    · rw [r0]; exact key 0 (by decide) (by decide)
    · rw [r2, mr _ _ _ _ (hP.1 1), va_up_ne _ _ (fun z => by have := hP.2 1 0 (by decide) (by decide) z; omega), va_up_self]
      refine v_4.cpy ?_
      rw [← hV]; exact hv 0 (by decide) (by decide)
    · rw [r3]; exact key 2 (by decide) (by decide)
    · rw [r4]; exact key 3 (by decide) (by decide)
    · rw [r5]; exact key 4 (by decide) (by decide)
theorem f_step {A B : Int32 × g_V} (h : z_Rel P M mb lo hi) (hV : M (P 0) = V) (hG : M 6 = G) (hsim : z_S V (m_begins W) A B mb' lo' hi') {W' : g_V} : z_Step P M (q_recdP A.1 P) (va_up (va_up (va_up (va_up M (P 1) (q_copy S V)) (P 0) A.2) 6 (q_recdG A.1 G)) 7 W') := by
  obtain ⟨hP, hT, s, a, b, c, ⟨n, d⟩, e⟩ := h
  have mr : ∀ (X : g_M) (Y Z : g_V) (r : Nat), r < 6 → va_up (va_up X 6 Y) 7 Z r = X r := fun X Y Z r hr => by rw [va_up_ne _ _ (by omega), va_up_ne _ _ (by omega)]
  have m6 : ∀ (X : g_M) (Y Z : g_V), va_up (va_up X 6 Y) 7 Z 6 = Y := fun X Y Z => by rw [va_up_ne _ _ (by decide), va_up_self]
  rw [hG] at a
  obtain ⟨hA, hs⟩ := hsim
  rcases hs with ⟨h1, h2, h3⟩ | ⟨h1, n', h2⟩
  · have ek : k_isError A.1 := by rw [hA]; exact (z_err_k h1).1
    refine ⟨s, s, c, c, by rw [hG]; exact a, ?_, Or.inl ⟨rfl, ?_⟩⟩
    · rw [m6]; unfold q_recdG; rw [if_pos ek]; exact a
    · unfold q_recdP; rw [if_pos ek, mr _ _ _ _ (hP.1 0), va_up_self, h2, ← hV]
      exact ⟨_, _, _, _, _, d, d⟩
  · have ek : ¬ k_isError A.1 := by rw [hA]; exact (z_good_k h1).1
    obtain ⟨r0, r1, r2, r3, r4, r5⟩ := q_recP_v P
    have eh : q_histUp G 0 2 = nI (min (s + 1) 4) := by
      unfold q_histUp
      rw [a]
      by_cases c4 : s = 4
      · subst c4; rw [if_pos (by decide)]; exact a
      · rw [if_neg (show ¬ (4 : Int32) ≤ nI s from nI_ge (a := s) (b := 4) (by omega) (by decide)), w2_at, show min (s + 1) 4 = s + 1 by omega]; exact nI_1 s
    refine ⟨s, min (s + 1) 4, c, by omega, by rw [hG]; exact a, ?_, Or.inr ⟨rfl, ?_⟩⟩
    · rw [m6]; unfold q_recdG; rw [if_neg ek]; exact eh
    · unfold q_recdP
      rw [if_neg ek, r2, mr _ _ _ _ (hP.1 1), va_up_ne _ _ (fun z => by have := hP.2 1 0 (by decide) (by decide) z; omega), va_up_self]
      refine ⟨_, _, _, _, _, d, d.cong (fun _ _ hp => ?_) (fun _ _ => rfl)⟩
      rw [q_copy_v hp, hV]
theorem f_all {A B R : Int32 × g_V} (h : z_In P M c) (h0 : 0 ≤ c) (hsn : (M 7) 0 3 = nI sn ∧ sn ≤ 4) (hsim : z_S (M (P 0)) (m_begins (M 7)) A B (61 * (c + 1)) (-(990000 * (c + 1))) (3960000 * (c + 1))) (hk : ∀ c, c ≠ 1 → B.2 c = m_begins (M 7) c) (hf : x_fc R B (M 7) sn) (hA : v_4 A.2) :
    A.1 = B.1 ∧ z_O P M c B (q_recdP A.1 P) (va_up (va_up (va_up (va_up M (P 1) (q_copy (M (P 1)) (M (P 0)))) (P 0) A.2) 6 (q_recdG A.1 (M 6))) 7 R.2) := by
  have hx := f_act h.1 rfl rfl rfl rfl hsn hsim (by omega) (by omega) (by omega) hk hf
  refine ⟨hsim.1, ⟨hx.2, f_v4 (B := B) h.1 rfl h.2 hA hsim⟩, f_step (B := B) h.1 rfl rfl hsim, ?_⟩
  rw [va_up_self]
  rcases hsim.2 with ⟨h1, -, -⟩ | ⟨h1, -⟩
  · refine Or.inl ⟨h1, fun x hx146 => ?_⟩
    rcases hf with hf | hf
    · exact hf.2.2.2.2.2.2 x hx146
    · rw [hf]
      dsimp only
      rw [m_acted_err h1, m_returns_1 hx146, hk 2 (by decide), m_begins_2 hx146]
  · refine Or.inr ⟨h1, ?_⟩
    rcases hf with hf | hf
    · exact absurd (z_good_k h1).2 (z_err_k hf.1).2
    · rw [hf]
      dsimp only
      exact (m_acted_good (by rw [hk 0 (by decide), m_begins_c (by decide)]; exact hsn.1) hsn.2 h1).1
end ZO
section LO
variable {l : Launch} {D : va_G} {tb : g_T} {ad : g_Ad} {P : g_P} {M : g_M} {c mb lo hi : Int} {n : Nat}
theorem z_Rel.row (h : z_Rel P M mb lo hi) : ∃ n, z_R (M (P 0)) (M 7 1) n mb lo hi := by
  obtain ⟨n, sn, h1, -, -⟩ := h.get
  exact ⟨n, h1⟩
theorem L_store (hj : g_inj ad) (h : z_In P M c) (h0 : 0 ≤ c) (h1 : c ≤ 511) (hz : z_R (M (P 0)) (M 7 1) n (61 * c) (-(990000 * c)) (3960000 * c)) (o x a : Int32) : ∃ (P1 : g_P) (M1 M2 : g_M), g_Ci l yX4_store cX4_store 4 (some .int) rm_X4_store D tb ad [.ref (ad 6 0), .int o, .int x, .int a] P M (m_stores (m_begins (M 7)) o x a n).1 P1 M1 ∧ (∃ W, M2 = va_up M1 7 W) ∧ z_O P M c (m_stores (m_begins (M 7)) o x a n) P1 M2 := by
  obtain ⟨-, sn, -, hs, hs4⟩ := z_Rel.get h.1
  have hy : y_1 (M 7 1) n := hz.choose_spec.2.1
  have hb := x_beg hz
  have hv : v_4 (M (P 0)) := h.2 0 (by decide) (by decide)
  have hsim : z_S (M (P 0)) (m_begins (M 7)) (q_store (M (P 0)) o x a) (m_stores (m_begins (M 7)) o x a n) (61 * (c + 1)) (-(990000 * (c + 1))) (3960000 * (c + 1)) := z_S.mono (s_store hb (by omega)) (by omega) (by omega) (by omega)
  have hf := f_all (R := m_store (M 7) o x a sn n) h h0 ⟨hs, hs4⟩ hsim (fun c hc => m_stores_c hc) (Or.inr (by unfold m_store; with_reducible rfl)) (hv.sto)
  have h4 := c_X4_store l D tb ad hj P M o x a (z_Rel.P6 h.1) (z_Rel.ne h.1 (by decide) (by decide) (by decide)) _ rfl _ rfl _ rfl
  rw [hf.1] at h4 hf
  exact ⟨_, _, _, h4, ⟨_, rfl⟩, hf.2⟩
theorem L_split (hj : g_inj ad) (h : z_In P M c) (h0 : 0 ≤ c) (h1 : c ≤ 511) (hz : z_R (M (P 0)) (M 7 1) n (61 * c) (-(990000 * c)) (3960000 * c)) (x a : Int32) : ∃ (P1 : g_P) (M1 M2 : g_M), g_Ci l yX4_split cX4_split 3 (some .int) rm_X4_split D tb ad [.ref (ad 6 0), .int x, .int a] P M (m_splits (m_begins (M 7)) x a n).1 P1 M1 ∧ (∃ W, M2 = va_up M1 7 W) ∧ z_O P M c (m_splits (m_begins (M 7)) x a n) P1 M2 := by
  obtain ⟨-, sn, -, hs, hs4⟩ := z_Rel.get h.1
  have hy : y_1 (M 7 1) n := hz.choose_spec.2.1
  have hb := x_beg hz
  have hv : v_4 (M (P 0)) := h.2 0 (by decide) (by decide)
  have hsim : z_S (M (P 0)) (m_begins (M 7)) (q_split (M (P 0)) x a) (m_splits (m_begins (M 7)) x a n) (61 * (c + 1)) (-(990000 * (c + 1))) (3960000 * (c + 1)) := z_S.mono (s_split hb (by omega)) (by omega) (by omega) (by omega)
  have hf := f_all (R := m_split (M 7) x a sn n) h h0 ⟨hs, hs4⟩ hsim (fun c hc => m_splits_c hc) (Or.inr (by unfold m_split; with_reducible rfl)) (hv.spl (x := x) (a := a) hz)
  have h4 := c_X4_split l D tb ad hj P M x a (z_Rel.P6 h.1) (z_Rel.ne h.1 (by decide) (by decide) (by decide)) _ rfl _ rfl _ rfl
  rw [hf.1] at h4 hf
  exact ⟨_, _, _, h4, ⟨_, rfl⟩, hf.2⟩
theorem L_join (hj : g_inj ad) (h : z_In P M c) (h0 : 0 ≤ c) (h1 : c ≤ 511) (hz : z_R (M (P 0)) (M 7 1) n (61 * c) (-(990000 * c)) (3960000 * c)) (x z : Int32) : ∃ (P1 : g_P) (M1 M2 : g_M), g_Ci l yX4_join cX4_join 3 (some .int) rm_X4_join D tb ad [.ref (ad 6 0), .int x, .int z] P M (m_joins (m_begins (M 7)) x z n).1 P1 M1 ∧ (∃ W, M2 = va_up M1 7 W) ∧ z_O P M c (m_joins (m_begins (M 7)) x z n) P1 M2 := by
  obtain ⟨-, sn, -, hs, hs4⟩ := z_Rel.get h.1
  have hy : y_1 (M 7 1) n := hz.choose_spec.2.1
  have hb := x_beg hz
  have hv : v_4 (M (P 0)) := h.2 0 (by decide) (by decide)
  have hsim : z_S (M (P 0)) (m_begins (M 7)) (q_join (M (P 0)) x z) (m_joins (m_begins (M 7)) x z n) (61 * (c + 1)) (-(990000 * (c + 1))) (3960000 * (c + 1)) := z_S.mono (s_join hb) (by omega) (by omega) (by omega)
  have hf := f_all (R := m_join (M 7) x z sn n) h h0 ⟨hs, hs4⟩ hsim (fun c hc => m_joins_c hc) (Or.inr (by unfold m_join; with_reducible rfl)) (hv.joi)
  have h4 := c_X4_join l D tb ad hj P M x z (z_Rel.P6 h.1) (z_Rel.ne h.1 (by decide) (by decide) (by decide)) _ rfl _ rfl _ rfl
  rw [hf.1] at h4 hf
  exact ⟨_, _, _, h4, ⟨_, rfl⟩, hf.2⟩
theorem L_hand (hj : g_inj ad) (h : z_In P M c) (h0 : 0 ≤ c) (h1 : c ≤ 511) (hz : z_R (M (P 0)) (M 7 1) n (61 * c) (-(990000 * c)) (3960000 * c)) (x o : Int32) : ∃ (P1 : g_P) (M1 M2 : g_M), g_Ci l yX4_hand cX4_hand 3 (some .int) rm_X4_hand D tb ad [.ref (ad 6 0), .int x, .int o] P M (m_hands (m_begins (M 7)) x o n).1 P1 M1 ∧ (∃ W, M2 = va_up M1 7 W) ∧ z_O P M c (m_hands (m_begins (M 7)) x o n) P1 M2 := by
  obtain ⟨-, sn, -, hs, hs4⟩ := z_Rel.get h.1
  have hy : y_1 (M 7 1) n := hz.choose_spec.2.1
  have hb := x_beg hz
  have hv : v_4 (M (P 0)) := h.2 0 (by decide) (by decide)
  have hsim : z_S (M (P 0)) (m_begins (M 7)) (q_hand (M (P 0)) x o) (m_hands (m_begins (M 7)) x o n) (61 * (c + 1)) (-(990000 * (c + 1))) (3960000 * (c + 1)) := z_S.mono (s_hand hb) (by omega) (by omega) (by omega)
  have hf := f_all (R := m_hand (M 7) x o sn n) h h0 ⟨hs, hs4⟩ hsim (fun c hc => hk_hand c hc) fc_hand (hv.han)
  have h4 := c_X4_hand l D tb ad hj P M x o (z_Rel.P6 h.1) (z_Rel.ne h.1 (by decide) (by decide) (by decide)) _ rfl _ rfl _ rfl
  rw [hf.1] at h4 hf
  exact ⟨_, _, _, h4, ⟨_, rfl⟩, hf.2⟩
theorem L_deliver (hj : g_inj ad) (h : z_In P M c) (h0 : 0 ≤ c) (h1 : c ≤ 511) (hz : z_R (M (P 0)) (M 7 1) n (61 * c) (-(990000 * c)) (3960000 * c)) (x : Int32) : ∃ (P1 : g_P) (M1 M2 : g_M), g_Ci l yX4_deliver cX4_deliver 2 (some .int) rm_X4_deliver D tb ad [.ref (ad 6 0), .int x] P M (m_delivers (m_begins (M 7)) x n).1 P1 M1 ∧ (∃ W, M2 = va_up M1 7 W) ∧ z_O P M c (m_delivers (m_begins (M 7)) x n) P1 M2 := by
  obtain ⟨-, sn, -, hs, hs4⟩ := z_Rel.get h.1
  have hy : y_1 (M 7 1) n := hz.choose_spec.2.1
  have hb := x_beg hz
  have hv : v_4 (M (P 0)) := h.2 0 (by decide) (by decide)
  have hsim : z_S (M (P 0)) (m_begins (M 7)) (q_deliver (M (P 0)) x) (m_delivers (m_begins (M 7)) x n) (61 * (c + 1)) (-(990000 * (c + 1))) (3960000 * (c + 1)) := z_S.mono (s_deliver hb) (by omega) (by omega) (by omega)
  have hf := f_all (R := m_deliver (M 7) x sn n) h h0 ⟨hs, hs4⟩ hsim (fun c hc => m_delivers_c hc) (Or.inr (by unfold m_deliver; with_reducible rfl)) (hv.delr)
  have h4 := c_X4_deliver l D tb ad hj P M x (z_Rel.P6 h.1) (z_Rel.ne h.1 (by decide) (by decide) (by decide)) _ rfl _ rfl _ rfl (hz.choose_spec.1.okR hy)
  rw [hf.1] at h4 hf
  exact ⟨_, _, _, h4, ⟨_, rfl⟩, hf.2⟩
theorem L_pledge (hj : g_inj ad) (h : z_In P M c) (h0 : 0 ≤ c) (h1 : c ≤ 511) (hz : z_R (M (P 0)) (M 7 1) n (61 * c) (-(990000 * c)) (3960000 * c)) (x le ln : Int32) : ∃ (P1 : g_P) (M1 M2 : g_M), g_Ci l yX4_pledge cX4_pledge 4 (some .int) rm_X4_pledge D tb ad [.ref (ad 6 0), .int x, .int le, .int ln] P M (m_pledges (m_begins (M 7)) x le ln n).1 P1 M1 ∧ (∃ W, M2 = va_up M1 7 W) ∧ z_O P M c (m_pledges (m_begins (M 7)) x le ln n) P1 M2 := by
  obtain ⟨-, sn, -, hs, hs4⟩ := z_Rel.get h.1
  have hy : y_1 (M 7 1) n := hz.choose_spec.2.1
  have hb := x_beg hz
  have hv : v_4 (M (P 0)) := h.2 0 (by decide) (by decide)
  have hsim0 := s_pledge (W := m_begins (M 7)) hb (by omega) (by omega) (x := x) (le := le) (ln := ln)
  have hsim : z_S (M (P 0)) (m_begins (M 7)) (q_pledge (M (P 0)) x le ln) (m_pledges (m_begins (M 7)) x le ln n) (61 * (c + 1)) (-(990000 * (c + 1))) (3960000 * (c + 1)) := by
    obtain ⟨e, hh⟩ := hsim0
    refine ⟨e, ?_⟩
    rcases hh with hh | ⟨hg, n', hR⟩
    · exact Or.inl hh
    · have hyb : y_1 (m_begins (M 7) 1) n := hb.choose_spec.2.1
      have hp := P_pledges hyb hg
      have hp1 := (y_P_bd hyb).1
      have hp2 := (y_P_bd hR.choose_spec.2.1).2
      exact Or.inr ⟨hg, n', hR.mono (by omega) (by omega) (by omega)⟩
  have hf := f_all (R := m_pledge (M 7) x le ln sn n) h h0 ⟨hs, hs4⟩ hsim (fun c hc => m_pledges_c hc) (Or.inr (by unfold m_pledge; with_reducible rfl)) (hv.plg)
  have h4 := c_X4_pledge l D tb ad hj P M x le ln (z_Rel.P6 h.1) (z_Rel.ne h.1 (by decide) (by decide) (by decide)) _ rfl _ rfl _ rfl
  rw [hf.1] at h4 hf
  exact ⟨_, _, _, h4, ⟨_, rfl⟩, hf.2⟩
theorem L_repay (hj : g_inj ad) (h : z_In P M c) (h0 : 0 ≤ c) (h1 : c ≤ 511) (hz : z_R (M (P 0)) (M 7 1) n (61 * c) (-(990000 * c)) (3960000 * c)) (x a : Int32) : ∃ (P1 : g_P) (M1 M2 : g_M), g_Ci l yX4_repay cX4_repay 3 (some .int) rm_X4_repay D tb ad [.ref (ad 6 0), .int x, .int a] P M (m_repays (m_begins (M 7)) x a n).1 P1 M1 ∧ (∃ W, M2 = va_up M1 7 W) ∧ z_O P M c (m_repays (m_begins (M 7)) x a n) P1 M2 := by
  obtain ⟨-, sn, -, hs, hs4⟩ := z_Rel.get h.1
  have hy : y_1 (M 7 1) n := hz.choose_spec.2.1
  have hb := x_beg hz
  have hv : v_4 (M (P 0)) := h.2 0 (by decide) (by decide)
  have hsim : z_S (M (P 0)) (m_begins (M 7)) (q_repay (M (P 0)) x a) (m_repays (m_begins (M 7)) x a n) (61 * (c + 1)) (-(990000 * (c + 1))) (3960000 * (c + 1)) := z_S.mono (s_repay hb (by omega) (by omega)) (by omega) (by omega) (by omega)
  have hf := f_all (R := m_repay (M 7) x a sn n) h h0 ⟨hs, hs4⟩ hsim (fun c hc => m_repays_c hc) (Or.inr (by unfold m_repay; with_reducible rfl)) (hv.rep)
  have h4 := c_X4_repay l D tb ad hj P M x a (z_Rel.P6 h.1) (z_Rel.ne h.1 (by decide) (by decide) (by decide)) _ rfl _ rfl _ rfl
  rw [hf.1] at h4 hf
  exact ⟨_, _, _, h4, ⟨_, rfl⟩, hf.2⟩
theorem L_price (hj : g_inj ad) (h : z_In P M c) (h0 : 0 ≤ c) (h1 : c ≤ 511) (hz : z_R (M (P 0)) (M 7 1) n (61 * c) (-(990000 * c)) (3960000 * c)) (x y : Int32) : ∃ (P1 : g_P) (M1 M2 : g_M), g_Ci l yX4_price cX4_price 3 (some .int) rm_X4_price D tb ad [.ref (ad 6 0), .int x, .int y] P M (m_prices (m_begins (M 7)) x y).1 P1 M1 ∧ (∃ W, M2 = va_up M1 7 W) ∧ z_O P M c (m_prices (m_begins (M 7)) x y) P1 M2 := by
  obtain ⟨-, sn, -, hs, hs4⟩ := z_Rel.get h.1
  have hy : y_1 (M 7 1) n := hz.choose_spec.2.1
  have hb := x_beg hz
  have hv : v_4 (M (P 0)) := h.2 0 (by decide) (by decide)
  have hsim : z_S (M (P 0)) (m_begins (M 7)) (q_price (M (P 0)) x y) (m_prices (m_begins (M 7)) x y) (61 * (c + 1)) (-(990000 * (c + 1))) (3960000 * (c + 1)) := z_S.mono (s_price hb) (by omega) (by omega) (by omega)
  have hf := f_all (R := m_price (M 7) x y sn) h h0 ⟨hs, hs4⟩ hsim (fun c hc => m_prices_c hc) (Or.inr (by unfold m_price; with_reducible rfl)) (hv.prc)
  have h4 := c_X4_price l D tb ad hj P M x y (z_Rel.P6 h.1) (z_Rel.ne h.1 (by decide) (by decide) (by decide)) _ rfl _ rfl _ rfl
  rw [hf.1] at h4 hf
  exact ⟨_, _, _, h4, ⟨_, rfl⟩, hf.2⟩
theorem L_call (hj : g_inj ad) (h : z_In P M c) (h0 : 0 ≤ c) (h1 : c ≤ 511) (hz : z_R (M (P 0)) (M 7 1) n (61 * c) (-(990000 * c)) (3960000 * c)) (le : Int32) : ∃ (P1 : g_P) (M1 M2 : g_M), g_Ci l yX4_call cX4_call 2 (some .int) rm_X4_call D tb ad [.ref (ad 6 0), .int le] P M (m_calls (m_begins (M 7)) le n).1 P1 M1 ∧ (∃ W, M2 = va_up M1 7 W) ∧ z_O P M c (m_calls (m_begins (M 7)) le n) P1 M2 := by
  obtain ⟨-, sn, -, hs, hs4⟩ := z_Rel.get h.1
  have hy : y_1 (M 7 1) n := hz.choose_spec.2.1
  have hb := x_beg hz
  have hv : v_4 (M (P 0)) := h.2 0 (by decide) (by decide)
  have hsim : z_S (M (P 0)) (m_begins (M 7)) (q_call (M (P 0)) le) (m_calls (m_begins (M 7)) le n) (61 * (c + 1)) (-(990000 * (c + 1))) (3960000 * (c + 1)) := z_S.mono (s_call hb) (by omega) (by omega) (by omega)
  have hf := f_all (R := m_call (M 7) le sn n) h h0 ⟨hs, hs4⟩ hsim (fun c hc => m_calls_c hc) (Or.inr (by unfold m_call; with_reducible rfl)) (hv.call)
  have h4 := c_X4_call l D tb ad hj P M le (z_Rel.P6 h.1) (z_Rel.ne h.1 (by decide) (by decide) (by decide)) _ rfl _ rfl _ rfl
  rw [hf.1] at h4 hf
  exact ⟨_, _, _, h4, ⟨_, rfl⟩, hf.2⟩
theorem L_pass (hj : g_inj ad) (h : z_In P M c) (h0 : 0 ≤ c) (h1 : c ≤ 511) (hz : z_R (M (P 0)) (M 7 1) n (61 * c) (-(990000 * c)) (3960000 * c)) (d : Int32) : ∃ (P1 : g_P) (M1 M2 : g_M), g_Ci l yX4_pass cX4_pass 2 (some .int) rm_X4_pass D tb ad [.ref (ad 6 0), .int d] P M (m_lets (m_begins (M 7)) d n).1 P1 M1 ∧ (∃ W, M2 = va_up M1 7 W) ∧ z_O P M c (m_lets (m_begins (M 7)) d n) P1 M2 := by
  obtain ⟨-, sn, -, hs, hs4⟩ := z_Rel.get h.1
  have hy : y_1 (M 7 1) n := hz.choose_spec.2.1
  have hb := x_beg hz
  have hv : v_4 (M (P 0)) := h.2 0 (by decide) (by decide)
  have hsim : z_S (M (P 0)) (m_begins (M 7)) (q_pass (M (P 0)) d) (m_lets (m_begins (M 7)) d n) (61 * (c + 1)) (-(990000 * (c + 1))) (3960000 * (c + 1)) := z_S.mono (s_pass hb) (by omega) (by omega) (by omega)
  have hf := f_all (R := m_pass (M 7) d sn n) h h0 ⟨hs, hs4⟩ hsim (fun c hc => m_lets_c hc) (Or.inr (by unfold m_pass; with_reducible rfl)) (hv.pas)
  have h4 := c_X4_pass l D tb ad hj P M d (z_Rel.P6 h.1) (z_Rel.ne h.1 (by decide) (by decide) (by decide)) _ rfl _ rfl _ rfl
  rw [hf.1] at h4 hf
  exact ⟨_, _, _, h4, ⟨_, rfl⟩, hf.2⟩
theorem L_lose (hj : g_inj ad) (h : z_In P M c) (h0 : 0 ≤ c) (h1 : c ≤ 511) (hz : z_R (M (P 0)) (M 7 1) n (61 * c) (-(990000 * c)) (3960000 * c)) (bn a : Int32) : ∃ (P1 : g_P) (M1 M2 : g_M), g_Ci l yX4_lose cX4_lose 3 (some .int) rm_X4_lose D tb ad [.ref (ad 6 0), .int bn, .int a] P M (m_loses (m_begins (M 7)) bn a n).1 P1 M1 ∧ (∃ W, M2 = va_up M1 7 W) ∧ z_O P M c (m_loses (m_begins (M 7)) bn a n) P1 M2 := by
  obtain ⟨-, sn, -, hs, hs4⟩ := z_Rel.get h.1
  have hy : y_1 (M 7 1) n := hz.choose_spec.2.1
  have hb := x_beg hz
  have hv : v_4 (M (P 0)) := h.2 0 (by decide) (by decide)
  have hsim : z_S (M (P 0)) (m_begins (M 7)) (q_lose (M (P 0)) bn a) (m_loses (m_begins (M 7)) bn a n) (61 * (c + 1)) (-(990000 * (c + 1))) (3960000 * (c + 1)) := z_S.mono (s_lose hb) (by omega) (by omega) (by omega)
  have hf := f_all (R := m_lose (M 7) bn a sn n) h h0 ⟨hs, hs4⟩ hsim (fun c hc => hk_lose c hc) fc_lose (hv.los)
  have h4 := c_X4_lose l D tb ad hj P M bn a (z_Rel.P6 h.1) (z_Rel.ne h.1 (by decide) (by decide) (by decide)) _ rfl _ rfl _ rfl (h.1.okG)
  rw [hf.1] at h4 hf
  exact ⟨_, _, _, h4, ⟨_, rfl⟩, hf.2⟩
theorem L_regrade (hj : g_inj ad) (h : z_In P M c) (h0 : 0 ≤ c) (h1 : c ≤ 511) (hz : z_R (M (P 0)) (M 7 1) n (61 * c) (-(990000 * c)) (3960000 * c)) (bn x : Int32) : ∃ (P1 : g_P) (M1 M2 : g_M), g_Ci l yX4_regrade cX4_regrade 3 (some .int) rm_X4_regrade D tb ad [.ref (ad 6 0), .int bn, .int x] P M (m_regrades (m_begins (M 7)) bn x n).1 P1 M1 ∧ (∃ W, M2 = va_up M1 7 W) ∧ z_O P M c (m_regrades (m_begins (M 7)) bn x n) P1 M2 := by
  obtain ⟨-, sn, -, hs, hs4⟩ := z_Rel.get h.1
  have hy : y_1 (M 7 1) n := hz.choose_spec.2.1
  have hb := x_beg hz
  have hv : v_4 (M (P 0)) := h.2 0 (by decide) (by decide)
  have hsim : z_S (M (P 0)) (m_begins (M 7)) (q_regrade (M (P 0)) bn x) (m_regrades (m_begins (M 7)) bn x n) (61 * (c + 1)) (-(990000 * (c + 1))) (3960000 * (c + 1)) := z_S.mono (s_regrade hb) (by omega) (by omega) (by omega)
  have hf := f_all (R := m_regrade (M 7) bn x sn n) h h0 ⟨hs, hs4⟩ hsim (fun c hc => hk_regrade c hc) fc_regrade (hv.reg)
  have h4 := c_X4_regrade l D tb ad hj P M bn x (z_Rel.P6 h.1) (z_Rel.ne h.1 (by decide) (by decide) (by decide)) _ rfl _ rfl _ rfl (h.1.okG)
  rw [hf.1] at h4 hf
  exact ⟨_, _, _, h4, ⟨_, rfl⟩, hf.2⟩
theorem L_set (hj : g_inj ad) (h : z_In P M c) (h0 : 0 ≤ c) (h1 : c ≤ 511) (hz : z_R (M (P 0)) (M 7 1) n (61 * c) (-(990000 * c)) (3960000 * c)) (x v : Int32) : ∃ (P1 : g_P) (M1 M2 : g_M), g_Ci l yX4_set cX4_set 3 (some .int) rm_X4_set D tb ad [.ref (ad 6 0), .int x, .int v] P M (m_sets (m_begins (M 7)) x v).1 P1 M1 ∧ (∃ W, M2 = va_up M1 7 W) ∧ z_O P M c (m_sets (m_begins (M 7)) x v) P1 M2 := by
  obtain ⟨-, sn, -, hs, hs4⟩ := z_Rel.get h.1
  have hy : y_1 (M 7 1) n := hz.choose_spec.2.1
  have hb := x_beg hz
  have hv : v_4 (M (P 0)) := h.2 0 (by decide) (by decide)
  have hsim : z_S (M (P 0)) (m_begins (M 7)) (q_set (M (P 0)) x v) (m_sets (m_begins (M 7)) x v) (61 * (c + 1)) (-(990000 * (c + 1))) (3960000 * (c + 1)) := z_S.mono (s_set hb) (by omega) (by omega) (by omega)
  have hf := f_all (R := m_set (M 7) x v sn) h h0 ⟨hs, hs4⟩ hsim (fun c hc => hk_set c hc) fc_set (hv.set)
  have h4 := c_X4_set l D tb ad hj P M x v (z_Rel.P6 h.1) (z_Rel.ne h.1 (by decide) (by decide) (by decide)) _ rfl _ rfl _ rfl
  rw [hf.1] at h4 hf
  exact ⟨_, _, _, h4, ⟨_, rfl⟩, hf.2⟩
end LO
section LQ
variable {p : Program} {l : Launch} {e : Env} {R : Room} {s : State} {m : MethodId} {args : Array Value} {below : List Frame} {meth : Method} {c' : Code} {H : Heap} {locs : List Loc} {cells slots : Nat} {Q : State → Prop}
variable {cc : ByteArray} {pc nL : Nat} {ls : Array Slot} {rest st0 : List Value} {D : va_G} {tb : g_T} {ad : g_Ad} {A : Nat → Prop} {P : g_P} {M : g_M} {c : Int} {n : Nat}
theorem r_store (X : L_x p s m args c' cc nL D tb ad A) (hI : g_I D tb ad A s H locs P M) (h : z_In P M c) (h0 : 0 ≤ c) (h1 : c ≤ 511) (hz : z_R (M (P 0)) (M 7 1) n (61 * c) (-(990000 * c)) (3960000 * c)) {o x a : Int32} (hl : ls.size = nL) (hst : st0 = .int a :: .int x :: .int o :: .ref (ad 6 0) :: rest) (hR : g_R rm_X4_store 4 R) (hW : (rest.map fun v => v.category).sum ≤ 8) (hcap : cells ≤ R.cells ∧ slots ≤ R.slots) (hdg : decode cc pc = .ok (.invokevirtual 66, 3))
    (kk : ∀ (P1 : g_P) (M1 : g_M), z_O P M c (m_stores (m_begins (M 7)) o x a n) P1 M1 → ∀ (H1 : Heap) (locs1 : List Loc), g_I D tb ad A s H1 locs1 P1 M1 → W p l e R s m args below meth c' H1 locs1 cells slots Q (F0 m (pc + 3) ls (.int (m_stores (m_begins (M 7)) o x a n).1 :: rest))) : W p l e R s m args below meth c' H locs cells slots Q (F0 m pc ls st0) := by
  obtain ⟨hx, hb, hml, hown, hts, hC, hj⟩ := X
  obtain ⟨P1, M1, M2, hc, ⟨W', rfl⟩, hO⟩ := L_store (l := l) (D := D) (tb := tb) hj h h0 h1 hz o x a
  exact g_callVi (rest := rest) hc rfl rfl gm_X4_store hx hb hml hown hts hC hI (by decide) (e_gr rfl) rfl rfl qm_L_66 rfl hl hst hR hW hcap hdg (fun H1 locs1 hI1 => kk P1 _ hO H1 locs1 (g_I_7 W' hI1))
theorem r_split (X : L_x p s m args c' cc nL D tb ad A) (hI : g_I D tb ad A s H locs P M) (h : z_In P M c) (h0 : 0 ≤ c) (h1 : c ≤ 511) (hz : z_R (M (P 0)) (M 7 1) n (61 * c) (-(990000 * c)) (3960000 * c)) {x a : Int32} (hl : ls.size = nL) (hst : st0 = .int a :: .int x :: .ref (ad 6 0) :: rest) (hR : g_R rm_X4_split 3 R) (hW : (rest.map fun v => v.category).sum ≤ 8) (hcap : cells ≤ R.cells ∧ slots ≤ R.slots) (hdg : decode cc pc = .ok (.invokevirtual 71, 3))
    (kk : ∀ (P1 : g_P) (M1 : g_M), z_O P M c (m_splits (m_begins (M 7)) x a n) P1 M1 → ∀ (H1 : Heap) (locs1 : List Loc), g_I D tb ad A s H1 locs1 P1 M1 → W p l e R s m args below meth c' H1 locs1 cells slots Q (F0 m (pc + 3) ls (.int (m_splits (m_begins (M 7)) x a n).1 :: rest))) : W p l e R s m args below meth c' H locs cells slots Q (F0 m pc ls st0) := by
  obtain ⟨hx, hb, hml, hown, hts, hC, hj⟩ := X
  obtain ⟨P1, M1, M2, hc, ⟨W', rfl⟩, hO⟩ := L_split (l := l) (D := D) (tb := tb) hj h h0 h1 hz x a
  exact g_callVi (rest := rest) hc rfl rfl gm_X4_split hx hb hml hown hts hC hI (by decide) (e_gr rfl) rfl rfl qm_L_71 rfl hl hst hR hW hcap hdg (fun H1 locs1 hI1 => kk P1 _ hO H1 locs1 (g_I_7 W' hI1))
theorem r_join (X : L_x p s m args c' cc nL D tb ad A) (hI : g_I D tb ad A s H locs P M) (h : z_In P M c) (h0 : 0 ≤ c) (h1 : c ≤ 511) (hz : z_R (M (P 0)) (M 7 1) n (61 * c) (-(990000 * c)) (3960000 * c)) {x z : Int32} (hl : ls.size = nL) (hst : st0 = .int z :: .int x :: .ref (ad 6 0) :: rest) (hR : g_R rm_X4_join 3 R) (hW : (rest.map fun v => v.category).sum ≤ 8) (hcap : cells ≤ R.cells ∧ slots ≤ R.slots) (hdg : decode cc pc = .ok (.invokevirtual 74, 3))
    (kk : ∀ (P1 : g_P) (M1 : g_M), z_O P M c (m_joins (m_begins (M 7)) x z n) P1 M1 → ∀ (H1 : Heap) (locs1 : List Loc), g_I D tb ad A s H1 locs1 P1 M1 → W p l e R s m args below meth c' H1 locs1 cells slots Q (F0 m (pc + 3) ls (.int (m_joins (m_begins (M 7)) x z n).1 :: rest))) : W p l e R s m args below meth c' H locs cells slots Q (F0 m pc ls st0) := by
  obtain ⟨hx, hb, hml, hown, hts, hC, hj⟩ := X
  obtain ⟨P1, M1, M2, hc, ⟨W', rfl⟩, hO⟩ := L_join (l := l) (D := D) (tb := tb) hj h h0 h1 hz x z
  exact g_callVi (rest := rest) hc rfl rfl gm_X4_join hx hb hml hown hts hC hI (by decide) (e_gr rfl) rfl rfl qm_L_74 rfl hl hst hR hW hcap hdg (fun H1 locs1 hI1 => kk P1 _ hO H1 locs1 (g_I_7 W' hI1))
theorem r_hand (X : L_x p s m args c' cc nL D tb ad A) (hI : g_I D tb ad A s H locs P M) (h : z_In P M c) (h0 : 0 ≤ c) (h1 : c ≤ 511) (hz : z_R (M (P 0)) (M 7 1) n (61 * c) (-(990000 * c)) (3960000 * c)) {x o : Int32} (hl : ls.size = nL) (hst : st0 = .int o :: .int x :: .ref (ad 6 0) :: rest) (hR : g_R rm_X4_hand 3 R) (hW : (rest.map fun v => v.category).sum ≤ 8) (hcap : cells ≤ R.cells ∧ slots ≤ R.slots) (hdg : decode cc pc = .ok (.invokevirtual 77, 3))
    (kk : ∀ (P1 : g_P) (M1 : g_M), z_O P M c (m_hands (m_begins (M 7)) x o n) P1 M1 → ∀ (H1 : Heap) (locs1 : List Loc), g_I D tb ad A s H1 locs1 P1 M1 → W p l e R s m args below meth c' H1 locs1 cells slots Q (F0 m (pc + 3) ls (.int (m_hands (m_begins (M 7)) x o n).1 :: rest))) : W p l e R s m args below meth c' H locs cells slots Q (F0 m pc ls st0) := by
  obtain ⟨hx, hb, hml, hown, hts, hC, hj⟩ := X
  obtain ⟨P1, M1, M2, hc, ⟨W', rfl⟩, hO⟩ := L_hand (l := l) (D := D) (tb := tb) hj h h0 h1 hz x o
  exact g_callVi (rest := rest) hc rfl rfl gm_X4_hand hx hb hml hown hts hC hI (by decide) (e_gr rfl) rfl rfl qm_L_77 rfl hl hst hR hW hcap hdg (fun H1 locs1 hI1 => kk P1 _ hO H1 locs1 (g_I_7 W' hI1))
theorem r_deliver (X : L_x p s m args c' cc nL D tb ad A) (hI : g_I D tb ad A s H locs P M) (h : z_In P M c) (h0 : 0 ≤ c) (h1 : c ≤ 511) (hz : z_R (M (P 0)) (M 7 1) n (61 * c) (-(990000 * c)) (3960000 * c)) {x : Int32} (hl : ls.size = nL) (hst : st0 = .int x :: .ref (ad 6 0) :: rest) (hR : g_R rm_X4_deliver 2 R) (hW : (rest.map fun v => v.category).sum ≤ 8) (hcap : cells ≤ R.cells ∧ slots ≤ R.slots) (hdg : decode cc pc = .ok (.invokevirtual 80, 3))
    (kk : ∀ (P1 : g_P) (M1 : g_M), z_O P M c (m_delivers (m_begins (M 7)) x n) P1 M1 → ∀ (H1 : Heap) (locs1 : List Loc), g_I D tb ad A s H1 locs1 P1 M1 → W p l e R s m args below meth c' H1 locs1 cells slots Q (F0 m (pc + 3) ls (.int (m_delivers (m_begins (M 7)) x n).1 :: rest))) : W p l e R s m args below meth c' H locs cells slots Q (F0 m pc ls st0) := by
  obtain ⟨hx, hb, hml, hown, hts, hC, hj⟩ := X
  obtain ⟨P1, M1, M2, hc, ⟨W', rfl⟩, hO⟩ := L_deliver (l := l) (D := D) (tb := tb) hj h h0 h1 hz x
  exact g_callVi (rest := rest) hc rfl rfl gm_X4_deliver hx hb hml hown hts hC hI (by decide) (e_gr rfl) rfl rfl qm_L_80 rfl hl hst hR hW hcap hdg (fun H1 locs1 hI1 => kk P1 _ hO H1 locs1 (g_I_7 W' hI1))
theorem r_pledge (X : L_x p s m args c' cc nL D tb ad A) (hI : g_I D tb ad A s H locs P M) (h : z_In P M c) (h0 : 0 ≤ c) (h1 : c ≤ 511) (hz : z_R (M (P 0)) (M 7 1) n (61 * c) (-(990000 * c)) (3960000 * c)) {x le ln : Int32} (hl : ls.size = nL) (hst : st0 = .int ln :: .int le :: .int x :: .ref (ad 6 0) :: rest) (hR : g_R rm_X4_pledge 4 R) (hW : (rest.map fun v => v.category).sum ≤ 8) (hcap : cells ≤ R.cells ∧ slots ≤ R.slots) (hdg : decode cc pc = .ok (.invokevirtual 83, 3))
    (kk : ∀ (P1 : g_P) (M1 : g_M), z_O P M c (m_pledges (m_begins (M 7)) x le ln n) P1 M1 → ∀ (H1 : Heap) (locs1 : List Loc), g_I D tb ad A s H1 locs1 P1 M1 → W p l e R s m args below meth c' H1 locs1 cells slots Q (F0 m (pc + 3) ls (.int (m_pledges (m_begins (M 7)) x le ln n).1 :: rest))) : W p l e R s m args below meth c' H locs cells slots Q (F0 m pc ls st0) := by
  obtain ⟨hx, hb, hml, hown, hts, hC, hj⟩ := X
  obtain ⟨P1, M1, M2, hc, ⟨W', rfl⟩, hO⟩ := L_pledge (l := l) (D := D) (tb := tb) hj h h0 h1 hz x le ln
  exact g_callVi (rest := rest) hc rfl rfl gm_X4_pledge hx hb hml hown hts hC hI (by decide) (e_gr rfl) rfl rfl qm_L_83 rfl hl hst hR hW hcap hdg (fun H1 locs1 hI1 => kk P1 _ hO H1 locs1 (g_I_7 W' hI1))
theorem r_repay (X : L_x p s m args c' cc nL D tb ad A) (hI : g_I D tb ad A s H locs P M) (h : z_In P M c) (h0 : 0 ≤ c) (h1 : c ≤ 511) (hz : z_R (M (P 0)) (M 7 1) n (61 * c) (-(990000 * c)) (3960000 * c)) {x a : Int32} (hl : ls.size = nL) (hst : st0 = .int a :: .int x :: .ref (ad 6 0) :: rest) (hR : g_R rm_X4_repay 3 R) (hW : (rest.map fun v => v.category).sum ≤ 8) (hcap : cells ≤ R.cells ∧ slots ≤ R.slots) (hdg : decode cc pc = .ok (.invokevirtual 86, 3))
    (kk : ∀ (P1 : g_P) (M1 : g_M), z_O P M c (m_repays (m_begins (M 7)) x a n) P1 M1 → ∀ (H1 : Heap) (locs1 : List Loc), g_I D tb ad A s H1 locs1 P1 M1 → W p l e R s m args below meth c' H1 locs1 cells slots Q (F0 m (pc + 3) ls (.int (m_repays (m_begins (M 7)) x a n).1 :: rest))) : W p l e R s m args below meth c' H locs cells slots Q (F0 m pc ls st0) := by
  obtain ⟨hx, hb, hml, hown, hts, hC, hj⟩ := X
  obtain ⟨P1, M1, M2, hc, ⟨W', rfl⟩, hO⟩ := L_repay (l := l) (D := D) (tb := tb) hj h h0 h1 hz x a
  exact g_callVi (rest := rest) hc rfl rfl gm_X4_repay hx hb hml hown hts hC hI (by decide) (e_gr rfl) rfl rfl qm_L_86 rfl hl hst hR hW hcap hdg (fun H1 locs1 hI1 => kk P1 _ hO H1 locs1 (g_I_7 W' hI1))
theorem r_price (X : L_x p s m args c' cc nL D tb ad A) (hI : g_I D tb ad A s H locs P M) (h : z_In P M c) (h0 : 0 ≤ c) (h1 : c ≤ 511) (hz : z_R (M (P 0)) (M 7 1) n (61 * c) (-(990000 * c)) (3960000 * c)) {x y : Int32} (hl : ls.size = nL) (hst : st0 = .int y :: .int x :: .ref (ad 6 0) :: rest) (hR : g_R rm_X4_price 3 R) (hW : (rest.map fun v => v.category).sum ≤ 8) (hcap : cells ≤ R.cells ∧ slots ≤ R.slots) (hdg : decode cc pc = .ok (.invokevirtual 89, 3))
    (kk : ∀ (P1 : g_P) (M1 : g_M), z_O P M c (m_prices (m_begins (M 7)) x y) P1 M1 → ∀ (H1 : Heap) (locs1 : List Loc), g_I D tb ad A s H1 locs1 P1 M1 → W p l e R s m args below meth c' H1 locs1 cells slots Q (F0 m (pc + 3) ls (.int (m_prices (m_begins (M 7)) x y).1 :: rest))) : W p l e R s m args below meth c' H locs cells slots Q (F0 m pc ls st0) := by
  obtain ⟨hx, hb, hml, hown, hts, hC, hj⟩ := X
  obtain ⟨P1, M1, M2, hc, ⟨W', rfl⟩, hO⟩ := L_price (l := l) (D := D) (tb := tb) hj h h0 h1 hz x y
  exact g_callVi (rest := rest) hc rfl rfl gm_X4_price hx hb hml hown hts hC hI (by decide) (e_gr rfl) rfl rfl qm_L_89 rfl hl hst hR hW hcap hdg (fun H1 locs1 hI1 => kk P1 _ hO H1 locs1 (g_I_7 W' hI1))
theorem r_call (X : L_x p s m args c' cc nL D tb ad A) (hI : g_I D tb ad A s H locs P M) (h : z_In P M c) (h0 : 0 ≤ c) (h1 : c ≤ 511) (hz : z_R (M (P 0)) (M 7 1) n (61 * c) (-(990000 * c)) (3960000 * c)) {le : Int32} (hl : ls.size = nL) (hst : st0 = .int le :: .ref (ad 6 0) :: rest) (hR : g_R rm_X4_call 2 R) (hW : (rest.map fun v => v.category).sum ≤ 8) (hcap : cells ≤ R.cells ∧ slots ≤ R.slots) (hdg : decode cc pc = .ok (.invokevirtual 92, 3))
    (kk : ∀ (P1 : g_P) (M1 : g_M), z_O P M c (m_calls (m_begins (M 7)) le n) P1 M1 → ∀ (H1 : Heap) (locs1 : List Loc), g_I D tb ad A s H1 locs1 P1 M1 → W p l e R s m args below meth c' H1 locs1 cells slots Q (F0 m (pc + 3) ls (.int (m_calls (m_begins (M 7)) le n).1 :: rest))) : W p l e R s m args below meth c' H locs cells slots Q (F0 m pc ls st0) := by
  obtain ⟨hx, hb, hml, hown, hts, hC, hj⟩ := X
  obtain ⟨P1, M1, M2, hc, ⟨W', rfl⟩, hO⟩ := L_call (l := l) (D := D) (tb := tb) hj h h0 h1 hz le
  exact g_callVi (rest := rest) hc rfl rfl gm_X4_call hx hb hml hown hts hC hI (by decide) (e_gr rfl) rfl rfl qm_L_92 rfl hl hst hR hW hcap hdg (fun H1 locs1 hI1 => kk P1 _ hO H1 locs1 (g_I_7 W' hI1))
theorem r_pass (X : L_x p s m args c' cc nL D tb ad A) (hI : g_I D tb ad A s H locs P M) (h : z_In P M c) (h0 : 0 ≤ c) (h1 : c ≤ 511) (hz : z_R (M (P 0)) (M 7 1) n (61 * c) (-(990000 * c)) (3960000 * c)) {d : Int32} (hl : ls.size = nL) (hst : st0 = .int d :: .ref (ad 6 0) :: rest) (hR : g_R rm_X4_pass 2 R) (hW : (rest.map fun v => v.category).sum ≤ 8) (hcap : cells ≤ R.cells ∧ slots ≤ R.slots) (hdg : decode cc pc = .ok (.invokevirtual 95, 3))
    (kk : ∀ (P1 : g_P) (M1 : g_M), z_O P M c (m_lets (m_begins (M 7)) d n) P1 M1 → ∀ (H1 : Heap) (locs1 : List Loc), g_I D tb ad A s H1 locs1 P1 M1 → W p l e R s m args below meth c' H1 locs1 cells slots Q (F0 m (pc + 3) ls (.int (m_lets (m_begins (M 7)) d n).1 :: rest))) : W p l e R s m args below meth c' H locs cells slots Q (F0 m pc ls st0) := by
  obtain ⟨hx, hb, hml, hown, hts, hC, hj⟩ := X
  obtain ⟨P1, M1, M2, hc, ⟨W', rfl⟩, hO⟩ := L_pass (l := l) (D := D) (tb := tb) hj h h0 h1 hz d
  exact g_callVi (rest := rest) hc rfl rfl gm_X4_pass hx hb hml hown hts hC hI (by decide) (e_gr rfl) rfl rfl qm_L_95 rfl hl hst hR hW hcap hdg (fun H1 locs1 hI1 => kk P1 _ hO H1 locs1 (g_I_7 W' hI1))
theorem r_lose (X : L_x p s m args c' cc nL D tb ad A) (hI : g_I D tb ad A s H locs P M) (h : z_In P M c) (h0 : 0 ≤ c) (h1 : c ≤ 511) (hz : z_R (M (P 0)) (M 7 1) n (61 * c) (-(990000 * c)) (3960000 * c)) {bn a : Int32} (hl : ls.size = nL) (hst : st0 = .int a :: .int bn :: .ref (ad 6 0) :: rest) (hR : g_R rm_X4_lose 3 R) (hW : (rest.map fun v => v.category).sum ≤ 8) (hcap : cells ≤ R.cells ∧ slots ≤ R.slots) (hdg : decode cc pc = .ok (.invokevirtual 98, 3))
    (kk : ∀ (P1 : g_P) (M1 : g_M), z_O P M c (m_loses (m_begins (M 7)) bn a n) P1 M1 → ∀ (H1 : Heap) (locs1 : List Loc), g_I D tb ad A s H1 locs1 P1 M1 → W p l e R s m args below meth c' H1 locs1 cells slots Q (F0 m (pc + 3) ls (.int (m_loses (m_begins (M 7)) bn a n).1 :: rest))) : W p l e R s m args below meth c' H locs cells slots Q (F0 m pc ls st0) := by
  obtain ⟨hx, hb, hml, hown, hts, hC, hj⟩ := X
  obtain ⟨P1, M1, M2, hc, ⟨W', rfl⟩, hO⟩ := L_lose (l := l) (D := D) (tb := tb) hj h h0 h1 hz bn a
  exact g_callVi (rest := rest) hc rfl rfl gm_X4_lose hx hb hml hown hts hC hI (by decide) (e_gr rfl) rfl rfl qm_L_98 rfl hl hst hR hW hcap hdg (fun H1 locs1 hI1 => kk P1 _ hO H1 locs1 (g_I_7 W' hI1))
theorem r_regrade (X : L_x p s m args c' cc nL D tb ad A) (hI : g_I D tb ad A s H locs P M) (h : z_In P M c) (h0 : 0 ≤ c) (h1 : c ≤ 511) (hz : z_R (M (P 0)) (M 7 1) n (61 * c) (-(990000 * c)) (3960000 * c)) {bn x : Int32} (hl : ls.size = nL) (hst : st0 = .int x :: .int bn :: .ref (ad 6 0) :: rest) (hR : g_R rm_X4_regrade 3 R) (hW : (rest.map fun v => v.category).sum ≤ 8) (hcap : cells ≤ R.cells ∧ slots ≤ R.slots) (hdg : decode cc pc = .ok (.invokevirtual 101, 3))
    (kk : ∀ (P1 : g_P) (M1 : g_M), z_O P M c (m_regrades (m_begins (M 7)) bn x n) P1 M1 → ∀ (H1 : Heap) (locs1 : List Loc), g_I D tb ad A s H1 locs1 P1 M1 → W p l e R s m args below meth c' H1 locs1 cells slots Q (F0 m (pc + 3) ls (.int (m_regrades (m_begins (M 7)) bn x n).1 :: rest))) : W p l e R s m args below meth c' H locs cells slots Q (F0 m pc ls st0) := by
  obtain ⟨hx, hb, hml, hown, hts, hC, hj⟩ := X
  obtain ⟨P1, M1, M2, hc, ⟨W', rfl⟩, hO⟩ := L_regrade (l := l) (D := D) (tb := tb) hj h h0 h1 hz bn x
  exact g_callVi (rest := rest) hc rfl rfl gm_X4_regrade hx hb hml hown hts hC hI (by decide) (e_gr rfl) rfl rfl qm_L_101 rfl hl hst hR hW hcap hdg (fun H1 locs1 hI1 => kk P1 _ hO H1 locs1 (g_I_7 W' hI1))
theorem r_set (X : L_x p s m args c' cc nL D tb ad A) (hI : g_I D tb ad A s H locs P M) (h : z_In P M c) (h0 : 0 ≤ c) (h1 : c ≤ 511) (hz : z_R (M (P 0)) (M 7 1) n (61 * c) (-(990000 * c)) (3960000 * c)) {x v : Int32} (hl : ls.size = nL) (hst : st0 = .int v :: .int x :: .ref (ad 6 0) :: rest) (hR : g_R rm_X4_set 3 R) (hW : (rest.map fun v => v.category).sum ≤ 8) (hcap : cells ≤ R.cells ∧ slots ≤ R.slots) (hdg : decode cc pc = .ok (.invokevirtual 104, 3))
    (kk : ∀ (P1 : g_P) (M1 : g_M), z_O P M c (m_sets (m_begins (M 7)) x v) P1 M1 → ∀ (H1 : Heap) (locs1 : List Loc), g_I D tb ad A s H1 locs1 P1 M1 → W p l e R s m args below meth c' H1 locs1 cells slots Q (F0 m (pc + 3) ls (.int (m_sets (m_begins (M 7)) x v).1 :: rest))) : W p l e R s m args below meth c' H locs cells slots Q (F0 m pc ls st0) := by
  obtain ⟨hx, hb, hml, hown, hts, hC, hj⟩ := X
  obtain ⟨P1, M1, M2, hc, ⟨W', rfl⟩, hO⟩ := L_set (l := l) (D := D) (tb := tb) hj h h0 h1 hz x v
  exact g_callVi (rest := rest) hc rfl rfl gm_X4_set hx hb hml hown hts hC hI (by decide) (e_gr rfl) rfl rfl qm_L_104 rfl hl hst hR hW hcap hdg (fun H1 locs1 hI1 => kk P1 _ hO H1 locs1 (g_I_7 W' hI1))
end LQ
