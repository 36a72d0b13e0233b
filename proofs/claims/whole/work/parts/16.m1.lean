abbrev rm_X5_in : Room := { frames := 0, cells := 0, slots := 0, locals := 0 }
set_option maxHeartbeats 800000 in
set_option maxRecDepth 100000 in
theorem c_X5_in (l : Launch) (D : va_G) (tb : g_T) (ad : g_Ad) (hj : g_inj ad) (P : g_P) (M : g_M) (v : Int32) (a : Int32) (b : Int32) : g_Ci l yX5_in cX5_in 3 (some .boolean) rm_X5_in D tb ad [.int v, .int a, .int b] P (M) (if m_in v a b then 1 else 0) P (M) := by
  refine g_go (by decide) (Nat.le_of_ble_eq_true rfl) hj ?_
  intro p e s m below meth c ls H locs R args Q hR0 hQ hx hb hml hr0 hlk hown hts hC hI hl
  subst hR0
  have hown : s.vm.findClass RX5 = some m.cls := hown
  have hl : lv_has ls 3 [(0, .int v), (1, .int a), (2, .int b)] := hl
  refine lv_iload_n hx hb dX5_in_0 rfl (lv_at hl 0 rfl) ?_
  refine lv_iload_n hx hb dX5_in_1 rfl (lv_at hl 1 rfl) ?_
  refine lv_icmp_lt (tgt := 14) hx hb dX5_in_2 (by decide) (fun c1 => ?_) (fun c1 => ?_)
  · refine lv_iconst (v := 0) hx hb dX5_in_14 (by decide) ?_
    exact g_ir hQ hx hb hr0 hlk hC hI dX5_in_15 (by rfl) (by simp [m_in, c1]) rfl rfl
  · refine lv_iload_n hx hb dX5_in_5 rfl (lv_at hl 0 rfl) ?_
    refine lv_iload_n hx hb dX5_in_6 rfl (lv_at hl 2 rfl) ?_
    refine lv_icmp_gt (tgt := 14) hx hb dX5_in_7 (by decide) (fun c2 => ?_) (fun c2 => ?_)
    · refine lv_iconst (v := 0) hx hb dX5_in_14 (by decide) ?_
      exact g_ir hQ hx hb hr0 hlk hC hI dX5_in_15 (by rfl) (by simp [m_in, c1, c2]) rfl rfl
    · refine lv_iconst (v := 1) hx hb dX5_in_10 (by decide) ?_
      refine lv_goto (tgt := 15) hx hb dX5_in_11 (by decide) ?_
      exact g_ir hQ hx hb hr0 hlk hC hI dX5_in_15 (by rfl) (by simp [m_in, c1, c2]) rfl rfl
abbrev rm_X5_begins : Room := { frames := 0, cells := 0, slots := 0, locals := 0 }
set_option maxHeartbeats 800000 in
set_option maxRecDepth 100000 in
theorem c_X5_begins (l : Launch) (D : va_G) (tb : g_T) (ad : g_Ad) (hj : g_inj ad) (P : g_P) (M : g_M) (V : g_V) : g_Cv l yX5_begins cX5_begins 2 none rm_X5_begins D tb ad [.ref (ad 7 0)] P (va_up M 7 V) P (va_up M 7 (m_begins V)) := by
  refine g_go (by decide) (Nat.le_of_ble_eq_true rfl) hj ?_
  intro p e s m below meth c ls H locs R args Q hR0 hQ hx hb hml hr0 hlk hown hts hC hI hl
  subst hR0
  have hown : s.vm.findClass RX5 = some m.cls := hown
  have hl : lv_has ls 2 [(0, .ref (ad 7 0))] := hl
  refine lv_iconst (v := 0) hx hb dX5_begins_0 (by decide) ?_
  refine lv_istore_n (lv' := [(1, .int 0), (0, .ref (ad 7 0))]) hx hb dX5_begins_1 rfl hl (by decide) rfl (fun ls hl => ?_)
  have lp2 : ∀ (d k : Nat) (Vx : g_V), k ≤ 146 → 146 < k + d → Vx = m_copyN V 2 1 k → ∀ (H : Heap) (locs : List Loc) (ls : Array Slot), g_I D tb ad (g_A ad) s H locs P (va_up M 7 Vx) → lv_has ls 2 [(1, .int (nI k)), (0, .ref (ad 7 0))] → W p l e rm_X5_begins s m args below meth c H locs 0 0 Q (F0 m 2 ls []) := by
    intro d
    induction d with
    | zero => intro k Vx hkp hfu; intros; omega
    | succ d ih2 =>
      intro k Vx hkp hfu e_Vx H locs ls hI hl
      refine lv_iload_n hx hb dX5_begins_2 rfl (lv_at hl 0 rfl) ?_
      refine lv_sipush (v := 146) hx hb dX5_begins_3 (by decide) ?_
      refine lv_icmp_ge (tgt := 27) hx hb dX5_begins_6 (by decide) (fun c1 => ?_) (fun c1 => ?_)
      · have c1n : 146 ≤ k := (nI_leI (a := 146) (b := k) (by omega) (by omega)).mp c1
        exact g_vr hQ hx hb hr0 hlk hC hI dX5_begins_27 rfl (by rw [show k = 146 from (by omega)] at e_Vx; unfold m_begins; rw [← e_Vx])
      · have c1n : ¬ 146 ≤ k := fun z => c1 ((nI_leI (a := 146) (b := k) (by omega) (by omega)).mpr z)
        refine lv_aload_n hx hb dX5_begins_9 rfl (lv_at hl 1 rfl) ?_
        refine g_get 1 hx hb hts hown hC hI i_X5 (by decide) (e_x g_us) rfl (by decide) qf_X5_13 rfl rfl dX5_begins_10 ?_
        refine lv_iload_n hx hb dX5_begins_13 rfl (lv_at hl 0 rfl) ?_
        refine lv_aload_n hx hb dX5_begins_14 rfl (lv_at hl 1 rfl) ?_
        refine g_get 0 hx hb hts hown hC hI i_X5 (by decide) (e_x g_us) rfl (by decide) qf_X5_7 rfl rfl dX5_begins_15 ?_
        refine lv_iload_n hx hb dX5_begins_18 rfl (lv_at hl 0 rfl) ?_
        refine g_iald k hx hb hC hI (by decide) (e_xs g_us) (vp_in_nI (by omega) (by decide)) (nI_clamp (by omega)) dX5_begins_19 ?_
        refine g_iast k hx hb hC hI (by decide) (e_xb g_us) (vp_in_nI (by omega) (by decide)) (nI_clamp (by omega)) p_xb g_hs dX5_begins_20 (fun H locs hI => ?_)
        refine lv_iinc (v := nI (k + 1)) (lv' := [(1, .int (nI (k + 1))), (0, .ref (ad 7 0))]) hx hb dX5_begins_21 hl (k := 0) rfl (nI_1 _) (by decide) rfl (fun ls hl => ?_)
        refine lv_goto (tgt := 2) hx hb dX5_begins_24 (by decide) ?_
        exact ih2 (k + 1) _ (by omega) (by omega) (by unfold m_copyN; rw [k_iter]; unfold m_copyN at e_Vx; rw [← e_Vx])  _ _ _ hI (lv_sub hl [0, 1] rfl)
  exact lp2 (146 + 1) 0 _ (by omega) (by omega) rfl  _ _ _ hI (lv_sub hl [0, 1] rfl)
abbrev rm_X5_returns : Room := { frames := 0, cells := 0, slots := 0, locals := 0 }
set_option maxHeartbeats 800000 in
set_option maxRecDepth 100000 in
theorem c_X5_returns (l : Launch) (D : va_G) (tb : g_T) (ad : g_Ad) (hj : g_inj ad) (P : g_P) (M : g_M) (V : g_V) : g_Cv l yX5_returns cX5_returns 2 none rm_X5_returns D tb ad [.ref (ad 7 0)] P (va_up M 7 V) P (va_up M 7 (m_returns V)) := by
  refine g_go (by decide) (Nat.le_of_ble_eq_true rfl) hj ?_
  intro p e s m below meth c ls H locs R args Q hR0 hQ hx hb hml hr0 hlk hown hts hC hI hl
  subst hR0
  have hown : s.vm.findClass RX5 = some m.cls := hown
  have hl : lv_has ls 2 [(0, .ref (ad 7 0))] := hl
  refine lv_iconst (v := 0) hx hb dX5_returns_0 (by decide) ?_
  refine lv_istore_n (lv' := [(1, .int 0), (0, .ref (ad 7 0))]) hx hb dX5_returns_1 rfl hl (by decide) rfl (fun ls hl => ?_)
  have lp2 : ∀ (d k : Nat) (Vx : g_V), k ≤ 146 → 146 < k + d → Vx = m_copyN V 1 2 k → ∀ (H : Heap) (locs : List Loc) (ls : Array Slot), g_I D tb ad (g_A ad) s H locs P (va_up M 7 Vx) → lv_has ls 2 [(1, .int (nI k)), (0, .ref (ad 7 0))] → W p l e rm_X5_returns s m args below meth c H locs 0 0 Q (F0 m 2 ls []) := by
    intro d
    induction d with
    | zero => intro k Vx hkp hfu; intros; omega
    | succ d ih2 =>
      intro k Vx hkp hfu e_Vx H locs ls hI hl
      refine lv_iload_n hx hb dX5_returns_2 rfl (lv_at hl 0 rfl) ?_
      refine lv_sipush (v := 146) hx hb dX5_returns_3 (by decide) ?_
      refine lv_icmp_ge (tgt := 27) hx hb dX5_returns_6 (by decide) (fun c1 => ?_) (fun c1 => ?_)
      · have c1n : 146 ≤ k := (nI_leI (a := 146) (b := k) (by omega) (by omega)).mp c1
        exact g_vr hQ hx hb hr0 hlk hC hI dX5_returns_27 rfl (by rw [show k = 146 from (by omega)] at e_Vx; unfold m_returns; rw [← e_Vx])
      · have c1n : ¬ 146 ≤ k := fun z => c1 ((nI_leI (a := 146) (b := k) (by omega) (by omega)).mpr z)
        refine lv_aload_n hx hb dX5_returns_9 rfl (lv_at hl 1 rfl) ?_
        refine g_get 0 hx hb hts hown hC hI i_X5 (by decide) (e_x g_us) rfl (by decide) qf_X5_7 rfl rfl dX5_returns_10 ?_
        refine lv_iload_n hx hb dX5_returns_13 rfl (lv_at hl 0 rfl) ?_
        refine lv_aload_n hx hb dX5_returns_14 rfl (lv_at hl 1 rfl) ?_
        refine g_get 1 hx hb hts hown hC hI i_X5 (by decide) (e_x g_us) rfl (by decide) qf_X5_13 rfl rfl dX5_returns_15 ?_
        refine lv_iload_n hx hb dX5_returns_18 rfl (lv_at hl 0 rfl) ?_
        refine g_iald k hx hb hC hI (by decide) (e_xb g_us) (vp_in_nI (by omega) (by decide)) (nI_clamp (by omega)) dX5_returns_19 ?_
        refine g_iast k hx hb hC hI (by decide) (e_xs g_us) (vp_in_nI (by omega) (by decide)) (nI_clamp (by omega)) p_xs g_hs dX5_returns_20 (fun H locs hI => ?_)
        refine lv_iinc (v := nI (k + 1)) (lv' := [(1, .int (nI (k + 1))), (0, .ref (ad 7 0))]) hx hb dX5_returns_21 hl (k := 0) rfl (nI_1 _) (by decide) rfl (fun ls hl => ?_)
        refine lv_goto (tgt := 2) hx hb dX5_returns_24 (by decide) ?_
        exact ih2 (k + 1) _ (by omega) (by omega) (by unfold m_copyN; rw [k_iter]; unfold m_copyN at e_Vx; rw [← e_Vx])  _ _ _ hI (lv_sub hl [0, 1] rfl)
  exact lp2 (146 + 1) 0 _ (by omega) (by omega) rfl  _ _ _ hI (lv_sub hl [0, 1] rfl)
abbrev rm_X5_of : Room := { frames := 0, cells := 0, slots := 0, locals := 0 }
set_option maxHeartbeats 800000 in
set_option maxRecDepth 100000 in
theorem c_X5_of (l : Launch) (D : va_G) (tb : g_T) (ad : g_Ad) (hj : g_inj ad) (P : g_P) (M : g_M) (V : g_V) (a : Nat) (w : Nat) (ha : a < 16) (hw : w < 7) : g_Ci l yX5_of cX5_of 3 (some .int) rm_X5_of D tb ad [.ref (ad 7 0), .int (nI a), .int (nI w)] P (va_up M 7 V) (V 1 (34 + 7 * a + w)) P (va_up M 7 V) := by
  refine g_go (by decide) (Nat.le_of_ble_eq_true rfl) hj ?_
  intro p e s m below meth c ls H locs R args Q hR0 hQ hx hb hml hr0 hlk hown hts hC hI hl
  subst hR0
  have hown : s.vm.findClass RX5 = some m.cls := hown
  have hl : lv_has ls 3 [(0, .ref (ad 7 0)), (1, .int (nI a)), (2, .int (nI w))] := hl
  refine lv_aload_n hx hb dX5_of_0 rfl (lv_at hl 0 rfl) ?_
  refine g_get 0 hx hb hts hown hC hI i_X5 (by decide) (e_x g_us) rfl (by decide) qf_X5_7 rfl rfl dX5_of_1 ?_
  refine lv_bipush (v := 34) hx hb dX5_of_4 (by decide) ?_
  refine lv_bipush (v := 7) hx hb dX5_of_6 (by decide) ?_
  refine lv_iload_n hx hb dX5_of_8 rfl (lv_at hl 1 rfl) ?_
  refine lv_imul hx hb dX5_of_9 ?_
  refine g_te (pk_mul 7 a) ?_
  refine lv_iadd hx hb dX5_of_10 ?_
  refine g_te (nI_add 34 (7 * a)) ?_
  refine lv_iload_n hx hb dX5_of_11 rfl (lv_at hl 2 rfl) ?_
  refine lv_iadd hx hb dX5_of_12 ?_
  refine g_te (nI_add (34 + (7 * a)) w) ?_
  refine g_iald (34 + (7 * a) + w) hx hb hC hI (by decide) (e_xs g_us) (vp_in_nI (by omega) (by decide)) (nI_clamp (by omega)) dX5_of_13 ?_
  exact g_ir hQ hx hb hr0 hlk hC hI dX5_of_14 rfl (by rfl) rfl rfl
abbrev rm_X5_lays : Room := { frames := 0, cells := 0, slots := 0, locals := 0 }
set_option maxHeartbeats 800000 in
set_option maxRecDepth 100000 in
theorem c_X5_lays (l : Launch) (D : va_G) (tb : g_T) (ad : g_Ad) (hj : g_inj ad) (P : g_P) (M : g_M) (V : g_V) (a : Nat) (w : Nat) (v : Int32) (ha : a < 16) (hw : w < 7) : g_Cv l yX5_lays cX5_lays 4 none rm_X5_lays D tb ad [.ref (ad 7 0), .int (nI a), .int (nI w), .int v] P (va_up M 7 V) P (va_up M 7 (g_w2 V 1 (34 + 7 * a + w) v)) := by
  refine g_go (by decide) (Nat.le_of_ble_eq_true rfl) hj ?_
  intro p e s m below meth c ls H locs R args Q hR0 hQ hx hb hml hr0 hlk hown hts hC hI hl
  subst hR0
  have hown : s.vm.findClass RX5 = some m.cls := hown
  have hl : lv_has ls 4 [(0, .ref (ad 7 0)), (1, .int (nI a)), (2, .int (nI w)), (3, .int v)] := hl
  refine lv_aload_n hx hb dX5_lays_0 rfl (lv_at hl 0 rfl) ?_
  refine g_get 0 hx hb hts hown hC hI i_X5 (by decide) (e_x g_us) rfl (by decide) qf_X5_7 rfl rfl dX5_lays_1 ?_
  refine lv_bipush (v := 34) hx hb dX5_lays_4 (by decide) ?_
  refine lv_bipush (v := 7) hx hb dX5_lays_6 (by decide) ?_
  refine lv_iload_n hx hb dX5_lays_8 rfl (lv_at hl 1 rfl) ?_
  refine lv_imul hx hb dX5_lays_9 ?_
  refine g_te (pk_mul 7 a) ?_
  refine lv_iadd hx hb dX5_lays_10 ?_
  refine g_te (nI_add 34 (7 * a)) ?_
  refine lv_iload_n hx hb dX5_lays_11 rfl (lv_at hl 2 rfl) ?_
  refine lv_iadd hx hb dX5_lays_12 ?_
  refine g_te (nI_add (34 + (7 * a)) w) ?_
  refine lv_iload_n hx hb dX5_lays_13 rfl (lv_at hl 3 rfl) ?_
  refine g_iast (34 + (7 * a) + w) hx hb hC hI (by decide) (e_xs g_us) (vp_in_nI (by omega) (by decide)) (nI_clamp (by omega)) p_xs g_hs dX5_lays_14 (fun H locs hI => ?_)
  exact g_vr hQ hx hb hr0 hlk hC hI dX5_lays_15 rfl (by rfl)
abbrev rm_X5_placeOf : Room := { frames := 1, cells := 0, slots := 0, locals := 22 }
set_option maxHeartbeats 800000 in
set_option maxRecDepth 100000 in
theorem c_X5_placeOf (l : Launch) (D : va_G) (tb : g_T) (ad : g_Ad) (hj : g_inj ad) (P : g_P) (M : g_M) (V : g_V) (x : Int32) (n : Nat) (hn : m_N V n) : g_Ci l yX5_placeOf cX5_placeOf 4 (some .int) rm_X5_placeOf D tb ad [.ref (ad 7 0), .int x] P (va_up M 7 V) (m_pi (m_place V x n)) P (va_up M 7 V) := by
  refine g_go (by decide) (Nat.le_of_ble_eq_true rfl) hj ?_
  intro p e s m below meth c ls H locs R args Q hR0 hQ hx hb hml hr0 hlk hown hts hC hI hl
  subst hR0
  have hown : s.vm.findClass RX5 = some m.cls := hown
  have hl : lv_has ls 4 [(0, .ref (ad 7 0)), (1, .int x)] := hl
  refine lv_iconst (v := (-1)) hx hb dX5_placeOf_0 (by decide) ?_
  refine lv_istore_n (lv' := [(2, .int (-1)), (0, .ref (ad 7 0)), (1, .int x)]) hx hb dX5_placeOf_1 rfl hl (by decide) rfl (fun ls hl => ?_)
  refine lv_iconst (v := 0) hx hb dX5_placeOf_2 (by decide) ?_
  refine lv_istore_n (lv' := [(3, .int 0), (2, .int (-1)), (0, .ref (ad 7 0)), (1, .int x)]) hx hb dX5_placeOf_3 rfl hl (by decide) rfl (fun ls hl => ?_)
  have lp4 : ∀ (d k : Nat) (y : Int32), k ≤ n → n < k + d → y = m_pi (k_last (fun k => decide (V 1 (34 + 7 * k + 0) = x)) k) → ∀ (H : Heap) (locs : List Loc) (ls : Array Slot), g_I D tb ad (g_A ad) s H locs P (va_up M 7 V) → lv_has ls 4 [(3, .int (nI k)), (2, .int y), (0, .ref (ad 7 0)), (1, .int x)] → W p l e rm_X5_placeOf s m args below meth c H locs 0 0 Q (F0 m 4 ls []) := by
    intro d
    induction d with
    | zero => intro k y hkp hfu; intros; omega
    | succ d ih4 =>
      intro k y hkp hfu e_y H locs ls hI hl
      refine lv_iload_n hx hb dX5_placeOf_4 rfl (lv_at hl 0 rfl) ?_
      refine lv_aload_n hx hb dX5_placeOf_5 rfl (lv_at hl 2 rfl) ?_
      refine g_get 0 hx hb hts hown hC hI i_X5 (by decide) (e_x g_us) rfl (by decide) qf_X5_7 rfl rfl dX5_placeOf_6 ?_
      refine lv_iconst (v := 0) hx hb dX5_placeOf_9 (by decide) ?_
      refine g_iald 0 hx hb hC hI (by decide) (e_xs g_us) (by unfold vp_in; decide) rfl dX5_placeOf_10 ?_
      refine g_te (y := (nI n)) hn.1 ?_
      refine lv_icmp_ge (tgt := 36) hx hb dX5_placeOf_11 (by decide) (fun c1 => ?_) (fun c1 => ?_)
      · have c1n : n ≤ k := (nI_leI (a := n) (b := k) (by omega) (by omega)).mp c1
        refine lv_iload_n hx hb dX5_placeOf_36 rfl (lv_at hl 1 rfl) ?_
        exact g_ir hQ hx hb hr0 hlk hC hI dX5_placeOf_37 rfl (by rw [show k = n from (by omega)] at e_y; unfold m_place; rw [← e_y]) rfl rfl
      · have c1n : ¬ n ≤ k := fun z => c1 ((nI_leI (a := n) (b := k) (by omega) (by omega)).mpr z)
        refine lv_aload_n hx hb dX5_placeOf_14 rfl (lv_at hl 2 rfl) ?_
        refine lv_iload_n hx hb dX5_placeOf_15 rfl (lv_at hl 0 rfl) ?_
        refine lv_iconst (v := 0) hx hb dX5_placeOf_16 (by decide) ?_
        refine g_callVi (rest := []) (c_X5_of l D tb ad hj P M V k 0 (by first | assumption | omega) (by first | assumption | omega)) rfl rfl gm_X5_of hx hb hml hown hts hC hI (by decide) (e_x g_us) rfl rfl qm_X5_33 rfl hl.1 rfl ⟨rfl, rfl, by decide, by decide⟩ (Nat.le_of_ble_eq_true rfl) ⟨Nat.zero_le _, Nat.zero_le _⟩ dX5_placeOf_17 (fun H locs hI => ?_)
        refine lv_iload_n hx hb dX5_placeOf_20 rfl (lv_at hl 3 rfl) ?_
        refine lv_icmp_ne (tgt := 28) hx hb dX5_placeOf_21 (by decide) (fun c2 => ?_) (fun c2 => ?_)
        · refine lv_iload_n hx hb dX5_placeOf_28 rfl (lv_at hl 1 rfl) ?_
          refine lv_istore_n (lv' := [(2, .int y), (3, .int (nI k)), (0, .ref (ad 7 0)), (1, .int x)]) hx hb dX5_placeOf_29 rfl hl (by decide) rfl (fun ls hl => ?_)
          refine lv_iinc (v := nI (k + 1)) (lv' := [(3, .int (nI (k + 1))), (2, .int y), (0, .ref (ad 7 0)), (1, .int x)]) hx hb dX5_placeOf_30 hl (k := 1) rfl (nI_1 _) (by decide) rfl (fun ls hl => ?_)
          refine lv_goto (tgt := 4) hx hb dX5_placeOf_33 (by decide) ?_
          exact ih4 (k + 1) _ (by omega) (by omega) (by rw [k_last]; first | (rw [if_pos (decide_eq_true c2)]; rfl) | (rw [if_neg (fun z => c2 (of_decide_eq_true z)), ← e_y]))  _ _ _ hI (lv_sub hl [0, 1, 2, 3] rfl)
        · refine lv_iload_n hx hb dX5_placeOf_24 rfl (lv_at hl 0 rfl) ?_
          refine lv_goto (tgt := 29) hx hb dX5_placeOf_25 (by decide) ?_
          refine lv_istore_n (lv' := [(2, .int (nI k)), (3, .int (nI k)), (0, .ref (ad 7 0)), (1, .int x)]) hx hb dX5_placeOf_29 rfl hl (by decide) rfl (fun ls hl => ?_)
          refine lv_iinc (v := nI (k + 1)) (lv' := [(3, .int (nI (k + 1))), (2, .int (nI k)), (0, .ref (ad 7 0)), (1, .int x)]) hx hb dX5_placeOf_30 hl (k := 1) rfl (nI_1 _) (by decide) rfl (fun ls hl => ?_)
          refine lv_goto (tgt := 4) hx hb dX5_placeOf_33 (by decide) ?_
          exact ih4 (k + 1) _ (by omega) (by omega) (by rw [k_last]; first | (rw [if_pos (decide_eq_true c2)]; rfl) | (rw [if_neg (fun z => c2 (of_decide_eq_true z)), ← e_y]))  _ _ _ hI (lv_sub hl [0, 1, 2, 3] rfl)
  exact lp4 (n + 1) 0 _ (by omega) (by omega) rfl  _ _ _ hI (lv_sub hl [0, 1, 2, 3] rfl)
def m_frees (V : g_V) (a : Nat) : g_V :=
  (g_w2 (g_w2 (g_w2 V 1 (34 + 7 * a + 4) (-1)) 1 (34 + 7 * a + 5) 0) 1 (34 + 7 * a + 6) 0)
abbrev rm_X5_frees : Room := { frames := 1, cells := 0, slots := 0, locals := 23 }
set_option maxHeartbeats 800000 in
set_option maxRecDepth 100000 in
theorem c_X5_frees (l : Launch) (D : va_G) (tb : g_T) (ad : g_Ad) (hj : g_inj ad) (P : g_P) (M : g_M) (V : g_V) (a : Nat) (ha : a < 16) : g_Cv l yX5_frees cX5_frees 2 none rm_X5_frees D tb ad [.ref (ad 7 0), .int (nI a)] P (va_up M 7 V) P (va_up M 7 (m_frees V a)) := by
  refine g_go (by decide) (Nat.le_of_ble_eq_true rfl) hj ?_
  intro p e s m below meth c ls H locs R args Q hR0 hQ hx hb hml hr0 hlk hown hts hC hI hl
  subst hR0
  have hown : s.vm.findClass RX5 = some m.cls := hown
  have hl : lv_has ls 2 [(0, .ref (ad 7 0)), (1, .int (nI a))] := hl
  refine lv_aload_n hx hb dX5_frees_0 rfl (lv_at hl 0 rfl) ?_
  refine lv_iload_n hx hb dX5_frees_1 rfl (lv_at hl 1 rfl) ?_
  refine lv_iconst (v := 4) hx hb dX5_frees_2 (by decide) ?_
  refine lv_iconst (v := (-1)) hx hb dX5_frees_3 (by decide) ?_
  refine g_callVv (rest := []) (c_X5_lays l D tb ad hj P M V a 4 (-1) (by first | assumption | omega) (by first | assumption | omega)) rfl rfl gm_X5_lays hx hb hml hown hts hC hI (by decide) (e_x g_us) rfl rfl qm_X5_37 rfl hl.1 rfl ⟨rfl, rfl, by decide, by decide⟩ (Nat.le_of_ble_eq_true rfl) ⟨Nat.zero_le _, Nat.zero_le _⟩ dX5_frees_4 (fun H locs hI => ?_)
  refine lv_aload_n hx hb dX5_frees_7 rfl (lv_at hl 0 rfl) ?_
  refine lv_iload_n hx hb dX5_frees_8 rfl (lv_at hl 1 rfl) ?_
  refine lv_iconst (v := 5) hx hb dX5_frees_9 (by decide) ?_
  refine lv_iconst (v := 0) hx hb dX5_frees_10 (by decide) ?_
  refine g_callVv (rest := []) (c_X5_lays l D tb ad hj P M (g_w2 V 1 (34 + 7 * a + 4) (-1)) a 5 0 (by first | assumption | omega) (by first | assumption | omega)) rfl rfl gm_X5_lays hx hb hml hown hts hC hI (by decide) (e_x g_us) rfl rfl qm_X5_37 rfl hl.1 rfl ⟨rfl, rfl, by decide, by decide⟩ (Nat.le_of_ble_eq_true rfl) ⟨Nat.zero_le _, Nat.zero_le _⟩ dX5_frees_11 (fun H locs hI => ?_)
  refine lv_aload_n hx hb dX5_frees_14 rfl (lv_at hl 0 rfl) ?_
  refine lv_iload_n hx hb dX5_frees_15 rfl (lv_at hl 1 rfl) ?_
  refine lv_bipush (v := 6) hx hb dX5_frees_16 (by decide) ?_
  refine lv_iconst (v := 0) hx hb dX5_frees_18 (by decide) ?_
  refine g_callVv (rest := []) (c_X5_lays l D tb ad hj P M (g_w2 (g_w2 V 1 (34 + 7 * a + 4) (-1)) 1 (34 + 7 * a + 5) 0) a 6 0 (by first | assumption | omega) (by first | assumption | omega)) rfl rfl gm_X5_lays hx hb hml hown hts hC hI (by decide) (e_x g_us) rfl rfl qm_X5_37 rfl hl.1 rfl ⟨rfl, rfl, by decide, by decide⟩ (Nat.le_of_ble_eq_true rfl) ⟨Nat.zero_le _, Nat.zero_le _⟩ dX5_frees_19 (fun H locs hI => ?_)
  exact g_vr hQ hx hb hr0 hlk hC hI dX5_frees_22 rfl (by unfold m_frees; skip; skip; try with_reducible rfl)
abbrev rm_X5_isPledged : Room := { frames := 1, cells := 0, slots := 0, locals := 22 }
set_option maxHeartbeats 800000 in
set_option maxRecDepth 100000 in
theorem c_X5_isPledged (l : Launch) (D : va_G) (tb : g_T) (ad : g_Ad) (hj : g_inj ad) (P : g_P) (M : g_M) (V : g_V) (a : Nat) (ha : a < 16) : g_Ci l yX5_isPledged cX5_isPledged 2 (some .boolean) rm_X5_isPledged D tb ad [.ref (ad 7 0), .int (nI a)] P (va_up M 7 V) (if m_pledged V a then 1 else 0) P (va_up M 7 V) := by
  refine g_go (by decide) (Nat.le_of_ble_eq_true rfl) hj ?_
  intro p e s m below meth c ls H locs R args Q hR0 hQ hx hb hml hr0 hlk hown hts hC hI hl
  subst hR0
  have hown : s.vm.findClass RX5 = some m.cls := hown
  have hl : lv_has ls 2 [(0, .ref (ad 7 0)), (1, .int (nI a))] := hl
  refine lv_aload_n hx hb dX5_isPledged_0 rfl (lv_at hl 0 rfl) ?_
  refine lv_iload_n hx hb dX5_isPledged_1 rfl (lv_at hl 1 rfl) ?_
  refine lv_iconst (v := 4) hx hb dX5_isPledged_2 (by decide) ?_
  refine g_callVi (rest := []) (c_X5_of l D tb ad hj P M V a 4 (by first | assumption | omega) (by first | assumption | omega)) rfl rfl gm_X5_of hx hb hml hown hts hC hI (by decide) (e_x g_us) rfl rfl qm_X5_33 rfl hl.1 rfl ⟨rfl, rfl, by decide, by decide⟩ (Nat.le_of_ble_eq_true rfl) ⟨Nat.zero_le _, Nat.zero_le _⟩ dX5_isPledged_3 (fun H locs hI => ?_)
  refine lv_if_lt (tgt := 13) hx hb dX5_isPledged_6 (by decide) (fun c1 => ?_) (fun c1 => ?_)
  · refine lv_iconst (v := 0) hx hb dX5_isPledged_13 (by decide) ?_
    exact g_ir hQ hx hb hr0 hlk hC hI dX5_isPledged_14 (by rfl) (by simp [c1]) rfl rfl
  · refine lv_iconst (v := 1) hx hb dX5_isPledged_9 (by decide) ?_
    refine lv_goto (tgt := 14) hx hb dX5_isPledged_10 (by decide) ?_
    exact g_ir hQ hx hb hr0 hlk hC hI dX5_isPledged_14 (by rfl) (by simp [c1]) rfl rfl
abbrev rm_X5_worth : Room := { frames := 1, cells := 0, slots := 0, locals := 22 }
set_option maxHeartbeats 800000 in
set_option maxRecDepth 100000 in
theorem c_X5_worth (l : Launch) (D : va_G) (tb : g_T) (ad : g_Ad) (hj : g_inj ad) (P : g_P) (M : g_M) (V : g_V) (a : Nat) (ha : a < 16) : g_Ci l yX5_worth cX5_worth 2 (some .int) rm_X5_worth D tb ad [.ref (ad 7 0), .int (nI a)] P (va_up M 7 V) (m_worth V a) P (va_up M 7 V) := by
  refine g_go (by decide) (Nat.le_of_ble_eq_true rfl) hj ?_
  intro p e s m below meth c ls H locs R args Q hR0 hQ hx hb hml hr0 hlk hown hts hC hI hl
  subst hR0
  have hown : s.vm.findClass RX5 = some m.cls := hown
  have hl : lv_has ls 2 [(0, .ref (ad 7 0)), (1, .int (nI a))] := hl
  refine lv_aload_n hx hb dX5_worth_0 rfl (lv_at hl 0 rfl) ?_
  refine lv_iload_n hx hb dX5_worth_1 rfl (lv_at hl 1 rfl) ?_
  refine lv_iconst (v := 3) hx hb dX5_worth_2 (by decide) ?_
  refine g_callVi (rest := []) (c_X5_of l D tb ad hj P M V a 3 (by first | assumption | omega) (by first | assumption | omega)) rfl rfl gm_X5_of hx hb hml hown hts hC hI (by decide) (e_x g_us) rfl rfl qm_X5_33 rfl hl.1 rfl ⟨rfl, rfl, by decide, by decide⟩ (Nat.le_of_ble_eq_true rfl) ⟨Nat.zero_le _, Nat.zero_le _⟩ dX5_worth_3 (fun H locs hI => ?_)
  refine lv_aload_n hx hb dX5_worth_6 rfl (lv_at hl 0 rfl) ?_
  refine g_get 0 hx hb hts hown hC hI i_X5 (by decide) (e_x g_us) rfl (by decide) qf_X5_7 rfl rfl dX5_worth_7 ?_
  refine lv_bipush (v := 12) hx hb dX5_worth_10 (by decide) ?_
  refine g_iald 12 hx hb hC hI (by decide) (e_xs g_us) (by unfold vp_in; decide) rfl dX5_worth_12 ?_
  refine lv_imul hx hb dX5_worth_13 ?_
  exact g_ir hQ hx hb hr0 hlk hC hI dX5_worth_14 rfl (by rfl) rfl rfl
abbrev rm_X5_share : Room := { frames := 2, cells := 0, slots := 0, locals := 43 }
set_option maxHeartbeats 800000 in
set_option maxRecDepth 100000 in
theorem c_X5_share (l : Launch) (D : va_G) (tb : g_T) (ad : g_Ad) (hj : g_inj ad) (P : g_P) (M : g_M) (V : g_V) (a : Nat) (st : Nat) (ha : a < 16) (hst : st < 4) : g_Ci l yX5_share cX5_share 3 (some .int) rm_X5_share D tb ad [.ref (ad 7 0), .int (nI a), .int (nI st)] P (va_up M 7 V) (m_share V a st) P (va_up M 7 V) := by
  refine g_go (by decide) (Nat.le_of_ble_eq_true rfl) hj ?_
  intro p e s m below meth c ls H locs R args Q hR0 hQ hx hb hml hr0 hlk hown hts hC hI hl
  subst hR0
  have hown : s.vm.findClass RX5 = some m.cls := hown
  have hl : lv_has ls 3 [(0, .ref (ad 7 0)), (1, .int (nI a)), (2, .int (nI st))] := hl
  refine lv_aload_n hx hb dX5_share_0 rfl (lv_at hl 0 rfl) ?_
  refine lv_iload_n hx hb dX5_share_1 rfl (lv_at hl 1 rfl) ?_
  refine g_callVi (rest := []) (c_X5_worth l D tb ad hj P M V a (by first | assumption | omega)) rfl rfl gm_X5_worth hx hb hml hown hts hC hI (by decide) (e_x g_us) rfl rfl qm_X5_45 rfl hl.1 rfl ⟨rfl, rfl, by decide, by decide⟩ (Nat.le_of_ble_eq_true rfl) ⟨Nat.zero_le _, Nat.zero_le _⟩ dX5_share_2 (fun H locs hI => ?_)
  refine lv_aload_n hx hb dX5_share_5 rfl (lv_at hl 0 rfl) ?_
  refine g_get 0 hx hb hts hown hC hI i_X5 (by decide) (e_x g_us) rfl (by decide) qf_X5_7 rfl rfl dX5_share_6 ?_
  refine lv_bipush (v := 6) hx hb dX5_share_9 (by decide) ?_
  refine lv_iload_n hx hb dX5_share_11 rfl (lv_at hl 2 rfl) ?_
  refine lv_iadd hx hb dX5_share_12 ?_
  refine g_te (nI_add 6 st) ?_
  refine g_iald (6 + st) hx hb hC hI (by decide) (e_xs g_us) (vp_in_nI (by omega) (by decide)) (nI_clamp (by omega)) dX5_share_13 ?_
  refine lv_imul hx hb dX5_share_14 ?_
  refine lv_bipush (v := 100) hx hb dX5_share_15 (by decide) ?_
  refine lv_idiv hx hb dX5_share_17 (by decide) ?_
  exact g_ir hQ hx hb hr0 hlk hC hI dX5_share_18 rfl (by rfl) rfl rfl
abbrev rm_X5_isAbove : Room := { frames := 3, cells := 0, slots := 0, locals := 65 }
set_option maxHeartbeats 800000 in
set_option maxRecDepth 100000 in
theorem c_X5_isAbove (l : Launch) (D : va_G) (tb : g_T) (ad : g_Ad) (hj : g_inj ad) (P : g_P) (M : g_M) (V : g_V) (a : Nat) (ha : a < 16) : g_Ci l yX5_isAbove cX5_isAbove 2 (some .boolean) rm_X5_isAbove D tb ad [.ref (ad 7 0), .int (nI a)] P (va_up M 7 V) (if m_above V a then 1 else 0) P (va_up M 7 V) := by
  refine g_go (by decide) (Nat.le_of_ble_eq_true rfl) hj ?_
  intro p e s m below meth c ls H locs R args Q hR0 hQ hx hb hml hr0 hlk hown hts hC hI hl
  subst hR0
  have hown : s.vm.findClass RX5 = some m.cls := hown
  have hl : lv_has ls 2 [(0, .ref (ad 7 0)), (1, .int (nI a))] := hl
  refine lv_aload_n hx hb dX5_isAbove_0 rfl (lv_at hl 0 rfl) ?_
  refine lv_iload_n hx hb dX5_isAbove_1 rfl (lv_at hl 1 rfl) ?_
  refine lv_iconst (v := 5) hx hb dX5_isAbove_2 (by decide) ?_
  refine g_callVi (rest := []) (c_X5_of l D tb ad hj P M V a 5 (by first | assumption | omega) (by first | assumption | omega)) rfl rfl gm_X5_of hx hb hml hown hts hC hI (by decide) (e_x g_us) rfl rfl qm_X5_33 rfl hl.1 rfl ⟨rfl, rfl, by decide, by decide⟩ (Nat.le_of_ble_eq_true rfl) ⟨Nat.zero_le _, Nat.zero_le _⟩ dX5_isAbove_3 (fun H locs hI => ?_)
  refine lv_aload_n hx hb dX5_isAbove_6 rfl (lv_at hl 0 rfl) ?_
  refine lv_iload_n hx hb dX5_isAbove_7 rfl (lv_at hl 1 rfl) ?_
  refine lv_iconst (v := 1) hx hb dX5_isAbove_8 (by decide) ?_
  refine g_callVi (rest := [.int (V 1 (34 + 7 * a + 5))]) (c_X5_share l D tb ad hj P M V a 1 (by first | assumption | omega) (by first | assumption | omega)) rfl rfl gm_X5_share hx hb hml hown hts hC hI (by decide) (e_x g_us) rfl rfl qm_X5_49 rfl hl.1 rfl ⟨rfl, rfl, by decide, by decide⟩ (Nat.le_of_ble_eq_true rfl) ⟨Nat.zero_le _, Nat.zero_le _⟩ dX5_isAbove_9 (fun H locs hI => ?_)
  refine lv_icmp_le (tgt := 19) hx hb dX5_isAbove_12 (by decide) (fun c1 => ?_) (fun c1 => ?_)
  · refine lv_iconst (v := 0) hx hb dX5_isAbove_19 (by decide) ?_
    exact g_ir hQ hx hb hr0 hlk hC hI dX5_isAbove_20 (by rfl) (by simp [c1]) rfl rfl
  · refine lv_iconst (v := 1) hx hb dX5_isAbove_15 (by decide) ?_
    refine lv_goto (tgt := 20) hx hb dX5_isAbove_16 (by decide) ?_
    exact g_ir hQ hx hb hr0 hlk hC hI dX5_isAbove_20 (by rfl) (by simp [c1]) rfl rfl
abbrev rm_X5_grade : Room := { frames := 0, cells := 0, slots := 0, locals := 0 }
set_option maxHeartbeats 800000 in
set_option maxRecDepth 100000 in
theorem c_X5_grade (l : Launch) (D : va_G) (tb : g_T) (ad : g_Ad) (hj : g_inj ad) (P : g_P) (M : g_M) (V : g_V) (b : Nat) (hb5 : b < 5) : g_Ci l yX5_grade cX5_grade 2 (some .int) rm_X5_grade D tb ad [.ref (ad 7 0), .int (nI b)] P (va_up M 7 V) (V 1 (24 + 2 * b)) P (va_up M 7 V) := by
  refine g_go (by decide) (Nat.le_of_ble_eq_true rfl) hj ?_
  intro p e s m below meth c ls H locs R args Q hR0 hQ hx hb hml hr0 hlk hown hts hC hI hl
  subst hR0
  have hown : s.vm.findClass RX5 = some m.cls := hown
  have hl : lv_has ls 2 [(0, .ref (ad 7 0)), (1, .int (nI b))] := hl
  refine lv_aload_n hx hb dX5_grade_0 rfl (lv_at hl 0 rfl) ?_
  refine g_get 0 hx hb hts hown hC hI i_X5 (by decide) (e_x g_us) rfl (by decide) qf_X5_7 rfl rfl dX5_grade_1 ?_
  refine lv_bipush (v := 24) hx hb dX5_grade_4 (by decide) ?_
  refine lv_iconst (v := 2) hx hb dX5_grade_6 (by decide) ?_
  refine lv_iload_n hx hb dX5_grade_7 rfl (lv_at hl 1 rfl) ?_
  refine lv_imul hx hb dX5_grade_8 ?_
  refine g_te (pk_mul 2 b) ?_
  refine lv_iadd hx hb dX5_grade_9 ?_
  refine g_te (nI_add 24 (2 * b)) ?_
  refine g_iald (24 + (2 * b)) hx hb hC hI (by decide) (e_xs g_us) (vp_in_nI (by omega) (by decide)) (nI_clamp (by omega)) dX5_grade_10 ?_
  exact g_ir hQ hx hb hr0 hlk hC hI dX5_grade_11 rfl (by rfl) rfl rfl
abbrev rm_X5_amount : Room := { frames := 0, cells := 0, slots := 0, locals := 0 }
set_option maxHeartbeats 800000 in
set_option maxRecDepth 100000 in
theorem c_X5_amount (l : Launch) (D : va_G) (tb : g_T) (ad : g_Ad) (hj : g_inj ad) (P : g_P) (M : g_M) (V : g_V) (b : Nat) (hb5 : b < 5) : g_Ci l yX5_amount cX5_amount 2 (some .int) rm_X5_amount D tb ad [.ref (ad 7 0), .int (nI b)] P (va_up M 7 V) (V 1 (24 + 2 * b + 1)) P (va_up M 7 V) := by
  refine g_go (by decide) (Nat.le_of_ble_eq_true rfl) hj ?_
  intro p e s m below meth c ls H locs R args Q hR0 hQ hx hb hml hr0 hlk hown hts hC hI hl
  subst hR0
  have hown : s.vm.findClass RX5 = some m.cls := hown
  have hl : lv_has ls 2 [(0, .ref (ad 7 0)), (1, .int (nI b))] := hl
  refine lv_aload_n hx hb dX5_amount_0 rfl (lv_at hl 0 rfl) ?_
  refine g_get 0 hx hb hts hown hC hI i_X5 (by decide) (e_x g_us) rfl (by decide) qf_X5_7 rfl rfl dX5_amount_1 ?_
  refine lv_bipush (v := 24) hx hb dX5_amount_4 (by decide) ?_
  refine lv_iconst (v := 2) hx hb dX5_amount_6 (by decide) ?_
  refine lv_iload_n hx hb dX5_amount_7 rfl (lv_at hl 1 rfl) ?_
  refine lv_imul hx hb dX5_amount_8 ?_
  refine g_te (pk_mul 2 b) ?_
  refine lv_iadd hx hb dX5_amount_9 ?_
  refine g_te (nI_add 24 (2 * b)) ?_
  refine lv_iconst (v := 1) hx hb dX5_amount_10 (by decide) ?_
  refine lv_iadd hx hb dX5_amount_11 ?_
  refine g_te (nI_add (24 + (2 * b)) 1) ?_
  refine g_iald (24 + (2 * b) + 1) hx hb hC hI (by decide) (e_xs g_us) (vp_in_nI (by omega) (by decide)) (nI_clamp (by omega)) dX5_amount_12 ?_
  exact g_ir hQ hx hb hr0 hlk hC hI dX5_amount_13 rfl (by rfl) rfl rfl
abbrev rm_X5_moves : Room := { frames := 0, cells := 0, slots := 0, locals := 0 }
set_option maxHeartbeats 800000 in
set_option maxRecDepth 100000 in
theorem c_X5_moves (l : Launch) (D : va_G) (tb : g_T) (ad : g_Ad) (hj : g_inj ad) (P : g_P) (M : g_M) (V : g_V) (b : Nat) (y : Int32) (hb5 : b < 5) : g_Cv l yX5_moves cX5_moves 3 none rm_X5_moves D tb ad [.ref (ad 7 0), .int (nI b), .int y] P (va_up M 7 V) P (va_up M 7 (m_moves V b y)) := by
  refine g_go (by decide) (Nat.le_of_ble_eq_true rfl) hj ?_
  intro p e s m below meth c ls H locs R args Q hR0 hQ hx hb hml hr0 hlk hown hts hC hI hl
  subst hR0
  have hown : s.vm.findClass RX5 = some m.cls := hown
  have hl : lv_has ls 3 [(0, .ref (ad 7 0)), (1, .int (nI b)), (2, .int y)] := hl
  refine lv_aload_n hx hb dX5_moves_0 rfl (lv_at hl 0 rfl) ?_
  refine g_get 0 hx hb hts hown hC hI i_X5 (by decide) (e_x g_us) rfl (by decide) qf_X5_7 rfl rfl dX5_moves_1 ?_
  refine lv_bipush (v := 24) hx hb dX5_moves_4 (by decide) ?_
  refine lv_iconst (v := 2) hx hb dX5_moves_6 (by decide) ?_
  refine lv_iload_n hx hb dX5_moves_7 rfl (lv_at hl 1 rfl) ?_
  refine lv_imul hx hb dX5_moves_8 ?_
  refine g_te (pk_mul 2 b) ?_
  refine lv_iadd hx hb dX5_moves_9 ?_
  refine g_te (nI_add 24 (2 * b)) ?_
  refine lv_iconst (v := 1) hx hb dX5_moves_10 (by decide) ?_
  refine lv_iadd hx hb dX5_moves_11 ?_
  refine g_te (nI_add (24 + (2 * b)) 1) ?_
  refine lv_dup2_11 hx hb dX5_moves_12 rfl rfl ?_
  refine g_iald (24 + (2 * b) + 1) hx hb hC hI (by decide) (e_xs g_us) (vp_in_nI (by omega) (by decide)) (nI_clamp (by omega)) dX5_moves_13 ?_
  refine lv_iload_n hx hb dX5_moves_14 rfl (lv_at hl 2 rfl) ?_
  refine lv_iadd hx hb dX5_moves_15 ?_
  refine g_iast (24 + (2 * b) + 1) hx hb hC hI (by decide) (e_xs g_us) (vp_in_nI (by omega) (by decide)) (nI_clamp (by omega)) p_xs g_hs dX5_moves_16 (fun H locs hI => ?_)
  exact g_vr hQ hx hb hr0 hlk hC hI dX5_moves_17 rfl (by rfl)
abbrev rm_X5_inBins : Room := { frames := 1, cells := 0, slots := 0, locals := 21 }
set_option maxHeartbeats 800000 in
set_option maxRecDepth 100000 in
theorem c_X5_inBins (l : Launch) (D : va_G) (tb : g_T) (ad : g_Ad) (hj : g_inj ad) (P : g_P) (M : g_M) (V : g_V) (g : Int32) : g_Ci l yX5_inBins cX5_inBins 4 (some .int) rm_X5_inBins D tb ad [.ref (ad 7 0), .int g] P (va_up M 7 V) (m_inBins V g) P (va_up M 7 V) := by
  refine g_go (by decide) (Nat.le_of_ble_eq_true rfl) hj ?_
  intro p e s m below meth c ls H locs R args Q hR0 hQ hx hb hml hr0 hlk hown hts hC hI hl
  subst hR0
  have hown : s.vm.findClass RX5 = some m.cls := hown
  have hl : lv_has ls 4 [(0, .ref (ad 7 0)), (1, .int g)] := hl
  refine lv_iconst (v := 0) hx hb dX5_inBins_0 (by decide) ?_
  refine lv_istore_n (lv' := [(2, .int 0), (0, .ref (ad 7 0)), (1, .int g)]) hx hb dX5_inBins_1 rfl hl (by decide) rfl (fun ls hl => ?_)
  refine lv_iconst (v := 0) hx hb dX5_inBins_2 (by decide) ?_
  refine lv_istore_n (lv' := [(3, .int 0), (2, .int 0), (0, .ref (ad 7 0)), (1, .int g)]) hx hb dX5_inBins_3 rfl hl (by decide) rfl (fun ls hl => ?_)
  have lp4 : ∀ (d k : Nat) (y : Int32), k ≤ 5 → 5 < k + d → y = k_sum (m_binF V g) k → ∀ (H : Heap) (locs : List Loc) (ls : Array Slot), g_I D tb ad (g_A ad) s H locs P (va_up M 7 V) → lv_has ls 4 [(3, .int (nI k)), (2, .int y), (0, .ref (ad 7 0)), (1, .int g)] → W p l e rm_X5_inBins s m args below meth c H locs 0 0 Q (F0 m 4 ls []) := by
    intro d
    induction d with
    | zero => intro k y hkp hfu; intros; omega
    | succ d ih4 =>
      intro k y hkp hfu e_y H locs ls hI hl
      refine lv_iload_n hx hb dX5_inBins_4 rfl (lv_at hl 0 rfl) ?_
      refine lv_iconst (v := 5) hx hb dX5_inBins_5 (by decide) ?_
      refine lv_icmp_ge (tgt := 36) hx hb dX5_inBins_6 (by decide) (fun c1 => ?_) (fun c1 => ?_)
      · have c1n : 5 ≤ k := (nI_leI (a := 5) (b := k) (by omega) (by omega)).mp c1
        refine lv_iload_n hx hb dX5_inBins_36 rfl (lv_at hl 1 rfl) ?_
        exact g_ir hQ hx hb hr0 hlk hC hI dX5_inBins_37 rfl (by rw [show k = 5 from (by omega)] at e_y; unfold m_inBins; rw [← e_y]) rfl rfl
      · have c1n : ¬ 5 ≤ k := fun z => c1 ((nI_leI (a := 5) (b := k) (by omega) (by omega)).mpr z)
        refine lv_iload_n hx hb dX5_inBins_9 rfl (lv_at hl 1 rfl) ?_
        refine lv_aload_n hx hb dX5_inBins_10 rfl (lv_at hl 2 rfl) ?_
        refine lv_iload_n hx hb dX5_inBins_11 rfl (lv_at hl 0 rfl) ?_
        refine g_callVi (rest := [.int y]) (c_X5_grade l D tb ad hj P M V k (by first | assumption | omega)) rfl rfl gm_X5_grade hx hb hml hown hts hC hI (by decide) (e_x g_us) rfl rfl qm_X5_52 rfl hl.1 rfl ⟨rfl, rfl, by decide, by decide⟩ (Nat.le_of_ble_eq_true rfl) ⟨Nat.zero_le _, Nat.zero_le _⟩ dX5_inBins_12 (fun H locs hI => ?_)
        refine lv_iload_n hx hb dX5_inBins_15 rfl (lv_at hl 3 rfl) ?_
        refine lv_icmp_ne (tgt := 27) hx hb dX5_inBins_16 (by decide) (fun c2 => ?_) (fun c2 => ?_)
        · refine lv_iconst (v := 0) hx hb dX5_inBins_27 (by decide) ?_
          refine lv_iadd hx hb dX5_inBins_28 ?_
          refine lv_istore_n (lv' := [(2, .int (y + 0)), (3, .int (nI k)), (0, .ref (ad 7 0)), (1, .int g)]) hx hb dX5_inBins_29 rfl hl (by decide) rfl (fun ls hl => ?_)
          refine lv_iinc (v := nI (k + 1)) (lv' := [(3, .int (nI (k + 1))), (2, .int (y + 0)), (0, .ref (ad 7 0)), (1, .int g)]) hx hb dX5_inBins_30 hl (k := 1) rfl (nI_1 _) (by decide) rfl (fun ls hl => ?_)
          refine lv_goto (tgt := 4) hx hb dX5_inBins_33 (by decide) ?_
          exact ih4 (k + 1) _ (by omega) (by omega) (by rw [k_sum, m_binF]; (first | rw [if_pos c1] | rw [if_neg c1] | skip); (first | rw [if_pos c2] | rw [if_neg c2] | skip); rw [e_y])  _ _ _ hI (lv_sub hl [0, 1, 2, 3] rfl)
        · refine lv_aload_n hx hb dX5_inBins_19 rfl (lv_at hl 2 rfl) ?_
          refine lv_iload_n hx hb dX5_inBins_20 rfl (lv_at hl 0 rfl) ?_
          refine g_callVi (rest := [.int y]) (c_X5_amount l D tb ad hj P M V k (by first | assumption | omega)) rfl rfl gm_X5_amount hx hb hml hown hts hC hI (by decide) (e_x g_us) rfl rfl qm_X5_55 rfl hl.1 rfl ⟨rfl, rfl, by decide, by decide⟩ (Nat.le_of_ble_eq_true rfl) ⟨Nat.zero_le _, Nat.zero_le _⟩ dX5_inBins_21 (fun H locs hI => ?_)
          refine lv_goto (tgt := 28) hx hb dX5_inBins_24 (by decide) ?_
          refine lv_iadd hx hb dX5_inBins_28 ?_
          refine lv_istore_n (lv' := [(2, .int (y + (V 1 (24 + 2 * k + 1)))), (3, .int (nI k)), (0, .ref (ad 7 0)), (1, .int g)]) hx hb dX5_inBins_29 rfl hl (by decide) rfl (fun ls hl => ?_)
          refine lv_iinc (v := nI (k + 1)) (lv' := [(3, .int (nI (k + 1))), (2, .int (y + (V 1 (24 + 2 * k + 1)))), (0, .ref (ad 7 0)), (1, .int g)]) hx hb dX5_inBins_30 hl (k := 1) rfl (nI_1 _) (by decide) rfl (fun ls hl => ?_)
          refine lv_goto (tgt := 4) hx hb dX5_inBins_33 (by decide) ?_
          exact ih4 (k + 1) _ (by omega) (by omega) (by rw [k_sum, m_binF]; (first | rw [if_pos c1] | rw [if_neg c1] | skip); (first | rw [if_pos c2] | rw [if_neg c2] | skip); rw [e_y])  _ _ _ hI (lv_sub hl [0, 1, 2, 3] rfl)
  exact lp4 (5 + 1) 0 _ (by omega) (by omega) rfl  _ _ _ hI (lv_sub hl [0, 1, 2, 3] rfl)
abbrev rm_X5_inReceipts : Room := { frames := 1, cells := 0, slots := 0, locals := 22 }
set_option maxHeartbeats 800000 in
set_option maxRecDepth 100000 in
theorem c_X5_inReceipts (l : Launch) (D : va_G) (tb : g_T) (ad : g_Ad) (hj : g_inj ad) (P : g_P) (M : g_M) (V : g_V) (g : Int32) (n : Nat) (hn : m_N V n) : g_Ci l yX5_inReceipts cX5_inReceipts 4 (some .int) rm_X5_inReceipts D tb ad [.ref (ad 7 0), .int g] P (va_up M 7 V) (m_inReceipts V n g) P (va_up M 7 V) := by
  refine g_go (by decide) (Nat.le_of_ble_eq_true rfl) hj ?_
  intro p e s m below meth c ls H locs R args Q hR0 hQ hx hb hml hr0 hlk hown hts hC hI hl
  subst hR0
  have hown : s.vm.findClass RX5 = some m.cls := hown
  have hl : lv_has ls 4 [(0, .ref (ad 7 0)), (1, .int g)] := hl
  refine lv_iconst (v := 0) hx hb dX5_inReceipts_0 (by decide) ?_
  refine lv_istore_n (lv' := [(2, .int 0), (0, .ref (ad 7 0)), (1, .int g)]) hx hb dX5_inReceipts_1 rfl hl (by decide) rfl (fun ls hl => ?_)
  refine lv_iconst (v := 0) hx hb dX5_inReceipts_2 (by decide) ?_
  refine lv_istore_n (lv' := [(3, .int 0), (2, .int 0), (0, .ref (ad 7 0)), (1, .int g)]) hx hb dX5_inReceipts_3 rfl hl (by decide) rfl (fun ls hl => ?_)
  have lp4 : ∀ (d k : Nat) (y : Int32), k ≤ n → n < k + d → y = k_sum (m_recF V g) k → ∀ (H : Heap) (locs : List Loc) (ls : Array Slot), g_I D tb ad (g_A ad) s H locs P (va_up M 7 V) → lv_has ls 4 [(3, .int (nI k)), (2, .int y), (0, .ref (ad 7 0)), (1, .int g)] → W p l e rm_X5_inReceipts s m args below meth c H locs 0 0 Q (F0 m 4 ls []) := by
    intro d
    induction d with
    | zero => intro k y hkp hfu; intros; omega
    | succ d ih4 =>
      intro k y hkp hfu e_y H locs ls hI hl
      refine lv_iload_n hx hb dX5_inReceipts_4 rfl (lv_at hl 0 rfl) ?_
      refine lv_aload_n hx hb dX5_inReceipts_5 rfl (lv_at hl 2 rfl) ?_
      refine g_get 0 hx hb hts hown hC hI i_X5 (by decide) (e_x g_us) rfl (by decide) qf_X5_7 rfl rfl dX5_inReceipts_6 ?_
      refine lv_iconst (v := 0) hx hb dX5_inReceipts_9 (by decide) ?_
      refine g_iald 0 hx hb hC hI (by decide) (e_xs g_us) (by unfold vp_in; decide) rfl dX5_inReceipts_10 ?_
      refine g_te (y := (nI n)) hn.1 ?_
      refine lv_icmp_ge (tgt := 43) hx hb dX5_inReceipts_11 (by decide) (fun c1 => ?_) (fun c1 => ?_)
      · have c1n : n ≤ k := (nI_leI (a := n) (b := k) (by omega) (by omega)).mp c1
        refine lv_iload_n hx hb dX5_inReceipts_43 rfl (lv_at hl 1 rfl) ?_
        exact g_ir hQ hx hb hr0 hlk hC hI dX5_inReceipts_44 rfl (by rw [show k = n from (by omega)] at e_y; unfold m_inReceipts; rw [← e_y]) rfl rfl
      · have c1n : ¬ n ≤ k := fun z => c1 ((nI_leI (a := n) (b := k) (by omega) (by omega)).mpr z)
        refine lv_iload_n hx hb dX5_inReceipts_14 rfl (lv_at hl 1 rfl) ?_
        refine lv_aload_n hx hb dX5_inReceipts_15 rfl (lv_at hl 2 rfl) ?_
        refine lv_iload_n hx hb dX5_inReceipts_16 rfl (lv_at hl 0 rfl) ?_
        refine lv_iconst (v := 2) hx hb dX5_inReceipts_17 (by decide) ?_
        refine g_callVi (rest := [.int y]) (c_X5_of l D tb ad hj P M V k 2 (by first | assumption | omega) (by first | assumption | omega)) rfl rfl gm_X5_of hx hb hml hown hts hC hI (by decide) (e_x g_us) rfl rfl qm_X5_33 rfl hl.1 rfl ⟨rfl, rfl, by decide, by decide⟩ (Nat.le_of_ble_eq_true rfl) ⟨Nat.zero_le _, Nat.zero_le _⟩ dX5_inReceipts_18 (fun H locs hI => ?_)
        refine lv_iload_n hx hb dX5_inReceipts_21 rfl (lv_at hl 3 rfl) ?_
        refine lv_icmp_ne (tgt := 34) hx hb dX5_inReceipts_22 (by decide) (fun c2 => ?_) (fun c2 => ?_)
        · refine lv_iconst (v := 0) hx hb dX5_inReceipts_34 (by decide) ?_
          refine lv_iadd hx hb dX5_inReceipts_35 ?_
          refine lv_istore_n (lv' := [(2, .int (y + 0)), (3, .int (nI k)), (0, .ref (ad 7 0)), (1, .int g)]) hx hb dX5_inReceipts_36 rfl hl (by decide) rfl (fun ls hl => ?_)
          refine lv_iinc (v := nI (k + 1)) (lv' := [(3, .int (nI (k + 1))), (2, .int (y + 0)), (0, .ref (ad 7 0)), (1, .int g)]) hx hb dX5_inReceipts_37 hl (k := 1) rfl (nI_1 _) (by decide) rfl (fun ls hl => ?_)
          refine lv_goto (tgt := 4) hx hb dX5_inReceipts_40 (by decide) ?_
          exact ih4 (k + 1) _ (by omega) (by omega) (by rw [k_sum, m_recF]; (first | rw [if_pos c1] | rw [if_neg c1] | skip); (first | rw [if_pos c2] | rw [if_neg c2] | skip); rw [e_y])  _ _ _ hI (lv_sub hl [0, 1, 2, 3] rfl)
        · refine lv_aload_n hx hb dX5_inReceipts_25 rfl (lv_at hl 2 rfl) ?_
          refine lv_iload_n hx hb dX5_inReceipts_26 rfl (lv_at hl 0 rfl) ?_
          refine lv_iconst (v := 3) hx hb dX5_inReceipts_27 (by decide) ?_
          refine g_callVi (rest := [.int y]) (c_X5_of l D tb ad hj P M V k 3 (by first | assumption | omega) (by first | assumption | omega)) rfl rfl gm_X5_of hx hb hml hown hts hC hI (by decide) (e_x g_us) rfl rfl qm_X5_33 rfl hl.1 rfl ⟨rfl, rfl, by decide, by decide⟩ (Nat.le_of_ble_eq_true rfl) ⟨Nat.zero_le _, Nat.zero_le _⟩ dX5_inReceipts_28 (fun H locs hI => ?_)
          refine lv_goto (tgt := 35) hx hb dX5_inReceipts_31 (by decide) ?_
          refine lv_iadd hx hb dX5_inReceipts_35 ?_
          refine lv_istore_n (lv' := [(2, .int (y + (V 1 (34 + 7 * k + 3)))), (3, .int (nI k)), (0, .ref (ad 7 0)), (1, .int g)]) hx hb dX5_inReceipts_36 rfl hl (by decide) rfl (fun ls hl => ?_)
          refine lv_iinc (v := nI (k + 1)) (lv' := [(3, .int (nI (k + 1))), (2, .int (y + (V 1 (34 + 7 * k + 3)))), (0, .ref (ad 7 0)), (1, .int g)]) hx hb dX5_inReceipts_37 hl (k := 1) rfl (nI_1 _) (by decide) rfl (fun ls hl => ?_)
          refine lv_goto (tgt := 4) hx hb dX5_inReceipts_40 (by decide) ?_
          exact ih4 (k + 1) _ (by omega) (by omega) (by rw [k_sum, m_recF]; (first | rw [if_pos c1] | rw [if_neg c1] | skip); (first | rw [if_pos c2] | rw [if_neg c2] | skip); rw [e_y])  _ _ _ hI (lv_sub hl [0, 1, 2, 3] rfl)
  exact lp4 (n + 1) 0 _ (by omega) (by omega) rfl  _ _ _ hI (lv_sub hl [0, 1, 2, 3] rfl)
abbrev rm_X5_room : Room := { frames := 1, cells := 0, slots := 0, locals := 21 }
set_option maxHeartbeats 800000 in
set_option maxRecDepth 100000 in
theorem c_X5_room (l : Launch) (D : va_G) (tb : g_T) (ad : g_Ad) (hj : g_inj ad) (P : g_P) (M : g_M) (V : g_V) (g : Int32) : g_Ci l yX5_room cX5_room 4 (some .int) rm_X5_room D tb ad [.ref (ad 7 0), .int g] P (va_up M 7 V) (m_room V g) P (va_up M 7 V) := by
  refine g_go (by decide) (Nat.le_of_ble_eq_true rfl) hj ?_
  intro p e s m below meth c ls H locs R args Q hR0 hQ hx hb hml hr0 hlk hown hts hC hI hl
  subst hR0
  have hown : s.vm.findClass RX5 = some m.cls := hown
  have hl : lv_has ls 4 [(0, .ref (ad 7 0)), (1, .int g)] := hl
  refine lv_iconst (v := 0) hx hb dX5_room_0 (by decide) ?_
  refine lv_istore_n (lv' := [(2, .int 0), (0, .ref (ad 7 0)), (1, .int g)]) hx hb dX5_room_1 rfl hl (by decide) rfl (fun ls hl => ?_)
  refine lv_iconst (v := 0) hx hb dX5_room_2 (by decide) ?_
  refine lv_istore_n (lv' := [(3, .int 0), (2, .int 0), (0, .ref (ad 7 0)), (1, .int g)]) hx hb dX5_room_3 rfl hl (by decide) rfl (fun ls hl => ?_)
  have lp4 : ∀ (d k : Nat) (y : Int32), k ≤ 5 → 5 < k + d → y = k_sum (m_roomF V g) k → ∀ (H : Heap) (locs : List Loc) (ls : Array Slot), g_I D tb ad (g_A ad) s H locs P (va_up M 7 V) → lv_has ls 4 [(3, .int (nI k)), (2, .int y), (0, .ref (ad 7 0)), (1, .int g)] → W p l e rm_X5_room s m args below meth c H locs 0 0 Q (F0 m 4 ls []) := by
    intro d
    induction d with
    | zero => intro k y hkp hfu; intros; omega
    | succ d ih4 =>
      intro k y hkp hfu e_y H locs ls hI hl
      refine lv_iload_n hx hb dX5_room_4 rfl (lv_at hl 0 rfl) ?_
      refine lv_iconst (v := 5) hx hb dX5_room_5 (by decide) ?_
      refine lv_icmp_ge (tgt := 40) hx hb dX5_room_6 (by decide) (fun c1 => ?_) (fun c1 => ?_)
      · have c1n : 5 ≤ k := (nI_leI (a := 5) (b := k) (by omega) (by omega)).mp c1
        refine lv_iload_n hx hb dX5_room_40 rfl (lv_at hl 1 rfl) ?_
        exact g_ir hQ hx hb hr0 hlk hC hI dX5_room_41 rfl (by rw [show k = 5 from (by omega)] at e_y; unfold m_room; rw [← e_y]) rfl rfl
      · have c1n : ¬ 5 ≤ k := fun z => c1 ((nI_leI (a := 5) (b := k) (by omega) (by omega)).mpr z)
        refine lv_iload_n hx hb dX5_room_9 rfl (lv_at hl 1 rfl) ?_
        refine lv_aload_n hx hb dX5_room_10 rfl (lv_at hl 2 rfl) ?_
        refine lv_iload_n hx hb dX5_room_11 rfl (lv_at hl 0 rfl) ?_
        refine g_callVi (rest := [.int y]) (c_X5_grade l D tb ad hj P M V k (by first | assumption | omega)) rfl rfl gm_X5_grade hx hb hml hown hts hC hI (by decide) (e_x g_us) rfl rfl qm_X5_52 rfl hl.1 rfl ⟨rfl, rfl, by decide, by decide⟩ (Nat.le_of_ble_eq_true rfl) ⟨Nat.zero_le _, Nat.zero_le _⟩ dX5_room_12 (fun H locs hI => ?_)
        refine lv_iload_n hx hb dX5_room_15 rfl (lv_at hl 3 rfl) ?_
        refine lv_icmp_ne (tgt := 31) hx hb dX5_room_16 (by decide) (fun c2 => ?_) (fun c2 => ?_)
        · refine lv_iconst (v := 0) hx hb dX5_room_31 (by decide) ?_
          refine lv_iadd hx hb dX5_room_32 ?_
          refine lv_istore_n (lv' := [(2, .int (y + 0)), (3, .int (nI k)), (0, .ref (ad 7 0)), (1, .int g)]) hx hb dX5_room_33 rfl hl (by decide) rfl (fun ls hl => ?_)
          refine lv_iinc (v := nI (k + 1)) (lv' := [(3, .int (nI (k + 1))), (2, .int (y + 0)), (0, .ref (ad 7 0)), (1, .int g)]) hx hb dX5_room_34 hl (k := 1) rfl (nI_1 _) (by decide) rfl (fun ls hl => ?_)
          refine lv_goto (tgt := 4) hx hb dX5_room_37 (by decide) ?_
          exact ih4 (k + 1) _ (by omega) (by omega) (by rw [k_sum, m_roomF]; (first | rw [if_pos c1] | rw [if_neg c1] | skip); (first | rw [if_pos c2] | rw [if_neg c2] | skip); rw [e_y])  _ _ _ hI (lv_sub hl [0, 1, 2, 3] rfl)
        · refine lv_sipush (v := 2000) hx hb dX5_room_19 (by decide) ?_
          refine lv_aload_n hx hb dX5_room_22 rfl (lv_at hl 2 rfl) ?_
          refine lv_iload_n hx hb dX5_room_23 rfl (lv_at hl 0 rfl) ?_
          refine g_callVi (rest := [.int 2000, .int y]) (c_X5_amount l D tb ad hj P M V k (by first | assumption | omega)) rfl rfl gm_X5_amount hx hb hml hown hts hC hI (by decide) (e_x g_us) rfl rfl qm_X5_55 rfl hl.1 rfl ⟨rfl, rfl, by decide, by decide⟩ (Nat.le_of_ble_eq_true rfl) ⟨Nat.zero_le _, Nat.zero_le _⟩ dX5_room_24 (fun H locs hI => ?_)
          refine lv_isub hx hb dX5_room_27 ?_
          refine lv_goto (tgt := 32) hx hb dX5_room_28 (by decide) ?_
          refine lv_iadd hx hb dX5_room_32 ?_
          refine lv_istore_n (lv' := [(2, .int (y + (2000 - (V 1 (24 + 2 * k + 1))))), (3, .int (nI k)), (0, .ref (ad 7 0)), (1, .int g)]) hx hb dX5_room_33 rfl hl (by decide) rfl (fun ls hl => ?_)
          refine lv_iinc (v := nI (k + 1)) (lv' := [(3, .int (nI (k + 1))), (2, .int (y + (2000 - (V 1 (24 + 2 * k + 1))))), (0, .ref (ad 7 0)), (1, .int g)]) hx hb dX5_room_34 hl (k := 1) rfl (nI_1 _) (by decide) rfl (fun ls hl => ?_)
          refine lv_goto (tgt := 4) hx hb dX5_room_37 (by decide) ?_
          exact ih4 (k + 1) _ (by omega) (by omega) (by rw [k_sum, m_roomF]; (first | rw [if_pos c1] | rw [if_neg c1] | skip); (first | rw [if_pos c2] | rw [if_neg c2] | skip); rw [e_y])  _ _ _ hI (lv_sub hl [0, 1, 2, 3] rfl)
  exact lp4 (5 + 1) 0 _ (by omega) (by omega) rfl  _ _ _ hI (lv_sub hl [0, 1, 2, 3] rfl)
abbrev rm_X5_surplus : Room := { frames := 2, cells := 0, slots := 0, locals := 45 }
set_option maxHeartbeats 800000 in
set_option maxRecDepth 100000 in
theorem c_X5_surplus (l : Launch) (D : va_G) (tb : g_T) (ad : g_Ad) (hj : g_inj ad) (P : g_P) (M : g_M) (V : g_V) (g : Nat) (n : Nat) (hn : m_N V n) (hg : g < 100) : g_Ci l yX5_surplus cX5_surplus 4 (some .int) rm_X5_surplus D tb ad [.ref (ad 7 0), .int (nI g)] P (va_up M 7 V) (m_surplus V n g) P (va_up M 7 V) := by
  refine g_go (by decide) (Nat.le_of_ble_eq_true rfl) hj ?_
  intro p e s m below meth c ls H locs R args Q hR0 hQ hx hb hml hr0 hlk hown hts hC hI hl
  subst hR0
  have hown : s.vm.findClass RX5 = some m.cls := hown
  have hl : lv_has ls 4 [(0, .ref (ad 7 0)), (1, .int (nI g))] := hl
  refine lv_iconst (v := 0) hx hb dX5_surplus_0 (by decide) ?_
  refine lv_istore_n (lv' := [(2, .int 0), (0, .ref (ad 7 0)), (1, .int (nI g))]) hx hb dX5_surplus_1 rfl hl (by decide) rfl (fun ls hl => ?_)
  refine lv_iconst (v := 0) hx hb dX5_surplus_2 (by decide) ?_
  refine lv_istore_n (lv' := [(3, .int 0), (2, .int 0), (0, .ref (ad 7 0)), (1, .int (nI g))]) hx hb dX5_surplus_3 rfl hl (by decide) rfl (fun ls hl => ?_)
  have lp4 : ∀ (d k : Nat) (y : Int32), k ≤ g + 1 → g + 1 < k + d → y = k_sum (m_surF V n) k → ∀ (H : Heap) (locs : List Loc) (ls : Array Slot), g_I D tb ad (g_A ad) s H locs P (va_up M 7 V) → lv_has ls 4 [(3, .int (nI k)), (2, .int y), (0, .ref (ad 7 0)), (1, .int (nI g))] → W p l e rm_X5_surplus s m args below meth c H locs 0 0 Q (F0 m 4 ls []) := by
    intro d
    induction d with
    | zero => intro k y hkp hfu; intros; omega
    | succ d ih4 =>
      intro k y hkp hfu e_y H locs ls hI hl
      refine lv_iload_n hx hb dX5_surplus_4 rfl (lv_at hl 0 rfl) ?_
      refine lv_iload_n hx hb dX5_surplus_5 rfl (lv_at hl 3 rfl) ?_
      refine lv_icmp_gt (tgt := 29) hx hb dX5_surplus_6 (by decide) (fun c1 => ?_) (fun c1 => ?_)
      · have c1n : g < k := (nI_ltI (a := g) (b := k) (by omega) (by omega)).mp c1
        refine lv_iload_n hx hb dX5_surplus_29 rfl (lv_at hl 1 rfl) ?_
        exact g_ir hQ hx hb hr0 hlk hC hI dX5_surplus_30 rfl (by rw [show k = g + 1 from (by omega)] at e_y; unfold m_surplus; rw [← e_y]) rfl rfl
      · have c1n : ¬ g < k := fun z => c1 ((nI_ltI (a := g) (b := k) (by omega) (by omega)).mpr z)
        refine lv_iload_n hx hb dX5_surplus_9 rfl (lv_at hl 1 rfl) ?_
        refine lv_aload_n hx hb dX5_surplus_10 rfl (lv_at hl 2 rfl) ?_
        refine lv_iload_n hx hb dX5_surplus_11 rfl (lv_at hl 0 rfl) ?_
        refine g_callVi (rest := [.int y]) (c_X5_inBins l D tb ad hj P M V (nI k)) rfl rfl gm_X5_inBins hx hb hml hown hts hC hI (by decide) (e_x g_us) rfl rfl qm_X5_58 rfl hl.1 rfl ⟨rfl, rfl, by decide, by decide⟩ (Nat.le_of_ble_eq_true rfl) ⟨Nat.zero_le _, Nat.zero_le _⟩ dX5_surplus_12 (fun H locs hI => ?_)
        refine lv_aload_n hx hb dX5_surplus_15 rfl (lv_at hl 2 rfl) ?_
        refine lv_iload_n hx hb dX5_surplus_16 rfl (lv_at hl 0 rfl) ?_
        refine g_callVi (rest := [.int (m_inBins V (nI k)), .int y]) (c_X5_inReceipts l D tb ad hj P M V (nI k) n (by first | assumption | omega)) rfl rfl gm_X5_inReceipts hx hb hml hown hts hC hI (by decide) (e_x g_us) rfl rfl qm_X5_61 rfl hl.1 rfl ⟨rfl, rfl, by decide, by decide⟩ (Nat.le_of_ble_eq_true rfl) ⟨Nat.zero_le _, Nat.zero_le _⟩ dX5_surplus_17 (fun H locs hI => ?_)
        refine lv_isub hx hb dX5_surplus_20 ?_
        refine lv_iadd hx hb dX5_surplus_21 ?_
        refine lv_istore_n (lv' := [(2, .int (y + ((m_inBins V (nI k)) - (m_inReceipts V n (nI k))))), (3, .int (nI k)), (0, .ref (ad 7 0)), (1, .int (nI g))]) hx hb dX5_surplus_22 rfl hl (by decide) rfl (fun ls hl => ?_)
        refine lv_iinc (v := nI (k + 1)) (lv' := [(3, .int (nI (k + 1))), (2, .int (y + ((m_inBins V (nI k)) - (m_inReceipts V n (nI k))))), (0, .ref (ad 7 0)), (1, .int (nI g))]) hx hb dX5_surplus_23 hl (k := 1) rfl (nI_1 _) (by decide) rfl (fun ls hl => ?_)
        refine lv_goto (tgt := 4) hx hb dX5_surplus_26 (by decide) ?_
        exact ih4 (k + 1) _ (by omega) (by omega) (by rw [k_sum, m_surF, e_y])  _ _ _ hI (lv_sub hl [0, 1, 2, 3] rfl)
  exact lp4 (g + 2) 0 _ (by omega) (by omega) rfl  _ _ _ hI (lv_sub hl [0, 1, 2, 3] rfl)
abbrev rm_X5_areCovered : Room := { frames := 3, cells := 0, slots := 0, locals := 68 }
set_option maxHeartbeats 800000 in
set_option maxRecDepth 100000 in
theorem c_X5_areCovered (l : Launch) (D : va_G) (tb : g_T) (ad : g_Ad) (hj : g_inj ad) (P : g_P) (M : g_M) (V : g_V) (n : Nat) (hn : m_N V n) : g_Ci l yX5_areCovered cX5_areCovered 1 (some .boolean) rm_X5_areCovered D tb ad [.ref (ad 7 0)] P (va_up M 7 V) (if m_covered V n then 1 else 0) P (va_up M 7 V) := by
  refine g_go (by decide) (Nat.le_of_ble_eq_true rfl) hj ?_
  intro p e s m below meth c ls H locs R args Q hR0 hQ hx hb hml hr0 hlk hown hts hC hI hl
  subst hR0
  have hown : s.vm.findClass RX5 = some m.cls := hown
  have hl : lv_has ls 1 [(0, .ref (ad 7 0))] := hl
  refine lv_aload_n hx hb dX5_areCovered_0 rfl (lv_at hl 0 rfl) ?_
  refine lv_iconst (v := 0) hx hb dX5_areCovered_1 (by decide) ?_
  refine g_callVi (rest := []) (c_X5_surplus l D tb ad hj P M V 0 n (by first | assumption | omega) (by first | assumption | omega)) rfl rfl gm_X5_surplus hx hb hml hown hts hC hI (by decide) (e_x g_us) rfl rfl qm_X5_64 rfl hl.1 rfl ⟨rfl, rfl, by decide, by decide⟩ (Nat.le_of_ble_eq_true rfl) ⟨Nat.zero_le _, Nat.zero_le _⟩ dX5_areCovered_2 (fun H locs hI => ?_)
  refine lv_if_lt (tgt := 28) hx hb dX5_areCovered_5 (by decide) (fun c1 => ?_) (fun c1 => ?_)
  · refine lv_iconst (v := 0) hx hb dX5_areCovered_28 (by decide) ?_
    exact g_ir hQ hx hb hr0 hlk hC hI dX5_areCovered_29 (by rfl) (by simp [c1]) rfl rfl
  · refine lv_aload_n hx hb dX5_areCovered_8 rfl (lv_at hl 0 rfl) ?_
    refine lv_iconst (v := 1) hx hb dX5_areCovered_9 (by decide) ?_
    refine g_callVi (rest := []) (c_X5_surplus l D tb ad hj P M V 1 n (by first | assumption | omega) (by first | assumption | omega)) rfl rfl gm_X5_surplus hx hb hml hown hts hC hI (by decide) (e_x g_us) rfl rfl qm_X5_64 rfl hl.1 rfl ⟨rfl, rfl, by decide, by decide⟩ (Nat.le_of_ble_eq_true rfl) ⟨Nat.zero_le _, Nat.zero_le _⟩ dX5_areCovered_10 (fun H locs hI => ?_)
    refine lv_if_lt (tgt := 28) hx hb dX5_areCovered_13 (by decide) (fun c2 => ?_) (fun c2 => ?_)
    · refine lv_iconst (v := 0) hx hb dX5_areCovered_28 (by decide) ?_
      exact g_ir hQ hx hb hr0 hlk hC hI dX5_areCovered_29 (by rfl) (by simp [c1, c2]) rfl rfl
    · refine lv_aload_n hx hb dX5_areCovered_16 rfl (lv_at hl 0 rfl) ?_
      refine lv_iconst (v := 2) hx hb dX5_areCovered_17 (by decide) ?_
      refine g_callVi (rest := []) (c_X5_surplus l D tb ad hj P M V 2 n (by first | assumption | omega) (by first | assumption | omega)) rfl rfl gm_X5_surplus hx hb hml hown hts hC hI (by decide) (e_x g_us) rfl rfl qm_X5_64 rfl hl.1 rfl ⟨rfl, rfl, by decide, by decide⟩ (Nat.le_of_ble_eq_true rfl) ⟨Nat.zero_le _, Nat.zero_le _⟩ dX5_areCovered_18 (fun H locs hI => ?_)
      refine lv_if_lt (tgt := 28) hx hb dX5_areCovered_21 (by decide) (fun c3 => ?_) (fun c3 => ?_)
      · refine lv_iconst (v := 0) hx hb dX5_areCovered_28 (by decide) ?_
        exact g_ir hQ hx hb hr0 hlk hC hI dX5_areCovered_29 (by rfl) (by simp [c1, c2, c3]) rfl rfl
      · refine lv_iconst (v := 1) hx hb dX5_areCovered_24 (by decide) ?_
        refine lv_goto (tgt := 29) hx hb dX5_areCovered_25 (by decide) ?_
        exact g_ir hQ hx hb hr0 hlk hC hI dX5_areCovered_29 (by rfl) (by simp [c1, c2, c3]) rfl rfl
def m_makes (V : g_V) (o : Int32) (g : Int32) (a : Int32) (n : Nat) : g_V :=
  (g_w2 (m_frees (g_w2 (g_w2 (g_w2 (g_w2 (g_w2 V 1 0 ((V 1 0) + 1)) 1 (34 + 7 * n + 0) ((g_w2 V 1 0 ((V 1 0) + 1)) 1 2)) 1 (34 + 7 * n + 1) o) 1 (34 + 7 * n + 2) g) 1 (34 + 7 * n + 3) a) n) 1 2 (((m_frees (g_w2 (g_w2 (g_w2 (g_w2 (g_w2 V 1 0 ((V 1 0) + 1)) 1 (34 + 7 * n + 0) ((g_w2 V 1 0 ((V 1 0) + 1)) 1 2)) 1 (34 + 7 * n + 1) o) 1 (34 + 7 * n + 2) g) 1 (34 + 7 * n + 3) a) n) 1 2) + 1))
abbrev rm_X5_makes : Room := { frames := 2, cells := 0, slots := 0, locals := 44 }
set_option maxHeartbeats 800000 in
set_option maxRecDepth 100000 in
theorem c_X5_makes (l : Launch) (D : va_G) (tb : g_T) (ad : g_Ad) (hj : g_inj ad) (P : g_P) (M : g_M) (V : g_V) (o : Int32) (g : Int32) (a : Int32) (n : Nat) (hn : m_N V n) (hn16 : n < 16) : g_Ci l yX5_makes cX5_makes 5 (some .int) rm_X5_makes D tb ad [.ref (ad 7 0), .int o, .int g, .int a] P (va_up M 7 V) (nI n) P (va_up M 7 (m_makes V o g a n)) := by
  refine g_go (by decide) (Nat.le_of_ble_eq_true rfl) hj ?_
  intro p e s m below meth c ls H locs R args Q hR0 hQ hx hb hml hr0 hlk hown hts hC hI hl
  subst hR0
  have hown : s.vm.findClass RX5 = some m.cls := hown
  have hl : lv_has ls 5 [(0, .ref (ad 7 0)), (1, .int o), (2, .int g), (3, .int a)] := hl
  refine lv_aload_n hx hb dX5_makes_0 rfl (lv_at hl 0 rfl) ?_
  refine g_get 0 hx hb hts hown hC hI i_X5 (by decide) (e_x g_us) rfl (by decide) qf_X5_7 rfl rfl dX5_makes_1 ?_
  refine lv_iconst (v := 0) hx hb dX5_makes_4 (by decide) ?_
  refine g_iald 0 hx hb hC hI (by decide) (e_xs g_us) (by unfold vp_in; decide) rfl dX5_makes_5 ?_
  refine g_te (y := (nI n)) hn.1 ?_
  refine lv_istore (lv' := [(4, .int (nI n)), (0, .ref (ad 7 0)), (1, .int o), (2, .int g), (3, .int a)]) hx hb dX5_makes_6 hl (by decide) rfl (fun ls hl => ?_)
  refine lv_aload_n hx hb dX5_makes_8 rfl (lv_at hl 1 rfl) ?_
  refine g_get 0 hx hb hts hown hC hI i_X5 (by decide) (e_x g_us) rfl (by decide) qf_X5_7 rfl rfl dX5_makes_9 ?_
  refine lv_iconst (v := 0) hx hb dX5_makes_12 (by decide) ?_
  refine lv_dup2_11 hx hb dX5_makes_13 rfl rfl ?_
  refine g_iald 0 hx hb hC hI (by decide) (e_xs g_us) (by unfold vp_in; decide) rfl dX5_makes_14 ?_
  refine lv_iconst (v := 1) hx hb dX5_makes_15 (by decide) ?_
  refine lv_iadd hx hb dX5_makes_16 ?_
  refine g_iast 0 hx hb hC hI (by decide) (e_xs g_us) (by unfold vp_in; decide) rfl p_xs g_hs dX5_makes_17 (fun H locs hI => ?_)
  refine lv_aload_n hx hb dX5_makes_18 rfl (lv_at hl 1 rfl) ?_
  refine lv_iload hx hb dX5_makes_19 (lv_at hl 0 rfl) ?_
  refine lv_iconst (v := 0) hx hb dX5_makes_21 (by decide) ?_
  refine lv_aload_n hx hb dX5_makes_22 rfl (lv_at hl 1 rfl) ?_
  refine g_get 0 hx hb hts hown hC hI i_X5 (by decide) (e_x g_us) rfl (by decide) qf_X5_7 rfl rfl dX5_makes_23 ?_
  refine lv_iconst (v := 2) hx hb dX5_makes_26 (by decide) ?_
  refine g_iald 2 hx hb hC hI (by decide) (e_xs g_us) (by unfold vp_in; decide) rfl dX5_makes_27 ?_
  refine g_callVv (rest := []) (c_X5_lays l D tb ad hj P M (g_w2 V 1 0 ((V 1 0) + 1)) n 0 ((g_w2 V 1 0 ((V 1 0) + 1)) 1 2) (by first | assumption | omega) (by first | assumption | omega)) rfl rfl gm_X5_lays hx hb hml hown hts hC hI (by decide) (e_x g_us) rfl rfl qm_X5_37 rfl hl.1 rfl ⟨rfl, rfl, by decide, by decide⟩ (Nat.le_of_ble_eq_true rfl) ⟨Nat.zero_le _, Nat.zero_le _⟩ dX5_makes_28 (fun H locs hI => ?_)
  refine lv_aload_n hx hb dX5_makes_31 rfl (lv_at hl 1 rfl) ?_
  refine lv_iload hx hb dX5_makes_32 (lv_at hl 0 rfl) ?_
  refine lv_iconst (v := 1) hx hb dX5_makes_34 (by decide) ?_
  refine lv_iload_n hx hb dX5_makes_35 rfl (lv_at hl 2 rfl) ?_
  refine g_callVv (rest := []) (c_X5_lays l D tb ad hj P M (g_w2 (g_w2 V 1 0 ((V 1 0) + 1)) 1 (34 + 7 * n + 0) ((g_w2 V 1 0 ((V 1 0) + 1)) 1 2)) n 1 o (by first | assumption | omega) (by first | assumption | omega)) rfl rfl gm_X5_lays hx hb hml hown hts hC hI (by decide) (e_x g_us) rfl rfl qm_X5_37 rfl hl.1 rfl ⟨rfl, rfl, by decide, by decide⟩ (Nat.le_of_ble_eq_true rfl) ⟨Nat.zero_le _, Nat.zero_le _⟩ dX5_makes_36 (fun H locs hI => ?_)
  refine lv_aload_n hx hb dX5_makes_39 rfl (lv_at hl 1 rfl) ?_
  refine lv_iload hx hb dX5_makes_40 (lv_at hl 0 rfl) ?_
  refine lv_iconst (v := 2) hx hb dX5_makes_42 (by decide) ?_
  refine lv_iload_n hx hb dX5_makes_43 rfl (lv_at hl 3 rfl) ?_
  refine g_callVv (rest := []) (c_X5_lays l D tb ad hj P M (g_w2 (g_w2 (g_w2 V 1 0 ((V 1 0) + 1)) 1 (34 + 7 * n + 0) ((g_w2 V 1 0 ((V 1 0) + 1)) 1 2)) 1 (34 + 7 * n + 1) o) n 2 g (by first | assumption | omega) (by first | assumption | omega)) rfl rfl gm_X5_lays hx hb hml hown hts hC hI (by decide) (e_x g_us) rfl rfl qm_X5_37 rfl hl.1 rfl ⟨rfl, rfl, by decide, by decide⟩ (Nat.le_of_ble_eq_true rfl) ⟨Nat.zero_le _, Nat.zero_le _⟩ dX5_makes_44 (fun H locs hI => ?_)
  refine lv_aload_n hx hb dX5_makes_47 rfl (lv_at hl 1 rfl) ?_
  refine lv_iload hx hb dX5_makes_48 (lv_at hl 0 rfl) ?_
  refine lv_iconst (v := 3) hx hb dX5_makes_50 (by decide) ?_
  refine lv_iload_n hx hb dX5_makes_51 rfl (lv_at hl 4 rfl) ?_
  refine g_callVv (rest := []) (c_X5_lays l D tb ad hj P M (g_w2 (g_w2 (g_w2 (g_w2 V 1 0 ((V 1 0) + 1)) 1 (34 + 7 * n + 0) ((g_w2 V 1 0 ((V 1 0) + 1)) 1 2)) 1 (34 + 7 * n + 1) o) 1 (34 + 7 * n + 2) g) n 3 a (by first | assumption | omega) (by first | assumption | omega)) rfl rfl gm_X5_lays hx hb hml hown hts hC hI (by decide) (e_x g_us) rfl rfl qm_X5_37 rfl hl.1 rfl ⟨rfl, rfl, by decide, by decide⟩ (Nat.le_of_ble_eq_true rfl) ⟨Nat.zero_le _, Nat.zero_le _⟩ dX5_makes_52 (fun H locs hI => ?_)
  refine lv_aload_n hx hb dX5_makes_55 rfl (lv_at hl 1 rfl) ?_
  refine lv_iload hx hb dX5_makes_56 (lv_at hl 0 rfl) ?_
  refine g_callVv (rest := []) (c_X5_frees l D tb ad hj P M (g_w2 (g_w2 (g_w2 (g_w2 (g_w2 V 1 0 ((V 1 0) + 1)) 1 (34 + 7 * n + 0) ((g_w2 V 1 0 ((V 1 0) + 1)) 1 2)) 1 (34 + 7 * n + 1) o) 1 (34 + 7 * n + 2) g) 1 (34 + 7 * n + 3) a) n (by first | assumption | omega)) rfl rfl gm_X5_frees hx hb hml hown hts hC hI (by decide) (e_x g_us) rfl rfl qm_X5_41 rfl hl.1 rfl ⟨rfl, rfl, by decide, by decide⟩ (Nat.le_of_ble_eq_true rfl) ⟨Nat.zero_le _, Nat.zero_le _⟩ dX5_makes_58 (fun H locs hI => ?_)
  refine lv_aload_n hx hb dX5_makes_61 rfl (lv_at hl 1 rfl) ?_
  refine g_get 0 hx hb hts hown hC hI i_X5 (by decide) (e_x g_us) rfl (by decide) qf_X5_7 rfl rfl dX5_makes_62 ?_
  refine lv_iconst (v := 2) hx hb dX5_makes_65 (by decide) ?_
  refine lv_dup2_11 hx hb dX5_makes_66 rfl rfl ?_
  refine g_iald 2 hx hb hC hI (by decide) (e_xs g_us) (by unfold vp_in; decide) rfl dX5_makes_67 ?_
  refine lv_iconst (v := 1) hx hb dX5_makes_68 (by decide) ?_
  refine lv_iadd hx hb dX5_makes_69 ?_
  refine g_iast 2 hx hb hC hI (by decide) (e_xs g_us) (by unfold vp_in; decide) rfl p_xs g_hs dX5_makes_70 (fun H locs hI => ?_)
  refine lv_iload hx hb dX5_makes_71 (lv_at hl 0 rfl) ?_
  exact g_ir hQ hx hb hr0 hlk hC hI dX5_makes_73 rfl (by rfl) rfl (by unfold m_makes; skip; skip; try with_reducible rfl)
abbrev rm_X5_removes : Room := { frames := 0, cells := 0, slots := 0, locals := 0 }
set_option maxHeartbeats 800000 in
set_option maxRecDepth 100000 in
theorem c_X5_removes (l : Launch) (D : va_G) (tb : g_T) (ad : g_Ad) (hj : g_inj ad) (P : g_P) (M : g_M) (V : g_V) (a : Nat) (n : Nat) (hn : m_N V n) (ha : a < n) : g_Cv l yX5_removes cX5_removes 3 none rm_X5_removes D tb ad [.ref (ad 7 0), .int (nI a)] P (va_up M 7 V) P (va_up M 7 (m_removes V n a)) := by
  refine g_go (by decide) (Nat.le_of_ble_eq_true rfl) hj ?_
  intro p e s m below meth c ls H locs R args Q hR0 hQ hx hb hml hr0 hlk hown hts hC hI hl
  subst hR0
  have hown : s.vm.findClass RX5 = some m.cls := hown
  have hl : lv_has ls 3 [(0, .ref (ad 7 0)), (1, .int (nI a))] := hl
  refine lv_aload_n hx hb dX5_removes_0 rfl (lv_at hl 0 rfl) ?_
  refine g_get 0 hx hb hts hown hC hI i_X5 (by decide) (e_x g_us) rfl (by decide) qf_X5_7 rfl rfl dX5_removes_1 ?_
  refine lv_iconst (v := 0) hx hb dX5_removes_4 (by decide) ?_
  refine lv_dup2_11 hx hb dX5_removes_5 rfl rfl ?_
  refine g_iald 0 hx hb hC hI (by decide) (e_xs g_us) (by unfold vp_in; decide) rfl dX5_removes_6 ?_
  refine lv_iconst (v := 1) hx hb dX5_removes_7 (by decide) ?_
  refine lv_isub hx hb dX5_removes_8 ?_
  refine g_te (y := (nI (n - 1))) (by rw [hn.1]; exact k_dp (by omega)) ?_
  refine g_iast 0 hx hb hC hI (by decide) (e_xs g_us) (by unfold vp_in; decide) rfl p_xs g_hs dX5_removes_9 (fun H locs hI => ?_)
  refine lv_bipush (v := 34) hx hb dX5_removes_10 (by decide) ?_
  refine lv_bipush (v := 7) hx hb dX5_removes_12 (by decide) ?_
  refine lv_iload_n hx hb dX5_removes_14 rfl (lv_at hl 1 rfl) ?_
  refine lv_imul hx hb dX5_removes_15 ?_
  refine g_te (pk_mul 7 a) ?_
  refine lv_iadd hx hb dX5_removes_16 ?_
  refine g_te (nI_add 34 (7 * a)) ?_
  refine lv_istore_n (lv' := [(2, .int (nI (34 + (7 * a)))), (0, .ref (ad 7 0)), (1, .int (nI a))]) hx hb dX5_removes_17 rfl hl (by decide) rfl (fun ls hl => ?_)
  have lp18 : ∀ (d k : Nat) (Vx : g_V), 34 + 7 * a ≤ k ∧ k ≤ 34 + 7 * (n - 1) → 34 + 7 * (n - 1) < k + d → Vx = m_shiftN (g_w2 V 1 0 (nI (n - 1))) (34 + 7 * a) (k - (34 + 7 * a)) → (Vx 1 0 = nI (n - 1)) → ∀ (H : Heap) (locs : List Loc) (ls : Array Slot), g_I D tb ad (g_A ad) s H locs P (va_up M 7 Vx) → lv_has ls 3 [(2, .int (nI k)), (0, .ref (ad 7 0)), (1, .int (nI a))] → W p l e rm_X5_removes s m args below meth c H locs 0 0 Q (F0 m 18 ls []) := by
    intro d
    induction d with
    | zero => intro k Vx hkp hfu; intros; omega
    | succ d ih18 =>
      intro k Vx hkp hfu e_Vx h0 H locs ls hI hl
      refine lv_iload_n hx hb dX5_removes_18 rfl (lv_at hl 0 rfl) ?_
      refine lv_bipush (v := 34) hx hb dX5_removes_19 (by decide) ?_
      refine lv_bipush (v := 7) hx hb dX5_removes_21 (by decide) ?_
      refine lv_aload_n hx hb dX5_removes_23 rfl (lv_at hl 1 rfl) ?_
      refine g_get 0 hx hb hts hown hC hI i_X5 (by decide) (e_x g_us) rfl (by decide) qf_X5_7 rfl rfl dX5_removes_24 ?_
      refine lv_iconst (v := 0) hx hb dX5_removes_27 (by decide) ?_
      refine g_iald 0 hx hb hC hI (by decide) (e_xs g_us) (by unfold vp_in; decide) rfl dX5_removes_28 ?_
      refine g_te (y := (nI (n - 1))) h0 ?_
      refine lv_imul hx hb dX5_removes_29 ?_
      refine g_te (pk_mul 7 (n - 1)) ?_
      refine lv_iadd hx hb dX5_removes_30 ?_
      refine g_te (nI_add 34 (7 * (n - 1))) ?_
      refine lv_icmp_ge (tgt := 55) hx hb dX5_removes_31 (by decide) (fun c1 => ?_) (fun c1 => ?_)
      · have c1n : (34 + (7 * (n - 1))) ≤ k := (nI_leI (a := (34 + (7 * (n - 1)))) (b := k) (by omega) (by omega)).mp c1
        refine lv_iconst (v := 0) hx hb dX5_removes_55 (by decide) ?_
        refine lv_istore_n (lv' := [(2, .int 0), (0, .ref (ad 7 0)), (1, .int (nI a))]) hx hb dX5_removes_56 rfl hl (by decide) rfl (fun ls hl => ?_)
        have lp57 : ∀ (d k2 : Nat) (Wx : g_V), k2 ≤ 7 → 7 < k2 + d → Wx = m_zeroN Vx (34 + 7 * (n - 1)) k2 → (Wx 1 0 = nI (n - 1)) → ∀ (H : Heap) (locs : List Loc) (ls : Array Slot), g_I D tb ad (g_A ad) s H locs P (va_up M 7 Wx) → lv_has ls 3 [(2, .int (nI k2)), (0, .ref (ad 7 0)), (1, .int (nI a))] → W p l e rm_X5_removes s m args below meth c H locs 0 0 Q (F0 m 57 ls []) := by
          intro d
          induction d with
          | zero => intro k2 Wx hkp hfu; intros; omega
          | succ d ih57 =>
            intro k2 Wx hkp hfu e_Wx h0 H locs ls hI hl
            refine lv_iload_n hx hb dX5_removes_57 rfl (lv_at hl 0 rfl) ?_
            refine lv_bipush (v := 7) hx hb dX5_removes_58 (by decide) ?_
            refine lv_icmp_ge (tgt := 89) hx hb dX5_removes_60 (by decide) (fun c2 => ?_) (fun c2 => ?_)
            · have c2n : 7 ≤ k2 := (nI_leI (a := 7) (b := k2) (by omega) (by omega)).mp c2
              exact g_vr hQ hx hb hr0 hlk hC hI dX5_removes_89 rfl (by rw [e_Wx, show k2 = 7 from (by omega), e_Vx, show k = 34 + 7 * (n - 1) from (by omega)]; rfl)
            · have c2n : ¬ 7 ≤ k2 := fun z => c2 ((nI_leI (a := 7) (b := k2) (by omega) (by omega)).mpr z)
              refine lv_aload_n hx hb dX5_removes_63 rfl (lv_at hl 1 rfl) ?_
              refine g_get 0 hx hb hts hown hC hI i_X5 (by decide) (e_x g_us) rfl (by decide) qf_X5_7 rfl rfl dX5_removes_64 ?_
              refine lv_bipush (v := 34) hx hb dX5_removes_67 (by decide) ?_
              refine lv_bipush (v := 7) hx hb dX5_removes_69 (by decide) ?_
              refine lv_aload_n hx hb dX5_removes_71 rfl (lv_at hl 1 rfl) ?_
              refine g_get 0 hx hb hts hown hC hI i_X5 (by decide) (e_x g_us) rfl (by decide) qf_X5_7 rfl rfl dX5_removes_72 ?_
              refine lv_iconst (v := 0) hx hb dX5_removes_75 (by decide) ?_
              refine g_iald 0 hx hb hC hI (by decide) (e_xs g_us) (by unfold vp_in; decide) rfl dX5_removes_76 ?_
              refine g_te (y := (nI (n - 1))) h0 ?_
              refine lv_imul hx hb dX5_removes_77 ?_
              refine g_te (pk_mul 7 (n - 1)) ?_
              refine lv_iadd hx hb dX5_removes_78 ?_
              refine g_te (nI_add 34 (7 * (n - 1))) ?_
              refine lv_iload_n hx hb dX5_removes_79 rfl (lv_at hl 0 rfl) ?_
              refine lv_iadd hx hb dX5_removes_80 ?_
              refine g_te (nI_add (34 + (7 * (n - 1))) k2) ?_
              refine lv_iconst (v := 0) hx hb dX5_removes_81 (by decide) ?_
              refine g_iast ((34 + (7 * (n - 1))) + k2) hx hb hC hI (by decide) (e_xs g_us) (vp_in_nI (by omega) (by decide)) (nI_clamp (by omega)) p_xs g_hs dX5_removes_82 (fun H locs hI => ?_)
              refine lv_iinc (v := nI (k2 + 1)) (lv' := [(2, .int (nI (k2 + 1))), (0, .ref (ad 7 0)), (1, .int (nI a))]) hx hb dX5_removes_83 hl (k := 0) rfl (nI_1 _) (by decide) rfl (fun ls hl => ?_)
              refine lv_goto (tgt := 57) hx hb dX5_removes_86 (by decide) ?_
              exact ih57 (k2 + 1) _ (by omega) (by omega) (by unfold m_zeroN; rw [k_iter]; unfold m_zeroN at e_Wx; rw [← e_Wx]) (by rw [w2_ne (by omega)]; exact h0) _ _ _ hI (lv_sub hl [0, 1, 2] rfl)
        exact lp57 (7 + 1) 0 _ (by omega) (by omega) rfl h0 _ _ _ hI (lv_sub hl [0, 1, 2] rfl)
      · have c1n : ¬ (34 + (7 * (n - 1))) ≤ k := fun z => c1 ((nI_leI (a := (34 + (7 * (n - 1)))) (b := k) (by omega) (by omega)).mpr z)
        refine lv_aload_n hx hb dX5_removes_34 rfl (lv_at hl 1 rfl) ?_
        refine g_get 0 hx hb hts hown hC hI i_X5 (by decide) (e_x g_us) rfl (by decide) qf_X5_7 rfl rfl dX5_removes_35 ?_
        refine lv_iload_n hx hb dX5_removes_38 rfl (lv_at hl 0 rfl) ?_
        refine lv_aload_n hx hb dX5_removes_39 rfl (lv_at hl 1 rfl) ?_
        refine g_get 0 hx hb hts hown hC hI i_X5 (by decide) (e_x g_us) rfl (by decide) qf_X5_7 rfl rfl dX5_removes_40 ?_
        refine lv_iload_n hx hb dX5_removes_43 rfl (lv_at hl 0 rfl) ?_
        refine lv_bipush (v := 7) hx hb dX5_removes_44 (by decide) ?_
        refine lv_iadd hx hb dX5_removes_46 ?_
        refine g_te (nI_add k 7) ?_
        refine g_iald (k + 7) hx hb hC hI (by decide) (e_xs g_us) (vp_in_nI (by omega) (by decide)) (nI_clamp (by omega)) dX5_removes_47 ?_
        refine g_iast k hx hb hC hI (by decide) (e_xs g_us) (vp_in_nI (by omega) (by decide)) (nI_clamp (by omega)) p_xs g_hs dX5_removes_48 (fun H locs hI => ?_)
        refine lv_iinc (v := nI (k + 1)) (lv' := [(2, .int (nI (k + 1))), (0, .ref (ad 7 0)), (1, .int (nI a))]) hx hb dX5_removes_49 hl (k := 0) rfl (nI_1 _) (by decide) rfl (fun ls hl => ?_)
        refine lv_goto (tgt := 18) hx hb dX5_removes_52 (by decide) ?_
        exact ih18 (k + 1) _ (by omega) (by omega) (by unfold m_shiftN; rw [show k + 1 - (34 + 7 * a) = (k - (34 + 7 * a)) + 1 from by omega, k_iter, show 34 + 7 * a + (k - (34 + 7 * a)) = k from by omega]; unfold m_shiftN at e_Vx; rw [← e_Vx]) (by rw [w2_ne (by omega)]; exact h0) _ _ _ hI (lv_sub hl [0, 1, 2] rfl)
  exact lp18 (34 + 7 * (n - 1) + 1) (34 + 7 * a) _ (by omega) (by omega) (by rw [Nat.sub_self]; rfl) w2_at _ _ _ hI (lv_sub hl [0, 1, 2] rfl)
