abbrev rm_X4_store : Room := { frames := 3, cells := 0, slots := 0, locals := 74 }
set_option maxHeartbeats 800000 in
set_option maxRecDepth 100000 in
theorem c_X4_store (l : Launch) (D : va_G) (tb : g_T) (ad : g_Ad) (hj : g_inj ad) (P : g_P) (M : g_M) (o : Int32) (g : Int32) (a : Int32) (hP : ∀ i, P i < 6) (hP01 : P 0 ≠ P 1) (V : g_V) (hV : M (P 0) = V) (S : g_V) (hS : M (P 1) = S) (G : g_V) (hG : M 6 = G) : g_Ci l yX4_store cX4_store 4 (some .int) rm_X4_store D tb ad [.ref (ad 6 0), .int o, .int g, .int a] P (M) ((q_store V o g a).1) (q_recdP (q_store V o g a).1 P) (va_up (va_up (va_up M (P 1) (q_copy S V)) (P 0) ((q_store V o g a).2)) 6 (q_recdG (q_store V o g a).1 G)) := by
  refine g_go (by decide) (Nat.le_of_ble_eq_true rfl) hj ?_
  intro p e s m below meth c ls H locs R args Q hR0 hQ hx hb hml hr0 hlk hown hts hC hI hl
  subst hR0
  have hown : s.vm.findClass RX4 = some m.cls := hown
  have hl : lv_has ls 4 [(0, .ref (ad 6 0)), (1, .int o), (2, .int g), (3, .int a)] := hl
  refine lv_aload_n hx hb dX4_store_0 rfl (lv_at hl 0 rfl) ?_
  refine g_get 4 hx hb hts hown hC hI i_X4 (by decide) (e_gr hG) rfl (by decide) qf_X4_27 rfl rfl dX4_store_1 ?_
  refine lv_aload_n hx hb dX4_store_4 rfl (lv_at hl 0 rfl) ?_
  refine g_get 3 hx hb hts hown hC hI i_X4 (by decide) (e_gr hG) rfl (by decide) qf_X4_23 rfl rfl dX4_store_5 ?_
  refine g_callVv (rest := []) (c_X3_copyFrom l D tb ad hj P M (P 1) (hP 1) S (P 0) (hP 0) V hP01 hV) rfl (k_eta hS) gm_X3_copyFrom hx hb hml hown hts hC hI (ok_c 0 (hP 1) (by decide)) (e_st (hP 1) hS) rfl rfl qm_X4_30 rfl hl.1 rfl ⟨rfl, rfl, by decide, by decide⟩ (Nat.le_of_ble_eq_true rfl) ⟨Nat.zero_le _, Nat.zero_le _⟩ dX4_store_8 (fun H locs hI => ?_)
  refine lv_aload_n hx hb dX4_store_11 rfl (lv_at hl 0 rfl) ?_
  refine lv_aload_n hx hb dX4_store_12 rfl (lv_at hl 0 rfl) ?_
  refine g_get 3 hx hb hts hown hC hI i_X4 (by decide) (e_gr ((va_up_ne _ _ (k_ne6 (hP 1))).trans (hG))) rfl (by decide) qf_X4_23 rfl rfl dX4_store_13 ?_
  refine lv_iload_n hx hb dX4_store_16 rfl (lv_at hl 1 rfl) ?_
  refine lv_iload_n hx hb dX4_store_17 rfl (lv_at hl 2 rfl) ?_
  refine lv_iload_n hx hb dX4_store_18 rfl (lv_at hl 3 rfl) ?_
  refine g_callVi (rest := [.ref (ad 6 0)]) (c_X3_storeGrain l D tb ad hj P (va_up M (P 1) (q_copy S V)) (P 0) (hP 0) V o g a) rfl (k_eta ((va_up_ne _ _ hP01).trans (hV))) gm_X3_storeGrain hx hb hml hown hts hC hI (ok_c 0 (hP 0) (by decide)) (e_st (hP 0) ((va_up_ne _ _ hP01).trans (hV))) rfl rfl qm_X4_34 rfl hl.1 rfl ⟨rfl, rfl, by decide, by decide⟩ (Nat.le_of_ble_eq_true rfl) ⟨Nat.zero_le _, Nat.zero_le _⟩ dX4_store_19 (fun H locs hI => ?_)
  refine g_callVi (rest := []) (c_X4_recorded l D tb ad hj P (va_up (va_up M (P 1) (q_copy S V)) (P 0) ((q_store V o g a).2)) ((q_store V o g a).1) (by first | assumption | omega) G ((va_up_ne _ _ (k_ne6 (hP 0))).trans ((va_up_ne _ _ (k_ne6 (hP 1))).trans (hG)))) rfl rfl gm_X4_recorded hx hb hml hown hts hC hI (by decide) (e_gr ((va_up_ne _ _ (k_ne6 (hP 0))).trans ((va_up_ne _ _ (k_ne6 (hP 1))).trans (hG)))) rfl rfl qm_X4_38 rfl hl.1 rfl ⟨rfl, rfl, by decide, by decide⟩ (Nat.le_of_ble_eq_true rfl) ⟨Nat.zero_le _, Nat.zero_le _⟩ dX4_store_22 (fun H locs hI => ?_)
  have hPq22 := @q_recdP_lt ((q_store V o g a).1) P hP
  exact g_ir hQ hx hb hr0 hlk hC hI dX4_store_25 rfl (by rfl) (by rfl) (by rfl)
abbrev rm_X4_split : Room := { frames := 3, cells := 0, slots := 0, locals := 69 }
set_option maxHeartbeats 800000 in
set_option maxRecDepth 100000 in
theorem c_X4_split (l : Launch) (D : va_G) (tb : g_T) (ad : g_Ad) (hj : g_inj ad) (P : g_P) (M : g_M) (n : Int32) (a : Int32) (hP : ∀ i, P i < 6) (hP01 : P 0 ≠ P 1) (V : g_V) (hV : M (P 0) = V) (S : g_V) (hS : M (P 1) = S) (G : g_V) (hG : M 6 = G) : g_Ci l yX4_split cX4_split 3 (some .int) rm_X4_split D tb ad [.ref (ad 6 0), .int n, .int a] P (M) ((q_split V n a).1) (q_recdP (q_split V n a).1 P) (va_up (va_up (va_up M (P 1) (q_copy S V)) (P 0) ((q_split V n a).2)) 6 (q_recdG (q_split V n a).1 G)) := by
  refine g_go (by decide) (Nat.le_of_ble_eq_true rfl) hj ?_
  intro p e s m below meth c ls H locs R args Q hR0 hQ hx hb hml hr0 hlk hown hts hC hI hl
  subst hR0
  have hown : s.vm.findClass RX4 = some m.cls := hown
  have hl : lv_has ls 3 [(0, .ref (ad 6 0)), (1, .int n), (2, .int a)] := hl
  refine lv_aload_n hx hb dX4_split_0 rfl (lv_at hl 0 rfl) ?_
  refine g_get 4 hx hb hts hown hC hI i_X4 (by decide) (e_gr hG) rfl (by decide) qf_X4_27 rfl rfl dX4_split_1 ?_
  refine lv_aload_n hx hb dX4_split_4 rfl (lv_at hl 0 rfl) ?_
  refine g_get 3 hx hb hts hown hC hI i_X4 (by decide) (e_gr hG) rfl (by decide) qf_X4_23 rfl rfl dX4_split_5 ?_
  refine g_callVv (rest := []) (c_X3_copyFrom l D tb ad hj P M (P 1) (hP 1) S (P 0) (hP 0) V hP01 hV) rfl (k_eta hS) gm_X3_copyFrom hx hb hml hown hts hC hI (ok_c 0 (hP 1) (by decide)) (e_st (hP 1) hS) rfl rfl qm_X4_30 rfl hl.1 rfl ⟨rfl, rfl, by decide, by decide⟩ (Nat.le_of_ble_eq_true rfl) ⟨Nat.zero_le _, Nat.zero_le _⟩ dX4_split_8 (fun H locs hI => ?_)
  refine lv_aload_n hx hb dX4_split_11 rfl (lv_at hl 0 rfl) ?_
  refine lv_aload_n hx hb dX4_split_12 rfl (lv_at hl 0 rfl) ?_
  refine g_get 3 hx hb hts hown hC hI i_X4 (by decide) (e_gr ((va_up_ne _ _ (k_ne6 (hP 1))).trans (hG))) rfl (by decide) qf_X4_23 rfl rfl dX4_split_13 ?_
  refine lv_iload_n hx hb dX4_split_16 rfl (lv_at hl 1 rfl) ?_
  refine lv_iload_n hx hb dX4_split_17 rfl (lv_at hl 2 rfl) ?_
  refine g_callVi (rest := [.ref (ad 6 0)]) (c_X3_splitOff l D tb ad hj P (va_up M (P 1) (q_copy S V)) (P 0) (hP 0) V n a) rfl (k_eta ((va_up_ne _ _ hP01).trans (hV))) gm_X3_splitOff hx hb hml hown hts hC hI (ok_c 0 (hP 0) (by decide)) (e_st (hP 0) ((va_up_ne _ _ hP01).trans (hV))) rfl rfl qm_X4_42 rfl hl.1 rfl ⟨rfl, rfl, by decide, by decide⟩ (Nat.le_of_ble_eq_true rfl) ⟨Nat.zero_le _, Nat.zero_le _⟩ dX4_split_18 (fun H locs hI => ?_)
  refine g_callVi (rest := []) (c_X4_recorded l D tb ad hj P (va_up (va_up M (P 1) (q_copy S V)) (P 0) ((q_split V n a).2)) ((q_split V n a).1) (by first | assumption | omega) G ((va_up_ne _ _ (k_ne6 (hP 0))).trans ((va_up_ne _ _ (k_ne6 (hP 1))).trans (hG)))) rfl rfl gm_X4_recorded hx hb hml hown hts hC hI (by decide) (e_gr ((va_up_ne _ _ (k_ne6 (hP 0))).trans ((va_up_ne _ _ (k_ne6 (hP 1))).trans (hG)))) rfl rfl qm_X4_38 rfl hl.1 rfl ⟨rfl, rfl, by decide, by decide⟩ (Nat.le_of_ble_eq_true rfl) ⟨Nat.zero_le _, Nat.zero_le _⟩ dX4_split_21 (fun H locs hI => ?_)
  have hPq21 := @q_recdP_lt ((q_split V n a).1) P hP
  exact g_ir hQ hx hb hr0 hlk hC hI dX4_split_24 rfl (by rfl) (by rfl) (by rfl)
abbrev rm_X4_join : Room := { frames := 3, cells := 0, slots := 0, locals := 69 }
set_option maxHeartbeats 800000 in
set_option maxRecDepth 100000 in
theorem c_X4_join (l : Launch) (D : va_G) (tb : g_T) (ad : g_Ad) (hj : g_inj ad) (P : g_P) (M : g_M) (n : Int32) (o : Int32) (hP : ∀ i, P i < 6) (hP01 : P 0 ≠ P 1) (V : g_V) (hV : M (P 0) = V) (S : g_V) (hS : M (P 1) = S) (G : g_V) (hG : M 6 = G) : g_Ci l yX4_join cX4_join 3 (some .int) rm_X4_join D tb ad [.ref (ad 6 0), .int n, .int o] P (M) ((q_join V n o).1) (q_recdP (q_join V n o).1 P) (va_up (va_up (va_up M (P 1) (q_copy S V)) (P 0) ((q_join V n o).2)) 6 (q_recdG (q_join V n o).1 G)) := by
  refine g_go (by decide) (Nat.le_of_ble_eq_true rfl) hj ?_
  intro p e s m below meth c ls H locs R args Q hR0 hQ hx hb hml hr0 hlk hown hts hC hI hl
  subst hR0
  have hown : s.vm.findClass RX4 = some m.cls := hown
  have hl : lv_has ls 3 [(0, .ref (ad 6 0)), (1, .int n), (2, .int o)] := hl
  refine lv_aload_n hx hb dX4_join_0 rfl (lv_at hl 0 rfl) ?_
  refine g_get 4 hx hb hts hown hC hI i_X4 (by decide) (e_gr hG) rfl (by decide) qf_X4_27 rfl rfl dX4_join_1 ?_
  refine lv_aload_n hx hb dX4_join_4 rfl (lv_at hl 0 rfl) ?_
  refine g_get 3 hx hb hts hown hC hI i_X4 (by decide) (e_gr hG) rfl (by decide) qf_X4_23 rfl rfl dX4_join_5 ?_
  refine g_callVv (rest := []) (c_X3_copyFrom l D tb ad hj P M (P 1) (hP 1) S (P 0) (hP 0) V hP01 hV) rfl (k_eta hS) gm_X3_copyFrom hx hb hml hown hts hC hI (ok_c 0 (hP 1) (by decide)) (e_st (hP 1) hS) rfl rfl qm_X4_30 rfl hl.1 rfl ⟨rfl, rfl, by decide, by decide⟩ (Nat.le_of_ble_eq_true rfl) ⟨Nat.zero_le _, Nat.zero_le _⟩ dX4_join_8 (fun H locs hI => ?_)
  refine lv_aload_n hx hb dX4_join_11 rfl (lv_at hl 0 rfl) ?_
  refine lv_aload_n hx hb dX4_join_12 rfl (lv_at hl 0 rfl) ?_
  refine g_get 3 hx hb hts hown hC hI i_X4 (by decide) (e_gr ((va_up_ne _ _ (k_ne6 (hP 1))).trans (hG))) rfl (by decide) qf_X4_23 rfl rfl dX4_join_13 ?_
  refine lv_iload_n hx hb dX4_join_16 rfl (lv_at hl 1 rfl) ?_
  refine lv_iload_n hx hb dX4_join_17 rfl (lv_at hl 2 rfl) ?_
  refine g_callVi (rest := [.ref (ad 6 0)]) (c_X3_joinInto l D tb ad hj P (va_up M (P 1) (q_copy S V)) (P 0) (hP 0) V n o) rfl (k_eta ((va_up_ne _ _ hP01).trans (hV))) gm_X3_joinInto hx hb hml hown hts hC hI (ok_c 0 (hP 0) (by decide)) (e_st (hP 0) ((va_up_ne _ _ hP01).trans (hV))) rfl rfl qm_X4_46 rfl hl.1 rfl ⟨rfl, rfl, by decide, by decide⟩ (Nat.le_of_ble_eq_true rfl) ⟨Nat.zero_le _, Nat.zero_le _⟩ dX4_join_18 (fun H locs hI => ?_)
  refine g_callVi (rest := []) (c_X4_recorded l D tb ad hj P (va_up (va_up M (P 1) (q_copy S V)) (P 0) ((q_join V n o).2)) ((q_join V n o).1) (by first | assumption | omega) G ((va_up_ne _ _ (k_ne6 (hP 0))).trans ((va_up_ne _ _ (k_ne6 (hP 1))).trans (hG)))) rfl rfl gm_X4_recorded hx hb hml hown hts hC hI (by decide) (e_gr ((va_up_ne _ _ (k_ne6 (hP 0))).trans ((va_up_ne _ _ (k_ne6 (hP 1))).trans (hG)))) rfl rfl qm_X4_38 rfl hl.1 rfl ⟨rfl, rfl, by decide, by decide⟩ (Nat.le_of_ble_eq_true rfl) ⟨Nat.zero_le _, Nat.zero_le _⟩ dX4_join_21 (fun H locs hI => ?_)
  have hPq21 := @q_recdP_lt ((q_join V n o).1) P hP
  exact g_ir hQ hx hb hr0 hlk hC hI dX4_join_24 rfl (by rfl) (by rfl) (by rfl)
abbrev rm_X4_hand : Room := { frames := 3, cells := 0, slots := 0, locals := 69 }
set_option maxHeartbeats 800000 in
set_option maxRecDepth 100000 in
theorem c_X4_hand (l : Launch) (D : va_G) (tb : g_T) (ad : g_Ad) (hj : g_inj ad) (P : g_P) (M : g_M) (n : Int32) (o : Int32) (hP : ∀ i, P i < 6) (hP01 : P 0 ≠ P 1) (V : g_V) (hV : M (P 0) = V) (S : g_V) (hS : M (P 1) = S) (G : g_V) (hG : M 6 = G) : g_Ci l yX4_hand cX4_hand 3 (some .int) rm_X4_hand D tb ad [.ref (ad 6 0), .int n, .int o] P (M) ((q_hand V n o).1) (q_recdP (q_hand V n o).1 P) (va_up (va_up (va_up M (P 1) (q_copy S V)) (P 0) ((q_hand V n o).2)) 6 (q_recdG (q_hand V n o).1 G)) := by
  refine g_go (by decide) (Nat.le_of_ble_eq_true rfl) hj ?_
  intro p e s m below meth c ls H locs R args Q hR0 hQ hx hb hml hr0 hlk hown hts hC hI hl
  subst hR0
  have hown : s.vm.findClass RX4 = some m.cls := hown
  have hl : lv_has ls 3 [(0, .ref (ad 6 0)), (1, .int n), (2, .int o)] := hl
  refine lv_aload_n hx hb dX4_hand_0 rfl (lv_at hl 0 rfl) ?_
  refine g_get 4 hx hb hts hown hC hI i_X4 (by decide) (e_gr hG) rfl (by decide) qf_X4_27 rfl rfl dX4_hand_1 ?_
  refine lv_aload_n hx hb dX4_hand_4 rfl (lv_at hl 0 rfl) ?_
  refine g_get 3 hx hb hts hown hC hI i_X4 (by decide) (e_gr hG) rfl (by decide) qf_X4_23 rfl rfl dX4_hand_5 ?_
  refine g_callVv (rest := []) (c_X3_copyFrom l D tb ad hj P M (P 1) (hP 1) S (P 0) (hP 0) V hP01 hV) rfl (k_eta hS) gm_X3_copyFrom hx hb hml hown hts hC hI (ok_c 0 (hP 1) (by decide)) (e_st (hP 1) hS) rfl rfl qm_X4_30 rfl hl.1 rfl ⟨rfl, rfl, by decide, by decide⟩ (Nat.le_of_ble_eq_true rfl) ⟨Nat.zero_le _, Nat.zero_le _⟩ dX4_hand_8 (fun H locs hI => ?_)
  refine lv_aload_n hx hb dX4_hand_11 rfl (lv_at hl 0 rfl) ?_
  refine lv_aload_n hx hb dX4_hand_12 rfl (lv_at hl 0 rfl) ?_
  refine g_get 3 hx hb hts hown hC hI i_X4 (by decide) (e_gr ((va_up_ne _ _ (k_ne6 (hP 1))).trans (hG))) rfl (by decide) qf_X4_23 rfl rfl dX4_hand_13 ?_
  refine lv_iload_n hx hb dX4_hand_16 rfl (lv_at hl 1 rfl) ?_
  refine lv_iload_n hx hb dX4_hand_17 rfl (lv_at hl 2 rfl) ?_
  refine g_callVi (rest := [.ref (ad 6 0)]) (c_X3_handOn l D tb ad hj P (va_up M (P 1) (q_copy S V)) (P 0) (hP 0) V n o) rfl (k_eta ((va_up_ne _ _ hP01).trans (hV))) gm_X3_handOn hx hb hml hown hts hC hI (ok_c 0 (hP 0) (by decide)) (e_st (hP 0) ((va_up_ne _ _ hP01).trans (hV))) rfl rfl qm_X4_49 rfl hl.1 rfl ⟨rfl, rfl, by decide, by decide⟩ (Nat.le_of_ble_eq_true rfl) ⟨Nat.zero_le _, Nat.zero_le _⟩ dX4_hand_18 (fun H locs hI => ?_)
  refine g_callVi (rest := []) (c_X4_recorded l D tb ad hj P (va_up (va_up M (P 1) (q_copy S V)) (P 0) ((q_hand V n o).2)) ((q_hand V n o).1) (by first | assumption | omega) G ((va_up_ne _ _ (k_ne6 (hP 0))).trans ((va_up_ne _ _ (k_ne6 (hP 1))).trans (hG)))) rfl rfl gm_X4_recorded hx hb hml hown hts hC hI (by decide) (e_gr ((va_up_ne _ _ (k_ne6 (hP 0))).trans ((va_up_ne _ _ (k_ne6 (hP 1))).trans (hG)))) rfl rfl qm_X4_38 rfl hl.1 rfl ⟨rfl, rfl, by decide, by decide⟩ (Nat.le_of_ble_eq_true rfl) ⟨Nat.zero_le _, Nat.zero_le _⟩ dX4_hand_21 (fun H locs hI => ?_)
  have hPq21 := @q_recdP_lt ((q_hand V n o).1) P hP
  exact g_ir hQ hx hb hr0 hlk hC hI dX4_hand_24 rfl (by rfl) (by rfl) (by rfl)
abbrev rm_X4_deliver : Room := { frames := 3, cells := 0, slots := 0, locals := 74 }
set_option maxHeartbeats 800000 in
set_option maxRecDepth 100000 in
theorem c_X4_deliver (l : Launch) (D : va_G) (tb : g_T) (ad : g_Ad) (hj : g_inj ad) (P : g_P) (M : g_M) (n : Int32) (hP : ∀ i, P i < 6) (hP01 : P 0 ≠ P 1) (V : g_V) (hV : M (P 0) = V) (S : g_V) (hS : M (P 1) = S) (G : g_V) (hG : M 6 = G) (hRg : q_okR V) : g_Ci l yX4_deliver cX4_deliver 2 (some .int) rm_X4_deliver D tb ad [.ref (ad 6 0), .int n] P (M) ((q_deliver V n).1) (q_recdP (q_deliver V n).1 P) (va_up (va_up (va_up M (P 1) (q_copy S V)) (P 0) ((q_deliver V n).2)) 6 (q_recdG (q_deliver V n).1 G)) := by
  refine g_go (by decide) (Nat.le_of_ble_eq_true rfl) hj ?_
  intro p e s m below meth c ls H locs R args Q hR0 hQ hx hb hml hr0 hlk hown hts hC hI hl
  subst hR0
  have hown : s.vm.findClass RX4 = some m.cls := hown
  have hl : lv_has ls 2 [(0, .ref (ad 6 0)), (1, .int n)] := hl
  refine lv_aload_n hx hb dX4_deliver_0 rfl (lv_at hl 0 rfl) ?_
  refine g_get 4 hx hb hts hown hC hI i_X4 (by decide) (e_gr hG) rfl (by decide) qf_X4_27 rfl rfl dX4_deliver_1 ?_
  refine lv_aload_n hx hb dX4_deliver_4 rfl (lv_at hl 0 rfl) ?_
  refine g_get 3 hx hb hts hown hC hI i_X4 (by decide) (e_gr hG) rfl (by decide) qf_X4_23 rfl rfl dX4_deliver_5 ?_
  refine g_callVv (rest := []) (c_X3_copyFrom l D tb ad hj P M (P 1) (hP 1) S (P 0) (hP 0) V hP01 hV) rfl (k_eta hS) gm_X3_copyFrom hx hb hml hown hts hC hI (ok_c 0 (hP 1) (by decide)) (e_st (hP 1) hS) rfl rfl qm_X4_30 rfl hl.1 rfl ⟨rfl, rfl, by decide, by decide⟩ (Nat.le_of_ble_eq_true rfl) ⟨Nat.zero_le _, Nat.zero_le _⟩ dX4_deliver_8 (fun H locs hI => ?_)
  refine lv_aload_n hx hb dX4_deliver_11 rfl (lv_at hl 0 rfl) ?_
  refine lv_aload_n hx hb dX4_deliver_12 rfl (lv_at hl 0 rfl) ?_
  refine g_get 3 hx hb hts hown hC hI i_X4 (by decide) (e_gr ((va_up_ne _ _ (k_ne6 (hP 1))).trans (hG))) rfl (by decide) qf_X4_23 rfl rfl dX4_deliver_13 ?_
  refine lv_iload_n hx hb dX4_deliver_16 rfl (lv_at hl 1 rfl) ?_
  refine g_callVi (rest := [.ref (ad 6 0)]) (c_X3_deliverGrain l D tb ad hj P (va_up M (P 1) (q_copy S V)) (P 0) (hP 0) V n hRg) rfl (k_eta ((va_up_ne _ _ hP01).trans (hV))) gm_X3_deliverGrain hx hb hml hown hts hC hI (ok_c 0 (hP 0) (by decide)) (e_st (hP 0) ((va_up_ne _ _ hP01).trans (hV))) rfl rfl qm_X4_52 rfl hl.1 rfl ⟨rfl, rfl, by decide, by decide⟩ (Nat.le_of_ble_eq_true rfl) ⟨Nat.zero_le _, Nat.zero_le _⟩ dX4_deliver_17 (fun H locs hI => ?_)
  refine g_callVi (rest := []) (c_X4_recorded l D tb ad hj P (va_up (va_up M (P 1) (q_copy S V)) (P 0) ((q_deliver V n).2)) ((q_deliver V n).1) (by first | assumption | omega) G ((va_up_ne _ _ (k_ne6 (hP 0))).trans ((va_up_ne _ _ (k_ne6 (hP 1))).trans (hG)))) rfl rfl gm_X4_recorded hx hb hml hown hts hC hI (by decide) (e_gr ((va_up_ne _ _ (k_ne6 (hP 0))).trans ((va_up_ne _ _ (k_ne6 (hP 1))).trans (hG)))) rfl rfl qm_X4_38 rfl hl.1 rfl ⟨rfl, rfl, by decide, by decide⟩ (Nat.le_of_ble_eq_true rfl) ⟨Nat.zero_le _, Nat.zero_le _⟩ dX4_deliver_20 (fun H locs hI => ?_)
  have hPq20 := @q_recdP_lt ((q_deliver V n).1) P hP
  exact g_ir hQ hx hb hr0 hlk hC hI dX4_deliver_23 rfl (by rfl) (by rfl) (by rfl)
abbrev rm_X4_pledge : Room := { frames := 3, cells := 0, slots := 0, locals := 69 }
set_option maxHeartbeats 800000 in
set_option maxRecDepth 100000 in
theorem c_X4_pledge (l : Launch) (D : va_G) (tb : g_T) (ad : g_Ad) (hj : g_inj ad) (P : g_P) (M : g_M) (n : Int32) (le : Int32) (lo : Int32) (hP : ∀ i, P i < 6) (hP01 : P 0 ≠ P 1) (V : g_V) (hV : M (P 0) = V) (S : g_V) (hS : M (P 1) = S) (G : g_V) (hG : M 6 = G) : g_Ci l yX4_pledge cX4_pledge 4 (some .int) rm_X4_pledge D tb ad [.ref (ad 6 0), .int n, .int le, .int lo] P (M) ((q_pledge V n le lo).1) (q_recdP (q_pledge V n le lo).1 P) (va_up (va_up (va_up M (P 1) (q_copy S V)) (P 0) ((q_pledge V n le lo).2)) 6 (q_recdG (q_pledge V n le lo).1 G)) := by
  refine g_go (by decide) (Nat.le_of_ble_eq_true rfl) hj ?_
  intro p e s m below meth c ls H locs R args Q hR0 hQ hx hb hml hr0 hlk hown hts hC hI hl
  subst hR0
  have hown : s.vm.findClass RX4 = some m.cls := hown
  have hl : lv_has ls 4 [(0, .ref (ad 6 0)), (1, .int n), (2, .int le), (3, .int lo)] := hl
  refine lv_aload_n hx hb dX4_pledge_0 rfl (lv_at hl 0 rfl) ?_
  refine g_get 4 hx hb hts hown hC hI i_X4 (by decide) (e_gr hG) rfl (by decide) qf_X4_27 rfl rfl dX4_pledge_1 ?_
  refine lv_aload_n hx hb dX4_pledge_4 rfl (lv_at hl 0 rfl) ?_
  refine g_get 3 hx hb hts hown hC hI i_X4 (by decide) (e_gr hG) rfl (by decide) qf_X4_23 rfl rfl dX4_pledge_5 ?_
  refine g_callVv (rest := []) (c_X3_copyFrom l D tb ad hj P M (P 1) (hP 1) S (P 0) (hP 0) V hP01 hV) rfl (k_eta hS) gm_X3_copyFrom hx hb hml hown hts hC hI (ok_c 0 (hP 1) (by decide)) (e_st (hP 1) hS) rfl rfl qm_X4_30 rfl hl.1 rfl ⟨rfl, rfl, by decide, by decide⟩ (Nat.le_of_ble_eq_true rfl) ⟨Nat.zero_le _, Nat.zero_le _⟩ dX4_pledge_8 (fun H locs hI => ?_)
  refine lv_aload_n hx hb dX4_pledge_11 rfl (lv_at hl 0 rfl) ?_
  refine lv_aload_n hx hb dX4_pledge_12 rfl (lv_at hl 0 rfl) ?_
  refine g_get 3 hx hb hts hown hC hI i_X4 (by decide) (e_gr ((va_up_ne _ _ (k_ne6 (hP 1))).trans (hG))) rfl (by decide) qf_X4_23 rfl rfl dX4_pledge_13 ?_
  refine lv_iload_n hx hb dX4_pledge_16 rfl (lv_at hl 1 rfl) ?_
  refine lv_iload_n hx hb dX4_pledge_17 rfl (lv_at hl 2 rfl) ?_
  refine lv_iload_n hx hb dX4_pledge_18 rfl (lv_at hl 3 rfl) ?_
  refine g_callVi (rest := [.ref (ad 6 0)]) (c_X3_pledgeTo l D tb ad hj P (va_up M (P 1) (q_copy S V)) (P 0) (hP 0) V n le lo) rfl (k_eta ((va_up_ne _ _ hP01).trans (hV))) gm_X3_pledgeTo hx hb hml hown hts hC hI (ok_c 0 (hP 0) (by decide)) (e_st (hP 0) ((va_up_ne _ _ hP01).trans (hV))) rfl rfl qm_X4_55 rfl hl.1 rfl ⟨rfl, rfl, by decide, by decide⟩ (Nat.le_of_ble_eq_true rfl) ⟨Nat.zero_le _, Nat.zero_le _⟩ dX4_pledge_19 (fun H locs hI => ?_)
  refine g_callVi (rest := []) (c_X4_recorded l D tb ad hj P (va_up (va_up M (P 1) (q_copy S V)) (P 0) ((q_pledge V n le lo).2)) ((q_pledge V n le lo).1) (by first | assumption | omega) G ((va_up_ne _ _ (k_ne6 (hP 0))).trans ((va_up_ne _ _ (k_ne6 (hP 1))).trans (hG)))) rfl rfl gm_X4_recorded hx hb hml hown hts hC hI (by decide) (e_gr ((va_up_ne _ _ (k_ne6 (hP 0))).trans ((va_up_ne _ _ (k_ne6 (hP 1))).trans (hG)))) rfl rfl qm_X4_38 rfl hl.1 rfl ⟨rfl, rfl, by decide, by decide⟩ (Nat.le_of_ble_eq_true rfl) ⟨Nat.zero_le _, Nat.zero_le _⟩ dX4_pledge_22 (fun H locs hI => ?_)
  have hPq22 := @q_recdP_lt ((q_pledge V n le lo).1) P hP
  exact g_ir hQ hx hb hr0 hlk hC hI dX4_pledge_25 rfl (by rfl) (by rfl) (by rfl)
abbrev rm_X4_repay : Room := { frames := 3, cells := 0, slots := 0, locals := 68 }
set_option maxHeartbeats 800000 in
set_option maxRecDepth 100000 in
theorem c_X4_repay (l : Launch) (D : va_G) (tb : g_T) (ad : g_Ad) (hj : g_inj ad) (P : g_P) (M : g_M) (n : Int32) (a : Int32) (hP : ∀ i, P i < 6) (hP01 : P 0 ≠ P 1) (V : g_V) (hV : M (P 0) = V) (S : g_V) (hS : M (P 1) = S) (G : g_V) (hG : M 6 = G) : g_Ci l yX4_repay cX4_repay 3 (some .int) rm_X4_repay D tb ad [.ref (ad 6 0), .int n, .int a] P (M) ((q_repay V n a).1) (q_recdP (q_repay V n a).1 P) (va_up (va_up (va_up M (P 1) (q_copy S V)) (P 0) ((q_repay V n a).2)) 6 (q_recdG (q_repay V n a).1 G)) := by
  refine g_go (by decide) (Nat.le_of_ble_eq_true rfl) hj ?_
  intro p e s m below meth c ls H locs R args Q hR0 hQ hx hb hml hr0 hlk hown hts hC hI hl
  subst hR0
  have hown : s.vm.findClass RX4 = some m.cls := hown
  have hl : lv_has ls 3 [(0, .ref (ad 6 0)), (1, .int n), (2, .int a)] := hl
  refine lv_aload_n hx hb dX4_repay_0 rfl (lv_at hl 0 rfl) ?_
  refine g_get 4 hx hb hts hown hC hI i_X4 (by decide) (e_gr hG) rfl (by decide) qf_X4_27 rfl rfl dX4_repay_1 ?_
  refine lv_aload_n hx hb dX4_repay_4 rfl (lv_at hl 0 rfl) ?_
  refine g_get 3 hx hb hts hown hC hI i_X4 (by decide) (e_gr hG) rfl (by decide) qf_X4_23 rfl rfl dX4_repay_5 ?_
  refine g_callVv (rest := []) (c_X3_copyFrom l D tb ad hj P M (P 1) (hP 1) S (P 0) (hP 0) V hP01 hV) rfl (k_eta hS) gm_X3_copyFrom hx hb hml hown hts hC hI (ok_c 0 (hP 1) (by decide)) (e_st (hP 1) hS) rfl rfl qm_X4_30 rfl hl.1 rfl ⟨rfl, rfl, by decide, by decide⟩ (Nat.le_of_ble_eq_true rfl) ⟨Nat.zero_le _, Nat.zero_le _⟩ dX4_repay_8 (fun H locs hI => ?_)
  refine lv_aload_n hx hb dX4_repay_11 rfl (lv_at hl 0 rfl) ?_
  refine lv_aload_n hx hb dX4_repay_12 rfl (lv_at hl 0 rfl) ?_
  refine g_get 3 hx hb hts hown hC hI i_X4 (by decide) (e_gr ((va_up_ne _ _ (k_ne6 (hP 1))).trans (hG))) rfl (by decide) qf_X4_23 rfl rfl dX4_repay_13 ?_
  refine lv_iload_n hx hb dX4_repay_16 rfl (lv_at hl 1 rfl) ?_
  refine lv_iload_n hx hb dX4_repay_17 rfl (lv_at hl 2 rfl) ?_
  refine g_callVi (rest := [.ref (ad 6 0)]) (c_X3_payBack l D tb ad hj P (va_up M (P 1) (q_copy S V)) (P 0) (hP 0) V n a) rfl (k_eta ((va_up_ne _ _ hP01).trans (hV))) gm_X3_payBack hx hb hml hown hts hC hI (ok_c 0 (hP 0) (by decide)) (e_st (hP 0) ((va_up_ne _ _ hP01).trans (hV))) rfl rfl qm_X4_58 rfl hl.1 rfl ⟨rfl, rfl, by decide, by decide⟩ (Nat.le_of_ble_eq_true rfl) ⟨Nat.zero_le _, Nat.zero_le _⟩ dX4_repay_18 (fun H locs hI => ?_)
  refine g_callVi (rest := []) (c_X4_recorded l D tb ad hj P (va_up (va_up M (P 1) (q_copy S V)) (P 0) ((q_repay V n a).2)) ((q_repay V n a).1) (by first | assumption | omega) G ((va_up_ne _ _ (k_ne6 (hP 0))).trans ((va_up_ne _ _ (k_ne6 (hP 1))).trans (hG)))) rfl rfl gm_X4_recorded hx hb hml hown hts hC hI (by decide) (e_gr ((va_up_ne _ _ (k_ne6 (hP 0))).trans ((va_up_ne _ _ (k_ne6 (hP 1))).trans (hG)))) rfl rfl qm_X4_38 rfl hl.1 rfl ⟨rfl, rfl, by decide, by decide⟩ (Nat.le_of_ble_eq_true rfl) ⟨Nat.zero_le _, Nat.zero_le _⟩ dX4_repay_21 (fun H locs hI => ?_)
  have hPq21 := @q_recdP_lt ((q_repay V n a).1) P hP
  exact g_ir hQ hx hb hr0 hlk hC hI dX4_repay_24 rfl (by rfl) (by rfl) (by rfl)
abbrev rm_X4_price : Room := { frames := 3, cells := 0, slots := 0, locals := 67 }
set_option maxHeartbeats 800000 in
set_option maxRecDepth 100000 in
theorem c_X4_price (l : Launch) (D : va_G) (tb : g_T) (ad : g_Ad) (hj : g_inj ad) (P : g_P) (M : g_M) (g : Int32) (x : Int32) (hP : ∀ i, P i < 6) (hP01 : P 0 ≠ P 1) (V : g_V) (hV : M (P 0) = V) (S : g_V) (hS : M (P 1) = S) (G : g_V) (hG : M 6 = G) : g_Ci l yX4_price cX4_price 3 (some .int) rm_X4_price D tb ad [.ref (ad 6 0), .int g, .int x] P (M) ((q_price V g x).1) (q_recdP (q_price V g x).1 P) (va_up (va_up (va_up M (P 1) (q_copy S V)) (P 0) ((q_price V g x).2)) 6 (q_recdG (q_price V g x).1 G)) := by
  refine g_go (by decide) (Nat.le_of_ble_eq_true rfl) hj ?_
  intro p e s m below meth c ls H locs R args Q hR0 hQ hx hb hml hr0 hlk hown hts hC hI hl
  subst hR0
  have hown : s.vm.findClass RX4 = some m.cls := hown
  have hl : lv_has ls 3 [(0, .ref (ad 6 0)), (1, .int g), (2, .int x)] := hl
  refine lv_aload_n hx hb dX4_price_0 rfl (lv_at hl 0 rfl) ?_
  refine g_get 4 hx hb hts hown hC hI i_X4 (by decide) (e_gr hG) rfl (by decide) qf_X4_27 rfl rfl dX4_price_1 ?_
  refine lv_aload_n hx hb dX4_price_4 rfl (lv_at hl 0 rfl) ?_
  refine g_get 3 hx hb hts hown hC hI i_X4 (by decide) (e_gr hG) rfl (by decide) qf_X4_23 rfl rfl dX4_price_5 ?_
  refine g_callVv (rest := []) (c_X3_copyFrom l D tb ad hj P M (P 1) (hP 1) S (P 0) (hP 0) V hP01 hV) rfl (k_eta hS) gm_X3_copyFrom hx hb hml hown hts hC hI (ok_c 0 (hP 1) (by decide)) (e_st (hP 1) hS) rfl rfl qm_X4_30 rfl hl.1 rfl ⟨rfl, rfl, by decide, by decide⟩ (Nat.le_of_ble_eq_true rfl) ⟨Nat.zero_le _, Nat.zero_le _⟩ dX4_price_8 (fun H locs hI => ?_)
  refine lv_aload_n hx hb dX4_price_11 rfl (lv_at hl 0 rfl) ?_
  refine lv_aload_n hx hb dX4_price_12 rfl (lv_at hl 0 rfl) ?_
  refine g_get 3 hx hb hts hown hC hI i_X4 (by decide) (e_gr ((va_up_ne _ _ (k_ne6 (hP 1))).trans (hG))) rfl (by decide) qf_X4_23 rfl rfl dX4_price_13 ?_
  refine lv_iload_n hx hb dX4_price_16 rfl (lv_at hl 1 rfl) ?_
  refine lv_iload_n hx hb dX4_price_17 rfl (lv_at hl 2 rfl) ?_
  refine g_callVi (rest := [.ref (ad 6 0)]) (c_X3_changePrice l D tb ad hj P (va_up M (P 1) (q_copy S V)) (P 0) (hP 0) V g x) rfl (k_eta ((va_up_ne _ _ hP01).trans (hV))) gm_X3_changePrice hx hb hml hown hts hC hI (ok_c 0 (hP 0) (by decide)) (e_st (hP 0) ((va_up_ne _ _ hP01).trans (hV))) rfl rfl qm_X4_61 rfl hl.1 rfl ⟨rfl, rfl, by decide, by decide⟩ (Nat.le_of_ble_eq_true rfl) ⟨Nat.zero_le _, Nat.zero_le _⟩ dX4_price_18 (fun H locs hI => ?_)
  refine g_callVi (rest := []) (c_X4_recorded l D tb ad hj P (va_up (va_up M (P 1) (q_copy S V)) (P 0) ((q_price V g x).2)) ((q_price V g x).1) (by first | assumption | omega) G ((va_up_ne _ _ (k_ne6 (hP 0))).trans ((va_up_ne _ _ (k_ne6 (hP 1))).trans (hG)))) rfl rfl gm_X4_recorded hx hb hml hown hts hC hI (by decide) (e_gr ((va_up_ne _ _ (k_ne6 (hP 0))).trans ((va_up_ne _ _ (k_ne6 (hP 1))).trans (hG)))) rfl rfl qm_X4_38 rfl hl.1 rfl ⟨rfl, rfl, by decide, by decide⟩ (Nat.le_of_ble_eq_true rfl) ⟨Nat.zero_le _, Nat.zero_le _⟩ dX4_price_21 (fun H locs hI => ?_)
  have hPq21 := @q_recdP_lt ((q_price V g x).1) P hP
  exact g_ir hQ hx hb hr0 hlk hC hI dX4_price_24 rfl (by rfl) (by rfl) (by rfl)
abbrev rm_X4_call : Room := { frames := 3, cells := 0, slots := 0, locals := 70 }
set_option maxHeartbeats 800000 in
set_option maxRecDepth 100000 in
theorem c_X4_call (l : Launch) (D : va_G) (tb : g_T) (ad : g_Ad) (hj : g_inj ad) (P : g_P) (M : g_M) (le : Int32) (hP : ∀ i, P i < 6) (hP01 : P 0 ≠ P 1) (V : g_V) (hV : M (P 0) = V) (S : g_V) (hS : M (P 1) = S) (G : g_V) (hG : M 6 = G) : g_Ci l yX4_call cX4_call 2 (some .int) rm_X4_call D tb ad [.ref (ad 6 0), .int le] P (M) ((q_call V le).1) (q_recdP (q_call V le).1 P) (va_up (va_up (va_up M (P 1) (q_copy S V)) (P 0) ((q_call V le).2)) 6 (q_recdG (q_call V le).1 G)) := by
  refine g_go (by decide) (Nat.le_of_ble_eq_true rfl) hj ?_
  intro p e s m below meth c ls H locs R args Q hR0 hQ hx hb hml hr0 hlk hown hts hC hI hl
  subst hR0
  have hown : s.vm.findClass RX4 = some m.cls := hown
  have hl : lv_has ls 2 [(0, .ref (ad 6 0)), (1, .int le)] := hl
  refine lv_aload_n hx hb dX4_call_0 rfl (lv_at hl 0 rfl) ?_
  refine g_get 4 hx hb hts hown hC hI i_X4 (by decide) (e_gr hG) rfl (by decide) qf_X4_27 rfl rfl dX4_call_1 ?_
  refine lv_aload_n hx hb dX4_call_4 rfl (lv_at hl 0 rfl) ?_
  refine g_get 3 hx hb hts hown hC hI i_X4 (by decide) (e_gr hG) rfl (by decide) qf_X4_23 rfl rfl dX4_call_5 ?_
  refine g_callVv (rest := []) (c_X3_copyFrom l D tb ad hj P M (P 1) (hP 1) S (P 0) (hP 0) V hP01 hV) rfl (k_eta hS) gm_X3_copyFrom hx hb hml hown hts hC hI (ok_c 0 (hP 1) (by decide)) (e_st (hP 1) hS) rfl rfl qm_X4_30 rfl hl.1 rfl ⟨rfl, rfl, by decide, by decide⟩ (Nat.le_of_ble_eq_true rfl) ⟨Nat.zero_le _, Nat.zero_le _⟩ dX4_call_8 (fun H locs hI => ?_)
  refine lv_aload_n hx hb dX4_call_11 rfl (lv_at hl 0 rfl) ?_
  refine lv_aload_n hx hb dX4_call_12 rfl (lv_at hl 0 rfl) ?_
  refine g_get 3 hx hb hts hown hC hI i_X4 (by decide) (e_gr ((va_up_ne _ _ (k_ne6 (hP 1))).trans (hG))) rfl (by decide) qf_X4_23 rfl rfl dX4_call_13 ?_
  refine lv_iload_n hx hb dX4_call_16 rfl (lv_at hl 1 rfl) ?_
  refine g_callVi (rest := [.ref (ad 6 0)]) (c_X3_callLoans l D tb ad hj P (va_up M (P 1) (q_copy S V)) (P 0) (hP 0) V le) rfl (k_eta ((va_up_ne _ _ hP01).trans (hV))) gm_X3_callLoans hx hb hml hown hts hC hI (ok_c 0 (hP 0) (by decide)) (e_st (hP 0) ((va_up_ne _ _ hP01).trans (hV))) rfl rfl qm_X4_64 rfl hl.1 rfl ⟨rfl, rfl, by decide, by decide⟩ (Nat.le_of_ble_eq_true rfl) ⟨Nat.zero_le _, Nat.zero_le _⟩ dX4_call_17 (fun H locs hI => ?_)
  refine g_callVi (rest := []) (c_X4_recorded l D tb ad hj P (va_up (va_up M (P 1) (q_copy S V)) (P 0) ((q_call V le).2)) ((q_call V le).1) (by first | assumption | omega) G ((va_up_ne _ _ (k_ne6 (hP 0))).trans ((va_up_ne _ _ (k_ne6 (hP 1))).trans (hG)))) rfl rfl gm_X4_recorded hx hb hml hown hts hC hI (by decide) (e_gr ((va_up_ne _ _ (k_ne6 (hP 0))).trans ((va_up_ne _ _ (k_ne6 (hP 1))).trans (hG)))) rfl rfl qm_X4_38 rfl hl.1 rfl ⟨rfl, rfl, by decide, by decide⟩ (Nat.le_of_ble_eq_true rfl) ⟨Nat.zero_le _, Nat.zero_le _⟩ dX4_call_20 (fun H locs hI => ?_)
  have hPq20 := @q_recdP_lt ((q_call V le).1) P hP
  exact g_ir hQ hx hb hr0 hlk hC hI dX4_call_23 rfl (by rfl) (by rfl) (by rfl)
abbrev rm_X4_pass : Room := { frames := 4, cells := 0, slots := 0, locals := 89 }
set_option maxHeartbeats 800000 in
set_option maxRecDepth 100000 in
theorem c_X4_pass (l : Launch) (D : va_G) (tb : g_T) (ad : g_Ad) (hj : g_inj ad) (P : g_P) (M : g_M) (days : Int32) (hP : ∀ i, P i < 6) (hP01 : P 0 ≠ P 1) (V : g_V) (hV : M (P 0) = V) (S : g_V) (hS : M (P 1) = S) (G : g_V) (hG : M 6 = G) : g_Ci l yX4_pass cX4_pass 2 (some .int) rm_X4_pass D tb ad [.ref (ad 6 0), .int days] P (M) ((q_pass V days).1) (q_recdP (q_pass V days).1 P) (va_up (va_up (va_up M (P 1) (q_copy S V)) (P 0) ((q_pass V days).2)) 6 (q_recdG (q_pass V days).1 G)) := by
  refine g_go (by decide) (Nat.le_of_ble_eq_true rfl) hj ?_
  intro p e s m below meth c ls H locs R args Q hR0 hQ hx hb hml hr0 hlk hown hts hC hI hl
  subst hR0
  have hown : s.vm.findClass RX4 = some m.cls := hown
  have hl : lv_has ls 2 [(0, .ref (ad 6 0)), (1, .int days)] := hl
  refine lv_aload_n hx hb dX4_pass_0 rfl (lv_at hl 0 rfl) ?_
  refine g_get 4 hx hb hts hown hC hI i_X4 (by decide) (e_gr hG) rfl (by decide) qf_X4_27 rfl rfl dX4_pass_1 ?_
  refine lv_aload_n hx hb dX4_pass_4 rfl (lv_at hl 0 rfl) ?_
  refine g_get 3 hx hb hts hown hC hI i_X4 (by decide) (e_gr hG) rfl (by decide) qf_X4_23 rfl rfl dX4_pass_5 ?_
  refine g_callVv (rest := []) (c_X3_copyFrom l D tb ad hj P M (P 1) (hP 1) S (P 0) (hP 0) V hP01 hV) rfl (k_eta hS) gm_X3_copyFrom hx hb hml hown hts hC hI (ok_c 0 (hP 1) (by decide)) (e_st (hP 1) hS) rfl rfl qm_X4_30 rfl hl.1 rfl ⟨rfl, rfl, by decide, by decide⟩ (Nat.le_of_ble_eq_true rfl) ⟨Nat.zero_le _, Nat.zero_le _⟩ dX4_pass_8 (fun H locs hI => ?_)
  refine lv_aload_n hx hb dX4_pass_11 rfl (lv_at hl 0 rfl) ?_
  refine lv_aload_n hx hb dX4_pass_12 rfl (lv_at hl 0 rfl) ?_
  refine g_get 3 hx hb hts hown hC hI i_X4 (by decide) (e_gr ((va_up_ne _ _ (k_ne6 (hP 1))).trans (hG))) rfl (by decide) qf_X4_23 rfl rfl dX4_pass_13 ?_
  refine lv_iload_n hx hb dX4_pass_16 rfl (lv_at hl 1 rfl) ?_
  refine g_callVi (rest := [.ref (ad 6 0)]) (c_X3_passDays l D tb ad hj P (va_up M (P 1) (q_copy S V)) (P 0) (hP 0) V days) rfl (k_eta ((va_up_ne _ _ hP01).trans (hV))) gm_X3_passDays hx hb hml hown hts hC hI (ok_c 0 (hP 0) (by decide)) (e_st (hP 0) ((va_up_ne _ _ hP01).trans (hV))) rfl rfl qm_X4_67 rfl hl.1 rfl ⟨rfl, rfl, by decide, by decide⟩ (Nat.le_of_ble_eq_true rfl) ⟨Nat.zero_le _, Nat.zero_le _⟩ dX4_pass_17 (fun H locs hI => ?_)
  refine g_callVi (rest := []) (c_X4_recorded l D tb ad hj P (va_up (va_up M (P 1) (q_copy S V)) (P 0) ((q_pass V days).2)) ((q_pass V days).1) (by first | assumption | omega) G ((va_up_ne _ _ (k_ne6 (hP 0))).trans ((va_up_ne _ _ (k_ne6 (hP 1))).trans (hG)))) rfl rfl gm_X4_recorded hx hb hml hown hts hC hI (by decide) (e_gr ((va_up_ne _ _ (k_ne6 (hP 0))).trans ((va_up_ne _ _ (k_ne6 (hP 1))).trans (hG)))) rfl rfl qm_X4_38 rfl hl.1 rfl ⟨rfl, rfl, by decide, by decide⟩ (Nat.le_of_ble_eq_true rfl) ⟨Nat.zero_le _, Nat.zero_le _⟩ dX4_pass_20 (fun H locs hI => ?_)
  have hPq20 := @q_recdP_lt ((q_pass V days).1) P hP
  exact g_ir hQ hx hb hr0 hlk hC hI dX4_pass_23 rfl (by rfl) (by rfl) (by rfl)
abbrev rm_X4_lose : Room := { frames := 5, cells := 0, slots := 0, locals := 114 }
set_option maxHeartbeats 800000 in
set_option maxRecDepth 100000 in
theorem c_X4_lose (l : Launch) (D : va_G) (tb : g_T) (ad : g_Ad) (hj : g_inj ad) (P : g_P) (M : g_M) (bn : Int32) (a : Int32) (hP : ∀ i, P i < 6) (hP01 : P 0 ≠ P 1) (V : g_V) (hV : M (P 0) = V) (S : g_V) (hS : M (P 1) = S) (G : g_V) (hG : M 6 = G) (hOk : q_okG V) : g_Ci l yX4_lose cX4_lose 3 (some .int) rm_X4_lose D tb ad [.ref (ad 6 0), .int bn, .int a] P (M) ((q_lose V bn a).1) (q_recdP (q_lose V bn a).1 P) (va_up (va_up (va_up M (P 1) (q_copy S V)) (P 0) ((q_lose V bn a).2)) 6 (q_recdG (q_lose V bn a).1 G)) := by
  refine g_go (by decide) (Nat.le_of_ble_eq_true rfl) hj ?_
  intro p e s m below meth c ls H locs R args Q hR0 hQ hx hb hml hr0 hlk hown hts hC hI hl
  subst hR0
  have hown : s.vm.findClass RX4 = some m.cls := hown
  have hl : lv_has ls 3 [(0, .ref (ad 6 0)), (1, .int bn), (2, .int a)] := hl
  refine lv_aload_n hx hb dX4_lose_0 rfl (lv_at hl 0 rfl) ?_
  refine g_get 4 hx hb hts hown hC hI i_X4 (by decide) (e_gr hG) rfl (by decide) qf_X4_27 rfl rfl dX4_lose_1 ?_
  refine lv_aload_n hx hb dX4_lose_4 rfl (lv_at hl 0 rfl) ?_
  refine g_get 3 hx hb hts hown hC hI i_X4 (by decide) (e_gr hG) rfl (by decide) qf_X4_23 rfl rfl dX4_lose_5 ?_
  refine g_callVv (rest := []) (c_X3_copyFrom l D tb ad hj P M (P 1) (hP 1) S (P 0) (hP 0) V hP01 hV) rfl (k_eta hS) gm_X3_copyFrom hx hb hml hown hts hC hI (ok_c 0 (hP 1) (by decide)) (e_st (hP 1) hS) rfl rfl qm_X4_30 rfl hl.1 rfl ⟨rfl, rfl, by decide, by decide⟩ (Nat.le_of_ble_eq_true rfl) ⟨Nat.zero_le _, Nat.zero_le _⟩ dX4_lose_8 (fun H locs hI => ?_)
  refine lv_aload_n hx hb dX4_lose_11 rfl (lv_at hl 0 rfl) ?_
  refine lv_aload_n hx hb dX4_lose_12 rfl (lv_at hl 0 rfl) ?_
  refine g_get 3 hx hb hts hown hC hI i_X4 (by decide) (e_gr ((va_up_ne _ _ (k_ne6 (hP 1))).trans (hG))) rfl (by decide) qf_X4_23 rfl rfl dX4_lose_13 ?_
  refine lv_iload_n hx hb dX4_lose_16 rfl (lv_at hl 1 rfl) ?_
  refine lv_iload_n hx hb dX4_lose_17 rfl (lv_at hl 2 rfl) ?_
  refine g_callVi (rest := [.ref (ad 6 0)]) (c_X3_loseGrain l D tb ad hj P (va_up M (P 1) (q_copy S V)) (P 0) (hP 0) V bn a hOk) rfl (k_eta ((va_up_ne _ _ hP01).trans (hV))) gm_X3_loseGrain hx hb hml hown hts hC hI (ok_c 0 (hP 0) (by decide)) (e_st (hP 0) ((va_up_ne _ _ hP01).trans (hV))) rfl rfl qm_X4_70 rfl hl.1 rfl ⟨rfl, rfl, by decide, by decide⟩ (Nat.le_of_ble_eq_true rfl) ⟨Nat.zero_le _, Nat.zero_le _⟩ dX4_lose_18 (fun H locs hI => ?_)
  refine g_callVi (rest := []) (c_X4_recorded l D tb ad hj P (va_up (va_up M (P 1) (q_copy S V)) (P 0) ((q_lose V bn a).2)) ((q_lose V bn a).1) (by first | assumption | omega) G ((va_up_ne _ _ (k_ne6 (hP 0))).trans ((va_up_ne _ _ (k_ne6 (hP 1))).trans (hG)))) rfl rfl gm_X4_recorded hx hb hml hown hts hC hI (by decide) (e_gr ((va_up_ne _ _ (k_ne6 (hP 0))).trans ((va_up_ne _ _ (k_ne6 (hP 1))).trans (hG)))) rfl rfl qm_X4_38 rfl hl.1 rfl ⟨rfl, rfl, by decide, by decide⟩ (Nat.le_of_ble_eq_true rfl) ⟨Nat.zero_le _, Nat.zero_le _⟩ dX4_lose_21 (fun H locs hI => ?_)
  have hPq21 := @q_recdP_lt ((q_lose V bn a).1) P hP
  exact g_ir hQ hx hb hr0 hlk hC hI dX4_lose_24 rfl (by rfl) (by rfl) (by rfl)
abbrev rm_X4_regrade : Room := { frames := 4, cells := 0, slots := 0, locals := 93 }
set_option maxHeartbeats 800000 in
set_option maxRecDepth 100000 in
theorem c_X4_regrade (l : Launch) (D : va_G) (tb : g_T) (ad : g_Ad) (hj : g_inj ad) (P : g_P) (M : g_M) (bn : Int32) (g : Int32) (hP : ∀ i, P i < 6) (hP01 : P 0 ≠ P 1) (V : g_V) (hV : M (P 0) = V) (S : g_V) (hS : M (P 1) = S) (G : g_V) (hG : M 6 = G) (hOk : q_okG V) : g_Ci l yX4_regrade cX4_regrade 3 (some .int) rm_X4_regrade D tb ad [.ref (ad 6 0), .int bn, .int g] P (M) ((q_regrade V bn g).1) (q_recdP (q_regrade V bn g).1 P) (va_up (va_up (va_up M (P 1) (q_copy S V)) (P 0) ((q_regrade V bn g).2)) 6 (q_recdG (q_regrade V bn g).1 G)) := by
  refine g_go (by decide) (Nat.le_of_ble_eq_true rfl) hj ?_
  intro p e s m below meth c ls H locs R args Q hR0 hQ hx hb hml hr0 hlk hown hts hC hI hl
  subst hR0
  have hown : s.vm.findClass RX4 = some m.cls := hown
  have hl : lv_has ls 3 [(0, .ref (ad 6 0)), (1, .int bn), (2, .int g)] := hl
  refine lv_aload_n hx hb dX4_regrade_0 rfl (lv_at hl 0 rfl) ?_
  refine g_get 4 hx hb hts hown hC hI i_X4 (by decide) (e_gr hG) rfl (by decide) qf_X4_27 rfl rfl dX4_regrade_1 ?_
  refine lv_aload_n hx hb dX4_regrade_4 rfl (lv_at hl 0 rfl) ?_
  refine g_get 3 hx hb hts hown hC hI i_X4 (by decide) (e_gr hG) rfl (by decide) qf_X4_23 rfl rfl dX4_regrade_5 ?_
  refine g_callVv (rest := []) (c_X3_copyFrom l D tb ad hj P M (P 1) (hP 1) S (P 0) (hP 0) V hP01 hV) rfl (k_eta hS) gm_X3_copyFrom hx hb hml hown hts hC hI (ok_c 0 (hP 1) (by decide)) (e_st (hP 1) hS) rfl rfl qm_X4_30 rfl hl.1 rfl ⟨rfl, rfl, by decide, by decide⟩ (Nat.le_of_ble_eq_true rfl) ⟨Nat.zero_le _, Nat.zero_le _⟩ dX4_regrade_8 (fun H locs hI => ?_)
  refine lv_aload_n hx hb dX4_regrade_11 rfl (lv_at hl 0 rfl) ?_
  refine lv_aload_n hx hb dX4_regrade_12 rfl (lv_at hl 0 rfl) ?_
  refine g_get 3 hx hb hts hown hC hI i_X4 (by decide) (e_gr ((va_up_ne _ _ (k_ne6 (hP 1))).trans (hG))) rfl (by decide) qf_X4_23 rfl rfl dX4_regrade_13 ?_
  refine lv_iload_n hx hb dX4_regrade_16 rfl (lv_at hl 1 rfl) ?_
  refine lv_iload_n hx hb dX4_regrade_17 rfl (lv_at hl 2 rfl) ?_
  refine g_callVi (rest := [.ref (ad 6 0)]) (c_X3_regradeBin l D tb ad hj P (va_up M (P 1) (q_copy S V)) (P 0) (hP 0) V bn g hOk) rfl (k_eta ((va_up_ne _ _ hP01).trans (hV))) gm_X3_regradeBin hx hb hml hown hts hC hI (ok_c 0 (hP 0) (by decide)) (e_st (hP 0) ((va_up_ne _ _ hP01).trans (hV))) rfl rfl qm_X4_73 rfl hl.1 rfl ⟨rfl, rfl, by decide, by decide⟩ (Nat.le_of_ble_eq_true rfl) ⟨Nat.zero_le _, Nat.zero_le _⟩ dX4_regrade_18 (fun H locs hI => ?_)
  refine g_callVi (rest := []) (c_X4_recorded l D tb ad hj P (va_up (va_up M (P 1) (q_copy S V)) (P 0) ((q_regrade V bn g).2)) ((q_regrade V bn g).1) (by first | assumption | omega) G ((va_up_ne _ _ (k_ne6 (hP 0))).trans ((va_up_ne _ _ (k_ne6 (hP 1))).trans (hG)))) rfl rfl gm_X4_recorded hx hb hml hown hts hC hI (by decide) (e_gr ((va_up_ne _ _ (k_ne6 (hP 0))).trans ((va_up_ne _ _ (k_ne6 (hP 1))).trans (hG)))) rfl rfl qm_X4_38 rfl hl.1 rfl ⟨rfl, rfl, by decide, by decide⟩ (Nat.le_of_ble_eq_true rfl) ⟨Nat.zero_le _, Nat.zero_le _⟩ dX4_regrade_21 (fun H locs hI => ?_)
  have hPq21 := @q_recdP_lt ((q_regrade V bn g).1) P hP
  exact g_ir hQ hx hb hr0 hlk hC hI dX4_regrade_24 rfl (by rfl) (by rfl) (by rfl)
abbrev rm_X4_set : Room := { frames := 3, cells := 0, slots := 0, locals := 67 }
set_option maxHeartbeats 800000 in
set_option maxRecDepth 100000 in
theorem c_X4_set (l : Launch) (D : va_G) (tb : g_T) (ad : g_Ad) (hj : g_inj ad) (P : g_P) (M : g_M) (x : Int32) (y : Int32) (hP : ∀ i, P i < 6) (hP01 : P 0 ≠ P 1) (V : g_V) (hV : M (P 0) = V) (S : g_V) (hS : M (P 1) = S) (G : g_V) (hG : M 6 = G) : g_Ci l yX4_set cX4_set 3 (some .int) rm_X4_set D tb ad [.ref (ad 6 0), .int x, .int y] P (M) ((q_set V x y).1) (q_recdP (q_set V x y).1 P) (va_up (va_up (va_up M (P 1) (q_copy S V)) (P 0) ((q_set V x y).2)) 6 (q_recdG (q_set V x y).1 G)) := by
  refine g_go (by decide) (Nat.le_of_ble_eq_true rfl) hj ?_
  intro p e s m below meth c ls H locs R args Q hR0 hQ hx hb hml hr0 hlk hown hts hC hI hl
  subst hR0
  have hown : s.vm.findClass RX4 = some m.cls := hown
  have hl : lv_has ls 3 [(0, .ref (ad 6 0)), (1, .int x), (2, .int y)] := hl
  refine lv_aload_n hx hb dX4_set_0 rfl (lv_at hl 0 rfl) ?_
  refine g_get 4 hx hb hts hown hC hI i_X4 (by decide) (e_gr hG) rfl (by decide) qf_X4_27 rfl rfl dX4_set_1 ?_
  refine lv_aload_n hx hb dX4_set_4 rfl (lv_at hl 0 rfl) ?_
  refine g_get 3 hx hb hts hown hC hI i_X4 (by decide) (e_gr hG) rfl (by decide) qf_X4_23 rfl rfl dX4_set_5 ?_
  refine g_callVv (rest := []) (c_X3_copyFrom l D tb ad hj P M (P 1) (hP 1) S (P 0) (hP 0) V hP01 hV) rfl (k_eta hS) gm_X3_copyFrom hx hb hml hown hts hC hI (ok_c 0 (hP 1) (by decide)) (e_st (hP 1) hS) rfl rfl qm_X4_30 rfl hl.1 rfl ⟨rfl, rfl, by decide, by decide⟩ (Nat.le_of_ble_eq_true rfl) ⟨Nat.zero_le _, Nat.zero_le _⟩ dX4_set_8 (fun H locs hI => ?_)
  refine lv_aload_n hx hb dX4_set_11 rfl (lv_at hl 0 rfl) ?_
  refine lv_aload_n hx hb dX4_set_12 rfl (lv_at hl 0 rfl) ?_
  refine g_get 3 hx hb hts hown hC hI i_X4 (by decide) (e_gr ((va_up_ne _ _ (k_ne6 (hP 1))).trans (hG))) rfl (by decide) qf_X4_23 rfl rfl dX4_set_13 ?_
  refine lv_iload_n hx hb dX4_set_16 rfl (lv_at hl 1 rfl) ?_
  refine lv_iload_n hx hb dX4_set_17 rfl (lv_at hl 2 rfl) ?_
  refine g_callVi (rest := [.ref (ad 6 0)]) (c_X3_changeSetting l D tb ad hj P (va_up M (P 1) (q_copy S V)) (P 0) (hP 0) V x y) rfl (k_eta ((va_up_ne _ _ hP01).trans (hV))) gm_X3_changeSetting hx hb hml hown hts hC hI (ok_c 0 (hP 0) (by decide)) (e_st (hP 0) ((va_up_ne _ _ hP01).trans (hV))) rfl rfl qm_X4_76 rfl hl.1 rfl ⟨rfl, rfl, by decide, by decide⟩ (Nat.le_of_ble_eq_true rfl) ⟨Nat.zero_le _, Nat.zero_le _⟩ dX4_set_18 (fun H locs hI => ?_)
  refine g_callVi (rest := []) (c_X4_recorded l D tb ad hj P (va_up (va_up M (P 1) (q_copy S V)) (P 0) ((q_set V x y).2)) ((q_set V x y).1) (by first | assumption | omega) G ((va_up_ne _ _ (k_ne6 (hP 0))).trans ((va_up_ne _ _ (k_ne6 (hP 1))).trans (hG)))) rfl rfl gm_X4_recorded hx hb hml hown hts hC hI (by decide) (e_gr ((va_up_ne _ _ (k_ne6 (hP 0))).trans ((va_up_ne _ _ (k_ne6 (hP 1))).trans (hG)))) rfl rfl qm_X4_38 rfl hl.1 rfl ⟨rfl, rfl, by decide, by decide⟩ (Nat.le_of_ble_eq_true rfl) ⟨Nat.zero_le _, Nat.zero_le _⟩ dX4_set_21 (fun H locs hI => ?_)
  have hPq21 := @q_recdP_lt ((q_set V x y).1) P hP
  exact g_ir hQ hx hb hr0 hlk hC hI dX4_set_24 rfl (by rfl) (by rfl) (by rfl)
abbrev rm_X4_fault : Room := { frames := 6, cells := 0, slots := 0, locals := 135 }
set_option maxHeartbeats 800000 in
set_option maxRecDepth 100000 in
theorem c_X4_fault (l : Launch) (D : va_G) (tb : g_T) (ad : g_Ad) (hj : g_inj ad) (P : g_P) (M : g_M) (w : Int32) (hP : ∀ i, P i < 6) (hP01 : P 0 ≠ P 1) (V : g_V) (hV : M (P 0) = V) (S : g_V) (hS : M (P 1) = S) (G : g_V) (hG : M 6 = G) (J : g_V → Prop) (hJ1 : ∀ U, J U → q_okR U) (hJ2 : ∀ U F x, J U → J (q_doOrder U F x).2) (hJ : J (q_copy S V)) (hCh : q_okC G) : g_Ci l yX4_fault cX4_fault 2 (some .int) rm_X4_fault D tb ad [.ref (ad 6 0), .int w] P (M) (if w < 0 then -2000000001 else if w ≤ 2 then (if (q_orders (q_copy S V) G).1 1 6 = 0 then -2000000004 else if w = 0 then (q_orders (q_copy S V) G).1 1 5 else if w = 1 then (q_orders (q_copy S V) G).1 1 6 else (q_orders (q_copy S V) G).1 1 7) else -2000000001) P (va_up (va_up M (P 1) (if w < 0 then S else if w ≤ 2 then (q_orders (q_copy S V) G).2 else S)) 6 (if w < 0 then G else if w ≤ 2 then (q_orders (q_copy S V) G).1 else G)) := by
  refine g_go (by decide) (Nat.le_of_ble_eq_true rfl) hj ?_
  intro p e s m below meth c ls H locs R args Q hR0 hQ hx hb hml hr0 hlk hown hts hC hI hl
  subst hR0
  have hown : s.vm.findClass RX4 = some m.cls := hown
  have hl : lv_has ls 2 [(0, .ref (ad 6 0)), (1, .int w)] := hl
  refine lv_iload_n hx hb dX4_fault_0 rfl (lv_at hl 1 rfl) ?_
  refine lv_if_lt (tgt := 9) hx hb dX4_fault_1 (by decide) (fun c1 => ?_) (fun c1 => ?_)
  · refine lv_ldc (v := (-2000000001)) hx hb hown (hts _ qc_X4_114) dX4_fault_9 ?_
    exact g_ir hQ hx hb hr0 hlk hC hI dX4_fault_11 rfl (by (first | rw [if_pos c1] | rw [if_neg c1] | skip); try with_reducible rfl) rfl (by (first | rw [if_pos c1] | rw [if_neg c1] | skip); (first | rw [if_pos c1] | rw [if_neg c1] | skip); first | (rw [g_up2]; done) | (rw [g_up2]; with_reducible rfl) | (rw [k_eta hS]; exact (k_eta hG).symm))
  · refine lv_iload_n hx hb dX4_fault_4 rfl (lv_at hl 1 rfl) ?_
    refine lv_iconst (v := 2) hx hb dX4_fault_5 (by decide) ?_
    refine lv_icmp_le (tgt := 12) hx hb dX4_fault_6 (by decide) (fun c2 => ?_) (fun c2 => ?_)
    · refine lv_aload_n hx hb dX4_fault_12 rfl (lv_at hl 0 rfl) ?_
      refine g_get 4 hx hb hts hown hC hI i_X4 (by decide) (e_gr hG) rfl (by decide) qf_X4_27 rfl rfl dX4_fault_13 ?_
      refine lv_aload_n hx hb dX4_fault_16 rfl (lv_at hl 0 rfl) ?_
      refine g_get 3 hx hb hts hown hC hI i_X4 (by decide) (e_gr hG) rfl (by decide) qf_X4_23 rfl rfl dX4_fault_17 ?_
      refine g_callVv (rest := []) (c_X3_copyFrom l D tb ad hj P M (P 1) (hP 1) S (P 0) (hP 0) V hP01 hV) rfl (k_eta hS) gm_X3_copyFrom hx hb hml hown hts hC hI (ok_c 0 (hP 1) (by decide)) (e_st (hP 1) hS) rfl rfl qm_X4_30 rfl hl.1 rfl ⟨rfl, rfl, by decide, by decide⟩ (Nat.le_of_ble_eq_true rfl) ⟨Nat.zero_le _, Nat.zero_le _⟩ dX4_fault_20 (fun H locs hI => ?_)
      refine lv_aload_n hx hb dX4_fault_23 rfl (lv_at hl 0 rfl) ?_
      refine g_get 0 hx hb hts hown hC hI i_X4 (by decide) (e_gr ((va_up_ne _ _ (k_ne6 (hP 1))).trans (hG))) rfl (by decide) qf_X4_10 rfl rfl dX4_fault_24 ?_
      refine lv_aload_n hx hb dX4_fault_27 rfl (lv_at hl 0 rfl) ?_
      refine g_get 4 hx hb hts hown hC hI i_X4 (by decide) (e_gr ((va_up_ne _ _ (k_ne6 (hP 1))).trans (hG))) rfl (by decide) qf_X4_27 rfl rfl dX4_fault_28 ?_
      refine g_callVv (rest := []) (c_X2_doOrders l D tb ad hj P (va_up M (P 1) (q_copy S V)) (P 1) (hP 1) G ((va_up_ne _ _ (k_ne6 (hP 1))).trans (hG)) (q_copy S V) g_us J hJ1 hJ2 hJ hCh) rfl rfl gm_X2_doOrders hx hb hml hown hts hC hI (by decide) (e_sc ((va_up_ne _ _ (k_ne6 (hP 1))).trans (hG))) rfl rfl qm_X4_115 rfl hl.1 rfl ⟨rfl, rfl, by decide, by decide⟩ (Nat.le_of_ble_eq_true rfl) ⟨Nat.zero_le _, Nat.zero_le _⟩ dX4_fault_31 (fun H locs hI => ?_)
      refine lv_aload_n hx hb dX4_fault_34 rfl (lv_at hl 0 rfl) ?_
      refine g_get 0 hx hb hts hown hC hI i_X4 (by decide) (e_gr g_us) rfl (by decide) qf_X4_10 rfl rfl dX4_fault_35 ?_
      refine g_getN 6 hx hb hts hown hC hI i_X2 (by decide) (e_sc g_us) rfl (by decide) qN_X4_118 rfl rfl dX4_fault_38 ?_
      refine lv_if_ne (tgt := 47) hx hb dX4_fault_41 (by decide) (fun c3 => ?_) (fun c3 => ?_)
      · refine lv_iload_n hx hb dX4_fault_47 rfl (lv_at hl 1 rfl) ?_
        by_cases c4 : w = 0
        · refine lv_lookup (tgt := 76) (off := 28) hx hb dX4_fault_48 (by decide) (by rw [c4] <;> rfl) (by decide) ?_
          refine lv_aload_n hx hb dX4_fault_76 rfl (lv_at hl 0 rfl) ?_
          refine g_get 0 hx hb hts hown hC hI i_X4 (by decide) (e_gr g_us) rfl (by decide) qf_X4_10 rfl rfl dX4_fault_77 ?_
          refine g_getN 5 hx hb hts hown hC hI i_X2 (by decide) (e_sc g_us) rfl (by decide) qN_X4_122 rfl rfl dX4_fault_80 ?_
          exact g_ir hQ hx hb hr0 hlk hC hI dX4_fault_83 rfl (by (first | rw [if_pos c1] | rw [if_neg c1] | skip); (first | rw [if_pos c2] | rw [if_neg c2] | skip); (first | rw [if_pos c3] | rw [if_neg c3] | skip); (first | rw [if_pos c4] | rw [if_neg c4] | skip); try with_reducible rfl) rfl (by (first | rw [if_pos c1] | rw [if_neg c1] | skip); (first | rw [if_pos c2] | rw [if_neg c2] | skip); (first | rw [if_pos c3] | rw [if_neg c3] | skip); (first | rw [if_pos c4] | rw [if_neg c4] | skip); (first | rw [if_pos c1] | rw [if_neg c1] | skip); (first | rw [if_pos c2] | rw [if_neg c2] | skip); (first | rw [if_pos c3] | rw [if_neg c3] | skip); (first | rw [if_pos c4] | rw [if_neg c4] | skip); first | (rw [g_up2]; done) | (rw [g_up2]; with_reducible rfl) | (rw [k_eta hS]; exact (k_eta hG).symm))
        by_cases c5 : w = 1
        · refine lv_lookup (tgt := 84) (off := 36) hx hb dX4_fault_48 (by decide) (by rw [c5] <;> rfl) (by decide) ?_
          refine lv_aload_n hx hb dX4_fault_84 rfl (lv_at hl 0 rfl) ?_
          refine g_get 0 hx hb hts hown hC hI i_X4 (by decide) (e_gr g_us) rfl (by decide) qf_X4_10 rfl rfl dX4_fault_85 ?_
          refine g_getN 6 hx hb hts hown hC hI i_X2 (by decide) (e_sc g_us) rfl (by decide) qN_X4_118 rfl rfl dX4_fault_88 ?_
          exact g_ir hQ hx hb hr0 hlk hC hI dX4_fault_91 rfl (by (first | rw [if_pos c1] | rw [if_neg c1] | skip); (first | rw [if_pos c2] | rw [if_neg c2] | skip); (first | rw [if_pos c3] | rw [if_neg c3] | skip); (first | rw [if_pos c4] | rw [if_neg c4] | skip); (first | rw [if_pos c5] | rw [if_neg c5] | skip); try with_reducible rfl) rfl (by (first | rw [if_pos c1] | rw [if_neg c1] | skip); (first | rw [if_pos c2] | rw [if_neg c2] | skip); (first | rw [if_pos c3] | rw [if_neg c3] | skip); (first | rw [if_pos c4] | rw [if_neg c4] | skip); (first | rw [if_pos c5] | rw [if_neg c5] | skip); (first | rw [if_pos c1] | rw [if_neg c1] | skip); (first | rw [if_pos c2] | rw [if_neg c2] | skip); (first | rw [if_pos c3] | rw [if_neg c3] | skip); (first | rw [if_pos c4] | rw [if_neg c4] | skip); (first | rw [if_pos c5] | rw [if_neg c5] | skip); first | (rw [g_up2]; done) | (rw [g_up2]; with_reducible rfl) | (rw [k_eta hS]; exact (k_eta hG).symm))
        refine lv_lookup (tgt := 92) (off := 44) hx hb dX4_fault_48 (by decide) (by have c4i := k_ti c4 (k := 0) rfl; have c5i := k_ti c5 (k := 1) rfl; simp [Op.lookupswitch.offset, (show ¬ (0 : Int) = w.toInt from fun z => c4i z.symm), (show ¬ (1 : Int) = w.toInt from fun z => c5i z.symm)]) (by decide) ?_
        refine lv_aload_n hx hb dX4_fault_92 rfl (lv_at hl 0 rfl) ?_
        refine g_get 0 hx hb hts hown hC hI i_X4 (by decide) (e_gr g_us) rfl (by decide) qf_X4_10 rfl rfl dX4_fault_93 ?_
        refine g_getN 7 hx hb hts hown hC hI i_X2 (by decide) (e_sc g_us) rfl (by decide) qN_X4_125 rfl rfl dX4_fault_96 ?_
        exact g_ir hQ hx hb hr0 hlk hC hI dX4_fault_99 rfl (by (first | rw [if_pos c1] | rw [if_neg c1] | skip); (first | rw [if_pos c2] | rw [if_neg c2] | skip); (first | rw [if_pos c3] | rw [if_neg c3] | skip); (first | rw [if_pos c4] | rw [if_neg c4] | skip); (first | rw [if_pos c5] | rw [if_neg c5] | skip); try with_reducible rfl) rfl (by (first | rw [if_pos c1] | rw [if_neg c1] | skip); (first | rw [if_pos c2] | rw [if_neg c2] | skip); (first | rw [if_pos c3] | rw [if_neg c3] | skip); (first | rw [if_pos c4] | rw [if_neg c4] | skip); (first | rw [if_pos c5] | rw [if_neg c5] | skip); (first | rw [if_pos c1] | rw [if_neg c1] | skip); (first | rw [if_pos c2] | rw [if_neg c2] | skip); (first | rw [if_pos c3] | rw [if_neg c3] | skip); (first | rw [if_pos c4] | rw [if_neg c4] | skip); (first | rw [if_pos c5] | rw [if_neg c5] | skip); first | (rw [g_up2]; done) | (rw [g_up2]; with_reducible rfl) | (rw [k_eta hS]; exact (k_eta hG).symm))
      · refine lv_ldc (v := (-2000000004)) hx hb hown (hts _ qc_X4_121) dX4_fault_44 ?_
        exact g_ir hQ hx hb hr0 hlk hC hI dX4_fault_46 rfl (by (first | rw [if_pos c1] | rw [if_neg c1] | skip); (first | rw [if_pos c2] | rw [if_neg c2] | skip); (first | rw [if_pos c3] | rw [if_neg c3] | skip); try with_reducible rfl) rfl (by (first | rw [if_pos c1] | rw [if_neg c1] | skip); (first | rw [if_pos c2] | rw [if_neg c2] | skip); (first | rw [if_pos c3] | rw [if_neg c3] | skip); (first | rw [if_pos c1] | rw [if_neg c1] | skip); (first | rw [if_pos c2] | rw [if_neg c2] | skip); (first | rw [if_pos c3] | rw [if_neg c3] | skip); first | (rw [g_up2]; done) | (rw [g_up2]; with_reducible rfl) | (rw [k_eta hS]; exact (k_eta hG).symm))
    · refine lv_ldc (v := (-2000000001)) hx hb hown (hts _ qc_X4_114) dX4_fault_9 ?_
      exact g_ir hQ hx hb hr0 hlk hC hI dX4_fault_11 rfl (by (first | rw [if_pos c1] | rw [if_neg c1] | skip); (first | rw [if_pos c2] | rw [if_neg c2] | skip); try with_reducible rfl) rfl (by (first | rw [if_pos c1] | rw [if_neg c1] | skip); (first | rw [if_pos c2] | rw [if_neg c2] | skip); (first | rw [if_pos c1] | rw [if_neg c1] | skip); (first | rw [if_pos c2] | rw [if_neg c2] | skip); first | (rw [g_up2]; done) | (rw [g_up2]; with_reducible rfl) | (rw [k_eta hS]; exact (k_eta hG).symm))
abbrev rm_X4_play : Room := { frames := 6, cells := 0, slots := 0, locals := 135 }
set_option maxHeartbeats 800000 in
set_option maxRecDepth 100000 in
theorem c_X4_play (l : Launch) (D : va_G) (tb : g_T) (ad : g_Ad) (hj : g_inj ad) (P : g_P) (M : g_M) (hP : ∀ i, P i < 6) (hP01 : P 0 ≠ P 1) (V : g_V) (hV : M (P 0) = V) (S : g_V) (hS : M (P 1) = S) (G : g_V) (hG : M 6 = G) (J : g_V → Prop) (hJ1 : ∀ U, J U → q_okR U) (hJ2 : ∀ U F x, J U → J (q_doOrder U F x).2) (hJ : J (q_copy S V)) (hCh : q_okC G) : g_Ci l yX4_play cX4_play 2 (some .int) rm_X4_play D tb ad [.ref (ad 6 0)] P (M) (if (q_orders (q_copy S V) G).1 1 6 = 0 then q_histUp (q_orders (q_copy S V) G).1 1 4 else -2000000002) (if (q_orders (q_copy S V) G).1 1 6 = 0 then q_recP (va_up (va_up P 0 (P 1)) 1 (P 0)) else P) (va_up (va_up M (P 1) ((q_orders (q_copy S V) G).2)) 6 (if (q_orders (q_copy S V) G).1 1 6 = 0 then q_histUp (q_orders (q_copy S V) G).1 else (q_orders (q_copy S V) G).1)) := by
  refine g_go (by decide) (Nat.le_of_ble_eq_true rfl) hj ?_
  intro p e s m below meth c ls H locs R args Q hR0 hQ hx hb hml hr0 hlk hown hts hC hI hl
  subst hR0
  have hown : s.vm.findClass RX4 = some m.cls := hown
  have hl : lv_has ls 2 [(0, .ref (ad 6 0))] := hl
  refine lv_aload_n hx hb dX4_play_0 rfl (lv_at hl 0 rfl) ?_
  refine g_get 4 hx hb hts hown hC hI i_X4 (by decide) (e_gr hG) rfl (by decide) qf_X4_27 rfl rfl dX4_play_1 ?_
  refine lv_aload_n hx hb dX4_play_4 rfl (lv_at hl 0 rfl) ?_
  refine g_get 3 hx hb hts hown hC hI i_X4 (by decide) (e_gr hG) rfl (by decide) qf_X4_23 rfl rfl dX4_play_5 ?_
  refine g_callVv (rest := []) (c_X3_copyFrom l D tb ad hj P M (P 1) (hP 1) S (P 0) (hP 0) V hP01 hV) rfl (k_eta hS) gm_X3_copyFrom hx hb hml hown hts hC hI (ok_c 0 (hP 1) (by decide)) (e_st (hP 1) hS) rfl rfl qm_X4_30 rfl hl.1 rfl ⟨rfl, rfl, by decide, by decide⟩ (Nat.le_of_ble_eq_true rfl) ⟨Nat.zero_le _, Nat.zero_le _⟩ dX4_play_8 (fun H locs hI => ?_)
  refine lv_aload_n hx hb dX4_play_11 rfl (lv_at hl 0 rfl) ?_
  refine g_get 0 hx hb hts hown hC hI i_X4 (by decide) (e_gr ((va_up_ne _ _ (k_ne6 (hP 1))).trans (hG))) rfl (by decide) qf_X4_10 rfl rfl dX4_play_12 ?_
  refine lv_aload_n hx hb dX4_play_15 rfl (lv_at hl 0 rfl) ?_
  refine g_get 4 hx hb hts hown hC hI i_X4 (by decide) (e_gr ((va_up_ne _ _ (k_ne6 (hP 1))).trans (hG))) rfl (by decide) qf_X4_27 rfl rfl dX4_play_16 ?_
  refine g_callVv (rest := []) (c_X2_doOrders l D tb ad hj P (va_up M (P 1) (q_copy S V)) (P 1) (hP 1) G ((va_up_ne _ _ (k_ne6 (hP 1))).trans (hG)) (q_copy S V) g_us J hJ1 hJ2 hJ hCh) rfl rfl gm_X2_doOrders hx hb hml hown hts hC hI (by decide) (e_sc ((va_up_ne _ _ (k_ne6 (hP 1))).trans (hG))) rfl rfl qm_X4_115 rfl hl.1 rfl ⟨rfl, rfl, by decide, by decide⟩ (Nat.le_of_ble_eq_true rfl) ⟨Nat.zero_le _, Nat.zero_le _⟩ dX4_play_19 (fun H locs hI => ?_)
  refine lv_aload_n hx hb dX4_play_22 rfl (lv_at hl 0 rfl) ?_
  refine g_get 0 hx hb hts hown hC hI i_X4 (by decide) (e_gr g_us) rfl (by decide) qf_X4_10 rfl rfl dX4_play_23 ?_
  refine g_getN 6 hx hb hts hown hC hI i_X2 (by decide) (e_sc g_us) rfl (by decide) qN_X4_118 rfl rfl dX4_play_26 ?_
  refine lv_if_eq (tgt := 35) hx hb dX4_play_29 (by decide) (fun c1 => ?_) (fun c1 => ?_)
  · refine lv_aload_n hx hb dX4_play_35 rfl (lv_at hl 0 rfl) ?_
    refine g_get 3 hx hb hts hown hC hI i_X4 (by decide) (e_gr g_us) rfl (by decide) qf_X4_23 rfl rfl dX4_play_36 ?_
    refine lv_astore_n (lv' := [(1, .ref (ad (P 0) 0)), (0, .ref (ad 6 0))]) hx hb dX4_play_39 rfl hl (by decide) rfl (fun ls hl => ?_)
    refine lv_aload_n hx hb dX4_play_40 rfl (lv_at hl 1 rfl) ?_
    refine lv_aload_n hx hb dX4_play_41 rfl (lv_at hl 1 rfl) ?_
    refine g_get 4 hx hb hts hown hC hI i_X4 (by decide) (e_gr g_us) rfl (by decide) qf_X4_27 rfl rfl dX4_play_42 ?_
    refine g_pput 0 (P 1) (by decide) hx hb hts hown hC hI qf_X4_23 dX4_play_45 (fun H locs hI => ?_)
    have hPn2 := k_upP (j := 0) (x := (P 1)) hP (hP 1)
    refine lv_aload_n hx hb dX4_play_48 rfl (lv_at hl 1 rfl) ?_
    refine lv_aload_n hx hb dX4_play_49 rfl (lv_at hl 0 rfl) ?_
    refine g_pput 1 (P 0) (by decide) hx hb hts hown hC hI qf_X4_27 dX4_play_50 (fun H locs hI => ?_)
    have hPn3 := k_upP (j := 1) (x := (P 0)) hPn2 (hP 0)
    refine lv_aload_n hx hb dX4_play_53 rfl (lv_at hl 1 rfl) ?_
    refine g_callVv (rest := []) (c_X4_recordSpare l D tb ad hj (va_up (va_up P 0 (P 1)) 1 (P 0)) (va_up (va_up (va_up M (P 1) (q_copy S V)) (P 1) ((q_orders (q_copy S V) G).2)) 6 ((q_orders (q_copy S V) G).1)) (by first | assumption | omega) (q_orders (q_copy S V) G).1 g_us) rfl rfl gm_X4_recordSpare hx hb hml hown hts hC hI (by decide) (e_gr g_us) rfl rfl qm_X4_128 rfl hl.1 rfl ⟨rfl, rfl, by decide, by decide⟩ (Nat.le_of_ble_eq_true rfl) ⟨Nat.zero_le _, Nat.zero_le _⟩ dX4_play_54 (fun H locs hI => ?_)
    have hPq54 := q_recP_lt hPn3
    refine lv_aload_n hx hb dX4_play_57 rfl (lv_at hl 1 rfl) ?_
    refine g_get 0 hx hb hts hown hC hI i_X4 (by decide) (e_gr g_us) rfl (by decide) qf_X4_10 rfl rfl dX4_play_58 ?_
    refine g_getN 4 hx hb hts hown hC hI i_X2 (by decide) (e_sc g_us) rfl (by decide) qN_X4_131 rfl rfl dX4_play_61 ?_
    exact g_ir hQ hx hb hr0 hlk hC hI dX4_play_64 rfl (by (first | rw [if_pos c1] | rw [if_neg c1] | skip); try with_reducible rfl) (by (first | rw [if_pos c1] | rw [if_neg c1] | skip); try with_reducible rfl) (by (first | rw [if_pos c1] | rw [if_neg c1] | skip); (try rw [g_up2]); (try rw [g_up2]); try with_reducible rfl)
  · refine lv_ldc (v := (-2000000002)) hx hb hown (hts _ qc_X4_110) dX4_play_32 ?_
    exact g_ir hQ hx hb hr0 hlk hC hI dX4_play_34 rfl (by (first | rw [if_pos c1] | rw [if_neg c1] | skip); try with_reducible rfl) (by (first | rw [if_pos c1] | rw [if_neg c1] | skip); try with_reducible rfl) (by (first | rw [if_pos c1] | rw [if_neg c1] | skip); (try rw [g_up2]); (try rw [g_up2]); try with_reducible rfl)
