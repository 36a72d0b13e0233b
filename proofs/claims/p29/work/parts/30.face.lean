abbrev rm_X4_recordSpare : Room := { frames := 0, cells := 0, slots := 0, locals := 0 }
set_option maxHeartbeats 800000 in
set_option maxRecDepth 100000 in
theorem c_X4_recordSpare (l : Launch) (D : va_G) (tb : g_T) (ad : g_Ad) (hj : g_inj ad) (P : g_P) (M : g_M) (hP : ∀ i, P i < 6) (G : g_V) (hG : M 6 = G) : g_Cv l yX4_recordSpare cX4_recordSpare 3 none rm_X4_recordSpare D tb ad [.ref (ad 6 0)] P (M) (q_recP P) (va_up M 6 (q_histUp G)) := by
  refine g_go (by decide) (Nat.le_of_ble_eq_true rfl) hj ?_
  intro p e s m below meth c ls H locs R args Q hR0 hQ hx hb hml hr0 hlk hown hts hC hI hl
  subst hR0
  have hown : s.vm.findClass RX4 = some m.cls := hown
  have hl : lv_has ls 3 [(0, .ref (ad 6 0))] := hl
  refine lv_aload_n hx hb dX4_recordSpare_0 rfl (lv_at hl 0 rfl) ?_
  refine g_get 1 hx hb hts hown hC hI i_X4 (by decide) (e_gr hG) rfl (by decide) qf_X4_18 rfl rfl dX4_recordSpare_1 ?_
  refine lv_iconst (v := 3) hx hb dX4_recordSpare_4 (by decide) ?_
  refine g_aald 4 3 hx hb hC hI (by decide) e_hi rfl (by unfold vp_in; decide) rfl dX4_recordSpare_5 ?_
  refine lv_astore_n (lv' := [(1, .ref (ad (P (2 + 3)) 0)), (0, .ref (ad 6 0))]) hx hb dX4_recordSpare_6 rfl hl (by decide) rfl (fun ls hl => ?_)
  refine lv_iconst (v := 3) hx hb dX4_recordSpare_7 (by decide) ?_
  refine lv_istore_n (lv' := [(2, .int 3), (1, .ref (ad (P (2 + 3)) 0)), (0, .ref (ad 6 0))]) hx hb dX4_recordSpare_8 rfl hl (by decide) rfl (fun ls hl => ?_)
  refine lv_iload_n hx hb dX4_recordSpare_9 rfl (lv_at hl 0 rfl) ?_
  refine lv_if_le (tgt := 33) hx hb dX4_recordSpare_10 (by decide) (fun c1 => absurd c1 (by decide)) (fun _ => ?_)
  refine lv_aload_n hx hb dX4_recordSpare_13 rfl (lv_at hl 2 rfl) ?_
  refine g_get 1 hx hb hts hown hC hI i_X4 (by decide) (e_gr hG) rfl (by decide) qf_X4_18 rfl rfl dX4_recordSpare_14 ?_
  refine lv_iload_n hx hb dX4_recordSpare_17 rfl (lv_at hl 0 rfl) ?_
  refine lv_aload_n hx hb dX4_recordSpare_18 rfl (lv_at hl 2 rfl) ?_
  refine g_get 1 hx hb hts hown hC hI i_X4 (by decide) (e_gr hG) rfl (by decide) qf_X4_18 rfl rfl dX4_recordSpare_19 ?_
  refine lv_iload_n hx hb dX4_recordSpare_22 rfl (lv_at hl 0 rfl) ?_
  refine lv_iconst (v := 1) hx hb dX4_recordSpare_23 (by decide) ?_
  refine lv_isub hx hb dX4_recordSpare_24 ?_
  refine g_te (y := 2) (by decide) ?_
  refine g_aald 4 2 hx hb hC hI (by decide) e_hi rfl (by unfold vp_in; decide) rfl dX4_recordSpare_25 ?_
  refine g_hast 3 (P (2 + 2)) hx hb hC hI (hP _) (by unfold vp_in; decide) rfl dX4_recordSpare_26 (fun H locs hI => ?_)
  have hPn2 := k_upP (j := 2 + 3) (x := (P (2 + 2))) hP (hP _)
  refine lv_iinc (v := 2) (lv' := [(2, .int 2), (1, .ref (ad (P (2 + 3)) 0)), (0, .ref (ad 6 0))]) hx hb dX4_recordSpare_27 hl (k := 0) rfl (by decide) (by decide) rfl (fun ls hl => ?_)
  refine lv_goto (tgt := 9) hx hb dX4_recordSpare_30 (by decide) ?_
  refine lv_iload_n hx hb dX4_recordSpare_9 rfl (lv_at hl 0 rfl) ?_
  refine lv_if_le (tgt := 33) hx hb dX4_recordSpare_10 (by decide) (fun c3 => absurd c3 (by decide)) (fun _ => ?_)
  refine lv_aload_n hx hb dX4_recordSpare_13 rfl (lv_at hl 2 rfl) ?_
  refine g_get 1 hx hb hts hown hC hI i_X4 (by decide) (e_gr hG) rfl (by decide) qf_X4_18 rfl rfl dX4_recordSpare_14 ?_
  refine lv_iload_n hx hb dX4_recordSpare_17 rfl (lv_at hl 0 rfl) ?_
  refine lv_aload_n hx hb dX4_recordSpare_18 rfl (lv_at hl 2 rfl) ?_
  refine g_get 1 hx hb hts hown hC hI i_X4 (by decide) (e_gr hG) rfl (by decide) qf_X4_18 rfl rfl dX4_recordSpare_19 ?_
  refine lv_iload_n hx hb dX4_recordSpare_22 rfl (lv_at hl 0 rfl) ?_
  refine lv_iconst (v := 1) hx hb dX4_recordSpare_23 (by decide) ?_
  refine lv_isub hx hb dX4_recordSpare_24 ?_
  refine g_te (y := 1) (by decide) ?_
  refine g_aald 4 1 hx hb hC hI (by decide) e_hi rfl (by unfold vp_in; decide) rfl dX4_recordSpare_25 ?_
  refine g_hast 2 ((va_up P (2 + 3) (P (2 + 2))) (2 + 1)) hx hb hC hI (hPn2 _) (by unfold vp_in; decide) rfl dX4_recordSpare_26 (fun H locs hI => ?_)
  have hPn4 := k_upP (j := 2 + 2) (x := ((va_up P (2 + 3) (P (2 + 2))) (2 + 1))) hPn2 (hPn2 _)
  refine lv_iinc (v := 1) (lv' := [(2, .int 1), (1, .ref (ad (P (2 + 3)) 0)), (0, .ref (ad 6 0))]) hx hb dX4_recordSpare_27 hl (k := 0) rfl (by decide) (by decide) rfl (fun ls hl => ?_)
  refine lv_goto (tgt := 9) hx hb dX4_recordSpare_30 (by decide) ?_
  refine lv_iload_n hx hb dX4_recordSpare_9 rfl (lv_at hl 0 rfl) ?_
  refine lv_if_le (tgt := 33) hx hb dX4_recordSpare_10 (by decide) (fun c5 => absurd c5 (by decide)) (fun _ => ?_)
  refine lv_aload_n hx hb dX4_recordSpare_13 rfl (lv_at hl 2 rfl) ?_
  refine g_get 1 hx hb hts hown hC hI i_X4 (by decide) (e_gr hG) rfl (by decide) qf_X4_18 rfl rfl dX4_recordSpare_14 ?_
  refine lv_iload_n hx hb dX4_recordSpare_17 rfl (lv_at hl 0 rfl) ?_
  refine lv_aload_n hx hb dX4_recordSpare_18 rfl (lv_at hl 2 rfl) ?_
  refine g_get 1 hx hb hts hown hC hI i_X4 (by decide) (e_gr hG) rfl (by decide) qf_X4_18 rfl rfl dX4_recordSpare_19 ?_
  refine lv_iload_n hx hb dX4_recordSpare_22 rfl (lv_at hl 0 rfl) ?_
  refine lv_iconst (v := 1) hx hb dX4_recordSpare_23 (by decide) ?_
  refine lv_isub hx hb dX4_recordSpare_24 ?_
  refine g_te (y := 0) (by decide) ?_
  refine g_aald 4 0 hx hb hC hI (by decide) e_hi rfl (by unfold vp_in; decide) rfl dX4_recordSpare_25 ?_
  refine g_hast 1 ((va_up (va_up P (2 + 3) (P (2 + 2))) (2 + 2) ((va_up P (2 + 3) (P (2 + 2))) (2 + 1))) (2 + 0)) hx hb hC hI (hPn4 _) (by unfold vp_in; decide) rfl dX4_recordSpare_26 (fun H locs hI => ?_)
  have hPn6 := k_upP (j := 2 + 1) (x := ((va_up (va_up P (2 + 3) (P (2 + 2))) (2 + 2) ((va_up P (2 + 3) (P (2 + 2))) (2 + 1))) (2 + 0))) hPn4 (hPn4 _)
  refine lv_iinc (v := 0) (lv' := [(2, .int 0), (1, .ref (ad (P (2 + 3)) 0)), (0, .ref (ad 6 0))]) hx hb dX4_recordSpare_27 hl (k := 0) rfl (by decide) (by decide) rfl (fun ls hl => ?_)
  refine lv_goto (tgt := 9) hx hb dX4_recordSpare_30 (by decide) ?_
  refine lv_iload_n hx hb dX4_recordSpare_9 rfl (lv_at hl 0 rfl) ?_
  refine lv_if_le (tgt := 33) hx hb dX4_recordSpare_10 (by decide) (fun _ => ?_) (fun c7 => absurd c7 (by decide))
  refine lv_aload_n hx hb dX4_recordSpare_33 rfl (lv_at hl 2 rfl) ?_
  refine g_get 1 hx hb hts hown hC hI i_X4 (by decide) (e_gr hG) rfl (by decide) qf_X4_18 rfl rfl dX4_recordSpare_34 ?_
  refine lv_iconst (v := 0) hx hb dX4_recordSpare_37 (by decide) ?_
  refine lv_aload_n hx hb dX4_recordSpare_38 rfl (lv_at hl 2 rfl) ?_
  refine g_get 4 hx hb hts hown hC hI i_X4 (by decide) (e_gr hG) rfl (by decide) qf_X4_27 rfl rfl dX4_recordSpare_39 ?_
  refine g_hast 0 ((va_up (va_up (va_up P (2 + 3) (P (2 + 2))) (2 + 2) ((va_up P (2 + 3) (P (2 + 2))) (2 + 1))) (2 + 1) ((va_up (va_up P (2 + 3) (P (2 + 2))) (2 + 2) ((va_up P (2 + 3) (P (2 + 2))) (2 + 1))) (2 + 0))) 1) hx hb hC hI (hPn6 1) (by unfold vp_in; decide) rfl dX4_recordSpare_42 (fun H locs hI => ?_)
  have hPn8 := k_upP (j := 2 + 0) (x := ((va_up (va_up (va_up P (2 + 3) (P (2 + 2))) (2 + 2) ((va_up P (2 + 3) (P (2 + 2))) (2 + 1))) (2 + 1) ((va_up (va_up P (2 + 3) (P (2 + 2))) (2 + 2) ((va_up P (2 + 3) (P (2 + 2))) (2 + 1))) (2 + 0))) 1)) hPn6 (hPn6 1)
  refine lv_aload_n hx hb dX4_recordSpare_43 rfl (lv_at hl 2 rfl) ?_
  refine lv_aload_n hx hb dX4_recordSpare_44 rfl (lv_at hl 1 rfl) ?_
  refine g_pput 1 (P (2 + 3)) (by decide) hx hb hts hown hC hI qf_X4_27 dX4_recordSpare_45 (fun H locs hI => ?_)
  have hPn9 := k_upP (j := 1) (x := (P (2 + 3))) hPn8 (hP _)
  refine lv_aload_n hx hb dX4_recordSpare_48 rfl (lv_at hl 2 rfl) ?_
  refine g_get 2 hx hb hts hown hC hI i_X4 (by decide) (e_gr hG) rfl (by decide) qf_X4_100 rfl rfl dX4_recordSpare_49 ?_
  refine lv_iconst (v := 4) hx hb dX4_recordSpare_52 (by decide) ?_
  refine lv_icmp_ge (tgt := 66) hx hb dX4_recordSpare_53 (by decide) (fun c10 => ?_) (fun c10 => ?_)
  · exact g_vr hQ hx hb hr0 hlk hC hI dX4_recordSpare_66 (by unfold q_recP; with_reducible rfl) (by unfold q_histUp; (first | rw [if_pos c10] | rw [if_neg c10] | skip); try first | with_reducible rfl | exact (k_eta hG).symm)
  · refine lv_aload_n hx hb dX4_recordSpare_56 rfl (lv_at hl 2 rfl) ?_
    refine lv_dup hx hb dX4_recordSpare_57 rfl ?_
    refine g_get 2 hx hb hts hown hC hI i_X4 (by decide) (e_gr hG) rfl (by decide) qf_X4_100 rfl rfl dX4_recordSpare_58 ?_
    refine lv_iconst (v := 1) hx hb dX4_recordSpare_61 (by decide) ?_
    refine lv_iadd hx hb dX4_recordSpare_62 ?_
    rw [← k_eta (M := M) hG] at hI
    refine g_put 2 (ty := .int) hx hb hts hown hC hI i_X4 tyX4_ok nmX4 (by decide) (e_gr g_us) rfl (by decide) qf_X4_100 rfl rfl rfl rfl rfl (Nat.le_of_ble_eq_true rfl) p_gr g_hs dX4_recordSpare_63 (fun H locs hI => ?_)
    exact g_vr hQ hx hb hr0 hlk hC hI dX4_recordSpare_66 (by unfold q_recP; with_reducible rfl) (by unfold q_histUp; (first | rw [if_pos c10] | rw [if_neg c10] | skip); try first | with_reducible rfl | exact (k_eta hG).symm)
abbrev rm_X4_recorded : Room := { frames := 1, cells := 0, slots := 0, locals := 22 }
set_option maxHeartbeats 800000 in
set_option maxRecDepth 100000 in
theorem c_X4_recorded (l : Launch) (D : va_G) (tb : g_T) (ad : g_Ad) (hj : g_inj ad) (P : g_P) (M : g_M) (x : Int32) (hP : ∀ i, P i < 6) (G : g_V) (hG : M 6 = G) : g_Ci l yX4_recorded cX4_recorded 2 (some .int) rm_X4_recorded D tb ad [.ref (ad 6 0), .int x] P (M) x (q_recdP x P) (va_up M 6 (q_recdG x G)) := by
  refine g_go (by decide) (Nat.le_of_ble_eq_true rfl) hj ?_
  intro p e s m below meth c ls H locs R args Q hR0 hQ hx hb hml hr0 hlk hown hts hC hI hl
  subst hR0
  have hown : s.vm.findClass RX4 = some m.cls := hown
  have hl : lv_has ls 2 [(0, .ref (ad 6 0)), (1, .int x)] := hl
  refine lv_iload_n hx hb dX4_recorded_0 rfl (lv_at hl 1 rfl) ?_
  refine g_callSi (rest := []) (c_X4_isError l D tb ad hj P M x) rfl rfl gm_X4_isError hx hb hml hown hts hC hI qm_X4_134 rfl hl.1 rfl ⟨rfl, rfl, by decide, by decide⟩ (Nat.le_of_ble_eq_true rfl) ⟨Nat.zero_le _, Nat.zero_le _⟩ dX4_recorded_1 (fun H locs hI => ?_)
  refine g_tf (fun c1 => ?_) (fun c1 => ?_)
  · refine lv_if_ne (tgt := 11) hx hb dX4_recorded_4 (by decide) (fun _ => ?_) (fun c2 => absurd c2 (by decide))
    refine lv_iload_n hx hb dX4_recorded_11 rfl (lv_at hl 1 rfl) ?_
    exact g_ir hQ hx hb hr0 hlk hC hI dX4_recorded_12 rfl (by rfl) (by unfold q_recdP; (first | rw [if_pos c1] | rw [if_neg c1] | skip); try with_reducible rfl) (by unfold q_recdG; (first | rw [if_pos c1] | rw [if_neg c1] | skip); try first | with_reducible rfl | exact (k_eta hG).symm)
  · refine lv_if_ne (tgt := 11) hx hb dX4_recorded_4 (by decide) (fun c3 => absurd c3 (by decide)) (fun _ => ?_)
    refine lv_aload_n hx hb dX4_recorded_7 rfl (lv_at hl 0 rfl) ?_
    refine g_callVv (rest := []) (c_X4_recordSpare l D tb ad hj P M (by first | assumption | omega) G hG) rfl rfl gm_X4_recordSpare hx hb hml hown hts hC hI (by decide) (e_gr hG) rfl rfl qm_X4_128 rfl hl.1 rfl ⟨rfl, rfl, by decide, by decide⟩ (Nat.le_of_ble_eq_true rfl) ⟨Nat.zero_le _, Nat.zero_le _⟩ dX4_recorded_8 (fun H locs hI => ?_)
    have hPq8 := q_recP_lt hP
    refine lv_iload_n hx hb dX4_recorded_11 rfl (lv_at hl 1 rfl) ?_
    exact g_ir hQ hx hb hr0 hlk hC hI dX4_recorded_12 rfl (by rfl) (by unfold q_recdP; (first | rw [if_pos c1] | rw [if_neg c1] | skip); try with_reducible rfl) (by unfold q_recdG; (first | rw [if_pos c1] | rw [if_neg c1] | skip); try first | with_reducible rfl | exact (k_eta hG).symm)
abbrev rm_X4_undo : Room := { frames := 0, cells := 0, slots := 0, locals := 0 }
set_option maxHeartbeats 800000 in
set_option maxRecDepth 100000 in
theorem c_X4_undo (l : Launch) (D : va_G) (tb : g_T) (ad : g_Ad) (hj : g_inj ad) (P : g_P) (M : g_M) (hP : ∀ i, P i < 6) (G : g_V) (hG : M 6 = G) : g_Ci l yX4_undo cX4_undo 3 (some .int) rm_X4_undo D tb ad [.ref (ad 6 0)] P (M) (if 0 < G 0 2 then G 0 2 - 1 else -2000000002) (if 0 < G 0 2 then q_undoP P else P) (va_up M 6 (if 0 < G 0 2 then g_w2 G 0 2 (G 0 2 - 1) else G)) := by
  refine g_go (by decide) (Nat.le_of_ble_eq_true rfl) hj ?_
  intro p e s m below meth c ls H locs R args Q hR0 hQ hx hb hml hr0 hlk hown hts hC hI hl
  subst hR0
  have hown : s.vm.findClass RX4 = some m.cls := hown
  have hl : lv_has ls 3 [(0, .ref (ad 6 0))] := hl
  refine lv_aload_n hx hb dX4_undo_0 rfl (lv_at hl 0 rfl) ?_
  refine g_get 2 hx hb hts hown hC hI i_X4 (by decide) (e_gr hG) rfl (by decide) qf_X4_100 rfl rfl dX4_undo_1 ?_
  refine lv_if_gt (tgt := 10) hx hb dX4_undo_4 (by decide) (fun c1 => ?_) (fun c1 => ?_)
  · refine lv_aload_n hx hb dX4_undo_10 rfl (lv_at hl 0 rfl) ?_
    refine g_get 3 hx hb hts hown hC hI i_X4 (by decide) (e_gr hG) rfl (by decide) qf_X4_23 rfl rfl dX4_undo_11 ?_
    refine lv_astore_n (lv' := [(1, .ref (ad (P 0) 0)), (0, .ref (ad 6 0))]) hx hb dX4_undo_14 rfl hl (by decide) rfl (fun ls hl => ?_)
    refine lv_aload_n hx hb dX4_undo_15 rfl (lv_at hl 1 rfl) ?_
    refine lv_aload_n hx hb dX4_undo_16 rfl (lv_at hl 1 rfl) ?_
    refine g_get 1 hx hb hts hown hC hI i_X4 (by decide) (e_gr hG) rfl (by decide) qf_X4_18 rfl rfl dX4_undo_17 ?_
    refine lv_iconst (v := 0) hx hb dX4_undo_20 (by decide) ?_
    refine g_aald 4 0 hx hb hC hI (by decide) e_hi rfl (by unfold vp_in; decide) rfl dX4_undo_21 ?_
    refine g_pput 0 (P (2 + 0)) (by decide) hx hb hts hown hC hI qf_X4_23 dX4_undo_22 (fun H locs hI => ?_)
    have hPn2 := k_upP (j := 0) (x := (P (2 + 0))) hP (hP _)
    refine lv_iconst (v := 0) hx hb dX4_undo_25 (by decide) ?_
    refine lv_istore_n (lv' := [(2, .int 0), (1, .ref (ad (P 0) 0)), (0, .ref (ad 6 0))]) hx hb dX4_undo_26 rfl hl (by decide) rfl (fun ls hl => ?_)
    refine lv_iload_n hx hb dX4_undo_27 rfl (lv_at hl 0 rfl) ?_
    refine lv_iconst (v := 1) hx hb dX4_undo_28 (by decide) ?_
    refine lv_iadd hx hb dX4_undo_29 ?_
    refine g_te (y := 1) (by decide) ?_
    refine lv_iconst (v := 4) hx hb dX4_undo_30 (by decide) ?_
    refine lv_icmp_ge (tgt := 54) hx hb dX4_undo_31 (by decide) (fun c3 => absurd c3 (by decide)) (fun _ => ?_)
    refine lv_aload_n hx hb dX4_undo_34 rfl (lv_at hl 2 rfl) ?_
    refine g_get 1 hx hb hts hown hC hI i_X4 (by decide) (e_gr hG) rfl (by decide) qf_X4_18 rfl rfl dX4_undo_35 ?_
    refine lv_iload_n hx hb dX4_undo_38 rfl (lv_at hl 0 rfl) ?_
    refine lv_aload_n hx hb dX4_undo_39 rfl (lv_at hl 2 rfl) ?_
    refine g_get 1 hx hb hts hown hC hI i_X4 (by decide) (e_gr hG) rfl (by decide) qf_X4_18 rfl rfl dX4_undo_40 ?_
    refine lv_iload_n hx hb dX4_undo_43 rfl (lv_at hl 0 rfl) ?_
    refine lv_iconst (v := 1) hx hb dX4_undo_44 (by decide) ?_
    refine lv_iadd hx hb dX4_undo_45 ?_
    refine g_te (y := 1) (by decide) ?_
    refine g_aald 4 1 hx hb hC hI (by decide) e_hi rfl (by unfold vp_in; decide) rfl dX4_undo_46 ?_
    refine g_hast 0 ((va_up P 0 (P (2 + 0))) (2 + 1)) hx hb hC hI (hPn2 _) (by unfold vp_in; decide) rfl dX4_undo_47 (fun H locs hI => ?_)
    have hPn4 := k_upP (j := 2 + 0) (x := ((va_up P 0 (P (2 + 0))) (2 + 1))) hPn2 (hPn2 _)
    refine lv_iinc (v := 1) (lv' := [(2, .int 1), (1, .ref (ad (P 0) 0)), (0, .ref (ad 6 0))]) hx hb dX4_undo_48 hl (k := 0) rfl (by decide) (by decide) rfl (fun ls hl => ?_)
    refine lv_goto (tgt := 27) hx hb dX4_undo_51 (by decide) ?_
    refine lv_iload_n hx hb dX4_undo_27 rfl (lv_at hl 0 rfl) ?_
    refine lv_iconst (v := 1) hx hb dX4_undo_28 (by decide) ?_
    refine lv_iadd hx hb dX4_undo_29 ?_
    refine g_te (y := 2) (by decide) ?_
    refine lv_iconst (v := 4) hx hb dX4_undo_30 (by decide) ?_
    refine lv_icmp_ge (tgt := 54) hx hb dX4_undo_31 (by decide) (fun c5 => absurd c5 (by decide)) (fun _ => ?_)
    refine lv_aload_n hx hb dX4_undo_34 rfl (lv_at hl 2 rfl) ?_
    refine g_get 1 hx hb hts hown hC hI i_X4 (by decide) (e_gr hG) rfl (by decide) qf_X4_18 rfl rfl dX4_undo_35 ?_
    refine lv_iload_n hx hb dX4_undo_38 rfl (lv_at hl 0 rfl) ?_
    refine lv_aload_n hx hb dX4_undo_39 rfl (lv_at hl 2 rfl) ?_
    refine g_get 1 hx hb hts hown hC hI i_X4 (by decide) (e_gr hG) rfl (by decide) qf_X4_18 rfl rfl dX4_undo_40 ?_
    refine lv_iload_n hx hb dX4_undo_43 rfl (lv_at hl 0 rfl) ?_
    refine lv_iconst (v := 1) hx hb dX4_undo_44 (by decide) ?_
    refine lv_iadd hx hb dX4_undo_45 ?_
    refine g_te (y := 2) (by decide) ?_
    refine g_aald 4 2 hx hb hC hI (by decide) e_hi rfl (by unfold vp_in; decide) rfl dX4_undo_46 ?_
    refine g_hast 1 ((va_up (va_up P 0 (P (2 + 0))) (2 + 0) ((va_up P 0 (P (2 + 0))) (2 + 1))) (2 + 2)) hx hb hC hI (hPn4 _) (by unfold vp_in; decide) rfl dX4_undo_47 (fun H locs hI => ?_)
    have hPn6 := k_upP (j := 2 + 1) (x := ((va_up (va_up P 0 (P (2 + 0))) (2 + 0) ((va_up P 0 (P (2 + 0))) (2 + 1))) (2 + 2))) hPn4 (hPn4 _)
    refine lv_iinc (v := 2) (lv' := [(2, .int 2), (1, .ref (ad (P 0) 0)), (0, .ref (ad 6 0))]) hx hb dX4_undo_48 hl (k := 0) rfl (by decide) (by decide) rfl (fun ls hl => ?_)
    refine lv_goto (tgt := 27) hx hb dX4_undo_51 (by decide) ?_
    refine lv_iload_n hx hb dX4_undo_27 rfl (lv_at hl 0 rfl) ?_
    refine lv_iconst (v := 1) hx hb dX4_undo_28 (by decide) ?_
    refine lv_iadd hx hb dX4_undo_29 ?_
    refine g_te (y := 3) (by decide) ?_
    refine lv_iconst (v := 4) hx hb dX4_undo_30 (by decide) ?_
    refine lv_icmp_ge (tgt := 54) hx hb dX4_undo_31 (by decide) (fun c7 => absurd c7 (by decide)) (fun _ => ?_)
    refine lv_aload_n hx hb dX4_undo_34 rfl (lv_at hl 2 rfl) ?_
    refine g_get 1 hx hb hts hown hC hI i_X4 (by decide) (e_gr hG) rfl (by decide) qf_X4_18 rfl rfl dX4_undo_35 ?_
    refine lv_iload_n hx hb dX4_undo_38 rfl (lv_at hl 0 rfl) ?_
    refine lv_aload_n hx hb dX4_undo_39 rfl (lv_at hl 2 rfl) ?_
    refine g_get 1 hx hb hts hown hC hI i_X4 (by decide) (e_gr hG) rfl (by decide) qf_X4_18 rfl rfl dX4_undo_40 ?_
    refine lv_iload_n hx hb dX4_undo_43 rfl (lv_at hl 0 rfl) ?_
    refine lv_iconst (v := 1) hx hb dX4_undo_44 (by decide) ?_
    refine lv_iadd hx hb dX4_undo_45 ?_
    refine g_te (y := 3) (by decide) ?_
    refine g_aald 4 3 hx hb hC hI (by decide) e_hi rfl (by unfold vp_in; decide) rfl dX4_undo_46 ?_
    refine g_hast 2 ((va_up (va_up (va_up P 0 (P (2 + 0))) (2 + 0) ((va_up P 0 (P (2 + 0))) (2 + 1))) (2 + 1) ((va_up (va_up P 0 (P (2 + 0))) (2 + 0) ((va_up P 0 (P (2 + 0))) (2 + 1))) (2 + 2))) (2 + 3)) hx hb hC hI (hPn6 _) (by unfold vp_in; decide) rfl dX4_undo_47 (fun H locs hI => ?_)
    have hPn8 := k_upP (j := 2 + 2) (x := ((va_up (va_up (va_up P 0 (P (2 + 0))) (2 + 0) ((va_up P 0 (P (2 + 0))) (2 + 1))) (2 + 1) ((va_up (va_up P 0 (P (2 + 0))) (2 + 0) ((va_up P 0 (P (2 + 0))) (2 + 1))) (2 + 2))) (2 + 3))) hPn6 (hPn6 _)
    refine lv_iinc (v := 3) (lv' := [(2, .int 3), (1, .ref (ad (P 0) 0)), (0, .ref (ad 6 0))]) hx hb dX4_undo_48 hl (k := 0) rfl (by decide) (by decide) rfl (fun ls hl => ?_)
    refine lv_goto (tgt := 27) hx hb dX4_undo_51 (by decide) ?_
    refine lv_iload_n hx hb dX4_undo_27 rfl (lv_at hl 0 rfl) ?_
    refine lv_iconst (v := 1) hx hb dX4_undo_28 (by decide) ?_
    refine lv_iadd hx hb dX4_undo_29 ?_
    refine g_te (y := 4) (by decide) ?_
    refine lv_iconst (v := 4) hx hb dX4_undo_30 (by decide) ?_
    refine lv_icmp_ge (tgt := 54) hx hb dX4_undo_31 (by decide) (fun _ => ?_) (fun c9 => absurd c9 (by decide))
    refine lv_aload_n hx hb dX4_undo_54 rfl (lv_at hl 2 rfl) ?_
    refine g_get 1 hx hb hts hown hC hI i_X4 (by decide) (e_gr hG) rfl (by decide) qf_X4_18 rfl rfl dX4_undo_55 ?_
    refine lv_iconst (v := 3) hx hb dX4_undo_58 (by decide) ?_
    refine lv_aload_n hx hb dX4_undo_59 rfl (lv_at hl 1 rfl) ?_
    refine g_hast 3 (P 0) hx hb hC hI (hP 0) (by unfold vp_in; decide) rfl dX4_undo_60 (fun H locs hI => ?_)
    have hPn10 := k_upP (j := 2 + 3) (x := (P 0)) hPn8 (hP 0)
    refine lv_aload_n hx hb dX4_undo_61 rfl (lv_at hl 2 rfl) ?_
    refine lv_dup hx hb dX4_undo_62 rfl ?_
    refine g_get 2 hx hb hts hown hC hI i_X4 (by decide) (e_gr hG) rfl (by decide) qf_X4_100 rfl rfl dX4_undo_63 ?_
    refine lv_iconst (v := 1) hx hb dX4_undo_66 (by decide) ?_
    refine lv_isub hx hb dX4_undo_67 ?_
    rw [← k_eta (M := M) hG] at hI
    refine g_put 2 (ty := .int) hx hb hts hown hC hI i_X4 tyX4_ok nmX4 (by decide) (e_gr g_us) rfl (by decide) qf_X4_100 rfl rfl rfl rfl rfl (Nat.le_of_ble_eq_true rfl) p_gr g_hs dX4_undo_68 (fun H locs hI => ?_)
    refine lv_aload_n hx hb dX4_undo_71 rfl (lv_at hl 2 rfl) ?_
    refine g_get 2 hx hb hts hown hC hI i_X4 (by decide) (e_gr g_us) rfl (by decide) qf_X4_100 rfl rfl dX4_undo_72 ?_
    exact g_ir hQ hx hb hr0 hlk hC hI dX4_undo_75 rfl (by (first | rw [if_pos c1] | rw [if_neg c1] | skip); try rfl) (by (try unfold q_undoP); (first | rw [if_pos c1] | rw [if_neg c1] | skip); try with_reducible rfl) (by (first | rw [if_pos c1] | rw [if_neg c1] | skip); try first | with_reducible rfl | exact (k_eta hG).symm)
  · refine lv_ldc (v := (-2000000002)) hx hb hown (hts _ qc_X4_110) dX4_undo_7 ?_
    exact g_ir hQ hx hb hr0 hlk hC hI dX4_undo_9 rfl (by (first | rw [if_pos c1] | rw [if_neg c1] | skip); try rfl) (by (try unfold q_undoP); (first | rw [if_pos c1] | rw [if_neg c1] | skip); try with_reducible rfl) (by (first | rw [if_pos c1] | rw [if_neg c1] | skip); try first | with_reducible rfl | exact (k_eta hG).symm)
abbrev rm_X4_receipt : Room := { frames := 3, cells := 0, slots := 0, locals := 71 }
set_option maxHeartbeats 800000 in
set_option maxRecDepth 100000 in
theorem c_X4_receipt (l : Launch) (D : va_G) (tb : g_T) (ad : g_Ad) (hj : g_inj ad) (P : g_P) (M : g_M) (x : Int32) (hP : ∀ i, P i < 6) (V : g_V) (hV : M (P 0) = V) : g_Ci l yX4_receipt cX4_receipt 2 (some .int) rm_X4_receipt D tb ad [.ref (ad 6 0), .int x] P (M) (q_numberAt V x) P (M) := by
  refine g_go (by decide) (Nat.le_of_ble_eq_true rfl) hj ?_
  intro p e s m below meth c ls H locs R args Q hR0 hQ hx hb hml hr0 hlk hown hts hC hI hl
  subst hR0
  have hown : s.vm.findClass RX4 = some m.cls := hown
  have hl : lv_has ls 2 [(0, .ref (ad 6 0)), (1, .int x)] := hl
  refine lv_aload_n hx hb dX4_receipt_0 rfl (lv_at hl 0 rfl) ?_
  refine g_get 3 hx hb hts hown hC hI i_X4 (by decide) (e_gr rfl) rfl (by decide) qf_X4_23 rfl rfl dX4_receipt_1 ?_
  refine lv_iload_n hx hb dX4_receipt_4 rfl (lv_at hl 1 rfl) ?_
  refine g_callVi (rest := []) (c_X3_numberAt l D tb ad hj P M (P 0) (hP 0) V x) rfl (k_eta hV) gm_X3_numberAt hx hb hml hown hts hC hI (ok_c 0 (hP 0) (by decide)) (e_st (hP 0) hV) rfl rfl qm_X4_82 rfl hl.1 rfl ⟨rfl, rfl, by decide, by decide⟩ (Nat.le_of_ble_eq_true rfl) ⟨Nat.zero_le _, Nat.zero_le _⟩ dX4_receipt_5 (fun H locs hI => ?_)
  rw [k_eta hV] at hI
  exact g_ir hQ hx hb hr0 hlk hC hI dX4_receipt_8 rfl (by rfl) rfl rfl
abbrev rm_X4_binOf : Room := { frames := 5, cells := 0, slots := 0, locals := 113 }
set_option maxHeartbeats 800000 in
set_option maxRecDepth 100000 in
theorem c_X4_binOf (l : Launch) (D : va_G) (tb : g_T) (ad : g_Ad) (hj : g_inj ad) (P : g_P) (M : g_M) (x : Int32) (w : Int32) (hP : ∀ i, P i < 6) (V : g_V) (hV : M (P 0) = V) (hOk : q_okG V) : g_Ci l yX4_binOf cX4_binOf 3 (some .int) rm_X4_binOf D tb ad [.ref (ad 6 0), .int x, .int w] P (M) (q_tellBin V x w) P (M) := by
  refine g_go (by decide) (Nat.le_of_ble_eq_true rfl) hj ?_
  intro p e s m below meth c ls H locs R args Q hR0 hQ hx hb hml hr0 hlk hown hts hC hI hl
  subst hR0
  have hown : s.vm.findClass RX4 = some m.cls := hown
  have hl : lv_has ls 3 [(0, .ref (ad 6 0)), (1, .int x), (2, .int w)] := hl
  refine lv_aload_n hx hb dX4_binOf_0 rfl (lv_at hl 0 rfl) ?_
  refine g_get 3 hx hb hts hown hC hI i_X4 (by decide) (e_gr rfl) rfl (by decide) qf_X4_23 rfl rfl dX4_binOf_1 ?_
  refine lv_iload_n hx hb dX4_binOf_4 rfl (lv_at hl 1 rfl) ?_
  refine lv_iload_n hx hb dX4_binOf_5 rfl (lv_at hl 2 rfl) ?_
  refine g_callVi (rest := []) (c_X3_tellBin l D tb ad hj P M (P 0) (hP 0) V x w hOk) rfl (k_eta hV) gm_X3_tellBin hx hb hml hown hts hC hI (ok_c 0 (hP 0) (by decide)) (e_st (hP 0) hV) rfl rfl qm_X4_85 rfl hl.1 rfl ⟨rfl, rfl, by decide, by decide⟩ (Nat.le_of_ble_eq_true rfl) ⟨Nat.zero_le _, Nat.zero_le _⟩ dX4_binOf_6 (fun H locs hI => ?_)
  rw [k_eta hV] at hI
  exact g_ir hQ hx hb hr0 hlk hC hI dX4_binOf_9 rfl (by rfl) rfl rfl
abbrev rm_X4_gradeOf : Room := { frames := 4, cells := 0, slots := 0, locals := 90 }
set_option maxHeartbeats 800000 in
set_option maxRecDepth 100000 in
theorem c_X4_gradeOf (l : Launch) (D : va_G) (tb : g_T) (ad : g_Ad) (hj : g_inj ad) (P : g_P) (M : g_M) (x : Int32) (w : Int32) (hP : ∀ i, P i < 6) (V : g_V) (hV : M (P 0) = V) : g_Ci l yX4_gradeOf cX4_gradeOf 3 (some .int) rm_X4_gradeOf D tb ad [.ref (ad 6 0), .int x, .int w] P (M) (q_tellGrade V x w) P (M) := by
  refine g_go (by decide) (Nat.le_of_ble_eq_true rfl) hj ?_
  intro p e s m below meth c ls H locs R args Q hR0 hQ hx hb hml hr0 hlk hown hts hC hI hl
  subst hR0
  have hown : s.vm.findClass RX4 = some m.cls := hown
  have hl : lv_has ls 3 [(0, .ref (ad 6 0)), (1, .int x), (2, .int w)] := hl
  refine lv_aload_n hx hb dX4_gradeOf_0 rfl (lv_at hl 0 rfl) ?_
  refine g_get 3 hx hb hts hown hC hI i_X4 (by decide) (e_gr rfl) rfl (by decide) qf_X4_23 rfl rfl dX4_gradeOf_1 ?_
  refine lv_iload_n hx hb dX4_gradeOf_4 rfl (lv_at hl 1 rfl) ?_
  refine lv_iload_n hx hb dX4_gradeOf_5 rfl (lv_at hl 2 rfl) ?_
  refine g_callVi (rest := []) (c_X3_tellGrade l D tb ad hj P M (P 0) (hP 0) V x w) rfl (k_eta hV) gm_X3_tellGrade hx hb hml hown hts hC hI (ok_c 0 (hP 0) (by decide)) (e_st (hP 0) hV) rfl rfl qm_X4_88 rfl hl.1 rfl ⟨rfl, rfl, by decide, by decide⟩ (Nat.le_of_ble_eq_true rfl) ⟨Nat.zero_le _, Nat.zero_le _⟩ dX4_gradeOf_6 (fun H locs hI => ?_)
  rw [k_eta hV] at hI
  exact g_ir hQ hx hb hr0 hlk hC hI dX4_gradeOf_9 rfl (by rfl) rfl rfl
abbrev rm_X4_ownerOf : Room := { frames := 3, cells := 0, slots := 0, locals := 71 }
set_option maxHeartbeats 800000 in
set_option maxRecDepth 100000 in
theorem c_X4_ownerOf (l : Launch) (D : va_G) (tb : g_T) (ad : g_Ad) (hj : g_inj ad) (P : g_P) (M : g_M) (x : Int32) (w : Int32) (hP : ∀ i, P i < 6) (V : g_V) (hV : M (P 0) = V) : g_Ci l yX4_ownerOf cX4_ownerOf 3 (some .int) rm_X4_ownerOf D tb ad [.ref (ad 6 0), .int x, .int w] P (M) (q_tellOwner V x w) P (M) := by
  refine g_go (by decide) (Nat.le_of_ble_eq_true rfl) hj ?_
  intro p e s m below meth c ls H locs R args Q hR0 hQ hx hb hml hr0 hlk hown hts hC hI hl
  subst hR0
  have hown : s.vm.findClass RX4 = some m.cls := hown
  have hl : lv_has ls 3 [(0, .ref (ad 6 0)), (1, .int x), (2, .int w)] := hl
  refine lv_aload_n hx hb dX4_ownerOf_0 rfl (lv_at hl 0 rfl) ?_
  refine g_get 3 hx hb hts hown hC hI i_X4 (by decide) (e_gr rfl) rfl (by decide) qf_X4_23 rfl rfl dX4_ownerOf_1 ?_
  refine lv_iload_n hx hb dX4_ownerOf_4 rfl (lv_at hl 1 rfl) ?_
  refine lv_iload_n hx hb dX4_ownerOf_5 rfl (lv_at hl 2 rfl) ?_
  refine g_callVi (rest := []) (c_X3_tellOwner l D tb ad hj P M (P 0) (hP 0) V x w) rfl (k_eta hV) gm_X3_tellOwner hx hb hml hown hts hC hI (ok_c 0 (hP 0) (by decide)) (e_st (hP 0) hV) rfl rfl qm_X4_91 rfl hl.1 rfl ⟨rfl, rfl, by decide, by decide⟩ (Nat.le_of_ble_eq_true rfl) ⟨Nat.zero_le _, Nat.zero_le _⟩ dX4_ownerOf_6 (fun H locs hI => ?_)
  rw [k_eta hV] at hI
  exact g_ir hQ hx hb hr0 hlk hC hI dX4_ownerOf_9 rfl (by rfl) rfl rfl
abbrev rm_X4_lenderOf : Room := { frames := 3, cells := 0, slots := 0, locals := 75 }
set_option maxHeartbeats 800000 in
set_option maxRecDepth 100000 in
theorem c_X4_lenderOf (l : Launch) (D : va_G) (tb : g_T) (ad : g_Ad) (hj : g_inj ad) (P : g_P) (M : g_M) (x : Int32) (w : Int32) (hP : ∀ i, P i < 6) (V : g_V) (hV : M (P 0) = V) : g_Ci l yX4_lenderOf cX4_lenderOf 3 (some .int) rm_X4_lenderOf D tb ad [.ref (ad 6 0), .int x, .int w] P (M) (q_tellLender V x w) P (M) := by
  refine g_go (by decide) (Nat.le_of_ble_eq_true rfl) hj ?_
  intro p e s m below meth c ls H locs R args Q hR0 hQ hx hb hml hr0 hlk hown hts hC hI hl
  subst hR0
  have hown : s.vm.findClass RX4 = some m.cls := hown
  have hl : lv_has ls 3 [(0, .ref (ad 6 0)), (1, .int x), (2, .int w)] := hl
  refine lv_aload_n hx hb dX4_lenderOf_0 rfl (lv_at hl 0 rfl) ?_
  refine g_get 3 hx hb hts hown hC hI i_X4 (by decide) (e_gr rfl) rfl (by decide) qf_X4_23 rfl rfl dX4_lenderOf_1 ?_
  refine lv_iload_n hx hb dX4_lenderOf_4 rfl (lv_at hl 1 rfl) ?_
  refine lv_iload_n hx hb dX4_lenderOf_5 rfl (lv_at hl 2 rfl) ?_
  refine g_callVi (rest := []) (c_X3_tellLender l D tb ad hj P M (P 0) (hP 0) V x w) rfl (k_eta hV) gm_X3_tellLender hx hb hml hown hts hC hI (ok_c 0 (hP 0) (by decide)) (e_st (hP 0) hV) rfl rfl qm_X4_94 rfl hl.1 rfl ⟨rfl, rfl, by decide, by decide⟩ (Nat.le_of_ble_eq_true rfl) ⟨Nat.zero_le _, Nat.zero_le _⟩ dX4_lenderOf_6 (fun H locs hI => ?_)
  rw [k_eta hV] at hI
  exact g_ir hQ hx hb hr0 hlk hC hI dX4_lenderOf_9 rfl (by rfl) rfl rfl
abbrev rm_X4_fallTo : Room := { frames := 3, cells := 0, slots := 0, locals := 70 }
set_option maxHeartbeats 800000 in
set_option maxRecDepth 100000 in
theorem c_X4_fallTo (l : Launch) (D : va_G) (tb : g_T) (ad : g_Ad) (hj : g_inj ad) (P : g_P) (M : g_M) (x : Int32) (hP : ∀ i, P i < 6) (V : g_V) (hV : M (P 0) = V) : g_Ci l yX4_fallTo cX4_fallTo 2 (some .int) rm_X4_fallTo D tb ad [.ref (ad 6 0), .int x] P (M) (q_fallTo V x) P (M) := by
  refine g_go (by decide) (Nat.le_of_ble_eq_true rfl) hj ?_
  intro p e s m below meth c ls H locs R args Q hR0 hQ hx hb hml hr0 hlk hown hts hC hI hl
  subst hR0
  have hown : s.vm.findClass RX4 = some m.cls := hown
  have hl : lv_has ls 2 [(0, .ref (ad 6 0)), (1, .int x)] := hl
  refine lv_aload_n hx hb dX4_fallTo_0 rfl (lv_at hl 0 rfl) ?_
  refine g_get 3 hx hb hts hown hC hI i_X4 (by decide) (e_gr rfl) rfl (by decide) qf_X4_23 rfl rfl dX4_fallTo_1 ?_
  refine lv_iload_n hx hb dX4_fallTo_4 rfl (lv_at hl 1 rfl) ?_
  refine g_callVi (rest := []) (c_X3_greatestCallingPrice l D tb ad hj P M (P 0) (hP 0) V x) rfl (k_eta hV) gm_X3_greatestCallingPrice hx hb hml hown hts hC hI (ok_c 0 (hP 0) (by decide)) (e_st (hP 0) hV) rfl rfl qm_X4_97 rfl hl.1 rfl ⟨rfl, rfl, by decide, by decide⟩ (Nat.le_of_ble_eq_true rfl) ⟨Nat.zero_le _, Nat.zero_le _⟩ dX4_fallTo_5 (fun H locs hI => ?_)
  rw [k_eta hV] at hI
  exact g_ir hQ hx hb hr0 hlk hC hI dX4_fallTo_8 rfl (by rfl) rfl rfl
abbrev rm_X4_count : Room := { frames := 3, cells := 0, slots := 0, locals := 68 }
set_option maxHeartbeats 800000 in
set_option maxRecDepth 100000 in
theorem c_X4_count (l : Launch) (D : va_G) (tb : g_T) (ad : g_Ad) (hj : g_inj ad) (P : g_P) (M : g_M) (x : Int32) (hP : ∀ i, P i < 6) (V : g_V) (hV : M (P 0) = V) (G : g_V) (hG : M 6 = G) : g_Ci l yX4_count cX4_count 2 (some .int) rm_X4_count D tb ad [.ref (ad 6 0), .int x] P (M) (if x = 8 then G 0 2 else if x = 9 then G 1 2 else q_tellNumber V x) P (M) := by
  refine g_go (by decide) (Nat.le_of_ble_eq_true rfl) hj ?_
  intro p e s m below meth c ls H locs R args Q hR0 hQ hx hb hml hr0 hlk hown hts hC hI hl
  subst hR0
  have hown : s.vm.findClass RX4 = some m.cls := hown
  have hl : lv_has ls 2 [(0, .ref (ad 6 0)), (1, .int x)] := hl
  refine lv_iload_n hx hb dX4_count_0 rfl (lv_at hl 1 rfl) ?_
  by_cases c1 : x = 8
  · refine lv_lookup (tgt := 28) (off := 27) hx hb dX4_count_1 (by decide) (by rw [c1] <;> rfl) (by decide) ?_
    refine lv_aload_n hx hb dX4_count_28 rfl (lv_at hl 0 rfl) ?_
    refine g_get 2 hx hb hts hown hC hI i_X4 (by decide) (e_gr hG) rfl (by decide) qf_X4_100 rfl rfl dX4_count_29 ?_
    exact g_ir hQ hx hb hr0 hlk hC hI dX4_count_32 rfl (by (first | rw [if_pos c1] | rw [if_neg c1] | skip); try rfl) rfl rfl
  by_cases c2 : x = 9
  · refine lv_lookup (tgt := 33) (off := 32) hx hb dX4_count_1 (by decide) (by rw [c2] <;> rfl) (by decide) ?_
    refine lv_aload_n hx hb dX4_count_33 rfl (lv_at hl 0 rfl) ?_
    refine g_get 0 hx hb hts hown hC hI i_X4 (by decide) (e_gr hG) rfl (by decide) qf_X4_10 rfl rfl dX4_count_34 ?_
    refine g_getN 2 hx hb hts hown hC hI i_X2 (by decide) (e_sc hG) rfl (by decide) qN_X4_104 rfl rfl dX4_count_37 ?_
    exact g_ir hQ hx hb hr0 hlk hC hI dX4_count_40 rfl (by (first | rw [if_pos c1] | rw [if_neg c1] | skip); (first | rw [if_pos c2] | rw [if_neg c2] | skip); try rfl) rfl rfl
  refine lv_lookup (tgt := 41) (off := 40) hx hb dX4_count_1 (by decide) (by have c1i := k_ti c1 (k := 8) rfl; have c2i := k_ti c2 (k := 9) rfl; simp [Op.lookupswitch.offset, (show ¬ (8 : Int) = x.toInt from fun z => c1i z.symm), (show ¬ (9 : Int) = x.toInt from fun z => c2i z.symm)]) (by decide) ?_
  refine lv_aload_n hx hb dX4_count_41 rfl (lv_at hl 0 rfl) ?_
  refine g_get 3 hx hb hts hown hC hI i_X4 (by decide) (e_gr hG) rfl (by decide) qf_X4_23 rfl rfl dX4_count_42 ?_
  refine lv_iload_n hx hb dX4_count_45 rfl (lv_at hl 1 rfl) ?_
  refine g_callVi (rest := []) (c_X3_tellNumber l D tb ad hj P M (P 0) (hP 0) V x) rfl (k_eta hV) gm_X3_tellNumber hx hb hml hown hts hC hI (ok_c 0 (hP 0) (by decide)) (e_st (hP 0) hV) rfl rfl qm_X4_107 rfl hl.1 rfl ⟨rfl, rfl, by decide, by decide⟩ (Nat.le_of_ble_eq_true rfl) ⟨Nat.zero_le _, Nat.zero_le _⟩ dX4_count_46 (fun H locs hI => ?_)
  rw [k_eta hV] at hI
  exact g_ir hQ hx hb hr0 hlk hC hI dX4_count_49 rfl (by (first | rw [if_pos c1] | rw [if_neg c1] | skip); (first | rw [if_pos c2] | rw [if_neg c2] | skip); try rfl) rfl rfl
abbrev rm_X4_type : Room := { frames := 1, cells := 0, slots := 0, locals := 21 }
set_option maxHeartbeats 800000 in
set_option maxRecDepth 100000 in
theorem c_X4_type (l : Launch) (D : va_G) (tb : g_T) (ad : g_Ad) (hj : g_inj ad) (P : g_P) (M : g_M) (x : Int32) (G : g_V) (hG : M 6 = G) : g_Ci l yX4_type cX4_type 2 (some .int) rm_X4_type D tb ad [.ref (ad 6 0), .int x] P (M) ((q_append G x).1) P (va_up M 6 ((q_append G x).2)) := by
  refine g_go (by decide) (Nat.le_of_ble_eq_true rfl) hj ?_
  intro p e s m below meth c ls H locs R args Q hR0 hQ hx hb hml hr0 hlk hown hts hC hI hl
  subst hR0
  have hown : s.vm.findClass RX4 = some m.cls := hown
  have hl : lv_has ls 2 [(0, .ref (ad 6 0)), (1, .int x)] := hl
  refine lv_aload_n hx hb dX4_type_0 rfl (lv_at hl 0 rfl) ?_
  refine g_get 0 hx hb hts hown hC hI i_X4 (by decide) (e_gr hG) rfl (by decide) qf_X4_10 rfl rfl dX4_type_1 ?_
  refine lv_iload_n hx hb dX4_type_4 rfl (lv_at hl 1 rfl) ?_
  refine g_callVi (rest := []) (c_X2_append l D tb ad hj P M G x) rfl (k_eta hG) gm_X2_append hx hb hml hown hts hC hI (by decide) (e_sc hG) rfl rfl qm_X4_111 rfl hl.1 rfl ⟨rfl, rfl, by decide, by decide⟩ (Nat.le_of_ble_eq_true rfl) ⟨Nat.zero_le _, Nat.zero_le _⟩ dX4_type_5 (fun H locs hI => ?_)
  exact g_ir hQ hx hb hr0 hlk hC hI dX4_type_8 rfl (by rfl) rfl (by rfl)
abbrev rm_X4_clearText : Room := { frames := 0, cells := 0, slots := 0, locals := 0 }
set_option maxHeartbeats 800000 in
set_option maxRecDepth 100000 in
theorem c_X4_clearText (l : Launch) (D : va_G) (tb : g_T) (ad : g_Ad) (hj : g_inj ad) (P : g_P) (M : g_M) (G : g_V) (hG : M 6 = G) : g_Ci l yX4_clearText cX4_clearText 2 (some .int) rm_X4_clearText D tb ad [.ref (ad 6 0)] P (M) (G 1 2) P (va_up M 6 (g_w2 G 1 2 0)) := by
  refine g_go (by decide) (Nat.le_of_ble_eq_true rfl) hj ?_
  intro p e s m below meth c ls H locs R args Q hR0 hQ hx hb hml hr0 hlk hown hts hC hI hl
  subst hR0
  have hown : s.vm.findClass RX4 = some m.cls := hown
  have hl : lv_has ls 2 [(0, .ref (ad 6 0))] := hl
  refine lv_aload_n hx hb dX4_clearText_0 rfl (lv_at hl 0 rfl) ?_
  refine g_get 0 hx hb hts hown hC hI i_X4 (by decide) (e_gr hG) rfl (by decide) qf_X4_10 rfl rfl dX4_clearText_1 ?_
  refine g_getN 2 hx hb hts hown hC hI i_X2 (by decide) (e_sc hG) rfl (by decide) qN_X4_104 rfl rfl dX4_clearText_4 ?_
  refine lv_istore_n (lv' := [(1, .int (G 1 2)), (0, .ref (ad 6 0))]) hx hb dX4_clearText_7 rfl hl (by decide) rfl (fun ls hl => ?_)
  refine lv_aload_n hx hb dX4_clearText_8 rfl (lv_at hl 1 rfl) ?_
  refine g_get 0 hx hb hts hown hC hI i_X4 (by decide) (e_gr hG) rfl (by decide) qf_X4_10 rfl rfl dX4_clearText_9 ?_
  refine lv_iconst (v := 0) hx hb dX4_clearText_12 (by decide) ?_
  rw [← k_eta (M := M) hG] at hI
  refine g_putN 2 (ty := .int) hx hb hts hown hC hI i_X2 tyX2_ok nmX2 (by decide) (e_sc g_us) rfl (by decide) qN_X4_104 rfl rfl rfl rfl rfl (Nat.le_of_ble_eq_true rfl) (p_sc (by decide)) g_hs dX4_clearText_13 (fun H locs hI => ?_)
  refine lv_iload_n hx hb dX4_clearText_16 rfl (lv_at hl 0 rfl) ?_
  exact g_ir hQ hx hb hr0 hlk hC hI dX4_clearText_17 rfl (by rfl) rfl (by rfl)
