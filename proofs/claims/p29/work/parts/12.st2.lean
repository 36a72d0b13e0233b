theorem k_l0 {x : Int32} (h : 0 < x) : ¬ x.toInt64 = 0 := by
  intro z
  rw [Int32.lt_iff_toInt_lt, Int32.toInt_zero] at h
  have h1 : x.toInt64.toInt = (0 : Int64).toInt := by rw [z]
  rw [Int32.toInt_toInt64] at h1
  have h2 : (0 : Int64).toInt = 0 := by decide
  omega
def q_splitLoanA (V : g_V) (i1 : Nat) (j1 : Nat) : g_V :=
  if 0 < (V (12 + i1) 3) then (if (((((V (12 + i1) 5).toInt64) * ((V (12 + j1) 3).toInt64)) / ((V (12 + i1) 3).toInt64)).toInt32) ≤ 0 then V else (g_w2 (g_w2 (g_w2 V (12 + j1) 4 (V (12 + i1) 4)) (12 + j1) 5 (((((V (12 + i1) 5).toInt64) * ((V (12 + j1) 3).toInt64)) / ((V (12 + i1) 3).toInt64)).toInt32)) (12 + i1) 5 (((g_w2 (g_w2 V (12 + j1) 4 (V (12 + i1) 4)) (12 + j1) 5 (((((V (12 + i1) 5).toInt64) * ((V (12 + j1) 3).toInt64)) / ((V (12 + i1) 3).toInt64)).toInt32)) (12 + i1) 5) - (((((V (12 + i1) 5).toInt64) * ((V (12 + j1) 3).toInt64)) / ((V (12 + i1) 3).toInt64)).toInt32)))) else V
abbrev rm_X3_splitLoan : Room := { frames := 0, cells := 0, slots := 0, locals := 0 }
set_option maxHeartbeats 4000000 in
set_option maxRecDepth 100000 in
theorem c_X3_splitLoan (l : Launch) (D : va_G) (tb : g_T) (ad : g_Ad) (hj : g_inj ad) (P : g_P) (M : g_M) (r : Nat) (hr : r < 6) (V : g_V) (i1 : Nat) (hi1 : i1 < 16) (j1 : Nat) (hj1 : j1 < 16) : g_Cv l yX3_splitLoan cX3_splitLoan 4 none rm_X3_splitLoan D tb ad [.ref (ad r 0), .ref (ad r (12 + i1)), .ref (ad r (12 + j1))] P (va_up M r V) P (va_up M r (q_splitLoanA V i1 j1)) := by
  refine g_go (by decide) (Nat.le_of_ble_eq_true rfl) hj ?_
  intro p e s m below meth c ls H locs R args Q hR0 hQ hx hb hml hr0 hlk hown hts hC hI hl
  subst hR0
  have hown : s.vm.findClass RX3 = some m.cls := hown
  have hl : lv_has ls 4 [(0, .ref (ad r 0)), (1, .ref (ad r (12 + i1))), (2, .ref (ad r (12 + j1)))] := hl
  refine lv_aload_n hx hb dX3_splitLoan_0 rfl (lv_at hl 1 rfl) ?_
  refine g_get 3 hx hb hts hown hC hI i_X1 (ok_rec hr hi1) (e_rec hr hi1 g_us) rfl (by decide) qf_X3_103 rfl rfl dX3_splitLoan_1 ?_
  refine lv_if_gt (tgt := 8) hx hb dX3_splitLoan_4 (by decide) (fun c1 => ?_) (fun c1 => ?_)
  · refine lv_aload_n hx hb dX3_splitLoan_8 rfl (lv_at hl 1 rfl) ?_
    refine g_get 5 hx hb hts hown hC hI i_X1 (ok_rec hr hi1) (e_rec hr hi1 g_us) rfl (by decide) qf_X3_139 rfl rfl dX3_splitLoan_9 ?_
    refine lv_i2l hx hb dX3_splitLoan_12 rfl ?_
    refine lv_aload_n hx hb dX3_splitLoan_13 rfl (lv_at hl 2 rfl) ?_
    refine g_get 3 hx hb hts hown hC hI i_X1 (ok_rec hr hj1) (e_rec hr hj1 g_us) rfl (by decide) qf_X3_103 rfl rfl dX3_splitLoan_14 ?_
    refine lv_i2l hx hb dX3_splitLoan_17 rfl ?_
    refine lv_lmul hx hb dX3_splitLoan_18 ?_
    refine lv_aload_n hx hb dX3_splitLoan_19 rfl (lv_at hl 1 rfl) ?_
    refine g_get 3 hx hb hts hown hC hI i_X1 (ok_rec hr hi1) (e_rec hr hi1 g_us) rfl (by decide) qf_X3_103 rfl rfl dX3_splitLoan_20 ?_
    refine lv_i2l hx hb dX3_splitLoan_23 rfl ?_
    refine lv_ldiv hx hb dX3_splitLoan_24 (k_l0 c1) ?_
    refine lv_l2i hx hb dX3_splitLoan_25 rfl ?_
    refine lv_istore_n (lv' := [(3, .int (((((V (12 + i1) 5).toInt64) * ((V (12 + j1) 3).toInt64)) / ((V (12 + i1) 3).toInt64)).toInt32)), (0, .ref (ad r 0)), (1, .ref (ad r (12 + i1))), (2, .ref (ad r (12 + j1)))]) hx hb dX3_splitLoan_26 rfl hl (by decide) rfl (fun ls hl => ?_)
    refine lv_iload_n hx hb dX3_splitLoan_27 rfl (lv_at hl 0 rfl) ?_
    refine lv_if_le (tgt := 54) hx hb dX3_splitLoan_28 (by decide) (fun c2 => ?_) (fun c2 => ?_)
    · exact g_vr hQ hx hb hr0 hlk hC hI dX3_splitLoan_54 rfl (by unfold q_splitLoanA; (first | rw [if_pos c1] | rw [if_neg c1] | skip); (first | rw [if_pos c2] | rw [if_neg c2] | skip); try rfl)
    · refine lv_aload_n hx hb dX3_splitLoan_31 rfl (lv_at hl 3 rfl) ?_
      refine lv_aload_n hx hb dX3_splitLoan_32 rfl (lv_at hl 2 rfl) ?_
      refine g_get 4 hx hb hts hown hC hI i_X1 (ok_rec hr hi1) (e_rec hr hi1 g_us) rfl (by decide) qf_X3_136 rfl rfl dX3_splitLoan_33 ?_
      refine g_put 4 (ty := .int) hx hb hts hown hC hI i_X1 tyX1_ok nmX1 (ok_rec hr hj1) (e_rec hr hj1 g_us) rfl (by decide) qf_X3_136 rfl rfl rfl rfl rfl (Nat.le_of_ble_eq_true rfl) (p_rec hr hj1 (by decide)) g_hs dX3_splitLoan_36 (fun H locs hI => ?_)
      refine lv_aload_n hx hb dX3_splitLoan_39 rfl (lv_at hl 3 rfl) ?_
      refine lv_iload_n hx hb dX3_splitLoan_40 rfl (lv_at hl 0 rfl) ?_
      refine g_put 5 (ty := .int) hx hb hts hown hC hI i_X1 tyX1_ok nmX1 (ok_rec hr hj1) (e_rec hr hj1 g_us) rfl (by decide) qf_X3_139 rfl rfl rfl rfl rfl (Nat.le_of_ble_eq_true rfl) (p_rec hr hj1 (by decide)) g_hs dX3_splitLoan_41 (fun H locs hI => ?_)
      refine lv_aload_n hx hb dX3_splitLoan_44 rfl (lv_at hl 2 rfl) ?_
      refine lv_dup hx hb dX3_splitLoan_45 rfl ?_
      refine g_get 5 hx hb hts hown hC hI i_X1 (ok_rec hr hi1) (e_rec hr hi1 g_us) rfl (by decide) qf_X3_139 rfl rfl dX3_splitLoan_46 ?_
      refine lv_iload_n hx hb dX3_splitLoan_49 rfl (lv_at hl 0 rfl) ?_
      refine lv_isub hx hb dX3_splitLoan_50 ?_
      refine g_put 5 (ty := .int) hx hb hts hown hC hI i_X1 tyX1_ok nmX1 (ok_rec hr hi1) (e_rec hr hi1 g_us) rfl (by decide) qf_X3_139 rfl rfl rfl rfl rfl (Nat.le_of_ble_eq_true rfl) (p_rec hr hi1 (by decide)) g_hs dX3_splitLoan_51 (fun H locs hI => ?_)
      exact g_vr hQ hx hb hr0 hlk hC hI dX3_splitLoan_54 rfl (by unfold q_splitLoanA; (first | rw [if_pos c1] | rw [if_neg c1] | skip); (first | rw [if_pos c2] | rw [if_neg c2] | skip); try rfl)
  · exact g_vr hQ hx hb hr0 hlk hC hI dX3_splitLoan_7 rfl (by unfold q_splitLoanA; (first | rw [if_pos c1] | rw [if_neg c1] | skip); try rfl)
abbrev rm_X3_seize : Room := { frames := 1, cells := 0, slots := 0, locals := 20 }
set_option maxHeartbeats 4000000 in
set_option maxRecDepth 100000 in
theorem c_X3_seize (l : Launch) (D : va_G) (tb : g_T) (ad : g_Ad) (hj : g_inj ad) (P : g_P) (M : g_M) (r : Nat) (hr : r < 6) (V : g_V) (i1 : Nat) (hi1 : i1 < 16) : g_Cv l yX3_seize cX3_seize 3 none rm_X3_seize D tb ad [.ref (ad r 0), .ref (ad r (12 + i1))] P (va_up M r V) P (va_up M r (q_seize V i1)) := by
  refine g_go (by decide) (Nat.le_of_ble_eq_true rfl) hj ?_
  intro p e s m below meth c ls H locs R args Q hR0 hQ hx hb hml hr0 hlk hown hts hC hI hl
  subst hR0
  have hown : s.vm.findClass RX3 = some m.cls := hown
  have hl : lv_has ls 3 [(0, .ref (ad r 0)), (1, .ref (ad r (12 + i1)))] := hl
  refine lv_aload_n hx hb dX3_seize_0 rfl (lv_at hl 1 rfl) ?_
  refine g_get 4 hx hb hts hown hC hI i_X1 (ok_rec hr hi1) (e_rec hr hi1 g_us) rfl (by decide) qf_X3_136 rfl rfl dX3_seize_1 ?_
  refine lv_istore_n (lv' := [(2, .int (V (12 + i1) 4)), (0, .ref (ad r 0)), (1, .ref (ad r (12 + i1)))]) hx hb dX3_seize_4 rfl hl (by decide) rfl (fun ls hl => ?_)
  refine lv_iload_n hx hb dX3_seize_5 rfl (lv_at hl 0 rfl) ?_
  refine g_callNi (rest := []) (c_X4_isLender l D tb ad hj P (va_up M r V) (V (12 + i1) 4)) rfl rfl gm_X4_isLender hx hb hml hown hts hC hI qN_X3_129 rfl hl.1 rfl ⟨rfl, rfl, by decide, by decide⟩ (Nat.le_of_ble_eq_true rfl) ⟨Nat.zero_le _, Nat.zero_le _⟩ dX3_seize_6 (fun H locs hI => ?_)
  refine g_tf (fun c1 => ?_) (fun c1 => ?_)
  · refine lv_if_eq (tgt := 46) hx hb dX3_seize_9 (by decide) (fun c2 => absurd c2 (by decide)) (fun _ => ?_)
    refine lv_aload_n hx hb dX3_seize_12 rfl (lv_at hl 1 rfl) ?_
    refine g_get 5 hx hb hts hown hC hI i_X3 (ok_c 0 hr (by decide)) (e_st hr g_us) rfl (by decide) qf_X3_33 rfl rfl dX3_seize_13 ?_
    refine lv_iload_n hx hb dX3_seize_16 rfl (lv_at hl 0 rfl) ?_
    refine lv_dup2_11 hx hb dX3_seize_17 rfl rfl ?_
    refine g_iald ((V (12 + i1) 4).toNatClampNeg) hx hb hC hI (ok_c 6 hr (by decide)) (e_sz hr g_us) (k_vin c1 rfl) rfl dX3_seize_18 ?_
    refine lv_aload_n hx hb dX3_seize_19 rfl (lv_at hl 2 rfl) ?_
    refine g_get 5 hx hb hts hown hC hI i_X1 (ok_rec hr hi1) (e_rec hr hi1 g_us) rfl (by decide) qf_X3_139 rfl rfl dX3_seize_20 ?_
    refine lv_iadd hx hb dX3_seize_23 ?_
    refine g_iast ((V (12 + i1) 4).toNatClampNeg) hx hb hC hI (ok_c 6 hr (by decide)) (e_sz hr g_us) (k_vin c1 rfl) rfl (p_sz hr) g_hs dX3_seize_24 (fun H locs hI => ?_)
    refine lv_aload_n hx hb dX3_seize_25 rfl (lv_at hl 1 rfl) ?_
    refine lv_dup hx hb dX3_seize_26 rfl ?_
    refine g_get 8 hx hb hts hown hC hI i_X3 (ok_c 0 hr (by decide)) (e_st hr g_us) rfl (by decide) qf_X3_61 rfl rfl dX3_seize_27 ?_
    refine lv_iconst (v := 1) hx hb dX3_seize_30 (by decide) ?_
    refine lv_iadd hx hb dX3_seize_31 ?_
    refine g_put 8 (ty := .int) hx hb hts hown hC hI i_X3 tyX3_ok nmX3 (ok_c 0 hr (by decide)) (e_st hr g_us) rfl (by decide) qf_X3_61 rfl rfl rfl rfl rfl (Nat.le_of_ble_eq_true rfl) (p_st hr (by decide)) g_hs dX3_seize_32 (fun H locs hI => ?_)
    refine lv_aload_n hx hb dX3_seize_35 rfl (lv_at hl 2 rfl) ?_
    refine lv_iconst (v := 5) hx hb dX3_seize_36 (by decide) ?_
    refine lv_iload_n hx hb dX3_seize_37 rfl (lv_at hl 0 rfl) ?_
    refine lv_iadd hx hb dX3_seize_38 ?_
    refine g_put 1 (ty := .int) hx hb hts hown hC hI i_X1 tyX1_ok nmX1 (ok_rec hr hi1) (e_rec hr hi1 g_us) rfl (by decide) qf_X3_107 rfl rfl rfl rfl rfl (Nat.le_of_ble_eq_true rfl) (p_rec hr hi1 (by decide)) g_hs dX3_seize_39 (fun H locs hI => ?_)
    refine lv_aload_n hx hb dX3_seize_42 rfl (lv_at hl 2 rfl) ?_
    refine g_callVv (rest := []) (c_X1_endPledge l D tb ad hj P M r hr (g_w2 (g_w2 (g_w2 V 6 ((V (12 + i1) 4).toNatClampNeg) ((V 6 ((V (12 + i1) 4).toNatClampNeg)) + (V (12 + i1) 5))) 0 8 (((g_w2 V 6 ((V (12 + i1) 4).toNatClampNeg) ((V 6 ((V (12 + i1) 4).toNatClampNeg)) + (V (12 + i1) 5))) 0 8) + 1)) (12 + i1) 1 (5 + (V (12 + i1) 4))) i1 hi1) rfl rfl gm_X1_endPledge hx hb hml hown hts hC hI (ok_rec hr hi1) (e_rec hr hi1 g_us) rfl rfl qm_X3_148 rfl hl.1 rfl ⟨rfl, rfl, by decide, by decide⟩ (Nat.le_of_ble_eq_true rfl) ⟨Nat.zero_le _, Nat.zero_le _⟩ dX3_seize_43 (fun H locs hI => ?_)
    exact g_vr hQ hx hb hr0 hlk hC hI dX3_seize_46 rfl (by unfold q_seize; (first | rw [if_pos c1] | rw [if_neg c1] | skip); try rfl)
  · refine lv_if_eq (tgt := 46) hx hb dX3_seize_9 (by decide) (fun _ => ?_) (fun c3 => absurd c3 (by decide))
    exact g_vr hQ hx hb hr0 hlk hC hI dX3_seize_46 rfl (by unfold q_seize; (first | rw [if_pos c1] | rw [if_neg c1] | skip); try rfl)
def q_hand (V : g_V) (n : Int32) (o : Int32) : Int32 × g_V :=
  match (q_find V n) with | none => ((-2000000001), V) | some i2 => (if k_in o 8 then (if (V (12 + i2) 1) = o then ((-2000000002), V) else (if q_pledged V i2 then ((-2000000002), V) else (V (12 + i2) 1, (g_w2 V (12 + i2) 1 o)))) else ((-2000000001), V))
abbrev rm_X3_handOn : Room := { frames := 2, cells := 0, slots := 0, locals := 45 }
set_option maxHeartbeats 4000000 in
set_option maxRecDepth 100000 in
theorem c_X3_handOn (l : Launch) (D : va_G) (tb : g_T) (ad : g_Ad) (hj : g_inj ad) (P : g_P) (M : g_M) (r : Nat) (hr : r < 6) (V : g_V) (n : Int32) (o : Int32) : g_Ci l yX3_handOn cX3_handOn 5 (some .int) rm_X3_handOn D tb ad [.ref (ad r 0), .int n, .int o] P (va_up M r V) ((q_hand V n o).1) P (va_up M r ((q_hand V n o).2)) := by
  refine g_go (by decide) (Nat.le_of_ble_eq_true rfl) hj ?_
  intro p e s m below meth c ls H locs R args Q hR0 hQ hx hb hml hr0 hlk hown hts hC hI hl
  subst hR0
  have hown : s.vm.findClass RX3 = some m.cls := hown
  have hl : lv_has ls 5 [(0, .ref (ad r 0)), (1, .int n), (2, .int o)] := hl
  refine lv_aload_n hx hb dX3_handOn_0 rfl (lv_at hl 0 rfl) ?_
  refine lv_iload_n hx hb dX3_handOn_1 rfl (lv_at hl 1 rfl) ?_
  refine g_callVq (rest := []) (c_X3_find l D tb ad hj P M r hr V n) rfl rfl gm_X3_find hx hb hml hown hts hC hI (ok_c 0 hr (by decide)) (e_st hr g_us) rfl rfl qm_X3_99 rfl hl.1 rfl ⟨rfl, rfl, by decide, by decide⟩ (Nat.le_of_ble_eq_true rfl) ⟨Nat.zero_le _, Nat.zero_le _⟩ dX3_handOn_2 (fun H locs hI => ?_)
  refine g_nf (fun q1 => ?_) (fun i2 q1 => ?_)
  · refine lv_astore_nN (lv' := [(3, .null), (0, .ref (ad r 0)), (1, .int n), (2, .int o)]) hx hb dX3_handOn_5 rfl hl (by decide) rfl (fun ls hl => ?_)
    refine lv_aload_nN hx hb dX3_handOn_6 rfl (lv_at hl 0 rfl) ?_
    refine lv_ifnullN (tgt := 17) hx hb dX3_handOn_7 (by decide) ?_
    refine lv_ldc (v := (-2000000001)) hx hb hown (hts _ qc_X3_74) dX3_handOn_17 ?_
    exact g_ir hQ hx hb hr0 hlk hC hI dX3_handOn_19 rfl (by unfold q_hand; (try simp only [q1]); try rfl) rfl (by unfold q_hand; (try simp only [q1]); try rfl)
  · have hi3 : i2 < 16 := k_find_lt q1
    refine lv_astore_n (lv' := [(3, .ref (ad r (12 + i2))), (0, .ref (ad r 0)), (1, .int n), (2, .int o)]) hx hb dX3_handOn_5 rfl hl (by decide) rfl (fun ls hl => ?_)
    refine lv_aload_n hx hb dX3_handOn_6 rfl (lv_at hl 0 rfl) ?_
    refine lv_ifnull hx hb dX3_handOn_7 ?_
    refine lv_iload_n hx hb dX3_handOn_10 rfl (lv_at hl 3 rfl) ?_
    refine g_callNi (rest := []) (c_X4_isOwner l D tb ad hj P (va_up M r V) o) rfl rfl gm_X4_isOwner hx hb hml hown hts hC hI qN_X3_122 rfl hl.1 rfl ⟨rfl, rfl, by decide, by decide⟩ (Nat.le_of_ble_eq_true rfl) ⟨Nat.zero_le _, Nat.zero_le _⟩ dX3_handOn_11 (fun H locs hI => ?_)
    refine g_tf (fun c4 => ?_) (fun c4 => ?_)
    · refine lv_if_ne (tgt := 20) hx hb dX3_handOn_14 (by decide) (fun _ => ?_) (fun c5 => absurd c5 (by decide))
      refine lv_aload_n hx hb dX3_handOn_20 rfl (lv_at hl 0 rfl) ?_
      refine g_get 1 hx hb hts hown hC hI i_X1 (ok_rec hr hi3) (e_rec hr hi3 g_us) rfl (by decide) qf_X3_107 rfl rfl dX3_handOn_21 ?_
      refine lv_iload_n hx hb dX3_handOn_24 rfl (lv_at hl 3 rfl) ?_
      refine lv_icmp_eq (tgt := 35) hx hb dX3_handOn_25 (by decide) (fun c6 => ?_) (fun c6 => ?_)
      · refine lv_ldc (v := (-2000000002)) hx hb hown (hts _ qc_X3_106) dX3_handOn_35 ?_
        exact g_ir hQ hx hb hr0 hlk hC hI dX3_handOn_37 rfl (by unfold q_hand; (try simp only [q1]); (first | rw [if_pos c4] | rw [if_neg c4] | skip); (first | rw [if_pos c6] | rw [if_neg c6] | skip); try rfl) rfl (by unfold q_hand; (try simp only [q1]); (first | rw [if_pos c4] | rw [if_neg c4] | skip); (first | rw [if_pos c6] | rw [if_neg c6] | skip); try rfl)
      · refine lv_aload_n hx hb dX3_handOn_28 rfl (lv_at hl 0 rfl) ?_
        refine g_callVi (rest := []) (c_X1_isPledged l D tb ad hj P M r hr V i2 hi3) rfl rfl gm_X1_isPledged hx hb hml hown hts hC hI (ok_rec hr hi3) (e_rec hr hi3 g_us) rfl rfl qm_X3_115 rfl hl.1 rfl ⟨rfl, rfl, by decide, by decide⟩ (Nat.le_of_ble_eq_true rfl) ⟨Nat.zero_le _, Nat.zero_le _⟩ dX3_handOn_29 (fun H locs hI => ?_)
        refine g_tf (fun c7 => ?_) (fun c7 => ?_)
        · refine lv_if_eq (tgt := 38) hx hb dX3_handOn_32 (by decide) (fun c8 => absurd c8 (by decide)) (fun _ => ?_)
          refine lv_ldc (v := (-2000000002)) hx hb hown (hts _ qc_X3_106) dX3_handOn_35 ?_
          exact g_ir hQ hx hb hr0 hlk hC hI dX3_handOn_37 rfl (by unfold q_hand; (try simp only [q1]); (first | rw [if_pos c4] | rw [if_neg c4] | skip); (first | rw [if_pos c6] | rw [if_neg c6] | skip); (first | rw [if_pos c7] | rw [if_neg c7] | skip); try rfl) rfl (by unfold q_hand; (try simp only [q1]); (first | rw [if_pos c4] | rw [if_neg c4] | skip); (first | rw [if_pos c6] | rw [if_neg c6] | skip); (first | rw [if_pos c7] | rw [if_neg c7] | skip); try rfl)
        · refine lv_if_eq (tgt := 38) hx hb dX3_handOn_32 (by decide) (fun _ => ?_) (fun c9 => absurd c9 (by decide))
          refine lv_aload_n hx hb dX3_handOn_38 rfl (lv_at hl 0 rfl) ?_
          refine g_get 1 hx hb hts hown hC hI i_X1 (ok_rec hr hi3) (e_rec hr hi3 g_us) rfl (by decide) qf_X3_107 rfl rfl dX3_handOn_39 ?_
          refine lv_istore (lv' := [(4, .int (V (12 + i2) 1)), (3, .ref (ad r (12 + i2))), (0, .ref (ad r 0)), (1, .int n), (2, .int o)]) hx hb dX3_handOn_42 hl (by decide) rfl (fun ls hl => ?_)
          refine lv_aload_n hx hb dX3_handOn_44 rfl (lv_at hl 1 rfl) ?_
          refine lv_iload_n hx hb dX3_handOn_45 rfl (lv_at hl 4 rfl) ?_
          refine g_put 1 (ty := .int) hx hb hts hown hC hI i_X1 tyX1_ok nmX1 (ok_rec hr hi3) (e_rec hr hi3 g_us) rfl (by decide) qf_X3_107 rfl rfl rfl rfl rfl (Nat.le_of_ble_eq_true rfl) (p_rec hr hi3 (by decide)) g_hs dX3_handOn_46 (fun H locs hI => ?_)
          refine lv_iload hx hb dX3_handOn_49 (lv_at hl 0 rfl) ?_
          exact g_ir hQ hx hb hr0 hlk hC hI dX3_handOn_51 rfl (by unfold q_hand; (try simp only [q1]); (first | rw [if_pos c4] | rw [if_neg c4] | skip); (first | rw [if_pos c6] | rw [if_neg c6] | skip); (first | rw [if_pos c7] | rw [if_neg c7] | skip); try rfl) rfl (by unfold q_hand; (try simp only [q1]); (first | rw [if_pos c4] | rw [if_neg c4] | skip); (first | rw [if_pos c6] | rw [if_neg c6] | skip); (first | rw [if_pos c7] | rw [if_neg c7] | skip); try rfl)
    · refine lv_if_ne (tgt := 20) hx hb dX3_handOn_14 (by decide) (fun c10 => absurd c10 (by decide)) (fun _ => ?_)
      refine lv_ldc (v := (-2000000001)) hx hb hown (hts _ qc_X3_74) dX3_handOn_17 ?_
      exact g_ir hQ hx hb hr0 hlk hC hI dX3_handOn_19 rfl (by unfold q_hand; (try simp only [q1]); (first | rw [if_pos c4] | rw [if_neg c4] | skip); try rfl) rfl (by unfold q_hand; (try simp only [q1]); (first | rw [if_pos c4] | rw [if_neg c4] | skip); try rfl)
def q_join (V : g_V) (n : Int32) (o : Int32) : Int32 × g_V :=
  match (q_find V n) with | none => (match (q_find V o) with | none => ((-2000000001), V) | some i4 => ((-2000000001), V)) | some i2 => (match (q_find V o) with | none => ((-2000000001), V) | some i8 => (if n = o then ((-2000000001), V) else (if (V (12 + i2) 1) = (V (12 + i8) 1) then (if (V (12 + i2) 2) = (V (12 + i8) 2) then (if q_pledged V i2 then ((-2000000002), V) else (if q_pledged V i8 then ((-2000000002), V) else ((q_free (g_w2 V (12 + i8) 3 ((V (12 + i8) 3) + (V (12 + i2) 3))) i2) (12 + i8) 3, (q_free (g_w2 V (12 + i8) 3 ((V (12 + i8) 3) + (V (12 + i2) 3))) i2)))) else ((-2000000002), V)) else ((-2000000002), V))))
abbrev rm_X3_joinInto : Room := { frames := 2, cells := 0, slots := 0, locals := 45 }
set_option maxHeartbeats 4000000 in
set_option maxRecDepth 100000 in
theorem c_X3_joinInto (l : Launch) (D : va_G) (tb : g_T) (ad : g_Ad) (hj : g_inj ad) (P : g_P) (M : g_M) (r : Nat) (hr : r < 6) (V : g_V) (n : Int32) (o : Int32) : g_Ci l yX3_joinInto cX3_joinInto 5 (some .int) rm_X3_joinInto D tb ad [.ref (ad r 0), .int n, .int o] P (va_up M r V) ((q_join V n o).1) P (va_up M r ((q_join V n o).2)) := by
  refine g_go (by decide) (Nat.le_of_ble_eq_true rfl) hj ?_
  intro p e s m below meth c ls H locs R args Q hR0 hQ hx hb hml hr0 hlk hown hts hC hI hl
  subst hR0
  have hown : s.vm.findClass RX3 = some m.cls := hown
  have hl : lv_has ls 5 [(0, .ref (ad r 0)), (1, .int n), (2, .int o)] := hl
  refine lv_aload_n hx hb dX3_joinInto_0 rfl (lv_at hl 0 rfl) ?_
  refine lv_iload_n hx hb dX3_joinInto_1 rfl (lv_at hl 1 rfl) ?_
  refine g_callVq (rest := []) (c_X3_find l D tb ad hj P M r hr V n) rfl rfl gm_X3_find hx hb hml hown hts hC hI (ok_c 0 hr (by decide)) (e_st hr g_us) rfl rfl qm_X3_99 rfl hl.1 rfl ⟨rfl, rfl, by decide, by decide⟩ (Nat.le_of_ble_eq_true rfl) ⟨Nat.zero_le _, Nat.zero_le _⟩ dX3_joinInto_2 (fun H locs hI => ?_)
  refine g_nf (fun q1 => ?_) (fun i2 q1 => ?_)
  · refine lv_astore_nN (lv' := [(3, .null), (0, .ref (ad r 0)), (1, .int n), (2, .int o)]) hx hb dX3_joinInto_5 rfl hl (by decide) rfl (fun ls hl => ?_)
    refine lv_aload_n hx hb dX3_joinInto_6 rfl (lv_at hl 1 rfl) ?_
    refine lv_iload_n hx hb dX3_joinInto_7 rfl (lv_at hl 3 rfl) ?_
    refine g_callVq (rest := []) (c_X3_find l D tb ad hj P M r hr V o) rfl rfl gm_X3_find hx hb hml hown hts hC hI (ok_c 0 hr (by decide)) (e_st hr g_us) rfl rfl qm_X3_99 rfl hl.1 rfl ⟨rfl, rfl, by decide, by decide⟩ (Nat.le_of_ble_eq_true rfl) ⟨Nat.zero_le _, Nat.zero_le _⟩ dX3_joinInto_8 (fun H locs hI => ?_)
    refine g_nf (fun q3 => ?_) (fun i4 q3 => ?_)
    · refine lv_astoreN (lv' := [(4, .null), (3, .null), (0, .ref (ad r 0)), (1, .int n), (2, .int o)]) hx hb dX3_joinInto_11 hl (by decide) rfl (fun ls hl => ?_)
      refine lv_aload_nN hx hb dX3_joinInto_13 rfl (lv_at hl 1 rfl) ?_
      refine lv_ifnullN (tgt := 27) hx hb dX3_joinInto_14 (by decide) ?_
      refine lv_ldc (v := (-2000000001)) hx hb hown (hts _ qc_X3_74) dX3_joinInto_27 ?_
      exact g_ir hQ hx hb hr0 hlk hC hI dX3_joinInto_29 rfl (by unfold q_join; (try simp only [q1]); (try simp only [q3]); try rfl) rfl (by unfold q_join; (try simp only [q1]); (try simp only [q3]); try rfl)
    · have hi5 : i4 < 16 := k_find_lt q3
      refine lv_astore (lv' := [(4, .ref (ad r (12 + i4))), (3, .null), (0, .ref (ad r 0)), (1, .int n), (2, .int o)]) hx hb dX3_joinInto_11 hl (by decide) rfl (fun ls hl => ?_)
      refine lv_aload_nN hx hb dX3_joinInto_13 rfl (lv_at hl 1 rfl) ?_
      refine lv_ifnullN (tgt := 27) hx hb dX3_joinInto_14 (by decide) ?_
      refine lv_ldc (v := (-2000000001)) hx hb hown (hts _ qc_X3_74) dX3_joinInto_27 ?_
      exact g_ir hQ hx hb hr0 hlk hC hI dX3_joinInto_29 rfl (by unfold q_join; (try simp only [q1]); (try simp only [q3]); try rfl) rfl (by unfold q_join; (try simp only [q1]); (try simp only [q3]); try rfl)
  · have hi6 : i2 < 16 := k_find_lt q1
    refine lv_astore_n (lv' := [(3, .ref (ad r (12 + i2))), (0, .ref (ad r 0)), (1, .int n), (2, .int o)]) hx hb dX3_joinInto_5 rfl hl (by decide) rfl (fun ls hl => ?_)
    refine lv_aload_n hx hb dX3_joinInto_6 rfl (lv_at hl 1 rfl) ?_
    refine lv_iload_n hx hb dX3_joinInto_7 rfl (lv_at hl 3 rfl) ?_
    refine g_callVq (rest := []) (c_X3_find l D tb ad hj P M r hr V o) rfl rfl gm_X3_find hx hb hml hown hts hC hI (ok_c 0 hr (by decide)) (e_st hr g_us) rfl rfl qm_X3_99 rfl hl.1 rfl ⟨rfl, rfl, by decide, by decide⟩ (Nat.le_of_ble_eq_true rfl) ⟨Nat.zero_le _, Nat.zero_le _⟩ dX3_joinInto_8 (fun H locs hI => ?_)
    refine g_nf (fun q7 => ?_) (fun i8 q7 => ?_)
    · refine lv_astoreN (lv' := [(4, .null), (3, .ref (ad r (12 + i2))), (0, .ref (ad r 0)), (1, .int n), (2, .int o)]) hx hb dX3_joinInto_11 hl (by decide) rfl (fun ls hl => ?_)
      refine lv_aload_n hx hb dX3_joinInto_13 rfl (lv_at hl 1 rfl) ?_
      refine lv_ifnull hx hb dX3_joinInto_14 ?_
      refine lv_aloadN hx hb dX3_joinInto_17 (lv_at hl 0 rfl) ?_
      refine lv_ifnullN (tgt := 27) hx hb dX3_joinInto_19 (by decide) ?_
      refine lv_ldc (v := (-2000000001)) hx hb hown (hts _ qc_X3_74) dX3_joinInto_27 ?_
      exact g_ir hQ hx hb hr0 hlk hC hI dX3_joinInto_29 rfl (by unfold q_join; (try simp only [q1]); (try simp only [q7]); try rfl) rfl (by unfold q_join; (try simp only [q1]); (try simp only [q7]); try rfl)
    · have hi9 : i8 < 16 := k_find_lt q7
      refine lv_astore (lv' := [(4, .ref (ad r (12 + i8))), (3, .ref (ad r (12 + i2))), (0, .ref (ad r 0)), (1, .int n), (2, .int o)]) hx hb dX3_joinInto_11 hl (by decide) rfl (fun ls hl => ?_)
      refine lv_aload_n hx hb dX3_joinInto_13 rfl (lv_at hl 1 rfl) ?_
      refine lv_ifnull hx hb dX3_joinInto_14 ?_
      refine lv_aload hx hb dX3_joinInto_17 (lv_at hl 0 rfl) ?_
      refine lv_ifnull hx hb dX3_joinInto_19 ?_
      refine lv_iload_n hx hb dX3_joinInto_22 rfl (lv_at hl 3 rfl) ?_
      refine lv_iload_n hx hb dX3_joinInto_23 rfl (lv_at hl 4 rfl) ?_
      refine lv_icmp_ne (tgt := 30) hx hb dX3_joinInto_24 (by decide) (fun c10 => ?_) (fun c10 => ?_)
      · refine lv_aload_n hx hb dX3_joinInto_30 rfl (lv_at hl 1 rfl) ?_
        refine g_get 1 hx hb hts hown hC hI i_X1 (ok_rec hr hi6) (e_rec hr hi6 g_us) rfl (by decide) qf_X3_107 rfl rfl dX3_joinInto_31 ?_
        refine lv_aload hx hb dX3_joinInto_34 (lv_at hl 0 rfl) ?_
        refine g_get 1 hx hb hts hown hC hI i_X1 (ok_rec hr hi9) (e_rec hr hi9 g_us) rfl (by decide) qf_X3_107 rfl rfl dX3_joinInto_36 ?_
        refine lv_icmp_ne (tgt := 69) hx hb dX3_joinInto_39 (by decide) (fun c11 => ?_) (fun c11 => ?_)
        · refine lv_ldc (v := (-2000000002)) hx hb hown (hts _ qc_X3_106) dX3_joinInto_69 ?_
          exact g_ir hQ hx hb hr0 hlk hC hI dX3_joinInto_71 rfl (by unfold q_join; (try simp only [q1]); (try simp only [q7]); (first | rw [if_pos c10] | rw [if_neg c10] | skip); (first | rw [if_pos c11] | rw [if_neg c11] | skip); try rfl) rfl (by unfold q_join; (try simp only [q1]); (try simp only [q7]); (first | rw [if_pos c10] | rw [if_neg c10] | skip); (first | rw [if_pos c11] | rw [if_neg c11] | skip); try rfl)
        · refine lv_aload_n hx hb dX3_joinInto_42 rfl (lv_at hl 1 rfl) ?_
          refine g_get 2 hx hb hts hown hC hI i_X1 (ok_rec hr hi6) (e_rec hr hi6 g_us) rfl (by decide) qf_X3_110 rfl rfl dX3_joinInto_43 ?_
          refine lv_aload hx hb dX3_joinInto_46 (lv_at hl 0 rfl) ?_
          refine g_get 2 hx hb hts hown hC hI i_X1 (ok_rec hr hi9) (e_rec hr hi9 g_us) rfl (by decide) qf_X3_110 rfl rfl dX3_joinInto_48 ?_
          refine lv_icmp_ne (tgt := 69) hx hb dX3_joinInto_51 (by decide) (fun c12 => ?_) (fun c12 => ?_)
          · refine lv_ldc (v := (-2000000002)) hx hb hown (hts _ qc_X3_106) dX3_joinInto_69 ?_
            exact g_ir hQ hx hb hr0 hlk hC hI dX3_joinInto_71 rfl (by unfold q_join; (try simp only [q1]); (try simp only [q7]); (first | rw [if_pos c10] | rw [if_neg c10] | skip); (first | rw [if_pos c11] | rw [if_neg c11] | skip); (first | rw [if_pos c12] | rw [if_neg c12] | skip); try rfl) rfl (by unfold q_join; (try simp only [q1]); (try simp only [q7]); (first | rw [if_pos c10] | rw [if_neg c10] | skip); (first | rw [if_pos c11] | rw [if_neg c11] | skip); (first | rw [if_pos c12] | rw [if_neg c12] | skip); try rfl)
          · refine lv_aload_n hx hb dX3_joinInto_54 rfl (lv_at hl 1 rfl) ?_
            refine g_callVi (rest := []) (c_X1_isPledged l D tb ad hj P M r hr V i2 hi6) rfl rfl gm_X1_isPledged hx hb hml hown hts hC hI (ok_rec hr hi6) (e_rec hr hi6 g_us) rfl rfl qm_X3_115 rfl hl.1 rfl ⟨rfl, rfl, by decide, by decide⟩ (Nat.le_of_ble_eq_true rfl) ⟨Nat.zero_le _, Nat.zero_le _⟩ dX3_joinInto_55 (fun H locs hI => ?_)
            refine g_tf (fun c13 => ?_) (fun c13 => ?_)
            · refine lv_if_ne (tgt := 69) hx hb dX3_joinInto_58 (by decide) (fun _ => ?_) (fun c14 => absurd c14 (by decide))
              refine lv_ldc (v := (-2000000002)) hx hb hown (hts _ qc_X3_106) dX3_joinInto_69 ?_
              exact g_ir hQ hx hb hr0 hlk hC hI dX3_joinInto_71 rfl (by unfold q_join; (try simp only [q1]); (try simp only [q7]); (first | rw [if_pos c10] | rw [if_neg c10] | skip); (first | rw [if_pos c11] | rw [if_neg c11] | skip); (first | rw [if_pos c12] | rw [if_neg c12] | skip); (first | rw [if_pos c13] | rw [if_neg c13] | skip); try rfl) rfl (by unfold q_join; (try simp only [q1]); (try simp only [q7]); (first | rw [if_pos c10] | rw [if_neg c10] | skip); (first | rw [if_pos c11] | rw [if_neg c11] | skip); (first | rw [if_pos c12] | rw [if_neg c12] | skip); (first | rw [if_pos c13] | rw [if_neg c13] | skip); try rfl)
            · refine lv_if_ne (tgt := 69) hx hb dX3_joinInto_58 (by decide) (fun c15 => absurd c15 (by decide)) (fun _ => ?_)
              refine lv_aload hx hb dX3_joinInto_61 (lv_at hl 0 rfl) ?_
              refine g_callVi (rest := []) (c_X1_isPledged l D tb ad hj P M r hr V i8 hi9) rfl rfl gm_X1_isPledged hx hb hml hown hts hC hI (ok_rec hr hi9) (e_rec hr hi9 g_us) rfl rfl qm_X3_115 rfl hl.1 rfl ⟨rfl, rfl, by decide, by decide⟩ (Nat.le_of_ble_eq_true rfl) ⟨Nat.zero_le _, Nat.zero_le _⟩ dX3_joinInto_63 (fun H locs hI => ?_)
              refine g_tf (fun c16 => ?_) (fun c16 => ?_)
              · refine lv_if_eq (tgt := 72) hx hb dX3_joinInto_66 (by decide) (fun c17 => absurd c17 (by decide)) (fun _ => ?_)
                refine lv_ldc (v := (-2000000002)) hx hb hown (hts _ qc_X3_106) dX3_joinInto_69 ?_
                exact g_ir hQ hx hb hr0 hlk hC hI dX3_joinInto_71 rfl (by unfold q_join; (try simp only [q1]); (try simp only [q7]); (first | rw [if_pos c10] | rw [if_neg c10] | skip); (first | rw [if_pos c11] | rw [if_neg c11] | skip); (first | rw [if_pos c12] | rw [if_neg c12] | skip); (first | rw [if_pos c13] | rw [if_neg c13] | skip); (first | rw [if_pos c16] | rw [if_neg c16] | skip); try rfl) rfl (by unfold q_join; (try simp only [q1]); (try simp only [q7]); (first | rw [if_pos c10] | rw [if_neg c10] | skip); (first | rw [if_pos c11] | rw [if_neg c11] | skip); (first | rw [if_pos c12] | rw [if_neg c12] | skip); (first | rw [if_pos c13] | rw [if_neg c13] | skip); (first | rw [if_pos c16] | rw [if_neg c16] | skip); try rfl)
              · refine lv_if_eq (tgt := 72) hx hb dX3_joinInto_66 (by decide) (fun _ => ?_) (fun c18 => absurd c18 (by decide))
                refine lv_aload hx hb dX3_joinInto_72 (lv_at hl 0 rfl) ?_
                refine lv_dup hx hb dX3_joinInto_74 rfl ?_
                refine g_get 3 hx hb hts hown hC hI i_X1 (ok_rec hr hi9) (e_rec hr hi9 g_us) rfl (by decide) qf_X3_103 rfl rfl dX3_joinInto_75 ?_
                refine lv_aload_n hx hb dX3_joinInto_78 rfl (lv_at hl 1 rfl) ?_
                refine g_get 3 hx hb hts hown hC hI i_X1 (ok_rec hr hi6) (e_rec hr hi6 g_us) rfl (by decide) qf_X3_103 rfl rfl dX3_joinInto_79 ?_
                refine lv_iadd hx hb dX3_joinInto_82 ?_
                refine g_put 3 (ty := .int) hx hb hts hown hC hI i_X1 tyX1_ok nmX1 (ok_rec hr hi9) (e_rec hr hi9 g_us) rfl (by decide) qf_X3_103 rfl rfl rfl rfl rfl (Nat.le_of_ble_eq_true rfl) (p_rec hr hi9 (by decide)) g_hs dX3_joinInto_83 (fun H locs hI => ?_)
                refine lv_aload_n hx hb dX3_joinInto_86 rfl (lv_at hl 1 rfl) ?_
                refine g_callVv (rest := []) (c_X1_free l D tb ad hj P M r hr (g_w2 V (12 + i8) 3 ((V (12 + i8) 3) + (V (12 + i2) 3))) i2 hi6) rfl rfl gm_X1_free hx hb hml hown hts hC hI (ok_rec hr hi6) (e_rec hr hi6 g_us) rfl rfl qm_X3_119 rfl hl.1 rfl ⟨rfl, rfl, by decide, by decide⟩ (Nat.le_of_ble_eq_true rfl) ⟨Nat.zero_le _, Nat.zero_le _⟩ dX3_joinInto_87 (fun H locs hI => ?_)
                refine lv_aload hx hb dX3_joinInto_90 (lv_at hl 0 rfl) ?_
                refine g_get 3 hx hb hts hown hC hI i_X1 (ok_rec hr hi9) (e_rec hr hi9 g_us) rfl (by decide) qf_X3_103 rfl rfl dX3_joinInto_92 ?_
                exact g_ir hQ hx hb hr0 hlk hC hI dX3_joinInto_95 rfl (by unfold q_join; (try simp only [q1]); (try simp only [q7]); (first | rw [if_pos c10] | rw [if_neg c10] | skip); (first | rw [if_pos c11] | rw [if_neg c11] | skip); (first | rw [if_pos c12] | rw [if_neg c12] | skip); (first | rw [if_pos c13] | rw [if_neg c13] | skip); (first | rw [if_pos c16] | rw [if_neg c16] | skip); try rfl) rfl (by unfold q_join; (try simp only [q1]); (try simp only [q7]); (first | rw [if_pos c10] | rw [if_neg c10] | skip); (first | rw [if_pos c11] | rw [if_neg c11] | skip); (first | rw [if_pos c12] | rw [if_neg c12] | skip); (first | rw [if_pos c13] | rw [if_neg c13] | skip); (first | rw [if_pos c16] | rw [if_neg c16] | skip); try rfl)
      · refine lv_ldc (v := (-2000000001)) hx hb hown (hts _ qc_X3_74) dX3_joinInto_27 ?_
        exact g_ir hQ hx hb hr0 hlk hC hI dX3_joinInto_29 rfl (by unfold q_join; (try simp only [q1]); (try simp only [q7]); (first | rw [if_pos c10] | rw [if_neg c10] | skip); try rfl) rfl (by unfold q_join; (try simp only [q1]); (try simp only [q7]); (first | rw [if_pos c10] | rw [if_neg c10] | skip); try rfl)
def q_price (V : g_V) (g : Int32) (x : Int32) : Int32 × g_V :=
  if k_in g 3 then (if x < 1 then ((-2000000001), V) else (if x ≤ 99 then (V 3 g.toNatClampNeg, (g_w2 V 3 g.toNatClampNeg x)) else ((-2000000001), V))) else ((-2000000001), V)
abbrev rm_X3_changePrice : Room := { frames := 1, cells := 0, slots := 0, locals := 20 }
set_option maxHeartbeats 4000000 in
set_option maxRecDepth 100000 in
theorem c_X3_changePrice (l : Launch) (D : va_G) (tb : g_T) (ad : g_Ad) (hj : g_inj ad) (P : g_P) (M : g_M) (r : Nat) (hr : r < 6) (V : g_V) (g : Int32) (x : Int32) : g_Ci l yX3_changePrice cX3_changePrice 4 (some .int) rm_X3_changePrice D tb ad [.ref (ad r 0), .int g, .int x] P (va_up M r V) ((q_price V g x).1) P (va_up M r ((q_price V g x).2)) := by
  refine g_go (by decide) (Nat.le_of_ble_eq_true rfl) hj ?_
  intro p e s m below meth c ls H locs R args Q hR0 hQ hx hb hml hr0 hlk hown hts hC hI hl
  subst hR0
  have hown : s.vm.findClass RX3 = some m.cls := hown
  have hl : lv_has ls 4 [(0, .ref (ad r 0)), (1, .int g), (2, .int x)] := hl
  refine lv_iload_n hx hb dX3_changePrice_0 rfl (lv_at hl 1 rfl) ?_
  refine g_callNi (rest := []) (c_X4_isGrade l D tb ad hj P (va_up M r V) g) rfl rfl gm_X4_isGrade hx hb hml hown hts hC hI qN_X3_70 rfl hl.1 rfl ⟨rfl, rfl, by decide, by decide⟩ (Nat.le_of_ble_eq_true rfl) ⟨Nat.zero_le _, Nat.zero_le _⟩ dX3_changePrice_1 (fun H locs hI => ?_)
  refine g_tf (fun c1 => ?_) (fun c1 => ?_)
  · refine lv_if_eq (tgt := 18) hx hb dX3_changePrice_4 (by decide) (fun c2 => absurd c2 (by decide)) (fun _ => ?_)
    refine lv_iload_n hx hb dX3_changePrice_7 rfl (lv_at hl 2 rfl) ?_
    refine lv_iconst (v := 1) hx hb dX3_changePrice_8 (by decide) ?_
    refine lv_icmp_lt (tgt := 18) hx hb dX3_changePrice_9 (by decide) (fun c3 => ?_) (fun c3 => ?_)
    · refine lv_ldc (v := (-2000000001)) hx hb hown (hts _ qc_X3_74) dX3_changePrice_18 ?_
      exact g_ir hQ hx hb hr0 hlk hC hI dX3_changePrice_20 rfl (by unfold q_price; (first | rw [if_pos c1] | rw [if_neg c1] | skip); (first | rw [if_pos c3] | rw [if_neg c3] | skip); try rfl) rfl (by unfold q_price; (first | rw [if_pos c1] | rw [if_neg c1] | skip); (first | rw [if_pos c3] | rw [if_neg c3] | skip); try rfl)
    · refine lv_iload_n hx hb dX3_changePrice_12 rfl (lv_at hl 2 rfl) ?_
      refine lv_bipush (v := 99) hx hb dX3_changePrice_13 (by decide) ?_
      refine lv_icmp_le (tgt := 21) hx hb dX3_changePrice_15 (by decide) (fun c4 => ?_) (fun c4 => ?_)
      · refine lv_aload_n hx hb dX3_changePrice_21 rfl (lv_at hl 0 rfl) ?_
        refine g_get 2 hx hb hts hown hC hI i_X3 (ok_c 0 hr (by decide)) (e_st hr g_us) rfl (by decide) qf_X3_23 rfl rfl dX3_changePrice_22 ?_
        refine lv_iload_n hx hb dX3_changePrice_25 rfl (lv_at hl 1 rfl) ?_
        refine g_iald g.toNatClampNeg hx hb hC hI (ok_c 3 hr (by decide)) (e_pr hr g_us) (k_vin c1 rfl) rfl dX3_changePrice_26 ?_
        refine lv_istore_n (lv' := [(3, .int (V 3 g.toNatClampNeg)), (0, .ref (ad r 0)), (1, .int g), (2, .int x)]) hx hb dX3_changePrice_27 rfl hl (by decide) rfl (fun ls hl => ?_)
        refine lv_aload_n hx hb dX3_changePrice_28 rfl (lv_at hl 1 rfl) ?_
        refine g_get 2 hx hb hts hown hC hI i_X3 (ok_c 0 hr (by decide)) (e_st hr g_us) rfl (by decide) qf_X3_23 rfl rfl dX3_changePrice_29 ?_
        refine lv_iload_n hx hb dX3_changePrice_32 rfl (lv_at hl 2 rfl) ?_
        refine lv_iload_n hx hb dX3_changePrice_33 rfl (lv_at hl 3 rfl) ?_
        refine g_iast g.toNatClampNeg hx hb hC hI (ok_c 3 hr (by decide)) (e_pr hr g_us) (k_vin c1 rfl) rfl (p_pr hr) g_hs dX3_changePrice_34 (fun H locs hI => ?_)
        refine lv_iload_n hx hb dX3_changePrice_35 rfl (lv_at hl 0 rfl) ?_
        exact g_ir hQ hx hb hr0 hlk hC hI dX3_changePrice_36 rfl (by unfold q_price; (first | rw [if_pos c1] | rw [if_neg c1] | skip); (first | rw [if_pos c3] | rw [if_neg c3] | skip); (first | rw [if_pos c4] | rw [if_neg c4] | skip); try rfl) rfl (by unfold q_price; (first | rw [if_pos c1] | rw [if_neg c1] | skip); (first | rw [if_pos c3] | rw [if_neg c3] | skip); (first | rw [if_pos c4] | rw [if_neg c4] | skip); try rfl)
      · refine lv_ldc (v := (-2000000001)) hx hb hown (hts _ qc_X3_74) dX3_changePrice_18 ?_
        exact g_ir hQ hx hb hr0 hlk hC hI dX3_changePrice_20 rfl (by unfold q_price; (first | rw [if_pos c1] | rw [if_neg c1] | skip); (first | rw [if_pos c3] | rw [if_neg c3] | skip); (first | rw [if_pos c4] | rw [if_neg c4] | skip); try rfl) rfl (by unfold q_price; (first | rw [if_pos c1] | rw [if_neg c1] | skip); (first | rw [if_pos c3] | rw [if_neg c3] | skip); (first | rw [if_pos c4] | rw [if_neg c4] | skip); try rfl)
  · refine lv_if_eq (tgt := 18) hx hb dX3_changePrice_4 (by decide) (fun _ => ?_) (fun c5 => absurd c5 (by decide))
    refine lv_ldc (v := (-2000000001)) hx hb hown (hts _ qc_X3_74) dX3_changePrice_18 ?_
    exact g_ir hQ hx hb hr0 hlk hC hI dX3_changePrice_20 rfl (by unfold q_price; (first | rw [if_pos c1] | rw [if_neg c1] | skip); try rfl) rfl (by unfold q_price; (first | rw [if_pos c1] | rw [if_neg c1] | skip); try rfl)
def q_pledge (V : g_V) (n : Int32) (le : Int32) (lo : Int32) : Int32 × g_V :=
  match (q_find V n) with | none => ((-2000000001), V) | some i2 => (if k_in le 3 then (if 1 ≤ lo then (if q_pledged V i2 then ((-2000000002), V) else (if (V (12 + i2) 1) = (5 + le) then ((-2000000002), V) else (if lo ≤ (q_greatestLoan V i2) then (q_moneyOf (q_addMoney (g_w2 (g_w2 V (12 + i2) 4 le) (12 + i2) 5 lo) ((g_w2 (g_w2 V (12 + i2) 4 le) (12 + i2) 5 lo) (12 + i2) 1) lo) ((q_addMoney (g_w2 (g_w2 V (12 + i2) 4 le) (12 + i2) 5 lo) ((g_w2 (g_w2 V (12 + i2) 4 le) (12 + i2) 5 lo) (12 + i2) 1) lo) (12 + i2) 1), (q_addMoney (g_w2 (g_w2 V (12 + i2) 4 le) (12 + i2) 5 lo) ((g_w2 (g_w2 V (12 + i2) 4 le) (12 + i2) 5 lo) (12 + i2) 1) lo)) else ((-2000000002), V)))) else ((-2000000001), V)) else ((-2000000001), V))
abbrev rm_X3_pledgeTo : Room := { frames := 2, cells := 0, slots := 0, locals := 45 }
set_option maxHeartbeats 4000000 in
set_option maxRecDepth 100000 in
theorem c_X3_pledgeTo (l : Launch) (D : va_G) (tb : g_T) (ad : g_Ad) (hj : g_inj ad) (P : g_P) (M : g_M) (r : Nat) (hr : r < 6) (V : g_V) (n : Int32) (le : Int32) (lo : Int32) : g_Ci l yX3_pledgeTo cX3_pledgeTo 5 (some .int) rm_X3_pledgeTo D tb ad [.ref (ad r 0), .int n, .int le, .int lo] P (va_up M r V) ((q_pledge V n le lo).1) P (va_up M r ((q_pledge V n le lo).2)) := by
  refine g_go (by decide) (Nat.le_of_ble_eq_true rfl) hj ?_
  intro p e s m below meth c ls H locs R args Q hR0 hQ hx hb hml hr0 hlk hown hts hC hI hl
  subst hR0
  have hown : s.vm.findClass RX3 = some m.cls := hown
  have hl : lv_has ls 5 [(0, .ref (ad r 0)), (1, .int n), (2, .int le), (3, .int lo)] := hl
  refine lv_aload_n hx hb dX3_pledgeTo_0 rfl (lv_at hl 0 rfl) ?_
  refine lv_iload_n hx hb dX3_pledgeTo_1 rfl (lv_at hl 1 rfl) ?_
  refine g_callVq (rest := []) (c_X3_find l D tb ad hj P M r hr V n) rfl rfl gm_X3_find hx hb hml hown hts hC hI (ok_c 0 hr (by decide)) (e_st hr g_us) rfl rfl qm_X3_99 rfl hl.1 rfl ⟨rfl, rfl, by decide, by decide⟩ (Nat.le_of_ble_eq_true rfl) ⟨Nat.zero_le _, Nat.zero_le _⟩ dX3_pledgeTo_2 (fun H locs hI => ?_)
  refine g_nf (fun q1 => ?_) (fun i2 q1 => ?_)
  · refine lv_astoreN (lv' := [(4, .null), (0, .ref (ad r 0)), (1, .int n), (2, .int le), (3, .int lo)]) hx hb dX3_pledgeTo_5 hl (by decide) rfl (fun ls hl => ?_)
    refine lv_aloadN hx hb dX3_pledgeTo_7 (lv_at hl 0 rfl) ?_
    refine lv_ifnullN (tgt := 24) hx hb dX3_pledgeTo_9 (by decide) ?_
    refine lv_ldc (v := (-2000000001)) hx hb hown (hts _ qc_X3_74) dX3_pledgeTo_24 ?_
    exact g_ir hQ hx hb hr0 hlk hC hI dX3_pledgeTo_26 rfl (by unfold q_pledge; (try simp only [q1]); try rfl) rfl (by unfold q_pledge; (try simp only [q1]); try rfl)
  · have hi3 : i2 < 16 := k_find_lt q1
    refine lv_astore (lv' := [(4, .ref (ad r (12 + i2))), (0, .ref (ad r 0)), (1, .int n), (2, .int le), (3, .int lo)]) hx hb dX3_pledgeTo_5 hl (by decide) rfl (fun ls hl => ?_)
    refine lv_aload hx hb dX3_pledgeTo_7 (lv_at hl 0 rfl) ?_
    refine lv_ifnull hx hb dX3_pledgeTo_9 ?_
    refine lv_iload_n hx hb dX3_pledgeTo_12 rfl (lv_at hl 3 rfl) ?_
    refine g_callNi (rest := []) (c_X4_isLender l D tb ad hj P (va_up M r V) le) rfl rfl gm_X4_isLender hx hb hml hown hts hC hI qN_X3_129 rfl hl.1 rfl ⟨rfl, rfl, by decide, by decide⟩ (Nat.le_of_ble_eq_true rfl) ⟨Nat.zero_le _, Nat.zero_le _⟩ dX3_pledgeTo_13 (fun H locs hI => ?_)
    refine g_tf (fun c4 => ?_) (fun c4 => ?_)
    · refine lv_if_eq (tgt := 24) hx hb dX3_pledgeTo_16 (by decide) (fun c5 => absurd c5 (by decide)) (fun _ => ?_)
      refine lv_iload_n hx hb dX3_pledgeTo_19 rfl (lv_at hl 4 rfl) ?_
      refine lv_iconst (v := 1) hx hb dX3_pledgeTo_20 (by decide) ?_
      refine lv_icmp_ge (tgt := 27) hx hb dX3_pledgeTo_21 (by decide) (fun c6 => ?_) (fun c6 => ?_)
      · refine lv_aload hx hb dX3_pledgeTo_27 (lv_at hl 0 rfl) ?_
        refine g_callVi (rest := []) (c_X1_isPledged l D tb ad hj P M r hr V i2 hi3) rfl rfl gm_X1_isPledged hx hb hml hown hts hC hI (ok_rec hr hi3) (e_rec hr hi3 g_us) rfl rfl qm_X3_115 rfl hl.1 rfl ⟨rfl, rfl, by decide, by decide⟩ (Nat.le_of_ble_eq_true rfl) ⟨Nat.zero_le _, Nat.zero_le _⟩ dX3_pledgeTo_29 (fun H locs hI => ?_)
        refine g_tf (fun c7 => ?_) (fun c7 => ?_)
        · refine lv_if_ne (tgt := 56) hx hb dX3_pledgeTo_32 (by decide) (fun _ => ?_) (fun c8 => absurd c8 (by decide))
          refine lv_ldc (v := (-2000000002)) hx hb hown (hts _ qc_X3_106) dX3_pledgeTo_56 ?_
          exact g_ir hQ hx hb hr0 hlk hC hI dX3_pledgeTo_58 rfl (by unfold q_pledge; (try simp only [q1]); (first | rw [if_pos c4] | rw [if_neg c4] | skip); (first | rw [if_pos c6] | rw [if_neg c6] | skip); (first | rw [if_pos c7] | rw [if_neg c7] | skip); try rfl) rfl (by unfold q_pledge; (try simp only [q1]); (first | rw [if_pos c4] | rw [if_neg c4] | skip); (first | rw [if_pos c6] | rw [if_neg c6] | skip); (first | rw [if_pos c7] | rw [if_neg c7] | skip); try rfl)
        · refine lv_if_ne (tgt := 56) hx hb dX3_pledgeTo_32 (by decide) (fun c9 => absurd c9 (by decide)) (fun _ => ?_)
          refine lv_aload hx hb dX3_pledgeTo_35 (lv_at hl 0 rfl) ?_
          refine g_get 1 hx hb hts hown hC hI i_X1 (ok_rec hr hi3) (e_rec hr hi3 g_us) rfl (by decide) qf_X3_107 rfl rfl dX3_pledgeTo_37 ?_
          refine lv_iconst (v := 5) hx hb dX3_pledgeTo_40 (by decide) ?_
          refine lv_iload_n hx hb dX3_pledgeTo_41 rfl (lv_at hl 3 rfl) ?_
          refine lv_iadd hx hb dX3_pledgeTo_42 ?_
          refine lv_icmp_eq (tgt := 56) hx hb dX3_pledgeTo_43 (by decide) (fun c10 => ?_) (fun c10 => ?_)
          · refine lv_ldc (v := (-2000000002)) hx hb hown (hts _ qc_X3_106) dX3_pledgeTo_56 ?_
            exact g_ir hQ hx hb hr0 hlk hC hI dX3_pledgeTo_58 rfl (by unfold q_pledge; (try simp only [q1]); (first | rw [if_pos c4] | rw [if_neg c4] | skip); (first | rw [if_pos c6] | rw [if_neg c6] | skip); (first | rw [if_pos c7] | rw [if_neg c7] | skip); (first | rw [if_pos c10] | rw [if_neg c10] | skip); try rfl) rfl (by unfold q_pledge; (try simp only [q1]); (first | rw [if_pos c4] | rw [if_neg c4] | skip); (first | rw [if_pos c6] | rw [if_neg c6] | skip); (first | rw [if_pos c7] | rw [if_neg c7] | skip); (first | rw [if_pos c10] | rw [if_neg c10] | skip); try rfl)
          · refine lv_iload_n hx hb dX3_pledgeTo_46 rfl (lv_at hl 4 rfl) ?_
            refine lv_aload_n hx hb dX3_pledgeTo_47 rfl (lv_at hl 1 rfl) ?_
            refine lv_aload hx hb dX3_pledgeTo_48 (lv_at hl 0 rfl) ?_
            refine g_callVi (rest := [.int lo]) (c_X3_greatestLoan l D tb ad hj P M r hr V i2 hi3) rfl rfl gm_X3_greatestLoan hx hb hml hown hts hC hI (ok_c 0 hr (by decide)) (e_st hr g_us) rfl rfl qm_X3_132 rfl hl.1 rfl ⟨rfl, rfl, by decide, by decide⟩ (Nat.le_of_ble_eq_true rfl) ⟨Nat.zero_le _, Nat.zero_le _⟩ dX3_pledgeTo_50 (fun H locs hI => ?_)
            refine lv_icmp_le (tgt := 59) hx hb dX3_pledgeTo_53 (by decide) (fun c11 => ?_) (fun c11 => ?_)
            · refine lv_aload hx hb dX3_pledgeTo_59 (lv_at hl 0 rfl) ?_
              refine lv_iload_n hx hb dX3_pledgeTo_61 rfl (lv_at hl 3 rfl) ?_
              refine g_put 4 (ty := .int) hx hb hts hown hC hI i_X1 tyX1_ok nmX1 (ok_rec hr hi3) (e_rec hr hi3 g_us) rfl (by decide) qf_X3_136 rfl rfl rfl rfl rfl (Nat.le_of_ble_eq_true rfl) (p_rec hr hi3 (by decide)) g_hs dX3_pledgeTo_62 (fun H locs hI => ?_)
              refine lv_aload hx hb dX3_pledgeTo_65 (lv_at hl 0 rfl) ?_
              refine lv_iload_n hx hb dX3_pledgeTo_67 rfl (lv_at hl 4 rfl) ?_
              refine g_put 5 (ty := .int) hx hb hts hown hC hI i_X1 tyX1_ok nmX1 (ok_rec hr hi3) (e_rec hr hi3 g_us) rfl (by decide) qf_X3_139 rfl rfl rfl rfl rfl (Nat.le_of_ble_eq_true rfl) (p_rec hr hi3 (by decide)) g_hs dX3_pledgeTo_68 (fun H locs hI => ?_)
              refine lv_aload_n hx hb dX3_pledgeTo_71 rfl (lv_at hl 1 rfl) ?_
              refine lv_aload hx hb dX3_pledgeTo_72 (lv_at hl 0 rfl) ?_
              refine g_get 1 hx hb hts hown hC hI i_X1 (ok_rec hr hi3) (e_rec hr hi3 g_us) rfl (by decide) qf_X3_107 rfl rfl dX3_pledgeTo_74 ?_
              refine lv_iload_n hx hb dX3_pledgeTo_77 rfl (lv_at hl 4 rfl) ?_
              refine g_callVv (rest := []) (c_X3_addMoney l D tb ad hj P M r hr (g_w2 (g_w2 V (12 + i2) 4 le) (12 + i2) 5 lo) ((g_w2 (g_w2 V (12 + i2) 4 le) (12 + i2) 5 lo) (12 + i2) 1) lo) rfl rfl gm_X3_addMoney hx hb hml hown hts hC hI (ok_c 0 hr (by decide)) (e_st hr g_us) rfl rfl qm_X3_142 rfl hl.1 rfl ⟨rfl, rfl, by decide, by decide⟩ (Nat.le_of_ble_eq_true rfl) ⟨Nat.zero_le _, Nat.zero_le _⟩ dX3_pledgeTo_78 (fun H locs hI => ?_)
              refine lv_aload_n hx hb dX3_pledgeTo_81 rfl (lv_at hl 1 rfl) ?_
              refine lv_aload hx hb dX3_pledgeTo_82 (lv_at hl 0 rfl) ?_
              refine g_get 1 hx hb hts hown hC hI i_X1 (ok_rec hr hi3) (e_rec hr hi3 g_us) rfl (by decide) qf_X3_107 rfl rfl dX3_pledgeTo_84 ?_
              refine g_callVi (rest := []) (c_X3_moneyOf l D tb ad hj P M r hr (q_addMoney (g_w2 (g_w2 V (12 + i2) 4 le) (12 + i2) 5 lo) ((g_w2 (g_w2 V (12 + i2) 4 le) (12 + i2) 5 lo) (12 + i2) 1) lo) ((q_addMoney (g_w2 (g_w2 V (12 + i2) 4 le) (12 + i2) 5 lo) ((g_w2 (g_w2 V (12 + i2) 4 le) (12 + i2) 5 lo) (12 + i2) 1) lo) (12 + i2) 1)) rfl rfl gm_X3_moneyOf hx hb hml hown hts hC hI (ok_c 0 hr (by decide)) (e_st hr g_us) rfl rfl qm_X3_145 rfl hl.1 rfl ⟨rfl, rfl, by decide, by decide⟩ (Nat.le_of_ble_eq_true rfl) ⟨Nat.zero_le _, Nat.zero_le _⟩ dX3_pledgeTo_87 (fun H locs hI => ?_)
              exact g_ir hQ hx hb hr0 hlk hC hI dX3_pledgeTo_90 rfl (by unfold q_pledge; (try simp only [q1]); (first | rw [if_pos c4] | rw [if_neg c4] | skip); (first | rw [if_pos c6] | rw [if_neg c6] | skip); (first | rw [if_pos c7] | rw [if_neg c7] | skip); (first | rw [if_pos c10] | rw [if_neg c10] | skip); (first | rw [if_pos c11] | rw [if_neg c11] | skip); try rfl) rfl (by unfold q_pledge; (try simp only [q1]); (first | rw [if_pos c4] | rw [if_neg c4] | skip); (first | rw [if_pos c6] | rw [if_neg c6] | skip); (first | rw [if_pos c7] | rw [if_neg c7] | skip); (first | rw [if_pos c10] | rw [if_neg c10] | skip); (first | rw [if_pos c11] | rw [if_neg c11] | skip); try rfl)
            · refine lv_ldc (v := (-2000000002)) hx hb hown (hts _ qc_X3_106) dX3_pledgeTo_56 ?_
              exact g_ir hQ hx hb hr0 hlk hC hI dX3_pledgeTo_58 rfl (by unfold q_pledge; (try simp only [q1]); (first | rw [if_pos c4] | rw [if_neg c4] | skip); (first | rw [if_pos c6] | rw [if_neg c6] | skip); (first | rw [if_pos c7] | rw [if_neg c7] | skip); (first | rw [if_pos c10] | rw [if_neg c10] | skip); (first | rw [if_pos c11] | rw [if_neg c11] | skip); try rfl) rfl (by unfold q_pledge; (try simp only [q1]); (first | rw [if_pos c4] | rw [if_neg c4] | skip); (first | rw [if_pos c6] | rw [if_neg c6] | skip); (first | rw [if_pos c7] | rw [if_neg c7] | skip); (first | rw [if_pos c10] | rw [if_neg c10] | skip); (first | rw [if_pos c11] | rw [if_neg c11] | skip); try rfl)
      · refine lv_ldc (v := (-2000000001)) hx hb hown (hts _ qc_X3_74) dX3_pledgeTo_24 ?_
        exact g_ir hQ hx hb hr0 hlk hC hI dX3_pledgeTo_26 rfl (by unfold q_pledge; (try simp only [q1]); (first | rw [if_pos c4] | rw [if_neg c4] | skip); (first | rw [if_pos c6] | rw [if_neg c6] | skip); try rfl) rfl (by unfold q_pledge; (try simp only [q1]); (first | rw [if_pos c4] | rw [if_neg c4] | skip); (first | rw [if_pos c6] | rw [if_neg c6] | skip); try rfl)
    · refine lv_if_eq (tgt := 24) hx hb dX3_pledgeTo_16 (by decide) (fun _ => ?_) (fun c12 => absurd c12 (by decide))
      refine lv_ldc (v := (-2000000001)) hx hb hown (hts _ qc_X3_74) dX3_pledgeTo_24 ?_
      exact g_ir hQ hx hb hr0 hlk hC hI dX3_pledgeTo_26 rfl (by unfold q_pledge; (try simp only [q1]); (first | rw [if_pos c4] | rw [if_neg c4] | skip); try rfl) rfl (by unfold q_pledge; (try simp only [q1]); (first | rw [if_pos c4] | rw [if_neg c4] | skip); try rfl)
def q_repay (V : g_V) (n : Int32) (a : Int32) : Int32 × g_V :=
  match (q_find V n) with | none => ((-2000000001), V) | some i2 => (if 1 ≤ a then (if q_pledged V i2 then (if a ≤ (V (12 + i2) 5) then (if ((q_addMoney (g_w2 V (12 + i2) 5 ((V (12 + i2) 5) - a)) ((g_w2 V (12 + i2) 5 ((V (12 + i2) 5) - a)) (12 + i2) 1) (-a)) (12 + i2) 5) = 0 then ((q_endPledge (q_addMoney (g_w2 V (12 + i2) 5 ((V (12 + i2) 5) - a)) ((g_w2 V (12 + i2) 5 ((V (12 + i2) 5) - a)) (12 + i2) 1) (-a)) i2) (12 + i2) 5, (q_endPledge (q_addMoney (g_w2 V (12 + i2) 5 ((V (12 + i2) 5) - a)) ((g_w2 V (12 + i2) 5 ((V (12 + i2) 5) - a)) (12 + i2) 1) (-a)) i2)) else (if q_tooHigh (q_addMoney (g_w2 V (12 + i2) 5 ((V (12 + i2) 5) - a)) ((g_w2 V (12 + i2) 5 ((V (12 + i2) 5) - a)) (12 + i2) 1) (-a)) i2 then ((q_addMoney (g_w2 V (12 + i2) 5 ((V (12 + i2) 5) - a)) ((g_w2 V (12 + i2) 5 ((V (12 + i2) 5) - a)) (12 + i2) 1) (-a)) (12 + i2) 5, (q_addMoney (g_w2 V (12 + i2) 5 ((V (12 + i2) 5) - a)) ((g_w2 V (12 + i2) 5 ((V (12 + i2) 5) - a)) (12 + i2) 1) (-a))) else ((g_w2 (q_addMoney (g_w2 V (12 + i2) 5 ((V (12 + i2) 5) - a)) ((g_w2 V (12 + i2) 5 ((V (12 + i2) 5) - a)) (12 + i2) 1) (-a)) (12 + i2) 6 0) (12 + i2) 5, (g_w2 (q_addMoney (g_w2 V (12 + i2) 5 ((V (12 + i2) 5) - a)) ((g_w2 V (12 + i2) 5 ((V (12 + i2) 5) - a)) (12 + i2) 1) (-a)) (12 + i2) 6 0)))) else ((-2000000002), V)) else ((-2000000002), V)) else ((-2000000001), V))
abbrev rm_X3_payBack : Room := { frames := 2, cells := 0, slots := 0, locals := 45 }
set_option maxHeartbeats 4000000 in
set_option maxRecDepth 100000 in
theorem c_X3_payBack (l : Launch) (D : va_G) (tb : g_T) (ad : g_Ad) (hj : g_inj ad) (P : g_P) (M : g_M) (r : Nat) (hr : r < 6) (V : g_V) (n : Int32) (a : Int32) : g_Ci l yX3_payBack cX3_payBack 4 (some .int) rm_X3_payBack D tb ad [.ref (ad r 0), .int n, .int a] P (va_up M r V) ((q_repay V n a).1) P (va_up M r ((q_repay V n a).2)) := by
  refine g_go (by decide) (Nat.le_of_ble_eq_true rfl) hj ?_
  intro p e s m below meth c ls H locs R args Q hR0 hQ hx hb hml hr0 hlk hown hts hC hI hl
  subst hR0
  have hown : s.vm.findClass RX3 = some m.cls := hown
  have hl : lv_has ls 4 [(0, .ref (ad r 0)), (1, .int n), (2, .int a)] := hl
  refine lv_aload_n hx hb dX3_payBack_0 rfl (lv_at hl 0 rfl) ?_
  refine lv_iload_n hx hb dX3_payBack_1 rfl (lv_at hl 1 rfl) ?_
  refine g_callVq (rest := []) (c_X3_find l D tb ad hj P M r hr V n) rfl rfl gm_X3_find hx hb hml hown hts hC hI (ok_c 0 hr (by decide)) (e_st hr g_us) rfl rfl qm_X3_99 rfl hl.1 rfl ⟨rfl, rfl, by decide, by decide⟩ (Nat.le_of_ble_eq_true rfl) ⟨Nat.zero_le _, Nat.zero_le _⟩ dX3_payBack_2 (fun H locs hI => ?_)
  refine g_nf (fun q1 => ?_) (fun i2 q1 => ?_)
  · refine lv_astore_nN (lv' := [(3, .null), (0, .ref (ad r 0)), (1, .int n), (2, .int a)]) hx hb dX3_payBack_5 rfl hl (by decide) rfl (fun ls hl => ?_)
    refine lv_aload_nN hx hb dX3_payBack_6 rfl (lv_at hl 0 rfl) ?_
    refine lv_ifnullN (tgt := 15) hx hb dX3_payBack_7 (by decide) ?_
    refine lv_ldc (v := (-2000000001)) hx hb hown (hts _ qc_X3_74) dX3_payBack_15 ?_
    exact g_ir hQ hx hb hr0 hlk hC hI dX3_payBack_17 rfl (by unfold q_repay; (try simp only [q1]); try rfl) rfl (by unfold q_repay; (try simp only [q1]); try rfl)
  · have hi3 : i2 < 16 := k_find_lt q1
    refine lv_astore_n (lv' := [(3, .ref (ad r (12 + i2))), (0, .ref (ad r 0)), (1, .int n), (2, .int a)]) hx hb dX3_payBack_5 rfl hl (by decide) rfl (fun ls hl => ?_)
    refine lv_aload_n hx hb dX3_payBack_6 rfl (lv_at hl 0 rfl) ?_
    refine lv_ifnull hx hb dX3_payBack_7 ?_
    refine lv_iload_n hx hb dX3_payBack_10 rfl (lv_at hl 3 rfl) ?_
    refine lv_iconst (v := 1) hx hb dX3_payBack_11 (by decide) ?_
    refine lv_icmp_ge (tgt := 18) hx hb dX3_payBack_12 (by decide) (fun c4 => ?_) (fun c4 => ?_)
    · refine lv_aload_n hx hb dX3_payBack_18 rfl (lv_at hl 0 rfl) ?_
      refine g_callVi (rest := []) (c_X1_isPledged l D tb ad hj P M r hr V i2 hi3) rfl rfl gm_X1_isPledged hx hb hml hown hts hC hI (ok_rec hr hi3) (e_rec hr hi3 g_us) rfl rfl qm_X3_115 rfl hl.1 rfl ⟨rfl, rfl, by decide, by decide⟩ (Nat.le_of_ble_eq_true rfl) ⟨Nat.zero_le _, Nat.zero_le _⟩ dX3_payBack_19 (fun H locs hI => ?_)
      refine g_tf (fun c5 => ?_) (fun c5 => ?_)
      · refine lv_if_eq (tgt := 33) hx hb dX3_payBack_22 (by decide) (fun c6 => absurd c6 (by decide)) (fun _ => ?_)
        refine lv_aload_n hx hb dX3_payBack_25 rfl (lv_at hl 0 rfl) ?_
        refine g_get 5 hx hb hts hown hC hI i_X1 (ok_rec hr hi3) (e_rec hr hi3 g_us) rfl (by decide) qf_X3_139 rfl rfl dX3_payBack_26 ?_
        refine lv_iload_n hx hb dX3_payBack_29 rfl (lv_at hl 3 rfl) ?_
        refine lv_icmp_ge (tgt := 36) hx hb dX3_payBack_30 (by decide) (fun c7 => ?_) (fun c7 => ?_)
        · refine lv_aload_n hx hb dX3_payBack_36 rfl (lv_at hl 0 rfl) ?_
          refine lv_dup hx hb dX3_payBack_37 rfl ?_
          refine g_get 5 hx hb hts hown hC hI i_X1 (ok_rec hr hi3) (e_rec hr hi3 g_us) rfl (by decide) qf_X3_139 rfl rfl dX3_payBack_38 ?_
          refine lv_iload_n hx hb dX3_payBack_41 rfl (lv_at hl 3 rfl) ?_
          refine lv_isub hx hb dX3_payBack_42 ?_
          refine g_put 5 (ty := .int) hx hb hts hown hC hI i_X1 tyX1_ok nmX1 (ok_rec hr hi3) (e_rec hr hi3 g_us) rfl (by decide) qf_X3_139 rfl rfl rfl rfl rfl (Nat.le_of_ble_eq_true rfl) (p_rec hr hi3 (by decide)) g_hs dX3_payBack_43 (fun H locs hI => ?_)
          refine lv_aload_n hx hb dX3_payBack_46 rfl (lv_at hl 1 rfl) ?_
          refine lv_aload_n hx hb dX3_payBack_47 rfl (lv_at hl 0 rfl) ?_
          refine g_get 1 hx hb hts hown hC hI i_X1 (ok_rec hr hi3) (e_rec hr hi3 g_us) rfl (by decide) qf_X3_107 rfl rfl dX3_payBack_48 ?_
          refine lv_iload_n hx hb dX3_payBack_51 rfl (lv_at hl 3 rfl) ?_
          refine lv_ineg hx hb dX3_payBack_52 ?_
          refine g_callVv (rest := []) (c_X3_addMoney l D tb ad hj P M r hr (g_w2 V (12 + i2) 5 ((V (12 + i2) 5) - a)) ((g_w2 V (12 + i2) 5 ((V (12 + i2) 5) - a)) (12 + i2) 1) (-a)) rfl rfl gm_X3_addMoney hx hb hml hown hts hC hI (ok_c 0 hr (by decide)) (e_st hr g_us) rfl rfl qm_X3_142 rfl hl.1 rfl ⟨rfl, rfl, by decide, by decide⟩ (Nat.le_of_ble_eq_true rfl) ⟨Nat.zero_le _, Nat.zero_le _⟩ dX3_payBack_53 (fun H locs hI => ?_)
          refine lv_aload_n hx hb dX3_payBack_56 rfl (lv_at hl 0 rfl) ?_
          refine g_get 5 hx hb hts hown hC hI i_X1 (ok_rec hr hi3) (e_rec hr hi3 g_us) rfl (by decide) qf_X3_139 rfl rfl dX3_payBack_57 ?_
          refine lv_if_ne (tgt := 70) hx hb dX3_payBack_60 (by decide) (fun c8 => ?_) (fun c8 => ?_)
          · refine lv_aload_n hx hb dX3_payBack_70 rfl (lv_at hl 1 rfl) ?_
            refine lv_aload_n hx hb dX3_payBack_71 rfl (lv_at hl 0 rfl) ?_
            refine g_callVi (rest := []) (c_X3_isLoanTooHigh l D tb ad hj P M r hr (q_addMoney (g_w2 V (12 + i2) 5 ((V (12 + i2) 5) - a)) ((g_w2 V (12 + i2) 5 ((V (12 + i2) 5) - a)) (12 + i2) 1) (-a)) i2 hi3) rfl rfl gm_X3_isLoanTooHigh hx hb hml hown hts hC hI (ok_c 0 hr (by decide)) (e_st hr g_us) rfl rfl qm_X3_151 rfl hl.1 rfl ⟨rfl, rfl, by decide, by decide⟩ (Nat.le_of_ble_eq_true rfl) ⟨Nat.zero_le _, Nat.zero_le _⟩ dX3_payBack_72 (fun H locs hI => ?_)
            refine g_tf (fun c9 => ?_) (fun c9 => ?_)
            · refine lv_if_ne (tgt := 83) hx hb dX3_payBack_75 (by decide) (fun _ => ?_) (fun c10 => absurd c10 (by decide))
              refine lv_aload_n hx hb dX3_payBack_83 rfl (lv_at hl 0 rfl) ?_
              refine g_get 5 hx hb hts hown hC hI i_X1 (ok_rec hr hi3) (e_rec hr hi3 g_us) rfl (by decide) qf_X3_139 rfl rfl dX3_payBack_84 ?_
              exact g_ir hQ hx hb hr0 hlk hC hI dX3_payBack_87 rfl (by unfold q_repay; (try simp only [q1]); (first | rw [if_pos c4] | rw [if_neg c4] | skip); (first | rw [if_pos c5] | rw [if_neg c5] | skip); (first | rw [if_pos c7] | rw [if_neg c7] | skip); (first | rw [if_pos c8] | rw [if_neg c8] | skip); (first | rw [if_pos c9] | rw [if_neg c9] | skip); try rfl) rfl (by unfold q_repay; (try simp only [q1]); (first | rw [if_pos c4] | rw [if_neg c4] | skip); (first | rw [if_pos c5] | rw [if_neg c5] | skip); (first | rw [if_pos c7] | rw [if_neg c7] | skip); (first | rw [if_pos c8] | rw [if_neg c8] | skip); (first | rw [if_pos c9] | rw [if_neg c9] | skip); try rfl)
            · refine lv_if_ne (tgt := 83) hx hb dX3_payBack_75 (by decide) (fun c11 => absurd c11 (by decide)) (fun _ => ?_)
              refine lv_aload_n hx hb dX3_payBack_78 rfl (lv_at hl 0 rfl) ?_
              refine lv_iconst (v := 0) hx hb dX3_payBack_79 (by decide) ?_
              refine g_put 6 (ty := .int) hx hb hts hown hC hI i_X1 tyX1_ok nmX1 (ok_rec hr hi3) (e_rec hr hi3 g_us) rfl (by decide) qf_X3_155 rfl rfl rfl rfl rfl (Nat.le_of_ble_eq_true rfl) (p_rec hr hi3 (by decide)) g_hs dX3_payBack_80 (fun H locs hI => ?_)
              refine lv_aload_n hx hb dX3_payBack_83 rfl (lv_at hl 0 rfl) ?_
              refine g_get 5 hx hb hts hown hC hI i_X1 (ok_rec hr hi3) (e_rec hr hi3 g_us) rfl (by decide) qf_X3_139 rfl rfl dX3_payBack_84 ?_
              exact g_ir hQ hx hb hr0 hlk hC hI dX3_payBack_87 rfl (by unfold q_repay; (try simp only [q1]); (first | rw [if_pos c4] | rw [if_neg c4] | skip); (first | rw [if_pos c5] | rw [if_neg c5] | skip); (first | rw [if_pos c7] | rw [if_neg c7] | skip); (first | rw [if_pos c8] | rw [if_neg c8] | skip); (first | rw [if_pos c9] | rw [if_neg c9] | skip); try rfl) rfl (by unfold q_repay; (try simp only [q1]); (first | rw [if_pos c4] | rw [if_neg c4] | skip); (first | rw [if_pos c5] | rw [if_neg c5] | skip); (first | rw [if_pos c7] | rw [if_neg c7] | skip); (first | rw [if_pos c8] | rw [if_neg c8] | skip); (first | rw [if_pos c9] | rw [if_neg c9] | skip); try rfl)
          · refine lv_aload_n hx hb dX3_payBack_63 rfl (lv_at hl 0 rfl) ?_
            refine g_callVv (rest := []) (c_X1_endPledge l D tb ad hj P M r hr (q_addMoney (g_w2 V (12 + i2) 5 ((V (12 + i2) 5) - a)) ((g_w2 V (12 + i2) 5 ((V (12 + i2) 5) - a)) (12 + i2) 1) (-a)) i2 hi3) rfl rfl gm_X1_endPledge hx hb hml hown hts hC hI (ok_rec hr hi3) (e_rec hr hi3 g_us) rfl rfl qm_X3_148 rfl hl.1 rfl ⟨rfl, rfl, by decide, by decide⟩ (Nat.le_of_ble_eq_true rfl) ⟨Nat.zero_le _, Nat.zero_le _⟩ dX3_payBack_64 (fun H locs hI => ?_)
            refine lv_goto (tgt := 83) hx hb dX3_payBack_67 (by decide) ?_
            refine lv_aload_n hx hb dX3_payBack_83 rfl (lv_at hl 0 rfl) ?_
            refine g_get 5 hx hb hts hown hC hI i_X1 (ok_rec hr hi3) (e_rec hr hi3 g_us) rfl (by decide) qf_X3_139 rfl rfl dX3_payBack_84 ?_
            exact g_ir hQ hx hb hr0 hlk hC hI dX3_payBack_87 rfl (by unfold q_repay; (try simp only [q1]); (first | rw [if_pos c4] | rw [if_neg c4] | skip); (first | rw [if_pos c5] | rw [if_neg c5] | skip); (first | rw [if_pos c7] | rw [if_neg c7] | skip); (first | rw [if_pos c8] | rw [if_neg c8] | skip); try rfl) rfl (by unfold q_repay; (try simp only [q1]); (first | rw [if_pos c4] | rw [if_neg c4] | skip); (first | rw [if_pos c5] | rw [if_neg c5] | skip); (first | rw [if_pos c7] | rw [if_neg c7] | skip); (first | rw [if_pos c8] | rw [if_neg c8] | skip); try rfl)
        · refine lv_ldc (v := (-2000000002)) hx hb hown (hts _ qc_X3_106) dX3_payBack_33 ?_
          exact g_ir hQ hx hb hr0 hlk hC hI dX3_payBack_35 rfl (by unfold q_repay; (try simp only [q1]); (first | rw [if_pos c4] | rw [if_neg c4] | skip); (first | rw [if_pos c5] | rw [if_neg c5] | skip); (first | rw [if_pos c7] | rw [if_neg c7] | skip); try rfl) rfl (by unfold q_repay; (try simp only [q1]); (first | rw [if_pos c4] | rw [if_neg c4] | skip); (first | rw [if_pos c5] | rw [if_neg c5] | skip); (first | rw [if_pos c7] | rw [if_neg c7] | skip); try rfl)
      · refine lv_if_eq (tgt := 33) hx hb dX3_payBack_22 (by decide) (fun _ => ?_) (fun c12 => absurd c12 (by decide))
        refine lv_ldc (v := (-2000000002)) hx hb hown (hts _ qc_X3_106) dX3_payBack_33 ?_
        exact g_ir hQ hx hb hr0 hlk hC hI dX3_payBack_35 rfl (by unfold q_repay; (try simp only [q1]); (first | rw [if_pos c4] | rw [if_neg c4] | skip); (first | rw [if_pos c5] | rw [if_neg c5] | skip); try rfl) rfl (by unfold q_repay; (try simp only [q1]); (first | rw [if_pos c4] | rw [if_neg c4] | skip); (first | rw [if_pos c5] | rw [if_neg c5] | skip); try rfl)
    · refine lv_ldc (v := (-2000000001)) hx hb hown (hts _ qc_X3_74) dX3_payBack_15 ?_
      exact g_ir hQ hx hb hr0 hlk hC hI dX3_payBack_17 rfl (by unfold q_repay; (try simp only [q1]); (first | rw [if_pos c4] | rw [if_neg c4] | skip); try rfl) rfl (by unfold q_repay; (try simp only [q1]); (first | rw [if_pos c4] | rw [if_neg c4] | skip); try rfl)
def q_split (V : g_V) (n : Int32) (a : Int32) : Int32 × g_V :=
  match (q_find V n) with | none => ((-2000000001), V) | some i2 => (if 1 ≤ a then (if a < (V (12 + i2) 3) then (match (q_freePlace V) with | none => ((-2000000003), V) | some i7 => ((g_w2 (q_splitLoanA (q_use (q_next V) i7 (V 0 7) ((q_next V) (12 + i2) 1) ((q_next V) (12 + i2) 2) a) i2 i7) (12 + i2) 3 (((q_splitLoanA (q_use (q_next V) i7 (V 0 7) ((q_next V) (12 + i2) 1) ((q_next V) (12 + i2) 2) a) i2 i7) (12 + i2) 3) - a)) (12 + i7) 0, (g_w2 (q_splitLoanA (q_use (q_next V) i7 (V 0 7) ((q_next V) (12 + i2) 1) ((q_next V) (12 + i2) 2) a) i2 i7) (12 + i2) 3 (((q_splitLoanA (q_use (q_next V) i7 (V 0 7) ((q_next V) (12 + i2) 1) ((q_next V) (12 + i2) 2) a) i2 i7) (12 + i2) 3) - a)))) else ((-2000000002), V)) else ((-2000000001), V))
abbrev rm_X3_splitOff : Room := { frames := 2, cells := 0, slots := 0, locals := 45 }
set_option maxHeartbeats 4000000 in
set_option maxRecDepth 100000 in
theorem c_X3_splitOff (l : Launch) (D : va_G) (tb : g_T) (ad : g_Ad) (hj : g_inj ad) (P : g_P) (M : g_M) (r : Nat) (hr : r < 6) (V : g_V) (n : Int32) (a : Int32) : g_Ci l yX3_splitOff cX3_splitOff 5 (some .int) rm_X3_splitOff D tb ad [.ref (ad r 0), .int n, .int a] P (va_up M r V) ((q_split V n a).1) P (va_up M r ((q_split V n a).2)) := by
  refine g_go (by decide) (Nat.le_of_ble_eq_true rfl) hj ?_
  intro p e s m below meth c ls H locs R args Q hR0 hQ hx hb hml hr0 hlk hown hts hC hI hl
  subst hR0
  have hown : s.vm.findClass RX3 = some m.cls := hown
  have hl : lv_has ls 5 [(0, .ref (ad r 0)), (1, .int n), (2, .int a)] := hl
  refine lv_aload_n hx hb dX3_splitOff_0 rfl (lv_at hl 0 rfl) ?_
  refine lv_iload_n hx hb dX3_splitOff_1 rfl (lv_at hl 1 rfl) ?_
  refine g_callVq (rest := []) (c_X3_find l D tb ad hj P M r hr V n) rfl rfl gm_X3_find hx hb hml hown hts hC hI (ok_c 0 hr (by decide)) (e_st hr g_us) rfl rfl qm_X3_99 rfl hl.1 rfl ⟨rfl, rfl, by decide, by decide⟩ (Nat.le_of_ble_eq_true rfl) ⟨Nat.zero_le _, Nat.zero_le _⟩ dX3_splitOff_2 (fun H locs hI => ?_)
  refine g_nf (fun q1 => ?_) (fun i2 q1 => ?_)
  · refine lv_astore_nN (lv' := [(3, .null), (0, .ref (ad r 0)), (1, .int n), (2, .int a)]) hx hb dX3_splitOff_5 rfl hl (by decide) rfl (fun ls hl => ?_)
    refine lv_aload_nN hx hb dX3_splitOff_6 rfl (lv_at hl 0 rfl) ?_
    refine lv_ifnullN (tgt := 15) hx hb dX3_splitOff_7 (by decide) ?_
    refine lv_ldc (v := (-2000000001)) hx hb hown (hts _ qc_X3_74) dX3_splitOff_15 ?_
    exact g_ir hQ hx hb hr0 hlk hC hI dX3_splitOff_17 rfl (by unfold q_split; (try simp only [q1]); try rfl) rfl (by unfold q_split; (try simp only [q1]); try rfl)
  · have hi3 : i2 < 16 := k_find_lt q1
    refine lv_astore_n (lv' := [(3, .ref (ad r (12 + i2))), (0, .ref (ad r 0)), (1, .int n), (2, .int a)]) hx hb dX3_splitOff_5 rfl hl (by decide) rfl (fun ls hl => ?_)
    refine lv_aload_n hx hb dX3_splitOff_6 rfl (lv_at hl 0 rfl) ?_
    refine lv_ifnull hx hb dX3_splitOff_7 ?_
    refine lv_iload_n hx hb dX3_splitOff_10 rfl (lv_at hl 3 rfl) ?_
    refine lv_iconst (v := 1) hx hb dX3_splitOff_11 (by decide) ?_
    refine lv_icmp_ge (tgt := 18) hx hb dX3_splitOff_12 (by decide) (fun c4 => ?_) (fun c4 => ?_)
    · refine lv_iload_n hx hb dX3_splitOff_18 rfl (lv_at hl 3 rfl) ?_
      refine lv_aload_n hx hb dX3_splitOff_19 rfl (lv_at hl 0 rfl) ?_
      refine g_get 3 hx hb hts hown hC hI i_X1 (ok_rec hr hi3) (e_rec hr hi3 g_us) rfl (by decide) qf_X3_103 rfl rfl dX3_splitOff_20 ?_
      refine lv_icmp_lt (tgt := 29) hx hb dX3_splitOff_23 (by decide) (fun c5 => ?_) (fun c5 => ?_)
      · refine lv_aload_n hx hb dX3_splitOff_29 rfl (lv_at hl 1 rfl) ?_
        refine g_callVq (rest := []) (c_X3_freePlace l D tb ad hj P M r hr V) rfl rfl gm_X3_freePlace hx hb hml hown hts hC hI (ok_c 0 hr (by decide)) (e_st hr g_us) rfl rfl qm_X3_75 rfl hl.1 rfl ⟨rfl, rfl, by decide, by decide⟩ (Nat.le_of_ble_eq_true rfl) ⟨Nat.zero_le _, Nat.zero_le _⟩ dX3_splitOff_30 (fun H locs hI => ?_)
        refine g_nf (fun q6 => ?_) (fun i7 q6 => ?_)
        · refine lv_astoreN (lv' := [(4, .null), (3, .ref (ad r (12 + i2))), (0, .ref (ad r 0)), (1, .int n), (2, .int a)]) hx hb dX3_splitOff_33 hl (by decide) rfl (fun ls hl => ?_)
          refine lv_aloadN hx hb dX3_splitOff_35 (lv_at hl 0 rfl) ?_
          refine lv_ifnonnullN hx hb dX3_splitOff_37 ?_
          refine lv_ldc (v := (-2000000003)) hx hb hown (hts _ qc_X3_83) dX3_splitOff_40 ?_
          exact g_ir hQ hx hb hr0 hlk hC hI dX3_splitOff_42 rfl (by unfold q_split; (try simp only [q1]); (first | rw [if_pos c4] | rw [if_neg c4] | skip); (first | rw [if_pos c5] | rw [if_neg c5] | skip); (try simp only [q6]); try rfl) rfl (by unfold q_split; (try simp only [q1]); (first | rw [if_pos c4] | rw [if_neg c4] | skip); (first | rw [if_pos c5] | rw [if_neg c5] | skip); (try simp only [q6]); try rfl)
        · have hi8 : i7 < 16 := k_find_lt q6
          refine lv_astore (lv' := [(4, .ref (ad r (12 + i7))), (3, .ref (ad r (12 + i2))), (0, .ref (ad r 0)), (1, .int n), (2, .int a)]) hx hb dX3_splitOff_33 hl (by decide) rfl (fun ls hl => ?_)
          refine lv_aload hx hb dX3_splitOff_35 (lv_at hl 0 rfl) ?_
          refine lv_ifnonnull (tgt := 43) hx hb dX3_splitOff_37 (by decide) ?_
          refine lv_aload hx hb dX3_splitOff_43 (lv_at hl 0 rfl) ?_
          refine lv_aload_n hx hb dX3_splitOff_45 rfl (lv_at hl 2 rfl) ?_
          refine g_callVi (rest := [.ref (ad r (12 + i7))]) (c_X3_nextNumber l D tb ad hj P M r hr V) rfl rfl gm_X3_nextNumber hx hb hml hown hts hC hI (ok_c 0 hr (by decide)) (e_st hr g_us) rfl rfl qm_X3_88 rfl hl.1 rfl ⟨rfl, rfl, by decide, by decide⟩ (Nat.le_of_ble_eq_true rfl) ⟨Nat.zero_le _, Nat.zero_le _⟩ dX3_splitOff_46 (fun H locs hI => ?_)
          refine lv_aload_n hx hb dX3_splitOff_49 rfl (lv_at hl 1 rfl) ?_
          refine g_get 1 hx hb hts hown hC hI i_X1 (ok_rec hr hi3) (e_rec hr hi3 g_us) rfl (by decide) qf_X3_107 rfl rfl dX3_splitOff_50 ?_
          refine lv_aload_n hx hb dX3_splitOff_53 rfl (lv_at hl 1 rfl) ?_
          refine g_get 2 hx hb hts hown hC hI i_X1 (ok_rec hr hi3) (e_rec hr hi3 g_us) rfl (by decide) qf_X3_110 rfl rfl dX3_splitOff_54 ?_
          refine lv_iload_n hx hb dX3_splitOff_57 rfl (lv_at hl 4 rfl) ?_
          refine g_callVv (rest := []) (c_X1_use l D tb ad hj P M r hr (q_next V) i7 hi8 (V 0 7) ((q_next V) (12 + i2) 1) ((q_next V) (12 + i2) 2) a) rfl rfl gm_X1_use hx hb hml hown hts hC hI (ok_rec hr hi8) (e_rec hr hi8 g_us) rfl rfl qm_X3_92 rfl hl.1 rfl ⟨rfl, rfl, by decide, by decide⟩ (Nat.le_of_ble_eq_true rfl) ⟨Nat.zero_le _, Nat.zero_le _⟩ dX3_splitOff_58 (fun H locs hI => ?_)
          refine lv_aload_n hx hb dX3_splitOff_61 rfl (lv_at hl 2 rfl) ?_
          refine lv_aload_n hx hb dX3_splitOff_62 rfl (lv_at hl 1 rfl) ?_
          refine lv_aload hx hb dX3_splitOff_63 (lv_at hl 0 rfl) ?_
          refine g_callVv (rest := []) (c_X3_splitLoan l D tb ad hj P M r hr (q_use (q_next V) i7 (V 0 7) ((q_next V) (12 + i2) 1) ((q_next V) (12 + i2) 2) a) i2 hi3 i7 hi8) rfl rfl gm_X3_splitLoan hx hb hml hown hts hC hI (ok_c 0 hr (by decide)) (e_st hr g_us) rfl rfl qm_X3_111 rfl hl.1 rfl ⟨rfl, rfl, by decide, by decide⟩ (Nat.le_of_ble_eq_true rfl) ⟨Nat.zero_le _, Nat.zero_le _⟩ dX3_splitOff_65 (fun H locs hI => ?_)
          refine lv_aload_n hx hb dX3_splitOff_68 rfl (lv_at hl 1 rfl) ?_
          refine lv_dup hx hb dX3_splitOff_69 rfl ?_
          refine g_get 3 hx hb hts hown hC hI i_X1 (ok_rec hr hi3) (e_rec hr hi3 g_us) rfl (by decide) qf_X3_103 rfl rfl dX3_splitOff_70 ?_
          refine lv_iload_n hx hb dX3_splitOff_73 rfl (lv_at hl 4 rfl) ?_
          refine lv_isub hx hb dX3_splitOff_74 ?_
          refine g_put 3 (ty := .int) hx hb hts hown hC hI i_X1 tyX1_ok nmX1 (ok_rec hr hi3) (e_rec hr hi3 g_us) rfl (by decide) qf_X3_103 rfl rfl rfl rfl rfl (Nat.le_of_ble_eq_true rfl) (p_rec hr hi3 (by decide)) g_hs dX3_splitOff_75 (fun H locs hI => ?_)
          refine lv_aload hx hb dX3_splitOff_78 (lv_at hl 0 rfl) ?_
          refine g_get 0 hx hb hts hown hC hI i_X1 (ok_rec hr hi8) (e_rec hr hi8 g_us) rfl (by decide) qf_X3_96 rfl rfl dX3_splitOff_80 ?_
          exact g_ir hQ hx hb hr0 hlk hC hI dX3_splitOff_83 rfl (by unfold q_split; (try simp only [q1]); (first | rw [if_pos c4] | rw [if_neg c4] | skip); (first | rw [if_pos c5] | rw [if_neg c5] | skip); (try simp only [q6]); try rfl) rfl (by unfold q_split; (try simp only [q1]); (first | rw [if_pos c4] | rw [if_neg c4] | skip); (first | rw [if_pos c5] | rw [if_neg c5] | skip); (try simp only [q6]); try rfl)
      · refine lv_ldc (v := (-2000000002)) hx hb hown (hts _ qc_X3_106) dX3_splitOff_26 ?_
        exact g_ir hQ hx hb hr0 hlk hC hI dX3_splitOff_28 rfl (by unfold q_split; (try simp only [q1]); (first | rw [if_pos c4] | rw [if_neg c4] | skip); (first | rw [if_pos c5] | rw [if_neg c5] | skip); try rfl) rfl (by unfold q_split; (try simp only [q1]); (first | rw [if_pos c4] | rw [if_neg c4] | skip); (first | rw [if_pos c5] | rw [if_neg c5] | skip); try rfl)
    · refine lv_ldc (v := (-2000000001)) hx hb hown (hts _ qc_X3_74) dX3_splitOff_15 ?_
      exact g_ir hQ hx hb hr0 hlk hC hI dX3_splitOff_17 rfl (by unfold q_split; (try simp only [q1]); (first | rw [if_pos c4] | rw [if_neg c4] | skip); try rfl) rfl (by unfold q_split; (try simp only [q1]); (first | rw [if_pos c4] | rw [if_neg c4] | skip); try rfl)
def q_store (V : g_V) (o : Int32) (g : Int32) (a : Int32) : Int32 × g_V :=
  if o < 0 then ((-2000000001), V) else (if 5 ≤ o then ((-2000000001), V) else (if k_in g 3 then (if a < 1 then ((-2000000001), V) else (if a ≤ 4000 then (match (q_freePlace V) with | none => ((-2000000003), V) | some i8 => (if a ≤ (q_roomIn V g) then ((q_use (q_next (q_fill V g a)) i8 ((q_fill V g a) 0 7) o g (a - ((a * ((q_fill V g a) 4 3)) / 100))) (12 + i8) 0, (q_use (q_next (q_fill V g a)) i8 ((q_fill V g a) 0 7) o g (a - ((a * ((q_fill V g a) 4 3)) / 100)))) else ((-2000000003), V))) else ((-2000000001), V))) else ((-2000000001), V)))
abbrev rm_X3_storeGrain : Room := { frames := 2, cells := 0, slots := 0, locals := 49 }
set_option maxHeartbeats 4000000 in
set_option maxRecDepth 100000 in
theorem c_X3_storeGrain (l : Launch) (D : va_G) (tb : g_T) (ad : g_Ad) (hj : g_inj ad) (P : g_P) (M : g_M) (r : Nat) (hr : r < 6) (V : g_V) (o : Int32) (g : Int32) (a : Int32) : g_Ci l yX3_storeGrain cX3_storeGrain 6 (some .int) rm_X3_storeGrain D tb ad [.ref (ad r 0), .int o, .int g, .int a] P (va_up M r V) ((q_store V o g a).1) P (va_up M r ((q_store V o g a).2)) := by
  refine g_go (by decide) (Nat.le_of_ble_eq_true rfl) hj ?_
  intro p e s m below meth c ls H locs R args Q hR0 hQ hx hb hml hr0 hlk hown hts hC hI hl
  subst hR0
  have hown : s.vm.findClass RX3 = some m.cls := hown
  have hl : lv_has ls 6 [(0, .ref (ad r 0)), (1, .int o), (2, .int g), (3, .int a)] := hl
  refine lv_iload_n hx hb dX3_storeGrain_0 rfl (lv_at hl 1 rfl) ?_
  refine lv_if_lt (tgt := 28) hx hb dX3_storeGrain_1 (by decide) (fun c1 => ?_) (fun c1 => ?_)
  · refine lv_ldc (v := (-2000000001)) hx hb hown (hts _ qc_X3_74) dX3_storeGrain_28 ?_
    exact g_ir hQ hx hb hr0 hlk hC hI dX3_storeGrain_30 rfl (by unfold q_store; (first | rw [if_pos c1] | rw [if_neg c1] | skip); try rfl) rfl (by unfold q_store; (first | rw [if_pos c1] | rw [if_neg c1] | skip); try rfl)
  · refine lv_iload_n hx hb dX3_storeGrain_4 rfl (lv_at hl 1 rfl) ?_
    refine lv_iconst (v := 5) hx hb dX3_storeGrain_5 (by decide) ?_
    refine lv_icmp_ge (tgt := 28) hx hb dX3_storeGrain_6 (by decide) (fun c2 => ?_) (fun c2 => ?_)
    · refine lv_ldc (v := (-2000000001)) hx hb hown (hts _ qc_X3_74) dX3_storeGrain_28 ?_
      exact g_ir hQ hx hb hr0 hlk hC hI dX3_storeGrain_30 rfl (by unfold q_store; (first | rw [if_pos c1] | rw [if_neg c1] | skip); (first | rw [if_pos c2] | rw [if_neg c2] | skip); try rfl) rfl (by unfold q_store; (first | rw [if_pos c1] | rw [if_neg c1] | skip); (first | rw [if_pos c2] | rw [if_neg c2] | skip); try rfl)
    · refine lv_iload_n hx hb dX3_storeGrain_9 rfl (lv_at hl 2 rfl) ?_
      refine g_callNi (rest := []) (c_X4_isGrade l D tb ad hj P (va_up M r V) g) rfl rfl gm_X4_isGrade hx hb hml hown hts hC hI qN_X3_70 rfl hl.1 rfl ⟨rfl, rfl, by decide, by decide⟩ (Nat.le_of_ble_eq_true rfl) ⟨Nat.zero_le _, Nat.zero_le _⟩ dX3_storeGrain_10 (fun H locs hI => ?_)
      refine g_tf (fun c3 => ?_) (fun c3 => ?_)
      · refine lv_if_eq (tgt := 28) hx hb dX3_storeGrain_13 (by decide) (fun c4 => absurd c4 (by decide)) (fun _ => ?_)
        refine lv_iload_n hx hb dX3_storeGrain_16 rfl (lv_at hl 3 rfl) ?_
        refine lv_iconst (v := 1) hx hb dX3_storeGrain_17 (by decide) ?_
        refine lv_icmp_lt (tgt := 28) hx hb dX3_storeGrain_18 (by decide) (fun c5 => ?_) (fun c5 => ?_)
        · refine lv_ldc (v := (-2000000001)) hx hb hown (hts _ qc_X3_74) dX3_storeGrain_28 ?_
          exact g_ir hQ hx hb hr0 hlk hC hI dX3_storeGrain_30 rfl (by unfold q_store; (first | rw [if_pos c1] | rw [if_neg c1] | skip); (first | rw [if_pos c2] | rw [if_neg c2] | skip); (first | rw [if_pos c3] | rw [if_neg c3] | skip); (first | rw [if_pos c5] | rw [if_neg c5] | skip); try rfl) rfl (by unfold q_store; (first | rw [if_pos c1] | rw [if_neg c1] | skip); (first | rw [if_pos c2] | rw [if_neg c2] | skip); (first | rw [if_pos c3] | rw [if_neg c3] | skip); (first | rw [if_pos c5] | rw [if_neg c5] | skip); try rfl)
        · refine lv_iload_n hx hb dX3_storeGrain_21 rfl (lv_at hl 3 rfl) ?_
          refine lv_sipush (v := 4000) hx hb dX3_storeGrain_22 (by decide) ?_
          refine lv_icmp_le (tgt := 31) hx hb dX3_storeGrain_25 (by decide) (fun c6 => ?_) (fun c6 => ?_)
          · refine lv_aload_n hx hb dX3_storeGrain_31 rfl (lv_at hl 0 rfl) ?_
            refine g_callVq (rest := []) (c_X3_freePlace l D tb ad hj P M r hr V) rfl rfl gm_X3_freePlace hx hb hml hown hts hC hI (ok_c 0 hr (by decide)) (e_st hr g_us) rfl rfl qm_X3_75 rfl hl.1 rfl ⟨rfl, rfl, by decide, by decide⟩ (Nat.le_of_ble_eq_true rfl) ⟨Nat.zero_le _, Nat.zero_le _⟩ dX3_storeGrain_32 (fun H locs hI => ?_)
            refine g_nf (fun q7 => ?_) (fun i8 q7 => ?_)
            · refine lv_astoreN (lv' := [(4, .null), (0, .ref (ad r 0)), (1, .int o), (2, .int g), (3, .int a)]) hx hb dX3_storeGrain_35 hl (by decide) rfl (fun ls hl => ?_)
              refine lv_aloadN hx hb dX3_storeGrain_37 (lv_at hl 0 rfl) ?_
              refine lv_ifnullN (tgt := 51) hx hb dX3_storeGrain_39 (by decide) ?_
              refine lv_ldc (v := (-2000000003)) hx hb hown (hts _ qc_X3_83) dX3_storeGrain_51 ?_
              exact g_ir hQ hx hb hr0 hlk hC hI dX3_storeGrain_53 rfl (by unfold q_store; (first | rw [if_pos c1] | rw [if_neg c1] | skip); (first | rw [if_pos c2] | rw [if_neg c2] | skip); (first | rw [if_pos c3] | rw [if_neg c3] | skip); (first | rw [if_pos c5] | rw [if_neg c5] | skip); (first | rw [if_pos c6] | rw [if_neg c6] | skip); (try simp only [q7]); try rfl) rfl (by unfold q_store; (first | rw [if_pos c1] | rw [if_neg c1] | skip); (first | rw [if_pos c2] | rw [if_neg c2] | skip); (first | rw [if_pos c3] | rw [if_neg c3] | skip); (first | rw [if_pos c5] | rw [if_neg c5] | skip); (first | rw [if_pos c6] | rw [if_neg c6] | skip); (try simp only [q7]); try rfl)
            · have hi9 : i8 < 16 := k_find_lt q7
              refine lv_astore (lv' := [(4, .ref (ad r (12 + i8))), (0, .ref (ad r 0)), (1, .int o), (2, .int g), (3, .int a)]) hx hb dX3_storeGrain_35 hl (by decide) rfl (fun ls hl => ?_)
              refine lv_aload hx hb dX3_storeGrain_37 (lv_at hl 0 rfl) ?_
              refine lv_ifnull hx hb dX3_storeGrain_39 ?_
              refine lv_iload_n hx hb dX3_storeGrain_42 rfl (lv_at hl 4 rfl) ?_
              refine lv_aload_n hx hb dX3_storeGrain_43 rfl (lv_at hl 1 rfl) ?_
              refine lv_iload_n hx hb dX3_storeGrain_44 rfl (lv_at hl 3 rfl) ?_
              refine g_callVi (rest := [.int a]) (c_X3_roomIn l D tb ad hj P M r hr V g) rfl rfl gm_X3_roomIn hx hb hml hown hts hC hI (ok_c 0 hr (by decide)) (e_st hr g_us) rfl rfl qm_X3_79 rfl hl.1 rfl ⟨rfl, rfl, by decide, by decide⟩ (Nat.le_of_ble_eq_true rfl) ⟨Nat.zero_le _, Nat.zero_le _⟩ dX3_storeGrain_45 (fun H locs hI => ?_)
              refine lv_icmp_le (tgt := 54) hx hb dX3_storeGrain_48 (by decide) (fun c10 => ?_) (fun c10 => ?_)
              · refine lv_aload_n hx hb dX3_storeGrain_54 rfl (lv_at hl 1 rfl) ?_
                refine lv_iload_n hx hb dX3_storeGrain_55 rfl (lv_at hl 3 rfl) ?_
                refine lv_iload_n hx hb dX3_storeGrain_56 rfl (lv_at hl 4 rfl) ?_
                refine g_callVv (rest := []) (c_X3_fillBins l D tb ad hj P M r hr V g a) rfl rfl gm_X3_fillBins hx hb hml hown hts hC hI (ok_c 0 hr (by decide)) (e_st hr g_us) rfl rfl qm_X3_84 rfl hl.1 rfl ⟨rfl, rfl, by decide, by decide⟩ (Nat.le_of_ble_eq_true rfl) ⟨Nat.zero_le _, Nat.zero_le _⟩ dX3_storeGrain_57 (fun H locs hI => ?_)
                refine lv_iload_n hx hb dX3_storeGrain_60 rfl (lv_at hl 4 rfl) ?_
                refine lv_aload_n hx hb dX3_storeGrain_61 rfl (lv_at hl 1 rfl) ?_
                refine g_get 3 hx hb hts hown hC hI i_X3 (ok_c 0 hr (by decide)) (e_st hr g_us) rfl (by decide) qf_X3_27 rfl rfl dX3_storeGrain_62 ?_
                refine lv_iconst (v := 3) hx hb dX3_storeGrain_65 (by decide) ?_
                refine g_iald 3 hx hb hC hI (ok_c 4 hr (by decide)) (e_se hr g_us) (by unfold vp_in; decide) rfl dX3_storeGrain_66 ?_
                refine lv_imul hx hb dX3_storeGrain_67 ?_
                refine lv_bipush (v := 100) hx hb dX3_storeGrain_68 (by decide) ?_
                refine lv_idiv hx hb dX3_storeGrain_70 (by decide) ?_
                refine lv_istore (lv' := [(5, .int ((a * ((q_fill V g a) 4 3)) / 100)), (4, .ref (ad r (12 + i8))), (0, .ref (ad r 0)), (1, .int o), (2, .int g), (3, .int a)]) hx hb dX3_storeGrain_71 hl (by decide) rfl (fun ls hl => ?_)
                refine lv_aload hx hb dX3_storeGrain_73 (lv_at hl 1 rfl) ?_
                refine lv_aload_n hx hb dX3_storeGrain_75 rfl (lv_at hl 2 rfl) ?_
                refine g_callVi (rest := [.ref (ad r (12 + i8))]) (c_X3_nextNumber l D tb ad hj P M r hr (q_fill V g a)) rfl rfl gm_X3_nextNumber hx hb hml hown hts hC hI (ok_c 0 hr (by decide)) (e_st hr g_us) rfl rfl qm_X3_88 rfl hl.1 rfl ⟨rfl, rfl, by decide, by decide⟩ (Nat.le_of_ble_eq_true rfl) ⟨Nat.zero_le _, Nat.zero_le _⟩ dX3_storeGrain_76 (fun H locs hI => ?_)
                refine lv_iload_n hx hb dX3_storeGrain_79 rfl (lv_at hl 3 rfl) ?_
                refine lv_iload_n hx hb dX3_storeGrain_80 rfl (lv_at hl 4 rfl) ?_
                refine lv_iload_n hx hb dX3_storeGrain_81 rfl (lv_at hl 5 rfl) ?_
                refine lv_iload hx hb dX3_storeGrain_82 (lv_at hl 0 rfl) ?_
                refine lv_isub hx hb dX3_storeGrain_84 ?_
                refine g_callVv (rest := []) (c_X1_use l D tb ad hj P M r hr (q_next (q_fill V g a)) i8 hi9 ((q_fill V g a) 0 7) o g (a - ((a * ((q_fill V g a) 4 3)) / 100))) rfl rfl gm_X1_use hx hb hml hown hts hC hI (ok_rec hr hi9) (e_rec hr hi9 g_us) rfl rfl qm_X3_92 rfl hl.1 rfl ⟨rfl, rfl, by decide, by decide⟩ (Nat.le_of_ble_eq_true rfl) ⟨Nat.zero_le _, Nat.zero_le _⟩ dX3_storeGrain_85 (fun H locs hI => ?_)
                refine lv_aload hx hb dX3_storeGrain_88 (lv_at hl 1 rfl) ?_
                refine g_get 0 hx hb hts hown hC hI i_X1 (ok_rec hr hi9) (e_rec hr hi9 g_us) rfl (by decide) qf_X3_96 rfl rfl dX3_storeGrain_90 ?_
                exact g_ir hQ hx hb hr0 hlk hC hI dX3_storeGrain_93 rfl (by unfold q_store; (first | rw [if_pos c1] | rw [if_neg c1] | skip); (first | rw [if_pos c2] | rw [if_neg c2] | skip); (first | rw [if_pos c3] | rw [if_neg c3] | skip); (first | rw [if_pos c5] | rw [if_neg c5] | skip); (first | rw [if_pos c6] | rw [if_neg c6] | skip); (try simp only [q7]); (first | rw [if_pos c10] | rw [if_neg c10] | skip); try rfl) rfl (by unfold q_store; (first | rw [if_pos c1] | rw [if_neg c1] | skip); (first | rw [if_pos c2] | rw [if_neg c2] | skip); (first | rw [if_pos c3] | rw [if_neg c3] | skip); (first | rw [if_pos c5] | rw [if_neg c5] | skip); (first | rw [if_pos c6] | rw [if_neg c6] | skip); (try simp only [q7]); (first | rw [if_pos c10] | rw [if_neg c10] | skip); try rfl)
              · refine lv_ldc (v := (-2000000003)) hx hb hown (hts _ qc_X3_83) dX3_storeGrain_51 ?_
                exact g_ir hQ hx hb hr0 hlk hC hI dX3_storeGrain_53 rfl (by unfold q_store; (first | rw [if_pos c1] | rw [if_neg c1] | skip); (first | rw [if_pos c2] | rw [if_neg c2] | skip); (first | rw [if_pos c3] | rw [if_neg c3] | skip); (first | rw [if_pos c5] | rw [if_neg c5] | skip); (first | rw [if_pos c6] | rw [if_neg c6] | skip); (try simp only [q7]); (first | rw [if_pos c10] | rw [if_neg c10] | skip); try rfl) rfl (by unfold q_store; (first | rw [if_pos c1] | rw [if_neg c1] | skip); (first | rw [if_pos c2] | rw [if_neg c2] | skip); (first | rw [if_pos c3] | rw [if_neg c3] | skip); (first | rw [if_pos c5] | rw [if_neg c5] | skip); (first | rw [if_pos c6] | rw [if_neg c6] | skip); (try simp only [q7]); (first | rw [if_pos c10] | rw [if_neg c10] | skip); try rfl)
          · refine lv_ldc (v := (-2000000001)) hx hb hown (hts _ qc_X3_74) dX3_storeGrain_28 ?_
            exact g_ir hQ hx hb hr0 hlk hC hI dX3_storeGrain_30 rfl (by unfold q_store; (first | rw [if_pos c1] | rw [if_neg c1] | skip); (first | rw [if_pos c2] | rw [if_neg c2] | skip); (first | rw [if_pos c3] | rw [if_neg c3] | skip); (first | rw [if_pos c5] | rw [if_neg c5] | skip); (first | rw [if_pos c6] | rw [if_neg c6] | skip); try rfl) rfl (by unfold q_store; (first | rw [if_pos c1] | rw [if_neg c1] | skip); (first | rw [if_pos c2] | rw [if_neg c2] | skip); (first | rw [if_pos c3] | rw [if_neg c3] | skip); (first | rw [if_pos c5] | rw [if_neg c5] | skip); (first | rw [if_pos c6] | rw [if_neg c6] | skip); try rfl)
      · refine lv_if_eq (tgt := 28) hx hb dX3_storeGrain_13 (by decide) (fun _ => ?_) (fun c11 => absurd c11 (by decide))
        refine lv_ldc (v := (-2000000001)) hx hb hown (hts _ qc_X3_74) dX3_storeGrain_28 ?_
        exact g_ir hQ hx hb hr0 hlk hC hI dX3_storeGrain_30 rfl (by unfold q_store; (first | rw [if_pos c1] | rw [if_neg c1] | skip); (first | rw [if_pos c2] | rw [if_neg c2] | skip); (first | rw [if_pos c3] | rw [if_neg c3] | skip); try rfl) rfl (by unfold q_store; (first | rw [if_pos c1] | rw [if_neg c1] | skip); (first | rw [if_pos c2] | rw [if_neg c2] | skip); (first | rw [if_pos c3] | rw [if_neg c3] | skip); try rfl)
