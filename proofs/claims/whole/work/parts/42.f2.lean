set_option maxHeartbeats 800000 in
set_option maxRecDepth 100000 in
theorem c_X4_bits0 (l : Launch) (D : va_G) (tb : g_T) (ad : g_Ad) (hj : g_inj ad) (P : g_P) (M : g_M) : g_Ci l yX4_bitsOf cX4_bitsOf 4 (some .int) rm_X4_bitsOf D tb ad [.float 0] P (M) 0 P (M) := by
  refine g_go (by decide) (Nat.le_of_ble_eq_true rfl) hj ?_
  intro p e s m below meth c ls H locs R args Q hR0 hQ hx hb hml hr0 hlk hown hts hC hI hl
  subst hR0
  have hown : s.vm.findClass RX4 = some m.cls := hown
  have hl : lv_has ls 4 [(0, .float 0)] := hl
  refine lv_fload_n hx hb dX4_bitsOf_0 rfl (lv_at hl 0 rfl) ?_
  refine lv_fconst0 hx hb dX4_bitsOf_1 ?_
  refine lv_fcmp hx hb dX4_bitsOf_2 ?_
  refine lv_if_gt (tgt := 8) hx hb dX4_bitsOf_3 (by decide) (fun c1 => ?_) (fun c1 => ?_)
  · exact absurd c1 (by rw [kF_zero]; decide)
  · refine lv_iconst (v := 0) hx hb dX4_bitsOf_6 (by decide) ?_
    exact g_ir hQ hx hb hr0 hlk hC hI dX4_bitsOf_7 rfl (by rfl) rfl rfl
theorem c_X4_bitsP (l : Launch) (D : va_G) (tb : g_T) (ad : g_Ad) (hj : g_inj ad) (P : g_P) (M : g_M) (v : UInt32) (hv : kPos v) : g_Ci l yX4_bitsOf cX4_bitsOf 4 (some .int) rm_X4_bitsOf D tb ad [.float v] P M v.toInt32 P M := by
  rcases hv with rfl | ⟨E, T, h1, h2, h3, rfl⟩
  · exact c_X4_bits0 l D tb ad hj P M
  · exact c_X4_bitsOf l D tb ad hj P M E T h1 h2 h3
abbrev rm_X3_loanRatioBits : Room := { frames := 1, cells := 0, slots := 0, locals := 23 }
set_option maxHeartbeats 800000 in
set_option maxRecDepth 100000 in
theorem c_X3_loanRatioBits (l : Launch) (D : va_G) (tb : g_T) (ad : g_Ad) (hj : g_inj ad) (P : g_P) (M : g_M) (r : Nat) (hr : r < 6) (V : g_V) (i1 : Nat) (hi1 : i1 < 16) (hv : 0 < q_worth V i1 → kPos (FP.fdiv (FP.i2f (V (12 + i1) 5)) (FP.i2f (q_worth V i1)))) : g_Ci l yX3_loanRatioBits cX3_loanRatioBits 3 (some .int) rm_X3_loanRatioBits D tb ad [.ref (ad r 0), .ref (ad r (12 + i1))] P (va_up M r V) (q_ratio V i1) P (va_up M r V) := by
  refine g_go (by decide) (Nat.le_of_ble_eq_true rfl) hj ?_
  intro p e s m below meth c ls H locs R args Q hR0 hQ hx hb hml hr0 hlk hown hts hC hI hl
  subst hR0
  have hown : s.vm.findClass RX3 = some m.cls := hown
  have hl : lv_has ls 3 [(0, .ref (ad r 0)), (1, .ref (ad r (12 + i1)))] := hl
  refine lv_aload_n hx hb dX3_loanRatioBits_0 rfl (lv_at hl 0 rfl) ?_
  refine lv_aload_n hx hb dX3_loanRatioBits_1 rfl (lv_at hl 1 rfl) ?_
  refine g_callVi (rest := []) (c_X3_worth l D tb ad hj P M r hr V i1 hi1) rfl rfl gm_X3_worth hx hb hml hown hts hC hI (ok_c 0 hr (by decide)) (e_st hr g_us) rfl rfl qm_X3_185 rfl hl.1 rfl ⟨rfl, rfl, by decide, by decide⟩ (Nat.le_of_ble_eq_true rfl) ⟨Nat.zero_le _, Nat.zero_le _⟩ dX3_loanRatioBits_2 (fun H locs hI => ?_)
  refine lv_istore_n (lv' := [(2, .int (q_worth V i1)), (0, .ref (ad r 0)), (1, .ref (ad r (12 + i1)))]) hx hb dX3_loanRatioBits_5 rfl hl (by decide) rfl (fun ls hl => ?_)
  refine lv_iload_n hx hb dX3_loanRatioBits_6 rfl (lv_at hl 0 rfl) ?_
  refine lv_if_le (tgt := 24) hx hb dX3_loanRatioBits_7 (by decide) (fun c1 => ?_) (fun c1 => ?_)
  · refine lv_iconst (v := 0) hx hb dX3_loanRatioBits_24 (by decide) ?_
    exact g_ir hQ hx hb hr0 hlk hC hI dX3_loanRatioBits_25 rfl (by unfold q_ratio; first | rfl | exact if_neg (Int32.not_lt.mpr c1) | exact (if_neg (Int32.not_lt.mpr c1)).symm | exact (if_pos (Int32.not_le.mp c1)).symm | exact if_pos (Int32.not_le.mp c1)) rfl rfl
  · have hvp := hv (Int32.not_le.mp c1)
    refine lv_aload_n hx hb dX3_loanRatioBits_10 rfl (lv_at hl 2 rfl) ?_
    refine g_get 5 hx hb hts hown hC hI i_X1 (ok_rec hr hi1) (e_rec hr hi1 g_us) rfl (by decide) qf_X3_139 rfl rfl dX3_loanRatioBits_11 ?_
    refine lv_i2f hx hb dX3_loanRatioBits_14 ?_
    refine lv_iload_n hx hb dX3_loanRatioBits_15 rfl (lv_at hl 0 rfl) ?_
    refine lv_i2f hx hb dX3_loanRatioBits_16 ?_
    refine lv_fdiv hx hb dX3_loanRatioBits_17 (kPos_ok hvp) ?_
    refine g_callNi (rest := []) (c_X4_bitsP l D tb ad hj P (va_up M r V) (FP.fdiv (FP.i2f (V (12 + i1) 5)) (FP.i2f (q_worth V i1))) hvp) rfl rfl gm_X4_bitsOf hx hb hml hown hts hC hI qN_X3_221 rfl hl.1 rfl ⟨rfl, rfl, by decide, by decide⟩ (Nat.le_of_ble_eq_true rfl) ⟨Nat.zero_le _, Nat.zero_le _⟩ dX3_loanRatioBits_18 (fun H locs hI => ?_)
    refine lv_goto (tgt := 25) hx hb dX3_loanRatioBits_21 (by decide) ?_
    exact g_ir hQ hx hb hr0 hlk hC hI dX3_loanRatioBits_25 rfl (by unfold q_ratio; first | rfl | exact if_neg (Int32.not_lt.mpr c1) | exact (if_neg (Int32.not_lt.mpr c1)).symm | exact (if_pos (Int32.not_le.mp c1)).symm | exact if_pos (Int32.not_le.mp c1)) rfl rfl
abbrev rm_Jxf58ca_isNaN_12338 : Room := { frames := 0, cells := 0, slots := 0, locals := 0 }
set_option maxHeartbeats 800000 in
set_option maxRecDepth 100000 in
theorem c_Jxf58ca_isNaN_12338 (l : Launch) (D : va_G) (tb : g_T) (ad : g_Ad) (hj : g_inj ad) (P : g_P) (M : g_M) (v : UInt32) (hv : kPos v) : g_Ci l yJxf58ca_isNaN_12338 cJxf58ca_isNaN_12338 1 (some .boolean) rm_Jxf58ca_isNaN_12338 D tb ad [.float v] P (M) 0 P (M) := by
  refine g_goF (by decide +kernel) (Nat.le_of_ble_eq_true rfl) hj ?_
  intro p e s m below meth c ls H locs R args Q hR0 hQ hx hb hml hr0 hlk hown hts hC hI hl
  subst hR0
  have hown : s.vm.findClass RJxf58ca = some m.cls := hown
  have hl : lv_has ls 1 [(0, .float v)] := hl
  refine lv_fload_n hx hb dJxf58ca_isNaN_12338_0 rfl (lv_at hl 0 rfl) ?_
  refine lv_fload_n hx hb dJxf58ca_isNaN_12338_1 rfl (lv_at hl 0 rfl) ?_
  refine lv_fcmp hx hb dJxf58ca_isNaN_12338_2 ?_
  refine lv_if_eq (tgt := 10) hx hb dJxf58ca_isNaN_12338_3 (by decide) (fun c1 => ?_) (fun c1 => ?_)
  · refine lv_iconst (v := 0) hx hb dJxf58ca_isNaN_12338_10 (by decide) ?_
    exact g_ir hQ hx hb hr0 hlk hC hI dJxf58ca_isNaN_12338_11 (by rfl) (by rfl) rfl rfl
  · exact absurd (kPos_self hv) c1
abbrev rm_Jxf58ca_floatToIntBits_5c35a : Room := { frames := 1, cells := 0, slots := 0, locals := 20 }
set_option maxHeartbeats 800000 in
set_option maxRecDepth 100000 in
theorem c_Jxf58ca_floatToIntBits_5c35a (l : Launch) (D : va_G) (tb : g_T) (ad : g_Ad) (hj : g_inj ad) (P : g_P) (M : g_M) (v : UInt32) (hv : kPos v) : g_Ci l yJxf58ca_floatToIntBits_5c35a cJxf58ca_floatToIntBits_5c35a 1 (some .int) rm_Jxf58ca_floatToIntBits_5c35a D tb ad [.float v] P (M) v.toInt32 P (M) := by
  refine g_goF (by decide +kernel) (Nat.le_of_ble_eq_true rfl) hj ?_
  intro p e s m below meth c ls H locs R args Q hR0 hQ hx hb hml hr0 hlk hown hts hC hI hl
  subst hR0
  have hown : s.vm.findClass RJxf58ca = some m.cls := hown
  have hl : lv_has ls 1 [(0, .float v)] := hl
  refine lv_fload_n hx hb dJxf58ca_floatToIntBits_5c35a_0 rfl (lv_at hl 0 rfl) ?_
  refine g_callSi (rest := []) (c_Jxf58ca_isNaN_12338 l D tb ad hj P M v (by first | assumption | omega)) rfl rfl gm_Jxf58ca_isNaN_12338 hx hb hml hown hts hC hI qm_Jxf58ca_59 rfl hl.1 rfl ⟨rfl, rfl, by decide, by decide⟩ (Nat.le_of_ble_eq_true rfl) ⟨Nat.zero_le _, Nat.zero_le _⟩ dJxf58ca_floatToIntBits_5c35a_1 (fun H locs hI => ?_)
  refine lv_if_ne (tgt := 12) hx hb dJxf58ca_floatToIntBits_5c35a_4 (by decide) (fun c1 => absurd c1 (by decide)) (fun _ => ?_)
  refine lv_fload_n hx hb dJxf58ca_floatToIntBits_5c35a_7 rfl (lv_at hl 0 rfl) ?_
  refine vn_f2i hx hb (hml.trans hl.1.symm) hown (hts _ qm_Jxf58ca_74) (hts _ qn_floatToRawIntBits_Float) (hts _ qs_floatToRawIntBits_Float) (hts _ qz_Jxf58ca) (by decide) (Nat.le_of_ble_eq_true rfl) dJxf58ca_floatToIntBits_5c35a_8 ?_
  exact g_ir hQ hx hb hr0 hlk hC hI dJxf58ca_floatToIntBits_5c35a_11 rfl (by rfl) rfl rfl
