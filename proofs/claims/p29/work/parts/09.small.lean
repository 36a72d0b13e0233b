abbrev rm_X4_isGrade : Room := { frames := 0, cells := 0, slots := 0, locals := 0 }
set_option maxHeartbeats 4000000 in
set_option maxRecDepth 100000 in
theorem c_X4_isGrade (l : Launch) (D : va_G) (tb : g_T) (ad : g_Ad) (hj : g_inj ad) (P : g_P) (M : g_M) (x : Int32) : g_Ci l yX4_isGrade cX4_isGrade 1 (some .boolean) rm_X4_isGrade D tb ad [.int x] P (M) (if k_in x 3 then 1 else 0) P (M) := by
  refine g_go (by decide) (Nat.le_of_ble_eq_true rfl) hj ?_
  intro p e s m below meth c ls H locs R args Q hR0 hQ hx hb hml hr0 hlk hown hts hC hI hl
  subst hR0
  have hown : s.vm.findClass RX4 = some m.cls := hown
  have hl : lv_has ls 1 [(0, .int x)] := hl
  refine lv_iload_n hx hb dX4_isGrade_0 rfl (lv_at hl 0 rfl) ?_
  refine lv_if_lt (tgt := 13) hx hb dX4_isGrade_1 (by decide) (fun c1 => ?_) (fun c1 => ?_)
  · refine lv_iconst (v := 0) hx hb dX4_isGrade_13 (by decide) ?_
    exact g_ir hQ hx hb hr0 hlk hC hI dX4_isGrade_14 (by rfl) (by simp [k_in, c1]) rfl rfl
  · refine lv_iload_n hx hb dX4_isGrade_4 rfl (lv_at hl 0 rfl) ?_
    refine lv_iconst (v := 3) hx hb dX4_isGrade_5 (by decide) ?_
    refine lv_icmp_ge (tgt := 13) hx hb dX4_isGrade_6 (by decide) (fun c2 => ?_) (fun c2 => ?_)
    · refine lv_iconst (v := 0) hx hb dX4_isGrade_13 (by decide) ?_
      exact g_ir hQ hx hb hr0 hlk hC hI dX4_isGrade_14 (by rfl) (by simp [k_in, c1, c2]) rfl rfl
    · refine lv_iconst (v := 1) hx hb dX4_isGrade_9 (by decide) ?_
      refine lv_goto (tgt := 14) hx hb dX4_isGrade_10 (by decide) ?_
      exact g_ir hQ hx hb hr0 hlk hC hI dX4_isGrade_14 (by rfl) (by simp [k_in, c1, c2]) rfl rfl
abbrev rm_X4_isBin : Room := { frames := 0, cells := 0, slots := 0, locals := 0 }
set_option maxHeartbeats 4000000 in
set_option maxRecDepth 100000 in
theorem c_X4_isBin (l : Launch) (D : va_G) (tb : g_T) (ad : g_Ad) (hj : g_inj ad) (P : g_P) (M : g_M) (x : Int32) : g_Ci l yX4_isBin cX4_isBin 1 (some .boolean) rm_X4_isBin D tb ad [.int x] P (M) (if k_in x 5 then 1 else 0) P (M) := by
  refine g_go (by decide) (Nat.le_of_ble_eq_true rfl) hj ?_
  intro p e s m below meth c ls H locs R args Q hR0 hQ hx hb hml hr0 hlk hown hts hC hI hl
  subst hR0
  have hown : s.vm.findClass RX4 = some m.cls := hown
  have hl : lv_has ls 1 [(0, .int x)] := hl
  refine lv_iload_n hx hb dX4_isBin_0 rfl (lv_at hl 0 rfl) ?_
  refine lv_if_lt (tgt := 13) hx hb dX4_isBin_1 (by decide) (fun c1 => ?_) (fun c1 => ?_)
  · refine lv_iconst (v := 0) hx hb dX4_isBin_13 (by decide) ?_
    exact g_ir hQ hx hb hr0 hlk hC hI dX4_isBin_14 (by rfl) (by simp [k_in, c1]) rfl rfl
  · refine lv_iload_n hx hb dX4_isBin_4 rfl (lv_at hl 0 rfl) ?_
    refine lv_iconst (v := 5) hx hb dX4_isBin_5 (by decide) ?_
    refine lv_icmp_ge (tgt := 13) hx hb dX4_isBin_6 (by decide) (fun c2 => ?_) (fun c2 => ?_)
    · refine lv_iconst (v := 0) hx hb dX4_isBin_13 (by decide) ?_
      exact g_ir hQ hx hb hr0 hlk hC hI dX4_isBin_14 (by rfl) (by simp [k_in, c1, c2]) rfl rfl
    · refine lv_iconst (v := 1) hx hb dX4_isBin_9 (by decide) ?_
      refine lv_goto (tgt := 14) hx hb dX4_isBin_10 (by decide) ?_
      exact g_ir hQ hx hb hr0 hlk hC hI dX4_isBin_14 (by rfl) (by simp [k_in, c1, c2]) rfl rfl
abbrev rm_X4_isOwner : Room := { frames := 0, cells := 0, slots := 0, locals := 0 }
set_option maxHeartbeats 4000000 in
set_option maxRecDepth 100000 in
theorem c_X4_isOwner (l : Launch) (D : va_G) (tb : g_T) (ad : g_Ad) (hj : g_inj ad) (P : g_P) (M : g_M) (x : Int32) : g_Ci l yX4_isOwner cX4_isOwner 1 (some .boolean) rm_X4_isOwner D tb ad [.int x] P (M) (if k_in x 8 then 1 else 0) P (M) := by
  refine g_go (by decide) (Nat.le_of_ble_eq_true rfl) hj ?_
  intro p e s m below meth c ls H locs R args Q hR0 hQ hx hb hml hr0 hlk hown hts hC hI hl
  subst hR0
  have hown : s.vm.findClass RX4 = some m.cls := hown
  have hl : lv_has ls 1 [(0, .int x)] := hl
  refine lv_iload_n hx hb dX4_isOwner_0 rfl (lv_at hl 0 rfl) ?_
  refine lv_if_lt (tgt := 14) hx hb dX4_isOwner_1 (by decide) (fun c1 => ?_) (fun c1 => ?_)
  · refine lv_iconst (v := 0) hx hb dX4_isOwner_14 (by decide) ?_
    exact g_ir hQ hx hb hr0 hlk hC hI dX4_isOwner_15 (by rfl) (by simp [k_in, c1]) rfl rfl
  · refine lv_iload_n hx hb dX4_isOwner_4 rfl (lv_at hl 0 rfl) ?_
    refine lv_bipush (v := 8) hx hb dX4_isOwner_5 (by decide) ?_
    refine lv_icmp_ge (tgt := 14) hx hb dX4_isOwner_7 (by decide) (fun c2 => ?_) (fun c2 => ?_)
    · refine lv_iconst (v := 0) hx hb dX4_isOwner_14 (by decide) ?_
      exact g_ir hQ hx hb hr0 hlk hC hI dX4_isOwner_15 (by rfl) (by simp [k_in, c1, c2]) rfl rfl
    · refine lv_iconst (v := 1) hx hb dX4_isOwner_10 (by decide) ?_
      refine lv_goto (tgt := 15) hx hb dX4_isOwner_11 (by decide) ?_
      exact g_ir hQ hx hb hr0 hlk hC hI dX4_isOwner_15 (by rfl) (by simp [k_in, c1, c2]) rfl rfl
abbrev rm_X4_isLender : Room := { frames := 0, cells := 0, slots := 0, locals := 0 }
set_option maxHeartbeats 4000000 in
set_option maxRecDepth 100000 in
theorem c_X4_isLender (l : Launch) (D : va_G) (tb : g_T) (ad : g_Ad) (hj : g_inj ad) (P : g_P) (M : g_M) (x : Int32) : g_Ci l yX4_isLender cX4_isLender 1 (some .boolean) rm_X4_isLender D tb ad [.int x] P (M) (if k_in x 3 then 1 else 0) P (M) := by
  refine g_go (by decide) (Nat.le_of_ble_eq_true rfl) hj ?_
  intro p e s m below meth c ls H locs R args Q hR0 hQ hx hb hml hr0 hlk hown hts hC hI hl
  subst hR0
  have hown : s.vm.findClass RX4 = some m.cls := hown
  have hl : lv_has ls 1 [(0, .int x)] := hl
  refine lv_iload_n hx hb dX4_isLender_0 rfl (lv_at hl 0 rfl) ?_
  refine lv_if_lt (tgt := 13) hx hb dX4_isLender_1 (by decide) (fun c1 => ?_) (fun c1 => ?_)
  · refine lv_iconst (v := 0) hx hb dX4_isLender_13 (by decide) ?_
    exact g_ir hQ hx hb hr0 hlk hC hI dX4_isLender_14 (by rfl) (by simp [k_in, c1]) rfl rfl
  · refine lv_iload_n hx hb dX4_isLender_4 rfl (lv_at hl 0 rfl) ?_
    refine lv_iconst (v := 3) hx hb dX4_isLender_5 (by decide) ?_
    refine lv_icmp_ge (tgt := 13) hx hb dX4_isLender_6 (by decide) (fun c2 => ?_) (fun c2 => ?_)
    · refine lv_iconst (v := 0) hx hb dX4_isLender_13 (by decide) ?_
      exact g_ir hQ hx hb hr0 hlk hC hI dX4_isLender_14 (by rfl) (by simp [k_in, c1, c2]) rfl rfl
    · refine lv_iconst (v := 1) hx hb dX4_isLender_9 (by decide) ?_
      refine lv_goto (tgt := 14) hx hb dX4_isLender_10 (by decide) ?_
      exact g_ir hQ hx hb hr0 hlk hC hI dX4_isLender_14 (by rfl) (by simp [k_in, c1, c2]) rfl rfl
abbrev rm_X4_isSetting : Room := { frames := 0, cells := 0, slots := 0, locals := 0 }
set_option maxHeartbeats 4000000 in
set_option maxRecDepth 100000 in
theorem c_X4_isSetting (l : Launch) (D : va_G) (tb : g_T) (ad : g_Ad) (hj : g_inj ad) (P : g_P) (M : g_M) (x : Int32) : g_Ci l yX4_isSetting cX4_isSetting 1 (some .boolean) rm_X4_isSetting D tb ad [.int x] P (M) (if k_in x 4 then 1 else 0) P (M) := by
  refine g_go (by decide) (Nat.le_of_ble_eq_true rfl) hj ?_
  intro p e s m below meth c ls H locs R args Q hR0 hQ hx hb hml hr0 hlk hown hts hC hI hl
  subst hR0
  have hown : s.vm.findClass RX4 = some m.cls := hown
  have hl : lv_has ls 1 [(0, .int x)] := hl
  refine lv_iload_n hx hb dX4_isSetting_0 rfl (lv_at hl 0 rfl) ?_
  refine lv_if_lt (tgt := 13) hx hb dX4_isSetting_1 (by decide) (fun c1 => ?_) (fun c1 => ?_)
  · refine lv_iconst (v := 0) hx hb dX4_isSetting_13 (by decide) ?_
    exact g_ir hQ hx hb hr0 hlk hC hI dX4_isSetting_14 (by rfl) (by simp [k_in, c1]) rfl rfl
  · refine lv_iload_n hx hb dX4_isSetting_4 rfl (lv_at hl 0 rfl) ?_
    refine lv_iconst (v := 4) hx hb dX4_isSetting_5 (by decide) ?_
    refine lv_icmp_ge (tgt := 13) hx hb dX4_isSetting_6 (by decide) (fun c2 => ?_) (fun c2 => ?_)
    · refine lv_iconst (v := 0) hx hb dX4_isSetting_13 (by decide) ?_
      exact g_ir hQ hx hb hr0 hlk hC hI dX4_isSetting_14 (by rfl) (by simp [k_in, c1, c2]) rfl rfl
    · refine lv_iconst (v := 1) hx hb dX4_isSetting_9 (by decide) ?_
      refine lv_goto (tgt := 14) hx hb dX4_isSetting_10 (by decide) ?_
      exact g_ir hQ hx hb hr0 hlk hC hI dX4_isSetting_14 (by rfl) (by simp [k_in, c1, c2]) rfl rfl
abbrev rm_X4_isError : Room := { frames := 0, cells := 0, slots := 0, locals := 0 }
set_option maxHeartbeats 4000000 in
set_option maxRecDepth 100000 in
theorem c_X4_isError (l : Launch) (D : va_G) (tb : g_T) (ad : g_Ad) (hj : g_inj ad) (P : g_P) (M : g_M) (x : Int32) : g_Ci l yX4_isError cX4_isError 1 (some .boolean) rm_X4_isError D tb ad [.int x] P (M) (if k_isError x then 1 else 0) P (M) := by
  refine g_go (by decide) (Nat.le_of_ble_eq_true rfl) hj ?_
  intro p e s m below meth c ls H locs R args Q hR0 hQ hx hb hml hr0 hlk hown hts hC hI hl
  subst hR0
  have hown : s.vm.findClass RX4 = some m.cls := hown
  have hl : lv_has ls 1 [(0, .int x)] := hl
  refine lv_iload_n hx hb dX4_isError_0 rfl (lv_at hl 0 rfl) ?_
  refine lv_ldc (v := (-2000000004)) hx hb hown (hts _ qc_X4_121) dX4_isError_1 ?_
  refine lv_icmp_lt (tgt := 16) hx hb dX4_isError_3 (by decide) (fun c1 => ?_) (fun c1 => ?_)
  · refine lv_iconst (v := 0) hx hb dX4_isError_16 (by decide) ?_
    exact g_ir hQ hx hb hr0 hlk hC hI dX4_isError_17 (by rfl) (by simp [k_isError, c1]) rfl rfl
  · refine lv_iload_n hx hb dX4_isError_6 rfl (lv_at hl 0 rfl) ?_
    refine lv_ldc (v := (-2000000001)) hx hb hown (hts _ qc_X4_114) dX4_isError_7 ?_
    refine lv_icmp_gt (tgt := 16) hx hb dX4_isError_9 (by decide) (fun c2 => ?_) (fun c2 => ?_)
    · refine lv_iconst (v := 0) hx hb dX4_isError_16 (by decide) ?_
      exact g_ir hQ hx hb hr0 hlk hC hI dX4_isError_17 (by rfl) (by simp [k_isError, c1, c2]) rfl rfl
    · refine lv_iconst (v := 1) hx hb dX4_isError_12 (by decide) ?_
      refine lv_goto (tgt := 17) hx hb dX4_isError_13 (by decide) ?_
      exact g_ir hQ hx hb hr0 hlk hC hI dX4_isError_17 (by rfl) (by simp [k_isError, c1, c2]) rfl rfl
abbrev rm_X2_isDigit : Room := { frames := 0, cells := 0, slots := 0, locals := 0 }
set_option maxHeartbeats 4000000 in
set_option maxRecDepth 100000 in
theorem c_X2_isDigit (l : Launch) (D : va_G) (tb : g_T) (ad : g_Ad) (hj : g_inj ad) (P : g_P) (M : g_M) (x : Int32) : g_Ci l yX2_isDigit cX2_isDigit 1 (some .boolean) rm_X2_isDigit D tb ad [.int x] P (M) (if k_digit x then 1 else 0) P (M) := by
  refine g_go (by decide) (Nat.le_of_ble_eq_true rfl) hj ?_
  intro p e s m below meth c ls H locs R args Q hR0 hQ hx hb hml hr0 hlk hown hts hC hI hl
  subst hR0
  have hown : s.vm.findClass RX2 = some m.cls := hown
  have hl : lv_has ls 1 [(0, .int x)] := hl
  refine lv_iload_n hx hb dX2_isDigit_0 rfl (lv_at hl 0 rfl) ?_
  refine lv_bipush (v := 48) hx hb dX2_isDigit_1 (by decide) ?_
  refine lv_icmp_lt (tgt := 16) hx hb dX2_isDigit_3 (by decide) (fun c1 => ?_) (fun c1 => ?_)
  · refine lv_iconst (v := 0) hx hb dX2_isDigit_16 (by decide) ?_
    exact g_ir hQ hx hb hr0 hlk hC hI dX2_isDigit_17 (by rfl) (by simp [k_digit, c1]) rfl rfl
  · refine lv_iload_n hx hb dX2_isDigit_6 rfl (lv_at hl 0 rfl) ?_
    refine lv_bipush (v := 57) hx hb dX2_isDigit_7 (by decide) ?_
    refine lv_icmp_gt (tgt := 16) hx hb dX2_isDigit_9 (by decide) (fun c2 => ?_) (fun c2 => ?_)
    · refine lv_iconst (v := 0) hx hb dX2_isDigit_16 (by decide) ?_
      exact g_ir hQ hx hb hr0 hlk hC hI dX2_isDigit_17 (by rfl) (by simp [k_digit, c1, c2]) rfl rfl
    · refine lv_iconst (v := 1) hx hb dX2_isDigit_12 (by decide) ?_
      refine lv_goto (tgt := 17) hx hb dX2_isDigit_13 (by decide) ?_
      exact g_ir hQ hx hb hr0 hlk hC hI dX2_isDigit_17 (by rfl) (by simp [k_digit, c1, c2]) rfl rfl
abbrev rm_X1_isUsed : Room := { frames := 0, cells := 0, slots := 0, locals := 0 }
set_option maxHeartbeats 4000000 in
set_option maxRecDepth 100000 in
theorem c_X1_isUsed (l : Launch) (D : va_G) (tb : g_T) (ad : g_Ad) (hj : g_inj ad) (P : g_P) (M : g_M) (r : Nat) (hr : r < 6) (V : g_V) (i : Nat) (hi : i < 16) : g_Ci l yX1_isUsed cX1_isUsed 1 (some .boolean) rm_X1_isUsed D tb ad [.ref (ad r (12 + i))] P (va_up M r V) (if q_used V i then 1 else 0) P (va_up M r V) := by
  refine g_go (by decide) (Nat.le_of_ble_eq_true rfl) hj ?_
  intro p e s m below meth c ls H locs R args Q hR0 hQ hx hb hml hr0 hlk hown hts hC hI hl
  subst hR0
  have hown : s.vm.findClass RX1 = some m.cls := hown
  have hl : lv_has ls 1 [(0, .ref (ad r (12 + i)))] := hl
  refine lv_aload_n hx hb dX1_isUsed_0 rfl (lv_at hl 0 rfl) ?_
  refine g_get 0 hx hb hts hown hC hI i_X1 (ok_rec hr hi) (e_rec hr hi g_us) rfl (by decide) qf_X1_9 rfl rfl dX1_isUsed_1 ?_
  refine lv_iconst (v := (-1)) hx hb dX1_isUsed_4 (by decide) ?_
  refine lv_icmp_eq (tgt := 12) hx hb dX1_isUsed_5 (by decide) (fun c1 => ?_) (fun c1 => ?_)
  · refine lv_iconst (v := 0) hx hb dX1_isUsed_12 (by decide) ?_
    exact g_ir hQ hx hb hr0 hlk hC hI dX1_isUsed_13 (by rfl) (by simp [c1]) rfl rfl
  · refine lv_iconst (v := 1) hx hb dX1_isUsed_8 (by decide) ?_
    refine lv_goto (tgt := 13) hx hb dX1_isUsed_9 (by decide) ?_
    exact g_ir hQ hx hb hr0 hlk hC hI dX1_isUsed_13 (by rfl) (by simp [c1]) rfl rfl
abbrev rm_X1_isPledged : Room := { frames := 0, cells := 0, slots := 0, locals := 0 }
set_option maxHeartbeats 4000000 in
set_option maxRecDepth 100000 in
theorem c_X1_isPledged (l : Launch) (D : va_G) (tb : g_T) (ad : g_Ad) (hj : g_inj ad) (P : g_P) (M : g_M) (r : Nat) (hr : r < 6) (V : g_V) (i : Nat) (hi : i < 16) : g_Ci l yX1_isPledged cX1_isPledged 1 (some .boolean) rm_X1_isPledged D tb ad [.ref (ad r (12 + i))] P (va_up M r V) (if q_pledged V i then 1 else 0) P (va_up M r V) := by
  refine g_go (by decide) (Nat.le_of_ble_eq_true rfl) hj ?_
  intro p e s m below meth c ls H locs R args Q hR0 hQ hx hb hml hr0 hlk hown hts hC hI hl
  subst hR0
  have hown : s.vm.findClass RX1 = some m.cls := hown
  have hl : lv_has ls 1 [(0, .ref (ad r (12 + i)))] := hl
  refine lv_aload_n hx hb dX1_isPledged_0 rfl (lv_at hl 0 rfl) ?_
  refine g_get 4 hx hb hts hown hC hI i_X1 (ok_rec hr hi) (e_rec hr hi g_us) rfl (by decide) qf_X1_15 rfl rfl dX1_isPledged_1 ?_
  refine lv_iconst (v := (-1)) hx hb dX1_isPledged_4 (by decide) ?_
  refine lv_icmp_eq (tgt := 12) hx hb dX1_isPledged_5 (by decide) (fun c1 => ?_) (fun c1 => ?_)
  · refine lv_iconst (v := 0) hx hb dX1_isPledged_12 (by decide) ?_
    exact g_ir hQ hx hb hr0 hlk hC hI dX1_isPledged_13 (by rfl) (by simp [c1]) rfl rfl
  · refine lv_iconst (v := 1) hx hb dX1_isPledged_8 (by decide) ?_
    refine lv_goto (tgt := 13) hx hb dX1_isPledged_9 (by decide) ?_
    exact g_ir hQ hx hb hr0 hlk hC hI dX1_isPledged_13 (by rfl) (by simp [c1]) rfl rfl
abbrev rm_X1_isCalled : Room := { frames := 0, cells := 0, slots := 0, locals := 0 }
set_option maxHeartbeats 4000000 in
set_option maxRecDepth 100000 in
theorem c_X1_isCalled (l : Launch) (D : va_G) (tb : g_T) (ad : g_Ad) (hj : g_inj ad) (P : g_P) (M : g_M) (r : Nat) (hr : r < 6) (V : g_V) (i : Nat) (hi : i < 16) : g_Ci l yX1_isCalled cX1_isCalled 1 (some .boolean) rm_X1_isCalled D tb ad [.ref (ad r (12 + i))] P (va_up M r V) (if q_called V i then 1 else 0) P (va_up M r V) := by
  refine g_go (by decide) (Nat.le_of_ble_eq_true rfl) hj ?_
  intro p e s m below meth c ls H locs R args Q hR0 hQ hx hb hml hr0 hlk hown hts hC hI hl
  subst hR0
  have hown : s.vm.findClass RX1 = some m.cls := hown
  have hl : lv_has ls 1 [(0, .ref (ad r (12 + i)))] := hl
  refine lv_aload_n hx hb dX1_isCalled_0 rfl (lv_at hl 0 rfl) ?_
  refine g_get 6 hx hb hts hown hC hI i_X1 (ok_rec hr hi) (e_rec hr hi g_us) rfl (by decide) qf_X1_18 rfl rfl dX1_isCalled_1 ?_
  refine lv_if_le (tgt := 11) hx hb dX1_isCalled_4 (by decide) (fun c1 => ?_) (fun c1 => ?_)
  · refine lv_iconst (v := 0) hx hb dX1_isCalled_11 (by decide) ?_
    exact g_ir hQ hx hb hr0 hlk hC hI dX1_isCalled_12 (by rfl) (by simp [c1]) rfl rfl
  · refine lv_iconst (v := 1) hx hb dX1_isCalled_7 (by decide) ?_
    refine lv_goto (tgt := 12) hx hb dX1_isCalled_8 (by decide) ?_
    exact g_ir hQ hx hb hr0 hlk hC hI dX1_isCalled_12 (by rfl) (by simp [c1]) rfl rfl
abbrev rm_X1_use : Room := { frames := 0, cells := 0, slots := 0, locals := 0 }
set_option maxHeartbeats 4000000 in
set_option maxRecDepth 100000 in
theorem c_X1_use (l : Launch) (D : va_G) (tb : g_T) (ad : g_Ad) (hj : g_inj ad) (P : g_P) (M : g_M) (r : Nat) (hr : r < 6) (V : g_V) (i : Nat) (hi : i < 16) (n1 : Int32) (n2 : Int32) (n3 : Int32) (n4 : Int32) : g_Cv l yX1_use cX1_use 5 none rm_X1_use D tb ad [.ref (ad r (12 + i)), .int n1, .int n2, .int n3, .int n4] P (va_up M r V) P (va_up M r (q_use V i n1 n2 n3 n4)) := by
  refine g_go (by decide) (Nat.le_of_ble_eq_true rfl) hj ?_
  intro p e s m below meth c ls H locs R args Q hR0 hQ hx hb hml hr0 hlk hown hts hC hI hl
  subst hR0
  have hown : s.vm.findClass RX1 = some m.cls := hown
  have hl : lv_has ls 5 [(0, .ref (ad r (12 + i))), (1, .int n1), (2, .int n2), (3, .int n3), (4, .int n4)] := hl
  refine lv_aload_n hx hb dX1_use_0 rfl (lv_at hl 0 rfl) ?_
  refine lv_iload_n hx hb dX1_use_1 rfl (lv_at hl 1 rfl) ?_
  refine g_put 0 (ty := .int) hx hb hts hown hC hI i_X1 tyX1_ok nmX1 (ok_rec hr hi) (e_rec hr hi g_us) rfl (by decide) qf_X1_9 rfl rfl rfl rfl rfl (Nat.le_of_ble_eq_true rfl) (p_rec hr hi (by decide)) g_hs dX1_use_2 (fun H locs hI => ?_)
  refine lv_aload_n hx hb dX1_use_5 rfl (lv_at hl 0 rfl) ?_
  refine lv_iload_n hx hb dX1_use_6 rfl (lv_at hl 2 rfl) ?_
  refine g_put 1 (ty := .int) hx hb hts hown hC hI i_X1 tyX1_ok nmX1 (ok_rec hr hi) (e_rec hr hi g_us) rfl (by decide) qf_X1_21 rfl rfl rfl rfl rfl (Nat.le_of_ble_eq_true rfl) (p_rec hr hi (by decide)) g_hs dX1_use_7 (fun H locs hI => ?_)
  refine lv_aload_n hx hb dX1_use_10 rfl (lv_at hl 0 rfl) ?_
  refine lv_iload_n hx hb dX1_use_11 rfl (lv_at hl 3 rfl) ?_
  refine g_put 2 (ty := .int) hx hb hts hown hC hI i_X1 tyX1_ok nmX1 (ok_rec hr hi) (e_rec hr hi g_us) rfl (by decide) qf_X1_24 rfl rfl rfl rfl rfl (Nat.le_of_ble_eq_true rfl) (p_rec hr hi (by decide)) g_hs dX1_use_12 (fun H locs hI => ?_)
  refine lv_aload_n hx hb dX1_use_15 rfl (lv_at hl 0 rfl) ?_
  refine lv_iload hx hb dX1_use_16 (lv_at hl 4 rfl) ?_
  refine g_put 3 (ty := .int) hx hb hts hown hC hI i_X1 tyX1_ok nmX1 (ok_rec hr hi) (e_rec hr hi g_us) rfl (by decide) qf_X1_27 rfl rfl rfl rfl rfl (Nat.le_of_ble_eq_true rfl) (p_rec hr hi (by decide)) g_hs dX1_use_18 (fun H locs hI => ?_)
  exact g_vr hQ hx hb hr0 hlk hC hI dX1_use_21 rfl (by rfl)
abbrev rm_X1_endPledge : Room := { frames := 0, cells := 0, slots := 0, locals := 0 }
set_option maxHeartbeats 4000000 in
set_option maxRecDepth 100000 in
theorem c_X1_endPledge (l : Launch) (D : va_G) (tb : g_T) (ad : g_Ad) (hj : g_inj ad) (P : g_P) (M : g_M) (r : Nat) (hr : r < 6) (V : g_V) (i : Nat) (hi : i < 16) : g_Cv l yX1_endPledge cX1_endPledge 1 none rm_X1_endPledge D tb ad [.ref (ad r (12 + i))] P (va_up M r V) P (va_up M r (q_endPledge V i)) := by
  refine g_go (by decide) (Nat.le_of_ble_eq_true rfl) hj ?_
  intro p e s m below meth c ls H locs R args Q hR0 hQ hx hb hml hr0 hlk hown hts hC hI hl
  subst hR0
  have hown : s.vm.findClass RX1 = some m.cls := hown
  have hl : lv_has ls 1 [(0, .ref (ad r (12 + i)))] := hl
  refine lv_aload_n hx hb dX1_endPledge_0 rfl (lv_at hl 0 rfl) ?_
  refine lv_iconst (v := (-1)) hx hb dX1_endPledge_1 (by decide) ?_
  refine g_put 4 (ty := .int) hx hb hts hown hC hI i_X1 tyX1_ok nmX1 (ok_rec hr hi) (e_rec hr hi g_us) rfl (by decide) qf_X1_15 rfl rfl rfl rfl rfl (Nat.le_of_ble_eq_true rfl) (p_rec hr hi (by decide)) g_hs dX1_endPledge_2 (fun H locs hI => ?_)
  refine lv_aload_n hx hb dX1_endPledge_5 rfl (lv_at hl 0 rfl) ?_
  refine lv_iconst (v := 0) hx hb dX1_endPledge_6 (by decide) ?_
  refine g_put 5 (ty := .int) hx hb hts hown hC hI i_X1 tyX1_ok nmX1 (ok_rec hr hi) (e_rec hr hi g_us) rfl (by decide) qf_X1_37 rfl rfl rfl rfl rfl (Nat.le_of_ble_eq_true rfl) (p_rec hr hi (by decide)) g_hs dX1_endPledge_7 (fun H locs hI => ?_)
  refine lv_aload_n hx hb dX1_endPledge_10 rfl (lv_at hl 0 rfl) ?_
  refine lv_iconst (v := 0) hx hb dX1_endPledge_11 (by decide) ?_
  refine g_put 6 (ty := .int) hx hb hts hown hC hI i_X1 tyX1_ok nmX1 (ok_rec hr hi) (e_rec hr hi g_us) rfl (by decide) qf_X1_18 rfl rfl rfl rfl rfl (Nat.le_of_ble_eq_true rfl) (p_rec hr hi (by decide)) g_hs dX1_endPledge_12 (fun H locs hI => ?_)
  exact g_vr hQ hx hb hr0 hlk hC hI dX1_endPledge_15 rfl (by rfl)
abbrev rm_X1_free : Room := { frames := 1, cells := 0, slots := 0, locals := 24 }
set_option maxHeartbeats 4000000 in
set_option maxRecDepth 100000 in
theorem c_X1_free (l : Launch) (D : va_G) (tb : g_T) (ad : g_Ad) (hj : g_inj ad) (P : g_P) (M : g_M) (r : Nat) (hr : r < 6) (V : g_V) (i : Nat) (hi : i < 16) : g_Cv l yX1_free cX1_free 1 none rm_X1_free D tb ad [.ref (ad r (12 + i))] P (va_up M r V) P (va_up M r (q_free V i)) := by
  refine g_go (by decide) (Nat.le_of_ble_eq_true rfl) hj ?_
  intro p e s m below meth c ls H locs R args Q hR0 hQ hx hb hml hr0 hlk hown hts hC hI hl
  subst hR0
  have hown : s.vm.findClass RX1 = some m.cls := hown
  have hl : lv_has ls 1 [(0, .ref (ad r (12 + i)))] := hl
  refine lv_aload_n hx hb dX1_free_0 rfl (lv_at hl 0 rfl) ?_
  refine lv_iconst (v := (-1)) hx hb dX1_free_1 (by decide) ?_
  refine lv_iconst (v := 0) hx hb dX1_free_2 (by decide) ?_
  refine lv_iconst (v := 0) hx hb dX1_free_3 (by decide) ?_
  refine lv_iconst (v := 0) hx hb dX1_free_4 (by decide) ?_
  refine g_callVv (rest := []) (c_X1_use l D tb ad hj P M r hr V i hi (-1) 0 0 0) rfl rfl gm_X1_use hx hb hml hown hts hC hI (ok_rec hr hi) (e_rec hr hi g_us) rfl rfl qm_X1_30 rfl hl.1 rfl ⟨rfl, rfl, by decide, by decide⟩ (Nat.le_of_ble_eq_true rfl) ⟨Nat.zero_le _, Nat.zero_le _⟩ dX1_free_5 (fun H locs hI => ?_)
  refine lv_aload_n hx hb dX1_free_8 rfl (lv_at hl 0 rfl) ?_
  refine g_callVv (rest := []) (c_X1_endPledge l D tb ad hj P M r hr (q_use V i (-1) 0 0 0) i hi) rfl rfl gm_X1_endPledge hx hb hml hown hts hC hI (ok_rec hr hi) (e_rec hr hi g_us) rfl rfl qm_X1_34 rfl hl.1 rfl ⟨rfl, rfl, by decide, by decide⟩ (Nat.le_of_ble_eq_true rfl) ⟨Nat.zero_le _, Nat.zero_le _⟩ dX1_free_9 (fun H locs hI => ?_)
  exact g_vr hQ hx hb hr0 hlk hC hI dX1_free_12 rfl (by rfl)
