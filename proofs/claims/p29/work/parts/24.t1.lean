def q_append (V : g_V) (ch : Int32) : Int32 × g_V :=
  if ch < 32 then ((-2000000001), V) else (if ch ≤ 126 then (if (V 1 2) < 0 then ((-2000000003), V) else (if (V 1 2) < 60 then ((g_w2 (g_w2 V 2 ((V 1 2).toNatClampNeg) (vp_nar .char ((ch.toUInt32 % 65536).toInt32))) 1 2 (((g_w2 V 2 ((V 1 2).toNatClampNeg) (vp_nar .char ((ch.toUInt32 % 65536).toInt32))) 1 2) + 1)) 1 2, (g_w2 (g_w2 V 2 ((V 1 2).toNatClampNeg) (vp_nar .char ((ch.toUInt32 % 65536).toInt32))) 1 2 (((g_w2 V 2 ((V 1 2).toNatClampNeg) (vp_nar .char ((ch.toUInt32 % 65536).toInt32))) 1 2) + 1))) else ((-2000000003), V))) else ((-2000000001), V))
abbrev rm_X2_append : Room := { frames := 0, cells := 0, slots := 0, locals := 0 }
set_option maxHeartbeats 800000 in
set_option maxRecDepth 100000 in
theorem c_X2_append (l : Launch) (D : va_G) (tb : g_T) (ad : g_Ad) (hj : g_inj ad) (P : g_P) (M : g_M) (V : g_V) (ch : Int32) : g_Ci l yX2_append cX2_append 2 (some .int) rm_X2_append D tb ad [.ref (ad 6 1), .int ch] P (va_up M 6 V) ((q_append V ch).1) P (va_up M 6 ((q_append V ch).2)) := by
  refine g_go (by decide) (Nat.le_of_ble_eq_true rfl) hj ?_
  intro p e s m below meth c ls H locs R args Q hR0 hQ hx hb hml hr0 hlk hown hts hC hI hl
  subst hR0
  have hown : s.vm.findClass RX2 = some m.cls := hown
  have hl : lv_has ls 2 [(0, .ref (ad 6 1)), (1, .int ch)] := hl
  refine lv_iload_n hx hb dX2_append_0 rfl (lv_at hl 1 rfl) ?_
  refine lv_bipush (v := 32) hx hb dX2_append_1 (by decide) ?_
  refine lv_icmp_lt (tgt := 12) hx hb dX2_append_3 (by decide) (fun c1 => ?_) (fun c1 => ?_)
  · refine lv_ldc (v := (-2000000001)) hx hb hown (hts _ qc_X2_19) dX2_append_12 ?_
    exact g_ir hQ hx hb hr0 hlk hC hI dX2_append_14 rfl (by unfold q_append; skip; (first | rw [if_pos c1] | rw [if_neg c1] | skip); try with_reducible rfl) rfl (by unfold q_append; skip; (first | rw [if_pos c1] | rw [if_neg c1] | skip); try with_reducible rfl)
  · refine lv_iload_n hx hb dX2_append_6 rfl (lv_at hl 1 rfl) ?_
    refine lv_bipush (v := 126) hx hb dX2_append_7 (by decide) ?_
    refine lv_icmp_le (tgt := 15) hx hb dX2_append_9 (by decide) (fun c2 => ?_) (fun c2 => ?_)
    · refine lv_aload_n hx hb dX2_append_15 rfl (lv_at hl 0 rfl) ?_
      refine g_get 2 hx hb hts hown hC hI i_X2 (by decide) (e_sc g_us) rfl (by decide) qf_X2_20 rfl rfl dX2_append_16 ?_
      refine lv_if_lt (tgt := 31) hx hb dX2_append_19 (by decide) (fun c3 => ?_) (fun c3 => ?_)
      · refine lv_ldc (v := (-2000000003)) hx hb hown (hts _ qc_X2_24) dX2_append_31 ?_
        exact g_ir hQ hx hb hr0 hlk hC hI dX2_append_33 rfl (by unfold q_append; skip; (first | rw [if_pos c1] | rw [if_neg c1] | skip); (first | rw [if_pos c2] | rw [if_neg c2] | skip); (first | rw [if_pos c3] | rw [if_neg c3] | skip); try with_reducible rfl) rfl (by unfold q_append; skip; (first | rw [if_pos c1] | rw [if_neg c1] | skip); (first | rw [if_pos c2] | rw [if_neg c2] | skip); (first | rw [if_pos c3] | rw [if_neg c3] | skip); try with_reducible rfl)
      · refine lv_aload_n hx hb dX2_append_22 rfl (lv_at hl 0 rfl) ?_
        refine g_get 2 hx hb hts hown hC hI i_X2 (by decide) (e_sc g_us) rfl (by decide) qf_X2_20 rfl rfl dX2_append_23 ?_
        refine lv_bipush (v := 60) hx hb dX2_append_26 (by decide) ?_
        refine lv_icmp_lt (tgt := 34) hx hb dX2_append_28 (by decide) (fun c4 => ?_) (fun c4 => ?_)
        · refine lv_aload_n hx hb dX2_append_34 rfl (lv_at hl 0 rfl) ?_
          refine g_get 0 hx hb hts hown hC hI i_X2 (by decide) (e_sc g_us) rfl (by decide) qf_X2_9 rfl rfl dX2_append_35 ?_
          refine lv_aload_n hx hb dX2_append_38 rfl (lv_at hl 0 rfl) ?_
          refine g_get 2 hx hb hts hown hC hI i_X2 (by decide) (e_sc g_us) rfl (by decide) qf_X2_20 rfl rfl dX2_append_39 ?_
          refine lv_iload_n hx hb dX2_append_42 rfl (lv_at hl 1 rfl) ?_
          refine lv_i2c hx hb dX2_append_43 rfl ?_
          refine g_cast ((V 1 2).toNatClampNeg) hx hb hC hI (by decide) (e_ch g_us) (k_vin2 c3 c4 rfl) rfl p_ch g_hs dX2_append_44 (fun H locs hI => ?_)
          refine lv_aload_n hx hb dX2_append_45 rfl (lv_at hl 0 rfl) ?_
          refine lv_dup hx hb dX2_append_46 rfl ?_
          refine g_get 2 hx hb hts hown hC hI i_X2 (by decide) (e_sc g_us) rfl (by decide) qf_X2_20 rfl rfl dX2_append_47 ?_
          refine lv_iconst (v := 1) hx hb dX2_append_50 (by decide) ?_
          refine lv_iadd hx hb dX2_append_51 ?_
          refine g_put 2 (ty := .int) hx hb hts hown hC hI i_X2 tyX2_ok nmX2 (by decide) (e_sc g_us) rfl (by decide) qf_X2_20 rfl rfl rfl rfl rfl (Nat.le_of_ble_eq_true rfl) (p_sc (by decide)) g_hs dX2_append_52 (fun H locs hI => ?_)
          refine lv_aload_n hx hb dX2_append_55 rfl (lv_at hl 0 rfl) ?_
          refine g_get 2 hx hb hts hown hC hI i_X2 (by decide) (e_sc g_us) rfl (by decide) qf_X2_20 rfl rfl dX2_append_56 ?_
          exact g_ir hQ hx hb hr0 hlk hC hI dX2_append_59 rfl (by unfold q_append; skip; (first | rw [if_pos c1] | rw [if_neg c1] | skip); (first | rw [if_pos c2] | rw [if_neg c2] | skip); (first | rw [if_pos c3] | rw [if_neg c3] | skip); (first | rw [if_pos c4] | rw [if_neg c4] | skip); try with_reducible rfl) rfl (by unfold q_append; skip; (first | rw [if_pos c1] | rw [if_neg c1] | skip); (first | rw [if_pos c2] | rw [if_neg c2] | skip); (first | rw [if_pos c3] | rw [if_neg c3] | skip); (first | rw [if_pos c4] | rw [if_neg c4] | skip); try with_reducible rfl)
        · refine lv_ldc (v := (-2000000003)) hx hb hown (hts _ qc_X2_24) dX2_append_31 ?_
          exact g_ir hQ hx hb hr0 hlk hC hI dX2_append_33 rfl (by unfold q_append; skip; (first | rw [if_pos c1] | rw [if_neg c1] | skip); (first | rw [if_pos c2] | rw [if_neg c2] | skip); (first | rw [if_pos c3] | rw [if_neg c3] | skip); (first | rw [if_pos c4] | rw [if_neg c4] | skip); try with_reducible rfl) rfl (by unfold q_append; skip; (first | rw [if_pos c1] | rw [if_neg c1] | skip); (first | rw [if_pos c2] | rw [if_neg c2] | skip); (first | rw [if_pos c3] | rw [if_neg c3] | skip); (first | rw [if_pos c4] | rw [if_neg c4] | skip); try with_reducible rfl)
    · refine lv_ldc (v := (-2000000001)) hx hb hown (hts _ qc_X2_19) dX2_append_12 ?_
      exact g_ir hQ hx hb hr0 hlk hC hI dX2_append_14 rfl (by unfold q_append; skip; (first | rw [if_pos c1] | rw [if_neg c1] | skip); (first | rw [if_pos c2] | rw [if_neg c2] | skip); try with_reducible rfl) rfl (by unfold q_append; skip; (first | rw [if_pos c1] | rw [if_neg c1] | skip); (first | rw [if_pos c2] | rw [if_neg c2] | skip); try with_reducible rfl)
def q_setFault (V : g_V) (a : Int32) (b : Int32) (d : Int32) : g_V :=
  (g_w2 (g_w2 (g_w2 V 1 5 a) 1 6 b) 1 7 d)
abbrev rm_X2_setFault : Room := { frames := 0, cells := 0, slots := 0, locals := 0 }
set_option maxHeartbeats 800000 in
set_option maxRecDepth 100000 in
theorem c_X2_setFault (l : Launch) (D : va_G) (tb : g_T) (ad : g_Ad) (hj : g_inj ad) (P : g_P) (M : g_M) (V : g_V) (a : Int32) (b : Int32) (d : Int32) : g_Cv l yX2_setFault cX2_setFault 4 none rm_X2_setFault D tb ad [.ref (ad 6 1), .int a, .int b, .int d] P (va_up M 6 V) P (va_up M 6 (q_setFault V a b d)) := by
  refine g_go (by decide) (Nat.le_of_ble_eq_true rfl) hj ?_
  intro p e s m below meth c ls H locs R args Q hR0 hQ hx hb hml hr0 hlk hown hts hC hI hl
  subst hR0
  have hown : s.vm.findClass RX2 = some m.cls := hown
  have hl : lv_has ls 4 [(0, .ref (ad 6 1)), (1, .int a), (2, .int b), (3, .int d)] := hl
  refine lv_aload_n hx hb dX2_setFault_0 rfl (lv_at hl 0 rfl) ?_
  refine lv_iload_n hx hb dX2_setFault_1 rfl (lv_at hl 1 rfl) ?_
  refine g_put 5 (ty := .int) hx hb hts hown hC hI i_X2 tyX2_ok nmX2 (by decide) (e_sc g_us) rfl (by decide) qf_X2_54 rfl rfl rfl rfl rfl (Nat.le_of_ble_eq_true rfl) (p_sc (by decide)) g_hs dX2_setFault_2 (fun H locs hI => ?_)
  refine lv_aload_n hx hb dX2_setFault_5 rfl (lv_at hl 0 rfl) ?_
  refine lv_iload_n hx hb dX2_setFault_6 rfl (lv_at hl 2 rfl) ?_
  refine g_put 6 (ty := .int) hx hb hts hown hC hI i_X2 tyX2_ok nmX2 (by decide) (e_sc g_us) rfl (by decide) qf_X2_28 rfl rfl rfl rfl rfl (Nat.le_of_ble_eq_true rfl) (p_sc (by decide)) g_hs dX2_setFault_7 (fun H locs hI => ?_)
  refine lv_aload_n hx hb dX2_setFault_10 rfl (lv_at hl 0 rfl) ?_
  refine lv_iload_n hx hb dX2_setFault_11 rfl (lv_at hl 3 rfl) ?_
  refine g_put 7 (ty := .int) hx hb hts hown hC hI i_X2 tyX2_ok nmX2 (by decide) (e_sc g_us) rfl (by decide) qf_X2_57 rfl rfl rfl rfl rfl (Nat.le_of_ble_eq_true rfl) (p_sc (by decide)) g_hs dX2_setFault_12 (fun H locs hI => ?_)
  exact g_vr hQ hx hb hr0 hlk hC hI dX2_setFault_15 rfl (by unfold q_setFault; skip; skip; try with_reducible rfl)
abbrev rm_X2_characterAt : Room := { frames := 0, cells := 0, slots := 0, locals := 0 }
set_option maxHeartbeats 800000 in
set_option maxRecDepth 100000 in
theorem c_X2_characterAt (l : Launch) (D : va_G) (tb : g_T) (ad : g_Ad) (hj : g_inj ad) (P : g_P) (M : g_M) (V : g_V) (x : Int32) (hCh : q_okC V) : g_Ci l yX2_characterAt cX2_characterAt 3 (some .char) rm_X2_characterAt D tb ad [.ref (ad 6 1), .int x] P (va_up M 6 V) (q_charAt V x) P (va_up M 6 V) := by
  refine g_go (by decide) (Nat.le_of_ble_eq_true rfl) hj ?_
  intro p e s m below meth c ls H locs R args Q hR0 hQ hx hb hml hr0 hlk hown hts hC hI hl
  subst hR0
  have hown : s.vm.findClass RX2 = some m.cls := hown
  have hl : lv_has ls 3 [(0, .ref (ad 6 1)), (1, .int x)] := hl
  refine lv_iload_n hx hb dX2_characterAt_0 rfl (lv_at hl 1 rfl) ?_
  refine lv_if_lt (tgt := 22) hx hb dX2_characterAt_1 (by decide) (fun c1 => ?_) (fun c1 => ?_)
  · refine lv_iconst (v := 0) hx hb dX2_characterAt_22 (by decide) ?_
    refine lv_istore_n (lv' := [(2, .int 0), (0, .ref (ad 6 1)), (1, .int x)]) hx hb dX2_characterAt_23 rfl hl (by decide) rfl (fun ls hl => ?_)
    refine lv_iload_n hx hb dX2_characterAt_24 rfl (lv_at hl 0 rfl) ?_
    refine lv_if_eq (tgt := 37) hx hb dX2_characterAt_25 (by decide) (fun _ => ?_) (fun c2 => absurd c2 (by decide))
    refine lv_iconst (v := 0) hx hb dX2_characterAt_37 (by decide) ?_
    exact g_ir hQ hx hb hr0 hlk hC hI dX2_characterAt_38 (by rfl) (by unfold q_charAt; (first | rw [if_pos c1] | rw [if_neg c1] | skip); try with_reducible rfl) rfl rfl
  · refine lv_iload_n hx hb dX2_characterAt_4 rfl (lv_at hl 1 rfl) ?_
    refine lv_aload_n hx hb dX2_characterAt_5 rfl (lv_at hl 0 rfl) ?_
    refine g_get 2 hx hb hts hown hC hI i_X2 (by decide) (e_sc g_us) rfl (by decide) qf_X2_20 rfl rfl dX2_characterAt_6 ?_
    refine lv_icmp_ge (tgt := 22) hx hb dX2_characterAt_9 (by decide) (fun c3 => ?_) (fun c3 => ?_)
    · refine lv_iconst (v := 0) hx hb dX2_characterAt_22 (by decide) ?_
      refine lv_istore_n (lv' := [(2, .int 0), (0, .ref (ad 6 1)), (1, .int x)]) hx hb dX2_characterAt_23 rfl hl (by decide) rfl (fun ls hl => ?_)
      refine lv_iload_n hx hb dX2_characterAt_24 rfl (lv_at hl 0 rfl) ?_
      refine lv_if_eq (tgt := 37) hx hb dX2_characterAt_25 (by decide) (fun _ => ?_) (fun c4 => absurd c4 (by decide))
      refine lv_iconst (v := 0) hx hb dX2_characterAt_37 (by decide) ?_
      exact g_ir hQ hx hb hr0 hlk hC hI dX2_characterAt_38 (by rfl) (by unfold q_charAt; (first | rw [if_pos c1] | rw [if_neg c1] | skip); (first | rw [if_pos c3] | rw [if_neg c3] | skip); try with_reducible rfl) rfl rfl
    · refine lv_iload_n hx hb dX2_characterAt_12 rfl (lv_at hl 1 rfl) ?_
      refine lv_bipush (v := 60) hx hb dX2_characterAt_13 (by decide) ?_
      refine lv_icmp_ge (tgt := 22) hx hb dX2_characterAt_15 (by decide) (fun c5 => ?_) (fun c5 => ?_)
      · refine lv_iconst (v := 0) hx hb dX2_characterAt_22 (by decide) ?_
        refine lv_istore_n (lv' := [(2, .int 0), (0, .ref (ad 6 1)), (1, .int x)]) hx hb dX2_characterAt_23 rfl hl (by decide) rfl (fun ls hl => ?_)
        refine lv_iload_n hx hb dX2_characterAt_24 rfl (lv_at hl 0 rfl) ?_
        refine lv_if_eq (tgt := 37) hx hb dX2_characterAt_25 (by decide) (fun _ => ?_) (fun c6 => absurd c6 (by decide))
        refine lv_iconst (v := 0) hx hb dX2_characterAt_37 (by decide) ?_
        exact g_ir hQ hx hb hr0 hlk hC hI dX2_characterAt_38 (by rfl) (by unfold q_charAt; (first | rw [if_pos c1] | rw [if_neg c1] | skip); (first | rw [if_pos c3] | rw [if_neg c3] | skip); (first | rw [if_pos c5] | rw [if_neg c5] | skip); try with_reducible rfl) rfl rfl
      · refine lv_iconst (v := 1) hx hb dX2_characterAt_18 (by decide) ?_
        refine lv_goto (tgt := 23) hx hb dX2_characterAt_19 (by decide) ?_
        refine lv_istore_n (lv' := [(2, .int 1), (0, .ref (ad 6 1)), (1, .int x)]) hx hb dX2_characterAt_23 rfl hl (by decide) rfl (fun ls hl => ?_)
        refine lv_iload_n hx hb dX2_characterAt_24 rfl (lv_at hl 0 rfl) ?_
        refine lv_if_eq (tgt := 37) hx hb dX2_characterAt_25 (by decide) (fun c7 => absurd c7 (by decide)) (fun _ => ?_)
        refine lv_aload_n hx hb dX2_characterAt_28 rfl (lv_at hl 1 rfl) ?_
        refine g_get 0 hx hb hts hown hC hI i_X2 (by decide) (e_sc g_us) rfl (by decide) qf_X2_9 rfl rfl dX2_characterAt_29 ?_
        refine lv_iload_n hx hb dX2_characterAt_32 rfl (lv_at hl 2 rfl) ?_
        refine g_cald x.toNatClampNeg hx hb hC hI (by decide) (e_ch g_us) (k_vin3 (n := 60) (by assumption) (by assumption) rfl) rfl dX2_characterAt_33 ?_
        refine lv_goto (tgt := 38) hx hb dX2_characterAt_34 (by decide) ?_
        exact g_ir hQ hx hb hr0 hlk hC hI dX2_characterAt_38 (by first | rfl | exact hCh _) (by unfold q_charAt; (first | rw [if_pos c1] | rw [if_neg c1] | skip); (first | rw [if_pos c3] | rw [if_neg c3] | skip); (first | rw [if_pos c5] | rw [if_neg c5] | skip); try with_reducible rfl) rfl rfl
abbrev rm_X2_numbersBehind : Room := { frames := 0, cells := 0, slots := 0, locals := 0 }
set_option maxHeartbeats 800000 in
set_option maxRecDepth 100000 in
theorem c_X2_numbersBehind (l : Launch) (D : va_G) (tb : g_T) (ad : g_Ad) (hj : g_inj ad) (P : g_P) (M : g_M) (x : Int32) : g_Ci l yX2_numbersBehind cX2_numbersBehind 1 (some .int) rm_X2_numbersBehind D tb ad [.int x] P (M) (m_wants x) P (M) := by
  refine g_go (by decide) (Nat.le_of_ble_eq_true rfl) hj ?_
  intro p e s m below meth c ls H locs R args Q hR0 hQ hx hb hml hr0 hlk hown hts hC hI hl
  subst hR0
  have hown : s.vm.findClass RX2 = some m.cls := hown
  have hl : lv_has ls 1 [(0, .int x)] := hl
  refine lv_iload_n hx hb dX2_numbersBehind_0 rfl (lv_at hl 0 rfl) ?_
  by_cases c1 : x = 99
  · refine lv_tableIn (tgt := 92) hx hb dX2_numbersBehind_1 (by rw [c1]; decide) (by rw [c1]; decide) (by rw [c1]; rfl) (by decide) ?_
    refine lv_iconst (v := 1) hx hb dX2_numbersBehind_92 (by decide) ?_
    exact g_ir hQ hx hb hr0 hlk hC hI dX2_numbersBehind_93 rfl (by unfold m_wants; simp [c1]) rfl rfl
  by_cases c2 : x = 100
  · refine lv_tableIn (tgt := 92) hx hb dX2_numbersBehind_1 (by rw [c2]; decide) (by rw [c2]; decide) (by rw [c2]; rfl) (by decide) ?_
    refine lv_iconst (v := 1) hx hb dX2_numbersBehind_92 (by decide) ?_
    exact g_ir hQ hx hb hr0 hlk hC hI dX2_numbersBehind_93 rfl (by unfold m_wants; simp [c1, c2]) rfl rfl
  by_cases c3 : x = 101
  · refine lv_tableIn (tgt := 94) hx hb dX2_numbersBehind_1 (by rw [c3]; decide) (by rw [c3]; decide) (by rw [c3]; rfl) (by decide) ?_
    refine lv_iconst (v := 0) hx hb dX2_numbersBehind_94 (by decide) ?_
    exact g_ir hQ hx hb hr0 hlk hC hI dX2_numbersBehind_95 rfl (by unfold m_wants; simp [c1, c2, c3]) rfl rfl
  by_cases c4 : x = 102
  · refine lv_tableIn (tgt := 94) hx hb dX2_numbersBehind_1 (by rw [c4]; decide) (by rw [c4]; decide) (by rw [c4]; rfl) (by decide) ?_
    refine lv_iconst (v := 0) hx hb dX2_numbersBehind_94 (by decide) ?_
    exact g_ir hQ hx hb hr0 hlk hC hI dX2_numbersBehind_95 rfl (by unfold m_wants; simp [c1, c2, c3, c4]) rfl rfl
  by_cases c5 : x = 103
  · refine lv_tableIn (tgt := 94) hx hb dX2_numbersBehind_1 (by rw [c5]; decide) (by rw [c5]; decide) (by rw [c5]; rfl) (by decide) ?_
    refine lv_iconst (v := 0) hx hb dX2_numbersBehind_94 (by decide) ?_
    exact g_ir hQ hx hb hr0 hlk hC hI dX2_numbersBehind_95 rfl (by unfold m_wants; simp [c1, c2, c3, c4, c5]) rfl rfl
  by_cases c6 : x = 104
  · refine lv_tableIn (tgt := 94) hx hb dX2_numbersBehind_1 (by rw [c6]; decide) (by rw [c6]; decide) (by rw [c6]; rfl) (by decide) ?_
    refine lv_iconst (v := 0) hx hb dX2_numbersBehind_94 (by decide) ?_
    exact g_ir hQ hx hb hr0 hlk hC hI dX2_numbersBehind_95 rfl (by unfold m_wants; simp [c1, c2, c3, c4, c5, c6]) rfl rfl
  by_cases c7 : x = 105
  · refine lv_tableIn (tgt := 94) hx hb dX2_numbersBehind_1 (by rw [c7]; decide) (by rw [c7]; decide) (by rw [c7]; rfl) (by decide) ?_
    refine lv_iconst (v := 0) hx hb dX2_numbersBehind_94 (by decide) ?_
    exact g_ir hQ hx hb hr0 hlk hC hI dX2_numbersBehind_95 rfl (by unfold m_wants; simp [c1, c2, c3, c4, c5, c6, c7]) rfl rfl
  by_cases c8 : x = 106
  · refine lv_tableIn (tgt := 94) hx hb dX2_numbersBehind_1 (by rw [c8]; decide) (by rw [c8]; decide) (by rw [c8]; rfl) (by decide) ?_
    refine lv_iconst (v := 0) hx hb dX2_numbersBehind_94 (by decide) ?_
    exact g_ir hQ hx hb hr0 hlk hC hI dX2_numbersBehind_95 rfl (by unfold m_wants; simp [c1, c2, c3, c4, c5, c6, c7, c8]) rfl rfl
  by_cases c9 : x = 107
  · refine lv_tableIn (tgt := 94) hx hb dX2_numbersBehind_1 (by rw [c9]; decide) (by rw [c9]; decide) (by rw [c9]; rfl) (by decide) ?_
    refine lv_iconst (v := 0) hx hb dX2_numbersBehind_94 (by decide) ?_
    exact g_ir hQ hx hb hr0 hlk hC hI dX2_numbersBehind_95 rfl (by unfold m_wants; simp [c1, c2, c3, c4, c5, c6, c7, c8, c9]) rfl rfl
  by_cases c10 : x = 108
  · refine lv_tableIn (tgt := 88) hx hb dX2_numbersBehind_1 (by rw [c10]; decide) (by rw [c10]; decide) (by rw [c10]; rfl) (by decide) ?_
    refine lv_iconst (v := 3) hx hb dX2_numbersBehind_88 (by decide) ?_
    exact g_ir hQ hx hb hr0 hlk hC hI dX2_numbersBehind_89 rfl (by unfold m_wants; simp [c1, c2, c3, c4, c5, c6, c7, c8, c9, c10]) rfl rfl
  by_cases c11 : x = 109
  · refine lv_tableIn (tgt := 94) hx hb dX2_numbersBehind_1 (by rw [c11]; decide) (by rw [c11]; decide) (by rw [c11]; rfl) (by decide) ?_
    refine lv_iconst (v := 0) hx hb dX2_numbersBehind_94 (by decide) ?_
    exact g_ir hQ hx hb hr0 hlk hC hI dX2_numbersBehind_95 rfl (by unfold m_wants; simp [c1, c2, c3, c4, c5, c6, c7, c8, c9, c10, c11]) rfl rfl
  by_cases c12 : x = 110
  · refine lv_tableIn (tgt := 94) hx hb dX2_numbersBehind_1 (by rw [c12]; decide) (by rw [c12]; decide) (by rw [c12]; rfl) (by decide) ?_
    refine lv_iconst (v := 0) hx hb dX2_numbersBehind_94 (by decide) ?_
    exact g_ir hQ hx hb hr0 hlk hC hI dX2_numbersBehind_95 rfl (by unfold m_wants; simp [c1, c2, c3, c4, c5, c6, c7, c8, c9, c10, c11, c12]) rfl rfl
  by_cases c13 : x = 111
  · refine lv_tableIn (tgt := 94) hx hb dX2_numbersBehind_1 (by rw [c13]; decide) (by rw [c13]; decide) (by rw [c13]; rfl) (by decide) ?_
    refine lv_iconst (v := 0) hx hb dX2_numbersBehind_94 (by decide) ?_
    exact g_ir hQ hx hb hr0 hlk hC hI dX2_numbersBehind_95 rfl (by unfold m_wants; simp [c1, c2, c3, c4, c5, c6, c7, c8, c9, c10, c11, c12, c13]) rfl rfl
  by_cases c14 : x = 112
  · refine lv_tableIn (tgt := 90) hx hb dX2_numbersBehind_1 (by rw [c14]; decide) (by rw [c14]; decide) (by rw [c14]; rfl) (by decide) ?_
    refine lv_iconst (v := 2) hx hb dX2_numbersBehind_90 (by decide) ?_
    exact g_ir hQ hx hb hr0 hlk hC hI dX2_numbersBehind_91 rfl (by unfold m_wants; simp [c1, c2, c3, c4, c5, c6, c7, c8, c9, c10, c11, c12, c13, c14]) rfl rfl
  by_cases c15 : x = 113
  · refine lv_tableIn (tgt := 94) hx hb dX2_numbersBehind_1 (by rw [c15]; decide) (by rw [c15]; decide) (by rw [c15]; rfl) (by decide) ?_
    refine lv_iconst (v := 0) hx hb dX2_numbersBehind_94 (by decide) ?_
    exact g_ir hQ hx hb hr0 hlk hC hI dX2_numbersBehind_95 rfl (by unfold m_wants; simp [c1, c2, c3, c4, c5, c6, c7, c8, c9, c10, c11, c12, c13, c14, c15]) rfl rfl
  by_cases c16 : x = 114
  · refine lv_tableIn (tgt := 94) hx hb dX2_numbersBehind_1 (by rw [c16]; decide) (by rw [c16]; decide) (by rw [c16]; rfl) (by decide) ?_
    refine lv_iconst (v := 0) hx hb dX2_numbersBehind_94 (by decide) ?_
    exact g_ir hQ hx hb hr0 hlk hC hI dX2_numbersBehind_95 rfl (by unfold m_wants; simp [c1, c2, c3, c4, c5, c6, c7, c8, c9, c10, c11, c12, c13, c14, c15, c16]) rfl rfl
  by_cases c17 : x = 115
  · refine lv_tableIn (tgt := 88) hx hb dX2_numbersBehind_1 (by rw [c17]; decide) (by rw [c17]; decide) (by rw [c17]; rfl) (by decide) ?_
    refine lv_iconst (v := 3) hx hb dX2_numbersBehind_88 (by decide) ?_
    exact g_ir hQ hx hb hr0 hlk hC hI dX2_numbersBehind_89 rfl (by unfold m_wants; simp [c1, c2, c3, c4, c5, c6, c7, c8, c9, c10, c11, c12, c13, c14, c15, c16, c17]) rfl rfl
  by_cases c18 : x = 116
  · refine lv_tableIn (tgt := 92) hx hb dX2_numbersBehind_1 (by rw [c18]; decide) (by rw [c18]; decide) (by rw [c18]; rfl) (by decide) ?_
    refine lv_iconst (v := 1) hx hb dX2_numbersBehind_92 (by decide) ?_
    exact g_ir hQ hx hb hr0 hlk hC hI dX2_numbersBehind_93 rfl (by unfold m_wants; simp [c1, c2, c3, c4, c5, c6, c7, c8, c9, c10, c11, c12, c13, c14, c15, c16, c17, c18]) rfl rfl
  refine lv_tableOut (tgt := 94) hx hb dX2_numbersBehind_1 (by have c1i := k_ti c1 (k := 99) rfl; have c2i := k_ti c2 (k := 100) rfl; have c3i := k_ti c3 (k := 101) rfl; have c4i := k_ti c4 (k := 102) rfl; have c5i := k_ti c5 (k := 103) rfl; have c6i := k_ti c6 (k := 104) rfl; have c7i := k_ti c7 (k := 105) rfl; have c8i := k_ti c8 (k := 106) rfl; have c9i := k_ti c9 (k := 107) rfl; have c10i := k_ti c10 (k := 108) rfl; have c11i := k_ti c11 (k := 109) rfl; have c12i := k_ti c12 (k := 110) rfl; have c13i := k_ti c13 (k := 111) rfl; have c14i := k_ti c14 (k := 112) rfl; have c15i := k_ti c15 (k := 113) rfl; have c16i := k_ti c16 (k := 114) rfl; have c17i := k_ti c17 (k := 115) rfl; have c18i := k_ti c18 (k := 116) rfl; omega) (by decide) ?_
  refine lv_iconst (v := 0) hx hb dX2_numbersBehind_94 (by decide) ?_
  exact g_ir hQ hx hb hr0 hlk hC hI dX2_numbersBehind_95 rfl (by unfold m_wants; simp [c1, c2, c3, c4, c5, c6, c7, c8, c9, c10, c11, c12, c13, c14, c15, c16, c17, c18]) rfl rfl
abbrev rm_X2_readNumber : Room := { frames := 1, cells := 0, slots := 0, locals := 22 }
set_option maxHeartbeats 800000 in
set_option maxRecDepth 100000 in
theorem c_X2_readNumber (l : Launch) (D : va_G) (tb : g_T) (ad : g_Ad) (hj : g_inj ad) (P : g_P) (M : g_M) (V : g_V) (hCh : q_okC V) : g_Ci l yX2_readNumber cX2_readNumber 3 (some .int) rm_X2_readNumber D tb ad [.ref (ad 6 1)] P (va_up M 6 V) ((q_readNum V).2) P (va_up M 6 ((q_readNum V).1)) := by
  refine g_go (by decide) (Nat.le_of_ble_eq_true rfl) hj ?_
  intro p e s m below meth c ls H locs R args Q hR0 hQ hx hb hml hr0 hlk hown hts hC hI hl
  subst hR0
  have hown : s.vm.findClass RX2 = some m.cls := hown
  have hl : lv_has ls 3 [(0, .ref (ad 6 1))] := hl
  refine lv_iconst (v := 0) hx hb dX2_readNumber_0 (by decide) ?_
  refine lv_istore_n (lv' := [(1, .int 0), (0, .ref (ad 6 1))]) hx hb dX2_readNumber_1 rfl hl (by decide) rfl (fun ls hl => ?_)
  refine lv_iconst (v := 0) hx hb dX2_readNumber_2 (by decide) ?_
  refine lv_istore_n (lv' := [(2, .int 0), (1, .int 0), (0, .ref (ad 6 1))]) hx hb dX2_readNumber_3 rfl hl (by decide) rfl (fun ls hl => ?_)
  have lp4 : ∀ (d k : Nat) (Vx : g_V) (y : Int32), k ≤ 6 → 6 < k + d → (q_okC Vx) → (q_numN (6 - k) (Vx, y) = q_numN 6 (V, 0)) → ∀ (H : Heap) (locs : List Loc) (ls : Array Slot), g_I D tb ad (g_A ad) s H locs P (va_up M 6 Vx) → lv_has ls 3 [(2, .int (nI k)), (1, .int y), (0, .ref (ad 6 1))] → W p l e rm_X2_readNumber s m args below meth c H locs 0 0 Q (F0 m 4 ls []) := by
    intro d
    induction d with
    | zero => intro k Vx y hkp hfu; intros; omega
    | succ d ih4 =>
      intro k Vx y hkp hfu hCx hnum H locs ls hI hl
      refine lv_iload_n hx hb dX2_readNumber_4 rfl (lv_at hl 0 rfl) ?_
      refine lv_bipush (v := 6) hx hb dX2_readNumber_5 (by decide) ?_
      refine lv_icmp_ge (tgt := 57) hx hb dX2_readNumber_7 (by decide) (fun c1 => ?_) (fun c1 => ?_)
      · have c1n : 6 ≤ k := (nI_leI (a := 6) (b := k) (by omega) (by omega)).mp c1
        refine lv_iload_n hx hb dX2_readNumber_57 rfl (lv_at hl 1 rfl) ?_
        exact g_ir hQ hx hb hr0 hlk hC hI dX2_readNumber_58 rfl (by unfold q_readNum; rw [← hnum]; first | (rw [show k = 6 from (by omega)]; rfl) | (obtain ⟨j, hj⟩ : ∃ j, 6 - k = j + 1 := ⟨5 - k, by omega⟩; rw [hj, q_numN]; (try unfold q_ch); (first | rw [if_pos c1] | rw [if_neg c1] | skip); try with_reducible rfl)) rfl (by unfold q_readNum; rw [← hnum]; first | (rw [show k = 6 from (by omega)]; rfl) | (obtain ⟨j, hj⟩ : ∃ j, 6 - k = j + 1 := ⟨5 - k, by omega⟩; rw [hj, q_numN]; (try unfold q_ch); (first | rw [if_pos c1] | rw [if_neg c1] | skip); try with_reducible rfl))
      · have c1n : ¬ 6 ≤ k := fun z => c1 ((nI_leI (a := 6) (b := k) (by omega) (by omega)).mpr z)
        refine lv_aload_n hx hb dX2_readNumber_10 rfl (lv_at hl 2 rfl) ?_
        refine lv_aload_n hx hb dX2_readNumber_11 rfl (lv_at hl 2 rfl) ?_
        refine g_get 3 hx hb hts hown hC hI i_X2 (by decide) (e_sc g_us) rfl (by decide) qf_X2_31 rfl rfl dX2_readNumber_12 ?_
        refine g_callVi (rest := []) (c_X2_characterAt l D tb ad hj P M Vx (Vx 1 3) hCx) rfl rfl gm_X2_characterAt hx hb hml hown hts hC hI (by decide) (e_sc g_us) rfl rfl qm_X2_42 rfl hl.1 rfl ⟨rfl, rfl, by decide, by decide⟩ (Nat.le_of_ble_eq_true rfl) ⟨Nat.zero_le _, Nat.zero_le _⟩ dX2_readNumber_15 (fun H locs hI => ?_)
        refine g_callSi (rest := []) (c_X2_isDigit l D tb ad hj P (va_up M 6 Vx) (q_charAt Vx (Vx 1 3))) rfl rfl gm_X2_isDigit hx hb hml hown hts hC hI qm_X2_87 rfl hl.1 rfl ⟨rfl, rfl, by decide, by decide⟩ (Nat.le_of_ble_eq_true rfl) ⟨Nat.zero_le _, Nat.zero_le _⟩ dX2_readNumber_18 (fun H locs hI => ?_)
        refine g_tf (fun c2 => ?_) (fun c2 => ?_)
        · refine lv_if_eq (tgt := 57) hx hb dX2_readNumber_21 (by decide) (fun c3 => absurd c3 (by decide)) (fun _ => ?_)
          refine lv_iload_n hx hb dX2_readNumber_24 rfl (lv_at hl 1 rfl) ?_
          refine lv_bipush (v := 10) hx hb dX2_readNumber_25 (by decide) ?_
          refine lv_imul hx hb dX2_readNumber_27 ?_
          refine lv_aload_n hx hb dX2_readNumber_28 rfl (lv_at hl 2 rfl) ?_
          refine lv_aload_n hx hb dX2_readNumber_29 rfl (lv_at hl 2 rfl) ?_
          refine g_get 3 hx hb hts hown hC hI i_X2 (by decide) (e_sc g_us) rfl (by decide) qf_X2_31 rfl rfl dX2_readNumber_30 ?_
          refine g_callVi (rest := [.int (y * 10)]) (c_X2_characterAt l D tb ad hj P M Vx (Vx 1 3) hCx) rfl rfl gm_X2_characterAt hx hb hml hown hts hC hI (by decide) (e_sc g_us) rfl rfl qm_X2_42 rfl hl.1 rfl ⟨rfl, rfl, by decide, by decide⟩ (Nat.le_of_ble_eq_true rfl) ⟨Nat.zero_le _, Nat.zero_le _⟩ dX2_readNumber_33 (fun H locs hI => ?_)
          refine lv_bipush (v := 48) hx hb dX2_readNumber_36 (by decide) ?_
          refine lv_isub hx hb dX2_readNumber_38 ?_
          refine lv_iadd hx hb dX2_readNumber_39 ?_
          refine lv_istore_n (lv' := [(1, .int ((y * 10) + ((q_charAt Vx (Vx 1 3)) - 48))), (2, .int (nI k)), (0, .ref (ad 6 1))]) hx hb dX2_readNumber_40 rfl hl (by decide) rfl (fun ls hl => ?_)
          refine lv_aload_n hx hb dX2_readNumber_41 rfl (lv_at hl 2 rfl) ?_
          refine lv_dup hx hb dX2_readNumber_42 rfl ?_
          refine g_get 3 hx hb hts hown hC hI i_X2 (by decide) (e_sc g_us) rfl (by decide) qf_X2_31 rfl rfl dX2_readNumber_43 ?_
          refine lv_iconst (v := 1) hx hb dX2_readNumber_46 (by decide) ?_
          refine lv_iadd hx hb dX2_readNumber_47 ?_
          refine g_put 3 (ty := .int) hx hb hts hown hC hI i_X2 tyX2_ok nmX2 (by decide) (e_sc g_us) rfl (by decide) qf_X2_31 rfl rfl rfl rfl rfl (Nat.le_of_ble_eq_true rfl) (p_sc (by decide)) g_hs dX2_readNumber_48 (fun H locs hI => ?_)
          refine lv_iinc (v := nI (k + 1)) (lv' := [(2, .int (nI (k + 1))), (1, .int ((y * 10) + ((q_charAt Vx (Vx 1 3)) - 48))), (0, .ref (ad 6 1))]) hx hb dX2_readNumber_51 hl (k := 1) rfl (nI_1 _) (by decide) rfl (fun ls hl => ?_)
          refine lv_goto (tgt := 4) hx hb dX2_readNumber_54 (by decide) ?_
          exact ih4 (k + 1) _ _ (by omega) (by omega)  (by exact hCx.w (by decide)) (by rw [← hnum, show 6 - k = (6 - (k + 1)) + 1 from (by omega), q_numN]; (try unfold q_ch); (first | rw [if_pos c1] | rw [if_neg c1] | skip); (first | rw [if_pos c2] | rw [if_neg c2] | skip); (try unfold q_step); (try dsimp only); try with_reducible rfl) _ _ _ hI (lv_sub hl [0, 1, 2] rfl)
        · refine lv_if_eq (tgt := 57) hx hb dX2_readNumber_21 (by decide) (fun _ => ?_) (fun c4 => absurd c4 (by decide))
          refine lv_iload_n hx hb dX2_readNumber_57 rfl (lv_at hl 1 rfl) ?_
          exact g_ir hQ hx hb hr0 hlk hC hI dX2_readNumber_58 rfl (by unfold q_readNum; rw [← hnum]; first | (rw [show k = 6 from (by omega)]; rfl) | (obtain ⟨j, hj⟩ : ∃ j, 6 - k = j + 1 := ⟨5 - k, by omega⟩; rw [hj, q_numN]; (try unfold q_ch); (first | rw [if_pos c1] | rw [if_neg c1] | skip); (first | rw [if_pos c2] | rw [if_neg c2] | skip); try with_reducible rfl)) rfl (by unfold q_readNum; rw [← hnum]; first | (rw [show k = 6 from (by omega)]; rfl) | (obtain ⟨j, hj⟩ : ∃ j, 6 - k = j + 1 := ⟨5 - k, by omega⟩; rw [hj, q_numN]; (try unfold q_ch); (first | rw [if_pos c1] | rw [if_neg c1] | skip); (first | rw [if_pos c2] | rw [if_neg c2] | skip); try with_reducible rfl))
  exact lp4 (6 + 1) 0 _ _ (by omega) (by omega)  hCh rfl _ _ _ hI (lv_sub hl [0, 1, 2] rfl)
abbrev rm_X2_readOrder : Room := { frames := 2, cells := 0, slots := 0, locals := 44 }
set_option maxHeartbeats 800000 in
set_option maxRecDepth 100000 in
theorem c_X2_readOrder (l : Launch) (D : va_G) (tb : g_T) (ad : g_Ad) (hj : g_inj ad) (P : g_P) (M : g_M) (V : g_V) (hCh : q_okC V) : g_Ci l yX2_readOrder cX2_readOrder 3 (some .boolean) rm_X2_readOrder D tb ad [.ref (ad 6 1)] P (va_up M 6 V) ((q_readOrder V).1) P (va_up M 6 ((q_readOrder V).2)) := by
  refine g_go (by decide) (Nat.le_of_ble_eq_true rfl) hj ?_
  intro p e s m below meth c ls H locs R args Q hR0 hQ hx hb hml hr0 hlk hown hts hC hI hl
  subst hR0
  have hown : s.vm.findClass RX2 = some m.cls := hown
  have hl : lv_has ls 3 [(0, .ref (ad 6 1))] := hl
  refine lv_aload_n hx hb dX2_readOrder_0 rfl (lv_at hl 0 rfl) ?_
  refine lv_aload_n hx hb dX2_readOrder_1 rfl (lv_at hl 0 rfl) ?_
  refine g_get 3 hx hb hts hown hC hI i_X2 (by decide) (e_sc g_us) rfl (by decide) qf_X2_31 rfl rfl dX2_readOrder_2 ?_
  refine g_callVi (rest := []) (c_X2_characterAt l D tb ad hj P M V (V 1 3) hCh) rfl rfl gm_X2_characterAt hx hb hml hown hts hC hI (by decide) (e_sc g_us) rfl rfl qm_X2_42 rfl hl.1 rfl ⟨rfl, rfl, by decide, by decide⟩ (Nat.le_of_ble_eq_true rfl) ⟨Nat.zero_le _, Nat.zero_le _⟩ dX2_readOrder_5 (fun H locs hI => ?_)
  refine g_callSi (rest := []) (c_X2_numbersBehind l D tb ad hj P (va_up M 6 V) (q_charAt V (V 1 3))) rfl rfl gm_X2_numbersBehind hx hb hml hown hts hC hI qm_X2_83 rfl hl.1 rfl ⟨rfl, rfl, by decide, by decide⟩ (Nat.le_of_ble_eq_true rfl) ⟨Nat.zero_le _, Nat.zero_le _⟩ dX2_readOrder_8 (fun H locs hI => ?_)
  refine lv_istore_n (lv' := [(1, .int (m_wants (q_charAt V (V 1 3)))), (0, .ref (ad 6 1))]) hx hb dX2_readOrder_11 rfl hl (by decide) rfl (fun ls hl => ?_)
  refine lv_iload_n hx hb dX2_readOrder_12 rfl (lv_at hl 0 rfl) ?_
  refine lv_if_ne (tgt := 18) hx hb dX2_readOrder_13 (by decide) (fun c1 => ?_) (fun c1 => ?_)
  · refine lv_aload_n hx hb dX2_readOrder_18 rfl (lv_at hl 1 rfl) ?_
    refine lv_dup hx hb dX2_readOrder_19 rfl ?_
    refine g_get 3 hx hb hts hown hC hI i_X2 (by decide) (e_sc g_us) rfl (by decide) qf_X2_31 rfl rfl dX2_readOrder_20 ?_
    refine lv_iconst (v := 1) hx hb dX2_readOrder_23 (by decide) ?_
    refine lv_iadd hx hb dX2_readOrder_24 ?_
    refine g_put 3 (ty := .int) hx hb hts hown hC hI i_X2 tyX2_ok nmX2 (by decide) (e_sc g_us) rfl (by decide) qf_X2_31 rfl rfl rfl rfl rfl (Nat.le_of_ble_eq_true rfl) (p_sc (by decide)) g_hs dX2_readOrder_25 (fun H locs hI => ?_)
    refine lv_iconst (v := 0) hx hb dX2_readOrder_28 (by decide) ?_
    refine lv_istore_n (lv' := [(2, .int 0), (1, .int (m_wants (q_charAt V (V 1 3)))), (0, .ref (ad 6 1))]) hx hb dX2_readOrder_29 rfl hl (by decide) rfl (fun ls hl => ?_)
    have lp30 : ∀ (d i : Nat) (Vx : g_V), i ≤ 3 → 3 < i + d → (q_okC Vx) → (q_ordN (m_wants (q_charAt V (V 1 3))) (3 - i) i Vx = q_ordN (m_wants (q_charAt V (V 1 3))) 3 0 (q_step V)) → ∀ (H : Heap) (locs : List Loc) (ls : Array Slot), g_I D tb ad (g_A ad) s H locs P (va_up M 6 Vx) → lv_has ls 3 [(2, .int (nI i)), (1, .int (m_wants (q_charAt V (V 1 3)))), (0, .ref (ad 6 1))] → W p l e rm_X2_readOrder s m args below meth c H locs 0 0 Q (F0 m 30 ls []) := by
      intro d
      induction d with
      | zero => intro i Vx hkp hfu; intros; omega
      | succ d ih30 =>
        intro i Vx hkp hfu hCx hord H locs ls hI hl
        refine lv_iload_n hx hb dX2_readOrder_30 rfl (lv_at hl 0 rfl) ?_
        refine lv_iload_n hx hb dX2_readOrder_31 rfl (lv_at hl 1 rfl) ?_
        refine lv_icmp_ge (tgt := 109) hx hb dX2_readOrder_32 (by decide) (fun c2 => ?_) (fun c2 => ?_)
        · refine lv_iconst (v := 1) hx hb dX2_readOrder_109 (by decide) ?_
          exact g_ir hQ hx hb hr0 hlk hC hI dX2_readOrder_110 (by rfl) (by first | (unfold q_readOrder; rw [show q_ch V = q_charAt V (V 1 3) from rfl, if_pos c1]) | (unfold q_readOrder; rw [show q_ch V = q_charAt V (V 1 3) from rfl, if_neg c1]; (try unfold q_ch); rw [← hord]; rcases Nat.lt_or_ge i 3 with hi3 | hi3 <;> first | (rw [show 3 - i = 0 from (by omega)]; rfl) | (obtain ⟨j, hj⟩ : ∃ j, 3 - i = j + 1 := ⟨2 - i, by omega⟩; rw [hj, q_ordN]; (try unfold q_ch); (try unfold q_num1); (first | rw [if_pos c1] | rw [if_neg c1] | skip); (first | rw [if_pos c2] | rw [if_neg c2] | skip); (try dsimp only); try with_reducible rfl))) rfl (by first | (unfold q_readOrder; rw [show q_ch V = q_charAt V (V 1 3) from rfl, if_pos c1]) | (unfold q_readOrder; rw [show q_ch V = q_charAt V (V 1 3) from rfl, if_neg c1]; (try unfold q_ch); rw [← hord]; rcases Nat.lt_or_ge i 3 with hi3 | hi3 <;> first | (rw [show 3 - i = 0 from (by omega)]; rfl) | (obtain ⟨j, hj⟩ : ∃ j, 3 - i = j + 1 := ⟨2 - i, by omega⟩; rw [hj, q_ordN]; (try unfold q_ch); (try unfold q_num1); (first | rw [if_pos c1] | rw [if_neg c1] | skip); (first | rw [if_pos c2] | rw [if_neg c2] | skip); (try dsimp only); try with_reducible rfl)))
        · refine lv_iload_n hx hb dX2_readOrder_35 rfl (lv_at hl 0 rfl) ?_
          refine lv_iconst (v := 3) hx hb dX2_readOrder_36 (by decide) ?_
          refine lv_icmp_ge (tgt := 109) hx hb dX2_readOrder_37 (by decide) (fun c3 => ?_) (fun c3 => ?_)
          · have c3n : 3 ≤ i := (nI_leI (a := 3) (b := i) (by omega) (by omega)).mp c3
            refine lv_iconst (v := 1) hx hb dX2_readOrder_109 (by decide) ?_
            exact g_ir hQ hx hb hr0 hlk hC hI dX2_readOrder_110 (by rfl) (by first | (unfold q_readOrder; rw [show q_ch V = q_charAt V (V 1 3) from rfl, if_pos c1]) | (unfold q_readOrder; rw [show q_ch V = q_charAt V (V 1 3) from rfl, if_neg c1]; (try unfold q_ch); rw [← hord]; rcases Nat.lt_or_ge i 3 with hi3 | hi3 <;> first | (rw [show 3 - i = 0 from (by omega)]; rfl) | (obtain ⟨j, hj⟩ : ∃ j, 3 - i = j + 1 := ⟨2 - i, by omega⟩; rw [hj, q_ordN]; (try unfold q_ch); (try unfold q_num1); (first | rw [if_pos c1] | rw [if_neg c1] | skip); (first | rw [if_pos c2] | rw [if_neg c2] | skip); (first | rw [if_pos c3] | rw [if_neg c3] | skip); (try dsimp only); try with_reducible rfl))) rfl (by first | (unfold q_readOrder; rw [show q_ch V = q_charAt V (V 1 3) from rfl, if_pos c1]) | (unfold q_readOrder; rw [show q_ch V = q_charAt V (V 1 3) from rfl, if_neg c1]; (try unfold q_ch); rw [← hord]; rcases Nat.lt_or_ge i 3 with hi3 | hi3 <;> first | (rw [show 3 - i = 0 from (by omega)]; rfl) | (obtain ⟨j, hj⟩ : ∃ j, 3 - i = j + 1 := ⟨2 - i, by omega⟩; rw [hj, q_ordN]; (try unfold q_ch); (try unfold q_num1); (first | rw [if_pos c1] | rw [if_neg c1] | skip); (first | rw [if_pos c2] | rw [if_neg c2] | skip); (first | rw [if_pos c3] | rw [if_neg c3] | skip); (try dsimp only); try with_reducible rfl)))
          · have c3n : ¬ 3 ≤ i := fun z => c3 ((nI_leI (a := 3) (b := i) (by omega) (by omega)).mpr z)
            refine lv_aload_n hx hb dX2_readOrder_40 rfl (lv_at hl 2 rfl) ?_
            refine lv_aload_n hx hb dX2_readOrder_41 rfl (lv_at hl 2 rfl) ?_
            refine g_get 3 hx hb hts hown hC hI i_X2 (by decide) (e_sc g_us) rfl (by decide) qf_X2_31 rfl rfl dX2_readOrder_42 ?_
            refine g_callVi (rest := []) (c_X2_characterAt l D tb ad hj P M Vx (Vx 1 3) hCx) rfl rfl gm_X2_characterAt hx hb hml hown hts hC hI (by decide) (e_sc g_us) rfl rfl qm_X2_42 rfl hl.1 rfl ⟨rfl, rfl, by decide, by decide⟩ (Nat.le_of_ble_eq_true rfl) ⟨Nat.zero_le _, Nat.zero_le _⟩ dX2_readOrder_45 (fun H locs hI => ?_)
            refine g_callSi (rest := []) (c_X2_isDigit l D tb ad hj P (va_up M 6 Vx) (q_charAt Vx (Vx 1 3))) rfl rfl gm_X2_isDigit hx hb hml hown hts hC hI qm_X2_87 rfl hl.1 rfl ⟨rfl, rfl, by decide, by decide⟩ (Nat.le_of_ble_eq_true rfl) ⟨Nat.zero_le _, Nat.zero_le _⟩ dX2_readOrder_48 (fun H locs hI => ?_)
            refine g_tf (fun c4 => ?_) (fun c4 => ?_)
            · refine lv_if_ne (tgt := 56) hx hb dX2_readOrder_51 (by decide) (fun _ => ?_) (fun c5 => absurd c5 (by decide))
              refine lv_aload_n hx hb dX2_readOrder_56 rfl (lv_at hl 2 rfl) ?_
              refine g_get 1 hx hb hts hown hC hI i_X2 (by decide) (e_sc g_us) rfl (by decide) qf_X2_15 rfl rfl dX2_readOrder_57 ?_
              refine lv_iload_n hx hb dX2_readOrder_60 rfl (lv_at hl 0 rfl) ?_
              refine lv_aload_n hx hb dX2_readOrder_61 rfl (lv_at hl 2 rfl) ?_
              refine g_callVi (rest := [.int (nI i), .ref (ad 6 3)]) (c_X2_readNumber l D tb ad hj P M Vx hCx) rfl rfl gm_X2_readNumber hx hb hml hown hts hC hI (by decide) (e_sc g_us) rfl rfl qm_X2_91 rfl hl.1 rfl ⟨rfl, rfl, by decide, by decide⟩ (Nat.le_of_ble_eq_true rfl) ⟨Nat.zero_le _, Nat.zero_le _⟩ dX2_readOrder_62 (fun H locs hI => ?_)
              refine g_iast i hx hb hC hI (by decide) (e_nu g_us) (vp_in_nI (by omega) (by decide)) (nI_clamp (by omega)) p_nu g_hs dX2_readOrder_65 (fun H locs hI => ?_)
              refine lv_aload_n hx hb dX2_readOrder_66 rfl (lv_at hl 2 rfl) ?_
              refine lv_aload_n hx hb dX2_readOrder_67 rfl (lv_at hl 2 rfl) ?_
              refine g_get 3 hx hb hts hown hC hI i_X2 (by decide) (e_sc g_us) rfl (by decide) qf_X2_31 rfl rfl dX2_readOrder_68 ?_
              refine g_callVi (rest := []) (c_X2_characterAt l D tb ad hj P M (g_w2 ((q_readNum Vx).1) 3 i ((q_readNum Vx).2)) ((g_w2 ((q_readNum Vx).1) 3 i ((q_readNum Vx).2)) 1 3) (hCx.of q_num1_2)) rfl rfl gm_X2_characterAt hx hb hml hown hts hC hI (by decide) (e_sc g_us) rfl rfl qm_X2_42 rfl hl.1 rfl ⟨rfl, rfl, by decide, by decide⟩ (Nat.le_of_ble_eq_true rfl) ⟨Nat.zero_le _, Nat.zero_le _⟩ dX2_readOrder_71 (fun H locs hI => ?_)
              refine lv_iload_n hx hb dX2_readOrder_74 rfl (lv_at hl 0 rfl) ?_
              refine lv_iconst (v := 1) hx hb dX2_readOrder_75 (by decide) ?_
              refine lv_iadd hx hb dX2_readOrder_76 ?_
              refine g_te (nI_add i 1) ?_
              refine lv_iload_n hx hb dX2_readOrder_77 rfl (lv_at hl 1 rfl) ?_
              refine lv_icmp_ge (tgt := 86) hx hb dX2_readOrder_78 (by decide) (fun c6 => ?_) (fun c6 => ?_)
              · refine lv_bipush (v := 59) hx hb dX2_readOrder_86 (by decide) ?_
                refine lv_icmp_eq (tgt := 93) hx hb dX2_readOrder_88 (by decide) (fun c7 => ?_) (fun c7 => ?_)
                · refine lv_aload_n hx hb dX2_readOrder_93 rfl (lv_at hl 2 rfl) ?_
                  refine lv_dup hx hb dX2_readOrder_94 rfl ?_
                  refine g_get 3 hx hb hts hown hC hI i_X2 (by decide) (e_sc g_us) rfl (by decide) qf_X2_31 rfl rfl dX2_readOrder_95 ?_
                  refine lv_iconst (v := 1) hx hb dX2_readOrder_98 (by decide) ?_
                  refine lv_iadd hx hb dX2_readOrder_99 ?_
                  refine g_put 3 (ty := .int) hx hb hts hown hC hI i_X2 tyX2_ok nmX2 (by decide) (e_sc g_us) rfl (by decide) qf_X2_31 rfl rfl rfl rfl rfl (Nat.le_of_ble_eq_true rfl) (p_sc (by decide)) g_hs dX2_readOrder_100 (fun H locs hI => ?_)
                  refine lv_iinc (v := nI (i + 1)) (lv' := [(2, .int (nI (i + 1))), (1, .int (m_wants (q_charAt V (V 1 3)))), (0, .ref (ad 6 1))]) hx hb dX2_readOrder_103 hl (k := 0) rfl (nI_1 _) (by decide) rfl (fun ls hl => ?_)
                  refine lv_goto (tgt := 30) hx hb dX2_readOrder_106 (by decide) ?_
                  exact ih30 (i + 1) _ (by omega) (by omega)  (by exact (hCx.of q_num1_2).w (by decide)) (by rw [← hord, show 3 - i = (3 - (i + 1)) + 1 from (by omega), q_ordN]; (try unfold q_ch); (try unfold q_num1); (first | rw [if_pos c1] | rw [if_neg c1] | skip); (first | rw [if_pos c2] | rw [if_neg c2] | skip); (first | rw [if_pos c3] | rw [if_neg c3] | skip); (first | rw [if_pos c4] | rw [if_neg c4] | skip); (first | rw [if_pos c6] | rw [if_neg c6] | skip); (first | rw [if_pos c7] | rw [if_neg c7] | skip); (try unfold q_step); (try dsimp only); try with_reducible rfl) _ _ _ hI (lv_sub hl [0, 1, 2] rfl)
                · refine lv_iconst (v := 0) hx hb dX2_readOrder_91 (by decide) ?_
                  exact g_ir hQ hx hb hr0 hlk hC hI dX2_readOrder_92 (by rfl) (by first | (unfold q_readOrder; rw [show q_ch V = q_charAt V (V 1 3) from rfl, if_pos c1]) | (unfold q_readOrder; rw [show q_ch V = q_charAt V (V 1 3) from rfl, if_neg c1]; (try unfold q_ch); rw [← hord]; rcases Nat.lt_or_ge i 3 with hi3 | hi3 <;> first | (rw [show 3 - i = 0 from (by omega)]; rfl) | (obtain ⟨j, hj⟩ : ∃ j, 3 - i = j + 1 := ⟨2 - i, by omega⟩; rw [hj, q_ordN]; (try unfold q_ch); (try unfold q_num1); (first | rw [if_pos c1] | rw [if_neg c1] | skip); (first | rw [if_pos c2] | rw [if_neg c2] | skip); (first | rw [if_pos c3] | rw [if_neg c3] | skip); (first | rw [if_pos c4] | rw [if_neg c4] | skip); (first | rw [if_pos c6] | rw [if_neg c6] | skip); (first | rw [if_pos c7] | rw [if_neg c7] | skip); (try dsimp only); try with_reducible rfl))) rfl (by first | (unfold q_readOrder; rw [show q_ch V = q_charAt V (V 1 3) from rfl, if_pos c1]) | (unfold q_readOrder; rw [show q_ch V = q_charAt V (V 1 3) from rfl, if_neg c1]; (try unfold q_ch); rw [← hord]; rcases Nat.lt_or_ge i 3 with hi3 | hi3 <;> first | (rw [show 3 - i = 0 from (by omega)]; rfl) | (obtain ⟨j, hj⟩ : ∃ j, 3 - i = j + 1 := ⟨2 - i, by omega⟩; rw [hj, q_ordN]; (try unfold q_ch); (try unfold q_num1); (first | rw [if_pos c1] | rw [if_neg c1] | skip); (first | rw [if_pos c2] | rw [if_neg c2] | skip); (first | rw [if_pos c3] | rw [if_neg c3] | skip); (first | rw [if_pos c4] | rw [if_neg c4] | skip); (first | rw [if_pos c6] | rw [if_neg c6] | skip); (first | rw [if_pos c7] | rw [if_neg c7] | skip); (try dsimp only); try with_reducible rfl)))
              · refine lv_bipush (v := 44) hx hb dX2_readOrder_81 (by decide) ?_
                refine lv_goto (tgt := 88) hx hb dX2_readOrder_83 (by decide) ?_
                refine lv_icmp_eq (tgt := 93) hx hb dX2_readOrder_88 (by decide) (fun c8 => ?_) (fun c8 => ?_)
                · refine lv_aload_n hx hb dX2_readOrder_93 rfl (lv_at hl 2 rfl) ?_
                  refine lv_dup hx hb dX2_readOrder_94 rfl ?_
                  refine g_get 3 hx hb hts hown hC hI i_X2 (by decide) (e_sc g_us) rfl (by decide) qf_X2_31 rfl rfl dX2_readOrder_95 ?_
                  refine lv_iconst (v := 1) hx hb dX2_readOrder_98 (by decide) ?_
                  refine lv_iadd hx hb dX2_readOrder_99 ?_
                  refine g_put 3 (ty := .int) hx hb hts hown hC hI i_X2 tyX2_ok nmX2 (by decide) (e_sc g_us) rfl (by decide) qf_X2_31 rfl rfl rfl rfl rfl (Nat.le_of_ble_eq_true rfl) (p_sc (by decide)) g_hs dX2_readOrder_100 (fun H locs hI => ?_)
                  refine lv_iinc (v := nI (i + 1)) (lv' := [(2, .int (nI (i + 1))), (1, .int (m_wants (q_charAt V (V 1 3)))), (0, .ref (ad 6 1))]) hx hb dX2_readOrder_103 hl (k := 0) rfl (nI_1 _) (by decide) rfl (fun ls hl => ?_)
                  refine lv_goto (tgt := 30) hx hb dX2_readOrder_106 (by decide) ?_
                  exact ih30 (i + 1) _ (by omega) (by omega)  (by exact (hCx.of q_num1_2).w (by decide)) (by rw [← hord, show 3 - i = (3 - (i + 1)) + 1 from (by omega), q_ordN]; (try unfold q_ch); (try unfold q_num1); (first | rw [if_pos c1] | rw [if_neg c1] | skip); (first | rw [if_pos c2] | rw [if_neg c2] | skip); (first | rw [if_pos c3] | rw [if_neg c3] | skip); (first | rw [if_pos c4] | rw [if_neg c4] | skip); (first | rw [if_pos c6] | rw [if_neg c6] | skip); (first | rw [if_pos c8] | rw [if_neg c8] | skip); (try unfold q_step); (try dsimp only); try with_reducible rfl) _ _ _ hI (lv_sub hl [0, 1, 2] rfl)
                · refine lv_iconst (v := 0) hx hb dX2_readOrder_91 (by decide) ?_
                  exact g_ir hQ hx hb hr0 hlk hC hI dX2_readOrder_92 (by rfl) (by first | (unfold q_readOrder; rw [show q_ch V = q_charAt V (V 1 3) from rfl, if_pos c1]) | (unfold q_readOrder; rw [show q_ch V = q_charAt V (V 1 3) from rfl, if_neg c1]; (try unfold q_ch); rw [← hord]; rcases Nat.lt_or_ge i 3 with hi3 | hi3 <;> first | (rw [show 3 - i = 0 from (by omega)]; rfl) | (obtain ⟨j, hj⟩ : ∃ j, 3 - i = j + 1 := ⟨2 - i, by omega⟩; rw [hj, q_ordN]; (try unfold q_ch); (try unfold q_num1); (first | rw [if_pos c1] | rw [if_neg c1] | skip); (first | rw [if_pos c2] | rw [if_neg c2] | skip); (first | rw [if_pos c3] | rw [if_neg c3] | skip); (first | rw [if_pos c4] | rw [if_neg c4] | skip); (first | rw [if_pos c6] | rw [if_neg c6] | skip); (first | rw [if_pos c8] | rw [if_neg c8] | skip); (try dsimp only); try with_reducible rfl))) rfl (by first | (unfold q_readOrder; rw [show q_ch V = q_charAt V (V 1 3) from rfl, if_pos c1]) | (unfold q_readOrder; rw [show q_ch V = q_charAt V (V 1 3) from rfl, if_neg c1]; (try unfold q_ch); rw [← hord]; rcases Nat.lt_or_ge i 3 with hi3 | hi3 <;> first | (rw [show 3 - i = 0 from (by omega)]; rfl) | (obtain ⟨j, hj⟩ : ∃ j, 3 - i = j + 1 := ⟨2 - i, by omega⟩; rw [hj, q_ordN]; (try unfold q_ch); (try unfold q_num1); (first | rw [if_pos c1] | rw [if_neg c1] | skip); (first | rw [if_pos c2] | rw [if_neg c2] | skip); (first | rw [if_pos c3] | rw [if_neg c3] | skip); (first | rw [if_pos c4] | rw [if_neg c4] | skip); (first | rw [if_pos c6] | rw [if_neg c6] | skip); (first | rw [if_pos c8] | rw [if_neg c8] | skip); (try dsimp only); try with_reducible rfl)))
            · refine lv_if_ne (tgt := 56) hx hb dX2_readOrder_51 (by decide) (fun c9 => absurd c9 (by decide)) (fun _ => ?_)
              refine lv_iconst (v := 0) hx hb dX2_readOrder_54 (by decide) ?_
              exact g_ir hQ hx hb hr0 hlk hC hI dX2_readOrder_55 (by rfl) (by first | (unfold q_readOrder; rw [show q_ch V = q_charAt V (V 1 3) from rfl, if_pos c1]) | (unfold q_readOrder; rw [show q_ch V = q_charAt V (V 1 3) from rfl, if_neg c1]; (try unfold q_ch); rw [← hord]; rcases Nat.lt_or_ge i 3 with hi3 | hi3 <;> first | (rw [show 3 - i = 0 from (by omega)]; rfl) | (obtain ⟨j, hj⟩ : ∃ j, 3 - i = j + 1 := ⟨2 - i, by omega⟩; rw [hj, q_ordN]; (try unfold q_ch); (try unfold q_num1); (first | rw [if_pos c1] | rw [if_neg c1] | skip); (first | rw [if_pos c2] | rw [if_neg c2] | skip); (first | rw [if_pos c3] | rw [if_neg c3] | skip); (first | rw [if_pos c4] | rw [if_neg c4] | skip); (try dsimp only); try with_reducible rfl))) rfl (by first | (unfold q_readOrder; rw [show q_ch V = q_charAt V (V 1 3) from rfl, if_pos c1]) | (unfold q_readOrder; rw [show q_ch V = q_charAt V (V 1 3) from rfl, if_neg c1]; (try unfold q_ch); rw [← hord]; rcases Nat.lt_or_ge i 3 with hi3 | hi3 <;> first | (rw [show 3 - i = 0 from (by omega)]; rfl) | (obtain ⟨j, hj⟩ : ∃ j, 3 - i = j + 1 := ⟨2 - i, by omega⟩; rw [hj, q_ordN]; (try unfold q_ch); (try unfold q_num1); (first | rw [if_pos c1] | rw [if_neg c1] | skip); (first | rw [if_pos c2] | rw [if_neg c2] | skip); (first | rw [if_pos c3] | rw [if_neg c3] | skip); (first | rw [if_pos c4] | rw [if_neg c4] | skip); (try dsimp only); try with_reducible rfl)))
    exact lp30 (3 + 1) 0 _ (by omega) (by omega)  (hCh.w (by decide)) rfl _ _ _ hI (lv_sub hl [0, 1, 2] rfl)
  · refine lv_iconst (v := 0) hx hb dX2_readOrder_16 (by decide) ?_
    exact g_ir hQ hx hb hr0 hlk hC hI dX2_readOrder_17 (by rfl) (by first | (unfold q_readOrder; rw [show q_ch V = q_charAt V (V 1 3) from rfl, if_pos c1]) | (unfold q_readOrder; rw [show q_ch V = q_charAt V (V 1 3) from rfl, if_neg c1]; (try unfold q_ch); rw [← hord]; rcases Nat.lt_or_ge i 3 with hi3 | hi3 <;> first | (rw [show 3 - i = 0 from (by omega)]; rfl) | (obtain ⟨j, hj⟩ : ∃ j, 3 - i = j + 1 := ⟨2 - i, by omega⟩; rw [hj, q_ordN]; (try unfold q_ch); (try unfold q_num1); (first | rw [if_pos c1] | rw [if_neg c1] | skip); (try dsimp only); try with_reducible rfl))) rfl (by first | (unfold q_readOrder; rw [show q_ch V = q_charAt V (V 1 3) from rfl, if_pos c1]) | (unfold q_readOrder; rw [show q_ch V = q_charAt V (V 1 3) from rfl, if_neg c1]; (try unfold q_ch); rw [← hord]; rcases Nat.lt_or_ge i 3 with hi3 | hi3 <;> first | (rw [show 3 - i = 0 from (by omega)]; rfl) | (obtain ⟨j, hj⟩ : ∃ j, 3 - i = j + 1 := ⟨2 - i, by omega⟩; rw [hj, q_ordN]; (try unfold q_ch); (try unfold q_num1); (first | rw [if_pos c1] | rw [if_neg c1] | skip); (try dsimp only); try with_reducible rfl)))
