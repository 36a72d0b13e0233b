abbrev rm_X3_grainOf : Room := { frames := 0, cells := 0, slots := 0, locals := 0 }
set_option maxHeartbeats 4000000 in
set_option maxRecDepth 100000 in
theorem c_X3_grainOf (l : Launch) (D : va_G) (tb : g_T) (ad : g_Ad) (hj : g_inj ad) (P : g_P) (M : g_M) (r : Nat) (hr : r < 6) (V : g_V) (a : Int32) (b : Int32) : g_Ci l yX3_grainOf cX3_grainOf 8 (some .int) rm_X3_grainOf D tb ad [.ref (ad r 0), .int a, .int b] P (va_up M r V) (q_grainOf V a b) P (va_up M r V) := by
  refine g_go (by decide) (Nat.le_of_ble_eq_true rfl) hj ?_
  intro p e s m below meth c ls H locs R args Q hR0 hQ hx hb hml hr0 hlk hown hts hC hI hl
  subst hR0
  have hown : s.vm.findClass RX3 = some m.cls := hown
  have hl : lv_has ls 8 [(0, .ref (ad r 0)), (1, .int a), (2, .int b)] := hl
  refine lv_iconst (v := 0) hx hb dX3_grainOf_0 (by decide) ?_
  refine lv_istore_n (lv' := [(3, .int 0), (0, .ref (ad r 0)), (1, .int a), (2, .int b)]) hx hb dX3_grainOf_1 rfl hl (by decide) rfl (fun ls hl => ?_)
  refine lv_aload_n hx hb dX3_grainOf_2 rfl (lv_at hl 1 rfl) ?_
  refine g_get 0 hx hb hts hown hC hI i_X3 (ok_c 0 hr (by decide)) (e_st hr g_us) rfl (by decide) qf_X3_11 rfl rfl dX3_grainOf_3 ?_
  refine lv_astore (lv' := [(4, .ref (ad r 1)), (3, .int 0), (0, .ref (ad r 0)), (1, .int a), (2, .int b)]) hx hb dX3_grainOf_6 hl (by decide) rfl (fun ls hl => ?_)
  refine lv_aload hx hb dX3_grainOf_8 (lv_at hl 0 rfl) ?_
  refine g_alen 2 (v := 5) hx hb hC hI (ok_c 1 hr (by decide)) (e_bins hr) rfl rfl dX3_grainOf_10 ?_
  refine lv_istore (lv' := [(5, .int 5), (4, .ref (ad r 1)), (3, .int 0), (0, .ref (ad r 0)), (1, .int a), (2, .int b)]) hx hb dX3_grainOf_11 hl (by decide) rfl (fun ls hl => ?_)
  refine lv_iconst (v := 0) hx hb dX3_grainOf_13 (by decide) ?_
  refine lv_istore (lv' := [(6, .int 0), (5, .int 5), (4, .ref (ad r 1)), (3, .int 0), (0, .ref (ad r 0)), (1, .int a), (2, .int b)]) hx hb dX3_grainOf_14 hl (by decide) rfl (fun ls hl => ?_)
  have lp16 : ∀ (d k : Nat) (x : Int32), k ≤ 5 → 5 < k + d → x = k_sum (q_grainF V a b) k → ∀ (H : Heap) (locs : List Loc) (ls : Array Slot), g_I D tb ad (g_A ad) s H locs P (va_up M r V) → lv_has ls 8 [(6, .int (nI k)), (5, .int 5), (4, .ref (ad r 1)), (3, .int x), (0, .ref (ad r 0)), (1, .int a), (2, .int b)] → W p l e rm_X3_grainOf s m args below meth c H locs 0 0 Q (F0 m 16 ls []) := by
    intro d
    induction d with
    | zero => intro k x hkp hfu; intros; omega
    | succ d ih =>
      intro k x hkp hfu e_x H locs ls hI hl
      refine lv_iload hx hb dX3_grainOf_16 (lv_at hl 0 rfl) ?_
      refine lv_iload hx hb dX3_grainOf_18 (lv_at hl 1 rfl) ?_
      refine lv_icmp_ge (tgt := 62) hx hb dX3_grainOf_20 (by decide) (fun c1 => ?_) (fun c1 => ?_)
      · have c1n : 5 ≤ k := (nI_leI (a := 5) (b := k) (by omega) (by omega)).mp c1
        refine lv_iload_n hx hb dX3_grainOf_62 rfl (lv_at hl 3 rfl) ?_
        exact g_ir hQ hx hb hr0 hlk hC hI dX3_grainOf_63 rfl (by rw [e_x, q_grainOf, show k = 5 from by omega]) rfl rfl
      · have c1n : ¬ 5 ≤ k := fun z => c1 ((nI_leI (a := 5) (b := k) (by omega) (by omega)).mpr z)
        refine lv_aload hx hb dX3_grainOf_23 (lv_at hl 2 rfl) ?_
        refine lv_iload hx hb dX3_grainOf_25 (lv_at hl 0 rfl) ?_
        refine g_aald 2 k hx hb hC hI (ok_c 1 hr (by decide)) (e_bins hr) rfl (vp_in_nI (by omega) (by decide)) (nI_clamp (by omega)) dX3_grainOf_27 ?_
        have hk2 : k < 5 := (by omega)
        refine lv_astore (lv' := [(7, .ref (ad r (7 + k))), (6, .int (nI k)), (5, .int 5), (4, .ref (ad r 1)), (3, .int x), (0, .ref (ad r 0)), (1, .int a), (2, .int b)]) hx hb dX3_grainOf_28 hl (by decide) rfl (fun ls hl => ?_)
        refine lv_aload hx hb dX3_grainOf_30 (lv_at hl 0 rfl) ?_
        refine g_get 0 hx hb hts hown hC hI i_X0 (ok_bin hr hk2) (e_bin hr hk2 g_us) rfl (by decide) qf_X3_37 rfl rfl dX3_grainOf_32 ?_
        refine lv_iload_n hx hb dX3_grainOf_35 rfl (lv_at hl 6 rfl) ?_
        refine lv_icmp_lt (tgt := 56) hx hb dX3_grainOf_36 (by decide) (fun c3 => ?_) (fun c3 => ?_)
        · refine lv_iinc (v := nI (k + 1)) (lv' := [(6, .int (nI (k + 1))), (7, .ref (ad r (7 + k))), (5, .int 5), (4, .ref (ad r 1)), (3, .int x), (0, .ref (ad r 0)), (1, .int a), (2, .int b)]) hx hb dX3_grainOf_56 hl (k := 1) rfl (nI_1 _) (by decide) rfl (fun ls hl => ?_)
          refine lv_goto (tgt := 16) hx hb dX3_grainOf_59 (by decide) ?_
          exact ih (k + 1) _ (by omega) (by omega) (by simp [k_sum, q_grainF, e_x, c1, c3])  _ _ _ hI (lv_sub hl [0, 2, 3, 4, 5, 6, 7] rfl)
        · refine lv_aload hx hb dX3_grainOf_39 (lv_at hl 0 rfl) ?_
          refine g_get 0 hx hb hts hown hC hI i_X0 (ok_bin hr hk2) (e_bin hr hk2 g_us) rfl (by decide) qf_X3_37 rfl rfl dX3_grainOf_41 ?_
          refine lv_iload_n hx hb dX3_grainOf_44 rfl (lv_at hl 7 rfl) ?_
          refine lv_icmp_gt (tgt := 56) hx hb dX3_grainOf_45 (by decide) (fun c4 => ?_) (fun c4 => ?_)
          · refine lv_iinc (v := nI (k + 1)) (lv' := [(6, .int (nI (k + 1))), (7, .ref (ad r (7 + k))), (5, .int 5), (4, .ref (ad r 1)), (3, .int x), (0, .ref (ad r 0)), (1, .int a), (2, .int b)]) hx hb dX3_grainOf_56 hl (k := 1) rfl (nI_1 _) (by decide) rfl (fun ls hl => ?_)
            refine lv_goto (tgt := 16) hx hb dX3_grainOf_59 (by decide) ?_
            exact ih (k + 1) _ (by omega) (by omega) (by simp [k_sum, q_grainF, e_x, c1, c3, c4])  _ _ _ hI (lv_sub hl [0, 2, 3, 4, 5, 6, 7] rfl)
          · refine lv_iload_n hx hb dX3_grainOf_48 rfl (lv_at hl 4 rfl) ?_
            refine lv_aload hx hb dX3_grainOf_49 (lv_at hl 0 rfl) ?_
            refine g_get 1 hx hb hts hown hC hI i_X0 (ok_bin hr hk2) (e_bin hr hk2 g_us) rfl (by decide) qf_X3_172 rfl rfl dX3_grainOf_51 ?_
            refine lv_iadd hx hb dX3_grainOf_54 ?_
            refine lv_istore_n (lv' := [(3, .int (x + (V (7 + k) 1))), (7, .ref (ad r (7 + k))), (6, .int (nI k)), (5, .int 5), (4, .ref (ad r 1)), (0, .ref (ad r 0)), (1, .int a), (2, .int b)]) hx hb dX3_grainOf_55 rfl hl (by decide) rfl (fun ls hl => ?_)
            refine lv_iinc (v := nI (k + 1)) (lv' := [(6, .int (nI (k + 1))), (3, .int (x + (V (7 + k) 1))), (7, .ref (ad r (7 + k))), (5, .int 5), (4, .ref (ad r 1)), (0, .ref (ad r 0)), (1, .int a), (2, .int b)]) hx hb dX3_grainOf_56 hl (k := 2) rfl (nI_1 _) (by decide) rfl (fun ls hl => ?_)
            refine lv_goto (tgt := 16) hx hb dX3_grainOf_59 (by decide) ?_
            exact ih (k + 1) _ (by omega) (by omega) (by simp [k_sum, q_grainF, e_x, c1, c3, c4])  _ _ _ hI (lv_sub hl [0, 3, 4, 1, 5, 6, 7] rfl)
  exact lp16 (5 + 1) 0 _ (by omega) (by omega) rfl  _ _ _ hI (lv_sub hl [0, 1, 2, 3, 4, 5, 6] rfl)
abbrev rm_X3_roomIn : Room := { frames := 0, cells := 0, slots := 0, locals := 0 }
set_option maxHeartbeats 4000000 in
set_option maxRecDepth 100000 in
theorem c_X3_roomIn (l : Launch) (D : va_G) (tb : g_T) (ad : g_Ad) (hj : g_inj ad) (P : g_P) (M : g_M) (r : Nat) (hr : r < 6) (V : g_V) (a : Int32) : g_Ci l yX3_roomIn cX3_roomIn 7 (some .int) rm_X3_roomIn D tb ad [.ref (ad r 0), .int a] P (va_up M r V) (q_roomIn V a) P (va_up M r V) := by
  refine g_go (by decide) (Nat.le_of_ble_eq_true rfl) hj ?_
  intro p e s m below meth c ls H locs R args Q hR0 hQ hx hb hml hr0 hlk hown hts hC hI hl
  subst hR0
  have hown : s.vm.findClass RX3 = some m.cls := hown
  have hl : lv_has ls 7 [(0, .ref (ad r 0)), (1, .int a)] := hl
  refine lv_iconst (v := 0) hx hb dX3_roomIn_0 (by decide) ?_
  refine lv_istore_n (lv' := [(2, .int 0), (0, .ref (ad r 0)), (1, .int a)]) hx hb dX3_roomIn_1 rfl hl (by decide) rfl (fun ls hl => ?_)
  refine lv_aload_n hx hb dX3_roomIn_2 rfl (lv_at hl 1 rfl) ?_
  refine g_get 0 hx hb hts hown hC hI i_X3 (ok_c 0 hr (by decide)) (e_st hr g_us) rfl (by decide) qf_X3_11 rfl rfl dX3_roomIn_3 ?_
  refine lv_astore_n (lv' := [(3, .ref (ad r 1)), (2, .int 0), (0, .ref (ad r 0)), (1, .int a)]) hx hb dX3_roomIn_6 rfl hl (by decide) rfl (fun ls hl => ?_)
  refine lv_aload_n hx hb dX3_roomIn_7 rfl (lv_at hl 0 rfl) ?_
  refine g_alen 2 (v := 5) hx hb hC hI (ok_c 1 hr (by decide)) (e_bins hr) rfl rfl dX3_roomIn_8 ?_
  refine lv_istore (lv' := [(4, .int 5), (3, .ref (ad r 1)), (2, .int 0), (0, .ref (ad r 0)), (1, .int a)]) hx hb dX3_roomIn_9 hl (by decide) rfl (fun ls hl => ?_)
  refine lv_iconst (v := 0) hx hb dX3_roomIn_11 (by decide) ?_
  refine lv_istore (lv' := [(5, .int 0), (4, .int 5), (3, .ref (ad r 1)), (2, .int 0), (0, .ref (ad r 0)), (1, .int a)]) hx hb dX3_roomIn_12 hl (by decide) rfl (fun ls hl => ?_)
  have lp14 : ∀ (d k : Nat) (x : Int32), k ≤ 5 → 5 < k + d → x = k_sum (q_roomF V a) k → ∀ (H : Heap) (locs : List Loc) (ls : Array Slot), g_I D tb ad (g_A ad) s H locs P (va_up M r V) → lv_has ls 7 [(5, .int (nI k)), (4, .int 5), (3, .ref (ad r 1)), (2, .int x), (0, .ref (ad r 0)), (1, .int a)] → W p l e rm_X3_roomIn s m args below meth c H locs 0 0 Q (F0 m 14 ls []) := by
    intro d
    induction d with
    | zero => intro k x hkp hfu; intros; omega
    | succ d ih =>
      intro k x hkp hfu e_x H locs ls hI hl
      refine lv_iload hx hb dX3_roomIn_14 (lv_at hl 0 rfl) ?_
      refine lv_iload hx hb dX3_roomIn_16 (lv_at hl 1 rfl) ?_
      refine lv_icmp_ge (tgt := 54) hx hb dX3_roomIn_18 (by decide) (fun c1 => ?_) (fun c1 => ?_)
      · have c1n : 5 ≤ k := (nI_leI (a := 5) (b := k) (by omega) (by omega)).mp c1
        refine lv_iload_n hx hb dX3_roomIn_54 rfl (lv_at hl 3 rfl) ?_
        exact g_ir hQ hx hb hr0 hlk hC hI dX3_roomIn_55 rfl (by rw [e_x, q_roomIn, show k = 5 from by omega]) rfl rfl
      · have c1n : ¬ 5 ≤ k := fun z => c1 ((nI_leI (a := 5) (b := k) (by omega) (by omega)).mpr z)
        refine lv_aload_n hx hb dX3_roomIn_21 rfl (lv_at hl 2 rfl) ?_
        refine lv_iload hx hb dX3_roomIn_22 (lv_at hl 0 rfl) ?_
        refine g_aald 2 k hx hb hC hI (ok_c 1 hr (by decide)) (e_bins hr) rfl (vp_in_nI (by omega) (by decide)) (nI_clamp (by omega)) dX3_roomIn_24 ?_
        have hk2 : k < 5 := (by omega)
        refine lv_astore (lv' := [(6, .ref (ad r (7 + k))), (5, .int (nI k)), (4, .int 5), (3, .ref (ad r 1)), (2, .int x), (0, .ref (ad r 0)), (1, .int a)]) hx hb dX3_roomIn_25 hl (by decide) rfl (fun ls hl => ?_)
        refine lv_aload hx hb dX3_roomIn_27 (lv_at hl 0 rfl) ?_
        refine g_get 0 hx hb hts hown hC hI i_X0 (ok_bin hr hk2) (e_bin hr hk2 g_us) rfl (by decide) qf_X3_37 rfl rfl dX3_roomIn_29 ?_
        refine lv_iload_n hx hb dX3_roomIn_32 rfl (lv_at hl 6 rfl) ?_
        refine lv_icmp_ne (tgt := 48) hx hb dX3_roomIn_33 (by decide) (fun c3 => ?_) (fun c3 => ?_)
        · refine lv_iinc (v := nI (k + 1)) (lv' := [(5, .int (nI (k + 1))), (6, .ref (ad r (7 + k))), (4, .int 5), (3, .ref (ad r 1)), (2, .int x), (0, .ref (ad r 0)), (1, .int a)]) hx hb dX3_roomIn_48 hl (k := 1) rfl (nI_1 _) (by decide) rfl (fun ls hl => ?_)
          refine lv_goto (tgt := 14) hx hb dX3_roomIn_51 (by decide) ?_
          exact ih (k + 1) _ (by omega) (by omega) (by simp [k_sum, q_roomF, e_x, c1, c3])  _ _ _ hI (lv_sub hl [0, 2, 3, 4, 5, 6] rfl)
        · refine lv_iload_n hx hb dX3_roomIn_36 rfl (lv_at hl 4 rfl) ?_
          refine lv_sipush (v := 2000) hx hb dX3_roomIn_37 (by decide) ?_
          refine lv_aload hx hb dX3_roomIn_40 (lv_at hl 0 rfl) ?_
          refine g_get 1 hx hb hts hown hC hI i_X0 (ok_bin hr hk2) (e_bin hr hk2 g_us) rfl (by decide) qf_X3_172 rfl rfl dX3_roomIn_42 ?_
          refine lv_isub hx hb dX3_roomIn_45 ?_
          refine lv_iadd hx hb dX3_roomIn_46 ?_
          refine lv_istore_n (lv' := [(2, .int (x + (2000 - (V (7 + k) 1)))), (6, .ref (ad r (7 + k))), (5, .int (nI k)), (4, .int 5), (3, .ref (ad r 1)), (0, .ref (ad r 0)), (1, .int a)]) hx hb dX3_roomIn_47 rfl hl (by decide) rfl (fun ls hl => ?_)
          refine lv_iinc (v := nI (k + 1)) (lv' := [(5, .int (nI (k + 1))), (2, .int (x + (2000 - (V (7 + k) 1)))), (6, .ref (ad r (7 + k))), (4, .int 5), (3, .ref (ad r 1)), (0, .ref (ad r 0)), (1, .int a)]) hx hb dX3_roomIn_48 hl (k := 2) rfl (nI_1 _) (by decide) rfl (fun ls hl => ?_)
          refine lv_goto (tgt := 14) hx hb dX3_roomIn_51 (by decide) ?_
          exact ih (k + 1) _ (by omega) (by omega) (by simp [k_sum, q_roomF, e_x, c1, c3])  _ _ _ hI (lv_sub hl [0, 3, 4, 1, 5, 6] rfl)
  exact lp14 (5 + 1) 0 _ (by omega) (by omega) rfl  _ _ _ hI (lv_sub hl [0, 1, 2, 3, 4, 5] rfl)
abbrev rm_X3_receiptsOf : Room := { frames := 1, cells := 0, slots := 0, locals := 20 }
set_option maxHeartbeats 4000000 in
set_option maxRecDepth 100000 in
theorem c_X3_receiptsOf (l : Launch) (D : va_G) (tb : g_T) (ad : g_Ad) (hj : g_inj ad) (P : g_P) (M : g_M) (r : Nat) (hr : r < 6) (V : g_V) (a : Int32) (b : Int32) : g_Ci l yX3_receiptsOf cX3_receiptsOf 8 (some .int) rm_X3_receiptsOf D tb ad [.ref (ad r 0), .int a, .int b] P (va_up M r V) (q_receiptsOf V a b) P (va_up M r V) := by
  refine g_go (by decide) (Nat.le_of_ble_eq_true rfl) hj ?_
  intro p e s m below meth c ls H locs R args Q hR0 hQ hx hb hml hr0 hlk hown hts hC hI hl
  subst hR0
  have hown : s.vm.findClass RX3 = some m.cls := hown
  have hl : lv_has ls 8 [(0, .ref (ad r 0)), (1, .int a), (2, .int b)] := hl
  refine lv_iconst (v := 0) hx hb dX3_receiptsOf_0 (by decide) ?_
  refine lv_istore_n (lv' := [(3, .int 0), (0, .ref (ad r 0)), (1, .int a), (2, .int b)]) hx hb dX3_receiptsOf_1 rfl hl (by decide) rfl (fun ls hl => ?_)
  refine lv_aload_n hx hb dX3_receiptsOf_2 rfl (lv_at hl 1 rfl) ?_
  refine g_get 1 hx hb hts hown hC hI i_X3 (ok_c 0 hr (by decide)) (e_st hr g_us) rfl (by decide) qf_X3_19 rfl rfl dX3_receiptsOf_3 ?_
  refine lv_astore (lv' := [(4, .ref (ad r 2)), (3, .int 0), (0, .ref (ad r 0)), (1, .int a), (2, .int b)]) hx hb dX3_receiptsOf_6 hl (by decide) rfl (fun ls hl => ?_)
  refine lv_aload hx hb dX3_receiptsOf_8 (lv_at hl 0 rfl) ?_
  refine g_alen 3 (v := 16) hx hb hC hI (ok_c 2 hr (by decide)) (e_recs hr) rfl rfl dX3_receiptsOf_10 ?_
  refine lv_istore (lv' := [(5, .int 16), (4, .ref (ad r 2)), (3, .int 0), (0, .ref (ad r 0)), (1, .int a), (2, .int b)]) hx hb dX3_receiptsOf_11 hl (by decide) rfl (fun ls hl => ?_)
  refine lv_iconst (v := 0) hx hb dX3_receiptsOf_13 (by decide) ?_
  refine lv_istore (lv' := [(6, .int 0), (5, .int 16), (4, .ref (ad r 2)), (3, .int 0), (0, .ref (ad r 0)), (1, .int a), (2, .int b)]) hx hb dX3_receiptsOf_14 hl (by decide) rfl (fun ls hl => ?_)
  have lp16 : ∀ (d k : Nat) (x : Int32), k ≤ 16 → 16 < k + d → x = k_sum (q_recF V a b) k → ∀ (H : Heap) (locs : List Loc) (ls : Array Slot), g_I D tb ad (g_A ad) s H locs P (va_up M r V) → lv_has ls 8 [(6, .int (nI k)), (5, .int 16), (4, .ref (ad r 2)), (3, .int x), (0, .ref (ad r 0)), (1, .int a), (2, .int b)] → W p l e rm_X3_receiptsOf s m args below meth c H locs 0 0 Q (F0 m 16 ls []) := by
    intro d
    induction d with
    | zero => intro k x hkp hfu; intros; omega
    | succ d ih =>
      intro k x hkp hfu e_x H locs ls hI hl
      refine lv_iload hx hb dX3_receiptsOf_16 (lv_at hl 0 rfl) ?_
      refine lv_iload hx hb dX3_receiptsOf_18 (lv_at hl 1 rfl) ?_
      refine lv_icmp_ge (tgt := 70) hx hb dX3_receiptsOf_20 (by decide) (fun c1 => ?_) (fun c1 => ?_)
      · have c1n : 16 ≤ k := (nI_leI (a := 16) (b := k) (by omega) (by omega)).mp c1
        refine lv_iload_n hx hb dX3_receiptsOf_70 rfl (lv_at hl 3 rfl) ?_
        exact g_ir hQ hx hb hr0 hlk hC hI dX3_receiptsOf_71 rfl (by rw [e_x, q_receiptsOf, show k = 16 from by omega]) rfl rfl
      · have c1n : ¬ 16 ≤ k := fun z => c1 ((nI_leI (a := 16) (b := k) (by omega) (by omega)).mpr z)
        refine lv_aload hx hb dX3_receiptsOf_23 (lv_at hl 2 rfl) ?_
        refine lv_iload hx hb dX3_receiptsOf_25 (lv_at hl 0 rfl) ?_
        refine g_aald 3 k hx hb hC hI (ok_c 2 hr (by decide)) (e_recs hr) rfl (vp_in_nI (by omega) (by decide)) (nI_clamp (by omega)) dX3_receiptsOf_27 ?_
        have hk2 : k < 16 := (by omega)
        refine lv_astore (lv' := [(7, .ref (ad r (12 + k))), (6, .int (nI k)), (5, .int 16), (4, .ref (ad r 2)), (3, .int x), (0, .ref (ad r 0)), (1, .int a), (2, .int b)]) hx hb dX3_receiptsOf_28 hl (by decide) rfl (fun ls hl => ?_)
        refine lv_aload hx hb dX3_receiptsOf_30 (lv_at hl 0 rfl) ?_
        refine g_callVi (rest := []) (c_X1_isUsed l D tb ad hj P M r hr V k hk2) rfl rfl gm_X1_isUsed hx hb hml hown hts hC hI (ok_rec hr hk2) (e_rec hr hk2 g_us) rfl rfl qm_X3_203 rfl hl.1 rfl ⟨rfl, rfl, by decide, by decide⟩ (Nat.le_of_ble_eq_true rfl) ⟨Nat.zero_le _, Nat.zero_le _⟩ dX3_receiptsOf_32 (fun H locs hI => ?_)
        refine g_tf (fun c3 => ?_) (fun c3 => ?_)
        · refine lv_if_eq (tgt := 64) hx hb dX3_receiptsOf_35 (by decide) (fun c4 => absurd c4 (by decide)) (fun _ => ?_)
          refine lv_aload hx hb dX3_receiptsOf_38 (lv_at hl 0 rfl) ?_
          refine g_get 2 hx hb hts hown hC hI i_X1 (ok_rec hr hk2) (e_rec hr hk2 g_us) rfl (by decide) qf_X3_110 rfl rfl dX3_receiptsOf_40 ?_
          refine lv_iload_n hx hb dX3_receiptsOf_43 rfl (lv_at hl 6 rfl) ?_
          refine lv_icmp_lt (tgt := 64) hx hb dX3_receiptsOf_44 (by decide) (fun c5 => ?_) (fun c5 => ?_)
          · refine lv_iinc (v := nI (k + 1)) (lv' := [(6, .int (nI (k + 1))), (7, .ref (ad r (12 + k))), (5, .int 16), (4, .ref (ad r 2)), (3, .int x), (0, .ref (ad r 0)), (1, .int a), (2, .int b)]) hx hb dX3_receiptsOf_64 hl (k := 1) rfl (nI_1 _) (by decide) rfl (fun ls hl => ?_)
            refine lv_goto (tgt := 16) hx hb dX3_receiptsOf_67 (by decide) ?_
            exact ih (k + 1) _ (by omega) (by omega) (by simp [k_sum, q_recF, e_x, c1, c3, c5])  _ _ _ hI (lv_sub hl [0, 2, 3, 4, 5, 6, 7] rfl)
          · refine lv_aload hx hb dX3_receiptsOf_47 (lv_at hl 0 rfl) ?_
            refine g_get 2 hx hb hts hown hC hI i_X1 (ok_rec hr hk2) (e_rec hr hk2 g_us) rfl (by decide) qf_X3_110 rfl rfl dX3_receiptsOf_49 ?_
            refine lv_iload_n hx hb dX3_receiptsOf_52 rfl (lv_at hl 7 rfl) ?_
            refine lv_icmp_gt (tgt := 64) hx hb dX3_receiptsOf_53 (by decide) (fun c6 => ?_) (fun c6 => ?_)
            · refine lv_iinc (v := nI (k + 1)) (lv' := [(6, .int (nI (k + 1))), (7, .ref (ad r (12 + k))), (5, .int 16), (4, .ref (ad r 2)), (3, .int x), (0, .ref (ad r 0)), (1, .int a), (2, .int b)]) hx hb dX3_receiptsOf_64 hl (k := 1) rfl (nI_1 _) (by decide) rfl (fun ls hl => ?_)
              refine lv_goto (tgt := 16) hx hb dX3_receiptsOf_67 (by decide) ?_
              exact ih (k + 1) _ (by omega) (by omega) (by simp [k_sum, q_recF, e_x, c1, c3, c5, c6])  _ _ _ hI (lv_sub hl [0, 2, 3, 4, 5, 6, 7] rfl)
            · refine lv_iload_n hx hb dX3_receiptsOf_56 rfl (lv_at hl 4 rfl) ?_
              refine lv_aload hx hb dX3_receiptsOf_57 (lv_at hl 0 rfl) ?_
              refine g_get 3 hx hb hts hown hC hI i_X1 (ok_rec hr hk2) (e_rec hr hk2 g_us) rfl (by decide) qf_X3_103 rfl rfl dX3_receiptsOf_59 ?_
              refine lv_iadd hx hb dX3_receiptsOf_62 ?_
              refine lv_istore_n (lv' := [(3, .int (x + (V (12 + k) 3))), (7, .ref (ad r (12 + k))), (6, .int (nI k)), (5, .int 16), (4, .ref (ad r 2)), (0, .ref (ad r 0)), (1, .int a), (2, .int b)]) hx hb dX3_receiptsOf_63 rfl hl (by decide) rfl (fun ls hl => ?_)
              refine lv_iinc (v := nI (k + 1)) (lv' := [(6, .int (nI (k + 1))), (3, .int (x + (V (12 + k) 3))), (7, .ref (ad r (12 + k))), (5, .int 16), (4, .ref (ad r 2)), (0, .ref (ad r 0)), (1, .int a), (2, .int b)]) hx hb dX3_receiptsOf_64 hl (k := 2) rfl (nI_1 _) (by decide) rfl (fun ls hl => ?_)
              refine lv_goto (tgt := 16) hx hb dX3_receiptsOf_67 (by decide) ?_
              exact ih (k + 1) _ (by omega) (by omega) (by simp [k_sum, q_recF, e_x, c1, c3, c5, c6])  _ _ _ hI (lv_sub hl [0, 3, 4, 1, 5, 6, 7] rfl)
        · refine lv_if_eq (tgt := 64) hx hb dX3_receiptsOf_35 (by decide) (fun _ => ?_) (fun c7 => absurd c7 (by decide))
          refine lv_iinc (v := nI (k + 1)) (lv' := [(6, .int (nI (k + 1))), (7, .ref (ad r (12 + k))), (5, .int 16), (4, .ref (ad r 2)), (3, .int x), (0, .ref (ad r 0)), (1, .int a), (2, .int b)]) hx hb dX3_receiptsOf_64 hl (k := 1) rfl (nI_1 _) (by decide) rfl (fun ls hl => ?_)
          refine lv_goto (tgt := 16) hx hb dX3_receiptsOf_67 (by decide) ?_
          exact ih (k + 1) _ (by omega) (by omega) (by simp [k_sum, q_recF, e_x, c1, c3])  _ _ _ hI (lv_sub hl [0, 2, 3, 4, 5, 6, 7] rfl)
  exact lp16 (16 + 1) 0 _ (by omega) (by omega) rfl  _ _ _ hI (lv_sub hl [0, 1, 2, 3, 4, 5, 6] rfl)
abbrev rm_X3_receiptsBelow : Room := { frames := 1, cells := 0, slots := 0, locals := 20 }
set_option maxHeartbeats 4000000 in
set_option maxRecDepth 100000 in
theorem c_X3_receiptsBelow (l : Launch) (D : va_G) (tb : g_T) (ad : g_Ad) (hj : g_inj ad) (P : g_P) (M : g_M) (r : Nat) (hr : r < 6) (V : g_V) (n : Int32) : g_Ci l yX3_receiptsBelow cX3_receiptsBelow 7 (some .int) rm_X3_receiptsBelow D tb ad [.ref (ad r 0), .int n] P (va_up M r V) (q_below V n) P (va_up M r V) := by
  refine g_go (by decide) (Nat.le_of_ble_eq_true rfl) hj ?_
  intro p e s m below meth c ls H locs R args Q hR0 hQ hx hb hml hr0 hlk hown hts hC hI hl
  subst hR0
  have hown : s.vm.findClass RX3 = some m.cls := hown
  have hl : lv_has ls 7 [(0, .ref (ad r 0)), (1, .int n)] := hl
  refine lv_iconst (v := 0) hx hb dX3_receiptsBelow_0 (by decide) ?_
  refine lv_istore_n (lv' := [(2, .int 0), (0, .ref (ad r 0)), (1, .int n)]) hx hb dX3_receiptsBelow_1 rfl hl (by decide) rfl (fun ls hl => ?_)
  refine lv_aload_n hx hb dX3_receiptsBelow_2 rfl (lv_at hl 1 rfl) ?_
  refine g_get 1 hx hb hts hown hC hI i_X3 (ok_c 0 hr (by decide)) (e_st hr g_us) rfl (by decide) qf_X3_19 rfl rfl dX3_receiptsBelow_3 ?_
  refine lv_astore_n (lv' := [(3, .ref (ad r 2)), (2, .int 0), (0, .ref (ad r 0)), (1, .int n)]) hx hb dX3_receiptsBelow_6 rfl hl (by decide) rfl (fun ls hl => ?_)
  refine lv_aload_n hx hb dX3_receiptsBelow_7 rfl (lv_at hl 0 rfl) ?_
  refine g_alen 3 (v := 16) hx hb hC hI (ok_c 2 hr (by decide)) (e_recs hr) rfl rfl dX3_receiptsBelow_8 ?_
  refine lv_istore (lv' := [(4, .int 16), (3, .ref (ad r 2)), (2, .int 0), (0, .ref (ad r 0)), (1, .int n)]) hx hb dX3_receiptsBelow_9 hl (by decide) rfl (fun ls hl => ?_)
  refine lv_iconst (v := 0) hx hb dX3_receiptsBelow_11 (by decide) ?_
  refine lv_istore (lv' := [(5, .int 0), (4, .int 16), (3, .ref (ad r 2)), (2, .int 0), (0, .ref (ad r 0)), (1, .int n)]) hx hb dX3_receiptsBelow_12 hl (by decide) rfl (fun ls hl => ?_)
  have lp14 : ∀ (d k : Nat) (x : Int32), k ≤ 16 → 16 < k + d → x = k_sum (q_belowF V n) k → ∀ (H : Heap) (locs : List Loc) (ls : Array Slot), g_I D tb ad (g_A ad) s H locs P (va_up M r V) → lv_has ls 7 [(5, .int (nI k)), (4, .int 16), (3, .ref (ad r 2)), (2, .int x), (0, .ref (ad r 0)), (1, .int n)] → W p l e rm_X3_receiptsBelow s m args below meth c H locs 0 0 Q (F0 m 14 ls []) := by
    intro d
    induction d with
    | zero => intro k x hkp hfu; intros; omega
    | succ d ih =>
      intro k x hkp hfu e_x H locs ls hI hl
      refine lv_iload hx hb dX3_receiptsBelow_14 (lv_at hl 0 rfl) ?_
      refine lv_iload hx hb dX3_receiptsBelow_16 (lv_at hl 1 rfl) ?_
      refine lv_icmp_ge (tgt := 53) hx hb dX3_receiptsBelow_18 (by decide) (fun c1 => ?_) (fun c1 => ?_)
      · have c1n : 16 ≤ k := (nI_leI (a := 16) (b := k) (by omega) (by omega)).mp c1
        refine lv_iload_n hx hb dX3_receiptsBelow_53 rfl (lv_at hl 3 rfl) ?_
        exact g_ir hQ hx hb hr0 hlk hC hI dX3_receiptsBelow_54 rfl (by rw [e_x, q_below, show k = 16 from by omega]) rfl rfl
      · have c1n : ¬ 16 ≤ k := fun z => c1 ((nI_leI (a := 16) (b := k) (by omega) (by omega)).mpr z)
        refine lv_aload_n hx hb dX3_receiptsBelow_21 rfl (lv_at hl 2 rfl) ?_
        refine lv_iload hx hb dX3_receiptsBelow_22 (lv_at hl 0 rfl) ?_
        refine g_aald 3 k hx hb hC hI (ok_c 2 hr (by decide)) (e_recs hr) rfl (vp_in_nI (by omega) (by decide)) (nI_clamp (by omega)) dX3_receiptsBelow_24 ?_
        have hk2 : k < 16 := (by omega)
        refine lv_astore (lv' := [(6, .ref (ad r (12 + k))), (5, .int (nI k)), (4, .int 16), (3, .ref (ad r 2)), (2, .int x), (0, .ref (ad r 0)), (1, .int n)]) hx hb dX3_receiptsBelow_25 hl (by decide) rfl (fun ls hl => ?_)
        refine lv_aload hx hb dX3_receiptsBelow_27 (lv_at hl 0 rfl) ?_
        refine g_callVi (rest := []) (c_X1_isUsed l D tb ad hj P M r hr V k hk2) rfl rfl gm_X1_isUsed hx hb hml hown hts hC hI (ok_rec hr hk2) (e_rec hr hk2 g_us) rfl rfl qm_X3_203 rfl hl.1 rfl ⟨rfl, rfl, by decide, by decide⟩ (Nat.le_of_ble_eq_true rfl) ⟨Nat.zero_le _, Nat.zero_le _⟩ dX3_receiptsBelow_29 (fun H locs hI => ?_)
        refine g_tf (fun c3 => ?_) (fun c3 => ?_)
        · refine lv_if_eq (tgt := 47) hx hb dX3_receiptsBelow_32 (by decide) (fun c4 => absurd c4 (by decide)) (fun _ => ?_)
          refine lv_aload hx hb dX3_receiptsBelow_35 (lv_at hl 0 rfl) ?_
          refine g_get 0 hx hb hts hown hC hI i_X1 (ok_rec hr hk2) (e_rec hr hk2 g_us) rfl (by decide) qf_X3_96 rfl rfl dX3_receiptsBelow_37 ?_
          refine lv_iload_n hx hb dX3_receiptsBelow_40 rfl (lv_at hl 6 rfl) ?_
          refine lv_icmp_ge (tgt := 47) hx hb dX3_receiptsBelow_41 (by decide) (fun c5 => ?_) (fun c5 => ?_)
          · refine lv_iinc (v := nI (k + 1)) (lv' := [(5, .int (nI (k + 1))), (6, .ref (ad r (12 + k))), (4, .int 16), (3, .ref (ad r 2)), (2, .int x), (0, .ref (ad r 0)), (1, .int n)]) hx hb dX3_receiptsBelow_47 hl (k := 1) rfl (nI_1 _) (by decide) rfl (fun ls hl => ?_)
            refine lv_goto (tgt := 14) hx hb dX3_receiptsBelow_50 (by decide) ?_
            exact ih (k + 1) _ (by omega) (by omega) (by simp [k_sum, q_belowF, e_x, c1, c3, c5])  _ _ _ hI (lv_sub hl [0, 2, 3, 4, 5, 6] rfl)
          · refine lv_iinc (v := (x + 1)) (lv' := [(2, .int (x + 1)), (6, .ref (ad r (12 + k))), (5, .int (nI k)), (4, .int 16), (3, .ref (ad r 2)), (0, .ref (ad r 0)), (1, .int n)]) hx hb dX3_receiptsBelow_44 hl (k := 4) rfl rfl (by decide) rfl (fun ls hl => ?_)
            refine lv_iinc (v := nI (k + 1)) (lv' := [(5, .int (nI (k + 1))), (2, .int (x + 1)), (6, .ref (ad r (12 + k))), (4, .int 16), (3, .ref (ad r 2)), (0, .ref (ad r 0)), (1, .int n)]) hx hb dX3_receiptsBelow_47 hl (k := 2) rfl (nI_1 _) (by decide) rfl (fun ls hl => ?_)
            refine lv_goto (tgt := 14) hx hb dX3_receiptsBelow_50 (by decide) ?_
            exact ih (k + 1) _ (by omega) (by omega) (by simp [k_sum, q_belowF, e_x, c1, c3, c5])  _ _ _ hI (lv_sub hl [0, 3, 4, 1, 5, 6] rfl)
        · refine lv_if_eq (tgt := 47) hx hb dX3_receiptsBelow_32 (by decide) (fun _ => ?_) (fun c6 => absurd c6 (by decide))
          refine lv_iinc (v := nI (k + 1)) (lv' := [(5, .int (nI (k + 1))), (6, .ref (ad r (12 + k))), (4, .int 16), (3, .ref (ad r 2)), (2, .int x), (0, .ref (ad r 0)), (1, .int n)]) hx hb dX3_receiptsBelow_47 hl (k := 1) rfl (nI_1 _) (by decide) rfl (fun ls hl => ?_)
          refine lv_goto (tgt := 14) hx hb dX3_receiptsBelow_50 (by decide) ?_
          exact ih (k + 1) _ (by omega) (by omega) (by simp [k_sum, q_belowF, e_x, c1, c3])  _ _ _ hI (lv_sub hl [0, 2, 3, 4, 5, 6] rfl)
  exact lp14 (16 + 1) 0 _ (by omega) (by omega) rfl  _ _ _ hI (lv_sub hl [0, 1, 2, 3, 4, 5] rfl)
abbrev rm_X3_surplus : Room := { frames := 2, cells := 0, slots := 0, locals := 47 }
set_option maxHeartbeats 4000000 in
set_option maxRecDepth 100000 in
theorem c_X3_surplus (l : Launch) (D : va_G) (tb : g_T) (ad : g_Ad) (hj : g_inj ad) (P : g_P) (M : g_M) (r : Nat) (hr : r < 6) (V : g_V) (g : Int32) : g_Ci l yX3_surplus cX3_surplus 2 (some .int) rm_X3_surplus D tb ad [.ref (ad r 0), .int g] P (va_up M r V) (q_surplus V g) P (va_up M r V) := by
  refine g_go (by decide) (Nat.le_of_ble_eq_true rfl) hj ?_
  intro p e s m below meth c ls H locs R args Q hR0 hQ hx hb hml hr0 hlk hown hts hC hI hl
  subst hR0
  have hown : s.vm.findClass RX3 = some m.cls := hown
  have hl : lv_has ls 2 [(0, .ref (ad r 0)), (1, .int g)] := hl
  refine lv_aload_n hx hb dX3_surplus_0 rfl (lv_at hl 0 rfl) ?_
  refine lv_iconst (v := 0) hx hb dX3_surplus_1 (by decide) ?_
  refine lv_iload_n hx hb dX3_surplus_2 rfl (lv_at hl 1 rfl) ?_
  refine g_callVi (rest := []) (c_X3_grainOf l D tb ad hj P M r hr V 0 g) rfl rfl gm_X3_grainOf hx hb hml hown hts hC hI (ok_c 0 hr (by decide)) (e_st hr g_us) rfl rfl qm_X3_209 rfl hl.1 rfl ⟨rfl, rfl, by decide, by decide⟩ (Nat.le_of_ble_eq_true rfl) ⟨Nat.zero_le _, Nat.zero_le _⟩ dX3_surplus_3 (fun H locs hI => ?_)
  refine lv_aload_n hx hb dX3_surplus_6 rfl (lv_at hl 0 rfl) ?_
  refine lv_iconst (v := 0) hx hb dX3_surplus_7 (by decide) ?_
  refine lv_iload_n hx hb dX3_surplus_8 rfl (lv_at hl 1 rfl) ?_
  refine g_callVi (rest := [.int (q_grainOf V 0 g)]) (c_X3_receiptsOf l D tb ad hj P M r hr V 0 g) rfl rfl gm_X3_receiptsOf hx hb hml hown hts hC hI (ok_c 0 hr (by decide)) (e_st hr g_us) rfl rfl qm_X3_212 rfl hl.1 rfl ⟨rfl, rfl, by decide, by decide⟩ (Nat.le_of_ble_eq_true rfl) ⟨Nat.zero_le _, Nat.zero_le _⟩ dX3_surplus_9 (fun H locs hI => ?_)
  refine lv_isub hx hb dX3_surplus_12 ?_
  exact g_ir hQ hx hb hr0 hlk hC hI dX3_surplus_13 rfl (by rfl) rfl rfl
abbrev rm_X3_greatestLoss : Room := { frames := 3, cells := 0, slots := 0, locals := 68 }
set_option maxHeartbeats 4000000 in
set_option maxRecDepth 100000 in
theorem c_X3_greatestLoss (l : Launch) (D : va_G) (tb : g_T) (ad : g_Ad) (hj : g_inj ad) (P : g_P) (M : g_M) (r : Nat) (hr : r < 6) (V : g_V) (bi : Nat) (hbi : bi < 5) (g0 : Nat) (hg0 : g0 < 3) (hg : V (7 + bi) 0 = nI g0) : g_Ci l yX3_greatestLoss cX3_greatestLoss 4 (some .int) rm_X3_greatestLoss D tb ad [.ref (ad r 0), .ref (ad r (7 + bi))] P (va_up M r V) (q_loss V bi g0 3) P (va_up M r V) := by
  refine g_go (by decide) (Nat.le_of_ble_eq_true rfl) hj ?_
  intro p e s m below meth c ls H locs R args Q hR0 hQ hx hb hml hr0 hlk hown hts hC hI hl
  subst hR0
  have hown : s.vm.findClass RX3 = some m.cls := hown
  have hl : lv_has ls 4 [(0, .ref (ad r 0)), (1, .ref (ad r (7 + bi)))] := hl
  refine lv_aload_n hx hb dX3_greatestLoss_0 rfl (lv_at hl 1 rfl) ?_
  refine g_get 1 hx hb hts hown hC hI i_X0 (ok_bin hr hbi) (e_bin hr hbi g_us) rfl (by decide) qf_X3_172 rfl rfl dX3_greatestLoss_1 ?_
  refine lv_istore_n (lv' := [(2, .int (V (7 + bi) 1)), (0, .ref (ad r 0)), (1, .ref (ad r (7 + bi)))]) hx hb dX3_greatestLoss_4 rfl hl (by decide) rfl (fun ls hl => ?_)
  refine lv_aload_n hx hb dX3_greatestLoss_5 rfl (lv_at hl 2 rfl) ?_
  refine g_get 0 hx hb hts hown hC hI i_X0 (ok_bin hr hbi) (e_bin hr hbi g_us) rfl (by decide) qf_X3_37 rfl rfl dX3_greatestLoss_6 ?_
  refine g_te hg ?_
  refine lv_istore_n (lv' := [(3, .int (nI g0)), (2, .int (V (7 + bi) 1)), (0, .ref (ad r 0)), (1, .ref (ad r (7 + bi)))]) hx hb dX3_greatestLoss_9 rfl hl (by decide) rfl (fun ls hl => ?_)
  have lp10 : ∀ (d k : Nat) (x : Int32), g0 ≤ k ∧ k ≤ 3 → 3 < k + d → x = q_loss V bi g0 k → ∀ (H : Heap) (locs : List Loc) (ls : Array Slot), g_I D tb ad (g_A ad) s H locs P (va_up M r V) → lv_has ls 4 [(3, .int (nI k)), (2, .int x), (0, .ref (ad r 0)), (1, .ref (ad r (7 + bi)))] → W p l e rm_X3_greatestLoss s m args below meth c H locs 0 0 Q (F0 m 10 ls []) := by
    intro d
    induction d with
    | zero => intro k x hkp hfu; intros; omega
    | succ d ih =>
      intro k x hkp hfu e_x H locs ls hI hl
      refine lv_iload_n hx hb dX3_greatestLoss_10 rfl (lv_at hl 0 rfl) ?_
      refine lv_iconst (v := 3) hx hb dX3_greatestLoss_11 (by decide) ?_
      refine lv_icmp_ge (tgt := 31) hx hb dX3_greatestLoss_12 (by decide) (fun c1 => ?_) (fun c1 => ?_)
      · have c1n : 3 ≤ k := (nI_leI (a := 3) (b := k) (by omega) (by omega)).mp c1
        refine lv_iload_n hx hb dX3_greatestLoss_31 rfl (lv_at hl 1 rfl) ?_
        exact g_ir hQ hx hb hr0 hlk hC hI dX3_greatestLoss_32 rfl (by rw [e_x, show k = 3 from by omega]) rfl rfl
      · have c1n : ¬ 3 ≤ k := fun z => c1 ((nI_leI (a := 3) (b := k) (by omega) (by omega)).mpr z)
        refine lv_iload_n hx hb dX3_greatestLoss_15 rfl (lv_at hl 1 rfl) ?_
        refine lv_aload_n hx hb dX3_greatestLoss_16 rfl (lv_at hl 2 rfl) ?_
        refine lv_iload_n hx hb dX3_greatestLoss_17 rfl (lv_at hl 0 rfl) ?_
        refine g_callVi (rest := [.int x]) (c_X3_surplus l D tb ad hj P M r hr V (nI k)) rfl rfl gm_X3_surplus hx hb hml hown hts hC hI (ok_c 0 hr (by decide)) (e_st hr g_us) rfl rfl qm_X3_173 rfl hl.1 rfl ⟨rfl, rfl, by decide, by decide⟩ (Nat.le_of_ble_eq_true rfl) ⟨Nat.zero_le _, Nat.zero_le _⟩ dX3_greatestLoss_18 (fun H locs hI => ?_)
        refine va_mmin hx hb (hml.trans hl.1.symm) hown (hts _ qm_X3_218) (hts _ qs_J9_min_7cf53) (hts _ qz_J9) (hts _ qk_J9_min_7cf53) (by decide) (by decide) (Nat.zero_le _) (Nat.zero_le _) dX3_greatestLoss_21 ?_
        refine lv_istore_n (lv' := [(2, .int (k_min x (q_surplus V (nI k)))), (3, .int (nI k)), (0, .ref (ad r 0)), (1, .ref (ad r (7 + bi)))]) hx hb dX3_greatestLoss_24 rfl hl (by decide) rfl (fun ls hl => ?_)
        refine lv_iinc (v := nI (k + 1)) (lv' := [(3, .int (nI (k + 1))), (2, .int (k_min x (q_surplus V (nI k)))), (0, .ref (ad r 0)), (1, .ref (ad r (7 + bi)))]) hx hb dX3_greatestLoss_25 hl (k := 1) rfl (nI_1 _) (by decide) rfl (fun ls hl => ?_)
        refine lv_goto (tgt := 10) hx hb dX3_greatestLoss_28 (by decide) ?_
        exact ih (k + 1) _ (by omega) (by omega) (by unfold q_loss; rw [show k + 1 - g0 = (k - g0) + 1 from by omega, k_iter, show g0 + (k - g0) = k from by omega, e_x]; rfl)  _ _ _ hI (lv_sub hl [0, 1, 2, 3] rfl)
  exact lp10 (3 + 1) g0 _ (by omega) (by omega) (by unfold q_loss; rw [Nat.sub_self]; rfl)  _ _ _ hI (lv_sub hl [0, 1, 2, 3] rfl)
abbrev rm_X3_fillBins : Room := { frames := 1, cells := 0, slots := 0, locals := 21 }
set_option maxHeartbeats 4000000 in
set_option maxRecDepth 100000 in
theorem c_X3_fillBins (l : Launch) (D : va_G) (tb : g_T) (ad : g_Ad) (hj : g_inj ad) (P : g_P) (M : g_M) (r : Nat) (hr : r < 6) (V : g_V) (g : Int32) (a : Int32) : g_Cv l yX3_fillBins cX3_fillBins 9 none rm_X3_fillBins D tb ad [.ref (ad r 0), .int g, .int a] P (va_up M r V) P (va_up M r (q_fill V g a)) := by
  refine g_go (by decide) (Nat.le_of_ble_eq_true rfl) hj ?_
  intro p e s m below meth c ls H locs R args Q hR0 hQ hx hb hml hr0 hlk hown hts hC hI hl
  subst hR0
  have hown : s.vm.findClass RX3 = some m.cls := hown
  have hl : lv_has ls 9 [(0, .ref (ad r 0)), (1, .int g), (2, .int a)] := hl
  refine lv_iload_n hx hb dX3_fillBins_0 rfl (lv_at hl 2 rfl) ?_
  refine lv_istore_n (lv' := [(3, .int a), (0, .ref (ad r 0)), (1, .int g), (2, .int a)]) hx hb dX3_fillBins_1 rfl hl (by decide) rfl (fun ls hl => ?_)
  refine lv_aload_n hx hb dX3_fillBins_2 rfl (lv_at hl 1 rfl) ?_
  refine g_get 0 hx hb hts hown hC hI i_X3 (ok_c 0 hr (by decide)) (e_st hr g_us) rfl (by decide) qf_X3_11 rfl rfl dX3_fillBins_3 ?_
  refine lv_astore (lv' := [(4, .ref (ad r 1)), (3, .int a), (0, .ref (ad r 0)), (1, .int g), (2, .int a)]) hx hb dX3_fillBins_6 hl (by decide) rfl (fun ls hl => ?_)
  refine lv_aload hx hb dX3_fillBins_8 (lv_at hl 0 rfl) ?_
  refine g_alen 2 (v := 5) hx hb hC hI (ok_c 1 hr (by decide)) (e_bins hr) rfl rfl dX3_fillBins_10 ?_
  refine lv_istore (lv' := [(5, .int 5), (4, .ref (ad r 1)), (3, .int a), (0, .ref (ad r 0)), (1, .int g), (2, .int a)]) hx hb dX3_fillBins_11 hl (by decide) rfl (fun ls hl => ?_)
  refine lv_iconst (v := 0) hx hb dX3_fillBins_13 (by decide) ?_
  refine lv_istore (lv' := [(6, .int 0), (5, .int 5), (4, .ref (ad r 1)), (3, .int a), (0, .ref (ad r 0)), (1, .int g), (2, .int a)]) hx hb dX3_fillBins_14 hl (by decide) rfl (fun ls hl => ?_)
  have lp16 : ∀ (d k : Nat) (Vx : g_V) (x : Int32), k ≤ 5 → 5 < k + d → Vx = (k_iter (q_fillStep g) (V, a) k).1 → x = (k_iter (q_fillStep g) (V, a) k).2 → ∀ (H : Heap) (locs : List Loc) (ls : Array Slot), g_I D tb ad (g_A ad) s H locs P (va_up M r Vx) → lv_has ls 9 [(6, .int (nI k)), (5, .int 5), (4, .ref (ad r 1)), (3, .int x), (0, .ref (ad r 0)), (1, .int g), (2, .int a)] → W p l e rm_X3_fillBins s m args below meth c H locs 0 0 Q (F0 m 16 ls []) := by
    intro d
    induction d with
    | zero => intro k Vx x hkp hfu; intros; omega
    | succ d ih =>
      intro k Vx x hkp hfu e_Vx e_x H locs ls hI hl
      refine lv_iload hx hb dX3_fillBins_16 (lv_at hl 0 rfl) ?_
      refine lv_iload hx hb dX3_fillBins_18 (lv_at hl 1 rfl) ?_
      refine lv_icmp_ge (tgt := 77) hx hb dX3_fillBins_20 (by decide) (fun c1 => ?_) (fun c1 => ?_)
      · have c1n : 5 ≤ k := (nI_leI (a := 5) (b := k) (by omega) (by omega)).mp c1
        exact g_vr hQ hx hb hr0 hlk hC hI dX3_fillBins_77 rfl (by rw [e_Vx, show k = 5 from by omega]; rfl)
      · have c1n : ¬ 5 ≤ k := fun z => c1 ((nI_leI (a := 5) (b := k) (by omega) (by omega)).mpr z)
        refine lv_aload hx hb dX3_fillBins_23 (lv_at hl 2 rfl) ?_
        refine lv_iload hx hb dX3_fillBins_25 (lv_at hl 0 rfl) ?_
        refine g_aald 2 k hx hb hC hI (ok_c 1 hr (by decide)) (e_bins hr) rfl (vp_in_nI (by omega) (by decide)) (nI_clamp (by omega)) dX3_fillBins_27 ?_
        have hk2 : k < 5 := (by omega)
        refine lv_astore (lv' := [(7, .ref (ad r (7 + k))), (6, .int (nI k)), (5, .int 5), (4, .ref (ad r 1)), (3, .int x), (0, .ref (ad r 0)), (1, .int g), (2, .int a)]) hx hb dX3_fillBins_28 hl (by decide) rfl (fun ls hl => ?_)
        refine lv_aload hx hb dX3_fillBins_30 (lv_at hl 0 rfl) ?_
        refine g_get 0 hx hb hts hown hC hI i_X0 (ok_bin hr hk2) (e_bin hr hk2 g_us) rfl (by decide) qf_X3_37 rfl rfl dX3_fillBins_32 ?_
        refine lv_iload_n hx hb dX3_fillBins_35 rfl (lv_at hl 6 rfl) ?_
        refine lv_icmp_ne (tgt := 71) hx hb dX3_fillBins_36 (by decide) (fun c3 => ?_) (fun c3 => ?_)
        · refine lv_iinc (v := nI (k + 1)) (lv' := [(6, .int (nI (k + 1))), (7, .ref (ad r (7 + k))), (5, .int 5), (4, .ref (ad r 1)), (3, .int x), (0, .ref (ad r 0)), (1, .int g), (2, .int a)]) hx hb dX3_fillBins_71 hl (k := 1) rfl (nI_1 _) (by decide) rfl (fun ls hl => ?_)
          refine lv_goto (tgt := 16) hx hb dX3_fillBins_74 (by decide) ?_
          exact ih (k + 1) _ _ (by omega) (by omega) (by simp [k_iter, q_fillStep, ← e_Vx, ← e_x, c1, c3]) (by simp [k_iter, q_fillStep, ← e_Vx, ← e_x, c1, c3])  _ _ _ hI (lv_sub hl [0, 2, 3, 4, 5, 6, 7] rfl)
        · refine lv_iload_n hx hb dX3_fillBins_39 rfl (lv_at hl 4 rfl) ?_
          refine lv_sipush (v := 2000) hx hb dX3_fillBins_40 (by decide) ?_
          refine lv_aload hx hb dX3_fillBins_43 (lv_at hl 0 rfl) ?_
          refine g_get 1 hx hb hts hown hC hI i_X0 (ok_bin hr hk2) (e_bin hr hk2 g_us) rfl (by decide) qf_X3_172 rfl rfl dX3_fillBins_45 ?_
          refine lv_isub hx hb dX3_fillBins_48 ?_
          refine va_mmin hx hb (hml.trans hl.1.symm) hown (hts _ qm_X3_218) (hts _ qs_J9_min_7cf53) (hts _ qz_J9) (hts _ qk_J9_min_7cf53) (by decide) (by decide) (Nat.zero_le _) (Nat.zero_le _) dX3_fillBins_49 ?_
          refine lv_istore (lv' := [(8, .int (k_min x (2000 - (Vx (7 + k) 1)))), (7, .ref (ad r (7 + k))), (6, .int (nI k)), (5, .int 5), (4, .ref (ad r 1)), (3, .int x), (0, .ref (ad r 0)), (1, .int g), (2, .int a)]) hx hb dX3_fillBins_52 hl (by decide) rfl (fun ls hl => ?_)
          refine lv_aload hx hb dX3_fillBins_54 (lv_at hl 1 rfl) ?_
          refine lv_dup hx hb dX3_fillBins_56 rfl ?_
          refine g_get 1 hx hb hts hown hC hI i_X0 (ok_bin hr hk2) (e_bin hr hk2 g_us) rfl (by decide) qf_X3_172 rfl rfl dX3_fillBins_57 ?_
          refine lv_iload hx hb dX3_fillBins_60 (lv_at hl 0 rfl) ?_
          refine lv_iadd hx hb dX3_fillBins_62 ?_
          refine g_put 1 (ty := .int) hx hb hts hown hC hI i_X0 tyX0_ok nmX0 (ok_bin hr hk2) (e_bin hr hk2 g_us) rfl (by decide) qf_X3_172 rfl rfl rfl rfl rfl (Nat.le_of_ble_eq_true rfl) (p_bin hr hk2 (by decide)) g_hs dX3_fillBins_63 (fun H locs hI => ?_)
          refine lv_iload_n hx hb dX3_fillBins_66 rfl (lv_at hl 5 rfl) ?_
          refine lv_iload hx hb dX3_fillBins_67 (lv_at hl 0 rfl) ?_
          refine lv_isub hx hb dX3_fillBins_69 ?_
          refine lv_istore_n (lv' := [(3, .int (x - (k_min x (2000 - (Vx (7 + k) 1))))), (8, .int (k_min x (2000 - (Vx (7 + k) 1)))), (7, .ref (ad r (7 + k))), (6, .int (nI k)), (5, .int 5), (4, .ref (ad r 1)), (0, .ref (ad r 0)), (1, .int g), (2, .int a)]) hx hb dX3_fillBins_70 rfl hl (by decide) rfl (fun ls hl => ?_)
          refine lv_iinc (v := nI (k + 1)) (lv' := [(6, .int (nI (k + 1))), (3, .int (x - (k_min x (2000 - (Vx (7 + k) 1))))), (8, .int (k_min x (2000 - (Vx (7 + k) 1)))), (7, .ref (ad r (7 + k))), (5, .int 5), (4, .ref (ad r 1)), (0, .ref (ad r 0)), (1, .int g), (2, .int a)]) hx hb dX3_fillBins_71 hl (k := 3) rfl (nI_1 _) (by decide) rfl (fun ls hl => ?_)
          refine lv_goto (tgt := 16) hx hb dX3_fillBins_74 (by decide) ?_
          exact ih (k + 1) _ _ (by omega) (by omega) (by simp [k_iter, q_fillStep, ← e_Vx, ← e_x, c1, c3]) (by simp [k_iter, q_fillStep, ← e_Vx, ← e_x, c1, c3])  _ _ _ hI (lv_sub hl [0, 4, 5, 1, 6, 7, 8] rfl)
  exact lp16 (5 + 1) 0 _ _ (by omega) (by omega) rfl rfl  _ _ _ hI (lv_sub hl [0, 1, 2, 3, 4, 5, 6] rfl)
abbrev rm_X3_takeOut : Room := { frames := 1, cells := 0, slots := 0, locals := 21 }
set_option maxHeartbeats 4000000 in
set_option maxRecDepth 100000 in
theorem c_X3_takeOut (l : Launch) (D : va_G) (tb : g_T) (ad : g_Ad) (hj : g_inj ad) (P : g_P) (M : g_M) (r : Nat) (hr : r < 6) (V : g_V) (g : Int32) (a : Int32) : g_Ci l yX3_takeOut cX3_takeOut 9 (some .int) rm_X3_takeOut D tb ad [.ref (ad r 0), .int g, .int a] P (va_up M r V) ((q_take V g a).2) P (va_up M r ((q_take V g a).1)) := by
  refine g_go (by decide) (Nat.le_of_ble_eq_true rfl) hj ?_
  intro p e s m below meth c ls H locs R args Q hR0 hQ hx hb hml hr0 hlk hown hts hC hI hl
  subst hR0
  have hown : s.vm.findClass RX3 = some m.cls := hown
  have hl : lv_has ls 9 [(0, .ref (ad r 0)), (1, .int g), (2, .int a)] := hl
  refine lv_iload_n hx hb dX3_takeOut_0 rfl (lv_at hl 2 rfl) ?_
  refine lv_istore_n (lv' := [(3, .int a), (0, .ref (ad r 0)), (1, .int g), (2, .int a)]) hx hb dX3_takeOut_1 rfl hl (by decide) rfl (fun ls hl => ?_)
  refine lv_aload_n hx hb dX3_takeOut_2 rfl (lv_at hl 1 rfl) ?_
  refine g_get 0 hx hb hts hown hC hI i_X3 (ok_c 0 hr (by decide)) (e_st hr g_us) rfl (by decide) qf_X3_11 rfl rfl dX3_takeOut_3 ?_
  refine lv_astore (lv' := [(4, .ref (ad r 1)), (3, .int a), (0, .ref (ad r 0)), (1, .int g), (2, .int a)]) hx hb dX3_takeOut_6 hl (by decide) rfl (fun ls hl => ?_)
  refine lv_aload hx hb dX3_takeOut_8 (lv_at hl 0 rfl) ?_
  refine g_alen 2 (v := 5) hx hb hC hI (ok_c 1 hr (by decide)) (e_bins hr) rfl rfl dX3_takeOut_10 ?_
  refine lv_istore (lv' := [(5, .int 5), (4, .ref (ad r 1)), (3, .int a), (0, .ref (ad r 0)), (1, .int g), (2, .int a)]) hx hb dX3_takeOut_11 hl (by decide) rfl (fun ls hl => ?_)
  refine lv_iconst (v := 0) hx hb dX3_takeOut_13 (by decide) ?_
  refine lv_istore (lv' := [(6, .int 0), (5, .int 5), (4, .ref (ad r 1)), (3, .int a), (0, .ref (ad r 0)), (1, .int g), (2, .int a)]) hx hb dX3_takeOut_14 hl (by decide) rfl (fun ls hl => ?_)
  have lp16 : ∀ (d k : Nat) (Vx : g_V) (x : Int32), k ≤ 5 → 5 < k + d → Vx = (k_iter (q_takeStep g) (V, a) k).1 → x = (k_iter (q_takeStep g) (V, a) k).2 → ∀ (H : Heap) (locs : List Loc) (ls : Array Slot), g_I D tb ad (g_A ad) s H locs P (va_up M r Vx) → lv_has ls 9 [(6, .int (nI k)), (5, .int 5), (4, .ref (ad r 1)), (3, .int x), (0, .ref (ad r 0)), (1, .int g), (2, .int a)] → W p l e rm_X3_takeOut s m args below meth c H locs 0 0 Q (F0 m 16 ls []) := by
    intro d
    induction d with
    | zero => intro k Vx x hkp hfu; intros; omega
    | succ d ih =>
      intro k Vx x hkp hfu e_Vx e_x H locs ls hI hl
      refine lv_iload hx hb dX3_takeOut_16 (lv_at hl 0 rfl) ?_
      refine lv_iload hx hb dX3_takeOut_18 (lv_at hl 1 rfl) ?_
      refine lv_icmp_ge (tgt := 73) hx hb dX3_takeOut_20 (by decide) (fun c1 => ?_) (fun c1 => ?_)
      · have c1n : 5 ≤ k := (nI_leI (a := 5) (b := k) (by omega) (by omega)).mp c1
        refine lv_iload_n hx hb dX3_takeOut_73 rfl (lv_at hl 3 rfl) ?_
        exact g_ir hQ hx hb hr0 hlk hC hI dX3_takeOut_74 rfl (by rw [e_x, show k = 5 from by omega]; rfl) rfl (by rw [e_Vx, show k = 5 from by omega]; rfl)
      · have c1n : ¬ 5 ≤ k := fun z => c1 ((nI_leI (a := 5) (b := k) (by omega) (by omega)).mpr z)
        refine lv_aload hx hb dX3_takeOut_23 (lv_at hl 2 rfl) ?_
        refine lv_iload hx hb dX3_takeOut_25 (lv_at hl 0 rfl) ?_
        refine g_aald 2 k hx hb hC hI (ok_c 1 hr (by decide)) (e_bins hr) rfl (vp_in_nI (by omega) (by decide)) (nI_clamp (by omega)) dX3_takeOut_27 ?_
        have hk2 : k < 5 := (by omega)
        refine lv_astore (lv' := [(7, .ref (ad r (7 + k))), (6, .int (nI k)), (5, .int 5), (4, .ref (ad r 1)), (3, .int x), (0, .ref (ad r 0)), (1, .int g), (2, .int a)]) hx hb dX3_takeOut_28 hl (by decide) rfl (fun ls hl => ?_)
        refine lv_aload hx hb dX3_takeOut_30 (lv_at hl 0 rfl) ?_
        refine g_get 0 hx hb hts hown hC hI i_X0 (ok_bin hr hk2) (e_bin hr hk2 g_us) rfl (by decide) qf_X3_37 rfl rfl dX3_takeOut_32 ?_
        refine lv_iload_n hx hb dX3_takeOut_35 rfl (lv_at hl 6 rfl) ?_
        refine lv_icmp_ne (tgt := 67) hx hb dX3_takeOut_36 (by decide) (fun c3 => ?_) (fun c3 => ?_)
        · refine lv_iinc (v := nI (k + 1)) (lv' := [(6, .int (nI (k + 1))), (7, .ref (ad r (7 + k))), (5, .int 5), (4, .ref (ad r 1)), (3, .int x), (0, .ref (ad r 0)), (1, .int g), (2, .int a)]) hx hb dX3_takeOut_67 hl (k := 1) rfl (nI_1 _) (by decide) rfl (fun ls hl => ?_)
          refine lv_goto (tgt := 16) hx hb dX3_takeOut_70 (by decide) ?_
          exact ih (k + 1) _ _ (by omega) (by omega) (by simp [k_iter, q_takeStep, ← e_Vx, ← e_x, c1, c3]) (by simp [k_iter, q_takeStep, ← e_Vx, ← e_x, c1, c3])  _ _ _ hI (lv_sub hl [0, 2, 3, 4, 5, 6, 7] rfl)
        · refine lv_iload_n hx hb dX3_takeOut_39 rfl (lv_at hl 4 rfl) ?_
          refine lv_aload hx hb dX3_takeOut_40 (lv_at hl 0 rfl) ?_
          refine g_get 1 hx hb hts hown hC hI i_X0 (ok_bin hr hk2) (e_bin hr hk2 g_us) rfl (by decide) qf_X3_172 rfl rfl dX3_takeOut_42 ?_
          refine va_mmin hx hb (hml.trans hl.1.symm) hown (hts _ qm_X3_218) (hts _ qs_J9_min_7cf53) (hts _ qz_J9) (hts _ qk_J9_min_7cf53) (by decide) (by decide) (Nat.zero_le _) (Nat.zero_le _) dX3_takeOut_45 ?_
          refine lv_istore (lv' := [(8, .int (k_min x (Vx (7 + k) 1))), (7, .ref (ad r (7 + k))), (6, .int (nI k)), (5, .int 5), (4, .ref (ad r 1)), (3, .int x), (0, .ref (ad r 0)), (1, .int g), (2, .int a)]) hx hb dX3_takeOut_48 hl (by decide) rfl (fun ls hl => ?_)
          refine lv_aload hx hb dX3_takeOut_50 (lv_at hl 1 rfl) ?_
          refine lv_dup hx hb dX3_takeOut_52 rfl ?_
          refine g_get 1 hx hb hts hown hC hI i_X0 (ok_bin hr hk2) (e_bin hr hk2 g_us) rfl (by decide) qf_X3_172 rfl rfl dX3_takeOut_53 ?_
          refine lv_iload hx hb dX3_takeOut_56 (lv_at hl 0 rfl) ?_
          refine lv_isub hx hb dX3_takeOut_58 ?_
          refine g_put 1 (ty := .int) hx hb hts hown hC hI i_X0 tyX0_ok nmX0 (ok_bin hr hk2) (e_bin hr hk2 g_us) rfl (by decide) qf_X3_172 rfl rfl rfl rfl rfl (Nat.le_of_ble_eq_true rfl) (p_bin hr hk2 (by decide)) g_hs dX3_takeOut_59 (fun H locs hI => ?_)
          refine lv_iload_n hx hb dX3_takeOut_62 rfl (lv_at hl 5 rfl) ?_
          refine lv_iload hx hb dX3_takeOut_63 (lv_at hl 0 rfl) ?_
          refine lv_isub hx hb dX3_takeOut_65 ?_
          refine lv_istore_n (lv' := [(3, .int (x - (k_min x (Vx (7 + k) 1)))), (8, .int (k_min x (Vx (7 + k) 1))), (7, .ref (ad r (7 + k))), (6, .int (nI k)), (5, .int 5), (4, .ref (ad r 1)), (0, .ref (ad r 0)), (1, .int g), (2, .int a)]) hx hb dX3_takeOut_66 rfl hl (by decide) rfl (fun ls hl => ?_)
          refine lv_iinc (v := nI (k + 1)) (lv' := [(6, .int (nI (k + 1))), (3, .int (x - (k_min x (Vx (7 + k) 1)))), (8, .int (k_min x (Vx (7 + k) 1))), (7, .ref (ad r (7 + k))), (5, .int 5), (4, .ref (ad r 1)), (0, .ref (ad r 0)), (1, .int g), (2, .int a)]) hx hb dX3_takeOut_67 hl (k := 3) rfl (nI_1 _) (by decide) rfl (fun ls hl => ?_)
          refine lv_goto (tgt := 16) hx hb dX3_takeOut_70 (by decide) ?_
          exact ih (k + 1) _ _ (by omega) (by omega) (by simp [k_iter, q_takeStep, ← e_Vx, ← e_x, c1, c3]) (by simp [k_iter, q_takeStep, ← e_Vx, ← e_x, c1, c3])  _ _ _ hI (lv_sub hl [0, 4, 5, 1, 6, 7, 8] rfl)
  exact lp16 (5 + 1) 0 _ _ (by omega) (by omega) rfl rfl  _ _ _ hI (lv_sub hl [0, 1, 2, 3, 4, 5, 6] rfl)
abbrev rm_X3_find : Room := { frames := 1, cells := 0, slots := 0, locals := 20 }
set_option maxHeartbeats 4000000 in
set_option maxRecDepth 100000 in
theorem c_X3_find (l : Launch) (D : va_G) (tb : g_T) (ad : g_Ad) (hj : g_inj ad) (P : g_P) (M : g_M) (r : Nat) (hr : r < 6) (V : g_V) (n : Int32) : g_Cq l yX3_find cX3_find 6 (some (.object "GrainReceipts$Receipt")) rm_X3_find D tb ad [.ref (ad r 0), .int n] P (va_up M r V) ((q_find V n).map (fun i => ad r (12 + i))) P (va_up M r V) := by
  refine g_go (by decide) (Nat.le_of_ble_eq_true rfl) hj ?_
  intro p e s m below meth c ls H locs R args Q hR0 hQ hx hb hml hr0 hlk hown hts hC hI hl
  subst hR0
  have hown : s.vm.findClass RX3 = some m.cls := hown
  have hl : lv_has ls 6 [(0, .ref (ad r 0)), (1, .int n)] := hl
  refine lv_aload_n hx hb dX3_find_0 rfl (lv_at hl 0 rfl) ?_
  refine g_get 1 hx hb hts hown hC hI i_X3 (ok_c 0 hr (by decide)) (e_st hr g_us) rfl (by decide) qf_X3_19 rfl rfl dX3_find_1 ?_
  refine lv_astore_n (lv' := [(2, .ref (ad r 2)), (0, .ref (ad r 0)), (1, .int n)]) hx hb dX3_find_4 rfl hl (by decide) rfl (fun ls hl => ?_)
  refine lv_aload_n hx hb dX3_find_5 rfl (lv_at hl 0 rfl) ?_
  refine g_alen 3 (v := 16) hx hb hC hI (ok_c 2 hr (by decide)) (e_recs hr) rfl rfl dX3_find_6 ?_
  refine lv_istore_n (lv' := [(3, .int 16), (2, .ref (ad r 2)), (0, .ref (ad r 0)), (1, .int n)]) hx hb dX3_find_7 rfl hl (by decide) rfl (fun ls hl => ?_)
  refine lv_iconst (v := 0) hx hb dX3_find_8 (by decide) ?_
  refine lv_istore (lv' := [(4, .int 0), (3, .int 16), (2, .ref (ad r 2)), (0, .ref (ad r 0)), (1, .int n)]) hx hb dX3_find_9 hl (by decide) rfl (fun ls hl => ?_)
  have lp11 : ∀ (d k : Nat), k ≤ 16 → 16 < k + d → (∀ j, j < k → (fun i => decide (q_used V i ∧ V (12 + i) 0 = n)) j = false) → ∀ (H : Heap) (locs : List Loc) (ls : Array Slot), g_I D tb ad (g_A ad) s H locs P (va_up M r V) → lv_has ls 6 [(4, .int (nI k)), (3, .int 16), (2, .ref (ad r 2)), (0, .ref (ad r 0)), (1, .int n)] → W p l e rm_X3_find s m args below meth c H locs 0 0 Q (F0 m 11 ls []) := by
    intro d
    induction d with
    | zero => intro k hkp hfu; intros; omega
    | succ d ih =>
      intro k hkp hfu hno H locs ls hI hl
      refine lv_iload hx hb dX3_find_11 (lv_at hl 0 rfl) ?_
      refine lv_iload_n hx hb dX3_find_13 rfl (lv_at hl 1 rfl) ?_
      refine lv_icmp_ge (tgt := 49) hx hb dX3_find_14 (by decide) (fun c1 => ?_) (fun c1 => ?_)
      · have c1n : 16 ≤ k := (nI_leI (a := 16) (b := k) (by omega) (by omega)).mp c1
        refine lv_null hx hb dX3_find_49 ?_
        exact g_qr (v := none) hQ hx hb hr0 hlk hC hI dX3_find_50 rfl (by first | (rw [show q_find V n = some k from k_find_at (by omega) (decide_eq_true ⟨by assumption, by assumption⟩) hno]; rfl) | (rw [show q_find V n = none from k_find_none.mpr (fun j hj => hno j (by omega))]; rfl)) rfl rfl
      · have c1n : ¬ 16 ≤ k := fun z => c1 ((nI_leI (a := 16) (b := k) (by omega) (by omega)).mpr z)
        refine lv_aload_n hx hb dX3_find_17 rfl (lv_at hl 2 rfl) ?_
        refine lv_iload hx hb dX3_find_18 (lv_at hl 0 rfl) ?_
        refine g_aald 3 k hx hb hC hI (ok_c 2 hr (by decide)) (e_recs hr) rfl (vp_in_nI (by omega) (by decide)) (nI_clamp (by omega)) dX3_find_20 ?_
        have hk2 : k < 16 := (by omega)
        refine lv_astore (lv' := [(5, .ref (ad r (12 + k))), (4, .int (nI k)), (3, .int 16), (2, .ref (ad r 2)), (0, .ref (ad r 0)), (1, .int n)]) hx hb dX3_find_21 hl (by decide) rfl (fun ls hl => ?_)
        refine lv_aload hx hb dX3_find_23 (lv_at hl 0 rfl) ?_
        refine g_callVi (rest := []) (c_X1_isUsed l D tb ad hj P M r hr V k hk2) rfl rfl gm_X1_isUsed hx hb hml hown hts hC hI (ok_rec hr hk2) (e_rec hr hk2 g_us) rfl rfl qm_X3_203 rfl hl.1 rfl ⟨rfl, rfl, by decide, by decide⟩ (Nat.le_of_ble_eq_true rfl) ⟨Nat.zero_le _, Nat.zero_le _⟩ dX3_find_25 (fun H locs hI => ?_)
        refine g_tf (fun c3 => ?_) (fun c3 => ?_)
        · refine lv_if_eq (tgt := 43) hx hb dX3_find_28 (by decide) (fun c4 => absurd c4 (by decide)) (fun _ => ?_)
          refine lv_aload hx hb dX3_find_31 (lv_at hl 0 rfl) ?_
          refine g_get 0 hx hb hts hown hC hI i_X1 (ok_rec hr hk2) (e_rec hr hk2 g_us) rfl (by decide) qf_X3_96 rfl rfl dX3_find_33 ?_
          refine lv_iload_n hx hb dX3_find_36 rfl (lv_at hl 5 rfl) ?_
          refine lv_icmp_ne (tgt := 43) hx hb dX3_find_37 (by decide) (fun c5 => ?_) (fun c5 => ?_)
          · refine lv_iinc (v := nI (k + 1)) (lv' := [(4, .int (nI (k + 1))), (5, .ref (ad r (12 + k))), (3, .int 16), (2, .ref (ad r 2)), (0, .ref (ad r 0)), (1, .int n)]) hx hb dX3_find_43 hl (k := 1) rfl (nI_1 _) (by decide) rfl (fun ls hl => ?_)
            refine lv_goto (tgt := 11) hx hb dX3_find_46 (by decide) ?_
            exact ih (k + 1)  (by omega) (by omega)  (by exact lt_s hno (decide_eq_false (fun z => by first | exact c5 z.1 | exact c5 z.2 | exact z c5))) _ _ _ hI (lv_sub hl [0, 2, 3, 4, 5] rfl)
          · refine lv_aload hx hb dX3_find_40 (lv_at hl 0 rfl) ?_
            exact g_qr (v := (some (ad r (12 + k)))) hQ hx hb hr0 hlk hC hI dX3_find_42 rfl (by first | (rw [show q_find V n = some k from k_find_at (by omega) (decide_eq_true ⟨by assumption, by assumption⟩) hno]; rfl) | (rw [show q_find V n = none from k_find_none.mpr (fun j hj => hno j (by omega))]; rfl)) rfl rfl
        · refine lv_if_eq (tgt := 43) hx hb dX3_find_28 (by decide) (fun _ => ?_) (fun c6 => absurd c6 (by decide))
          refine lv_iinc (v := nI (k + 1)) (lv' := [(4, .int (nI (k + 1))), (5, .ref (ad r (12 + k))), (3, .int 16), (2, .ref (ad r 2)), (0, .ref (ad r 0)), (1, .int n)]) hx hb dX3_find_43 hl (k := 1) rfl (nI_1 _) (by decide) rfl (fun ls hl => ?_)
          refine lv_goto (tgt := 11) hx hb dX3_find_46 (by decide) ?_
          exact ih (k + 1)  (by omega) (by omega)  (by exact lt_s hno (decide_eq_false (fun z => by first | exact c3 z.1 | exact c3 z.2 | exact z c3))) _ _ _ hI (lv_sub hl [0, 2, 3, 4, 5] rfl)
  exact lp11 (16 + 1) 0  (by omega) (by omega)  (fun j hj => absurd hj (Nat.not_lt_zero j)) _ _ _ hI (lv_sub hl [0, 1, 2, 3, 4] rfl)
abbrev rm_X3_freePlace : Room := { frames := 1, cells := 0, slots := 0, locals := 20 }
set_option maxHeartbeats 4000000 in
set_option maxRecDepth 100000 in
theorem c_X3_freePlace (l : Launch) (D : va_G) (tb : g_T) (ad : g_Ad) (hj : g_inj ad) (P : g_P) (M : g_M) (r : Nat) (hr : r < 6) (V : g_V) : g_Cq l yX3_freePlace cX3_freePlace 5 (some (.object "GrainReceipts$Receipt")) rm_X3_freePlace D tb ad [.ref (ad r 0)] P (va_up M r V) ((q_freePlace V).map (fun i => ad r (12 + i))) P (va_up M r V) := by
  refine g_go (by decide) (Nat.le_of_ble_eq_true rfl) hj ?_
  intro p e s m below meth c ls H locs R args Q hR0 hQ hx hb hml hr0 hlk hown hts hC hI hl
  subst hR0
  have hown : s.vm.findClass RX3 = some m.cls := hown
  have hl : lv_has ls 5 [(0, .ref (ad r 0))] := hl
  refine lv_aload_n hx hb dX3_freePlace_0 rfl (lv_at hl 0 rfl) ?_
  refine g_get 1 hx hb hts hown hC hI i_X3 (ok_c 0 hr (by decide)) (e_st hr g_us) rfl (by decide) qf_X3_19 rfl rfl dX3_freePlace_1 ?_
  refine lv_astore_n (lv' := [(1, .ref (ad r 2)), (0, .ref (ad r 0))]) hx hb dX3_freePlace_4 rfl hl (by decide) rfl (fun ls hl => ?_)
  refine lv_aload_n hx hb dX3_freePlace_5 rfl (lv_at hl 0 rfl) ?_
  refine g_alen 3 (v := 16) hx hb hC hI (ok_c 2 hr (by decide)) (e_recs hr) rfl rfl dX3_freePlace_6 ?_
  refine lv_istore_n (lv' := [(2, .int 16), (1, .ref (ad r 2)), (0, .ref (ad r 0))]) hx hb dX3_freePlace_7 rfl hl (by decide) rfl (fun ls hl => ?_)
  refine lv_iconst (v := 0) hx hb dX3_freePlace_8 (by decide) ?_
  refine lv_istore_n (lv' := [(3, .int 0), (2, .int 16), (1, .ref (ad r 2)), (0, .ref (ad r 0))]) hx hb dX3_freePlace_9 rfl hl (by decide) rfl (fun ls hl => ?_)
  have lp10 : ∀ (d k : Nat), k ≤ 16 → 16 < k + d → (∀ j, j < k → (fun i => decide (¬ q_used V i)) j = false) → ∀ (H : Heap) (locs : List Loc) (ls : Array Slot), g_I D tb ad (g_A ad) s H locs P (va_up M r V) → lv_has ls 5 [(3, .int (nI k)), (2, .int 16), (1, .ref (ad r 2)), (0, .ref (ad r 0))] → W p l e rm_X3_freePlace s m args below meth c H locs 0 0 Q (F0 m 10 ls []) := by
    intro d
    induction d with
    | zero => intro k hkp hfu; intros; omega
    | succ d ih =>
      intro k hkp hfu hno H locs ls hI hl
      refine lv_iload_n hx hb dX3_freePlace_10 rfl (lv_at hl 0 rfl) ?_
      refine lv_iload_n hx hb dX3_freePlace_11 rfl (lv_at hl 1 rfl) ?_
      refine lv_icmp_ge (tgt := 37) hx hb dX3_freePlace_12 (by decide) (fun c1 => ?_) (fun c1 => ?_)
      · have c1n : 16 ≤ k := (nI_leI (a := 16) (b := k) (by omega) (by omega)).mp c1
        refine lv_null hx hb dX3_freePlace_37 ?_
        exact g_qr (v := none) hQ hx hb hr0 hlk hC hI dX3_freePlace_38 rfl (by first | (rw [show q_freePlace V = some k from k_find_at (by omega) (decide_eq_true c1) hno]; rfl) | (rw [show q_freePlace V = none from k_find_none.mpr (fun j hj => hno j (by omega))]; rfl)) rfl rfl
      · have c1n : ¬ 16 ≤ k := fun z => c1 ((nI_leI (a := 16) (b := k) (by omega) (by omega)).mpr z)
        refine lv_aload_n hx hb dX3_freePlace_15 rfl (lv_at hl 2 rfl) ?_
        refine lv_iload_n hx hb dX3_freePlace_16 rfl (lv_at hl 0 rfl) ?_
        refine g_aald 3 k hx hb hC hI (ok_c 2 hr (by decide)) (e_recs hr) rfl (vp_in_nI (by omega) (by decide)) (nI_clamp (by omega)) dX3_freePlace_17 ?_
        have hk2 : k < 16 := (by omega)
        refine lv_astore (lv' := [(4, .ref (ad r (12 + k))), (3, .int (nI k)), (2, .int 16), (1, .ref (ad r 2)), (0, .ref (ad r 0))]) hx hb dX3_freePlace_18 hl (by decide) rfl (fun ls hl => ?_)
        refine lv_aload hx hb dX3_freePlace_20 (lv_at hl 0 rfl) ?_
        refine g_callVi (rest := []) (c_X1_isUsed l D tb ad hj P M r hr V k hk2) rfl rfl gm_X1_isUsed hx hb hml hown hts hC hI (ok_rec hr hk2) (e_rec hr hk2 g_us) rfl rfl qm_X3_203 rfl hl.1 rfl ⟨rfl, rfl, by decide, by decide⟩ (Nat.le_of_ble_eq_true rfl) ⟨Nat.zero_le _, Nat.zero_le _⟩ dX3_freePlace_22 (fun H locs hI => ?_)
        refine g_tf (fun c3 => ?_) (fun c3 => ?_)
        · refine lv_if_ne (tgt := 31) hx hb dX3_freePlace_25 (by decide) (fun _ => ?_) (fun c4 => absurd c4 (by decide))
          refine lv_iinc (v := nI (k + 1)) (lv' := [(3, .int (nI (k + 1))), (4, .ref (ad r (12 + k))), (2, .int 16), (1, .ref (ad r 2)), (0, .ref (ad r 0))]) hx hb dX3_freePlace_31 hl (k := 1) rfl (nI_1 _) (by decide) rfl (fun ls hl => ?_)
          refine lv_goto (tgt := 10) hx hb dX3_freePlace_34 (by decide) ?_
          exact ih (k + 1)  (by omega) (by omega)  (by exact lt_s hno (decide_eq_false (fun z => by first | exact c3 z.1 | exact c3 z.2 | exact z c3))) _ _ _ hI (lv_sub hl [0, 2, 3, 4] rfl)
        · refine lv_if_ne (tgt := 31) hx hb dX3_freePlace_25 (by decide) (fun c5 => absurd c5 (by decide)) (fun _ => ?_)
          refine lv_aload hx hb dX3_freePlace_28 (lv_at hl 0 rfl) ?_
          exact g_qr (v := (some (ad r (12 + k)))) hQ hx hb hr0 hlk hC hI dX3_freePlace_30 rfl (by first | (rw [show q_freePlace V = some k from k_find_at (by omega) (decide_eq_true c3) hno]; rfl) | (rw [show q_freePlace V = none from k_find_none.mpr (fun j hj => hno j (by omega))]; rfl)) rfl rfl
  exact lp10 (16 + 1) 0  (by omega) (by omega)  (fun j hj => absurd hj (Nat.not_lt_zero j)) _ _ _ hI (lv_sub hl [0, 1, 2, 3] rfl)
abbrev rm_X3_nextNumber : Room := { frames := 0, cells := 0, slots := 0, locals := 0 }
set_option maxHeartbeats 4000000 in
set_option maxRecDepth 100000 in
theorem c_X3_nextNumber (l : Launch) (D : va_G) (tb : g_T) (ad : g_Ad) (hj : g_inj ad) (P : g_P) (M : g_M) (r : Nat) (hr : r < 6) (V : g_V) : g_Ci l yX3_nextNumber cX3_nextNumber 2 (some .int) rm_X3_nextNumber D tb ad [.ref (ad r 0)] P (va_up M r V) (V 0 7) P (va_up M r (q_next V)) := by
  refine g_go (by decide) (Nat.le_of_ble_eq_true rfl) hj ?_
  intro p e s m below meth c ls H locs R args Q hR0 hQ hx hb hml hr0 hlk hown hts hC hI hl
  subst hR0
  have hown : s.vm.findClass RX3 = some m.cls := hown
  have hl : lv_has ls 2 [(0, .ref (ad r 0))] := hl
  refine lv_aload_n hx hb dX3_nextNumber_0 rfl (lv_at hl 0 rfl) ?_
  refine g_get 7 hx hb hts hown hC hI i_X3 (ok_c 0 hr (by decide)) (e_st hr g_us) rfl (by decide) qf_X3_58 rfl rfl dX3_nextNumber_1 ?_
  refine lv_istore_n (lv' := [(1, .int (V 0 7)), (0, .ref (ad r 0))]) hx hb dX3_nextNumber_4 rfl hl (by decide) rfl (fun ls hl => ?_)
  refine lv_aload_n hx hb dX3_nextNumber_5 rfl (lv_at hl 1 rfl) ?_
  refine lv_dup hx hb dX3_nextNumber_6 rfl ?_
  refine g_get 7 hx hb hts hown hC hI i_X3 (ok_c 0 hr (by decide)) (e_st hr g_us) rfl (by decide) qf_X3_58 rfl rfl dX3_nextNumber_7 ?_
  refine lv_iconst (v := 1) hx hb dX3_nextNumber_10 (by decide) ?_
  refine lv_iadd hx hb dX3_nextNumber_11 ?_
  refine g_put 7 (ty := .int) hx hb hts hown hC hI i_X3 tyX3_ok nmX3 (ok_c 0 hr (by decide)) (e_st hr g_us) rfl (by decide) qf_X3_58 rfl rfl rfl rfl rfl (Nat.le_of_ble_eq_true rfl) (p_st hr (by decide)) g_hs dX3_nextNumber_12 (fun H locs hI => ?_)
  refine lv_iload_n hx hb dX3_nextNumber_15 rfl (lv_at hl 0 rfl) ?_
  exact g_ir hQ hx hb hr0 hlk hC hI dX3_nextNumber_16 rfl (by rfl) rfl (by rfl)
abbrev rm_X3_priceOf : Room := { frames := 1, cells := 0, slots := 0, locals := 20 }
set_option maxHeartbeats 4000000 in
set_option maxRecDepth 100000 in
theorem c_X3_priceOf (l : Launch) (D : va_G) (tb : g_T) (ad : g_Ad) (hj : g_inj ad) (P : g_P) (M : g_M) (r : Nat) (hr : r < 6) (V : g_V) (g : Int32) : g_Ci l yX3_priceOf cX3_priceOf 2 (some .int) rm_X3_priceOf D tb ad [.ref (ad r 0), .int g] P (va_up M r V) (q_priceOf V g) P (va_up M r V) := by
  refine g_go (by decide) (Nat.le_of_ble_eq_true rfl) hj ?_
  intro p e s m below meth c ls H locs R args Q hR0 hQ hx hb hml hr0 hlk hown hts hC hI hl
  subst hR0
  have hown : s.vm.findClass RX3 = some m.cls := hown
  have hl : lv_has ls 2 [(0, .ref (ad r 0)), (1, .int g)] := hl
  refine lv_iload_n hx hb dX3_priceOf_0 rfl (lv_at hl 1 rfl) ?_
  refine g_callNi (rest := []) (c_X4_isGrade l D tb ad hj P (va_up M r V) g) rfl rfl gm_X4_isGrade hx hb hml hown hts hC hI qN_X3_70 rfl hl.1 rfl ⟨rfl, rfl, by decide, by decide⟩ (Nat.le_of_ble_eq_true rfl) ⟨Nat.zero_le _, Nat.zero_le _⟩ dX3_priceOf_1 (fun H locs hI => ?_)
  refine g_tf (fun c1 => ?_) (fun c1 => ?_)
  · refine lv_if_eq (tgt := 16) hx hb dX3_priceOf_4 (by decide) (fun c2 => absurd c2 (by decide)) (fun _ => ?_)
    refine lv_aload_n hx hb dX3_priceOf_7 rfl (lv_at hl 0 rfl) ?_
    refine g_get 2 hx hb hts hown hC hI i_X3 (ok_c 0 hr (by decide)) (e_st hr g_us) rfl (by decide) qf_X3_23 rfl rfl dX3_priceOf_8 ?_
    refine lv_iload_n hx hb dX3_priceOf_11 rfl (lv_at hl 1 rfl) ?_
    refine g_iald g.toNatClampNeg hx hb hC hI (ok_c 3 hr (by decide)) (e_pr hr g_us) (k_vin c1 rfl) rfl dX3_priceOf_12 ?_
    refine lv_goto (tgt := 17) hx hb dX3_priceOf_13 (by decide) ?_
    exact g_ir hQ hx hb hr0 hlk hC hI dX3_priceOf_17 rfl (by unfold q_priceOf; first | rw [if_pos c1] | rw [if_neg c1]) rfl rfl
  · refine lv_if_eq (tgt := 16) hx hb dX3_priceOf_4 (by decide) (fun _ => ?_) (fun c3 => absurd c3 (by decide))
    refine lv_iconst (v := 0) hx hb dX3_priceOf_16 (by decide) ?_
    exact g_ir hQ hx hb hr0 hlk hC hI dX3_priceOf_17 rfl (by unfold q_priceOf; first | rw [if_pos c1] | rw [if_neg c1]) rfl rfl
abbrev rm_X3_moneyOf : Room := { frames := 1, cells := 0, slots := 0, locals := 20 }
set_option maxHeartbeats 4000000 in
set_option maxRecDepth 100000 in
theorem c_X3_moneyOf (l : Launch) (D : va_G) (tb : g_T) (ad : g_Ad) (hj : g_inj ad) (P : g_P) (M : g_M) (r : Nat) (hr : r < 6) (V : g_V) (o : Int32) : g_Ci l yX3_moneyOf cX3_moneyOf 2 (some .int) rm_X3_moneyOf D tb ad [.ref (ad r 0), .int o] P (va_up M r V) (q_moneyOf V o) P (va_up M r V) := by
  refine g_go (by decide) (Nat.le_of_ble_eq_true rfl) hj ?_
  intro p e s m below meth c ls H locs R args Q hR0 hQ hx hb hml hr0 hlk hown hts hC hI hl
  subst hR0
  have hown : s.vm.findClass RX3 = some m.cls := hown
  have hl : lv_has ls 2 [(0, .ref (ad r 0)), (1, .int o)] := hl
  refine lv_iload_n hx hb dX3_moneyOf_0 rfl (lv_at hl 1 rfl) ?_
  refine g_callNi (rest := []) (c_X4_isOwner l D tb ad hj P (va_up M r V) o) rfl rfl gm_X4_isOwner hx hb hml hown hts hC hI qN_X3_122 rfl hl.1 rfl ⟨rfl, rfl, by decide, by decide⟩ (Nat.le_of_ble_eq_true rfl) ⟨Nat.zero_le _, Nat.zero_le _⟩ dX3_moneyOf_1 (fun H locs hI => ?_)
  refine g_tf (fun c1 => ?_) (fun c1 => ?_)
  · refine lv_if_eq (tgt := 16) hx hb dX3_moneyOf_4 (by decide) (fun c2 => absurd c2 (by decide)) (fun _ => ?_)
    refine lv_aload_n hx hb dX3_moneyOf_7 rfl (lv_at hl 0 rfl) ?_
    refine g_get 4 hx hb hts hown hC hI i_X3 (ok_c 0 hr (by decide)) (e_st hr g_us) rfl (by decide) qf_X3_30 rfl rfl dX3_moneyOf_8 ?_
    refine lv_iload_n hx hb dX3_moneyOf_11 rfl (lv_at hl 1 rfl) ?_
    refine g_iald o.toNatClampNeg hx hb hC hI (ok_c 5 hr (by decide)) (e_mo hr g_us) (k_vin c1 rfl) rfl dX3_moneyOf_12 ?_
    refine lv_goto (tgt := 17) hx hb dX3_moneyOf_13 (by decide) ?_
    exact g_ir hQ hx hb hr0 hlk hC hI dX3_moneyOf_17 rfl (by unfold q_moneyOf; first | rw [if_pos c1] | rw [if_neg c1]) rfl rfl
  · refine lv_if_eq (tgt := 16) hx hb dX3_moneyOf_4 (by decide) (fun _ => ?_) (fun c3 => absurd c3 (by decide))
    refine lv_iconst (v := 0) hx hb dX3_moneyOf_16 (by decide) ?_
    exact g_ir hQ hx hb hr0 hlk hC hI dX3_moneyOf_17 rfl (by unfold q_moneyOf; first | rw [if_pos c1] | rw [if_neg c1]) rfl rfl
abbrev rm_X3_addMoney : Room := { frames := 1, cells := 0, slots := 0, locals := 20 }
set_option maxHeartbeats 4000000 in
set_option maxRecDepth 100000 in
theorem c_X3_addMoney (l : Launch) (D : va_G) (tb : g_T) (ad : g_Ad) (hj : g_inj ad) (P : g_P) (M : g_M) (r : Nat) (hr : r < 6) (V : g_V) (o : Int32) (a : Int32) : g_Cv l yX3_addMoney cX3_addMoney 3 none rm_X3_addMoney D tb ad [.ref (ad r 0), .int o, .int a] P (va_up M r V) P (va_up M r (q_addMoney V o a)) := by
  refine g_go (by decide) (Nat.le_of_ble_eq_true rfl) hj ?_
  intro p e s m below meth c ls H locs R args Q hR0 hQ hx hb hml hr0 hlk hown hts hC hI hl
  subst hR0
  have hown : s.vm.findClass RX3 = some m.cls := hown
  have hl : lv_has ls 3 [(0, .ref (ad r 0)), (1, .int o), (2, .int a)] := hl
  refine lv_iload_n hx hb dX3_addMoney_0 rfl (lv_at hl 1 rfl) ?_
  refine g_callNi (rest := []) (c_X4_isOwner l D tb ad hj P (va_up M r V) o) rfl rfl gm_X4_isOwner hx hb hml hown hts hC hI qN_X3_122 rfl hl.1 rfl ⟨rfl, rfl, by decide, by decide⟩ (Nat.le_of_ble_eq_true rfl) ⟨Nat.zero_le _, Nat.zero_le _⟩ dX3_addMoney_1 (fun H locs hI => ?_)
  refine g_tf (fun c1 => ?_) (fun c1 => ?_)
  · refine lv_if_eq (tgt := 17) hx hb dX3_addMoney_4 (by decide) (fun c2 => absurd c2 (by decide)) (fun _ => ?_)
    refine lv_aload_n hx hb dX3_addMoney_7 rfl (lv_at hl 0 rfl) ?_
    refine g_get 4 hx hb hts hown hC hI i_X3 (ok_c 0 hr (by decide)) (e_st hr g_us) rfl (by decide) qf_X3_30 rfl rfl dX3_addMoney_8 ?_
    refine lv_iload_n hx hb dX3_addMoney_11 rfl (lv_at hl 1 rfl) ?_
    refine lv_dup2_11 hx hb dX3_addMoney_12 rfl rfl ?_
    refine g_iald o.toNatClampNeg hx hb hC hI (ok_c 5 hr (by decide)) (e_mo hr g_us) (k_vin c1 rfl) rfl dX3_addMoney_13 ?_
    refine lv_iload_n hx hb dX3_addMoney_14 rfl (lv_at hl 2 rfl) ?_
    refine lv_iadd hx hb dX3_addMoney_15 ?_
    refine g_iast o.toNatClampNeg hx hb hC hI (ok_c 5 hr (by decide)) (e_mo hr g_us) (k_vin c1 rfl) rfl (p_mo hr) g_hs dX3_addMoney_16 (fun H locs hI => ?_)
    exact g_vr hQ hx hb hr0 hlk hC hI dX3_addMoney_17 rfl (by unfold q_addMoney; first | rw [if_pos c1] | rw [if_neg c1])
  · refine lv_if_eq (tgt := 17) hx hb dX3_addMoney_4 (by decide) (fun _ => ?_) (fun c3 => absurd c3 (by decide))
    exact g_vr hQ hx hb hr0 hlk hC hI dX3_addMoney_17 rfl (by unfold q_addMoney; first | rw [if_pos c1] | rw [if_neg c1])
abbrev rm_X3_worth : Room := { frames := 0, cells := 0, slots := 0, locals := 0 }
set_option maxHeartbeats 4000000 in
set_option maxRecDepth 100000 in
theorem c_X3_worth (l : Launch) (D : va_G) (tb : g_T) (ad : g_Ad) (hj : g_inj ad) (P : g_P) (M : g_M) (r : Nat) (hr : r < 6) (V : g_V) (i1 : Nat) (hi1 : i1 < 16) : g_Ci l yX3_worth cX3_worth 2 (some .int) rm_X3_worth D tb ad [.ref (ad r 0), .ref (ad r (12 + i1))] P (va_up M r V) (q_worth V i1) P (va_up M r V) := by
  refine g_go (by decide) (Nat.le_of_ble_eq_true rfl) hj ?_
  intro p e s m below meth c ls H locs R args Q hR0 hQ hx hb hml hr0 hlk hown hts hC hI hl
  subst hR0
  have hown : s.vm.findClass RX3 = some m.cls := hown
  have hl : lv_has ls 2 [(0, .ref (ad r 0)), (1, .ref (ad r (12 + i1)))] := hl
  refine lv_aload_n hx hb dX3_worth_0 rfl (lv_at hl 1 rfl) ?_
  refine g_get 3 hx hb hts hown hC hI i_X1 (ok_rec hr hi1) (e_rec hr hi1 g_us) rfl (by decide) qf_X3_103 rfl rfl dX3_worth_1 ?_
  refine lv_aload_n hx hb dX3_worth_4 rfl (lv_at hl 0 rfl) ?_
  refine g_get 2 hx hb hts hown hC hI i_X3 (ok_c 0 hr (by decide)) (e_st hr g_us) rfl (by decide) qf_X3_23 rfl rfl dX3_worth_5 ?_
  refine lv_iconst (v := 2) hx hb dX3_worth_8 (by decide) ?_
  refine g_iald 2 hx hb hC hI (ok_c 3 hr (by decide)) (e_pr hr g_us) (by unfold vp_in; decide) rfl dX3_worth_9 ?_
  refine lv_imul hx hb dX3_worth_10 ?_
  exact g_ir hQ hx hb hr0 hlk hC hI dX3_worth_11 rfl (by rfl) rfl rfl
abbrev rm_X3_greatestLoan : Room := { frames := 1, cells := 0, slots := 0, locals := 21 }
set_option maxHeartbeats 4000000 in
set_option maxRecDepth 100000 in
theorem c_X3_greatestLoan (l : Launch) (D : va_G) (tb : g_T) (ad : g_Ad) (hj : g_inj ad) (P : g_P) (M : g_M) (r : Nat) (hr : r < 6) (V : g_V) (i1 : Nat) (hi1 : i1 < 16) : g_Ci l yX3_greatestLoan cX3_greatestLoan 2 (some .int) rm_X3_greatestLoan D tb ad [.ref (ad r 0), .ref (ad r (12 + i1))] P (va_up M r V) (q_greatestLoan V i1) P (va_up M r V) := by
  refine g_go (by decide) (Nat.le_of_ble_eq_true rfl) hj ?_
  intro p e s m below meth c ls H locs R args Q hR0 hQ hx hb hml hr0 hlk hown hts hC hI hl
  subst hR0
  have hown : s.vm.findClass RX3 = some m.cls := hown
  have hl : lv_has ls 2 [(0, .ref (ad r 0)), (1, .ref (ad r (12 + i1)))] := hl
  refine lv_aload_n hx hb dX3_greatestLoan_0 rfl (lv_at hl 0 rfl) ?_
  refine lv_aload_n hx hb dX3_greatestLoan_1 rfl (lv_at hl 1 rfl) ?_
  refine g_callVi (rest := []) (c_X3_worth l D tb ad hj P M r hr V i1 hi1) rfl rfl gm_X3_worth hx hb hml hown hts hC hI (ok_c 0 hr (by decide)) (e_st hr g_us) rfl rfl qm_X3_185 rfl hl.1 rfl ⟨rfl, rfl, by decide, by decide⟩ (Nat.le_of_ble_eq_true rfl) ⟨Nat.zero_le _, Nat.zero_le _⟩ dX3_greatestLoan_2 (fun H locs hI => ?_)
  refine lv_aload_n hx hb dX3_greatestLoan_5 rfl (lv_at hl 0 rfl) ?_
  refine g_get 3 hx hb hts hown hC hI i_X3 (ok_c 0 hr (by decide)) (e_st hr g_us) rfl (by decide) qf_X3_27 rfl rfl dX3_greatestLoan_6 ?_
  refine lv_iconst (v := 0) hx hb dX3_greatestLoan_9 (by decide) ?_
  refine g_iald 0 hx hb hC hI (ok_c 4 hr (by decide)) (e_se hr g_us) (by unfold vp_in; decide) rfl dX3_greatestLoan_10 ?_
  refine lv_imul hx hb dX3_greatestLoan_11 ?_
  refine lv_bipush (v := 100) hx hb dX3_greatestLoan_12 (by decide) ?_
  refine lv_idiv hx hb dX3_greatestLoan_14 (by decide) ?_
  exact g_ir hQ hx hb hr0 hlk hC hI dX3_greatestLoan_15 rfl (by rfl) rfl rfl
abbrev rm_X3_callLimit : Room := { frames := 0, cells := 0, slots := 0, locals := 0 }
set_option maxHeartbeats 4000000 in
set_option maxRecDepth 100000 in
theorem c_X3_callLimit (l : Launch) (D : va_G) (tb : g_T) (ad : g_Ad) (hj : g_inj ad) (P : g_P) (M : g_M) (r : Nat) (hr : r < 6) (V : g_V) (w : Int32) : g_Ci l yX3_callLimit cX3_callLimit 2 (some .int) rm_X3_callLimit D tb ad [.ref (ad r 0), .int w] P (va_up M r V) (q_callLimit V w) P (va_up M r V) := by
  refine g_go (by decide) (Nat.le_of_ble_eq_true rfl) hj ?_
  intro p e s m below meth c ls H locs R args Q hR0 hQ hx hb hml hr0 hlk hown hts hC hI hl
  subst hR0
  have hown : s.vm.findClass RX3 = some m.cls := hown
  have hl : lv_has ls 2 [(0, .ref (ad r 0)), (1, .int w)] := hl
  refine lv_iload_n hx hb dX3_callLimit_0 rfl (lv_at hl 1 rfl) ?_
  refine lv_aload_n hx hb dX3_callLimit_1 rfl (lv_at hl 0 rfl) ?_
  refine g_get 3 hx hb hts hown hC hI i_X3 (ok_c 0 hr (by decide)) (e_st hr g_us) rfl (by decide) qf_X3_27 rfl rfl dX3_callLimit_2 ?_
  refine lv_iconst (v := 1) hx hb dX3_callLimit_5 (by decide) ?_
  refine g_iald 1 hx hb hC hI (ok_c 4 hr (by decide)) (e_se hr g_us) (by unfold vp_in; decide) rfl dX3_callLimit_6 ?_
  refine lv_imul hx hb dX3_callLimit_7 ?_
  refine lv_bipush (v := 100) hx hb dX3_callLimit_8 (by decide) ?_
  refine lv_idiv hx hb dX3_callLimit_10 (by decide) ?_
  exact g_ir hQ hx hb hr0 hlk hC hI dX3_callLimit_11 rfl (by rfl) rfl rfl
abbrev rm_X3_isLoanTooHigh : Room := { frames := 1, cells := 0, slots := 0, locals := 21 }
set_option maxHeartbeats 4000000 in
set_option maxRecDepth 100000 in
theorem c_X3_isLoanTooHigh (l : Launch) (D : va_G) (tb : g_T) (ad : g_Ad) (hj : g_inj ad) (P : g_P) (M : g_M) (r : Nat) (hr : r < 6) (V : g_V) (i1 : Nat) (hi1 : i1 < 16) : g_Ci l yX3_isLoanTooHigh cX3_isLoanTooHigh 2 (some .boolean) rm_X3_isLoanTooHigh D tb ad [.ref (ad r 0), .ref (ad r (12 + i1))] P (va_up M r V) (if q_tooHigh V i1 then 1 else 0) P (va_up M r V) := by
  refine g_go (by decide) (Nat.le_of_ble_eq_true rfl) hj ?_
  intro p e s m below meth c ls H locs R args Q hR0 hQ hx hb hml hr0 hlk hown hts hC hI hl
  subst hR0
  have hown : s.vm.findClass RX3 = some m.cls := hown
  have hl : lv_has ls 2 [(0, .ref (ad r 0)), (1, .ref (ad r (12 + i1)))] := hl
  refine lv_aload_n hx hb dX3_isLoanTooHigh_0 rfl (lv_at hl 1 rfl) ?_
  refine g_get 5 hx hb hts hown hC hI i_X1 (ok_rec hr hi1) (e_rec hr hi1 g_us) rfl (by decide) qf_X3_139 rfl rfl dX3_isLoanTooHigh_1 ?_
  refine lv_aload_n hx hb dX3_isLoanTooHigh_4 rfl (lv_at hl 0 rfl) ?_
  refine lv_aload_n hx hb dX3_isLoanTooHigh_5 rfl (lv_at hl 0 rfl) ?_
  refine lv_aload_n hx hb dX3_isLoanTooHigh_6 rfl (lv_at hl 1 rfl) ?_
  refine g_callVi (rest := [.ref (ad r 0), .int (V (12 + i1) 5)]) (c_X3_worth l D tb ad hj P M r hr V i1 hi1) rfl rfl gm_X3_worth hx hb hml hown hts hC hI (ok_c 0 hr (by decide)) (e_st hr g_us) rfl rfl qm_X3_185 rfl hl.1 rfl ⟨rfl, rfl, by decide, by decide⟩ (Nat.le_of_ble_eq_true rfl) ⟨Nat.zero_le _, Nat.zero_le _⟩ dX3_isLoanTooHigh_7 (fun H locs hI => ?_)
  refine g_callVi (rest := [.int (V (12 + i1) 5)]) (c_X3_callLimit l D tb ad hj P M r hr V (q_worth V i1)) rfl rfl gm_X3_callLimit hx hb hml hown hts hC hI (ok_c 0 hr (by decide)) (e_st hr g_us) rfl rfl qm_X3_192 rfl hl.1 rfl ⟨rfl, rfl, by decide, by decide⟩ (Nat.le_of_ble_eq_true rfl) ⟨Nat.zero_le _, Nat.zero_le _⟩ dX3_isLoanTooHigh_10 (fun H locs hI => ?_)
  refine lv_icmp_le (tgt := 20) hx hb dX3_isLoanTooHigh_13 (by decide) (fun c1 => ?_) (fun c1 => ?_)
  · refine lv_iconst (v := 0) hx hb dX3_isLoanTooHigh_20 (by decide) ?_
    exact g_ir hQ hx hb hr0 hlk hC hI dX3_isLoanTooHigh_21 (by rfl) (by simp [c1]) rfl rfl
  · refine lv_iconst (v := 1) hx hb dX3_isLoanTooHigh_16 (by decide) ?_
    refine lv_goto (tgt := 21) hx hb dX3_isLoanTooHigh_17 (by decide) ?_
    exact g_ir hQ hx hb hr0 hlk hC hI dX3_isLoanTooHigh_21 (by rfl) (by simp [c1]) rfl rfl
abbrev rm_X3_wouldBeCalled : Room := { frames := 1, cells := 0, slots := 0, locals := 21 }
set_option maxHeartbeats 4000000 in
set_option maxRecDepth 100000 in
theorem c_X3_wouldBeCalled (l : Launch) (D : va_G) (tb : g_T) (ad : g_Ad) (hj : g_inj ad) (P : g_P) (M : g_M) (r : Nat) (hr : r < 6) (V : g_V) (i1 : Nat) (hi1 : i1 < 16) (le : Int32) (pr : Int32) : g_Ci l yX3_wouldBeCalled cX3_wouldBeCalled 4 (some .boolean) rm_X3_wouldBeCalled D tb ad [.ref (ad r 0), .ref (ad r (12 + i1)), .int le, .int pr] P (va_up M r V) (if q_would V i1 le pr then 1 else 0) P (va_up M r V) := by
  refine g_go (by decide) (Nat.le_of_ble_eq_true rfl) hj ?_
  intro p e s m below meth c ls H locs R args Q hR0 hQ hx hb hml hr0 hlk hown hts hC hI hl
  subst hR0
  have hown : s.vm.findClass RX3 = some m.cls := hown
  have hl : lv_has ls 4 [(0, .ref (ad r 0)), (1, .ref (ad r (12 + i1))), (2, .int le), (3, .int pr)] := hl
  refine lv_aload_n hx hb dX3_wouldBeCalled_0 rfl (lv_at hl 1 rfl) ?_
  refine g_get 4 hx hb hts hown hC hI i_X1 (ok_rec hr hi1) (e_rec hr hi1 g_us) rfl (by decide) qf_X3_136 rfl rfl dX3_wouldBeCalled_1 ?_
  refine lv_iload_n hx hb dX3_wouldBeCalled_4 rfl (lv_at hl 2 rfl) ?_
  refine lv_icmp_ne (tgt := 36) hx hb dX3_wouldBeCalled_5 (by decide) (fun c1 => ?_) (fun c1 => ?_)
  · refine lv_iconst (v := 0) hx hb dX3_wouldBeCalled_36 (by decide) ?_
    exact g_ir hQ hx hb hr0 hlk hC hI dX3_wouldBeCalled_37 (by rfl) (by simp [c1]) rfl rfl
  · refine lv_aload_n hx hb dX3_wouldBeCalled_8 rfl (lv_at hl 1 rfl) ?_
    refine g_callVi (rest := []) (c_X1_isCalled l D tb ad hj P M r hr V i1 hi1) rfl rfl gm_X1_isCalled hx hb hml hown hts hC hI (ok_rec hr hi1) (e_rec hr hi1 g_us) rfl rfl qm_X3_189 rfl hl.1 rfl ⟨rfl, rfl, by decide, by decide⟩ (Nat.le_of_ble_eq_true rfl) ⟨Nat.zero_le _, Nat.zero_le _⟩ dX3_wouldBeCalled_9 (fun H locs hI => ?_)
    refine g_tf (fun c2 => ?_) (fun c2 => ?_)
    · refine lv_if_ne (tgt := 36) hx hb dX3_wouldBeCalled_12 (by decide) (fun _ => ?_) (fun c3 => absurd c3 (by decide))
      refine lv_iconst (v := 0) hx hb dX3_wouldBeCalled_36 (by decide) ?_
      exact g_ir hQ hx hb hr0 hlk hC hI dX3_wouldBeCalled_37 (by rfl) (by simp [c1, c2]) rfl rfl
    · refine lv_if_ne (tgt := 36) hx hb dX3_wouldBeCalled_12 (by decide) (fun c4 => absurd c4 (by decide)) (fun _ => ?_)
      refine lv_aload_n hx hb dX3_wouldBeCalled_15 rfl (lv_at hl 1 rfl) ?_
      refine g_get 5 hx hb hts hown hC hI i_X1 (ok_rec hr hi1) (e_rec hr hi1 g_us) rfl (by decide) qf_X3_139 rfl rfl dX3_wouldBeCalled_16 ?_
      refine lv_aload_n hx hb dX3_wouldBeCalled_19 rfl (lv_at hl 0 rfl) ?_
      refine lv_aload_n hx hb dX3_wouldBeCalled_20 rfl (lv_at hl 1 rfl) ?_
      refine g_get 3 hx hb hts hown hC hI i_X1 (ok_rec hr hi1) (e_rec hr hi1 g_us) rfl (by decide) qf_X3_103 rfl rfl dX3_wouldBeCalled_21 ?_
      refine lv_iload_n hx hb dX3_wouldBeCalled_24 rfl (lv_at hl 3 rfl) ?_
      refine lv_imul hx hb dX3_wouldBeCalled_25 ?_
      refine g_callVi (rest := [.int (V (12 + i1) 5)]) (c_X3_callLimit l D tb ad hj P M r hr V ((V (12 + i1) 3) * pr)) rfl rfl gm_X3_callLimit hx hb hml hown hts hC hI (ok_c 0 hr (by decide)) (e_st hr g_us) rfl rfl qm_X3_192 rfl hl.1 rfl ⟨rfl, rfl, by decide, by decide⟩ (Nat.le_of_ble_eq_true rfl) ⟨Nat.zero_le _, Nat.zero_le _⟩ dX3_wouldBeCalled_26 (fun H locs hI => ?_)
      refine lv_icmp_le (tgt := 36) hx hb dX3_wouldBeCalled_29 (by decide) (fun c5 => ?_) (fun c5 => ?_)
      · refine lv_iconst (v := 0) hx hb dX3_wouldBeCalled_36 (by decide) ?_
        exact g_ir hQ hx hb hr0 hlk hC hI dX3_wouldBeCalled_37 (by rfl) (by simp [c1, c2, c5]) rfl rfl
      · refine lv_iconst (v := 1) hx hb dX3_wouldBeCalled_32 (by decide) ?_
        refine lv_goto (tgt := 37) hx hb dX3_wouldBeCalled_33 (by decide) ?_
        exact g_ir hQ hx hb hr0 hlk hC hI dX3_wouldBeCalled_37 (by rfl) (by simp [c1, c2, c5]) rfl rfl
