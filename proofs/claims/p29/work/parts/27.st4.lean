abbrev rm_X0_copyFrom : Room := { frames := 0, cells := 0, slots := 0, locals := 0 }
set_option maxHeartbeats 800000 in
set_option maxRecDepth 100000 in
theorem c_X0_copyFrom (l : Launch) (D : va_G) (tb : g_T) (ad : g_Ad) (hj : g_inj ad) (P : g_P) (M : g_M) (r : Nat) (hr : r < 6) (V : g_V) (i : Nat) (hi : i < 5) (r2 : Nat) (hr2 : r2 < 6) (V2 : g_V) (hne : r2 ≠ r) (hM2 : M r2 = V2) (r2k : Nat) (hr2k : r2k < 5) : g_Cv l yX0_copyFrom cX0_copyFrom 2 none rm_X0_copyFrom D tb ad [.ref (ad r (7 + i)), .ref (ad r2 (7 + r2k))] P (va_up M r V) P (va_up M r (q_copyBin V V2 i r2k)) := by
  refine g_go (by decide) (Nat.le_of_ble_eq_true rfl) hj ?_
  intro p e s m below meth c ls H locs R args Q hR0 hQ hx hb hml hr0 hlk hown hts hC hI hl
  subst hR0
  have hown : s.vm.findClass RX0 = some m.cls := hown
  have hl : lv_has ls 2 [(0, .ref (ad r (7 + i))), (1, .ref (ad r2 (7 + r2k)))] := hl
  refine lv_aload_n hx hb dX0_copyFrom_0 rfl (lv_at hl 0 rfl) ?_
  refine lv_aload_n hx hb dX0_copyFrom_1 rfl (lv_at hl 1 rfl) ?_
  refine g_get 0 hx hb hts hown hC hI i_X0 (ok_bin hr2 hr2k) (e_bin hr2 hr2k ((va_up_ne M _ hne).trans hM2)) rfl (by decide) qf_X0_7 rfl rfl dX0_copyFrom_2 ?_
  refine g_put 0 (ty := .int) hx hb hts hown hC hI i_X0 tyX0_ok nmX0 (ok_bin hr hi) (e_bin hr hi g_us) rfl (by decide) qf_X0_7 rfl rfl rfl rfl rfl (Nat.le_of_ble_eq_true rfl) (p_bin hr hi (by decide)) g_hs dX0_copyFrom_5 (fun H locs hI => ?_)
  refine lv_aload_n hx hb dX0_copyFrom_8 rfl (lv_at hl 0 rfl) ?_
  refine lv_aload_n hx hb dX0_copyFrom_9 rfl (lv_at hl 1 rfl) ?_
  refine g_get 1 hx hb hts hown hC hI i_X0 (ok_bin hr2 hr2k) (e_bin hr2 hr2k ((va_up_ne M _ hne).trans hM2)) rfl (by decide) qf_X0_13 rfl rfl dX0_copyFrom_10 ?_
  refine g_put 1 (ty := .int) hx hb hts hown hC hI i_X0 tyX0_ok nmX0 (ok_bin hr hi) (e_bin hr hi g_us) rfl (by decide) qf_X0_13 rfl rfl rfl rfl rfl (Nat.le_of_ble_eq_true rfl) (p_bin hr hi (by decide)) g_hs dX0_copyFrom_13 (fun H locs hI => ?_)
  exact g_vr hQ hx hb hr0 hlk hC hI dX0_copyFrom_16 rfl (by rfl)
abbrev rm_X1_copyFrom : Room := { frames := 1, cells := 0, slots := 0, locals := 24 }
set_option maxHeartbeats 800000 in
set_option maxRecDepth 100000 in
theorem c_X1_copyFrom (l : Launch) (D : va_G) (tb : g_T) (ad : g_Ad) (hj : g_inj ad) (P : g_P) (M : g_M) (r : Nat) (hr : r < 6) (V : g_V) (i : Nat) (hi : i < 16) (r2 : Nat) (hr2 : r2 < 6) (V2 : g_V) (hne : r2 ≠ r) (hM2 : M r2 = V2) (r2k : Nat) (hr2k : r2k < 16) : g_Cv l yX1_copyFrom cX1_copyFrom 2 none rm_X1_copyFrom D tb ad [.ref (ad r (12 + i)), .ref (ad r2 (12 + r2k))] P (va_up M r V) P (va_up M r (q_copyRec V V2 i r2k)) := by
  refine g_go (by decide) (Nat.le_of_ble_eq_true rfl) hj ?_
  intro p e s m below meth c ls H locs R args Q hR0 hQ hx hb hml hr0 hlk hown hts hC hI hl
  subst hR0
  have hown : s.vm.findClass RX1 = some m.cls := hown
  have hl : lv_has ls 2 [(0, .ref (ad r (12 + i))), (1, .ref (ad r2 (12 + r2k)))] := hl
  refine lv_aload_n hx hb dX1_copyFrom_0 rfl (lv_at hl 0 rfl) ?_
  refine lv_aload_n hx hb dX1_copyFrom_1 rfl (lv_at hl 1 rfl) ?_
  refine g_get 0 hx hb hts hown hC hI i_X1 (ok_rec hr2 hr2k) (e_rec hr2 hr2k ((va_up_ne M _ hne).trans hM2)) rfl (by decide) qf_X1_9 rfl rfl dX1_copyFrom_2 ?_
  refine lv_aload_n hx hb dX1_copyFrom_5 rfl (lv_at hl 1 rfl) ?_
  refine g_get 1 hx hb hts hown hC hI i_X1 (ok_rec hr2 hr2k) (e_rec hr2 hr2k ((va_up_ne M _ hne).trans hM2)) rfl (by decide) qf_X1_21 rfl rfl dX1_copyFrom_6 ?_
  refine lv_aload_n hx hb dX1_copyFrom_9 rfl (lv_at hl 1 rfl) ?_
  refine g_get 2 hx hb hts hown hC hI i_X1 (ok_rec hr2 hr2k) (e_rec hr2 hr2k ((va_up_ne M _ hne).trans hM2)) rfl (by decide) qf_X1_24 rfl rfl dX1_copyFrom_10 ?_
  refine lv_aload_n hx hb dX1_copyFrom_13 rfl (lv_at hl 1 rfl) ?_
  refine g_get 3 hx hb hts hown hC hI i_X1 (ok_rec hr2 hr2k) (e_rec hr2 hr2k ((va_up_ne M _ hne).trans hM2)) rfl (by decide) qf_X1_27 rfl rfl dX1_copyFrom_14 ?_
  refine g_callVv (rest := []) (c_X1_use l D tb ad hj P M r hr V i hi (V2 (12 + r2k) 0) (V2 (12 + r2k) 1) (V2 (12 + r2k) 2) (V2 (12 + r2k) 3)) rfl rfl gm_X1_use hx hb hml hown hts hC hI (ok_rec hr hi) (e_rec hr hi g_us) rfl rfl qm_X1_30 rfl hl.1 rfl ⟨rfl, rfl, by decide, by decide⟩ (Nat.le_of_ble_eq_true rfl) ⟨Nat.zero_le _, Nat.zero_le _⟩ dX1_copyFrom_17 (fun H locs hI => ?_)
  refine lv_aload_n hx hb dX1_copyFrom_20 rfl (lv_at hl 0 rfl) ?_
  refine lv_aload_n hx hb dX1_copyFrom_21 rfl (lv_at hl 1 rfl) ?_
  refine g_get 4 hx hb hts hown hC hI i_X1 (ok_rec hr2 hr2k) (e_rec hr2 hr2k ((va_up_ne M _ hne).trans hM2)) rfl (by decide) qf_X1_15 rfl rfl dX1_copyFrom_22 ?_
  refine g_put 4 (ty := .int) hx hb hts hown hC hI i_X1 tyX1_ok nmX1 (ok_rec hr hi) (e_rec hr hi g_us) rfl (by decide) qf_X1_15 rfl rfl rfl rfl rfl (Nat.le_of_ble_eq_true rfl) (p_rec hr hi (by decide)) g_hs dX1_copyFrom_25 (fun H locs hI => ?_)
  refine lv_aload_n hx hb dX1_copyFrom_28 rfl (lv_at hl 0 rfl) ?_
  refine lv_aload_n hx hb dX1_copyFrom_29 rfl (lv_at hl 1 rfl) ?_
  refine g_get 5 hx hb hts hown hC hI i_X1 (ok_rec hr2 hr2k) (e_rec hr2 hr2k ((va_up_ne M _ hne).trans hM2)) rfl (by decide) qf_X1_37 rfl rfl dX1_copyFrom_30 ?_
  refine g_put 5 (ty := .int) hx hb hts hown hC hI i_X1 tyX1_ok nmX1 (ok_rec hr hi) (e_rec hr hi g_us) rfl (by decide) qf_X1_37 rfl rfl rfl rfl rfl (Nat.le_of_ble_eq_true rfl) (p_rec hr hi (by decide)) g_hs dX1_copyFrom_33 (fun H locs hI => ?_)
  refine lv_aload_n hx hb dX1_copyFrom_36 rfl (lv_at hl 0 rfl) ?_
  refine lv_aload_n hx hb dX1_copyFrom_37 rfl (lv_at hl 1 rfl) ?_
  refine g_get 6 hx hb hts hown hC hI i_X1 (ok_rec hr2 hr2k) (e_rec hr2 hr2k ((va_up_ne M _ hne).trans hM2)) rfl (by decide) qf_X1_18 rfl rfl dX1_copyFrom_38 ?_
  refine g_put 6 (ty := .int) hx hb hts hown hC hI i_X1 tyX1_ok nmX1 (ok_rec hr hi) (e_rec hr hi g_us) rfl (by decide) qf_X1_18 rfl rfl rfl rfl rfl (Nat.le_of_ble_eq_true rfl) (p_rec hr hi (by decide)) g_hs dX1_copyFrom_41 (fun H locs hI => ?_)
  exact g_vr hQ hx hb hr0 hlk hC hI dX1_copyFrom_44 rfl (by rfl)
abbrev rm_X3_copyFrom : Room := { frames := 2, cells := 0, slots := 0, locals := 45 }
set_option maxHeartbeats 800000 in
set_option maxRecDepth 100000 in
theorem c_X3_copyFrom (l : Launch) (D : va_G) (tb : g_T) (ad : g_Ad) (hj : g_inj ad) (P : g_P) (M : g_M) (r : Nat) (hr : r < 6) (V : g_V) (r2 : Nat) (hr2 : r2 < 6) (V2 : g_V) (hne : r2 ≠ r) (hM2 : M r2 = V2) : g_Cv l yX3_copyFrom cX3_copyFrom 3 none rm_X3_copyFrom D tb ad [.ref (ad r 0), .ref (ad r2 0)] P (va_up M r V) P (va_up M r (q_copy V V2)) := by
  refine g_go (by decide) (Nat.le_of_ble_eq_true rfl) hj ?_
  intro p e s m below meth c ls H locs R args Q hR0 hQ hx hb hml hr0 hlk hown hts hC hI hl
  subst hR0
  have hown : s.vm.findClass RX3 = some m.cls := hown
  have hl : lv_has ls 3 [(0, .ref (ad r 0)), (1, .ref (ad r2 0))] := hl
  refine lv_iconst (v := 0) hx hb dX3_copyFrom_0 (by decide) ?_
  refine lv_istore_n (lv' := [(2, .int 0), (0, .ref (ad r 0)), (1, .ref (ad r2 0))]) hx hb dX3_copyFrom_1 rfl hl (by decide) rfl (fun ls hl => ?_)
  have lp2 : ∀ (d k : Nat) (Vx : g_V), k ≤ 5 → 5 < k + d → Vx = k_iter (q_cpBins V2) V k → ∀ (H : Heap) (locs : List Loc) (ls : Array Slot), g_I D tb ad (g_A ad) s H locs P (va_up M r Vx) → lv_has ls 3 [(2, .int (nI k)), (0, .ref (ad r 0)), (1, .ref (ad r2 0))] → W p l e rm_X3_copyFrom s m args below meth c H locs 0 0 Q (F0 m 2 ls []) := by
    intro d
    induction d with
    | zero => intro k Vx hkp hfu; intros; omega
    | succ d ih2 =>
      intro k Vx hkp hfu e_Vx H locs ls hI hl
      refine lv_iload_n hx hb dX3_copyFrom_2 rfl (lv_at hl 0 rfl) ?_
      refine lv_iconst (v := 5) hx hb dX3_copyFrom_3 (by decide) ?_
      refine lv_icmp_ge (tgt := 28) hx hb dX3_copyFrom_4 (by decide) (fun c1 => ?_) (fun c1 => ?_)
      · have c1n : 5 ≤ k := (nI_leI (a := 5) (b := k) (by omega) (by omega)).mp c1
        refine lv_iconst (v := 0) hx hb dX3_copyFrom_28 (by decide) ?_
        refine lv_istore_n (lv' := [(2, .int 0), (0, .ref (ad r 0)), (1, .ref (ad r2 0))]) hx hb dX3_copyFrom_29 rfl hl (by decide) rfl (fun ls hl => ?_)
        have lp30 : ∀ (d j : Nat) (Vy : g_V), j ≤ 16 → 16 < j + d → Vy = k_iter (q_cpRecs V2) Vx j → ∀ (H : Heap) (locs : List Loc) (ls : Array Slot), g_I D tb ad (g_A ad) s H locs P (va_up M r Vy) → lv_has ls 3 [(2, .int (nI j)), (0, .ref (ad r 0)), (1, .ref (ad r2 0))] → W p l e rm_X3_copyFrom s m args below meth c H locs 0 0 Q (F0 m 30 ls []) := by
          intro d
          induction d with
          | zero => intro j Vy hkp hfu; intros; omega
          | succ d ih30 =>
            intro j Vy hkp hfu e_Vy H locs ls hI hl
            refine lv_iload_n hx hb dX3_copyFrom_30 rfl (lv_at hl 0 rfl) ?_
            refine lv_bipush (v := 16) hx hb dX3_copyFrom_31 (by decide) ?_
            refine lv_icmp_ge (tgt := 57) hx hb dX3_copyFrom_33 (by decide) (fun c2 => ?_) (fun c2 => ?_)
            · have c2n : 16 ≤ j := (nI_leI (a := 16) (b := j) (by omega) (by omega)).mp c2
              refine lv_aload_n hx hb dX3_copyFrom_57 rfl (lv_at hl 2 rfl) ?_
              refine g_get 2 hx hb hts hown hC hI i_X3 (ok_c 0 hr2 (by decide)) (e_st hr2 ((va_up_ne M _ hne).trans hM2)) rfl (by decide) qf_X3_23 rfl rfl dX3_copyFrom_58 ?_
              refine lv_iconst (v := 0) hx hb dX3_copyFrom_61 (by decide) ?_
              refine lv_aload_n hx hb dX3_copyFrom_62 rfl (lv_at hl 1 rfl) ?_
              refine g_get 2 hx hb hts hown hC hI i_X3 (ok_c 0 hr (by decide)) (e_st hr g_us) rfl (by decide) qf_X3_23 rfl rfl dX3_copyFrom_63 ?_
              refine lv_iconst (v := 0) hx hb dX3_copyFrom_66 (by decide) ?_
              refine lv_iconst (v := 3) hx hb dX3_copyFrom_67 (by decide) ?_
              refine g_acopy hx hb (hml.trans hl.1.symm) hts hown hC hI qm_X3_49 (ok_c 3 hr (by decide)) (ok_c 3 hr2 (by decide)) (e_pr hr2 ((va_up_ne M _ hne).trans hM2)) (fun W => e_pr hr g_us) (by decide) rfl (by decide) (Nat.le_of_ble_eq_true rfl) dX3_copyFrom_68 (fun H locs hI => ?_)
              refine lv_aload_n hx hb dX3_copyFrom_71 rfl (lv_at hl 2 rfl) ?_
              refine g_get 3 hx hb hts hown hC hI i_X3 (ok_c 0 hr2 (by decide)) (e_st hr2 ((va_up_ne M _ hne).trans hM2)) rfl (by decide) qf_X3_27 rfl rfl dX3_copyFrom_72 ?_
              refine lv_iconst (v := 0) hx hb dX3_copyFrom_75 (by decide) ?_
              refine lv_aload_n hx hb dX3_copyFrom_76 rfl (lv_at hl 1 rfl) ?_
              refine g_get 3 hx hb hts hown hC hI i_X3 (ok_c 0 hr (by decide)) (e_st hr g_us) rfl (by decide) qf_X3_27 rfl rfl dX3_copyFrom_77 ?_
              refine lv_iconst (v := 0) hx hb dX3_copyFrom_80 (by decide) ?_
              refine lv_iconst (v := 4) hx hb dX3_copyFrom_81 (by decide) ?_
              refine g_acopy hx hb (hml.trans hl.1.symm) hts hown hC hI qm_X3_49 (ok_c 4 hr (by decide)) (ok_c 4 hr2 (by decide)) (e_se hr2 ((va_up_ne M _ hne).trans hM2)) (fun W => e_se hr g_us) (by decide) rfl (by decide) (Nat.le_of_ble_eq_true rfl) dX3_copyFrom_82 (fun H locs hI => ?_)
              refine lv_aload_n hx hb dX3_copyFrom_85 rfl (lv_at hl 2 rfl) ?_
              refine g_get 4 hx hb hts hown hC hI i_X3 (ok_c 0 hr2 (by decide)) (e_st hr2 ((va_up_ne M _ hne).trans hM2)) rfl (by decide) qf_X3_30 rfl rfl dX3_copyFrom_86 ?_
              refine lv_iconst (v := 0) hx hb dX3_copyFrom_89 (by decide) ?_
              refine lv_aload_n hx hb dX3_copyFrom_90 rfl (lv_at hl 1 rfl) ?_
              refine g_get 4 hx hb hts hown hC hI i_X3 (ok_c 0 hr (by decide)) (e_st hr g_us) rfl (by decide) qf_X3_30 rfl rfl dX3_copyFrom_91 ?_
              refine lv_iconst (v := 0) hx hb dX3_copyFrom_94 (by decide) ?_
              refine lv_bipush (v := 8) hx hb dX3_copyFrom_95 (by decide) ?_
              refine g_acopy hx hb (hml.trans hl.1.symm) hts hown hC hI qm_X3_49 (ok_c 5 hr (by decide)) (ok_c 5 hr2 (by decide)) (e_mo hr2 ((va_up_ne M _ hne).trans hM2)) (fun W => e_mo hr g_us) (by decide) rfl (by decide) (Nat.le_of_ble_eq_true rfl) dX3_copyFrom_97 (fun H locs hI => ?_)
              refine lv_aload_n hx hb dX3_copyFrom_100 rfl (lv_at hl 2 rfl) ?_
              refine g_get 5 hx hb hts hown hC hI i_X3 (ok_c 0 hr2 (by decide)) (e_st hr2 ((va_up_ne M _ hne).trans hM2)) rfl (by decide) qf_X3_33 rfl rfl dX3_copyFrom_101 ?_
              refine lv_iconst (v := 0) hx hb dX3_copyFrom_104 (by decide) ?_
              refine lv_aload_n hx hb dX3_copyFrom_105 rfl (lv_at hl 1 rfl) ?_
              refine g_get 5 hx hb hts hown hC hI i_X3 (ok_c 0 hr (by decide)) (e_st hr g_us) rfl (by decide) qf_X3_33 rfl rfl dX3_copyFrom_106 ?_
              refine lv_iconst (v := 0) hx hb dX3_copyFrom_109 (by decide) ?_
              refine lv_iconst (v := 3) hx hb dX3_copyFrom_110 (by decide) ?_
              refine g_acopy hx hb (hml.trans hl.1.symm) hts hown hC hI qm_X3_49 (ok_c 6 hr (by decide)) (ok_c 6 hr2 (by decide)) (e_sz hr2 ((va_up_ne M _ hne).trans hM2)) (fun W => e_sz hr g_us) (by decide) rfl (by decide) (Nat.le_of_ble_eq_true rfl) dX3_copyFrom_111 (fun H locs hI => ?_)
              refine lv_aload_n hx hb dX3_copyFrom_114 rfl (lv_at hl 1 rfl) ?_
              refine lv_aload_n hx hb dX3_copyFrom_115 rfl (lv_at hl 2 rfl) ?_
              refine g_get 6 hx hb hts hown hC hI i_X3 (ok_c 0 hr2 (by decide)) (e_st hr2 ((va_up_ne M _ hne).trans hM2)) rfl (by decide) qf_X3_55 rfl rfl dX3_copyFrom_116 ?_
              refine g_put 6 (ty := .int) hx hb hts hown hC hI i_X3 tyX3_ok nmX3 (ok_c 0 hr (by decide)) (e_st hr g_us) rfl (by decide) qf_X3_55 rfl rfl rfl rfl rfl (Nat.le_of_ble_eq_true rfl) (p_st hr (by decide)) g_hs dX3_copyFrom_119 (fun H locs hI => ?_)
              refine lv_aload_n hx hb dX3_copyFrom_122 rfl (lv_at hl 1 rfl) ?_
              refine lv_aload_n hx hb dX3_copyFrom_123 rfl (lv_at hl 2 rfl) ?_
              refine g_get 7 hx hb hts hown hC hI i_X3 (ok_c 0 hr2 (by decide)) (e_st hr2 ((va_up_ne M _ hne).trans hM2)) rfl (by decide) qf_X3_58 rfl rfl dX3_copyFrom_124 ?_
              refine g_put 7 (ty := .int) hx hb hts hown hC hI i_X3 tyX3_ok nmX3 (ok_c 0 hr (by decide)) (e_st hr g_us) rfl (by decide) qf_X3_58 rfl rfl rfl rfl rfl (Nat.le_of_ble_eq_true rfl) (p_st hr (by decide)) g_hs dX3_copyFrom_127 (fun H locs hI => ?_)
              refine lv_aload_n hx hb dX3_copyFrom_130 rfl (lv_at hl 1 rfl) ?_
              refine lv_aload_n hx hb dX3_copyFrom_131 rfl (lv_at hl 2 rfl) ?_
              refine g_get 8 hx hb hts hown hC hI i_X3 (ok_c 0 hr2 (by decide)) (e_st hr2 ((va_up_ne M _ hne).trans hM2)) rfl (by decide) qf_X3_61 rfl rfl dX3_copyFrom_132 ?_
              refine g_put 8 (ty := .int) hx hb hts hown hC hI i_X3 tyX3_ok nmX3 (ok_c 0 hr (by decide)) (e_st hr g_us) rfl (by decide) qf_X3_61 rfl rfl rfl rfl rfl (Nat.le_of_ble_eq_true rfl) (p_st hr (by decide)) g_hs dX3_copyFrom_135 (fun H locs hI => ?_)
              refine lv_aload_n hx hb dX3_copyFrom_138 rfl (lv_at hl 1 rfl) ?_
              refine lv_aload_n hx hb dX3_copyFrom_139 rfl (lv_at hl 2 rfl) ?_
              refine g_get 9 hx hb hts hown hC hI i_X3 (ok_c 0 hr2 (by decide)) (e_st hr2 ((va_up_ne M _ hne).trans hM2)) rfl (by decide) qf_X3_64 rfl rfl dX3_copyFrom_140 ?_
              refine g_put 9 (ty := .int) hx hb hts hown hC hI i_X3 tyX3_ok nmX3 (ok_c 0 hr (by decide)) (e_st hr g_us) rfl (by decide) qf_X3_64 rfl rfl rfl rfl rfl (Nat.le_of_ble_eq_true rfl) (p_st hr (by decide)) g_hs dX3_copyFrom_143 (fun H locs hI => ?_)
              refine lv_aload_n hx hb dX3_copyFrom_146 rfl (lv_at hl 1 rfl) ?_
              refine lv_aload_n hx hb dX3_copyFrom_147 rfl (lv_at hl 2 rfl) ?_
              refine g_get 10 hx hb hts hown hC hI i_X3 (ok_c 0 hr2 (by decide)) (e_st hr2 ((va_up_ne M _ hne).trans hM2)) rfl (by decide) qf_X3_67 rfl rfl dX3_copyFrom_148 ?_
              refine g_put 10 (ty := .int) hx hb hts hown hC hI i_X3 tyX3_ok nmX3 (ok_c 0 hr (by decide)) (e_st hr g_us) rfl (by decide) qf_X3_67 rfl rfl rfl rfl rfl (Nat.le_of_ble_eq_true rfl) (p_st hr (by decide)) g_hs dX3_copyFrom_151 (fun H locs hI => ?_)
              exact g_vr hQ hx hb hr0 hlk hC hI dX3_copyFrom_154 rfl (by have hA : q_copyA V V2 = Vy := (by unfold q_copyA; rw [e_Vy, show j = 16 from (by omega), e_Vx, show k = 5 from (by omega)]); rw [q_copy, q_copyB, hA]; unfold q_cpRow; with_reducible rfl)
            · have c2n : ¬ 16 ≤ j := fun z => c2 ((nI_leI (a := 16) (b := j) (by omega) (by omega)).mpr z)
              refine lv_aload_n hx hb dX3_copyFrom_36 rfl (lv_at hl 1 rfl) ?_
              refine g_get 1 hx hb hts hown hC hI i_X3 (ok_c 0 hr (by decide)) (e_st hr g_us) rfl (by decide) qf_X3_19 rfl rfl dX3_copyFrom_37 ?_
              refine lv_iload_n hx hb dX3_copyFrom_40 rfl (lv_at hl 0 rfl) ?_
              refine g_aald 3 j hx hb hC hI (ok_c 2 hr (by decide)) (e_recs hr) rfl (vp_in_nI (by omega) (by decide)) (nI_clamp (by omega)) dX3_copyFrom_41 ?_
              have hk3 : j < 16 := (by omega)
              refine lv_aload_n hx hb dX3_copyFrom_42 rfl (lv_at hl 2 rfl) ?_
              refine g_get 1 hx hb hts hown hC hI i_X3 (ok_c 0 hr2 (by decide)) (e_st hr2 ((va_up_ne M _ hne).trans hM2)) rfl (by decide) qf_X3_19 rfl rfl dX3_copyFrom_43 ?_
              refine lv_iload_n hx hb dX3_copyFrom_46 rfl (lv_at hl 0 rfl) ?_
              refine g_aald 3 j hx hb hC hI (ok_c 2 hr2 (by decide)) (e_recs hr2) rfl (vp_in_nI (by omega) (by decide)) (nI_clamp (by omega)) dX3_copyFrom_47 ?_
              have hk4 : j < 16 := (by omega)
              refine g_callVv (rest := []) (c_X1_copyFrom l D tb ad hj P M r hr Vy j hk3 r2 hr2 V2 hne hM2 j hk4) rfl rfl gm_X1_copyFrom hx hb hml hown hts hC hI (ok_rec hr hk3) (e_rec hr hk3 g_us) rfl rfl qm_X3_46 rfl hl.1 rfl ⟨rfl, rfl, by decide, by decide⟩ (Nat.le_of_ble_eq_true rfl) ⟨Nat.zero_le _, Nat.zero_le _⟩ dX3_copyFrom_48 (fun H locs hI => ?_)
              refine lv_iinc (v := nI (j + 1)) (lv' := [(2, .int (nI (j + 1))), (0, .ref (ad r 0)), (1, .ref (ad r2 0))]) hx hb dX3_copyFrom_51 hl (k := 0) rfl (nI_1 _) (by decide) rfl (fun ls hl => ?_)
              refine lv_goto (tgt := 30) hx hb dX3_copyFrom_54 (by decide) ?_
              exact ih30 (j + 1) _ (by omega) (by omega) (by rw [k_iter, ← e_Vy]; rfl)  _ _ _ hI (lv_sub hl [0, 1, 2] rfl)
        exact lp30 (16 + 1) 0 _ (by omega) (by omega) rfl  _ _ _ hI (lv_sub hl [0, 1, 2] rfl)
      · have c1n : ¬ 5 ≤ k := fun z => c1 ((nI_leI (a := 5) (b := k) (by omega) (by omega)).mpr z)
        refine lv_aload_n hx hb dX3_copyFrom_7 rfl (lv_at hl 1 rfl) ?_
        refine g_get 0 hx hb hts hown hC hI i_X3 (ok_c 0 hr (by decide)) (e_st hr g_us) rfl (by decide) qf_X3_11 rfl rfl dX3_copyFrom_8 ?_
        refine lv_iload_n hx hb dX3_copyFrom_11 rfl (lv_at hl 0 rfl) ?_
        refine g_aald 2 k hx hb hC hI (ok_c 1 hr (by decide)) (e_bins hr) rfl (vp_in_nI (by omega) (by decide)) (nI_clamp (by omega)) dX3_copyFrom_12 ?_
        have hk5 : k < 5 := (by omega)
        refine lv_aload_n hx hb dX3_copyFrom_13 rfl (lv_at hl 2 rfl) ?_
        refine g_get 0 hx hb hts hown hC hI i_X3 (ok_c 0 hr2 (by decide)) (e_st hr2 ((va_up_ne M _ hne).trans hM2)) rfl (by decide) qf_X3_11 rfl rfl dX3_copyFrom_14 ?_
        refine lv_iload_n hx hb dX3_copyFrom_17 rfl (lv_at hl 0 rfl) ?_
        refine g_aald 2 k hx hb hC hI (ok_c 1 hr2 (by decide)) (e_bins hr2) rfl (vp_in_nI (by omega) (by decide)) (nI_clamp (by omega)) dX3_copyFrom_18 ?_
        have hk6 : k < 5 := (by omega)
        refine g_callVv (rest := []) (c_X0_copyFrom l D tb ad hj P M r hr Vx k hk5 r2 hr2 V2 hne hM2 k hk6) rfl rfl gm_X0_copyFrom hx hb hml hown hts hC hI (ok_bin hr hk5) (e_bin hr hk5 g_us) rfl rfl qm_X3_42 rfl hl.1 rfl ⟨rfl, rfl, by decide, by decide⟩ (Nat.le_of_ble_eq_true rfl) ⟨Nat.zero_le _, Nat.zero_le _⟩ dX3_copyFrom_19 (fun H locs hI => ?_)
        refine lv_iinc (v := nI (k + 1)) (lv' := [(2, .int (nI (k + 1))), (0, .ref (ad r 0)), (1, .ref (ad r2 0))]) hx hb dX3_copyFrom_22 hl (k := 0) rfl (nI_1 _) (by decide) rfl (fun ls hl => ?_)
        refine lv_goto (tgt := 2) hx hb dX3_copyFrom_25 (by decide) ?_
        exact ih2 (k + 1) _ (by omega) (by omega) (by rw [k_iter, ← e_Vx]; rfl)  _ _ _ hI (lv_sub hl [0, 1, 2] rfl)
  exact lp2 (5 + 1) 0 _ (by omega) (by omega) rfl  _ _ _ hI (lv_sub hl [0, 1, 2] rfl)
abbrev rm_X3_changeSetting : Room := { frames := 1, cells := 0, slots := 0, locals := 20 }
set_option maxHeartbeats 800000 in
set_option maxRecDepth 100000 in
theorem c_X3_changeSetting (l : Launch) (D : va_G) (tb : g_T) (ad : g_Ad) (hj : g_inj ad) (P : g_P) (M : g_M) (r : Nat) (hr : r < 6) (V : g_V) (x : Int32) (y : Int32) : g_Ci l yX3_changeSetting cX3_changeSetting 4 (some .int) rm_X3_changeSetting D tb ad [.ref (ad r 0), .int x, .int y] P (va_up M r V) ((q_set V x y).1) P (va_up M r ((q_set V x y).2)) := by
  refine g_go (by decide) (Nat.le_of_ble_eq_true rfl) hj ?_
  intro p e s m below meth c ls H locs R args Q hR0 hQ hx hb hml hr0 hlk hown hts hC hI hl
  subst hR0
  have hown : s.vm.findClass RX3 = some m.cls := hown
  have hl : lv_has ls 4 [(0, .ref (ad r 0)), (1, .int x), (2, .int y)] := hl
  refine lv_iload_n hx hb dX3_changeSetting_0 rfl (lv_at hl 1 rfl) ?_
  refine g_callNi (rest := []) (c_X4_isSetting l D tb ad hj P (va_up M r V) x) rfl rfl gm_X4_isSetting hx hb hml hown hts hC hI qN_X3_176 rfl hl.1 rfl ⟨rfl, rfl, by decide, by decide⟩ (Nat.le_of_ble_eq_true rfl) ⟨Nat.zero_le _, Nat.zero_le _⟩ dX3_changeSetting_1 (fun H locs hI => ?_)
  refine g_tf (fun c1 => ?_) (fun c1 => ?_)
  · refine lv_if_eq (tgt := 25) hx hb dX3_changeSetting_4 (by decide) (fun c2 => absurd c2 (by decide)) (fun _ => ?_)
    refine lv_iload_n hx hb dX3_changeSetting_7 rfl (lv_at hl 2 rfl) ?_
    refine g_stat hx hb hown hC hI hC.2.2.1.1 qN_X3_179 dX3_changeSetting_8 (hk := lv_at hl 1 rfl) (hk4 := 1) rfl dX3_changeSetting_11 dX3_changeSetting_12 (k_vin c1 rfl) ?_
    refine lv_icmp_lt (tgt := 25) hx hb dX3_changeSetting_13 (by decide) (fun c3 => ?_) (fun c3 => ?_)
    · refine lv_ldc (v := (-2000000001)) hx hb hown (hts _ qc_X3_74) dX3_changeSetting_25 ?_
      exact g_ir hQ hx hb hr0 hlk hC hI dX3_changeSetting_27 rfl (by unfold q_set; (first | rw [if_pos c1] | rw [if_neg c1] | skip); (first | rw [if_pos c3] | rw [if_neg c3] | skip); try with_reducible rfl) rfl (by unfold q_set; (first | rw [if_pos c1] | rw [if_neg c1] | skip); (first | rw [if_pos c3] | rw [if_neg c3] | skip); try with_reducible rfl)
    · refine lv_iload_n hx hb dX3_changeSetting_16 rfl (lv_at hl 2 rfl) ?_
      refine g_stat hx hb hown hC hI hC.2.2.1.2 qN_X3_182 dX3_changeSetting_17 (hk := lv_at hl 1 rfl) (hk4 := 1) rfl dX3_changeSetting_20 dX3_changeSetting_21 (k_vin c1 rfl) ?_
      refine lv_icmp_le (tgt := 28) hx hb dX3_changeSetting_22 (by decide) (fun c4 => ?_) (fun c4 => ?_)
      · refine lv_aload_n hx hb dX3_changeSetting_28 rfl (lv_at hl 0 rfl) ?_
        refine g_get 3 hx hb hts hown hC hI i_X3 (ok_c 0 hr (by decide)) (e_st hr g_us) rfl (by decide) qf_X3_27 rfl rfl dX3_changeSetting_29 ?_
        refine lv_iload_n hx hb dX3_changeSetting_32 rfl (lv_at hl 1 rfl) ?_
        refine g_iald x.toNatClampNeg hx hb hC hI (ok_c 4 hr (by decide)) (e_se hr g_us) (k_vin c1 rfl) rfl dX3_changeSetting_33 ?_
        refine lv_istore_n (lv' := [(3, .int (V 4 x.toNatClampNeg)), (0, .ref (ad r 0)), (1, .int x), (2, .int y)]) hx hb dX3_changeSetting_34 rfl hl (by decide) rfl (fun ls hl => ?_)
        refine lv_aload_n hx hb dX3_changeSetting_35 rfl (lv_at hl 1 rfl) ?_
        refine g_get 3 hx hb hts hown hC hI i_X3 (ok_c 0 hr (by decide)) (e_st hr g_us) rfl (by decide) qf_X3_27 rfl rfl dX3_changeSetting_36 ?_
        refine lv_iload_n hx hb dX3_changeSetting_39 rfl (lv_at hl 2 rfl) ?_
        refine lv_iload_n hx hb dX3_changeSetting_40 rfl (lv_at hl 3 rfl) ?_
        refine g_iast x.toNatClampNeg hx hb hC hI (ok_c 4 hr (by decide)) (e_se hr g_us) (k_vin c1 rfl) rfl (p_se hr) g_hs dX3_changeSetting_41 (fun H locs hI => ?_)
        refine lv_iload_n hx hb dX3_changeSetting_42 rfl (lv_at hl 0 rfl) ?_
        exact g_ir hQ hx hb hr0 hlk hC hI dX3_changeSetting_43 rfl (by unfold q_set; (first | rw [if_pos c1] | rw [if_neg c1] | skip); (first | rw [if_pos c3] | rw [if_neg c3] | skip); (first | rw [if_pos c4] | rw [if_neg c4] | skip); try with_reducible rfl) rfl (by unfold q_set; (first | rw [if_pos c1] | rw [if_neg c1] | skip); (first | rw [if_pos c3] | rw [if_neg c3] | skip); (first | rw [if_pos c4] | rw [if_neg c4] | skip); try with_reducible rfl)
      · refine lv_ldc (v := (-2000000001)) hx hb hown (hts _ qc_X3_74) dX3_changeSetting_25 ?_
        exact g_ir hQ hx hb hr0 hlk hC hI dX3_changeSetting_27 rfl (by unfold q_set; (first | rw [if_pos c1] | rw [if_neg c1] | skip); (first | rw [if_pos c3] | rw [if_neg c3] | skip); (first | rw [if_pos c4] | rw [if_neg c4] | skip); try with_reducible rfl) rfl (by unfold q_set; (first | rw [if_pos c1] | rw [if_neg c1] | skip); (first | rw [if_pos c3] | rw [if_neg c3] | skip); (first | rw [if_pos c4] | rw [if_neg c4] | skip); try with_reducible rfl)
  · refine lv_if_eq (tgt := 25) hx hb dX3_changeSetting_4 (by decide) (fun _ => ?_) (fun c5 => absurd c5 (by decide))
    refine lv_ldc (v := (-2000000001)) hx hb hown (hts _ qc_X3_74) dX3_changeSetting_25 ?_
    exact g_ir hQ hx hb hr0 hlk hC hI dX3_changeSetting_27 rfl (by unfold q_set; (first | rw [if_pos c1] | rw [if_neg c1] | skip); try with_reducible rfl) rfl (by unfold q_set; (first | rw [if_pos c1] | rw [if_neg c1] | skip); try with_reducible rfl)
