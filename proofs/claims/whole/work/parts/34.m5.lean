abbrev rm_X5_called : Room := { frames := 6, cells := 0, slots := 0, locals := 131 }
set_option maxHeartbeats 800000 in
set_option maxRecDepth 100000 in
theorem c_X5_called (l : Launch) (D : va_G) (tb : g_T) (ad : g_Ad) (hj : g_inj ad) (P : g_P) (M : g_M) (V : g_V) (x : Int32) (n : Nat) (hn : m_N V n) (hR : m_okR V n) (hL : m_okL V n) : g_Ci l yX5_called cX5_called 2 (some .int) rm_X5_called D tb ad [.ref (ad 7 0), .int x] P (va_up M 7 V) ((m_called V x n).1) P (va_up M 7 ((m_called V x n).2)) := by
  refine g_go (by decide) (Nat.le_of_ble_eq_true rfl) hj ?_
  intro p e s m below meth c ls H locs R args Q hR0 hQ hx hb hml hr0 hlk hown hts hC hI hl
  subst hR0
  have hown : s.vm.findClass RX5 = some m.cls := hown
  have hl : lv_has ls 2 [(0, .ref (ad 7 0)), (1, .int x)] := hl
  refine lv_iload_n hx hb dX5_called_0 rfl (lv_at hl 1 rfl) ?_
  by_cases c1 : x = 99
  · refine lv_lookup (tgt := 115) (off := 114) hx hb dX5_called_1 (by decide) (by rw [c1] <;> rfl) (by decide) ?_
    refine lv_aload_n hx hb dX5_called_115 rfl (lv_at hl 0 rfl) ?_
    refine lv_aload_n hx hb dX5_called_116 rfl (lv_at hl 0 rfl) ?_
    refine g_get 11 hx hb hts hown hC hI i_X5 (by decide) (e_x g_us) rfl (by decide) qf_X5_22 rfl rfl dX5_called_117 ?_
    refine lv_iconst (v := 0) hx hb dX5_called_120 (by decide) ?_
    refine g_iald 0 hx hb hC hI (by decide) (e_xn g_us) (by unfold vp_in; decide) rfl dX5_called_121 ?_
    refine g_callVi (rest := []) (c_X5_calls l D tb ad hj P M V (V 5 0) n hn) rfl rfl gm_X5_calls hx hb hml hown hts hC hI (by decide) (e_x g_us) rfl rfl qm_X5_134 rfl hl.1 rfl ⟨rfl, rfl, by decide, by decide⟩ (Nat.le_of_ble_eq_true rfl) ⟨Nat.zero_le _, Nat.zero_le _⟩ dX5_called_122 (fun H locs hI => ?_)
    exact g_ir hQ hx hb hr0 hlk hC hI dX5_called_125 rfl (by simp [m_called, c1]) rfl (by simp [m_called, c1])
  by_cases c2 : x = 100
  · refine lv_lookup (tgt := 126) (off := 125) hx hb dX5_called_1 (by decide) (by rw [c2] <;> rfl) (by decide) ?_
    refine lv_aload_n hx hb dX5_called_126 rfl (lv_at hl 0 rfl) ?_
    refine lv_aload_n hx hb dX5_called_127 rfl (lv_at hl 0 rfl) ?_
    refine g_get 11 hx hb hts hown hC hI i_X5 (by decide) (e_x g_us) rfl (by decide) qf_X5_22 rfl rfl dX5_called_128 ?_
    refine lv_iconst (v := 0) hx hb dX5_called_131 (by decide) ?_
    refine g_iald 0 hx hb hC hI (by decide) (e_xn g_us) (by unfold vp_in; decide) rfl dX5_called_132 ?_
    refine g_callVi (rest := []) (c_X5_delivers l D tb ad hj P M V (V 5 0) n hn hR) rfl rfl gm_X5_delivers hx hb hml hown hts hC hI (by decide) (e_x g_us) rfl rfl qm_X5_122 rfl hl.1 rfl ⟨rfl, rfl, by decide, by decide⟩ (Nat.le_of_ble_eq_true rfl) ⟨Nat.zero_le _, Nat.zero_le _⟩ dX5_called_133 (fun H locs hI => ?_)
    exact g_ir hQ hx hb hr0 hlk hC hI dX5_called_136 rfl (by simp [m_called, c1, c2]) rfl (by simp [m_called, c1, c2])
  by_cases c3 : x = 108
  · refine lv_lookup (tgt := 75) (off := 74) hx hb dX5_called_1 (by decide) (by rw [c3] <;> rfl) (by decide) ?_
    refine lv_aload_n hx hb dX5_called_75 rfl (lv_at hl 0 rfl) ?_
    refine lv_aload_n hx hb dX5_called_76 rfl (lv_at hl 0 rfl) ?_
    refine g_get 11 hx hb hts hown hC hI i_X5 (by decide) (e_x g_us) rfl (by decide) qf_X5_22 rfl rfl dX5_called_77 ?_
    refine lv_iconst (v := 0) hx hb dX5_called_80 (by decide) ?_
    refine g_iald 0 hx hb hC hI (by decide) (e_xn g_us) (by unfold vp_in; decide) rfl dX5_called_81 ?_
    refine lv_aload_n hx hb dX5_called_82 rfl (lv_at hl 0 rfl) ?_
    refine g_get 11 hx hb hts hown hC hI i_X5 (by decide) (e_x g_us) rfl (by decide) qf_X5_22 rfl rfl dX5_called_83 ?_
    refine lv_iconst (v := 1) hx hb dX5_called_86 (by decide) ?_
    refine g_iald 1 hx hb hC hI (by decide) (e_xn g_us) (by unfold vp_in; decide) rfl dX5_called_87 ?_
    refine lv_aload_n hx hb dX5_called_88 rfl (lv_at hl 0 rfl) ?_
    refine g_get 11 hx hb hts hown hC hI i_X5 (by decide) (e_x g_us) rfl (by decide) qf_X5_22 rfl rfl dX5_called_89 ?_
    refine lv_iconst (v := 2) hx hb dX5_called_92 (by decide) ?_
    refine g_iald 2 hx hb hC hI (by decide) (e_xn g_us) (by unfold vp_in; decide) rfl dX5_called_93 ?_
    refine g_callVi (rest := []) (c_X5_pledges l D tb ad hj P M V (V 5 0) (V 5 1) (V 5 2) n hn hR) rfl rfl gm_X5_pledges hx hb hml hown hts hC hI (by decide) (e_x g_us) rfl rfl qm_X5_125 rfl hl.1 rfl ⟨rfl, rfl, by decide, by decide⟩ (Nat.le_of_ble_eq_true rfl) ⟨Nat.zero_le _, Nat.zero_le _⟩ dX5_called_94 (fun H locs hI => ?_)
    exact g_ir hQ hx hb hr0 hlk hC hI dX5_called_97 rfl (by simp [m_called, c1, c2, c3]) rfl (by simp [m_called, c1, c2, c3])
  by_cases c4 : x = 112
  · refine lv_lookup (tgt := 98) (off := 97) hx hb dX5_called_1 (by decide) (by rw [c4] <;> rfl) (by decide) ?_
    refine lv_aload_n hx hb dX5_called_98 rfl (lv_at hl 0 rfl) ?_
    refine lv_aload_n hx hb dX5_called_99 rfl (lv_at hl 0 rfl) ?_
    refine g_get 11 hx hb hts hown hC hI i_X5 (by decide) (e_x g_us) rfl (by decide) qf_X5_22 rfl rfl dX5_called_100 ?_
    refine lv_iconst (v := 0) hx hb dX5_called_103 (by decide) ?_
    refine g_iald 0 hx hb hC hI (by decide) (e_xn g_us) (by unfold vp_in; decide) rfl dX5_called_104 ?_
    refine lv_aload_n hx hb dX5_called_105 rfl (lv_at hl 0 rfl) ?_
    refine g_get 11 hx hb hts hown hC hI i_X5 (by decide) (e_x g_us) rfl (by decide) qf_X5_22 rfl rfl dX5_called_106 ?_
    refine lv_iconst (v := 1) hx hb dX5_called_109 (by decide) ?_
    refine g_iald 1 hx hb hC hI (by decide) (e_xn g_us) (by unfold vp_in; decide) rfl dX5_called_110 ?_
    refine g_callVi (rest := []) (c_X5_prices l D tb ad hj P M V (V 5 0) (V 5 1)) rfl rfl gm_X5_prices hx hb hml hown hts hC hI (by decide) (e_x g_us) rfl rfl qm_X5_131 rfl hl.1 rfl ⟨rfl, rfl, by decide, by decide⟩ (Nat.le_of_ble_eq_true rfl) ⟨Nat.zero_le _, Nat.zero_le _⟩ dX5_called_111 (fun H locs hI => ?_)
    exact g_ir hQ hx hb hr0 hlk hC hI dX5_called_114 rfl (by simp [m_called, c1, c2, c3, c4]) rfl (by simp [m_called, c1, c2, c3, c4])
  by_cases c5 : x = 115
  · refine lv_lookup (tgt := 52) (off := 51) hx hb dX5_called_1 (by decide) (by rw [c5] <;> rfl) (by decide) ?_
    refine lv_aload_n hx hb dX5_called_52 rfl (lv_at hl 0 rfl) ?_
    refine lv_aload_n hx hb dX5_called_53 rfl (lv_at hl 0 rfl) ?_
    refine g_get 11 hx hb hts hown hC hI i_X5 (by decide) (e_x g_us) rfl (by decide) qf_X5_22 rfl rfl dX5_called_54 ?_
    refine lv_iconst (v := 0) hx hb dX5_called_57 (by decide) ?_
    refine g_iald 0 hx hb hC hI (by decide) (e_xn g_us) (by unfold vp_in; decide) rfl dX5_called_58 ?_
    refine lv_aload_n hx hb dX5_called_59 rfl (lv_at hl 0 rfl) ?_
    refine g_get 11 hx hb hts hown hC hI i_X5 (by decide) (e_x g_us) rfl (by decide) qf_X5_22 rfl rfl dX5_called_60 ?_
    refine lv_iconst (v := 1) hx hb dX5_called_63 (by decide) ?_
    refine g_iald 1 hx hb hC hI (by decide) (e_xn g_us) (by unfold vp_in; decide) rfl dX5_called_64 ?_
    refine lv_aload_n hx hb dX5_called_65 rfl (lv_at hl 0 rfl) ?_
    refine g_get 11 hx hb hts hown hC hI i_X5 (by decide) (e_x g_us) rfl (by decide) qf_X5_22 rfl rfl dX5_called_66 ?_
    refine lv_iconst (v := 2) hx hb dX5_called_69 (by decide) ?_
    refine g_iald 2 hx hb hC hI (by decide) (e_xn g_us) (by unfold vp_in; decide) rfl dX5_called_70 ?_
    refine g_callVi (rest := []) (c_X5_stores l D tb ad hj P M V (V 5 0) (V 5 1) (V 5 2) n hn) rfl rfl gm_X5_stores hx hb hml hown hts hC hI (by decide) (e_x g_us) rfl rfl qm_X5_110 rfl hl.1 rfl ⟨rfl, rfl, by decide, by decide⟩ (Nat.le_of_ble_eq_true rfl) ⟨Nat.zero_le _, Nat.zero_le _⟩ dX5_called_71 (fun H locs hI => ?_)
    exact g_ir hQ hx hb hr0 hlk hC hI dX5_called_74 rfl (by simp [m_called, c1, c2, c3, c4, c5]) rfl (by simp [m_called, c1, c2, c3, c4, c5])
  refine lv_lookup (tgt := 137) (off := 136) hx hb dX5_called_1 (by decide) (by have c1i := k_ti c1 (k := 99) rfl; have c2i := k_ti c2 (k := 100) rfl; have c3i := k_ti c3 (k := 108) rfl; have c4i := k_ti c4 (k := 112) rfl; have c5i := k_ti c5 (k := 115) rfl; simp [Op.lookupswitch.offset, (show ¬ (99 : Int) = x.toInt from fun z => c1i z.symm), (show ¬ (100 : Int) = x.toInt from fun z => c2i z.symm), (show ¬ (108 : Int) = x.toInt from fun z => c3i z.symm), (show ¬ (112 : Int) = x.toInt from fun z => c4i z.symm), (show ¬ (115 : Int) = x.toInt from fun z => c5i z.symm)]) (by decide) ?_
  refine lv_aload_n hx hb dX5_called_137 rfl (lv_at hl 0 rfl) ?_
  refine lv_aload_n hx hb dX5_called_138 rfl (lv_at hl 0 rfl) ?_
  refine g_get 11 hx hb hts hown hC hI i_X5 (by decide) (e_x g_us) rfl (by decide) qf_X5_22 rfl rfl dX5_called_139 ?_
  refine lv_iconst (v := 0) hx hb dX5_called_142 (by decide) ?_
  refine g_iald 0 hx hb hC hI (by decide) (e_xn g_us) (by unfold vp_in; decide) rfl dX5_called_143 ?_
  refine g_callVi (rest := []) (c_X5_lets l D tb ad hj P M V (V 5 0) n hn hL) rfl rfl gm_X5_lets hx hb hml hown hts hC hI (by decide) (e_x g_us) rfl rfl qm_X5_137 rfl hl.1 rfl ⟨rfl, rfl, by decide, by decide⟩ (Nat.le_of_ble_eq_true rfl) ⟨Nat.zero_le _, Nat.zero_le _⟩ dX5_called_144 (fun H locs hI => ?_)
  exact g_ir hQ hx hb hr0 hlk hC hI dX5_called_147 rfl (by simp [m_called, c1, c2, c3, c4, c5]) rfl (by simp [m_called, c1, c2, c3, c4, c5])
abbrev rm_X5_does : Room := { frames := 7, cells := 0, slots := 0, locals := 152 }
set_option maxHeartbeats 800000 in
set_option maxRecDepth 100000 in
theorem c_X5_does (l : Launch) (D : va_G) (tb : g_T) (ad : g_Ad) (hj : g_inj ad) (P : g_P) (M : g_M) (V : g_V) (ln : Nat) (hln : V 0 5 = nI ln) (hln60 : ln ≤ 60) (J : (Nat → Int32) → Prop) (hJ1 : ∀ U : g_V, J (U 1) → m_N U (U 1 0).toNatClampNeg ∧ m_okR U (U 1 0).toNatClampNeg ∧ m_okL U (U 1 0).toNatClampNeg) (hJ2 : ∀ (U : g_V) (y : Int32), J (U 1) → J ((m_called U y (U 1 0).toNatClampNeg).2 1)) (hJ : J (V 1)) : g_Ci l yX5_does cX5_does 3 (some .boolean) rm_X5_does D tb ad [.ref (ad 7 0)] P (va_up M 7 V) ((m_does V).1) P (va_up M 7 ((m_does V).2)) := by
  refine g_go (by decide) (Nat.le_of_ble_eq_true rfl) hj ?_
  intro p e s m below meth c ls H locs R args Q hR0 hQ hx hb hml hr0 hlk hown hts hC hI hl
  subst hR0
  have hown : s.vm.findClass RX5 = some m.cls := hown
  have hl : lv_has ls 3 [(0, .ref (ad 7 0))] := hl
  refine lv_aload_n hx hb dX5_does_0 rfl (lv_at hl 0 rfl) ?_
  refine lv_iconst (v := 0) hx hb dX5_does_1 (by decide) ?_
  refine g_put 6 (ty := .int) hx hb hts hown hC hI i_X5 tyX5_ok nmX5 (by decide) (e_x g_us) rfl (by decide) qf_X5_166 rfl rfl rfl rfl rfl (Nat.le_of_ble_eq_true rfl) (p_x (by decide)) g_hs dX5_does_2 (fun H locs hI => ?_)
  refine lv_aload_n hx hb dX5_does_5 rfl (lv_at hl 0 rfl) ?_
  refine lv_iconst (v := 0) hx hb dX5_does_6 (by decide) ?_
  refine g_put 8 (ty := .int) hx hb hts hown hC hI i_X5 tyX5_ok nmX5 (by decide) (e_x g_us) rfl (by decide) qf_X5_180 rfl rfl rfl rfl rfl (Nat.le_of_ble_eq_true rfl) (p_x (by decide)) g_hs dX5_does_7 (fun H locs hI => ?_)
  have lp10 : ∀ (d i : Nat) (Vx : g_V), i ≤ 60 → 60 < i + d → (m_Tg Vx ln i) → (J (Vx 1)) → (m_doesN (61 - i) Vx = m_doesN 61 (g_w2 (g_w2 V 0 6 0) 0 8 0)) → ∀ (H : Heap) (locs : List Loc) (ls : Array Slot), g_I D tb ad (g_A ad) s H locs P (va_up M 7 Vx) → lv_has ls 3 [(0, .ref (ad 7 0))] → W p l e rm_X5_does s m args below meth c H locs 0 0 Q (F0 m 10 ls []) := by
    intro d
    induction d with
    | zero => intro i Vx hkp hfu; intros; omega
    | succ d ih10 =>
      intro i Vx hkp hfu hTx hJx hfun H locs ls hI hl
      refine lv_aload_n hx hb dX5_does_10 rfl (lv_at hl 0 rfl) ?_
      refine g_get 6 hx hb hts hown hC hI i_X5 (by decide) (e_x g_us) rfl (by decide) qf_X5_166 rfl rfl dX5_does_11 ?_
      refine lv_aload_n hx hb dX5_does_14 rfl (lv_at hl 0 rfl) ?_
      refine g_get 5 hx hb hts hown hC hI i_X5 (by decide) (e_x g_us) rfl (by decide) qf_X5_163 rfl rfl dX5_does_15 ?_
      refine lv_icmp_ge (tgt := 164) hx hb dX5_does_18 (by decide) (fun c1 => ?_) (fun c1 => ?_)
      · refine lv_iconst (v := 1) hx hb dX5_does_164 (by decide) ?_
        exact g_ir hQ hx hb hr0 hlk hC hI dX5_does_165 (by rfl) (by unfold m_does; rw [← hfun]; obtain ⟨j, hj⟩ : ∃ j, 61 - i = j + 1 := ⟨60 - i, by omega⟩; rw [hj, m_doesN]; (first | rw [if_pos c1] | rw [if_neg c1] | skip); try with_reducible rfl) rfl (by unfold m_does; rw [← hfun]; obtain ⟨j, hj⟩ : ∃ j, 61 - i = j + 1 := ⟨60 - i, by omega⟩; rw [hj, m_doesN]; (first | rw [if_pos c1] | rw [if_neg c1] | skip); try with_reducible rfl)
      · have h18 := c1
        refine lv_aload_n hx hb dX5_does_21 rfl (lv_at hl 0 rfl) ?_
        refine lv_aload_n hx hb dX5_does_22 rfl (lv_at hl 0 rfl) ?_
        refine g_get 6 hx hb hts hown hC hI i_X5 (by decide) (e_x g_us) rfl (by decide) qf_X5_166 rfl rfl dX5_does_23 ?_
        refine g_put 7 (ty := .int) hx hb hts hown hC hI i_X5 tyX5_ok nmX5 (by decide) (e_x g_us) rfl (by decide) qf_X5_183 rfl rfl rfl rfl rfl (Nat.le_of_ble_eq_true rfl) (p_x (by decide)) g_hs dX5_does_26 (fun H locs hI => ?_)
        refine lv_aload_n hx hb dX5_does_29 rfl (lv_at hl 0 rfl) ?_
        refine g_callVi (rest := []) (c_X5_here l D tb ad hj P M (g_w2 Vx 0 7 (Vx 0 6)) ((m_Tg.of hTx (w2_ne (by omega)) (w2_ne (by omega))).T)) rfl rfl gm_X5_here hx hb hml hown hts hC hI (by decide) (e_x g_us) rfl rfl qm_X5_169 rfl hl.1 rfl ⟨rfl, rfl, by decide, by decide⟩ (Nat.le_of_ble_eq_true rfl) ⟨Nat.zero_le _, Nat.zero_le _⟩ dX5_does_30 (fun H locs hI => ?_)
        refine g_te (y := (m_sign Vx)) rfl ?_
        refine lv_istore_n (lv' := [(1, .int (m_sign Vx)), (0, .ref (ad 7 0))]) hx hb dX5_does_33 rfl hl (by decide) rfl (fun ls hl => ?_)
        refine lv_aload_n hx hb dX5_does_34 rfl (lv_at hl 1 rfl) ?_
        refine lv_iload_n hx hb dX5_does_35 rfl (lv_at hl 0 rfl) ?_
        refine g_callSi (rest := [.ref (ad 7 0)]) (c_X5_wants l D tb ad hj P (va_up M 7 (g_w2 Vx 0 7 (Vx 0 6))) (m_sign Vx)) rfl rfl gm_X5_wants hx hb hml hown hts hC hI qm_X5_186 rfl hl.1 rfl ⟨rfl, rfl, by decide, by decide⟩ (Nat.le_of_ble_eq_true rfl) ⟨Nat.zero_le _, Nat.zero_le _⟩ dX5_does_36 (fun H locs hI => ?_)
        have hm47 : W p l e rm_X5_does s m args below meth c H locs 0 0 Q (F0 m 47 ls [.int (m_isF Vx), .ref (ad 7 0)]) := by
          refine g_put 10 (ty := .boolean) hx hb hts hown hC hI i_X5 tyX5_ok nmX5 (by decide) (e_x g_us) rfl (by decide) qf_X5_173 rfl rfl rfl (by unfold m_isF; split <;> rfl) (by unfold m_isF; split <;> rfl) (Nat.le_of_ble_eq_true rfl) (p_x (by decide)) g_hs dX5_does_47 (fun H locs hI => ?_)
          refine lv_aload_n hx hb dX5_does_50 rfl (lv_at hl 1 rfl) ?_
          refine lv_dup hx hb dX5_does_51 rfl ?_
          refine g_get 6 hx hb hts hown hC hI i_X5 (by decide) (e_x g_us) rfl (by decide) qf_X5_166 rfl rfl dX5_does_52 ?_
          refine g_te (y := ((g_w2 Vx 0 7 (Vx 0 6)) 0 6)) (w2_ne (by omega)) ?_
          refine g_te (y := (Vx 0 6)) (w2_ne (by omega)) ?_
          refine lv_aload_n hx hb dX5_does_55 rfl (lv_at hl 1 rfl) ?_
          refine g_get 10 hx hb hts hown hC hI i_X5 (by decide) (e_x g_us) rfl (by decide) qf_X5_173 rfl rfl dX5_does_56 ?_
          refine g_te (y := (m_isF Vx)) w2_at ?_
          have hm67 : W p l e rm_X5_does s m args below meth c H locs 0 0 Q (F0 m 67 ls [.int (if m_isF Vx = 0 then 0 else 1), .int (Vx 0 6), .ref (ad 7 0)]) := by
            refine lv_iadd hx hb dX5_does_67 ?_
            refine g_put 6 (ty := .int) hx hb hts hown hC hI i_X5 tyX5_ok nmX5 (by decide) (e_x g_us) rfl (by decide) qf_X5_166 rfl rfl rfl rfl rfl (Nat.le_of_ble_eq_true rfl) (p_x (by decide)) g_hs dX5_does_68 (fun H locs hI => ?_)
            obtain ⟨w, hw3, hww⟩ := m_wants_n (m_sign Vx)
            have hT3 : m_Tg (m_f3 Vx) ln i ∧ (m_isF Vx ≠ 0 → m_Tg (m_f3 Vx) ln (i + 1)) := m_Tg_f3 hTx h18
            have hI : g_I D tb ad (g_A ad) s H locs P (va_up M 7 (m_f3 Vx)) := hI
            refine lv_iconst (v := 0) hx hb dX5_does_71 (by decide) ?_
            refine lv_istore_n (lv' := [(2, .int 0), (1, .int (m_sign Vx)), (0, .ref (ad 7 0))]) hx hb dX5_does_72 rfl hl (by decide) rfl (fun ls hl => ?_)
            have lp73 : ∀ (d k : Nat) (Vy : g_V), k ≤ w → w < k + d → Vy = k_iter m_oneN (m_f3 Vx) k → (m_Tg Vy ln i ∧ (m_isF Vx ≠ 0 → m_Tg Vy ln (i + 1))) → ∀ (H : Heap) (locs : List Loc) (ls : Array Slot), g_I D tb ad (g_A ad) s H locs P (va_up M 7 Vy) → lv_has ls 3 [(2, .int (nI k)), (1, .int (m_sign Vx)), (0, .ref (ad 7 0))] → W p l e rm_X5_does s m args below meth c H locs 0 0 Q (F0 m 73 ls []) := by
              intro d
              induction d with
              | zero => intro k Vy hkp hfu; intros; omega
              | succ d ih73 =>
                intro k Vy hkp hfu e_Vy hTy H locs ls hI hl
                refine lv_iload_n hx hb dX5_does_73 rfl (lv_at hl 0 rfl) ?_
                refine lv_iload_n hx hb dX5_does_74 rfl (lv_at hl 1 rfl) ?_
                refine g_callSi (rest := [.int (nI k)]) (c_X5_wants l D tb ad hj P (va_up M 7 Vy) (m_sign Vx)) rfl rfl gm_X5_wants hx hb hml hown hts hC hI qm_X5_186 rfl hl.1 rfl ⟨rfl, rfl, by decide, by decide⟩ (Nat.le_of_ble_eq_true rfl) ⟨Nat.zero_le _, Nat.zero_le _⟩ dX5_does_75 (fun H locs hI => ?_)
                refine g_te (y := (nI w)) hww ?_
                refine lv_icmp_ge (tgt := 107) hx hb dX5_does_78 (by decide) (fun c2 => ?_) (fun c2 => ?_)
                · have c2n : w ≤ k := (nI_leI (a := w) (b := k) (by omega) (by omega)).mp c2
                  refine lv_aload_n hx hb dX5_does_107 rfl (lv_at hl 2 rfl) ?_
                  refine lv_bipush (v := 59) hx hb dX5_does_108 (by decide) ?_
                  refine g_callVv (rest := []) (c_X5_takesSign l D tb ad hj P M Vy 59 hTy.1.T) rfl rfl gm_X5_takesSign hx hb hml hown hts hC hI (by decide) (e_x g_us) rfl rfl qm_X5_189 rfl hl.1 rfl ⟨rfl, rfl, by decide, by decide⟩ (Nat.le_of_ble_eq_true rfl) ⟨Nat.zero_le _, Nat.zero_le _⟩ dX5_does_110 (fun H locs hI => ?_)
                  have hmr : m_takes Vy 59 = m_read Vx := by unfold m_read; rw [hww, nI_clamp (by omega), show w = k from (by omega), ← e_Vy]
                  rw [hmr] at hI
                  have hTr := And.intro (m_Tg_takes (x := 59) hTy.1 (by decide)) (fun z => m_Tg_takes (x := 59) (hTy.2 z) (by decide))
                  rw [hmr] at hTr
                  have hJr : J (m_read Vx 1) := by rw [m_read_t 1 (by decide) (by decide)]; exact hJx
                  refine lv_aload_n hx hb dX5_does_113 rfl (lv_at hl 2 rfl) ?_
                  refine lv_aload_n hx hb dX5_does_114 rfl (lv_at hl 2 rfl) ?_
                  refine g_get 10 hx hb hts hown hC hI i_X5 (by decide) (e_x g_us) rfl (by decide) qf_X5_173 rfl rfl dX5_does_115 ?_
                  refine lv_if_eq (tgt := 129) hx hb dX5_does_118 (by decide) (fun c3 => ?_) (fun c3 => ?_)
                  · have hf0 := c3
                    refine lv_iconst (v := 0) hx hb dX5_does_129 (by decide) ?_
                    refine g_put 9 (ty := .int) hx hb hts hown hC hI i_X5 tyX5_ok nmX5 (by decide) (e_x g_us) rfl (by decide) qf_X5_198 rfl rfl rfl rfl rfl (Nat.le_of_ble_eq_true rfl) (p_x (by decide)) g_hs dX5_does_130 (fun H locs hI => ?_)
                    refine lv_aload_n hx hb dX5_does_133 rfl (lv_at hl 2 rfl) ?_
                    refine g_get 10 hx hb hts hown hC hI i_X5 (by decide) (e_x g_us) rfl (by decide) qf_X5_173 rfl rfl dX5_does_134 ?_
                    refine g_te (y := ((m_read Vx) 0 10)) (w2_ne (by omega)) ?_
                    refine lv_if_eq (tgt := 149) hx hb dX5_does_137 (by decide) (fun _ => ?_) (fun z => absurd hf0 z)
                    refine lv_iconst (v := 0) hx hb dX5_does_149 (by decide) ?_
                    exact g_ir hQ hx hb hr0 hlk hC hI dX5_does_150 (by rfl) (by unfold m_does; rw [← hfun]; obtain ⟨j, hj⟩ : ∃ j, 61 - i = j + 1 := ⟨60 - i, by omega⟩; rw [hj, m_doesN]; (first | rw [if_pos c1] | rw [if_neg c1] | skip); (first | rw [if_pos c2] | rw [if_neg c2] | skip); (first | rw [if_pos c3] | rw [if_neg c3] | skip); try with_reducible rfl) rfl (by unfold m_does; rw [← hfun]; obtain ⟨j, hj⟩ : ∃ j, 61 - i = j + 1 := ⟨60 - i, by omega⟩; rw [hj, m_doesN]; (first | rw [if_pos c1] | rw [if_neg c1] | skip); (first | rw [if_pos c2] | rw [if_neg c2] | skip); (first | rw [if_pos c3] | rw [if_neg c3] | skip); try with_reducible rfl)
                  · have hz : ¬ m_isF Vx = 0 := fun z => c3 (m_read_no z)
                    refine lv_aload_n hx hb dX5_does_121 rfl (lv_at hl 2 rfl) ?_
                    refine lv_iload_n hx hb dX5_does_122 rfl (lv_at hl 1 rfl) ?_
                    refine g_callVi (rest := [.ref (ad 7 0)]) (c_X5_called l D tb ad hj P M (m_read Vx) (m_sign Vx) ((m_read Vx 1 0).toNatClampNeg) (hJ1 _ hJr).1 (hJ1 _ hJr).2.1 (hJ1 _ hJr).2.2) rfl rfl gm_X5_called hx hb hml hown hts hC hI (by decide) (e_x g_us) rfl rfl qm_X5_195 rfl hl.1 rfl ⟨rfl, rfl, by decide, by decide⟩ (Nat.le_of_ble_eq_true rfl) ⟨Nat.zero_le _, Nat.zero_le _⟩ dX5_does_123 (fun H locs hI => ?_)
                    refine g_te (y := ((m_told Vx).1)) rfl ?_
                    have hI : g_I D tb ad (g_A ad) s H locs P (va_up M 7 ((m_told Vx).2)) := hI
                    refine lv_goto (tgt := 130) hx hb dX5_does_126 (by decide) ?_
                    refine g_put 9 (ty := .int) hx hb hts hown hC hI i_X5 tyX5_ok nmX5 (by decide) (e_x g_us) rfl (by decide) qf_X5_198 rfl rfl rfl rfl rfl (Nat.le_of_ble_eq_true rfl) (p_x (by decide)) g_hs dX5_does_130 (fun H locs hI => ?_)
                    refine lv_aload_n hx hb dX5_does_133 rfl (lv_at hl 2 rfl) ?_
                    refine g_get 10 hx hb hts hown hC hI i_X5 (by decide) (e_x g_us) rfl (by decide) qf_X5_173 rfl rfl dX5_does_134 ?_
                    refine g_te (y := (((m_told Vx).2) 0 10)) (w2_ne (by omega)) ?_
                    refine lv_if_eq (tgt := 149) hx hb dX5_does_137 (by decide) (fun c4 => ?_) (fun c4 => ?_)
                    · refine lv_iconst (v := 0) hx hb dX5_does_149 (by decide) ?_
                      exact g_ir hQ hx hb hr0 hlk hC hI dX5_does_150 (by rfl) (by unfold m_does; rw [← hfun]; obtain ⟨j, hj⟩ : ∃ j, 61 - i = j + 1 := ⟨60 - i, by omega⟩; rw [hj, m_doesN]; (first | rw [if_pos c1] | rw [if_neg c1] | skip); (first | rw [if_pos c2] | rw [if_neg c2] | skip); (first | rw [if_pos c3] | rw [if_neg c3] | skip); (first | rw [if_pos c4] | rw [if_neg c4] | skip); try with_reducible rfl) rfl (by unfold m_does; rw [← hfun]; obtain ⟨j, hj⟩ : ∃ j, 61 - i = j + 1 := ⟨60 - i, by omega⟩; rw [hj, m_doesN]; (first | rw [if_pos c1] | rw [if_neg c1] | skip); (first | rw [if_pos c2] | rw [if_neg c2] | skip); (first | rw [if_pos c3] | rw [if_neg c3] | skip); (first | rw [if_pos c4] | rw [if_neg c4] | skip); try with_reducible rfl)
                    · refine lv_aload_n hx hb dX5_does_140 rfl (lv_at hl 2 rfl) ?_
                      refine g_get 9 hx hb hts hown hC hI i_X5 (by decide) (e_x g_us) rfl (by decide) qf_X5_198 rfl rfl dX5_does_141 ?_
                      refine g_te (y := ((m_told Vx).1)) w2_at ?_
                      refine lv_ldc (v := (-2000000001)) hx hb hown (hts _ qc_X5_25) dX5_does_144 ?_
                      refine lv_icmp_gt (tgt := 151) hx hb dX5_does_146 (by decide) (fun c5 => ?_) (fun c5 => ?_)
                      · refine lv_aload_n hx hb dX5_does_151 rfl (lv_at hl 2 rfl) ?_
                        refine lv_dup hx hb dX5_does_152 rfl ?_
                        refine g_get 8 hx hb hts hown hC hI i_X5 (by decide) (e_x g_us) rfl (by decide) qf_X5_180 rfl rfl dX5_does_153 ?_
                        refine g_te (y := (((m_told Vx).2) 0 8)) (w2_ne (by omega)) ?_
                        refine lv_iconst (v := 1) hx hb dX5_does_156 (by decide) ?_
                        refine lv_iadd hx hb dX5_does_157 ?_
                        refine g_put 8 (ty := .int) hx hb hts hown hC hI i_X5 tyX5_ok nmX5 (by decide) (e_x g_us) rfl (by decide) qf_X5_180 rfl rfl rfl rfl rfl (Nat.le_of_ble_eq_true rfl) (p_x (by decide)) g_hs dX5_does_158 (fun H locs hI => ?_)
                        have hTn : m_Tg (m_next Vx) ln (i + 1) := (hTr.2 hz).of ((w2_ne (by omega)).trans ((w2_ne (by omega)).trans (congrFun m_told_0 5))) ((w2_ne (by omega)).trans ((w2_ne (by omega)).trans (congrFun m_told_0 6)))
                        have hi60 : i + 1 ≤ 60 := by obtain ⟨z, a, _, _, b, c⟩ := hTn; omega
                        refine lv_goto (tgt := 10) hx hb dX5_does_161 (by decide) ?_
                        exact ih10 (i + 1) _ (by omega) (by omega)  hTn (by show J ((m_next Vx) 1); rw [show (m_next Vx) 1 = (m_told Vx).2 1 from by unfold m_next; rw [w2_c (by decide), w2_c (by decide)]]; exact hJ2 _ _ hJr) (by rw [← hfun, show 61 - i = (61 - (i + 1)) + 1 from (by omega), m_doesN]; (first | rw [if_pos c1] | rw [if_neg c1] | skip); (first | rw [if_pos c2] | rw [if_neg c2] | skip); (first | rw [if_pos c3] | rw [if_neg c3] | skip); (first | rw [if_pos c4] | rw [if_neg c4] | skip); (first | rw [if_pos c5] | rw [if_neg c5] | skip); try with_reducible rfl) _ _ _ hI (lv_sub hl [2] rfl)
                      · refine lv_iconst (v := 0) hx hb dX5_does_149 (by decide) ?_
                        exact g_ir hQ hx hb hr0 hlk hC hI dX5_does_150 (by rfl) (by unfold m_does; rw [← hfun]; obtain ⟨j, hj⟩ : ∃ j, 61 - i = j + 1 := ⟨60 - i, by omega⟩; rw [hj, m_doesN]; (first | rw [if_pos c1] | rw [if_neg c1] | skip); (first | rw [if_pos c2] | rw [if_neg c2] | skip); (first | rw [if_pos c3] | rw [if_neg c3] | skip); (first | rw [if_pos c4] | rw [if_neg c4] | skip); (first | rw [if_pos c5] | rw [if_neg c5] | skip); try with_reducible rfl) rfl (by unfold m_does; rw [← hfun]; obtain ⟨j, hj⟩ : ∃ j, 61 - i = j + 1 := ⟨60 - i, by omega⟩; rw [hj, m_doesN]; (first | rw [if_pos c1] | rw [if_neg c1] | skip); (first | rw [if_pos c2] | rw [if_neg c2] | skip); (first | rw [if_pos c3] | rw [if_neg c3] | skip); (first | rw [if_pos c4] | rw [if_neg c4] | skip); (first | rw [if_pos c5] | rw [if_neg c5] | skip); try with_reducible rfl)
                · have c2n : ¬ w ≤ k := fun z => c2 ((nI_leI (a := w) (b := k) (by omega) (by omega)).mpr z)
                  refine lv_iload_n hx hb dX5_does_81 rfl (lv_at hl 0 rfl) ?_
                  refine lv_if_le (tgt := 91) hx hb dX5_does_82 (by decide) (fun c6 => ?_) (fun c6 => ?_)
                  · have c6n : k ≤ 0 := (nI_leI (a := k) (b := 0) (by omega) (by omega)).mp c6
                    refine lv_aload_n hx hb dX5_does_91 rfl (lv_at hl 2 rfl) ?_
                    refine g_get 11 hx hb hts hown hC hI i_X5 (by decide) (e_x g_us) rfl (by decide) qf_X5_22 rfl rfl dX5_does_92 ?_
                    refine lv_iload_n hx hb dX5_does_95 rfl (lv_at hl 0 rfl) ?_
                    refine lv_aload_n hx hb dX5_does_96 rfl (lv_at hl 2 rfl) ?_
                    refine g_callVi (rest := [.int (nI k), .ref (ad 7 5)]) (c_X5_number l D tb ad hj P M Vy (by first | exact hTy.1.T | exact (m_Tg_takes hTy.1 (by decide)).T)) rfl rfl gm_X5_number hx hb hml hown hts hC hI (by decide) (e_x g_us) rfl rfl qm_X5_192 rfl hl.1 rfl ⟨rfl, rfl, by decide, by decide⟩ (Nat.le_of_ble_eq_true rfl) ⟨Nat.zero_le _, Nat.zero_le _⟩ dX5_does_97 (fun H locs hI => ?_)
                    refine g_iast k hx hb hC hI (by decide) (e_xn g_us) (vp_in_nI (by omega) (by decide)) (nI_clamp (by omega)) p_xn g_hs dX5_does_100 (fun H locs hI => ?_)
                    refine lv_iinc (v := nI (k + 1)) (lv' := [(2, .int (nI (k + 1))), (1, .int (m_sign Vx)), (0, .ref (ad 7 0))]) hx hb dX5_does_101 hl (k := 0) rfl (nI_1 _) (by decide) rfl (fun ls hl => ?_)
                    refine lv_goto (tgt := 73) hx hb dX5_does_104 (by decide) ?_
                    exact ih73 (k + 1) _ (by omega) (by omega) (by rw [k_iter, ← e_Vy, m_oneN]; first | (rw [if_pos (show 0 < k from (by omega))]; try with_reducible rfl) | (rw [if_neg (show ¬ 0 < k from (by omega))]; try with_reducible rfl)) (by have hq1 := m_Tg_one (k := k) hTy.1; have hq2 := fun z => m_Tg_one (k := k) (hTy.2 z); unfold m_oneN at hq1 hq2; first | (rw [if_pos (show 0 < k from (by omega))] at hq1 hq2; exact ⟨hq1, hq2⟩) | (rw [if_neg (show ¬ 0 < k from (by omega))] at hq1 hq2; exact ⟨hq1, hq2⟩)) _ _ _ hI (lv_sub hl [0, 1, 2] rfl)
                  · have c6n : ¬ k ≤ 0 := fun z => c6 ((nI_leI (a := k) (b := 0) (by omega) (by omega)).mpr z)
                    refine lv_aload_n hx hb dX5_does_85 rfl (lv_at hl 2 rfl) ?_
                    refine lv_bipush (v := 44) hx hb dX5_does_86 (by decide) ?_
                    refine g_callVv (rest := []) (c_X5_takesSign l D tb ad hj P M Vy 44 hTy.1.T) rfl rfl gm_X5_takesSign hx hb hml hown hts hC hI (by decide) (e_x g_us) rfl rfl qm_X5_189 rfl hl.1 rfl ⟨rfl, rfl, by decide, by decide⟩ (Nat.le_of_ble_eq_true rfl) ⟨Nat.zero_le _, Nat.zero_le _⟩ dX5_does_88 (fun H locs hI => ?_)
                    refine lv_aload_n hx hb dX5_does_91 rfl (lv_at hl 2 rfl) ?_
                    refine g_get 11 hx hb hts hown hC hI i_X5 (by decide) (e_x g_us) rfl (by decide) qf_X5_22 rfl rfl dX5_does_92 ?_
                    refine lv_iload_n hx hb dX5_does_95 rfl (lv_at hl 0 rfl) ?_
                    refine lv_aload_n hx hb dX5_does_96 rfl (lv_at hl 2 rfl) ?_
                    refine g_callVi (rest := [.int (nI k), .ref (ad 7 5)]) (c_X5_number l D tb ad hj P M (m_takes Vy 44) (by first | exact hTy.1.T | exact (m_Tg_takes hTy.1 (by decide)).T)) rfl rfl gm_X5_number hx hb hml hown hts hC hI (by decide) (e_x g_us) rfl rfl qm_X5_192 rfl hl.1 rfl ⟨rfl, rfl, by decide, by decide⟩ (Nat.le_of_ble_eq_true rfl) ⟨Nat.zero_le _, Nat.zero_le _⟩ dX5_does_97 (fun H locs hI => ?_)
                    refine g_iast k hx hb hC hI (by decide) (e_xn g_us) (vp_in_nI (by omega) (by decide)) (nI_clamp (by omega)) p_xn g_hs dX5_does_100 (fun H locs hI => ?_)
                    refine lv_iinc (v := nI (k + 1)) (lv' := [(2, .int (nI (k + 1))), (1, .int (m_sign Vx)), (0, .ref (ad 7 0))]) hx hb dX5_does_101 hl (k := 0) rfl (nI_1 _) (by decide) rfl (fun ls hl => ?_)
                    refine lv_goto (tgt := 73) hx hb dX5_does_104 (by decide) ?_
                    exact ih73 (k + 1) _ (by omega) (by omega) (by rw [k_iter, ← e_Vy, m_oneN]; first | (rw [if_pos (show 0 < k from (by omega))]; try with_reducible rfl) | (rw [if_neg (show ¬ 0 < k from (by omega))]; try with_reducible rfl)) (by have hq1 := m_Tg_one (k := k) hTy.1; have hq2 := fun z => m_Tg_one (k := k) (hTy.2 z); unfold m_oneN at hq1 hq2; first | (rw [if_pos (show 0 < k from (by omega))] at hq1 hq2; exact ⟨hq1, hq2⟩) | (rw [if_neg (show ¬ 0 < k from (by omega))] at hq1 hq2; exact ⟨hq1, hq2⟩)) _ _ _ hI (lv_sub hl [0, 1, 2] rfl)
            exact lp73 (w + 1) 0 _ (by omega) (by omega) rfl hT3 _ _ _ hI (lv_sub hl [0, 1, 2] rfl)
          refine lv_if_eq (tgt := 66) hx hb dX5_does_59 (by decide) (fun c7 => ?_) (fun c7 => ?_)
          · refine lv_iconst (v := 0) hx hb dX5_does_66 (by decide) ?_
            exact g_te (y := (if m_isF Vx = 0 then 0 else 1)) (by rw [if_pos c7]) hm67
          · refine lv_iconst (v := 1) hx hb dX5_does_62 (by decide) ?_
            refine lv_goto (tgt := 67) hx hb dX5_does_63 (by decide) ?_
            exact g_te (y := (if m_isF Vx = 0 then 0 else 1)) (by rw [if_neg c7]) hm67
        refine lv_if_le (tgt := 46) hx hb dX5_does_39 (by decide) (fun c8 => ?_) (fun c8 => ?_)
        · refine lv_iconst (v := 0) hx hb dX5_does_46 (by decide) ?_
          exact g_te (y := (m_isF Vx)) (by unfold m_isF; rw [if_neg (Int32.not_lt.mpr c8)]) hm47
        · refine lv_iconst (v := 1) hx hb dX5_does_42 (by decide) ?_
          refine lv_goto (tgt := 47) hx hb dX5_does_43 (by decide) ?_
          exact g_te (y := (m_isF Vx)) (by unfold m_isF; rw [if_pos (Int32.not_le.mp c8)]) hm47
  exact lp10 (60 + 1) 0 (g_w2 (g_w2 V 0 6 0) 0 8 0) (by omega) (by omega)  ⟨0, Nat.le_refl 0, (w2_ne (by omega)).trans ((w2_ne (by omega)).trans hln), (w2_ne (by omega)).trans w2_at, Nat.zero_le _, hln60⟩ (show J ((g_w2 (g_w2 V 0 6 0) 0 8 0) 1) from by rw [w2_c (by decide), w2_c (by decide)]; exact hJ) rfl _ _ _ hI (lv_sub hl [0] rfl)
