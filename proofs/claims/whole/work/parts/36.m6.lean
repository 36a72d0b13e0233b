abbrev rm_X5_fault : Room := { frames := 8, cells := 0, slots := 0, locals := 174 }
set_option maxHeartbeats 800000 in
set_option maxRecDepth 100000 in
theorem c_X5_fault (l : Launch) (D : va_G) (tb : g_T) (ad : g_Ad) (hj : g_inj ad) (P : g_P) (M : g_M) (V : g_V) (w : Int32) (ln : Nat) (hln : V 0 5 = nI ln) (hln60 : ln ≤ 60) (J : (Nat → Int32) → Prop) (hJ1 : ∀ U : g_V, J (U 1) → m_N U (U 1 0).toNatClampNeg ∧ m_okR U (U 1 0).toNatClampNeg ∧ m_okL U (U 1 0).toNatClampNeg) (hJ2 : ∀ (U : g_V) (y : Int32), J (U 1) → J ((m_called U y (U 1 0).toNatClampNeg).2 1)) (hJ : J (V 1)) : g_Ci l yX5_fault cX5_fault 3 (some .int) rm_X5_fault D tb ad [.ref (ad 7 0), .int w] P (va_up M 7 V) ((m_fault V w).1) P (va_up M 7 ((m_fault V w).2)) := by
  refine g_go (by decide) (Nat.le_of_ble_eq_true rfl) hj ?_
  intro p e s m below meth c ls H locs R args Q hR0 hQ hx hb hml hr0 hlk hown hts hC hI hl
  subst hR0
  have hown : s.vm.findClass RX5 = some m.cls := hown
  have hl : lv_has ls 3 [(0, .ref (ad 7 0)), (1, .int w)] := hl
  refine lv_iload_n hx hb dX5_fault_0 rfl (lv_at hl 1 rfl) ?_
  refine lv_iconst (v := 0) hx hb dX5_fault_1 (by decide) ?_
  refine lv_iconst (v := 2) hx hb dX5_fault_2 (by decide) ?_
  refine g_callSi (rest := []) (c_X5_in l D tb ad hj P (va_up M 7 V) w 0 2) rfl rfl gm_X5_in hx hb hml hown hts hC hI qm_X5_67 rfl hl.1 rfl ⟨rfl, rfl, by decide, by decide⟩ (Nat.le_of_ble_eq_true rfl) ⟨Nat.zero_le _, Nat.zero_le _⟩ dX5_fault_3 (fun H locs hI => ?_)
  refine g_tf (fun c1 => ?_) (fun c1 => ?_)
  · refine lv_if_ne (tgt := 12) hx hb dX5_fault_6 (by decide) (fun _ => ?_) (fun c2 => absurd c2 (by decide))
    refine lv_aload_n hx hb dX5_fault_12 rfl (lv_at hl 0 rfl) ?_
    refine g_callVv (rest := []) (c_X5_begins l D tb ad hj P M V) rfl rfl gm_X5_begins hx hb hml hown hts hC hI (by decide) (e_x g_us) rfl rfl qm_X5_107 rfl hl.1 rfl ⟨rfl, rfl, by decide, by decide⟩ (Nat.le_of_ble_eq_true rfl) ⟨Nat.zero_le _, Nat.zero_le _⟩ dX5_fault_13 (fun H locs hI => ?_)
    refine lv_aload_n hx hb dX5_fault_16 rfl (lv_at hl 0 rfl) ?_
    refine g_callVi (rest := []) (c_X5_does l D tb ad hj P M (m_begins V) ln ((congrFun (m_begins_c (by decide)) 5).trans hln) hln60 J hJ1 hJ2 (by rw [m_begins_c (by decide)]; exact hJ)) rfl rfl gm_X5_does hx hb hml hown hts hC hI (by decide) (e_x g_us) rfl rfl qm_X5_201 rfl hl.1 rfl ⟨rfl, rfl, by decide, by decide⟩ (Nat.le_of_ble_eq_true rfl) ⟨Nat.zero_le _, Nat.zero_le _⟩ dX5_fault_17 (fun H locs hI => ?_)
    refine lv_istore_n (lv' := [(2, .int ((m_does (m_begins V)).1)), (0, .ref (ad 7 0)), (1, .int w)]) hx hb dX5_fault_20 rfl hl (by decide) rfl (fun ls hl => ?_)
    refine lv_aload_n hx hb dX5_fault_21 rfl (lv_at hl 1 rfl) ?_
    refine g_callVv (rest := []) (c_X5_returns l D tb ad hj P M ((m_does (m_begins V)).2)) rfl rfl gm_X5_returns hx hb hml hown hts hC hI (by decide) (e_x g_us) rfl rfl qm_X5_26 rfl hl.1 rfl ⟨rfl, rfl, by decide, by decide⟩ (Nat.le_of_ble_eq_true rfl) ⟨Nat.zero_le _, Nat.zero_le _⟩ dX5_fault_22 (fun H locs hI => ?_)
    refine lv_iload_n hx hb dX5_fault_25 rfl (lv_at hl 0 rfl) ?_
    refine lv_if_eq (tgt := 32) hx hb dX5_fault_26 (by decide) (fun c3 => ?_) (fun c3 => ?_)
    · refine lv_iload_n hx hb dX5_fault_32 rfl (lv_at hl 2 rfl) ?_
      refine lv_if_ne (tgt := 43) hx hb dX5_fault_33 (by decide) (fun c4 => ?_) (fun c4 => ?_)
      · refine lv_iload_n hx hb dX5_fault_43 rfl (lv_at hl 2 rfl) ?_
        refine lv_iconst (v := 1) hx hb dX5_fault_44 (by decide) ?_
        refine lv_icmp_ne (tgt := 63) hx hb dX5_fault_45 (by decide) (fun c5 => ?_) (fun c5 => ?_)
        · refine lv_aload_n hx hb dX5_fault_63 rfl (lv_at hl 1 rfl) ?_
          refine g_get 10 hx hb hts hown hC hI i_X5 (by decide) (e_x g_us) rfl (by decide) qf_X5_173 rfl rfl dX5_fault_64 ?_
          refine lv_if_eq (tgt := 77) hx hb dX5_fault_67 (by decide) (fun c6 => ?_) (fun c6 => ?_)
          · refine lv_aload_n hx hb dX5_fault_77 rfl (lv_at hl 1 rfl) ?_
            refine g_get 6 hx hb hts hown hC hI i_X5 (by decide) (e_x g_us) rfl (by decide) qf_X5_166 rfl rfl dX5_fault_78 ?_
            refine lv_aload_n hx hb dX5_fault_81 rfl (lv_at hl 1 rfl) ?_
            refine g_get 7 hx hb hts hown hC hI i_X5 (by decide) (e_x g_us) rfl (by decide) qf_X5_183 rfl rfl dX5_fault_82 ?_
            refine lv_isub hx hb dX5_fault_85 ?_
            exact g_ir hQ hx hb hr0 hlk hC hI dX5_fault_86 rfl (by unfold m_fault; (first | rw [if_pos c1] | rw [if_neg c1] | skip); (first | rw [if_pos c3] | rw [if_neg c3] | skip); (first | rw [if_pos c4] | rw [if_neg c4] | skip); (first | rw [if_pos c5] | rw [if_neg c5] | skip); (first | rw [if_pos c6] | rw [if_neg c6] | skip); try with_reducible rfl) rfl (by unfold m_fault; (first | rw [if_pos c1] | rw [if_neg c1] | skip); (first | rw [if_pos c3] | rw [if_neg c3] | skip); (first | rw [if_pos c4] | rw [if_neg c4] | skip); (first | rw [if_pos c5] | rw [if_neg c5] | skip); (first | rw [if_pos c6] | rw [if_neg c6] | skip); try with_reducible rfl)
          · refine lv_aload_n hx hb dX5_fault_70 rfl (lv_at hl 1 rfl) ?_
            refine g_get 9 hx hb hts hown hC hI i_X5 (by decide) (e_x g_us) rfl (by decide) qf_X5_198 rfl rfl dX5_fault_71 ?_
            refine lv_goto (tgt := 86) hx hb dX5_fault_74 (by decide) ?_
            exact g_ir hQ hx hb hr0 hlk hC hI dX5_fault_86 rfl (by unfold m_fault; (first | rw [if_pos c1] | rw [if_neg c1] | skip); (first | rw [if_pos c3] | rw [if_neg c3] | skip); (first | rw [if_pos c4] | rw [if_neg c4] | skip); (first | rw [if_pos c5] | rw [if_neg c5] | skip); (first | rw [if_pos c6] | rw [if_neg c6] | skip); try with_reducible rfl) rfl (by unfold m_fault; (first | rw [if_pos c1] | rw [if_neg c1] | skip); (first | rw [if_pos c3] | rw [if_neg c3] | skip); (first | rw [if_pos c4] | rw [if_neg c4] | skip); (first | rw [if_pos c5] | rw [if_neg c5] | skip); (first | rw [if_pos c6] | rw [if_neg c6] | skip); try with_reducible rfl)
        · refine lv_aload_n hx hb dX5_fault_48 rfl (lv_at hl 1 rfl) ?_
          refine g_get 10 hx hb hts hown hC hI i_X5 (by decide) (e_x g_us) rfl (by decide) qf_X5_173 rfl rfl dX5_fault_49 ?_
          refine lv_if_eq (tgt := 59) hx hb dX5_fault_52 (by decide) (fun c7 => ?_) (fun c7 => ?_)
          · refine lv_iconst (v := 1) hx hb dX5_fault_59 (by decide) ?_
            refine lv_goto (tgt := 86) hx hb dX5_fault_60 (by decide) ?_
            exact g_ir hQ hx hb hr0 hlk hC hI dX5_fault_86 rfl (by unfold m_fault; (first | rw [if_pos c1] | rw [if_neg c1] | skip); (first | rw [if_pos c3] | rw [if_neg c3] | skip); (first | rw [if_pos c4] | rw [if_neg c4] | skip); (first | rw [if_pos c5] | rw [if_neg c5] | skip); (first | rw [if_pos c7] | rw [if_neg c7] | skip); try with_reducible rfl) rfl (by unfold m_fault; (first | rw [if_pos c1] | rw [if_neg c1] | skip); (first | rw [if_pos c3] | rw [if_neg c3] | skip); (first | rw [if_pos c4] | rw [if_neg c4] | skip); (first | rw [if_pos c5] | rw [if_neg c5] | skip); (first | rw [if_pos c7] | rw [if_neg c7] | skip); try with_reducible rfl)
          · refine lv_iconst (v := 2) hx hb dX5_fault_55 (by decide) ?_
            refine lv_goto (tgt := 86) hx hb dX5_fault_56 (by decide) ?_
            exact g_ir hQ hx hb hr0 hlk hC hI dX5_fault_86 rfl (by unfold m_fault; (first | rw [if_pos c1] | rw [if_neg c1] | skip); (first | rw [if_pos c3] | rw [if_neg c3] | skip); (first | rw [if_pos c4] | rw [if_neg c4] | skip); (first | rw [if_pos c5] | rw [if_neg c5] | skip); (first | rw [if_pos c7] | rw [if_neg c7] | skip); try with_reducible rfl) rfl (by unfold m_fault; (first | rw [if_pos c1] | rw [if_neg c1] | skip); (first | rw [if_pos c3] | rw [if_neg c3] | skip); (first | rw [if_pos c4] | rw [if_neg c4] | skip); (first | rw [if_pos c5] | rw [if_neg c5] | skip); (first | rw [if_pos c7] | rw [if_neg c7] | skip); try with_reducible rfl)
      · refine lv_aload_n hx hb dX5_fault_36 rfl (lv_at hl 1 rfl) ?_
        refine g_get 7 hx hb hts hown hC hI i_X5 (by decide) (e_x g_us) rfl (by decide) qf_X5_183 rfl rfl dX5_fault_37 ?_
        refine lv_goto (tgt := 86) hx hb dX5_fault_40 (by decide) ?_
        exact g_ir hQ hx hb hr0 hlk hC hI dX5_fault_86 rfl (by unfold m_fault; (first | rw [if_pos c1] | rw [if_neg c1] | skip); (first | rw [if_pos c3] | rw [if_neg c3] | skip); (first | rw [if_pos c4] | rw [if_neg c4] | skip); try with_reducible rfl) rfl (by unfold m_fault; (first | rw [if_pos c1] | rw [if_neg c1] | skip); (first | rw [if_pos c3] | rw [if_neg c3] | skip); (first | rw [if_pos c4] | rw [if_neg c4] | skip); try with_reducible rfl)
    · refine lv_ldc (v := (-2000000004)) hx hb hown (hts _ qc_X5_150) dX5_fault_29 ?_
      exact g_ir hQ hx hb hr0 hlk hC hI dX5_fault_31 rfl (by unfold m_fault; (first | rw [if_pos c1] | rw [if_neg c1] | skip); (first | rw [if_pos c3] | rw [if_neg c3] | skip); try with_reducible rfl) rfl (by unfold m_fault; (first | rw [if_pos c1] | rw [if_neg c1] | skip); (first | rw [if_pos c3] | rw [if_neg c3] | skip); try with_reducible rfl)
  · refine lv_if_ne (tgt := 12) hx hb dX5_fault_6 (by decide) (fun c8 => absurd c8 (by decide)) (fun _ => ?_)
    refine lv_ldc (v := (-2000000001)) hx hb hown (hts _ qc_X5_25) dX5_fault_9 ?_
    exact g_ir hQ hx hb hr0 hlk hC hI dX5_fault_11 rfl (by unfold m_fault; (first | rw [if_pos c1] | rw [if_neg c1] | skip); try with_reducible rfl) rfl (by unfold m_fault; (first | rw [if_pos c1] | rw [if_neg c1] | skip); try with_reducible rfl)
abbrev rm_X5_play : Room := { frames := 8, cells := 0, slots := 0, locals := 174 }
set_option maxHeartbeats 800000 in
set_option maxRecDepth 100000 in
theorem c_X5_play (l : Launch) (D : va_G) (tb : g_T) (ad : g_Ad) (hj : g_inj ad) (P : g_P) (M : g_M) (V : g_V) (ln : Nat) (hln : V 0 5 = nI ln) (hln60 : ln ≤ 60) (J : (Nat → Int32) → Prop) (hJ1 : ∀ U : g_V, J (U 1) → m_N U (U 1 0).toNatClampNeg ∧ m_okR U (U 1 0).toNatClampNeg ∧ m_okL U (U 1 0).toNatClampNeg) (hJ2 : ∀ (U : g_V) (y : Int32), J (U 1) → J ((m_called U y (U 1 0).toNatClampNeg).2 1)) (hJ : J (V 1)) (sn : Nat) (hs : m_S V sn) : g_Ci l yX5_play cX5_play 1 (some .int) rm_X5_play D tb ad [.ref (ad 7 0)] P (va_up M 7 V) ((m_play V sn).1) P (va_up M 7 ((m_play V sn).2)) := by
  refine g_go (by decide) (Nat.le_of_ble_eq_true rfl) hj ?_
  intro p e s m below meth c ls H locs R args Q hR0 hQ hx hb hml hr0 hlk hown hts hC hI hl
  subst hR0
  have hown : s.vm.findClass RX5 = some m.cls := hown
  have hl : lv_has ls 1 [(0, .ref (ad 7 0))] := hl
  refine lv_aload_n hx hb dX5_play_0 rfl (lv_at hl 0 rfl) ?_
  refine g_callVv (rest := []) (c_X5_begins l D tb ad hj P M V) rfl rfl gm_X5_begins hx hb hml hown hts hC hI (by decide) (e_x g_us) rfl rfl qm_X5_107 rfl hl.1 rfl ⟨rfl, rfl, by decide, by decide⟩ (Nat.le_of_ble_eq_true rfl) ⟨Nat.zero_le _, Nat.zero_le _⟩ dX5_play_1 (fun H locs hI => ?_)
  refine lv_aload_n hx hb dX5_play_4 rfl (lv_at hl 0 rfl) ?_
  refine lv_aload_n hx hb dX5_play_5 rfl (lv_at hl 0 rfl) ?_
  refine g_callVi (rest := [.ref (ad 7 0)]) (c_X5_does l D tb ad hj P M (m_begins V) ln ((congrFun (m_begins_c (by decide)) 5).trans hln) hln60 J hJ1 hJ2 (by rw [m_begins_c (by decide)]; exact hJ)) rfl rfl gm_X5_does hx hb hml hown hts hC hI (by decide) (e_x g_us) rfl rfl qm_X5_201 rfl hl.1 rfl ⟨rfl, rfl, by decide, by decide⟩ (Nat.le_of_ble_eq_true rfl) ⟨Nat.zero_le _, Nat.zero_le _⟩ dX5_play_6 (fun H locs hI => ?_)
  refine lv_if_eq (tgt := 19) hx hb dX5_play_9 (by decide) (fun c1 => ?_) (fun c1 => ?_)
  · refine lv_ldc (v := (-2000000002)) hx hb hown (hts _ qc_X5_86) dX5_play_19 ?_
    refine g_callVi (rest := []) (c_X5_acted l D tb ad hj P M ((m_does (m_begins V)).2) (-2000000002) sn ⟨m_does_h.1.trans ((congrFun (m_begins_c (by decide)) 3).trans hs.1), hs.2⟩) rfl rfl gm_X5_acted hx hb hml hown hts hC hI (by decide) (e_x g_us) rfl rfl qm_X5_113 rfl hl.1 rfl ⟨rfl, rfl, by decide, by decide⟩ (Nat.le_of_ble_eq_true rfl) ⟨Nat.zero_le _, Nat.zero_le _⟩ dX5_play_21 (fun H locs hI => ?_)
    exact g_ir hQ hx hb hr0 hlk hC hI dX5_play_24 rfl (by unfold m_play; (first | rw [if_pos c1] | rw [if_neg c1] | skip); try with_reducible rfl) rfl (by unfold m_play; (first | rw [if_pos c1] | rw [if_neg c1] | skip); try with_reducible rfl)
  · refine lv_aload_n hx hb dX5_play_12 rfl (lv_at hl 0 rfl) ?_
    refine g_get 8 hx hb hts hown hC hI i_X5 (by decide) (e_x g_us) rfl (by decide) qf_X5_180 rfl rfl dX5_play_13 ?_
    refine lv_goto (tgt := 21) hx hb dX5_play_16 (by decide) ?_
    refine g_callVi (rest := []) (c_X5_acted l D tb ad hj P M ((m_does (m_begins V)).2) (((m_does (m_begins V)).2) 0 8) sn ⟨m_does_h.1.trans ((congrFun (m_begins_c (by decide)) 3).trans hs.1), hs.2⟩) rfl rfl gm_X5_acted hx hb hml hown hts hC hI (by decide) (e_x g_us) rfl rfl qm_X5_113 rfl hl.1 rfl ⟨rfl, rfl, by decide, by decide⟩ (Nat.le_of_ble_eq_true rfl) ⟨Nat.zero_le _, Nat.zero_le _⟩ dX5_play_21 (fun H locs hI => ?_)
    exact g_ir hQ hx hb hr0 hlk hC hI dX5_play_24 rfl (by unfold m_play; (first | rw [if_pos c1] | rw [if_neg c1] | skip); try with_reducible rfl) rfl (by unfold m_play; (first | rw [if_pos c1] | rw [if_neg c1] | skip); try with_reducible rfl)
