def m_lenderOf (V : g_V) (le : Int32) (w : Int32) (n : Nat) : Int32 :=
  if m_in le 0 2 then (if m_in w 0 5 then (if w = 4 then (V 1 (21 + (le.toNatClampNeg))) else (k_sum (m_lenF V (le) w) n)) else (-2000000001)) else (-2000000001)
abbrev rm_X5_lenderOf : Room := { frames := 5, cells := 0, slots := 0, locals := 108 }
set_option maxHeartbeats 800000 in
set_option maxRecDepth 100000 in
theorem c_X5_lenderOf (l : Launch) (D : va_G) (tb : g_T) (ad : g_Ad) (hj : g_inj ad) (P : g_P) (M : g_M) (V : g_V) (le : Int32) (w : Int32) (n : Nat) (hn : m_N V n) : g_Ci l yX5_lenderOf cX5_lenderOf 6 (some .int) rm_X5_lenderOf D tb ad [.ref (ad 7 0), .int le, .int w] P (va_up M 7 V) (m_lenderOf V le w n) P (va_up M 7 V) := by
  refine g_go (by decide) (Nat.le_of_ble_eq_true rfl) hj ?_
  intro p e s m below meth c ls H locs R args Q hR0 hQ hx hb hml hr0 hlk hown hts hC hI hl
  subst hR0
  have hown : s.vm.findClass RX5 = some m.cls := hown
  have hl : lv_has ls 6 [(0, .ref (ad 7 0)), (1, .int le), (2, .int w)] := hl
  refine lv_iload_n hx hb dX5_lenderOf_0 rfl (lv_at hl 1 rfl) ?_
  refine lv_iconst (v := 0) hx hb dX5_lenderOf_1 (by decide) ?_
  refine lv_iconst (v := 2) hx hb dX5_lenderOf_2 (by decide) ?_
  refine g_callSi (rest := []) (c_X5_in l D tb ad hj P (va_up M 7 V) le 0 2) rfl rfl gm_X5_in hx hb hml hown hts hC hI qm_X5_67 rfl hl.1 rfl ⟨rfl, rfl, by decide, by decide⟩ (Nat.le_of_ble_eq_true rfl) ⟨Nat.zero_le _, Nat.zero_le _⟩ dX5_lenderOf_3 (fun H locs hI => ?_)
  refine g_tf (fun c1 => ?_) (fun c1 => ?_)
  · obtain ⟨l1, hl1, rfl⟩ := m_nI (N := 2) c1 rfl
    have hcll1 : (nI l1).toNatClampNeg = l1 := nI_clamp (by omega)
    refine lv_if_eq (tgt := 18) hx hb dX5_lenderOf_6 (by decide) (fun c2 => absurd c2 (by decide)) (fun _ => ?_)
    refine lv_iload_n hx hb dX5_lenderOf_9 rfl (lv_at hl 2 rfl) ?_
    refine lv_iconst (v := 0) hx hb dX5_lenderOf_10 (by decide) ?_
    refine lv_iconst (v := 5) hx hb dX5_lenderOf_11 (by decide) ?_
    refine g_callSi (rest := []) (c_X5_in l D tb ad hj P (va_up M 7 V) w 0 5) rfl rfl gm_X5_in hx hb hml hown hts hC hI qm_X5_67 rfl hl.1 rfl ⟨rfl, rfl, by decide, by decide⟩ (Nat.le_of_ble_eq_true rfl) ⟨Nat.zero_le _, Nat.zero_le _⟩ dX5_lenderOf_12 (fun H locs hI => ?_)
    refine g_tf (fun c3 => ?_) (fun c3 => ?_)
    · refine lv_if_ne (tgt := 21) hx hb dX5_lenderOf_15 (by decide) (fun _ => ?_) (fun c4 => absurd c4 (by decide))
      refine lv_iload_n hx hb dX5_lenderOf_21 rfl (lv_at hl 2 rfl) ?_
      refine lv_iconst (v := 4) hx hb dX5_lenderOf_22 (by decide) ?_
      refine lv_icmp_ne (tgt := 36) hx hb dX5_lenderOf_23 (by decide) (fun c5 => ?_) (fun c5 => ?_)
      · refine lv_iconst (v := 0) hx hb dX5_lenderOf_36 (by decide) ?_
        refine lv_istore_n (lv' := [(3, .int 0), (0, .ref (ad 7 0)), (1, .int (nI l1)), (2, .int w)]) hx hb dX5_lenderOf_37 rfl hl (by decide) rfl (fun ls hl => ?_)
        refine lv_iconst (v := 0) hx hb dX5_lenderOf_38 (by decide) ?_
        refine lv_istore (lv' := [(4, .int 0), (3, .int 0), (0, .ref (ad 7 0)), (1, .int (nI l1)), (2, .int w)]) hx hb dX5_lenderOf_39 hl (by decide) rfl (fun ls hl => ?_)
        have lp41 : ∀ (d k : Nat) (y : Int32), k ≤ n → n < k + d → y = k_sum (m_lenF V (nI l1) w) k → ∀ (H : Heap) (locs : List Loc) (ls : Array Slot), g_I D tb ad (g_A ad) s H locs P (va_up M 7 V) → lv_has ls 6 [(4, .int (nI k)), (3, .int y), (0, .ref (ad 7 0)), (1, .int (nI l1)), (2, .int w)] → W p l e rm_X5_lenderOf s m args below meth c H locs 0 0 Q (F0 m 41 ls []) := by
          intro d
          induction d with
          | zero => intro k y hkp hfu; intros; omega
          | succ d ih41 =>
            intro k y hkp hfu e_y H locs ls hI hl
            refine lv_iload hx hb dX5_lenderOf_41 (lv_at hl 0 rfl) ?_
            refine lv_aload_n hx hb dX5_lenderOf_43 rfl (lv_at hl 2 rfl) ?_
            refine g_get 0 hx hb hts hown hC hI i_X5 (by decide) (e_x g_us) rfl (by decide) qf_X5_7 rfl rfl dX5_lenderOf_44 ?_
            refine lv_iconst (v := 0) hx hb dX5_lenderOf_47 (by decide) ?_
            refine g_iald 0 hx hb hC hI (by decide) (e_xs g_us) (by unfold vp_in; decide) rfl dX5_lenderOf_48 ?_
            refine g_te (y := (nI n)) hn.1 ?_
            refine lv_icmp_ge (tgt := 153) hx hb dX5_lenderOf_49 (by decide) (fun c6 => ?_) (fun c6 => ?_)
            · have c6n : n ≤ k := (nI_leI (a := n) (b := k) (by omega) (by omega)).mp c6
              refine lv_iload_n hx hb dX5_lenderOf_153 rfl (lv_at hl 1 rfl) ?_
              exact g_ir hQ hx hb hr0 hlk hC hI dX5_lenderOf_154 rfl (by rw [show k = n from (by omega)] at e_y; unfold m_lenderOf; (try simp only [hcll1]); (try rw [← e_y]); (first | rw [if_pos c1] | rw [if_neg c1] | skip); (first | rw [if_pos c3] | rw [if_neg c3] | skip); (first | rw [if_pos c5] | rw [if_neg c5] | skip); (first | rw [if_pos c6] | rw [if_neg c6] | skip); try with_reducible rfl) rfl rfl
            · have c6n : ¬ n ≤ k := fun z => c6 ((nI_leI (a := n) (b := k) (by omega) (by omega)).mpr z)
              have := hn.2
              refine lv_aload_n hx hb dX5_lenderOf_52 rfl (lv_at hl 2 rfl) ?_
              refine lv_iload hx hb dX5_lenderOf_53 (lv_at hl 0 rfl) ?_
              refine lv_iconst (v := 4) hx hb dX5_lenderOf_55 (by decide) ?_
              refine g_callVi (rest := []) (c_X5_of l D tb ad hj P M V k 4 (by first | assumption | omega) (by first | assumption | omega)) rfl rfl gm_X5_of hx hb hml hown hts hC hI (by decide) (e_x g_us) rfl rfl qm_X5_33 rfl hl.1 rfl ⟨rfl, rfl, by decide, by decide⟩ (Nat.le_of_ble_eq_true rfl) ⟨Nat.zero_le _, Nat.zero_le _⟩ dX5_lenderOf_56 (fun H locs hI => ?_)
              refine lv_iload_n hx hb dX5_lenderOf_59 rfl (lv_at hl 3 rfl) ?_
              refine lv_icmp_ne (tgt := 147) hx hb dX5_lenderOf_60 (by decide) (fun c7 => ?_) (fun c7 => ?_)
              · refine lv_iinc (v := nI (k + 1)) (lv' := [(4, .int (nI (k + 1))), (3, .int y), (0, .ref (ad 7 0)), (1, .int (nI l1)), (2, .int w)]) hx hb dX5_lenderOf_147 hl (k := 0) rfl (nI_1 _) (by decide) rfl (fun ls hl => ?_)
                refine lv_goto (tgt := 41) hx hb dX5_lenderOf_150 (by decide) ?_
                exact ih41 (k + 1) _ (by omega) (by omega) (by rw [k_sum, m_lenF]; (first | rw [if_pos c1] | rw [if_neg c1] | skip); (first | rw [if_pos c3] | rw [if_neg c3] | skip); (first | rw [if_pos c5] | rw [if_neg c5] | skip); (first | rw [if_pos c6] | rw [if_neg c6] | skip); (first | rw [if_pos c7] | rw [if_neg c7] | skip); rw [e_y]; (try unfold m_lenT m_lenIs); (try simp [c1, c3, c5, c6, c7]))  _ _ _ hI (lv_sub hl [0, 1, 2, 3, 4] rfl)
              · refine lv_iload_n hx hb dX5_lenderOf_63 rfl (lv_at hl 4 rfl) ?_
                refine lv_if_eq (tgt := 98) hx hb dX5_lenderOf_64 (by decide) (fun c8 => ?_) (fun c8 => ?_)
                · refine lv_iconst (v := 1) hx hb dX5_lenderOf_98 (by decide) ?_
                  refine lv_goto (tgt := 103) hx hb dX5_lenderOf_99 (by decide) ?_
                  refine lv_istore (lv' := [(5, .int 1), (4, .int (nI k)), (3, .int y), (0, .ref (ad 7 0)), (1, .int (nI l1)), (2, .int w)]) hx hb dX5_lenderOf_103 hl (by decide) rfl (fun ls hl => ?_)
                  refine lv_iload_n hx hb dX5_lenderOf_105 rfl (lv_at hl 2 rfl) ?_
                  refine lv_iload_n hx hb dX5_lenderOf_106 rfl (lv_at hl 5 rfl) ?_
                  refine lv_iconst (v := 1) hx hb dX5_lenderOf_107 (by decide) ?_
                  refine lv_icmp_ne (tgt := 121) hx hb dX5_lenderOf_108 (by decide) (fun c9 => ?_) (fun c9 => ?_)
                  · refine lv_iload_n hx hb dX5_lenderOf_121 rfl (lv_at hl 5 rfl) ?_
                    refine lv_iconst (v := 2) hx hb dX5_lenderOf_122 (by decide) ?_
                    refine lv_icmp_ne (tgt := 135) hx hb dX5_lenderOf_123 (by decide) (fun c10 => ?_) (fun c10 => ?_)
                    · refine lv_iload hx hb dX5_lenderOf_135 (lv_at hl 0 rfl) ?_
                      refine lv_if_eq (tgt := 144) hx hb dX5_lenderOf_137 (by decide) (fun c11 => absurd c11 (by decide)) (fun _ => ?_)
                      refine lv_iconst (v := 1) hx hb dX5_lenderOf_140 (by decide) ?_
                      refine lv_goto (tgt := 145) hx hb dX5_lenderOf_141 (by decide) ?_
                      refine lv_iadd hx hb dX5_lenderOf_145 ?_
                      refine lv_istore_n (lv' := [(3, .int (y + 1)), (5, .int 1), (4, .int (nI k)), (0, .ref (ad 7 0)), (1, .int (nI l1)), (2, .int w)]) hx hb dX5_lenderOf_146 rfl hl (by decide) rfl (fun ls hl => ?_)
                      refine lv_iinc (v := nI (k + 1)) (lv' := [(4, .int (nI (k + 1))), (3, .int (y + 1)), (5, .int 1), (0, .ref (ad 7 0)), (1, .int (nI l1)), (2, .int w)]) hx hb dX5_lenderOf_147 hl (k := 2) rfl (nI_1 _) (by decide) rfl (fun ls hl => ?_)
                      refine lv_goto (tgt := 41) hx hb dX5_lenderOf_150 (by decide) ?_
                      exact ih41 (k + 1) _ (by omega) (by omega) (by rw [k_sum, m_lenF]; (first | rw [if_pos c1] | rw [if_neg c1] | skip); (first | rw [if_pos c3] | rw [if_neg c3] | skip); (first | rw [if_pos c5] | rw [if_neg c5] | skip); (first | rw [if_pos c6] | rw [if_neg c6] | skip); (first | rw [if_pos c7] | rw [if_neg c7] | skip); (first | rw [if_pos c8] | rw [if_neg c8] | skip); (first | rw [if_pos c9] | rw [if_neg c9] | skip); (first | rw [if_pos c10] | rw [if_neg c10] | skip); rw [e_y]; (try unfold m_lenT m_lenIs); (try simp [c1, c3, c5, c6, c7, c8, c9, c10]))  _ _ _ hI (lv_sub hl [0, 1, 3, 4, 5] rfl)
                    · refine lv_aload_n hx hb dX5_lenderOf_126 rfl (lv_at hl 3 rfl) ?_
                      refine lv_iload hx hb dX5_lenderOf_127 (lv_at hl 1 rfl) ?_
                      refine g_callVi (rest := [.int y]) (c_X5_worth l D tb ad hj P M V k (by first | assumption | omega)) rfl rfl gm_X5_worth hx hb hml hown hts hC hI (by decide) (e_x g_us) rfl rfl qm_X5_45 rfl hl.1 rfl ⟨rfl, rfl, by decide, by decide⟩ (Nat.le_of_ble_eq_true rfl) ⟨Nat.zero_le _, Nat.zero_le _⟩ dX5_lenderOf_129 (fun H locs hI => ?_)
                      refine lv_goto (tgt := 145) hx hb dX5_lenderOf_132 (by decide) ?_
                      refine lv_iadd hx hb dX5_lenderOf_145 ?_
                      refine lv_istore_n (lv' := [(3, .int (y + (m_worth V k))), (5, .int 1), (4, .int (nI k)), (0, .ref (ad 7 0)), (1, .int (nI l1)), (2, .int w)]) hx hb dX5_lenderOf_146 rfl hl (by decide) rfl (fun ls hl => ?_)
                      refine lv_iinc (v := nI (k + 1)) (lv' := [(4, .int (nI (k + 1))), (3, .int (y + (m_worth V k))), (5, .int 1), (0, .ref (ad 7 0)), (1, .int (nI l1)), (2, .int w)]) hx hb dX5_lenderOf_147 hl (k := 2) rfl (nI_1 _) (by decide) rfl (fun ls hl => ?_)
                      refine lv_goto (tgt := 41) hx hb dX5_lenderOf_150 (by decide) ?_
                      exact ih41 (k + 1) _ (by omega) (by omega) (by exact absurd (c8.symm.trans c10) (by decide))  _ _ _ hI (lv_sub hl [0, 1, 3, 4, 5] rfl)
                  · refine lv_aload_n hx hb dX5_lenderOf_111 rfl (lv_at hl 3 rfl) ?_
                    refine lv_iload hx hb dX5_lenderOf_112 (lv_at hl 1 rfl) ?_
                    refine lv_iconst (v := 5) hx hb dX5_lenderOf_114 (by decide) ?_
                    refine g_callVi (rest := [.int y]) (c_X5_of l D tb ad hj P M V k 5 (by first | assumption | omega) (by first | assumption | omega)) rfl rfl gm_X5_of hx hb hml hown hts hC hI (by decide) (e_x g_us) rfl rfl qm_X5_33 rfl hl.1 rfl ⟨rfl, rfl, by decide, by decide⟩ (Nat.le_of_ble_eq_true rfl) ⟨Nat.zero_le _, Nat.zero_le _⟩ dX5_lenderOf_115 (fun H locs hI => ?_)
                    refine lv_goto (tgt := 145) hx hb dX5_lenderOf_118 (by decide) ?_
                    refine lv_iadd hx hb dX5_lenderOf_145 ?_
                    refine lv_istore_n (lv' := [(3, .int (y + (V 1 (34 + 7 * k + 5)))), (5, .int 1), (4, .int (nI k)), (0, .ref (ad 7 0)), (1, .int (nI l1)), (2, .int w)]) hx hb dX5_lenderOf_146 rfl hl (by decide) rfl (fun ls hl => ?_)
                    refine lv_iinc (v := nI (k + 1)) (lv' := [(4, .int (nI (k + 1))), (3, .int (y + (V 1 (34 + 7 * k + 5)))), (5, .int 1), (0, .ref (ad 7 0)), (1, .int (nI l1)), (2, .int w)]) hx hb dX5_lenderOf_147 hl (k := 2) rfl (nI_1 _) (by decide) rfl (fun ls hl => ?_)
                    refine lv_goto (tgt := 41) hx hb dX5_lenderOf_150 (by decide) ?_
                    exact ih41 (k + 1) _ (by omega) (by omega) (by exact absurd (c8.symm.trans c9) (by decide))  _ _ _ hI (lv_sub hl [0, 1, 3, 4, 5] rfl)
                · refine lv_iload_n hx hb dX5_lenderOf_67 rfl (lv_at hl 4 rfl) ?_
                  refine lv_iconst (v := 3) hx hb dX5_lenderOf_68 (by decide) ?_
                  refine lv_icmp_ne (tgt := 83) hx hb dX5_lenderOf_69 (by decide) (fun c12 => ?_) (fun c12 => ?_)
                  · refine lv_iload_n hx hb dX5_lenderOf_83 rfl (lv_at hl 4 rfl) ?_
                    refine lv_iconst (v := 5) hx hb dX5_lenderOf_84 (by decide) ?_
                    refine lv_icmp_ne (tgt := 102) hx hb dX5_lenderOf_85 (by decide) (fun c13 => ?_) (fun c13 => ?_)
                    · refine lv_iconst (v := 0) hx hb dX5_lenderOf_102 (by decide) ?_
                      refine lv_istore (lv' := [(5, .int 0), (4, .int (nI k)), (3, .int y), (0, .ref (ad 7 0)), (1, .int (nI l1)), (2, .int w)]) hx hb dX5_lenderOf_103 hl (by decide) rfl (fun ls hl => ?_)
                      refine lv_iload_n hx hb dX5_lenderOf_105 rfl (lv_at hl 2 rfl) ?_
                      refine lv_iload_n hx hb dX5_lenderOf_106 rfl (lv_at hl 5 rfl) ?_
                      refine lv_iconst (v := 1) hx hb dX5_lenderOf_107 (by decide) ?_
                      refine lv_icmp_ne (tgt := 121) hx hb dX5_lenderOf_108 (by decide) (fun c14 => ?_) (fun c14 => ?_)
                      · refine lv_iload_n hx hb dX5_lenderOf_121 rfl (lv_at hl 5 rfl) ?_
                        refine lv_iconst (v := 2) hx hb dX5_lenderOf_122 (by decide) ?_
                        refine lv_icmp_ne (tgt := 135) hx hb dX5_lenderOf_123 (by decide) (fun c15 => ?_) (fun c15 => ?_)
                        · refine lv_iload hx hb dX5_lenderOf_135 (lv_at hl 0 rfl) ?_
                          refine lv_if_eq (tgt := 144) hx hb dX5_lenderOf_137 (by decide) (fun _ => ?_) (fun c16 => absurd c16 (by decide))
                          refine lv_iconst (v := 0) hx hb dX5_lenderOf_144 (by decide) ?_
                          refine lv_iadd hx hb dX5_lenderOf_145 ?_
                          refine lv_istore_n (lv' := [(3, .int (y + 0)), (5, .int 0), (4, .int (nI k)), (0, .ref (ad 7 0)), (1, .int (nI l1)), (2, .int w)]) hx hb dX5_lenderOf_146 rfl hl (by decide) rfl (fun ls hl => ?_)
                          refine lv_iinc (v := nI (k + 1)) (lv' := [(4, .int (nI (k + 1))), (3, .int (y + 0)), (5, .int 0), (0, .ref (ad 7 0)), (1, .int (nI l1)), (2, .int w)]) hx hb dX5_lenderOf_147 hl (k := 2) rfl (nI_1 _) (by decide) rfl (fun ls hl => ?_)
                          refine lv_goto (tgt := 41) hx hb dX5_lenderOf_150 (by decide) ?_
                          exact ih41 (k + 1) _ (by omega) (by omega) (by rw [k_sum, m_lenF]; (first | rw [if_pos c1] | rw [if_neg c1] | skip); (first | rw [if_pos c3] | rw [if_neg c3] | skip); (first | rw [if_pos c5] | rw [if_neg c5] | skip); (first | rw [if_pos c6] | rw [if_neg c6] | skip); (first | rw [if_pos c7] | rw [if_neg c7] | skip); (first | rw [if_pos c8] | rw [if_neg c8] | skip); (first | rw [if_pos c12] | rw [if_neg c12] | skip); (first | rw [if_pos c13] | rw [if_neg c13] | skip); (first | rw [if_pos c14] | rw [if_neg c14] | skip); (first | rw [if_pos c15] | rw [if_neg c15] | skip); rw [e_y]; (try unfold m_lenT m_lenIs); (try simp [c1, c3, c5, c6, c7, c8, c12, c13, c14, c15]))  _ _ _ hI (lv_sub hl [0, 1, 3, 4, 5] rfl)
                        · refine lv_aload_n hx hb dX5_lenderOf_126 rfl (lv_at hl 3 rfl) ?_
                          refine lv_iload hx hb dX5_lenderOf_127 (lv_at hl 1 rfl) ?_
                          refine g_callVi (rest := [.int y]) (c_X5_worth l D tb ad hj P M V k (by first | assumption | omega)) rfl rfl gm_X5_worth hx hb hml hown hts hC hI (by decide) (e_x g_us) rfl rfl qm_X5_45 rfl hl.1 rfl ⟨rfl, rfl, by decide, by decide⟩ (Nat.le_of_ble_eq_true rfl) ⟨Nat.zero_le _, Nat.zero_le _⟩ dX5_lenderOf_129 (fun H locs hI => ?_)
                          refine lv_goto (tgt := 145) hx hb dX5_lenderOf_132 (by decide) ?_
                          refine lv_iadd hx hb dX5_lenderOf_145 ?_
                          refine lv_istore_n (lv' := [(3, .int (y + (m_worth V k))), (5, .int 0), (4, .int (nI k)), (0, .ref (ad 7 0)), (1, .int (nI l1)), (2, .int w)]) hx hb dX5_lenderOf_146 rfl hl (by decide) rfl (fun ls hl => ?_)
                          refine lv_iinc (v := nI (k + 1)) (lv' := [(4, .int (nI (k + 1))), (3, .int (y + (m_worth V k))), (5, .int 0), (0, .ref (ad 7 0)), (1, .int (nI l1)), (2, .int w)]) hx hb dX5_lenderOf_147 hl (k := 2) rfl (nI_1 _) (by decide) rfl (fun ls hl => ?_)
                          refine lv_goto (tgt := 41) hx hb dX5_lenderOf_150 (by decide) ?_
                          exact ih41 (k + 1) _ (by omega) (by omega) (by rw [k_sum, m_lenF]; (first | rw [if_pos c1] | rw [if_neg c1] | skip); (first | rw [if_pos c3] | rw [if_neg c3] | skip); (first | rw [if_pos c5] | rw [if_neg c5] | skip); (first | rw [if_pos c6] | rw [if_neg c6] | skip); (first | rw [if_pos c7] | rw [if_neg c7] | skip); (first | rw [if_pos c8] | rw [if_neg c8] | skip); (first | rw [if_pos c12] | rw [if_neg c12] | skip); (first | rw [if_pos c13] | rw [if_neg c13] | skip); (first | rw [if_pos c14] | rw [if_neg c14] | skip); (first | rw [if_pos c15] | rw [if_neg c15] | skip); rw [e_y]; (try unfold m_lenT m_lenIs); (try simp [c1, c3, c5, c6, c7, c8, c12, c13, c14, c15]))  _ _ _ hI (lv_sub hl [0, 1, 3, 4, 5] rfl)
                      · refine lv_aload_n hx hb dX5_lenderOf_111 rfl (lv_at hl 3 rfl) ?_
                        refine lv_iload hx hb dX5_lenderOf_112 (lv_at hl 1 rfl) ?_
                        refine lv_iconst (v := 5) hx hb dX5_lenderOf_114 (by decide) ?_
                        refine g_callVi (rest := [.int y]) (c_X5_of l D tb ad hj P M V k 5 (by first | assumption | omega) (by first | assumption | omega)) rfl rfl gm_X5_of hx hb hml hown hts hC hI (by decide) (e_x g_us) rfl rfl qm_X5_33 rfl hl.1 rfl ⟨rfl, rfl, by decide, by decide⟩ (Nat.le_of_ble_eq_true rfl) ⟨Nat.zero_le _, Nat.zero_le _⟩ dX5_lenderOf_115 (fun H locs hI => ?_)
                        refine lv_goto (tgt := 145) hx hb dX5_lenderOf_118 (by decide) ?_
                        refine lv_iadd hx hb dX5_lenderOf_145 ?_
                        refine lv_istore_n (lv' := [(3, .int (y + (V 1 (34 + 7 * k + 5)))), (5, .int 0), (4, .int (nI k)), (0, .ref (ad 7 0)), (1, .int (nI l1)), (2, .int w)]) hx hb dX5_lenderOf_146 rfl hl (by decide) rfl (fun ls hl => ?_)
                        refine lv_iinc (v := nI (k + 1)) (lv' := [(4, .int (nI (k + 1))), (3, .int (y + (V 1 (34 + 7 * k + 5)))), (5, .int 0), (0, .ref (ad 7 0)), (1, .int (nI l1)), (2, .int w)]) hx hb dX5_lenderOf_147 hl (k := 2) rfl (nI_1 _) (by decide) rfl (fun ls hl => ?_)
                        refine lv_goto (tgt := 41) hx hb dX5_lenderOf_150 (by decide) ?_
                        exact ih41 (k + 1) _ (by omega) (by omega) (by rw [k_sum, m_lenF]; (first | rw [if_pos c1] | rw [if_neg c1] | skip); (first | rw [if_pos c3] | rw [if_neg c3] | skip); (first | rw [if_pos c5] | rw [if_neg c5] | skip); (first | rw [if_pos c6] | rw [if_neg c6] | skip); (first | rw [if_pos c7] | rw [if_neg c7] | skip); (first | rw [if_pos c8] | rw [if_neg c8] | skip); (first | rw [if_pos c12] | rw [if_neg c12] | skip); (first | rw [if_pos c13] | rw [if_neg c13] | skip); (first | rw [if_pos c14] | rw [if_neg c14] | skip); rw [e_y]; (try unfold m_lenT m_lenIs); (try simp [c1, c3, c5, c6, c7, c8, c12, c13, c14]))  _ _ _ hI (lv_sub hl [0, 1, 3, 4, 5] rfl)
                    · refine lv_aload_n hx hb dX5_lenderOf_88 rfl (lv_at hl 2 rfl) ?_
                      refine lv_iload hx hb dX5_lenderOf_89 (lv_at hl 0 rfl) ?_
                      refine lv_iload_n hx hb dX5_lenderOf_91 rfl (lv_at hl 3 rfl) ?_
                      refine g_callVi (rest := []) (c_X5_wouldCall l D tb ad hj P M V k (nI l1) (by first | assumption | omega)) rfl rfl gm_X5_wouldCall hx hb hml hown hts hC hI (by decide) (e_x g_us) rfl rfl qm_X5_97 rfl hl.1 rfl ⟨rfl, rfl, by decide, by decide⟩ (Nat.le_of_ble_eq_true rfl) ⟨Nat.zero_le _, Nat.zero_le _⟩ dX5_lenderOf_92 (fun H locs hI => ?_)
                      refine g_tf (fun c17 => ?_) (fun c17 => ?_)
                      · refine lv_if_eq (tgt := 102) hx hb dX5_lenderOf_95 (by decide) (fun c18 => absurd c18 (by decide)) (fun _ => ?_)
                        refine lv_iconst (v := 1) hx hb dX5_lenderOf_98 (by decide) ?_
                        refine lv_goto (tgt := 103) hx hb dX5_lenderOf_99 (by decide) ?_
                        refine lv_istore (lv' := [(5, .int 1), (4, .int (nI k)), (3, .int y), (0, .ref (ad 7 0)), (1, .int (nI l1)), (2, .int w)]) hx hb dX5_lenderOf_103 hl (by decide) rfl (fun ls hl => ?_)
                        refine lv_iload_n hx hb dX5_lenderOf_105 rfl (lv_at hl 2 rfl) ?_
                        refine lv_iload_n hx hb dX5_lenderOf_106 rfl (lv_at hl 5 rfl) ?_
                        refine lv_iconst (v := 1) hx hb dX5_lenderOf_107 (by decide) ?_
                        refine lv_icmp_ne (tgt := 121) hx hb dX5_lenderOf_108 (by decide) (fun c19 => ?_) (fun c19 => ?_)
                        · refine lv_iload_n hx hb dX5_lenderOf_121 rfl (lv_at hl 5 rfl) ?_
                          refine lv_iconst (v := 2) hx hb dX5_lenderOf_122 (by decide) ?_
                          refine lv_icmp_ne (tgt := 135) hx hb dX5_lenderOf_123 (by decide) (fun c20 => ?_) (fun c20 => ?_)
                          · refine lv_iload hx hb dX5_lenderOf_135 (lv_at hl 0 rfl) ?_
                            refine lv_if_eq (tgt := 144) hx hb dX5_lenderOf_137 (by decide) (fun c21 => absurd c21 (by decide)) (fun _ => ?_)
                            refine lv_iconst (v := 1) hx hb dX5_lenderOf_140 (by decide) ?_
                            refine lv_goto (tgt := 145) hx hb dX5_lenderOf_141 (by decide) ?_
                            refine lv_iadd hx hb dX5_lenderOf_145 ?_
                            refine lv_istore_n (lv' := [(3, .int (y + 1)), (5, .int 1), (4, .int (nI k)), (0, .ref (ad 7 0)), (1, .int (nI l1)), (2, .int w)]) hx hb dX5_lenderOf_146 rfl hl (by decide) rfl (fun ls hl => ?_)
                            refine lv_iinc (v := nI (k + 1)) (lv' := [(4, .int (nI (k + 1))), (3, .int (y + 1)), (5, .int 1), (0, .ref (ad 7 0)), (1, .int (nI l1)), (2, .int w)]) hx hb dX5_lenderOf_147 hl (k := 2) rfl (nI_1 _) (by decide) rfl (fun ls hl => ?_)
                            refine lv_goto (tgt := 41) hx hb dX5_lenderOf_150 (by decide) ?_
                            exact ih41 (k + 1) _ (by omega) (by omega) (by rw [k_sum, m_lenF]; (first | rw [if_pos c1] | rw [if_neg c1] | skip); (first | rw [if_pos c3] | rw [if_neg c3] | skip); (first | rw [if_pos c5] | rw [if_neg c5] | skip); (first | rw [if_pos c6] | rw [if_neg c6] | skip); (first | rw [if_pos c7] | rw [if_neg c7] | skip); (first | rw [if_pos c8] | rw [if_neg c8] | skip); (first | rw [if_pos c12] | rw [if_neg c12] | skip); (first | rw [if_pos c13] | rw [if_neg c13] | skip); (first | rw [if_pos c17] | rw [if_neg c17] | skip); (first | rw [if_pos c19] | rw [if_neg c19] | skip); (first | rw [if_pos c20] | rw [if_neg c20] | skip); rw [e_y]; (try unfold m_lenT m_lenIs); (try simp [c1, c3, c5, c6, c7, c8, c12, c13, c17, c19, c20]))  _ _ _ hI (lv_sub hl [0, 1, 3, 4, 5] rfl)
                          · refine lv_aload_n hx hb dX5_lenderOf_126 rfl (lv_at hl 3 rfl) ?_
                            refine lv_iload hx hb dX5_lenderOf_127 (lv_at hl 1 rfl) ?_
                            refine g_callVi (rest := [.int y]) (c_X5_worth l D tb ad hj P M V k (by first | assumption | omega)) rfl rfl gm_X5_worth hx hb hml hown hts hC hI (by decide) (e_x g_us) rfl rfl qm_X5_45 rfl hl.1 rfl ⟨rfl, rfl, by decide, by decide⟩ (Nat.le_of_ble_eq_true rfl) ⟨Nat.zero_le _, Nat.zero_le _⟩ dX5_lenderOf_129 (fun H locs hI => ?_)
                            refine lv_goto (tgt := 145) hx hb dX5_lenderOf_132 (by decide) ?_
                            refine lv_iadd hx hb dX5_lenderOf_145 ?_
                            refine lv_istore_n (lv' := [(3, .int (y + (m_worth V k))), (5, .int 1), (4, .int (nI k)), (0, .ref (ad 7 0)), (1, .int (nI l1)), (2, .int w)]) hx hb dX5_lenderOf_146 rfl hl (by decide) rfl (fun ls hl => ?_)
                            refine lv_iinc (v := nI (k + 1)) (lv' := [(4, .int (nI (k + 1))), (3, .int (y + (m_worth V k))), (5, .int 1), (0, .ref (ad 7 0)), (1, .int (nI l1)), (2, .int w)]) hx hb dX5_lenderOf_147 hl (k := 2) rfl (nI_1 _) (by decide) rfl (fun ls hl => ?_)
                            refine lv_goto (tgt := 41) hx hb dX5_lenderOf_150 (by decide) ?_
                            exact ih41 (k + 1) _ (by omega) (by omega) (by exact absurd (c13.symm.trans c20) (by decide))  _ _ _ hI (lv_sub hl [0, 1, 3, 4, 5] rfl)
                        · refine lv_aload_n hx hb dX5_lenderOf_111 rfl (lv_at hl 3 rfl) ?_
                          refine lv_iload hx hb dX5_lenderOf_112 (lv_at hl 1 rfl) ?_
                          refine lv_iconst (v := 5) hx hb dX5_lenderOf_114 (by decide) ?_
                          refine g_callVi (rest := [.int y]) (c_X5_of l D tb ad hj P M V k 5 (by first | assumption | omega) (by first | assumption | omega)) rfl rfl gm_X5_of hx hb hml hown hts hC hI (by decide) (e_x g_us) rfl rfl qm_X5_33 rfl hl.1 rfl ⟨rfl, rfl, by decide, by decide⟩ (Nat.le_of_ble_eq_true rfl) ⟨Nat.zero_le _, Nat.zero_le _⟩ dX5_lenderOf_115 (fun H locs hI => ?_)
                          refine lv_goto (tgt := 145) hx hb dX5_lenderOf_118 (by decide) ?_
                          refine lv_iadd hx hb dX5_lenderOf_145 ?_
                          refine lv_istore_n (lv' := [(3, .int (y + (V 1 (34 + 7 * k + 5)))), (5, .int 1), (4, .int (nI k)), (0, .ref (ad 7 0)), (1, .int (nI l1)), (2, .int w)]) hx hb dX5_lenderOf_146 rfl hl (by decide) rfl (fun ls hl => ?_)
                          refine lv_iinc (v := nI (k + 1)) (lv' := [(4, .int (nI (k + 1))), (3, .int (y + (V 1 (34 + 7 * k + 5)))), (5, .int 1), (0, .ref (ad 7 0)), (1, .int (nI l1)), (2, .int w)]) hx hb dX5_lenderOf_147 hl (k := 2) rfl (nI_1 _) (by decide) rfl (fun ls hl => ?_)
                          refine lv_goto (tgt := 41) hx hb dX5_lenderOf_150 (by decide) ?_
                          exact ih41 (k + 1) _ (by omega) (by omega) (by exact absurd (c13.symm.trans c19) (by decide))  _ _ _ hI (lv_sub hl [0, 1, 3, 4, 5] rfl)
                      · refine lv_if_eq (tgt := 102) hx hb dX5_lenderOf_95 (by decide) (fun _ => ?_) (fun c22 => absurd c22 (by decide))
                        refine lv_iconst (v := 0) hx hb dX5_lenderOf_102 (by decide) ?_
                        refine lv_istore (lv' := [(5, .int 0), (4, .int (nI k)), (3, .int y), (0, .ref (ad 7 0)), (1, .int (nI l1)), (2, .int w)]) hx hb dX5_lenderOf_103 hl (by decide) rfl (fun ls hl => ?_)
                        refine lv_iload_n hx hb dX5_lenderOf_105 rfl (lv_at hl 2 rfl) ?_
                        refine lv_iload_n hx hb dX5_lenderOf_106 rfl (lv_at hl 5 rfl) ?_
                        refine lv_iconst (v := 1) hx hb dX5_lenderOf_107 (by decide) ?_
                        refine lv_icmp_ne (tgt := 121) hx hb dX5_lenderOf_108 (by decide) (fun c23 => ?_) (fun c23 => ?_)
                        · refine lv_iload_n hx hb dX5_lenderOf_121 rfl (lv_at hl 5 rfl) ?_
                          refine lv_iconst (v := 2) hx hb dX5_lenderOf_122 (by decide) ?_
                          refine lv_icmp_ne (tgt := 135) hx hb dX5_lenderOf_123 (by decide) (fun c24 => ?_) (fun c24 => ?_)
                          · refine lv_iload hx hb dX5_lenderOf_135 (lv_at hl 0 rfl) ?_
                            refine lv_if_eq (tgt := 144) hx hb dX5_lenderOf_137 (by decide) (fun _ => ?_) (fun c25 => absurd c25 (by decide))
                            refine lv_iconst (v := 0) hx hb dX5_lenderOf_144 (by decide) ?_
                            refine lv_iadd hx hb dX5_lenderOf_145 ?_
                            refine lv_istore_n (lv' := [(3, .int (y + 0)), (5, .int 0), (4, .int (nI k)), (0, .ref (ad 7 0)), (1, .int (nI l1)), (2, .int w)]) hx hb dX5_lenderOf_146 rfl hl (by decide) rfl (fun ls hl => ?_)
                            refine lv_iinc (v := nI (k + 1)) (lv' := [(4, .int (nI (k + 1))), (3, .int (y + 0)), (5, .int 0), (0, .ref (ad 7 0)), (1, .int (nI l1)), (2, .int w)]) hx hb dX5_lenderOf_147 hl (k := 2) rfl (nI_1 _) (by decide) rfl (fun ls hl => ?_)
                            refine lv_goto (tgt := 41) hx hb dX5_lenderOf_150 (by decide) ?_
                            exact ih41 (k + 1) _ (by omega) (by omega) (by rw [k_sum, m_lenF]; (first | rw [if_pos c1] | rw [if_neg c1] | skip); (first | rw [if_pos c3] | rw [if_neg c3] | skip); (first | rw [if_pos c5] | rw [if_neg c5] | skip); (first | rw [if_pos c6] | rw [if_neg c6] | skip); (first | rw [if_pos c7] | rw [if_neg c7] | skip); (first | rw [if_pos c8] | rw [if_neg c8] | skip); (first | rw [if_pos c12] | rw [if_neg c12] | skip); (first | rw [if_pos c13] | rw [if_neg c13] | skip); (first | rw [if_pos c17] | rw [if_neg c17] | skip); (first | rw [if_pos c23] | rw [if_neg c23] | skip); (first | rw [if_pos c24] | rw [if_neg c24] | skip); rw [e_y]; (try unfold m_lenT m_lenIs); (try simp [c1, c3, c5, c6, c7, c8, c12, c13, c17, c23, c24]))  _ _ _ hI (lv_sub hl [0, 1, 3, 4, 5] rfl)
                          · refine lv_aload_n hx hb dX5_lenderOf_126 rfl (lv_at hl 3 rfl) ?_
                            refine lv_iload hx hb dX5_lenderOf_127 (lv_at hl 1 rfl) ?_
                            refine g_callVi (rest := [.int y]) (c_X5_worth l D tb ad hj P M V k (by first | assumption | omega)) rfl rfl gm_X5_worth hx hb hml hown hts hC hI (by decide) (e_x g_us) rfl rfl qm_X5_45 rfl hl.1 rfl ⟨rfl, rfl, by decide, by decide⟩ (Nat.le_of_ble_eq_true rfl) ⟨Nat.zero_le _, Nat.zero_le _⟩ dX5_lenderOf_129 (fun H locs hI => ?_)
                            refine lv_goto (tgt := 145) hx hb dX5_lenderOf_132 (by decide) ?_
                            refine lv_iadd hx hb dX5_lenderOf_145 ?_
                            refine lv_istore_n (lv' := [(3, .int (y + (m_worth V k))), (5, .int 0), (4, .int (nI k)), (0, .ref (ad 7 0)), (1, .int (nI l1)), (2, .int w)]) hx hb dX5_lenderOf_146 rfl hl (by decide) rfl (fun ls hl => ?_)
                            refine lv_iinc (v := nI (k + 1)) (lv' := [(4, .int (nI (k + 1))), (3, .int (y + (m_worth V k))), (5, .int 0), (0, .ref (ad 7 0)), (1, .int (nI l1)), (2, .int w)]) hx hb dX5_lenderOf_147 hl (k := 2) rfl (nI_1 _) (by decide) rfl (fun ls hl => ?_)
                            refine lv_goto (tgt := 41) hx hb dX5_lenderOf_150 (by decide) ?_
                            exact ih41 (k + 1) _ (by omega) (by omega) (by exact absurd (c13.symm.trans c24) (by decide))  _ _ _ hI (lv_sub hl [0, 1, 3, 4, 5] rfl)
                        · refine lv_aload_n hx hb dX5_lenderOf_111 rfl (lv_at hl 3 rfl) ?_
                          refine lv_iload hx hb dX5_lenderOf_112 (lv_at hl 1 rfl) ?_
                          refine lv_iconst (v := 5) hx hb dX5_lenderOf_114 (by decide) ?_
                          refine g_callVi (rest := [.int y]) (c_X5_of l D tb ad hj P M V k 5 (by first | assumption | omega) (by first | assumption | omega)) rfl rfl gm_X5_of hx hb hml hown hts hC hI (by decide) (e_x g_us) rfl rfl qm_X5_33 rfl hl.1 rfl ⟨rfl, rfl, by decide, by decide⟩ (Nat.le_of_ble_eq_true rfl) ⟨Nat.zero_le _, Nat.zero_le _⟩ dX5_lenderOf_115 (fun H locs hI => ?_)
                          refine lv_goto (tgt := 145) hx hb dX5_lenderOf_118 (by decide) ?_
                          refine lv_iadd hx hb dX5_lenderOf_145 ?_
                          refine lv_istore_n (lv' := [(3, .int (y + (V 1 (34 + 7 * k + 5)))), (5, .int 0), (4, .int (nI k)), (0, .ref (ad 7 0)), (1, .int (nI l1)), (2, .int w)]) hx hb dX5_lenderOf_146 rfl hl (by decide) rfl (fun ls hl => ?_)
                          refine lv_iinc (v := nI (k + 1)) (lv' := [(4, .int (nI (k + 1))), (3, .int (y + (V 1 (34 + 7 * k + 5)))), (5, .int 0), (0, .ref (ad 7 0)), (1, .int (nI l1)), (2, .int w)]) hx hb dX5_lenderOf_147 hl (k := 2) rfl (nI_1 _) (by decide) rfl (fun ls hl => ?_)
                          refine lv_goto (tgt := 41) hx hb dX5_lenderOf_150 (by decide) ?_
                          exact ih41 (k + 1) _ (by omega) (by omega) (by exact absurd (c13.symm.trans c23) (by decide))  _ _ _ hI (lv_sub hl [0, 1, 3, 4, 5] rfl)
                  · refine lv_aload_n hx hb dX5_lenderOf_72 rfl (lv_at hl 2 rfl) ?_
                    refine lv_iload hx hb dX5_lenderOf_73 (lv_at hl 0 rfl) ?_
                    refine lv_bipush (v := 6) hx hb dX5_lenderOf_75 (by decide) ?_
                    refine g_callVi (rest := []) (c_X5_of l D tb ad hj P M V k 6 (by first | assumption | omega) (by first | assumption | omega)) rfl rfl gm_X5_of hx hb hml hown hts hC hI (by decide) (e_x g_us) rfl rfl qm_X5_33 rfl hl.1 rfl ⟨rfl, rfl, by decide, by decide⟩ (Nat.le_of_ble_eq_true rfl) ⟨Nat.zero_le _, Nat.zero_le _⟩ dX5_lenderOf_77 (fun H locs hI => ?_)
                    refine lv_if_gt (tgt := 98) hx hb dX5_lenderOf_80 (by decide) (fun c26 => ?_) (fun c26 => ?_)
                    · refine lv_iconst (v := 1) hx hb dX5_lenderOf_98 (by decide) ?_
                      refine lv_goto (tgt := 103) hx hb dX5_lenderOf_99 (by decide) ?_
                      refine lv_istore (lv' := [(5, .int 1), (4, .int (nI k)), (3, .int y), (0, .ref (ad 7 0)), (1, .int (nI l1)), (2, .int w)]) hx hb dX5_lenderOf_103 hl (by decide) rfl (fun ls hl => ?_)
                      refine lv_iload_n hx hb dX5_lenderOf_105 rfl (lv_at hl 2 rfl) ?_
                      refine lv_iload_n hx hb dX5_lenderOf_106 rfl (lv_at hl 5 rfl) ?_
                      refine lv_iconst (v := 1) hx hb dX5_lenderOf_107 (by decide) ?_
                      refine lv_icmp_ne (tgt := 121) hx hb dX5_lenderOf_108 (by decide) (fun c27 => ?_) (fun c27 => ?_)
                      · refine lv_iload_n hx hb dX5_lenderOf_121 rfl (lv_at hl 5 rfl) ?_
                        refine lv_iconst (v := 2) hx hb dX5_lenderOf_122 (by decide) ?_
                        refine lv_icmp_ne (tgt := 135) hx hb dX5_lenderOf_123 (by decide) (fun c28 => ?_) (fun c28 => ?_)
                        · refine lv_iload hx hb dX5_lenderOf_135 (lv_at hl 0 rfl) ?_
                          refine lv_if_eq (tgt := 144) hx hb dX5_lenderOf_137 (by decide) (fun c29 => absurd c29 (by decide)) (fun _ => ?_)
                          refine lv_iconst (v := 1) hx hb dX5_lenderOf_140 (by decide) ?_
                          refine lv_goto (tgt := 145) hx hb dX5_lenderOf_141 (by decide) ?_
                          refine lv_iadd hx hb dX5_lenderOf_145 ?_
                          refine lv_istore_n (lv' := [(3, .int (y + 1)), (5, .int 1), (4, .int (nI k)), (0, .ref (ad 7 0)), (1, .int (nI l1)), (2, .int w)]) hx hb dX5_lenderOf_146 rfl hl (by decide) rfl (fun ls hl => ?_)
                          refine lv_iinc (v := nI (k + 1)) (lv' := [(4, .int (nI (k + 1))), (3, .int (y + 1)), (5, .int 1), (0, .ref (ad 7 0)), (1, .int (nI l1)), (2, .int w)]) hx hb dX5_lenderOf_147 hl (k := 2) rfl (nI_1 _) (by decide) rfl (fun ls hl => ?_)
                          refine lv_goto (tgt := 41) hx hb dX5_lenderOf_150 (by decide) ?_
                          exact ih41 (k + 1) _ (by omega) (by omega) (by rw [k_sum, m_lenF]; (first | rw [if_pos c1] | rw [if_neg c1] | skip); (first | rw [if_pos c3] | rw [if_neg c3] | skip); (first | rw [if_pos c5] | rw [if_neg c5] | skip); (first | rw [if_pos c6] | rw [if_neg c6] | skip); (first | rw [if_pos c7] | rw [if_neg c7] | skip); (first | rw [if_pos c8] | rw [if_neg c8] | skip); (first | rw [if_pos c12] | rw [if_neg c12] | skip); (first | rw [if_pos c26] | rw [if_neg c26] | skip); (first | rw [if_pos c27] | rw [if_neg c27] | skip); (first | rw [if_pos c28] | rw [if_neg c28] | skip); rw [e_y]; (try unfold m_lenT m_lenIs); (try simp [c1, c3, c5, c6, c7, c8, c12, c26, c27, c28]))  _ _ _ hI (lv_sub hl [0, 1, 3, 4, 5] rfl)
                        · refine lv_aload_n hx hb dX5_lenderOf_126 rfl (lv_at hl 3 rfl) ?_
                          refine lv_iload hx hb dX5_lenderOf_127 (lv_at hl 1 rfl) ?_
                          refine g_callVi (rest := [.int y]) (c_X5_worth l D tb ad hj P M V k (by first | assumption | omega)) rfl rfl gm_X5_worth hx hb hml hown hts hC hI (by decide) (e_x g_us) rfl rfl qm_X5_45 rfl hl.1 rfl ⟨rfl, rfl, by decide, by decide⟩ (Nat.le_of_ble_eq_true rfl) ⟨Nat.zero_le _, Nat.zero_le _⟩ dX5_lenderOf_129 (fun H locs hI => ?_)
                          refine lv_goto (tgt := 145) hx hb dX5_lenderOf_132 (by decide) ?_
                          refine lv_iadd hx hb dX5_lenderOf_145 ?_
                          refine lv_istore_n (lv' := [(3, .int (y + (m_worth V k))), (5, .int 1), (4, .int (nI k)), (0, .ref (ad 7 0)), (1, .int (nI l1)), (2, .int w)]) hx hb dX5_lenderOf_146 rfl hl (by decide) rfl (fun ls hl => ?_)
                          refine lv_iinc (v := nI (k + 1)) (lv' := [(4, .int (nI (k + 1))), (3, .int (y + (m_worth V k))), (5, .int 1), (0, .ref (ad 7 0)), (1, .int (nI l1)), (2, .int w)]) hx hb dX5_lenderOf_147 hl (k := 2) rfl (nI_1 _) (by decide) rfl (fun ls hl => ?_)
                          refine lv_goto (tgt := 41) hx hb dX5_lenderOf_150 (by decide) ?_
                          exact ih41 (k + 1) _ (by omega) (by omega) (by exact absurd (c12.symm.trans c28) (by decide))  _ _ _ hI (lv_sub hl [0, 1, 3, 4, 5] rfl)
                      · refine lv_aload_n hx hb dX5_lenderOf_111 rfl (lv_at hl 3 rfl) ?_
                        refine lv_iload hx hb dX5_lenderOf_112 (lv_at hl 1 rfl) ?_
                        refine lv_iconst (v := 5) hx hb dX5_lenderOf_114 (by decide) ?_
                        refine g_callVi (rest := [.int y]) (c_X5_of l D tb ad hj P M V k 5 (by first | assumption | omega) (by first | assumption | omega)) rfl rfl gm_X5_of hx hb hml hown hts hC hI (by decide) (e_x g_us) rfl rfl qm_X5_33 rfl hl.1 rfl ⟨rfl, rfl, by decide, by decide⟩ (Nat.le_of_ble_eq_true rfl) ⟨Nat.zero_le _, Nat.zero_le _⟩ dX5_lenderOf_115 (fun H locs hI => ?_)
                        refine lv_goto (tgt := 145) hx hb dX5_lenderOf_118 (by decide) ?_
                        refine lv_iadd hx hb dX5_lenderOf_145 ?_
                        refine lv_istore_n (lv' := [(3, .int (y + (V 1 (34 + 7 * k + 5)))), (5, .int 1), (4, .int (nI k)), (0, .ref (ad 7 0)), (1, .int (nI l1)), (2, .int w)]) hx hb dX5_lenderOf_146 rfl hl (by decide) rfl (fun ls hl => ?_)
                        refine lv_iinc (v := nI (k + 1)) (lv' := [(4, .int (nI (k + 1))), (3, .int (y + (V 1 (34 + 7 * k + 5)))), (5, .int 1), (0, .ref (ad 7 0)), (1, .int (nI l1)), (2, .int w)]) hx hb dX5_lenderOf_147 hl (k := 2) rfl (nI_1 _) (by decide) rfl (fun ls hl => ?_)
                        refine lv_goto (tgt := 41) hx hb dX5_lenderOf_150 (by decide) ?_
                        exact ih41 (k + 1) _ (by omega) (by omega) (by exact absurd (c12.symm.trans c27) (by decide))  _ _ _ hI (lv_sub hl [0, 1, 3, 4, 5] rfl)
                    · refine lv_iload_n hx hb dX5_lenderOf_83 rfl (lv_at hl 4 rfl) ?_
                      refine lv_iconst (v := 5) hx hb dX5_lenderOf_84 (by decide) ?_
                      refine lv_icmp_ne (tgt := 102) hx hb dX5_lenderOf_85 (by decide) (fun c30 => ?_) (fun c30 => ?_)
                      · refine lv_iconst (v := 0) hx hb dX5_lenderOf_102 (by decide) ?_
                        refine lv_istore (lv' := [(5, .int 0), (4, .int (nI k)), (3, .int y), (0, .ref (ad 7 0)), (1, .int (nI l1)), (2, .int w)]) hx hb dX5_lenderOf_103 hl (by decide) rfl (fun ls hl => ?_)
                        refine lv_iload_n hx hb dX5_lenderOf_105 rfl (lv_at hl 2 rfl) ?_
                        refine lv_iload_n hx hb dX5_lenderOf_106 rfl (lv_at hl 5 rfl) ?_
                        refine lv_iconst (v := 1) hx hb dX5_lenderOf_107 (by decide) ?_
                        refine lv_icmp_ne (tgt := 121) hx hb dX5_lenderOf_108 (by decide) (fun c31 => ?_) (fun c31 => ?_)
                        · refine lv_iload_n hx hb dX5_lenderOf_121 rfl (lv_at hl 5 rfl) ?_
                          refine lv_iconst (v := 2) hx hb dX5_lenderOf_122 (by decide) ?_
                          refine lv_icmp_ne (tgt := 135) hx hb dX5_lenderOf_123 (by decide) (fun c32 => ?_) (fun c32 => ?_)
                          · refine lv_iload hx hb dX5_lenderOf_135 (lv_at hl 0 rfl) ?_
                            refine lv_if_eq (tgt := 144) hx hb dX5_lenderOf_137 (by decide) (fun _ => ?_) (fun c33 => absurd c33 (by decide))
                            refine lv_iconst (v := 0) hx hb dX5_lenderOf_144 (by decide) ?_
                            refine lv_iadd hx hb dX5_lenderOf_145 ?_
                            refine lv_istore_n (lv' := [(3, .int (y + 0)), (5, .int 0), (4, .int (nI k)), (0, .ref (ad 7 0)), (1, .int (nI l1)), (2, .int w)]) hx hb dX5_lenderOf_146 rfl hl (by decide) rfl (fun ls hl => ?_)
                            refine lv_iinc (v := nI (k + 1)) (lv' := [(4, .int (nI (k + 1))), (3, .int (y + 0)), (5, .int 0), (0, .ref (ad 7 0)), (1, .int (nI l1)), (2, .int w)]) hx hb dX5_lenderOf_147 hl (k := 2) rfl (nI_1 _) (by decide) rfl (fun ls hl => ?_)
                            refine lv_goto (tgt := 41) hx hb dX5_lenderOf_150 (by decide) ?_
                            exact ih41 (k + 1) _ (by omega) (by omega) (by rw [k_sum, m_lenF]; (first | rw [if_pos c1] | rw [if_neg c1] | skip); (first | rw [if_pos c3] | rw [if_neg c3] | skip); (first | rw [if_pos c5] | rw [if_neg c5] | skip); (first | rw [if_pos c6] | rw [if_neg c6] | skip); (first | rw [if_pos c7] | rw [if_neg c7] | skip); (first | rw [if_pos c8] | rw [if_neg c8] | skip); (first | rw [if_pos c12] | rw [if_neg c12] | skip); (first | rw [if_pos c26] | rw [if_neg c26] | skip); (first | rw [if_pos c30] | rw [if_neg c30] | skip); (first | rw [if_pos c31] | rw [if_neg c31] | skip); (first | rw [if_pos c32] | rw [if_neg c32] | skip); rw [e_y]; (try unfold m_lenT m_lenIs); (try simp [c1, c3, c5, c6, c7, c8, c12, c26, c30, c31, c32]))  _ _ _ hI (lv_sub hl [0, 1, 3, 4, 5] rfl)
                          · refine lv_aload_n hx hb dX5_lenderOf_126 rfl (lv_at hl 3 rfl) ?_
                            refine lv_iload hx hb dX5_lenderOf_127 (lv_at hl 1 rfl) ?_
                            refine g_callVi (rest := [.int y]) (c_X5_worth l D tb ad hj P M V k (by first | assumption | omega)) rfl rfl gm_X5_worth hx hb hml hown hts hC hI (by decide) (e_x g_us) rfl rfl qm_X5_45 rfl hl.1 rfl ⟨rfl, rfl, by decide, by decide⟩ (Nat.le_of_ble_eq_true rfl) ⟨Nat.zero_le _, Nat.zero_le _⟩ dX5_lenderOf_129 (fun H locs hI => ?_)
                            refine lv_goto (tgt := 145) hx hb dX5_lenderOf_132 (by decide) ?_
                            refine lv_iadd hx hb dX5_lenderOf_145 ?_
                            refine lv_istore_n (lv' := [(3, .int (y + (m_worth V k))), (5, .int 0), (4, .int (nI k)), (0, .ref (ad 7 0)), (1, .int (nI l1)), (2, .int w)]) hx hb dX5_lenderOf_146 rfl hl (by decide) rfl (fun ls hl => ?_)
                            refine lv_iinc (v := nI (k + 1)) (lv' := [(4, .int (nI (k + 1))), (3, .int (y + (m_worth V k))), (5, .int 0), (0, .ref (ad 7 0)), (1, .int (nI l1)), (2, .int w)]) hx hb dX5_lenderOf_147 hl (k := 2) rfl (nI_1 _) (by decide) rfl (fun ls hl => ?_)
                            refine lv_goto (tgt := 41) hx hb dX5_lenderOf_150 (by decide) ?_
                            exact ih41 (k + 1) _ (by omega) (by omega) (by exact absurd (c12.symm.trans c32) (by decide))  _ _ _ hI (lv_sub hl [0, 1, 3, 4, 5] rfl)
                        · refine lv_aload_n hx hb dX5_lenderOf_111 rfl (lv_at hl 3 rfl) ?_
                          refine lv_iload hx hb dX5_lenderOf_112 (lv_at hl 1 rfl) ?_
                          refine lv_iconst (v := 5) hx hb dX5_lenderOf_114 (by decide) ?_
                          refine g_callVi (rest := [.int y]) (c_X5_of l D tb ad hj P M V k 5 (by first | assumption | omega) (by first | assumption | omega)) rfl rfl gm_X5_of hx hb hml hown hts hC hI (by decide) (e_x g_us) rfl rfl qm_X5_33 rfl hl.1 rfl ⟨rfl, rfl, by decide, by decide⟩ (Nat.le_of_ble_eq_true rfl) ⟨Nat.zero_le _, Nat.zero_le _⟩ dX5_lenderOf_115 (fun H locs hI => ?_)
                          refine lv_goto (tgt := 145) hx hb dX5_lenderOf_118 (by decide) ?_
                          refine lv_iadd hx hb dX5_lenderOf_145 ?_
                          refine lv_istore_n (lv' := [(3, .int (y + (V 1 (34 + 7 * k + 5)))), (5, .int 0), (4, .int (nI k)), (0, .ref (ad 7 0)), (1, .int (nI l1)), (2, .int w)]) hx hb dX5_lenderOf_146 rfl hl (by decide) rfl (fun ls hl => ?_)
                          refine lv_iinc (v := nI (k + 1)) (lv' := [(4, .int (nI (k + 1))), (3, .int (y + (V 1 (34 + 7 * k + 5)))), (5, .int 0), (0, .ref (ad 7 0)), (1, .int (nI l1)), (2, .int w)]) hx hb dX5_lenderOf_147 hl (k := 2) rfl (nI_1 _) (by decide) rfl (fun ls hl => ?_)
                          refine lv_goto (tgt := 41) hx hb dX5_lenderOf_150 (by decide) ?_
                          exact ih41 (k + 1) _ (by omega) (by omega) (by exact absurd (c12.symm.trans c31) (by decide))  _ _ _ hI (lv_sub hl [0, 1, 3, 4, 5] rfl)
                      · refine lv_aload_n hx hb dX5_lenderOf_88 rfl (lv_at hl 2 rfl) ?_
                        refine lv_iload hx hb dX5_lenderOf_89 (lv_at hl 0 rfl) ?_
                        refine lv_iload_n hx hb dX5_lenderOf_91 rfl (lv_at hl 3 rfl) ?_
                        refine g_callVi (rest := []) (c_X5_wouldCall l D tb ad hj P M V k (nI l1) (by first | assumption | omega)) rfl rfl gm_X5_wouldCall hx hb hml hown hts hC hI (by decide) (e_x g_us) rfl rfl qm_X5_97 rfl hl.1 rfl ⟨rfl, rfl, by decide, by decide⟩ (Nat.le_of_ble_eq_true rfl) ⟨Nat.zero_le _, Nat.zero_le _⟩ dX5_lenderOf_92 (fun H locs hI => ?_)
                        refine g_tf (fun c34 => ?_) (fun c34 => ?_)
                        · refine lv_if_eq (tgt := 102) hx hb dX5_lenderOf_95 (by decide) (fun c35 => absurd c35 (by decide)) (fun _ => ?_)
                          refine lv_iconst (v := 1) hx hb dX5_lenderOf_98 (by decide) ?_
                          refine lv_goto (tgt := 103) hx hb dX5_lenderOf_99 (by decide) ?_
                          refine lv_istore (lv' := [(5, .int 1), (4, .int (nI k)), (3, .int y), (0, .ref (ad 7 0)), (1, .int (nI l1)), (2, .int w)]) hx hb dX5_lenderOf_103 hl (by decide) rfl (fun ls hl => ?_)
                          refine lv_iload_n hx hb dX5_lenderOf_105 rfl (lv_at hl 2 rfl) ?_
                          refine lv_iload_n hx hb dX5_lenderOf_106 rfl (lv_at hl 5 rfl) ?_
                          refine lv_iconst (v := 1) hx hb dX5_lenderOf_107 (by decide) ?_
                          refine lv_icmp_ne (tgt := 121) hx hb dX5_lenderOf_108 (by decide) (fun c36 => ?_) (fun c36 => ?_)
                          · refine lv_iload_n hx hb dX5_lenderOf_121 rfl (lv_at hl 5 rfl) ?_
                            refine lv_iconst (v := 2) hx hb dX5_lenderOf_122 (by decide) ?_
                            refine lv_icmp_ne (tgt := 135) hx hb dX5_lenderOf_123 (by decide) (fun c37 => ?_) (fun c37 => ?_)
                            · refine lv_iload hx hb dX5_lenderOf_135 (lv_at hl 0 rfl) ?_
                              refine lv_if_eq (tgt := 144) hx hb dX5_lenderOf_137 (by decide) (fun c38 => absurd c38 (by decide)) (fun _ => ?_)
                              refine lv_iconst (v := 1) hx hb dX5_lenderOf_140 (by decide) ?_
                              refine lv_goto (tgt := 145) hx hb dX5_lenderOf_141 (by decide) ?_
                              refine lv_iadd hx hb dX5_lenderOf_145 ?_
                              refine lv_istore_n (lv' := [(3, .int (y + 1)), (5, .int 1), (4, .int (nI k)), (0, .ref (ad 7 0)), (1, .int (nI l1)), (2, .int w)]) hx hb dX5_lenderOf_146 rfl hl (by decide) rfl (fun ls hl => ?_)
                              refine lv_iinc (v := nI (k + 1)) (lv' := [(4, .int (nI (k + 1))), (3, .int (y + 1)), (5, .int 1), (0, .ref (ad 7 0)), (1, .int (nI l1)), (2, .int w)]) hx hb dX5_lenderOf_147 hl (k := 2) rfl (nI_1 _) (by decide) rfl (fun ls hl => ?_)
                              refine lv_goto (tgt := 41) hx hb dX5_lenderOf_150 (by decide) ?_
                              exact ih41 (k + 1) _ (by omega) (by omega) (by exact absurd (c12.symm.trans c30) (by decide))  _ _ _ hI (lv_sub hl [0, 1, 3, 4, 5] rfl)
                            · refine lv_aload_n hx hb dX5_lenderOf_126 rfl (lv_at hl 3 rfl) ?_
                              refine lv_iload hx hb dX5_lenderOf_127 (lv_at hl 1 rfl) ?_
                              refine g_callVi (rest := [.int y]) (c_X5_worth l D tb ad hj P M V k (by first | assumption | omega)) rfl rfl gm_X5_worth hx hb hml hown hts hC hI (by decide) (e_x g_us) rfl rfl qm_X5_45 rfl hl.1 rfl ⟨rfl, rfl, by decide, by decide⟩ (Nat.le_of_ble_eq_true rfl) ⟨Nat.zero_le _, Nat.zero_le _⟩ dX5_lenderOf_129 (fun H locs hI => ?_)
                              refine lv_goto (tgt := 145) hx hb dX5_lenderOf_132 (by decide) ?_
                              refine lv_iadd hx hb dX5_lenderOf_145 ?_
                              refine lv_istore_n (lv' := [(3, .int (y + (m_worth V k))), (5, .int 1), (4, .int (nI k)), (0, .ref (ad 7 0)), (1, .int (nI l1)), (2, .int w)]) hx hb dX5_lenderOf_146 rfl hl (by decide) rfl (fun ls hl => ?_)
                              refine lv_iinc (v := nI (k + 1)) (lv' := [(4, .int (nI (k + 1))), (3, .int (y + (m_worth V k))), (5, .int 1), (0, .ref (ad 7 0)), (1, .int (nI l1)), (2, .int w)]) hx hb dX5_lenderOf_147 hl (k := 2) rfl (nI_1 _) (by decide) rfl (fun ls hl => ?_)
                              refine lv_goto (tgt := 41) hx hb dX5_lenderOf_150 (by decide) ?_
                              exact ih41 (k + 1) _ (by omega) (by omega) (by exact absurd (c12.symm.trans c30) (by decide))  _ _ _ hI (lv_sub hl [0, 1, 3, 4, 5] rfl)
                          · refine lv_aload_n hx hb dX5_lenderOf_111 rfl (lv_at hl 3 rfl) ?_
                            refine lv_iload hx hb dX5_lenderOf_112 (lv_at hl 1 rfl) ?_
                            refine lv_iconst (v := 5) hx hb dX5_lenderOf_114 (by decide) ?_
                            refine g_callVi (rest := [.int y]) (c_X5_of l D tb ad hj P M V k 5 (by first | assumption | omega) (by first | assumption | omega)) rfl rfl gm_X5_of hx hb hml hown hts hC hI (by decide) (e_x g_us) rfl rfl qm_X5_33 rfl hl.1 rfl ⟨rfl, rfl, by decide, by decide⟩ (Nat.le_of_ble_eq_true rfl) ⟨Nat.zero_le _, Nat.zero_le _⟩ dX5_lenderOf_115 (fun H locs hI => ?_)
                            refine lv_goto (tgt := 145) hx hb dX5_lenderOf_118 (by decide) ?_
                            refine lv_iadd hx hb dX5_lenderOf_145 ?_
                            refine lv_istore_n (lv' := [(3, .int (y + (V 1 (34 + 7 * k + 5)))), (5, .int 1), (4, .int (nI k)), (0, .ref (ad 7 0)), (1, .int (nI l1)), (2, .int w)]) hx hb dX5_lenderOf_146 rfl hl (by decide) rfl (fun ls hl => ?_)
                            refine lv_iinc (v := nI (k + 1)) (lv' := [(4, .int (nI (k + 1))), (3, .int (y + (V 1 (34 + 7 * k + 5)))), (5, .int 1), (0, .ref (ad 7 0)), (1, .int (nI l1)), (2, .int w)]) hx hb dX5_lenderOf_147 hl (k := 2) rfl (nI_1 _) (by decide) rfl (fun ls hl => ?_)
                            refine lv_goto (tgt := 41) hx hb dX5_lenderOf_150 (by decide) ?_
                            exact ih41 (k + 1) _ (by omega) (by omega) (by exact absurd (c12.symm.trans c30) (by decide))  _ _ _ hI (lv_sub hl [0, 1, 3, 4, 5] rfl)
                        · refine lv_if_eq (tgt := 102) hx hb dX5_lenderOf_95 (by decide) (fun _ => ?_) (fun c39 => absurd c39 (by decide))
                          refine lv_iconst (v := 0) hx hb dX5_lenderOf_102 (by decide) ?_
                          refine lv_istore (lv' := [(5, .int 0), (4, .int (nI k)), (3, .int y), (0, .ref (ad 7 0)), (1, .int (nI l1)), (2, .int w)]) hx hb dX5_lenderOf_103 hl (by decide) rfl (fun ls hl => ?_)
                          refine lv_iload_n hx hb dX5_lenderOf_105 rfl (lv_at hl 2 rfl) ?_
                          refine lv_iload_n hx hb dX5_lenderOf_106 rfl (lv_at hl 5 rfl) ?_
                          refine lv_iconst (v := 1) hx hb dX5_lenderOf_107 (by decide) ?_
                          refine lv_icmp_ne (tgt := 121) hx hb dX5_lenderOf_108 (by decide) (fun c40 => ?_) (fun c40 => ?_)
                          · refine lv_iload_n hx hb dX5_lenderOf_121 rfl (lv_at hl 5 rfl) ?_
                            refine lv_iconst (v := 2) hx hb dX5_lenderOf_122 (by decide) ?_
                            refine lv_icmp_ne (tgt := 135) hx hb dX5_lenderOf_123 (by decide) (fun c41 => ?_) (fun c41 => ?_)
                            · refine lv_iload hx hb dX5_lenderOf_135 (lv_at hl 0 rfl) ?_
                              refine lv_if_eq (tgt := 144) hx hb dX5_lenderOf_137 (by decide) (fun _ => ?_) (fun c42 => absurd c42 (by decide))
                              refine lv_iconst (v := 0) hx hb dX5_lenderOf_144 (by decide) ?_
                              refine lv_iadd hx hb dX5_lenderOf_145 ?_
                              refine lv_istore_n (lv' := [(3, .int (y + 0)), (5, .int 0), (4, .int (nI k)), (0, .ref (ad 7 0)), (1, .int (nI l1)), (2, .int w)]) hx hb dX5_lenderOf_146 rfl hl (by decide) rfl (fun ls hl => ?_)
                              refine lv_iinc (v := nI (k + 1)) (lv' := [(4, .int (nI (k + 1))), (3, .int (y + 0)), (5, .int 0), (0, .ref (ad 7 0)), (1, .int (nI l1)), (2, .int w)]) hx hb dX5_lenderOf_147 hl (k := 2) rfl (nI_1 _) (by decide) rfl (fun ls hl => ?_)
                              refine lv_goto (tgt := 41) hx hb dX5_lenderOf_150 (by decide) ?_
                              exact ih41 (k + 1) _ (by omega) (by omega) (by exact absurd (c12.symm.trans c30) (by decide))  _ _ _ hI (lv_sub hl [0, 1, 3, 4, 5] rfl)
                            · refine lv_aload_n hx hb dX5_lenderOf_126 rfl (lv_at hl 3 rfl) ?_
                              refine lv_iload hx hb dX5_lenderOf_127 (lv_at hl 1 rfl) ?_
                              refine g_callVi (rest := [.int y]) (c_X5_worth l D tb ad hj P M V k (by first | assumption | omega)) rfl rfl gm_X5_worth hx hb hml hown hts hC hI (by decide) (e_x g_us) rfl rfl qm_X5_45 rfl hl.1 rfl ⟨rfl, rfl, by decide, by decide⟩ (Nat.le_of_ble_eq_true rfl) ⟨Nat.zero_le _, Nat.zero_le _⟩ dX5_lenderOf_129 (fun H locs hI => ?_)
                              refine lv_goto (tgt := 145) hx hb dX5_lenderOf_132 (by decide) ?_
                              refine lv_iadd hx hb dX5_lenderOf_145 ?_
                              refine lv_istore_n (lv' := [(3, .int (y + (m_worth V k))), (5, .int 0), (4, .int (nI k)), (0, .ref (ad 7 0)), (1, .int (nI l1)), (2, .int w)]) hx hb dX5_lenderOf_146 rfl hl (by decide) rfl (fun ls hl => ?_)
                              refine lv_iinc (v := nI (k + 1)) (lv' := [(4, .int (nI (k + 1))), (3, .int (y + (m_worth V k))), (5, .int 0), (0, .ref (ad 7 0)), (1, .int (nI l1)), (2, .int w)]) hx hb dX5_lenderOf_147 hl (k := 2) rfl (nI_1 _) (by decide) rfl (fun ls hl => ?_)
                              refine lv_goto (tgt := 41) hx hb dX5_lenderOf_150 (by decide) ?_
                              exact ih41 (k + 1) _ (by omega) (by omega) (by exact absurd (c12.symm.trans c30) (by decide))  _ _ _ hI (lv_sub hl [0, 1, 3, 4, 5] rfl)
                          · refine lv_aload_n hx hb dX5_lenderOf_111 rfl (lv_at hl 3 rfl) ?_
                            refine lv_iload hx hb dX5_lenderOf_112 (lv_at hl 1 rfl) ?_
                            refine lv_iconst (v := 5) hx hb dX5_lenderOf_114 (by decide) ?_
                            refine g_callVi (rest := [.int y]) (c_X5_of l D tb ad hj P M V k 5 (by first | assumption | omega) (by first | assumption | omega)) rfl rfl gm_X5_of hx hb hml hown hts hC hI (by decide) (e_x g_us) rfl rfl qm_X5_33 rfl hl.1 rfl ⟨rfl, rfl, by decide, by decide⟩ (Nat.le_of_ble_eq_true rfl) ⟨Nat.zero_le _, Nat.zero_le _⟩ dX5_lenderOf_115 (fun H locs hI => ?_)
                            refine lv_goto (tgt := 145) hx hb dX5_lenderOf_118 (by decide) ?_
                            refine lv_iadd hx hb dX5_lenderOf_145 ?_
                            refine lv_istore_n (lv' := [(3, .int (y + (V 1 (34 + 7 * k + 5)))), (5, .int 0), (4, .int (nI k)), (0, .ref (ad 7 0)), (1, .int (nI l1)), (2, .int w)]) hx hb dX5_lenderOf_146 rfl hl (by decide) rfl (fun ls hl => ?_)
                            refine lv_iinc (v := nI (k + 1)) (lv' := [(4, .int (nI (k + 1))), (3, .int (y + (V 1 (34 + 7 * k + 5)))), (5, .int 0), (0, .ref (ad 7 0)), (1, .int (nI l1)), (2, .int w)]) hx hb dX5_lenderOf_147 hl (k := 2) rfl (nI_1 _) (by decide) rfl (fun ls hl => ?_)
                            refine lv_goto (tgt := 41) hx hb dX5_lenderOf_150 (by decide) ?_
                            exact ih41 (k + 1) _ (by omega) (by omega) (by exact absurd (c12.symm.trans c30) (by decide))  _ _ _ hI (lv_sub hl [0, 1, 3, 4, 5] rfl)
        exact lp41 (n + 1) 0 _ (by omega) (by omega) rfl  _ _ _ hI (lv_sub hl [0, 1, 2, 3, 4] rfl)
      · refine lv_aload_n hx hb dX5_lenderOf_26 rfl (lv_at hl 0 rfl) ?_
        refine g_get 0 hx hb hts hown hC hI i_X5 (by decide) (e_x g_us) rfl (by decide) qf_X5_7 rfl rfl dX5_lenderOf_27 ?_
        refine lv_bipush (v := 21) hx hb dX5_lenderOf_30 (by decide) ?_
        refine lv_iload_n hx hb dX5_lenderOf_32 rfl (lv_at hl 1 rfl) ?_
        refine lv_iadd hx hb dX5_lenderOf_33 ?_
        refine g_te (nI_add 21 l1) ?_
        refine g_iald (21 + l1) hx hb hC hI (by decide) (e_xs g_us) (vp_in_nI (by omega) (by decide)) (nI_clamp (by omega)) dX5_lenderOf_34 ?_
        exact g_ir hQ hx hb hr0 hlk hC hI dX5_lenderOf_35 rfl (by unfold m_lenderOf; (try simp only [hcll1]); (first | rw [if_pos c1] | rw [if_neg c1] | skip); (first | rw [if_pos c3] | rw [if_neg c3] | skip); (first | rw [if_pos c5] | rw [if_neg c5] | skip); try with_reducible rfl) rfl rfl
    · refine lv_if_ne (tgt := 21) hx hb dX5_lenderOf_15 (by decide) (fun c43 => absurd c43 (by decide)) (fun _ => ?_)
      refine lv_ldc (v := (-2000000001)) hx hb hown (hts _ qc_X5_25) dX5_lenderOf_18 ?_
      exact g_ir hQ hx hb hr0 hlk hC hI dX5_lenderOf_20 rfl (by unfold m_lenderOf; (try simp only [hcll1]); (first | rw [if_pos c1] | rw [if_neg c1] | skip); (first | rw [if_pos c3] | rw [if_neg c3] | skip); try with_reducible rfl) rfl rfl
  · refine lv_if_eq (tgt := 18) hx hb dX5_lenderOf_6 (by decide) (fun _ => ?_) (fun c44 => absurd c44 (by decide))
    refine lv_ldc (v := (-2000000001)) hx hb hown (hts _ qc_X5_25) dX5_lenderOf_18 ?_
    exact g_ir hQ hx hb hr0 hlk hC hI dX5_lenderOf_20 rfl (by unfold m_lenderOf; (try simp only [hcll1]); (first | rw [if_pos c1] | rw [if_neg c1] | skip); try with_reducible rfl) rfl rfl
abbrev rm_X5_here : Room := { frames := 0, cells := 0, slots := 0, locals := 0 }
set_option maxHeartbeats 800000 in
set_option maxRecDepth 100000 in
theorem c_X5_here (l : Launch) (D : va_G) (tb : g_T) (ad : g_Ad) (hj : g_inj ad) (P : g_P) (M : g_M) (V : g_V) (hT : m_T V) : g_Ci l yX5_here cX5_here 1 (some .int) rm_X5_here D tb ad [.ref (ad 7 0)] P (va_up M 7 V) (m_here V) P (va_up M 7 V) := by
  refine g_go (by decide) (Nat.le_of_ble_eq_true rfl) hj ?_
  intro p e s m below meth c ls H locs R args Q hR0 hQ hx hb hml hr0 hlk hown hts hC hI hl
  subst hR0
  have hown : s.vm.findClass RX5 = some m.cls := hown
  have hl : lv_has ls 1 [(0, .ref (ad 7 0))] := hl
  obtain ⟨ln, q, hlen, hat, hqn, hln⟩ := hT
  refine lv_aload_n hx hb dX5_here_0 rfl (lv_at hl 0 rfl) ?_
  refine g_get 6 hx hb hts hown hC hI i_X5 (by decide) (e_x g_us) rfl (by decide) qf_X5_166 rfl rfl dX5_here_1 ?_
  refine lv_aload_n hx hb dX5_here_4 rfl (lv_at hl 0 rfl) ?_
  refine g_get 5 hx hb hts hown hC hI i_X5 (by decide) (e_x g_us) rfl (by decide) qf_X5_163 rfl rfl dX5_here_5 ?_
  refine lv_icmp_ge (tgt := 23) hx hb dX5_here_8 (by decide) (fun c1 => ?_) (fun c1 => ?_)
  · refine lv_iconst (v := (-1)) hx hb dX5_here_23 (by decide) ?_
    exact g_ir hQ hx hb hr0 hlk hC hI dX5_here_24 rfl (by unfold m_here; (first | rw [if_pos c1] | rw [if_neg c1] | skip); try (rw [hat, nI_clamp (by omega)])) rfl rfl
  · have hql : q < ln := by
      rw [hlen, hat] at c1
      exact Nat.lt_of_not_le (fun z => c1 ((nI_leI (by omega) (by omega)).mpr z))
    refine lv_aload_n hx hb dX5_here_11 rfl (lv_at hl 0 rfl) ?_
    refine g_get 4 hx hb hts hown hC hI i_X5 (by decide) (e_x g_us) rfl (by decide) qf_X5_19 rfl rfl dX5_here_12 ?_
    refine lv_aload_n hx hb dX5_here_15 rfl (lv_at hl 0 rfl) ?_
    refine g_get 6 hx hb hts hown hC hI i_X5 (by decide) (e_x g_us) rfl (by decide) qf_X5_166 rfl rfl dX5_here_16 ?_
    refine g_te (y := (nI q)) hat ?_
    refine g_iald q hx hb hC hI (by decide) (e_xt g_us) (vp_in_nI (by omega) (by decide)) (nI_clamp (by omega)) dX5_here_19 ?_
    refine lv_goto (tgt := 24) hx hb dX5_here_20 (by decide) ?_
    exact g_ir hQ hx hb hr0 hlk hC hI dX5_here_24 rfl (by unfold m_here; (first | rw [if_pos c1] | rw [if_neg c1] | skip); try (rw [hat, nI_clamp (by omega)])) rfl rfl
abbrev rm_X5_isDigit : Room := { frames := 1, cells := 0, slots := 0, locals := 22 }
set_option maxHeartbeats 800000 in
set_option maxRecDepth 100000 in
theorem c_X5_isDigit (l : Launch) (D : va_G) (tb : g_T) (ad : g_Ad) (hj : g_inj ad) (P : g_P) (M : g_M) (V : g_V) (hT : m_T V) : g_Ci l yX5_isDigit cX5_isDigit 1 (some .boolean) rm_X5_isDigit D tb ad [.ref (ad 7 0)] P (va_up M 7 V) (if m_in (m_here V) 48 57 then 1 else 0) P (va_up M 7 V) := by
  refine g_go (by decide) (Nat.le_of_ble_eq_true rfl) hj ?_
  intro p e s m below meth c ls H locs R args Q hR0 hQ hx hb hml hr0 hlk hown hts hC hI hl
  subst hR0
  have hown : s.vm.findClass RX5 = some m.cls := hown
  have hl : lv_has ls 1 [(0, .ref (ad 7 0))] := hl
  refine lv_aload_n hx hb dX5_isDigit_0 rfl (lv_at hl 0 rfl) ?_
  refine g_callVi (rest := []) (c_X5_here l D tb ad hj P M V (by first | assumption | omega)) rfl rfl gm_X5_here hx hb hml hown hts hC hI (by decide) (e_x g_us) rfl rfl qm_X5_169 rfl hl.1 rfl ⟨rfl, rfl, by decide, by decide⟩ (Nat.le_of_ble_eq_true rfl) ⟨Nat.zero_le _, Nat.zero_le _⟩ dX5_isDigit_1 (fun H locs hI => ?_)
  refine lv_bipush (v := 48) hx hb dX5_isDigit_4 (by decide) ?_
  refine lv_bipush (v := 57) hx hb dX5_isDigit_6 (by decide) ?_
  refine g_callSi (rest := []) (c_X5_in l D tb ad hj P (va_up M 7 V) (m_here V) 48 57) rfl rfl gm_X5_in hx hb hml hown hts hC hI qm_X5_67 rfl hl.1 rfl ⟨rfl, rfl, by decide, by decide⟩ (Nat.le_of_ble_eq_true rfl) ⟨Nat.zero_le _, Nat.zero_le _⟩ dX5_isDigit_8 (fun H locs hI => ?_)
  exact g_ir hQ hx hb hr0 hlk hC hI dX5_isDigit_11 (by split <;> rfl) (by rfl) rfl rfl
abbrev rm_X5_takesSign : Room := { frames := 1, cells := 0, slots := 0, locals := 20 }
set_option maxHeartbeats 800000 in
set_option maxRecDepth 100000 in
theorem c_X5_takesSign (l : Launch) (D : va_G) (tb : g_T) (ad : g_Ad) (hj : g_inj ad) (P : g_P) (M : g_M) (V : g_V) (x : Int32) (hT : m_T V) : g_Cv l yX5_takesSign cX5_takesSign 2 none rm_X5_takesSign D tb ad [.ref (ad 7 0), .int x] P (va_up M 7 V) P (va_up M 7 (m_takes V x)) := by
  refine g_go (by decide) (Nat.le_of_ble_eq_true rfl) hj ?_
  intro p e s m below meth c ls H locs R args Q hR0 hQ hx hb hml hr0 hlk hown hts hC hI hl
  subst hR0
  have hown : s.vm.findClass RX5 = some m.cls := hown
  have hl : lv_has ls 2 [(0, .ref (ad 7 0)), (1, .int x)] := hl
  refine lv_aload_n hx hb dX5_takesSign_0 rfl (lv_at hl 0 rfl) ?_
  refine lv_aload_n hx hb dX5_takesSign_1 rfl (lv_at hl 0 rfl) ?_
  refine g_get 10 hx hb hts hown hC hI i_X5 (by decide) (e_x g_us) rfl (by decide) qf_X5_173 rfl rfl dX5_takesSign_2 ?_
  refine lv_if_eq (tgt := 20) hx hb dX5_takesSign_5 (by decide) (fun c1 => ?_) (fun c1 => ?_)
  · refine lv_iconst (v := 0) hx hb dX5_takesSign_20 (by decide) ?_
    refine g_put 10 (ty := .boolean) hx hb hts hown hC hI i_X5 tyX5_ok nmX5 (by decide) (e_x g_us) rfl (by decide) qf_X5_173 rfl rfl rfl rfl rfl (Nat.le_of_ble_eq_true rfl) (p_x (by decide)) g_hs dX5_takesSign_21 (fun H locs hI => ?_)
    refine lv_aload_n hx hb dX5_takesSign_24 rfl (lv_at hl 0 rfl) ?_
    refine lv_dup hx hb dX5_takesSign_25 rfl ?_
    refine g_get 6 hx hb hts hown hC hI i_X5 (by decide) (e_x g_us) rfl (by decide) qf_X5_166 rfl rfl dX5_takesSign_26 ?_
    refine g_te (y := (V 0 6)) (w2_ne (by omega)) ?_
    refine lv_aload_n hx hb dX5_takesSign_29 rfl (lv_at hl 0 rfl) ?_
    refine g_get 10 hx hb hts hown hC hI i_X5 (by decide) (e_x g_us) rfl (by decide) qf_X5_173 rfl rfl dX5_takesSign_30 ?_
    refine g_te (y := 0) w2_at ?_
    refine lv_if_eq (tgt := 40) hx hb dX5_takesSign_33 (by decide) (fun _ => ?_) (fun c2 => absurd c2 (by decide))
    refine lv_iconst (v := 0) hx hb dX5_takesSign_40 (by decide) ?_
    refine lv_iadd hx hb dX5_takesSign_41 ?_
    refine g_put 6 (ty := .int) hx hb hts hown hC hI i_X5 tyX5_ok nmX5 (by decide) (e_x g_us) rfl (by decide) qf_X5_166 rfl rfl rfl rfl rfl (Nat.le_of_ble_eq_true rfl) (p_x (by decide)) g_hs dX5_takesSign_42 (fun H locs hI => ?_)
    exact g_vr hQ hx hb hr0 hlk hC hI dX5_takesSign_45 rfl (by unfold m_takes; (first | rw [if_pos c1] | rw [if_neg c1] | skip); try with_reducible rfl)
  · refine lv_aload_n hx hb dX5_takesSign_8 rfl (lv_at hl 0 rfl) ?_
    refine g_callVi (rest := [.ref (ad 7 0)]) (c_X5_here l D tb ad hj P M V (by first | assumption | omega)) rfl rfl gm_X5_here hx hb hml hown hts hC hI (by decide) (e_x g_us) rfl rfl qm_X5_169 rfl hl.1 rfl ⟨rfl, rfl, by decide, by decide⟩ (Nat.le_of_ble_eq_true rfl) ⟨Nat.zero_le _, Nat.zero_le _⟩ dX5_takesSign_9 (fun H locs hI => ?_)
    refine lv_iload_n hx hb dX5_takesSign_12 rfl (lv_at hl 1 rfl) ?_
    refine lv_icmp_ne (tgt := 20) hx hb dX5_takesSign_13 (by decide) (fun c3 => ?_) (fun c3 => ?_)
    · refine lv_iconst (v := 0) hx hb dX5_takesSign_20 (by decide) ?_
      refine g_put 10 (ty := .boolean) hx hb hts hown hC hI i_X5 tyX5_ok nmX5 (by decide) (e_x g_us) rfl (by decide) qf_X5_173 rfl rfl rfl rfl rfl (Nat.le_of_ble_eq_true rfl) (p_x (by decide)) g_hs dX5_takesSign_21 (fun H locs hI => ?_)
      refine lv_aload_n hx hb dX5_takesSign_24 rfl (lv_at hl 0 rfl) ?_
      refine lv_dup hx hb dX5_takesSign_25 rfl ?_
      refine g_get 6 hx hb hts hown hC hI i_X5 (by decide) (e_x g_us) rfl (by decide) qf_X5_166 rfl rfl dX5_takesSign_26 ?_
      refine g_te (y := (V 0 6)) (w2_ne (by omega)) ?_
      refine lv_aload_n hx hb dX5_takesSign_29 rfl (lv_at hl 0 rfl) ?_
      refine g_get 10 hx hb hts hown hC hI i_X5 (by decide) (e_x g_us) rfl (by decide) qf_X5_173 rfl rfl dX5_takesSign_30 ?_
      refine g_te (y := 0) w2_at ?_
      refine lv_if_eq (tgt := 40) hx hb dX5_takesSign_33 (by decide) (fun _ => ?_) (fun c4 => absurd c4 (by decide))
      refine lv_iconst (v := 0) hx hb dX5_takesSign_40 (by decide) ?_
      refine lv_iadd hx hb dX5_takesSign_41 ?_
      refine g_put 6 (ty := .int) hx hb hts hown hC hI i_X5 tyX5_ok nmX5 (by decide) (e_x g_us) rfl (by decide) qf_X5_166 rfl rfl rfl rfl rfl (Nat.le_of_ble_eq_true rfl) (p_x (by decide)) g_hs dX5_takesSign_42 (fun H locs hI => ?_)
      exact g_vr hQ hx hb hr0 hlk hC hI dX5_takesSign_45 rfl (by unfold m_takes; (first | rw [if_pos c1] | rw [if_neg c1] | skip); (first | rw [if_pos c3] | rw [if_neg c3] | skip); try with_reducible rfl)
    · refine lv_iconst (v := 1) hx hb dX5_takesSign_16 (by decide) ?_
      refine lv_goto (tgt := 21) hx hb dX5_takesSign_17 (by decide) ?_
      refine g_put 10 (ty := .boolean) hx hb hts hown hC hI i_X5 tyX5_ok nmX5 (by decide) (e_x g_us) rfl (by decide) qf_X5_173 rfl rfl rfl rfl rfl (Nat.le_of_ble_eq_true rfl) (p_x (by decide)) g_hs dX5_takesSign_21 (fun H locs hI => ?_)
      refine lv_aload_n hx hb dX5_takesSign_24 rfl (lv_at hl 0 rfl) ?_
      refine lv_dup hx hb dX5_takesSign_25 rfl ?_
      refine g_get 6 hx hb hts hown hC hI i_X5 (by decide) (e_x g_us) rfl (by decide) qf_X5_166 rfl rfl dX5_takesSign_26 ?_
      refine g_te (y := (V 0 6)) (w2_ne (by omega)) ?_
      refine lv_aload_n hx hb dX5_takesSign_29 rfl (lv_at hl 0 rfl) ?_
      refine g_get 10 hx hb hts hown hC hI i_X5 (by decide) (e_x g_us) rfl (by decide) qf_X5_173 rfl rfl dX5_takesSign_30 ?_
      refine g_te (y := 1) w2_at ?_
      refine lv_if_eq (tgt := 40) hx hb dX5_takesSign_33 (by decide) (fun c5 => absurd c5 (by decide)) (fun _ => ?_)
      refine lv_iconst (v := 1) hx hb dX5_takesSign_36 (by decide) ?_
      refine lv_goto (tgt := 41) hx hb dX5_takesSign_37 (by decide) ?_
      refine lv_iadd hx hb dX5_takesSign_41 ?_
      refine g_put 6 (ty := .int) hx hb hts hown hC hI i_X5 tyX5_ok nmX5 (by decide) (e_x g_us) rfl (by decide) qf_X5_166 rfl rfl rfl rfl rfl (Nat.le_of_ble_eq_true rfl) (p_x (by decide)) g_hs dX5_takesSign_42 (fun H locs hI => ?_)
      exact g_vr hQ hx hb hr0 hlk hC hI dX5_takesSign_45 rfl (by unfold m_takes; (first | rw [if_pos c1] | rw [if_neg c1] | skip); (first | rw [if_pos c3] | rw [if_neg c3] | skip); try with_reducible rfl)
abbrev rm_X5_number : Room := { frames := 2, cells := 0, slots := 0, locals := 42 }
set_option maxHeartbeats 800000 in
set_option maxRecDepth 100000 in
theorem c_X5_number (l : Launch) (D : va_G) (tb : g_T) (ad : g_Ad) (hj : g_inj ad) (P : g_P) (M : g_M) (V : g_V) (hT : m_T V) : g_Ci l yX5_number cX5_number 3 (some .int) rm_X5_number D tb ad [.ref (ad 7 0)] P (va_up M 7 V) ((m_number V).2) P (va_up M 7 ((m_number V).1)) := by
  refine g_go (by decide) (Nat.le_of_ble_eq_true rfl) hj ?_
  intro p e s m below meth c ls H locs R args Q hR0 hQ hx hb hml hr0 hlk hown hts hC hI hl
  subst hR0
  have hown : s.vm.findClass RX5 = some m.cls := hown
  have hl : lv_has ls 3 [(0, .ref (ad 7 0))] := hl
  refine lv_aload_n hx hb dX5_number_0 rfl (lv_at hl 0 rfl) ?_
  refine lv_aload_n hx hb dX5_number_1 rfl (lv_at hl 0 rfl) ?_
  refine g_get 10 hx hb hts hown hC hI i_X5 (by decide) (e_x g_us) rfl (by decide) qf_X5_173 rfl rfl dX5_number_2 ?_
  refine lv_if_eq (tgt := 19) hx hb dX5_number_5 (by decide) (fun c1 => ?_) (fun c1 => ?_)
  · refine lv_iconst (v := 0) hx hb dX5_number_19 (by decide) ?_
    refine g_put 10 (ty := .boolean) hx hb hts hown hC hI i_X5 tyX5_ok nmX5 (by decide) (e_x g_us) rfl (by decide) qf_X5_173 rfl rfl rfl rfl rfl (Nat.le_of_ble_eq_true rfl) (p_x (by decide)) g_hs dX5_number_20 (fun H locs hI => ?_)
    refine lv_iconst (v := 0) hx hb dX5_number_23 (by decide) ?_
    refine lv_istore_n (lv' := [(1, .int 0), (0, .ref (ad 7 0))]) hx hb dX5_number_24 rfl hl (by decide) rfl (fun ls hl => ?_)
    refine lv_iconst (v := 0) hx hb dX5_number_25 (by decide) ?_
    refine lv_istore_n (lv' := [(2, .int 0), (1, .int 0), (0, .ref (ad 7 0))]) hx hb dX5_number_26 rfl hl (by decide) rfl (fun ls hl => ?_)
    have hV1 : (g_w2 V 0 10 0) = m_num0 V := by unfold m_num0; first | rw [if_pos (by assumption)] | (rw [if_neg (by assumption), if_pos (by assumption)]) | (rw [if_neg (by assumption), if_neg (by assumption)])
    have lp27 : ∀ (d k : Nat) (Vx : g_V) (y : Int32), k ≤ 6 → 6 < k + d → (m_T Vx) → (m_numN (6 - k) (Vx, y) = m_numN 6 (m_num0 V, 0)) → ∀ (H : Heap) (locs : List Loc) (ls : Array Slot), g_I D tb ad (g_A ad) s H locs P (va_up M 7 Vx) → lv_has ls 3 [(2, .int (nI k)), (1, .int y), (0, .ref (ad 7 0))] → W p l e rm_X5_number s m args below meth c H locs 0 0 Q (F0 m 27 ls []) := by
      intro d
      induction d with
      | zero => intro k Vx y hkp hfu; intros; omega
      | succ d ih27 =>
        intro k Vx y hkp hfu hTx hnum H locs ls hI hl
        refine lv_iload_n hx hb dX5_number_27 rfl (lv_at hl 0 rfl) ?_
        refine lv_bipush (v := 6) hx hb dX5_number_28 (by decide) ?_
        refine lv_icmp_ge (tgt := 76) hx hb dX5_number_30 (by decide) (fun c2 => ?_) (fun c2 => ?_)
        · have c2n : 6 ≤ k := (nI_leI (a := 6) (b := k) (by omega) (by omega)).mp c2
          refine lv_iload_n hx hb dX5_number_76 rfl (lv_at hl 1 rfl) ?_
          exact g_ir hQ hx hb hr0 hlk hC hI dX5_number_77 rfl (by unfold m_number; rw [← hnum]; first | (rw [show k = 6 from (by omega)]; rfl) | (obtain ⟨j, hj⟩ : ∃ j, 6 - k = j + 1 := ⟨5 - k, by omega⟩; rw [hj, m_numN]; (first | rw [if_pos c1] | rw [if_neg c1] | skip); (first | rw [if_pos c2] | rw [if_neg c2] | skip); try with_reducible rfl)) rfl (by unfold m_number; rw [← hnum]; first | (rw [show k = 6 from (by omega)]; rfl) | (obtain ⟨j, hj⟩ : ∃ j, 6 - k = j + 1 := ⟨5 - k, by omega⟩; rw [hj, m_numN]; (first | rw [if_pos c1] | rw [if_neg c1] | skip); (first | rw [if_pos c2] | rw [if_neg c2] | skip); try with_reducible rfl))
        · have c2n : ¬ 6 ≤ k := fun z => c2 ((nI_leI (a := 6) (b := k) (by omega) (by omega)).mpr z)
          refine lv_aload_n hx hb dX5_number_33 rfl (lv_at hl 2 rfl) ?_
          refine g_get 10 hx hb hts hown hC hI i_X5 (by decide) (e_x g_us) rfl (by decide) qf_X5_173 rfl rfl dX5_number_34 ?_
          refine lv_if_eq (tgt := 76) hx hb dX5_number_37 (by decide) (fun c3 => ?_) (fun c3 => ?_)
          · refine lv_iload_n hx hb dX5_number_76 rfl (lv_at hl 1 rfl) ?_
            exact g_ir hQ hx hb hr0 hlk hC hI dX5_number_77 rfl (by unfold m_number; rw [← hnum]; first | (rw [show k = 6 from (by omega)]; rfl) | (obtain ⟨j, hj⟩ : ∃ j, 6 - k = j + 1 := ⟨5 - k, by omega⟩; rw [hj, m_numN]; (first | rw [if_pos c1] | rw [if_neg c1] | skip); (first | rw [if_pos c2] | rw [if_neg c2] | skip); (first | rw [if_pos c3] | rw [if_neg c3] | skip); try with_reducible rfl)) rfl (by unfold m_number; rw [← hnum]; first | (rw [show k = 6 from (by omega)]; rfl) | (obtain ⟨j, hj⟩ : ∃ j, 6 - k = j + 1 := ⟨5 - k, by omega⟩; rw [hj, m_numN]; (first | rw [if_pos c1] | rw [if_neg c1] | skip); (first | rw [if_pos c2] | rw [if_neg c2] | skip); (first | rw [if_pos c3] | rw [if_neg c3] | skip); try with_reducible rfl))
          · refine lv_aload_n hx hb dX5_number_40 rfl (lv_at hl 2 rfl) ?_
            refine g_callVi (rest := []) (c_X5_isDigit l D tb ad hj P M Vx hTx) rfl rfl gm_X5_isDigit hx hb hml hown hts hC hI (by decide) (e_x g_us) rfl rfl qm_X5_177 rfl hl.1 rfl ⟨rfl, rfl, by decide, by decide⟩ (Nat.le_of_ble_eq_true rfl) ⟨Nat.zero_le _, Nat.zero_le _⟩ dX5_number_41 (fun H locs hI => ?_)
            refine g_tf (fun c4 => ?_) (fun c4 => ?_)
            · refine lv_if_eq (tgt := 76) hx hb dX5_number_44 (by decide) (fun c5 => absurd c5 (by decide)) (fun _ => ?_)
              refine lv_bipush (v := 10) hx hb dX5_number_47 (by decide) ?_
              refine lv_iload_n hx hb dX5_number_49 rfl (lv_at hl 1 rfl) ?_
              refine lv_imul hx hb dX5_number_50 ?_
              refine lv_aload_n hx hb dX5_number_51 rfl (lv_at hl 2 rfl) ?_
              refine g_callVi (rest := [.int (10 * y)]) (c_X5_here l D tb ad hj P M Vx hTx) rfl rfl gm_X5_here hx hb hml hown hts hC hI (by decide) (e_x g_us) rfl rfl qm_X5_169 rfl hl.1 rfl ⟨rfl, rfl, by decide, by decide⟩ (Nat.le_of_ble_eq_true rfl) ⟨Nat.zero_le _, Nat.zero_le _⟩ dX5_number_52 (fun H locs hI => ?_)
              refine lv_iadd hx hb dX5_number_55 ?_
              refine lv_bipush (v := 48) hx hb dX5_number_56 (by decide) ?_
              refine lv_isub hx hb dX5_number_58 ?_
              refine lv_istore_n (lv' := [(1, .int (((10 * y) + (m_here Vx)) - 48)), (2, .int (nI k)), (0, .ref (ad 7 0))]) hx hb dX5_number_59 rfl hl (by decide) rfl (fun ls hl => ?_)
              refine lv_aload_n hx hb dX5_number_60 rfl (lv_at hl 2 rfl) ?_
              refine lv_dup hx hb dX5_number_61 rfl ?_
              refine g_get 6 hx hb hts hown hC hI i_X5 (by decide) (e_x g_us) rfl (by decide) qf_X5_166 rfl rfl dX5_number_62 ?_
              refine lv_iconst (v := 1) hx hb dX5_number_65 (by decide) ?_
              refine lv_iadd hx hb dX5_number_66 ?_
              refine g_put 6 (ty := .int) hx hb hts hown hC hI i_X5 tyX5_ok nmX5 (by decide) (e_x g_us) rfl (by decide) qf_X5_166 rfl rfl rfl rfl rfl (Nat.le_of_ble_eq_true rfl) (p_x (by decide)) g_hs dX5_number_67 (fun H locs hI => ?_)
              refine lv_iinc (v := nI (k + 1)) (lv' := [(2, .int (nI (k + 1))), (1, .int (((10 * y) + (m_here Vx)) - 48)), (0, .ref (ad 7 0))]) hx hb dX5_number_70 hl (k := 1) rfl (nI_1 _) (by decide) rfl (fun ls hl => ?_)
              refine lv_goto (tgt := 27) hx hb dX5_number_73 (by decide) ?_
              exact ih27 (k + 1) _ _ (by omega) (by omega)  (by exact m_T_s hTx (m_dig c4)) (by rw [← hnum, show 6 - k = (6 - (k + 1)) + 1 from (by omega), m_numN]; (first | rw [if_pos c1] | rw [if_neg c1] | skip); (first | rw [if_pos c2] | rw [if_neg c2] | skip); (first | rw [if_pos c3] | rw [if_neg c3] | skip); (first | rw [if_pos c4] | rw [if_neg c4] | skip); try with_reducible rfl) _ _ _ hI (lv_sub hl [0, 1, 2] rfl)
            · refine lv_if_eq (tgt := 76) hx hb dX5_number_44 (by decide) (fun _ => ?_) (fun c6 => absurd c6 (by decide))
              refine lv_iload_n hx hb dX5_number_76 rfl (lv_at hl 1 rfl) ?_
              exact g_ir hQ hx hb hr0 hlk hC hI dX5_number_77 rfl (by unfold m_number; rw [← hnum]; first | (rw [show k = 6 from (by omega)]; rfl) | (obtain ⟨j, hj⟩ : ∃ j, 6 - k = j + 1 := ⟨5 - k, by omega⟩; rw [hj, m_numN]; (first | rw [if_pos c1] | rw [if_neg c1] | skip); (first | rw [if_pos c2] | rw [if_neg c2] | skip); (first | rw [if_pos c3] | rw [if_neg c3] | skip); (first | rw [if_pos c4] | rw [if_neg c4] | skip); try with_reducible rfl)) rfl (by unfold m_number; rw [← hnum]; first | (rw [show k = 6 from (by omega)]; rfl) | (obtain ⟨j, hj⟩ : ∃ j, 6 - k = j + 1 := ⟨5 - k, by omega⟩; rw [hj, m_numN]; (first | rw [if_pos c1] | rw [if_neg c1] | skip); (first | rw [if_pos c2] | rw [if_neg c2] | skip); (first | rw [if_pos c3] | rw [if_neg c3] | skip); (first | rw [if_pos c4] | rw [if_neg c4] | skip); try with_reducible rfl))
    exact lp27 (6 + 1) 0 _ _ (by omega) (by omega)  (hV1 ▸ m_T_num0 hT) (by rw [hV1]) _ _ _ hI (lv_sub hl [0, 1, 2] rfl)
  · refine lv_aload_n hx hb dX5_number_8 rfl (lv_at hl 0 rfl) ?_
    refine g_callVi (rest := [.ref (ad 7 0)]) (c_X5_isDigit l D tb ad hj P M V (by first | assumption | omega)) rfl rfl gm_X5_isDigit hx hb hml hown hts hC hI (by decide) (e_x g_us) rfl rfl qm_X5_177 rfl hl.1 rfl ⟨rfl, rfl, by decide, by decide⟩ (Nat.le_of_ble_eq_true rfl) ⟨Nat.zero_le _, Nat.zero_le _⟩ dX5_number_9 (fun H locs hI => ?_)
    refine g_tf (fun c7 => ?_) (fun c7 => ?_)
    · refine lv_if_eq (tgt := 19) hx hb dX5_number_12 (by decide) (fun c8 => absurd c8 (by decide)) (fun _ => ?_)
      refine lv_iconst (v := 1) hx hb dX5_number_15 (by decide) ?_
      refine lv_goto (tgt := 20) hx hb dX5_number_16 (by decide) ?_
      refine g_put 10 (ty := .boolean) hx hb hts hown hC hI i_X5 tyX5_ok nmX5 (by decide) (e_x g_us) rfl (by decide) qf_X5_173 rfl rfl rfl rfl rfl (Nat.le_of_ble_eq_true rfl) (p_x (by decide)) g_hs dX5_number_20 (fun H locs hI => ?_)
      refine lv_iconst (v := 0) hx hb dX5_number_23 (by decide) ?_
      refine lv_istore_n (lv' := [(1, .int 0), (0, .ref (ad 7 0))]) hx hb dX5_number_24 rfl hl (by decide) rfl (fun ls hl => ?_)
      refine lv_iconst (v := 0) hx hb dX5_number_25 (by decide) ?_
      refine lv_istore_n (lv' := [(2, .int 0), (1, .int 0), (0, .ref (ad 7 0))]) hx hb dX5_number_26 rfl hl (by decide) rfl (fun ls hl => ?_)
      have hV1 : (g_w2 V 0 10 1) = m_num0 V := by unfold m_num0; first | rw [if_pos (by assumption)] | (rw [if_neg (by assumption), if_pos (by assumption)]) | (rw [if_neg (by assumption), if_neg (by assumption)])
      have lp27 : ∀ (d k : Nat) (Vx : g_V) (y : Int32), k ≤ 6 → 6 < k + d → (m_T Vx) → (m_numN (6 - k) (Vx, y) = m_numN 6 (m_num0 V, 0)) → ∀ (H : Heap) (locs : List Loc) (ls : Array Slot), g_I D tb ad (g_A ad) s H locs P (va_up M 7 Vx) → lv_has ls 3 [(2, .int (nI k)), (1, .int y), (0, .ref (ad 7 0))] → W p l e rm_X5_number s m args below meth c H locs 0 0 Q (F0 m 27 ls []) := by
        intro d
        induction d with
        | zero => intro k Vx y hkp hfu; intros; omega
        | succ d ih27 =>
          intro k Vx y hkp hfu hTx hnum H locs ls hI hl
          refine lv_iload_n hx hb dX5_number_27 rfl (lv_at hl 0 rfl) ?_
          refine lv_bipush (v := 6) hx hb dX5_number_28 (by decide) ?_
          refine lv_icmp_ge (tgt := 76) hx hb dX5_number_30 (by decide) (fun c9 => ?_) (fun c9 => ?_)
          · have c9n : 6 ≤ k := (nI_leI (a := 6) (b := k) (by omega) (by omega)).mp c9
            refine lv_iload_n hx hb dX5_number_76 rfl (lv_at hl 1 rfl) ?_
            exact g_ir hQ hx hb hr0 hlk hC hI dX5_number_77 rfl (by unfold m_number; rw [← hnum]; first | (rw [show k = 6 from (by omega)]; rfl) | (obtain ⟨j, hj⟩ : ∃ j, 6 - k = j + 1 := ⟨5 - k, by omega⟩; rw [hj, m_numN]; (first | rw [if_pos c1] | rw [if_neg c1] | skip); (first | rw [if_pos c7] | rw [if_neg c7] | skip); (first | rw [if_pos c9] | rw [if_neg c9] | skip); try with_reducible rfl)) rfl (by unfold m_number; rw [← hnum]; first | (rw [show k = 6 from (by omega)]; rfl) | (obtain ⟨j, hj⟩ : ∃ j, 6 - k = j + 1 := ⟨5 - k, by omega⟩; rw [hj, m_numN]; (first | rw [if_pos c1] | rw [if_neg c1] | skip); (first | rw [if_pos c7] | rw [if_neg c7] | skip); (first | rw [if_pos c9] | rw [if_neg c9] | skip); try with_reducible rfl))
          · have c9n : ¬ 6 ≤ k := fun z => c9 ((nI_leI (a := 6) (b := k) (by omega) (by omega)).mpr z)
            refine lv_aload_n hx hb dX5_number_33 rfl (lv_at hl 2 rfl) ?_
            refine g_get 10 hx hb hts hown hC hI i_X5 (by decide) (e_x g_us) rfl (by decide) qf_X5_173 rfl rfl dX5_number_34 ?_
            refine lv_if_eq (tgt := 76) hx hb dX5_number_37 (by decide) (fun c10 => ?_) (fun c10 => ?_)
            · refine lv_iload_n hx hb dX5_number_76 rfl (lv_at hl 1 rfl) ?_
              exact g_ir hQ hx hb hr0 hlk hC hI dX5_number_77 rfl (by unfold m_number; rw [← hnum]; first | (rw [show k = 6 from (by omega)]; rfl) | (obtain ⟨j, hj⟩ : ∃ j, 6 - k = j + 1 := ⟨5 - k, by omega⟩; rw [hj, m_numN]; (first | rw [if_pos c1] | rw [if_neg c1] | skip); (first | rw [if_pos c7] | rw [if_neg c7] | skip); (first | rw [if_pos c9] | rw [if_neg c9] | skip); (first | rw [if_pos c10] | rw [if_neg c10] | skip); try with_reducible rfl)) rfl (by unfold m_number; rw [← hnum]; first | (rw [show k = 6 from (by omega)]; rfl) | (obtain ⟨j, hj⟩ : ∃ j, 6 - k = j + 1 := ⟨5 - k, by omega⟩; rw [hj, m_numN]; (first | rw [if_pos c1] | rw [if_neg c1] | skip); (first | rw [if_pos c7] | rw [if_neg c7] | skip); (first | rw [if_pos c9] | rw [if_neg c9] | skip); (first | rw [if_pos c10] | rw [if_neg c10] | skip); try with_reducible rfl))
            · refine lv_aload_n hx hb dX5_number_40 rfl (lv_at hl 2 rfl) ?_
              refine g_callVi (rest := []) (c_X5_isDigit l D tb ad hj P M Vx hTx) rfl rfl gm_X5_isDigit hx hb hml hown hts hC hI (by decide) (e_x g_us) rfl rfl qm_X5_177 rfl hl.1 rfl ⟨rfl, rfl, by decide, by decide⟩ (Nat.le_of_ble_eq_true rfl) ⟨Nat.zero_le _, Nat.zero_le _⟩ dX5_number_41 (fun H locs hI => ?_)
              refine g_tf (fun c11 => ?_) (fun c11 => ?_)
              · refine lv_if_eq (tgt := 76) hx hb dX5_number_44 (by decide) (fun c12 => absurd c12 (by decide)) (fun _ => ?_)
                refine lv_bipush (v := 10) hx hb dX5_number_47 (by decide) ?_
                refine lv_iload_n hx hb dX5_number_49 rfl (lv_at hl 1 rfl) ?_
                refine lv_imul hx hb dX5_number_50 ?_
                refine lv_aload_n hx hb dX5_number_51 rfl (lv_at hl 2 rfl) ?_
                refine g_callVi (rest := [.int (10 * y)]) (c_X5_here l D tb ad hj P M Vx hTx) rfl rfl gm_X5_here hx hb hml hown hts hC hI (by decide) (e_x g_us) rfl rfl qm_X5_169 rfl hl.1 rfl ⟨rfl, rfl, by decide, by decide⟩ (Nat.le_of_ble_eq_true rfl) ⟨Nat.zero_le _, Nat.zero_le _⟩ dX5_number_52 (fun H locs hI => ?_)
                refine lv_iadd hx hb dX5_number_55 ?_
                refine lv_bipush (v := 48) hx hb dX5_number_56 (by decide) ?_
                refine lv_isub hx hb dX5_number_58 ?_
                refine lv_istore_n (lv' := [(1, .int (((10 * y) + (m_here Vx)) - 48)), (2, .int (nI k)), (0, .ref (ad 7 0))]) hx hb dX5_number_59 rfl hl (by decide) rfl (fun ls hl => ?_)
                refine lv_aload_n hx hb dX5_number_60 rfl (lv_at hl 2 rfl) ?_
                refine lv_dup hx hb dX5_number_61 rfl ?_
                refine g_get 6 hx hb hts hown hC hI i_X5 (by decide) (e_x g_us) rfl (by decide) qf_X5_166 rfl rfl dX5_number_62 ?_
                refine lv_iconst (v := 1) hx hb dX5_number_65 (by decide) ?_
                refine lv_iadd hx hb dX5_number_66 ?_
                refine g_put 6 (ty := .int) hx hb hts hown hC hI i_X5 tyX5_ok nmX5 (by decide) (e_x g_us) rfl (by decide) qf_X5_166 rfl rfl rfl rfl rfl (Nat.le_of_ble_eq_true rfl) (p_x (by decide)) g_hs dX5_number_67 (fun H locs hI => ?_)
                refine lv_iinc (v := nI (k + 1)) (lv' := [(2, .int (nI (k + 1))), (1, .int (((10 * y) + (m_here Vx)) - 48)), (0, .ref (ad 7 0))]) hx hb dX5_number_70 hl (k := 1) rfl (nI_1 _) (by decide) rfl (fun ls hl => ?_)
                refine lv_goto (tgt := 27) hx hb dX5_number_73 (by decide) ?_
                exact ih27 (k + 1) _ _ (by omega) (by omega)  (by exact m_T_s hTx (m_dig c11)) (by rw [← hnum, show 6 - k = (6 - (k + 1)) + 1 from (by omega), m_numN]; (first | rw [if_pos c1] | rw [if_neg c1] | skip); (first | rw [if_pos c7] | rw [if_neg c7] | skip); (first | rw [if_pos c9] | rw [if_neg c9] | skip); (first | rw [if_pos c10] | rw [if_neg c10] | skip); (first | rw [if_pos c11] | rw [if_neg c11] | skip); try with_reducible rfl) _ _ _ hI (lv_sub hl [0, 1, 2] rfl)
              · refine lv_if_eq (tgt := 76) hx hb dX5_number_44 (by decide) (fun _ => ?_) (fun c13 => absurd c13 (by decide))
                refine lv_iload_n hx hb dX5_number_76 rfl (lv_at hl 1 rfl) ?_
                exact g_ir hQ hx hb hr0 hlk hC hI dX5_number_77 rfl (by unfold m_number; rw [← hnum]; first | (rw [show k = 6 from (by omega)]; rfl) | (obtain ⟨j, hj⟩ : ∃ j, 6 - k = j + 1 := ⟨5 - k, by omega⟩; rw [hj, m_numN]; (first | rw [if_pos c1] | rw [if_neg c1] | skip); (first | rw [if_pos c7] | rw [if_neg c7] | skip); (first | rw [if_pos c9] | rw [if_neg c9] | skip); (first | rw [if_pos c10] | rw [if_neg c10] | skip); (first | rw [if_pos c11] | rw [if_neg c11] | skip); try with_reducible rfl)) rfl (by unfold m_number; rw [← hnum]; first | (rw [show k = 6 from (by omega)]; rfl) | (obtain ⟨j, hj⟩ : ∃ j, 6 - k = j + 1 := ⟨5 - k, by omega⟩; rw [hj, m_numN]; (first | rw [if_pos c1] | rw [if_neg c1] | skip); (first | rw [if_pos c7] | rw [if_neg c7] | skip); (first | rw [if_pos c9] | rw [if_neg c9] | skip); (first | rw [if_pos c10] | rw [if_neg c10] | skip); (first | rw [if_pos c11] | rw [if_neg c11] | skip); try with_reducible rfl))
      exact lp27 (6 + 1) 0 _ _ (by omega) (by omega)  (hV1 ▸ m_T_num0 hT) (by rw [hV1]) _ _ _ hI (lv_sub hl [0, 1, 2] rfl)
    · refine lv_if_eq (tgt := 19) hx hb dX5_number_12 (by decide) (fun _ => ?_) (fun c14 => absurd c14 (by decide))
      refine lv_iconst (v := 0) hx hb dX5_number_19 (by decide) ?_
      refine g_put 10 (ty := .boolean) hx hb hts hown hC hI i_X5 tyX5_ok nmX5 (by decide) (e_x g_us) rfl (by decide) qf_X5_173 rfl rfl rfl rfl rfl (Nat.le_of_ble_eq_true rfl) (p_x (by decide)) g_hs dX5_number_20 (fun H locs hI => ?_)
      refine lv_iconst (v := 0) hx hb dX5_number_23 (by decide) ?_
      refine lv_istore_n (lv' := [(1, .int 0), (0, .ref (ad 7 0))]) hx hb dX5_number_24 rfl hl (by decide) rfl (fun ls hl => ?_)
      refine lv_iconst (v := 0) hx hb dX5_number_25 (by decide) ?_
      refine lv_istore_n (lv' := [(2, .int 0), (1, .int 0), (0, .ref (ad 7 0))]) hx hb dX5_number_26 rfl hl (by decide) rfl (fun ls hl => ?_)
      have hV1 : (g_w2 V 0 10 0) = m_num0 V := by unfold m_num0; first | rw [if_pos (by assumption)] | (rw [if_neg (by assumption), if_pos (by assumption)]) | (rw [if_neg (by assumption), if_neg (by assumption)])
      have lp27 : ∀ (d k : Nat) (Vx : g_V) (y : Int32), k ≤ 6 → 6 < k + d → (m_T Vx) → (m_numN (6 - k) (Vx, y) = m_numN 6 (m_num0 V, 0)) → ∀ (H : Heap) (locs : List Loc) (ls : Array Slot), g_I D tb ad (g_A ad) s H locs P (va_up M 7 Vx) → lv_has ls 3 [(2, .int (nI k)), (1, .int y), (0, .ref (ad 7 0))] → W p l e rm_X5_number s m args below meth c H locs 0 0 Q (F0 m 27 ls []) := by
        intro d
        induction d with
        | zero => intro k Vx y hkp hfu; intros; omega
        | succ d ih27 =>
          intro k Vx y hkp hfu hTx hnum H locs ls hI hl
          refine lv_iload_n hx hb dX5_number_27 rfl (lv_at hl 0 rfl) ?_
          refine lv_bipush (v := 6) hx hb dX5_number_28 (by decide) ?_
          refine lv_icmp_ge (tgt := 76) hx hb dX5_number_30 (by decide) (fun c15 => ?_) (fun c15 => ?_)
          · have c15n : 6 ≤ k := (nI_leI (a := 6) (b := k) (by omega) (by omega)).mp c15
            refine lv_iload_n hx hb dX5_number_76 rfl (lv_at hl 1 rfl) ?_
            exact g_ir hQ hx hb hr0 hlk hC hI dX5_number_77 rfl (by unfold m_number; rw [← hnum]; first | (rw [show k = 6 from (by omega)]; rfl) | (obtain ⟨j, hj⟩ : ∃ j, 6 - k = j + 1 := ⟨5 - k, by omega⟩; rw [hj, m_numN]; (first | rw [if_pos c1] | rw [if_neg c1] | skip); (first | rw [if_pos c7] | rw [if_neg c7] | skip); (first | rw [if_pos c15] | rw [if_neg c15] | skip); try with_reducible rfl)) rfl (by unfold m_number; rw [← hnum]; first | (rw [show k = 6 from (by omega)]; rfl) | (obtain ⟨j, hj⟩ : ∃ j, 6 - k = j + 1 := ⟨5 - k, by omega⟩; rw [hj, m_numN]; (first | rw [if_pos c1] | rw [if_neg c1] | skip); (first | rw [if_pos c7] | rw [if_neg c7] | skip); (first | rw [if_pos c15] | rw [if_neg c15] | skip); try with_reducible rfl))
          · have c15n : ¬ 6 ≤ k := fun z => c15 ((nI_leI (a := 6) (b := k) (by omega) (by omega)).mpr z)
            refine lv_aload_n hx hb dX5_number_33 rfl (lv_at hl 2 rfl) ?_
            refine g_get 10 hx hb hts hown hC hI i_X5 (by decide) (e_x g_us) rfl (by decide) qf_X5_173 rfl rfl dX5_number_34 ?_
            refine lv_if_eq (tgt := 76) hx hb dX5_number_37 (by decide) (fun c16 => ?_) (fun c16 => ?_)
            · refine lv_iload_n hx hb dX5_number_76 rfl (lv_at hl 1 rfl) ?_
              exact g_ir hQ hx hb hr0 hlk hC hI dX5_number_77 rfl (by unfold m_number; rw [← hnum]; first | (rw [show k = 6 from (by omega)]; rfl) | (obtain ⟨j, hj⟩ : ∃ j, 6 - k = j + 1 := ⟨5 - k, by omega⟩; rw [hj, m_numN]; (first | rw [if_pos c1] | rw [if_neg c1] | skip); (first | rw [if_pos c7] | rw [if_neg c7] | skip); (first | rw [if_pos c15] | rw [if_neg c15] | skip); (first | rw [if_pos c16] | rw [if_neg c16] | skip); try with_reducible rfl)) rfl (by unfold m_number; rw [← hnum]; first | (rw [show k = 6 from (by omega)]; rfl) | (obtain ⟨j, hj⟩ : ∃ j, 6 - k = j + 1 := ⟨5 - k, by omega⟩; rw [hj, m_numN]; (first | rw [if_pos c1] | rw [if_neg c1] | skip); (first | rw [if_pos c7] | rw [if_neg c7] | skip); (first | rw [if_pos c15] | rw [if_neg c15] | skip); (first | rw [if_pos c16] | rw [if_neg c16] | skip); try with_reducible rfl))
            · refine lv_aload_n hx hb dX5_number_40 rfl (lv_at hl 2 rfl) ?_
              refine g_callVi (rest := []) (c_X5_isDigit l D tb ad hj P M Vx hTx) rfl rfl gm_X5_isDigit hx hb hml hown hts hC hI (by decide) (e_x g_us) rfl rfl qm_X5_177 rfl hl.1 rfl ⟨rfl, rfl, by decide, by decide⟩ (Nat.le_of_ble_eq_true rfl) ⟨Nat.zero_le _, Nat.zero_le _⟩ dX5_number_41 (fun H locs hI => ?_)
              refine g_tf (fun c17 => ?_) (fun c17 => ?_)
              · refine lv_if_eq (tgt := 76) hx hb dX5_number_44 (by decide) (fun c18 => absurd c18 (by decide)) (fun _ => ?_)
                refine lv_bipush (v := 10) hx hb dX5_number_47 (by decide) ?_
                refine lv_iload_n hx hb dX5_number_49 rfl (lv_at hl 1 rfl) ?_
                refine lv_imul hx hb dX5_number_50 ?_
                refine lv_aload_n hx hb dX5_number_51 rfl (lv_at hl 2 rfl) ?_
                refine g_callVi (rest := [.int (10 * y)]) (c_X5_here l D tb ad hj P M Vx hTx) rfl rfl gm_X5_here hx hb hml hown hts hC hI (by decide) (e_x g_us) rfl rfl qm_X5_169 rfl hl.1 rfl ⟨rfl, rfl, by decide, by decide⟩ (Nat.le_of_ble_eq_true rfl) ⟨Nat.zero_le _, Nat.zero_le _⟩ dX5_number_52 (fun H locs hI => ?_)
                refine lv_iadd hx hb dX5_number_55 ?_
                refine lv_bipush (v := 48) hx hb dX5_number_56 (by decide) ?_
                refine lv_isub hx hb dX5_number_58 ?_
                refine lv_istore_n (lv' := [(1, .int (((10 * y) + (m_here Vx)) - 48)), (2, .int (nI k)), (0, .ref (ad 7 0))]) hx hb dX5_number_59 rfl hl (by decide) rfl (fun ls hl => ?_)
                refine lv_aload_n hx hb dX5_number_60 rfl (lv_at hl 2 rfl) ?_
                refine lv_dup hx hb dX5_number_61 rfl ?_
                refine g_get 6 hx hb hts hown hC hI i_X5 (by decide) (e_x g_us) rfl (by decide) qf_X5_166 rfl rfl dX5_number_62 ?_
                refine lv_iconst (v := 1) hx hb dX5_number_65 (by decide) ?_
                refine lv_iadd hx hb dX5_number_66 ?_
                refine g_put 6 (ty := .int) hx hb hts hown hC hI i_X5 tyX5_ok nmX5 (by decide) (e_x g_us) rfl (by decide) qf_X5_166 rfl rfl rfl rfl rfl (Nat.le_of_ble_eq_true rfl) (p_x (by decide)) g_hs dX5_number_67 (fun H locs hI => ?_)
                refine lv_iinc (v := nI (k + 1)) (lv' := [(2, .int (nI (k + 1))), (1, .int (((10 * y) + (m_here Vx)) - 48)), (0, .ref (ad 7 0))]) hx hb dX5_number_70 hl (k := 1) rfl (nI_1 _) (by decide) rfl (fun ls hl => ?_)
                refine lv_goto (tgt := 27) hx hb dX5_number_73 (by decide) ?_
                exact ih27 (k + 1) _ _ (by omega) (by omega)  (by exact m_T_s hTx (m_dig c17)) (by rw [← hnum, show 6 - k = (6 - (k + 1)) + 1 from (by omega), m_numN]; (first | rw [if_pos c1] | rw [if_neg c1] | skip); (first | rw [if_pos c7] | rw [if_neg c7] | skip); (first | rw [if_pos c15] | rw [if_neg c15] | skip); (first | rw [if_pos c16] | rw [if_neg c16] | skip); (first | rw [if_pos c17] | rw [if_neg c17] | skip); try with_reducible rfl) _ _ _ hI (lv_sub hl [0, 1, 2] rfl)
              · refine lv_if_eq (tgt := 76) hx hb dX5_number_44 (by decide) (fun _ => ?_) (fun c19 => absurd c19 (by decide))
                refine lv_iload_n hx hb dX5_number_76 rfl (lv_at hl 1 rfl) ?_
                exact g_ir hQ hx hb hr0 hlk hC hI dX5_number_77 rfl (by unfold m_number; rw [← hnum]; first | (rw [show k = 6 from (by omega)]; rfl) | (obtain ⟨j, hj⟩ : ∃ j, 6 - k = j + 1 := ⟨5 - k, by omega⟩; rw [hj, m_numN]; (first | rw [if_pos c1] | rw [if_neg c1] | skip); (first | rw [if_pos c7] | rw [if_neg c7] | skip); (first | rw [if_pos c15] | rw [if_neg c15] | skip); (first | rw [if_pos c16] | rw [if_neg c16] | skip); (first | rw [if_pos c17] | rw [if_neg c17] | skip); try with_reducible rfl)) rfl (by unfold m_number; rw [← hnum]; first | (rw [show k = 6 from (by omega)]; rfl) | (obtain ⟨j, hj⟩ : ∃ j, 6 - k = j + 1 := ⟨5 - k, by omega⟩; rw [hj, m_numN]; (first | rw [if_pos c1] | rw [if_neg c1] | skip); (first | rw [if_pos c7] | rw [if_neg c7] | skip); (first | rw [if_pos c15] | rw [if_neg c15] | skip); (first | rw [if_pos c16] | rw [if_neg c16] | skip); (first | rw [if_pos c17] | rw [if_neg c17] | skip); try with_reducible rfl))
      exact lp27 (6 + 1) 0 _ _ (by omega) (by omega)  (hV1 ▸ m_T_num0 hT) (by rw [hV1]) _ _ _ hI (lv_sub hl [0, 1, 2] rfl)
abbrev rm_X5_wants : Room := { frames := 0, cells := 0, slots := 0, locals := 0 }
set_option maxHeartbeats 800000 in
set_option maxRecDepth 100000 in
theorem c_X5_wants (l : Launch) (D : va_G) (tb : g_T) (ad : g_Ad) (hj : g_inj ad) (P : g_P) (M : g_M) (x : Int32) : g_Ci l yX5_wants cX5_wants 1 (some .int) rm_X5_wants D tb ad [.int x] P (M) (m_wants x) P (M) := by
  refine g_go (by decide) (Nat.le_of_ble_eq_true rfl) hj ?_
  intro p e s m below meth c ls H locs R args Q hR0 hQ hx hb hml hr0 hlk hown hts hC hI hl
  subst hR0
  have hown : s.vm.findClass RX5 = some m.cls := hown
  have hl : lv_has ls 1 [(0, .int x)] := hl
  refine lv_iload_n hx hb dX5_wants_0 rfl (lv_at hl 0 rfl) ?_
  by_cases c1 : x = 108
  · refine lv_lookup (tgt := 36) (off := 35) hx hb dX5_wants_1 (by decide) (by rw [c1] <;> rfl) (by decide) ?_
    refine lv_iconst (v := 3) hx hb dX5_wants_36 (by decide) ?_
    exact g_ir hQ hx hb hr0 hlk hC hI dX5_wants_37 rfl (by unfold m_wants; (first | rw [if_pos c1] | rw [if_neg c1] | skip); try simp [c1]) rfl rfl
  by_cases c2 : x = 112
  · refine lv_lookup (tgt := 38) (off := 37) hx hb dX5_wants_1 (by decide) (by rw [c2] <;> rfl) (by decide) ?_
    refine lv_iconst (v := 2) hx hb dX5_wants_38 (by decide) ?_
    exact g_ir hQ hx hb hr0 hlk hC hI dX5_wants_39 rfl (by unfold m_wants; (first | rw [if_pos c1] | rw [if_neg c1] | skip); (first | rw [if_pos c2] | rw [if_neg c2] | skip); try simp [c1, c2]) rfl rfl
  by_cases c3 : x = 115
  · refine lv_lookup (tgt := 36) (off := 35) hx hb dX5_wants_1 (by decide) (by rw [c3] <;> rfl) (by decide) ?_
    refine lv_iconst (v := 3) hx hb dX5_wants_36 (by decide) ?_
    exact g_ir hQ hx hb hr0 hlk hC hI dX5_wants_37 rfl (by unfold m_wants; (first | rw [if_pos c1] | rw [if_neg c1] | skip); (first | rw [if_pos c2] | rw [if_neg c2] | skip); (first | rw [if_pos c3] | rw [if_neg c3] | skip); try simp [c1, c2, c3]) rfl rfl
  refine lv_lookup (tgt := 40) (off := 39) hx hb dX5_wants_1 (by decide) (by have c1i := k_ti c1 (k := 108) rfl; have c2i := k_ti c2 (k := 112) rfl; have c3i := k_ti c3 (k := 115) rfl; simp [Op.lookupswitch.offset, (show ¬ (108 : Int) = x.toInt from fun z => c1i z.symm), (show ¬ (112 : Int) = x.toInt from fun z => c2i z.symm), (show ¬ (115 : Int) = x.toInt from fun z => c3i z.symm)]) (by decide) ?_
  refine lv_iload_n hx hb dX5_wants_40 rfl (lv_at hl 0 rfl) ?_
  refine lv_bipush (v := 99) hx hb dX5_wants_41 (by decide) ?_
  refine lv_icmp_eq (tgt := 58) hx hb dX5_wants_43 (by decide) (fun c4 => ?_) (fun c4 => ?_)
  · refine lv_iconst (v := 1) hx hb dX5_wants_58 (by decide) ?_
    refine lv_goto (tgt := 63) hx hb dX5_wants_59 (by decide) ?_
    exact g_ir hQ hx hb hr0 hlk hC hI dX5_wants_63 rfl (by unfold m_wants; (first | rw [if_pos c1] | rw [if_neg c1] | skip); (first | rw [if_pos c2] | rw [if_neg c2] | skip); (first | rw [if_pos c3] | rw [if_neg c3] | skip); (first | rw [if_pos c4] | rw [if_neg c4] | skip); try simp [c1, c2, c3, c4]) rfl rfl
  · refine lv_iload_n hx hb dX5_wants_46 rfl (lv_at hl 0 rfl) ?_
    refine lv_bipush (v := 100) hx hb dX5_wants_47 (by decide) ?_
    refine lv_icmp_eq (tgt := 58) hx hb dX5_wants_49 (by decide) (fun c5 => ?_) (fun c5 => ?_)
    · refine lv_iconst (v := 1) hx hb dX5_wants_58 (by decide) ?_
      refine lv_goto (tgt := 63) hx hb dX5_wants_59 (by decide) ?_
      exact g_ir hQ hx hb hr0 hlk hC hI dX5_wants_63 rfl (by unfold m_wants; (first | rw [if_pos c1] | rw [if_neg c1] | skip); (first | rw [if_pos c2] | rw [if_neg c2] | skip); (first | rw [if_pos c3] | rw [if_neg c3] | skip); (first | rw [if_pos c4] | rw [if_neg c4] | skip); (first | rw [if_pos c5] | rw [if_neg c5] | skip); try simp [c1, c2, c3, c4, c5]) rfl rfl
    · refine lv_iload_n hx hb dX5_wants_52 rfl (lv_at hl 0 rfl) ?_
      refine lv_bipush (v := 116) hx hb dX5_wants_53 (by decide) ?_
      refine lv_icmp_ne (tgt := 62) hx hb dX5_wants_55 (by decide) (fun c6 => ?_) (fun c6 => ?_)
      · refine lv_iconst (v := 0) hx hb dX5_wants_62 (by decide) ?_
        exact g_ir hQ hx hb hr0 hlk hC hI dX5_wants_63 rfl (by unfold m_wants; (first | rw [if_pos c1] | rw [if_neg c1] | skip); (first | rw [if_pos c2] | rw [if_neg c2] | skip); (first | rw [if_pos c3] | rw [if_neg c3] | skip); (first | rw [if_pos c4] | rw [if_neg c4] | skip); (first | rw [if_pos c5] | rw [if_neg c5] | skip); (first | rw [if_pos c6] | rw [if_neg c6] | skip); try simp [c1, c2, c3, c4, c5, c6]) rfl rfl
      · refine lv_iconst (v := 1) hx hb dX5_wants_58 (by decide) ?_
        refine lv_goto (tgt := 63) hx hb dX5_wants_59 (by decide) ?_
        exact g_ir hQ hx hb hr0 hlk hC hI dX5_wants_63 rfl (by unfold m_wants; (first | rw [if_pos c1] | rw [if_neg c1] | skip); (first | rw [if_pos c2] | rw [if_neg c2] | skip); (first | rw [if_pos c3] | rw [if_neg c3] | skip); (first | rw [if_pos c4] | rw [if_neg c4] | skip); (first | rw [if_pos c5] | rw [if_neg c5] | skip); (first | rw [if_pos c6] | rw [if_neg c6] | skip); try simp [c1, c2, c3, c4, c5, c6]) rfl rfl
