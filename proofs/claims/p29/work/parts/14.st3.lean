abbrev rm_X3_passDay : Room := { frames := 2, cells := 0, slots := 0, locals := 42 }
set_option maxHeartbeats 800000 in
set_option maxRecDepth 100000 in
theorem c_X3_passDay (l : Launch) (D : va_G) (tb : g_T) (ad : g_Ad) (hj : g_inj ad) (P : g_P) (M : g_M) (r : Nat) (hr : r < 6) (V : g_V) : g_Cv l yX3_passDay cX3_passDay 5 none rm_X3_passDay D tb ad [.ref (ad r 0)] P (va_up M r V) P (va_up M r (q_passDay V)) := by
  refine g_go (by decide) (Nat.le_of_ble_eq_true rfl) hj ?_
  intro p e s m below meth c ls H locs R args Q hR0 hQ hx hb hml hr0 hlk hown hts hC hI hl
  subst hR0
  have hown : s.vm.findClass RX3 = some m.cls := hown
  have hl : lv_has ls 5 [(0, .ref (ad r 0))] := hl
  refine lv_aload_n hx hb dX3_passDay_0 rfl (lv_at hl 0 rfl) ?_
  refine lv_dup hx hb dX3_passDay_1 rfl ?_
  refine g_get 6 hx hb hts hown hC hI i_X3 (ok_c 0 hr (by decide)) (e_st hr g_us) rfl (by decide) qf_X3_55 rfl rfl dX3_passDay_2 ?_
  refine lv_iconst (v := 1) hx hb dX3_passDay_5 (by decide) ?_
  refine lv_iadd hx hb dX3_passDay_6 ?_
  refine g_put 6 (ty := .int) hx hb hts hown hC hI i_X3 tyX3_ok nmX3 (ok_c 0 hr (by decide)) (e_st hr g_us) rfl (by decide) qf_X3_55 rfl rfl rfl rfl rfl (Nat.le_of_ble_eq_true rfl) (p_st hr (by decide)) g_hs dX3_passDay_7 (fun H locs hI => ?_)
  refine lv_aload_n hx hb dX3_passDay_10 rfl (lv_at hl 0 rfl) ?_
  refine g_get 1 hx hb hts hown hC hI i_X3 (ok_c 0 hr (by decide)) (e_st hr g_us) rfl (by decide) qf_X3_19 rfl rfl dX3_passDay_11 ?_
  refine lv_astore_n (lv' := [(1, .ref (ad r 2)), (0, .ref (ad r 0))]) hx hb dX3_passDay_14 rfl hl (by decide) rfl (fun ls hl => ?_)
  refine lv_aload_n hx hb dX3_passDay_15 rfl (lv_at hl 0 rfl) ?_
  refine g_alen 3 (v := 16) hx hb hC hI (ok_c 2 hr (by decide)) (e_recs hr) rfl rfl dX3_passDay_16 ?_
  refine lv_istore_n (lv' := [(2, .int 16), (1, .ref (ad r 2)), (0, .ref (ad r 0))]) hx hb dX3_passDay_17 rfl hl (by decide) rfl (fun ls hl => ?_)
  refine lv_iconst (v := 0) hx hb dX3_passDay_18 (by decide) ?_
  refine lv_istore_n (lv' := [(3, .int 0), (2, .int 16), (1, .ref (ad r 2)), (0, .ref (ad r 0))]) hx hb dX3_passDay_19 rfl hl (by decide) rfl (fun ls hl => ?_)
  have lp20 : ∀ (d k : Nat) (Vx : g_V), k ≤ 16 → 16 < k + d → Vx = k_iter q_dayStep (g_w2 V 0 6 (V 0 6 + 1)) k → ∀ (H : Heap) (locs : List Loc) (ls : Array Slot), g_I D tb ad (g_A ad) s H locs P (va_up M r Vx) → lv_has ls 5 [(3, .int (nI k)), (2, .int 16), (1, .ref (ad r 2)), (0, .ref (ad r 0))] → W p l e rm_X3_passDay s m args below meth c H locs 0 0 Q (F0 m 20 ls []) := by
    intro d
    induction d with
    | zero => intro k Vx hkp hfu; intros; omega
    | succ d ih20 =>
      intro k Vx hkp hfu e_Vx H locs ls hI hl
      refine lv_iload_n hx hb dX3_passDay_20 rfl (lv_at hl 0 rfl) ?_
      refine lv_iload_n hx hb dX3_passDay_21 rfl (lv_at hl 1 rfl) ?_
      refine lv_icmp_ge (tgt := 87) hx hb dX3_passDay_22 (by decide) (fun c1 => ?_) (fun c1 => ?_)
      · have c1n : 16 ≤ k := (nI_leI (a := 16) (b := k) (by omega) (by omega)).mp c1
        exact g_vr hQ hx hb hr0 hlk hC hI dX3_passDay_87 rfl (by rw [show k = 16 from (by omega)] at e_Vx; unfold q_passDay; rw [← e_Vx])
      · have c1n : ¬ 16 ≤ k := fun z => c1 ((nI_leI (a := 16) (b := k) (by omega) (by omega)).mpr z)
        refine lv_aload_n hx hb dX3_passDay_25 rfl (lv_at hl 2 rfl) ?_
        refine lv_iload_n hx hb dX3_passDay_26 rfl (lv_at hl 0 rfl) ?_
        refine g_aald 3 k hx hb hC hI (ok_c 2 hr (by decide)) (e_recs hr) rfl (vp_in_nI (by omega) (by decide)) (nI_clamp (by omega)) dX3_passDay_27 ?_
        have hk2 : k < 16 := (by omega)
        refine lv_astore (lv' := [(4, .ref (ad r (12 + k))), (3, .int (nI k)), (2, .int 16), (1, .ref (ad r 2)), (0, .ref (ad r 0))]) hx hb dX3_passDay_28 hl (by decide) rfl (fun ls hl => ?_)
        refine lv_aload hx hb dX3_passDay_30 (lv_at hl 0 rfl) ?_
        refine g_callVi (rest := []) (c_X1_isCalled l D tb ad hj P M r hr Vx k hk2) rfl rfl gm_X1_isCalled hx hb hml hown hts hC hI (ok_rec hr hk2) (e_rec hr hk2 g_us) rfl rfl qm_X3_189 rfl hl.1 rfl ⟨rfl, rfl, by decide, by decide⟩ (Nat.le_of_ble_eq_true rfl) ⟨Nat.zero_le _, Nat.zero_le _⟩ dX3_passDay_32 (fun H locs hI => ?_)
        refine g_tf (fun c3 => ?_) (fun c3 => ?_)
        · refine lv_if_eq (tgt := 81) hx hb dX3_passDay_35 (by decide) (fun c4 => absurd c4 (by decide)) (fun _ => ?_)
          refine lv_aload hx hb dX3_passDay_38 (lv_at hl 0 rfl) ?_
          refine lv_dup hx hb dX3_passDay_40 rfl ?_
          refine g_get 6 hx hb hts hown hC hI i_X1 (ok_rec hr hk2) (e_rec hr hk2 g_us) rfl (by decide) qf_X3_155 rfl rfl dX3_passDay_41 ?_
          refine lv_iconst (v := 1) hx hb dX3_passDay_44 (by decide) ?_
          refine lv_isub hx hb dX3_passDay_45 ?_
          refine g_put 6 (ty := .int) hx hb hts hown hC hI i_X1 tyX1_ok nmX1 (ok_rec hr hk2) (e_rec hr hk2 g_us) rfl (by decide) qf_X3_155 rfl rfl rfl rfl rfl (Nat.le_of_ble_eq_true rfl) (p_rec hr hk2 (by decide)) g_hs dX3_passDay_46 (fun H locs hI => ?_)
          refine lv_aload_n hx hb dX3_passDay_49 rfl (lv_at hl 4 rfl) ?_
          refine lv_aload hx hb dX3_passDay_50 (lv_at hl 0 rfl) ?_
          refine g_callVi (rest := []) (c_X3_isLoanTooHigh l D tb ad hj P M r hr (g_w2 Vx (12 + k) 6 ((Vx (12 + k) 6) - 1)) k hk2) rfl rfl gm_X3_isLoanTooHigh hx hb hml hown hts hC hI (ok_c 0 hr (by decide)) (e_st hr g_us) rfl rfl qm_X3_151 rfl hl.1 rfl ⟨rfl, rfl, by decide, by decide⟩ (Nat.le_of_ble_eq_true rfl) ⟨Nat.zero_le _, Nat.zero_le _⟩ dX3_passDay_52 (fun H locs hI => ?_)
          refine g_tf (fun c5 => ?_) (fun c5 => ?_)
          · refine lv_if_ne (tgt := 67) hx hb dX3_passDay_55 (by decide) (fun _ => ?_) (fun c6 => absurd c6 (by decide))
            refine lv_aload hx hb dX3_passDay_67 (lv_at hl 0 rfl) ?_
            refine g_callVi (rest := []) (c_X1_isCalled l D tb ad hj P M r hr (g_w2 Vx (12 + k) 6 ((Vx (12 + k) 6) - 1)) k hk2) rfl rfl gm_X1_isCalled hx hb hml hown hts hC hI (ok_rec hr hk2) (e_rec hr hk2 g_us) rfl rfl qm_X3_189 rfl hl.1 rfl ⟨rfl, rfl, by decide, by decide⟩ (Nat.le_of_ble_eq_true rfl) ⟨Nat.zero_le _, Nat.zero_le _⟩ dX3_passDay_69 (fun H locs hI => ?_)
            refine g_tf (fun c7 => ?_) (fun c7 => ?_)
            · refine lv_if_ne (tgt := 81) hx hb dX3_passDay_72 (by decide) (fun _ => ?_) (fun c8 => absurd c8 (by decide))
              refine lv_iinc (v := nI (k + 1)) (lv' := [(3, .int (nI (k + 1))), (4, .ref (ad r (12 + k))), (2, .int 16), (1, .ref (ad r 2)), (0, .ref (ad r 0))]) hx hb dX3_passDay_81 hl (k := 1) rfl (nI_1 _) (by decide) rfl (fun ls hl => ?_)
              refine lv_goto (tgt := 20) hx hb dX3_passDay_84 (by decide) ?_
              exact ih20 (k + 1) _ (by omega) (by omega) (by rw [k_iter, ← e_Vx, q_dayStep]; (try unfold q_dec); (first | rw [if_pos c1] | rw [if_neg c1] | skip); (first | rw [if_pos c3] | rw [if_neg c3] | skip); (first | rw [if_pos c5] | rw [if_neg c5] | skip); (first | rw [if_pos c7] | rw [if_neg c7] | skip); try with_reducible rfl)  _ _ _ hI (lv_sub hl [0, 2, 3, 4] rfl)
            · refine lv_if_ne (tgt := 81) hx hb dX3_passDay_72 (by decide) (fun c9 => absurd c9 (by decide)) (fun _ => ?_)
              refine lv_aload_n hx hb dX3_passDay_75 rfl (lv_at hl 4 rfl) ?_
              refine lv_aload hx hb dX3_passDay_76 (lv_at hl 0 rfl) ?_
              refine g_callVv (rest := []) (c_X3_seize l D tb ad hj P M r hr (g_w2 Vx (12 + k) 6 ((Vx (12 + k) 6) - 1)) k hk2) rfl rfl gm_X3_seize hx hb hml hown hts hC hI (ok_c 0 hr (by decide)) (e_st hr g_us) rfl rfl qm_X3_225 rfl hl.1 rfl ⟨rfl, rfl, by decide, by decide⟩ (Nat.le_of_ble_eq_true rfl) ⟨Nat.zero_le _, Nat.zero_le _⟩ dX3_passDay_78 (fun H locs hI => ?_)
              refine lv_iinc (v := nI (k + 1)) (lv' := [(3, .int (nI (k + 1))), (4, .ref (ad r (12 + k))), (2, .int 16), (1, .ref (ad r 2)), (0, .ref (ad r 0))]) hx hb dX3_passDay_81 hl (k := 1) rfl (nI_1 _) (by decide) rfl (fun ls hl => ?_)
              refine lv_goto (tgt := 20) hx hb dX3_passDay_84 (by decide) ?_
              exact ih20 (k + 1) _ (by omega) (by omega) (by rw [k_iter, ← e_Vx, q_dayStep]; (try unfold q_dec); (first | rw [if_pos c1] | rw [if_neg c1] | skip); (first | rw [if_pos c3] | rw [if_neg c3] | skip); (first | rw [if_pos c5] | rw [if_neg c5] | skip); (first | rw [if_pos c7] | rw [if_neg c7] | skip); try with_reducible rfl)  _ _ _ hI (lv_sub hl [0, 2, 3, 4] rfl)
          · refine lv_if_ne (tgt := 67) hx hb dX3_passDay_55 (by decide) (fun c10 => absurd c10 (by decide)) (fun _ => ?_)
            refine lv_aload hx hb dX3_passDay_58 (lv_at hl 0 rfl) ?_
            refine lv_iconst (v := 0) hx hb dX3_passDay_60 (by decide) ?_
            refine g_put 6 (ty := .int) hx hb hts hown hC hI i_X1 tyX1_ok nmX1 (ok_rec hr hk2) (e_rec hr hk2 g_us) rfl (by decide) qf_X3_155 rfl rfl rfl rfl rfl (Nat.le_of_ble_eq_true rfl) (p_rec hr hk2 (by decide)) g_hs dX3_passDay_61 (fun H locs hI => ?_)
            refine lv_goto (tgt := 81) hx hb dX3_passDay_64 (by decide) ?_
            refine lv_iinc (v := nI (k + 1)) (lv' := [(3, .int (nI (k + 1))), (4, .ref (ad r (12 + k))), (2, .int 16), (1, .ref (ad r 2)), (0, .ref (ad r 0))]) hx hb dX3_passDay_81 hl (k := 1) rfl (nI_1 _) (by decide) rfl (fun ls hl => ?_)
            refine lv_goto (tgt := 20) hx hb dX3_passDay_84 (by decide) ?_
            exact ih20 (k + 1) _ (by omega) (by omega) (by rw [k_iter, ← e_Vx, q_dayStep]; (try unfold q_dec); (first | rw [if_pos c1] | rw [if_neg c1] | skip); (first | rw [if_pos c3] | rw [if_neg c3] | skip); (first | rw [if_pos c5] | rw [if_neg c5] | skip); try with_reducible rfl)  _ _ _ hI (lv_sub hl [0, 2, 3, 4] rfl)
        · refine lv_if_eq (tgt := 81) hx hb dX3_passDay_35 (by decide) (fun _ => ?_) (fun c11 => absurd c11 (by decide))
          refine lv_iinc (v := nI (k + 1)) (lv' := [(3, .int (nI (k + 1))), (4, .ref (ad r (12 + k))), (2, .int 16), (1, .ref (ad r 2)), (0, .ref (ad r 0))]) hx hb dX3_passDay_81 hl (k := 1) rfl (nI_1 _) (by decide) rfl (fun ls hl => ?_)
          refine lv_goto (tgt := 20) hx hb dX3_passDay_84 (by decide) ?_
          exact ih20 (k + 1) _ (by omega) (by omega) (by rw [k_iter, ← e_Vx, q_dayStep]; (try unfold q_dec); (first | rw [if_pos c1] | rw [if_neg c1] | skip); (first | rw [if_pos c3] | rw [if_neg c3] | skip); try with_reducible rfl)  _ _ _ hI (lv_sub hl [0, 2, 3, 4] rfl)
  exact lp20 (16 + 1) 0 _ (by omega) (by omega) rfl  _ _ _ hI (lv_sub hl [0, 1, 2, 3] rfl)
def q_pass (V : g_V) (days : Int32) : Int32 × g_V :=
  if days < 1 then ((-2000000001), V) else (if days ≤ 99 then ((((q_passN V (days.toNatClampNeg)) 0 8) - (V 0 8)), (q_passN V (days.toNatClampNeg))) else ((-2000000001), V))
abbrev rm_X3_passDays : Room := { frames := 3, cells := 0, slots := 0, locals := 66 }
set_option maxHeartbeats 800000 in
set_option maxRecDepth 100000 in
theorem c_X3_passDays (l : Launch) (D : va_G) (tb : g_T) (ad : g_Ad) (hj : g_inj ad) (P : g_P) (M : g_M) (r : Nat) (hr : r < 6) (V : g_V) (days : Int32) : g_Ci l yX3_passDays cX3_passDays 4 (some .int) rm_X3_passDays D tb ad [.ref (ad r 0), .int days] P (va_up M r V) ((q_pass V days).1) P (va_up M r ((q_pass V days).2)) := by
  refine g_go (by decide) (Nat.le_of_ble_eq_true rfl) hj ?_
  intro p e s m below meth c ls H locs R args Q hR0 hQ hx hb hml hr0 hlk hown hts hC hI hl
  subst hR0
  have hown : s.vm.findClass RX3 = some m.cls := hown
  have hl : lv_has ls 4 [(0, .ref (ad r 0)), (1, .int days)] := hl
  refine lv_iload_n hx hb dX3_passDays_0 rfl (lv_at hl 1 rfl) ?_
  refine lv_iconst (v := 1) hx hb dX3_passDays_1 (by decide) ?_
  refine lv_icmp_lt (tgt := 11) hx hb dX3_passDays_2 (by decide) (fun c1 => ?_) (fun c1 => ?_)
  · refine lv_ldc (v := (-2000000001)) hx hb hown (hts _ qc_X3_74) dX3_passDays_11 ?_
    exact g_ir hQ hx hb hr0 hlk hC hI dX3_passDays_13 rfl (by unfold q_pass; (try simp only [hcldn]); skip; (first | rw [if_pos c1] | rw [if_neg c1] | skip); try with_reducible rfl) rfl (by unfold q_pass; (try simp only [hcldn]); skip; (first | rw [if_pos c1] | rw [if_neg c1] | skip); try with_reducible rfl)
  · refine lv_iload_n hx hb dX3_passDays_5 rfl (lv_at hl 1 rfl) ?_
    refine lv_bipush (v := 99) hx hb dX3_passDays_6 (by decide) ?_
    refine lv_icmp_le (tgt := 14) hx hb dX3_passDays_8 (by decide) (fun c2 => ?_) (fun c2 => ?_)
    · refine lv_aload_n hx hb dX3_passDays_14 rfl (lv_at hl 0 rfl) ?_
      refine g_get 8 hx hb hts hown hC hI i_X3 (ok_c 0 hr (by decide)) (e_st hr g_us) rfl (by decide) qf_X3_61 rfl rfl dX3_passDays_15 ?_
      refine lv_istore_n (lv' := [(2, .int (V 0 8)), (0, .ref (ad r 0)), (1, .int days)]) hx hb dX3_passDays_18 rfl hl (by decide) rfl (fun ls hl => ?_)
      refine lv_iconst (v := 0) hx hb dX3_passDays_19 (by decide) ?_
      refine lv_istore_n (lv' := [(3, .int 0), (2, .int (V 0 8)), (0, .ref (ad r 0)), (1, .int days)]) hx hb dX3_passDays_20 rfl hl (by decide) rfl (fun ls hl => ?_)
      obtain ⟨dn, hdn, rfl⟩ := k_range c1 c2 (N := 99) rfl
      have hcldn : (nI dn).toNatClampNeg = dn := nI_clamp (by omega)
      have lp21 : ∀ (d k : Nat) (Vx : g_V), k ≤ dn → dn < k + d → Vx = q_passN V k → ∀ (H : Heap) (locs : List Loc) (ls : Array Slot), g_I D tb ad (g_A ad) s H locs P (va_up M r Vx) → lv_has ls 4 [(3, .int (nI k)), (2, .int (V 0 8)), (0, .ref (ad r 0)), (1, .int (nI dn))] → W p l e rm_X3_passDays s m args below meth c H locs 0 0 Q (F0 m 21 ls []) := by
        intro d
        induction d with
        | zero => intro k Vx hkp hfu; intros; omega
        | succ d ih21 =>
          intro k Vx hkp hfu e_Vx H locs ls hI hl
          refine lv_iload_n hx hb dX3_passDays_21 rfl (lv_at hl 0 rfl) ?_
          refine lv_iload_n hx hb dX3_passDays_22 rfl (lv_at hl 3 rfl) ?_
          refine lv_icmp_ge (tgt := 36) hx hb dX3_passDays_23 (by decide) (fun c3 => ?_) (fun c3 => ?_)
          · have c3n : dn ≤ k := (nI_leI (a := dn) (b := k) (by omega) (by omega)).mp c3
            refine lv_aload_n hx hb dX3_passDays_36 rfl (lv_at hl 2 rfl) ?_
            refine g_get 8 hx hb hts hown hC hI i_X3 (ok_c 0 hr (by decide)) (e_st hr g_us) rfl (by decide) qf_X3_61 rfl rfl dX3_passDays_37 ?_
            refine lv_iload_n hx hb dX3_passDays_40 rfl (lv_at hl 1 rfl) ?_
            refine lv_isub hx hb dX3_passDays_41 ?_
            exact g_ir hQ hx hb hr0 hlk hC hI dX3_passDays_42 rfl (by rw [show k = dn from (by omega)] at e_Vx; unfold q_pass; (try simp only [hcldn]); (try rw [← e_Vx]); (first | rw [if_pos c1] | rw [if_neg c1] | skip); (first | rw [if_pos c2] | rw [if_neg c2] | skip); (first | rw [if_pos c3] | rw [if_neg c3] | skip); try with_reducible rfl) rfl (by rw [show k = dn from (by omega)] at e_Vx; unfold q_pass; (try simp only [hcldn]); (try rw [← e_Vx]); (first | rw [if_pos c1] | rw [if_neg c1] | skip); (first | rw [if_pos c2] | rw [if_neg c2] | skip); (first | rw [if_pos c3] | rw [if_neg c3] | skip); try with_reducible rfl)
          · have c3n : ¬ dn ≤ k := fun z => c3 ((nI_leI (a := dn) (b := k) (by omega) (by omega)).mpr z)
            refine lv_aload_n hx hb dX3_passDays_26 rfl (lv_at hl 2 rfl) ?_
            refine g_callVv (rest := []) (c_X3_passDay l D tb ad hj P M r hr Vx) rfl rfl gm_X3_passDay hx hb hml hown hts hC hI (ok_c 0 hr (by decide)) (e_st hr g_us) rfl rfl qm_X3_162 rfl hl.1 rfl ⟨rfl, rfl, by decide, by decide⟩ (Nat.le_of_ble_eq_true rfl) ⟨Nat.zero_le _, Nat.zero_le _⟩ dX3_passDays_27 (fun H locs hI => ?_)
            refine lv_iinc (v := nI (k + 1)) (lv' := [(3, .int (nI (k + 1))), (2, .int (V 0 8)), (0, .ref (ad r 0)), (1, .int (nI dn))]) hx hb dX3_passDays_30 hl (k := 0) rfl (nI_1 _) (by decide) rfl (fun ls hl => ?_)
            refine lv_goto (tgt := 21) hx hb dX3_passDays_33 (by decide) ?_
            exact ih21 (k + 1) _ (by omega) (by omega) (by simp only [q_passN, k_iter]; rw [e_Vx]; rfl)  _ _ _ hI (lv_sub hl [0, 1, 2, 3] rfl)
      exact lp21 (dn + 1) 0 _ (by omega) (by omega) rfl  _ _ _ hI (lv_sub hl [0, 1, 2, 3] rfl)
    · refine lv_ldc (v := (-2000000001)) hx hb hown (hts _ qc_X3_74) dX3_passDays_11 ?_
      exact g_ir hQ hx hb hr0 hlk hC hI dX3_passDays_13 rfl (by unfold q_pass; (try simp only [hcldn]); skip; (first | rw [if_pos c1] | rw [if_neg c1] | skip); (first | rw [if_pos c2] | rw [if_neg c2] | skip); try with_reducible rfl) rfl (by unfold q_pass; (try simp only [hcldn]); skip; (first | rw [if_pos c1] | rw [if_neg c1] | skip); (first | rw [if_pos c2] | rw [if_neg c2] | skip); try with_reducible rfl)
def q_call (V : g_V) (le : Int32) : Int32 × g_V :=
  if k_in le 3 then (((k_iter (q_callStep le) (V, 0) 16).2), ((k_iter (q_callStep le) (V, 0) 16).1)) else ((-2000000001), V)
abbrev rm_X3_callLoans : Room := { frames := 2, cells := 0, slots := 0, locals := 44 }
set_option maxHeartbeats 800000 in
set_option maxRecDepth 100000 in
theorem c_X3_callLoans (l : Launch) (D : va_G) (tb : g_T) (ad : g_Ad) (hj : g_inj ad) (P : g_P) (M : g_M) (r : Nat) (hr : r < 6) (V : g_V) (le : Int32) : g_Ci l yX3_callLoans cX3_callLoans 7 (some .int) rm_X3_callLoans D tb ad [.ref (ad r 0), .int le] P (va_up M r V) ((q_call V le).1) P (va_up M r ((q_call V le).2)) := by
  refine g_go (by decide) (Nat.le_of_ble_eq_true rfl) hj ?_
  intro p e s m below meth c ls H locs R args Q hR0 hQ hx hb hml hr0 hlk hown hts hC hI hl
  subst hR0
  have hown : s.vm.findClass RX3 = some m.cls := hown
  have hl : lv_has ls 7 [(0, .ref (ad r 0)), (1, .int le)] := hl
  refine lv_iload_n hx hb dX3_callLoans_0 rfl (lv_at hl 1 rfl) ?_
  refine g_callNi (rest := []) (c_X4_isLender l D tb ad hj P (va_up M r V) le) rfl rfl gm_X4_isLender hx hb hml hown hts hC hI qN_X3_129 rfl hl.1 rfl ⟨rfl, rfl, by decide, by decide⟩ (Nat.le_of_ble_eq_true rfl) ⟨Nat.zero_le _, Nat.zero_le _⟩ dX3_callLoans_1 (fun H locs hI => ?_)
  refine g_tf (fun c1 => ?_) (fun c1 => ?_)
  · refine lv_if_ne (tgt := 10) hx hb dX3_callLoans_4 (by decide) (fun _ => ?_) (fun c2 => absurd c2 (by decide))
    refine lv_iconst (v := 0) hx hb dX3_callLoans_10 (by decide) ?_
    refine lv_istore_n (lv' := [(2, .int 0), (0, .ref (ad r 0)), (1, .int le)]) hx hb dX3_callLoans_11 rfl hl (by decide) rfl (fun ls hl => ?_)
    refine lv_aload_n hx hb dX3_callLoans_12 rfl (lv_at hl 1 rfl) ?_
    refine g_get 1 hx hb hts hown hC hI i_X3 (ok_c 0 hr (by decide)) (e_st hr g_us) rfl (by decide) qf_X3_19 rfl rfl dX3_callLoans_13 ?_
    refine lv_astore_n (lv' := [(3, .ref (ad r 2)), (2, .int 0), (0, .ref (ad r 0)), (1, .int le)]) hx hb dX3_callLoans_16 rfl hl (by decide) rfl (fun ls hl => ?_)
    refine lv_aload_n hx hb dX3_callLoans_17 rfl (lv_at hl 0 rfl) ?_
    refine g_alen 3 (v := 16) hx hb hC hI (ok_c 2 hr (by decide)) (e_recs hr) rfl rfl dX3_callLoans_18 ?_
    refine lv_istore (lv' := [(4, .int 16), (3, .ref (ad r 2)), (2, .int 0), (0, .ref (ad r 0)), (1, .int le)]) hx hb dX3_callLoans_19 hl (by decide) rfl (fun ls hl => ?_)
    refine lv_iconst (v := 0) hx hb dX3_callLoans_21 (by decide) ?_
    refine lv_istore (lv' := [(5, .int 0), (4, .int 16), (3, .ref (ad r 2)), (2, .int 0), (0, .ref (ad r 0)), (1, .int le)]) hx hb dX3_callLoans_22 hl (by decide) rfl (fun ls hl => ?_)
    have lp24 : ∀ (d k : Nat) (Vx : g_V) (x : Int32), k ≤ 16 → 16 < k + d → Vx = (k_iter (q_callStep le) (V, 0) k).1 → x = (k_iter (q_callStep le) (V, 0) k).2 → ∀ (H : Heap) (locs : List Loc) (ls : Array Slot), g_I D tb ad (g_A ad) s H locs P (va_up M r Vx) → lv_has ls 7 [(5, .int (nI k)), (4, .int 16), (3, .ref (ad r 2)), (2, .int x), (0, .ref (ad r 0)), (1, .int le)] → W p l e rm_X3_callLoans s m args below meth c H locs 0 0 Q (F0 m 24 ls []) := by
      intro d
      induction d with
      | zero => intro k Vx x hkp hfu; intros; omega
      | succ d ih24 =>
        intro k Vx x hkp hfu e_Vx e_x H locs ls hI hl
        refine lv_iload hx hb dX3_callLoans_24 (lv_at hl 0 rfl) ?_
        refine lv_iload hx hb dX3_callLoans_26 (lv_at hl 1 rfl) ?_
        refine lv_icmp_ge (tgt := 73) hx hb dX3_callLoans_28 (by decide) (fun c3 => ?_) (fun c3 => ?_)
        · have c3n : 16 ≤ k := (nI_leI (a := 16) (b := k) (by omega) (by omega)).mp c3
          refine lv_iload_n hx hb dX3_callLoans_73 rfl (lv_at hl 3 rfl) ?_
          exact g_ir hQ hx hb hr0 hlk hC hI dX3_callLoans_74 rfl (by rw [show k = 16 from (by omega)] at e_Vx e_x; unfold q_call; (try rw [← e_Vx]); (try rw [← e_x]); (first | rw [if_pos c1] | rw [if_neg c1] | skip); (first | rw [if_pos c3] | rw [if_neg c3] | skip); try with_reducible rfl) rfl (by rw [show k = 16 from (by omega)] at e_Vx e_x; unfold q_call; (try rw [← e_Vx]); (try rw [← e_x]); (first | rw [if_pos c1] | rw [if_neg c1] | skip); (first | rw [if_pos c3] | rw [if_neg c3] | skip); try with_reducible rfl)
        · have c3n : ¬ 16 ≤ k := fun z => c3 ((nI_leI (a := 16) (b := k) (by omega) (by omega)).mpr z)
          refine lv_aload_n hx hb dX3_callLoans_31 rfl (lv_at hl 2 rfl) ?_
          refine lv_iload hx hb dX3_callLoans_32 (lv_at hl 0 rfl) ?_
          refine g_aald 3 k hx hb hC hI (ok_c 2 hr (by decide)) (e_recs hr) rfl (vp_in_nI (by omega) (by decide)) (nI_clamp (by omega)) dX3_callLoans_34 ?_
          have hk4 : k < 16 := (by omega)
          refine lv_astore (lv' := [(6, .ref (ad r (12 + k))), (5, .int (nI k)), (4, .int 16), (3, .ref (ad r 2)), (2, .int x), (0, .ref (ad r 0)), (1, .int le)]) hx hb dX3_callLoans_35 hl (by decide) rfl (fun ls hl => ?_)
          refine lv_aload_n hx hb dX3_callLoans_37 rfl (lv_at hl 5 rfl) ?_
          refine lv_aload hx hb dX3_callLoans_38 (lv_at hl 0 rfl) ?_
          refine lv_iload_n hx hb dX3_callLoans_40 rfl (lv_at hl 6 rfl) ?_
          refine lv_aload_n hx hb dX3_callLoans_41 rfl (lv_at hl 5 rfl) ?_
          refine g_get 2 hx hb hts hown hC hI i_X3 (ok_c 0 hr (by decide)) (e_st hr g_us) rfl (by decide) qf_X3_23 rfl rfl dX3_callLoans_42 ?_
          refine lv_iconst (v := 2) hx hb dX3_callLoans_45 (by decide) ?_
          refine g_iald 2 hx hb hC hI (ok_c 3 hr (by decide)) (e_pr hr g_us) (by unfold vp_in; decide) rfl dX3_callLoans_46 ?_
          refine g_callVi (rest := []) (c_X3_wouldBeCalled l D tb ad hj P M r hr Vx k hk4 le (Vx 3 2)) rfl rfl gm_X3_wouldBeCalled hx hb hml hown hts hC hI (ok_c 0 hr (by decide)) (e_st hr g_us) rfl rfl qm_X3_158 rfl hl.1 rfl ⟨rfl, rfl, by decide, by decide⟩ (Nat.le_of_ble_eq_true rfl) ⟨Nat.zero_le _, Nat.zero_le _⟩ dX3_callLoans_47 (fun H locs hI => ?_)
          refine g_tf (fun c5 => ?_) (fun c5 => ?_)
          · refine lv_if_eq (tgt := 67) hx hb dX3_callLoans_50 (by decide) (fun c6 => absurd c6 (by decide)) (fun _ => ?_)
            refine lv_aload hx hb dX3_callLoans_53 (lv_at hl 0 rfl) ?_
            refine lv_aload_n hx hb dX3_callLoans_55 rfl (lv_at hl 5 rfl) ?_
            refine g_get 3 hx hb hts hown hC hI i_X3 (ok_c 0 hr (by decide)) (e_st hr g_us) rfl (by decide) qf_X3_27 rfl rfl dX3_callLoans_56 ?_
            refine lv_iconst (v := 2) hx hb dX3_callLoans_59 (by decide) ?_
            refine g_iald 2 hx hb hC hI (ok_c 4 hr (by decide)) (e_se hr g_us) (by unfold vp_in; decide) rfl dX3_callLoans_60 ?_
            refine g_put 6 (ty := .int) hx hb hts hown hC hI i_X1 tyX1_ok nmX1 (ok_rec hr hk4) (e_rec hr hk4 g_us) rfl (by decide) qf_X3_155 rfl rfl rfl rfl rfl (Nat.le_of_ble_eq_true rfl) (p_rec hr hk4 (by decide)) g_hs dX3_callLoans_61 (fun H locs hI => ?_)
            refine lv_iinc (v := (x + 1)) (lv' := [(2, .int (x + 1)), (6, .ref (ad r (12 + k))), (5, .int (nI k)), (4, .int 16), (3, .ref (ad r 2)), (0, .ref (ad r 0)), (1, .int le)]) hx hb dX3_callLoans_64 hl (k := 4) rfl rfl (by decide) rfl (fun ls hl => ?_)
            refine lv_iinc (v := nI (k + 1)) (lv' := [(5, .int (nI (k + 1))), (2, .int (x + 1)), (6, .ref (ad r (12 + k))), (4, .int 16), (3, .ref (ad r 2)), (0, .ref (ad r 0)), (1, .int le)]) hx hb dX3_callLoans_67 hl (k := 2) rfl (nI_1 _) (by decide) rfl (fun ls hl => ?_)
            refine lv_goto (tgt := 24) hx hb dX3_callLoans_70 (by decide) ?_
            exact ih24 (k + 1) _ _ (by omega) (by omega) (by rw [k_iter, q_callStep, ← e_Vx, ← e_x]; (first | rw [if_pos c1] | rw [if_neg c1] | skip); (first | rw [if_pos c3] | rw [if_neg c3] | skip); (first | rw [if_pos c5] | rw [if_neg c5] | skip); try (first | with_reducible rfl | exact e_Vx | exact e_x)) (by rw [k_iter, q_callStep, ← e_Vx, ← e_x]; (first | rw [if_pos c1] | rw [if_neg c1] | skip); (first | rw [if_pos c3] | rw [if_neg c3] | skip); (first | rw [if_pos c5] | rw [if_neg c5] | skip); try (first | with_reducible rfl | exact e_Vx | exact e_x))  _ _ _ hI (lv_sub hl [0, 3, 4, 1, 5, 6] rfl)
          · refine lv_if_eq (tgt := 67) hx hb dX3_callLoans_50 (by decide) (fun _ => ?_) (fun c7 => absurd c7 (by decide))
            refine lv_iinc (v := nI (k + 1)) (lv' := [(5, .int (nI (k + 1))), (6, .ref (ad r (12 + k))), (4, .int 16), (3, .ref (ad r 2)), (2, .int x), (0, .ref (ad r 0)), (1, .int le)]) hx hb dX3_callLoans_67 hl (k := 1) rfl (nI_1 _) (by decide) rfl (fun ls hl => ?_)
            refine lv_goto (tgt := 24) hx hb dX3_callLoans_70 (by decide) ?_
            exact ih24 (k + 1) _ _ (by omega) (by omega) (by rw [k_iter, q_callStep, ← e_Vx, ← e_x]; (first | rw [if_pos c1] | rw [if_neg c1] | skip); (first | rw [if_pos c3] | rw [if_neg c3] | skip); (first | rw [if_pos c5] | rw [if_neg c5] | skip); try (first | with_reducible rfl | exact e_Vx | exact e_x)) (by rw [k_iter, q_callStep, ← e_Vx, ← e_x]; (first | rw [if_pos c1] | rw [if_neg c1] | skip); (first | rw [if_pos c3] | rw [if_neg c3] | skip); (first | rw [if_pos c5] | rw [if_neg c5] | skip); try (first | with_reducible rfl | exact e_Vx | exact e_x))  _ _ _ hI (lv_sub hl [0, 2, 3, 4, 5, 6] rfl)
    exact lp24 (16 + 1) 0 _ _ (by omega) (by omega) rfl rfl  _ _ _ hI (lv_sub hl [0, 1, 2, 3, 4, 5] rfl)
  · refine lv_if_ne (tgt := 10) hx hb dX3_callLoans_4 (by decide) (fun c8 => absurd c8 (by decide)) (fun _ => ?_)
    refine lv_ldc (v := (-2000000001)) hx hb hown (hts _ qc_X3_74) dX3_callLoans_7 ?_
    exact g_ir hQ hx hb hr0 hlk hC hI dX3_callLoans_9 rfl (by unfold q_call; skip; (first | rw [if_pos c1] | rw [if_neg c1] | skip); try with_reducible rfl) rfl (by unfold q_call; skip; (first | rw [if_pos c1] | rw [if_neg c1] | skip); try with_reducible rfl)
def q_lose (V : g_V) (bn : Int32) (a : Int32) : Int32 × g_V :=
  if k_in bn 5 then (if 1 ≤ a then (if a ≤ (q_loss V (bn.toNatClampNeg) ((V (7 + (bn.toNatClampNeg)) 0).toNatClampNeg) 3) then ((g_w2 (g_w2 V (7 + (bn.toNatClampNeg)) 1 ((V (7 + (bn.toNatClampNeg)) 1) - a)) 0 10 (((g_w2 V (7 + (bn.toNatClampNeg)) 1 ((V (7 + (bn.toNatClampNeg)) 1) - a)) 0 10) + a)) (7 + (bn.toNatClampNeg)) 1, (g_w2 (g_w2 V (7 + (bn.toNatClampNeg)) 1 ((V (7 + (bn.toNatClampNeg)) 1) - a)) 0 10 (((g_w2 V (7 + (bn.toNatClampNeg)) 1 ((V (7 + (bn.toNatClampNeg)) 1) - a)) 0 10) + a))) else ((-2000000002), V)) else ((-2000000001), V)) else ((-2000000001), V)
abbrev rm_X3_loseGrain : Room := { frames := 4, cells := 0, slots := 0, locals := 91 }
set_option maxHeartbeats 800000 in
set_option maxRecDepth 100000 in
theorem c_X3_loseGrain (l : Launch) (D : va_G) (tb : g_T) (ad : g_Ad) (hj : g_inj ad) (P : g_P) (M : g_M) (r : Nat) (hr : r < 6) (V : g_V) (bn : Int32) (a : Int32) (hG : q_okG V) : g_Ci l yX3_loseGrain cX3_loseGrain 4 (some .int) rm_X3_loseGrain D tb ad [.ref (ad r 0), .int bn, .int a] P (va_up M r V) ((q_lose V bn a).1) P (va_up M r ((q_lose V bn a).2)) := by
  refine g_go (by decide) (Nat.le_of_ble_eq_true rfl) hj ?_
  intro p e s m below meth c ls H locs R args Q hR0 hQ hx hb hml hr0 hlk hown hts hC hI hl
  subst hR0
  have hown : s.vm.findClass RX3 = some m.cls := hown
  have hl : lv_has ls 4 [(0, .ref (ad r 0)), (1, .int bn), (2, .int a)] := hl
  refine lv_iload_n hx hb dX3_loseGrain_0 rfl (lv_at hl 1 rfl) ?_
  refine g_callNi (rest := []) (c_X4_isBin l D tb ad hj P (va_up M r V) bn) rfl rfl gm_X4_isBin hx hb hml hown hts hC hI qN_X3_165 rfl hl.1 rfl ⟨rfl, rfl, by decide, by decide⟩ (Nat.le_of_ble_eq_true rfl) ⟨Nat.zero_le _, Nat.zero_le _⟩ dX3_loseGrain_1 (fun H locs hI => ?_)
  refine g_tf (fun c1 => ?_) (fun c1 => ?_)
  · obtain ⟨b0, hb0, rfl⟩ := k_nI (N := 5) c1 rfl
    have hclb0 : (nI b0).toNatClampNeg = b0 := nI_clamp (by omega)
    refine lv_if_eq (tgt := 12) hx hb dX3_loseGrain_4 (by decide) (fun c2 => absurd c2 (by decide)) (fun _ => ?_)
    refine lv_iload_n hx hb dX3_loseGrain_7 rfl (lv_at hl 2 rfl) ?_
    refine lv_iconst (v := 1) hx hb dX3_loseGrain_8 (by decide) ?_
    refine lv_icmp_ge (tgt := 15) hx hb dX3_loseGrain_9 (by decide) (fun c3 => ?_) (fun c3 => ?_)
    · refine lv_aload_n hx hb dX3_loseGrain_15 rfl (lv_at hl 0 rfl) ?_
      refine g_get 0 hx hb hts hown hC hI i_X3 (ok_c 0 hr (by decide)) (e_st hr g_us) rfl (by decide) qf_X3_11 rfl rfl dX3_loseGrain_16 ?_
      refine lv_iload_n hx hb dX3_loseGrain_19 rfl (lv_at hl 1 rfl) ?_
      refine g_aald 2 b0 hx hb hC hI (ok_c 1 hr (by decide)) (e_bins hr) rfl (vp_in_nI (by omega) (by decide)) (nI_clamp (by omega)) dX3_loseGrain_20 ?_
      have hk4 : b0 < 5 := (by omega)
      refine lv_astore_n (lv' := [(3, .ref (ad r (7 + b0))), (0, .ref (ad r 0)), (1, .int (nI b0)), (2, .int a)]) hx hb dX3_loseGrain_21 rfl hl (by decide) rfl (fun ls hl => ?_)
      refine lv_iload_n hx hb dX3_loseGrain_22 rfl (lv_at hl 3 rfl) ?_
      obtain ⟨g0, hg0, hg⟩ := hG b0 hb0
      have hclg : (V (7 + b0) 0).toNatClampNeg = g0 := by rw [hg]; exact nI_clamp (by omega)
      refine lv_aload_n hx hb dX3_loseGrain_23 rfl (lv_at hl 1 rfl) ?_
      refine lv_aload_n hx hb dX3_loseGrain_24 rfl (lv_at hl 0 rfl) ?_
      refine g_callVi (rest := [.int a]) (c_X3_greatestLoss l D tb ad hj P M r hr V b0 hk4 g0 hg0 hg) rfl rfl gm_X3_greatestLoss hx hb hml hown hts hC hI (ok_c 0 hr (by decide)) (e_st hr g_us) rfl rfl qm_X3_168 rfl hl.1 rfl ⟨rfl, rfl, by decide, by decide⟩ (Nat.le_of_ble_eq_true rfl) ⟨Nat.zero_le _, Nat.zero_le _⟩ dX3_loseGrain_25 (fun H locs hI => ?_)
      refine lv_icmp_le (tgt := 34) hx hb dX3_loseGrain_28 (by decide) (fun c5 => ?_) (fun c5 => ?_)
      · refine lv_aload_n hx hb dX3_loseGrain_34 rfl (lv_at hl 0 rfl) ?_
        refine lv_dup hx hb dX3_loseGrain_35 rfl ?_
        refine g_get 1 hx hb hts hown hC hI i_X0 (ok_bin hr hk4) (e_bin hr hk4 g_us) rfl (by decide) qf_X3_172 rfl rfl dX3_loseGrain_36 ?_
        refine lv_iload_n hx hb dX3_loseGrain_39 rfl (lv_at hl 3 rfl) ?_
        refine lv_isub hx hb dX3_loseGrain_40 ?_
        refine g_put 1 (ty := .int) hx hb hts hown hC hI i_X0 tyX0_ok nmX0 (ok_bin hr hk4) (e_bin hr hk4 g_us) rfl (by decide) qf_X3_172 rfl rfl rfl rfl rfl (Nat.le_of_ble_eq_true rfl) (p_bin hr hk4 (by decide)) g_hs dX3_loseGrain_41 (fun H locs hI => ?_)
        refine lv_aload_n hx hb dX3_loseGrain_44 rfl (lv_at hl 1 rfl) ?_
        refine lv_dup hx hb dX3_loseGrain_45 rfl ?_
        refine g_get 10 hx hb hts hown hC hI i_X3 (ok_c 0 hr (by decide)) (e_st hr g_us) rfl (by decide) qf_X3_67 rfl rfl dX3_loseGrain_46 ?_
        refine lv_iload_n hx hb dX3_loseGrain_49 rfl (lv_at hl 3 rfl) ?_
        refine lv_iadd hx hb dX3_loseGrain_50 ?_
        refine g_put 10 (ty := .int) hx hb hts hown hC hI i_X3 tyX3_ok nmX3 (ok_c 0 hr (by decide)) (e_st hr g_us) rfl (by decide) qf_X3_67 rfl rfl rfl rfl rfl (Nat.le_of_ble_eq_true rfl) (p_st hr (by decide)) g_hs dX3_loseGrain_51 (fun H locs hI => ?_)
        refine lv_aload_n hx hb dX3_loseGrain_54 rfl (lv_at hl 0 rfl) ?_
        refine g_get 1 hx hb hts hown hC hI i_X0 (ok_bin hr hk4) (e_bin hr hk4 g_us) rfl (by decide) qf_X3_172 rfl rfl dX3_loseGrain_55 ?_
        exact g_ir hQ hx hb hr0 hlk hC hI dX3_loseGrain_58 rfl (by unfold q_lose; (try simp only [hclb0, hclg]); (try simp only [hclb0]); (first | rw [if_pos c1] | rw [if_neg c1] | skip); (first | rw [if_pos c3] | rw [if_neg c3] | skip); (first | rw [if_pos c5] | rw [if_neg c5] | skip); try with_reducible rfl) rfl (by unfold q_lose; (try simp only [hclb0, hclg]); (try simp only [hclb0]); (first | rw [if_pos c1] | rw [if_neg c1] | skip); (first | rw [if_pos c3] | rw [if_neg c3] | skip); (first | rw [if_pos c5] | rw [if_neg c5] | skip); try with_reducible rfl)
      · refine lv_ldc (v := (-2000000002)) hx hb hown (hts _ qc_X3_106) dX3_loseGrain_31 ?_
        exact g_ir hQ hx hb hr0 hlk hC hI dX3_loseGrain_33 rfl (by unfold q_lose; (try simp only [hclb0, hclg]); (try simp only [hclb0]); (first | rw [if_pos c1] | rw [if_neg c1] | skip); (first | rw [if_pos c3] | rw [if_neg c3] | skip); (first | rw [if_pos c5] | rw [if_neg c5] | skip); try with_reducible rfl) rfl (by unfold q_lose; (try simp only [hclb0, hclg]); (try simp only [hclb0]); (first | rw [if_pos c1] | rw [if_neg c1] | skip); (first | rw [if_pos c3] | rw [if_neg c3] | skip); (first | rw [if_pos c5] | rw [if_neg c5] | skip); try with_reducible rfl)
    · refine lv_ldc (v := (-2000000001)) hx hb hown (hts _ qc_X3_74) dX3_loseGrain_12 ?_
      exact g_ir hQ hx hb hr0 hlk hC hI dX3_loseGrain_14 rfl (by unfold q_lose; (try simp only [hclb0, hclg]); (try simp only [hclb0]); (first | rw [if_pos c1] | rw [if_neg c1] | skip); (first | rw [if_pos c3] | rw [if_neg c3] | skip); try with_reducible rfl) rfl (by unfold q_lose; (try simp only [hclb0, hclg]); (try simp only [hclb0]); (first | rw [if_pos c1] | rw [if_neg c1] | skip); (first | rw [if_pos c3] | rw [if_neg c3] | skip); try with_reducible rfl)
  · refine lv_if_eq (tgt := 12) hx hb dX3_loseGrain_4 (by decide) (fun _ => ?_) (fun c6 => absurd c6 (by decide))
    refine lv_ldc (v := (-2000000001)) hx hb hown (hts _ qc_X3_74) dX3_loseGrain_12 ?_
    exact g_ir hQ hx hb hr0 hlk hC hI dX3_loseGrain_14 rfl (by unfold q_lose; (try simp only [hclb0, hclg]); (try simp only [hclb0]); (first | rw [if_pos c1] | rw [if_neg c1] | skip); try with_reducible rfl) rfl (by unfold q_lose; (try simp only [hclb0, hclg]); (try simp only [hclb0]); (first | rw [if_pos c1] | rw [if_neg c1] | skip); try with_reducible rfl)
abbrev rm_X3_regradeBin : Room := { frames := 3, cells := 0, slots := 0, locals := 68 }
set_option maxHeartbeats 800000 in
set_option maxRecDepth 100000 in
theorem c_X3_regradeBin (l : Launch) (D : va_G) (tb : g_T) (ad : g_Ad) (hj : g_inj ad) (P : g_P) (M : g_M) (r : Nat) (hr : r < 6) (V : g_V) (bn : Int32) (g : Int32) (hG : q_okG V) : g_Ci l yX3_regradeBin cX3_regradeBin 6 (some .int) rm_X3_regradeBin D tb ad [.ref (ad r 0), .int bn, .int g] P (va_up M r V) ((q_regrade V bn g).1) P (va_up M r ((q_regrade V bn g).2)) := by
  refine g_go (by decide) (Nat.le_of_ble_eq_true rfl) hj ?_
  intro p e s m below meth c ls H locs R args Q hR0 hQ hx hb hml hr0 hlk hown hts hC hI hl
  subst hR0
  have hown : s.vm.findClass RX3 = some m.cls := hown
  have hl : lv_has ls 6 [(0, .ref (ad r 0)), (1, .int bn), (2, .int g)] := hl
  refine lv_iload_n hx hb dX3_regradeBin_0 rfl (lv_at hl 1 rfl) ?_
  refine g_callNi (rest := []) (c_X4_isBin l D tb ad hj P (va_up M r V) bn) rfl rfl gm_X4_isBin hx hb hml hown hts hC hI qN_X3_165 rfl hl.1 rfl ⟨rfl, rfl, by decide, by decide⟩ (Nat.le_of_ble_eq_true rfl) ⟨Nat.zero_le _, Nat.zero_le _⟩ dX3_regradeBin_1 (fun H locs hI => ?_)
  refine g_tf (fun c1 => ?_) (fun c1 => ?_)
  · obtain ⟨b0, hb0, rfl⟩ := k_nI (N := 5) c1 rfl
    have hclb0 : (nI b0).toNatClampNeg = b0 := nI_clamp (by omega)
    refine lv_if_eq (tgt := 14) hx hb dX3_regradeBin_4 (by decide) (fun c2 => absurd c2 (by decide)) (fun _ => ?_)
    refine lv_iload_n hx hb dX3_regradeBin_7 rfl (lv_at hl 2 rfl) ?_
    refine g_callNi (rest := []) (c_X4_isGrade l D tb ad hj P (va_up M r V) g) rfl rfl gm_X4_isGrade hx hb hml hown hts hC hI qN_X3_70 rfl hl.1 rfl ⟨rfl, rfl, by decide, by decide⟩ (Nat.le_of_ble_eq_true rfl) ⟨Nat.zero_le _, Nat.zero_le _⟩ dX3_regradeBin_8 (fun H locs hI => ?_)
    refine g_tf (fun c3 => ?_) (fun c3 => ?_)
    · obtain ⟨g1, hg1, rfl⟩ := k_nI (N := 3) c3 rfl
      have hclg1 : (nI g1).toNatClampNeg = g1 := nI_clamp (by omega)
      refine lv_if_ne (tgt := 17) hx hb dX3_regradeBin_11 (by decide) (fun _ => ?_) (fun c4 => absurd c4 (by decide))
      refine lv_aload_n hx hb dX3_regradeBin_17 rfl (lv_at hl 0 rfl) ?_
      refine g_get 0 hx hb hts hown hC hI i_X3 (ok_c 0 hr (by decide)) (e_st hr g_us) rfl (by decide) qf_X3_11 rfl rfl dX3_regradeBin_18 ?_
      refine lv_iload_n hx hb dX3_regradeBin_21 rfl (lv_at hl 1 rfl) ?_
      refine g_aald 2 b0 hx hb hC hI (ok_c 1 hr (by decide)) (e_bins hr) rfl (vp_in_nI (by omega) (by decide)) (nI_clamp (by omega)) dX3_regradeBin_22 ?_
      have hk5 : b0 < 5 := (by omega)
      refine lv_astore_n (lv' := [(3, .ref (ad r (7 + b0))), (0, .ref (ad r 0)), (1, .int (nI b0)), (2, .int (nI g1))]) hx hb dX3_regradeBin_23 rfl hl (by decide) rfl (fun ls hl => ?_)
      obtain ⟨h0, hh0, hg⟩ := hG b0 hb0
      have hclg : (V (7 + b0) 0).toNatClampNeg = h0 := by rw [hg]; exact nI_clamp (by omega)
      refine lv_aload_n hx hb dX3_regradeBin_24 rfl (lv_at hl 0 rfl) ?_
      refine g_get 0 hx hb hts hown hC hI i_X0 (ok_bin hr hk5) (e_bin hr hk5 g_us) rfl (by decide) qf_X3_37 rfl rfl dX3_regradeBin_25 ?_
      refine lv_istore (lv' := [(4, .int (V (7 + b0) 0)), (3, .ref (ad r (7 + b0))), (0, .ref (ad r 0)), (1, .int (nI b0)), (2, .int (nI g1))]) hx hb dX3_regradeBin_28 hl (by decide) rfl (fun ls hl => ?_)
      refine lv_iload_n hx hb dX3_regradeBin_30 rfl (lv_at hl 4 rfl) ?_
      refine lv_iload hx hb dX3_regradeBin_31 (lv_at hl 0 rfl) ?_
      refine lv_icmp_ge (tgt := 46) hx hb dX3_regradeBin_33 (by decide) (fun c6 => ?_) (fun c6 => ?_)
      · refine lv_iload hx hb dX3_regradeBin_46 (lv_at hl 0 rfl) ?_
        refine g_te hg ?_
        refine lv_istore (lv' := [(5, .int (nI h0)), (4, .int (V (7 + b0) 0)), (3, .ref (ad r (7 + b0))), (0, .ref (ad r 0)), (1, .int (nI b0)), (2, .int (nI g1))]) hx hb dX3_regradeBin_48 hl (by decide) rfl (fun ls hl => ?_)
        have lp50 : ∀ (d k : Nat), h0 ≤ k ∧ k ≤ 3 → 3 < k + d → (∀ j, j < k → (fun j => decide (h0 ≤ j ∧ ¬ V (7 + b0) 1 ≤ q_surplus V (nI j))) j = false) → ∀ (H : Heap) (locs : List Loc) (ls : Array Slot), g_I D tb ad (g_A ad) s H locs P (va_up M r V) → lv_has ls 6 [(5, .int (nI k)), (4, .int (V (7 + b0) 0)), (3, .ref (ad r (7 + b0))), (0, .ref (ad r 0)), (1, .int (nI b0)), (2, .int (nI g1))] → W p l e rm_X3_regradeBin s m args below meth c H locs 0 0 Q (F0 m 50 ls []) := by
          intro d
          induction d with
          | zero => intro k hkp hfu; intros; omega
          | succ d ih50 =>
            intro k hkp hfu hno H locs ls hI hl
            refine lv_iload hx hb dX3_regradeBin_50 (lv_at hl 0 rfl) ?_
            refine lv_iload_n hx hb dX3_regradeBin_52 rfl (lv_at hl 5 rfl) ?_
            refine lv_icmp_ge (tgt := 78) hx hb dX3_regradeBin_53 (by decide) (fun c7 => ?_) (fun c7 => ?_)
            · have c7n : g1 ≤ k := (nI_leI (a := g1) (b := k) (by omega) (by omega)).mp c7
              have hrf : q_regFail V b0 h0 g1 = none := k_find_none.mpr (fun j hj => hno j (by omega))
              refine lv_aload_n hx hb dX3_regradeBin_78 rfl (lv_at hl 2 rfl) ?_
              refine lv_iload_n hx hb dX3_regradeBin_79 rfl (lv_at hl 5 rfl) ?_
              refine g_put 0 (ty := .int) hx hb hts hown hC hI i_X0 tyX0_ok nmX0 (ok_bin hr hk5) (e_bin hr hk5 g_us) rfl (by decide) qf_X3_37 rfl rfl rfl rfl rfl (Nat.le_of_ble_eq_true rfl) (p_bin hr hk5 (by decide)) g_hs dX3_regradeBin_80 (fun H locs hI => ?_)
              refine lv_iload hx hb dX3_regradeBin_83 (lv_at hl 1 rfl) ?_
              exact g_ir hQ hx hb hr0 hlk hC hI dX3_regradeBin_85 rfl (by unfold q_regrade; (try simp only [hclb0, hclg1, hclg]); (first | rw [if_pos c1] | rw [if_neg c1] | skip); (first | rw [if_pos c3] | rw [if_neg c3] | skip); (first | rw [if_pos c6] | rw [if_neg c6] | skip); (first | rw [if_pos c7] | rw [if_neg c7] | skip); try first | with_reducible rfl | (unfold q_regrade2; rw [hrf])) rfl (by unfold q_regrade; (try simp only [hclb0, hclg1, hclg]); (first | rw [if_pos c1] | rw [if_neg c1] | skip); (first | rw [if_pos c3] | rw [if_neg c3] | skip); (first | rw [if_pos c6] | rw [if_neg c6] | skip); (first | rw [if_pos c7] | rw [if_neg c7] | skip); try first | with_reducible rfl | (unfold q_regrade2; rw [hrf]))
            · have c7n : ¬ g1 ≤ k := fun z => c7 ((nI_leI (a := g1) (b := k) (by omega) (by omega)).mpr z)
              refine lv_aload_n hx hb dX3_regradeBin_56 rfl (lv_at hl 2 rfl) ?_
              refine g_get 1 hx hb hts hown hC hI i_X0 (ok_bin hr hk5) (e_bin hr hk5 g_us) rfl (by decide) qf_X3_172 rfl rfl dX3_regradeBin_57 ?_
              refine lv_aload_n hx hb dX3_regradeBin_60 rfl (lv_at hl 3 rfl) ?_
              refine lv_iload hx hb dX3_regradeBin_61 (lv_at hl 0 rfl) ?_
              refine g_callVi (rest := [.int (V (7 + b0) 1)]) (c_X3_surplus l D tb ad hj P M r hr V (nI k)) rfl rfl gm_X3_surplus hx hb hml hown hts hC hI (ok_c 0 hr (by decide)) (e_st hr g_us) rfl rfl qm_X3_173 rfl hl.1 rfl ⟨rfl, rfl, by decide, by decide⟩ (Nat.le_of_ble_eq_true rfl) ⟨Nat.zero_le _, Nat.zero_le _⟩ dX3_regradeBin_63 (fun H locs hI => ?_)
              refine lv_icmp_le (tgt := 72) hx hb dX3_regradeBin_66 (by decide) (fun c8 => ?_) (fun c8 => ?_)
              · refine lv_iinc (v := nI (k + 1)) (lv' := [(5, .int (nI (k + 1))), (4, .int (V (7 + b0) 0)), (3, .ref (ad r (7 + b0))), (0, .ref (ad r 0)), (1, .int (nI b0)), (2, .int (nI g1))]) hx hb dX3_regradeBin_72 hl (k := 0) rfl (nI_1 _) (by decide) rfl (fun ls hl => ?_)
                refine lv_goto (tgt := 50) hx hb dX3_regradeBin_75 (by decide) ?_
                exact ih50 (k + 1)  (by omega) (by omega)  (by exact lt_s hno (decide_eq_false (fun z => z.2 c8))) _ _ _ hI (lv_sub hl [0, 1, 2, 3, 4, 5] rfl)
              · have hrf : q_regFail V b0 h0 g1 = some k := k_find_at (by omega) (decide_eq_true ⟨by omega, c8⟩) hno
                refine lv_ldc (v := (-2000000002)) hx hb hown (hts _ qc_X3_106) dX3_regradeBin_69 ?_
                exact g_ir hQ hx hb hr0 hlk hC hI dX3_regradeBin_71 rfl (by unfold q_regrade; (try simp only [hclb0, hclg1, hclg]); (first | rw [if_pos c1] | rw [if_neg c1] | skip); (first | rw [if_pos c3] | rw [if_neg c3] | skip); (first | rw [if_pos c6] | rw [if_neg c6] | skip); (first | rw [if_pos c7] | rw [if_neg c7] | skip); (first | rw [if_pos c8] | rw [if_neg c8] | skip); try first | with_reducible rfl | (unfold q_regrade2; rw [hrf])) rfl (by unfold q_regrade; (try simp only [hclb0, hclg1, hclg]); (first | rw [if_pos c1] | rw [if_neg c1] | skip); (first | rw [if_pos c3] | rw [if_neg c3] | skip); (first | rw [if_pos c6] | rw [if_neg c6] | skip); (first | rw [if_pos c7] | rw [if_neg c7] | skip); (first | rw [if_pos c8] | rw [if_neg c8] | skip); try first | with_reducible rfl | (unfold q_regrade2; rw [hrf]))
        exact lp50 (3 + 1) h0  (by omega) (by omega)  (fun j hj => decide_eq_false (fun z => absurd z.1 (by omega))) _ _ _ hI (lv_sub hl [0, 1, 2, 3, 4, 5] rfl)
      · refine lv_aload_n hx hb dX3_regradeBin_36 rfl (lv_at hl 1 rfl) ?_
        refine g_get 1 hx hb hts hown hC hI i_X0 (ok_bin hr hk5) (e_bin hr hk5 g_us) rfl (by decide) qf_X3_172 rfl rfl dX3_regradeBin_37 ?_
        refine lv_if_le (tgt := 46) hx hb dX3_regradeBin_40 (by decide) (fun c9 => ?_) (fun c9 => ?_)
        · refine lv_iload hx hb dX3_regradeBin_46 (lv_at hl 0 rfl) ?_
          refine g_te hg ?_
          refine lv_istore (lv' := [(5, .int (nI h0)), (4, .int (V (7 + b0) 0)), (3, .ref (ad r (7 + b0))), (0, .ref (ad r 0)), (1, .int (nI b0)), (2, .int (nI g1))]) hx hb dX3_regradeBin_48 hl (by decide) rfl (fun ls hl => ?_)
          have lp50 : ∀ (d k : Nat), h0 ≤ k ∧ k ≤ 3 → 3 < k + d → (∀ j, j < k → (fun j => decide (h0 ≤ j ∧ ¬ V (7 + b0) 1 ≤ q_surplus V (nI j))) j = false) → ∀ (H : Heap) (locs : List Loc) (ls : Array Slot), g_I D tb ad (g_A ad) s H locs P (va_up M r V) → lv_has ls 6 [(5, .int (nI k)), (4, .int (V (7 + b0) 0)), (3, .ref (ad r (7 + b0))), (0, .ref (ad r 0)), (1, .int (nI b0)), (2, .int (nI g1))] → W p l e rm_X3_regradeBin s m args below meth c H locs 0 0 Q (F0 m 50 ls []) := by
            intro d
            induction d with
            | zero => intro k hkp hfu; intros; omega
            | succ d ih50 =>
              intro k hkp hfu hno H locs ls hI hl
              refine lv_iload hx hb dX3_regradeBin_50 (lv_at hl 0 rfl) ?_
              refine lv_iload_n hx hb dX3_regradeBin_52 rfl (lv_at hl 5 rfl) ?_
              refine lv_icmp_ge (tgt := 78) hx hb dX3_regradeBin_53 (by decide) (fun c10 => ?_) (fun c10 => ?_)
              · have c10n : g1 ≤ k := (nI_leI (a := g1) (b := k) (by omega) (by omega)).mp c10
                have hrf : q_regFail V b0 h0 g1 = none := k_find_none.mpr (fun j hj => hno j (by omega))
                refine lv_aload_n hx hb dX3_regradeBin_78 rfl (lv_at hl 2 rfl) ?_
                refine lv_iload_n hx hb dX3_regradeBin_79 rfl (lv_at hl 5 rfl) ?_
                refine g_put 0 (ty := .int) hx hb hts hown hC hI i_X0 tyX0_ok nmX0 (ok_bin hr hk5) (e_bin hr hk5 g_us) rfl (by decide) qf_X3_37 rfl rfl rfl rfl rfl (Nat.le_of_ble_eq_true rfl) (p_bin hr hk5 (by decide)) g_hs dX3_regradeBin_80 (fun H locs hI => ?_)
                refine lv_iload hx hb dX3_regradeBin_83 (lv_at hl 1 rfl) ?_
                exact g_ir hQ hx hb hr0 hlk hC hI dX3_regradeBin_85 rfl (by unfold q_regrade; (try simp only [hclb0, hclg1, hclg]); (first | rw [if_pos c1] | rw [if_neg c1] | skip); (first | rw [if_pos c3] | rw [if_neg c3] | skip); (first | rw [if_pos c6] | rw [if_neg c6] | skip); (first | rw [if_pos c9] | rw [if_neg c9] | skip); (first | rw [if_pos c10] | rw [if_neg c10] | skip); try first | with_reducible rfl | (unfold q_regrade2; rw [hrf])) rfl (by unfold q_regrade; (try simp only [hclb0, hclg1, hclg]); (first | rw [if_pos c1] | rw [if_neg c1] | skip); (first | rw [if_pos c3] | rw [if_neg c3] | skip); (first | rw [if_pos c6] | rw [if_neg c6] | skip); (first | rw [if_pos c9] | rw [if_neg c9] | skip); (first | rw [if_pos c10] | rw [if_neg c10] | skip); try first | with_reducible rfl | (unfold q_regrade2; rw [hrf]))
              · have c10n : ¬ g1 ≤ k := fun z => c10 ((nI_leI (a := g1) (b := k) (by omega) (by omega)).mpr z)
                refine lv_aload_n hx hb dX3_regradeBin_56 rfl (lv_at hl 2 rfl) ?_
                refine g_get 1 hx hb hts hown hC hI i_X0 (ok_bin hr hk5) (e_bin hr hk5 g_us) rfl (by decide) qf_X3_172 rfl rfl dX3_regradeBin_57 ?_
                refine lv_aload_n hx hb dX3_regradeBin_60 rfl (lv_at hl 3 rfl) ?_
                refine lv_iload hx hb dX3_regradeBin_61 (lv_at hl 0 rfl) ?_
                refine g_callVi (rest := [.int (V (7 + b0) 1)]) (c_X3_surplus l D tb ad hj P M r hr V (nI k)) rfl rfl gm_X3_surplus hx hb hml hown hts hC hI (ok_c 0 hr (by decide)) (e_st hr g_us) rfl rfl qm_X3_173 rfl hl.1 rfl ⟨rfl, rfl, by decide, by decide⟩ (Nat.le_of_ble_eq_true rfl) ⟨Nat.zero_le _, Nat.zero_le _⟩ dX3_regradeBin_63 (fun H locs hI => ?_)
                refine lv_icmp_le (tgt := 72) hx hb dX3_regradeBin_66 (by decide) (fun c11 => ?_) (fun c11 => ?_)
                · refine lv_iinc (v := nI (k + 1)) (lv' := [(5, .int (nI (k + 1))), (4, .int (V (7 + b0) 0)), (3, .ref (ad r (7 + b0))), (0, .ref (ad r 0)), (1, .int (nI b0)), (2, .int (nI g1))]) hx hb dX3_regradeBin_72 hl (k := 0) rfl (nI_1 _) (by decide) rfl (fun ls hl => ?_)
                  refine lv_goto (tgt := 50) hx hb dX3_regradeBin_75 (by decide) ?_
                  exact ih50 (k + 1)  (by omega) (by omega)  (by exact lt_s hno (decide_eq_false (fun z => z.2 c11))) _ _ _ hI (lv_sub hl [0, 1, 2, 3, 4, 5] rfl)
                · have hrf : q_regFail V b0 h0 g1 = some k := k_find_at (by omega) (decide_eq_true ⟨by omega, c11⟩) hno
                  refine lv_ldc (v := (-2000000002)) hx hb hown (hts _ qc_X3_106) dX3_regradeBin_69 ?_
                  exact g_ir hQ hx hb hr0 hlk hC hI dX3_regradeBin_71 rfl (by unfold q_regrade; (try simp only [hclb0, hclg1, hclg]); (first | rw [if_pos c1] | rw [if_neg c1] | skip); (first | rw [if_pos c3] | rw [if_neg c3] | skip); (first | rw [if_pos c6] | rw [if_neg c6] | skip); (first | rw [if_pos c9] | rw [if_neg c9] | skip); (first | rw [if_pos c10] | rw [if_neg c10] | skip); (first | rw [if_pos c11] | rw [if_neg c11] | skip); try first | with_reducible rfl | (unfold q_regrade2; rw [hrf])) rfl (by unfold q_regrade; (try simp only [hclb0, hclg1, hclg]); (first | rw [if_pos c1] | rw [if_neg c1] | skip); (first | rw [if_pos c3] | rw [if_neg c3] | skip); (first | rw [if_pos c6] | rw [if_neg c6] | skip); (first | rw [if_pos c9] | rw [if_neg c9] | skip); (first | rw [if_pos c10] | rw [if_neg c10] | skip); (first | rw [if_pos c11] | rw [if_neg c11] | skip); try first | with_reducible rfl | (unfold q_regrade2; rw [hrf]))
          exact lp50 (3 + 1) h0  (by omega) (by omega)  (fun j hj => decide_eq_false (fun z => absurd z.1 (by omega))) _ _ _ hI (lv_sub hl [0, 1, 2, 3, 4, 5] rfl)
        · refine lv_ldc (v := (-2000000002)) hx hb hown (hts _ qc_X3_106) dX3_regradeBin_43 ?_
          exact g_ir hQ hx hb hr0 hlk hC hI dX3_regradeBin_45 rfl (by unfold q_regrade; (try simp only [hclb0, hclg1, hclg]); (first | rw [if_pos c1] | rw [if_neg c1] | skip); (first | rw [if_pos c3] | rw [if_neg c3] | skip); (first | rw [if_pos c6] | rw [if_neg c6] | skip); (first | rw [if_pos c9] | rw [if_neg c9] | skip); try first | with_reducible rfl | (unfold q_regrade2; rw [hrf])) rfl (by unfold q_regrade; (try simp only [hclb0, hclg1, hclg]); (first | rw [if_pos c1] | rw [if_neg c1] | skip); (first | rw [if_pos c3] | rw [if_neg c3] | skip); (first | rw [if_pos c6] | rw [if_neg c6] | skip); (first | rw [if_pos c9] | rw [if_neg c9] | skip); try first | with_reducible rfl | (unfold q_regrade2; rw [hrf]))
    · refine lv_if_ne (tgt := 17) hx hb dX3_regradeBin_11 (by decide) (fun c12 => absurd c12 (by decide)) (fun _ => ?_)
      refine lv_ldc (v := (-2000000001)) hx hb hown (hts _ qc_X3_74) dX3_regradeBin_14 ?_
      exact g_ir hQ hx hb hr0 hlk hC hI dX3_regradeBin_16 rfl (by unfold q_regrade; (try simp only [hclb0, hclg1, hclg]); (first | rw [if_pos c1] | rw [if_neg c1] | skip); (first | rw [if_pos c3] | rw [if_neg c3] | skip); try first | with_reducible rfl | (unfold q_regrade2; rw [hrf])) rfl (by unfold q_regrade; (try simp only [hclb0, hclg1, hclg]); (first | rw [if_pos c1] | rw [if_neg c1] | skip); (first | rw [if_pos c3] | rw [if_neg c3] | skip); try first | with_reducible rfl | (unfold q_regrade2; rw [hrf]))
  · refine lv_if_eq (tgt := 14) hx hb dX3_regradeBin_4 (by decide) (fun _ => ?_) (fun c13 => absurd c13 (by decide))
    refine lv_ldc (v := (-2000000001)) hx hb hown (hts _ qc_X3_74) dX3_regradeBin_14 ?_
    exact g_ir hQ hx hb hr0 hlk hC hI dX3_regradeBin_16 rfl (by unfold q_regrade; (try simp only [hclb0, hclg1, hclg]); (first | rw [if_pos c1] | rw [if_neg c1] | skip); try first | with_reducible rfl | (unfold q_regrade2; rw [hrf])) rfl (by unfold q_regrade; (try simp only [hclb0, hclg1, hclg]); (first | rw [if_pos c1] | rw [if_neg c1] | skip); try first | with_reducible rfl | (unfold q_regrade2; rw [hrf]))
abbrev rm_X3_deliverGrain : Room := { frames := 2, cells := 0, slots := 0, locals := 49 }
set_option maxHeartbeats 800000 in
set_option maxRecDepth 100000 in
theorem c_X3_deliverGrain (l : Launch) (D : va_G) (tb : g_T) (ad : g_Ad) (hj : g_inj ad) (P : g_P) (M : g_M) (r : Nat) (hr : r < 6) (V : g_V) (n : Int32) (hRg : q_okR V) : g_Ci l yX3_deliverGrain cX3_deliverGrain 6 (some .int) rm_X3_deliverGrain D tb ad [.ref (ad r 0), .int n] P (va_up M r V) ((q_deliver V n).1) P (va_up M r ((q_deliver V n).2)) := by
  refine g_go (by decide) (Nat.le_of_ble_eq_true rfl) hj ?_
  intro p e s m below meth c ls H locs R args Q hR0 hQ hx hb hml hr0 hlk hown hts hC hI hl
  subst hR0
  have hown : s.vm.findClass RX3 = some m.cls := hown
  have hl : lv_has ls 6 [(0, .ref (ad r 0)), (1, .int n)] := hl
  refine lv_aload_n hx hb dX3_deliverGrain_0 rfl (lv_at hl 0 rfl) ?_
  refine lv_iload_n hx hb dX3_deliverGrain_1 rfl (lv_at hl 1 rfl) ?_
  refine g_callVq (rest := []) (c_X3_find l D tb ad hj P M r hr V n) rfl rfl gm_X3_find hx hb hml hown hts hC hI (ok_c 0 hr (by decide)) (e_st hr g_us) rfl rfl qm_X3_99 rfl hl.1 rfl ⟨rfl, rfl, by decide, by decide⟩ (Nat.le_of_ble_eq_true rfl) ⟨Nat.zero_le _, Nat.zero_le _⟩ dX3_deliverGrain_2 (fun H locs hI => ?_)
  refine g_nf (fun q1 => ?_) (fun i2 q1 => ?_)
  · refine lv_astore_nN (lv' := [(2, .null), (0, .ref (ad r 0)), (1, .int n)]) hx hb dX3_deliverGrain_5 rfl hl (by decide) rfl (fun ls hl => ?_)
    refine lv_aload_nN hx hb dX3_deliverGrain_6 rfl (lv_at hl 0 rfl) ?_
    refine lv_ifnonnullN hx hb dX3_deliverGrain_7 ?_
    refine lv_ldc (v := (-2000000001)) hx hb hown (hts _ qc_X3_74) dX3_deliverGrain_10 ?_
    exact g_ir hQ hx hb hr0 hlk hC hI dX3_deliverGrain_12 rfl (by unfold q_deliver; (try simp only [q1]); try with_reducible rfl) rfl (by unfold q_deliver; (try simp only [q1]); try first | with_reducible rfl | (unfold q_deliver1; rw [hclg, hv]))
  · have hi3 : i2 < 16 := k_find_lt q1
    obtain ⟨g0, hg0, hgr⟩ := hRg i2 hi3
    have hclg : (V (12 + i2) 2).toNatClampNeg = g0 := by rw [hgr]; exact nI_clamp (by omega)
    refine lv_astore_n (lv' := [(2, .ref (ad r (12 + i2))), (0, .ref (ad r 0)), (1, .int n)]) hx hb dX3_deliverGrain_5 rfl hl (by decide) rfl (fun ls hl => ?_)
    refine lv_aload_n hx hb dX3_deliverGrain_6 rfl (lv_at hl 0 rfl) ?_
    refine lv_ifnonnull (tgt := 13) hx hb dX3_deliverGrain_7 (by decide) ?_
    refine lv_aload_n hx hb dX3_deliverGrain_13 rfl (lv_at hl 0 rfl) ?_
    refine g_callVi (rest := []) (c_X1_isPledged l D tb ad hj P M r hr V i2 hi3) rfl rfl gm_X1_isPledged hx hb hml hown hts hC hI (ok_rec hr hi3) (e_rec hr hi3 g_us) rfl rfl qm_X3_115 rfl hl.1 rfl ⟨rfl, rfl, by decide, by decide⟩ (Nat.le_of_ble_eq_true rfl) ⟨Nat.zero_le _, Nat.zero_le _⟩ dX3_deliverGrain_14 (fun H locs hI => ?_)
    refine g_tf (fun c4 => ?_) (fun c4 => ?_)
    · refine lv_if_eq (tgt := 23) hx hb dX3_deliverGrain_17 (by decide) (fun c5 => absurd c5 (by decide)) (fun _ => ?_)
      refine lv_ldc (v := (-2000000002)) hx hb hown (hts _ qc_X3_106) dX3_deliverGrain_20 ?_
      exact g_ir hQ hx hb hr0 hlk hC hI dX3_deliverGrain_22 rfl (by unfold q_deliver; (try simp only [q1]); (first | rw [if_pos c4] | rw [if_neg c4] | skip); try with_reducible rfl) rfl (by unfold q_deliver; (try simp only [q1]); (first | rw [if_pos c4] | rw [if_neg c4] | skip); try first | with_reducible rfl | (unfold q_deliver1; rw [hclg, hv]))
    · refine lv_if_eq (tgt := 23) hx hb dX3_deliverGrain_17 (by decide) (fun _ => ?_) (fun c6 => absurd c6 (by decide))
      refine lv_aload_n hx hb dX3_deliverGrain_23 rfl (lv_at hl 1 rfl) ?_
      refine lv_aload_n hx hb dX3_deliverGrain_24 rfl (lv_at hl 0 rfl) ?_
      refine g_get 2 hx hb hts hown hC hI i_X1 (ok_rec hr hi3) (e_rec hr hi3 g_us) rfl (by decide) qf_X3_110 rfl rfl dX3_deliverGrain_25 ?_
      refine lv_aload_n hx hb dX3_deliverGrain_28 rfl (lv_at hl 0 rfl) ?_
      refine g_get 3 hx hb hts hown hC hI i_X1 (ok_rec hr hi3) (e_rec hr hi3 g_us) rfl (by decide) qf_X3_103 rfl rfl dX3_deliverGrain_29 ?_
      refine g_callVi (rest := []) (c_X3_takeOut l D tb ad hj P M r hr V (V (12 + i2) 2) (V (12 + i2) 3)) rfl rfl gm_X3_takeOut hx hb hml hown hts hC hI (ok_c 0 hr (by decide)) (e_st hr g_us) rfl rfl qm_X3_125 rfl hl.1 rfl ⟨rfl, rfl, by decide, by decide⟩ (Nat.le_of_ble_eq_true rfl) ⟨Nat.zero_le _, Nat.zero_le _⟩ dX3_deliverGrain_32 (fun H locs hI => ?_)
      refine lv_istore_n (lv' := [(3, .int ((q_take V (V (12 + i2) 2) (V (12 + i2) 3)).2)), (2, .ref (ad r (12 + i2))), (0, .ref (ad r 0)), (1, .int n)]) hx hb dX3_deliverGrain_35 rfl hl (by decide) rfl (fun ls hl => ?_)
      refine lv_iload_n hx hb dX3_deliverGrain_36 rfl (lv_at hl 0 rfl) ?_
      refine lv_istore (lv' := [(4, .int ((q_take V (V (12 + i2) 2) (V (12 + i2) 3)).2)), (3, .int ((q_take V (V (12 + i2) 2) (V (12 + i2) 3)).2)), (2, .ref (ad r (12 + i2))), (0, .ref (ad r 0)), (1, .int n)]) hx hb dX3_deliverGrain_37 hl (by decide) rfl (fun ls hl => ?_)
      refine lv_aload_n hx hb dX3_deliverGrain_39 rfl (lv_at hl 2 rfl) ?_
      refine g_get 2 hx hb hts hown hC hI i_X1 (ok_rec hr hi3) (e_rec hr hi3 g_us) rfl (by decide) qf_X3_110 rfl rfl dX3_deliverGrain_40 ?_
      refine lv_iconst (v := 1) hx hb dX3_deliverGrain_43 (by decide) ?_
      refine lv_isub hx hb dX3_deliverGrain_44 ?_
      refine g_te (by rw [q_take_hi (by omega), hgr]) ?_
      refine lv_istore (lv' := [(5, .int (nI g0 - 1)), (4, .int ((q_take V (V (12 + i2) 2) (V (12 + i2) 3)).2)), (3, .int ((q_take V (V (12 + i2) 2) (V (12 + i2) 3)).2)), (2, .ref (ad r (12 + i2))), (0, .ref (ad r 0)), (1, .int n)]) hx hb dX3_deliverGrain_45 hl (by decide) rfl (fun ls hl => ?_)
      have lp47 : ∀ (d k : Nat) (Vx : g_V) (x : Int32), k ≤ 3 → k < 0 + d → (q_delv k (Vx, x) = q_delv g0 (q_take V (V (12 + i2) 2) (V (12 + i2) 3))) → ∀ (H : Heap) (locs : List Loc) (ls : Array Slot), g_I D tb ad (g_A ad) s H locs P (va_up M r Vx) → lv_has ls 6 [(5, .int (nI k - 1)), (4, .int x), (3, .int ((q_take V (V (12 + i2) 2) (V (12 + i2) 3)).2)), (2, .ref (ad r (12 + i2))), (0, .ref (ad r 0)), (1, .int n)] → W p l e rm_X3_deliverGrain s m args below meth c H locs 0 0 Q (F0 m 47 ls []) := by
        intro d
        induction d with
        | zero => intro k Vx x hkp hfu; intros; omega
        | succ d ih47 =>
          intro k Vx x hkp hfu hdl H locs ls hI hl
          refine lv_iload hx hb dX3_deliverGrain_47 (lv_at hl 0 rfl) ?_
          refine lv_if_lt (tgt := 68) hx hb dX3_deliverGrain_49 (by decide) (fun c7 => ?_) (fun c7 => ?_)
          · have hk0 : k = 0 := k_dneg (by omega) c7
            have hv : Vx = (q_delv g0 (q_take V (V (12 + i2) 2) (V (12 + i2) 3))).1 := by rw [hk0] at hdl; rw [← hdl]; rfl
            refine lv_aload_n hx hb dX3_deliverGrain_68 rfl (lv_at hl 4 rfl) ?_
            refine lv_dup hx hb dX3_deliverGrain_69 rfl ?_
            refine g_get 9 hx hb hts hown hC hI i_X3 (ok_c 0 hr (by decide)) (e_st hr g_us) rfl (by decide) qf_X3_64 rfl rfl dX3_deliverGrain_70 ?_
            refine lv_aload_n hx hb dX3_deliverGrain_73 rfl (lv_at hl 3 rfl) ?_
            refine g_get 3 hx hb hts hown hC hI i_X1 (ok_rec hr hi3) (e_rec hr hi3 g_us) rfl (by decide) qf_X3_103 rfl rfl dX3_deliverGrain_74 ?_
            refine lv_iadd hx hb dX3_deliverGrain_77 ?_
            refine g_put 9 (ty := .int) hx hb hts hown hC hI i_X3 tyX3_ok nmX3 (ok_c 0 hr (by decide)) (e_st hr g_us) rfl (by decide) qf_X3_64 rfl rfl rfl rfl rfl (Nat.le_of_ble_eq_true rfl) (p_st hr (by decide)) g_hs dX3_deliverGrain_78 (fun H locs hI => ?_)
            refine lv_aload_n hx hb dX3_deliverGrain_81 rfl (lv_at hl 3 rfl) ?_
            refine g_callVv (rest := []) (c_X1_free l D tb ad hj P M r hr (g_w2 Vx 0 9 ((Vx 0 9) + (Vx (12 + i2) 3))) i2 hi3) rfl rfl gm_X1_free hx hb hml hown hts hC hI (ok_rec hr hi3) (e_rec hr hi3 g_us) rfl rfl qm_X3_119 rfl hl.1 rfl ⟨rfl, rfl, by decide, by decide⟩ (Nat.le_of_ble_eq_true rfl) ⟨Nat.zero_le _, Nat.zero_le _⟩ dX3_deliverGrain_82 (fun H locs hI => ?_)
            refine lv_iload_n hx hb dX3_deliverGrain_85 rfl (lv_at hl 2 rfl) ?_
            exact g_ir hQ hx hb hr0 hlk hC hI dX3_deliverGrain_86 rfl (by unfold q_deliver; (try simp only [q1]); (first | rw [if_pos c4] | rw [if_neg c4] | skip); (first | rw [if_pos c7] | rw [if_neg c7] | skip); try with_reducible rfl) rfl (by unfold q_deliver; (try simp only [q1]); (first | rw [if_pos c4] | rw [if_neg c4] | skip); (first | rw [if_pos c7] | rw [if_neg c7] | skip); try first | with_reducible rfl | (unfold q_deliver1; rw [hclg, hv]))
          · have hk1 : 1 ≤ k := k_dpos c7
            refine lv_aload_n hx hb dX3_deliverGrain_52 rfl (lv_at hl 4 rfl) ?_
            refine lv_iload hx hb dX3_deliverGrain_53 (lv_at hl 0 rfl) ?_
            refine g_te (k_dp hk1) ?_
            refine lv_iload hx hb dX3_deliverGrain_55 (lv_at hl 1 rfl) ?_
            refine g_callVi (rest := []) (c_X3_takeOut l D tb ad hj P M r hr Vx (nI (k - 1)) x) rfl rfl gm_X3_takeOut hx hb hml hown hts hC hI (ok_c 0 hr (by decide)) (e_st hr g_us) rfl rfl qm_X3_125 rfl hl.1 rfl ⟨rfl, rfl, by decide, by decide⟩ (Nat.le_of_ble_eq_true rfl) ⟨Nat.zero_le _, Nat.zero_le _⟩ dX3_deliverGrain_57 (fun H locs hI => ?_)
            refine lv_istore (lv' := [(4, .int ((q_take Vx (nI (k - 1)) x).2)), (5, .int (nI k - 1)), (3, .int ((q_take V (V (12 + i2) 2) (V (12 + i2) 3)).2)), (2, .ref (ad r (12 + i2))), (0, .ref (ad r 0)), (1, .int n)]) hx hb dX3_deliverGrain_60 hl (by decide) rfl (fun ls hl => ?_)
            refine lv_iinc (v := (nI (k - 1) - 1)) (lv' := [(5, .int (nI (k - 1) - 1)), (4, .int ((q_take Vx (nI (k - 1)) x).2)), (3, .int ((q_take V (V (12 + i2) 2) (V (12 + i2) 3)).2)), (2, .ref (ad r (12 + i2))), (0, .ref (ad r 0)), (1, .int n)]) hx hb dX3_deliverGrain_62 hl (k := 1) rfl (k_dd hk1) (by decide) rfl (fun ls hl => ?_)
            refine lv_goto (tgt := 47) hx hb dX3_deliverGrain_65 (by decide) ?_
            exact ih47 (k - 1) _ _ (by omega) (by omega)  (by rw [← hdl, q_delv_step hk1]) _ _ _ hI (lv_sub hl [0, 1, 2, 3, 4, 5] rfl)
      exact lp47 (g0 + 1) g0 ((q_take V (V (12 + i2) 2) (V (12 + i2) 3)).1) ((q_take V (V (12 + i2) 2) (V (12 + i2) 3)).2) (by omega) (by omega)  (congrArg (q_delv g0) (Prod.eta _)) _ _ _ hI (lv_sub hl [0, 1, 2, 3, 4, 5] rfl)
abbrev rm_X3_greatestCallingPrice : Room := { frames := 2, cells := 0, slots := 0, locals := 44 }
set_option maxHeartbeats 800000 in
set_option maxRecDepth 100000 in
theorem c_X3_greatestCallingPrice (l : Launch) (D : va_G) (tb : g_T) (ad : g_Ad) (hj : g_inj ad) (P : g_P) (M : g_M) (r : Nat) (hr : r < 6) (V : g_V) (le : Int32) : g_Ci l yX3_greatestCallingPrice cX3_greatestCallingPrice 7 (some .int) rm_X3_greatestCallingPrice D tb ad [.ref (ad r 0), .int le] P (va_up M r V) (q_fallTo V le) P (va_up M r V) := by
  refine g_go (by decide) (Nat.le_of_ble_eq_true rfl) hj ?_
  intro p e s m below meth c ls H locs R args Q hR0 hQ hx hb hml hr0 hlk hown hts hC hI hl
  subst hR0
  have hown : s.vm.findClass RX3 = some m.cls := hown
  have hl : lv_has ls 7 [(0, .ref (ad r 0)), (1, .int le)] := hl
  refine lv_iload_n hx hb dX3_greatestCallingPrice_0 rfl (lv_at hl 1 rfl) ?_
  refine g_callNi (rest := []) (c_X4_isLender l D tb ad hj P (va_up M r V) le) rfl rfl gm_X4_isLender hx hb hml hown hts hC hI qN_X3_129 rfl hl.1 rfl ⟨rfl, rfl, by decide, by decide⟩ (Nat.le_of_ble_eq_true rfl) ⟨Nat.zero_le _, Nat.zero_le _⟩ dX3_greatestCallingPrice_1 (fun H locs hI => ?_)
  refine g_tf (fun c1 => ?_) (fun c1 => ?_)
  · refine lv_if_ne (tgt := 10) hx hb dX3_greatestCallingPrice_4 (by decide) (fun _ => ?_) (fun c2 => absurd c2 (by decide))
    refine lv_bipush (v := 99) hx hb dX3_greatestCallingPrice_10 (by decide) ?_
    refine lv_istore_n (lv' := [(2, .int 99), (0, .ref (ad r 0)), (1, .int le)]) hx hb dX3_greatestCallingPrice_12 rfl hl (by decide) rfl (fun ls hl => ?_)
    have lp13 : ∀ (d pz : Nat), pz ≤ 99 → pz < 0 + d → (∀ j, j < 99 - pz → (fun j => q_anyW V le (nI (99 - j))) j = false) → ∀ (H : Heap) (locs : List Loc) (ls : Array Slot), g_I D tb ad (g_A ad) s H locs P (va_up M r V) → lv_has ls 7 [(2, .int (nI pz)), (0, .ref (ad r 0)), (1, .int le)] → W p l e rm_X3_greatestCallingPrice s m args below meth c H locs 0 0 Q (F0 m 13 ls []) := by
      intro d
      induction d with
      | zero => intro pz hkp hfu; intros; omega
      | succ d ih13 =>
        intro pz hkp hfu hout H locs ls hI hl
        refine lv_iload_n hx hb dX3_greatestCallingPrice_13 rfl (lv_at hl 0 rfl) ?_
        refine lv_iconst (v := 1) hx hb dX3_greatestCallingPrice_14 (by decide) ?_
        refine lv_icmp_lt (tgt := 68) hx hb dX3_greatestCallingPrice_15 (by decide) (fun c3 => ?_) (fun c3 => ?_)
        · have c3n : pz < 1 := (nI_ltI (a := pz) (b := 1) (by omega) (by omega)).mp c3
          refine lv_ldc (v := (-2000000004)) hx hb hown (hts _ qc_X3_188) dX3_greatestCallingPrice_68 ?_
          exact g_ir hQ hx hb hr0 hlk hC hI dX3_greatestCallingPrice_70 rfl (by unfold q_fallTo; (first | rw [if_pos c1] | rw [if_neg c1] | skip); (first | rw [if_pos c3] | rw [if_neg c3] | skip); try first | with_reducible rfl | (rw [show k_find (fun j => q_anyW V le (nI (99 - j))) 99 = some (99 - pz) from k_find_at (by omega) hany hout]; show nI pz = nI (99 - (99 - pz)); rw [show 99 - (99 - pz) = pz from by omega]) | (rw [show k_find (fun j => q_anyW V le (nI (99 - j))) 99 = none from k_find_none.mpr (fun j hj => hout j (by omega))])) rfl rfl
        · have c3n : ¬ pz < 1 := fun z => c3 ((nI_ltI (a := pz) (b := 1) (by omega) (by omega)).mpr z)
          refine lv_aload_n hx hb dX3_greatestCallingPrice_18 rfl (lv_at hl 1 rfl) ?_
          refine g_get 1 hx hb hts hown hC hI i_X3 (ok_c 0 hr (by decide)) (e_st hr g_us) rfl (by decide) qf_X3_19 rfl rfl dX3_greatestCallingPrice_19 ?_
          refine lv_astore_n (lv' := [(3, .ref (ad r 2)), (2, .int (nI pz)), (0, .ref (ad r 0)), (1, .int le)]) hx hb dX3_greatestCallingPrice_22 rfl hl (by decide) rfl (fun ls hl => ?_)
          refine lv_aload_n hx hb dX3_greatestCallingPrice_23 rfl (lv_at hl 0 rfl) ?_
          refine g_alen 3 (v := 16) hx hb hC hI (ok_c 2 hr (by decide)) (e_recs hr) rfl rfl dX3_greatestCallingPrice_24 ?_
          refine lv_istore (lv' := [(4, .int 16), (3, .ref (ad r 2)), (2, .int (nI pz)), (0, .ref (ad r 0)), (1, .int le)]) hx hb dX3_greatestCallingPrice_25 hl (by decide) rfl (fun ls hl => ?_)
          refine lv_iconst (v := 0) hx hb dX3_greatestCallingPrice_27 (by decide) ?_
          refine lv_istore (lv' := [(5, .int 0), (4, .int 16), (3, .ref (ad r 2)), (2, .int (nI pz)), (0, .ref (ad r 0)), (1, .int le)]) hx hb dX3_greatestCallingPrice_28 hl (by decide) rfl (fun ls hl => ?_)
          have lp30 : ∀ (d k : Nat), k ≤ 16 → 16 < k + d → (∀ j, j < k → (fun i => decide (q_would V i le (nI pz))) j = false) → ∀ (H : Heap) (locs : List Loc) (ls : Array Slot), g_I D tb ad (g_A ad) s H locs P (va_up M r V) → lv_has ls 7 [(5, .int (nI k)), (4, .int 16), (3, .ref (ad r 2)), (2, .int (nI pz)), (0, .ref (ad r 0)), (1, .int le)] → W p l e rm_X3_greatestCallingPrice s m args below meth c H locs 0 0 Q (F0 m 30 ls []) := by
            intro d
            induction d with
            | zero => intro k hkp hfu; intros; omega
            | succ d ih30 =>
              intro k hkp hfu hin H locs ls hI hl
              refine lv_iload hx hb dX3_greatestCallingPrice_30 (lv_at hl 0 rfl) ?_
              refine lv_iload hx hb dX3_greatestCallingPrice_32 (lv_at hl 1 rfl) ?_
              refine lv_icmp_ge (tgt := 62) hx hb dX3_greatestCallingPrice_34 (by decide) (fun c4 => ?_) (fun c4 => ?_)
              · have c4n : 16 ≤ k := (nI_leI (a := 16) (b := k) (by omega) (by omega)).mp c4
                refine lv_iinc (v := nI (pz - 1)) (lv' := [(2, .int (nI (pz - 1))), (5, .int (nI k)), (4, .int 16), (3, .ref (ad r 2)), (0, .ref (ad r 0)), (1, .int le)]) hx hb dX3_greatestCallingPrice_62 hl (k := 3) rfl (k_dm (by omega)) (by decide) rfl (fun ls hl => ?_)
                refine lv_goto (tgt := 13) hx hb dX3_greatestCallingPrice_65 (by decide) ?_
                exact ih13 (pz - 1)  (by omega) (by omega)  (by intro j hj; rcases Nat.lt_or_ge j (99 - pz) with h | h; exact hout j h; show q_anyW V le (nI (99 - j)) = false; rw [show 99 - j = pz from by omega]; unfold q_anyW; rw [k_find_none.mpr (fun i hi => hin i (by omega))]; rfl) _ _ _ hI (lv_sub hl [0, 4, 5] rfl)
              · have c4n : ¬ 16 ≤ k := fun z => c4 ((nI_leI (a := 16) (b := k) (by omega) (by omega)).mpr z)
                refine lv_aload_n hx hb dX3_greatestCallingPrice_37 rfl (lv_at hl 2 rfl) ?_
                refine lv_iload hx hb dX3_greatestCallingPrice_38 (lv_at hl 0 rfl) ?_
                refine g_aald 3 k hx hb hC hI (ok_c 2 hr (by decide)) (e_recs hr) rfl (vp_in_nI (by omega) (by decide)) (nI_clamp (by omega)) dX3_greatestCallingPrice_40 ?_
                have hk5 : k < 16 := (by omega)
                refine lv_astore (lv' := [(6, .ref (ad r (12 + k))), (5, .int (nI k)), (4, .int 16), (3, .ref (ad r 2)), (2, .int (nI pz)), (0, .ref (ad r 0)), (1, .int le)]) hx hb dX3_greatestCallingPrice_41 hl (by decide) rfl (fun ls hl => ?_)
                refine lv_aload_n hx hb dX3_greatestCallingPrice_43 rfl (lv_at hl 5 rfl) ?_
                refine lv_aload hx hb dX3_greatestCallingPrice_44 (lv_at hl 0 rfl) ?_
                refine lv_iload_n hx hb dX3_greatestCallingPrice_46 rfl (lv_at hl 6 rfl) ?_
                refine lv_iload_n hx hb dX3_greatestCallingPrice_47 rfl (lv_at hl 4 rfl) ?_
                refine g_callVi (rest := []) (c_X3_wouldBeCalled l D tb ad hj P M r hr V k hk5 le (nI pz)) rfl rfl gm_X3_wouldBeCalled hx hb hml hown hts hC hI (ok_c 0 hr (by decide)) (e_st hr g_us) rfl rfl qm_X3_158 rfl hl.1 rfl ⟨rfl, rfl, by decide, by decide⟩ (Nat.le_of_ble_eq_true rfl) ⟨Nat.zero_le _, Nat.zero_le _⟩ dX3_greatestCallingPrice_48 (fun H locs hI => ?_)
                refine g_tf (fun c6 => ?_) (fun c6 => ?_)
                · have hany : (fun j => q_anyW V le (nI (99 - j))) (99 - pz) = true := by
                    show q_anyW V le (nI (99 - (99 - pz))) = true
                    rw [show 99 - (99 - pz) = pz from by omega]
                    unfold q_anyW
                    rw [k_find_at (i := k) (by omega) (decide_eq_true c6) hin]
                    rfl
                  refine lv_if_eq (tgt := 56) hx hb dX3_greatestCallingPrice_51 (by decide) (fun c7 => absurd c7 (by decide)) (fun _ => ?_)
                  refine lv_iload_n hx hb dX3_greatestCallingPrice_54 rfl (lv_at hl 4 rfl) ?_
                  exact g_ir hQ hx hb hr0 hlk hC hI dX3_greatestCallingPrice_55 rfl (by unfold q_fallTo; (first | rw [if_pos c1] | rw [if_neg c1] | skip); (first | rw [if_pos c3] | rw [if_neg c3] | skip); (first | rw [if_pos c4] | rw [if_neg c4] | skip); (first | rw [if_pos c6] | rw [if_neg c6] | skip); try first | with_reducible rfl | (rw [show k_find (fun j => q_anyW V le (nI (99 - j))) 99 = some (99 - pz) from k_find_at (by omega) hany hout]; show nI pz = nI (99 - (99 - pz)); rw [show 99 - (99 - pz) = pz from by omega]) | (rw [show k_find (fun j => q_anyW V le (nI (99 - j))) 99 = none from k_find_none.mpr (fun j hj => hout j (by omega))])) rfl rfl
                · refine lv_if_eq (tgt := 56) hx hb dX3_greatestCallingPrice_51 (by decide) (fun _ => ?_) (fun c8 => absurd c8 (by decide))
                  refine lv_iinc (v := nI (k + 1)) (lv' := [(5, .int (nI (k + 1))), (6, .ref (ad r (12 + k))), (4, .int 16), (3, .ref (ad r 2)), (2, .int (nI pz)), (0, .ref (ad r 0)), (1, .int le)]) hx hb dX3_greatestCallingPrice_56 hl (k := 1) rfl (nI_1 _) (by decide) rfl (fun ls hl => ?_)
                  refine lv_goto (tgt := 30) hx hb dX3_greatestCallingPrice_59 (by decide) ?_
                  exact ih30 (k + 1)  (by omega) (by omega)  (by exact lt_s hin (decide_eq_false c6)) _ _ _ hI (lv_sub hl [0, 2, 3, 4, 5, 6] rfl)
          exact lp30 (16 + 1) 0  (by omega) (by omega)  (fun j hj => absurd hj (Nat.not_lt_zero j)) _ _ _ hI (lv_sub hl [0, 1, 2, 3, 4, 5] rfl)
    exact lp13 100 99  (by omega) (by omega)  (fun j hj => absurd hj (Nat.not_lt_zero j)) _ _ _ hI (lv_sub hl [0, 1, 2] rfl)
  · refine lv_if_ne (tgt := 10) hx hb dX3_greatestCallingPrice_4 (by decide) (fun c9 => absurd c9 (by decide)) (fun _ => ?_)
    refine lv_ldc (v := (-2000000001)) hx hb hown (hts _ qc_X3_74) dX3_greatestCallingPrice_7 ?_
    exact g_ir hQ hx hb hr0 hlk hC hI dX3_greatestCallingPrice_9 rfl (by unfold q_fallTo; (first | rw [if_pos c1] | rw [if_neg c1] | skip); try first | with_reducible rfl | (rw [show k_find (fun j => q_anyW V le (nI (99 - j))) 99 = some (99 - pz) from k_find_at (by omega) hany hout]; show nI pz = nI (99 - (99 - pz)); rw [show 99 - (99 - pz) = pz from by omega]) | (rw [show k_find (fun j => q_anyW V le (nI (99 - j))) 99 = none from k_find_none.mpr (fun j hj => hout j (by omega))])) rfl rfl
abbrev rm_X3_numberAt : Room := { frames := 2, cells := 0, slots := 0, locals := 46 }
set_option maxHeartbeats 800000 in
set_option maxRecDepth 100000 in
theorem c_X3_numberAt (l : Launch) (D : va_G) (tb : g_T) (ad : g_Ad) (hj : g_inj ad) (P : g_P) (M : g_M) (r : Nat) (hr : r < 6) (V : g_V) (x : Int32) : g_Ci l yX3_numberAt cX3_numberAt 6 (some .int) rm_X3_numberAt D tb ad [.ref (ad r 0), .int x] P (va_up M r V) (q_numberAt V x) P (va_up M r V) := by
  refine g_go (by decide) (Nat.le_of_ble_eq_true rfl) hj ?_
  intro p e s m below meth c ls H locs R args Q hR0 hQ hx hb hml hr0 hlk hown hts hC hI hl
  subst hR0
  have hown : s.vm.findClass RX3 = some m.cls := hown
  have hl : lv_has ls 6 [(0, .ref (ad r 0)), (1, .int x)] := hl
  refine lv_iload_n hx hb dX3_numberAt_0 rfl (lv_at hl 1 rfl) ?_
  refine lv_if_ge (tgt := 7) hx hb dX3_numberAt_1 (by decide) (fun c1 => ?_) (fun c1 => ?_)
  · refine lv_aload_n hx hb dX3_numberAt_7 rfl (lv_at hl 0 rfl) ?_
    refine g_get 1 hx hb hts hown hC hI i_X3 (ok_c 0 hr (by decide)) (e_st hr g_us) rfl (by decide) qf_X3_19 rfl rfl dX3_numberAt_8 ?_
    refine lv_astore_n (lv' := [(2, .ref (ad r 2)), (0, .ref (ad r 0)), (1, .int x)]) hx hb dX3_numberAt_11 rfl hl (by decide) rfl (fun ls hl => ?_)
    refine lv_aload_n hx hb dX3_numberAt_12 rfl (lv_at hl 0 rfl) ?_
    refine g_alen 3 (v := 16) hx hb hC hI (ok_c 2 hr (by decide)) (e_recs hr) rfl rfl dX3_numberAt_13 ?_
    refine lv_istore_n (lv' := [(3, .int 16), (2, .ref (ad r 2)), (0, .ref (ad r 0)), (1, .int x)]) hx hb dX3_numberAt_14 rfl hl (by decide) rfl (fun ls hl => ?_)
    refine lv_iconst (v := 0) hx hb dX3_numberAt_15 (by decide) ?_
    refine lv_istore (lv' := [(4, .int 0), (3, .int 16), (2, .ref (ad r 2)), (0, .ref (ad r 0)), (1, .int x)]) hx hb dX3_numberAt_16 hl (by decide) rfl (fun ls hl => ?_)
    have lp18 : ∀ (d k : Nat), k ≤ 16 → 16 < k + d → (∀ j, j < k → (fun i => decide (q_used V i ∧ q_below V (V (12 + i) 0) = x)) j = false) → ∀ (H : Heap) (locs : List Loc) (ls : Array Slot), g_I D tb ad (g_A ad) s H locs P (va_up M r V) → lv_has ls 6 [(4, .int (nI k)), (3, .int 16), (2, .ref (ad r 2)), (0, .ref (ad r 0)), (1, .int x)] → W p l e rm_X3_numberAt s m args below meth c H locs 0 0 Q (F0 m 18 ls []) := by
      intro d
      induction d with
      | zero => intro k hkp hfu; intros; omega
      | succ d ih18 =>
        intro k hkp hfu hno H locs ls hI hl
        refine lv_iload hx hb dX3_numberAt_18 (lv_at hl 0 rfl) ?_
        refine lv_iload_n hx hb dX3_numberAt_20 rfl (lv_at hl 1 rfl) ?_
        refine lv_icmp_ge (tgt := 63) hx hb dX3_numberAt_21 (by decide) (fun c2 => ?_) (fun c2 => ?_)
        · have c2n : 16 ≤ k := (nI_leI (a := 16) (b := k) (by omega) (by omega)).mp c2
          refine lv_ldc (v := (-2000000004)) hx hb hown (hts _ qc_X3_188) dX3_numberAt_63 ?_
          exact g_ir hQ hx hb hr0 hlk hC hI dX3_numberAt_65 rfl (by unfold q_numberAt; (first | rw [if_pos c1] | rw [if_neg c1] | skip); (first | rw [if_pos c2] | rw [if_neg c2] | skip); try first | with_reducible rfl | (rw [show k_find (fun i => decide (q_used V i ∧ q_below V (V (12 + i) 0) = x)) 16 = some k from k_find_at (by omega) (decide_eq_true ⟨by assumption, by assumption⟩) hno]) | (rw [show k_find (fun i => decide (q_used V i ∧ q_below V (V (12 + i) 0) = x)) 16 = none from k_find_none.mpr (fun j hj => hno j (by omega))])) rfl rfl
        · have c2n : ¬ 16 ≤ k := fun z => c2 ((nI_leI (a := 16) (b := k) (by omega) (by omega)).mpr z)
          refine lv_aload_n hx hb dX3_numberAt_24 rfl (lv_at hl 2 rfl) ?_
          refine lv_iload hx hb dX3_numberAt_25 (lv_at hl 0 rfl) ?_
          refine g_aald 3 k hx hb hC hI (ok_c 2 hr (by decide)) (e_recs hr) rfl (vp_in_nI (by omega) (by decide)) (nI_clamp (by omega)) dX3_numberAt_27 ?_
          have hk3 : k < 16 := (by omega)
          refine lv_astore (lv' := [(5, .ref (ad r (12 + k))), (4, .int (nI k)), (3, .int 16), (2, .ref (ad r 2)), (0, .ref (ad r 0)), (1, .int x)]) hx hb dX3_numberAt_28 hl (by decide) rfl (fun ls hl => ?_)
          refine lv_aload hx hb dX3_numberAt_30 (lv_at hl 0 rfl) ?_
          refine g_callVi (rest := []) (c_X1_isUsed l D tb ad hj P M r hr V k hk3) rfl rfl gm_X1_isUsed hx hb hml hown hts hC hI (ok_rec hr hk3) (e_rec hr hk3 g_us) rfl rfl qm_X3_203 rfl hl.1 rfl ⟨rfl, rfl, by decide, by decide⟩ (Nat.le_of_ble_eq_true rfl) ⟨Nat.zero_le _, Nat.zero_le _⟩ dX3_numberAt_32 (fun H locs hI => ?_)
          refine g_tf (fun c4 => ?_) (fun c4 => ?_)
          · refine lv_if_eq (tgt := 57) hx hb dX3_numberAt_35 (by decide) (fun c5 => absurd c5 (by decide)) (fun _ => ?_)
            refine lv_aload_n hx hb dX3_numberAt_38 rfl (lv_at hl 4 rfl) ?_
            refine lv_aload hx hb dX3_numberAt_39 (lv_at hl 0 rfl) ?_
            refine g_get 0 hx hb hts hown hC hI i_X1 (ok_rec hr hk3) (e_rec hr hk3 g_us) rfl (by decide) qf_X3_96 rfl rfl dX3_numberAt_41 ?_
            refine g_callVi (rest := []) (c_X3_receiptsBelow l D tb ad hj P M r hr V (V (12 + k) 0)) rfl rfl gm_X3_receiptsBelow hx hb hml hown hts hC hI (ok_c 0 hr (by decide)) (e_st hr g_us) rfl rfl qm_X3_206 rfl hl.1 rfl ⟨rfl, rfl, by decide, by decide⟩ (Nat.le_of_ble_eq_true rfl) ⟨Nat.zero_le _, Nat.zero_le _⟩ dX3_numberAt_44 (fun H locs hI => ?_)
            refine lv_iload_n hx hb dX3_numberAt_47 rfl (lv_at hl 5 rfl) ?_
            refine lv_icmp_ne (tgt := 57) hx hb dX3_numberAt_48 (by decide) (fun c6 => ?_) (fun c6 => ?_)
            · refine lv_iinc (v := nI (k + 1)) (lv' := [(4, .int (nI (k + 1))), (5, .ref (ad r (12 + k))), (3, .int 16), (2, .ref (ad r 2)), (0, .ref (ad r 0)), (1, .int x)]) hx hb dX3_numberAt_57 hl (k := 1) rfl (nI_1 _) (by decide) rfl (fun ls hl => ?_)
              refine lv_goto (tgt := 18) hx hb dX3_numberAt_60 (by decide) ?_
              exact ih18 (k + 1)  (by omega) (by omega)  (by exact lt_s hno (decide_eq_false (fun z => by first | exact c6 z.1 | exact c6 z.2))) _ _ _ hI (lv_sub hl [0, 2, 3, 4, 5] rfl)
            · refine lv_aload hx hb dX3_numberAt_51 (lv_at hl 0 rfl) ?_
              refine g_get 0 hx hb hts hown hC hI i_X1 (ok_rec hr hk3) (e_rec hr hk3 g_us) rfl (by decide) qf_X3_96 rfl rfl dX3_numberAt_53 ?_
              exact g_ir hQ hx hb hr0 hlk hC hI dX3_numberAt_56 rfl (by unfold q_numberAt; (first | rw [if_pos c1] | rw [if_neg c1] | skip); (first | rw [if_pos c2] | rw [if_neg c2] | skip); (first | rw [if_pos c4] | rw [if_neg c4] | skip); (first | rw [if_pos c6] | rw [if_neg c6] | skip); try first | with_reducible rfl | (rw [show k_find (fun i => decide (q_used V i ∧ q_below V (V (12 + i) 0) = x)) 16 = some k from k_find_at (by omega) (decide_eq_true ⟨by assumption, by assumption⟩) hno]) | (rw [show k_find (fun i => decide (q_used V i ∧ q_below V (V (12 + i) 0) = x)) 16 = none from k_find_none.mpr (fun j hj => hno j (by omega))])) rfl rfl
          · refine lv_if_eq (tgt := 57) hx hb dX3_numberAt_35 (by decide) (fun _ => ?_) (fun c7 => absurd c7 (by decide))
            refine lv_iinc (v := nI (k + 1)) (lv' := [(4, .int (nI (k + 1))), (5, .ref (ad r (12 + k))), (3, .int 16), (2, .ref (ad r 2)), (0, .ref (ad r 0)), (1, .int x)]) hx hb dX3_numberAt_57 hl (k := 1) rfl (nI_1 _) (by decide) rfl (fun ls hl => ?_)
            refine lv_goto (tgt := 18) hx hb dX3_numberAt_60 (by decide) ?_
            exact ih18 (k + 1)  (by omega) (by omega)  (by exact lt_s hno (decide_eq_false (fun z => by first | exact c4 z.1 | exact c4 z.2))) _ _ _ hI (lv_sub hl [0, 2, 3, 4, 5] rfl)
    exact lp18 (16 + 1) 0  (by omega) (by omega)  (fun j hj => absurd hj (Nat.not_lt_zero j)) _ _ _ hI (lv_sub hl [0, 1, 2, 3, 4] rfl)
  · refine lv_ldc (v := (-2000000001)) hx hb hown (hts _ qc_X3_74) dX3_numberAt_4 ?_
    exact g_ir hQ hx hb hr0 hlk hC hI dX3_numberAt_6 rfl (by unfold q_numberAt; (first | rw [if_pos c1] | rw [if_neg c1] | skip); try first | with_reducible rfl | (rw [show k_find (fun i => decide (q_used V i ∧ q_below V (V (12 + i) 0) = x)) 16 = some k from k_find_at (by omega) (decide_eq_true ⟨by assumption, by assumption⟩) hno]) | (rw [show k_find (fun i => decide (q_used V i ∧ q_below V (V (12 + i) 0) = x)) 16 = none from k_find_none.mpr (fun j hj => hno j (by omega))])) rfl rfl
def q_tellBin (V : g_V) (bn : Int32) (w : Int32) : Int32 :=
  if k_in bn 5 then (if w = 0 then (V (7 + (bn.toNatClampNeg)) 0) else if w = 1 then (V (7 + (bn.toNatClampNeg)) 1) else if w = 2 then (q_loss V (bn.toNatClampNeg) ((V (7 + (bn.toNatClampNeg)) 0).toNatClampNeg) 3) else (-2000000001)) else (-2000000001)
abbrev rm_X3_tellBin : Room := { frames := 4, cells := 0, slots := 0, locals := 91 }
set_option maxHeartbeats 800000 in
set_option maxRecDepth 100000 in
theorem c_X3_tellBin (l : Launch) (D : va_G) (tb : g_T) (ad : g_Ad) (hj : g_inj ad) (P : g_P) (M : g_M) (r : Nat) (hr : r < 6) (V : g_V) (bn : Int32) (w : Int32) (hG : q_okG V) : g_Ci l yX3_tellBin cX3_tellBin 3 (some .int) rm_X3_tellBin D tb ad [.ref (ad r 0), .int bn, .int w] P (va_up M r V) (q_tellBin V bn w) P (va_up M r V) := by
  refine g_go (by decide) (Nat.le_of_ble_eq_true rfl) hj ?_
  intro p e s m below meth c ls H locs R args Q hR0 hQ hx hb hml hr0 hlk hown hts hC hI hl
  subst hR0
  have hown : s.vm.findClass RX3 = some m.cls := hown
  have hl : lv_has ls 3 [(0, .ref (ad r 0)), (1, .int bn), (2, .int w)] := hl
  refine lv_iload_n hx hb dX3_tellBin_0 rfl (lv_at hl 1 rfl) ?_
  refine g_callNi (rest := []) (c_X4_isBin l D tb ad hj P (va_up M r V) bn) rfl rfl gm_X4_isBin hx hb hml hown hts hC hI qN_X3_165 rfl hl.1 rfl ⟨rfl, rfl, by decide, by decide⟩ (Nat.le_of_ble_eq_true rfl) ⟨Nat.zero_le _, Nat.zero_le _⟩ dX3_tellBin_1 (fun H locs hI => ?_)
  refine g_tf (fun c1 => ?_) (fun c1 => ?_)
  · obtain ⟨b0, hb0, rfl⟩ := k_nI (N := 5) c1 rfl
    have hclb0 : (nI b0).toNatClampNeg = b0 := nI_clamp (by omega)
    refine lv_if_ne (tgt := 10) hx hb dX3_tellBin_4 (by decide) (fun _ => ?_) (fun c2 => absurd c2 (by decide))
    refine lv_iload_n hx hb dX3_tellBin_10 rfl (lv_at hl 2 rfl) ?_
    by_cases c3 : w = 0
    · refine lv_tableIn (tgt := 36) hx hb dX3_tellBin_11 (by rw [c3]; decide) (by rw [c3]; decide) (by rw [c3]; rfl) (by decide) ?_
      refine lv_aload_n hx hb dX3_tellBin_36 rfl (lv_at hl 0 rfl) ?_
      refine g_get 0 hx hb hts hown hC hI i_X3 (ok_c 0 hr (by decide)) (e_st hr g_us) rfl (by decide) qf_X3_11 rfl rfl dX3_tellBin_37 ?_
      refine lv_iload_n hx hb dX3_tellBin_40 rfl (lv_at hl 1 rfl) ?_
      refine g_aald 2 b0 hx hb hC hI (ok_c 1 hr (by decide)) (e_bins hr) rfl (vp_in_nI (by omega) (by decide)) (nI_clamp (by omega)) dX3_tellBin_41 ?_
      have hk4 : b0 < 5 := (by omega)
      refine g_get 0 hx hb hts hown hC hI i_X0 (ok_bin hr hk4) (e_bin hr hk4 g_us) rfl (by decide) qf_X3_37 rfl rfl dX3_tellBin_42 ?_
      exact g_ir hQ hx hb hr0 hlk hC hI dX3_tellBin_45 rfl (by unfold q_tellBin; (try simp only [hclb0]); (try simp only [hclg]); (first | rw [if_pos c1] | rw [if_neg c1] | skip); (first | rw [if_pos c3] | rw [if_neg c3] | skip); try with_reducible rfl) rfl rfl
    by_cases c5 : w = 1
    · refine lv_tableIn (tgt := 46) hx hb dX3_tellBin_11 (by rw [c5]; decide) (by rw [c5]; decide) (by rw [c5]; rfl) (by decide) ?_
      refine lv_aload_n hx hb dX3_tellBin_46 rfl (lv_at hl 0 rfl) ?_
      refine g_get 0 hx hb hts hown hC hI i_X3 (ok_c 0 hr (by decide)) (e_st hr g_us) rfl (by decide) qf_X3_11 rfl rfl dX3_tellBin_47 ?_
      refine lv_iload_n hx hb dX3_tellBin_50 rfl (lv_at hl 1 rfl) ?_
      refine g_aald 2 b0 hx hb hC hI (ok_c 1 hr (by decide)) (e_bins hr) rfl (vp_in_nI (by omega) (by decide)) (nI_clamp (by omega)) dX3_tellBin_51 ?_
      have hk6 : b0 < 5 := (by omega)
      refine g_get 1 hx hb hts hown hC hI i_X0 (ok_bin hr hk6) (e_bin hr hk6 g_us) rfl (by decide) qf_X3_172 rfl rfl dX3_tellBin_52 ?_
      exact g_ir hQ hx hb hr0 hlk hC hI dX3_tellBin_55 rfl (by unfold q_tellBin; (try simp only [hclb0]); (try simp only [hclg]); (first | rw [if_pos c1] | rw [if_neg c1] | skip); (first | rw [if_pos c3] | rw [if_neg c3] | skip); (first | rw [if_pos c5] | rw [if_neg c5] | skip); try with_reducible rfl) rfl rfl
    by_cases c7 : w = 2
    · refine lv_tableIn (tgt := 56) hx hb dX3_tellBin_11 (by rw [c7]; decide) (by rw [c7]; decide) (by rw [c7]; rfl) (by decide) ?_
      refine lv_aload_n hx hb dX3_tellBin_56 rfl (lv_at hl 0 rfl) ?_
      refine lv_aload_n hx hb dX3_tellBin_57 rfl (lv_at hl 0 rfl) ?_
      refine g_get 0 hx hb hts hown hC hI i_X3 (ok_c 0 hr (by decide)) (e_st hr g_us) rfl (by decide) qf_X3_11 rfl rfl dX3_tellBin_58 ?_
      refine lv_iload_n hx hb dX3_tellBin_61 rfl (lv_at hl 1 rfl) ?_
      refine g_aald 2 b0 hx hb hC hI (ok_c 1 hr (by decide)) (e_bins hr) rfl (vp_in_nI (by omega) (by decide)) (nI_clamp (by omega)) dX3_tellBin_62 ?_
      have hk8 : b0 < 5 := (by omega)
      obtain ⟨g0, hg0, hg⟩ := hG b0 hb0
      have hclg : (V (7 + b0) 0).toNatClampNeg = g0 := by rw [hg]; exact nI_clamp (by omega)
      refine g_callVi (rest := []) (c_X3_greatestLoss l D tb ad hj P M r hr V b0 hk8 g0 hg0 hg) rfl rfl gm_X3_greatestLoss hx hb hml hown hts hC hI (ok_c 0 hr (by decide)) (e_st hr g_us) rfl rfl qm_X3_168 rfl hl.1 rfl ⟨rfl, rfl, by decide, by decide⟩ (Nat.le_of_ble_eq_true rfl) ⟨Nat.zero_le _, Nat.zero_le _⟩ dX3_tellBin_63 (fun H locs hI => ?_)
      exact g_ir hQ hx hb hr0 hlk hC hI dX3_tellBin_66 rfl (by unfold q_tellBin; (try simp only [hclb0]); (try simp only [hclg]); (first | rw [if_pos c1] | rw [if_neg c1] | skip); (first | rw [if_pos c3] | rw [if_neg c3] | skip); (first | rw [if_pos c5] | rw [if_neg c5] | skip); (first | rw [if_pos c7] | rw [if_neg c7] | skip); try with_reducible rfl) rfl rfl
    refine lv_tableOut (tgt := 67) hx hb dX3_tellBin_11 (by have c3i := k_ti c3 (k := 0) rfl; have c5i := k_ti c5 (k := 1) rfl; have c7i := k_ti c7 (k := 2) rfl; omega) (by decide) ?_
    refine lv_ldc (v := (-2000000001)) hx hb hown (hts _ qc_X3_74) dX3_tellBin_67 ?_
    exact g_ir hQ hx hb hr0 hlk hC hI dX3_tellBin_69 rfl (by unfold q_tellBin; (try simp only [hclb0]); (try simp only [hclg]); (first | rw [if_pos c1] | rw [if_neg c1] | skip); (first | rw [if_pos c3] | rw [if_neg c3] | skip); (first | rw [if_pos c5] | rw [if_neg c5] | skip); (first | rw [if_pos c7] | rw [if_neg c7] | skip); try with_reducible rfl) rfl rfl
  · refine lv_if_ne (tgt := 10) hx hb dX3_tellBin_4 (by decide) (fun c9 => absurd c9 (by decide)) (fun _ => ?_)
    refine lv_ldc (v := (-2000000001)) hx hb hown (hts _ qc_X3_74) dX3_tellBin_7 ?_
    exact g_ir hQ hx hb hr0 hlk hC hI dX3_tellBin_9 rfl (by unfold q_tellBin; (try simp only [hclb0]); (try simp only [hclg]); (first | rw [if_pos c1] | rw [if_neg c1] | skip); try with_reducible rfl) rfl rfl
def q_tellGrade (V : g_V) (g : Int32) (w : Int32) : Int32 :=
  if k_in g 3 then (if w = 0 then (V 3 g.toNatClampNeg) else if w = 1 then (q_grainOf V g g) else if w = 2 then (q_receiptsOf V g g) else if w = 3 then (q_surplus V g) else if w = 4 then (q_roomIn V g) else (-2000000001)) else (-2000000001)
abbrev rm_X3_tellGrade : Room := { frames := 3, cells := 0, slots := 0, locals := 68 }
set_option maxHeartbeats 800000 in
set_option maxRecDepth 100000 in
theorem c_X3_tellGrade (l : Launch) (D : va_G) (tb : g_T) (ad : g_Ad) (hj : g_inj ad) (P : g_P) (M : g_M) (r : Nat) (hr : r < 6) (V : g_V) (g : Int32) (w : Int32) : g_Ci l yX3_tellGrade cX3_tellGrade 3 (some .int) rm_X3_tellGrade D tb ad [.ref (ad r 0), .int g, .int w] P (va_up M r V) (q_tellGrade V g w) P (va_up M r V) := by
  refine g_go (by decide) (Nat.le_of_ble_eq_true rfl) hj ?_
  intro p e s m below meth c ls H locs R args Q hR0 hQ hx hb hml hr0 hlk hown hts hC hI hl
  subst hR0
  have hown : s.vm.findClass RX3 = some m.cls := hown
  have hl : lv_has ls 3 [(0, .ref (ad r 0)), (1, .int g), (2, .int w)] := hl
  refine lv_iload_n hx hb dX3_tellGrade_0 rfl (lv_at hl 1 rfl) ?_
  refine g_callNi (rest := []) (c_X4_isGrade l D tb ad hj P (va_up M r V) g) rfl rfl gm_X4_isGrade hx hb hml hown hts hC hI qN_X3_70 rfl hl.1 rfl ⟨rfl, rfl, by decide, by decide⟩ (Nat.le_of_ble_eq_true rfl) ⟨Nat.zero_le _, Nat.zero_le _⟩ dX3_tellGrade_1 (fun H locs hI => ?_)
  refine g_tf (fun c1 => ?_) (fun c1 => ?_)
  · refine lv_if_ne (tgt := 10) hx hb dX3_tellGrade_4 (by decide) (fun _ => ?_) (fun c2 => absurd c2 (by decide))
    refine lv_iload_n hx hb dX3_tellGrade_10 rfl (lv_at hl 2 rfl) ?_
    by_cases c3 : w = 0
    · refine lv_tableIn (tgt := 44) hx hb dX3_tellGrade_11 (by rw [c3]; decide) (by rw [c3]; decide) (by rw [c3]; rfl) (by decide) ?_
      refine lv_aload_n hx hb dX3_tellGrade_44 rfl (lv_at hl 0 rfl) ?_
      refine g_get 2 hx hb hts hown hC hI i_X3 (ok_c 0 hr (by decide)) (e_st hr g_us) rfl (by decide) qf_X3_23 rfl rfl dX3_tellGrade_45 ?_
      refine lv_iload_n hx hb dX3_tellGrade_48 rfl (lv_at hl 1 rfl) ?_
      refine g_iald g.toNatClampNeg hx hb hC hI (ok_c 3 hr (by decide)) (e_pr hr g_us) (k_vin c1 rfl) rfl dX3_tellGrade_49 ?_
      exact g_ir hQ hx hb hr0 hlk hC hI dX3_tellGrade_50 rfl (by unfold q_tellGrade; skip; (first | rw [if_pos c1] | rw [if_neg c1] | skip); (first | rw [if_pos c3] | rw [if_neg c3] | skip); try with_reducible rfl) rfl rfl
    by_cases c4 : w = 1
    · refine lv_tableIn (tgt := 51) hx hb dX3_tellGrade_11 (by rw [c4]; decide) (by rw [c4]; decide) (by rw [c4]; rfl) (by decide) ?_
      refine lv_aload_n hx hb dX3_tellGrade_51 rfl (lv_at hl 0 rfl) ?_
      refine lv_iload_n hx hb dX3_tellGrade_52 rfl (lv_at hl 1 rfl) ?_
      refine lv_iload_n hx hb dX3_tellGrade_53 rfl (lv_at hl 1 rfl) ?_
      refine g_callVi (rest := []) (c_X3_grainOf l D tb ad hj P M r hr V g g) rfl rfl gm_X3_grainOf hx hb hml hown hts hC hI (ok_c 0 hr (by decide)) (e_st hr g_us) rfl rfl qm_X3_209 rfl hl.1 rfl ⟨rfl, rfl, by decide, by decide⟩ (Nat.le_of_ble_eq_true rfl) ⟨Nat.zero_le _, Nat.zero_le _⟩ dX3_tellGrade_54 (fun H locs hI => ?_)
      exact g_ir hQ hx hb hr0 hlk hC hI dX3_tellGrade_57 rfl (by unfold q_tellGrade; skip; (first | rw [if_pos c1] | rw [if_neg c1] | skip); (first | rw [if_pos c3] | rw [if_neg c3] | skip); (first | rw [if_pos c4] | rw [if_neg c4] | skip); try with_reducible rfl) rfl rfl
    by_cases c5 : w = 2
    · refine lv_tableIn (tgt := 58) hx hb dX3_tellGrade_11 (by rw [c5]; decide) (by rw [c5]; decide) (by rw [c5]; rfl) (by decide) ?_
      refine lv_aload_n hx hb dX3_tellGrade_58 rfl (lv_at hl 0 rfl) ?_
      refine lv_iload_n hx hb dX3_tellGrade_59 rfl (lv_at hl 1 rfl) ?_
      refine lv_iload_n hx hb dX3_tellGrade_60 rfl (lv_at hl 1 rfl) ?_
      refine g_callVi (rest := []) (c_X3_receiptsOf l D tb ad hj P M r hr V g g) rfl rfl gm_X3_receiptsOf hx hb hml hown hts hC hI (ok_c 0 hr (by decide)) (e_st hr g_us) rfl rfl qm_X3_212 rfl hl.1 rfl ⟨rfl, rfl, by decide, by decide⟩ (Nat.le_of_ble_eq_true rfl) ⟨Nat.zero_le _, Nat.zero_le _⟩ dX3_tellGrade_61 (fun H locs hI => ?_)
      exact g_ir hQ hx hb hr0 hlk hC hI dX3_tellGrade_64 rfl (by unfold q_tellGrade; skip; (first | rw [if_pos c1] | rw [if_neg c1] | skip); (first | rw [if_pos c3] | rw [if_neg c3] | skip); (first | rw [if_pos c4] | rw [if_neg c4] | skip); (first | rw [if_pos c5] | rw [if_neg c5] | skip); try with_reducible rfl) rfl rfl
    by_cases c6 : w = 3
    · refine lv_tableIn (tgt := 65) hx hb dX3_tellGrade_11 (by rw [c6]; decide) (by rw [c6]; decide) (by rw [c6]; rfl) (by decide) ?_
      refine lv_aload_n hx hb dX3_tellGrade_65 rfl (lv_at hl 0 rfl) ?_
      refine lv_iload_n hx hb dX3_tellGrade_66 rfl (lv_at hl 1 rfl) ?_
      refine g_callVi (rest := []) (c_X3_surplus l D tb ad hj P M r hr V g) rfl rfl gm_X3_surplus hx hb hml hown hts hC hI (ok_c 0 hr (by decide)) (e_st hr g_us) rfl rfl qm_X3_173 rfl hl.1 rfl ⟨rfl, rfl, by decide, by decide⟩ (Nat.le_of_ble_eq_true rfl) ⟨Nat.zero_le _, Nat.zero_le _⟩ dX3_tellGrade_67 (fun H locs hI => ?_)
      exact g_ir hQ hx hb hr0 hlk hC hI dX3_tellGrade_70 rfl (by unfold q_tellGrade; skip; (first | rw [if_pos c1] | rw [if_neg c1] | skip); (first | rw [if_pos c3] | rw [if_neg c3] | skip); (first | rw [if_pos c4] | rw [if_neg c4] | skip); (first | rw [if_pos c5] | rw [if_neg c5] | skip); (first | rw [if_pos c6] | rw [if_neg c6] | skip); try with_reducible rfl) rfl rfl
    by_cases c7 : w = 4
    · refine lv_tableIn (tgt := 71) hx hb dX3_tellGrade_11 (by rw [c7]; decide) (by rw [c7]; decide) (by rw [c7]; rfl) (by decide) ?_
      refine lv_aload_n hx hb dX3_tellGrade_71 rfl (lv_at hl 0 rfl) ?_
      refine lv_iload_n hx hb dX3_tellGrade_72 rfl (lv_at hl 1 rfl) ?_
      refine g_callVi (rest := []) (c_X3_roomIn l D tb ad hj P M r hr V g) rfl rfl gm_X3_roomIn hx hb hml hown hts hC hI (ok_c 0 hr (by decide)) (e_st hr g_us) rfl rfl qm_X3_79 rfl hl.1 rfl ⟨rfl, rfl, by decide, by decide⟩ (Nat.le_of_ble_eq_true rfl) ⟨Nat.zero_le _, Nat.zero_le _⟩ dX3_tellGrade_73 (fun H locs hI => ?_)
      exact g_ir hQ hx hb hr0 hlk hC hI dX3_tellGrade_76 rfl (by unfold q_tellGrade; skip; (first | rw [if_pos c1] | rw [if_neg c1] | skip); (first | rw [if_pos c3] | rw [if_neg c3] | skip); (first | rw [if_pos c4] | rw [if_neg c4] | skip); (first | rw [if_pos c5] | rw [if_neg c5] | skip); (first | rw [if_pos c6] | rw [if_neg c6] | skip); (first | rw [if_pos c7] | rw [if_neg c7] | skip); try with_reducible rfl) rfl rfl
    refine lv_tableOut (tgt := 77) hx hb dX3_tellGrade_11 (by have c3i := k_ti c3 (k := 0) rfl; have c4i := k_ti c4 (k := 1) rfl; have c5i := k_ti c5 (k := 2) rfl; have c6i := k_ti c6 (k := 3) rfl; have c7i := k_ti c7 (k := 4) rfl; omega) (by decide) ?_
    refine lv_ldc (v := (-2000000001)) hx hb hown (hts _ qc_X3_74) dX3_tellGrade_77 ?_
    exact g_ir hQ hx hb hr0 hlk hC hI dX3_tellGrade_79 rfl (by unfold q_tellGrade; skip; (first | rw [if_pos c1] | rw [if_neg c1] | skip); (first | rw [if_pos c3] | rw [if_neg c3] | skip); (first | rw [if_pos c4] | rw [if_neg c4] | skip); (first | rw [if_pos c5] | rw [if_neg c5] | skip); (first | rw [if_pos c6] | rw [if_neg c6] | skip); (first | rw [if_pos c7] | rw [if_neg c7] | skip); try with_reducible rfl) rfl rfl
  · refine lv_if_ne (tgt := 10) hx hb dX3_tellGrade_4 (by decide) (fun c8 => absurd c8 (by decide)) (fun _ => ?_)
    refine lv_ldc (v := (-2000000001)) hx hb hown (hts _ qc_X3_74) dX3_tellGrade_7 ?_
    exact g_ir hQ hx hb hr0 hlk hC hI dX3_tellGrade_9 rfl (by unfold q_tellGrade; skip; (first | rw [if_pos c1] | rw [if_neg c1] | skip); try with_reducible rfl) rfl rfl
def q_tellNumber (V : g_V) (w : Int32) : Int32 :=
  if w = 0 then (q_below V (V 0 7)) else if w = 1 then (q_receiptsOf V 0 2) else if w = 2 then (q_grainOf V 0 2) else if w = 3 then (V 0 6) else if w = 4 then (V 0 7) else if w = 5 then (V 0 8) else if w = 6 then (V 0 9) else if w = 7 then (V 0 10) else if w = 8 then (-2000000001) else if w = 9 then (-2000000001) else if w = 10 then (-2000000001) else if w = 11 then (-2000000001) else if w = 12 then (-2000000001) else if w = 13 then (-2000000001) else if w = 14 then (-2000000001) else if w = 15 then (-2000000001) else if w = 16 then (-2000000001) else if w = 17 then (-2000000001) else if w = 18 then (-2000000001) else if w = 19 then (-2000000001) else if w = 20 then (V 4 0) else if w = 21 then (V 4 1) else if w = 22 then (V 4 2) else if w = 23 then (V 4 3) else (-2000000001)
abbrev rm_X3_tellNumber : Room := { frames := 2, cells := 0, slots := 0, locals := 47 }
set_option maxHeartbeats 800000 in
set_option maxRecDepth 100000 in
theorem c_X3_tellNumber (l : Launch) (D : va_G) (tb : g_T) (ad : g_Ad) (hj : g_inj ad) (P : g_P) (M : g_M) (r : Nat) (hr : r < 6) (V : g_V) (w : Int32) : g_Ci l yX3_tellNumber cX3_tellNumber 2 (some .int) rm_X3_tellNumber D tb ad [.ref (ad r 0), .int w] P (va_up M r V) (q_tellNumber V w) P (va_up M r V) := by
  refine g_go (by decide) (Nat.le_of_ble_eq_true rfl) hj ?_
  intro p e s m below meth c ls H locs R args Q hR0 hQ hx hb hml hr0 hlk hown hts hC hI hl
  subst hR0
  have hown : s.vm.findClass RX3 = some m.cls := hown
  have hl : lv_has ls 2 [(0, .ref (ad r 0)), (1, .int w)] := hl
  refine lv_iload_n hx hb dX3_tellNumber_0 rfl (lv_at hl 1 rfl) ?_
  by_cases c1 : w = 0
  · refine lv_tableIn (tgt := 112) hx hb dX3_tellNumber_1 (by rw [c1]; decide) (by rw [c1]; decide) (by rw [c1]; rfl) (by decide) ?_
    refine lv_aload_n hx hb dX3_tellNumber_112 rfl (lv_at hl 0 rfl) ?_
    refine lv_aload_n hx hb dX3_tellNumber_113 rfl (lv_at hl 0 rfl) ?_
    refine g_get 7 hx hb hts hown hC hI i_X3 (ok_c 0 hr (by decide)) (e_st hr g_us) rfl (by decide) qf_X3_58 rfl rfl dX3_tellNumber_114 ?_
    refine g_callVi (rest := []) (c_X3_receiptsBelow l D tb ad hj P M r hr V (V 0 7)) rfl rfl gm_X3_receiptsBelow hx hb hml hown hts hC hI (ok_c 0 hr (by decide)) (e_st hr g_us) rfl rfl qm_X3_206 rfl hl.1 rfl ⟨rfl, rfl, by decide, by decide⟩ (Nat.le_of_ble_eq_true rfl) ⟨Nat.zero_le _, Nat.zero_le _⟩ dX3_tellNumber_117 (fun H locs hI => ?_)
    exact g_ir hQ hx hb hr0 hlk hC hI dX3_tellNumber_120 rfl (by unfold q_tellNumber; skip; (first | rw [if_pos c1] | rw [if_neg c1] | skip); try with_reducible rfl) rfl rfl
  by_cases c2 : w = 1
  · refine lv_tableIn (tgt := 121) hx hb dX3_tellNumber_1 (by rw [c2]; decide) (by rw [c2]; decide) (by rw [c2]; rfl) (by decide) ?_
    refine lv_aload_n hx hb dX3_tellNumber_121 rfl (lv_at hl 0 rfl) ?_
    refine lv_iconst (v := 0) hx hb dX3_tellNumber_122 (by decide) ?_
    refine lv_iconst (v := 2) hx hb dX3_tellNumber_123 (by decide) ?_
    refine g_callVi (rest := []) (c_X3_receiptsOf l D tb ad hj P M r hr V 0 2) rfl rfl gm_X3_receiptsOf hx hb hml hown hts hC hI (ok_c 0 hr (by decide)) (e_st hr g_us) rfl rfl qm_X3_212 rfl hl.1 rfl ⟨rfl, rfl, by decide, by decide⟩ (Nat.le_of_ble_eq_true rfl) ⟨Nat.zero_le _, Nat.zero_le _⟩ dX3_tellNumber_124 (fun H locs hI => ?_)
    exact g_ir hQ hx hb hr0 hlk hC hI dX3_tellNumber_127 rfl (by unfold q_tellNumber; skip; (first | rw [if_pos c1] | rw [if_neg c1] | skip); (first | rw [if_pos c2] | rw [if_neg c2] | skip); try with_reducible rfl) rfl rfl
  by_cases c3 : w = 2
  · refine lv_tableIn (tgt := 128) hx hb dX3_tellNumber_1 (by rw [c3]; decide) (by rw [c3]; decide) (by rw [c3]; rfl) (by decide) ?_
    refine lv_aload_n hx hb dX3_tellNumber_128 rfl (lv_at hl 0 rfl) ?_
    refine lv_iconst (v := 0) hx hb dX3_tellNumber_129 (by decide) ?_
    refine lv_iconst (v := 2) hx hb dX3_tellNumber_130 (by decide) ?_
    refine g_callVi (rest := []) (c_X3_grainOf l D tb ad hj P M r hr V 0 2) rfl rfl gm_X3_grainOf hx hb hml hown hts hC hI (ok_c 0 hr (by decide)) (e_st hr g_us) rfl rfl qm_X3_209 rfl hl.1 rfl ⟨rfl, rfl, by decide, by decide⟩ (Nat.le_of_ble_eq_true rfl) ⟨Nat.zero_le _, Nat.zero_le _⟩ dX3_tellNumber_131 (fun H locs hI => ?_)
    exact g_ir hQ hx hb hr0 hlk hC hI dX3_tellNumber_134 rfl (by unfold q_tellNumber; skip; (first | rw [if_pos c1] | rw [if_neg c1] | skip); (first | rw [if_pos c2] | rw [if_neg c2] | skip); (first | rw [if_pos c3] | rw [if_neg c3] | skip); try with_reducible rfl) rfl rfl
  by_cases c4 : w = 3
  · refine lv_tableIn (tgt := 135) hx hb dX3_tellNumber_1 (by rw [c4]; decide) (by rw [c4]; decide) (by rw [c4]; rfl) (by decide) ?_
    refine lv_aload_n hx hb dX3_tellNumber_135 rfl (lv_at hl 0 rfl) ?_
    refine g_get 6 hx hb hts hown hC hI i_X3 (ok_c 0 hr (by decide)) (e_st hr g_us) rfl (by decide) qf_X3_55 rfl rfl dX3_tellNumber_136 ?_
    exact g_ir hQ hx hb hr0 hlk hC hI dX3_tellNumber_139 rfl (by unfold q_tellNumber; skip; (first | rw [if_pos c1] | rw [if_neg c1] | skip); (first | rw [if_pos c2] | rw [if_neg c2] | skip); (first | rw [if_pos c3] | rw [if_neg c3] | skip); (first | rw [if_pos c4] | rw [if_neg c4] | skip); try with_reducible rfl) rfl rfl
  by_cases c5 : w = 4
  · refine lv_tableIn (tgt := 140) hx hb dX3_tellNumber_1 (by rw [c5]; decide) (by rw [c5]; decide) (by rw [c5]; rfl) (by decide) ?_
    refine lv_aload_n hx hb dX3_tellNumber_140 rfl (lv_at hl 0 rfl) ?_
    refine g_get 7 hx hb hts hown hC hI i_X3 (ok_c 0 hr (by decide)) (e_st hr g_us) rfl (by decide) qf_X3_58 rfl rfl dX3_tellNumber_141 ?_
    exact g_ir hQ hx hb hr0 hlk hC hI dX3_tellNumber_144 rfl (by unfold q_tellNumber; skip; (first | rw [if_pos c1] | rw [if_neg c1] | skip); (first | rw [if_pos c2] | rw [if_neg c2] | skip); (first | rw [if_pos c3] | rw [if_neg c3] | skip); (first | rw [if_pos c4] | rw [if_neg c4] | skip); (first | rw [if_pos c5] | rw [if_neg c5] | skip); try with_reducible rfl) rfl rfl
  by_cases c6 : w = 5
  · refine lv_tableIn (tgt := 145) hx hb dX3_tellNumber_1 (by rw [c6]; decide) (by rw [c6]; decide) (by rw [c6]; rfl) (by decide) ?_
    refine lv_aload_n hx hb dX3_tellNumber_145 rfl (lv_at hl 0 rfl) ?_
    refine g_get 8 hx hb hts hown hC hI i_X3 (ok_c 0 hr (by decide)) (e_st hr g_us) rfl (by decide) qf_X3_61 rfl rfl dX3_tellNumber_146 ?_
    exact g_ir hQ hx hb hr0 hlk hC hI dX3_tellNumber_149 rfl (by unfold q_tellNumber; skip; (first | rw [if_pos c1] | rw [if_neg c1] | skip); (first | rw [if_pos c2] | rw [if_neg c2] | skip); (first | rw [if_pos c3] | rw [if_neg c3] | skip); (first | rw [if_pos c4] | rw [if_neg c4] | skip); (first | rw [if_pos c5] | rw [if_neg c5] | skip); (first | rw [if_pos c6] | rw [if_neg c6] | skip); try with_reducible rfl) rfl rfl
  by_cases c7 : w = 6
  · refine lv_tableIn (tgt := 150) hx hb dX3_tellNumber_1 (by rw [c7]; decide) (by rw [c7]; decide) (by rw [c7]; rfl) (by decide) ?_
    refine lv_aload_n hx hb dX3_tellNumber_150 rfl (lv_at hl 0 rfl) ?_
    refine g_get 9 hx hb hts hown hC hI i_X3 (ok_c 0 hr (by decide)) (e_st hr g_us) rfl (by decide) qf_X3_64 rfl rfl dX3_tellNumber_151 ?_
    exact g_ir hQ hx hb hr0 hlk hC hI dX3_tellNumber_154 rfl (by unfold q_tellNumber; skip; (first | rw [if_pos c1] | rw [if_neg c1] | skip); (first | rw [if_pos c2] | rw [if_neg c2] | skip); (first | rw [if_pos c3] | rw [if_neg c3] | skip); (first | rw [if_pos c4] | rw [if_neg c4] | skip); (first | rw [if_pos c5] | rw [if_neg c5] | skip); (first | rw [if_pos c6] | rw [if_neg c6] | skip); (first | rw [if_pos c7] | rw [if_neg c7] | skip); try with_reducible rfl) rfl rfl
  by_cases c8 : w = 7
  · refine lv_tableIn (tgt := 155) hx hb dX3_tellNumber_1 (by rw [c8]; decide) (by rw [c8]; decide) (by rw [c8]; rfl) (by decide) ?_
    refine lv_aload_n hx hb dX3_tellNumber_155 rfl (lv_at hl 0 rfl) ?_
    refine g_get 10 hx hb hts hown hC hI i_X3 (ok_c 0 hr (by decide)) (e_st hr g_us) rfl (by decide) qf_X3_67 rfl rfl dX3_tellNumber_156 ?_
    exact g_ir hQ hx hb hr0 hlk hC hI dX3_tellNumber_159 rfl (by unfold q_tellNumber; skip; (first | rw [if_pos c1] | rw [if_neg c1] | skip); (first | rw [if_pos c2] | rw [if_neg c2] | skip); (first | rw [if_pos c3] | rw [if_neg c3] | skip); (first | rw [if_pos c4] | rw [if_neg c4] | skip); (first | rw [if_pos c5] | rw [if_neg c5] | skip); (first | rw [if_pos c6] | rw [if_neg c6] | skip); (first | rw [if_pos c7] | rw [if_neg c7] | skip); (first | rw [if_pos c8] | rw [if_neg c8] | skip); try with_reducible rfl) rfl rfl
  by_cases c9 : w = 8
  · refine lv_tableIn (tgt := 188) hx hb dX3_tellNumber_1 (by rw [c9]; decide) (by rw [c9]; decide) (by rw [c9]; rfl) (by decide) ?_
    refine lv_ldc (v := (-2000000001)) hx hb hown (hts _ qc_X3_74) dX3_tellNumber_188 ?_
    exact g_ir hQ hx hb hr0 hlk hC hI dX3_tellNumber_190 rfl (by unfold q_tellNumber; skip; (first | rw [if_pos c1] | rw [if_neg c1] | skip); (first | rw [if_pos c2] | rw [if_neg c2] | skip); (first | rw [if_pos c3] | rw [if_neg c3] | skip); (first | rw [if_pos c4] | rw [if_neg c4] | skip); (first | rw [if_pos c5] | rw [if_neg c5] | skip); (first | rw [if_pos c6] | rw [if_neg c6] | skip); (first | rw [if_pos c7] | rw [if_neg c7] | skip); (first | rw [if_pos c8] | rw [if_neg c8] | skip); (first | rw [if_pos c9] | rw [if_neg c9] | skip); try with_reducible rfl) rfl rfl
  by_cases c10 : w = 9
  · refine lv_tableIn (tgt := 188) hx hb dX3_tellNumber_1 (by rw [c10]; decide) (by rw [c10]; decide) (by rw [c10]; rfl) (by decide) ?_
    refine lv_ldc (v := (-2000000001)) hx hb hown (hts _ qc_X3_74) dX3_tellNumber_188 ?_
    exact g_ir hQ hx hb hr0 hlk hC hI dX3_tellNumber_190 rfl (by unfold q_tellNumber; skip; (first | rw [if_pos c1] | rw [if_neg c1] | skip); (first | rw [if_pos c2] | rw [if_neg c2] | skip); (first | rw [if_pos c3] | rw [if_neg c3] | skip); (first | rw [if_pos c4] | rw [if_neg c4] | skip); (first | rw [if_pos c5] | rw [if_neg c5] | skip); (first | rw [if_pos c6] | rw [if_neg c6] | skip); (first | rw [if_pos c7] | rw [if_neg c7] | skip); (first | rw [if_pos c8] | rw [if_neg c8] | skip); (first | rw [if_pos c9] | rw [if_neg c9] | skip); (first | rw [if_pos c10] | rw [if_neg c10] | skip); try with_reducible rfl) rfl rfl
  by_cases c11 : w = 10
  · refine lv_tableIn (tgt := 188) hx hb dX3_tellNumber_1 (by rw [c11]; decide) (by rw [c11]; decide) (by rw [c11]; rfl) (by decide) ?_
    refine lv_ldc (v := (-2000000001)) hx hb hown (hts _ qc_X3_74) dX3_tellNumber_188 ?_
    exact g_ir hQ hx hb hr0 hlk hC hI dX3_tellNumber_190 rfl (by unfold q_tellNumber; skip; (first | rw [if_pos c1] | rw [if_neg c1] | skip); (first | rw [if_pos c2] | rw [if_neg c2] | skip); (first | rw [if_pos c3] | rw [if_neg c3] | skip); (first | rw [if_pos c4] | rw [if_neg c4] | skip); (first | rw [if_pos c5] | rw [if_neg c5] | skip); (first | rw [if_pos c6] | rw [if_neg c6] | skip); (first | rw [if_pos c7] | rw [if_neg c7] | skip); (first | rw [if_pos c8] | rw [if_neg c8] | skip); (first | rw [if_pos c9] | rw [if_neg c9] | skip); (first | rw [if_pos c10] | rw [if_neg c10] | skip); (first | rw [if_pos c11] | rw [if_neg c11] | skip); try with_reducible rfl) rfl rfl
  by_cases c12 : w = 11
  · refine lv_tableIn (tgt := 188) hx hb dX3_tellNumber_1 (by rw [c12]; decide) (by rw [c12]; decide) (by rw [c12]; rfl) (by decide) ?_
    refine lv_ldc (v := (-2000000001)) hx hb hown (hts _ qc_X3_74) dX3_tellNumber_188 ?_
    exact g_ir hQ hx hb hr0 hlk hC hI dX3_tellNumber_190 rfl (by unfold q_tellNumber; skip; (first | rw [if_pos c1] | rw [if_neg c1] | skip); (first | rw [if_pos c2] | rw [if_neg c2] | skip); (first | rw [if_pos c3] | rw [if_neg c3] | skip); (first | rw [if_pos c4] | rw [if_neg c4] | skip); (first | rw [if_pos c5] | rw [if_neg c5] | skip); (first | rw [if_pos c6] | rw [if_neg c6] | skip); (first | rw [if_pos c7] | rw [if_neg c7] | skip); (first | rw [if_pos c8] | rw [if_neg c8] | skip); (first | rw [if_pos c9] | rw [if_neg c9] | skip); (first | rw [if_pos c10] | rw [if_neg c10] | skip); (first | rw [if_pos c11] | rw [if_neg c11] | skip); (first | rw [if_pos c12] | rw [if_neg c12] | skip); try with_reducible rfl) rfl rfl
  by_cases c13 : w = 12
  · refine lv_tableIn (tgt := 188) hx hb dX3_tellNumber_1 (by rw [c13]; decide) (by rw [c13]; decide) (by rw [c13]; rfl) (by decide) ?_
    refine lv_ldc (v := (-2000000001)) hx hb hown (hts _ qc_X3_74) dX3_tellNumber_188 ?_
    exact g_ir hQ hx hb hr0 hlk hC hI dX3_tellNumber_190 rfl (by unfold q_tellNumber; skip; (first | rw [if_pos c1] | rw [if_neg c1] | skip); (first | rw [if_pos c2] | rw [if_neg c2] | skip); (first | rw [if_pos c3] | rw [if_neg c3] | skip); (first | rw [if_pos c4] | rw [if_neg c4] | skip); (first | rw [if_pos c5] | rw [if_neg c5] | skip); (first | rw [if_pos c6] | rw [if_neg c6] | skip); (first | rw [if_pos c7] | rw [if_neg c7] | skip); (first | rw [if_pos c8] | rw [if_neg c8] | skip); (first | rw [if_pos c9] | rw [if_neg c9] | skip); (first | rw [if_pos c10] | rw [if_neg c10] | skip); (first | rw [if_pos c11] | rw [if_neg c11] | skip); (first | rw [if_pos c12] | rw [if_neg c12] | skip); (first | rw [if_pos c13] | rw [if_neg c13] | skip); try with_reducible rfl) rfl rfl
  by_cases c14 : w = 13
  · refine lv_tableIn (tgt := 188) hx hb dX3_tellNumber_1 (by rw [c14]; decide) (by rw [c14]; decide) (by rw [c14]; rfl) (by decide) ?_
    refine lv_ldc (v := (-2000000001)) hx hb hown (hts _ qc_X3_74) dX3_tellNumber_188 ?_
    exact g_ir hQ hx hb hr0 hlk hC hI dX3_tellNumber_190 rfl (by unfold q_tellNumber; skip; (first | rw [if_pos c1] | rw [if_neg c1] | skip); (first | rw [if_pos c2] | rw [if_neg c2] | skip); (first | rw [if_pos c3] | rw [if_neg c3] | skip); (first | rw [if_pos c4] | rw [if_neg c4] | skip); (first | rw [if_pos c5] | rw [if_neg c5] | skip); (first | rw [if_pos c6] | rw [if_neg c6] | skip); (first | rw [if_pos c7] | rw [if_neg c7] | skip); (first | rw [if_pos c8] | rw [if_neg c8] | skip); (first | rw [if_pos c9] | rw [if_neg c9] | skip); (first | rw [if_pos c10] | rw [if_neg c10] | skip); (first | rw [if_pos c11] | rw [if_neg c11] | skip); (first | rw [if_pos c12] | rw [if_neg c12] | skip); (first | rw [if_pos c13] | rw [if_neg c13] | skip); (first | rw [if_pos c14] | rw [if_neg c14] | skip); try with_reducible rfl) rfl rfl
  by_cases c15 : w = 14
  · refine lv_tableIn (tgt := 188) hx hb dX3_tellNumber_1 (by rw [c15]; decide) (by rw [c15]; decide) (by rw [c15]; rfl) (by decide) ?_
    refine lv_ldc (v := (-2000000001)) hx hb hown (hts _ qc_X3_74) dX3_tellNumber_188 ?_
    exact g_ir hQ hx hb hr0 hlk hC hI dX3_tellNumber_190 rfl (by unfold q_tellNumber; skip; (first | rw [if_pos c1] | rw [if_neg c1] | skip); (first | rw [if_pos c2] | rw [if_neg c2] | skip); (first | rw [if_pos c3] | rw [if_neg c3] | skip); (first | rw [if_pos c4] | rw [if_neg c4] | skip); (first | rw [if_pos c5] | rw [if_neg c5] | skip); (first | rw [if_pos c6] | rw [if_neg c6] | skip); (first | rw [if_pos c7] | rw [if_neg c7] | skip); (first | rw [if_pos c8] | rw [if_neg c8] | skip); (first | rw [if_pos c9] | rw [if_neg c9] | skip); (first | rw [if_pos c10] | rw [if_neg c10] | skip); (first | rw [if_pos c11] | rw [if_neg c11] | skip); (first | rw [if_pos c12] | rw [if_neg c12] | skip); (first | rw [if_pos c13] | rw [if_neg c13] | skip); (first | rw [if_pos c14] | rw [if_neg c14] | skip); (first | rw [if_pos c15] | rw [if_neg c15] | skip); try with_reducible rfl) rfl rfl
  by_cases c16 : w = 15
  · refine lv_tableIn (tgt := 188) hx hb dX3_tellNumber_1 (by rw [c16]; decide) (by rw [c16]; decide) (by rw [c16]; rfl) (by decide) ?_
    refine lv_ldc (v := (-2000000001)) hx hb hown (hts _ qc_X3_74) dX3_tellNumber_188 ?_
    exact g_ir hQ hx hb hr0 hlk hC hI dX3_tellNumber_190 rfl (by unfold q_tellNumber; skip; (first | rw [if_pos c1] | rw [if_neg c1] | skip); (first | rw [if_pos c2] | rw [if_neg c2] | skip); (first | rw [if_pos c3] | rw [if_neg c3] | skip); (first | rw [if_pos c4] | rw [if_neg c4] | skip); (first | rw [if_pos c5] | rw [if_neg c5] | skip); (first | rw [if_pos c6] | rw [if_neg c6] | skip); (first | rw [if_pos c7] | rw [if_neg c7] | skip); (first | rw [if_pos c8] | rw [if_neg c8] | skip); (first | rw [if_pos c9] | rw [if_neg c9] | skip); (first | rw [if_pos c10] | rw [if_neg c10] | skip); (first | rw [if_pos c11] | rw [if_neg c11] | skip); (first | rw [if_pos c12] | rw [if_neg c12] | skip); (first | rw [if_pos c13] | rw [if_neg c13] | skip); (first | rw [if_pos c14] | rw [if_neg c14] | skip); (first | rw [if_pos c15] | rw [if_neg c15] | skip); (first | rw [if_pos c16] | rw [if_neg c16] | skip); try with_reducible rfl) rfl rfl
  by_cases c17 : w = 16
  · refine lv_tableIn (tgt := 188) hx hb dX3_tellNumber_1 (by rw [c17]; decide) (by rw [c17]; decide) (by rw [c17]; rfl) (by decide) ?_
    refine lv_ldc (v := (-2000000001)) hx hb hown (hts _ qc_X3_74) dX3_tellNumber_188 ?_
    exact g_ir hQ hx hb hr0 hlk hC hI dX3_tellNumber_190 rfl (by unfold q_tellNumber; skip; (first | rw [if_pos c1] | rw [if_neg c1] | skip); (first | rw [if_pos c2] | rw [if_neg c2] | skip); (first | rw [if_pos c3] | rw [if_neg c3] | skip); (first | rw [if_pos c4] | rw [if_neg c4] | skip); (first | rw [if_pos c5] | rw [if_neg c5] | skip); (first | rw [if_pos c6] | rw [if_neg c6] | skip); (first | rw [if_pos c7] | rw [if_neg c7] | skip); (first | rw [if_pos c8] | rw [if_neg c8] | skip); (first | rw [if_pos c9] | rw [if_neg c9] | skip); (first | rw [if_pos c10] | rw [if_neg c10] | skip); (first | rw [if_pos c11] | rw [if_neg c11] | skip); (first | rw [if_pos c12] | rw [if_neg c12] | skip); (first | rw [if_pos c13] | rw [if_neg c13] | skip); (first | rw [if_pos c14] | rw [if_neg c14] | skip); (first | rw [if_pos c15] | rw [if_neg c15] | skip); (first | rw [if_pos c16] | rw [if_neg c16] | skip); (first | rw [if_pos c17] | rw [if_neg c17] | skip); try with_reducible rfl) rfl rfl
  by_cases c18 : w = 17
  · refine lv_tableIn (tgt := 188) hx hb dX3_tellNumber_1 (by rw [c18]; decide) (by rw [c18]; decide) (by rw [c18]; rfl) (by decide) ?_
    refine lv_ldc (v := (-2000000001)) hx hb hown (hts _ qc_X3_74) dX3_tellNumber_188 ?_
    exact g_ir hQ hx hb hr0 hlk hC hI dX3_tellNumber_190 rfl (by unfold q_tellNumber; skip; (first | rw [if_pos c1] | rw [if_neg c1] | skip); (first | rw [if_pos c2] | rw [if_neg c2] | skip); (first | rw [if_pos c3] | rw [if_neg c3] | skip); (first | rw [if_pos c4] | rw [if_neg c4] | skip); (first | rw [if_pos c5] | rw [if_neg c5] | skip); (first | rw [if_pos c6] | rw [if_neg c6] | skip); (first | rw [if_pos c7] | rw [if_neg c7] | skip); (first | rw [if_pos c8] | rw [if_neg c8] | skip); (first | rw [if_pos c9] | rw [if_neg c9] | skip); (first | rw [if_pos c10] | rw [if_neg c10] | skip); (first | rw [if_pos c11] | rw [if_neg c11] | skip); (first | rw [if_pos c12] | rw [if_neg c12] | skip); (first | rw [if_pos c13] | rw [if_neg c13] | skip); (first | rw [if_pos c14] | rw [if_neg c14] | skip); (first | rw [if_pos c15] | rw [if_neg c15] | skip); (first | rw [if_pos c16] | rw [if_neg c16] | skip); (first | rw [if_pos c17] | rw [if_neg c17] | skip); (first | rw [if_pos c18] | rw [if_neg c18] | skip); try with_reducible rfl) rfl rfl
  by_cases c19 : w = 18
  · refine lv_tableIn (tgt := 188) hx hb dX3_tellNumber_1 (by rw [c19]; decide) (by rw [c19]; decide) (by rw [c19]; rfl) (by decide) ?_
    refine lv_ldc (v := (-2000000001)) hx hb hown (hts _ qc_X3_74) dX3_tellNumber_188 ?_
    exact g_ir hQ hx hb hr0 hlk hC hI dX3_tellNumber_190 rfl (by unfold q_tellNumber; skip; (first | rw [if_pos c1] | rw [if_neg c1] | skip); (first | rw [if_pos c2] | rw [if_neg c2] | skip); (first | rw [if_pos c3] | rw [if_neg c3] | skip); (first | rw [if_pos c4] | rw [if_neg c4] | skip); (first | rw [if_pos c5] | rw [if_neg c5] | skip); (first | rw [if_pos c6] | rw [if_neg c6] | skip); (first | rw [if_pos c7] | rw [if_neg c7] | skip); (first | rw [if_pos c8] | rw [if_neg c8] | skip); (first | rw [if_pos c9] | rw [if_neg c9] | skip); (first | rw [if_pos c10] | rw [if_neg c10] | skip); (first | rw [if_pos c11] | rw [if_neg c11] | skip); (first | rw [if_pos c12] | rw [if_neg c12] | skip); (first | rw [if_pos c13] | rw [if_neg c13] | skip); (first | rw [if_pos c14] | rw [if_neg c14] | skip); (first | rw [if_pos c15] | rw [if_neg c15] | skip); (first | rw [if_pos c16] | rw [if_neg c16] | skip); (first | rw [if_pos c17] | rw [if_neg c17] | skip); (first | rw [if_pos c18] | rw [if_neg c18] | skip); (first | rw [if_pos c19] | rw [if_neg c19] | skip); try with_reducible rfl) rfl rfl
  by_cases c20 : w = 19
  · refine lv_tableIn (tgt := 188) hx hb dX3_tellNumber_1 (by rw [c20]; decide) (by rw [c20]; decide) (by rw [c20]; rfl) (by decide) ?_
    refine lv_ldc (v := (-2000000001)) hx hb hown (hts _ qc_X3_74) dX3_tellNumber_188 ?_
    exact g_ir hQ hx hb hr0 hlk hC hI dX3_tellNumber_190 rfl (by unfold q_tellNumber; skip; (first | rw [if_pos c1] | rw [if_neg c1] | skip); (first | rw [if_pos c2] | rw [if_neg c2] | skip); (first | rw [if_pos c3] | rw [if_neg c3] | skip); (first | rw [if_pos c4] | rw [if_neg c4] | skip); (first | rw [if_pos c5] | rw [if_neg c5] | skip); (first | rw [if_pos c6] | rw [if_neg c6] | skip); (first | rw [if_pos c7] | rw [if_neg c7] | skip); (first | rw [if_pos c8] | rw [if_neg c8] | skip); (first | rw [if_pos c9] | rw [if_neg c9] | skip); (first | rw [if_pos c10] | rw [if_neg c10] | skip); (first | rw [if_pos c11] | rw [if_neg c11] | skip); (first | rw [if_pos c12] | rw [if_neg c12] | skip); (first | rw [if_pos c13] | rw [if_neg c13] | skip); (first | rw [if_pos c14] | rw [if_neg c14] | skip); (first | rw [if_pos c15] | rw [if_neg c15] | skip); (first | rw [if_pos c16] | rw [if_neg c16] | skip); (first | rw [if_pos c17] | rw [if_neg c17] | skip); (first | rw [if_pos c18] | rw [if_neg c18] | skip); (first | rw [if_pos c19] | rw [if_neg c19] | skip); (first | rw [if_pos c20] | rw [if_neg c20] | skip); try with_reducible rfl) rfl rfl
  by_cases c21 : w = 20
  · refine lv_tableIn (tgt := 160) hx hb dX3_tellNumber_1 (by rw [c21]; decide) (by rw [c21]; decide) (by rw [c21]; rfl) (by decide) ?_
    refine lv_aload_n hx hb dX3_tellNumber_160 rfl (lv_at hl 0 rfl) ?_
    refine g_get 3 hx hb hts hown hC hI i_X3 (ok_c 0 hr (by decide)) (e_st hr g_us) rfl (by decide) qf_X3_27 rfl rfl dX3_tellNumber_161 ?_
    refine lv_iconst (v := 0) hx hb dX3_tellNumber_164 (by decide) ?_
    refine g_iald 0 hx hb hC hI (ok_c 4 hr (by decide)) (e_se hr g_us) (by unfold vp_in; decide) rfl dX3_tellNumber_165 ?_
    exact g_ir hQ hx hb hr0 hlk hC hI dX3_tellNumber_166 rfl (by unfold q_tellNumber; skip; (first | rw [if_pos c1] | rw [if_neg c1] | skip); (first | rw [if_pos c2] | rw [if_neg c2] | skip); (first | rw [if_pos c3] | rw [if_neg c3] | skip); (first | rw [if_pos c4] | rw [if_neg c4] | skip); (first | rw [if_pos c5] | rw [if_neg c5] | skip); (first | rw [if_pos c6] | rw [if_neg c6] | skip); (first | rw [if_pos c7] | rw [if_neg c7] | skip); (first | rw [if_pos c8] | rw [if_neg c8] | skip); (first | rw [if_pos c9] | rw [if_neg c9] | skip); (first | rw [if_pos c10] | rw [if_neg c10] | skip); (first | rw [if_pos c11] | rw [if_neg c11] | skip); (first | rw [if_pos c12] | rw [if_neg c12] | skip); (first | rw [if_pos c13] | rw [if_neg c13] | skip); (first | rw [if_pos c14] | rw [if_neg c14] | skip); (first | rw [if_pos c15] | rw [if_neg c15] | skip); (first | rw [if_pos c16] | rw [if_neg c16] | skip); (first | rw [if_pos c17] | rw [if_neg c17] | skip); (first | rw [if_pos c18] | rw [if_neg c18] | skip); (first | rw [if_pos c19] | rw [if_neg c19] | skip); (first | rw [if_pos c20] | rw [if_neg c20] | skip); (first | rw [if_pos c21] | rw [if_neg c21] | skip); try with_reducible rfl) rfl rfl
  by_cases c22 : w = 21
  · refine lv_tableIn (tgt := 167) hx hb dX3_tellNumber_1 (by rw [c22]; decide) (by rw [c22]; decide) (by rw [c22]; rfl) (by decide) ?_
    refine lv_aload_n hx hb dX3_tellNumber_167 rfl (lv_at hl 0 rfl) ?_
    refine g_get 3 hx hb hts hown hC hI i_X3 (ok_c 0 hr (by decide)) (e_st hr g_us) rfl (by decide) qf_X3_27 rfl rfl dX3_tellNumber_168 ?_
    refine lv_iconst (v := 1) hx hb dX3_tellNumber_171 (by decide) ?_
    refine g_iald 1 hx hb hC hI (ok_c 4 hr (by decide)) (e_se hr g_us) (by unfold vp_in; decide) rfl dX3_tellNumber_172 ?_
    exact g_ir hQ hx hb hr0 hlk hC hI dX3_tellNumber_173 rfl (by unfold q_tellNumber; skip; (first | rw [if_pos c1] | rw [if_neg c1] | skip); (first | rw [if_pos c2] | rw [if_neg c2] | skip); (first | rw [if_pos c3] | rw [if_neg c3] | skip); (first | rw [if_pos c4] | rw [if_neg c4] | skip); (first | rw [if_pos c5] | rw [if_neg c5] | skip); (first | rw [if_pos c6] | rw [if_neg c6] | skip); (first | rw [if_pos c7] | rw [if_neg c7] | skip); (first | rw [if_pos c8] | rw [if_neg c8] | skip); (first | rw [if_pos c9] | rw [if_neg c9] | skip); (first | rw [if_pos c10] | rw [if_neg c10] | skip); (first | rw [if_pos c11] | rw [if_neg c11] | skip); (first | rw [if_pos c12] | rw [if_neg c12] | skip); (first | rw [if_pos c13] | rw [if_neg c13] | skip); (first | rw [if_pos c14] | rw [if_neg c14] | skip); (first | rw [if_pos c15] | rw [if_neg c15] | skip); (first | rw [if_pos c16] | rw [if_neg c16] | skip); (first | rw [if_pos c17] | rw [if_neg c17] | skip); (first | rw [if_pos c18] | rw [if_neg c18] | skip); (first | rw [if_pos c19] | rw [if_neg c19] | skip); (first | rw [if_pos c20] | rw [if_neg c20] | skip); (first | rw [if_pos c21] | rw [if_neg c21] | skip); (first | rw [if_pos c22] | rw [if_neg c22] | skip); try with_reducible rfl) rfl rfl
  by_cases c23 : w = 22
  · refine lv_tableIn (tgt := 174) hx hb dX3_tellNumber_1 (by rw [c23]; decide) (by rw [c23]; decide) (by rw [c23]; rfl) (by decide) ?_
    refine lv_aload_n hx hb dX3_tellNumber_174 rfl (lv_at hl 0 rfl) ?_
    refine g_get 3 hx hb hts hown hC hI i_X3 (ok_c 0 hr (by decide)) (e_st hr g_us) rfl (by decide) qf_X3_27 rfl rfl dX3_tellNumber_175 ?_
    refine lv_iconst (v := 2) hx hb dX3_tellNumber_178 (by decide) ?_
    refine g_iald 2 hx hb hC hI (ok_c 4 hr (by decide)) (e_se hr g_us) (by unfold vp_in; decide) rfl dX3_tellNumber_179 ?_
    exact g_ir hQ hx hb hr0 hlk hC hI dX3_tellNumber_180 rfl (by unfold q_tellNumber; skip; (first | rw [if_pos c1] | rw [if_neg c1] | skip); (first | rw [if_pos c2] | rw [if_neg c2] | skip); (first | rw [if_pos c3] | rw [if_neg c3] | skip); (first | rw [if_pos c4] | rw [if_neg c4] | skip); (first | rw [if_pos c5] | rw [if_neg c5] | skip); (first | rw [if_pos c6] | rw [if_neg c6] | skip); (first | rw [if_pos c7] | rw [if_neg c7] | skip); (first | rw [if_pos c8] | rw [if_neg c8] | skip); (first | rw [if_pos c9] | rw [if_neg c9] | skip); (first | rw [if_pos c10] | rw [if_neg c10] | skip); (first | rw [if_pos c11] | rw [if_neg c11] | skip); (first | rw [if_pos c12] | rw [if_neg c12] | skip); (first | rw [if_pos c13] | rw [if_neg c13] | skip); (first | rw [if_pos c14] | rw [if_neg c14] | skip); (first | rw [if_pos c15] | rw [if_neg c15] | skip); (first | rw [if_pos c16] | rw [if_neg c16] | skip); (first | rw [if_pos c17] | rw [if_neg c17] | skip); (first | rw [if_pos c18] | rw [if_neg c18] | skip); (first | rw [if_pos c19] | rw [if_neg c19] | skip); (first | rw [if_pos c20] | rw [if_neg c20] | skip); (first | rw [if_pos c21] | rw [if_neg c21] | skip); (first | rw [if_pos c22] | rw [if_neg c22] | skip); (first | rw [if_pos c23] | rw [if_neg c23] | skip); try with_reducible rfl) rfl rfl
  by_cases c24 : w = 23
  · refine lv_tableIn (tgt := 181) hx hb dX3_tellNumber_1 (by rw [c24]; decide) (by rw [c24]; decide) (by rw [c24]; rfl) (by decide) ?_
    refine lv_aload_n hx hb dX3_tellNumber_181 rfl (lv_at hl 0 rfl) ?_
    refine g_get 3 hx hb hts hown hC hI i_X3 (ok_c 0 hr (by decide)) (e_st hr g_us) rfl (by decide) qf_X3_27 rfl rfl dX3_tellNumber_182 ?_
    refine lv_iconst (v := 3) hx hb dX3_tellNumber_185 (by decide) ?_
    refine g_iald 3 hx hb hC hI (ok_c 4 hr (by decide)) (e_se hr g_us) (by unfold vp_in; decide) rfl dX3_tellNumber_186 ?_
    exact g_ir hQ hx hb hr0 hlk hC hI dX3_tellNumber_187 rfl (by unfold q_tellNumber; skip; (first | rw [if_pos c1] | rw [if_neg c1] | skip); (first | rw [if_pos c2] | rw [if_neg c2] | skip); (first | rw [if_pos c3] | rw [if_neg c3] | skip); (first | rw [if_pos c4] | rw [if_neg c4] | skip); (first | rw [if_pos c5] | rw [if_neg c5] | skip); (first | rw [if_pos c6] | rw [if_neg c6] | skip); (first | rw [if_pos c7] | rw [if_neg c7] | skip); (first | rw [if_pos c8] | rw [if_neg c8] | skip); (first | rw [if_pos c9] | rw [if_neg c9] | skip); (first | rw [if_pos c10] | rw [if_neg c10] | skip); (first | rw [if_pos c11] | rw [if_neg c11] | skip); (first | rw [if_pos c12] | rw [if_neg c12] | skip); (first | rw [if_pos c13] | rw [if_neg c13] | skip); (first | rw [if_pos c14] | rw [if_neg c14] | skip); (first | rw [if_pos c15] | rw [if_neg c15] | skip); (first | rw [if_pos c16] | rw [if_neg c16] | skip); (first | rw [if_pos c17] | rw [if_neg c17] | skip); (first | rw [if_pos c18] | rw [if_neg c18] | skip); (first | rw [if_pos c19] | rw [if_neg c19] | skip); (first | rw [if_pos c20] | rw [if_neg c20] | skip); (first | rw [if_pos c21] | rw [if_neg c21] | skip); (first | rw [if_pos c22] | rw [if_neg c22] | skip); (first | rw [if_pos c23] | rw [if_neg c23] | skip); (first | rw [if_pos c24] | rw [if_neg c24] | skip); try with_reducible rfl) rfl rfl
  refine lv_tableOut (tgt := 188) hx hb dX3_tellNumber_1 (by have c1i := k_ti c1 (k := 0) rfl; have c2i := k_ti c2 (k := 1) rfl; have c3i := k_ti c3 (k := 2) rfl; have c4i := k_ti c4 (k := 3) rfl; have c5i := k_ti c5 (k := 4) rfl; have c6i := k_ti c6 (k := 5) rfl; have c7i := k_ti c7 (k := 6) rfl; have c8i := k_ti c8 (k := 7) rfl; have c9i := k_ti c9 (k := 8) rfl; have c10i := k_ti c10 (k := 9) rfl; have c11i := k_ti c11 (k := 10) rfl; have c12i := k_ti c12 (k := 11) rfl; have c13i := k_ti c13 (k := 12) rfl; have c14i := k_ti c14 (k := 13) rfl; have c15i := k_ti c15 (k := 14) rfl; have c16i := k_ti c16 (k := 15) rfl; have c17i := k_ti c17 (k := 16) rfl; have c18i := k_ti c18 (k := 17) rfl; have c19i := k_ti c19 (k := 18) rfl; have c20i := k_ti c20 (k := 19) rfl; have c21i := k_ti c21 (k := 20) rfl; have c22i := k_ti c22 (k := 21) rfl; have c23i := k_ti c23 (k := 22) rfl; have c24i := k_ti c24 (k := 23) rfl; omega) (by decide) ?_
  refine lv_ldc (v := (-2000000001)) hx hb hown (hts _ qc_X3_74) dX3_tellNumber_188 ?_
  exact g_ir hQ hx hb hr0 hlk hC hI dX3_tellNumber_190 rfl (by unfold q_tellNumber; skip; (first | rw [if_pos c1] | rw [if_neg c1] | skip); (first | rw [if_pos c2] | rw [if_neg c2] | skip); (first | rw [if_pos c3] | rw [if_neg c3] | skip); (first | rw [if_pos c4] | rw [if_neg c4] | skip); (first | rw [if_pos c5] | rw [if_neg c5] | skip); (first | rw [if_pos c6] | rw [if_neg c6] | skip); (first | rw [if_pos c7] | rw [if_neg c7] | skip); (first | rw [if_pos c8] | rw [if_neg c8] | skip); (first | rw [if_pos c9] | rw [if_neg c9] | skip); (first | rw [if_pos c10] | rw [if_neg c10] | skip); (first | rw [if_pos c11] | rw [if_neg c11] | skip); (first | rw [if_pos c12] | rw [if_neg c12] | skip); (first | rw [if_pos c13] | rw [if_neg c13] | skip); (first | rw [if_pos c14] | rw [if_neg c14] | skip); (first | rw [if_pos c15] | rw [if_neg c15] | skip); (first | rw [if_pos c16] | rw [if_neg c16] | skip); (first | rw [if_pos c17] | rw [if_neg c17] | skip); (first | rw [if_pos c18] | rw [if_neg c18] | skip); (first | rw [if_pos c19] | rw [if_neg c19] | skip); (first | rw [if_pos c20] | rw [if_neg c20] | skip); (first | rw [if_pos c21] | rw [if_neg c21] | skip); (first | rw [if_pos c22] | rw [if_neg c22] | skip); (first | rw [if_pos c23] | rw [if_neg c23] | skip); (first | rw [if_pos c24] | rw [if_neg c24] | skip); try with_reducible rfl) rfl rfl
def q_tellOwner (V : g_V) (o : Int32) (w : Int32) : Int32 :=
  if k_in o 8 then (if w = 0 then (V 5 o.toNatClampNeg) else if w = 1 then (k_sum (q_ownF V o (fun _ => 1)) 16) else if w = 2 then (k_sum (q_ownF V o (fun i => V (12 + i) 3)) 16) else if w = 3 then (k_sum (q_ownF V o (fun i => V (12 + i) 5)) 16) else if w = 4 then (((V 5 o.toNatClampNeg) + (k_sum (q_ownF V o (fun i => V (12 + i) 3 * q_priceOf V (V (12 + i) 2))) 16)) - (k_sum (q_ownF V o (fun i => V (12 + i) 5)) 16)) else (-2000000001)) else (-2000000001)
abbrev rm_X3_tellOwner : Room := { frames := 2, cells := 0, slots := 0, locals := 41 }
set_option maxHeartbeats 800000 in
set_option maxRecDepth 100000 in
theorem c_X3_tellOwner (l : Launch) (D : va_G) (tb : g_T) (ad : g_Ad) (hj : g_inj ad) (P : g_P) (M : g_M) (r : Nat) (hr : r < 6) (V : g_V) (o : Int32) (w : Int32) : g_Ci l yX3_tellOwner cX3_tellOwner 11 (some .int) rm_X3_tellOwner D tb ad [.ref (ad r 0), .int o, .int w] P (va_up M r V) (q_tellOwner V o w) P (va_up M r V) := by
  refine g_go (by decide) (Nat.le_of_ble_eq_true rfl) hj ?_
  intro p e s m below meth c ls H locs R args Q hR0 hQ hx hb hml hr0 hlk hown hts hC hI hl
  subst hR0
  have hown : s.vm.findClass RX3 = some m.cls := hown
  have hl : lv_has ls 11 [(0, .ref (ad r 0)), (1, .int o), (2, .int w)] := hl
  refine lv_iload_n hx hb dX3_tellOwner_0 rfl (lv_at hl 1 rfl) ?_
  refine g_callNi (rest := []) (c_X4_isOwner l D tb ad hj P (va_up M r V) o) rfl rfl gm_X4_isOwner hx hb hml hown hts hC hI qN_X3_122 rfl hl.1 rfl ⟨rfl, rfl, by decide, by decide⟩ (Nat.le_of_ble_eq_true rfl) ⟨Nat.zero_le _, Nat.zero_le _⟩ dX3_tellOwner_1 (fun H locs hI => ?_)
  refine g_tf (fun c1 => ?_) (fun c1 => ?_)
  · refine lv_if_ne (tgt := 10) hx hb dX3_tellOwner_4 (by decide) (fun _ => ?_) (fun c2 => absurd c2 (by decide))
    refine lv_iconst (v := 0) hx hb dX3_tellOwner_10 (by decide) ?_
    refine lv_istore_n (lv' := [(3, .int 0), (0, .ref (ad r 0)), (1, .int o), (2, .int w)]) hx hb dX3_tellOwner_11 rfl hl (by decide) rfl (fun ls hl => ?_)
    refine lv_iconst (v := 0) hx hb dX3_tellOwner_12 (by decide) ?_
    refine lv_istore (lv' := [(4, .int 0), (3, .int 0), (0, .ref (ad r 0)), (1, .int o), (2, .int w)]) hx hb dX3_tellOwner_13 hl (by decide) rfl (fun ls hl => ?_)
    refine lv_iconst (v := 0) hx hb dX3_tellOwner_15 (by decide) ?_
    refine lv_istore (lv' := [(5, .int 0), (4, .int 0), (3, .int 0), (0, .ref (ad r 0)), (1, .int o), (2, .int w)]) hx hb dX3_tellOwner_16 hl (by decide) rfl (fun ls hl => ?_)
    refine lv_iconst (v := 0) hx hb dX3_tellOwner_18 (by decide) ?_
    refine lv_istore (lv' := [(6, .int 0), (5, .int 0), (4, .int 0), (3, .int 0), (0, .ref (ad r 0)), (1, .int o), (2, .int w)]) hx hb dX3_tellOwner_19 hl (by decide) rfl (fun ls hl => ?_)
    refine lv_aload_n hx hb dX3_tellOwner_21 rfl (lv_at hl 4 rfl) ?_
    refine g_get 1 hx hb hts hown hC hI i_X3 (ok_c 0 hr (by decide)) (e_st hr g_us) rfl (by decide) qf_X3_19 rfl rfl dX3_tellOwner_22 ?_
    refine lv_astore (lv' := [(7, .ref (ad r 2)), (6, .int 0), (5, .int 0), (4, .int 0), (3, .int 0), (0, .ref (ad r 0)), (1, .int o), (2, .int w)]) hx hb dX3_tellOwner_25 hl (by decide) rfl (fun ls hl => ?_)
    refine lv_aload hx hb dX3_tellOwner_27 (lv_at hl 0 rfl) ?_
    refine g_alen 3 (v := 16) hx hb hC hI (ok_c 2 hr (by decide)) (e_recs hr) rfl rfl dX3_tellOwner_29 ?_
    refine lv_istore (lv' := [(8, .int 16), (7, .ref (ad r 2)), (6, .int 0), (5, .int 0), (4, .int 0), (3, .int 0), (0, .ref (ad r 0)), (1, .int o), (2, .int w)]) hx hb dX3_tellOwner_30 hl (by decide) rfl (fun ls hl => ?_)
    refine lv_iconst (v := 0) hx hb dX3_tellOwner_32 (by decide) ?_
    refine lv_istore (lv' := [(9, .int 0), (8, .int 16), (7, .ref (ad r 2)), (6, .int 0), (5, .int 0), (4, .int 0), (3, .int 0), (0, .ref (ad r 0)), (1, .int o), (2, .int w)]) hx hb dX3_tellOwner_33 hl (by decide) rfl (fun ls hl => ?_)
    have lp35 : ∀ (d k : Nat) (x1 : Int32) (x2 : Int32) (x3 : Int32) (x4 : Int32), k ≤ 16 → 16 < k + d → x1 = k_sum (q_ownF V o (fun _ => 1)) k → x2 = k_sum (q_ownF V o (fun i => V (12 + i) 3)) k → x3 = k_sum (q_ownF V o (fun i => V (12 + i) 5)) k → x4 = k_sum (q_ownF V o (fun i => V (12 + i) 3 * q_priceOf V (V (12 + i) 2))) k → ∀ (H : Heap) (locs : List Loc) (ls : Array Slot), g_I D tb ad (g_A ad) s H locs P (va_up M r V) → lv_has ls 11 [(9, .int (nI k)), (8, .int 16), (7, .ref (ad r 2)), (6, .int x4), (5, .int x3), (4, .int x2), (3, .int x1), (0, .ref (ad r 0)), (1, .int o), (2, .int w)] → W p l e rm_X3_tellOwner s m args below meth c H locs 0 0 Q (F0 m 35 ls []) := by
      intro d
      induction d with
      | zero => intro k x1 x2 x3 x4 hkp hfu; intros; omega
      | succ d ih35 =>
        intro k x1 x2 x3 x4 hkp hfu e_x1 e_x2 e_x3 e_x4 H locs ls hI hl
        refine lv_iload hx hb dX3_tellOwner_35 (lv_at hl 0 rfl) ?_
        refine lv_iload hx hb dX3_tellOwner_37 (lv_at hl 1 rfl) ?_
        refine lv_icmp_ge (tgt := 115) hx hb dX3_tellOwner_39 (by decide) (fun c3 => ?_) (fun c3 => ?_)
        · have c3n : 16 ≤ k := (nI_leI (a := 16) (b := k) (by omega) (by omega)).mp c3
          refine lv_iload_n hx hb dX3_tellOwner_115 rfl (lv_at hl 9 rfl) ?_
          by_cases c4 : w = 0
          · refine lv_tableIn (tgt := 152) hx hb dX3_tellOwner_116 (by rw [c4]; decide) (by rw [c4]; decide) (by rw [c4]; rfl) (by decide) ?_
            refine lv_aload_n hx hb dX3_tellOwner_152 rfl (lv_at hl 7 rfl) ?_
            refine g_get 4 hx hb hts hown hC hI i_X3 (ok_c 0 hr (by decide)) (e_st hr g_us) rfl (by decide) qf_X3_30 rfl rfl dX3_tellOwner_153 ?_
            refine lv_iload_n hx hb dX3_tellOwner_156 rfl (lv_at hl 8 rfl) ?_
            refine g_iald o.toNatClampNeg hx hb hC hI (ok_c 5 hr (by decide)) (e_mo hr g_us) (k_vin c1 rfl) rfl dX3_tellOwner_157 ?_
            exact g_ir hQ hx hb hr0 hlk hC hI dX3_tellOwner_158 rfl (by rw [show k = 16 from (by omega)] at e_x1 e_x2 e_x3 e_x4; unfold q_tellOwner; (try rw [← e_x1]); (try rw [← e_x2]); (try rw [← e_x3]); (try rw [← e_x4]); (first | rw [if_pos c1] | rw [if_neg c1] | skip); (first | rw [if_pos c3] | rw [if_neg c3] | skip); (first | rw [if_pos c4] | rw [if_neg c4] | skip); try with_reducible rfl) rfl rfl
          by_cases c5 : w = 1
          · refine lv_tableIn (tgt := 159) hx hb dX3_tellOwner_116 (by rw [c5]; decide) (by rw [c5]; decide) (by rw [c5]; rfl) (by decide) ?_
            refine lv_iload_n hx hb dX3_tellOwner_159 rfl (lv_at hl 6 rfl) ?_
            exact g_ir hQ hx hb hr0 hlk hC hI dX3_tellOwner_160 rfl (by rw [show k = 16 from (by omega)] at e_x1 e_x2 e_x3 e_x4; unfold q_tellOwner; (try rw [← e_x1]); (try rw [← e_x2]); (try rw [← e_x3]); (try rw [← e_x4]); (first | rw [if_pos c1] | rw [if_neg c1] | skip); (first | rw [if_pos c3] | rw [if_neg c3] | skip); (first | rw [if_pos c4] | rw [if_neg c4] | skip); (first | rw [if_pos c5] | rw [if_neg c5] | skip); try with_reducible rfl) rfl rfl
          by_cases c6 : w = 2
          · refine lv_tableIn (tgt := 161) hx hb dX3_tellOwner_116 (by rw [c6]; decide) (by rw [c6]; decide) (by rw [c6]; rfl) (by decide) ?_
            refine lv_iload hx hb dX3_tellOwner_161 (lv_at hl 5 rfl) ?_
            exact g_ir hQ hx hb hr0 hlk hC hI dX3_tellOwner_163 rfl (by rw [show k = 16 from (by omega)] at e_x1 e_x2 e_x3 e_x4; unfold q_tellOwner; (try rw [← e_x1]); (try rw [← e_x2]); (try rw [← e_x3]); (try rw [← e_x4]); (first | rw [if_pos c1] | rw [if_neg c1] | skip); (first | rw [if_pos c3] | rw [if_neg c3] | skip); (first | rw [if_pos c4] | rw [if_neg c4] | skip); (first | rw [if_pos c5] | rw [if_neg c5] | skip); (first | rw [if_pos c6] | rw [if_neg c6] | skip); try with_reducible rfl) rfl rfl
          by_cases c7 : w = 3
          · refine lv_tableIn (tgt := 164) hx hb dX3_tellOwner_116 (by rw [c7]; decide) (by rw [c7]; decide) (by rw [c7]; rfl) (by decide) ?_
            refine lv_iload hx hb dX3_tellOwner_164 (lv_at hl 4 rfl) ?_
            exact g_ir hQ hx hb hr0 hlk hC hI dX3_tellOwner_166 rfl (by rw [show k = 16 from (by omega)] at e_x1 e_x2 e_x3 e_x4; unfold q_tellOwner; (try rw [← e_x1]); (try rw [← e_x2]); (try rw [← e_x3]); (try rw [← e_x4]); (first | rw [if_pos c1] | rw [if_neg c1] | skip); (first | rw [if_pos c3] | rw [if_neg c3] | skip); (first | rw [if_pos c4] | rw [if_neg c4] | skip); (first | rw [if_pos c5] | rw [if_neg c5] | skip); (first | rw [if_pos c6] | rw [if_neg c6] | skip); (first | rw [if_pos c7] | rw [if_neg c7] | skip); try with_reducible rfl) rfl rfl
          by_cases c8 : w = 4
          · refine lv_tableIn (tgt := 167) hx hb dX3_tellOwner_116 (by rw [c8]; decide) (by rw [c8]; decide) (by rw [c8]; rfl) (by decide) ?_
            refine lv_aload_n hx hb dX3_tellOwner_167 rfl (lv_at hl 7 rfl) ?_
            refine g_get 4 hx hb hts hown hC hI i_X3 (ok_c 0 hr (by decide)) (e_st hr g_us) rfl (by decide) qf_X3_30 rfl rfl dX3_tellOwner_168 ?_
            refine lv_iload_n hx hb dX3_tellOwner_171 rfl (lv_at hl 8 rfl) ?_
            refine g_iald o.toNatClampNeg hx hb hC hI (ok_c 5 hr (by decide)) (e_mo hr g_us) (k_vin c1 rfl) rfl dX3_tellOwner_172 ?_
            refine lv_iload hx hb dX3_tellOwner_173 (lv_at hl 3 rfl) ?_
            refine lv_iadd hx hb dX3_tellOwner_175 ?_
            refine lv_iload hx hb dX3_tellOwner_176 (lv_at hl 4 rfl) ?_
            refine lv_isub hx hb dX3_tellOwner_178 ?_
            exact g_ir hQ hx hb hr0 hlk hC hI dX3_tellOwner_179 rfl (by rw [show k = 16 from (by omega)] at e_x1 e_x2 e_x3 e_x4; unfold q_tellOwner; (try rw [← e_x1]); (try rw [← e_x2]); (try rw [← e_x3]); (try rw [← e_x4]); (first | rw [if_pos c1] | rw [if_neg c1] | skip); (first | rw [if_pos c3] | rw [if_neg c3] | skip); (first | rw [if_pos c4] | rw [if_neg c4] | skip); (first | rw [if_pos c5] | rw [if_neg c5] | skip); (first | rw [if_pos c6] | rw [if_neg c6] | skip); (first | rw [if_pos c7] | rw [if_neg c7] | skip); (first | rw [if_pos c8] | rw [if_neg c8] | skip); try with_reducible rfl) rfl rfl
          refine lv_tableOut (tgt := 180) hx hb dX3_tellOwner_116 (by have c4i := k_ti c4 (k := 0) rfl; have c5i := k_ti c5 (k := 1) rfl; have c6i := k_ti c6 (k := 2) rfl; have c7i := k_ti c7 (k := 3) rfl; have c8i := k_ti c8 (k := 4) rfl; omega) (by decide) ?_
          refine lv_ldc (v := (-2000000001)) hx hb hown (hts _ qc_X3_74) dX3_tellOwner_180 ?_
          exact g_ir hQ hx hb hr0 hlk hC hI dX3_tellOwner_182 rfl (by rw [show k = 16 from (by omega)] at e_x1 e_x2 e_x3 e_x4; unfold q_tellOwner; (try rw [← e_x1]); (try rw [← e_x2]); (try rw [← e_x3]); (try rw [← e_x4]); (first | rw [if_pos c1] | rw [if_neg c1] | skip); (first | rw [if_pos c3] | rw [if_neg c3] | skip); (first | rw [if_pos c4] | rw [if_neg c4] | skip); (first | rw [if_pos c5] | rw [if_neg c5] | skip); (first | rw [if_pos c6] | rw [if_neg c6] | skip); (first | rw [if_pos c7] | rw [if_neg c7] | skip); (first | rw [if_pos c8] | rw [if_neg c8] | skip); try with_reducible rfl) rfl rfl
        · have c3n : ¬ 16 ≤ k := fun z => c3 ((nI_leI (a := 16) (b := k) (by omega) (by omega)).mpr z)
          refine lv_aload hx hb dX3_tellOwner_42 (lv_at hl 2 rfl) ?_
          refine lv_iload hx hb dX3_tellOwner_44 (lv_at hl 0 rfl) ?_
          refine g_aald 3 k hx hb hC hI (ok_c 2 hr (by decide)) (e_recs hr) rfl (vp_in_nI (by omega) (by decide)) (nI_clamp (by omega)) dX3_tellOwner_46 ?_
          have hk9 : k < 16 := (by omega)
          refine lv_astore (lv' := [(10, .ref (ad r (12 + k))), (9, .int (nI k)), (8, .int 16), (7, .ref (ad r 2)), (6, .int x4), (5, .int x3), (4, .int x2), (3, .int x1), (0, .ref (ad r 0)), (1, .int o), (2, .int w)]) hx hb dX3_tellOwner_47 hl (by decide) rfl (fun ls hl => ?_)
          refine lv_aload hx hb dX3_tellOwner_49 (lv_at hl 0 rfl) ?_
          refine g_callVi (rest := []) (c_X1_isUsed l D tb ad hj P M r hr V k hk9) rfl rfl gm_X1_isUsed hx hb hml hown hts hC hI (ok_rec hr hk9) (e_rec hr hk9 g_us) rfl rfl qm_X3_203 rfl hl.1 rfl ⟨rfl, rfl, by decide, by decide⟩ (Nat.le_of_ble_eq_true rfl) ⟨Nat.zero_le _, Nat.zero_le _⟩ dX3_tellOwner_51 (fun H locs hI => ?_)
          refine g_tf (fun c10 => ?_) (fun c10 => ?_)
          · refine lv_if_eq (tgt := 109) hx hb dX3_tellOwner_54 (by decide) (fun c11 => absurd c11 (by decide)) (fun _ => ?_)
            refine lv_aload hx hb dX3_tellOwner_57 (lv_at hl 0 rfl) ?_
            refine g_get 1 hx hb hts hown hC hI i_X1 (ok_rec hr hk9) (e_rec hr hk9 g_us) rfl (by decide) qf_X3_107 rfl rfl dX3_tellOwner_59 ?_
            refine lv_iload_n hx hb dX3_tellOwner_62 rfl (lv_at hl 9 rfl) ?_
            refine lv_icmp_ne (tgt := 109) hx hb dX3_tellOwner_63 (by decide) (fun c12 => ?_) (fun c12 => ?_)
            · refine lv_iinc (v := nI (k + 1)) (lv' := [(9, .int (nI (k + 1))), (10, .ref (ad r (12 + k))), (8, .int 16), (7, .ref (ad r 2)), (6, .int x4), (5, .int x3), (4, .int x2), (3, .int x1), (0, .ref (ad r 0)), (1, .int o), (2, .int w)]) hx hb dX3_tellOwner_109 hl (k := 1) rfl (nI_1 _) (by decide) rfl (fun ls hl => ?_)
              refine lv_goto (tgt := 35) hx hb dX3_tellOwner_112 (by decide) ?_
              exact ih35 (k + 1) _ _ _ _ (by omega) (by omega) (by simp [k_sum, q_ownF, e_x1, c1, c3, c10, c12]) (by simp [k_sum, q_ownF, e_x2, c1, c3, c10, c12]) (by simp [k_sum, q_ownF, e_x3, c1, c3, c10, c12]) (by simp [k_sum, q_ownF, e_x4, c1, c3, c10, c12])  _ _ _ hI (lv_sub hl [0, 2, 3, 4, 5, 6, 7, 8, 9, 10] rfl)
            · refine lv_iinc (v := (x1 + 1)) (lv' := [(3, .int (x1 + 1)), (10, .ref (ad r (12 + k))), (9, .int (nI k)), (8, .int 16), (7, .ref (ad r 2)), (6, .int x4), (5, .int x3), (4, .int x2), (0, .ref (ad r 0)), (1, .int o), (2, .int w)]) hx hb dX3_tellOwner_66 hl (k := 7) rfl rfl (by decide) rfl (fun ls hl => ?_)
              refine lv_iload hx hb dX3_tellOwner_69 (lv_at hl 7 rfl) ?_
              refine lv_aload hx hb dX3_tellOwner_71 (lv_at hl 1 rfl) ?_
              refine g_get 3 hx hb hts hown hC hI i_X1 (ok_rec hr hk9) (e_rec hr hk9 g_us) rfl (by decide) qf_X3_103 rfl rfl dX3_tellOwner_73 ?_
              refine lv_iadd hx hb dX3_tellOwner_76 ?_
              refine lv_istore (lv' := [(4, .int (x2 + (V (12 + k) 3))), (3, .int (x1 + 1)), (10, .ref (ad r (12 + k))), (9, .int (nI k)), (8, .int 16), (7, .ref (ad r 2)), (6, .int x4), (5, .int x3), (0, .ref (ad r 0)), (1, .int o), (2, .int w)]) hx hb dX3_tellOwner_77 hl (by decide) rfl (fun ls hl => ?_)
              refine lv_iload hx hb dX3_tellOwner_79 (lv_at hl 7 rfl) ?_
              refine lv_aload hx hb dX3_tellOwner_81 (lv_at hl 2 rfl) ?_
              refine g_get 5 hx hb hts hown hC hI i_X1 (ok_rec hr hk9) (e_rec hr hk9 g_us) rfl (by decide) qf_X3_139 rfl rfl dX3_tellOwner_83 ?_
              refine lv_iadd hx hb dX3_tellOwner_86 ?_
              refine lv_istore (lv' := [(5, .int (x3 + (V (12 + k) 5))), (4, .int (x2 + (V (12 + k) 3))), (3, .int (x1 + 1)), (10, .ref (ad r (12 + k))), (9, .int (nI k)), (8, .int 16), (7, .ref (ad r 2)), (6, .int x4), (0, .ref (ad r 0)), (1, .int o), (2, .int w)]) hx hb dX3_tellOwner_87 hl (by decide) rfl (fun ls hl => ?_)
              refine lv_iload hx hb dX3_tellOwner_89 (lv_at hl 7 rfl) ?_
              refine lv_aload hx hb dX3_tellOwner_91 (lv_at hl 3 rfl) ?_
              refine g_get 3 hx hb hts hown hC hI i_X1 (ok_rec hr hk9) (e_rec hr hk9 g_us) rfl (by decide) qf_X3_103 rfl rfl dX3_tellOwner_93 ?_
              refine lv_aload_n hx hb dX3_tellOwner_96 rfl (lv_at hl 8 rfl) ?_
              refine lv_aload hx hb dX3_tellOwner_97 (lv_at hl 3 rfl) ?_
              refine g_get 2 hx hb hts hown hC hI i_X1 (ok_rec hr hk9) (e_rec hr hk9 g_us) rfl (by decide) qf_X3_110 rfl rfl dX3_tellOwner_99 ?_
              refine g_callVi (rest := [.int (V (12 + k) 3), .int x4]) (c_X3_priceOf l D tb ad hj P M r hr V (V (12 + k) 2)) rfl rfl gm_X3_priceOf hx hb hml hown hts hC hI (ok_c 0 hr (by decide)) (e_st hr g_us) rfl rfl qm_X3_215 rfl hl.1 rfl ⟨rfl, rfl, by decide, by decide⟩ (Nat.le_of_ble_eq_true rfl) ⟨Nat.zero_le _, Nat.zero_le _⟩ dX3_tellOwner_102 (fun H locs hI => ?_)
              refine lv_imul hx hb dX3_tellOwner_105 ?_
              refine lv_iadd hx hb dX3_tellOwner_106 ?_
              refine lv_istore (lv' := [(6, .int (x4 + ((V (12 + k) 3) * (q_priceOf V (V (12 + k) 2))))), (5, .int (x3 + (V (12 + k) 5))), (4, .int (x2 + (V (12 + k) 3))), (3, .int (x1 + 1)), (10, .ref (ad r (12 + k))), (9, .int (nI k)), (8, .int 16), (7, .ref (ad r 2)), (0, .ref (ad r 0)), (1, .int o), (2, .int w)]) hx hb dX3_tellOwner_107 hl (by decide) rfl (fun ls hl => ?_)
              refine lv_iinc (v := nI (k + 1)) (lv' := [(9, .int (nI (k + 1))), (6, .int (x4 + ((V (12 + k) 3) * (q_priceOf V (V (12 + k) 2))))), (5, .int (x3 + (V (12 + k) 5))), (4, .int (x2 + (V (12 + k) 3))), (3, .int (x1 + 1)), (10, .ref (ad r (12 + k))), (8, .int 16), (7, .ref (ad r 2)), (0, .ref (ad r 0)), (1, .int o), (2, .int w)]) hx hb dX3_tellOwner_109 hl (k := 5) rfl (nI_1 _) (by decide) rfl (fun ls hl => ?_)
              refine lv_goto (tgt := 35) hx hb dX3_tellOwner_112 (by decide) ?_
              exact ih35 (k + 1) _ _ _ _ (by omega) (by omega) (by simp [k_sum, q_ownF, e_x1, c1, c3, c10, c12]) (by simp [k_sum, q_ownF, e_x2, c1, c3, c10, c12]) (by simp [k_sum, q_ownF, e_x3, c1, c3, c10, c12]) (by simp [k_sum, q_ownF, e_x4, c1, c3, c10, c12])  _ _ _ hI (lv_sub hl [0, 6, 7, 1, 2, 3, 4, 8, 9, 10] rfl)
          · refine lv_if_eq (tgt := 109) hx hb dX3_tellOwner_54 (by decide) (fun _ => ?_) (fun c13 => absurd c13 (by decide))
            refine lv_iinc (v := nI (k + 1)) (lv' := [(9, .int (nI (k + 1))), (10, .ref (ad r (12 + k))), (8, .int 16), (7, .ref (ad r 2)), (6, .int x4), (5, .int x3), (4, .int x2), (3, .int x1), (0, .ref (ad r 0)), (1, .int o), (2, .int w)]) hx hb dX3_tellOwner_109 hl (k := 1) rfl (nI_1 _) (by decide) rfl (fun ls hl => ?_)
            refine lv_goto (tgt := 35) hx hb dX3_tellOwner_112 (by decide) ?_
            exact ih35 (k + 1) _ _ _ _ (by omega) (by omega) (by simp [k_sum, q_ownF, e_x1, c1, c3, c10]) (by simp [k_sum, q_ownF, e_x2, c1, c3, c10]) (by simp [k_sum, q_ownF, e_x3, c1, c3, c10]) (by simp [k_sum, q_ownF, e_x4, c1, c3, c10])  _ _ _ hI (lv_sub hl [0, 2, 3, 4, 5, 6, 7, 8, 9, 10] rfl)
    exact lp35 (16 + 1) 0 _ _ _ _ (by omega) (by omega) rfl rfl rfl rfl  _ _ _ hI (lv_sub hl [0, 1, 2, 3, 4, 5, 6, 7, 8, 9] rfl)
  · refine lv_if_ne (tgt := 10) hx hb dX3_tellOwner_4 (by decide) (fun c14 => absurd c14 (by decide)) (fun _ => ?_)
    refine lv_ldc (v := (-2000000001)) hx hb hown (hts _ qc_X3_74) dX3_tellOwner_7 ?_
    exact g_ir hQ hx hb hr0 hlk hC hI dX3_tellOwner_9 rfl (by unfold q_tellOwner; skip; (first | rw [if_pos c1] | rw [if_neg c1] | skip); try with_reducible rfl) rfl rfl
def q_tellLender (V : g_V) (le : Int32) (w : Int32) : Int32 :=
  if k_in le 3 then (if w = 0 then (k_sum (q_lenF V le (fun _ => 1)) 16) else if w = 1 then (k_sum (q_lenF V le (fun i => V (12 + i) 5)) 16) else if w = 2 then (k_sum (q_lenF V le (fun i => q_worth V i)) 16) else if w = 3 then (k_sum (q_lenF V le (fun i => if q_called V i then 1 else 0)) 16) else if w = 4 then (V 6 le.toNatClampNeg) else if w = 5 then (k_sum (q_lenF V le (fun i => if q_would V i le (V 3 2) then 1 else 0)) 16) else (-2000000001)) else (-2000000001)
abbrev rm_X3_tellLender : Room := { frames := 2, cells := 0, slots := 0, locals := 44 }
set_option maxHeartbeats 800000 in
set_option maxRecDepth 100000 in
theorem c_X3_tellLender (l : Launch) (D : va_G) (tb : g_T) (ad : g_Ad) (hj : g_inj ad) (P : g_P) (M : g_M) (r : Nat) (hr : r < 6) (V : g_V) (le : Int32) (w : Int32) : g_Ci l yX3_tellLender cX3_tellLender 12 (some .int) rm_X3_tellLender D tb ad [.ref (ad r 0), .int le, .int w] P (va_up M r V) (q_tellLender V le w) P (va_up M r V) := by
  refine g_go (by decide) (Nat.le_of_ble_eq_true rfl) hj ?_
  intro p e s m below meth c ls H locs R args Q hR0 hQ hx hb hml hr0 hlk hown hts hC hI hl
  subst hR0
  have hown : s.vm.findClass RX3 = some m.cls := hown
  have hl : lv_has ls 12 [(0, .ref (ad r 0)), (1, .int le), (2, .int w)] := hl
  refine lv_iload_n hx hb dX3_tellLender_0 rfl (lv_at hl 1 rfl) ?_
  refine g_callNi (rest := []) (c_X4_isLender l D tb ad hj P (va_up M r V) le) rfl rfl gm_X4_isLender hx hb hml hown hts hC hI qN_X3_129 rfl hl.1 rfl ⟨rfl, rfl, by decide, by decide⟩ (Nat.le_of_ble_eq_true rfl) ⟨Nat.zero_le _, Nat.zero_le _⟩ dX3_tellLender_1 (fun H locs hI => ?_)
  refine g_tf (fun c1 => ?_) (fun c1 => ?_)
  · refine lv_if_ne (tgt := 10) hx hb dX3_tellLender_4 (by decide) (fun _ => ?_) (fun c2 => absurd c2 (by decide))
    refine lv_iconst (v := 0) hx hb dX3_tellLender_10 (by decide) ?_
    refine lv_istore_n (lv' := [(3, .int 0), (0, .ref (ad r 0)), (1, .int le), (2, .int w)]) hx hb dX3_tellLender_11 rfl hl (by decide) rfl (fun ls hl => ?_)
    refine lv_iconst (v := 0) hx hb dX3_tellLender_12 (by decide) ?_
    refine lv_istore (lv' := [(4, .int 0), (3, .int 0), (0, .ref (ad r 0)), (1, .int le), (2, .int w)]) hx hb dX3_tellLender_13 hl (by decide) rfl (fun ls hl => ?_)
    refine lv_iconst (v := 0) hx hb dX3_tellLender_15 (by decide) ?_
    refine lv_istore (lv' := [(5, .int 0), (4, .int 0), (3, .int 0), (0, .ref (ad r 0)), (1, .int le), (2, .int w)]) hx hb dX3_tellLender_16 hl (by decide) rfl (fun ls hl => ?_)
    refine lv_iconst (v := 0) hx hb dX3_tellLender_18 (by decide) ?_
    refine lv_istore (lv' := [(6, .int 0), (5, .int 0), (4, .int 0), (3, .int 0), (0, .ref (ad r 0)), (1, .int le), (2, .int w)]) hx hb dX3_tellLender_19 hl (by decide) rfl (fun ls hl => ?_)
    refine lv_iconst (v := 0) hx hb dX3_tellLender_21 (by decide) ?_
    refine lv_istore (lv' := [(7, .int 0), (6, .int 0), (5, .int 0), (4, .int 0), (3, .int 0), (0, .ref (ad r 0)), (1, .int le), (2, .int w)]) hx hb dX3_tellLender_22 hl (by decide) rfl (fun ls hl => ?_)
    refine lv_aload_n hx hb dX3_tellLender_24 rfl (lv_at hl 5 rfl) ?_
    refine g_get 1 hx hb hts hown hC hI i_X3 (ok_c 0 hr (by decide)) (e_st hr g_us) rfl (by decide) qf_X3_19 rfl rfl dX3_tellLender_25 ?_
    refine lv_astore (lv' := [(8, .ref (ad r 2)), (7, .int 0), (6, .int 0), (5, .int 0), (4, .int 0), (3, .int 0), (0, .ref (ad r 0)), (1, .int le), (2, .int w)]) hx hb dX3_tellLender_28 hl (by decide) rfl (fun ls hl => ?_)
    refine lv_aload hx hb dX3_tellLender_30 (lv_at hl 0 rfl) ?_
    refine g_alen 3 (v := 16) hx hb hC hI (ok_c 2 hr (by decide)) (e_recs hr) rfl rfl dX3_tellLender_32 ?_
    refine lv_istore (lv' := [(9, .int 16), (8, .ref (ad r 2)), (7, .int 0), (6, .int 0), (5, .int 0), (4, .int 0), (3, .int 0), (0, .ref (ad r 0)), (1, .int le), (2, .int w)]) hx hb dX3_tellLender_33 hl (by decide) rfl (fun ls hl => ?_)
    refine lv_iconst (v := 0) hx hb dX3_tellLender_35 (by decide) ?_
    refine lv_istore (lv' := [(10, .int 0), (9, .int 16), (8, .ref (ad r 2)), (7, .int 0), (6, .int 0), (5, .int 0), (4, .int 0), (3, .int 0), (0, .ref (ad r 0)), (1, .int le), (2, .int w)]) hx hb dX3_tellLender_36 hl (by decide) rfl (fun ls hl => ?_)
    have lp38 : ∀ (d k : Nat) (x1 : Int32) (x2 : Int32) (x3 : Int32) (x4 : Int32) (x5 : Int32), k ≤ 16 → 16 < k + d → x1 = k_sum (q_lenF V le (fun _ => 1)) k → x2 = k_sum (q_lenF V le (fun i => V (12 + i) 5)) k → x3 = k_sum (q_lenF V le (fun i => q_worth V i)) k → x4 = k_sum (q_lenF V le (fun i => if q_called V i then 1 else 0)) k → x5 = k_sum (q_lenF V le (fun i => if q_would V i le (V 3 2) then 1 else 0)) k → ∀ (H : Heap) (locs : List Loc) (ls : Array Slot), g_I D tb ad (g_A ad) s H locs P (va_up M r V) → lv_has ls 12 [(10, .int (nI k)), (9, .int 16), (8, .ref (ad r 2)), (7, .int x5), (6, .int x4), (5, .int x3), (4, .int x2), (3, .int x1), (0, .ref (ad r 0)), (1, .int le), (2, .int w)] → W p l e rm_X3_tellLender s m args below meth c H locs 0 0 Q (F0 m 38 ls []) := by
      intro d
      induction d with
      | zero => intro k x1 x2 x3 x4 x5 hkp hfu; intros; omega
      | succ d ih38 =>
        intro k x1 x2 x3 x4 x5 hkp hfu e_x1 e_x2 e_x3 e_x4 e_x5 H locs ls hI hl
        refine lv_iload hx hb dX3_tellLender_38 (lv_at hl 0 rfl) ?_
        refine lv_iload hx hb dX3_tellLender_40 (lv_at hl 1 rfl) ?_
        refine lv_icmp_ge (tgt := 135) hx hb dX3_tellLender_42 (by decide) (fun c3 => ?_) (fun c3 => ?_)
        · have c3n : 16 ≤ k := (nI_leI (a := 16) (b := k) (by omega) (by omega)).mp c3
          refine lv_iload_n hx hb dX3_tellLender_135 rfl (lv_at hl 10 rfl) ?_
          by_cases c4 : w = 0
          · refine lv_tableIn (tgt := 176) hx hb dX3_tellLender_136 (by rw [c4]; decide) (by rw [c4]; decide) (by rw [c4]; rfl) (by decide) ?_
            refine lv_iload_n hx hb dX3_tellLender_176 rfl (lv_at hl 7 rfl) ?_
            exact g_ir hQ hx hb hr0 hlk hC hI dX3_tellLender_177 rfl (by rw [show k = 16 from (by omega)] at e_x1 e_x2 e_x3 e_x4 e_x5; unfold q_tellLender; (try rw [← e_x1]); (try rw [← e_x2]); (try rw [← e_x3]); (try rw [← e_x4]); (try rw [← e_x5]); (first | rw [if_pos c1] | rw [if_neg c1] | skip); (first | rw [if_pos c3] | rw [if_neg c3] | skip); (first | rw [if_pos c4] | rw [if_neg c4] | skip); try with_reducible rfl) rfl rfl
          by_cases c5 : w = 1
          · refine lv_tableIn (tgt := 178) hx hb dX3_tellLender_136 (by rw [c5]; decide) (by rw [c5]; decide) (by rw [c5]; rfl) (by decide) ?_
            refine lv_iload hx hb dX3_tellLender_178 (lv_at hl 6 rfl) ?_
            exact g_ir hQ hx hb hr0 hlk hC hI dX3_tellLender_180 rfl (by rw [show k = 16 from (by omega)] at e_x1 e_x2 e_x3 e_x4 e_x5; unfold q_tellLender; (try rw [← e_x1]); (try rw [← e_x2]); (try rw [← e_x3]); (try rw [← e_x4]); (try rw [← e_x5]); (first | rw [if_pos c1] | rw [if_neg c1] | skip); (first | rw [if_pos c3] | rw [if_neg c3] | skip); (first | rw [if_pos c4] | rw [if_neg c4] | skip); (first | rw [if_pos c5] | rw [if_neg c5] | skip); try with_reducible rfl) rfl rfl
          by_cases c6 : w = 2
          · refine lv_tableIn (tgt := 181) hx hb dX3_tellLender_136 (by rw [c6]; decide) (by rw [c6]; decide) (by rw [c6]; rfl) (by decide) ?_
            refine lv_iload hx hb dX3_tellLender_181 (lv_at hl 5 rfl) ?_
            exact g_ir hQ hx hb hr0 hlk hC hI dX3_tellLender_183 rfl (by rw [show k = 16 from (by omega)] at e_x1 e_x2 e_x3 e_x4 e_x5; unfold q_tellLender; (try rw [← e_x1]); (try rw [← e_x2]); (try rw [← e_x3]); (try rw [← e_x4]); (try rw [← e_x5]); (first | rw [if_pos c1] | rw [if_neg c1] | skip); (first | rw [if_pos c3] | rw [if_neg c3] | skip); (first | rw [if_pos c4] | rw [if_neg c4] | skip); (first | rw [if_pos c5] | rw [if_neg c5] | skip); (first | rw [if_pos c6] | rw [if_neg c6] | skip); try with_reducible rfl) rfl rfl
          by_cases c7 : w = 3
          · refine lv_tableIn (tgt := 184) hx hb dX3_tellLender_136 (by rw [c7]; decide) (by rw [c7]; decide) (by rw [c7]; rfl) (by decide) ?_
            refine lv_iload hx hb dX3_tellLender_184 (lv_at hl 4 rfl) ?_
            exact g_ir hQ hx hb hr0 hlk hC hI dX3_tellLender_186 rfl (by rw [show k = 16 from (by omega)] at e_x1 e_x2 e_x3 e_x4 e_x5; unfold q_tellLender; (try rw [← e_x1]); (try rw [← e_x2]); (try rw [← e_x3]); (try rw [← e_x4]); (try rw [← e_x5]); (first | rw [if_pos c1] | rw [if_neg c1] | skip); (first | rw [if_pos c3] | rw [if_neg c3] | skip); (first | rw [if_pos c4] | rw [if_neg c4] | skip); (first | rw [if_pos c5] | rw [if_neg c5] | skip); (first | rw [if_pos c6] | rw [if_neg c6] | skip); (first | rw [if_pos c7] | rw [if_neg c7] | skip); try with_reducible rfl) rfl rfl
          by_cases c8 : w = 4
          · refine lv_tableIn (tgt := 187) hx hb dX3_tellLender_136 (by rw [c8]; decide) (by rw [c8]; decide) (by rw [c8]; rfl) (by decide) ?_
            refine lv_aload_n hx hb dX3_tellLender_187 rfl (lv_at hl 8 rfl) ?_
            refine g_get 5 hx hb hts hown hC hI i_X3 (ok_c 0 hr (by decide)) (e_st hr g_us) rfl (by decide) qf_X3_33 rfl rfl dX3_tellLender_188 ?_
            refine lv_iload_n hx hb dX3_tellLender_191 rfl (lv_at hl 9 rfl) ?_
            refine g_iald le.toNatClampNeg hx hb hC hI (ok_c 6 hr (by decide)) (e_sz hr g_us) (k_vin c1 rfl) rfl dX3_tellLender_192 ?_
            exact g_ir hQ hx hb hr0 hlk hC hI dX3_tellLender_193 rfl (by rw [show k = 16 from (by omega)] at e_x1 e_x2 e_x3 e_x4 e_x5; unfold q_tellLender; (try rw [← e_x1]); (try rw [← e_x2]); (try rw [← e_x3]); (try rw [← e_x4]); (try rw [← e_x5]); (first | rw [if_pos c1] | rw [if_neg c1] | skip); (first | rw [if_pos c3] | rw [if_neg c3] | skip); (first | rw [if_pos c4] | rw [if_neg c4] | skip); (first | rw [if_pos c5] | rw [if_neg c5] | skip); (first | rw [if_pos c6] | rw [if_neg c6] | skip); (first | rw [if_pos c7] | rw [if_neg c7] | skip); (first | rw [if_pos c8] | rw [if_neg c8] | skip); try with_reducible rfl) rfl rfl
          by_cases c9 : w = 5
          · refine lv_tableIn (tgt := 194) hx hb dX3_tellLender_136 (by rw [c9]; decide) (by rw [c9]; decide) (by rw [c9]; rfl) (by decide) ?_
            refine lv_iload hx hb dX3_tellLender_194 (lv_at hl 3 rfl) ?_
            exact g_ir hQ hx hb hr0 hlk hC hI dX3_tellLender_196 rfl (by rw [show k = 16 from (by omega)] at e_x1 e_x2 e_x3 e_x4 e_x5; unfold q_tellLender; (try rw [← e_x1]); (try rw [← e_x2]); (try rw [← e_x3]); (try rw [← e_x4]); (try rw [← e_x5]); (first | rw [if_pos c1] | rw [if_neg c1] | skip); (first | rw [if_pos c3] | rw [if_neg c3] | skip); (first | rw [if_pos c4] | rw [if_neg c4] | skip); (first | rw [if_pos c5] | rw [if_neg c5] | skip); (first | rw [if_pos c6] | rw [if_neg c6] | skip); (first | rw [if_pos c7] | rw [if_neg c7] | skip); (first | rw [if_pos c8] | rw [if_neg c8] | skip); (first | rw [if_pos c9] | rw [if_neg c9] | skip); try with_reducible rfl) rfl rfl
          refine lv_tableOut (tgt := 197) hx hb dX3_tellLender_136 (by have c4i := k_ti c4 (k := 0) rfl; have c5i := k_ti c5 (k := 1) rfl; have c6i := k_ti c6 (k := 2) rfl; have c7i := k_ti c7 (k := 3) rfl; have c8i := k_ti c8 (k := 4) rfl; have c9i := k_ti c9 (k := 5) rfl; omega) (by decide) ?_
          refine lv_ldc (v := (-2000000001)) hx hb hown (hts _ qc_X3_74) dX3_tellLender_197 ?_
          exact g_ir hQ hx hb hr0 hlk hC hI dX3_tellLender_199 rfl (by rw [show k = 16 from (by omega)] at e_x1 e_x2 e_x3 e_x4 e_x5; unfold q_tellLender; (try rw [← e_x1]); (try rw [← e_x2]); (try rw [← e_x3]); (try rw [← e_x4]); (try rw [← e_x5]); (first | rw [if_pos c1] | rw [if_neg c1] | skip); (first | rw [if_pos c3] | rw [if_neg c3] | skip); (first | rw [if_pos c4] | rw [if_neg c4] | skip); (first | rw [if_pos c5] | rw [if_neg c5] | skip); (first | rw [if_pos c6] | rw [if_neg c6] | skip); (first | rw [if_pos c7] | rw [if_neg c7] | skip); (first | rw [if_pos c8] | rw [if_neg c8] | skip); (first | rw [if_pos c9] | rw [if_neg c9] | skip); try with_reducible rfl) rfl rfl
        · have c3n : ¬ 16 ≤ k := fun z => c3 ((nI_leI (a := 16) (b := k) (by omega) (by omega)).mpr z)
          refine lv_aload hx hb dX3_tellLender_45 (lv_at hl 2 rfl) ?_
          refine lv_iload hx hb dX3_tellLender_47 (lv_at hl 0 rfl) ?_
          refine g_aald 3 k hx hb hC hI (ok_c 2 hr (by decide)) (e_recs hr) rfl (vp_in_nI (by omega) (by decide)) (nI_clamp (by omega)) dX3_tellLender_49 ?_
          have hk10 : k < 16 := (by omega)
          refine lv_astore (lv' := [(11, .ref (ad r (12 + k))), (10, .int (nI k)), (9, .int 16), (8, .ref (ad r 2)), (7, .int x5), (6, .int x4), (5, .int x3), (4, .int x2), (3, .int x1), (0, .ref (ad r 0)), (1, .int le), (2, .int w)]) hx hb dX3_tellLender_50 hl (by decide) rfl (fun ls hl => ?_)
          refine lv_aload hx hb dX3_tellLender_52 (lv_at hl 0 rfl) ?_
          refine g_get 4 hx hb hts hown hC hI i_X1 (ok_rec hr hk10) (e_rec hr hk10 g_us) rfl (by decide) qf_X3_136 rfl rfl dX3_tellLender_54 ?_
          refine lv_iload_n hx hb dX3_tellLender_57 rfl (lv_at hl 10 rfl) ?_
          refine lv_icmp_ne (tgt := 129) hx hb dX3_tellLender_58 (by decide) (fun c11 => ?_) (fun c11 => ?_)
          · refine lv_iinc (v := nI (k + 1)) (lv' := [(10, .int (nI (k + 1))), (11, .ref (ad r (12 + k))), (9, .int 16), (8, .ref (ad r 2)), (7, .int x5), (6, .int x4), (5, .int x3), (4, .int x2), (3, .int x1), (0, .ref (ad r 0)), (1, .int le), (2, .int w)]) hx hb dX3_tellLender_129 hl (k := 1) rfl (nI_1 _) (by decide) rfl (fun ls hl => ?_)
            refine lv_goto (tgt := 38) hx hb dX3_tellLender_132 (by decide) ?_
            exact ih38 (k + 1) _ _ _ _ _ (by omega) (by omega) (by rw [k_sum, q_lenF]; (first | rw [if_pos c1] | rw [if_neg c1] | skip); (first | rw [if_pos c3] | rw [if_neg c3] | skip); (first | rw [if_pos c11] | rw [if_neg c11] | skip); (try dsimp only); (first | rw [if_pos c1] | rw [if_neg c1] | skip); (first | rw [if_pos c3] | rw [if_neg c3] | skip); (first | rw [if_pos c11] | rw [if_neg c11] | skip); rw [e_x1]; (try simp only [Int32.add_zero])) (by rw [k_sum, q_lenF]; (first | rw [if_pos c1] | rw [if_neg c1] | skip); (first | rw [if_pos c3] | rw [if_neg c3] | skip); (first | rw [if_pos c11] | rw [if_neg c11] | skip); (try dsimp only); (first | rw [if_pos c1] | rw [if_neg c1] | skip); (first | rw [if_pos c3] | rw [if_neg c3] | skip); (first | rw [if_pos c11] | rw [if_neg c11] | skip); rw [e_x2]; (try simp only [Int32.add_zero])) (by rw [k_sum, q_lenF]; (first | rw [if_pos c1] | rw [if_neg c1] | skip); (first | rw [if_pos c3] | rw [if_neg c3] | skip); (first | rw [if_pos c11] | rw [if_neg c11] | skip); (try dsimp only); (first | rw [if_pos c1] | rw [if_neg c1] | skip); (first | rw [if_pos c3] | rw [if_neg c3] | skip); (first | rw [if_pos c11] | rw [if_neg c11] | skip); rw [e_x3]; (try simp only [Int32.add_zero])) (by rw [k_sum, q_lenF]; (first | rw [if_pos c1] | rw [if_neg c1] | skip); (first | rw [if_pos c3] | rw [if_neg c3] | skip); (first | rw [if_pos c11] | rw [if_neg c11] | skip); (try dsimp only); (first | rw [if_pos c1] | rw [if_neg c1] | skip); (first | rw [if_pos c3] | rw [if_neg c3] | skip); (first | rw [if_pos c11] | rw [if_neg c11] | skip); rw [e_x4]; (try simp only [Int32.add_zero])) (by rw [k_sum, q_lenF]; (first | rw [if_pos c1] | rw [if_neg c1] | skip); (first | rw [if_pos c3] | rw [if_neg c3] | skip); (first | rw [if_pos c11] | rw [if_neg c11] | skip); (try dsimp only); (first | rw [if_pos c1] | rw [if_neg c1] | skip); (first | rw [if_pos c3] | rw [if_neg c3] | skip); (first | rw [if_pos c11] | rw [if_neg c11] | skip); rw [e_x5]; (try simp only [Int32.add_zero]))  _ _ _ hI (lv_sub hl [0, 2, 3, 4, 5, 6, 7, 8, 9, 10, 11] rfl)
          · refine lv_iinc (v := (x1 + 1)) (lv' := [(3, .int (x1 + 1)), (11, .ref (ad r (12 + k))), (10, .int (nI k)), (9, .int 16), (8, .ref (ad r 2)), (7, .int x5), (6, .int x4), (5, .int x3), (4, .int x2), (0, .ref (ad r 0)), (1, .int le), (2, .int w)]) hx hb dX3_tellLender_61 hl (k := 8) rfl rfl (by decide) rfl (fun ls hl => ?_)
            refine lv_iload hx hb dX3_tellLender_64 (lv_at hl 8 rfl) ?_
            refine lv_aload hx hb dX3_tellLender_66 (lv_at hl 1 rfl) ?_
            refine g_get 5 hx hb hts hown hC hI i_X1 (ok_rec hr hk10) (e_rec hr hk10 g_us) rfl (by decide) qf_X3_139 rfl rfl dX3_tellLender_68 ?_
            refine lv_iadd hx hb dX3_tellLender_71 ?_
            refine lv_istore (lv' := [(4, .int (x2 + (V (12 + k) 5))), (3, .int (x1 + 1)), (11, .ref (ad r (12 + k))), (10, .int (nI k)), (9, .int 16), (8, .ref (ad r 2)), (7, .int x5), (6, .int x4), (5, .int x3), (0, .ref (ad r 0)), (1, .int le), (2, .int w)]) hx hb dX3_tellLender_72 hl (by decide) rfl (fun ls hl => ?_)
            refine lv_iload hx hb dX3_tellLender_74 (lv_at hl 8 rfl) ?_
            refine lv_aload_n hx hb dX3_tellLender_76 rfl (lv_at hl 9 rfl) ?_
            refine lv_aload hx hb dX3_tellLender_77 (lv_at hl 2 rfl) ?_
            refine g_callVi (rest := [.int x3]) (c_X3_worth l D tb ad hj P M r hr V k hk10) rfl rfl gm_X3_worth hx hb hml hown hts hC hI (ok_c 0 hr (by decide)) (e_st hr g_us) rfl rfl qm_X3_185 rfl hl.1 rfl ⟨rfl, rfl, by decide, by decide⟩ (Nat.le_of_ble_eq_true rfl) ⟨Nat.zero_le _, Nat.zero_le _⟩ dX3_tellLender_79 (fun H locs hI => ?_)
            refine lv_iadd hx hb dX3_tellLender_82 ?_
            refine lv_istore (lv' := [(5, .int (x3 + (q_worth V k))), (4, .int (x2 + (V (12 + k) 5))), (3, .int (x1 + 1)), (11, .ref (ad r (12 + k))), (10, .int (nI k)), (9, .int 16), (8, .ref (ad r 2)), (7, .int x5), (6, .int x4), (0, .ref (ad r 0)), (1, .int le), (2, .int w)]) hx hb dX3_tellLender_83 hl (by decide) rfl (fun ls hl => ?_)
            refine lv_iload hx hb dX3_tellLender_85 (lv_at hl 8 rfl) ?_
            refine lv_aload hx hb dX3_tellLender_87 (lv_at hl 3 rfl) ?_
            refine g_callVi (rest := [.int x4]) (c_X1_isCalled l D tb ad hj P M r hr V k hk10) rfl rfl gm_X1_isCalled hx hb hml hown hts hC hI (ok_rec hr hk10) (e_rec hr hk10 g_us) rfl rfl qm_X3_189 rfl hl.1 rfl ⟨rfl, rfl, by decide, by decide⟩ (Nat.le_of_ble_eq_true rfl) ⟨Nat.zero_le _, Nat.zero_le _⟩ dX3_tellLender_89 (fun H locs hI => ?_)
            refine g_tf (fun c12 => ?_) (fun c12 => ?_)
            · refine lv_if_eq (tgt := 99) hx hb dX3_tellLender_92 (by decide) (fun c13 => absurd c13 (by decide)) (fun _ => ?_)
              refine lv_iconst (v := 1) hx hb dX3_tellLender_95 (by decide) ?_
              refine lv_goto (tgt := 100) hx hb dX3_tellLender_96 (by decide) ?_
              refine lv_iadd hx hb dX3_tellLender_100 ?_
              refine lv_istore (lv' := [(6, .int (x4 + 1)), (5, .int (x3 + (q_worth V k))), (4, .int (x2 + (V (12 + k) 5))), (3, .int (x1 + 1)), (11, .ref (ad r (12 + k))), (10, .int (nI k)), (9, .int 16), (8, .ref (ad r 2)), (7, .int x5), (0, .ref (ad r 0)), (1, .int le), (2, .int w)]) hx hb dX3_tellLender_101 hl (by decide) rfl (fun ls hl => ?_)
              refine lv_iload hx hb dX3_tellLender_103 (lv_at hl 8 rfl) ?_
              refine lv_aload_n hx hb dX3_tellLender_105 rfl (lv_at hl 9 rfl) ?_
              refine lv_aload hx hb dX3_tellLender_106 (lv_at hl 4 rfl) ?_
              refine lv_iload_n hx hb dX3_tellLender_108 rfl (lv_at hl 10 rfl) ?_
              refine lv_aload_n hx hb dX3_tellLender_109 rfl (lv_at hl 9 rfl) ?_
              refine g_get 2 hx hb hts hown hC hI i_X3 (ok_c 0 hr (by decide)) (e_st hr g_us) rfl (by decide) qf_X3_23 rfl rfl dX3_tellLender_110 ?_
              refine lv_iconst (v := 2) hx hb dX3_tellLender_113 (by decide) ?_
              refine g_iald 2 hx hb hC hI (ok_c 3 hr (by decide)) (e_pr hr g_us) (by unfold vp_in; decide) rfl dX3_tellLender_114 ?_
              refine g_callVi (rest := [.int x5]) (c_X3_wouldBeCalled l D tb ad hj P M r hr V k hk10 le (V 3 2)) rfl rfl gm_X3_wouldBeCalled hx hb hml hown hts hC hI (ok_c 0 hr (by decide)) (e_st hr g_us) rfl rfl qm_X3_158 rfl hl.1 rfl ⟨rfl, rfl, by decide, by decide⟩ (Nat.le_of_ble_eq_true rfl) ⟨Nat.zero_le _, Nat.zero_le _⟩ dX3_tellLender_115 (fun H locs hI => ?_)
              refine g_tf (fun c14 => ?_) (fun c14 => ?_)
              · refine lv_if_eq (tgt := 125) hx hb dX3_tellLender_118 (by decide) (fun c15 => absurd c15 (by decide)) (fun _ => ?_)
                refine lv_iconst (v := 1) hx hb dX3_tellLender_121 (by decide) ?_
                refine lv_goto (tgt := 126) hx hb dX3_tellLender_122 (by decide) ?_
                refine lv_iadd hx hb dX3_tellLender_126 ?_
                refine lv_istore (lv' := [(7, .int (x5 + 1)), (6, .int (x4 + 1)), (5, .int (x3 + (q_worth V k))), (4, .int (x2 + (V (12 + k) 5))), (3, .int (x1 + 1)), (11, .ref (ad r (12 + k))), (10, .int (nI k)), (9, .int 16), (8, .ref (ad r 2)), (0, .ref (ad r 0)), (1, .int le), (2, .int w)]) hx hb dX3_tellLender_127 hl (by decide) rfl (fun ls hl => ?_)
                refine lv_iinc (v := nI (k + 1)) (lv' := [(10, .int (nI (k + 1))), (7, .int (x5 + 1)), (6, .int (x4 + 1)), (5, .int (x3 + (q_worth V k))), (4, .int (x2 + (V (12 + k) 5))), (3, .int (x1 + 1)), (11, .ref (ad r (12 + k))), (9, .int 16), (8, .ref (ad r 2)), (0, .ref (ad r 0)), (1, .int le), (2, .int w)]) hx hb dX3_tellLender_129 hl (k := 6) rfl (nI_1 _) (by decide) rfl (fun ls hl => ?_)
                refine lv_goto (tgt := 38) hx hb dX3_tellLender_132 (by decide) ?_
                exact ih38 (k + 1) _ _ _ _ _ (by omega) (by omega) (by rw [k_sum, q_lenF]; (first | rw [if_pos c1] | rw [if_neg c1] | skip); (first | rw [if_pos c3] | rw [if_neg c3] | skip); (first | rw [if_pos c11] | rw [if_neg c11] | skip); (first | rw [if_pos c12] | rw [if_neg c12] | skip); (first | rw [if_pos c14] | rw [if_neg c14] | skip); (try dsimp only); (first | rw [if_pos c1] | rw [if_neg c1] | skip); (first | rw [if_pos c3] | rw [if_neg c3] | skip); (first | rw [if_pos c11] | rw [if_neg c11] | skip); (first | rw [if_pos c12] | rw [if_neg c12] | skip); (first | rw [if_pos c14] | rw [if_neg c14] | skip); rw [e_x1]; (try simp only [Int32.add_zero])) (by rw [k_sum, q_lenF]; (first | rw [if_pos c1] | rw [if_neg c1] | skip); (first | rw [if_pos c3] | rw [if_neg c3] | skip); (first | rw [if_pos c11] | rw [if_neg c11] | skip); (first | rw [if_pos c12] | rw [if_neg c12] | skip); (first | rw [if_pos c14] | rw [if_neg c14] | skip); (try dsimp only); (first | rw [if_pos c1] | rw [if_neg c1] | skip); (first | rw [if_pos c3] | rw [if_neg c3] | skip); (first | rw [if_pos c11] | rw [if_neg c11] | skip); (first | rw [if_pos c12] | rw [if_neg c12] | skip); (first | rw [if_pos c14] | rw [if_neg c14] | skip); rw [e_x2]; (try simp only [Int32.add_zero])) (by rw [k_sum, q_lenF]; (first | rw [if_pos c1] | rw [if_neg c1] | skip); (first | rw [if_pos c3] | rw [if_neg c3] | skip); (first | rw [if_pos c11] | rw [if_neg c11] | skip); (first | rw [if_pos c12] | rw [if_neg c12] | skip); (first | rw [if_pos c14] | rw [if_neg c14] | skip); (try dsimp only); (first | rw [if_pos c1] | rw [if_neg c1] | skip); (first | rw [if_pos c3] | rw [if_neg c3] | skip); (first | rw [if_pos c11] | rw [if_neg c11] | skip); (first | rw [if_pos c12] | rw [if_neg c12] | skip); (first | rw [if_pos c14] | rw [if_neg c14] | skip); rw [e_x3]; (try simp only [Int32.add_zero])) (by rw [k_sum, q_lenF]; (first | rw [if_pos c1] | rw [if_neg c1] | skip); (first | rw [if_pos c3] | rw [if_neg c3] | skip); (first | rw [if_pos c11] | rw [if_neg c11] | skip); (first | rw [if_pos c12] | rw [if_neg c12] | skip); (first | rw [if_pos c14] | rw [if_neg c14] | skip); (try dsimp only); (first | rw [if_pos c1] | rw [if_neg c1] | skip); (first | rw [if_pos c3] | rw [if_neg c3] | skip); (first | rw [if_pos c11] | rw [if_neg c11] | skip); (first | rw [if_pos c12] | rw [if_neg c12] | skip); (first | rw [if_pos c14] | rw [if_neg c14] | skip); rw [e_x4]; (try simp only [Int32.add_zero])) (by rw [k_sum, q_lenF]; (first | rw [if_pos c1] | rw [if_neg c1] | skip); (first | rw [if_pos c3] | rw [if_neg c3] | skip); (first | rw [if_pos c11] | rw [if_neg c11] | skip); (first | rw [if_pos c12] | rw [if_neg c12] | skip); (first | rw [if_pos c14] | rw [if_neg c14] | skip); (try dsimp only); (first | rw [if_pos c1] | rw [if_neg c1] | skip); (first | rw [if_pos c3] | rw [if_neg c3] | skip); (first | rw [if_pos c11] | rw [if_neg c11] | skip); (first | rw [if_pos c12] | rw [if_neg c12] | skip); (first | rw [if_pos c14] | rw [if_neg c14] | skip); rw [e_x5]; (try simp only [Int32.add_zero]))  _ _ _ hI (lv_sub hl [0, 7, 8, 1, 2, 3, 4, 5, 9, 10, 11] rfl)
              · refine lv_if_eq (tgt := 125) hx hb dX3_tellLender_118 (by decide) (fun _ => ?_) (fun c16 => absurd c16 (by decide))
                refine lv_iconst (v := 0) hx hb dX3_tellLender_125 (by decide) ?_
                refine lv_iadd hx hb dX3_tellLender_126 ?_
                refine lv_istore (lv' := [(7, .int (x5 + 0)), (6, .int (x4 + 1)), (5, .int (x3 + (q_worth V k))), (4, .int (x2 + (V (12 + k) 5))), (3, .int (x1 + 1)), (11, .ref (ad r (12 + k))), (10, .int (nI k)), (9, .int 16), (8, .ref (ad r 2)), (0, .ref (ad r 0)), (1, .int le), (2, .int w)]) hx hb dX3_tellLender_127 hl (by decide) rfl (fun ls hl => ?_)
                refine lv_iinc (v := nI (k + 1)) (lv' := [(10, .int (nI (k + 1))), (7, .int (x5 + 0)), (6, .int (x4 + 1)), (5, .int (x3 + (q_worth V k))), (4, .int (x2 + (V (12 + k) 5))), (3, .int (x1 + 1)), (11, .ref (ad r (12 + k))), (9, .int 16), (8, .ref (ad r 2)), (0, .ref (ad r 0)), (1, .int le), (2, .int w)]) hx hb dX3_tellLender_129 hl (k := 6) rfl (nI_1 _) (by decide) rfl (fun ls hl => ?_)
                refine lv_goto (tgt := 38) hx hb dX3_tellLender_132 (by decide) ?_
                exact ih38 (k + 1) _ _ _ _ _ (by omega) (by omega) (by rw [k_sum, q_lenF]; (first | rw [if_pos c1] | rw [if_neg c1] | skip); (first | rw [if_pos c3] | rw [if_neg c3] | skip); (first | rw [if_pos c11] | rw [if_neg c11] | skip); (first | rw [if_pos c12] | rw [if_neg c12] | skip); (first | rw [if_pos c14] | rw [if_neg c14] | skip); (try dsimp only); (first | rw [if_pos c1] | rw [if_neg c1] | skip); (first | rw [if_pos c3] | rw [if_neg c3] | skip); (first | rw [if_pos c11] | rw [if_neg c11] | skip); (first | rw [if_pos c12] | rw [if_neg c12] | skip); (first | rw [if_pos c14] | rw [if_neg c14] | skip); rw [e_x1]; (try simp only [Int32.add_zero])) (by rw [k_sum, q_lenF]; (first | rw [if_pos c1] | rw [if_neg c1] | skip); (first | rw [if_pos c3] | rw [if_neg c3] | skip); (first | rw [if_pos c11] | rw [if_neg c11] | skip); (first | rw [if_pos c12] | rw [if_neg c12] | skip); (first | rw [if_pos c14] | rw [if_neg c14] | skip); (try dsimp only); (first | rw [if_pos c1] | rw [if_neg c1] | skip); (first | rw [if_pos c3] | rw [if_neg c3] | skip); (first | rw [if_pos c11] | rw [if_neg c11] | skip); (first | rw [if_pos c12] | rw [if_neg c12] | skip); (first | rw [if_pos c14] | rw [if_neg c14] | skip); rw [e_x2]; (try simp only [Int32.add_zero])) (by rw [k_sum, q_lenF]; (first | rw [if_pos c1] | rw [if_neg c1] | skip); (first | rw [if_pos c3] | rw [if_neg c3] | skip); (first | rw [if_pos c11] | rw [if_neg c11] | skip); (first | rw [if_pos c12] | rw [if_neg c12] | skip); (first | rw [if_pos c14] | rw [if_neg c14] | skip); (try dsimp only); (first | rw [if_pos c1] | rw [if_neg c1] | skip); (first | rw [if_pos c3] | rw [if_neg c3] | skip); (first | rw [if_pos c11] | rw [if_neg c11] | skip); (first | rw [if_pos c12] | rw [if_neg c12] | skip); (first | rw [if_pos c14] | rw [if_neg c14] | skip); rw [e_x3]; (try simp only [Int32.add_zero])) (by rw [k_sum, q_lenF]; (first | rw [if_pos c1] | rw [if_neg c1] | skip); (first | rw [if_pos c3] | rw [if_neg c3] | skip); (first | rw [if_pos c11] | rw [if_neg c11] | skip); (first | rw [if_pos c12] | rw [if_neg c12] | skip); (first | rw [if_pos c14] | rw [if_neg c14] | skip); (try dsimp only); (first | rw [if_pos c1] | rw [if_neg c1] | skip); (first | rw [if_pos c3] | rw [if_neg c3] | skip); (first | rw [if_pos c11] | rw [if_neg c11] | skip); (first | rw [if_pos c12] | rw [if_neg c12] | skip); (first | rw [if_pos c14] | rw [if_neg c14] | skip); rw [e_x4]; (try simp only [Int32.add_zero])) (by rw [k_sum, q_lenF]; (first | rw [if_pos c1] | rw [if_neg c1] | skip); (first | rw [if_pos c3] | rw [if_neg c3] | skip); (first | rw [if_pos c11] | rw [if_neg c11] | skip); (first | rw [if_pos c12] | rw [if_neg c12] | skip); (first | rw [if_pos c14] | rw [if_neg c14] | skip); (try dsimp only); (first | rw [if_pos c1] | rw [if_neg c1] | skip); (first | rw [if_pos c3] | rw [if_neg c3] | skip); (first | rw [if_pos c11] | rw [if_neg c11] | skip); (first | rw [if_pos c12] | rw [if_neg c12] | skip); (first | rw [if_pos c14] | rw [if_neg c14] | skip); rw [e_x5]; (try simp only [Int32.add_zero]))  _ _ _ hI (lv_sub hl [0, 7, 8, 1, 2, 3, 4, 5, 9, 10, 11] rfl)
            · refine lv_if_eq (tgt := 99) hx hb dX3_tellLender_92 (by decide) (fun _ => ?_) (fun c17 => absurd c17 (by decide))
              refine lv_iconst (v := 0) hx hb dX3_tellLender_99 (by decide) ?_
              refine lv_iadd hx hb dX3_tellLender_100 ?_
              refine lv_istore (lv' := [(6, .int (x4 + 0)), (5, .int (x3 + (q_worth V k))), (4, .int (x2 + (V (12 + k) 5))), (3, .int (x1 + 1)), (11, .ref (ad r (12 + k))), (10, .int (nI k)), (9, .int 16), (8, .ref (ad r 2)), (7, .int x5), (0, .ref (ad r 0)), (1, .int le), (2, .int w)]) hx hb dX3_tellLender_101 hl (by decide) rfl (fun ls hl => ?_)
              refine lv_iload hx hb dX3_tellLender_103 (lv_at hl 8 rfl) ?_
              refine lv_aload_n hx hb dX3_tellLender_105 rfl (lv_at hl 9 rfl) ?_
              refine lv_aload hx hb dX3_tellLender_106 (lv_at hl 4 rfl) ?_
              refine lv_iload_n hx hb dX3_tellLender_108 rfl (lv_at hl 10 rfl) ?_
              refine lv_aload_n hx hb dX3_tellLender_109 rfl (lv_at hl 9 rfl) ?_
              refine g_get 2 hx hb hts hown hC hI i_X3 (ok_c 0 hr (by decide)) (e_st hr g_us) rfl (by decide) qf_X3_23 rfl rfl dX3_tellLender_110 ?_
              refine lv_iconst (v := 2) hx hb dX3_tellLender_113 (by decide) ?_
              refine g_iald 2 hx hb hC hI (ok_c 3 hr (by decide)) (e_pr hr g_us) (by unfold vp_in; decide) rfl dX3_tellLender_114 ?_
              refine g_callVi (rest := [.int x5]) (c_X3_wouldBeCalled l D tb ad hj P M r hr V k hk10 le (V 3 2)) rfl rfl gm_X3_wouldBeCalled hx hb hml hown hts hC hI (ok_c 0 hr (by decide)) (e_st hr g_us) rfl rfl qm_X3_158 rfl hl.1 rfl ⟨rfl, rfl, by decide, by decide⟩ (Nat.le_of_ble_eq_true rfl) ⟨Nat.zero_le _, Nat.zero_le _⟩ dX3_tellLender_115 (fun H locs hI => ?_)
              refine g_tf (fun c18 => ?_) (fun c18 => ?_)
              · refine lv_if_eq (tgt := 125) hx hb dX3_tellLender_118 (by decide) (fun c19 => absurd c19 (by decide)) (fun _ => ?_)
                refine lv_iconst (v := 1) hx hb dX3_tellLender_121 (by decide) ?_
                refine lv_goto (tgt := 126) hx hb dX3_tellLender_122 (by decide) ?_
                refine lv_iadd hx hb dX3_tellLender_126 ?_
                refine lv_istore (lv' := [(7, .int (x5 + 1)), (6, .int (x4 + 0)), (5, .int (x3 + (q_worth V k))), (4, .int (x2 + (V (12 + k) 5))), (3, .int (x1 + 1)), (11, .ref (ad r (12 + k))), (10, .int (nI k)), (9, .int 16), (8, .ref (ad r 2)), (0, .ref (ad r 0)), (1, .int le), (2, .int w)]) hx hb dX3_tellLender_127 hl (by decide) rfl (fun ls hl => ?_)
                refine lv_iinc (v := nI (k + 1)) (lv' := [(10, .int (nI (k + 1))), (7, .int (x5 + 1)), (6, .int (x4 + 0)), (5, .int (x3 + (q_worth V k))), (4, .int (x2 + (V (12 + k) 5))), (3, .int (x1 + 1)), (11, .ref (ad r (12 + k))), (9, .int 16), (8, .ref (ad r 2)), (0, .ref (ad r 0)), (1, .int le), (2, .int w)]) hx hb dX3_tellLender_129 hl (k := 6) rfl (nI_1 _) (by decide) rfl (fun ls hl => ?_)
                refine lv_goto (tgt := 38) hx hb dX3_tellLender_132 (by decide) ?_
                exact ih38 (k + 1) _ _ _ _ _ (by omega) (by omega) (by rw [k_sum, q_lenF]; (first | rw [if_pos c1] | rw [if_neg c1] | skip); (first | rw [if_pos c3] | rw [if_neg c3] | skip); (first | rw [if_pos c11] | rw [if_neg c11] | skip); (first | rw [if_pos c12] | rw [if_neg c12] | skip); (first | rw [if_pos c18] | rw [if_neg c18] | skip); (try dsimp only); (first | rw [if_pos c1] | rw [if_neg c1] | skip); (first | rw [if_pos c3] | rw [if_neg c3] | skip); (first | rw [if_pos c11] | rw [if_neg c11] | skip); (first | rw [if_pos c12] | rw [if_neg c12] | skip); (first | rw [if_pos c18] | rw [if_neg c18] | skip); rw [e_x1]; (try simp only [Int32.add_zero])) (by rw [k_sum, q_lenF]; (first | rw [if_pos c1] | rw [if_neg c1] | skip); (first | rw [if_pos c3] | rw [if_neg c3] | skip); (first | rw [if_pos c11] | rw [if_neg c11] | skip); (first | rw [if_pos c12] | rw [if_neg c12] | skip); (first | rw [if_pos c18] | rw [if_neg c18] | skip); (try dsimp only); (first | rw [if_pos c1] | rw [if_neg c1] | skip); (first | rw [if_pos c3] | rw [if_neg c3] | skip); (first | rw [if_pos c11] | rw [if_neg c11] | skip); (first | rw [if_pos c12] | rw [if_neg c12] | skip); (first | rw [if_pos c18] | rw [if_neg c18] | skip); rw [e_x2]; (try simp only [Int32.add_zero])) (by rw [k_sum, q_lenF]; (first | rw [if_pos c1] | rw [if_neg c1] | skip); (first | rw [if_pos c3] | rw [if_neg c3] | skip); (first | rw [if_pos c11] | rw [if_neg c11] | skip); (first | rw [if_pos c12] | rw [if_neg c12] | skip); (first | rw [if_pos c18] | rw [if_neg c18] | skip); (try dsimp only); (first | rw [if_pos c1] | rw [if_neg c1] | skip); (first | rw [if_pos c3] | rw [if_neg c3] | skip); (first | rw [if_pos c11] | rw [if_neg c11] | skip); (first | rw [if_pos c12] | rw [if_neg c12] | skip); (first | rw [if_pos c18] | rw [if_neg c18] | skip); rw [e_x3]; (try simp only [Int32.add_zero])) (by rw [k_sum, q_lenF]; (first | rw [if_pos c1] | rw [if_neg c1] | skip); (first | rw [if_pos c3] | rw [if_neg c3] | skip); (first | rw [if_pos c11] | rw [if_neg c11] | skip); (first | rw [if_pos c12] | rw [if_neg c12] | skip); (first | rw [if_pos c18] | rw [if_neg c18] | skip); (try dsimp only); (first | rw [if_pos c1] | rw [if_neg c1] | skip); (first | rw [if_pos c3] | rw [if_neg c3] | skip); (first | rw [if_pos c11] | rw [if_neg c11] | skip); (first | rw [if_pos c12] | rw [if_neg c12] | skip); (first | rw [if_pos c18] | rw [if_neg c18] | skip); rw [e_x4]; (try simp only [Int32.add_zero])) (by rw [k_sum, q_lenF]; (first | rw [if_pos c1] | rw [if_neg c1] | skip); (first | rw [if_pos c3] | rw [if_neg c3] | skip); (first | rw [if_pos c11] | rw [if_neg c11] | skip); (first | rw [if_pos c12] | rw [if_neg c12] | skip); (first | rw [if_pos c18] | rw [if_neg c18] | skip); (try dsimp only); (first | rw [if_pos c1] | rw [if_neg c1] | skip); (first | rw [if_pos c3] | rw [if_neg c3] | skip); (first | rw [if_pos c11] | rw [if_neg c11] | skip); (first | rw [if_pos c12] | rw [if_neg c12] | skip); (first | rw [if_pos c18] | rw [if_neg c18] | skip); rw [e_x5]; (try simp only [Int32.add_zero]))  _ _ _ hI (lv_sub hl [0, 7, 8, 1, 2, 3, 4, 5, 9, 10, 11] rfl)
              · refine lv_if_eq (tgt := 125) hx hb dX3_tellLender_118 (by decide) (fun _ => ?_) (fun c20 => absurd c20 (by decide))
                refine lv_iconst (v := 0) hx hb dX3_tellLender_125 (by decide) ?_
                refine lv_iadd hx hb dX3_tellLender_126 ?_
                refine lv_istore (lv' := [(7, .int (x5 + 0)), (6, .int (x4 + 0)), (5, .int (x3 + (q_worth V k))), (4, .int (x2 + (V (12 + k) 5))), (3, .int (x1 + 1)), (11, .ref (ad r (12 + k))), (10, .int (nI k)), (9, .int 16), (8, .ref (ad r 2)), (0, .ref (ad r 0)), (1, .int le), (2, .int w)]) hx hb dX3_tellLender_127 hl (by decide) rfl (fun ls hl => ?_)
                refine lv_iinc (v := nI (k + 1)) (lv' := [(10, .int (nI (k + 1))), (7, .int (x5 + 0)), (6, .int (x4 + 0)), (5, .int (x3 + (q_worth V k))), (4, .int (x2 + (V (12 + k) 5))), (3, .int (x1 + 1)), (11, .ref (ad r (12 + k))), (9, .int 16), (8, .ref (ad r 2)), (0, .ref (ad r 0)), (1, .int le), (2, .int w)]) hx hb dX3_tellLender_129 hl (k := 6) rfl (nI_1 _) (by decide) rfl (fun ls hl => ?_)
                refine lv_goto (tgt := 38) hx hb dX3_tellLender_132 (by decide) ?_
                exact ih38 (k + 1) _ _ _ _ _ (by omega) (by omega) (by rw [k_sum, q_lenF]; (first | rw [if_pos c1] | rw [if_neg c1] | skip); (first | rw [if_pos c3] | rw [if_neg c3] | skip); (first | rw [if_pos c11] | rw [if_neg c11] | skip); (first | rw [if_pos c12] | rw [if_neg c12] | skip); (first | rw [if_pos c18] | rw [if_neg c18] | skip); (try dsimp only); (first | rw [if_pos c1] | rw [if_neg c1] | skip); (first | rw [if_pos c3] | rw [if_neg c3] | skip); (first | rw [if_pos c11] | rw [if_neg c11] | skip); (first | rw [if_pos c12] | rw [if_neg c12] | skip); (first | rw [if_pos c18] | rw [if_neg c18] | skip); rw [e_x1]; (try simp only [Int32.add_zero])) (by rw [k_sum, q_lenF]; (first | rw [if_pos c1] | rw [if_neg c1] | skip); (first | rw [if_pos c3] | rw [if_neg c3] | skip); (first | rw [if_pos c11] | rw [if_neg c11] | skip); (first | rw [if_pos c12] | rw [if_neg c12] | skip); (first | rw [if_pos c18] | rw [if_neg c18] | skip); (try dsimp only); (first | rw [if_pos c1] | rw [if_neg c1] | skip); (first | rw [if_pos c3] | rw [if_neg c3] | skip); (first | rw [if_pos c11] | rw [if_neg c11] | skip); (first | rw [if_pos c12] | rw [if_neg c12] | skip); (first | rw [if_pos c18] | rw [if_neg c18] | skip); rw [e_x2]; (try simp only [Int32.add_zero])) (by rw [k_sum, q_lenF]; (first | rw [if_pos c1] | rw [if_neg c1] | skip); (first | rw [if_pos c3] | rw [if_neg c3] | skip); (first | rw [if_pos c11] | rw [if_neg c11] | skip); (first | rw [if_pos c12] | rw [if_neg c12] | skip); (first | rw [if_pos c18] | rw [if_neg c18] | skip); (try dsimp only); (first | rw [if_pos c1] | rw [if_neg c1] | skip); (first | rw [if_pos c3] | rw [if_neg c3] | skip); (first | rw [if_pos c11] | rw [if_neg c11] | skip); (first | rw [if_pos c12] | rw [if_neg c12] | skip); (first | rw [if_pos c18] | rw [if_neg c18] | skip); rw [e_x3]; (try simp only [Int32.add_zero])) (by rw [k_sum, q_lenF]; (first | rw [if_pos c1] | rw [if_neg c1] | skip); (first | rw [if_pos c3] | rw [if_neg c3] | skip); (first | rw [if_pos c11] | rw [if_neg c11] | skip); (first | rw [if_pos c12] | rw [if_neg c12] | skip); (first | rw [if_pos c18] | rw [if_neg c18] | skip); (try dsimp only); (first | rw [if_pos c1] | rw [if_neg c1] | skip); (first | rw [if_pos c3] | rw [if_neg c3] | skip); (first | rw [if_pos c11] | rw [if_neg c11] | skip); (first | rw [if_pos c12] | rw [if_neg c12] | skip); (first | rw [if_pos c18] | rw [if_neg c18] | skip); rw [e_x4]; (try simp only [Int32.add_zero])) (by rw [k_sum, q_lenF]; (first | rw [if_pos c1] | rw [if_neg c1] | skip); (first | rw [if_pos c3] | rw [if_neg c3] | skip); (first | rw [if_pos c11] | rw [if_neg c11] | skip); (first | rw [if_pos c12] | rw [if_neg c12] | skip); (first | rw [if_pos c18] | rw [if_neg c18] | skip); (try dsimp only); (first | rw [if_pos c1] | rw [if_neg c1] | skip); (first | rw [if_pos c3] | rw [if_neg c3] | skip); (first | rw [if_pos c11] | rw [if_neg c11] | skip); (first | rw [if_pos c12] | rw [if_neg c12] | skip); (first | rw [if_pos c18] | rw [if_neg c18] | skip); rw [e_x5]; (try simp only [Int32.add_zero]))  _ _ _ hI (lv_sub hl [0, 7, 8, 1, 2, 3, 4, 5, 9, 10, 11] rfl)
    exact lp38 (16 + 1) 0 _ _ _ _ _ (by omega) (by omega) rfl rfl rfl rfl rfl  _ _ _ hI (lv_sub hl [0, 1, 2, 3, 4, 5, 6, 7, 8, 9, 10] rfl)
  · refine lv_if_ne (tgt := 10) hx hb dX3_tellLender_4 (by decide) (fun c21 => absurd c21 (by decide)) (fun _ => ?_)
    refine lv_ldc (v := (-2000000001)) hx hb hown (hts _ qc_X3_74) dX3_tellLender_7 ?_
    exact g_ir hQ hx hb hr0 hlk hC hI dX3_tellLender_9 rfl (by unfold q_tellLender; skip; (first | rw [if_pos c1] | rw [if_neg c1] | skip); try with_reducible rfl) rfl rfl
