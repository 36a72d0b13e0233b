def m_stores (V : g_V) (o : Int32) (g : Int32) (a : Int32) (n : Nat) : Int32 × g_V :=
  if m_in o 0 4 then (if m_in g 0 2 then (if m_in a 1 4000 then (if (m_room V g) < a then ((-2000000003), V) else (if (nI n) = 16 then ((-2000000003), V) else ((m_makes ((k_iter (m_fillStep g) (V, a) 5).1) o g (a - ((a * (((k_iter (m_fillStep g) (V, a) 5).1) 1 9)) / 100)) n) 1 (34 + 7 * n + 0), (m_makes ((k_iter (m_fillStep g) (V, a) 5).1) o g (a - ((a * (((k_iter (m_fillStep g) (V, a) 5).1) 1 9)) / 100)) n)))) else ((-2000000001), V)) else ((-2000000001), V)) else ((-2000000001), V)
abbrev rm_X5_stores : Room := { frames := 3, cells := 0, slots := 0, locals := 68 }
set_option maxHeartbeats 800000 in
set_option maxRecDepth 100000 in
theorem c_X5_stores (l : Launch) (D : va_G) (tb : g_T) (ad : g_Ad) (hj : g_inj ad) (P : g_P) (M : g_M) (V : g_V) (o : Int32) (g : Int32) (a : Int32) (n : Nat) (hn : m_N V n) : g_Ci l yX5_stores cX5_stores 7 (some .int) rm_X5_stores D tb ad [.ref (ad 7 0), .int o, .int g, .int a] P (va_up M 7 V) ((m_stores V o g a n).1) P (va_up M 7 ((m_stores V o g a n).2)) := by
  refine g_go (by decide) (Nat.le_of_ble_eq_true rfl) hj ?_
  intro p e s m below meth c ls H locs R args Q hR0 hQ hx hb hml hr0 hlk hown hts hC hI hl
  subst hR0
  have hown : s.vm.findClass RX5 = some m.cls := hown
  have hl : lv_has ls 7 [(0, .ref (ad 7 0)), (1, .int o), (2, .int g), (3, .int a)] := hl
  refine lv_iload_n hx hb dX5_stores_0 rfl (lv_at hl 1 rfl) ?_
  refine lv_iconst (v := 0) hx hb dX5_stores_1 (by decide) ?_
  refine lv_iconst (v := 4) hx hb dX5_stores_2 (by decide) ?_
  refine g_callSi (rest := []) (c_X5_in l D tb ad hj P (va_up M 7 V) o 0 4) rfl rfl gm_X5_in hx hb hml hown hts hC hI qm_X5_67 rfl hl.1 rfl ⟨rfl, rfl, by decide, by decide⟩ (Nat.le_of_ble_eq_true rfl) ⟨Nat.zero_le _, Nat.zero_le _⟩ dX5_stores_3 (fun H locs hI => ?_)
  refine g_tf (fun c1 => ?_) (fun c1 => ?_)
  · refine lv_if_eq (tgt := 29) hx hb dX5_stores_6 (by decide) (fun c2 => absurd c2 (by decide)) (fun _ => ?_)
    refine lv_iload_n hx hb dX5_stores_9 rfl (lv_at hl 2 rfl) ?_
    refine lv_iconst (v := 0) hx hb dX5_stores_10 (by decide) ?_
    refine lv_iconst (v := 2) hx hb dX5_stores_11 (by decide) ?_
    refine g_callSi (rest := []) (c_X5_in l D tb ad hj P (va_up M 7 V) g 0 2) rfl rfl gm_X5_in hx hb hml hown hts hC hI qm_X5_67 rfl hl.1 rfl ⟨rfl, rfl, by decide, by decide⟩ (Nat.le_of_ble_eq_true rfl) ⟨Nat.zero_le _, Nat.zero_le _⟩ dX5_stores_12 (fun H locs hI => ?_)
    refine g_tf (fun c3 => ?_) (fun c3 => ?_)
    · refine lv_if_eq (tgt := 29) hx hb dX5_stores_15 (by decide) (fun c4 => absurd c4 (by decide)) (fun _ => ?_)
      refine lv_iload_n hx hb dX5_stores_18 rfl (lv_at hl 3 rfl) ?_
      refine lv_iconst (v := 1) hx hb dX5_stores_19 (by decide) ?_
      refine lv_sipush (v := 4000) hx hb dX5_stores_20 (by decide) ?_
      refine g_callSi (rest := []) (c_X5_in l D tb ad hj P (va_up M 7 V) a 1 4000) rfl rfl gm_X5_in hx hb hml hown hts hC hI qm_X5_67 rfl hl.1 rfl ⟨rfl, rfl, by decide, by decide⟩ (Nat.le_of_ble_eq_true rfl) ⟨Nat.zero_le _, Nat.zero_le _⟩ dX5_stores_23 (fun H locs hI => ?_)
      refine g_tf (fun c5 => ?_) (fun c5 => ?_)
      · refine lv_if_ne (tgt := 32) hx hb dX5_stores_26 (by decide) (fun _ => ?_) (fun c6 => absurd c6 (by decide))
        refine lv_aload_n hx hb dX5_stores_32 rfl (lv_at hl 0 rfl) ?_
        refine lv_iload_n hx hb dX5_stores_33 rfl (lv_at hl 2 rfl) ?_
        refine g_callVi (rest := []) (c_X5_room l D tb ad hj P M V g) rfl rfl gm_X5_room hx hb hml hown hts hC hI (by decide) (e_x g_us) rfl rfl qm_X5_71 rfl hl.1 rfl ⟨rfl, rfl, by decide, by decide⟩ (Nat.le_of_ble_eq_true rfl) ⟨Nat.zero_le _, Nat.zero_le _⟩ dX5_stores_34 (fun H locs hI => ?_)
        refine lv_iload_n hx hb dX5_stores_37 rfl (lv_at hl 3 rfl) ?_
        refine lv_icmp_lt (tgt := 52) hx hb dX5_stores_38 (by decide) (fun c7 => ?_) (fun c7 => ?_)
        · refine lv_ldc (v := (-2000000003)) hx hb hown (hts _ qc_X5_74) dX5_stores_52 ?_
          exact g_ir hQ hx hb hr0 hlk hC hI dX5_stores_54 rfl (by unfold m_stores; skip; (first | rw [if_pos c1] | rw [if_neg c1] | skip); (first | rw [if_pos c3] | rw [if_neg c3] | skip); (first | rw [if_pos c5] | rw [if_neg c5] | skip); (first | rw [if_pos c7] | rw [if_neg c7] | skip); try with_reducible rfl) rfl (by unfold m_stores; skip; (first | rw [if_pos c1] | rw [if_neg c1] | skip); (first | rw [if_pos c3] | rw [if_neg c3] | skip); (first | rw [if_pos c5] | rw [if_neg c5] | skip); (first | rw [if_pos c7] | rw [if_neg c7] | skip); try with_reducible rfl)
        · refine lv_aload_n hx hb dX5_stores_41 rfl (lv_at hl 0 rfl) ?_
          refine g_get 0 hx hb hts hown hC hI i_X5 (by decide) (e_x g_us) rfl (by decide) qf_X5_7 rfl rfl dX5_stores_42 ?_
          refine lv_iconst (v := 0) hx hb dX5_stores_45 (by decide) ?_
          refine g_iald 0 hx hb hC hI (by decide) (e_xs g_us) (by unfold vp_in; decide) rfl dX5_stores_46 ?_
          refine g_te (y := (nI n)) hn.1 ?_
          refine lv_bipush (v := 16) hx hb dX5_stores_47 (by decide) ?_
          refine lv_icmp_ne (tgt := 55) hx hb dX5_stores_49 (by decide) (fun c8 => ?_) (fun c8 => ?_)
          · have c8n : ¬ n = 16 := fun z => c8 ((nI_eq (a := n) (b := 16) (by omega) (by omega)).mpr z)
            refine lv_iload_n hx hb dX5_stores_55 rfl (lv_at hl 3 rfl) ?_
            refine lv_istore (lv' := [(4, .int a), (0, .ref (ad 7 0)), (1, .int o), (2, .int g), (3, .int a)]) hx hb dX5_stores_56 hl (by decide) rfl (fun ls hl => ?_)
            refine lv_iconst (v := 0) hx hb dX5_stores_58 (by decide) ?_
            refine lv_istore (lv' := [(5, .int 0), (4, .int a), (0, .ref (ad 7 0)), (1, .int o), (2, .int g), (3, .int a)]) hx hb dX5_stores_59 hl (by decide) rfl (fun ls hl => ?_)
            have lp61 : ∀ (d k : Nat) (Vx : g_V) (y : Int32), k ≤ 5 → 5 < k + d → Vx = (k_iter (m_fillStep g) (V, a) k).1 → y = (k_iter (m_fillStep g) (V, a) k).2 → (Vx 1 0 = nI n) → ∀ (H : Heap) (locs : List Loc) (ls : Array Slot), g_I D tb ad (g_A ad) s H locs P (va_up M 7 Vx) → lv_has ls 7 [(5, .int (nI k)), (4, .int y), (0, .ref (ad 7 0)), (1, .int o), (2, .int g), (3, .int a)] → W p l e rm_X5_stores s m args below meth c H locs 0 0 Q (F0 m 61 ls []) := by
              intro d
              induction d with
              | zero => intro k Vx y hkp hfu; intros; omega
              | succ d ih61 =>
                intro k Vx y hkp hfu e_Vx e_y h0 H locs ls hI hl
                refine lv_iload hx hb dX5_stores_61 (lv_at hl 0 rfl) ?_
                refine lv_iconst (v := 5) hx hb dX5_stores_63 (by decide) ?_
                refine lv_icmp_ge (tgt := 130) hx hb dX5_stores_64 (by decide) (fun c9 => ?_) (fun c9 => ?_)
                · have c9n : 5 ≤ k := (nI_leI (a := 5) (b := k) (by omega) (by omega)).mp c9
                  refine lv_aload_n hx hb dX5_stores_130 rfl (lv_at hl 2 rfl) ?_
                  refine lv_aload_n hx hb dX5_stores_131 rfl (lv_at hl 2 rfl) ?_
                  refine lv_iload_n hx hb dX5_stores_132 rfl (lv_at hl 3 rfl) ?_
                  refine lv_iload_n hx hb dX5_stores_133 rfl (lv_at hl 4 rfl) ?_
                  refine lv_iload_n hx hb dX5_stores_134 rfl (lv_at hl 5 rfl) ?_
                  refine lv_iload_n hx hb dX5_stores_135 rfl (lv_at hl 5 rfl) ?_
                  refine lv_aload_n hx hb dX5_stores_136 rfl (lv_at hl 2 rfl) ?_
                  refine g_get 0 hx hb hts hown hC hI i_X5 (by decide) (e_x g_us) rfl (by decide) qf_X5_7 rfl rfl dX5_stores_137 ?_
                  refine lv_bipush (v := 9) hx hb dX5_stores_140 (by decide) ?_
                  refine g_iald 9 hx hb hC hI (by decide) (e_xs g_us) (by unfold vp_in; decide) rfl dX5_stores_142 ?_
                  refine lv_imul hx hb dX5_stores_143 ?_
                  refine lv_bipush (v := 100) hx hb dX5_stores_144 (by decide) ?_
                  refine lv_idiv hx hb dX5_stores_146 (by decide) ?_
                  refine lv_isub hx hb dX5_stores_147 ?_
                  refine g_callVi (rest := [.ref (ad 7 0)]) (c_X5_makes l D tb ad hj P M Vx o g (a - ((a * (Vx 1 9)) / 100)) n ⟨h0, by omega⟩ (by omega)) rfl rfl gm_X5_makes hx hb hml hown hts hC hI (by decide) (e_x g_us) rfl rfl qm_X5_79 rfl hl.1 rfl ⟨rfl, rfl, by decide, by decide⟩ (Nat.le_of_ble_eq_true rfl) ⟨Nat.zero_le _, Nat.zero_le _⟩ dX5_stores_148 (fun H locs hI => ?_)
                  refine lv_iconst (v := 0) hx hb dX5_stores_151 (by decide) ?_
                  refine g_callVi (rest := []) (c_X5_of l D tb ad hj P M (m_makes Vx o g (a - ((a * (Vx 1 9)) / 100)) n) n 0 (by first | assumption | omega) (by first | assumption | omega)) rfl rfl gm_X5_of hx hb hml hown hts hC hI (by decide) (e_x g_us) rfl rfl qm_X5_33 rfl hl.1 rfl ⟨rfl, rfl, by decide, by decide⟩ (Nat.le_of_ble_eq_true rfl) ⟨Nat.zero_le _, Nat.zero_le _⟩ dX5_stores_152 (fun H locs hI => ?_)
                  exact g_ir hQ hx hb hr0 hlk hC hI dX5_stores_155 rfl (by rw [show k = 5 from (by omega)] at e_Vx e_y; unfold m_stores; (try rw [← e_Vx]); (try rw [← e_y]); (first | rw [if_pos c1] | rw [if_neg c1] | skip); (first | rw [if_pos c3] | rw [if_neg c3] | skip); (first | rw [if_pos c5] | rw [if_neg c5] | skip); (first | rw [if_pos c7] | rw [if_neg c7] | skip); (first | rw [if_pos c8] | rw [if_neg c8] | skip); (first | rw [if_pos c9] | rw [if_neg c9] | skip); try with_reducible rfl) rfl (by rw [show k = 5 from (by omega)] at e_Vx e_y; unfold m_stores; (try rw [← e_Vx]); (try rw [← e_y]); (first | rw [if_pos c1] | rw [if_neg c1] | skip); (first | rw [if_pos c3] | rw [if_neg c3] | skip); (first | rw [if_pos c5] | rw [if_neg c5] | skip); (first | rw [if_pos c7] | rw [if_neg c7] | skip); (first | rw [if_pos c8] | rw [if_neg c8] | skip); (first | rw [if_pos c9] | rw [if_neg c9] | skip); try with_reducible rfl)
                · have c9n : ¬ 5 ≤ k := fun z => c9 ((nI_leI (a := 5) (b := k) (by omega) (by omega)).mpr z)
                  refine lv_sipush (v := 2000) hx hb dX5_stores_67 (by decide) ?_
                  refine lv_aload_n hx hb dX5_stores_70 rfl (lv_at hl 2 rfl) ?_
                  refine lv_iload hx hb dX5_stores_71 (lv_at hl 0 rfl) ?_
                  refine g_callVi (rest := [.int 2000]) (c_X5_amount l D tb ad hj P M Vx k (by first | assumption | omega)) rfl rfl gm_X5_amount hx hb hml hown hts hC hI (by decide) (e_x g_us) rfl rfl qm_X5_55 rfl hl.1 rfl ⟨rfl, rfl, by decide, by decide⟩ (Nat.le_of_ble_eq_true rfl) ⟨Nat.zero_le _, Nat.zero_le _⟩ dX5_stores_73 (fun H locs hI => ?_)
                  refine lv_isub hx hb dX5_stores_76 ?_
                  refine lv_iload hx hb dX5_stores_77 (lv_at hl 1 rfl) ?_
                  refine lv_icmp_ge (tgt := 95) hx hb dX5_stores_79 (by decide) (fun c10 => ?_) (fun c10 => ?_)
                  · refine lv_iload hx hb dX5_stores_95 (lv_at hl 1 rfl) ?_
                    refine lv_istore (lv' := [(6, .int y), (5, .int (nI k)), (4, .int y), (0, .ref (ad 7 0)), (1, .int o), (2, .int g), (3, .int a)]) hx hb dX5_stores_97 hl (by decide) rfl (fun ls hl => ?_)
                    refine lv_aload_n hx hb dX5_stores_99 rfl (lv_at hl 3 rfl) ?_
                    refine lv_iload hx hb dX5_stores_100 (lv_at hl 1 rfl) ?_
                    refine g_callVi (rest := []) (c_X5_grade l D tb ad hj P M Vx k (by first | assumption | omega)) rfl rfl gm_X5_grade hx hb hml hown hts hC hI (by decide) (e_x g_us) rfl rfl qm_X5_52 rfl hl.1 rfl ⟨rfl, rfl, by decide, by decide⟩ (Nat.le_of_ble_eq_true rfl) ⟨Nat.zero_le _, Nat.zero_le _⟩ dX5_stores_102 (fun H locs hI => ?_)
                    refine lv_iload_n hx hb dX5_stores_105 rfl (lv_at hl 5 rfl) ?_
                    refine lv_icmp_ne (tgt := 124) hx hb dX5_stores_106 (by decide) (fun c11 => ?_) (fun c11 => ?_)
                    · refine lv_iinc (v := nI (k + 1)) (lv' := [(5, .int (nI (k + 1))), (6, .int y), (4, .int y), (0, .ref (ad 7 0)), (1, .int o), (2, .int g), (3, .int a)]) hx hb dX5_stores_124 hl (k := 1) rfl (nI_1 _) (by decide) rfl (fun ls hl => ?_)
                      refine lv_goto (tgt := 61) hx hb dX5_stores_127 (by decide) ?_
                      exact ih61 (k + 1) _ _ (by omega) (by omega) (by rw [k_iter, m_fillStep, m_fpart, ← e_Vx, ← e_y]; (first | rw [if_pos c1] | rw [if_neg c1] | skip); (first | rw [if_pos c3] | rw [if_neg c3] | skip); (first | rw [if_pos c5] | rw [if_neg c5] | skip); (first | rw [if_pos c7] | rw [if_neg c7] | skip); (first | rw [if_pos c8] | rw [if_neg c8] | skip); (first | rw [if_pos c9] | rw [if_neg c9] | skip); (first | rw [if_pos c10] | rw [if_neg c10] | skip); (first | rw [if_pos c11] | rw [if_neg c11] | skip); try (first | with_reducible rfl | exact e_Vx | exact e_y)) (by rw [k_iter, m_fillStep, m_fpart, ← e_Vx, ← e_y]; (first | rw [if_pos c1] | rw [if_neg c1] | skip); (first | rw [if_pos c3] | rw [if_neg c3] | skip); (first | rw [if_pos c5] | rw [if_neg c5] | skip); (first | rw [if_pos c7] | rw [if_neg c7] | skip); (first | rw [if_pos c8] | rw [if_neg c8] | skip); (first | rw [if_pos c9] | rw [if_neg c9] | skip); (first | rw [if_pos c10] | rw [if_neg c10] | skip); (first | rw [if_pos c11] | rw [if_neg c11] | skip); try (first | with_reducible rfl | exact e_Vx | exact e_y)) (by first | exact h0 | (unfold m_moves; rw [w2_ne (by omega)]; exact h0)) _ _ _ hI (lv_sub hl [0, 2, 3, 4, 5, 6] rfl)
                    · refine lv_aload_n hx hb dX5_stores_109 rfl (lv_at hl 3 rfl) ?_
                      refine lv_iload hx hb dX5_stores_110 (lv_at hl 1 rfl) ?_
                      refine lv_iload hx hb dX5_stores_112 (lv_at hl 0 rfl) ?_
                      refine g_callVv (rest := []) (c_X5_moves l D tb ad hj P M Vx k y (by first | assumption | omega)) rfl rfl gm_X5_moves hx hb hml hown hts hC hI (by decide) (e_x g_us) rfl rfl qm_X5_75 rfl hl.1 rfl ⟨rfl, rfl, by decide, by decide⟩ (Nat.le_of_ble_eq_true rfl) ⟨Nat.zero_le _, Nat.zero_le _⟩ dX5_stores_114 (fun H locs hI => ?_)
                      refine lv_iload hx hb dX5_stores_117 (lv_at hl 2 rfl) ?_
                      refine lv_iload hx hb dX5_stores_119 (lv_at hl 0 rfl) ?_
                      refine lv_isub hx hb dX5_stores_121 ?_
                      refine lv_istore (lv' := [(4, .int (y - y)), (6, .int y), (5, .int (nI k)), (0, .ref (ad 7 0)), (1, .int o), (2, .int g), (3, .int a)]) hx hb dX5_stores_122 hl (by decide) rfl (fun ls hl => ?_)
                      refine lv_iinc (v := nI (k + 1)) (lv' := [(5, .int (nI (k + 1))), (4, .int (y - y)), (6, .int y), (0, .ref (ad 7 0)), (1, .int o), (2, .int g), (3, .int a)]) hx hb dX5_stores_124 hl (k := 2) rfl (nI_1 _) (by decide) rfl (fun ls hl => ?_)
                      refine lv_goto (tgt := 61) hx hb dX5_stores_127 (by decide) ?_
                      exact ih61 (k + 1) _ _ (by omega) (by omega) (by rw [k_iter, m_fillStep, m_fpart, ← e_Vx, ← e_y]; (first | rw [if_pos c1] | rw [if_neg c1] | skip); (first | rw [if_pos c3] | rw [if_neg c3] | skip); (first | rw [if_pos c5] | rw [if_neg c5] | skip); (first | rw [if_pos c7] | rw [if_neg c7] | skip); (first | rw [if_pos c8] | rw [if_neg c8] | skip); (first | rw [if_pos c9] | rw [if_neg c9] | skip); (first | rw [if_pos c10] | rw [if_neg c10] | skip); (first | rw [if_pos c11] | rw [if_neg c11] | skip); try (first | with_reducible rfl | exact e_Vx | exact e_y)) (by rw [k_iter, m_fillStep, m_fpart, ← e_Vx, ← e_y]; (first | rw [if_pos c1] | rw [if_neg c1] | skip); (first | rw [if_pos c3] | rw [if_neg c3] | skip); (first | rw [if_pos c5] | rw [if_neg c5] | skip); (first | rw [if_pos c7] | rw [if_neg c7] | skip); (first | rw [if_pos c8] | rw [if_neg c8] | skip); (first | rw [if_pos c9] | rw [if_neg c9] | skip); (first | rw [if_pos c10] | rw [if_neg c10] | skip); (first | rw [if_pos c11] | rw [if_neg c11] | skip); try (first | with_reducible rfl | exact e_Vx | exact e_y)) (by first | exact h0 | (unfold m_moves; rw [w2_ne (by omega)]; exact h0)) _ _ _ hI (lv_sub hl [0, 1, 3, 4, 5, 6] rfl)
                  · refine lv_sipush (v := 2000) hx hb dX5_stores_82 (by decide) ?_
                    refine lv_aload_n hx hb dX5_stores_85 rfl (lv_at hl 2 rfl) ?_
                    refine lv_iload hx hb dX5_stores_86 (lv_at hl 0 rfl) ?_
                    refine g_callVi (rest := [.int 2000]) (c_X5_amount l D tb ad hj P M Vx k (by first | assumption | omega)) rfl rfl gm_X5_amount hx hb hml hown hts hC hI (by decide) (e_x g_us) rfl rfl qm_X5_55 rfl hl.1 rfl ⟨rfl, rfl, by decide, by decide⟩ (Nat.le_of_ble_eq_true rfl) ⟨Nat.zero_le _, Nat.zero_le _⟩ dX5_stores_88 (fun H locs hI => ?_)
                    refine lv_isub hx hb dX5_stores_91 ?_
                    refine lv_goto (tgt := 97) hx hb dX5_stores_92 (by decide) ?_
                    refine lv_istore (lv' := [(6, .int (2000 - (Vx 1 (24 + 2 * k + 1)))), (5, .int (nI k)), (4, .int y), (0, .ref (ad 7 0)), (1, .int o), (2, .int g), (3, .int a)]) hx hb dX5_stores_97 hl (by decide) rfl (fun ls hl => ?_)
                    refine lv_aload_n hx hb dX5_stores_99 rfl (lv_at hl 3 rfl) ?_
                    refine lv_iload hx hb dX5_stores_100 (lv_at hl 1 rfl) ?_
                    refine g_callVi (rest := []) (c_X5_grade l D tb ad hj P M Vx k (by first | assumption | omega)) rfl rfl gm_X5_grade hx hb hml hown hts hC hI (by decide) (e_x g_us) rfl rfl qm_X5_52 rfl hl.1 rfl ⟨rfl, rfl, by decide, by decide⟩ (Nat.le_of_ble_eq_true rfl) ⟨Nat.zero_le _, Nat.zero_le _⟩ dX5_stores_102 (fun H locs hI => ?_)
                    refine lv_iload_n hx hb dX5_stores_105 rfl (lv_at hl 5 rfl) ?_
                    refine lv_icmp_ne (tgt := 124) hx hb dX5_stores_106 (by decide) (fun c12 => ?_) (fun c12 => ?_)
                    · refine lv_iinc (v := nI (k + 1)) (lv' := [(5, .int (nI (k + 1))), (6, .int (2000 - (Vx 1 (24 + 2 * k + 1)))), (4, .int y), (0, .ref (ad 7 0)), (1, .int o), (2, .int g), (3, .int a)]) hx hb dX5_stores_124 hl (k := 1) rfl (nI_1 _) (by decide) rfl (fun ls hl => ?_)
                      refine lv_goto (tgt := 61) hx hb dX5_stores_127 (by decide) ?_
                      exact ih61 (k + 1) _ _ (by omega) (by omega) (by rw [k_iter, m_fillStep, m_fpart, ← e_Vx, ← e_y]; (first | rw [if_pos c1] | rw [if_neg c1] | skip); (first | rw [if_pos c3] | rw [if_neg c3] | skip); (first | rw [if_pos c5] | rw [if_neg c5] | skip); (first | rw [if_pos c7] | rw [if_neg c7] | skip); (first | rw [if_pos c8] | rw [if_neg c8] | skip); (first | rw [if_pos c9] | rw [if_neg c9] | skip); (first | rw [if_pos c10] | rw [if_neg c10] | skip); (first | rw [if_pos c12] | rw [if_neg c12] | skip); try (first | with_reducible rfl | exact e_Vx | exact e_y)) (by rw [k_iter, m_fillStep, m_fpart, ← e_Vx, ← e_y]; (first | rw [if_pos c1] | rw [if_neg c1] | skip); (first | rw [if_pos c3] | rw [if_neg c3] | skip); (first | rw [if_pos c5] | rw [if_neg c5] | skip); (first | rw [if_pos c7] | rw [if_neg c7] | skip); (first | rw [if_pos c8] | rw [if_neg c8] | skip); (first | rw [if_pos c9] | rw [if_neg c9] | skip); (first | rw [if_pos c10] | rw [if_neg c10] | skip); (first | rw [if_pos c12] | rw [if_neg c12] | skip); try (first | with_reducible rfl | exact e_Vx | exact e_y)) (by first | exact h0 | (unfold m_moves; rw [w2_ne (by omega)]; exact h0)) _ _ _ hI (lv_sub hl [0, 2, 3, 4, 5, 6] rfl)
                    · refine lv_aload_n hx hb dX5_stores_109 rfl (lv_at hl 3 rfl) ?_
                      refine lv_iload hx hb dX5_stores_110 (lv_at hl 1 rfl) ?_
                      refine lv_iload hx hb dX5_stores_112 (lv_at hl 0 rfl) ?_
                      refine g_callVv (rest := []) (c_X5_moves l D tb ad hj P M Vx k (2000 - (Vx 1 (24 + 2 * k + 1))) (by first | assumption | omega)) rfl rfl gm_X5_moves hx hb hml hown hts hC hI (by decide) (e_x g_us) rfl rfl qm_X5_75 rfl hl.1 rfl ⟨rfl, rfl, by decide, by decide⟩ (Nat.le_of_ble_eq_true rfl) ⟨Nat.zero_le _, Nat.zero_le _⟩ dX5_stores_114 (fun H locs hI => ?_)
                      refine lv_iload hx hb dX5_stores_117 (lv_at hl 2 rfl) ?_
                      refine lv_iload hx hb dX5_stores_119 (lv_at hl 0 rfl) ?_
                      refine lv_isub hx hb dX5_stores_121 ?_
                      refine lv_istore (lv' := [(4, .int (y - (2000 - (Vx 1 (24 + 2 * k + 1))))), (6, .int (2000 - (Vx 1 (24 + 2 * k + 1)))), (5, .int (nI k)), (0, .ref (ad 7 0)), (1, .int o), (2, .int g), (3, .int a)]) hx hb dX5_stores_122 hl (by decide) rfl (fun ls hl => ?_)
                      refine lv_iinc (v := nI (k + 1)) (lv' := [(5, .int (nI (k + 1))), (4, .int (y - (2000 - (Vx 1 (24 + 2 * k + 1))))), (6, .int (2000 - (Vx 1 (24 + 2 * k + 1)))), (0, .ref (ad 7 0)), (1, .int o), (2, .int g), (3, .int a)]) hx hb dX5_stores_124 hl (k := 2) rfl (nI_1 _) (by decide) rfl (fun ls hl => ?_)
                      refine lv_goto (tgt := 61) hx hb dX5_stores_127 (by decide) ?_
                      exact ih61 (k + 1) _ _ (by omega) (by omega) (by rw [k_iter, m_fillStep, m_fpart, ← e_Vx, ← e_y]; (first | rw [if_pos c1] | rw [if_neg c1] | skip); (first | rw [if_pos c3] | rw [if_neg c3] | skip); (first | rw [if_pos c5] | rw [if_neg c5] | skip); (first | rw [if_pos c7] | rw [if_neg c7] | skip); (first | rw [if_pos c8] | rw [if_neg c8] | skip); (first | rw [if_pos c9] | rw [if_neg c9] | skip); (first | rw [if_pos c10] | rw [if_neg c10] | skip); (first | rw [if_pos c12] | rw [if_neg c12] | skip); try (first | with_reducible rfl | exact e_Vx | exact e_y)) (by rw [k_iter, m_fillStep, m_fpart, ← e_Vx, ← e_y]; (first | rw [if_pos c1] | rw [if_neg c1] | skip); (first | rw [if_pos c3] | rw [if_neg c3] | skip); (first | rw [if_pos c5] | rw [if_neg c5] | skip); (first | rw [if_pos c7] | rw [if_neg c7] | skip); (first | rw [if_pos c8] | rw [if_neg c8] | skip); (first | rw [if_pos c9] | rw [if_neg c9] | skip); (first | rw [if_pos c10] | rw [if_neg c10] | skip); (first | rw [if_pos c12] | rw [if_neg c12] | skip); try (first | with_reducible rfl | exact e_Vx | exact e_y)) (by first | exact h0 | (unfold m_moves; rw [w2_ne (by omega)]; exact h0)) _ _ _ hI (lv_sub hl [0, 1, 3, 4, 5, 6] rfl)
            exact lp61 (5 + 1) 0 _ _ (by omega) (by omega) rfl rfl hn.1 _ _ _ hI (lv_sub hl [0, 1, 2, 3, 4, 5] rfl)
          · have c8n : n = 16 := (nI_eq (a := n) (b := 16) (by omega) (by omega)).mp c8
            refine lv_ldc (v := (-2000000003)) hx hb hown (hts _ qc_X5_74) dX5_stores_52 ?_
            exact g_ir hQ hx hb hr0 hlk hC hI dX5_stores_54 rfl (by unfold m_stores; skip; (first | rw [if_pos c1] | rw [if_neg c1] | skip); (first | rw [if_pos c3] | rw [if_neg c3] | skip); (first | rw [if_pos c5] | rw [if_neg c5] | skip); (first | rw [if_pos c7] | rw [if_neg c7] | skip); (first | rw [if_pos c8] | rw [if_neg c8] | skip); try with_reducible rfl) rfl (by unfold m_stores; skip; (first | rw [if_pos c1] | rw [if_neg c1] | skip); (first | rw [if_pos c3] | rw [if_neg c3] | skip); (first | rw [if_pos c5] | rw [if_neg c5] | skip); (first | rw [if_pos c7] | rw [if_neg c7] | skip); (first | rw [if_pos c8] | rw [if_neg c8] | skip); try with_reducible rfl)
      · refine lv_if_ne (tgt := 32) hx hb dX5_stores_26 (by decide) (fun c13 => absurd c13 (by decide)) (fun _ => ?_)
        refine lv_ldc (v := (-2000000001)) hx hb hown (hts _ qc_X5_25) dX5_stores_29 ?_
        exact g_ir hQ hx hb hr0 hlk hC hI dX5_stores_31 rfl (by unfold m_stores; skip; (first | rw [if_pos c1] | rw [if_neg c1] | skip); (first | rw [if_pos c3] | rw [if_neg c3] | skip); (first | rw [if_pos c5] | rw [if_neg c5] | skip); try with_reducible rfl) rfl (by unfold m_stores; skip; (first | rw [if_pos c1] | rw [if_neg c1] | skip); (first | rw [if_pos c3] | rw [if_neg c3] | skip); (first | rw [if_pos c5] | rw [if_neg c5] | skip); try with_reducible rfl)
    · refine lv_if_eq (tgt := 29) hx hb dX5_stores_15 (by decide) (fun _ => ?_) (fun c14 => absurd c14 (by decide))
      refine lv_ldc (v := (-2000000001)) hx hb hown (hts _ qc_X5_25) dX5_stores_29 ?_
      exact g_ir hQ hx hb hr0 hlk hC hI dX5_stores_31 rfl (by unfold m_stores; skip; (first | rw [if_pos c1] | rw [if_neg c1] | skip); (first | rw [if_pos c3] | rw [if_neg c3] | skip); try with_reducible rfl) rfl (by unfold m_stores; skip; (first | rw [if_pos c1] | rw [if_neg c1] | skip); (first | rw [if_pos c3] | rw [if_neg c3] | skip); try with_reducible rfl)
  · refine lv_if_eq (tgt := 29) hx hb dX5_stores_6 (by decide) (fun _ => ?_) (fun c15 => absurd c15 (by decide))
    refine lv_ldc (v := (-2000000001)) hx hb hown (hts _ qc_X5_25) dX5_stores_29 ?_
    exact g_ir hQ hx hb hr0 hlk hC hI dX5_stores_31 rfl (by unfold m_stores; skip; (first | rw [if_pos c1] | rw [if_neg c1] | skip); try with_reducible rfl) rfl (by unfold m_stores; skip; (first | rw [if_pos c1] | rw [if_neg c1] | skip); try with_reducible rfl)
def m_splits (V : g_V) (x : Int32) (a : Int32) (n : Nat) : Int32 × g_V :=
  match (m_place V x n) with | none => ((-2000000001), V) | some i2 => (if 1 ≤ a then (if a < (V 1 (34 + 7 * i2 + 3)) then (if (nI n) = 16 then ((-2000000003), V) else (if ((((((m_makes V (V 1 (34 + 7 * i2 + 1)) (V 1 (34 + 7 * i2 + 2)) a n) 1 (34 + 7 * i2 + 5)).toInt64) * a.toInt64) / (((m_makes V (V 1 (34 + 7 * i2 + 1)) (V 1 (34 + 7 * i2 + 2)) a n) 1 (34 + 7 * i2 + 3)).toInt64)).toInt32) ≤ 0 then ((g_w2 (m_makes V (V 1 (34 + 7 * i2 + 1)) (V 1 (34 + 7 * i2 + 2)) a n) 1 (34 + 7 * i2 + 3) (((m_makes V (V 1 (34 + 7 * i2 + 1)) (V 1 (34 + 7 * i2 + 2)) a n) 1 (34 + 7 * i2 + 3)) - a)) 1 (34 + 7 * n + 0), (g_w2 (m_makes V (V 1 (34 + 7 * i2 + 1)) (V 1 (34 + 7 * i2 + 2)) a n) 1 (34 + 7 * i2 + 3) (((m_makes V (V 1 (34 + 7 * i2 + 1)) (V 1 (34 + 7 * i2 + 2)) a n) 1 (34 + 7 * i2 + 3)) - a))) else ((g_w2 (g_w2 (g_w2 (g_w2 (m_makes V (V 1 (34 + 7 * i2 + 1)) (V 1 (34 + 7 * i2 + 2)) a n) 1 (34 + 7 * i2 + 3) (((m_makes V (V 1 (34 + 7 * i2 + 1)) (V 1 (34 + 7 * i2 + 2)) a n) 1 (34 + 7 * i2 + 3)) - a)) 1 (34 + 7 * n + 4) ((g_w2 (m_makes V (V 1 (34 + 7 * i2 + 1)) (V 1 (34 + 7 * i2 + 2)) a n) 1 (34 + 7 * i2 + 3) (((m_makes V (V 1 (34 + 7 * i2 + 1)) (V 1 (34 + 7 * i2 + 2)) a n) 1 (34 + 7 * i2 + 3)) - a)) 1 (34 + 7 * i2 + 4))) 1 (34 + 7 * n + 5) ((((((m_makes V (V 1 (34 + 7 * i2 + 1)) (V 1 (34 + 7 * i2 + 2)) a n) 1 (34 + 7 * i2 + 5)).toInt64) * a.toInt64) / (((m_makes V (V 1 (34 + 7 * i2 + 1)) (V 1 (34 + 7 * i2 + 2)) a n) 1 (34 + 7 * i2 + 3)).toInt64)).toInt32)) 1 (34 + 7 * i2 + 5) (((g_w2 (g_w2 (g_w2 (m_makes V (V 1 (34 + 7 * i2 + 1)) (V 1 (34 + 7 * i2 + 2)) a n) 1 (34 + 7 * i2 + 3) (((m_makes V (V 1 (34 + 7 * i2 + 1)) (V 1 (34 + 7 * i2 + 2)) a n) 1 (34 + 7 * i2 + 3)) - a)) 1 (34 + 7 * n + 4) ((g_w2 (m_makes V (V 1 (34 + 7 * i2 + 1)) (V 1 (34 + 7 * i2 + 2)) a n) 1 (34 + 7 * i2 + 3) (((m_makes V (V 1 (34 + 7 * i2 + 1)) (V 1 (34 + 7 * i2 + 2)) a n) 1 (34 + 7 * i2 + 3)) - a)) 1 (34 + 7 * i2 + 4))) 1 (34 + 7 * n + 5) ((((((m_makes V (V 1 (34 + 7 * i2 + 1)) (V 1 (34 + 7 * i2 + 2)) a n) 1 (34 + 7 * i2 + 5)).toInt64) * a.toInt64) / (((m_makes V (V 1 (34 + 7 * i2 + 1)) (V 1 (34 + 7 * i2 + 2)) a n) 1 (34 + 7 * i2 + 3)).toInt64)).toInt32)) 1 (34 + 7 * i2 + 5)) - ((((((m_makes V (V 1 (34 + 7 * i2 + 1)) (V 1 (34 + 7 * i2 + 2)) a n) 1 (34 + 7 * i2 + 5)).toInt64) * a.toInt64) / (((m_makes V (V 1 (34 + 7 * i2 + 1)) (V 1 (34 + 7 * i2 + 2)) a n) 1 (34 + 7 * i2 + 3)).toInt64)).toInt32))) 1 (34 + 7 * n + 0), (g_w2 (g_w2 (g_w2 (g_w2 (m_makes V (V 1 (34 + 7 * i2 + 1)) (V 1 (34 + 7 * i2 + 2)) a n) 1 (34 + 7 * i2 + 3) (((m_makes V (V 1 (34 + 7 * i2 + 1)) (V 1 (34 + 7 * i2 + 2)) a n) 1 (34 + 7 * i2 + 3)) - a)) 1 (34 + 7 * n + 4) ((g_w2 (m_makes V (V 1 (34 + 7 * i2 + 1)) (V 1 (34 + 7 * i2 + 2)) a n) 1 (34 + 7 * i2 + 3) (((m_makes V (V 1 (34 + 7 * i2 + 1)) (V 1 (34 + 7 * i2 + 2)) a n) 1 (34 + 7 * i2 + 3)) - a)) 1 (34 + 7 * i2 + 4))) 1 (34 + 7 * n + 5) ((((((m_makes V (V 1 (34 + 7 * i2 + 1)) (V 1 (34 + 7 * i2 + 2)) a n) 1 (34 + 7 * i2 + 5)).toInt64) * a.toInt64) / (((m_makes V (V 1 (34 + 7 * i2 + 1)) (V 1 (34 + 7 * i2 + 2)) a n) 1 (34 + 7 * i2 + 3)).toInt64)).toInt32)) 1 (34 + 7 * i2 + 5) (((g_w2 (g_w2 (g_w2 (m_makes V (V 1 (34 + 7 * i2 + 1)) (V 1 (34 + 7 * i2 + 2)) a n) 1 (34 + 7 * i2 + 3) (((m_makes V (V 1 (34 + 7 * i2 + 1)) (V 1 (34 + 7 * i2 + 2)) a n) 1 (34 + 7 * i2 + 3)) - a)) 1 (34 + 7 * n + 4) ((g_w2 (m_makes V (V 1 (34 + 7 * i2 + 1)) (V 1 (34 + 7 * i2 + 2)) a n) 1 (34 + 7 * i2 + 3) (((m_makes V (V 1 (34 + 7 * i2 + 1)) (V 1 (34 + 7 * i2 + 2)) a n) 1 (34 + 7 * i2 + 3)) - a)) 1 (34 + 7 * i2 + 4))) 1 (34 + 7 * n + 5) ((((((m_makes V (V 1 (34 + 7 * i2 + 1)) (V 1 (34 + 7 * i2 + 2)) a n) 1 (34 + 7 * i2 + 5)).toInt64) * a.toInt64) / (((m_makes V (V 1 (34 + 7 * i2 + 1)) (V 1 (34 + 7 * i2 + 2)) a n) 1 (34 + 7 * i2 + 3)).toInt64)).toInt32)) 1 (34 + 7 * i2 + 5)) - ((((((m_makes V (V 1 (34 + 7 * i2 + 1)) (V 1 (34 + 7 * i2 + 2)) a n) 1 (34 + 7 * i2 + 5)).toInt64) * a.toInt64) / (((m_makes V (V 1 (34 + 7 * i2 + 1)) (V 1 (34 + 7 * i2 + 2)) a n) 1 (34 + 7 * i2 + 3)).toInt64)).toInt32)))))) else ((-2000000002), V)) else ((-2000000001), V))
abbrev rm_X5_splits : Room := { frames := 3, cells := 0, slots := 0, locals := 68 }
set_option maxHeartbeats 800000 in
set_option maxRecDepth 100000 in
theorem c_X5_splits (l : Launch) (D : va_G) (tb : g_T) (ad : g_Ad) (hj : g_inj ad) (P : g_P) (M : g_M) (V : g_V) (x : Int32) (a : Int32) (n : Nat) (hn : m_N V n) : g_Ci l yX5_splits cX5_splits 6 (some .int) rm_X5_splits D tb ad [.ref (ad 7 0), .int x, .int a] P (va_up M 7 V) ((m_splits V x a n).1) P (va_up M 7 ((m_splits V x a n).2)) := by
  refine g_go (by decide) (Nat.le_of_ble_eq_true rfl) hj ?_
  intro p e s m below meth c ls H locs R args Q hR0 hQ hx hb hml hr0 hlk hown hts hC hI hl
  subst hR0
  have hown : s.vm.findClass RX5 = some m.cls := hown
  have hl : lv_has ls 6 [(0, .ref (ad 7 0)), (1, .int x), (2, .int a)] := hl
  refine lv_aload_n hx hb dX5_splits_0 rfl (lv_at hl 0 rfl) ?_
  refine lv_iload_n hx hb dX5_splits_1 rfl (lv_at hl 1 rfl) ?_
  refine g_callVi (rest := []) (c_X5_placeOf l D tb ad hj P M V x n (by first | assumption | omega)) rfl rfl gm_X5_placeOf hx hb hml hown hts hC hI (by decide) (e_x g_us) rfl rfl qm_X5_83 rfl hl.1 rfl ⟨rfl, rfl, by decide, by decide⟩ (Nat.le_of_ble_eq_true rfl) ⟨Nat.zero_le _, Nat.zero_le _⟩ dX5_splits_2 (fun H locs hI => ?_)
  refine g_pf (fun q1 => ?_) (fun i2 q1 => ?_)
  · refine lv_istore_n (lv' := [(3, .int (-1)), (0, .ref (ad 7 0)), (1, .int x), (2, .int a)]) hx hb dX5_splits_5 rfl hl (by decide) rfl (fun ls hl => ?_)
    refine lv_iload_n hx hb dX5_splits_6 rfl (lv_at hl 0 rfl) ?_
    refine lv_if_lt (tgt := 15) hx hb dX5_splits_7 (by decide) (fun _ => ?_) (fun c3 => absurd c3 (by decide))
    refine lv_ldc (v := (-2000000001)) hx hb hown (hts _ qc_X5_25) dX5_splits_15 ?_
    exact g_ir hQ hx hb hr0 hlk hC hI dX5_splits_17 rfl (by unfold m_splits; skip; (try simp only [q1]); try with_reducible rfl) rfl (by unfold m_splits; skip; (try simp only [q1]); try with_reducible rfl)
  · have hi4 := k_last_lt q1
    have hi41 : i2 < n := hi4.1
    refine lv_istore_n (lv' := [(3, .int (nI i2)), (0, .ref (ad 7 0)), (1, .int x), (2, .int a)]) hx hb dX5_splits_5 rfl hl (by decide) rfl (fun ls hl => ?_)
    refine lv_iload_n hx hb dX5_splits_6 rfl (lv_at hl 0 rfl) ?_
    refine lv_if_lt (tgt := 15) hx hb dX5_splits_7 (by decide) (fun c5 => ?_) (fun c5 => ?_)
    · exact absurd c5 (nI_pos (by omega))
    · refine lv_iload_n hx hb dX5_splits_10 rfl (lv_at hl 3 rfl) ?_
      refine lv_iconst (v := 1) hx hb dX5_splits_11 (by decide) ?_
      refine lv_icmp_ge (tgt := 18) hx hb dX5_splits_12 (by decide) (fun c6 => ?_) (fun c6 => ?_)
      · refine lv_iload_n hx hb dX5_splits_18 rfl (lv_at hl 3 rfl) ?_
        refine lv_aload_n hx hb dX5_splits_19 rfl (lv_at hl 1 rfl) ?_
        refine lv_iload_n hx hb dX5_splits_20 rfl (lv_at hl 0 rfl) ?_
        refine lv_iconst (v := 3) hx hb dX5_splits_21 (by decide) ?_
        refine g_callVi (rest := [.int a]) (c_X5_of l D tb ad hj P M V i2 3 (by first | assumption | omega) (by first | assumption | omega)) rfl rfl gm_X5_of hx hb hml hown hts hC hI (by decide) (e_x g_us) rfl rfl qm_X5_33 rfl hl.1 rfl ⟨rfl, rfl, by decide, by decide⟩ (Nat.le_of_ble_eq_true rfl) ⟨Nat.zero_le _, Nat.zero_le _⟩ dX5_splits_22 (fun H locs hI => ?_)
        refine lv_icmp_lt (tgt := 31) hx hb dX5_splits_25 (by decide) (fun c7 => ?_) (fun c7 => ?_)
        · refine lv_aload_n hx hb dX5_splits_31 rfl (lv_at hl 1 rfl) ?_
          refine g_get 0 hx hb hts hown hC hI i_X5 (by decide) (e_x g_us) rfl (by decide) qf_X5_7 rfl rfl dX5_splits_32 ?_
          refine lv_iconst (v := 0) hx hb dX5_splits_35 (by decide) ?_
          refine g_iald 0 hx hb hC hI (by decide) (e_xs g_us) (by unfold vp_in; decide) rfl dX5_splits_36 ?_
          refine g_te (y := (nI n)) hn.1 ?_
          refine lv_bipush (v := 16) hx hb dX5_splits_37 (by decide) ?_
          refine lv_icmp_ne (tgt := 45) hx hb dX5_splits_39 (by decide) (fun c8 => ?_) (fun c8 => ?_)
          · have c8n : ¬ n = 16 := fun z => c8 ((nI_eq (a := n) (b := 16) (by omega) (by omega)).mpr z)
            refine lv_aload_n hx hb dX5_splits_45 rfl (lv_at hl 1 rfl) ?_
            refine lv_aload_n hx hb dX5_splits_46 rfl (lv_at hl 1 rfl) ?_
            refine lv_iload_n hx hb dX5_splits_47 rfl (lv_at hl 0 rfl) ?_
            refine lv_iconst (v := 1) hx hb dX5_splits_48 (by decide) ?_
            refine g_callVi (rest := [.ref (ad 7 0)]) (c_X5_of l D tb ad hj P M V i2 1 (by first | assumption | omega) (by first | assumption | omega)) rfl rfl gm_X5_of hx hb hml hown hts hC hI (by decide) (e_x g_us) rfl rfl qm_X5_33 rfl hl.1 rfl ⟨rfl, rfl, by decide, by decide⟩ (Nat.le_of_ble_eq_true rfl) ⟨Nat.zero_le _, Nat.zero_le _⟩ dX5_splits_49 (fun H locs hI => ?_)
            refine lv_aload_n hx hb dX5_splits_52 rfl (lv_at hl 1 rfl) ?_
            refine lv_iload_n hx hb dX5_splits_53 rfl (lv_at hl 0 rfl) ?_
            refine lv_iconst (v := 2) hx hb dX5_splits_54 (by decide) ?_
            refine g_callVi (rest := [.int (V 1 (34 + 7 * i2 + 1)), .ref (ad 7 0)]) (c_X5_of l D tb ad hj P M V i2 2 (by first | assumption | omega) (by first | assumption | omega)) rfl rfl gm_X5_of hx hb hml hown hts hC hI (by decide) (e_x g_us) rfl rfl qm_X5_33 rfl hl.1 rfl ⟨rfl, rfl, by decide, by decide⟩ (Nat.le_of_ble_eq_true rfl) ⟨Nat.zero_le _, Nat.zero_le _⟩ dX5_splits_55 (fun H locs hI => ?_)
            refine lv_iload_n hx hb dX5_splits_58 rfl (lv_at hl 3 rfl) ?_
            refine g_callVi (rest := []) (c_X5_makes l D tb ad hj P M V (V 1 (34 + 7 * i2 + 1)) (V 1 (34 + 7 * i2 + 2)) a n (by first | assumption | omega) (by omega)) rfl rfl gm_X5_makes hx hb hml hown hts hC hI (by decide) (e_x g_us) rfl rfl qm_X5_79 rfl hl.1 rfl ⟨rfl, rfl, by decide, by decide⟩ (Nat.le_of_ble_eq_true rfl) ⟨Nat.zero_le _, Nat.zero_le _⟩ dX5_splits_59 (fun H locs hI => ?_)
            refine lv_istore (lv' := [(4, .int (nI n)), (3, .int (nI i2)), (0, .ref (ad 7 0)), (1, .int x), (2, .int a)]) hx hb dX5_splits_62 hl (by decide) rfl (fun ls hl => ?_)
            refine lv_aload_n hx hb dX5_splits_64 rfl (lv_at hl 2 rfl) ?_
            refine lv_iload_n hx hb dX5_splits_65 rfl (lv_at hl 1 rfl) ?_
            refine lv_iconst (v := 5) hx hb dX5_splits_66 (by decide) ?_
            refine g_callVi (rest := []) (c_X5_of l D tb ad hj P M (m_makes V (V 1 (34 + 7 * i2 + 1)) (V 1 (34 + 7 * i2 + 2)) a n) i2 5 (by first | assumption | omega) (by first | assumption | omega)) rfl rfl gm_X5_of hx hb hml hown hts hC hI (by decide) (e_x g_us) rfl rfl qm_X5_33 rfl hl.1 rfl ⟨rfl, rfl, by decide, by decide⟩ (Nat.le_of_ble_eq_true rfl) ⟨Nat.zero_le _, Nat.zero_le _⟩ dX5_splits_67 (fun H locs hI => ?_)
            refine lv_i2l hx hb dX5_splits_70 rfl ?_
            refine lv_iload_n hx hb dX5_splits_71 rfl (lv_at hl 4 rfl) ?_
            refine lv_i2l hx hb dX5_splits_72 rfl ?_
            refine lv_lmul hx hb dX5_splits_73 ?_
            refine lv_aload_n hx hb dX5_splits_74 rfl (lv_at hl 2 rfl) ?_
            refine lv_iload_n hx hb dX5_splits_75 rfl (lv_at hl 1 rfl) ?_
            refine lv_iconst (v := 3) hx hb dX5_splits_76 (by decide) ?_
            refine g_callVi (rest := [.long ((((m_makes V (V 1 (34 + 7 * i2 + 1)) (V 1 (34 + 7 * i2 + 2)) a n) 1 (34 + 7 * i2 + 5)).toInt64) * a.toInt64)]) (c_X5_of l D tb ad hj P M (m_makes V (V 1 (34 + 7 * i2 + 1)) (V 1 (34 + 7 * i2 + 2)) a n) i2 3 (by first | assumption | omega) (by first | assumption | omega)) rfl rfl gm_X5_of hx hb hml hown hts hC hI (by decide) (e_x g_us) rfl rfl qm_X5_33 rfl hl.1 rfl ⟨rfl, rfl, by decide, by decide⟩ (Nat.le_of_ble_eq_true rfl) ⟨Nat.zero_le _, Nat.zero_le _⟩ dX5_splits_77 (fun H locs hI => ?_)
            refine lv_i2l hx hb dX5_splits_80 rfl ?_
            refine lv_ldiv hx hb dX5_splits_81 (by rw [m_makes_lo (by omega) (by omega)]; exact k_l0 (k_pos (a := a) (by assumption) (by assumption))) ?_
            refine lv_l2i hx hb dX5_splits_82 rfl ?_
            refine lv_istore (lv' := [(5, .int ((((((m_makes V (V 1 (34 + 7 * i2 + 1)) (V 1 (34 + 7 * i2 + 2)) a n) 1 (34 + 7 * i2 + 5)).toInt64) * a.toInt64) / (((m_makes V (V 1 (34 + 7 * i2 + 1)) (V 1 (34 + 7 * i2 + 2)) a n) 1 (34 + 7 * i2 + 3)).toInt64)).toInt32)), (4, .int (nI n)), (3, .int (nI i2)), (0, .ref (ad 7 0)), (1, .int x), (2, .int a)]) hx hb dX5_splits_83 hl (by decide) rfl (fun ls hl => ?_)
            refine lv_aload_n hx hb dX5_splits_85 rfl (lv_at hl 3 rfl) ?_
            refine lv_iload_n hx hb dX5_splits_86 rfl (lv_at hl 2 rfl) ?_
            refine lv_iconst (v := 3) hx hb dX5_splits_87 (by decide) ?_
            refine lv_aload_n hx hb dX5_splits_88 rfl (lv_at hl 3 rfl) ?_
            refine lv_iload_n hx hb dX5_splits_89 rfl (lv_at hl 2 rfl) ?_
            refine lv_iconst (v := 3) hx hb dX5_splits_90 (by decide) ?_
            refine g_callVi (rest := [.int 3, .int (nI i2), .ref (ad 7 0)]) (c_X5_of l D tb ad hj P M (m_makes V (V 1 (34 + 7 * i2 + 1)) (V 1 (34 + 7 * i2 + 2)) a n) i2 3 (by first | assumption | omega) (by first | assumption | omega)) rfl rfl gm_X5_of hx hb hml hown hts hC hI (by decide) (e_x g_us) rfl rfl qm_X5_33 rfl hl.1 rfl ⟨rfl, rfl, by decide, by decide⟩ (Nat.le_of_ble_eq_true rfl) ⟨Nat.zero_le _, Nat.zero_le _⟩ dX5_splits_91 (fun H locs hI => ?_)
            refine lv_iload_n hx hb dX5_splits_94 rfl (lv_at hl 5 rfl) ?_
            refine lv_isub hx hb dX5_splits_95 ?_
            refine g_callVv (rest := []) (c_X5_lays l D tb ad hj P M (m_makes V (V 1 (34 + 7 * i2 + 1)) (V 1 (34 + 7 * i2 + 2)) a n) i2 3 (((m_makes V (V 1 (34 + 7 * i2 + 1)) (V 1 (34 + 7 * i2 + 2)) a n) 1 (34 + 7 * i2 + 3)) - a) (by first | assumption | omega) (by first | assumption | omega)) rfl rfl gm_X5_lays hx hb hml hown hts hC hI (by decide) (e_x g_us) rfl rfl qm_X5_37 rfl hl.1 rfl ⟨rfl, rfl, by decide, by decide⟩ (Nat.le_of_ble_eq_true rfl) ⟨Nat.zero_le _, Nat.zero_le _⟩ dX5_splits_96 (fun H locs hI => ?_)
            refine lv_iload hx hb dX5_splits_99 (lv_at hl 0 rfl) ?_
            refine lv_if_le (tgt := 141) hx hb dX5_splits_101 (by decide) (fun c9 => ?_) (fun c9 => ?_)
            · refine lv_aload_n hx hb dX5_splits_141 rfl (lv_at hl 3 rfl) ?_
              refine lv_iload hx hb dX5_splits_142 (lv_at hl 1 rfl) ?_
              refine lv_iconst (v := 0) hx hb dX5_splits_144 (by decide) ?_
              refine g_callVi (rest := []) (c_X5_of l D tb ad hj P M (g_w2 (m_makes V (V 1 (34 + 7 * i2 + 1)) (V 1 (34 + 7 * i2 + 2)) a n) 1 (34 + 7 * i2 + 3) (((m_makes V (V 1 (34 + 7 * i2 + 1)) (V 1 (34 + 7 * i2 + 2)) a n) 1 (34 + 7 * i2 + 3)) - a)) n 0 (by first | assumption | omega) (by first | assumption | omega)) rfl rfl gm_X5_of hx hb hml hown hts hC hI (by decide) (e_x g_us) rfl rfl qm_X5_33 rfl hl.1 rfl ⟨rfl, rfl, by decide, by decide⟩ (Nat.le_of_ble_eq_true rfl) ⟨Nat.zero_le _, Nat.zero_le _⟩ dX5_splits_145 (fun H locs hI => ?_)
              exact g_ir hQ hx hb hr0 hlk hC hI dX5_splits_148 rfl (by unfold m_splits; skip; (try simp only [q1]); (first | rw [if_pos c5] | rw [if_neg c5] | skip); (first | rw [if_pos c6] | rw [if_neg c6] | skip); (first | rw [if_pos c7] | rw [if_neg c7] | skip); (first | rw [if_pos c8] | rw [if_neg c8] | skip); (first | rw [if_pos c9] | rw [if_neg c9] | skip); try with_reducible rfl) rfl (by unfold m_splits; skip; (try simp only [q1]); (first | rw [if_pos c5] | rw [if_neg c5] | skip); (first | rw [if_pos c6] | rw [if_neg c6] | skip); (first | rw [if_pos c7] | rw [if_neg c7] | skip); (first | rw [if_pos c8] | rw [if_neg c8] | skip); (first | rw [if_pos c9] | rw [if_neg c9] | skip); try with_reducible rfl)
            · refine lv_aload_n hx hb dX5_splits_104 rfl (lv_at hl 3 rfl) ?_
              refine lv_iload hx hb dX5_splits_105 (lv_at hl 1 rfl) ?_
              refine lv_iconst (v := 4) hx hb dX5_splits_107 (by decide) ?_
              refine lv_aload_n hx hb dX5_splits_108 rfl (lv_at hl 3 rfl) ?_
              refine lv_iload_n hx hb dX5_splits_109 rfl (lv_at hl 2 rfl) ?_
              refine lv_iconst (v := 4) hx hb dX5_splits_110 (by decide) ?_
              refine g_callVi (rest := [.int 4, .int (nI n), .ref (ad 7 0)]) (c_X5_of l D tb ad hj P M (g_w2 (m_makes V (V 1 (34 + 7 * i2 + 1)) (V 1 (34 + 7 * i2 + 2)) a n) 1 (34 + 7 * i2 + 3) (((m_makes V (V 1 (34 + 7 * i2 + 1)) (V 1 (34 + 7 * i2 + 2)) a n) 1 (34 + 7 * i2 + 3)) - a)) i2 4 (by first | assumption | omega) (by first | assumption | omega)) rfl rfl gm_X5_of hx hb hml hown hts hC hI (by decide) (e_x g_us) rfl rfl qm_X5_33 rfl hl.1 rfl ⟨rfl, rfl, by decide, by decide⟩ (Nat.le_of_ble_eq_true rfl) ⟨Nat.zero_le _, Nat.zero_le _⟩ dX5_splits_111 (fun H locs hI => ?_)
              refine g_callVv (rest := []) (c_X5_lays l D tb ad hj P M (g_w2 (m_makes V (V 1 (34 + 7 * i2 + 1)) (V 1 (34 + 7 * i2 + 2)) a n) 1 (34 + 7 * i2 + 3) (((m_makes V (V 1 (34 + 7 * i2 + 1)) (V 1 (34 + 7 * i2 + 2)) a n) 1 (34 + 7 * i2 + 3)) - a)) n 4 ((g_w2 (m_makes V (V 1 (34 + 7 * i2 + 1)) (V 1 (34 + 7 * i2 + 2)) a n) 1 (34 + 7 * i2 + 3) (((m_makes V (V 1 (34 + 7 * i2 + 1)) (V 1 (34 + 7 * i2 + 2)) a n) 1 (34 + 7 * i2 + 3)) - a)) 1 (34 + 7 * i2 + 4)) (by first | assumption | omega) (by first | assumption | omega)) rfl rfl gm_X5_lays hx hb hml hown hts hC hI (by decide) (e_x g_us) rfl rfl qm_X5_37 rfl hl.1 rfl ⟨rfl, rfl, by decide, by decide⟩ (Nat.le_of_ble_eq_true rfl) ⟨Nat.zero_le _, Nat.zero_le _⟩ dX5_splits_114 (fun H locs hI => ?_)
              refine lv_aload_n hx hb dX5_splits_117 rfl (lv_at hl 3 rfl) ?_
              refine lv_iload hx hb dX5_splits_118 (lv_at hl 1 rfl) ?_
              refine lv_iconst (v := 5) hx hb dX5_splits_120 (by decide) ?_
              refine lv_iload hx hb dX5_splits_121 (lv_at hl 0 rfl) ?_
              refine g_callVv (rest := []) (c_X5_lays l D tb ad hj P M (g_w2 (g_w2 (m_makes V (V 1 (34 + 7 * i2 + 1)) (V 1 (34 + 7 * i2 + 2)) a n) 1 (34 + 7 * i2 + 3) (((m_makes V (V 1 (34 + 7 * i2 + 1)) (V 1 (34 + 7 * i2 + 2)) a n) 1 (34 + 7 * i2 + 3)) - a)) 1 (34 + 7 * n + 4) ((g_w2 (m_makes V (V 1 (34 + 7 * i2 + 1)) (V 1 (34 + 7 * i2 + 2)) a n) 1 (34 + 7 * i2 + 3) (((m_makes V (V 1 (34 + 7 * i2 + 1)) (V 1 (34 + 7 * i2 + 2)) a n) 1 (34 + 7 * i2 + 3)) - a)) 1 (34 + 7 * i2 + 4))) n 5 ((((((m_makes V (V 1 (34 + 7 * i2 + 1)) (V 1 (34 + 7 * i2 + 2)) a n) 1 (34 + 7 * i2 + 5)).toInt64) * a.toInt64) / (((m_makes V (V 1 (34 + 7 * i2 + 1)) (V 1 (34 + 7 * i2 + 2)) a n) 1 (34 + 7 * i2 + 3)).toInt64)).toInt32) (by first | assumption | omega) (by first | assumption | omega)) rfl rfl gm_X5_lays hx hb hml hown hts hC hI (by decide) (e_x g_us) rfl rfl qm_X5_37 rfl hl.1 rfl ⟨rfl, rfl, by decide, by decide⟩ (Nat.le_of_ble_eq_true rfl) ⟨Nat.zero_le _, Nat.zero_le _⟩ dX5_splits_123 (fun H locs hI => ?_)
              refine lv_aload_n hx hb dX5_splits_126 rfl (lv_at hl 3 rfl) ?_
              refine lv_iload_n hx hb dX5_splits_127 rfl (lv_at hl 2 rfl) ?_
              refine lv_iconst (v := 5) hx hb dX5_splits_128 (by decide) ?_
              refine lv_aload_n hx hb dX5_splits_129 rfl (lv_at hl 3 rfl) ?_
              refine lv_iload_n hx hb dX5_splits_130 rfl (lv_at hl 2 rfl) ?_
              refine lv_iconst (v := 5) hx hb dX5_splits_131 (by decide) ?_
              refine g_callVi (rest := [.int 5, .int (nI i2), .ref (ad 7 0)]) (c_X5_of l D tb ad hj P M (g_w2 (g_w2 (g_w2 (m_makes V (V 1 (34 + 7 * i2 + 1)) (V 1 (34 + 7 * i2 + 2)) a n) 1 (34 + 7 * i2 + 3) (((m_makes V (V 1 (34 + 7 * i2 + 1)) (V 1 (34 + 7 * i2 + 2)) a n) 1 (34 + 7 * i2 + 3)) - a)) 1 (34 + 7 * n + 4) ((g_w2 (m_makes V (V 1 (34 + 7 * i2 + 1)) (V 1 (34 + 7 * i2 + 2)) a n) 1 (34 + 7 * i2 + 3) (((m_makes V (V 1 (34 + 7 * i2 + 1)) (V 1 (34 + 7 * i2 + 2)) a n) 1 (34 + 7 * i2 + 3)) - a)) 1 (34 + 7 * i2 + 4))) 1 (34 + 7 * n + 5) ((((((m_makes V (V 1 (34 + 7 * i2 + 1)) (V 1 (34 + 7 * i2 + 2)) a n) 1 (34 + 7 * i2 + 5)).toInt64) * a.toInt64) / (((m_makes V (V 1 (34 + 7 * i2 + 1)) (V 1 (34 + 7 * i2 + 2)) a n) 1 (34 + 7 * i2 + 3)).toInt64)).toInt32)) i2 5 (by first | assumption | omega) (by first | assumption | omega)) rfl rfl gm_X5_of hx hb hml hown hts hC hI (by decide) (e_x g_us) rfl rfl qm_X5_33 rfl hl.1 rfl ⟨rfl, rfl, by decide, by decide⟩ (Nat.le_of_ble_eq_true rfl) ⟨Nat.zero_le _, Nat.zero_le _⟩ dX5_splits_132 (fun H locs hI => ?_)
              refine lv_iload hx hb dX5_splits_135 (lv_at hl 0 rfl) ?_
              refine lv_isub hx hb dX5_splits_137 ?_
              refine g_callVv (rest := []) (c_X5_lays l D tb ad hj P M (g_w2 (g_w2 (g_w2 (m_makes V (V 1 (34 + 7 * i2 + 1)) (V 1 (34 + 7 * i2 + 2)) a n) 1 (34 + 7 * i2 + 3) (((m_makes V (V 1 (34 + 7 * i2 + 1)) (V 1 (34 + 7 * i2 + 2)) a n) 1 (34 + 7 * i2 + 3)) - a)) 1 (34 + 7 * n + 4) ((g_w2 (m_makes V (V 1 (34 + 7 * i2 + 1)) (V 1 (34 + 7 * i2 + 2)) a n) 1 (34 + 7 * i2 + 3) (((m_makes V (V 1 (34 + 7 * i2 + 1)) (V 1 (34 + 7 * i2 + 2)) a n) 1 (34 + 7 * i2 + 3)) - a)) 1 (34 + 7 * i2 + 4))) 1 (34 + 7 * n + 5) ((((((m_makes V (V 1 (34 + 7 * i2 + 1)) (V 1 (34 + 7 * i2 + 2)) a n) 1 (34 + 7 * i2 + 5)).toInt64) * a.toInt64) / (((m_makes V (V 1 (34 + 7 * i2 + 1)) (V 1 (34 + 7 * i2 + 2)) a n) 1 (34 + 7 * i2 + 3)).toInt64)).toInt32)) i2 5 (((g_w2 (g_w2 (g_w2 (m_makes V (V 1 (34 + 7 * i2 + 1)) (V 1 (34 + 7 * i2 + 2)) a n) 1 (34 + 7 * i2 + 3) (((m_makes V (V 1 (34 + 7 * i2 + 1)) (V 1 (34 + 7 * i2 + 2)) a n) 1 (34 + 7 * i2 + 3)) - a)) 1 (34 + 7 * n + 4) ((g_w2 (m_makes V (V 1 (34 + 7 * i2 + 1)) (V 1 (34 + 7 * i2 + 2)) a n) 1 (34 + 7 * i2 + 3) (((m_makes V (V 1 (34 + 7 * i2 + 1)) (V 1 (34 + 7 * i2 + 2)) a n) 1 (34 + 7 * i2 + 3)) - a)) 1 (34 + 7 * i2 + 4))) 1 (34 + 7 * n + 5) ((((((m_makes V (V 1 (34 + 7 * i2 + 1)) (V 1 (34 + 7 * i2 + 2)) a n) 1 (34 + 7 * i2 + 5)).toInt64) * a.toInt64) / (((m_makes V (V 1 (34 + 7 * i2 + 1)) (V 1 (34 + 7 * i2 + 2)) a n) 1 (34 + 7 * i2 + 3)).toInt64)).toInt32)) 1 (34 + 7 * i2 + 5)) - ((((((m_makes V (V 1 (34 + 7 * i2 + 1)) (V 1 (34 + 7 * i2 + 2)) a n) 1 (34 + 7 * i2 + 5)).toInt64) * a.toInt64) / (((m_makes V (V 1 (34 + 7 * i2 + 1)) (V 1 (34 + 7 * i2 + 2)) a n) 1 (34 + 7 * i2 + 3)).toInt64)).toInt32)) (by first | assumption | omega) (by first | assumption | omega)) rfl rfl gm_X5_lays hx hb hml hown hts hC hI (by decide) (e_x g_us) rfl rfl qm_X5_37 rfl hl.1 rfl ⟨rfl, rfl, by decide, by decide⟩ (Nat.le_of_ble_eq_true rfl) ⟨Nat.zero_le _, Nat.zero_le _⟩ dX5_splits_138 (fun H locs hI => ?_)
              refine lv_aload_n hx hb dX5_splits_141 rfl (lv_at hl 3 rfl) ?_
              refine lv_iload hx hb dX5_splits_142 (lv_at hl 1 rfl) ?_
              refine lv_iconst (v := 0) hx hb dX5_splits_144 (by decide) ?_
              refine g_callVi (rest := []) (c_X5_of l D tb ad hj P M (g_w2 (g_w2 (g_w2 (g_w2 (m_makes V (V 1 (34 + 7 * i2 + 1)) (V 1 (34 + 7 * i2 + 2)) a n) 1 (34 + 7 * i2 + 3) (((m_makes V (V 1 (34 + 7 * i2 + 1)) (V 1 (34 + 7 * i2 + 2)) a n) 1 (34 + 7 * i2 + 3)) - a)) 1 (34 + 7 * n + 4) ((g_w2 (m_makes V (V 1 (34 + 7 * i2 + 1)) (V 1 (34 + 7 * i2 + 2)) a n) 1 (34 + 7 * i2 + 3) (((m_makes V (V 1 (34 + 7 * i2 + 1)) (V 1 (34 + 7 * i2 + 2)) a n) 1 (34 + 7 * i2 + 3)) - a)) 1 (34 + 7 * i2 + 4))) 1 (34 + 7 * n + 5) ((((((m_makes V (V 1 (34 + 7 * i2 + 1)) (V 1 (34 + 7 * i2 + 2)) a n) 1 (34 + 7 * i2 + 5)).toInt64) * a.toInt64) / (((m_makes V (V 1 (34 + 7 * i2 + 1)) (V 1 (34 + 7 * i2 + 2)) a n) 1 (34 + 7 * i2 + 3)).toInt64)).toInt32)) 1 (34 + 7 * i2 + 5) (((g_w2 (g_w2 (g_w2 (m_makes V (V 1 (34 + 7 * i2 + 1)) (V 1 (34 + 7 * i2 + 2)) a n) 1 (34 + 7 * i2 + 3) (((m_makes V (V 1 (34 + 7 * i2 + 1)) (V 1 (34 + 7 * i2 + 2)) a n) 1 (34 + 7 * i2 + 3)) - a)) 1 (34 + 7 * n + 4) ((g_w2 (m_makes V (V 1 (34 + 7 * i2 + 1)) (V 1 (34 + 7 * i2 + 2)) a n) 1 (34 + 7 * i2 + 3) (((m_makes V (V 1 (34 + 7 * i2 + 1)) (V 1 (34 + 7 * i2 + 2)) a n) 1 (34 + 7 * i2 + 3)) - a)) 1 (34 + 7 * i2 + 4))) 1 (34 + 7 * n + 5) ((((((m_makes V (V 1 (34 + 7 * i2 + 1)) (V 1 (34 + 7 * i2 + 2)) a n) 1 (34 + 7 * i2 + 5)).toInt64) * a.toInt64) / (((m_makes V (V 1 (34 + 7 * i2 + 1)) (V 1 (34 + 7 * i2 + 2)) a n) 1 (34 + 7 * i2 + 3)).toInt64)).toInt32)) 1 (34 + 7 * i2 + 5)) - ((((((m_makes V (V 1 (34 + 7 * i2 + 1)) (V 1 (34 + 7 * i2 + 2)) a n) 1 (34 + 7 * i2 + 5)).toInt64) * a.toInt64) / (((m_makes V (V 1 (34 + 7 * i2 + 1)) (V 1 (34 + 7 * i2 + 2)) a n) 1 (34 + 7 * i2 + 3)).toInt64)).toInt32))) n 0 (by first | assumption | omega) (by first | assumption | omega)) rfl rfl gm_X5_of hx hb hml hown hts hC hI (by decide) (e_x g_us) rfl rfl qm_X5_33 rfl hl.1 rfl ⟨rfl, rfl, by decide, by decide⟩ (Nat.le_of_ble_eq_true rfl) ⟨Nat.zero_le _, Nat.zero_le _⟩ dX5_splits_145 (fun H locs hI => ?_)
              exact g_ir hQ hx hb hr0 hlk hC hI dX5_splits_148 rfl (by unfold m_splits; skip; (try simp only [q1]); (first | rw [if_pos c5] | rw [if_neg c5] | skip); (first | rw [if_pos c6] | rw [if_neg c6] | skip); (first | rw [if_pos c7] | rw [if_neg c7] | skip); (first | rw [if_pos c8] | rw [if_neg c8] | skip); (first | rw [if_pos c9] | rw [if_neg c9] | skip); try with_reducible rfl) rfl (by unfold m_splits; skip; (try simp only [q1]); (first | rw [if_pos c5] | rw [if_neg c5] | skip); (first | rw [if_pos c6] | rw [if_neg c6] | skip); (first | rw [if_pos c7] | rw [if_neg c7] | skip); (first | rw [if_pos c8] | rw [if_neg c8] | skip); (first | rw [if_pos c9] | rw [if_neg c9] | skip); try with_reducible rfl)
          · have c8n : n = 16 := (nI_eq (a := n) (b := 16) (by omega) (by omega)).mp c8
            refine lv_ldc (v := (-2000000003)) hx hb hown (hts _ qc_X5_74) dX5_splits_42 ?_
            exact g_ir hQ hx hb hr0 hlk hC hI dX5_splits_44 rfl (by unfold m_splits; skip; (try simp only [q1]); (first | rw [if_pos c5] | rw [if_neg c5] | skip); (first | rw [if_pos c6] | rw [if_neg c6] | skip); (first | rw [if_pos c7] | rw [if_neg c7] | skip); (first | rw [if_pos c8] | rw [if_neg c8] | skip); try with_reducible rfl) rfl (by unfold m_splits; skip; (try simp only [q1]); (first | rw [if_pos c5] | rw [if_neg c5] | skip); (first | rw [if_pos c6] | rw [if_neg c6] | skip); (first | rw [if_pos c7] | rw [if_neg c7] | skip); (first | rw [if_pos c8] | rw [if_neg c8] | skip); try with_reducible rfl)
        · refine lv_ldc (v := (-2000000002)) hx hb hown (hts _ qc_X5_86) dX5_splits_28 ?_
          exact g_ir hQ hx hb hr0 hlk hC hI dX5_splits_30 rfl (by unfold m_splits; skip; (try simp only [q1]); (first | rw [if_pos c5] | rw [if_neg c5] | skip); (first | rw [if_pos c6] | rw [if_neg c6] | skip); (first | rw [if_pos c7] | rw [if_neg c7] | skip); try with_reducible rfl) rfl (by unfold m_splits; skip; (try simp only [q1]); (first | rw [if_pos c5] | rw [if_neg c5] | skip); (first | rw [if_pos c6] | rw [if_neg c6] | skip); (first | rw [if_pos c7] | rw [if_neg c7] | skip); try with_reducible rfl)
      · refine lv_ldc (v := (-2000000001)) hx hb hown (hts _ qc_X5_25) dX5_splits_15 ?_
        exact g_ir hQ hx hb hr0 hlk hC hI dX5_splits_17 rfl (by unfold m_splits; skip; (try simp only [q1]); (first | rw [if_pos c5] | rw [if_neg c5] | skip); (first | rw [if_pos c6] | rw [if_neg c6] | skip); try with_reducible rfl) rfl (by unfold m_splits; skip; (try simp only [q1]); (first | rw [if_pos c5] | rw [if_neg c5] | skip); (first | rw [if_pos c6] | rw [if_neg c6] | skip); try with_reducible rfl)
def m_joins (V : g_V) (x : Int32) (z : Int32) (n : Nat) : Int32 × g_V :=
  match (m_place V x n) with | none => (match (m_place V z n) with | none => ((-2000000001), V) | some i4 => ((-2000000001), V)) | some i2 => (match (m_place V z n) with | none => ((-2000000001), V) | some i10 => (if (nI i2) = (nI i10) then ((-2000000001), V) else (if (V 1 (34 + 7 * i2 + 1)) = (V 1 (34 + 7 * i10 + 1)) then (if (V 1 (34 + 7 * i2 + 2)) = (V 1 (34 + 7 * i10 + 2)) then (if m_pledged V i2 then ((-2000000002), V) else (if m_pledged V i10 then ((-2000000002), V) else (((V 1 (34 + 7 * i2 + 3)) + (V 1 (34 + 7 * i10 + 3))), (m_removes (g_w2 V 1 (34 + 7 * i10 + 3) ((V 1 (34 + 7 * i2 + 3)) + (V 1 (34 + 7 * i10 + 3)))) n i2)))) else ((-2000000002), V)) else ((-2000000002), V))))
abbrev rm_X5_joins : Room := { frames := 2, cells := 0, slots := 0, locals := 45 }
set_option maxHeartbeats 800000 in
set_option maxRecDepth 100000 in
theorem c_X5_joins (l : Launch) (D : va_G) (tb : g_T) (ad : g_Ad) (hj : g_inj ad) (P : g_P) (M : g_M) (V : g_V) (x : Int32) (z : Int32) (n : Nat) (hn : m_N V n) : g_Ci l yX5_joins cX5_joins 6 (some .int) rm_X5_joins D tb ad [.ref (ad 7 0), .int x, .int z] P (va_up M 7 V) ((m_joins V x z n).1) P (va_up M 7 ((m_joins V x z n).2)) := by
  refine g_go (by decide) (Nat.le_of_ble_eq_true rfl) hj ?_
  intro p e s m below meth c ls H locs R args Q hR0 hQ hx hb hml hr0 hlk hown hts hC hI hl
  subst hR0
  have hown : s.vm.findClass RX5 = some m.cls := hown
  have hl : lv_has ls 6 [(0, .ref (ad 7 0)), (1, .int x), (2, .int z)] := hl
  refine lv_aload_n hx hb dX5_joins_0 rfl (lv_at hl 0 rfl) ?_
  refine lv_iload_n hx hb dX5_joins_1 rfl (lv_at hl 1 rfl) ?_
  refine g_callVi (rest := []) (c_X5_placeOf l D tb ad hj P M V x n (by first | assumption | omega)) rfl rfl gm_X5_placeOf hx hb hml hown hts hC hI (by decide) (e_x g_us) rfl rfl qm_X5_83 rfl hl.1 rfl ⟨rfl, rfl, by decide, by decide⟩ (Nat.le_of_ble_eq_true rfl) ⟨Nat.zero_le _, Nat.zero_le _⟩ dX5_joins_2 (fun H locs hI => ?_)
  refine g_pf (fun q1 => ?_) (fun i2 q1 => ?_)
  · refine lv_istore_n (lv' := [(3, .int (-1)), (0, .ref (ad 7 0)), (1, .int x), (2, .int z)]) hx hb dX5_joins_5 rfl hl (by decide) rfl (fun ls hl => ?_)
    refine lv_aload_n hx hb dX5_joins_6 rfl (lv_at hl 1 rfl) ?_
    refine lv_iload_n hx hb dX5_joins_7 rfl (lv_at hl 3 rfl) ?_
    refine g_callVi (rest := []) (c_X5_placeOf l D tb ad hj P M V z n (by first | assumption | omega)) rfl rfl gm_X5_placeOf hx hb hml hown hts hC hI (by decide) (e_x g_us) rfl rfl qm_X5_83 rfl hl.1 rfl ⟨rfl, rfl, by decide, by decide⟩ (Nat.le_of_ble_eq_true rfl) ⟨Nat.zero_le _, Nat.zero_le _⟩ dX5_joins_8 (fun H locs hI => ?_)
    refine g_pf (fun q3 => ?_) (fun i4 q3 => ?_)
    · refine lv_istore (lv' := [(4, .int (-1)), (3, .int (-1)), (0, .ref (ad 7 0)), (1, .int x), (2, .int z)]) hx hb dX5_joins_11 hl (by decide) rfl (fun ls hl => ?_)
      refine lv_iload_n hx hb dX5_joins_13 rfl (lv_at hl 1 rfl) ?_
      refine lv_if_lt (tgt := 28) hx hb dX5_joins_14 (by decide) (fun _ => ?_) (fun c5 => absurd c5 (by decide))
      refine lv_ldc (v := (-2000000001)) hx hb hown (hts _ qc_X5_25) dX5_joins_28 ?_
      exact g_ir hQ hx hb hr0 hlk hC hI dX5_joins_30 rfl (by unfold m_joins; skip; (try simp only [q1]); (try simp only [q3]); try with_reducible rfl) rfl (by unfold m_joins; skip; (try simp only [q1]); (try simp only [q3]); try with_reducible rfl)
    · have hi6 := k_last_lt q3
      have hi61 : i4 < n := hi6.1
      refine lv_istore (lv' := [(4, .int (nI i4)), (3, .int (-1)), (0, .ref (ad 7 0)), (1, .int x), (2, .int z)]) hx hb dX5_joins_11 hl (by decide) rfl (fun ls hl => ?_)
      refine lv_iload_n hx hb dX5_joins_13 rfl (lv_at hl 1 rfl) ?_
      refine lv_if_lt (tgt := 28) hx hb dX5_joins_14 (by decide) (fun _ => ?_) (fun c7 => absurd c7 (by decide))
      refine lv_ldc (v := (-2000000001)) hx hb hown (hts _ qc_X5_25) dX5_joins_28 ?_
      exact g_ir hQ hx hb hr0 hlk hC hI dX5_joins_30 rfl (by unfold m_joins; skip; (try simp only [q1]); (try simp only [q3]); try with_reducible rfl) rfl (by unfold m_joins; skip; (try simp only [q1]); (try simp only [q3]); try with_reducible rfl)
  · have hi8 := k_last_lt q1
    have hi81 : i2 < n := hi8.1
    refine lv_istore_n (lv' := [(3, .int (nI i2)), (0, .ref (ad 7 0)), (1, .int x), (2, .int z)]) hx hb dX5_joins_5 rfl hl (by decide) rfl (fun ls hl => ?_)
    refine lv_aload_n hx hb dX5_joins_6 rfl (lv_at hl 1 rfl) ?_
    refine lv_iload_n hx hb dX5_joins_7 rfl (lv_at hl 3 rfl) ?_
    refine g_callVi (rest := []) (c_X5_placeOf l D tb ad hj P M V z n (by first | assumption | omega)) rfl rfl gm_X5_placeOf hx hb hml hown hts hC hI (by decide) (e_x g_us) rfl rfl qm_X5_83 rfl hl.1 rfl ⟨rfl, rfl, by decide, by decide⟩ (Nat.le_of_ble_eq_true rfl) ⟨Nat.zero_le _, Nat.zero_le _⟩ dX5_joins_8 (fun H locs hI => ?_)
    refine g_pf (fun q9 => ?_) (fun i10 q9 => ?_)
    · refine lv_istore (lv' := [(4, .int (-1)), (3, .int (nI i2)), (0, .ref (ad 7 0)), (1, .int x), (2, .int z)]) hx hb dX5_joins_11 hl (by decide) rfl (fun ls hl => ?_)
      refine lv_iload_n hx hb dX5_joins_13 rfl (lv_at hl 1 rfl) ?_
      refine lv_if_lt (tgt := 28) hx hb dX5_joins_14 (by decide) (fun c11 => ?_) (fun c11 => ?_)
      · exact absurd c11 (nI_pos (by omega))
      · refine lv_iload hx hb dX5_joins_17 (lv_at hl 0 rfl) ?_
        refine lv_if_lt (tgt := 28) hx hb dX5_joins_19 (by decide) (fun _ => ?_) (fun c12 => absurd c12 (by decide))
        refine lv_ldc (v := (-2000000001)) hx hb hown (hts _ qc_X5_25) dX5_joins_28 ?_
        exact g_ir hQ hx hb hr0 hlk hC hI dX5_joins_30 rfl (by unfold m_joins; skip; (try simp only [q1]); (try simp only [q9]); (first | rw [if_pos c11] | rw [if_neg c11] | skip); try with_reducible rfl) rfl (by unfold m_joins; skip; (try simp only [q1]); (try simp only [q9]); (first | rw [if_pos c11] | rw [if_neg c11] | skip); try with_reducible rfl)
    · have hi13 := k_last_lt q9
      have hi131 : i10 < n := hi13.1
      refine lv_istore (lv' := [(4, .int (nI i10)), (3, .int (nI i2)), (0, .ref (ad 7 0)), (1, .int x), (2, .int z)]) hx hb dX5_joins_11 hl (by decide) rfl (fun ls hl => ?_)
      refine lv_iload_n hx hb dX5_joins_13 rfl (lv_at hl 1 rfl) ?_
      refine lv_if_lt (tgt := 28) hx hb dX5_joins_14 (by decide) (fun c14 => ?_) (fun c14 => ?_)
      · exact absurd c14 (nI_pos (by omega))
      · refine lv_iload hx hb dX5_joins_17 (lv_at hl 0 rfl) ?_
        refine lv_if_lt (tgt := 28) hx hb dX5_joins_19 (by decide) (fun c15 => ?_) (fun c15 => ?_)
        · exact absurd c15 (nI_pos (by omega))
        · refine lv_iload_n hx hb dX5_joins_22 rfl (lv_at hl 1 rfl) ?_
          refine lv_iload hx hb dX5_joins_23 (lv_at hl 0 rfl) ?_
          refine lv_icmp_ne (tgt := 31) hx hb dX5_joins_25 (by decide) (fun c16 => ?_) (fun c16 => ?_)
          · have c16n : ¬ i2 = i10 := fun z => c16 ((nI_eq (a := i2) (b := i10) (by omega) (by omega)).mpr z)
            refine lv_aload_n hx hb dX5_joins_31 rfl (lv_at hl 2 rfl) ?_
            refine lv_iload_n hx hb dX5_joins_32 rfl (lv_at hl 1 rfl) ?_
            refine lv_iconst (v := 1) hx hb dX5_joins_33 (by decide) ?_
            refine g_callVi (rest := []) (c_X5_of l D tb ad hj P M V i2 1 (by first | assumption | omega) (by first | assumption | omega)) rfl rfl gm_X5_of hx hb hml hown hts hC hI (by decide) (e_x g_us) rfl rfl qm_X5_33 rfl hl.1 rfl ⟨rfl, rfl, by decide, by decide⟩ (Nat.le_of_ble_eq_true rfl) ⟨Nat.zero_le _, Nat.zero_le _⟩ dX5_joins_34 (fun H locs hI => ?_)
            refine lv_aload_n hx hb dX5_joins_37 rfl (lv_at hl 2 rfl) ?_
            refine lv_iload hx hb dX5_joins_38 (lv_at hl 0 rfl) ?_
            refine lv_iconst (v := 1) hx hb dX5_joins_40 (by decide) ?_
            refine g_callVi (rest := [.int (V 1 (34 + 7 * i2 + 1))]) (c_X5_of l D tb ad hj P M V i10 1 (by first | assumption | omega) (by first | assumption | omega)) rfl rfl gm_X5_of hx hb hml hown hts hC hI (by decide) (e_x g_us) rfl rfl qm_X5_33 rfl hl.1 rfl ⟨rfl, rfl, by decide, by decide⟩ (Nat.le_of_ble_eq_true rfl) ⟨Nat.zero_le _, Nat.zero_le _⟩ dX5_joins_41 (fun H locs hI => ?_)
            refine lv_icmp_ne (tgt := 80) hx hb dX5_joins_44 (by decide) (fun c17 => ?_) (fun c17 => ?_)
            · refine lv_ldc (v := (-2000000002)) hx hb hown (hts _ qc_X5_86) dX5_joins_80 ?_
              exact g_ir hQ hx hb hr0 hlk hC hI dX5_joins_82 rfl (by unfold m_joins; skip; (try simp only [q1]); (try simp only [q9]); (first | rw [if_pos c14] | rw [if_neg c14] | skip); (first | rw [if_pos c15] | rw [if_neg c15] | skip); (first | rw [if_pos c16] | rw [if_neg c16] | skip); (first | rw [if_pos c17] | rw [if_neg c17] | skip); try with_reducible rfl) rfl (by unfold m_joins; skip; (try simp only [q1]); (try simp only [q9]); (first | rw [if_pos c14] | rw [if_neg c14] | skip); (first | rw [if_pos c15] | rw [if_neg c15] | skip); (first | rw [if_pos c16] | rw [if_neg c16] | skip); (first | rw [if_pos c17] | rw [if_neg c17] | skip); try with_reducible rfl)
            · refine lv_aload_n hx hb dX5_joins_47 rfl (lv_at hl 2 rfl) ?_
              refine lv_iload_n hx hb dX5_joins_48 rfl (lv_at hl 1 rfl) ?_
              refine lv_iconst (v := 2) hx hb dX5_joins_49 (by decide) ?_
              refine g_callVi (rest := []) (c_X5_of l D tb ad hj P M V i2 2 (by first | assumption | omega) (by first | assumption | omega)) rfl rfl gm_X5_of hx hb hml hown hts hC hI (by decide) (e_x g_us) rfl rfl qm_X5_33 rfl hl.1 rfl ⟨rfl, rfl, by decide, by decide⟩ (Nat.le_of_ble_eq_true rfl) ⟨Nat.zero_le _, Nat.zero_le _⟩ dX5_joins_50 (fun H locs hI => ?_)
              refine lv_aload_n hx hb dX5_joins_53 rfl (lv_at hl 2 rfl) ?_
              refine lv_iload hx hb dX5_joins_54 (lv_at hl 0 rfl) ?_
              refine lv_iconst (v := 2) hx hb dX5_joins_56 (by decide) ?_
              refine g_callVi (rest := [.int (V 1 (34 + 7 * i2 + 2))]) (c_X5_of l D tb ad hj P M V i10 2 (by first | assumption | omega) (by first | assumption | omega)) rfl rfl gm_X5_of hx hb hml hown hts hC hI (by decide) (e_x g_us) rfl rfl qm_X5_33 rfl hl.1 rfl ⟨rfl, rfl, by decide, by decide⟩ (Nat.le_of_ble_eq_true rfl) ⟨Nat.zero_le _, Nat.zero_le _⟩ dX5_joins_57 (fun H locs hI => ?_)
              refine lv_icmp_ne (tgt := 80) hx hb dX5_joins_60 (by decide) (fun c18 => ?_) (fun c18 => ?_)
              · refine lv_ldc (v := (-2000000002)) hx hb hown (hts _ qc_X5_86) dX5_joins_80 ?_
                exact g_ir hQ hx hb hr0 hlk hC hI dX5_joins_82 rfl (by unfold m_joins; skip; (try simp only [q1]); (try simp only [q9]); (first | rw [if_pos c14] | rw [if_neg c14] | skip); (first | rw [if_pos c15] | rw [if_neg c15] | skip); (first | rw [if_pos c16] | rw [if_neg c16] | skip); (first | rw [if_pos c17] | rw [if_neg c17] | skip); (first | rw [if_pos c18] | rw [if_neg c18] | skip); try with_reducible rfl) rfl (by unfold m_joins; skip; (try simp only [q1]); (try simp only [q9]); (first | rw [if_pos c14] | rw [if_neg c14] | skip); (first | rw [if_pos c15] | rw [if_neg c15] | skip); (first | rw [if_pos c16] | rw [if_neg c16] | skip); (first | rw [if_pos c17] | rw [if_neg c17] | skip); (first | rw [if_pos c18] | rw [if_neg c18] | skip); try with_reducible rfl)
              · refine lv_aload_n hx hb dX5_joins_63 rfl (lv_at hl 2 rfl) ?_
                refine lv_iload_n hx hb dX5_joins_64 rfl (lv_at hl 1 rfl) ?_
                refine g_callVi (rest := []) (c_X5_isPledged l D tb ad hj P M V i2 (by first | assumption | omega)) rfl rfl gm_X5_isPledged hx hb hml hown hts hC hI (by decide) (e_x g_us) rfl rfl qm_X5_87 rfl hl.1 rfl ⟨rfl, rfl, by decide, by decide⟩ (Nat.le_of_ble_eq_true rfl) ⟨Nat.zero_le _, Nat.zero_le _⟩ dX5_joins_65 (fun H locs hI => ?_)
                refine g_tf (fun c19 => ?_) (fun c19 => ?_)
                · refine lv_if_ne (tgt := 80) hx hb dX5_joins_68 (by decide) (fun _ => ?_) (fun c20 => absurd c20 (by decide))
                  refine lv_ldc (v := (-2000000002)) hx hb hown (hts _ qc_X5_86) dX5_joins_80 ?_
                  exact g_ir hQ hx hb hr0 hlk hC hI dX5_joins_82 rfl (by unfold m_joins; skip; (try simp only [q1]); (try simp only [q9]); (first | rw [if_pos c14] | rw [if_neg c14] | skip); (first | rw [if_pos c15] | rw [if_neg c15] | skip); (first | rw [if_pos c16] | rw [if_neg c16] | skip); (first | rw [if_pos c17] | rw [if_neg c17] | skip); (first | rw [if_pos c18] | rw [if_neg c18] | skip); (first | rw [if_pos c19] | rw [if_neg c19] | skip); try with_reducible rfl) rfl (by unfold m_joins; skip; (try simp only [q1]); (try simp only [q9]); (first | rw [if_pos c14] | rw [if_neg c14] | skip); (first | rw [if_pos c15] | rw [if_neg c15] | skip); (first | rw [if_pos c16] | rw [if_neg c16] | skip); (first | rw [if_pos c17] | rw [if_neg c17] | skip); (first | rw [if_pos c18] | rw [if_neg c18] | skip); (first | rw [if_pos c19] | rw [if_neg c19] | skip); try with_reducible rfl)
                · refine lv_if_ne (tgt := 80) hx hb dX5_joins_68 (by decide) (fun c21 => absurd c21 (by decide)) (fun _ => ?_)
                  refine lv_aload_n hx hb dX5_joins_71 rfl (lv_at hl 2 rfl) ?_
                  refine lv_iload hx hb dX5_joins_72 (lv_at hl 0 rfl) ?_
                  refine g_callVi (rest := []) (c_X5_isPledged l D tb ad hj P M V i10 (by first | assumption | omega)) rfl rfl gm_X5_isPledged hx hb hml hown hts hC hI (by decide) (e_x g_us) rfl rfl qm_X5_87 rfl hl.1 rfl ⟨rfl, rfl, by decide, by decide⟩ (Nat.le_of_ble_eq_true rfl) ⟨Nat.zero_le _, Nat.zero_le _⟩ dX5_joins_74 (fun H locs hI => ?_)
                  refine g_tf (fun c22 => ?_) (fun c22 => ?_)
                  · refine lv_if_eq (tgt := 83) hx hb dX5_joins_77 (by decide) (fun c23 => absurd c23 (by decide)) (fun _ => ?_)
                    refine lv_ldc (v := (-2000000002)) hx hb hown (hts _ qc_X5_86) dX5_joins_80 ?_
                    exact g_ir hQ hx hb hr0 hlk hC hI dX5_joins_82 rfl (by unfold m_joins; skip; (try simp only [q1]); (try simp only [q9]); (first | rw [if_pos c14] | rw [if_neg c14] | skip); (first | rw [if_pos c15] | rw [if_neg c15] | skip); (first | rw [if_pos c16] | rw [if_neg c16] | skip); (first | rw [if_pos c17] | rw [if_neg c17] | skip); (first | rw [if_pos c18] | rw [if_neg c18] | skip); (first | rw [if_pos c19] | rw [if_neg c19] | skip); (first | rw [if_pos c22] | rw [if_neg c22] | skip); try with_reducible rfl) rfl (by unfold m_joins; skip; (try simp only [q1]); (try simp only [q9]); (first | rw [if_pos c14] | rw [if_neg c14] | skip); (first | rw [if_pos c15] | rw [if_neg c15] | skip); (first | rw [if_pos c16] | rw [if_neg c16] | skip); (first | rw [if_pos c17] | rw [if_neg c17] | skip); (first | rw [if_pos c18] | rw [if_neg c18] | skip); (first | rw [if_pos c19] | rw [if_neg c19] | skip); (first | rw [if_pos c22] | rw [if_neg c22] | skip); try with_reducible rfl)
                  · refine lv_if_eq (tgt := 83) hx hb dX5_joins_77 (by decide) (fun _ => ?_) (fun c24 => absurd c24 (by decide))
                    refine lv_aload_n hx hb dX5_joins_83 rfl (lv_at hl 2 rfl) ?_
                    refine lv_iload_n hx hb dX5_joins_84 rfl (lv_at hl 1 rfl) ?_
                    refine lv_iconst (v := 3) hx hb dX5_joins_85 (by decide) ?_
                    refine g_callVi (rest := []) (c_X5_of l D tb ad hj P M V i2 3 (by first | assumption | omega) (by first | assumption | omega)) rfl rfl gm_X5_of hx hb hml hown hts hC hI (by decide) (e_x g_us) rfl rfl qm_X5_33 rfl hl.1 rfl ⟨rfl, rfl, by decide, by decide⟩ (Nat.le_of_ble_eq_true rfl) ⟨Nat.zero_le _, Nat.zero_le _⟩ dX5_joins_86 (fun H locs hI => ?_)
                    refine lv_aload_n hx hb dX5_joins_89 rfl (lv_at hl 2 rfl) ?_
                    refine lv_iload hx hb dX5_joins_90 (lv_at hl 0 rfl) ?_
                    refine lv_iconst (v := 3) hx hb dX5_joins_92 (by decide) ?_
                    refine g_callVi (rest := [.int (V 1 (34 + 7 * i2 + 3))]) (c_X5_of l D tb ad hj P M V i10 3 (by first | assumption | omega) (by first | assumption | omega)) rfl rfl gm_X5_of hx hb hml hown hts hC hI (by decide) (e_x g_us) rfl rfl qm_X5_33 rfl hl.1 rfl ⟨rfl, rfl, by decide, by decide⟩ (Nat.le_of_ble_eq_true rfl) ⟨Nat.zero_le _, Nat.zero_le _⟩ dX5_joins_93 (fun H locs hI => ?_)
                    refine lv_iadd hx hb dX5_joins_96 ?_
                    refine lv_istore (lv' := [(5, .int ((V 1 (34 + 7 * i2 + 3)) + (V 1 (34 + 7 * i10 + 3)))), (4, .int (nI i10)), (3, .int (nI i2)), (0, .ref (ad 7 0)), (1, .int x), (2, .int z)]) hx hb dX5_joins_97 hl (by decide) rfl (fun ls hl => ?_)
                    refine lv_aload_n hx hb dX5_joins_99 rfl (lv_at hl 3 rfl) ?_
                    refine lv_iload hx hb dX5_joins_100 (lv_at hl 1 rfl) ?_
                    refine lv_iconst (v := 3) hx hb dX5_joins_102 (by decide) ?_
                    refine lv_iload hx hb dX5_joins_103 (lv_at hl 0 rfl) ?_
                    refine g_callVv (rest := []) (c_X5_lays l D tb ad hj P M V i10 3 ((V 1 (34 + 7 * i2 + 3)) + (V 1 (34 + 7 * i10 + 3))) (by first | assumption | omega) (by first | assumption | omega)) rfl rfl gm_X5_lays hx hb hml hown hts hC hI (by decide) (e_x g_us) rfl rfl qm_X5_37 rfl hl.1 rfl ⟨rfl, rfl, by decide, by decide⟩ (Nat.le_of_ble_eq_true rfl) ⟨Nat.zero_le _, Nat.zero_le _⟩ dX5_joins_105 (fun H locs hI => ?_)
                    refine lv_aload_n hx hb dX5_joins_108 rfl (lv_at hl 3 rfl) ?_
                    refine lv_iload_n hx hb dX5_joins_109 rfl (lv_at hl 2 rfl) ?_
                    refine g_callVv (rest := []) (c_X5_removes l D tb ad hj P M (g_w2 V 1 (34 + 7 * i10 + 3) ((V 1 (34 + 7 * i2 + 3)) + (V 1 (34 + 7 * i10 + 3)))) i2 n (by first | assumption | omega) (by first | assumption | omega)) rfl rfl gm_X5_removes hx hb hml hown hts hC hI (by decide) (e_x g_us) rfl rfl qm_X5_91 rfl hl.1 rfl ⟨rfl, rfl, by decide, by decide⟩ (Nat.le_of_ble_eq_true rfl) ⟨Nat.zero_le _, Nat.zero_le _⟩ dX5_joins_110 (fun H locs hI => ?_)
                    refine lv_iload hx hb dX5_joins_113 (lv_at hl 0 rfl) ?_
                    exact g_ir hQ hx hb hr0 hlk hC hI dX5_joins_115 rfl (by unfold m_joins; skip; (try simp only [q1]); (try simp only [q9]); (first | rw [if_pos c14] | rw [if_neg c14] | skip); (first | rw [if_pos c15] | rw [if_neg c15] | skip); (first | rw [if_pos c16] | rw [if_neg c16] | skip); (first | rw [if_pos c17] | rw [if_neg c17] | skip); (first | rw [if_pos c18] | rw [if_neg c18] | skip); (first | rw [if_pos c19] | rw [if_neg c19] | skip); (first | rw [if_pos c22] | rw [if_neg c22] | skip); try with_reducible rfl) rfl (by unfold m_joins; skip; (try simp only [q1]); (try simp only [q9]); (first | rw [if_pos c14] | rw [if_neg c14] | skip); (first | rw [if_pos c15] | rw [if_neg c15] | skip); (first | rw [if_pos c16] | rw [if_neg c16] | skip); (first | rw [if_pos c17] | rw [if_neg c17] | skip); (first | rw [if_pos c18] | rw [if_neg c18] | skip); (first | rw [if_pos c19] | rw [if_neg c19] | skip); (first | rw [if_pos c22] | rw [if_neg c22] | skip); try with_reducible rfl)
          · have c16n : i2 = i10 := (nI_eq (a := i2) (b := i10) (by omega) (by omega)).mp c16
            refine lv_ldc (v := (-2000000001)) hx hb hown (hts _ qc_X5_25) dX5_joins_28 ?_
            exact g_ir hQ hx hb hr0 hlk hC hI dX5_joins_30 rfl (by unfold m_joins; skip; (try simp only [q1]); (try simp only [q9]); (first | rw [if_pos c14] | rw [if_neg c14] | skip); (first | rw [if_pos c15] | rw [if_neg c15] | skip); (first | rw [if_pos c16] | rw [if_neg c16] | skip); try with_reducible rfl) rfl (by unfold m_joins; skip; (try simp only [q1]); (try simp only [q9]); (first | rw [if_pos c14] | rw [if_neg c14] | skip); (first | rw [if_pos c15] | rw [if_neg c15] | skip); (first | rw [if_pos c16] | rw [if_neg c16] | skip); try with_reducible rfl)
def m_pledges (V : g_V) (x : Int32) (le : Int32) (lo : Int32) (n : Nat) : Int32 × g_V :=
  match (m_place V x n) with | none => ((-2000000001), V) | some i2 => (if m_in le 0 2 then (if 1 ≤ lo then (if m_pledged V i2 then ((-2000000002), V) else (if (V 1 (34 + 7 * i2 + 1)) = (5 + le) then ((-2000000002), V) else (if lo ≤ (m_share V i2 0) then ((g_w2 (g_w2 (g_w2 V 1 (34 + 7 * i2 + 4) le) 1 (34 + 7 * i2 + 5) lo) 1 (13 + (V 1 (34 + 7 * i2 + 1)).toNatClampNeg) (((g_w2 (g_w2 V 1 (34 + 7 * i2 + 4) le) 1 (34 + 7 * i2 + 5) lo) 1 (13 + (V 1 (34 + 7 * i2 + 1)).toNatClampNeg)) + lo)) 1 (13 + (V 1 (34 + 7 * i2 + 1)).toNatClampNeg), (g_w2 (g_w2 (g_w2 V 1 (34 + 7 * i2 + 4) le) 1 (34 + 7 * i2 + 5) lo) 1 (13 + (V 1 (34 + 7 * i2 + 1)).toNatClampNeg) (((g_w2 (g_w2 V 1 (34 + 7 * i2 + 4) le) 1 (34 + 7 * i2 + 5) lo) 1 (13 + (V 1 (34 + 7 * i2 + 1)).toNatClampNeg)) + lo))) else ((-2000000002), V)))) else ((-2000000001), V)) else ((-2000000001), V))
abbrev rm_X5_pledges : Room := { frames := 3, cells := 0, slots := 0, locals := 65 }
set_option maxHeartbeats 800000 in
set_option maxRecDepth 100000 in
theorem c_X5_pledges (l : Launch) (D : va_G) (tb : g_T) (ad : g_Ad) (hj : g_inj ad) (P : g_P) (M : g_M) (V : g_V) (x : Int32) (le : Int32) (lo : Int32) (n : Nat) (hn : m_N V n) (hR : m_okR V n) : g_Ci l yX5_pledges cX5_pledges 6 (some .int) rm_X5_pledges D tb ad [.ref (ad 7 0), .int x, .int le, .int lo] P (va_up M 7 V) ((m_pledges V x le lo n).1) P (va_up M 7 ((m_pledges V x le lo n).2)) := by
  refine g_go (by decide) (Nat.le_of_ble_eq_true rfl) hj ?_
  intro p e s m below meth c ls H locs R args Q hR0 hQ hx hb hml hr0 hlk hown hts hC hI hl
  subst hR0
  have hown : s.vm.findClass RX5 = some m.cls := hown
  have hl : lv_has ls 6 [(0, .ref (ad 7 0)), (1, .int x), (2, .int le), (3, .int lo)] := hl
  refine lv_aload_n hx hb dX5_pledges_0 rfl (lv_at hl 0 rfl) ?_
  refine lv_iload_n hx hb dX5_pledges_1 rfl (lv_at hl 1 rfl) ?_
  refine g_callVi (rest := []) (c_X5_placeOf l D tb ad hj P M V x n (by first | assumption | omega)) rfl rfl gm_X5_placeOf hx hb hml hown hts hC hI (by decide) (e_x g_us) rfl rfl qm_X5_83 rfl hl.1 rfl ⟨rfl, rfl, by decide, by decide⟩ (Nat.le_of_ble_eq_true rfl) ⟨Nat.zero_le _, Nat.zero_le _⟩ dX5_pledges_2 (fun H locs hI => ?_)
  refine g_pf (fun q1 => ?_) (fun i2 q1 => ?_)
  · refine lv_istore (lv' := [(4, .int (-1)), (0, .ref (ad 7 0)), (1, .int x), (2, .int le), (3, .int lo)]) hx hb dX5_pledges_5 hl (by decide) rfl (fun ls hl => ?_)
    refine lv_iload hx hb dX5_pledges_7 (lv_at hl 0 rfl) ?_
    refine lv_if_lt (tgt := 26) hx hb dX5_pledges_9 (by decide) (fun _ => ?_) (fun c3 => absurd c3 (by decide))
    refine lv_ldc (v := (-2000000001)) hx hb hown (hts _ qc_X5_25) dX5_pledges_26 ?_
    exact g_ir hQ hx hb hr0 hlk hC hI dX5_pledges_28 rfl (by unfold m_pledges; (try simp only [q1]); (try simp only [show (V 1 (34 + 7 * i2 + 1)).toNatClampNeg = o from by rw [ho]; exact nI_clamp (by omega)]); (try simp only [q1]); try with_reducible rfl) rfl (by unfold m_pledges; (try simp only [q1]); (try simp only [show (V 1 (34 + 7 * i2 + 1)).toNatClampNeg = o from by rw [ho]; exact nI_clamp (by omega)]); (try simp only [q1]); try with_reducible rfl)
  · have hi4 := k_last_lt q1
    have hi41 : i2 < n := hi4.1
    obtain ⟨⟨o, ho8, ho⟩, -, -⟩ := hR i2 hi41
    refine lv_istore (lv' := [(4, .int (nI i2)), (0, .ref (ad 7 0)), (1, .int x), (2, .int le), (3, .int lo)]) hx hb dX5_pledges_5 hl (by decide) rfl (fun ls hl => ?_)
    refine lv_iload hx hb dX5_pledges_7 (lv_at hl 0 rfl) ?_
    refine lv_if_lt (tgt := 26) hx hb dX5_pledges_9 (by decide) (fun c5 => ?_) (fun c5 => ?_)
    · exact absurd c5 (nI_pos (by omega))
    · refine lv_iload_n hx hb dX5_pledges_12 rfl (lv_at hl 3 rfl) ?_
      refine lv_iconst (v := 0) hx hb dX5_pledges_13 (by decide) ?_
      refine lv_iconst (v := 2) hx hb dX5_pledges_14 (by decide) ?_
      refine g_callSi (rest := []) (c_X5_in l D tb ad hj P (va_up M 7 V) le 0 2) rfl rfl gm_X5_in hx hb hml hown hts hC hI qm_X5_67 rfl hl.1 rfl ⟨rfl, rfl, by decide, by decide⟩ (Nat.le_of_ble_eq_true rfl) ⟨Nat.zero_le _, Nat.zero_le _⟩ dX5_pledges_15 (fun H locs hI => ?_)
      refine g_tf (fun c6 => ?_) (fun c6 => ?_)
      · refine lv_if_eq (tgt := 26) hx hb dX5_pledges_18 (by decide) (fun c7 => absurd c7 (by decide)) (fun _ => ?_)
        refine lv_iload_n hx hb dX5_pledges_21 rfl (lv_at hl 4 rfl) ?_
        refine lv_iconst (v := 1) hx hb dX5_pledges_22 (by decide) ?_
        refine lv_icmp_ge (tgt := 29) hx hb dX5_pledges_23 (by decide) (fun c8 => ?_) (fun c8 => ?_)
        · refine lv_aload_n hx hb dX5_pledges_29 rfl (lv_at hl 1 rfl) ?_
          refine lv_iload hx hb dX5_pledges_30 (lv_at hl 0 rfl) ?_
          refine g_callVi (rest := []) (c_X5_isPledged l D tb ad hj P M V i2 (by first | assumption | omega)) rfl rfl gm_X5_isPledged hx hb hml hown hts hC hI (by decide) (e_x g_us) rfl rfl qm_X5_87 rfl hl.1 rfl ⟨rfl, rfl, by decide, by decide⟩ (Nat.le_of_ble_eq_true rfl) ⟨Nat.zero_le _, Nat.zero_le _⟩ dX5_pledges_32 (fun H locs hI => ?_)
          refine g_tf (fun c9 => ?_) (fun c9 => ?_)
          · refine lv_if_ne (tgt := 62) hx hb dX5_pledges_35 (by decide) (fun _ => ?_) (fun c10 => absurd c10 (by decide))
            refine lv_ldc (v := (-2000000002)) hx hb hown (hts _ qc_X5_86) dX5_pledges_62 ?_
            exact g_ir hQ hx hb hr0 hlk hC hI dX5_pledges_64 rfl (by unfold m_pledges; (try simp only [q1]); (first | rw [if_pos c5] | rw [if_neg c5] | skip); (first | rw [if_pos c6] | rw [if_neg c6] | skip); (first | rw [if_pos c8] | rw [if_neg c8] | skip); (first | rw [if_pos c9] | rw [if_neg c9] | skip); (try simp only [show (V 1 (34 + 7 * i2 + 1)).toNatClampNeg = o from by rw [ho]; exact nI_clamp (by omega)]); (try simp only [q1]); (first | rw [if_pos c5] | rw [if_neg c5] | skip); (first | rw [if_pos c6] | rw [if_neg c6] | skip); (first | rw [if_pos c8] | rw [if_neg c8] | skip); (first | rw [if_pos c9] | rw [if_neg c9] | skip); try with_reducible rfl) rfl (by unfold m_pledges; (try simp only [q1]); (first | rw [if_pos c5] | rw [if_neg c5] | skip); (first | rw [if_pos c6] | rw [if_neg c6] | skip); (first | rw [if_pos c8] | rw [if_neg c8] | skip); (first | rw [if_pos c9] | rw [if_neg c9] | skip); (try simp only [show (V 1 (34 + 7 * i2 + 1)).toNatClampNeg = o from by rw [ho]; exact nI_clamp (by omega)]); (try simp only [q1]); (first | rw [if_pos c5] | rw [if_neg c5] | skip); (first | rw [if_pos c6] | rw [if_neg c6] | skip); (first | rw [if_pos c8] | rw [if_neg c8] | skip); (first | rw [if_pos c9] | rw [if_neg c9] | skip); try with_reducible rfl)
          · refine lv_if_ne (tgt := 62) hx hb dX5_pledges_35 (by decide) (fun c11 => absurd c11 (by decide)) (fun _ => ?_)
            refine lv_aload_n hx hb dX5_pledges_38 rfl (lv_at hl 1 rfl) ?_
            refine lv_iload hx hb dX5_pledges_39 (lv_at hl 0 rfl) ?_
            refine lv_iconst (v := 1) hx hb dX5_pledges_41 (by decide) ?_
            refine g_callVi (rest := []) (c_X5_of l D tb ad hj P M V i2 1 (by first | assumption | omega) (by first | assumption | omega)) rfl rfl gm_X5_of hx hb hml hown hts hC hI (by decide) (e_x g_us) rfl rfl qm_X5_33 rfl hl.1 rfl ⟨rfl, rfl, by decide, by decide⟩ (Nat.le_of_ble_eq_true rfl) ⟨Nat.zero_le _, Nat.zero_le _⟩ dX5_pledges_42 (fun H locs hI => ?_)
            refine lv_iconst (v := 5) hx hb dX5_pledges_45 (by decide) ?_
            refine lv_iload_n hx hb dX5_pledges_46 rfl (lv_at hl 3 rfl) ?_
            refine lv_iadd hx hb dX5_pledges_47 ?_
            refine lv_icmp_eq (tgt := 62) hx hb dX5_pledges_48 (by decide) (fun c12 => ?_) (fun c12 => ?_)
            · refine lv_ldc (v := (-2000000002)) hx hb hown (hts _ qc_X5_86) dX5_pledges_62 ?_
              exact g_ir hQ hx hb hr0 hlk hC hI dX5_pledges_64 rfl (by unfold m_pledges; (try simp only [q1]); (first | rw [if_pos c5] | rw [if_neg c5] | skip); (first | rw [if_pos c6] | rw [if_neg c6] | skip); (first | rw [if_pos c8] | rw [if_neg c8] | skip); (first | rw [if_pos c9] | rw [if_neg c9] | skip); (first | rw [if_pos c12] | rw [if_neg c12] | skip); (try simp only [show (V 1 (34 + 7 * i2 + 1)).toNatClampNeg = o from by rw [ho]; exact nI_clamp (by omega)]); (try simp only [q1]); (first | rw [if_pos c5] | rw [if_neg c5] | skip); (first | rw [if_pos c6] | rw [if_neg c6] | skip); (first | rw [if_pos c8] | rw [if_neg c8] | skip); (first | rw [if_pos c9] | rw [if_neg c9] | skip); (first | rw [if_pos c12] | rw [if_neg c12] | skip); try with_reducible rfl) rfl (by unfold m_pledges; (try simp only [q1]); (first | rw [if_pos c5] | rw [if_neg c5] | skip); (first | rw [if_pos c6] | rw [if_neg c6] | skip); (first | rw [if_pos c8] | rw [if_neg c8] | skip); (first | rw [if_pos c9] | rw [if_neg c9] | skip); (first | rw [if_pos c12] | rw [if_neg c12] | skip); (try simp only [show (V 1 (34 + 7 * i2 + 1)).toNatClampNeg = o from by rw [ho]; exact nI_clamp (by omega)]); (try simp only [q1]); (first | rw [if_pos c5] | rw [if_neg c5] | skip); (first | rw [if_pos c6] | rw [if_neg c6] | skip); (first | rw [if_pos c8] | rw [if_neg c8] | skip); (first | rw [if_pos c9] | rw [if_neg c9] | skip); (first | rw [if_pos c12] | rw [if_neg c12] | skip); try with_reducible rfl)
            · refine lv_iload_n hx hb dX5_pledges_51 rfl (lv_at hl 4 rfl) ?_
              refine lv_aload_n hx hb dX5_pledges_52 rfl (lv_at hl 1 rfl) ?_
              refine lv_iload hx hb dX5_pledges_53 (lv_at hl 0 rfl) ?_
              refine lv_iconst (v := 0) hx hb dX5_pledges_55 (by decide) ?_
              refine g_callVi (rest := [.int lo]) (c_X5_share l D tb ad hj P M V i2 0 (by first | assumption | omega) (by first | assumption | omega)) rfl rfl gm_X5_share hx hb hml hown hts hC hI (by decide) (e_x g_us) rfl rfl qm_X5_49 rfl hl.1 rfl ⟨rfl, rfl, by decide, by decide⟩ (Nat.le_of_ble_eq_true rfl) ⟨Nat.zero_le _, Nat.zero_le _⟩ dX5_pledges_56 (fun H locs hI => ?_)
              refine lv_icmp_le (tgt := 65) hx hb dX5_pledges_59 (by decide) (fun c13 => ?_) (fun c13 => ?_)
              · refine lv_aload_n hx hb dX5_pledges_65 rfl (lv_at hl 1 rfl) ?_
                refine lv_iload hx hb dX5_pledges_66 (lv_at hl 0 rfl) ?_
                refine lv_iconst (v := 4) hx hb dX5_pledges_68 (by decide) ?_
                refine lv_iload_n hx hb dX5_pledges_69 rfl (lv_at hl 3 rfl) ?_
                refine g_callVv (rest := []) (c_X5_lays l D tb ad hj P M V i2 4 le (by first | assumption | omega) (by first | assumption | omega)) rfl rfl gm_X5_lays hx hb hml hown hts hC hI (by decide) (e_x g_us) rfl rfl qm_X5_37 rfl hl.1 rfl ⟨rfl, rfl, by decide, by decide⟩ (Nat.le_of_ble_eq_true rfl) ⟨Nat.zero_le _, Nat.zero_le _⟩ dX5_pledges_70 (fun H locs hI => ?_)
                refine lv_aload_n hx hb dX5_pledges_73 rfl (lv_at hl 1 rfl) ?_
                refine lv_iload hx hb dX5_pledges_74 (lv_at hl 0 rfl) ?_
                refine lv_iconst (v := 5) hx hb dX5_pledges_76 (by decide) ?_
                refine lv_iload_n hx hb dX5_pledges_77 rfl (lv_at hl 4 rfl) ?_
                refine g_callVv (rest := []) (c_X5_lays l D tb ad hj P M (g_w2 V 1 (34 + 7 * i2 + 4) le) i2 5 lo (by first | assumption | omega) (by first | assumption | omega)) rfl rfl gm_X5_lays hx hb hml hown hts hC hI (by decide) (e_x g_us) rfl rfl qm_X5_37 rfl hl.1 rfl ⟨rfl, rfl, by decide, by decide⟩ (Nat.le_of_ble_eq_true rfl) ⟨Nat.zero_le _, Nat.zero_le _⟩ dX5_pledges_78 (fun H locs hI => ?_)
                refine lv_aload_n hx hb dX5_pledges_81 rfl (lv_at hl 1 rfl) ?_
                refine lv_iload hx hb dX5_pledges_82 (lv_at hl 0 rfl) ?_
                refine lv_iconst (v := 1) hx hb dX5_pledges_84 (by decide) ?_
                refine g_callVi (rest := []) (c_X5_of l D tb ad hj P M (g_w2 (g_w2 V 1 (34 + 7 * i2 + 4) le) 1 (34 + 7 * i2 + 5) lo) i2 1 (by first | assumption | omega) (by first | assumption | omega)) rfl rfl gm_X5_of hx hb hml hown hts hC hI (by decide) (e_x g_us) rfl rfl qm_X5_33 rfl hl.1 rfl ⟨rfl, rfl, by decide, by decide⟩ (Nat.le_of_ble_eq_true rfl) ⟨Nat.zero_le _, Nat.zero_le _⟩ dX5_pledges_85 (fun H locs hI => ?_)
                refine g_te (y := (nI o)) (by rw [w2_ne (by omega), w2_ne (by omega)]; exact ho) ?_
                refine lv_istore (lv' := [(5, .int (nI o)), (4, .int (nI i2)), (0, .ref (ad 7 0)), (1, .int x), (2, .int le), (3, .int lo)]) hx hb dX5_pledges_88 hl (by decide) rfl (fun ls hl => ?_)
                refine lv_aload_n hx hb dX5_pledges_90 rfl (lv_at hl 2 rfl) ?_
                refine g_get 0 hx hb hts hown hC hI i_X5 (by decide) (e_x g_us) rfl (by decide) qf_X5_7 rfl rfl dX5_pledges_91 ?_
                refine lv_bipush (v := 13) hx hb dX5_pledges_94 (by decide) ?_
                refine lv_iload hx hb dX5_pledges_96 (lv_at hl 0 rfl) ?_
                refine lv_iadd hx hb dX5_pledges_98 ?_
                refine g_te (nI_add 13 o) ?_
                refine lv_dup2_11 hx hb dX5_pledges_99 rfl rfl ?_
                refine g_iald (13 + o) hx hb hC hI (by decide) (e_xs g_us) (vp_in_nI (by omega) (by decide)) (nI_clamp (by omega)) dX5_pledges_100 ?_
                refine lv_iload_n hx hb dX5_pledges_101 rfl (lv_at hl 5 rfl) ?_
                refine lv_iadd hx hb dX5_pledges_102 ?_
                refine g_iast (13 + o) hx hb hC hI (by decide) (e_xs g_us) (vp_in_nI (by omega) (by decide)) (nI_clamp (by omega)) p_xs g_hs dX5_pledges_103 (fun H locs hI => ?_)
                refine lv_aload_n hx hb dX5_pledges_104 rfl (lv_at hl 2 rfl) ?_
                refine g_get 0 hx hb hts hown hC hI i_X5 (by decide) (e_x g_us) rfl (by decide) qf_X5_7 rfl rfl dX5_pledges_105 ?_
                refine lv_bipush (v := 13) hx hb dX5_pledges_108 (by decide) ?_
                refine lv_iload hx hb dX5_pledges_110 (lv_at hl 0 rfl) ?_
                refine lv_iadd hx hb dX5_pledges_112 ?_
                refine g_te (nI_add 13 o) ?_
                refine g_iald (13 + o) hx hb hC hI (by decide) (e_xs g_us) (vp_in_nI (by omega) (by decide)) (nI_clamp (by omega)) dX5_pledges_113 ?_
                exact g_ir hQ hx hb hr0 hlk hC hI dX5_pledges_114 rfl (by unfold m_pledges; (try simp only [q1]); (first | rw [if_pos c5] | rw [if_neg c5] | skip); (first | rw [if_pos c6] | rw [if_neg c6] | skip); (first | rw [if_pos c8] | rw [if_neg c8] | skip); (first | rw [if_pos c9] | rw [if_neg c9] | skip); (first | rw [if_pos c12] | rw [if_neg c12] | skip); (first | rw [if_pos c13] | rw [if_neg c13] | skip); (try simp only [show (V 1 (34 + 7 * i2 + 1)).toNatClampNeg = o from by rw [ho]; exact nI_clamp (by omega)]); (try simp only [q1]); (first | rw [if_pos c5] | rw [if_neg c5] | skip); (first | rw [if_pos c6] | rw [if_neg c6] | skip); (first | rw [if_pos c8] | rw [if_neg c8] | skip); (first | rw [if_pos c9] | rw [if_neg c9] | skip); (first | rw [if_pos c12] | rw [if_neg c12] | skip); (first | rw [if_pos c13] | rw [if_neg c13] | skip); try with_reducible rfl) rfl (by unfold m_pledges; (try simp only [q1]); (first | rw [if_pos c5] | rw [if_neg c5] | skip); (first | rw [if_pos c6] | rw [if_neg c6] | skip); (first | rw [if_pos c8] | rw [if_neg c8] | skip); (first | rw [if_pos c9] | rw [if_neg c9] | skip); (first | rw [if_pos c12] | rw [if_neg c12] | skip); (first | rw [if_pos c13] | rw [if_neg c13] | skip); (try simp only [show (V 1 (34 + 7 * i2 + 1)).toNatClampNeg = o from by rw [ho]; exact nI_clamp (by omega)]); (try simp only [q1]); (first | rw [if_pos c5] | rw [if_neg c5] | skip); (first | rw [if_pos c6] | rw [if_neg c6] | skip); (first | rw [if_pos c8] | rw [if_neg c8] | skip); (first | rw [if_pos c9] | rw [if_neg c9] | skip); (first | rw [if_pos c12] | rw [if_neg c12] | skip); (first | rw [if_pos c13] | rw [if_neg c13] | skip); try with_reducible rfl)
              · refine lv_ldc (v := (-2000000002)) hx hb hown (hts _ qc_X5_86) dX5_pledges_62 ?_
                exact g_ir hQ hx hb hr0 hlk hC hI dX5_pledges_64 rfl (by unfold m_pledges; (try simp only [q1]); (first | rw [if_pos c5] | rw [if_neg c5] | skip); (first | rw [if_pos c6] | rw [if_neg c6] | skip); (first | rw [if_pos c8] | rw [if_neg c8] | skip); (first | rw [if_pos c9] | rw [if_neg c9] | skip); (first | rw [if_pos c12] | rw [if_neg c12] | skip); (first | rw [if_pos c13] | rw [if_neg c13] | skip); (try simp only [show (V 1 (34 + 7 * i2 + 1)).toNatClampNeg = o from by rw [ho]; exact nI_clamp (by omega)]); (try simp only [q1]); (first | rw [if_pos c5] | rw [if_neg c5] | skip); (first | rw [if_pos c6] | rw [if_neg c6] | skip); (first | rw [if_pos c8] | rw [if_neg c8] | skip); (first | rw [if_pos c9] | rw [if_neg c9] | skip); (first | rw [if_pos c12] | rw [if_neg c12] | skip); (first | rw [if_pos c13] | rw [if_neg c13] | skip); try with_reducible rfl) rfl (by unfold m_pledges; (try simp only [q1]); (first | rw [if_pos c5] | rw [if_neg c5] | skip); (first | rw [if_pos c6] | rw [if_neg c6] | skip); (first | rw [if_pos c8] | rw [if_neg c8] | skip); (first | rw [if_pos c9] | rw [if_neg c9] | skip); (first | rw [if_pos c12] | rw [if_neg c12] | skip); (first | rw [if_pos c13] | rw [if_neg c13] | skip); (try simp only [show (V 1 (34 + 7 * i2 + 1)).toNatClampNeg = o from by rw [ho]; exact nI_clamp (by omega)]); (try simp only [q1]); (first | rw [if_pos c5] | rw [if_neg c5] | skip); (first | rw [if_pos c6] | rw [if_neg c6] | skip); (first | rw [if_pos c8] | rw [if_neg c8] | skip); (first | rw [if_pos c9] | rw [if_neg c9] | skip); (first | rw [if_pos c12] | rw [if_neg c12] | skip); (first | rw [if_pos c13] | rw [if_neg c13] | skip); try with_reducible rfl)
        · refine lv_ldc (v := (-2000000001)) hx hb hown (hts _ qc_X5_25) dX5_pledges_26 ?_
          exact g_ir hQ hx hb hr0 hlk hC hI dX5_pledges_28 rfl (by unfold m_pledges; (try simp only [q1]); (first | rw [if_pos c5] | rw [if_neg c5] | skip); (first | rw [if_pos c6] | rw [if_neg c6] | skip); (first | rw [if_pos c8] | rw [if_neg c8] | skip); (try simp only [show (V 1 (34 + 7 * i2 + 1)).toNatClampNeg = o from by rw [ho]; exact nI_clamp (by omega)]); (try simp only [q1]); (first | rw [if_pos c5] | rw [if_neg c5] | skip); (first | rw [if_pos c6] | rw [if_neg c6] | skip); (first | rw [if_pos c8] | rw [if_neg c8] | skip); try with_reducible rfl) rfl (by unfold m_pledges; (try simp only [q1]); (first | rw [if_pos c5] | rw [if_neg c5] | skip); (first | rw [if_pos c6] | rw [if_neg c6] | skip); (first | rw [if_pos c8] | rw [if_neg c8] | skip); (try simp only [show (V 1 (34 + 7 * i2 + 1)).toNatClampNeg = o from by rw [ho]; exact nI_clamp (by omega)]); (try simp only [q1]); (first | rw [if_pos c5] | rw [if_neg c5] | skip); (first | rw [if_pos c6] | rw [if_neg c6] | skip); (first | rw [if_pos c8] | rw [if_neg c8] | skip); try with_reducible rfl)
      · refine lv_if_eq (tgt := 26) hx hb dX5_pledges_18 (by decide) (fun _ => ?_) (fun c14 => absurd c14 (by decide))
        refine lv_ldc (v := (-2000000001)) hx hb hown (hts _ qc_X5_25) dX5_pledges_26 ?_
        exact g_ir hQ hx hb hr0 hlk hC hI dX5_pledges_28 rfl (by unfold m_pledges; (try simp only [q1]); (first | rw [if_pos c5] | rw [if_neg c5] | skip); (first | rw [if_pos c6] | rw [if_neg c6] | skip); (try simp only [show (V 1 (34 + 7 * i2 + 1)).toNatClampNeg = o from by rw [ho]; exact nI_clamp (by omega)]); (try simp only [q1]); (first | rw [if_pos c5] | rw [if_neg c5] | skip); (first | rw [if_pos c6] | rw [if_neg c6] | skip); try with_reducible rfl) rfl (by unfold m_pledges; (try simp only [q1]); (first | rw [if_pos c5] | rw [if_neg c5] | skip); (first | rw [if_pos c6] | rw [if_neg c6] | skip); (try simp only [show (V 1 (34 + 7 * i2 + 1)).toNatClampNeg = o from by rw [ho]; exact nI_clamp (by omega)]); (try simp only [q1]); (first | rw [if_pos c5] | rw [if_neg c5] | skip); (first | rw [if_pos c6] | rw [if_neg c6] | skip); try with_reducible rfl)
def m_repays (V : g_V) (x : Int32) (a : Int32) (n : Nat) : Int32 × g_V :=
  match (m_place V x n) with | none => ((-2000000001), V) | some i2 => (if 1 ≤ a then (if m_pledged V i2 then (if a ≤ (V 1 (34 + 7 * i2 + 5)) then (if ((V 1 (34 + 7 * i2 + 5)) - a) = 0 then (((V 1 (34 + 7 * i2 + 5)) - a), (m_frees (g_w2 (g_w2 V 1 (13 + (V 1 (34 + 7 * i2 + 1)).toNatClampNeg) ((V 1 (13 + (V 1 (34 + 7 * i2 + 1)).toNatClampNeg)) - a)) 1 (34 + 7 * i2 + 5) ((V 1 (34 + 7 * i2 + 5)) - a)) i2)) else (if m_above (g_w2 (g_w2 V 1 (13 + (V 1 (34 + 7 * i2 + 1)).toNatClampNeg) ((V 1 (13 + (V 1 (34 + 7 * i2 + 1)).toNatClampNeg)) - a)) 1 (34 + 7 * i2 + 5) ((V 1 (34 + 7 * i2 + 5)) - a)) i2 then (((V 1 (34 + 7 * i2 + 5)) - a), (g_w2 (g_w2 V 1 (13 + (V 1 (34 + 7 * i2 + 1)).toNatClampNeg) ((V 1 (13 + (V 1 (34 + 7 * i2 + 1)).toNatClampNeg)) - a)) 1 (34 + 7 * i2 + 5) ((V 1 (34 + 7 * i2 + 5)) - a))) else (((V 1 (34 + 7 * i2 + 5)) - a), (g_w2 (g_w2 (g_w2 V 1 (13 + (V 1 (34 + 7 * i2 + 1)).toNatClampNeg) ((V 1 (13 + (V 1 (34 + 7 * i2 + 1)).toNatClampNeg)) - a)) 1 (34 + 7 * i2 + 5) ((V 1 (34 + 7 * i2 + 5)) - a)) 1 (34 + 7 * i2 + 6) 0)))) else ((-2000000002), V)) else ((-2000000002), V)) else ((-2000000001), V))
abbrev rm_X5_repays : Room := { frames := 4, cells := 0, slots := 0, locals := 86 }
set_option maxHeartbeats 800000 in
set_option maxRecDepth 100000 in
theorem c_X5_repays (l : Launch) (D : va_G) (tb : g_T) (ad : g_Ad) (hj : g_inj ad) (P : g_P) (M : g_M) (V : g_V) (x : Int32) (a : Int32) (n : Nat) (hn : m_N V n) (hR : m_okR V n) : g_Ci l yX5_repays cX5_repays 5 (some .int) rm_X5_repays D tb ad [.ref (ad 7 0), .int x, .int a] P (va_up M 7 V) ((m_repays V x a n).1) P (va_up M 7 ((m_repays V x a n).2)) := by
  refine g_go (by decide) (Nat.le_of_ble_eq_true rfl) hj ?_
  intro p e s m below meth c ls H locs R args Q hR0 hQ hx hb hml hr0 hlk hown hts hC hI hl
  subst hR0
  have hown : s.vm.findClass RX5 = some m.cls := hown
  have hl : lv_has ls 5 [(0, .ref (ad 7 0)), (1, .int x), (2, .int a)] := hl
  refine lv_aload_n hx hb dX5_repays_0 rfl (lv_at hl 0 rfl) ?_
  refine lv_iload_n hx hb dX5_repays_1 rfl (lv_at hl 1 rfl) ?_
  refine g_callVi (rest := []) (c_X5_placeOf l D tb ad hj P M V x n (by first | assumption | omega)) rfl rfl gm_X5_placeOf hx hb hml hown hts hC hI (by decide) (e_x g_us) rfl rfl qm_X5_83 rfl hl.1 rfl ⟨rfl, rfl, by decide, by decide⟩ (Nat.le_of_ble_eq_true rfl) ⟨Nat.zero_le _, Nat.zero_le _⟩ dX5_repays_2 (fun H locs hI => ?_)
  refine g_pf (fun q1 => ?_) (fun i2 q1 => ?_)
  · refine lv_istore_n (lv' := [(3, .int (-1)), (0, .ref (ad 7 0)), (1, .int x), (2, .int a)]) hx hb dX5_repays_5 rfl hl (by decide) rfl (fun ls hl => ?_)
    refine lv_iload_n hx hb dX5_repays_6 rfl (lv_at hl 0 rfl) ?_
    refine lv_if_lt (tgt := 15) hx hb dX5_repays_7 (by decide) (fun _ => ?_) (fun c3 => absurd c3 (by decide))
    refine lv_ldc (v := (-2000000001)) hx hb hown (hts _ qc_X5_25) dX5_repays_15 ?_
    exact g_ir hQ hx hb hr0 hlk hC hI dX5_repays_17 rfl (by unfold m_repays; (try simp only [q1]); (try simp only [show (V 1 (34 + 7 * i2 + 1)).toNatClampNeg = o from by rw [ho]; exact nI_clamp (by omega)]); (try simp only [q1]); try with_reducible rfl) rfl (by unfold m_repays; (try simp only [q1]); (try simp only [show (V 1 (34 + 7 * i2 + 1)).toNatClampNeg = o from by rw [ho]; exact nI_clamp (by omega)]); (try simp only [q1]); try with_reducible rfl)
  · have hi4 := k_last_lt q1
    have hi41 : i2 < n := hi4.1
    obtain ⟨⟨o, ho8, ho⟩, -, -⟩ := hR i2 hi41
    refine lv_istore_n (lv' := [(3, .int (nI i2)), (0, .ref (ad 7 0)), (1, .int x), (2, .int a)]) hx hb dX5_repays_5 rfl hl (by decide) rfl (fun ls hl => ?_)
    refine lv_iload_n hx hb dX5_repays_6 rfl (lv_at hl 0 rfl) ?_
    refine lv_if_lt (tgt := 15) hx hb dX5_repays_7 (by decide) (fun c5 => ?_) (fun c5 => ?_)
    · exact absurd c5 (nI_pos (by omega))
    · refine lv_iload_n hx hb dX5_repays_10 rfl (lv_at hl 3 rfl) ?_
      refine lv_iconst (v := 1) hx hb dX5_repays_11 (by decide) ?_
      refine lv_icmp_ge (tgt := 18) hx hb dX5_repays_12 (by decide) (fun c6 => ?_) (fun c6 => ?_)
      · refine lv_aload_n hx hb dX5_repays_18 rfl (lv_at hl 1 rfl) ?_
        refine lv_iload_n hx hb dX5_repays_19 rfl (lv_at hl 0 rfl) ?_
        refine g_callVi (rest := []) (c_X5_isPledged l D tb ad hj P M V i2 (by first | assumption | omega)) rfl rfl gm_X5_isPledged hx hb hml hown hts hC hI (by decide) (e_x g_us) rfl rfl qm_X5_87 rfl hl.1 rfl ⟨rfl, rfl, by decide, by decide⟩ (Nat.le_of_ble_eq_true rfl) ⟨Nat.zero_le _, Nat.zero_le _⟩ dX5_repays_20 (fun H locs hI => ?_)
        refine g_tf (fun c7 => ?_) (fun c7 => ?_)
        · refine lv_if_eq (tgt := 36) hx hb dX5_repays_23 (by decide) (fun c8 => absurd c8 (by decide)) (fun _ => ?_)
          refine lv_aload_n hx hb dX5_repays_26 rfl (lv_at hl 1 rfl) ?_
          refine lv_iload_n hx hb dX5_repays_27 rfl (lv_at hl 0 rfl) ?_
          refine lv_iconst (v := 5) hx hb dX5_repays_28 (by decide) ?_
          refine g_callVi (rest := []) (c_X5_of l D tb ad hj P M V i2 5 (by first | assumption | omega) (by first | assumption | omega)) rfl rfl gm_X5_of hx hb hml hown hts hC hI (by decide) (e_x g_us) rfl rfl qm_X5_33 rfl hl.1 rfl ⟨rfl, rfl, by decide, by decide⟩ (Nat.le_of_ble_eq_true rfl) ⟨Nat.zero_le _, Nat.zero_le _⟩ dX5_repays_29 (fun H locs hI => ?_)
          refine lv_iload_n hx hb dX5_repays_32 rfl (lv_at hl 3 rfl) ?_
          refine lv_icmp_ge (tgt := 39) hx hb dX5_repays_33 (by decide) (fun c9 => ?_) (fun c9 => ?_)
          · refine lv_aload_n hx hb dX5_repays_39 rfl (lv_at hl 1 rfl) ?_
            refine lv_iload_n hx hb dX5_repays_40 rfl (lv_at hl 0 rfl) ?_
            refine lv_iconst (v := 5) hx hb dX5_repays_41 (by decide) ?_
            refine g_callVi (rest := []) (c_X5_of l D tb ad hj P M V i2 5 (by first | assumption | omega) (by first | assumption | omega)) rfl rfl gm_X5_of hx hb hml hown hts hC hI (by decide) (e_x g_us) rfl rfl qm_X5_33 rfl hl.1 rfl ⟨rfl, rfl, by decide, by decide⟩ (Nat.le_of_ble_eq_true rfl) ⟨Nat.zero_le _, Nat.zero_le _⟩ dX5_repays_42 (fun H locs hI => ?_)
            refine lv_iload_n hx hb dX5_repays_45 rfl (lv_at hl 3 rfl) ?_
            refine lv_isub hx hb dX5_repays_46 ?_
            refine lv_istore (lv' := [(4, .int ((V 1 (34 + 7 * i2 + 5)) - a)), (3, .int (nI i2)), (0, .ref (ad 7 0)), (1, .int x), (2, .int a)]) hx hb dX5_repays_47 hl (by decide) rfl (fun ls hl => ?_)
            refine lv_aload_n hx hb dX5_repays_49 rfl (lv_at hl 2 rfl) ?_
            refine g_get 0 hx hb hts hown hC hI i_X5 (by decide) (e_x g_us) rfl (by decide) qf_X5_7 rfl rfl dX5_repays_50 ?_
            refine lv_bipush (v := 13) hx hb dX5_repays_53 (by decide) ?_
            refine lv_aload_n hx hb dX5_repays_55 rfl (lv_at hl 2 rfl) ?_
            refine lv_iload_n hx hb dX5_repays_56 rfl (lv_at hl 1 rfl) ?_
            refine lv_iconst (v := 1) hx hb dX5_repays_57 (by decide) ?_
            refine g_callVi (rest := [.int 13, .ref (ad 7 1)]) (c_X5_of l D tb ad hj P M V i2 1 (by first | assumption | omega) (by first | assumption | omega)) rfl rfl gm_X5_of hx hb hml hown hts hC hI (by decide) (e_x g_us) rfl rfl qm_X5_33 rfl hl.1 rfl ⟨rfl, rfl, by decide, by decide⟩ (Nat.le_of_ble_eq_true rfl) ⟨Nat.zero_le _, Nat.zero_le _⟩ dX5_repays_58 (fun H locs hI => ?_)
            refine g_te (y := (nI o)) ho ?_
            refine lv_iadd hx hb dX5_repays_61 ?_
            refine g_te (nI_add 13 o) ?_
            refine lv_dup2_11 hx hb dX5_repays_62 rfl rfl ?_
            refine g_iald (13 + o) hx hb hC hI (by decide) (e_xs g_us) (vp_in_nI (by omega) (by decide)) (nI_clamp (by omega)) dX5_repays_63 ?_
            refine lv_iload_n hx hb dX5_repays_64 rfl (lv_at hl 4 rfl) ?_
            refine lv_isub hx hb dX5_repays_65 ?_
            refine g_iast (13 + o) hx hb hC hI (by decide) (e_xs g_us) (vp_in_nI (by omega) (by decide)) (nI_clamp (by omega)) p_xs g_hs dX5_repays_66 (fun H locs hI => ?_)
            refine lv_aload_n hx hb dX5_repays_67 rfl (lv_at hl 2 rfl) ?_
            refine lv_iload_n hx hb dX5_repays_68 rfl (lv_at hl 1 rfl) ?_
            refine lv_iconst (v := 5) hx hb dX5_repays_69 (by decide) ?_
            refine lv_iload hx hb dX5_repays_70 (lv_at hl 0 rfl) ?_
            refine g_callVv (rest := []) (c_X5_lays l D tb ad hj P M (g_w2 V 1 (13 + o) ((V 1 (13 + o)) - a)) i2 5 ((V 1 (34 + 7 * i2 + 5)) - a) (by first | assumption | omega) (by first | assumption | omega)) rfl rfl gm_X5_lays hx hb hml hown hts hC hI (by decide) (e_x g_us) rfl rfl qm_X5_37 rfl hl.1 rfl ⟨rfl, rfl, by decide, by decide⟩ (Nat.le_of_ble_eq_true rfl) ⟨Nat.zero_le _, Nat.zero_le _⟩ dX5_repays_72 (fun H locs hI => ?_)
            refine lv_iload hx hb dX5_repays_75 (lv_at hl 0 rfl) ?_
            refine lv_if_ne (tgt := 88) hx hb dX5_repays_77 (by decide) (fun c10 => ?_) (fun c10 => ?_)
            · refine lv_aload_n hx hb dX5_repays_88 rfl (lv_at hl 2 rfl) ?_
              refine lv_iload_n hx hb dX5_repays_89 rfl (lv_at hl 1 rfl) ?_
              refine g_callVi (rest := []) (c_X5_isAbove l D tb ad hj P M (g_w2 (g_w2 V 1 (13 + o) ((V 1 (13 + o)) - a)) 1 (34 + 7 * i2 + 5) ((V 1 (34 + 7 * i2 + 5)) - a)) i2 (by first | assumption | omega)) rfl rfl gm_X5_isAbove hx hb hml hown hts hC hI (by decide) (e_x g_us) rfl rfl qm_X5_94 rfl hl.1 rfl ⟨rfl, rfl, by decide, by decide⟩ (Nat.le_of_ble_eq_true rfl) ⟨Nat.zero_le _, Nat.zero_le _⟩ dX5_repays_90 (fun H locs hI => ?_)
              refine g_tf (fun c11 => ?_) (fun c11 => ?_)
              · refine lv_if_ne (tgt := 104) hx hb dX5_repays_93 (by decide) (fun _ => ?_) (fun c12 => absurd c12 (by decide))
                refine lv_iload hx hb dX5_repays_104 (lv_at hl 0 rfl) ?_
                exact g_ir hQ hx hb hr0 hlk hC hI dX5_repays_106 rfl (by unfold m_repays; (try simp only [q1]); (first | rw [if_pos c5] | rw [if_neg c5] | skip); (first | rw [if_pos c6] | rw [if_neg c6] | skip); (first | rw [if_pos c7] | rw [if_neg c7] | skip); (first | rw [if_pos c9] | rw [if_neg c9] | skip); (first | rw [if_pos c10] | rw [if_neg c10] | skip); (first | rw [if_pos c11] | rw [if_neg c11] | skip); (try simp only [show (V 1 (34 + 7 * i2 + 1)).toNatClampNeg = o from by rw [ho]; exact nI_clamp (by omega)]); (try simp only [q1]); (first | rw [if_pos c5] | rw [if_neg c5] | skip); (first | rw [if_pos c6] | rw [if_neg c6] | skip); (first | rw [if_pos c7] | rw [if_neg c7] | skip); (first | rw [if_pos c9] | rw [if_neg c9] | skip); (first | rw [if_pos c10] | rw [if_neg c10] | skip); (first | rw [if_pos c11] | rw [if_neg c11] | skip); try with_reducible rfl) rfl (by unfold m_repays; (try simp only [q1]); (first | rw [if_pos c5] | rw [if_neg c5] | skip); (first | rw [if_pos c6] | rw [if_neg c6] | skip); (first | rw [if_pos c7] | rw [if_neg c7] | skip); (first | rw [if_pos c9] | rw [if_neg c9] | skip); (first | rw [if_pos c10] | rw [if_neg c10] | skip); (first | rw [if_pos c11] | rw [if_neg c11] | skip); (try simp only [show (V 1 (34 + 7 * i2 + 1)).toNatClampNeg = o from by rw [ho]; exact nI_clamp (by omega)]); (try simp only [q1]); (first | rw [if_pos c5] | rw [if_neg c5] | skip); (first | rw [if_pos c6] | rw [if_neg c6] | skip); (first | rw [if_pos c7] | rw [if_neg c7] | skip); (first | rw [if_pos c9] | rw [if_neg c9] | skip); (first | rw [if_pos c10] | rw [if_neg c10] | skip); (first | rw [if_pos c11] | rw [if_neg c11] | skip); try with_reducible rfl)
              · refine lv_if_ne (tgt := 104) hx hb dX5_repays_93 (by decide) (fun c13 => absurd c13 (by decide)) (fun _ => ?_)
                refine lv_aload_n hx hb dX5_repays_96 rfl (lv_at hl 2 rfl) ?_
                refine lv_iload_n hx hb dX5_repays_97 rfl (lv_at hl 1 rfl) ?_
                refine lv_bipush (v := 6) hx hb dX5_repays_98 (by decide) ?_
                refine lv_iconst (v := 0) hx hb dX5_repays_100 (by decide) ?_
                refine g_callVv (rest := []) (c_X5_lays l D tb ad hj P M (g_w2 (g_w2 V 1 (13 + o) ((V 1 (13 + o)) - a)) 1 (34 + 7 * i2 + 5) ((V 1 (34 + 7 * i2 + 5)) - a)) i2 6 0 (by first | assumption | omega) (by first | assumption | omega)) rfl rfl gm_X5_lays hx hb hml hown hts hC hI (by decide) (e_x g_us) rfl rfl qm_X5_37 rfl hl.1 rfl ⟨rfl, rfl, by decide, by decide⟩ (Nat.le_of_ble_eq_true rfl) ⟨Nat.zero_le _, Nat.zero_le _⟩ dX5_repays_101 (fun H locs hI => ?_)
                refine lv_iload hx hb dX5_repays_104 (lv_at hl 0 rfl) ?_
                exact g_ir hQ hx hb hr0 hlk hC hI dX5_repays_106 rfl (by unfold m_repays; (try simp only [q1]); (first | rw [if_pos c5] | rw [if_neg c5] | skip); (first | rw [if_pos c6] | rw [if_neg c6] | skip); (first | rw [if_pos c7] | rw [if_neg c7] | skip); (first | rw [if_pos c9] | rw [if_neg c9] | skip); (first | rw [if_pos c10] | rw [if_neg c10] | skip); (first | rw [if_pos c11] | rw [if_neg c11] | skip); (try simp only [show (V 1 (34 + 7 * i2 + 1)).toNatClampNeg = o from by rw [ho]; exact nI_clamp (by omega)]); (try simp only [q1]); (first | rw [if_pos c5] | rw [if_neg c5] | skip); (first | rw [if_pos c6] | rw [if_neg c6] | skip); (first | rw [if_pos c7] | rw [if_neg c7] | skip); (first | rw [if_pos c9] | rw [if_neg c9] | skip); (first | rw [if_pos c10] | rw [if_neg c10] | skip); (first | rw [if_pos c11] | rw [if_neg c11] | skip); try with_reducible rfl) rfl (by unfold m_repays; (try simp only [q1]); (first | rw [if_pos c5] | rw [if_neg c5] | skip); (first | rw [if_pos c6] | rw [if_neg c6] | skip); (first | rw [if_pos c7] | rw [if_neg c7] | skip); (first | rw [if_pos c9] | rw [if_neg c9] | skip); (first | rw [if_pos c10] | rw [if_neg c10] | skip); (first | rw [if_pos c11] | rw [if_neg c11] | skip); (try simp only [show (V 1 (34 + 7 * i2 + 1)).toNatClampNeg = o from by rw [ho]; exact nI_clamp (by omega)]); (try simp only [q1]); (first | rw [if_pos c5] | rw [if_neg c5] | skip); (first | rw [if_pos c6] | rw [if_neg c6] | skip); (first | rw [if_pos c7] | rw [if_neg c7] | skip); (first | rw [if_pos c9] | rw [if_neg c9] | skip); (first | rw [if_pos c10] | rw [if_neg c10] | skip); (first | rw [if_pos c11] | rw [if_neg c11] | skip); try with_reducible rfl)
            · refine lv_aload_n hx hb dX5_repays_80 rfl (lv_at hl 2 rfl) ?_
              refine lv_iload_n hx hb dX5_repays_81 rfl (lv_at hl 1 rfl) ?_
              refine g_callVv (rest := []) (c_X5_frees l D tb ad hj P M (g_w2 (g_w2 V 1 (13 + o) ((V 1 (13 + o)) - a)) 1 (34 + 7 * i2 + 5) ((V 1 (34 + 7 * i2 + 5)) - a)) i2 (by first | assumption | omega)) rfl rfl gm_X5_frees hx hb hml hown hts hC hI (by decide) (e_x g_us) rfl rfl qm_X5_41 rfl hl.1 rfl ⟨rfl, rfl, by decide, by decide⟩ (Nat.le_of_ble_eq_true rfl) ⟨Nat.zero_le _, Nat.zero_le _⟩ dX5_repays_82 (fun H locs hI => ?_)
              refine lv_goto (tgt := 104) hx hb dX5_repays_85 (by decide) ?_
              refine lv_iload hx hb dX5_repays_104 (lv_at hl 0 rfl) ?_
              exact g_ir hQ hx hb hr0 hlk hC hI dX5_repays_106 rfl (by unfold m_repays; (try simp only [q1]); (first | rw [if_pos c5] | rw [if_neg c5] | skip); (first | rw [if_pos c6] | rw [if_neg c6] | skip); (first | rw [if_pos c7] | rw [if_neg c7] | skip); (first | rw [if_pos c9] | rw [if_neg c9] | skip); (first | rw [if_pos c10] | rw [if_neg c10] | skip); (try simp only [show (V 1 (34 + 7 * i2 + 1)).toNatClampNeg = o from by rw [ho]; exact nI_clamp (by omega)]); (try simp only [q1]); (first | rw [if_pos c5] | rw [if_neg c5] | skip); (first | rw [if_pos c6] | rw [if_neg c6] | skip); (first | rw [if_pos c7] | rw [if_neg c7] | skip); (first | rw [if_pos c9] | rw [if_neg c9] | skip); (first | rw [if_pos c10] | rw [if_neg c10] | skip); try with_reducible rfl) rfl (by unfold m_repays; (try simp only [q1]); (first | rw [if_pos c5] | rw [if_neg c5] | skip); (first | rw [if_pos c6] | rw [if_neg c6] | skip); (first | rw [if_pos c7] | rw [if_neg c7] | skip); (first | rw [if_pos c9] | rw [if_neg c9] | skip); (first | rw [if_pos c10] | rw [if_neg c10] | skip); (try simp only [show (V 1 (34 + 7 * i2 + 1)).toNatClampNeg = o from by rw [ho]; exact nI_clamp (by omega)]); (try simp only [q1]); (first | rw [if_pos c5] | rw [if_neg c5] | skip); (first | rw [if_pos c6] | rw [if_neg c6] | skip); (first | rw [if_pos c7] | rw [if_neg c7] | skip); (first | rw [if_pos c9] | rw [if_neg c9] | skip); (first | rw [if_pos c10] | rw [if_neg c10] | skip); try with_reducible rfl)
          · refine lv_ldc (v := (-2000000002)) hx hb hown (hts _ qc_X5_86) dX5_repays_36 ?_
            exact g_ir hQ hx hb hr0 hlk hC hI dX5_repays_38 rfl (by unfold m_repays; (try simp only [q1]); (first | rw [if_pos c5] | rw [if_neg c5] | skip); (first | rw [if_pos c6] | rw [if_neg c6] | skip); (first | rw [if_pos c7] | rw [if_neg c7] | skip); (first | rw [if_pos c9] | rw [if_neg c9] | skip); (try simp only [show (V 1 (34 + 7 * i2 + 1)).toNatClampNeg = o from by rw [ho]; exact nI_clamp (by omega)]); (try simp only [q1]); (first | rw [if_pos c5] | rw [if_neg c5] | skip); (first | rw [if_pos c6] | rw [if_neg c6] | skip); (first | rw [if_pos c7] | rw [if_neg c7] | skip); (first | rw [if_pos c9] | rw [if_neg c9] | skip); try with_reducible rfl) rfl (by unfold m_repays; (try simp only [q1]); (first | rw [if_pos c5] | rw [if_neg c5] | skip); (first | rw [if_pos c6] | rw [if_neg c6] | skip); (first | rw [if_pos c7] | rw [if_neg c7] | skip); (first | rw [if_pos c9] | rw [if_neg c9] | skip); (try simp only [show (V 1 (34 + 7 * i2 + 1)).toNatClampNeg = o from by rw [ho]; exact nI_clamp (by omega)]); (try simp only [q1]); (first | rw [if_pos c5] | rw [if_neg c5] | skip); (first | rw [if_pos c6] | rw [if_neg c6] | skip); (first | rw [if_pos c7] | rw [if_neg c7] | skip); (first | rw [if_pos c9] | rw [if_neg c9] | skip); try with_reducible rfl)
        · refine lv_if_eq (tgt := 36) hx hb dX5_repays_23 (by decide) (fun _ => ?_) (fun c14 => absurd c14 (by decide))
          refine lv_ldc (v := (-2000000002)) hx hb hown (hts _ qc_X5_86) dX5_repays_36 ?_
          exact g_ir hQ hx hb hr0 hlk hC hI dX5_repays_38 rfl (by unfold m_repays; (try simp only [q1]); (first | rw [if_pos c5] | rw [if_neg c5] | skip); (first | rw [if_pos c6] | rw [if_neg c6] | skip); (first | rw [if_pos c7] | rw [if_neg c7] | skip); (try simp only [show (V 1 (34 + 7 * i2 + 1)).toNatClampNeg = o from by rw [ho]; exact nI_clamp (by omega)]); (try simp only [q1]); (first | rw [if_pos c5] | rw [if_neg c5] | skip); (first | rw [if_pos c6] | rw [if_neg c6] | skip); (first | rw [if_pos c7] | rw [if_neg c7] | skip); try with_reducible rfl) rfl (by unfold m_repays; (try simp only [q1]); (first | rw [if_pos c5] | rw [if_neg c5] | skip); (first | rw [if_pos c6] | rw [if_neg c6] | skip); (first | rw [if_pos c7] | rw [if_neg c7] | skip); (try simp only [show (V 1 (34 + 7 * i2 + 1)).toNatClampNeg = o from by rw [ho]; exact nI_clamp (by omega)]); (try simp only [q1]); (first | rw [if_pos c5] | rw [if_neg c5] | skip); (first | rw [if_pos c6] | rw [if_neg c6] | skip); (first | rw [if_pos c7] | rw [if_neg c7] | skip); try with_reducible rfl)
      · refine lv_ldc (v := (-2000000001)) hx hb hown (hts _ qc_X5_25) dX5_repays_15 ?_
        exact g_ir hQ hx hb hr0 hlk hC hI dX5_repays_17 rfl (by unfold m_repays; (try simp only [q1]); (first | rw [if_pos c5] | rw [if_neg c5] | skip); (first | rw [if_pos c6] | rw [if_neg c6] | skip); (try simp only [show (V 1 (34 + 7 * i2 + 1)).toNatClampNeg = o from by rw [ho]; exact nI_clamp (by omega)]); (try simp only [q1]); (first | rw [if_pos c5] | rw [if_neg c5] | skip); (first | rw [if_pos c6] | rw [if_neg c6] | skip); try with_reducible rfl) rfl (by unfold m_repays; (try simp only [q1]); (first | rw [if_pos c5] | rw [if_neg c5] | skip); (first | rw [if_pos c6] | rw [if_neg c6] | skip); (try simp only [show (V 1 (34 + 7 * i2 + 1)).toNatClampNeg = o from by rw [ho]; exact nI_clamp (by omega)]); (try simp only [q1]); (first | rw [if_pos c5] | rw [if_neg c5] | skip); (first | rw [if_pos c6] | rw [if_neg c6] | skip); try with_reducible rfl)
def m_prices (V : g_V) (g : Int32) (x : Int32) : Int32 × g_V :=
  if m_in g 0 2 then (if m_in x 1 99 then (V 1 (10 + (g.toNatClampNeg)), (g_w2 V 1 (10 + (g.toNatClampNeg)) x)) else ((-2000000001), V)) else ((-2000000001), V)
abbrev rm_X5_prices : Room := { frames := 1, cells := 0, slots := 0, locals := 22 }
set_option maxHeartbeats 800000 in
set_option maxRecDepth 100000 in
theorem c_X5_prices (l : Launch) (D : va_G) (tb : g_T) (ad : g_Ad) (hj : g_inj ad) (P : g_P) (M : g_M) (V : g_V) (g : Int32) (x : Int32) : g_Ci l yX5_prices cX5_prices 4 (some .int) rm_X5_prices D tb ad [.ref (ad 7 0), .int g, .int x] P (va_up M 7 V) ((m_prices V g x).1) P (va_up M 7 ((m_prices V g x).2)) := by
  refine g_go (by decide) (Nat.le_of_ble_eq_true rfl) hj ?_
  intro p e s m below meth c ls H locs R args Q hR0 hQ hx hb hml hr0 hlk hown hts hC hI hl
  subst hR0
  have hown : s.vm.findClass RX5 = some m.cls := hown
  have hl : lv_has ls 4 [(0, .ref (ad 7 0)), (1, .int g), (2, .int x)] := hl
  refine lv_iload_n hx hb dX5_prices_0 rfl (lv_at hl 1 rfl) ?_
  refine lv_iconst (v := 0) hx hb dX5_prices_1 (by decide) ?_
  refine lv_iconst (v := 2) hx hb dX5_prices_2 (by decide) ?_
  refine g_callSi (rest := []) (c_X5_in l D tb ad hj P (va_up M 7 V) g 0 2) rfl rfl gm_X5_in hx hb hml hown hts hC hI qm_X5_67 rfl hl.1 rfl ⟨rfl, rfl, by decide, by decide⟩ (Nat.le_of_ble_eq_true rfl) ⟨Nat.zero_le _, Nat.zero_le _⟩ dX5_prices_3 (fun H locs hI => ?_)
  refine g_tf (fun c1 => ?_) (fun c1 => ?_)
  · obtain ⟨g1, hg1, rfl⟩ := m_nI (N := 2) c1 rfl
    have hclg1 : (nI g1).toNatClampNeg = g1 := nI_clamp (by omega)
    refine lv_if_eq (tgt := 19) hx hb dX5_prices_6 (by decide) (fun c2 => absurd c2 (by decide)) (fun _ => ?_)
    refine lv_iload_n hx hb dX5_prices_9 rfl (lv_at hl 2 rfl) ?_
    refine lv_iconst (v := 1) hx hb dX5_prices_10 (by decide) ?_
    refine lv_bipush (v := 99) hx hb dX5_prices_11 (by decide) ?_
    refine g_callSi (rest := []) (c_X5_in l D tb ad hj P (va_up M 7 V) x 1 99) rfl rfl gm_X5_in hx hb hml hown hts hC hI qm_X5_67 rfl hl.1 rfl ⟨rfl, rfl, by decide, by decide⟩ (Nat.le_of_ble_eq_true rfl) ⟨Nat.zero_le _, Nat.zero_le _⟩ dX5_prices_13 (fun H locs hI => ?_)
    refine g_tf (fun c3 => ?_) (fun c3 => ?_)
    · refine lv_if_ne (tgt := 22) hx hb dX5_prices_16 (by decide) (fun _ => ?_) (fun c4 => absurd c4 (by decide))
      refine lv_aload_n hx hb dX5_prices_22 rfl (lv_at hl 0 rfl) ?_
      refine g_get 0 hx hb hts hown hC hI i_X5 (by decide) (e_x g_us) rfl (by decide) qf_X5_7 rfl rfl dX5_prices_23 ?_
      refine lv_bipush (v := 10) hx hb dX5_prices_26 (by decide) ?_
      refine lv_iload_n hx hb dX5_prices_28 rfl (lv_at hl 1 rfl) ?_
      refine lv_iadd hx hb dX5_prices_29 ?_
      refine g_te (nI_add 10 g1) ?_
      refine g_iald (10 + g1) hx hb hC hI (by decide) (e_xs g_us) (vp_in_nI (by omega) (by decide)) (nI_clamp (by omega)) dX5_prices_30 ?_
      refine lv_istore_n (lv' := [(3, .int (V 1 (10 + g1))), (0, .ref (ad 7 0)), (1, .int (nI g1)), (2, .int x)]) hx hb dX5_prices_31 rfl hl (by decide) rfl (fun ls hl => ?_)
      refine lv_aload_n hx hb dX5_prices_32 rfl (lv_at hl 1 rfl) ?_
      refine g_get 0 hx hb hts hown hC hI i_X5 (by decide) (e_x g_us) rfl (by decide) qf_X5_7 rfl rfl dX5_prices_33 ?_
      refine lv_bipush (v := 10) hx hb dX5_prices_36 (by decide) ?_
      refine lv_iload_n hx hb dX5_prices_38 rfl (lv_at hl 2 rfl) ?_
      refine lv_iadd hx hb dX5_prices_39 ?_
      refine g_te (nI_add 10 g1) ?_
      refine lv_iload_n hx hb dX5_prices_40 rfl (lv_at hl 3 rfl) ?_
      refine g_iast (10 + g1) hx hb hC hI (by decide) (e_xs g_us) (vp_in_nI (by omega) (by decide)) (nI_clamp (by omega)) p_xs g_hs dX5_prices_41 (fun H locs hI => ?_)
      refine lv_iload_n hx hb dX5_prices_42 rfl (lv_at hl 0 rfl) ?_
      exact g_ir hQ hx hb hr0 hlk hC hI dX5_prices_43 rfl (by unfold m_prices; (try simp only [hclg1]); (first | rw [if_pos c1] | rw [if_neg c1] | skip); (first | rw [if_pos c3] | rw [if_neg c3] | skip); try with_reducible rfl) rfl (by unfold m_prices; (try simp only [hclg1]); (first | rw [if_pos c1] | rw [if_neg c1] | skip); (first | rw [if_pos c3] | rw [if_neg c3] | skip); try with_reducible rfl)
    · refine lv_if_ne (tgt := 22) hx hb dX5_prices_16 (by decide) (fun c5 => absurd c5 (by decide)) (fun _ => ?_)
      refine lv_ldc (v := (-2000000001)) hx hb hown (hts _ qc_X5_25) dX5_prices_19 ?_
      exact g_ir hQ hx hb hr0 hlk hC hI dX5_prices_21 rfl (by unfold m_prices; (try simp only [hclg1]); (first | rw [if_pos c1] | rw [if_neg c1] | skip); (first | rw [if_pos c3] | rw [if_neg c3] | skip); try with_reducible rfl) rfl (by unfold m_prices; (try simp only [hclg1]); (first | rw [if_pos c1] | rw [if_neg c1] | skip); (first | rw [if_pos c3] | rw [if_neg c3] | skip); try with_reducible rfl)
  · refine lv_if_eq (tgt := 19) hx hb dX5_prices_6 (by decide) (fun _ => ?_) (fun c6 => absurd c6 (by decide))
    refine lv_ldc (v := (-2000000001)) hx hb hown (hts _ qc_X5_25) dX5_prices_19 ?_
    exact g_ir hQ hx hb hr0 hlk hC hI dX5_prices_21 rfl (by unfold m_prices; (try simp only [hclg1]); (first | rw [if_pos c1] | rw [if_neg c1] | skip); try with_reducible rfl) rfl (by unfold m_prices; (try simp only [hclg1]); (first | rw [if_pos c1] | rw [if_neg c1] | skip); try with_reducible rfl)
abbrev rm_X5_wouldCall : Room := { frames := 4, cells := 0, slots := 0, locals := 86 }
set_option maxHeartbeats 800000 in
set_option maxRecDepth 100000 in
theorem c_X5_wouldCall (l : Launch) (D : va_G) (tb : g_T) (ad : g_Ad) (hj : g_inj ad) (P : g_P) (M : g_M) (V : g_V) (a : Nat) (le : Int32) (ha : a < 16) : g_Ci l yX5_wouldCall cX5_wouldCall 3 (some .boolean) rm_X5_wouldCall D tb ad [.ref (ad 7 0), .int (nI a), .int le] P (va_up M 7 V) (if m_would V a le then 1 else 0) P (va_up M 7 V) := by
  refine g_go (by decide) (Nat.le_of_ble_eq_true rfl) hj ?_
  intro p e s m below meth c ls H locs R args Q hR0 hQ hx hb hml hr0 hlk hown hts hC hI hl
  subst hR0
  have hown : s.vm.findClass RX5 = some m.cls := hown
  have hl : lv_has ls 3 [(0, .ref (ad 7 0)), (1, .int (nI a)), (2, .int le)] := hl
  refine lv_aload_n hx hb dX5_wouldCall_0 rfl (lv_at hl 0 rfl) ?_
  refine lv_iload_n hx hb dX5_wouldCall_1 rfl (lv_at hl 1 rfl) ?_
  refine lv_iconst (v := 4) hx hb dX5_wouldCall_2 (by decide) ?_
  refine g_callVi (rest := []) (c_X5_of l D tb ad hj P M V a 4 (by first | assumption | omega) (by first | assumption | omega)) rfl rfl gm_X5_of hx hb hml hown hts hC hI (by decide) (e_x g_us) rfl rfl qm_X5_33 rfl hl.1 rfl ⟨rfl, rfl, by decide, by decide⟩ (Nat.le_of_ble_eq_true rfl) ⟨Nat.zero_le _, Nat.zero_le _⟩ dX5_wouldCall_3 (fun H locs hI => ?_)
  refine lv_iload_n hx hb dX5_wouldCall_6 rfl (lv_at hl 2 rfl) ?_
  refine lv_icmp_ne (tgt := 32) hx hb dX5_wouldCall_7 (by decide) (fun c1 => ?_) (fun c1 => ?_)
  · refine lv_iconst (v := 0) hx hb dX5_wouldCall_32 (by decide) ?_
    exact g_ir hQ hx hb hr0 hlk hC hI dX5_wouldCall_33 (by rfl) (by simp [c1]) rfl rfl
  · refine lv_aload_n hx hb dX5_wouldCall_10 rfl (lv_at hl 0 rfl) ?_
    refine lv_iload_n hx hb dX5_wouldCall_11 rfl (lv_at hl 1 rfl) ?_
    refine lv_bipush (v := 6) hx hb dX5_wouldCall_12 (by decide) ?_
    refine g_callVi (rest := []) (c_X5_of l D tb ad hj P M V a 6 (by first | assumption | omega) (by first | assumption | omega)) rfl rfl gm_X5_of hx hb hml hown hts hC hI (by decide) (e_x g_us) rfl rfl qm_X5_33 rfl hl.1 rfl ⟨rfl, rfl, by decide, by decide⟩ (Nat.le_of_ble_eq_true rfl) ⟨Nat.zero_le _, Nat.zero_le _⟩ dX5_wouldCall_14 (fun H locs hI => ?_)
    refine lv_if_ne (tgt := 32) hx hb dX5_wouldCall_17 (by decide) (fun c2 => ?_) (fun c2 => ?_)
    · refine lv_iconst (v := 0) hx hb dX5_wouldCall_32 (by decide) ?_
      exact g_ir hQ hx hb hr0 hlk hC hI dX5_wouldCall_33 (by rfl) (by simp [c1, c2]) rfl rfl
    · refine lv_aload_n hx hb dX5_wouldCall_20 rfl (lv_at hl 0 rfl) ?_
      refine lv_iload_n hx hb dX5_wouldCall_21 rfl (lv_at hl 1 rfl) ?_
      refine g_callVi (rest := []) (c_X5_isAbove l D tb ad hj P M V a (by first | assumption | omega)) rfl rfl gm_X5_isAbove hx hb hml hown hts hC hI (by decide) (e_x g_us) rfl rfl qm_X5_94 rfl hl.1 rfl ⟨rfl, rfl, by decide, by decide⟩ (Nat.le_of_ble_eq_true rfl) ⟨Nat.zero_le _, Nat.zero_le _⟩ dX5_wouldCall_22 (fun H locs hI => ?_)
      refine g_tf (fun c3 => ?_) (fun c3 => ?_)
      · refine lv_if_eq (tgt := 32) hx hb dX5_wouldCall_25 (by decide) (fun c4 => absurd c4 (by decide)) (fun _ => ?_)
        refine lv_iconst (v := 1) hx hb dX5_wouldCall_28 (by decide) ?_
        refine lv_goto (tgt := 33) hx hb dX5_wouldCall_29 (by decide) ?_
        exact g_ir hQ hx hb hr0 hlk hC hI dX5_wouldCall_33 (by rfl) (by simp [c1, c2, c3]) rfl rfl
      · refine lv_if_eq (tgt := 32) hx hb dX5_wouldCall_25 (by decide) (fun _ => ?_) (fun c5 => absurd c5 (by decide))
        refine lv_iconst (v := 0) hx hb dX5_wouldCall_32 (by decide) ?_
        exact g_ir hQ hx hb hr0 hlk hC hI dX5_wouldCall_33 (by rfl) (by simp [c1, c2, c3]) rfl rfl
def m_calls (V : g_V) (le : Int32) (n : Nat) : Int32 × g_V :=
  if m_in le 0 2 then (((k_iter (m_callStep le) (V, 0) n).2), ((k_iter (m_callStep le) (V, 0) n).1)) else ((-2000000001), V)
abbrev rm_X5_calls : Room := { frames := 5, cells := 0, slots := 0, locals := 108 }
set_option maxHeartbeats 800000 in
set_option maxRecDepth 100000 in
theorem c_X5_calls (l : Launch) (D : va_G) (tb : g_T) (ad : g_Ad) (hj : g_inj ad) (P : g_P) (M : g_M) (V : g_V) (le : Int32) (n : Nat) (hn : m_N V n) : g_Ci l yX5_calls cX5_calls 4 (some .int) rm_X5_calls D tb ad [.ref (ad 7 0), .int le] P (va_up M 7 V) ((m_calls V le n).1) P (va_up M 7 ((m_calls V le n).2)) := by
  refine g_go (by decide) (Nat.le_of_ble_eq_true rfl) hj ?_
  intro p e s m below meth c ls H locs R args Q hR0 hQ hx hb hml hr0 hlk hown hts hC hI hl
  subst hR0
  have hown : s.vm.findClass RX5 = some m.cls := hown
  have hl : lv_has ls 4 [(0, .ref (ad 7 0)), (1, .int le)] := hl
  refine lv_iload_n hx hb dX5_calls_0 rfl (lv_at hl 1 rfl) ?_
  refine lv_iconst (v := 0) hx hb dX5_calls_1 (by decide) ?_
  refine lv_iconst (v := 2) hx hb dX5_calls_2 (by decide) ?_
  refine g_callSi (rest := []) (c_X5_in l D tb ad hj P (va_up M 7 V) le 0 2) rfl rfl gm_X5_in hx hb hml hown hts hC hI qm_X5_67 rfl hl.1 rfl ⟨rfl, rfl, by decide, by decide⟩ (Nat.le_of_ble_eq_true rfl) ⟨Nat.zero_le _, Nat.zero_le _⟩ dX5_calls_3 (fun H locs hI => ?_)
  refine g_tf (fun c1 => ?_) (fun c1 => ?_)
  · refine lv_if_ne (tgt := 12) hx hb dX5_calls_6 (by decide) (fun _ => ?_) (fun c2 => absurd c2 (by decide))
    refine lv_iconst (v := 0) hx hb dX5_calls_12 (by decide) ?_
    refine lv_istore_n (lv' := [(2, .int 0), (0, .ref (ad 7 0)), (1, .int le)]) hx hb dX5_calls_13 rfl hl (by decide) rfl (fun ls hl => ?_)
    refine lv_iconst (v := 0) hx hb dX5_calls_14 (by decide) ?_
    refine lv_istore_n (lv' := [(3, .int 0), (2, .int 0), (0, .ref (ad 7 0)), (1, .int le)]) hx hb dX5_calls_15 rfl hl (by decide) rfl (fun ls hl => ?_)
    have lp16 : ∀ (d k : Nat) (Vx : g_V) (y : Int32), k ≤ n → n < k + d → Vx = (k_iter (m_callStep le) (V, 0) k).1 → y = (k_iter (m_callStep le) (V, 0) k).2 → (Vx 1 0 = nI n) → ∀ (H : Heap) (locs : List Loc) (ls : Array Slot), g_I D tb ad (g_A ad) s H locs P (va_up M 7 Vx) → lv_has ls 4 [(3, .int (nI k)), (2, .int y), (0, .ref (ad 7 0)), (1, .int le)] → W p l e rm_X5_calls s m args below meth c H locs 0 0 Q (F0 m 16 ls []) := by
      intro d
      induction d with
      | zero => intro k Vx y hkp hfu; intros; omega
      | succ d ih16 =>
        intro k Vx y hkp hfu e_Vx e_y h0 H locs ls hI hl
        refine lv_iload_n hx hb dX5_calls_16 rfl (lv_at hl 0 rfl) ?_
        refine lv_aload_n hx hb dX5_calls_17 rfl (lv_at hl 2 rfl) ?_
        refine g_get 0 hx hb hts hown hC hI i_X5 (by decide) (e_x g_us) rfl (by decide) qf_X5_7 rfl rfl dX5_calls_18 ?_
        refine lv_iconst (v := 0) hx hb dX5_calls_21 (by decide) ?_
        refine g_iald 0 hx hb hC hI (by decide) (e_xs g_us) (by unfold vp_in; decide) rfl dX5_calls_22 ?_
        refine g_te (y := (nI n)) h0 ?_
        refine lv_icmp_ge (tgt := 58) hx hb dX5_calls_23 (by decide) (fun c3 => ?_) (fun c3 => ?_)
        · have c3n : n ≤ k := (nI_leI (a := n) (b := k) (by omega) (by omega)).mp c3
          refine lv_iload_n hx hb dX5_calls_58 rfl (lv_at hl 1 rfl) ?_
          exact g_ir hQ hx hb hr0 hlk hC hI dX5_calls_59 rfl (by rw [show k = n from (by omega)] at e_Vx e_y; unfold m_calls; (try rw [← e_Vx]); (try rw [← e_y]); (first | rw [if_pos c1] | rw [if_neg c1] | skip); (first | rw [if_pos c3] | rw [if_neg c3] | skip); try with_reducible rfl) rfl (by rw [show k = n from (by omega)] at e_Vx e_y; unfold m_calls; (try rw [← e_Vx]); (try rw [← e_y]); (first | rw [if_pos c1] | rw [if_neg c1] | skip); (first | rw [if_pos c3] | rw [if_neg c3] | skip); try with_reducible rfl)
        · have c3n : ¬ n ≤ k := fun z => c3 ((nI_leI (a := n) (b := k) (by omega) (by omega)).mpr z)
          refine lv_aload_n hx hb dX5_calls_26 rfl (lv_at hl 2 rfl) ?_
          refine lv_iload_n hx hb dX5_calls_27 rfl (lv_at hl 0 rfl) ?_
          refine lv_iload_n hx hb dX5_calls_28 rfl (lv_at hl 3 rfl) ?_
          refine g_callVi (rest := []) (c_X5_wouldCall l D tb ad hj P M Vx k le (by first | assumption | omega)) rfl rfl gm_X5_wouldCall hx hb hml hown hts hC hI (by decide) (e_x g_us) rfl rfl qm_X5_97 rfl hl.1 rfl ⟨rfl, rfl, by decide, by decide⟩ (Nat.le_of_ble_eq_true rfl) ⟨Nat.zero_le _, Nat.zero_le _⟩ dX5_calls_29 (fun H locs hI => ?_)
          refine g_tf (fun c4 => ?_) (fun c4 => ?_)
          · refine lv_if_eq (tgt := 52) hx hb dX5_calls_32 (by decide) (fun c5 => absurd c5 (by decide)) (fun _ => ?_)
            refine lv_aload_n hx hb dX5_calls_35 rfl (lv_at hl 2 rfl) ?_
            refine lv_iload_n hx hb dX5_calls_36 rfl (lv_at hl 0 rfl) ?_
            refine lv_bipush (v := 6) hx hb dX5_calls_37 (by decide) ?_
            refine lv_aload_n hx hb dX5_calls_39 rfl (lv_at hl 2 rfl) ?_
            refine g_get 0 hx hb hts hown hC hI i_X5 (by decide) (e_x g_us) rfl (by decide) qf_X5_7 rfl rfl dX5_calls_40 ?_
            refine lv_bipush (v := 8) hx hb dX5_calls_43 (by decide) ?_
            refine g_iald 8 hx hb hC hI (by decide) (e_xs g_us) (by unfold vp_in; decide) rfl dX5_calls_45 ?_
            refine g_callVv (rest := []) (c_X5_lays l D tb ad hj P M Vx k 6 (Vx 1 8) (by first | assumption | omega) (by first | assumption | omega)) rfl rfl gm_X5_lays hx hb hml hown hts hC hI (by decide) (e_x g_us) rfl rfl qm_X5_37 rfl hl.1 rfl ⟨rfl, rfl, by decide, by decide⟩ (Nat.le_of_ble_eq_true rfl) ⟨Nat.zero_le _, Nat.zero_le _⟩ dX5_calls_46 (fun H locs hI => ?_)
            refine lv_iinc (v := (y + 1)) (lv' := [(2, .int (y + 1)), (3, .int (nI k)), (0, .ref (ad 7 0)), (1, .int le)]) hx hb dX5_calls_49 hl (k := 1) rfl rfl (by decide) rfl (fun ls hl => ?_)
            refine lv_iinc (v := nI (k + 1)) (lv' := [(3, .int (nI (k + 1))), (2, .int (y + 1)), (0, .ref (ad 7 0)), (1, .int le)]) hx hb dX5_calls_52 hl (k := 1) rfl (nI_1 _) (by decide) rfl (fun ls hl => ?_)
            refine lv_goto (tgt := 16) hx hb dX5_calls_55 (by decide) ?_
            exact ih16 (k + 1) _ _ (by omega) (by omega) (by rw [k_iter, m_callStep, ← e_Vx, ← e_y]; (first | rw [if_pos c1] | rw [if_neg c1] | skip); (first | rw [if_pos c3] | rw [if_neg c3] | skip); (first | rw [if_pos c4] | rw [if_neg c4] | skip); try (first | with_reducible rfl | exact e_Vx | exact e_y)) (by rw [k_iter, m_callStep, ← e_Vx, ← e_y]; (first | rw [if_pos c1] | rw [if_neg c1] | skip); (first | rw [if_pos c3] | rw [if_neg c3] | skip); (first | rw [if_pos c4] | rw [if_neg c4] | skip); try (first | with_reducible rfl | exact e_Vx | exact e_y)) (by first | exact h0 | (rw [w2_ne (by omega)]; exact h0)) _ _ _ hI (lv_sub hl [0, 1, 2, 3] rfl)
          · refine lv_if_eq (tgt := 52) hx hb dX5_calls_32 (by decide) (fun _ => ?_) (fun c6 => absurd c6 (by decide))
            refine lv_iinc (v := nI (k + 1)) (lv' := [(3, .int (nI (k + 1))), (2, .int y), (0, .ref (ad 7 0)), (1, .int le)]) hx hb dX5_calls_52 hl (k := 0) rfl (nI_1 _) (by decide) rfl (fun ls hl => ?_)
            refine lv_goto (tgt := 16) hx hb dX5_calls_55 (by decide) ?_
            exact ih16 (k + 1) _ _ (by omega) (by omega) (by rw [k_iter, m_callStep, ← e_Vx, ← e_y]; (first | rw [if_pos c1] | rw [if_neg c1] | skip); (first | rw [if_pos c3] | rw [if_neg c3] | skip); (first | rw [if_pos c4] | rw [if_neg c4] | skip); try (first | with_reducible rfl | exact e_Vx | exact e_y)) (by rw [k_iter, m_callStep, ← e_Vx, ← e_y]; (first | rw [if_pos c1] | rw [if_neg c1] | skip); (first | rw [if_pos c3] | rw [if_neg c3] | skip); (first | rw [if_pos c4] | rw [if_neg c4] | skip); try (first | with_reducible rfl | exact e_Vx | exact e_y)) (by first | exact h0 | (rw [w2_ne (by omega)]; exact h0)) _ _ _ hI (lv_sub hl [0, 1, 2, 3] rfl)
    exact lp16 (n + 1) 0 _ _ (by omega) (by omega) rfl rfl hn.1 _ _ _ hI (lv_sub hl [0, 1, 2, 3] rfl)
  · refine lv_if_ne (tgt := 12) hx hb dX5_calls_6 (by decide) (fun c7 => absurd c7 (by decide)) (fun _ => ?_)
    refine lv_ldc (v := (-2000000001)) hx hb hown (hts _ qc_X5_25) dX5_calls_9 ?_
    exact g_ir hQ hx hb hr0 hlk hC hI dX5_calls_11 rfl (by unfold m_calls; skip; (first | rw [if_pos c1] | rw [if_neg c1] | skip); try with_reducible rfl) rfl (by unfold m_calls; skip; (first | rw [if_pos c1] | rw [if_neg c1] | skip); try with_reducible rfl)
abbrev rm_X5_seizes : Room := { frames := 2, cells := 0, slots := 0, locals := 44 }
set_option maxHeartbeats 800000 in
set_option maxRecDepth 100000 in
theorem c_X5_seizes (l : Launch) (D : va_G) (tb : g_T) (ad : g_Ad) (hj : g_inj ad) (P : g_P) (M : g_M) (V : g_V) (a : Nat) (ha : a < 16) (t : Nat) (ht : t < 3) (hlt : V 1 (34 + 7 * a + 4) = nI t) : g_Cv l yX5_seizes cX5_seizes 3 none rm_X5_seizes D tb ad [.ref (ad 7 0), .int (nI a)] P (va_up M 7 V) P (va_up M 7 (m_seizes V a t)) := by
  refine g_go (by decide) (Nat.le_of_ble_eq_true rfl) hj ?_
  intro p e s m below meth c ls H locs R args Q hR0 hQ hx hb hml hr0 hlk hown hts hC hI hl
  subst hR0
  have hown : s.vm.findClass RX5 = some m.cls := hown
  have hl : lv_has ls 3 [(0, .ref (ad 7 0)), (1, .int (nI a))] := hl
  refine lv_aload_n hx hb dX5_seizes_0 rfl (lv_at hl 0 rfl) ?_
  refine lv_iload_n hx hb dX5_seizes_1 rfl (lv_at hl 1 rfl) ?_
  refine lv_iconst (v := 4) hx hb dX5_seizes_2 (by decide) ?_
  refine g_callVi (rest := []) (c_X5_of l D tb ad hj P M V a 4 (by first | assumption | omega) (by first | assumption | omega)) rfl rfl gm_X5_of hx hb hml hown hts hC hI (by decide) (e_x g_us) rfl rfl qm_X5_33 rfl hl.1 rfl ⟨rfl, rfl, by decide, by decide⟩ (Nat.le_of_ble_eq_true rfl) ⟨Nat.zero_le _, Nat.zero_le _⟩ dX5_seizes_3 (fun H locs hI => ?_)
  refine g_te (y := (nI t)) hlt ?_
  refine lv_istore_n (lv' := [(2, .int (nI t)), (0, .ref (ad 7 0)), (1, .int (nI a))]) hx hb dX5_seizes_6 rfl hl (by decide) rfl (fun ls hl => ?_)
  refine lv_aload_n hx hb dX5_seizes_7 rfl (lv_at hl 1 rfl) ?_
  refine g_get 0 hx hb hts hown hC hI i_X5 (by decide) (e_x g_us) rfl (by decide) qf_X5_7 rfl rfl dX5_seizes_8 ?_
  refine lv_bipush (v := 21) hx hb dX5_seizes_11 (by decide) ?_
  refine lv_iload_n hx hb dX5_seizes_13 rfl (lv_at hl 0 rfl) ?_
  refine lv_iadd hx hb dX5_seizes_14 ?_
  refine g_te (nI_add 21 t) ?_
  refine lv_dup2_11 hx hb dX5_seizes_15 rfl rfl ?_
  refine g_iald (21 + t) hx hb hC hI (by decide) (e_xs g_us) (vp_in_nI (by omega) (by decide)) (nI_clamp (by omega)) dX5_seizes_16 ?_
  refine lv_aload_n hx hb dX5_seizes_17 rfl (lv_at hl 1 rfl) ?_
  refine lv_iload_n hx hb dX5_seizes_18 rfl (lv_at hl 2 rfl) ?_
  refine lv_iconst (v := 5) hx hb dX5_seizes_19 (by decide) ?_
  refine g_callVi (rest := [.int (V 1 (21 + t)), .int (nI (21 + t)), .ref (ad 7 1)]) (c_X5_of l D tb ad hj P M V a 5 (by first | assumption | omega) (by first | assumption | omega)) rfl rfl gm_X5_of hx hb hml hown hts hC hI (by decide) (e_x g_us) rfl rfl qm_X5_33 rfl hl.1 rfl ⟨rfl, rfl, by decide, by decide⟩ (Nat.le_of_ble_eq_true rfl) ⟨Nat.zero_le _, Nat.zero_le _⟩ dX5_seizes_20 (fun H locs hI => ?_)
  refine lv_iadd hx hb dX5_seizes_23 ?_
  refine g_iast (21 + t) hx hb hC hI (by decide) (e_xs g_us) (vp_in_nI (by omega) (by decide)) (nI_clamp (by omega)) p_xs g_hs dX5_seizes_24 (fun H locs hI => ?_)
  refine lv_aload_n hx hb dX5_seizes_25 rfl (lv_at hl 1 rfl) ?_
  refine g_get 0 hx hb hts hown hC hI i_X5 (by decide) (e_x g_us) rfl (by decide) qf_X5_7 rfl rfl dX5_seizes_26 ?_
  refine lv_iconst (v := 3) hx hb dX5_seizes_29 (by decide) ?_
  refine lv_dup2_11 hx hb dX5_seizes_30 rfl rfl ?_
  refine g_iald 3 hx hb hC hI (by decide) (e_xs g_us) (by unfold vp_in; decide) rfl dX5_seizes_31 ?_
  refine lv_iconst (v := 1) hx hb dX5_seizes_32 (by decide) ?_
  refine lv_iadd hx hb dX5_seizes_33 ?_
  refine g_iast 3 hx hb hC hI (by decide) (e_xs g_us) (by unfold vp_in; decide) rfl p_xs g_hs dX5_seizes_34 (fun H locs hI => ?_)
  refine lv_aload_n hx hb dX5_seizes_35 rfl (lv_at hl 1 rfl) ?_
  refine lv_iload_n hx hb dX5_seizes_36 rfl (lv_at hl 2 rfl) ?_
  refine lv_iconst (v := 1) hx hb dX5_seizes_37 (by decide) ?_
  refine lv_iconst (v := 5) hx hb dX5_seizes_38 (by decide) ?_
  refine lv_iload_n hx hb dX5_seizes_39 rfl (lv_at hl 0 rfl) ?_
  refine lv_iadd hx hb dX5_seizes_40 ?_
  refine g_te (nI_add 5 t) ?_
  refine g_callVv (rest := []) (c_X5_lays l D tb ad hj P M (g_w2 (g_w2 V 1 (21 + t) ((V 1 (21 + t)) + (V 1 (34 + 7 * a + 5)))) 1 3 (((g_w2 V 1 (21 + t) ((V 1 (21 + t)) + (V 1 (34 + 7 * a + 5)))) 1 3) + 1)) a 1 (nI (5 + t)) (by first | assumption | omega) (by first | assumption | omega)) rfl rfl gm_X5_lays hx hb hml hown hts hC hI (by decide) (e_x g_us) rfl rfl qm_X5_37 rfl hl.1 rfl ⟨rfl, rfl, by decide, by decide⟩ (Nat.le_of_ble_eq_true rfl) ⟨Nat.zero_le _, Nat.zero_le _⟩ dX5_seizes_41 (fun H locs hI => ?_)
  refine lv_aload_n hx hb dX5_seizes_44 rfl (lv_at hl 1 rfl) ?_
  refine lv_iload_n hx hb dX5_seizes_45 rfl (lv_at hl 2 rfl) ?_
  refine g_callVv (rest := []) (c_X5_frees l D tb ad hj P M (g_w2 (g_w2 (g_w2 V 1 (21 + t) ((V 1 (21 + t)) + (V 1 (34 + 7 * a + 5)))) 1 3 (((g_w2 V 1 (21 + t) ((V 1 (21 + t)) + (V 1 (34 + 7 * a + 5)))) 1 3) + 1)) 1 (34 + 7 * a + 1) (nI (5 + t))) a (by first | assumption | omega)) rfl rfl gm_X5_frees hx hb hml hown hts hC hI (by decide) (e_x g_us) rfl rfl qm_X5_41 rfl hl.1 rfl ⟨rfl, rfl, by decide, by decide⟩ (Nat.le_of_ble_eq_true rfl) ⟨Nat.zero_le _, Nat.zero_le _⟩ dX5_seizes_46 (fun H locs hI => ?_)
  exact g_vr hQ hx hb hr0 hlk hC hI dX5_seizes_49 rfl (by rfl)
abbrev rm_X5_day : Room := { frames := 4, cells := 0, slots := 0, locals := 86 }
set_option maxHeartbeats 800000 in
set_option maxRecDepth 100000 in
theorem c_X5_day (l : Launch) (D : va_G) (tb : g_T) (ad : g_Ad) (hj : g_inj ad) (P : g_P) (M : g_M) (V : g_V) (n : Nat) (hn : m_N V n) (hL : m_okL V n) : g_Cv l yX5_day cX5_day 2 none rm_X5_day D tb ad [.ref (ad 7 0)] P (va_up M 7 V) P (va_up M 7 (m_day V n)) := by
  refine g_go (by decide) (Nat.le_of_ble_eq_true rfl) hj ?_
  intro p e s m below meth c ls H locs R args Q hR0 hQ hx hb hml hr0 hlk hown hts hC hI hl
  subst hR0
  have hown : s.vm.findClass RX5 = some m.cls := hown
  have hl : lv_has ls 2 [(0, .ref (ad 7 0))] := hl
  refine lv_iconst (v := 0) hx hb dX5_day_0 (by decide) ?_
  refine lv_istore_n (lv' := [(1, .int 0), (0, .ref (ad 7 0))]) hx hb dX5_day_1 rfl hl (by decide) rfl (fun ls hl => ?_)
  have lp2 : ∀ (d k : Nat) (Vx : g_V), k ≤ n → n < k + d → Vx = m_days V k → ∀ (H : Heap) (locs : List Loc) (ls : Array Slot), g_I D tb ad (g_A ad) s H locs P (va_up M 7 Vx) → lv_has ls 2 [(1, .int (nI k)), (0, .ref (ad 7 0))] → W p l e rm_X5_day s m args below meth c H locs 0 0 Q (F0 m 2 ls []) := by
    intro d
    induction d with
    | zero => intro k Vx hkp hfu; intros; omega
    | succ d ih2 =>
      intro k Vx hkp hfu e_Vx H locs ls hI hl
      obtain ⟨h0, -, hhi⟩ := m_days_ok hn.1 hL k hkp; rw [← e_Vx] at h0 hhi
      refine lv_iload_n hx hb dX5_day_2 rfl (lv_at hl 0 rfl) ?_
      refine lv_aload_n hx hb dX5_day_3 rfl (lv_at hl 1 rfl) ?_
      refine g_get 0 hx hb hts hown hC hI i_X5 (by decide) (e_x g_us) rfl (by decide) qf_X5_7 rfl rfl dX5_day_4 ?_
      refine lv_iconst (v := 0) hx hb dX5_day_7 (by decide) ?_
      refine g_iald 0 hx hb hC hI (by decide) (e_xs g_us) (by unfold vp_in; decide) rfl dX5_day_8 ?_
      refine g_te (y := (nI n)) h0 ?_
      refine lv_icmp_ge (tgt := 78) hx hb dX5_day_9 (by decide) (fun c1 => ?_) (fun c1 => ?_)
      · have c1n : n ≤ k := (nI_leI (a := n) (b := k) (by omega) (by omega)).mp c1
        refine lv_aload_n hx hb dX5_day_78 rfl (lv_at hl 1 rfl) ?_
        refine g_get 0 hx hb hts hown hC hI i_X5 (by decide) (e_x g_us) rfl (by decide) qf_X5_7 rfl rfl dX5_day_79 ?_
        refine lv_iconst (v := 1) hx hb dX5_day_82 (by decide) ?_
        refine lv_dup2_11 hx hb dX5_day_83 rfl rfl ?_
        refine g_iald 1 hx hb hC hI (by decide) (e_xs g_us) (by unfold vp_in; decide) rfl dX5_day_84 ?_
        refine lv_iconst (v := 1) hx hb dX5_day_85 (by decide) ?_
        refine lv_iadd hx hb dX5_day_86 ?_
        refine g_iast 1 hx hb hC hI (by decide) (e_xs g_us) (by unfold vp_in; decide) rfl p_xs g_hs dX5_day_87 (fun H locs hI => ?_)
        exact g_vr hQ hx hb hr0 hlk hC hI dX5_day_88 rfl (by rw [show k = n from (by omega)] at e_Vx; unfold m_day; rw [← e_Vx])
      · have c1n : ¬ n ≤ k := fun z => c1 ((nI_leI (a := n) (b := k) (by omega) (by omega)).mpr z)
        refine lv_aload_n hx hb dX5_day_12 rfl (lv_at hl 1 rfl) ?_
        refine lv_iload_n hx hb dX5_day_13 rfl (lv_at hl 0 rfl) ?_
        refine lv_bipush (v := 6) hx hb dX5_day_14 (by decide) ?_
        refine g_callVi (rest := []) (c_X5_of l D tb ad hj P M Vx k 6 (by first | assumption | omega) (by first | assumption | omega)) rfl rfl gm_X5_of hx hb hml hown hts hC hI (by decide) (e_x g_us) rfl rfl qm_X5_33 rfl hl.1 rfl ⟨rfl, rfl, by decide, by decide⟩ (Nat.le_of_ble_eq_true rfl) ⟨Nat.zero_le _, Nat.zero_le _⟩ dX5_day_16 (fun H locs hI => ?_)
        refine lv_if_le (tgt := 72) hx hb dX5_day_19 (by decide) (fun c2 => ?_) (fun c2 => ?_)
        · refine lv_iinc (v := nI (k + 1)) (lv' := [(1, .int (nI (k + 1))), (0, .ref (ad 7 0))]) hx hb dX5_day_72 hl (k := 0) rfl (nI_1 _) (by decide) rfl (fun ls hl => ?_)
          refine lv_goto (tgt := 2) hx hb dX5_day_75 (by decide) ?_
          exact ih2 (k + 1) _ (by omega) (by omega) (by unfold m_days; rw [k_iter]; unfold m_days at e_Vx; rw [← e_Vx, m_dayStep]; (try unfold m_dec); (first | rw [if_pos c1] | rw [if_neg c1] | skip); (first | rw [if_pos c2] | rw [if_neg c2] | skip); (try rw [hlt2, nI_clamp (by omega)]); try with_reducible rfl)  _ _ _ hI (lv_sub hl [0, 1] rfl)
        · refine lv_aload_n hx hb dX5_day_22 rfl (lv_at hl 1 rfl) ?_
          refine lv_iload_n hx hb dX5_day_23 rfl (lv_at hl 0 rfl) ?_
          refine lv_bipush (v := 6) hx hb dX5_day_24 (by decide) ?_
          refine lv_aload_n hx hb dX5_day_26 rfl (lv_at hl 1 rfl) ?_
          refine lv_iload_n hx hb dX5_day_27 rfl (lv_at hl 0 rfl) ?_
          refine lv_bipush (v := 6) hx hb dX5_day_28 (by decide) ?_
          refine g_callVi (rest := [.int 6, .int (nI k), .ref (ad 7 0)]) (c_X5_of l D tb ad hj P M Vx k 6 (by first | assumption | omega) (by first | assumption | omega)) rfl rfl gm_X5_of hx hb hml hown hts hC hI (by decide) (e_x g_us) rfl rfl qm_X5_33 rfl hl.1 rfl ⟨rfl, rfl, by decide, by decide⟩ (Nat.le_of_ble_eq_true rfl) ⟨Nat.zero_le _, Nat.zero_le _⟩ dX5_day_30 (fun H locs hI => ?_)
          refine lv_iconst (v := 1) hx hb dX5_day_33 (by decide) ?_
          refine lv_isub hx hb dX5_day_34 ?_
          refine g_callVv (rest := []) (c_X5_lays l D tb ad hj P M Vx k 6 ((Vx 1 (34 + 7 * k + 6)) - 1) (by first | assumption | omega) (by first | assumption | omega)) rfl rfl gm_X5_lays hx hb hml hown hts hC hI (by decide) (e_x g_us) rfl rfl qm_X5_37 rfl hl.1 rfl ⟨rfl, rfl, by decide, by decide⟩ (Nat.le_of_ble_eq_true rfl) ⟨Nat.zero_le _, Nat.zero_le _⟩ dX5_day_35 (fun H locs hI => ?_)
          refine lv_aload_n hx hb dX5_day_38 rfl (lv_at hl 1 rfl) ?_
          refine lv_iload_n hx hb dX5_day_39 rfl (lv_at hl 0 rfl) ?_
          refine g_callVi (rest := []) (c_X5_isAbove l D tb ad hj P M (g_w2 Vx 1 (34 + 7 * k + 6) ((Vx 1 (34 + 7 * k + 6)) - 1)) k (by first | assumption | omega)) rfl rfl gm_X5_isAbove hx hb hml hown hts hC hI (by decide) (e_x g_us) rfl rfl qm_X5_94 rfl hl.1 rfl ⟨rfl, rfl, by decide, by decide⟩ (Nat.le_of_ble_eq_true rfl) ⟨Nat.zero_le _, Nat.zero_le _⟩ dX5_day_40 (fun H locs hI => ?_)
          refine g_tf (fun c3 => ?_) (fun c3 => ?_)
          · refine lv_if_ne (tgt := 57) hx hb dX5_day_43 (by decide) (fun _ => ?_) (fun c4 => absurd c4 (by decide))
            refine lv_aload_n hx hb dX5_day_57 rfl (lv_at hl 1 rfl) ?_
            refine lv_iload_n hx hb dX5_day_58 rfl (lv_at hl 0 rfl) ?_
            refine lv_bipush (v := 6) hx hb dX5_day_59 (by decide) ?_
            refine g_callVi (rest := []) (c_X5_of l D tb ad hj P M (g_w2 Vx 1 (34 + 7 * k + 6) ((Vx 1 (34 + 7 * k + 6)) - 1)) k 6 (by first | assumption | omega) (by first | assumption | omega)) rfl rfl gm_X5_of hx hb hml hown hts hC hI (by decide) (e_x g_us) rfl rfl qm_X5_33 rfl hl.1 rfl ⟨rfl, rfl, by decide, by decide⟩ (Nat.le_of_ble_eq_true rfl) ⟨Nat.zero_le _, Nat.zero_le _⟩ dX5_day_61 (fun H locs hI => ?_)
            refine lv_if_ne (tgt := 72) hx hb dX5_day_64 (by decide) (fun c5 => ?_) (fun c5 => ?_)
            · refine lv_iinc (v := nI (k + 1)) (lv' := [(1, .int (nI (k + 1))), (0, .ref (ad 7 0))]) hx hb dX5_day_72 hl (k := 0) rfl (nI_1 _) (by decide) rfl (fun ls hl => ?_)
              refine lv_goto (tgt := 2) hx hb dX5_day_75 (by decide) ?_
              exact ih2 (k + 1) _ (by omega) (by omega) (by unfold m_days; rw [k_iter]; unfold m_days at e_Vx; rw [← e_Vx, m_dayStep]; (try unfold m_dec); (first | rw [if_pos c1] | rw [if_neg c1] | skip); (first | rw [if_pos c2] | rw [if_neg c2] | skip); (first | rw [if_pos c3] | rw [if_neg c3] | skip); (first | rw [if_pos c5] | rw [if_neg c5] | skip); (try rw [hlt2, nI_clamp (by omega)]); try with_reducible rfl)  _ _ _ hI (lv_sub hl [0, 1] rfl)
            · obtain ⟨t, ht, hlt⟩ := hL k (by omega) (by rw [← hhi _ (by omega)]; exact c2)
              have hlt2 : (g_w2 Vx 1 (34 + 7 * k + 6) ((Vx 1 (34 + 7 * k + 6)) - 1)) 1 (34 + 7 * k + 4) = nI t := by rw [w2_ne (by omega), hhi _ (by omega)]; exact hlt
              refine lv_aload_n hx hb dX5_day_67 rfl (lv_at hl 1 rfl) ?_
              refine lv_iload_n hx hb dX5_day_68 rfl (lv_at hl 0 rfl) ?_
              refine g_callVv (rest := []) (c_X5_seizes l D tb ad hj P M (g_w2 Vx 1 (34 + 7 * k + 6) ((Vx 1 (34 + 7 * k + 6)) - 1)) k (by first | assumption | omega) t ht hlt2) rfl rfl gm_X5_seizes hx hb hml hown hts hC hI (by decide) (e_x g_us) rfl rfl qm_X5_101 rfl hl.1 rfl ⟨rfl, rfl, by decide, by decide⟩ (Nat.le_of_ble_eq_true rfl) ⟨Nat.zero_le _, Nat.zero_le _⟩ dX5_day_69 (fun H locs hI => ?_)
              refine lv_iinc (v := nI (k + 1)) (lv' := [(1, .int (nI (k + 1))), (0, .ref (ad 7 0))]) hx hb dX5_day_72 hl (k := 0) rfl (nI_1 _) (by decide) rfl (fun ls hl => ?_)
              refine lv_goto (tgt := 2) hx hb dX5_day_75 (by decide) ?_
              exact ih2 (k + 1) _ (by omega) (by omega) (by unfold m_days; rw [k_iter]; unfold m_days at e_Vx; rw [← e_Vx, m_dayStep]; (try unfold m_dec); (first | rw [if_pos c1] | rw [if_neg c1] | skip); (first | rw [if_pos c2] | rw [if_neg c2] | skip); (first | rw [if_pos c3] | rw [if_neg c3] | skip); (first | rw [if_pos c5] | rw [if_neg c5] | skip); (try rw [hlt2, nI_clamp (by omega)]); try with_reducible rfl)  _ _ _ hI (lv_sub hl [0, 1] rfl)
          · refine lv_if_ne (tgt := 57) hx hb dX5_day_43 (by decide) (fun c6 => absurd c6 (by decide)) (fun _ => ?_)
            refine lv_aload_n hx hb dX5_day_46 rfl (lv_at hl 1 rfl) ?_
            refine lv_iload_n hx hb dX5_day_47 rfl (lv_at hl 0 rfl) ?_
            refine lv_bipush (v := 6) hx hb dX5_day_48 (by decide) ?_
            refine lv_iconst (v := 0) hx hb dX5_day_50 (by decide) ?_
            refine g_callVv (rest := []) (c_X5_lays l D tb ad hj P M (g_w2 Vx 1 (34 + 7 * k + 6) ((Vx 1 (34 + 7 * k + 6)) - 1)) k 6 0 (by first | assumption | omega) (by first | assumption | omega)) rfl rfl gm_X5_lays hx hb hml hown hts hC hI (by decide) (e_x g_us) rfl rfl qm_X5_37 rfl hl.1 rfl ⟨rfl, rfl, by decide, by decide⟩ (Nat.le_of_ble_eq_true rfl) ⟨Nat.zero_le _, Nat.zero_le _⟩ dX5_day_51 (fun H locs hI => ?_)
            refine lv_goto (tgt := 72) hx hb dX5_day_54 (by decide) ?_
            refine lv_iinc (v := nI (k + 1)) (lv' := [(1, .int (nI (k + 1))), (0, .ref (ad 7 0))]) hx hb dX5_day_72 hl (k := 0) rfl (nI_1 _) (by decide) rfl (fun ls hl => ?_)
            refine lv_goto (tgt := 2) hx hb dX5_day_75 (by decide) ?_
            exact ih2 (k + 1) _ (by omega) (by omega) (by unfold m_days; rw [k_iter]; unfold m_days at e_Vx; rw [← e_Vx, m_dayStep]; (try unfold m_dec); (first | rw [if_pos c1] | rw [if_neg c1] | skip); (first | rw [if_pos c2] | rw [if_neg c2] | skip); (first | rw [if_pos c3] | rw [if_neg c3] | skip); (try rw [hlt2, nI_clamp (by omega)]); try with_reducible rfl)  _ _ _ hI (lv_sub hl [0, 1] rfl)
  exact lp2 (n + 1) 0 _ (by omega) (by omega) rfl  _ _ _ hI (lv_sub hl [0, 1] rfl)
def m_lets (V : g_V) (days : Int32) (n : Nat) : Int32 × g_V :=
  if m_in days 1 99 then ((((m_letN V n (days.toNatClampNeg)) 1 3) - (V 1 3)), (m_letN V n (days.toNatClampNeg))) else ((-2000000001), V)
abbrev rm_X5_lets : Room := { frames := 5, cells := 0, slots := 0, locals := 107 }
set_option maxHeartbeats 800000 in
set_option maxRecDepth 100000 in
theorem c_X5_lets (l : Launch) (D : va_G) (tb : g_T) (ad : g_Ad) (hj : g_inj ad) (P : g_P) (M : g_M) (V : g_V) (days : Int32) (n : Nat) (hn : m_N V n) (hL : m_okL V n) : g_Ci l yX5_lets cX5_lets 4 (some .int) rm_X5_lets D tb ad [.ref (ad 7 0), .int days] P (va_up M 7 V) ((m_lets V days n).1) P (va_up M 7 ((m_lets V days n).2)) := by
  refine g_go (by decide) (Nat.le_of_ble_eq_true rfl) hj ?_
  intro p e s m below meth c ls H locs R args Q hR0 hQ hx hb hml hr0 hlk hown hts hC hI hl
  subst hR0
  have hown : s.vm.findClass RX5 = some m.cls := hown
  have hl : lv_has ls 4 [(0, .ref (ad 7 0)), (1, .int days)] := hl
  refine lv_iload_n hx hb dX5_lets_0 rfl (lv_at hl 1 rfl) ?_
  refine lv_iconst (v := 1) hx hb dX5_lets_1 (by decide) ?_
  refine lv_bipush (v := 99) hx hb dX5_lets_2 (by decide) ?_
  refine g_callSi (rest := []) (c_X5_in l D tb ad hj P (va_up M 7 V) days 1 99) rfl rfl gm_X5_in hx hb hml hown hts hC hI qm_X5_67 rfl hl.1 rfl ⟨rfl, rfl, by decide, by decide⟩ (Nat.le_of_ble_eq_true rfl) ⟨Nat.zero_le _, Nat.zero_le _⟩ dX5_lets_4 (fun H locs hI => ?_)
  refine g_tf (fun c1 => ?_) (fun c1 => ?_)
  · obtain ⟨dn, hdn, rfl⟩ := m_nI1 (N := 99) c1 rfl
    have hcldn : (nI dn).toNatClampNeg = dn := nI_clamp (by omega)
    refine lv_if_ne (tgt := 13) hx hb dX5_lets_7 (by decide) (fun _ => ?_) (fun c2 => absurd c2 (by decide))
    refine lv_aload_n hx hb dX5_lets_13 rfl (lv_at hl 0 rfl) ?_
    refine g_get 0 hx hb hts hown hC hI i_X5 (by decide) (e_x g_us) rfl (by decide) qf_X5_7 rfl rfl dX5_lets_14 ?_
    refine lv_iconst (v := 3) hx hb dX5_lets_17 (by decide) ?_
    refine g_iald 3 hx hb hC hI (by decide) (e_xs g_us) (by unfold vp_in; decide) rfl dX5_lets_18 ?_
    refine lv_istore_n (lv' := [(2, .int (V 1 3)), (0, .ref (ad 7 0)), (1, .int (nI dn))]) hx hb dX5_lets_19 rfl hl (by decide) rfl (fun ls hl => ?_)
    refine lv_iconst (v := 0) hx hb dX5_lets_20 (by decide) ?_
    refine lv_istore_n (lv' := [(3, .int 0), (2, .int (V 1 3)), (0, .ref (ad 7 0)), (1, .int (nI dn))]) hx hb dX5_lets_21 rfl hl (by decide) rfl (fun ls hl => ?_)
    have lp22 : ∀ (d k : Nat) (Vx : g_V), k ≤ dn → dn < k + d → Vx = m_letN V n k → (Vx 1 0 = nI n ∧ m_okL Vx n) → ∀ (H : Heap) (locs : List Loc) (ls : Array Slot), g_I D tb ad (g_A ad) s H locs P (va_up M 7 Vx) → lv_has ls 4 [(3, .int (nI k)), (2, .int (V 1 3)), (0, .ref (ad 7 0)), (1, .int (nI dn))] → W p l e rm_X5_lets s m args below meth c H locs 0 0 Q (F0 m 22 ls []) := by
      intro d
      induction d with
      | zero => intro k Vx hkp hfu; intros; omega
      | succ d ih22 =>
        intro k Vx hkp hfu e_Vx h0 H locs ls hI hl
        refine lv_iload_n hx hb dX5_lets_22 rfl (lv_at hl 0 rfl) ?_
        refine lv_iload_n hx hb dX5_lets_23 rfl (lv_at hl 3 rfl) ?_
        refine lv_icmp_ge (tgt := 37) hx hb dX5_lets_24 (by decide) (fun c3 => ?_) (fun c3 => ?_)
        · have c3n : dn ≤ k := (nI_leI (a := dn) (b := k) (by omega) (by omega)).mp c3
          refine lv_aload_n hx hb dX5_lets_37 rfl (lv_at hl 2 rfl) ?_
          refine g_get 0 hx hb hts hown hC hI i_X5 (by decide) (e_x g_us) rfl (by decide) qf_X5_7 rfl rfl dX5_lets_38 ?_
          refine lv_iconst (v := 3) hx hb dX5_lets_41 (by decide) ?_
          refine g_iald 3 hx hb hC hI (by decide) (e_xs g_us) (by unfold vp_in; decide) rfl dX5_lets_42 ?_
          refine lv_iload_n hx hb dX5_lets_43 rfl (lv_at hl 1 rfl) ?_
          refine lv_isub hx hb dX5_lets_44 ?_
          exact g_ir hQ hx hb hr0 hlk hC hI dX5_lets_45 rfl (by rw [show k = dn from (by omega)] at e_Vx; unfold m_lets; (try simp only [hcldn]); (try rw [← e_Vx]); (first | rw [if_pos c1] | rw [if_neg c1] | skip); (first | rw [if_pos c3] | rw [if_neg c3] | skip); try with_reducible rfl) rfl (by rw [show k = dn from (by omega)] at e_Vx; unfold m_lets; (try simp only [hcldn]); (try rw [← e_Vx]); (first | rw [if_pos c1] | rw [if_neg c1] | skip); (first | rw [if_pos c3] | rw [if_neg c3] | skip); try with_reducible rfl)
        · have c3n : ¬ dn ≤ k := fun z => c3 ((nI_leI (a := dn) (b := k) (by omega) (by omega)).mpr z)
          refine lv_aload_n hx hb dX5_lets_27 rfl (lv_at hl 2 rfl) ?_
          refine g_callVv (rest := []) (c_X5_day l D tb ad hj P M Vx n ⟨h0.1, hn.2⟩ h0.2) rfl rfl gm_X5_day hx hb hml hown hts hC hI (by decide) (e_x g_us) rfl rfl qm_X5_104 rfl hl.1 rfl ⟨rfl, rfl, by decide, by decide⟩ (Nat.le_of_ble_eq_true rfl) ⟨Nat.zero_le _, Nat.zero_le _⟩ dX5_lets_28 (fun H locs hI => ?_)
          refine lv_iinc (v := nI (k + 1)) (lv' := [(3, .int (nI (k + 1))), (2, .int (V 1 3)), (0, .ref (ad 7 0)), (1, .int (nI dn))]) hx hb dX5_lets_31 hl (k := 0) rfl (nI_1 _) (by decide) rfl (fun ls hl => ?_)
          refine lv_goto (tgt := 22) hx hb dX5_lets_34 (by decide) ?_
          exact ih22 (k + 1) _ (by omega) (by omega) (by simp only [m_letN, k_iter]; rw [e_Vx]; rfl) (by exact m_day_ok h0.1 h0.2) _ _ _ hI (lv_sub hl [0, 1, 2, 3] rfl)
    exact lp22 (dn + 1) 0 _ (by omega) (by omega) rfl ⟨hn.1, hL⟩ _ _ _ hI (lv_sub hl [0, 1, 2, 3] rfl)
  · refine lv_if_ne (tgt := 13) hx hb dX5_lets_7 (by decide) (fun c4 => absurd c4 (by decide)) (fun _ => ?_)
    refine lv_ldc (v := (-2000000001)) hx hb hown (hts _ qc_X5_25) dX5_lets_10 ?_
    exact g_ir hQ hx hb hr0 hlk hC hI dX5_lets_12 rfl (by unfold m_lets; (try simp only [hcldn]); (first | rw [if_pos c1] | rw [if_neg c1] | skip); try with_reducible rfl) rfl (by unfold m_lets; (try simp only [hcldn]); (first | rw [if_pos c1] | rw [if_neg c1] | skip); try with_reducible rfl)
abbrev rm_X5_delivers : Room := { frames := 2, cells := 0, slots := 0, locals := 45 }
set_option maxHeartbeats 800000 in
set_option maxRecDepth 100000 in
theorem c_X5_delivers (l : Launch) (D : va_G) (tb : g_T) (ad : g_Ad) (hj : g_inj ad) (P : g_P) (M : g_M) (V : g_V) (x : Int32) (n : Nat) (hn : m_N V n) (hR : m_okR V n) : g_Ci l yX5_delivers cX5_delivers 9 (some .int) rm_X5_delivers D tb ad [.ref (ad 7 0), .int x] P (va_up M 7 V) ((m_delivers V x n).1) P (va_up M 7 ((m_delivers V x n).2)) := by
  refine g_go (by decide) (Nat.le_of_ble_eq_true rfl) hj ?_
  intro p e s m below meth c ls H locs R args Q hR0 hQ hx hb hml hr0 hlk hown hts hC hI hl
  subst hR0
  have hown : s.vm.findClass RX5 = some m.cls := hown
  have hl : lv_has ls 9 [(0, .ref (ad 7 0)), (1, .int x)] := hl
  refine lv_aload_n hx hb dX5_delivers_0 rfl (lv_at hl 0 rfl) ?_
  refine lv_iload_n hx hb dX5_delivers_1 rfl (lv_at hl 1 rfl) ?_
  refine g_callVi (rest := []) (c_X5_placeOf l D tb ad hj P M V x n (by first | assumption | omega)) rfl rfl gm_X5_placeOf hx hb hml hown hts hC hI (by decide) (e_x g_us) rfl rfl qm_X5_83 rfl hl.1 rfl ⟨rfl, rfl, by decide, by decide⟩ (Nat.le_of_ble_eq_true rfl) ⟨Nat.zero_le _, Nat.zero_le _⟩ dX5_delivers_2 (fun H locs hI => ?_)
  refine g_pf (fun q1 => ?_) (fun i2 q1 => ?_)
  · refine lv_istore_n (lv' := [(2, .int (-1)), (0, .ref (ad 7 0)), (1, .int x)]) hx hb dX5_delivers_5 rfl hl (by decide) rfl (fun ls hl => ?_)
    refine lv_iload_n hx hb dX5_delivers_6 rfl (lv_at hl 0 rfl) ?_
    refine lv_if_ge (tgt := 13) hx hb dX5_delivers_7 (by decide) (fun c3 => absurd c3 (by decide)) (fun _ => ?_)
    refine lv_ldc (v := (-2000000001)) hx hb hown (hts _ qc_X5_25) dX5_delivers_10 ?_
    exact g_ir hQ hx hb hr0 hlk hC hI dX5_delivers_12 rfl (by unfold m_delivers; (try simp only [q1]); try (first | with_reducible rfl | (unfold m_delivers1; rw [hclg, hg, hv]))) rfl (by unfold m_delivers; (try simp only [q1]); try (first | with_reducible rfl | (unfold m_delivers1; rw [hclg, hg, hv])))
  · have hi4 := k_last_lt q1
    have hi41 : i2 < n := hi4.1
    obtain ⟨-, ⟨g0, hg3, hg⟩, -⟩ := hR i2 hi41
    have hclg : (V 1 (34 + 7 * i2 + 2)).toNatClampNeg = g0 := by rw [hg]; exact nI_clamp (by omega)
    refine lv_istore_n (lv' := [(2, .int (nI i2)), (0, .ref (ad 7 0)), (1, .int x)]) hx hb dX5_delivers_5 rfl hl (by decide) rfl (fun ls hl => ?_)
    refine lv_iload_n hx hb dX5_delivers_6 rfl (lv_at hl 0 rfl) ?_
    refine lv_if_ge (tgt := 13) hx hb dX5_delivers_7 (by decide) (fun c5 => ?_) (fun c5 => ?_)
    · refine lv_aload_n hx hb dX5_delivers_13 rfl (lv_at hl 1 rfl) ?_
      refine lv_iload_n hx hb dX5_delivers_14 rfl (lv_at hl 0 rfl) ?_
      refine g_callVi (rest := []) (c_X5_isPledged l D tb ad hj P M V i2 (by first | assumption | omega)) rfl rfl gm_X5_isPledged hx hb hml hown hts hC hI (by decide) (e_x g_us) rfl rfl qm_X5_87 rfl hl.1 rfl ⟨rfl, rfl, by decide, by decide⟩ (Nat.le_of_ble_eq_true rfl) ⟨Nat.zero_le _, Nat.zero_le _⟩ dX5_delivers_15 (fun H locs hI => ?_)
      refine g_tf (fun c6 => ?_) (fun c6 => ?_)
      · refine lv_if_eq (tgt := 24) hx hb dX5_delivers_18 (by decide) (fun c7 => absurd c7 (by decide)) (fun _ => ?_)
        refine lv_ldc (v := (-2000000002)) hx hb hown (hts _ qc_X5_86) dX5_delivers_21 ?_
        exact g_ir hQ hx hb hr0 hlk hC hI dX5_delivers_23 rfl (by unfold m_delivers; (try simp only [q1]); (first | rw [if_pos c5] | rw [if_neg c5] | skip); (first | rw [if_pos c6] | rw [if_neg c6] | skip); try (first | with_reducible rfl | (unfold m_delivers1; rw [hclg, hg, hv]))) rfl (by unfold m_delivers; (try simp only [q1]); (first | rw [if_pos c5] | rw [if_neg c5] | skip); (first | rw [if_pos c6] | rw [if_neg c6] | skip); try (first | with_reducible rfl | (unfold m_delivers1; rw [hclg, hg, hv])))
      · refine lv_if_eq (tgt := 24) hx hb dX5_delivers_18 (by decide) (fun _ => ?_) (fun c8 => absurd c8 (by decide))
        refine lv_aload_n hx hb dX5_delivers_24 rfl (lv_at hl 1 rfl) ?_
        refine lv_iload_n hx hb dX5_delivers_25 rfl (lv_at hl 0 rfl) ?_
        refine lv_iconst (v := 3) hx hb dX5_delivers_26 (by decide) ?_
        refine g_callVi (rest := []) (c_X5_of l D tb ad hj P M V i2 3 (by first | assumption | omega) (by first | assumption | omega)) rfl rfl gm_X5_of hx hb hml hown hts hC hI (by decide) (e_x g_us) rfl rfl qm_X5_33 rfl hl.1 rfl ⟨rfl, rfl, by decide, by decide⟩ (Nat.le_of_ble_eq_true rfl) ⟨Nat.zero_le _, Nat.zero_le _⟩ dX5_delivers_27 (fun H locs hI => ?_)
        refine lv_istore_n (lv' := [(3, .int (V 1 (34 + 7 * i2 + 3))), (2, .int (nI i2)), (0, .ref (ad 7 0)), (1, .int x)]) hx hb dX5_delivers_30 rfl hl (by decide) rfl (fun ls hl => ?_)
        refine lv_aload_n hx hb dX5_delivers_31 rfl (lv_at hl 2 rfl) ?_
        refine lv_iload_n hx hb dX5_delivers_32 rfl (lv_at hl 1 rfl) ?_
        refine lv_iconst (v := 2) hx hb dX5_delivers_33 (by decide) ?_
        refine g_callVi (rest := []) (c_X5_of l D tb ad hj P M V i2 2 (by first | assumption | omega) (by first | assumption | omega)) rfl rfl gm_X5_of hx hb hml hown hts hC hI (by decide) (e_x g_us) rfl rfl qm_X5_33 rfl hl.1 rfl ⟨rfl, rfl, by decide, by decide⟩ (Nat.le_of_ble_eq_true rfl) ⟨Nat.zero_le _, Nat.zero_le _⟩ dX5_delivers_34 (fun H locs hI => ?_)
        refine g_te (y := (nI g0)) hg ?_
        refine lv_istore (lv' := [(4, .int (nI g0)), (3, .int (V 1 (34 + 7 * i2 + 3))), (2, .int (nI i2)), (0, .ref (ad 7 0)), (1, .int x)]) hx hb dX5_delivers_37 hl (by decide) rfl (fun ls hl => ?_)
        refine lv_iconst (v := 0) hx hb dX5_delivers_39 (by decide) ?_
        refine lv_istore (lv' := [(5, .int 0), (4, .int (nI g0)), (3, .int (V 1 (34 + 7 * i2 + 3))), (2, .int (nI i2)), (0, .ref (ad 7 0)), (1, .int x)]) hx hb dX5_delivers_40 hl (by decide) rfl (fun ls hl => ?_)
        refine lv_aload_n hx hb dX5_delivers_42 rfl (lv_at hl 4 rfl) ?_
        refine g_get 0 hx hb hts hown hC hI i_X5 (by decide) (e_x g_us) rfl (by decide) qf_X5_7 rfl rfl dX5_delivers_43 ?_
        refine lv_iconst (v := 4) hx hb dX5_delivers_46 (by decide) ?_
        refine lv_dup2_11 hx hb dX5_delivers_47 rfl rfl ?_
        refine g_iald 4 hx hb hC hI (by decide) (e_xs g_us) (by unfold vp_in; decide) rfl dX5_delivers_48 ?_
        refine lv_iload_n hx hb dX5_delivers_49 rfl (lv_at hl 2 rfl) ?_
        refine lv_iadd hx hb dX5_delivers_50 ?_
        refine g_iast 4 hx hb hC hI (by decide) (e_xs g_us) (by unfold vp_in; decide) rfl p_xs g_hs dX5_delivers_51 (fun H locs hI => ?_)
        refine lv_iload hx hb dX5_delivers_52 (lv_at hl 1 rfl) ?_
        refine g_te (y := (nI (g0 + 1) - 1)) (nI_pred g0).symm ?_
        refine lv_istore (lv' := [(6, .int (nI (g0 + 1) - 1)), (5, .int 0), (4, .int (nI g0)), (3, .int (V 1 (34 + 7 * i2 + 3))), (2, .int (nI i2)), (0, .ref (ad 7 0)), (1, .int x)]) hx hb dX5_delivers_54 hl (by decide) rfl (fun ls hl => ?_)
        have lp56 : ∀ (d k : Nat) (Vx : g_V) (x1 : Int32) (x2 : Int32), k ≤ 3 → k < 0 + d → (m_delv (nI g0) k (Vx, x1, x2) = m_delv (nI g0) (g0 + 1) (g_w2 V 1 4 (V 1 4 + V 1 (34 + 7 * i2 + 3)), V 1 (34 + 7 * i2 + 3), 0)) → (Vx 1 0 = nI n) → ∀ (H : Heap) (locs : List Loc) (ls : Array Slot), g_I D tb ad (g_A ad) s H locs P (va_up M 7 Vx) → lv_has ls 9 [(6, .int (nI k - 1)), (5, .int x2), (4, .int (nI g0)), (3, .int x1), (2, .int (nI i2)), (0, .ref (ad 7 0)), (1, .int x)] → W p l e rm_X5_delivers s m args below meth c H locs 0 0 Q (F0 m 56 ls []) := by
          intro d
          induction d with
          | zero => intro k Vx x1 x2 hkp hfu; intros; omega
          | succ d ih56 =>
            intro k Vx x1 x2 hkp hfu hdl h0 H locs ls hI hl
            refine lv_iload hx hb dX5_delivers_56 (lv_at hl 0 rfl) ?_
            refine lv_if_lt (tgt := 151) hx hb dX5_delivers_58 (by decide) (fun c9 => ?_) (fun c9 => ?_)
            · have hk0 : k = 0 := k_dneg (by omega) c9
              have hv : m_delv (nI g0) (g0 + 1) (g_w2 V 1 4 (V 1 4 + V 1 (34 + 7 * i2 + 3)), V 1 (34 + 7 * i2 + 3), 0) = (Vx, x1, x2) := by rw [hk0] at hdl; rw [← hdl]; rfl
              refine lv_aload_n hx hb dX5_delivers_151 rfl (lv_at hl 5 rfl) ?_
              refine lv_iload_n hx hb dX5_delivers_152 rfl (lv_at hl 4 rfl) ?_
              refine g_callVv (rest := []) (c_X5_removes l D tb ad hj P M Vx i2 n ⟨h0, hn.2⟩ (by first | assumption | omega)) rfl rfl gm_X5_removes hx hb hml hown hts hC hI (by decide) (e_x g_us) rfl rfl qm_X5_91 rfl hl.1 rfl ⟨rfl, rfl, by decide, by decide⟩ (Nat.le_of_ble_eq_true rfl) ⟨Nat.zero_le _, Nat.zero_le _⟩ dX5_delivers_153 (fun H locs hI => ?_)
              refine lv_iload hx hb dX5_delivers_156 (lv_at hl 1 rfl) ?_
              exact g_ir hQ hx hb hr0 hlk hC hI dX5_delivers_158 rfl (by unfold m_delivers; (try simp only [q1]); (first | rw [if_pos c5] | rw [if_neg c5] | skip); (first | rw [if_pos c6] | rw [if_neg c6] | skip); (first | rw [if_pos c9] | rw [if_neg c9] | skip); try (first | with_reducible rfl | (unfold m_delivers1; rw [hclg, hg, hv]))) rfl (by unfold m_delivers; (try simp only [q1]); (first | rw [if_pos c5] | rw [if_neg c5] | skip); (first | rw [if_pos c6] | rw [if_neg c6] | skip); (first | rw [if_pos c9] | rw [if_neg c9] | skip); try (first | with_reducible rfl | (unfold m_delivers1; rw [hclg, hg, hv])))
            · have hk1 : 1 ≤ k := k_dpos c9
              refine lv_iconst (v := 0) hx hb dX5_delivers_61 (by decide) ?_
              refine lv_istore (lv' := [(7, .int 0), (6, .int (nI k - 1)), (5, .int x2), (4, .int (nI g0)), (3, .int x1), (2, .int (nI i2)), (0, .ref (ad 7 0)), (1, .int x)]) hx hb dX5_delivers_62 hl (by decide) rfl (fun ls hl => ?_)
              have lp64 : ∀ (d k2 : Nat) (Vy : g_V) (y1 : Int32) (y2 : Int32), k2 ≤ 5 → 5 < k2 + d → Vy = (k_iter (m_delStep (nI k - 1) (nI g0)) (Vx, x1, x2) k2).1 → y1 = (k_iter (m_delStep (nI k - 1) (nI g0)) (Vx, x1, x2) k2).2.1 → y2 = (k_iter (m_delStep (nI k - 1) (nI g0)) (Vx, x1, x2) k2).2.2 → (Vy 1 0 = nI n) → ∀ (H : Heap) (locs : List Loc) (ls : Array Slot), g_I D tb ad (g_A ad) s H locs P (va_up M 7 Vy) → lv_has ls 9 [(7, .int (nI k2)), (6, .int (nI k - 1)), (5, .int y2), (4, .int (nI g0)), (3, .int y1), (2, .int (nI i2)), (0, .ref (ad 7 0)), (1, .int x)] → W p l e rm_X5_delivers s m args below meth c H locs 0 0 Q (F0 m 64 ls []) := by
                intro d
                induction d with
                | zero => intro k2 Vy y1 y2 hkp hfu; intros; omega
                | succ d ih64 =>
                  intro k2 Vy y1 y2 hkp hfu e_Vy e_y1 e_y2 h0y H locs ls hI hl
                  refine lv_iload hx hb dX5_delivers_64 (lv_at hl 0 rfl) ?_
                  refine lv_iconst (v := 5) hx hb dX5_delivers_66 (by decide) ?_
                  refine lv_icmp_ge (tgt := 145) hx hb dX5_delivers_67 (by decide) (fun c10 => ?_) (fun c10 => ?_)
                  · have c10n : 5 ≤ k2 := (nI_leI (a := 5) (b := k2) (by omega) (by omega)).mp c10
                    refine lv_iinc (v := (nI (k - 1) - 1)) (lv' := [(6, .int (nI (k - 1) - 1)), (7, .int (nI k2)), (5, .int y2), (4, .int (nI g0)), (3, .int y1), (2, .int (nI i2)), (0, .ref (ad 7 0)), (1, .int x)]) hx hb dX5_delivers_145 hl (k := 1) rfl (k_dd hk1) (by decide) rfl (fun ls hl => ?_)
                    refine lv_goto (tgt := 56) hx hb dX5_delivers_148 (by decide) ?_
                    exact ih56 (k - 1) _ _ _ (by omega) (by omega)  (by rw [← hdl, m_delv_step hk1]; refine congrArg (m_delv (nI g0) (k - 1)) ?_; rw [show k2 = 5 from (by omega)] at e_Vy e_y1 e_y2; exact Prod.ext e_Vy (Prod.ext e_y1 e_y2)) (by exact h0y) _ _ _ hI (lv_sub hl [0, 2, 3, 4, 5, 6, 7] rfl)
                  · have c10n : ¬ 5 ≤ k2 := fun z => c10 ((nI_leI (a := 5) (b := k2) (by omega) (by omega)).mpr z)
                    refine lv_aload_n hx hb dX5_delivers_70 rfl (lv_at hl 6 rfl) ?_
                    refine lv_iload hx hb dX5_delivers_71 (lv_at hl 0 rfl) ?_
                    refine g_callVi (rest := []) (c_X5_grade l D tb ad hj P M Vy k2 (by first | assumption | omega)) rfl rfl gm_X5_grade hx hb hml hown hts hC hI (by decide) (e_x g_us) rfl rfl qm_X5_52 rfl hl.1 rfl ⟨rfl, rfl, by decide, by decide⟩ (Nat.le_of_ble_eq_true rfl) ⟨Nat.zero_le _, Nat.zero_le _⟩ dX5_delivers_73 (fun H locs hI => ?_)
                    refine lv_iload hx hb dX5_delivers_76 (lv_at hl 1 rfl) ?_
                    refine lv_icmp_eq (tgt := 85) hx hb dX5_delivers_78 (by decide) (fun c11 => ?_) (fun c11 => ?_)
                    · refine lv_aload_n hx hb dX5_delivers_85 rfl (lv_at hl 6 rfl) ?_
                      refine lv_iload hx hb dX5_delivers_86 (lv_at hl 0 rfl) ?_
                      refine g_callVi (rest := []) (c_X5_amount l D tb ad hj P M Vy k2 (by first | assumption | omega)) rfl rfl gm_X5_amount hx hb hml hown hts hC hI (by decide) (e_x g_us) rfl rfl qm_X5_55 rfl hl.1 rfl ⟨rfl, rfl, by decide, by decide⟩ (Nat.le_of_ble_eq_true rfl) ⟨Nat.zero_le _, Nat.zero_le _⟩ dX5_delivers_88 (fun H locs hI => ?_)
                      refine lv_iload_n hx hb dX5_delivers_91 rfl (lv_at hl 4 rfl) ?_
                      refine lv_icmp_ge (tgt := 104) hx hb dX5_delivers_92 (by decide) (fun c12 => ?_) (fun c12 => ?_)
                      · refine lv_iload_n hx hb dX5_delivers_104 rfl (lv_at hl 4 rfl) ?_
                        refine lv_istore (lv' := [(8, .int y1), (7, .int (nI k2)), (6, .int (nI k - 1)), (5, .int y2), (4, .int (nI g0)), (3, .int y1), (2, .int (nI i2)), (0, .ref (ad 7 0)), (1, .int x)]) hx hb dX5_delivers_105 hl (by decide) rfl (fun ls hl => ?_)
                        refine lv_aload_n hx hb dX5_delivers_107 rfl (lv_at hl 7 rfl) ?_
                        refine lv_iload hx hb dX5_delivers_108 (lv_at hl 1 rfl) ?_
                        refine lv_iload hx hb dX5_delivers_110 (lv_at hl 0 rfl) ?_
                        refine lv_ineg hx hb dX5_delivers_112 ?_
                        refine g_callVv (rest := []) (c_X5_moves l D tb ad hj P M Vy k2 (-y1) (by first | assumption | omega)) rfl rfl gm_X5_moves hx hb hml hown hts hC hI (by decide) (e_x g_us) rfl rfl qm_X5_75 rfl hl.1 rfl ⟨rfl, rfl, by decide, by decide⟩ (Nat.le_of_ble_eq_true rfl) ⟨Nat.zero_le _, Nat.zero_le _⟩ dX5_delivers_113 (fun H locs hI => ?_)
                        refine lv_iload_n hx hb dX5_delivers_116 rfl (lv_at hl 5 rfl) ?_
                        refine lv_iload hx hb dX5_delivers_117 (lv_at hl 0 rfl) ?_
                        refine lv_isub hx hb dX5_delivers_119 ?_
                        refine lv_istore_n (lv' := [(3, .int (y1 - y1)), (8, .int y1), (7, .int (nI k2)), (6, .int (nI k - 1)), (5, .int y2), (4, .int (nI g0)), (2, .int (nI i2)), (0, .ref (ad 7 0)), (1, .int x)]) hx hb dX5_delivers_120 rfl hl (by decide) rfl (fun ls hl => ?_)
                        refine lv_iload hx hb dX5_delivers_121 (lv_at hl 4 rfl) ?_
                        refine lv_iload hx hb dX5_delivers_123 (lv_at hl 3 rfl) ?_
                        refine lv_iload hx hb dX5_delivers_125 (lv_at hl 5 rfl) ?_
                        refine lv_icmp_ge (tgt := 135) hx hb dX5_delivers_127 (by decide) (fun c13 => ?_) (fun c13 => ?_)
                        · refine lv_iconst (v := 0) hx hb dX5_delivers_135 (by decide) ?_
                          refine lv_iadd hx hb dX5_delivers_136 ?_
                          refine lv_istore (lv' := [(5, .int (y2 + 0)), (3, .int (y1 - y1)), (8, .int y1), (7, .int (nI k2)), (6, .int (nI k - 1)), (4, .int (nI g0)), (2, .int (nI i2)), (0, .ref (ad 7 0)), (1, .int x)]) hx hb dX5_delivers_137 hl (by decide) rfl (fun ls hl => ?_)
                          refine lv_iinc (v := nI (k2 + 1)) (lv' := [(7, .int (nI (k2 + 1))), (5, .int (y2 + 0)), (3, .int (y1 - y1)), (8, .int y1), (6, .int (nI k - 1)), (4, .int (nI g0)), (2, .int (nI i2)), (0, .ref (ad 7 0)), (1, .int x)]) hx hb dX5_delivers_139 hl (k := 3) rfl (nI_1 _) (by decide) rfl (fun ls hl => ?_)
                          refine lv_goto (tgt := 64) hx hb dX5_delivers_142 (by decide) ?_
                          exact ih64 (k2 + 1) _ _ _ (by omega) (by omega) (by rw [k_iter, m_delStep]; (try dsimp only); (try rw [← e_Vy]); (try rw [← e_y1]); (try rw [← e_y2]); (try rw [m_part]); (try simp only [q1]); (first | rw [if_pos c5] | rw [if_neg c5] | skip); (first | rw [if_pos c6] | rw [if_neg c6] | skip); (first | rw [if_pos c9] | rw [if_neg c9] | skip); (first | rw [if_pos c10] | rw [if_neg c10] | skip); (first | rw [if_pos c11] | rw [if_neg c11] | skip); (first | rw [if_pos c12] | rw [if_neg c12] | skip); (first | rw [if_pos c13] | rw [if_neg c13] | skip); try with_reducible rfl) (by rw [k_iter, m_delStep]; (try dsimp only); (try rw [← e_Vy]); (try rw [← e_y1]); (try rw [← e_y2]); (try rw [m_part]); (try simp only [q1]); (first | rw [if_pos c5] | rw [if_neg c5] | skip); (first | rw [if_pos c6] | rw [if_neg c6] | skip); (first | rw [if_pos c9] | rw [if_neg c9] | skip); (first | rw [if_pos c10] | rw [if_neg c10] | skip); (first | rw [if_pos c11] | rw [if_neg c11] | skip); (first | rw [if_pos c12] | rw [if_neg c12] | skip); (first | rw [if_pos c13] | rw [if_neg c13] | skip); try with_reducible rfl) (by rw [k_iter, m_delStep]; (try dsimp only); (try rw [← e_Vy]); (try rw [← e_y1]); (try rw [← e_y2]); (try rw [m_part]); (try simp only [q1]); (first | rw [if_pos c5] | rw [if_neg c5] | skip); (first | rw [if_pos c6] | rw [if_neg c6] | skip); (first | rw [if_pos c9] | rw [if_neg c9] | skip); (first | rw [if_pos c10] | rw [if_neg c10] | skip); (first | rw [if_pos c11] | rw [if_neg c11] | skip); (first | rw [if_pos c12] | rw [if_neg c12] | skip); (first | rw [if_pos c13] | rw [if_neg c13] | skip); try with_reducible rfl) (by unfold m_moves; rw [w2_ne (by omega)]; exact h0y) _ _ _ hI (lv_sub hl [0, 4, 1, 5, 2, 6, 7, 8] rfl)
                        · refine lv_iload hx hb dX5_delivers_130 (lv_at hl 1 rfl) ?_
                          refine lv_goto (tgt := 136) hx hb dX5_delivers_132 (by decide) ?_
                          refine lv_iadd hx hb dX5_delivers_136 ?_
                          refine lv_istore (lv' := [(5, .int (y2 + y1)), (3, .int (y1 - y1)), (8, .int y1), (7, .int (nI k2)), (6, .int (nI k - 1)), (4, .int (nI g0)), (2, .int (nI i2)), (0, .ref (ad 7 0)), (1, .int x)]) hx hb dX5_delivers_137 hl (by decide) rfl (fun ls hl => ?_)
                          refine lv_iinc (v := nI (k2 + 1)) (lv' := [(7, .int (nI (k2 + 1))), (5, .int (y2 + y1)), (3, .int (y1 - y1)), (8, .int y1), (6, .int (nI k - 1)), (4, .int (nI g0)), (2, .int (nI i2)), (0, .ref (ad 7 0)), (1, .int x)]) hx hb dX5_delivers_139 hl (k := 3) rfl (nI_1 _) (by decide) rfl (fun ls hl => ?_)
                          refine lv_goto (tgt := 64) hx hb dX5_delivers_142 (by decide) ?_
                          exact ih64 (k2 + 1) _ _ _ (by omega) (by omega) (by rw [k_iter, m_delStep]; (try dsimp only); (try rw [← e_Vy]); (try rw [← e_y1]); (try rw [← e_y2]); (try rw [m_part]); (try simp only [q1]); (first | rw [if_pos c5] | rw [if_neg c5] | skip); (first | rw [if_pos c6] | rw [if_neg c6] | skip); (first | rw [if_pos c9] | rw [if_neg c9] | skip); (first | rw [if_pos c10] | rw [if_neg c10] | skip); (first | rw [if_pos c11] | rw [if_neg c11] | skip); (first | rw [if_pos c12] | rw [if_neg c12] | skip); (first | rw [if_pos c13] | rw [if_neg c13] | skip); try with_reducible rfl) (by rw [k_iter, m_delStep]; (try dsimp only); (try rw [← e_Vy]); (try rw [← e_y1]); (try rw [← e_y2]); (try rw [m_part]); (try simp only [q1]); (first | rw [if_pos c5] | rw [if_neg c5] | skip); (first | rw [if_pos c6] | rw [if_neg c6] | skip); (first | rw [if_pos c9] | rw [if_neg c9] | skip); (first | rw [if_pos c10] | rw [if_neg c10] | skip); (first | rw [if_pos c11] | rw [if_neg c11] | skip); (first | rw [if_pos c12] | rw [if_neg c12] | skip); (first | rw [if_pos c13] | rw [if_neg c13] | skip); try with_reducible rfl) (by rw [k_iter, m_delStep]; (try dsimp only); (try rw [← e_Vy]); (try rw [← e_y1]); (try rw [← e_y2]); (try rw [m_part]); (try simp only [q1]); (first | rw [if_pos c5] | rw [if_neg c5] | skip); (first | rw [if_pos c6] | rw [if_neg c6] | skip); (first | rw [if_pos c9] | rw [if_neg c9] | skip); (first | rw [if_pos c10] | rw [if_neg c10] | skip); (first | rw [if_pos c11] | rw [if_neg c11] | skip); (first | rw [if_pos c12] | rw [if_neg c12] | skip); (first | rw [if_pos c13] | rw [if_neg c13] | skip); try with_reducible rfl) (by unfold m_moves; rw [w2_ne (by omega)]; exact h0y) _ _ _ hI (lv_sub hl [0, 4, 1, 5, 2, 6, 7, 8] rfl)
                      · refine lv_aload_n hx hb dX5_delivers_95 rfl (lv_at hl 6 rfl) ?_
                        refine lv_iload hx hb dX5_delivers_96 (lv_at hl 0 rfl) ?_
                        refine g_callVi (rest := []) (c_X5_amount l D tb ad hj P M Vy k2 (by first | assumption | omega)) rfl rfl gm_X5_amount hx hb hml hown hts hC hI (by decide) (e_x g_us) rfl rfl qm_X5_55 rfl hl.1 rfl ⟨rfl, rfl, by decide, by decide⟩ (Nat.le_of_ble_eq_true rfl) ⟨Nat.zero_le _, Nat.zero_le _⟩ dX5_delivers_98 (fun H locs hI => ?_)
                        refine lv_goto (tgt := 105) hx hb dX5_delivers_101 (by decide) ?_
                        refine lv_istore (lv' := [(8, .int (Vy 1 (24 + 2 * k2 + 1))), (7, .int (nI k2)), (6, .int (nI k - 1)), (5, .int y2), (4, .int (nI g0)), (3, .int y1), (2, .int (nI i2)), (0, .ref (ad 7 0)), (1, .int x)]) hx hb dX5_delivers_105 hl (by decide) rfl (fun ls hl => ?_)
                        refine lv_aload_n hx hb dX5_delivers_107 rfl (lv_at hl 7 rfl) ?_
                        refine lv_iload hx hb dX5_delivers_108 (lv_at hl 1 rfl) ?_
                        refine lv_iload hx hb dX5_delivers_110 (lv_at hl 0 rfl) ?_
                        refine lv_ineg hx hb dX5_delivers_112 ?_
                        refine g_callVv (rest := []) (c_X5_moves l D tb ad hj P M Vy k2 (-(Vy 1 (24 + 2 * k2 + 1))) (by first | assumption | omega)) rfl rfl gm_X5_moves hx hb hml hown hts hC hI (by decide) (e_x g_us) rfl rfl qm_X5_75 rfl hl.1 rfl ⟨rfl, rfl, by decide, by decide⟩ (Nat.le_of_ble_eq_true rfl) ⟨Nat.zero_le _, Nat.zero_le _⟩ dX5_delivers_113 (fun H locs hI => ?_)
                        refine lv_iload_n hx hb dX5_delivers_116 rfl (lv_at hl 5 rfl) ?_
                        refine lv_iload hx hb dX5_delivers_117 (lv_at hl 0 rfl) ?_
                        refine lv_isub hx hb dX5_delivers_119 ?_
                        refine lv_istore_n (lv' := [(3, .int (y1 - (Vy 1 (24 + 2 * k2 + 1)))), (8, .int (Vy 1 (24 + 2 * k2 + 1))), (7, .int (nI k2)), (6, .int (nI k - 1)), (5, .int y2), (4, .int (nI g0)), (2, .int (nI i2)), (0, .ref (ad 7 0)), (1, .int x)]) hx hb dX5_delivers_120 rfl hl (by decide) rfl (fun ls hl => ?_)
                        refine lv_iload hx hb dX5_delivers_121 (lv_at hl 4 rfl) ?_
                        refine lv_iload hx hb dX5_delivers_123 (lv_at hl 3 rfl) ?_
                        refine lv_iload hx hb dX5_delivers_125 (lv_at hl 5 rfl) ?_
                        refine lv_icmp_ge (tgt := 135) hx hb dX5_delivers_127 (by decide) (fun c14 => ?_) (fun c14 => ?_)
                        · refine lv_iconst (v := 0) hx hb dX5_delivers_135 (by decide) ?_
                          refine lv_iadd hx hb dX5_delivers_136 ?_
                          refine lv_istore (lv' := [(5, .int (y2 + 0)), (3, .int (y1 - (Vy 1 (24 + 2 * k2 + 1)))), (8, .int (Vy 1 (24 + 2 * k2 + 1))), (7, .int (nI k2)), (6, .int (nI k - 1)), (4, .int (nI g0)), (2, .int (nI i2)), (0, .ref (ad 7 0)), (1, .int x)]) hx hb dX5_delivers_137 hl (by decide) rfl (fun ls hl => ?_)
                          refine lv_iinc (v := nI (k2 + 1)) (lv' := [(7, .int (nI (k2 + 1))), (5, .int (y2 + 0)), (3, .int (y1 - (Vy 1 (24 + 2 * k2 + 1)))), (8, .int (Vy 1 (24 + 2 * k2 + 1))), (6, .int (nI k - 1)), (4, .int (nI g0)), (2, .int (nI i2)), (0, .ref (ad 7 0)), (1, .int x)]) hx hb dX5_delivers_139 hl (k := 3) rfl (nI_1 _) (by decide) rfl (fun ls hl => ?_)
                          refine lv_goto (tgt := 64) hx hb dX5_delivers_142 (by decide) ?_
                          exact ih64 (k2 + 1) _ _ _ (by omega) (by omega) (by rw [k_iter, m_delStep]; (try dsimp only); (try rw [← e_Vy]); (try rw [← e_y1]); (try rw [← e_y2]); (try rw [m_part]); (try simp only [q1]); (first | rw [if_pos c5] | rw [if_neg c5] | skip); (first | rw [if_pos c6] | rw [if_neg c6] | skip); (first | rw [if_pos c9] | rw [if_neg c9] | skip); (first | rw [if_pos c10] | rw [if_neg c10] | skip); (first | rw [if_pos c11] | rw [if_neg c11] | skip); (first | rw [if_pos c12] | rw [if_neg c12] | skip); (first | rw [if_pos c14] | rw [if_neg c14] | skip); try with_reducible rfl) (by rw [k_iter, m_delStep]; (try dsimp only); (try rw [← e_Vy]); (try rw [← e_y1]); (try rw [← e_y2]); (try rw [m_part]); (try simp only [q1]); (first | rw [if_pos c5] | rw [if_neg c5] | skip); (first | rw [if_pos c6] | rw [if_neg c6] | skip); (first | rw [if_pos c9] | rw [if_neg c9] | skip); (first | rw [if_pos c10] | rw [if_neg c10] | skip); (first | rw [if_pos c11] | rw [if_neg c11] | skip); (first | rw [if_pos c12] | rw [if_neg c12] | skip); (first | rw [if_pos c14] | rw [if_neg c14] | skip); try with_reducible rfl) (by rw [k_iter, m_delStep]; (try dsimp only); (try rw [← e_Vy]); (try rw [← e_y1]); (try rw [← e_y2]); (try rw [m_part]); (try simp only [q1]); (first | rw [if_pos c5] | rw [if_neg c5] | skip); (first | rw [if_pos c6] | rw [if_neg c6] | skip); (first | rw [if_pos c9] | rw [if_neg c9] | skip); (first | rw [if_pos c10] | rw [if_neg c10] | skip); (first | rw [if_pos c11] | rw [if_neg c11] | skip); (first | rw [if_pos c12] | rw [if_neg c12] | skip); (first | rw [if_pos c14] | rw [if_neg c14] | skip); try with_reducible rfl) (by unfold m_moves; rw [w2_ne (by omega)]; exact h0y) _ _ _ hI (lv_sub hl [0, 4, 1, 5, 2, 6, 7, 8] rfl)
                        · refine lv_iload hx hb dX5_delivers_130 (lv_at hl 1 rfl) ?_
                          refine lv_goto (tgt := 136) hx hb dX5_delivers_132 (by decide) ?_
                          refine lv_iadd hx hb dX5_delivers_136 ?_
                          refine lv_istore (lv' := [(5, .int (y2 + (Vy 1 (24 + 2 * k2 + 1)))), (3, .int (y1 - (Vy 1 (24 + 2 * k2 + 1)))), (8, .int (Vy 1 (24 + 2 * k2 + 1))), (7, .int (nI k2)), (6, .int (nI k - 1)), (4, .int (nI g0)), (2, .int (nI i2)), (0, .ref (ad 7 0)), (1, .int x)]) hx hb dX5_delivers_137 hl (by decide) rfl (fun ls hl => ?_)
                          refine lv_iinc (v := nI (k2 + 1)) (lv' := [(7, .int (nI (k2 + 1))), (5, .int (y2 + (Vy 1 (24 + 2 * k2 + 1)))), (3, .int (y1 - (Vy 1 (24 + 2 * k2 + 1)))), (8, .int (Vy 1 (24 + 2 * k2 + 1))), (6, .int (nI k - 1)), (4, .int (nI g0)), (2, .int (nI i2)), (0, .ref (ad 7 0)), (1, .int x)]) hx hb dX5_delivers_139 hl (k := 3) rfl (nI_1 _) (by decide) rfl (fun ls hl => ?_)
                          refine lv_goto (tgt := 64) hx hb dX5_delivers_142 (by decide) ?_
                          exact ih64 (k2 + 1) _ _ _ (by omega) (by omega) (by rw [k_iter, m_delStep]; (try dsimp only); (try rw [← e_Vy]); (try rw [← e_y1]); (try rw [← e_y2]); (try rw [m_part]); (try simp only [q1]); (first | rw [if_pos c5] | rw [if_neg c5] | skip); (first | rw [if_pos c6] | rw [if_neg c6] | skip); (first | rw [if_pos c9] | rw [if_neg c9] | skip); (first | rw [if_pos c10] | rw [if_neg c10] | skip); (first | rw [if_pos c11] | rw [if_neg c11] | skip); (first | rw [if_pos c12] | rw [if_neg c12] | skip); (first | rw [if_pos c14] | rw [if_neg c14] | skip); try with_reducible rfl) (by rw [k_iter, m_delStep]; (try dsimp only); (try rw [← e_Vy]); (try rw [← e_y1]); (try rw [← e_y2]); (try rw [m_part]); (try simp only [q1]); (first | rw [if_pos c5] | rw [if_neg c5] | skip); (first | rw [if_pos c6] | rw [if_neg c6] | skip); (first | rw [if_pos c9] | rw [if_neg c9] | skip); (first | rw [if_pos c10] | rw [if_neg c10] | skip); (first | rw [if_pos c11] | rw [if_neg c11] | skip); (first | rw [if_pos c12] | rw [if_neg c12] | skip); (first | rw [if_pos c14] | rw [if_neg c14] | skip); try with_reducible rfl) (by rw [k_iter, m_delStep]; (try dsimp only); (try rw [← e_Vy]); (try rw [← e_y1]); (try rw [← e_y2]); (try rw [m_part]); (try simp only [q1]); (first | rw [if_pos c5] | rw [if_neg c5] | skip); (first | rw [if_pos c6] | rw [if_neg c6] | skip); (first | rw [if_pos c9] | rw [if_neg c9] | skip); (first | rw [if_pos c10] | rw [if_neg c10] | skip); (first | rw [if_pos c11] | rw [if_neg c11] | skip); (first | rw [if_pos c12] | rw [if_neg c12] | skip); (first | rw [if_pos c14] | rw [if_neg c14] | skip); try with_reducible rfl) (by unfold m_moves; rw [w2_ne (by omega)]; exact h0y) _ _ _ hI (lv_sub hl [0, 4, 1, 5, 2, 6, 7, 8] rfl)
                    · refine lv_iconst (v := 0) hx hb dX5_delivers_81 (by decide) ?_
                      refine lv_goto (tgt := 105) hx hb dX5_delivers_82 (by decide) ?_
                      refine lv_istore (lv' := [(8, .int 0), (7, .int (nI k2)), (6, .int (nI k - 1)), (5, .int y2), (4, .int (nI g0)), (3, .int y1), (2, .int (nI i2)), (0, .ref (ad 7 0)), (1, .int x)]) hx hb dX5_delivers_105 hl (by decide) rfl (fun ls hl => ?_)
                      refine lv_aload_n hx hb dX5_delivers_107 rfl (lv_at hl 7 rfl) ?_
                      refine lv_iload hx hb dX5_delivers_108 (lv_at hl 1 rfl) ?_
                      refine lv_iload hx hb dX5_delivers_110 (lv_at hl 0 rfl) ?_
                      refine lv_ineg hx hb dX5_delivers_112 ?_
                      refine g_callVv (rest := []) (c_X5_moves l D tb ad hj P M Vy k2 (-0) (by first | assumption | omega)) rfl rfl gm_X5_moves hx hb hml hown hts hC hI (by decide) (e_x g_us) rfl rfl qm_X5_75 rfl hl.1 rfl ⟨rfl, rfl, by decide, by decide⟩ (Nat.le_of_ble_eq_true rfl) ⟨Nat.zero_le _, Nat.zero_le _⟩ dX5_delivers_113 (fun H locs hI => ?_)
                      refine lv_iload_n hx hb dX5_delivers_116 rfl (lv_at hl 5 rfl) ?_
                      refine lv_iload hx hb dX5_delivers_117 (lv_at hl 0 rfl) ?_
                      refine lv_isub hx hb dX5_delivers_119 ?_
                      refine lv_istore_n (lv' := [(3, .int (y1 - 0)), (8, .int 0), (7, .int (nI k2)), (6, .int (nI k - 1)), (5, .int y2), (4, .int (nI g0)), (2, .int (nI i2)), (0, .ref (ad 7 0)), (1, .int x)]) hx hb dX5_delivers_120 rfl hl (by decide) rfl (fun ls hl => ?_)
                      refine lv_iload hx hb dX5_delivers_121 (lv_at hl 4 rfl) ?_
                      refine lv_iload hx hb dX5_delivers_123 (lv_at hl 3 rfl) ?_
                      refine lv_iload hx hb dX5_delivers_125 (lv_at hl 5 rfl) ?_
                      refine lv_icmp_ge (tgt := 135) hx hb dX5_delivers_127 (by decide) (fun c15 => ?_) (fun c15 => ?_)
                      · refine lv_iconst (v := 0) hx hb dX5_delivers_135 (by decide) ?_
                        refine lv_iadd hx hb dX5_delivers_136 ?_
                        refine lv_istore (lv' := [(5, .int (y2 + 0)), (3, .int (y1 - 0)), (8, .int 0), (7, .int (nI k2)), (6, .int (nI k - 1)), (4, .int (nI g0)), (2, .int (nI i2)), (0, .ref (ad 7 0)), (1, .int x)]) hx hb dX5_delivers_137 hl (by decide) rfl (fun ls hl => ?_)
                        refine lv_iinc (v := nI (k2 + 1)) (lv' := [(7, .int (nI (k2 + 1))), (5, .int (y2 + 0)), (3, .int (y1 - 0)), (8, .int 0), (6, .int (nI k - 1)), (4, .int (nI g0)), (2, .int (nI i2)), (0, .ref (ad 7 0)), (1, .int x)]) hx hb dX5_delivers_139 hl (k := 3) rfl (nI_1 _) (by decide) rfl (fun ls hl => ?_)
                        refine lv_goto (tgt := 64) hx hb dX5_delivers_142 (by decide) ?_
                        exact ih64 (k2 + 1) _ _ _ (by omega) (by omega) (by rw [k_iter, m_delStep]; (try dsimp only); (try rw [← e_Vy]); (try rw [← e_y1]); (try rw [← e_y2]); (try rw [m_part]); (try simp only [q1]); (first | rw [if_pos c5] | rw [if_neg c5] | skip); (first | rw [if_pos c6] | rw [if_neg c6] | skip); (first | rw [if_pos c9] | rw [if_neg c9] | skip); (first | rw [if_pos c10] | rw [if_neg c10] | skip); (first | rw [if_pos c11] | rw [if_neg c11] | skip); (first | rw [if_pos c15] | rw [if_neg c15] | skip); try with_reducible rfl) (by rw [k_iter, m_delStep]; (try dsimp only); (try rw [← e_Vy]); (try rw [← e_y1]); (try rw [← e_y2]); (try rw [m_part]); (try simp only [q1]); (first | rw [if_pos c5] | rw [if_neg c5] | skip); (first | rw [if_pos c6] | rw [if_neg c6] | skip); (first | rw [if_pos c9] | rw [if_neg c9] | skip); (first | rw [if_pos c10] | rw [if_neg c10] | skip); (first | rw [if_pos c11] | rw [if_neg c11] | skip); (first | rw [if_pos c15] | rw [if_neg c15] | skip); try with_reducible rfl) (by rw [k_iter, m_delStep]; (try dsimp only); (try rw [← e_Vy]); (try rw [← e_y1]); (try rw [← e_y2]); (try rw [m_part]); (try simp only [q1]); (first | rw [if_pos c5] | rw [if_neg c5] | skip); (first | rw [if_pos c6] | rw [if_neg c6] | skip); (first | rw [if_pos c9] | rw [if_neg c9] | skip); (first | rw [if_pos c10] | rw [if_neg c10] | skip); (first | rw [if_pos c11] | rw [if_neg c11] | skip); (first | rw [if_pos c15] | rw [if_neg c15] | skip); try with_reducible rfl) (by unfold m_moves; rw [w2_ne (by omega)]; exact h0y) _ _ _ hI (lv_sub hl [0, 4, 1, 5, 2, 6, 7, 8] rfl)
                      · refine lv_iload hx hb dX5_delivers_130 (lv_at hl 1 rfl) ?_
                        refine lv_goto (tgt := 136) hx hb dX5_delivers_132 (by decide) ?_
                        refine lv_iadd hx hb dX5_delivers_136 ?_
                        refine lv_istore (lv' := [(5, .int (y2 + 0)), (3, .int (y1 - 0)), (8, .int 0), (7, .int (nI k2)), (6, .int (nI k - 1)), (4, .int (nI g0)), (2, .int (nI i2)), (0, .ref (ad 7 0)), (1, .int x)]) hx hb dX5_delivers_137 hl (by decide) rfl (fun ls hl => ?_)
                        refine lv_iinc (v := nI (k2 + 1)) (lv' := [(7, .int (nI (k2 + 1))), (5, .int (y2 + 0)), (3, .int (y1 - 0)), (8, .int 0), (6, .int (nI k - 1)), (4, .int (nI g0)), (2, .int (nI i2)), (0, .ref (ad 7 0)), (1, .int x)]) hx hb dX5_delivers_139 hl (k := 3) rfl (nI_1 _) (by decide) rfl (fun ls hl => ?_)
                        refine lv_goto (tgt := 64) hx hb dX5_delivers_142 (by decide) ?_
                        exact ih64 (k2 + 1) _ _ _ (by omega) (by omega) (by rw [k_iter, m_delStep]; (try dsimp only); (try rw [← e_Vy]); (try rw [← e_y1]); (try rw [← e_y2]); (try rw [m_part]); (try simp only [q1]); (first | rw [if_pos c5] | rw [if_neg c5] | skip); (first | rw [if_pos c6] | rw [if_neg c6] | skip); (first | rw [if_pos c9] | rw [if_neg c9] | skip); (first | rw [if_pos c10] | rw [if_neg c10] | skip); (first | rw [if_pos c11] | rw [if_neg c11] | skip); (first | rw [if_pos c15] | rw [if_neg c15] | skip); try with_reducible rfl) (by rw [k_iter, m_delStep]; (try dsimp only); (try rw [← e_Vy]); (try rw [← e_y1]); (try rw [← e_y2]); (try rw [m_part]); (try simp only [q1]); (first | rw [if_pos c5] | rw [if_neg c5] | skip); (first | rw [if_pos c6] | rw [if_neg c6] | skip); (first | rw [if_pos c9] | rw [if_neg c9] | skip); (first | rw [if_pos c10] | rw [if_neg c10] | skip); (first | rw [if_pos c11] | rw [if_neg c11] | skip); (first | rw [if_pos c15] | rw [if_neg c15] | skip); try with_reducible rfl) (by rw [k_iter, m_delStep]; (try dsimp only); (try rw [← e_Vy]); (try rw [← e_y1]); (try rw [← e_y2]); (try rw [m_part]); (try simp only [q1]); (first | rw [if_pos c5] | rw [if_neg c5] | skip); (first | rw [if_pos c6] | rw [if_neg c6] | skip); (first | rw [if_pos c9] | rw [if_neg c9] | skip); (first | rw [if_pos c10] | rw [if_neg c10] | skip); (first | rw [if_pos c11] | rw [if_neg c11] | skip); (first | rw [if_pos c15] | rw [if_neg c15] | skip); try with_reducible rfl) (by unfold m_moves; rw [w2_ne (by omega)]; exact h0y) _ _ _ hI (lv_sub hl [0, 4, 1, 5, 2, 6, 7, 8] rfl)
              exact lp64 (5 + 1) 0 _ _ _ (by omega) (by omega) rfl rfl rfl h0 _ _ _ hI (lv_sub hl [0, 1, 2, 3, 4, 5, 6, 7] rfl)
        exact lp56 (g0 + 2) (g0 + 1) (g_w2 V 1 4 (V 1 4 + V 1 (34 + 7 * i2 + 3))) (V 1 (34 + 7 * i2 + 3)) 0 (by omega) (by omega)  rfl (by rw [w2_ne (by omega)]; exact hn.1) _ _ _ hI (lv_sub hl [0, 1, 2, 3, 4, 5, 6] rfl)
    · exact absurd (nI_pos' (by omega)) c5
