abbrev rm_X2_doOrder : Room := { frames := 4, cells := 0, slots := 0, locals := 89 }
set_option maxHeartbeats 800000 in
set_option maxRecDepth 100000 in
theorem c_X2_doOrder (l : Launch) (D : va_G) (tb : g_T) (ad : g_Ad) (hj : g_inj ad) (P : g_P) (M : g_M) (st : Nat) (hst : st < 6) (x : Int32) (G : g_V) (hG : M 6 = G) (Z : g_V) (hW : M st = Z) (hRg : q_okR Z) : g_Ci l yX2_doOrder cX2_doOrder 3 (some .int) rm_X2_doOrder D tb ad [.ref (ad 6 1), .ref (ad st 0), .int x] P (M) ((q_doOrder Z G x).1) P (va_up M st ((q_doOrder Z G x).2)) := by
  refine g_go (by decide) (Nat.le_of_ble_eq_true rfl) hj ?_
  intro p e s m below meth c ls H locs R args Q hR0 hQ hx hb hml hr0 hlk hown hts hC hI hl
  subst hR0
  have hown : s.vm.findClass RX2 = some m.cls := hown
  have hl : lv_has ls 3 [(0, .ref (ad 6 1)), (1, .ref (ad st 0)), (2, .int x)] := hl
  refine lv_iload_n hx hb dX2_doOrder_0 rfl (lv_at hl 2 rfl) ?_
  by_cases c1 : x = 99
  · refine lv_tableIn (tgt := 151) hx hb dX2_doOrder_1 (by rw [c1]; decide) (by rw [c1]; decide) (by rw [c1]; rfl) (by decide) ?_
    refine lv_aload_n hx hb dX2_doOrder_151 rfl (lv_at hl 1 rfl) ?_
    refine lv_aload_n hx hb dX2_doOrder_152 rfl (lv_at hl 0 rfl) ?_
    refine g_get 1 hx hb hts hown hC hI i_X2 (by decide) (e_sc hG) rfl (by decide) qf_X2_15 rfl rfl dX2_doOrder_153 ?_
    refine lv_iconst (v := 0) hx hb dX2_doOrder_156 (by decide) ?_
    refine g_iald 0 hx hb hC hI (by decide) (e_nu hG) (by unfold vp_in; decide) rfl dX2_doOrder_157 ?_
    refine g_callVi (rest := []) (c_X3_callLoans l D tb ad hj P M st hst Z (G 3 0)) rfl (k_eta hW) gm_X3_callLoans hx hb hml hown hts hC hI (ok_c 0 hst (by decide)) (e_st hst hW) rfl rfl qm_X2_73 rfl hl.1 rfl ⟨rfl, rfl, by decide, by decide⟩ (Nat.le_of_ble_eq_true rfl) ⟨Nat.zero_le _, Nat.zero_le _⟩ dX2_doOrder_158 (fun H locs hI => ?_)
    exact g_ir hQ hx hb hr0 hlk hC hI dX2_doOrder_161 rfl (by simp [q_doOrder, c1]) rfl (by first | (simp [q_doOrder, c1]; done) | (simp only [q_doOrder, c1]; exact (k_eta hW).symm) | simp [q_doOrder, c1, k_eta hW])
  by_cases c2 : x = 100
  · refine lv_tableIn (tgt := 162) hx hb dX2_doOrder_1 (by rw [c2]; decide) (by rw [c2]; decide) (by rw [c2]; rfl) (by decide) ?_
    refine lv_aload_n hx hb dX2_doOrder_162 rfl (lv_at hl 1 rfl) ?_
    refine lv_aload_n hx hb dX2_doOrder_163 rfl (lv_at hl 0 rfl) ?_
    refine g_get 1 hx hb hts hown hC hI i_X2 (by decide) (e_sc hG) rfl (by decide) qf_X2_15 rfl rfl dX2_doOrder_164 ?_
    refine lv_iconst (v := 0) hx hb dX2_doOrder_167 (by decide) ?_
    refine g_iald 0 hx hb hC hI (by decide) (e_nu hG) (by unfold vp_in; decide) rfl dX2_doOrder_168 ?_
    refine g_callVi (rest := []) (c_X3_deliverGrain l D tb ad hj P M st hst Z (G 3 0) (by first | assumption | omega)) rfl (k_eta hW) gm_X3_deliverGrain hx hb hml hown hts hC hI (ok_c 0 hst (by decide)) (e_st hst hW) rfl rfl qm_X2_77 rfl hl.1 rfl ⟨rfl, rfl, by decide, by decide⟩ (Nat.le_of_ble_eq_true rfl) ⟨Nat.zero_le _, Nat.zero_le _⟩ dX2_doOrder_169 (fun H locs hI => ?_)
    exact g_ir hQ hx hb hr0 hlk hC hI dX2_doOrder_172 rfl (by simp [q_doOrder, c1, c2]) rfl (by first | (simp [q_doOrder, c1, c2]; done) | (simp only [q_doOrder, c1, c2]; exact (k_eta hW).symm) | simp [q_doOrder, c1, c2, k_eta hW])
  by_cases c3 : x = 101
  · refine lv_tableIn (tgt := 184) hx hb dX2_doOrder_1 (by rw [c3]; decide) (by rw [c3]; decide) (by rw [c3]; rfl) (by decide) ?_
    refine lv_ldc (v := (-2000000001)) hx hb hown (hts _ qc_X2_19) dX2_doOrder_184 ?_
    exact g_ir hQ hx hb hr0 hlk hC hI dX2_doOrder_186 rfl (by simp [q_doOrder, c1, c2, c3]) rfl (by first | (simp [q_doOrder, c1, c2, c3]; done) | (simp only [q_doOrder, c1, c2, c3]; exact (k_eta hW).symm) | simp [q_doOrder, c1, c2, c3, k_eta hW])
  by_cases c4 : x = 102
  · refine lv_tableIn (tgt := 184) hx hb dX2_doOrder_1 (by rw [c4]; decide) (by rw [c4]; decide) (by rw [c4]; rfl) (by decide) ?_
    refine lv_ldc (v := (-2000000001)) hx hb hown (hts _ qc_X2_19) dX2_doOrder_184 ?_
    exact g_ir hQ hx hb hr0 hlk hC hI dX2_doOrder_186 rfl (by simp [q_doOrder, c1, c2, c3, c4]) rfl (by first | (simp [q_doOrder, c1, c2, c3, c4]; done) | (simp only [q_doOrder, c1, c2, c3, c4]; exact (k_eta hW).symm) | simp [q_doOrder, c1, c2, c3, c4, k_eta hW])
  by_cases c5 : x = 103
  · refine lv_tableIn (tgt := 184) hx hb dX2_doOrder_1 (by rw [c5]; decide) (by rw [c5]; decide) (by rw [c5]; rfl) (by decide) ?_
    refine lv_ldc (v := (-2000000001)) hx hb hown (hts _ qc_X2_19) dX2_doOrder_184 ?_
    exact g_ir hQ hx hb hr0 hlk hC hI dX2_doOrder_186 rfl (by simp [q_doOrder, c1, c2, c3, c4, c5]) rfl (by first | (simp [q_doOrder, c1, c2, c3, c4, c5]; done) | (simp only [q_doOrder, c1, c2, c3, c4, c5]; exact (k_eta hW).symm) | simp [q_doOrder, c1, c2, c3, c4, c5, k_eta hW])
  by_cases c6 : x = 104
  · refine lv_tableIn (tgt := 184) hx hb dX2_doOrder_1 (by rw [c6]; decide) (by rw [c6]; decide) (by rw [c6]; rfl) (by decide) ?_
    refine lv_ldc (v := (-2000000001)) hx hb hown (hts _ qc_X2_19) dX2_doOrder_184 ?_
    exact g_ir hQ hx hb hr0 hlk hC hI dX2_doOrder_186 rfl (by simp [q_doOrder, c1, c2, c3, c4, c5, c6]) rfl (by first | (simp [q_doOrder, c1, c2, c3, c4, c5, c6]; done) | (simp only [q_doOrder, c1, c2, c3, c4, c5, c6]; exact (k_eta hW).symm) | simp [q_doOrder, c1, c2, c3, c4, c5, c6, k_eta hW])
  by_cases c7 : x = 105
  · refine lv_tableIn (tgt := 184) hx hb dX2_doOrder_1 (by rw [c7]; decide) (by rw [c7]; decide) (by rw [c7]; rfl) (by decide) ?_
    refine lv_ldc (v := (-2000000001)) hx hb hown (hts _ qc_X2_19) dX2_doOrder_184 ?_
    exact g_ir hQ hx hb hr0 hlk hC hI dX2_doOrder_186 rfl (by simp [q_doOrder, c1, c2, c3, c4, c5, c6, c7]) rfl (by first | (simp [q_doOrder, c1, c2, c3, c4, c5, c6, c7]; done) | (simp only [q_doOrder, c1, c2, c3, c4, c5, c6, c7]; exact (k_eta hW).symm) | simp [q_doOrder, c1, c2, c3, c4, c5, c6, c7, k_eta hW])
  by_cases c8 : x = 106
  · refine lv_tableIn (tgt := 184) hx hb dX2_doOrder_1 (by rw [c8]; decide) (by rw [c8]; decide) (by rw [c8]; rfl) (by decide) ?_
    refine lv_ldc (v := (-2000000001)) hx hb hown (hts _ qc_X2_19) dX2_doOrder_184 ?_
    exact g_ir hQ hx hb hr0 hlk hC hI dX2_doOrder_186 rfl (by simp [q_doOrder, c1, c2, c3, c4, c5, c6, c7, c8]) rfl (by first | (simp [q_doOrder, c1, c2, c3, c4, c5, c6, c7, c8]; done) | (simp only [q_doOrder, c1, c2, c3, c4, c5, c6, c7, c8]; exact (k_eta hW).symm) | simp [q_doOrder, c1, c2, c3, c4, c5, c6, c7, c8, k_eta hW])
  by_cases c9 : x = 107
  · refine lv_tableIn (tgt := 184) hx hb dX2_doOrder_1 (by rw [c9]; decide) (by rw [c9]; decide) (by rw [c9]; rfl) (by decide) ?_
    refine lv_ldc (v := (-2000000001)) hx hb hown (hts _ qc_X2_19) dX2_doOrder_184 ?_
    exact g_ir hQ hx hb hr0 hlk hC hI dX2_doOrder_186 rfl (by simp [q_doOrder, c1, c2, c3, c4, c5, c6, c7, c8, c9]) rfl (by first | (simp [q_doOrder, c1, c2, c3, c4, c5, c6, c7, c8, c9]; done) | (simp only [q_doOrder, c1, c2, c3, c4, c5, c6, c7, c8, c9]; exact (k_eta hW).symm) | simp [q_doOrder, c1, c2, c3, c4, c5, c6, c7, c8, c9, k_eta hW])
  by_cases c10 : x = 108
  · refine lv_tableIn (tgt := 111) hx hb dX2_doOrder_1 (by rw [c10]; decide) (by rw [c10]; decide) (by rw [c10]; rfl) (by decide) ?_
    refine lv_aload_n hx hb dX2_doOrder_111 rfl (lv_at hl 1 rfl) ?_
    refine lv_aload_n hx hb dX2_doOrder_112 rfl (lv_at hl 0 rfl) ?_
    refine g_get 1 hx hb hts hown hC hI i_X2 (by decide) (e_sc hG) rfl (by decide) qf_X2_15 rfl rfl dX2_doOrder_113 ?_
    refine lv_iconst (v := 0) hx hb dX2_doOrder_116 (by decide) ?_
    refine g_iald 0 hx hb hC hI (by decide) (e_nu hG) (by unfold vp_in; decide) rfl dX2_doOrder_117 ?_
    refine lv_aload_n hx hb dX2_doOrder_118 rfl (lv_at hl 0 rfl) ?_
    refine g_get 1 hx hb hts hown hC hI i_X2 (by decide) (e_sc hG) rfl (by decide) qf_X2_15 rfl rfl dX2_doOrder_119 ?_
    refine lv_iconst (v := 1) hx hb dX2_doOrder_122 (by decide) ?_
    refine g_iald 1 hx hb hC hI (by decide) (e_nu hG) (by unfold vp_in; decide) rfl dX2_doOrder_123 ?_
    refine lv_aload_n hx hb dX2_doOrder_124 rfl (lv_at hl 0 rfl) ?_
    refine g_get 1 hx hb hts hown hC hI i_X2 (by decide) (e_sc hG) rfl (by decide) qf_X2_15 rfl rfl dX2_doOrder_125 ?_
    refine lv_iconst (v := 2) hx hb dX2_doOrder_128 (by decide) ?_
    refine g_iald 2 hx hb hC hI (by decide) (e_nu hG) (by unfold vp_in; decide) rfl dX2_doOrder_129 ?_
    refine g_callVi (rest := []) (c_X3_pledgeTo l D tb ad hj P M st hst Z (G 3 0) (G 3 1) (G 3 2)) rfl (k_eta hW) gm_X3_pledgeTo hx hb hml hown hts hC hI (ok_c 0 hst (by decide)) (e_st hst hW) rfl rfl qm_X2_66 rfl hl.1 rfl ⟨rfl, rfl, by decide, by decide⟩ (Nat.le_of_ble_eq_true rfl) ⟨Nat.zero_le _, Nat.zero_le _⟩ dX2_doOrder_130 (fun H locs hI => ?_)
    exact g_ir hQ hx hb hr0 hlk hC hI dX2_doOrder_133 rfl (by simp [q_doOrder, c1, c2, c3, c4, c5, c6, c7, c8, c9, c10]) rfl (by first | (simp [q_doOrder, c1, c2, c3, c4, c5, c6, c7, c8, c9, c10]; done) | (simp only [q_doOrder, c1, c2, c3, c4, c5, c6, c7, c8, c9, c10]; exact (k_eta hW).symm) | simp [q_doOrder, c1, c2, c3, c4, c5, c6, c7, c8, c9, c10, k_eta hW])
  by_cases c11 : x = 109
  · refine lv_tableIn (tgt := 184) hx hb dX2_doOrder_1 (by rw [c11]; decide) (by rw [c11]; decide) (by rw [c11]; rfl) (by decide) ?_
    refine lv_ldc (v := (-2000000001)) hx hb hown (hts _ qc_X2_19) dX2_doOrder_184 ?_
    exact g_ir hQ hx hb hr0 hlk hC hI dX2_doOrder_186 rfl (by simp [q_doOrder, c1, c2, c3, c4, c5, c6, c7, c8, c9, c10, c11]) rfl (by first | (simp [q_doOrder, c1, c2, c3, c4, c5, c6, c7, c8, c9, c10, c11]; done) | (simp only [q_doOrder, c1, c2, c3, c4, c5, c6, c7, c8, c9, c10, c11]; exact (k_eta hW).symm) | simp [q_doOrder, c1, c2, c3, c4, c5, c6, c7, c8, c9, c10, c11, k_eta hW])
  by_cases c12 : x = 110
  · refine lv_tableIn (tgt := 184) hx hb dX2_doOrder_1 (by rw [c12]; decide) (by rw [c12]; decide) (by rw [c12]; rfl) (by decide) ?_
    refine lv_ldc (v := (-2000000001)) hx hb hown (hts _ qc_X2_19) dX2_doOrder_184 ?_
    exact g_ir hQ hx hb hr0 hlk hC hI dX2_doOrder_186 rfl (by simp [q_doOrder, c1, c2, c3, c4, c5, c6, c7, c8, c9, c10, c11, c12]) rfl (by first | (simp [q_doOrder, c1, c2, c3, c4, c5, c6, c7, c8, c9, c10, c11, c12]; done) | (simp only [q_doOrder, c1, c2, c3, c4, c5, c6, c7, c8, c9, c10, c11, c12]; exact (k_eta hW).symm) | simp [q_doOrder, c1, c2, c3, c4, c5, c6, c7, c8, c9, c10, c11, c12, k_eta hW])
  by_cases c13 : x = 111
  · refine lv_tableIn (tgt := 184) hx hb dX2_doOrder_1 (by rw [c13]; decide) (by rw [c13]; decide) (by rw [c13]; rfl) (by decide) ?_
    refine lv_ldc (v := (-2000000001)) hx hb hown (hts _ qc_X2_19) dX2_doOrder_184 ?_
    exact g_ir hQ hx hb hr0 hlk hC hI dX2_doOrder_186 rfl (by simp [q_doOrder, c1, c2, c3, c4, c5, c6, c7, c8, c9, c10, c11, c12, c13]) rfl (by first | (simp [q_doOrder, c1, c2, c3, c4, c5, c6, c7, c8, c9, c10, c11, c12, c13]; done) | (simp only [q_doOrder, c1, c2, c3, c4, c5, c6, c7, c8, c9, c10, c11, c12, c13]; exact (k_eta hW).symm) | simp [q_doOrder, c1, c2, c3, c4, c5, c6, c7, c8, c9, c10, c11, c12, c13, k_eta hW])
  by_cases c14 : x = 112
  · refine lv_tableIn (tgt := 134) hx hb dX2_doOrder_1 (by rw [c14]; decide) (by rw [c14]; decide) (by rw [c14]; rfl) (by decide) ?_
    refine lv_aload_n hx hb dX2_doOrder_134 rfl (lv_at hl 1 rfl) ?_
    refine lv_aload_n hx hb dX2_doOrder_135 rfl (lv_at hl 0 rfl) ?_
    refine g_get 1 hx hb hts hown hC hI i_X2 (by decide) (e_sc hG) rfl (by decide) qf_X2_15 rfl rfl dX2_doOrder_136 ?_
    refine lv_iconst (v := 0) hx hb dX2_doOrder_139 (by decide) ?_
    refine g_iald 0 hx hb hC hI (by decide) (e_nu hG) (by unfold vp_in; decide) rfl dX2_doOrder_140 ?_
    refine lv_aload_n hx hb dX2_doOrder_141 rfl (lv_at hl 0 rfl) ?_
    refine g_get 1 hx hb hts hown hC hI i_X2 (by decide) (e_sc hG) rfl (by decide) qf_X2_15 rfl rfl dX2_doOrder_142 ?_
    refine lv_iconst (v := 1) hx hb dX2_doOrder_145 (by decide) ?_
    refine g_iald 1 hx hb hC hI (by decide) (e_nu hG) (by unfold vp_in; decide) rfl dX2_doOrder_146 ?_
    refine g_callVi (rest := []) (c_X3_changePrice l D tb ad hj P M st hst Z (G 3 0) (G 3 1)) rfl (k_eta hW) gm_X3_changePrice hx hb hml hown hts hC hI (ok_c 0 hst (by decide)) (e_st hst hW) rfl rfl qm_X2_69 rfl hl.1 rfl ⟨rfl, rfl, by decide, by decide⟩ (Nat.le_of_ble_eq_true rfl) ⟨Nat.zero_le _, Nat.zero_le _⟩ dX2_doOrder_147 (fun H locs hI => ?_)
    exact g_ir hQ hx hb hr0 hlk hC hI dX2_doOrder_150 rfl (by simp [q_doOrder, c1, c2, c3, c4, c5, c6, c7, c8, c9, c10, c11, c12, c13, c14]) rfl (by first | (simp [q_doOrder, c1, c2, c3, c4, c5, c6, c7, c8, c9, c10, c11, c12, c13, c14]; done) | (simp only [q_doOrder, c1, c2, c3, c4, c5, c6, c7, c8, c9, c10, c11, c12, c13, c14]; exact (k_eta hW).symm) | simp [q_doOrder, c1, c2, c3, c4, c5, c6, c7, c8, c9, c10, c11, c12, c13, c14, k_eta hW])
  by_cases c15 : x = 113
  · refine lv_tableIn (tgt := 184) hx hb dX2_doOrder_1 (by rw [c15]; decide) (by rw [c15]; decide) (by rw [c15]; rfl) (by decide) ?_
    refine lv_ldc (v := (-2000000001)) hx hb hown (hts _ qc_X2_19) dX2_doOrder_184 ?_
    exact g_ir hQ hx hb hr0 hlk hC hI dX2_doOrder_186 rfl (by simp [q_doOrder, c1, c2, c3, c4, c5, c6, c7, c8, c9, c10, c11, c12, c13, c14, c15]) rfl (by first | (simp [q_doOrder, c1, c2, c3, c4, c5, c6, c7, c8, c9, c10, c11, c12, c13, c14, c15]; done) | (simp only [q_doOrder, c1, c2, c3, c4, c5, c6, c7, c8, c9, c10, c11, c12, c13, c14, c15]; exact (k_eta hW).symm) | simp [q_doOrder, c1, c2, c3, c4, c5, c6, c7, c8, c9, c10, c11, c12, c13, c14, c15, k_eta hW])
  by_cases c16 : x = 114
  · refine lv_tableIn (tgt := 184) hx hb dX2_doOrder_1 (by rw [c16]; decide) (by rw [c16]; decide) (by rw [c16]; rfl) (by decide) ?_
    refine lv_ldc (v := (-2000000001)) hx hb hown (hts _ qc_X2_19) dX2_doOrder_184 ?_
    exact g_ir hQ hx hb hr0 hlk hC hI dX2_doOrder_186 rfl (by simp [q_doOrder, c1, c2, c3, c4, c5, c6, c7, c8, c9, c10, c11, c12, c13, c14, c15, c16]) rfl (by first | (simp [q_doOrder, c1, c2, c3, c4, c5, c6, c7, c8, c9, c10, c11, c12, c13, c14, c15, c16]; done) | (simp only [q_doOrder, c1, c2, c3, c4, c5, c6, c7, c8, c9, c10, c11, c12, c13, c14, c15, c16]; exact (k_eta hW).symm) | simp [q_doOrder, c1, c2, c3, c4, c5, c6, c7, c8, c9, c10, c11, c12, c13, c14, c15, c16, k_eta hW])
  by_cases c17 : x = 115
  · refine lv_tableIn (tgt := 88) hx hb dX2_doOrder_1 (by rw [c17]; decide) (by rw [c17]; decide) (by rw [c17]; rfl) (by decide) ?_
    refine lv_aload_n hx hb dX2_doOrder_88 rfl (lv_at hl 1 rfl) ?_
    refine lv_aload_n hx hb dX2_doOrder_89 rfl (lv_at hl 0 rfl) ?_
    refine g_get 1 hx hb hts hown hC hI i_X2 (by decide) (e_sc hG) rfl (by decide) qf_X2_15 rfl rfl dX2_doOrder_90 ?_
    refine lv_iconst (v := 0) hx hb dX2_doOrder_93 (by decide) ?_
    refine g_iald 0 hx hb hC hI (by decide) (e_nu hG) (by unfold vp_in; decide) rfl dX2_doOrder_94 ?_
    refine lv_aload_n hx hb dX2_doOrder_95 rfl (lv_at hl 0 rfl) ?_
    refine g_get 1 hx hb hts hown hC hI i_X2 (by decide) (e_sc hG) rfl (by decide) qf_X2_15 rfl rfl dX2_doOrder_96 ?_
    refine lv_iconst (v := 1) hx hb dX2_doOrder_99 (by decide) ?_
    refine g_iald 1 hx hb hC hI (by decide) (e_nu hG) (by unfold vp_in; decide) rfl dX2_doOrder_100 ?_
    refine lv_aload_n hx hb dX2_doOrder_101 rfl (lv_at hl 0 rfl) ?_
    refine g_get 1 hx hb hts hown hC hI i_X2 (by decide) (e_sc hG) rfl (by decide) qf_X2_15 rfl rfl dX2_doOrder_102 ?_
    refine lv_iconst (v := 2) hx hb dX2_doOrder_105 (by decide) ?_
    refine g_iald 2 hx hb hC hI (by decide) (e_nu hG) (by unfold vp_in; decide) rfl dX2_doOrder_106 ?_
    refine g_callVi (rest := []) (c_X3_storeGrain l D tb ad hj P M st hst Z (G 3 0) (G 3 1) (G 3 2)) rfl (k_eta hW) gm_X3_storeGrain hx hb hml hown hts hC hI (ok_c 0 hst (by decide)) (e_st hst hW) rfl rfl qm_X2_60 rfl hl.1 rfl ⟨rfl, rfl, by decide, by decide⟩ (Nat.le_of_ble_eq_true rfl) ⟨Nat.zero_le _, Nat.zero_le _⟩ dX2_doOrder_107 (fun H locs hI => ?_)
    exact g_ir hQ hx hb hr0 hlk hC hI dX2_doOrder_110 rfl (by simp [q_doOrder, c1, c2, c3, c4, c5, c6, c7, c8, c9, c10, c11, c12, c13, c14, c15, c16, c17]) rfl (by first | (simp [q_doOrder, c1, c2, c3, c4, c5, c6, c7, c8, c9, c10, c11, c12, c13, c14, c15, c16, c17]; done) | (simp only [q_doOrder, c1, c2, c3, c4, c5, c6, c7, c8, c9, c10, c11, c12, c13, c14, c15, c16, c17]; exact (k_eta hW).symm) | simp [q_doOrder, c1, c2, c3, c4, c5, c6, c7, c8, c9, c10, c11, c12, c13, c14, c15, c16, c17, k_eta hW])
  by_cases c18 : x = 116
  · refine lv_tableIn (tgt := 173) hx hb dX2_doOrder_1 (by rw [c18]; decide) (by rw [c18]; decide) (by rw [c18]; rfl) (by decide) ?_
    refine lv_aload_n hx hb dX2_doOrder_173 rfl (lv_at hl 1 rfl) ?_
    refine lv_aload_n hx hb dX2_doOrder_174 rfl (lv_at hl 0 rfl) ?_
    refine g_get 1 hx hb hts hown hC hI i_X2 (by decide) (e_sc hG) rfl (by decide) qf_X2_15 rfl rfl dX2_doOrder_175 ?_
    refine lv_iconst (v := 0) hx hb dX2_doOrder_178 (by decide) ?_
    refine g_iald 0 hx hb hC hI (by decide) (e_nu hG) (by unfold vp_in; decide) rfl dX2_doOrder_179 ?_
    refine g_callVi (rest := []) (c_X3_passDays l D tb ad hj P M st hst Z (G 3 0)) rfl (k_eta hW) gm_X3_passDays hx hb hml hown hts hC hI (ok_c 0 hst (by decide)) (e_st hst hW) rfl rfl qm_X2_80 rfl hl.1 rfl ⟨rfl, rfl, by decide, by decide⟩ (Nat.le_of_ble_eq_true rfl) ⟨Nat.zero_le _, Nat.zero_le _⟩ dX2_doOrder_180 (fun H locs hI => ?_)
    exact g_ir hQ hx hb hr0 hlk hC hI dX2_doOrder_183 rfl (by simp [q_doOrder, c1, c2, c3, c4, c5, c6, c7, c8, c9, c10, c11, c12, c13, c14, c15, c16, c17, c18]) rfl (by first | (simp [q_doOrder, c1, c2, c3, c4, c5, c6, c7, c8, c9, c10, c11, c12, c13, c14, c15, c16, c17, c18]; done) | (simp only [q_doOrder, c1, c2, c3, c4, c5, c6, c7, c8, c9, c10, c11, c12, c13, c14, c15, c16, c17, c18]; exact (k_eta hW).symm) | simp [q_doOrder, c1, c2, c3, c4, c5, c6, c7, c8, c9, c10, c11, c12, c13, c14, c15, c16, c17, c18, k_eta hW])
  refine lv_tableOut (tgt := 184) hx hb dX2_doOrder_1 (by have c1i := k_ti c1 (k := 99) rfl; have c2i := k_ti c2 (k := 100) rfl; have c3i := k_ti c3 (k := 101) rfl; have c4i := k_ti c4 (k := 102) rfl; have c5i := k_ti c5 (k := 103) rfl; have c6i := k_ti c6 (k := 104) rfl; have c7i := k_ti c7 (k := 105) rfl; have c8i := k_ti c8 (k := 106) rfl; have c9i := k_ti c9 (k := 107) rfl; have c10i := k_ti c10 (k := 108) rfl; have c11i := k_ti c11 (k := 109) rfl; have c12i := k_ti c12 (k := 110) rfl; have c13i := k_ti c13 (k := 111) rfl; have c14i := k_ti c14 (k := 112) rfl; have c15i := k_ti c15 (k := 113) rfl; have c16i := k_ti c16 (k := 114) rfl; have c17i := k_ti c17 (k := 115) rfl; have c18i := k_ti c18 (k := 116) rfl; omega) (by decide) ?_
  refine lv_ldc (v := (-2000000001)) hx hb hown (hts _ qc_X2_19) dX2_doOrder_184 ?_
  exact g_ir hQ hx hb hr0 hlk hC hI dX2_doOrder_186 rfl (by simp [q_doOrder, c1, c2, c3, c4, c5, c6, c7, c8, c9, c10, c11, c12, c13, c14, c15, c16, c17, c18]) rfl (by first | (simp [q_doOrder, c1, c2, c3, c4, c5, c6, c7, c8, c9, c10, c11, c12, c13, c14, c15, c16, c17, c18]; done) | (simp only [q_doOrder, c1, c2, c3, c4, c5, c6, c7, c8, c9, c10, c11, c12, c13, c14, c15, c16, c17, c18]; exact (k_eta hW).symm) | simp [q_doOrder, c1, c2, c3, c4, c5, c6, c7, c8, c9, c10, c11, c12, c13, c14, c15, c16, c17, c18, k_eta hW])
abbrev rm_X2_doOrders : Room := { frames := 5, cells := 0, slots := 0, locals := 111 }
set_option maxHeartbeats 800000 in
set_option maxRecDepth 100000 in
theorem c_X2_doOrders (l : Launch) (D : va_G) (tb : g_T) (ad : g_Ad) (hj : g_inj ad) (P : g_P) (M : g_M) (st : Nat) (hst : st < 6) (G : g_V) (hG : M 6 = G) (Z : g_V) (hW : M st = Z) (J : g_V → Prop) (hJ1 : ∀ U, J U → q_okR U) (hJ2 : ∀ U F x, J U → J (q_doOrder U F x).2) (hJ : J Z) (hCh : q_okC G) : g_Cv l yX2_doOrders cX2_doOrders 5 none rm_X2_doOrders D tb ad [.ref (ad 6 1), .ref (ad st 0)] P (M) P (va_up (va_up M st ((q_orders Z G).2)) 6 ((q_orders Z G).1)) := by
  refine g_go (by decide) (Nat.le_of_ble_eq_true rfl) hj ?_
  intro p e s m below meth c ls H locs R args Q hR0 hQ hx hb hml hr0 hlk hown hts hC hI hl
  subst hR0
  have hown : s.vm.findClass RX2 = some m.cls := hown
  have hl : lv_has ls 5 [(0, .ref (ad 6 1)), (1, .ref (ad st 0))] := hl
  refine lv_aload_n hx hb dX2_doOrders_0 rfl (lv_at hl 0 rfl) ?_
  refine lv_iconst (v := 0) hx hb dX2_doOrders_1 (by decide) ?_
  rw [← k_eta (M := M) hG] at hI
  refine g_put 4 (ty := .int) hx hb hts hown hC hI i_X2 tyX2_ok nmX2 (by decide) (e_sc g_us) rfl (by decide) qf_X2_25 rfl rfl rfl rfl rfl (Nat.le_of_ble_eq_true rfl) (p_sc (by decide)) g_hs dX2_doOrders_2 (fun H locs hI => ?_)
  refine lv_aload_n hx hb dX2_doOrders_5 rfl (lv_at hl 0 rfl) ?_
  refine lv_iconst (v := 0) hx hb dX2_doOrders_6 (by decide) ?_
  refine g_put 6 (ty := .int) hx hb hts hown hC hI i_X2 tyX2_ok nmX2 (by decide) (e_sc g_us) rfl (by decide) qf_X2_28 rfl rfl rfl rfl rfl (Nat.le_of_ble_eq_true rfl) (p_sc (by decide)) g_hs dX2_doOrders_7 (fun H locs hI => ?_)
  refine lv_aload_n hx hb dX2_doOrders_10 rfl (lv_at hl 0 rfl) ?_
  refine lv_iconst (v := 0) hx hb dX2_doOrders_11 (by decide) ?_
  refine g_put 3 (ty := .int) hx hb hts hown hC hI i_X2 tyX2_ok nmX2 (by decide) (e_sc g_us) rfl (by decide) qf_X2_31 rfl rfl rfl rfl rfl (Nat.le_of_ble_eq_true rfl) (p_sc (by decide)) g_hs dX2_doOrders_12 (fun H locs hI => ?_)
  refine lv_iconst (v := 0) hx hb dX2_doOrders_15 (by decide) ?_
  refine lv_istore_n (lv' := [(2, .int 0), (0, .ref (ad 6 1)), (1, .ref (ad st 0))]) hx hb dX2_doOrders_16 rfl hl (by decide) rfl (fun ls hl => ?_)
  have hI : g_I D tb ad (g_A ad) s H locs P (va_up (va_up M st Z) 6 (g_w2 (g_w2 (g_w2 G 1 4 0) 1 6 0) 1 3 0)) := by rw [k_eta hW]; exact hI
  have lp17 : ∀ (d k : Nat) (Gx : g_V) (Vx : g_V), k ≤ 60 → 60 < k + d → (q_okC Gx) → (J Vx) → (q_ordersN (60 - k) (Gx, Vx) = q_ordersN 60 (g_w2 (g_w2 (g_w2 G 1 4 0) 1 6 0) 1 3 0, Z)) → ∀ (H : Heap) (locs : List Loc) (ls : Array Slot), g_I D tb ad (g_A ad) s H locs P (va_up (va_up M st Vx) 6 Gx) → lv_has ls 5 [(2, .int (nI k)), (0, .ref (ad 6 1)), (1, .ref (ad st 0))] → W p l e rm_X2_doOrders s m args below meth c H locs 0 0 Q (F0 m 17 ls []) := by
    intro d
    induction d with
    | zero => intro k Gx Vx hkp hfu; intros; omega
    | succ d ih17 =>
      intro k Gx Vx hkp hfu hCx hJx hfun H locs ls hI hl
      refine lv_iload_n hx hb dX2_doOrders_17 rfl (lv_at hl 0 rfl) ?_
      refine lv_bipush (v := 60) hx hb dX2_doOrders_18 (by decide) ?_
      refine lv_icmp_ge (tgt := 104) hx hb dX2_doOrders_20 (by decide) (fun c1 => ?_) (fun c1 => ?_)
      · have c1n : 60 ≤ k := (nI_leI (a := 60) (b := k) (by omega) (by omega)).mp c1
        exact g_vr hQ hx hb hr0 hlk hC hI dX2_doOrders_104 rfl (by refine k_lay2 ?_; unfold q_orders; rw [show q_orders0 G = g_w2 (g_w2 (g_w2 G 1 4 0) 1 6 0) 1 3 0 from rfl, ← hfun]; first | (rw [show k = 60 from (by omega)]; rfl) | (obtain ⟨j, hj⟩ : ∃ j, 60 - k = j + 1 := ⟨59 - k, by omega⟩; rw [hj, q_ordersN]; (try unfold q_ordAns); (try dsimp only); (first | rw [if_pos c1] | rw [if_neg c1] | skip); (try dsimp only); try with_reducible rfl))
      · have c1n : ¬ 60 ≤ k := fun z => c1 ((nI_leI (a := 60) (b := k) (by omega) (by omega)).mpr z)
        refine lv_aload_n hx hb dX2_doOrders_23 rfl (lv_at hl 1 rfl) ?_
        refine g_get 3 hx hb hts hown hC hI i_X2 (by decide) (e_sc g_us) rfl (by decide) qf_X2_31 rfl rfl dX2_doOrders_24 ?_
        refine lv_aload_n hx hb dX2_doOrders_27 rfl (lv_at hl 1 rfl) ?_
        refine g_get 2 hx hb hts hown hC hI i_X2 (by decide) (e_sc g_us) rfl (by decide) qf_X2_20 rfl rfl dX2_doOrders_28 ?_
        refine lv_icmp_ge (tgt := 104) hx hb dX2_doOrders_31 (by decide) (fun c2 => ?_) (fun c2 => ?_)
        · exact g_vr hQ hx hb hr0 hlk hC hI dX2_doOrders_104 rfl (by refine k_lay2 ?_; unfold q_orders; rw [show q_orders0 G = g_w2 (g_w2 (g_w2 G 1 4 0) 1 6 0) 1 3 0 from rfl, ← hfun]; first | (rw [show k = 60 from (by omega)]; rfl) | (obtain ⟨j, hj⟩ : ∃ j, 60 - k = j + 1 := ⟨59 - k, by omega⟩; rw [hj, q_ordersN]; (try unfold q_ordAns); (try dsimp only); (first | rw [if_pos c1] | rw [if_neg c1] | skip); (first | rw [if_pos c2] | rw [if_neg c2] | skip); (try dsimp only); try with_reducible rfl))
        · refine lv_aload_n hx hb dX2_doOrders_34 rfl (lv_at hl 1 rfl) ?_
          refine g_get 3 hx hb hts hown hC hI i_X2 (by decide) (e_sc g_us) rfl (by decide) qf_X2_31 rfl rfl dX2_doOrders_35 ?_
          refine lv_istore_n (lv' := [(3, .int (Gx 1 3)), (2, .int (nI k)), (0, .ref (ad 6 1)), (1, .ref (ad st 0))]) hx hb dX2_doOrders_38 rfl hl (by decide) rfl (fun ls hl => ?_)
          refine lv_aload_n hx hb dX2_doOrders_39 rfl (lv_at hl 2 rfl) ?_
          refine g_callVi (rest := []) (c_X2_readOrder l D tb ad hj P (va_up M st Vx) Gx hCx) rfl rfl gm_X2_readOrder hx hb hml hown hts hC hI (by decide) (e_sc g_us) rfl rfl qm_X2_34 rfl hl.1 rfl ⟨rfl, rfl, by decide, by decide⟩ (Nat.le_of_ble_eq_true rfl) ⟨Nat.zero_le _, Nat.zero_le _⟩ dX2_doOrders_40 (fun H locs hI => ?_)
          refine lv_if_ne (tgt := 59) hx hb dX2_doOrders_43 (by decide) (fun c3 => ?_) (fun c3 => ?_)
          · refine lv_aload_n hx hb dX2_doOrders_59 rfl (lv_at hl 2 rfl) ?_
            refine lv_aload_n hx hb dX2_doOrders_60 rfl (lv_at hl 3 rfl) ?_
            refine lv_aload_n hx hb dX2_doOrders_61 rfl (lv_at hl 2 rfl) ?_
            refine lv_iload_n hx hb dX2_doOrders_62 rfl (lv_at hl 0 rfl) ?_
            refine g_callVi (rest := [.ref (ad st 0), .ref (ad 6 1)]) (c_X2_characterAt l D tb ad hj P (va_up M st Vx) ((q_readOrder Gx).2) (Gx 1 3) (hCx.of q_readOrder_2)) rfl rfl gm_X2_characterAt hx hb hml hown hts hC hI (by decide) (e_sc g_us) rfl rfl qm_X2_42 rfl hl.1 rfl ⟨rfl, rfl, by decide, by decide⟩ (Nat.le_of_ble_eq_true rfl) ⟨Nat.zero_le _, Nat.zero_le _⟩ dX2_doOrders_63 (fun H locs hI => ?_)
            refine g_callVi (rest := []) (c_X2_doOrder l D tb ad hj P (va_up (va_up M st Vx) 6 ((q_readOrder Gx).2)) st hst (q_charAt ((q_readOrder Gx).2) (Gx 1 3)) ((q_readOrder Gx).2) g_us Vx ((va_up_ne _ _ (k_6ne hst)).trans g_us) (hJ1 _ hJx)) rfl rfl gm_X2_doOrder hx hb hml hown hts hC hI (by decide) (e_sc g_us) rfl rfl qm_X2_46 rfl hl.1 rfl ⟨rfl, rfl, by decide, by decide⟩ (Nat.le_of_ble_eq_true rfl) ⟨Nat.zero_le _, Nat.zero_le _⟩ dX2_doOrders_66 (fun H locs hI => ?_)
            rw [k_swap hst] at hI
            refine lv_istore (lv' := [(4, .int ((q_doOrder Vx ((q_readOrder Gx).2) (q_charAt ((q_readOrder Gx).2) (Gx 1 3))).1)), (3, .int (Gx 1 3)), (2, .int (nI k)), (0, .ref (ad 6 1)), (1, .ref (ad st 0))]) hx hb dX2_doOrders_69 hl (by decide) rfl (fun ls hl => ?_)
            refine lv_iload hx hb dX2_doOrders_71 (lv_at hl 0 rfl) ?_
            refine g_callNi (rest := []) (c_X4_isError l D tb ad hj P (va_up (va_up M st ((q_doOrder Vx ((q_readOrder Gx).2) (q_charAt ((q_readOrder Gx).2) (Gx 1 3))).2)) 6 ((q_readOrder Gx).2)) ((q_doOrder Vx ((q_readOrder Gx).2) (q_charAt ((q_readOrder Gx).2) (Gx 1 3))).1)) rfl rfl gm_X4_isError hx hb hml hown hts hC hI qN_X2_50 rfl hl.1 rfl ⟨rfl, rfl, by decide, by decide⟩ (Nat.le_of_ble_eq_true rfl) ⟨Nat.zero_le _, Nat.zero_le _⟩ dX2_doOrders_73 (fun H locs hI => ?_)
            refine g_tf (fun c4 => ?_) (fun c4 => ?_)
            · refine lv_if_eq (tgt := 88) hx hb dX2_doOrders_76 (by decide) (fun c5 => absurd c5 (by decide)) (fun _ => ?_)
              refine lv_aload_n hx hb dX2_doOrders_79 rfl (lv_at hl 3 rfl) ?_
              refine lv_iload_n hx hb dX2_doOrders_80 rfl (lv_at hl 1 rfl) ?_
              refine lv_iconst (v := 2) hx hb dX2_doOrders_81 (by decide) ?_
              refine lv_iload hx hb dX2_doOrders_82 (lv_at hl 0 rfl) ?_
              refine g_callVv (rest := []) (c_X2_setFault l D tb ad hj P (va_up M st ((q_doOrder Vx ((q_readOrder Gx).2) (q_charAt ((q_readOrder Gx).2) (Gx 1 3))).2)) ((q_readOrder Gx).2) (Gx 1 3) 2 ((q_doOrder Vx ((q_readOrder Gx).2) (q_charAt ((q_readOrder Gx).2) (Gx 1 3))).1)) rfl rfl gm_X2_setFault hx hb hml hown hts hC hI (by decide) (e_sc g_us) rfl rfl qm_X2_38 rfl hl.1 rfl ⟨rfl, rfl, by decide, by decide⟩ (Nat.le_of_ble_eq_true rfl) ⟨Nat.zero_le _, Nat.zero_le _⟩ dX2_doOrders_84 (fun H locs hI => ?_)
              exact g_vr hQ hx hb hr0 hlk hC hI dX2_doOrders_87 rfl (by refine k_lay2 ?_; unfold q_orders; rw [show q_orders0 G = g_w2 (g_w2 (g_w2 G 1 4 0) 1 6 0) 1 3 0 from rfl, ← hfun]; first | (rw [show k = 60 from (by omega)]; rfl) | (obtain ⟨j, hj⟩ : ∃ j, 60 - k = j + 1 := ⟨59 - k, by omega⟩; rw [hj, q_ordersN]; (try unfold q_ordAns); (try dsimp only); (first | rw [if_pos c1] | rw [if_neg c1] | skip); (first | rw [if_pos c2] | rw [if_neg c2] | skip); (first | rw [if_pos c3] | rw [if_neg c3] | skip); (first | rw [if_pos c4] | rw [if_neg c4] | skip); (try dsimp only); try with_reducible rfl))
            · refine lv_if_eq (tgt := 88) hx hb dX2_doOrders_76 (by decide) (fun _ => ?_) (fun c6 => absurd c6 (by decide))
              refine lv_aload_n hx hb dX2_doOrders_88 rfl (lv_at hl 3 rfl) ?_
              refine lv_dup hx hb dX2_doOrders_89 rfl ?_
              refine g_get 4 hx hb hts hown hC hI i_X2 (by decide) (e_sc g_us) rfl (by decide) qf_X2_25 rfl rfl dX2_doOrders_90 ?_
              refine lv_iconst (v := 1) hx hb dX2_doOrders_93 (by decide) ?_
              refine lv_iadd hx hb dX2_doOrders_94 ?_
              refine g_put 4 (ty := .int) hx hb hts hown hC hI i_X2 tyX2_ok nmX2 (by decide) (e_sc g_us) rfl (by decide) qf_X2_25 rfl rfl rfl rfl rfl (Nat.le_of_ble_eq_true rfl) (p_sc (by decide)) g_hs dX2_doOrders_95 (fun H locs hI => ?_)
              refine lv_iinc (v := nI (k + 1)) (lv' := [(2, .int (nI (k + 1))), (4, .int ((q_doOrder Vx ((q_readOrder Gx).2) (q_charAt ((q_readOrder Gx).2) (Gx 1 3))).1)), (3, .int (Gx 1 3)), (0, .ref (ad 6 1)), (1, .ref (ad st 0))]) hx hb dX2_doOrders_98 hl (k := 2) rfl (nI_1 _) (by decide) rfl (fun ls hl => ?_)
              refine lv_goto (tgt := 17) hx hb dX2_doOrders_101 (by decide) ?_
              exact ih17 (k + 1) _ _ (by omega) (by omega)  (by exact (hCx.of q_readOrder_2).w (by decide)) (by exact hJ2 _ _ _ hJx) (by rw [← hfun, show 60 - k = (60 - (k + 1)) + 1 from (by omega), q_ordersN]; (try unfold q_ordAns); (try dsimp only); (first | rw [if_pos c1] | rw [if_neg c1] | skip); (first | rw [if_pos c2] | rw [if_neg c2] | skip); (first | rw [if_pos c3] | rw [if_neg c3] | skip); (first | rw [if_pos c4] | rw [if_neg c4] | skip); (try dsimp only); try with_reducible rfl) _ _ _ hI (lv_sub hl [0, 3, 4] rfl)
          · refine lv_aload_n hx hb dX2_doOrders_46 rfl (lv_at hl 2 rfl) ?_
            refine lv_iload_n hx hb dX2_doOrders_47 rfl (lv_at hl 0 rfl) ?_
            refine lv_iconst (v := 1) hx hb dX2_doOrders_48 (by decide) ?_
            refine lv_aload_n hx hb dX2_doOrders_49 rfl (lv_at hl 2 rfl) ?_
            refine g_get 3 hx hb hts hown hC hI i_X2 (by decide) (e_sc g_us) rfl (by decide) qf_X2_31 rfl rfl dX2_doOrders_50 ?_
            refine lv_iload_n hx hb dX2_doOrders_53 rfl (lv_at hl 0 rfl) ?_
            refine lv_isub hx hb dX2_doOrders_54 ?_
            refine g_callVv (rest := []) (c_X2_setFault l D tb ad hj P (va_up M st Vx) ((q_readOrder Gx).2) (Gx 1 3) 1 ((((q_readOrder Gx).2) 1 3) - (Gx 1 3))) rfl rfl gm_X2_setFault hx hb hml hown hts hC hI (by decide) (e_sc g_us) rfl rfl qm_X2_38 rfl hl.1 rfl ⟨rfl, rfl, by decide, by decide⟩ (Nat.le_of_ble_eq_true rfl) ⟨Nat.zero_le _, Nat.zero_le _⟩ dX2_doOrders_55 (fun H locs hI => ?_)
            exact g_vr hQ hx hb hr0 hlk hC hI dX2_doOrders_58 rfl (by refine k_lay2 ?_; unfold q_orders; rw [show q_orders0 G = g_w2 (g_w2 (g_w2 G 1 4 0) 1 6 0) 1 3 0 from rfl, ← hfun]; first | (rw [show k = 60 from (by omega)]; rfl) | (obtain ⟨j, hj⟩ : ∃ j, 60 - k = j + 1 := ⟨59 - k, by omega⟩; rw [hj, q_ordersN]; (try unfold q_ordAns); (try dsimp only); (first | rw [if_pos c1] | rw [if_neg c1] | skip); (first | rw [if_pos c2] | rw [if_neg c2] | skip); (first | rw [if_pos c3] | rw [if_neg c3] | skip); (try dsimp only); try with_reducible rfl))
  exact lp17 (60 + 1) 0 (g_w2 (g_w2 (g_w2 G 1 4 0) 1 6 0) 1 3 0) Z (by omega) (by omega)  (((hCh.w (by decide)).w (by decide)).w (by decide)) hJ rfl _ _ _ hI (lv_sub hl [0, 1, 2] rfl)
