set_option maxHeartbeats 800000 in
set_option maxRecDepth 100000 in
theorem c_X4_bits0 (l : Launch) (D : va_G) (tb : g_T) (ad : g_Ad) (hj : g_inj ad) (P : g_P) (M : g_M) : g_Ci l yX4_bitsOf cX4_bitsOf 4 (some .int) rm_X4_bitsOf D tb ad [.float 0] P (M) 0 P (M) := by
  refine g_go (by decide) (Nat.le_of_ble_eq_true rfl) hj ?_
  intro p e s m below meth c ls H locs R args Q hR0 hQ hx hb hml hr0 hlk hown hts hC hI hl
  subst hR0
  have hown : s.vm.findClass RX4 = some m.cls := hown
  have hl : lv_has ls 4 [(0, .float 0)] := hl
  refine lv_fload_n hx hb dX4_bitsOf_0 rfl (lv_at hl 0 rfl) ?_
  refine lv_fconst0 hx hb dX4_bitsOf_1 ?_
  refine lv_fcmp hx hb dX4_bitsOf_2 ?_
  refine lv_if_gt (tgt := 8) hx hb dX4_bitsOf_3 (by decide) (fun c1 => ?_) (fun c1 => ?_)
  · exact absurd c1 (by rw [kF_zero]; decide)
  · refine lv_iconst (v := 0) hx hb dX4_bitsOf_6 (by decide) ?_
    exact g_ir hQ hx hb hr0 hlk hC hI dX4_bitsOf_7 rfl (by rfl) rfl rfl
theorem c_X4_bitsP (l : Launch) (D : va_G) (tb : g_T) (ad : g_Ad) (hj : g_inj ad) (P : g_P) (M : g_M) (v : UInt32) (hv : kPos v) : g_Ci l yX4_bitsOf cX4_bitsOf 4 (some .int) rm_X4_bitsOf D tb ad [.float v] P M v.toInt32 P M := by
  rcases hv with rfl | ⟨E, T, h1, h2, h3, rfl⟩
  · exact c_X4_bits0 l D tb ad hj P M
  · exact c_X4_bitsOf l D tb ad hj P M E T h1 h2 h3
abbrev rm_X3_loanRatioBits : Room := { frames := 1, cells := 0, slots := 0, locals := 23 }
set_option maxHeartbeats 800000 in
set_option maxRecDepth 100000 in
theorem c_X3_loanRatioBits (l : Launch) (D : va_G) (tb : g_T) (ad : g_Ad) (hj : g_inj ad) (P : g_P) (M : g_M) (r : Nat) (hr : r < 6) (V : g_V) (i1 : Nat) (hi1 : i1 < 16) (hv : 0 < q_worth V i1 → kPos (FP.fdiv (FP.i2f (V (12 + i1) 5)) (FP.i2f (q_worth V i1)))) : g_Ci l yX3_loanRatioBits cX3_loanRatioBits 3 (some .int) rm_X3_loanRatioBits D tb ad [.ref (ad r 0), .ref (ad r (12 + i1))] P (va_up M r V) (q_ratio V i1) P (va_up M r V) := by
  refine g_go (by decide) (Nat.le_of_ble_eq_true rfl) hj ?_
  intro p e s m below meth c ls H locs R args Q hR0 hQ hx hb hml hr0 hlk hown hts hC hI hl
  subst hR0
  have hown : s.vm.findClass RX3 = some m.cls := hown
  have hl : lv_has ls 3 [(0, .ref (ad r 0)), (1, .ref (ad r (12 + i1)))] := hl
  refine lv_aload_n hx hb dX3_loanRatioBits_0 rfl (lv_at hl 0 rfl) ?_
  refine lv_aload_n hx hb dX3_loanRatioBits_1 rfl (lv_at hl 1 rfl) ?_
  refine g_callVi (rest := []) (c_X3_worth l D tb ad hj P M r hr V i1 hi1) rfl rfl gm_X3_worth hx hb hml hown hts hC hI (ok_c 0 hr (by decide)) (e_st hr g_us) rfl rfl qm_X3_185 rfl hl.1 rfl ⟨rfl, rfl, by decide, by decide⟩ (Nat.le_of_ble_eq_true rfl) ⟨Nat.zero_le _, Nat.zero_le _⟩ dX3_loanRatioBits_2 (fun H locs hI => ?_)
  refine lv_istore_n (lv' := [(2, .int (q_worth V i1)), (0, .ref (ad r 0)), (1, .ref (ad r (12 + i1)))]) hx hb dX3_loanRatioBits_5 rfl hl (by decide) rfl (fun ls hl => ?_)
  refine lv_iload_n hx hb dX3_loanRatioBits_6 rfl (lv_at hl 0 rfl) ?_
  refine lv_if_le (tgt := 24) hx hb dX3_loanRatioBits_7 (by decide) (fun c1 => ?_) (fun c1 => ?_)
  · refine lv_iconst (v := 0) hx hb dX3_loanRatioBits_24 (by decide) ?_
    exact g_ir hQ hx hb hr0 hlk hC hI dX3_loanRatioBits_25 rfl (by unfold q_ratio; first | rfl | exact if_neg (Int32.not_lt.mpr c1) | exact (if_neg (Int32.not_lt.mpr c1)).symm | exact (if_pos (Int32.not_le.mp c1)).symm | exact if_pos (Int32.not_le.mp c1)) rfl rfl
  · have hvp := hv (Int32.not_le.mp c1)
    refine lv_aload_n hx hb dX3_loanRatioBits_10 rfl (lv_at hl 2 rfl) ?_
    refine g_get 5 hx hb hts hown hC hI i_X1 (ok_rec hr hi1) (e_rec hr hi1 g_us) rfl (by decide) qf_X3_139 rfl rfl dX3_loanRatioBits_11 ?_
    refine lv_i2f hx hb dX3_loanRatioBits_14 ?_
    refine lv_iload_n hx hb dX3_loanRatioBits_15 rfl (lv_at hl 0 rfl) ?_
    refine lv_i2f hx hb dX3_loanRatioBits_16 ?_
    refine lv_fdiv hx hb dX3_loanRatioBits_17 (kPos_ok hvp) ?_
    refine g_callNi (rest := []) (c_X4_bitsP l D tb ad hj P (va_up M r V) (FP.fdiv (FP.i2f (V (12 + i1) 5)) (FP.i2f (q_worth V i1))) hvp) rfl rfl gm_X4_bitsOf hx hb hml hown hts hC hI qN_X3_221 rfl hl.1 rfl ⟨rfl, rfl, by decide, by decide⟩ (Nat.le_of_ble_eq_true rfl) ⟨Nat.zero_le _, Nat.zero_le _⟩ dX3_loanRatioBits_18 (fun H locs hI => ?_)
    refine lv_goto (tgt := 25) hx hb dX3_loanRatioBits_21 (by decide) ?_
    exact g_ir hQ hx hb hr0 hlk hC hI dX3_loanRatioBits_25 rfl (by unfold q_ratio; first | rfl | exact if_neg (Int32.not_lt.mpr c1) | exact (if_neg (Int32.not_lt.mpr c1)).symm | exact (if_pos (Int32.not_le.mp c1)).symm | exact if_pos (Int32.not_le.mp c1)) rfl rfl
def q_tellReceipt (V : g_V) (n : Int32) (w : Int32) : Int32 :=
  match (q_find V n) with | none => (-2000000001) | some i2 => (if w = 0 then (V (12 + i2) 1) else if w = 1 then (V (12 + i2) 2) else if w = 2 then (V (12 + i2) 3) else if w = 3 then (q_worth V i2) else if w = 4 then (if q_pledged V i2 then (V (12 + i2) 4) else (-2000000004)) else if w = 5 then (if q_pledged V i2 then (V (12 + i2) 5) else (-2000000004)) else if w = 6 then (if q_called V i2 then (V (12 + i2) 6) else (-2000000004)) else if w = 7 then (q_greatestLoan V i2) else if w = 8 then (k_max 0 ((V (12 + i2) 5) - (q_callLimit V (q_worth V i2)))) else if w = 9 then (q_ratio V i2) else (-2000000001))
abbrev rm_X3_tellReceipt : Room := { frames := 2, cells := 0, slots := 0, locals := 45 }
set_option maxHeartbeats 800000 in
set_option maxRecDepth 100000 in
theorem c_X3_tellReceipt (l : Launch) (D : va_G) (tb : g_T) (ad : g_Ad) (hj : g_inj ad) (P : g_P) (M : g_M) (r : Nat) (hr : r < 6) (V : g_V) (n : Int32) (w : Int32) (hv : ∀ i, i < 16 → 0 < q_worth V i → kPos (FP.fdiv (FP.i2f (V (12 + i) 5)) (FP.i2f (q_worth V i)))) : g_Ci l yX3_tellReceipt cX3_tellReceipt 4 (some .int) rm_X3_tellReceipt D tb ad [.ref (ad r 0), .int n, .int w] P (va_up M r V) (q_tellReceipt V n w) P (va_up M r V) := by
  refine g_go (by decide) (Nat.le_of_ble_eq_true rfl) hj ?_
  intro p e s m below meth c ls H locs R args Q hR0 hQ hx hb hml hr0 hlk hown hts hC hI hl
  subst hR0
  have hown : s.vm.findClass RX3 = some m.cls := hown
  have hl : lv_has ls 4 [(0, .ref (ad r 0)), (1, .int n), (2, .int w)] := hl
  refine lv_aload_n hx hb dX3_tellReceipt_0 rfl (lv_at hl 0 rfl) ?_
  refine lv_iload_n hx hb dX3_tellReceipt_1 rfl (lv_at hl 1 rfl) ?_
  refine g_callVq (rest := []) (c_X3_find l D tb ad hj P M r hr V n) rfl rfl gm_X3_find hx hb hml hown hts hC hI (ok_c 0 hr (by decide)) (e_st hr g_us) rfl rfl qm_X3_99 rfl hl.1 rfl ⟨rfl, rfl, by decide, by decide⟩ (Nat.le_of_ble_eq_true rfl) ⟨Nat.zero_le _, Nat.zero_le _⟩ dX3_tellReceipt_2 (fun H locs hI => ?_)
  refine g_nf (fun q1 => ?_) (fun i2 q1 => ?_)
  · refine lv_astore_nN (lv' := [(3, .null), (0, .ref (ad r 0)), (1, .int n), (2, .int w)]) hx hb dX3_tellReceipt_5 rfl hl (by decide) rfl (fun ls hl => ?_)
    refine lv_aload_nN hx hb dX3_tellReceipt_6 rfl (lv_at hl 0 rfl) ?_
    refine lv_ifnonnullN hx hb dX3_tellReceipt_7 ?_
    refine lv_ldc (v := (-2000000001)) hx hb hown (hts _ qc_X3_74) dX3_tellReceipt_10 ?_
    exact g_ir hQ hx hb hr0 hlk hC hI dX3_tellReceipt_12 rfl (by unfold q_tellReceipt; skip; (try simp only [q1]); try first | with_reducible rfl | (unfold k_max; rfl)) rfl rfl
  · have hi3 : i2 < 16 := k_find_lt q1
    refine lv_astore_n (lv' := [(3, .ref (ad r (12 + i2))), (0, .ref (ad r 0)), (1, .int n), (2, .int w)]) hx hb dX3_tellReceipt_5 rfl hl (by decide) rfl (fun ls hl => ?_)
    refine lv_aload_n hx hb dX3_tellReceipt_6 rfl (lv_at hl 0 rfl) ?_
    refine lv_ifnonnull (tgt := 13) hx hb dX3_tellReceipt_7 (by decide) ?_
    refine lv_iload_n hx hb dX3_tellReceipt_13 rfl (lv_at hl 3 rfl) ?_
    by_cases c4 : w = 0
    · refine lv_tableIn (tgt := 68) hx hb dX3_tellReceipt_14 (by rw [c4]; decide) (by rw [c4]; decide) (by rw [c4]; rfl) (by decide) ?_
      refine lv_aload_n hx hb dX3_tellReceipt_68 rfl (lv_at hl 0 rfl) ?_
      refine g_get 1 hx hb hts hown hC hI i_X1 (ok_rec hr hi3) (e_rec hr hi3 g_us) rfl (by decide) qf_X3_107 rfl rfl dX3_tellReceipt_69 ?_
      exact g_ir hQ hx hb hr0 hlk hC hI dX3_tellReceipt_72 rfl (by unfold q_tellReceipt; skip; (try simp only [q1]); (first | rw [if_pos c4] | rw [if_neg c4] | skip); try first | with_reducible rfl | (unfold k_max; rfl)) rfl rfl
    by_cases c5 : w = 1
    · refine lv_tableIn (tgt := 73) hx hb dX3_tellReceipt_14 (by rw [c5]; decide) (by rw [c5]; decide) (by rw [c5]; rfl) (by decide) ?_
      refine lv_aload_n hx hb dX3_tellReceipt_73 rfl (lv_at hl 0 rfl) ?_
      refine g_get 2 hx hb hts hown hC hI i_X1 (ok_rec hr hi3) (e_rec hr hi3 g_us) rfl (by decide) qf_X3_110 rfl rfl dX3_tellReceipt_74 ?_
      exact g_ir hQ hx hb hr0 hlk hC hI dX3_tellReceipt_77 rfl (by unfold q_tellReceipt; skip; (try simp only [q1]); (first | rw [if_pos c4] | rw [if_neg c4] | skip); (first | rw [if_pos c5] | rw [if_neg c5] | skip); try first | with_reducible rfl | (unfold k_max; rfl)) rfl rfl
    by_cases c6 : w = 2
    · refine lv_tableIn (tgt := 78) hx hb dX3_tellReceipt_14 (by rw [c6]; decide) (by rw [c6]; decide) (by rw [c6]; rfl) (by decide) ?_
      refine lv_aload_n hx hb dX3_tellReceipt_78 rfl (lv_at hl 0 rfl) ?_
      refine g_get 3 hx hb hts hown hC hI i_X1 (ok_rec hr hi3) (e_rec hr hi3 g_us) rfl (by decide) qf_X3_103 rfl rfl dX3_tellReceipt_79 ?_
      exact g_ir hQ hx hb hr0 hlk hC hI dX3_tellReceipt_82 rfl (by unfold q_tellReceipt; skip; (try simp only [q1]); (first | rw [if_pos c4] | rw [if_neg c4] | skip); (first | rw [if_pos c5] | rw [if_neg c5] | skip); (first | rw [if_pos c6] | rw [if_neg c6] | skip); try first | with_reducible rfl | (unfold k_max; rfl)) rfl rfl
    by_cases c7 : w = 3
    · refine lv_tableIn (tgt := 83) hx hb dX3_tellReceipt_14 (by rw [c7]; decide) (by rw [c7]; decide) (by rw [c7]; rfl) (by decide) ?_
      refine lv_aload_n hx hb dX3_tellReceipt_83 rfl (lv_at hl 1 rfl) ?_
      refine lv_aload_n hx hb dX3_tellReceipt_84 rfl (lv_at hl 0 rfl) ?_
      refine g_callVi (rest := []) (c_X3_worth l D tb ad hj P M r hr V i2 hi3) rfl rfl gm_X3_worth hx hb hml hown hts hC hI (ok_c 0 hr (by decide)) (e_st hr g_us) rfl rfl qm_X3_185 rfl hl.1 rfl ⟨rfl, rfl, by decide, by decide⟩ (Nat.le_of_ble_eq_true rfl) ⟨Nat.zero_le _, Nat.zero_le _⟩ dX3_tellReceipt_85 (fun H locs hI => ?_)
      exact g_ir hQ hx hb hr0 hlk hC hI dX3_tellReceipt_88 rfl (by unfold q_tellReceipt; skip; (try simp only [q1]); (first | rw [if_pos c4] | rw [if_neg c4] | skip); (first | rw [if_pos c5] | rw [if_neg c5] | skip); (first | rw [if_pos c6] | rw [if_neg c6] | skip); (first | rw [if_pos c7] | rw [if_neg c7] | skip); try first | with_reducible rfl | (unfold k_max; rfl)) rfl rfl
    by_cases c8 : w = 4
    · refine lv_tableIn (tgt := 89) hx hb dX3_tellReceipt_14 (by rw [c8]; decide) (by rw [c8]; decide) (by rw [c8]; rfl) (by decide) ?_
      refine lv_aload_n hx hb dX3_tellReceipt_89 rfl (lv_at hl 0 rfl) ?_
      refine g_callVi (rest := []) (c_X1_isPledged l D tb ad hj P M r hr V i2 hi3) rfl rfl gm_X1_isPledged hx hb hml hown hts hC hI (ok_rec hr hi3) (e_rec hr hi3 g_us) rfl rfl qm_X3_115 rfl hl.1 rfl ⟨rfl, rfl, by decide, by decide⟩ (Nat.le_of_ble_eq_true rfl) ⟨Nat.zero_le _, Nat.zero_le _⟩ dX3_tellReceipt_90 (fun H locs hI => ?_)
      refine g_tf (fun c9 => ?_) (fun c9 => ?_)
      · refine lv_if_eq (tgt := 103) hx hb dX3_tellReceipt_93 (by decide) (fun c10 => absurd c10 (by decide)) (fun _ => ?_)
        refine lv_aload_n hx hb dX3_tellReceipt_96 rfl (lv_at hl 0 rfl) ?_
        refine g_get 4 hx hb hts hown hC hI i_X1 (ok_rec hr hi3) (e_rec hr hi3 g_us) rfl (by decide) qf_X3_136 rfl rfl dX3_tellReceipt_97 ?_
        refine lv_goto (tgt := 105) hx hb dX3_tellReceipt_100 (by decide) ?_
        exact g_ir hQ hx hb hr0 hlk hC hI dX3_tellReceipt_105 rfl (by unfold q_tellReceipt; skip; (try simp only [q1]); (first | rw [if_pos c4] | rw [if_neg c4] | skip); (first | rw [if_pos c5] | rw [if_neg c5] | skip); (first | rw [if_pos c6] | rw [if_neg c6] | skip); (first | rw [if_pos c7] | rw [if_neg c7] | skip); (first | rw [if_pos c8] | rw [if_neg c8] | skip); (first | rw [if_pos c9] | rw [if_neg c9] | skip); try first | with_reducible rfl | (unfold k_max; rfl)) rfl rfl
      · refine lv_if_eq (tgt := 103) hx hb dX3_tellReceipt_93 (by decide) (fun _ => ?_) (fun c11 => absurd c11 (by decide))
        refine lv_ldc (v := (-2000000004)) hx hb hown (hts _ qc_X3_188) dX3_tellReceipt_103 ?_
        exact g_ir hQ hx hb hr0 hlk hC hI dX3_tellReceipt_105 rfl (by unfold q_tellReceipt; skip; (try simp only [q1]); (first | rw [if_pos c4] | rw [if_neg c4] | skip); (first | rw [if_pos c5] | rw [if_neg c5] | skip); (first | rw [if_pos c6] | rw [if_neg c6] | skip); (first | rw [if_pos c7] | rw [if_neg c7] | skip); (first | rw [if_pos c8] | rw [if_neg c8] | skip); (first | rw [if_pos c9] | rw [if_neg c9] | skip); try first | with_reducible rfl | (unfold k_max; rfl)) rfl rfl
    by_cases c12 : w = 5
    · refine lv_tableIn (tgt := 106) hx hb dX3_tellReceipt_14 (by rw [c12]; decide) (by rw [c12]; decide) (by rw [c12]; rfl) (by decide) ?_
      refine lv_aload_n hx hb dX3_tellReceipt_106 rfl (lv_at hl 0 rfl) ?_
      refine g_callVi (rest := []) (c_X1_isPledged l D tb ad hj P M r hr V i2 hi3) rfl rfl gm_X1_isPledged hx hb hml hown hts hC hI (ok_rec hr hi3) (e_rec hr hi3 g_us) rfl rfl qm_X3_115 rfl hl.1 rfl ⟨rfl, rfl, by decide, by decide⟩ (Nat.le_of_ble_eq_true rfl) ⟨Nat.zero_le _, Nat.zero_le _⟩ dX3_tellReceipt_107 (fun H locs hI => ?_)
      refine g_tf (fun c13 => ?_) (fun c13 => ?_)
      · refine lv_if_eq (tgt := 120) hx hb dX3_tellReceipt_110 (by decide) (fun c14 => absurd c14 (by decide)) (fun _ => ?_)
        refine lv_aload_n hx hb dX3_tellReceipt_113 rfl (lv_at hl 0 rfl) ?_
        refine g_get 5 hx hb hts hown hC hI i_X1 (ok_rec hr hi3) (e_rec hr hi3 g_us) rfl (by decide) qf_X3_139 rfl rfl dX3_tellReceipt_114 ?_
        refine lv_goto (tgt := 122) hx hb dX3_tellReceipt_117 (by decide) ?_
        exact g_ir hQ hx hb hr0 hlk hC hI dX3_tellReceipt_122 rfl (by unfold q_tellReceipt; skip; (try simp only [q1]); (first | rw [if_pos c4] | rw [if_neg c4] | skip); (first | rw [if_pos c5] | rw [if_neg c5] | skip); (first | rw [if_pos c6] | rw [if_neg c6] | skip); (first | rw [if_pos c7] | rw [if_neg c7] | skip); (first | rw [if_pos c8] | rw [if_neg c8] | skip); (first | rw [if_pos c12] | rw [if_neg c12] | skip); (first | rw [if_pos c13] | rw [if_neg c13] | skip); try first | with_reducible rfl | (unfold k_max; rfl)) rfl rfl
      · refine lv_if_eq (tgt := 120) hx hb dX3_tellReceipt_110 (by decide) (fun _ => ?_) (fun c15 => absurd c15 (by decide))
        refine lv_ldc (v := (-2000000004)) hx hb hown (hts _ qc_X3_188) dX3_tellReceipt_120 ?_
        exact g_ir hQ hx hb hr0 hlk hC hI dX3_tellReceipt_122 rfl (by unfold q_tellReceipt; skip; (try simp only [q1]); (first | rw [if_pos c4] | rw [if_neg c4] | skip); (first | rw [if_pos c5] | rw [if_neg c5] | skip); (first | rw [if_pos c6] | rw [if_neg c6] | skip); (first | rw [if_pos c7] | rw [if_neg c7] | skip); (first | rw [if_pos c8] | rw [if_neg c8] | skip); (first | rw [if_pos c12] | rw [if_neg c12] | skip); (first | rw [if_pos c13] | rw [if_neg c13] | skip); try first | with_reducible rfl | (unfold k_max; rfl)) rfl rfl
    by_cases c16 : w = 6
    · refine lv_tableIn (tgt := 123) hx hb dX3_tellReceipt_14 (by rw [c16]; decide) (by rw [c16]; decide) (by rw [c16]; rfl) (by decide) ?_
      refine lv_aload_n hx hb dX3_tellReceipt_123 rfl (lv_at hl 0 rfl) ?_
      refine g_callVi (rest := []) (c_X1_isCalled l D tb ad hj P M r hr V i2 hi3) rfl rfl gm_X1_isCalled hx hb hml hown hts hC hI (ok_rec hr hi3) (e_rec hr hi3 g_us) rfl rfl qm_X3_189 rfl hl.1 rfl ⟨rfl, rfl, by decide, by decide⟩ (Nat.le_of_ble_eq_true rfl) ⟨Nat.zero_le _, Nat.zero_le _⟩ dX3_tellReceipt_124 (fun H locs hI => ?_)
      refine g_tf (fun c17 => ?_) (fun c17 => ?_)
      · refine lv_if_eq (tgt := 137) hx hb dX3_tellReceipt_127 (by decide) (fun c18 => absurd c18 (by decide)) (fun _ => ?_)
        refine lv_aload_n hx hb dX3_tellReceipt_130 rfl (lv_at hl 0 rfl) ?_
        refine g_get 6 hx hb hts hown hC hI i_X1 (ok_rec hr hi3) (e_rec hr hi3 g_us) rfl (by decide) qf_X3_155 rfl rfl dX3_tellReceipt_131 ?_
        refine lv_goto (tgt := 139) hx hb dX3_tellReceipt_134 (by decide) ?_
        exact g_ir hQ hx hb hr0 hlk hC hI dX3_tellReceipt_139 rfl (by unfold q_tellReceipt; skip; (try simp only [q1]); (first | rw [if_pos c4] | rw [if_neg c4] | skip); (first | rw [if_pos c5] | rw [if_neg c5] | skip); (first | rw [if_pos c6] | rw [if_neg c6] | skip); (first | rw [if_pos c7] | rw [if_neg c7] | skip); (first | rw [if_pos c8] | rw [if_neg c8] | skip); (first | rw [if_pos c12] | rw [if_neg c12] | skip); (first | rw [if_pos c16] | rw [if_neg c16] | skip); (first | rw [if_pos c17] | rw [if_neg c17] | skip); try first | with_reducible rfl | (unfold k_max; rfl)) rfl rfl
      · refine lv_if_eq (tgt := 137) hx hb dX3_tellReceipt_127 (by decide) (fun _ => ?_) (fun c19 => absurd c19 (by decide))
        refine lv_ldc (v := (-2000000004)) hx hb hown (hts _ qc_X3_188) dX3_tellReceipt_137 ?_
        exact g_ir hQ hx hb hr0 hlk hC hI dX3_tellReceipt_139 rfl (by unfold q_tellReceipt; skip; (try simp only [q1]); (first | rw [if_pos c4] | rw [if_neg c4] | skip); (first | rw [if_pos c5] | rw [if_neg c5] | skip); (first | rw [if_pos c6] | rw [if_neg c6] | skip); (first | rw [if_pos c7] | rw [if_neg c7] | skip); (first | rw [if_pos c8] | rw [if_neg c8] | skip); (first | rw [if_pos c12] | rw [if_neg c12] | skip); (first | rw [if_pos c16] | rw [if_neg c16] | skip); (first | rw [if_pos c17] | rw [if_neg c17] | skip); try first | with_reducible rfl | (unfold k_max; rfl)) rfl rfl
    by_cases c20 : w = 7
    · refine lv_tableIn (tgt := 140) hx hb dX3_tellReceipt_14 (by rw [c20]; decide) (by rw [c20]; decide) (by rw [c20]; rfl) (by decide) ?_
      refine lv_aload_n hx hb dX3_tellReceipt_140 rfl (lv_at hl 1 rfl) ?_
      refine lv_aload_n hx hb dX3_tellReceipt_141 rfl (lv_at hl 0 rfl) ?_
      refine g_callVi (rest := []) (c_X3_greatestLoan l D tb ad hj P M r hr V i2 hi3) rfl rfl gm_X3_greatestLoan hx hb hml hown hts hC hI (ok_c 0 hr (by decide)) (e_st hr g_us) rfl rfl qm_X3_132 rfl hl.1 rfl ⟨rfl, rfl, by decide, by decide⟩ (Nat.le_of_ble_eq_true rfl) ⟨Nat.zero_le _, Nat.zero_le _⟩ dX3_tellReceipt_142 (fun H locs hI => ?_)
      exact g_ir hQ hx hb hr0 hlk hC hI dX3_tellReceipt_145 rfl (by unfold q_tellReceipt; skip; (try simp only [q1]); (first | rw [if_pos c4] | rw [if_neg c4] | skip); (first | rw [if_pos c5] | rw [if_neg c5] | skip); (first | rw [if_pos c6] | rw [if_neg c6] | skip); (first | rw [if_pos c7] | rw [if_neg c7] | skip); (first | rw [if_pos c8] | rw [if_neg c8] | skip); (first | rw [if_pos c12] | rw [if_neg c12] | skip); (first | rw [if_pos c16] | rw [if_neg c16] | skip); (first | rw [if_pos c20] | rw [if_neg c20] | skip); try first | with_reducible rfl | (unfold k_max; rfl)) rfl rfl
    by_cases c21 : w = 8
    · refine lv_tableIn (tgt := 146) hx hb dX3_tellReceipt_14 (by rw [c21]; decide) (by rw [c21]; decide) (by rw [c21]; rfl) (by decide) ?_
      refine lv_iconst (v := 0) hx hb dX3_tellReceipt_146 (by decide) ?_
      refine lv_aload_n hx hb dX3_tellReceipt_147 rfl (lv_at hl 0 rfl) ?_
      refine g_get 5 hx hb hts hown hC hI i_X1 (ok_rec hr hi3) (e_rec hr hi3 g_us) rfl (by decide) qf_X3_139 rfl rfl dX3_tellReceipt_148 ?_
      refine lv_aload_n hx hb dX3_tellReceipt_151 rfl (lv_at hl 1 rfl) ?_
      refine lv_aload_n hx hb dX3_tellReceipt_152 rfl (lv_at hl 1 rfl) ?_
      refine lv_aload_n hx hb dX3_tellReceipt_153 rfl (lv_at hl 0 rfl) ?_
      refine g_callVi (rest := [.ref (ad r 0), .int (V (12 + i2) 5), .int 0]) (c_X3_worth l D tb ad hj P M r hr V i2 hi3) rfl rfl gm_X3_worth hx hb hml hown hts hC hI (ok_c 0 hr (by decide)) (e_st hr g_us) rfl rfl qm_X3_185 rfl hl.1 rfl ⟨rfl, rfl, by decide, by decide⟩ (Nat.le_of_ble_eq_true rfl) ⟨Nat.zero_le _, Nat.zero_le _⟩ dX3_tellReceipt_154 (fun H locs hI => ?_)
      refine g_callVi (rest := [.int (V (12 + i2) 5), .int 0]) (c_X3_callLimit l D tb ad hj P M r hr V (q_worth V i2)) rfl rfl gm_X3_callLimit hx hb hml hown hts hC hI (ok_c 0 hr (by decide)) (e_st hr g_us) rfl rfl qm_X3_192 rfl hl.1 rfl ⟨rfl, rfl, by decide, by decide⟩ (Nat.le_of_ble_eq_true rfl) ⟨Nat.zero_le _, Nat.zero_le _⟩ dX3_tellReceipt_157 (fun H locs hI => ?_)
      refine lv_isub hx hb dX3_tellReceipt_160 ?_
      refine va_mmax hx hb (hml.trans hl.1.symm) hown (hts _ qm_X3_195) (hts _ qs_J9_max_7cf53) (hts _ qz_J9) (hts _ qk_J9_max_7cf53) (by decide) (by decide) (Nat.zero_le _) (Nat.zero_le _) dX3_tellReceipt_161 ?_
      exact g_ir hQ hx hb hr0 hlk hC hI dX3_tellReceipt_164 rfl (by unfold q_tellReceipt; skip; (try simp only [q1]); (first | rw [if_pos c4] | rw [if_neg c4] | skip); (first | rw [if_pos c5] | rw [if_neg c5] | skip); (first | rw [if_pos c6] | rw [if_neg c6] | skip); (first | rw [if_pos c7] | rw [if_neg c7] | skip); (first | rw [if_pos c8] | rw [if_neg c8] | skip); (first | rw [if_pos c12] | rw [if_neg c12] | skip); (first | rw [if_pos c16] | rw [if_neg c16] | skip); (first | rw [if_pos c20] | rw [if_neg c20] | skip); (first | rw [if_pos c21] | rw [if_neg c21] | skip); try first | with_reducible rfl | (unfold k_max; rfl)) rfl rfl
    by_cases c22 : w = 9
    · refine lv_tableIn (tgt := 165) hx hb dX3_tellReceipt_14 (by rw [c22]; decide) (by rw [c22]; decide) (by rw [c22]; rfl) (by decide) ?_
      refine lv_aload_n hx hb dX3_tellReceipt_165 rfl (lv_at hl 1 rfl) ?_
      refine lv_aload_n hx hb dX3_tellReceipt_166 rfl (lv_at hl 0 rfl) ?_
      refine g_callVi (rest := []) (c_X3_loanRatioBits l D tb ad hj P M r hr V i2 hi3 (hv _ (by assumption))) rfl rfl gm_X3_loanRatioBits hx hb hml hown hts hC hI (ok_c 0 hr (by decide)) (e_st hr g_us) rfl rfl qm_X3_200 rfl hl.1 rfl ⟨rfl, rfl, by decide, by decide⟩ (Nat.le_of_ble_eq_true rfl) ⟨Nat.zero_le _, Nat.zero_le _⟩ dX3_tellReceipt_167 (fun H locs hI => ?_)
      exact g_ir hQ hx hb hr0 hlk hC hI dX3_tellReceipt_170 rfl (by unfold q_tellReceipt; skip; (try simp only [q1]); (first | rw [if_pos c4] | rw [if_neg c4] | skip); (first | rw [if_pos c5] | rw [if_neg c5] | skip); (first | rw [if_pos c6] | rw [if_neg c6] | skip); (first | rw [if_pos c7] | rw [if_neg c7] | skip); (first | rw [if_pos c8] | rw [if_neg c8] | skip); (first | rw [if_pos c12] | rw [if_neg c12] | skip); (first | rw [if_pos c16] | rw [if_neg c16] | skip); (first | rw [if_pos c20] | rw [if_neg c20] | skip); (first | rw [if_pos c21] | rw [if_neg c21] | skip); (first | rw [if_pos c22] | rw [if_neg c22] | skip); try first | with_reducible rfl | (unfold k_max; rfl)) rfl rfl
    refine lv_tableOut (tgt := 171) hx hb dX3_tellReceipt_14 (by have c4i := k_ti c4 (k := 0) rfl; have c5i := k_ti c5 (k := 1) rfl; have c6i := k_ti c6 (k := 2) rfl; have c7i := k_ti c7 (k := 3) rfl; have c8i := k_ti c8 (k := 4) rfl; have c12i := k_ti c12 (k := 5) rfl; have c16i := k_ti c16 (k := 6) rfl; have c20i := k_ti c20 (k := 7) rfl; have c21i := k_ti c21 (k := 8) rfl; have c22i := k_ti c22 (k := 9) rfl; omega) (by decide) ?_
    refine lv_ldc (v := (-2000000001)) hx hb hown (hts _ qc_X3_74) dX3_tellReceipt_171 ?_
    exact g_ir hQ hx hb hr0 hlk hC hI dX3_tellReceipt_173 rfl (by unfold q_tellReceipt; skip; (try simp only [q1]); (first | rw [if_pos c4] | rw [if_neg c4] | skip); (first | rw [if_pos c5] | rw [if_neg c5] | skip); (first | rw [if_pos c6] | rw [if_neg c6] | skip); (first | rw [if_pos c7] | rw [if_neg c7] | skip); (first | rw [if_pos c8] | rw [if_neg c8] | skip); (first | rw [if_pos c12] | rw [if_neg c12] | skip); (first | rw [if_pos c16] | rw [if_neg c16] | skip); (first | rw [if_pos c20] | rw [if_neg c20] | skip); (first | rw [if_pos c21] | rw [if_neg c21] | skip); (first | rw [if_pos c22] | rw [if_neg c22] | skip); try first | with_reducible rfl | (unfold k_max; rfl)) rfl rfl
abbrev rm_X4_receiptOf : Room := { frames := 3, cells := 0, slots := 0, locals := 68 }
set_option maxHeartbeats 800000 in
set_option maxRecDepth 100000 in
theorem c_X4_receiptOf (l : Launch) (D : va_G) (tb : g_T) (ad : g_Ad) (hj : g_inj ad) (P : g_P) (M : g_M) (x : Int32) (w : Int32) (hP : ∀ i, P i < 6) (V : g_V) (hV : M (P 0) = V) (hv : ∀ i, i < 16 → 0 < q_worth V i → kPos (FP.fdiv (FP.i2f (V (12 + i) 5)) (FP.i2f (q_worth V i)))) : g_Ci l yX4_receiptOf cX4_receiptOf 3 (some .int) rm_X4_receiptOf D tb ad [.ref (ad 6 0), .int x, .int w] P (M) (q_tellReceipt V x w) P (M) := by
  refine g_go (by decide) (Nat.le_of_ble_eq_true rfl) hj ?_
  intro p e s m below meth c ls H locs R args Q hR0 hQ hx hb hml hr0 hlk hown hts hC hI hl
  subst hR0
  have hown : s.vm.findClass RX4 = some m.cls := hown
  have hl : lv_has ls 3 [(0, .ref (ad 6 0)), (1, .int x), (2, .int w)] := hl
  refine lv_aload_n hx hb dX4_receiptOf_0 rfl (lv_at hl 0 rfl) ?_
  refine g_get 3 hx hb hts hown hC hI i_X4 (by decide) (e_gr rfl) rfl (by decide) qf_X4_23 rfl rfl dX4_receiptOf_1 ?_
  refine lv_iload_n hx hb dX4_receiptOf_4 rfl (lv_at hl 1 rfl) ?_
  refine lv_iload_n hx hb dX4_receiptOf_5 rfl (lv_at hl 2 rfl) ?_
  refine g_callVi (rest := []) (c_X3_tellReceipt l D tb ad hj P M (P 0) (hP 0) V x w hv) rfl (k_eta hV) gm_X3_tellReceipt hx hb hml hown hts hC hI (ok_c 0 (hP 0) (by decide)) (e_st (hP 0) hV) rfl rfl qm_X4_79 rfl hl.1 rfl ⟨rfl, rfl, by decide, by decide⟩ (Nat.le_of_ble_eq_true rfl) ⟨Nat.zero_le _, Nat.zero_le _⟩ dX4_receiptOf_6 (fun H locs hI => ?_)
  rw [k_eta hV] at hI
  exact g_ir hQ hx hb hr0 hlk hC hI dX4_receiptOf_9 rfl (by rfl) rfl rfl
def m_receiptOf (V : g_V) (x : Int32) (w : Int32) (n : Nat) : Int32 :=
  match (m_place V x n) with | none => (-2000000001) | some i2 => (if m_in w 0 9 then (if (w) = 3 then (m_worth V i2) else if (w) = 4 then (if m_pledged V i2 then (V 1 (34 + 7 * i2 + (w.toNatClampNeg))) else (-2000000004)) else if (w) = 5 then (if m_pledged V i2 then (V 1 (34 + 7 * i2 + (w.toNatClampNeg))) else (-2000000004)) else if (w) = 6 then (if (V 1 (34 + 7 * i2 + 6)) ≤ 0 then (-2000000004) else (V 1 (34 + 7 * i2 + 6))) else if (w) = 7 then (m_share V i2 0) else if (w) = 8 then (if m_above V i2 then ((V 1 (34 + 7 * i2 + 5)) - (m_share V i2 1)) else 0) else if (w) = 9 then ((FP.fdiv (FP.i2f (V 1 (34 + 7 * i2 + 5))) (FP.i2f (m_worth V i2))).toInt32) else (V 1 (34 + 7 * i2 + ((w.toNatClampNeg) + 1)))) else (-2000000001))
