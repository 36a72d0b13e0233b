/-! ===== reads, and acts as a whole ===== -/
def u_PR (P : g_P) (M : g_M) (c : Int) (r : Int32) (P1 : g_P) (M1 : g_M) : Prop := 1 = r ∧ z_In P1 M1 (c + 1) ∧ z_Step P M P1 M1
theorem z_Step.pre {P P1 : g_P} {M M3 M1 : g_M} (h2 : M3 6 0 2 = M 6 0 2) (h0 : M3 (P 0) = M (P 0)) (h : z_Step P M3 P1 M1) : z_Step P M P1 M1 := by
  unfold z_Step at h ⊢
  rw [h2, h0] at h
  exact h
section RF
variable {W : g_V}
theorem f_no (d : (m_does (m_begins W)).1 = 1) {w : Int32} (hw : m_in w 0 2) : (m_fault W w).1 = -2000000004 := by
  unfold m_fault
  generalize m_does (m_begins W) = Z at d ⊢
  rw [if_pos hw, if_neg (show ¬ Z.1 = 0 by rw [d]; decide)]
theorem f_0 (d : (m_does (m_begins W)).1 = 0) : (m_fault W 0).1 = (m_does (m_begins W)).2 0 7 := by
  unfold m_fault
  generalize m_does (m_begins W) = Z at d ⊢
  rw [if_pos (by decide), if_pos d, if_pos rfl]
  dsimp only
  rw [m_returns_c (by decide)]
theorem f_1a (d : (m_does (m_begins W)).1 = 0) (h : (m_does (m_begins W)).2 0 10 = 0) : (m_fault W 1).1 = 1 := by
  unfold m_fault
  generalize m_does (m_begins W) = Z at d h ⊢
  rw [if_pos (by decide), if_pos d, if_neg (by decide), if_pos rfl, if_pos (show m_returns Z.2 0 10 = 0 by rw [m_returns_c (by decide)]; exact h)]
theorem f_1b (d : (m_does (m_begins W)).1 = 0) (h : (m_does (m_begins W)).2 0 10 = 1) : (m_fault W 1).1 = 2 := by
  unfold m_fault
  generalize m_does (m_begins W) = Z at d h ⊢
  rw [if_pos (by decide), if_pos d, if_neg (by decide), if_pos rfl, if_neg (show ¬ m_returns Z.2 0 10 = 0 by rw [m_returns_c (by decide), h]; decide)]
theorem f_2a (d : (m_does (m_begins W)).1 = 0) (h : (m_does (m_begins W)).2 0 10 = 0) : (m_fault W 2).1 = (m_does (m_begins W)).2 0 6 - (m_does (m_begins W)).2 0 7 := by
  unfold m_fault
  generalize m_does (m_begins W) = Z at d h ⊢
  rw [if_pos (by decide), if_pos d, if_neg (by decide), if_neg (by decide), if_pos (show m_returns Z.2 0 10 = 0 by rw [m_returns_c (by decide)]; exact h)]
  dsimp only
  rw [m_returns_c (by decide)]
theorem f_2b (d : (m_does (m_begins W)).1 = 0) (h : (m_does (m_begins W)).2 0 10 = 1) : (m_fault W 2).1 = (m_does (m_begins W)).2 0 9 := by
  unfold m_fault
  generalize m_does (m_begins W) = Z at d h ⊢
  rw [if_pos (by decide), if_pos d, if_neg (by decide), if_neg (by decide), if_neg (show ¬ m_returns Z.2 0 10 = 0 by rw [m_returns_c (by decide), h]; decide)]
  dsimp only
  rw [m_returns_c (by decide)]
theorem nI_subN {a b : Nat} (h : b ≤ a) (ha : a < 1000) : nI a - nI b = nI (a - b) := by
  refine z_ext ?_
  have e1 : (nI a).toInt = a := nI_toInt (by omega)
  have e2 : (nI b).toInt = b := nI_toInt (by omega)
  rw [z_sub (by rw [e1, e2]; omega) (by rw [e1, e2]; omega), e1, e2, nI_toInt (by omega)]
  omega
end RF
abbrev rm_L_reads : Room := { frames := 7, cells := 0, slots := 0, locals := 156 }
set_option maxHeartbeats 4000000 in
set_option maxRecDepth 100000 in
theorem c_L_reads (l : Launch) (D : va_G) (tb : g_T) (ad : g_Ad) (hj : g_inj ad) (P : g_P) (M : g_M) {c0 : Int} (hi0 : z_In P M c0) (h0 : 0 ≤ c0) (h1 : c0 ≤ 511) : g_Cx l yL_reads cL_reads 8 (some .boolean) rm_L_reads D tb ad [.ref (ad 6 0)] P M (u_PR P M c0) := by
  refine g_go (by decide) (Nat.le_of_ble_eq_true rfl) hj ?_
  intro p e s m below meth c ls H locs R args Q hR0 hQ hx hb hml hr0 hlk hown hts hC hI hl
  subst hR0
  have hown : s.vm.findClass RL = some m.cls := hown
  have hl : lv_has ls 8 [(0, .ref (ad 6 0))] := hl
  have X : L_x p s m args c cL_reads 8 D tb ad (g_A ad) := ⟨hx, hb, hml, hown, hts, hC, hj⟩
  have hz : z_Rel P M (61 * c0) (-(990000 * c0)) (3960000 * c0) := hi0.1
  obtain ⟨ln, hlen, h60, hres⟩ := r_does hz (by omega) (by omega) (by omega)
  have hF0 : z_Fx P M M := ⟨rfl, rfl, rfl, fun _ _ _ => rfl⟩
  rcases hres with ⟨d1, cn, d8, d3⟩ | ⟨d0, pp, qq, hp, hpq, hq, d7, d6, hd⟩
  · refine lv_aload_n hx hb dL_reads_0 rfl (lv_at hl 0 rfl) ?_
    refine lv_iconst (v := 0) hx hb dL_reads_1 (by decide) ?_
    refine r_fault (rest := []) X hI hz (by omega) (by omega) (by omega) (by decide) hl.1 rfl ⟨rfl, rfl, by decide, by decide⟩ (Nat.le_of_ble_eq_true rfl) ⟨Nat.zero_le _, Nat.zero_le _⟩ dL_reads_2 (fun M1 hz1 hG1 H locs hI => ?_)
    have hF1 := hF0.tr hG1
    refine g_te (y := (-2000000004)) (by rw [hF0.1]; exact f_no d1 (show m_in 0 0 2 by decide)) ?_
    refine lv_istore_n (lv' := [(1, .int (-2000000004)), (0, .ref (ad 6 0))]) hx hb dL_reads_5 rfl hl (by decide) rfl (fun ls hl => ?_)
    refine lv_aload_n hx hb dL_reads_6 rfl (lv_at hl 1 rfl) ?_
    refine lv_iconst (v := 1) hx hb dL_reads_7 (by decide) ?_
    refine r_fault (rest := []) X hI hz1 (by omega) (by omega) (by omega) (by decide) hl.1 rfl ⟨rfl, rfl, by decide, by decide⟩ (Nat.le_of_ble_eq_true rfl) ⟨Nat.zero_le _, Nat.zero_le _⟩ dL_reads_8 (fun M2 hz2 hG2 H locs hI => ?_)
    have hF2 := hF1.tr hG2
    refine g_te (y := (-2000000004)) (by rw [hF1.1]; exact f_no d1 (show m_in 1 0 2 by decide)) ?_
    refine lv_istore_n (lv' := [(2, .int (-2000000004)), (1, .int (-2000000004)), (0, .ref (ad 6 0))]) hx hb dL_reads_11 rfl hl (by decide) rfl (fun ls hl => ?_)
    refine lv_aload_n hx hb dL_reads_12 rfl (lv_at hl 2 rfl) ?_
    refine lv_iconst (v := 2) hx hb dL_reads_13 (by decide) ?_
    refine r_fault (rest := []) X hI hz2 (by omega) (by omega) (by omega) (by decide) hl.1 rfl ⟨rfl, rfl, by decide, by decide⟩ (Nat.le_of_ble_eq_true rfl) ⟨Nat.zero_le _, Nat.zero_le _⟩ dL_reads_14 (fun M3 hz3 hG3 H locs hI => ?_)
    have hF3 := hF2.tr hG3
    refine g_te (y := (-2000000004)) (by rw [hF2.1]; exact f_no d1 (show m_in 2 0 2 by decide)) ?_
    refine lv_istore_n (lv' := [(3, .int (-2000000004)), (2, .int (-2000000004)), (1, .int (-2000000004)), (0, .ref (ad 6 0))]) hx hb dL_reads_17 rfl hl (by decide) rfl (fun ls hl => ?_)
    refine lv_aload_n hx hb dL_reads_18 rfl (lv_at hl 3 rfl) ?_
    refine lv_bipush (v := 9) hx hb dL_reads_19 (by decide) ?_
    refine r_count (rest := []) X hI hz3 hl.1 rfl ⟨rfl, rfl, by decide, by decide⟩ (Nat.le_of_ble_eq_true rfl) ⟨Nat.zero_le _, Nat.zero_le _⟩ dL_reads_21 (fun H locs hI => ?_)
    refine g_te (y := (nI ln)) ((show q_cnt P M3 9 = M3 6 1 2 from rfl).trans (hF3.2.1.trans hlen)) ?_
    refine lv_istore (lv' := [(4, .int (nI ln)), (3, .int (-2000000004)), (2, .int (-2000000004)), (1, .int (-2000000004)), (0, .ref (ad 6 0))]) hx hb dL_reads_24 hl (by decide) rfl (fun ls hl => ?_)
    refine lv_aload_n hx hb dL_reads_26 rfl (lv_at hl 4 rfl) ?_
    refine r_play (rest := []) X hI ⟨hz3, hF3.v hi0.2⟩ h0 h1 hl.1 rfl ⟨rfl, rfl, by decide, by decide⟩ (Nat.le_of_ble_eq_true rfl) ⟨Nat.zero_le _, Nat.zero_le _⟩ dL_reads_27 (fun P4 M4 hY4 H locs hI => ?_)
    refine g_te (y := (nI cn)) (by rw [hF3.1]; rw [if_neg (show ¬ (m_does (m_begins (M 7))).1 = 0 by rw [d1]; decide)]; exact d8) ?_
    refine lv_istore (lv' := [(5, .int (nI cn)), (4, .int (nI ln)), (3, .int (-2000000004)), (2, .int (-2000000004)), (1, .int (-2000000004)), (0, .ref (ad 6 0))]) hx hb dL_reads_30 hl (by decide) rfl (fun ls hl => ?_)
    refine lv_iload_n hx hb dL_reads_32 rfl (lv_at hl 4 rfl) ?_
    refine lv_ldc (v := (-2000000004)) hx hb hown (hts _ qc_L_43) dL_reads_33 ?_
    refine lv_icmp_ne (tgt := 68) hx hb dL_reads_35 (by decide) (fun c1 => absurd c1 (by decide)) (fun _ => ?_)
    refine lv_iload_n hx hb dL_reads_38 rfl (lv_at hl 3 rfl) ?_
    refine lv_ldc (v := (-2000000004)) hx hb hown (hts _ qc_L_43) dL_reads_39 ?_
    refine lv_icmp_ne (tgt := 68) hx hb dL_reads_41 (by decide) (fun c2 => absurd c2 (by decide)) (fun _ => ?_)
    refine lv_iload_n hx hb dL_reads_44 rfl (lv_at hl 2 rfl) ?_
    refine lv_ldc (v := (-2000000004)) hx hb hown (hts _ qc_L_43) dL_reads_45 ?_
    refine lv_icmp_ne (tgt := 68) hx hb dL_reads_47 (by decide) (fun c3 => absurd c3 (by decide)) (fun _ => ?_)
    refine lv_iload hx hb dL_reads_50 (lv_at hl 0 rfl) ?_
    refine lv_if_lt (tgt := 68) hx hb dL_reads_52 (by decide) (fun c4 => ?_) (fun c4 => ?_)
    · exact absurd c4 (nI_pos (by omega))
    · skip
      refine lv_iconst (v := 3) hx hb dL_reads_55 (by decide) ?_
      refine lv_iload hx hb dL_reads_56 (lv_at hl 0 rfl) ?_
      refine lv_imul hx hb dL_reads_58 ?_
      refine g_te (pk_mul 3 cn) ?_
      refine lv_iload hx hb dL_reads_59 (lv_at hl 1 rfl) ?_
      refine lv_icmp_gt (tgt := 68) hx hb dL_reads_61 (by decide) (fun c5 => ?_) (fun c5 => ?_)
      · (have := (nI_ltI (a := ln) (b := 3 * cn) (by omega) (by omega)).mp c5; omega)
      · skip
        refine lv_iconst (v := 1) hx hb dL_reads_64 (by decide) ?_
        refine lv_goto (tgt := 69) hx hb dL_reads_65 (by decide) ?_
        refine lv_istore (lv' := [(6, .int 1), (5, .int (nI cn)), (4, .int (nI ln)), (3, .int (-2000000004)), (2, .int (-2000000004)), (1, .int (-2000000004)), (0, .ref (ad 6 0))]) hx hb dL_reads_69 hl (by decide) rfl (fun ls hl => ?_)
        refine lv_iload_n hx hb dL_reads_71 rfl (lv_at hl 5 rfl) ?_
        refine lv_if_lt (tgt := 126) hx hb dL_reads_72 (by decide) (fun _ => ?_) (fun c6 => absurd c6 (by decide))
        refine lv_iconst (v := 0) hx hb dL_reads_126 (by decide) ?_
        refine lv_istore (lv' := [(7, .int 0), (6, .int 1), (5, .int (nI cn)), (4, .int (nI ln)), (3, .int (-2000000004)), (2, .int (-2000000004)), (1, .int (-2000000004)), (0, .ref (ad 6 0))]) hx hb dL_reads_127 hl (by decide) rfl (fun ls hl => ?_)
        refine lv_iload hx hb dL_reads_129 (lv_at hl 1 rfl) ?_
        refine lv_if_ne (tgt := 139) hx hb dL_reads_131 (by decide) (fun _ => ?_) (fun c7 => absurd c7 (by decide))
        refine lv_aload_n hx hb dL_reads_139 rfl (lv_at hl 7 rfl) ?_
        refine lv_bipush (v := 9) hx hb dL_reads_140 (by decide) ?_
        refine r_count (rest := []) X hI hY4.1.1 hl.1 rfl ⟨rfl, rfl, by decide, by decide⟩ (Nat.le_of_ble_eq_true rfl) ⟨Nat.zero_le _, Nat.zero_le _⟩ dL_reads_142 (fun H locs hI => ?_)
        refine g_te (y := (nI ln)) ((show q_cnt P4 M4 9 = M4 6 1 2 from rfl).trans (hY4.2.2.trans (hF3.2.1.trans hlen))) ?_
        refine lv_iload hx hb dL_reads_145 (lv_at hl 3 rfl) ?_
        refine lv_icmp_ne (tgt := 154) hx hb dL_reads_147 (by decide) (fun c8 => ?_) (fun c8 => ?_)
        · exact absurd rfl c8
        · skip
          refine lv_iconst (v := 1) hx hb dL_reads_150 (by decide) ?_
          refine lv_goto (tgt := 155) hx hb dL_reads_151 (by decide) ?_
          exact g_xr (Post := u_PR P M c0) hQ hx hb hr0 hlk hC hI dL_reads_155 rfl ⟨rfl, hY4.1, z_Step.pre hF3.2.2.1 (hF3.2.2.2 0 (by decide) (by decide)) hY4.2.1⟩
  · rcases hd with hd | ⟨hd, he⟩
    · refine lv_aload_n hx hb dL_reads_0 rfl (lv_at hl 0 rfl) ?_
      refine lv_iconst (v := 0) hx hb dL_reads_1 (by decide) ?_
      refine r_fault (rest := []) X hI hz (by omega) (by omega) (by omega) (by decide) hl.1 rfl ⟨rfl, rfl, by decide, by decide⟩ (Nat.le_of_ble_eq_true rfl) ⟨Nat.zero_le _, Nat.zero_le _⟩ dL_reads_2 (fun M5 hz5 hG5 H locs hI => ?_)
      have hF5 := hF0.tr hG5
      refine g_te (y := (nI pp)) (by rw [hF0.1]; rw [f_0 d0]; exact d7) ?_
      refine lv_istore_n (lv' := [(1, .int (nI pp)), (0, .ref (ad 6 0))]) hx hb dL_reads_5 rfl hl (by decide) rfl (fun ls hl => ?_)
      refine lv_aload_n hx hb dL_reads_6 rfl (lv_at hl 1 rfl) ?_
      refine lv_iconst (v := 1) hx hb dL_reads_7 (by decide) ?_
      refine r_fault (rest := []) X hI hz5 (by omega) (by omega) (by omega) (by decide) hl.1 rfl ⟨rfl, rfl, by decide, by decide⟩ (Nat.le_of_ble_eq_true rfl) ⟨Nat.zero_le _, Nat.zero_le _⟩ dL_reads_8 (fun M6 hz6 hG6 H locs hI => ?_)
      have hF6 := hF5.tr hG6
      refine g_te (y := 1) (by rw [hF5.1]; exact f_1a d0 hd) ?_
      refine lv_istore_n (lv' := [(2, .int 1), (1, .int (nI pp)), (0, .ref (ad 6 0))]) hx hb dL_reads_11 rfl hl (by decide) rfl (fun ls hl => ?_)
      refine lv_aload_n hx hb dL_reads_12 rfl (lv_at hl 2 rfl) ?_
      refine lv_iconst (v := 2) hx hb dL_reads_13 (by decide) ?_
      refine r_fault (rest := []) X hI hz6 (by omega) (by omega) (by omega) (by decide) hl.1 rfl ⟨rfl, rfl, by decide, by decide⟩ (Nat.le_of_ble_eq_true rfl) ⟨Nat.zero_le _, Nat.zero_le _⟩ dL_reads_14 (fun M7 hz7 hG7 H locs hI => ?_)
      have hF7 := hF6.tr hG7
      refine g_te (y := (nI (qq - pp))) (by rw [hF6.1]; rw [f_2a d0 hd, d6, d7]; exact nI_subN hpq (by omega)) ?_
      refine lv_istore_n (lv' := [(3, .int (nI (qq - pp))), (2, .int 1), (1, .int (nI pp)), (0, .ref (ad 6 0))]) hx hb dL_reads_17 rfl hl (by decide) rfl (fun ls hl => ?_)
      refine lv_aload_n hx hb dL_reads_18 rfl (lv_at hl 3 rfl) ?_
      refine lv_bipush (v := 9) hx hb dL_reads_19 (by decide) ?_
      refine r_count (rest := []) X hI hz7 hl.1 rfl ⟨rfl, rfl, by decide, by decide⟩ (Nat.le_of_ble_eq_true rfl) ⟨Nat.zero_le _, Nat.zero_le _⟩ dL_reads_21 (fun H locs hI => ?_)
      refine g_te (y := (nI ln)) ((show q_cnt P M7 9 = M7 6 1 2 from rfl).trans (hF7.2.1.trans hlen)) ?_
      refine lv_istore (lv' := [(4, .int (nI ln)), (3, .int (nI (qq - pp))), (2, .int 1), (1, .int (nI pp)), (0, .ref (ad 6 0))]) hx hb dL_reads_24 hl (by decide) rfl (fun ls hl => ?_)
      refine lv_aload_n hx hb dL_reads_26 rfl (lv_at hl 4 rfl) ?_
      refine r_play (rest := []) X hI ⟨hz7, hF7.v hi0.2⟩ h0 h1 hl.1 rfl ⟨rfl, rfl, by decide, by decide⟩ (Nat.le_of_ble_eq_true rfl) ⟨Nat.zero_le _, Nat.zero_le _⟩ dL_reads_27 (fun P8 M8 hY8 H locs hI => ?_)
      refine g_te (y := (-2000000002)) (by rw [hF7.1]; rw [if_pos d0]) ?_
      refine lv_istore (lv' := [(5, .int (-2000000002)), (4, .int (nI ln)), (3, .int (nI (qq - pp))), (2, .int 1), (1, .int (nI pp)), (0, .ref (ad 6 0))]) hx hb dL_reads_30 hl (by decide) rfl (fun ls hl => ?_)
      refine lv_iload_n hx hb dL_reads_32 rfl (lv_at hl 4 rfl) ?_
      refine lv_ldc (v := (-2000000004)) hx hb hown (hts _ qc_L_43) dL_reads_33 ?_
      refine lv_icmp_ne (tgt := 68) hx hb dL_reads_35 (by decide) (fun c101 => ?_) (fun c101 => ?_)
      · skip
        refine lv_iconst (v := 0) hx hb dL_reads_68 (by decide) ?_
        refine lv_istore (lv' := [(6, .int 0), (5, .int (-2000000002)), (4, .int (nI ln)), (3, .int (nI (qq - pp))), (2, .int 1), (1, .int (nI pp)), (0, .ref (ad 6 0))]) hx hb dL_reads_69 hl (by decide) rfl (fun ls hl => ?_)
        refine lv_iload_n hx hb dL_reads_71 rfl (lv_at hl 5 rfl) ?_
        refine lv_if_lt (tgt := 126) hx hb dL_reads_72 (by decide) (fun c102 => ?_) (fun c102 => ?_)
        · exact absurd c102 (nI_pos (by omega))
        · skip
          refine lv_iload_n hx hb dL_reads_75 rfl (lv_at hl 5 rfl) ?_
          refine lv_iload hx hb dL_reads_76 (lv_at hl 2 rfl) ?_
          refine lv_icmp_ge (tgt := 126) hx hb dL_reads_78 (by decide) (fun c103 => ?_) (fun c103 => ?_)
          · exact absurd c103 (nI_ge hp (by omega))
          · skip
            refine lv_iload hx hb dL_reads_81 (lv_at hl 1 rfl) ?_
            refine lv_ldc (v := (-2000000002)) hx hb hown (hts _ qc_L_65) dL_reads_83 ?_
            refine lv_icmp_ne (tgt := 126) hx hb dL_reads_85 (by decide) (fun c104 => absurd c104 (by decide)) (fun _ => ?_)
            refine lv_iload_n hx hb dL_reads_88 rfl (lv_at hl 4 rfl) ?_
            refine lv_iconst (v := 1) hx hb dL_reads_89 (by decide) ?_
            refine lv_icmp_ne (tgt := 105) hx hb dL_reads_90 (by decide) (fun c105 => absurd c105 (by decide)) (fun _ => ?_)
            refine lv_iload_n hx hb dL_reads_93 rfl (lv_at hl 3 rfl) ?_
            refine lv_if_lt (tgt := 105) hx hb dL_reads_94 (by decide) (fun c106 => ?_) (fun c106 => ?_)
            · exact absurd c106 (nI_pos (by omega))
            · skip
              refine lv_iload_n hx hb dL_reads_97 rfl (lv_at hl 5 rfl) ?_
              refine lv_iload_n hx hb dL_reads_98 rfl (lv_at hl 3 rfl) ?_
              refine lv_iadd hx hb dL_reads_99 ?_
              refine g_te (nI_add pp (qq - pp)) ?_
              refine lv_iload hx hb dL_reads_100 (lv_at hl 2 rfl) ?_
              refine lv_icmp_le (tgt := 122) hx hb dL_reads_102 (by decide) (fun c107 => ?_) (fun c107 => ?_)
              · skip
                refine lv_iconst (v := 1) hx hb dL_reads_122 (by decide) ?_
                refine lv_goto (tgt := 127) hx hb dL_reads_123 (by decide) ?_
                refine lv_istore (lv' := [(7, .int 1), (6, .int 0), (5, .int (-2000000002)), (4, .int (nI ln)), (3, .int (nI (qq - pp))), (2, .int 1), (1, .int (nI pp)), (0, .ref (ad 6 0))]) hx hb dL_reads_127 hl (by decide) rfl (fun ls hl => ?_)
                refine lv_iload hx hb dL_reads_129 (lv_at hl 1 rfl) ?_
                refine lv_if_ne (tgt := 139) hx hb dL_reads_131 (by decide) (fun c108 => absurd c108 (by decide)) (fun _ => ?_)
                refine lv_iload hx hb dL_reads_134 (lv_at hl 0 rfl) ?_
                refine lv_if_eq (tgt := 154) hx hb dL_reads_136 (by decide) (fun c109 => absurd c109 (by decide)) (fun _ => ?_)
                refine lv_aload_n hx hb dL_reads_139 rfl (lv_at hl 7 rfl) ?_
                refine lv_bipush (v := 9) hx hb dL_reads_140 (by decide) ?_
                refine r_count (rest := []) X hI hY8.1.1 hl.1 rfl ⟨rfl, rfl, by decide, by decide⟩ (Nat.le_of_ble_eq_true rfl) ⟨Nat.zero_le _, Nat.zero_le _⟩ dL_reads_142 (fun H locs hI => ?_)
                refine g_te (y := (nI ln)) ((show q_cnt P8 M8 9 = M8 6 1 2 from rfl).trans (hY8.2.2.trans (hF7.2.1.trans hlen))) ?_
                refine lv_iload hx hb dL_reads_145 (lv_at hl 3 rfl) ?_
                refine lv_icmp_ne (tgt := 154) hx hb dL_reads_147 (by decide) (fun c110 => ?_) (fun c110 => ?_)
                · exact absurd rfl c110
                · skip
                  refine lv_iconst (v := 1) hx hb dL_reads_150 (by decide) ?_
                  refine lv_goto (tgt := 155) hx hb dL_reads_151 (by decide) ?_
                  exact g_xr (Post := u_PR P M c0) hQ hx hb hr0 hlk hC hI dL_reads_155 rfl ⟨rfl, hY8.1, z_Step.pre hF7.2.2.1 (hF7.2.2.2 0 (by decide) (by decide)) hY8.2.1⟩
              · (exact absurd ((nI_leI (a := pp + (qq - pp)) (b := ln) (by omega) (by omega)).mpr (by omega)) c107)
      · (have z : (nI pp).toInt = (-2000000004 : Int32).toInt := congrArg Int32.toInt c101; rw [nI_toInt (by omega), show (-2000000004 : Int32).toInt = -2000000004 from rfl] at z; omega)
    · rcases he with he | he | he
      · refine lv_aload_n hx hb dL_reads_0 rfl (lv_at hl 0 rfl) ?_
        refine lv_iconst (v := 0) hx hb dL_reads_1 (by decide) ?_
        refine r_fault (rest := []) X hI hz (by omega) (by omega) (by omega) (by decide) hl.1 rfl ⟨rfl, rfl, by decide, by decide⟩ (Nat.le_of_ble_eq_true rfl) ⟨Nat.zero_le _, Nat.zero_le _⟩ dL_reads_2 (fun M9 hz9 hG9 H locs hI => ?_)
        have hF9 := hF0.tr hG9
        refine g_te (y := (nI pp)) (by rw [hF0.1]; rw [f_0 d0]; exact d7) ?_
        refine lv_istore_n (lv' := [(1, .int (nI pp)), (0, .ref (ad 6 0))]) hx hb dL_reads_5 rfl hl (by decide) rfl (fun ls hl => ?_)
        refine lv_aload_n hx hb dL_reads_6 rfl (lv_at hl 1 rfl) ?_
        refine lv_iconst (v := 1) hx hb dL_reads_7 (by decide) ?_
        refine r_fault (rest := []) X hI hz9 (by omega) (by omega) (by omega) (by decide) hl.1 rfl ⟨rfl, rfl, by decide, by decide⟩ (Nat.le_of_ble_eq_true rfl) ⟨Nat.zero_le _, Nat.zero_le _⟩ dL_reads_8 (fun M10 hz10 hG10 H locs hI => ?_)
        have hF10 := hF9.tr hG10
        refine g_te (y := 2) (by rw [hF9.1]; exact f_1b d0 hd) ?_
        refine lv_istore_n (lv' := [(2, .int 2), (1, .int (nI pp)), (0, .ref (ad 6 0))]) hx hb dL_reads_11 rfl hl (by decide) rfl (fun ls hl => ?_)
        refine lv_aload_n hx hb dL_reads_12 rfl (lv_at hl 2 rfl) ?_
        refine lv_iconst (v := 2) hx hb dL_reads_13 (by decide) ?_
        refine r_fault (rest := []) X hI hz10 (by omega) (by omega) (by omega) (by decide) hl.1 rfl ⟨rfl, rfl, by decide, by decide⟩ (Nat.le_of_ble_eq_true rfl) ⟨Nat.zero_le _, Nat.zero_le _⟩ dL_reads_14 (fun M11 hz11 hG11 H locs hI => ?_)
        have hF11 := hF10.tr hG11
        refine g_te (y := (-2000000001)) (by rw [hF10.1]; rw [f_2b d0 hd]; exact he) ?_
        refine lv_istore_n (lv' := [(3, .int (-2000000001)), (2, .int 2), (1, .int (nI pp)), (0, .ref (ad 6 0))]) hx hb dL_reads_17 rfl hl (by decide) rfl (fun ls hl => ?_)
        refine lv_aload_n hx hb dL_reads_18 rfl (lv_at hl 3 rfl) ?_
        refine lv_bipush (v := 9) hx hb dL_reads_19 (by decide) ?_
        refine r_count (rest := []) X hI hz11 hl.1 rfl ⟨rfl, rfl, by decide, by decide⟩ (Nat.le_of_ble_eq_true rfl) ⟨Nat.zero_le _, Nat.zero_le _⟩ dL_reads_21 (fun H locs hI => ?_)
        refine g_te (y := (nI ln)) ((show q_cnt P M11 9 = M11 6 1 2 from rfl).trans (hF11.2.1.trans hlen)) ?_
        refine lv_istore (lv' := [(4, .int (nI ln)), (3, .int (-2000000001)), (2, .int 2), (1, .int (nI pp)), (0, .ref (ad 6 0))]) hx hb dL_reads_24 hl (by decide) rfl (fun ls hl => ?_)
        refine lv_aload_n hx hb dL_reads_26 rfl (lv_at hl 4 rfl) ?_
        refine r_play (rest := []) X hI ⟨hz11, hF11.v hi0.2⟩ h0 h1 hl.1 rfl ⟨rfl, rfl, by decide, by decide⟩ (Nat.le_of_ble_eq_true rfl) ⟨Nat.zero_le _, Nat.zero_le _⟩ dL_reads_27 (fun P12 M12 hY12 H locs hI => ?_)
        refine g_te (y := (-2000000002)) (by rw [hF11.1]; rw [if_pos d0]) ?_
        refine lv_istore (lv' := [(5, .int (-2000000002)), (4, .int (nI ln)), (3, .int (-2000000001)), (2, .int 2), (1, .int (nI pp)), (0, .ref (ad 6 0))]) hx hb dL_reads_30 hl (by decide) rfl (fun ls hl => ?_)
        refine lv_iload_n hx hb dL_reads_32 rfl (lv_at hl 4 rfl) ?_
        refine lv_ldc (v := (-2000000004)) hx hb hown (hts _ qc_L_43) dL_reads_33 ?_
        refine lv_icmp_ne (tgt := 68) hx hb dL_reads_35 (by decide) (fun c201 => ?_) (fun c201 => ?_)
        · skip
          refine lv_iconst (v := 0) hx hb dL_reads_68 (by decide) ?_
          refine lv_istore (lv' := [(6, .int 0), (5, .int (-2000000002)), (4, .int (nI ln)), (3, .int (-2000000001)), (2, .int 2), (1, .int (nI pp)), (0, .ref (ad 6 0))]) hx hb dL_reads_69 hl (by decide) rfl (fun ls hl => ?_)
          refine lv_iload_n hx hb dL_reads_71 rfl (lv_at hl 5 rfl) ?_
          refine lv_if_lt (tgt := 126) hx hb dL_reads_72 (by decide) (fun c202 => ?_) (fun c202 => ?_)
          · exact absurd c202 (nI_pos (by omega))
          · skip
            refine lv_iload_n hx hb dL_reads_75 rfl (lv_at hl 5 rfl) ?_
            refine lv_iload hx hb dL_reads_76 (lv_at hl 2 rfl) ?_
            refine lv_icmp_ge (tgt := 126) hx hb dL_reads_78 (by decide) (fun c203 => ?_) (fun c203 => ?_)
            · exact absurd c203 (nI_ge hp (by omega))
            · skip
              refine lv_iload hx hb dL_reads_81 (lv_at hl 1 rfl) ?_
              refine lv_ldc (v := (-2000000002)) hx hb hown (hts _ qc_L_65) dL_reads_83 ?_
              refine lv_icmp_ne (tgt := 126) hx hb dL_reads_85 (by decide) (fun c204 => absurd c204 (by decide)) (fun _ => ?_)
              refine lv_iload_n hx hb dL_reads_88 rfl (lv_at hl 4 rfl) ?_
              refine lv_iconst (v := 1) hx hb dL_reads_89 (by decide) ?_
              refine lv_icmp_ne (tgt := 105) hx hb dL_reads_90 (by decide) (fun _ => ?_) (fun c205 => absurd c205 (by decide))
              refine lv_iload_n hx hb dL_reads_105 rfl (lv_at hl 4 rfl) ?_
              refine lv_iconst (v := 2) hx hb dL_reads_106 (by decide) ?_
              refine lv_icmp_ne (tgt := 126) hx hb dL_reads_107 (by decide) (fun c206 => absurd c206 (by decide)) (fun _ => ?_)
              refine lv_iload_n hx hb dL_reads_110 rfl (lv_at hl 3 rfl) ?_
              refine lv_ldc (v := (-2000000001)) hx hb hown (hts _ qc_L_44) dL_reads_111 ?_
              refine lv_icmp_gt (tgt := 126) hx hb dL_reads_113 (by decide) (fun c207 => absurd c207 (by decide)) (fun _ => ?_)
              refine lv_iload_n hx hb dL_reads_116 rfl (lv_at hl 3 rfl) ?_
              refine lv_ldc (v := (-2000000004)) hx hb hown (hts _ qc_L_43) dL_reads_117 ?_
              refine lv_icmp_le (tgt := 126) hx hb dL_reads_119 (by decide) (fun c208 => absurd c208 (by decide)) (fun _ => ?_)
              refine lv_iconst (v := 1) hx hb dL_reads_122 (by decide) ?_
              refine lv_goto (tgt := 127) hx hb dL_reads_123 (by decide) ?_
              refine lv_istore (lv' := [(7, .int 1), (6, .int 0), (5, .int (-2000000002)), (4, .int (nI ln)), (3, .int (-2000000001)), (2, .int 2), (1, .int (nI pp)), (0, .ref (ad 6 0))]) hx hb dL_reads_127 hl (by decide) rfl (fun ls hl => ?_)
              refine lv_iload hx hb dL_reads_129 (lv_at hl 1 rfl) ?_
              refine lv_if_ne (tgt := 139) hx hb dL_reads_131 (by decide) (fun c209 => absurd c209 (by decide)) (fun _ => ?_)
              refine lv_iload hx hb dL_reads_134 (lv_at hl 0 rfl) ?_
              refine lv_if_eq (tgt := 154) hx hb dL_reads_136 (by decide) (fun c210 => absurd c210 (by decide)) (fun _ => ?_)
              refine lv_aload_n hx hb dL_reads_139 rfl (lv_at hl 7 rfl) ?_
              refine lv_bipush (v := 9) hx hb dL_reads_140 (by decide) ?_
              refine r_count (rest := []) X hI hY12.1.1 hl.1 rfl ⟨rfl, rfl, by decide, by decide⟩ (Nat.le_of_ble_eq_true rfl) ⟨Nat.zero_le _, Nat.zero_le _⟩ dL_reads_142 (fun H locs hI => ?_)
              refine g_te (y := (nI ln)) ((show q_cnt P12 M12 9 = M12 6 1 2 from rfl).trans (hY12.2.2.trans (hF11.2.1.trans hlen))) ?_
              refine lv_iload hx hb dL_reads_145 (lv_at hl 3 rfl) ?_
              refine lv_icmp_ne (tgt := 154) hx hb dL_reads_147 (by decide) (fun c211 => ?_) (fun c211 => ?_)
              · exact absurd rfl c211
              · skip
                refine lv_iconst (v := 1) hx hb dL_reads_150 (by decide) ?_
                refine lv_goto (tgt := 155) hx hb dL_reads_151 (by decide) ?_
                exact g_xr (Post := u_PR P M c0) hQ hx hb hr0 hlk hC hI dL_reads_155 rfl ⟨rfl, hY12.1, z_Step.pre hF11.2.2.1 (hF11.2.2.2 0 (by decide) (by decide)) hY12.2.1⟩
        · (have z : (nI pp).toInt = (-2000000004 : Int32).toInt := congrArg Int32.toInt c201; rw [nI_toInt (by omega), show (-2000000004 : Int32).toInt = -2000000004 from rfl] at z; omega)
      · refine lv_aload_n hx hb dL_reads_0 rfl (lv_at hl 0 rfl) ?_
        refine lv_iconst (v := 0) hx hb dL_reads_1 (by decide) ?_
        refine r_fault (rest := []) X hI hz (by omega) (by omega) (by omega) (by decide) hl.1 rfl ⟨rfl, rfl, by decide, by decide⟩ (Nat.le_of_ble_eq_true rfl) ⟨Nat.zero_le _, Nat.zero_le _⟩ dL_reads_2 (fun M13 hz13 hG13 H locs hI => ?_)
        have hF13 := hF0.tr hG13
        refine g_te (y := (nI pp)) (by rw [hF0.1]; rw [f_0 d0]; exact d7) ?_
        refine lv_istore_n (lv' := [(1, .int (nI pp)), (0, .ref (ad 6 0))]) hx hb dL_reads_5 rfl hl (by decide) rfl (fun ls hl => ?_)
        refine lv_aload_n hx hb dL_reads_6 rfl (lv_at hl 1 rfl) ?_
        refine lv_iconst (v := 1) hx hb dL_reads_7 (by decide) ?_
        refine r_fault (rest := []) X hI hz13 (by omega) (by omega) (by omega) (by decide) hl.1 rfl ⟨rfl, rfl, by decide, by decide⟩ (Nat.le_of_ble_eq_true rfl) ⟨Nat.zero_le _, Nat.zero_le _⟩ dL_reads_8 (fun M14 hz14 hG14 H locs hI => ?_)
        have hF14 := hF13.tr hG14
        refine g_te (y := 2) (by rw [hF13.1]; exact f_1b d0 hd) ?_
        refine lv_istore_n (lv' := [(2, .int 2), (1, .int (nI pp)), (0, .ref (ad 6 0))]) hx hb dL_reads_11 rfl hl (by decide) rfl (fun ls hl => ?_)
        refine lv_aload_n hx hb dL_reads_12 rfl (lv_at hl 2 rfl) ?_
        refine lv_iconst (v := 2) hx hb dL_reads_13 (by decide) ?_
        refine r_fault (rest := []) X hI hz14 (by omega) (by omega) (by omega) (by decide) hl.1 rfl ⟨rfl, rfl, by decide, by decide⟩ (Nat.le_of_ble_eq_true rfl) ⟨Nat.zero_le _, Nat.zero_le _⟩ dL_reads_14 (fun M15 hz15 hG15 H locs hI => ?_)
        have hF15 := hF14.tr hG15
        refine g_te (y := (-2000000002)) (by rw [hF14.1]; rw [f_2b d0 hd]; exact he) ?_
        refine lv_istore_n (lv' := [(3, .int (-2000000002)), (2, .int 2), (1, .int (nI pp)), (0, .ref (ad 6 0))]) hx hb dL_reads_17 rfl hl (by decide) rfl (fun ls hl => ?_)
        refine lv_aload_n hx hb dL_reads_18 rfl (lv_at hl 3 rfl) ?_
        refine lv_bipush (v := 9) hx hb dL_reads_19 (by decide) ?_
        refine r_count (rest := []) X hI hz15 hl.1 rfl ⟨rfl, rfl, by decide, by decide⟩ (Nat.le_of_ble_eq_true rfl) ⟨Nat.zero_le _, Nat.zero_le _⟩ dL_reads_21 (fun H locs hI => ?_)
        refine g_te (y := (nI ln)) ((show q_cnt P M15 9 = M15 6 1 2 from rfl).trans (hF15.2.1.trans hlen)) ?_
        refine lv_istore (lv' := [(4, .int (nI ln)), (3, .int (-2000000002)), (2, .int 2), (1, .int (nI pp)), (0, .ref (ad 6 0))]) hx hb dL_reads_24 hl (by decide) rfl (fun ls hl => ?_)
        refine lv_aload_n hx hb dL_reads_26 rfl (lv_at hl 4 rfl) ?_
        refine r_play (rest := []) X hI ⟨hz15, hF15.v hi0.2⟩ h0 h1 hl.1 rfl ⟨rfl, rfl, by decide, by decide⟩ (Nat.le_of_ble_eq_true rfl) ⟨Nat.zero_le _, Nat.zero_le _⟩ dL_reads_27 (fun P16 M16 hY16 H locs hI => ?_)
        refine g_te (y := (-2000000002)) (by rw [hF15.1]; rw [if_pos d0]) ?_
        refine lv_istore (lv' := [(5, .int (-2000000002)), (4, .int (nI ln)), (3, .int (-2000000002)), (2, .int 2), (1, .int (nI pp)), (0, .ref (ad 6 0))]) hx hb dL_reads_30 hl (by decide) rfl (fun ls hl => ?_)
        refine lv_iload_n hx hb dL_reads_32 rfl (lv_at hl 4 rfl) ?_
        refine lv_ldc (v := (-2000000004)) hx hb hown (hts _ qc_L_43) dL_reads_33 ?_
        refine lv_icmp_ne (tgt := 68) hx hb dL_reads_35 (by decide) (fun c301 => ?_) (fun c301 => ?_)
        · skip
          refine lv_iconst (v := 0) hx hb dL_reads_68 (by decide) ?_
          refine lv_istore (lv' := [(6, .int 0), (5, .int (-2000000002)), (4, .int (nI ln)), (3, .int (-2000000002)), (2, .int 2), (1, .int (nI pp)), (0, .ref (ad 6 0))]) hx hb dL_reads_69 hl (by decide) rfl (fun ls hl => ?_)
          refine lv_iload_n hx hb dL_reads_71 rfl (lv_at hl 5 rfl) ?_
          refine lv_if_lt (tgt := 126) hx hb dL_reads_72 (by decide) (fun c302 => ?_) (fun c302 => ?_)
          · exact absurd c302 (nI_pos (by omega))
          · skip
            refine lv_iload_n hx hb dL_reads_75 rfl (lv_at hl 5 rfl) ?_
            refine lv_iload hx hb dL_reads_76 (lv_at hl 2 rfl) ?_
            refine lv_icmp_ge (tgt := 126) hx hb dL_reads_78 (by decide) (fun c303 => ?_) (fun c303 => ?_)
            · exact absurd c303 (nI_ge hp (by omega))
            · skip
              refine lv_iload hx hb dL_reads_81 (lv_at hl 1 rfl) ?_
              refine lv_ldc (v := (-2000000002)) hx hb hown (hts _ qc_L_65) dL_reads_83 ?_
              refine lv_icmp_ne (tgt := 126) hx hb dL_reads_85 (by decide) (fun c304 => absurd c304 (by decide)) (fun _ => ?_)
              refine lv_iload_n hx hb dL_reads_88 rfl (lv_at hl 4 rfl) ?_
              refine lv_iconst (v := 1) hx hb dL_reads_89 (by decide) ?_
              refine lv_icmp_ne (tgt := 105) hx hb dL_reads_90 (by decide) (fun _ => ?_) (fun c305 => absurd c305 (by decide))
              refine lv_iload_n hx hb dL_reads_105 rfl (lv_at hl 4 rfl) ?_
              refine lv_iconst (v := 2) hx hb dL_reads_106 (by decide) ?_
              refine lv_icmp_ne (tgt := 126) hx hb dL_reads_107 (by decide) (fun c306 => absurd c306 (by decide)) (fun _ => ?_)
              refine lv_iload_n hx hb dL_reads_110 rfl (lv_at hl 3 rfl) ?_
              refine lv_ldc (v := (-2000000001)) hx hb hown (hts _ qc_L_44) dL_reads_111 ?_
              refine lv_icmp_gt (tgt := 126) hx hb dL_reads_113 (by decide) (fun c307 => absurd c307 (by decide)) (fun _ => ?_)
              refine lv_iload_n hx hb dL_reads_116 rfl (lv_at hl 3 rfl) ?_
              refine lv_ldc (v := (-2000000004)) hx hb hown (hts _ qc_L_43) dL_reads_117 ?_
              refine lv_icmp_le (tgt := 126) hx hb dL_reads_119 (by decide) (fun c308 => absurd c308 (by decide)) (fun _ => ?_)
              refine lv_iconst (v := 1) hx hb dL_reads_122 (by decide) ?_
              refine lv_goto (tgt := 127) hx hb dL_reads_123 (by decide) ?_
              refine lv_istore (lv' := [(7, .int 1), (6, .int 0), (5, .int (-2000000002)), (4, .int (nI ln)), (3, .int (-2000000002)), (2, .int 2), (1, .int (nI pp)), (0, .ref (ad 6 0))]) hx hb dL_reads_127 hl (by decide) rfl (fun ls hl => ?_)
              refine lv_iload hx hb dL_reads_129 (lv_at hl 1 rfl) ?_
              refine lv_if_ne (tgt := 139) hx hb dL_reads_131 (by decide) (fun c309 => absurd c309 (by decide)) (fun _ => ?_)
              refine lv_iload hx hb dL_reads_134 (lv_at hl 0 rfl) ?_
              refine lv_if_eq (tgt := 154) hx hb dL_reads_136 (by decide) (fun c310 => absurd c310 (by decide)) (fun _ => ?_)
              refine lv_aload_n hx hb dL_reads_139 rfl (lv_at hl 7 rfl) ?_
              refine lv_bipush (v := 9) hx hb dL_reads_140 (by decide) ?_
              refine r_count (rest := []) X hI hY16.1.1 hl.1 rfl ⟨rfl, rfl, by decide, by decide⟩ (Nat.le_of_ble_eq_true rfl) ⟨Nat.zero_le _, Nat.zero_le _⟩ dL_reads_142 (fun H locs hI => ?_)
              refine g_te (y := (nI ln)) ((show q_cnt P16 M16 9 = M16 6 1 2 from rfl).trans (hY16.2.2.trans (hF15.2.1.trans hlen))) ?_
              refine lv_iload hx hb dL_reads_145 (lv_at hl 3 rfl) ?_
              refine lv_icmp_ne (tgt := 154) hx hb dL_reads_147 (by decide) (fun c311 => ?_) (fun c311 => ?_)
              · exact absurd rfl c311
              · skip
                refine lv_iconst (v := 1) hx hb dL_reads_150 (by decide) ?_
                refine lv_goto (tgt := 155) hx hb dL_reads_151 (by decide) ?_
                exact g_xr (Post := u_PR P M c0) hQ hx hb hr0 hlk hC hI dL_reads_155 rfl ⟨rfl, hY16.1, z_Step.pre hF15.2.2.1 (hF15.2.2.2 0 (by decide) (by decide)) hY16.2.1⟩
        · (have z : (nI pp).toInt = (-2000000004 : Int32).toInt := congrArg Int32.toInt c301; rw [nI_toInt (by omega), show (-2000000004 : Int32).toInt = -2000000004 from rfl] at z; omega)
      · refine lv_aload_n hx hb dL_reads_0 rfl (lv_at hl 0 rfl) ?_
        refine lv_iconst (v := 0) hx hb dL_reads_1 (by decide) ?_
        refine r_fault (rest := []) X hI hz (by omega) (by omega) (by omega) (by decide) hl.1 rfl ⟨rfl, rfl, by decide, by decide⟩ (Nat.le_of_ble_eq_true rfl) ⟨Nat.zero_le _, Nat.zero_le _⟩ dL_reads_2 (fun M17 hz17 hG17 H locs hI => ?_)
        have hF17 := hF0.tr hG17
        refine g_te (y := (nI pp)) (by rw [hF0.1]; rw [f_0 d0]; exact d7) ?_
        refine lv_istore_n (lv' := [(1, .int (nI pp)), (0, .ref (ad 6 0))]) hx hb dL_reads_5 rfl hl (by decide) rfl (fun ls hl => ?_)
        refine lv_aload_n hx hb dL_reads_6 rfl (lv_at hl 1 rfl) ?_
        refine lv_iconst (v := 1) hx hb dL_reads_7 (by decide) ?_
        refine r_fault (rest := []) X hI hz17 (by omega) (by omega) (by omega) (by decide) hl.1 rfl ⟨rfl, rfl, by decide, by decide⟩ (Nat.le_of_ble_eq_true rfl) ⟨Nat.zero_le _, Nat.zero_le _⟩ dL_reads_8 (fun M18 hz18 hG18 H locs hI => ?_)
        have hF18 := hF17.tr hG18
        refine g_te (y := 2) (by rw [hF17.1]; exact f_1b d0 hd) ?_
        refine lv_istore_n (lv' := [(2, .int 2), (1, .int (nI pp)), (0, .ref (ad 6 0))]) hx hb dL_reads_11 rfl hl (by decide) rfl (fun ls hl => ?_)
        refine lv_aload_n hx hb dL_reads_12 rfl (lv_at hl 2 rfl) ?_
        refine lv_iconst (v := 2) hx hb dL_reads_13 (by decide) ?_
        refine r_fault (rest := []) X hI hz18 (by omega) (by omega) (by omega) (by decide) hl.1 rfl ⟨rfl, rfl, by decide, by decide⟩ (Nat.le_of_ble_eq_true rfl) ⟨Nat.zero_le _, Nat.zero_le _⟩ dL_reads_14 (fun M19 hz19 hG19 H locs hI => ?_)
        have hF19 := hF18.tr hG19
        refine g_te (y := (-2000000003)) (by rw [hF18.1]; rw [f_2b d0 hd]; exact he) ?_
        refine lv_istore_n (lv' := [(3, .int (-2000000003)), (2, .int 2), (1, .int (nI pp)), (0, .ref (ad 6 0))]) hx hb dL_reads_17 rfl hl (by decide) rfl (fun ls hl => ?_)
        refine lv_aload_n hx hb dL_reads_18 rfl (lv_at hl 3 rfl) ?_
        refine lv_bipush (v := 9) hx hb dL_reads_19 (by decide) ?_
        refine r_count (rest := []) X hI hz19 hl.1 rfl ⟨rfl, rfl, by decide, by decide⟩ (Nat.le_of_ble_eq_true rfl) ⟨Nat.zero_le _, Nat.zero_le _⟩ dL_reads_21 (fun H locs hI => ?_)
        refine g_te (y := (nI ln)) ((show q_cnt P M19 9 = M19 6 1 2 from rfl).trans (hF19.2.1.trans hlen)) ?_
        refine lv_istore (lv' := [(4, .int (nI ln)), (3, .int (-2000000003)), (2, .int 2), (1, .int (nI pp)), (0, .ref (ad 6 0))]) hx hb dL_reads_24 hl (by decide) rfl (fun ls hl => ?_)
        refine lv_aload_n hx hb dL_reads_26 rfl (lv_at hl 4 rfl) ?_
        refine r_play (rest := []) X hI ⟨hz19, hF19.v hi0.2⟩ h0 h1 hl.1 rfl ⟨rfl, rfl, by decide, by decide⟩ (Nat.le_of_ble_eq_true rfl) ⟨Nat.zero_le _, Nat.zero_le _⟩ dL_reads_27 (fun P20 M20 hY20 H locs hI => ?_)
        refine g_te (y := (-2000000002)) (by rw [hF19.1]; rw [if_pos d0]) ?_
        refine lv_istore (lv' := [(5, .int (-2000000002)), (4, .int (nI ln)), (3, .int (-2000000003)), (2, .int 2), (1, .int (nI pp)), (0, .ref (ad 6 0))]) hx hb dL_reads_30 hl (by decide) rfl (fun ls hl => ?_)
        refine lv_iload_n hx hb dL_reads_32 rfl (lv_at hl 4 rfl) ?_
        refine lv_ldc (v := (-2000000004)) hx hb hown (hts _ qc_L_43) dL_reads_33 ?_
        refine lv_icmp_ne (tgt := 68) hx hb dL_reads_35 (by decide) (fun c401 => ?_) (fun c401 => ?_)
        · skip
          refine lv_iconst (v := 0) hx hb dL_reads_68 (by decide) ?_
          refine lv_istore (lv' := [(6, .int 0), (5, .int (-2000000002)), (4, .int (nI ln)), (3, .int (-2000000003)), (2, .int 2), (1, .int (nI pp)), (0, .ref (ad 6 0))]) hx hb dL_reads_69 hl (by decide) rfl (fun ls hl => ?_)
          refine lv_iload_n hx hb dL_reads_71 rfl (lv_at hl 5 rfl) ?_
          refine lv_if_lt (tgt := 126) hx hb dL_reads_72 (by decide) (fun c402 => ?_) (fun c402 => ?_)
          · exact absurd c402 (nI_pos (by omega))
          · skip
            refine lv_iload_n hx hb dL_reads_75 rfl (lv_at hl 5 rfl) ?_
            refine lv_iload hx hb dL_reads_76 (lv_at hl 2 rfl) ?_
            refine lv_icmp_ge (tgt := 126) hx hb dL_reads_78 (by decide) (fun c403 => ?_) (fun c403 => ?_)
            · exact absurd c403 (nI_ge hp (by omega))
            · skip
              refine lv_iload hx hb dL_reads_81 (lv_at hl 1 rfl) ?_
              refine lv_ldc (v := (-2000000002)) hx hb hown (hts _ qc_L_65) dL_reads_83 ?_
              refine lv_icmp_ne (tgt := 126) hx hb dL_reads_85 (by decide) (fun c404 => absurd c404 (by decide)) (fun _ => ?_)
              refine lv_iload_n hx hb dL_reads_88 rfl (lv_at hl 4 rfl) ?_
              refine lv_iconst (v := 1) hx hb dL_reads_89 (by decide) ?_
              refine lv_icmp_ne (tgt := 105) hx hb dL_reads_90 (by decide) (fun _ => ?_) (fun c405 => absurd c405 (by decide))
              refine lv_iload_n hx hb dL_reads_105 rfl (lv_at hl 4 rfl) ?_
              refine lv_iconst (v := 2) hx hb dL_reads_106 (by decide) ?_
              refine lv_icmp_ne (tgt := 126) hx hb dL_reads_107 (by decide) (fun c406 => absurd c406 (by decide)) (fun _ => ?_)
              refine lv_iload_n hx hb dL_reads_110 rfl (lv_at hl 3 rfl) ?_
              refine lv_ldc (v := (-2000000001)) hx hb hown (hts _ qc_L_44) dL_reads_111 ?_
              refine lv_icmp_gt (tgt := 126) hx hb dL_reads_113 (by decide) (fun c407 => absurd c407 (by decide)) (fun _ => ?_)
              refine lv_iload_n hx hb dL_reads_116 rfl (lv_at hl 3 rfl) ?_
              refine lv_ldc (v := (-2000000004)) hx hb hown (hts _ qc_L_43) dL_reads_117 ?_
              refine lv_icmp_le (tgt := 126) hx hb dL_reads_119 (by decide) (fun c408 => absurd c408 (by decide)) (fun _ => ?_)
              refine lv_iconst (v := 1) hx hb dL_reads_122 (by decide) ?_
              refine lv_goto (tgt := 127) hx hb dL_reads_123 (by decide) ?_
              refine lv_istore (lv' := [(7, .int 1), (6, .int 0), (5, .int (-2000000002)), (4, .int (nI ln)), (3, .int (-2000000003)), (2, .int 2), (1, .int (nI pp)), (0, .ref (ad 6 0))]) hx hb dL_reads_127 hl (by decide) rfl (fun ls hl => ?_)
              refine lv_iload hx hb dL_reads_129 (lv_at hl 1 rfl) ?_
              refine lv_if_ne (tgt := 139) hx hb dL_reads_131 (by decide) (fun c409 => absurd c409 (by decide)) (fun _ => ?_)
              refine lv_iload hx hb dL_reads_134 (lv_at hl 0 rfl) ?_
              refine lv_if_eq (tgt := 154) hx hb dL_reads_136 (by decide) (fun c410 => absurd c410 (by decide)) (fun _ => ?_)
              refine lv_aload_n hx hb dL_reads_139 rfl (lv_at hl 7 rfl) ?_
              refine lv_bipush (v := 9) hx hb dL_reads_140 (by decide) ?_
              refine r_count (rest := []) X hI hY20.1.1 hl.1 rfl ⟨rfl, rfl, by decide, by decide⟩ (Nat.le_of_ble_eq_true rfl) ⟨Nat.zero_le _, Nat.zero_le _⟩ dL_reads_142 (fun H locs hI => ?_)
              refine g_te (y := (nI ln)) ((show q_cnt P20 M20 9 = M20 6 1 2 from rfl).trans (hY20.2.2.trans (hF19.2.1.trans hlen))) ?_
              refine lv_iload hx hb dL_reads_145 (lv_at hl 3 rfl) ?_
              refine lv_icmp_ne (tgt := 154) hx hb dL_reads_147 (by decide) (fun c411 => ?_) (fun c411 => ?_)
              · exact absurd rfl c411
              · skip
                refine lv_iconst (v := 1) hx hb dL_reads_150 (by decide) ?_
                refine lv_goto (tgt := 155) hx hb dL_reads_151 (by decide) ?_
                exact g_xr (Post := u_PR P M c0) hQ hx hb hr0 hlk hC hI dL_reads_155 rfl ⟨rfl, hY20.1, z_Step.pre hF19.2.2.1 (hF19.2.2.2 0 (by decide) (by decide)) hY20.2.1⟩
        · (have z : (nI pp).toInt = (-2000000004 : Int32).toInt := congrArg Int32.toInt c401; rw [nI_toInt (by omega), show (-2000000004 : Int32).toInt = -2000000004 from rfl] at z; omega)
set_option maxHeartbeats 4000000 in
set_option maxRecDepth 100000 in
theorem c_L_acts (l : Launch) (D : va_G) (tb : g_T) (ad : g_Ad) (hj : g_inj ad) (P : g_P) (M : g_M) {c0 : Int} (hi0 : z_In P M c0) (h0 : 0 ≤ c0) (h1 : c0 ≤ 511) (x y : Int32) : g_Cx l yL_acts cL_acts 17 (some .boolean) rm_L_acts D tb ad [.ref (ad 6 0), .int x, .int y] P M (u_PR P M c0) := by
  refine g_go (by decide) (Nat.le_of_ble_eq_true rfl) hj ?_
  intro p e s m below meth c ls H locs R args Q hR0 hQ hx hb hml hr0 hlk hown hts hC hI hl
  subst hR0
  have hown : s.vm.findClass RL = some m.cls := hown
  have hl : lv_has ls 17 [(0, .ref (ad 6 0)), (1, .int x), (2, .int y)] := hl
  have X : L_x p s m args c cL_acts 17 D tb ad (g_A ad) := ⟨hx, hb, hml, hown, hts, hC, hj⟩
  have hz : z_Rel P M (61 * c0) (-(990000 * c0)) (3960000 * c0) := hi0.1
  obtain ⟨n, hr⟩ := hz.row
  have h16 : n ≤ 16 := hr.choose_spec.1.n16
  have K : ∀ (pc : Nat) (ls : Array Slot) (P1 : g_P) (M1 : g_M) (H : Heap) (locs : List Loc), decode cL_acts pc = .ok (.ireturn, 1) → z_In P1 M1 (c0 + 1) → z_Step P M P1 M1 → g_I D tb ad (g_A ad) s H locs P1 M1 → W p l e rm_L_acts s m args below meth c H locs 0 0 Q (F0 m pc ls [.int 1]) := fun pc ls P1 M1 H locs hdg a b hI => g_xr (Post := u_PR P M c0) hQ hx hb hr0 hlk hC hI hdg rfl ⟨rfl, a, b⟩
  refine lv_iload_n hx hb dL_acts_0 rfl (lv_at hl 1 rfl) ?_
  refine lv_bipush (v := 22) hx hb dL_acts_1 (by decide) ?_
  refine r_low (rest := []) X hI (by decide) hl.1 rfl ⟨rfl, rfl, by decide, by decide⟩ (Nat.le_of_ble_eq_true rfl) ⟨Nat.zero_le _, Nat.zero_le _⟩ dL_acts_3 (fun H locs hI w1 w1a w1b => ?_)
  have w1b : w1.toInt < 22 := w1b
  refine lv_istore_n (lv' := [(3, .int w1), (0, .ref (ad 6 0)), (1, .int x), (2, .int y)]) hx hb dL_acts_6 rfl hl (by decide) rfl (fun ls hl => ?_)
  refine lv_aload_n hx hb dL_acts_7 rfl (lv_at hl 1 rfl) ?_
  refine lv_iconst (v := 0) hx hb dL_acts_8 (by decide) ?_
  refine r_count (rest := []) X hI hz hl.1 rfl ⟨rfl, rfl, by decide, by decide⟩ (Nat.le_of_ble_eq_true rfl) ⟨Nat.zero_le _, Nat.zero_le _⟩ dL_acts_9 (fun H locs hI => ?_)
  refine g_te (y := (nI n)) ((q_cnt_of (by decide) (by decide)).trans (u_c0 hr)) ?_
  refine lv_istore (lv' := [(4, .int (nI n)), (3, .int w1), (0, .ref (ad 6 0)), (1, .int x), (2, .int y)]) hx hb dL_acts_12 hl (by decide) rfl (fun ls hl => ?_)
  refine lv_iload_n hx hb dL_acts_14 rfl (lv_at hl 3 rfl) ?_
  refine lv_iconst (v := 5) hx hb dL_acts_15 (by decide) ?_
  refine lv_ishr hx hb dL_acts_16 ?_
  refine lv_topi (fun sh2 _ => ?_)
  refine lv_iload hx hb dL_acts_17 (lv_at hl 0 rfl) ?_
  refine lv_iconst (v := 1) hx hb dL_acts_19 (by decide) ?_
  refine lv_iadd hx hb dL_acts_20 ?_
  refine g_te (nI_add n 1) ?_
  refine r_low (rest := []) X hI (u_pos1 h16) hl.1 rfl ⟨rfl, rfl, by decide, by decide⟩ (Nat.le_of_ble_eq_true rfl) ⟨Nat.zero_le _, Nat.zero_le _⟩ dL_acts_21 (fun H locs hI w3 w3a w3b => ?_)
  refine lv_istore (lv' := [(5, .int w3), (4, .int (nI n)), (3, .int w1), (0, .ref (ad 6 0)), (1, .int x), (2, .int y)]) hx hb dL_acts_24 hl (by decide) rfl (fun ls hl => ?_)
  refine lv_iload hx hb dL_acts_26 (lv_at hl 0 rfl) ?_
  refine lv_iload hx hb dL_acts_28 (lv_at hl 1 rfl) ?_
  refine lv_icmp_ge (tgt := 37) hx hb dL_acts_30 (by decide) (fun c4 => ?_) (fun c4 => ?_)
  · skip
    refine lv_iconst (v := 0) hx hb dL_acts_37 (by decide) ?_
    refine lv_istore (lv' := [(6, .int 0), (5, .int w3), (4, .int (nI n)), (3, .int w1), (0, .ref (ad 6 0)), (1, .int x), (2, .int y)]) hx hb dL_acts_38 hl (by decide) rfl (fun ls hl => ?_)
    refine lv_iload hx hb dL_acts_40 (lv_at hl 0 rfl) ?_
    refine lv_if_eq (tgt := 54) hx hb dL_acts_42 (by decide) (fun _ => ?_) (fun c5 => absurd c5 (by decide))
    refine lv_aload_n hx hb dL_acts_54 rfl (lv_at hl 4 rfl) ?_
    refine lv_iconst (v := 4) hx hb dL_acts_55 (by decide) ?_
    refine r_count (rest := []) X hI hz hl.1 rfl ⟨rfl, rfl, by decide, by decide⟩ (Nat.le_of_ble_eq_true rfl) ⟨Nat.zero_le _, Nat.zero_le _⟩ dL_acts_56 (fun H locs hI => ?_)
    refine g_te (y := (M 7 1 2)) ((q_cnt_of (by decide) (by decide)).trans (u_c4 hr)) ?_
    refine lv_istore (lv' := [(7, .int (M 7 1 2)), (6, .int 0), (5, .int w3), (4, .int (nI n)), (3, .int w1), (0, .ref (ad 6 0)), (1, .int x), (2, .int y)]) hx hb dL_acts_59 hl (by decide) rfl (fun ls hl => ?_)
    refine lv_iload hx hb dL_acts_61 (lv_at hl 1 rfl) ?_
    refine lv_if_eq (tgt := 76) hx hb dL_acts_63 (by decide) (fun _ => ?_) (fun c6 => absurd c6 (by decide))
    refine lv_iconst (v := 0) hx hb dL_acts_76 (by decide) ?_
    refine lv_istore (lv' := [(8, .int 0), (7, .int (M 7 1 2)), (6, .int 0), (5, .int w3), (4, .int (nI n)), (3, .int w1), (0, .ref (ad 6 0)), (1, .int x), (2, .int y)]) hx hb dL_acts_77 hl (by decide) rfl (fun ls hl => ?_)
    refine lv_iload hx hb dL_acts_79 (lv_at hl 2 rfl) ?_
    refine lv_if_eq (tgt := 94) hx hb dL_acts_81 (by decide) (fun _ => ?_) (fun c7 => absurd c7 (by decide))
    refine lv_ldc (v := (-2000000004)) hx hb hown (hts _ qc_L_43) dL_acts_94 ?_
    refine lv_istore (lv' := [(9, .int (-2000000004)), (8, .int 0), (7, .int (M 7 1 2)), (6, .int 0), (5, .int w3), (4, .int (nI n)), (3, .int w1), (0, .ref (ad 6 0)), (1, .int x), (2, .int y)]) hx hb dL_acts_96 hl (by decide) rfl (fun ls hl => ?_)
    refine lv_iload hx hb dL_acts_98 (lv_at hl 3 rfl) ?_
    refine lv_if_eq (tgt := 113) hx hb dL_acts_100 (by decide) (fun _ => ?_) (fun c8 => absurd c8 (by decide))
    refine lv_iconst (v := 0) hx hb dL_acts_113 (by decide) ?_
    refine lv_istore (lv' := [(10, .int 0), (9, .int (-2000000004)), (8, .int 0), (7, .int (M 7 1 2)), (6, .int 0), (5, .int w3), (4, .int (nI n)), (3, .int w1), (0, .ref (ad 6 0)), (1, .int x), (2, .int y)]) hx hb dL_acts_114 hl (by decide) rfl (fun ls hl => ?_)
    refine lv_iload_n hx hb dL_acts_116 rfl (lv_at hl 7 rfl) ?_
    refine lv_iconst (v := 4) hx hb dL_acts_117 (by decide) ?_
    refine lv_icmp_ge (tgt := 252) hx hb dL_acts_118 (by decide) (fun c9 => ?_) (fun c9 => ?_)
    · skip
      refine lv_iload_n hx hb dL_acts_252 rfl (lv_at hl 7 rfl) ?_
      refine lv_bipush (v := 6) hx hb dL_acts_253 (by decide) ?_
      refine lv_icmp_ge (tgt := 333) hx hb dL_acts_255 (by decide) (fun c10 => ?_) (fun c10 => ?_)
      · skip
        refine lv_iload_n hx hb dL_acts_333 rfl (lv_at hl 7 rfl) ?_
        refine lv_bipush (v := 6) hx hb dL_acts_334 (by decide) ?_
        refine lv_icmp_ne (tgt := 520) hx hb dL_acts_336 (by decide) (fun c11 => ?_) (fun c11 => ?_)
        · skip
          refine lv_iload_n hx hb dL_acts_520 rfl (lv_at hl 7 rfl) ?_
          refine lv_bipush (v := 7) hx hb dL_acts_521 (by decide) ?_
          refine lv_icmp_ne (tgt := 589) hx hb dL_acts_523 (by decide) (fun c12 => ?_) (fun c12 => ?_)
          · skip
            refine lv_iload_n hx hb dL_acts_589 rfl (lv_at hl 7 rfl) ?_
            refine lv_bipush (v := 8) hx hb dL_acts_590 (by decide) ?_
            refine lv_icmp_ne (tgt := 675) hx hb dL_acts_592 (by decide) (fun c13 => ?_) (fun c13 => ?_)
            · skip
              refine lv_iload_n hx hb dL_acts_675 rfl (lv_at hl 7 rfl) ?_
              refine lv_bipush (v := 12) hx hb dL_acts_676 (by decide) ?_
              refine lv_icmp_ge (tgt := 822) hx hb dL_acts_678 (by decide) (fun c14 => ?_) (fun c14 => ?_)
              · skip
                refine lv_iload_n hx hb dL_acts_822 rfl (lv_at hl 7 rfl) ?_
                refine lv_bipush (v := 14) hx hb dL_acts_823 (by decide) ?_
                refine lv_icmp_ge (tgt := 909) hx hb dL_acts_825 (by decide) (fun c15 => ?_) (fun c15 => ?_)
                · skip
                  refine lv_iload_n hx hb dL_acts_909 rfl (lv_at hl 7 rfl) ?_
                  refine lv_bipush (v := 14) hx hb dL_acts_910 (by decide) ?_
                  refine lv_icmp_ne (tgt := 986) hx hb dL_acts_912 (by decide) (fun c16 => ?_) (fun c16 => ?_)
                  · skip
                    refine lv_iload_n hx hb dL_acts_986 rfl (lv_at hl 7 rfl) ?_
                    refine lv_bipush (v := 15) hx hb dL_acts_987 (by decide) ?_
                    refine lv_icmp_ne (tgt := 1052) hx hb dL_acts_989 (by decide) (fun c17 => ?_) (fun c17 => ?_)
                    · skip
                      refine lv_iload_n hx hb dL_acts_1052 rfl (lv_at hl 7 rfl) ?_
                      refine lv_bipush (v := 16) hx hb dL_acts_1053 (by decide) ?_
                      refine lv_icmp_ne (tgt := 1170) hx hb dL_acts_1055 (by decide) (fun c18 => ?_) (fun c18 => ?_)
                      · skip
                        refine lv_iload_n hx hb dL_acts_1170 rfl (lv_at hl 7 rfl) ?_
                        refine lv_bipush (v := 17) hx hb dL_acts_1171 (by decide) ?_
                        refine lv_icmp_ne (tgt := 1282) hx hb dL_acts_1173 (by decide) (fun c19 => ?_) (fun c19 => ?_)
                        · skip
                          refine lv_iload_n hx hb dL_acts_1282 rfl (lv_at hl 7 rfl) ?_
                          refine lv_bipush (v := 18) hx hb dL_acts_1283 (by decide) ?_
                          refine lv_icmp_ne (tgt := 1408) hx hb dL_acts_1285 (by decide) (fun c20 => ?_) (fun c20 => ?_)
                          · skip
                            refine lv_iload_n hx hb dL_acts_1408 rfl (lv_at hl 7 rfl) ?_
                            refine lv_bipush (v := 19) hx hb dL_acts_1409 (by decide) ?_
                            refine lv_icmp_ne (tgt := 1531) hx hb dL_acts_1411 (by decide) (fun c21 => ?_) (fun c21 => ?_)
                            · skip
                              refine lv_aload_n hx hb dL_acts_1531 rfl (lv_at hl 8 rfl) ?_
                              refine lv_iload_n hx hb dL_acts_1532 rfl (lv_at hl 10 rfl) ?_
                              refine g_callSx (rest := []) (c_L_types l D tb ad hj P M hz y) gm_L_types hx hb hml hown hts hC hI qm_L_107 rfl hl.1 rfl ⟨rfl, rfl, by decide, by decide⟩ (Nat.le_of_ble_eq_true rfl) ⟨Nat.zero_le _, Nat.zero_le _⟩ dL_acts_1533 (fun r5 P5 M5 hq5 H locs hI => ?_)
                              obtain ⟨hr5, hP5, hz5, hT5⟩ := hq5
                              subst hr5; subst hP5
                              refine lv_if_eq (tgt := 1550) hx hb dL_acts_1536 (by decide) (fun c22 => absurd c22 (by decide)) (fun _ => ?_)
                              refine lv_aload_n hx hb dL_acts_1539 rfl (lv_at hl 8 rfl) ?_
                              refine g_callSx (rest := []) (c_L_reads l D tb ad hj P M5 ⟨hz5, hT5.v hz.P6 hi0.2⟩ h0 h1) gm_L_reads hx hb hml hown hts hC hI qm_L_110 rfl hl.1 rfl ⟨rfl, rfl, by decide, by decide⟩ (Nat.le_of_ble_eq_true rfl) ⟨Nat.zero_le _, Nat.zero_le _⟩ dL_acts_1540 (fun r6 P6 M6 hq6 H locs hI => ?_)
                              obtain ⟨hr6, hi6, hs6⟩ := hq6
                              subst hr6
                              refine lv_if_eq (tgt := 1550) hx hb dL_acts_1543 (by decide) (fun c23 => absurd c23 (by decide)) (fun _ => ?_)
                              refine lv_iconst (v := 1) hx hb dL_acts_1546 (by decide) ?_
                              refine lv_goto (tgt := 1551) hx hb dL_acts_1547 (by decide) ?_
                              exact K _ _ _ _ _ _ dL_acts_1551 hi6 (z_Step.pre hT5.2 (hT5.1 _ (hz.P6 0)) hs6) hI
                            · skip
                              exact a_set X hi0 h0 h1 hr K hI (lv_sub hl [0, 1, 2, 3, 4, 5, 6, 7, 10, 9, 8] rfl)
                          · skip
                            exact a_regrade X hi0 h0 h1 hr K hI (lv_sub hl [0, 1, 2, 3, 4, 5, 6, 7, 10, 9, 8] rfl)
                        · skip
                          exact a_lose X hi0 h0 h1 hr K hI (lv_sub hl [0, 1, 2, 3, 4, 5, 6, 7, 10, 9, 8] rfl)
                      · skip
                        exact a_pass X hi0 h0 h1 hr K hI (lv_sub hl [0, 1, 2, 3, 4, 5, 6, 7, 10, 9, 8] rfl)
                    · skip
                      exact a_call X hi0 h0 h1 hr K hI (lv_sub hl [0, 1, 2, 3, 4, 5, 6, 7, 10, 9, 8] rfl)
                  · skip
                    exact a_price X hi0 h0 h1 hr K hI (lv_sub hl [0, 1, 2, 3, 4, 5, 6, 7, 10, 9, 8] rfl)
                · skip
                  exact a_repay0 X hi0 h0 h1 hr K hI (lv_sub hl [0, 1, 2, 3, 4, 5, 6, 7, 10, 9, 8] rfl)
              · skip
                exact a_pledge0 X hi0 h0 h1 hr K hI (lv_sub hl [0, 1, 2, 3, 4, 5, 6, 7, 10, 9, 8] rfl)
            · skip
              exact a_deliver0 X hi0 h0 h1 hr K hI (lv_sub hl [0, 1, 2, 3, 4, 5, 6, 7, 10, 9, 8] rfl)
          · skip
            exact a_hand0 X hi0 h0 h1 hr K hI (lv_sub hl [0, 1, 2, 3, 4, 5, 6, 7, 10, 9, 8] rfl)
        · skip
          exact a_join0 X hi0 h0 h1 hr K hI (lv_sub hl [0, 1, 2, 3, 4, 5, 6, 7, 10, 9, 8] rfl)
      · skip
        exact a_split0 X hi0 h0 h1 hr K hI (lv_sub hl [0, 1, 2, 3, 4, 5, 6, 7, 10, 9, 8] rfl)
    · skip
      exact a_store X hi0 h0 h1 hr K hI (lv_sub hl [0, 1, 2, 3, 4, 5, 6, 7, 10, 9, 8] rfl)
  · obtain ⟨k, hk, rfl⟩ := u_lo w3a c4 h16
    refine lv_iconst (v := 1) hx hb dL_acts_33 (by decide) ?_
    refine lv_goto (tgt := 38) hx hb dL_acts_34 (by decide) ?_
    refine lv_istore (lv' := [(6, .int 1), (5, .int (nI k)), (4, .int (nI n)), (3, .int w1), (0, .ref (ad 6 0)), (1, .int x), (2, .int y)]) hx hb dL_acts_38 hl (by decide) rfl (fun ls hl => ?_)
    refine lv_iload hx hb dL_acts_40 (lv_at hl 0 rfl) ?_
    refine lv_if_eq (tgt := 54) hx hb dL_acts_42 (by decide) (fun c24 => absurd c24 (by decide)) (fun _ => ?_)
    refine lv_aload_n hx hb dL_acts_45 rfl (lv_at hl 4 rfl) ?_
    refine lv_iload hx hb dL_acts_46 (lv_at hl 1 rfl) ?_
    refine r_receipt (rest := []) X hI hz hl.1 rfl ⟨rfl, rfl, by decide, by decide⟩ (Nat.le_of_ble_eq_true rfl) ⟨Nat.zero_le _, Nat.zero_le _⟩ dL_acts_48 (fun H locs hI => ?_)
    refine g_te (y := (M 7 1 (34 + 7 * k))) (u_num hr hk) ?_
    refine lv_goto (tgt := 59) hx hb dL_acts_51 (by decide) ?_
    refine lv_istore (lv' := [(7, .int (M 7 1 (34 + 7 * k))), (6, .int 1), (5, .int (nI k)), (4, .int (nI n)), (3, .int w1), (0, .ref (ad 6 0)), (1, .int x), (2, .int y)]) hx hb dL_acts_59 hl (by decide) rfl (fun ls hl => ?_)
    refine lv_iload hx hb dL_acts_61 (lv_at hl 1 rfl) ?_
    refine lv_if_eq (tgt := 76) hx hb dL_acts_63 (by decide) (fun c25 => absurd c25 (by decide)) (fun _ => ?_)
    refine lv_aload_n hx hb dL_acts_66 rfl (lv_at hl 5 rfl) ?_
    refine lv_iload hx hb dL_acts_67 (lv_at hl 0 rfl) ?_
    refine lv_iconst (v := 2) hx hb dL_acts_69 (by decide) ?_
    refine r_receiptOf (rest := []) X hI hz hl.1 rfl ⟨rfl, rfl, by decide, by decide⟩ (Nat.le_of_ble_eq_true rfl) ⟨Nat.zero_le _, Nat.zero_le _⟩ dL_acts_70 (fun H locs hI => ?_)
    refine g_te (y := (M 7 1 (34 + 7 * k + 3))) (u_r2 hr hk) ?_
    refine lv_goto (tgt := 77) hx hb dL_acts_73 (by decide) ?_
    refine lv_istore (lv' := [(8, .int (M 7 1 (34 + 7 * k + 3))), (7, .int (M 7 1 (34 + 7 * k))), (6, .int 1), (5, .int (nI k)), (4, .int (nI n)), (3, .int w1), (0, .ref (ad 6 0)), (1, .int x), (2, .int y)]) hx hb dL_acts_77 hl (by decide) rfl (fun ls hl => ?_)
    refine lv_iload hx hb dL_acts_79 (lv_at hl 2 rfl) ?_
    refine lv_if_eq (tgt := 94) hx hb dL_acts_81 (by decide) (fun c26 => absurd c26 (by decide)) (fun _ => ?_)
    refine lv_aload_n hx hb dL_acts_84 rfl (lv_at hl 6 rfl) ?_
    refine lv_iload hx hb dL_acts_85 (lv_at hl 1 rfl) ?_
    refine lv_iconst (v := 5) hx hb dL_acts_87 (by decide) ?_
    refine r_receiptOf (rest := []) X hI hz hl.1 rfl ⟨rfl, rfl, by decide, by decide⟩ (Nat.le_of_ble_eq_true rfl) ⟨Nat.zero_le _, Nat.zero_le _⟩ dL_acts_88 (fun H locs hI => ?_)
    refine g_te (y := (u_loan (M 7) k)) (u_r5 hr hk) ?_
    refine lv_goto (tgt := 96) hx hb dL_acts_91 (by decide) ?_
    refine lv_istore (lv' := [(9, .int (u_loan (M 7) k)), (8, .int (M 7 1 (34 + 7 * k + 3))), (7, .int (M 7 1 (34 + 7 * k))), (6, .int 1), (5, .int (nI k)), (4, .int (nI n)), (3, .int w1), (0, .ref (ad 6 0)), (1, .int x), (2, .int y)]) hx hb dL_acts_96 hl (by decide) rfl (fun ls hl => ?_)
    refine lv_iload hx hb dL_acts_98 (lv_at hl 3 rfl) ?_
    refine lv_if_eq (tgt := 113) hx hb dL_acts_100 (by decide) (fun c27 => absurd c27 (by decide)) (fun _ => ?_)
    refine lv_aload_n hx hb dL_acts_103 rfl (lv_at hl 7 rfl) ?_
    refine lv_iload hx hb dL_acts_104 (lv_at hl 2 rfl) ?_
    refine lv_iconst (v := 0) hx hb dL_acts_106 (by decide) ?_
    refine r_receiptOf (rest := []) X hI hz hl.1 rfl ⟨rfl, rfl, by decide, by decide⟩ (Nat.le_of_ble_eq_true rfl) ⟨Nat.zero_le _, Nat.zero_le _⟩ dL_acts_107 (fun H locs hI => ?_)
    refine g_te (y := (M 7 1 (34 + 7 * k + 1))) (u_r0 hr hk) ?_
    refine lv_goto (tgt := 114) hx hb dL_acts_110 (by decide) ?_
    refine lv_istore (lv' := [(10, .int (M 7 1 (34 + 7 * k + 1))), (9, .int (u_loan (M 7) k)), (8, .int (M 7 1 (34 + 7 * k + 3))), (7, .int (M 7 1 (34 + 7 * k))), (6, .int 1), (5, .int (nI k)), (4, .int (nI n)), (3, .int w1), (0, .ref (ad 6 0)), (1, .int x), (2, .int y)]) hx hb dL_acts_114 hl (by decide) rfl (fun ls hl => ?_)
    refine lv_iload_n hx hb dL_acts_116 rfl (lv_at hl 7 rfl) ?_
    refine lv_iconst (v := 4) hx hb dL_acts_117 (by decide) ?_
    refine lv_icmp_ge (tgt := 252) hx hb dL_acts_118 (by decide) (fun c28 => ?_) (fun c28 => ?_)
    · skip
      refine lv_iload_n hx hb dL_acts_252 rfl (lv_at hl 7 rfl) ?_
      refine lv_bipush (v := 6) hx hb dL_acts_253 (by decide) ?_
      refine lv_icmp_ge (tgt := 333) hx hb dL_acts_255 (by decide) (fun c29 => ?_) (fun c29 => ?_)
      · skip
        refine lv_iload_n hx hb dL_acts_333 rfl (lv_at hl 7 rfl) ?_
        refine lv_bipush (v := 6) hx hb dL_acts_334 (by decide) ?_
        refine lv_icmp_ne (tgt := 520) hx hb dL_acts_336 (by decide) (fun c30 => ?_) (fun c30 => ?_)
        · skip
          refine lv_iload_n hx hb dL_acts_520 rfl (lv_at hl 7 rfl) ?_
          refine lv_bipush (v := 7) hx hb dL_acts_521 (by decide) ?_
          refine lv_icmp_ne (tgt := 589) hx hb dL_acts_523 (by decide) (fun c31 => ?_) (fun c31 => ?_)
          · skip
            refine lv_iload_n hx hb dL_acts_589 rfl (lv_at hl 7 rfl) ?_
            refine lv_bipush (v := 8) hx hb dL_acts_590 (by decide) ?_
            refine lv_icmp_ne (tgt := 675) hx hb dL_acts_592 (by decide) (fun c32 => ?_) (fun c32 => ?_)
            · skip
              refine lv_iload_n hx hb dL_acts_675 rfl (lv_at hl 7 rfl) ?_
              refine lv_bipush (v := 12) hx hb dL_acts_676 (by decide) ?_
              refine lv_icmp_ge (tgt := 822) hx hb dL_acts_678 (by decide) (fun c33 => ?_) (fun c33 => ?_)
              · skip
                refine lv_iload_n hx hb dL_acts_822 rfl (lv_at hl 7 rfl) ?_
                refine lv_bipush (v := 14) hx hb dL_acts_823 (by decide) ?_
                refine lv_icmp_ge (tgt := 909) hx hb dL_acts_825 (by decide) (fun c34 => ?_) (fun c34 => ?_)
                · skip
                  refine lv_iload_n hx hb dL_acts_909 rfl (lv_at hl 7 rfl) ?_
                  refine lv_bipush (v := 14) hx hb dL_acts_910 (by decide) ?_
                  refine lv_icmp_ne (tgt := 986) hx hb dL_acts_912 (by decide) (fun c35 => ?_) (fun c35 => ?_)
                  · skip
                    refine lv_iload_n hx hb dL_acts_986 rfl (lv_at hl 7 rfl) ?_
                    refine lv_bipush (v := 15) hx hb dL_acts_987 (by decide) ?_
                    refine lv_icmp_ne (tgt := 1052) hx hb dL_acts_989 (by decide) (fun c36 => ?_) (fun c36 => ?_)
                    · skip
                      refine lv_iload_n hx hb dL_acts_1052 rfl (lv_at hl 7 rfl) ?_
                      refine lv_bipush (v := 16) hx hb dL_acts_1053 (by decide) ?_
                      refine lv_icmp_ne (tgt := 1170) hx hb dL_acts_1055 (by decide) (fun c37 => ?_) (fun c37 => ?_)
                      · skip
                        refine lv_iload_n hx hb dL_acts_1170 rfl (lv_at hl 7 rfl) ?_
                        refine lv_bipush (v := 17) hx hb dL_acts_1171 (by decide) ?_
                        refine lv_icmp_ne (tgt := 1282) hx hb dL_acts_1173 (by decide) (fun c38 => ?_) (fun c38 => ?_)
                        · skip
                          refine lv_iload_n hx hb dL_acts_1282 rfl (lv_at hl 7 rfl) ?_
                          refine lv_bipush (v := 18) hx hb dL_acts_1283 (by decide) ?_
                          refine lv_icmp_ne (tgt := 1408) hx hb dL_acts_1285 (by decide) (fun c39 => ?_) (fun c39 => ?_)
                          · skip
                            refine lv_iload_n hx hb dL_acts_1408 rfl (lv_at hl 7 rfl) ?_
                            refine lv_bipush (v := 19) hx hb dL_acts_1409 (by decide) ?_
                            refine lv_icmp_ne (tgt := 1531) hx hb dL_acts_1411 (by decide) (fun c40 => ?_) (fun c40 => ?_)
                            · skip
                              refine lv_aload_n hx hb dL_acts_1531 rfl (lv_at hl 8 rfl) ?_
                              refine lv_iload_n hx hb dL_acts_1532 rfl (lv_at hl 10 rfl) ?_
                              refine g_callSx (rest := []) (c_L_types l D tb ad hj P M hz y) gm_L_types hx hb hml hown hts hC hI qm_L_107 rfl hl.1 rfl ⟨rfl, rfl, by decide, by decide⟩ (Nat.le_of_ble_eq_true rfl) ⟨Nat.zero_le _, Nat.zero_le _⟩ dL_acts_1533 (fun r5 P5 M5 hq5 H locs hI => ?_)
                              obtain ⟨hr5, hP5, hz5, hT5⟩ := hq5
                              subst hr5; subst hP5
                              refine lv_if_eq (tgt := 1550) hx hb dL_acts_1536 (by decide) (fun c41 => absurd c41 (by decide)) (fun _ => ?_)
                              refine lv_aload_n hx hb dL_acts_1539 rfl (lv_at hl 8 rfl) ?_
                              refine g_callSx (rest := []) (c_L_reads l D tb ad hj P M5 ⟨hz5, hT5.v hz.P6 hi0.2⟩ h0 h1) gm_L_reads hx hb hml hown hts hC hI qm_L_110 rfl hl.1 rfl ⟨rfl, rfl, by decide, by decide⟩ (Nat.le_of_ble_eq_true rfl) ⟨Nat.zero_le _, Nat.zero_le _⟩ dL_acts_1540 (fun r6 P6 M6 hq6 H locs hI => ?_)
                              obtain ⟨hr6, hi6, hs6⟩ := hq6
                              subst hr6
                              refine lv_if_eq (tgt := 1550) hx hb dL_acts_1543 (by decide) (fun c42 => absurd c42 (by decide)) (fun _ => ?_)
                              refine lv_iconst (v := 1) hx hb dL_acts_1546 (by decide) ?_
                              refine lv_goto (tgt := 1551) hx hb dL_acts_1547 (by decide) ?_
                              exact K _ _ _ _ _ _ dL_acts_1551 hi6 (z_Step.pre hT5.2 (hT5.1 _ (hz.P6 0)) hs6) hI
                            · skip
                              exact a_set X hi0 h0 h1 hr K hI (lv_sub hl [0, 1, 2, 3, 4, 5, 6, 7, 10, 9, 8] rfl)
                          · skip
                            exact a_regrade X hi0 h0 h1 hr K hI (lv_sub hl [0, 1, 2, 3, 4, 5, 6, 7, 10, 9, 8] rfl)
                        · skip
                          exact a_lose X hi0 h0 h1 hr K hI (lv_sub hl [0, 1, 2, 3, 4, 5, 6, 7, 10, 9, 8] rfl)
                      · skip
                        exact a_pass X hi0 h0 h1 hr K hI (lv_sub hl [0, 1, 2, 3, 4, 5, 6, 7, 10, 9, 8] rfl)
                    · skip
                      exact a_call X hi0 h0 h1 hr K hI (lv_sub hl [0, 1, 2, 3, 4, 5, 6, 7, 10, 9, 8] rfl)
                  · skip
                    exact a_price X hi0 h0 h1 hr K hI (lv_sub hl [0, 1, 2, 3, 4, 5, 6, 7, 10, 9, 8] rfl)
                · skip
                  exact a_repay1 hk X hi0 h0 h1 hr K hI (lv_sub hl [0, 1, 2, 3, 4, 5, 6, 7, 10, 9, 8] rfl)
              · skip
                exact a_pledge1 hk X hi0 h0 h1 hr K hI (lv_sub hl [0, 1, 2, 3, 4, 5, 6, 7, 10, 9, 8] rfl)
            · skip
              exact a_deliver1 hk X hi0 h0 h1 hr K hI (lv_sub hl [0, 1, 2, 3, 4, 5, 6, 7, 10, 9, 8] rfl)
          · skip
            exact a_hand1 hk X hi0 h0 h1 hr K hI (lv_sub hl [0, 1, 2, 3, 4, 5, 6, 7, 10, 9, 8] rfl)
        · skip
          exact a_join1 hk X hi0 h0 h1 hr K hI (lv_sub hl [0, 1, 2, 3, 4, 5, 6, 7, 10, 9, 8] rfl)
      · skip
        exact a_split1 hk X hi0 h0 h1 hr K hI (lv_sub hl [0, 1, 2, 3, 4, 5, 6, 7, 10, 9, 8] rfl)
    · skip
      exact a_store X hi0 h0 h1 hr K hI (lv_sub hl [0, 1, 2, 3, 4, 5, 6, 7, 10, 9, 8] rfl)
