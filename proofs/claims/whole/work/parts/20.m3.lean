abbrev rm_X5_acted : Room := { frames := 1, cells := 0, slots := 0, locals := 21 }
set_option maxHeartbeats 800000 in
set_option maxRecDepth 100000 in
theorem c_X5_acted (l : Launch) (D : va_G) (tb : g_T) (ad : g_Ad) (hj : g_inj ad) (P : g_P) (M : g_M) (V : g_V) (a : Int32) (sn : Nat) (hs : m_S V sn) : g_Ci l yX5_acted cX5_acted 3 (some .int) rm_X5_acted D tb ad [.ref (ad 7 0), .int a] P (va_up M 7 V) a P (va_up M 7 (m_acted V a sn)) := by
  refine g_go (by decide) (Nat.le_of_ble_eq_true rfl) hj ?_
  intro p e s m below meth c ls H locs R args Q hR0 hQ hx hb hml hr0 hlk hown hts hC hI hl
  subst hR0
  have hown : s.vm.findClass RX5 = some m.cls := hown
  have hl : lv_has ls 3 [(0, .ref (ad 7 0)), (1, .int a)] := hl
  refine lv_iload_n hx hb dX5_acted_0 rfl (lv_at hl 1 rfl) ?_
  refine lv_ldc (v := (-2000000001)) hx hb hown (hts _ qc_X5_25) dX5_acted_1 ?_
  refine lv_icmp_gt (tgt := 12) hx hb dX5_acted_3 (by decide) (fun c1 => ?_) (fun c1 => ?_)
  · refine lv_aload_n hx hb dX5_acted_12 rfl (lv_at hl 0 rfl) ?_
    refine g_get 3 hx hb hts hown hC hI i_X5 (by decide) (e_x g_us) rfl (by decide) qf_X5_29 rfl rfl dX5_acted_13 ?_
    refine g_te (y := (nI sn)) hs.1 ?_
    refine lv_iconst (v := 4) hx hb dX5_acted_16 (by decide) ?_
    refine lv_icmp_ne (tgt := 61) hx hb dX5_acted_17 (by decide) (fun c2 => ?_) (fun c2 => ?_)
    · have c2n : ¬ sn = 4 := fun z => c2 ((nI_eq (a := sn) (b := 4) (by omega) (by omega)).mpr z)
      refine lv_iconst (v := 0) hx hb dX5_acted_61 (by decide) ?_
      refine lv_istore_n (lv' := [(2, .int 0), (0, .ref (ad 7 0)), (1, .int a)]) hx hb dX5_acted_62 rfl hl (by decide) rfl (fun ls hl => ?_)
      obtain ⟨st, hst, hcl⟩ : ∃ st : Nat, ((V) 0 3 = nI st ∧ st ≤ 3) ∧ ((V) 0 3).toNatClampNeg = st := by
        first
        | exact ⟨3, ⟨w2_at, by omega⟩, by rw [w2_at]; exact nI_clamp (by omega)⟩
        | exact ⟨sn, ⟨hs.1, by have := hs.2; omega⟩, by rw [hs.1]; exact nI_clamp (by have := hs.2; omega)⟩
      have lp63 : ∀ (d k2 : Nat) (Wx : g_V), k2 ≤ 146 → 146 < k2 + d → Wx = m_pushN V (146 * (V 0 3).toNatClampNeg) k2 → (Wx 0 3 = nI st) → ∀ (H : Heap) (locs : List Loc) (ls : Array Slot), g_I D tb ad (g_A ad) s H locs P (va_up M 7 Wx) → lv_has ls 3 [(2, .int (nI k2)), (0, .ref (ad 7 0)), (1, .int a)] → W p l e rm_X5_acted s m args below meth c H locs 0 0 Q (F0 m 63 ls []) := by
        intro d
        induction d with
        | zero => intro k2 Wx hkp hfu; intros; omega
        | succ d ih63 =>
          intro k2 Wx hkp hfu e_Wx h1 H locs ls hI hl
          refine lv_iload_n hx hb dX5_acted_63 rfl (lv_at hl 0 rfl) ?_
          refine lv_sipush (v := 146) hx hb dX5_acted_64 (by decide) ?_
          refine lv_icmp_ge (tgt := 97) hx hb dX5_acted_67 (by decide) (fun c3 => ?_) (fun c3 => ?_)
          · have c3n : 146 ≤ k2 := (nI_leI (a := 146) (b := k2) (by omega) (by omega)).mp c3
            refine lv_aload_n hx hb dX5_acted_97 rfl (lv_at hl 1 rfl) ?_
            refine lv_dup hx hb dX5_acted_98 rfl ?_
            refine g_get 3 hx hb hts hown hC hI i_X5 (by decide) (e_x g_us) rfl (by decide) qf_X5_29 rfl rfl dX5_acted_99 ?_
            refine lv_iconst (v := 1) hx hb dX5_acted_102 (by decide) ?_
            refine lv_iadd hx hb dX5_acted_103 ?_
            refine g_put 3 (ty := .int) hx hb hts hown hC hI i_X5 tyX5_ok nmX5 (by decide) (e_x g_us) rfl (by decide) qf_X5_29 rfl rfl rfl rfl rfl (Nat.le_of_ble_eq_true rfl) (p_x (by decide)) g_hs dX5_acted_104 (fun H locs hI => ?_)
            refine lv_iload_n hx hb dX5_acted_107 rfl (lv_at hl 2 rfl) ?_
            exact g_ir hQ hx hb hr0 hlk hC hI dX5_acted_108 rfl (by rfl) rfl (by first | (unfold m_acted; rw [if_neg c1]) | (unfold m_acted; rw [if_pos c1, if_pos c2n]; unfold m_push m_push1 m_drop; rw [show k2 = 146 from (by omega)] at e_Wx; rw [show k = 438 from (by omega)] at e_Vx; rw [← e_Vx, ← e_Wx]) | (unfold m_acted; rw [if_pos c1, if_neg c2n]; unfold m_push m_push1; rw [show k2 = 146 from (by omega)] at e_Wx; rw [← e_Wx]))
          · have c3n : ¬ 146 ≤ k2 := fun z => c3 ((nI_leI (a := 146) (b := k2) (by omega) (by omega)).mpr z)
            refine lv_aload_n hx hb dX5_acted_70 rfl (lv_at hl 1 rfl) ?_
            refine g_get 2 hx hb hts hown hC hI i_X5 (by decide) (e_x g_us) rfl (by decide) qf_X5_16 rfl rfl dX5_acted_71 ?_
            refine lv_sipush (v := 146) hx hb dX5_acted_74 (by decide) ?_
            refine lv_aload_n hx hb dX5_acted_77 rfl (lv_at hl 1 rfl) ?_
            refine g_get 3 hx hb hts hown hC hI i_X5 (by decide) (e_x g_us) rfl (by decide) qf_X5_29 rfl rfl dX5_acted_78 ?_
            refine g_te (y := (nI st)) h1 ?_
            refine lv_imul hx hb dX5_acted_81 ?_
            refine g_te (pk_mul 146 st) ?_
            refine lv_iload_n hx hb dX5_acted_82 rfl (lv_at hl 0 rfl) ?_
            refine lv_iadd hx hb dX5_acted_83 ?_
            refine g_te (nI_add (146 * st) k2) ?_
            refine lv_aload_n hx hb dX5_acted_84 rfl (lv_at hl 1 rfl) ?_
            refine g_get 1 hx hb hts hown hC hI i_X5 (by decide) (e_x g_us) rfl (by decide) qf_X5_13 rfl rfl dX5_acted_85 ?_
            refine lv_iload_n hx hb dX5_acted_88 rfl (lv_at hl 0 rfl) ?_
            refine g_iald k2 hx hb hC hI (by decide) (e_xb g_us) (vp_in_nI (by omega) (by decide)) (nI_clamp (by omega)) dX5_acted_89 ?_
            refine g_iast (146 * st + k2) hx hb hC hI (by decide) (e_xp g_us) (vp_in_nI (by omega) (by decide)) (nI_clamp (by omega)) p_xp g_hs dX5_acted_90 (fun H locs hI => ?_)
            refine lv_iinc (v := nI (k2 + 1)) (lv' := [(2, .int (nI (k2 + 1))), (0, .ref (ad 7 0)), (1, .int a)]) hx hb dX5_acted_91 hl (k := 0) rfl (nI_1 _) (by decide) rfl (fun ls hl => ?_)
            refine lv_goto (tgt := 63) hx hb dX5_acted_94 (by decide) ?_
            exact ih63 (k2 + 1) _ (by omega) (by omega) (by unfold m_pushN; rw [k_iter]; unfold m_pushN at e_Wx; rw [← e_Wx, hcl]) (by rw [w2_c (by decide)]; exact h1) _ _ _ hI (lv_sub hl [0, 1, 2] rfl)
      exact lp63 (146 + 1) 0 _ (by omega) (by omega) rfl hst.1 _ _ _ hI (lv_sub hl [0, 1, 2] rfl)
    · have c2n : sn = 4 := (nI_eq (a := sn) (b := 4) (by omega) (by omega)).mp c2
      refine lv_iconst (v := 0) hx hb dX5_acted_20 (by decide) ?_
      refine lv_istore_n (lv' := [(2, .int 0), (0, .ref (ad 7 0)), (1, .int a)]) hx hb dX5_acted_21 rfl hl (by decide) rfl (fun ls hl => ?_)
      have lp22 : ∀ (d k : Nat) (Vx : g_V), k ≤ 438 → 438 < k + d → Vx = m_dropN V k → (Vx 0 3 = nI sn) → ∀ (H : Heap) (locs : List Loc) (ls : Array Slot), g_I D tb ad (g_A ad) s H locs P (va_up M 7 Vx) → lv_has ls 3 [(2, .int (nI k)), (0, .ref (ad 7 0)), (1, .int a)] → W p l e rm_X5_acted s m args below meth c H locs 0 0 Q (F0 m 22 ls []) := by
        intro d
        induction d with
        | zero => intro k Vx hkp hfu; intros; omega
        | succ d ih22 =>
          intro k Vx hkp hfu e_Vx h0 H locs ls hI hl
          refine lv_iload_n hx hb dX5_acted_22 rfl (lv_at hl 0 rfl) ?_
          refine lv_sipush (v := 438) hx hb dX5_acted_23 (by decide) ?_
          refine lv_icmp_ge (tgt := 51) hx hb dX5_acted_26 (by decide) (fun c4 => ?_) (fun c4 => ?_)
          · have c4n : 438 ≤ k := (nI_leI (a := 438) (b := k) (by omega) (by omega)).mp c4
            refine lv_aload_n hx hb dX5_acted_51 rfl (lv_at hl 1 rfl) ?_
            refine lv_dup hx hb dX5_acted_52 rfl ?_
            refine g_get 3 hx hb hts hown hC hI i_X5 (by decide) (e_x g_us) rfl (by decide) qf_X5_29 rfl rfl dX5_acted_53 ?_
            refine lv_iconst (v := 1) hx hb dX5_acted_56 (by decide) ?_
            refine lv_isub hx hb dX5_acted_57 ?_
            refine g_te (y := (nI 3)) (by rw [h0, c2n]; rfl) ?_
            refine g_put 3 (ty := .int) hx hb hts hown hC hI i_X5 tyX5_ok nmX5 (by decide) (e_x g_us) rfl (by decide) qf_X5_29 rfl rfl rfl rfl rfl (Nat.le_of_ble_eq_true rfl) (p_x (by decide)) g_hs dX5_acted_58 (fun H locs hI => ?_)
            refine lv_iconst (v := 0) hx hb dX5_acted_61 (by decide) ?_
            refine lv_istore_n (lv' := [(2, .int 0), (0, .ref (ad 7 0)), (1, .int a)]) hx hb dX5_acted_62 rfl hl (by decide) rfl (fun ls hl => ?_)
            obtain ⟨st, hst, hcl⟩ : ∃ st : Nat, (((g_w2 Vx 0 3 (nI 3))) 0 3 = nI st ∧ st ≤ 3) ∧ (((g_w2 Vx 0 3 (nI 3))) 0 3).toNatClampNeg = st := by
              first
              | exact ⟨3, ⟨w2_at, by omega⟩, by rw [w2_at]; exact nI_clamp (by omega)⟩
              | exact ⟨sn, ⟨hs.1, by have := hs.2; omega⟩, by rw [hs.1]; exact nI_clamp (by have := hs.2; omega)⟩
            have lp63 : ∀ (d k2 : Nat) (Wx : g_V), k2 ≤ 146 → 146 < k2 + d → Wx = m_pushN (g_w2 Vx 0 3 (nI 3)) (146 * ((g_w2 Vx 0 3 (nI 3)) 0 3).toNatClampNeg) k2 → (Wx 0 3 = nI st) → ∀ (H : Heap) (locs : List Loc) (ls : Array Slot), g_I D tb ad (g_A ad) s H locs P (va_up M 7 Wx) → lv_has ls 3 [(2, .int (nI k2)), (0, .ref (ad 7 0)), (1, .int a)] → W p l e rm_X5_acted s m args below meth c H locs 0 0 Q (F0 m 63 ls []) := by
              intro d
              induction d with
              | zero => intro k2 Wx hkp hfu; intros; omega
              | succ d ih63 =>
                intro k2 Wx hkp hfu e_Wx h1 H locs ls hI hl
                refine lv_iload_n hx hb dX5_acted_63 rfl (lv_at hl 0 rfl) ?_
                refine lv_sipush (v := 146) hx hb dX5_acted_64 (by decide) ?_
                refine lv_icmp_ge (tgt := 97) hx hb dX5_acted_67 (by decide) (fun c5 => ?_) (fun c5 => ?_)
                · have c5n : 146 ≤ k2 := (nI_leI (a := 146) (b := k2) (by omega) (by omega)).mp c5
                  refine lv_aload_n hx hb dX5_acted_97 rfl (lv_at hl 1 rfl) ?_
                  refine lv_dup hx hb dX5_acted_98 rfl ?_
                  refine g_get 3 hx hb hts hown hC hI i_X5 (by decide) (e_x g_us) rfl (by decide) qf_X5_29 rfl rfl dX5_acted_99 ?_
                  refine lv_iconst (v := 1) hx hb dX5_acted_102 (by decide) ?_
                  refine lv_iadd hx hb dX5_acted_103 ?_
                  refine g_put 3 (ty := .int) hx hb hts hown hC hI i_X5 tyX5_ok nmX5 (by decide) (e_x g_us) rfl (by decide) qf_X5_29 rfl rfl rfl rfl rfl (Nat.le_of_ble_eq_true rfl) (p_x (by decide)) g_hs dX5_acted_104 (fun H locs hI => ?_)
                  refine lv_iload_n hx hb dX5_acted_107 rfl (lv_at hl 2 rfl) ?_
                  exact g_ir hQ hx hb hr0 hlk hC hI dX5_acted_108 rfl (by rfl) rfl (by first | (unfold m_acted; rw [if_neg c1]) | (unfold m_acted; rw [if_pos c1, if_pos c2n]; unfold m_push m_push1 m_drop; rw [show k2 = 146 from (by omega)] at e_Wx; rw [show k = 438 from (by omega)] at e_Vx; rw [← e_Vx, ← e_Wx]) | (unfold m_acted; rw [if_pos c1, if_neg c2n]; unfold m_push m_push1; rw [show k2 = 146 from (by omega)] at e_Wx; rw [← e_Wx]))
                · have c5n : ¬ 146 ≤ k2 := fun z => c5 ((nI_leI (a := 146) (b := k2) (by omega) (by omega)).mpr z)
                  refine lv_aload_n hx hb dX5_acted_70 rfl (lv_at hl 1 rfl) ?_
                  refine g_get 2 hx hb hts hown hC hI i_X5 (by decide) (e_x g_us) rfl (by decide) qf_X5_16 rfl rfl dX5_acted_71 ?_
                  refine lv_sipush (v := 146) hx hb dX5_acted_74 (by decide) ?_
                  refine lv_aload_n hx hb dX5_acted_77 rfl (lv_at hl 1 rfl) ?_
                  refine g_get 3 hx hb hts hown hC hI i_X5 (by decide) (e_x g_us) rfl (by decide) qf_X5_29 rfl rfl dX5_acted_78 ?_
                  refine g_te (y := (nI st)) h1 ?_
                  refine lv_imul hx hb dX5_acted_81 ?_
                  refine g_te (pk_mul 146 st) ?_
                  refine lv_iload_n hx hb dX5_acted_82 rfl (lv_at hl 0 rfl) ?_
                  refine lv_iadd hx hb dX5_acted_83 ?_
                  refine g_te (nI_add (146 * st) k2) ?_
                  refine lv_aload_n hx hb dX5_acted_84 rfl (lv_at hl 1 rfl) ?_
                  refine g_get 1 hx hb hts hown hC hI i_X5 (by decide) (e_x g_us) rfl (by decide) qf_X5_13 rfl rfl dX5_acted_85 ?_
                  refine lv_iload_n hx hb dX5_acted_88 rfl (lv_at hl 0 rfl) ?_
                  refine g_iald k2 hx hb hC hI (by decide) (e_xb g_us) (vp_in_nI (by omega) (by decide)) (nI_clamp (by omega)) dX5_acted_89 ?_
                  refine g_iast (146 * st + k2) hx hb hC hI (by decide) (e_xp g_us) (vp_in_nI (by omega) (by decide)) (nI_clamp (by omega)) p_xp g_hs dX5_acted_90 (fun H locs hI => ?_)
                  refine lv_iinc (v := nI (k2 + 1)) (lv' := [(2, .int (nI (k2 + 1))), (0, .ref (ad 7 0)), (1, .int a)]) hx hb dX5_acted_91 hl (k := 0) rfl (nI_1 _) (by decide) rfl (fun ls hl => ?_)
                  refine lv_goto (tgt := 63) hx hb dX5_acted_94 (by decide) ?_
                  exact ih63 (k2 + 1) _ (by omega) (by omega) (by unfold m_pushN; rw [k_iter]; unfold m_pushN at e_Wx; rw [← e_Wx, hcl]) (by rw [w2_c (by decide)]; exact h1) _ _ _ hI (lv_sub hl [0, 1, 2] rfl)
            exact lp63 (146 + 1) 0 _ (by omega) (by omega) rfl hst.1 _ _ _ hI (lv_sub hl [0, 1, 2] rfl)
          · have c4n : ¬ 438 ≤ k := fun z => c4 ((nI_leI (a := 438) (b := k) (by omega) (by omega)).mpr z)
            refine lv_aload_n hx hb dX5_acted_29 rfl (lv_at hl 1 rfl) ?_
            refine g_get 2 hx hb hts hown hC hI i_X5 (by decide) (e_x g_us) rfl (by decide) qf_X5_16 rfl rfl dX5_acted_30 ?_
            refine lv_iload_n hx hb dX5_acted_33 rfl (lv_at hl 0 rfl) ?_
            refine lv_aload_n hx hb dX5_acted_34 rfl (lv_at hl 1 rfl) ?_
            refine g_get 2 hx hb hts hown hC hI i_X5 (by decide) (e_x g_us) rfl (by decide) qf_X5_16 rfl rfl dX5_acted_35 ?_
            refine lv_iload_n hx hb dX5_acted_38 rfl (lv_at hl 0 rfl) ?_
            refine lv_sipush (v := 146) hx hb dX5_acted_39 (by decide) ?_
            refine lv_iadd hx hb dX5_acted_42 ?_
            refine g_te (nI_add k 146) ?_
            refine g_iald (k + 146) hx hb hC hI (by decide) (e_xp g_us) (vp_in_nI (by omega) (by decide)) (nI_clamp (by omega)) dX5_acted_43 ?_
            refine g_iast k hx hb hC hI (by decide) (e_xp g_us) (vp_in_nI (by omega) (by decide)) (nI_clamp (by omega)) p_xp g_hs dX5_acted_44 (fun H locs hI => ?_)
            refine lv_iinc (v := nI (k + 1)) (lv' := [(2, .int (nI (k + 1))), (0, .ref (ad 7 0)), (1, .int a)]) hx hb dX5_acted_45 hl (k := 0) rfl (nI_1 _) (by decide) rfl (fun ls hl => ?_)
            refine lv_goto (tgt := 22) hx hb dX5_acted_48 (by decide) ?_
            exact ih22 (k + 1) _ (by omega) (by omega) (by unfold m_dropN; rw [k_iter]; unfold m_dropN at e_Vx; rw [← e_Vx]) (by rw [w2_c (by decide)]; exact h0) _ _ _ hI (lv_sub hl [0, 1, 2] rfl)
      exact lp22 (438 + 1) 0 _ (by omega) (by omega) rfl hs.1 _ _ _ hI (lv_sub hl [0, 1, 2] rfl)
  · refine lv_aload_n hx hb dX5_acted_6 rfl (lv_at hl 0 rfl) ?_
    refine g_callVv (rest := []) (c_X5_returns l D tb ad hj P M V) rfl rfl gm_X5_returns hx hb hml hown hts hC hI (by decide) (e_x g_us) rfl rfl qm_X5_26 rfl hl.1 rfl ⟨rfl, rfl, by decide, by decide⟩ (Nat.le_of_ble_eq_true rfl) ⟨Nat.zero_le _, Nat.zero_le _⟩ dX5_acted_7 (fun H locs hI => ?_)
    refine lv_iload_n hx hb dX5_acted_10 rfl (lv_at hl 1 rfl) ?_
    exact g_ir hQ hx hb hr0 hlk hC hI dX5_acted_11 rfl (by rfl) rfl (by first | (unfold m_acted; rw [if_neg c1]) | (unfold m_acted; rw [if_pos c1, if_pos c2n]; unfold m_push m_push1 m_drop; rw [show k2 = 146 from (by omega)] at e_Wx; rw [show k = 438 from (by omega)] at e_Vx; rw [← e_Vx, ← e_Wx]) | (unfold m_acted; rw [if_pos c1, if_neg c2n]; unfold m_push m_push1; rw [show k2 = 146 from (by omega)] at e_Wx; rw [← e_Wx]))
def m_store (V : g_V) (o : Int32) (g : Int32) (a : Int32) (sn : Nat) (n : Nat) : Int32 × g_V :=
  (((m_stores (m_begins V) o g a n).1), (m_acted ((m_stores (m_begins V) o g a n).2) ((m_stores (m_begins V) o g a n).1) sn))
abbrev rm_X5_store : Room := { frames := 4, cells := 0, slots := 0, locals := 94 }
set_option maxHeartbeats 800000 in
set_option maxRecDepth 100000 in
theorem c_X5_store (l : Launch) (D : va_G) (tb : g_T) (ad : g_Ad) (hj : g_inj ad) (P : g_P) (M : g_M) (V : g_V) (o : Int32) (g : Int32) (a : Int32) (sn : Nat) (hs : m_S V sn) (n : Nat) (hn : m_N V n) : g_Ci l yX5_store cX5_store 4 (some .int) rm_X5_store D tb ad [.ref (ad 7 0), .int o, .int g, .int a] P (va_up M 7 V) ((m_store V o g a sn n).1) P (va_up M 7 ((m_store V o g a sn n).2)) := by
  refine g_go (by decide) (Nat.le_of_ble_eq_true rfl) hj ?_
  intro p e s m below meth c ls H locs R args Q hR0 hQ hx hb hml hr0 hlk hown hts hC hI hl
  subst hR0
  have hown : s.vm.findClass RX5 = some m.cls := hown
  have hl : lv_has ls 4 [(0, .ref (ad 7 0)), (1, .int o), (2, .int g), (3, .int a)] := hl
  refine lv_aload_n hx hb dX5_store_0 rfl (lv_at hl 0 rfl) ?_
  refine g_callVv (rest := []) (c_X5_begins l D tb ad hj P M V) rfl rfl gm_X5_begins hx hb hml hown hts hC hI (by decide) (e_x g_us) rfl rfl qm_X5_107 rfl hl.1 rfl ⟨rfl, rfl, by decide, by decide⟩ (Nat.le_of_ble_eq_true rfl) ⟨Nat.zero_le _, Nat.zero_le _⟩ dX5_store_1 (fun H locs hI => ?_)
  refine lv_aload_n hx hb dX5_store_4 rfl (lv_at hl 0 rfl) ?_
  refine lv_aload_n hx hb dX5_store_5 rfl (lv_at hl 0 rfl) ?_
  refine lv_iload_n hx hb dX5_store_6 rfl (lv_at hl 1 rfl) ?_
  refine lv_iload_n hx hb dX5_store_7 rfl (lv_at hl 2 rfl) ?_
  refine lv_iload_n hx hb dX5_store_8 rfl (lv_at hl 3 rfl) ?_
  refine g_callVi (rest := [.ref (ad 7 0)]) (c_X5_stores l D tb ad hj P M (m_begins V) o g a n (m_N_begins hn)) rfl rfl gm_X5_stores hx hb hml hown hts hC hI (by decide) (e_x g_us) rfl rfl qm_X5_110 rfl hl.1 rfl ⟨rfl, rfl, by decide, by decide⟩ (Nat.le_of_ble_eq_true rfl) ⟨Nat.zero_le _, Nat.zero_le _⟩ dX5_store_9 (fun H locs hI => ?_)
  refine g_callVi (rest := []) (c_X5_acted l D tb ad hj P M ((m_stores (m_begins V) o g a n).2) ((m_stores (m_begins V) o g a n).1) sn ⟨by rw [m_stores_c (by decide), m_begins_c (by decide)]; exact hs.1, hs.2⟩) rfl rfl gm_X5_acted hx hb hml hown hts hC hI (by decide) (e_x g_us) rfl rfl qm_X5_113 rfl hl.1 rfl ⟨rfl, rfl, by decide, by decide⟩ (Nat.le_of_ble_eq_true rfl) ⟨Nat.zero_le _, Nat.zero_le _⟩ dX5_store_12 (fun H locs hI => ?_)
  exact g_ir hQ hx hb hr0 hlk hC hI dX5_store_15 rfl (by unfold m_store; skip; skip; try with_reducible rfl) rfl (by unfold m_store; skip; skip; try with_reducible rfl)
def m_split (V : g_V) (x : Int32) (a : Int32) (sn : Nat) (n : Nat) : Int32 × g_V :=
  (((m_splits (m_begins V) x a n).1), (m_acted ((m_splits (m_begins V) x a n).2) ((m_splits (m_begins V) x a n).1) sn))
abbrev rm_X5_split : Room := { frames := 4, cells := 0, slots := 0, locals := 93 }
set_option maxHeartbeats 800000 in
set_option maxRecDepth 100000 in
theorem c_X5_split (l : Launch) (D : va_G) (tb : g_T) (ad : g_Ad) (hj : g_inj ad) (P : g_P) (M : g_M) (V : g_V) (x : Int32) (a : Int32) (sn : Nat) (hs : m_S V sn) (n : Nat) (hn : m_N V n) : g_Ci l yX5_split cX5_split 3 (some .int) rm_X5_split D tb ad [.ref (ad 7 0), .int x, .int a] P (va_up M 7 V) ((m_split V x a sn n).1) P (va_up M 7 ((m_split V x a sn n).2)) := by
  refine g_go (by decide) (Nat.le_of_ble_eq_true rfl) hj ?_
  intro p e s m below meth c ls H locs R args Q hR0 hQ hx hb hml hr0 hlk hown hts hC hI hl
  subst hR0
  have hown : s.vm.findClass RX5 = some m.cls := hown
  have hl : lv_has ls 3 [(0, .ref (ad 7 0)), (1, .int x), (2, .int a)] := hl
  refine lv_aload_n hx hb dX5_split_0 rfl (lv_at hl 0 rfl) ?_
  refine g_callVv (rest := []) (c_X5_begins l D tb ad hj P M V) rfl rfl gm_X5_begins hx hb hml hown hts hC hI (by decide) (e_x g_us) rfl rfl qm_X5_107 rfl hl.1 rfl ⟨rfl, rfl, by decide, by decide⟩ (Nat.le_of_ble_eq_true rfl) ⟨Nat.zero_le _, Nat.zero_le _⟩ dX5_split_1 (fun H locs hI => ?_)
  refine lv_aload_n hx hb dX5_split_4 rfl (lv_at hl 0 rfl) ?_
  refine lv_aload_n hx hb dX5_split_5 rfl (lv_at hl 0 rfl) ?_
  refine lv_iload_n hx hb dX5_split_6 rfl (lv_at hl 1 rfl) ?_
  refine lv_iload_n hx hb dX5_split_7 rfl (lv_at hl 2 rfl) ?_
  refine g_callVi (rest := [.ref (ad 7 0)]) (c_X5_splits l D tb ad hj P M (m_begins V) x a n (m_N_begins hn)) rfl rfl gm_X5_splits hx hb hml hown hts hC hI (by decide) (e_x g_us) rfl rfl qm_X5_116 rfl hl.1 rfl ⟨rfl, rfl, by decide, by decide⟩ (Nat.le_of_ble_eq_true rfl) ⟨Nat.zero_le _, Nat.zero_le _⟩ dX5_split_8 (fun H locs hI => ?_)
  refine g_callVi (rest := []) (c_X5_acted l D tb ad hj P M ((m_splits (m_begins V) x a n).2) ((m_splits (m_begins V) x a n).1) sn ⟨by rw [m_splits_c (by decide), m_begins_c (by decide)]; exact hs.1, hs.2⟩) rfl rfl gm_X5_acted hx hb hml hown hts hC hI (by decide) (e_x g_us) rfl rfl qm_X5_113 rfl hl.1 rfl ⟨rfl, rfl, by decide, by decide⟩ (Nat.le_of_ble_eq_true rfl) ⟨Nat.zero_le _, Nat.zero_le _⟩ dX5_split_11 (fun H locs hI => ?_)
  exact g_ir hQ hx hb hr0 hlk hC hI dX5_split_14 rfl (by unfold m_split; skip; skip; try with_reducible rfl) rfl (by unfold m_split; skip; skip; try with_reducible rfl)
def m_join (V : g_V) (x : Int32) (z : Int32) (sn : Nat) (n : Nat) : Int32 × g_V :=
  (((m_joins (m_begins V) x z n).1), (m_acted ((m_joins (m_begins V) x z n).2) ((m_joins (m_begins V) x z n).1) sn))
abbrev rm_X5_join : Room := { frames := 3, cells := 0, slots := 0, locals := 70 }
set_option maxHeartbeats 800000 in
set_option maxRecDepth 100000 in
theorem c_X5_join (l : Launch) (D : va_G) (tb : g_T) (ad : g_Ad) (hj : g_inj ad) (P : g_P) (M : g_M) (V : g_V) (x : Int32) (z : Int32) (sn : Nat) (hs : m_S V sn) (n : Nat) (hn : m_N V n) : g_Ci l yX5_join cX5_join 3 (some .int) rm_X5_join D tb ad [.ref (ad 7 0), .int x, .int z] P (va_up M 7 V) ((m_join V x z sn n).1) P (va_up M 7 ((m_join V x z sn n).2)) := by
  refine g_go (by decide) (Nat.le_of_ble_eq_true rfl) hj ?_
  intro p e s m below meth c ls H locs R args Q hR0 hQ hx hb hml hr0 hlk hown hts hC hI hl
  subst hR0
  have hown : s.vm.findClass RX5 = some m.cls := hown
  have hl : lv_has ls 3 [(0, .ref (ad 7 0)), (1, .int x), (2, .int z)] := hl
  refine lv_aload_n hx hb dX5_join_0 rfl (lv_at hl 0 rfl) ?_
  refine g_callVv (rest := []) (c_X5_begins l D tb ad hj P M V) rfl rfl gm_X5_begins hx hb hml hown hts hC hI (by decide) (e_x g_us) rfl rfl qm_X5_107 rfl hl.1 rfl ⟨rfl, rfl, by decide, by decide⟩ (Nat.le_of_ble_eq_true rfl) ⟨Nat.zero_le _, Nat.zero_le _⟩ dX5_join_1 (fun H locs hI => ?_)
  refine lv_aload_n hx hb dX5_join_4 rfl (lv_at hl 0 rfl) ?_
  refine lv_aload_n hx hb dX5_join_5 rfl (lv_at hl 0 rfl) ?_
  refine lv_iload_n hx hb dX5_join_6 rfl (lv_at hl 1 rfl) ?_
  refine lv_iload_n hx hb dX5_join_7 rfl (lv_at hl 2 rfl) ?_
  refine g_callVi (rest := [.ref (ad 7 0)]) (c_X5_joins l D tb ad hj P M (m_begins V) x z n (m_N_begins hn)) rfl rfl gm_X5_joins hx hb hml hown hts hC hI (by decide) (e_x g_us) rfl rfl qm_X5_119 rfl hl.1 rfl ⟨rfl, rfl, by decide, by decide⟩ (Nat.le_of_ble_eq_true rfl) ⟨Nat.zero_le _, Nat.zero_le _⟩ dX5_join_8 (fun H locs hI => ?_)
  refine g_callVi (rest := []) (c_X5_acted l D tb ad hj P M ((m_joins (m_begins V) x z n).2) ((m_joins (m_begins V) x z n).1) sn ⟨by rw [m_joins_c (by decide), m_begins_c (by decide)]; exact hs.1, hs.2⟩) rfl rfl gm_X5_acted hx hb hml hown hts hC hI (by decide) (e_x g_us) rfl rfl qm_X5_113 rfl hl.1 rfl ⟨rfl, rfl, by decide, by decide⟩ (Nat.le_of_ble_eq_true rfl) ⟨Nat.zero_le _, Nat.zero_le _⟩ dX5_join_11 (fun H locs hI => ?_)
  exact g_ir hQ hx hb hr0 hlk hC hI dX5_join_14 rfl (by unfold m_join; skip; skip; try with_reducible rfl) rfl (by unfold m_join; skip; skip; try with_reducible rfl)
def m_deliver (V : g_V) (x : Int32) (sn : Nat) (n : Nat) : Int32 × g_V :=
  (((m_delivers (m_begins V) x n).1), (m_acted ((m_delivers (m_begins V) x n).2) ((m_delivers (m_begins V) x n).1) sn))
abbrev rm_X5_deliver : Room := { frames := 3, cells := 0, slots := 0, locals := 73 }
set_option maxHeartbeats 800000 in
set_option maxRecDepth 100000 in
theorem c_X5_deliver (l : Launch) (D : va_G) (tb : g_T) (ad : g_Ad) (hj : g_inj ad) (P : g_P) (M : g_M) (V : g_V) (x : Int32) (sn : Nat) (hs : m_S V sn) (n : Nat) (hn : m_N V n) (hR : m_okR V n) : g_Ci l yX5_deliver cX5_deliver 2 (some .int) rm_X5_deliver D tb ad [.ref (ad 7 0), .int x] P (va_up M 7 V) ((m_deliver V x sn n).1) P (va_up M 7 ((m_deliver V x sn n).2)) := by
  refine g_go (by decide) (Nat.le_of_ble_eq_true rfl) hj ?_
  intro p e s m below meth c ls H locs R args Q hR0 hQ hx hb hml hr0 hlk hown hts hC hI hl
  subst hR0
  have hown : s.vm.findClass RX5 = some m.cls := hown
  have hl : lv_has ls 2 [(0, .ref (ad 7 0)), (1, .int x)] := hl
  refine lv_aload_n hx hb dX5_deliver_0 rfl (lv_at hl 0 rfl) ?_
  refine g_callVv (rest := []) (c_X5_begins l D tb ad hj P M V) rfl rfl gm_X5_begins hx hb hml hown hts hC hI (by decide) (e_x g_us) rfl rfl qm_X5_107 rfl hl.1 rfl ⟨rfl, rfl, by decide, by decide⟩ (Nat.le_of_ble_eq_true rfl) ⟨Nat.zero_le _, Nat.zero_le _⟩ dX5_deliver_1 (fun H locs hI => ?_)
  refine lv_aload_n hx hb dX5_deliver_4 rfl (lv_at hl 0 rfl) ?_
  refine lv_aload_n hx hb dX5_deliver_5 rfl (lv_at hl 0 rfl) ?_
  refine lv_iload_n hx hb dX5_deliver_6 rfl (lv_at hl 1 rfl) ?_
  refine g_callVi (rest := [.ref (ad 7 0)]) (c_X5_delivers l D tb ad hj P M (m_begins V) x n (m_N_begins hn) (m_okR_begins hR)) rfl rfl gm_X5_delivers hx hb hml hown hts hC hI (by decide) (e_x g_us) rfl rfl qm_X5_122 rfl hl.1 rfl ⟨rfl, rfl, by decide, by decide⟩ (Nat.le_of_ble_eq_true rfl) ⟨Nat.zero_le _, Nat.zero_le _⟩ dX5_deliver_7 (fun H locs hI => ?_)
  refine g_callVi (rest := []) (c_X5_acted l D tb ad hj P M ((m_delivers (m_begins V) x n).2) ((m_delivers (m_begins V) x n).1) sn ⟨by rw [m_delivers_c (by decide), m_begins_c (by decide)]; exact hs.1, hs.2⟩) rfl rfl gm_X5_acted hx hb hml hown hts hC hI (by decide) (e_x g_us) rfl rfl qm_X5_113 rfl hl.1 rfl ⟨rfl, rfl, by decide, by decide⟩ (Nat.le_of_ble_eq_true rfl) ⟨Nat.zero_le _, Nat.zero_le _⟩ dX5_deliver_10 (fun H locs hI => ?_)
  exact g_ir hQ hx hb hr0 hlk hC hI dX5_deliver_13 rfl (by unfold m_deliver; skip; skip; try with_reducible rfl) rfl (by unfold m_deliver; skip; skip; try with_reducible rfl)
def m_pledge (V : g_V) (x : Int32) (le : Int32) (lo : Int32) (sn : Nat) (n : Nat) : Int32 × g_V :=
  (((m_pledges (m_begins V) x le lo n).1), (m_acted ((m_pledges (m_begins V) x le lo n).2) ((m_pledges (m_begins V) x le lo n).1) sn))
abbrev rm_X5_pledge : Room := { frames := 4, cells := 0, slots := 0, locals := 90 }
set_option maxHeartbeats 800000 in
set_option maxRecDepth 100000 in
theorem c_X5_pledge (l : Launch) (D : va_G) (tb : g_T) (ad : g_Ad) (hj : g_inj ad) (P : g_P) (M : g_M) (V : g_V) (x : Int32) (le : Int32) (lo : Int32) (sn : Nat) (hs : m_S V sn) (n : Nat) (hn : m_N V n) (hR : m_okR V n) : g_Ci l yX5_pledge cX5_pledge 4 (some .int) rm_X5_pledge D tb ad [.ref (ad 7 0), .int x, .int le, .int lo] P (va_up M 7 V) ((m_pledge V x le lo sn n).1) P (va_up M 7 ((m_pledge V x le lo sn n).2)) := by
  refine g_go (by decide) (Nat.le_of_ble_eq_true rfl) hj ?_
  intro p e s m below meth c ls H locs R args Q hR0 hQ hx hb hml hr0 hlk hown hts hC hI hl
  subst hR0
  have hown : s.vm.findClass RX5 = some m.cls := hown
  have hl : lv_has ls 4 [(0, .ref (ad 7 0)), (1, .int x), (2, .int le), (3, .int lo)] := hl
  refine lv_aload_n hx hb dX5_pledge_0 rfl (lv_at hl 0 rfl) ?_
  refine g_callVv (rest := []) (c_X5_begins l D tb ad hj P M V) rfl rfl gm_X5_begins hx hb hml hown hts hC hI (by decide) (e_x g_us) rfl rfl qm_X5_107 rfl hl.1 rfl ⟨rfl, rfl, by decide, by decide⟩ (Nat.le_of_ble_eq_true rfl) ⟨Nat.zero_le _, Nat.zero_le _⟩ dX5_pledge_1 (fun H locs hI => ?_)
  refine lv_aload_n hx hb dX5_pledge_4 rfl (lv_at hl 0 rfl) ?_
  refine lv_aload_n hx hb dX5_pledge_5 rfl (lv_at hl 0 rfl) ?_
  refine lv_iload_n hx hb dX5_pledge_6 rfl (lv_at hl 1 rfl) ?_
  refine lv_iload_n hx hb dX5_pledge_7 rfl (lv_at hl 2 rfl) ?_
  refine lv_iload_n hx hb dX5_pledge_8 rfl (lv_at hl 3 rfl) ?_
  refine g_callVi (rest := [.ref (ad 7 0)]) (c_X5_pledges l D tb ad hj P M (m_begins V) x le lo n (m_N_begins hn) (m_okR_begins hR)) rfl rfl gm_X5_pledges hx hb hml hown hts hC hI (by decide) (e_x g_us) rfl rfl qm_X5_125 rfl hl.1 rfl ⟨rfl, rfl, by decide, by decide⟩ (Nat.le_of_ble_eq_true rfl) ⟨Nat.zero_le _, Nat.zero_le _⟩ dX5_pledge_9 (fun H locs hI => ?_)
  refine g_callVi (rest := []) (c_X5_acted l D tb ad hj P M ((m_pledges (m_begins V) x le lo n).2) ((m_pledges (m_begins V) x le lo n).1) sn ⟨by rw [m_pledges_c (by decide), m_begins_c (by decide)]; exact hs.1, hs.2⟩) rfl rfl gm_X5_acted hx hb hml hown hts hC hI (by decide) (e_x g_us) rfl rfl qm_X5_113 rfl hl.1 rfl ⟨rfl, rfl, by decide, by decide⟩ (Nat.le_of_ble_eq_true rfl) ⟨Nat.zero_le _, Nat.zero_le _⟩ dX5_pledge_12 (fun H locs hI => ?_)
  exact g_ir hQ hx hb hr0 hlk hC hI dX5_pledge_15 rfl (by unfold m_pledge; skip; skip; try with_reducible rfl) rfl (by unfold m_pledge; skip; skip; try with_reducible rfl)
def m_repay (V : g_V) (x : Int32) (a : Int32) (sn : Nat) (n : Nat) : Int32 × g_V :=
  (((m_repays (m_begins V) x a n).1), (m_acted ((m_repays (m_begins V) x a n).2) ((m_repays (m_begins V) x a n).1) sn))
abbrev rm_X5_repay : Room := { frames := 5, cells := 0, slots := 0, locals := 110 }
set_option maxHeartbeats 800000 in
set_option maxRecDepth 100000 in
theorem c_X5_repay (l : Launch) (D : va_G) (tb : g_T) (ad : g_Ad) (hj : g_inj ad) (P : g_P) (M : g_M) (V : g_V) (x : Int32) (a : Int32) (sn : Nat) (hs : m_S V sn) (n : Nat) (hn : m_N V n) (hR : m_okR V n) : g_Ci l yX5_repay cX5_repay 3 (some .int) rm_X5_repay D tb ad [.ref (ad 7 0), .int x, .int a] P (va_up M 7 V) ((m_repay V x a sn n).1) P (va_up M 7 ((m_repay V x a sn n).2)) := by
  refine g_go (by decide) (Nat.le_of_ble_eq_true rfl) hj ?_
  intro p e s m below meth c ls H locs R args Q hR0 hQ hx hb hml hr0 hlk hown hts hC hI hl
  subst hR0
  have hown : s.vm.findClass RX5 = some m.cls := hown
  have hl : lv_has ls 3 [(0, .ref (ad 7 0)), (1, .int x), (2, .int a)] := hl
  refine lv_aload_n hx hb dX5_repay_0 rfl (lv_at hl 0 rfl) ?_
  refine g_callVv (rest := []) (c_X5_begins l D tb ad hj P M V) rfl rfl gm_X5_begins hx hb hml hown hts hC hI (by decide) (e_x g_us) rfl rfl qm_X5_107 rfl hl.1 rfl ⟨rfl, rfl, by decide, by decide⟩ (Nat.le_of_ble_eq_true rfl) ⟨Nat.zero_le _, Nat.zero_le _⟩ dX5_repay_1 (fun H locs hI => ?_)
  refine lv_aload_n hx hb dX5_repay_4 rfl (lv_at hl 0 rfl) ?_
  refine lv_aload_n hx hb dX5_repay_5 rfl (lv_at hl 0 rfl) ?_
  refine lv_iload_n hx hb dX5_repay_6 rfl (lv_at hl 1 rfl) ?_
  refine lv_iload_n hx hb dX5_repay_7 rfl (lv_at hl 2 rfl) ?_
  refine g_callVi (rest := [.ref (ad 7 0)]) (c_X5_repays l D tb ad hj P M (m_begins V) x a n (m_N_begins hn) (m_okR_begins hR)) rfl rfl gm_X5_repays hx hb hml hown hts hC hI (by decide) (e_x g_us) rfl rfl qm_X5_128 rfl hl.1 rfl ⟨rfl, rfl, by decide, by decide⟩ (Nat.le_of_ble_eq_true rfl) ⟨Nat.zero_le _, Nat.zero_le _⟩ dX5_repay_8 (fun H locs hI => ?_)
  refine g_callVi (rest := []) (c_X5_acted l D tb ad hj P M ((m_repays (m_begins V) x a n).2) ((m_repays (m_begins V) x a n).1) sn ⟨by rw [m_repays_c (by decide), m_begins_c (by decide)]; exact hs.1, hs.2⟩) rfl rfl gm_X5_acted hx hb hml hown hts hC hI (by decide) (e_x g_us) rfl rfl qm_X5_113 rfl hl.1 rfl ⟨rfl, rfl, by decide, by decide⟩ (Nat.le_of_ble_eq_true rfl) ⟨Nat.zero_le _, Nat.zero_le _⟩ dX5_repay_11 (fun H locs hI => ?_)
  exact g_ir hQ hx hb hr0 hlk hC hI dX5_repay_14 rfl (by unfold m_repay; skip; skip; try with_reducible rfl) rfl (by unfold m_repay; skip; skip; try with_reducible rfl)
def m_price (V : g_V) (g : Int32) (x : Int32) (sn : Nat) : Int32 × g_V :=
  (((m_prices (m_begins V) g x).1), (m_acted ((m_prices (m_begins V) g x).2) ((m_prices (m_begins V) g x).1) sn))
abbrev rm_X5_price : Room := { frames := 2, cells := 0, slots := 0, locals := 45 }
set_option maxHeartbeats 800000 in
set_option maxRecDepth 100000 in
theorem c_X5_price (l : Launch) (D : va_G) (tb : g_T) (ad : g_Ad) (hj : g_inj ad) (P : g_P) (M : g_M) (V : g_V) (g : Int32) (x : Int32) (sn : Nat) (hs : m_S V sn) : g_Ci l yX5_price cX5_price 3 (some .int) rm_X5_price D tb ad [.ref (ad 7 0), .int g, .int x] P (va_up M 7 V) ((m_price V g x sn).1) P (va_up M 7 ((m_price V g x sn).2)) := by
  refine g_go (by decide) (Nat.le_of_ble_eq_true rfl) hj ?_
  intro p e s m below meth c ls H locs R args Q hR0 hQ hx hb hml hr0 hlk hown hts hC hI hl
  subst hR0
  have hown : s.vm.findClass RX5 = some m.cls := hown
  have hl : lv_has ls 3 [(0, .ref (ad 7 0)), (1, .int g), (2, .int x)] := hl
  refine lv_aload_n hx hb dX5_price_0 rfl (lv_at hl 0 rfl) ?_
  refine g_callVv (rest := []) (c_X5_begins l D tb ad hj P M V) rfl rfl gm_X5_begins hx hb hml hown hts hC hI (by decide) (e_x g_us) rfl rfl qm_X5_107 rfl hl.1 rfl ⟨rfl, rfl, by decide, by decide⟩ (Nat.le_of_ble_eq_true rfl) ⟨Nat.zero_le _, Nat.zero_le _⟩ dX5_price_1 (fun H locs hI => ?_)
  refine lv_aload_n hx hb dX5_price_4 rfl (lv_at hl 0 rfl) ?_
  refine lv_aload_n hx hb dX5_price_5 rfl (lv_at hl 0 rfl) ?_
  refine lv_iload_n hx hb dX5_price_6 rfl (lv_at hl 1 rfl) ?_
  refine lv_iload_n hx hb dX5_price_7 rfl (lv_at hl 2 rfl) ?_
  refine g_callVi (rest := [.ref (ad 7 0)]) (c_X5_prices l D tb ad hj P M (m_begins V) g x) rfl rfl gm_X5_prices hx hb hml hown hts hC hI (by decide) (e_x g_us) rfl rfl qm_X5_131 rfl hl.1 rfl ⟨rfl, rfl, by decide, by decide⟩ (Nat.le_of_ble_eq_true rfl) ⟨Nat.zero_le _, Nat.zero_le _⟩ dX5_price_8 (fun H locs hI => ?_)
  refine g_callVi (rest := []) (c_X5_acted l D tb ad hj P M ((m_prices (m_begins V) g x).2) ((m_prices (m_begins V) g x).1) sn ⟨by rw [m_prices_c (by decide), m_begins_c (by decide)]; exact hs.1, hs.2⟩) rfl rfl gm_X5_acted hx hb hml hown hts hC hI (by decide) (e_x g_us) rfl rfl qm_X5_113 rfl hl.1 rfl ⟨rfl, rfl, by decide, by decide⟩ (Nat.le_of_ble_eq_true rfl) ⟨Nat.zero_le _, Nat.zero_le _⟩ dX5_price_11 (fun H locs hI => ?_)
  exact g_ir hQ hx hb hr0 hlk hC hI dX5_price_14 rfl (by unfold m_price; skip; skip; try with_reducible rfl) rfl (by unfold m_price; skip; skip; try with_reducible rfl)
def m_call (V : g_V) (le : Int32) (sn : Nat) (n : Nat) : Int32 × g_V :=
  (((m_calls (m_begins V) le n).1), (m_acted ((m_calls (m_begins V) le n).2) ((m_calls (m_begins V) le n).1) sn))
abbrev rm_X5_call : Room := { frames := 6, cells := 0, slots := 0, locals := 131 }
set_option maxHeartbeats 800000 in
set_option maxRecDepth 100000 in
theorem c_X5_call (l : Launch) (D : va_G) (tb : g_T) (ad : g_Ad) (hj : g_inj ad) (P : g_P) (M : g_M) (V : g_V) (le : Int32) (sn : Nat) (hs : m_S V sn) (n : Nat) (hn : m_N V n) : g_Ci l yX5_call cX5_call 2 (some .int) rm_X5_call D tb ad [.ref (ad 7 0), .int le] P (va_up M 7 V) ((m_call V le sn n).1) P (va_up M 7 ((m_call V le sn n).2)) := by
  refine g_go (by decide) (Nat.le_of_ble_eq_true rfl) hj ?_
  intro p e s m below meth c ls H locs R args Q hR0 hQ hx hb hml hr0 hlk hown hts hC hI hl
  subst hR0
  have hown : s.vm.findClass RX5 = some m.cls := hown
  have hl : lv_has ls 2 [(0, .ref (ad 7 0)), (1, .int le)] := hl
  refine lv_aload_n hx hb dX5_call_0 rfl (lv_at hl 0 rfl) ?_
  refine g_callVv (rest := []) (c_X5_begins l D tb ad hj P M V) rfl rfl gm_X5_begins hx hb hml hown hts hC hI (by decide) (e_x g_us) rfl rfl qm_X5_107 rfl hl.1 rfl ⟨rfl, rfl, by decide, by decide⟩ (Nat.le_of_ble_eq_true rfl) ⟨Nat.zero_le _, Nat.zero_le _⟩ dX5_call_1 (fun H locs hI => ?_)
  refine lv_aload_n hx hb dX5_call_4 rfl (lv_at hl 0 rfl) ?_
  refine lv_aload_n hx hb dX5_call_5 rfl (lv_at hl 0 rfl) ?_
  refine lv_iload_n hx hb dX5_call_6 rfl (lv_at hl 1 rfl) ?_
  refine g_callVi (rest := [.ref (ad 7 0)]) (c_X5_calls l D tb ad hj P M (m_begins V) le n (m_N_begins hn)) rfl rfl gm_X5_calls hx hb hml hown hts hC hI (by decide) (e_x g_us) rfl rfl qm_X5_134 rfl hl.1 rfl ⟨rfl, rfl, by decide, by decide⟩ (Nat.le_of_ble_eq_true rfl) ⟨Nat.zero_le _, Nat.zero_le _⟩ dX5_call_7 (fun H locs hI => ?_)
  refine g_callVi (rest := []) (c_X5_acted l D tb ad hj P M ((m_calls (m_begins V) le n).2) ((m_calls (m_begins V) le n).1) sn ⟨by rw [m_calls_c (by decide), m_begins_c (by decide)]; exact hs.1, hs.2⟩) rfl rfl gm_X5_acted hx hb hml hown hts hC hI (by decide) (e_x g_us) rfl rfl qm_X5_113 rfl hl.1 rfl ⟨rfl, rfl, by decide, by decide⟩ (Nat.le_of_ble_eq_true rfl) ⟨Nat.zero_le _, Nat.zero_le _⟩ dX5_call_10 (fun H locs hI => ?_)
  exact g_ir hQ hx hb hr0 hlk hC hI dX5_call_13 rfl (by unfold m_call; skip; skip; try with_reducible rfl) rfl (by unfold m_call; skip; skip; try with_reducible rfl)
def m_pass (V : g_V) (days : Int32) (sn : Nat) (n : Nat) : Int32 × g_V :=
  (((m_lets (m_begins V) days n).1), (m_acted ((m_lets (m_begins V) days n).2) ((m_lets (m_begins V) days n).1) sn))
abbrev rm_X5_pass : Room := { frames := 6, cells := 0, slots := 0, locals := 130 }
set_option maxHeartbeats 800000 in
set_option maxRecDepth 100000 in
theorem c_X5_pass (l : Launch) (D : va_G) (tb : g_T) (ad : g_Ad) (hj : g_inj ad) (P : g_P) (M : g_M) (V : g_V) (days : Int32) (sn : Nat) (hs : m_S V sn) (n : Nat) (hn : m_N V n) (hL : m_okL V n) : g_Ci l yX5_pass cX5_pass 2 (some .int) rm_X5_pass D tb ad [.ref (ad 7 0), .int days] P (va_up M 7 V) ((m_pass V days sn n).1) P (va_up M 7 ((m_pass V days sn n).2)) := by
  refine g_go (by decide) (Nat.le_of_ble_eq_true rfl) hj ?_
  intro p e s m below meth c ls H locs R args Q hR0 hQ hx hb hml hr0 hlk hown hts hC hI hl
  subst hR0
  have hown : s.vm.findClass RX5 = some m.cls := hown
  have hl : lv_has ls 2 [(0, .ref (ad 7 0)), (1, .int days)] := hl
  refine lv_aload_n hx hb dX5_pass_0 rfl (lv_at hl 0 rfl) ?_
  refine g_callVv (rest := []) (c_X5_begins l D tb ad hj P M V) rfl rfl gm_X5_begins hx hb hml hown hts hC hI (by decide) (e_x g_us) rfl rfl qm_X5_107 rfl hl.1 rfl ⟨rfl, rfl, by decide, by decide⟩ (Nat.le_of_ble_eq_true rfl) ⟨Nat.zero_le _, Nat.zero_le _⟩ dX5_pass_1 (fun H locs hI => ?_)
  refine lv_aload_n hx hb dX5_pass_4 rfl (lv_at hl 0 rfl) ?_
  refine lv_aload_n hx hb dX5_pass_5 rfl (lv_at hl 0 rfl) ?_
  refine lv_iload_n hx hb dX5_pass_6 rfl (lv_at hl 1 rfl) ?_
  refine g_callVi (rest := [.ref (ad 7 0)]) (c_X5_lets l D tb ad hj P M (m_begins V) days n (m_N_begins hn) (m_okL_begins hL)) rfl rfl gm_X5_lets hx hb hml hown hts hC hI (by decide) (e_x g_us) rfl rfl qm_X5_137 rfl hl.1 rfl ⟨rfl, rfl, by decide, by decide⟩ (Nat.le_of_ble_eq_true rfl) ⟨Nat.zero_le _, Nat.zero_le _⟩ dX5_pass_7 (fun H locs hI => ?_)
  refine g_callVi (rest := []) (c_X5_acted l D tb ad hj P M ((m_lets (m_begins V) days n).2) ((m_lets (m_begins V) days n).1) sn ⟨by rw [m_lets_c (by decide), m_begins_c (by decide)]; exact hs.1, hs.2⟩) rfl rfl gm_X5_acted hx hb hml hown hts hC hI (by decide) (e_x g_us) rfl rfl qm_X5_113 rfl hl.1 rfl ⟨rfl, rfl, by decide, by decide⟩ (Nat.le_of_ble_eq_true rfl) ⟨Nat.zero_le _, Nat.zero_le _⟩ dX5_pass_10 (fun H locs hI => ?_)
  exact g_ir hQ hx hb hr0 hlk hC hI dX5_pass_13 rfl (by unfold m_pass; skip; skip; try with_reducible rfl) rfl (by unfold m_pass; skip; skip; try with_reducible rfl)
def m_hand (V : g_V) (x : Int32) (o : Int32) (sn : Nat) (n : Nat) : Int32 × g_V :=
  match (m_place (m_begins V) x n) with | none => ((-2000000001), (m_begins V)) | some i2 => (if m_in o 0 7 then (if ((m_begins V) 1 (34 + 7 * i2 + 1)) = o then ((-2000000002), (m_begins V)) else (if m_pledged (m_begins V) i2 then ((-2000000002), (m_begins V)) else (((m_begins V) 1 (34 + 7 * i2 + 1)), (m_acted (g_w2 (m_begins V) 1 (34 + 7 * i2 + 1) o) ((m_begins V) 1 (34 + 7 * i2 + 1)) sn)))) else ((-2000000001), (m_begins V)))
abbrev rm_X5_hand : Room := { frames := 2, cells := 0, slots := 0, locals := 45 }
set_option maxHeartbeats 800000 in
set_option maxRecDepth 100000 in
theorem c_X5_hand (l : Launch) (D : va_G) (tb : g_T) (ad : g_Ad) (hj : g_inj ad) (P : g_P) (M : g_M) (V : g_V) (x : Int32) (o : Int32) (sn : Nat) (hs : m_S V sn) (n : Nat) (hn : m_N V n) : g_Ci l yX5_hand cX5_hand 5 (some .int) rm_X5_hand D tb ad [.ref (ad 7 0), .int x, .int o] P (va_up M 7 V) ((m_hand V x o sn n).1) P (va_up M 7 ((m_hand V x o sn n).2)) := by
  refine g_go (by decide) (Nat.le_of_ble_eq_true rfl) hj ?_
  intro p e s m below meth c ls H locs R args Q hR0 hQ hx hb hml hr0 hlk hown hts hC hI hl
  subst hR0
  have hown : s.vm.findClass RX5 = some m.cls := hown
  have hl : lv_has ls 5 [(0, .ref (ad 7 0)), (1, .int x), (2, .int o)] := hl
  refine lv_aload_n hx hb dX5_hand_0 rfl (lv_at hl 0 rfl) ?_
  refine g_callVv (rest := []) (c_X5_begins l D tb ad hj P M V) rfl rfl gm_X5_begins hx hb hml hown hts hC hI (by decide) (e_x g_us) rfl rfl qm_X5_107 rfl hl.1 rfl ⟨rfl, rfl, by decide, by decide⟩ (Nat.le_of_ble_eq_true rfl) ⟨Nat.zero_le _, Nat.zero_le _⟩ dX5_hand_1 (fun H locs hI => ?_)
  refine lv_aload_n hx hb dX5_hand_4 rfl (lv_at hl 0 rfl) ?_
  refine lv_iload_n hx hb dX5_hand_5 rfl (lv_at hl 1 rfl) ?_
  refine g_callVi (rest := []) (c_X5_placeOf l D tb ad hj P M (m_begins V) x n (m_N_begins hn)) rfl rfl gm_X5_placeOf hx hb hml hown hts hC hI (by decide) (e_x g_us) rfl rfl qm_X5_83 rfl hl.1 rfl ⟨rfl, rfl, by decide, by decide⟩ (Nat.le_of_ble_eq_true rfl) ⟨Nat.zero_le _, Nat.zero_le _⟩ dX5_hand_6 (fun H locs hI => ?_)
  refine g_pf (fun q1 => ?_) (fun i2 q1 => ?_)
  · refine lv_istore_n (lv' := [(3, .int (-1)), (0, .ref (ad 7 0)), (1, .int x), (2, .int o)]) hx hb dX5_hand_9 rfl hl (by decide) rfl (fun ls hl => ?_)
    refine lv_iload_n hx hb dX5_hand_10 rfl (lv_at hl 0 rfl) ?_
    refine lv_if_lt (tgt := 24) hx hb dX5_hand_11 (by decide) (fun _ => ?_) (fun c3 => absurd c3 (by decide))
    refine lv_ldc (v := (-2000000001)) hx hb hown (hts _ qc_X5_25) dX5_hand_24 ?_
    exact g_ir hQ hx hb hr0 hlk hC hI dX5_hand_26 rfl (by unfold m_hand; skip; (try simp only [q1]); try with_reducible rfl) rfl (by unfold m_hand; skip; (try simp only [q1]); try with_reducible rfl)
  · have hi4 := k_last_lt q1
    have hi41 : i2 < n := hi4.1
    have := hn.2
    refine lv_istore_n (lv' := [(3, .int (nI i2)), (0, .ref (ad 7 0)), (1, .int x), (2, .int o)]) hx hb dX5_hand_9 rfl hl (by decide) rfl (fun ls hl => ?_)
    refine lv_iload_n hx hb dX5_hand_10 rfl (lv_at hl 0 rfl) ?_
    refine lv_if_lt (tgt := 24) hx hb dX5_hand_11 (by decide) (fun c5 => ?_) (fun c5 => ?_)
    · exact absurd c5 (nI_pos (by omega))
    · refine lv_iload_n hx hb dX5_hand_14 rfl (lv_at hl 3 rfl) ?_
      refine lv_iconst (v := 0) hx hb dX5_hand_15 (by decide) ?_
      refine lv_bipush (v := 7) hx hb dX5_hand_16 (by decide) ?_
      refine g_callSi (rest := []) (c_X5_in l D tb ad hj P (va_up M 7 (m_begins V)) o 0 7) rfl rfl gm_X5_in hx hb hml hown hts hC hI qm_X5_67 rfl hl.1 rfl ⟨rfl, rfl, by decide, by decide⟩ (Nat.le_of_ble_eq_true rfl) ⟨Nat.zero_le _, Nat.zero_le _⟩ dX5_hand_18 (fun H locs hI => ?_)
      refine g_tf (fun c6 => ?_) (fun c6 => ?_)
      · refine lv_if_ne (tgt := 27) hx hb dX5_hand_21 (by decide) (fun _ => ?_) (fun c7 => absurd c7 (by decide))
        refine lv_aload_n hx hb dX5_hand_27 rfl (lv_at hl 1 rfl) ?_
        refine lv_iload_n hx hb dX5_hand_28 rfl (lv_at hl 0 rfl) ?_
        refine lv_iconst (v := 1) hx hb dX5_hand_29 (by decide) ?_
        refine g_callVi (rest := []) (c_X5_of l D tb ad hj P M (m_begins V) i2 1 (by first | assumption | omega) (by first | assumption | omega)) rfl rfl gm_X5_of hx hb hml hown hts hC hI (by decide) (e_x g_us) rfl rfl qm_X5_33 rfl hl.1 rfl ⟨rfl, rfl, by decide, by decide⟩ (Nat.le_of_ble_eq_true rfl) ⟨Nat.zero_le _, Nat.zero_le _⟩ dX5_hand_30 (fun H locs hI => ?_)
        refine lv_istore (lv' := [(4, .int ((m_begins V) 1 (34 + 7 * i2 + 1))), (3, .int (nI i2)), (0, .ref (ad 7 0)), (1, .int x), (2, .int o)]) hx hb dX5_hand_33 hl (by decide) rfl (fun ls hl => ?_)
        refine lv_iload hx hb dX5_hand_35 (lv_at hl 0 rfl) ?_
        refine lv_iload_n hx hb dX5_hand_37 rfl (lv_at hl 4 rfl) ?_
        refine lv_icmp_eq (tgt := 49) hx hb dX5_hand_38 (by decide) (fun c8 => ?_) (fun c8 => ?_)
        · refine lv_ldc (v := (-2000000002)) hx hb hown (hts _ qc_X5_86) dX5_hand_49 ?_
          exact g_ir hQ hx hb hr0 hlk hC hI dX5_hand_51 rfl (by unfold m_hand; skip; (try simp only [q1]); (first | rw [if_pos c5] | rw [if_neg c5] | skip); (first | rw [if_pos c6] | rw [if_neg c6] | skip); (first | rw [if_pos c8] | rw [if_neg c8] | skip); try with_reducible rfl) rfl (by unfold m_hand; skip; (try simp only [q1]); (first | rw [if_pos c5] | rw [if_neg c5] | skip); (first | rw [if_pos c6] | rw [if_neg c6] | skip); (first | rw [if_pos c8] | rw [if_neg c8] | skip); try with_reducible rfl)
        · refine lv_aload_n hx hb dX5_hand_41 rfl (lv_at hl 2 rfl) ?_
          refine lv_iload_n hx hb dX5_hand_42 rfl (lv_at hl 1 rfl) ?_
          refine g_callVi (rest := []) (c_X5_isPledged l D tb ad hj P M (m_begins V) i2 (by first | assumption | omega)) rfl rfl gm_X5_isPledged hx hb hml hown hts hC hI (by decide) (e_x g_us) rfl rfl qm_X5_87 rfl hl.1 rfl ⟨rfl, rfl, by decide, by decide⟩ (Nat.le_of_ble_eq_true rfl) ⟨Nat.zero_le _, Nat.zero_le _⟩ dX5_hand_43 (fun H locs hI => ?_)
          refine g_tf (fun c9 => ?_) (fun c9 => ?_)
          · refine lv_if_eq (tgt := 52) hx hb dX5_hand_46 (by decide) (fun c10 => absurd c10 (by decide)) (fun _ => ?_)
            refine lv_ldc (v := (-2000000002)) hx hb hown (hts _ qc_X5_86) dX5_hand_49 ?_
            exact g_ir hQ hx hb hr0 hlk hC hI dX5_hand_51 rfl (by unfold m_hand; skip; (try simp only [q1]); (first | rw [if_pos c5] | rw [if_neg c5] | skip); (first | rw [if_pos c6] | rw [if_neg c6] | skip); (first | rw [if_pos c8] | rw [if_neg c8] | skip); (first | rw [if_pos c9] | rw [if_neg c9] | skip); try with_reducible rfl) rfl (by unfold m_hand; skip; (try simp only [q1]); (first | rw [if_pos c5] | rw [if_neg c5] | skip); (first | rw [if_pos c6] | rw [if_neg c6] | skip); (first | rw [if_pos c8] | rw [if_neg c8] | skip); (first | rw [if_pos c9] | rw [if_neg c9] | skip); try with_reducible rfl)
          · refine lv_if_eq (tgt := 52) hx hb dX5_hand_46 (by decide) (fun _ => ?_) (fun c11 => absurd c11 (by decide))
            refine lv_aload_n hx hb dX5_hand_52 rfl (lv_at hl 2 rfl) ?_
            refine lv_iload_n hx hb dX5_hand_53 rfl (lv_at hl 1 rfl) ?_
            refine lv_iconst (v := 1) hx hb dX5_hand_54 (by decide) ?_
            refine lv_iload_n hx hb dX5_hand_55 rfl (lv_at hl 4 rfl) ?_
            refine g_callVv (rest := []) (c_X5_lays l D tb ad hj P M (m_begins V) i2 1 o (by first | assumption | omega) (by first | assumption | omega)) rfl rfl gm_X5_lays hx hb hml hown hts hC hI (by decide) (e_x g_us) rfl rfl qm_X5_37 rfl hl.1 rfl ⟨rfl, rfl, by decide, by decide⟩ (Nat.le_of_ble_eq_true rfl) ⟨Nat.zero_le _, Nat.zero_le _⟩ dX5_hand_56 (fun H locs hI => ?_)
            refine lv_aload_n hx hb dX5_hand_59 rfl (lv_at hl 2 rfl) ?_
            refine lv_iload hx hb dX5_hand_60 (lv_at hl 0 rfl) ?_
            refine g_callVi (rest := []) (c_X5_acted l D tb ad hj P M (g_w2 (m_begins V) 1 (34 + 7 * i2 + 1) o) ((m_begins V) 1 (34 + 7 * i2 + 1)) sn ⟨by rw [w2_c (by decide), m_begins_c (by decide)]; exact hs.1, hs.2⟩) rfl rfl gm_X5_acted hx hb hml hown hts hC hI (by decide) (e_x g_us) rfl rfl qm_X5_113 rfl hl.1 rfl ⟨rfl, rfl, by decide, by decide⟩ (Nat.le_of_ble_eq_true rfl) ⟨Nat.zero_le _, Nat.zero_le _⟩ dX5_hand_62 (fun H locs hI => ?_)
            exact g_ir hQ hx hb hr0 hlk hC hI dX5_hand_65 rfl (by unfold m_hand; skip; (try simp only [q1]); (first | rw [if_pos c5] | rw [if_neg c5] | skip); (first | rw [if_pos c6] | rw [if_neg c6] | skip); (first | rw [if_pos c8] | rw [if_neg c8] | skip); (first | rw [if_pos c9] | rw [if_neg c9] | skip); try with_reducible rfl) rfl (by unfold m_hand; skip; (try simp only [q1]); (first | rw [if_pos c5] | rw [if_neg c5] | skip); (first | rw [if_pos c6] | rw [if_neg c6] | skip); (first | rw [if_pos c8] | rw [if_neg c8] | skip); (first | rw [if_pos c9] | rw [if_neg c9] | skip); try with_reducible rfl)
      · refine lv_if_ne (tgt := 27) hx hb dX5_hand_21 (by decide) (fun c12 => absurd c12 (by decide)) (fun _ => ?_)
        refine lv_ldc (v := (-2000000001)) hx hb hown (hts _ qc_X5_25) dX5_hand_24 ?_
        exact g_ir hQ hx hb hr0 hlk hC hI dX5_hand_26 rfl (by unfold m_hand; skip; (try simp only [q1]); (first | rw [if_pos c5] | rw [if_neg c5] | skip); (first | rw [if_pos c6] | rw [if_neg c6] | skip); try with_reducible rfl) rfl (by unfold m_hand; skip; (try simp only [q1]); (first | rw [if_pos c5] | rw [if_neg c5] | skip); (first | rw [if_pos c6] | rw [if_neg c6] | skip); try with_reducible rfl)
def m_lose (V : g_V) (bn : Int32) (a : Int32) (sn : Nat) (n : Nat) : Int32 × g_V :=
  if m_in bn 0 4 then (if 1 ≤ a then (if a ≤ ((m_begins V) 1 (24 + 2 * (bn.toNatClampNeg) + 1)) then (if m_covered (g_w2 (m_moves (m_begins V) (bn.toNatClampNeg) (-a)) 1 5 (((m_moves (m_begins V) (bn.toNatClampNeg) (-a)) 1 5) + a)) n then (((g_w2 (m_moves (m_begins V) (bn.toNatClampNeg) (-a)) 1 5 (((m_moves (m_begins V) (bn.toNatClampNeg) (-a)) 1 5) + a)) 1 (24 + 2 * (bn.toNatClampNeg) + 1)), (m_acted (g_w2 (m_moves (m_begins V) (bn.toNatClampNeg) (-a)) 1 5 (((m_moves (m_begins V) (bn.toNatClampNeg) (-a)) 1 5) + a)) ((g_w2 (m_moves (m_begins V) (bn.toNatClampNeg) (-a)) 1 5 (((m_moves (m_begins V) (bn.toNatClampNeg) (-a)) 1 5) + a)) 1 (24 + 2 * (bn.toNatClampNeg) + 1)) sn)) else ((-2000000002), (m_acted (g_w2 (m_moves (m_begins V) (bn.toNatClampNeg) (-a)) 1 5 (((m_moves (m_begins V) (bn.toNatClampNeg) (-a)) 1 5) + a)) (-2000000002) sn))) else ((-2000000002), (m_begins V))) else ((-2000000001), (m_begins V))) else ((-2000000001), (m_begins V))
abbrev rm_X5_lose : Room := { frames := 4, cells := 0, slots := 0, locals := 88 }
set_option maxHeartbeats 800000 in
set_option maxRecDepth 100000 in
theorem c_X5_lose (l : Launch) (D : va_G) (tb : g_T) (ad : g_Ad) (hj : g_inj ad) (P : g_P) (M : g_M) (V : g_V) (bn : Int32) (a : Int32) (sn : Nat) (hs : m_S V sn) (n : Nat) (hn : m_N V n) : g_Ci l yX5_lose cX5_lose 3 (some .int) rm_X5_lose D tb ad [.ref (ad 7 0), .int bn, .int a] P (va_up M 7 V) ((m_lose V bn a sn n).1) P (va_up M 7 ((m_lose V bn a sn n).2)) := by
  refine g_go (by decide) (Nat.le_of_ble_eq_true rfl) hj ?_
  intro p e s m below meth c ls H locs R args Q hR0 hQ hx hb hml hr0 hlk hown hts hC hI hl
  subst hR0
  have hown : s.vm.findClass RX5 = some m.cls := hown
  have hl : lv_has ls 3 [(0, .ref (ad 7 0)), (1, .int bn), (2, .int a)] := hl
  refine lv_aload_n hx hb dX5_lose_0 rfl (lv_at hl 0 rfl) ?_
  refine g_callVv (rest := []) (c_X5_begins l D tb ad hj P M V) rfl rfl gm_X5_begins hx hb hml hown hts hC hI (by decide) (e_x g_us) rfl rfl qm_X5_107 rfl hl.1 rfl ⟨rfl, rfl, by decide, by decide⟩ (Nat.le_of_ble_eq_true rfl) ⟨Nat.zero_le _, Nat.zero_le _⟩ dX5_lose_1 (fun H locs hI => ?_)
  refine lv_iload_n hx hb dX5_lose_4 rfl (lv_at hl 1 rfl) ?_
  refine lv_iconst (v := 0) hx hb dX5_lose_5 (by decide) ?_
  refine lv_iconst (v := 4) hx hb dX5_lose_6 (by decide) ?_
  refine g_callSi (rest := []) (c_X5_in l D tb ad hj P (va_up M 7 (m_begins V)) bn 0 4) rfl rfl gm_X5_in hx hb hml hown hts hC hI qm_X5_67 rfl hl.1 rfl ⟨rfl, rfl, by decide, by decide⟩ (Nat.le_of_ble_eq_true rfl) ⟨Nat.zero_le _, Nat.zero_le _⟩ dX5_lose_7 (fun H locs hI => ?_)
  refine g_tf (fun c1 => ?_) (fun c1 => ?_)
  · obtain ⟨b0, hb0, rfl⟩ := m_nI (N := 4) c1 rfl
    have hclb0 : (nI b0).toNatClampNeg = b0 := nI_clamp (by omega)
    refine lv_if_eq (tgt := 18) hx hb dX5_lose_10 (by decide) (fun c2 => absurd c2 (by decide)) (fun _ => ?_)
    refine lv_iload_n hx hb dX5_lose_13 rfl (lv_at hl 2 rfl) ?_
    refine lv_iconst (v := 1) hx hb dX5_lose_14 (by decide) ?_
    refine lv_icmp_ge (tgt := 21) hx hb dX5_lose_15 (by decide) (fun c3 => ?_) (fun c3 => ?_)
    · refine lv_aload_n hx hb dX5_lose_21 rfl (lv_at hl 0 rfl) ?_
      refine lv_iload_n hx hb dX5_lose_22 rfl (lv_at hl 1 rfl) ?_
      refine g_callVi (rest := []) (c_X5_amount l D tb ad hj P M (m_begins V) b0 (by first | assumption | omega)) rfl rfl gm_X5_amount hx hb hml hown hts hC hI (by decide) (e_x g_us) rfl rfl qm_X5_55 rfl hl.1 rfl ⟨rfl, rfl, by decide, by decide⟩ (Nat.le_of_ble_eq_true rfl) ⟨Nat.zero_le _, Nat.zero_le _⟩ dX5_lose_23 (fun H locs hI => ?_)
      refine lv_iload_n hx hb dX5_lose_26 rfl (lv_at hl 2 rfl) ?_
      refine lv_icmp_ge (tgt := 33) hx hb dX5_lose_27 (by decide) (fun c4 => ?_) (fun c4 => ?_)
      · refine lv_aload_n hx hb dX5_lose_33 rfl (lv_at hl 0 rfl) ?_
        refine lv_iload_n hx hb dX5_lose_34 rfl (lv_at hl 1 rfl) ?_
        refine lv_iload_n hx hb dX5_lose_35 rfl (lv_at hl 2 rfl) ?_
        refine lv_ineg hx hb dX5_lose_36 ?_
        refine g_callVv (rest := []) (c_X5_moves l D tb ad hj P M (m_begins V) b0 (-a) (by first | assumption | omega)) rfl rfl gm_X5_moves hx hb hml hown hts hC hI (by decide) (e_x g_us) rfl rfl qm_X5_75 rfl hl.1 rfl ⟨rfl, rfl, by decide, by decide⟩ (Nat.le_of_ble_eq_true rfl) ⟨Nat.zero_le _, Nat.zero_le _⟩ dX5_lose_37 (fun H locs hI => ?_)
        refine lv_aload_n hx hb dX5_lose_40 rfl (lv_at hl 0 rfl) ?_
        refine g_get 0 hx hb hts hown hC hI i_X5 (by decide) (e_x g_us) rfl (by decide) qf_X5_7 rfl rfl dX5_lose_41 ?_
        refine lv_iconst (v := 5) hx hb dX5_lose_44 (by decide) ?_
        refine lv_dup2_11 hx hb dX5_lose_45 rfl rfl ?_
        refine g_iald 5 hx hb hC hI (by decide) (e_xs g_us) (by unfold vp_in; decide) rfl dX5_lose_46 ?_
        refine lv_iload_n hx hb dX5_lose_47 rfl (lv_at hl 2 rfl) ?_
        refine lv_iadd hx hb dX5_lose_48 ?_
        refine g_iast 5 hx hb hC hI (by decide) (e_xs g_us) (by unfold vp_in; decide) rfl p_xs g_hs dX5_lose_49 (fun H locs hI => ?_)
        refine lv_aload_n hx hb dX5_lose_50 rfl (lv_at hl 0 rfl) ?_
        refine lv_aload_n hx hb dX5_lose_51 rfl (lv_at hl 0 rfl) ?_
        refine g_callVi (rest := [.ref (ad 7 0)]) (c_X5_areCovered l D tb ad hj P M (g_w2 (m_moves (m_begins V) b0 (-a)) 1 5 (((m_moves (m_begins V) b0 (-a)) 1 5) + a)) n ⟨by unfold m_moves; rw [w2_ne (by omega), w2_ne (by omega), m_begins_c (by decide)]; exact hn.1, hn.2⟩) rfl rfl gm_X5_areCovered hx hb hml hown hts hC hI (by decide) (e_x g_us) rfl rfl qm_X5_140 rfl hl.1 rfl ⟨rfl, rfl, by decide, by decide⟩ (Nat.le_of_ble_eq_true rfl) ⟨Nat.zero_le _, Nat.zero_le _⟩ dX5_lose_52 (fun H locs hI => ?_)
        refine g_tf (fun c5 => ?_) (fun c5 => ?_)
        · refine lv_if_eq (tgt := 66) hx hb dX5_lose_55 (by decide) (fun c6 => absurd c6 (by decide)) (fun _ => ?_)
          refine lv_aload_n hx hb dX5_lose_58 rfl (lv_at hl 0 rfl) ?_
          refine lv_iload_n hx hb dX5_lose_59 rfl (lv_at hl 1 rfl) ?_
          refine g_callVi (rest := [.ref (ad 7 0)]) (c_X5_amount l D tb ad hj P M (g_w2 (m_moves (m_begins V) b0 (-a)) 1 5 (((m_moves (m_begins V) b0 (-a)) 1 5) + a)) b0 (by first | assumption | omega)) rfl rfl gm_X5_amount hx hb hml hown hts hC hI (by decide) (e_x g_us) rfl rfl qm_X5_55 rfl hl.1 rfl ⟨rfl, rfl, by decide, by decide⟩ (Nat.le_of_ble_eq_true rfl) ⟨Nat.zero_le _, Nat.zero_le _⟩ dX5_lose_60 (fun H locs hI => ?_)
          refine lv_goto (tgt := 68) hx hb dX5_lose_63 (by decide) ?_
          refine g_callVi (rest := []) (c_X5_acted l D tb ad hj P M (g_w2 (m_moves (m_begins V) b0 (-a)) 1 5 (((m_moves (m_begins V) b0 (-a)) 1 5) + a)) ((g_w2 (m_moves (m_begins V) b0 (-a)) 1 5 (((m_moves (m_begins V) b0 (-a)) 1 5) + a)) 1 (24 + 2 * b0 + 1)) sn ⟨by unfold m_moves; rw [w2_c (by decide), w2_c (by decide), m_begins_c (by decide)]; exact hs.1, hs.2⟩) rfl rfl gm_X5_acted hx hb hml hown hts hC hI (by decide) (e_x g_us) rfl rfl qm_X5_113 rfl hl.1 rfl ⟨rfl, rfl, by decide, by decide⟩ (Nat.le_of_ble_eq_true rfl) ⟨Nat.zero_le _, Nat.zero_le _⟩ dX5_lose_68 (fun H locs hI => ?_)
          exact g_ir hQ hx hb hr0 hlk hC hI dX5_lose_71 rfl (by unfold m_lose; (try simp only [hclb0]); (first | rw [if_pos c1] | rw [if_neg c1] | skip); (first | rw [if_pos c3] | rw [if_neg c3] | skip); (first | rw [if_pos c4] | rw [if_neg c4] | skip); (first | rw [if_pos c5] | rw [if_neg c5] | skip); try with_reducible rfl) rfl (by unfold m_lose; (try simp only [hclb0]); (first | rw [if_pos c1] | rw [if_neg c1] | skip); (first | rw [if_pos c3] | rw [if_neg c3] | skip); (first | rw [if_pos c4] | rw [if_neg c4] | skip); (first | rw [if_pos c5] | rw [if_neg c5] | skip); try with_reducible rfl)
        · refine lv_if_eq (tgt := 66) hx hb dX5_lose_55 (by decide) (fun _ => ?_) (fun c7 => absurd c7 (by decide))
          refine lv_ldc (v := (-2000000002)) hx hb hown (hts _ qc_X5_86) dX5_lose_66 ?_
          refine g_callVi (rest := []) (c_X5_acted l D tb ad hj P M (g_w2 (m_moves (m_begins V) b0 (-a)) 1 5 (((m_moves (m_begins V) b0 (-a)) 1 5) + a)) (-2000000002) sn ⟨by unfold m_moves; rw [w2_c (by decide), w2_c (by decide), m_begins_c (by decide)]; exact hs.1, hs.2⟩) rfl rfl gm_X5_acted hx hb hml hown hts hC hI (by decide) (e_x g_us) rfl rfl qm_X5_113 rfl hl.1 rfl ⟨rfl, rfl, by decide, by decide⟩ (Nat.le_of_ble_eq_true rfl) ⟨Nat.zero_le _, Nat.zero_le _⟩ dX5_lose_68 (fun H locs hI => ?_)
          exact g_ir hQ hx hb hr0 hlk hC hI dX5_lose_71 rfl (by unfold m_lose; (try simp only [hclb0]); (first | rw [if_pos c1] | rw [if_neg c1] | skip); (first | rw [if_pos c3] | rw [if_neg c3] | skip); (first | rw [if_pos c4] | rw [if_neg c4] | skip); (first | rw [if_pos c5] | rw [if_neg c5] | skip); try with_reducible rfl) rfl (by unfold m_lose; (try simp only [hclb0]); (first | rw [if_pos c1] | rw [if_neg c1] | skip); (first | rw [if_pos c3] | rw [if_neg c3] | skip); (first | rw [if_pos c4] | rw [if_neg c4] | skip); (first | rw [if_pos c5] | rw [if_neg c5] | skip); try with_reducible rfl)
      · refine lv_ldc (v := (-2000000002)) hx hb hown (hts _ qc_X5_86) dX5_lose_30 ?_
        exact g_ir hQ hx hb hr0 hlk hC hI dX5_lose_32 rfl (by unfold m_lose; (try simp only [hclb0]); (first | rw [if_pos c1] | rw [if_neg c1] | skip); (first | rw [if_pos c3] | rw [if_neg c3] | skip); (first | rw [if_pos c4] | rw [if_neg c4] | skip); try with_reducible rfl) rfl (by unfold m_lose; (try simp only [hclb0]); (first | rw [if_pos c1] | rw [if_neg c1] | skip); (first | rw [if_pos c3] | rw [if_neg c3] | skip); (first | rw [if_pos c4] | rw [if_neg c4] | skip); try with_reducible rfl)
    · refine lv_ldc (v := (-2000000001)) hx hb hown (hts _ qc_X5_25) dX5_lose_18 ?_
      exact g_ir hQ hx hb hr0 hlk hC hI dX5_lose_20 rfl (by unfold m_lose; (try simp only [hclb0]); (first | rw [if_pos c1] | rw [if_neg c1] | skip); (first | rw [if_pos c3] | rw [if_neg c3] | skip); try with_reducible rfl) rfl (by unfold m_lose; (try simp only [hclb0]); (first | rw [if_pos c1] | rw [if_neg c1] | skip); (first | rw [if_pos c3] | rw [if_neg c3] | skip); try with_reducible rfl)
  · refine lv_if_eq (tgt := 18) hx hb dX5_lose_10 (by decide) (fun _ => ?_) (fun c8 => absurd c8 (by decide))
    refine lv_ldc (v := (-2000000001)) hx hb hown (hts _ qc_X5_25) dX5_lose_18 ?_
    exact g_ir hQ hx hb hr0 hlk hC hI dX5_lose_20 rfl (by unfold m_lose; (try simp only [hclb0]); (first | rw [if_pos c1] | rw [if_neg c1] | skip); try with_reducible rfl) rfl (by unfold m_lose; (try simp only [hclb0]); (first | rw [if_pos c1] | rw [if_neg c1] | skip); try with_reducible rfl)
def m_regrade (V : g_V) (bn : Int32) (g : Int32) (sn : Nat) (n : Nat) : Int32 × g_V :=
  if m_in bn 0 4 then (if m_in g 0 2 then (if ((m_begins V) 1 (24 + 2 * (bn.toNatClampNeg))) ≤ (g) then (if m_covered (g_w2 (m_begins V) 1 (24 + (2 * (bn.toNatClampNeg))) (g)) n then (((m_begins V) 1 (24 + 2 * (bn.toNatClampNeg))), (m_acted (g_w2 (m_begins V) 1 (24 + (2 * (bn.toNatClampNeg))) (g)) ((m_begins V) 1 (24 + 2 * (bn.toNatClampNeg))) sn)) else ((-2000000002), (m_acted (g_w2 (m_begins V) 1 (24 + (2 * (bn.toNatClampNeg))) (g)) (-2000000002) sn))) else (if ((m_begins V) 1 (24 + 2 * (bn.toNatClampNeg) + 1)) ≤ 0 then (if m_covered (g_w2 (m_begins V) 1 (24 + (2 * (bn.toNatClampNeg))) (g)) n then (((m_begins V) 1 (24 + 2 * (bn.toNatClampNeg))), (m_acted (g_w2 (m_begins V) 1 (24 + (2 * (bn.toNatClampNeg))) (g)) ((m_begins V) 1 (24 + 2 * (bn.toNatClampNeg))) sn)) else ((-2000000002), (m_acted (g_w2 (m_begins V) 1 (24 + (2 * (bn.toNatClampNeg))) (g)) (-2000000002) sn))) else ((-2000000002), (m_begins V)))) else ((-2000000001), (m_begins V))) else ((-2000000001), (m_begins V))
abbrev rm_X5_regrade : Room := { frames := 4, cells := 0, slots := 0, locals := 88 }
set_option maxHeartbeats 800000 in
set_option maxRecDepth 100000 in
theorem c_X5_regrade (l : Launch) (D : va_G) (tb : g_T) (ad : g_Ad) (hj : g_inj ad) (P : g_P) (M : g_M) (V : g_V) (bn : Int32) (g : Int32) (sn : Nat) (hs : m_S V sn) (n : Nat) (hn : m_N V n) : g_Ci l yX5_regrade cX5_regrade 4 (some .int) rm_X5_regrade D tb ad [.ref (ad 7 0), .int bn, .int g] P (va_up M 7 V) ((m_regrade V bn g sn n).1) P (va_up M 7 ((m_regrade V bn g sn n).2)) := by
  refine g_go (by decide) (Nat.le_of_ble_eq_true rfl) hj ?_
  intro p e s m below meth c ls H locs R args Q hR0 hQ hx hb hml hr0 hlk hown hts hC hI hl
  subst hR0
  have hown : s.vm.findClass RX5 = some m.cls := hown
  have hl : lv_has ls 4 [(0, .ref (ad 7 0)), (1, .int bn), (2, .int g)] := hl
  refine lv_aload_n hx hb dX5_regrade_0 rfl (lv_at hl 0 rfl) ?_
  refine g_callVv (rest := []) (c_X5_begins l D tb ad hj P M V) rfl rfl gm_X5_begins hx hb hml hown hts hC hI (by decide) (e_x g_us) rfl rfl qm_X5_107 rfl hl.1 rfl ⟨rfl, rfl, by decide, by decide⟩ (Nat.le_of_ble_eq_true rfl) ⟨Nat.zero_le _, Nat.zero_le _⟩ dX5_regrade_1 (fun H locs hI => ?_)
  refine lv_iload_n hx hb dX5_regrade_4 rfl (lv_at hl 1 rfl) ?_
  refine lv_iconst (v := 0) hx hb dX5_regrade_5 (by decide) ?_
  refine lv_iconst (v := 4) hx hb dX5_regrade_6 (by decide) ?_
  refine g_callSi (rest := []) (c_X5_in l D tb ad hj P (va_up M 7 (m_begins V)) bn 0 4) rfl rfl gm_X5_in hx hb hml hown hts hC hI qm_X5_67 rfl hl.1 rfl ⟨rfl, rfl, by decide, by decide⟩ (Nat.le_of_ble_eq_true rfl) ⟨Nat.zero_le _, Nat.zero_le _⟩ dX5_regrade_7 (fun H locs hI => ?_)
  refine g_tf (fun c1 => ?_) (fun c1 => ?_)
  · obtain ⟨b0, hb0, rfl⟩ := m_nI (N := 4) c1 rfl
    have hclb0 : (nI b0).toNatClampNeg = b0 := nI_clamp (by omega)
    refine lv_if_eq (tgt := 22) hx hb dX5_regrade_10 (by decide) (fun c2 => absurd c2 (by decide)) (fun _ => ?_)
    refine lv_iload_n hx hb dX5_regrade_13 rfl (lv_at hl 2 rfl) ?_
    refine lv_iconst (v := 0) hx hb dX5_regrade_14 (by decide) ?_
    refine lv_iconst (v := 2) hx hb dX5_regrade_15 (by decide) ?_
    refine g_callSi (rest := []) (c_X5_in l D tb ad hj P (va_up M 7 (m_begins V)) g 0 2) rfl rfl gm_X5_in hx hb hml hown hts hC hI qm_X5_67 rfl hl.1 rfl ⟨rfl, rfl, by decide, by decide⟩ (Nat.le_of_ble_eq_true rfl) ⟨Nat.zero_le _, Nat.zero_le _⟩ dX5_regrade_16 (fun H locs hI => ?_)
    refine g_tf (fun c3 => ?_) (fun c3 => ?_)
    · obtain ⟨g1, hg1, rfl⟩ := m_nI (N := 2) c3 rfl
      have hclg1 : (nI g1).toNatClampNeg = g1 := nI_clamp (by omega)
      refine lv_if_ne (tgt := 25) hx hb dX5_regrade_19 (by decide) (fun _ => ?_) (fun c4 => absurd c4 (by decide))
      refine lv_aload_n hx hb dX5_regrade_25 rfl (lv_at hl 0 rfl) ?_
      refine lv_iload_n hx hb dX5_regrade_26 rfl (lv_at hl 1 rfl) ?_
      refine g_callVi (rest := []) (c_X5_grade l D tb ad hj P M (m_begins V) b0 (by first | assumption | omega)) rfl rfl gm_X5_grade hx hb hml hown hts hC hI (by decide) (e_x g_us) rfl rfl qm_X5_52 rfl hl.1 rfl ⟨rfl, rfl, by decide, by decide⟩ (Nat.le_of_ble_eq_true rfl) ⟨Nat.zero_le _, Nat.zero_le _⟩ dX5_regrade_27 (fun H locs hI => ?_)
      refine lv_istore_n (lv' := [(3, .int ((m_begins V) 1 (24 + 2 * b0))), (0, .ref (ad 7 0)), (1, .int (nI b0)), (2, .int (nI g1))]) hx hb dX5_regrade_30 rfl hl (by decide) rfl (fun ls hl => ?_)
      refine lv_iload_n hx hb dX5_regrade_31 rfl (lv_at hl 3 rfl) ?_
      refine lv_iload_n hx hb dX5_regrade_32 rfl (lv_at hl 0 rfl) ?_
      refine lv_icmp_ge (tgt := 47) hx hb dX5_regrade_33 (by decide) (fun c5 => ?_) (fun c5 => ?_)
      · refine lv_aload_n hx hb dX5_regrade_47 rfl (lv_at hl 1 rfl) ?_
        refine g_get 0 hx hb hts hown hC hI i_X5 (by decide) (e_x g_us) rfl (by decide) qf_X5_7 rfl rfl dX5_regrade_48 ?_
        refine lv_bipush (v := 24) hx hb dX5_regrade_51 (by decide) ?_
        refine lv_iconst (v := 2) hx hb dX5_regrade_53 (by decide) ?_
        refine lv_iload_n hx hb dX5_regrade_54 rfl (lv_at hl 2 rfl) ?_
        refine lv_imul hx hb dX5_regrade_55 ?_
        refine g_te (pk_mul 2 b0) ?_
        refine lv_iadd hx hb dX5_regrade_56 ?_
        refine g_te (nI_add 24 (2 * b0)) ?_
        refine lv_iload_n hx hb dX5_regrade_57 rfl (lv_at hl 3 rfl) ?_
        refine g_iast (24 + (2 * b0)) hx hb hC hI (by decide) (e_xs g_us) (vp_in_nI (by omega) (by decide)) (nI_clamp (by omega)) p_xs g_hs dX5_regrade_58 (fun H locs hI => ?_)
        refine lv_aload_n hx hb dX5_regrade_59 rfl (lv_at hl 1 rfl) ?_
        refine lv_aload_n hx hb dX5_regrade_60 rfl (lv_at hl 1 rfl) ?_
        refine g_callVi (rest := [.ref (ad 7 0)]) (c_X5_areCovered l D tb ad hj P M (g_w2 (m_begins V) 1 (24 + (2 * b0)) (nI g1)) n ⟨by rw [w2_ne (by omega), m_begins_c (by decide)]; exact hn.1, hn.2⟩) rfl rfl gm_X5_areCovered hx hb hml hown hts hC hI (by decide) (e_x g_us) rfl rfl qm_X5_140 rfl hl.1 rfl ⟨rfl, rfl, by decide, by decide⟩ (Nat.le_of_ble_eq_true rfl) ⟨Nat.zero_le _, Nat.zero_le _⟩ dX5_regrade_61 (fun H locs hI => ?_)
        refine g_tf (fun c6 => ?_) (fun c6 => ?_)
        · refine lv_if_eq (tgt := 71) hx hb dX5_regrade_64 (by decide) (fun c7 => absurd c7 (by decide)) (fun _ => ?_)
          refine lv_iload_n hx hb dX5_regrade_67 rfl (lv_at hl 0 rfl) ?_
          refine lv_goto (tgt := 73) hx hb dX5_regrade_68 (by decide) ?_
          refine g_callVi (rest := []) (c_X5_acted l D tb ad hj P M (g_w2 (m_begins V) 1 (24 + (2 * b0)) (nI g1)) ((m_begins V) 1 (24 + 2 * b0)) sn ⟨by rw [w2_c (by decide), m_begins_c (by decide)]; exact hs.1, hs.2⟩) rfl rfl gm_X5_acted hx hb hml hown hts hC hI (by decide) (e_x g_us) rfl rfl qm_X5_113 rfl hl.1 rfl ⟨rfl, rfl, by decide, by decide⟩ (Nat.le_of_ble_eq_true rfl) ⟨Nat.zero_le _, Nat.zero_le _⟩ dX5_regrade_73 (fun H locs hI => ?_)
          exact g_ir hQ hx hb hr0 hlk hC hI dX5_regrade_76 rfl (by unfold m_regrade; (try simp only [hclb0]); (try simp only [hclg1]); (first | rw [if_pos c1] | rw [if_neg c1] | skip); (first | rw [if_pos c3] | rw [if_neg c3] | skip); (first | rw [if_pos c5] | rw [if_neg c5] | skip); (first | rw [if_pos c6] | rw [if_neg c6] | skip); try with_reducible rfl) rfl (by unfold m_regrade; (try simp only [hclb0]); (try simp only [hclg1]); (first | rw [if_pos c1] | rw [if_neg c1] | skip); (first | rw [if_pos c3] | rw [if_neg c3] | skip); (first | rw [if_pos c5] | rw [if_neg c5] | skip); (first | rw [if_pos c6] | rw [if_neg c6] | skip); try with_reducible rfl)
        · refine lv_if_eq (tgt := 71) hx hb dX5_regrade_64 (by decide) (fun _ => ?_) (fun c8 => absurd c8 (by decide))
          refine lv_ldc (v := (-2000000002)) hx hb hown (hts _ qc_X5_86) dX5_regrade_71 ?_
          refine g_callVi (rest := []) (c_X5_acted l D tb ad hj P M (g_w2 (m_begins V) 1 (24 + (2 * b0)) (nI g1)) (-2000000002) sn ⟨by rw [w2_c (by decide), m_begins_c (by decide)]; exact hs.1, hs.2⟩) rfl rfl gm_X5_acted hx hb hml hown hts hC hI (by decide) (e_x g_us) rfl rfl qm_X5_113 rfl hl.1 rfl ⟨rfl, rfl, by decide, by decide⟩ (Nat.le_of_ble_eq_true rfl) ⟨Nat.zero_le _, Nat.zero_le _⟩ dX5_regrade_73 (fun H locs hI => ?_)
          exact g_ir hQ hx hb hr0 hlk hC hI dX5_regrade_76 rfl (by unfold m_regrade; (try simp only [hclb0]); (try simp only [hclg1]); (first | rw [if_pos c1] | rw [if_neg c1] | skip); (first | rw [if_pos c3] | rw [if_neg c3] | skip); (first | rw [if_pos c5] | rw [if_neg c5] | skip); (first | rw [if_pos c6] | rw [if_neg c6] | skip); try with_reducible rfl) rfl (by unfold m_regrade; (try simp only [hclb0]); (try simp only [hclg1]); (first | rw [if_pos c1] | rw [if_neg c1] | skip); (first | rw [if_pos c3] | rw [if_neg c3] | skip); (first | rw [if_pos c5] | rw [if_neg c5] | skip); (first | rw [if_pos c6] | rw [if_neg c6] | skip); try with_reducible rfl)
      · refine lv_aload_n hx hb dX5_regrade_36 rfl (lv_at hl 1 rfl) ?_
        refine lv_iload_n hx hb dX5_regrade_37 rfl (lv_at hl 2 rfl) ?_
        refine g_callVi (rest := []) (c_X5_amount l D tb ad hj P M (m_begins V) b0 (by first | assumption | omega)) rfl rfl gm_X5_amount hx hb hml hown hts hC hI (by decide) (e_x g_us) rfl rfl qm_X5_55 rfl hl.1 rfl ⟨rfl, rfl, by decide, by decide⟩ (Nat.le_of_ble_eq_true rfl) ⟨Nat.zero_le _, Nat.zero_le _⟩ dX5_regrade_38 (fun H locs hI => ?_)
        refine lv_if_le (tgt := 47) hx hb dX5_regrade_41 (by decide) (fun c9 => ?_) (fun c9 => ?_)
        · refine lv_aload_n hx hb dX5_regrade_47 rfl (lv_at hl 1 rfl) ?_
          refine g_get 0 hx hb hts hown hC hI i_X5 (by decide) (e_x g_us) rfl (by decide) qf_X5_7 rfl rfl dX5_regrade_48 ?_
          refine lv_bipush (v := 24) hx hb dX5_regrade_51 (by decide) ?_
          refine lv_iconst (v := 2) hx hb dX5_regrade_53 (by decide) ?_
          refine lv_iload_n hx hb dX5_regrade_54 rfl (lv_at hl 2 rfl) ?_
          refine lv_imul hx hb dX5_regrade_55 ?_
          refine g_te (pk_mul 2 b0) ?_
          refine lv_iadd hx hb dX5_regrade_56 ?_
          refine g_te (nI_add 24 (2 * b0)) ?_
          refine lv_iload_n hx hb dX5_regrade_57 rfl (lv_at hl 3 rfl) ?_
          refine g_iast (24 + (2 * b0)) hx hb hC hI (by decide) (e_xs g_us) (vp_in_nI (by omega) (by decide)) (nI_clamp (by omega)) p_xs g_hs dX5_regrade_58 (fun H locs hI => ?_)
          refine lv_aload_n hx hb dX5_regrade_59 rfl (lv_at hl 1 rfl) ?_
          refine lv_aload_n hx hb dX5_regrade_60 rfl (lv_at hl 1 rfl) ?_
          refine g_callVi (rest := [.ref (ad 7 0)]) (c_X5_areCovered l D tb ad hj P M (g_w2 (m_begins V) 1 (24 + (2 * b0)) (nI g1)) n ⟨by rw [w2_ne (by omega), m_begins_c (by decide)]; exact hn.1, hn.2⟩) rfl rfl gm_X5_areCovered hx hb hml hown hts hC hI (by decide) (e_x g_us) rfl rfl qm_X5_140 rfl hl.1 rfl ⟨rfl, rfl, by decide, by decide⟩ (Nat.le_of_ble_eq_true rfl) ⟨Nat.zero_le _, Nat.zero_le _⟩ dX5_regrade_61 (fun H locs hI => ?_)
          refine g_tf (fun c10 => ?_) (fun c10 => ?_)
          · refine lv_if_eq (tgt := 71) hx hb dX5_regrade_64 (by decide) (fun c11 => absurd c11 (by decide)) (fun _ => ?_)
            refine lv_iload_n hx hb dX5_regrade_67 rfl (lv_at hl 0 rfl) ?_
            refine lv_goto (tgt := 73) hx hb dX5_regrade_68 (by decide) ?_
            refine g_callVi (rest := []) (c_X5_acted l D tb ad hj P M (g_w2 (m_begins V) 1 (24 + (2 * b0)) (nI g1)) ((m_begins V) 1 (24 + 2 * b0)) sn ⟨by rw [w2_c (by decide), m_begins_c (by decide)]; exact hs.1, hs.2⟩) rfl rfl gm_X5_acted hx hb hml hown hts hC hI (by decide) (e_x g_us) rfl rfl qm_X5_113 rfl hl.1 rfl ⟨rfl, rfl, by decide, by decide⟩ (Nat.le_of_ble_eq_true rfl) ⟨Nat.zero_le _, Nat.zero_le _⟩ dX5_regrade_73 (fun H locs hI => ?_)
            exact g_ir hQ hx hb hr0 hlk hC hI dX5_regrade_76 rfl (by unfold m_regrade; (try simp only [hclb0]); (try simp only [hclg1]); (first | rw [if_pos c1] | rw [if_neg c1] | skip); (first | rw [if_pos c3] | rw [if_neg c3] | skip); (first | rw [if_pos c5] | rw [if_neg c5] | skip); (first | rw [if_pos c9] | rw [if_neg c9] | skip); (first | rw [if_pos c10] | rw [if_neg c10] | skip); try with_reducible rfl) rfl (by unfold m_regrade; (try simp only [hclb0]); (try simp only [hclg1]); (first | rw [if_pos c1] | rw [if_neg c1] | skip); (first | rw [if_pos c3] | rw [if_neg c3] | skip); (first | rw [if_pos c5] | rw [if_neg c5] | skip); (first | rw [if_pos c9] | rw [if_neg c9] | skip); (first | rw [if_pos c10] | rw [if_neg c10] | skip); try with_reducible rfl)
          · refine lv_if_eq (tgt := 71) hx hb dX5_regrade_64 (by decide) (fun _ => ?_) (fun c12 => absurd c12 (by decide))
            refine lv_ldc (v := (-2000000002)) hx hb hown (hts _ qc_X5_86) dX5_regrade_71 ?_
            refine g_callVi (rest := []) (c_X5_acted l D tb ad hj P M (g_w2 (m_begins V) 1 (24 + (2 * b0)) (nI g1)) (-2000000002) sn ⟨by rw [w2_c (by decide), m_begins_c (by decide)]; exact hs.1, hs.2⟩) rfl rfl gm_X5_acted hx hb hml hown hts hC hI (by decide) (e_x g_us) rfl rfl qm_X5_113 rfl hl.1 rfl ⟨rfl, rfl, by decide, by decide⟩ (Nat.le_of_ble_eq_true rfl) ⟨Nat.zero_le _, Nat.zero_le _⟩ dX5_regrade_73 (fun H locs hI => ?_)
            exact g_ir hQ hx hb hr0 hlk hC hI dX5_regrade_76 rfl (by unfold m_regrade; (try simp only [hclb0]); (try simp only [hclg1]); (first | rw [if_pos c1] | rw [if_neg c1] | skip); (first | rw [if_pos c3] | rw [if_neg c3] | skip); (first | rw [if_pos c5] | rw [if_neg c5] | skip); (first | rw [if_pos c9] | rw [if_neg c9] | skip); (first | rw [if_pos c10] | rw [if_neg c10] | skip); try with_reducible rfl) rfl (by unfold m_regrade; (try simp only [hclb0]); (try simp only [hclg1]); (first | rw [if_pos c1] | rw [if_neg c1] | skip); (first | rw [if_pos c3] | rw [if_neg c3] | skip); (first | rw [if_pos c5] | rw [if_neg c5] | skip); (first | rw [if_pos c9] | rw [if_neg c9] | skip); (first | rw [if_pos c10] | rw [if_neg c10] | skip); try with_reducible rfl)
        · refine lv_ldc (v := (-2000000002)) hx hb hown (hts _ qc_X5_86) dX5_regrade_44 ?_
          exact g_ir hQ hx hb hr0 hlk hC hI dX5_regrade_46 rfl (by unfold m_regrade; (try simp only [hclb0]); (try simp only [hclg1]); (first | rw [if_pos c1] | rw [if_neg c1] | skip); (first | rw [if_pos c3] | rw [if_neg c3] | skip); (first | rw [if_pos c5] | rw [if_neg c5] | skip); (first | rw [if_pos c9] | rw [if_neg c9] | skip); try with_reducible rfl) rfl (by unfold m_regrade; (try simp only [hclb0]); (try simp only [hclg1]); (first | rw [if_pos c1] | rw [if_neg c1] | skip); (first | rw [if_pos c3] | rw [if_neg c3] | skip); (first | rw [if_pos c5] | rw [if_neg c5] | skip); (first | rw [if_pos c9] | rw [if_neg c9] | skip); try with_reducible rfl)
    · refine lv_if_ne (tgt := 25) hx hb dX5_regrade_19 (by decide) (fun c13 => absurd c13 (by decide)) (fun _ => ?_)
      refine lv_ldc (v := (-2000000001)) hx hb hown (hts _ qc_X5_25) dX5_regrade_22 ?_
      exact g_ir hQ hx hb hr0 hlk hC hI dX5_regrade_24 rfl (by unfold m_regrade; (try simp only [hclb0]); (try simp only [hclg1]); (first | rw [if_pos c1] | rw [if_neg c1] | skip); (first | rw [if_pos c3] | rw [if_neg c3] | skip); try with_reducible rfl) rfl (by unfold m_regrade; (try simp only [hclb0]); (try simp only [hclg1]); (first | rw [if_pos c1] | rw [if_neg c1] | skip); (first | rw [if_pos c3] | rw [if_neg c3] | skip); try with_reducible rfl)
  · refine lv_if_eq (tgt := 22) hx hb dX5_regrade_10 (by decide) (fun _ => ?_) (fun c14 => absurd c14 (by decide))
    refine lv_ldc (v := (-2000000001)) hx hb hown (hts _ qc_X5_25) dX5_regrade_22 ?_
    exact g_ir hQ hx hb hr0 hlk hC hI dX5_regrade_24 rfl (by unfold m_regrade; (try simp only [hclb0]); (try simp only [hclg1]); (first | rw [if_pos c1] | rw [if_neg c1] | skip); try with_reducible rfl) rfl (by unfold m_regrade; (try simp only [hclb0]); (try simp only [hclg1]); (first | rw [if_pos c1] | rw [if_neg c1] | skip); try with_reducible rfl)
def m_set (V : g_V) (w : Int32) (v : Int32) (sn : Nat) : Int32 × g_V :=
  if w = 2 then (if w = 0 then (if m_in w 0 3 then (if m_in v 1 100 then (((m_begins V) 1 (6 + (w.toNatClampNeg))), (m_acted (g_w2 (m_begins V) 1 (6 + (w.toNatClampNeg)) v) ((m_begins V) 1 (6 + (w.toNatClampNeg))) sn)) else ((-2000000001), (m_begins V))) else ((-2000000001), (m_begins V))) else (if w = 1 then (if m_in w 0 3 then (if m_in v 1 150 then (((m_begins V) 1 (6 + (w.toNatClampNeg))), (m_acted (g_w2 (m_begins V) 1 (6 + (w.toNatClampNeg)) v) ((m_begins V) 1 (6 + (w.toNatClampNeg))) sn)) else ((-2000000001), (m_begins V))) else ((-2000000001), (m_begins V))) else (if w = 2 then (if m_in w 0 3 then (if m_in v 1 30 then (((m_begins V) 1 (6 + (w.toNatClampNeg))), (m_acted (g_w2 (m_begins V) 1 (6 + (w.toNatClampNeg)) v) ((m_begins V) 1 (6 + (w.toNatClampNeg))) sn)) else ((-2000000001), (m_begins V))) else ((-2000000001), (m_begins V))) else (if m_in w 0 3 then (if m_in v 1 20 then (((m_begins V) 1 (6 + (w.toNatClampNeg))), (m_acted (g_w2 (m_begins V) 1 (6 + (w.toNatClampNeg)) v) ((m_begins V) 1 (6 + (w.toNatClampNeg))) sn)) else ((-2000000001), (m_begins V))) else ((-2000000001), (m_begins V)))))) else (if w = 3 then (if w = 0 then (if m_in w 0 3 then (if m_in v 0 100 then (((m_begins V) 1 (6 + (w.toNatClampNeg))), (m_acted (g_w2 (m_begins V) 1 (6 + (w.toNatClampNeg)) v) ((m_begins V) 1 (6 + (w.toNatClampNeg))) sn)) else ((-2000000001), (m_begins V))) else ((-2000000001), (m_begins V))) else (if w = 1 then (if m_in w 0 3 then (if m_in v 0 150 then (((m_begins V) 1 (6 + (w.toNatClampNeg))), (m_acted (g_w2 (m_begins V) 1 (6 + (w.toNatClampNeg)) v) ((m_begins V) 1 (6 + (w.toNatClampNeg))) sn)) else ((-2000000001), (m_begins V))) else ((-2000000001), (m_begins V))) else (if w = 2 then (if m_in w 0 3 then (if m_in v 0 30 then (((m_begins V) 1 (6 + (w.toNatClampNeg))), (m_acted (g_w2 (m_begins V) 1 (6 + (w.toNatClampNeg)) v) ((m_begins V) 1 (6 + (w.toNatClampNeg))) sn)) else ((-2000000001), (m_begins V))) else ((-2000000001), (m_begins V))) else (if m_in w 0 3 then (if m_in v 0 20 then (((m_begins V) 1 (6 + (w.toNatClampNeg))), (m_acted (g_w2 (m_begins V) 1 (6 + (w.toNatClampNeg)) v) ((m_begins V) 1 (6 + (w.toNatClampNeg))) sn)) else ((-2000000001), (m_begins V))) else ((-2000000001), (m_begins V)))))) else (if w = 0 then (if m_in w 0 3 then (if m_in v 10 100 then (((m_begins V) 1 (6 + (w.toNatClampNeg))), (m_acted (g_w2 (m_begins V) 1 (6 + (w.toNatClampNeg)) v) ((m_begins V) 1 (6 + (w.toNatClampNeg))) sn)) else ((-2000000001), (m_begins V))) else ((-2000000001), (m_begins V))) else (if w = 1 then (if m_in w 0 3 then (if m_in v 10 150 then (((m_begins V) 1 (6 + (w.toNatClampNeg))), (m_acted (g_w2 (m_begins V) 1 (6 + (w.toNatClampNeg)) v) ((m_begins V) 1 (6 + (w.toNatClampNeg))) sn)) else ((-2000000001), (m_begins V))) else ((-2000000001), (m_begins V))) else (if w = 2 then (if m_in w 0 3 then (if m_in v 10 30 then (((m_begins V) 1 (6 + (w.toNatClampNeg))), (m_acted (g_w2 (m_begins V) 1 (6 + (w.toNatClampNeg)) v) ((m_begins V) 1 (6 + (w.toNatClampNeg))) sn)) else ((-2000000001), (m_begins V))) else ((-2000000001), (m_begins V))) else (if m_in w 0 3 then (if m_in v 10 20 then (((m_begins V) 1 (6 + (w.toNatClampNeg))), (m_acted (g_w2 (m_begins V) 1 (6 + (w.toNatClampNeg)) v) ((m_begins V) 1 (6 + (w.toNatClampNeg))) sn)) else ((-2000000001), (m_begins V))) else ((-2000000001), (m_begins V)))))))
abbrev rm_X5_set : Room := { frames := 2, cells := 0, slots := 0, locals := 43 }
set_option maxHeartbeats 800000 in
set_option maxRecDepth 100000 in
theorem c_X5_set (l : Launch) (D : va_G) (tb : g_T) (ad : g_Ad) (hj : g_inj ad) (P : g_P) (M : g_M) (V : g_V) (w : Int32) (v : Int32) (sn : Nat) (hs : m_S V sn) : g_Ci l yX5_set cX5_set 6 (some .int) rm_X5_set D tb ad [.ref (ad 7 0), .int w, .int v] P (va_up M 7 V) ((m_set V w v sn).1) P (va_up M 7 ((m_set V w v sn).2)) := by
  refine g_go (by decide) (Nat.le_of_ble_eq_true rfl) hj ?_
  intro p e s m below meth c ls H locs R args Q hR0 hQ hx hb hml hr0 hlk hown hts hC hI hl
  subst hR0
  have hown : s.vm.findClass RX5 = some m.cls := hown
  have hl : lv_has ls 6 [(0, .ref (ad 7 0)), (1, .int w), (2, .int v)] := hl
  refine lv_aload_n hx hb dX5_set_0 rfl (lv_at hl 0 rfl) ?_
  refine g_callVv (rest := []) (c_X5_begins l D tb ad hj P M V) rfl rfl gm_X5_begins hx hb hml hown hts hC hI (by decide) (e_x g_us) rfl rfl qm_X5_107 rfl hl.1 rfl ⟨rfl, rfl, by decide, by decide⟩ (Nat.le_of_ble_eq_true rfl) ⟨Nat.zero_le _, Nat.zero_le _⟩ dX5_set_1 (fun H locs hI => ?_)
  refine lv_iload_n hx hb dX5_set_4 rfl (lv_at hl 1 rfl) ?_
  refine lv_iconst (v := 2) hx hb dX5_set_5 (by decide) ?_
  refine lv_icmp_ne (tgt := 13) hx hb dX5_set_6 (by decide) (fun c1 => ?_) (fun c1 => ?_)
  · refine lv_iload_n hx hb dX5_set_13 rfl (lv_at hl 1 rfl) ?_
    refine lv_iconst (v := 3) hx hb dX5_set_14 (by decide) ?_
    refine lv_icmp_ne (tgt := 22) hx hb dX5_set_15 (by decide) (fun c2 => ?_) (fun c2 => ?_)
    · refine lv_bipush (v := 10) hx hb dX5_set_22 (by decide) ?_
      refine lv_istore_n (lv' := [(3, .int 10), (0, .ref (ad 7 0)), (1, .int w), (2, .int v)]) hx hb dX5_set_24 rfl hl (by decide) rfl (fun ls hl => ?_)
      refine lv_iload_n hx hb dX5_set_25 rfl (lv_at hl 2 rfl) ?_
      refine lv_if_ne (tgt := 34) hx hb dX5_set_26 (by decide) (fun c3 => ?_) (fun c3 => ?_)
      · refine lv_iload_n hx hb dX5_set_34 rfl (lv_at hl 2 rfl) ?_
        refine lv_iconst (v := 1) hx hb dX5_set_35 (by decide) ?_
        refine lv_icmp_ne (tgt := 45) hx hb dX5_set_36 (by decide) (fun c4 => ?_) (fun c4 => ?_)
        · refine lv_iload_n hx hb dX5_set_45 rfl (lv_at hl 2 rfl) ?_
          refine lv_iconst (v := 2) hx hb dX5_set_46 (by decide) ?_
          refine lv_icmp_ne (tgt := 55) hx hb dX5_set_47 (by decide) (fun c5 => ?_) (fun c5 => ?_)
          · refine lv_bipush (v := 20) hx hb dX5_set_55 (by decide) ?_
            refine lv_istore (lv' := [(4, .int 20), (3, .int 10), (0, .ref (ad 7 0)), (1, .int w), (2, .int v)]) hx hb dX5_set_57 hl (by decide) rfl (fun ls hl => ?_)
            refine lv_iload_n hx hb dX5_set_59 rfl (lv_at hl 3 rfl) ?_
            refine lv_iconst (v := 0) hx hb dX5_set_60 (by decide) ?_
            refine lv_iconst (v := 3) hx hb dX5_set_61 (by decide) ?_
            refine g_callSi (rest := []) (c_X5_in l D tb ad hj P (va_up M 7 (m_begins V)) w 0 3) rfl rfl gm_X5_in hx hb hml hown hts hC hI qm_X5_67 rfl hl.1 rfl ⟨rfl, rfl, by decide, by decide⟩ (Nat.le_of_ble_eq_true rfl) ⟨Nat.zero_le _, Nat.zero_le _⟩ dX5_set_62 (fun H locs hI => ?_)
            refine g_tf (fun c6 => ?_) (fun c6 => ?_)
            · obtain ⟨w0, hw0, rfl⟩ := m_nI (N := 3) c6 rfl
              have hclw0 : (nI w0).toNatClampNeg = w0 := nI_clamp (by omega)
              refine lv_if_eq (tgt := 78) hx hb dX5_set_65 (by decide) (fun c7 => absurd c7 (by decide)) (fun _ => ?_)
              refine lv_iload_n hx hb dX5_set_68 rfl (lv_at hl 4 rfl) ?_
              refine lv_iload_n hx hb dX5_set_69 rfl (lv_at hl 1 rfl) ?_
              refine lv_iload hx hb dX5_set_70 (lv_at hl 0 rfl) ?_
              refine g_callSi (rest := []) (c_X5_in l D tb ad hj P (va_up M 7 (m_begins V)) v 10 20) rfl rfl gm_X5_in hx hb hml hown hts hC hI qm_X5_67 rfl hl.1 rfl ⟨rfl, rfl, by decide, by decide⟩ (Nat.le_of_ble_eq_true rfl) ⟨Nat.zero_le _, Nat.zero_le _⟩ dX5_set_72 (fun H locs hI => ?_)
              refine g_tf (fun c8 => ?_) (fun c8 => ?_)
              · refine lv_if_ne (tgt := 81) hx hb dX5_set_75 (by decide) (fun _ => ?_) (fun c9 => absurd c9 (by decide))
                refine lv_aload_n hx hb dX5_set_81 rfl (lv_at hl 2 rfl) ?_
                refine g_get 0 hx hb hts hown hC hI i_X5 (by decide) (e_x g_us) rfl (by decide) qf_X5_7 rfl rfl dX5_set_82 ?_
                refine lv_bipush (v := 6) hx hb dX5_set_85 (by decide) ?_
                refine lv_iload_n hx hb dX5_set_87 rfl (lv_at hl 3 rfl) ?_
                refine lv_iadd hx hb dX5_set_88 ?_
                refine g_te (nI_add 6 w0) ?_
                refine g_iald (6 + w0) hx hb hC hI (by decide) (e_xs g_us) (vp_in_nI (by omega) (by decide)) (nI_clamp (by omega)) dX5_set_89 ?_
                refine lv_istore (lv' := [(5, .int ((m_begins V) 1 (6 + w0))), (4, .int 20), (3, .int 10), (0, .ref (ad 7 0)), (1, .int (nI w0)), (2, .int v)]) hx hb dX5_set_90 hl (by decide) rfl (fun ls hl => ?_)
                refine lv_aload_n hx hb dX5_set_92 rfl (lv_at hl 3 rfl) ?_
                refine g_get 0 hx hb hts hown hC hI i_X5 (by decide) (e_x g_us) rfl (by decide) qf_X5_7 rfl rfl dX5_set_93 ?_
                refine lv_bipush (v := 6) hx hb dX5_set_96 (by decide) ?_
                refine lv_iload_n hx hb dX5_set_98 rfl (lv_at hl 4 rfl) ?_
                refine lv_iadd hx hb dX5_set_99 ?_
                refine g_te (nI_add 6 w0) ?_
                refine lv_iload_n hx hb dX5_set_100 rfl (lv_at hl 5 rfl) ?_
                refine g_iast (6 + w0) hx hb hC hI (by decide) (e_xs g_us) (vp_in_nI (by omega) (by decide)) (nI_clamp (by omega)) p_xs g_hs dX5_set_101 (fun H locs hI => ?_)
                refine lv_aload_n hx hb dX5_set_102 rfl (lv_at hl 3 rfl) ?_
                refine lv_iload hx hb dX5_set_103 (lv_at hl 0 rfl) ?_
                refine g_callVi (rest := []) (c_X5_acted l D tb ad hj P M (g_w2 (m_begins V) 1 (6 + w0) v) ((m_begins V) 1 (6 + w0)) sn ⟨by rw [w2_c (by decide), m_begins_c (by decide)]; exact hs.1, hs.2⟩) rfl rfl gm_X5_acted hx hb hml hown hts hC hI (by decide) (e_x g_us) rfl rfl qm_X5_113 rfl hl.1 rfl ⟨rfl, rfl, by decide, by decide⟩ (Nat.le_of_ble_eq_true rfl) ⟨Nat.zero_le _, Nat.zero_le _⟩ dX5_set_105 (fun H locs hI => ?_)
                exact g_ir hQ hx hb hr0 hlk hC hI dX5_set_108 rfl (by unfold m_set; (try simp only [hclw0]); (first | rw [if_pos c1] | rw [if_neg c1] | skip); (first | rw [if_pos c2] | rw [if_neg c2] | skip); (first | rw [if_pos c3] | rw [if_neg c3] | skip); (first | rw [if_pos c4] | rw [if_neg c4] | skip); (first | rw [if_pos c5] | rw [if_neg c5] | skip); (first | rw [if_pos c6] | rw [if_neg c6] | skip); (first | rw [if_pos c8] | rw [if_neg c8] | skip); try with_reducible rfl) rfl (by unfold m_set; (try simp only [hclw0]); (first | rw [if_pos c1] | rw [if_neg c1] | skip); (first | rw [if_pos c2] | rw [if_neg c2] | skip); (first | rw [if_pos c3] | rw [if_neg c3] | skip); (first | rw [if_pos c4] | rw [if_neg c4] | skip); (first | rw [if_pos c5] | rw [if_neg c5] | skip); (first | rw [if_pos c6] | rw [if_neg c6] | skip); (first | rw [if_pos c8] | rw [if_neg c8] | skip); try with_reducible rfl)
              · refine lv_if_ne (tgt := 81) hx hb dX5_set_75 (by decide) (fun c10 => absurd c10 (by decide)) (fun _ => ?_)
                refine lv_ldc (v := (-2000000001)) hx hb hown (hts _ qc_X5_25) dX5_set_78 ?_
                exact g_ir hQ hx hb hr0 hlk hC hI dX5_set_80 rfl (by unfold m_set; (try simp only [hclw0]); (first | rw [if_pos c1] | rw [if_neg c1] | skip); (first | rw [if_pos c2] | rw [if_neg c2] | skip); (first | rw [if_pos c3] | rw [if_neg c3] | skip); (first | rw [if_pos c4] | rw [if_neg c4] | skip); (first | rw [if_pos c5] | rw [if_neg c5] | skip); (first | rw [if_pos c6] | rw [if_neg c6] | skip); (first | rw [if_pos c8] | rw [if_neg c8] | skip); try with_reducible rfl) rfl (by unfold m_set; (try simp only [hclw0]); (first | rw [if_pos c1] | rw [if_neg c1] | skip); (first | rw [if_pos c2] | rw [if_neg c2] | skip); (first | rw [if_pos c3] | rw [if_neg c3] | skip); (first | rw [if_pos c4] | rw [if_neg c4] | skip); (first | rw [if_pos c5] | rw [if_neg c5] | skip); (first | rw [if_pos c6] | rw [if_neg c6] | skip); (first | rw [if_pos c8] | rw [if_neg c8] | skip); try with_reducible rfl)
            · refine lv_if_eq (tgt := 78) hx hb dX5_set_65 (by decide) (fun _ => ?_) (fun c11 => absurd c11 (by decide))
              refine lv_ldc (v := (-2000000001)) hx hb hown (hts _ qc_X5_25) dX5_set_78 ?_
              exact g_ir hQ hx hb hr0 hlk hC hI dX5_set_80 rfl (by unfold m_set; (try simp only [hclw0]); (first | rw [if_pos c1] | rw [if_neg c1] | skip); (first | rw [if_pos c2] | rw [if_neg c2] | skip); (first | rw [if_pos c3] | rw [if_neg c3] | skip); (first | rw [if_pos c4] | rw [if_neg c4] | skip); (first | rw [if_pos c5] | rw [if_neg c5] | skip); (first | rw [if_pos c6] | rw [if_neg c6] | skip); try with_reducible rfl) rfl (by unfold m_set; (try simp only [hclw0]); (first | rw [if_pos c1] | rw [if_neg c1] | skip); (first | rw [if_pos c2] | rw [if_neg c2] | skip); (first | rw [if_pos c3] | rw [if_neg c3] | skip); (first | rw [if_pos c4] | rw [if_neg c4] | skip); (first | rw [if_pos c5] | rw [if_neg c5] | skip); (first | rw [if_pos c6] | rw [if_neg c6] | skip); try with_reducible rfl)
          · refine lv_bipush (v := 30) hx hb dX5_set_50 (by decide) ?_
            refine lv_goto (tgt := 57) hx hb dX5_set_52 (by decide) ?_
            refine lv_istore (lv' := [(4, .int 30), (3, .int 10), (0, .ref (ad 7 0)), (1, .int w), (2, .int v)]) hx hb dX5_set_57 hl (by decide) rfl (fun ls hl => ?_)
            refine lv_iload_n hx hb dX5_set_59 rfl (lv_at hl 3 rfl) ?_
            refine lv_iconst (v := 0) hx hb dX5_set_60 (by decide) ?_
            refine lv_iconst (v := 3) hx hb dX5_set_61 (by decide) ?_
            refine g_callSi (rest := []) (c_X5_in l D tb ad hj P (va_up M 7 (m_begins V)) w 0 3) rfl rfl gm_X5_in hx hb hml hown hts hC hI qm_X5_67 rfl hl.1 rfl ⟨rfl, rfl, by decide, by decide⟩ (Nat.le_of_ble_eq_true rfl) ⟨Nat.zero_le _, Nat.zero_le _⟩ dX5_set_62 (fun H locs hI => ?_)
            refine g_tf (fun c12 => ?_) (fun c12 => ?_)
            · obtain ⟨w0, hw0, rfl⟩ := m_nI (N := 3) c12 rfl
              have hclw0 : (nI w0).toNatClampNeg = w0 := nI_clamp (by omega)
              refine lv_if_eq (tgt := 78) hx hb dX5_set_65 (by decide) (fun c13 => absurd c13 (by decide)) (fun _ => ?_)
              refine lv_iload_n hx hb dX5_set_68 rfl (lv_at hl 4 rfl) ?_
              refine lv_iload_n hx hb dX5_set_69 rfl (lv_at hl 1 rfl) ?_
              refine lv_iload hx hb dX5_set_70 (lv_at hl 0 rfl) ?_
              refine g_callSi (rest := []) (c_X5_in l D tb ad hj P (va_up M 7 (m_begins V)) v 10 30) rfl rfl gm_X5_in hx hb hml hown hts hC hI qm_X5_67 rfl hl.1 rfl ⟨rfl, rfl, by decide, by decide⟩ (Nat.le_of_ble_eq_true rfl) ⟨Nat.zero_le _, Nat.zero_le _⟩ dX5_set_72 (fun H locs hI => ?_)
              refine g_tf (fun c14 => ?_) (fun c14 => ?_)
              · refine lv_if_ne (tgt := 81) hx hb dX5_set_75 (by decide) (fun _ => ?_) (fun c15 => absurd c15 (by decide))
                refine lv_aload_n hx hb dX5_set_81 rfl (lv_at hl 2 rfl) ?_
                refine g_get 0 hx hb hts hown hC hI i_X5 (by decide) (e_x g_us) rfl (by decide) qf_X5_7 rfl rfl dX5_set_82 ?_
                refine lv_bipush (v := 6) hx hb dX5_set_85 (by decide) ?_
                refine lv_iload_n hx hb dX5_set_87 rfl (lv_at hl 3 rfl) ?_
                refine lv_iadd hx hb dX5_set_88 ?_
                refine g_te (nI_add 6 w0) ?_
                refine g_iald (6 + w0) hx hb hC hI (by decide) (e_xs g_us) (vp_in_nI (by omega) (by decide)) (nI_clamp (by omega)) dX5_set_89 ?_
                refine lv_istore (lv' := [(5, .int ((m_begins V) 1 (6 + w0))), (4, .int 30), (3, .int 10), (0, .ref (ad 7 0)), (1, .int (nI w0)), (2, .int v)]) hx hb dX5_set_90 hl (by decide) rfl (fun ls hl => ?_)
                refine lv_aload_n hx hb dX5_set_92 rfl (lv_at hl 3 rfl) ?_
                refine g_get 0 hx hb hts hown hC hI i_X5 (by decide) (e_x g_us) rfl (by decide) qf_X5_7 rfl rfl dX5_set_93 ?_
                refine lv_bipush (v := 6) hx hb dX5_set_96 (by decide) ?_
                refine lv_iload_n hx hb dX5_set_98 rfl (lv_at hl 4 rfl) ?_
                refine lv_iadd hx hb dX5_set_99 ?_
                refine g_te (nI_add 6 w0) ?_
                refine lv_iload_n hx hb dX5_set_100 rfl (lv_at hl 5 rfl) ?_
                refine g_iast (6 + w0) hx hb hC hI (by decide) (e_xs g_us) (vp_in_nI (by omega) (by decide)) (nI_clamp (by omega)) p_xs g_hs dX5_set_101 (fun H locs hI => ?_)
                refine lv_aload_n hx hb dX5_set_102 rfl (lv_at hl 3 rfl) ?_
                refine lv_iload hx hb dX5_set_103 (lv_at hl 0 rfl) ?_
                refine g_callVi (rest := []) (c_X5_acted l D tb ad hj P M (g_w2 (m_begins V) 1 (6 + w0) v) ((m_begins V) 1 (6 + w0)) sn ⟨by rw [w2_c (by decide), m_begins_c (by decide)]; exact hs.1, hs.2⟩) rfl rfl gm_X5_acted hx hb hml hown hts hC hI (by decide) (e_x g_us) rfl rfl qm_X5_113 rfl hl.1 rfl ⟨rfl, rfl, by decide, by decide⟩ (Nat.le_of_ble_eq_true rfl) ⟨Nat.zero_le _, Nat.zero_le _⟩ dX5_set_105 (fun H locs hI => ?_)
                exact g_ir hQ hx hb hr0 hlk hC hI dX5_set_108 rfl (by unfold m_set; (try simp only [hclw0]); (try simp only [hclw0]); (first | rw [if_pos c1] | rw [if_neg c1] | skip); (first | rw [if_pos c2] | rw [if_neg c2] | skip); (first | rw [if_pos c3] | rw [if_neg c3] | skip); (first | rw [if_pos c4] | rw [if_neg c4] | skip); (first | rw [if_pos c5] | rw [if_neg c5] | skip); (first | rw [if_pos c12] | rw [if_neg c12] | skip); (first | rw [if_pos c14] | rw [if_neg c14] | skip); try with_reducible rfl) rfl (by unfold m_set; (try simp only [hclw0]); (try simp only [hclw0]); (first | rw [if_pos c1] | rw [if_neg c1] | skip); (first | rw [if_pos c2] | rw [if_neg c2] | skip); (first | rw [if_pos c3] | rw [if_neg c3] | skip); (first | rw [if_pos c4] | rw [if_neg c4] | skip); (first | rw [if_pos c5] | rw [if_neg c5] | skip); (first | rw [if_pos c12] | rw [if_neg c12] | skip); (first | rw [if_pos c14] | rw [if_neg c14] | skip); try with_reducible rfl)
              · refine lv_if_ne (tgt := 81) hx hb dX5_set_75 (by decide) (fun c16 => absurd c16 (by decide)) (fun _ => ?_)
                refine lv_ldc (v := (-2000000001)) hx hb hown (hts _ qc_X5_25) dX5_set_78 ?_
                exact g_ir hQ hx hb hr0 hlk hC hI dX5_set_80 rfl (by unfold m_set; (try simp only [hclw0]); (try simp only [hclw0]); (first | rw [if_pos c1] | rw [if_neg c1] | skip); (first | rw [if_pos c2] | rw [if_neg c2] | skip); (first | rw [if_pos c3] | rw [if_neg c3] | skip); (first | rw [if_pos c4] | rw [if_neg c4] | skip); (first | rw [if_pos c5] | rw [if_neg c5] | skip); (first | rw [if_pos c12] | rw [if_neg c12] | skip); (first | rw [if_pos c14] | rw [if_neg c14] | skip); try with_reducible rfl) rfl (by unfold m_set; (try simp only [hclw0]); (try simp only [hclw0]); (first | rw [if_pos c1] | rw [if_neg c1] | skip); (first | rw [if_pos c2] | rw [if_neg c2] | skip); (first | rw [if_pos c3] | rw [if_neg c3] | skip); (first | rw [if_pos c4] | rw [if_neg c4] | skip); (first | rw [if_pos c5] | rw [if_neg c5] | skip); (first | rw [if_pos c12] | rw [if_neg c12] | skip); (first | rw [if_pos c14] | rw [if_neg c14] | skip); try with_reducible rfl)
            · refine lv_if_eq (tgt := 78) hx hb dX5_set_65 (by decide) (fun _ => ?_) (fun c17 => absurd c17 (by decide))
              refine lv_ldc (v := (-2000000001)) hx hb hown (hts _ qc_X5_25) dX5_set_78 ?_
              exact g_ir hQ hx hb hr0 hlk hC hI dX5_set_80 rfl (by unfold m_set; (try simp only [hclw0]); (try simp only [hclw0]); (first | rw [if_pos c1] | rw [if_neg c1] | skip); (first | rw [if_pos c2] | rw [if_neg c2] | skip); (first | rw [if_pos c3] | rw [if_neg c3] | skip); (first | rw [if_pos c4] | rw [if_neg c4] | skip); (first | rw [if_pos c5] | rw [if_neg c5] | skip); (first | rw [if_pos c12] | rw [if_neg c12] | skip); try with_reducible rfl) rfl (by unfold m_set; (try simp only [hclw0]); (try simp only [hclw0]); (first | rw [if_pos c1] | rw [if_neg c1] | skip); (first | rw [if_pos c2] | rw [if_neg c2] | skip); (first | rw [if_pos c3] | rw [if_neg c3] | skip); (first | rw [if_pos c4] | rw [if_neg c4] | skip); (first | rw [if_pos c5] | rw [if_neg c5] | skip); (first | rw [if_pos c12] | rw [if_neg c12] | skip); try with_reducible rfl)
        · refine lv_sipush (v := 150) hx hb dX5_set_39 (by decide) ?_
          refine lv_goto (tgt := 57) hx hb dX5_set_42 (by decide) ?_
          refine lv_istore (lv' := [(4, .int 150), (3, .int 10), (0, .ref (ad 7 0)), (1, .int w), (2, .int v)]) hx hb dX5_set_57 hl (by decide) rfl (fun ls hl => ?_)
          refine lv_iload_n hx hb dX5_set_59 rfl (lv_at hl 3 rfl) ?_
          refine lv_iconst (v := 0) hx hb dX5_set_60 (by decide) ?_
          refine lv_iconst (v := 3) hx hb dX5_set_61 (by decide) ?_
          refine g_callSi (rest := []) (c_X5_in l D tb ad hj P (va_up M 7 (m_begins V)) w 0 3) rfl rfl gm_X5_in hx hb hml hown hts hC hI qm_X5_67 rfl hl.1 rfl ⟨rfl, rfl, by decide, by decide⟩ (Nat.le_of_ble_eq_true rfl) ⟨Nat.zero_le _, Nat.zero_le _⟩ dX5_set_62 (fun H locs hI => ?_)
          refine g_tf (fun c18 => ?_) (fun c18 => ?_)
          · obtain ⟨w0, hw0, rfl⟩ := m_nI (N := 3) c18 rfl
            have hclw0 : (nI w0).toNatClampNeg = w0 := nI_clamp (by omega)
            refine lv_if_eq (tgt := 78) hx hb dX5_set_65 (by decide) (fun c19 => absurd c19 (by decide)) (fun _ => ?_)
            refine lv_iload_n hx hb dX5_set_68 rfl (lv_at hl 4 rfl) ?_
            refine lv_iload_n hx hb dX5_set_69 rfl (lv_at hl 1 rfl) ?_
            refine lv_iload hx hb dX5_set_70 (lv_at hl 0 rfl) ?_
            refine g_callSi (rest := []) (c_X5_in l D tb ad hj P (va_up M 7 (m_begins V)) v 10 150) rfl rfl gm_X5_in hx hb hml hown hts hC hI qm_X5_67 rfl hl.1 rfl ⟨rfl, rfl, by decide, by decide⟩ (Nat.le_of_ble_eq_true rfl) ⟨Nat.zero_le _, Nat.zero_le _⟩ dX5_set_72 (fun H locs hI => ?_)
            refine g_tf (fun c20 => ?_) (fun c20 => ?_)
            · refine lv_if_ne (tgt := 81) hx hb dX5_set_75 (by decide) (fun _ => ?_) (fun c21 => absurd c21 (by decide))
              refine lv_aload_n hx hb dX5_set_81 rfl (lv_at hl 2 rfl) ?_
              refine g_get 0 hx hb hts hown hC hI i_X5 (by decide) (e_x g_us) rfl (by decide) qf_X5_7 rfl rfl dX5_set_82 ?_
              refine lv_bipush (v := 6) hx hb dX5_set_85 (by decide) ?_
              refine lv_iload_n hx hb dX5_set_87 rfl (lv_at hl 3 rfl) ?_
              refine lv_iadd hx hb dX5_set_88 ?_
              refine g_te (nI_add 6 w0) ?_
              refine g_iald (6 + w0) hx hb hC hI (by decide) (e_xs g_us) (vp_in_nI (by omega) (by decide)) (nI_clamp (by omega)) dX5_set_89 ?_
              refine lv_istore (lv' := [(5, .int ((m_begins V) 1 (6 + w0))), (4, .int 150), (3, .int 10), (0, .ref (ad 7 0)), (1, .int (nI w0)), (2, .int v)]) hx hb dX5_set_90 hl (by decide) rfl (fun ls hl => ?_)
              refine lv_aload_n hx hb dX5_set_92 rfl (lv_at hl 3 rfl) ?_
              refine g_get 0 hx hb hts hown hC hI i_X5 (by decide) (e_x g_us) rfl (by decide) qf_X5_7 rfl rfl dX5_set_93 ?_
              refine lv_bipush (v := 6) hx hb dX5_set_96 (by decide) ?_
              refine lv_iload_n hx hb dX5_set_98 rfl (lv_at hl 4 rfl) ?_
              refine lv_iadd hx hb dX5_set_99 ?_
              refine g_te (nI_add 6 w0) ?_
              refine lv_iload_n hx hb dX5_set_100 rfl (lv_at hl 5 rfl) ?_
              refine g_iast (6 + w0) hx hb hC hI (by decide) (e_xs g_us) (vp_in_nI (by omega) (by decide)) (nI_clamp (by omega)) p_xs g_hs dX5_set_101 (fun H locs hI => ?_)
              refine lv_aload_n hx hb dX5_set_102 rfl (lv_at hl 3 rfl) ?_
              refine lv_iload hx hb dX5_set_103 (lv_at hl 0 rfl) ?_
              refine g_callVi (rest := []) (c_X5_acted l D tb ad hj P M (g_w2 (m_begins V) 1 (6 + w0) v) ((m_begins V) 1 (6 + w0)) sn ⟨by rw [w2_c (by decide), m_begins_c (by decide)]; exact hs.1, hs.2⟩) rfl rfl gm_X5_acted hx hb hml hown hts hC hI (by decide) (e_x g_us) rfl rfl qm_X5_113 rfl hl.1 rfl ⟨rfl, rfl, by decide, by decide⟩ (Nat.le_of_ble_eq_true rfl) ⟨Nat.zero_le _, Nat.zero_le _⟩ dX5_set_105 (fun H locs hI => ?_)
              exact g_ir hQ hx hb hr0 hlk hC hI dX5_set_108 rfl (by unfold m_set; (try simp only [hclw0]); (try simp only [hclw0]); (try simp only [hclw0]); (first | rw [if_pos c1] | rw [if_neg c1] | skip); (first | rw [if_pos c2] | rw [if_neg c2] | skip); (first | rw [if_pos c3] | rw [if_neg c3] | skip); (first | rw [if_pos c4] | rw [if_neg c4] | skip); (first | rw [if_pos c18] | rw [if_neg c18] | skip); (first | rw [if_pos c20] | rw [if_neg c20] | skip); try with_reducible rfl) rfl (by unfold m_set; (try simp only [hclw0]); (try simp only [hclw0]); (try simp only [hclw0]); (first | rw [if_pos c1] | rw [if_neg c1] | skip); (first | rw [if_pos c2] | rw [if_neg c2] | skip); (first | rw [if_pos c3] | rw [if_neg c3] | skip); (first | rw [if_pos c4] | rw [if_neg c4] | skip); (first | rw [if_pos c18] | rw [if_neg c18] | skip); (first | rw [if_pos c20] | rw [if_neg c20] | skip); try with_reducible rfl)
            · refine lv_if_ne (tgt := 81) hx hb dX5_set_75 (by decide) (fun c22 => absurd c22 (by decide)) (fun _ => ?_)
              refine lv_ldc (v := (-2000000001)) hx hb hown (hts _ qc_X5_25) dX5_set_78 ?_
              exact g_ir hQ hx hb hr0 hlk hC hI dX5_set_80 rfl (by unfold m_set; (try simp only [hclw0]); (try simp only [hclw0]); (try simp only [hclw0]); (first | rw [if_pos c1] | rw [if_neg c1] | skip); (first | rw [if_pos c2] | rw [if_neg c2] | skip); (first | rw [if_pos c3] | rw [if_neg c3] | skip); (first | rw [if_pos c4] | rw [if_neg c4] | skip); (first | rw [if_pos c18] | rw [if_neg c18] | skip); (first | rw [if_pos c20] | rw [if_neg c20] | skip); try with_reducible rfl) rfl (by unfold m_set; (try simp only [hclw0]); (try simp only [hclw0]); (try simp only [hclw0]); (first | rw [if_pos c1] | rw [if_neg c1] | skip); (first | rw [if_pos c2] | rw [if_neg c2] | skip); (first | rw [if_pos c3] | rw [if_neg c3] | skip); (first | rw [if_pos c4] | rw [if_neg c4] | skip); (first | rw [if_pos c18] | rw [if_neg c18] | skip); (first | rw [if_pos c20] | rw [if_neg c20] | skip); try with_reducible rfl)
          · refine lv_if_eq (tgt := 78) hx hb dX5_set_65 (by decide) (fun _ => ?_) (fun c23 => absurd c23 (by decide))
            refine lv_ldc (v := (-2000000001)) hx hb hown (hts _ qc_X5_25) dX5_set_78 ?_
            exact g_ir hQ hx hb hr0 hlk hC hI dX5_set_80 rfl (by unfold m_set; (try simp only [hclw0]); (try simp only [hclw0]); (try simp only [hclw0]); (first | rw [if_pos c1] | rw [if_neg c1] | skip); (first | rw [if_pos c2] | rw [if_neg c2] | skip); (first | rw [if_pos c3] | rw [if_neg c3] | skip); (first | rw [if_pos c4] | rw [if_neg c4] | skip); (first | rw [if_pos c18] | rw [if_neg c18] | skip); try with_reducible rfl) rfl (by unfold m_set; (try simp only [hclw0]); (try simp only [hclw0]); (try simp only [hclw0]); (first | rw [if_pos c1] | rw [if_neg c1] | skip); (first | rw [if_pos c2] | rw [if_neg c2] | skip); (first | rw [if_pos c3] | rw [if_neg c3] | skip); (first | rw [if_pos c4] | rw [if_neg c4] | skip); (first | rw [if_pos c18] | rw [if_neg c18] | skip); try with_reducible rfl)
      · refine lv_bipush (v := 100) hx hb dX5_set_29 (by decide) ?_
        refine lv_goto (tgt := 57) hx hb dX5_set_31 (by decide) ?_
        refine lv_istore (lv' := [(4, .int 100), (3, .int 10), (0, .ref (ad 7 0)), (1, .int w), (2, .int v)]) hx hb dX5_set_57 hl (by decide) rfl (fun ls hl => ?_)
        refine lv_iload_n hx hb dX5_set_59 rfl (lv_at hl 3 rfl) ?_
        refine lv_iconst (v := 0) hx hb dX5_set_60 (by decide) ?_
        refine lv_iconst (v := 3) hx hb dX5_set_61 (by decide) ?_
        refine g_callSi (rest := []) (c_X5_in l D tb ad hj P (va_up M 7 (m_begins V)) w 0 3) rfl rfl gm_X5_in hx hb hml hown hts hC hI qm_X5_67 rfl hl.1 rfl ⟨rfl, rfl, by decide, by decide⟩ (Nat.le_of_ble_eq_true rfl) ⟨Nat.zero_le _, Nat.zero_le _⟩ dX5_set_62 (fun H locs hI => ?_)
        refine g_tf (fun c24 => ?_) (fun c24 => ?_)
        · obtain ⟨w0, hw0, rfl⟩ := m_nI (N := 3) c24 rfl
          have hclw0 : (nI w0).toNatClampNeg = w0 := nI_clamp (by omega)
          refine lv_if_eq (tgt := 78) hx hb dX5_set_65 (by decide) (fun c25 => absurd c25 (by decide)) (fun _ => ?_)
          refine lv_iload_n hx hb dX5_set_68 rfl (lv_at hl 4 rfl) ?_
          refine lv_iload_n hx hb dX5_set_69 rfl (lv_at hl 1 rfl) ?_
          refine lv_iload hx hb dX5_set_70 (lv_at hl 0 rfl) ?_
          refine g_callSi (rest := []) (c_X5_in l D tb ad hj P (va_up M 7 (m_begins V)) v 10 100) rfl rfl gm_X5_in hx hb hml hown hts hC hI qm_X5_67 rfl hl.1 rfl ⟨rfl, rfl, by decide, by decide⟩ (Nat.le_of_ble_eq_true rfl) ⟨Nat.zero_le _, Nat.zero_le _⟩ dX5_set_72 (fun H locs hI => ?_)
          refine g_tf (fun c26 => ?_) (fun c26 => ?_)
          · refine lv_if_ne (tgt := 81) hx hb dX5_set_75 (by decide) (fun _ => ?_) (fun c27 => absurd c27 (by decide))
            refine lv_aload_n hx hb dX5_set_81 rfl (lv_at hl 2 rfl) ?_
            refine g_get 0 hx hb hts hown hC hI i_X5 (by decide) (e_x g_us) rfl (by decide) qf_X5_7 rfl rfl dX5_set_82 ?_
            refine lv_bipush (v := 6) hx hb dX5_set_85 (by decide) ?_
            refine lv_iload_n hx hb dX5_set_87 rfl (lv_at hl 3 rfl) ?_
            refine lv_iadd hx hb dX5_set_88 ?_
            refine g_te (nI_add 6 w0) ?_
            refine g_iald (6 + w0) hx hb hC hI (by decide) (e_xs g_us) (vp_in_nI (by omega) (by decide)) (nI_clamp (by omega)) dX5_set_89 ?_
            refine lv_istore (lv' := [(5, .int ((m_begins V) 1 (6 + w0))), (4, .int 100), (3, .int 10), (0, .ref (ad 7 0)), (1, .int (nI w0)), (2, .int v)]) hx hb dX5_set_90 hl (by decide) rfl (fun ls hl => ?_)
            refine lv_aload_n hx hb dX5_set_92 rfl (lv_at hl 3 rfl) ?_
            refine g_get 0 hx hb hts hown hC hI i_X5 (by decide) (e_x g_us) rfl (by decide) qf_X5_7 rfl rfl dX5_set_93 ?_
            refine lv_bipush (v := 6) hx hb dX5_set_96 (by decide) ?_
            refine lv_iload_n hx hb dX5_set_98 rfl (lv_at hl 4 rfl) ?_
            refine lv_iadd hx hb dX5_set_99 ?_
            refine g_te (nI_add 6 w0) ?_
            refine lv_iload_n hx hb dX5_set_100 rfl (lv_at hl 5 rfl) ?_
            refine g_iast (6 + w0) hx hb hC hI (by decide) (e_xs g_us) (vp_in_nI (by omega) (by decide)) (nI_clamp (by omega)) p_xs g_hs dX5_set_101 (fun H locs hI => ?_)
            refine lv_aload_n hx hb dX5_set_102 rfl (lv_at hl 3 rfl) ?_
            refine lv_iload hx hb dX5_set_103 (lv_at hl 0 rfl) ?_
            refine g_callVi (rest := []) (c_X5_acted l D tb ad hj P M (g_w2 (m_begins V) 1 (6 + w0) v) ((m_begins V) 1 (6 + w0)) sn ⟨by rw [w2_c (by decide), m_begins_c (by decide)]; exact hs.1, hs.2⟩) rfl rfl gm_X5_acted hx hb hml hown hts hC hI (by decide) (e_x g_us) rfl rfl qm_X5_113 rfl hl.1 rfl ⟨rfl, rfl, by decide, by decide⟩ (Nat.le_of_ble_eq_true rfl) ⟨Nat.zero_le _, Nat.zero_le _⟩ dX5_set_105 (fun H locs hI => ?_)
            exact g_ir hQ hx hb hr0 hlk hC hI dX5_set_108 rfl (by unfold m_set; (try simp only [hclw0]); (try simp only [hclw0]); (try simp only [hclw0]); (try simp only [hclw0]); (first | rw [if_pos c1] | rw [if_neg c1] | skip); (first | rw [if_pos c2] | rw [if_neg c2] | skip); (first | rw [if_pos c3] | rw [if_neg c3] | skip); (first | rw [if_pos c24] | rw [if_neg c24] | skip); (first | rw [if_pos c26] | rw [if_neg c26] | skip); try with_reducible rfl) rfl (by unfold m_set; (try simp only [hclw0]); (try simp only [hclw0]); (try simp only [hclw0]); (try simp only [hclw0]); (first | rw [if_pos c1] | rw [if_neg c1] | skip); (first | rw [if_pos c2] | rw [if_neg c2] | skip); (first | rw [if_pos c3] | rw [if_neg c3] | skip); (first | rw [if_pos c24] | rw [if_neg c24] | skip); (first | rw [if_pos c26] | rw [if_neg c26] | skip); try with_reducible rfl)
          · refine lv_if_ne (tgt := 81) hx hb dX5_set_75 (by decide) (fun c28 => absurd c28 (by decide)) (fun _ => ?_)
            refine lv_ldc (v := (-2000000001)) hx hb hown (hts _ qc_X5_25) dX5_set_78 ?_
            exact g_ir hQ hx hb hr0 hlk hC hI dX5_set_80 rfl (by unfold m_set; (try simp only [hclw0]); (try simp only [hclw0]); (try simp only [hclw0]); (try simp only [hclw0]); (first | rw [if_pos c1] | rw [if_neg c1] | skip); (first | rw [if_pos c2] | rw [if_neg c2] | skip); (first | rw [if_pos c3] | rw [if_neg c3] | skip); (first | rw [if_pos c24] | rw [if_neg c24] | skip); (first | rw [if_pos c26] | rw [if_neg c26] | skip); try with_reducible rfl) rfl (by unfold m_set; (try simp only [hclw0]); (try simp only [hclw0]); (try simp only [hclw0]); (try simp only [hclw0]); (first | rw [if_pos c1] | rw [if_neg c1] | skip); (first | rw [if_pos c2] | rw [if_neg c2] | skip); (first | rw [if_pos c3] | rw [if_neg c3] | skip); (first | rw [if_pos c24] | rw [if_neg c24] | skip); (first | rw [if_pos c26] | rw [if_neg c26] | skip); try with_reducible rfl)
        · refine lv_if_eq (tgt := 78) hx hb dX5_set_65 (by decide) (fun _ => ?_) (fun c29 => absurd c29 (by decide))
          refine lv_ldc (v := (-2000000001)) hx hb hown (hts _ qc_X5_25) dX5_set_78 ?_
          exact g_ir hQ hx hb hr0 hlk hC hI dX5_set_80 rfl (by unfold m_set; (try simp only [hclw0]); (try simp only [hclw0]); (try simp only [hclw0]); (try simp only [hclw0]); (first | rw [if_pos c1] | rw [if_neg c1] | skip); (first | rw [if_pos c2] | rw [if_neg c2] | skip); (first | rw [if_pos c3] | rw [if_neg c3] | skip); (first | rw [if_pos c24] | rw [if_neg c24] | skip); try with_reducible rfl) rfl (by unfold m_set; (try simp only [hclw0]); (try simp only [hclw0]); (try simp only [hclw0]); (try simp only [hclw0]); (first | rw [if_pos c1] | rw [if_neg c1] | skip); (first | rw [if_pos c2] | rw [if_neg c2] | skip); (first | rw [if_pos c3] | rw [if_neg c3] | skip); (first | rw [if_pos c24] | rw [if_neg c24] | skip); try with_reducible rfl)
    · refine lv_iconst (v := 0) hx hb dX5_set_18 (by decide) ?_
      refine lv_goto (tgt := 24) hx hb dX5_set_19 (by decide) ?_
      refine lv_istore_n (lv' := [(3, .int 0), (0, .ref (ad 7 0)), (1, .int w), (2, .int v)]) hx hb dX5_set_24 rfl hl (by decide) rfl (fun ls hl => ?_)
      refine lv_iload_n hx hb dX5_set_25 rfl (lv_at hl 2 rfl) ?_
      refine lv_if_ne (tgt := 34) hx hb dX5_set_26 (by decide) (fun c30 => ?_) (fun c30 => ?_)
      · refine lv_iload_n hx hb dX5_set_34 rfl (lv_at hl 2 rfl) ?_
        refine lv_iconst (v := 1) hx hb dX5_set_35 (by decide) ?_
        refine lv_icmp_ne (tgt := 45) hx hb dX5_set_36 (by decide) (fun c31 => ?_) (fun c31 => ?_)
        · refine lv_iload_n hx hb dX5_set_45 rfl (lv_at hl 2 rfl) ?_
          refine lv_iconst (v := 2) hx hb dX5_set_46 (by decide) ?_
          refine lv_icmp_ne (tgt := 55) hx hb dX5_set_47 (by decide) (fun c32 => ?_) (fun c32 => ?_)
          · refine lv_bipush (v := 20) hx hb dX5_set_55 (by decide) ?_
            refine lv_istore (lv' := [(4, .int 20), (3, .int 0), (0, .ref (ad 7 0)), (1, .int w), (2, .int v)]) hx hb dX5_set_57 hl (by decide) rfl (fun ls hl => ?_)
            refine lv_iload_n hx hb dX5_set_59 rfl (lv_at hl 3 rfl) ?_
            refine lv_iconst (v := 0) hx hb dX5_set_60 (by decide) ?_
            refine lv_iconst (v := 3) hx hb dX5_set_61 (by decide) ?_
            refine g_callSi (rest := []) (c_X5_in l D tb ad hj P (va_up M 7 (m_begins V)) w 0 3) rfl rfl gm_X5_in hx hb hml hown hts hC hI qm_X5_67 rfl hl.1 rfl ⟨rfl, rfl, by decide, by decide⟩ (Nat.le_of_ble_eq_true rfl) ⟨Nat.zero_le _, Nat.zero_le _⟩ dX5_set_62 (fun H locs hI => ?_)
            refine g_tf (fun c33 => ?_) (fun c33 => ?_)
            · obtain ⟨w0, hw0, rfl⟩ := m_nI (N := 3) c33 rfl
              have hclw0 : (nI w0).toNatClampNeg = w0 := nI_clamp (by omega)
              refine lv_if_eq (tgt := 78) hx hb dX5_set_65 (by decide) (fun c34 => absurd c34 (by decide)) (fun _ => ?_)
              refine lv_iload_n hx hb dX5_set_68 rfl (lv_at hl 4 rfl) ?_
              refine lv_iload_n hx hb dX5_set_69 rfl (lv_at hl 1 rfl) ?_
              refine lv_iload hx hb dX5_set_70 (lv_at hl 0 rfl) ?_
              refine g_callSi (rest := []) (c_X5_in l D tb ad hj P (va_up M 7 (m_begins V)) v 0 20) rfl rfl gm_X5_in hx hb hml hown hts hC hI qm_X5_67 rfl hl.1 rfl ⟨rfl, rfl, by decide, by decide⟩ (Nat.le_of_ble_eq_true rfl) ⟨Nat.zero_le _, Nat.zero_le _⟩ dX5_set_72 (fun H locs hI => ?_)
              refine g_tf (fun c35 => ?_) (fun c35 => ?_)
              · refine lv_if_ne (tgt := 81) hx hb dX5_set_75 (by decide) (fun _ => ?_) (fun c36 => absurd c36 (by decide))
                refine lv_aload_n hx hb dX5_set_81 rfl (lv_at hl 2 rfl) ?_
                refine g_get 0 hx hb hts hown hC hI i_X5 (by decide) (e_x g_us) rfl (by decide) qf_X5_7 rfl rfl dX5_set_82 ?_
                refine lv_bipush (v := 6) hx hb dX5_set_85 (by decide) ?_
                refine lv_iload_n hx hb dX5_set_87 rfl (lv_at hl 3 rfl) ?_
                refine lv_iadd hx hb dX5_set_88 ?_
                refine g_te (nI_add 6 w0) ?_
                refine g_iald (6 + w0) hx hb hC hI (by decide) (e_xs g_us) (vp_in_nI (by omega) (by decide)) (nI_clamp (by omega)) dX5_set_89 ?_
                refine lv_istore (lv' := [(5, .int ((m_begins V) 1 (6 + w0))), (4, .int 20), (3, .int 0), (0, .ref (ad 7 0)), (1, .int (nI w0)), (2, .int v)]) hx hb dX5_set_90 hl (by decide) rfl (fun ls hl => ?_)
                refine lv_aload_n hx hb dX5_set_92 rfl (lv_at hl 3 rfl) ?_
                refine g_get 0 hx hb hts hown hC hI i_X5 (by decide) (e_x g_us) rfl (by decide) qf_X5_7 rfl rfl dX5_set_93 ?_
                refine lv_bipush (v := 6) hx hb dX5_set_96 (by decide) ?_
                refine lv_iload_n hx hb dX5_set_98 rfl (lv_at hl 4 rfl) ?_
                refine lv_iadd hx hb dX5_set_99 ?_
                refine g_te (nI_add 6 w0) ?_
                refine lv_iload_n hx hb dX5_set_100 rfl (lv_at hl 5 rfl) ?_
                refine g_iast (6 + w0) hx hb hC hI (by decide) (e_xs g_us) (vp_in_nI (by omega) (by decide)) (nI_clamp (by omega)) p_xs g_hs dX5_set_101 (fun H locs hI => ?_)
                refine lv_aload_n hx hb dX5_set_102 rfl (lv_at hl 3 rfl) ?_
                refine lv_iload hx hb dX5_set_103 (lv_at hl 0 rfl) ?_
                refine g_callVi (rest := []) (c_X5_acted l D tb ad hj P M (g_w2 (m_begins V) 1 (6 + w0) v) ((m_begins V) 1 (6 + w0)) sn ⟨by rw [w2_c (by decide), m_begins_c (by decide)]; exact hs.1, hs.2⟩) rfl rfl gm_X5_acted hx hb hml hown hts hC hI (by decide) (e_x g_us) rfl rfl qm_X5_113 rfl hl.1 rfl ⟨rfl, rfl, by decide, by decide⟩ (Nat.le_of_ble_eq_true rfl) ⟨Nat.zero_le _, Nat.zero_le _⟩ dX5_set_105 (fun H locs hI => ?_)
                exact g_ir hQ hx hb hr0 hlk hC hI dX5_set_108 rfl (by unfold m_set; (try simp only [hclw0]); (try simp only [hclw0]); (try simp only [hclw0]); (try simp only [hclw0]); (try simp only [hclw0]); (first | rw [if_pos c1] | rw [if_neg c1] | skip); (first | rw [if_pos c2] | rw [if_neg c2] | skip); (first | rw [if_pos c30] | rw [if_neg c30] | skip); (first | rw [if_pos c31] | rw [if_neg c31] | skip); (first | rw [if_pos c32] | rw [if_neg c32] | skip); (first | rw [if_pos c33] | rw [if_neg c33] | skip); (first | rw [if_pos c35] | rw [if_neg c35] | skip); try with_reducible rfl) rfl (by unfold m_set; (try simp only [hclw0]); (try simp only [hclw0]); (try simp only [hclw0]); (try simp only [hclw0]); (try simp only [hclw0]); (first | rw [if_pos c1] | rw [if_neg c1] | skip); (first | rw [if_pos c2] | rw [if_neg c2] | skip); (first | rw [if_pos c30] | rw [if_neg c30] | skip); (first | rw [if_pos c31] | rw [if_neg c31] | skip); (first | rw [if_pos c32] | rw [if_neg c32] | skip); (first | rw [if_pos c33] | rw [if_neg c33] | skip); (first | rw [if_pos c35] | rw [if_neg c35] | skip); try with_reducible rfl)
              · refine lv_if_ne (tgt := 81) hx hb dX5_set_75 (by decide) (fun c37 => absurd c37 (by decide)) (fun _ => ?_)
                refine lv_ldc (v := (-2000000001)) hx hb hown (hts _ qc_X5_25) dX5_set_78 ?_
                exact g_ir hQ hx hb hr0 hlk hC hI dX5_set_80 rfl (by unfold m_set; (try simp only [hclw0]); (try simp only [hclw0]); (try simp only [hclw0]); (try simp only [hclw0]); (try simp only [hclw0]); (first | rw [if_pos c1] | rw [if_neg c1] | skip); (first | rw [if_pos c2] | rw [if_neg c2] | skip); (first | rw [if_pos c30] | rw [if_neg c30] | skip); (first | rw [if_pos c31] | rw [if_neg c31] | skip); (first | rw [if_pos c32] | rw [if_neg c32] | skip); (first | rw [if_pos c33] | rw [if_neg c33] | skip); (first | rw [if_pos c35] | rw [if_neg c35] | skip); try with_reducible rfl) rfl (by unfold m_set; (try simp only [hclw0]); (try simp only [hclw0]); (try simp only [hclw0]); (try simp only [hclw0]); (try simp only [hclw0]); (first | rw [if_pos c1] | rw [if_neg c1] | skip); (first | rw [if_pos c2] | rw [if_neg c2] | skip); (first | rw [if_pos c30] | rw [if_neg c30] | skip); (first | rw [if_pos c31] | rw [if_neg c31] | skip); (first | rw [if_pos c32] | rw [if_neg c32] | skip); (first | rw [if_pos c33] | rw [if_neg c33] | skip); (first | rw [if_pos c35] | rw [if_neg c35] | skip); try with_reducible rfl)
            · refine lv_if_eq (tgt := 78) hx hb dX5_set_65 (by decide) (fun _ => ?_) (fun c38 => absurd c38 (by decide))
              refine lv_ldc (v := (-2000000001)) hx hb hown (hts _ qc_X5_25) dX5_set_78 ?_
              exact g_ir hQ hx hb hr0 hlk hC hI dX5_set_80 rfl (by unfold m_set; (try simp only [hclw0]); (try simp only [hclw0]); (try simp only [hclw0]); (try simp only [hclw0]); (try simp only [hclw0]); (first | rw [if_pos c1] | rw [if_neg c1] | skip); (first | rw [if_pos c2] | rw [if_neg c2] | skip); (first | rw [if_pos c30] | rw [if_neg c30] | skip); (first | rw [if_pos c31] | rw [if_neg c31] | skip); (first | rw [if_pos c32] | rw [if_neg c32] | skip); (first | rw [if_pos c33] | rw [if_neg c33] | skip); try with_reducible rfl) rfl (by unfold m_set; (try simp only [hclw0]); (try simp only [hclw0]); (try simp only [hclw0]); (try simp only [hclw0]); (try simp only [hclw0]); (first | rw [if_pos c1] | rw [if_neg c1] | skip); (first | rw [if_pos c2] | rw [if_neg c2] | skip); (first | rw [if_pos c30] | rw [if_neg c30] | skip); (first | rw [if_pos c31] | rw [if_neg c31] | skip); (first | rw [if_pos c32] | rw [if_neg c32] | skip); (first | rw [if_pos c33] | rw [if_neg c33] | skip); try with_reducible rfl)
          · refine lv_bipush (v := 30) hx hb dX5_set_50 (by decide) ?_
            refine lv_goto (tgt := 57) hx hb dX5_set_52 (by decide) ?_
            refine lv_istore (lv' := [(4, .int 30), (3, .int 0), (0, .ref (ad 7 0)), (1, .int w), (2, .int v)]) hx hb dX5_set_57 hl (by decide) rfl (fun ls hl => ?_)
            refine lv_iload_n hx hb dX5_set_59 rfl (lv_at hl 3 rfl) ?_
            refine lv_iconst (v := 0) hx hb dX5_set_60 (by decide) ?_
            refine lv_iconst (v := 3) hx hb dX5_set_61 (by decide) ?_
            refine g_callSi (rest := []) (c_X5_in l D tb ad hj P (va_up M 7 (m_begins V)) w 0 3) rfl rfl gm_X5_in hx hb hml hown hts hC hI qm_X5_67 rfl hl.1 rfl ⟨rfl, rfl, by decide, by decide⟩ (Nat.le_of_ble_eq_true rfl) ⟨Nat.zero_le _, Nat.zero_le _⟩ dX5_set_62 (fun H locs hI => ?_)
            refine g_tf (fun c39 => ?_) (fun c39 => ?_)
            · obtain ⟨w0, hw0, rfl⟩ := m_nI (N := 3) c39 rfl
              have hclw0 : (nI w0).toNatClampNeg = w0 := nI_clamp (by omega)
              refine lv_if_eq (tgt := 78) hx hb dX5_set_65 (by decide) (fun c40 => absurd c40 (by decide)) (fun _ => ?_)
              refine lv_iload_n hx hb dX5_set_68 rfl (lv_at hl 4 rfl) ?_
              refine lv_iload_n hx hb dX5_set_69 rfl (lv_at hl 1 rfl) ?_
              refine lv_iload hx hb dX5_set_70 (lv_at hl 0 rfl) ?_
              refine g_callSi (rest := []) (c_X5_in l D tb ad hj P (va_up M 7 (m_begins V)) v 0 30) rfl rfl gm_X5_in hx hb hml hown hts hC hI qm_X5_67 rfl hl.1 rfl ⟨rfl, rfl, by decide, by decide⟩ (Nat.le_of_ble_eq_true rfl) ⟨Nat.zero_le _, Nat.zero_le _⟩ dX5_set_72 (fun H locs hI => ?_)
              refine g_tf (fun c41 => ?_) (fun c41 => ?_)
              · refine lv_if_ne (tgt := 81) hx hb dX5_set_75 (by decide) (fun _ => ?_) (fun c42 => absurd c42 (by decide))
                refine lv_aload_n hx hb dX5_set_81 rfl (lv_at hl 2 rfl) ?_
                refine g_get 0 hx hb hts hown hC hI i_X5 (by decide) (e_x g_us) rfl (by decide) qf_X5_7 rfl rfl dX5_set_82 ?_
                refine lv_bipush (v := 6) hx hb dX5_set_85 (by decide) ?_
                refine lv_iload_n hx hb dX5_set_87 rfl (lv_at hl 3 rfl) ?_
                refine lv_iadd hx hb dX5_set_88 ?_
                refine g_te (nI_add 6 w0) ?_
                refine g_iald (6 + w0) hx hb hC hI (by decide) (e_xs g_us) (vp_in_nI (by omega) (by decide)) (nI_clamp (by omega)) dX5_set_89 ?_
                refine lv_istore (lv' := [(5, .int ((m_begins V) 1 (6 + w0))), (4, .int 30), (3, .int 0), (0, .ref (ad 7 0)), (1, .int (nI w0)), (2, .int v)]) hx hb dX5_set_90 hl (by decide) rfl (fun ls hl => ?_)
                refine lv_aload_n hx hb dX5_set_92 rfl (lv_at hl 3 rfl) ?_
                refine g_get 0 hx hb hts hown hC hI i_X5 (by decide) (e_x g_us) rfl (by decide) qf_X5_7 rfl rfl dX5_set_93 ?_
                refine lv_bipush (v := 6) hx hb dX5_set_96 (by decide) ?_
                refine lv_iload_n hx hb dX5_set_98 rfl (lv_at hl 4 rfl) ?_
                refine lv_iadd hx hb dX5_set_99 ?_
                refine g_te (nI_add 6 w0) ?_
                refine lv_iload_n hx hb dX5_set_100 rfl (lv_at hl 5 rfl) ?_
                refine g_iast (6 + w0) hx hb hC hI (by decide) (e_xs g_us) (vp_in_nI (by omega) (by decide)) (nI_clamp (by omega)) p_xs g_hs dX5_set_101 (fun H locs hI => ?_)
                refine lv_aload_n hx hb dX5_set_102 rfl (lv_at hl 3 rfl) ?_
                refine lv_iload hx hb dX5_set_103 (lv_at hl 0 rfl) ?_
                refine g_callVi (rest := []) (c_X5_acted l D tb ad hj P M (g_w2 (m_begins V) 1 (6 + w0) v) ((m_begins V) 1 (6 + w0)) sn ⟨by rw [w2_c (by decide), m_begins_c (by decide)]; exact hs.1, hs.2⟩) rfl rfl gm_X5_acted hx hb hml hown hts hC hI (by decide) (e_x g_us) rfl rfl qm_X5_113 rfl hl.1 rfl ⟨rfl, rfl, by decide, by decide⟩ (Nat.le_of_ble_eq_true rfl) ⟨Nat.zero_le _, Nat.zero_le _⟩ dX5_set_105 (fun H locs hI => ?_)
                exact g_ir hQ hx hb hr0 hlk hC hI dX5_set_108 rfl (by unfold m_set; (try simp only [hclw0]); (try simp only [hclw0]); (try simp only [hclw0]); (try simp only [hclw0]); (try simp only [hclw0]); (try simp only [hclw0]); (first | rw [if_pos c1] | rw [if_neg c1] | skip); (first | rw [if_pos c2] | rw [if_neg c2] | skip); (first | rw [if_pos c30] | rw [if_neg c30] | skip); (first | rw [if_pos c31] | rw [if_neg c31] | skip); (first | rw [if_pos c32] | rw [if_neg c32] | skip); (first | rw [if_pos c39] | rw [if_neg c39] | skip); (first | rw [if_pos c41] | rw [if_neg c41] | skip); try with_reducible rfl) rfl (by unfold m_set; (try simp only [hclw0]); (try simp only [hclw0]); (try simp only [hclw0]); (try simp only [hclw0]); (try simp only [hclw0]); (try simp only [hclw0]); (first | rw [if_pos c1] | rw [if_neg c1] | skip); (first | rw [if_pos c2] | rw [if_neg c2] | skip); (first | rw [if_pos c30] | rw [if_neg c30] | skip); (first | rw [if_pos c31] | rw [if_neg c31] | skip); (first | rw [if_pos c32] | rw [if_neg c32] | skip); (first | rw [if_pos c39] | rw [if_neg c39] | skip); (first | rw [if_pos c41] | rw [if_neg c41] | skip); try with_reducible rfl)
              · refine lv_if_ne (tgt := 81) hx hb dX5_set_75 (by decide) (fun c43 => absurd c43 (by decide)) (fun _ => ?_)
                refine lv_ldc (v := (-2000000001)) hx hb hown (hts _ qc_X5_25) dX5_set_78 ?_
                exact g_ir hQ hx hb hr0 hlk hC hI dX5_set_80 rfl (by unfold m_set; (try simp only [hclw0]); (try simp only [hclw0]); (try simp only [hclw0]); (try simp only [hclw0]); (try simp only [hclw0]); (try simp only [hclw0]); (first | rw [if_pos c1] | rw [if_neg c1] | skip); (first | rw [if_pos c2] | rw [if_neg c2] | skip); (first | rw [if_pos c30] | rw [if_neg c30] | skip); (first | rw [if_pos c31] | rw [if_neg c31] | skip); (first | rw [if_pos c32] | rw [if_neg c32] | skip); (first | rw [if_pos c39] | rw [if_neg c39] | skip); (first | rw [if_pos c41] | rw [if_neg c41] | skip); try with_reducible rfl) rfl (by unfold m_set; (try simp only [hclw0]); (try simp only [hclw0]); (try simp only [hclw0]); (try simp only [hclw0]); (try simp only [hclw0]); (try simp only [hclw0]); (first | rw [if_pos c1] | rw [if_neg c1] | skip); (first | rw [if_pos c2] | rw [if_neg c2] | skip); (first | rw [if_pos c30] | rw [if_neg c30] | skip); (first | rw [if_pos c31] | rw [if_neg c31] | skip); (first | rw [if_pos c32] | rw [if_neg c32] | skip); (first | rw [if_pos c39] | rw [if_neg c39] | skip); (first | rw [if_pos c41] | rw [if_neg c41] | skip); try with_reducible rfl)
            · refine lv_if_eq (tgt := 78) hx hb dX5_set_65 (by decide) (fun _ => ?_) (fun c44 => absurd c44 (by decide))
              refine lv_ldc (v := (-2000000001)) hx hb hown (hts _ qc_X5_25) dX5_set_78 ?_
              exact g_ir hQ hx hb hr0 hlk hC hI dX5_set_80 rfl (by unfold m_set; (try simp only [hclw0]); (try simp only [hclw0]); (try simp only [hclw0]); (try simp only [hclw0]); (try simp only [hclw0]); (try simp only [hclw0]); (first | rw [if_pos c1] | rw [if_neg c1] | skip); (first | rw [if_pos c2] | rw [if_neg c2] | skip); (first | rw [if_pos c30] | rw [if_neg c30] | skip); (first | rw [if_pos c31] | rw [if_neg c31] | skip); (first | rw [if_pos c32] | rw [if_neg c32] | skip); (first | rw [if_pos c39] | rw [if_neg c39] | skip); try with_reducible rfl) rfl (by unfold m_set; (try simp only [hclw0]); (try simp only [hclw0]); (try simp only [hclw0]); (try simp only [hclw0]); (try simp only [hclw0]); (try simp only [hclw0]); (first | rw [if_pos c1] | rw [if_neg c1] | skip); (first | rw [if_pos c2] | rw [if_neg c2] | skip); (first | rw [if_pos c30] | rw [if_neg c30] | skip); (first | rw [if_pos c31] | rw [if_neg c31] | skip); (first | rw [if_pos c32] | rw [if_neg c32] | skip); (first | rw [if_pos c39] | rw [if_neg c39] | skip); try with_reducible rfl)
        · refine lv_sipush (v := 150) hx hb dX5_set_39 (by decide) ?_
          refine lv_goto (tgt := 57) hx hb dX5_set_42 (by decide) ?_
          refine lv_istore (lv' := [(4, .int 150), (3, .int 0), (0, .ref (ad 7 0)), (1, .int w), (2, .int v)]) hx hb dX5_set_57 hl (by decide) rfl (fun ls hl => ?_)
          refine lv_iload_n hx hb dX5_set_59 rfl (lv_at hl 3 rfl) ?_
          refine lv_iconst (v := 0) hx hb dX5_set_60 (by decide) ?_
          refine lv_iconst (v := 3) hx hb dX5_set_61 (by decide) ?_
          refine g_callSi (rest := []) (c_X5_in l D tb ad hj P (va_up M 7 (m_begins V)) w 0 3) rfl rfl gm_X5_in hx hb hml hown hts hC hI qm_X5_67 rfl hl.1 rfl ⟨rfl, rfl, by decide, by decide⟩ (Nat.le_of_ble_eq_true rfl) ⟨Nat.zero_le _, Nat.zero_le _⟩ dX5_set_62 (fun H locs hI => ?_)
          refine g_tf (fun c45 => ?_) (fun c45 => ?_)
          · obtain ⟨w0, hw0, rfl⟩ := m_nI (N := 3) c45 rfl
            have hclw0 : (nI w0).toNatClampNeg = w0 := nI_clamp (by omega)
            refine lv_if_eq (tgt := 78) hx hb dX5_set_65 (by decide) (fun c46 => absurd c46 (by decide)) (fun _ => ?_)
            refine lv_iload_n hx hb dX5_set_68 rfl (lv_at hl 4 rfl) ?_
            refine lv_iload_n hx hb dX5_set_69 rfl (lv_at hl 1 rfl) ?_
            refine lv_iload hx hb dX5_set_70 (lv_at hl 0 rfl) ?_
            refine g_callSi (rest := []) (c_X5_in l D tb ad hj P (va_up M 7 (m_begins V)) v 0 150) rfl rfl gm_X5_in hx hb hml hown hts hC hI qm_X5_67 rfl hl.1 rfl ⟨rfl, rfl, by decide, by decide⟩ (Nat.le_of_ble_eq_true rfl) ⟨Nat.zero_le _, Nat.zero_le _⟩ dX5_set_72 (fun H locs hI => ?_)
            refine g_tf (fun c47 => ?_) (fun c47 => ?_)
            · refine lv_if_ne (tgt := 81) hx hb dX5_set_75 (by decide) (fun _ => ?_) (fun c48 => absurd c48 (by decide))
              refine lv_aload_n hx hb dX5_set_81 rfl (lv_at hl 2 rfl) ?_
              refine g_get 0 hx hb hts hown hC hI i_X5 (by decide) (e_x g_us) rfl (by decide) qf_X5_7 rfl rfl dX5_set_82 ?_
              refine lv_bipush (v := 6) hx hb dX5_set_85 (by decide) ?_
              refine lv_iload_n hx hb dX5_set_87 rfl (lv_at hl 3 rfl) ?_
              refine lv_iadd hx hb dX5_set_88 ?_
              refine g_te (nI_add 6 w0) ?_
              refine g_iald (6 + w0) hx hb hC hI (by decide) (e_xs g_us) (vp_in_nI (by omega) (by decide)) (nI_clamp (by omega)) dX5_set_89 ?_
              refine lv_istore (lv' := [(5, .int ((m_begins V) 1 (6 + w0))), (4, .int 150), (3, .int 0), (0, .ref (ad 7 0)), (1, .int (nI w0)), (2, .int v)]) hx hb dX5_set_90 hl (by decide) rfl (fun ls hl => ?_)
              refine lv_aload_n hx hb dX5_set_92 rfl (lv_at hl 3 rfl) ?_
              refine g_get 0 hx hb hts hown hC hI i_X5 (by decide) (e_x g_us) rfl (by decide) qf_X5_7 rfl rfl dX5_set_93 ?_
              refine lv_bipush (v := 6) hx hb dX5_set_96 (by decide) ?_
              refine lv_iload_n hx hb dX5_set_98 rfl (lv_at hl 4 rfl) ?_
              refine lv_iadd hx hb dX5_set_99 ?_
              refine g_te (nI_add 6 w0) ?_
              refine lv_iload_n hx hb dX5_set_100 rfl (lv_at hl 5 rfl) ?_
              refine g_iast (6 + w0) hx hb hC hI (by decide) (e_xs g_us) (vp_in_nI (by omega) (by decide)) (nI_clamp (by omega)) p_xs g_hs dX5_set_101 (fun H locs hI => ?_)
              refine lv_aload_n hx hb dX5_set_102 rfl (lv_at hl 3 rfl) ?_
              refine lv_iload hx hb dX5_set_103 (lv_at hl 0 rfl) ?_
              refine g_callVi (rest := []) (c_X5_acted l D tb ad hj P M (g_w2 (m_begins V) 1 (6 + w0) v) ((m_begins V) 1 (6 + w0)) sn ⟨by rw [w2_c (by decide), m_begins_c (by decide)]; exact hs.1, hs.2⟩) rfl rfl gm_X5_acted hx hb hml hown hts hC hI (by decide) (e_x g_us) rfl rfl qm_X5_113 rfl hl.1 rfl ⟨rfl, rfl, by decide, by decide⟩ (Nat.le_of_ble_eq_true rfl) ⟨Nat.zero_le _, Nat.zero_le _⟩ dX5_set_105 (fun H locs hI => ?_)
              exact g_ir hQ hx hb hr0 hlk hC hI dX5_set_108 rfl (by unfold m_set; (try simp only [hclw0]); (try simp only [hclw0]); (try simp only [hclw0]); (try simp only [hclw0]); (try simp only [hclw0]); (try simp only [hclw0]); (try simp only [hclw0]); (first | rw [if_pos c1] | rw [if_neg c1] | skip); (first | rw [if_pos c2] | rw [if_neg c2] | skip); (first | rw [if_pos c30] | rw [if_neg c30] | skip); (first | rw [if_pos c31] | rw [if_neg c31] | skip); (first | rw [if_pos c45] | rw [if_neg c45] | skip); (first | rw [if_pos c47] | rw [if_neg c47] | skip); try with_reducible rfl) rfl (by unfold m_set; (try simp only [hclw0]); (try simp only [hclw0]); (try simp only [hclw0]); (try simp only [hclw0]); (try simp only [hclw0]); (try simp only [hclw0]); (try simp only [hclw0]); (first | rw [if_pos c1] | rw [if_neg c1] | skip); (first | rw [if_pos c2] | rw [if_neg c2] | skip); (first | rw [if_pos c30] | rw [if_neg c30] | skip); (first | rw [if_pos c31] | rw [if_neg c31] | skip); (first | rw [if_pos c45] | rw [if_neg c45] | skip); (first | rw [if_pos c47] | rw [if_neg c47] | skip); try with_reducible rfl)
            · refine lv_if_ne (tgt := 81) hx hb dX5_set_75 (by decide) (fun c49 => absurd c49 (by decide)) (fun _ => ?_)
              refine lv_ldc (v := (-2000000001)) hx hb hown (hts _ qc_X5_25) dX5_set_78 ?_
              exact g_ir hQ hx hb hr0 hlk hC hI dX5_set_80 rfl (by unfold m_set; (try simp only [hclw0]); (try simp only [hclw0]); (try simp only [hclw0]); (try simp only [hclw0]); (try simp only [hclw0]); (try simp only [hclw0]); (try simp only [hclw0]); (first | rw [if_pos c1] | rw [if_neg c1] | skip); (first | rw [if_pos c2] | rw [if_neg c2] | skip); (first | rw [if_pos c30] | rw [if_neg c30] | skip); (first | rw [if_pos c31] | rw [if_neg c31] | skip); (first | rw [if_pos c45] | rw [if_neg c45] | skip); (first | rw [if_pos c47] | rw [if_neg c47] | skip); try with_reducible rfl) rfl (by unfold m_set; (try simp only [hclw0]); (try simp only [hclw0]); (try simp only [hclw0]); (try simp only [hclw0]); (try simp only [hclw0]); (try simp only [hclw0]); (try simp only [hclw0]); (first | rw [if_pos c1] | rw [if_neg c1] | skip); (first | rw [if_pos c2] | rw [if_neg c2] | skip); (first | rw [if_pos c30] | rw [if_neg c30] | skip); (first | rw [if_pos c31] | rw [if_neg c31] | skip); (first | rw [if_pos c45] | rw [if_neg c45] | skip); (first | rw [if_pos c47] | rw [if_neg c47] | skip); try with_reducible rfl)
          · refine lv_if_eq (tgt := 78) hx hb dX5_set_65 (by decide) (fun _ => ?_) (fun c50 => absurd c50 (by decide))
            refine lv_ldc (v := (-2000000001)) hx hb hown (hts _ qc_X5_25) dX5_set_78 ?_
            exact g_ir hQ hx hb hr0 hlk hC hI dX5_set_80 rfl (by unfold m_set; (try simp only [hclw0]); (try simp only [hclw0]); (try simp only [hclw0]); (try simp only [hclw0]); (try simp only [hclw0]); (try simp only [hclw0]); (try simp only [hclw0]); (first | rw [if_pos c1] | rw [if_neg c1] | skip); (first | rw [if_pos c2] | rw [if_neg c2] | skip); (first | rw [if_pos c30] | rw [if_neg c30] | skip); (first | rw [if_pos c31] | rw [if_neg c31] | skip); (first | rw [if_pos c45] | rw [if_neg c45] | skip); try with_reducible rfl) rfl (by unfold m_set; (try simp only [hclw0]); (try simp only [hclw0]); (try simp only [hclw0]); (try simp only [hclw0]); (try simp only [hclw0]); (try simp only [hclw0]); (try simp only [hclw0]); (first | rw [if_pos c1] | rw [if_neg c1] | skip); (first | rw [if_pos c2] | rw [if_neg c2] | skip); (first | rw [if_pos c30] | rw [if_neg c30] | skip); (first | rw [if_pos c31] | rw [if_neg c31] | skip); (first | rw [if_pos c45] | rw [if_neg c45] | skip); try with_reducible rfl)
      · refine lv_bipush (v := 100) hx hb dX5_set_29 (by decide) ?_
        refine lv_goto (tgt := 57) hx hb dX5_set_31 (by decide) ?_
        refine lv_istore (lv' := [(4, .int 100), (3, .int 0), (0, .ref (ad 7 0)), (1, .int w), (2, .int v)]) hx hb dX5_set_57 hl (by decide) rfl (fun ls hl => ?_)
        refine lv_iload_n hx hb dX5_set_59 rfl (lv_at hl 3 rfl) ?_
        refine lv_iconst (v := 0) hx hb dX5_set_60 (by decide) ?_
        refine lv_iconst (v := 3) hx hb dX5_set_61 (by decide) ?_
        refine g_callSi (rest := []) (c_X5_in l D tb ad hj P (va_up M 7 (m_begins V)) w 0 3) rfl rfl gm_X5_in hx hb hml hown hts hC hI qm_X5_67 rfl hl.1 rfl ⟨rfl, rfl, by decide, by decide⟩ (Nat.le_of_ble_eq_true rfl) ⟨Nat.zero_le _, Nat.zero_le _⟩ dX5_set_62 (fun H locs hI => ?_)
        refine g_tf (fun c51 => ?_) (fun c51 => ?_)
        · obtain ⟨w0, hw0, rfl⟩ := m_nI (N := 3) c51 rfl
          have hclw0 : (nI w0).toNatClampNeg = w0 := nI_clamp (by omega)
          refine lv_if_eq (tgt := 78) hx hb dX5_set_65 (by decide) (fun c52 => absurd c52 (by decide)) (fun _ => ?_)
          refine lv_iload_n hx hb dX5_set_68 rfl (lv_at hl 4 rfl) ?_
          refine lv_iload_n hx hb dX5_set_69 rfl (lv_at hl 1 rfl) ?_
          refine lv_iload hx hb dX5_set_70 (lv_at hl 0 rfl) ?_
          refine g_callSi (rest := []) (c_X5_in l D tb ad hj P (va_up M 7 (m_begins V)) v 0 100) rfl rfl gm_X5_in hx hb hml hown hts hC hI qm_X5_67 rfl hl.1 rfl ⟨rfl, rfl, by decide, by decide⟩ (Nat.le_of_ble_eq_true rfl) ⟨Nat.zero_le _, Nat.zero_le _⟩ dX5_set_72 (fun H locs hI => ?_)
          refine g_tf (fun c53 => ?_) (fun c53 => ?_)
          · refine lv_if_ne (tgt := 81) hx hb dX5_set_75 (by decide) (fun _ => ?_) (fun c54 => absurd c54 (by decide))
            refine lv_aload_n hx hb dX5_set_81 rfl (lv_at hl 2 rfl) ?_
            refine g_get 0 hx hb hts hown hC hI i_X5 (by decide) (e_x g_us) rfl (by decide) qf_X5_7 rfl rfl dX5_set_82 ?_
            refine lv_bipush (v := 6) hx hb dX5_set_85 (by decide) ?_
            refine lv_iload_n hx hb dX5_set_87 rfl (lv_at hl 3 rfl) ?_
            refine lv_iadd hx hb dX5_set_88 ?_
            refine g_te (nI_add 6 w0) ?_
            refine g_iald (6 + w0) hx hb hC hI (by decide) (e_xs g_us) (vp_in_nI (by omega) (by decide)) (nI_clamp (by omega)) dX5_set_89 ?_
            refine lv_istore (lv' := [(5, .int ((m_begins V) 1 (6 + w0))), (4, .int 100), (3, .int 0), (0, .ref (ad 7 0)), (1, .int (nI w0)), (2, .int v)]) hx hb dX5_set_90 hl (by decide) rfl (fun ls hl => ?_)
            refine lv_aload_n hx hb dX5_set_92 rfl (lv_at hl 3 rfl) ?_
            refine g_get 0 hx hb hts hown hC hI i_X5 (by decide) (e_x g_us) rfl (by decide) qf_X5_7 rfl rfl dX5_set_93 ?_
            refine lv_bipush (v := 6) hx hb dX5_set_96 (by decide) ?_
            refine lv_iload_n hx hb dX5_set_98 rfl (lv_at hl 4 rfl) ?_
            refine lv_iadd hx hb dX5_set_99 ?_
            refine g_te (nI_add 6 w0) ?_
            refine lv_iload_n hx hb dX5_set_100 rfl (lv_at hl 5 rfl) ?_
            refine g_iast (6 + w0) hx hb hC hI (by decide) (e_xs g_us) (vp_in_nI (by omega) (by decide)) (nI_clamp (by omega)) p_xs g_hs dX5_set_101 (fun H locs hI => ?_)
            refine lv_aload_n hx hb dX5_set_102 rfl (lv_at hl 3 rfl) ?_
            refine lv_iload hx hb dX5_set_103 (lv_at hl 0 rfl) ?_
            refine g_callVi (rest := []) (c_X5_acted l D tb ad hj P M (g_w2 (m_begins V) 1 (6 + w0) v) ((m_begins V) 1 (6 + w0)) sn ⟨by rw [w2_c (by decide), m_begins_c (by decide)]; exact hs.1, hs.2⟩) rfl rfl gm_X5_acted hx hb hml hown hts hC hI (by decide) (e_x g_us) rfl rfl qm_X5_113 rfl hl.1 rfl ⟨rfl, rfl, by decide, by decide⟩ (Nat.le_of_ble_eq_true rfl) ⟨Nat.zero_le _, Nat.zero_le _⟩ dX5_set_105 (fun H locs hI => ?_)
            exact g_ir hQ hx hb hr0 hlk hC hI dX5_set_108 rfl (by unfold m_set; (try simp only [hclw0]); (try simp only [hclw0]); (try simp only [hclw0]); (try simp only [hclw0]); (try simp only [hclw0]); (try simp only [hclw0]); (try simp only [hclw0]); (try simp only [hclw0]); (first | rw [if_pos c1] | rw [if_neg c1] | skip); (first | rw [if_pos c2] | rw [if_neg c2] | skip); (first | rw [if_pos c30] | rw [if_neg c30] | skip); (first | rw [if_pos c51] | rw [if_neg c51] | skip); (first | rw [if_pos c53] | rw [if_neg c53] | skip); try with_reducible rfl) rfl (by unfold m_set; (try simp only [hclw0]); (try simp only [hclw0]); (try simp only [hclw0]); (try simp only [hclw0]); (try simp only [hclw0]); (try simp only [hclw0]); (try simp only [hclw0]); (try simp only [hclw0]); (first | rw [if_pos c1] | rw [if_neg c1] | skip); (first | rw [if_pos c2] | rw [if_neg c2] | skip); (first | rw [if_pos c30] | rw [if_neg c30] | skip); (first | rw [if_pos c51] | rw [if_neg c51] | skip); (first | rw [if_pos c53] | rw [if_neg c53] | skip); try with_reducible rfl)
          · refine lv_if_ne (tgt := 81) hx hb dX5_set_75 (by decide) (fun c55 => absurd c55 (by decide)) (fun _ => ?_)
            refine lv_ldc (v := (-2000000001)) hx hb hown (hts _ qc_X5_25) dX5_set_78 ?_
            exact g_ir hQ hx hb hr0 hlk hC hI dX5_set_80 rfl (by unfold m_set; (try simp only [hclw0]); (try simp only [hclw0]); (try simp only [hclw0]); (try simp only [hclw0]); (try simp only [hclw0]); (try simp only [hclw0]); (try simp only [hclw0]); (try simp only [hclw0]); (first | rw [if_pos c1] | rw [if_neg c1] | skip); (first | rw [if_pos c2] | rw [if_neg c2] | skip); (first | rw [if_pos c30] | rw [if_neg c30] | skip); (first | rw [if_pos c51] | rw [if_neg c51] | skip); (first | rw [if_pos c53] | rw [if_neg c53] | skip); try with_reducible rfl) rfl (by unfold m_set; (try simp only [hclw0]); (try simp only [hclw0]); (try simp only [hclw0]); (try simp only [hclw0]); (try simp only [hclw0]); (try simp only [hclw0]); (try simp only [hclw0]); (try simp only [hclw0]); (first | rw [if_pos c1] | rw [if_neg c1] | skip); (first | rw [if_pos c2] | rw [if_neg c2] | skip); (first | rw [if_pos c30] | rw [if_neg c30] | skip); (first | rw [if_pos c51] | rw [if_neg c51] | skip); (first | rw [if_pos c53] | rw [if_neg c53] | skip); try with_reducible rfl)
        · refine lv_if_eq (tgt := 78) hx hb dX5_set_65 (by decide) (fun _ => ?_) (fun c56 => absurd c56 (by decide))
          refine lv_ldc (v := (-2000000001)) hx hb hown (hts _ qc_X5_25) dX5_set_78 ?_
          exact g_ir hQ hx hb hr0 hlk hC hI dX5_set_80 rfl (by unfold m_set; (try simp only [hclw0]); (try simp only [hclw0]); (try simp only [hclw0]); (try simp only [hclw0]); (try simp only [hclw0]); (try simp only [hclw0]); (try simp only [hclw0]); (try simp only [hclw0]); (first | rw [if_pos c1] | rw [if_neg c1] | skip); (first | rw [if_pos c2] | rw [if_neg c2] | skip); (first | rw [if_pos c30] | rw [if_neg c30] | skip); (first | rw [if_pos c51] | rw [if_neg c51] | skip); try with_reducible rfl) rfl (by unfold m_set; (try simp only [hclw0]); (try simp only [hclw0]); (try simp only [hclw0]); (try simp only [hclw0]); (try simp only [hclw0]); (try simp only [hclw0]); (try simp only [hclw0]); (try simp only [hclw0]); (first | rw [if_pos c1] | rw [if_neg c1] | skip); (first | rw [if_pos c2] | rw [if_neg c2] | skip); (first | rw [if_pos c30] | rw [if_neg c30] | skip); (first | rw [if_pos c51] | rw [if_neg c51] | skip); try with_reducible rfl)
  · refine lv_iconst (v := 1) hx hb dX5_set_9 (by decide) ?_
    refine lv_goto (tgt := 24) hx hb dX5_set_10 (by decide) ?_
    refine lv_istore_n (lv' := [(3, .int 1), (0, .ref (ad 7 0)), (1, .int w), (2, .int v)]) hx hb dX5_set_24 rfl hl (by decide) rfl (fun ls hl => ?_)
    refine lv_iload_n hx hb dX5_set_25 rfl (lv_at hl 2 rfl) ?_
    refine lv_if_ne (tgt := 34) hx hb dX5_set_26 (by decide) (fun c57 => ?_) (fun c57 => ?_)
    · refine lv_iload_n hx hb dX5_set_34 rfl (lv_at hl 2 rfl) ?_
      refine lv_iconst (v := 1) hx hb dX5_set_35 (by decide) ?_
      refine lv_icmp_ne (tgt := 45) hx hb dX5_set_36 (by decide) (fun c58 => ?_) (fun c58 => ?_)
      · refine lv_iload_n hx hb dX5_set_45 rfl (lv_at hl 2 rfl) ?_
        refine lv_iconst (v := 2) hx hb dX5_set_46 (by decide) ?_
        refine lv_icmp_ne (tgt := 55) hx hb dX5_set_47 (by decide) (fun c59 => ?_) (fun c59 => ?_)
        · refine lv_bipush (v := 20) hx hb dX5_set_55 (by decide) ?_
          refine lv_istore (lv' := [(4, .int 20), (3, .int 1), (0, .ref (ad 7 0)), (1, .int w), (2, .int v)]) hx hb dX5_set_57 hl (by decide) rfl (fun ls hl => ?_)
          refine lv_iload_n hx hb dX5_set_59 rfl (lv_at hl 3 rfl) ?_
          refine lv_iconst (v := 0) hx hb dX5_set_60 (by decide) ?_
          refine lv_iconst (v := 3) hx hb dX5_set_61 (by decide) ?_
          refine g_callSi (rest := []) (c_X5_in l D tb ad hj P (va_up M 7 (m_begins V)) w 0 3) rfl rfl gm_X5_in hx hb hml hown hts hC hI qm_X5_67 rfl hl.1 rfl ⟨rfl, rfl, by decide, by decide⟩ (Nat.le_of_ble_eq_true rfl) ⟨Nat.zero_le _, Nat.zero_le _⟩ dX5_set_62 (fun H locs hI => ?_)
          refine g_tf (fun c60 => ?_) (fun c60 => ?_)
          · obtain ⟨w0, hw0, rfl⟩ := m_nI (N := 3) c60 rfl
            have hclw0 : (nI w0).toNatClampNeg = w0 := nI_clamp (by omega)
            refine lv_if_eq (tgt := 78) hx hb dX5_set_65 (by decide) (fun c61 => absurd c61 (by decide)) (fun _ => ?_)
            refine lv_iload_n hx hb dX5_set_68 rfl (lv_at hl 4 rfl) ?_
            refine lv_iload_n hx hb dX5_set_69 rfl (lv_at hl 1 rfl) ?_
            refine lv_iload hx hb dX5_set_70 (lv_at hl 0 rfl) ?_
            refine g_callSi (rest := []) (c_X5_in l D tb ad hj P (va_up M 7 (m_begins V)) v 1 20) rfl rfl gm_X5_in hx hb hml hown hts hC hI qm_X5_67 rfl hl.1 rfl ⟨rfl, rfl, by decide, by decide⟩ (Nat.le_of_ble_eq_true rfl) ⟨Nat.zero_le _, Nat.zero_le _⟩ dX5_set_72 (fun H locs hI => ?_)
            refine g_tf (fun c62 => ?_) (fun c62 => ?_)
            · refine lv_if_ne (tgt := 81) hx hb dX5_set_75 (by decide) (fun _ => ?_) (fun c63 => absurd c63 (by decide))
              refine lv_aload_n hx hb dX5_set_81 rfl (lv_at hl 2 rfl) ?_
              refine g_get 0 hx hb hts hown hC hI i_X5 (by decide) (e_x g_us) rfl (by decide) qf_X5_7 rfl rfl dX5_set_82 ?_
              refine lv_bipush (v := 6) hx hb dX5_set_85 (by decide) ?_
              refine lv_iload_n hx hb dX5_set_87 rfl (lv_at hl 3 rfl) ?_
              refine lv_iadd hx hb dX5_set_88 ?_
              refine g_te (nI_add 6 w0) ?_
              refine g_iald (6 + w0) hx hb hC hI (by decide) (e_xs g_us) (vp_in_nI (by omega) (by decide)) (nI_clamp (by omega)) dX5_set_89 ?_
              refine lv_istore (lv' := [(5, .int ((m_begins V) 1 (6 + w0))), (4, .int 20), (3, .int 1), (0, .ref (ad 7 0)), (1, .int (nI w0)), (2, .int v)]) hx hb dX5_set_90 hl (by decide) rfl (fun ls hl => ?_)
              refine lv_aload_n hx hb dX5_set_92 rfl (lv_at hl 3 rfl) ?_
              refine g_get 0 hx hb hts hown hC hI i_X5 (by decide) (e_x g_us) rfl (by decide) qf_X5_7 rfl rfl dX5_set_93 ?_
              refine lv_bipush (v := 6) hx hb dX5_set_96 (by decide) ?_
              refine lv_iload_n hx hb dX5_set_98 rfl (lv_at hl 4 rfl) ?_
              refine lv_iadd hx hb dX5_set_99 ?_
              refine g_te (nI_add 6 w0) ?_
              refine lv_iload_n hx hb dX5_set_100 rfl (lv_at hl 5 rfl) ?_
              refine g_iast (6 + w0) hx hb hC hI (by decide) (e_xs g_us) (vp_in_nI (by omega) (by decide)) (nI_clamp (by omega)) p_xs g_hs dX5_set_101 (fun H locs hI => ?_)
              refine lv_aload_n hx hb dX5_set_102 rfl (lv_at hl 3 rfl) ?_
              refine lv_iload hx hb dX5_set_103 (lv_at hl 0 rfl) ?_
              refine g_callVi (rest := []) (c_X5_acted l D tb ad hj P M (g_w2 (m_begins V) 1 (6 + w0) v) ((m_begins V) 1 (6 + w0)) sn ⟨by rw [w2_c (by decide), m_begins_c (by decide)]; exact hs.1, hs.2⟩) rfl rfl gm_X5_acted hx hb hml hown hts hC hI (by decide) (e_x g_us) rfl rfl qm_X5_113 rfl hl.1 rfl ⟨rfl, rfl, by decide, by decide⟩ (Nat.le_of_ble_eq_true rfl) ⟨Nat.zero_le _, Nat.zero_le _⟩ dX5_set_105 (fun H locs hI => ?_)
              exact g_ir hQ hx hb hr0 hlk hC hI dX5_set_108 rfl (by unfold m_set; (try simp only [hclw0]); (try simp only [hclw0]); (try simp only [hclw0]); (try simp only [hclw0]); (try simp only [hclw0]); (try simp only [hclw0]); (try simp only [hclw0]); (try simp only [hclw0]); (try simp only [hclw0]); (first | rw [if_pos c1] | rw [if_neg c1] | skip); (first | rw [if_pos c57] | rw [if_neg c57] | skip); (first | rw [if_pos c58] | rw [if_neg c58] | skip); (first | rw [if_pos c59] | rw [if_neg c59] | skip); (first | rw [if_pos c60] | rw [if_neg c60] | skip); (first | rw [if_pos c62] | rw [if_neg c62] | skip); try with_reducible rfl) rfl (by unfold m_set; (try simp only [hclw0]); (try simp only [hclw0]); (try simp only [hclw0]); (try simp only [hclw0]); (try simp only [hclw0]); (try simp only [hclw0]); (try simp only [hclw0]); (try simp only [hclw0]); (try simp only [hclw0]); (first | rw [if_pos c1] | rw [if_neg c1] | skip); (first | rw [if_pos c57] | rw [if_neg c57] | skip); (first | rw [if_pos c58] | rw [if_neg c58] | skip); (first | rw [if_pos c59] | rw [if_neg c59] | skip); (first | rw [if_pos c60] | rw [if_neg c60] | skip); (first | rw [if_pos c62] | rw [if_neg c62] | skip); try with_reducible rfl)
            · refine lv_if_ne (tgt := 81) hx hb dX5_set_75 (by decide) (fun c64 => absurd c64 (by decide)) (fun _ => ?_)
              refine lv_ldc (v := (-2000000001)) hx hb hown (hts _ qc_X5_25) dX5_set_78 ?_
              exact g_ir hQ hx hb hr0 hlk hC hI dX5_set_80 rfl (by unfold m_set; (try simp only [hclw0]); (try simp only [hclw0]); (try simp only [hclw0]); (try simp only [hclw0]); (try simp only [hclw0]); (try simp only [hclw0]); (try simp only [hclw0]); (try simp only [hclw0]); (try simp only [hclw0]); (first | rw [if_pos c1] | rw [if_neg c1] | skip); (first | rw [if_pos c57] | rw [if_neg c57] | skip); (first | rw [if_pos c58] | rw [if_neg c58] | skip); (first | rw [if_pos c59] | rw [if_neg c59] | skip); (first | rw [if_pos c60] | rw [if_neg c60] | skip); (first | rw [if_pos c62] | rw [if_neg c62] | skip); try with_reducible rfl) rfl (by unfold m_set; (try simp only [hclw0]); (try simp only [hclw0]); (try simp only [hclw0]); (try simp only [hclw0]); (try simp only [hclw0]); (try simp only [hclw0]); (try simp only [hclw0]); (try simp only [hclw0]); (try simp only [hclw0]); (first | rw [if_pos c1] | rw [if_neg c1] | skip); (first | rw [if_pos c57] | rw [if_neg c57] | skip); (first | rw [if_pos c58] | rw [if_neg c58] | skip); (first | rw [if_pos c59] | rw [if_neg c59] | skip); (first | rw [if_pos c60] | rw [if_neg c60] | skip); (first | rw [if_pos c62] | rw [if_neg c62] | skip); try with_reducible rfl)
          · refine lv_if_eq (tgt := 78) hx hb dX5_set_65 (by decide) (fun _ => ?_) (fun c65 => absurd c65 (by decide))
            refine lv_ldc (v := (-2000000001)) hx hb hown (hts _ qc_X5_25) dX5_set_78 ?_
            exact g_ir hQ hx hb hr0 hlk hC hI dX5_set_80 rfl (by unfold m_set; (try simp only [hclw0]); (try simp only [hclw0]); (try simp only [hclw0]); (try simp only [hclw0]); (try simp only [hclw0]); (try simp only [hclw0]); (try simp only [hclw0]); (try simp only [hclw0]); (try simp only [hclw0]); (first | rw [if_pos c1] | rw [if_neg c1] | skip); (first | rw [if_pos c57] | rw [if_neg c57] | skip); (first | rw [if_pos c58] | rw [if_neg c58] | skip); (first | rw [if_pos c59] | rw [if_neg c59] | skip); (first | rw [if_pos c60] | rw [if_neg c60] | skip); try with_reducible rfl) rfl (by unfold m_set; (try simp only [hclw0]); (try simp only [hclw0]); (try simp only [hclw0]); (try simp only [hclw0]); (try simp only [hclw0]); (try simp only [hclw0]); (try simp only [hclw0]); (try simp only [hclw0]); (try simp only [hclw0]); (first | rw [if_pos c1] | rw [if_neg c1] | skip); (first | rw [if_pos c57] | rw [if_neg c57] | skip); (first | rw [if_pos c58] | rw [if_neg c58] | skip); (first | rw [if_pos c59] | rw [if_neg c59] | skip); (first | rw [if_pos c60] | rw [if_neg c60] | skip); try with_reducible rfl)
        · refine lv_bipush (v := 30) hx hb dX5_set_50 (by decide) ?_
          refine lv_goto (tgt := 57) hx hb dX5_set_52 (by decide) ?_
          refine lv_istore (lv' := [(4, .int 30), (3, .int 1), (0, .ref (ad 7 0)), (1, .int w), (2, .int v)]) hx hb dX5_set_57 hl (by decide) rfl (fun ls hl => ?_)
          refine lv_iload_n hx hb dX5_set_59 rfl (lv_at hl 3 rfl) ?_
          refine lv_iconst (v := 0) hx hb dX5_set_60 (by decide) ?_
          refine lv_iconst (v := 3) hx hb dX5_set_61 (by decide) ?_
          refine g_callSi (rest := []) (c_X5_in l D tb ad hj P (va_up M 7 (m_begins V)) w 0 3) rfl rfl gm_X5_in hx hb hml hown hts hC hI qm_X5_67 rfl hl.1 rfl ⟨rfl, rfl, by decide, by decide⟩ (Nat.le_of_ble_eq_true rfl) ⟨Nat.zero_le _, Nat.zero_le _⟩ dX5_set_62 (fun H locs hI => ?_)
          refine g_tf (fun c66 => ?_) (fun c66 => ?_)
          · obtain ⟨w0, hw0, rfl⟩ := m_nI (N := 3) c66 rfl
            have hclw0 : (nI w0).toNatClampNeg = w0 := nI_clamp (by omega)
            refine lv_if_eq (tgt := 78) hx hb dX5_set_65 (by decide) (fun c67 => absurd c67 (by decide)) (fun _ => ?_)
            refine lv_iload_n hx hb dX5_set_68 rfl (lv_at hl 4 rfl) ?_
            refine lv_iload_n hx hb dX5_set_69 rfl (lv_at hl 1 rfl) ?_
            refine lv_iload hx hb dX5_set_70 (lv_at hl 0 rfl) ?_
            refine g_callSi (rest := []) (c_X5_in l D tb ad hj P (va_up M 7 (m_begins V)) v 1 30) rfl rfl gm_X5_in hx hb hml hown hts hC hI qm_X5_67 rfl hl.1 rfl ⟨rfl, rfl, by decide, by decide⟩ (Nat.le_of_ble_eq_true rfl) ⟨Nat.zero_le _, Nat.zero_le _⟩ dX5_set_72 (fun H locs hI => ?_)
            refine g_tf (fun c68 => ?_) (fun c68 => ?_)
            · refine lv_if_ne (tgt := 81) hx hb dX5_set_75 (by decide) (fun _ => ?_) (fun c69 => absurd c69 (by decide))
              refine lv_aload_n hx hb dX5_set_81 rfl (lv_at hl 2 rfl) ?_
              refine g_get 0 hx hb hts hown hC hI i_X5 (by decide) (e_x g_us) rfl (by decide) qf_X5_7 rfl rfl dX5_set_82 ?_
              refine lv_bipush (v := 6) hx hb dX5_set_85 (by decide) ?_
              refine lv_iload_n hx hb dX5_set_87 rfl (lv_at hl 3 rfl) ?_
              refine lv_iadd hx hb dX5_set_88 ?_
              refine g_te (nI_add 6 w0) ?_
              refine g_iald (6 + w0) hx hb hC hI (by decide) (e_xs g_us) (vp_in_nI (by omega) (by decide)) (nI_clamp (by omega)) dX5_set_89 ?_
              refine lv_istore (lv' := [(5, .int ((m_begins V) 1 (6 + w0))), (4, .int 30), (3, .int 1), (0, .ref (ad 7 0)), (1, .int (nI w0)), (2, .int v)]) hx hb dX5_set_90 hl (by decide) rfl (fun ls hl => ?_)
              refine lv_aload_n hx hb dX5_set_92 rfl (lv_at hl 3 rfl) ?_
              refine g_get 0 hx hb hts hown hC hI i_X5 (by decide) (e_x g_us) rfl (by decide) qf_X5_7 rfl rfl dX5_set_93 ?_
              refine lv_bipush (v := 6) hx hb dX5_set_96 (by decide) ?_
              refine lv_iload_n hx hb dX5_set_98 rfl (lv_at hl 4 rfl) ?_
              refine lv_iadd hx hb dX5_set_99 ?_
              refine g_te (nI_add 6 w0) ?_
              refine lv_iload_n hx hb dX5_set_100 rfl (lv_at hl 5 rfl) ?_
              refine g_iast (6 + w0) hx hb hC hI (by decide) (e_xs g_us) (vp_in_nI (by omega) (by decide)) (nI_clamp (by omega)) p_xs g_hs dX5_set_101 (fun H locs hI => ?_)
              refine lv_aload_n hx hb dX5_set_102 rfl (lv_at hl 3 rfl) ?_
              refine lv_iload hx hb dX5_set_103 (lv_at hl 0 rfl) ?_
              refine g_callVi (rest := []) (c_X5_acted l D tb ad hj P M (g_w2 (m_begins V) 1 (6 + w0) v) ((m_begins V) 1 (6 + w0)) sn ⟨by rw [w2_c (by decide), m_begins_c (by decide)]; exact hs.1, hs.2⟩) rfl rfl gm_X5_acted hx hb hml hown hts hC hI (by decide) (e_x g_us) rfl rfl qm_X5_113 rfl hl.1 rfl ⟨rfl, rfl, by decide, by decide⟩ (Nat.le_of_ble_eq_true rfl) ⟨Nat.zero_le _, Nat.zero_le _⟩ dX5_set_105 (fun H locs hI => ?_)
              exact g_ir hQ hx hb hr0 hlk hC hI dX5_set_108 rfl (by unfold m_set; (try simp only [hclw0]); (try simp only [hclw0]); (try simp only [hclw0]); (try simp only [hclw0]); (try simp only [hclw0]); (try simp only [hclw0]); (try simp only [hclw0]); (try simp only [hclw0]); (try simp only [hclw0]); (try simp only [hclw0]); (first | rw [if_pos c1] | rw [if_neg c1] | skip); (first | rw [if_pos c57] | rw [if_neg c57] | skip); (first | rw [if_pos c58] | rw [if_neg c58] | skip); (first | rw [if_pos c59] | rw [if_neg c59] | skip); (first | rw [if_pos c66] | rw [if_neg c66] | skip); (first | rw [if_pos c68] | rw [if_neg c68] | skip); try with_reducible rfl) rfl (by unfold m_set; (try simp only [hclw0]); (try simp only [hclw0]); (try simp only [hclw0]); (try simp only [hclw0]); (try simp only [hclw0]); (try simp only [hclw0]); (try simp only [hclw0]); (try simp only [hclw0]); (try simp only [hclw0]); (try simp only [hclw0]); (first | rw [if_pos c1] | rw [if_neg c1] | skip); (first | rw [if_pos c57] | rw [if_neg c57] | skip); (first | rw [if_pos c58] | rw [if_neg c58] | skip); (first | rw [if_pos c59] | rw [if_neg c59] | skip); (first | rw [if_pos c66] | rw [if_neg c66] | skip); (first | rw [if_pos c68] | rw [if_neg c68] | skip); try with_reducible rfl)
            · refine lv_if_ne (tgt := 81) hx hb dX5_set_75 (by decide) (fun c70 => absurd c70 (by decide)) (fun _ => ?_)
              refine lv_ldc (v := (-2000000001)) hx hb hown (hts _ qc_X5_25) dX5_set_78 ?_
              exact g_ir hQ hx hb hr0 hlk hC hI dX5_set_80 rfl (by unfold m_set; (try simp only [hclw0]); (try simp only [hclw0]); (try simp only [hclw0]); (try simp only [hclw0]); (try simp only [hclw0]); (try simp only [hclw0]); (try simp only [hclw0]); (try simp only [hclw0]); (try simp only [hclw0]); (try simp only [hclw0]); (first | rw [if_pos c1] | rw [if_neg c1] | skip); (first | rw [if_pos c57] | rw [if_neg c57] | skip); (first | rw [if_pos c58] | rw [if_neg c58] | skip); (first | rw [if_pos c59] | rw [if_neg c59] | skip); (first | rw [if_pos c66] | rw [if_neg c66] | skip); (first | rw [if_pos c68] | rw [if_neg c68] | skip); try with_reducible rfl) rfl (by unfold m_set; (try simp only [hclw0]); (try simp only [hclw0]); (try simp only [hclw0]); (try simp only [hclw0]); (try simp only [hclw0]); (try simp only [hclw0]); (try simp only [hclw0]); (try simp only [hclw0]); (try simp only [hclw0]); (try simp only [hclw0]); (first | rw [if_pos c1] | rw [if_neg c1] | skip); (first | rw [if_pos c57] | rw [if_neg c57] | skip); (first | rw [if_pos c58] | rw [if_neg c58] | skip); (first | rw [if_pos c59] | rw [if_neg c59] | skip); (first | rw [if_pos c66] | rw [if_neg c66] | skip); (first | rw [if_pos c68] | rw [if_neg c68] | skip); try with_reducible rfl)
          · refine lv_if_eq (tgt := 78) hx hb dX5_set_65 (by decide) (fun _ => ?_) (fun c71 => absurd c71 (by decide))
            refine lv_ldc (v := (-2000000001)) hx hb hown (hts _ qc_X5_25) dX5_set_78 ?_
            exact g_ir hQ hx hb hr0 hlk hC hI dX5_set_80 rfl (by unfold m_set; (try simp only [hclw0]); (try simp only [hclw0]); (try simp only [hclw0]); (try simp only [hclw0]); (try simp only [hclw0]); (try simp only [hclw0]); (try simp only [hclw0]); (try simp only [hclw0]); (try simp only [hclw0]); (try simp only [hclw0]); (first | rw [if_pos c1] | rw [if_neg c1] | skip); (first | rw [if_pos c57] | rw [if_neg c57] | skip); (first | rw [if_pos c58] | rw [if_neg c58] | skip); (first | rw [if_pos c59] | rw [if_neg c59] | skip); (first | rw [if_pos c66] | rw [if_neg c66] | skip); try with_reducible rfl) rfl (by unfold m_set; (try simp only [hclw0]); (try simp only [hclw0]); (try simp only [hclw0]); (try simp only [hclw0]); (try simp only [hclw0]); (try simp only [hclw0]); (try simp only [hclw0]); (try simp only [hclw0]); (try simp only [hclw0]); (try simp only [hclw0]); (first | rw [if_pos c1] | rw [if_neg c1] | skip); (first | rw [if_pos c57] | rw [if_neg c57] | skip); (first | rw [if_pos c58] | rw [if_neg c58] | skip); (first | rw [if_pos c59] | rw [if_neg c59] | skip); (first | rw [if_pos c66] | rw [if_neg c66] | skip); try with_reducible rfl)
      · refine lv_sipush (v := 150) hx hb dX5_set_39 (by decide) ?_
        refine lv_goto (tgt := 57) hx hb dX5_set_42 (by decide) ?_
        refine lv_istore (lv' := [(4, .int 150), (3, .int 1), (0, .ref (ad 7 0)), (1, .int w), (2, .int v)]) hx hb dX5_set_57 hl (by decide) rfl (fun ls hl => ?_)
        refine lv_iload_n hx hb dX5_set_59 rfl (lv_at hl 3 rfl) ?_
        refine lv_iconst (v := 0) hx hb dX5_set_60 (by decide) ?_
        refine lv_iconst (v := 3) hx hb dX5_set_61 (by decide) ?_
        refine g_callSi (rest := []) (c_X5_in l D tb ad hj P (va_up M 7 (m_begins V)) w 0 3) rfl rfl gm_X5_in hx hb hml hown hts hC hI qm_X5_67 rfl hl.1 rfl ⟨rfl, rfl, by decide, by decide⟩ (Nat.le_of_ble_eq_true rfl) ⟨Nat.zero_le _, Nat.zero_le _⟩ dX5_set_62 (fun H locs hI => ?_)
        refine g_tf (fun c72 => ?_) (fun c72 => ?_)
        · obtain ⟨w0, hw0, rfl⟩ := m_nI (N := 3) c72 rfl
          have hclw0 : (nI w0).toNatClampNeg = w0 := nI_clamp (by omega)
          refine lv_if_eq (tgt := 78) hx hb dX5_set_65 (by decide) (fun c73 => absurd c73 (by decide)) (fun _ => ?_)
          refine lv_iload_n hx hb dX5_set_68 rfl (lv_at hl 4 rfl) ?_
          refine lv_iload_n hx hb dX5_set_69 rfl (lv_at hl 1 rfl) ?_
          refine lv_iload hx hb dX5_set_70 (lv_at hl 0 rfl) ?_
          refine g_callSi (rest := []) (c_X5_in l D tb ad hj P (va_up M 7 (m_begins V)) v 1 150) rfl rfl gm_X5_in hx hb hml hown hts hC hI qm_X5_67 rfl hl.1 rfl ⟨rfl, rfl, by decide, by decide⟩ (Nat.le_of_ble_eq_true rfl) ⟨Nat.zero_le _, Nat.zero_le _⟩ dX5_set_72 (fun H locs hI => ?_)
          refine g_tf (fun c74 => ?_) (fun c74 => ?_)
          · refine lv_if_ne (tgt := 81) hx hb dX5_set_75 (by decide) (fun _ => ?_) (fun c75 => absurd c75 (by decide))
            refine lv_aload_n hx hb dX5_set_81 rfl (lv_at hl 2 rfl) ?_
            refine g_get 0 hx hb hts hown hC hI i_X5 (by decide) (e_x g_us) rfl (by decide) qf_X5_7 rfl rfl dX5_set_82 ?_
            refine lv_bipush (v := 6) hx hb dX5_set_85 (by decide) ?_
            refine lv_iload_n hx hb dX5_set_87 rfl (lv_at hl 3 rfl) ?_
            refine lv_iadd hx hb dX5_set_88 ?_
            refine g_te (nI_add 6 w0) ?_
            refine g_iald (6 + w0) hx hb hC hI (by decide) (e_xs g_us) (vp_in_nI (by omega) (by decide)) (nI_clamp (by omega)) dX5_set_89 ?_
            refine lv_istore (lv' := [(5, .int ((m_begins V) 1 (6 + w0))), (4, .int 150), (3, .int 1), (0, .ref (ad 7 0)), (1, .int (nI w0)), (2, .int v)]) hx hb dX5_set_90 hl (by decide) rfl (fun ls hl => ?_)
            refine lv_aload_n hx hb dX5_set_92 rfl (lv_at hl 3 rfl) ?_
            refine g_get 0 hx hb hts hown hC hI i_X5 (by decide) (e_x g_us) rfl (by decide) qf_X5_7 rfl rfl dX5_set_93 ?_
            refine lv_bipush (v := 6) hx hb dX5_set_96 (by decide) ?_
            refine lv_iload_n hx hb dX5_set_98 rfl (lv_at hl 4 rfl) ?_
            refine lv_iadd hx hb dX5_set_99 ?_
            refine g_te (nI_add 6 w0) ?_
            refine lv_iload_n hx hb dX5_set_100 rfl (lv_at hl 5 rfl) ?_
            refine g_iast (6 + w0) hx hb hC hI (by decide) (e_xs g_us) (vp_in_nI (by omega) (by decide)) (nI_clamp (by omega)) p_xs g_hs dX5_set_101 (fun H locs hI => ?_)
            refine lv_aload_n hx hb dX5_set_102 rfl (lv_at hl 3 rfl) ?_
            refine lv_iload hx hb dX5_set_103 (lv_at hl 0 rfl) ?_
            refine g_callVi (rest := []) (c_X5_acted l D tb ad hj P M (g_w2 (m_begins V) 1 (6 + w0) v) ((m_begins V) 1 (6 + w0)) sn ⟨by rw [w2_c (by decide), m_begins_c (by decide)]; exact hs.1, hs.2⟩) rfl rfl gm_X5_acted hx hb hml hown hts hC hI (by decide) (e_x g_us) rfl rfl qm_X5_113 rfl hl.1 rfl ⟨rfl, rfl, by decide, by decide⟩ (Nat.le_of_ble_eq_true rfl) ⟨Nat.zero_le _, Nat.zero_le _⟩ dX5_set_105 (fun H locs hI => ?_)
            exact g_ir hQ hx hb hr0 hlk hC hI dX5_set_108 rfl (by unfold m_set; (try simp only [hclw0]); (try simp only [hclw0]); (try simp only [hclw0]); (try simp only [hclw0]); (try simp only [hclw0]); (try simp only [hclw0]); (try simp only [hclw0]); (try simp only [hclw0]); (try simp only [hclw0]); (try simp only [hclw0]); (try simp only [hclw0]); (first | rw [if_pos c1] | rw [if_neg c1] | skip); (first | rw [if_pos c57] | rw [if_neg c57] | skip); (first | rw [if_pos c58] | rw [if_neg c58] | skip); (first | rw [if_pos c72] | rw [if_neg c72] | skip); (first | rw [if_pos c74] | rw [if_neg c74] | skip); try with_reducible rfl) rfl (by unfold m_set; (try simp only [hclw0]); (try simp only [hclw0]); (try simp only [hclw0]); (try simp only [hclw0]); (try simp only [hclw0]); (try simp only [hclw0]); (try simp only [hclw0]); (try simp only [hclw0]); (try simp only [hclw0]); (try simp only [hclw0]); (try simp only [hclw0]); (first | rw [if_pos c1] | rw [if_neg c1] | skip); (first | rw [if_pos c57] | rw [if_neg c57] | skip); (first | rw [if_pos c58] | rw [if_neg c58] | skip); (first | rw [if_pos c72] | rw [if_neg c72] | skip); (first | rw [if_pos c74] | rw [if_neg c74] | skip); try with_reducible rfl)
          · refine lv_if_ne (tgt := 81) hx hb dX5_set_75 (by decide) (fun c76 => absurd c76 (by decide)) (fun _ => ?_)
            refine lv_ldc (v := (-2000000001)) hx hb hown (hts _ qc_X5_25) dX5_set_78 ?_
            exact g_ir hQ hx hb hr0 hlk hC hI dX5_set_80 rfl (by unfold m_set; (try simp only [hclw0]); (try simp only [hclw0]); (try simp only [hclw0]); (try simp only [hclw0]); (try simp only [hclw0]); (try simp only [hclw0]); (try simp only [hclw0]); (try simp only [hclw0]); (try simp only [hclw0]); (try simp only [hclw0]); (try simp only [hclw0]); (first | rw [if_pos c1] | rw [if_neg c1] | skip); (first | rw [if_pos c57] | rw [if_neg c57] | skip); (first | rw [if_pos c58] | rw [if_neg c58] | skip); (first | rw [if_pos c72] | rw [if_neg c72] | skip); (first | rw [if_pos c74] | rw [if_neg c74] | skip); try with_reducible rfl) rfl (by unfold m_set; (try simp only [hclw0]); (try simp only [hclw0]); (try simp only [hclw0]); (try simp only [hclw0]); (try simp only [hclw0]); (try simp only [hclw0]); (try simp only [hclw0]); (try simp only [hclw0]); (try simp only [hclw0]); (try simp only [hclw0]); (try simp only [hclw0]); (first | rw [if_pos c1] | rw [if_neg c1] | skip); (first | rw [if_pos c57] | rw [if_neg c57] | skip); (first | rw [if_pos c58] | rw [if_neg c58] | skip); (first | rw [if_pos c72] | rw [if_neg c72] | skip); (first | rw [if_pos c74] | rw [if_neg c74] | skip); try with_reducible rfl)
        · refine lv_if_eq (tgt := 78) hx hb dX5_set_65 (by decide) (fun _ => ?_) (fun c77 => absurd c77 (by decide))
          refine lv_ldc (v := (-2000000001)) hx hb hown (hts _ qc_X5_25) dX5_set_78 ?_
          exact g_ir hQ hx hb hr0 hlk hC hI dX5_set_80 rfl (by unfold m_set; (try simp only [hclw0]); (try simp only [hclw0]); (try simp only [hclw0]); (try simp only [hclw0]); (try simp only [hclw0]); (try simp only [hclw0]); (try simp only [hclw0]); (try simp only [hclw0]); (try simp only [hclw0]); (try simp only [hclw0]); (try simp only [hclw0]); (first | rw [if_pos c1] | rw [if_neg c1] | skip); (first | rw [if_pos c57] | rw [if_neg c57] | skip); (first | rw [if_pos c58] | rw [if_neg c58] | skip); (first | rw [if_pos c72] | rw [if_neg c72] | skip); try with_reducible rfl) rfl (by unfold m_set; (try simp only [hclw0]); (try simp only [hclw0]); (try simp only [hclw0]); (try simp only [hclw0]); (try simp only [hclw0]); (try simp only [hclw0]); (try simp only [hclw0]); (try simp only [hclw0]); (try simp only [hclw0]); (try simp only [hclw0]); (try simp only [hclw0]); (first | rw [if_pos c1] | rw [if_neg c1] | skip); (first | rw [if_pos c57] | rw [if_neg c57] | skip); (first | rw [if_pos c58] | rw [if_neg c58] | skip); (first | rw [if_pos c72] | rw [if_neg c72] | skip); try with_reducible rfl)
    · refine lv_bipush (v := 100) hx hb dX5_set_29 (by decide) ?_
      refine lv_goto (tgt := 57) hx hb dX5_set_31 (by decide) ?_
      refine lv_istore (lv' := [(4, .int 100), (3, .int 1), (0, .ref (ad 7 0)), (1, .int w), (2, .int v)]) hx hb dX5_set_57 hl (by decide) rfl (fun ls hl => ?_)
      refine lv_iload_n hx hb dX5_set_59 rfl (lv_at hl 3 rfl) ?_
      refine lv_iconst (v := 0) hx hb dX5_set_60 (by decide) ?_
      refine lv_iconst (v := 3) hx hb dX5_set_61 (by decide) ?_
      refine g_callSi (rest := []) (c_X5_in l D tb ad hj P (va_up M 7 (m_begins V)) w 0 3) rfl rfl gm_X5_in hx hb hml hown hts hC hI qm_X5_67 rfl hl.1 rfl ⟨rfl, rfl, by decide, by decide⟩ (Nat.le_of_ble_eq_true rfl) ⟨Nat.zero_le _, Nat.zero_le _⟩ dX5_set_62 (fun H locs hI => ?_)
      refine g_tf (fun c78 => ?_) (fun c78 => ?_)
      · obtain ⟨w0, hw0, rfl⟩ := m_nI (N := 3) c78 rfl
        have hclw0 : (nI w0).toNatClampNeg = w0 := nI_clamp (by omega)
        refine lv_if_eq (tgt := 78) hx hb dX5_set_65 (by decide) (fun c79 => absurd c79 (by decide)) (fun _ => ?_)
        refine lv_iload_n hx hb dX5_set_68 rfl (lv_at hl 4 rfl) ?_
        refine lv_iload_n hx hb dX5_set_69 rfl (lv_at hl 1 rfl) ?_
        refine lv_iload hx hb dX5_set_70 (lv_at hl 0 rfl) ?_
        refine g_callSi (rest := []) (c_X5_in l D tb ad hj P (va_up M 7 (m_begins V)) v 1 100) rfl rfl gm_X5_in hx hb hml hown hts hC hI qm_X5_67 rfl hl.1 rfl ⟨rfl, rfl, by decide, by decide⟩ (Nat.le_of_ble_eq_true rfl) ⟨Nat.zero_le _, Nat.zero_le _⟩ dX5_set_72 (fun H locs hI => ?_)
        refine g_tf (fun c80 => ?_) (fun c80 => ?_)
        · refine lv_if_ne (tgt := 81) hx hb dX5_set_75 (by decide) (fun _ => ?_) (fun c81 => absurd c81 (by decide))
          refine lv_aload_n hx hb dX5_set_81 rfl (lv_at hl 2 rfl) ?_
          refine g_get 0 hx hb hts hown hC hI i_X5 (by decide) (e_x g_us) rfl (by decide) qf_X5_7 rfl rfl dX5_set_82 ?_
          refine lv_bipush (v := 6) hx hb dX5_set_85 (by decide) ?_
          refine lv_iload_n hx hb dX5_set_87 rfl (lv_at hl 3 rfl) ?_
          refine lv_iadd hx hb dX5_set_88 ?_
          refine g_te (nI_add 6 w0) ?_
          refine g_iald (6 + w0) hx hb hC hI (by decide) (e_xs g_us) (vp_in_nI (by omega) (by decide)) (nI_clamp (by omega)) dX5_set_89 ?_
          refine lv_istore (lv' := [(5, .int ((m_begins V) 1 (6 + w0))), (4, .int 100), (3, .int 1), (0, .ref (ad 7 0)), (1, .int (nI w0)), (2, .int v)]) hx hb dX5_set_90 hl (by decide) rfl (fun ls hl => ?_)
          refine lv_aload_n hx hb dX5_set_92 rfl (lv_at hl 3 rfl) ?_
          refine g_get 0 hx hb hts hown hC hI i_X5 (by decide) (e_x g_us) rfl (by decide) qf_X5_7 rfl rfl dX5_set_93 ?_
          refine lv_bipush (v := 6) hx hb dX5_set_96 (by decide) ?_
          refine lv_iload_n hx hb dX5_set_98 rfl (lv_at hl 4 rfl) ?_
          refine lv_iadd hx hb dX5_set_99 ?_
          refine g_te (nI_add 6 w0) ?_
          refine lv_iload_n hx hb dX5_set_100 rfl (lv_at hl 5 rfl) ?_
          refine g_iast (6 + w0) hx hb hC hI (by decide) (e_xs g_us) (vp_in_nI (by omega) (by decide)) (nI_clamp (by omega)) p_xs g_hs dX5_set_101 (fun H locs hI => ?_)
          refine lv_aload_n hx hb dX5_set_102 rfl (lv_at hl 3 rfl) ?_
          refine lv_iload hx hb dX5_set_103 (lv_at hl 0 rfl) ?_
          refine g_callVi (rest := []) (c_X5_acted l D tb ad hj P M (g_w2 (m_begins V) 1 (6 + w0) v) ((m_begins V) 1 (6 + w0)) sn ⟨by rw [w2_c (by decide), m_begins_c (by decide)]; exact hs.1, hs.2⟩) rfl rfl gm_X5_acted hx hb hml hown hts hC hI (by decide) (e_x g_us) rfl rfl qm_X5_113 rfl hl.1 rfl ⟨rfl, rfl, by decide, by decide⟩ (Nat.le_of_ble_eq_true rfl) ⟨Nat.zero_le _, Nat.zero_le _⟩ dX5_set_105 (fun H locs hI => ?_)
          exact g_ir hQ hx hb hr0 hlk hC hI dX5_set_108 rfl (by unfold m_set; (try simp only [hclw0]); (try simp only [hclw0]); (try simp only [hclw0]); (try simp only [hclw0]); (try simp only [hclw0]); (try simp only [hclw0]); (try simp only [hclw0]); (try simp only [hclw0]); (try simp only [hclw0]); (try simp only [hclw0]); (try simp only [hclw0]); (try simp only [hclw0]); (first | rw [if_pos c1] | rw [if_neg c1] | skip); (first | rw [if_pos c57] | rw [if_neg c57] | skip); (first | rw [if_pos c78] | rw [if_neg c78] | skip); (first | rw [if_pos c80] | rw [if_neg c80] | skip); try with_reducible rfl) rfl (by unfold m_set; (try simp only [hclw0]); (try simp only [hclw0]); (try simp only [hclw0]); (try simp only [hclw0]); (try simp only [hclw0]); (try simp only [hclw0]); (try simp only [hclw0]); (try simp only [hclw0]); (try simp only [hclw0]); (try simp only [hclw0]); (try simp only [hclw0]); (try simp only [hclw0]); (first | rw [if_pos c1] | rw [if_neg c1] | skip); (first | rw [if_pos c57] | rw [if_neg c57] | skip); (first | rw [if_pos c78] | rw [if_neg c78] | skip); (first | rw [if_pos c80] | rw [if_neg c80] | skip); try with_reducible rfl)
        · refine lv_if_ne (tgt := 81) hx hb dX5_set_75 (by decide) (fun c82 => absurd c82 (by decide)) (fun _ => ?_)
          refine lv_ldc (v := (-2000000001)) hx hb hown (hts _ qc_X5_25) dX5_set_78 ?_
          exact g_ir hQ hx hb hr0 hlk hC hI dX5_set_80 rfl (by unfold m_set; (try simp only [hclw0]); (try simp only [hclw0]); (try simp only [hclw0]); (try simp only [hclw0]); (try simp only [hclw0]); (try simp only [hclw0]); (try simp only [hclw0]); (try simp only [hclw0]); (try simp only [hclw0]); (try simp only [hclw0]); (try simp only [hclw0]); (try simp only [hclw0]); (first | rw [if_pos c1] | rw [if_neg c1] | skip); (first | rw [if_pos c57] | rw [if_neg c57] | skip); (first | rw [if_pos c78] | rw [if_neg c78] | skip); (first | rw [if_pos c80] | rw [if_neg c80] | skip); try with_reducible rfl) rfl (by unfold m_set; (try simp only [hclw0]); (try simp only [hclw0]); (try simp only [hclw0]); (try simp only [hclw0]); (try simp only [hclw0]); (try simp only [hclw0]); (try simp only [hclw0]); (try simp only [hclw0]); (try simp only [hclw0]); (try simp only [hclw0]); (try simp only [hclw0]); (try simp only [hclw0]); (first | rw [if_pos c1] | rw [if_neg c1] | skip); (first | rw [if_pos c57] | rw [if_neg c57] | skip); (first | rw [if_pos c78] | rw [if_neg c78] | skip); (first | rw [if_pos c80] | rw [if_neg c80] | skip); try with_reducible rfl)
      · refine lv_if_eq (tgt := 78) hx hb dX5_set_65 (by decide) (fun _ => ?_) (fun c83 => absurd c83 (by decide))
        refine lv_ldc (v := (-2000000001)) hx hb hown (hts _ qc_X5_25) dX5_set_78 ?_
        exact g_ir hQ hx hb hr0 hlk hC hI dX5_set_80 rfl (by unfold m_set; (try simp only [hclw0]); (try simp only [hclw0]); (try simp only [hclw0]); (try simp only [hclw0]); (try simp only [hclw0]); (try simp only [hclw0]); (try simp only [hclw0]); (try simp only [hclw0]); (try simp only [hclw0]); (try simp only [hclw0]); (try simp only [hclw0]); (try simp only [hclw0]); (first | rw [if_pos c1] | rw [if_neg c1] | skip); (first | rw [if_pos c57] | rw [if_neg c57] | skip); (first | rw [if_pos c78] | rw [if_neg c78] | skip); try with_reducible rfl) rfl (by unfold m_set; (try simp only [hclw0]); (try simp only [hclw0]); (try simp only [hclw0]); (try simp only [hclw0]); (try simp only [hclw0]); (try simp only [hclw0]); (try simp only [hclw0]); (try simp only [hclw0]); (try simp only [hclw0]); (try simp only [hclw0]); (try simp only [hclw0]); (try simp only [hclw0]); (first | rw [if_pos c1] | rw [if_neg c1] | skip); (first | rw [if_pos c57] | rw [if_neg c57] | skip); (first | rw [if_pos c78] | rw [if_neg c78] | skip); try with_reducible rfl)
def m_receipt (V : g_V) (x : Int32) (n : Nat) : Int32 :=
  if 0 ≤ x then (if (nI n) ≤ x then (-2000000004) else (V 1 (34 + 7 * (x.toNatClampNeg) + 0))) else (-2000000001)
abbrev rm_X5_receipt : Room := { frames := 1, cells := 0, slots := 0, locals := 22 }
set_option maxHeartbeats 800000 in
set_option maxRecDepth 100000 in
theorem c_X5_receipt (l : Launch) (D : va_G) (tb : g_T) (ad : g_Ad) (hj : g_inj ad) (P : g_P) (M : g_M) (V : g_V) (x : Int32) (n : Nat) (hn : m_N V n) : g_Ci l yX5_receipt cX5_receipt 2 (some .int) rm_X5_receipt D tb ad [.ref (ad 7 0), .int x] P (va_up M 7 V) (m_receipt V x n) P (va_up M 7 V) := by
  refine g_go (by decide) (Nat.le_of_ble_eq_true rfl) hj ?_
  intro p e s m below meth c ls H locs R args Q hR0 hQ hx hb hml hr0 hlk hown hts hC hI hl
  subst hR0
  have hown : s.vm.findClass RX5 = some m.cls := hown
  have hl : lv_has ls 2 [(0, .ref (ad 7 0)), (1, .int x)] := hl
  refine lv_iload_n hx hb dX5_receipt_0 rfl (lv_at hl 1 rfl) ?_
  refine lv_if_ge (tgt := 7) hx hb dX5_receipt_1 (by decide) (fun c1 => ?_) (fun c1 => ?_)
  · refine lv_iload_n hx hb dX5_receipt_7 rfl (lv_at hl 1 rfl) ?_
    refine lv_aload_n hx hb dX5_receipt_8 rfl (lv_at hl 0 rfl) ?_
    refine g_get 0 hx hb hts hown hC hI i_X5 (by decide) (e_x g_us) rfl (by decide) qf_X5_7 rfl rfl dX5_receipt_9 ?_
    refine lv_iconst (v := 0) hx hb dX5_receipt_12 (by decide) ?_
    refine g_iald 0 hx hb hC hI (by decide) (e_xs g_us) (by unfold vp_in; decide) rfl dX5_receipt_13 ?_
    refine g_te (y := (nI n)) hn.1 ?_
    refine lv_icmp_ge (tgt := 26) hx hb dX5_receipt_14 (by decide) (fun c2 => ?_) (fun c2 => ?_)
    · refine lv_ldc (v := (-2000000004)) hx hb hown (hts _ qc_X5_150) dX5_receipt_26 ?_
      exact g_ir hQ hx hb hr0 hlk hC hI dX5_receipt_28 rfl (by unfold m_receipt; skip; (first | rw [if_pos c1] | rw [if_neg c1] | skip); (first | rw [if_pos c2] | rw [if_neg c2] | skip); try with_reducible rfl) rfl rfl
    · obtain ⟨x1, hx1, rfl⟩ := k_nIlt (n := n) c1 c2 (by have := hn.2; omega)
      have hclx1 : (nI x1).toNatClampNeg = x1 := nI_clamp (by have := hn.2; omega)
      refine lv_aload_n hx hb dX5_receipt_17 rfl (lv_at hl 0 rfl) ?_
      refine lv_iload_n hx hb dX5_receipt_18 rfl (lv_at hl 1 rfl) ?_
      refine lv_iconst (v := 0) hx hb dX5_receipt_19 (by decide) ?_
      refine g_callVi (rest := []) (c_X5_of l D tb ad hj P M V x1 0 (by first | assumption | omega) (by first | assumption | omega)) rfl rfl gm_X5_of hx hb hml hown hts hC hI (by decide) (e_x g_us) rfl rfl qm_X5_33 rfl hl.1 rfl ⟨rfl, rfl, by decide, by decide⟩ (Nat.le_of_ble_eq_true rfl) ⟨Nat.zero_le _, Nat.zero_le _⟩ dX5_receipt_20 (fun H locs hI => ?_)
      refine lv_goto (tgt := 28) hx hb dX5_receipt_23 (by decide) ?_
      exact g_ir hQ hx hb hr0 hlk hC hI dX5_receipt_28 rfl (by unfold m_receipt; (try simp only [hclx1]); (first | rw [if_pos c1] | rw [if_neg c1] | skip); (first | rw [if_pos c2] | rw [if_neg c2] | skip); try with_reducible rfl) rfl rfl
  · refine lv_ldc (v := (-2000000001)) hx hb hown (hts _ qc_X5_25) dX5_receipt_4 ?_
    exact g_ir hQ hx hb hr0 hlk hC hI dX5_receipt_6 rfl (by unfold m_receipt; (try simp only [hclx1]); (first | rw [if_pos c1] | rw [if_neg c1] | skip); try with_reducible rfl) rfl rfl
abbrev rm_X5_couldLose : Room := { frames := 3, cells := 0, slots := 0, locals := 68 }
set_option maxHeartbeats 800000 in
set_option maxRecDepth 100000 in
theorem c_X5_couldLose (l : Launch) (D : va_G) (tb : g_T) (ad : g_Ad) (hj : g_inj ad) (P : g_P) (M : g_M) (V : g_V) (b : Nat) (n : Nat) (hn : m_N V n) (hb5 : b < 5) (g0 : Nat) (hg0 : g0 < 3) (hg : V 1 (24 + 2 * b) = nI g0) : g_Ci l yX5_couldLose cX5_couldLose 4 (some .int) rm_X5_couldLose D tb ad [.ref (ad 7 0), .int (nI b)] P (va_up M 7 V) (m_lossN V n b g0 3) P (va_up M 7 V) := by
  refine g_go (by decide) (Nat.le_of_ble_eq_true rfl) hj ?_
  intro p e s m below meth c ls H locs R args Q hR0 hQ hx hb hml hr0 hlk hown hts hC hI hl
  subst hR0
  have hown : s.vm.findClass RX5 = some m.cls := hown
  have hl : lv_has ls 4 [(0, .ref (ad 7 0)), (1, .int (nI b))] := hl
  refine lv_aload_n hx hb dX5_couldLose_0 rfl (lv_at hl 0 rfl) ?_
  refine lv_iload_n hx hb dX5_couldLose_1 rfl (lv_at hl 1 rfl) ?_
  refine g_callVi (rest := []) (c_X5_amount l D tb ad hj P M V b (by first | assumption | omega)) rfl rfl gm_X5_amount hx hb hml hown hts hC hI (by decide) (e_x g_us) rfl rfl qm_X5_55 rfl hl.1 rfl ⟨rfl, rfl, by decide, by decide⟩ (Nat.le_of_ble_eq_true rfl) ⟨Nat.zero_le _, Nat.zero_le _⟩ dX5_couldLose_2 (fun H locs hI => ?_)
  refine lv_istore_n (lv' := [(2, .int (V 1 (24 + 2 * b + 1))), (0, .ref (ad 7 0)), (1, .int (nI b))]) hx hb dX5_couldLose_5 rfl hl (by decide) rfl (fun ls hl => ?_)
  refine lv_aload_n hx hb dX5_couldLose_6 rfl (lv_at hl 1 rfl) ?_
  refine lv_iload_n hx hb dX5_couldLose_7 rfl (lv_at hl 2 rfl) ?_
  refine g_callVi (rest := []) (c_X5_grade l D tb ad hj P M V b (by first | assumption | omega)) rfl rfl gm_X5_grade hx hb hml hown hts hC hI (by decide) (e_x g_us) rfl rfl qm_X5_52 rfl hl.1 rfl ⟨rfl, rfl, by decide, by decide⟩ (Nat.le_of_ble_eq_true rfl) ⟨Nat.zero_le _, Nat.zero_le _⟩ dX5_couldLose_8 (fun H locs hI => ?_)
  refine g_te (y := (nI g0)) hg ?_
  refine lv_istore_n (lv' := [(3, .int (nI g0)), (2, .int (V 1 (24 + 2 * b + 1))), (0, .ref (ad 7 0)), (1, .int (nI b))]) hx hb dX5_couldLose_11 rfl hl (by decide) rfl (fun ls hl => ?_)
  have lp12 : ∀ (d k : Nat) (y : Int32), g0 ≤ k ∧ k ≤ 3 → 3 < k + d → y = m_lossN V n b g0 k → ∀ (H : Heap) (locs : List Loc) (ls : Array Slot), g_I D tb ad (g_A ad) s H locs P (va_up M 7 V) → lv_has ls 4 [(3, .int (nI k)), (2, .int y), (0, .ref (ad 7 0)), (1, .int (nI b))] → W p l e rm_X5_couldLose s m args below meth c H locs 0 0 Q (F0 m 12 ls []) := by
    intro d
    induction d with
    | zero => intro k y hkp hfu; intros; omega
    | succ d ih12 =>
      intro k y hkp hfu e_y H locs ls hI hl
      refine lv_iload_n hx hb dX5_couldLose_12 rfl (lv_at hl 0 rfl) ?_
      refine lv_iconst (v := 3) hx hb dX5_couldLose_13 (by decide) ?_
      refine lv_icmp_ge (tgt := 42) hx hb dX5_couldLose_14 (by decide) (fun c1 => ?_) (fun c1 => ?_)
      · have c1n : 3 ≤ k := (nI_leI (a := 3) (b := k) (by omega) (by omega)).mp c1
        refine lv_iload_n hx hb dX5_couldLose_42 rfl (lv_at hl 1 rfl) ?_
        exact g_ir hQ hx hb hr0 hlk hC hI dX5_couldLose_43 rfl (by rw [e_y, show k = 3 from by omega]) rfl rfl
      · have c1n : ¬ 3 ≤ k := fun z => c1 ((nI_leI (a := 3) (b := k) (by omega) (by omega)).mpr z)
        refine lv_aload_n hx hb dX5_couldLose_17 rfl (lv_at hl 2 rfl) ?_
        refine lv_iload_n hx hb dX5_couldLose_18 rfl (lv_at hl 0 rfl) ?_
        refine g_callVi (rest := []) (c_X5_surplus l D tb ad hj P M V k n (by first | assumption | omega) (by first | assumption | omega)) rfl rfl gm_X5_surplus hx hb hml hown hts hC hI (by decide) (e_x g_us) rfl rfl qm_X5_64 rfl hl.1 rfl ⟨rfl, rfl, by decide, by decide⟩ (Nat.le_of_ble_eq_true rfl) ⟨Nat.zero_le _, Nat.zero_le _⟩ dX5_couldLose_19 (fun H locs hI => ?_)
        refine lv_iload_n hx hb dX5_couldLose_22 rfl (lv_at hl 1 rfl) ?_
        refine lv_icmp_ge (tgt := 34) hx hb dX5_couldLose_23 (by decide) (fun c2 => ?_) (fun c2 => ?_)
        · refine lv_iload_n hx hb dX5_couldLose_34 rfl (lv_at hl 1 rfl) ?_
          refine lv_istore_n (lv' := [(2, .int y), (3, .int (nI k)), (0, .ref (ad 7 0)), (1, .int (nI b))]) hx hb dX5_couldLose_35 rfl hl (by decide) rfl (fun ls hl => ?_)
          refine lv_iinc (v := nI (k + 1)) (lv' := [(3, .int (nI (k + 1))), (2, .int y), (0, .ref (ad 7 0)), (1, .int (nI b))]) hx hb dX5_couldLose_36 hl (k := 1) rfl (nI_1 _) (by decide) rfl (fun ls hl => ?_)
          refine lv_goto (tgt := 12) hx hb dX5_couldLose_39 (by decide) ?_
          exact ih12 (k + 1) _ (by omega) (by omega) (by unfold m_lossN; rw [show k + 1 - g0 = (k - g0) + 1 from by omega, k_iter, show g0 + (k - g0) = k from by omega]; unfold m_lossN at e_y; rw [← e_y]; (first | rw [if_pos c1] | rw [if_neg c1] | skip); (first | rw [if_pos c2] | rw [if_neg c2] | skip))  _ _ _ hI (lv_sub hl [0, 1, 2, 3] rfl)
        · refine lv_aload_n hx hb dX5_couldLose_26 rfl (lv_at hl 2 rfl) ?_
          refine lv_iload_n hx hb dX5_couldLose_27 rfl (lv_at hl 0 rfl) ?_
          refine g_callVi (rest := []) (c_X5_surplus l D tb ad hj P M V k n (by first | assumption | omega) (by first | assumption | omega)) rfl rfl gm_X5_surplus hx hb hml hown hts hC hI (by decide) (e_x g_us) rfl rfl qm_X5_64 rfl hl.1 rfl ⟨rfl, rfl, by decide, by decide⟩ (Nat.le_of_ble_eq_true rfl) ⟨Nat.zero_le _, Nat.zero_le _⟩ dX5_couldLose_28 (fun H locs hI => ?_)
          refine lv_goto (tgt := 35) hx hb dX5_couldLose_31 (by decide) ?_
          refine lv_istore_n (lv' := [(2, .int (m_surplus V n k)), (3, .int (nI k)), (0, .ref (ad 7 0)), (1, .int (nI b))]) hx hb dX5_couldLose_35 rfl hl (by decide) rfl (fun ls hl => ?_)
          refine lv_iinc (v := nI (k + 1)) (lv' := [(3, .int (nI (k + 1))), (2, .int (m_surplus V n k)), (0, .ref (ad 7 0)), (1, .int (nI b))]) hx hb dX5_couldLose_36 hl (k := 1) rfl (nI_1 _) (by decide) rfl (fun ls hl => ?_)
          refine lv_goto (tgt := 12) hx hb dX5_couldLose_39 (by decide) ?_
          exact ih12 (k + 1) _ (by omega) (by omega) (by unfold m_lossN; rw [show k + 1 - g0 = (k - g0) + 1 from by omega, k_iter, show g0 + (k - g0) = k from by omega]; unfold m_lossN at e_y; rw [← e_y]; (first | rw [if_pos c1] | rw [if_neg c1] | skip); (first | rw [if_pos c2] | rw [if_neg c2] | skip))  _ _ _ hI (lv_sub hl [0, 1, 2, 3] rfl)
  exact lp12 (3 + 1) g0 _ (by omega) (by omega) (by unfold m_lossN; rw [Nat.sub_self]; rfl)  _ _ _ hI (lv_sub hl [0, 1, 2, 3] rfl)
def m_binOf (V : g_V) (bn : Int32) (w : Int32) (n : Nat) : Int32 :=
  if m_in bn 0 4 then (if m_in w 0 2 then (if (w) = 2 then (m_lossN V n (bn.toNatClampNeg) ((V 1 (24 + 2 * (bn.toNatClampNeg))).toNatClampNeg) 3) else (V 1 (24 + (2 * (bn.toNatClampNeg)) + (w.toNatClampNeg)))) else (-2000000001)) else (-2000000001)
abbrev rm_X5_binOf : Room := { frames := 4, cells := 0, slots := 0, locals := 91 }
set_option maxHeartbeats 800000 in
set_option maxRecDepth 100000 in
theorem c_X5_binOf (l : Launch) (D : va_G) (tb : g_T) (ad : g_Ad) (hj : g_inj ad) (P : g_P) (M : g_M) (V : g_V) (bn : Int32) (w : Int32) (n : Nat) (hn : m_N V n) (hG : m_okG V) : g_Ci l yX5_binOf cX5_binOf 3 (some .int) rm_X5_binOf D tb ad [.ref (ad 7 0), .int bn, .int w] P (va_up M 7 V) (m_binOf V bn w n) P (va_up M 7 V) := by
  refine g_go (by decide) (Nat.le_of_ble_eq_true rfl) hj ?_
  intro p e s m below meth c ls H locs R args Q hR0 hQ hx hb hml hr0 hlk hown hts hC hI hl
  subst hR0
  have hown : s.vm.findClass RX5 = some m.cls := hown
  have hl : lv_has ls 3 [(0, .ref (ad 7 0)), (1, .int bn), (2, .int w)] := hl
  refine lv_iload_n hx hb dX5_binOf_0 rfl (lv_at hl 1 rfl) ?_
  refine lv_iconst (v := 0) hx hb dX5_binOf_1 (by decide) ?_
  refine lv_iconst (v := 4) hx hb dX5_binOf_2 (by decide) ?_
  refine g_callSi (rest := []) (c_X5_in l D tb ad hj P (va_up M 7 V) bn 0 4) rfl rfl gm_X5_in hx hb hml hown hts hC hI qm_X5_67 rfl hl.1 rfl ⟨rfl, rfl, by decide, by decide⟩ (Nat.le_of_ble_eq_true rfl) ⟨Nat.zero_le _, Nat.zero_le _⟩ dX5_binOf_3 (fun H locs hI => ?_)
  refine g_tf (fun c1 => ?_) (fun c1 => ?_)
  · obtain ⟨b0, hb0, rfl⟩ := m_nI (N := 4) c1 rfl
    have hclb0 : (nI b0).toNatClampNeg = b0 := nI_clamp (by omega)
    refine lv_if_eq (tgt := 18) hx hb dX5_binOf_6 (by decide) (fun c2 => absurd c2 (by decide)) (fun _ => ?_)
    refine lv_iload_n hx hb dX5_binOf_9 rfl (lv_at hl 2 rfl) ?_
    refine lv_iconst (v := 0) hx hb dX5_binOf_10 (by decide) ?_
    refine lv_iconst (v := 2) hx hb dX5_binOf_11 (by decide) ?_
    refine g_callSi (rest := []) (c_X5_in l D tb ad hj P (va_up M 7 V) w 0 2) rfl rfl gm_X5_in hx hb hml hown hts hC hI qm_X5_67 rfl hl.1 rfl ⟨rfl, rfl, by decide, by decide⟩ (Nat.le_of_ble_eq_true rfl) ⟨Nat.zero_le _, Nat.zero_le _⟩ dX5_binOf_12 (fun H locs hI => ?_)
    refine g_tf (fun c3 => ?_) (fun c3 => ?_)
    · obtain ⟨w0, hw0, rfl⟩ := m_nI (N := 2) c3 rfl
      have hclw0 : (nI w0).toNatClampNeg = w0 := nI_clamp (by omega)
      refine lv_if_ne (tgt := 21) hx hb dX5_binOf_15 (by decide) (fun _ => ?_) (fun c4 => absurd c4 (by decide))
      refine lv_iload_n hx hb dX5_binOf_21 rfl (lv_at hl 2 rfl) ?_
      refine lv_iconst (v := 2) hx hb dX5_binOf_22 (by decide) ?_
      refine lv_icmp_ne (tgt := 34) hx hb dX5_binOf_23 (by decide) (fun c5 => ?_) (fun c5 => ?_)
      · have c5n : ¬ w0 = 2 := fun z => c5 ((nI_eq (a := w0) (b := 2) (by omega) (by omega)).mpr z)
        refine lv_aload_n hx hb dX5_binOf_34 rfl (lv_at hl 0 rfl) ?_
        refine g_get 0 hx hb hts hown hC hI i_X5 (by decide) (e_x g_us) rfl (by decide) qf_X5_7 rfl rfl dX5_binOf_35 ?_
        refine lv_bipush (v := 24) hx hb dX5_binOf_38 (by decide) ?_
        refine lv_iconst (v := 2) hx hb dX5_binOf_40 (by decide) ?_
        refine lv_iload_n hx hb dX5_binOf_41 rfl (lv_at hl 1 rfl) ?_
        refine lv_imul hx hb dX5_binOf_42 ?_
        refine g_te (pk_mul 2 b0) ?_
        refine lv_iadd hx hb dX5_binOf_43 ?_
        refine g_te (nI_add 24 (2 * b0)) ?_
        refine lv_iload_n hx hb dX5_binOf_44 rfl (lv_at hl 2 rfl) ?_
        refine lv_iadd hx hb dX5_binOf_45 ?_
        refine g_te (nI_add (24 + (2 * b0)) w0) ?_
        refine g_iald (24 + (2 * b0) + w0) hx hb hC hI (by decide) (e_xs g_us) (vp_in_nI (by omega) (by decide)) (nI_clamp (by omega)) dX5_binOf_46 ?_
        exact g_ir hQ hx hb hr0 hlk hC hI dX5_binOf_47 rfl (by unfold m_binOf; (try simp only [hclb0]); (try simp only [hclw0]); (try simp only [hclg]); (first | rw [if_pos c1] | rw [if_neg c1] | skip); (first | rw [if_pos c3] | rw [if_neg c3] | skip); (first | rw [if_pos c5] | rw [if_neg c5] | skip); try with_reducible rfl) rfl rfl
      · have c5n : w0 = 2 := (nI_eq (a := w0) (b := 2) (by omega) (by omega)).mp c5
        obtain ⟨g0, hg0, hg⟩ := hG b0 (by omega)
        have hclg : (V 1 (24 + 2 * b0)).toNatClampNeg = g0 := by rw [hg]; exact nI_clamp (by omega)
        refine lv_aload_n hx hb dX5_binOf_26 rfl (lv_at hl 0 rfl) ?_
        refine lv_iload_n hx hb dX5_binOf_27 rfl (lv_at hl 1 rfl) ?_
        refine g_callVi (rest := []) (c_X5_couldLose l D tb ad hj P M V b0 n (by first | assumption | omega) (by first | assumption | omega) g0 hg0 hg) rfl rfl gm_X5_couldLose hx hb hml hown hts hC hI (by decide) (e_x g_us) rfl rfl qm_X5_154 rfl hl.1 rfl ⟨rfl, rfl, by decide, by decide⟩ (Nat.le_of_ble_eq_true rfl) ⟨Nat.zero_le _, Nat.zero_le _⟩ dX5_binOf_28 (fun H locs hI => ?_)
        refine lv_goto (tgt := 47) hx hb dX5_binOf_31 (by decide) ?_
        exact g_ir hQ hx hb hr0 hlk hC hI dX5_binOf_47 rfl (by unfold m_binOf; (try simp only [hclb0]); (try simp only [hclw0]); (try simp only [hclg]); (first | rw [if_pos c1] | rw [if_neg c1] | skip); (first | rw [if_pos c3] | rw [if_neg c3] | skip); (first | rw [if_pos c5] | rw [if_neg c5] | skip); try with_reducible rfl) rfl rfl
    · refine lv_if_ne (tgt := 21) hx hb dX5_binOf_15 (by decide) (fun c6 => absurd c6 (by decide)) (fun _ => ?_)
      refine lv_ldc (v := (-2000000001)) hx hb hown (hts _ qc_X5_25) dX5_binOf_18 ?_
      exact g_ir hQ hx hb hr0 hlk hC hI dX5_binOf_20 rfl (by unfold m_binOf; (try simp only [hclb0]); (try simp only [hclw0]); (try simp only [hclg]); (first | rw [if_pos c1] | rw [if_neg c1] | skip); (first | rw [if_pos c3] | rw [if_neg c3] | skip); try with_reducible rfl) rfl rfl
  · refine lv_if_eq (tgt := 18) hx hb dX5_binOf_6 (by decide) (fun _ => ?_) (fun c7 => absurd c7 (by decide))
    refine lv_ldc (v := (-2000000001)) hx hb hown (hts _ qc_X5_25) dX5_binOf_18 ?_
    exact g_ir hQ hx hb hr0 hlk hC hI dX5_binOf_20 rfl (by unfold m_binOf; (try simp only [hclb0]); (try simp only [hclw0]); (try simp only [hclg]); (first | rw [if_pos c1] | rw [if_neg c1] | skip); try with_reducible rfl) rfl rfl
def m_gradeOf (V : g_V) (g : Int32) (w : Int32) (n : Nat) : Int32 :=
  if m_in g 0 2 then (if m_in w 0 4 then (if w = 0 then (V 1 (10 + (g.toNatClampNeg))) else if w = 1 then (m_inBins V (g)) else if w = 2 then (m_inReceipts V n (g)) else if w = 3 then (m_surplus V n (g.toNatClampNeg)) else (m_room V (g))) else (-2000000001)) else (-2000000001)
abbrev rm_X5_gradeOf : Room := { frames := 3, cells := 0, slots := 0, locals := 68 }
set_option maxHeartbeats 800000 in
set_option maxRecDepth 100000 in
theorem c_X5_gradeOf (l : Launch) (D : va_G) (tb : g_T) (ad : g_Ad) (hj : g_inj ad) (P : g_P) (M : g_M) (V : g_V) (g : Int32) (w : Int32) (n : Nat) (hn : m_N V n) : g_Ci l yX5_gradeOf cX5_gradeOf 3 (some .int) rm_X5_gradeOf D tb ad [.ref (ad 7 0), .int g, .int w] P (va_up M 7 V) (m_gradeOf V g w n) P (va_up M 7 V) := by
  refine g_go (by decide) (Nat.le_of_ble_eq_true rfl) hj ?_
  intro p e s m below meth c ls H locs R args Q hR0 hQ hx hb hml hr0 hlk hown hts hC hI hl
  subst hR0
  have hown : s.vm.findClass RX5 = some m.cls := hown
  have hl : lv_has ls 3 [(0, .ref (ad 7 0)), (1, .int g), (2, .int w)] := hl
  refine lv_iload_n hx hb dX5_gradeOf_0 rfl (lv_at hl 1 rfl) ?_
  refine lv_iconst (v := 0) hx hb dX5_gradeOf_1 (by decide) ?_
  refine lv_iconst (v := 2) hx hb dX5_gradeOf_2 (by decide) ?_
  refine g_callSi (rest := []) (c_X5_in l D tb ad hj P (va_up M 7 V) g 0 2) rfl rfl gm_X5_in hx hb hml hown hts hC hI qm_X5_67 rfl hl.1 rfl ⟨rfl, rfl, by decide, by decide⟩ (Nat.le_of_ble_eq_true rfl) ⟨Nat.zero_le _, Nat.zero_le _⟩ dX5_gradeOf_3 (fun H locs hI => ?_)
  refine g_tf (fun c1 => ?_) (fun c1 => ?_)
  · obtain ⟨g1, hg1, rfl⟩ := m_nI (N := 2) c1 rfl
    have hclg1 : (nI g1).toNatClampNeg = g1 := nI_clamp (by omega)
    refine lv_if_eq (tgt := 18) hx hb dX5_gradeOf_6 (by decide) (fun c2 => absurd c2 (by decide)) (fun _ => ?_)
    refine lv_iload_n hx hb dX5_gradeOf_9 rfl (lv_at hl 2 rfl) ?_
    refine lv_iconst (v := 0) hx hb dX5_gradeOf_10 (by decide) ?_
    refine lv_iconst (v := 4) hx hb dX5_gradeOf_11 (by decide) ?_
    refine g_callSi (rest := []) (c_X5_in l D tb ad hj P (va_up M 7 V) w 0 4) rfl rfl gm_X5_in hx hb hml hown hts hC hI qm_X5_67 rfl hl.1 rfl ⟨rfl, rfl, by decide, by decide⟩ (Nat.le_of_ble_eq_true rfl) ⟨Nat.zero_le _, Nat.zero_le _⟩ dX5_gradeOf_12 (fun H locs hI => ?_)
    refine g_tf (fun c3 => ?_) (fun c3 => ?_)
    · refine lv_if_ne (tgt := 21) hx hb dX5_gradeOf_15 (by decide) (fun _ => ?_) (fun c4 => absurd c4 (by decide))
      refine lv_iload_n hx hb dX5_gradeOf_21 rfl (lv_at hl 2 rfl) ?_
      by_cases c5 : w = 0
      · refine lv_tableIn (tgt := 52) hx hb dX5_gradeOf_22 (by rw [c5]; decide) (by rw [c5]; decide) (by rw [c5]; rfl) (by decide) ?_
        refine lv_aload_n hx hb dX5_gradeOf_52 rfl (lv_at hl 0 rfl) ?_
        refine g_get 0 hx hb hts hown hC hI i_X5 (by decide) (e_x g_us) rfl (by decide) qf_X5_7 rfl rfl dX5_gradeOf_53 ?_
        refine lv_bipush (v := 10) hx hb dX5_gradeOf_56 (by decide) ?_
        refine lv_iload_n hx hb dX5_gradeOf_58 rfl (lv_at hl 1 rfl) ?_
        refine lv_iadd hx hb dX5_gradeOf_59 ?_
        refine g_te (nI_add 10 g1) ?_
        refine g_iald (10 + g1) hx hb hC hI (by decide) (e_xs g_us) (vp_in_nI (by omega) (by decide)) (nI_clamp (by omega)) dX5_gradeOf_60 ?_
        exact g_ir hQ hx hb hr0 hlk hC hI dX5_gradeOf_61 rfl (by unfold m_gradeOf; (try simp only [hclg1]); (first | rw [if_pos c1] | rw [if_neg c1] | skip); (first | rw [if_pos c3] | rw [if_neg c3] | skip); (first | rw [if_pos c5] | rw [if_neg c5] | skip); try with_reducible rfl) rfl rfl
      by_cases c6 : w = 1
      · refine lv_tableIn (tgt := 62) hx hb dX5_gradeOf_22 (by rw [c6]; decide) (by rw [c6]; decide) (by rw [c6]; rfl) (by decide) ?_
        refine lv_aload_n hx hb dX5_gradeOf_62 rfl (lv_at hl 0 rfl) ?_
        refine lv_iload_n hx hb dX5_gradeOf_63 rfl (lv_at hl 1 rfl) ?_
        refine g_callVi (rest := []) (c_X5_inBins l D tb ad hj P M V (nI g1)) rfl rfl gm_X5_inBins hx hb hml hown hts hC hI (by decide) (e_x g_us) rfl rfl qm_X5_58 rfl hl.1 rfl ⟨rfl, rfl, by decide, by decide⟩ (Nat.le_of_ble_eq_true rfl) ⟨Nat.zero_le _, Nat.zero_le _⟩ dX5_gradeOf_64 (fun H locs hI => ?_)
        exact g_ir hQ hx hb hr0 hlk hC hI dX5_gradeOf_67 rfl (by unfold m_gradeOf; (try simp only [hclg1]); (first | rw [if_pos c1] | rw [if_neg c1] | skip); (first | rw [if_pos c3] | rw [if_neg c3] | skip); (first | rw [if_pos c5] | rw [if_neg c5] | skip); (first | rw [if_pos c6] | rw [if_neg c6] | skip); try with_reducible rfl) rfl rfl
      by_cases c7 : w = 2
      · refine lv_tableIn (tgt := 68) hx hb dX5_gradeOf_22 (by rw [c7]; decide) (by rw [c7]; decide) (by rw [c7]; rfl) (by decide) ?_
        refine lv_aload_n hx hb dX5_gradeOf_68 rfl (lv_at hl 0 rfl) ?_
        refine lv_iload_n hx hb dX5_gradeOf_69 rfl (lv_at hl 1 rfl) ?_
        refine g_callVi (rest := []) (c_X5_inReceipts l D tb ad hj P M V (nI g1) n (by first | assumption | omega)) rfl rfl gm_X5_inReceipts hx hb hml hown hts hC hI (by decide) (e_x g_us) rfl rfl qm_X5_61 rfl hl.1 rfl ⟨rfl, rfl, by decide, by decide⟩ (Nat.le_of_ble_eq_true rfl) ⟨Nat.zero_le _, Nat.zero_le _⟩ dX5_gradeOf_70 (fun H locs hI => ?_)
        exact g_ir hQ hx hb hr0 hlk hC hI dX5_gradeOf_73 rfl (by unfold m_gradeOf; (try simp only [hclg1]); (first | rw [if_pos c1] | rw [if_neg c1] | skip); (first | rw [if_pos c3] | rw [if_neg c3] | skip); (first | rw [if_pos c5] | rw [if_neg c5] | skip); (first | rw [if_pos c6] | rw [if_neg c6] | skip); (first | rw [if_pos c7] | rw [if_neg c7] | skip); try with_reducible rfl) rfl rfl
      by_cases c8 : w = 3
      · refine lv_tableIn (tgt := 74) hx hb dX5_gradeOf_22 (by rw [c8]; decide) (by rw [c8]; decide) (by rw [c8]; rfl) (by decide) ?_
        refine lv_aload_n hx hb dX5_gradeOf_74 rfl (lv_at hl 0 rfl) ?_
        refine lv_iload_n hx hb dX5_gradeOf_75 rfl (lv_at hl 1 rfl) ?_
        refine g_callVi (rest := []) (c_X5_surplus l D tb ad hj P M V g1 n (by first | assumption | omega) (by first | assumption | omega)) rfl rfl gm_X5_surplus hx hb hml hown hts hC hI (by decide) (e_x g_us) rfl rfl qm_X5_64 rfl hl.1 rfl ⟨rfl, rfl, by decide, by decide⟩ (Nat.le_of_ble_eq_true rfl) ⟨Nat.zero_le _, Nat.zero_le _⟩ dX5_gradeOf_76 (fun H locs hI => ?_)
        exact g_ir hQ hx hb hr0 hlk hC hI dX5_gradeOf_79 rfl (by unfold m_gradeOf; (try simp only [hclg1]); (first | rw [if_pos c1] | rw [if_neg c1] | skip); (first | rw [if_pos c3] | rw [if_neg c3] | skip); (first | rw [if_pos c5] | rw [if_neg c5] | skip); (first | rw [if_pos c6] | rw [if_neg c6] | skip); (first | rw [if_pos c7] | rw [if_neg c7] | skip); (first | rw [if_pos c8] | rw [if_neg c8] | skip); try with_reducible rfl) rfl rfl
      refine lv_tableOut (tgt := 80) hx hb dX5_gradeOf_22 (by have c5i := k_ti c5 (k := 0) rfl; have c6i := k_ti c6 (k := 1) rfl; have c7i := k_ti c7 (k := 2) rfl; have c8i := k_ti c8 (k := 3) rfl; omega) (by decide) ?_
      refine lv_aload_n hx hb dX5_gradeOf_80 rfl (lv_at hl 0 rfl) ?_
      refine lv_iload_n hx hb dX5_gradeOf_81 rfl (lv_at hl 1 rfl) ?_
      refine g_callVi (rest := []) (c_X5_room l D tb ad hj P M V (nI g1)) rfl rfl gm_X5_room hx hb hml hown hts hC hI (by decide) (e_x g_us) rfl rfl qm_X5_71 rfl hl.1 rfl ⟨rfl, rfl, by decide, by decide⟩ (Nat.le_of_ble_eq_true rfl) ⟨Nat.zero_le _, Nat.zero_le _⟩ dX5_gradeOf_82 (fun H locs hI => ?_)
      exact g_ir hQ hx hb hr0 hlk hC hI dX5_gradeOf_85 rfl (by unfold m_gradeOf; (try simp only [hclg1]); (first | rw [if_pos c1] | rw [if_neg c1] | skip); (first | rw [if_pos c3] | rw [if_neg c3] | skip); (first | rw [if_pos c5] | rw [if_neg c5] | skip); (first | rw [if_pos c6] | rw [if_neg c6] | skip); (first | rw [if_pos c7] | rw [if_neg c7] | skip); (first | rw [if_pos c8] | rw [if_neg c8] | skip); try with_reducible rfl) rfl rfl
    · refine lv_if_ne (tgt := 21) hx hb dX5_gradeOf_15 (by decide) (fun c9 => absurd c9 (by decide)) (fun _ => ?_)
      refine lv_ldc (v := (-2000000001)) hx hb hown (hts _ qc_X5_25) dX5_gradeOf_18 ?_
      exact g_ir hQ hx hb hr0 hlk hC hI dX5_gradeOf_20 rfl (by unfold m_gradeOf; (try simp only [hclg1]); (first | rw [if_pos c1] | rw [if_neg c1] | skip); (first | rw [if_pos c3] | rw [if_neg c3] | skip); try with_reducible rfl) rfl rfl
  · refine lv_if_eq (tgt := 18) hx hb dX5_gradeOf_6 (by decide) (fun _ => ?_) (fun c10 => absurd c10 (by decide))
    refine lv_ldc (v := (-2000000001)) hx hb hown (hts _ qc_X5_25) dX5_gradeOf_18 ?_
    exact g_ir hQ hx hb hr0 hlk hC hI dX5_gradeOf_20 rfl (by unfold m_gradeOf; (try simp only [hclg1]); (first | rw [if_pos c1] | rw [if_neg c1] | skip); try with_reducible rfl) rfl rfl
def m_ownerOf (V : g_V) (o : Int32) (w : Int32) (n : Nat) : Int32 :=
  if m_in o 0 7 then (if m_in w 0 4 then (if w = 0 then (V 1 (13 + (o.toNatClampNeg))) else if w = 1 then (k_sum (m_ownF V (o) (fun _ => 1)) n) else if w = 2 then (k_sum (m_ownF V (o) (fun n => V 1 (34 + 7 * n + 3))) n) else if w = 3 then (k_sum (m_ownF V (o) (fun n => V 1 (34 + 7 * n + 5))) n) else (V 1 (13 + (o.toNatClampNeg)) + k_sum (m_ownF V (o) (m_netF V)) n)) else (-2000000001)) else (-2000000001)
abbrev rm_X5_ownerOf : Room := { frames := 1, cells := 0, slots := 0, locals := 22 }
set_option maxHeartbeats 800000 in
set_option maxRecDepth 100000 in
theorem c_X5_ownerOf (l : Launch) (D : va_G) (tb : g_T) (ad : g_Ad) (hj : g_inj ad) (P : g_P) (M : g_M) (V : g_V) (o : Int32) (w : Int32) (n : Nat) (hn : m_N V n) (hR : m_okR V n) : g_Ci l yX5_ownerOf cX5_ownerOf 8 (some .int) rm_X5_ownerOf D tb ad [.ref (ad 7 0), .int o, .int w] P (va_up M 7 V) (m_ownerOf V o w n) P (va_up M 7 V) := by
  refine g_go (by decide) (Nat.le_of_ble_eq_true rfl) hj ?_
  intro p e s m below meth c ls H locs R args Q hR0 hQ hx hb hml hr0 hlk hown hts hC hI hl
  subst hR0
  have hown : s.vm.findClass RX5 = some m.cls := hown
  have hl : lv_has ls 8 [(0, .ref (ad 7 0)), (1, .int o), (2, .int w)] := hl
  refine lv_iload_n hx hb dX5_ownerOf_0 rfl (lv_at hl 1 rfl) ?_
  refine lv_iconst (v := 0) hx hb dX5_ownerOf_1 (by decide) ?_
  refine lv_bipush (v := 7) hx hb dX5_ownerOf_2 (by decide) ?_
  refine g_callSi (rest := []) (c_X5_in l D tb ad hj P (va_up M 7 V) o 0 7) rfl rfl gm_X5_in hx hb hml hown hts hC hI qm_X5_67 rfl hl.1 rfl ⟨rfl, rfl, by decide, by decide⟩ (Nat.le_of_ble_eq_true rfl) ⟨Nat.zero_le _, Nat.zero_le _⟩ dX5_ownerOf_4 (fun H locs hI => ?_)
  refine g_tf (fun c1 => ?_) (fun c1 => ?_)
  · obtain ⟨o1, ho1, rfl⟩ := m_nI (N := 7) c1 rfl
    have hclo1 : (nI o1).toNatClampNeg = o1 := nI_clamp (by omega)
    refine lv_if_eq (tgt := 19) hx hb dX5_ownerOf_7 (by decide) (fun c2 => absurd c2 (by decide)) (fun _ => ?_)
    refine lv_iload_n hx hb dX5_ownerOf_10 rfl (lv_at hl 2 rfl) ?_
    refine lv_iconst (v := 0) hx hb dX5_ownerOf_11 (by decide) ?_
    refine lv_iconst (v := 4) hx hb dX5_ownerOf_12 (by decide) ?_
    refine g_callSi (rest := []) (c_X5_in l D tb ad hj P (va_up M 7 V) w 0 4) rfl rfl gm_X5_in hx hb hml hown hts hC hI qm_X5_67 rfl hl.1 rfl ⟨rfl, rfl, by decide, by decide⟩ (Nat.le_of_ble_eq_true rfl) ⟨Nat.zero_le _, Nat.zero_le _⟩ dX5_ownerOf_13 (fun H locs hI => ?_)
    refine g_tf (fun c3 => ?_) (fun c3 => ?_)
    · refine lv_if_ne (tgt := 22) hx hb dX5_ownerOf_16 (by decide) (fun _ => ?_) (fun c4 => absurd c4 (by decide))
      refine lv_iconst (v := 0) hx hb dX5_ownerOf_22 (by decide) ?_
      refine lv_istore_n (lv' := [(3, .int 0), (0, .ref (ad 7 0)), (1, .int (nI o1)), (2, .int w)]) hx hb dX5_ownerOf_23 rfl hl (by decide) rfl (fun ls hl => ?_)
      refine lv_iconst (v := 0) hx hb dX5_ownerOf_24 (by decide) ?_
      refine lv_istore (lv' := [(4, .int 0), (3, .int 0), (0, .ref (ad 7 0)), (1, .int (nI o1)), (2, .int w)]) hx hb dX5_ownerOf_25 hl (by decide) rfl (fun ls hl => ?_)
      refine lv_iconst (v := 0) hx hb dX5_ownerOf_27 (by decide) ?_
      refine lv_istore (lv' := [(5, .int 0), (4, .int 0), (3, .int 0), (0, .ref (ad 7 0)), (1, .int (nI o1)), (2, .int w)]) hx hb dX5_ownerOf_28 hl (by decide) rfl (fun ls hl => ?_)
      refine lv_aload_n hx hb dX5_ownerOf_30 rfl (lv_at hl 3 rfl) ?_
      refine g_get 0 hx hb hts hown hC hI i_X5 (by decide) (e_x g_us) rfl (by decide) qf_X5_7 rfl rfl dX5_ownerOf_31 ?_
      refine lv_bipush (v := 13) hx hb dX5_ownerOf_34 (by decide) ?_
      refine lv_iload_n hx hb dX5_ownerOf_36 rfl (lv_at hl 4 rfl) ?_
      refine lv_iadd hx hb dX5_ownerOf_37 ?_
      refine g_te (nI_add 13 o1) ?_
      refine g_iald (13 + o1) hx hb hC hI (by decide) (e_xs g_us) (vp_in_nI (by omega) (by decide)) (nI_clamp (by omega)) dX5_ownerOf_38 ?_
      refine lv_istore (lv' := [(6, .int (V 1 (13 + o1))), (5, .int 0), (4, .int 0), (3, .int 0), (0, .ref (ad 7 0)), (1, .int (nI o1)), (2, .int w)]) hx hb dX5_ownerOf_39 hl (by decide) rfl (fun ls hl => ?_)
      refine lv_iconst (v := 0) hx hb dX5_ownerOf_41 (by decide) ?_
      refine lv_istore (lv' := [(7, .int 0), (6, .int (V 1 (13 + o1))), (5, .int 0), (4, .int 0), (3, .int 0), (0, .ref (ad 7 0)), (1, .int (nI o1)), (2, .int w)]) hx hb dX5_ownerOf_42 hl (by decide) rfl (fun ls hl => ?_)
      have lp44 : ∀ (d k : Nat) (y1 : Int32) (y2 : Int32) (y3 : Int32) (y4 : Int32), k ≤ n → n < k + d → y1 = k_sum (m_ownF V (nI o1) (fun _ => 1)) k → y2 = k_sum (m_ownF V (nI o1) (fun k => V 1 (34 + 7 * k + 3))) k → y3 = k_sum (m_ownF V (nI o1) (fun k => V 1 (34 + 7 * k + 5))) k → y4 = V 1 (13 + o1) + k_sum (m_ownF V (nI o1) (m_netF V)) k → ∀ (H : Heap) (locs : List Loc) (ls : Array Slot), g_I D tb ad (g_A ad) s H locs P (va_up M 7 V) → lv_has ls 8 [(7, .int (nI k)), (6, .int y4), (5, .int y3), (4, .int y2), (3, .int y1), (0, .ref (ad 7 0)), (1, .int (nI o1)), (2, .int w)] → W p l e rm_X5_ownerOf s m args below meth c H locs 0 0 Q (F0 m 44 ls []) := by
        intro d
        induction d with
        | zero => intro k y1 y2 y3 y4 hkp hfu; intros; omega
        | succ d ih44 =>
          intro k y1 y2 y3 y4 hkp hfu e_y1 e_y2 e_y3 e_y4 H locs ls hI hl
          refine lv_iload hx hb dX5_ownerOf_44 (lv_at hl 0 rfl) ?_
          refine lv_aload_n hx hb dX5_ownerOf_46 rfl (lv_at hl 5 rfl) ?_
          refine g_get 0 hx hb hts hown hC hI i_X5 (by decide) (e_x g_us) rfl (by decide) qf_X5_7 rfl rfl dX5_ownerOf_47 ?_
          refine lv_iconst (v := 0) hx hb dX5_ownerOf_50 (by decide) ?_
          refine g_iald 0 hx hb hC hI (by decide) (e_xs g_us) (by unfold vp_in; decide) rfl dX5_ownerOf_51 ?_
          refine g_te (y := (nI n)) hn.1 ?_
          refine lv_icmp_ge (tgt := 135) hx hb dX5_ownerOf_52 (by decide) (fun c5 => ?_) (fun c5 => ?_)
          · have c5n : n ≤ k := (nI_leI (a := n) (b := k) (by omega) (by omega)).mp c5
            refine lv_iload_n hx hb dX5_ownerOf_135 rfl (lv_at hl 7 rfl) ?_
            by_cases c6 : w = 0
            · refine lv_tableIn (tgt := 168) hx hb dX5_ownerOf_136 (by rw [c6]; decide) (by rw [c6]; decide) (by rw [c6]; rfl) (by decide) ?_
              refine lv_aload_n hx hb dX5_ownerOf_168 rfl (lv_at hl 5 rfl) ?_
              refine g_get 0 hx hb hts hown hC hI i_X5 (by decide) (e_x g_us) rfl (by decide) qf_X5_7 rfl rfl dX5_ownerOf_169 ?_
              refine lv_bipush (v := 13) hx hb dX5_ownerOf_172 (by decide) ?_
              refine lv_iload_n hx hb dX5_ownerOf_174 rfl (lv_at hl 6 rfl) ?_
              refine lv_iadd hx hb dX5_ownerOf_175 ?_
              refine g_te (nI_add 13 o1) ?_
              refine g_iald (13 + o1) hx hb hC hI (by decide) (e_xs g_us) (vp_in_nI (by omega) (by decide)) (nI_clamp (by omega)) dX5_ownerOf_176 ?_
              exact g_ir hQ hx hb hr0 hlk hC hI dX5_ownerOf_177 rfl (by rw [show k = n from (by omega)] at e_y1 e_y2 e_y3 e_y4; unfold m_ownerOf; (try simp only [hclo1]); (try rw [← e_y1]); (try rw [← e_y2]); (try rw [← e_y3]); (try rw [← e_y4]); (first | rw [if_pos c1] | rw [if_neg c1] | skip); (first | rw [if_pos c3] | rw [if_neg c3] | skip); (first | rw [if_pos c5] | rw [if_neg c5] | skip); (first | rw [if_pos c6] | rw [if_neg c6] | skip); try with_reducible rfl) rfl rfl
            by_cases c7 : w = 1
            · refine lv_tableIn (tgt := 178) hx hb dX5_ownerOf_136 (by rw [c7]; decide) (by rw [c7]; decide) (by rw [c7]; rfl) (by decide) ?_
              refine lv_iload_n hx hb dX5_ownerOf_178 rfl (lv_at hl 4 rfl) ?_
              exact g_ir hQ hx hb hr0 hlk hC hI dX5_ownerOf_179 rfl (by rw [show k = n from (by omega)] at e_y1 e_y2 e_y3 e_y4; unfold m_ownerOf; (try simp only [hclo1]); (try rw [← e_y1]); (try rw [← e_y2]); (try rw [← e_y3]); (try rw [← e_y4]); (first | rw [if_pos c1] | rw [if_neg c1] | skip); (first | rw [if_pos c3] | rw [if_neg c3] | skip); (first | rw [if_pos c5] | rw [if_neg c5] | skip); (first | rw [if_pos c6] | rw [if_neg c6] | skip); (first | rw [if_pos c7] | rw [if_neg c7] | skip); try with_reducible rfl) rfl rfl
            by_cases c8 : w = 2
            · refine lv_tableIn (tgt := 180) hx hb dX5_ownerOf_136 (by rw [c8]; decide) (by rw [c8]; decide) (by rw [c8]; rfl) (by decide) ?_
              refine lv_iload hx hb dX5_ownerOf_180 (lv_at hl 3 rfl) ?_
              exact g_ir hQ hx hb hr0 hlk hC hI dX5_ownerOf_182 rfl (by rw [show k = n from (by omega)] at e_y1 e_y2 e_y3 e_y4; unfold m_ownerOf; (try simp only [hclo1]); (try rw [← e_y1]); (try rw [← e_y2]); (try rw [← e_y3]); (try rw [← e_y4]); (first | rw [if_pos c1] | rw [if_neg c1] | skip); (first | rw [if_pos c3] | rw [if_neg c3] | skip); (first | rw [if_pos c5] | rw [if_neg c5] | skip); (first | rw [if_pos c6] | rw [if_neg c6] | skip); (first | rw [if_pos c7] | rw [if_neg c7] | skip); (first | rw [if_pos c8] | rw [if_neg c8] | skip); try with_reducible rfl) rfl rfl
            by_cases c9 : w = 3
            · refine lv_tableIn (tgt := 183) hx hb dX5_ownerOf_136 (by rw [c9]; decide) (by rw [c9]; decide) (by rw [c9]; rfl) (by decide) ?_
              refine lv_iload hx hb dX5_ownerOf_183 (lv_at hl 2 rfl) ?_
              exact g_ir hQ hx hb hr0 hlk hC hI dX5_ownerOf_185 rfl (by rw [show k = n from (by omega)] at e_y1 e_y2 e_y3 e_y4; unfold m_ownerOf; (try simp only [hclo1]); (try rw [← e_y1]); (try rw [← e_y2]); (try rw [← e_y3]); (try rw [← e_y4]); (first | rw [if_pos c1] | rw [if_neg c1] | skip); (first | rw [if_pos c3] | rw [if_neg c3] | skip); (first | rw [if_pos c5] | rw [if_neg c5] | skip); (first | rw [if_pos c6] | rw [if_neg c6] | skip); (first | rw [if_pos c7] | rw [if_neg c7] | skip); (first | rw [if_pos c8] | rw [if_neg c8] | skip); (first | rw [if_pos c9] | rw [if_neg c9] | skip); try with_reducible rfl) rfl rfl
            refine lv_tableOut (tgt := 186) hx hb dX5_ownerOf_136 (by have c6i := k_ti c6 (k := 0) rfl; have c7i := k_ti c7 (k := 1) rfl; have c8i := k_ti c8 (k := 2) rfl; have c9i := k_ti c9 (k := 3) rfl; omega) (by decide) ?_
            refine lv_iload hx hb dX5_ownerOf_186 (lv_at hl 1 rfl) ?_
            exact g_ir hQ hx hb hr0 hlk hC hI dX5_ownerOf_188 rfl (by rw [show k = n from (by omega)] at e_y1 e_y2 e_y3 e_y4; unfold m_ownerOf; (try simp only [hclo1]); (try rw [← e_y1]); (try rw [← e_y2]); (try rw [← e_y3]); (try rw [← e_y4]); (first | rw [if_pos c1] | rw [if_neg c1] | skip); (first | rw [if_pos c3] | rw [if_neg c3] | skip); (first | rw [if_pos c5] | rw [if_neg c5] | skip); (first | rw [if_pos c6] | rw [if_neg c6] | skip); (first | rw [if_pos c7] | rw [if_neg c7] | skip); (first | rw [if_pos c8] | rw [if_neg c8] | skip); (first | rw [if_pos c9] | rw [if_neg c9] | skip); try with_reducible rfl) rfl rfl
          · have c5n : ¬ n ≤ k := fun z => c5 ((nI_leI (a := n) (b := k) (by omega) (by omega)).mpr z)
            obtain ⟨-, ⟨g, hg3, hg⟩, -⟩ := hR k (by omega)
            have hclg : (V 1 (34 + 7 * k + 2)).toNatClampNeg = g := by rw [hg]; exact nI_clamp (by omega)
            have := hn.2
            refine lv_aload_n hx hb dX5_ownerOf_55 rfl (lv_at hl 5 rfl) ?_
            refine lv_iload hx hb dX5_ownerOf_56 (lv_at hl 0 rfl) ?_
            refine lv_iconst (v := 1) hx hb dX5_ownerOf_58 (by decide) ?_
            refine g_callVi (rest := []) (c_X5_of l D tb ad hj P M V k 1 (by first | assumption | omega) (by first | assumption | omega)) rfl rfl gm_X5_of hx hb hml hown hts hC hI (by decide) (e_x g_us) rfl rfl qm_X5_33 rfl hl.1 rfl ⟨rfl, rfl, by decide, by decide⟩ (Nat.le_of_ble_eq_true rfl) ⟨Nat.zero_le _, Nat.zero_le _⟩ dX5_ownerOf_59 (fun H locs hI => ?_)
            refine lv_iload_n hx hb dX5_ownerOf_62 rfl (lv_at hl 6 rfl) ?_
            refine lv_icmp_ne (tgt := 129) hx hb dX5_ownerOf_63 (by decide) (fun c10 => ?_) (fun c10 => ?_)
            · refine lv_iinc (v := nI (k + 1)) (lv' := [(7, .int (nI (k + 1))), (6, .int y4), (5, .int y3), (4, .int y2), (3, .int y1), (0, .ref (ad 7 0)), (1, .int (nI o1)), (2, .int w)]) hx hb dX5_ownerOf_129 hl (k := 0) rfl (nI_1 _) (by decide) rfl (fun ls hl => ?_)
              refine lv_goto (tgt := 44) hx hb dX5_ownerOf_132 (by decide) ?_
              exact ih44 (k + 1) _ _ _ _ (by omega) (by omega) (by rw [k_sum, m_ownF]; (first | rw [if_pos c1] | rw [if_neg c1] | skip); (first | rw [if_pos c3] | rw [if_neg c3] | skip); (first | rw [if_pos c5] | rw [if_neg c5] | skip); (first | rw [if_pos c10] | rw [if_neg c10] | skip); (try dsimp only); rw [e_y1]; (try simp only [Int32.add_zero])) (by rw [k_sum, m_ownF]; (first | rw [if_pos c1] | rw [if_neg c1] | skip); (first | rw [if_pos c3] | rw [if_neg c3] | skip); (first | rw [if_pos c5] | rw [if_neg c5] | skip); (first | rw [if_pos c10] | rw [if_neg c10] | skip); (try dsimp only); rw [e_y2]; (try simp only [Int32.add_zero])) (by rw [k_sum, m_ownF]; (first | rw [if_pos c1] | rw [if_neg c1] | skip); (first | rw [if_pos c3] | rw [if_neg c3] | skip); (first | rw [if_pos c5] | rw [if_neg c5] | skip); (first | rw [if_pos c10] | rw [if_neg c10] | skip); (try dsimp only); rw [e_y3]; (try simp only [Int32.add_zero])) (by rw [k_sum, m_ownF]; (first | rw [if_pos c1] | rw [if_neg c1] | skip); (first | rw [if_pos c3] | rw [if_neg c3] | skip); (first | rw [if_pos c5] | rw [if_neg c5] | skip); (first | rw [if_pos c10] | rw [if_neg c10] | skip); (try rw [m_netF, hclg]); rw [e_y4]; (try simp only [Int32.add_zero]); (try rw [Int32.add_assoc]))  _ _ _ hI (lv_sub hl [0, 1, 2, 3, 4, 5, 6, 7] rfl)
            · refine lv_iinc (v := (y1 + 1)) (lv' := [(3, .int (y1 + 1)), (7, .int (nI k)), (6, .int y4), (5, .int y3), (4, .int y2), (0, .ref (ad 7 0)), (1, .int (nI o1)), (2, .int w)]) hx hb dX5_ownerOf_66 hl (k := 4) rfl rfl (by decide) rfl (fun ls hl => ?_)
              refine lv_iload hx hb dX5_ownerOf_69 (lv_at hl 4 rfl) ?_
              refine lv_aload_n hx hb dX5_ownerOf_71 rfl (lv_at hl 5 rfl) ?_
              refine lv_iload hx hb dX5_ownerOf_72 (lv_at hl 1 rfl) ?_
              refine lv_iconst (v := 3) hx hb dX5_ownerOf_74 (by decide) ?_
              refine g_callVi (rest := [.int y2]) (c_X5_of l D tb ad hj P M V k 3 (by first | assumption | omega) (by first | assumption | omega)) rfl rfl gm_X5_of hx hb hml hown hts hC hI (by decide) (e_x g_us) rfl rfl qm_X5_33 rfl hl.1 rfl ⟨rfl, rfl, by decide, by decide⟩ (Nat.le_of_ble_eq_true rfl) ⟨Nat.zero_le _, Nat.zero_le _⟩ dX5_ownerOf_75 (fun H locs hI => ?_)
              refine lv_iadd hx hb dX5_ownerOf_78 ?_
              refine lv_istore (lv' := [(4, .int (y2 + (V 1 (34 + 7 * k + 3)))), (3, .int (y1 + 1)), (7, .int (nI k)), (6, .int y4), (5, .int y3), (0, .ref (ad 7 0)), (1, .int (nI o1)), (2, .int w)]) hx hb dX5_ownerOf_79 hl (by decide) rfl (fun ls hl => ?_)
              refine lv_iload hx hb dX5_ownerOf_81 (lv_at hl 4 rfl) ?_
              refine lv_aload_n hx hb dX5_ownerOf_83 rfl (lv_at hl 5 rfl) ?_
              refine lv_iload hx hb dX5_ownerOf_84 (lv_at hl 2 rfl) ?_
              refine lv_iconst (v := 5) hx hb dX5_ownerOf_86 (by decide) ?_
              refine g_callVi (rest := [.int y3]) (c_X5_of l D tb ad hj P M V k 5 (by first | assumption | omega) (by first | assumption | omega)) rfl rfl gm_X5_of hx hb hml hown hts hC hI (by decide) (e_x g_us) rfl rfl qm_X5_33 rfl hl.1 rfl ⟨rfl, rfl, by decide, by decide⟩ (Nat.le_of_ble_eq_true rfl) ⟨Nat.zero_le _, Nat.zero_le _⟩ dX5_ownerOf_87 (fun H locs hI => ?_)
              refine lv_iadd hx hb dX5_ownerOf_90 ?_
              refine lv_istore (lv' := [(5, .int (y3 + (V 1 (34 + 7 * k + 5)))), (4, .int (y2 + (V 1 (34 + 7 * k + 3)))), (3, .int (y1 + 1)), (7, .int (nI k)), (6, .int y4), (0, .ref (ad 7 0)), (1, .int (nI o1)), (2, .int w)]) hx hb dX5_ownerOf_91 hl (by decide) rfl (fun ls hl => ?_)
              refine lv_iload hx hb dX5_ownerOf_93 (lv_at hl 4 rfl) ?_
              refine lv_aload_n hx hb dX5_ownerOf_95 rfl (lv_at hl 5 rfl) ?_
              refine lv_iload hx hb dX5_ownerOf_96 (lv_at hl 3 rfl) ?_
              refine lv_iconst (v := 3) hx hb dX5_ownerOf_98 (by decide) ?_
              refine g_callVi (rest := [.int y4]) (c_X5_of l D tb ad hj P M V k 3 (by first | assumption | omega) (by first | assumption | omega)) rfl rfl gm_X5_of hx hb hml hown hts hC hI (by decide) (e_x g_us) rfl rfl qm_X5_33 rfl hl.1 rfl ⟨rfl, rfl, by decide, by decide⟩ (Nat.le_of_ble_eq_true rfl) ⟨Nat.zero_le _, Nat.zero_le _⟩ dX5_ownerOf_99 (fun H locs hI => ?_)
              refine lv_aload_n hx hb dX5_ownerOf_102 rfl (lv_at hl 5 rfl) ?_
              refine g_get 0 hx hb hts hown hC hI i_X5 (by decide) (e_x g_us) rfl (by decide) qf_X5_7 rfl rfl dX5_ownerOf_103 ?_
              refine lv_bipush (v := 10) hx hb dX5_ownerOf_106 (by decide) ?_
              refine lv_aload_n hx hb dX5_ownerOf_108 rfl (lv_at hl 5 rfl) ?_
              refine lv_iload hx hb dX5_ownerOf_109 (lv_at hl 3 rfl) ?_
              refine lv_iconst (v := 2) hx hb dX5_ownerOf_111 (by decide) ?_
              refine g_callVi (rest := [.int 10, .ref (ad 7 1), .int (V 1 (34 + 7 * k + 3)), .int y4]) (c_X5_of l D tb ad hj P M V k 2 (by first | assumption | omega) (by first | assumption | omega)) rfl rfl gm_X5_of hx hb hml hown hts hC hI (by decide) (e_x g_us) rfl rfl qm_X5_33 rfl hl.1 rfl ⟨rfl, rfl, by decide, by decide⟩ (Nat.le_of_ble_eq_true rfl) ⟨Nat.zero_le _, Nat.zero_le _⟩ dX5_ownerOf_112 (fun H locs hI => ?_)
              refine g_te (y := (nI g)) hg ?_
              refine lv_iadd hx hb dX5_ownerOf_115 ?_
              refine g_te (nI_add 10 g) ?_
              refine g_iald (10 + g) hx hb hC hI (by decide) (e_xs g_us) (vp_in_nI (by omega) (by decide)) (nI_clamp (by omega)) dX5_ownerOf_116 ?_
              refine lv_imul hx hb dX5_ownerOf_117 ?_
              refine lv_aload_n hx hb dX5_ownerOf_118 rfl (lv_at hl 5 rfl) ?_
              refine lv_iload hx hb dX5_ownerOf_119 (lv_at hl 3 rfl) ?_
              refine lv_iconst (v := 5) hx hb dX5_ownerOf_121 (by decide) ?_
              refine g_callVi (rest := [.int ((V 1 (34 + 7 * k + 3)) * (V 1 (10 + g))), .int y4]) (c_X5_of l D tb ad hj P M V k 5 (by first | assumption | omega) (by first | assumption | omega)) rfl rfl gm_X5_of hx hb hml hown hts hC hI (by decide) (e_x g_us) rfl rfl qm_X5_33 rfl hl.1 rfl ⟨rfl, rfl, by decide, by decide⟩ (Nat.le_of_ble_eq_true rfl) ⟨Nat.zero_le _, Nat.zero_le _⟩ dX5_ownerOf_122 (fun H locs hI => ?_)
              refine lv_isub hx hb dX5_ownerOf_125 ?_
              refine lv_iadd hx hb dX5_ownerOf_126 ?_
              refine lv_istore (lv' := [(6, .int (y4 + (((V 1 (34 + 7 * k + 3)) * (V 1 (10 + g))) - (V 1 (34 + 7 * k + 5))))), (5, .int (y3 + (V 1 (34 + 7 * k + 5)))), (4, .int (y2 + (V 1 (34 + 7 * k + 3)))), (3, .int (y1 + 1)), (7, .int (nI k)), (0, .ref (ad 7 0)), (1, .int (nI o1)), (2, .int w)]) hx hb dX5_ownerOf_127 hl (by decide) rfl (fun ls hl => ?_)
              refine lv_iinc (v := nI (k + 1)) (lv' := [(7, .int (nI (k + 1))), (6, .int (y4 + (((V 1 (34 + 7 * k + 3)) * (V 1 (10 + g))) - (V 1 (34 + 7 * k + 5))))), (5, .int (y3 + (V 1 (34 + 7 * k + 5)))), (4, .int (y2 + (V 1 (34 + 7 * k + 3)))), (3, .int (y1 + 1)), (0, .ref (ad 7 0)), (1, .int (nI o1)), (2, .int w)]) hx hb dX5_ownerOf_129 hl (k := 4) rfl (nI_1 _) (by decide) rfl (fun ls hl => ?_)
              refine lv_goto (tgt := 44) hx hb dX5_ownerOf_132 (by decide) ?_
              exact ih44 (k + 1) _ _ _ _ (by omega) (by omega) (by rw [k_sum, m_ownF]; (first | rw [if_pos c1] | rw [if_neg c1] | skip); (first | rw [if_pos c3] | rw [if_neg c3] | skip); (first | rw [if_pos c5] | rw [if_neg c5] | skip); (first | rw [if_pos c10] | rw [if_neg c10] | skip); (try dsimp only); rw [e_y1]; (try simp only [Int32.add_zero])) (by rw [k_sum, m_ownF]; (first | rw [if_pos c1] | rw [if_neg c1] | skip); (first | rw [if_pos c3] | rw [if_neg c3] | skip); (first | rw [if_pos c5] | rw [if_neg c5] | skip); (first | rw [if_pos c10] | rw [if_neg c10] | skip); (try dsimp only); rw [e_y2]; (try simp only [Int32.add_zero])) (by rw [k_sum, m_ownF]; (first | rw [if_pos c1] | rw [if_neg c1] | skip); (first | rw [if_pos c3] | rw [if_neg c3] | skip); (first | rw [if_pos c5] | rw [if_neg c5] | skip); (first | rw [if_pos c10] | rw [if_neg c10] | skip); (try dsimp only); rw [e_y3]; (try simp only [Int32.add_zero])) (by rw [k_sum, m_ownF]; (first | rw [if_pos c1] | rw [if_neg c1] | skip); (first | rw [if_pos c3] | rw [if_neg c3] | skip); (first | rw [if_pos c5] | rw [if_neg c5] | skip); (first | rw [if_pos c10] | rw [if_neg c10] | skip); (try rw [m_netF, hclg]); rw [e_y4]; (try simp only [Int32.add_zero]); (try rw [Int32.add_assoc]))  _ _ _ hI (lv_sub hl [0, 1, 2, 3, 4, 5, 6, 7] rfl)
      exact lp44 (n + 1) 0 _ _ _ _ (by omega) (by omega) rfl rfl rfl (by rw [k_sum, Int32.add_zero])  _ _ _ hI (lv_sub hl [0, 1, 2, 3, 4, 5, 6, 7] rfl)
    · refine lv_if_ne (tgt := 22) hx hb dX5_ownerOf_16 (by decide) (fun c11 => absurd c11 (by decide)) (fun _ => ?_)
      refine lv_ldc (v := (-2000000001)) hx hb hown (hts _ qc_X5_25) dX5_ownerOf_19 ?_
      exact g_ir hQ hx hb hr0 hlk hC hI dX5_ownerOf_21 rfl (by unfold m_ownerOf; (try simp only [hclo1]); (first | rw [if_pos c1] | rw [if_neg c1] | skip); (first | rw [if_pos c3] | rw [if_neg c3] | skip); try with_reducible rfl) rfl rfl
  · refine lv_if_eq (tgt := 19) hx hb dX5_ownerOf_7 (by decide) (fun _ => ?_) (fun c12 => absurd c12 (by decide))
    refine lv_ldc (v := (-2000000001)) hx hb hown (hts _ qc_X5_25) dX5_ownerOf_19 ?_
    exact g_ir hQ hx hb hr0 hlk hC hI dX5_ownerOf_21 rfl (by unfold m_ownerOf; (try simp only [hclo1]); (first | rw [if_pos c1] | rw [if_neg c1] | skip); try with_reducible rfl) rfl rfl
abbrev rm_X5_wouldFallTo : Room := { frames := 1, cells := 0, slots := 0, locals := 22 }
set_option maxHeartbeats 800000 in
set_option maxRecDepth 100000 in
theorem c_X5_wouldFallTo (l : Launch) (D : va_G) (tb : g_T) (ad : g_Ad) (hj : g_inj ad) (P : g_P) (M : g_M) (V : g_V) (le : Int32) (pr : Int32) (n : Nat) (hn : m_N V n) : g_Ci l yX5_wouldFallTo cX5_wouldFallTo 6 (some .boolean) rm_X5_wouldFallTo D tb ad [.ref (ad 7 0), .int le, .int pr] P (va_up M 7 V) (if m_any V le pr n = true then 1 else 0) P (va_up M 7 V) := by
  refine g_go (by decide) (Nat.le_of_ble_eq_true rfl) hj ?_
  intro p e s m below meth c ls H locs R args Q hR0 hQ hx hb hml hr0 hlk hown hts hC hI hl
  subst hR0
  have hown : s.vm.findClass RX5 = some m.cls := hown
  have hl : lv_has ls 6 [(0, .ref (ad 7 0)), (1, .int le), (2, .int pr)] := hl
  refine lv_iconst (v := 0) hx hb dX5_wouldFallTo_0 (by decide) ?_
  refine lv_istore_n (lv' := [(3, .int 0), (0, .ref (ad 7 0)), (1, .int le), (2, .int pr)]) hx hb dX5_wouldFallTo_1 rfl hl (by decide) rfl (fun ls hl => ?_)
  refine lv_iconst (v := 0) hx hb dX5_wouldFallTo_2 (by decide) ?_
  refine lv_istore (lv' := [(4, .int 0), (3, .int 0), (0, .ref (ad 7 0)), (1, .int le), (2, .int pr)]) hx hb dX5_wouldFallTo_3 hl (by decide) rfl (fun ls hl => ?_)
  have lp5 : ∀ (d k : Nat) (y : Int32), k ≤ n → n < k + d → y = (if m_any V le pr k = true then 1 else 0) → ∀ (H : Heap) (locs : List Loc) (ls : Array Slot), g_I D tb ad (g_A ad) s H locs P (va_up M 7 V) → lv_has ls 6 [(4, .int (nI k)), (3, .int y), (0, .ref (ad 7 0)), (1, .int le), (2, .int pr)] → W p l e rm_X5_wouldFallTo s m args below meth c H locs 0 0 Q (F0 m 5 ls []) := by
    intro d
    induction d with
    | zero => intro k y hkp hfu; intros; omega
    | succ d ih5 =>
      intro k y hkp hfu e_y H locs ls hI hl
      refine lv_iload hx hb dX5_wouldFallTo_5 (lv_at hl 0 rfl) ?_
      refine lv_aload_n hx hb dX5_wouldFallTo_7 rfl (lv_at hl 2 rfl) ?_
      refine g_get 0 hx hb hts hown hC hI i_X5 (by decide) (e_x g_us) rfl (by decide) qf_X5_7 rfl rfl dX5_wouldFallTo_8 ?_
      refine lv_iconst (v := 0) hx hb dX5_wouldFallTo_11 (by decide) ?_
      refine g_iald 0 hx hb hC hI (by decide) (e_xs g_us) (by unfold vp_in; decide) rfl dX5_wouldFallTo_12 ?_
      refine g_te (y := (nI n)) hn.1 ?_
      refine lv_icmp_ge (tgt := 88) hx hb dX5_wouldFallTo_13 (by decide) (fun c1 => ?_) (fun c1 => ?_)
      · have c1n : n ≤ k := (nI_leI (a := n) (b := k) (by omega) (by omega)).mp c1
        refine lv_iload_n hx hb dX5_wouldFallTo_88 rfl (lv_at hl 1 rfl) ?_
        exact g_ir hQ hx hb hr0 hlk hC hI dX5_wouldFallTo_89 (by rw [e_y]; split <;> rfl) (by rw [show k = n from (by omega)] at e_y; rw [e_y]) rfl rfl
      · have c1n : ¬ n ≤ k := fun z => c1 ((nI_leI (a := n) (b := k) (by omega) (by omega)).mpr z)
        have := hn.2
        refine lv_aload_n hx hb dX5_wouldFallTo_16 rfl (lv_at hl 2 rfl) ?_
        refine lv_iload hx hb dX5_wouldFallTo_17 (lv_at hl 0 rfl) ?_
        refine lv_iconst (v := 3) hx hb dX5_wouldFallTo_19 (by decide) ?_
        refine g_callVi (rest := []) (c_X5_of l D tb ad hj P M V k 3 (by first | assumption | omega) (by first | assumption | omega)) rfl rfl gm_X5_of hx hb hml hown hts hC hI (by decide) (e_x g_us) rfl rfl qm_X5_33 rfl hl.1 rfl ⟨rfl, rfl, by decide, by decide⟩ (Nat.le_of_ble_eq_true rfl) ⟨Nat.zero_le _, Nat.zero_le _⟩ dX5_wouldFallTo_20 (fun H locs hI => ?_)
        refine lv_iload_n hx hb dX5_wouldFallTo_23 rfl (lv_at hl 4 rfl) ?_
        refine lv_imul hx hb dX5_wouldFallTo_24 ?_
        refine lv_aload_n hx hb dX5_wouldFallTo_25 rfl (lv_at hl 2 rfl) ?_
        refine g_get 0 hx hb hts hown hC hI i_X5 (by decide) (e_x g_us) rfl (by decide) qf_X5_7 rfl rfl dX5_wouldFallTo_26 ?_
        refine lv_bipush (v := 7) hx hb dX5_wouldFallTo_29 (by decide) ?_
        refine g_iald 7 hx hb hC hI (by decide) (e_xs g_us) (by unfold vp_in; decide) rfl dX5_wouldFallTo_31 ?_
        refine lv_imul hx hb dX5_wouldFallTo_32 ?_
        refine lv_bipush (v := 100) hx hb dX5_wouldFallTo_33 (by decide) ?_
        refine lv_idiv hx hb dX5_wouldFallTo_35 (by decide) ?_
        refine lv_istore (lv' := [(5, .int ((((V 1 (34 + 7 * k + 3)) * pr) * (V 1 7)) / 100)), (4, .int (nI k)), (3, .int y), (0, .ref (ad 7 0)), (1, .int le), (2, .int pr)]) hx hb dX5_wouldFallTo_36 hl (by decide) rfl (fun ls hl => ?_)
        refine lv_iload_n hx hb dX5_wouldFallTo_38 rfl (lv_at hl 2 rfl) ?_
        refine lv_if_ne (tgt := 76) hx hb dX5_wouldFallTo_39 (by decide) (fun c2 => ?_) (fun c2 => ?_)
        · refine lv_iconst (v := 1) hx hb dX5_wouldFallTo_76 (by decide) ?_
          refine lv_goto (tgt := 81) hx hb dX5_wouldFallTo_77 (by decide) ?_
          refine lv_istore_n (lv' := [(3, .int 1), (5, .int ((((V 1 (34 + 7 * k + 3)) * pr) * (V 1 7)) / 100)), (4, .int (nI k)), (0, .ref (ad 7 0)), (1, .int le), (2, .int pr)]) hx hb dX5_wouldFallTo_81 rfl hl (by decide) rfl (fun ls hl => ?_)
          refine lv_iinc (v := nI (k + 1)) (lv' := [(4, .int (nI (k + 1))), (3, .int 1), (5, .int ((((V 1 (34 + 7 * k + 3)) * pr) * (V 1 7)) / 100)), (0, .ref (ad 7 0)), (1, .int le), (2, .int pr)]) hx hb dX5_wouldFallTo_82 hl (k := 2) rfl (nI_1 _) (by decide) rfl (fun ls hl => ?_)
          refine lv_goto (tgt := 5) hx hb dX5_wouldFallTo_85 (by decide) ?_
          exact ih5 (k + 1) _ (by omega) (by omega) (by first | (rw [if_pos (m_any_y (by by_cases z : m_any V le pr k = true; exact z; rw [if_neg z] at e_y; exact absurd e_y (by assumption)))]) | (rw [if_pos (m_any_n ⟨by assumption, by assumption, by assumption⟩)]) | (rw [if_neg (m_any_f (fun z => by rw [if_pos z] at e_y; exact absurd (e_y.symm.trans (by assumption)) (by decide)) (fun z => by first | exact absurd z.1 (by assumption) | exact absurd z.2.1 (by assumption) | exact absurd z.2.2 (fun q => q (by assumption))))]))  _ _ _ hI (lv_sub hl [0, 1, 3, 4, 5] rfl)
        · refine lv_aload_n hx hb dX5_wouldFallTo_42 rfl (lv_at hl 3 rfl) ?_
          refine lv_iload hx hb dX5_wouldFallTo_43 (lv_at hl 1 rfl) ?_
          refine lv_iconst (v := 4) hx hb dX5_wouldFallTo_45 (by decide) ?_
          refine g_callVi (rest := []) (c_X5_of l D tb ad hj P M V k 4 (by first | assumption | omega) (by first | assumption | omega)) rfl rfl gm_X5_of hx hb hml hown hts hC hI (by decide) (e_x g_us) rfl rfl qm_X5_33 rfl hl.1 rfl ⟨rfl, rfl, by decide, by decide⟩ (Nat.le_of_ble_eq_true rfl) ⟨Nat.zero_le _, Nat.zero_le _⟩ dX5_wouldFallTo_46 (fun H locs hI => ?_)
          refine lv_iload_n hx hb dX5_wouldFallTo_49 rfl (lv_at hl 4 rfl) ?_
          refine lv_icmp_ne (tgt := 80) hx hb dX5_wouldFallTo_50 (by decide) (fun c3 => ?_) (fun c3 => ?_)
          · refine lv_iconst (v := 0) hx hb dX5_wouldFallTo_80 (by decide) ?_
            refine lv_istore_n (lv' := [(3, .int 0), (5, .int ((((V 1 (34 + 7 * k + 3)) * pr) * (V 1 7)) / 100)), (4, .int (nI k)), (0, .ref (ad 7 0)), (1, .int le), (2, .int pr)]) hx hb dX5_wouldFallTo_81 rfl hl (by decide) rfl (fun ls hl => ?_)
            refine lv_iinc (v := nI (k + 1)) (lv' := [(4, .int (nI (k + 1))), (3, .int 0), (5, .int ((((V 1 (34 + 7 * k + 3)) * pr) * (V 1 7)) / 100)), (0, .ref (ad 7 0)), (1, .int le), (2, .int pr)]) hx hb dX5_wouldFallTo_82 hl (k := 2) rfl (nI_1 _) (by decide) rfl (fun ls hl => ?_)
            refine lv_goto (tgt := 5) hx hb dX5_wouldFallTo_85 (by decide) ?_
            exact ih5 (k + 1) _ (by omega) (by omega) (by first | (rw [if_pos (m_any_y (by by_cases z : m_any V le pr k = true; exact z; rw [if_neg z] at e_y; exact absurd e_y (by assumption)))]) | (rw [if_pos (m_any_n ⟨by assumption, by assumption, by assumption⟩)]) | (rw [if_neg (m_any_f (fun z => by rw [if_pos z] at e_y; exact absurd (e_y.symm.trans (by assumption)) (by decide)) (fun z => by first | exact absurd z.1 (by assumption) | exact absurd z.2.1 (by assumption) | exact absurd z.2.2 (fun q => q (by assumption))))]))  _ _ _ hI (lv_sub hl [0, 1, 3, 4, 5] rfl)
          · refine lv_aload_n hx hb dX5_wouldFallTo_53 rfl (lv_at hl 3 rfl) ?_
            refine lv_iload hx hb dX5_wouldFallTo_54 (lv_at hl 1 rfl) ?_
            refine lv_bipush (v := 6) hx hb dX5_wouldFallTo_56 (by decide) ?_
            refine g_callVi (rest := []) (c_X5_of l D tb ad hj P M V k 6 (by first | assumption | omega) (by first | assumption | omega)) rfl rfl gm_X5_of hx hb hml hown hts hC hI (by decide) (e_x g_us) rfl rfl qm_X5_33 rfl hl.1 rfl ⟨rfl, rfl, by decide, by decide⟩ (Nat.le_of_ble_eq_true rfl) ⟨Nat.zero_le _, Nat.zero_le _⟩ dX5_wouldFallTo_58 (fun H locs hI => ?_)
            refine lv_if_ne (tgt := 80) hx hb dX5_wouldFallTo_61 (by decide) (fun c4 => ?_) (fun c4 => ?_)
            · refine lv_iconst (v := 0) hx hb dX5_wouldFallTo_80 (by decide) ?_
              refine lv_istore_n (lv' := [(3, .int 0), (5, .int ((((V 1 (34 + 7 * k + 3)) * pr) * (V 1 7)) / 100)), (4, .int (nI k)), (0, .ref (ad 7 0)), (1, .int le), (2, .int pr)]) hx hb dX5_wouldFallTo_81 rfl hl (by decide) rfl (fun ls hl => ?_)
              refine lv_iinc (v := nI (k + 1)) (lv' := [(4, .int (nI (k + 1))), (3, .int 0), (5, .int ((((V 1 (34 + 7 * k + 3)) * pr) * (V 1 7)) / 100)), (0, .ref (ad 7 0)), (1, .int le), (2, .int pr)]) hx hb dX5_wouldFallTo_82 hl (k := 2) rfl (nI_1 _) (by decide) rfl (fun ls hl => ?_)
              refine lv_goto (tgt := 5) hx hb dX5_wouldFallTo_85 (by decide) ?_
              exact ih5 (k + 1) _ (by omega) (by omega) (by first | (rw [if_pos (m_any_y (by by_cases z : m_any V le pr k = true; exact z; rw [if_neg z] at e_y; exact absurd e_y (by assumption)))]) | (rw [if_pos (m_any_n ⟨by assumption, by assumption, by assumption⟩)]) | (rw [if_neg (m_any_f (fun z => by rw [if_pos z] at e_y; exact absurd (e_y.symm.trans (by assumption)) (by decide)) (fun z => by first | exact absurd z.1 (by assumption) | exact absurd z.2.1 (by assumption) | exact absurd z.2.2 (fun q => q (by assumption))))]))  _ _ _ hI (lv_sub hl [0, 1, 3, 4, 5] rfl)
            · refine lv_aload_n hx hb dX5_wouldFallTo_64 rfl (lv_at hl 3 rfl) ?_
              refine lv_iload hx hb dX5_wouldFallTo_65 (lv_at hl 1 rfl) ?_
              refine lv_iconst (v := 5) hx hb dX5_wouldFallTo_67 (by decide) ?_
              refine g_callVi (rest := []) (c_X5_of l D tb ad hj P M V k 5 (by first | assumption | omega) (by first | assumption | omega)) rfl rfl gm_X5_of hx hb hml hown hts hC hI (by decide) (e_x g_us) rfl rfl qm_X5_33 rfl hl.1 rfl ⟨rfl, rfl, by decide, by decide⟩ (Nat.le_of_ble_eq_true rfl) ⟨Nat.zero_le _, Nat.zero_le _⟩ dX5_wouldFallTo_68 (fun H locs hI => ?_)
              refine lv_iload hx hb dX5_wouldFallTo_71 (lv_at hl 0 rfl) ?_
              refine lv_icmp_le (tgt := 80) hx hb dX5_wouldFallTo_73 (by decide) (fun c5 => ?_) (fun c5 => ?_)
              · refine lv_iconst (v := 0) hx hb dX5_wouldFallTo_80 (by decide) ?_
                refine lv_istore_n (lv' := [(3, .int 0), (5, .int ((((V 1 (34 + 7 * k + 3)) * pr) * (V 1 7)) / 100)), (4, .int (nI k)), (0, .ref (ad 7 0)), (1, .int le), (2, .int pr)]) hx hb dX5_wouldFallTo_81 rfl hl (by decide) rfl (fun ls hl => ?_)
                refine lv_iinc (v := nI (k + 1)) (lv' := [(4, .int (nI (k + 1))), (3, .int 0), (5, .int ((((V 1 (34 + 7 * k + 3)) * pr) * (V 1 7)) / 100)), (0, .ref (ad 7 0)), (1, .int le), (2, .int pr)]) hx hb dX5_wouldFallTo_82 hl (k := 2) rfl (nI_1 _) (by decide) rfl (fun ls hl => ?_)
                refine lv_goto (tgt := 5) hx hb dX5_wouldFallTo_85 (by decide) ?_
                exact ih5 (k + 1) _ (by omega) (by omega) (by first | (rw [if_pos (m_any_y (by by_cases z : m_any V le pr k = true; exact z; rw [if_neg z] at e_y; exact absurd e_y (by assumption)))]) | (rw [if_pos (m_any_n ⟨by assumption, by assumption, by assumption⟩)]) | (rw [if_neg (m_any_f (fun z => by rw [if_pos z] at e_y; exact absurd (e_y.symm.trans (by assumption)) (by decide)) (fun z => by first | exact absurd z.1 (by assumption) | exact absurd z.2.1 (by assumption) | exact absurd z.2.2 (fun q => q (by assumption))))]))  _ _ _ hI (lv_sub hl [0, 1, 3, 4, 5] rfl)
              · refine lv_iconst (v := 1) hx hb dX5_wouldFallTo_76 (by decide) ?_
                refine lv_goto (tgt := 81) hx hb dX5_wouldFallTo_77 (by decide) ?_
                refine lv_istore_n (lv' := [(3, .int 1), (5, .int ((((V 1 (34 + 7 * k + 3)) * pr) * (V 1 7)) / 100)), (4, .int (nI k)), (0, .ref (ad 7 0)), (1, .int le), (2, .int pr)]) hx hb dX5_wouldFallTo_81 rfl hl (by decide) rfl (fun ls hl => ?_)
                refine lv_iinc (v := nI (k + 1)) (lv' := [(4, .int (nI (k + 1))), (3, .int 1), (5, .int ((((V 1 (34 + 7 * k + 3)) * pr) * (V 1 7)) / 100)), (0, .ref (ad 7 0)), (1, .int le), (2, .int pr)]) hx hb dX5_wouldFallTo_82 hl (k := 2) rfl (nI_1 _) (by decide) rfl (fun ls hl => ?_)
                refine lv_goto (tgt := 5) hx hb dX5_wouldFallTo_85 (by decide) ?_
                exact ih5 (k + 1) _ (by omega) (by omega) (by first | (rw [if_pos (m_any_y (by by_cases z : m_any V le pr k = true; exact z; rw [if_neg z] at e_y; exact absurd e_y (by assumption)))]) | (rw [if_pos (m_any_n ⟨by assumption, by assumption, by assumption⟩)]) | (rw [if_neg (m_any_f (fun z => by rw [if_pos z] at e_y; exact absurd (e_y.symm.trans (by assumption)) (by decide)) (fun z => by first | exact absurd z.1 (by assumption) | exact absurd z.2.1 (by assumption) | exact absurd z.2.2 (fun q => q (by assumption))))]))  _ _ _ hI (lv_sub hl [0, 1, 3, 4, 5] rfl)
  exact lp5 (n + 1) 0 _ (by omega) (by omega) rfl  _ _ _ hI (lv_sub hl [0, 1, 2, 3, 4] rfl)
abbrev rm_X5_fallTo : Room := { frames := 2, cells := 0, slots := 0, locals := 47 }
set_option maxHeartbeats 800000 in
set_option maxRecDepth 100000 in
theorem c_X5_fallTo (l : Launch) (D : va_G) (tb : g_T) (ad : g_Ad) (hj : g_inj ad) (P : g_P) (M : g_M) (V : g_V) (le : Int32) (n : Nat) (hn : m_N V n) : g_Ci l yX5_fallTo cX5_fallTo 3 (some .int) rm_X5_fallTo D tb ad [.ref (ad 7 0), .int le] P (va_up M 7 V) (m_fallTo V le n) P (va_up M 7 V) := by
  refine g_go (by decide) (Nat.le_of_ble_eq_true rfl) hj ?_
  intro p e s m below meth c ls H locs R args Q hR0 hQ hx hb hml hr0 hlk hown hts hC hI hl
  subst hR0
  have hown : s.vm.findClass RX5 = some m.cls := hown
  have hl : lv_has ls 3 [(0, .ref (ad 7 0)), (1, .int le)] := hl
  refine lv_iload_n hx hb dX5_fallTo_0 rfl (lv_at hl 1 rfl) ?_
  refine lv_iconst (v := 0) hx hb dX5_fallTo_1 (by decide) ?_
  refine lv_iconst (v := 2) hx hb dX5_fallTo_2 (by decide) ?_
  refine g_callSi (rest := []) (c_X5_in l D tb ad hj P (va_up M 7 V) le 0 2) rfl rfl gm_X5_in hx hb hml hown hts hC hI qm_X5_67 rfl hl.1 rfl ⟨rfl, rfl, by decide, by decide⟩ (Nat.le_of_ble_eq_true rfl) ⟨Nat.zero_le _, Nat.zero_le _⟩ dX5_fallTo_3 (fun H locs hI => ?_)
  refine g_tf (fun c1 => ?_) (fun c1 => ?_)
  · refine lv_if_ne (tgt := 12) hx hb dX5_fallTo_6 (by decide) (fun _ => ?_) (fun c2 => absurd c2 (by decide))
    refine lv_bipush (v := 99) hx hb dX5_fallTo_12 (by decide) ?_
    refine lv_istore_n (lv' := [(2, .int 99), (0, .ref (ad 7 0)), (1, .int le)]) hx hb dX5_fallTo_14 rfl hl (by decide) rfl (fun ls hl => ?_)
    have lp15 : ∀ (d pz : Nat), pz ≤ 99 → pz < 0 + d → (∀ j, j < 99 - pz → (fun j => m_any V le (nI (99 - j)) n) j = false) → ∀ (H : Heap) (locs : List Loc) (ls : Array Slot), g_I D tb ad (g_A ad) s H locs P (va_up M 7 V) → lv_has ls 3 [(2, .int (nI pz)), (0, .ref (ad 7 0)), (1, .int le)] → W p l e rm_X5_fallTo s m args below meth c H locs 0 0 Q (F0 m 15 ls []) := by
      intro d
      induction d with
      | zero => intro pz hkp hfu; intros; omega
      | succ d ih15 =>
        intro pz hkp hfu hout H locs ls hI hl
        refine lv_iload_n hx hb dX5_fallTo_15 rfl (lv_at hl 0 rfl) ?_
        refine lv_if_le (tgt := 34) hx hb dX5_fallTo_16 (by decide) (fun c3 => ?_) (fun c3 => ?_)
        · have c3n : pz ≤ 0 := (nI_leI (a := pz) (b := 0) (by omega) (by omega)).mp c3
          refine lv_iload_n hx hb dX5_fallTo_34 rfl (lv_at hl 0 rfl) ?_
          refine lv_if_ne (tgt := 43) hx hb dX5_fallTo_35 (by decide) (fun c4 => ?_) (fun c4 => ?_)
          · have c4n : ¬ pz = 0 := fun z => c4 ((nI_eq (a := pz) (b := 0) (by omega) (by omega)).mpr z)
            refine lv_iload_n hx hb dX5_fallTo_43 rfl (lv_at hl 0 rfl) ?_
            exact g_ir hQ hx hb hr0 hlk hC hI dX5_fallTo_44 rfl (by first | (exfalso; omega) | (unfold m_fallTo; (first | rw [if_pos c1] | rw [if_neg c1] | skip); (first | rw [if_pos c3] | rw [if_neg c3] | skip); (first | rw [if_pos c4] | rw [if_neg c4] | skip); try (first | with_reducible rfl | (rw [show k_find (fun j => m_any V le (nI (99 - j)) n) 99 = some (99 - pz) from k_find_at (by omega) hany hout]; show nI pz = nI (99 - (99 - pz)); rw [show 99 - (99 - pz) = pz from by omega]) | (rw [show k_find (fun j => m_any V le (nI (99 - j)) n) 99 = none from k_find_none.mpr (fun j hj => hout j (by omega))])))) rfl rfl
          · have c4n : pz = 0 := (nI_eq (a := pz) (b := 0) (by omega) (by omega)).mp c4
            refine lv_ldc (v := (-2000000004)) hx hb hown (hts _ qc_X5_150) dX5_fallTo_38 ?_
            refine lv_goto (tgt := 44) hx hb dX5_fallTo_40 (by decide) ?_
            exact g_ir hQ hx hb hr0 hlk hC hI dX5_fallTo_44 rfl (by first | (exfalso; omega) | (unfold m_fallTo; (first | rw [if_pos c1] | rw [if_neg c1] | skip); (first | rw [if_pos c3] | rw [if_neg c3] | skip); (first | rw [if_pos c4] | rw [if_neg c4] | skip); try (first | with_reducible rfl | (rw [show k_find (fun j => m_any V le (nI (99 - j)) n) 99 = some (99 - pz) from k_find_at (by omega) hany hout]; show nI pz = nI (99 - (99 - pz)); rw [show 99 - (99 - pz) = pz from by omega]) | (rw [show k_find (fun j => m_any V le (nI (99 - j)) n) 99 = none from k_find_none.mpr (fun j hj => hout j (by omega))])))) rfl rfl
        · have c3n : ¬ pz ≤ 0 := fun z => c3 ((nI_leI (a := pz) (b := 0) (by omega) (by omega)).mpr z)
          refine lv_aload_n hx hb dX5_fallTo_19 rfl (lv_at hl 1 rfl) ?_
          refine lv_iload_n hx hb dX5_fallTo_20 rfl (lv_at hl 2 rfl) ?_
          refine lv_iload_n hx hb dX5_fallTo_21 rfl (lv_at hl 0 rfl) ?_
          refine g_callVi (rest := []) (c_X5_wouldFallTo l D tb ad hj P M V le (nI pz) n (by first | assumption | omega)) rfl rfl gm_X5_wouldFallTo hx hb hml hown hts hC hI (by decide) (e_x g_us) rfl rfl qm_X5_157 rfl hl.1 rfl ⟨rfl, rfl, by decide, by decide⟩ (Nat.le_of_ble_eq_true rfl) ⟨Nat.zero_le _, Nat.zero_le _⟩ dX5_fallTo_22 (fun H locs hI => ?_)
          refine g_tf (fun c5 => ?_) (fun c5 => ?_)
          · have hany : (fun j => m_any V le (nI (99 - j)) n) (99 - pz) = true := by
              show m_any V le (nI (99 - (99 - pz))) n = true
              rw [show 99 - (99 - pz) = pz from by omega]
              exact c5
            refine lv_if_ne (tgt := 34) hx hb dX5_fallTo_25 (by decide) (fun _ => ?_) (fun c6 => absurd c6 (by decide))
            refine lv_iload_n hx hb dX5_fallTo_34 rfl (lv_at hl 0 rfl) ?_
            refine lv_if_ne (tgt := 43) hx hb dX5_fallTo_35 (by decide) (fun c7 => ?_) (fun c7 => ?_)
            · have c7n : ¬ pz = 0 := fun z => c7 ((nI_eq (a := pz) (b := 0) (by omega) (by omega)).mpr z)
              refine lv_iload_n hx hb dX5_fallTo_43 rfl (lv_at hl 0 rfl) ?_
              exact g_ir hQ hx hb hr0 hlk hC hI dX5_fallTo_44 rfl (by first | (exfalso; omega) | (unfold m_fallTo; (first | rw [if_pos c1] | rw [if_neg c1] | skip); (first | rw [if_pos c3] | rw [if_neg c3] | skip); (first | rw [if_pos c5] | rw [if_neg c5] | skip); (first | rw [if_pos c7] | rw [if_neg c7] | skip); try (first | with_reducible rfl | (rw [show k_find (fun j => m_any V le (nI (99 - j)) n) 99 = some (99 - pz) from k_find_at (by omega) hany hout]; show nI pz = nI (99 - (99 - pz)); rw [show 99 - (99 - pz) = pz from by omega]) | (rw [show k_find (fun j => m_any V le (nI (99 - j)) n) 99 = none from k_find_none.mpr (fun j hj => hout j (by omega))])))) rfl rfl
            · have c7n : pz = 0 := (nI_eq (a := pz) (b := 0) (by omega) (by omega)).mp c7
              refine lv_ldc (v := (-2000000004)) hx hb hown (hts _ qc_X5_150) dX5_fallTo_38 ?_
              refine lv_goto (tgt := 44) hx hb dX5_fallTo_40 (by decide) ?_
              exact g_ir hQ hx hb hr0 hlk hC hI dX5_fallTo_44 rfl (by first | (exfalso; omega) | (unfold m_fallTo; (first | rw [if_pos c1] | rw [if_neg c1] | skip); (first | rw [if_pos c3] | rw [if_neg c3] | skip); (first | rw [if_pos c5] | rw [if_neg c5] | skip); (first | rw [if_pos c7] | rw [if_neg c7] | skip); try (first | with_reducible rfl | (rw [show k_find (fun j => m_any V le (nI (99 - j)) n) 99 = some (99 - pz) from k_find_at (by omega) hany hout]; show nI pz = nI (99 - (99 - pz)); rw [show 99 - (99 - pz) = pz from by omega]) | (rw [show k_find (fun j => m_any V le (nI (99 - j)) n) 99 = none from k_find_none.mpr (fun j hj => hout j (by omega))])))) rfl rfl
          · refine lv_if_ne (tgt := 34) hx hb dX5_fallTo_25 (by decide) (fun c8 => absurd c8 (by decide)) (fun _ => ?_)
            refine lv_iinc (v := nI (pz - 1)) (lv' := [(2, .int (nI (pz - 1))), (0, .ref (ad 7 0)), (1, .int le)]) hx hb dX5_fallTo_28 hl (k := 0) rfl (k_dm (by omega)) (by decide) rfl (fun ls hl => ?_)
            refine lv_goto (tgt := 15) hx hb dX5_fallTo_31 (by decide) ?_
            exact ih15 (pz - 1)  (by omega) (by omega)  (by intro j hj; rcases Nat.lt_or_ge j (99 - pz) with h | h; exact hout j h; show m_any V le (nI (99 - j)) n = false; rw [show 99 - j = pz from by omega]; exact Bool.eq_false_iff.mpr c5) _ _ _ hI (lv_sub hl [0, 1, 2] rfl)
    exact lp15 100 99  (by omega) (by omega)  (fun j hj => absurd hj (Nat.not_lt_zero j)) _ _ _ hI (lv_sub hl [0, 1, 2] rfl)
  · refine lv_if_ne (tgt := 12) hx hb dX5_fallTo_6 (by decide) (fun c9 => absurd c9 (by decide)) (fun _ => ?_)
    refine lv_ldc (v := (-2000000001)) hx hb hown (hts _ qc_X5_25) dX5_fallTo_9 ?_
    exact g_ir hQ hx hb hr0 hlk hC hI dX5_fallTo_11 rfl (by first | (exfalso; omega) | (unfold m_fallTo; (first | rw [if_pos c1] | rw [if_neg c1] | skip); try (first | with_reducible rfl | (rw [show k_find (fun j => m_any V le (nI (99 - j)) n) 99 = some (99 - pz) from k_find_at (by omega) hany hout]; show nI pz = nI (99 - (99 - pz)); rw [show 99 - (99 - pz) = pz from by omega]) | (rw [show k_find (fun j => m_any V le (nI (99 - j)) n) 99 = none from k_find_none.mpr (fun j hj => hout j (by omega))])))) rfl rfl
abbrev rm_X5_sumOf : Room := { frames := 2, cells := 0, slots := 0, locals := 45 }
set_option maxHeartbeats 800000 in
set_option maxRecDepth 100000 in
theorem c_X5_sumOf (l : Launch) (D : va_G) (tb : g_T) (ad : g_Ad) (hj : g_inj ad) (P : g_P) (M : g_M) (V : g_V) (w : Int32) (n : Nat) (hn : m_N V n) : g_Ci l yX5_sumOf cX5_sumOf 4 (some .int) rm_X5_sumOf D tb ad [.ref (ad 7 0), .int w] P (va_up M 7 V) (k_sum (m_sumF V n w) 3) P (va_up M 7 V) := by
  refine g_go (by decide) (Nat.le_of_ble_eq_true rfl) hj ?_
  intro p e s m below meth c ls H locs R args Q hR0 hQ hx hb hml hr0 hlk hown hts hC hI hl
  subst hR0
  have hown : s.vm.findClass RX5 = some m.cls := hown
  have hl : lv_has ls 4 [(0, .ref (ad 7 0)), (1, .int w)] := hl
  refine lv_iconst (v := 0) hx hb dX5_sumOf_0 (by decide) ?_
  refine lv_istore_n (lv' := [(2, .int 0), (0, .ref (ad 7 0)), (1, .int w)]) hx hb dX5_sumOf_1 rfl hl (by decide) rfl (fun ls hl => ?_)
  refine lv_iconst (v := 0) hx hb dX5_sumOf_2 (by decide) ?_
  refine lv_istore_n (lv' := [(3, .int 0), (2, .int 0), (0, .ref (ad 7 0)), (1, .int w)]) hx hb dX5_sumOf_3 rfl hl (by decide) rfl (fun ls hl => ?_)
  have lp4 : ∀ (d k : Nat) (y : Int32), k ≤ 3 → 3 < k + d → y = k_sum (m_sumF V n w) k → ∀ (H : Heap) (locs : List Loc) (ls : Array Slot), g_I D tb ad (g_A ad) s H locs P (va_up M 7 V) → lv_has ls 4 [(3, .int (nI k)), (2, .int y), (0, .ref (ad 7 0)), (1, .int w)] → W p l e rm_X5_sumOf s m args below meth c H locs 0 0 Q (F0 m 4 ls []) := by
    intro d
    induction d with
    | zero => intro k y hkp hfu; intros; omega
    | succ d ih4 =>
      intro k y hkp hfu e_y H locs ls hI hl
      refine lv_iload_n hx hb dX5_sumOf_4 rfl (lv_at hl 0 rfl) ?_
      refine lv_iconst (v := 3) hx hb dX5_sumOf_5 (by decide) ?_
      refine lv_icmp_ge (tgt := 36) hx hb dX5_sumOf_6 (by decide) (fun c1 => ?_) (fun c1 => ?_)
      · have c1n : 3 ≤ k := (nI_leI (a := 3) (b := k) (by omega) (by omega)).mp c1
        refine lv_iload_n hx hb dX5_sumOf_36 rfl (lv_at hl 1 rfl) ?_
        exact g_ir hQ hx hb hr0 hlk hC hI dX5_sumOf_37 rfl (by rw [show k = 3 from (by omega)] at e_y; rw [← e_y]) rfl rfl
      · have c1n : ¬ 3 ≤ k := fun z => c1 ((nI_leI (a := 3) (b := k) (by omega) (by omega)).mpr z)
        refine lv_iload_n hx hb dX5_sumOf_9 rfl (lv_at hl 1 rfl) ?_
        refine lv_iload_n hx hb dX5_sumOf_10 rfl (lv_at hl 3 rfl) ?_
        refine lv_iconst (v := 1) hx hb dX5_sumOf_11 (by decide) ?_
        refine lv_icmp_ne (tgt := 23) hx hb dX5_sumOf_12 (by decide) (fun c2 => ?_) (fun c2 => ?_)
        · refine lv_aload_n hx hb dX5_sumOf_23 rfl (lv_at hl 2 rfl) ?_
          refine lv_iload_n hx hb dX5_sumOf_24 rfl (lv_at hl 0 rfl) ?_
          refine g_callVi (rest := [.int y]) (c_X5_inBins l D tb ad hj P M V (nI k)) rfl rfl gm_X5_inBins hx hb hml hown hts hC hI (by decide) (e_x g_us) rfl rfl qm_X5_58 rfl hl.1 rfl ⟨rfl, rfl, by decide, by decide⟩ (Nat.le_of_ble_eq_true rfl) ⟨Nat.zero_le _, Nat.zero_le _⟩ dX5_sumOf_25 (fun H locs hI => ?_)
          refine lv_iadd hx hb dX5_sumOf_28 ?_
          refine lv_istore_n (lv' := [(2, .int (y + (m_inBins V (nI k)))), (3, .int (nI k)), (0, .ref (ad 7 0)), (1, .int w)]) hx hb dX5_sumOf_29 rfl hl (by decide) rfl (fun ls hl => ?_)
          refine lv_iinc (v := nI (k + 1)) (lv' := [(3, .int (nI (k + 1))), (2, .int (y + (m_inBins V (nI k)))), (0, .ref (ad 7 0)), (1, .int w)]) hx hb dX5_sumOf_30 hl (k := 1) rfl (nI_1 _) (by decide) rfl (fun ls hl => ?_)
          refine lv_goto (tgt := 4) hx hb dX5_sumOf_33 (by decide) ?_
          exact ih4 (k + 1) _ (by omega) (by omega) (by rw [k_sum, m_sumF]; (first | rw [if_pos c1] | rw [if_neg c1] | skip); (first | rw [if_pos c2] | rw [if_neg c2] | skip); rw [e_y])  _ _ _ hI (lv_sub hl [0, 1, 2, 3] rfl)
        · refine lv_aload_n hx hb dX5_sumOf_15 rfl (lv_at hl 2 rfl) ?_
          refine lv_iload_n hx hb dX5_sumOf_16 rfl (lv_at hl 0 rfl) ?_
          refine g_callVi (rest := [.int y]) (c_X5_inReceipts l D tb ad hj P M V (nI k) n (by first | assumption | omega)) rfl rfl gm_X5_inReceipts hx hb hml hown hts hC hI (by decide) (e_x g_us) rfl rfl qm_X5_61 rfl hl.1 rfl ⟨rfl, rfl, by decide, by decide⟩ (Nat.le_of_ble_eq_true rfl) ⟨Nat.zero_le _, Nat.zero_le _⟩ dX5_sumOf_17 (fun H locs hI => ?_)
          refine lv_goto (tgt := 28) hx hb dX5_sumOf_20 (by decide) ?_
          refine lv_iadd hx hb dX5_sumOf_28 ?_
          refine lv_istore_n (lv' := [(2, .int (y + (m_inReceipts V n (nI k)))), (3, .int (nI k)), (0, .ref (ad 7 0)), (1, .int w)]) hx hb dX5_sumOf_29 rfl hl (by decide) rfl (fun ls hl => ?_)
          refine lv_iinc (v := nI (k + 1)) (lv' := [(3, .int (nI (k + 1))), (2, .int (y + (m_inReceipts V n (nI k)))), (0, .ref (ad 7 0)), (1, .int w)]) hx hb dX5_sumOf_30 hl (k := 1) rfl (nI_1 _) (by decide) rfl (fun ls hl => ?_)
          refine lv_goto (tgt := 4) hx hb dX5_sumOf_33 (by decide) ?_
          exact ih4 (k + 1) _ (by omega) (by omega) (by rw [k_sum, m_sumF]; (first | rw [if_pos c1] | rw [if_neg c1] | skip); (first | rw [if_pos c2] | rw [if_neg c2] | skip); rw [e_y])  _ _ _ hI (lv_sub hl [0, 1, 2, 3] rfl)
  exact lp4 (3 + 1) 0 _ (by omega) (by omega) rfl  _ _ _ hI (lv_sub hl [0, 1, 2, 3] rfl)
def m_count (V : g_V) (w : Int32) (n : Nat) : Int32 :=
  if w = 0 then (V 1 0) else if w = 1 then (k_sum (m_sumF V n 1) 3) else if w = 2 then (k_sum (m_sumF V n 2) 3) else if w = 3 then (V 1 1) else if w = 4 then (V 1 2) else if w = 5 then (V 1 3) else if w = 6 then (V 1 4) else if w = 7 then (V 1 5) else if w = 8 then (V 0 3) else if w = 9 then (V 0 5) else (if m_in w 20 23 then (V 1 (6 + (w.toNatClampNeg) - 20)) else (-2000000001))
abbrev rm_X5_count : Room := { frames := 3, cells := 0, slots := 0, locals := 68 }
set_option maxHeartbeats 800000 in
set_option maxRecDepth 100000 in
theorem c_X5_count (l : Launch) (D : va_G) (tb : g_T) (ad : g_Ad) (hj : g_inj ad) (P : g_P) (M : g_M) (V : g_V) (w : Int32) (n : Nat) (hn : m_N V n) : g_Ci l yX5_count cX5_count 2 (some .int) rm_X5_count D tb ad [.ref (ad 7 0), .int w] P (va_up M 7 V) (m_count V w n) P (va_up M 7 V) := by
  refine g_go (by decide) (Nat.le_of_ble_eq_true rfl) hj ?_
  intro p e s m below meth c ls H locs R args Q hR0 hQ hx hb hml hr0 hlk hown hts hC hI hl
  subst hR0
  have hown : s.vm.findClass RX5 = some m.cls := hown
  have hl : lv_has ls 2 [(0, .ref (ad 7 0)), (1, .int w)] := hl
  refine lv_iload_n hx hb dX5_count_0 rfl (lv_at hl 1 rfl) ?_
  by_cases c1 : w = 0
  · refine lv_tableIn (tgt := 56) hx hb dX5_count_1 (by rw [c1]; decide) (by rw [c1]; decide) (by rw [c1]; rfl) (by decide) ?_
    subst c1
    refine lv_aload_n hx hb dX5_count_56 rfl (lv_at hl 0 rfl) ?_
    refine g_get 0 hx hb hts hown hC hI i_X5 (by decide) (e_x g_us) rfl (by decide) qf_X5_7 rfl rfl dX5_count_57 ?_
    refine lv_iconst (v := 0) hx hb dX5_count_60 (by decide) ?_
    refine g_iald 0 hx hb hC hI (by decide) (e_xs g_us) (by unfold vp_in; decide) rfl dX5_count_61 ?_
    exact g_ir hQ hx hb hr0 hlk hC hI dX5_count_62 rfl (by unfold m_count; skip; (first | rw [if_pos rfl] | rw [if_neg rfl] | skip); try with_reducible rfl) rfl rfl
  by_cases c2 : w = 1
  · refine lv_tableIn (tgt := 63) hx hb dX5_count_1 (by rw [c2]; decide) (by rw [c2]; decide) (by rw [c2]; rfl) (by decide) ?_
    subst c2
    refine lv_aload_n hx hb dX5_count_63 rfl (lv_at hl 0 rfl) ?_
    refine lv_iload_n hx hb dX5_count_64 rfl (lv_at hl 1 rfl) ?_
    refine g_callVi (rest := []) (c_X5_sumOf l D tb ad hj P M V 1 n (by first | assumption | omega)) rfl rfl gm_X5_sumOf hx hb hml hown hts hC hI (by decide) (e_x g_us) rfl rfl qm_X5_160 rfl hl.1 rfl ⟨rfl, rfl, by decide, by decide⟩ (Nat.le_of_ble_eq_true rfl) ⟨Nat.zero_le _, Nat.zero_le _⟩ dX5_count_65 (fun H locs hI => ?_)
    exact g_ir hQ hx hb hr0 hlk hC hI dX5_count_68 rfl (by unfold m_count; skip; (first | rw [if_pos c1] | rw [if_neg c1] | skip); (first | rw [if_pos rfl] | rw [if_neg rfl] | skip); try with_reducible rfl) rfl rfl
  by_cases c3 : w = 2
  · refine lv_tableIn (tgt := 63) hx hb dX5_count_1 (by rw [c3]; decide) (by rw [c3]; decide) (by rw [c3]; rfl) (by decide) ?_
    subst c3
    refine lv_aload_n hx hb dX5_count_63 rfl (lv_at hl 0 rfl) ?_
    refine lv_iload_n hx hb dX5_count_64 rfl (lv_at hl 1 rfl) ?_
    refine g_callVi (rest := []) (c_X5_sumOf l D tb ad hj P M V 2 n (by first | assumption | omega)) rfl rfl gm_X5_sumOf hx hb hml hown hts hC hI (by decide) (e_x g_us) rfl rfl qm_X5_160 rfl hl.1 rfl ⟨rfl, rfl, by decide, by decide⟩ (Nat.le_of_ble_eq_true rfl) ⟨Nat.zero_le _, Nat.zero_le _⟩ dX5_count_65 (fun H locs hI => ?_)
    exact g_ir hQ hx hb hr0 hlk hC hI dX5_count_68 rfl (by unfold m_count; skip; (first | rw [if_pos c1] | rw [if_neg c1] | skip); (first | rw [if_pos c2] | rw [if_neg c2] | skip); (first | rw [if_pos rfl] | rw [if_neg rfl] | skip); try with_reducible rfl) rfl rfl
  by_cases c4 : w = 3
  · refine lv_tableIn (tgt := 69) hx hb dX5_count_1 (by rw [c4]; decide) (by rw [c4]; decide) (by rw [c4]; rfl) (by decide) ?_
    subst c4
    refine lv_aload_n hx hb dX5_count_69 rfl (lv_at hl 0 rfl) ?_
    refine g_get 0 hx hb hts hown hC hI i_X5 (by decide) (e_x g_us) rfl (by decide) qf_X5_7 rfl rfl dX5_count_70 ?_
    refine lv_iconst (v := 1) hx hb dX5_count_73 (by decide) ?_
    refine g_iald 1 hx hb hC hI (by decide) (e_xs g_us) (by unfold vp_in; decide) rfl dX5_count_74 ?_
    exact g_ir hQ hx hb hr0 hlk hC hI dX5_count_75 rfl (by unfold m_count; skip; (first | rw [if_pos c1] | rw [if_neg c1] | skip); (first | rw [if_pos c2] | rw [if_neg c2] | skip); (first | rw [if_pos c3] | rw [if_neg c3] | skip); (first | rw [if_pos rfl] | rw [if_neg rfl] | skip); try with_reducible rfl) rfl rfl
  by_cases c5 : w = 4
  · refine lv_tableIn (tgt := 76) hx hb dX5_count_1 (by rw [c5]; decide) (by rw [c5]; decide) (by rw [c5]; rfl) (by decide) ?_
    subst c5
    refine lv_aload_n hx hb dX5_count_76 rfl (lv_at hl 0 rfl) ?_
    refine g_get 0 hx hb hts hown hC hI i_X5 (by decide) (e_x g_us) rfl (by decide) qf_X5_7 rfl rfl dX5_count_77 ?_
    refine lv_iconst (v := 2) hx hb dX5_count_80 (by decide) ?_
    refine lv_iload_n hx hb dX5_count_81 rfl (lv_at hl 1 rfl) ?_
    refine lv_iadd hx hb dX5_count_82 ?_
    refine g_te (y := 6) (by decide) ?_
    refine lv_iconst (v := 4) hx hb dX5_count_83 (by decide) ?_
    refine lv_isub hx hb dX5_count_84 ?_
    refine g_te (y := 2) (by decide) ?_
    refine g_iald 2 hx hb hC hI (by decide) (e_xs g_us) (by unfold vp_in; decide) rfl dX5_count_85 ?_
    exact g_ir hQ hx hb hr0 hlk hC hI dX5_count_86 rfl (by unfold m_count; skip; (first | rw [if_pos c1] | rw [if_neg c1] | skip); (first | rw [if_pos c2] | rw [if_neg c2] | skip); (first | rw [if_pos c3] | rw [if_neg c3] | skip); (first | rw [if_pos c4] | rw [if_neg c4] | skip); (first | rw [if_pos rfl] | rw [if_neg rfl] | skip); try with_reducible rfl) rfl rfl
  by_cases c6 : w = 5
  · refine lv_tableIn (tgt := 76) hx hb dX5_count_1 (by rw [c6]; decide) (by rw [c6]; decide) (by rw [c6]; rfl) (by decide) ?_
    subst c6
    refine lv_aload_n hx hb dX5_count_76 rfl (lv_at hl 0 rfl) ?_
    refine g_get 0 hx hb hts hown hC hI i_X5 (by decide) (e_x g_us) rfl (by decide) qf_X5_7 rfl rfl dX5_count_77 ?_
    refine lv_iconst (v := 2) hx hb dX5_count_80 (by decide) ?_
    refine lv_iload_n hx hb dX5_count_81 rfl (lv_at hl 1 rfl) ?_
    refine lv_iadd hx hb dX5_count_82 ?_
    refine g_te (y := 7) (by decide) ?_
    refine lv_iconst (v := 4) hx hb dX5_count_83 (by decide) ?_
    refine lv_isub hx hb dX5_count_84 ?_
    refine g_te (y := 3) (by decide) ?_
    refine g_iald 3 hx hb hC hI (by decide) (e_xs g_us) (by unfold vp_in; decide) rfl dX5_count_85 ?_
    exact g_ir hQ hx hb hr0 hlk hC hI dX5_count_86 rfl (by unfold m_count; skip; (first | rw [if_pos c1] | rw [if_neg c1] | skip); (first | rw [if_pos c2] | rw [if_neg c2] | skip); (first | rw [if_pos c3] | rw [if_neg c3] | skip); (first | rw [if_pos c4] | rw [if_neg c4] | skip); (first | rw [if_pos c5] | rw [if_neg c5] | skip); (first | rw [if_pos rfl] | rw [if_neg rfl] | skip); try with_reducible rfl) rfl rfl
  by_cases c7 : w = 6
  · refine lv_tableIn (tgt := 76) hx hb dX5_count_1 (by rw [c7]; decide) (by rw [c7]; decide) (by rw [c7]; rfl) (by decide) ?_
    subst c7
    refine lv_aload_n hx hb dX5_count_76 rfl (lv_at hl 0 rfl) ?_
    refine g_get 0 hx hb hts hown hC hI i_X5 (by decide) (e_x g_us) rfl (by decide) qf_X5_7 rfl rfl dX5_count_77 ?_
    refine lv_iconst (v := 2) hx hb dX5_count_80 (by decide) ?_
    refine lv_iload_n hx hb dX5_count_81 rfl (lv_at hl 1 rfl) ?_
    refine lv_iadd hx hb dX5_count_82 ?_
    refine g_te (y := 8) (by decide) ?_
    refine lv_iconst (v := 4) hx hb dX5_count_83 (by decide) ?_
    refine lv_isub hx hb dX5_count_84 ?_
    refine g_te (y := 4) (by decide) ?_
    refine g_iald 4 hx hb hC hI (by decide) (e_xs g_us) (by unfold vp_in; decide) rfl dX5_count_85 ?_
    exact g_ir hQ hx hb hr0 hlk hC hI dX5_count_86 rfl (by unfold m_count; skip; (first | rw [if_pos c1] | rw [if_neg c1] | skip); (first | rw [if_pos c2] | rw [if_neg c2] | skip); (first | rw [if_pos c3] | rw [if_neg c3] | skip); (first | rw [if_pos c4] | rw [if_neg c4] | skip); (first | rw [if_pos c5] | rw [if_neg c5] | skip); (first | rw [if_pos c6] | rw [if_neg c6] | skip); (first | rw [if_pos rfl] | rw [if_neg rfl] | skip); try with_reducible rfl) rfl rfl
  by_cases c8 : w = 7
  · refine lv_tableIn (tgt := 76) hx hb dX5_count_1 (by rw [c8]; decide) (by rw [c8]; decide) (by rw [c8]; rfl) (by decide) ?_
    subst c8
    refine lv_aload_n hx hb dX5_count_76 rfl (lv_at hl 0 rfl) ?_
    refine g_get 0 hx hb hts hown hC hI i_X5 (by decide) (e_x g_us) rfl (by decide) qf_X5_7 rfl rfl dX5_count_77 ?_
    refine lv_iconst (v := 2) hx hb dX5_count_80 (by decide) ?_
    refine lv_iload_n hx hb dX5_count_81 rfl (lv_at hl 1 rfl) ?_
    refine lv_iadd hx hb dX5_count_82 ?_
    refine g_te (y := 9) (by decide) ?_
    refine lv_iconst (v := 4) hx hb dX5_count_83 (by decide) ?_
    refine lv_isub hx hb dX5_count_84 ?_
    refine g_te (y := 5) (by decide) ?_
    refine g_iald 5 hx hb hC hI (by decide) (e_xs g_us) (by unfold vp_in; decide) rfl dX5_count_85 ?_
    exact g_ir hQ hx hb hr0 hlk hC hI dX5_count_86 rfl (by unfold m_count; skip; (first | rw [if_pos c1] | rw [if_neg c1] | skip); (first | rw [if_pos c2] | rw [if_neg c2] | skip); (first | rw [if_pos c3] | rw [if_neg c3] | skip); (first | rw [if_pos c4] | rw [if_neg c4] | skip); (first | rw [if_pos c5] | rw [if_neg c5] | skip); (first | rw [if_pos c6] | rw [if_neg c6] | skip); (first | rw [if_pos c7] | rw [if_neg c7] | skip); (first | rw [if_pos rfl] | rw [if_neg rfl] | skip); try with_reducible rfl) rfl rfl
  by_cases c9 : w = 8
  · refine lv_tableIn (tgt := 87) hx hb dX5_count_1 (by rw [c9]; decide) (by rw [c9]; decide) (by rw [c9]; rfl) (by decide) ?_
    subst c9
    refine lv_aload_n hx hb dX5_count_87 rfl (lv_at hl 0 rfl) ?_
    refine g_get 3 hx hb hts hown hC hI i_X5 (by decide) (e_x g_us) rfl (by decide) qf_X5_29 rfl rfl dX5_count_88 ?_
    exact g_ir hQ hx hb hr0 hlk hC hI dX5_count_91 rfl (by unfold m_count; skip; (first | rw [if_pos c1] | rw [if_neg c1] | skip); (first | rw [if_pos c2] | rw [if_neg c2] | skip); (first | rw [if_pos c3] | rw [if_neg c3] | skip); (first | rw [if_pos c4] | rw [if_neg c4] | skip); (first | rw [if_pos c5] | rw [if_neg c5] | skip); (first | rw [if_pos c6] | rw [if_neg c6] | skip); (first | rw [if_pos c7] | rw [if_neg c7] | skip); (first | rw [if_pos c8] | rw [if_neg c8] | skip); (first | rw [if_pos rfl] | rw [if_neg rfl] | skip); try with_reducible rfl) rfl rfl
  by_cases c10 : w = 9
  · refine lv_tableIn (tgt := 92) hx hb dX5_count_1 (by rw [c10]; decide) (by rw [c10]; decide) (by rw [c10]; rfl) (by decide) ?_
    subst c10
    refine lv_aload_n hx hb dX5_count_92 rfl (lv_at hl 0 rfl) ?_
    refine g_get 5 hx hb hts hown hC hI i_X5 (by decide) (e_x g_us) rfl (by decide) qf_X5_163 rfl rfl dX5_count_93 ?_
    exact g_ir hQ hx hb hr0 hlk hC hI dX5_count_96 rfl (by unfold m_count; skip; (first | rw [if_pos c1] | rw [if_neg c1] | skip); (first | rw [if_pos c2] | rw [if_neg c2] | skip); (first | rw [if_pos c3] | rw [if_neg c3] | skip); (first | rw [if_pos c4] | rw [if_neg c4] | skip); (first | rw [if_pos c5] | rw [if_neg c5] | skip); (first | rw [if_pos c6] | rw [if_neg c6] | skip); (first | rw [if_pos c7] | rw [if_neg c7] | skip); (first | rw [if_pos c8] | rw [if_neg c8] | skip); (first | rw [if_pos c9] | rw [if_neg c9] | skip); (first | rw [if_pos rfl] | rw [if_neg rfl] | skip); try with_reducible rfl) rfl rfl
  refine lv_tableOut (tgt := 97) hx hb dX5_count_1 (by have c1i := k_ti c1 (k := 0) rfl; have c2i := k_ti c2 (k := 1) rfl; have c3i := k_ti c3 (k := 2) rfl; have c4i := k_ti c4 (k := 3) rfl; have c5i := k_ti c5 (k := 4) rfl; have c6i := k_ti c6 (k := 5) rfl; have c7i := k_ti c7 (k := 6) rfl; have c8i := k_ti c8 (k := 7) rfl; have c9i := k_ti c9 (k := 8) rfl; have c10i := k_ti c10 (k := 9) rfl; omega) (by decide) ?_
  refine lv_iload_n hx hb dX5_count_97 rfl (lv_at hl 1 rfl) ?_
  refine lv_bipush (v := 20) hx hb dX5_count_98 (by decide) ?_
  refine lv_bipush (v := 23) hx hb dX5_count_100 (by decide) ?_
  refine g_callSi (rest := []) (c_X5_in l D tb ad hj P (va_up M 7 V) w 20 23) rfl rfl gm_X5_in hx hb hml hown hts hC hI qm_X5_67 rfl hl.1 rfl ⟨rfl, rfl, by decide, by decide⟩ (Nat.le_of_ble_eq_true rfl) ⟨Nat.zero_le _, Nat.zero_le _⟩ dX5_count_102 (fun H locs hI => ?_)
  refine g_tf (fun c11 => ?_) (fun c11 => ?_)
  · obtain ⟨w1, hw1, rfl⟩ := m_nI20 (N := 23) c11 rfl
    have hclw1 : (nI w1).toNatClampNeg = w1 := nI_clamp (by omega)
    refine lv_if_eq (tgt := 123) hx hb dX5_count_105 (by decide) (fun c12 => absurd c12 (by decide)) (fun _ => ?_)
    refine lv_aload_n hx hb dX5_count_108 rfl (lv_at hl 0 rfl) ?_
    refine g_get 0 hx hb hts hown hC hI i_X5 (by decide) (e_x g_us) rfl (by decide) qf_X5_7 rfl rfl dX5_count_109 ?_
    refine lv_bipush (v := 6) hx hb dX5_count_112 (by decide) ?_
    refine lv_iload_n hx hb dX5_count_114 rfl (lv_at hl 1 rfl) ?_
    refine lv_iadd hx hb dX5_count_115 ?_
    refine g_te (nI_add 6 w1) ?_
    refine lv_bipush (v := 20) hx hb dX5_count_116 (by decide) ?_
    refine lv_isub hx hb dX5_count_118 ?_
    refine g_te (y := (nI (6 + w1 - 20))) (pk_sub (b := 20) (by omega)) ?_
    refine g_iald (6 + w1 - 20) hx hb hC hI (by decide) (e_xs g_us) (vp_in_nI (by omega) (by decide)) (nI_clamp (by omega)) dX5_count_119 ?_
    refine lv_goto (tgt := 125) hx hb dX5_count_120 (by decide) ?_
    exact g_ir hQ hx hb hr0 hlk hC hI dX5_count_125 rfl (by unfold m_count; (try simp only [hclw1]); (first | rw [if_pos c1] | rw [if_neg c1] | skip); (first | rw [if_pos c2] | rw [if_neg c2] | skip); (first | rw [if_pos c3] | rw [if_neg c3] | skip); (first | rw [if_pos c4] | rw [if_neg c4] | skip); (first | rw [if_pos c5] | rw [if_neg c5] | skip); (first | rw [if_pos c6] | rw [if_neg c6] | skip); (first | rw [if_pos c7] | rw [if_neg c7] | skip); (first | rw [if_pos c8] | rw [if_neg c8] | skip); (first | rw [if_pos c9] | rw [if_neg c9] | skip); (first | rw [if_pos c10] | rw [if_neg c10] | skip); (first | rw [if_pos c11] | rw [if_neg c11] | skip); try with_reducible rfl) rfl rfl
  · refine lv_if_eq (tgt := 123) hx hb dX5_count_105 (by decide) (fun _ => ?_) (fun c13 => absurd c13 (by decide))
    refine lv_ldc (v := (-2000000001)) hx hb hown (hts _ qc_X5_25) dX5_count_123 ?_
    exact g_ir hQ hx hb hr0 hlk hC hI dX5_count_125 rfl (by unfold m_count; (try simp only [hclw1]); (first | rw [if_pos c1] | rw [if_neg c1] | skip); (first | rw [if_pos c2] | rw [if_neg c2] | skip); (first | rw [if_pos c3] | rw [if_neg c3] | skip); (first | rw [if_pos c4] | rw [if_neg c4] | skip); (first | rw [if_pos c5] | rw [if_neg c5] | skip); (first | rw [if_pos c6] | rw [if_neg c6] | skip); (first | rw [if_pos c7] | rw [if_neg c7] | skip); (first | rw [if_pos c8] | rw [if_neg c8] | skip); (first | rw [if_pos c9] | rw [if_neg c9] | skip); (first | rw [if_pos c10] | rw [if_neg c10] | skip); (first | rw [if_pos c11] | rw [if_neg c11] | skip); try with_reducible rfl) rfl rfl
def m_undo (V : g_V) : Int32 × g_V :=
  if (nI ((V 0 3).toNatClampNeg)) = 0 then ((-2000000002), V) else ((m_undoN (g_w2 V 0 3 (nI (((V 0 3).toNatClampNeg) - 1))) (146 * (((V 0 3).toNatClampNeg) - 1)) 146) 0 3, (m_undoN (g_w2 V 0 3 (nI (((V 0 3).toNatClampNeg) - 1))) (146 * (((V 0 3).toNatClampNeg) - 1)) 146))
abbrev rm_X5_undo : Room := { frames := 0, cells := 0, slots := 0, locals := 0 }
set_option maxHeartbeats 800000 in
set_option maxRecDepth 100000 in
theorem c_X5_undo (l : Launch) (D : va_G) (tb : g_T) (ad : g_Ad) (hj : g_inj ad) (P : g_P) (M : g_M) (V : g_V) (sn : Nat) (hs : m_S V sn) : g_Ci l yX5_undo cX5_undo 2 (some .int) rm_X5_undo D tb ad [.ref (ad 7 0)] P (va_up M 7 V) ((m_undo V).1) P (va_up M 7 ((m_undo V).2)) := by
  refine g_go (by decide) (Nat.le_of_ble_eq_true rfl) hj ?_
  intro p e s m below meth c ls H locs R args Q hR0 hQ hx hb hml hr0 hlk hown hts hC hI hl
  subst hR0
  have hown : s.vm.findClass RX5 = some m.cls := hown
  have hl : lv_has ls 2 [(0, .ref (ad 7 0))] := hl
  refine lv_aload_n hx hb dX5_undo_0 rfl (lv_at hl 0 rfl) ?_
  refine g_get 3 hx hb hts hown hC hI i_X5 (by decide) (e_x g_us) rfl (by decide) qf_X5_29 rfl rfl dX5_undo_1 ?_
  refine g_te (y := (nI sn)) hs.1 ?_
  refine lv_if_ne (tgt := 10) hx hb dX5_undo_4 (by decide) (fun c1 => ?_) (fun c1 => ?_)
  · have c1n : ¬ sn = 0 := fun z => c1 ((nI_eq (a := sn) (b := 0) (by omega) (by omega)).mpr z)
    refine lv_aload_n hx hb dX5_undo_10 rfl (lv_at hl 0 rfl) ?_
    refine lv_dup hx hb dX5_undo_11 rfl ?_
    refine g_get 3 hx hb hts hown hC hI i_X5 (by decide) (e_x g_us) rfl (by decide) qf_X5_29 rfl rfl dX5_undo_12 ?_
    refine lv_iconst (v := 1) hx hb dX5_undo_15 (by decide) ?_
    refine lv_isub hx hb dX5_undo_16 ?_
    refine g_te (y := (nI (sn - 1))) (by rw [hs.1]; exact k_dp (by omega)) ?_
    refine g_put 3 (ty := .int) hx hb hts hown hC hI i_X5 tyX5_ok nmX5 (by decide) (e_x g_us) rfl (by decide) qf_X5_29 rfl rfl rfl rfl rfl (Nat.le_of_ble_eq_true rfl) (p_x (by decide)) g_hs dX5_undo_17 (fun H locs hI => ?_)
    refine lv_iconst (v := 0) hx hb dX5_undo_20 (by decide) ?_
    refine lv_istore_n (lv' := [(1, .int 0), (0, .ref (ad 7 0))]) hx hb dX5_undo_21 rfl hl (by decide) rfl (fun ls hl => ?_)
    have lp22 : ∀ (d k : Nat) (Vx : g_V), k ≤ 146 → 146 < k + d → Vx = m_undoN (g_w2 V 0 3 (nI (sn - 1))) (146 * (sn - 1)) k → (Vx 0 3 = nI (sn - 1)) → ∀ (H : Heap) (locs : List Loc) (ls : Array Slot), g_I D tb ad (g_A ad) s H locs P (va_up M 7 Vx) → lv_has ls 2 [(1, .int (nI k)), (0, .ref (ad 7 0))] → W p l e rm_X5_undo s m args below meth c H locs 0 0 Q (F0 m 22 ls []) := by
      intro d
      induction d with
      | zero => intro k Vx hkp hfu; intros; omega
      | succ d ih22 =>
        intro k Vx hkp hfu e_Vx h0 H locs ls hI hl
        refine lv_iload_n hx hb dX5_undo_22 rfl (lv_at hl 0 rfl) ?_
        refine lv_sipush (v := 146) hx hb dX5_undo_23 (by decide) ?_
        refine lv_icmp_ge (tgt := 56) hx hb dX5_undo_26 (by decide) (fun c2 => ?_) (fun c2 => ?_)
        · have c2n : 146 ≤ k := (nI_leI (a := 146) (b := k) (by omega) (by omega)).mp c2
          refine lv_aload_n hx hb dX5_undo_56 rfl (lv_at hl 1 rfl) ?_
          refine g_get 3 hx hb hts hown hC hI i_X5 (by decide) (e_x g_us) rfl (by decide) qf_X5_29 rfl rfl dX5_undo_57 ?_
          exact g_ir hQ hx hb hr0 hlk hC hI dX5_undo_60 rfl (by rw [show k = 146 from (by omega)] at e_Vx; unfold m_undo; (try simp only [show (V 0 3).toNatClampNeg = sn from by rw [hs.1]; exact nI_clamp (by have := hs.2; omega)]); (try rw [← e_Vx]); (first | rw [if_pos c1] | rw [if_neg c1] | skip); (first | rw [if_pos c2] | rw [if_neg c2] | skip); try with_reducible rfl) rfl (by rw [show k = 146 from (by omega)] at e_Vx; unfold m_undo; (try simp only [show (V 0 3).toNatClampNeg = sn from by rw [hs.1]; exact nI_clamp (by have := hs.2; omega)]); (try rw [← e_Vx]); (first | rw [if_pos c1] | rw [if_neg c1] | skip); (first | rw [if_pos c2] | rw [if_neg c2] | skip); try with_reducible rfl)
        · have c2n : ¬ 146 ≤ k := fun z => c2 ((nI_leI (a := 146) (b := k) (by omega) (by omega)).mpr z)
          refine lv_aload_n hx hb dX5_undo_29 rfl (lv_at hl 1 rfl) ?_
          refine g_get 0 hx hb hts hown hC hI i_X5 (by decide) (e_x g_us) rfl (by decide) qf_X5_7 rfl rfl dX5_undo_30 ?_
          refine lv_iload_n hx hb dX5_undo_33 rfl (lv_at hl 0 rfl) ?_
          refine lv_aload_n hx hb dX5_undo_34 rfl (lv_at hl 1 rfl) ?_
          refine g_get 2 hx hb hts hown hC hI i_X5 (by decide) (e_x g_us) rfl (by decide) qf_X5_16 rfl rfl dX5_undo_35 ?_
          refine lv_sipush (v := 146) hx hb dX5_undo_38 (by decide) ?_
          refine lv_aload_n hx hb dX5_undo_41 rfl (lv_at hl 1 rfl) ?_
          refine g_get 3 hx hb hts hown hC hI i_X5 (by decide) (e_x g_us) rfl (by decide) qf_X5_29 rfl rfl dX5_undo_42 ?_
          refine g_te (y := (nI (sn - 1))) h0 ?_
          refine lv_imul hx hb dX5_undo_45 ?_
          refine g_te (pk_mul 146 (sn - 1)) ?_
          refine lv_iload_n hx hb dX5_undo_46 rfl (lv_at hl 0 rfl) ?_
          refine lv_iadd hx hb dX5_undo_47 ?_
          refine g_te (nI_add (146 * (sn - 1)) k) ?_
          refine g_iald ((146 * (sn - 1)) + k) hx hb hC hI (by decide) (e_xp g_us) (vp_in_nI (by omega) (by decide)) (nI_clamp (by omega)) dX5_undo_48 ?_
          refine g_iast k hx hb hC hI (by decide) (e_xs g_us) (vp_in_nI (by omega) (by decide)) (nI_clamp (by omega)) p_xs g_hs dX5_undo_49 (fun H locs hI => ?_)
          refine lv_iinc (v := nI (k + 1)) (lv' := [(1, .int (nI (k + 1))), (0, .ref (ad 7 0))]) hx hb dX5_undo_50 hl (k := 0) rfl (nI_1 _) (by decide) rfl (fun ls hl => ?_)
          refine lv_goto (tgt := 22) hx hb dX5_undo_53 (by decide) ?_
          exact ih22 (k + 1) _ (by omega) (by omega) (by unfold m_undoN; rw [k_iter]; unfold m_undoN at e_Vx; rw [← e_Vx]) (by rw [w2_c (by decide)]; exact h0) _ _ _ hI (lv_sub hl [0, 1] rfl)
    exact lp22 (146 + 1) 0 _ (by omega) (by omega) rfl (show g_w2 V 0 3 (nI (sn - 1)) 0 3 = nI (sn - 1) from w2_at) _ _ _ hI (lv_sub hl [0, 1] rfl)
  · have c1n : sn = 0 := (nI_eq (a := sn) (b := 0) (by omega) (by omega)).mp c1
    refine lv_ldc (v := (-2000000002)) hx hb hown (hts _ qc_X5_86) dX5_undo_7 ?_
    exact g_ir hQ hx hb hr0 hlk hC hI dX5_undo_9 rfl (by unfold m_undo; (try simp only [show (V 0 3).toNatClampNeg = sn from by rw [hs.1]; exact nI_clamp (by have := hs.2; omega)]); skip; (first | rw [if_pos c1] | rw [if_neg c1] | skip); try with_reducible rfl) rfl (by unfold m_undo; (try simp only [show (V 0 3).toNatClampNeg = sn from by rw [hs.1]; exact nI_clamp (by have := hs.2; omega)]); skip; (first | rw [if_pos c1] | rw [if_neg c1] | skip); try with_reducible rfl)
def m_type (V : g_V) (ch : Int32) : Int32 × g_V :=
  if m_in ch 32 126 then (if (nI ((V 0 5).toNatClampNeg)) = 60 then ((-2000000003), V) else ((g_w2 (g_w2 V 4 ((V 0 5).toNatClampNeg) ch) 0 5 (((g_w2 V 4 ((V 0 5).toNatClampNeg) ch) 0 5) + 1)) 0 5, (g_w2 (g_w2 V 4 ((V 0 5).toNatClampNeg) ch) 0 5 (((g_w2 V 4 ((V 0 5).toNatClampNeg) ch) 0 5) + 1)))) else ((-2000000001), V)
abbrev rm_X5_type : Room := { frames := 1, cells := 0, slots := 0, locals := 22 }
set_option maxHeartbeats 800000 in
set_option maxRecDepth 100000 in
theorem c_X5_type (l : Launch) (D : va_G) (tb : g_T) (ad : g_Ad) (hj : g_inj ad) (P : g_P) (M : g_M) (V : g_V) (ch : Int32) (ln : Nat) (hl5 : V 0 5 = nI ln ∧ ln ≤ 60) : g_Ci l yX5_type cX5_type 2 (some .int) rm_X5_type D tb ad [.ref (ad 7 0), .int ch] P (va_up M 7 V) ((m_type V ch).1) P (va_up M 7 ((m_type V ch).2)) := by
  refine g_go (by decide) (Nat.le_of_ble_eq_true rfl) hj ?_
  intro p e s m below meth c ls H locs R args Q hR0 hQ hx hb hml hr0 hlk hown hts hC hI hl
  subst hR0
  have hown : s.vm.findClass RX5 = some m.cls := hown
  have hl : lv_has ls 2 [(0, .ref (ad 7 0)), (1, .int ch)] := hl
  refine lv_iload_n hx hb dX5_type_0 rfl (lv_at hl 1 rfl) ?_
  refine lv_bipush (v := 32) hx hb dX5_type_1 (by decide) ?_
  refine lv_bipush (v := 126) hx hb dX5_type_3 (by decide) ?_
  refine g_callSi (rest := []) (c_X5_in l D tb ad hj P (va_up M 7 V) ch 32 126) rfl rfl gm_X5_in hx hb hml hown hts hC hI qm_X5_67 rfl hl.1 rfl ⟨rfl, rfl, by decide, by decide⟩ (Nat.le_of_ble_eq_true rfl) ⟨Nat.zero_le _, Nat.zero_le _⟩ dX5_type_5 (fun H locs hI => ?_)
  refine g_tf (fun c1 => ?_) (fun c1 => ?_)
  · refine lv_if_ne (tgt := 14) hx hb dX5_type_8 (by decide) (fun _ => ?_) (fun c2 => absurd c2 (by decide))
    refine lv_aload_n hx hb dX5_type_14 rfl (lv_at hl 0 rfl) ?_
    refine g_get 5 hx hb hts hown hC hI i_X5 (by decide) (e_x g_us) rfl (by decide) qf_X5_163 rfl rfl dX5_type_15 ?_
    refine g_te (y := (nI ln)) hl5.1 ?_
    refine lv_bipush (v := 60) hx hb dX5_type_18 (by decide) ?_
    refine lv_icmp_ne (tgt := 26) hx hb dX5_type_20 (by decide) (fun c3 => ?_) (fun c3 => ?_)
    · have c3n : ¬ ln = 60 := fun z => c3 ((nI_eq (a := ln) (b := 60) (by omega) (by omega)).mpr z)
      refine lv_aload_n hx hb dX5_type_26 rfl (lv_at hl 0 rfl) ?_
      refine g_get 4 hx hb hts hown hC hI i_X5 (by decide) (e_x g_us) rfl (by decide) qf_X5_19 rfl rfl dX5_type_27 ?_
      refine lv_aload_n hx hb dX5_type_30 rfl (lv_at hl 0 rfl) ?_
      refine g_get 5 hx hb hts hown hC hI i_X5 (by decide) (e_x g_us) rfl (by decide) qf_X5_163 rfl rfl dX5_type_31 ?_
      refine g_te (y := (nI ln)) hl5.1 ?_
      refine lv_iload_n hx hb dX5_type_34 rfl (lv_at hl 1 rfl) ?_
      refine g_iast ln hx hb hC hI (by decide) (e_xt g_us) (vp_in_nI (by omega) (by decide)) (nI_clamp (by omega)) p_xt g_hs dX5_type_35 (fun H locs hI => ?_)
      refine lv_aload_n hx hb dX5_type_36 rfl (lv_at hl 0 rfl) ?_
      refine lv_dup hx hb dX5_type_37 rfl ?_
      refine g_get 5 hx hb hts hown hC hI i_X5 (by decide) (e_x g_us) rfl (by decide) qf_X5_163 rfl rfl dX5_type_38 ?_
      refine lv_iconst (v := 1) hx hb dX5_type_41 (by decide) ?_
      refine lv_iadd hx hb dX5_type_42 ?_
      refine g_put 5 (ty := .int) hx hb hts hown hC hI i_X5 tyX5_ok nmX5 (by decide) (e_x g_us) rfl (by decide) qf_X5_163 rfl rfl rfl rfl rfl (Nat.le_of_ble_eq_true rfl) (p_x (by decide)) g_hs dX5_type_43 (fun H locs hI => ?_)
      refine lv_aload_n hx hb dX5_type_46 rfl (lv_at hl 0 rfl) ?_
      refine g_get 5 hx hb hts hown hC hI i_X5 (by decide) (e_x g_us) rfl (by decide) qf_X5_163 rfl rfl dX5_type_47 ?_
      exact g_ir hQ hx hb hr0 hlk hC hI dX5_type_50 rfl (by unfold m_type; (try simp only [show (V 0 5).toNatClampNeg = ln from by rw [hl5.1]; exact nI_clamp (by have := hl5.2; omega)]); (first | rw [if_pos c1] | rw [if_neg c1] | skip); (first | rw [if_pos c3] | rw [if_neg c3] | skip); try with_reducible rfl) rfl (by unfold m_type; (try simp only [show (V 0 5).toNatClampNeg = ln from by rw [hl5.1]; exact nI_clamp (by have := hl5.2; omega)]); (first | rw [if_pos c1] | rw [if_neg c1] | skip); (first | rw [if_pos c3] | rw [if_neg c3] | skip); try with_reducible rfl)
    · have c3n : ln = 60 := (nI_eq (a := ln) (b := 60) (by omega) (by omega)).mp c3
      refine lv_ldc (v := (-2000000003)) hx hb hown (hts _ qc_X5_74) dX5_type_23 ?_
      exact g_ir hQ hx hb hr0 hlk hC hI dX5_type_25 rfl (by unfold m_type; (try simp only [show (V 0 5).toNatClampNeg = ln from by rw [hl5.1]; exact nI_clamp (by have := hl5.2; omega)]); (first | rw [if_pos c1] | rw [if_neg c1] | skip); (first | rw [if_pos c3] | rw [if_neg c3] | skip); try with_reducible rfl) rfl (by unfold m_type; (try simp only [show (V 0 5).toNatClampNeg = ln from by rw [hl5.1]; exact nI_clamp (by have := hl5.2; omega)]); (first | rw [if_pos c1] | rw [if_neg c1] | skip); (first | rw [if_pos c3] | rw [if_neg c3] | skip); try with_reducible rfl)
  · refine lv_if_ne (tgt := 14) hx hb dX5_type_8 (by decide) (fun c4 => absurd c4 (by decide)) (fun _ => ?_)
    refine lv_ldc (v := (-2000000001)) hx hb hown (hts _ qc_X5_25) dX5_type_11 ?_
    exact g_ir hQ hx hb hr0 hlk hC hI dX5_type_13 rfl (by unfold m_type; (try simp only [show (V 0 5).toNatClampNeg = ln from by rw [hl5.1]; exact nI_clamp (by have := hl5.2; omega)]); (first | rw [if_pos c1] | rw [if_neg c1] | skip); try with_reducible rfl) rfl (by unfold m_type; (try simp only [show (V 0 5).toNatClampNeg = ln from by rw [hl5.1]; exact nI_clamp (by have := hl5.2; omega)]); (first | rw [if_pos c1] | rw [if_neg c1] | skip); try with_reducible rfl)
def m_clearText (V : g_V) : Int32 × g_V :=
  (V 0 5, (g_w2 V 0 5 0))
abbrev rm_X5_clearText : Room := { frames := 0, cells := 0, slots := 0, locals := 0 }
set_option maxHeartbeats 800000 in
set_option maxRecDepth 100000 in
theorem c_X5_clearText (l : Launch) (D : va_G) (tb : g_T) (ad : g_Ad) (hj : g_inj ad) (P : g_P) (M : g_M) (V : g_V) : g_Ci l yX5_clearText cX5_clearText 2 (some .int) rm_X5_clearText D tb ad [.ref (ad 7 0)] P (va_up M 7 V) ((m_clearText V).1) P (va_up M 7 ((m_clearText V).2)) := by
  refine g_go (by decide) (Nat.le_of_ble_eq_true rfl) hj ?_
  intro p e s m below meth c ls H locs R args Q hR0 hQ hx hb hml hr0 hlk hown hts hC hI hl
  subst hR0
  have hown : s.vm.findClass RX5 = some m.cls := hown
  have hl : lv_has ls 2 [(0, .ref (ad 7 0))] := hl
  refine lv_aload_n hx hb dX5_clearText_0 rfl (lv_at hl 0 rfl) ?_
  refine g_get 5 hx hb hts hown hC hI i_X5 (by decide) (e_x g_us) rfl (by decide) qf_X5_163 rfl rfl dX5_clearText_1 ?_
  refine lv_istore_n (lv' := [(1, .int (V 0 5)), (0, .ref (ad 7 0))]) hx hb dX5_clearText_4 rfl hl (by decide) rfl (fun ls hl => ?_)
  refine lv_aload_n hx hb dX5_clearText_5 rfl (lv_at hl 1 rfl) ?_
  refine lv_iconst (v := 0) hx hb dX5_clearText_6 (by decide) ?_
  refine g_put 5 (ty := .int) hx hb hts hown hC hI i_X5 tyX5_ok nmX5 (by decide) (e_x g_us) rfl (by decide) qf_X5_163 rfl rfl rfl rfl rfl (Nat.le_of_ble_eq_true rfl) (p_x (by decide)) g_hs dX5_clearText_7 (fun H locs hI => ?_)
  refine lv_iload_n hx hb dX5_clearText_10 rfl (lv_at hl 0 rfl) ?_
  exact g_ir hQ hx hb hr0 hlk hC hI dX5_clearText_11 rfl (by unfold m_clearText; skip; skip; try with_reducible rfl) rfl (by unfold m_clearText; skip; skip; try with_reducible rfl)
