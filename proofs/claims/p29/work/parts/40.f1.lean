abbrev rm_X4_bitsOf : Room := { frames := 0, cells := 0, slots := 0, locals := 0 }
set_option maxHeartbeats 800000 in
set_option maxRecDepth 100000 in
theorem c_X4_bitsOf (l : Launch) (D : va_G) (tb : g_T) (ad : g_Ad) (hj : g_inj ad) (P : g_P) (M : g_M) (E T : Nat) (hE1 : 1 ≤ E) (hE2 : E ≤ 254) (hT : T < 8388608) : g_Ci l yX4_bitsOf cX4_bitsOf 4 (some .int) rm_X4_bitsOf D tb ad [.float (kF E T)] P (M) ((kF E T).toInt32) P (M) := by
  refine g_go (by decide) (Nat.le_of_ble_eq_true rfl) hj ?_
  intro p e s m below meth c ls H locs R args Q hR0 hQ hx hb hml hr0 hlk hown hts hC hI hl
  subst hR0
  have hown : s.vm.findClass RX4 = some m.cls := hown
  have hl : lv_has ls 4 [(0, .float (kF E T))] := hl
  refine lv_fload_n hx hb dX4_bitsOf_0 rfl (lv_at hl 0 rfl) ?_
  refine lv_fconst0 hx hb dX4_bitsOf_1 ?_
  refine lv_fcmp hx hb dX4_bitsOf_2 ?_
  refine lv_if_gt (tgt := 8) hx hb dX4_bitsOf_3 (by decide) (fun c1 => ?_) (fun c1 => ?_)
  · refine lv_fload_n hx hb dX4_bitsOf_8 rfl (lv_at hl 0 rfl) ?_
    refine lv_fstore_n (lv' := [(1, .float (kF E T)), (0, .float (kF E T))]) hx hb dX4_bitsOf_9 rfl hl (by decide) rfl (fun ls hl => ?_)
    refine lv_bipush (v := 127) hx hb dX4_bitsOf_10 (by decide) ?_
    refine lv_istore_n (lv' := [(2, .int 127), (1, .float (kF E T)), (0, .float (kF E T))]) hx hb dX4_bitsOf_12 rfl hl (by decide) rfl (fun ls hl => ?_)
    refine lv_iconst (v := 0) hx hb dX4_bitsOf_13 (by decide) ?_
    refine lv_istore_n (lv' := [(3, .int 0), (2, .int 127), (1, .float (kF E T)), (0, .float (kF E T))]) hx hb dX4_bitsOf_14 rfl hl (by decide) rfl (fun ls hl => ?_)
    have lp15 : ∀ (d k : Nat), k ≤ 127 ∧ (k = 0 ∨ 127 + k ≤ E) → 127 < k + d → ∀ (H : Heap) (locs : List Loc) (ls : Array Slot), g_I D tb ad (g_A ad) s H locs P (M) → lv_has ls 4 [(3, .int (nI k)), (2, .int (nI (127 + k))), (1, .float (kF (E - k) T)), (0, .float (kF E T))] → W p l e rm_X4_bitsOf s m args below meth c H locs 0 0 Q (F0 m 15 ls []) := by
      intro d
      induction d with
      | zero => intro k hkp hfu; omega
      | succ d ih15 =>
        intro k hkp hfu H locs ls hI hl
        refine lv_iload_n hx hb dX4_bitsOf_15 rfl (lv_at hl 0 rfl) ?_
        refine lv_bipush (v := 127) hx hb dX4_bitsOf_16 (by decide) ?_
        refine lv_icmp_ge (tgt := 40) hx hb dX4_bitsOf_18 (by decide) (fun c2 => ?_) (fun c2 => ?_)
        · have c2n : 127 ≤ k := (nI_leI (a := 127) (b := k) (by omega) (by omega)).mp c2
          refine lv_iconst (v := 0) hx hb dX4_bitsOf_40 (by decide) ?_
          refine lv_istore_n (lv' := [(3, .int 0), (2, .int (nI (127 + k))), (1, .float (kF (E - k) T)), (0, .float (kF E T))]) hx hb dX4_bitsOf_41 rfl hl (by decide) rfl (fun ls hl => ?_)
          have lp42 : ∀ (d q : Nat), q ≤ 126 ∧ (q = 0 ∨ E - k + q ≤ 127) → 126 < q + d → ∀ (H : Heap) (locs : List Loc) (ls : Array Slot), g_I D tb ad (g_A ad) s H locs P (M) → lv_has ls 4 [(3, .int (nI q)), (2, .int (nI (127 + k - q))), (1, .float (kF (E - k + q) T)), (0, .float (kF E T))] → W p l e rm_X4_bitsOf s m args below meth c H locs 0 0 Q (F0 m 42 ls []) := by
            intro d
            induction d with
            | zero => intro q hkp hfu; omega
            | succ d ih42 =>
              intro q hkp hfu H locs ls hI hl
              refine lv_iload_n hx hb dX4_bitsOf_42 rfl (lv_at hl 0 rfl) ?_
              refine lv_bipush (v := 126) hx hb dX4_bitsOf_43 (by decide) ?_
              refine lv_icmp_ge (tgt := 67) hx hb dX4_bitsOf_45 (by decide) (fun c3 => ?_) (fun c3 => ?_)
              · have c3n : 126 ≤ q := (nI_leI (a := 126) (b := q) (by omega) (by omega)).mp c3
                refine lv_iload_n hx hb dX4_bitsOf_67 rfl (lv_at hl 1 rfl) ?_
                refine lv_bipush (v := 23) hx hb dX4_bitsOf_68 (by decide) ?_
                refine lv_ishl hx hb dX4_bitsOf_70 ?_
                refine lv_fload_n hx hb dX4_bitsOf_71 rfl (lv_at hl 2 rfl) ?_
                refine lv_ldcf hx hb hown (hts _ qcf_X4_138) dX4_bitsOf_72 ?_
                rw [show (1258291200 : UInt32) = kF 150 0 from rfl]
                refine lv_fmul hx hb dX4_bitsOf_74 (by rw [show E - k + q = 127 from (by omega), kF_mul (E3 := 150) (by omega) (by omega) hT (by omega) (by omega) (by omega) (by omega) (by omega)]; exact kF_ok (by omega) hT) ?_
                rw [show E - k + q = 127 from (by omega), kF_mul (E3 := 150) (by omega) (by omega) hT (by omega) (by omega) (by omega) (by omega) (by omega)]
                refine lv_f2i hx hb dX4_bitsOf_75 ?_
                rw [kF_f2i hT]
                refine lv_ldc (v := 8388608) hx hb hown (hts _ qc_X4_139) dX4_bitsOf_76 ?_
                refine lv_isub hx hb dX4_bitsOf_78 ?_
                refine lv_iadd hx hb dX4_bitsOf_79 ?_
                exact g_ir hQ hx hb hr0 hlk hC hI dX4_bitsOf_80 rfl (by rw [show 127 + k - q = E from (by omega)]; exact kF_bits hE2) rfl rfl
              · have c3n : ¬ 126 ≤ q := fun z => c3 ((nI_leI (a := 126) (b := q) (by omega) (by omega)).mpr z)
                refine lv_fload_n hx hb dX4_bitsOf_48 rfl (lv_at hl 2 rfl) ?_
                refine lv_fconst1 hx hb dX4_bitsOf_49 ?_
                refine lv_fcmp hx hb dX4_bitsOf_50 ?_
                refine lv_if_ge (tgt := 67) hx hb dX4_bitsOf_51 (by decide) (fun c4 => ?_) (fun c4 => ?_)
                · have h51 : 127 ≤ E - k + q := (kF_1g (by omega) (by omega) hT).mp c4
                  refine lv_iload_n hx hb dX4_bitsOf_67 rfl (lv_at hl 1 rfl) ?_
                  refine lv_bipush (v := 23) hx hb dX4_bitsOf_68 (by decide) ?_
                  refine lv_ishl hx hb dX4_bitsOf_70 ?_
                  refine lv_fload_n hx hb dX4_bitsOf_71 rfl (lv_at hl 2 rfl) ?_
                  refine lv_ldcf hx hb hown (hts _ qcf_X4_138) dX4_bitsOf_72 ?_
                  rw [show (1258291200 : UInt32) = kF 150 0 from rfl]
                  refine lv_fmul hx hb dX4_bitsOf_74 (by rw [show E - k + q = 127 from (by omega), kF_mul (E3 := 150) (by omega) (by omega) hT (by omega) (by omega) (by omega) (by omega) (by omega)]; exact kF_ok (by omega) hT) ?_
                  rw [show E - k + q = 127 from (by omega), kF_mul (E3 := 150) (by omega) (by omega) hT (by omega) (by omega) (by omega) (by omega) (by omega)]
                  refine lv_f2i hx hb dX4_bitsOf_75 ?_
                  rw [kF_f2i hT]
                  refine lv_ldc (v := 8388608) hx hb hown (hts _ qc_X4_139) dX4_bitsOf_76 ?_
                  refine lv_isub hx hb dX4_bitsOf_78 ?_
                  refine lv_iadd hx hb dX4_bitsOf_79 ?_
                  exact g_ir hQ hx hb hr0 hlk hC hI dX4_bitsOf_80 rfl (by rw [show 127 + k - q = E from (by omega)]; exact kF_bits hE2) rfl rfl
                · have h51 : ¬ 127 ≤ E - k + q := fun z => c4 ((kF_1g (by omega) (by omega) hT).mpr z)
                  refine lv_fload_n hx hb dX4_bitsOf_54 rfl (lv_at hl 2 rfl) ?_
                  refine lv_fconst2 hx hb dX4_bitsOf_55 ?_
                  refine lv_fmul hx hb dX4_bitsOf_56 (by rw [show FP.fconst2 = kF 128 0 from rfl, kF_mul (E3 := E - k + (q + 1)) (by omega) (by omega) hT (by omega) (by omega) (by omega) (by omega) (by omega)]; exact kF_ok (by omega) hT) ?_
                  rw [show FP.fconst2 = kF 128 0 from rfl, kF_mul (E3 := E - k + (q + 1)) (by omega) (by omega) hT (by omega) (by omega) (by omega) (by omega) (by omega)]
                  refine lv_fstore_n (lv' := [(1, .float (kF (E - k + (q + 1)) T)), (3, .int (nI q)), (2, .int (nI (127 + k - q))), (0, .float (kF E T))]) hx hb dX4_bitsOf_57 rfl hl (by decide) rfl (fun ls hl => ?_)
                  refine lv_iinc (v := nI (127 + k - (q + 1))) (lv' := [(2, .int (nI (127 + k - (q + 1)))), (1, .float (kF (E - k + (q + 1)) T)), (3, .int (nI q)), (0, .float (kF E T))]) hx hb dX4_bitsOf_58 hl (k := 2) rfl (k_dec1 (by omega)) (by decide) rfl (fun ls hl => ?_)
                  refine lv_iinc (v := nI (q + 1)) (lv' := [(3, .int (nI (q + 1))), (2, .int (nI (127 + k - (q + 1)))), (1, .float (kF (E - k + (q + 1)) T)), (0, .float (kF E T))]) hx hb dX4_bitsOf_61 hl (k := 2) rfl (nI_1 _) (by decide) rfl (fun ls hl => ?_)
                  refine lv_goto (tgt := 42) hx hb dX4_bitsOf_64 (by decide) ?_
                  exact ih42 (q + 1)  (by omega) (by omega)   _ _ _ hI (lv_sub hl [0, 1, 2, 3] rfl)
          exact lp42 (126 + 1) 0  (by omega) (by omega)   _ _ _ hI (lv_sub hl [0, 1, 2, 3] rfl)
        · have c2n : ¬ 127 ≤ k := fun z => c2 ((nI_leI (a := 127) (b := k) (by omega) (by omega)).mpr z)
          refine lv_fload_n hx hb dX4_bitsOf_21 rfl (lv_at hl 2 rfl) ?_
          refine lv_fconst2 hx hb dX4_bitsOf_22 ?_
          refine lv_fcmp hx hb dX4_bitsOf_23 ?_
          refine lv_if_lt (tgt := 40) hx hb dX4_bitsOf_24 (by decide) (fun c5 => ?_) (fun c5 => ?_)
          · have h24 : E - k < 128 := (kF_2l (by omega) (by omega) hT).mp c5
            refine lv_iconst (v := 0) hx hb dX4_bitsOf_40 (by decide) ?_
            refine lv_istore_n (lv' := [(3, .int 0), (2, .int (nI (127 + k))), (1, .float (kF (E - k) T)), (0, .float (kF E T))]) hx hb dX4_bitsOf_41 rfl hl (by decide) rfl (fun ls hl => ?_)
            have lp42 : ∀ (d q : Nat), q ≤ 126 ∧ (q = 0 ∨ E - k + q ≤ 127) → 126 < q + d → ∀ (H : Heap) (locs : List Loc) (ls : Array Slot), g_I D tb ad (g_A ad) s H locs P (M) → lv_has ls 4 [(3, .int (nI q)), (2, .int (nI (127 + k - q))), (1, .float (kF (E - k + q) T)), (0, .float (kF E T))] → W p l e rm_X4_bitsOf s m args below meth c H locs 0 0 Q (F0 m 42 ls []) := by
              intro d
              induction d with
              | zero => intro q hkp hfu; omega
              | succ d ih42 =>
                intro q hkp hfu H locs ls hI hl
                refine lv_iload_n hx hb dX4_bitsOf_42 rfl (lv_at hl 0 rfl) ?_
                refine lv_bipush (v := 126) hx hb dX4_bitsOf_43 (by decide) ?_
                refine lv_icmp_ge (tgt := 67) hx hb dX4_bitsOf_45 (by decide) (fun c6 => ?_) (fun c6 => ?_)
                · have c6n : 126 ≤ q := (nI_leI (a := 126) (b := q) (by omega) (by omega)).mp c6
                  refine lv_iload_n hx hb dX4_bitsOf_67 rfl (lv_at hl 1 rfl) ?_
                  refine lv_bipush (v := 23) hx hb dX4_bitsOf_68 (by decide) ?_
                  refine lv_ishl hx hb dX4_bitsOf_70 ?_
                  refine lv_fload_n hx hb dX4_bitsOf_71 rfl (lv_at hl 2 rfl) ?_
                  refine lv_ldcf hx hb hown (hts _ qcf_X4_138) dX4_bitsOf_72 ?_
                  rw [show (1258291200 : UInt32) = kF 150 0 from rfl]
                  refine lv_fmul hx hb dX4_bitsOf_74 (by rw [show E - k + q = 127 from (by omega), kF_mul (E3 := 150) (by omega) (by omega) hT (by omega) (by omega) (by omega) (by omega) (by omega)]; exact kF_ok (by omega) hT) ?_
                  rw [show E - k + q = 127 from (by omega), kF_mul (E3 := 150) (by omega) (by omega) hT (by omega) (by omega) (by omega) (by omega) (by omega)]
                  refine lv_f2i hx hb dX4_bitsOf_75 ?_
                  rw [kF_f2i hT]
                  refine lv_ldc (v := 8388608) hx hb hown (hts _ qc_X4_139) dX4_bitsOf_76 ?_
                  refine lv_isub hx hb dX4_bitsOf_78 ?_
                  refine lv_iadd hx hb dX4_bitsOf_79 ?_
                  exact g_ir hQ hx hb hr0 hlk hC hI dX4_bitsOf_80 rfl (by rw [show 127 + k - q = E from (by omega)]; exact kF_bits hE2) rfl rfl
                · have c6n : ¬ 126 ≤ q := fun z => c6 ((nI_leI (a := 126) (b := q) (by omega) (by omega)).mpr z)
                  refine lv_fload_n hx hb dX4_bitsOf_48 rfl (lv_at hl 2 rfl) ?_
                  refine lv_fconst1 hx hb dX4_bitsOf_49 ?_
                  refine lv_fcmp hx hb dX4_bitsOf_50 ?_
                  refine lv_if_ge (tgt := 67) hx hb dX4_bitsOf_51 (by decide) (fun c7 => ?_) (fun c7 => ?_)
                  · have h51 : 127 ≤ E - k + q := (kF_1g (by omega) (by omega) hT).mp c7
                    refine lv_iload_n hx hb dX4_bitsOf_67 rfl (lv_at hl 1 rfl) ?_
                    refine lv_bipush (v := 23) hx hb dX4_bitsOf_68 (by decide) ?_
                    refine lv_ishl hx hb dX4_bitsOf_70 ?_
                    refine lv_fload_n hx hb dX4_bitsOf_71 rfl (lv_at hl 2 rfl) ?_
                    refine lv_ldcf hx hb hown (hts _ qcf_X4_138) dX4_bitsOf_72 ?_
                    rw [show (1258291200 : UInt32) = kF 150 0 from rfl]
                    refine lv_fmul hx hb dX4_bitsOf_74 (by rw [show E - k + q = 127 from (by omega), kF_mul (E3 := 150) (by omega) (by omega) hT (by omega) (by omega) (by omega) (by omega) (by omega)]; exact kF_ok (by omega) hT) ?_
                    rw [show E - k + q = 127 from (by omega), kF_mul (E3 := 150) (by omega) (by omega) hT (by omega) (by omega) (by omega) (by omega) (by omega)]
                    refine lv_f2i hx hb dX4_bitsOf_75 ?_
                    rw [kF_f2i hT]
                    refine lv_ldc (v := 8388608) hx hb hown (hts _ qc_X4_139) dX4_bitsOf_76 ?_
                    refine lv_isub hx hb dX4_bitsOf_78 ?_
                    refine lv_iadd hx hb dX4_bitsOf_79 ?_
                    exact g_ir hQ hx hb hr0 hlk hC hI dX4_bitsOf_80 rfl (by rw [show 127 + k - q = E from (by omega)]; exact kF_bits hE2) rfl rfl
                  · have h51 : ¬ 127 ≤ E - k + q := fun z => c7 ((kF_1g (by omega) (by omega) hT).mpr z)
                    refine lv_fload_n hx hb dX4_bitsOf_54 rfl (lv_at hl 2 rfl) ?_
                    refine lv_fconst2 hx hb dX4_bitsOf_55 ?_
                    refine lv_fmul hx hb dX4_bitsOf_56 (by rw [show FP.fconst2 = kF 128 0 from rfl, kF_mul (E3 := E - k + (q + 1)) (by omega) (by omega) hT (by omega) (by omega) (by omega) (by omega) (by omega)]; exact kF_ok (by omega) hT) ?_
                    rw [show FP.fconst2 = kF 128 0 from rfl, kF_mul (E3 := E - k + (q + 1)) (by omega) (by omega) hT (by omega) (by omega) (by omega) (by omega) (by omega)]
                    refine lv_fstore_n (lv' := [(1, .float (kF (E - k + (q + 1)) T)), (3, .int (nI q)), (2, .int (nI (127 + k - q))), (0, .float (kF E T))]) hx hb dX4_bitsOf_57 rfl hl (by decide) rfl (fun ls hl => ?_)
                    refine lv_iinc (v := nI (127 + k - (q + 1))) (lv' := [(2, .int (nI (127 + k - (q + 1)))), (1, .float (kF (E - k + (q + 1)) T)), (3, .int (nI q)), (0, .float (kF E T))]) hx hb dX4_bitsOf_58 hl (k := 2) rfl (k_dec1 (by omega)) (by decide) rfl (fun ls hl => ?_)
                    refine lv_iinc (v := nI (q + 1)) (lv' := [(3, .int (nI (q + 1))), (2, .int (nI (127 + k - (q + 1)))), (1, .float (kF (E - k + (q + 1)) T)), (0, .float (kF E T))]) hx hb dX4_bitsOf_61 hl (k := 2) rfl (nI_1 _) (by decide) rfl (fun ls hl => ?_)
                    refine lv_goto (tgt := 42) hx hb dX4_bitsOf_64 (by decide) ?_
                    exact ih42 (q + 1)  (by omega) (by omega)   _ _ _ hI (lv_sub hl [0, 1, 2, 3] rfl)
            exact lp42 (126 + 1) 0  (by omega) (by omega)   _ _ _ hI (lv_sub hl [0, 1, 2, 3] rfl)
          · have h24 : ¬ E - k < 128 := fun z => c5 ((kF_2l (by omega) (by omega) hT).mpr z)
            refine lv_fload_n hx hb dX4_bitsOf_27 rfl (lv_at hl 2 rfl) ?_
            refine lv_fconst2 hx hb dX4_bitsOf_28 ?_
            refine lv_fdiv hx hb dX4_bitsOf_29 (by rw [kF_div (by omega) (by omega) hT]; exact kF_ok (by omega) hT) ?_
            rw [(kF_div (E := E - k) (by omega) (by omega) hT).trans (congrArg (fun z => kF z T) (Nat.sub_sub E k 1))]
            refine lv_fstore_n (lv' := [(1, .float (kF (E - (k + 1)) T)), (3, .int (nI k)), (2, .int (nI (127 + k))), (0, .float (kF E T))]) hx hb dX4_bitsOf_30 rfl hl (by decide) rfl (fun ls hl => ?_)
            refine lv_iinc (v := nI ((127 + k) + 1)) (lv' := [(2, .int (nI ((127 + k) + 1))), (1, .float (kF (E - (k + 1)) T)), (3, .int (nI k)), (0, .float (kF E T))]) hx hb dX4_bitsOf_31 hl (k := 2) rfl (nI_1 _) (by decide) rfl (fun ls hl => ?_)
            refine lv_iinc (v := nI (k + 1)) (lv' := [(3, .int (nI (k + 1))), (2, .int (nI ((127 + k) + 1))), (1, .float (kF (E - (k + 1)) T)), (0, .float (kF E T))]) hx hb dX4_bitsOf_34 hl (k := 2) rfl (nI_1 _) (by decide) rfl (fun ls hl => ?_)
            refine lv_goto (tgt := 15) hx hb dX4_bitsOf_37 (by decide) ?_
            exact ih15 (k + 1)  (by omega) (by omega)   _ _ _ hI (lv_sub hl [0, 1, 2, 3] rfl)
    exact lp15 (127 + 1) 0  (by omega) (by omega)   _ _ _ hI (lv_sub hl [0, 1, 2, 3] rfl)
  · exact absurd (kF_0g hE1 hE2 hT) c1
