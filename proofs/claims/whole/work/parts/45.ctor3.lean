/-! ===== the reference's constructor ===== -/
abbrev n_x0 : List Value := [.null, .null, .null, .int 0, .null, .int 0, .int 0, .int 0, .int 0, .int 0, .int 0, .null]
abbrev n_z : Nat → Int32 := fun _ => 0
abbrev n_x (b a1 a2 a3 a4 a5 : Nat) (t1 t2 t3 t4 t5 : ClassId) (f : Nat → Int32) : va_W := [(b, .inr (5, [.ref a1, .ref a2, .ref a3, .int 0, .ref a4, .int 0, .int 0, .int 0, .int 0, .int 0, .int 0, .ref a5])), (a1, .inl (t1, 146, .inl f)), (a2, .inl (t2, 146, .inl n_z)), (a3, .inl (t3, 584, .inl n_z)), (a4, .inl (t4, 60, .inl n_z)), (a5, .inl (t5, 3, .inl n_z))]
def m_row1 : Nat → Int32 := upd (upd (upd (upd n_z 6 70) 7 90) 8 3) 9 4
def m_st1 (k : Nat) (f : Nat → Int32) : Nat → Int32 := upd f (10 + k) (30 - 10 * nI k)
def m_st2 (k : Nat) (f : Nat → Int32) : Nat → Int32 := upd f (24 + 2 * k) (nI k / 2)
def m_row0 : Nat → Int32 := k_iter m_st2 (k_iter m_st1 m_row1 3) 5
abbrev n_u5 : Type := Nat × Nat × Nat × Nat × Nat
abbrev n_c5 : Type := ClassId × ClassId × ClassId × ClassId × ClassId
abbrev n_xw (b : Nat) (u : n_u5 × n_c5) : va_W := n_x b u.1.1 u.1.2.1 u.1.2.2.1 u.1.2.2.2.1 u.1.2.2.2.2 u.2.1 u.2.2.1 u.2.2.2.1 u.2.2.2.2.1 u.2.2.2.2.2 m_row0
abbrev n_xt (u : n_u5 × n_c5) : List (ClassId × FieldType) := [(u.2.1, .int), (u.2.2.1, .int), (u.2.2.2.1, .int), (u.2.2.2.2.1, .int), (u.2.2.2.2.2, .int)]
abbrev rm_X5_init : Room := { frames := 1, cells := 5, slots := 939, locals := 30 }
theorem c_X5_init (l : Launch) (D : va_G) (h0 h1 b : Nat) : Met l yX5_init (g_ws yX5_init cX5_init 2 none) rm_X5_init (va_Pc [.ref b] (n_pre2 D h0 h1 b [(b, .inr (5, n_x0))]))
    (va_Qv (fun u : n_u5 × n_c5 => va_D (n_A b h1) (n_xw b u)) (fun u t => va_P D vwCl (n_xw b u) t.heap ∧ va_K D vwCl (n_xt u) t) (fun q => q = b)) 5 939 (fun q => h0 ≤ q) := by
  refine n_go2 (by decide) (Nat.le_of_ble_eq_true rfl) ?_
  intro p e s m below meth c ls H locs R args Q hR0 hQ hH hlo ha hx hb hml hr0 hlk hown hnm hts hB hl
  subst hR0; subst hH; subst hlo
  obtain ⟨⟨hP, hK, hN, hAO, hb0, hs0⟩, hsz⟩ := hB
  subst hsz
  refine lv_aload_n hx hb dX5_init_0 rfl (lv_at hl 0 rfl) ?_
  refine W.objInit hx hb hown (hts _ qm_X5_1) (hts _ qo_init_Object) (hts _ qk_init_Object) rfl (hl.1.trans hml.symm) rfl dX5_init_1 (by decide) (Nat.le_of_ble_eq_true rfl) ?_
  refine lv_aload_n hx hb dX5_init_4 rfl (lv_at hl 0 rfl) ?_
  refine lv_sipush (v := 146) hx hb dX5_init_5 (by decide) ?_
  refine va_newa (atype := .int) (N' := 146) (a0 := (146, .inl n_z)) hx hb (hts _ qa_128) (ty := .int) rfl hK hP (n_D1 (Or.inl rfl)) n_S0 (fun _ h => Or.inr h) (fun _ => rfl) (by decide) rfl (by decide) (by decide) (Nat.le_of_ble_eq_true rfl) dX5_init_8 (fun a1 t1 H hK hP hD hS => ?_)
  refine va_putF hx hb hts i_X5 tyX5 tyX5_ok nmX5 hown hK hP hD hS 0 rfl rfl 0 (by decide) (hts _ qf_X5_7) (fun _ h => h) rfl hnm rfl (ty := .array .int) rfl rfl rfl (Nat.le_of_ble_eq_true rfl) dX5_init_10 (fun H locs hP hD hS => ?_)
  refine lv_aload_n hx hb dX5_init_13 rfl (lv_at hl 0 rfl) ?_
  refine lv_sipush (v := 146) hx hb dX5_init_14 (by decide) ?_
  refine va_newa (atype := .int) (N' := 146) (a0 := (146, .inl n_z)) hx hb (hts _ qa_128) (ty := .int) rfl hK hP hD hS (fun _ h => Or.inr h) (fun _ => rfl) (by decide) rfl (by decide) (by decide) (Nat.le_of_ble_eq_true rfl) dX5_init_17 (fun a2 t2 H hK hP hD hS => ?_)
  refine va_putF hx hb hts i_X5 tyX5 tyX5_ok nmX5 hown hK hP hD hS 0 rfl rfl 1 (by decide) (hts _ qf_X5_13) (fun _ h => h) rfl hnm rfl (ty := .array .int) rfl rfl rfl (Nat.le_of_ble_eq_true rfl) dX5_init_19 (fun H locs hP hD hS => ?_)
  refine lv_aload_n hx hb dX5_init_22 rfl (lv_at hl 0 rfl) ?_
  refine lv_sipush (v := 584) hx hb dX5_init_23 (by decide) ?_
  refine va_newa (atype := .int) (N' := 584) (a0 := (584, .inl n_z)) hx hb (hts _ qa_128) (ty := .int) rfl hK hP hD hS (fun _ h => Or.inr h) (fun _ => rfl) (by decide) rfl (by decide) (by decide) (Nat.le_of_ble_eq_true rfl) dX5_init_26 (fun a3 t3 H hK hP hD hS => ?_)
  refine va_putF hx hb hts i_X5 tyX5 tyX5_ok nmX5 hown hK hP hD hS 0 rfl rfl 2 (by decide) (hts _ qf_X5_16) (fun _ h => h) rfl hnm rfl (ty := .array .int) rfl rfl rfl (Nat.le_of_ble_eq_true rfl) dX5_init_28 (fun H locs hP hD hS => ?_)
  refine lv_aload_n hx hb dX5_init_31 rfl (lv_at hl 0 rfl) ?_
  refine lv_bipush (v := 60) hx hb dX5_init_32 (by decide) ?_
  refine va_newa (atype := .int) (N' := 60) (a0 := (60, .inl n_z)) hx hb (hts _ qa_128) (ty := .int) rfl hK hP hD hS (fun _ h => Or.inr h) (fun _ => rfl) (by decide) rfl (by decide) (by decide) (Nat.le_of_ble_eq_true rfl) dX5_init_34 (fun a4 t4 H hK hP hD hS => ?_)
  refine va_putF hx hb hts i_X5 tyX5 tyX5_ok nmX5 hown hK hP hD hS 0 rfl rfl 4 (by decide) (hts _ qf_X5_19) (fun _ h => h) rfl hnm rfl (ty := .array .int) rfl rfl rfl (Nat.le_of_ble_eq_true rfl) dX5_init_36 (fun H locs hP hD hS => ?_)
  refine lv_aload_n hx hb dX5_init_39 rfl (lv_at hl 0 rfl) ?_
  refine lv_iconst (v := 3) hx hb dX5_init_40 (by decide) ?_
  refine va_newa (atype := .int) (N' := 3) (a0 := (3, .inl n_z)) hx hb (hts _ qa_128) (ty := .int) rfl hK hP hD hS (fun _ h => Or.inr h) (fun _ => rfl) (by decide) rfl (by decide) (by decide) (Nat.le_of_ble_eq_true rfl) dX5_init_41 (fun a5 t5 H hK hP hD hS => ?_)
  refine va_putF hx hb hts i_X5 tyX5 tyX5_ok nmX5 hown hK hP hD hS 0 rfl rfl 11 (by decide) (hts _ qf_X5_22) (fun _ h => h) rfl hnm rfl (ty := .array .int) rfl rfl rfl (Nat.le_of_ble_eq_true rfl) dX5_init_43 (fun H locs hP hD hS => ?_)
  refine lv_aload_n hx hb dX5_init_46 rfl (lv_at hl 0 rfl) ?_
  refine va_get hx hb hts i_X5 hown hK hP 0 rfl rfl 0 (by decide) (hts _ qf_X5_7) (fun _ h => h) rfl dX5_init_47 ?_
  refine lv_bipush (v := 6) hx hb dX5_init_50 (by decide) ?_
  refine lv_bipush (v := 70) hx hb dX5_init_52 (by decide) ?_
  refine va_iast hx hb hK hP hD hS 1 0 rfl rfl (by unfold vp_in; decide) dX5_init_54 (fun H locs hP hD hS => ?_)
  refine lv_aload_n hx hb dX5_init_55 rfl (lv_at hl 0 rfl) ?_
  refine va_get hx hb hts i_X5 hown hK hP 0 rfl rfl 0 (by decide) (hts _ qf_X5_7) (fun _ h => h) rfl dX5_init_56 ?_
  refine lv_bipush (v := 7) hx hb dX5_init_59 (by decide) ?_
  refine lv_bipush (v := 90) hx hb dX5_init_61 (by decide) ?_
  refine va_iast hx hb hK hP hD hS 1 0 rfl rfl (by unfold vp_in; decide) dX5_init_63 (fun H locs hP hD hS => ?_)
  refine lv_aload_n hx hb dX5_init_64 rfl (lv_at hl 0 rfl) ?_
  refine va_get hx hb hts i_X5 hown hK hP 0 rfl rfl 0 (by decide) (hts _ qf_X5_7) (fun _ h => h) rfl dX5_init_65 ?_
  refine lv_bipush (v := 8) hx hb dX5_init_68 (by decide) ?_
  refine lv_iconst (v := 3) hx hb dX5_init_70 (by decide) ?_
  refine va_iast hx hb hK hP hD hS 1 0 rfl rfl (by unfold vp_in; decide) dX5_init_71 (fun H locs hP hD hS => ?_)
  refine lv_aload_n hx hb dX5_init_72 rfl (lv_at hl 0 rfl) ?_
  refine va_get hx hb hts i_X5 hown hK hP 0 rfl rfl 0 (by decide) (hts _ qf_X5_7) (fun _ h => h) rfl dX5_init_73 ?_
  refine lv_bipush (v := 9) hx hb dX5_init_76 (by decide) ?_
  refine lv_iconst (v := 4) hx hb dX5_init_78 (by decide) ?_
  refine va_iast hx hb hK hP hD hS 1 0 rfl rfl (by unfold vp_in; decide) dX5_init_79 (fun H locs hP hD hS => ?_)
  have hK : va_K D vwCl [(t1, .int), (t2, .int), (t3, .int), (t4, .int), (t5, .int)] s := hK
  have h111 : ∀ (d k : Nat) (f : Nat → Int32) (H : Heap) (locs : List Loc) (ls : Array Slot), k ≤ 5 → 5 < k + d → f = k_iter m_st2 (k_iter m_st1 m_row1 3) k → va_P D vwCl (n_x b a1 a2 a3 a4 a5 t1 t2 t3 t4 t5 f) H → va_D (n_A b s.heap.size) (n_x b a1 a2 a3 a4 a5 t1 t2 t3 t4 t5 f) → va_S (n_A b s.heap.size) s.heap H locs → lv_has ls 2 [(1, .int (nI k)), (0, .ref b)] → W p l e rm_X5_init s m args below meth c H locs 5 939 Q (F0 m 111 ls []) := by
    intro d
    induction d with
    | zero => intros; omega
    | succ d ih =>
      intro k f H locs ls hk hd hf hP hD hS hl
      refine lv_iload_n hx hb dX5_init_111 rfl (lv_at hl 0 rfl) ?_
      refine lv_iconst (v := 5) hx hb dX5_init_112 (by decide) ?_
      refine lv_icmp_ge (tgt := 136) hx hb dX5_init_113 (by decide) (fun c1 => ?_) (fun c1 => ?_)
      · have hk5 : 5 ≤ k := (nI_leI (a := 5) (b := k) (by omega) (by omega)).mp c1
        have hf0 : f = m_row0 := by rw [hf, show k = 5 by omega]; rfl
        subst hf0
        subst hQ
        exact n_ret ((a1, a2, a3, a4, a5), (t1, t2, t3, t4, t5)) hx hb hr0 hlk hS hD (fun t ht hW => ⟨by rw [ht]; exact hP, hK.moved hW.alike⟩) hb0 hs0 dX5_init_136
      · have hk5 : ¬ 5 ≤ k := fun z => c1 ((nI_leI (a := 5) (b := k) (by omega) (by omega)).mpr z)
        refine lv_aload_n hx hb dX5_init_116 rfl (lv_at hl 1 rfl) ?_
        refine va_get hx hb hts i_X5 hown hK hP 0 rfl rfl 0 (by decide) (hts _ qf_X5_7) (fun _ h => h) rfl dX5_init_117 ?_
        refine lv_bipush (v := 24) hx hb dX5_init_120 (by decide) ?_
        refine lv_iconst (v := 2) hx hb dX5_init_122 (by decide) ?_
        refine lv_iload_n hx hb dX5_init_123 rfl (lv_at hl 0 rfl) ?_
        refine lv_imul hx hb dX5_init_124 ?_
        refine lv_iadd hx hb dX5_init_125 ?_
        refine g_te (y := nI (24 + 2 * k)) (by rw [show (2 : Int32) * nI k = nI (2 * k) from pk_mul 2 k]; exact nI_add 24 (2 * k)) ?_
        refine lv_iload_n hx hb dX5_init_126 rfl (lv_at hl 0 rfl) ?_
        refine lv_iconst (v := 2) hx hb dX5_init_127 (by decide) ?_
        refine lv_idiv hx hb dX5_init_128 (by decide) ?_
        refine va_iast hx hb hK hP hD hS 1 0 rfl rfl (vp_in_nI (by omega) (by decide)) dX5_init_129 (fun H locs hP hD hS => ?_)
        rw [nI_clamp (by omega)] at hP hD
        refine lv_iinc (v := nI (k + 1)) (lv' := [(1, .int (nI (k + 1))), (0, .ref b)]) hx hb dX5_init_130 hl (k := 0) rfl (nI_1 _) (by decide) rfl (fun ls hl => ?_)
        refine lv_goto (tgt := 111) hx hb dX5_init_133 (by decide) ?_
        exact ih (k + 1) (m_st2 k f) H locs ls (by omega) (by omega) (by rw [hf]; rfl) hP hD hS hl
  have h82 : ∀ (d k : Nat) (f : Nat → Int32) (H : Heap) (locs : List Loc) (ls : Array Slot), k ≤ 3 → 3 < k + d → f = k_iter m_st1 m_row1 k → va_P D vwCl (n_x b a1 a2 a3 a4 a5 t1 t2 t3 t4 t5 f) H → va_D (n_A b s.heap.size) (n_x b a1 a2 a3 a4 a5 t1 t2 t3 t4 t5 f) → va_S (n_A b s.heap.size) s.heap H locs → lv_has ls 2 [(1, .int (nI k)), (0, .ref b)] → W p l e rm_X5_init s m args below meth c H locs 5 939 Q (F0 m 82 ls []) := by
    intro d
    induction d with
    | zero => intros; omega
    | succ d ih =>
      intro k f H locs ls hk hd hf hP hD hS hl
      refine lv_iload_n hx hb dX5_init_82 rfl (lv_at hl 0 rfl) ?_
      refine lv_iconst (v := 3) hx hb dX5_init_83 (by decide) ?_
      refine lv_icmp_ge (tgt := 109) hx hb dX5_init_84 (by decide) (fun c1 => ?_) (fun c1 => ?_)
      · have hk5 : 3 ≤ k := (nI_leI (a := 3) (b := k) (by omega) (by omega)).mp c1
        have hf0 : f = k_iter m_st1 m_row1 3 := by rw [hf, show k = 3 by omega]
        refine lv_iconst (v := 0) hx hb dX5_init_109 (by decide) ?_
        refine lv_istore_n (lv' := [(1, .int (nI 0)), (0, .ref b)]) hx hb dX5_init_110 rfl hl (by decide) rfl (fun ls hl => ?_)
        exact h111 6 0 f H locs ls (by omega) (by omega) hf0 hP hD hS hl
      · have hk5 : ¬ 3 ≤ k := fun z => c1 ((nI_leI (a := 3) (b := k) (by omega) (by omega)).mpr z)
        refine lv_aload_n hx hb dX5_init_87 rfl (lv_at hl 1 rfl) ?_
        refine va_get hx hb hts i_X5 hown hK hP 0 rfl rfl 0 (by decide) (hts _ qf_X5_7) (fun _ h => h) rfl dX5_init_88 ?_
        refine lv_bipush (v := 10) hx hb dX5_init_91 (by decide) ?_
        refine lv_iload_n hx hb dX5_init_93 rfl (lv_at hl 0 rfl) ?_
        refine lv_iadd hx hb dX5_init_94 ?_
        refine g_te (y := nI (10 + k)) (nI_add 10 k) ?_
        refine lv_bipush (v := 30) hx hb dX5_init_95 (by decide) ?_
        refine lv_bipush (v := 10) hx hb dX5_init_97 (by decide) ?_
        refine lv_iload_n hx hb dX5_init_99 rfl (lv_at hl 0 rfl) ?_
        refine lv_imul hx hb dX5_init_100 ?_
        refine lv_isub hx hb dX5_init_101 ?_
        refine va_iast hx hb hK hP hD hS 1 0 rfl rfl (vp_in_nI (by omega) (by decide)) dX5_init_102 (fun H locs hP hD hS => ?_)
        rw [nI_clamp (by omega)] at hP hD
        refine lv_iinc (v := nI (k + 1)) (lv' := [(1, .int (nI (k + 1))), (0, .ref b)]) hx hb dX5_init_103 hl (k := 0) rfl (nI_1 _) (by decide) rfl (fun ls hl => ?_)
        refine lv_goto (tgt := 82) hx hb dX5_init_106 (by decide) ?_
        exact ih (k + 1) (m_st1 k f) H locs ls (by omega) (by omega) (by rw [hf]; rfl) hP hD hS hl
  refine lv_iconst (v := 0) hx hb dX5_init_80 (by decide) ?_
  refine lv_istore_n (lv' := [(1, .int (nI 0)), (0, .ref b)]) hx hb dX5_init_81 rfl hl (by decide) rfl (fun ls hl => ?_)
  exact h82 4 0 m_row1 H locs ls (by omega) (by omega) rfl hP hD hS hl
