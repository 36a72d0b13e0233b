/-! ===== a state's constructor ===== -/
abbrev n_pr : Nat → Int32 := upd (upd (upd n_z 0 30) 1 20) 2 10
abbrev n_se : Nat → Int32 := upd (upd (upd (upd n_z 0 70) 1 90) 2 3) 3 4
abbrev n_no : Nat → Option Nat := fun _ => none
abbrev n_st0 : List Value := [.null, .null, .null, .null, .null, .null, .int 0, .int 0, .int 0, .int 0, .int 0]
abbrev n_s7 (b a1 a2 a3 a4 a5 a6 : Nat) (t1 t2 t3 t4 t5 t6 : ClassId) (f1 f2 : Nat → Option Nat) : va_W := [(b, .inr (3, [.ref a1, .ref a2, .ref a3, .ref a4, .ref a5, .ref a6, .int 0, .int 0, .int 0, .int 0, .int 0])), (a1, .inl (t1, 5, .inr (.inr (.inr (.inr f1))))), (a2, .inl (t2, 16, .inr (.inr (.inr (.inr f2))))), (a3, .inl (t3, 3, .inl n_pr)), (a4, .inl (t4, 4, .inl n_se)), (a5, .inl (t5, 8, .inl n_z)), (a6, .inl (t6, 3, .inl n_z))]
def n_binE (i q : Nat) : Nat × va_E := (q, .inr (0, [.int (nI i / 2), .int 0]))
def n_recE (_ q : Nat) : Nat × va_E := (q, .inr (1, n_rec))
theorem n_refs0 {B : Nat → Nat} : n_refs B 0 = n_no := funext fun i => if_neg (Nat.not_lt_zero i)
theorem n_new {b h q i : Nat} {ws : va_W} {e e' : va_E} (hD : va_D (n_A b h) ws) (h1 : ws[i]? = some (q, e)) (h2 : ws[0]? = some (b, e')) (hi : 0 < i) : h ≤ q := by
  rcases hD.2 i _ h1 with z | z
  · exact absurd (hD.1 i 0 _ _ h1 h2 z) (by omega)
  · exact z
abbrev n_u6 : Type := (Nat × Nat × Nat × Nat × Nat × Nat) × (Nat → Nat) × (Nat → Nat)
abbrev n_c6 : Type := ClassId × ClassId × ClassId × ClassId × ClassId × ClassId
abbrev n_sw (b : Nat) (u : n_u6 × n_c6) : va_W := n_s7 b u.1.1.1 u.1.1.2.1 u.1.1.2.2.1 u.1.1.2.2.2.1 u.1.1.2.2.2.2.1 u.1.1.2.2.2.2.2 u.2.1 u.2.2.1 u.2.2.2.1 u.2.2.2.2.1 u.2.2.2.2.2.1 u.2.2.2.2.2.2 (n_refs u.1.2.1 5) (n_refs u.1.2.2 16) ++ n_many (fun i => n_binE i (u.1.2.1 i)) 5 ++ n_many (fun i => n_recE i (u.1.2.2 i)) 16
abbrev n_sty (u : n_u6 × n_c6) : List (ClassId × FieldType) := [(u.2.1, .object RX0), (u.2.2.1, .object RX1), (u.2.2.2.1, .int), (u.2.2.2.2.1, .int), (u.2.2.2.2.2.1, .int), (u.2.2.2.2.2.2, .int)]
abbrev rm_X3_init : Room := { frames := 2, cells := 27, slots := 161, locals := 60 }
set_option maxHeartbeats 4000000 in
theorem c_X3_init (l : Launch) (D : va_G) (h0 h1 b : Nat) : Met l yX3_init (g_ws yX3_init cX3_init 2 none) rm_X3_init (va_Pc [.ref b] (fun U => n_pre2 D h0 h1 b [(b, .inr (3, n_st0))] U ∧ n_N U))
    (va_Qv (fun u : n_u6 × n_c6 => va_D (n_A b h1) (n_sw b u)) (fun u t => va_P D vwCl (n_sw b u) t.heap ∧ va_K D vwCl (n_sty u) t) (fun q => q = b)) 27 161 (fun q => h0 ≤ q) := by
  refine n_go2 (by decide) (Nat.le_of_ble_eq_true rfl) ?_
  intro p e s m below meth c ls H locs R args Q hR0 hQ hH hlo ha hx hb hml hr0 hlk hown hnm hts hB hl
  subst hR0; subst hH; subst hlo
  obtain ⟨⟨⟨hP, hK, hN, hAO, hb0, hs0⟩, hsz⟩, hNN⟩ := hB
  subst hsz
  refine lv_aload_n hx hb dX3_init_0 rfl (lv_at hl 0 rfl) ?_
  refine W.objInit hx hb hown (hts _ qm_X3_3) (hts _ qo_init_Object) (hts _ qk_init_Object) rfl (hl.1.trans hml.symm) rfl dX3_init_1 (by decide) (Nat.le_of_ble_eq_true rfl) ?_
  refine lv_aload_n hx hb dX3_init_4 rfl (lv_at hl 0 rfl) ?_
  refine lv_iconst (v := 5) hx hb dX3_init_5 (by decide) ?_
  refine va_newq (C := RX0) (N' := 5) hx hb hown (hts _ ql_X3_9) hAO.2.1 hK hP (n_D1 (Or.inl rfl)) n_S0 (fun _ h => Or.inr h) (by decide) rfl (by decide) (by decide) (Nat.le_of_ble_eq_true rfl) dX3_init_6 (fun a1 t1 H hK hP hD hS => ?_)
  refine va_putF hx hb hts i_X3 tyX3 tyX3_ok nmX3 hown hK hP hD hS 0 rfl rfl 0 (by decide) (hts _ qf_X3_11) (fun _ h => h) rfl hnm rfl (ty := .array (.object "GrainReceipts$Bin")) rfl rfl rfl (Nat.le_of_ble_eq_true rfl) dX3_init_9 (fun H locs hP hD hS => ?_)
  refine lv_aload_n hx hb dX3_init_12 rfl (lv_at hl 0 rfl) ?_
  refine lv_bipush (v := 16) hx hb dX3_init_13 (by decide) ?_
  refine va_newq (C := RX1) (N' := 16) hx hb hown (hts _ ql_X3_17) hAO.2.2 hK hP hD hS (fun _ h => Or.inr h) (by decide) rfl (by decide) (by decide) (Nat.le_of_ble_eq_true rfl) dX3_init_15 (fun a2 t2 H hK hP hD hS => ?_)
  refine va_putF hx hb hts i_X3 tyX3 tyX3_ok nmX3 hown hK hP hD hS 0 rfl rfl 1 (by decide) (hts _ qf_X3_19) (fun _ h => h) rfl hnm rfl (ty := .array (.object "GrainReceipts$Receipt")) rfl rfl rfl (Nat.le_of_ble_eq_true rfl) dX3_init_18 (fun H locs hP hD hS => ?_)
  refine lv_aload_n hx hb dX3_init_21 rfl (lv_at hl 0 rfl) ?_
  refine lv_iconst (v := 3) hx hb dX3_init_22 (by decide) ?_
  refine va_newa (atype := .int) (N' := 3) (a0 := (3, .inl n_z)) hx hb (hts _ qa_83) (ty := .int) rfl hK hP hD hS (fun _ h => Or.inr h) (fun _ => rfl) (by decide) rfl (by decide) (by decide) (Nat.le_of_ble_eq_true rfl) dX3_init_23 (fun a3 t3 H hK hP hD hS => ?_)
  refine lv_dup hx hb dX3_init_25 rfl ?_
  refine lv_iconst (v := 0) hx hb dX3_init_26 (by decide) ?_
  refine lv_bipush (v := 30) hx hb dX3_init_27 (by decide) ?_
  refine va_iast hx hb hK hP hD hS 3 2 rfl rfl (by unfold vp_in; decide) dX3_init_29 (fun H locs hP hD hS => ?_)
  refine lv_dup hx hb dX3_init_30 rfl ?_
  refine lv_iconst (v := 1) hx hb dX3_init_31 (by decide) ?_
  refine lv_bipush (v := 20) hx hb dX3_init_32 (by decide) ?_
  refine va_iast hx hb hK hP hD hS 3 2 rfl rfl (by unfold vp_in; decide) dX3_init_34 (fun H locs hP hD hS => ?_)
  refine lv_dup hx hb dX3_init_35 rfl ?_
  refine lv_iconst (v := 2) hx hb dX3_init_36 (by decide) ?_
  refine lv_bipush (v := 10) hx hb dX3_init_37 (by decide) ?_
  refine va_iast hx hb hK hP hD hS 3 2 rfl rfl (by unfold vp_in; decide) dX3_init_39 (fun H locs hP hD hS => ?_)
  refine va_putF hx hb hts i_X3 tyX3 tyX3_ok nmX3 hown hK hP hD hS 0 rfl rfl 2 (by decide) (hts _ qf_X3_23) (fun _ h => h) rfl hnm rfl (ty := .array .int) rfl rfl rfl (Nat.le_of_ble_eq_true rfl) dX3_init_40 (fun H locs hP hD hS => ?_)
  refine lv_aload_n hx hb dX3_init_43 rfl (lv_at hl 0 rfl) ?_
  refine lv_iconst (v := 4) hx hb dX3_init_44 (by decide) ?_
  refine va_newa (atype := .int) (N' := 4) (a0 := (4, .inl n_z)) hx hb (hts _ qa_83) (ty := .int) rfl hK hP hD hS (fun _ h => Or.inr h) (fun _ => rfl) (by decide) rfl (by decide) (by decide) (Nat.le_of_ble_eq_true rfl) dX3_init_45 (fun a4 t4 H hK hP hD hS => ?_)
  refine lv_dup hx hb dX3_init_47 rfl ?_
  refine lv_iconst (v := 0) hx hb dX3_init_48 (by decide) ?_
  refine lv_bipush (v := 70) hx hb dX3_init_49 (by decide) ?_
  refine va_iast hx hb hK hP hD hS 4 3 rfl rfl (by unfold vp_in; decide) dX3_init_51 (fun H locs hP hD hS => ?_)
  refine lv_dup hx hb dX3_init_52 rfl ?_
  refine lv_iconst (v := 1) hx hb dX3_init_53 (by decide) ?_
  refine lv_bipush (v := 90) hx hb dX3_init_54 (by decide) ?_
  refine va_iast hx hb hK hP hD hS 4 3 rfl rfl (by unfold vp_in; decide) dX3_init_56 (fun H locs hP hD hS => ?_)
  refine lv_dup hx hb dX3_init_57 rfl ?_
  refine lv_iconst (v := 2) hx hb dX3_init_58 (by decide) ?_
  refine lv_iconst (v := 3) hx hb dX3_init_59 (by decide) ?_
  refine va_iast hx hb hK hP hD hS 4 3 rfl rfl (by unfold vp_in; decide) dX3_init_60 (fun H locs hP hD hS => ?_)
  refine lv_dup hx hb dX3_init_61 rfl ?_
  refine lv_iconst (v := 3) hx hb dX3_init_62 (by decide) ?_
  refine lv_iconst (v := 4) hx hb dX3_init_63 (by decide) ?_
  refine va_iast hx hb hK hP hD hS 4 3 rfl rfl (by unfold vp_in; decide) dX3_init_64 (fun H locs hP hD hS => ?_)
  refine va_putF hx hb hts i_X3 tyX3 tyX3_ok nmX3 hown hK hP hD hS 0 rfl rfl 3 (by decide) (hts _ qf_X3_27) (fun _ h => h) rfl hnm rfl (ty := .array .int) rfl rfl rfl (Nat.le_of_ble_eq_true rfl) dX3_init_65 (fun H locs hP hD hS => ?_)
  refine lv_aload_n hx hb dX3_init_68 rfl (lv_at hl 0 rfl) ?_
  refine lv_bipush (v := 8) hx hb dX3_init_69 (by decide) ?_
  refine va_newa (atype := .int) (N' := 8) (a0 := (8, .inl n_z)) hx hb (hts _ qa_83) (ty := .int) rfl hK hP hD hS (fun _ h => Or.inr h) (fun _ => rfl) (by decide) rfl (by decide) (by decide) (Nat.le_of_ble_eq_true rfl) dX3_init_71 (fun a5 t5 H hK hP hD hS => ?_)
  refine va_putF hx hb hts i_X3 tyX3 tyX3_ok nmX3 hown hK hP hD hS 0 rfl rfl 4 (by decide) (hts _ qf_X3_30) (fun _ h => h) rfl hnm rfl (ty := .array .int) rfl rfl rfl (Nat.le_of_ble_eq_true rfl) dX3_init_73 (fun H locs hP hD hS => ?_)
  refine lv_aload_n hx hb dX3_init_76 rfl (lv_at hl 0 rfl) ?_
  refine lv_iconst (v := 3) hx hb dX3_init_77 (by decide) ?_
  refine va_newa (atype := .int) (N' := 3) (a0 := (3, .inl n_z)) hx hb (hts _ qa_83) (ty := .int) rfl hK hP hD hS (fun _ h => Or.inr h) (fun _ => rfl) (by decide) rfl (by decide) (by decide) (Nat.le_of_ble_eq_true rfl) dX3_init_78 (fun a6 t6 H hK hP hD hS => ?_)
  refine va_putF hx hb hts i_X3 tyX3 tyX3_ok nmX3 hown hK hP hD hS 0 rfl rfl 5 (by decide) (hts _ qf_X3_33) (fun _ h => h) rfl hnm rfl (ty := .array .int) rfl rfl rfl (Nat.le_of_ble_eq_true rfl) dX3_init_80 (fun H locs hP hD hS => ?_)
  have hP : va_P D vwCl (n_s7 b a1 a2 a3 a4 a5 a6 t1 t2 t3 t4 t5 t6 n_no n_no) H := hP
  have hD : va_D (n_A b s.heap.size) (n_s7 b a1 a2 a3 a4 a5 a6 t1 t2 t3 t4 t5 t6 n_no n_no) := hD
  have hK : va_K D vwCl [(t1, .object RX0), (t2, .object RX1), (t3, .int), (t4, .int), (t5, .int), (t6, .int)] s := hK
  have h123 : ∀ (d k : Nat) (B C : Nat → Nat) (H : Heap) (locs : List Loc) (ls : Array Slot), k ≤ 16 → 16 < k + d → va_P D vwCl (n_s7 b a1 a2 a3 a4 a5 a6 t1 t2 t3 t4 t5 t6 (n_refs B 5) (n_refs C k) ++ n_many (fun i => n_binE i (B i)) 5 ++ n_many (fun i => n_recE i (C i)) k) H → va_D (n_A b s.heap.size) (n_s7 b a1 a2 a3 a4 a5 a6 t1 t2 t3 t4 t5 t6 (n_refs B 5) (n_refs C k) ++ n_many (fun i => n_binE i (B i)) 5 ++ n_many (fun i => n_recE i (C i)) k) → va_S (n_A b s.heap.size) s.heap H locs → lv_has ls 2 [(1, .int (nI k)), (0, .ref b)] → W p l e rm_X3_init s m args below meth c H locs (11 + k) (49 + 7 * k) Q (F0 m 123 ls []) := by
    intro d
    induction d with
    | zero => intros; omega
    | succ d ih =>
      intro k B C H locs ls hk hd hP hD hS hl
      refine lv_iload_n hx hb dX3_init_123 rfl (lv_at hl 0 rfl) ?_
      refine lv_bipush (v := 16) hx hb dX3_init_124 (by decide) ?_
      refine lv_icmp_ge (tgt := 148) hx hb dX3_init_126 (by decide) (fun c1 => ?_) (fun c1 => ?_)
      · have hk5 : 16 ≤ k := (nI_leI (a := 16) (b := k) (by omega) (by omega)).mp c1
        obtain rfl : k = 16 := by omega
        subst hQ
        exact n_ret (((a1, a2, a3, a4, a5, a6), B, C), (t1, t2, t3, t4, t5, t6)) hx hb hr0 hlk hS hD (fun t ht hW => ⟨by rw [ht]; exact hP, hK.moved hW.alike⟩) hb0 hs0 dX3_init_148
      · have hk5 : ¬ 16 ≤ k := fun z => c1 ((nI_leI (a := 16) (b := k) (by omega) (by omega)).mpr z)
        refine lv_aload_n hx hb dX3_init_129 rfl (lv_at hl 1 rfl) ?_
        refine va_get hx hb hts i_X3 hown hK hP 0 rfl rfl 1 (by decide) (hts _ qf_X3_19) (fun _ h => h) rfl dX3_init_130 ?_
        refine lv_iload_n hx hb dX3_init_133 rfl (lv_at hl 0 rfl) ?_
        refine va_new (ci := 1) hx hb hts i_X1 tyX1 tyX1_ok hown (hts _ ql_X3_17) (hts _ qi_X1) (hts _ qz_X1) hK hP hD hS (fun _ h => Or.inr h) rfl (fs := n_rec0) (by decide) (by show 11 + k + 1 ≤ 27; omega) (by show 49 + 7 * k + 7 ≤ 161; omega) dX3_init_134 (fun q H hP hD hS => ?_)
        have hlen : 12 + k = ((n_s7 b a1 a2 a3 a4 a5 a6 t1 t2 t3 t4 t5 t6 (n_refs B 5) (n_refs C k) ++ n_many (fun i => n_binE i (B i)) 5 ++ n_many (fun i => n_recE i (C i)) k)).length := by rw [List.length_append, List.length_append, n_many_len, n_many_len]; rfl
        refine lv_dup hx hb dX3_init_137 rfl ?_
        have hqs : s.heap.size ≤ q := n_new hD (n_atR hlen) (n_atL (n_atL (n_atL rfl))) (by omega)
        have hown : s.vm.findClass RX3 = some m.cls := hown
        refine n_callN (q0 := 12 + k) (c_X1_init l D s.heap.size q) gm_X1_init rfl qo_X1_init hx hb hml hown hts hK hN hAO (hNN _ (show Cond.methodLinkNest RX3 41 yX1_init RX4 ∈ n_nest by decide +kernel)) hP hD hS (fun _ h => Or.inr h) (n_atR hlen) hqs hl.1 ⟨rfl, rfl, by decide, by decide⟩ (Nat.le_of_ble_eq_true rfl) ⟨by show 11 + k + 1 ≤ 27; omega, by show 49 + 7 * k + 7 ≤ 161; omega⟩ dX3_init_138 (fun H locs hP hD hS => ?_)
        rw [n_setR hlen] at hP hD
        refine va_astq hx hb hK hP hD hS 2 1 (12 + k) 1 (n_atL (n_atL (n_atL rfl))) rfl (n_atR hlen) rfl (vp_in_nI (by omega) (by decide)) dX3_init_141 (fun H locs hP hD hS => ?_)
        rw [nI_clamp (by omega), n_refs_up, n_setL (by rw [← hlen]; omega), n_setL (by rw [List.length_append, n_many_len]; show 2 < 7 + 5; omega), n_setL (by show 2 < 7; omega)] at hP hD
        rw [show ((q, Sum.inr (1, n_rec)) : Nat × va_E) = n_recE k q from rfl, List.append_assoc, ← n_many_up (F := n_recE) (B := C) (k := k) (q := q)] at hP hD
        refine lv_iinc (v := nI (k + 1)) (lv' := [(1, .int (nI (k + 1))), (0, .ref b)]) hx hb dX3_init_142 hl (k := 0) rfl (nI_1 _) (by decide) rfl (fun ls hl => ?_)
        refine lv_goto (tgt := 123) hx hb dX3_init_145 (by decide) ?_
        exact ih (k + 1) B (va_up C k q) H locs ls (by omega) (by omega) hP hD hS hl
  have h85 : ∀ (d k : Nat) (B : Nat → Nat) (H : Heap) (locs : List Loc) (ls : Array Slot), k ≤ 5 → 5 < k + d → va_P D vwCl (n_s7 b a1 a2 a3 a4 a5 a6 t1 t2 t3 t4 t5 t6 (n_refs B k) n_no ++ n_many (fun i => n_binE i (B i)) k) H → va_D (n_A b s.heap.size) (n_s7 b a1 a2 a3 a4 a5 a6 t1 t2 t3 t4 t5 t6 (n_refs B k) n_no ++ n_many (fun i => n_binE i (B i)) k) → va_S (n_A b s.heap.size) s.heap H locs → lv_has ls 2 [(1, .int (nI k)), (0, .ref b)] → W p l e rm_X3_init s m args below meth c H locs (6 + k) (39 + 2 * k) Q (F0 m 85 ls []) := by
    intro d
    induction d with
    | zero => intros; omega
    | succ d ih =>
      intro k B H locs ls hk hd hP hD hS hl
      refine lv_iload_n hx hb dX3_init_85 rfl (lv_at hl 0 rfl) ?_
      refine lv_iconst (v := 5) hx hb dX3_init_86 (by decide) ?_
      refine lv_icmp_ge (tgt := 121) hx hb dX3_init_87 (by decide) (fun c1 => ?_) (fun c1 => ?_)
      · have hk5 : 5 ≤ k := (nI_leI (a := 5) (b := k) (by omega) (by omega)).mp c1
        obtain rfl : k = 5 := by omega
        refine lv_iconst (v := 0) hx hb dX3_init_121 (by decide) ?_
        refine lv_istore_n (lv' := [(1, .int (nI 0)), (0, .ref b)]) hx hb dX3_init_122 rfl hl (by decide) rfl (fun ls hl => ?_)
        rw [← n_refs0 (B := B)] at hP hD
        exact h123 17 0 B B H locs ls (by omega) (by omega) (by rw [show n_many (fun i => n_recE i (B i)) 0 = [] from rfl, List.append_nil]; exact hP) (by rw [show n_many (fun i => n_recE i (B i)) 0 = [] from rfl, List.append_nil]; exact hD) hS hl
      · have hk5 : ¬ 5 ≤ k := fun z => c1 ((nI_leI (a := 5) (b := k) (by omega) (by omega)).mpr z)
        refine lv_aload_n hx hb dX3_init_90 rfl (lv_at hl 1 rfl) ?_
        refine va_get hx hb hts i_X3 hown hK hP 0 rfl rfl 0 (by decide) (hts _ qf_X3_11) (fun _ h => h) rfl dX3_init_91 ?_
        refine lv_iload_n hx hb dX3_init_94 rfl (lv_at hl 0 rfl) ?_
        refine va_new (ci := 0) hx hb hts i_X0 tyX0 tyX0_ok hown (hts _ ql_X3_9) (hts _ qi_X0) (hts _ qz_X0) hK hP hD hS (fun _ h => Or.inr h) rfl (fs := [.int 0, .int 0]) (by decide) (by show 6 + k + 1 ≤ 27; omega) (by show 39 + 2 * k + 2 ≤ 161; omega) dX3_init_95 (fun q H hP hD hS => ?_)
        have hlen : 7 + k = ((n_s7 b a1 a2 a3 a4 a5 a6 t1 t2 t3 t4 t5 t6 (n_refs B k) n_no ++ n_many (fun i => n_binE i (B i)) k)).length := by rw [List.length_append, n_many_len]; rfl
        have hlen2 : 7 + k = ((n_s7 b a1 a2 a3 a4 a5 a6 t1 t2 t3 t4 t5 t6 (n_refs (va_up B k q) (k + 1)) n_no ++ n_many (fun i => n_binE i (B i)) k)).length := by rw [List.length_append, n_many_len]; rfl
        refine lv_dup hx hb dX3_init_98 rfl ?_
        have hqs : s.heap.size ≤ q := n_new hD (n_atR hlen) (n_atL (n_atL rfl)) (by omega)
        have hown : s.vm.findClass RX3 = some m.cls := hown
        refine n_callN (q0 := 7 + k) (c_X0_init l D s.heap.size q) gm_X0_init rfl qo_X0_init hx hb hml hown hts hK hN hAO (hNN _ (show Cond.methodLinkNest RX3 36 yX0_init RX4 ∈ n_nest by decide +kernel)) hP hD hS (fun _ h => Or.inr h) (n_atR hlen) hqs hl.1 ⟨rfl, rfl, by decide, by decide⟩ (Nat.le_of_ble_eq_true rfl) ⟨by show 6 + k + 1 ≤ 27; omega, by show 39 + 2 * k + 2 ≤ 161; omega⟩ dX3_init_99 (fun H locs hP hD hS => ?_)
        rw [n_setR hlen] at hP hD
        refine va_astq hx hb hK hP hD hS 1 0 (7 + k) 0 (n_atL (n_atL rfl)) rfl (n_atR hlen) rfl (vp_in_nI (by omega) (by decide)) dX3_init_102 (fun H locs hP hD hS => ?_)
        rw [nI_clamp (by omega), n_refs_up, n_setL (by rw [← hlen]; omega), n_setL (by show 1 < 7; omega)] at hP hD
        refine lv_aload_n hx hb dX3_init_103 rfl (lv_at hl 1 rfl) ?_
        refine va_get hx hb hts i_X3 hown hK hP 0 rfl rfl 0 (by decide) (hts _ qf_X3_11) (fun _ h => h) rfl dX3_init_104 ?_
        refine lv_iload_n hx hb dX3_init_107 rfl (lv_at hl 0 rfl) ?_
        refine va_aldq hx hb hK hP 1 0 (n_atL (n_atL rfl)) rfl (vp_in_nI (by omega) (by decide)) dX3_init_108 ?_
        rw [nI_clamp (by omega), show n_refs (va_up B k q) (k + 1) k = some q from by unfold n_refs; rw [if_pos (Nat.lt_succ_self k), va_up_self], show va_rf (some q) = .ref q from rfl]
        refine lv_iload_n hx hb dX3_init_109 rfl (lv_at hl 0 rfl) ?_
        refine lv_iconst (v := 2) hx hb dX3_init_110 (by decide) ?_
        refine lv_idiv hx hb dX3_init_111 (by decide) ?_
        refine va_put hx hb hts i_X0 tyX0 tyX0_ok nmX0 hown hK hP hD hS (7 + k) (n_atR hlen2) rfl 0 (by decide) (hts _ qf_X3_37) (fun _ h => h) rfl (ty := .int) rfl rfl rfl (Nat.le_of_ble_eq_true rfl) dX3_init_112 (fun H locs hP hD hS => ?_)
        have e1 : ((n_s7 b a1 a2 a3 a4 a5 a6 t1 t2 t3 t4 t5 t6 (n_refs (va_up B k q) (k + 1)) n_no ++ n_many (fun i => n_binE i (B i)) k) ++ [(q, Sum.inr (0, [Value.int 0, Value.int 0]))] : va_W).set (7 + k) (q, Sum.inr (0, [Value.int (nI k / 2), Value.int 0])) = n_s7 b a1 a2 a3 a4 a5 a6 t1 t2 t3 t4 t5 t6 (n_refs (va_up B k q) (k + 1)) n_no ++ n_many (fun i => n_binE i (va_up B k q i)) (k + 1) := by rw [n_setR hlen2, List.append_assoc, n_many_up (F := n_binE)]; rfl
        have hP : va_P D vwCl _ H := e1 ▸ hP
        have hD : va_D (n_A b s.heap.size) _ := e1 ▸ hD
        refine lv_iinc (v := nI (k + 1)) (lv' := [(1, .int (nI (k + 1))), (0, .ref b)]) hx hb dX3_init_115 hl (k := 0) rfl (nI_1 _) (by decide) rfl (fun ls hl => ?_)
        refine lv_goto (tgt := 85) hx hb dX3_init_118 (by decide) ?_
        exact ih (k + 1) (va_up B k q) H locs ls (by omega) (by omega) hP hD hS hl
  refine lv_iconst (v := 0) hx hb dX3_init_83 (by decide) ?_
  refine lv_istore_n (lv' := [(1, .int (nI 0)), (0, .ref b)]) hx hb dX3_init_84 rfl hl (by decide) rfl (fun ls hl => ?_)
  exact h85 6 0 (fun _ => 0) H locs ls (by omega) (by omega) (by rw [n_refs0, show n_many (fun i => n_binE i ((fun _ => 0) i)) 0 = [] from rfl, List.append_nil]; exact hP) (by rw [n_refs0, show n_many (fun i => n_binE i ((fun _ => 0) i)) 0 = [] from rfl, List.append_nil]; exact hD) hS hl
