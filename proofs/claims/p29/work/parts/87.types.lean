/-! ===== digits, types, reads: they answer 1 ===== -/
def u_dn (v : Int32) : Nat := if v.toInt < 10 then 1 else if v.toInt < 100 then 2 else 4
theorem u_dn1 {v : Int32} (h : v.toInt < 10) : u_dn v = 1 := if_pos h
theorem u_dn2 {v : Int32} (h : v.toInt < 100) : u_dn v ≤ 2 := by
  unfold u_dn
  by_cases a : v.toInt < 10
  · rw [if_pos a]; omega
  · rw [if_neg a, if_pos h]; omega
def u_PD (P : g_P) (M : g_M) (mb lo hi : Int) (ln : Nat) (v r : Int32) (P1 : g_P) (M1 : g_M) : Prop := 1 = r ∧ P = P1 ∧ z_Rel P M1 mb lo hi ∧ z_Tx M M1 ∧ ∃ ln' : Nat, M1 6 1 2 = nI ln' ∧ ln' ≤ ln + u_dn v
def u_PT (P : g_P) (M : g_M) (mb lo hi : Int) (r : Int32) (P1 : g_P) (M1 : g_M) : Prop := 1 = r ∧ P = P1 ∧ z_Rel P M1 mb lo hi ∧ z_Tx M M1
theorem u_dn4 {v : Int32} : u_dn v ≤ 4 := by unfold u_dn; split; omega; split <;> omega
theorem u_dnI (v : Int32) : 1 ≤ u_dn v ∧ (10 ≤ v.toInt → 2 ≤ u_dn v) ∧ (100 ≤ v.toInt → u_dn v = 4) := by
  unfold u_dn
  by_cases a : v.toInt < 10
  · rw [if_pos a]; exact ⟨by omega, fun _ => by omega, fun _ => by omega⟩
  · rw [if_neg a]
    by_cases b : v.toInt < 100
    · rw [if_pos b]; exact ⟨by omega, fun _ => by omega, fun _ => by omega⟩
    · rw [if_neg b]; exact ⟨by omega, fun _ => by omega, fun _ => rfl⟩
theorem u_dig {a : Int32} (h : 0 ≤ a.toInt ∧ a.toInt ≤ 9) : 32 ≤ (48 + a).toInt ∧ (48 + a).toInt ≤ 126 := by
  have e : (48 : Int32).toInt = 48 := rfl
  rw [z_add (by omega) (by omega), e]
  omega
theorem u_divn {v d : Int32} (h0 : 0 ≤ v.toInt) (hd : 0 < d.toInt) : 0 ≤ (v / d).toInt := by
  rw [z_div h0 hd]
  exact Int.ediv_nonneg h0 (by omega)
theorem u_div9 {v : Int32} (h0 : 0 ≤ v.toInt) (h1 : v.toInt < 1500) : 0 ≤ (v / 1000).toInt ∧ (v / 1000).toInt ≤ 9 := by
  have e : (v / 1000).toInt = v.toInt / 1000 := z_div h0 (by decide)
  omega
theorem u_rem9 {a : Int32} (h0 : 0 ≤ a.toInt) : 0 ≤ (a - a / 10 * 10).toInt ∧ (a - a / 10 * 10).toInt ≤ 9 := by
  have e : (a - a / 10 * 10).toInt = a.toInt % 10 := rem_rg h0 (by decide)
  omega
abbrev rm_L_digits : Room := { frames := 2, cells := 0, slots := 0, locals := 42 }
set_option maxHeartbeats 4000000 in
set_option maxRecDepth 100000 in
theorem c_L_digits (l : Launch) (D : va_G) (tb : g_T) (ad : g_Ad) (hj : g_inj ad) (P : g_P) (M : g_M) {mb lo hi : Int} (hz : z_Rel P M mb lo hi) (v : Int32) (hv : 0 ≤ v.toInt ∧ v.toInt < 1500) {ln : Nat} (hlen : M 6 1 2 = nI ln) (hln : ln + u_dn v ≤ 60) : g_Cx l yL_digits cL_digits 3 (some .boolean) rm_L_digits D tb ad [.ref (ad 6 0), .int v] P M (u_PD P M mb lo hi ln v) := by
  refine g_go (by decide) (Nat.le_of_ble_eq_true rfl) hj ?_
  intro p e s m below meth c ls H locs R args Q hR0 hQ hx hb hml hr0 hlk hown hts hC hI hl
  subst hR0
  have hown : s.vm.findClass RL = some m.cls := hown
  have hl : lv_has ls 3 [(0, .ref (ad 6 0)), (1, .int v)] := hl
  have X : L_x p s m args c cL_digits 3 D tb ad (g_A ad) := ⟨hx, hb, hml, hown, hts, hC, hj⟩
  have hdn := u_dnI v
  refine lv_iload_n hx hb dL_digits_0 rfl (lv_at hl 1 rfl) ?_
  refine lv_sipush (v := 1000) hx hb dL_digits_1 (by decide) ?_
  refine lv_icmp_lt (tgt := 22) hx hb dL_digits_4 (by decide) (fun c1 => ?_) (fun c1 => ?_)
  · have c1i : v.toInt < 1000 := Int32.lt_iff_toInt_lt.mp c1
    refine lv_iload_n hx hb dL_digits_22 rfl (lv_at hl 1 rfl) ?_
    refine lv_bipush (v := 100) hx hb dL_digits_23 (by decide) ?_
    refine lv_icmp_lt (tgt := 45) hx hb dL_digits_25 (by decide) (fun c2 => ?_) (fun c2 => ?_)
    · have c2i : v.toInt < 100 := Int32.lt_iff_toInt_lt.mp c2
      refine lv_iload_n hx hb dL_digits_45 rfl (lv_at hl 1 rfl) ?_
      refine lv_bipush (v := 10) hx hb dL_digits_46 (by decide) ?_
      refine lv_icmp_lt (tgt := 68) hx hb dL_digits_48 (by decide) (fun c3 => ?_) (fun c3 => ?_)
      · have c3i : v.toInt < 10 := Int32.lt_iff_toInt_lt.mp c3
        refine lv_iconst (v := 1) hx hb dL_digits_68 (by decide) ?_
        refine lv_goto (tgt := 73) hx hb dL_digits_69 (by decide) ?_
        refine lv_istore_n (lv' := [(2, .int 1), (0, .ref (ad 6 0)), (1, .int v)]) hx hb dL_digits_73 rfl hl (by decide) rfl (fun ls hl => ?_)
        refine lv_iload_n hx hb dL_digits_74 rfl (lv_at hl 0 rfl) ?_
        refine lv_if_eq (tgt := 96) hx hb dL_digits_75 (by decide) (fun c4 => absurd c4 (by decide)) (fun _ => ?_)
        refine lv_aload_n hx hb dL_digits_78 rfl (lv_at hl 1 rfl) ?_
        refine lv_bipush (v := 48) hx hb dL_digits_79 (by decide) ?_
        refine lv_iload_n hx hb dL_digits_81 rfl (lv_at hl 2 rfl) ?_
        refine lv_bipush (v := 10) hx hb dL_digits_82 (by decide) ?_
        refine lv_irem hx hb dL_digits_84 (by decide) ?_
        refine lv_iadd hx hb dL_digits_85 ?_
        refine r_type (rest := []) X hI hz hlen (by omega) (u_dig (u_rem9 hv.1)) hl.1 rfl ⟨rfl, rfl, by decide, by decide⟩ (Nat.le_of_ble_eq_true rfl) ⟨Nat.zero_le _, Nat.zero_le _⟩ dL_digits_86 (fun M1 hz1 hT1 hL1 H locs hI r1 hr1 => ?_)
        refine lv_if_le (tgt := 96) hx hb dL_digits_89 (by decide) (fun c5 => ?_) (fun c5 => ?_)
        · (rw [Int32.le_iff_toInt_le, z_i0] at c5; omega)
        · skip
          refine lv_iconst (v := 1) hx hb dL_digits_92 (by decide) ?_
          refine lv_goto (tgt := 97) hx hb dL_digits_93 (by decide) ?_
          exact g_xr (Post := u_PD P M mb lo hi ln v) hQ hx hb hr0 hlk hC hI dL_digits_97 rfl ⟨rfl, rfl, hz1, hT1, _, hL1, by omega⟩
      · have c3i : ¬ v.toInt < 10 := fun z => c3 (Int32.lt_iff_toInt_lt.mpr z)
        refine lv_aload_n hx hb dL_digits_51 rfl (lv_at hl 0 rfl) ?_
        refine lv_bipush (v := 48) hx hb dL_digits_52 (by decide) ?_
        refine lv_iload_n hx hb dL_digits_54 rfl (lv_at hl 1 rfl) ?_
        refine lv_bipush (v := 10) hx hb dL_digits_55 (by decide) ?_
        refine lv_idiv hx hb dL_digits_57 (by decide) ?_
        refine lv_bipush (v := 10) hx hb dL_digits_58 (by decide) ?_
        refine lv_irem hx hb dL_digits_60 (by decide) ?_
        refine lv_iadd hx hb dL_digits_61 ?_
        refine r_type (rest := []) X hI hz hlen (by omega) (u_dig (u_rem9 (u_divn hv.1 (by decide)))) hl.1 rfl ⟨rfl, rfl, by decide, by decide⟩ (Nat.le_of_ble_eq_true rfl) ⟨Nat.zero_le _, Nat.zero_le _⟩ dL_digits_62 (fun M2 hz2 hT2 hL2 H locs hI r2 hr2 => ?_)
        refine lv_if_le (tgt := 72) hx hb dL_digits_65 (by decide) (fun c6 => ?_) (fun c6 => ?_)
        · (rw [Int32.le_iff_toInt_le, z_i0] at c6; omega)
        · skip
          refine lv_iconst (v := 1) hx hb dL_digits_68 (by decide) ?_
          refine lv_goto (tgt := 73) hx hb dL_digits_69 (by decide) ?_
          refine lv_istore_n (lv' := [(2, .int 1), (0, .ref (ad 6 0)), (1, .int v)]) hx hb dL_digits_73 rfl hl (by decide) rfl (fun ls hl => ?_)
          refine lv_iload_n hx hb dL_digits_74 rfl (lv_at hl 0 rfl) ?_
          refine lv_if_eq (tgt := 96) hx hb dL_digits_75 (by decide) (fun c7 => absurd c7 (by decide)) (fun _ => ?_)
          refine lv_aload_n hx hb dL_digits_78 rfl (lv_at hl 1 rfl) ?_
          refine lv_bipush (v := 48) hx hb dL_digits_79 (by decide) ?_
          refine lv_iload_n hx hb dL_digits_81 rfl (lv_at hl 2 rfl) ?_
          refine lv_bipush (v := 10) hx hb dL_digits_82 (by decide) ?_
          refine lv_irem hx hb dL_digits_84 (by decide) ?_
          refine lv_iadd hx hb dL_digits_85 ?_
          refine r_type (rest := []) X hI hz2 hL2 (by omega) (u_dig (u_rem9 hv.1)) hl.1 rfl ⟨rfl, rfl, by decide, by decide⟩ (Nat.le_of_ble_eq_true rfl) ⟨Nat.zero_le _, Nat.zero_le _⟩ dL_digits_86 (fun M3 hz3 hT3 hL3 H locs hI r3 hr3 => ?_)
          refine lv_if_le (tgt := 96) hx hb dL_digits_89 (by decide) (fun c8 => ?_) (fun c8 => ?_)
          · (rw [Int32.le_iff_toInt_le, z_i0] at c8; omega)
          · skip
            refine lv_iconst (v := 1) hx hb dL_digits_92 (by decide) ?_
            refine lv_goto (tgt := 97) hx hb dL_digits_93 (by decide) ?_
            exact g_xr (Post := u_PD P M mb lo hi ln v) hQ hx hb hr0 hlk hC hI dL_digits_97 rfl ⟨rfl, rfl, hz3, (hT2.tr hT3), _, hL3, by omega⟩
    · have c2i : ¬ v.toInt < 100 := fun z => c2 (Int32.lt_iff_toInt_lt.mpr z)
      refine lv_aload_n hx hb dL_digits_28 rfl (lv_at hl 0 rfl) ?_
      refine lv_bipush (v := 48) hx hb dL_digits_29 (by decide) ?_
      refine lv_iload_n hx hb dL_digits_31 rfl (lv_at hl 1 rfl) ?_
      refine lv_bipush (v := 100) hx hb dL_digits_32 (by decide) ?_
      refine lv_idiv hx hb dL_digits_34 (by decide) ?_
      refine lv_bipush (v := 10) hx hb dL_digits_35 (by decide) ?_
      refine lv_irem hx hb dL_digits_37 (by decide) ?_
      refine lv_iadd hx hb dL_digits_38 ?_
      refine r_type (rest := []) X hI hz hlen (by omega) (u_dig (u_rem9 (u_divn hv.1 (by decide)))) hl.1 rfl ⟨rfl, rfl, by decide, by decide⟩ (Nat.le_of_ble_eq_true rfl) ⟨Nat.zero_le _, Nat.zero_le _⟩ dL_digits_39 (fun M4 hz4 hT4 hL4 H locs hI r4 hr4 => ?_)
      refine lv_if_le (tgt := 72) hx hb dL_digits_42 (by decide) (fun c9 => ?_) (fun c9 => ?_)
      · (rw [Int32.le_iff_toInt_le, z_i0] at c9; omega)
      · skip
        refine lv_iload_n hx hb dL_digits_45 rfl (lv_at hl 1 rfl) ?_
        refine lv_bipush (v := 10) hx hb dL_digits_46 (by decide) ?_
        refine lv_icmp_lt (tgt := 68) hx hb dL_digits_48 (by decide) (fun c10 => ?_) (fun c10 => ?_)
        · (rw [Int32.lt_iff_toInt_lt] at c10; have z : v.toInt < 10 := c10; omega)
        · have c10i : ¬ v.toInt < 10 := fun z => c10 (Int32.lt_iff_toInt_lt.mpr z)
          refine lv_aload_n hx hb dL_digits_51 rfl (lv_at hl 0 rfl) ?_
          refine lv_bipush (v := 48) hx hb dL_digits_52 (by decide) ?_
          refine lv_iload_n hx hb dL_digits_54 rfl (lv_at hl 1 rfl) ?_
          refine lv_bipush (v := 10) hx hb dL_digits_55 (by decide) ?_
          refine lv_idiv hx hb dL_digits_57 (by decide) ?_
          refine lv_bipush (v := 10) hx hb dL_digits_58 (by decide) ?_
          refine lv_irem hx hb dL_digits_60 (by decide) ?_
          refine lv_iadd hx hb dL_digits_61 ?_
          refine r_type (rest := []) X hI hz4 hL4 (by omega) (u_dig (u_rem9 (u_divn hv.1 (by decide)))) hl.1 rfl ⟨rfl, rfl, by decide, by decide⟩ (Nat.le_of_ble_eq_true rfl) ⟨Nat.zero_le _, Nat.zero_le _⟩ dL_digits_62 (fun M5 hz5 hT5 hL5 H locs hI r5 hr5 => ?_)
          refine lv_if_le (tgt := 72) hx hb dL_digits_65 (by decide) (fun c11 => ?_) (fun c11 => ?_)
          · (rw [Int32.le_iff_toInt_le, z_i0] at c11; omega)
          · skip
            refine lv_iconst (v := 1) hx hb dL_digits_68 (by decide) ?_
            refine lv_goto (tgt := 73) hx hb dL_digits_69 (by decide) ?_
            refine lv_istore_n (lv' := [(2, .int 1), (0, .ref (ad 6 0)), (1, .int v)]) hx hb dL_digits_73 rfl hl (by decide) rfl (fun ls hl => ?_)
            refine lv_iload_n hx hb dL_digits_74 rfl (lv_at hl 0 rfl) ?_
            refine lv_if_eq (tgt := 96) hx hb dL_digits_75 (by decide) (fun c12 => absurd c12 (by decide)) (fun _ => ?_)
            refine lv_aload_n hx hb dL_digits_78 rfl (lv_at hl 1 rfl) ?_
            refine lv_bipush (v := 48) hx hb dL_digits_79 (by decide) ?_
            refine lv_iload_n hx hb dL_digits_81 rfl (lv_at hl 2 rfl) ?_
            refine lv_bipush (v := 10) hx hb dL_digits_82 (by decide) ?_
            refine lv_irem hx hb dL_digits_84 (by decide) ?_
            refine lv_iadd hx hb dL_digits_85 ?_
            refine r_type (rest := []) X hI hz5 hL5 (by omega) (u_dig (u_rem9 hv.1)) hl.1 rfl ⟨rfl, rfl, by decide, by decide⟩ (Nat.le_of_ble_eq_true rfl) ⟨Nat.zero_le _, Nat.zero_le _⟩ dL_digits_86 (fun M6 hz6 hT6 hL6 H locs hI r6 hr6 => ?_)
            refine lv_if_le (tgt := 96) hx hb dL_digits_89 (by decide) (fun c13 => ?_) (fun c13 => ?_)
            · (rw [Int32.le_iff_toInt_le, z_i0] at c13; omega)
            · skip
              refine lv_iconst (v := 1) hx hb dL_digits_92 (by decide) ?_
              refine lv_goto (tgt := 97) hx hb dL_digits_93 (by decide) ?_
              exact g_xr (Post := u_PD P M mb lo hi ln v) hQ hx hb hr0 hlk hC hI dL_digits_97 rfl ⟨rfl, rfl, hz6, ((hT4.tr hT5).tr hT6), _, hL6, by omega⟩
  · have c1i : ¬ v.toInt < 1000 := fun z => c1 (Int32.lt_iff_toInt_lt.mpr z)
    refine lv_aload_n hx hb dL_digits_7 rfl (lv_at hl 0 rfl) ?_
    refine lv_bipush (v := 48) hx hb dL_digits_8 (by decide) ?_
    refine lv_iload_n hx hb dL_digits_10 rfl (lv_at hl 1 rfl) ?_
    refine lv_sipush (v := 1000) hx hb dL_digits_11 (by decide) ?_
    refine lv_idiv hx hb dL_digits_14 (by decide) ?_
    refine lv_iadd hx hb dL_digits_15 ?_
    refine r_type (rest := []) X hI hz hlen (by omega) (u_dig (u_div9 hv.1 hv.2)) hl.1 rfl ⟨rfl, rfl, by decide, by decide⟩ (Nat.le_of_ble_eq_true rfl) ⟨Nat.zero_le _, Nat.zero_le _⟩ dL_digits_16 (fun M7 hz7 hT7 hL7 H locs hI r7 hr7 => ?_)
    refine lv_if_le (tgt := 72) hx hb dL_digits_19 (by decide) (fun c14 => ?_) (fun c14 => ?_)
    · (rw [Int32.le_iff_toInt_le, z_i0] at c14; omega)
    · skip
      refine lv_iload_n hx hb dL_digits_22 rfl (lv_at hl 1 rfl) ?_
      refine lv_bipush (v := 100) hx hb dL_digits_23 (by decide) ?_
      refine lv_icmp_lt (tgt := 45) hx hb dL_digits_25 (by decide) (fun c15 => ?_) (fun c15 => ?_)
      · (rw [Int32.lt_iff_toInt_lt] at c15; have z : v.toInt < 100 := c15; omega)
      · have c15i : ¬ v.toInt < 100 := fun z => c15 (Int32.lt_iff_toInt_lt.mpr z)
        refine lv_aload_n hx hb dL_digits_28 rfl (lv_at hl 0 rfl) ?_
        refine lv_bipush (v := 48) hx hb dL_digits_29 (by decide) ?_
        refine lv_iload_n hx hb dL_digits_31 rfl (lv_at hl 1 rfl) ?_
        refine lv_bipush (v := 100) hx hb dL_digits_32 (by decide) ?_
        refine lv_idiv hx hb dL_digits_34 (by decide) ?_
        refine lv_bipush (v := 10) hx hb dL_digits_35 (by decide) ?_
        refine lv_irem hx hb dL_digits_37 (by decide) ?_
        refine lv_iadd hx hb dL_digits_38 ?_
        refine r_type (rest := []) X hI hz7 hL7 (by omega) (u_dig (u_rem9 (u_divn hv.1 (by decide)))) hl.1 rfl ⟨rfl, rfl, by decide, by decide⟩ (Nat.le_of_ble_eq_true rfl) ⟨Nat.zero_le _, Nat.zero_le _⟩ dL_digits_39 (fun M8 hz8 hT8 hL8 H locs hI r8 hr8 => ?_)
        refine lv_if_le (tgt := 72) hx hb dL_digits_42 (by decide) (fun c16 => ?_) (fun c16 => ?_)
        · (rw [Int32.le_iff_toInt_le, z_i0] at c16; omega)
        · skip
          refine lv_iload_n hx hb dL_digits_45 rfl (lv_at hl 1 rfl) ?_
          refine lv_bipush (v := 10) hx hb dL_digits_46 (by decide) ?_
          refine lv_icmp_lt (tgt := 68) hx hb dL_digits_48 (by decide) (fun c17 => ?_) (fun c17 => ?_)
          · (rw [Int32.lt_iff_toInt_lt] at c17; have z : v.toInt < 10 := c17; omega)
          · have c17i : ¬ v.toInt < 10 := fun z => c17 (Int32.lt_iff_toInt_lt.mpr z)
            refine lv_aload_n hx hb dL_digits_51 rfl (lv_at hl 0 rfl) ?_
            refine lv_bipush (v := 48) hx hb dL_digits_52 (by decide) ?_
            refine lv_iload_n hx hb dL_digits_54 rfl (lv_at hl 1 rfl) ?_
            refine lv_bipush (v := 10) hx hb dL_digits_55 (by decide) ?_
            refine lv_idiv hx hb dL_digits_57 (by decide) ?_
            refine lv_bipush (v := 10) hx hb dL_digits_58 (by decide) ?_
            refine lv_irem hx hb dL_digits_60 (by decide) ?_
            refine lv_iadd hx hb dL_digits_61 ?_
            refine r_type (rest := []) X hI hz8 hL8 (by omega) (u_dig (u_rem9 (u_divn hv.1 (by decide)))) hl.1 rfl ⟨rfl, rfl, by decide, by decide⟩ (Nat.le_of_ble_eq_true rfl) ⟨Nat.zero_le _, Nat.zero_le _⟩ dL_digits_62 (fun M9 hz9 hT9 hL9 H locs hI r9 hr9 => ?_)
            refine lv_if_le (tgt := 72) hx hb dL_digits_65 (by decide) (fun c18 => ?_) (fun c18 => ?_)
            · (rw [Int32.le_iff_toInt_le, z_i0] at c18; omega)
            · skip
              refine lv_iconst (v := 1) hx hb dL_digits_68 (by decide) ?_
              refine lv_goto (tgt := 73) hx hb dL_digits_69 (by decide) ?_
              refine lv_istore_n (lv' := [(2, .int 1), (0, .ref (ad 6 0)), (1, .int v)]) hx hb dL_digits_73 rfl hl (by decide) rfl (fun ls hl => ?_)
              refine lv_iload_n hx hb dL_digits_74 rfl (lv_at hl 0 rfl) ?_
              refine lv_if_eq (tgt := 96) hx hb dL_digits_75 (by decide) (fun c19 => absurd c19 (by decide)) (fun _ => ?_)
              refine lv_aload_n hx hb dL_digits_78 rfl (lv_at hl 1 rfl) ?_
              refine lv_bipush (v := 48) hx hb dL_digits_79 (by decide) ?_
              refine lv_iload_n hx hb dL_digits_81 rfl (lv_at hl 2 rfl) ?_
              refine lv_bipush (v := 10) hx hb dL_digits_82 (by decide) ?_
              refine lv_irem hx hb dL_digits_84 (by decide) ?_
              refine lv_iadd hx hb dL_digits_85 ?_
              refine r_type (rest := []) X hI hz9 hL9 (by omega) (u_dig (u_rem9 hv.1)) hl.1 rfl ⟨rfl, rfl, by decide, by decide⟩ (Nat.le_of_ble_eq_true rfl) ⟨Nat.zero_le _, Nat.zero_le _⟩ dL_digits_86 (fun M10 hz10 hT10 hL10 H locs hI r10 hr10 => ?_)
              refine lv_if_le (tgt := 96) hx hb dL_digits_89 (by decide) (fun c20 => ?_) (fun c20 => ?_)
              · (rw [Int32.le_iff_toInt_le, z_i0] at c20; omega)
              · skip
                refine lv_iconst (v := 1) hx hb dL_digits_92 (by decide) ?_
                refine lv_goto (tgt := 97) hx hb dL_digits_93 (by decide) ?_
                exact g_xr (Post := u_PD P M mb lo hi ln v) hQ hx hb hr0 hlk hC hI dL_digits_97 rfl ⟨rfl, rfl, hz10, (((hT7.tr hT8).tr hT9).tr hT10), _, hL10, by omega⟩
abbrev rm_L_types : Room := { frames := 3, cells := 0, slots := 0, locals := 64 }
set_option maxHeartbeats 4000000 in
set_option maxRecDepth 100000 in
theorem c_L_types (l : Launch) (D : va_G) (tb : g_T) (ad : g_Ad) (hj : g_inj ad) (P : g_P) (M : g_M) {mb lo hi : Int} (hz : z_Rel P M mb lo hi) (x : Int32) : g_Cx l yL_types cL_types 10 (some .boolean) rm_L_types D tb ad [.ref (ad 6 0), .int x] P M (u_PT P M mb lo hi) := by
  refine g_go (by decide) (Nat.le_of_ble_eq_true rfl) hj ?_
  intro p e s m below meth c ls H locs R args Q hR0 hQ hx hb hml hr0 hlk hown hts hC hI hl
  subst hR0
  have hown : s.vm.findClass RL = some m.cls := hown
  have hl : lv_has ls 10 [(0, .ref (ad 6 0)), (1, .int x)] := hl
  have X : L_x p s m args c cL_types 10 D tb ad (g_A ad) := ⟨hx, hb, hml, hown, hts, hC, hj⟩
  have lp22 : ∀ (N d k : Nat) (Mk : g_M) (ln : Nat), N < 5 → k ≤ N → N < k + d → z_Rel P Mk mb lo hi → z_Tx M Mk → Mk 6 1 2 = nI ln → ln ≤ 10 * k → ∀ (H : Heap) (locs : List Loc) (ls : Array Slot), g_I D tb ad (g_A ad) s H locs P Mk → lv_has ls 10 [(4, .int (nI k)), (3, .int 1), (2, .int (nI N)), (1, .int x), (0, .ref (ad 6 0))] → W p l e rm_L_types s m args below meth c H locs 0 0 Q (F0 m 22 ls []) := by
    intro N d
    induction d with
    | zero => intros; omega
    | succ d ih =>
      intro k Mk ln hN hkN hd hzk hTk hLk hlnk H locs ls hI hl
      refine lv_iload hx hb dL_types_22 (lv_at hl 0 rfl) ?_
      refine lv_iload_n hx hb dL_types_24 rfl (lv_at hl 2 rfl) ?_
      refine lv_icmp_ge (tgt := 339) hx hb dL_types_25 (by decide) (fun c1 => ?_) (fun c1 => ?_)
      · have c1n : N ≤ k := (nI_leI (a := N) (b := k) (by omega) (by omega)).mp c1
        refine lv_iload_n hx hb dL_types_339 rfl (lv_at hl 1 rfl) ?_
        exact g_xr (Post := u_PT P M mb lo hi) hQ hx hb hr0 hlk hC hI dL_types_340 rfl ⟨rfl, rfl, hzk, hTk⟩
      · have c1n : ¬ N ≤ k := fun z => c1 ((nI_leI (a := N) (b := k) (by omega) (by omega)).mpr z)
        have E277 : ∀ (Mq : g_M) (lq : Nat), z_Rel P Mq mb lo hi → z_Tx M Mq → Mq 6 1 2 = nI lq → lq ≤ 10 * k + 9 → ∀ (H : Heap) (locs : List Loc) (ls : Array Slot), g_I D tb ad (g_A ad) s H locs P Mq → lv_has ls 10 [(4, .int (nI k)), (3, .int 1), (2, .int (nI N)), (1, .int x), (0, .ref (ad 6 0))] → W p l e rm_L_types s m args below meth c H locs 0 0 Q (F0 m 277 ls []) := by
          intro Mq lq hzq hTq hLq hlq H locs ls hI hl
          refine lv_iload_n hx hb dL_types_277 rfl (lv_at hl 1 rfl) ?_
          refine lv_if_eq (tgt := 331) hx hb dL_types_278 (by decide) (fun c41 => absurd c41 (by decide)) (fun _ => ?_)
          refine lv_iload_n hx hb dL_types_281 rfl (lv_at hl 3 rfl) ?_
          refine lv_bipush (v := 24) hx hb dL_types_282 (by decide) ?_
          refine lv_ishr hx hb dL_types_284 ?_
          refine lv_topi (fun sh42 _ => ?_)
          refine lv_bipush (v := 6) hx hb dL_types_285 (by decide) ?_
          refine r_low (rest := []) X hI (by decide) hl.1 rfl ⟨rfl, rfl, by decide, by decide⟩ (Nat.le_of_ble_eq_true rfl) ⟨Nat.zero_le _, Nat.zero_le _⟩ dL_types_287 (fun H locs hI w43 w43a w43b => ?_)
          have w43b : w43.toInt < 6 := w43b
          refine lv_if_ne (tgt := 301) hx hb dL_types_290 (by decide) (fun c44 => ?_) (fun c44 => ?_)
          · skip
            refine lv_aload_n hx hb dL_types_301 rfl (lv_at hl 4 rfl) ?_
            refine lv_iload_n hx hb dL_types_302 rfl (lv_at hl 3 rfl) ?_
            refine lv_bipush (v := 20) hx hb dL_types_303 (by decide) ?_
            refine lv_ishr hx hb dL_types_305 ?_
            refine lv_topi (fun sh45 _ => ?_)
            refine lv_bipush (v := 11) hx hb dL_types_306 (by decide) ?_
            refine r_low (rest := [.ref (ad 6 0)]) X hI (by decide) hl.1 rfl ⟨rfl, rfl, by decide, by decide⟩ (Nat.le_of_ble_eq_true rfl) ⟨Nat.zero_le _, Nat.zero_le _⟩ dL_types_308 (fun H locs hI w46 w46a w46b => ?_)
            have w46b : w46.toInt < 11 := w46b
            refine lv_if_ne (tgt := 319) hx hb dL_types_311 (by decide) (fun c47 => ?_) (fun c47 => ?_)
            · skip
              refine lv_bipush (v := 59) hx hb dL_types_319 (by decide) ?_
              refine r_type (rest := []) X hI hzq hLq (by omega) (by decide) hl.1 rfl ⟨rfl, rfl, by decide, by decide⟩ (Nat.le_of_ble_eq_true rfl) ⟨Nat.zero_le _, Nat.zero_le _⟩ dL_types_321 (fun M11 hz11 hT11 hL11 H locs hI r11 hr11 => ?_)
              refine lv_if_le (tgt := 331) hx hb dL_types_324 (by decide) (fun c48 => ?_) (fun c48 => ?_)
              · (rw [Int32.le_iff_toInt_le, z_i0] at c48; omega)
              · skip
                refine lv_iconst (v := 1) hx hb dL_types_327 (by decide) ?_
                refine lv_goto (tgt := 332) hx hb dL_types_328 (by decide) ?_
                refine lv_istore_n (lv' := [(3, .int 1), (4, .int (nI k)), (2, .int (nI N)), (1, .int x), (0, .ref (ad 6 0))]) hx hb dL_types_332 rfl hl (by decide) rfl (fun ls hl => ?_)
                refine lv_iinc (v := nI (k + 1)) (lv' := [(4, .int (nI (k + 1))), (3, .int 1), (2, .int (nI N)), (1, .int x), (0, .ref (ad 6 0))]) hx hb dL_types_333 hl (k := 1) rfl (nI_1 _) (by decide) rfl (fun ls hl => ?_)
                refine lv_goto (tgt := 22) hx hb dL_types_336 (by decide) ?_
                exact ih (k + 1) M11 _ hN (by omega) (by omega) hz11 (hTq.tr hT11) hL11 (by omega) _ _ _ hI (lv_sub hl [0, 1, 2, 3, 4] rfl)
            · skip
              refine lv_bipush (v := 46) hx hb dL_types_314 (by decide) ?_
              refine lv_goto (tgt := 321) hx hb dL_types_316 (by decide) ?_
              refine r_type (rest := []) X hI hzq hLq (by omega) (by decide) hl.1 rfl ⟨rfl, rfl, by decide, by decide⟩ (Nat.le_of_ble_eq_true rfl) ⟨Nat.zero_le _, Nat.zero_le _⟩ dL_types_321 (fun M12 hz12 hT12 hL12 H locs hI r12 hr12 => ?_)
              refine lv_if_le (tgt := 331) hx hb dL_types_324 (by decide) (fun c49 => ?_) (fun c49 => ?_)
              · (rw [Int32.le_iff_toInt_le, z_i0] at c49; omega)
              · skip
                refine lv_iconst (v := 1) hx hb dL_types_327 (by decide) ?_
                refine lv_goto (tgt := 332) hx hb dL_types_328 (by decide) ?_
                refine lv_istore_n (lv' := [(3, .int 1), (4, .int (nI k)), (2, .int (nI N)), (1, .int x), (0, .ref (ad 6 0))]) hx hb dL_types_332 rfl hl (by decide) rfl (fun ls hl => ?_)
                refine lv_iinc (v := nI (k + 1)) (lv' := [(4, .int (nI (k + 1))), (3, .int 1), (2, .int (nI N)), (1, .int x), (0, .ref (ad 6 0))]) hx hb dL_types_333 hl (k := 1) rfl (nI_1 _) (by decide) rfl (fun ls hl => ?_)
                refine lv_goto (tgt := 22) hx hb dL_types_336 (by decide) ?_
                exact ih (k + 1) M12 _ hN (by omega) (by omega) hz12 (hTq.tr hT12) hL12 (by omega) _ _ _ hI (lv_sub hl [0, 1, 2, 3, 4] rfl)
          · skip
            refine lv_iload hx hb dL_types_293 (lv_at hl 0 rfl) ?_
            refine lv_iload_n hx hb dL_types_295 rfl (lv_at hl 2 rfl) ?_
            refine lv_iconst (v := 1) hx hb dL_types_296 (by decide) ?_
            refine lv_isub hx hb dL_types_297 ?_
            refine lv_icmp_eq (tgt := 327) hx hb dL_types_298 (by decide) (fun c50 => ?_) (fun c50 => ?_)
            · skip
              refine lv_iconst (v := 1) hx hb dL_types_327 (by decide) ?_
              refine lv_goto (tgt := 332) hx hb dL_types_328 (by decide) ?_
              refine lv_istore_n (lv' := [(3, .int 1), (4, .int (nI k)), (2, .int (nI N)), (1, .int x), (0, .ref (ad 6 0))]) hx hb dL_types_332 rfl hl (by decide) rfl (fun ls hl => ?_)
              refine lv_iinc (v := nI (k + 1)) (lv' := [(4, .int (nI (k + 1))), (3, .int 1), (2, .int (nI N)), (1, .int x), (0, .ref (ad 6 0))]) hx hb dL_types_333 hl (k := 1) rfl (nI_1 _) (by decide) rfl (fun ls hl => ?_)
              refine lv_goto (tgt := 22) hx hb dL_types_336 (by decide) ?_
              exact ih (k + 1) Mq _ hN (by omega) (by omega) hzq hTq hLq (by omega) _ _ _ hI (lv_sub hl [0, 1, 2, 3, 4] rfl)
            · skip
              refine lv_aload_n hx hb dL_types_301 rfl (lv_at hl 4 rfl) ?_
              refine lv_iload_n hx hb dL_types_302 rfl (lv_at hl 3 rfl) ?_
              refine lv_bipush (v := 20) hx hb dL_types_303 (by decide) ?_
              refine lv_ishr hx hb dL_types_305 ?_
              refine lv_topi (fun sh51 _ => ?_)
              refine lv_bipush (v := 11) hx hb dL_types_306 (by decide) ?_
              refine r_low (rest := [.ref (ad 6 0)]) X hI (by decide) hl.1 rfl ⟨rfl, rfl, by decide, by decide⟩ (Nat.le_of_ble_eq_true rfl) ⟨Nat.zero_le _, Nat.zero_le _⟩ dL_types_308 (fun H locs hI w52 w52a w52b => ?_)
              have w52b : w52.toInt < 11 := w52b
              refine lv_if_ne (tgt := 319) hx hb dL_types_311 (by decide) (fun c53 => ?_) (fun c53 => ?_)
              · skip
                refine lv_bipush (v := 59) hx hb dL_types_319 (by decide) ?_
                refine r_type (rest := []) X hI hzq hLq (by omega) (by decide) hl.1 rfl ⟨rfl, rfl, by decide, by decide⟩ (Nat.le_of_ble_eq_true rfl) ⟨Nat.zero_le _, Nat.zero_le _⟩ dL_types_321 (fun M13 hz13 hT13 hL13 H locs hI r13 hr13 => ?_)
                refine lv_if_le (tgt := 331) hx hb dL_types_324 (by decide) (fun c54 => ?_) (fun c54 => ?_)
                · (rw [Int32.le_iff_toInt_le, z_i0] at c54; omega)
                · skip
                  refine lv_iconst (v := 1) hx hb dL_types_327 (by decide) ?_
                  refine lv_goto (tgt := 332) hx hb dL_types_328 (by decide) ?_
                  refine lv_istore_n (lv' := [(3, .int 1), (4, .int (nI k)), (2, .int (nI N)), (1, .int x), (0, .ref (ad 6 0))]) hx hb dL_types_332 rfl hl (by decide) rfl (fun ls hl => ?_)
                  refine lv_iinc (v := nI (k + 1)) (lv' := [(4, .int (nI (k + 1))), (3, .int 1), (2, .int (nI N)), (1, .int x), (0, .ref (ad 6 0))]) hx hb dL_types_333 hl (k := 1) rfl (nI_1 _) (by decide) rfl (fun ls hl => ?_)
                  refine lv_goto (tgt := 22) hx hb dL_types_336 (by decide) ?_
                  exact ih (k + 1) M13 _ hN (by omega) (by omega) hz13 (hTq.tr hT13) hL13 (by omega) _ _ _ hI (lv_sub hl [0, 1, 2, 3, 4] rfl)
              · skip
                refine lv_bipush (v := 46) hx hb dL_types_314 (by decide) ?_
                refine lv_goto (tgt := 321) hx hb dL_types_316 (by decide) ?_
                refine r_type (rest := []) X hI hzq hLq (by omega) (by decide) hl.1 rfl ⟨rfl, rfl, by decide, by decide⟩ (Nat.le_of_ble_eq_true rfl) ⟨Nat.zero_le _, Nat.zero_le _⟩ dL_types_321 (fun M14 hz14 hT14 hL14 H locs hI r14 hr14 => ?_)
                refine lv_if_le (tgt := 331) hx hb dL_types_324 (by decide) (fun c55 => ?_) (fun c55 => ?_)
                · (rw [Int32.le_iff_toInt_le, z_i0] at c55; omega)
                · skip
                  refine lv_iconst (v := 1) hx hb dL_types_327 (by decide) ?_
                  refine lv_goto (tgt := 332) hx hb dL_types_328 (by decide) ?_
                  refine lv_istore_n (lv' := [(3, .int 1), (4, .int (nI k)), (2, .int (nI N)), (1, .int x), (0, .ref (ad 6 0))]) hx hb dL_types_332 rfl hl (by decide) rfl (fun ls hl => ?_)
                  refine lv_iinc (v := nI (k + 1)) (lv' := [(4, .int (nI (k + 1))), (3, .int 1), (2, .int (nI N)), (1, .int x), (0, .ref (ad 6 0))]) hx hb dL_types_333 hl (k := 1) rfl (nI_1 _) (by decide) rfl (fun ls hl => ?_)
                  refine lv_goto (tgt := 22) hx hb dL_types_336 (by decide) ?_
                  exact ih (k + 1) M14 _ hN (by omega) (by omega) hz14 (hTq.tr hT14) hL14 (by omega) _ _ _ hI (lv_sub hl [0, 1, 2, 3, 4] rfl)
        refine lv_iload_n hx hb dL_types_28 rfl (lv_at hl 3 rfl) ?_
        refine lv_iconst (v := 3) hx hb dL_types_29 (by decide) ?_
        refine lv_iconst (v := 5) hx hb dL_types_30 (by decide) ?_
        refine lv_iload hx hb dL_types_31 (lv_at hl 0 rfl) ?_
        refine lv_imul hx hb dL_types_33 ?_
        refine g_te (pk_mul 5 k) ?_
        refine lv_iadd hx hb dL_types_34 ?_
        refine g_te (nI_add 3 (5 * k)) ?_
        refine lv_ishr hx hb dL_types_35 ?_
        refine lv_topi (fun sh61 _ => ?_)
        refine lv_istore (lv' := [(5, .int sh61), (4, .int (nI k)), (3, .int 1), (2, .int (nI N)), (1, .int x), (0, .ref (ad 6 0))]) hx hb dL_types_36 hl (by decide) rfl (fun ls hl => ?_)
        refine lv_iload hx hb dL_types_38 (lv_at hl 0 rfl) ?_
        refine lv_bipush (v := 9) hx hb dL_types_40 (by decide) ?_
        refine r_low (rest := []) X hI (by decide) hl.1 rfl ⟨rfl, rfl, by decide, by decide⟩ (Nat.le_of_ble_eq_true rfl) ⟨Nat.zero_le _, Nat.zero_le _⟩ dL_types_42 (fun H locs hI w62 w62a w62b => ?_)
        have w62b : w62.toInt < 9 := w62b
        obtain ⟨j5, hj5, rfl⟩ := z_lo (N := 9) w62a (by omega)
        rcases (show j5 = 0 ∨ j5 = 1 ∨ j5 = 2 ∨ j5 = 3 ∨ j5 = 4 ∨ j5 = 5 ∨ j5 = 6 ∨ j5 = 7 ∨ j5 = 8 by omega) with rfl | rfl | rfl | rfl | rfl | rfl | rfl | rfl | rfl
        · refine g_te (y := 0) rfl ?_
          refine lv_istore (lv' := [(6, .int 0), (5, .int sh61), (4, .int (nI k)), (3, .int 1), (2, .int (nI N)), (1, .int x), (0, .ref (ad 6 0))]) hx hb dL_types_45 hl (by decide) rfl (fun ls hl => ?_)
          refine lv_iload hx hb dL_types_47 (lv_at hl 0 rfl) ?_
          refine lv_iconst (v := 4) hx hb dL_types_49 (by decide) ?_
          refine lv_icmp_ge (tgt := 57) hx hb dL_types_50 (by decide) (fun c63 => absurd c63 (by decide)) (fun _ => ?_)
          refine lv_iconst (v := 3) hx hb dL_types_53 (by decide) ?_
          refine lv_goto (tgt := 69) hx hb dL_types_54 (by decide) ?_
          refine lv_istore (lv' := [(7, .int 3), (6, .int 0), (5, .int sh61), (4, .int (nI k)), (3, .int 1), (2, .int (nI N)), (1, .int x), (0, .ref (ad 6 0))]) hx hb dL_types_69 hl (by decide) rfl (fun ls hl => ?_)
          refine lv_iload_n hx hb dL_types_71 rfl (lv_at hl 4 rfl) ?_
          refine lv_if_eq (tgt := 146) hx hb dL_types_72 (by decide) (fun c64 => absurd c64 (by decide)) (fun _ => ?_)
          refine lv_aload_n hx hb dL_types_75 rfl (lv_at hl 7 rfl) ?_
          refine lv_iload hx hb dL_types_76 (lv_at hl 1 rfl) ?_
          refine lv_iconst (v := 2) hx hb dL_types_78 (by decide) ?_
          refine lv_icmp_ge (tgt := 87) hx hb dL_types_79 (by decide) (fun c65 => absurd c65 (by decide)) (fun _ => ?_)
          refine lv_bipush (v := 115) hx hb dL_types_82 (by decide) ?_
          refine lv_goto (tgt := 136) hx hb dL_types_84 (by decide) ?_
          refine r_type (rest := []) X hI hzk hLk (by omega) (by decide) hl.1 rfl ⟨rfl, rfl, by decide, by decide⟩ (Nat.le_of_ble_eq_true rfl) ⟨Nat.zero_le _, Nat.zero_le _⟩ dL_types_136 (fun M15 hz15 hT15 hL15 H locs hI r15 hr15 => ?_)
          refine lv_if_le (tgt := 146) hx hb dL_types_139 (by decide) (fun c66 => ?_) (fun c66 => ?_)
          · (rw [Int32.le_iff_toInt_le, z_i0] at c66; omega)
          · skip
            refine lv_iconst (v := 1) hx hb dL_types_142 (by decide) ?_
            refine lv_goto (tgt := 147) hx hb dL_types_143 (by decide) ?_
            refine lv_istore_n (lv' := [(3, .int 1), (7, .int 3), (6, .int 0), (5, .int sh61), (4, .int (nI k)), (2, .int (nI N)), (1, .int x), (0, .ref (ad 6 0))]) hx hb dL_types_147 rfl hl (by decide) rfl (fun ls hl => ?_)
            refine lv_iconst (v := 0) hx hb dL_types_148 (by decide) ?_
            refine lv_istore (lv' := [(8, .int 0), (3, .int 1), (7, .int 3), (6, .int 0), (5, .int sh61), (4, .int (nI k)), (2, .int (nI N)), (1, .int x), (0, .ref (ad 6 0))]) hx hb dL_types_149 hl (by decide) rfl (fun ls hl => ?_)
            refine lv_iload hx hb dL_types_151 (lv_at hl 0 rfl) ?_
            refine lv_iload hx hb dL_types_153 (lv_at hl 2 rfl) ?_
            refine lv_icmp_ge (tgt := 277) hx hb dL_types_155 (by decide) (fun c67 => absurd c67 (by decide)) (fun _ => ?_)
            refine lv_iload hx hb dL_types_158 (lv_at hl 3 rfl) ?_
            refine lv_iconst (v := 4) hx hb dL_types_160 (by decide) ?_
            refine lv_icmp_ge (tgt := 176) hx hb dL_types_161 (by decide) (fun c68 => absurd c68 (by decide)) (fun _ => ?_)
            refine lv_iload hx hb dL_types_164 (lv_at hl 0 rfl) ?_
            refine lv_iconst (v := 2) hx hb dL_types_166 (by decide) ?_
            refine lv_icmp_ne (tgt := 176) hx hb dL_types_167 (by decide) (fun _ => ?_) (fun c69 => absurd c69 (by decide))
            refine lv_iload hx hb dL_types_176 (lv_at hl 3 rfl) ?_
            refine lv_bipush (v := 6) hx hb dL_types_178 (by decide) ?_
            refine lv_icmp_ge (tgt := 200) hx hb dL_types_180 (by decide) (fun c70 => absurd c70 (by decide)) (fun _ => ?_)
            refine lv_iload hx hb dL_types_183 (lv_at hl 0 rfl) ?_
            refine lv_iconst (v := 1) hx hb dL_types_185 (by decide) ?_
            refine lv_icmp_ne (tgt := 200) hx hb dL_types_186 (by decide) (fun _ => ?_) (fun c71 => absurd c71 (by decide))
            refine lv_iload hx hb dL_types_200 (lv_at hl 3 rfl) ?_
            refine lv_bipush (v := 7) hx hb dL_types_202 (by decide) ?_
            refine lv_icmp_eq (tgt := 219) hx hb dL_types_204 (by decide) (fun c72 => absurd c72 (by decide)) (fun _ => ?_)
            refine lv_iload hx hb dL_types_207 (lv_at hl 3 rfl) ?_
            refine lv_iconst (v := 2) hx hb dL_types_209 (by decide) ?_
            refine lv_icmp_eq (tgt := 219) hx hb dL_types_210 (by decide) (fun c73 => absurd c73 (by decide)) (fun _ => ?_)
            refine lv_iload hx hb dL_types_213 (lv_at hl 3 rfl) ?_
            refine lv_iconst (v := 3) hx hb dL_types_215 (by decide) ?_
            refine lv_icmp_ne (tgt := 223) hx hb dL_types_216 (by decide) (fun _ => ?_) (fun c74 => absurd c74 (by decide))
            refine lv_iconst (v := 4) hx hb dL_types_223 (by decide) ?_
            refine lv_istore (lv' := [(9, .int 4), (8, .int 0), (3, .int 1), (7, .int 3), (6, .int 0), (5, .int sh61), (4, .int (nI k)), (2, .int (nI N)), (1, .int x), (0, .ref (ad 6 0))]) hx hb dL_types_224 hl (by decide) rfl (fun ls hl => ?_)
            refine lv_iload_n hx hb dL_types_226 rfl (lv_at hl 2 rfl) ?_
            refine lv_if_eq (tgt := 269) hx hb dL_types_227 (by decide) (fun c75 => absurd c75 (by decide)) (fun _ => ?_)
            refine lv_iload hx hb dL_types_230 (lv_at hl 1 rfl) ?_
            refine lv_if_eq (tgt := 244) hx hb dL_types_232 (by decide) (fun _ => ?_) (fun c76 => absurd c76 (by decide))
            refine lv_aload_n hx hb dL_types_244 rfl (lv_at hl 9 rfl) ?_
            refine lv_iload hx hb dL_types_245 (lv_at hl 5 rfl) ?_
            refine lv_iconst (v := 2) hx hb dL_types_247 (by decide) ?_
            refine lv_iconst (v := 2) hx hb dL_types_248 (by decide) ?_
            refine lv_iload hx hb dL_types_249 (lv_at hl 1 rfl) ?_
            refine lv_imul hx hb dL_types_251 ?_
            refine g_te (y := 0) (by decide) ?_
            refine lv_iadd hx hb dL_types_252 ?_
            refine g_te (y := 2) (by decide) ?_
            refine lv_ishr hx hb dL_types_253 ?_
            refine lv_topi (fun sh77 _ => ?_)
            refine lv_iload hx hb dL_types_254 (lv_at hl 0 rfl) ?_
            refine r_low (rest := [.ref (ad 6 0)]) X hI (by decide) hl.1 rfl ⟨rfl, rfl, by decide, by decide⟩ (Nat.le_of_ble_eq_true rfl) ⟨Nat.zero_le _, Nat.zero_le _⟩ dL_types_256 (fun H locs hI w78 w78a w78b => ?_)
            have w78b : w78.toInt < 4 := w78b
            have hn16 := u_dn1 (v := w78) (by omega)
            refine g_callSx (rest := []) (c_L_digits l D tb ad hj P M15 hz15 w78 ⟨w78a, by omega⟩ hL15 (by omega)) gm_L_digits hx hb hml hown hts hC hI qm_L_55 rfl hl.1 rfl ⟨rfl, rfl, by decide, by decide⟩ (Nat.le_of_ble_eq_true rfl) ⟨Nat.zero_le _, Nat.zero_le _⟩ dL_types_259 (fun r16 P16 M16 hq16 H locs hI => ?_)
            obtain ⟨hr16, hP16, hz16, hT16, ln16, hL16, hB16⟩ := hq16
            subst hr16; subst hP16
            refine lv_if_eq (tgt := 269) hx hb dL_types_262 (by decide) (fun c79 => absurd c79 (by decide)) (fun _ => ?_)
            refine lv_iconst (v := 1) hx hb dL_types_265 (by decide) ?_
            refine lv_goto (tgt := 270) hx hb dL_types_266 (by decide) ?_
            refine lv_istore_n (lv' := [(3, .int 1), (9, .int 4), (8, .int 0), (7, .int 3), (6, .int 0), (5, .int sh61), (4, .int (nI k)), (2, .int (nI N)), (1, .int x), (0, .ref (ad 6 0))]) hx hb dL_types_270 rfl hl (by decide) rfl (fun ls hl => ?_)
            refine lv_iinc (v := 1) (lv' := [(8, .int 1), (3, .int 1), (9, .int 4), (7, .int 3), (6, .int 0), (5, .int sh61), (4, .int (nI k)), (2, .int (nI N)), (1, .int x), (0, .ref (ad 6 0))]) hx hb dL_types_271 hl (k := 2) rfl (by decide) (by decide) rfl (fun ls hl => ?_)
            refine lv_goto (tgt := 151) hx hb dL_types_274 (by decide) ?_
            refine lv_iload hx hb dL_types_151 (lv_at hl 0 rfl) ?_
            refine lv_iload hx hb dL_types_153 (lv_at hl 3 rfl) ?_
            refine lv_icmp_ge (tgt := 277) hx hb dL_types_155 (by decide) (fun c80 => absurd c80 (by decide)) (fun _ => ?_)
            refine lv_iload hx hb dL_types_158 (lv_at hl 4 rfl) ?_
            refine lv_iconst (v := 4) hx hb dL_types_160 (by decide) ?_
            refine lv_icmp_ge (tgt := 176) hx hb dL_types_161 (by decide) (fun c81 => absurd c81 (by decide)) (fun _ => ?_)
            refine lv_iload hx hb dL_types_164 (lv_at hl 0 rfl) ?_
            refine lv_iconst (v := 2) hx hb dL_types_166 (by decide) ?_
            refine lv_icmp_ne (tgt := 176) hx hb dL_types_167 (by decide) (fun _ => ?_) (fun c82 => absurd c82 (by decide))
            refine lv_iload hx hb dL_types_176 (lv_at hl 4 rfl) ?_
            refine lv_bipush (v := 6) hx hb dL_types_178 (by decide) ?_
            refine lv_icmp_ge (tgt := 200) hx hb dL_types_180 (by decide) (fun c83 => absurd c83 (by decide)) (fun _ => ?_)
            refine lv_iload hx hb dL_types_183 (lv_at hl 0 rfl) ?_
            refine lv_iconst (v := 1) hx hb dL_types_185 (by decide) ?_
            refine lv_icmp_ne (tgt := 200) hx hb dL_types_186 (by decide) (fun c84 => absurd c84 (by decide)) (fun _ => ?_)
            refine lv_iload hx hb dL_types_189 (lv_at hl 4 rfl) ?_
            refine lv_iconst (v := 3) hx hb dL_types_191 (by decide) ?_
            refine lv_icmp_le (tgt := 200) hx hb dL_types_192 (by decide) (fun _ => ?_) (fun c85 => absurd c85 (by decide))
            refine lv_iload hx hb dL_types_200 (lv_at hl 4 rfl) ?_
            refine lv_bipush (v := 7) hx hb dL_types_202 (by decide) ?_
            refine lv_icmp_eq (tgt := 219) hx hb dL_types_204 (by decide) (fun c86 => absurd c86 (by decide)) (fun _ => ?_)
            refine lv_iload hx hb dL_types_207 (lv_at hl 4 rfl) ?_
            refine lv_iconst (v := 2) hx hb dL_types_209 (by decide) ?_
            refine lv_icmp_eq (tgt := 219) hx hb dL_types_210 (by decide) (fun c87 => absurd c87 (by decide)) (fun _ => ?_)
            refine lv_iload hx hb dL_types_213 (lv_at hl 4 rfl) ?_
            refine lv_iconst (v := 3) hx hb dL_types_215 (by decide) ?_
            refine lv_icmp_ne (tgt := 223) hx hb dL_types_216 (by decide) (fun _ => ?_) (fun c88 => absurd c88 (by decide))
            refine lv_iconst (v := 4) hx hb dL_types_223 (by decide) ?_
            refine lv_istore (lv' := [(9, .int 4), (8, .int 1), (3, .int 1), (7, .int 3), (6, .int 0), (5, .int sh61), (4, .int (nI k)), (2, .int (nI N)), (1, .int x), (0, .ref (ad 6 0))]) hx hb dL_types_224 hl (by decide) rfl (fun ls hl => ?_)
            refine lv_iload_n hx hb dL_types_226 rfl (lv_at hl 2 rfl) ?_
            refine lv_if_eq (tgt := 269) hx hb dL_types_227 (by decide) (fun c89 => absurd c89 (by decide)) (fun _ => ?_)
            refine lv_iload hx hb dL_types_230 (lv_at hl 1 rfl) ?_
            refine lv_if_eq (tgt := 244) hx hb dL_types_232 (by decide) (fun c90 => absurd c90 (by decide)) (fun _ => ?_)
            refine lv_aload_n hx hb dL_types_235 rfl (lv_at hl 9 rfl) ?_
            refine lv_bipush (v := 44) hx hb dL_types_236 (by decide) ?_
            refine r_type (rest := []) X hI hz16 hL16 (by omega) (by decide) hl.1 rfl ⟨rfl, rfl, by decide, by decide⟩ (Nat.le_of_ble_eq_true rfl) ⟨Nat.zero_le _, Nat.zero_le _⟩ dL_types_238 (fun M17 hz17 hT17 hL17 H locs hI r17 hr17 => ?_)
            refine lv_if_le (tgt := 269) hx hb dL_types_241 (by decide) (fun c91 => ?_) (fun c91 => ?_)
            · (rw [Int32.le_iff_toInt_le, z_i0] at c91; omega)
            · skip
              refine lv_aload_n hx hb dL_types_244 rfl (lv_at hl 9 rfl) ?_
              refine lv_iload hx hb dL_types_245 (lv_at hl 5 rfl) ?_
              refine lv_iconst (v := 2) hx hb dL_types_247 (by decide) ?_
              refine lv_iconst (v := 2) hx hb dL_types_248 (by decide) ?_
              refine lv_iload hx hb dL_types_249 (lv_at hl 1 rfl) ?_
              refine lv_imul hx hb dL_types_251 ?_
              refine g_te (y := 2) (by decide) ?_
              refine lv_iadd hx hb dL_types_252 ?_
              refine g_te (y := 4) (by decide) ?_
              refine lv_ishr hx hb dL_types_253 ?_
              refine lv_topi (fun sh92 _ => ?_)
              refine lv_iload hx hb dL_types_254 (lv_at hl 0 rfl) ?_
              refine r_low (rest := [.ref (ad 6 0)]) X hI (by decide) hl.1 rfl ⟨rfl, rfl, by decide, by decide⟩ (Nat.le_of_ble_eq_true rfl) ⟨Nat.zero_le _, Nat.zero_le _⟩ dL_types_256 (fun H locs hI w93 w93a w93b => ?_)
              have w93b : w93.toInt < 4 := w93b
              have hn18 := u_dn1 (v := w93) (by omega)
              refine g_callSx (rest := []) (c_L_digits l D tb ad hj P M17 hz17 w93 ⟨w93a, by omega⟩ hL17 (by omega)) gm_L_digits hx hb hml hown hts hC hI qm_L_55 rfl hl.1 rfl ⟨rfl, rfl, by decide, by decide⟩ (Nat.le_of_ble_eq_true rfl) ⟨Nat.zero_le _, Nat.zero_le _⟩ dL_types_259 (fun r18 P18 M18 hq18 H locs hI => ?_)
              obtain ⟨hr18, hP18, hz18, hT18, ln18, hL18, hB18⟩ := hq18
              subst hr18; subst hP18
              refine lv_if_eq (tgt := 269) hx hb dL_types_262 (by decide) (fun c94 => absurd c94 (by decide)) (fun _ => ?_)
              refine lv_iconst (v := 1) hx hb dL_types_265 (by decide) ?_
              refine lv_goto (tgt := 270) hx hb dL_types_266 (by decide) ?_
              refine lv_istore_n (lv' := [(3, .int 1), (9, .int 4), (8, .int 1), (7, .int 3), (6, .int 0), (5, .int sh61), (4, .int (nI k)), (2, .int (nI N)), (1, .int x), (0, .ref (ad 6 0))]) hx hb dL_types_270 rfl hl (by decide) rfl (fun ls hl => ?_)
              refine lv_iinc (v := 2) (lv' := [(8, .int 2), (3, .int 1), (9, .int 4), (7, .int 3), (6, .int 0), (5, .int sh61), (4, .int (nI k)), (2, .int (nI N)), (1, .int x), (0, .ref (ad 6 0))]) hx hb dL_types_271 hl (k := 2) rfl (by decide) (by decide) rfl (fun ls hl => ?_)
              refine lv_goto (tgt := 151) hx hb dL_types_274 (by decide) ?_
              refine lv_iload hx hb dL_types_151 (lv_at hl 0 rfl) ?_
              refine lv_iload hx hb dL_types_153 (lv_at hl 3 rfl) ?_
              refine lv_icmp_ge (tgt := 277) hx hb dL_types_155 (by decide) (fun c95 => absurd c95 (by decide)) (fun _ => ?_)
              refine lv_iload hx hb dL_types_158 (lv_at hl 4 rfl) ?_
              refine lv_iconst (v := 4) hx hb dL_types_160 (by decide) ?_
              refine lv_icmp_ge (tgt := 176) hx hb dL_types_161 (by decide) (fun c96 => absurd c96 (by decide)) (fun _ => ?_)
              refine lv_iload hx hb dL_types_164 (lv_at hl 0 rfl) ?_
              refine lv_iconst (v := 2) hx hb dL_types_166 (by decide) ?_
              refine lv_icmp_ne (tgt := 176) hx hb dL_types_167 (by decide) (fun c97 => absurd c97 (by decide)) (fun _ => ?_)
              refine lv_sipush (v := 1500) hx hb dL_types_170 (by decide) ?_
              refine lv_goto (tgt := 224) hx hb dL_types_173 (by decide) ?_
              refine lv_istore (lv' := [(9, .int 1500), (8, .int 2), (3, .int 1), (7, .int 3), (6, .int 0), (5, .int sh61), (4, .int (nI k)), (2, .int (nI N)), (1, .int x), (0, .ref (ad 6 0))]) hx hb dL_types_224 hl (by decide) rfl (fun ls hl => ?_)
              refine lv_iload_n hx hb dL_types_226 rfl (lv_at hl 2 rfl) ?_
              refine lv_if_eq (tgt := 269) hx hb dL_types_227 (by decide) (fun c98 => absurd c98 (by decide)) (fun _ => ?_)
              refine lv_iload hx hb dL_types_230 (lv_at hl 1 rfl) ?_
              refine lv_if_eq (tgt := 244) hx hb dL_types_232 (by decide) (fun c99 => absurd c99 (by decide)) (fun _ => ?_)
              refine lv_aload_n hx hb dL_types_235 rfl (lv_at hl 9 rfl) ?_
              refine lv_bipush (v := 44) hx hb dL_types_236 (by decide) ?_
              refine r_type (rest := []) X hI hz18 hL18 (by omega) (by decide) hl.1 rfl ⟨rfl, rfl, by decide, by decide⟩ (Nat.le_of_ble_eq_true rfl) ⟨Nat.zero_le _, Nat.zero_le _⟩ dL_types_238 (fun M19 hz19 hT19 hL19 H locs hI r19 hr19 => ?_)
              refine lv_if_le (tgt := 269) hx hb dL_types_241 (by decide) (fun c100 => ?_) (fun c100 => ?_)
              · (rw [Int32.le_iff_toInt_le, z_i0] at c100; omega)
              · skip
                refine lv_aload_n hx hb dL_types_244 rfl (lv_at hl 9 rfl) ?_
                refine lv_iload hx hb dL_types_245 (lv_at hl 5 rfl) ?_
                refine lv_iconst (v := 2) hx hb dL_types_247 (by decide) ?_
                refine lv_iconst (v := 2) hx hb dL_types_248 (by decide) ?_
                refine lv_iload hx hb dL_types_249 (lv_at hl 1 rfl) ?_
                refine lv_imul hx hb dL_types_251 ?_
                refine g_te (y := 4) (by decide) ?_
                refine lv_iadd hx hb dL_types_252 ?_
                refine g_te (y := 6) (by decide) ?_
                refine lv_ishr hx hb dL_types_253 ?_
                refine lv_topi (fun sh101 _ => ?_)
                refine lv_iload hx hb dL_types_254 (lv_at hl 0 rfl) ?_
                refine r_low (rest := [.ref (ad 6 0)]) X hI (by decide) hl.1 rfl ⟨rfl, rfl, by decide, by decide⟩ (Nat.le_of_ble_eq_true rfl) ⟨Nat.zero_le _, Nat.zero_le _⟩ dL_types_256 (fun H locs hI w102 w102a w102b => ?_)
                have w102b : w102.toInt < 1500 := w102b
                have hn20 := u_dn4 (v := w102)
                refine g_callSx (rest := []) (c_L_digits l D tb ad hj P M19 hz19 w102 ⟨w102a, by omega⟩ hL19 (by omega)) gm_L_digits hx hb hml hown hts hC hI qm_L_55 rfl hl.1 rfl ⟨rfl, rfl, by decide, by decide⟩ (Nat.le_of_ble_eq_true rfl) ⟨Nat.zero_le _, Nat.zero_le _⟩ dL_types_259 (fun r20 P20 M20 hq20 H locs hI => ?_)
                obtain ⟨hr20, hP20, hz20, hT20, ln20, hL20, hB20⟩ := hq20
                subst hr20; subst hP20
                refine lv_if_eq (tgt := 269) hx hb dL_types_262 (by decide) (fun c103 => absurd c103 (by decide)) (fun _ => ?_)
                refine lv_iconst (v := 1) hx hb dL_types_265 (by decide) ?_
                refine lv_goto (tgt := 270) hx hb dL_types_266 (by decide) ?_
                refine lv_istore_n (lv' := [(3, .int 1), (9, .int 1500), (8, .int 2), (7, .int 3), (6, .int 0), (5, .int sh61), (4, .int (nI k)), (2, .int (nI N)), (1, .int x), (0, .ref (ad 6 0))]) hx hb dL_types_270 rfl hl (by decide) rfl (fun ls hl => ?_)
                refine lv_iinc (v := 3) (lv' := [(8, .int 3), (3, .int 1), (9, .int 1500), (7, .int 3), (6, .int 0), (5, .int sh61), (4, .int (nI k)), (2, .int (nI N)), (1, .int x), (0, .ref (ad 6 0))]) hx hb dL_types_271 hl (k := 2) rfl (by decide) (by decide) rfl (fun ls hl => ?_)
                refine lv_goto (tgt := 151) hx hb dL_types_274 (by decide) ?_
                refine lv_iload hx hb dL_types_151 (lv_at hl 0 rfl) ?_
                refine lv_iload hx hb dL_types_153 (lv_at hl 3 rfl) ?_
                refine lv_icmp_ge (tgt := 277) hx hb dL_types_155 (by decide) (fun _ => ?_) (fun c104 => absurd c104 (by decide))
                exact E277 M20 _ hz20 ((((((hTk.tr hT15).tr hT16).tr hT17).tr hT18).tr hT19).tr hT20) hL20 (by omega) _ _ _ hI (lv_sub hl [6, 1, 7, 8, 9] rfl)
        · refine g_te (y := 1) rfl ?_
          refine lv_istore (lv' := [(6, .int 1), (5, .int sh61), (4, .int (nI k)), (3, .int 1), (2, .int (nI N)), (1, .int x), (0, .ref (ad 6 0))]) hx hb dL_types_45 hl (by decide) rfl (fun ls hl => ?_)
          refine lv_iload hx hb dL_types_47 (lv_at hl 0 rfl) ?_
          refine lv_iconst (v := 4) hx hb dL_types_49 (by decide) ?_
          refine lv_icmp_ge (tgt := 57) hx hb dL_types_50 (by decide) (fun c105 => absurd c105 (by decide)) (fun _ => ?_)
          refine lv_iconst (v := 3) hx hb dL_types_53 (by decide) ?_
          refine lv_goto (tgt := 69) hx hb dL_types_54 (by decide) ?_
          refine lv_istore (lv' := [(7, .int 3), (6, .int 1), (5, .int sh61), (4, .int (nI k)), (3, .int 1), (2, .int (nI N)), (1, .int x), (0, .ref (ad 6 0))]) hx hb dL_types_69 hl (by decide) rfl (fun ls hl => ?_)
          refine lv_iload_n hx hb dL_types_71 rfl (lv_at hl 4 rfl) ?_
          refine lv_if_eq (tgt := 146) hx hb dL_types_72 (by decide) (fun c106 => absurd c106 (by decide)) (fun _ => ?_)
          refine lv_aload_n hx hb dL_types_75 rfl (lv_at hl 7 rfl) ?_
          refine lv_iload hx hb dL_types_76 (lv_at hl 1 rfl) ?_
          refine lv_iconst (v := 2) hx hb dL_types_78 (by decide) ?_
          refine lv_icmp_ge (tgt := 87) hx hb dL_types_79 (by decide) (fun c107 => absurd c107 (by decide)) (fun _ => ?_)
          refine lv_bipush (v := 115) hx hb dL_types_82 (by decide) ?_
          refine lv_goto (tgt := 136) hx hb dL_types_84 (by decide) ?_
          refine r_type (rest := []) X hI hzk hLk (by omega) (by decide) hl.1 rfl ⟨rfl, rfl, by decide, by decide⟩ (Nat.le_of_ble_eq_true rfl) ⟨Nat.zero_le _, Nat.zero_le _⟩ dL_types_136 (fun M21 hz21 hT21 hL21 H locs hI r21 hr21 => ?_)
          refine lv_if_le (tgt := 146) hx hb dL_types_139 (by decide) (fun c108 => ?_) (fun c108 => ?_)
          · (rw [Int32.le_iff_toInt_le, z_i0] at c108; omega)
          · skip
            refine lv_iconst (v := 1) hx hb dL_types_142 (by decide) ?_
            refine lv_goto (tgt := 147) hx hb dL_types_143 (by decide) ?_
            refine lv_istore_n (lv' := [(3, .int 1), (7, .int 3), (6, .int 1), (5, .int sh61), (4, .int (nI k)), (2, .int (nI N)), (1, .int x), (0, .ref (ad 6 0))]) hx hb dL_types_147 rfl hl (by decide) rfl (fun ls hl => ?_)
            refine lv_iconst (v := 0) hx hb dL_types_148 (by decide) ?_
            refine lv_istore (lv' := [(8, .int 0), (3, .int 1), (7, .int 3), (6, .int 1), (5, .int sh61), (4, .int (nI k)), (2, .int (nI N)), (1, .int x), (0, .ref (ad 6 0))]) hx hb dL_types_149 hl (by decide) rfl (fun ls hl => ?_)
            refine lv_iload hx hb dL_types_151 (lv_at hl 0 rfl) ?_
            refine lv_iload hx hb dL_types_153 (lv_at hl 2 rfl) ?_
            refine lv_icmp_ge (tgt := 277) hx hb dL_types_155 (by decide) (fun c109 => absurd c109 (by decide)) (fun _ => ?_)
            refine lv_iload hx hb dL_types_158 (lv_at hl 3 rfl) ?_
            refine lv_iconst (v := 4) hx hb dL_types_160 (by decide) ?_
            refine lv_icmp_ge (tgt := 176) hx hb dL_types_161 (by decide) (fun c110 => absurd c110 (by decide)) (fun _ => ?_)
            refine lv_iload hx hb dL_types_164 (lv_at hl 0 rfl) ?_
            refine lv_iconst (v := 2) hx hb dL_types_166 (by decide) ?_
            refine lv_icmp_ne (tgt := 176) hx hb dL_types_167 (by decide) (fun _ => ?_) (fun c111 => absurd c111 (by decide))
            refine lv_iload hx hb dL_types_176 (lv_at hl 3 rfl) ?_
            refine lv_bipush (v := 6) hx hb dL_types_178 (by decide) ?_
            refine lv_icmp_ge (tgt := 200) hx hb dL_types_180 (by decide) (fun c112 => absurd c112 (by decide)) (fun _ => ?_)
            refine lv_iload hx hb dL_types_183 (lv_at hl 0 rfl) ?_
            refine lv_iconst (v := 1) hx hb dL_types_185 (by decide) ?_
            refine lv_icmp_ne (tgt := 200) hx hb dL_types_186 (by decide) (fun _ => ?_) (fun c113 => absurd c113 (by decide))
            refine lv_iload hx hb dL_types_200 (lv_at hl 3 rfl) ?_
            refine lv_bipush (v := 7) hx hb dL_types_202 (by decide) ?_
            refine lv_icmp_eq (tgt := 219) hx hb dL_types_204 (by decide) (fun c114 => absurd c114 (by decide)) (fun _ => ?_)
            refine lv_iload hx hb dL_types_207 (lv_at hl 3 rfl) ?_
            refine lv_iconst (v := 2) hx hb dL_types_209 (by decide) ?_
            refine lv_icmp_eq (tgt := 219) hx hb dL_types_210 (by decide) (fun c115 => absurd c115 (by decide)) (fun _ => ?_)
            refine lv_iload hx hb dL_types_213 (lv_at hl 3 rfl) ?_
            refine lv_iconst (v := 3) hx hb dL_types_215 (by decide) ?_
            refine lv_icmp_ne (tgt := 223) hx hb dL_types_216 (by decide) (fun _ => ?_) (fun c116 => absurd c116 (by decide))
            refine lv_iconst (v := 4) hx hb dL_types_223 (by decide) ?_
            refine lv_istore (lv' := [(9, .int 4), (8, .int 0), (3, .int 1), (7, .int 3), (6, .int 1), (5, .int sh61), (4, .int (nI k)), (2, .int (nI N)), (1, .int x), (0, .ref (ad 6 0))]) hx hb dL_types_224 hl (by decide) rfl (fun ls hl => ?_)
            refine lv_iload_n hx hb dL_types_226 rfl (lv_at hl 2 rfl) ?_
            refine lv_if_eq (tgt := 269) hx hb dL_types_227 (by decide) (fun c117 => absurd c117 (by decide)) (fun _ => ?_)
            refine lv_iload hx hb dL_types_230 (lv_at hl 1 rfl) ?_
            refine lv_if_eq (tgt := 244) hx hb dL_types_232 (by decide) (fun _ => ?_) (fun c118 => absurd c118 (by decide))
            refine lv_aload_n hx hb dL_types_244 rfl (lv_at hl 9 rfl) ?_
            refine lv_iload hx hb dL_types_245 (lv_at hl 5 rfl) ?_
            refine lv_iconst (v := 2) hx hb dL_types_247 (by decide) ?_
            refine lv_iconst (v := 2) hx hb dL_types_248 (by decide) ?_
            refine lv_iload hx hb dL_types_249 (lv_at hl 1 rfl) ?_
            refine lv_imul hx hb dL_types_251 ?_
            refine g_te (y := 0) (by decide) ?_
            refine lv_iadd hx hb dL_types_252 ?_
            refine g_te (y := 2) (by decide) ?_
            refine lv_ishr hx hb dL_types_253 ?_
            refine lv_topi (fun sh119 _ => ?_)
            refine lv_iload hx hb dL_types_254 (lv_at hl 0 rfl) ?_
            refine r_low (rest := [.ref (ad 6 0)]) X hI (by decide) hl.1 rfl ⟨rfl, rfl, by decide, by decide⟩ (Nat.le_of_ble_eq_true rfl) ⟨Nat.zero_le _, Nat.zero_le _⟩ dL_types_256 (fun H locs hI w120 w120a w120b => ?_)
            have w120b : w120.toInt < 4 := w120b
            have hn22 := u_dn1 (v := w120) (by omega)
            refine g_callSx (rest := []) (c_L_digits l D tb ad hj P M21 hz21 w120 ⟨w120a, by omega⟩ hL21 (by omega)) gm_L_digits hx hb hml hown hts hC hI qm_L_55 rfl hl.1 rfl ⟨rfl, rfl, by decide, by decide⟩ (Nat.le_of_ble_eq_true rfl) ⟨Nat.zero_le _, Nat.zero_le _⟩ dL_types_259 (fun r22 P22 M22 hq22 H locs hI => ?_)
            obtain ⟨hr22, hP22, hz22, hT22, ln22, hL22, hB22⟩ := hq22
            subst hr22; subst hP22
            refine lv_if_eq (tgt := 269) hx hb dL_types_262 (by decide) (fun c121 => absurd c121 (by decide)) (fun _ => ?_)
            refine lv_iconst (v := 1) hx hb dL_types_265 (by decide) ?_
            refine lv_goto (tgt := 270) hx hb dL_types_266 (by decide) ?_
            refine lv_istore_n (lv' := [(3, .int 1), (9, .int 4), (8, .int 0), (7, .int 3), (6, .int 1), (5, .int sh61), (4, .int (nI k)), (2, .int (nI N)), (1, .int x), (0, .ref (ad 6 0))]) hx hb dL_types_270 rfl hl (by decide) rfl (fun ls hl => ?_)
            refine lv_iinc (v := 1) (lv' := [(8, .int 1), (3, .int 1), (9, .int 4), (7, .int 3), (6, .int 1), (5, .int sh61), (4, .int (nI k)), (2, .int (nI N)), (1, .int x), (0, .ref (ad 6 0))]) hx hb dL_types_271 hl (k := 2) rfl (by decide) (by decide) rfl (fun ls hl => ?_)
            refine lv_goto (tgt := 151) hx hb dL_types_274 (by decide) ?_
            refine lv_iload hx hb dL_types_151 (lv_at hl 0 rfl) ?_
            refine lv_iload hx hb dL_types_153 (lv_at hl 3 rfl) ?_
            refine lv_icmp_ge (tgt := 277) hx hb dL_types_155 (by decide) (fun c122 => absurd c122 (by decide)) (fun _ => ?_)
            refine lv_iload hx hb dL_types_158 (lv_at hl 4 rfl) ?_
            refine lv_iconst (v := 4) hx hb dL_types_160 (by decide) ?_
            refine lv_icmp_ge (tgt := 176) hx hb dL_types_161 (by decide) (fun c123 => absurd c123 (by decide)) (fun _ => ?_)
            refine lv_iload hx hb dL_types_164 (lv_at hl 0 rfl) ?_
            refine lv_iconst (v := 2) hx hb dL_types_166 (by decide) ?_
            refine lv_icmp_ne (tgt := 176) hx hb dL_types_167 (by decide) (fun _ => ?_) (fun c124 => absurd c124 (by decide))
            refine lv_iload hx hb dL_types_176 (lv_at hl 4 rfl) ?_
            refine lv_bipush (v := 6) hx hb dL_types_178 (by decide) ?_
            refine lv_icmp_ge (tgt := 200) hx hb dL_types_180 (by decide) (fun c125 => absurd c125 (by decide)) (fun _ => ?_)
            refine lv_iload hx hb dL_types_183 (lv_at hl 0 rfl) ?_
            refine lv_iconst (v := 1) hx hb dL_types_185 (by decide) ?_
            refine lv_icmp_ne (tgt := 200) hx hb dL_types_186 (by decide) (fun c126 => absurd c126 (by decide)) (fun _ => ?_)
            refine lv_iload hx hb dL_types_189 (lv_at hl 4 rfl) ?_
            refine lv_iconst (v := 3) hx hb dL_types_191 (by decide) ?_
            refine lv_icmp_le (tgt := 200) hx hb dL_types_192 (by decide) (fun _ => ?_) (fun c127 => absurd c127 (by decide))
            refine lv_iload hx hb dL_types_200 (lv_at hl 4 rfl) ?_
            refine lv_bipush (v := 7) hx hb dL_types_202 (by decide) ?_
            refine lv_icmp_eq (tgt := 219) hx hb dL_types_204 (by decide) (fun c128 => absurd c128 (by decide)) (fun _ => ?_)
            refine lv_iload hx hb dL_types_207 (lv_at hl 4 rfl) ?_
            refine lv_iconst (v := 2) hx hb dL_types_209 (by decide) ?_
            refine lv_icmp_eq (tgt := 219) hx hb dL_types_210 (by decide) (fun c129 => absurd c129 (by decide)) (fun _ => ?_)
            refine lv_iload hx hb dL_types_213 (lv_at hl 4 rfl) ?_
            refine lv_iconst (v := 3) hx hb dL_types_215 (by decide) ?_
            refine lv_icmp_ne (tgt := 223) hx hb dL_types_216 (by decide) (fun _ => ?_) (fun c130 => absurd c130 (by decide))
            refine lv_iconst (v := 4) hx hb dL_types_223 (by decide) ?_
            refine lv_istore (lv' := [(9, .int 4), (8, .int 1), (3, .int 1), (7, .int 3), (6, .int 1), (5, .int sh61), (4, .int (nI k)), (2, .int (nI N)), (1, .int x), (0, .ref (ad 6 0))]) hx hb dL_types_224 hl (by decide) rfl (fun ls hl => ?_)
            refine lv_iload_n hx hb dL_types_226 rfl (lv_at hl 2 rfl) ?_
            refine lv_if_eq (tgt := 269) hx hb dL_types_227 (by decide) (fun c131 => absurd c131 (by decide)) (fun _ => ?_)
            refine lv_iload hx hb dL_types_230 (lv_at hl 1 rfl) ?_
            refine lv_if_eq (tgt := 244) hx hb dL_types_232 (by decide) (fun c132 => absurd c132 (by decide)) (fun _ => ?_)
            refine lv_aload_n hx hb dL_types_235 rfl (lv_at hl 9 rfl) ?_
            refine lv_bipush (v := 44) hx hb dL_types_236 (by decide) ?_
            refine r_type (rest := []) X hI hz22 hL22 (by omega) (by decide) hl.1 rfl ⟨rfl, rfl, by decide, by decide⟩ (Nat.le_of_ble_eq_true rfl) ⟨Nat.zero_le _, Nat.zero_le _⟩ dL_types_238 (fun M23 hz23 hT23 hL23 H locs hI r23 hr23 => ?_)
            refine lv_if_le (tgt := 269) hx hb dL_types_241 (by decide) (fun c133 => ?_) (fun c133 => ?_)
            · (rw [Int32.le_iff_toInt_le, z_i0] at c133; omega)
            · skip
              refine lv_aload_n hx hb dL_types_244 rfl (lv_at hl 9 rfl) ?_
              refine lv_iload hx hb dL_types_245 (lv_at hl 5 rfl) ?_
              refine lv_iconst (v := 2) hx hb dL_types_247 (by decide) ?_
              refine lv_iconst (v := 2) hx hb dL_types_248 (by decide) ?_
              refine lv_iload hx hb dL_types_249 (lv_at hl 1 rfl) ?_
              refine lv_imul hx hb dL_types_251 ?_
              refine g_te (y := 2) (by decide) ?_
              refine lv_iadd hx hb dL_types_252 ?_
              refine g_te (y := 4) (by decide) ?_
              refine lv_ishr hx hb dL_types_253 ?_
              refine lv_topi (fun sh134 _ => ?_)
              refine lv_iload hx hb dL_types_254 (lv_at hl 0 rfl) ?_
              refine r_low (rest := [.ref (ad 6 0)]) X hI (by decide) hl.1 rfl ⟨rfl, rfl, by decide, by decide⟩ (Nat.le_of_ble_eq_true rfl) ⟨Nat.zero_le _, Nat.zero_le _⟩ dL_types_256 (fun H locs hI w135 w135a w135b => ?_)
              have w135b : w135.toInt < 4 := w135b
              have hn24 := u_dn1 (v := w135) (by omega)
              refine g_callSx (rest := []) (c_L_digits l D tb ad hj P M23 hz23 w135 ⟨w135a, by omega⟩ hL23 (by omega)) gm_L_digits hx hb hml hown hts hC hI qm_L_55 rfl hl.1 rfl ⟨rfl, rfl, by decide, by decide⟩ (Nat.le_of_ble_eq_true rfl) ⟨Nat.zero_le _, Nat.zero_le _⟩ dL_types_259 (fun r24 P24 M24 hq24 H locs hI => ?_)
              obtain ⟨hr24, hP24, hz24, hT24, ln24, hL24, hB24⟩ := hq24
              subst hr24; subst hP24
              refine lv_if_eq (tgt := 269) hx hb dL_types_262 (by decide) (fun c136 => absurd c136 (by decide)) (fun _ => ?_)
              refine lv_iconst (v := 1) hx hb dL_types_265 (by decide) ?_
              refine lv_goto (tgt := 270) hx hb dL_types_266 (by decide) ?_
              refine lv_istore_n (lv' := [(3, .int 1), (9, .int 4), (8, .int 1), (7, .int 3), (6, .int 1), (5, .int sh61), (4, .int (nI k)), (2, .int (nI N)), (1, .int x), (0, .ref (ad 6 0))]) hx hb dL_types_270 rfl hl (by decide) rfl (fun ls hl => ?_)
              refine lv_iinc (v := 2) (lv' := [(8, .int 2), (3, .int 1), (9, .int 4), (7, .int 3), (6, .int 1), (5, .int sh61), (4, .int (nI k)), (2, .int (nI N)), (1, .int x), (0, .ref (ad 6 0))]) hx hb dL_types_271 hl (k := 2) rfl (by decide) (by decide) rfl (fun ls hl => ?_)
              refine lv_goto (tgt := 151) hx hb dL_types_274 (by decide) ?_
              refine lv_iload hx hb dL_types_151 (lv_at hl 0 rfl) ?_
              refine lv_iload hx hb dL_types_153 (lv_at hl 3 rfl) ?_
              refine lv_icmp_ge (tgt := 277) hx hb dL_types_155 (by decide) (fun c137 => absurd c137 (by decide)) (fun _ => ?_)
              refine lv_iload hx hb dL_types_158 (lv_at hl 4 rfl) ?_
              refine lv_iconst (v := 4) hx hb dL_types_160 (by decide) ?_
              refine lv_icmp_ge (tgt := 176) hx hb dL_types_161 (by decide) (fun c138 => absurd c138 (by decide)) (fun _ => ?_)
              refine lv_iload hx hb dL_types_164 (lv_at hl 0 rfl) ?_
              refine lv_iconst (v := 2) hx hb dL_types_166 (by decide) ?_
              refine lv_icmp_ne (tgt := 176) hx hb dL_types_167 (by decide) (fun c139 => absurd c139 (by decide)) (fun _ => ?_)
              refine lv_sipush (v := 1500) hx hb dL_types_170 (by decide) ?_
              refine lv_goto (tgt := 224) hx hb dL_types_173 (by decide) ?_
              refine lv_istore (lv' := [(9, .int 1500), (8, .int 2), (3, .int 1), (7, .int 3), (6, .int 1), (5, .int sh61), (4, .int (nI k)), (2, .int (nI N)), (1, .int x), (0, .ref (ad 6 0))]) hx hb dL_types_224 hl (by decide) rfl (fun ls hl => ?_)
              refine lv_iload_n hx hb dL_types_226 rfl (lv_at hl 2 rfl) ?_
              refine lv_if_eq (tgt := 269) hx hb dL_types_227 (by decide) (fun c140 => absurd c140 (by decide)) (fun _ => ?_)
              refine lv_iload hx hb dL_types_230 (lv_at hl 1 rfl) ?_
              refine lv_if_eq (tgt := 244) hx hb dL_types_232 (by decide) (fun c141 => absurd c141 (by decide)) (fun _ => ?_)
              refine lv_aload_n hx hb dL_types_235 rfl (lv_at hl 9 rfl) ?_
              refine lv_bipush (v := 44) hx hb dL_types_236 (by decide) ?_
              refine r_type (rest := []) X hI hz24 hL24 (by omega) (by decide) hl.1 rfl ⟨rfl, rfl, by decide, by decide⟩ (Nat.le_of_ble_eq_true rfl) ⟨Nat.zero_le _, Nat.zero_le _⟩ dL_types_238 (fun M25 hz25 hT25 hL25 H locs hI r25 hr25 => ?_)
              refine lv_if_le (tgt := 269) hx hb dL_types_241 (by decide) (fun c142 => ?_) (fun c142 => ?_)
              · (rw [Int32.le_iff_toInt_le, z_i0] at c142; omega)
              · skip
                refine lv_aload_n hx hb dL_types_244 rfl (lv_at hl 9 rfl) ?_
                refine lv_iload hx hb dL_types_245 (lv_at hl 5 rfl) ?_
                refine lv_iconst (v := 2) hx hb dL_types_247 (by decide) ?_
                refine lv_iconst (v := 2) hx hb dL_types_248 (by decide) ?_
                refine lv_iload hx hb dL_types_249 (lv_at hl 1 rfl) ?_
                refine lv_imul hx hb dL_types_251 ?_
                refine g_te (y := 4) (by decide) ?_
                refine lv_iadd hx hb dL_types_252 ?_
                refine g_te (y := 6) (by decide) ?_
                refine lv_ishr hx hb dL_types_253 ?_
                refine lv_topi (fun sh143 _ => ?_)
                refine lv_iload hx hb dL_types_254 (lv_at hl 0 rfl) ?_
                refine r_low (rest := [.ref (ad 6 0)]) X hI (by decide) hl.1 rfl ⟨rfl, rfl, by decide, by decide⟩ (Nat.le_of_ble_eq_true rfl) ⟨Nat.zero_le _, Nat.zero_le _⟩ dL_types_256 (fun H locs hI w144 w144a w144b => ?_)
                have w144b : w144.toInt < 1500 := w144b
                have hn26 := u_dn4 (v := w144)
                refine g_callSx (rest := []) (c_L_digits l D tb ad hj P M25 hz25 w144 ⟨w144a, by omega⟩ hL25 (by omega)) gm_L_digits hx hb hml hown hts hC hI qm_L_55 rfl hl.1 rfl ⟨rfl, rfl, by decide, by decide⟩ (Nat.le_of_ble_eq_true rfl) ⟨Nat.zero_le _, Nat.zero_le _⟩ dL_types_259 (fun r26 P26 M26 hq26 H locs hI => ?_)
                obtain ⟨hr26, hP26, hz26, hT26, ln26, hL26, hB26⟩ := hq26
                subst hr26; subst hP26
                refine lv_if_eq (tgt := 269) hx hb dL_types_262 (by decide) (fun c145 => absurd c145 (by decide)) (fun _ => ?_)
                refine lv_iconst (v := 1) hx hb dL_types_265 (by decide) ?_
                refine lv_goto (tgt := 270) hx hb dL_types_266 (by decide) ?_
                refine lv_istore_n (lv' := [(3, .int 1), (9, .int 1500), (8, .int 2), (7, .int 3), (6, .int 1), (5, .int sh61), (4, .int (nI k)), (2, .int (nI N)), (1, .int x), (0, .ref (ad 6 0))]) hx hb dL_types_270 rfl hl (by decide) rfl (fun ls hl => ?_)
                refine lv_iinc (v := 3) (lv' := [(8, .int 3), (3, .int 1), (9, .int 1500), (7, .int 3), (6, .int 1), (5, .int sh61), (4, .int (nI k)), (2, .int (nI N)), (1, .int x), (0, .ref (ad 6 0))]) hx hb dL_types_271 hl (k := 2) rfl (by decide) (by decide) rfl (fun ls hl => ?_)
                refine lv_goto (tgt := 151) hx hb dL_types_274 (by decide) ?_
                refine lv_iload hx hb dL_types_151 (lv_at hl 0 rfl) ?_
                refine lv_iload hx hb dL_types_153 (lv_at hl 3 rfl) ?_
                refine lv_icmp_ge (tgt := 277) hx hb dL_types_155 (by decide) (fun _ => ?_) (fun c146 => absurd c146 (by decide))
                exact E277 M26 _ hz26 ((((((hTk.tr hT21).tr hT22).tr hT23).tr hT24).tr hT25).tr hT26) hL26 (by omega) _ _ _ hI (lv_sub hl [6, 1, 7, 8, 9] rfl)
        · refine g_te (y := 2) rfl ?_
          refine lv_istore (lv' := [(6, .int 2), (5, .int sh61), (4, .int (nI k)), (3, .int 1), (2, .int (nI N)), (1, .int x), (0, .ref (ad 6 0))]) hx hb dL_types_45 hl (by decide) rfl (fun ls hl => ?_)
          refine lv_iload hx hb dL_types_47 (lv_at hl 0 rfl) ?_
          refine lv_iconst (v := 4) hx hb dL_types_49 (by decide) ?_
          refine lv_icmp_ge (tgt := 57) hx hb dL_types_50 (by decide) (fun c147 => absurd c147 (by decide)) (fun _ => ?_)
          refine lv_iconst (v := 3) hx hb dL_types_53 (by decide) ?_
          refine lv_goto (tgt := 69) hx hb dL_types_54 (by decide) ?_
          refine lv_istore (lv' := [(7, .int 3), (6, .int 2), (5, .int sh61), (4, .int (nI k)), (3, .int 1), (2, .int (nI N)), (1, .int x), (0, .ref (ad 6 0))]) hx hb dL_types_69 hl (by decide) rfl (fun ls hl => ?_)
          refine lv_iload_n hx hb dL_types_71 rfl (lv_at hl 4 rfl) ?_
          refine lv_if_eq (tgt := 146) hx hb dL_types_72 (by decide) (fun c148 => absurd c148 (by decide)) (fun _ => ?_)
          refine lv_aload_n hx hb dL_types_75 rfl (lv_at hl 7 rfl) ?_
          refine lv_iload hx hb dL_types_76 (lv_at hl 1 rfl) ?_
          refine lv_iconst (v := 2) hx hb dL_types_78 (by decide) ?_
          refine lv_icmp_ge (tgt := 87) hx hb dL_types_79 (by decide) (fun _ => ?_) (fun c149 => absurd c149 (by decide))
          refine lv_iload hx hb dL_types_87 (lv_at hl 1 rfl) ?_
          refine lv_iconst (v := 4) hx hb dL_types_89 (by decide) ?_
          refine lv_icmp_ge (tgt := 98) hx hb dL_types_90 (by decide) (fun c150 => absurd c150 (by decide)) (fun _ => ?_)
          refine lv_bipush (v := 108) hx hb dL_types_93 (by decide) ?_
          refine lv_goto (tgt := 136) hx hb dL_types_95 (by decide) ?_
          refine r_type (rest := []) X hI hzk hLk (by omega) (by decide) hl.1 rfl ⟨rfl, rfl, by decide, by decide⟩ (Nat.le_of_ble_eq_true rfl) ⟨Nat.zero_le _, Nat.zero_le _⟩ dL_types_136 (fun M27 hz27 hT27 hL27 H locs hI r27 hr27 => ?_)
          refine lv_if_le (tgt := 146) hx hb dL_types_139 (by decide) (fun c151 => ?_) (fun c151 => ?_)
          · (rw [Int32.le_iff_toInt_le, z_i0] at c151; omega)
          · skip
            refine lv_iconst (v := 1) hx hb dL_types_142 (by decide) ?_
            refine lv_goto (tgt := 147) hx hb dL_types_143 (by decide) ?_
            refine lv_istore_n (lv' := [(3, .int 1), (7, .int 3), (6, .int 2), (5, .int sh61), (4, .int (nI k)), (2, .int (nI N)), (1, .int x), (0, .ref (ad 6 0))]) hx hb dL_types_147 rfl hl (by decide) rfl (fun ls hl => ?_)
            refine lv_iconst (v := 0) hx hb dL_types_148 (by decide) ?_
            refine lv_istore (lv' := [(8, .int 0), (3, .int 1), (7, .int 3), (6, .int 2), (5, .int sh61), (4, .int (nI k)), (2, .int (nI N)), (1, .int x), (0, .ref (ad 6 0))]) hx hb dL_types_149 hl (by decide) rfl (fun ls hl => ?_)
            refine lv_iload hx hb dL_types_151 (lv_at hl 0 rfl) ?_
            refine lv_iload hx hb dL_types_153 (lv_at hl 2 rfl) ?_
            refine lv_icmp_ge (tgt := 277) hx hb dL_types_155 (by decide) (fun c152 => absurd c152 (by decide)) (fun _ => ?_)
            refine lv_iload hx hb dL_types_158 (lv_at hl 3 rfl) ?_
            refine lv_iconst (v := 4) hx hb dL_types_160 (by decide) ?_
            refine lv_icmp_ge (tgt := 176) hx hb dL_types_161 (by decide) (fun c153 => absurd c153 (by decide)) (fun _ => ?_)
            refine lv_iload hx hb dL_types_164 (lv_at hl 0 rfl) ?_
            refine lv_iconst (v := 2) hx hb dL_types_166 (by decide) ?_
            refine lv_icmp_ne (tgt := 176) hx hb dL_types_167 (by decide) (fun _ => ?_) (fun c154 => absurd c154 (by decide))
            refine lv_iload hx hb dL_types_176 (lv_at hl 3 rfl) ?_
            refine lv_bipush (v := 6) hx hb dL_types_178 (by decide) ?_
            refine lv_icmp_ge (tgt := 200) hx hb dL_types_180 (by decide) (fun c155 => absurd c155 (by decide)) (fun _ => ?_)
            refine lv_iload hx hb dL_types_183 (lv_at hl 0 rfl) ?_
            refine lv_iconst (v := 1) hx hb dL_types_185 (by decide) ?_
            refine lv_icmp_ne (tgt := 200) hx hb dL_types_186 (by decide) (fun _ => ?_) (fun c156 => absurd c156 (by decide))
            refine lv_iload hx hb dL_types_200 (lv_at hl 3 rfl) ?_
            refine lv_bipush (v := 7) hx hb dL_types_202 (by decide) ?_
            refine lv_icmp_eq (tgt := 219) hx hb dL_types_204 (by decide) (fun c157 => absurd c157 (by decide)) (fun _ => ?_)
            refine lv_iload hx hb dL_types_207 (lv_at hl 3 rfl) ?_
            refine lv_iconst (v := 2) hx hb dL_types_209 (by decide) ?_
            refine lv_icmp_eq (tgt := 219) hx hb dL_types_210 (by decide) (fun _ => ?_) (fun c158 => absurd c158 (by decide))
            refine lv_iconst (v := 5) hx hb dL_types_219 (by decide) ?_
            refine lv_goto (tgt := 224) hx hb dL_types_220 (by decide) ?_
            refine lv_istore (lv' := [(9, .int 5), (8, .int 0), (3, .int 1), (7, .int 3), (6, .int 2), (5, .int sh61), (4, .int (nI k)), (2, .int (nI N)), (1, .int x), (0, .ref (ad 6 0))]) hx hb dL_types_224 hl (by decide) rfl (fun ls hl => ?_)
            refine lv_iload_n hx hb dL_types_226 rfl (lv_at hl 2 rfl) ?_
            refine lv_if_eq (tgt := 269) hx hb dL_types_227 (by decide) (fun c159 => absurd c159 (by decide)) (fun _ => ?_)
            refine lv_iload hx hb dL_types_230 (lv_at hl 1 rfl) ?_
            refine lv_if_eq (tgt := 244) hx hb dL_types_232 (by decide) (fun _ => ?_) (fun c160 => absurd c160 (by decide))
            refine lv_aload_n hx hb dL_types_244 rfl (lv_at hl 9 rfl) ?_
            refine lv_iload hx hb dL_types_245 (lv_at hl 5 rfl) ?_
            refine lv_iconst (v := 2) hx hb dL_types_247 (by decide) ?_
            refine lv_iconst (v := 2) hx hb dL_types_248 (by decide) ?_
            refine lv_iload hx hb dL_types_249 (lv_at hl 1 rfl) ?_
            refine lv_imul hx hb dL_types_251 ?_
            refine g_te (y := 0) (by decide) ?_
            refine lv_iadd hx hb dL_types_252 ?_
            refine g_te (y := 2) (by decide) ?_
            refine lv_ishr hx hb dL_types_253 ?_
            refine lv_topi (fun sh161 _ => ?_)
            refine lv_iload hx hb dL_types_254 (lv_at hl 0 rfl) ?_
            refine r_low (rest := [.ref (ad 6 0)]) X hI (by decide) hl.1 rfl ⟨rfl, rfl, by decide, by decide⟩ (Nat.le_of_ble_eq_true rfl) ⟨Nat.zero_le _, Nat.zero_le _⟩ dL_types_256 (fun H locs hI w162 w162a w162b => ?_)
            have w162b : w162.toInt < 5 := w162b
            have hn28 := u_dn1 (v := w162) (by omega)
            refine g_callSx (rest := []) (c_L_digits l D tb ad hj P M27 hz27 w162 ⟨w162a, by omega⟩ hL27 (by omega)) gm_L_digits hx hb hml hown hts hC hI qm_L_55 rfl hl.1 rfl ⟨rfl, rfl, by decide, by decide⟩ (Nat.le_of_ble_eq_true rfl) ⟨Nat.zero_le _, Nat.zero_le _⟩ dL_types_259 (fun r28 P28 M28 hq28 H locs hI => ?_)
            obtain ⟨hr28, hP28, hz28, hT28, ln28, hL28, hB28⟩ := hq28
            subst hr28; subst hP28
            refine lv_if_eq (tgt := 269) hx hb dL_types_262 (by decide) (fun c163 => absurd c163 (by decide)) (fun _ => ?_)
            refine lv_iconst (v := 1) hx hb dL_types_265 (by decide) ?_
            refine lv_goto (tgt := 270) hx hb dL_types_266 (by decide) ?_
            refine lv_istore_n (lv' := [(3, .int 1), (9, .int 5), (8, .int 0), (7, .int 3), (6, .int 2), (5, .int sh61), (4, .int (nI k)), (2, .int (nI N)), (1, .int x), (0, .ref (ad 6 0))]) hx hb dL_types_270 rfl hl (by decide) rfl (fun ls hl => ?_)
            refine lv_iinc (v := 1) (lv' := [(8, .int 1), (3, .int 1), (9, .int 5), (7, .int 3), (6, .int 2), (5, .int sh61), (4, .int (nI k)), (2, .int (nI N)), (1, .int x), (0, .ref (ad 6 0))]) hx hb dL_types_271 hl (k := 2) rfl (by decide) (by decide) rfl (fun ls hl => ?_)
            refine lv_goto (tgt := 151) hx hb dL_types_274 (by decide) ?_
            refine lv_iload hx hb dL_types_151 (lv_at hl 0 rfl) ?_
            refine lv_iload hx hb dL_types_153 (lv_at hl 3 rfl) ?_
            refine lv_icmp_ge (tgt := 277) hx hb dL_types_155 (by decide) (fun c164 => absurd c164 (by decide)) (fun _ => ?_)
            refine lv_iload hx hb dL_types_158 (lv_at hl 4 rfl) ?_
            refine lv_iconst (v := 4) hx hb dL_types_160 (by decide) ?_
            refine lv_icmp_ge (tgt := 176) hx hb dL_types_161 (by decide) (fun c165 => absurd c165 (by decide)) (fun _ => ?_)
            refine lv_iload hx hb dL_types_164 (lv_at hl 0 rfl) ?_
            refine lv_iconst (v := 2) hx hb dL_types_166 (by decide) ?_
            refine lv_icmp_ne (tgt := 176) hx hb dL_types_167 (by decide) (fun _ => ?_) (fun c166 => absurd c166 (by decide))
            refine lv_iload hx hb dL_types_176 (lv_at hl 4 rfl) ?_
            refine lv_bipush (v := 6) hx hb dL_types_178 (by decide) ?_
            refine lv_icmp_ge (tgt := 200) hx hb dL_types_180 (by decide) (fun c167 => absurd c167 (by decide)) (fun _ => ?_)
            refine lv_iload hx hb dL_types_183 (lv_at hl 0 rfl) ?_
            refine lv_iconst (v := 1) hx hb dL_types_185 (by decide) ?_
            refine lv_icmp_ne (tgt := 200) hx hb dL_types_186 (by decide) (fun c168 => absurd c168 (by decide)) (fun _ => ?_)
            refine lv_iload hx hb dL_types_189 (lv_at hl 4 rfl) ?_
            refine lv_iconst (v := 3) hx hb dL_types_191 (by decide) ?_
            refine lv_icmp_le (tgt := 200) hx hb dL_types_192 (by decide) (fun _ => ?_) (fun c169 => absurd c169 (by decide))
            refine lv_iload hx hb dL_types_200 (lv_at hl 4 rfl) ?_
            refine lv_bipush (v := 7) hx hb dL_types_202 (by decide) ?_
            refine lv_icmp_eq (tgt := 219) hx hb dL_types_204 (by decide) (fun c170 => absurd c170 (by decide)) (fun _ => ?_)
            refine lv_iload hx hb dL_types_207 (lv_at hl 4 rfl) ?_
            refine lv_iconst (v := 2) hx hb dL_types_209 (by decide) ?_
            refine lv_icmp_eq (tgt := 219) hx hb dL_types_210 (by decide) (fun _ => ?_) (fun c171 => absurd c171 (by decide))
            refine lv_iconst (v := 5) hx hb dL_types_219 (by decide) ?_
            refine lv_goto (tgt := 224) hx hb dL_types_220 (by decide) ?_
            refine lv_istore (lv' := [(9, .int 5), (8, .int 1), (3, .int 1), (7, .int 3), (6, .int 2), (5, .int sh61), (4, .int (nI k)), (2, .int (nI N)), (1, .int x), (0, .ref (ad 6 0))]) hx hb dL_types_224 hl (by decide) rfl (fun ls hl => ?_)
            refine lv_iload_n hx hb dL_types_226 rfl (lv_at hl 2 rfl) ?_
            refine lv_if_eq (tgt := 269) hx hb dL_types_227 (by decide) (fun c172 => absurd c172 (by decide)) (fun _ => ?_)
            refine lv_iload hx hb dL_types_230 (lv_at hl 1 rfl) ?_
            refine lv_if_eq (tgt := 244) hx hb dL_types_232 (by decide) (fun c173 => absurd c173 (by decide)) (fun _ => ?_)
            refine lv_aload_n hx hb dL_types_235 rfl (lv_at hl 9 rfl) ?_
            refine lv_bipush (v := 44) hx hb dL_types_236 (by decide) ?_
            refine r_type (rest := []) X hI hz28 hL28 (by omega) (by decide) hl.1 rfl ⟨rfl, rfl, by decide, by decide⟩ (Nat.le_of_ble_eq_true rfl) ⟨Nat.zero_le _, Nat.zero_le _⟩ dL_types_238 (fun M29 hz29 hT29 hL29 H locs hI r29 hr29 => ?_)
            refine lv_if_le (tgt := 269) hx hb dL_types_241 (by decide) (fun c174 => ?_) (fun c174 => ?_)
            · (rw [Int32.le_iff_toInt_le, z_i0] at c174; omega)
            · skip
              refine lv_aload_n hx hb dL_types_244 rfl (lv_at hl 9 rfl) ?_
              refine lv_iload hx hb dL_types_245 (lv_at hl 5 rfl) ?_
              refine lv_iconst (v := 2) hx hb dL_types_247 (by decide) ?_
              refine lv_iconst (v := 2) hx hb dL_types_248 (by decide) ?_
              refine lv_iload hx hb dL_types_249 (lv_at hl 1 rfl) ?_
              refine lv_imul hx hb dL_types_251 ?_
              refine g_te (y := 2) (by decide) ?_
              refine lv_iadd hx hb dL_types_252 ?_
              refine g_te (y := 4) (by decide) ?_
              refine lv_ishr hx hb dL_types_253 ?_
              refine lv_topi (fun sh175 _ => ?_)
              refine lv_iload hx hb dL_types_254 (lv_at hl 0 rfl) ?_
              refine r_low (rest := [.ref (ad 6 0)]) X hI (by decide) hl.1 rfl ⟨rfl, rfl, by decide, by decide⟩ (Nat.le_of_ble_eq_true rfl) ⟨Nat.zero_le _, Nat.zero_le _⟩ dL_types_256 (fun H locs hI w176 w176a w176b => ?_)
              have w176b : w176.toInt < 5 := w176b
              have hn30 := u_dn1 (v := w176) (by omega)
              refine g_callSx (rest := []) (c_L_digits l D tb ad hj P M29 hz29 w176 ⟨w176a, by omega⟩ hL29 (by omega)) gm_L_digits hx hb hml hown hts hC hI qm_L_55 rfl hl.1 rfl ⟨rfl, rfl, by decide, by decide⟩ (Nat.le_of_ble_eq_true rfl) ⟨Nat.zero_le _, Nat.zero_le _⟩ dL_types_259 (fun r30 P30 M30 hq30 H locs hI => ?_)
              obtain ⟨hr30, hP30, hz30, hT30, ln30, hL30, hB30⟩ := hq30
              subst hr30; subst hP30
              refine lv_if_eq (tgt := 269) hx hb dL_types_262 (by decide) (fun c177 => absurd c177 (by decide)) (fun _ => ?_)
              refine lv_iconst (v := 1) hx hb dL_types_265 (by decide) ?_
              refine lv_goto (tgt := 270) hx hb dL_types_266 (by decide) ?_
              refine lv_istore_n (lv' := [(3, .int 1), (9, .int 5), (8, .int 1), (7, .int 3), (6, .int 2), (5, .int sh61), (4, .int (nI k)), (2, .int (nI N)), (1, .int x), (0, .ref (ad 6 0))]) hx hb dL_types_270 rfl hl (by decide) rfl (fun ls hl => ?_)
              refine lv_iinc (v := 2) (lv' := [(8, .int 2), (3, .int 1), (9, .int 5), (7, .int 3), (6, .int 2), (5, .int sh61), (4, .int (nI k)), (2, .int (nI N)), (1, .int x), (0, .ref (ad 6 0))]) hx hb dL_types_271 hl (k := 2) rfl (by decide) (by decide) rfl (fun ls hl => ?_)
              refine lv_goto (tgt := 151) hx hb dL_types_274 (by decide) ?_
              refine lv_iload hx hb dL_types_151 (lv_at hl 0 rfl) ?_
              refine lv_iload hx hb dL_types_153 (lv_at hl 3 rfl) ?_
              refine lv_icmp_ge (tgt := 277) hx hb dL_types_155 (by decide) (fun c178 => absurd c178 (by decide)) (fun _ => ?_)
              refine lv_iload hx hb dL_types_158 (lv_at hl 4 rfl) ?_
              refine lv_iconst (v := 4) hx hb dL_types_160 (by decide) ?_
              refine lv_icmp_ge (tgt := 176) hx hb dL_types_161 (by decide) (fun c179 => absurd c179 (by decide)) (fun _ => ?_)
              refine lv_iload hx hb dL_types_164 (lv_at hl 0 rfl) ?_
              refine lv_iconst (v := 2) hx hb dL_types_166 (by decide) ?_
              refine lv_icmp_ne (tgt := 176) hx hb dL_types_167 (by decide) (fun c180 => absurd c180 (by decide)) (fun _ => ?_)
              refine lv_sipush (v := 1500) hx hb dL_types_170 (by decide) ?_
              refine lv_goto (tgt := 224) hx hb dL_types_173 (by decide) ?_
              refine lv_istore (lv' := [(9, .int 1500), (8, .int 2), (3, .int 1), (7, .int 3), (6, .int 2), (5, .int sh61), (4, .int (nI k)), (2, .int (nI N)), (1, .int x), (0, .ref (ad 6 0))]) hx hb dL_types_224 hl (by decide) rfl (fun ls hl => ?_)
              refine lv_iload_n hx hb dL_types_226 rfl (lv_at hl 2 rfl) ?_
              refine lv_if_eq (tgt := 269) hx hb dL_types_227 (by decide) (fun c181 => absurd c181 (by decide)) (fun _ => ?_)
              refine lv_iload hx hb dL_types_230 (lv_at hl 1 rfl) ?_
              refine lv_if_eq (tgt := 244) hx hb dL_types_232 (by decide) (fun c182 => absurd c182 (by decide)) (fun _ => ?_)
              refine lv_aload_n hx hb dL_types_235 rfl (lv_at hl 9 rfl) ?_
              refine lv_bipush (v := 44) hx hb dL_types_236 (by decide) ?_
              refine r_type (rest := []) X hI hz30 hL30 (by omega) (by decide) hl.1 rfl ⟨rfl, rfl, by decide, by decide⟩ (Nat.le_of_ble_eq_true rfl) ⟨Nat.zero_le _, Nat.zero_le _⟩ dL_types_238 (fun M31 hz31 hT31 hL31 H locs hI r31 hr31 => ?_)
              refine lv_if_le (tgt := 269) hx hb dL_types_241 (by decide) (fun c183 => ?_) (fun c183 => ?_)
              · (rw [Int32.le_iff_toInt_le, z_i0] at c183; omega)
              · skip
                refine lv_aload_n hx hb dL_types_244 rfl (lv_at hl 9 rfl) ?_
                refine lv_iload hx hb dL_types_245 (lv_at hl 5 rfl) ?_
                refine lv_iconst (v := 2) hx hb dL_types_247 (by decide) ?_
                refine lv_iconst (v := 2) hx hb dL_types_248 (by decide) ?_
                refine lv_iload hx hb dL_types_249 (lv_at hl 1 rfl) ?_
                refine lv_imul hx hb dL_types_251 ?_
                refine g_te (y := 4) (by decide) ?_
                refine lv_iadd hx hb dL_types_252 ?_
                refine g_te (y := 6) (by decide) ?_
                refine lv_ishr hx hb dL_types_253 ?_
                refine lv_topi (fun sh184 _ => ?_)
                refine lv_iload hx hb dL_types_254 (lv_at hl 0 rfl) ?_
                refine r_low (rest := [.ref (ad 6 0)]) X hI (by decide) hl.1 rfl ⟨rfl, rfl, by decide, by decide⟩ (Nat.le_of_ble_eq_true rfl) ⟨Nat.zero_le _, Nat.zero_le _⟩ dL_types_256 (fun H locs hI w185 w185a w185b => ?_)
                have w185b : w185.toInt < 1500 := w185b
                have hn32 := u_dn4 (v := w185)
                refine g_callSx (rest := []) (c_L_digits l D tb ad hj P M31 hz31 w185 ⟨w185a, by omega⟩ hL31 (by omega)) gm_L_digits hx hb hml hown hts hC hI qm_L_55 rfl hl.1 rfl ⟨rfl, rfl, by decide, by decide⟩ (Nat.le_of_ble_eq_true rfl) ⟨Nat.zero_le _, Nat.zero_le _⟩ dL_types_259 (fun r32 P32 M32 hq32 H locs hI => ?_)
                obtain ⟨hr32, hP32, hz32, hT32, ln32, hL32, hB32⟩ := hq32
                subst hr32; subst hP32
                refine lv_if_eq (tgt := 269) hx hb dL_types_262 (by decide) (fun c186 => absurd c186 (by decide)) (fun _ => ?_)
                refine lv_iconst (v := 1) hx hb dL_types_265 (by decide) ?_
                refine lv_goto (tgt := 270) hx hb dL_types_266 (by decide) ?_
                refine lv_istore_n (lv' := [(3, .int 1), (9, .int 1500), (8, .int 2), (7, .int 3), (6, .int 2), (5, .int sh61), (4, .int (nI k)), (2, .int (nI N)), (1, .int x), (0, .ref (ad 6 0))]) hx hb dL_types_270 rfl hl (by decide) rfl (fun ls hl => ?_)
                refine lv_iinc (v := 3) (lv' := [(8, .int 3), (3, .int 1), (9, .int 1500), (7, .int 3), (6, .int 2), (5, .int sh61), (4, .int (nI k)), (2, .int (nI N)), (1, .int x), (0, .ref (ad 6 0))]) hx hb dL_types_271 hl (k := 2) rfl (by decide) (by decide) rfl (fun ls hl => ?_)
                refine lv_goto (tgt := 151) hx hb dL_types_274 (by decide) ?_
                refine lv_iload hx hb dL_types_151 (lv_at hl 0 rfl) ?_
                refine lv_iload hx hb dL_types_153 (lv_at hl 3 rfl) ?_
                refine lv_icmp_ge (tgt := 277) hx hb dL_types_155 (by decide) (fun _ => ?_) (fun c187 => absurd c187 (by decide))
                exact E277 M32 _ hz32 ((((((hTk.tr hT27).tr hT28).tr hT29).tr hT30).tr hT31).tr hT32) hL32 (by omega) _ _ _ hI (lv_sub hl [6, 1, 7, 8, 9] rfl)
        · refine g_te (y := 3) rfl ?_
          refine lv_istore (lv' := [(6, .int 3), (5, .int sh61), (4, .int (nI k)), (3, .int 1), (2, .int (nI N)), (1, .int x), (0, .ref (ad 6 0))]) hx hb dL_types_45 hl (by decide) rfl (fun ls hl => ?_)
          refine lv_iload hx hb dL_types_47 (lv_at hl 0 rfl) ?_
          refine lv_iconst (v := 4) hx hb dL_types_49 (by decide) ?_
          refine lv_icmp_ge (tgt := 57) hx hb dL_types_50 (by decide) (fun c188 => absurd c188 (by decide)) (fun _ => ?_)
          refine lv_iconst (v := 3) hx hb dL_types_53 (by decide) ?_
          refine lv_goto (tgt := 69) hx hb dL_types_54 (by decide) ?_
          refine lv_istore (lv' := [(7, .int 3), (6, .int 3), (5, .int sh61), (4, .int (nI k)), (3, .int 1), (2, .int (nI N)), (1, .int x), (0, .ref (ad 6 0))]) hx hb dL_types_69 hl (by decide) rfl (fun ls hl => ?_)
          refine lv_iload_n hx hb dL_types_71 rfl (lv_at hl 4 rfl) ?_
          refine lv_if_eq (tgt := 146) hx hb dL_types_72 (by decide) (fun c189 => absurd c189 (by decide)) (fun _ => ?_)
          refine lv_aload_n hx hb dL_types_75 rfl (lv_at hl 7 rfl) ?_
          refine lv_iload hx hb dL_types_76 (lv_at hl 1 rfl) ?_
          refine lv_iconst (v := 2) hx hb dL_types_78 (by decide) ?_
          refine lv_icmp_ge (tgt := 87) hx hb dL_types_79 (by decide) (fun _ => ?_) (fun c190 => absurd c190 (by decide))
          refine lv_iload hx hb dL_types_87 (lv_at hl 1 rfl) ?_
          refine lv_iconst (v := 4) hx hb dL_types_89 (by decide) ?_
          refine lv_icmp_ge (tgt := 98) hx hb dL_types_90 (by decide) (fun c191 => absurd c191 (by decide)) (fun _ => ?_)
          refine lv_bipush (v := 108) hx hb dL_types_93 (by decide) ?_
          refine lv_goto (tgt := 136) hx hb dL_types_95 (by decide) ?_
          refine r_type (rest := []) X hI hzk hLk (by omega) (by decide) hl.1 rfl ⟨rfl, rfl, by decide, by decide⟩ (Nat.le_of_ble_eq_true rfl) ⟨Nat.zero_le _, Nat.zero_le _⟩ dL_types_136 (fun M33 hz33 hT33 hL33 H locs hI r33 hr33 => ?_)
          refine lv_if_le (tgt := 146) hx hb dL_types_139 (by decide) (fun c192 => ?_) (fun c192 => ?_)
          · (rw [Int32.le_iff_toInt_le, z_i0] at c192; omega)
          · skip
            refine lv_iconst (v := 1) hx hb dL_types_142 (by decide) ?_
            refine lv_goto (tgt := 147) hx hb dL_types_143 (by decide) ?_
            refine lv_istore_n (lv' := [(3, .int 1), (7, .int 3), (6, .int 3), (5, .int sh61), (4, .int (nI k)), (2, .int (nI N)), (1, .int x), (0, .ref (ad 6 0))]) hx hb dL_types_147 rfl hl (by decide) rfl (fun ls hl => ?_)
            refine lv_iconst (v := 0) hx hb dL_types_148 (by decide) ?_
            refine lv_istore (lv' := [(8, .int 0), (3, .int 1), (7, .int 3), (6, .int 3), (5, .int sh61), (4, .int (nI k)), (2, .int (nI N)), (1, .int x), (0, .ref (ad 6 0))]) hx hb dL_types_149 hl (by decide) rfl (fun ls hl => ?_)
            refine lv_iload hx hb dL_types_151 (lv_at hl 0 rfl) ?_
            refine lv_iload hx hb dL_types_153 (lv_at hl 2 rfl) ?_
            refine lv_icmp_ge (tgt := 277) hx hb dL_types_155 (by decide) (fun c193 => absurd c193 (by decide)) (fun _ => ?_)
            refine lv_iload hx hb dL_types_158 (lv_at hl 3 rfl) ?_
            refine lv_iconst (v := 4) hx hb dL_types_160 (by decide) ?_
            refine lv_icmp_ge (tgt := 176) hx hb dL_types_161 (by decide) (fun c194 => absurd c194 (by decide)) (fun _ => ?_)
            refine lv_iload hx hb dL_types_164 (lv_at hl 0 rfl) ?_
            refine lv_iconst (v := 2) hx hb dL_types_166 (by decide) ?_
            refine lv_icmp_ne (tgt := 176) hx hb dL_types_167 (by decide) (fun _ => ?_) (fun c195 => absurd c195 (by decide))
            refine lv_iload hx hb dL_types_176 (lv_at hl 3 rfl) ?_
            refine lv_bipush (v := 6) hx hb dL_types_178 (by decide) ?_
            refine lv_icmp_ge (tgt := 200) hx hb dL_types_180 (by decide) (fun c196 => absurd c196 (by decide)) (fun _ => ?_)
            refine lv_iload hx hb dL_types_183 (lv_at hl 0 rfl) ?_
            refine lv_iconst (v := 1) hx hb dL_types_185 (by decide) ?_
            refine lv_icmp_ne (tgt := 200) hx hb dL_types_186 (by decide) (fun _ => ?_) (fun c197 => absurd c197 (by decide))
            refine lv_iload hx hb dL_types_200 (lv_at hl 3 rfl) ?_
            refine lv_bipush (v := 7) hx hb dL_types_202 (by decide) ?_
            refine lv_icmp_eq (tgt := 219) hx hb dL_types_204 (by decide) (fun c198 => absurd c198 (by decide)) (fun _ => ?_)
            refine lv_iload hx hb dL_types_207 (lv_at hl 3 rfl) ?_
            refine lv_iconst (v := 2) hx hb dL_types_209 (by decide) ?_
            refine lv_icmp_eq (tgt := 219) hx hb dL_types_210 (by decide) (fun c199 => absurd c199 (by decide)) (fun _ => ?_)
            refine lv_iload hx hb dL_types_213 (lv_at hl 3 rfl) ?_
            refine lv_iconst (v := 3) hx hb dL_types_215 (by decide) ?_
            refine lv_icmp_ne (tgt := 223) hx hb dL_types_216 (by decide) (fun c200 => absurd c200 (by decide)) (fun _ => ?_)
            refine lv_iconst (v := 5) hx hb dL_types_219 (by decide) ?_
            refine lv_goto (tgt := 224) hx hb dL_types_220 (by decide) ?_
            refine lv_istore (lv' := [(9, .int 5), (8, .int 0), (3, .int 1), (7, .int 3), (6, .int 3), (5, .int sh61), (4, .int (nI k)), (2, .int (nI N)), (1, .int x), (0, .ref (ad 6 0))]) hx hb dL_types_224 hl (by decide) rfl (fun ls hl => ?_)
            refine lv_iload_n hx hb dL_types_226 rfl (lv_at hl 2 rfl) ?_
            refine lv_if_eq (tgt := 269) hx hb dL_types_227 (by decide) (fun c201 => absurd c201 (by decide)) (fun _ => ?_)
            refine lv_iload hx hb dL_types_230 (lv_at hl 1 rfl) ?_
            refine lv_if_eq (tgt := 244) hx hb dL_types_232 (by decide) (fun _ => ?_) (fun c202 => absurd c202 (by decide))
            refine lv_aload_n hx hb dL_types_244 rfl (lv_at hl 9 rfl) ?_
            refine lv_iload hx hb dL_types_245 (lv_at hl 5 rfl) ?_
            refine lv_iconst (v := 2) hx hb dL_types_247 (by decide) ?_
            refine lv_iconst (v := 2) hx hb dL_types_248 (by decide) ?_
            refine lv_iload hx hb dL_types_249 (lv_at hl 1 rfl) ?_
            refine lv_imul hx hb dL_types_251 ?_
            refine g_te (y := 0) (by decide) ?_
            refine lv_iadd hx hb dL_types_252 ?_
            refine g_te (y := 2) (by decide) ?_
            refine lv_ishr hx hb dL_types_253 ?_
            refine lv_topi (fun sh203 _ => ?_)
            refine lv_iload hx hb dL_types_254 (lv_at hl 0 rfl) ?_
            refine r_low (rest := [.ref (ad 6 0)]) X hI (by decide) hl.1 rfl ⟨rfl, rfl, by decide, by decide⟩ (Nat.le_of_ble_eq_true rfl) ⟨Nat.zero_le _, Nat.zero_le _⟩ dL_types_256 (fun H locs hI w204 w204a w204b => ?_)
            have w204b : w204.toInt < 5 := w204b
            have hn34 := u_dn1 (v := w204) (by omega)
            refine g_callSx (rest := []) (c_L_digits l D tb ad hj P M33 hz33 w204 ⟨w204a, by omega⟩ hL33 (by omega)) gm_L_digits hx hb hml hown hts hC hI qm_L_55 rfl hl.1 rfl ⟨rfl, rfl, by decide, by decide⟩ (Nat.le_of_ble_eq_true rfl) ⟨Nat.zero_le _, Nat.zero_le _⟩ dL_types_259 (fun r34 P34 M34 hq34 H locs hI => ?_)
            obtain ⟨hr34, hP34, hz34, hT34, ln34, hL34, hB34⟩ := hq34
            subst hr34; subst hP34
            refine lv_if_eq (tgt := 269) hx hb dL_types_262 (by decide) (fun c205 => absurd c205 (by decide)) (fun _ => ?_)
            refine lv_iconst (v := 1) hx hb dL_types_265 (by decide) ?_
            refine lv_goto (tgt := 270) hx hb dL_types_266 (by decide) ?_
            refine lv_istore_n (lv' := [(3, .int 1), (9, .int 5), (8, .int 0), (7, .int 3), (6, .int 3), (5, .int sh61), (4, .int (nI k)), (2, .int (nI N)), (1, .int x), (0, .ref (ad 6 0))]) hx hb dL_types_270 rfl hl (by decide) rfl (fun ls hl => ?_)
            refine lv_iinc (v := 1) (lv' := [(8, .int 1), (3, .int 1), (9, .int 5), (7, .int 3), (6, .int 3), (5, .int sh61), (4, .int (nI k)), (2, .int (nI N)), (1, .int x), (0, .ref (ad 6 0))]) hx hb dL_types_271 hl (k := 2) rfl (by decide) (by decide) rfl (fun ls hl => ?_)
            refine lv_goto (tgt := 151) hx hb dL_types_274 (by decide) ?_
            refine lv_iload hx hb dL_types_151 (lv_at hl 0 rfl) ?_
            refine lv_iload hx hb dL_types_153 (lv_at hl 3 rfl) ?_
            refine lv_icmp_ge (tgt := 277) hx hb dL_types_155 (by decide) (fun c206 => absurd c206 (by decide)) (fun _ => ?_)
            refine lv_iload hx hb dL_types_158 (lv_at hl 4 rfl) ?_
            refine lv_iconst (v := 4) hx hb dL_types_160 (by decide) ?_
            refine lv_icmp_ge (tgt := 176) hx hb dL_types_161 (by decide) (fun c207 => absurd c207 (by decide)) (fun _ => ?_)
            refine lv_iload hx hb dL_types_164 (lv_at hl 0 rfl) ?_
            refine lv_iconst (v := 2) hx hb dL_types_166 (by decide) ?_
            refine lv_icmp_ne (tgt := 176) hx hb dL_types_167 (by decide) (fun _ => ?_) (fun c208 => absurd c208 (by decide))
            refine lv_iload hx hb dL_types_176 (lv_at hl 4 rfl) ?_
            refine lv_bipush (v := 6) hx hb dL_types_178 (by decide) ?_
            refine lv_icmp_ge (tgt := 200) hx hb dL_types_180 (by decide) (fun c209 => absurd c209 (by decide)) (fun _ => ?_)
            refine lv_iload hx hb dL_types_183 (lv_at hl 0 rfl) ?_
            refine lv_iconst (v := 1) hx hb dL_types_185 (by decide) ?_
            refine lv_icmp_ne (tgt := 200) hx hb dL_types_186 (by decide) (fun c210 => absurd c210 (by decide)) (fun _ => ?_)
            refine lv_iload hx hb dL_types_189 (lv_at hl 4 rfl) ?_
            refine lv_iconst (v := 3) hx hb dL_types_191 (by decide) ?_
            refine lv_icmp_le (tgt := 200) hx hb dL_types_192 (by decide) (fun _ => ?_) (fun c211 => absurd c211 (by decide))
            refine lv_iload hx hb dL_types_200 (lv_at hl 4 rfl) ?_
            refine lv_bipush (v := 7) hx hb dL_types_202 (by decide) ?_
            refine lv_icmp_eq (tgt := 219) hx hb dL_types_204 (by decide) (fun c212 => absurd c212 (by decide)) (fun _ => ?_)
            refine lv_iload hx hb dL_types_207 (lv_at hl 4 rfl) ?_
            refine lv_iconst (v := 2) hx hb dL_types_209 (by decide) ?_
            refine lv_icmp_eq (tgt := 219) hx hb dL_types_210 (by decide) (fun c213 => absurd c213 (by decide)) (fun _ => ?_)
            refine lv_iload hx hb dL_types_213 (lv_at hl 4 rfl) ?_
            refine lv_iconst (v := 3) hx hb dL_types_215 (by decide) ?_
            refine lv_icmp_ne (tgt := 223) hx hb dL_types_216 (by decide) (fun c214 => absurd c214 (by decide)) (fun _ => ?_)
            refine lv_iconst (v := 5) hx hb dL_types_219 (by decide) ?_
            refine lv_goto (tgt := 224) hx hb dL_types_220 (by decide) ?_
            refine lv_istore (lv' := [(9, .int 5), (8, .int 1), (3, .int 1), (7, .int 3), (6, .int 3), (5, .int sh61), (4, .int (nI k)), (2, .int (nI N)), (1, .int x), (0, .ref (ad 6 0))]) hx hb dL_types_224 hl (by decide) rfl (fun ls hl => ?_)
            refine lv_iload_n hx hb dL_types_226 rfl (lv_at hl 2 rfl) ?_
            refine lv_if_eq (tgt := 269) hx hb dL_types_227 (by decide) (fun c215 => absurd c215 (by decide)) (fun _ => ?_)
            refine lv_iload hx hb dL_types_230 (lv_at hl 1 rfl) ?_
            refine lv_if_eq (tgt := 244) hx hb dL_types_232 (by decide) (fun c216 => absurd c216 (by decide)) (fun _ => ?_)
            refine lv_aload_n hx hb dL_types_235 rfl (lv_at hl 9 rfl) ?_
            refine lv_bipush (v := 44) hx hb dL_types_236 (by decide) ?_
            refine r_type (rest := []) X hI hz34 hL34 (by omega) (by decide) hl.1 rfl ⟨rfl, rfl, by decide, by decide⟩ (Nat.le_of_ble_eq_true rfl) ⟨Nat.zero_le _, Nat.zero_le _⟩ dL_types_238 (fun M35 hz35 hT35 hL35 H locs hI r35 hr35 => ?_)
            refine lv_if_le (tgt := 269) hx hb dL_types_241 (by decide) (fun c217 => ?_) (fun c217 => ?_)
            · (rw [Int32.le_iff_toInt_le, z_i0] at c217; omega)
            · skip
              refine lv_aload_n hx hb dL_types_244 rfl (lv_at hl 9 rfl) ?_
              refine lv_iload hx hb dL_types_245 (lv_at hl 5 rfl) ?_
              refine lv_iconst (v := 2) hx hb dL_types_247 (by decide) ?_
              refine lv_iconst (v := 2) hx hb dL_types_248 (by decide) ?_
              refine lv_iload hx hb dL_types_249 (lv_at hl 1 rfl) ?_
              refine lv_imul hx hb dL_types_251 ?_
              refine g_te (y := 2) (by decide) ?_
              refine lv_iadd hx hb dL_types_252 ?_
              refine g_te (y := 4) (by decide) ?_
              refine lv_ishr hx hb dL_types_253 ?_
              refine lv_topi (fun sh218 _ => ?_)
              refine lv_iload hx hb dL_types_254 (lv_at hl 0 rfl) ?_
              refine r_low (rest := [.ref (ad 6 0)]) X hI (by decide) hl.1 rfl ⟨rfl, rfl, by decide, by decide⟩ (Nat.le_of_ble_eq_true rfl) ⟨Nat.zero_le _, Nat.zero_le _⟩ dL_types_256 (fun H locs hI w219 w219a w219b => ?_)
              have w219b : w219.toInt < 5 := w219b
              have hn36 := u_dn1 (v := w219) (by omega)
              refine g_callSx (rest := []) (c_L_digits l D tb ad hj P M35 hz35 w219 ⟨w219a, by omega⟩ hL35 (by omega)) gm_L_digits hx hb hml hown hts hC hI qm_L_55 rfl hl.1 rfl ⟨rfl, rfl, by decide, by decide⟩ (Nat.le_of_ble_eq_true rfl) ⟨Nat.zero_le _, Nat.zero_le _⟩ dL_types_259 (fun r36 P36 M36 hq36 H locs hI => ?_)
              obtain ⟨hr36, hP36, hz36, hT36, ln36, hL36, hB36⟩ := hq36
              subst hr36; subst hP36
              refine lv_if_eq (tgt := 269) hx hb dL_types_262 (by decide) (fun c220 => absurd c220 (by decide)) (fun _ => ?_)
              refine lv_iconst (v := 1) hx hb dL_types_265 (by decide) ?_
              refine lv_goto (tgt := 270) hx hb dL_types_266 (by decide) ?_
              refine lv_istore_n (lv' := [(3, .int 1), (9, .int 5), (8, .int 1), (7, .int 3), (6, .int 3), (5, .int sh61), (4, .int (nI k)), (2, .int (nI N)), (1, .int x), (0, .ref (ad 6 0))]) hx hb dL_types_270 rfl hl (by decide) rfl (fun ls hl => ?_)
              refine lv_iinc (v := 2) (lv' := [(8, .int 2), (3, .int 1), (9, .int 5), (7, .int 3), (6, .int 3), (5, .int sh61), (4, .int (nI k)), (2, .int (nI N)), (1, .int x), (0, .ref (ad 6 0))]) hx hb dL_types_271 hl (k := 2) rfl (by decide) (by decide) rfl (fun ls hl => ?_)
              refine lv_goto (tgt := 151) hx hb dL_types_274 (by decide) ?_
              refine lv_iload hx hb dL_types_151 (lv_at hl 0 rfl) ?_
              refine lv_iload hx hb dL_types_153 (lv_at hl 3 rfl) ?_
              refine lv_icmp_ge (tgt := 277) hx hb dL_types_155 (by decide) (fun c221 => absurd c221 (by decide)) (fun _ => ?_)
              refine lv_iload hx hb dL_types_158 (lv_at hl 4 rfl) ?_
              refine lv_iconst (v := 4) hx hb dL_types_160 (by decide) ?_
              refine lv_icmp_ge (tgt := 176) hx hb dL_types_161 (by decide) (fun c222 => absurd c222 (by decide)) (fun _ => ?_)
              refine lv_iload hx hb dL_types_164 (lv_at hl 0 rfl) ?_
              refine lv_iconst (v := 2) hx hb dL_types_166 (by decide) ?_
              refine lv_icmp_ne (tgt := 176) hx hb dL_types_167 (by decide) (fun c223 => absurd c223 (by decide)) (fun _ => ?_)
              refine lv_sipush (v := 1500) hx hb dL_types_170 (by decide) ?_
              refine lv_goto (tgt := 224) hx hb dL_types_173 (by decide) ?_
              refine lv_istore (lv' := [(9, .int 1500), (8, .int 2), (3, .int 1), (7, .int 3), (6, .int 3), (5, .int sh61), (4, .int (nI k)), (2, .int (nI N)), (1, .int x), (0, .ref (ad 6 0))]) hx hb dL_types_224 hl (by decide) rfl (fun ls hl => ?_)
              refine lv_iload_n hx hb dL_types_226 rfl (lv_at hl 2 rfl) ?_
              refine lv_if_eq (tgt := 269) hx hb dL_types_227 (by decide) (fun c224 => absurd c224 (by decide)) (fun _ => ?_)
              refine lv_iload hx hb dL_types_230 (lv_at hl 1 rfl) ?_
              refine lv_if_eq (tgt := 244) hx hb dL_types_232 (by decide) (fun c225 => absurd c225 (by decide)) (fun _ => ?_)
              refine lv_aload_n hx hb dL_types_235 rfl (lv_at hl 9 rfl) ?_
              refine lv_bipush (v := 44) hx hb dL_types_236 (by decide) ?_
              refine r_type (rest := []) X hI hz36 hL36 (by omega) (by decide) hl.1 rfl ⟨rfl, rfl, by decide, by decide⟩ (Nat.le_of_ble_eq_true rfl) ⟨Nat.zero_le _, Nat.zero_le _⟩ dL_types_238 (fun M37 hz37 hT37 hL37 H locs hI r37 hr37 => ?_)
              refine lv_if_le (tgt := 269) hx hb dL_types_241 (by decide) (fun c226 => ?_) (fun c226 => ?_)
              · (rw [Int32.le_iff_toInt_le, z_i0] at c226; omega)
              · skip
                refine lv_aload_n hx hb dL_types_244 rfl (lv_at hl 9 rfl) ?_
                refine lv_iload hx hb dL_types_245 (lv_at hl 5 rfl) ?_
                refine lv_iconst (v := 2) hx hb dL_types_247 (by decide) ?_
                refine lv_iconst (v := 2) hx hb dL_types_248 (by decide) ?_
                refine lv_iload hx hb dL_types_249 (lv_at hl 1 rfl) ?_
                refine lv_imul hx hb dL_types_251 ?_
                refine g_te (y := 4) (by decide) ?_
                refine lv_iadd hx hb dL_types_252 ?_
                refine g_te (y := 6) (by decide) ?_
                refine lv_ishr hx hb dL_types_253 ?_
                refine lv_topi (fun sh227 _ => ?_)
                refine lv_iload hx hb dL_types_254 (lv_at hl 0 rfl) ?_
                refine r_low (rest := [.ref (ad 6 0)]) X hI (by decide) hl.1 rfl ⟨rfl, rfl, by decide, by decide⟩ (Nat.le_of_ble_eq_true rfl) ⟨Nat.zero_le _, Nat.zero_le _⟩ dL_types_256 (fun H locs hI w228 w228a w228b => ?_)
                have w228b : w228.toInt < 1500 := w228b
                have hn38 := u_dn4 (v := w228)
                refine g_callSx (rest := []) (c_L_digits l D tb ad hj P M37 hz37 w228 ⟨w228a, by omega⟩ hL37 (by omega)) gm_L_digits hx hb hml hown hts hC hI qm_L_55 rfl hl.1 rfl ⟨rfl, rfl, by decide, by decide⟩ (Nat.le_of_ble_eq_true rfl) ⟨Nat.zero_le _, Nat.zero_le _⟩ dL_types_259 (fun r38 P38 M38 hq38 H locs hI => ?_)
                obtain ⟨hr38, hP38, hz38, hT38, ln38, hL38, hB38⟩ := hq38
                subst hr38; subst hP38
                refine lv_if_eq (tgt := 269) hx hb dL_types_262 (by decide) (fun c229 => absurd c229 (by decide)) (fun _ => ?_)
                refine lv_iconst (v := 1) hx hb dL_types_265 (by decide) ?_
                refine lv_goto (tgt := 270) hx hb dL_types_266 (by decide) ?_
                refine lv_istore_n (lv' := [(3, .int 1), (9, .int 1500), (8, .int 2), (7, .int 3), (6, .int 3), (5, .int sh61), (4, .int (nI k)), (2, .int (nI N)), (1, .int x), (0, .ref (ad 6 0))]) hx hb dL_types_270 rfl hl (by decide) rfl (fun ls hl => ?_)
                refine lv_iinc (v := 3) (lv' := [(8, .int 3), (3, .int 1), (9, .int 1500), (7, .int 3), (6, .int 3), (5, .int sh61), (4, .int (nI k)), (2, .int (nI N)), (1, .int x), (0, .ref (ad 6 0))]) hx hb dL_types_271 hl (k := 2) rfl (by decide) (by decide) rfl (fun ls hl => ?_)
                refine lv_goto (tgt := 151) hx hb dL_types_274 (by decide) ?_
                refine lv_iload hx hb dL_types_151 (lv_at hl 0 rfl) ?_
                refine lv_iload hx hb dL_types_153 (lv_at hl 3 rfl) ?_
                refine lv_icmp_ge (tgt := 277) hx hb dL_types_155 (by decide) (fun _ => ?_) (fun c230 => absurd c230 (by decide))
                exact E277 M38 _ hz38 ((((((hTk.tr hT33).tr hT34).tr hT35).tr hT36).tr hT37).tr hT38) hL38 (by omega) _ _ _ hI (lv_sub hl [6, 1, 7, 8, 9] rfl)
        · refine g_te (y := 4) rfl ?_
          refine lv_istore (lv' := [(6, .int 4), (5, .int sh61), (4, .int (nI k)), (3, .int 1), (2, .int (nI N)), (1, .int x), (0, .ref (ad 6 0))]) hx hb dL_types_45 hl (by decide) rfl (fun ls hl => ?_)
          refine lv_iload hx hb dL_types_47 (lv_at hl 0 rfl) ?_
          refine lv_iconst (v := 4) hx hb dL_types_49 (by decide) ?_
          refine lv_icmp_ge (tgt := 57) hx hb dL_types_50 (by decide) (fun _ => ?_) (fun c231 => absurd c231 (by decide))
          refine lv_iload hx hb dL_types_57 (lv_at hl 0 rfl) ?_
          refine lv_bipush (v := 6) hx hb dL_types_59 (by decide) ?_
          refine lv_icmp_ge (tgt := 68) hx hb dL_types_61 (by decide) (fun c232 => absurd c232 (by decide)) (fun _ => ?_)
          refine lv_iconst (v := 2) hx hb dL_types_64 (by decide) ?_
          refine lv_goto (tgt := 69) hx hb dL_types_65 (by decide) ?_
          refine lv_istore (lv' := [(7, .int 2), (6, .int 4), (5, .int sh61), (4, .int (nI k)), (3, .int 1), (2, .int (nI N)), (1, .int x), (0, .ref (ad 6 0))]) hx hb dL_types_69 hl (by decide) rfl (fun ls hl => ?_)
          refine lv_iload_n hx hb dL_types_71 rfl (lv_at hl 4 rfl) ?_
          refine lv_if_eq (tgt := 146) hx hb dL_types_72 (by decide) (fun c233 => absurd c233 (by decide)) (fun _ => ?_)
          refine lv_aload_n hx hb dL_types_75 rfl (lv_at hl 7 rfl) ?_
          refine lv_iload hx hb dL_types_76 (lv_at hl 1 rfl) ?_
          refine lv_iconst (v := 2) hx hb dL_types_78 (by decide) ?_
          refine lv_icmp_ge (tgt := 87) hx hb dL_types_79 (by decide) (fun _ => ?_) (fun c234 => absurd c234 (by decide))
          refine lv_iload hx hb dL_types_87 (lv_at hl 1 rfl) ?_
          refine lv_iconst (v := 4) hx hb dL_types_89 (by decide) ?_
          refine lv_icmp_ge (tgt := 98) hx hb dL_types_90 (by decide) (fun _ => ?_) (fun c235 => absurd c235 (by decide))
          refine lv_iload hx hb dL_types_98 (lv_at hl 1 rfl) ?_
          refine lv_bipush (v := 6) hx hb dL_types_100 (by decide) ?_
          refine lv_icmp_ge (tgt := 110) hx hb dL_types_102 (by decide) (fun c236 => absurd c236 (by decide)) (fun _ => ?_)
          refine lv_bipush (v := 112) hx hb dL_types_105 (by decide) ?_
          refine lv_goto (tgt := 136) hx hb dL_types_107 (by decide) ?_
          refine r_type (rest := []) X hI hzk hLk (by omega) (by decide) hl.1 rfl ⟨rfl, rfl, by decide, by decide⟩ (Nat.le_of_ble_eq_true rfl) ⟨Nat.zero_le _, Nat.zero_le _⟩ dL_types_136 (fun M39 hz39 hT39 hL39 H locs hI r39 hr39 => ?_)
          refine lv_if_le (tgt := 146) hx hb dL_types_139 (by decide) (fun c237 => ?_) (fun c237 => ?_)
          · (rw [Int32.le_iff_toInt_le, z_i0] at c237; omega)
          · skip
            refine lv_iconst (v := 1) hx hb dL_types_142 (by decide) ?_
            refine lv_goto (tgt := 147) hx hb dL_types_143 (by decide) ?_
            refine lv_istore_n (lv' := [(3, .int 1), (7, .int 2), (6, .int 4), (5, .int sh61), (4, .int (nI k)), (2, .int (nI N)), (1, .int x), (0, .ref (ad 6 0))]) hx hb dL_types_147 rfl hl (by decide) rfl (fun ls hl => ?_)
            refine lv_iconst (v := 0) hx hb dL_types_148 (by decide) ?_
            refine lv_istore (lv' := [(8, .int 0), (3, .int 1), (7, .int 2), (6, .int 4), (5, .int sh61), (4, .int (nI k)), (2, .int (nI N)), (1, .int x), (0, .ref (ad 6 0))]) hx hb dL_types_149 hl (by decide) rfl (fun ls hl => ?_)
            refine lv_iload hx hb dL_types_151 (lv_at hl 0 rfl) ?_
            refine lv_iload hx hb dL_types_153 (lv_at hl 2 rfl) ?_
            refine lv_icmp_ge (tgt := 277) hx hb dL_types_155 (by decide) (fun c238 => absurd c238 (by decide)) (fun _ => ?_)
            refine lv_iload hx hb dL_types_158 (lv_at hl 3 rfl) ?_
            refine lv_iconst (v := 4) hx hb dL_types_160 (by decide) ?_
            refine lv_icmp_ge (tgt := 176) hx hb dL_types_161 (by decide) (fun _ => ?_) (fun c239 => absurd c239 (by decide))
            refine lv_iload hx hb dL_types_176 (lv_at hl 3 rfl) ?_
            refine lv_bipush (v := 6) hx hb dL_types_178 (by decide) ?_
            refine lv_icmp_ge (tgt := 200) hx hb dL_types_180 (by decide) (fun c240 => absurd c240 (by decide)) (fun _ => ?_)
            refine lv_iload hx hb dL_types_183 (lv_at hl 0 rfl) ?_
            refine lv_iconst (v := 1) hx hb dL_types_185 (by decide) ?_
            refine lv_icmp_ne (tgt := 200) hx hb dL_types_186 (by decide) (fun _ => ?_) (fun c241 => absurd c241 (by decide))
            refine lv_iload hx hb dL_types_200 (lv_at hl 3 rfl) ?_
            refine lv_bipush (v := 7) hx hb dL_types_202 (by decide) ?_
            refine lv_icmp_eq (tgt := 219) hx hb dL_types_204 (by decide) (fun c242 => absurd c242 (by decide)) (fun _ => ?_)
            refine lv_iload hx hb dL_types_207 (lv_at hl 3 rfl) ?_
            refine lv_iconst (v := 2) hx hb dL_types_209 (by decide) ?_
            refine lv_icmp_eq (tgt := 219) hx hb dL_types_210 (by decide) (fun c243 => absurd c243 (by decide)) (fun _ => ?_)
            refine lv_iload hx hb dL_types_213 (lv_at hl 3 rfl) ?_
            refine lv_iconst (v := 3) hx hb dL_types_215 (by decide) ?_
            refine lv_icmp_ne (tgt := 223) hx hb dL_types_216 (by decide) (fun _ => ?_) (fun c244 => absurd c244 (by decide))
            refine lv_iconst (v := 4) hx hb dL_types_223 (by decide) ?_
            refine lv_istore (lv' := [(9, .int 4), (8, .int 0), (3, .int 1), (7, .int 2), (6, .int 4), (5, .int sh61), (4, .int (nI k)), (2, .int (nI N)), (1, .int x), (0, .ref (ad 6 0))]) hx hb dL_types_224 hl (by decide) rfl (fun ls hl => ?_)
            refine lv_iload_n hx hb dL_types_226 rfl (lv_at hl 2 rfl) ?_
            refine lv_if_eq (tgt := 269) hx hb dL_types_227 (by decide) (fun c245 => absurd c245 (by decide)) (fun _ => ?_)
            refine lv_iload hx hb dL_types_230 (lv_at hl 1 rfl) ?_
            refine lv_if_eq (tgt := 244) hx hb dL_types_232 (by decide) (fun _ => ?_) (fun c246 => absurd c246 (by decide))
            refine lv_aload_n hx hb dL_types_244 rfl (lv_at hl 9 rfl) ?_
            refine lv_iload hx hb dL_types_245 (lv_at hl 5 rfl) ?_
            refine lv_iconst (v := 2) hx hb dL_types_247 (by decide) ?_
            refine lv_iconst (v := 2) hx hb dL_types_248 (by decide) ?_
            refine lv_iload hx hb dL_types_249 (lv_at hl 1 rfl) ?_
            refine lv_imul hx hb dL_types_251 ?_
            refine g_te (y := 0) (by decide) ?_
            refine lv_iadd hx hb dL_types_252 ?_
            refine g_te (y := 2) (by decide) ?_
            refine lv_ishr hx hb dL_types_253 ?_
            refine lv_topi (fun sh247 _ => ?_)
            refine lv_iload hx hb dL_types_254 (lv_at hl 0 rfl) ?_
            refine r_low (rest := [.ref (ad 6 0)]) X hI (by decide) hl.1 rfl ⟨rfl, rfl, by decide, by decide⟩ (Nat.le_of_ble_eq_true rfl) ⟨Nat.zero_le _, Nat.zero_le _⟩ dL_types_256 (fun H locs hI w248 w248a w248b => ?_)
            have w248b : w248.toInt < 4 := w248b
            have hn40 := u_dn1 (v := w248) (by omega)
            refine g_callSx (rest := []) (c_L_digits l D tb ad hj P M39 hz39 w248 ⟨w248a, by omega⟩ hL39 (by omega)) gm_L_digits hx hb hml hown hts hC hI qm_L_55 rfl hl.1 rfl ⟨rfl, rfl, by decide, by decide⟩ (Nat.le_of_ble_eq_true rfl) ⟨Nat.zero_le _, Nat.zero_le _⟩ dL_types_259 (fun r40 P40 M40 hq40 H locs hI => ?_)
            obtain ⟨hr40, hP40, hz40, hT40, ln40, hL40, hB40⟩ := hq40
            subst hr40; subst hP40
            refine lv_if_eq (tgt := 269) hx hb dL_types_262 (by decide) (fun c249 => absurd c249 (by decide)) (fun _ => ?_)
            refine lv_iconst (v := 1) hx hb dL_types_265 (by decide) ?_
            refine lv_goto (tgt := 270) hx hb dL_types_266 (by decide) ?_
            refine lv_istore_n (lv' := [(3, .int 1), (9, .int 4), (8, .int 0), (7, .int 2), (6, .int 4), (5, .int sh61), (4, .int (nI k)), (2, .int (nI N)), (1, .int x), (0, .ref (ad 6 0))]) hx hb dL_types_270 rfl hl (by decide) rfl (fun ls hl => ?_)
            refine lv_iinc (v := 1) (lv' := [(8, .int 1), (3, .int 1), (9, .int 4), (7, .int 2), (6, .int 4), (5, .int sh61), (4, .int (nI k)), (2, .int (nI N)), (1, .int x), (0, .ref (ad 6 0))]) hx hb dL_types_271 hl (k := 2) rfl (by decide) (by decide) rfl (fun ls hl => ?_)
            refine lv_goto (tgt := 151) hx hb dL_types_274 (by decide) ?_
            refine lv_iload hx hb dL_types_151 (lv_at hl 0 rfl) ?_
            refine lv_iload hx hb dL_types_153 (lv_at hl 3 rfl) ?_
            refine lv_icmp_ge (tgt := 277) hx hb dL_types_155 (by decide) (fun c250 => absurd c250 (by decide)) (fun _ => ?_)
            refine lv_iload hx hb dL_types_158 (lv_at hl 4 rfl) ?_
            refine lv_iconst (v := 4) hx hb dL_types_160 (by decide) ?_
            refine lv_icmp_ge (tgt := 176) hx hb dL_types_161 (by decide) (fun _ => ?_) (fun c251 => absurd c251 (by decide))
            refine lv_iload hx hb dL_types_176 (lv_at hl 4 rfl) ?_
            refine lv_bipush (v := 6) hx hb dL_types_178 (by decide) ?_
            refine lv_icmp_ge (tgt := 200) hx hb dL_types_180 (by decide) (fun c252 => absurd c252 (by decide)) (fun _ => ?_)
            refine lv_iload hx hb dL_types_183 (lv_at hl 0 rfl) ?_
            refine lv_iconst (v := 1) hx hb dL_types_185 (by decide) ?_
            refine lv_icmp_ne (tgt := 200) hx hb dL_types_186 (by decide) (fun c253 => absurd c253 (by decide)) (fun _ => ?_)
            refine lv_iload hx hb dL_types_189 (lv_at hl 4 rfl) ?_
            refine lv_iconst (v := 3) hx hb dL_types_191 (by decide) ?_
            refine lv_icmp_le (tgt := 200) hx hb dL_types_192 (by decide) (fun c254 => absurd c254 (by decide)) (fun _ => ?_)
            refine lv_bipush (v := 40) hx hb dL_types_195 (by decide) ?_
            refine lv_goto (tgt := 224) hx hb dL_types_197 (by decide) ?_
            refine lv_istore (lv' := [(9, .int 40), (8, .int 1), (3, .int 1), (7, .int 2), (6, .int 4), (5, .int sh61), (4, .int (nI k)), (2, .int (nI N)), (1, .int x), (0, .ref (ad 6 0))]) hx hb dL_types_224 hl (by decide) rfl (fun ls hl => ?_)
            refine lv_iload_n hx hb dL_types_226 rfl (lv_at hl 2 rfl) ?_
            refine lv_if_eq (tgt := 269) hx hb dL_types_227 (by decide) (fun c255 => absurd c255 (by decide)) (fun _ => ?_)
            refine lv_iload hx hb dL_types_230 (lv_at hl 1 rfl) ?_
            refine lv_if_eq (tgt := 244) hx hb dL_types_232 (by decide) (fun c256 => absurd c256 (by decide)) (fun _ => ?_)
            refine lv_aload_n hx hb dL_types_235 rfl (lv_at hl 9 rfl) ?_
            refine lv_bipush (v := 44) hx hb dL_types_236 (by decide) ?_
            refine r_type (rest := []) X hI hz40 hL40 (by omega) (by decide) hl.1 rfl ⟨rfl, rfl, by decide, by decide⟩ (Nat.le_of_ble_eq_true rfl) ⟨Nat.zero_le _, Nat.zero_le _⟩ dL_types_238 (fun M41 hz41 hT41 hL41 H locs hI r41 hr41 => ?_)
            refine lv_if_le (tgt := 269) hx hb dL_types_241 (by decide) (fun c257 => ?_) (fun c257 => ?_)
            · (rw [Int32.le_iff_toInt_le, z_i0] at c257; omega)
            · skip
              refine lv_aload_n hx hb dL_types_244 rfl (lv_at hl 9 rfl) ?_
              refine lv_iload hx hb dL_types_245 (lv_at hl 5 rfl) ?_
              refine lv_iconst (v := 2) hx hb dL_types_247 (by decide) ?_
              refine lv_iconst (v := 2) hx hb dL_types_248 (by decide) ?_
              refine lv_iload hx hb dL_types_249 (lv_at hl 1 rfl) ?_
              refine lv_imul hx hb dL_types_251 ?_
              refine g_te (y := 2) (by decide) ?_
              refine lv_iadd hx hb dL_types_252 ?_
              refine g_te (y := 4) (by decide) ?_
              refine lv_ishr hx hb dL_types_253 ?_
              refine lv_topi (fun sh258 _ => ?_)
              refine lv_iload hx hb dL_types_254 (lv_at hl 0 rfl) ?_
              refine r_low (rest := [.ref (ad 6 0)]) X hI (by decide) hl.1 rfl ⟨rfl, rfl, by decide, by decide⟩ (Nat.le_of_ble_eq_true rfl) ⟨Nat.zero_le _, Nat.zero_le _⟩ dL_types_256 (fun H locs hI w259 w259a w259b => ?_)
              have w259b : w259.toInt < 40 := w259b
              have hn42 := u_dn2 (v := w259) (by omega)
              refine g_callSx (rest := []) (c_L_digits l D tb ad hj P M41 hz41 w259 ⟨w259a, by omega⟩ hL41 (by omega)) gm_L_digits hx hb hml hown hts hC hI qm_L_55 rfl hl.1 rfl ⟨rfl, rfl, by decide, by decide⟩ (Nat.le_of_ble_eq_true rfl) ⟨Nat.zero_le _, Nat.zero_le _⟩ dL_types_259 (fun r42 P42 M42 hq42 H locs hI => ?_)
              obtain ⟨hr42, hP42, hz42, hT42, ln42, hL42, hB42⟩ := hq42
              subst hr42; subst hP42
              refine lv_if_eq (tgt := 269) hx hb dL_types_262 (by decide) (fun c260 => absurd c260 (by decide)) (fun _ => ?_)
              refine lv_iconst (v := 1) hx hb dL_types_265 (by decide) ?_
              refine lv_goto (tgt := 270) hx hb dL_types_266 (by decide) ?_
              refine lv_istore_n (lv' := [(3, .int 1), (9, .int 40), (8, .int 1), (7, .int 2), (6, .int 4), (5, .int sh61), (4, .int (nI k)), (2, .int (nI N)), (1, .int x), (0, .ref (ad 6 0))]) hx hb dL_types_270 rfl hl (by decide) rfl (fun ls hl => ?_)
              refine lv_iinc (v := 2) (lv' := [(8, .int 2), (3, .int 1), (9, .int 40), (7, .int 2), (6, .int 4), (5, .int sh61), (4, .int (nI k)), (2, .int (nI N)), (1, .int x), (0, .ref (ad 6 0))]) hx hb dL_types_271 hl (k := 2) rfl (by decide) (by decide) rfl (fun ls hl => ?_)
              refine lv_goto (tgt := 151) hx hb dL_types_274 (by decide) ?_
              refine lv_iload hx hb dL_types_151 (lv_at hl 0 rfl) ?_
              refine lv_iload hx hb dL_types_153 (lv_at hl 3 rfl) ?_
              refine lv_icmp_ge (tgt := 277) hx hb dL_types_155 (by decide) (fun _ => ?_) (fun c261 => absurd c261 (by decide))
              exact E277 M42 _ hz42 ((((hTk.tr hT39).tr hT40).tr hT41).tr hT42) hL42 (by omega) _ _ _ hI (lv_sub hl [6, 1, 7, 8, 9] rfl)
        · refine g_te (y := 5) rfl ?_
          refine lv_istore (lv' := [(6, .int 5), (5, .int sh61), (4, .int (nI k)), (3, .int 1), (2, .int (nI N)), (1, .int x), (0, .ref (ad 6 0))]) hx hb dL_types_45 hl (by decide) rfl (fun ls hl => ?_)
          refine lv_iload hx hb dL_types_47 (lv_at hl 0 rfl) ?_
          refine lv_iconst (v := 4) hx hb dL_types_49 (by decide) ?_
          refine lv_icmp_ge (tgt := 57) hx hb dL_types_50 (by decide) (fun _ => ?_) (fun c262 => absurd c262 (by decide))
          refine lv_iload hx hb dL_types_57 (lv_at hl 0 rfl) ?_
          refine lv_bipush (v := 6) hx hb dL_types_59 (by decide) ?_
          refine lv_icmp_ge (tgt := 68) hx hb dL_types_61 (by decide) (fun c263 => absurd c263 (by decide)) (fun _ => ?_)
          refine lv_iconst (v := 2) hx hb dL_types_64 (by decide) ?_
          refine lv_goto (tgt := 69) hx hb dL_types_65 (by decide) ?_
          refine lv_istore (lv' := [(7, .int 2), (6, .int 5), (5, .int sh61), (4, .int (nI k)), (3, .int 1), (2, .int (nI N)), (1, .int x), (0, .ref (ad 6 0))]) hx hb dL_types_69 hl (by decide) rfl (fun ls hl => ?_)
          refine lv_iload_n hx hb dL_types_71 rfl (lv_at hl 4 rfl) ?_
          refine lv_if_eq (tgt := 146) hx hb dL_types_72 (by decide) (fun c264 => absurd c264 (by decide)) (fun _ => ?_)
          refine lv_aload_n hx hb dL_types_75 rfl (lv_at hl 7 rfl) ?_
          refine lv_iload hx hb dL_types_76 (lv_at hl 1 rfl) ?_
          refine lv_iconst (v := 2) hx hb dL_types_78 (by decide) ?_
          refine lv_icmp_ge (tgt := 87) hx hb dL_types_79 (by decide) (fun _ => ?_) (fun c265 => absurd c265 (by decide))
          refine lv_iload hx hb dL_types_87 (lv_at hl 1 rfl) ?_
          refine lv_iconst (v := 4) hx hb dL_types_89 (by decide) ?_
          refine lv_icmp_ge (tgt := 98) hx hb dL_types_90 (by decide) (fun _ => ?_) (fun c266 => absurd c266 (by decide))
          refine lv_iload hx hb dL_types_98 (lv_at hl 1 rfl) ?_
          refine lv_bipush (v := 6) hx hb dL_types_100 (by decide) ?_
          refine lv_icmp_ge (tgt := 110) hx hb dL_types_102 (by decide) (fun c267 => absurd c267 (by decide)) (fun _ => ?_)
          refine lv_bipush (v := 112) hx hb dL_types_105 (by decide) ?_
          refine lv_goto (tgt := 136) hx hb dL_types_107 (by decide) ?_
          refine r_type (rest := []) X hI hzk hLk (by omega) (by decide) hl.1 rfl ⟨rfl, rfl, by decide, by decide⟩ (Nat.le_of_ble_eq_true rfl) ⟨Nat.zero_le _, Nat.zero_le _⟩ dL_types_136 (fun M43 hz43 hT43 hL43 H locs hI r43 hr43 => ?_)
          refine lv_if_le (tgt := 146) hx hb dL_types_139 (by decide) (fun c268 => ?_) (fun c268 => ?_)
          · (rw [Int32.le_iff_toInt_le, z_i0] at c268; omega)
          · skip
            refine lv_iconst (v := 1) hx hb dL_types_142 (by decide) ?_
            refine lv_goto (tgt := 147) hx hb dL_types_143 (by decide) ?_
            refine lv_istore_n (lv' := [(3, .int 1), (7, .int 2), (6, .int 5), (5, .int sh61), (4, .int (nI k)), (2, .int (nI N)), (1, .int x), (0, .ref (ad 6 0))]) hx hb dL_types_147 rfl hl (by decide) rfl (fun ls hl => ?_)
            refine lv_iconst (v := 0) hx hb dL_types_148 (by decide) ?_
            refine lv_istore (lv' := [(8, .int 0), (3, .int 1), (7, .int 2), (6, .int 5), (5, .int sh61), (4, .int (nI k)), (2, .int (nI N)), (1, .int x), (0, .ref (ad 6 0))]) hx hb dL_types_149 hl (by decide) rfl (fun ls hl => ?_)
            refine lv_iload hx hb dL_types_151 (lv_at hl 0 rfl) ?_
            refine lv_iload hx hb dL_types_153 (lv_at hl 2 rfl) ?_
            refine lv_icmp_ge (tgt := 277) hx hb dL_types_155 (by decide) (fun c269 => absurd c269 (by decide)) (fun _ => ?_)
            refine lv_iload hx hb dL_types_158 (lv_at hl 3 rfl) ?_
            refine lv_iconst (v := 4) hx hb dL_types_160 (by decide) ?_
            refine lv_icmp_ge (tgt := 176) hx hb dL_types_161 (by decide) (fun _ => ?_) (fun c270 => absurd c270 (by decide))
            refine lv_iload hx hb dL_types_176 (lv_at hl 3 rfl) ?_
            refine lv_bipush (v := 6) hx hb dL_types_178 (by decide) ?_
            refine lv_icmp_ge (tgt := 200) hx hb dL_types_180 (by decide) (fun c271 => absurd c271 (by decide)) (fun _ => ?_)
            refine lv_iload hx hb dL_types_183 (lv_at hl 0 rfl) ?_
            refine lv_iconst (v := 1) hx hb dL_types_185 (by decide) ?_
            refine lv_icmp_ne (tgt := 200) hx hb dL_types_186 (by decide) (fun _ => ?_) (fun c272 => absurd c272 (by decide))
            refine lv_iload hx hb dL_types_200 (lv_at hl 3 rfl) ?_
            refine lv_bipush (v := 7) hx hb dL_types_202 (by decide) ?_
            refine lv_icmp_eq (tgt := 219) hx hb dL_types_204 (by decide) (fun c273 => absurd c273 (by decide)) (fun _ => ?_)
            refine lv_iload hx hb dL_types_207 (lv_at hl 3 rfl) ?_
            refine lv_iconst (v := 2) hx hb dL_types_209 (by decide) ?_
            refine lv_icmp_eq (tgt := 219) hx hb dL_types_210 (by decide) (fun c274 => absurd c274 (by decide)) (fun _ => ?_)
            refine lv_iload hx hb dL_types_213 (lv_at hl 3 rfl) ?_
            refine lv_iconst (v := 3) hx hb dL_types_215 (by decide) ?_
            refine lv_icmp_ne (tgt := 223) hx hb dL_types_216 (by decide) (fun _ => ?_) (fun c275 => absurd c275 (by decide))
            refine lv_iconst (v := 4) hx hb dL_types_223 (by decide) ?_
            refine lv_istore (lv' := [(9, .int 4), (8, .int 0), (3, .int 1), (7, .int 2), (6, .int 5), (5, .int sh61), (4, .int (nI k)), (2, .int (nI N)), (1, .int x), (0, .ref (ad 6 0))]) hx hb dL_types_224 hl (by decide) rfl (fun ls hl => ?_)
            refine lv_iload_n hx hb dL_types_226 rfl (lv_at hl 2 rfl) ?_
            refine lv_if_eq (tgt := 269) hx hb dL_types_227 (by decide) (fun c276 => absurd c276 (by decide)) (fun _ => ?_)
            refine lv_iload hx hb dL_types_230 (lv_at hl 1 rfl) ?_
            refine lv_if_eq (tgt := 244) hx hb dL_types_232 (by decide) (fun _ => ?_) (fun c277 => absurd c277 (by decide))
            refine lv_aload_n hx hb dL_types_244 rfl (lv_at hl 9 rfl) ?_
            refine lv_iload hx hb dL_types_245 (lv_at hl 5 rfl) ?_
            refine lv_iconst (v := 2) hx hb dL_types_247 (by decide) ?_
            refine lv_iconst (v := 2) hx hb dL_types_248 (by decide) ?_
            refine lv_iload hx hb dL_types_249 (lv_at hl 1 rfl) ?_
            refine lv_imul hx hb dL_types_251 ?_
            refine g_te (y := 0) (by decide) ?_
            refine lv_iadd hx hb dL_types_252 ?_
            refine g_te (y := 2) (by decide) ?_
            refine lv_ishr hx hb dL_types_253 ?_
            refine lv_topi (fun sh278 _ => ?_)
            refine lv_iload hx hb dL_types_254 (lv_at hl 0 rfl) ?_
            refine r_low (rest := [.ref (ad 6 0)]) X hI (by decide) hl.1 rfl ⟨rfl, rfl, by decide, by decide⟩ (Nat.le_of_ble_eq_true rfl) ⟨Nat.zero_le _, Nat.zero_le _⟩ dL_types_256 (fun H locs hI w279 w279a w279b => ?_)
            have w279b : w279.toInt < 4 := w279b
            have hn44 := u_dn1 (v := w279) (by omega)
            refine g_callSx (rest := []) (c_L_digits l D tb ad hj P M43 hz43 w279 ⟨w279a, by omega⟩ hL43 (by omega)) gm_L_digits hx hb hml hown hts hC hI qm_L_55 rfl hl.1 rfl ⟨rfl, rfl, by decide, by decide⟩ (Nat.le_of_ble_eq_true rfl) ⟨Nat.zero_le _, Nat.zero_le _⟩ dL_types_259 (fun r44 P44 M44 hq44 H locs hI => ?_)
            obtain ⟨hr44, hP44, hz44, hT44, ln44, hL44, hB44⟩ := hq44
            subst hr44; subst hP44
            refine lv_if_eq (tgt := 269) hx hb dL_types_262 (by decide) (fun c280 => absurd c280 (by decide)) (fun _ => ?_)
            refine lv_iconst (v := 1) hx hb dL_types_265 (by decide) ?_
            refine lv_goto (tgt := 270) hx hb dL_types_266 (by decide) ?_
            refine lv_istore_n (lv' := [(3, .int 1), (9, .int 4), (8, .int 0), (7, .int 2), (6, .int 5), (5, .int sh61), (4, .int (nI k)), (2, .int (nI N)), (1, .int x), (0, .ref (ad 6 0))]) hx hb dL_types_270 rfl hl (by decide) rfl (fun ls hl => ?_)
            refine lv_iinc (v := 1) (lv' := [(8, .int 1), (3, .int 1), (9, .int 4), (7, .int 2), (6, .int 5), (5, .int sh61), (4, .int (nI k)), (2, .int (nI N)), (1, .int x), (0, .ref (ad 6 0))]) hx hb dL_types_271 hl (k := 2) rfl (by decide) (by decide) rfl (fun ls hl => ?_)
            refine lv_goto (tgt := 151) hx hb dL_types_274 (by decide) ?_
            refine lv_iload hx hb dL_types_151 (lv_at hl 0 rfl) ?_
            refine lv_iload hx hb dL_types_153 (lv_at hl 3 rfl) ?_
            refine lv_icmp_ge (tgt := 277) hx hb dL_types_155 (by decide) (fun c281 => absurd c281 (by decide)) (fun _ => ?_)
            refine lv_iload hx hb dL_types_158 (lv_at hl 4 rfl) ?_
            refine lv_iconst (v := 4) hx hb dL_types_160 (by decide) ?_
            refine lv_icmp_ge (tgt := 176) hx hb dL_types_161 (by decide) (fun _ => ?_) (fun c282 => absurd c282 (by decide))
            refine lv_iload hx hb dL_types_176 (lv_at hl 4 rfl) ?_
            refine lv_bipush (v := 6) hx hb dL_types_178 (by decide) ?_
            refine lv_icmp_ge (tgt := 200) hx hb dL_types_180 (by decide) (fun c283 => absurd c283 (by decide)) (fun _ => ?_)
            refine lv_iload hx hb dL_types_183 (lv_at hl 0 rfl) ?_
            refine lv_iconst (v := 1) hx hb dL_types_185 (by decide) ?_
            refine lv_icmp_ne (tgt := 200) hx hb dL_types_186 (by decide) (fun c284 => absurd c284 (by decide)) (fun _ => ?_)
            refine lv_iload hx hb dL_types_189 (lv_at hl 4 rfl) ?_
            refine lv_iconst (v := 3) hx hb dL_types_191 (by decide) ?_
            refine lv_icmp_le (tgt := 200) hx hb dL_types_192 (by decide) (fun c285 => absurd c285 (by decide)) (fun _ => ?_)
            refine lv_bipush (v := 40) hx hb dL_types_195 (by decide) ?_
            refine lv_goto (tgt := 224) hx hb dL_types_197 (by decide) ?_
            refine lv_istore (lv' := [(9, .int 40), (8, .int 1), (3, .int 1), (7, .int 2), (6, .int 5), (5, .int sh61), (4, .int (nI k)), (2, .int (nI N)), (1, .int x), (0, .ref (ad 6 0))]) hx hb dL_types_224 hl (by decide) rfl (fun ls hl => ?_)
            refine lv_iload_n hx hb dL_types_226 rfl (lv_at hl 2 rfl) ?_
            refine lv_if_eq (tgt := 269) hx hb dL_types_227 (by decide) (fun c286 => absurd c286 (by decide)) (fun _ => ?_)
            refine lv_iload hx hb dL_types_230 (lv_at hl 1 rfl) ?_
            refine lv_if_eq (tgt := 244) hx hb dL_types_232 (by decide) (fun c287 => absurd c287 (by decide)) (fun _ => ?_)
            refine lv_aload_n hx hb dL_types_235 rfl (lv_at hl 9 rfl) ?_
            refine lv_bipush (v := 44) hx hb dL_types_236 (by decide) ?_
            refine r_type (rest := []) X hI hz44 hL44 (by omega) (by decide) hl.1 rfl ⟨rfl, rfl, by decide, by decide⟩ (Nat.le_of_ble_eq_true rfl) ⟨Nat.zero_le _, Nat.zero_le _⟩ dL_types_238 (fun M45 hz45 hT45 hL45 H locs hI r45 hr45 => ?_)
            refine lv_if_le (tgt := 269) hx hb dL_types_241 (by decide) (fun c288 => ?_) (fun c288 => ?_)
            · (rw [Int32.le_iff_toInt_le, z_i0] at c288; omega)
            · skip
              refine lv_aload_n hx hb dL_types_244 rfl (lv_at hl 9 rfl) ?_
              refine lv_iload hx hb dL_types_245 (lv_at hl 5 rfl) ?_
              refine lv_iconst (v := 2) hx hb dL_types_247 (by decide) ?_
              refine lv_iconst (v := 2) hx hb dL_types_248 (by decide) ?_
              refine lv_iload hx hb dL_types_249 (lv_at hl 1 rfl) ?_
              refine lv_imul hx hb dL_types_251 ?_
              refine g_te (y := 2) (by decide) ?_
              refine lv_iadd hx hb dL_types_252 ?_
              refine g_te (y := 4) (by decide) ?_
              refine lv_ishr hx hb dL_types_253 ?_
              refine lv_topi (fun sh289 _ => ?_)
              refine lv_iload hx hb dL_types_254 (lv_at hl 0 rfl) ?_
              refine r_low (rest := [.ref (ad 6 0)]) X hI (by decide) hl.1 rfl ⟨rfl, rfl, by decide, by decide⟩ (Nat.le_of_ble_eq_true rfl) ⟨Nat.zero_le _, Nat.zero_le _⟩ dL_types_256 (fun H locs hI w290 w290a w290b => ?_)
              have w290b : w290.toInt < 40 := w290b
              have hn46 := u_dn2 (v := w290) (by omega)
              refine g_callSx (rest := []) (c_L_digits l D tb ad hj P M45 hz45 w290 ⟨w290a, by omega⟩ hL45 (by omega)) gm_L_digits hx hb hml hown hts hC hI qm_L_55 rfl hl.1 rfl ⟨rfl, rfl, by decide, by decide⟩ (Nat.le_of_ble_eq_true rfl) ⟨Nat.zero_le _, Nat.zero_le _⟩ dL_types_259 (fun r46 P46 M46 hq46 H locs hI => ?_)
              obtain ⟨hr46, hP46, hz46, hT46, ln46, hL46, hB46⟩ := hq46
              subst hr46; subst hP46
              refine lv_if_eq (tgt := 269) hx hb dL_types_262 (by decide) (fun c291 => absurd c291 (by decide)) (fun _ => ?_)
              refine lv_iconst (v := 1) hx hb dL_types_265 (by decide) ?_
              refine lv_goto (tgt := 270) hx hb dL_types_266 (by decide) ?_
              refine lv_istore_n (lv' := [(3, .int 1), (9, .int 40), (8, .int 1), (7, .int 2), (6, .int 5), (5, .int sh61), (4, .int (nI k)), (2, .int (nI N)), (1, .int x), (0, .ref (ad 6 0))]) hx hb dL_types_270 rfl hl (by decide) rfl (fun ls hl => ?_)
              refine lv_iinc (v := 2) (lv' := [(8, .int 2), (3, .int 1), (9, .int 40), (7, .int 2), (6, .int 5), (5, .int sh61), (4, .int (nI k)), (2, .int (nI N)), (1, .int x), (0, .ref (ad 6 0))]) hx hb dL_types_271 hl (k := 2) rfl (by decide) (by decide) rfl (fun ls hl => ?_)
              refine lv_goto (tgt := 151) hx hb dL_types_274 (by decide) ?_
              refine lv_iload hx hb dL_types_151 (lv_at hl 0 rfl) ?_
              refine lv_iload hx hb dL_types_153 (lv_at hl 3 rfl) ?_
              refine lv_icmp_ge (tgt := 277) hx hb dL_types_155 (by decide) (fun _ => ?_) (fun c292 => absurd c292 (by decide))
              exact E277 M46 _ hz46 ((((hTk.tr hT43).tr hT44).tr hT45).tr hT46) hL46 (by omega) _ _ _ hI (lv_sub hl [6, 1, 7, 8, 9] rfl)
        · refine g_te (y := 6) rfl ?_
          refine lv_istore (lv' := [(6, .int 6), (5, .int sh61), (4, .int (nI k)), (3, .int 1), (2, .int (nI N)), (1, .int x), (0, .ref (ad 6 0))]) hx hb dL_types_45 hl (by decide) rfl (fun ls hl => ?_)
          refine lv_iload hx hb dL_types_47 (lv_at hl 0 rfl) ?_
          refine lv_iconst (v := 4) hx hb dL_types_49 (by decide) ?_
          refine lv_icmp_ge (tgt := 57) hx hb dL_types_50 (by decide) (fun _ => ?_) (fun c293 => absurd c293 (by decide))
          refine lv_iload hx hb dL_types_57 (lv_at hl 0 rfl) ?_
          refine lv_bipush (v := 6) hx hb dL_types_59 (by decide) ?_
          refine lv_icmp_ge (tgt := 68) hx hb dL_types_61 (by decide) (fun _ => ?_) (fun c294 => absurd c294 (by decide))
          refine lv_iconst (v := 1) hx hb dL_types_68 (by decide) ?_
          refine lv_istore (lv' := [(7, .int 1), (6, .int 6), (5, .int sh61), (4, .int (nI k)), (3, .int 1), (2, .int (nI N)), (1, .int x), (0, .ref (ad 6 0))]) hx hb dL_types_69 hl (by decide) rfl (fun ls hl => ?_)
          refine lv_iload_n hx hb dL_types_71 rfl (lv_at hl 4 rfl) ?_
          refine lv_if_eq (tgt := 146) hx hb dL_types_72 (by decide) (fun c295 => absurd c295 (by decide)) (fun _ => ?_)
          refine lv_aload_n hx hb dL_types_75 rfl (lv_at hl 7 rfl) ?_
          refine lv_iload hx hb dL_types_76 (lv_at hl 1 rfl) ?_
          refine lv_iconst (v := 2) hx hb dL_types_78 (by decide) ?_
          refine lv_icmp_ge (tgt := 87) hx hb dL_types_79 (by decide) (fun _ => ?_) (fun c296 => absurd c296 (by decide))
          refine lv_iload hx hb dL_types_87 (lv_at hl 1 rfl) ?_
          refine lv_iconst (v := 4) hx hb dL_types_89 (by decide) ?_
          refine lv_icmp_ge (tgt := 98) hx hb dL_types_90 (by decide) (fun _ => ?_) (fun c297 => absurd c297 (by decide))
          refine lv_iload hx hb dL_types_98 (lv_at hl 1 rfl) ?_
          refine lv_bipush (v := 6) hx hb dL_types_100 (by decide) ?_
          refine lv_icmp_ge (tgt := 110) hx hb dL_types_102 (by decide) (fun _ => ?_) (fun c298 => absurd c298 (by decide))
          refine lv_iload hx hb dL_types_110 (lv_at hl 1 rfl) ?_
          refine lv_bipush (v := 6) hx hb dL_types_112 (by decide) ?_
          refine lv_icmp_ne (tgt := 122) hx hb dL_types_114 (by decide) (fun c299 => absurd c299 (by decide)) (fun _ => ?_)
          refine lv_bipush (v := 99) hx hb dL_types_117 (by decide) ?_
          refine lv_goto (tgt := 136) hx hb dL_types_119 (by decide) ?_
          refine r_type (rest := []) X hI hzk hLk (by omega) (by decide) hl.1 rfl ⟨rfl, rfl, by decide, by decide⟩ (Nat.le_of_ble_eq_true rfl) ⟨Nat.zero_le _, Nat.zero_le _⟩ dL_types_136 (fun M47 hz47 hT47 hL47 H locs hI r47 hr47 => ?_)
          refine lv_if_le (tgt := 146) hx hb dL_types_139 (by decide) (fun c300 => ?_) (fun c300 => ?_)
          · (rw [Int32.le_iff_toInt_le, z_i0] at c300; omega)
          · skip
            refine lv_iconst (v := 1) hx hb dL_types_142 (by decide) ?_
            refine lv_goto (tgt := 147) hx hb dL_types_143 (by decide) ?_
            refine lv_istore_n (lv' := [(3, .int 1), (7, .int 1), (6, .int 6), (5, .int sh61), (4, .int (nI k)), (2, .int (nI N)), (1, .int x), (0, .ref (ad 6 0))]) hx hb dL_types_147 rfl hl (by decide) rfl (fun ls hl => ?_)
            refine lv_iconst (v := 0) hx hb dL_types_148 (by decide) ?_
            refine lv_istore (lv' := [(8, .int 0), (3, .int 1), (7, .int 1), (6, .int 6), (5, .int sh61), (4, .int (nI k)), (2, .int (nI N)), (1, .int x), (0, .ref (ad 6 0))]) hx hb dL_types_149 hl (by decide) rfl (fun ls hl => ?_)
            refine lv_iload hx hb dL_types_151 (lv_at hl 0 rfl) ?_
            refine lv_iload hx hb dL_types_153 (lv_at hl 2 rfl) ?_
            refine lv_icmp_ge (tgt := 277) hx hb dL_types_155 (by decide) (fun c301 => absurd c301 (by decide)) (fun _ => ?_)
            refine lv_iload hx hb dL_types_158 (lv_at hl 3 rfl) ?_
            refine lv_iconst (v := 4) hx hb dL_types_160 (by decide) ?_
            refine lv_icmp_ge (tgt := 176) hx hb dL_types_161 (by decide) (fun _ => ?_) (fun c302 => absurd c302 (by decide))
            refine lv_iload hx hb dL_types_176 (lv_at hl 3 rfl) ?_
            refine lv_bipush (v := 6) hx hb dL_types_178 (by decide) ?_
            refine lv_icmp_ge (tgt := 200) hx hb dL_types_180 (by decide) (fun _ => ?_) (fun c303 => absurd c303 (by decide))
            refine lv_iload hx hb dL_types_200 (lv_at hl 3 rfl) ?_
            refine lv_bipush (v := 7) hx hb dL_types_202 (by decide) ?_
            refine lv_icmp_eq (tgt := 219) hx hb dL_types_204 (by decide) (fun c304 => absurd c304 (by decide)) (fun _ => ?_)
            refine lv_iload hx hb dL_types_207 (lv_at hl 3 rfl) ?_
            refine lv_iconst (v := 2) hx hb dL_types_209 (by decide) ?_
            refine lv_icmp_eq (tgt := 219) hx hb dL_types_210 (by decide) (fun c305 => absurd c305 (by decide)) (fun _ => ?_)
            refine lv_iload hx hb dL_types_213 (lv_at hl 3 rfl) ?_
            refine lv_iconst (v := 3) hx hb dL_types_215 (by decide) ?_
            refine lv_icmp_ne (tgt := 223) hx hb dL_types_216 (by decide) (fun _ => ?_) (fun c306 => absurd c306 (by decide))
            refine lv_iconst (v := 4) hx hb dL_types_223 (by decide) ?_
            refine lv_istore (lv' := [(9, .int 4), (8, .int 0), (3, .int 1), (7, .int 1), (6, .int 6), (5, .int sh61), (4, .int (nI k)), (2, .int (nI N)), (1, .int x), (0, .ref (ad 6 0))]) hx hb dL_types_224 hl (by decide) rfl (fun ls hl => ?_)
            refine lv_iload_n hx hb dL_types_226 rfl (lv_at hl 2 rfl) ?_
            refine lv_if_eq (tgt := 269) hx hb dL_types_227 (by decide) (fun c307 => absurd c307 (by decide)) (fun _ => ?_)
            refine lv_iload hx hb dL_types_230 (lv_at hl 1 rfl) ?_
            refine lv_if_eq (tgt := 244) hx hb dL_types_232 (by decide) (fun _ => ?_) (fun c308 => absurd c308 (by decide))
            refine lv_aload_n hx hb dL_types_244 rfl (lv_at hl 9 rfl) ?_
            refine lv_iload hx hb dL_types_245 (lv_at hl 5 rfl) ?_
            refine lv_iconst (v := 2) hx hb dL_types_247 (by decide) ?_
            refine lv_iconst (v := 2) hx hb dL_types_248 (by decide) ?_
            refine lv_iload hx hb dL_types_249 (lv_at hl 1 rfl) ?_
            refine lv_imul hx hb dL_types_251 ?_
            refine g_te (y := 0) (by decide) ?_
            refine lv_iadd hx hb dL_types_252 ?_
            refine g_te (y := 2) (by decide) ?_
            refine lv_ishr hx hb dL_types_253 ?_
            refine lv_topi (fun sh309 _ => ?_)
            refine lv_iload hx hb dL_types_254 (lv_at hl 0 rfl) ?_
            refine r_low (rest := [.ref (ad 6 0)]) X hI (by decide) hl.1 rfl ⟨rfl, rfl, by decide, by decide⟩ (Nat.le_of_ble_eq_true rfl) ⟨Nat.zero_le _, Nat.zero_le _⟩ dL_types_256 (fun H locs hI w310 w310a w310b => ?_)
            have w310b : w310.toInt < 4 := w310b
            have hn48 := u_dn1 (v := w310) (by omega)
            refine g_callSx (rest := []) (c_L_digits l D tb ad hj P M47 hz47 w310 ⟨w310a, by omega⟩ hL47 (by omega)) gm_L_digits hx hb hml hown hts hC hI qm_L_55 rfl hl.1 rfl ⟨rfl, rfl, by decide, by decide⟩ (Nat.le_of_ble_eq_true rfl) ⟨Nat.zero_le _, Nat.zero_le _⟩ dL_types_259 (fun r48 P48 M48 hq48 H locs hI => ?_)
            obtain ⟨hr48, hP48, hz48, hT48, ln48, hL48, hB48⟩ := hq48
            subst hr48; subst hP48
            refine lv_if_eq (tgt := 269) hx hb dL_types_262 (by decide) (fun c311 => absurd c311 (by decide)) (fun _ => ?_)
            refine lv_iconst (v := 1) hx hb dL_types_265 (by decide) ?_
            refine lv_goto (tgt := 270) hx hb dL_types_266 (by decide) ?_
            refine lv_istore_n (lv' := [(3, .int 1), (9, .int 4), (8, .int 0), (7, .int 1), (6, .int 6), (5, .int sh61), (4, .int (nI k)), (2, .int (nI N)), (1, .int x), (0, .ref (ad 6 0))]) hx hb dL_types_270 rfl hl (by decide) rfl (fun ls hl => ?_)
            refine lv_iinc (v := 1) (lv' := [(8, .int 1), (3, .int 1), (9, .int 4), (7, .int 1), (6, .int 6), (5, .int sh61), (4, .int (nI k)), (2, .int (nI N)), (1, .int x), (0, .ref (ad 6 0))]) hx hb dL_types_271 hl (k := 2) rfl (by decide) (by decide) rfl (fun ls hl => ?_)
            refine lv_goto (tgt := 151) hx hb dL_types_274 (by decide) ?_
            refine lv_iload hx hb dL_types_151 (lv_at hl 0 rfl) ?_
            refine lv_iload hx hb dL_types_153 (lv_at hl 3 rfl) ?_
            refine lv_icmp_ge (tgt := 277) hx hb dL_types_155 (by decide) (fun _ => ?_) (fun c312 => absurd c312 (by decide))
            exact E277 M48 _ hz48 ((hTk.tr hT47).tr hT48) hL48 (by omega) _ _ _ hI (lv_sub hl [6, 1, 7, 8, 9] rfl)
        · refine g_te (y := 7) rfl ?_
          refine lv_istore (lv' := [(6, .int 7), (5, .int sh61), (4, .int (nI k)), (3, .int 1), (2, .int (nI N)), (1, .int x), (0, .ref (ad 6 0))]) hx hb dL_types_45 hl (by decide) rfl (fun ls hl => ?_)
          refine lv_iload hx hb dL_types_47 (lv_at hl 0 rfl) ?_
          refine lv_iconst (v := 4) hx hb dL_types_49 (by decide) ?_
          refine lv_icmp_ge (tgt := 57) hx hb dL_types_50 (by decide) (fun _ => ?_) (fun c313 => absurd c313 (by decide))
          refine lv_iload hx hb dL_types_57 (lv_at hl 0 rfl) ?_
          refine lv_bipush (v := 6) hx hb dL_types_59 (by decide) ?_
          refine lv_icmp_ge (tgt := 68) hx hb dL_types_61 (by decide) (fun _ => ?_) (fun c314 => absurd c314 (by decide))
          refine lv_iconst (v := 1) hx hb dL_types_68 (by decide) ?_
          refine lv_istore (lv' := [(7, .int 1), (6, .int 7), (5, .int sh61), (4, .int (nI k)), (3, .int 1), (2, .int (nI N)), (1, .int x), (0, .ref (ad 6 0))]) hx hb dL_types_69 hl (by decide) rfl (fun ls hl => ?_)
          refine lv_iload_n hx hb dL_types_71 rfl (lv_at hl 4 rfl) ?_
          refine lv_if_eq (tgt := 146) hx hb dL_types_72 (by decide) (fun c315 => absurd c315 (by decide)) (fun _ => ?_)
          refine lv_aload_n hx hb dL_types_75 rfl (lv_at hl 7 rfl) ?_
          refine lv_iload hx hb dL_types_76 (lv_at hl 1 rfl) ?_
          refine lv_iconst (v := 2) hx hb dL_types_78 (by decide) ?_
          refine lv_icmp_ge (tgt := 87) hx hb dL_types_79 (by decide) (fun _ => ?_) (fun c316 => absurd c316 (by decide))
          refine lv_iload hx hb dL_types_87 (lv_at hl 1 rfl) ?_
          refine lv_iconst (v := 4) hx hb dL_types_89 (by decide) ?_
          refine lv_icmp_ge (tgt := 98) hx hb dL_types_90 (by decide) (fun _ => ?_) (fun c317 => absurd c317 (by decide))
          refine lv_iload hx hb dL_types_98 (lv_at hl 1 rfl) ?_
          refine lv_bipush (v := 6) hx hb dL_types_100 (by decide) ?_
          refine lv_icmp_ge (tgt := 110) hx hb dL_types_102 (by decide) (fun _ => ?_) (fun c318 => absurd c318 (by decide))
          refine lv_iload hx hb dL_types_110 (lv_at hl 1 rfl) ?_
          refine lv_bipush (v := 6) hx hb dL_types_112 (by decide) ?_
          refine lv_icmp_ne (tgt := 122) hx hb dL_types_114 (by decide) (fun _ => ?_) (fun c319 => absurd c319 (by decide))
          refine lv_iload hx hb dL_types_122 (lv_at hl 1 rfl) ?_
          refine lv_bipush (v := 7) hx hb dL_types_124 (by decide) ?_
          refine lv_icmp_ne (tgt := 134) hx hb dL_types_126 (by decide) (fun c320 => absurd c320 (by decide)) (fun _ => ?_)
          refine lv_bipush (v := 100) hx hb dL_types_129 (by decide) ?_
          refine lv_goto (tgt := 136) hx hb dL_types_131 (by decide) ?_
          refine r_type (rest := []) X hI hzk hLk (by omega) (by decide) hl.1 rfl ⟨rfl, rfl, by decide, by decide⟩ (Nat.le_of_ble_eq_true rfl) ⟨Nat.zero_le _, Nat.zero_le _⟩ dL_types_136 (fun M49 hz49 hT49 hL49 H locs hI r49 hr49 => ?_)
          refine lv_if_le (tgt := 146) hx hb dL_types_139 (by decide) (fun c321 => ?_) (fun c321 => ?_)
          · (rw [Int32.le_iff_toInt_le, z_i0] at c321; omega)
          · skip
            refine lv_iconst (v := 1) hx hb dL_types_142 (by decide) ?_
            refine lv_goto (tgt := 147) hx hb dL_types_143 (by decide) ?_
            refine lv_istore_n (lv' := [(3, .int 1), (7, .int 1), (6, .int 7), (5, .int sh61), (4, .int (nI k)), (2, .int (nI N)), (1, .int x), (0, .ref (ad 6 0))]) hx hb dL_types_147 rfl hl (by decide) rfl (fun ls hl => ?_)
            refine lv_iconst (v := 0) hx hb dL_types_148 (by decide) ?_
            refine lv_istore (lv' := [(8, .int 0), (3, .int 1), (7, .int 1), (6, .int 7), (5, .int sh61), (4, .int (nI k)), (2, .int (nI N)), (1, .int x), (0, .ref (ad 6 0))]) hx hb dL_types_149 hl (by decide) rfl (fun ls hl => ?_)
            refine lv_iload hx hb dL_types_151 (lv_at hl 0 rfl) ?_
            refine lv_iload hx hb dL_types_153 (lv_at hl 2 rfl) ?_
            refine lv_icmp_ge (tgt := 277) hx hb dL_types_155 (by decide) (fun c322 => absurd c322 (by decide)) (fun _ => ?_)
            refine lv_iload hx hb dL_types_158 (lv_at hl 3 rfl) ?_
            refine lv_iconst (v := 4) hx hb dL_types_160 (by decide) ?_
            refine lv_icmp_ge (tgt := 176) hx hb dL_types_161 (by decide) (fun _ => ?_) (fun c323 => absurd c323 (by decide))
            refine lv_iload hx hb dL_types_176 (lv_at hl 3 rfl) ?_
            refine lv_bipush (v := 6) hx hb dL_types_178 (by decide) ?_
            refine lv_icmp_ge (tgt := 200) hx hb dL_types_180 (by decide) (fun _ => ?_) (fun c324 => absurd c324 (by decide))
            refine lv_iload hx hb dL_types_200 (lv_at hl 3 rfl) ?_
            refine lv_bipush (v := 7) hx hb dL_types_202 (by decide) ?_
            refine lv_icmp_eq (tgt := 219) hx hb dL_types_204 (by decide) (fun _ => ?_) (fun c325 => absurd c325 (by decide))
            refine lv_iconst (v := 5) hx hb dL_types_219 (by decide) ?_
            refine lv_goto (tgt := 224) hx hb dL_types_220 (by decide) ?_
            refine lv_istore (lv' := [(9, .int 5), (8, .int 0), (3, .int 1), (7, .int 1), (6, .int 7), (5, .int sh61), (4, .int (nI k)), (2, .int (nI N)), (1, .int x), (0, .ref (ad 6 0))]) hx hb dL_types_224 hl (by decide) rfl (fun ls hl => ?_)
            refine lv_iload_n hx hb dL_types_226 rfl (lv_at hl 2 rfl) ?_
            refine lv_if_eq (tgt := 269) hx hb dL_types_227 (by decide) (fun c326 => absurd c326 (by decide)) (fun _ => ?_)
            refine lv_iload hx hb dL_types_230 (lv_at hl 1 rfl) ?_
            refine lv_if_eq (tgt := 244) hx hb dL_types_232 (by decide) (fun _ => ?_) (fun c327 => absurd c327 (by decide))
            refine lv_aload_n hx hb dL_types_244 rfl (lv_at hl 9 rfl) ?_
            refine lv_iload hx hb dL_types_245 (lv_at hl 5 rfl) ?_
            refine lv_iconst (v := 2) hx hb dL_types_247 (by decide) ?_
            refine lv_iconst (v := 2) hx hb dL_types_248 (by decide) ?_
            refine lv_iload hx hb dL_types_249 (lv_at hl 1 rfl) ?_
            refine lv_imul hx hb dL_types_251 ?_
            refine g_te (y := 0) (by decide) ?_
            refine lv_iadd hx hb dL_types_252 ?_
            refine g_te (y := 2) (by decide) ?_
            refine lv_ishr hx hb dL_types_253 ?_
            refine lv_topi (fun sh328 _ => ?_)
            refine lv_iload hx hb dL_types_254 (lv_at hl 0 rfl) ?_
            refine r_low (rest := [.ref (ad 6 0)]) X hI (by decide) hl.1 rfl ⟨rfl, rfl, by decide, by decide⟩ (Nat.le_of_ble_eq_true rfl) ⟨Nat.zero_le _, Nat.zero_le _⟩ dL_types_256 (fun H locs hI w329 w329a w329b => ?_)
            have w329b : w329.toInt < 5 := w329b
            have hn50 := u_dn1 (v := w329) (by omega)
            refine g_callSx (rest := []) (c_L_digits l D tb ad hj P M49 hz49 w329 ⟨w329a, by omega⟩ hL49 (by omega)) gm_L_digits hx hb hml hown hts hC hI qm_L_55 rfl hl.1 rfl ⟨rfl, rfl, by decide, by decide⟩ (Nat.le_of_ble_eq_true rfl) ⟨Nat.zero_le _, Nat.zero_le _⟩ dL_types_259 (fun r50 P50 M50 hq50 H locs hI => ?_)
            obtain ⟨hr50, hP50, hz50, hT50, ln50, hL50, hB50⟩ := hq50
            subst hr50; subst hP50
            refine lv_if_eq (tgt := 269) hx hb dL_types_262 (by decide) (fun c330 => absurd c330 (by decide)) (fun _ => ?_)
            refine lv_iconst (v := 1) hx hb dL_types_265 (by decide) ?_
            refine lv_goto (tgt := 270) hx hb dL_types_266 (by decide) ?_
            refine lv_istore_n (lv' := [(3, .int 1), (9, .int 5), (8, .int 0), (7, .int 1), (6, .int 7), (5, .int sh61), (4, .int (nI k)), (2, .int (nI N)), (1, .int x), (0, .ref (ad 6 0))]) hx hb dL_types_270 rfl hl (by decide) rfl (fun ls hl => ?_)
            refine lv_iinc (v := 1) (lv' := [(8, .int 1), (3, .int 1), (9, .int 5), (7, .int 1), (6, .int 7), (5, .int sh61), (4, .int (nI k)), (2, .int (nI N)), (1, .int x), (0, .ref (ad 6 0))]) hx hb dL_types_271 hl (k := 2) rfl (by decide) (by decide) rfl (fun ls hl => ?_)
            refine lv_goto (tgt := 151) hx hb dL_types_274 (by decide) ?_
            refine lv_iload hx hb dL_types_151 (lv_at hl 0 rfl) ?_
            refine lv_iload hx hb dL_types_153 (lv_at hl 3 rfl) ?_
            refine lv_icmp_ge (tgt := 277) hx hb dL_types_155 (by decide) (fun _ => ?_) (fun c331 => absurd c331 (by decide))
            exact E277 M50 _ hz50 ((hTk.tr hT49).tr hT50) hL50 (by omega) _ _ _ hI (lv_sub hl [6, 1, 7, 8, 9] rfl)
        · refine g_te (y := 8) rfl ?_
          refine lv_istore (lv' := [(6, .int 8), (5, .int sh61), (4, .int (nI k)), (3, .int 1), (2, .int (nI N)), (1, .int x), (0, .ref (ad 6 0))]) hx hb dL_types_45 hl (by decide) rfl (fun ls hl => ?_)
          refine lv_iload hx hb dL_types_47 (lv_at hl 0 rfl) ?_
          refine lv_iconst (v := 4) hx hb dL_types_49 (by decide) ?_
          refine lv_icmp_ge (tgt := 57) hx hb dL_types_50 (by decide) (fun _ => ?_) (fun c332 => absurd c332 (by decide))
          refine lv_iload hx hb dL_types_57 (lv_at hl 0 rfl) ?_
          refine lv_bipush (v := 6) hx hb dL_types_59 (by decide) ?_
          refine lv_icmp_ge (tgt := 68) hx hb dL_types_61 (by decide) (fun _ => ?_) (fun c333 => absurd c333 (by decide))
          refine lv_iconst (v := 1) hx hb dL_types_68 (by decide) ?_
          refine lv_istore (lv' := [(7, .int 1), (6, .int 8), (5, .int sh61), (4, .int (nI k)), (3, .int 1), (2, .int (nI N)), (1, .int x), (0, .ref (ad 6 0))]) hx hb dL_types_69 hl (by decide) rfl (fun ls hl => ?_)
          refine lv_iload_n hx hb dL_types_71 rfl (lv_at hl 4 rfl) ?_
          refine lv_if_eq (tgt := 146) hx hb dL_types_72 (by decide) (fun c334 => absurd c334 (by decide)) (fun _ => ?_)
          refine lv_aload_n hx hb dL_types_75 rfl (lv_at hl 7 rfl) ?_
          refine lv_iload hx hb dL_types_76 (lv_at hl 1 rfl) ?_
          refine lv_iconst (v := 2) hx hb dL_types_78 (by decide) ?_
          refine lv_icmp_ge (tgt := 87) hx hb dL_types_79 (by decide) (fun _ => ?_) (fun c335 => absurd c335 (by decide))
          refine lv_iload hx hb dL_types_87 (lv_at hl 1 rfl) ?_
          refine lv_iconst (v := 4) hx hb dL_types_89 (by decide) ?_
          refine lv_icmp_ge (tgt := 98) hx hb dL_types_90 (by decide) (fun _ => ?_) (fun c336 => absurd c336 (by decide))
          refine lv_iload hx hb dL_types_98 (lv_at hl 1 rfl) ?_
          refine lv_bipush (v := 6) hx hb dL_types_100 (by decide) ?_
          refine lv_icmp_ge (tgt := 110) hx hb dL_types_102 (by decide) (fun _ => ?_) (fun c337 => absurd c337 (by decide))
          refine lv_iload hx hb dL_types_110 (lv_at hl 1 rfl) ?_
          refine lv_bipush (v := 6) hx hb dL_types_112 (by decide) ?_
          refine lv_icmp_ne (tgt := 122) hx hb dL_types_114 (by decide) (fun _ => ?_) (fun c338 => absurd c338 (by decide))
          refine lv_iload hx hb dL_types_122 (lv_at hl 1 rfl) ?_
          refine lv_bipush (v := 7) hx hb dL_types_124 (by decide) ?_
          refine lv_icmp_ne (tgt := 134) hx hb dL_types_126 (by decide) (fun _ => ?_) (fun c339 => absurd c339 (by decide))
          refine lv_bipush (v := 116) hx hb dL_types_134 (by decide) ?_
          refine r_type (rest := []) X hI hzk hLk (by omega) (by decide) hl.1 rfl ⟨rfl, rfl, by decide, by decide⟩ (Nat.le_of_ble_eq_true rfl) ⟨Nat.zero_le _, Nat.zero_le _⟩ dL_types_136 (fun M51 hz51 hT51 hL51 H locs hI r51 hr51 => ?_)
          refine lv_if_le (tgt := 146) hx hb dL_types_139 (by decide) (fun c340 => ?_) (fun c340 => ?_)
          · (rw [Int32.le_iff_toInt_le, z_i0] at c340; omega)
          · skip
            refine lv_iconst (v := 1) hx hb dL_types_142 (by decide) ?_
            refine lv_goto (tgt := 147) hx hb dL_types_143 (by decide) ?_
            refine lv_istore_n (lv' := [(3, .int 1), (7, .int 1), (6, .int 8), (5, .int sh61), (4, .int (nI k)), (2, .int (nI N)), (1, .int x), (0, .ref (ad 6 0))]) hx hb dL_types_147 rfl hl (by decide) rfl (fun ls hl => ?_)
            refine lv_iconst (v := 0) hx hb dL_types_148 (by decide) ?_
            refine lv_istore (lv' := [(8, .int 0), (3, .int 1), (7, .int 1), (6, .int 8), (5, .int sh61), (4, .int (nI k)), (2, .int (nI N)), (1, .int x), (0, .ref (ad 6 0))]) hx hb dL_types_149 hl (by decide) rfl (fun ls hl => ?_)
            refine lv_iload hx hb dL_types_151 (lv_at hl 0 rfl) ?_
            refine lv_iload hx hb dL_types_153 (lv_at hl 2 rfl) ?_
            refine lv_icmp_ge (tgt := 277) hx hb dL_types_155 (by decide) (fun c341 => absurd c341 (by decide)) (fun _ => ?_)
            refine lv_iload hx hb dL_types_158 (lv_at hl 3 rfl) ?_
            refine lv_iconst (v := 4) hx hb dL_types_160 (by decide) ?_
            refine lv_icmp_ge (tgt := 176) hx hb dL_types_161 (by decide) (fun _ => ?_) (fun c342 => absurd c342 (by decide))
            refine lv_iload hx hb dL_types_176 (lv_at hl 3 rfl) ?_
            refine lv_bipush (v := 6) hx hb dL_types_178 (by decide) ?_
            refine lv_icmp_ge (tgt := 200) hx hb dL_types_180 (by decide) (fun _ => ?_) (fun c343 => absurd c343 (by decide))
            refine lv_iload hx hb dL_types_200 (lv_at hl 3 rfl) ?_
            refine lv_bipush (v := 7) hx hb dL_types_202 (by decide) ?_
            refine lv_icmp_eq (tgt := 219) hx hb dL_types_204 (by decide) (fun c344 => absurd c344 (by decide)) (fun _ => ?_)
            refine lv_iload hx hb dL_types_207 (lv_at hl 3 rfl) ?_
            refine lv_iconst (v := 2) hx hb dL_types_209 (by decide) ?_
            refine lv_icmp_eq (tgt := 219) hx hb dL_types_210 (by decide) (fun c345 => absurd c345 (by decide)) (fun _ => ?_)
            refine lv_iload hx hb dL_types_213 (lv_at hl 3 rfl) ?_
            refine lv_iconst (v := 3) hx hb dL_types_215 (by decide) ?_
            refine lv_icmp_ne (tgt := 223) hx hb dL_types_216 (by decide) (fun _ => ?_) (fun c346 => absurd c346 (by decide))
            refine lv_iconst (v := 4) hx hb dL_types_223 (by decide) ?_
            refine lv_istore (lv' := [(9, .int 4), (8, .int 0), (3, .int 1), (7, .int 1), (6, .int 8), (5, .int sh61), (4, .int (nI k)), (2, .int (nI N)), (1, .int x), (0, .ref (ad 6 0))]) hx hb dL_types_224 hl (by decide) rfl (fun ls hl => ?_)
            refine lv_iload_n hx hb dL_types_226 rfl (lv_at hl 2 rfl) ?_
            refine lv_if_eq (tgt := 269) hx hb dL_types_227 (by decide) (fun c347 => absurd c347 (by decide)) (fun _ => ?_)
            refine lv_iload hx hb dL_types_230 (lv_at hl 1 rfl) ?_
            refine lv_if_eq (tgt := 244) hx hb dL_types_232 (by decide) (fun _ => ?_) (fun c348 => absurd c348 (by decide))
            refine lv_aload_n hx hb dL_types_244 rfl (lv_at hl 9 rfl) ?_
            refine lv_iload hx hb dL_types_245 (lv_at hl 5 rfl) ?_
            refine lv_iconst (v := 2) hx hb dL_types_247 (by decide) ?_
            refine lv_iconst (v := 2) hx hb dL_types_248 (by decide) ?_
            refine lv_iload hx hb dL_types_249 (lv_at hl 1 rfl) ?_
            refine lv_imul hx hb dL_types_251 ?_
            refine g_te (y := 0) (by decide) ?_
            refine lv_iadd hx hb dL_types_252 ?_
            refine g_te (y := 2) (by decide) ?_
            refine lv_ishr hx hb dL_types_253 ?_
            refine lv_topi (fun sh349 _ => ?_)
            refine lv_iload hx hb dL_types_254 (lv_at hl 0 rfl) ?_
            refine r_low (rest := [.ref (ad 6 0)]) X hI (by decide) hl.1 rfl ⟨rfl, rfl, by decide, by decide⟩ (Nat.le_of_ble_eq_true rfl) ⟨Nat.zero_le _, Nat.zero_le _⟩ dL_types_256 (fun H locs hI w350 w350a w350b => ?_)
            have w350b : w350.toInt < 4 := w350b
            have hn52 := u_dn1 (v := w350) (by omega)
            refine g_callSx (rest := []) (c_L_digits l D tb ad hj P M51 hz51 w350 ⟨w350a, by omega⟩ hL51 (by omega)) gm_L_digits hx hb hml hown hts hC hI qm_L_55 rfl hl.1 rfl ⟨rfl, rfl, by decide, by decide⟩ (Nat.le_of_ble_eq_true rfl) ⟨Nat.zero_le _, Nat.zero_le _⟩ dL_types_259 (fun r52 P52 M52 hq52 H locs hI => ?_)
            obtain ⟨hr52, hP52, hz52, hT52, ln52, hL52, hB52⟩ := hq52
            subst hr52; subst hP52
            refine lv_if_eq (tgt := 269) hx hb dL_types_262 (by decide) (fun c351 => absurd c351 (by decide)) (fun _ => ?_)
            refine lv_iconst (v := 1) hx hb dL_types_265 (by decide) ?_
            refine lv_goto (tgt := 270) hx hb dL_types_266 (by decide) ?_
            refine lv_istore_n (lv' := [(3, .int 1), (9, .int 4), (8, .int 0), (7, .int 1), (6, .int 8), (5, .int sh61), (4, .int (nI k)), (2, .int (nI N)), (1, .int x), (0, .ref (ad 6 0))]) hx hb dL_types_270 rfl hl (by decide) rfl (fun ls hl => ?_)
            refine lv_iinc (v := 1) (lv' := [(8, .int 1), (3, .int 1), (9, .int 4), (7, .int 1), (6, .int 8), (5, .int sh61), (4, .int (nI k)), (2, .int (nI N)), (1, .int x), (0, .ref (ad 6 0))]) hx hb dL_types_271 hl (k := 2) rfl (by decide) (by decide) rfl (fun ls hl => ?_)
            refine lv_goto (tgt := 151) hx hb dL_types_274 (by decide) ?_
            refine lv_iload hx hb dL_types_151 (lv_at hl 0 rfl) ?_
            refine lv_iload hx hb dL_types_153 (lv_at hl 3 rfl) ?_
            refine lv_icmp_ge (tgt := 277) hx hb dL_types_155 (by decide) (fun _ => ?_) (fun c352 => absurd c352 (by decide))
            exact E277 M52 _ hz52 ((hTk.tr hT51).tr hT52) hL52 (by omega) _ _ _ hI (lv_sub hl [6, 1, 7, 8, 9] rfl)
  refine lv_iload_n hx hb dL_types_0 rfl (lv_at hl 1 rfl) ?_
  refine lv_iconst (v := 5) hx hb dL_types_1 (by decide) ?_
  refine r_low (rest := []) X hI (by decide) hl.1 rfl ⟨rfl, rfl, by decide, by decide⟩ (Nat.le_of_ble_eq_true rfl) ⟨Nat.zero_le _, Nat.zero_le _⟩ dL_types_2 (fun H locs hI w91 w91a w91b => ?_)
  have w91b : w91.toInt < 5 := w91b
  obtain ⟨N, hN, rfl⟩ := z_lo (N := 5) w91a (by omega)
  refine lv_istore_n (lv' := [(2, .int (nI N)), (0, .ref (ad 6 0)), (1, .int x)]) hx hb dL_types_5 rfl hl (by decide) rfl (fun ls hl => ?_)
  refine lv_aload_n hx hb dL_types_6 rfl (lv_at hl 1 rfl) ?_
  refine r_clear (rest := []) X hI hz hl.1 rfl ⟨rfl, rfl, by decide, by decide⟩ (Nat.le_of_ble_eq_true rfl) ⟨Nat.zero_le _, Nat.zero_le _⟩ dL_types_7 (fun M53 hz53 hT53 hL53 H locs hI r53 hr53 => ?_)
  refine lv_if_lt (tgt := 17) hx hb dL_types_10 (by decide) (fun c92 => ?_) (fun c92 => ?_)
  · (rw [Int32.lt_iff_toInt_lt, z_i0] at c92; omega)
  · skip
    refine lv_iconst (v := 1) hx hb dL_types_13 (by decide) ?_
    refine lv_goto (tgt := 18) hx hb dL_types_14 (by decide) ?_
    refine lv_istore_n (lv' := [(3, .int 1), (2, .int (nI N)), (0, .ref (ad 6 0)), (1, .int x)]) hx hb dL_types_18 rfl hl (by decide) rfl (fun ls hl => ?_)
    refine lv_iconst (v := 0) hx hb dL_types_19 (by decide) ?_
    refine lv_istore (lv' := [(4, .int 0), (3, .int 1), (2, .int (nI N)), (0, .ref (ad 6 0)), (1, .int x)]) hx hb dL_types_20 hl (by decide) rfl (fun ls hl => ?_)
    exact lp22 N (N + 1) 0 M53 0 hN (Nat.zero_le _) (by omega) hz53 hT53 hL53 (by omega) _ _ _ hI (lv_sub hl [0, 1, 2, 4, 3] rfl)
