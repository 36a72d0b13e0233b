/-! ===== the law: its loop, and its start ===== -/
abbrev rm_L_lot : Room := { frames := 0, cells := 0, slots := 0, locals := 0 }
set_option maxHeartbeats 4000000 in
set_option maxRecDepth 100000 in
theorem c_L_lot (l : Launch) (D : va_G) (tb : g_T) (ad : g_Ad) (hj : g_inj ad) (P : g_P) (M : g_M) (b L : Nat) (xs : Nat → Int32) (hL : L ≤ 260) (j : Nat) (hj1 : j < 1000) : Met l yL_lot (g_ws yL_lot cL_lot 2 (some .int)) rm_L_lot (va_Pc [.ref b, .int (nI j)] (fun U => g_pre D tb ad P M U ∧ va_X b L xs U U.heap ∧ b < U.heap.size ∧ ¬ g_A ad b)) (va_Qi (fun _ (_ : Unit) => True) (fun _ => g_pre D tb ad P M) (g_A ad)) 0 0 (g_A ad) := by
  refine Met.ofW (cc := cL_lot) (maxL := 2) (ret := some .int) (by decide) rfl ?_
  intro p e s m args below meth c s₁ B hml hv
  obtain ⟨rfl, ⟨hP, hK, hN, hZ⟩, hX, hbl, hbA⟩ := hv
  have hts0 := atoms_spec (ws := g_ws yL_lot cL_lot 2 (some .int)) B.pre
  have hts : ∀ w ∈ g_tbl, w.before _ s = true := fun w h => hts0 w (List.mem_cons_of_mem _ h)
  have hl := lv_entry ([.ref b, .int (nI j)]) (n := 2) (Nat.le_of_ble_eq_true rfl)
  rw [lg_entry_eq]
  generalize (lg_sl ([.ref b, .int (nI j)]) ++ List.replicate (2 - (lg_sl ([.ref b, .int (nI j)])).length) Slot.unset).toArray = ls at hl ⊢
  have hl : lv_has ls 2 [(0, .ref b), (1, .int (nI j))] := hl
  have hx := B.exec
  have hb := B.bytes
  have hr0 := B.returns
  have hlk := B.notSynchronized
  have hown : s.vm.findClass RL = some m.cls := findClass_of_methodNamed B.named
  have hC : g_C D tb ad (g_A ad) s := ⟨hK, hN, hZ, hj, fun r c h => ⟨r, c, h, rfl⟩⟩
  have hI : g_I D tb ad (g_A ad) s s.heap [] P M := ⟨hP, va_S.rf⟩
  have hend : ∀ (v : Int32) (ls : Array Slot), W p l e rm_L_lot s m (([.ref b, .int (nI j)] : List Value).toArray) below meth c s.heap [] 0 0 (MQ below (va_Qi (fun _ (_ : Unit) => True) (fun _ => g_pre D tb ad P M) (g_A ad)) (([.ref b, .int (nI j)] : List Value).toArray) s 0 0 (g_A ad)) (F0 m 24 ls [.int v]) := fun v ls => W.zret hx hb hr0 rfl (fun t ht hW => ⟨⟨v, (), rfl, trivial, g_pre.of hC hI t ht hW⟩, hI.2.F ht⟩) hI.2.2.2 dL_lot_24 hlk
  refine lv_iload_n hx hb dL_lot_0 rfl (lv_at hl 1 rfl) ?_
  refine lv_aload_n hx hb dL_lot_1 rfl (lv_at hl 0 rfl) ?_
  refine va_slen hx hb hX hbl hbA hI.2 dL_lot_2 ?_
  refine lv_icmp_ge (tgt := 12) hx hb dL_lot_3 (by decide) (fun c1 => ?_) (fun c1 => ?_)
  · refine lv_ldc (v := (-271587989)) hx hb hown (hts _ qc_L_7) dL_lot_12 ?_
    refine lv_iload_n hx hb dL_lot_14 rfl (lv_at hl 1 rfl) ?_
    refine lv_sipush (v := 3089) hx hb dL_lot_15 (by decide) ?_
    refine lv_iadd hx hb dL_lot_18 ?_
    refine lv_imul hx hb dL_lot_19 ?_
    refine lv_sipush (v := 2851) hx hb dL_lot_20 (by decide) ?_
    refine lv_iadd hx hb dL_lot_23 ?_
    exact hend _ _
  · have hjL : j < L := Nat.lt_of_not_le (fun z => c1 ((nI_leI (by omega) (by omega)).mpr z))
    refine lv_aload_n hx hb dL_lot_6 rfl (lv_at hl 0 rfl) ?_
    refine lv_iload_n hx hb dL_lot_7 rfl (lv_at hl 1 rfl) ?_
    refine va_sld hx hb hX hbl hbA hI.2 (vp_in_nI hjL (by omega)) dL_lot_8 ?_
    refine lv_goto (tgt := 24) hx hb dL_lot_9 (by decide) ?_
    exact hend _ _
section LW
variable {p : Program} {l : Launch} {e : Env} {s : State} {m : MethodId} {below : List Frame} {meth : Method} {c : Code} {b L : Nat} {xs : Nat → Int32} {D : va_G} {tb : g_T} {ad : g_Ad}
theorem r_lot (hL : L ≤ 260) (X : L_x p s m #[Value.ref b] c cL_law 11 D tb ad (fun q => s.heap.size ≤ q)) (hX : va_X b L xs s s.heap) (hbl : b < s.heap.size) {P : g_P} {M : g_M} {H : Heap} {locs : List Loc} {ls : Array Slot} {rest st0 : List Value} {Q : State → Prop} {pc j : Nat} (hI : g_I D tb ad (fun q => s.heap.size ≤ q) s H locs P M) (hj1 : j < 1000) (hl : ls.size = 11) (hst : st0 = .int (nI j) :: .ref b :: rest) (hW : (rest.map fun v => v.category).sum ≤ 8) (hdg : decode cL_law pc = .ok (.invokestatic 121, 3))
    (kk : ∀ (H1 : Heap) (locs1 : List Loc), g_I D tb ad (fun q => s.heap.size ≤ q) s H1 locs1 P M → ∀ r : Int32, W p l e room_1 s m #[Value.ref b] below meth c H1 locs1 687037 7041138 Q (F0 m (pc + 3) ls (.int r :: rest))) : W p l e room_1 s m #[Value.ref b] below meth c H locs 687037 7041138 Q (F0 m pc ls st0) := by
  obtain ⟨hx, hb, hml, hown, hts, hC, hj⟩ := X
  subst hst
  have hbA : ¬ (fun q : Nat => s.heap.size ≤ q) b := Nat.not_le.mpr hbl
  have hbA' : ¬ g_A ad b := fun z => hbA (hC.A b z)
  refine va_calli (va_runS (As := [.ref b, .int (nI j)]) (rest := rest) ⟨hx, hb, hml, hown, hts⟩ (c_L_lot l D tb ad hj P M b L xs hL j hj1) ⟨g_cB hts gm_L_lot.1 qm_L_121 ⟨rfl, rfl, by decide, by decide⟩, hts _ gm_L_lot.2⟩ ⟨?_, fun U hU hW => ⟨rfl, g_pre.of hC hI U hU hW, ?_, ?_, hbA'⟩⟩ rfl rfl hl rfl (lv_room hW) hdg ⟨Nat.le_refl _, Nat.le_refl _⟩) hI.2 (fun q _ h => hC.A q h) hC.A (fun r u t H1 locs1 ht hvm hw hB hz1 hk1 hS1 => ?_)
  · rintro a U g mk ⟨h0, h1, h2, h3, h4⟩
    obtain ⟨-, h1'⟩ := g_pre.blind (av := a.toList) a U g mk ⟨by simp, h1⟩
    exact ⟨h0, h1', h2.moved (u := U) (U := U.calling g mk a) (Vm.Alike.refl U.vm), h3, h4⟩
  · rw [hU]
    exact (hX.kept (hI.2.2.1 b hbl hbA)).moved hW.alike
  · rw [hU]
    exact Nat.lt_of_lt_of_le hbl hI.2.1
  · exact kk H1 locs1 ⟨by rw [← ht]; exact hB.1, hS1⟩ r
set_option maxHeartbeats 4000000 in
set_option maxRecDepth 100000 in
theorem w_loop (C0 : lw_At p s m meth c b L xs) (hL : L ≤ 260) (hC : g_C D tb ad (fun q => s.heap.size ≤ q) s) : ∀ (d k : Nat) (P : g_P) (M : g_M) (H : Heap) (locs : List Loc) (ls : Array Slot), k ≤ 36 → 36 < k + d → z_In P M (k : Int) → g_I D tb ad (fun q => s.heap.size ≤ q) s H locs P M → lv_has ls 11 [(3, .int (nI k)), (2, .int 1), (1, .ref (ad 6 0)), (0, .ref b)] → W p l e room_1 s m #[Value.ref b] below meth c H locs 687037 7041138 (lw_Z below #[Value.ref b] s) (F0 m 32 ls []) := by
  obtain ⟨hx, hb, hr, hml, hown, hts0, hX, hbl, hlocks, hgv⟩ := C0
  have hts := g_of_tbl hts0
  have hown : s.vm.findClass RL = some m.cls := hown
  have hj : g_inj ad := hC.2.2.2.1
  have X : L_x p s m #[Value.ref b] c cL_law 11 D tb ad (fun q => s.heap.size ≤ q) := ⟨hx, hb, hml, hown, hts, hC, hj⟩
  intro d
  induction d with
  | zero => intros; omega
  | succ d ih =>
    intro k P M H locs ls hk36 hd hi hI hl
    have hz : z_Rel P M (61 * (k : Int)) (-(990000 * (k : Int))) (3960000 * (k : Int)) := hi.1
    obtain ⟨hh, hhe, hh4⟩ : ∃ hh : Nat, M 6 0 2 = nI hh ∧ hh ≤ 4 := by
      obtain ⟨-, -, s1, a1, -, a3, -⟩ := hz
      exact ⟨s1, a1, a3⟩
    refine lv_iload_n hx hb dL_law_32 rfl (lv_at hl 0 rfl) ?_
    refine lv_bipush (v := 36) hx hb dL_law_33 (by decide) ?_
    refine lv_icmp_ge (tgt := 262) hx hb dL_law_35 (by decide) (fun c1 => ?_) (fun c1 => ?_)
    · have c1n : 36 ≤ k := (nI_leI (a := 36) (b := k) (by omega) (by omega)).mp c1
      refine lv_iload_n hx hb dL_law_262 rfl (lv_at hl 1 rfl) ?_
      refine va_forget (fun q hq => hI.2.2.2 q hq) ?_
      refine W.base ?_
      exact lw_ret (Drawn.sameBut.refl s.drawn lw_cs) hx hb hr hlocks dL_law_263
    · have c1n : ¬ 36 ≤ k := fun z => c1 ((nI_leI (a := 36) (b := k) (by omega) (by omega)).mpr z)
      refine lv_iload_n hx hb dL_law_38 rfl (lv_at hl 1 rfl) ?_
      refine lv_if_eq (tgt := 262) hx hb dL_law_39 (by decide) (fun c2 => absurd c2 (by decide)) (fun _ => ?_)
      refine lv_aload_n hx hb dL_law_42 rfl (lv_at hl 3 rfl) ?_
      refine lv_iconst (v := 2) hx hb dL_law_43 (by decide) ?_
      refine lv_iload_n hx hb dL_law_44 rfl (lv_at hl 0 rfl) ?_
      refine lv_imul hx hb dL_law_45 ?_
      refine g_te (pk_mul 2 k) ?_
      refine r_lot (rest := []) hL X hX hbl hI (by omega) hl.1 rfl (Nat.le_of_ble_eq_true rfl) dL_law_46 (fun H locs hI lx3 => ?_)
      refine lv_istore (lv' := [(4, .int lx3), (3, .int (nI k)), (2, .int 1), (1, .ref (ad 6 0)), (0, .ref b)]) hx hb dL_law_49 hl (by decide) rfl (fun ls hl => ?_)
      refine lv_aload_n hx hb dL_law_51 rfl (lv_at hl 4 rfl) ?_
      refine lv_iconst (v := 2) hx hb dL_law_52 (by decide) ?_
      refine lv_iload_n hx hb dL_law_53 rfl (lv_at hl 1 rfl) ?_
      refine lv_imul hx hb dL_law_54 ?_
      refine g_te (pk_mul 2 k) ?_
      refine lv_iconst (v := 1) hx hb dL_law_55 (by decide) ?_
      refine lv_iadd hx hb dL_law_56 ?_
      refine g_te (nI_add (2 * k) 1) ?_
      refine r_lot (rest := []) hL X hX hbl hI (by omega) hl.1 rfl (Nat.le_of_ble_eq_true rfl) dL_law_57 (fun H locs hI lx4 => ?_)
      refine lv_istore (lv' := [(5, .int lx4), (4, .int lx3), (3, .int (nI k)), (2, .int 1), (1, .ref (ad 6 0)), (0, .ref b)]) hx hb dL_law_60 hl (by decide) rfl (fun ls hl => ?_)
      refine lv_aload_n hx hb dL_law_62 rfl (lv_at hl 4 rfl) ?_
      refine g_callSl (rest := []) (c_L_digest l D tb ad hj P M hz) gm_L_digest hx hb hml hown hts hC hI qm_L_125 rfl hl.1 rfl ⟨rfl, rfl, by decide, by decide⟩ (Nat.le_of_ble_eq_true rfl) ⟨Nat.le_refl _, Nat.le_refl _⟩ dL_law_63 (fun H locs hI => ?_)
      refine lv_lstore (lv' := [(6, .long (q_dig (M (P 0)))), (5, .int lx4), (4, .int lx3), (3, .int (nI k)), (2, .int 1), (1, .ref (ad 6 0)), (0, .ref b)]) hx hb dL_law_66 hl (by decide) rfl (fun ls hl => ?_)
      refine lv_aload_n hx hb dL_law_68 rfl (lv_at hl 5 rfl) ?_
      refine lv_bipush (v := 8) hx hb dL_law_69 (by decide) ?_
      refine r_count (rest := []) X hI hz hl.1 rfl ⟨rfl, rfl, by decide, by decide⟩ (Nat.le_of_ble_eq_true rfl) ⟨Nat.le_refl _, Nat.le_refl _⟩ dL_law_71 (fun H locs hI => ?_)
      refine g_te (y := nI hh) ((show q_cnt P M 8 = M 6 0 2 from rfl).trans hhe) ?_
      refine lv_istore (lv' := [(8, .int (nI hh)), (6, .long (q_dig (M (P 0)))), (5, .int lx4), (4, .int lx3), (3, .int (nI k)), (2, .int 1), (1, .ref (ad 6 0)), (0, .ref b)]) hx hb dL_law_74 hl (by decide) rfl (fun ls hl => ?_)
      refine lv_aload_n hx hb dL_law_76 rfl (lv_at hl 6 rfl) ?_
      have K88 : ∀ z : Int32, W p l e room_1 s m #[Value.ref b] below meth c H locs 687037 7041138 (lw_Z below #[Value.ref b] s) (F0 m 88 ls [.int z, .ref (ad 6 0)]) := by
        intro z
        refine lv_iload hx hb dL_law_88 (lv_at hl 2 rfl) ?_
        refine g_callSx (rest := []) (c_L_acts l D tb ad hj P M hi (by omega) (by omega) z lx4) gm_L_acts hx hb hml hown hts hC hI qm_L_129 rfl hl.1 rfl ⟨rfl, rfl, by decide, by decide⟩ (Nat.le_of_ble_eq_true rfl) ⟨Nat.le_refl _, Nat.le_refl _⟩ dL_law_90 (fun r5 P1 M1 hq5 H locs hI => ?_)
        obtain ⟨hr5, hi1, ha, h2, ha4, h24, ea, e2, hcase⟩ := hq5
        subst hr5
        obtain rfl : ha = hh := (nI_eq (by omega) (by omega)).mp (ea.symm.trans hhe)
        have hi1 : z_In P1 M1 (((k + 1 : Nat) : Int)) := by rw [show ((k + 1 : Nat) : Int) = (k : Int) + 1 by omega]; exact hi1
        have hz1 : z_Rel P1 M1 (61 * ((k + 1 : Nat) : Int)) (-(990000 * ((k + 1 : Nat) : Int))) (3960000 * ((k + 1 : Nat) : Int)) := hi1.1
        refine lv_if_eq (tgt := 107) hx hb dL_law_93 (by decide) (fun c51 => absurd c51 (by decide)) (fun _ => ?_)
        refine lv_aload_n hx hb dL_law_96 rfl (lv_at hl 6 rfl) ?_
        refine g_callSi (rest := []) (c_L_holds l D tb ad hj P1 M1 hz1 (hi1.2 0 (by decide) (by decide))) rfl rfl gm_L_holds hx hb hml hown hts hC hI qm_L_115 rfl hl.1 rfl ⟨rfl, rfl, by decide, by decide⟩ (Nat.le_of_ble_eq_true rfl) ⟨Nat.le_refl _, Nat.le_refl _⟩ dL_law_97 (fun H locs hI => ?_)
        refine lv_if_eq (tgt := 107) hx hb dL_law_100 (by decide) (fun c52 => absurd c52 (by decide)) (fun _ => ?_)
        refine lv_iconst (v := 1) hx hb dL_law_103 (by decide) ?_
        refine lv_goto (tgt := 108) hx hb dL_law_104 (by decide) ?_
        refine lv_istore_n (lv' := [(2, .int 1), (8, .int (nI ha)), (6, .long (q_dig (M (P 0)))), (5, .int lx4), (4, .int lx3), (3, .int (nI k)), (1, .ref (ad 6 0)), (0, .ref b)]) hx hb dL_law_108 rfl hl (by decide) rfl (fun ls hl => ?_)
        refine lv_aload_n hx hb dL_law_109 rfl (lv_at hl 6 rfl) ?_
        refine lv_bipush (v := 8) hx hb dL_law_110 (by decide) ?_
        refine r_count (rest := []) X hI hz1 hl.1 rfl ⟨rfl, rfl, by decide, by decide⟩ (Nat.le_of_ble_eq_true rfl) ⟨Nat.le_refl _, Nat.le_refl _⟩ dL_law_112 (fun H locs hI => ?_)
        refine g_te (y := nI h2) ((show q_cnt P1 M1 8 = M1 6 0 2 from rfl).trans e2) ?_
        refine lv_istore (lv' := [(9, .int (nI h2)), (2, .int 1), (8, .int (nI ha)), (6, .long (q_dig (M (P 0)))), (5, .int lx4), (4, .int lx3), (3, .int (nI k)), (1, .ref (ad 6 0)), (0, .ref b)]) hx hb dL_law_115 hl (by decide) rfl (fun ls hl => ?_)
        refine lv_iload_n hx hb dL_law_117 rfl (lv_at hl 1 rfl) ?_
        refine lv_if_eq (tgt := 157) hx hb dL_law_118 (by decide) (fun c53 => absurd c53 (by decide)) (fun _ => ?_)
        refine lv_iload hx hb dL_law_121 (lv_at hl 0 rfl) ?_
        refine lv_iload hx hb dL_law_123 (lv_at hl 2 rfl) ?_
        refine lv_icmp_ne (tgt := 144) hx hb dL_law_125 (by decide) (fun c54 => ?_) (fun c54 => ?_)
        · skip
          refine lv_iload hx hb dL_law_144 (lv_at hl 0 rfl) ?_
          refine lv_iload hx hb dL_law_146 (lv_at hl 2 rfl) ?_
          refine lv_iconst (v := 1) hx hb dL_law_148 (by decide) ?_
          refine lv_iadd hx hb dL_law_149 ?_
          refine g_te (nI_add ha 1) ?_
          refine lv_icmp_ne (tgt := 157) hx hb dL_law_150 (by decide) (fun c55 => ?_) (fun c55 => ?_)
          · (have q1 : ¬ h2 = ha := fun z => c54 (by rw [z]); rcases hcase with ⟨q3, -⟩ | ⟨q3, -⟩; exact absurd q3 q1; exact absurd (by rw [show h2 = ha + 1 by omega]) c55)
          · skip
            refine lv_iconst (v := 1) hx hb dL_law_153 (by decide) ?_
            refine lv_goto (tgt := 158) hx hb dL_law_154 (by decide) ?_
            refine lv_istore_n (lv' := [(2, .int 1), (9, .int (nI h2)), (8, .int (nI ha)), (6, .long (q_dig (M (P 0)))), (5, .int lx4), (4, .int lx3), (3, .int (nI k)), (1, .ref (ad 6 0)), (0, .ref b)]) hx hb dL_law_158 rfl hl (by decide) rfl (fun ls hl => ?_)
            refine lv_iload_n hx hb dL_law_159 rfl (lv_at hl 0 rfl) ?_
            refine lv_if_eq (tgt := 209) hx hb dL_law_160 (by decide) (fun c56 => absurd c56 (by decide)) (fun _ => ?_)
            refine lv_iload hx hb dL_law_163 (lv_at hl 1 rfl) ?_
            refine lv_iload hx hb dL_law_165 (lv_at hl 2 rfl) ?_
            refine lv_iconst (v := 1) hx hb dL_law_167 (by decide) ?_
            refine lv_iadd hx hb dL_law_168 ?_
            refine g_te (nI_add ha 1) ?_
            refine lv_icmp_ne (tgt := 209) hx hb dL_law_169 (by decide) (fun c57 => ?_) (fun c57 => ?_)
            · exact absurd c55 c57
            · have hp1 : h2 = ha + 1 := (nI_eq (by omega) (by omega)).mp c57
              refine lv_iload hx hb dL_law_172 (lv_at hl 4 rfl) ?_
              refine lv_bipush (v := 8) hx hb dL_law_174 (by decide) ?_
              refine lv_ishr hx hb dL_law_176 ?_
              refine lv_topi (fun sh58 _ => ?_)
              refine lv_iconst (v := 3) hx hb dL_law_177 (by decide) ?_
              refine r_low (rest := []) X hI (by decide) hl.1 rfl ⟨rfl, rfl, by decide, by decide⟩ (Nat.le_of_ble_eq_true rfl) ⟨Nat.le_refl _, Nat.le_refl _⟩ dL_law_178 (fun H locs hI w59 w59a w59b => ?_)
              have w59b : w59.toInt < 3 := w59b
              refine lv_if_ne (tgt := 209) hx hb dL_law_181 (by decide) (fun c60 => ?_) (fun c60 => ?_)
              · skip
                refine lv_iload_n hx hb dL_law_209 rfl (lv_at hl 0 rfl) ?_
                refine lv_if_eq (tgt := 256) hx hb dL_law_210 (by decide) (fun c61 => absurd c61 (by decide)) (fun _ => ?_)
                refine lv_iload_n hx hb dL_law_213 rfl (lv_at hl 6 rfl) ?_
                refine lv_bipush (v := 6) hx hb dL_law_214 (by decide) ?_
                refine lv_irem hx hb dL_law_216 (by decide) ?_
                refine lv_iconst (v := 5) hx hb dL_law_217 (by decide) ?_
                refine lv_icmp_ne (tgt := 256) hx hb dL_law_218 (by decide) (fun c62 => ?_) (fun c62 => ?_)
                · skip
                  refine lv_iinc (v := nI (k + 1)) (lv' := [(3, .int (nI (k + 1))), (2, .int 1), (9, .int (nI h2)), (8, .int (nI ha)), (6, .long (q_dig (M (P 0)))), (5, .int lx4), (4, .int lx3), (1, .ref (ad 6 0)), (0, .ref b)]) hx hb dL_law_256 hl (k := 6) rfl (nI_1 _) (by decide) rfl (fun ls hl => ?_)
                  refine lv_goto (tgt := 32) hx hb dL_law_259 (by decide) ?_
                  exact ih (k + 1) P1 M1 _ _ _ (by omega) (by omega) hi1 hI (lv_sub hl [0, 1, 7, 8] rfl)
                · skip
                  refine lv_aload_n hx hb dL_law_221 rfl (lv_at hl 7 rfl) ?_
                  refine lv_bipush (v := 8) hx hb dL_law_222 (by decide) ?_
                  refine r_count (rest := []) X hI hz1 hl.1 rfl ⟨rfl, rfl, by decide, by decide⟩ (Nat.le_of_ble_eq_true rfl) ⟨Nat.le_refl _, Nat.le_refl _⟩ dL_law_224 (fun H locs hI => ?_)
                  refine g_te (y := nI h2) ((show q_cnt P1 M1 8 = M1 6 0 2 from rfl).trans e2) ?_
                  refine lv_istore (lv' := [(10, .int (nI h2)), (2, .int 1), (9, .int (nI h2)), (8, .int (nI ha)), (6, .long (q_dig (M (P 0)))), (5, .int lx4), (4, .int lx3), (3, .int (nI k)), (1, .ref (ad 6 0)), (0, .ref b)]) hx hb dL_law_227 hl (by decide) rfl (fun ls hl => ?_)
                  refine lv_aload_n hx hb dL_law_229 rfl (lv_at hl 8 rfl) ?_
                  refine r_undo (rest := []) X hI hi1 e2 h24 hl.1 rfl ⟨rfl, rfl, by decide, by decide⟩ (Nat.le_of_ble_eq_true rfl) ⟨Nat.le_refl _, Nat.le_refl _⟩ dL_law_230 (fun Pu63 Mu63 hUu63 H locs hI => ?_)
                  have hiu63 := hUu63.1
                  have hzu63 := hiu63.1
                  refine lv_iload hx hb dL_law_233 (lv_at hl 0 rfl) ?_
                  refine lv_if_ne (tgt := 243) hx hb dL_law_235 (by decide) (fun c64 => ?_) (fun c64 => ?_)
                  · skip
                    refine lv_iload hx hb dL_law_243 (lv_at hl 0 rfl) ?_
                    refine lv_iconst (v := 1) hx hb dL_law_245 (by decide) ?_
                    refine lv_isub hx hb dL_law_246 ?_
                    refine lv_icmp_ne (tgt := 254) hx hb dL_law_247 (by decide) (fun c65 => ?_) (fun c65 => ?_)
                    · (have q1 : ¬ h2 = 0 := fun z => c64 (by rw [z]; rfl); exact absurd (by rw [if_neg q1, k_dp (by omega)]) c65)
                    · skip
                      refine lv_iconst (v := 1) hx hb dL_law_250 (by decide) ?_
                      refine lv_goto (tgt := 255) hx hb dL_law_251 (by decide) ?_
                      refine lv_istore_n (lv' := [(2, .int 1), (10, .int (nI h2)), (9, .int (nI h2)), (8, .int (nI ha)), (6, .long (q_dig (M (P 0)))), (5, .int lx4), (4, .int lx3), (3, .int (nI k)), (1, .ref (ad 6 0)), (0, .ref b)]) hx hb dL_law_255 rfl hl (by decide) rfl (fun ls hl => ?_)
                      refine lv_iinc (v := nI (k + 1)) (lv' := [(3, .int (nI (k + 1))), (2, .int 1), (10, .int (nI h2)), (9, .int (nI h2)), (8, .int (nI ha)), (6, .long (q_dig (M (P 0)))), (5, .int lx4), (4, .int lx3), (1, .ref (ad 6 0)), (0, .ref b)]) hx hb dL_law_256 hl (k := 7) rfl (nI_1 _) (by decide) rfl (fun ls hl => ?_)
                      refine lv_goto (tgt := 32) hx hb dL_law_259 (by decide) ?_
                      exact ih (k + 1) Pu63 Mu63 _ _ _ (by omega) (by omega) hiu63 hI (lv_sub hl [0, 1, 8, 9] rfl)
                  · skip
                    refine lv_ldc (v := (-2000000002)) hx hb hown (hts _ qc_L_65) dL_law_238 ?_
                    refine lv_goto (tgt := 247) hx hb dL_law_240 (by decide) ?_
                    refine lv_icmp_ne (tgt := 254) hx hb dL_law_247 (by decide) (fun c66 => ?_) (fun c66 => ?_)
                    · (have q1 : h2 = 0 := (nI_eq (a := h2) (b := 0) (by omega) (by decide)).mp c64; exact absurd (if_pos q1) c66)
                    · skip
                      refine lv_iconst (v := 1) hx hb dL_law_250 (by decide) ?_
                      refine lv_goto (tgt := 255) hx hb dL_law_251 (by decide) ?_
                      refine lv_istore_n (lv' := [(2, .int 1), (10, .int (nI h2)), (9, .int (nI h2)), (8, .int (nI ha)), (6, .long (q_dig (M (P 0)))), (5, .int lx4), (4, .int lx3), (3, .int (nI k)), (1, .ref (ad 6 0)), (0, .ref b)]) hx hb dL_law_255 rfl hl (by decide) rfl (fun ls hl => ?_)
                      refine lv_iinc (v := nI (k + 1)) (lv' := [(3, .int (nI (k + 1))), (2, .int 1), (10, .int (nI h2)), (9, .int (nI h2)), (8, .int (nI ha)), (6, .long (q_dig (M (P 0)))), (5, .int lx4), (4, .int lx3), (1, .ref (ad 6 0)), (0, .ref b)]) hx hb dL_law_256 hl (k := 7) rfl (nI_1 _) (by decide) rfl (fun ls hl => ?_)
                      refine lv_goto (tgt := 32) hx hb dL_law_259 (by decide) ?_
                      exact ih (k + 1) Pu63 Mu63 _ _ _ (by omega) (by omega) hiu63 hI (lv_sub hl [0, 1, 8, 9] rfl)
              · skip
                refine lv_aload_n hx hb dL_law_184 rfl (lv_at hl 7 rfl) ?_
                refine r_undo (rest := []) X hI hi1 e2 h24 hl.1 rfl ⟨rfl, rfl, by decide, by decide⟩ (Nat.le_of_ble_eq_true rfl) ⟨Nat.le_refl _, Nat.le_refl _⟩ dL_law_185 (fun Pu67 Mu67 hUu67 H locs hI => ?_)
                have hn0 : ¬ h2 = 0 := by omega
                refine g_te (y := nI ha) (by rw [if_neg hn0, show h2 - 1 = ha by omega]) ?_
                obtain ⟨hiu67, hVu67, eu67⟩ : z_In Pu67 Mu67 (((k + 1 : Nat) : Int)) ∧ Mu67 (Pu67 0) = M1 (P1 2) ∧ Mu67 6 0 2 = nI ha := by
                  obtain ⟨a1, a2⟩ := hUu67
                  rcases a2 with ⟨a3, -, -⟩ | ⟨-, a3, a4⟩
                  · exact absurd a3 hn0
                  · exact ⟨a1, a3, by rw [a4, show h2 - 1 = ha by omega]⟩
                have hzu67 : z_Rel Pu67 Mu67 (61 * ((k + 1 : Nat) : Int)) (-(990000 * ((k + 1 : Nat) : Int))) (3960000 * ((k + 1 : Nat) : Int)) := hiu67.1
                refine lv_iload hx hb dL_law_188 (lv_at hl 2 rfl) ?_
                refine lv_icmp_ne (tgt := 207) hx hb dL_law_190 (by decide) (fun c68 => ?_) (fun c68 => ?_)
                · exact absurd rfl c68
                · skip
                  refine lv_aload_n hx hb dL_law_193 rfl (lv_at hl 7 rfl) ?_
                  refine g_callSl (rest := []) (c_L_digest l D tb ad hj Pu67 Mu67 hzu67) gm_L_digest hx hb hml hown hts hC hI qm_L_125 rfl hl.1 rfl ⟨rfl, rfl, by decide, by decide⟩ (Nat.le_of_ble_eq_true rfl) ⟨Nat.le_refl _, Nat.le_refl _⟩ dL_law_194 (fun H locs hI => ?_)
                  refine lv_lload hx hb dL_law_197 (lv_at hl 3 rfl) ?_
                  refine W.lcmp hx hb dL_law_199 ?_
                  refine lv_if_ne (tgt := 207) hx hb dL_law_200 (by decide) (fun c69 => ?_) (fun c69 => ?_)
                  · (have q1 : ¬ h2 = ha := fun z => c54 (by rw [z]); rcases hcase with ⟨q3, -⟩ | ⟨-, q3⟩; exact absurd q3 q1; exact absurd ((lg_cmp_eq _ _).mpr (by rw [hVu67]; exact q3.dig.symm)) c69)
                  · skip
                    refine lv_iconst (v := 1) hx hb dL_law_203 (by decide) ?_
                    refine lv_goto (tgt := 208) hx hb dL_law_204 (by decide) ?_
                    refine lv_istore_n (lv' := [(2, .int 1), (9, .int (nI h2)), (8, .int (nI ha)), (6, .long (q_dig (M (P 0)))), (5, .int lx4), (4, .int lx3), (3, .int (nI k)), (1, .ref (ad 6 0)), (0, .ref b)]) hx hb dL_law_208 rfl hl (by decide) rfl (fun ls hl => ?_)
                    refine lv_iload_n hx hb dL_law_209 rfl (lv_at hl 0 rfl) ?_
                    refine lv_if_eq (tgt := 256) hx hb dL_law_210 (by decide) (fun c70 => absurd c70 (by decide)) (fun _ => ?_)
                    refine lv_iload_n hx hb dL_law_213 rfl (lv_at hl 6 rfl) ?_
                    refine lv_bipush (v := 6) hx hb dL_law_214 (by decide) ?_
                    refine lv_irem hx hb dL_law_216 (by decide) ?_
                    refine lv_iconst (v := 5) hx hb dL_law_217 (by decide) ?_
                    refine lv_icmp_ne (tgt := 256) hx hb dL_law_218 (by decide) (fun c71 => ?_) (fun c71 => ?_)
                    · skip
                      refine lv_iinc (v := nI (k + 1)) (lv' := [(3, .int (nI (k + 1))), (2, .int 1), (9, .int (nI h2)), (8, .int (nI ha)), (6, .long (q_dig (M (P 0)))), (5, .int lx4), (4, .int lx3), (1, .ref (ad 6 0)), (0, .ref b)]) hx hb dL_law_256 hl (k := 6) rfl (nI_1 _) (by decide) rfl (fun ls hl => ?_)
                      refine lv_goto (tgt := 32) hx hb dL_law_259 (by decide) ?_
                      exact ih (k + 1) Pu67 Mu67 _ _ _ (by omega) (by omega) hiu67 hI (lv_sub hl [0, 1, 7, 8] rfl)
                    · skip
                      refine lv_aload_n hx hb dL_law_221 rfl (lv_at hl 7 rfl) ?_
                      refine lv_bipush (v := 8) hx hb dL_law_222 (by decide) ?_
                      refine r_count (rest := []) X hI hzu67 hl.1 rfl ⟨rfl, rfl, by decide, by decide⟩ (Nat.le_of_ble_eq_true rfl) ⟨Nat.le_refl _, Nat.le_refl _⟩ dL_law_224 (fun H locs hI => ?_)
                      refine g_te (y := nI ha) ((show q_cnt Pu67 Mu67 8 = Mu67 6 0 2 from rfl).trans eu67) ?_
                      refine lv_istore (lv' := [(10, .int (nI ha)), (2, .int 1), (9, .int (nI h2)), (8, .int (nI ha)), (6, .long (q_dig (M (P 0)))), (5, .int lx4), (4, .int lx3), (3, .int (nI k)), (1, .ref (ad 6 0)), (0, .ref b)]) hx hb dL_law_227 hl (by decide) rfl (fun ls hl => ?_)
                      refine lv_aload_n hx hb dL_law_229 rfl (lv_at hl 8 rfl) ?_
                      refine r_undo (rest := []) X hI hiu67 eu67 ha4 hl.1 rfl ⟨rfl, rfl, by decide, by decide⟩ (Nat.le_of_ble_eq_true rfl) ⟨Nat.le_refl _, Nat.le_refl _⟩ dL_law_230 (fun Pu72 Mu72 hUu72 H locs hI => ?_)
                      have hiu72 := hUu72.1
                      have hzu72 := hiu72.1
                      refine lv_iload hx hb dL_law_233 (lv_at hl 0 rfl) ?_
                      refine lv_if_ne (tgt := 243) hx hb dL_law_235 (by decide) (fun c73 => ?_) (fun c73 => ?_)
                      · skip
                        refine lv_iload hx hb dL_law_243 (lv_at hl 0 rfl) ?_
                        refine lv_iconst (v := 1) hx hb dL_law_245 (by decide) ?_
                        refine lv_isub hx hb dL_law_246 ?_
                        refine lv_icmp_ne (tgt := 254) hx hb dL_law_247 (by decide) (fun c74 => ?_) (fun c74 => ?_)
                        · (have q1 : ¬ ha = 0 := fun z => c73 (by rw [z]; rfl); exact absurd (by rw [if_neg q1, k_dp (by omega)]) c74)
                        · skip
                          refine lv_iconst (v := 1) hx hb dL_law_250 (by decide) ?_
                          refine lv_goto (tgt := 255) hx hb dL_law_251 (by decide) ?_
                          refine lv_istore_n (lv' := [(2, .int 1), (10, .int (nI ha)), (9, .int (nI h2)), (8, .int (nI ha)), (6, .long (q_dig (M (P 0)))), (5, .int lx4), (4, .int lx3), (3, .int (nI k)), (1, .ref (ad 6 0)), (0, .ref b)]) hx hb dL_law_255 rfl hl (by decide) rfl (fun ls hl => ?_)
                          refine lv_iinc (v := nI (k + 1)) (lv' := [(3, .int (nI (k + 1))), (2, .int 1), (10, .int (nI ha)), (9, .int (nI h2)), (8, .int (nI ha)), (6, .long (q_dig (M (P 0)))), (5, .int lx4), (4, .int lx3), (1, .ref (ad 6 0)), (0, .ref b)]) hx hb dL_law_256 hl (k := 7) rfl (nI_1 _) (by decide) rfl (fun ls hl => ?_)
                          refine lv_goto (tgt := 32) hx hb dL_law_259 (by decide) ?_
                          exact ih (k + 1) Pu72 Mu72 _ _ _ (by omega) (by omega) hiu72 hI (lv_sub hl [0, 1, 8, 9] rfl)
                      · skip
                        refine lv_ldc (v := (-2000000002)) hx hb hown (hts _ qc_L_65) dL_law_238 ?_
                        refine lv_goto (tgt := 247) hx hb dL_law_240 (by decide) ?_
                        refine lv_icmp_ne (tgt := 254) hx hb dL_law_247 (by decide) (fun c75 => ?_) (fun c75 => ?_)
                        · (have q1 : ha = 0 := (nI_eq (a := ha) (b := 0) (by omega) (by decide)).mp c73; exact absurd (if_pos q1) c75)
                        · skip
                          refine lv_iconst (v := 1) hx hb dL_law_250 (by decide) ?_
                          refine lv_goto (tgt := 255) hx hb dL_law_251 (by decide) ?_
                          refine lv_istore_n (lv' := [(2, .int 1), (10, .int (nI ha)), (9, .int (nI h2)), (8, .int (nI ha)), (6, .long (q_dig (M (P 0)))), (5, .int lx4), (4, .int lx3), (3, .int (nI k)), (1, .ref (ad 6 0)), (0, .ref b)]) hx hb dL_law_255 rfl hl (by decide) rfl (fun ls hl => ?_)
                          refine lv_iinc (v := nI (k + 1)) (lv' := [(3, .int (nI (k + 1))), (2, .int 1), (10, .int (nI ha)), (9, .int (nI h2)), (8, .int (nI ha)), (6, .long (q_dig (M (P 0)))), (5, .int lx4), (4, .int lx3), (1, .ref (ad 6 0)), (0, .ref b)]) hx hb dL_law_256 hl (k := 7) rfl (nI_1 _) (by decide) rfl (fun ls hl => ?_)
                          refine lv_goto (tgt := 32) hx hb dL_law_259 (by decide) ?_
                          exact ih (k + 1) Pu72 Mu72 _ _ _ (by omega) (by omega) hiu72 hI (lv_sub hl [0, 1, 8, 9] rfl)
        · skip
          refine lv_iload hx hb dL_law_128 (lv_at hl 2 rfl) ?_
          refine lv_iconst (v := 4) hx hb dL_law_130 (by decide) ?_
          refine lv_icmp_eq (tgt := 153) hx hb dL_law_131 (by decide) (fun c76 => ?_) (fun c76 => ?_)
          · skip
            refine lv_iconst (v := 1) hx hb dL_law_153 (by decide) ?_
            refine lv_goto (tgt := 158) hx hb dL_law_154 (by decide) ?_
            refine lv_istore_n (lv' := [(2, .int 1), (9, .int (nI h2)), (8, .int (nI ha)), (6, .long (q_dig (M (P 0)))), (5, .int lx4), (4, .int lx3), (3, .int (nI k)), (1, .ref (ad 6 0)), (0, .ref b)]) hx hb dL_law_158 rfl hl (by decide) rfl (fun ls hl => ?_)
            refine lv_iload_n hx hb dL_law_159 rfl (lv_at hl 0 rfl) ?_
            refine lv_if_eq (tgt := 209) hx hb dL_law_160 (by decide) (fun c77 => absurd c77 (by decide)) (fun _ => ?_)
            refine lv_iload hx hb dL_law_163 (lv_at hl 1 rfl) ?_
            refine lv_iload hx hb dL_law_165 (lv_at hl 2 rfl) ?_
            refine lv_iconst (v := 1) hx hb dL_law_167 (by decide) ?_
            refine lv_iadd hx hb dL_law_168 ?_
            refine g_te (nI_add ha 1) ?_
            refine lv_icmp_ne (tgt := 209) hx hb dL_law_169 (by decide) (fun c78 => ?_) (fun c78 => ?_)
            · skip
              refine lv_iload_n hx hb dL_law_209 rfl (lv_at hl 0 rfl) ?_
              refine lv_if_eq (tgt := 256) hx hb dL_law_210 (by decide) (fun c79 => absurd c79 (by decide)) (fun _ => ?_)
              refine lv_iload_n hx hb dL_law_213 rfl (lv_at hl 6 rfl) ?_
              refine lv_bipush (v := 6) hx hb dL_law_214 (by decide) ?_
              refine lv_irem hx hb dL_law_216 (by decide) ?_
              refine lv_iconst (v := 5) hx hb dL_law_217 (by decide) ?_
              refine lv_icmp_ne (tgt := 256) hx hb dL_law_218 (by decide) (fun c80 => ?_) (fun c80 => ?_)
              · skip
                refine lv_iinc (v := nI (k + 1)) (lv' := [(3, .int (nI (k + 1))), (2, .int 1), (9, .int (nI h2)), (8, .int (nI ha)), (6, .long (q_dig (M (P 0)))), (5, .int lx4), (4, .int lx3), (1, .ref (ad 6 0)), (0, .ref b)]) hx hb dL_law_256 hl (k := 6) rfl (nI_1 _) (by decide) rfl (fun ls hl => ?_)
                refine lv_goto (tgt := 32) hx hb dL_law_259 (by decide) ?_
                exact ih (k + 1) P1 M1 _ _ _ (by omega) (by omega) hi1 hI (lv_sub hl [0, 1, 7, 8] rfl)
              · skip
                refine lv_aload_n hx hb dL_law_221 rfl (lv_at hl 7 rfl) ?_
                refine lv_bipush (v := 8) hx hb dL_law_222 (by decide) ?_
                refine r_count (rest := []) X hI hz1 hl.1 rfl ⟨rfl, rfl, by decide, by decide⟩ (Nat.le_of_ble_eq_true rfl) ⟨Nat.le_refl _, Nat.le_refl _⟩ dL_law_224 (fun H locs hI => ?_)
                refine g_te (y := nI h2) ((show q_cnt P1 M1 8 = M1 6 0 2 from rfl).trans e2) ?_
                refine lv_istore (lv' := [(10, .int (nI h2)), (2, .int 1), (9, .int (nI h2)), (8, .int (nI ha)), (6, .long (q_dig (M (P 0)))), (5, .int lx4), (4, .int lx3), (3, .int (nI k)), (1, .ref (ad 6 0)), (0, .ref b)]) hx hb dL_law_227 hl (by decide) rfl (fun ls hl => ?_)
                refine lv_aload_n hx hb dL_law_229 rfl (lv_at hl 8 rfl) ?_
                refine r_undo (rest := []) X hI hi1 e2 h24 hl.1 rfl ⟨rfl, rfl, by decide, by decide⟩ (Nat.le_of_ble_eq_true rfl) ⟨Nat.le_refl _, Nat.le_refl _⟩ dL_law_230 (fun Pu81 Mu81 hUu81 H locs hI => ?_)
                have hiu81 := hUu81.1
                have hzu81 := hiu81.1
                refine lv_iload hx hb dL_law_233 (lv_at hl 0 rfl) ?_
                refine lv_if_ne (tgt := 243) hx hb dL_law_235 (by decide) (fun c82 => ?_) (fun c82 => ?_)
                · skip
                  refine lv_iload hx hb dL_law_243 (lv_at hl 0 rfl) ?_
                  refine lv_iconst (v := 1) hx hb dL_law_245 (by decide) ?_
                  refine lv_isub hx hb dL_law_246 ?_
                  refine lv_icmp_ne (tgt := 254) hx hb dL_law_247 (by decide) (fun c83 => ?_) (fun c83 => ?_)
                  · (have q1 : ¬ h2 = 0 := fun z => c82 (by rw [z]; rfl); exact absurd (by rw [if_neg q1, k_dp (by omega)]) c83)
                  · skip
                    refine lv_iconst (v := 1) hx hb dL_law_250 (by decide) ?_
                    refine lv_goto (tgt := 255) hx hb dL_law_251 (by decide) ?_
                    refine lv_istore_n (lv' := [(2, .int 1), (10, .int (nI h2)), (9, .int (nI h2)), (8, .int (nI ha)), (6, .long (q_dig (M (P 0)))), (5, .int lx4), (4, .int lx3), (3, .int (nI k)), (1, .ref (ad 6 0)), (0, .ref b)]) hx hb dL_law_255 rfl hl (by decide) rfl (fun ls hl => ?_)
                    refine lv_iinc (v := nI (k + 1)) (lv' := [(3, .int (nI (k + 1))), (2, .int 1), (10, .int (nI h2)), (9, .int (nI h2)), (8, .int (nI ha)), (6, .long (q_dig (M (P 0)))), (5, .int lx4), (4, .int lx3), (1, .ref (ad 6 0)), (0, .ref b)]) hx hb dL_law_256 hl (k := 7) rfl (nI_1 _) (by decide) rfl (fun ls hl => ?_)
                    refine lv_goto (tgt := 32) hx hb dL_law_259 (by decide) ?_
                    exact ih (k + 1) Pu81 Mu81 _ _ _ (by omega) (by omega) hiu81 hI (lv_sub hl [0, 1, 8, 9] rfl)
                · skip
                  refine lv_ldc (v := (-2000000002)) hx hb hown (hts _ qc_L_65) dL_law_238 ?_
                  refine lv_goto (tgt := 247) hx hb dL_law_240 (by decide) ?_
                  refine lv_icmp_ne (tgt := 254) hx hb dL_law_247 (by decide) (fun c84 => ?_) (fun c84 => ?_)
                  · (have q1 : h2 = 0 := (nI_eq (a := h2) (b := 0) (by omega) (by decide)).mp c82; exact absurd (if_pos q1) c84)
                  · skip
                    refine lv_iconst (v := 1) hx hb dL_law_250 (by decide) ?_
                    refine lv_goto (tgt := 255) hx hb dL_law_251 (by decide) ?_
                    refine lv_istore_n (lv' := [(2, .int 1), (10, .int (nI h2)), (9, .int (nI h2)), (8, .int (nI ha)), (6, .long (q_dig (M (P 0)))), (5, .int lx4), (4, .int lx3), (3, .int (nI k)), (1, .ref (ad 6 0)), (0, .ref b)]) hx hb dL_law_255 rfl hl (by decide) rfl (fun ls hl => ?_)
                    refine lv_iinc (v := nI (k + 1)) (lv' := [(3, .int (nI (k + 1))), (2, .int 1), (10, .int (nI h2)), (9, .int (nI h2)), (8, .int (nI ha)), (6, .long (q_dig (M (P 0)))), (5, .int lx4), (4, .int lx3), (1, .ref (ad 6 0)), (0, .ref b)]) hx hb dL_law_256 hl (k := 7) rfl (nI_1 _) (by decide) rfl (fun ls hl => ?_)
                    refine lv_goto (tgt := 32) hx hb dL_law_259 (by decide) ?_
                    exact ih (k + 1) Pu81 Mu81 _ _ _ (by omega) (by omega) hiu81 hI (lv_sub hl [0, 1, 8, 9] rfl)
            · (have q1 := (nI_eq (by omega) (by omega)).mp c54; have q2 := (nI_eq (by omega) (by omega)).mp c78; omega)
          · skip
            refine lv_aload_n hx hb dL_law_134 rfl (lv_at hl 7 rfl) ?_
            refine g_callSl (rest := []) (c_L_digest l D tb ad hj P1 M1 hz1) gm_L_digest hx hb hml hown hts hC hI qm_L_125 rfl hl.1 rfl ⟨rfl, rfl, by decide, by decide⟩ (Nat.le_of_ble_eq_true rfl) ⟨Nat.le_refl _, Nat.le_refl _⟩ dL_law_135 (fun H locs hI => ?_)
            refine lv_lload hx hb dL_law_138 (lv_at hl 3 rfl) ?_
            refine W.lcmp hx hb dL_law_140 ?_
            refine lv_if_eq (tgt := 153) hx hb dL_law_141 (by decide) (fun c85 => ?_) (fun c85 => ?_)
            · skip
              refine lv_iconst (v := 1) hx hb dL_law_153 (by decide) ?_
              refine lv_goto (tgt := 158) hx hb dL_law_154 (by decide) ?_
              refine lv_istore_n (lv' := [(2, .int 1), (9, .int (nI h2)), (8, .int (nI ha)), (6, .long (q_dig (M (P 0)))), (5, .int lx4), (4, .int lx3), (3, .int (nI k)), (1, .ref (ad 6 0)), (0, .ref b)]) hx hb dL_law_158 rfl hl (by decide) rfl (fun ls hl => ?_)
              refine lv_iload_n hx hb dL_law_159 rfl (lv_at hl 0 rfl) ?_
              refine lv_if_eq (tgt := 209) hx hb dL_law_160 (by decide) (fun c86 => absurd c86 (by decide)) (fun _ => ?_)
              refine lv_iload hx hb dL_law_163 (lv_at hl 1 rfl) ?_
              refine lv_iload hx hb dL_law_165 (lv_at hl 2 rfl) ?_
              refine lv_iconst (v := 1) hx hb dL_law_167 (by decide) ?_
              refine lv_iadd hx hb dL_law_168 ?_
              refine g_te (nI_add ha 1) ?_
              refine lv_icmp_ne (tgt := 209) hx hb dL_law_169 (by decide) (fun c87 => ?_) (fun c87 => ?_)
              · skip
                refine lv_iload_n hx hb dL_law_209 rfl (lv_at hl 0 rfl) ?_
                refine lv_if_eq (tgt := 256) hx hb dL_law_210 (by decide) (fun c88 => absurd c88 (by decide)) (fun _ => ?_)
                refine lv_iload_n hx hb dL_law_213 rfl (lv_at hl 6 rfl) ?_
                refine lv_bipush (v := 6) hx hb dL_law_214 (by decide) ?_
                refine lv_irem hx hb dL_law_216 (by decide) ?_
                refine lv_iconst (v := 5) hx hb dL_law_217 (by decide) ?_
                refine lv_icmp_ne (tgt := 256) hx hb dL_law_218 (by decide) (fun c89 => ?_) (fun c89 => ?_)
                · skip
                  refine lv_iinc (v := nI (k + 1)) (lv' := [(3, .int (nI (k + 1))), (2, .int 1), (9, .int (nI h2)), (8, .int (nI ha)), (6, .long (q_dig (M (P 0)))), (5, .int lx4), (4, .int lx3), (1, .ref (ad 6 0)), (0, .ref b)]) hx hb dL_law_256 hl (k := 6) rfl (nI_1 _) (by decide) rfl (fun ls hl => ?_)
                  refine lv_goto (tgt := 32) hx hb dL_law_259 (by decide) ?_
                  exact ih (k + 1) P1 M1 _ _ _ (by omega) (by omega) hi1 hI (lv_sub hl [0, 1, 7, 8] rfl)
                · skip
                  refine lv_aload_n hx hb dL_law_221 rfl (lv_at hl 7 rfl) ?_
                  refine lv_bipush (v := 8) hx hb dL_law_222 (by decide) ?_
                  refine r_count (rest := []) X hI hz1 hl.1 rfl ⟨rfl, rfl, by decide, by decide⟩ (Nat.le_of_ble_eq_true rfl) ⟨Nat.le_refl _, Nat.le_refl _⟩ dL_law_224 (fun H locs hI => ?_)
                  refine g_te (y := nI h2) ((show q_cnt P1 M1 8 = M1 6 0 2 from rfl).trans e2) ?_
                  refine lv_istore (lv' := [(10, .int (nI h2)), (2, .int 1), (9, .int (nI h2)), (8, .int (nI ha)), (6, .long (q_dig (M (P 0)))), (5, .int lx4), (4, .int lx3), (3, .int (nI k)), (1, .ref (ad 6 0)), (0, .ref b)]) hx hb dL_law_227 hl (by decide) rfl (fun ls hl => ?_)
                  refine lv_aload_n hx hb dL_law_229 rfl (lv_at hl 8 rfl) ?_
                  refine r_undo (rest := []) X hI hi1 e2 h24 hl.1 rfl ⟨rfl, rfl, by decide, by decide⟩ (Nat.le_of_ble_eq_true rfl) ⟨Nat.le_refl _, Nat.le_refl _⟩ dL_law_230 (fun Pu90 Mu90 hUu90 H locs hI => ?_)
                  have hiu90 := hUu90.1
                  have hzu90 := hiu90.1
                  refine lv_iload hx hb dL_law_233 (lv_at hl 0 rfl) ?_
                  refine lv_if_ne (tgt := 243) hx hb dL_law_235 (by decide) (fun c91 => ?_) (fun c91 => ?_)
                  · skip
                    refine lv_iload hx hb dL_law_243 (lv_at hl 0 rfl) ?_
                    refine lv_iconst (v := 1) hx hb dL_law_245 (by decide) ?_
                    refine lv_isub hx hb dL_law_246 ?_
                    refine lv_icmp_ne (tgt := 254) hx hb dL_law_247 (by decide) (fun c92 => ?_) (fun c92 => ?_)
                    · (have q1 : ¬ h2 = 0 := fun z => c91 (by rw [z]; rfl); exact absurd (by rw [if_neg q1, k_dp (by omega)]) c92)
                    · skip
                      refine lv_iconst (v := 1) hx hb dL_law_250 (by decide) ?_
                      refine lv_goto (tgt := 255) hx hb dL_law_251 (by decide) ?_
                      refine lv_istore_n (lv' := [(2, .int 1), (10, .int (nI h2)), (9, .int (nI h2)), (8, .int (nI ha)), (6, .long (q_dig (M (P 0)))), (5, .int lx4), (4, .int lx3), (3, .int (nI k)), (1, .ref (ad 6 0)), (0, .ref b)]) hx hb dL_law_255 rfl hl (by decide) rfl (fun ls hl => ?_)
                      refine lv_iinc (v := nI (k + 1)) (lv' := [(3, .int (nI (k + 1))), (2, .int 1), (10, .int (nI h2)), (9, .int (nI h2)), (8, .int (nI ha)), (6, .long (q_dig (M (P 0)))), (5, .int lx4), (4, .int lx3), (1, .ref (ad 6 0)), (0, .ref b)]) hx hb dL_law_256 hl (k := 7) rfl (nI_1 _) (by decide) rfl (fun ls hl => ?_)
                      refine lv_goto (tgt := 32) hx hb dL_law_259 (by decide) ?_
                      exact ih (k + 1) Pu90 Mu90 _ _ _ (by omega) (by omega) hiu90 hI (lv_sub hl [0, 1, 8, 9] rfl)
                  · skip
                    refine lv_ldc (v := (-2000000002)) hx hb hown (hts _ qc_L_65) dL_law_238 ?_
                    refine lv_goto (tgt := 247) hx hb dL_law_240 (by decide) ?_
                    refine lv_icmp_ne (tgt := 254) hx hb dL_law_247 (by decide) (fun c93 => ?_) (fun c93 => ?_)
                    · (have q1 : h2 = 0 := (nI_eq (a := h2) (b := 0) (by omega) (by decide)).mp c91; exact absurd (if_pos q1) c93)
                    · skip
                      refine lv_iconst (v := 1) hx hb dL_law_250 (by decide) ?_
                      refine lv_goto (tgt := 255) hx hb dL_law_251 (by decide) ?_
                      refine lv_istore_n (lv' := [(2, .int 1), (10, .int (nI h2)), (9, .int (nI h2)), (8, .int (nI ha)), (6, .long (q_dig (M (P 0)))), (5, .int lx4), (4, .int lx3), (3, .int (nI k)), (1, .ref (ad 6 0)), (0, .ref b)]) hx hb dL_law_255 rfl hl (by decide) rfl (fun ls hl => ?_)
                      refine lv_iinc (v := nI (k + 1)) (lv' := [(3, .int (nI (k + 1))), (2, .int 1), (10, .int (nI h2)), (9, .int (nI h2)), (8, .int (nI ha)), (6, .long (q_dig (M (P 0)))), (5, .int lx4), (4, .int lx3), (1, .ref (ad 6 0)), (0, .ref b)]) hx hb dL_law_256 hl (k := 7) rfl (nI_1 _) (by decide) rfl (fun ls hl => ?_)
                      refine lv_goto (tgt := 32) hx hb dL_law_259 (by decide) ?_
                      exact ih (k + 1) Pu90 Mu90 _ _ _ (by omega) (by omega) hiu90 hI (lv_sub hl [0, 1, 8, 9] rfl)
              · (have q1 := (nI_eq (by omega) (by omega)).mp c54; have q2 := (nI_eq (by omega) (by omega)).mp c87; omega)
            · (have q1 := (nI_eq (by omega) (by omega)).mp c54; have q2 : ¬ ha = 4 := fun z => c76 (by rw [z]; rfl); rcases hcase with ⟨-, q3⟩ | ⟨q3, -⟩; exact absurd ((lg_cmp_eq _ _).mpr q3.dig.symm) c85; omega)
      refine lv_iload_n hx hb dL_law_77 rfl (lv_at hl 4 rfl) ?_
      refine lv_iconst (v := 4) hx hb dL_law_78 (by decide) ?_
      refine lv_icmp_ge (tgt := 86) hx hb dL_law_79 (by decide) (fun c5 => ?_) (fun c5 => ?_)
      · have c5n : 4 ≤ k := (nI_leI (a := 4) (b := k) (by omega) (by omega)).mp c5
        refine lv_iload hx hb dL_law_86 (lv_at hl 3 rfl) ?_
        exact K88 _
      · have c5n : ¬ 4 ≤ k := fun z => c5 ((nI_leI (a := 4) (b := k) (by omega) (by omega)).mpr z)
        refine lv_iconst (v := 0) hx hb dL_law_82 (by decide) ?_
        refine lv_goto (tgt := 88) hx hb dL_law_83 (by decide) ?_
        exact K88 _
set_option maxHeartbeats 4000000 in
set_option maxRecDepth 100000 in
theorem n_gK.moved {u : n_gu} {U : State} (hvm : s.vm.Alike U.vm) (h : n_gK D u s) : n_gK D u U := ⟨h.1.moved hvm, fun i hi => (h.2 i hi).moved hvm⟩
end LW
set_option maxHeartbeats 4000000 in
set_option maxRecDepth 100000 in
theorem whole_start {p : Program} {e : Env} {s : State} {m : MethodId} {below : List Frame} {meth : Method} {c : Code} (l : Launch) (hflags : l.flags = flags0) {b L : Nat} {xs : Nat → Int32} (hL : L ≤ 260) (C0 : lw_At p s m meth c b L xs) : W p l e room_1 s m #[Value.ref b] below meth c s.heap [] 0 0 (lw_Z below #[Value.ref b] s) (entryFrame m ([Value.ref b] : List Value).toArray 11) := by
  have C1 := C0
  obtain ⟨hx, hb, hr, hml, hown, hts0, hX, hbl, hlocks, hgv⟩ := C0
  have hts := g_of_tbl hts0
  have hA : ∀ q : Nat, s.heap.size ≤ q → (fun q : Nat => s.heap.size ≤ q) q := fun _ h => h
  obtain ⟨D, hK0⟩ := w_K hts0
  have hN := w_gN hts0
  have hNN := w_nN hts0
  have hAO := w_AO hts0
  have hS : va_S (fun q : Nat => s.heap.size ≤ q) s.heap s.heap [] := va_S.rf
  have hP : va_P D vwCl [] s.heap := fun k q h => by simp at h
  have hD : va_D (fun q : Nat => s.heap.size ≤ q) [] := ⟨fun i j p q h => by simp at h, fun k q h => by simp at h⟩
  have hl := lv_entry ([.ref b]) (n := 11) (Nat.le_of_ble_eq_true rfl)
  rw [lg_entry_eq]
  generalize (lg_sl ([.ref b]) ++ List.replicate (11 - (lg_sl ([.ref b])).length) Slot.unset).toArray = ls at hl ⊢
  have hl : lv_has ls 11 [(0, .ref b)] := hl
  have hown : s.vm.findClass RL = some m.cls := hown
  refine va_new (ci := 4) hx hb hts i_X4 tyX4 tyX4_ok hown (hts _ ql_L_14) (hts _ qi_X4) (hts _ qz_X4) hK0 hP hD hS hA rfl (fs := n_gr0) (by decide) (Nat.le_of_ble_eq_true rfl) (Nat.le_of_ble_eq_true rfl) dL_law_0 (fun q H hP hD hS => ?_)
  have hqs : s.heap.size ≤ q := hD.2 0 _ rfl
  refine lv_dup hx hb dL_law_3 rfl ?_
  refine va_callv (va_runI (As := []) (rest := [.ref q]) ⟨hx, hb, hml, hown, hts⟩ (c_X4_init l D s.heap.size H.size q) ⟨⟨rfl, rfl, by decide, by decide, g_pay hts gm_X4_init.1.1, List.mem_cons_self, hts _ gm_X4_init.1.1, hts _ gm_X4_init.1.2, gm_X4_init.2.1, fun sig h => ?_, hts _ qm_L_114⟩, rfl, hts _ qo_X4_init⟩ ⟨?_, fun U hU hW => ⟨rfl, ⟨⟨by rw [hU]; exact hP, ⟨(va_K.moved hW.alike hK0).1, fun k q h => by simp at h⟩, g_N.warm hW hN, hAO.moved hW.alike, hqs, by rw [hU]; exact hS.1⟩, by rw [hU]⟩, n_N.warm hW hNN⟩⟩ rfl rfl hl.1 rfl (lv_room (Nat.le_of_ble_eq_true rfl)) dL_law_4 ⟨Nat.le_of_ble_eq_true rfl, Nat.le_of_ble_eq_true rfl⟩) hS (fun x _ h => by rw [h]; exact hqs) hA (fun u t H1 locs ht hvm hp hB hz1 hk1 hS => ?_)
  · have h2 := gm_X4_init.2.2
    rw [h] at h2
    exact (Option.some.inj h2).symm
  · rintro a U g mk ⟨h, ⟨⟨hP, hK, hN, hAO, h1, h2⟩, h3⟩, hNN⟩
    exact ⟨h, ⟨⟨hP, va_K.moved (u := U) (U := U.calling g mk a) (Vm.Alike.refl U.vm) hK, hN.call, n_AO.moved (u := U) (U := U.calling g mk a) (Vm.Alike.refl U.vm) hAO, h1, h2⟩, h3⟩, hNN.call⟩
  obtain ⟨hB1, hB2⟩ := hB
  rw [ht] at hB1
  obtain ⟨hP, hD⟩ := n_add (ws := []) hP hD hk1 hB1 hp (fun x hx => Nat.le_trans hqs (Nat.le_trans (Nat.le_of_lt (hP 0 _ rfl).lt) hx))
  have hKu := n_gK.moved hvm.symm hB2
  have hP : va_P D vwCl (n_gw q u) H1 := hP
  have hD : va_D (fun x : Nat => s.heap.size ≤ x) (n_gw q u) := hD
  refine W.widen (k := 687037) (n := 7041138) (Nat.le_of_ble_eq_true rfl) (Nat.le_of_ble_eq_true rfl) ?_
  obtain ⟨hT, hKt⟩ := w_tys hKu
  obtain ⟨hj, hAd⟩ := w_inj (b := q) hT hD
  have hC : g_C D (w_tb u) (w_ad q u) (fun x : Nat => s.heap.size ≤ x) s := ⟨hKt, hN, w_sta hts0 hgv (fun a h1 h2 => absurd h1 (Nat.not_lt.mpr h2)), hj, hAd⟩
  have hI : g_I D (w_tb u) (w_ad q u) (fun x : Nat => s.heap.size ≤ x) s H1 locs w_P w_M := ⟨w_world hT hP, hS⟩
  have X : L_x p s m #[Value.ref b] c cL_law 11 D (w_tb u) (w_ad q u) (fun x : Nat => s.heap.size ≤ x) := ⟨hx, hb, hml, hown, hts, hC, hj⟩
  have hi : z_In w_P w_M ((0 : Nat) : Int) := ⟨w_Rel0, w_v4⟩
  have hz : z_Rel w_P w_M 0 0 0 := w_Rel0
  generalize w_tb u = tb at hC hI X
  have eq0 : w_ad q u 6 0 = q := rfl
  generalize w_ad q u = ad at hC hI X hj eq0
  subst eq0
  generalize w_P = P at hi hz hI
  have he0 : w_M 6 0 2 = nI 0 := rfl
  generalize w_M = M at hi hz hI he0
  refine lv_astore_n (lv' := [(1, .ref (ad 6 0)), (0, .ref b)]) hx hb dL_law_7 rfl hl (by decide) rfl (fun ls hl => ?_)
  refine lv_aload_n hx hb dL_law_8 rfl (lv_at hl 0 rfl) ?_
  refine g_callSi (rest := []) (c_L_holds l D tb ad hj P M hz (hi.2 0 (by decide) (by decide))) rfl rfl gm_L_holds hx hb hml hown hts hC hI qm_L_115 rfl hl.1 rfl ⟨rfl, rfl, by decide, by decide⟩ (Nat.le_of_ble_eq_true rfl) ⟨Nat.le_refl _, Nat.le_refl _⟩ dL_law_9 (fun H locs hI => ?_)
  refine lv_if_eq (tgt := 28) hx hb dL_law_12 (by decide) (fun c1 => absurd c1 (by decide)) (fun _ => ?_)
  refine lv_aload_n hx hb dL_law_15 rfl (lv_at hl 0 rfl) ?_
  refine r_undo (rest := []) X hI hi he0 (Nat.zero_le _) hl.1 rfl ⟨rfl, rfl, by decide, by decide⟩ (Nat.le_of_ble_eq_true rfl) ⟨Nat.le_refl _, Nat.le_refl _⟩ dL_law_16 (fun P1 M1 hU H locs hI => ?_)
  refine g_te (y := (-2000000002)) (if_pos rfl) ?_
  refine lv_ldc (v := (-2000000002)) hx hb hown (hts _ qc_L_65) dL_law_19 ?_
  refine lv_icmp_ne (tgt := 28) hx hb dL_law_21 (by decide) (fun c2 => absurd c2 (by decide)) (fun _ => ?_)
  refine lv_iconst (v := 1) hx hb dL_law_24 (by decide) ?_
  refine lv_goto (tgt := 29) hx hb dL_law_25 (by decide) ?_
  refine lv_istore_n (lv' := [(2, .int 1), (1, .ref (ad 6 0)), (0, .ref b)]) hx hb dL_law_29 rfl hl (by decide) rfl (fun ls hl => ?_)
  refine lv_iconst (v := 0) hx hb dL_law_30 (by decide) ?_
  refine lv_istore_n (lv' := [(3, .int 0), (2, .int 1), (1, .ref (ad 6 0)), (0, .ref b)]) hx hb dL_law_31 rfl hl (by decide) rfl (fun ls hl => ?_)
  exact w_loop C1 hL hC (36 + 1) 0 P1 M1 _ _ _ (Nat.zero_le _) (by omega) hU.1 hI (lv_sub hl [0, 1, 2, 3] rfl)
