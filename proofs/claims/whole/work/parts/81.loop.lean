/-! ===== the law: its loop, and its start ===== -/
set_option maxHeartbeats 4000000 in
set_option maxRecDepth 100000 in
theorem w_loop {p : Program} {l : Launch} {e : Env} {s : State} {m : MethodId} {below : List Frame} {meth : Method} {c : Code} {b L : Nat} {xs : Nat → Int32} {D : va_G} {tb : g_T} {ad : g_Ad} (C0 : lw_At p s m meth c b L xs) (hL : L ≤ 2048) (hC : g_C D tb ad (fun q => s.heap.size ≤ q) s) : ∀ (d k : Nat) (P : g_P) (M : g_M) (H : Heap) (locs : List Loc) (ls : Array Slot), 4 * k ≤ L → L < 4 * (k + d) → z_Rc P M (k : Int) → g_I D tb ad (fun q => s.heap.size ≤ q) s H locs P M → lv_has ls 4 [(3, .int (nI (4 * k))), (2, .ref (ad 7 0)), (1, .ref (ad 6 0)), (0, .ref b)] → W p l e room_1 s m #[Value.ref b] below meth c H locs 600000 7302250 (lw_Z below #[Value.ref b] s) (F0 m 18 ls []) := by
  have C1 := C0
  obtain ⟨hx, hb, hr, hml, hown, hts0, hX, hbl, hlocks, hgv⟩ := C0
  have hbA : ¬ (fun q => s.heap.size ≤ q) b := Nat.not_le.mpr hbl
  intro d
  induction d with
  | zero => intros; omega
  | succ d ih =>
    intro k P M H locs ls hk hd h hI hl
    have hls : (nI L - 4).toInt = (L : Int) - 4 := by
      have e : (nI L).toInt = L := nI_toInt (by omega)
      rw [z_sub (by rw [e]; show _ ≤ (L : Int) - 4; omega) (by rw [e]; show (L : Int) - 4 < _; omega), e]
      rfl
    have hki : (nI (4 * k)).toInt = ((4 * k : Nat) : Int) := nI_toInt (by omega)
    refine lv_iload_n hx hb dL_law_18 rfl (lv_at hl 0 rfl) ?_
    refine lv_aload_n hx hb dL_law_19 rfl (lv_at hl 3 rfl) ?_
    refine va_slen hx hb hX hbl hbA hI.2 dL_law_20 ?_
    refine lv_iconst (v := 4) hx hb dL_law_21 (by decide) ?_
    refine lv_isub hx hb dL_law_22 ?_
    refine lv_icmp_gt (tgt := 896) hx hb dL_law_23 (by decide) (fun c1 => ?_) (fun c1 => ?_)
    · refine lv_iconst (v := 1) hx hb dL_law_896 (by decide) ?_
      refine va_forget (fun q hq => hI.2.2.2 q hq) ?_
      refine W.base ?_
      exact lw_ret (Drawn.sameBut.refl s.drawn lw_cs) hx hb hr hlocks dL_law_897
    · have hk4 : 4 * k + 4 ≤ L := by
        have c1 : ¬ nI L - 4 < nI (4 * k) := c1
        rw [Int32.lt_iff_toInt_lt, hls, hki] at c1
        omega
      have K : ∀ (P1 : g_P) (M2 : g_M) (H1 : Heap) (locs1 : List Loc), z_Rc P1 M2 ((k : Int) + 1) → g_I D tb ad (fun q => s.heap.size ≤ q) s H1 locs1 P1 M2 → W p l e room_1 s m #[Value.ref b] below meth c H1 locs1 600000 7302250 (lw_Z below #[Value.ref b] s) (F0 m 890 ls []) := by
        intro P1 M2 H1 locs1 h1 hI1
        refine lv_iinc (v := nI (4 * (k + 1))) (lv' := [(3, .int (nI (4 * (k + 1)))), (2, .ref (ad 7 0)), (1, .ref (ad 6 0)), (0, .ref b)]) hx hb dL_law_890 hl (k := 0) rfl (nI_add (4 * k) 4) (by decide) rfl (fun ls hl => ?_)
        refine lv_goto (tgt := 18) hx hb dL_law_893 (by decide) ?_
        exact ih (k + 1) P1 M2 H1 locs1 ls (by omega) (by omega) (by rw [show ((k + 1 : Nat) : Int) = (k : Int) + 1 by omega]; exact h1) hI1 hl
      refine lv_aload_n hx hb dL_law_26 rfl (lv_at hl 3 rfl) ?_
      refine lv_iload_n hx hb dL_law_27 rfl (lv_at hl 0 rfl) ?_
      refine va_sld hx hb hX hbl hbA hI.2 (vp_in_nI (show 4 * k < L by omega) (by omega)) dL_law_28 ?_
      refine lv_bipush (v := 31) hx hb dL_law_29 (by decide) ?_
      refine lv_iand hx hb dL_law_31 ?_
      generalize (xs (nI (4 * k)).toNatClampNeg) &&& 31 = x
      by_cases co : x.toInt < 0 ∨ 25 < x.toInt
      · exact lv_tableOut (tgt := 890) hx hb dL_law_32 co (by decide) (K P M H locs (z_Rc.up h (by omega)) hI)
      · rcases (show x.toInt = 0 ∨ x.toInt = 1 ∨ x.toInt = 2 ∨ x.toInt = 3 ∨ x.toInt = 4 ∨ x.toInt = 5 ∨ x.toInt = 6 ∨ x.toInt = 7 ∨ x.toInt = 8 ∨ x.toInt = 9 ∨ x.toInt = 10 ∨ x.toInt = 11 ∨ x.toInt = 12 ∨ x.toInt = 13 ∨ x.toInt = 14 ∨ x.toInt = 15 ∨ x.toInt = 16 ∨ x.toInt = 17 ∨ x.toInt = 18 ∨ x.toInt = 19 ∨ x.toInt = 20 ∨ x.toInt = 21 ∨ x.toInt = 22 ∨ x.toInt = 23 ∨ x.toInt = 24 ∨ x.toInt = 25 by omega) with e | e | e | e | e | e | e | e | e | e | e | e | e | e | e | e | e | e | e | e | e | e | e | e | e | e
        · exact lv_tableIn (off := 120) (tgt := 152) hx hb dL_law_32 (by omega) (by omega) (by rw [e]; rfl) (by decide) (w_case_store C1 hL hC hk4 h hI hl K)
        · exact lv_tableIn (off := 163) (tgt := 195) hx hb dL_law_32 (by omega) (by omega) (by rw [e]; rfl) (by decide) (w_case_split C1 hL hC hk4 h hI hl K)
        · exact lv_tableIn (off := 196) (tgt := 228) hx hb dL_law_32 (by omega) (by omega) (by rw [e]; rfl) (by decide) (w_case_join C1 hL hC hk4 h hI hl K)
        · exact lv_tableIn (off := 229) (tgt := 261) hx hb dL_law_32 (by omega) (by omega) (by rw [e]; rfl) (by decide) (w_case_hand C1 hL hC hk4 h hI hl K)
        · exact lv_tableIn (off := 262) (tgt := 294) hx hb dL_law_32 (by omega) (by omega) (by rw [e]; rfl) (by decide) (w_case_deliver C1 hL hC hk4 h hI hl K)
        · exact lv_tableIn (off := 285) (tgt := 317) hx hb dL_law_32 (by omega) (by omega) (by rw [e]; rfl) (by decide) (w_case_pledge C1 hL hC hk4 h hI hl K)
        · exact lv_tableIn (off := 328) (tgt := 360) hx hb dL_law_32 (by omega) (by omega) (by rw [e]; rfl) (by decide) (w_case_repay C1 hL hC hk4 h hI hl K)
        · exact lv_tableIn (off := 361) (tgt := 393) hx hb dL_law_32 (by omega) (by omega) (by rw [e]; rfl) (by decide) (w_case_price C1 hL hC hk4 h hI hl K)
        · exact lv_tableIn (off := 394) (tgt := 426) hx hb dL_law_32 (by omega) (by omega) (by rw [e]; rfl) (by decide) (w_case_call C1 hL hC hk4 h hI hl K)
        · exact lv_tableIn (off := 417) (tgt := 449) hx hb dL_law_32 (by omega) (by omega) (by rw [e]; rfl) (by decide) (w_case_pass C1 hL hC hk4 h hI hl K)
        · exact lv_tableIn (off := 440) (tgt := 472) hx hb dL_law_32 (by omega) (by omega) (by rw [e]; rfl) (by decide) (w_case_lose C1 hL hC hk4 h hI hl K)
        · exact lv_tableIn (off := 473) (tgt := 505) hx hb dL_law_32 (by omega) (by omega) (by rw [e]; rfl) (by decide) (w_case_regrade C1 hL hC hk4 h hI hl K)
        · exact lv_tableIn (off := 506) (tgt := 538) hx hb dL_law_32 (by omega) (by omega) (by rw [e]; rfl) (by decide) (w_case_set C1 hL hC hk4 h hI hl K)
        · exact lv_tableIn (off := 539) (tgt := 571) hx hb dL_law_32 (by omega) (by omega) (by rw [e]; rfl) (by decide) (w_case_receiptOf C1 hL hC hk4 h hI hl K)
        · exact lv_tableIn (off := 572) (tgt := 604) hx hb dL_law_32 (by omega) (by omega) (by rw [e]; rfl) (by decide) (w_case_receipt C1 hL hC hk4 h hI hl K)
        · exact lv_tableIn (off := 595) (tgt := 627) hx hb dL_law_32 (by omega) (by omega) (by rw [e]; rfl) (by decide) (w_case_binOf C1 hL hC hk4 h hI hl K)
        · exact lv_tableIn (off := 628) (tgt := 660) hx hb dL_law_32 (by omega) (by omega) (by rw [e]; rfl) (by decide) (w_case_gradeOf C1 hL hC hk4 h hI hl K)
        · exact lv_tableIn (off := 661) (tgt := 693) hx hb dL_law_32 (by omega) (by omega) (by rw [e]; rfl) (by decide) (w_case_ownerOf C1 hL hC hk4 h hI hl K)
        · exact lv_tableIn (off := 694) (tgt := 726) hx hb dL_law_32 (by omega) (by omega) (by rw [e]; rfl) (by decide) (w_case_lenderOf C1 hL hC hk4 h hI hl K)
        · exact lv_tableIn (off := 727) (tgt := 759) hx hb dL_law_32 (by omega) (by omega) (by rw [e]; rfl) (by decide) (w_case_fallTo C1 hL hC hk4 h hI hl K)
        · exact lv_tableIn (off := 750) (tgt := 782) hx hb dL_law_32 (by omega) (by omega) (by rw [e]; rfl) (by decide) (w_case_count C1 hL hC hk4 h hI hl K)
        · exact lv_tableIn (off := 773) (tgt := 805) hx hb dL_law_32 (by omega) (by omega) (by rw [e]; rfl) (by decide) (w_case_undo C1 hL hC hk4 h hI hl K)
        · exact lv_tableIn (off := 786) (tgt := 818) hx hb dL_law_32 (by omega) (by omega) (by rw [e]; rfl) (by decide) (w_case_type C1 hL hC hk4 h hI hl K)
        · exact lv_tableIn (off := 809) (tgt := 841) hx hb dL_law_32 (by omega) (by omega) (by rw [e]; rfl) (by decide) (w_case_clearText C1 hL hC hk4 h hI hl K)
        · exact lv_tableIn (off := 822) (tgt := 854) hx hb dL_law_32 (by omega) (by omega) (by rw [e]; rfl) (by decide) (w_case_fault C1 hL hC hk4 h hI hl K)
        · exact lv_tableIn (off := 845) (tgt := 877) hx hb dL_law_32 (by omega) (by omega) (by rw [e]; rfl) (by decide) (w_case_play C1 hL hC hk4 h hI hl K)
set_option maxHeartbeats 4000000 in
set_option maxRecDepth 100000 in
theorem n_gK.moved {D : va_G} {u : n_gu} {s U : State} (hvm : s.vm.Alike U.vm) (h : n_gK D u s) : n_gK D u U := ⟨h.1.moved hvm, fun i hi => (h.2 i hi).moved hvm⟩
set_option maxHeartbeats 4000000 in
set_option maxRecDepth 100000 in
theorem whole_start {p : Program} {e : Env} {s : State} {m : MethodId} {below : List Frame} {meth : Method} {c : Code} (l : Launch) (hflags : l.flags = flags0) {b L : Nat} {xs : Nat → Int32} (hL : L ≤ 2048) (C0 : lw_At p s m meth c b L xs) : W p l e room_1 s m #[Value.ref b] below meth c s.heap [] 0 0 (lw_Z below #[Value.ref b] s) (entryFrame m ([Value.ref b] : List Value).toArray 4) := by
  have C1 := C0
  obtain ⟨hx, hb, hr, hml, hown, hts0, hX, hbl, hlocks, hgv⟩ := C0
  have hts := g_of_tbl hts0
  have hA : ∀ q : Nat, s.heap.size ≤ q → (fun q : Nat => s.heap.size ≤ q) q := fun _ h => h
  obtain ⟨D, hK0⟩ := w_K hts0
  have hN := w_gN hts0
  have hNN := w_nN hts0
  have hAO := w_AO hts0
  have hS : va_S (fun q : Nat => s.heap.size ≤ q) s.heap s.heap [] := va_S.rf
  have hP : va_P D vwCl [] s.heap := fun k q h => by simp at h
  have hD : va_D (fun q : Nat => s.heap.size ≤ q) [] := ⟨fun i j p q h => by simp at h, fun k q h => by simp at h⟩
  have hl := lv_entry ([.ref b]) (n := 4) (Nat.le_of_ble_eq_true rfl)
  rw [lg_entry_eq]
  generalize (lg_sl ([.ref b]) ++ List.replicate (4 - (lg_sl ([.ref b])).length) Slot.unset).toArray = ls at hl ⊢
  have hl : lv_has ls 4 [(0, .ref b)] := hl
  have hown : s.vm.findClass RL = some m.cls := hown
  refine va_new (ci := 4) hx hb hts i_X4 tyX4 tyX4_ok hown (hts _ ql_L_7) (hts _ qi_X4) (hts _ qz_X4) hK0 hP hD hS hA rfl (fs := n_gr0) (by decide) (Nat.le_of_ble_eq_true rfl) (Nat.le_of_ble_eq_true rfl) dL_law_0 (fun q H hP hD hS => ?_)
  have hqs : s.heap.size ≤ q := hD.2 0 _ rfl
  refine lv_dup hx hb dL_law_3 rfl ?_
  refine va_callv (va_runI (As := []) (rest := [.ref q]) ⟨hx, hb, hml, hown, hts⟩ (c_X4_init l D s.heap.size H.size q) ⟨⟨rfl, rfl, by decide, by decide, g_pay hts gm_X4_init.1.1, List.mem_cons_self, hts _ gm_X4_init.1.1, hts _ gm_X4_init.1.2, gm_X4_init.2.1, fun sig h => ?_, hts _ qm_L_9⟩, rfl, hts _ qo_X4_init⟩ ⟨?_, fun U hU hW => ⟨rfl, ⟨⟨by rw [hU]; exact hP, ⟨(va_K.moved hW.alike hK0).1, fun k q h => by simp at h⟩, g_N.warm hW hN, hAO.moved hW.alike, hqs, by rw [hU]; exact hS.1⟩, by rw [hU]⟩, n_N.warm hW hNN⟩⟩ rfl rfl hl.1 rfl (lv_room (Nat.le_of_ble_eq_true rfl)) dL_law_4 ⟨Nat.le_of_ble_eq_true rfl, Nat.le_of_ble_eq_true rfl⟩) hS (fun x _ h => by rw [h]; exact hqs) hA (fun u t H1 locs ht hvm hp hB hz1 hk1 hS => ?_)
  · have h2 := gm_X4_init.2.2
    rw [h] at h2
    exact (Option.some.inj h2).symm
  · rintro a U g mk ⟨h, ⟨⟨hP, hK, hN, hAO, h1, h2⟩, h3⟩, hNN⟩
    exact ⟨h, ⟨⟨hP, va_K.moved (u := U) (U := U.calling g mk a) (Vm.Alike.refl U.vm) hK, hN.call, n_AO.moved (u := U) (U := U.calling g mk a) (Vm.Alike.refl U.vm) hAO, h1, h2⟩, h3⟩, hNN.call⟩
  obtain ⟨hB1, hB2⟩ := hB
  rw [ht] at hB1
  obtain ⟨hP, hD⟩ := n_add (ws := []) hP hD hk1 hB1 hp (fun x hx => Nat.le_trans hqs (Nat.le_trans (Nat.le_of_lt (hP 0 _ rfl).lt) hx))
  have hKu := n_gK.moved hvm.symm hB2
  refine lv_astore_n (lv' := [(1, .ref q), (0, .ref b)]) hx hb dL_law_7 rfl hl (by decide) rfl (fun ls hl => ?_)
  refine va_new (ci := 5) hx hb hts i_X5 tyX5 tyX5_ok hown (hts _ ql_L_10) (hts _ qi_X5) (hts _ qz_X5) hK0 hP hD hS hA rfl (fs := n_x0) (by decide) (Nat.le_of_ble_eq_true rfl) (Nat.le_of_ble_eq_true rfl) dL_law_8 (fun q2 H hP hD hS => ?_)
  have hq2s : s.heap.size ≤ q2 := hD.2 _ _ (n_atR rfl)
  refine lv_dup hx hb dL_law_11 rfl ?_
  refine va_callv (va_runI (As := []) (rest := [.ref q2]) ⟨hx, hb, hml, hown, hts⟩ (c_X5_init l D s.heap.size H.size q2) ⟨⟨rfl, rfl, by decide, by decide, g_pay hts gm_X5_init.1.1, List.mem_cons_self, hts _ gm_X5_init.1.1, hts _ gm_X5_init.1.2, gm_X5_init.2.1, fun sig h => ?_, hts _ qm_L_12⟩, rfl, hts _ qo_X5_init⟩ ⟨?_, fun U hU hW => ⟨rfl, ⟨by rw [hU]; exact n_one hP (n_atR rfl), ⟨(va_K.moved hW.alike hK0).1, fun k q h => by simp at h⟩, g_N.warm hW hN, hAO.moved hW.alike, hq2s, by rw [hU]; exact hS.1⟩, by rw [hU]⟩⟩ rfl rfl hl.1 rfl (lv_room (Nat.le_of_ble_eq_true rfl)) dL_law_12 ⟨Nat.le_of_ble_eq_true rfl, Nat.le_of_ble_eq_true rfl⟩) hS (fun x _ h => by rw [h]; exact hq2s) hA (fun v t H1 locs ht hvm hp hB hz1 hk1 hS => ?_)
  · have h2 := gm_X5_init.2.2
    rw [h] at h2
    exact (Option.some.inj h2).symm
  · rintro a U g mk ⟨h, ⟨hP, hK, hN, hAO, h1, h2⟩, h3⟩
    exact ⟨h, ⟨hP, va_K.moved (u := U) (U := U.calling g mk a) (Vm.Alike.refl U.vm) hK, hN.call, n_AO.moved (u := U) (U := U.calling g mk a) (Vm.Alike.refl U.vm) hAO, h1, h2⟩, h3⟩
  obtain ⟨hB1, hB2⟩ := hB
  rw [ht] at hB1
  obtain ⟨hP, hD⟩ := n_add hP hD hk1 hB1 hp (fun x hx => Nat.le_trans hq2s (Nat.le_trans (Nat.le_of_lt (hP _ _ (n_atR rfl)).lt) hx))
  have hKv := va_K.moved hvm.symm hB2
  have hP : va_P D vwCl (n_gw q u ++ n_xw q2 v) H1 := hP
  have hD : va_D (fun x : Nat => s.heap.size ≤ x) (n_gw q u ++ n_xw q2 v) := hD
  refine lv_astore_n (lv' := [(2, .ref q2), (1, .ref q), (0, .ref b)]) hx hb dL_law_15 rfl hl (by decide) rfl (fun ls hl => ?_)
  refine lv_iconst (v := 0) hx hb dL_law_16 (by decide) ?_
  refine lv_istore_n (lv' := [(3, .int (nI (4 * 0))), (2, .ref q2), (1, .ref q), (0, .ref b)]) hx hb dL_law_17 rfl hl (by decide) rfl (fun ls hl => ?_)
  refine W.widen (k := 600000) (n := 7302250) (Nat.le_of_ble_eq_true rfl) (Nat.le_of_ble_eq_true rfl) ?_
  obtain ⟨hT, hKt⟩ := w_tys hKu hKv
  obtain ⟨hj, hAd⟩ := w_inj (b := q) (b' := q2) hT hD
  have hC : g_C D (w_tb u v) (w_ad q u q2 v) (fun x : Nat => s.heap.size ≤ x) s := ⟨hKt, hN, w_sta hts0 hgv (fun a h1 h2 => absurd h1 (Nat.not_lt.mpr h2)), hj, hAd⟩
  exact w_loop C1 hL hC (L / 4 + 1) 0 w_P w_M H1 locs ls (by omega) (by omega) w_Rel0 ⟨w_world hT hP, hS⟩ hl
