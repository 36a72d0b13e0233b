/-! ===== the class' own constructor ===== -/
theorem va_D.left {A : Nat → Prop} {w1 w2 : va_W} (h : va_D A (w1 ++ w2)) : va_D A w1 := by
  have key : ∀ (k : Nat) (q : Nat × va_E), w1[k]? = some q → (w1 ++ w2)[k]? = some q := fun k q hk => n_atL hk
  exact ⟨fun i j p q hp hq => h.1 i j p q (key i p hp) (key j q hq), fun k q hk => h.2 k q (key k q hk)⟩
theorem va_P.left {D : va_G} {cl : List vw_C} {w1 w2 : va_W} {H : Heap} (h : va_P D cl (w1 ++ w2) H) : va_P D cl w1 H := fun k q hk => h k q (n_atL hk)
/-- a new object's cell, and what its constructor makes of it, beside the rest -/
theorem n_add {A : Nat → Prop} {D : va_G} {ws wc : va_W} {q : Nat} {e0 : va_E} {H H1 : Heap} (hP : va_P D vwCl (ws ++ [(q, e0)]) H) (hD : va_D A (ws ++ [(q, e0)])) (hk : ∀ x : Nat, x < H.size → ¬ x = q → H1[x]? = H[x]?) (hP1 : va_P D vwCl wc H1) (hD1 : va_D (n_A q H.size) wc) (hA : ∀ x, H.size ≤ x → A x) : va_P D vwCl (ws ++ wc) H1 ∧ va_D A (ws ++ wc) := by
  have hq : (ws ++ [(q, e0)])[ws.length]? = some (q, e0) := n_atR rfl
  have hne : ∀ (k : Nat) (x : Nat × va_E), ws[k]? = some x → x.1 ≠ q := fun k x hx z => by
    have h1 := hD.1 k ws.length x _ (n_atL hx) hq z
    have h2 := (List.getElem?_eq_some_iff.mp hx).1
    omega
  have hlt : ∀ (k : Nat) (x : Nat × va_E), ws[k]? = some x → x.1 < H.size := fun k x hx => (hP k x (n_atL hx)).lt
  refine ⟨(hP.left.kept (fun k x hx => hk x.1 (hlt k x hx) (hne k x hx))).app hP1, va_D.app hD.left (hD1.weaken (fun k x _ h => ?_)) (fun i j x y hx hy hxy => ?_)⟩
  · rcases h with h | h
    · rw [h]; exact hD.2 _ _ hq
    · exact hA _ h
  · rcases hD1.2 j y hy with h | h
    · exact hne i x hx (hxy.trans h)
    · have := hlt i x hx
      omega
abbrev n_gr0 : List Value := [.null, .null, .int 0, .null, .null]
abbrev n_S : Type := Nat → Nat × n_u6 × n_c6
def n_sts (S : n_S) : Nat → va_W
  | 0 => []
  | k + 1 => n_sts S k ++ n_sw (S k).1 (S k).2
theorem n_sw_len {b : Nat} {u : n_u6 × n_c6} : (n_sw b u).length = 28 := by
  unfold n_sw
  rw [List.length_append, List.length_append, n_many_len, n_many_len]
  rfl
theorem n_sts_len (S : n_S) : ∀ k, (n_sts S k).length = 28 * k
  | 0 => rfl
  | k + 1 => by rw [n_sts, List.length_append, n_sts_len S k, n_sw_len]; omega
theorem n_sts_up {S : n_S} {x : Nat × n_u6 × n_c6} {j : Nat} : ∀ {k : Nat}, k ≤ j → n_sts (va_up S j x) k = n_sts S k
  | 0, _ => rfl
  | k + 1, h => by rw [n_sts, n_sts, n_sts_up (Nat.le_of_succ_le h), va_up_ne S x (by omega)]
theorem n_sts_push {S : n_S} {x : Nat × n_u6 × n_c6} {k : Nat} : n_sts (va_up S k x) (k + 1) = n_sts S k ++ n_sw x.1 x.2 := by
  rw [n_sts, n_sts_up (Nat.le_refl k), va_up_self]
theorem n_sw_0 {b : Nat} {u : n_u6 × n_c6} : ∃ e, (n_sw b u)[0]? = some (b, e) := ⟨_, n_atL (n_atL rfl)⟩
abbrev n_uS : Type := Nat × Nat × ClassId × ClassId
abbrev n_gh (b sc a : Nat) (us : n_uS) (tH : ClassId) (fs : List Value) (h : Nat → Option Nat) : va_W := (b, .inr (4, fs)) :: (n_sc sc us ++ [(a, .inl (tH, 4, .inr (.inr (.inr (.inr h)))))])
abbrev n_gu : Type := Nat × Nat × n_uS × ClassId × n_S
abbrev n_gr (sc a : Nat) (n0 n1 : Value) : List Value := [.ref sc, .ref a, .int 0, n0, n1]
abbrev n_gw (b : Nat) (u : n_gu) : va_W := n_gh b u.1 u.2.1 u.2.2.1 u.2.2.2.1 (n_gr u.1 u.2.1 (.ref (u.2.2.2.2 0).1) (.ref (u.2.2.2.2 1).1)) (n_refs (fun i => (u.2.2.2.2 (2 + i)).1) 4) ++ n_sts u.2.2.2.2 6
/-- the types of the arrays -/
def n_gK (D : va_G) (u : n_gu) (U : State) : Prop := va_K D vwCl [(u.2.2.1.2.2.1, .char), (u.2.2.1.2.2.2, .int), (u.2.2.2.1, .object RX3)] U ∧ ∀ i, i < 6 → va_K D vwCl (n_sty (u.2.2.2.2 i).2) U
section NCM
variable {p : Program} {l : Launch} {e : Env} {R : Room} {s : State} {m : MethodId} {args : Array Value} {below : List Frame} {meth : Method} {c : Code} {H : Heap} {locs : List Loc} {cells slots : Nat} {Q : State → Prop}
variable {cc : ByteArray} {pc nL : Nat} {ls : Array Slot} {rest : List Value} {D : va_G} {A : Nat → Prop} {own host : String} {index : Nat} {y : MethodName} {cd : ByteArray} {rm : Room} {ws : va_W} {tys : List (ClassId × FieldType)}
/-- a state's constructor is called -/
theorem n_callS {q0 : Nat} (hx : p.tables.exec = Jvm.exec) (hb : c.code = cc) (hml : c.maxLocals = nL) (hown : s.vm.findClass RX4 = some m.cls) (hts : ∀ w ∈ g_tbl, w.before args s = true) (hK : va_K D vwCl tys s) (hN : g_N s) (hAO : n_AO s) (hNN : n_N s)
    (hP : va_P D vwCl (ws ++ [(q0, .inr (3, n_st0))]) H) (hD : va_D A (ws ++ [(q0, .inr (3, n_st0))])) (hS : va_S A s.heap H locs) (hA : ∀ q, s.heap.size ≤ q → A q) (hbs : s.heap.size ≤ q0) (hl : ls.size = nL) (hR : 3 ≤ R.frames ∧ 8 + (2 + 11) + 60 ≤ R.locals) (hW : (rest.map fun v => v.category).sum ≤ 8) (hcap : cells + 27 ≤ R.cells ∧ slots + 161 ≤ R.slots) (hdg : decode cc pc = .ok (.invokespecial 22, 3))
    (kk : ∀ (u : n_u6 × n_c6) (H1 : Heap) (locs1 : List Loc), va_P D vwCl (ws ++ n_sw q0 u) H1 → va_D A (ws ++ n_sw q0 u) → va_S A s.heap H1 locs1 → va_K D vwCl (n_sty u) s → W p l e R s m args below meth c H1 locs1 (cells + 27) (slots + 161) Q (F0 m (pc + 3) ls rest)) : W p l e R s m args below meth c H locs cells slots Q (F0 m pc ls (.ref q0 :: rest)) := by
  refine va_callv (va_runI (As := []) (rest := rest) ⟨hx, hb, hml, hown, hts⟩ (c_X3_init l D s.heap.size H.size q0) ⟨⟨rfl, rfl, hR.1, hR.2, g_pay hts gm_X3_init.1.1, List.mem_cons_self, hts _ gm_X3_init.1.1, hts _ gm_X3_init.1.2, gm_X3_init.2.1, fun sig h => ?_, hts _ qm_X4_22⟩, rfl, hts _ qo_X3_init⟩ ⟨?_, fun U hU hW => ⟨rfl, ⟨⟨by rw [hU]; exact n_one hP (n_atR rfl), ⟨(va_K.moved hW.alike hK).1, fun k q h => by simp at h⟩, g_N.warm hW hN, hAO.moved hW.alike, hbs, by rw [hU]; exact hS.1⟩, by rw [hU]⟩, n_N.warm hW hNN⟩⟩ rfl rfl hl rfl (lv_room hW) hdg hcap) hS (fun q _ h => by rw [h]; exact hD.2 _ _ (n_atR rfl)) hA (fun u t H1 locs1 ht hvm hp hB hz1 hk1 hS1 => ?_)
  · have h2 := gm_X3_init.2.2
    rw [h] at h2
    exact (Option.some.inj h2).symm
  · rintro a U g mk ⟨h, ⟨⟨hP, hK, hN, hAO, h1, h2⟩, h3⟩, hNN⟩
    exact ⟨h, ⟨⟨hP, va_K.moved (u := U) (U := U.calling g mk a) (Vm.Alike.refl U.vm) hK, hN.call, n_AO.moved (u := U) (U := U.calling g mk a) (Vm.Alike.refl U.vm) hAO, h1, h2⟩, h3⟩, hNN.call⟩
  · obtain ⟨hB1, hB2⟩ := hB
    rw [ht] at hB1
    obtain ⟨hP1, hD1⟩ := n_add hP hD hk1 hB1 hp (fun x hx => hA x (Nat.le_trans hS.1 hx))
    exact kk u H1 locs1 hP1 hD1 hS1 (va_K.moved hvm.symm hB2)
end NCM
abbrev rm_X4_init : Room := { frames := 3, cells := 172, slots := 1107, locals := 100 }
set_option maxHeartbeats 4000000 in
theorem c_X4_init (l : Launch) (D : va_G) (h0 h1 b : Nat) : Met l yX4_init (g_ws yX4_init cX4_init 2 none) rm_X4_init (va_Pc [.ref b] (fun U => n_pre2 D h0 h1 b [(b, .inr (4, n_gr0))] U ∧ n_N U))
    (va_Qv (fun u : n_gu => va_D (n_A b h1) (n_gw b u)) (fun u t => va_P D vwCl (n_gw b u) t.heap ∧ n_gK D u t) (fun q => q = b)) 172 1107 (fun q => h0 ≤ q) := by
  refine n_go2 (by decide) (Nat.le_of_ble_eq_true rfl) ?_
  intro p e s m below meth c ls H locs R args Q hR0 hQ hH hlo ha hx hb hml hr0 hlk hown hnm hts hB hl
  subst hR0; subst hH; subst hlo
  obtain ⟨⟨⟨hP, hK, hN, hAO, hb0, hs0⟩, hsz⟩, hNN⟩ := hB
  subst hsz
  have hown : s.vm.findClass RX4 = some m.cls := hown
  refine lv_aload_n hx hb dX4_init_0 rfl (lv_at hl 0 rfl) ?_
  refine W.objInit hx hb hown (hts _ qm_X4_1) (hts _ qo_init_Object) (hts _ qk_init_Object) rfl (hl.1.trans hml.symm) rfl dX4_init_1 (by decide) (Nat.le_of_ble_eq_true rfl) ?_
  refine lv_aload_n hx hb dX4_init_4 rfl (lv_at hl 0 rfl) ?_
  refine va_new (ci := 2) hx hb hts i_X2 tyX2 tyX2_ok hown (hts _ ql_X4_7) (hts _ qi_X2) (hts _ qz_X2) hK hP (n_D1 (Or.inl rfl)) n_S0 (fun _ h => Or.inr h) rfl (fs := n_sc0) (by decide) (by decide) (Nat.le_of_ble_eq_true rfl) dX4_init_5 (fun sc H hP hD hS => ?_)
  have hscs : s.heap.size ≤ sc := n_new hD (i := 1) rfl rfl (by decide)
  refine lv_dup hx hb dX4_init_8 rfl ?_
  refine va_callv (va_runIN (As := []) (rest := [.ref sc, .ref b]) (host := RX4) ⟨hx, hb, hml, hown, hts⟩ (c_X2_init l D s.heap.size H.size sc) ⟨⟨⟨rfl, rfl, by decide, by decide, g_pay hts gm_X2_init.1.1, List.mem_cons_self⟩, hts _ gm_X2_init.1.1, hts _ gm_X2_init.1.2, gm_X2_init.2.1, fun sig h => ?_, va_Nw.use rfl (hNN _ (show Cond.methodLinkNest RX4 9 yX2_init RX4 ∈ n_nest by decide +kernel))⟩, rfl, hts _ qo_X2_init⟩ ⟨?_, fun U hU hW => ⟨rfl, ⟨⟨by rw [hU]; exact n_one hP (q0 := 1) rfl, ⟨(va_K.moved hW.alike hK).1, fun k q h => by simp at h⟩, g_N.warm hW hN, hAO.moved hW.alike, hscs, by rw [hU]; exact hS.1⟩, by rw [hU]⟩⟩⟩ rfl rfl hl.1 rfl (lv_room (Nat.le_of_ble_eq_true rfl)) dX4_init_9 (by decide)) hS (fun q _ h => by rw [h]; exact hD.2 1 _ rfl) (fun _ h => Or.inr h) (fun us t H1 locs1 ht hvm hp hB hz1 hk1 hS1 => ?_)
  · have h2 := gm_X2_init.2.2
    rw [h] at h2
    exact (Option.some.inj h2).symm
  · rintro a U g mk ⟨h, ⟨hP, hK, hN, hAO, h1, h2⟩, h3⟩
    exact ⟨h, ⟨hP, va_K.moved (u := U) (U := U.calling g mk a) (Vm.Alike.refl U.vm) hK, hN.call, n_AO.moved (u := U) (U := U.calling g mk a) (Vm.Alike.refl U.vm) hAO, h1, h2⟩, h3⟩
  obtain ⟨hB1, hB2⟩ := hB
  rw [ht] at hB1
  obtain ⟨hP, hD⟩ := n_add (ws := [(b, .inr (4, n_gr0))]) hP hD hk1 hB1 hp (fun x hx => Or.inr (Nat.le_trans hS.1 hx))
  have hS := hS1
  have hK := va_K.moved hvm.symm hB2
  refine va_putF hx hb hts i_X4 tyX4 tyX4_ok nmX4 hown hK hP hD hS 0 rfl rfl 0 (by decide) (hts _ qf_X4_10) (fun _ h => h) rfl hnm rfl (ty := .object "GrainReceipts$Script") rfl rfl rfl (Nat.le_of_ble_eq_true rfl) dX4_init_12 (fun H locs hP hD hS => ?_)
  refine lv_aload_n hx hb dX4_init_15 rfl (lv_at hl 0 rfl) ?_
  refine lv_iconst (v := 4) hx hb dX4_init_16 (by decide) ?_
  refine va_newq (C := RX3) (N' := 4) hx hb hown (hts _ ql_X4_16) hAO.1 hK hP hD hS (fun _ h => Or.inr h) (by decide) rfl (by decide) (by decide) (Nat.le_of_ble_eq_true rfl) dX4_init_17 (fun a tH H hK hP hD hS => ?_)
  refine va_putF hx hb hts i_X4 tyX4 tyX4_ok nmX4 hown hK hP hD hS 0 rfl rfl 1 (by decide) (hts _ qf_X4_18) (fun _ h => h) rfl hnm rfl (ty := .array (.object "GrainReceipts$State")) rfl rfl rfl (Nat.le_of_ble_eq_true rfl) dX4_init_20 (fun H locs hP hD hS => ?_)
  have hK : va_K D vwCl [(us.2.2.1, .char), (us.2.2.2, .int), (tH, .object RX3)] s := hK
  have hP : va_P D vwCl (n_gh b sc a us tH (n_gr sc a .null .null) n_no) H := hP
  have hD : va_D (n_A b s.heap.size) (n_gh b sc a us tH (n_gr sc a .null .null) n_no) := hD
  refine lv_aload_n hx hb dX4_init_23 rfl (lv_at hl 0 rfl) ?_
  refine va_new (ci := 3) hx hb hts i_X3 tyX3 tyX3_ok hown (hts _ ql_X4_16) (hts _ qi_X3) (hts _ qz_X3) hK hP hD hS (fun _ h => Or.inr h) rfl (fs := n_st0) (by decide) (by decide) (Nat.le_of_ble_eq_true rfl) dX4_init_24 (fun q0 H hP hD hS => ?_)
  have hq0 : s.heap.size ≤ q0 := n_new hD (n_atR rfl) rfl (by exact Nat.le_of_ble_eq_true rfl)
  refine lv_dup hx hb dX4_init_27 rfl ?_
  refine n_callS (cells := 5) (slots := 86) hx hb hml hown hts hK hN hAO hNN hP hD hS (fun _ h => Or.inr h) hq0 hl.1 ⟨by decide, by decide⟩ (Nat.le_of_ble_eq_true rfl) ⟨by decide, by decide⟩ dX4_init_28 (fun u0 H locs hP hD hS hK0 => ?_)
  refine va_put hx hb hts i_X4 tyX4 tyX4_ok nmX4 hown hK hP hD hS 0 (n_atL rfl) rfl 3 (by decide) (hts _ qf_X4_23) (fun _ h => h) rfl (ty := .object "GrainReceipts$State") rfl rfl rfl (Nat.le_of_ble_eq_true rfl) dX4_init_31 (fun H locs hP hD hS => ?_)
  rw [n_setL (Nat.le_of_ble_eq_true rfl)] at hP hD
  have hP : va_P D vwCl (n_gh b sc a us tH (n_gr sc a (.ref q0) .null) n_no ++ n_sw q0 u0) H := hP
  have hD : va_D (n_A b s.heap.size) (n_gh b sc a us tH (n_gr sc a (.ref q0) .null) n_no ++ n_sw q0 u0) := hD
  refine lv_aload_n hx hb dX4_init_34 rfl (lv_at hl 0 rfl) ?_
  refine va_new (ci := 3) hx hb hts i_X3 tyX3 tyX3_ok hown (hts _ ql_X4_16) (hts _ qi_X3) (hts _ qz_X3) hK hP hD hS (fun _ h => Or.inr h) rfl (fs := n_st0) (by decide) (by decide) (Nat.le_of_ble_eq_true rfl) dX4_init_35 (fun q1 H hP hD hS => ?_)
  have hq1 : s.heap.size ≤ q1 := n_new hD (n_atR rfl) (n_atL (n_atL rfl)) (by rw [List.length_append, n_sw_len]; omega)
  refine lv_dup hx hb dX4_init_38 rfl ?_
  refine n_callS (cells := 33) (slots := 258) hx hb hml hown hts hK hN hAO hNN hP hD hS (fun _ h => Or.inr h) hq1 hl.1 ⟨by decide, by decide⟩ (Nat.le_of_ble_eq_true rfl) ⟨by decide, by decide⟩ dX4_init_39 (fun u1 H locs hP hD hS hK1 => ?_)
  refine va_put hx hb hts i_X4 tyX4 tyX4_ok nmX4 hown hK hP hD hS 0 (n_atL (n_atL rfl)) rfl 4 (by decide) (hts _ qf_X4_27) (fun _ h => h) rfl (ty := .object "GrainReceipts$State") rfl rfl rfl (Nat.le_of_ble_eq_true rfl) dX4_init_42 (fun H locs hP hD hS => ?_)
  rw [n_setL (by rw [List.length_append, n_sw_len]; omega), n_setL (Nat.le_of_ble_eq_true rfl)] at hP hD
  have hP : va_P D vwCl (n_gh b sc a us tH (n_gr sc a (.ref q0) (.ref q1)) n_no ++ n_sw q0 u0 ++ n_sw q1 u1) H := hP
  have hD : va_D (n_A b s.heap.size) (n_gh b sc a us tH (n_gr sc a (.ref q0) (.ref q1)) n_no ++ n_sw q0 u0 ++ n_sw q1 u1) := hD
  have h47 : ∀ (d k : Nat) (S : n_S) (H : Heap) (locs : List Loc) (ls : Array Slot), k ≤ 4 → 4 < k + d → va_P D vwCl (n_gh b sc a us tH (n_gr sc a (.ref (S 0).1) (.ref (S 1).1)) (n_refs (fun i => (S (2 + i)).1) k) ++ n_sts S (2 + k)) H → va_D (n_A b s.heap.size) (n_gh b sc a us tH (n_gr sc a (.ref (S 0).1) (.ref (S 1).1)) (n_refs (fun i => (S (2 + i)).1) k) ++ n_sts S (2 + k)) → va_S (n_A b s.heap.size) s.heap H locs → (∀ i, i < 2 + k → va_K D vwCl (n_sty (S i).2) s) → lv_has ls 2 [(1, .int (nI k)), (0, .ref b)] → W p l e rm_X4_init s m args below meth c H locs (60 + 28 * k) (419 + 172 * k) Q (F0 m 47 ls []) := by
    intro d
    induction d with
    | zero => intros; omega
    | succ d ih =>
      intro k S H locs ls hk hd hP hD hS hKS hl
      refine lv_iload_n hx hb dX4_init_47 rfl (lv_at hl 0 rfl) ?_
      refine lv_iconst (v := 4) hx hb dX4_init_48 (by decide) ?_
      refine lv_icmp_ge (tgt := 71) hx hb dX4_init_49 (by decide) (fun c1 => ?_) (fun c1 => ?_)
      · have hk5 : 4 ≤ k := (nI_leI (a := 4) (b := k) (by omega) (by omega)).mp c1
        obtain rfl : k = 4 := by omega
        subst hQ
        exact n_ret (sc, a, us, tH, S) hx hb hr0 hlk hS hD (fun t ht hW => ⟨by rw [ht]; exact hP, hK.moved hW.alike, fun i hi => (hKS i hi).moved hW.alike⟩) hb0 hs0 dX4_init_71
      · have hk5 : ¬ 4 ≤ k := fun z => c1 ((nI_leI (a := 4) (b := k) (by omega) (by omega)).mpr z)
        refine lv_aload_n hx hb dX4_init_52 rfl (lv_at hl 1 rfl) ?_
        refine va_get hx hb hts i_X4 hown hK hP 0 (n_atL rfl) rfl 1 (by decide) (hts _ qf_X4_18) (fun _ h => h) rfl dX4_init_53 ?_
        refine lv_iload_n hx hb dX4_init_56 rfl (lv_at hl 0 rfl) ?_
        refine va_new (ci := 3) hx hb hts i_X3 tyX3 tyX3_ok hown (hts _ ql_X4_16) (hts _ qi_X3) (hts _ qz_X3) hK hP hD hS (fun _ h => Or.inr h) rfl (fs := n_st0) (by decide) (by show 60 + 28 * k + 1 ≤ 172; omega) (by show 419 + 172 * k + 11 ≤ 1107; omega) dX4_init_57 (fun q H hP hD hS => ?_)
        have hqs : s.heap.size ≤ q := n_new hD (n_atR rfl) (n_atL (n_atL rfl)) (by rw [List.length_append]; exact Nat.lt_of_lt_of_le (by decide : 0 < 5) (Nat.le_add_right _ _))
        refine lv_dup hx hb dX4_init_60 rfl ?_
        refine n_callS hx hb hml hown hts hK hN hAO hNN hP hD hS (fun _ h => Or.inr h) hqs hl.1 ⟨by decide, by decide⟩ (Nat.le_of_ble_eq_true rfl) ⟨by show 60 + 28 * k + 1 + 27 ≤ 172; omega, by show 419 + 172 * k + 11 + 161 ≤ 1107; omega⟩ dX4_init_61 (fun u H locs hP hD hS hKu => ?_)
        have hat : ∃ qk, ((n_gh b sc a us tH (n_gr sc a (.ref (S 0).1) (.ref (S 1).1)) (n_refs (fun i => (S (2 + i)).1) k) ++ n_sts S (2 + k)) ++ n_sw q u)[qk]? = some (q, (.inr (3, [.ref u.1.1.1, .ref u.1.1.2.1, .ref u.1.1.2.2.1, .ref u.1.1.2.2.2.1, .ref u.1.1.2.2.2.2.1, .ref u.1.1.2.2.2.2.2, .int 0, .int 0, .int 0, .int 0, .int 0]) : va_E)) := ⟨((n_gh b sc a us tH (n_gr sc a (.ref (S 0).1) (.ref (S 1).1)) (n_refs (fun i => (S (2 + i)).1) k) ++ n_sts S (2 + k))).length, by rw [List.getElem?_append_right (Nat.le_refl _), Nat.sub_self]; rfl⟩
        obtain ⟨qk, hqk⟩ := hat
        refine va_astq hx hb hK hP hD hS 4 2 qk 3 (n_atL (n_atL rfl)) rfl hqk rfl (vp_in_nI (by omega) (by decide)) dX4_init_64 (fun H locs hP hD hS => ?_)
        have e1 : ∀ f : Nat → Option Nat, ((n_gh b sc a us tH (n_gr sc a (.ref (S 0).1) (.ref (S 1).1)) (n_refs (fun i => (S (2 + i)).1) k) ++ n_sts S (2 + k)) ++ n_sw q u).set 4 (a, .inl (tH, 4, .inr (.inr (.inr (.inr f))))) = n_gh b sc a us tH (n_gr sc a (.ref (S 0).1) (.ref (S 1).1)) f ++ (n_sts S (2 + k) ++ n_sw q u) := fun f => by
          rw [n_setL (by rw [List.length_append]; exact Nat.lt_of_lt_of_le (by decide : 4 < 5) (Nat.le_add_right _ _)), n_setL (Nat.le_of_ble_eq_true rfl), List.append_assoc]
          rfl
        rw [nI_clamp (by omega), n_refs_up, e1] at hP hD
        rw [show n_sts S (2 + k) ++ n_sw q u = n_sts (va_up S (2 + k) (q, u)) (2 + (k + 1)) from (n_sts_push (S := S) (x := (q, u)) (k := 2 + k)).symm] at hP hD
        have e2 : (fun i => (va_up S (2 + k) (q, u) (2 + i)).1) = va_up (fun i => (S (2 + i)).1) k q := funext fun i => by
          by_cases hi : i = k
          · subst hi; rw [va_up_self, va_up_self]
          · rw [va_up_ne _ _ hi, va_up_ne _ _ (by omega)]
        rw [← e2] at hP hD
        have e3 : S 0 = va_up S (2 + k) (q, u) 0 := (va_up_ne _ _ (by omega)).symm
        have e4 : S 1 = va_up S (2 + k) (q, u) 1 := (va_up_ne _ _ (by omega)).symm
        rw [e3, e4] at hP hD
        refine lv_iinc (v := nI (k + 1)) (lv' := [(1, .int (nI (k + 1))), (0, .ref b)]) hx hb dX4_init_65 hl (k := 0) rfl (nI_1 _) (by decide) rfl (fun ls hl => ?_)
        refine lv_goto (tgt := 47) hx hb dX4_init_68 (by decide) ?_
        have e5 : 60 + 28 * k + 1 + 27 = 60 + 28 * (k + 1) := by omega
        have e6 : 419 + 172 * k + 11 + 161 = 419 + 172 * (k + 1) := by omega
        rw [e5, e6]
        refine ih (k + 1) (va_up S (2 + k) (q, u)) H locs ls (by omega) (by omega) hP hD hS (fun i hi => ?_) hl
        by_cases h : i = 2 + k
        · subst h; rw [va_up_self]; exact hKu
        · rw [va_up_ne _ _ h]; exact hKS i (by omega)
  refine lv_iconst (v := 0) hx hb dX4_init_45 (by decide) ?_
  refine lv_istore_n (lv' := [(1, .int (nI 0)), (0, .ref b)]) hx hb dX4_init_46 rfl hl (by decide) rfl (fun ls hl => ?_)
  have e0 : n_sts (va_up (fun _ => (q0, u0)) 1 (q1, u1)) (2 + 0) = n_sw q0 u0 ++ n_sw q1 u1 := by
    show n_sts _ 1 ++ n_sw _ _ = _
    rw [n_sts_up (Nat.le_refl 1), va_up_self]
    rfl
  refine h47 5 0 (va_up (fun _ => (q0, u0)) 1 (q1, u1)) H locs ls (by omega) (by omega) ?_ ?_ hS (fun i hi => ?_) hl
  · rw [e0, n_refs0, ← List.append_assoc]; exact hP
  · rw [e0, n_refs0, ← List.append_assoc]; exact hD
  · rcases (show i = 0 ∨ i = 1 by omega) with rfl | rfl
    · exact hK0
    · exact hK1
