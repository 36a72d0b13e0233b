/-- a constructor that makes: the heap's size at its start is named -/
def n_pre2 (D : va_G) (h0 h1 b : Nat) (ws : va_W) (U : State) : Prop := n_pre D h0 b ws U ∧ U.heap.size = h1
section NC2
variable {l : Launch} {y : MethodName} {cd : ByteArray} {n mc ms : Nat} {ret : Option FieldType} {rm : Room}
theorem n_go2 {B : State → Prop} {av : List Value} {Qc : Array Value → State → Outcome → State → Prop} {free : Addr → Prop} (hy : plainName y.cls = true) (hav : (lg_sl av).length ≤ n)
    (body : ∀ (p : Program) (e : Env) (s : State) (m : MethodId) (below : List Frame) (meth : Method) (c : Code) (ls : Array Slot) (H : Heap) (locs : List Loc) (R : Room) (args : Array Value) (Q : State → Prop), R = rm → Q = MQ below Qc args s mc ms free → H = s.heap → locs = [] → args = av.toArray → p.tables.exec = Jvm.exec → c.code = cd → c.maxLocals = n → meth.sig.returnType = ret → meth.locks = false → s.vm.findClass y.cls = some m.cls → meth.name = y.name → (∀ w ∈ g_tbl, w.before args s = true) → B s → lv_has ls n (lv_args 0 av) →
      W p l e R s m args below meth c H locs 0 0 Q (F0 m 0 ls [])) :
    Met l y (g_ws y cd n ret) rm (va_Pc av B) Qc mc ms free := by
  refine Met.ofW (cc := cd) (maxL := n) (ret := ret) hy rfl ?_
  intro p e s m args below meth c s₁ B1 hml hv
  obtain ⟨rfl, hB⟩ := hv
  have hts := atoms_spec (ws := g_ws y cd n ret) B1.pre
  have hl := lv_entry av (n := n) hav
  rw [lg_entry_eq]
  exact body p e s m below meth c _ s.heap [] _ _ _ rfl rfl rfl rfl rfl B1.exec B1.bytes hml B1.returns B1.notSynchronized (findClass_of_methodNamed B1.named) (name_of_methodNamed B1.named B1.method).1 (fun w h => hts w (List.mem_cons_of_mem _ h)) hB hl
end NC2
abbrev n_sc0 : List Value := [.null, .null, .int 0, .int 0, .int 0, .int 0, .int 0, .int 0]
abbrev n_sc (b : Nat) (u : Nat × Nat × ClassId × ClassId) : va_W := [(b, .inr (2, [.ref u.1, .ref u.2.1, .int 0, .int 0, .int 0, .int 0, .int 0, .int 0])), (u.1, .inl (u.2.2.1, 60, .inl (fun _ => 0))), (u.2.1, .inl (u.2.2.2, 3, .inl (fun _ => 0)))]
abbrev rm_X2_init : Room := { frames := 1, cells := 2, slots := 63, locals := 20 }
theorem c_X2_init (l : Launch) (D : va_G) (h0 h1 b : Nat) : Met l yX2_init (g_ws yX2_init cX2_init 1 none) rm_X2_init (va_Pc [.ref b] (n_pre2 D h0 h1 b [(b, .inr (2, n_sc0))]))
    (va_Qv (fun u : Nat × Nat × ClassId × ClassId => va_D (n_A b h1) (n_sc b u)) (fun u t => va_P D vwCl (n_sc b u) t.heap ∧ va_K D vwCl [(u.2.2.1, .char), (u.2.2.2, .int)] t) (fun q => q = b)) 2 63 (fun q => h0 ≤ q) := by
  refine n_go2 (by decide) (Nat.le_of_ble_eq_true rfl) ?_
  intro p e s m below meth c ls H locs R args Q hR0 hQ hH hlo ha hx hb hml hr0 hlk hown hnm hts hB hl
  subst hR0; subst hQ; subst hH; subst hlo
  obtain ⟨⟨hP, hK, hN, hAO, hb0, hs0⟩, hsz⟩ := hB
  subst hsz
  refine lv_aload_n hx hb dX2_init_0 rfl (lv_at hl 0 rfl) ?_
  refine W.objInit hx hb hown (hts _ qm_X2_3) (hts _ qo_init_Object) (hts _ qk_init_Object) rfl (hl.1.trans hml.symm) rfl dX2_init_1 (by decide) (Nat.le_of_ble_eq_true rfl) ?_
  refine lv_aload_n hx hb dX2_init_4 rfl (lv_at hl 0 rfl) ?_
  refine lv_bipush (v := 60) hx hb dX2_init_5 (by decide) ?_
  refine va_newa (atype := .char) (N' := 60) (a0 := (60, .inl (fun _ => 0))) hx hb (hts _ qa_82) (ty := .char) rfl hK hP (n_D1 (Or.inl rfl)) n_S0 (fun _ h => Or.inr h) (fun _ => rfl) (by decide) rfl (by decide) (by decide) (Nat.le_of_ble_eq_true rfl) dX2_init_7 (fun a2 cC H hK hP hD hS => ?_)
  refine va_putF hx hb hts i_X2 tyX2 tyX2_ok nmX2 hown hK hP hD hS 0 rfl rfl 0 (by decide) (hts _ qf_X2_9) (fun _ h => h) rfl hnm rfl (ty := .array .char) rfl rfl rfl (Nat.le_of_ble_eq_true rfl) dX2_init_9 (fun H locs hP hD hS => ?_)
  refine lv_aload_n hx hb dX2_init_12 rfl (lv_at hl 0 rfl) ?_
  refine lv_iconst (v := 3) hx hb dX2_init_13 (by decide) ?_
  refine va_newa (atype := .int) (N' := 3) (a0 := (3, .inl (fun _ => 0))) hx hb (hts _ qa_83) (ty := .int) rfl hK hP hD hS (fun _ h => Or.inr h) (fun _ => rfl) (by decide) rfl (by decide) (by decide) (Nat.le_of_ble_eq_true rfl) dX2_init_14 (fun a3 cI H hK hP hD hS => ?_)
  refine va_putF hx hb hts i_X2 tyX2 tyX2_ok nmX2 hown hK hP hD hS 0 rfl rfl 1 (by decide) (hts _ qf_X2_15) (fun _ h => h) rfl hnm rfl (ty := .array .int) rfl rfl rfl (Nat.le_of_ble_eq_true rfl) dX2_init_16 (fun H locs hP hD hS => ?_)
  exact n_ret (a2, a3, cC, cI) hx hb hr0 hlk hS hD (fun t ht hW => ⟨by rw [ht]; exact hP, hK.moved hW.alike⟩) hb0 hs0 dX2_init_19
