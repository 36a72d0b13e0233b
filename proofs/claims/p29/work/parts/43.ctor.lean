/-! ===== constructors ===== -/
theorem qk_init_Object : Cond.code Lib.objectInit ⟨#[0xb1]⟩ 1 none ∈ g_tbl := g_in 45 (by decide +kernel) rfl
def n_AO (U : State) : Prop := va_AO RX3 U ∧ va_AO RX0 U ∧ va_AO RX1 U
/-- what stands at a constructor's start: its own object as born -/
def n_pre (D : va_G) (h0 b : Nat) (ws : va_W) (U : State) : Prop :=
  va_P D vwCl ws U.heap ∧ va_K D vwCl [] U ∧ g_N U ∧ n_AO U ∧ h0 ≤ b ∧ h0 ≤ U.heap.size
section NC
variable {l : Launch} {y : MethodName} {cd : ByteArray} {n mc ms : Nat} {ret : Option FieldType} {rm : Room}
theorem n_go {B : State → Prop} {av : List Value} {Qc : Array Value → State → Outcome → State → Prop} {free : Addr → Prop} (hy : plainName y.cls = true) (hav : (lg_sl av).length ≤ n)
    (body : ∀ (p : Program) (e : Env) (s : State) (m : MethodId) (below : List Frame) (meth : Method) (c : Code) (ls : Array Slot) (H : Heap) (locs : List Loc) (R : Room) (args : Array Value) (Q : State → Prop), R = rm → Q = MQ below Qc args s mc ms free → H = s.heap → locs = [] → args = av.toArray → p.tables.exec = Jvm.exec → c.code = cd → c.maxLocals = n → meth.sig.returnType = ret → meth.locks = false → s.vm.findClass y.cls = some m.cls → (∀ w ∈ g_tbl, w.before args s = true) → B s → lv_has ls n (lv_args 0 av) →
      W p l e R s m args below meth c H locs 0 0 Q (F0 m 0 ls [])) :
    Met l y (g_ws y cd n ret) rm (va_Pc av B) Qc mc ms free := by
  refine Met.ofW (cc := cd) (maxL := n) (ret := ret) hy rfl ?_
  intro p e s m args below meth c s₁ B1 hml hv
  obtain ⟨rfl, hB⟩ := hv
  have hts := atoms_spec (ws := g_ws y cd n ret) B1.pre
  have hl := lv_entry av (n := n) hav
  rw [lg_entry_eq]
  exact body p e s m below meth c _ s.heap [] _ _ _ rfl rfl rfl rfl rfl B1.exec B1.bytes hml B1.returns B1.notSynchronized (findClass_of_methodNamed B1.named) (fun w h => hts w (List.mem_cons_of_mem _ h)) hB hl
end NC
/-- what a constructor's walk may write: its own object, and what it makes -/
def n_A (b h : Nat) : Nat → Prop := fun q => q = b ∨ h ≤ q
theorem n_ret {p : Program} {l : Launch} {e : Env} {R : Room} {s : State} {m : MethodId} {args : Array Value} {below : List Frame} {meth : Method} {c : Code} {H : Heap} {locs : List Loc} {cells slots : Nat} {cc : ByteArray} {pc : Nat} {ls : Array Slot} {h0 b : Nat} {S : Type} {post : S → Prop} {B : S → State → Prop} (u : S) (hx : p.tables.exec = Jvm.exec) (hb : c.code = cc) (hr : meth.sig.returnType = none) (hlocks : meth.locks = false) (hS : va_S (n_A b s.heap.size) s.heap H locs) (hp : post u) (hB : ∀ t : State, t.heap = H → s.WarmedH t.vm → B u t) (hb0 : h0 ≤ b) (hs0 : h0 ≤ s.heap.size) (hdg : decode cc pc = .ok (.return_, 1)) :
    W p l e R s m args below meth c H locs cells slots (MQ below (va_Qv post B (fun q => q = b)) args s cells slots (fun q => h0 ≤ q)) (F0 m pc ls []) := by
  have h1 : ∀ t : State, t.heap = H → va_F (fun q => q = b) s t := fun t ht => by
    refine ⟨by rw [ht]; exact hS.1, fun q h1 h2 => ?_⟩
    rw [ht]
    refine hS.2.1 q h1 (fun z => ?_)
    rcases z with z | z
    · exact h2 z
    · exact absurd h1 (Nat.not_lt.mpr z)
  have h2 : ∀ q ∈ locs, h0 ≤ q.base := fun q hq => by
    rcases hS.2.2 q hq with z | z
    · rw [z]; exact hb0
    · exact Nat.le_trans hs0 z
  exact W.vret hx hb hr (fun t ht hW => ⟨⟨u, rfl, hp, hB t ht hW⟩, h1 t ht⟩) h2 hdg hlocks
theorem n_S0 {s : State} {b : Nat} : va_S (n_A b s.heap.size) s.heap s.heap [] := ⟨Nat.le_refl _, fun _ _ _ => rfl, fun _ h => absurd h (List.not_mem_nil)⟩
theorem n_D1 {A : Nat → Prop} {b : Nat} {e : va_E} (h : A b) : va_D A [(b, e)] := by
  refine ⟨fun i j p q hp hq _ => ?_, fun k q hk => ?_⟩
  · have h1 := (List.getElem?_eq_some_iff.mp hp).1
    have h2 := (List.getElem?_eq_some_iff.mp hq).1
    simp only [List.length_cons, List.length_nil] at h1 h2
    omega
  · have h1 := (List.getElem?_eq_some_iff.mp hk).1
    simp only [List.length_cons, List.length_nil] at h1
    rw [show k = 0 by omega] at hk
    cases hk
    exact h
abbrev rm_X0_init : Room := { frames := 1, cells := 0, slots := 0, locals := 20 }
theorem c_X0_init (l : Launch) (D : va_G) (h0 b : Nat) : Met l yX0_init (g_ws yX0_init cX0_init 1 none) rm_X0_init (va_Pc [.ref b] (n_pre D h0 b [(b, .inr (0, [.int 0, .int 0]))]))
    (va_Qv (fun (_ : Unit) => True) (fun _ t => va_P D vwCl [(b, .inr (0, [.int 0, .int 0]))] t.heap) (fun q => q = b)) 0 0 (fun q => h0 ≤ q) := by
  refine n_go (by decide) (Nat.le_of_ble_eq_true rfl) ?_
  intro p e s m below meth c ls H locs R args Q hR0 hQ hH hlo ha hx hb hml hr0 hlk hown hts hB hl
  subst hR0; subst hQ; subst hH; subst hlo
  obtain ⟨hP, hK, hN, hAO, hb0, hs0⟩ := hB
  refine lv_aload_n hx hb dX0_init_0 rfl (lv_at hl 0 rfl) ?_
  refine W.objInit hx hb hown (hts _ qm_X0_1) (hts _ qo_init_Object) (hts _ qk_init_Object) rfl (hl.1.trans hml.symm) rfl dX0_init_1 (by decide) (Nat.le_of_ble_eq_true rfl) ?_
  exact n_ret () hx hb hr0 hlk n_S0 trivial (fun t ht _ => by show va_P D vwCl _ t.heap; rw [ht]; exact hP) hb0 hs0 dX0_init_4
abbrev rm_X1_init : Room := { frames := 1, cells := 0, slots := 0, locals := 20 }
abbrev n_rec0 : List Value := [.int 0, .int 0, .int 0, .int 0, .int 0, .int 0, .int 0]
abbrev n_rec : List Value := [.int (-1), .int 0, .int 0, .int 0, .int (-1), .int 0, .int 0]
theorem c_X1_init (l : Launch) (D : va_G) (h0 b : Nat) : Met l yX1_init (g_ws yX1_init cX1_init 1 none) rm_X1_init (va_Pc [.ref b] (n_pre D h0 b [(b, .inr (1, n_rec0))]))
    (va_Qv (fun (_ : Unit) => True) (fun _ t => va_P D vwCl [(b, .inr (1, n_rec))] t.heap) (fun q => q = b)) 0 0 (fun q => h0 ≤ q) := by
  refine n_go (by decide) (Nat.le_of_ble_eq_true rfl) ?_
  intro p e s m below meth c ls H locs R args Q hR0 hQ hH hlo ha hx hb hml hr0 hlk hown hts hB hl
  subst hR0; subst hQ; subst hH; subst hlo
  obtain ⟨hP, hK, hN, hAO, hb0, hs0⟩ := hB
  refine lv_aload_n hx hb dX1_init_0 rfl (lv_at hl 0 rfl) ?_
  refine W.objInit hx hb hown (hts _ qm_X1_3) (hts _ qo_init_Object) (hts _ qk_init_Object) rfl (hl.1.trans hml.symm) rfl dX1_init_1 (by decide) (Nat.le_of_ble_eq_true rfl) ?_
  refine lv_aload_n hx hb dX1_init_4 rfl (lv_at hl 0 rfl) ?_
  refine lv_iconst (v := (-1)) hx hb dX1_init_5 (by decide) ?_
  refine va_put hx hb hts i_X1 tyX1 tyX1_ok nmX1 hown hK hP (n_D1 (Or.inl rfl)) n_S0 0 rfl rfl 0 (by decide) (hts _ qf_X1_9) (fun _ h => h) rfl (ty := .int) rfl rfl rfl (Nat.le_of_ble_eq_true rfl) dX1_init_6 (fun H locs hP hD hS => ?_)
  refine lv_aload_n hx hb dX1_init_9 rfl (lv_at hl 0 rfl) ?_
  refine lv_iconst (v := (-1)) hx hb dX1_init_10 (by decide) ?_
  refine va_put hx hb hts i_X1 tyX1 tyX1_ok nmX1 hown hK hP hD hS 0 rfl rfl 4 (by decide) (hts _ qf_X1_15) (fun _ h => h) rfl (ty := .int) rfl rfl rfl (Nat.le_of_ble_eq_true rfl) dX1_init_11 (fun H locs hP hD hS => ?_)
  exact n_ret () hx hb hr0 hlk hS trivial (fun t ht _ => by show va_P D vwCl _ t.heap; rw [ht]; exact hP) hb0 hs0 dX1_init_14
