/-! ===== contracts over the picture, calls, starts and ends ===== -/
def g_w2 (V : g_V) (c k : Nat) (x : Int32) : g_V := va_up V c (upd (V c) k x)
theorem g_eta (M : g_M) (r : Nat) : va_up M r (M r) = M := by
  funext j
  unfold va_up
  split
  · next h => rw [h]
  · rfl
theorem g_up2 {α : Type} (M : Nat → α) (r : Nat) (x y : α) : va_up (va_up M r x) r y = va_up M r y := by
  funext j
  unfold va_up
  split <;> rfl
theorem g_S_congr {tb : g_T} {ad : g_Ad} {V V' : g_V} {r c : Nat} (h : V c = V' c) : g_S tb ad V r c = g_S tb ad V' r c := by
  unfold g_S
  by_cases h0 : c = 0
  · subst h0; simp [h]
  by_cases h3 : c = 3
  · subst h3; simp [h]
  by_cases h4 : c = 4
  · subst h4; simp [h]
  by_cases h5 : c = 5
  · subst h5; simp [h]
  by_cases h1 : c = 1
  · subst h1; simp
  by_cases h2 : c = 2
  · subst h2; simp
  by_cases h6 : c = 6
  · subst h6; simp [h]
  by_cases h7 : 7 ≤ c
  · simp [h0, h1, h2, h3, h4, h5, h7, h]
  · omega
theorem g_G_congr {tb : g_T} {ad : g_Ad} {P : g_P} {V V' : g_V} {c : Nat} (hc : c < 5) (h : V c = V' c) : g_G tb ad P V c = g_G tb ad P V' c := by
  unfold g_G
  rcases (show c = 0 ∨ c = 1 ∨ c = 2 ∨ c = 3 ∨ c = 4 by omega) with rfl | rfl | rfl | rfl | rfl <;> simp [h]
theorem g_E_congr {tb : g_T} {ad : g_Ad} {P : g_P} {M M' : g_M} {r c : Nat} (hk : g_ok r c = true) (h : M r c = M' r c) : g_E tb ad P M r c = g_E tb ad P M' r c := by
  unfold g_E
  by_cases hr : r < 6
  · rw [if_pos hr, if_pos hr]
    exact g_S_congr h
  · have h6 : r = 6 ∧ c < 5 := by
      unfold g_ok at hk
      rw [if_neg hr] at hk
      by_cases h6 : r = 6
      · rw [if_pos h6] at hk; exact ⟨h6, of_decide_eq_true hk⟩
      · rw [if_neg h6] at hk; cases hk
    rw [if_neg hr, if_neg hr]
    obtain ⟨rfl, hc⟩ := h6
    exact g_G_congr hc h
/-- a region written at one cell: all else shows as before -/
theorem g_hs {tb : g_T} {ad : g_Ad} {P : g_P} {M : g_M} {V : g_V} {r c k : Nat} {x : Int32} : ∀ r' c', g_ok r' c' = true → ¬ (r' = r ∧ c' = c) → g_E tb ad P (va_up M r (g_w2 V c k x)) r' c' = g_E tb ad P (va_up M r V) r' c' := by
  intro r' c' hk h
  refine g_E_congr hk ?_
  by_cases hrr : r' = r
  · subst hrr
    rw [va_up_self, va_up_self]
    exact va_up_ne V _ (fun z => h ⟨rfl, z⟩)
  · rw [va_up_ne M _ hrr, va_up_ne M _ hrr]
/-- region 7 has no cells: what stands there is free -/
theorem g_E_7 {tb : g_T} {ad : g_Ad} {P : g_P} {M : g_M} {W : g_V} {r c : Nat} (hk : g_ok r c = true) : g_E tb ad P (va_up M 7 W) r c = g_E tb ad P M r c := by
  refine g_E_congr hk ?_
  rw [va_up_ne M _ (fun z => by subst z; cases hk)]
theorem g_W_7 {tb : g_T} {ad : g_Ad} {P : g_P} {M : g_M} {W : g_V} : g_W tb ad P (va_up M 7 W) = g_W tb ad P M :=
  List.map_congr_left (fun q hq => by rw [g_E_7 (g_L_ok hq)])
theorem g_I_7 {D : va_G} {tb : g_T} {ad : g_Ad} {A : Nat → Prop} {s : State} {H : Heap} {locs : List Loc} {P : g_P} {M : g_M} (W : g_V) (h : g_I D tb ad A s H locs P M) : g_I D tb ad A s H locs P (va_up M 7 W) := by
  unfold g_I
  rw [g_W_7]
  exact h
def g_Ci (l : Launch) (y : MethodName) (cd : ByteArray) (n : Nat) (ret : Option FieldType) (rm : Room) (D : va_G) (tb : g_T) (ad : g_Ad) (av : List Value) (P : g_P) (M : g_M) (fr : Int32) (P' : g_P) (M' : g_M) : Prop :=
  Met l y (g_ws y cd n ret) rm (va_Pc av (g_pre D tb ad P M)) (va_Qi (fun r (_ : Unit) => r = fr) (fun _ => g_pre D tb ad P' M') (g_A ad)) 0 0 (g_A ad)
def g_Cv (l : Launch) (y : MethodName) (cd : ByteArray) (n : Nat) (ret : Option FieldType) (rm : Room) (D : va_G) (tb : g_T) (ad : g_Ad) (av : List Value) (P : g_P) (M : g_M) (P' : g_P) (M' : g_M) : Prop :=
  Met l y (g_ws y cd n ret) rm (va_Pc av (g_pre D tb ad P M)) (va_Qv (fun (_ : Unit) => True) (fun _ => g_pre D tb ad P' M') (g_A ad)) 0 0 (g_A ad)
def g_Cq (l : Launch) (y : MethodName) (cd : ByteArray) (n : Nat) (ret : Option FieldType) (rm : Room) (D : va_G) (tb : g_T) (ad : g_Ad) (av : List Value) (P : g_P) (M : g_M) (fr : Option Nat) (P' : g_P) (M' : g_M) : Prop :=
  Met l y (g_ws y cd n ret) rm (va_Pc av (g_pre D tb ad P M)) (va_Qq (fun r (_ : Unit) => r = fr) (fun _ => g_pre D tb ad P' M') (g_A ad)) 0 0 (g_A ad)
def g_mC (y : MethodName) (cd : ByteArray) (n : Nat) (ret : Option FieldType) (np : Nat) : Prop :=
  (Cond.code y cd n ret ∈ g_tbl ∧ Cond.initialized y.cls ∈ g_tbl) ∧ (y.cls ≠ "java/lang/invoke/MethodHandle" ∧ y.cls ≠ "java/lang/invoke/VarHandle") ∧ (parseMethodDescriptor y.desc).map (fun d => d.parameters.length) = some np
def g_mV (y : MethodName) (cd : ByteArray) (n : Nat) (ret : Option FieldType) (np : Nat) : Prop :=
  g_mC y cd n ret np ∧ Cond.instanceMethod y ∈ g_tbl ∧ Cond.selects y.cls y y ∈ g_tbl
def g_mS (y : MethodName) (cd : ByteArray) (n : Nat) (ret : Option FieldType) (np : Nat) : Prop :=
  g_mC y cd n ret np ∧ Cond.static y ∈ g_tbl
theorem g_pay {args : Array Value} {s : State} (ht : ∀ w ∈ g_tbl, w.before args s = true) {y : MethodName} {cd : ByteArray} {n : Nat} {ret : Option FieldType} (hc : Cond.code y cd n ret ∈ g_tbl) : ∀ w ∈ g_ws y cd n ret, ∀ (a' : Array Value) (U : State), s.WarmedH U.vm → w.before a' U = true := by
  intro w hw a' U hW
  have hm : w ∈ g_tbl := by
    rcases List.mem_cons.mp hw with rfl | h
    · exact hc
    · exact h
  exact word_at hW (good_of_word (List.mem_filter.mp hm).2) (ht w hm)
/-- room for a call -/
def g_R (rm : Room) (n : Nat) (R : Room) : Prop := rm.cells = 0 ∧ rm.slots = 0 ∧ rm.frames + 1 ≤ R.frames ∧ 8 + (n + 11) + rm.locals ≤ R.locals
theorem g_cB {R : Room} {args : Array Value} {s : State} (ht : ∀ w ∈ g_tbl, w.before args s = true) {y : MethodName} {cd : ByteArray} {n np : Nat} {ret : Option FieldType} {own : String} {index : Nat} {rm : Room} (hm : g_mC y cd n ret np) (hl : (Cond.methodLink own index y) ∈ g_tbl) (hR : g_R rm n R) : CallB R s args own index y cd n ret (g_ws y cd n ret) rm 0 0 np := by
  refine ⟨hR.1, hR.2.1, hR.2.2.1, hR.2.2.2, g_pay ht hm.1.1, List.mem_cons_self, ht _ hm.1.1, ht _ hm.1.2, hm.2.1, fun sig h => ?_, ht _ hl⟩
  have h2 := hm.2.2
  rw [h] at h2
  exact (Option.some.inj h2).symm
theorem g_cN {R : Room} {args : Array Value} {s : State} (ht : ∀ w ∈ g_tbl, w.before args s = true) {y : MethodName} {cd : ByteArray} {n np : Nat} {ret : Option FieldType} {own host : String} {index : Nat} {rm : Room} (hm : g_mC y cd n ret np) (hl : va_Nw (Cond.methodLinkNest own index y host) s) (hR : g_R rm n R) : va_CN R s args own index y host cd n ret (g_ws y cd n ret) rm 0 0 np := by
  refine ⟨⟨hR.1, hR.2.1, hR.2.2.1, hR.2.2.2, g_pay ht hm.1.1, List.mem_cons_self⟩, ht _ hm.1.1, ht _ hm.1.2, hm.2.1, fun sig h => ?_, va_Nw.use rfl hl⟩
  have h2 := hm.2.2
  rw [h] at h2
  exact (Option.some.inj h2).symm
theorem g_N.call {U : State} {g : JFrame} {mk : MethodId} {a : Array Value} (h : g_N U) : g_N (U.calling g mk a) := by
  intro w hw
  have h1 : g_nest.all (fun w => w.onTables) = true := by decide +kernel
  exact va_Nw.same (List.all_eq_true.mp h1 w hw) (u := U) (U := U.calling g mk a) rfl (h w hw)
theorem g_pre.blind {D : va_G} {tb : g_T} {ad : g_Ad} {P : g_P} {M : g_M} {av : List Value} : FrameBlind (va_Pc av (g_pre D tb ad P M)) := by
  rintro a U g mk ⟨h0, h1, h2, h3, h4⟩
  exact ⟨h0, h1, va_K.moved (u := U) (U := U.calling g mk a) (Vm.Alike.refl U.vm) h2, h3.call, h4.moved (u := U) (U := U.calling g mk a) (Vm.Alike.refl U.vm)⟩
theorem g_pre.of {D : va_G} {tb : g_T} {ad : g_Ad} {A : Nat → Prop} {s : State} {H : Heap} {locs : List Loc} {P : g_P} {M : g_M} (hC : g_C D tb ad A s) (hI : g_I D tb ad A s H locs P M) (U : State) (hU : U.heap = H) (hW : s.WarmedH U.vm) : g_pre D tb ad P M U := by
  refine ⟨by rw [hU]; exact hI.1, va_K.moved hW.alike hC.1, g_N.warm hW hC.2.1, ?_⟩
  rw [hU]
  exact (((hC.2.2.1).kept hI.2.2.1).moved hW.alike).narrow hC.A
section GC
variable {p : Program} {l : Launch} {e : Env} {R : Room} {s : State} {m : MethodId} {args : Array Value} {below : List Frame} {meth : Method} {c : Code} {H : Heap} {locs : List Loc} {cells slots : Nat} {Q : State → Prop}
variable {cc : ByteArray} {pc nL : Nat} {ls : Array Slot} {rest As st0 : List Value} {D : va_G} {tb : g_T} {ad : g_Ad} {A : Nat → Prop} {P P' Pa : g_P} {M M' Ma : g_M} {r0 c0 : Nat} {own : String} {index : Nat}
variable {y : MethodName} {cd : ByteArray} {n np : Nat} {ret : Option FieldType} {rm : Room} {fr : Int32} {fq : Option Nat}
/-- what a call of an instance method needs of its receiver -/
theorem g_PV {ci : Nat} {q : vw_C} {fs : List Value} (hC : g_C D tb ad A s) (hI : g_I D tb ad A s H locs P M) (hok : g_ok r0 c0 = true) (he : g_E tb ad P M r0 c0 = .inr (ci, fs)) (hc : vwCl[ci]? = some q) (hcls : q.1 = y.cls) : PreV s H y.cls (ad r0 c0) (va_Pc (.ref (ad r0 c0) :: As) (g_pre D tb ad P M)) As := by
  obtain ⟨qq, -, hq⟩ := g_at hok he
  refine ⟨g_pre.blind, ?_, fun U hU hW => ⟨rfl, g_pre.of hC hI U hU hW⟩⟩
  rw [← hcls]
  exact va_recv hC.1 hI.1 hc hq
theorem g_callVi {ci : Nat} {q : vw_C} {fs : List Value} (hCt : g_Ci l y cd n ret rm D tb ad (.ref (ad r0 c0) :: As) Pa Ma fr P' M') (hPa : Pa = P) (hMa : Ma = M) (hm : g_mV y cd n ret np) (hx : p.tables.exec = Jvm.exec) (hb : c.code = cc) (hml : c.maxLocals = nL) (hown : s.vm.findClass own = some m.cls) (hts : ∀ w ∈ g_tbl, w.before args s = true) (hC : g_C D tb ad A s) (hI : g_I D tb ad A s H locs P M)
    (hok : g_ok r0 c0 = true) (he : g_E tb ad P M r0 c0 = .inr (ci, fs)) (hc : vwCl[ci]? = some q) (hcls : q.1 = y.cls) (hlink : (Cond.methodLink own index y) ∈ g_tbl) (hnp : As.length = np) (hl : ls.size = nL) (hst : st0 = As.reverse ++ .ref (ad r0 c0) :: rest) (hR : g_R rm n R) (hW : (rest.map fun v => v.category).sum ≤ 8) (hcap : cells ≤ R.cells ∧ slots ≤ R.slots) (hdg : decode cc pc = .ok (.invokevirtual index, 3))
    (kk : ∀ (H1 : Heap) (locs1 : List Loc), g_I D tb ad A s H1 locs1 P' M' → W p l e R s m args below meth c H1 locs1 cells slots Q (F0 m (pc + 3) ls (.int fr :: rest))) : W p l e R s m args below meth c H locs cells slots Q (F0 m pc ls st0) := by
  subst hst; subst hPa; subst hMa
  refine va_calli (va_runV (As := As) (rest := rest) ⟨hx, hb, hml, hown, hts⟩ hCt ⟨g_cB hts hm.1 hlink hR, hts _ hm.2.1, hts _ hm.2.2⟩ (g_PV hC hI hok he hc hcls) rfl hnp hl rfl (lv_room hW) hdg hcap) hI.2 (fun q _ h => hC.A q h) hC.A (fun r u t H1 locs1 ht hvm hw hB hz1 hk1 hS1 => ?_)
  subst hw
  exact kk H1 locs1 ⟨by rw [← ht]; exact hB.1, hS1⟩
theorem g_callVv {ci : Nat} {q : vw_C} {fs : List Value} (hCt : g_Cv l y cd n ret rm D tb ad (.ref (ad r0 c0) :: As) Pa Ma P' M') (hPa : Pa = P) (hMa : Ma = M) (hm : g_mV y cd n ret np) (hx : p.tables.exec = Jvm.exec) (hb : c.code = cc) (hml : c.maxLocals = nL) (hown : s.vm.findClass own = some m.cls) (hts : ∀ w ∈ g_tbl, w.before args s = true) (hC : g_C D tb ad A s) (hI : g_I D tb ad A s H locs P M)
    (hok : g_ok r0 c0 = true) (he : g_E tb ad P M r0 c0 = .inr (ci, fs)) (hc : vwCl[ci]? = some q) (hcls : q.1 = y.cls) (hlink : (Cond.methodLink own index y) ∈ g_tbl) (hnp : As.length = np) (hl : ls.size = nL) (hst : st0 = As.reverse ++ .ref (ad r0 c0) :: rest) (hR : g_R rm n R) (hW : (rest.map fun v => v.category).sum ≤ 8) (hcap : cells ≤ R.cells ∧ slots ≤ R.slots) (hdg : decode cc pc = .ok (.invokevirtual index, 3))
    (kk : ∀ (H1 : Heap) (locs1 : List Loc), g_I D tb ad A s H1 locs1 P' M' → W p l e R s m args below meth c H1 locs1 cells slots Q (F0 m (pc + 3) ls rest)) : W p l e R s m args below meth c H locs cells slots Q (F0 m pc ls st0) := by
  subst hst; subst hPa; subst hMa
  refine va_callv (va_runV (As := As) (rest := rest) ⟨hx, hb, hml, hown, hts⟩ hCt ⟨g_cB hts hm.1 hlink hR, hts _ hm.2.1, hts _ hm.2.2⟩ (g_PV hC hI hok he hc hcls) rfl hnp hl rfl (lv_room hW) hdg hcap) hI.2 (fun q _ h => hC.A q h) hC.A (fun u t H1 locs1 ht hvm hw hB hz1 hk1 hS1 => ?_)
  exact kk H1 locs1 ⟨by rw [← ht]; exact hB.1, hS1⟩
theorem g_callVq {ci : Nat} {q : vw_C} {fs : List Value} (hCt : g_Cq l y cd n ret rm D tb ad (.ref (ad r0 c0) :: As) Pa Ma fq P' M') (hPa : Pa = P) (hMa : Ma = M) (hm : g_mV y cd n ret np) (hx : p.tables.exec = Jvm.exec) (hb : c.code = cc) (hml : c.maxLocals = nL) (hown : s.vm.findClass own = some m.cls) (hts : ∀ w ∈ g_tbl, w.before args s = true) (hC : g_C D tb ad A s) (hI : g_I D tb ad A s H locs P M)
    (hok : g_ok r0 c0 = true) (he : g_E tb ad P M r0 c0 = .inr (ci, fs)) (hc : vwCl[ci]? = some q) (hcls : q.1 = y.cls) (hlink : (Cond.methodLink own index y) ∈ g_tbl) (hnp : As.length = np) (hl : ls.size = nL) (hst : st0 = As.reverse ++ .ref (ad r0 c0) :: rest) (hR : g_R rm n R) (hW : (rest.map fun v => v.category).sum ≤ 8) (hcap : cells ≤ R.cells ∧ slots ≤ R.slots) (hdg : decode cc pc = .ok (.invokevirtual index, 3))
    (kk : ∀ (H1 : Heap) (locs1 : List Loc), g_I D tb ad A s H1 locs1 P' M' → W p l e R s m args below meth c H1 locs1 cells slots Q (F0 m (pc + 3) ls (va_rf fq :: rest))) : W p l e R s m args below meth c H locs cells slots Q (F0 m pc ls st0) := by
  subst hst; subst hPa; subst hMa
  refine va_callq (va_runV (As := As) (rest := rest) ⟨hx, hb, hml, hown, hts⟩ hCt ⟨g_cB hts hm.1 hlink hR, hts _ hm.2.1, hts _ hm.2.2⟩ (g_PV hC hI hok he hc hcls) rfl hnp hl rfl (lv_room hW) hdg hcap) hI.2 (fun q _ h => hC.A q h) hC.A (fun r u t H1 locs1 ht hvm hw hB hz1 hk1 hS1 => ?_)
  subst hw
  exact kk H1 locs1 ⟨by rw [← ht]; exact hB.1, hS1⟩
/-- a static method of the class that calls -/
theorem g_callSi (hCt : g_Ci l y cd n ret rm D tb ad As Pa Ma fr P' M') (hPa : Pa = P) (hMa : Ma = M) (hm : g_mS y cd n ret np) (hx : p.tables.exec = Jvm.exec) (hb : c.code = cc) (hml : c.maxLocals = nL) (hown : s.vm.findClass own = some m.cls) (hts : ∀ w ∈ g_tbl, w.before args s = true) (hC : g_C D tb ad A s) (hI : g_I D tb ad A s H locs P M)
    (hlink : (Cond.methodLink own index y) ∈ g_tbl) (hnp : As.length = np) (hl : ls.size = nL) (hst : st0 = As.reverse ++ rest) (hR : g_R rm n R) (hW : (rest.map fun v => v.category).sum ≤ 8) (hcap : cells ≤ R.cells ∧ slots ≤ R.slots) (hdg : decode cc pc = .ok (.invokestatic index, 3))
    (kk : ∀ (H1 : Heap) (locs1 : List Loc), g_I D tb ad A s H1 locs1 P' M' → W p l e R s m args below meth c H1 locs1 cells slots Q (F0 m (pc + 3) ls (.int fr :: rest))) : W p l e R s m args below meth c H locs cells slots Q (F0 m pc ls st0) := by
  subst hst; subst hPa; subst hMa
  refine va_calli (va_runS (As := As) (rest := rest) ⟨hx, hb, hml, hown, hts⟩ hCt ⟨g_cB hts hm.1 hlink hR, hts _ hm.2⟩ ⟨g_pre.blind, fun U hU hW => ⟨rfl, g_pre.of hC hI U hU hW⟩⟩ rfl hnp hl rfl (lv_room hW) hdg hcap) hI.2 (fun q _ h => hC.A q h) hC.A (fun r u t H1 locs1 ht hvm hw hB hz1 hk1 hS1 => ?_)
  subst hw
  exact kk H1 locs1 ⟨by rw [← ht]; exact hB.1, hS1⟩
/-- a private static method of a nest mate -/
theorem g_callNi {host : String} (hCt : g_Ci l y cd n ret rm D tb ad As Pa Ma fr P' M') (hPa : Pa = P) (hMa : Ma = M) (hm : g_mS y cd n ret np) (hx : p.tables.exec = Jvm.exec) (hb : c.code = cc) (hml : c.maxLocals = nL) (hown : s.vm.findClass own = some m.cls) (hts : ∀ w ∈ g_tbl, w.before args s = true) (hC : g_C D tb ad A s) (hI : g_I D tb ad A s H locs P M)
    (hlink : (Cond.methodLinkNest own index y host) ∈ g_nest) (hnp : As.length = np) (hl : ls.size = nL) (hst : st0 = As.reverse ++ rest) (hR : g_R rm n R) (hW : (rest.map fun v => v.category).sum ≤ 8) (hcap : cells ≤ R.cells ∧ slots ≤ R.slots) (hdg : decode cc pc = .ok (.invokestatic index, 3))
    (kk : ∀ (H1 : Heap) (locs1 : List Loc), g_I D tb ad A s H1 locs1 P' M' → W p l e R s m args below meth c H1 locs1 cells slots Q (F0 m (pc + 3) ls (.int fr :: rest))) : W p l e R s m args below meth c H locs cells slots Q (F0 m pc ls st0) := by
  subst hst; subst hPa; subst hMa
  refine va_calli (va_runSN (As := As) (rest := rest) ⟨hx, hb, hml, hown, hts⟩ hCt ⟨g_cN hts hm.1 (hC.2.1 _ hlink) hR, hts _ hm.2, trivial⟩ ⟨g_pre.blind, fun U hU hW => ⟨rfl, g_pre.of hC hI U hU hW⟩⟩ rfl hnp hl rfl (lv_room hW) hdg hcap) hI.2 (fun q _ h => hC.A q h) hC.A (fun r u t H1 locs1 ht hvm hw hB hz1 hk1 hS1 => ?_)
  subst hw
  exact kk H1 locs1 ⟨by rw [← ht]; exact hB.1, hS1⟩
/-- a method's start -/
theorem g_start {av : List Value} {Qc : Array Value → State → Outcome → State → Prop} {free : Addr → Prop} (hy : plainName y.cls = true) (hav : (lg_sl av).length ≤ n) (hj : g_inj ad)
    (body : ∀ (p : Program) (e : Env) (s : State) (m : MethodId) (below : List Frame) (meth : Method) (c : Code) (ls : Array Slot), p.tables.exec = Jvm.exec → c.code = cd → c.maxLocals = n → meth.sig.returnType = ret → meth.locks = false → s.vm.findClass y.cls = some m.cls → (∀ w ∈ g_tbl, w.before av.toArray s = true) → g_C D tb ad (g_A ad) s → g_I D tb ad (g_A ad) s s.heap [] P M → lv_has ls n (lv_args 0 av) →
      W p l e rm s m av.toArray below meth c s.heap [] 0 0 (MQ below Qc av.toArray s 0 0 free) (F0 m 0 ls [])) :
    Met l y (g_ws y cd n ret) rm (va_Pc av (g_pre D tb ad P M)) Qc 0 0 free := by
  refine Met.ofW (cc := cd) (maxL := n) (ret := ret) hy rfl ?_
  intro p e s m args below meth c s₁ B hml hv
  obtain ⟨rfl, hP, hK, hN, hZ⟩ := hv
  have hts := atoms_spec (ws := g_ws y cd n ret) B.pre
  have hl := lv_entry av (n := n) hav
  rw [lg_entry_eq]
  exact body p e s m below meth c _ B.exec B.bytes hml B.returns B.notSynchronized (findClass_of_methodNamed B.named) (fun w h => hts w (List.mem_cons_of_mem _ h)) ⟨hK, hN, hZ, hj, fun r c h => ⟨r, c, h, rfl⟩⟩ ⟨hP, va_S.rf⟩ hl
theorem g_iret {v : Int32} {ty : FieldType} (hx : p.tables.exec = Jvm.exec) (hb : c.code = cc) (hr : meth.sig.returnType = some ty) (hlocks : meth.locks = false) (hC : g_C D tb ad (g_A ad) s) (hI : g_I D tb ad (g_A ad) s H locs P M) (hn : narrow ty (.int v) = .int v) (hv : v = fr) (hP : P = P') (hM : M = M') (hdg : decode cc pc = .ok (.ireturn, 1)) :
    W p l e R s m args below meth c H locs 0 0 (MQ below (va_Qi (fun r (_ : Unit) => r = fr) (fun _ => g_pre D tb ad P' M') (g_A ad)) args s 0 0 (g_A ad)) (F0 m pc ls [.int v]) := by
  subst hv; subst hP; subst hM
  exact W.zret hx hb hr hn (fun t ht hW => ⟨⟨v, (), rfl, rfl, g_pre.of hC hI t ht hW⟩, hI.2.F ht⟩) hI.2.2.2 hdg hlocks
theorem g_vret (hx : p.tables.exec = Jvm.exec) (hb : c.code = cc) (hr : meth.sig.returnType = none) (hlocks : meth.locks = false) (hC : g_C D tb ad (g_A ad) s) (hI : g_I D tb ad (g_A ad) s H locs P M) (hP : P = P') (hM : M = M') (hdg : decode cc pc = .ok (.return_, 1)) :
    W p l e R s m args below meth c H locs 0 0 (MQ below (va_Qv (fun (_ : Unit) => True) (fun _ => g_pre D tb ad P' M') (g_A ad)) args s 0 0 (g_A ad)) (F0 m pc ls []) := by
  subst hP; subst hM
  exact W.vret hx hb hr (fun t ht hW => ⟨⟨(), rfl, trivial, g_pre.of hC hI t ht hW⟩, hI.2.F ht⟩) hI.2.2.2 hdg hlocks
theorem g_qret {v : Option Nat} {C : String} (hx : p.tables.exec = Jvm.exec) (hb : c.code = cc) (hr : meth.sig.returnType = some (.object C)) (hlocks : meth.locks = false) (hC : g_C D tb ad (g_A ad) s) (hI : g_I D tb ad (g_A ad) s H locs P M) (hv : v = fq) (hP : P = P') (hM : M = M') (hdg : decode cc pc = .ok (.areturn, 1)) {vv : Value} (hvv : vv = va_rf v) :
    W p l e R s m args below meth c H locs 0 0 (MQ below (va_Qq (fun r (_ : Unit) => r = fq) (fun _ => g_pre D tb ad P' M') (g_A ad)) args s 0 0 (g_A ad)) (F0 m pc ls [vv]) := by
  subst hv; subst hP; subst hM; subst hvv
  exact W.aret hx hb hr (Or.inl ⟨_, rfl⟩) (va_rf_or v) (fun t ht hW => ⟨⟨v, (), rfl, rfl, g_pre.of hC hI t ht hW⟩, hI.2.F ht⟩) hI.2.2.2 hdg hlocks
end GC
