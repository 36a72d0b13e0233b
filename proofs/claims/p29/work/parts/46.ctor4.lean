/-! ===== calls of constructors ===== -/
def n_nest : List Cond := [.methodLinkNest RX4 9 yX2_init RX4, .methodLinkNest RX3 36 yX0_init RX4, .methodLinkNest RX3 41 yX1_init RX4]
def n_N (U : State) : Prop := ∀ w ∈ n_nest, va_Nw w U
theorem n_N.warm {s U : State} (hW : s.WarmedH U.vm) (h : n_N s) : n_N U := by
  intro w hw
  have h1 := h w hw
  simp only [n_nest, List.mem_cons, List.not_mem_nil, or_false] at hw
  rcases hw with rfl | rfl | rfl <;> exact h1.warmM hW
theorem n_N.call {U : State} {g : JFrame} {mk : MethodId} {a : Array Value} (h : n_N U) : n_N (U.calling g mk a) := by
  intro w hw
  have h1 : n_nest.all (fun w => w.onTables) = true := by decide +kernel
  exact va_Nw.same (List.all_eq_true.mp h1 w hw) (u := U) (U := U.calling g mk a) rfl (h w hw)
theorem n_AO.moved {u U : State} (hvm : u.vm.Alike U.vm) (h : n_AO u) : n_AO U := ⟨h.1.moved hvm, h.2.1.moved hvm, h.2.2.moved hvm⟩
theorem n_pre.blind {D : va_G} {h0 b : Nat} {ws : va_W} {av : List Value} : FrameBlind (va_Pc av (n_pre D h0 b ws)) := by
  rintro a U g mk ⟨h, hP, hK, hN, hAO, h1, h2⟩
  exact ⟨h, hP, va_K.moved (u := U) (U := U.calling g mk a) (Vm.Alike.refl U.vm) hK, hN.call, n_AO.moved (u := U) (U := U.calling g mk a) (Vm.Alike.refl U.vm) hAO, h1, h2⟩
theorem n_one {D : va_G} {ws : va_W} {H : Heap} {q0 : Nat} {x : Nat × va_E} (hP : va_P D vwCl ws H) (he : ws[q0]? = some x) : va_P D vwCl [x] H := by
  intro k q hk
  have h1 := (List.getElem?_eq_some_iff.mp hk).1
  simp only [List.length_cons, List.length_nil] at h1
  rw [show k = 0 by omega] at hk
  cases hk
  exact hP q0 _ he
/-- some cells written anew: the others are kept -/
theorem n_set {D : va_G} {A : Nat → Prop} {ws : va_W} {H H1 : Heap} {q0 b : Nat} {e0 e1 : va_E} (hP : va_P D vwCl ws H) (hD : va_D A ws) (he : ws[q0]? = some (b, e0)) (h1 : va_P D vwCl [(b, e1)] H1) (hk : ∀ q : Nat, q < H.size → ¬ q = b → H1[q]? = H[q]?) : va_P D vwCl (ws.set q0 (b, e1)) H1 := by
  intro k x hx
  by_cases hq : k = q0
  · subst hq
    have hlt := (List.getElem?_eq_some_iff.mp he).1
    rw [List.getElem?_set_self hlt] at hx
    cases hx
    exact h1 0 _ rfl
  · rw [List.getElem?_set_ne (Ne.symm hq)] at hx
    exact (hP k x hx).kept (hk x.1 ((hP k x hx).lt) (fun z => hq (hD.1 k q0 x _ hx he z)))
section NCC
variable {p : Program} {l : Launch} {e : Env} {R : Room} {s : State} {m : MethodId} {args : Array Value} {below : List Frame} {meth : Method} {c : Code} {H : Heap} {locs : List Loc} {cells slots : Nat} {Q : State → Prop}
variable {cc : ByteArray} {pc nL : Nat} {ls : Array Slot} {rest : List Value} {D : va_G} {A : Nat → Prop} {own host : String} {index : Nat} {y : MethodName} {cd : ByteArray} {rm : Room} {ws : va_W} {tys : List (ClassId × FieldType)}
/-- a nest mate's constructor that makes nothing -/
theorem n_callN {q0 b ci : Nat} {fs fs' : List Value} (hCt : Met l y (g_ws y cd 1 none) rm (va_Pc [.ref b] (n_pre D s.heap.size b [(b, .inr (ci, fs))])) (va_Qv (fun (_ : Unit) => True) (fun _ t => va_P D vwCl [(b, .inr (ci, fs'))] t.heap) (fun q => q = b)) 0 0 (fun q => s.heap.size ≤ q))
    (hm : g_mC y cd 1 none 0) (hy : y.name = "<init>") (hinst : Cond.instanceMethod y ∈ g_tbl) (hx : p.tables.exec = Jvm.exec) (hb : c.code = cc) (hml : c.maxLocals = nL) (hown : s.vm.findClass own = some m.cls) (hts : ∀ w ∈ g_tbl, w.before args s = true) (hK : va_K D vwCl tys s) (hN : g_N s) (hAO : n_AO s) (hlink : va_Nw (Cond.methodLinkNest own index y host) s)
    (hP : va_P D vwCl ws H) (hD : va_D A ws) (hS : va_S A s.heap H locs) (hA : ∀ q, s.heap.size ≤ q → A q) (he : ws[q0]? = some (b, .inr (ci, fs))) (hbs : s.heap.size ≤ b) (hl : ls.size = nL) (hR : g_R rm 1 R) (hW : (rest.map fun v => v.category).sum ≤ 8) (hcap : cells ≤ R.cells ∧ slots ≤ R.slots) (hdg : decode cc pc = .ok (.invokespecial index, 3))
    (kk : ∀ (H1 : Heap) (locs1 : List Loc), va_P D vwCl (ws.set q0 (b, .inr (ci, fs'))) H1 → va_D A (ws.set q0 (b, .inr (ci, fs'))) → va_S A s.heap H1 locs1 → W p l e R s m args below meth c H1 locs1 cells slots Q (F0 m (pc + 3) ls rest)) : W p l e R s m args below meth c H locs cells slots Q (F0 m pc ls (.ref b :: rest)) := by
  refine va_callv (va_runIN (As := []) (rest := rest) (host := host) ⟨hx, hb, hml, hown, hts⟩ hCt ⟨g_cN hts hm hlink hR, hy, hts _ hinst⟩ ⟨n_pre.blind, fun U hU hW => ⟨rfl, by rw [hU]; exact n_one hP he, ⟨(va_K.moved hW.alike hK).1, fun k q h => by simp at h⟩, g_N.warm hW hN, hAO.moved hW.alike, hbs, by rw [hU]; exact hS.1⟩⟩ rfl rfl hl rfl (lv_room hW) hdg hcap) hS (fun q _ h => by rw [h]; exact hD.2 q0 _ he) hA (fun u t H1 locs1 ht hvm _ hB hz1 hk1 hS1 => ?_)
  rw [ht] at hB
  exact kk H1 locs1 (n_set hP hD he hB hk1) (hD.set he) hS1
end NCC
