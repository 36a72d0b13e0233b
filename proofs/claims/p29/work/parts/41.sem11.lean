theorem kPos_self {v : UInt32} (h : kPos v) : Op.cmpValue (FP.fcmp v v) .l = 0 := by
  rcases h with rfl | ⟨E, T, h1, h2, h3, rfl⟩
  · decide
  · have hd : FP.fcmp (kF E T) (kF E T) = FP.Core.order (FP.Core.decode FP.Core.b32 (kF E T).toNat) (FP.Core.decode FP.Core.b32 (kF E T).toNat) := rfl
    rw [hd, kF_dec h1 h2 h3]
    have he : ∀ x : Int, compare x x = .eq := fun x => by rw [k_cmpI, if_neg (by omega), if_pos rfl]
    show Op.cmpValue (some (compare _ _)) .l = 0
    rw [he]
    rfl
def q_ratio (V : g_V) (i : Nat) : Int32 := if 0 < q_worth V i then (FP.fdiv (FP.i2f (V (12 + i) 5)) (FP.i2f (q_worth V i))).toInt32 else 0
/-! a method of the JDK whose code is known -/
section GJ
variable {p : Program} {l : Launch} {e : Env} {R : Room} {s : State} {m : MethodId} {args : Array Value} {below : List Frame} {meth : Method} {c : Code} {H : Heap} {locs : List Loc} {cells slots : Nat} {Q : State → Prop}
variable {cc : ByteArray} {pc nL : Nat} {ls : Array Slot} {rest As st0 : List Value} {D : va_G} {tb : g_T} {ad : g_Ad} {A : Nat → Prop} {P P' Pa : g_P} {M M' Ma : g_M} {r0 c0 : Nat} {own : String} {index : Nat}
variable {y : MethodName} {cd : ByteArray} {n np : Nat} {ret : Option FieldType} {rm : Room} {fr : Int32} {fq : Option Nat}
theorem g_startF {av : List Value} {Qc : Array Value → State → Outcome → State → Prop} {free : Addr → Prop} (hy : plainFor y = true) (hav : (lg_sl av).length ≤ n) (hj : g_inj ad)
    (body : ∀ (p : Program) (e : Env) (s : State) (m : MethodId) (below : List Frame) (meth : Method) (c : Code) (ls : Array Slot), p.tables.exec = Jvm.exec → c.code = cd → c.maxLocals = n → meth.sig.returnType = ret → meth.locks = false → s.vm.findClass y.cls = some m.cls → (∀ w ∈ g_tbl, w.before av.toArray s = true) → g_C D tb ad (g_A ad) s → g_I D tb ad (g_A ad) s s.heap [] P M → lv_has ls n (lv_args 0 av) →
      W p l e rm s m av.toArray below meth c s.heap [] 0 0 (MQ below Qc av.toArray s 0 0 free) (F0 m 0 ls [])) :
    Met l y (g_ws y cd n ret) rm (va_Pc av (g_pre D tb ad P M)) Qc 0 0 free := by
  refine va_MetF (cc := cd) (maxL := n) (ret := ret) hy rfl ?_
  intro p e s m args below meth c s₁ B hml hv
  obtain ⟨rfl, hP, hK, hN, hZ⟩ := hv
  have hts := atoms_spec (ws := g_ws y cd n ret) B.pre
  have hl := lv_entry av (n := n) hav
  rw [lg_entry_eq]
  exact body p e s m below meth c _ B.exec B.bytes hml B.returns B.notSynchronized (findClass_of_methodNamed B.named) (fun w h => hts w (List.mem_cons_of_mem _ h)) ⟨hK, hN, hZ, hj, fun r c h => ⟨r, c, h, rfl⟩⟩ ⟨hP, va_S.rf⟩ hl
theorem g_goF {av : List Value} {Qc : Array Value → State → Outcome → State → Prop} {free : Addr → Prop} (hy : plainFor y = true) (hav : (lg_sl av).length ≤ n) (hj : g_inj ad)
    (body : ∀ (p : Program) (e : Env) (s : State) (m : MethodId) (below : List Frame) (meth : Method) (c : Code) (ls : Array Slot) (H : Heap) (locs : List Loc) (R : Room) (args : Array Value) (Q : State → Prop), R = rm → Q = MQ below Qc args s 0 0 free → p.tables.exec = Jvm.exec → c.code = cd → c.maxLocals = n → meth.sig.returnType = ret → meth.locks = false → s.vm.findClass y.cls = some m.cls → (∀ w ∈ g_tbl, w.before args s = true) → g_C D tb ad (g_A ad) s → g_I D tb ad (g_A ad) s H locs P M → lv_has ls n (lv_args 0 av) →
      W p l e R s m args below meth c H locs 0 0 Q (F0 m 0 ls [])) :
    Met l y (g_ws y cd n ret) rm (va_Pc av (g_pre D tb ad P M)) Qc 0 0 free :=
  g_startF hy hav hj (fun p e s m below meth c ls h1 h2 h3 h4 h5 h6 h7 h8 h9 h10 => body p e s m below meth c ls s.heap [] rm av.toArray _ rfl rfl h1 h2 h3 h4 h5 h6 h7 h8 h9 h10)
end GJ
