/-! ===== what each kind of cell shows, and shows when it is written ===== -/
abbrev fs_st (ad : g_Ad) (r : Nat) (V : g_V) : List Value := [.ref (ad r 1), .ref (ad r 2), .ref (ad r 3), .ref (ad r 4), .ref (ad r 5), .ref (ad r 6), .int (V 0 6), .int (V 0 7), .int (V 0 8), .int (V 0 9), .int (V 0 10)]
abbrev fs_bin (V : g_V) (c : Nat) : List Value := [.int (V c 0), .int (V c 1)]
abbrev fs_rec (V : g_V) (c : Nat) : List Value := [.int (V c 0), .int (V c 1), .int (V c 2), .int (V c 3), .int (V c 4), .int (V c 5), .int (V c 6)]
abbrev fs_gr (ad : g_Ad) (P : g_P) (V : g_V) : List Value := [.ref (ad 6 1), .ref (ad 6 4), .int (V 0 2), .ref (ad (P 0) 0), .ref (ad (P 1) 0)]
abbrev fs_sc (ad : g_Ad) (V : g_V) : List Value := [.ref (ad 6 2), .ref (ad 6 3), .int (V 1 2), .int (V 1 3), .int (V 1 4), .int (V 1 5), .int (V 1 6), .int (V 1 7)]
section GK
variable {tb : g_T} {ad : g_Ad} {P : g_P} {M : g_M} {V : g_V} {r i k : Nat} {x : Int32}
theorem g_us : va_up M r V r = V := va_up_self M r V
theorem ok_c (c : Nat) (hr : r < 6) (hc : c < 28) : g_ok r c = true := by unfold g_ok; rw [if_pos hr]; exact decide_eq_true hc
theorem ok_bin (hr : r < 6) (hi : i < 5) : g_ok r (7 + i) = true := ok_c _ hr (by omega)
theorem ok_rec (hr : r < 6) (hi : i < 16) : g_ok r (12 + i) = true := ok_c _ hr (by omega)
theorem e_st (hr : r < 6) (hV : M r = V) : g_E tb ad P M r 0 = .inr (3, fs_st ad r V) := by subst hV; unfold g_E; rw [if_pos hr]; rfl
theorem e_bins (hr : r < 6) : g_E tb ad P M r 1 = g_rf 5 (fun i => ad r (7 + i)) (tb 2) := by unfold g_E; rw [if_pos hr]; rfl
theorem e_recs (hr : r < 6) : g_E tb ad P M r 2 = g_rf 16 (fun i => ad r (12 + i)) (tb 3) := by unfold g_E; rw [if_pos hr]; rfl
theorem e_pr (hr : r < 6) (hV : M r = V) : g_E tb ad P M r 3 = .inl (tb 0, 3, .inl (V 3)) := by subst hV; unfold g_E; rw [if_pos hr]; rfl
theorem e_se (hr : r < 6) (hV : M r = V) : g_E tb ad P M r 4 = .inl (tb 0, 4, .inl (V 4)) := by subst hV; unfold g_E; rw [if_pos hr]; rfl
theorem e_mo (hr : r < 6) (hV : M r = V) : g_E tb ad P M r 5 = .inl (tb 0, 8, .inl (V 5)) := by subst hV; unfold g_E; rw [if_pos hr]; rfl
theorem e_sz (hr : r < 6) (hV : M r = V) : g_E tb ad P M r 6 = .inl (tb 0, 3, .inl (V 6)) := by subst hV; unfold g_E; rw [if_pos hr]; rfl
theorem e_bin (hr : r < 6) (hi : i < 5) (hV : M r = V) : g_E tb ad P M r (7 + i) = .inr (0, fs_bin V (7 + i)) := by
  subst hV; unfold g_E g_S; rw [if_pos hr, if_neg (by omega), if_pos (by omega)]
theorem e_rec (hr : r < 6) (hi : i < 16) (hV : M r = V) : g_E tb ad P M r (12 + i) = .inr (1, fs_rec V (12 + i)) := by
  subst hV; unfold g_E g_S; rw [if_pos hr, if_pos (by omega)]
theorem e_gr (hV : M 6 = V) : g_E tb ad P M 6 0 = .inr (4, fs_gr ad P V) := by subst hV; rfl
theorem e_sc (hV : M 6 = V) : g_E tb ad P M 6 1 = .inr (2, fs_sc ad V) := by subst hV; rfl
theorem e_ch (hV : M 6 = V) : g_E tb ad P M 6 2 = .inl (tb 1, 60, .inl (V 2)) := by subst hV; rfl
theorem e_nu (hV : M 6 = V) : g_E tb ad P M 6 3 = .inl (tb 0, 3, .inl (V 3)) := by subst hV; rfl
theorem e_hi : g_E tb ad P M 6 4 = g_rf 4 (fun i => ad (P (2 + i)) 0) (tb 4) := rfl
theorem w2_s {c : Nat} : g_w2 V c k x c = upd (V c) k x := va_up_self V c _
theorem fs_st_w (hk : 6 ≤ k) (hk2 : k < 11) : fs_st ad r (g_w2 V 0 k x) = (fs_st ad r V).set k (.int x) := by
  unfold fs_st
  rw [w2_s]
  rcases (show k = 6 ∨ k = 7 ∨ k = 8 ∨ k = 9 ∨ k = 10 by omega) with rfl | rfl | rfl | rfl | rfl <;> rfl
theorem fs_bin_w {c : Nat} (hk : k < 2) : fs_bin (g_w2 V c k x) c = (fs_bin V c).set k (.int x) := by
  unfold fs_bin
  rw [w2_s]
  rcases (show k = 0 ∨ k = 1 by omega) with rfl | rfl <;> rfl
theorem fs_rec_w {c : Nat} (hk : k < 7) : fs_rec (g_w2 V c k x) c = (fs_rec V c).set k (.int x) := by
  unfold fs_rec
  rw [w2_s]
  rcases (show k = 0 ∨ k = 1 ∨ k = 2 ∨ k = 3 ∨ k = 4 ∨ k = 5 ∨ k = 6 by omega) with rfl | rfl | rfl | rfl | rfl | rfl | rfl <;> rfl
theorem fs_sc_w (hk : 2 ≤ k) (hk2 : k < 8) : fs_sc ad (g_w2 V 1 k x) = (fs_sc ad V).set k (.int x) := by
  unfold fs_sc
  rw [w2_s]
  rcases (show k = 2 ∨ k = 3 ∨ k = 4 ∨ k = 5 ∨ k = 6 ∨ k = 7 by omega) with rfl | rfl | rfl | rfl | rfl | rfl <;> rfl
theorem fs_gr_w : fs_gr ad P (g_w2 V 0 2 x) = (fs_gr ad P V).set 2 (.int x) := by
  unfold fs_gr
  rw [w2_s]
  rfl
theorem p_st (hr : r < 6) (hk : 6 ≤ k ∧ k < 11) : g_E tb ad P (va_up M r (g_w2 V 0 k x)) r 0 = .inr (3, (fs_st ad r V).set k (.int x)) := by rw [e_st hr g_us, fs_st_w hk.1 hk.2]
theorem p_bin (hr : r < 6) (hi : i < 5) (hk : k < 2) : g_E tb ad P (va_up M r (g_w2 V (7 + i) k x)) r (7 + i) = .inr (0, (fs_bin V (7 + i)).set k (.int x)) := by rw [e_bin hr hi g_us, fs_bin_w hk]
theorem p_rec (hr : r < 6) (hi : i < 16) (hk : k < 7) : g_E tb ad P (va_up M r (g_w2 V (12 + i) k x)) r (12 + i) = .inr (1, (fs_rec V (12 + i)).set k (.int x)) := by rw [e_rec hr hi g_us, fs_rec_w hk]
theorem p_pr (hr : r < 6) : g_E tb ad P (va_up M r (g_w2 V 3 k x)) r 3 = .inl (tb 0, 3, .inl (upd (V 3) k x)) := by rw [e_pr hr g_us, w2_s]
theorem p_se (hr : r < 6) : g_E tb ad P (va_up M r (g_w2 V 4 k x)) r 4 = .inl (tb 0, 4, .inl (upd (V 4) k x)) := by rw [e_se hr g_us, w2_s]
theorem p_mo (hr : r < 6) : g_E tb ad P (va_up M r (g_w2 V 5 k x)) r 5 = .inl (tb 0, 8, .inl (upd (V 5) k x)) := by rw [e_mo hr g_us, w2_s]
theorem p_sz (hr : r < 6) : g_E tb ad P (va_up M r (g_w2 V 6 k x)) r 6 = .inl (tb 0, 3, .inl (upd (V 6) k x)) := by rw [e_sz hr g_us, w2_s]
theorem p_gr : g_E tb ad P (va_up M 6 (g_w2 V 0 2 x)) 6 0 = .inr (4, (fs_gr ad P V).set 2 (.int x)) := by rw [e_gr g_us, fs_gr_w]
theorem p_sc (hk : 2 ≤ k ∧ k < 8) : g_E tb ad P (va_up M 6 (g_w2 V 1 k x)) 6 1 = .inr (2, (fs_sc ad V).set k (.int x)) := by rw [e_sc g_us, fs_sc_w hk.1 hk.2]
theorem p_ch : g_E tb ad P (va_up M 6 (g_w2 V 2 k x)) 6 2 = .inl (tb 1, 60, .inl (upd (V 2) k x)) := by rw [e_ch g_us, w2_s]
theorem p_nu : g_E tb ad P (va_up M 6 (g_w2 V 3 k x)) 6 3 = .inl (tb 0, 3, .inl (upd (V 3) k x)) := by rw [e_nu g_us, w2_s]
end GK
section GQ
variable {p : Program} {l : Launch} {e : Env} {R : Room} {s : State} {m : MethodId} {args : Array Value} {below : List Frame} {meth : Method} {c : Code} {H : Heap} {locs : List Loc} {cells slots : Nat} {Q : State → Prop}
variable {cc : ByteArray} {pc nL : Nat} {ls : Array Slot} {rest As st0 : List Value} {D : va_G} {tb : g_T} {ad : g_Ad} {A : Nat → Prop} {P P' Pa : g_P} {M M' Ma : g_M} {r0 c0 : Nat} {own : String} {index : Nat}
variable {y : MethodName} {cd : ByteArray} {n np : Nat} {ret : Option FieldType} {rm : Room} {fr : Int32} {fq : Option Nat}
/-- a method's start, its end under a name -/
theorem g_go {av : List Value} {Qc : Array Value → State → Outcome → State → Prop} {free : Addr → Prop} (hy : plainName y.cls = true) (hav : (lg_sl av).length ≤ n) (hj : g_inj ad)
    (body : ∀ (p : Program) (e : Env) (s : State) (m : MethodId) (below : List Frame) (meth : Method) (c : Code) (ls : Array Slot) (H : Heap) (locs : List Loc) (R : Room) (args : Array Value) (Q : State → Prop), R = rm → Q = MQ below Qc args s 0 0 free → p.tables.exec = Jvm.exec → c.code = cd → c.maxLocals = n → meth.sig.returnType = ret → meth.locks = false → s.vm.findClass y.cls = some m.cls → (∀ w ∈ g_tbl, w.before args s = true) → g_C D tb ad (g_A ad) s → g_I D tb ad (g_A ad) s H locs P M → lv_has ls n (lv_args 0 av) →
      W p l e R s m args below meth c H locs 0 0 Q (F0 m 0 ls [])) :
    Met l y (g_ws y cd n ret) rm (va_Pc av (g_pre D tb ad P M)) Qc 0 0 free :=
  g_start hy hav hj (fun p e s m below meth c ls h1 h2 h3 h4 h5 h6 h7 h8 h9 h10 => body p e s m below meth c ls s.heap [] rm av.toArray _ rfl rfl h1 h2 h3 h4 h5 h6 h7 h8 h9 h10)
theorem g_ir {v : Int32} {ty : FieldType} (hQ : Q = MQ below (va_Qi (fun r (_ : Unit) => r = fr) (fun _ => g_pre D tb ad P' M') (g_A ad)) args s 0 0 (g_A ad)) (hx : p.tables.exec = Jvm.exec) (hb : c.code = cc) (hr : meth.sig.returnType = some ty) (hlocks : meth.locks = false) (hC : g_C D tb ad (g_A ad) s) (hI : g_I D tb ad (g_A ad) s H locs P M) (hdg : decode cc pc = .ok (.ireturn, 1)) (hn : narrow ty (.int v) = .int v) (hv : v = fr) (hP : P = P') (hM : M = M') :
    W p l e R s m args below meth c H locs 0 0 Q (F0 m pc ls [.int v]) := by subst hQ; exact g_iret hx hb hr hlocks hC hI hn hv hP hM hdg
theorem g_vr (hQ : Q = MQ below (va_Qv (fun (_ : Unit) => True) (fun _ => g_pre D tb ad P' M') (g_A ad)) args s 0 0 (g_A ad)) (hx : p.tables.exec = Jvm.exec) (hb : c.code = cc) (hr : meth.sig.returnType = none) (hlocks : meth.locks = false) (hC : g_C D tb ad (g_A ad) s) (hI : g_I D tb ad (g_A ad) s H locs P M) (hdg : decode cc pc = .ok (.return_, 1)) (hP : P = P') (hM : M = M') :
    W p l e R s m args below meth c H locs 0 0 Q (F0 m pc ls []) := by subst hQ; exact g_vret hx hb hr hlocks hC hI hP hM hdg
theorem g_qr {v : Option Nat} {C : String} {vv : Value} (hQ : Q = MQ below (va_Qq (fun r (_ : Unit) => r = fq) (fun _ => g_pre D tb ad P' M') (g_A ad)) args s 0 0 (g_A ad)) (hx : p.tables.exec = Jvm.exec) (hb : c.code = cc) (hr : meth.sig.returnType = some (.object C)) (hlocks : meth.locks = false) (hC : g_C D tb ad (g_A ad) s) (hI : g_I D tb ad (g_A ad) s H locs P M) (hdg : decode cc pc = .ok (.areturn, 1)) (hvv : vv = va_rf v) (hv : v = fq) (hP : P = P') (hM : M = M') :
    W p l e R s m args below meth c H locs 0 0 Q (F0 m pc ls [vv]) := by subst hQ; exact g_qret hx hb hr hlocks hC hI hv hP hM hdg hvv
/-- a truth on the stack: by cases -/
theorem g_tf {q : Prop} [Decidable q] (h1 : q → W p l e R s m args below meth c H locs cells slots Q (F0 m pc ls (.int 1 :: rest))) (h0 : ¬ q → W p l e R s m args below meth c H locs cells slots Q (F0 m pc ls (.int 0 :: rest))) : W p l e R s m args below meth c H locs cells slots Q (F0 m pc ls (.int (if q then 1 else 0) :: rest)) := by
  by_cases h : q
  · rw [if_pos h]; exact h1 h
  · rw [if_neg h]; exact h0 h
/-- a cell or none on the stack: by cases -/
theorem g_nf {o : Option Nat} {f : Nat → Nat} (h0 : o = none → W p l e R s m args below meth c H locs cells slots Q (F0 m pc ls (.null :: rest))) (h1 : ∀ i, o = some i → W p l e R s m args below meth c H locs cells slots Q (F0 m pc ls (.ref (f i) :: rest))) : W p l e R s m args below meth c H locs cells slots Q (F0 m pc ls (va_rf (o.map f) :: rest)) := by
  cases o with
  | none => exact h0 rfl
  | some i => exact h1 i rfl
end GQ
/-- numbers of loops -/
theorem k_lt {i n : Nat} (hn : n < 2 ^ 31) (hi : i < 2 ^ 31) : nI i < nI n ↔ i < n := nI_ltI hi hn
theorem k_ge {i n : Nat} (hn : n < 2 ^ 31) (hi : i < 2 ^ 31) : nI n ≤ nI i ↔ n ≤ i := nI_leI hn hi
