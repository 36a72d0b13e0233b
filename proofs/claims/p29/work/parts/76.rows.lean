/-! ===== contracts of the law's own methods; the class' calls as rows of the law ===== -/
def g_Cx (l : Launch) (y : MethodName) (cd : ByteArray) (n : Nat) (ret : Option FieldType) (rm : Room) (D : va_G) (tb : g_T) (ad : g_Ad) (av : List Value) (P : g_P) (M : g_M) (Post : Int32 → g_P → g_M → Prop) : Prop :=
  Met l y (g_ws y cd n ret) rm (va_Pc av (g_pre D tb ad P M)) (va_Qi (fun r (u : g_P × g_M) => Post r u.1 u.2) (fun u => g_pre D tb ad u.1 u.2) (g_A ad)) 0 0 (g_A ad)
def g_Cl (l : Launch) (y : MethodName) (cd : ByteArray) (n : Nat) (ret : Option FieldType) (rm : Room) (D : va_G) (tb : g_T) (ad : g_Ad) (av : List Value) (P : g_P) (M : g_M) (fr : Int64) : Prop :=
  Met l y (g_ws y cd n ret) rm (va_Pc av (g_pre D tb ad P M)) (va_Ql (fun r (_ : Unit) => r = fr) (fun _ => g_pre D tb ad P M) (g_A ad)) 0 0 (g_A ad)
section LR
variable {p : Program} {l : Launch} {e : Env} {R : Room} {s : State} {m : MethodId} {args : Array Value} {below : List Frame} {meth : Method} {c : Code} {H : Heap} {locs : List Loc} {cells slots : Nat} {Q : State → Prop}
variable {cc : ByteArray} {pc nL : Nat} {ls : Array Slot} {rest As st0 : List Value} {D : va_G} {tb : g_T} {ad : g_Ad} {A : Nat → Prop} {P P' P1 Pa : g_P} {M M' M1 Ma : g_M} {own : String} {index : Nat}
variable {y : MethodName} {cd : ByteArray} {n np : Nat} {ret : Option FieldType} {rm : Room} {fr : Int32} {fl : Int64} {Post : Int32 → g_P → g_M → Prop} {mb lo hi : Int}
theorem g_callSx (hCt : g_Cx l y cd n ret rm D tb ad As P M Post) (hm : g_mS y cd n ret np) (hx : p.tables.exec = Jvm.exec) (hb : c.code = cc) (hml : c.maxLocals = nL) (hown : s.vm.findClass own = some m.cls) (hts : ∀ w ∈ g_tbl, w.before args s = true) (hC : g_C D tb ad A s) (hI : g_I D tb ad A s H locs P M)
    (hlink : (Cond.methodLink own index y) ∈ g_tbl) (hnp : As.length = np) (hl : ls.size = nL) (hst : st0 = As.reverse ++ rest) (hR : g_R rm n R) (hW : (rest.map fun v => v.category).sum ≤ 8) (hcap : cells ≤ R.cells ∧ slots ≤ R.slots) (hdg : decode cc pc = .ok (.invokestatic index, 3))
    (kk : ∀ (r : Int32) (P1 : g_P) (M1 : g_M), Post r P1 M1 → ∀ (H1 : Heap) (locs1 : List Loc), g_I D tb ad A s H1 locs1 P1 M1 → W p l e R s m args below meth c H1 locs1 cells slots Q (F0 m (pc + 3) ls (.int r :: rest))) : W p l e R s m args below meth c H locs cells slots Q (F0 m pc ls st0) := by
  subst hst
  refine va_calli (va_runS (As := As) (rest := rest) ⟨hx, hb, hml, hown, hts⟩ hCt ⟨g_cB hts hm.1 hlink hR, hts _ hm.2⟩ ⟨g_pre.blind, fun U hU hW => ⟨rfl, g_pre.of hC hI U hU hW⟩⟩ rfl hnp hl rfl (lv_room hW) hdg hcap) hI.2 (fun q _ h => hC.A q h) hC.A (fun r u t H1 locs1 ht hvm hw hB hz1 hk1 hS1 => ?_)
  exact kk r u.1 u.2 hw H1 locs1 ⟨by rw [← ht]; exact hB.1, hS1⟩
theorem g_callSl (hCt : g_Cl l y cd n ret rm D tb ad As P M fl) (hm : g_mS y cd n ret np) (hx : p.tables.exec = Jvm.exec) (hb : c.code = cc) (hml : c.maxLocals = nL) (hown : s.vm.findClass own = some m.cls) (hts : ∀ w ∈ g_tbl, w.before args s = true) (hC : g_C D tb ad A s) (hI : g_I D tb ad A s H locs P M)
    (hlink : (Cond.methodLink own index y) ∈ g_tbl) (hnp : As.length = np) (hl : ls.size = nL) (hst : st0 = As.reverse ++ rest) (hR : g_R rm n R) (hW : (rest.map fun v => v.category).sum ≤ 8) (hcap : cells ≤ R.cells ∧ slots ≤ R.slots) (hdg : decode cc pc = .ok (.invokestatic index, 3))
    (kk : ∀ (H1 : Heap) (locs1 : List Loc), g_I D tb ad A s H1 locs1 P M → W p l e R s m args below meth c H1 locs1 cells slots Q (F0 m (pc + 3) ls (.long fl :: rest))) : W p l e R s m args below meth c H locs cells slots Q (F0 m pc ls st0) := by
  subst hst
  refine va_calll (va_runS (As := As) (rest := rest) ⟨hx, hb, hml, hown, hts⟩ hCt ⟨g_cB hts hm.1 hlink hR, hts _ hm.2⟩ ⟨g_pre.blind, fun U hU hW => ⟨rfl, g_pre.of hC hI U hU hW⟩⟩ rfl hnp hl rfl (lv_room hW) hdg hcap) hI.2 (fun q _ h => hC.A q h) hC.A (fun r u t H1 locs1 ht hvm hw hB hz1 hk1 hS1 => ?_)
  subst hw
  exact kk H1 locs1 ⟨by rw [← ht]; exact hB.1, hS1⟩
theorem g_xr {v : Int32} {ty : FieldType} (hQ : Q = MQ below (va_Qi (fun r (u : g_P × g_M) => Post r u.1 u.2) (fun u => g_pre D tb ad u.1 u.2) (g_A ad)) args s 0 0 (g_A ad)) (hx : p.tables.exec = Jvm.exec) (hb : c.code = cc) (hr : meth.sig.returnType = some ty) (hlocks : meth.locks = false) (hC : g_C D tb ad (g_A ad) s) (hI : g_I D tb ad (g_A ad) s H locs P1 M1) (hdg : decode cc pc = .ok (.ireturn, 1)) (hn : narrow ty (.int v) = .int v) (hp : Post v P1 M1) :
    W p l e R s m args below meth c H locs 0 0 Q (F0 m pc ls [.int v]) := by
  subst hQ
  exact W.zret hx hb hr hn (fun t ht hW => ⟨⟨v, (P1, M1), rfl, hp, g_pre.of hC hI t ht hW⟩, hI.2.F ht⟩) hI.2.2.2 hdg hlocks
theorem g_lr {v : Int64} (hQ : Q = MQ below (va_Ql (fun r (_ : Unit) => r = fl) (fun _ => g_pre D tb ad P M) (g_A ad)) args s 0 0 (g_A ad)) (hx : p.tables.exec = Jvm.exec) (hb : c.code = cc) (hr : meth.sig.returnType = some .long) (hlocks : meth.locks = false) (hC : g_C D tb ad (g_A ad) s) (hI : g_I D tb ad (g_A ad) s H locs P M) (hdg : decode cc pc = .ok (.lreturn, 1)) (hv : v = fl) :
    W p l e R s m args below meth c H locs 0 0 Q (F0 m pc ls [.long v]) := by
  subst hQ; subst hv
  exact W.lret hx hb hr (fun t ht hW => ⟨⟨v, (), rfl, rfl, g_pre.of hC hI t ht hW⟩, hI.2.F ht⟩) hI.2.2.2 hdg hlocks
/-- what holds all through a method of the law -/
def L_x (p : Program) (s : State) (m : MethodId) (args : Array Value) (c : Code) (cc : ByteArray) (nL : Nat) (D : va_G) (tb : g_T) (ad : g_Ad) (A : Nat → Prop) : Prop :=
  p.tables.exec = Jvm.exec ∧ c.code = cc ∧ c.maxLocals = nL ∧ s.vm.findClass RL = some m.cls ∧ (∀ w ∈ g_tbl, w.before args s = true) ∧ g_C D tb ad A s ∧ g_inj ad
def q_cnt (P : g_P) (M : g_M) (x : Int32) : Int32 := if x = 8 then M 6 0 2 else if x = 9 then M 6 1 2 else q_tellNumber (M (P 0)) x
theorem z_Rel.okG (h : z_Rel P M mb lo hi) : q_okG (M (P 0)) := by
  obtain ⟨n, sn, ⟨g, hL, h1, -, -⟩, -, -⟩ := z_Rel.get h
  exact hL.okG h1
theorem z_Rel.rat (h : z_Rel P M mb lo hi) : ∀ i, i < 16 → 0 < q_worth (M (P 0)) i → kPos (FP.fdiv (FP.i2f ((M (P 0)) (12 + i) 5)) (FP.i2f (q_worth (M (P 0)) i))) := by
  obtain ⟨n, sn, ⟨g, hL, h1, -, -⟩, -, -⟩ := z_Rel.get h
  exact z_ratioV hL h1
theorem r_count (X : L_x p s m args c cc nL D tb ad A) (hI : g_I D tb ad A s H locs P M) (h : z_Rel P M mb lo hi) {x : Int32} (hl : ls.size = nL) (hst : st0 = .int x :: .ref (ad 6 0) :: rest) (hR : g_R rm_X4_count 2 R) (hW : (rest.map fun v => v.category).sum ≤ 8) (hcap : cells ≤ R.cells ∧ slots ≤ R.slots) (hdg : decode cc pc = .ok (.invokevirtual 13, 3))
    (kk : ∀ (H1 : Heap) (locs1 : List Loc), g_I D tb ad A s H1 locs1 P M → W p l e R s m args below meth c H1 locs1 cells slots Q (F0 m (pc + 3) ls (.int (q_cnt P M x) :: rest))) : W p l e R s m args below meth c H locs cells slots Q (F0 m pc ls st0) := by
  obtain ⟨hx, hb, hml, hown, hts, hC, hj⟩ := X
  exact g_callVi (rest := rest) (c_X4_count l D tb ad hj P M x h.P6 _ rfl _ rfl) rfl rfl gm_X4_count hx hb hml hown hts hC hI (by decide) (e_gr rfl) rfl rfl qm_L_13 rfl hl hst hR hW hcap hdg kk
theorem r_receipt (X : L_x p s m args c cc nL D tb ad A) (hI : g_I D tb ad A s H locs P M) (h : z_Rel P M mb lo hi) {x : Int32} (hl : ls.size = nL) (hst : st0 = .int x :: .ref (ad 6 0) :: rest) (hR : g_R rm_X4_receipt 2 R) (hW : (rest.map fun v => v.category).sum ≤ 8) (hcap : cells ≤ R.cells ∧ slots ≤ R.slots) (hdg : decode cc pc = .ok (.invokevirtual 19, 3))
    (kk : ∀ (H1 : Heap) (locs1 : List Loc), g_I D tb ad A s H1 locs1 P M → W p l e R s m args below meth c H1 locs1 cells slots Q (F0 m (pc + 3) ls (.int (q_numberAt (M (P 0)) x) :: rest))) : W p l e R s m args below meth c H locs cells slots Q (F0 m pc ls st0) := by
  obtain ⟨hx, hb, hml, hown, hts, hC, hj⟩ := X
  exact g_callVi (rest := rest) (c_X4_receipt l D tb ad hj P M x h.P6 _ rfl) rfl rfl gm_X4_receipt hx hb hml hown hts hC hI (by decide) (e_gr rfl) rfl rfl qm_L_19 rfl hl hst hR hW hcap hdg kk
theorem r_fallTo (X : L_x p s m args c cc nL D tb ad A) (hI : g_I D tb ad A s H locs P M) (h : z_Rel P M mb lo hi) {x : Int32} (hl : ls.size = nL) (hst : st0 = .int x :: .ref (ad 6 0) :: rest) (hR : g_R rm_X4_fallTo 2 R) (hW : (rest.map fun v => v.category).sum ≤ 8) (hcap : cells ≤ R.cells ∧ slots ≤ R.slots) (hdg : decode cc pc = .ok (.invokevirtual 35, 3))
    (kk : ∀ (H1 : Heap) (locs1 : List Loc), g_I D tb ad A s H1 locs1 P M → W p l e R s m args below meth c H1 locs1 cells slots Q (F0 m (pc + 3) ls (.int (q_fallTo (M (P 0)) x) :: rest))) : W p l e R s m args below meth c H locs cells slots Q (F0 m pc ls st0) := by
  obtain ⟨hx, hb, hml, hown, hts, hC, hj⟩ := X
  exact g_callVi (rest := rest) (c_X4_fallTo l D tb ad hj P M x h.P6 _ rfl) rfl rfl gm_X4_fallTo hx hb hml hown hts hC hI (by decide) (e_gr rfl) rfl rfl qm_L_35 rfl hl hst hR hW hcap hdg kk
theorem r_receiptOf (X : L_x p s m args c cc nL D tb ad A) (hI : g_I D tb ad A s H locs P M) (h : z_Rel P M mb lo hi) {x w : Int32} (hl : ls.size = nL) (hst : st0 = .int w :: .int x :: .ref (ad 6 0) :: rest) (hR : g_R rm_X4_receiptOf 3 R) (hW : (rest.map fun v => v.category).sum ≤ 8) (hcap : cells ≤ R.cells ∧ slots ≤ R.slots) (hdg : decode cc pc = .ok (.invokevirtual 22, 3))
    (kk : ∀ (H1 : Heap) (locs1 : List Loc), g_I D tb ad A s H1 locs1 P M → W p l e R s m args below meth c H1 locs1 cells slots Q (F0 m (pc + 3) ls (.int (q_tellReceipt (M (P 0)) x w) :: rest))) : W p l e R s m args below meth c H locs cells slots Q (F0 m pc ls st0) := by
  obtain ⟨hx, hb, hml, hown, hts, hC, hj⟩ := X
  exact g_callVi (rest := rest) (c_X4_receiptOf l D tb ad hj P M x w h.P6 _ rfl h.rat) rfl rfl gm_X4_receiptOf hx hb hml hown hts hC hI (by decide) (e_gr rfl) rfl rfl qm_L_22 rfl hl hst hR hW hcap hdg kk
theorem r_binOf (X : L_x p s m args c cc nL D tb ad A) (hI : g_I D tb ad A s H locs P M) (h : z_Rel P M mb lo hi) {x w : Int32} (hl : ls.size = nL) (hst : st0 = .int w :: .int x :: .ref (ad 6 0) :: rest) (hR : g_R rm_X4_binOf 3 R) (hW : (rest.map fun v => v.category).sum ≤ 8) (hcap : cells ≤ R.cells ∧ slots ≤ R.slots) (hdg : decode cc pc = .ok (.invokevirtual 26, 3))
    (kk : ∀ (H1 : Heap) (locs1 : List Loc), g_I D tb ad A s H1 locs1 P M → W p l e R s m args below meth c H1 locs1 cells slots Q (F0 m (pc + 3) ls (.int (q_tellBin (M (P 0)) x w) :: rest))) : W p l e R s m args below meth c H locs cells slots Q (F0 m pc ls st0) := by
  obtain ⟨hx, hb, hml, hown, hts, hC, hj⟩ := X
  exact g_callVi (rest := rest) (c_X4_binOf l D tb ad hj P M x w h.P6 _ rfl h.okG) rfl rfl gm_X4_binOf hx hb hml hown hts hC hI (by decide) (e_gr rfl) rfl rfl qm_L_26 rfl hl hst hR hW hcap hdg kk
theorem r_gradeOf (X : L_x p s m args c cc nL D tb ad A) (hI : g_I D tb ad A s H locs P M) (h : z_Rel P M mb lo hi) {x w : Int32} (hl : ls.size = nL) (hst : st0 = .int w :: .int x :: .ref (ad 6 0) :: rest) (hR : g_R rm_X4_gradeOf 3 R) (hW : (rest.map fun v => v.category).sum ≤ 8) (hcap : cells ≤ R.cells ∧ slots ≤ R.slots) (hdg : decode cc pc = .ok (.invokevirtual 29, 3))
    (kk : ∀ (H1 : Heap) (locs1 : List Loc), g_I D tb ad A s H1 locs1 P M → W p l e R s m args below meth c H1 locs1 cells slots Q (F0 m (pc + 3) ls (.int (q_tellGrade (M (P 0)) x w) :: rest))) : W p l e R s m args below meth c H locs cells slots Q (F0 m pc ls st0) := by
  obtain ⟨hx, hb, hml, hown, hts, hC, hj⟩ := X
  exact g_callVi (rest := rest) (c_X4_gradeOf l D tb ad hj P M x w h.P6 _ rfl) rfl rfl gm_X4_gradeOf hx hb hml hown hts hC hI (by decide) (e_gr rfl) rfl rfl qm_L_29 rfl hl hst hR hW hcap hdg kk
theorem r_lenderOf (X : L_x p s m args c cc nL D tb ad A) (hI : g_I D tb ad A s H locs P M) (h : z_Rel P M mb lo hi) {x w : Int32} (hl : ls.size = nL) (hst : st0 = .int w :: .int x :: .ref (ad 6 0) :: rest) (hR : g_R rm_X4_lenderOf 3 R) (hW : (rest.map fun v => v.category).sum ≤ 8) (hcap : cells ≤ R.cells ∧ slots ≤ R.slots) (hdg : decode cc pc = .ok (.invokevirtual 32, 3))
    (kk : ∀ (H1 : Heap) (locs1 : List Loc), g_I D tb ad A s H1 locs1 P M → W p l e R s m args below meth c H1 locs1 cells slots Q (F0 m (pc + 3) ls (.int (q_tellLender (M (P 0)) x w) :: rest))) : W p l e R s m args below meth c H locs cells slots Q (F0 m pc ls st0) := by
  obtain ⟨hx, hb, hml, hown, hts, hC, hj⟩ := X
  exact g_callVi (rest := rest) (c_X4_lenderOf l D tb ad hj P M x w h.P6 _ rfl) rfl rfl gm_X4_lenderOf hx hb hml hown hts hC hI (by decide) (e_gr rfl) rfl rfl qm_L_32 rfl hl hst hR hW hcap hdg kk
theorem r_ownerOf (X : L_x p s m args c cc nL D tb ad A) (hI : g_I D tb ad A s H locs P M) (h : z_Rel P M mb lo hi) {x w : Int32} (hl : ls.size = nL) (hst : st0 = .int w :: .int x :: .ref (ad 6 0) :: rest) (hR : g_R rm_X4_ownerOf 3 R) (hW : (rest.map fun v => v.category).sum ≤ 8) (hcap : cells ≤ R.cells ∧ slots ≤ R.slots) (hdg : decode cc pc = .ok (.invokevirtual 38, 3))
    (kk : ∀ (H1 : Heap) (locs1 : List Loc), g_I D tb ad A s H1 locs1 P M → W p l e R s m args below meth c H1 locs1 cells slots Q (F0 m (pc + 3) ls (.int (q_tellOwner (M (P 0)) x w) :: rest))) : W p l e R s m args below meth c H locs cells slots Q (F0 m pc ls st0) := by
  obtain ⟨hx, hb, hml, hown, hts, hC, hj⟩ := X
  exact g_callVi (rest := rest) (c_X4_ownerOf l D tb ad hj P M x w h.P6 _ rfl) rfl rfl gm_X4_ownerOf hx hb hml hown hts hC hI (by decide) (e_gr rfl) rfl rfl qm_L_38 rfl hl hst hR hW hcap hdg kk
/-- any number in the range of the remainder -/
abbrev rm_L_low : Room := { frames := 0, cells := 0, slots := 0, locals := 0 }
def low_v (v n : Int32) : Int32 := (v &&& 2147483647) - (v &&& 2147483647) / n * n
theorem rem_rg {a n : Int32} (h0 : 0 ≤ a.toInt) (hn : 0 < n.toInt) : (a - a / n * n).toInt = a.toInt % n.toInt := by
  have e1 : (a / n).toInt = a.toInt / n.toInt := z_div h0 hn
  have h1 := Int.ediv_mul_le a.toInt (b := n.toInt) (by omega)
  have h2 : 0 ≤ a.toInt / n.toInt * n.toInt := Int.mul_nonneg (Int.ediv_nonneg h0 (by omega)) (by omega)
  have hb := Int32.toInt_lt a
  have e2 : (a / n * n).toInt = a.toInt / n.toInt * n.toInt := by rw [z_mul (by rw [e1]; omega) (by rw [e1]; omega), e1]
  rw [z_sub (by rw [e2]; omega) (by rw [e2]; omega), e2, Int.emod_def, Int.mul_comm]
theorem low_rg {v n : Int32} (hn : 0 < n.toInt) : 0 ≤ (low_v v n).toInt ∧ (low_v v n).toInt < n.toInt := by
  have h0 : 0 ≤ (v &&& 2147483647).toInt := BitVec.toInt_nonneg_of_msb_false (x := (v &&& 2147483647).toBitVec) (by rw [Int32.toBitVec_and, BitVec.msb_and, show (2147483647 : Int32).toBitVec.msb = false from by decide, Bool.and_false])
  unfold low_v
  rw [rem_rg h0 hn]
  exact ⟨Int.emod_nonneg _ (by omega), Int.emod_lt_of_pos _ hn⟩
theorem c_L_low (l : Launch) (D : va_G) (tb : g_T) (ad : g_Ad) (hj : g_inj ad) (P : g_P) (M : g_M) (v n : Int32) (hn : 0 < n.toInt) : g_Ci l yL_low cL_low 2 (some .int) rm_L_low D tb ad [.int v, .int n] P M (low_v v n) P M := by
  refine g_go (by decide) (Nat.le_of_ble_eq_true rfl) hj ?_
  intro p e s m below meth c ls H locs R args Q hR0 hQ hx hb hml hr0 hlk hown hts hC hI hl
  subst hR0
  have hown : s.vm.findClass RL = some m.cls := hown
  have hl : lv_has ls 2 [(0, .int v), (1, .int n)] := hl
  refine lv_iload_n hx hb dL_low_0 rfl (lv_at hl 0 rfl) ?_
  refine lv_ldc (v := 2147483647) hx hb hown (hts _ qc_L_8) dL_low_1 ?_
  refine lv_iand hx hb dL_low_3 ?_
  refine lv_iload_n hx hb dL_low_4 rfl (lv_at hl 1 rfl) ?_
  refine lv_irem hx hb dL_low_5 (fun z => by rw [z] at hn; exact absurd hn (by decide)) ?_
  exact g_ir hQ hx hb hr0 hlk hC hI dL_low_6 rfl rfl rfl rfl
theorem r_low (X : L_x p s m args c cc nL D tb ad A) (hI : g_I D tb ad A s H locs P M) {v n : Int32} (hn : 0 < n.toInt) (hl : ls.size = nL) (hst : st0 = .int n :: .int v :: rest) (hR : g_R rm_L_low 2 R) (hW : (rest.map fun v => v.category).sum ≤ 8) (hcap : cells ≤ R.cells ∧ slots ≤ R.slots) (hdg : decode cc pc = .ok (.invokestatic 48, 3))
    (kk : ∀ (H1 : Heap) (locs1 : List Loc), g_I D tb ad A s H1 locs1 P M → ∀ w : Int32, 0 ≤ w.toInt → w.toInt < n.toInt → W p l e R s m args below meth c H1 locs1 cells slots Q (F0 m (pc + 3) ls (.int w :: rest))) : W p l e R s m args below meth c H locs cells slots Q (F0 m pc ls st0) := by
  obtain ⟨hx, hb, hml, hown, hts, hC, hj⟩ := X
  exact g_callSi (rest := rest) (c_L_low l D tb ad hj P M v n hn) rfl rfl gm_L_low hx hb hml hown hts hC hI qm_L_48 rfl hl hst hR hW hcap hdg (fun H1 locs1 hI1 => kk H1 locs1 hI1 _ (low_rg hn).1 (low_rg hn).2)
end LR
