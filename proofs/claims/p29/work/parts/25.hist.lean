/-! ===== pointers (history, now, spare), copies of rows, the two static tables ===== -/
theorem g_hs2 {tb : g_T} {ad : g_Ad} {P : g_P} {M : g_M} {V : g_V} {r c : Nat} {F : Nat → Int32} : ∀ r' c', g_ok r' c' = true → ¬ (r' = r ∧ c' = c) → g_E tb ad P (va_up M r (va_up V c F)) r' c' = g_E tb ad P (va_up M r V) r' c' := by
  intro r' c' hk h
  refine g_E_congr hk ?_
  by_cases hrr : r' = r
  · subst hrr
    rw [va_up_self, va_up_self]
    exact va_up_ne V _ (fun z => h ⟨rfl, z⟩)
  · rw [va_up_ne M _ hrr, va_up_ne M _ hrr]
theorem g_hsH {tb : g_T} {ad : g_Ad} {P : g_P} {M : g_M} {j x : Nat} : ∀ r' c', g_ok r' c' = true → ¬ (r' = 6 ∧ c' = 4) → g_E tb ad (va_up P (2 + j) x) M r' c' = g_E tb ad P M r' c' := by
  intro r' c' hk h
  unfold g_E
  by_cases hr : r' < 6
  · rw [if_pos hr, if_pos hr]
  · rw [if_neg hr, if_neg hr]
    by_cases h6 : r' = 6
    · subst h6
      have hc : c' < 5 := by simpa [g_ok] using hk
      rcases (show c' = 0 ∨ c' = 1 ∨ c' = 2 ∨ c' = 3 by omega) with rfl | rfl | rfl | rfl
      · unfold g_G
        rw [if_pos rfl, if_pos rfl, va_up_ne P x (by omega), va_up_ne P x (by omega)]
      · rfl
      · rfl
      · rfl
    · unfold g_ok at hk; rw [if_neg hr, if_neg h6] at hk; cases hk
theorem g_hsN {tb : g_T} {ad : g_Ad} {P : g_P} {M : g_M} {j x : Nat} (hj : j < 2) : ∀ r' c', g_ok r' c' = true → ¬ (r' = 6 ∧ c' = 0) → g_E tb ad (va_up P j x) M r' c' = g_E tb ad P M r' c' := by
  intro r' c' hk h
  unfold g_E
  by_cases hr : r' < 6
  · rw [if_pos hr, if_pos hr]
  · rw [if_neg hr, if_neg hr]
    by_cases h6 : r' = 6
    · subst h6
      have hc : c' < 5 := by simpa [g_ok] using hk
      rcases (show c' = 1 ∨ c' = 2 ∨ c' = 3 ∨ c' = 4 by omega) with rfl | rfl | rfl | rfl
      · rfl
      · rfl
      · rfl
      · unfold g_G
        simp only [g_rf]
        have e : (fun i => some (ad (va_up P j x (2 + i)) 0)) = fun i => some (ad (P (2 + i)) 0) := funext fun i => by rw [va_up_ne P x (by omega)]
        rw [if_neg (by omega), if_neg (by omega), if_neg (by omega), if_neg (by omega), if_neg (by omega), if_neg (by omega), if_neg (by omega), if_neg (by omega), e]
    · unfold g_ok at hk; rw [if_neg hr, if_neg h6] at hk; cases hk
theorem k_upP {P : g_P} {j x : Nat} (h : ∀ i, P i < 6) (hx : x < 6) : ∀ i, va_up P j x i < 6 := by
  intro i
  unfold va_up
  split
  · exact hx
  · exact h i
theorem fs_gr_now {ad : g_Ad} {P : g_P} {V : g_V} {x : Nat} : fs_gr ad (va_up P 0 x) V = (fs_gr ad P V).set 3 (.ref (ad x 0)) := rfl
theorem fs_gr_spare {ad : g_Ad} {P : g_P} {V : g_V} {x : Nat} : fs_gr ad (va_up P 1 x) V = (fs_gr ad P V).set 4 (.ref (ad x 0)) := rfl
section GH
variable {p : Program} {l : Launch} {e : Env} {R : Room} {s : State} {m : MethodId} {args : Array Value} {below : List Frame} {meth : Method} {c : Code} {H : Heap} {locs : List Loc} {cells slots : Nat} {Q : State → Prop}
variable {cc : ByteArray} {pc nL : Nat} {ls : Array Slot} {rest : List Value} {D : va_G} {tb : g_T} {ad : g_Ad} {A : Nat → Prop} {P : g_P} {M : g_M} {V : g_V} {own : String} {index : Nat}
/-- history[i] = a state -/
theorem g_hast (j rv : Nat) {i : Int32} (hexec : p.tables.exec = Jvm.exec) (hb : c.code = cc) (hC : g_C D tb ad A s) (hI : g_I D tb ad A s H locs P M) (hrv : rv < 6) (hin : vp_in i 4) (hj : i.toNatClampNeg = j) (hdg : decode cc pc = .ok (.aastore, 1))
    (kk : ∀ (H1 : Heap) (locs1 : List Loc), g_I D tb ad A s H1 locs1 (va_up P (2 + j) rv) M → W p l e R s m args below meth c H1 locs1 cells slots Q (F0 m (pc + 1) ls rest)) : W p l e R s m args below meth c H locs cells slots Q (F0 m pc ls (.ref (ad rv 0) :: .int i :: .ref (ad 6 4) :: rest)) :=
  g_aast 4 3 (f := fun i => ad (P (2 + i)) 0) (f' := fun i => ad (va_up P (2 + j) rv (2 + i)) 0) (r := (RX3, TX3, 11)) j hexec hb hC hI (by decide) e_hi rfl (ok_c 0 hrv (by decide)) (e_st hrv rfl) rfl hin hj (fun k => by
    by_cases hk : k = j
    · subst hk; rw [if_pos rfl, va_up_self]
    · rw [if_neg hk, va_up_ne P rv (by omega)]) e_hi g_hsH hdg kk
/-- now or spare = a state -/
theorem g_pput (j rv : Nat) (hj : j < 2) (hexec : p.tables.exec = Jvm.exec) (hb : c.code = cc) (hts : ∀ w ∈ g_tbl, w.before args s = true) (hown : s.vm.findClass own = some m.cls) (hC : g_C D tb ad A s) (hI : g_I D tb ad A s H locs P M) (hlink : (Cond.fieldLink own index "GrainReceipts" (TX4 (3 + j)).2.1 (TX4 (3 + j)).2.2.1) ∈ g_tbl) (hdg : decode cc pc = .ok (.putfield index, 3))
    (kk : ∀ (H1 : Heap) (locs1 : List Loc), g_I D tb ad A s H1 locs1 (va_up P j rv) M → W p l e R s m args below meth c H1 locs1 cells slots Q (F0 m (pc + 3) ls rest)) : W p l e R s m args below meth c H locs cells slots Q (F0 m pc ls (.ref (ad rv 0) :: .ref (ad 6 0) :: rest)) := by
  rcases (show j = 0 ∨ j = 1 by omega) with rfl | rfl
  · exact g_put 3 (ty := .object "GrainReceipts$State") hexec hb hts hown hC hI i_X4 tyX4_ok nmX4 (by decide) (e_gr rfl) rfl (by decide) hlink rfl rfl rfl rfl rfl (Nat.le_of_ble_eq_true rfl) (e_gr rfl) (g_hsN hj) hdg kk
  · exact g_put 4 (ty := .object "GrainReceipts$State") hexec hb hts hown hC hI i_X4 tyX4_ok nmX4 (by decide) (e_gr rfl) rfl (by decide) hlink rfl rfl rfl rfl rfl (Nat.le_of_ble_eq_true rfl) (e_gr rfl) (g_hsN hj) hdg kk
/-- System.arraycopy of a whole int row of one state onto another's -/
theorem g_acopy {r r2 c0 N : Nat} {n : Int32} {f : Nat → Int32} (hexec : p.tables.exec = Jvm.exec) (hb : c.code = cc) (hml : c.maxLocals = ls.size) (hts : ∀ w ∈ g_tbl, w.before args s = true) (hown : s.vm.findClass own = some m.cls) (hC : g_C D tb ad A s) (hI : g_I D tb ad A s H locs P (va_up M r V)) (hlink : (Cond.methodLink own index arraycopyName) ∈ g_tbl)
    (hok : g_ok r c0 = true) (hok2 : g_ok r2 c0 = true) (he2 : g_E tb ad P (va_up M r V) r2 c0 = .inl (tb 0, N, .inl f)) (he : ∀ W : g_V, g_E tb ad P (va_up M r W) r c0 = .inl (tb 0, N, .inl (W c0))) (h3 : ¬ n < 0) (hn : n.toNatClampNeg = N) (hframes : 1 ≤ R.frames) (hlocals : (rest.map fun v => v.category).sum + 18 ≤ R.locals) (hdg : decode cc pc = .ok (.invokestatic index, 3))
    (kk : ∀ (H1 : Heap) (locs1 : List Loc), g_I D tb ad A s H1 locs1 P (va_up M r (va_up V c0 (va_cpy f (V c0) 0 0 N))) → W p l e R s m args below meth c H1 locs1 cells slots Q (F0 m (pc + 3) ls rest)) : W p l e R s m args below meth c H locs cells slots Q (F0 m pc ls (.int n :: .int 0 :: .ref (ad r c0) :: .int 0 :: .ref (ad r2 c0) :: rest)) := by
  obtain ⟨q2, hq20, hq2⟩ := g_at hok2 he2
  obtain ⟨q, hq0, hq⟩ := g_at hok (he V)
  refine va_copyi hexec hb hml hown (hts _ hlink) (hts _ qn_arraycopy_System) (hts _ qs_arraycopy_System) (hts _ qz_J10) hC.1 hI.1 (g_D hC.2.2.2.1 hC.2.2.2.2) hI.2 q2 q 0 0 hq2 hq rfl rfl rfl (by decide) (by decide) h3 (by rw [hn]; simp) (by rw [hn]; simp) (fun _ _ => rfl) hframes hlocals hdg (fun H1 locs1 h1 h2 h4 => kk H1 locs1 ⟨?_, h4⟩)
  rw [hn, show (0 : Int32).toNatClampNeg = 0 from rfl, g_W_set (M' := va_up M r (va_up V c0 (va_cpy f (V c0) 0 0 N))) hq0 (by rw [he, va_up_self]) g_hs2] at h1
  exact h1
/-- an int of a static table -/
theorem g_stat {f : Nat → Int32} {fn : String} {i : Int32} (hexec : p.tables.exec = Jvm.exec) (hb : c.code = cc) (hown : s.vm.findClass own = some m.cls) (hC : g_C D tb ad A s) (hI : g_I D tb ad A s H locs P M) (hZ : ∃ t, va_Z "GrainReceipts" fn "[I" (.ref t) A s s.heap ∧ va_T .int t 4 (fun j => .int (f j)) A s s.heap) {host : String} (hlink : (Cond.fieldLinkNest own index "GrainReceipts" fn "[I" host) ∈ g_nest) (hdg : decode cc pc = .ok (.getstatic index, 3))
    {k : Nat} {hk : (ls[k]?) = some (.val (.int i))} {hk4 : Fin 4} (hk4e : (hk4 : Nat) = k) (hdg2 : decode cc (pc + 3) = .ok (.iload_n hk4, 1)) (hdg3 : decode cc (pc + 3 + 1) = .ok (.iaload, 1)) (hin : vp_in i 4)
    (kk : W p l e R s m args below meth c H locs cells slots Q (F0 m (pc + 3 + 1 + 1) ls (.int (f i.toNatClampNeg) :: rest))) : W p l e R s m args below meth c H locs cells slots Q (F0 m pc ls rest) := by
  obtain ⟨t, h1, h2⟩ := hZ
  exact va_getsN hexec hb h1 hI.2 hown (va_Nw.use rfl (hC.2.1 _ hlink)) (fun _ h => h) hdg (lv_iload_n hexec hb hdg2 hk4e hk (va_ti hexec hb h2 hI.2 hin rfl hdg3 kk))
end GH
