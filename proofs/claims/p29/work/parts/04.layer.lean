/-! ===== the layer of this claim: one picture of all cells, as numbers by region, cell and place ===== -/
/-- the words that every method's contract takes: those of the tables that stay -/
def g_tbl : List Cond := lw_tbl.filter goodWord
abbrev g_ws (y : MethodName) (cd : ByteArray) (n : Nat) (ret : Option FieldType) : List Cond := Cond.code y cd n ret :: g_tbl
theorem g_in {w : Cond} (i : Nat) (h : lw_tbl[i]? = some w) (hg : goodWord w = true) : w ∈ g_tbl := List.mem_filter.mpr ⟨List.mem_of_getElem? h, hg⟩
theorem g_of_tbl {args : Array Value} {s : State} (h : ∀ w ∈ lw_tbl, w.before args s = true) : ∀ w ∈ g_tbl, w.before args s = true := fun w hw => h w (List.mem_filter.mp hw).1
/-- regions: 0 to 5 the states, 6 the class' own object with its script; 7 has no cells -/
def g_ok (r c : Nat) : Bool := if r < 6 then decide (c < 28) else if r = 6 then decide (c < 5) else false
def g_L : List (Nat × Nat) := (List.range 8).flatMap (fun r => ((List.range 28).filter (fun c => g_ok r c)).map (fun c => (r, c)))
theorem g_L_ok {q : Nat × Nat} (h : q ∈ g_L) : g_ok q.1 q.2 = true := by
  obtain ⟨r, -, h1⟩ := List.mem_flatMap.mp h
  obtain ⟨c, h2, rfl⟩ := List.mem_map.mp h1
  exact (List.mem_filter.mp h2).2
theorem g_ok_lt {r c : Nat} (h : g_ok r c = true) : r < 8 ∧ c < 28 := by
  unfold g_ok at h
  split at h
  · have := of_decide_eq_true h; omega
  · split at h
    · have := of_decide_eq_true h; omega
    · cases h
theorem g_L_mem {r c : Nat} (h : g_ok r c = true) : (r, c) ∈ g_L := by
  have h1 := g_ok_lt h
  exact List.mem_flatMap.mpr ⟨r, List.mem_range.mpr h1.1, List.mem_map.mpr ⟨c, List.mem_filter.mpr ⟨List.mem_range.mpr h1.2, h⟩, rfl⟩⟩
theorem g_L_nd : g_L.Nodup := by decide +kernel
theorem g_nd {l : List (Nat × Nat)} (h : l.Nodup) {i j : Nat} {x : Nat × Nat} (hi : l[i]? = some x) (hj : l[j]? = some x) : i = j := by
  obtain ⟨i1, e1⟩ := List.getElem?_eq_some_iff.mp hi
  obtain ⟨j1, e2⟩ := List.getElem?_eq_some_iff.mp hj
  rcases Nat.lt_trichotomy i j with h1 | h1 | h1
  · exact absurd (e1.trans e2.symm) (List.pairwise_iff_getElem.mp h i j i1 j1 h1)
  · exact h1
  · exact absurd (e2.trans e1.symm) (List.pairwise_iff_getElem.mp h j i j1 i1 h1)
abbrev g_V : Type := Nat → Nat → Int32
abbrev g_M : Type := Nat → Nat → Nat → Int32
abbrev g_P : Type := Nat → Nat
abbrev g_Ad : Type := Nat → Nat → Nat
abbrev g_T : Type := Nat → ClassId
abbrev g_rf (n : Nat) (f : Nat → Nat) (c : ClassId) : va_E := .inl (c, n, .inr (.inr (.inr (.inr (fun i => some (f i))))))
def g_S (tb : g_T) (ad : g_Ad) (V : g_V) (r c : Nat) : va_E :=
  if 12 ≤ c then .inr (1, [.int (V c 0), .int (V c 1), .int (V c 2), .int (V c 3), .int (V c 4), .int (V c 5), .int (V c 6)])
  else if 7 ≤ c then .inr (0, [.int (V c 0), .int (V c 1)])
  else if c = 0 then .inr (3, [.ref (ad r 1), .ref (ad r 2), .ref (ad r 3), .ref (ad r 4), .ref (ad r 5), .ref (ad r 6), .int (V 0 6), .int (V 0 7), .int (V 0 8), .int (V 0 9), .int (V 0 10)])
  else if c = 1 then g_rf 5 (fun i => ad r (7 + i)) (tb 2)
  else if c = 2 then g_rf 16 (fun i => ad r (12 + i)) (tb 3)
  else if c = 3 then .inl (tb 0, 3, .inl (V 3))
  else if c = 4 then .inl (tb 0, 4, .inl (V 4))
  else if c = 5 then .inl (tb 0, 8, .inl (V 5))
  else .inl (tb 0, 3, .inl (V 6))
def g_G (tb : g_T) (ad : g_Ad) (P : g_P) (V : g_V) (c : Nat) : va_E :=
  if c = 0 then .inr (4, [.ref (ad 6 1), .ref (ad 6 4), .int (V 0 2), .ref (ad (P 0) 0), .ref (ad (P 1) 0)])
  else if c = 1 then .inr (2, [.ref (ad 6 2), .ref (ad 6 3), .int (V 1 2), .int (V 1 3), .int (V 1 4), .int (V 1 5), .int (V 1 6), .int (V 1 7)])
  else if c = 2 then .inl (tb 1, 60, .inl (V 2))
  else if c = 3 then .inl (tb 0, 3, .inl (V 3))
  else g_rf 4 (fun i => ad (P (2 + i)) 0) (tb 4)
def g_E (tb : g_T) (ad : g_Ad) (P : g_P) (M : g_M) (r c : Nat) : va_E :=
  if r < 6 then g_S tb ad (M r) r c else g_G tb ad P (M 6) c
def g_W (tb : g_T) (ad : g_Ad) (P : g_P) (M : g_M) : va_W := g_L.map (fun q => (ad q.1 q.2, g_E tb ad P M q.1 q.2))
def g_tys (tb : g_T) : List (ClassId × FieldType) := [(tb 0, .int), (tb 1, .char), (tb 2, .object RX0), (tb 3, .object RX1), (tb 4, .object RX3)]
theorem g_at {tb : g_T} {ad : g_Ad} {P : g_P} {M : g_M} {r c : Nat} (h : g_ok r c = true) {e : va_E} (he : g_E tb ad P M r c = e) : ∃ q : Nat, g_L[q]? = some (r, c) ∧ (g_W tb ad P M)[q]? = some (ad r c, e) := by
  obtain ⟨q, hq⟩ := List.getElem?_of_mem (g_L_mem h)
  refine ⟨q, hq, ?_⟩
  rw [g_W, List.getElem?_map, hq, ← he]
  rfl
/-- one cell written: the picture's list with one entry set is the new picture's -/
theorem g_W_set {tb : g_T} {ad : g_Ad} {P P' : g_P} {M M' : g_M} {r c q : Nat} {e : va_E} (hq : g_L[q]? = some (r, c)) (he : g_E tb ad P' M' r c = e) (hs : ∀ r' c', g_ok r' c' = true → ¬ (r' = r ∧ c' = c) → g_E tb ad P' M' r' c' = g_E tb ad P M r' c') : (g_W tb ad P M).set q (ad r c, e) = g_W tb ad P' M' := by
  have hl := (List.getElem?_eq_some_iff.mp hq).1
  apply List.ext_getElem?
  intro k
  by_cases hk : k = q
  · subst hk
    rw [List.getElem?_set_self (by rw [g_W, List.length_map]; exact hl), g_W, List.getElem?_map, hq, ← he]
    rfl
  · rw [List.getElem?_set_ne (Ne.symm hk), g_W, g_W, List.getElem?_map, List.getElem?_map]
    cases hx : g_L[k]? with
    | none => rfl
    | some p =>
      obtain ⟨r', c'⟩ := p
      have hne : ¬ (r' = r ∧ c' = c) := fun z => by
        obtain ⟨rfl, rfl⟩ := z
        exact hk (g_nd g_L_nd hx hq)
      show some (ad r' c', _) = some (ad r' c', _)
      rw [hs r' c' (g_L_ok (List.mem_of_getElem? hx)) hne]
/-- the addresses are apart -/
def g_inj (ad : g_Ad) : Prop := ∀ r c r' c', g_ok r c = true → g_ok r' c' = true → ad r c = ad r' c' → r = r' ∧ c = c'
def g_A (ad : g_Ad) : Nat → Prop := fun q => ∃ r c, g_ok r c = true ∧ q = ad r c
theorem g_D {A : Nat → Prop} {tb : g_T} {ad : g_Ad} {P : g_P} {M : g_M} (hi : g_inj ad) (hA : ∀ r c, g_ok r c = true → A (ad r c)) : va_D A (g_W tb ad P M) := by
  have key : ∀ (k : Nat) (p : Nat × va_E), (g_W tb ad P M)[k]? = some p → ∃ r c, g_L[k]? = some (r, c) ∧ g_ok r c = true ∧ p.1 = ad r c := by
    intro k p hk
    rw [g_W, List.getElem?_map] at hk
    cases hx : g_L[k]? with
    | none => rw [hx] at hk; cases hk
    | some q =>
      rw [hx] at hk
      cases hk
      exact ⟨q.1, q.2, rfl, g_L_ok (List.mem_of_getElem? hx), rfl⟩
  refine ⟨fun i j x y hx hy hxy => ?_, fun k q hk => ?_⟩
  · obtain ⟨r, c, h1, h2, h3⟩ := key i x hx
    obtain ⟨r', c', h4, h5, h6⟩ := key j y hy
    obtain ⟨rfl, rfl⟩ := hi r c r' c' h2 h5 (h3.symm.trans (hxy.trans h6))
    exact g_nd g_L_nd h1 h4
  · obtain ⟨r, c, -, h2, h3⟩ := key k q hk
    rw [h3]
    exact hA r c h2
/-- words of the nest, and the two static tables -/
def g_nest : List Cond := [.methodLinkNest RX3 70 yX4_isGrade RX4, .methodLinkNest RX3 122 yX4_isOwner RX4, .methodLinkNest RX3 129 yX4_isLender RX4, .methodLinkNest RX3 165 yX4_isBin RX4, .methodLinkNest RX3 176 yX4_isSetting RX4, .methodLinkNest RX3 221 yX4_bitsOf RX4, .methodLinkNest RX2 50 yX4_isError RX4,
  .fieldLinkNest RX4 104 RX2 "length" "I" RX4, .fieldLinkNest RX4 131 RX2 "ordersDone" "I" RX4, .fieldLinkNest RX4 122 RX2 "faultPosition" "I" RX4, .fieldLinkNest RX4 118 RX2 "faultReason" "I" RX4, .fieldLinkNest RX4 125 RX2 "faultCause" "I" RX4, .fieldLinkNest RX3 179 RX4 "LEAST_SETTINGS" "[I" RX4, .fieldLinkNest RX3 182 RX4 "GREATEST_SETTINGS" "[I" RX4]
def g_N (U : State) : Prop := ∀ w ∈ g_nest, va_Nw w U
theorem g_N.warm {s U : State} (hW : s.WarmedH U.vm) (h : g_N s) : g_N U := by
  intro w hw
  have h1 := h w hw
  simp only [g_nest, List.mem_cons, List.not_mem_nil, or_false] at hw
  rcases hw with rfl | rfl | rfl | rfl | rfl | rfl | rfl | rfl | rfl | rfl | rfl | rfl | rfl | rfl <;> first | exact h1.warmF hW | exact h1.warmM hW
def g_least (j : Nat) : Int32 := if j = 2 then 1 else if j = 3 then 0 else 10
def g_great (j : Nat) : Int32 := if j = 0 then 100 else if j = 1 then 150 else if j = 2 then 30 else 20
def g_sta (A : Nat → Prop) (U : State) (H : Heap) : Prop :=
  (∃ t, va_Z "GrainReceipts" "LEAST_SETTINGS" "[I" (.ref t) A U H ∧ va_T .int t 4 (fun j => .int (g_least j)) A U H) ∧ ∃ t, va_Z "GrainReceipts" "GREATEST_SETTINGS" "[I" (.ref t) A U H ∧ va_T .int t 4 (fun j => .int (g_great j)) A U H
theorem g_sta.moved {A : Nat → Prop} {u U : State} {H : Heap} (hvm : u.vm.Alike U.vm) (h : g_sta A u H) : g_sta A U H := by
  obtain ⟨⟨t, h1, h2⟩, t', h3, h4⟩ := h
  exact ⟨⟨t, h1.moved hvm, h2.moved hvm⟩, t', h3.moved hvm, h4.moved hvm⟩
theorem g_sta.kept {A : Nat → Prop} {U : State} {H H1 : Heap} (h : g_sta A U H) (hq : ∀ a : Nat, a < H.size → ¬ A a → H1[a]? = H[a]?) : g_sta A U H1 := by
  obtain ⟨⟨t, h1, h2⟩, t', h3, h4⟩ := h
  exact ⟨⟨t, h1.kept hq, h2.kept hq⟩, t', h3.kept hq, h4.kept hq⟩
theorem g_sta.narrow {A B : Nat → Prop} {U : State} {H : Heap} (h : g_sta A U H) (hAB : ∀ q, B q → A q) : g_sta B U H := by
  obtain ⟨⟨t, h1, h2⟩, t', h3, h4⟩ := h
  exact ⟨⟨t, h1.narrow hAB, h2.narrow hAB⟩, t', h3.narrow hAB, h4.narrow hAB⟩
/-- what stands at a method's start, and at its end -/
def g_pre (D : va_G) (tb : g_T) (ad : g_Ad) (P : g_P) (M : g_M) (U : State) : Prop :=
  va_P D vwCl (g_W tb ad P M) U.heap ∧ va_K D vwCl (g_tys tb) U ∧ g_N U ∧ g_sta (g_A ad) U U.heap
/-- what stands all through a method -/
def g_C (D : va_G) (tb : g_T) (ad : g_Ad) (A : Nat → Prop) (s : State) : Prop :=
  va_K D vwCl (g_tys tb) s ∧ g_N s ∧ g_sta A s s.heap ∧ g_inj ad ∧ ∀ r c, g_ok r c = true → A (ad r c)
/-- what stands at a point -/
def g_I (D : va_G) (tb : g_T) (ad : g_Ad) (A : Nat → Prop) (s : State) (H : Heap) (locs : List Loc) (P : g_P) (M : g_M) : Prop :=
  va_P D vwCl (g_W tb ad P M) H ∧ va_S A s.heap H locs
theorem g_C.A {D : va_G} {tb : g_T} {ad : g_Ad} {A : Nat → Prop} {s : State} (h : g_C D tb ad A s) : ∀ q, g_A ad q → A q := by
  rintro q ⟨r, c, hk, rfl⟩
  exact h.2.2.2.2 r c hk
section GL
variable {p : Program} {l : Launch} {e : Env} {R : Room} {s : State} {m : MethodId} {args : Array Value} {below : List Frame} {meth : Method} {c : Code} {H : Heap} {locs : List Loc} {cells slots : Nat} {Q : State → Prop}
variable {cc : ByteArray} {pc : Nat} {ls : Array Slot} {rest : List Value} {D : va_G} {tb : g_T} {ad : g_Ad} {A : Nat → Prop} {P P' : g_P} {M M' : g_M} {r0 c0 : Nat} {own : String} {index : Nat}
/-- a field is read -/
theorem g_get (k : Nat) {ci : Nat} {C ref : String} {T : u_T} {N : Nat} {fs : List Value} {v : Value} (hexec : p.tables.exec = Jvm.exec) (hb : c.code = cc) (hts : ∀ w ∈ g_tbl, w.before args s = true) (hown : s.vm.findClass own = some m.cls) (hC : g_C D tb ad A s) (hI : g_I D tb ad A s H locs P M) (hin : ∀ w ∈ u_ws C T N, w ∈ g_tbl)
    (hok : g_ok r0 c0 = true) (he : g_E tb ad P M r0 c0 = .inr (ci, fs)) (hc : vwCl[ci]? = some (C, T, N)) (hk : k < N) (hlink : (Cond.fieldLink own index ref (T k).2.1 (T k).2.2.1) ∈ g_tbl) (hr : (T k).1 = ref) (hv : fs[k]? = some v) (hdg : decode cc pc = .ok (.getfield index, 3))
    (kk : W p l e R s m args below meth c H locs cells slots Q (F0 m (pc + 3) ls (v :: rest))) : W p l e R s m args below meth c H locs cells slots Q (F0 m pc ls (.ref (ad r0 c0) :: rest)) := by
  obtain ⟨q, -, hq⟩ := g_at hok he
  subst hr
  exact va_get hexec hb hts hin hown hC.1 hI.1 q hq hc k hk (hts _ hlink) (fun _ h => h) hv hdg kk
/-- a field of a nest mate is read -/
theorem g_getN (k : Nat) {ci : Nat} {C ref host : String} {T : u_T} {N : Nat} {fs : List Value} {v : Value} (hexec : p.tables.exec = Jvm.exec) (hb : c.code = cc) (hts : ∀ w ∈ g_tbl, w.before args s = true) (hown : s.vm.findClass own = some m.cls) (hC : g_C D tb ad A s) (hI : g_I D tb ad A s H locs P M) (hin : ∀ w ∈ u_ws C T N, w ∈ g_tbl)
    (hok : g_ok r0 c0 = true) (he : g_E tb ad P M r0 c0 = .inr (ci, fs)) (hc : vwCl[ci]? = some (C, T, N)) (hk : k < N) (hlink : (Cond.fieldLinkNest own index ref (T k).2.1 (T k).2.2.1 host) ∈ g_nest) (hr : (T k).1 = ref) (hv : fs[k]? = some v) (hdg : decode cc pc = .ok (.getfield index, 3))
    (kk : W p l e R s m args below meth c H locs cells slots Q (F0 m (pc + 3) ls (v :: rest))) : W p l e R s m args below meth c H locs cells slots Q (F0 m pc ls (.ref (ad r0 c0) :: rest)) := by
  obtain ⟨q, -, hq⟩ := g_at hok he
  subst hr
  exact va_getN hexec hb hts hin hown hC.1 hI.1 q hq hc k hk (va_Nw.use rfl (hC.2.1 _ hlink)) (fun _ h => h) hv hdg kk
/-- a field is written -/
theorem g_put (k : Nat) {ci : Nat} {C ref : String} {T : u_T} {N : Nat} {fs : List Value} {v : Value} {ty : FieldType} {ty0 : Nat → FieldType} (hexec : p.tables.exec = Jvm.exec) (hb : c.code = cc) (hts : ∀ w ∈ g_tbl, w.before args s = true) (hown : s.vm.findClass own = some m.cls) (hC : g_C D tb ad A s) (hI : g_I D tb ad A s H locs P M) (hin : ∀ w ∈ u_ws C T N, w ∈ g_tbl)
    (hty : ∀ k, k < N → parseFieldDescriptor (T k).2.2.1 = some (ty0 k)) (hnm : ∀ a, a < N → ∀ b, b < N → a ≠ b → (T a).2.1 ≠ (T b).2.1) (hok : g_ok r0 c0 = true) (he : g_E tb ad P M r0 c0 = .inr (ci, fs)) (hc : vwCl[ci]? = some (C, T, N)) (hk : k < N) (hlink : (Cond.fieldLink own index ref (T k).2.1 (T k).2.2.1) ∈ g_tbl) (hr : (T k).1 = ref)
    (hfin : (T k).2.2.2 = false) (htyk : ty0 k = ty) (hn : narrow ty v = v) (hfit : fits ty v = true) (hl : k < fs.length) (he' : g_E tb ad P' M' r0 c0 = .inr (ci, fs.set k v)) (hs : ∀ r' c', g_ok r' c' = true → ¬ (r' = r0 ∧ c' = c0) → g_E tb ad P' M' r' c' = g_E tb ad P M r' c') (hdg : decode cc pc = .ok (.putfield index, 3))
    (kk : ∀ (H1 : Heap) (locs1 : List Loc), g_I D tb ad A s H1 locs1 P' M' → W p l e R s m args below meth c H1 locs1 cells slots Q (F0 m (pc + 3) ls rest)) : W p l e R s m args below meth c H locs cells slots Q (F0 m pc ls (v :: .ref (ad r0 c0) :: rest)) := by
  obtain ⟨q, hq0, hq⟩ := g_at hok he
  subst hr
  refine va_put hexec hb hts hin ty0 hty hnm hown hC.1 hI.1 (g_D hC.2.2.2.1 hC.2.2.2.2) hI.2 q hq hc k hk (hts _ hlink) (fun _ h => h) hfin ((hty k hk).trans (congrArg some htyk)) hn hfit hl hdg (fun H1 locs1 h1 h2 h3 => kk H1 locs1 ⟨?_, h3⟩)
  rw [g_W_set hq0 he' hs] at h1
  exact h1
/-- a field of a nest mate is written -/
theorem g_putN (k : Nat) {ci : Nat} {C ref host : String} {T : u_T} {N : Nat} {fs : List Value} {v : Value} {ty : FieldType} {ty0 : Nat → FieldType} (hexec : p.tables.exec = Jvm.exec) (hb : c.code = cc) (hts : ∀ w ∈ g_tbl, w.before args s = true) (hown : s.vm.findClass own = some m.cls) (hC : g_C D tb ad A s) (hI : g_I D tb ad A s H locs P M) (hin : ∀ w ∈ u_ws C T N, w ∈ g_tbl)
    (hty : ∀ k, k < N → parseFieldDescriptor (T k).2.2.1 = some (ty0 k)) (hnm : ∀ a, a < N → ∀ b, b < N → a ≠ b → (T a).2.1 ≠ (T b).2.1) (hok : g_ok r0 c0 = true) (he : g_E tb ad P M r0 c0 = .inr (ci, fs)) (hc : vwCl[ci]? = some (C, T, N)) (hk : k < N) (hlink : (Cond.fieldLinkNest own index ref (T k).2.1 (T k).2.2.1 host) ∈ g_nest) (hr : (T k).1 = ref)
    (hfin : (T k).2.2.2 = false) (htyk : ty0 k = ty) (hn : narrow ty v = v) (hfit : fits ty v = true) (hl : k < fs.length) (he' : g_E tb ad P' M' r0 c0 = .inr (ci, fs.set k v)) (hs : ∀ r' c', g_ok r' c' = true → ¬ (r' = r0 ∧ c' = c0) → g_E tb ad P' M' r' c' = g_E tb ad P M r' c') (hdg : decode cc pc = .ok (.putfield index, 3))
    (kk : ∀ (H1 : Heap) (locs1 : List Loc), g_I D tb ad A s H1 locs1 P' M' → W p l e R s m args below meth c H1 locs1 cells slots Q (F0 m (pc + 3) ls rest)) : W p l e R s m args below meth c H locs cells slots Q (F0 m pc ls (v :: .ref (ad r0 c0) :: rest)) := by
  obtain ⟨q, hq0, hq⟩ := g_at hok he
  subst hr
  refine va_putN hexec hb hts hin ty0 hty hnm hown hC.1 hI.1 (g_D hC.2.2.2.1 hC.2.2.2.2) hI.2 q hq hc k hk (va_Nw.use rfl (hC.2.1 _ hlink)) (fun _ h => h) hfin ((hty k hk).trans (congrArg some htyk)) hn hfit hl hdg (fun H1 locs1 h1 h2 h3 => kk H1 locs1 ⟨?_, h3⟩)
  rw [g_W_set hq0 he' hs] at h1
  exact h1
/-- an int of an int array -/
theorem g_iald {n : Nat} {f : Nat → Int32} {i : Int32} (j : Nat) (hexec : p.tables.exec = Jvm.exec) (hb : c.code = cc) (hC : g_C D tb ad A s) (hI : g_I D tb ad A s H locs P M) (hok : g_ok r0 c0 = true) (he : g_E tb ad P M r0 c0 = .inl (tb 0, n, .inl f)) (hin : vp_in i n) (hj : i.toNatClampNeg = j) (hdg : decode cc pc = .ok (.iaload, 1))
    (kk : W p l e R s m args below meth c H locs cells slots Q (F0 m (pc + 1) ls (.int (f j) :: rest))) : W p l e R s m args below meth c H locs cells slots Q (F0 m pc ls (.int i :: .ref (ad r0 c0) :: rest)) := by
  obtain ⟨q, -, hq⟩ := g_at hok he
  subst hj
  exact va_iald hexec hb hC.1 hI.1 q 0 hq rfl hin hdg kk
theorem g_iast {n : Nat} {f : Nat → Int32} {i x : Int32} (j : Nat) (hexec : p.tables.exec = Jvm.exec) (hb : c.code = cc) (hC : g_C D tb ad A s) (hI : g_I D tb ad A s H locs P M) (hok : g_ok r0 c0 = true) (he : g_E tb ad P M r0 c0 = .inl (tb 0, n, .inl f)) (hin : vp_in i n) (hj : i.toNatClampNeg = j)
    (he' : g_E tb ad P' M' r0 c0 = .inl (tb 0, n, .inl (upd f j x))) (hs : ∀ r' c', g_ok r' c' = true → ¬ (r' = r0 ∧ c' = c0) → g_E tb ad P' M' r' c' = g_E tb ad P M r' c') (hdg : decode cc pc = .ok (.iastore, 1))
    (kk : ∀ (H1 : Heap) (locs1 : List Loc), g_I D tb ad A s H1 locs1 P' M' → W p l e R s m args below meth c H1 locs1 cells slots Q (F0 m (pc + 1) ls rest)) : W p l e R s m args below meth c H locs cells slots Q (F0 m pc ls (.int x :: .int i :: .ref (ad r0 c0) :: rest)) := by
  obtain ⟨q, hq0, hq⟩ := g_at hok he
  subst hj
  refine va_iast hexec hb hC.1 hI.1 (g_D hC.2.2.2.1 hC.2.2.2.2) hI.2 q 0 hq rfl hin hdg (fun H1 locs1 h1 h2 h3 => kk H1 locs1 ⟨?_, h3⟩)
  rw [g_W_set hq0 he' hs] at h1
  exact h1
theorem g_cald {n : Nat} {f : Nat → Int32} {i : Int32} (j : Nat) (hexec : p.tables.exec = Jvm.exec) (hb : c.code = cc) (hC : g_C D tb ad A s) (hI : g_I D tb ad A s H locs P M) (hok : g_ok r0 c0 = true) (he : g_E tb ad P M r0 c0 = .inl (tb 1, n, .inl f)) (hin : vp_in i n) (hj : i.toNatClampNeg = j) (hdg : decode cc pc = .ok (.caload, 1))
    (kk : W p l e R s m args below meth c H locs cells slots Q (F0 m (pc + 1) ls (.int (f j) :: rest))) : W p l e R s m args below meth c H locs cells slots Q (F0 m pc ls (.int i :: .ref (ad r0 c0) :: rest)) := by
  obtain ⟨q, -, hq⟩ := g_at hok he
  subst hj
  exact va_cald hexec hb hC.1 hI.1 q 1 hq rfl hin hdg kk
theorem g_cast {n : Nat} {f : Nat → Int32} {i x : Int32} (j : Nat) (hexec : p.tables.exec = Jvm.exec) (hb : c.code = cc) (hC : g_C D tb ad A s) (hI : g_I D tb ad A s H locs P M) (hok : g_ok r0 c0 = true) (he : g_E tb ad P M r0 c0 = .inl (tb 1, n, .inl f)) (hin : vp_in i n) (hj : i.toNatClampNeg = j)
    (he' : g_E tb ad P' M' r0 c0 = .inl (tb 1, n, .inl (upd f j (vp_nar .char x)))) (hs : ∀ r' c', g_ok r' c' = true → ¬ (r' = r0 ∧ c' = c0) → g_E tb ad P' M' r' c' = g_E tb ad P M r' c') (hdg : decode cc pc = .ok (.castore, 1))
    (kk : ∀ (H1 : Heap) (locs1 : List Loc), g_I D tb ad A s H1 locs1 P' M' → W p l e R s m args below meth c H1 locs1 cells slots Q (F0 m (pc + 1) ls rest)) : W p l e R s m args below meth c H locs cells slots Q (F0 m pc ls (.int x :: .int i :: .ref (ad r0 c0) :: rest)) := by
  obtain ⟨q, hq0, hq⟩ := g_at hok he
  subst hj
  refine va_cast hexec hb hC.1 hI.1 (g_D hC.2.2.2.1 hC.2.2.2.2) hI.2 q 1 hq rfl hin hdg (fun H1 locs1 h1 h2 h3 => kk H1 locs1 ⟨?_, h3⟩)
  rw [g_W_set hq0 he' hs] at h1
  exact h1
/-- a reference of an array of them; t0: which kind of array -/
theorem g_aald (t0 : Nat) {n : Nat} {f : Nat → Nat} {C : String} {i : Int32} (j : Nat) (hexec : p.tables.exec = Jvm.exec) (hb : c.code = cc) (hC : g_C D tb ad A s) (hI : g_I D tb ad A s H locs P M) (hok : g_ok r0 c0 = true) (he : g_E tb ad P M r0 c0 = g_rf n f (tb t0)) (ht : (g_tys tb)[t0]? = some (tb t0, .object C)) (hin : vp_in i n) (hj : i.toNatClampNeg = j) (hdg : decode cc pc = .ok (.aaload, 1))
    (kk : W p l e R s m args below meth c H locs cells slots Q (F0 m (pc + 1) ls (.ref (f j) :: rest))) : W p l e R s m args below meth c H locs cells slots Q (F0 m pc ls (.int i :: .ref (ad r0 c0) :: rest)) := by
  obtain ⟨q, -, hq⟩ := g_at hok he
  subst hj
  exact va_aldq hexec hb hC.1 hI.1 q t0 hq ht hin hdg kk
theorem g_aast (t0 ci : Nat) {n : Nat} {f f' : Nat → Nat} {r : vw_C} {vs : List Value} {rv cv : Nat} {i : Int32} (j : Nat) (hexec : p.tables.exec = Jvm.exec) (hb : c.code = cc) (hC : g_C D tb ad A s) (hI : g_I D tb ad A s H locs P M) (hok : g_ok r0 c0 = true) (he : g_E tb ad P M r0 c0 = g_rf n f (tb t0)) (ht : (g_tys tb)[t0]? = some (tb t0, .object r.1)) (hokv : g_ok rv cv = true) (hev : g_E tb ad P M rv cv = .inr (ci, vs)) (hcv : vwCl[ci]? = some r) (hin : vp_in i n) (hj : i.toNatClampNeg = j)
    (hf : ∀ k, f' k = if k = j then ad rv cv else f k) (he' : g_E tb ad P' M' r0 c0 = g_rf n f' (tb t0)) (hs : ∀ r' c', g_ok r' c' = true → ¬ (r' = r0 ∧ c' = c0) → g_E tb ad P' M' r' c' = g_E tb ad P M r' c') (hdg : decode cc pc = .ok (.aastore, 1))
    (kk : ∀ (H1 : Heap) (locs1 : List Loc), g_I D tb ad A s H1 locs1 P' M' → W p l e R s m args below meth c H1 locs1 cells slots Q (F0 m (pc + 1) ls rest)) : W p l e R s m args below meth c H locs cells slots Q (F0 m pc ls (.ref (ad rv cv) :: .int i :: .ref (ad r0 c0) :: rest)) := by
  obtain ⟨q, hq0, hq⟩ := g_at hok he
  obtain ⟨qv, -, hqv⟩ := g_at hokv hev
  subst hj
  refine va_astq hexec hb hC.1 hI.1 (g_D hC.2.2.2.1 hC.2.2.2.2) hI.2 q t0 qv ci hq ht hqv hcv hin hdg (fun H1 locs1 h1 h2 h3 => kk H1 locs1 ⟨?_, h3⟩)
  have e1 : va_up (fun i => some (f i)) i.toNatClampNeg (some (ad rv cv)) = fun k => some (f' k) := by
    funext k
    rw [hf k]
    unfold va_up
    split <;> rfl
  rw [e1, g_W_set hq0 he' hs] at h1
  exact h1
theorem g_alen (t0 : Nat) {x : vp_A} {ty : FieldType} {v : Int32} (hexec : p.tables.exec = Jvm.exec) (hb : c.code = cc) (hC : g_C D tb ad A s) (hI : g_I D tb ad A s H locs P M) (hok : g_ok r0 c0 = true) (he : g_E tb ad P M r0 c0 = .inl (tb t0, x)) (ht : (g_tys tb)[t0]? = some (tb t0, ty)) (hv : Int32.ofNat x.1 = v) (hdg : decode cc pc = .ok (.arraylength, 1))
    (kk : W p l e R s m args below meth c H locs cells slots Q (F0 m (pc + 1) ls (.int v :: rest))) : W p l e R s m args below meth c H locs cells slots Q (F0 m pc ls (.ref (ad r0 c0) :: rest)) := by
  obtain ⟨q, -, hq⟩ := g_at hok he
  exact va_alen hexec hb hC.1 hI.1 q t0 hq ht hv hdg kk
end GL
