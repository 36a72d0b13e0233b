/-! ===== digest: a number of what the questions answer ===== -/
def q_dA (V : g_V) (k : Nat) (h : Int64) : Int64 := 31 * h + (if nI k = 8 then 0 else if nI k = 9 then 0 else q_tellNumber V (nI k)).toInt64
def q_dB (V : g_V) (k : Nat) (h : Int64) : Int64 := 31 * h + (q_tellReceipt V (q_numberAt V (nI k / 10)) (nI k - nI k / 10 * 10)).toInt64
def q_dC (V : g_V) (k : Nat) (h : Int64) : Int64 := 31 * (31 * h + (q_tellBin V (nI k / 3) (nI k - nI k / 3 * 3)).toInt64) + (q_tellGrade V (nI k / 5) (nI k - nI k / 5 * 5)).toInt64
def q_dD (V : g_V) (k : Nat) (h : Int64) : Int64 := 31 * (31 * h + (q_tellLender V (nI k / 6) (nI k - nI k / 6 * 6)).toInt64) + (q_fallTo V (nI k - nI k / 3 * 3)).toInt64
def q_dE (V : g_V) (k : Nat) (h : Int64) : Int64 := 31 * h + (q_tellOwner V (nI k / 5) (nI k - nI k / 5 * 5)).toInt64
def q_d1 (V : g_V) : Int64 := k_iter (q_dA V) 83 24
def q_d2 (V : g_V) : Int64 := k_iter (q_dB V) (q_d1 V) ((q_tellNumber V 0).toNatClampNeg * 10)
def q_d3 (V : g_V) : Int64 := k_iter (q_dC V) (q_d2 V) 15
def q_d4 (V : g_V) : Int64 := k_iter (q_dD V) (q_d3 V) 18
def q_dig (V : g_V) : Int64 := k_iter (q_dE V) (q_d4 V) 40
theorem z_same.dig {V V' : g_V} (h : z_same V V') : q_dig V = q_dig V' := by
  have e1 : q_d1 V = q_d1 V' := k_iter_congr (fun j _ a => by
    unfold q_dA
    by_cases c8 : nI j = 8
    · rw [if_pos c8, if_pos c8]
    · rw [if_neg c8, if_neg c8]
      by_cases c9 : nI j = 9
      · rw [if_pos c9, if_pos c9]
      · rw [if_neg c9, if_neg c9, (h.tell (x := nI j) (w := 0)).2.2.2.2.2.2.2 c8 c9])
  have e2 : q_d2 V = q_d2 V' := by
    unfold q_d2
    rw [e1, (h.tell (x := 0) (w := 0)).2.2.2.2.2.2.2 (by decide) (by decide)]
    exact k_iter_congr (fun j _ a => by
      unfold q_dB
      rw [(h.tell (x := nI j / 10) (w := 0)).2.1, h.tell.1])
  have e3 : q_d3 V = q_d3 V' := by
    unfold q_d3
    rw [e2]
    exact k_iter_congr (fun j _ a => by
      unfold q_dC
      rw [(h.tell (x := nI j / 3) (w := nI j - nI j / 3 * 3)).2.2.1, (h.tell (x := nI j / 5) (w := nI j - nI j / 5 * 5)).2.2.2.1])
  have e4 : q_d4 V = q_d4 V' := by
    unfold q_d4
    rw [e3]
    exact k_iter_congr (fun j _ a => by
      unfold q_dD
      rw [(h.tell (x := nI j / 6) (w := nI j - nI j / 6 * 6)).2.2.2.2.2.1, (h.tell (x := nI j - nI j / 3 * 3) (w := 0)).2.2.2.2.2.2.1])
  unfold q_dig
  rw [e4]
  exact k_iter_congr (fun j _ a => by
    unfold q_dE
    rw [(h.tell (x := nI j / 5) (w := nI j - nI j / 5 * 5)).2.2.2.2.1])
abbrev rm_L_digest : Room := { frames := 6, cells := 0, slots := 0, locals := 135 }
set_option maxHeartbeats 4000000 in
set_option maxRecDepth 100000 in
theorem c_L_digest (l : Launch) (D : va_G) (tb : g_T) (ad : g_Ad) (hj : g_inj ad) (P : g_P) (M : g_M) {mb lo hi : Int} (hz : z_Rel P M mb lo hi) : g_Cl l yL_digest cL_digest 4 (some .long) rm_L_digest D tb ad [.ref (ad 6 0)] P M (q_dig (M (P 0))) := by
  refine g_go (by decide) (Nat.le_of_ble_eq_true rfl) hj ?_
  intro p e s m below meth c ls H locs R args Q hR0 hQ hx hb hml hr0 hlk hown hts hC hI hl
  subst hR0
  have hown : s.vm.findClass RL = some m.cls := hown
  have hl : lv_has ls 4 [(0, .ref (ad 6 0))] := hl
  have X : L_x p s m args c cL_digest 4 D tb ad (g_A ad) := ⟨hx, hb, hml, hown, hts, hC, hj⟩
  obtain ⟨n, hr⟩ := hz.row
  have h16 : n ≤ 16 := hr.choose_spec.1.n16
  have en : (q_tellNumber (M (P 0)) 0).toNatClampNeg = n := by rw [u_c0 hr, nI_clamp (by omega)]
  have lp188 : ∀ (d k : Nat) (h : Int64), k ≤ 40 → 40 < k + d → h = k_iter (q_dE (M (P 0))) (q_d4 (M (P 0))) k → ∀ (H : Heap) (locs : List Loc) (ls : Array Slot), g_I D tb ad (g_A ad) s H locs P M → lv_has ls 4 [(3, .int (nI k)), (1, .long h), (0, .ref (ad 6 0))] → W p l e rm_L_digest s m args below meth c H locs 0 0 Q (F0 m 188 ls []) := by
    intro d
    induction d with
    | zero => intros; omega
    | succ d ih =>
      intro k h hkN hd he H locs ls hI hl
      refine lv_iload_n hx hb dL_digest_188 rfl (lv_at hl 0 rfl) ?_
      refine lv_bipush (v := 40) hx hb dL_digest_189 (by decide) ?_
      refine lv_icmp_ge (tgt := 218) hx hb dL_digest_191 (by decide) (fun c1 => ?_) (fun c1 => ?_)
      · have c1n : 40 ≤ k := (nI_leI (a := 40) (b := k) (by omega) (by omega)).mp c1
        have hkn : k = 40 := by omega
        subst hkn
        refine lv_lload_n hx hb dL_digest_218 rfl (lv_at hl 1 rfl) ?_
        exact g_lr hQ hx hb hr0 hlk hC hI dL_digest_219 he
      · have c1n : ¬ 40 ≤ k := fun z => c1 ((nI_leI (a := 40) (b := k) (by omega) (by omega)).mpr z)
        refine lv_ldc2 (v := 31) hx hb hown (hts _ qcl_L_11) dL_digest_194 ?_
        refine lv_lload_n hx hb dL_digest_197 rfl (lv_at hl 1 rfl) ?_
        refine lv_lmul hx hb dL_digest_198 ?_
        refine lv_aload_n hx hb dL_digest_199 rfl (lv_at hl 2 rfl) ?_
        refine lv_iload_n hx hb dL_digest_200 rfl (lv_at hl 0 rfl) ?_
        refine lv_iconst (v := 5) hx hb dL_digest_201 (by decide) ?_
        refine lv_idiv hx hb dL_digest_202 (by decide) ?_
        refine lv_iload_n hx hb dL_digest_203 rfl (lv_at hl 0 rfl) ?_
        refine lv_iconst (v := 5) hx hb dL_digest_204 (by decide) ?_
        refine lv_irem hx hb dL_digest_205 (by decide) ?_
        refine r_ownerOf (rest := [.long (31 * h)]) X hI hz hl.1 rfl ⟨rfl, rfl, by decide, by decide⟩ (Nat.le_of_ble_eq_true rfl) ⟨Nat.zero_le _, Nat.zero_le _⟩ dL_digest_206 (fun H locs hI => ?_)
        refine lv_i2l hx hb dL_digest_209 rfl ?_
        refine lv_ladd hx hb dL_digest_210 ?_
        refine lv_lstore_n (lv' := [(1, .long ((31 * h) + ((q_tellOwner (M (P 0)) ((nI k) / 5) ((nI k) - (nI k) / 5 * 5)).toInt64))), (3, .int (nI k)), (0, .ref (ad 6 0))]) hx hb dL_digest_211 rfl hl (by decide) rfl (fun ls hl => ?_)
        refine lv_iinc (v := nI (k + 1)) (lv' := [(3, .int (nI (k + 1))), (1, .long ((31 * h) + ((q_tellOwner (M (P 0)) ((nI k) / 5) ((nI k) - (nI k) / 5 * 5)).toInt64))), (0, .ref (ad 6 0))]) hx hb dL_digest_212 hl (k := 1) rfl (nI_1 _) (by decide) rfl (fun ls hl => ?_)
        refine lv_goto (tgt := 188) hx hb dL_digest_215 (by decide) ?_
        exact ih (k + 1) _ (by omega) (by omega) (by rw [k_iter, ← he]; unfold q_dE; rfl) _ _ _ hI (lv_sub hl [0, 1, 2] rfl)
  have lp141 : ∀ (d k : Nat) (h : Int64), k ≤ 18 → 18 < k + d → h = k_iter (q_dD (M (P 0))) (q_d3 (M (P 0))) k → ∀ (H : Heap) (locs : List Loc) (ls : Array Slot), g_I D tb ad (g_A ad) s H locs P M → lv_has ls 4 [(3, .int (nI k)), (1, .long h), (0, .ref (ad 6 0))] → W p l e rm_L_digest s m args below meth c H locs 0 0 Q (F0 m 141 ls []) := by
    intro d
    induction d with
    | zero => intros; omega
    | succ d ih =>
      intro k h hkN hd he H locs ls hI hl
      refine lv_iload_n hx hb dL_digest_141 rfl (lv_at hl 0 rfl) ?_
      refine lv_bipush (v := 18) hx hb dL_digest_142 (by decide) ?_
      refine lv_icmp_ge (tgt := 186) hx hb dL_digest_144 (by decide) (fun c1 => ?_) (fun c1 => ?_)
      · have c1n : 18 ≤ k := (nI_leI (a := 18) (b := k) (by omega) (by omega)).mp c1
        have hkn : k = 18 := by omega
        subst hkn
        refine lv_iconst (v := 0) hx hb dL_digest_186 (by decide) ?_
        refine lv_istore_n (lv' := [(3, .int (nI 0)), (1, .long h), (0, .ref (ad 6 0))]) hx hb dL_digest_187 rfl hl (by decide) rfl (fun ls hl => ?_)
        exact lp188 (40 + 1) 0 _ (Nat.zero_le _) (by omega) he _ _ _ hI hl
      · have c1n : ¬ 18 ≤ k := fun z => c1 ((nI_leI (a := 18) (b := k) (by omega) (by omega)).mpr z)
        refine lv_ldc2 (v := 31) hx hb hown (hts _ qcl_L_11) dL_digest_147 ?_
        refine lv_ldc2 (v := 31) hx hb hown (hts _ qcl_L_11) dL_digest_150 ?_
        refine lv_lload_n hx hb dL_digest_153 rfl (lv_at hl 1 rfl) ?_
        refine lv_lmul hx hb dL_digest_154 ?_
        refine lv_aload_n hx hb dL_digest_155 rfl (lv_at hl 2 rfl) ?_
        refine lv_iload_n hx hb dL_digest_156 rfl (lv_at hl 0 rfl) ?_
        refine lv_bipush (v := 6) hx hb dL_digest_157 (by decide) ?_
        refine lv_idiv hx hb dL_digest_159 (by decide) ?_
        refine lv_iload_n hx hb dL_digest_160 rfl (lv_at hl 0 rfl) ?_
        refine lv_bipush (v := 6) hx hb dL_digest_161 (by decide) ?_
        refine lv_irem hx hb dL_digest_163 (by decide) ?_
        refine r_lenderOf (rest := [.long (31 * h), .long 31]) X hI hz hl.1 rfl ⟨rfl, rfl, by decide, by decide⟩ (Nat.le_of_ble_eq_true rfl) ⟨Nat.zero_le _, Nat.zero_le _⟩ dL_digest_164 (fun H locs hI => ?_)
        refine lv_i2l hx hb dL_digest_167 rfl ?_
        refine lv_ladd hx hb dL_digest_168 ?_
        refine lv_lmul hx hb dL_digest_169 ?_
        refine lv_aload_n hx hb dL_digest_170 rfl (lv_at hl 2 rfl) ?_
        refine lv_iload_n hx hb dL_digest_171 rfl (lv_at hl 0 rfl) ?_
        refine lv_iconst (v := 3) hx hb dL_digest_172 (by decide) ?_
        refine lv_irem hx hb dL_digest_173 (by decide) ?_
        refine r_fallTo (rest := [.long (31 * ((31 * h) + ((q_tellLender (M (P 0)) ((nI k) / 6) ((nI k) - (nI k) / 6 * 6)).toInt64)))]) X hI hz hl.1 rfl ⟨rfl, rfl, by decide, by decide⟩ (Nat.le_of_ble_eq_true rfl) ⟨Nat.zero_le _, Nat.zero_le _⟩ dL_digest_174 (fun H locs hI => ?_)
        refine lv_i2l hx hb dL_digest_177 rfl ?_
        refine lv_ladd hx hb dL_digest_178 ?_
        refine lv_lstore_n (lv' := [(1, .long ((31 * ((31 * h) + ((q_tellLender (M (P 0)) ((nI k) / 6) ((nI k) - (nI k) / 6 * 6)).toInt64))) + ((q_fallTo (M (P 0)) ((nI k) - (nI k) / 3 * 3)).toInt64))), (3, .int (nI k)), (0, .ref (ad 6 0))]) hx hb dL_digest_179 rfl hl (by decide) rfl (fun ls hl => ?_)
        refine lv_iinc (v := nI (k + 1)) (lv' := [(3, .int (nI (k + 1))), (1, .long ((31 * ((31 * h) + ((q_tellLender (M (P 0)) ((nI k) / 6) ((nI k) - (nI k) / 6 * 6)).toInt64))) + ((q_fallTo (M (P 0)) ((nI k) - (nI k) / 3 * 3)).toInt64))), (0, .ref (ad 6 0))]) hx hb dL_digest_180 hl (k := 1) rfl (nI_1 _) (by decide) rfl (fun ls hl => ?_)
        refine lv_goto (tgt := 141) hx hb dL_digest_183 (by decide) ?_
        exact ih (k + 1) _ (by omega) (by omega) (by rw [k_iter, ← he]; unfold q_dD; rfl) _ _ _ hI (lv_sub hl [0, 1, 2] rfl)
  have lp93 : ∀ (d k : Nat) (h : Int64), k ≤ 15 → 15 < k + d → h = k_iter (q_dC (M (P 0))) (q_d2 (M (P 0))) k → ∀ (H : Heap) (locs : List Loc) (ls : Array Slot), g_I D tb ad (g_A ad) s H locs P M → lv_has ls 4 [(3, .int (nI k)), (1, .long h), (0, .ref (ad 6 0))] → W p l e rm_L_digest s m args below meth c H locs 0 0 Q (F0 m 93 ls []) := by
    intro d
    induction d with
    | zero => intros; omega
    | succ d ih =>
      intro k h hkN hd he H locs ls hI hl
      refine lv_iload_n hx hb dL_digest_93 rfl (lv_at hl 0 rfl) ?_
      refine lv_bipush (v := 15) hx hb dL_digest_94 (by decide) ?_
      refine lv_icmp_ge (tgt := 139) hx hb dL_digest_96 (by decide) (fun c1 => ?_) (fun c1 => ?_)
      · have c1n : 15 ≤ k := (nI_leI (a := 15) (b := k) (by omega) (by omega)).mp c1
        have hkn : k = 15 := by omega
        subst hkn
        refine lv_iconst (v := 0) hx hb dL_digest_139 (by decide) ?_
        refine lv_istore_n (lv' := [(3, .int (nI 0)), (1, .long h), (0, .ref (ad 6 0))]) hx hb dL_digest_140 rfl hl (by decide) rfl (fun ls hl => ?_)
        exact lp141 (18 + 1) 0 _ (Nat.zero_le _) (by omega) he _ _ _ hI hl
      · have c1n : ¬ 15 ≤ k := fun z => c1 ((nI_leI (a := 15) (b := k) (by omega) (by omega)).mpr z)
        refine lv_ldc2 (v := 31) hx hb hown (hts _ qcl_L_11) dL_digest_99 ?_
        refine lv_ldc2 (v := 31) hx hb hown (hts _ qcl_L_11) dL_digest_102 ?_
        refine lv_lload_n hx hb dL_digest_105 rfl (lv_at hl 1 rfl) ?_
        refine lv_lmul hx hb dL_digest_106 ?_
        refine lv_aload_n hx hb dL_digest_107 rfl (lv_at hl 2 rfl) ?_
        refine lv_iload_n hx hb dL_digest_108 rfl (lv_at hl 0 rfl) ?_
        refine lv_iconst (v := 3) hx hb dL_digest_109 (by decide) ?_
        refine lv_idiv hx hb dL_digest_110 (by decide) ?_
        refine lv_iload_n hx hb dL_digest_111 rfl (lv_at hl 0 rfl) ?_
        refine lv_iconst (v := 3) hx hb dL_digest_112 (by decide) ?_
        refine lv_irem hx hb dL_digest_113 (by decide) ?_
        refine r_binOf (rest := [.long (31 * h), .long 31]) X hI hz hl.1 rfl ⟨rfl, rfl, by decide, by decide⟩ (Nat.le_of_ble_eq_true rfl) ⟨Nat.zero_le _, Nat.zero_le _⟩ dL_digest_114 (fun H locs hI => ?_)
        refine lv_i2l hx hb dL_digest_117 rfl ?_
        refine lv_ladd hx hb dL_digest_118 ?_
        refine lv_lmul hx hb dL_digest_119 ?_
        refine lv_aload_n hx hb dL_digest_120 rfl (lv_at hl 2 rfl) ?_
        refine lv_iload_n hx hb dL_digest_121 rfl (lv_at hl 0 rfl) ?_
        refine lv_iconst (v := 5) hx hb dL_digest_122 (by decide) ?_
        refine lv_idiv hx hb dL_digest_123 (by decide) ?_
        refine lv_iload_n hx hb dL_digest_124 rfl (lv_at hl 0 rfl) ?_
        refine lv_iconst (v := 5) hx hb dL_digest_125 (by decide) ?_
        refine lv_irem hx hb dL_digest_126 (by decide) ?_
        refine r_gradeOf (rest := [.long (31 * ((31 * h) + ((q_tellBin (M (P 0)) ((nI k) / 3) ((nI k) - (nI k) / 3 * 3)).toInt64)))]) X hI hz hl.1 rfl ⟨rfl, rfl, by decide, by decide⟩ (Nat.le_of_ble_eq_true rfl) ⟨Nat.zero_le _, Nat.zero_le _⟩ dL_digest_127 (fun H locs hI => ?_)
        refine lv_i2l hx hb dL_digest_130 rfl ?_
        refine lv_ladd hx hb dL_digest_131 ?_
        refine lv_lstore_n (lv' := [(1, .long ((31 * ((31 * h) + ((q_tellBin (M (P 0)) ((nI k) / 3) ((nI k) - (nI k) / 3 * 3)).toInt64))) + ((q_tellGrade (M (P 0)) ((nI k) / 5) ((nI k) - (nI k) / 5 * 5)).toInt64))), (3, .int (nI k)), (0, .ref (ad 6 0))]) hx hb dL_digest_132 rfl hl (by decide) rfl (fun ls hl => ?_)
        refine lv_iinc (v := nI (k + 1)) (lv' := [(3, .int (nI (k + 1))), (1, .long ((31 * ((31 * h) + ((q_tellBin (M (P 0)) ((nI k) / 3) ((nI k) - (nI k) / 3 * 3)).toInt64))) + ((q_tellGrade (M (P 0)) ((nI k) / 5) ((nI k) - (nI k) / 5 * 5)).toInt64))), (0, .ref (ad 6 0))]) hx hb dL_digest_133 hl (k := 1) rfl (nI_1 _) (by decide) rfl (fun ls hl => ?_)
        refine lv_goto (tgt := 93) hx hb dL_digest_136 (by decide) ?_
        exact ih (k + 1) _ (by omega) (by omega) (by rw [k_iter, ← he]; unfold q_dC; rfl) _ _ _ hI (lv_sub hl [0, 1, 2] rfl)
  have lp49 : ∀ (d k : Nat) (h : Int64), k ≤ (n * 10) → (n * 10) < k + d → h = k_iter (q_dB (M (P 0))) (q_d1 (M (P 0))) k → ∀ (H : Heap) (locs : List Loc) (ls : Array Slot), g_I D tb ad (g_A ad) s H locs P M → lv_has ls 4 [(3, .int (nI k)), (1, .long h), (0, .ref (ad 6 0))] → W p l e rm_L_digest s m args below meth c H locs 0 0 Q (F0 m 49 ls []) := by
    intro d
    induction d with
    | zero => intros; omega
    | succ d ih =>
      intro k h hkN hd he H locs ls hI hl
      refine lv_iload_n hx hb dL_digest_49 rfl (lv_at hl 0 rfl) ?_
      refine lv_aload_n hx hb dL_digest_50 rfl (lv_at hl 2 rfl) ?_
      refine lv_iconst (v := 0) hx hb dL_digest_51 (by decide) ?_
      refine r_count (rest := [.int (nI k)]) X hI hz hl.1 rfl ⟨rfl, rfl, by decide, by decide⟩ (Nat.le_of_ble_eq_true rfl) ⟨Nat.zero_le _, Nat.zero_le _⟩ dL_digest_52 (fun H locs hI => ?_)
      refine g_te (y := (nI n)) ((q_cnt_of (by decide) (by decide)).trans (u_c0 hr)) ?_
      refine lv_bipush (v := 10) hx hb dL_digest_55 (by decide) ?_
      refine lv_imul hx hb dL_digest_57 ?_
      refine g_te (pk_mul n 10) ?_
      refine lv_icmp_ge (tgt := 91) hx hb dL_digest_58 (by decide) (fun c1 => ?_) (fun c1 => ?_)
      · have c1n : (n * 10) ≤ k := (nI_leI (a := (n * 10)) (b := k) (by omega) (by omega)).mp c1
        have hkn : k = (n * 10) := by omega
        subst hkn
        refine lv_iconst (v := 0) hx hb dL_digest_91 (by decide) ?_
        refine lv_istore_n (lv' := [(3, .int (nI 0)), (1, .long h), (0, .ref (ad 6 0))]) hx hb dL_digest_92 rfl hl (by decide) rfl (fun ls hl => ?_)
        exact lp93 (15 + 1) 0 _ (Nat.zero_le _) (by omega) (by rw [he]; unfold q_d2; rw [en]; rfl) _ _ _ hI hl
      · have c1n : ¬ (n * 10) ≤ k := fun z => c1 ((nI_leI (a := (n * 10)) (b := k) (by omega) (by omega)).mpr z)
        refine lv_ldc2 (v := 31) hx hb hown (hts _ qcl_L_11) dL_digest_61 ?_
        refine lv_lload_n hx hb dL_digest_64 rfl (lv_at hl 1 rfl) ?_
        refine lv_lmul hx hb dL_digest_65 ?_
        refine lv_aload_n hx hb dL_digest_66 rfl (lv_at hl 2 rfl) ?_
        refine lv_aload_n hx hb dL_digest_67 rfl (lv_at hl 2 rfl) ?_
        refine lv_iload_n hx hb dL_digest_68 rfl (lv_at hl 0 rfl) ?_
        refine lv_bipush (v := 10) hx hb dL_digest_69 (by decide) ?_
        refine lv_idiv hx hb dL_digest_71 (by decide) ?_
        refine r_receipt (rest := [.ref (ad 6 0), .long (31 * h)]) X hI hz hl.1 rfl ⟨rfl, rfl, by decide, by decide⟩ (Nat.le_of_ble_eq_true rfl) ⟨Nat.zero_le _, Nat.zero_le _⟩ dL_digest_72 (fun H locs hI => ?_)
        refine lv_iload_n hx hb dL_digest_75 rfl (lv_at hl 0 rfl) ?_
        refine lv_bipush (v := 10) hx hb dL_digest_76 (by decide) ?_
        refine lv_irem hx hb dL_digest_78 (by decide) ?_
        refine r_receiptOf (rest := [.long (31 * h)]) X hI hz hl.1 rfl ⟨rfl, rfl, by decide, by decide⟩ (Nat.le_of_ble_eq_true rfl) ⟨Nat.zero_le _, Nat.zero_le _⟩ dL_digest_79 (fun H locs hI => ?_)
        refine lv_i2l hx hb dL_digest_82 rfl ?_
        refine lv_ladd hx hb dL_digest_83 ?_
        refine lv_lstore_n (lv' := [(1, .long ((31 * h) + ((q_tellReceipt (M (P 0)) (q_numberAt (M (P 0)) ((nI k) / 10)) ((nI k) - (nI k) / 10 * 10)).toInt64))), (3, .int (nI k)), (0, .ref (ad 6 0))]) hx hb dL_digest_84 rfl hl (by decide) rfl (fun ls hl => ?_)
        refine lv_iinc (v := nI (k + 1)) (lv' := [(3, .int (nI (k + 1))), (1, .long ((31 * h) + ((q_tellReceipt (M (P 0)) (q_numberAt (M (P 0)) ((nI k) / 10)) ((nI k) - (nI k) / 10 * 10)).toInt64))), (0, .ref (ad 6 0))]) hx hb dL_digest_85 hl (k := 1) rfl (nI_1 _) (by decide) rfl (fun ls hl => ?_)
        refine lv_goto (tgt := 49) hx hb dL_digest_88 (by decide) ?_
        exact ih (k + 1) _ (by omega) (by omega) (by rw [k_iter, ← he]; unfold q_dB; rfl) _ _ _ hI (lv_sub hl [0, 1, 2] rfl)
  have lp6 : ∀ (d k : Nat) (h : Int64), k ≤ 24 → 24 < k + d → h = k_iter (q_dA (M (P 0))) 83 k → ∀ (H : Heap) (locs : List Loc) (ls : Array Slot), g_I D tb ad (g_A ad) s H locs P M → lv_has ls 4 [(3, .int (nI k)), (1, .long h), (0, .ref (ad 6 0))] → W p l e rm_L_digest s m args below meth c H locs 0 0 Q (F0 m 6 ls []) := by
    intro d
    induction d with
    | zero => intros; omega
    | succ d ih =>
      intro k h hkN hd he H locs ls hI hl
      refine lv_iload_n hx hb dL_digest_6 rfl (lv_at hl 0 rfl) ?_
      refine lv_bipush (v := 24) hx hb dL_digest_7 (by decide) ?_
      refine lv_icmp_ge (tgt := 47) hx hb dL_digest_9 (by decide) (fun c1 => ?_) (fun c1 => ?_)
      · have c1n : 24 ≤ k := (nI_leI (a := 24) (b := k) (by omega) (by omega)).mp c1
        have hkn : k = 24 := by omega
        subst hkn
        refine lv_iconst (v := 0) hx hb dL_digest_47 (by decide) ?_
        refine lv_istore_n (lv' := [(3, .int (nI 0)), (1, .long h), (0, .ref (ad 6 0))]) hx hb dL_digest_48 rfl hl (by decide) rfl (fun ls hl => ?_)
        exact lp49 ((n * 10) + 1) 0 _ (Nat.zero_le _) (by omega) he _ _ _ hI hl
      · have c1n : ¬ 24 ≤ k := fun z => c1 ((nI_leI (a := 24) (b := k) (by omega) (by omega)).mpr z)
        refine lv_ldc2 (v := 31) hx hb hown (hts _ qcl_L_11) dL_digest_12 ?_
        refine lv_lload_n hx hb dL_digest_15 rfl (lv_at hl 1 rfl) ?_
        refine lv_lmul hx hb dL_digest_16 ?_
        refine lv_iload_n hx hb dL_digest_17 rfl (lv_at hl 0 rfl) ?_
        refine lv_bipush (v := 8) hx hb dL_digest_18 (by decide) ?_
        refine lv_icmp_eq (tgt := 29) hx hb dL_digest_20 (by decide) (fun c2 => ?_) (fun c2 => ?_)
        · have c2n : k = 8 := (nI_eq (a := k) (b := 8) (by omega) (by omega)).mp c2
          refine lv_iconst (v := 0) hx hb dL_digest_29 (by decide) ?_
          refine lv_goto (tgt := 38) hx hb dL_digest_30 (by decide) ?_
          refine lv_i2l hx hb dL_digest_38 rfl ?_
          refine lv_ladd hx hb dL_digest_39 ?_
          refine lv_lstore_n (lv' := [(1, .long ((31 * h) + ((0 : Int32).toInt64))), (3, .int (nI k)), (0, .ref (ad 6 0))]) hx hb dL_digest_40 rfl hl (by decide) rfl (fun ls hl => ?_)
          refine lv_iinc (v := nI (k + 1)) (lv' := [(3, .int (nI (k + 1))), (1, .long ((31 * h) + ((0 : Int32).toInt64))), (0, .ref (ad 6 0))]) hx hb dL_digest_41 hl (k := 1) rfl (nI_1 _) (by decide) rfl (fun ls hl => ?_)
          refine lv_goto (tgt := 6) hx hb dL_digest_44 (by decide) ?_
          exact ih (k + 1) _ (by omega) (by omega) (by rw [k_iter, ← he]; unfold q_dA; first | rfl | (rw [if_pos c2])) _ _ _ hI (lv_sub hl [0, 1, 2] rfl)
        · have c2n : ¬ k = 8 := fun z => c2 ((nI_eq (a := k) (b := 8) (by omega) (by omega)).mpr z)
          refine lv_iload_n hx hb dL_digest_23 rfl (lv_at hl 0 rfl) ?_
          refine lv_bipush (v := 9) hx hb dL_digest_24 (by decide) ?_
          refine lv_icmp_ne (tgt := 33) hx hb dL_digest_26 (by decide) (fun c3 => ?_) (fun c3 => ?_)
          · have c3n : ¬ k = 9 := fun z => c3 ((nI_eq (a := k) (b := 9) (by omega) (by omega)).mpr z)
            refine lv_aload_n hx hb dL_digest_33 rfl (lv_at hl 2 rfl) ?_
            refine lv_iload_n hx hb dL_digest_34 rfl (lv_at hl 0 rfl) ?_
            refine r_count (rest := [.long (31 * h)]) X hI hz hl.1 rfl ⟨rfl, rfl, by decide, by decide⟩ (Nat.le_of_ble_eq_true rfl) ⟨Nat.zero_le _, Nat.zero_le _⟩ dL_digest_35 (fun H locs hI => ?_)
            refine g_te (y := (q_tellNumber (M (P 0)) (nI k))) (q_cnt_of c2 c3) ?_
            refine lv_i2l hx hb dL_digest_38 rfl ?_
            refine lv_ladd hx hb dL_digest_39 ?_
            refine lv_lstore_n (lv' := [(1, .long ((31 * h) + ((q_tellNumber (M (P 0)) (nI k)).toInt64))), (3, .int (nI k)), (0, .ref (ad 6 0))]) hx hb dL_digest_40 rfl hl (by decide) rfl (fun ls hl => ?_)
            refine lv_iinc (v := nI (k + 1)) (lv' := [(3, .int (nI (k + 1))), (1, .long ((31 * h) + ((q_tellNumber (M (P 0)) (nI k)).toInt64))), (0, .ref (ad 6 0))]) hx hb dL_digest_41 hl (k := 1) rfl (nI_1 _) (by decide) rfl (fun ls hl => ?_)
            refine lv_goto (tgt := 6) hx hb dL_digest_44 (by decide) ?_
            exact ih (k + 1) _ (by omega) (by omega) (by rw [k_iter, ← he]; unfold q_dA; first | rfl | (rw [if_neg c2, if_neg c3])) _ _ _ hI (lv_sub hl [0, 1, 2] rfl)
          · have c3n : k = 9 := (nI_eq (a := k) (b := 9) (by omega) (by omega)).mp c3
            refine lv_iconst (v := 0) hx hb dL_digest_29 (by decide) ?_
            refine lv_goto (tgt := 38) hx hb dL_digest_30 (by decide) ?_
            refine lv_i2l hx hb dL_digest_38 rfl ?_
            refine lv_ladd hx hb dL_digest_39 ?_
            refine lv_lstore_n (lv' := [(1, .long ((31 * h) + ((0 : Int32).toInt64))), (3, .int (nI k)), (0, .ref (ad 6 0))]) hx hb dL_digest_40 rfl hl (by decide) rfl (fun ls hl => ?_)
            refine lv_iinc (v := nI (k + 1)) (lv' := [(3, .int (nI (k + 1))), (1, .long ((31 * h) + ((0 : Int32).toInt64))), (0, .ref (ad 6 0))]) hx hb dL_digest_41 hl (k := 1) rfl (nI_1 _) (by decide) rfl (fun ls hl => ?_)
            refine lv_goto (tgt := 6) hx hb dL_digest_44 (by decide) ?_
            exact ih (k + 1) _ (by omega) (by omega) (by rw [k_iter, ← he]; unfold q_dA; first | rfl | (rw [if_neg c2, if_pos c3])) _ _ _ hI (lv_sub hl [0, 1, 2] rfl)
  refine lv_ldc2 (v := 83) hx hb hown (hts _ qcl_L_9) dL_digest_0 ?_
  refine lv_lstore_n (lv' := [(1, .long 83), (0, .ref (ad 6 0))]) hx hb dL_digest_3 rfl hl (by decide) rfl (fun ls hl => ?_)
  refine lv_iconst (v := 0) hx hb dL_digest_4 (by decide) ?_
  refine lv_istore_n (lv' := [(3, .int (nI 0)), (1, .long 83), (0, .ref (ad 6 0))]) hx hb dL_digest_5 rfl hl (by decide) rfl (fun ls hl => ?_)
  exact lp6 25 0 _ (Nat.zero_le _) (by omega) rfl _ _ _ hI hl
