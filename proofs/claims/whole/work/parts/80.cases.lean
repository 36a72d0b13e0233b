/-! ===== the law: a call a case ===== -/
set_option maxHeartbeats 4000000 in
set_option maxRecDepth 100000 in
theorem w_case_store {p : Program} {l : Launch} {e : Env} {s : State} {m : MethodId} {below : List Frame} {meth : Method} {c : Code} {b L : Nat} {xs : Nat → Int32} {D : va_G} {tb : g_T} {ad : g_Ad} {k : Nat} {P : g_P} {M : g_M} {H : Heap} {locs : List Loc} {ls : Array Slot} {Q : State → Prop} (C0 : lw_At p s m meth c b L xs) (hL : L ≤ 2048) (hC : g_C D tb ad (fun q => s.heap.size ≤ q) s) (hk : 4 * k + 4 ≤ L) (h : z_Rc P M (k : Int)) (hI : g_I D tb ad (fun q => s.heap.size ≤ q) s H locs P M) (hl : lv_has ls 4 [(3, .int (nI (4 * k))), (2, .ref (ad 7 0)), (1, .ref (ad 6 0)), (0, .ref b)]) (K : ∀ (P1 : g_P) (M2 : g_M) (H1 : Heap) (locs1 : List Loc), z_Rc P1 M2 ((k : Int) + 1) → g_I D tb ad (fun q => s.heap.size ≤ q) s H1 locs1 P1 M2 → W p l e room_1 s m #[Value.ref b] below meth c H1 locs1 600000 7302250 Q (F0 m 890 ls [])) : W p l e room_1 s m #[Value.ref b] below meth c H locs 600000 7302250 Q (F0 m 152 ls []) := by
  obtain ⟨hx, hb, hr, hml, hown, hts0, hX, hbl, hlocks, hgv⟩ := C0
  have hts := g_of_tbl hts0
  have hbA : ¬ (fun q => s.heap.size ≤ q) b := Nat.not_le.mpr hbl
  obtain ⟨fr, P1, M1, M2, c1, c2, hR⟩ := L_store (l := l) (D := D) (tb := tb) (ad := ad) hC.2.2.2.1 h (by omega) (by omega) (xs (nI (4 * k + 1)).toNatClampNeg) (xs (nI (4 * k + 2)).toNatClampNeg) (xs (nI (4 * k + 3)).toNatClampNeg)
  refine lv_aload_n hx hb dL_law_152 rfl (lv_at hl 2 rfl) ?_
  refine lv_aload_n hx hb dL_law_153 rfl (lv_at hl 3 rfl) ?_
  refine lv_iload_n hx hb dL_law_154 rfl (lv_at hl 0 rfl) ?_
  refine lv_iconst (v := 1) hx hb dL_law_155 (by decide) ?_
  refine lv_iadd hx hb dL_law_156 ?_
  refine g_te (y := nI (4 * k + 1)) (nI_add (4 * k) 1) ?_
  refine va_sld hx hb hX hbl hbA hI.2 (vp_in_nI (show 4 * k + 1 < L by omega) (by omega)) dL_law_157 ?_
  refine lv_aload_n hx hb dL_law_158 rfl (lv_at hl 3 rfl) ?_
  refine lv_iload_n hx hb dL_law_159 rfl (lv_at hl 0 rfl) ?_
  refine lv_iconst (v := 2) hx hb dL_law_160 (by decide) ?_
  refine lv_iadd hx hb dL_law_161 ?_
  refine g_te (y := nI (4 * k + 2)) (nI_add (4 * k) 2) ?_
  refine va_sld hx hb hX hbl hbA hI.2 (vp_in_nI (show 4 * k + 2 < L by omega) (by omega)) dL_law_162 ?_
  refine lv_aload_n hx hb dL_law_163 rfl (lv_at hl 3 rfl) ?_
  refine lv_iload_n hx hb dL_law_164 rfl (lv_at hl 0 rfl) ?_
  refine lv_iconst (v := 3) hx hb dL_law_165 (by decide) ?_
  refine lv_iadd hx hb dL_law_166 ?_
  refine g_te (y := nI (4 * k + 3)) (nI_add (4 * k) 3) ?_
  refine va_sld hx hb hX hbl hbA hI.2 (vp_in_nI (show 4 * k + 3 < L by omega) (by omega)) dL_law_167 ?_
  refine g_callVi (As := [.int (xs (nI (4 * k + 1)).toNatClampNeg), .int (xs (nI (4 * k + 2)).toNatClampNeg), .int (xs (nI (4 * k + 3)).toNatClampNeg)]) (rest := []) c1 rfl rfl gm_X4_store hx hb hml hown hts hC hI (by decide) (e_gr rfl) rfl rfl qm_L_13 rfl hl.1 rfl ⟨rfl, rfl, by decide, by decide⟩ (Nat.le_of_ble_eq_true rfl) ⟨Nat.le_refl _, Nat.le_refl _⟩ dL_law_168 (fun H locs hI => ?_)
  refine lv_aload_n hx hb dL_law_171 rfl (lv_at hl 1 rfl) ?_
  refine lv_aload_n hx hb dL_law_172 rfl (lv_at hl 3 rfl) ?_
  refine lv_iload_n hx hb dL_law_173 rfl (lv_at hl 0 rfl) ?_
  refine lv_iconst (v := 1) hx hb dL_law_174 (by decide) ?_
  refine lv_iadd hx hb dL_law_175 ?_
  refine g_te (y := nI (4 * k + 1)) (nI_add (4 * k) 1) ?_
  refine va_sld hx hb hX hbl hbA hI.2 (vp_in_nI (show 4 * k + 1 < L by omega) (by omega)) dL_law_176 ?_
  refine lv_aload_n hx hb dL_law_177 rfl (lv_at hl 3 rfl) ?_
  refine lv_iload_n hx hb dL_law_178 rfl (lv_at hl 0 rfl) ?_
  refine lv_iconst (v := 2) hx hb dL_law_179 (by decide) ?_
  refine lv_iadd hx hb dL_law_180 ?_
  refine g_te (y := nI (4 * k + 2)) (nI_add (4 * k) 2) ?_
  refine va_sld hx hb hX hbl hbA hI.2 (vp_in_nI (show 4 * k + 2 < L by omega) (by omega)) dL_law_181 ?_
  refine lv_aload_n hx hb dL_law_182 rfl (lv_at hl 3 rfl) ?_
  refine lv_iload_n hx hb dL_law_183 rfl (lv_at hl 0 rfl) ?_
  refine lv_iconst (v := 3) hx hb dL_law_184 (by decide) ?_
  refine lv_iadd hx hb dL_law_185 ?_
  refine g_te (y := nI (4 * k + 3)) (nI_add (4 * k) 3) ?_
  refine va_sld hx hb hX hbl hbA hI.2 (vp_in_nI (show 4 * k + 3 < L by omega) (by omega)) dL_law_186 ?_
  refine g_callVi (As := [.int (xs (nI (4 * k + 1)).toNatClampNeg), .int (xs (nI (4 * k + 2)).toNatClampNeg), .int (xs (nI (4 * k + 3)).toNatClampNeg)]) (rest := [.int fr]) c2 rfl rfl gm_X5_store hx hb hml hown hts hC hI (by decide) (e_x rfl) rfl rfl qm_L_17 rfl hl.1 rfl ⟨rfl, rfl, by decide, by decide⟩ (Nat.le_of_ble_eq_true rfl) ⟨Nat.le_refl _, Nat.le_refl _⟩ dL_law_187 (fun H locs hI => ?_)
  exact lv_icmp_eq (tgt := 890) hx hb dL_law_190 (by decide) (fun _ => K P1 M2 H locs hR hI) (fun z => absurd rfl z)
set_option maxHeartbeats 4000000 in
set_option maxRecDepth 100000 in
theorem w_case_split {p : Program} {l : Launch} {e : Env} {s : State} {m : MethodId} {below : List Frame} {meth : Method} {c : Code} {b L : Nat} {xs : Nat → Int32} {D : va_G} {tb : g_T} {ad : g_Ad} {k : Nat} {P : g_P} {M : g_M} {H : Heap} {locs : List Loc} {ls : Array Slot} {Q : State → Prop} (C0 : lw_At p s m meth c b L xs) (hL : L ≤ 2048) (hC : g_C D tb ad (fun q => s.heap.size ≤ q) s) (hk : 4 * k + 4 ≤ L) (h : z_Rc P M (k : Int)) (hI : g_I D tb ad (fun q => s.heap.size ≤ q) s H locs P M) (hl : lv_has ls 4 [(3, .int (nI (4 * k))), (2, .ref (ad 7 0)), (1, .ref (ad 6 0)), (0, .ref b)]) (K : ∀ (P1 : g_P) (M2 : g_M) (H1 : Heap) (locs1 : List Loc), z_Rc P1 M2 ((k : Int) + 1) → g_I D tb ad (fun q => s.heap.size ≤ q) s H1 locs1 P1 M2 → W p l e room_1 s m #[Value.ref b] below meth c H1 locs1 600000 7302250 Q (F0 m 890 ls [])) : W p l e room_1 s m #[Value.ref b] below meth c H locs 600000 7302250 Q (F0 m 195 ls []) := by
  obtain ⟨hx, hb, hr, hml, hown, hts0, hX, hbl, hlocks, hgv⟩ := C0
  have hts := g_of_tbl hts0
  have hbA : ¬ (fun q => s.heap.size ≤ q) b := Nat.not_le.mpr hbl
  obtain ⟨fr, P1, M1, M2, c1, c2, hR⟩ := L_split (l := l) (D := D) (tb := tb) (ad := ad) hC.2.2.2.1 h (by omega) (by omega) (xs (nI (4 * k + 1)).toNatClampNeg) (xs (nI (4 * k + 2)).toNatClampNeg)
  refine lv_aload_n hx hb dL_law_195 rfl (lv_at hl 2 rfl) ?_
  refine lv_aload_n hx hb dL_law_196 rfl (lv_at hl 3 rfl) ?_
  refine lv_iload_n hx hb dL_law_197 rfl (lv_at hl 0 rfl) ?_
  refine lv_iconst (v := 1) hx hb dL_law_198 (by decide) ?_
  refine lv_iadd hx hb dL_law_199 ?_
  refine g_te (y := nI (4 * k + 1)) (nI_add (4 * k) 1) ?_
  refine va_sld hx hb hX hbl hbA hI.2 (vp_in_nI (show 4 * k + 1 < L by omega) (by omega)) dL_law_200 ?_
  refine lv_aload_n hx hb dL_law_201 rfl (lv_at hl 3 rfl) ?_
  refine lv_iload_n hx hb dL_law_202 rfl (lv_at hl 0 rfl) ?_
  refine lv_iconst (v := 2) hx hb dL_law_203 (by decide) ?_
  refine lv_iadd hx hb dL_law_204 ?_
  refine g_te (y := nI (4 * k + 2)) (nI_add (4 * k) 2) ?_
  refine va_sld hx hb hX hbl hbA hI.2 (vp_in_nI (show 4 * k + 2 < L by omega) (by omega)) dL_law_205 ?_
  refine g_callVi (As := [.int (xs (nI (4 * k + 1)).toNatClampNeg), .int (xs (nI (4 * k + 2)).toNatClampNeg)]) (rest := []) c1 rfl rfl gm_X4_split hx hb hml hown hts hC hI (by decide) (e_gr rfl) rfl rfl qm_L_18 rfl hl.1 rfl ⟨rfl, rfl, by decide, by decide⟩ (Nat.le_of_ble_eq_true rfl) ⟨Nat.le_refl _, Nat.le_refl _⟩ dL_law_206 (fun H locs hI => ?_)
  refine lv_aload_n hx hb dL_law_209 rfl (lv_at hl 1 rfl) ?_
  refine lv_aload_n hx hb dL_law_210 rfl (lv_at hl 3 rfl) ?_
  refine lv_iload_n hx hb dL_law_211 rfl (lv_at hl 0 rfl) ?_
  refine lv_iconst (v := 1) hx hb dL_law_212 (by decide) ?_
  refine lv_iadd hx hb dL_law_213 ?_
  refine g_te (y := nI (4 * k + 1)) (nI_add (4 * k) 1) ?_
  refine va_sld hx hb hX hbl hbA hI.2 (vp_in_nI (show 4 * k + 1 < L by omega) (by omega)) dL_law_214 ?_
  refine lv_aload_n hx hb dL_law_215 rfl (lv_at hl 3 rfl) ?_
  refine lv_iload_n hx hb dL_law_216 rfl (lv_at hl 0 rfl) ?_
  refine lv_iconst (v := 2) hx hb dL_law_217 (by decide) ?_
  refine lv_iadd hx hb dL_law_218 ?_
  refine g_te (y := nI (4 * k + 2)) (nI_add (4 * k) 2) ?_
  refine va_sld hx hb hX hbl hbA hI.2 (vp_in_nI (show 4 * k + 2 < L by omega) (by omega)) dL_law_219 ?_
  refine g_callVi (As := [.int (xs (nI (4 * k + 1)).toNatClampNeg), .int (xs (nI (4 * k + 2)).toNatClampNeg)]) (rest := [.int fr]) c2 rfl rfl gm_X5_split hx hb hml hown hts hC hI (by decide) (e_x rfl) rfl rfl qm_L_22 rfl hl.1 rfl ⟨rfl, rfl, by decide, by decide⟩ (Nat.le_of_ble_eq_true rfl) ⟨Nat.le_refl _, Nat.le_refl _⟩ dL_law_220 (fun H locs hI => ?_)
  exact lv_icmp_eq (tgt := 890) hx hb dL_law_223 (by decide) (fun _ => K P1 M2 H locs hR hI) (fun z => absurd rfl z)
set_option maxHeartbeats 4000000 in
set_option maxRecDepth 100000 in
theorem w_case_join {p : Program} {l : Launch} {e : Env} {s : State} {m : MethodId} {below : List Frame} {meth : Method} {c : Code} {b L : Nat} {xs : Nat → Int32} {D : va_G} {tb : g_T} {ad : g_Ad} {k : Nat} {P : g_P} {M : g_M} {H : Heap} {locs : List Loc} {ls : Array Slot} {Q : State → Prop} (C0 : lw_At p s m meth c b L xs) (hL : L ≤ 2048) (hC : g_C D tb ad (fun q => s.heap.size ≤ q) s) (hk : 4 * k + 4 ≤ L) (h : z_Rc P M (k : Int)) (hI : g_I D tb ad (fun q => s.heap.size ≤ q) s H locs P M) (hl : lv_has ls 4 [(3, .int (nI (4 * k))), (2, .ref (ad 7 0)), (1, .ref (ad 6 0)), (0, .ref b)]) (K : ∀ (P1 : g_P) (M2 : g_M) (H1 : Heap) (locs1 : List Loc), z_Rc P1 M2 ((k : Int) + 1) → g_I D tb ad (fun q => s.heap.size ≤ q) s H1 locs1 P1 M2 → W p l e room_1 s m #[Value.ref b] below meth c H1 locs1 600000 7302250 Q (F0 m 890 ls [])) : W p l e room_1 s m #[Value.ref b] below meth c H locs 600000 7302250 Q (F0 m 228 ls []) := by
  obtain ⟨hx, hb, hr, hml, hown, hts0, hX, hbl, hlocks, hgv⟩ := C0
  have hts := g_of_tbl hts0
  have hbA : ¬ (fun q => s.heap.size ≤ q) b := Nat.not_le.mpr hbl
  obtain ⟨fr, P1, M1, M2, c1, c2, hR⟩ := L_join (l := l) (D := D) (tb := tb) (ad := ad) hC.2.2.2.1 h (by omega) (by omega) (xs (nI (4 * k + 1)).toNatClampNeg) (xs (nI (4 * k + 2)).toNatClampNeg)
  refine lv_aload_n hx hb dL_law_228 rfl (lv_at hl 2 rfl) ?_
  refine lv_aload_n hx hb dL_law_229 rfl (lv_at hl 3 rfl) ?_
  refine lv_iload_n hx hb dL_law_230 rfl (lv_at hl 0 rfl) ?_
  refine lv_iconst (v := 1) hx hb dL_law_231 (by decide) ?_
  refine lv_iadd hx hb dL_law_232 ?_
  refine g_te (y := nI (4 * k + 1)) (nI_add (4 * k) 1) ?_
  refine va_sld hx hb hX hbl hbA hI.2 (vp_in_nI (show 4 * k + 1 < L by omega) (by omega)) dL_law_233 ?_
  refine lv_aload_n hx hb dL_law_234 rfl (lv_at hl 3 rfl) ?_
  refine lv_iload_n hx hb dL_law_235 rfl (lv_at hl 0 rfl) ?_
  refine lv_iconst (v := 2) hx hb dL_law_236 (by decide) ?_
  refine lv_iadd hx hb dL_law_237 ?_
  refine g_te (y := nI (4 * k + 2)) (nI_add (4 * k) 2) ?_
  refine va_sld hx hb hX hbl hbA hI.2 (vp_in_nI (show 4 * k + 2 < L by omega) (by omega)) dL_law_238 ?_
  refine g_callVi (As := [.int (xs (nI (4 * k + 1)).toNatClampNeg), .int (xs (nI (4 * k + 2)).toNatClampNeg)]) (rest := []) c1 rfl rfl gm_X4_join hx hb hml hown hts hC hI (by decide) (e_gr rfl) rfl rfl qm_L_23 rfl hl.1 rfl ⟨rfl, rfl, by decide, by decide⟩ (Nat.le_of_ble_eq_true rfl) ⟨Nat.le_refl _, Nat.le_refl _⟩ dL_law_239 (fun H locs hI => ?_)
  refine lv_aload_n hx hb dL_law_242 rfl (lv_at hl 1 rfl) ?_
  refine lv_aload_n hx hb dL_law_243 rfl (lv_at hl 3 rfl) ?_
  refine lv_iload_n hx hb dL_law_244 rfl (lv_at hl 0 rfl) ?_
  refine lv_iconst (v := 1) hx hb dL_law_245 (by decide) ?_
  refine lv_iadd hx hb dL_law_246 ?_
  refine g_te (y := nI (4 * k + 1)) (nI_add (4 * k) 1) ?_
  refine va_sld hx hb hX hbl hbA hI.2 (vp_in_nI (show 4 * k + 1 < L by omega) (by omega)) dL_law_247 ?_
  refine lv_aload_n hx hb dL_law_248 rfl (lv_at hl 3 rfl) ?_
  refine lv_iload_n hx hb dL_law_249 rfl (lv_at hl 0 rfl) ?_
  refine lv_iconst (v := 2) hx hb dL_law_250 (by decide) ?_
  refine lv_iadd hx hb dL_law_251 ?_
  refine g_te (y := nI (4 * k + 2)) (nI_add (4 * k) 2) ?_
  refine va_sld hx hb hX hbl hbA hI.2 (vp_in_nI (show 4 * k + 2 < L by omega) (by omega)) dL_law_252 ?_
  refine g_callVi (As := [.int (xs (nI (4 * k + 1)).toNatClampNeg), .int (xs (nI (4 * k + 2)).toNatClampNeg)]) (rest := [.int fr]) c2 rfl rfl gm_X5_join hx hb hml hown hts hC hI (by decide) (e_x rfl) rfl rfl qm_L_26 rfl hl.1 rfl ⟨rfl, rfl, by decide, by decide⟩ (Nat.le_of_ble_eq_true rfl) ⟨Nat.le_refl _, Nat.le_refl _⟩ dL_law_253 (fun H locs hI => ?_)
  exact lv_icmp_eq (tgt := 890) hx hb dL_law_256 (by decide) (fun _ => K P1 M2 H locs hR hI) (fun z => absurd rfl z)
set_option maxHeartbeats 4000000 in
set_option maxRecDepth 100000 in
theorem w_case_hand {p : Program} {l : Launch} {e : Env} {s : State} {m : MethodId} {below : List Frame} {meth : Method} {c : Code} {b L : Nat} {xs : Nat → Int32} {D : va_G} {tb : g_T} {ad : g_Ad} {k : Nat} {P : g_P} {M : g_M} {H : Heap} {locs : List Loc} {ls : Array Slot} {Q : State → Prop} (C0 : lw_At p s m meth c b L xs) (hL : L ≤ 2048) (hC : g_C D tb ad (fun q => s.heap.size ≤ q) s) (hk : 4 * k + 4 ≤ L) (h : z_Rc P M (k : Int)) (hI : g_I D tb ad (fun q => s.heap.size ≤ q) s H locs P M) (hl : lv_has ls 4 [(3, .int (nI (4 * k))), (2, .ref (ad 7 0)), (1, .ref (ad 6 0)), (0, .ref b)]) (K : ∀ (P1 : g_P) (M2 : g_M) (H1 : Heap) (locs1 : List Loc), z_Rc P1 M2 ((k : Int) + 1) → g_I D tb ad (fun q => s.heap.size ≤ q) s H1 locs1 P1 M2 → W p l e room_1 s m #[Value.ref b] below meth c H1 locs1 600000 7302250 Q (F0 m 890 ls [])) : W p l e room_1 s m #[Value.ref b] below meth c H locs 600000 7302250 Q (F0 m 261 ls []) := by
  obtain ⟨hx, hb, hr, hml, hown, hts0, hX, hbl, hlocks, hgv⟩ := C0
  have hts := g_of_tbl hts0
  have hbA : ¬ (fun q => s.heap.size ≤ q) b := Nat.not_le.mpr hbl
  obtain ⟨fr, P1, M1, M2, c1, c2, hR⟩ := L_hand (l := l) (D := D) (tb := tb) (ad := ad) hC.2.2.2.1 h (by omega) (by omega) (xs (nI (4 * k + 1)).toNatClampNeg) (xs (nI (4 * k + 2)).toNatClampNeg)
  refine lv_aload_n hx hb dL_law_261 rfl (lv_at hl 2 rfl) ?_
  refine lv_aload_n hx hb dL_law_262 rfl (lv_at hl 3 rfl) ?_
  refine lv_iload_n hx hb dL_law_263 rfl (lv_at hl 0 rfl) ?_
  refine lv_iconst (v := 1) hx hb dL_law_264 (by decide) ?_
  refine lv_iadd hx hb dL_law_265 ?_
  refine g_te (y := nI (4 * k + 1)) (nI_add (4 * k) 1) ?_
  refine va_sld hx hb hX hbl hbA hI.2 (vp_in_nI (show 4 * k + 1 < L by omega) (by omega)) dL_law_266 ?_
  refine lv_aload_n hx hb dL_law_267 rfl (lv_at hl 3 rfl) ?_
  refine lv_iload_n hx hb dL_law_268 rfl (lv_at hl 0 rfl) ?_
  refine lv_iconst (v := 2) hx hb dL_law_269 (by decide) ?_
  refine lv_iadd hx hb dL_law_270 ?_
  refine g_te (y := nI (4 * k + 2)) (nI_add (4 * k) 2) ?_
  refine va_sld hx hb hX hbl hbA hI.2 (vp_in_nI (show 4 * k + 2 < L by omega) (by omega)) dL_law_271 ?_
  refine g_callVi (As := [.int (xs (nI (4 * k + 1)).toNatClampNeg), .int (xs (nI (4 * k + 2)).toNatClampNeg)]) (rest := []) c1 rfl rfl gm_X4_hand hx hb hml hown hts hC hI (by decide) (e_gr rfl) rfl rfl qm_L_27 rfl hl.1 rfl ⟨rfl, rfl, by decide, by decide⟩ (Nat.le_of_ble_eq_true rfl) ⟨Nat.le_refl _, Nat.le_refl _⟩ dL_law_272 (fun H locs hI => ?_)
  refine lv_aload_n hx hb dL_law_275 rfl (lv_at hl 1 rfl) ?_
  refine lv_aload_n hx hb dL_law_276 rfl (lv_at hl 3 rfl) ?_
  refine lv_iload_n hx hb dL_law_277 rfl (lv_at hl 0 rfl) ?_
  refine lv_iconst (v := 1) hx hb dL_law_278 (by decide) ?_
  refine lv_iadd hx hb dL_law_279 ?_
  refine g_te (y := nI (4 * k + 1)) (nI_add (4 * k) 1) ?_
  refine va_sld hx hb hX hbl hbA hI.2 (vp_in_nI (show 4 * k + 1 < L by omega) (by omega)) dL_law_280 ?_
  refine lv_aload_n hx hb dL_law_281 rfl (lv_at hl 3 rfl) ?_
  refine lv_iload_n hx hb dL_law_282 rfl (lv_at hl 0 rfl) ?_
  refine lv_iconst (v := 2) hx hb dL_law_283 (by decide) ?_
  refine lv_iadd hx hb dL_law_284 ?_
  refine g_te (y := nI (4 * k + 2)) (nI_add (4 * k) 2) ?_
  refine va_sld hx hb hX hbl hbA hI.2 (vp_in_nI (show 4 * k + 2 < L by omega) (by omega)) dL_law_285 ?_
  refine g_callVi (As := [.int (xs (nI (4 * k + 1)).toNatClampNeg), .int (xs (nI (4 * k + 2)).toNatClampNeg)]) (rest := [.int fr]) c2 rfl rfl gm_X5_hand hx hb hml hown hts hC hI (by decide) (e_x rfl) rfl rfl qm_L_30 rfl hl.1 rfl ⟨rfl, rfl, by decide, by decide⟩ (Nat.le_of_ble_eq_true rfl) ⟨Nat.le_refl _, Nat.le_refl _⟩ dL_law_286 (fun H locs hI => ?_)
  exact lv_icmp_eq (tgt := 890) hx hb dL_law_289 (by decide) (fun _ => K P1 M2 H locs hR hI) (fun z => absurd rfl z)
set_option maxHeartbeats 4000000 in
set_option maxRecDepth 100000 in
theorem w_case_deliver {p : Program} {l : Launch} {e : Env} {s : State} {m : MethodId} {below : List Frame} {meth : Method} {c : Code} {b L : Nat} {xs : Nat → Int32} {D : va_G} {tb : g_T} {ad : g_Ad} {k : Nat} {P : g_P} {M : g_M} {H : Heap} {locs : List Loc} {ls : Array Slot} {Q : State → Prop} (C0 : lw_At p s m meth c b L xs) (hL : L ≤ 2048) (hC : g_C D tb ad (fun q => s.heap.size ≤ q) s) (hk : 4 * k + 4 ≤ L) (h : z_Rc P M (k : Int)) (hI : g_I D tb ad (fun q => s.heap.size ≤ q) s H locs P M) (hl : lv_has ls 4 [(3, .int (nI (4 * k))), (2, .ref (ad 7 0)), (1, .ref (ad 6 0)), (0, .ref b)]) (K : ∀ (P1 : g_P) (M2 : g_M) (H1 : Heap) (locs1 : List Loc), z_Rc P1 M2 ((k : Int) + 1) → g_I D tb ad (fun q => s.heap.size ≤ q) s H1 locs1 P1 M2 → W p l e room_1 s m #[Value.ref b] below meth c H1 locs1 600000 7302250 Q (F0 m 890 ls [])) : W p l e room_1 s m #[Value.ref b] below meth c H locs 600000 7302250 Q (F0 m 294 ls []) := by
  obtain ⟨hx, hb, hr, hml, hown, hts0, hX, hbl, hlocks, hgv⟩ := C0
  have hts := g_of_tbl hts0
  have hbA : ¬ (fun q => s.heap.size ≤ q) b := Nat.not_le.mpr hbl
  obtain ⟨fr, P1, M1, M2, c1, c2, hR⟩ := L_deliver (l := l) (D := D) (tb := tb) (ad := ad) hC.2.2.2.1 h (by omega) (by omega) (xs (nI (4 * k + 1)).toNatClampNeg)
  refine lv_aload_n hx hb dL_law_294 rfl (lv_at hl 2 rfl) ?_
  refine lv_aload_n hx hb dL_law_295 rfl (lv_at hl 3 rfl) ?_
  refine lv_iload_n hx hb dL_law_296 rfl (lv_at hl 0 rfl) ?_
  refine lv_iconst (v := 1) hx hb dL_law_297 (by decide) ?_
  refine lv_iadd hx hb dL_law_298 ?_
  refine g_te (y := nI (4 * k + 1)) (nI_add (4 * k) 1) ?_
  refine va_sld hx hb hX hbl hbA hI.2 (vp_in_nI (show 4 * k + 1 < L by omega) (by omega)) dL_law_299 ?_
  refine g_callVi (As := [.int (xs (nI (4 * k + 1)).toNatClampNeg)]) (rest := []) c1 rfl rfl gm_X4_deliver hx hb hml hown hts hC hI (by decide) (e_gr rfl) rfl rfl qm_L_31 rfl hl.1 rfl ⟨rfl, rfl, by decide, by decide⟩ (Nat.le_of_ble_eq_true rfl) ⟨Nat.le_refl _, Nat.le_refl _⟩ dL_law_300 (fun H locs hI => ?_)
  refine lv_aload_n hx hb dL_law_303 rfl (lv_at hl 1 rfl) ?_
  refine lv_aload_n hx hb dL_law_304 rfl (lv_at hl 3 rfl) ?_
  refine lv_iload_n hx hb dL_law_305 rfl (lv_at hl 0 rfl) ?_
  refine lv_iconst (v := 1) hx hb dL_law_306 (by decide) ?_
  refine lv_iadd hx hb dL_law_307 ?_
  refine g_te (y := nI (4 * k + 1)) (nI_add (4 * k) 1) ?_
  refine va_sld hx hb hX hbl hbA hI.2 (vp_in_nI (show 4 * k + 1 < L by omega) (by omega)) dL_law_308 ?_
  refine g_callVi (As := [.int (xs (nI (4 * k + 1)).toNatClampNeg)]) (rest := [.int fr]) c2 rfl rfl gm_X5_deliver hx hb hml hown hts hC hI (by decide) (e_x rfl) rfl rfl qm_L_35 rfl hl.1 rfl ⟨rfl, rfl, by decide, by decide⟩ (Nat.le_of_ble_eq_true rfl) ⟨Nat.le_refl _, Nat.le_refl _⟩ dL_law_309 (fun H locs hI => ?_)
  exact lv_icmp_eq (tgt := 890) hx hb dL_law_312 (by decide) (fun _ => K P1 M2 H locs hR hI) (fun z => absurd rfl z)
set_option maxHeartbeats 4000000 in
set_option maxRecDepth 100000 in
theorem w_case_pledge {p : Program} {l : Launch} {e : Env} {s : State} {m : MethodId} {below : List Frame} {meth : Method} {c : Code} {b L : Nat} {xs : Nat → Int32} {D : va_G} {tb : g_T} {ad : g_Ad} {k : Nat} {P : g_P} {M : g_M} {H : Heap} {locs : List Loc} {ls : Array Slot} {Q : State → Prop} (C0 : lw_At p s m meth c b L xs) (hL : L ≤ 2048) (hC : g_C D tb ad (fun q => s.heap.size ≤ q) s) (hk : 4 * k + 4 ≤ L) (h : z_Rc P M (k : Int)) (hI : g_I D tb ad (fun q => s.heap.size ≤ q) s H locs P M) (hl : lv_has ls 4 [(3, .int (nI (4 * k))), (2, .ref (ad 7 0)), (1, .ref (ad 6 0)), (0, .ref b)]) (K : ∀ (P1 : g_P) (M2 : g_M) (H1 : Heap) (locs1 : List Loc), z_Rc P1 M2 ((k : Int) + 1) → g_I D tb ad (fun q => s.heap.size ≤ q) s H1 locs1 P1 M2 → W p l e room_1 s m #[Value.ref b] below meth c H1 locs1 600000 7302250 Q (F0 m 890 ls [])) : W p l e room_1 s m #[Value.ref b] below meth c H locs 600000 7302250 Q (F0 m 317 ls []) := by
  obtain ⟨hx, hb, hr, hml, hown, hts0, hX, hbl, hlocks, hgv⟩ := C0
  have hts := g_of_tbl hts0
  have hbA : ¬ (fun q => s.heap.size ≤ q) b := Nat.not_le.mpr hbl
  obtain ⟨fr, P1, M1, M2, c1, c2, hR⟩ := L_pledge (l := l) (D := D) (tb := tb) (ad := ad) hC.2.2.2.1 h (by omega) (by omega) (xs (nI (4 * k + 1)).toNatClampNeg) (xs (nI (4 * k + 2)).toNatClampNeg) (xs (nI (4 * k + 3)).toNatClampNeg)
  refine lv_aload_n hx hb dL_law_317 rfl (lv_at hl 2 rfl) ?_
  refine lv_aload_n hx hb dL_law_318 rfl (lv_at hl 3 rfl) ?_
  refine lv_iload_n hx hb dL_law_319 rfl (lv_at hl 0 rfl) ?_
  refine lv_iconst (v := 1) hx hb dL_law_320 (by decide) ?_
  refine lv_iadd hx hb dL_law_321 ?_
  refine g_te (y := nI (4 * k + 1)) (nI_add (4 * k) 1) ?_
  refine va_sld hx hb hX hbl hbA hI.2 (vp_in_nI (show 4 * k + 1 < L by omega) (by omega)) dL_law_322 ?_
  refine lv_aload_n hx hb dL_law_323 rfl (lv_at hl 3 rfl) ?_
  refine lv_iload_n hx hb dL_law_324 rfl (lv_at hl 0 rfl) ?_
  refine lv_iconst (v := 2) hx hb dL_law_325 (by decide) ?_
  refine lv_iadd hx hb dL_law_326 ?_
  refine g_te (y := nI (4 * k + 2)) (nI_add (4 * k) 2) ?_
  refine va_sld hx hb hX hbl hbA hI.2 (vp_in_nI (show 4 * k + 2 < L by omega) (by omega)) dL_law_327 ?_
  refine lv_aload_n hx hb dL_law_328 rfl (lv_at hl 3 rfl) ?_
  refine lv_iload_n hx hb dL_law_329 rfl (lv_at hl 0 rfl) ?_
  refine lv_iconst (v := 3) hx hb dL_law_330 (by decide) ?_
  refine lv_iadd hx hb dL_law_331 ?_
  refine g_te (y := nI (4 * k + 3)) (nI_add (4 * k) 3) ?_
  refine va_sld hx hb hX hbl hbA hI.2 (vp_in_nI (show 4 * k + 3 < L by omega) (by omega)) dL_law_332 ?_
  refine g_callVi (As := [.int (xs (nI (4 * k + 1)).toNatClampNeg), .int (xs (nI (4 * k + 2)).toNatClampNeg), .int (xs (nI (4 * k + 3)).toNatClampNeg)]) (rest := []) c1 rfl rfl gm_X4_pledge hx hb hml hown hts hC hI (by decide) (e_gr rfl) rfl rfl qm_L_36 rfl hl.1 rfl ⟨rfl, rfl, by decide, by decide⟩ (Nat.le_of_ble_eq_true rfl) ⟨Nat.le_refl _, Nat.le_refl _⟩ dL_law_333 (fun H locs hI => ?_)
  refine lv_aload_n hx hb dL_law_336 rfl (lv_at hl 1 rfl) ?_
  refine lv_aload_n hx hb dL_law_337 rfl (lv_at hl 3 rfl) ?_
  refine lv_iload_n hx hb dL_law_338 rfl (lv_at hl 0 rfl) ?_
  refine lv_iconst (v := 1) hx hb dL_law_339 (by decide) ?_
  refine lv_iadd hx hb dL_law_340 ?_
  refine g_te (y := nI (4 * k + 1)) (nI_add (4 * k) 1) ?_
  refine va_sld hx hb hX hbl hbA hI.2 (vp_in_nI (show 4 * k + 1 < L by omega) (by omega)) dL_law_341 ?_
  refine lv_aload_n hx hb dL_law_342 rfl (lv_at hl 3 rfl) ?_
  refine lv_iload_n hx hb dL_law_343 rfl (lv_at hl 0 rfl) ?_
  refine lv_iconst (v := 2) hx hb dL_law_344 (by decide) ?_
  refine lv_iadd hx hb dL_law_345 ?_
  refine g_te (y := nI (4 * k + 2)) (nI_add (4 * k) 2) ?_
  refine va_sld hx hb hX hbl hbA hI.2 (vp_in_nI (show 4 * k + 2 < L by omega) (by omega)) dL_law_346 ?_
  refine lv_aload_n hx hb dL_law_347 rfl (lv_at hl 3 rfl) ?_
  refine lv_iload_n hx hb dL_law_348 rfl (lv_at hl 0 rfl) ?_
  refine lv_iconst (v := 3) hx hb dL_law_349 (by decide) ?_
  refine lv_iadd hx hb dL_law_350 ?_
  refine g_te (y := nI (4 * k + 3)) (nI_add (4 * k) 3) ?_
  refine va_sld hx hb hX hbl hbA hI.2 (vp_in_nI (show 4 * k + 3 < L by omega) (by omega)) dL_law_351 ?_
  refine g_callVi (As := [.int (xs (nI (4 * k + 1)).toNatClampNeg), .int (xs (nI (4 * k + 2)).toNatClampNeg), .int (xs (nI (4 * k + 3)).toNatClampNeg)]) (rest := [.int fr]) c2 rfl rfl gm_X5_pledge hx hb hml hown hts hC hI (by decide) (e_x rfl) rfl rfl qm_L_39 rfl hl.1 rfl ⟨rfl, rfl, by decide, by decide⟩ (Nat.le_of_ble_eq_true rfl) ⟨Nat.le_refl _, Nat.le_refl _⟩ dL_law_352 (fun H locs hI => ?_)
  exact lv_icmp_eq (tgt := 890) hx hb dL_law_355 (by decide) (fun _ => K P1 M2 H locs hR hI) (fun z => absurd rfl z)
set_option maxHeartbeats 4000000 in
set_option maxRecDepth 100000 in
theorem w_case_repay {p : Program} {l : Launch} {e : Env} {s : State} {m : MethodId} {below : List Frame} {meth : Method} {c : Code} {b L : Nat} {xs : Nat → Int32} {D : va_G} {tb : g_T} {ad : g_Ad} {k : Nat} {P : g_P} {M : g_M} {H : Heap} {locs : List Loc} {ls : Array Slot} {Q : State → Prop} (C0 : lw_At p s m meth c b L xs) (hL : L ≤ 2048) (hC : g_C D tb ad (fun q => s.heap.size ≤ q) s) (hk : 4 * k + 4 ≤ L) (h : z_Rc P M (k : Int)) (hI : g_I D tb ad (fun q => s.heap.size ≤ q) s H locs P M) (hl : lv_has ls 4 [(3, .int (nI (4 * k))), (2, .ref (ad 7 0)), (1, .ref (ad 6 0)), (0, .ref b)]) (K : ∀ (P1 : g_P) (M2 : g_M) (H1 : Heap) (locs1 : List Loc), z_Rc P1 M2 ((k : Int) + 1) → g_I D tb ad (fun q => s.heap.size ≤ q) s H1 locs1 P1 M2 → W p l e room_1 s m #[Value.ref b] below meth c H1 locs1 600000 7302250 Q (F0 m 890 ls [])) : W p l e room_1 s m #[Value.ref b] below meth c H locs 600000 7302250 Q (F0 m 360 ls []) := by
  obtain ⟨hx, hb, hr, hml, hown, hts0, hX, hbl, hlocks, hgv⟩ := C0
  have hts := g_of_tbl hts0
  have hbA : ¬ (fun q => s.heap.size ≤ q) b := Nat.not_le.mpr hbl
  obtain ⟨fr, P1, M1, M2, c1, c2, hR⟩ := L_repay (l := l) (D := D) (tb := tb) (ad := ad) hC.2.2.2.1 h (by omega) (by omega) (xs (nI (4 * k + 1)).toNatClampNeg) (xs (nI (4 * k + 2)).toNatClampNeg)
  refine lv_aload_n hx hb dL_law_360 rfl (lv_at hl 2 rfl) ?_
  refine lv_aload_n hx hb dL_law_361 rfl (lv_at hl 3 rfl) ?_
  refine lv_iload_n hx hb dL_law_362 rfl (lv_at hl 0 rfl) ?_
  refine lv_iconst (v := 1) hx hb dL_law_363 (by decide) ?_
  refine lv_iadd hx hb dL_law_364 ?_
  refine g_te (y := nI (4 * k + 1)) (nI_add (4 * k) 1) ?_
  refine va_sld hx hb hX hbl hbA hI.2 (vp_in_nI (show 4 * k + 1 < L by omega) (by omega)) dL_law_365 ?_
  refine lv_aload_n hx hb dL_law_366 rfl (lv_at hl 3 rfl) ?_
  refine lv_iload_n hx hb dL_law_367 rfl (lv_at hl 0 rfl) ?_
  refine lv_iconst (v := 2) hx hb dL_law_368 (by decide) ?_
  refine lv_iadd hx hb dL_law_369 ?_
  refine g_te (y := nI (4 * k + 2)) (nI_add (4 * k) 2) ?_
  refine va_sld hx hb hX hbl hbA hI.2 (vp_in_nI (show 4 * k + 2 < L by omega) (by omega)) dL_law_370 ?_
  refine g_callVi (As := [.int (xs (nI (4 * k + 1)).toNatClampNeg), .int (xs (nI (4 * k + 2)).toNatClampNeg)]) (rest := []) c1 rfl rfl gm_X4_repay hx hb hml hown hts hC hI (by decide) (e_gr rfl) rfl rfl qm_L_40 rfl hl.1 rfl ⟨rfl, rfl, by decide, by decide⟩ (Nat.le_of_ble_eq_true rfl) ⟨Nat.le_refl _, Nat.le_refl _⟩ dL_law_371 (fun H locs hI => ?_)
  refine lv_aload_n hx hb dL_law_374 rfl (lv_at hl 1 rfl) ?_
  refine lv_aload_n hx hb dL_law_375 rfl (lv_at hl 3 rfl) ?_
  refine lv_iload_n hx hb dL_law_376 rfl (lv_at hl 0 rfl) ?_
  refine lv_iconst (v := 1) hx hb dL_law_377 (by decide) ?_
  refine lv_iadd hx hb dL_law_378 ?_
  refine g_te (y := nI (4 * k + 1)) (nI_add (4 * k) 1) ?_
  refine va_sld hx hb hX hbl hbA hI.2 (vp_in_nI (show 4 * k + 1 < L by omega) (by omega)) dL_law_379 ?_
  refine lv_aload_n hx hb dL_law_380 rfl (lv_at hl 3 rfl) ?_
  refine lv_iload_n hx hb dL_law_381 rfl (lv_at hl 0 rfl) ?_
  refine lv_iconst (v := 2) hx hb dL_law_382 (by decide) ?_
  refine lv_iadd hx hb dL_law_383 ?_
  refine g_te (y := nI (4 * k + 2)) (nI_add (4 * k) 2) ?_
  refine va_sld hx hb hX hbl hbA hI.2 (vp_in_nI (show 4 * k + 2 < L by omega) (by omega)) dL_law_384 ?_
  refine g_callVi (As := [.int (xs (nI (4 * k + 1)).toNatClampNeg), .int (xs (nI (4 * k + 2)).toNatClampNeg)]) (rest := [.int fr]) c2 rfl rfl gm_X5_repay hx hb hml hown hts hC hI (by decide) (e_x rfl) rfl rfl qm_L_43 rfl hl.1 rfl ⟨rfl, rfl, by decide, by decide⟩ (Nat.le_of_ble_eq_true rfl) ⟨Nat.le_refl _, Nat.le_refl _⟩ dL_law_385 (fun H locs hI => ?_)
  exact lv_icmp_eq (tgt := 890) hx hb dL_law_388 (by decide) (fun _ => K P1 M2 H locs hR hI) (fun z => absurd rfl z)
set_option maxHeartbeats 4000000 in
set_option maxRecDepth 100000 in
theorem w_case_price {p : Program} {l : Launch} {e : Env} {s : State} {m : MethodId} {below : List Frame} {meth : Method} {c : Code} {b L : Nat} {xs : Nat → Int32} {D : va_G} {tb : g_T} {ad : g_Ad} {k : Nat} {P : g_P} {M : g_M} {H : Heap} {locs : List Loc} {ls : Array Slot} {Q : State → Prop} (C0 : lw_At p s m meth c b L xs) (hL : L ≤ 2048) (hC : g_C D tb ad (fun q => s.heap.size ≤ q) s) (hk : 4 * k + 4 ≤ L) (h : z_Rc P M (k : Int)) (hI : g_I D tb ad (fun q => s.heap.size ≤ q) s H locs P M) (hl : lv_has ls 4 [(3, .int (nI (4 * k))), (2, .ref (ad 7 0)), (1, .ref (ad 6 0)), (0, .ref b)]) (K : ∀ (P1 : g_P) (M2 : g_M) (H1 : Heap) (locs1 : List Loc), z_Rc P1 M2 ((k : Int) + 1) → g_I D tb ad (fun q => s.heap.size ≤ q) s H1 locs1 P1 M2 → W p l e room_1 s m #[Value.ref b] below meth c H1 locs1 600000 7302250 Q (F0 m 890 ls [])) : W p l e room_1 s m #[Value.ref b] below meth c H locs 600000 7302250 Q (F0 m 393 ls []) := by
  obtain ⟨hx, hb, hr, hml, hown, hts0, hX, hbl, hlocks, hgv⟩ := C0
  have hts := g_of_tbl hts0
  have hbA : ¬ (fun q => s.heap.size ≤ q) b := Nat.not_le.mpr hbl
  obtain ⟨fr, P1, M1, M2, c1, c2, hR⟩ := L_price (l := l) (D := D) (tb := tb) (ad := ad) hC.2.2.2.1 h (by omega) (by omega) (xs (nI (4 * k + 1)).toNatClampNeg) (xs (nI (4 * k + 2)).toNatClampNeg)
  refine lv_aload_n hx hb dL_law_393 rfl (lv_at hl 2 rfl) ?_
  refine lv_aload_n hx hb dL_law_394 rfl (lv_at hl 3 rfl) ?_
  refine lv_iload_n hx hb dL_law_395 rfl (lv_at hl 0 rfl) ?_
  refine lv_iconst (v := 1) hx hb dL_law_396 (by decide) ?_
  refine lv_iadd hx hb dL_law_397 ?_
  refine g_te (y := nI (4 * k + 1)) (nI_add (4 * k) 1) ?_
  refine va_sld hx hb hX hbl hbA hI.2 (vp_in_nI (show 4 * k + 1 < L by omega) (by omega)) dL_law_398 ?_
  refine lv_aload_n hx hb dL_law_399 rfl (lv_at hl 3 rfl) ?_
  refine lv_iload_n hx hb dL_law_400 rfl (lv_at hl 0 rfl) ?_
  refine lv_iconst (v := 2) hx hb dL_law_401 (by decide) ?_
  refine lv_iadd hx hb dL_law_402 ?_
  refine g_te (y := nI (4 * k + 2)) (nI_add (4 * k) 2) ?_
  refine va_sld hx hb hX hbl hbA hI.2 (vp_in_nI (show 4 * k + 2 < L by omega) (by omega)) dL_law_403 ?_
  refine g_callVi (As := [.int (xs (nI (4 * k + 1)).toNatClampNeg), .int (xs (nI (4 * k + 2)).toNatClampNeg)]) (rest := []) c1 rfl rfl gm_X4_price hx hb hml hown hts hC hI (by decide) (e_gr rfl) rfl rfl qm_L_44 rfl hl.1 rfl ⟨rfl, rfl, by decide, by decide⟩ (Nat.le_of_ble_eq_true rfl) ⟨Nat.le_refl _, Nat.le_refl _⟩ dL_law_404 (fun H locs hI => ?_)
  refine lv_aload_n hx hb dL_law_407 rfl (lv_at hl 1 rfl) ?_
  refine lv_aload_n hx hb dL_law_408 rfl (lv_at hl 3 rfl) ?_
  refine lv_iload_n hx hb dL_law_409 rfl (lv_at hl 0 rfl) ?_
  refine lv_iconst (v := 1) hx hb dL_law_410 (by decide) ?_
  refine lv_iadd hx hb dL_law_411 ?_
  refine g_te (y := nI (4 * k + 1)) (nI_add (4 * k) 1) ?_
  refine va_sld hx hb hX hbl hbA hI.2 (vp_in_nI (show 4 * k + 1 < L by omega) (by omega)) dL_law_412 ?_
  refine lv_aload_n hx hb dL_law_413 rfl (lv_at hl 3 rfl) ?_
  refine lv_iload_n hx hb dL_law_414 rfl (lv_at hl 0 rfl) ?_
  refine lv_iconst (v := 2) hx hb dL_law_415 (by decide) ?_
  refine lv_iadd hx hb dL_law_416 ?_
  refine g_te (y := nI (4 * k + 2)) (nI_add (4 * k) 2) ?_
  refine va_sld hx hb hX hbl hbA hI.2 (vp_in_nI (show 4 * k + 2 < L by omega) (by omega)) dL_law_417 ?_
  refine g_callVi (As := [.int (xs (nI (4 * k + 1)).toNatClampNeg), .int (xs (nI (4 * k + 2)).toNatClampNeg)]) (rest := [.int fr]) c2 rfl rfl gm_X5_price hx hb hml hown hts hC hI (by decide) (e_x rfl) rfl rfl qm_L_47 rfl hl.1 rfl ⟨rfl, rfl, by decide, by decide⟩ (Nat.le_of_ble_eq_true rfl) ⟨Nat.le_refl _, Nat.le_refl _⟩ dL_law_418 (fun H locs hI => ?_)
  exact lv_icmp_eq (tgt := 890) hx hb dL_law_421 (by decide) (fun _ => K P1 M2 H locs hR hI) (fun z => absurd rfl z)
set_option maxHeartbeats 4000000 in
set_option maxRecDepth 100000 in
theorem w_case_call {p : Program} {l : Launch} {e : Env} {s : State} {m : MethodId} {below : List Frame} {meth : Method} {c : Code} {b L : Nat} {xs : Nat → Int32} {D : va_G} {tb : g_T} {ad : g_Ad} {k : Nat} {P : g_P} {M : g_M} {H : Heap} {locs : List Loc} {ls : Array Slot} {Q : State → Prop} (C0 : lw_At p s m meth c b L xs) (hL : L ≤ 2048) (hC : g_C D tb ad (fun q => s.heap.size ≤ q) s) (hk : 4 * k + 4 ≤ L) (h : z_Rc P M (k : Int)) (hI : g_I D tb ad (fun q => s.heap.size ≤ q) s H locs P M) (hl : lv_has ls 4 [(3, .int (nI (4 * k))), (2, .ref (ad 7 0)), (1, .ref (ad 6 0)), (0, .ref b)]) (K : ∀ (P1 : g_P) (M2 : g_M) (H1 : Heap) (locs1 : List Loc), z_Rc P1 M2 ((k : Int) + 1) → g_I D tb ad (fun q => s.heap.size ≤ q) s H1 locs1 P1 M2 → W p l e room_1 s m #[Value.ref b] below meth c H1 locs1 600000 7302250 Q (F0 m 890 ls [])) : W p l e room_1 s m #[Value.ref b] below meth c H locs 600000 7302250 Q (F0 m 426 ls []) := by
  obtain ⟨hx, hb, hr, hml, hown, hts0, hX, hbl, hlocks, hgv⟩ := C0
  have hts := g_of_tbl hts0
  have hbA : ¬ (fun q => s.heap.size ≤ q) b := Nat.not_le.mpr hbl
  obtain ⟨fr, P1, M1, M2, c1, c2, hR⟩ := L_call (l := l) (D := D) (tb := tb) (ad := ad) hC.2.2.2.1 h (by omega) (by omega) (xs (nI (4 * k + 1)).toNatClampNeg)
  refine lv_aload_n hx hb dL_law_426 rfl (lv_at hl 2 rfl) ?_
  refine lv_aload_n hx hb dL_law_427 rfl (lv_at hl 3 rfl) ?_
  refine lv_iload_n hx hb dL_law_428 rfl (lv_at hl 0 rfl) ?_
  refine lv_iconst (v := 1) hx hb dL_law_429 (by decide) ?_
  refine lv_iadd hx hb dL_law_430 ?_
  refine g_te (y := nI (4 * k + 1)) (nI_add (4 * k) 1) ?_
  refine va_sld hx hb hX hbl hbA hI.2 (vp_in_nI (show 4 * k + 1 < L by omega) (by omega)) dL_law_431 ?_
  refine g_callVi (As := [.int (xs (nI (4 * k + 1)).toNatClampNeg)]) (rest := []) c1 rfl rfl gm_X4_call hx hb hml hown hts hC hI (by decide) (e_gr rfl) rfl rfl qm_L_48 rfl hl.1 rfl ⟨rfl, rfl, by decide, by decide⟩ (Nat.le_of_ble_eq_true rfl) ⟨Nat.le_refl _, Nat.le_refl _⟩ dL_law_432 (fun H locs hI => ?_)
  refine lv_aload_n hx hb dL_law_435 rfl (lv_at hl 1 rfl) ?_
  refine lv_aload_n hx hb dL_law_436 rfl (lv_at hl 3 rfl) ?_
  refine lv_iload_n hx hb dL_law_437 rfl (lv_at hl 0 rfl) ?_
  refine lv_iconst (v := 1) hx hb dL_law_438 (by decide) ?_
  refine lv_iadd hx hb dL_law_439 ?_
  refine g_te (y := nI (4 * k + 1)) (nI_add (4 * k) 1) ?_
  refine va_sld hx hb hX hbl hbA hI.2 (vp_in_nI (show 4 * k + 1 < L by omega) (by omega)) dL_law_440 ?_
  refine g_callVi (As := [.int (xs (nI (4 * k + 1)).toNatClampNeg)]) (rest := [.int fr]) c2 rfl rfl gm_X5_call hx hb hml hown hts hC hI (by decide) (e_x rfl) rfl rfl qm_L_51 rfl hl.1 rfl ⟨rfl, rfl, by decide, by decide⟩ (Nat.le_of_ble_eq_true rfl) ⟨Nat.le_refl _, Nat.le_refl _⟩ dL_law_441 (fun H locs hI => ?_)
  exact lv_icmp_eq (tgt := 890) hx hb dL_law_444 (by decide) (fun _ => K P1 M2 H locs hR hI) (fun z => absurd rfl z)
set_option maxHeartbeats 4000000 in
set_option maxRecDepth 100000 in
theorem w_case_pass {p : Program} {l : Launch} {e : Env} {s : State} {m : MethodId} {below : List Frame} {meth : Method} {c : Code} {b L : Nat} {xs : Nat → Int32} {D : va_G} {tb : g_T} {ad : g_Ad} {k : Nat} {P : g_P} {M : g_M} {H : Heap} {locs : List Loc} {ls : Array Slot} {Q : State → Prop} (C0 : lw_At p s m meth c b L xs) (hL : L ≤ 2048) (hC : g_C D tb ad (fun q => s.heap.size ≤ q) s) (hk : 4 * k + 4 ≤ L) (h : z_Rc P M (k : Int)) (hI : g_I D tb ad (fun q => s.heap.size ≤ q) s H locs P M) (hl : lv_has ls 4 [(3, .int (nI (4 * k))), (2, .ref (ad 7 0)), (1, .ref (ad 6 0)), (0, .ref b)]) (K : ∀ (P1 : g_P) (M2 : g_M) (H1 : Heap) (locs1 : List Loc), z_Rc P1 M2 ((k : Int) + 1) → g_I D tb ad (fun q => s.heap.size ≤ q) s H1 locs1 P1 M2 → W p l e room_1 s m #[Value.ref b] below meth c H1 locs1 600000 7302250 Q (F0 m 890 ls [])) : W p l e room_1 s m #[Value.ref b] below meth c H locs 600000 7302250 Q (F0 m 449 ls []) := by
  obtain ⟨hx, hb, hr, hml, hown, hts0, hX, hbl, hlocks, hgv⟩ := C0
  have hts := g_of_tbl hts0
  have hbA : ¬ (fun q => s.heap.size ≤ q) b := Nat.not_le.mpr hbl
  obtain ⟨fr, P1, M1, M2, c1, c2, hR⟩ := L_pass (l := l) (D := D) (tb := tb) (ad := ad) hC.2.2.2.1 h (by omega) (by omega) (xs (nI (4 * k + 1)).toNatClampNeg)
  refine lv_aload_n hx hb dL_law_449 rfl (lv_at hl 2 rfl) ?_
  refine lv_aload_n hx hb dL_law_450 rfl (lv_at hl 3 rfl) ?_
  refine lv_iload_n hx hb dL_law_451 rfl (lv_at hl 0 rfl) ?_
  refine lv_iconst (v := 1) hx hb dL_law_452 (by decide) ?_
  refine lv_iadd hx hb dL_law_453 ?_
  refine g_te (y := nI (4 * k + 1)) (nI_add (4 * k) 1) ?_
  refine va_sld hx hb hX hbl hbA hI.2 (vp_in_nI (show 4 * k + 1 < L by omega) (by omega)) dL_law_454 ?_
  refine g_callVi (As := [.int (xs (nI (4 * k + 1)).toNatClampNeg)]) (rest := []) c1 rfl rfl gm_X4_pass hx hb hml hown hts hC hI (by decide) (e_gr rfl) rfl rfl qm_L_52 rfl hl.1 rfl ⟨rfl, rfl, by decide, by decide⟩ (Nat.le_of_ble_eq_true rfl) ⟨Nat.le_refl _, Nat.le_refl _⟩ dL_law_455 (fun H locs hI => ?_)
  refine lv_aload_n hx hb dL_law_458 rfl (lv_at hl 1 rfl) ?_
  refine lv_aload_n hx hb dL_law_459 rfl (lv_at hl 3 rfl) ?_
  refine lv_iload_n hx hb dL_law_460 rfl (lv_at hl 0 rfl) ?_
  refine lv_iconst (v := 1) hx hb dL_law_461 (by decide) ?_
  refine lv_iadd hx hb dL_law_462 ?_
  refine g_te (y := nI (4 * k + 1)) (nI_add (4 * k) 1) ?_
  refine va_sld hx hb hX hbl hbA hI.2 (vp_in_nI (show 4 * k + 1 < L by omega) (by omega)) dL_law_463 ?_
  refine g_callVi (As := [.int (xs (nI (4 * k + 1)).toNatClampNeg)]) (rest := [.int fr]) c2 rfl rfl gm_X5_pass hx hb hml hown hts hC hI (by decide) (e_x rfl) rfl rfl qm_L_55 rfl hl.1 rfl ⟨rfl, rfl, by decide, by decide⟩ (Nat.le_of_ble_eq_true rfl) ⟨Nat.le_refl _, Nat.le_refl _⟩ dL_law_464 (fun H locs hI => ?_)
  exact lv_icmp_eq (tgt := 890) hx hb dL_law_467 (by decide) (fun _ => K P1 M2 H locs hR hI) (fun z => absurd rfl z)
set_option maxHeartbeats 4000000 in
set_option maxRecDepth 100000 in
theorem w_case_lose {p : Program} {l : Launch} {e : Env} {s : State} {m : MethodId} {below : List Frame} {meth : Method} {c : Code} {b L : Nat} {xs : Nat → Int32} {D : va_G} {tb : g_T} {ad : g_Ad} {k : Nat} {P : g_P} {M : g_M} {H : Heap} {locs : List Loc} {ls : Array Slot} {Q : State → Prop} (C0 : lw_At p s m meth c b L xs) (hL : L ≤ 2048) (hC : g_C D tb ad (fun q => s.heap.size ≤ q) s) (hk : 4 * k + 4 ≤ L) (h : z_Rc P M (k : Int)) (hI : g_I D tb ad (fun q => s.heap.size ≤ q) s H locs P M) (hl : lv_has ls 4 [(3, .int (nI (4 * k))), (2, .ref (ad 7 0)), (1, .ref (ad 6 0)), (0, .ref b)]) (K : ∀ (P1 : g_P) (M2 : g_M) (H1 : Heap) (locs1 : List Loc), z_Rc P1 M2 ((k : Int) + 1) → g_I D tb ad (fun q => s.heap.size ≤ q) s H1 locs1 P1 M2 → W p l e room_1 s m #[Value.ref b] below meth c H1 locs1 600000 7302250 Q (F0 m 890 ls [])) : W p l e room_1 s m #[Value.ref b] below meth c H locs 600000 7302250 Q (F0 m 472 ls []) := by
  obtain ⟨hx, hb, hr, hml, hown, hts0, hX, hbl, hlocks, hgv⟩ := C0
  have hts := g_of_tbl hts0
  have hbA : ¬ (fun q => s.heap.size ≤ q) b := Nat.not_le.mpr hbl
  obtain ⟨fr, P1, M1, M2, c1, c2, hR⟩ := L_lose (l := l) (D := D) (tb := tb) (ad := ad) hC.2.2.2.1 h (by omega) (by omega) (xs (nI (4 * k + 1)).toNatClampNeg) (xs (nI (4 * k + 2)).toNatClampNeg)
  refine lv_aload_n hx hb dL_law_472 rfl (lv_at hl 2 rfl) ?_
  refine lv_aload_n hx hb dL_law_473 rfl (lv_at hl 3 rfl) ?_
  refine lv_iload_n hx hb dL_law_474 rfl (lv_at hl 0 rfl) ?_
  refine lv_iconst (v := 1) hx hb dL_law_475 (by decide) ?_
  refine lv_iadd hx hb dL_law_476 ?_
  refine g_te (y := nI (4 * k + 1)) (nI_add (4 * k) 1) ?_
  refine va_sld hx hb hX hbl hbA hI.2 (vp_in_nI (show 4 * k + 1 < L by omega) (by omega)) dL_law_477 ?_
  refine lv_aload_n hx hb dL_law_478 rfl (lv_at hl 3 rfl) ?_
  refine lv_iload_n hx hb dL_law_479 rfl (lv_at hl 0 rfl) ?_
  refine lv_iconst (v := 2) hx hb dL_law_480 (by decide) ?_
  refine lv_iadd hx hb dL_law_481 ?_
  refine g_te (y := nI (4 * k + 2)) (nI_add (4 * k) 2) ?_
  refine va_sld hx hb hX hbl hbA hI.2 (vp_in_nI (show 4 * k + 2 < L by omega) (by omega)) dL_law_482 ?_
  refine g_callVi (As := [.int (xs (nI (4 * k + 1)).toNatClampNeg), .int (xs (nI (4 * k + 2)).toNatClampNeg)]) (rest := []) c1 rfl rfl gm_X4_lose hx hb hml hown hts hC hI (by decide) (e_gr rfl) rfl rfl qm_L_56 rfl hl.1 rfl ⟨rfl, rfl, by decide, by decide⟩ (Nat.le_of_ble_eq_true rfl) ⟨Nat.le_refl _, Nat.le_refl _⟩ dL_law_483 (fun H locs hI => ?_)
  refine lv_aload_n hx hb dL_law_486 rfl (lv_at hl 1 rfl) ?_
  refine lv_aload_n hx hb dL_law_487 rfl (lv_at hl 3 rfl) ?_
  refine lv_iload_n hx hb dL_law_488 rfl (lv_at hl 0 rfl) ?_
  refine lv_iconst (v := 1) hx hb dL_law_489 (by decide) ?_
  refine lv_iadd hx hb dL_law_490 ?_
  refine g_te (y := nI (4 * k + 1)) (nI_add (4 * k) 1) ?_
  refine va_sld hx hb hX hbl hbA hI.2 (vp_in_nI (show 4 * k + 1 < L by omega) (by omega)) dL_law_491 ?_
  refine lv_aload_n hx hb dL_law_492 rfl (lv_at hl 3 rfl) ?_
  refine lv_iload_n hx hb dL_law_493 rfl (lv_at hl 0 rfl) ?_
  refine lv_iconst (v := 2) hx hb dL_law_494 (by decide) ?_
  refine lv_iadd hx hb dL_law_495 ?_
  refine g_te (y := nI (4 * k + 2)) (nI_add (4 * k) 2) ?_
  refine va_sld hx hb hX hbl hbA hI.2 (vp_in_nI (show 4 * k + 2 < L by omega) (by omega)) dL_law_496 ?_
  refine g_callVi (As := [.int (xs (nI (4 * k + 1)).toNatClampNeg), .int (xs (nI (4 * k + 2)).toNatClampNeg)]) (rest := [.int fr]) c2 rfl rfl gm_X5_lose hx hb hml hown hts hC hI (by decide) (e_x rfl) rfl rfl qm_L_59 rfl hl.1 rfl ⟨rfl, rfl, by decide, by decide⟩ (Nat.le_of_ble_eq_true rfl) ⟨Nat.le_refl _, Nat.le_refl _⟩ dL_law_497 (fun H locs hI => ?_)
  exact lv_icmp_eq (tgt := 890) hx hb dL_law_500 (by decide) (fun _ => K P1 M2 H locs hR hI) (fun z => absurd rfl z)
set_option maxHeartbeats 4000000 in
set_option maxRecDepth 100000 in
theorem w_case_regrade {p : Program} {l : Launch} {e : Env} {s : State} {m : MethodId} {below : List Frame} {meth : Method} {c : Code} {b L : Nat} {xs : Nat → Int32} {D : va_G} {tb : g_T} {ad : g_Ad} {k : Nat} {P : g_P} {M : g_M} {H : Heap} {locs : List Loc} {ls : Array Slot} {Q : State → Prop} (C0 : lw_At p s m meth c b L xs) (hL : L ≤ 2048) (hC : g_C D tb ad (fun q => s.heap.size ≤ q) s) (hk : 4 * k + 4 ≤ L) (h : z_Rc P M (k : Int)) (hI : g_I D tb ad (fun q => s.heap.size ≤ q) s H locs P M) (hl : lv_has ls 4 [(3, .int (nI (4 * k))), (2, .ref (ad 7 0)), (1, .ref (ad 6 0)), (0, .ref b)]) (K : ∀ (P1 : g_P) (M2 : g_M) (H1 : Heap) (locs1 : List Loc), z_Rc P1 M2 ((k : Int) + 1) → g_I D tb ad (fun q => s.heap.size ≤ q) s H1 locs1 P1 M2 → W p l e room_1 s m #[Value.ref b] below meth c H1 locs1 600000 7302250 Q (F0 m 890 ls [])) : W p l e room_1 s m #[Value.ref b] below meth c H locs 600000 7302250 Q (F0 m 505 ls []) := by
  obtain ⟨hx, hb, hr, hml, hown, hts0, hX, hbl, hlocks, hgv⟩ := C0
  have hts := g_of_tbl hts0
  have hbA : ¬ (fun q => s.heap.size ≤ q) b := Nat.not_le.mpr hbl
  obtain ⟨fr, P1, M1, M2, c1, c2, hR⟩ := L_regrade (l := l) (D := D) (tb := tb) (ad := ad) hC.2.2.2.1 h (by omega) (by omega) (xs (nI (4 * k + 1)).toNatClampNeg) (xs (nI (4 * k + 2)).toNatClampNeg)
  refine lv_aload_n hx hb dL_law_505 rfl (lv_at hl 2 rfl) ?_
  refine lv_aload_n hx hb dL_law_506 rfl (lv_at hl 3 rfl) ?_
  refine lv_iload_n hx hb dL_law_507 rfl (lv_at hl 0 rfl) ?_
  refine lv_iconst (v := 1) hx hb dL_law_508 (by decide) ?_
  refine lv_iadd hx hb dL_law_509 ?_
  refine g_te (y := nI (4 * k + 1)) (nI_add (4 * k) 1) ?_
  refine va_sld hx hb hX hbl hbA hI.2 (vp_in_nI (show 4 * k + 1 < L by omega) (by omega)) dL_law_510 ?_
  refine lv_aload_n hx hb dL_law_511 rfl (lv_at hl 3 rfl) ?_
  refine lv_iload_n hx hb dL_law_512 rfl (lv_at hl 0 rfl) ?_
  refine lv_iconst (v := 2) hx hb dL_law_513 (by decide) ?_
  refine lv_iadd hx hb dL_law_514 ?_
  refine g_te (y := nI (4 * k + 2)) (nI_add (4 * k) 2) ?_
  refine va_sld hx hb hX hbl hbA hI.2 (vp_in_nI (show 4 * k + 2 < L by omega) (by omega)) dL_law_515 ?_
  refine g_callVi (As := [.int (xs (nI (4 * k + 1)).toNatClampNeg), .int (xs (nI (4 * k + 2)).toNatClampNeg)]) (rest := []) c1 rfl rfl gm_X4_regrade hx hb hml hown hts hC hI (by decide) (e_gr rfl) rfl rfl qm_L_60 rfl hl.1 rfl ⟨rfl, rfl, by decide, by decide⟩ (Nat.le_of_ble_eq_true rfl) ⟨Nat.le_refl _, Nat.le_refl _⟩ dL_law_516 (fun H locs hI => ?_)
  refine lv_aload_n hx hb dL_law_519 rfl (lv_at hl 1 rfl) ?_
  refine lv_aload_n hx hb dL_law_520 rfl (lv_at hl 3 rfl) ?_
  refine lv_iload_n hx hb dL_law_521 rfl (lv_at hl 0 rfl) ?_
  refine lv_iconst (v := 1) hx hb dL_law_522 (by decide) ?_
  refine lv_iadd hx hb dL_law_523 ?_
  refine g_te (y := nI (4 * k + 1)) (nI_add (4 * k) 1) ?_
  refine va_sld hx hb hX hbl hbA hI.2 (vp_in_nI (show 4 * k + 1 < L by omega) (by omega)) dL_law_524 ?_
  refine lv_aload_n hx hb dL_law_525 rfl (lv_at hl 3 rfl) ?_
  refine lv_iload_n hx hb dL_law_526 rfl (lv_at hl 0 rfl) ?_
  refine lv_iconst (v := 2) hx hb dL_law_527 (by decide) ?_
  refine lv_iadd hx hb dL_law_528 ?_
  refine g_te (y := nI (4 * k + 2)) (nI_add (4 * k) 2) ?_
  refine va_sld hx hb hX hbl hbA hI.2 (vp_in_nI (show 4 * k + 2 < L by omega) (by omega)) dL_law_529 ?_
  refine g_callVi (As := [.int (xs (nI (4 * k + 1)).toNatClampNeg), .int (xs (nI (4 * k + 2)).toNatClampNeg)]) (rest := [.int fr]) c2 rfl rfl gm_X5_regrade hx hb hml hown hts hC hI (by decide) (e_x rfl) rfl rfl qm_L_63 rfl hl.1 rfl ⟨rfl, rfl, by decide, by decide⟩ (Nat.le_of_ble_eq_true rfl) ⟨Nat.le_refl _, Nat.le_refl _⟩ dL_law_530 (fun H locs hI => ?_)
  exact lv_icmp_eq (tgt := 890) hx hb dL_law_533 (by decide) (fun _ => K P1 M2 H locs hR hI) (fun z => absurd rfl z)
set_option maxHeartbeats 4000000 in
set_option maxRecDepth 100000 in
theorem w_case_set {p : Program} {l : Launch} {e : Env} {s : State} {m : MethodId} {below : List Frame} {meth : Method} {c : Code} {b L : Nat} {xs : Nat → Int32} {D : va_G} {tb : g_T} {ad : g_Ad} {k : Nat} {P : g_P} {M : g_M} {H : Heap} {locs : List Loc} {ls : Array Slot} {Q : State → Prop} (C0 : lw_At p s m meth c b L xs) (hL : L ≤ 2048) (hC : g_C D tb ad (fun q => s.heap.size ≤ q) s) (hk : 4 * k + 4 ≤ L) (h : z_Rc P M (k : Int)) (hI : g_I D tb ad (fun q => s.heap.size ≤ q) s H locs P M) (hl : lv_has ls 4 [(3, .int (nI (4 * k))), (2, .ref (ad 7 0)), (1, .ref (ad 6 0)), (0, .ref b)]) (K : ∀ (P1 : g_P) (M2 : g_M) (H1 : Heap) (locs1 : List Loc), z_Rc P1 M2 ((k : Int) + 1) → g_I D tb ad (fun q => s.heap.size ≤ q) s H1 locs1 P1 M2 → W p l e room_1 s m #[Value.ref b] below meth c H1 locs1 600000 7302250 Q (F0 m 890 ls [])) : W p l e room_1 s m #[Value.ref b] below meth c H locs 600000 7302250 Q (F0 m 538 ls []) := by
  obtain ⟨hx, hb, hr, hml, hown, hts0, hX, hbl, hlocks, hgv⟩ := C0
  have hts := g_of_tbl hts0
  have hbA : ¬ (fun q => s.heap.size ≤ q) b := Nat.not_le.mpr hbl
  obtain ⟨fr, P1, M1, M2, c1, c2, hR⟩ := L_set (l := l) (D := D) (tb := tb) (ad := ad) hC.2.2.2.1 h (by omega) (by omega) (xs (nI (4 * k + 1)).toNatClampNeg) (xs (nI (4 * k + 2)).toNatClampNeg)
  refine lv_aload_n hx hb dL_law_538 rfl (lv_at hl 2 rfl) ?_
  refine lv_aload_n hx hb dL_law_539 rfl (lv_at hl 3 rfl) ?_
  refine lv_iload_n hx hb dL_law_540 rfl (lv_at hl 0 rfl) ?_
  refine lv_iconst (v := 1) hx hb dL_law_541 (by decide) ?_
  refine lv_iadd hx hb dL_law_542 ?_
  refine g_te (y := nI (4 * k + 1)) (nI_add (4 * k) 1) ?_
  refine va_sld hx hb hX hbl hbA hI.2 (vp_in_nI (show 4 * k + 1 < L by omega) (by omega)) dL_law_543 ?_
  refine lv_aload_n hx hb dL_law_544 rfl (lv_at hl 3 rfl) ?_
  refine lv_iload_n hx hb dL_law_545 rfl (lv_at hl 0 rfl) ?_
  refine lv_iconst (v := 2) hx hb dL_law_546 (by decide) ?_
  refine lv_iadd hx hb dL_law_547 ?_
  refine g_te (y := nI (4 * k + 2)) (nI_add (4 * k) 2) ?_
  refine va_sld hx hb hX hbl hbA hI.2 (vp_in_nI (show 4 * k + 2 < L by omega) (by omega)) dL_law_548 ?_
  refine g_callVi (As := [.int (xs (nI (4 * k + 1)).toNatClampNeg), .int (xs (nI (4 * k + 2)).toNatClampNeg)]) (rest := []) c1 rfl rfl gm_X4_set hx hb hml hown hts hC hI (by decide) (e_gr rfl) rfl rfl qm_L_64 rfl hl.1 rfl ⟨rfl, rfl, by decide, by decide⟩ (Nat.le_of_ble_eq_true rfl) ⟨Nat.le_refl _, Nat.le_refl _⟩ dL_law_549 (fun H locs hI => ?_)
  refine lv_aload_n hx hb dL_law_552 rfl (lv_at hl 1 rfl) ?_
  refine lv_aload_n hx hb dL_law_553 rfl (lv_at hl 3 rfl) ?_
  refine lv_iload_n hx hb dL_law_554 rfl (lv_at hl 0 rfl) ?_
  refine lv_iconst (v := 1) hx hb dL_law_555 (by decide) ?_
  refine lv_iadd hx hb dL_law_556 ?_
  refine g_te (y := nI (4 * k + 1)) (nI_add (4 * k) 1) ?_
  refine va_sld hx hb hX hbl hbA hI.2 (vp_in_nI (show 4 * k + 1 < L by omega) (by omega)) dL_law_557 ?_
  refine lv_aload_n hx hb dL_law_558 rfl (lv_at hl 3 rfl) ?_
  refine lv_iload_n hx hb dL_law_559 rfl (lv_at hl 0 rfl) ?_
  refine lv_iconst (v := 2) hx hb dL_law_560 (by decide) ?_
  refine lv_iadd hx hb dL_law_561 ?_
  refine g_te (y := nI (4 * k + 2)) (nI_add (4 * k) 2) ?_
  refine va_sld hx hb hX hbl hbA hI.2 (vp_in_nI (show 4 * k + 2 < L by omega) (by omega)) dL_law_562 ?_
  refine g_callVi (As := [.int (xs (nI (4 * k + 1)).toNatClampNeg), .int (xs (nI (4 * k + 2)).toNatClampNeg)]) (rest := [.int fr]) c2 rfl rfl gm_X5_set hx hb hml hown hts hC hI (by decide) (e_x rfl) rfl rfl qm_L_67 rfl hl.1 rfl ⟨rfl, rfl, by decide, by decide⟩ (Nat.le_of_ble_eq_true rfl) ⟨Nat.le_refl _, Nat.le_refl _⟩ dL_law_563 (fun H locs hI => ?_)
  exact lv_icmp_eq (tgt := 890) hx hb dL_law_566 (by decide) (fun _ => K P1 M2 H locs hR hI) (fun z => absurd rfl z)
set_option maxHeartbeats 4000000 in
set_option maxRecDepth 100000 in
theorem w_case_receiptOf {p : Program} {l : Launch} {e : Env} {s : State} {m : MethodId} {below : List Frame} {meth : Method} {c : Code} {b L : Nat} {xs : Nat → Int32} {D : va_G} {tb : g_T} {ad : g_Ad} {k : Nat} {P : g_P} {M : g_M} {H : Heap} {locs : List Loc} {ls : Array Slot} {Q : State → Prop} (C0 : lw_At p s m meth c b L xs) (hL : L ≤ 2048) (hC : g_C D tb ad (fun q => s.heap.size ≤ q) s) (hk : 4 * k + 4 ≤ L) (h : z_Rc P M (k : Int)) (hI : g_I D tb ad (fun q => s.heap.size ≤ q) s H locs P M) (hl : lv_has ls 4 [(3, .int (nI (4 * k))), (2, .ref (ad 7 0)), (1, .ref (ad 6 0)), (0, .ref b)]) (K : ∀ (P1 : g_P) (M2 : g_M) (H1 : Heap) (locs1 : List Loc), z_Rc P1 M2 ((k : Int) + 1) → g_I D tb ad (fun q => s.heap.size ≤ q) s H1 locs1 P1 M2 → W p l e room_1 s m #[Value.ref b] below meth c H1 locs1 600000 7302250 Q (F0 m 890 ls [])) : W p l e room_1 s m #[Value.ref b] below meth c H locs 600000 7302250 Q (F0 m 571 ls []) := by
  obtain ⟨hx, hb, hr, hml, hown, hts0, hX, hbl, hlocks, hgv⟩ := C0
  have hts := g_of_tbl hts0
  have hbA : ¬ (fun q => s.heap.size ≤ q) b := Nat.not_le.mpr hbl
  obtain ⟨fr, P1, M1, M2, c1, c2, hR⟩ := L_receiptOf (l := l) (D := D) (tb := tb) (ad := ad) hC.2.2.2.1 h (by omega) (by omega) (xs (nI (4 * k + 1)).toNatClampNeg) (xs (nI (4 * k + 2)).toNatClampNeg)
  refine lv_aload_n hx hb dL_law_571 rfl (lv_at hl 2 rfl) ?_
  refine lv_aload_n hx hb dL_law_572 rfl (lv_at hl 3 rfl) ?_
  refine lv_iload_n hx hb dL_law_573 rfl (lv_at hl 0 rfl) ?_
  refine lv_iconst (v := 1) hx hb dL_law_574 (by decide) ?_
  refine lv_iadd hx hb dL_law_575 ?_
  refine g_te (y := nI (4 * k + 1)) (nI_add (4 * k) 1) ?_
  refine va_sld hx hb hX hbl hbA hI.2 (vp_in_nI (show 4 * k + 1 < L by omega) (by omega)) dL_law_576 ?_
  refine lv_aload_n hx hb dL_law_577 rfl (lv_at hl 3 rfl) ?_
  refine lv_iload_n hx hb dL_law_578 rfl (lv_at hl 0 rfl) ?_
  refine lv_iconst (v := 2) hx hb dL_law_579 (by decide) ?_
  refine lv_iadd hx hb dL_law_580 ?_
  refine g_te (y := nI (4 * k + 2)) (nI_add (4 * k) 2) ?_
  refine va_sld hx hb hX hbl hbA hI.2 (vp_in_nI (show 4 * k + 2 < L by omega) (by omega)) dL_law_581 ?_
  refine g_callVi (As := [.int (xs (nI (4 * k + 1)).toNatClampNeg), .int (xs (nI (4 * k + 2)).toNatClampNeg)]) (rest := []) c1 rfl rfl gm_X4_receiptOf hx hb hml hown hts hC hI (by decide) (e_gr rfl) rfl rfl qm_L_68 rfl hl.1 rfl ⟨rfl, rfl, by decide, by decide⟩ (Nat.le_of_ble_eq_true rfl) ⟨Nat.le_refl _, Nat.le_refl _⟩ dL_law_582 (fun H locs hI => ?_)
  refine lv_aload_n hx hb dL_law_585 rfl (lv_at hl 1 rfl) ?_
  refine lv_aload_n hx hb dL_law_586 rfl (lv_at hl 3 rfl) ?_
  refine lv_iload_n hx hb dL_law_587 rfl (lv_at hl 0 rfl) ?_
  refine lv_iconst (v := 1) hx hb dL_law_588 (by decide) ?_
  refine lv_iadd hx hb dL_law_589 ?_
  refine g_te (y := nI (4 * k + 1)) (nI_add (4 * k) 1) ?_
  refine va_sld hx hb hX hbl hbA hI.2 (vp_in_nI (show 4 * k + 1 < L by omega) (by omega)) dL_law_590 ?_
  refine lv_aload_n hx hb dL_law_591 rfl (lv_at hl 3 rfl) ?_
  refine lv_iload_n hx hb dL_law_592 rfl (lv_at hl 0 rfl) ?_
  refine lv_iconst (v := 2) hx hb dL_law_593 (by decide) ?_
  refine lv_iadd hx hb dL_law_594 ?_
  refine g_te (y := nI (4 * k + 2)) (nI_add (4 * k) 2) ?_
  refine va_sld hx hb hX hbl hbA hI.2 (vp_in_nI (show 4 * k + 2 < L by omega) (by omega)) dL_law_595 ?_
  refine g_callVi (As := [.int (xs (nI (4 * k + 1)).toNatClampNeg), .int (xs (nI (4 * k + 2)).toNatClampNeg)]) (rest := [.int fr]) c2 rfl rfl gm_X5_receiptOf hx hb hml hown hts hC hI (by decide) (e_x rfl) rfl rfl qm_L_71 rfl hl.1 rfl ⟨rfl, rfl, by decide, by decide⟩ (Nat.le_of_ble_eq_true rfl) ⟨Nat.le_refl _, Nat.le_refl _⟩ dL_law_596 (fun H locs hI => ?_)
  exact lv_icmp_eq (tgt := 890) hx hb dL_law_599 (by decide) (fun _ => K P1 M2 H locs hR hI) (fun z => absurd rfl z)
set_option maxHeartbeats 4000000 in
set_option maxRecDepth 100000 in
theorem w_case_receipt {p : Program} {l : Launch} {e : Env} {s : State} {m : MethodId} {below : List Frame} {meth : Method} {c : Code} {b L : Nat} {xs : Nat → Int32} {D : va_G} {tb : g_T} {ad : g_Ad} {k : Nat} {P : g_P} {M : g_M} {H : Heap} {locs : List Loc} {ls : Array Slot} {Q : State → Prop} (C0 : lw_At p s m meth c b L xs) (hL : L ≤ 2048) (hC : g_C D tb ad (fun q => s.heap.size ≤ q) s) (hk : 4 * k + 4 ≤ L) (h : z_Rc P M (k : Int)) (hI : g_I D tb ad (fun q => s.heap.size ≤ q) s H locs P M) (hl : lv_has ls 4 [(3, .int (nI (4 * k))), (2, .ref (ad 7 0)), (1, .ref (ad 6 0)), (0, .ref b)]) (K : ∀ (P1 : g_P) (M2 : g_M) (H1 : Heap) (locs1 : List Loc), z_Rc P1 M2 ((k : Int) + 1) → g_I D tb ad (fun q => s.heap.size ≤ q) s H1 locs1 P1 M2 → W p l e room_1 s m #[Value.ref b] below meth c H1 locs1 600000 7302250 Q (F0 m 890 ls [])) : W p l e room_1 s m #[Value.ref b] below meth c H locs 600000 7302250 Q (F0 m 604 ls []) := by
  obtain ⟨hx, hb, hr, hml, hown, hts0, hX, hbl, hlocks, hgv⟩ := C0
  have hts := g_of_tbl hts0
  have hbA : ¬ (fun q => s.heap.size ≤ q) b := Nat.not_le.mpr hbl
  obtain ⟨fr, P1, M1, M2, c1, c2, hR⟩ := L_receipt (l := l) (D := D) (tb := tb) (ad := ad) hC.2.2.2.1 h (by omega) (by omega) (xs (nI (4 * k + 1)).toNatClampNeg)
  refine lv_aload_n hx hb dL_law_604 rfl (lv_at hl 2 rfl) ?_
  refine lv_aload_n hx hb dL_law_605 rfl (lv_at hl 3 rfl) ?_
  refine lv_iload_n hx hb dL_law_606 rfl (lv_at hl 0 rfl) ?_
  refine lv_iconst (v := 1) hx hb dL_law_607 (by decide) ?_
  refine lv_iadd hx hb dL_law_608 ?_
  refine g_te (y := nI (4 * k + 1)) (nI_add (4 * k) 1) ?_
  refine va_sld hx hb hX hbl hbA hI.2 (vp_in_nI (show 4 * k + 1 < L by omega) (by omega)) dL_law_609 ?_
  refine g_callVi (As := [.int (xs (nI (4 * k + 1)).toNatClampNeg)]) (rest := []) c1 rfl rfl gm_X4_receipt hx hb hml hown hts hC hI (by decide) (e_gr rfl) rfl rfl qm_L_72 rfl hl.1 rfl ⟨rfl, rfl, by decide, by decide⟩ (Nat.le_of_ble_eq_true rfl) ⟨Nat.le_refl _, Nat.le_refl _⟩ dL_law_610 (fun H locs hI => ?_)
  refine lv_aload_n hx hb dL_law_613 rfl (lv_at hl 1 rfl) ?_
  refine lv_aload_n hx hb dL_law_614 rfl (lv_at hl 3 rfl) ?_
  refine lv_iload_n hx hb dL_law_615 rfl (lv_at hl 0 rfl) ?_
  refine lv_iconst (v := 1) hx hb dL_law_616 (by decide) ?_
  refine lv_iadd hx hb dL_law_617 ?_
  refine g_te (y := nI (4 * k + 1)) (nI_add (4 * k) 1) ?_
  refine va_sld hx hb hX hbl hbA hI.2 (vp_in_nI (show 4 * k + 1 < L by omega) (by omega)) dL_law_618 ?_
  refine g_callVi (As := [.int (xs (nI (4 * k + 1)).toNatClampNeg)]) (rest := [.int fr]) c2 rfl rfl gm_X5_receipt hx hb hml hown hts hC hI (by decide) (e_x rfl) rfl rfl qm_L_75 rfl hl.1 rfl ⟨rfl, rfl, by decide, by decide⟩ (Nat.le_of_ble_eq_true rfl) ⟨Nat.le_refl _, Nat.le_refl _⟩ dL_law_619 (fun H locs hI => ?_)
  exact lv_icmp_eq (tgt := 890) hx hb dL_law_622 (by decide) (fun _ => K P1 M2 H locs hR hI) (fun z => absurd rfl z)
set_option maxHeartbeats 4000000 in
set_option maxRecDepth 100000 in
theorem w_case_binOf {p : Program} {l : Launch} {e : Env} {s : State} {m : MethodId} {below : List Frame} {meth : Method} {c : Code} {b L : Nat} {xs : Nat → Int32} {D : va_G} {tb : g_T} {ad : g_Ad} {k : Nat} {P : g_P} {M : g_M} {H : Heap} {locs : List Loc} {ls : Array Slot} {Q : State → Prop} (C0 : lw_At p s m meth c b L xs) (hL : L ≤ 2048) (hC : g_C D tb ad (fun q => s.heap.size ≤ q) s) (hk : 4 * k + 4 ≤ L) (h : z_Rc P M (k : Int)) (hI : g_I D tb ad (fun q => s.heap.size ≤ q) s H locs P M) (hl : lv_has ls 4 [(3, .int (nI (4 * k))), (2, .ref (ad 7 0)), (1, .ref (ad 6 0)), (0, .ref b)]) (K : ∀ (P1 : g_P) (M2 : g_M) (H1 : Heap) (locs1 : List Loc), z_Rc P1 M2 ((k : Int) + 1) → g_I D tb ad (fun q => s.heap.size ≤ q) s H1 locs1 P1 M2 → W p l e room_1 s m #[Value.ref b] below meth c H1 locs1 600000 7302250 Q (F0 m 890 ls [])) : W p l e room_1 s m #[Value.ref b] below meth c H locs 600000 7302250 Q (F0 m 627 ls []) := by
  obtain ⟨hx, hb, hr, hml, hown, hts0, hX, hbl, hlocks, hgv⟩ := C0
  have hts := g_of_tbl hts0
  have hbA : ¬ (fun q => s.heap.size ≤ q) b := Nat.not_le.mpr hbl
  obtain ⟨fr, P1, M1, M2, c1, c2, hR⟩ := L_binOf (l := l) (D := D) (tb := tb) (ad := ad) hC.2.2.2.1 h (by omega) (by omega) (xs (nI (4 * k + 1)).toNatClampNeg) (xs (nI (4 * k + 2)).toNatClampNeg)
  refine lv_aload_n hx hb dL_law_627 rfl (lv_at hl 2 rfl) ?_
  refine lv_aload_n hx hb dL_law_628 rfl (lv_at hl 3 rfl) ?_
  refine lv_iload_n hx hb dL_law_629 rfl (lv_at hl 0 rfl) ?_
  refine lv_iconst (v := 1) hx hb dL_law_630 (by decide) ?_
  refine lv_iadd hx hb dL_law_631 ?_
  refine g_te (y := nI (4 * k + 1)) (nI_add (4 * k) 1) ?_
  refine va_sld hx hb hX hbl hbA hI.2 (vp_in_nI (show 4 * k + 1 < L by omega) (by omega)) dL_law_632 ?_
  refine lv_aload_n hx hb dL_law_633 rfl (lv_at hl 3 rfl) ?_
  refine lv_iload_n hx hb dL_law_634 rfl (lv_at hl 0 rfl) ?_
  refine lv_iconst (v := 2) hx hb dL_law_635 (by decide) ?_
  refine lv_iadd hx hb dL_law_636 ?_
  refine g_te (y := nI (4 * k + 2)) (nI_add (4 * k) 2) ?_
  refine va_sld hx hb hX hbl hbA hI.2 (vp_in_nI (show 4 * k + 2 < L by omega) (by omega)) dL_law_637 ?_
  refine g_callVi (As := [.int (xs (nI (4 * k + 1)).toNatClampNeg), .int (xs (nI (4 * k + 2)).toNatClampNeg)]) (rest := []) c1 rfl rfl gm_X4_binOf hx hb hml hown hts hC hI (by decide) (e_gr rfl) rfl rfl qm_L_76 rfl hl.1 rfl ⟨rfl, rfl, by decide, by decide⟩ (Nat.le_of_ble_eq_true rfl) ⟨Nat.le_refl _, Nat.le_refl _⟩ dL_law_638 (fun H locs hI => ?_)
  refine lv_aload_n hx hb dL_law_641 rfl (lv_at hl 1 rfl) ?_
  refine lv_aload_n hx hb dL_law_642 rfl (lv_at hl 3 rfl) ?_
  refine lv_iload_n hx hb dL_law_643 rfl (lv_at hl 0 rfl) ?_
  refine lv_iconst (v := 1) hx hb dL_law_644 (by decide) ?_
  refine lv_iadd hx hb dL_law_645 ?_
  refine g_te (y := nI (4 * k + 1)) (nI_add (4 * k) 1) ?_
  refine va_sld hx hb hX hbl hbA hI.2 (vp_in_nI (show 4 * k + 1 < L by omega) (by omega)) dL_law_646 ?_
  refine lv_aload_n hx hb dL_law_647 rfl (lv_at hl 3 rfl) ?_
  refine lv_iload_n hx hb dL_law_648 rfl (lv_at hl 0 rfl) ?_
  refine lv_iconst (v := 2) hx hb dL_law_649 (by decide) ?_
  refine lv_iadd hx hb dL_law_650 ?_
  refine g_te (y := nI (4 * k + 2)) (nI_add (4 * k) 2) ?_
  refine va_sld hx hb hX hbl hbA hI.2 (vp_in_nI (show 4 * k + 2 < L by omega) (by omega)) dL_law_651 ?_
  refine g_callVi (As := [.int (xs (nI (4 * k + 1)).toNatClampNeg), .int (xs (nI (4 * k + 2)).toNatClampNeg)]) (rest := [.int fr]) c2 rfl rfl gm_X5_binOf hx hb hml hown hts hC hI (by decide) (e_x rfl) rfl rfl qm_L_79 rfl hl.1 rfl ⟨rfl, rfl, by decide, by decide⟩ (Nat.le_of_ble_eq_true rfl) ⟨Nat.le_refl _, Nat.le_refl _⟩ dL_law_652 (fun H locs hI => ?_)
  exact lv_icmp_eq (tgt := 890) hx hb dL_law_655 (by decide) (fun _ => K P1 M2 H locs hR hI) (fun z => absurd rfl z)
set_option maxHeartbeats 4000000 in
set_option maxRecDepth 100000 in
theorem w_case_gradeOf {p : Program} {l : Launch} {e : Env} {s : State} {m : MethodId} {below : List Frame} {meth : Method} {c : Code} {b L : Nat} {xs : Nat → Int32} {D : va_G} {tb : g_T} {ad : g_Ad} {k : Nat} {P : g_P} {M : g_M} {H : Heap} {locs : List Loc} {ls : Array Slot} {Q : State → Prop} (C0 : lw_At p s m meth c b L xs) (hL : L ≤ 2048) (hC : g_C D tb ad (fun q => s.heap.size ≤ q) s) (hk : 4 * k + 4 ≤ L) (h : z_Rc P M (k : Int)) (hI : g_I D tb ad (fun q => s.heap.size ≤ q) s H locs P M) (hl : lv_has ls 4 [(3, .int (nI (4 * k))), (2, .ref (ad 7 0)), (1, .ref (ad 6 0)), (0, .ref b)]) (K : ∀ (P1 : g_P) (M2 : g_M) (H1 : Heap) (locs1 : List Loc), z_Rc P1 M2 ((k : Int) + 1) → g_I D tb ad (fun q => s.heap.size ≤ q) s H1 locs1 P1 M2 → W p l e room_1 s m #[Value.ref b] below meth c H1 locs1 600000 7302250 Q (F0 m 890 ls [])) : W p l e room_1 s m #[Value.ref b] below meth c H locs 600000 7302250 Q (F0 m 660 ls []) := by
  obtain ⟨hx, hb, hr, hml, hown, hts0, hX, hbl, hlocks, hgv⟩ := C0
  have hts := g_of_tbl hts0
  have hbA : ¬ (fun q => s.heap.size ≤ q) b := Nat.not_le.mpr hbl
  obtain ⟨fr, P1, M1, M2, c1, c2, hR⟩ := L_gradeOf (l := l) (D := D) (tb := tb) (ad := ad) hC.2.2.2.1 h (by omega) (by omega) (xs (nI (4 * k + 1)).toNatClampNeg) (xs (nI (4 * k + 2)).toNatClampNeg)
  refine lv_aload_n hx hb dL_law_660 rfl (lv_at hl 2 rfl) ?_
  refine lv_aload_n hx hb dL_law_661 rfl (lv_at hl 3 rfl) ?_
  refine lv_iload_n hx hb dL_law_662 rfl (lv_at hl 0 rfl) ?_
  refine lv_iconst (v := 1) hx hb dL_law_663 (by decide) ?_
  refine lv_iadd hx hb dL_law_664 ?_
  refine g_te (y := nI (4 * k + 1)) (nI_add (4 * k) 1) ?_
  refine va_sld hx hb hX hbl hbA hI.2 (vp_in_nI (show 4 * k + 1 < L by omega) (by omega)) dL_law_665 ?_
  refine lv_aload_n hx hb dL_law_666 rfl (lv_at hl 3 rfl) ?_
  refine lv_iload_n hx hb dL_law_667 rfl (lv_at hl 0 rfl) ?_
  refine lv_iconst (v := 2) hx hb dL_law_668 (by decide) ?_
  refine lv_iadd hx hb dL_law_669 ?_
  refine g_te (y := nI (4 * k + 2)) (nI_add (4 * k) 2) ?_
  refine va_sld hx hb hX hbl hbA hI.2 (vp_in_nI (show 4 * k + 2 < L by omega) (by omega)) dL_law_670 ?_
  refine g_callVi (As := [.int (xs (nI (4 * k + 1)).toNatClampNeg), .int (xs (nI (4 * k + 2)).toNatClampNeg)]) (rest := []) c1 rfl rfl gm_X4_gradeOf hx hb hml hown hts hC hI (by decide) (e_gr rfl) rfl rfl qm_L_80 rfl hl.1 rfl ⟨rfl, rfl, by decide, by decide⟩ (Nat.le_of_ble_eq_true rfl) ⟨Nat.le_refl _, Nat.le_refl _⟩ dL_law_671 (fun H locs hI => ?_)
  refine lv_aload_n hx hb dL_law_674 rfl (lv_at hl 1 rfl) ?_
  refine lv_aload_n hx hb dL_law_675 rfl (lv_at hl 3 rfl) ?_
  refine lv_iload_n hx hb dL_law_676 rfl (lv_at hl 0 rfl) ?_
  refine lv_iconst (v := 1) hx hb dL_law_677 (by decide) ?_
  refine lv_iadd hx hb dL_law_678 ?_
  refine g_te (y := nI (4 * k + 1)) (nI_add (4 * k) 1) ?_
  refine va_sld hx hb hX hbl hbA hI.2 (vp_in_nI (show 4 * k + 1 < L by omega) (by omega)) dL_law_679 ?_
  refine lv_aload_n hx hb dL_law_680 rfl (lv_at hl 3 rfl) ?_
  refine lv_iload_n hx hb dL_law_681 rfl (lv_at hl 0 rfl) ?_
  refine lv_iconst (v := 2) hx hb dL_law_682 (by decide) ?_
  refine lv_iadd hx hb dL_law_683 ?_
  refine g_te (y := nI (4 * k + 2)) (nI_add (4 * k) 2) ?_
  refine va_sld hx hb hX hbl hbA hI.2 (vp_in_nI (show 4 * k + 2 < L by omega) (by omega)) dL_law_684 ?_
  refine g_callVi (As := [.int (xs (nI (4 * k + 1)).toNatClampNeg), .int (xs (nI (4 * k + 2)).toNatClampNeg)]) (rest := [.int fr]) c2 rfl rfl gm_X5_gradeOf hx hb hml hown hts hC hI (by decide) (e_x rfl) rfl rfl qm_L_83 rfl hl.1 rfl ⟨rfl, rfl, by decide, by decide⟩ (Nat.le_of_ble_eq_true rfl) ⟨Nat.le_refl _, Nat.le_refl _⟩ dL_law_685 (fun H locs hI => ?_)
  exact lv_icmp_eq (tgt := 890) hx hb dL_law_688 (by decide) (fun _ => K P1 M2 H locs hR hI) (fun z => absurd rfl z)
set_option maxHeartbeats 4000000 in
set_option maxRecDepth 100000 in
theorem w_case_ownerOf {p : Program} {l : Launch} {e : Env} {s : State} {m : MethodId} {below : List Frame} {meth : Method} {c : Code} {b L : Nat} {xs : Nat → Int32} {D : va_G} {tb : g_T} {ad : g_Ad} {k : Nat} {P : g_P} {M : g_M} {H : Heap} {locs : List Loc} {ls : Array Slot} {Q : State → Prop} (C0 : lw_At p s m meth c b L xs) (hL : L ≤ 2048) (hC : g_C D tb ad (fun q => s.heap.size ≤ q) s) (hk : 4 * k + 4 ≤ L) (h : z_Rc P M (k : Int)) (hI : g_I D tb ad (fun q => s.heap.size ≤ q) s H locs P M) (hl : lv_has ls 4 [(3, .int (nI (4 * k))), (2, .ref (ad 7 0)), (1, .ref (ad 6 0)), (0, .ref b)]) (K : ∀ (P1 : g_P) (M2 : g_M) (H1 : Heap) (locs1 : List Loc), z_Rc P1 M2 ((k : Int) + 1) → g_I D tb ad (fun q => s.heap.size ≤ q) s H1 locs1 P1 M2 → W p l e room_1 s m #[Value.ref b] below meth c H1 locs1 600000 7302250 Q (F0 m 890 ls [])) : W p l e room_1 s m #[Value.ref b] below meth c H locs 600000 7302250 Q (F0 m 693 ls []) := by
  obtain ⟨hx, hb, hr, hml, hown, hts0, hX, hbl, hlocks, hgv⟩ := C0
  have hts := g_of_tbl hts0
  have hbA : ¬ (fun q => s.heap.size ≤ q) b := Nat.not_le.mpr hbl
  obtain ⟨fr, P1, M1, M2, c1, c2, hR⟩ := L_ownerOf (l := l) (D := D) (tb := tb) (ad := ad) hC.2.2.2.1 h (by omega) (by omega) (xs (nI (4 * k + 1)).toNatClampNeg) (xs (nI (4 * k + 2)).toNatClampNeg)
  refine lv_aload_n hx hb dL_law_693 rfl (lv_at hl 2 rfl) ?_
  refine lv_aload_n hx hb dL_law_694 rfl (lv_at hl 3 rfl) ?_
  refine lv_iload_n hx hb dL_law_695 rfl (lv_at hl 0 rfl) ?_
  refine lv_iconst (v := 1) hx hb dL_law_696 (by decide) ?_
  refine lv_iadd hx hb dL_law_697 ?_
  refine g_te (y := nI (4 * k + 1)) (nI_add (4 * k) 1) ?_
  refine va_sld hx hb hX hbl hbA hI.2 (vp_in_nI (show 4 * k + 1 < L by omega) (by omega)) dL_law_698 ?_
  refine lv_aload_n hx hb dL_law_699 rfl (lv_at hl 3 rfl) ?_
  refine lv_iload_n hx hb dL_law_700 rfl (lv_at hl 0 rfl) ?_
  refine lv_iconst (v := 2) hx hb dL_law_701 (by decide) ?_
  refine lv_iadd hx hb dL_law_702 ?_
  refine g_te (y := nI (4 * k + 2)) (nI_add (4 * k) 2) ?_
  refine va_sld hx hb hX hbl hbA hI.2 (vp_in_nI (show 4 * k + 2 < L by omega) (by omega)) dL_law_703 ?_
  refine g_callVi (As := [.int (xs (nI (4 * k + 1)).toNatClampNeg), .int (xs (nI (4 * k + 2)).toNatClampNeg)]) (rest := []) c1 rfl rfl gm_X4_ownerOf hx hb hml hown hts hC hI (by decide) (e_gr rfl) rfl rfl qm_L_84 rfl hl.1 rfl ⟨rfl, rfl, by decide, by decide⟩ (Nat.le_of_ble_eq_true rfl) ⟨Nat.le_refl _, Nat.le_refl _⟩ dL_law_704 (fun H locs hI => ?_)
  refine lv_aload_n hx hb dL_law_707 rfl (lv_at hl 1 rfl) ?_
  refine lv_aload_n hx hb dL_law_708 rfl (lv_at hl 3 rfl) ?_
  refine lv_iload_n hx hb dL_law_709 rfl (lv_at hl 0 rfl) ?_
  refine lv_iconst (v := 1) hx hb dL_law_710 (by decide) ?_
  refine lv_iadd hx hb dL_law_711 ?_
  refine g_te (y := nI (4 * k + 1)) (nI_add (4 * k) 1) ?_
  refine va_sld hx hb hX hbl hbA hI.2 (vp_in_nI (show 4 * k + 1 < L by omega) (by omega)) dL_law_712 ?_
  refine lv_aload_n hx hb dL_law_713 rfl (lv_at hl 3 rfl) ?_
  refine lv_iload_n hx hb dL_law_714 rfl (lv_at hl 0 rfl) ?_
  refine lv_iconst (v := 2) hx hb dL_law_715 (by decide) ?_
  refine lv_iadd hx hb dL_law_716 ?_
  refine g_te (y := nI (4 * k + 2)) (nI_add (4 * k) 2) ?_
  refine va_sld hx hb hX hbl hbA hI.2 (vp_in_nI (show 4 * k + 2 < L by omega) (by omega)) dL_law_717 ?_
  refine g_callVi (As := [.int (xs (nI (4 * k + 1)).toNatClampNeg), .int (xs (nI (4 * k + 2)).toNatClampNeg)]) (rest := [.int fr]) c2 rfl rfl gm_X5_ownerOf hx hb hml hown hts hC hI (by decide) (e_x rfl) rfl rfl qm_L_87 rfl hl.1 rfl ⟨rfl, rfl, by decide, by decide⟩ (Nat.le_of_ble_eq_true rfl) ⟨Nat.le_refl _, Nat.le_refl _⟩ dL_law_718 (fun H locs hI => ?_)
  exact lv_icmp_eq (tgt := 890) hx hb dL_law_721 (by decide) (fun _ => K P1 M2 H locs hR hI) (fun z => absurd rfl z)
set_option maxHeartbeats 4000000 in
set_option maxRecDepth 100000 in
theorem w_case_lenderOf {p : Program} {l : Launch} {e : Env} {s : State} {m : MethodId} {below : List Frame} {meth : Method} {c : Code} {b L : Nat} {xs : Nat → Int32} {D : va_G} {tb : g_T} {ad : g_Ad} {k : Nat} {P : g_P} {M : g_M} {H : Heap} {locs : List Loc} {ls : Array Slot} {Q : State → Prop} (C0 : lw_At p s m meth c b L xs) (hL : L ≤ 2048) (hC : g_C D tb ad (fun q => s.heap.size ≤ q) s) (hk : 4 * k + 4 ≤ L) (h : z_Rc P M (k : Int)) (hI : g_I D tb ad (fun q => s.heap.size ≤ q) s H locs P M) (hl : lv_has ls 4 [(3, .int (nI (4 * k))), (2, .ref (ad 7 0)), (1, .ref (ad 6 0)), (0, .ref b)]) (K : ∀ (P1 : g_P) (M2 : g_M) (H1 : Heap) (locs1 : List Loc), z_Rc P1 M2 ((k : Int) + 1) → g_I D tb ad (fun q => s.heap.size ≤ q) s H1 locs1 P1 M2 → W p l e room_1 s m #[Value.ref b] below meth c H1 locs1 600000 7302250 Q (F0 m 890 ls [])) : W p l e room_1 s m #[Value.ref b] below meth c H locs 600000 7302250 Q (F0 m 726 ls []) := by
  obtain ⟨hx, hb, hr, hml, hown, hts0, hX, hbl, hlocks, hgv⟩ := C0
  have hts := g_of_tbl hts0
  have hbA : ¬ (fun q => s.heap.size ≤ q) b := Nat.not_le.mpr hbl
  obtain ⟨fr, P1, M1, M2, c1, c2, hR⟩ := L_lenderOf (l := l) (D := D) (tb := tb) (ad := ad) hC.2.2.2.1 h (by omega) (by omega) (xs (nI (4 * k + 1)).toNatClampNeg) (xs (nI (4 * k + 2)).toNatClampNeg)
  refine lv_aload_n hx hb dL_law_726 rfl (lv_at hl 2 rfl) ?_
  refine lv_aload_n hx hb dL_law_727 rfl (lv_at hl 3 rfl) ?_
  refine lv_iload_n hx hb dL_law_728 rfl (lv_at hl 0 rfl) ?_
  refine lv_iconst (v := 1) hx hb dL_law_729 (by decide) ?_
  refine lv_iadd hx hb dL_law_730 ?_
  refine g_te (y := nI (4 * k + 1)) (nI_add (4 * k) 1) ?_
  refine va_sld hx hb hX hbl hbA hI.2 (vp_in_nI (show 4 * k + 1 < L by omega) (by omega)) dL_law_731 ?_
  refine lv_aload_n hx hb dL_law_732 rfl (lv_at hl 3 rfl) ?_
  refine lv_iload_n hx hb dL_law_733 rfl (lv_at hl 0 rfl) ?_
  refine lv_iconst (v := 2) hx hb dL_law_734 (by decide) ?_
  refine lv_iadd hx hb dL_law_735 ?_
  refine g_te (y := nI (4 * k + 2)) (nI_add (4 * k) 2) ?_
  refine va_sld hx hb hX hbl hbA hI.2 (vp_in_nI (show 4 * k + 2 < L by omega) (by omega)) dL_law_736 ?_
  refine g_callVi (As := [.int (xs (nI (4 * k + 1)).toNatClampNeg), .int (xs (nI (4 * k + 2)).toNatClampNeg)]) (rest := []) c1 rfl rfl gm_X4_lenderOf hx hb hml hown hts hC hI (by decide) (e_gr rfl) rfl rfl qm_L_88 rfl hl.1 rfl ⟨rfl, rfl, by decide, by decide⟩ (Nat.le_of_ble_eq_true rfl) ⟨Nat.le_refl _, Nat.le_refl _⟩ dL_law_737 (fun H locs hI => ?_)
  refine lv_aload_n hx hb dL_law_740 rfl (lv_at hl 1 rfl) ?_
  refine lv_aload_n hx hb dL_law_741 rfl (lv_at hl 3 rfl) ?_
  refine lv_iload_n hx hb dL_law_742 rfl (lv_at hl 0 rfl) ?_
  refine lv_iconst (v := 1) hx hb dL_law_743 (by decide) ?_
  refine lv_iadd hx hb dL_law_744 ?_
  refine g_te (y := nI (4 * k + 1)) (nI_add (4 * k) 1) ?_
  refine va_sld hx hb hX hbl hbA hI.2 (vp_in_nI (show 4 * k + 1 < L by omega) (by omega)) dL_law_745 ?_
  refine lv_aload_n hx hb dL_law_746 rfl (lv_at hl 3 rfl) ?_
  refine lv_iload_n hx hb dL_law_747 rfl (lv_at hl 0 rfl) ?_
  refine lv_iconst (v := 2) hx hb dL_law_748 (by decide) ?_
  refine lv_iadd hx hb dL_law_749 ?_
  refine g_te (y := nI (4 * k + 2)) (nI_add (4 * k) 2) ?_
  refine va_sld hx hb hX hbl hbA hI.2 (vp_in_nI (show 4 * k + 2 < L by omega) (by omega)) dL_law_750 ?_
  refine g_callVi (As := [.int (xs (nI (4 * k + 1)).toNatClampNeg), .int (xs (nI (4 * k + 2)).toNatClampNeg)]) (rest := [.int fr]) c2 rfl rfl gm_X5_lenderOf hx hb hml hown hts hC hI (by decide) (e_x rfl) rfl rfl qm_L_91 rfl hl.1 rfl ⟨rfl, rfl, by decide, by decide⟩ (Nat.le_of_ble_eq_true rfl) ⟨Nat.le_refl _, Nat.le_refl _⟩ dL_law_751 (fun H locs hI => ?_)
  exact lv_icmp_eq (tgt := 890) hx hb dL_law_754 (by decide) (fun _ => K P1 M2 H locs hR hI) (fun z => absurd rfl z)
set_option maxHeartbeats 4000000 in
set_option maxRecDepth 100000 in
theorem w_case_fallTo {p : Program} {l : Launch} {e : Env} {s : State} {m : MethodId} {below : List Frame} {meth : Method} {c : Code} {b L : Nat} {xs : Nat → Int32} {D : va_G} {tb : g_T} {ad : g_Ad} {k : Nat} {P : g_P} {M : g_M} {H : Heap} {locs : List Loc} {ls : Array Slot} {Q : State → Prop} (C0 : lw_At p s m meth c b L xs) (hL : L ≤ 2048) (hC : g_C D tb ad (fun q => s.heap.size ≤ q) s) (hk : 4 * k + 4 ≤ L) (h : z_Rc P M (k : Int)) (hI : g_I D tb ad (fun q => s.heap.size ≤ q) s H locs P M) (hl : lv_has ls 4 [(3, .int (nI (4 * k))), (2, .ref (ad 7 0)), (1, .ref (ad 6 0)), (0, .ref b)]) (K : ∀ (P1 : g_P) (M2 : g_M) (H1 : Heap) (locs1 : List Loc), z_Rc P1 M2 ((k : Int) + 1) → g_I D tb ad (fun q => s.heap.size ≤ q) s H1 locs1 P1 M2 → W p l e room_1 s m #[Value.ref b] below meth c H1 locs1 600000 7302250 Q (F0 m 890 ls [])) : W p l e room_1 s m #[Value.ref b] below meth c H locs 600000 7302250 Q (F0 m 759 ls []) := by
  obtain ⟨hx, hb, hr, hml, hown, hts0, hX, hbl, hlocks, hgv⟩ := C0
  have hts := g_of_tbl hts0
  have hbA : ¬ (fun q => s.heap.size ≤ q) b := Nat.not_le.mpr hbl
  obtain ⟨fr, P1, M1, M2, c1, c2, hR⟩ := L_fallTo (l := l) (D := D) (tb := tb) (ad := ad) hC.2.2.2.1 h (by omega) (by omega) (xs (nI (4 * k + 1)).toNatClampNeg)
  refine lv_aload_n hx hb dL_law_759 rfl (lv_at hl 2 rfl) ?_
  refine lv_aload_n hx hb dL_law_760 rfl (lv_at hl 3 rfl) ?_
  refine lv_iload_n hx hb dL_law_761 rfl (lv_at hl 0 rfl) ?_
  refine lv_iconst (v := 1) hx hb dL_law_762 (by decide) ?_
  refine lv_iadd hx hb dL_law_763 ?_
  refine g_te (y := nI (4 * k + 1)) (nI_add (4 * k) 1) ?_
  refine va_sld hx hb hX hbl hbA hI.2 (vp_in_nI (show 4 * k + 1 < L by omega) (by omega)) dL_law_764 ?_
  refine g_callVi (As := [.int (xs (nI (4 * k + 1)).toNatClampNeg)]) (rest := []) c1 rfl rfl gm_X4_fallTo hx hb hml hown hts hC hI (by decide) (e_gr rfl) rfl rfl qm_L_92 rfl hl.1 rfl ⟨rfl, rfl, by decide, by decide⟩ (Nat.le_of_ble_eq_true rfl) ⟨Nat.le_refl _, Nat.le_refl _⟩ dL_law_765 (fun H locs hI => ?_)
  refine lv_aload_n hx hb dL_law_768 rfl (lv_at hl 1 rfl) ?_
  refine lv_aload_n hx hb dL_law_769 rfl (lv_at hl 3 rfl) ?_
  refine lv_iload_n hx hb dL_law_770 rfl (lv_at hl 0 rfl) ?_
  refine lv_iconst (v := 1) hx hb dL_law_771 (by decide) ?_
  refine lv_iadd hx hb dL_law_772 ?_
  refine g_te (y := nI (4 * k + 1)) (nI_add (4 * k) 1) ?_
  refine va_sld hx hb hX hbl hbA hI.2 (vp_in_nI (show 4 * k + 1 < L by omega) (by omega)) dL_law_773 ?_
  refine g_callVi (As := [.int (xs (nI (4 * k + 1)).toNatClampNeg)]) (rest := [.int fr]) c2 rfl rfl gm_X5_fallTo hx hb hml hown hts hC hI (by decide) (e_x rfl) rfl rfl qm_L_95 rfl hl.1 rfl ⟨rfl, rfl, by decide, by decide⟩ (Nat.le_of_ble_eq_true rfl) ⟨Nat.le_refl _, Nat.le_refl _⟩ dL_law_774 (fun H locs hI => ?_)
  exact lv_icmp_eq (tgt := 890) hx hb dL_law_777 (by decide) (fun _ => K P1 M2 H locs hR hI) (fun z => absurd rfl z)
set_option maxHeartbeats 4000000 in
set_option maxRecDepth 100000 in
theorem w_case_count {p : Program} {l : Launch} {e : Env} {s : State} {m : MethodId} {below : List Frame} {meth : Method} {c : Code} {b L : Nat} {xs : Nat → Int32} {D : va_G} {tb : g_T} {ad : g_Ad} {k : Nat} {P : g_P} {M : g_M} {H : Heap} {locs : List Loc} {ls : Array Slot} {Q : State → Prop} (C0 : lw_At p s m meth c b L xs) (hL : L ≤ 2048) (hC : g_C D tb ad (fun q => s.heap.size ≤ q) s) (hk : 4 * k + 4 ≤ L) (h : z_Rc P M (k : Int)) (hI : g_I D tb ad (fun q => s.heap.size ≤ q) s H locs P M) (hl : lv_has ls 4 [(3, .int (nI (4 * k))), (2, .ref (ad 7 0)), (1, .ref (ad 6 0)), (0, .ref b)]) (K : ∀ (P1 : g_P) (M2 : g_M) (H1 : Heap) (locs1 : List Loc), z_Rc P1 M2 ((k : Int) + 1) → g_I D tb ad (fun q => s.heap.size ≤ q) s H1 locs1 P1 M2 → W p l e room_1 s m #[Value.ref b] below meth c H1 locs1 600000 7302250 Q (F0 m 890 ls [])) : W p l e room_1 s m #[Value.ref b] below meth c H locs 600000 7302250 Q (F0 m 782 ls []) := by
  obtain ⟨hx, hb, hr, hml, hown, hts0, hX, hbl, hlocks, hgv⟩ := C0
  have hts := g_of_tbl hts0
  have hbA : ¬ (fun q => s.heap.size ≤ q) b := Nat.not_le.mpr hbl
  obtain ⟨fr, P1, M1, M2, c1, c2, hR⟩ := L_count (l := l) (D := D) (tb := tb) (ad := ad) hC.2.2.2.1 h (by omega) (by omega) (xs (nI (4 * k + 1)).toNatClampNeg)
  refine lv_aload_n hx hb dL_law_782 rfl (lv_at hl 2 rfl) ?_
  refine lv_aload_n hx hb dL_law_783 rfl (lv_at hl 3 rfl) ?_
  refine lv_iload_n hx hb dL_law_784 rfl (lv_at hl 0 rfl) ?_
  refine lv_iconst (v := 1) hx hb dL_law_785 (by decide) ?_
  refine lv_iadd hx hb dL_law_786 ?_
  refine g_te (y := nI (4 * k + 1)) (nI_add (4 * k) 1) ?_
  refine va_sld hx hb hX hbl hbA hI.2 (vp_in_nI (show 4 * k + 1 < L by omega) (by omega)) dL_law_787 ?_
  refine g_callVi (As := [.int (xs (nI (4 * k + 1)).toNatClampNeg)]) (rest := []) c1 rfl rfl gm_X4_count hx hb hml hown hts hC hI (by decide) (e_gr rfl) rfl rfl qm_L_96 rfl hl.1 rfl ⟨rfl, rfl, by decide, by decide⟩ (Nat.le_of_ble_eq_true rfl) ⟨Nat.le_refl _, Nat.le_refl _⟩ dL_law_788 (fun H locs hI => ?_)
  refine lv_aload_n hx hb dL_law_791 rfl (lv_at hl 1 rfl) ?_
  refine lv_aload_n hx hb dL_law_792 rfl (lv_at hl 3 rfl) ?_
  refine lv_iload_n hx hb dL_law_793 rfl (lv_at hl 0 rfl) ?_
  refine lv_iconst (v := 1) hx hb dL_law_794 (by decide) ?_
  refine lv_iadd hx hb dL_law_795 ?_
  refine g_te (y := nI (4 * k + 1)) (nI_add (4 * k) 1) ?_
  refine va_sld hx hb hX hbl hbA hI.2 (vp_in_nI (show 4 * k + 1 < L by omega) (by omega)) dL_law_796 ?_
  refine g_callVi (As := [.int (xs (nI (4 * k + 1)).toNatClampNeg)]) (rest := [.int fr]) c2 rfl rfl gm_X5_count hx hb hml hown hts hC hI (by decide) (e_x rfl) rfl rfl qm_L_99 rfl hl.1 rfl ⟨rfl, rfl, by decide, by decide⟩ (Nat.le_of_ble_eq_true rfl) ⟨Nat.le_refl _, Nat.le_refl _⟩ dL_law_797 (fun H locs hI => ?_)
  exact lv_icmp_eq (tgt := 890) hx hb dL_law_800 (by decide) (fun _ => K P1 M2 H locs hR hI) (fun z => absurd rfl z)
set_option maxHeartbeats 4000000 in
set_option maxRecDepth 100000 in
theorem w_case_undo {p : Program} {l : Launch} {e : Env} {s : State} {m : MethodId} {below : List Frame} {meth : Method} {c : Code} {b L : Nat} {xs : Nat → Int32} {D : va_G} {tb : g_T} {ad : g_Ad} {k : Nat} {P : g_P} {M : g_M} {H : Heap} {locs : List Loc} {ls : Array Slot} {Q : State → Prop} (C0 : lw_At p s m meth c b L xs) (hL : L ≤ 2048) (hC : g_C D tb ad (fun q => s.heap.size ≤ q) s) (hk : 4 * k + 4 ≤ L) (h : z_Rc P M (k : Int)) (hI : g_I D tb ad (fun q => s.heap.size ≤ q) s H locs P M) (hl : lv_has ls 4 [(3, .int (nI (4 * k))), (2, .ref (ad 7 0)), (1, .ref (ad 6 0)), (0, .ref b)]) (K : ∀ (P1 : g_P) (M2 : g_M) (H1 : Heap) (locs1 : List Loc), z_Rc P1 M2 ((k : Int) + 1) → g_I D tb ad (fun q => s.heap.size ≤ q) s H1 locs1 P1 M2 → W p l e room_1 s m #[Value.ref b] below meth c H1 locs1 600000 7302250 Q (F0 m 890 ls [])) : W p l e room_1 s m #[Value.ref b] below meth c H locs 600000 7302250 Q (F0 m 805 ls []) := by
  obtain ⟨hx, hb, hr, hml, hown, hts0, hX, hbl, hlocks, hgv⟩ := C0
  have hts := g_of_tbl hts0
  have hbA : ¬ (fun q => s.heap.size ≤ q) b := Nat.not_le.mpr hbl
  obtain ⟨fr, P1, M1, M2, c1, c2, hR⟩ := L_undo (l := l) (D := D) (tb := tb) (ad := ad) hC.2.2.2.1 h (by omega) (by omega)
  refine lv_aload_n hx hb dL_law_805 rfl (lv_at hl 2 rfl) ?_
  refine g_callVi (As := []) (rest := []) c1 rfl rfl gm_X4_undo hx hb hml hown hts hC hI (by decide) (e_gr rfl) rfl rfl qm_L_100 rfl hl.1 rfl ⟨rfl, rfl, by decide, by decide⟩ (Nat.le_of_ble_eq_true rfl) ⟨Nat.le_refl _, Nat.le_refl _⟩ dL_law_806 (fun H locs hI => ?_)
  refine lv_aload_n hx hb dL_law_809 rfl (lv_at hl 1 rfl) ?_
  refine g_callVi (As := []) (rest := [.int fr]) c2 rfl rfl gm_X5_undo hx hb hml hown hts hC hI (by decide) (e_x rfl) rfl rfl qm_L_104 rfl hl.1 rfl ⟨rfl, rfl, by decide, by decide⟩ (Nat.le_of_ble_eq_true rfl) ⟨Nat.le_refl _, Nat.le_refl _⟩ dL_law_810 (fun H locs hI => ?_)
  exact lv_icmp_eq (tgt := 890) hx hb dL_law_813 (by decide) (fun _ => K P1 M2 H locs hR hI) (fun z => absurd rfl z)
set_option maxHeartbeats 4000000 in
set_option maxRecDepth 100000 in
theorem w_case_type {p : Program} {l : Launch} {e : Env} {s : State} {m : MethodId} {below : List Frame} {meth : Method} {c : Code} {b L : Nat} {xs : Nat → Int32} {D : va_G} {tb : g_T} {ad : g_Ad} {k : Nat} {P : g_P} {M : g_M} {H : Heap} {locs : List Loc} {ls : Array Slot} {Q : State → Prop} (C0 : lw_At p s m meth c b L xs) (hL : L ≤ 2048) (hC : g_C D tb ad (fun q => s.heap.size ≤ q) s) (hk : 4 * k + 4 ≤ L) (h : z_Rc P M (k : Int)) (hI : g_I D tb ad (fun q => s.heap.size ≤ q) s H locs P M) (hl : lv_has ls 4 [(3, .int (nI (4 * k))), (2, .ref (ad 7 0)), (1, .ref (ad 6 0)), (0, .ref b)]) (K : ∀ (P1 : g_P) (M2 : g_M) (H1 : Heap) (locs1 : List Loc), z_Rc P1 M2 ((k : Int) + 1) → g_I D tb ad (fun q => s.heap.size ≤ q) s H1 locs1 P1 M2 → W p l e room_1 s m #[Value.ref b] below meth c H1 locs1 600000 7302250 Q (F0 m 890 ls [])) : W p l e room_1 s m #[Value.ref b] below meth c H locs 600000 7302250 Q (F0 m 818 ls []) := by
  obtain ⟨hx, hb, hr, hml, hown, hts0, hX, hbl, hlocks, hgv⟩ := C0
  have hts := g_of_tbl hts0
  have hbA : ¬ (fun q => s.heap.size ≤ q) b := Nat.not_le.mpr hbl
  obtain ⟨fr, P1, M1, M2, c1, c2, hR⟩ := L_type (l := l) (D := D) (tb := tb) (ad := ad) hC.2.2.2.1 h (by omega) (by omega) (xs (nI (4 * k + 1)).toNatClampNeg)
  refine lv_aload_n hx hb dL_law_818 rfl (lv_at hl 2 rfl) ?_
  refine lv_aload_n hx hb dL_law_819 rfl (lv_at hl 3 rfl) ?_
  refine lv_iload_n hx hb dL_law_820 rfl (lv_at hl 0 rfl) ?_
  refine lv_iconst (v := 1) hx hb dL_law_821 (by decide) ?_
  refine lv_iadd hx hb dL_law_822 ?_
  refine g_te (y := nI (4 * k + 1)) (nI_add (4 * k) 1) ?_
  refine va_sld hx hb hX hbl hbA hI.2 (vp_in_nI (show 4 * k + 1 < L by omega) (by omega)) dL_law_823 ?_
  refine g_callVi (As := [.int (xs (nI (4 * k + 1)).toNatClampNeg)]) (rest := []) c1 rfl rfl gm_X4_type hx hb hml hown hts hC hI (by decide) (e_gr rfl) rfl rfl qm_L_105 rfl hl.1 rfl ⟨rfl, rfl, by decide, by decide⟩ (Nat.le_of_ble_eq_true rfl) ⟨Nat.le_refl _, Nat.le_refl _⟩ dL_law_824 (fun H locs hI => ?_)
  refine lv_aload_n hx hb dL_law_827 rfl (lv_at hl 1 rfl) ?_
  refine lv_aload_n hx hb dL_law_828 rfl (lv_at hl 3 rfl) ?_
  refine lv_iload_n hx hb dL_law_829 rfl (lv_at hl 0 rfl) ?_
  refine lv_iconst (v := 1) hx hb dL_law_830 (by decide) ?_
  refine lv_iadd hx hb dL_law_831 ?_
  refine g_te (y := nI (4 * k + 1)) (nI_add (4 * k) 1) ?_
  refine va_sld hx hb hX hbl hbA hI.2 (vp_in_nI (show 4 * k + 1 < L by omega) (by omega)) dL_law_832 ?_
  refine g_callVi (As := [.int (xs (nI (4 * k + 1)).toNatClampNeg)]) (rest := [.int fr]) c2 rfl rfl gm_X5_type hx hb hml hown hts hC hI (by decide) (e_x rfl) rfl rfl qm_L_108 rfl hl.1 rfl ⟨rfl, rfl, by decide, by decide⟩ (Nat.le_of_ble_eq_true rfl) ⟨Nat.le_refl _, Nat.le_refl _⟩ dL_law_833 (fun H locs hI => ?_)
  exact lv_icmp_eq (tgt := 890) hx hb dL_law_836 (by decide) (fun _ => K P1 M2 H locs hR hI) (fun z => absurd rfl z)
set_option maxHeartbeats 4000000 in
set_option maxRecDepth 100000 in
theorem w_case_clearText {p : Program} {l : Launch} {e : Env} {s : State} {m : MethodId} {below : List Frame} {meth : Method} {c : Code} {b L : Nat} {xs : Nat → Int32} {D : va_G} {tb : g_T} {ad : g_Ad} {k : Nat} {P : g_P} {M : g_M} {H : Heap} {locs : List Loc} {ls : Array Slot} {Q : State → Prop} (C0 : lw_At p s m meth c b L xs) (hL : L ≤ 2048) (hC : g_C D tb ad (fun q => s.heap.size ≤ q) s) (hk : 4 * k + 4 ≤ L) (h : z_Rc P M (k : Int)) (hI : g_I D tb ad (fun q => s.heap.size ≤ q) s H locs P M) (hl : lv_has ls 4 [(3, .int (nI (4 * k))), (2, .ref (ad 7 0)), (1, .ref (ad 6 0)), (0, .ref b)]) (K : ∀ (P1 : g_P) (M2 : g_M) (H1 : Heap) (locs1 : List Loc), z_Rc P1 M2 ((k : Int) + 1) → g_I D tb ad (fun q => s.heap.size ≤ q) s H1 locs1 P1 M2 → W p l e room_1 s m #[Value.ref b] below meth c H1 locs1 600000 7302250 Q (F0 m 890 ls [])) : W p l e room_1 s m #[Value.ref b] below meth c H locs 600000 7302250 Q (F0 m 841 ls []) := by
  obtain ⟨hx, hb, hr, hml, hown, hts0, hX, hbl, hlocks, hgv⟩ := C0
  have hts := g_of_tbl hts0
  have hbA : ¬ (fun q => s.heap.size ≤ q) b := Nat.not_le.mpr hbl
  obtain ⟨fr, P1, M1, M2, c1, c2, hR⟩ := L_clearText (l := l) (D := D) (tb := tb) (ad := ad) hC.2.2.2.1 h (by omega) (by omega)
  refine lv_aload_n hx hb dL_law_841 rfl (lv_at hl 2 rfl) ?_
  refine g_callVi (As := []) (rest := []) c1 rfl rfl gm_X4_clearText hx hb hml hown hts hC hI (by decide) (e_gr rfl) rfl rfl qm_L_109 rfl hl.1 rfl ⟨rfl, rfl, by decide, by decide⟩ (Nat.le_of_ble_eq_true rfl) ⟨Nat.le_refl _, Nat.le_refl _⟩ dL_law_842 (fun H locs hI => ?_)
  refine lv_aload_n hx hb dL_law_845 rfl (lv_at hl 1 rfl) ?_
  refine g_callVi (As := []) (rest := [.int fr]) c2 rfl rfl gm_X5_clearText hx hb hml hown hts hC hI (by decide) (e_x rfl) rfl rfl qm_L_112 rfl hl.1 rfl ⟨rfl, rfl, by decide, by decide⟩ (Nat.le_of_ble_eq_true rfl) ⟨Nat.le_refl _, Nat.le_refl _⟩ dL_law_846 (fun H locs hI => ?_)
  exact lv_icmp_eq (tgt := 890) hx hb dL_law_849 (by decide) (fun _ => K P1 M2 H locs hR hI) (fun z => absurd rfl z)
set_option maxHeartbeats 4000000 in
set_option maxRecDepth 100000 in
theorem w_case_fault {p : Program} {l : Launch} {e : Env} {s : State} {m : MethodId} {below : List Frame} {meth : Method} {c : Code} {b L : Nat} {xs : Nat → Int32} {D : va_G} {tb : g_T} {ad : g_Ad} {k : Nat} {P : g_P} {M : g_M} {H : Heap} {locs : List Loc} {ls : Array Slot} {Q : State → Prop} (C0 : lw_At p s m meth c b L xs) (hL : L ≤ 2048) (hC : g_C D tb ad (fun q => s.heap.size ≤ q) s) (hk : 4 * k + 4 ≤ L) (h : z_Rc P M (k : Int)) (hI : g_I D tb ad (fun q => s.heap.size ≤ q) s H locs P M) (hl : lv_has ls 4 [(3, .int (nI (4 * k))), (2, .ref (ad 7 0)), (1, .ref (ad 6 0)), (0, .ref b)]) (K : ∀ (P1 : g_P) (M2 : g_M) (H1 : Heap) (locs1 : List Loc), z_Rc P1 M2 ((k : Int) + 1) → g_I D tb ad (fun q => s.heap.size ≤ q) s H1 locs1 P1 M2 → W p l e room_1 s m #[Value.ref b] below meth c H1 locs1 600000 7302250 Q (F0 m 890 ls [])) : W p l e room_1 s m #[Value.ref b] below meth c H locs 600000 7302250 Q (F0 m 854 ls []) := by
  obtain ⟨hx, hb, hr, hml, hown, hts0, hX, hbl, hlocks, hgv⟩ := C0
  have hts := g_of_tbl hts0
  have hbA : ¬ (fun q => s.heap.size ≤ q) b := Nat.not_le.mpr hbl
  obtain ⟨fr, P1, M1, M2, c1, c2, hR⟩ := L_fault (l := l) (D := D) (tb := tb) (ad := ad) hC.2.2.2.1 h (by omega) (by omega) (xs (nI (4 * k + 1)).toNatClampNeg)
  refine lv_aload_n hx hb dL_law_854 rfl (lv_at hl 2 rfl) ?_
  refine lv_aload_n hx hb dL_law_855 rfl (lv_at hl 3 rfl) ?_
  refine lv_iload_n hx hb dL_law_856 rfl (lv_at hl 0 rfl) ?_
  refine lv_iconst (v := 1) hx hb dL_law_857 (by decide) ?_
  refine lv_iadd hx hb dL_law_858 ?_
  refine g_te (y := nI (4 * k + 1)) (nI_add (4 * k) 1) ?_
  refine va_sld hx hb hX hbl hbA hI.2 (vp_in_nI (show 4 * k + 1 < L by omega) (by omega)) dL_law_859 ?_
  refine g_callVi (As := [.int (xs (nI (4 * k + 1)).toNatClampNeg)]) (rest := []) c1 rfl rfl gm_X4_fault hx hb hml hown hts hC hI (by decide) (e_gr rfl) rfl rfl qm_L_113 rfl hl.1 rfl ⟨rfl, rfl, by decide, by decide⟩ (Nat.le_of_ble_eq_true rfl) ⟨Nat.le_refl _, Nat.le_refl _⟩ dL_law_860 (fun H locs hI => ?_)
  refine lv_aload_n hx hb dL_law_863 rfl (lv_at hl 1 rfl) ?_
  refine lv_aload_n hx hb dL_law_864 rfl (lv_at hl 3 rfl) ?_
  refine lv_iload_n hx hb dL_law_865 rfl (lv_at hl 0 rfl) ?_
  refine lv_iconst (v := 1) hx hb dL_law_866 (by decide) ?_
  refine lv_iadd hx hb dL_law_867 ?_
  refine g_te (y := nI (4 * k + 1)) (nI_add (4 * k) 1) ?_
  refine va_sld hx hb hX hbl hbA hI.2 (vp_in_nI (show 4 * k + 1 < L by omega) (by omega)) dL_law_868 ?_
  refine g_callVi (As := [.int (xs (nI (4 * k + 1)).toNatClampNeg)]) (rest := [.int fr]) c2 rfl rfl gm_X5_fault hx hb hml hown hts hC hI (by decide) (e_x rfl) rfl rfl qm_L_116 rfl hl.1 rfl ⟨rfl, rfl, by decide, by decide⟩ (Nat.le_of_ble_eq_true rfl) ⟨Nat.le_refl _, Nat.le_refl _⟩ dL_law_869 (fun H locs hI => ?_)
  exact lv_icmp_eq (tgt := 890) hx hb dL_law_872 (by decide) (fun _ => K P1 M2 H locs hR hI) (fun z => absurd rfl z)
set_option maxHeartbeats 4000000 in
set_option maxRecDepth 100000 in
theorem w_case_play {p : Program} {l : Launch} {e : Env} {s : State} {m : MethodId} {below : List Frame} {meth : Method} {c : Code} {b L : Nat} {xs : Nat → Int32} {D : va_G} {tb : g_T} {ad : g_Ad} {k : Nat} {P : g_P} {M : g_M} {H : Heap} {locs : List Loc} {ls : Array Slot} {Q : State → Prop} (C0 : lw_At p s m meth c b L xs) (hL : L ≤ 2048) (hC : g_C D tb ad (fun q => s.heap.size ≤ q) s) (hk : 4 * k + 4 ≤ L) (h : z_Rc P M (k : Int)) (hI : g_I D tb ad (fun q => s.heap.size ≤ q) s H locs P M) (hl : lv_has ls 4 [(3, .int (nI (4 * k))), (2, .ref (ad 7 0)), (1, .ref (ad 6 0)), (0, .ref b)]) (K : ∀ (P1 : g_P) (M2 : g_M) (H1 : Heap) (locs1 : List Loc), z_Rc P1 M2 ((k : Int) + 1) → g_I D tb ad (fun q => s.heap.size ≤ q) s H1 locs1 P1 M2 → W p l e room_1 s m #[Value.ref b] below meth c H1 locs1 600000 7302250 Q (F0 m 890 ls [])) : W p l e room_1 s m #[Value.ref b] below meth c H locs 600000 7302250 Q (F0 m 877 ls []) := by
  obtain ⟨hx, hb, hr, hml, hown, hts0, hX, hbl, hlocks, hgv⟩ := C0
  have hts := g_of_tbl hts0
  have hbA : ¬ (fun q => s.heap.size ≤ q) b := Nat.not_le.mpr hbl
  obtain ⟨fr, P1, M1, M2, c1, c2, hR⟩ := L_play (l := l) (D := D) (tb := tb) (ad := ad) hC.2.2.2.1 h (by omega) (by omega)
  refine lv_aload_n hx hb dL_law_877 rfl (lv_at hl 2 rfl) ?_
  refine g_callVi (As := []) (rest := []) c1 rfl rfl gm_X4_play hx hb hml hown hts hC hI (by decide) (e_gr rfl) rfl rfl qm_L_117 rfl hl.1 rfl ⟨rfl, rfl, by decide, by decide⟩ (Nat.le_of_ble_eq_true rfl) ⟨Nat.le_refl _, Nat.le_refl _⟩ dL_law_878 (fun H locs hI => ?_)
  refine lv_aload_n hx hb dL_law_881 rfl (lv_at hl 1 rfl) ?_
  refine g_callVi (As := []) (rest := [.int fr]) c2 rfl rfl gm_X5_play hx hb hml hown hts hC hI (by decide) (e_x rfl) rfl rfl qm_L_120 rfl hl.1 rfl ⟨rfl, rfl, by decide, by decide⟩ (Nat.le_of_ble_eq_true rfl) ⟨Nat.le_refl _, Nat.le_refl _⟩ dL_law_882 (fun H locs hI => ?_)
  exact lv_icmp_eq (tgt := 890) hx hb dL_law_885 (by decide) (fun _ => K P1 M2 H locs hR hI) (fun z => absurd rfl z)
