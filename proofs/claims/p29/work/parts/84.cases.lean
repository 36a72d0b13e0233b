/-! ===== acts: each of its cases answers 1 ===== -/
abbrev rm_L_acts : Room := { frames := 8, cells := 0, slots := 0, locals := 183 }
section AC
variable {p : Program} {l : Launch} {e : Env} {s : State} {m : MethodId} {args : Array Value} {below : List Frame} {meth : Method} {c' : Code} {H : Heap} {locs : List Loc} {Q : State → Prop} {ls : Array Slot}
variable {D : va_G} {tb : g_T} {ad : g_Ad} {P : g_P} {M : g_M} {c : Int} {n : Nat} {x1 y1 k5 h3 th num amt loan own : Int32}
set_option maxHeartbeats 4000000 in
set_option maxRecDepth 100000 in
theorem a_store (X : L_x p s m args c' cL_acts 17 D tb ad (g_A ad)) (hzi : z_In P M c) (h0 : 0 ≤ c) (h1 : c ≤ 511) (hr : z_R (M (P 0)) (M 7 1) n (61 * c) (-(990000 * c)) (3960000 * c))
    (K : ∀ (pc : Nat) (ls : Array Slot) (P1 : g_P) (M1 : g_M) (H : Heap) (locs : List Loc), decode cL_acts pc = .ok (.ireturn, 1) → z_In P1 M1 (c + 1) → z_Step P M P1 M1 → g_I D tb ad (g_A ad) s H locs P1 M1 → W p l e rm_L_acts s m args below meth c' H locs 0 0 Q (F0 m pc ls [.int 1]))
    (hI : g_I D tb ad (g_A ad) s H locs P M) (hl : lv_has ls 17 [(10, .int own), (9, .int loan), (8, .int amt), (7, .int num), (6, .int th), (5, .int k5), (4, .int (nI n)), (3, .int h3), (2, .int y1), (1, .int x1), (0, .ref (ad 6 0))]) : W p l e rm_L_acts s m args below meth c' H locs 0 0 Q (F0 m 121 ls []) := by
  obtain ⟨hx, hb, hml, hown, hts, hC, hj⟩ := id X
  have hz := hzi.1
  have h16 : n ≤ 16 := hr.choose_spec.1.n16
  have hmd : m_place (M 7) (M 7 1 2) n = none := u_made hr.choose_spec.2.2.1
  refine lv_iload_n hx hb dL_acts_121 rfl (lv_at hl 8 rfl) ?_
  refine lv_bipush (v := 6) hx hb dL_acts_122 (by decide) ?_
  refine r_low (rest := []) X hI (by decide) hl.1 rfl ⟨rfl, rfl, by decide, by decide⟩ (Nat.le_of_ble_eq_true rfl) ⟨Nat.zero_le _, Nat.zero_le _⟩ dL_acts_124 (fun H locs hI w1 w1a w1b => ?_)
  have w1b : w1.toInt < 6 := w1b
  refine lv_istore (lv' := [(11, .int w1), (10, .int own), (9, .int loan), (8, .int amt), (7, .int num), (6, .int th), (5, .int k5), (4, .int (nI n)), (3, .int h3), (2, .int y1), (1, .int x1), (0, .ref (ad 6 0))]) hx hb dL_acts_127 hl (by decide) rfl (fun ls hl => ?_)
  refine lv_iload_n hx hb dL_acts_129 rfl (lv_at hl 9 rfl) ?_
  refine lv_iconst (v := 3) hx hb dL_acts_130 (by decide) ?_
  refine lv_ishr hx hb dL_acts_131 ?_
  refine lv_topi (fun sh2 _ => ?_)
  refine lv_iconst (v := 4) hx hb dL_acts_132 (by decide) ?_
  refine r_low (rest := []) X hI (by decide) hl.1 rfl ⟨rfl, rfl, by decide, by decide⟩ (Nat.le_of_ble_eq_true rfl) ⟨Nat.zero_le _, Nat.zero_le _⟩ dL_acts_133 (fun H locs hI w3 w3a w3b => ?_)
  have w3b : w3.toInt < 4 := w3b
  refine lv_istore (lv' := [(12, .int w3), (11, .int w1), (10, .int own), (9, .int loan), (8, .int amt), (7, .int num), (6, .int th), (5, .int k5), (4, .int (nI n)), (3, .int h3), (2, .int y1), (1, .int x1), (0, .ref (ad 6 0))]) hx hb dL_acts_136 hl (by decide) rfl (fun ls hl => ?_)
  refine lv_iload_n hx hb dL_acts_138 rfl (lv_at hl 10 rfl) ?_
  refine lv_iconst (v := 5) hx hb dL_acts_139 (by decide) ?_
  refine lv_ishr hx hb dL_acts_140 ?_
  refine lv_topi (fun sh4 _ => ?_)
  refine lv_sipush (v := 700) hx hb dL_acts_141 (by decide) ?_
  refine r_low (rest := []) X hI (by decide) hl.1 rfl ⟨rfl, rfl, by decide, by decide⟩ (Nat.le_of_ble_eq_true rfl) ⟨Nat.zero_le _, Nat.zero_le _⟩ dL_acts_144 (fun H locs hI w5 w5a w5b => ?_)
  have w5b : w5.toInt < 700 := w5b
  refine lv_istore (lv' := [(13, .int w5), (12, .int w3), (11, .int w1), (10, .int own), (9, .int loan), (8, .int amt), (7, .int num), (6, .int th), (5, .int k5), (4, .int (nI n)), (3, .int h3), (2, .int y1), (1, .int x1), (0, .ref (ad 6 0))]) hx hb dL_acts_147 hl (by decide) rfl (fun ls hl => ?_)
  refine lv_iload hx hb dL_acts_149 (lv_at hl 2 rfl) ?_
  refine lv_iconst (v := 5) hx hb dL_acts_151 (by decide) ?_
  refine lv_icmp_eq (tgt := 166) hx hb dL_acts_152 (by decide) (fun c6 => ?_) (fun c6 => ?_)
  · skip
    refine lv_iconst (v := 1) hx hb dL_acts_166 (by decide) ?_
    refine lv_goto (tgt := 171) hx hb dL_acts_167 (by decide) ?_
    refine lv_istore (lv' := [(14, .int 1), (13, .int w5), (12, .int w3), (11, .int w1), (10, .int own), (9, .int loan), (8, .int amt), (7, .int num), (6, .int th), (5, .int k5), (4, .int (nI n)), (3, .int h3), (2, .int y1), (1, .int x1), (0, .ref (ad 6 0))]) hx hb dL_acts_171 hl (by decide) rfl (fun ls hl => ?_)
    refine lv_iload hx hb dL_acts_173 (lv_at hl 0 rfl) ?_
    refine lv_if_ne (tgt := 201) hx hb dL_acts_175 (by decide) (fun _ => ?_) (fun c7 => absurd c7 (by decide))
    refine lv_iconst (v := 0) hx hb dL_acts_201 (by decide) ?_
    refine lv_istore (lv' := [(15, .int 0), (14, .int 1), (13, .int w5), (12, .int w3), (11, .int w1), (10, .int own), (9, .int loan), (8, .int amt), (7, .int num), (6, .int th), (5, .int k5), (4, .int (nI n)), (3, .int h3), (2, .int y1), (1, .int x1), (0, .ref (ad 6 0))]) hx hb dL_acts_202 hl (by decide) rfl (fun ls hl => ?_)
    refine lv_aload_n hx hb dL_acts_204 rfl (lv_at hl 15 rfl) ?_
    refine lv_iconst (v := 4) hx hb dL_acts_205 (by decide) ?_
    refine r_count (rest := []) X hI hz hl.1 rfl ⟨rfl, rfl, by decide, by decide⟩ (Nat.le_of_ble_eq_true rfl) ⟨Nat.zero_le _, Nat.zero_le _⟩ dL_acts_206 (fun H locs hI => ?_)
    refine g_te (y := (M 7 1 2)) ((q_cnt_of (by decide) (by decide)).trans (u_c4 hr)) ?_
    refine lv_istore (lv' := [(16, .int (M 7 1 2)), (15, .int 0), (14, .int 1), (13, .int w5), (12, .int w3), (11, .int w1), (10, .int own), (9, .int loan), (8, .int amt), (7, .int num), (6, .int th), (5, .int k5), (4, .int (nI n)), (3, .int h3), (2, .int y1), (1, .int x1), (0, .ref (ad 6 0))]) hx hb dL_acts_209 hl (by decide) rfl (fun ls hl => ?_)
    refine lv_aload_n hx hb dL_acts_211 rfl (lv_at hl 16 rfl) ?_
    refine lv_iload hx hb dL_acts_212 (lv_at hl 5 rfl) ?_
    refine lv_iload hx hb dL_acts_214 (lv_at hl 4 rfl) ?_
    refine lv_iload hx hb dL_acts_216 (lv_at hl 3 rfl) ?_
    refine r_store (rest := []) X hI hzi h0 h1 hr hl.1 rfl ⟨rfl, rfl, by decide, by decide⟩ (Nat.le_of_ble_eq_true rfl) ⟨Nat.zero_le _, Nat.zero_le _⟩ dL_acts_218 (fun P1 M1 hO H locs hI => ?_)
    refine g_te (y := (if w1 = 5 ∨ w3 = 3 ∨ w5 = 0 then -2000000001 else if q_tellGrade (M (P 0)) w3 4 < w5 ∨ nI n = 16 then -2000000003 else M 7 1 2)) (E_store hr ⟨w1a, w1b⟩ ⟨w3a, w3b⟩ ⟨w5a, w5b⟩) ?_
    refine lv_iload hx hb dL_acts_221 (lv_at hl 2 rfl) ?_
    refine lv_if_eq (tgt := 231) hx hb dL_acts_223 (by decide) (fun c8 => absurd c8 (by decide)) (fun _ => ?_)
    refine lv_ldc (v := (-2000000001)) hx hb hown (hts _ qc_L_44) dL_acts_226 ?_
    refine lv_goto (tgt := 243) hx hb dL_acts_228 (by decide) ?_
    refine lv_icmp_ne (tgt := 250) hx hb dL_acts_243 (by decide) (fun c9 => ?_) (fun c9 => ?_)
    · exact absurd (by simp only [c6, eq_self, if_true, if_false, or_true, true_or, or_self, or_false, false_or, not_true_eq_false, not_false_eq_true]) c9
    · skip
      refine lv_iconst (v := 1) hx hb dL_acts_246 (by decide) ?_
      refine lv_goto (tgt := 251) hx hb dL_acts_247 (by decide) ?_
      exact K _ _ _ _ _ _ dL_acts_251 hO.1 hO.2.1 hI
  · skip
    refine lv_iload hx hb dL_acts_155 (lv_at hl 1 rfl) ?_
    refine lv_iconst (v := 3) hx hb dL_acts_157 (by decide) ?_
    refine lv_icmp_eq (tgt := 166) hx hb dL_acts_158 (by decide) (fun c10 => ?_) (fun c10 => ?_)
    · skip
      refine lv_iconst (v := 1) hx hb dL_acts_166 (by decide) ?_
      refine lv_goto (tgt := 171) hx hb dL_acts_167 (by decide) ?_
      refine lv_istore (lv' := [(14, .int 1), (13, .int w5), (12, .int w3), (11, .int w1), (10, .int own), (9, .int loan), (8, .int amt), (7, .int num), (6, .int th), (5, .int k5), (4, .int (nI n)), (3, .int h3), (2, .int y1), (1, .int x1), (0, .ref (ad 6 0))]) hx hb dL_acts_171 hl (by decide) rfl (fun ls hl => ?_)
      refine lv_iload hx hb dL_acts_173 (lv_at hl 0 rfl) ?_
      refine lv_if_ne (tgt := 201) hx hb dL_acts_175 (by decide) (fun _ => ?_) (fun c11 => absurd c11 (by decide))
      refine lv_iconst (v := 0) hx hb dL_acts_201 (by decide) ?_
      refine lv_istore (lv' := [(15, .int 0), (14, .int 1), (13, .int w5), (12, .int w3), (11, .int w1), (10, .int own), (9, .int loan), (8, .int amt), (7, .int num), (6, .int th), (5, .int k5), (4, .int (nI n)), (3, .int h3), (2, .int y1), (1, .int x1), (0, .ref (ad 6 0))]) hx hb dL_acts_202 hl (by decide) rfl (fun ls hl => ?_)
      refine lv_aload_n hx hb dL_acts_204 rfl (lv_at hl 15 rfl) ?_
      refine lv_iconst (v := 4) hx hb dL_acts_205 (by decide) ?_
      refine r_count (rest := []) X hI hz hl.1 rfl ⟨rfl, rfl, by decide, by decide⟩ (Nat.le_of_ble_eq_true rfl) ⟨Nat.zero_le _, Nat.zero_le _⟩ dL_acts_206 (fun H locs hI => ?_)
      refine g_te (y := (M 7 1 2)) ((q_cnt_of (by decide) (by decide)).trans (u_c4 hr)) ?_
      refine lv_istore (lv' := [(16, .int (M 7 1 2)), (15, .int 0), (14, .int 1), (13, .int w5), (12, .int w3), (11, .int w1), (10, .int own), (9, .int loan), (8, .int amt), (7, .int num), (6, .int th), (5, .int k5), (4, .int (nI n)), (3, .int h3), (2, .int y1), (1, .int x1), (0, .ref (ad 6 0))]) hx hb dL_acts_209 hl (by decide) rfl (fun ls hl => ?_)
      refine lv_aload_n hx hb dL_acts_211 rfl (lv_at hl 16 rfl) ?_
      refine lv_iload hx hb dL_acts_212 (lv_at hl 5 rfl) ?_
      refine lv_iload hx hb dL_acts_214 (lv_at hl 4 rfl) ?_
      refine lv_iload hx hb dL_acts_216 (lv_at hl 3 rfl) ?_
      refine r_store (rest := []) X hI hzi h0 h1 hr hl.1 rfl ⟨rfl, rfl, by decide, by decide⟩ (Nat.le_of_ble_eq_true rfl) ⟨Nat.zero_le _, Nat.zero_le _⟩ dL_acts_218 (fun P1 M1 hO H locs hI => ?_)
      refine g_te (y := (if w1 = 5 ∨ w3 = 3 ∨ w5 = 0 then -2000000001 else if q_tellGrade (M (P 0)) w3 4 < w5 ∨ nI n = 16 then -2000000003 else M 7 1 2)) (E_store hr ⟨w1a, w1b⟩ ⟨w3a, w3b⟩ ⟨w5a, w5b⟩) ?_
      refine lv_iload hx hb dL_acts_221 (lv_at hl 2 rfl) ?_
      refine lv_if_eq (tgt := 231) hx hb dL_acts_223 (by decide) (fun c12 => absurd c12 (by decide)) (fun _ => ?_)
      refine lv_ldc (v := (-2000000001)) hx hb hown (hts _ qc_L_44) dL_acts_226 ?_
      refine lv_goto (tgt := 243) hx hb dL_acts_228 (by decide) ?_
      refine lv_icmp_ne (tgt := 250) hx hb dL_acts_243 (by decide) (fun c13 => ?_) (fun c13 => ?_)
      · exact absurd (by simp only [c6, c10, eq_self, if_true, if_false, or_true, true_or, or_self, or_false, false_or, not_true_eq_false, not_false_eq_true]) c13
      · skip
        refine lv_iconst (v := 1) hx hb dL_acts_246 (by decide) ?_
        refine lv_goto (tgt := 251) hx hb dL_acts_247 (by decide) ?_
        exact K _ _ _ _ _ _ dL_acts_251 hO.1 hO.2.1 hI
    · skip
      refine lv_iload hx hb dL_acts_161 (lv_at hl 0 rfl) ?_
      refine lv_if_ne (tgt := 170) hx hb dL_acts_163 (by decide) (fun c14 => ?_) (fun c14 => ?_)
      · skip
        refine lv_iconst (v := 0) hx hb dL_acts_170 (by decide) ?_
        refine lv_istore (lv' := [(14, .int 0), (13, .int w5), (12, .int w3), (11, .int w1), (10, .int own), (9, .int loan), (8, .int amt), (7, .int num), (6, .int th), (5, .int k5), (4, .int (nI n)), (3, .int h3), (2, .int y1), (1, .int x1), (0, .ref (ad 6 0))]) hx hb dL_acts_171 hl (by decide) rfl (fun ls hl => ?_)
        refine lv_iload hx hb dL_acts_173 (lv_at hl 0 rfl) ?_
        refine lv_if_ne (tgt := 201) hx hb dL_acts_175 (by decide) (fun c15 => absurd c15 (by decide)) (fun _ => ?_)
        refine lv_aload_n hx hb dL_acts_178 rfl (lv_at hl 14 rfl) ?_
        refine lv_iload hx hb dL_acts_179 (lv_at hl 2 rfl) ?_
        refine lv_iconst (v := 4) hx hb dL_acts_181 (by decide) ?_
        refine r_gradeOf (rest := []) X hI hz hl.1 rfl ⟨rfl, rfl, by decide, by decide⟩ (Nat.le_of_ble_eq_true rfl) ⟨Nat.zero_le _, Nat.zero_le _⟩ dL_acts_182 (fun H locs hI => ?_)
        refine lv_iload hx hb dL_acts_185 (lv_at hl 1 rfl) ?_
        refine lv_icmp_lt (tgt := 197) hx hb dL_acts_187 (by decide) (fun c16 => ?_) (fun c16 => ?_)
        · skip
          refine lv_iconst (v := 1) hx hb dL_acts_197 (by decide) ?_
          refine lv_goto (tgt := 202) hx hb dL_acts_198 (by decide) ?_
          refine lv_istore (lv' := [(15, .int 1), (14, .int 0), (13, .int w5), (12, .int w3), (11, .int w1), (10, .int own), (9, .int loan), (8, .int amt), (7, .int num), (6, .int th), (5, .int k5), (4, .int (nI n)), (3, .int h3), (2, .int y1), (1, .int x1), (0, .ref (ad 6 0))]) hx hb dL_acts_202 hl (by decide) rfl (fun ls hl => ?_)
          refine lv_aload_n hx hb dL_acts_204 rfl (lv_at hl 15 rfl) ?_
          refine lv_iconst (v := 4) hx hb dL_acts_205 (by decide) ?_
          refine r_count (rest := []) X hI hz hl.1 rfl ⟨rfl, rfl, by decide, by decide⟩ (Nat.le_of_ble_eq_true rfl) ⟨Nat.zero_le _, Nat.zero_le _⟩ dL_acts_206 (fun H locs hI => ?_)
          refine g_te (y := (M 7 1 2)) ((q_cnt_of (by decide) (by decide)).trans (u_c4 hr)) ?_
          refine lv_istore (lv' := [(16, .int (M 7 1 2)), (15, .int 1), (14, .int 0), (13, .int w5), (12, .int w3), (11, .int w1), (10, .int own), (9, .int loan), (8, .int amt), (7, .int num), (6, .int th), (5, .int k5), (4, .int (nI n)), (3, .int h3), (2, .int y1), (1, .int x1), (0, .ref (ad 6 0))]) hx hb dL_acts_209 hl (by decide) rfl (fun ls hl => ?_)
          refine lv_aload_n hx hb dL_acts_211 rfl (lv_at hl 16 rfl) ?_
          refine lv_iload hx hb dL_acts_212 (lv_at hl 5 rfl) ?_
          refine lv_iload hx hb dL_acts_214 (lv_at hl 4 rfl) ?_
          refine lv_iload hx hb dL_acts_216 (lv_at hl 3 rfl) ?_
          refine r_store (rest := []) X hI hzi h0 h1 hr hl.1 rfl ⟨rfl, rfl, by decide, by decide⟩ (Nat.le_of_ble_eq_true rfl) ⟨Nat.zero_le _, Nat.zero_le _⟩ dL_acts_218 (fun P1 M1 hO H locs hI => ?_)
          refine g_te (y := (if w1 = 5 ∨ w3 = 3 ∨ w5 = 0 then -2000000001 else if q_tellGrade (M (P 0)) w3 4 < w5 ∨ nI n = 16 then -2000000003 else M 7 1 2)) (E_store hr ⟨w1a, w1b⟩ ⟨w3a, w3b⟩ ⟨w5a, w5b⟩) ?_
          refine lv_iload hx hb dL_acts_221 (lv_at hl 2 rfl) ?_
          refine lv_if_eq (tgt := 231) hx hb dL_acts_223 (by decide) (fun _ => ?_) (fun c17 => absurd c17 (by decide))
          refine lv_iload hx hb dL_acts_231 (lv_at hl 1 rfl) ?_
          refine lv_if_eq (tgt := 241) hx hb dL_acts_233 (by decide) (fun c18 => absurd c18 (by decide)) (fun _ => ?_)
          refine lv_ldc (v := (-2000000003)) hx hb hown (hts _ qc_L_70) dL_acts_236 ?_
          refine lv_goto (tgt := 243) hx hb dL_acts_238 (by decide) ?_
          refine lv_icmp_ne (tgt := 250) hx hb dL_acts_243 (by decide) (fun c19 => ?_) (fun c19 => ?_)
          · exact absurd (by simp only [c6, c10, c14, c16, eq_self, if_true, if_false, or_true, true_or, or_self, or_false, false_or, not_true_eq_false, not_false_eq_true]) c19
          · skip
            refine lv_iconst (v := 1) hx hb dL_acts_246 (by decide) ?_
            refine lv_goto (tgt := 251) hx hb dL_acts_247 (by decide) ?_
            exact K _ _ _ _ _ _ dL_acts_251 hO.1 hO.2.1 hI
        · skip
          refine lv_iload hx hb dL_acts_190 (lv_at hl 10 rfl) ?_
          refine lv_bipush (v := 16) hx hb dL_acts_192 (by decide) ?_
          refine lv_icmp_ne (tgt := 201) hx hb dL_acts_194 (by decide) (fun c20 => ?_) (fun c20 => ?_)
          · skip
            refine lv_iconst (v := 0) hx hb dL_acts_201 (by decide) ?_
            refine lv_istore (lv' := [(15, .int 0), (14, .int 0), (13, .int w5), (12, .int w3), (11, .int w1), (10, .int own), (9, .int loan), (8, .int amt), (7, .int num), (6, .int th), (5, .int k5), (4, .int (nI n)), (3, .int h3), (2, .int y1), (1, .int x1), (0, .ref (ad 6 0))]) hx hb dL_acts_202 hl (by decide) rfl (fun ls hl => ?_)
            refine lv_aload_n hx hb dL_acts_204 rfl (lv_at hl 15 rfl) ?_
            refine lv_iconst (v := 4) hx hb dL_acts_205 (by decide) ?_
            refine r_count (rest := []) X hI hz hl.1 rfl ⟨rfl, rfl, by decide, by decide⟩ (Nat.le_of_ble_eq_true rfl) ⟨Nat.zero_le _, Nat.zero_le _⟩ dL_acts_206 (fun H locs hI => ?_)
            refine g_te (y := (M 7 1 2)) ((q_cnt_of (by decide) (by decide)).trans (u_c4 hr)) ?_
            refine lv_istore (lv' := [(16, .int (M 7 1 2)), (15, .int 0), (14, .int 0), (13, .int w5), (12, .int w3), (11, .int w1), (10, .int own), (9, .int loan), (8, .int amt), (7, .int num), (6, .int th), (5, .int k5), (4, .int (nI n)), (3, .int h3), (2, .int y1), (1, .int x1), (0, .ref (ad 6 0))]) hx hb dL_acts_209 hl (by decide) rfl (fun ls hl => ?_)
            refine lv_aload_n hx hb dL_acts_211 rfl (lv_at hl 16 rfl) ?_
            refine lv_iload hx hb dL_acts_212 (lv_at hl 5 rfl) ?_
            refine lv_iload hx hb dL_acts_214 (lv_at hl 4 rfl) ?_
            refine lv_iload hx hb dL_acts_216 (lv_at hl 3 rfl) ?_
            refine r_store (rest := []) X hI hzi h0 h1 hr hl.1 rfl ⟨rfl, rfl, by decide, by decide⟩ (Nat.le_of_ble_eq_true rfl) ⟨Nat.zero_le _, Nat.zero_le _⟩ dL_acts_218 (fun P1 M1 hO H locs hI => ?_)
            refine g_te (y := (if w1 = 5 ∨ w3 = 3 ∨ w5 = 0 then -2000000001 else if q_tellGrade (M (P 0)) w3 4 < w5 ∨ nI n = 16 then -2000000003 else M 7 1 2)) (E_store hr ⟨w1a, w1b⟩ ⟨w3a, w3b⟩ ⟨w5a, w5b⟩) ?_
            refine lv_iload hx hb dL_acts_221 (lv_at hl 2 rfl) ?_
            refine lv_if_eq (tgt := 231) hx hb dL_acts_223 (by decide) (fun _ => ?_) (fun c21 => absurd c21 (by decide))
            refine lv_iload hx hb dL_acts_231 (lv_at hl 1 rfl) ?_
            refine lv_if_eq (tgt := 241) hx hb dL_acts_233 (by decide) (fun _ => ?_) (fun c22 => absurd c22 (by decide))
            refine lv_iload hx hb dL_acts_241 (lv_at hl 0 rfl) ?_
            refine lv_icmp_ne (tgt := 250) hx hb dL_acts_243 (by decide) (fun c23 => ?_) (fun c23 => ?_)
            · exact absurd (by simp only [c6, c10, c14, c16, c20, eq_self, if_true, if_false, or_true, true_or, or_self, or_false, false_or, not_true_eq_false, not_false_eq_true]) c23
            · skip
              refine lv_iconst (v := 1) hx hb dL_acts_246 (by decide) ?_
              refine lv_goto (tgt := 251) hx hb dL_acts_247 (by decide) ?_
              exact K _ _ _ _ _ _ dL_acts_251 hO.1 hO.2.1 hI
          · skip
            refine lv_iconst (v := 1) hx hb dL_acts_197 (by decide) ?_
            refine lv_goto (tgt := 202) hx hb dL_acts_198 (by decide) ?_
            refine lv_istore (lv' := [(15, .int 1), (14, .int 0), (13, .int w5), (12, .int w3), (11, .int w1), (10, .int own), (9, .int loan), (8, .int amt), (7, .int num), (6, .int th), (5, .int k5), (4, .int (nI n)), (3, .int h3), (2, .int y1), (1, .int x1), (0, .ref (ad 6 0))]) hx hb dL_acts_202 hl (by decide) rfl (fun ls hl => ?_)
            refine lv_aload_n hx hb dL_acts_204 rfl (lv_at hl 15 rfl) ?_
            refine lv_iconst (v := 4) hx hb dL_acts_205 (by decide) ?_
            refine r_count (rest := []) X hI hz hl.1 rfl ⟨rfl, rfl, by decide, by decide⟩ (Nat.le_of_ble_eq_true rfl) ⟨Nat.zero_le _, Nat.zero_le _⟩ dL_acts_206 (fun H locs hI => ?_)
            refine g_te (y := (M 7 1 2)) ((q_cnt_of (by decide) (by decide)).trans (u_c4 hr)) ?_
            refine lv_istore (lv' := [(16, .int (M 7 1 2)), (15, .int 1), (14, .int 0), (13, .int w5), (12, .int w3), (11, .int w1), (10, .int own), (9, .int loan), (8, .int amt), (7, .int num), (6, .int th), (5, .int k5), (4, .int (nI n)), (3, .int h3), (2, .int y1), (1, .int x1), (0, .ref (ad 6 0))]) hx hb dL_acts_209 hl (by decide) rfl (fun ls hl => ?_)
            refine lv_aload_n hx hb dL_acts_211 rfl (lv_at hl 16 rfl) ?_
            refine lv_iload hx hb dL_acts_212 (lv_at hl 5 rfl) ?_
            refine lv_iload hx hb dL_acts_214 (lv_at hl 4 rfl) ?_
            refine lv_iload hx hb dL_acts_216 (lv_at hl 3 rfl) ?_
            refine r_store (rest := []) X hI hzi h0 h1 hr hl.1 rfl ⟨rfl, rfl, by decide, by decide⟩ (Nat.le_of_ble_eq_true rfl) ⟨Nat.zero_le _, Nat.zero_le _⟩ dL_acts_218 (fun P1 M1 hO H locs hI => ?_)
            refine g_te (y := (if w1 = 5 ∨ w3 = 3 ∨ w5 = 0 then -2000000001 else if q_tellGrade (M (P 0)) w3 4 < w5 ∨ nI n = 16 then -2000000003 else M 7 1 2)) (E_store hr ⟨w1a, w1b⟩ ⟨w3a, w3b⟩ ⟨w5a, w5b⟩) ?_
            refine lv_iload hx hb dL_acts_221 (lv_at hl 2 rfl) ?_
            refine lv_if_eq (tgt := 231) hx hb dL_acts_223 (by decide) (fun _ => ?_) (fun c24 => absurd c24 (by decide))
            refine lv_iload hx hb dL_acts_231 (lv_at hl 1 rfl) ?_
            refine lv_if_eq (tgt := 241) hx hb dL_acts_233 (by decide) (fun c25 => absurd c25 (by decide)) (fun _ => ?_)
            refine lv_ldc (v := (-2000000003)) hx hb hown (hts _ qc_L_70) dL_acts_236 ?_
            refine lv_goto (tgt := 243) hx hb dL_acts_238 (by decide) ?_
            refine lv_icmp_ne (tgt := 250) hx hb dL_acts_243 (by decide) (fun c26 => ?_) (fun c26 => ?_)
            · exact absurd (by simp only [c6, c10, c14, c16, c20, eq_self, if_true, if_false, or_true, true_or, or_self, or_false, false_or, not_true_eq_false, not_false_eq_true]) c26
            · skip
              refine lv_iconst (v := 1) hx hb dL_acts_246 (by decide) ?_
              refine lv_goto (tgt := 251) hx hb dL_acts_247 (by decide) ?_
              exact K _ _ _ _ _ _ dL_acts_251 hO.1 hO.2.1 hI
      · skip
        refine lv_iconst (v := 1) hx hb dL_acts_166 (by decide) ?_
        refine lv_goto (tgt := 171) hx hb dL_acts_167 (by decide) ?_
        refine lv_istore (lv' := [(14, .int 1), (13, .int w5), (12, .int w3), (11, .int w1), (10, .int own), (9, .int loan), (8, .int amt), (7, .int num), (6, .int th), (5, .int k5), (4, .int (nI n)), (3, .int h3), (2, .int y1), (1, .int x1), (0, .ref (ad 6 0))]) hx hb dL_acts_171 hl (by decide) rfl (fun ls hl => ?_)
        refine lv_iload hx hb dL_acts_173 (lv_at hl 0 rfl) ?_
        refine lv_if_ne (tgt := 201) hx hb dL_acts_175 (by decide) (fun _ => ?_) (fun c27 => absurd c27 (by decide))
        refine lv_iconst (v := 0) hx hb dL_acts_201 (by decide) ?_
        refine lv_istore (lv' := [(15, .int 0), (14, .int 1), (13, .int w5), (12, .int w3), (11, .int w1), (10, .int own), (9, .int loan), (8, .int amt), (7, .int num), (6, .int th), (5, .int k5), (4, .int (nI n)), (3, .int h3), (2, .int y1), (1, .int x1), (0, .ref (ad 6 0))]) hx hb dL_acts_202 hl (by decide) rfl (fun ls hl => ?_)
        refine lv_aload_n hx hb dL_acts_204 rfl (lv_at hl 15 rfl) ?_
        refine lv_iconst (v := 4) hx hb dL_acts_205 (by decide) ?_
        refine r_count (rest := []) X hI hz hl.1 rfl ⟨rfl, rfl, by decide, by decide⟩ (Nat.le_of_ble_eq_true rfl) ⟨Nat.zero_le _, Nat.zero_le _⟩ dL_acts_206 (fun H locs hI => ?_)
        refine g_te (y := (M 7 1 2)) ((q_cnt_of (by decide) (by decide)).trans (u_c4 hr)) ?_
        refine lv_istore (lv' := [(16, .int (M 7 1 2)), (15, .int 0), (14, .int 1), (13, .int w5), (12, .int w3), (11, .int w1), (10, .int own), (9, .int loan), (8, .int amt), (7, .int num), (6, .int th), (5, .int k5), (4, .int (nI n)), (3, .int h3), (2, .int y1), (1, .int x1), (0, .ref (ad 6 0))]) hx hb dL_acts_209 hl (by decide) rfl (fun ls hl => ?_)
        refine lv_aload_n hx hb dL_acts_211 rfl (lv_at hl 16 rfl) ?_
        refine lv_iload hx hb dL_acts_212 (lv_at hl 5 rfl) ?_
        refine lv_iload hx hb dL_acts_214 (lv_at hl 4 rfl) ?_
        refine lv_iload hx hb dL_acts_216 (lv_at hl 3 rfl) ?_
        refine r_store (rest := []) X hI hzi h0 h1 hr hl.1 rfl ⟨rfl, rfl, by decide, by decide⟩ (Nat.le_of_ble_eq_true rfl) ⟨Nat.zero_le _, Nat.zero_le _⟩ dL_acts_218 (fun P1 M1 hO H locs hI => ?_)
        refine g_te (y := (if w1 = 5 ∨ w3 = 3 ∨ w5 = 0 then -2000000001 else if q_tellGrade (M (P 0)) w3 4 < w5 ∨ nI n = 16 then -2000000003 else M 7 1 2)) (E_store hr ⟨w1a, w1b⟩ ⟨w3a, w3b⟩ ⟨w5a, w5b⟩) ?_
        refine lv_iload hx hb dL_acts_221 (lv_at hl 2 rfl) ?_
        refine lv_if_eq (tgt := 231) hx hb dL_acts_223 (by decide) (fun c28 => absurd c28 (by decide)) (fun _ => ?_)
        refine lv_ldc (v := (-2000000001)) hx hb hown (hts _ qc_L_44) dL_acts_226 ?_
        refine lv_goto (tgt := 243) hx hb dL_acts_228 (by decide) ?_
        refine lv_icmp_ne (tgt := 250) hx hb dL_acts_243 (by decide) (fun c29 => ?_) (fun c29 => ?_)
        · exact absurd (by simp only [c6, c10, c14, eq_self, if_true, if_false, or_true, true_or, or_self, or_false, false_or, not_true_eq_false, not_false_eq_true]) c29
        · skip
          refine lv_iconst (v := 1) hx hb dL_acts_246 (by decide) ?_
          refine lv_goto (tgt := 251) hx hb dL_acts_247 (by decide) ?_
          exact K _ _ _ _ _ _ dL_acts_251 hO.1 hO.2.1 hI
set_option maxHeartbeats 4000000 in
set_option maxRecDepth 100000 in
theorem a_split1 {k : Nat} (hk : k < n) (X : L_x p s m args c' cL_acts 17 D tb ad (g_A ad)) (hzi : z_In P M c) (h0 : 0 ≤ c) (h1 : c ≤ 511) (hr : z_R (M (P 0)) (M 7 1) n (61 * c) (-(990000 * c)) (3960000 * c))
    (K : ∀ (pc : Nat) (ls : Array Slot) (P1 : g_P) (M1 : g_M) (H : Heap) (locs : List Loc), decode cL_acts pc = .ok (.ireturn, 1) → z_In P1 M1 (c + 1) → z_Step P M P1 M1 → g_I D tb ad (g_A ad) s H locs P1 M1 → W p l e rm_L_acts s m args below meth c' H locs 0 0 Q (F0 m pc ls [.int 1]))
    (hI : g_I D tb ad (g_A ad) s H locs P M) (hl : lv_has ls 17 [(10, .int (M 7 1 (34 + 7 * k + 1))), (9, .int (u_loan (M 7) k)), (8, .int (M 7 1 (34 + 7 * k + 3))), (7, .int (M 7 1 (34 + 7 * k))), (6, .int 1), (5, .int k5), (4, .int (nI n)), (3, .int h3), (2, .int y1), (1, .int x1), (0, .ref (ad 6 0))]) : W p l e rm_L_acts s m args below meth c' H locs 0 0 Q (F0 m 258 ls []) := by
  obtain ⟨hx, hb, hml, hown, hts, hC, hj⟩ := id X
  have hz := hzi.1
  have h16 : n ≤ 16 := hr.choose_spec.1.n16
  have hmd : m_place (M 7) (M 7 1 2) n = none := u_made hr.choose_spec.2.2.1
  refine lv_iload_n hx hb dL_acts_258 rfl (lv_at hl 8 rfl) ?_
  refine lv_iload hx hb dL_acts_259 (lv_at hl 2 rfl) ?_
  refine lv_iconst (v := 2) hx hb dL_acts_261 (by decide) ?_
  refine lv_iadd hx hb dL_acts_262 ?_
  refine r_low (rest := []) X hI (u_amt2 hr hk) hl.1 rfl ⟨rfl, rfl, by decide, by decide⟩ (Nat.le_of_ble_eq_true rfl) ⟨Nat.zero_le _, Nat.zero_le _⟩ dL_acts_263 (fun H locs hI w1 w1a w1b => ?_)
  refine lv_istore (lv' := [(11, .int w1), (10, .int (M 7 1 (34 + 7 * k + 1))), (9, .int (u_loan (M 7) k)), (8, .int (M 7 1 (34 + 7 * k + 3))), (7, .int (M 7 1 (34 + 7 * k))), (6, .int 1), (5, .int k5), (4, .int (nI n)), (3, .int h3), (2, .int y1), (1, .int x1), (0, .ref (ad 6 0))]) hx hb dL_acts_266 hl (by decide) rfl (fun ls hl => ?_)
  refine lv_aload_n hx hb dL_acts_268 rfl (lv_at hl 11 rfl) ?_
  refine lv_iconst (v := 4) hx hb dL_acts_269 (by decide) ?_
  refine r_count (rest := []) X hI hz hl.1 rfl ⟨rfl, rfl, by decide, by decide⟩ (Nat.le_of_ble_eq_true rfl) ⟨Nat.zero_le _, Nat.zero_le _⟩ dL_acts_270 (fun H locs hI => ?_)
  refine g_te (y := (M 7 1 2)) ((q_cnt_of (by decide) (by decide)).trans (u_c4 hr)) ?_
  refine lv_istore (lv' := [(12, .int (M 7 1 2)), (11, .int w1), (10, .int (M 7 1 (34 + 7 * k + 1))), (9, .int (u_loan (M 7) k)), (8, .int (M 7 1 (34 + 7 * k + 3))), (7, .int (M 7 1 (34 + 7 * k))), (6, .int 1), (5, .int k5), (4, .int (nI n)), (3, .int h3), (2, .int y1), (1, .int x1), (0, .ref (ad 6 0))]) hx hb dL_acts_273 hl (by decide) rfl (fun ls hl => ?_)
  refine lv_aload_n hx hb dL_acts_275 rfl (lv_at hl 12 rfl) ?_
  refine lv_iload hx hb dL_acts_276 (lv_at hl 5 rfl) ?_
  refine lv_iload hx hb dL_acts_278 (lv_at hl 1 rfl) ?_
  refine r_split (rest := []) X hI hzi h0 h1 hr hl.1 rfl ⟨rfl, rfl, by decide, by decide⟩ (Nat.le_of_ble_eq_true rfl) ⟨Nat.zero_le _, Nat.zero_le _⟩ dL_acts_280 (fun P1 M1 hO H locs hI => ?_)
  refine g_te (y := (if w1 = 0 then -2000000001 else if w1 < M 7 1 (34 + 7 * k + 3) then (if nI n = 16 then -2000000003 else M 7 1 2) else -2000000002)) (E_split hr hk w1a) ?_
  refine lv_iload hx hb dL_acts_283 (lv_at hl 6 rfl) ?_
  refine lv_if_eq (tgt := 293) hx hb dL_acts_285 (by decide) (fun c2 => absurd c2 (by decide)) (fun _ => ?_)
  refine lv_iload hx hb dL_acts_288 (lv_at hl 1 rfl) ?_
  refine lv_if_ne (tgt := 298) hx hb dL_acts_290 (by decide) (fun c3 => ?_) (fun c3 => ?_)
  · skip
    refine lv_iload hx hb dL_acts_298 (lv_at hl 1 rfl) ?_
    refine lv_iload hx hb dL_acts_300 (lv_at hl 4 rfl) ?_
    refine lv_icmp_lt (tgt := 310) hx hb dL_acts_302 (by decide) (fun c4 => ?_) (fun c4 => ?_)
    · skip
      refine lv_iload hx hb dL_acts_310 (lv_at hl 8 rfl) ?_
      refine lv_bipush (v := 16) hx hb dL_acts_312 (by decide) ?_
      refine lv_icmp_ne (tgt := 322) hx hb dL_acts_314 (by decide) (fun c5 => ?_) (fun c5 => ?_)
      · skip
        refine lv_iload hx hb dL_acts_322 (lv_at hl 0 rfl) ?_
        refine lv_icmp_ne (tgt := 331) hx hb dL_acts_324 (by decide) (fun c6 => ?_) (fun c6 => ?_)
        · exact absurd (by simp only [if_neg c3, if_pos c4, if_neg c5]) c6
        · skip
          refine lv_iconst (v := 1) hx hb dL_acts_327 (by decide) ?_
          refine lv_goto (tgt := 332) hx hb dL_acts_328 (by decide) ?_
          exact K _ _ _ _ _ _ dL_acts_332 hO.1 hO.2.1 hI
      · skip
        refine lv_ldc (v := (-2000000003)) hx hb hown (hts _ qc_L_70) dL_acts_317 ?_
        refine lv_goto (tgt := 324) hx hb dL_acts_319 (by decide) ?_
        refine lv_icmp_ne (tgt := 331) hx hb dL_acts_324 (by decide) (fun c7 => ?_) (fun c7 => ?_)
        · exact absurd (by simp only [if_neg c3, if_pos c4, if_pos c5]) c7
        · skip
          refine lv_iconst (v := 1) hx hb dL_acts_327 (by decide) ?_
          refine lv_goto (tgt := 332) hx hb dL_acts_328 (by decide) ?_
          exact K _ _ _ _ _ _ dL_acts_332 hO.1 hO.2.1 hI
    · skip
      refine lv_ldc (v := (-2000000002)) hx hb hown (hts _ qc_L_65) dL_acts_305 ?_
      refine lv_goto (tgt := 324) hx hb dL_acts_307 (by decide) ?_
      refine lv_icmp_ne (tgt := 331) hx hb dL_acts_324 (by decide) (fun c8 => ?_) (fun c8 => ?_)
      · exact absurd (by simp only [if_neg c3, if_neg c4]) c8
      · skip
        refine lv_iconst (v := 1) hx hb dL_acts_327 (by decide) ?_
        refine lv_goto (tgt := 332) hx hb dL_acts_328 (by decide) ?_
        exact K _ _ _ _ _ _ dL_acts_332 hO.1 hO.2.1 hI
  · skip
    refine lv_ldc (v := (-2000000001)) hx hb hown (hts _ qc_L_44) dL_acts_293 ?_
    refine lv_goto (tgt := 324) hx hb dL_acts_295 (by decide) ?_
    refine lv_icmp_ne (tgt := 331) hx hb dL_acts_324 (by decide) (fun c9 => ?_) (fun c9 => ?_)
    · exact absurd (by simp only [if_pos c3]) c9
    · skip
      refine lv_iconst (v := 1) hx hb dL_acts_327 (by decide) ?_
      refine lv_goto (tgt := 332) hx hb dL_acts_328 (by decide) ?_
      exact K _ _ _ _ _ _ dL_acts_332 hO.1 hO.2.1 hI
set_option maxHeartbeats 4000000 in
set_option maxRecDepth 100000 in
theorem a_split0 (X : L_x p s m args c' cL_acts 17 D tb ad (g_A ad)) (hzi : z_In P M c) (h0 : 0 ≤ c) (h1 : c ≤ 511) (hr : z_R (M (P 0)) (M 7 1) n (61 * c) (-(990000 * c)) (3960000 * c))
    (K : ∀ (pc : Nat) (ls : Array Slot) (P1 : g_P) (M1 : g_M) (H : Heap) (locs : List Loc), decode cL_acts pc = .ok (.ireturn, 1) → z_In P1 M1 (c + 1) → z_Step P M P1 M1 → g_I D tb ad (g_A ad) s H locs P1 M1 → W p l e rm_L_acts s m args below meth c' H locs 0 0 Q (F0 m pc ls [.int 1]))
    (hI : g_I D tb ad (g_A ad) s H locs P M) (hl : lv_has ls 17 [(10, .int 0), (9, .int (-2000000004)), (8, .int 0), (7, .int (M 7 1 2)), (6, .int 0), (5, .int k5), (4, .int (nI n)), (3, .int h3), (2, .int y1), (1, .int x1), (0, .ref (ad 6 0))]) : W p l e rm_L_acts s m args below meth c' H locs 0 0 Q (F0 m 258 ls []) := by
  obtain ⟨hx, hb, hml, hown, hts, hC, hj⟩ := id X
  have hz := hzi.1
  have h16 : n ≤ 16 := hr.choose_spec.1.n16
  have hmd : m_place (M 7) (M 7 1 2) n = none := u_made hr.choose_spec.2.2.1
  refine lv_iload_n hx hb dL_acts_258 rfl (lv_at hl 8 rfl) ?_
  refine lv_iload hx hb dL_acts_259 (lv_at hl 2 rfl) ?_
  refine lv_iconst (v := 2) hx hb dL_acts_261 (by decide) ?_
  refine lv_iadd hx hb dL_acts_262 ?_
  refine g_te (y := 2) (by decide) ?_
  refine r_low (rest := []) X hI (by decide) hl.1 rfl ⟨rfl, rfl, by decide, by decide⟩ (Nat.le_of_ble_eq_true rfl) ⟨Nat.zero_le _, Nat.zero_le _⟩ dL_acts_263 (fun H locs hI w1 w1a w1b => ?_)
  have w1b : w1.toInt < 2 := w1b
  refine lv_istore (lv' := [(11, .int w1), (10, .int 0), (9, .int (-2000000004)), (8, .int 0), (7, .int (M 7 1 2)), (6, .int 0), (5, .int k5), (4, .int (nI n)), (3, .int h3), (2, .int y1), (1, .int x1), (0, .ref (ad 6 0))]) hx hb dL_acts_266 hl (by decide) rfl (fun ls hl => ?_)
  refine lv_aload_n hx hb dL_acts_268 rfl (lv_at hl 11 rfl) ?_
  refine lv_iconst (v := 4) hx hb dL_acts_269 (by decide) ?_
  refine r_count (rest := []) X hI hz hl.1 rfl ⟨rfl, rfl, by decide, by decide⟩ (Nat.le_of_ble_eq_true rfl) ⟨Nat.zero_le _, Nat.zero_le _⟩ dL_acts_270 (fun H locs hI => ?_)
  refine g_te (y := (M 7 1 2)) ((q_cnt_of (by decide) (by decide)).trans (u_c4 hr)) ?_
  refine lv_istore (lv' := [(12, .int (M 7 1 2)), (11, .int w1), (10, .int 0), (9, .int (-2000000004)), (8, .int 0), (7, .int (M 7 1 2)), (6, .int 0), (5, .int k5), (4, .int (nI n)), (3, .int h3), (2, .int y1), (1, .int x1), (0, .ref (ad 6 0))]) hx hb dL_acts_273 hl (by decide) rfl (fun ls hl => ?_)
  refine lv_aload_n hx hb dL_acts_275 rfl (lv_at hl 12 rfl) ?_
  refine lv_iload hx hb dL_acts_276 (lv_at hl 5 rfl) ?_
  refine lv_iload hx hb dL_acts_278 (lv_at hl 1 rfl) ?_
  refine r_split (rest := []) X hI hzi h0 h1 hr hl.1 rfl ⟨rfl, rfl, by decide, by decide⟩ (Nat.le_of_ble_eq_true rfl) ⟨Nat.zero_le _, Nat.zero_le _⟩ dL_acts_280 (fun P1 M1 hO H locs hI => ?_)
  refine g_te (y := (-2000000001)) (E_split0 hmd) ?_
  refine lv_iload hx hb dL_acts_283 (lv_at hl 6 rfl) ?_
  refine lv_if_eq (tgt := 293) hx hb dL_acts_285 (by decide) (fun _ => ?_) (fun c2 => absurd c2 (by decide))
  refine lv_ldc (v := (-2000000001)) hx hb hown (hts _ qc_L_44) dL_acts_293 ?_
  refine lv_goto (tgt := 324) hx hb dL_acts_295 (by decide) ?_
  refine lv_icmp_ne (tgt := 331) hx hb dL_acts_324 (by decide) (fun c3 => absurd c3 (by decide)) (fun _ => ?_)
  refine lv_iconst (v := 1) hx hb dL_acts_327 (by decide) ?_
  refine lv_goto (tgt := 332) hx hb dL_acts_328 (by decide) ?_
  exact K _ _ _ _ _ _ dL_acts_332 hO.1 hO.2.1 hI
set_option maxHeartbeats 4000000 in
set_option maxRecDepth 100000 in
theorem a_join1 {k : Nat} (hk : k < n) (X : L_x p s m args c' cL_acts 17 D tb ad (g_A ad)) (hzi : z_In P M c) (h0 : 0 ≤ c) (h1 : c ≤ 511) (hr : z_R (M (P 0)) (M 7 1) n (61 * c) (-(990000 * c)) (3960000 * c))
    (K : ∀ (pc : Nat) (ls : Array Slot) (P1 : g_P) (M1 : g_M) (H : Heap) (locs : List Loc), decode cL_acts pc = .ok (.ireturn, 1) → z_In P1 M1 (c + 1) → z_Step P M P1 M1 → g_I D tb ad (g_A ad) s H locs P1 M1 → W p l e rm_L_acts s m args below meth c' H locs 0 0 Q (F0 m pc ls [.int 1]))
    (hI : g_I D tb ad (g_A ad) s H locs P M) (hl : lv_has ls 17 [(10, .int (M 7 1 (34 + 7 * k + 1))), (9, .int (u_loan (M 7) k)), (8, .int (M 7 1 (34 + 7 * k + 3))), (7, .int (M 7 1 (34 + 7 * k))), (6, .int 1), (5, .int k5), (4, .int (nI n)), (3, .int h3), (2, .int y1), (1, .int x1), (0, .ref (ad 6 0))]) : W p l e rm_L_acts s m args below meth c' H locs 0 0 Q (F0 m 339 ls []) := by
  obtain ⟨hx, hb, hml, hown, hts, hC, hj⟩ := id X
  have hz := hzi.1
  have h16 : n ≤ 16 := hr.choose_spec.1.n16
  have hmd : m_place (M 7) (M 7 1 2) n = none := u_made hr.choose_spec.2.2.1
  refine lv_iload_n hx hb dL_acts_339 rfl (lv_at hl 8 rfl) ?_
  refine lv_iload hx hb dL_acts_340 (lv_at hl 6 rfl) ?_
  refine lv_iconst (v := 1) hx hb dL_acts_342 (by decide) ?_
  refine lv_iadd hx hb dL_acts_343 ?_
  refine g_te (nI_add n 1) ?_
  refine r_low (rest := []) X hI (u_pos1 h16) hl.1 rfl ⟨rfl, rfl, by decide, by decide⟩ (Nat.le_of_ble_eq_true rfl) ⟨Nat.zero_le _, Nat.zero_le _⟩ dL_acts_344 (fun H locs hI w1 w1a w1b => ?_)
  refine lv_istore (lv' := [(11, .int w1), (10, .int (M 7 1 (34 + 7 * k + 1))), (9, .int (u_loan (M 7) k)), (8, .int (M 7 1 (34 + 7 * k + 3))), (7, .int (M 7 1 (34 + 7 * k))), (6, .int 1), (5, .int k5), (4, .int (nI n)), (3, .int h3), (2, .int y1), (1, .int x1), (0, .ref (ad 6 0))]) hx hb dL_acts_347 hl (by decide) rfl (fun ls hl => ?_)
  refine lv_iload hx hb dL_acts_349 (lv_at hl 0 rfl) ?_
  refine lv_iload hx hb dL_acts_351 (lv_at hl 7 rfl) ?_
  refine lv_icmp_ge (tgt := 365) hx hb dL_acts_353 (by decide) (fun c2 => ?_) (fun c2 => ?_)
  · have hwn : w1 = nI n := u_hi w1b c2 h16
    refine lv_aload_n hx hb dL_acts_365 rfl (lv_at hl 11 rfl) ?_
    refine lv_iconst (v := 4) hx hb dL_acts_366 (by decide) ?_
    refine r_count (rest := []) X hI hz hl.1 rfl ⟨rfl, rfl, by decide, by decide⟩ (Nat.le_of_ble_eq_true rfl) ⟨Nat.zero_le _, Nat.zero_le _⟩ dL_acts_367 (fun H locs hI => ?_)
    refine g_te (y := (M 7 1 2)) ((q_cnt_of (by decide) (by decide)).trans (u_c4 hr)) ?_
    refine lv_iconst (v := 1) hx hb dL_acts_370 (by decide) ?_
    refine lv_iadd hx hb dL_acts_371 ?_
    refine lv_istore (lv' := [(12, .int ((M 7 1 2) + 1)), (11, .int w1), (10, .int (M 7 1 (34 + 7 * k + 1))), (9, .int (u_loan (M 7) k)), (8, .int (M 7 1 (34 + 7 * k + 3))), (7, .int (M 7 1 (34 + 7 * k))), (6, .int 1), (5, .int k5), (4, .int (nI n)), (3, .int h3), (2, .int y1), (1, .int x1), (0, .ref (ad 6 0))]) hx hb dL_acts_372 hl (by decide) rfl (fun ls hl => ?_)
    refine lv_iload hx hb dL_acts_374 (lv_at hl 6 rfl) ?_
    refine lv_if_eq (tgt := 393) hx hb dL_acts_376 (by decide) (fun c3 => absurd c3 (by decide)) (fun _ => ?_)
    refine lv_iload hx hb dL_acts_379 (lv_at hl 1 rfl) ?_
    refine lv_iload hx hb dL_acts_381 (lv_at hl 8 rfl) ?_
    refine lv_icmp_eq (tgt := 393) hx hb dL_acts_383 (by decide) (fun c4 => ?_) (fun c4 => ?_)
    · skip
      refine lv_iconst (v := 1) hx hb dL_acts_393 (by decide) ?_
      refine lv_goto (tgt := 398) hx hb dL_acts_394 (by decide) ?_
      refine lv_istore (lv' := [(13, .int 1), (12, .int ((M 7 1 2) + 1)), (11, .int w1), (10, .int (M 7 1 (34 + 7 * k + 1))), (9, .int (u_loan (M 7) k)), (8, .int (M 7 1 (34 + 7 * k + 3))), (7, .int (M 7 1 (34 + 7 * k))), (6, .int 1), (5, .int k5), (4, .int (nI n)), (3, .int h3), (2, .int y1), (1, .int x1), (0, .ref (ad 6 0))]) hx hb dL_acts_398 hl (by decide) rfl (fun ls hl => ?_)
      refine lv_iload hx hb dL_acts_400 (lv_at hl 0 rfl) ?_
      refine lv_if_ne (tgt := 457) hx hb dL_acts_402 (by decide) (fun _ => ?_) (fun c5 => absurd c5 (by decide))
      refine lv_iconst (v := 0) hx hb dL_acts_457 (by decide) ?_
      refine lv_istore (lv' := [(14, .int 0), (13, .int 1), (12, .int ((M 7 1 2) + 1)), (11, .int w1), (10, .int (M 7 1 (34 + 7 * k + 1))), (9, .int (u_loan (M 7) k)), (8, .int (M 7 1 (34 + 7 * k + 3))), (7, .int (M 7 1 (34 + 7 * k))), (6, .int 1), (5, .int k5), (4, .int (nI n)), (3, .int h3), (2, .int y1), (1, .int x1), (0, .ref (ad 6 0))]) hx hb dL_acts_458 hl (by decide) rfl (fun ls hl => ?_)
      refine lv_iload hx hb dL_acts_460 (lv_at hl 1 rfl) ?_
      refine lv_if_eq (tgt := 469) hx hb dL_acts_462 (by decide) (fun c6 => absurd c6 (by decide)) (fun _ => ?_)
      refine lv_iconst (v := 0) hx hb dL_acts_465 (by decide) ?_
      refine lv_goto (tgt := 479) hx hb dL_acts_466 (by decide) ?_
      refine lv_istore (lv' := [(15, .int 0), (14, .int 0), (13, .int 1), (12, .int ((M 7 1 2) + 1)), (11, .int w1), (10, .int (M 7 1 (34 + 7 * k + 1))), (9, .int (u_loan (M 7) k)), (8, .int (M 7 1 (34 + 7 * k + 3))), (7, .int (M 7 1 (34 + 7 * k))), (6, .int 1), (5, .int k5), (4, .int (nI n)), (3, .int h3), (2, .int y1), (1, .int x1), (0, .ref (ad 6 0))]) hx hb dL_acts_479 hl (by decide) rfl (fun ls hl => ?_)
      refine lv_aload_n hx hb dL_acts_481 rfl (lv_at hl 15 rfl) ?_
      refine lv_iload hx hb dL_acts_482 (lv_at hl 8 rfl) ?_
      refine lv_iload hx hb dL_acts_484 (lv_at hl 3 rfl) ?_
      refine r_join (rest := []) X hI hzi h0 h1 hr hl.1 rfl ⟨rfl, rfl, by decide, by decide⟩ (Nat.le_of_ble_eq_true rfl) ⟨Nat.zero_le _, Nat.zero_le _⟩ dL_acts_486 (fun P1 M1 hO H locs hI => ?_)
      refine g_te (y := (-2000000001)) (E_join0 (Or.inr (u_made1 hr.choose_spec.2.2.1 (by omega)))) ?_
      refine lv_iload hx hb dL_acts_489 (lv_at hl 2 rfl) ?_
      refine lv_if_eq (tgt := 499) hx hb dL_acts_491 (by decide) (fun c7 => absurd c7 (by decide)) (fun _ => ?_)
      refine lv_ldc (v := (-2000000001)) hx hb hown (hts _ qc_L_44) dL_acts_494 ?_
      refine lv_goto (tgt := 511) hx hb dL_acts_496 (by decide) ?_
      refine lv_icmp_ne (tgt := 518) hx hb dL_acts_511 (by decide) (fun c8 => absurd c8 (by decide)) (fun _ => ?_)
      refine lv_iconst (v := 1) hx hb dL_acts_514 (by decide) ?_
      refine lv_goto (tgt := 519) hx hb dL_acts_515 (by decide) ?_
      exact K _ _ _ _ _ _ dL_acts_519 hO.1 hO.2.1 hI
    · exact absurd hwn c4
  · obtain ⟨i, hin, rfl⟩ := u_lo w1a c2 h16
    refine lv_aload_n hx hb dL_acts_356 rfl (lv_at hl 11 rfl) ?_
    refine lv_iload hx hb dL_acts_357 (lv_at hl 0 rfl) ?_
    refine r_receipt (rest := []) X hI hz hl.1 rfl ⟨rfl, rfl, by decide, by decide⟩ (Nat.le_of_ble_eq_true rfl) ⟨Nat.zero_le _, Nat.zero_le _⟩ dL_acts_359 (fun H locs hI => ?_)
    refine g_te (y := (M 7 1 (34 + 7 * i))) (u_num hr hin) ?_
    refine lv_goto (tgt := 372) hx hb dL_acts_362 (by decide) ?_
    refine lv_istore (lv' := [(12, .int (M 7 1 (34 + 7 * i))), (11, .int (nI i)), (10, .int (M 7 1 (34 + 7 * k + 1))), (9, .int (u_loan (M 7) k)), (8, .int (M 7 1 (34 + 7 * k + 3))), (7, .int (M 7 1 (34 + 7 * k))), (6, .int 1), (5, .int k5), (4, .int (nI n)), (3, .int h3), (2, .int y1), (1, .int x1), (0, .ref (ad 6 0))]) hx hb dL_acts_372 hl (by decide) rfl (fun ls hl => ?_)
    refine lv_iload hx hb dL_acts_374 (lv_at hl 6 rfl) ?_
    refine lv_if_eq (tgt := 393) hx hb dL_acts_376 (by decide) (fun c9 => absurd c9 (by decide)) (fun _ => ?_)
    refine lv_iload hx hb dL_acts_379 (lv_at hl 1 rfl) ?_
    refine lv_iload hx hb dL_acts_381 (lv_at hl 8 rfl) ?_
    refine lv_icmp_eq (tgt := 393) hx hb dL_acts_383 (by decide) (fun c10 => ?_) (fun c10 => ?_)
    · exact absurd c10 (fun z => by have := (nI_eq (a := i) (b := n) (by omega) (by omega)).mp z; omega)
    · skip
      refine lv_iload hx hb dL_acts_386 (lv_at hl 5 rfl) ?_
      refine lv_iload hx hb dL_acts_388 (lv_at hl 0 rfl) ?_
      refine lv_icmp_ne (tgt := 397) hx hb dL_acts_390 (by decide) (fun c11 => ?_) (fun c11 => ?_)
      · skip
        refine lv_iconst (v := 0) hx hb dL_acts_397 (by decide) ?_
        refine lv_istore (lv' := [(13, .int 0), (12, .int (M 7 1 (34 + 7 * i))), (11, .int (nI i)), (10, .int (M 7 1 (34 + 7 * k + 1))), (9, .int (u_loan (M 7) k)), (8, .int (M 7 1 (34 + 7 * k + 3))), (7, .int (M 7 1 (34 + 7 * k))), (6, .int 1), (5, .int k5), (4, .int (nI n)), (3, .int h3), (2, .int y1), (1, .int x1), (0, .ref (ad 6 0))]) hx hb dL_acts_398 hl (by decide) rfl (fun ls hl => ?_)
        refine lv_iload hx hb dL_acts_400 (lv_at hl 0 rfl) ?_
        refine lv_if_ne (tgt := 457) hx hb dL_acts_402 (by decide) (fun c12 => absurd c12 (by decide)) (fun _ => ?_)
        refine lv_iload hx hb dL_acts_405 (lv_at hl 3 rfl) ?_
        refine lv_aload_n hx hb dL_acts_407 rfl (lv_at hl 13 rfl) ?_
        refine lv_iload hx hb dL_acts_408 (lv_at hl 1 rfl) ?_
        refine lv_iconst (v := 0) hx hb dL_acts_410 (by decide) ?_
        refine r_receiptOf (rest := [.int (M 7 1 (34 + 7 * k + 1))]) X hI hz hl.1 rfl ⟨rfl, rfl, by decide, by decide⟩ (Nat.le_of_ble_eq_true rfl) ⟨Nat.zero_le _, Nat.zero_le _⟩ dL_acts_411 (fun H locs hI => ?_)
        refine g_te (y := (M 7 1 (34 + 7 * i + 1))) (u_r0 hr hin) ?_
        refine lv_icmp_ne (tgt := 457) hx hb dL_acts_414 (by decide) (fun c13 => ?_) (fun c13 => ?_)
        · skip
          refine lv_iconst (v := 0) hx hb dL_acts_457 (by decide) ?_
          refine lv_istore (lv' := [(14, .int 0), (13, .int 0), (12, .int (M 7 1 (34 + 7 * i))), (11, .int (nI i)), (10, .int (M 7 1 (34 + 7 * k + 1))), (9, .int (u_loan (M 7) k)), (8, .int (M 7 1 (34 + 7 * k + 3))), (7, .int (M 7 1 (34 + 7 * k))), (6, .int 1), (5, .int k5), (4, .int (nI n)), (3, .int h3), (2, .int y1), (1, .int x1), (0, .ref (ad 6 0))]) hx hb dL_acts_458 hl (by decide) rfl (fun ls hl => ?_)
          refine lv_iload hx hb dL_acts_460 (lv_at hl 1 rfl) ?_
          refine lv_if_eq (tgt := 469) hx hb dL_acts_462 (by decide) (fun _ => ?_) (fun c14 => absurd c14 (by decide))
          refine lv_iload hx hb dL_acts_469 (lv_at hl 6 rfl) ?_
          refine lv_aload_n hx hb dL_acts_471 rfl (lv_at hl 14 rfl) ?_
          refine lv_iload hx hb dL_acts_472 (lv_at hl 2 rfl) ?_
          refine lv_iconst (v := 2) hx hb dL_acts_474 (by decide) ?_
          refine r_receiptOf (rest := [.int (M 7 1 (34 + 7 * k + 3))]) X hI hz hl.1 rfl ⟨rfl, rfl, by decide, by decide⟩ (Nat.le_of_ble_eq_true rfl) ⟨Nat.zero_le _, Nat.zero_le _⟩ dL_acts_475 (fun H locs hI => ?_)
          refine g_te (y := (M 7 1 (34 + 7 * i + 3))) (u_r2 hr hin) ?_
          refine lv_iadd hx hb dL_acts_478 ?_
          refine lv_istore (lv' := [(15, .int ((M 7 1 (34 + 7 * k + 3)) + (M 7 1 (34 + 7 * i + 3)))), (14, .int 0), (13, .int 0), (12, .int (M 7 1 (34 + 7 * i))), (11, .int (nI i)), (10, .int (M 7 1 (34 + 7 * k + 1))), (9, .int (u_loan (M 7) k)), (8, .int (M 7 1 (34 + 7 * k + 3))), (7, .int (M 7 1 (34 + 7 * k))), (6, .int 1), (5, .int k5), (4, .int (nI n)), (3, .int h3), (2, .int y1), (1, .int x1), (0, .ref (ad 6 0))]) hx hb dL_acts_479 hl (by decide) rfl (fun ls hl => ?_)
          refine lv_aload_n hx hb dL_acts_481 rfl (lv_at hl 15 rfl) ?_
          refine lv_iload hx hb dL_acts_482 (lv_at hl 8 rfl) ?_
          refine lv_iload hx hb dL_acts_484 (lv_at hl 3 rfl) ?_
          refine r_join (rest := []) X hI hzi h0 h1 hr hl.1 rfl ⟨rfl, rfl, by decide, by decide⟩ (Nat.le_of_ble_eq_true rfl) ⟨Nat.zero_le _, Nat.zero_le _⟩ dL_acts_486 (fun P1 M1 hO H locs hI => ?_)
          refine g_te (y := (if M 7 1 (34 + 7 * k) = M 7 1 (34 + 7 * i) then -2000000001 else if M 7 1 (34 + 7 * k + 1) = M 7 1 (34 + 7 * i + 1) then (if M 7 1 (34 + 7 * k + 2) = M 7 1 (34 + 7 * i + 2) then (if u_loan (M 7) k = -2000000004 then (if u_loan (M 7) i = -2000000004 then M 7 1 (34 + 7 * k + 3) + M 7 1 (34 + 7 * i + 3) else -2000000002) else -2000000002) else -2000000002) else -2000000002)) (E_join hr hk hin) ?_
          refine lv_iload hx hb dL_acts_489 (lv_at hl 2 rfl) ?_
          refine lv_if_eq (tgt := 499) hx hb dL_acts_491 (by decide) (fun _ => ?_) (fun c15 => absurd c15 (by decide))
          refine lv_iload hx hb dL_acts_499 (lv_at hl 1 rfl) ?_
          refine lv_if_eq (tgt := 509) hx hb dL_acts_501 (by decide) (fun _ => ?_) (fun c16 => absurd c16 (by decide))
          refine lv_ldc (v := (-2000000002)) hx hb hown (hts _ qc_L_65) dL_acts_509 ?_
          refine lv_icmp_ne (tgt := 518) hx hb dL_acts_511 (by decide) (fun c17 => ?_) (fun c17 => ?_)
          · exact absurd (by simp only [if_neg c2, if_neg c10, if_neg c11, if_neg c13]) c17
          · skip
            refine lv_iconst (v := 1) hx hb dL_acts_514 (by decide) ?_
            refine lv_goto (tgt := 519) hx hb dL_acts_515 (by decide) ?_
            exact K _ _ _ _ _ _ dL_acts_519 hO.1 hO.2.1 hI
        · skip
          refine lv_aload_n hx hb dL_acts_417 rfl (lv_at hl 13 rfl) ?_
          refine lv_iload hx hb dL_acts_418 (lv_at hl 6 rfl) ?_
          refine lv_iconst (v := 1) hx hb dL_acts_420 (by decide) ?_
          refine r_receiptOf (rest := []) X hI hz hl.1 rfl ⟨rfl, rfl, by decide, by decide⟩ (Nat.le_of_ble_eq_true rfl) ⟨Nat.zero_le _, Nat.zero_le _⟩ dL_acts_421 (fun H locs hI => ?_)
          refine g_te (y := (M 7 1 (34 + 7 * k + 2))) (u_r1 hr hk) ?_
          refine lv_aload_n hx hb dL_acts_424 rfl (lv_at hl 13 rfl) ?_
          refine lv_iload hx hb dL_acts_425 (lv_at hl 1 rfl) ?_
          refine lv_iconst (v := 1) hx hb dL_acts_427 (by decide) ?_
          refine r_receiptOf (rest := [.int (M 7 1 (34 + 7 * k + 2))]) X hI hz hl.1 rfl ⟨rfl, rfl, by decide, by decide⟩ (Nat.le_of_ble_eq_true rfl) ⟨Nat.zero_le _, Nat.zero_le _⟩ dL_acts_428 (fun H locs hI => ?_)
          refine g_te (y := (M 7 1 (34 + 7 * i + 2))) (u_r1 hr hin) ?_
          refine lv_icmp_ne (tgt := 457) hx hb dL_acts_431 (by decide) (fun c18 => ?_) (fun c18 => ?_)
          · skip
            refine lv_iconst (v := 0) hx hb dL_acts_457 (by decide) ?_
            refine lv_istore (lv' := [(14, .int 0), (13, .int 0), (12, .int (M 7 1 (34 + 7 * i))), (11, .int (nI i)), (10, .int (M 7 1 (34 + 7 * k + 1))), (9, .int (u_loan (M 7) k)), (8, .int (M 7 1 (34 + 7 * k + 3))), (7, .int (M 7 1 (34 + 7 * k))), (6, .int 1), (5, .int k5), (4, .int (nI n)), (3, .int h3), (2, .int y1), (1, .int x1), (0, .ref (ad 6 0))]) hx hb dL_acts_458 hl (by decide) rfl (fun ls hl => ?_)
            refine lv_iload hx hb dL_acts_460 (lv_at hl 1 rfl) ?_
            refine lv_if_eq (tgt := 469) hx hb dL_acts_462 (by decide) (fun _ => ?_) (fun c19 => absurd c19 (by decide))
            refine lv_iload hx hb dL_acts_469 (lv_at hl 6 rfl) ?_
            refine lv_aload_n hx hb dL_acts_471 rfl (lv_at hl 14 rfl) ?_
            refine lv_iload hx hb dL_acts_472 (lv_at hl 2 rfl) ?_
            refine lv_iconst (v := 2) hx hb dL_acts_474 (by decide) ?_
            refine r_receiptOf (rest := [.int (M 7 1 (34 + 7 * k + 3))]) X hI hz hl.1 rfl ⟨rfl, rfl, by decide, by decide⟩ (Nat.le_of_ble_eq_true rfl) ⟨Nat.zero_le _, Nat.zero_le _⟩ dL_acts_475 (fun H locs hI => ?_)
            refine g_te (y := (M 7 1 (34 + 7 * i + 3))) (u_r2 hr hin) ?_
            refine lv_iadd hx hb dL_acts_478 ?_
            refine lv_istore (lv' := [(15, .int ((M 7 1 (34 + 7 * k + 3)) + (M 7 1 (34 + 7 * i + 3)))), (14, .int 0), (13, .int 0), (12, .int (M 7 1 (34 + 7 * i))), (11, .int (nI i)), (10, .int (M 7 1 (34 + 7 * k + 1))), (9, .int (u_loan (M 7) k)), (8, .int (M 7 1 (34 + 7 * k + 3))), (7, .int (M 7 1 (34 + 7 * k))), (6, .int 1), (5, .int k5), (4, .int (nI n)), (3, .int h3), (2, .int y1), (1, .int x1), (0, .ref (ad 6 0))]) hx hb dL_acts_479 hl (by decide) rfl (fun ls hl => ?_)
            refine lv_aload_n hx hb dL_acts_481 rfl (lv_at hl 15 rfl) ?_
            refine lv_iload hx hb dL_acts_482 (lv_at hl 8 rfl) ?_
            refine lv_iload hx hb dL_acts_484 (lv_at hl 3 rfl) ?_
            refine r_join (rest := []) X hI hzi h0 h1 hr hl.1 rfl ⟨rfl, rfl, by decide, by decide⟩ (Nat.le_of_ble_eq_true rfl) ⟨Nat.zero_le _, Nat.zero_le _⟩ dL_acts_486 (fun P1 M1 hO H locs hI => ?_)
            refine g_te (y := (if M 7 1 (34 + 7 * k) = M 7 1 (34 + 7 * i) then -2000000001 else if M 7 1 (34 + 7 * k + 1) = M 7 1 (34 + 7 * i + 1) then (if M 7 1 (34 + 7 * k + 2) = M 7 1 (34 + 7 * i + 2) then (if u_loan (M 7) k = -2000000004 then (if u_loan (M 7) i = -2000000004 then M 7 1 (34 + 7 * k + 3) + M 7 1 (34 + 7 * i + 3) else -2000000002) else -2000000002) else -2000000002) else -2000000002)) (E_join hr hk hin) ?_
            refine lv_iload hx hb dL_acts_489 (lv_at hl 2 rfl) ?_
            refine lv_if_eq (tgt := 499) hx hb dL_acts_491 (by decide) (fun _ => ?_) (fun c20 => absurd c20 (by decide))
            refine lv_iload hx hb dL_acts_499 (lv_at hl 1 rfl) ?_
            refine lv_if_eq (tgt := 509) hx hb dL_acts_501 (by decide) (fun _ => ?_) (fun c21 => absurd c21 (by decide))
            refine lv_ldc (v := (-2000000002)) hx hb hown (hts _ qc_L_65) dL_acts_509 ?_
            refine lv_icmp_ne (tgt := 518) hx hb dL_acts_511 (by decide) (fun c22 => ?_) (fun c22 => ?_)
            · exact absurd (by simp only [if_neg c2, if_neg c10, if_neg c11, if_pos c13, if_neg c18]) c22
            · skip
              refine lv_iconst (v := 1) hx hb dL_acts_514 (by decide) ?_
              refine lv_goto (tgt := 519) hx hb dL_acts_515 (by decide) ?_
              exact K _ _ _ _ _ _ dL_acts_519 hO.1 hO.2.1 hI
          · skip
            refine lv_iload hx hb dL_acts_434 (lv_at hl 4 rfl) ?_
            refine lv_ldc (v := (-2000000004)) hx hb hown (hts _ qc_L_43) dL_acts_436 ?_
            refine lv_icmp_ne (tgt := 457) hx hb dL_acts_438 (by decide) (fun c23 => ?_) (fun c23 => ?_)
            · skip
              refine lv_iconst (v := 0) hx hb dL_acts_457 (by decide) ?_
              refine lv_istore (lv' := [(14, .int 0), (13, .int 0), (12, .int (M 7 1 (34 + 7 * i))), (11, .int (nI i)), (10, .int (M 7 1 (34 + 7 * k + 1))), (9, .int (u_loan (M 7) k)), (8, .int (M 7 1 (34 + 7 * k + 3))), (7, .int (M 7 1 (34 + 7 * k))), (6, .int 1), (5, .int k5), (4, .int (nI n)), (3, .int h3), (2, .int y1), (1, .int x1), (0, .ref (ad 6 0))]) hx hb dL_acts_458 hl (by decide) rfl (fun ls hl => ?_)
              refine lv_iload hx hb dL_acts_460 (lv_at hl 1 rfl) ?_
              refine lv_if_eq (tgt := 469) hx hb dL_acts_462 (by decide) (fun _ => ?_) (fun c24 => absurd c24 (by decide))
              refine lv_iload hx hb dL_acts_469 (lv_at hl 6 rfl) ?_
              refine lv_aload_n hx hb dL_acts_471 rfl (lv_at hl 14 rfl) ?_
              refine lv_iload hx hb dL_acts_472 (lv_at hl 2 rfl) ?_
              refine lv_iconst (v := 2) hx hb dL_acts_474 (by decide) ?_
              refine r_receiptOf (rest := [.int (M 7 1 (34 + 7 * k + 3))]) X hI hz hl.1 rfl ⟨rfl, rfl, by decide, by decide⟩ (Nat.le_of_ble_eq_true rfl) ⟨Nat.zero_le _, Nat.zero_le _⟩ dL_acts_475 (fun H locs hI => ?_)
              refine g_te (y := (M 7 1 (34 + 7 * i + 3))) (u_r2 hr hin) ?_
              refine lv_iadd hx hb dL_acts_478 ?_
              refine lv_istore (lv' := [(15, .int ((M 7 1 (34 + 7 * k + 3)) + (M 7 1 (34 + 7 * i + 3)))), (14, .int 0), (13, .int 0), (12, .int (M 7 1 (34 + 7 * i))), (11, .int (nI i)), (10, .int (M 7 1 (34 + 7 * k + 1))), (9, .int (u_loan (M 7) k)), (8, .int (M 7 1 (34 + 7 * k + 3))), (7, .int (M 7 1 (34 + 7 * k))), (6, .int 1), (5, .int k5), (4, .int (nI n)), (3, .int h3), (2, .int y1), (1, .int x1), (0, .ref (ad 6 0))]) hx hb dL_acts_479 hl (by decide) rfl (fun ls hl => ?_)
              refine lv_aload_n hx hb dL_acts_481 rfl (lv_at hl 15 rfl) ?_
              refine lv_iload hx hb dL_acts_482 (lv_at hl 8 rfl) ?_
              refine lv_iload hx hb dL_acts_484 (lv_at hl 3 rfl) ?_
              refine r_join (rest := []) X hI hzi h0 h1 hr hl.1 rfl ⟨rfl, rfl, by decide, by decide⟩ (Nat.le_of_ble_eq_true rfl) ⟨Nat.zero_le _, Nat.zero_le _⟩ dL_acts_486 (fun P1 M1 hO H locs hI => ?_)
              refine g_te (y := (if M 7 1 (34 + 7 * k) = M 7 1 (34 + 7 * i) then -2000000001 else if M 7 1 (34 + 7 * k + 1) = M 7 1 (34 + 7 * i + 1) then (if M 7 1 (34 + 7 * k + 2) = M 7 1 (34 + 7 * i + 2) then (if u_loan (M 7) k = -2000000004 then (if u_loan (M 7) i = -2000000004 then M 7 1 (34 + 7 * k + 3) + M 7 1 (34 + 7 * i + 3) else -2000000002) else -2000000002) else -2000000002) else -2000000002)) (E_join hr hk hin) ?_
              refine lv_iload hx hb dL_acts_489 (lv_at hl 2 rfl) ?_
              refine lv_if_eq (tgt := 499) hx hb dL_acts_491 (by decide) (fun _ => ?_) (fun c25 => absurd c25 (by decide))
              refine lv_iload hx hb dL_acts_499 (lv_at hl 1 rfl) ?_
              refine lv_if_eq (tgt := 509) hx hb dL_acts_501 (by decide) (fun _ => ?_) (fun c26 => absurd c26 (by decide))
              refine lv_ldc (v := (-2000000002)) hx hb hown (hts _ qc_L_65) dL_acts_509 ?_
              refine lv_icmp_ne (tgt := 518) hx hb dL_acts_511 (by decide) (fun c27 => ?_) (fun c27 => ?_)
              · exact absurd (by simp only [if_neg c2, if_neg c10, if_neg c11, if_pos c13, if_pos c18, if_neg c23]) c27
              · skip
                refine lv_iconst (v := 1) hx hb dL_acts_514 (by decide) ?_
                refine lv_goto (tgt := 519) hx hb dL_acts_515 (by decide) ?_
                exact K _ _ _ _ _ _ dL_acts_519 hO.1 hO.2.1 hI
            · skip
              refine lv_aload_n hx hb dL_acts_441 rfl (lv_at hl 13 rfl) ?_
              refine lv_iload hx hb dL_acts_442 (lv_at hl 1 rfl) ?_
              refine lv_iconst (v := 5) hx hb dL_acts_444 (by decide) ?_
              refine r_receiptOf (rest := []) X hI hz hl.1 rfl ⟨rfl, rfl, by decide, by decide⟩ (Nat.le_of_ble_eq_true rfl) ⟨Nat.zero_le _, Nat.zero_le _⟩ dL_acts_445 (fun H locs hI => ?_)
              refine g_te (y := (u_loan (M 7) i)) (u_r5 hr hin) ?_
              refine lv_ldc (v := (-2000000004)) hx hb hown (hts _ qc_L_43) dL_acts_448 ?_
              refine lv_icmp_ne (tgt := 457) hx hb dL_acts_450 (by decide) (fun c28 => ?_) (fun c28 => ?_)
              · skip
                refine lv_iconst (v := 0) hx hb dL_acts_457 (by decide) ?_
                refine lv_istore (lv' := [(14, .int 0), (13, .int 0), (12, .int (M 7 1 (34 + 7 * i))), (11, .int (nI i)), (10, .int (M 7 1 (34 + 7 * k + 1))), (9, .int (u_loan (M 7) k)), (8, .int (M 7 1 (34 + 7 * k + 3))), (7, .int (M 7 1 (34 + 7 * k))), (6, .int 1), (5, .int k5), (4, .int (nI n)), (3, .int h3), (2, .int y1), (1, .int x1), (0, .ref (ad 6 0))]) hx hb dL_acts_458 hl (by decide) rfl (fun ls hl => ?_)
                refine lv_iload hx hb dL_acts_460 (lv_at hl 1 rfl) ?_
                refine lv_if_eq (tgt := 469) hx hb dL_acts_462 (by decide) (fun _ => ?_) (fun c29 => absurd c29 (by decide))
                refine lv_iload hx hb dL_acts_469 (lv_at hl 6 rfl) ?_
                refine lv_aload_n hx hb dL_acts_471 rfl (lv_at hl 14 rfl) ?_
                refine lv_iload hx hb dL_acts_472 (lv_at hl 2 rfl) ?_
                refine lv_iconst (v := 2) hx hb dL_acts_474 (by decide) ?_
                refine r_receiptOf (rest := [.int (M 7 1 (34 + 7 * k + 3))]) X hI hz hl.1 rfl ⟨rfl, rfl, by decide, by decide⟩ (Nat.le_of_ble_eq_true rfl) ⟨Nat.zero_le _, Nat.zero_le _⟩ dL_acts_475 (fun H locs hI => ?_)
                refine g_te (y := (M 7 1 (34 + 7 * i + 3))) (u_r2 hr hin) ?_
                refine lv_iadd hx hb dL_acts_478 ?_
                refine lv_istore (lv' := [(15, .int ((M 7 1 (34 + 7 * k + 3)) + (M 7 1 (34 + 7 * i + 3)))), (14, .int 0), (13, .int 0), (12, .int (M 7 1 (34 + 7 * i))), (11, .int (nI i)), (10, .int (M 7 1 (34 + 7 * k + 1))), (9, .int (u_loan (M 7) k)), (8, .int (M 7 1 (34 + 7 * k + 3))), (7, .int (M 7 1 (34 + 7 * k))), (6, .int 1), (5, .int k5), (4, .int (nI n)), (3, .int h3), (2, .int y1), (1, .int x1), (0, .ref (ad 6 0))]) hx hb dL_acts_479 hl (by decide) rfl (fun ls hl => ?_)
                refine lv_aload_n hx hb dL_acts_481 rfl (lv_at hl 15 rfl) ?_
                refine lv_iload hx hb dL_acts_482 (lv_at hl 8 rfl) ?_
                refine lv_iload hx hb dL_acts_484 (lv_at hl 3 rfl) ?_
                refine r_join (rest := []) X hI hzi h0 h1 hr hl.1 rfl ⟨rfl, rfl, by decide, by decide⟩ (Nat.le_of_ble_eq_true rfl) ⟨Nat.zero_le _, Nat.zero_le _⟩ dL_acts_486 (fun P1 M1 hO H locs hI => ?_)
                refine g_te (y := (if M 7 1 (34 + 7 * k) = M 7 1 (34 + 7 * i) then -2000000001 else if M 7 1 (34 + 7 * k + 1) = M 7 1 (34 + 7 * i + 1) then (if M 7 1 (34 + 7 * k + 2) = M 7 1 (34 + 7 * i + 2) then (if u_loan (M 7) k = -2000000004 then (if u_loan (M 7) i = -2000000004 then M 7 1 (34 + 7 * k + 3) + M 7 1 (34 + 7 * i + 3) else -2000000002) else -2000000002) else -2000000002) else -2000000002)) (E_join hr hk hin) ?_
                refine lv_iload hx hb dL_acts_489 (lv_at hl 2 rfl) ?_
                refine lv_if_eq (tgt := 499) hx hb dL_acts_491 (by decide) (fun _ => ?_) (fun c30 => absurd c30 (by decide))
                refine lv_iload hx hb dL_acts_499 (lv_at hl 1 rfl) ?_
                refine lv_if_eq (tgt := 509) hx hb dL_acts_501 (by decide) (fun _ => ?_) (fun c31 => absurd c31 (by decide))
                refine lv_ldc (v := (-2000000002)) hx hb hown (hts _ qc_L_65) dL_acts_509 ?_
                refine lv_icmp_ne (tgt := 518) hx hb dL_acts_511 (by decide) (fun c32 => ?_) (fun c32 => ?_)
                · exact absurd (by simp only [if_neg c2, if_neg c10, if_neg c11, if_pos c13, if_pos c18, if_pos c23, if_neg c28]) c32
                · skip
                  refine lv_iconst (v := 1) hx hb dL_acts_514 (by decide) ?_
                  refine lv_goto (tgt := 519) hx hb dL_acts_515 (by decide) ?_
                  exact K _ _ _ _ _ _ dL_acts_519 hO.1 hO.2.1 hI
              · skip
                refine lv_iconst (v := 1) hx hb dL_acts_453 (by decide) ?_
                refine lv_goto (tgt := 458) hx hb dL_acts_454 (by decide) ?_
                refine lv_istore (lv' := [(14, .int 1), (13, .int 0), (12, .int (M 7 1 (34 + 7 * i))), (11, .int (nI i)), (10, .int (M 7 1 (34 + 7 * k + 1))), (9, .int (u_loan (M 7) k)), (8, .int (M 7 1 (34 + 7 * k + 3))), (7, .int (M 7 1 (34 + 7 * k))), (6, .int 1), (5, .int k5), (4, .int (nI n)), (3, .int h3), (2, .int y1), (1, .int x1), (0, .ref (ad 6 0))]) hx hb dL_acts_458 hl (by decide) rfl (fun ls hl => ?_)
                refine lv_iload hx hb dL_acts_460 (lv_at hl 1 rfl) ?_
                refine lv_if_eq (tgt := 469) hx hb dL_acts_462 (by decide) (fun _ => ?_) (fun c33 => absurd c33 (by decide))
                refine lv_iload hx hb dL_acts_469 (lv_at hl 6 rfl) ?_
                refine lv_aload_n hx hb dL_acts_471 rfl (lv_at hl 14 rfl) ?_
                refine lv_iload hx hb dL_acts_472 (lv_at hl 2 rfl) ?_
                refine lv_iconst (v := 2) hx hb dL_acts_474 (by decide) ?_
                refine r_receiptOf (rest := [.int (M 7 1 (34 + 7 * k + 3))]) X hI hz hl.1 rfl ⟨rfl, rfl, by decide, by decide⟩ (Nat.le_of_ble_eq_true rfl) ⟨Nat.zero_le _, Nat.zero_le _⟩ dL_acts_475 (fun H locs hI => ?_)
                refine g_te (y := (M 7 1 (34 + 7 * i + 3))) (u_r2 hr hin) ?_
                refine lv_iadd hx hb dL_acts_478 ?_
                refine lv_istore (lv' := [(15, .int ((M 7 1 (34 + 7 * k + 3)) + (M 7 1 (34 + 7 * i + 3)))), (14, .int 1), (13, .int 0), (12, .int (M 7 1 (34 + 7 * i))), (11, .int (nI i)), (10, .int (M 7 1 (34 + 7 * k + 1))), (9, .int (u_loan (M 7) k)), (8, .int (M 7 1 (34 + 7 * k + 3))), (7, .int (M 7 1 (34 + 7 * k))), (6, .int 1), (5, .int k5), (4, .int (nI n)), (3, .int h3), (2, .int y1), (1, .int x1), (0, .ref (ad 6 0))]) hx hb dL_acts_479 hl (by decide) rfl (fun ls hl => ?_)
                refine lv_aload_n hx hb dL_acts_481 rfl (lv_at hl 15 rfl) ?_
                refine lv_iload hx hb dL_acts_482 (lv_at hl 8 rfl) ?_
                refine lv_iload hx hb dL_acts_484 (lv_at hl 3 rfl) ?_
                refine r_join (rest := []) X hI hzi h0 h1 hr hl.1 rfl ⟨rfl, rfl, by decide, by decide⟩ (Nat.le_of_ble_eq_true rfl) ⟨Nat.zero_le _, Nat.zero_le _⟩ dL_acts_486 (fun P1 M1 hO H locs hI => ?_)
                refine g_te (y := (if M 7 1 (34 + 7 * k) = M 7 1 (34 + 7 * i) then -2000000001 else if M 7 1 (34 + 7 * k + 1) = M 7 1 (34 + 7 * i + 1) then (if M 7 1 (34 + 7 * k + 2) = M 7 1 (34 + 7 * i + 2) then (if u_loan (M 7) k = -2000000004 then (if u_loan (M 7) i = -2000000004 then M 7 1 (34 + 7 * k + 3) + M 7 1 (34 + 7 * i + 3) else -2000000002) else -2000000002) else -2000000002) else -2000000002)) (E_join hr hk hin) ?_
                refine lv_iload hx hb dL_acts_489 (lv_at hl 2 rfl) ?_
                refine lv_if_eq (tgt := 499) hx hb dL_acts_491 (by decide) (fun _ => ?_) (fun c34 => absurd c34 (by decide))
                refine lv_iload hx hb dL_acts_499 (lv_at hl 1 rfl) ?_
                refine lv_if_eq (tgt := 509) hx hb dL_acts_501 (by decide) (fun c35 => absurd c35 (by decide)) (fun _ => ?_)
                refine lv_iload hx hb dL_acts_504 (lv_at hl 0 rfl) ?_
                refine lv_goto (tgt := 511) hx hb dL_acts_506 (by decide) ?_
                refine lv_icmp_ne (tgt := 518) hx hb dL_acts_511 (by decide) (fun c36 => ?_) (fun c36 => ?_)
                · exact absurd (by simp only [if_neg c2, if_neg c10, if_neg c11, if_pos c13, if_pos c18, if_pos c23, if_pos c28]) c36
                · skip
                  refine lv_iconst (v := 1) hx hb dL_acts_514 (by decide) ?_
                  refine lv_goto (tgt := 519) hx hb dL_acts_515 (by decide) ?_
                  exact K _ _ _ _ _ _ dL_acts_519 hO.1 hO.2.1 hI
      · skip
        refine lv_iconst (v := 1) hx hb dL_acts_393 (by decide) ?_
        refine lv_goto (tgt := 398) hx hb dL_acts_394 (by decide) ?_
        refine lv_istore (lv' := [(13, .int 1), (12, .int (M 7 1 (34 + 7 * i))), (11, .int (nI i)), (10, .int (M 7 1 (34 + 7 * k + 1))), (9, .int (u_loan (M 7) k)), (8, .int (M 7 1 (34 + 7 * k + 3))), (7, .int (M 7 1 (34 + 7 * k))), (6, .int 1), (5, .int k5), (4, .int (nI n)), (3, .int h3), (2, .int y1), (1, .int x1), (0, .ref (ad 6 0))]) hx hb dL_acts_398 hl (by decide) rfl (fun ls hl => ?_)
        refine lv_iload hx hb dL_acts_400 (lv_at hl 0 rfl) ?_
        refine lv_if_ne (tgt := 457) hx hb dL_acts_402 (by decide) (fun _ => ?_) (fun c37 => absurd c37 (by decide))
        refine lv_iconst (v := 0) hx hb dL_acts_457 (by decide) ?_
        refine lv_istore (lv' := [(14, .int 0), (13, .int 1), (12, .int (M 7 1 (34 + 7 * i))), (11, .int (nI i)), (10, .int (M 7 1 (34 + 7 * k + 1))), (9, .int (u_loan (M 7) k)), (8, .int (M 7 1 (34 + 7 * k + 3))), (7, .int (M 7 1 (34 + 7 * k))), (6, .int 1), (5, .int k5), (4, .int (nI n)), (3, .int h3), (2, .int y1), (1, .int x1), (0, .ref (ad 6 0))]) hx hb dL_acts_458 hl (by decide) rfl (fun ls hl => ?_)
        refine lv_iload hx hb dL_acts_460 (lv_at hl 1 rfl) ?_
        refine lv_if_eq (tgt := 469) hx hb dL_acts_462 (by decide) (fun c38 => absurd c38 (by decide)) (fun _ => ?_)
        refine lv_iconst (v := 0) hx hb dL_acts_465 (by decide) ?_
        refine lv_goto (tgt := 479) hx hb dL_acts_466 (by decide) ?_
        refine lv_istore (lv' := [(15, .int 0), (14, .int 0), (13, .int 1), (12, .int (M 7 1 (34 + 7 * i))), (11, .int (nI i)), (10, .int (M 7 1 (34 + 7 * k + 1))), (9, .int (u_loan (M 7) k)), (8, .int (M 7 1 (34 + 7 * k + 3))), (7, .int (M 7 1 (34 + 7 * k))), (6, .int 1), (5, .int k5), (4, .int (nI n)), (3, .int h3), (2, .int y1), (1, .int x1), (0, .ref (ad 6 0))]) hx hb dL_acts_479 hl (by decide) rfl (fun ls hl => ?_)
        refine lv_aload_n hx hb dL_acts_481 rfl (lv_at hl 15 rfl) ?_
        refine lv_iload hx hb dL_acts_482 (lv_at hl 8 rfl) ?_
        refine lv_iload hx hb dL_acts_484 (lv_at hl 3 rfl) ?_
        refine r_join (rest := []) X hI hzi h0 h1 hr hl.1 rfl ⟨rfl, rfl, by decide, by decide⟩ (Nat.le_of_ble_eq_true rfl) ⟨Nat.zero_le _, Nat.zero_le _⟩ dL_acts_486 (fun P1 M1 hO H locs hI => ?_)
        refine g_te (y := (if M 7 1 (34 + 7 * k) = M 7 1 (34 + 7 * i) then -2000000001 else if M 7 1 (34 + 7 * k + 1) = M 7 1 (34 + 7 * i + 1) then (if M 7 1 (34 + 7 * k + 2) = M 7 1 (34 + 7 * i + 2) then (if u_loan (M 7) k = -2000000004 then (if u_loan (M 7) i = -2000000004 then M 7 1 (34 + 7 * k + 3) + M 7 1 (34 + 7 * i + 3) else -2000000002) else -2000000002) else -2000000002) else -2000000002)) (E_join hr hk hin) ?_
        refine lv_iload hx hb dL_acts_489 (lv_at hl 2 rfl) ?_
        refine lv_if_eq (tgt := 499) hx hb dL_acts_491 (by decide) (fun c39 => absurd c39 (by decide)) (fun _ => ?_)
        refine lv_ldc (v := (-2000000001)) hx hb hown (hts _ qc_L_44) dL_acts_494 ?_
        refine lv_goto (tgt := 511) hx hb dL_acts_496 (by decide) ?_
        refine lv_icmp_ne (tgt := 518) hx hb dL_acts_511 (by decide) (fun c40 => ?_) (fun c40 => ?_)
        · exact absurd (by simp only [if_neg c2, if_neg c10, if_pos c11]) c40
        · skip
          refine lv_iconst (v := 1) hx hb dL_acts_514 (by decide) ?_
          refine lv_goto (tgt := 519) hx hb dL_acts_515 (by decide) ?_
          exact K _ _ _ _ _ _ dL_acts_519 hO.1 hO.2.1 hI
set_option maxHeartbeats 4000000 in
set_option maxRecDepth 100000 in
theorem a_join0 (X : L_x p s m args c' cL_acts 17 D tb ad (g_A ad)) (hzi : z_In P M c) (h0 : 0 ≤ c) (h1 : c ≤ 511) (hr : z_R (M (P 0)) (M 7 1) n (61 * c) (-(990000 * c)) (3960000 * c))
    (K : ∀ (pc : Nat) (ls : Array Slot) (P1 : g_P) (M1 : g_M) (H : Heap) (locs : List Loc), decode cL_acts pc = .ok (.ireturn, 1) → z_In P1 M1 (c + 1) → z_Step P M P1 M1 → g_I D tb ad (g_A ad) s H locs P1 M1 → W p l e rm_L_acts s m args below meth c' H locs 0 0 Q (F0 m pc ls [.int 1]))
    (hI : g_I D tb ad (g_A ad) s H locs P M) (hl : lv_has ls 17 [(10, .int 0), (9, .int (-2000000004)), (8, .int 0), (7, .int (M 7 1 2)), (6, .int 0), (5, .int k5), (4, .int (nI n)), (3, .int h3), (2, .int y1), (1, .int x1), (0, .ref (ad 6 0))]) : W p l e rm_L_acts s m args below meth c' H locs 0 0 Q (F0 m 339 ls []) := by
  obtain ⟨hx, hb, hml, hown, hts, hC, hj⟩ := id X
  have hz := hzi.1
  have h16 : n ≤ 16 := hr.choose_spec.1.n16
  have hmd : m_place (M 7) (M 7 1 2) n = none := u_made hr.choose_spec.2.2.1
  refine lv_iload_n hx hb dL_acts_339 rfl (lv_at hl 8 rfl) ?_
  refine lv_iload hx hb dL_acts_340 (lv_at hl 6 rfl) ?_
  refine lv_iconst (v := 1) hx hb dL_acts_342 (by decide) ?_
  refine lv_iadd hx hb dL_acts_343 ?_
  refine g_te (nI_add n 1) ?_
  refine r_low (rest := []) X hI (u_pos1 h16) hl.1 rfl ⟨rfl, rfl, by decide, by decide⟩ (Nat.le_of_ble_eq_true rfl) ⟨Nat.zero_le _, Nat.zero_le _⟩ dL_acts_344 (fun H locs hI w1 w1a w1b => ?_)
  refine lv_istore (lv' := [(11, .int w1), (10, .int 0), (9, .int (-2000000004)), (8, .int 0), (7, .int (M 7 1 2)), (6, .int 0), (5, .int k5), (4, .int (nI n)), (3, .int h3), (2, .int y1), (1, .int x1), (0, .ref (ad 6 0))]) hx hb dL_acts_347 hl (by decide) rfl (fun ls hl => ?_)
  refine lv_iload hx hb dL_acts_349 (lv_at hl 0 rfl) ?_
  refine lv_iload hx hb dL_acts_351 (lv_at hl 7 rfl) ?_
  refine lv_icmp_ge (tgt := 365) hx hb dL_acts_353 (by decide) (fun c2 => ?_) (fun c2 => ?_)
  · have hwn : w1 = nI n := u_hi w1b c2 h16
    refine lv_aload_n hx hb dL_acts_365 rfl (lv_at hl 11 rfl) ?_
    refine lv_iconst (v := 4) hx hb dL_acts_366 (by decide) ?_
    refine r_count (rest := []) X hI hz hl.1 rfl ⟨rfl, rfl, by decide, by decide⟩ (Nat.le_of_ble_eq_true rfl) ⟨Nat.zero_le _, Nat.zero_le _⟩ dL_acts_367 (fun H locs hI => ?_)
    refine g_te (y := (M 7 1 2)) ((q_cnt_of (by decide) (by decide)).trans (u_c4 hr)) ?_
    refine lv_iconst (v := 1) hx hb dL_acts_370 (by decide) ?_
    refine lv_iadd hx hb dL_acts_371 ?_
    refine lv_istore (lv' := [(12, .int ((M 7 1 2) + 1)), (11, .int w1), (10, .int 0), (9, .int (-2000000004)), (8, .int 0), (7, .int (M 7 1 2)), (6, .int 0), (5, .int k5), (4, .int (nI n)), (3, .int h3), (2, .int y1), (1, .int x1), (0, .ref (ad 6 0))]) hx hb dL_acts_372 hl (by decide) rfl (fun ls hl => ?_)
    refine lv_iload hx hb dL_acts_374 (lv_at hl 6 rfl) ?_
    refine lv_if_eq (tgt := 393) hx hb dL_acts_376 (by decide) (fun _ => ?_) (fun c3 => absurd c3 (by decide))
    refine lv_iconst (v := 1) hx hb dL_acts_393 (by decide) ?_
    refine lv_goto (tgt := 398) hx hb dL_acts_394 (by decide) ?_
    refine lv_istore (lv' := [(13, .int 1), (12, .int ((M 7 1 2) + 1)), (11, .int w1), (10, .int 0), (9, .int (-2000000004)), (8, .int 0), (7, .int (M 7 1 2)), (6, .int 0), (5, .int k5), (4, .int (nI n)), (3, .int h3), (2, .int y1), (1, .int x1), (0, .ref (ad 6 0))]) hx hb dL_acts_398 hl (by decide) rfl (fun ls hl => ?_)
    refine lv_iload hx hb dL_acts_400 (lv_at hl 0 rfl) ?_
    refine lv_if_ne (tgt := 457) hx hb dL_acts_402 (by decide) (fun _ => ?_) (fun c4 => absurd c4 (by decide))
    refine lv_iconst (v := 0) hx hb dL_acts_457 (by decide) ?_
    refine lv_istore (lv' := [(14, .int 0), (13, .int 1), (12, .int ((M 7 1 2) + 1)), (11, .int w1), (10, .int 0), (9, .int (-2000000004)), (8, .int 0), (7, .int (M 7 1 2)), (6, .int 0), (5, .int k5), (4, .int (nI n)), (3, .int h3), (2, .int y1), (1, .int x1), (0, .ref (ad 6 0))]) hx hb dL_acts_458 hl (by decide) rfl (fun ls hl => ?_)
    refine lv_iload hx hb dL_acts_460 (lv_at hl 1 rfl) ?_
    refine lv_if_eq (tgt := 469) hx hb dL_acts_462 (by decide) (fun c5 => absurd c5 (by decide)) (fun _ => ?_)
    refine lv_iconst (v := 0) hx hb dL_acts_465 (by decide) ?_
    refine lv_goto (tgt := 479) hx hb dL_acts_466 (by decide) ?_
    refine lv_istore (lv' := [(15, .int 0), (14, .int 0), (13, .int 1), (12, .int ((M 7 1 2) + 1)), (11, .int w1), (10, .int 0), (9, .int (-2000000004)), (8, .int 0), (7, .int (M 7 1 2)), (6, .int 0), (5, .int k5), (4, .int (nI n)), (3, .int h3), (2, .int y1), (1, .int x1), (0, .ref (ad 6 0))]) hx hb dL_acts_479 hl (by decide) rfl (fun ls hl => ?_)
    refine lv_aload_n hx hb dL_acts_481 rfl (lv_at hl 15 rfl) ?_
    refine lv_iload hx hb dL_acts_482 (lv_at hl 8 rfl) ?_
    refine lv_iload hx hb dL_acts_484 (lv_at hl 3 rfl) ?_
    refine r_join (rest := []) X hI hzi h0 h1 hr hl.1 rfl ⟨rfl, rfl, by decide, by decide⟩ (Nat.le_of_ble_eq_true rfl) ⟨Nat.zero_le _, Nat.zero_le _⟩ dL_acts_486 (fun P1 M1 hO H locs hI => ?_)
    refine g_te (y := (-2000000001)) (E_join0 (Or.inl hmd)) ?_
    refine lv_iload hx hb dL_acts_489 (lv_at hl 2 rfl) ?_
    refine lv_if_eq (tgt := 499) hx hb dL_acts_491 (by decide) (fun c6 => absurd c6 (by decide)) (fun _ => ?_)
    refine lv_ldc (v := (-2000000001)) hx hb hown (hts _ qc_L_44) dL_acts_494 ?_
    refine lv_goto (tgt := 511) hx hb dL_acts_496 (by decide) ?_
    refine lv_icmp_ne (tgt := 518) hx hb dL_acts_511 (by decide) (fun c7 => absurd c7 (by decide)) (fun _ => ?_)
    refine lv_iconst (v := 1) hx hb dL_acts_514 (by decide) ?_
    refine lv_goto (tgt := 519) hx hb dL_acts_515 (by decide) ?_
    exact K _ _ _ _ _ _ dL_acts_519 hO.1 hO.2.1 hI
  · obtain ⟨i, hin, rfl⟩ := u_lo w1a c2 h16
    refine lv_aload_n hx hb dL_acts_356 rfl (lv_at hl 11 rfl) ?_
    refine lv_iload hx hb dL_acts_357 (lv_at hl 0 rfl) ?_
    refine r_receipt (rest := []) X hI hz hl.1 rfl ⟨rfl, rfl, by decide, by decide⟩ (Nat.le_of_ble_eq_true rfl) ⟨Nat.zero_le _, Nat.zero_le _⟩ dL_acts_359 (fun H locs hI => ?_)
    refine g_te (y := (M 7 1 (34 + 7 * i))) (u_num hr hin) ?_
    refine lv_goto (tgt := 372) hx hb dL_acts_362 (by decide) ?_
    refine lv_istore (lv' := [(12, .int (M 7 1 (34 + 7 * i))), (11, .int (nI i)), (10, .int 0), (9, .int (-2000000004)), (8, .int 0), (7, .int (M 7 1 2)), (6, .int 0), (5, .int k5), (4, .int (nI n)), (3, .int h3), (2, .int y1), (1, .int x1), (0, .ref (ad 6 0))]) hx hb dL_acts_372 hl (by decide) rfl (fun ls hl => ?_)
    refine lv_iload hx hb dL_acts_374 (lv_at hl 6 rfl) ?_
    refine lv_if_eq (tgt := 393) hx hb dL_acts_376 (by decide) (fun _ => ?_) (fun c8 => absurd c8 (by decide))
    refine lv_iconst (v := 1) hx hb dL_acts_393 (by decide) ?_
    refine lv_goto (tgt := 398) hx hb dL_acts_394 (by decide) ?_
    refine lv_istore (lv' := [(13, .int 1), (12, .int (M 7 1 (34 + 7 * i))), (11, .int (nI i)), (10, .int 0), (9, .int (-2000000004)), (8, .int 0), (7, .int (M 7 1 2)), (6, .int 0), (5, .int k5), (4, .int (nI n)), (3, .int h3), (2, .int y1), (1, .int x1), (0, .ref (ad 6 0))]) hx hb dL_acts_398 hl (by decide) rfl (fun ls hl => ?_)
    refine lv_iload hx hb dL_acts_400 (lv_at hl 0 rfl) ?_
    refine lv_if_ne (tgt := 457) hx hb dL_acts_402 (by decide) (fun _ => ?_) (fun c9 => absurd c9 (by decide))
    refine lv_iconst (v := 0) hx hb dL_acts_457 (by decide) ?_
    refine lv_istore (lv' := [(14, .int 0), (13, .int 1), (12, .int (M 7 1 (34 + 7 * i))), (11, .int (nI i)), (10, .int 0), (9, .int (-2000000004)), (8, .int 0), (7, .int (M 7 1 2)), (6, .int 0), (5, .int k5), (4, .int (nI n)), (3, .int h3), (2, .int y1), (1, .int x1), (0, .ref (ad 6 0))]) hx hb dL_acts_458 hl (by decide) rfl (fun ls hl => ?_)
    refine lv_iload hx hb dL_acts_460 (lv_at hl 1 rfl) ?_
    refine lv_if_eq (tgt := 469) hx hb dL_acts_462 (by decide) (fun c10 => absurd c10 (by decide)) (fun _ => ?_)
    refine lv_iconst (v := 0) hx hb dL_acts_465 (by decide) ?_
    refine lv_goto (tgt := 479) hx hb dL_acts_466 (by decide) ?_
    refine lv_istore (lv' := [(15, .int 0), (14, .int 0), (13, .int 1), (12, .int (M 7 1 (34 + 7 * i))), (11, .int (nI i)), (10, .int 0), (9, .int (-2000000004)), (8, .int 0), (7, .int (M 7 1 2)), (6, .int 0), (5, .int k5), (4, .int (nI n)), (3, .int h3), (2, .int y1), (1, .int x1), (0, .ref (ad 6 0))]) hx hb dL_acts_479 hl (by decide) rfl (fun ls hl => ?_)
    refine lv_aload_n hx hb dL_acts_481 rfl (lv_at hl 15 rfl) ?_
    refine lv_iload hx hb dL_acts_482 (lv_at hl 8 rfl) ?_
    refine lv_iload hx hb dL_acts_484 (lv_at hl 3 rfl) ?_
    refine r_join (rest := []) X hI hzi h0 h1 hr hl.1 rfl ⟨rfl, rfl, by decide, by decide⟩ (Nat.le_of_ble_eq_true rfl) ⟨Nat.zero_le _, Nat.zero_le _⟩ dL_acts_486 (fun P1 M1 hO H locs hI => ?_)
    refine g_te (y := (-2000000001)) (E_join0 (Or.inl hmd)) ?_
    refine lv_iload hx hb dL_acts_489 (lv_at hl 2 rfl) ?_
    refine lv_if_eq (tgt := 499) hx hb dL_acts_491 (by decide) (fun c11 => absurd c11 (by decide)) (fun _ => ?_)
    refine lv_ldc (v := (-2000000001)) hx hb hown (hts _ qc_L_44) dL_acts_494 ?_
    refine lv_goto (tgt := 511) hx hb dL_acts_496 (by decide) ?_
    refine lv_icmp_ne (tgt := 518) hx hb dL_acts_511 (by decide) (fun c12 => absurd c12 (by decide)) (fun _ => ?_)
    refine lv_iconst (v := 1) hx hb dL_acts_514 (by decide) ?_
    refine lv_goto (tgt := 519) hx hb dL_acts_515 (by decide) ?_
    exact K _ _ _ _ _ _ dL_acts_519 hO.1 hO.2.1 hI
set_option maxHeartbeats 4000000 in
set_option maxRecDepth 100000 in
theorem a_hand1 {k : Nat} (hk : k < n) (X : L_x p s m args c' cL_acts 17 D tb ad (g_A ad)) (hzi : z_In P M c) (h0 : 0 ≤ c) (h1 : c ≤ 511) (hr : z_R (M (P 0)) (M 7 1) n (61 * c) (-(990000 * c)) (3960000 * c))
    (K : ∀ (pc : Nat) (ls : Array Slot) (P1 : g_P) (M1 : g_M) (H : Heap) (locs : List Loc), decode cL_acts pc = .ok (.ireturn, 1) → z_In P1 M1 (c + 1) → z_Step P M P1 M1 → g_I D tb ad (g_A ad) s H locs P1 M1 → W p l e rm_L_acts s m args below meth c' H locs 0 0 Q (F0 m pc ls [.int 1]))
    (hI : g_I D tb ad (g_A ad) s H locs P M) (hl : lv_has ls 17 [(10, .int (M 7 1 (34 + 7 * k + 1))), (9, .int (u_loan (M 7) k)), (8, .int (M 7 1 (34 + 7 * k + 3))), (7, .int (M 7 1 (34 + 7 * k))), (6, .int 1), (5, .int k5), (4, .int (nI n)), (3, .int h3), (2, .int y1), (1, .int x1), (0, .ref (ad 6 0))]) : W p l e rm_L_acts s m args below meth c' H locs 0 0 Q (F0 m 526 ls []) := by
  obtain ⟨hx, hb, hml, hown, hts, hC, hj⟩ := id X
  have hz := hzi.1
  have h16 : n ≤ 16 := hr.choose_spec.1.n16
  have hmd : m_place (M 7) (M 7 1 2) n = none := u_made hr.choose_spec.2.2.1
  refine lv_iload_n hx hb dL_acts_526 rfl (lv_at hl 8 rfl) ?_
  refine lv_bipush (v := 9) hx hb dL_acts_527 (by decide) ?_
  refine r_low (rest := []) X hI (by decide) hl.1 rfl ⟨rfl, rfl, by decide, by decide⟩ (Nat.le_of_ble_eq_true rfl) ⟨Nat.zero_le _, Nat.zero_le _⟩ dL_acts_529 (fun H locs hI w1 w1a w1b => ?_)
  have w1b : w1.toInt < 9 := w1b
  refine lv_istore (lv' := [(11, .int w1), (10, .int (M 7 1 (34 + 7 * k + 1))), (9, .int (u_loan (M 7) k)), (8, .int (M 7 1 (34 + 7 * k + 3))), (7, .int (M 7 1 (34 + 7 * k))), (6, .int 1), (5, .int k5), (4, .int (nI n)), (3, .int h3), (2, .int y1), (1, .int x1), (0, .ref (ad 6 0))]) hx hb dL_acts_532 hl (by decide) rfl (fun ls hl => ?_)
  refine lv_aload_n hx hb dL_acts_534 rfl (lv_at hl 11 rfl) ?_
  refine lv_iload hx hb dL_acts_535 (lv_at hl 4 rfl) ?_
  refine lv_iload hx hb dL_acts_537 (lv_at hl 0 rfl) ?_
  refine r_hand (rest := []) X hI hzi h0 h1 hr hl.1 rfl ⟨rfl, rfl, by decide, by decide⟩ (Nat.le_of_ble_eq_true rfl) ⟨Nat.zero_le _, Nat.zero_le _⟩ dL_acts_539 (fun P1 M1 hO H locs hI => ?_)
  refine g_te (y := (if w1 = 8 then -2000000001 else if w1 = M 7 1 (34 + 7 * k + 1) then -2000000002 else if u_loan (M 7) k = -2000000004 then M 7 1 (34 + 7 * k + 1) else -2000000002)) (E_hand hr hk ⟨w1a, w1b⟩) ?_
  refine lv_iload hx hb dL_acts_542 (lv_at hl 5 rfl) ?_
  refine lv_if_eq (tgt := 554) hx hb dL_acts_544 (by decide) (fun c2 => absurd c2 (by decide)) (fun _ => ?_)
  refine lv_iload hx hb dL_acts_547 (lv_at hl 0 rfl) ?_
  refine lv_bipush (v := 8) hx hb dL_acts_549 (by decide) ?_
  refine lv_icmp_ne (tgt := 559) hx hb dL_acts_551 (by decide) (fun c3 => ?_) (fun c3 => ?_)
  · skip
    refine lv_iload hx hb dL_acts_559 (lv_at hl 0 rfl) ?_
    refine lv_iload hx hb dL_acts_561 (lv_at hl 1 rfl) ?_
    refine lv_icmp_eq (tgt := 573) hx hb dL_acts_563 (by decide) (fun c4 => ?_) (fun c4 => ?_)
    · skip
      refine lv_ldc (v := (-2000000002)) hx hb hown (hts _ qc_L_65) dL_acts_573 ?_
      refine lv_goto (tgt := 580) hx hb dL_acts_575 (by decide) ?_
      refine lv_icmp_ne (tgt := 587) hx hb dL_acts_580 (by decide) (fun c5 => ?_) (fun c5 => ?_)
      · exact absurd (by simp only [if_neg c3, if_pos c4]) c5
      · skip
        refine lv_iconst (v := 1) hx hb dL_acts_583 (by decide) ?_
        refine lv_goto (tgt := 588) hx hb dL_acts_584 (by decide) ?_
        exact K _ _ _ _ _ _ dL_acts_588 hO.1 hO.2.1 hI
    · skip
      refine lv_iload hx hb dL_acts_566 (lv_at hl 2 rfl) ?_
      refine lv_ldc (v := (-2000000004)) hx hb hown (hts _ qc_L_43) dL_acts_568 ?_
      refine lv_icmp_eq (tgt := 578) hx hb dL_acts_570 (by decide) (fun c6 => ?_) (fun c6 => ?_)
      · skip
        refine lv_iload hx hb dL_acts_578 (lv_at hl 1 rfl) ?_
        refine lv_icmp_ne (tgt := 587) hx hb dL_acts_580 (by decide) (fun c7 => ?_) (fun c7 => ?_)
        · exact absurd (by simp only [if_neg c3, if_neg c4, if_pos c6]) c7
        · skip
          refine lv_iconst (v := 1) hx hb dL_acts_583 (by decide) ?_
          refine lv_goto (tgt := 588) hx hb dL_acts_584 (by decide) ?_
          exact K _ _ _ _ _ _ dL_acts_588 hO.1 hO.2.1 hI
      · skip
        refine lv_ldc (v := (-2000000002)) hx hb hown (hts _ qc_L_65) dL_acts_573 ?_
        refine lv_goto (tgt := 580) hx hb dL_acts_575 (by decide) ?_
        refine lv_icmp_ne (tgt := 587) hx hb dL_acts_580 (by decide) (fun c8 => ?_) (fun c8 => ?_)
        · exact absurd (by simp only [if_neg c3, if_neg c4, if_neg c6]) c8
        · skip
          refine lv_iconst (v := 1) hx hb dL_acts_583 (by decide) ?_
          refine lv_goto (tgt := 588) hx hb dL_acts_584 (by decide) ?_
          exact K _ _ _ _ _ _ dL_acts_588 hO.1 hO.2.1 hI
  · skip
    refine lv_ldc (v := (-2000000001)) hx hb hown (hts _ qc_L_44) dL_acts_554 ?_
    refine lv_goto (tgt := 580) hx hb dL_acts_556 (by decide) ?_
    refine lv_icmp_ne (tgt := 587) hx hb dL_acts_580 (by decide) (fun c9 => ?_) (fun c9 => ?_)
    · exact absurd (by simp only [if_pos c3]) c9
    · skip
      refine lv_iconst (v := 1) hx hb dL_acts_583 (by decide) ?_
      refine lv_goto (tgt := 588) hx hb dL_acts_584 (by decide) ?_
      exact K _ _ _ _ _ _ dL_acts_588 hO.1 hO.2.1 hI
set_option maxHeartbeats 4000000 in
set_option maxRecDepth 100000 in
theorem a_hand0 (X : L_x p s m args c' cL_acts 17 D tb ad (g_A ad)) (hzi : z_In P M c) (h0 : 0 ≤ c) (h1 : c ≤ 511) (hr : z_R (M (P 0)) (M 7 1) n (61 * c) (-(990000 * c)) (3960000 * c))
    (K : ∀ (pc : Nat) (ls : Array Slot) (P1 : g_P) (M1 : g_M) (H : Heap) (locs : List Loc), decode cL_acts pc = .ok (.ireturn, 1) → z_In P1 M1 (c + 1) → z_Step P M P1 M1 → g_I D tb ad (g_A ad) s H locs P1 M1 → W p l e rm_L_acts s m args below meth c' H locs 0 0 Q (F0 m pc ls [.int 1]))
    (hI : g_I D tb ad (g_A ad) s H locs P M) (hl : lv_has ls 17 [(10, .int 0), (9, .int (-2000000004)), (8, .int 0), (7, .int (M 7 1 2)), (6, .int 0), (5, .int k5), (4, .int (nI n)), (3, .int h3), (2, .int y1), (1, .int x1), (0, .ref (ad 6 0))]) : W p l e rm_L_acts s m args below meth c' H locs 0 0 Q (F0 m 526 ls []) := by
  obtain ⟨hx, hb, hml, hown, hts, hC, hj⟩ := id X
  have hz := hzi.1
  have h16 : n ≤ 16 := hr.choose_spec.1.n16
  have hmd : m_place (M 7) (M 7 1 2) n = none := u_made hr.choose_spec.2.2.1
  refine lv_iload_n hx hb dL_acts_526 rfl (lv_at hl 8 rfl) ?_
  refine lv_bipush (v := 9) hx hb dL_acts_527 (by decide) ?_
  refine r_low (rest := []) X hI (by decide) hl.1 rfl ⟨rfl, rfl, by decide, by decide⟩ (Nat.le_of_ble_eq_true rfl) ⟨Nat.zero_le _, Nat.zero_le _⟩ dL_acts_529 (fun H locs hI w1 w1a w1b => ?_)
  have w1b : w1.toInt < 9 := w1b
  refine lv_istore (lv' := [(11, .int w1), (10, .int 0), (9, .int (-2000000004)), (8, .int 0), (7, .int (M 7 1 2)), (6, .int 0), (5, .int k5), (4, .int (nI n)), (3, .int h3), (2, .int y1), (1, .int x1), (0, .ref (ad 6 0))]) hx hb dL_acts_532 hl (by decide) rfl (fun ls hl => ?_)
  refine lv_aload_n hx hb dL_acts_534 rfl (lv_at hl 11 rfl) ?_
  refine lv_iload hx hb dL_acts_535 (lv_at hl 4 rfl) ?_
  refine lv_iload hx hb dL_acts_537 (lv_at hl 0 rfl) ?_
  refine r_hand (rest := []) X hI hzi h0 h1 hr hl.1 rfl ⟨rfl, rfl, by decide, by decide⟩ (Nat.le_of_ble_eq_true rfl) ⟨Nat.zero_le _, Nat.zero_le _⟩ dL_acts_539 (fun P1 M1 hO H locs hI => ?_)
  refine g_te (y := (-2000000001)) (E_hand0 hmd) ?_
  refine lv_iload hx hb dL_acts_542 (lv_at hl 5 rfl) ?_
  refine lv_if_eq (tgt := 554) hx hb dL_acts_544 (by decide) (fun _ => ?_) (fun c2 => absurd c2 (by decide))
  refine lv_ldc (v := (-2000000001)) hx hb hown (hts _ qc_L_44) dL_acts_554 ?_
  refine lv_goto (tgt := 580) hx hb dL_acts_556 (by decide) ?_
  refine lv_icmp_ne (tgt := 587) hx hb dL_acts_580 (by decide) (fun c3 => absurd c3 (by decide)) (fun _ => ?_)
  refine lv_iconst (v := 1) hx hb dL_acts_583 (by decide) ?_
  refine lv_goto (tgt := 588) hx hb dL_acts_584 (by decide) ?_
  exact K _ _ _ _ _ _ dL_acts_588 hO.1 hO.2.1 hI
set_option maxHeartbeats 4000000 in
set_option maxRecDepth 100000 in
theorem a_deliver1 {k : Nat} (hk : k < n) (X : L_x p s m args c' cL_acts 17 D tb ad (g_A ad)) (hzi : z_In P M c) (h0 : 0 ≤ c) (h1 : c ≤ 511) (hr : z_R (M (P 0)) (M 7 1) n (61 * c) (-(990000 * c)) (3960000 * c))
    (K : ∀ (pc : Nat) (ls : Array Slot) (P1 : g_P) (M1 : g_M) (H : Heap) (locs : List Loc), decode cL_acts pc = .ok (.ireturn, 1) → z_In P1 M1 (c + 1) → z_Step P M P1 M1 → g_I D tb ad (g_A ad) s H locs P1 M1 → W p l e rm_L_acts s m args below meth c' H locs 0 0 Q (F0 m pc ls [.int 1]))
    (hI : g_I D tb ad (g_A ad) s H locs P M) (hl : lv_has ls 17 [(10, .int (M 7 1 (34 + 7 * k + 1))), (9, .int (u_loan (M 7) k)), (8, .int (M 7 1 (34 + 7 * k + 3))), (7, .int (M 7 1 (34 + 7 * k))), (6, .int 1), (5, .int k5), (4, .int (nI n)), (3, .int h3), (2, .int y1), (1, .int x1), (0, .ref (ad 6 0))]) : W p l e rm_L_acts s m args below meth c' H locs 0 0 Q (F0 m 595 ls []) := by
  obtain ⟨hx, hb, hml, hown, hts, hC, hj⟩ := id X
  have hz := hzi.1
  have h16 : n ≤ 16 := hr.choose_spec.1.n16
  have hmd : m_place (M 7) (M 7 1 2) n = none := u_made hr.choose_spec.2.2.1
  refine lv_aload_n hx hb dL_acts_595 rfl (lv_at hl 10 rfl) ?_
  refine lv_iload hx hb dL_acts_596 (lv_at hl 3 rfl) ?_
  refine r_deliver (rest := []) X hI hzi h0 h1 hr hl.1 rfl ⟨rfl, rfl, by decide, by decide⟩ (Nat.le_of_ble_eq_true rfl) ⟨Nat.zero_le _, Nat.zero_le _⟩ dL_acts_598 (fun P1 M1 hO H locs hI => ?_)
  refine lv_istore (lv' := [(11, .int ((m_delivers (m_begins (M 7)) (M 7 1 (34 + 7 * k)) n).1)), (10, .int (M 7 1 (34 + 7 * k + 1))), (9, .int (u_loan (M 7) k)), (8, .int (M 7 1 (34 + 7 * k + 3))), (7, .int (M 7 1 (34 + 7 * k))), (6, .int 1), (5, .int k5), (4, .int (nI n)), (3, .int h3), (2, .int y1), (1, .int x1), (0, .ref (ad 6 0))]) hx hb dL_acts_601 hl (by decide) rfl (fun ls hl => ?_)
  refine lv_iload hx hb dL_acts_603 (lv_at hl 5 rfl) ?_
  refine lv_if_ne (tgt := 623) hx hb dL_acts_605 (by decide) (fun _ => ?_) (fun c1 => absurd c1 (by decide))
  refine lv_iload hx hb dL_acts_623 (lv_at hl 2 rfl) ?_
  refine lv_ldc (v := (-2000000004)) hx hb hown (hts _ qc_L_43) dL_acts_625 ?_
  refine lv_icmp_eq (tgt := 645) hx hb dL_acts_627 (by decide) (fun c2 => ?_) (fun c2 => ?_)
  · skip
    refine lv_iload hx hb dL_acts_645 (lv_at hl 0 rfl) ?_
    refine lv_if_lt (tgt := 673) hx hb dL_acts_647 (by decide) (fun c3 => ?_) (fun c3 => ?_)
    · (have z := (E_deliver hr hk c2).1.1; rw [Int32.lt_iff_toInt_lt, z_i0] at c3; omega)
    · skip
      refine lv_iload hx hb dL_acts_650 (lv_at hl 0 rfl) ?_
      refine lv_iload hx hb dL_acts_652 (lv_at hl 3 rfl) ?_
      refine lv_icmp_gt (tgt := 673) hx hb dL_acts_654 (by decide) (fun c4 => ?_) (fun c4 => ?_)
      · (have z := (E_deliver hr hk c2).1.2; rw [Int32.lt_iff_toInt_lt] at c4; omega)
      · skip
        refine lv_aload_n hx hb dL_acts_657 rfl (lv_at hl 11 rfl) ?_
        refine lv_iload hx hb dL_acts_658 (lv_at hl 4 rfl) ?_
        refine lv_iconst (v := 0) hx hb dL_acts_660 (by decide) ?_
        refine r_receiptOf (rest := []) X hI hO.1.1 hl.1 rfl ⟨rfl, rfl, by decide, by decide⟩ (Nat.le_of_ble_eq_true rfl) ⟨Nat.zero_le _, Nat.zero_le _⟩ dL_acts_661 (fun H locs hI => ?_)
        refine g_te (y := (-2000000001)) (u_delG hr hk c2 hO) ?_
        refine lv_ldc (v := (-2000000001)) hx hb hown (hts _ qc_L_44) dL_acts_664 ?_
        refine lv_icmp_ne (tgt := 673) hx hb dL_acts_666 (by decide) (fun c5 => absurd c5 (by decide)) (fun _ => ?_)
        refine lv_iconst (v := 1) hx hb dL_acts_669 (by decide) ?_
        refine lv_goto (tgt := 674) hx hb dL_acts_670 (by decide) ?_
        exact K _ _ _ _ _ _ dL_acts_674 hO.1 hO.2.1 hI
  · skip
    refine lv_iload hx hb dL_acts_630 (lv_at hl 0 rfl) ?_
    refine lv_ldc (v := (-2000000002)) hx hb hown (hts _ qc_L_65) dL_acts_632 ?_
    refine lv_icmp_ne (tgt := 641) hx hb dL_acts_634 (by decide) (fun c6 => ?_) (fun c6 => ?_)
    · exact absurd (E_deliverP hr hk c2) c6
    · skip
      refine lv_iconst (v := 1) hx hb dL_acts_637 (by decide) ?_
      refine lv_goto (tgt := 674) hx hb dL_acts_638 (by decide) ?_
      exact K _ _ _ _ _ _ dL_acts_674 hO.1 hO.2.1 hI
set_option maxHeartbeats 4000000 in
set_option maxRecDepth 100000 in
theorem a_deliver0 (X : L_x p s m args c' cL_acts 17 D tb ad (g_A ad)) (hzi : z_In P M c) (h0 : 0 ≤ c) (h1 : c ≤ 511) (hr : z_R (M (P 0)) (M 7 1) n (61 * c) (-(990000 * c)) (3960000 * c))
    (K : ∀ (pc : Nat) (ls : Array Slot) (P1 : g_P) (M1 : g_M) (H : Heap) (locs : List Loc), decode cL_acts pc = .ok (.ireturn, 1) → z_In P1 M1 (c + 1) → z_Step P M P1 M1 → g_I D tb ad (g_A ad) s H locs P1 M1 → W p l e rm_L_acts s m args below meth c' H locs 0 0 Q (F0 m pc ls [.int 1]))
    (hI : g_I D tb ad (g_A ad) s H locs P M) (hl : lv_has ls 17 [(10, .int 0), (9, .int (-2000000004)), (8, .int 0), (7, .int (M 7 1 2)), (6, .int 0), (5, .int k5), (4, .int (nI n)), (3, .int h3), (2, .int y1), (1, .int x1), (0, .ref (ad 6 0))]) : W p l e rm_L_acts s m args below meth c' H locs 0 0 Q (F0 m 595 ls []) := by
  obtain ⟨hx, hb, hml, hown, hts, hC, hj⟩ := id X
  have hz := hzi.1
  have h16 : n ≤ 16 := hr.choose_spec.1.n16
  have hmd : m_place (M 7) (M 7 1 2) n = none := u_made hr.choose_spec.2.2.1
  refine lv_aload_n hx hb dL_acts_595 rfl (lv_at hl 10 rfl) ?_
  refine lv_iload hx hb dL_acts_596 (lv_at hl 3 rfl) ?_
  refine r_deliver (rest := []) X hI hzi h0 h1 hr hl.1 rfl ⟨rfl, rfl, by decide, by decide⟩ (Nat.le_of_ble_eq_true rfl) ⟨Nat.zero_le _, Nat.zero_le _⟩ dL_acts_598 (fun P1 M1 hO H locs hI => ?_)
  refine g_te (y := (-2000000001)) (E_deliver0 hmd) ?_
  refine lv_istore (lv' := [(11, .int (-2000000001)), (10, .int 0), (9, .int (-2000000004)), (8, .int 0), (7, .int (M 7 1 2)), (6, .int 0), (5, .int k5), (4, .int (nI n)), (3, .int h3), (2, .int y1), (1, .int x1), (0, .ref (ad 6 0))]) hx hb dL_acts_601 hl (by decide) rfl (fun ls hl => ?_)
  refine lv_iload hx hb dL_acts_603 (lv_at hl 5 rfl) ?_
  refine lv_if_ne (tgt := 623) hx hb dL_acts_605 (by decide) (fun c1 => absurd c1 (by decide)) (fun _ => ?_)
  refine lv_iload hx hb dL_acts_608 (lv_at hl 0 rfl) ?_
  refine lv_ldc (v := (-2000000001)) hx hb hown (hts _ qc_L_44) dL_acts_610 ?_
  refine lv_icmp_ne (tgt := 619) hx hb dL_acts_612 (by decide) (fun c2 => absurd c2 (by decide)) (fun _ => ?_)
  refine lv_iconst (v := 1) hx hb dL_acts_615 (by decide) ?_
  refine lv_goto (tgt := 674) hx hb dL_acts_616 (by decide) ?_
  exact K _ _ _ _ _ _ dL_acts_674 hO.1 hO.2.1 hI
set_option maxHeartbeats 4000000 in
set_option maxRecDepth 100000 in
theorem a_pledge1 {k : Nat} (hk : k < n) (X : L_x p s m args c' cL_acts 17 D tb ad (g_A ad)) (hzi : z_In P M c) (h0 : 0 ≤ c) (h1 : c ≤ 511) (hr : z_R (M (P 0)) (M 7 1) n (61 * c) (-(990000 * c)) (3960000 * c))
    (K : ∀ (pc : Nat) (ls : Array Slot) (P1 : g_P) (M1 : g_M) (H : Heap) (locs : List Loc), decode cL_acts pc = .ok (.ireturn, 1) → z_In P1 M1 (c + 1) → z_Step P M P1 M1 → g_I D tb ad (g_A ad) s H locs P1 M1 → W p l e rm_L_acts s m args below meth c' H locs 0 0 Q (F0 m pc ls [.int 1]))
    (hI : g_I D tb ad (g_A ad) s H locs P M) (hl : lv_has ls 17 [(10, .int (M 7 1 (34 + 7 * k + 1))), (9, .int (u_loan (M 7) k)), (8, .int (M 7 1 (34 + 7 * k + 3))), (7, .int (M 7 1 (34 + 7 * k))), (6, .int 1), (5, .int k5), (4, .int (nI n)), (3, .int h3), (2, .int y1), (1, .int x1), (0, .ref (ad 6 0))]) : W p l e rm_L_acts s m args below meth c' H locs 0 0 Q (F0 m 681 ls []) := by
  obtain ⟨hx, hb, hml, hown, hts, hC, hj⟩ := id X
  have hz := hzi.1
  have h16 : n ≤ 16 := hr.choose_spec.1.n16
  have hmd : m_place (M 7) (M 7 1 2) n = none := u_made hr.choose_spec.2.2.1
  refine lv_iload_n hx hb dL_acts_681 rfl (lv_at hl 8 rfl) ?_
  refine lv_iconst (v := 4) hx hb dL_acts_682 (by decide) ?_
  refine r_low (rest := []) X hI (by decide) hl.1 rfl ⟨rfl, rfl, by decide, by decide⟩ (Nat.le_of_ble_eq_true rfl) ⟨Nat.zero_le _, Nat.zero_le _⟩ dL_acts_683 (fun H locs hI w1 w1a w1b => ?_)
  have w1b : w1.toInt < 4 := w1b
  refine lv_istore (lv' := [(11, .int w1), (10, .int (M 7 1 (34 + 7 * k + 1))), (9, .int (u_loan (M 7) k)), (8, .int (M 7 1 (34 + 7 * k + 3))), (7, .int (M 7 1 (34 + 7 * k))), (6, .int 1), (5, .int k5), (4, .int (nI n)), (3, .int h3), (2, .int y1), (1, .int x1), (0, .ref (ad 6 0))]) hx hb dL_acts_686 hl (by decide) rfl (fun ls hl => ?_)
  refine lv_iload hx hb dL_acts_688 (lv_at hl 5 rfl) ?_
  refine lv_if_eq (tgt := 704) hx hb dL_acts_690 (by decide) (fun c2 => absurd c2 (by decide)) (fun _ => ?_)
  refine lv_aload_n hx hb dL_acts_693 rfl (lv_at hl 11 rfl) ?_
  refine lv_iload hx hb dL_acts_694 (lv_at hl 4 rfl) ?_
  refine lv_bipush (v := 7) hx hb dL_acts_696 (by decide) ?_
  refine r_receiptOf (rest := []) X hI hz hl.1 rfl ⟨rfl, rfl, by decide, by decide⟩ (Nat.le_of_ble_eq_true rfl) ⟨Nat.zero_le _, Nat.zero_le _⟩ dL_acts_698 (fun H locs hI => ?_)
  refine g_te (y := (m_share (M 7) k 0)) (u_r7 hr hk) ?_
  refine lv_goto (tgt := 705) hx hb dL_acts_701 (by decide) ?_
  refine lv_istore (lv' := [(12, .int (m_share (M 7) k 0)), (11, .int w1), (10, .int (M 7 1 (34 + 7 * k + 1))), (9, .int (u_loan (M 7) k)), (8, .int (M 7 1 (34 + 7 * k + 3))), (7, .int (M 7 1 (34 + 7 * k))), (6, .int 1), (5, .int k5), (4, .int (nI n)), (3, .int h3), (2, .int y1), (1, .int x1), (0, .ref (ad 6 0))]) hx hb dL_acts_705 hl (by decide) rfl (fun ls hl => ?_)
  refine lv_iload_n hx hb dL_acts_707 rfl (lv_at hl 10 rfl) ?_
  refine lv_iconst (v := 2) hx hb dL_acts_708 (by decide) ?_
  refine lv_ishr hx hb dL_acts_709 ?_
  refine lv_topi (fun sh3 _ => ?_)
  refine lv_iload hx hb dL_acts_710 (lv_at hl 0 rfl) ?_
  refine lv_iconst (v := 2) hx hb dL_acts_712 (by decide) ?_
  refine lv_iadd hx hb dL_acts_713 ?_
  refine r_low (rest := []) X hI (u_most2 hr hk) hl.1 rfl ⟨rfl, rfl, by decide, by decide⟩ (Nat.le_of_ble_eq_true rfl) ⟨Nat.zero_le _, Nat.zero_le _⟩ dL_acts_714 (fun H locs hI w4 w4a w4b => ?_)
  refine lv_istore (lv' := [(13, .int w4), (12, .int (m_share (M 7) k 0)), (11, .int w1), (10, .int (M 7 1 (34 + 7 * k + 1))), (9, .int (u_loan (M 7) k)), (8, .int (M 7 1 (34 + 7 * k + 3))), (7, .int (M 7 1 (34 + 7 * k))), (6, .int 1), (5, .int k5), (4, .int (nI n)), (3, .int h3), (2, .int y1), (1, .int x1), (0, .ref (ad 6 0))]) hx hb dL_acts_717 hl (by decide) rfl (fun ls hl => ?_)
  refine lv_iload hx hb dL_acts_719 (lv_at hl 7 rfl) ?_
  refine lv_if_eq (tgt := 734) hx hb dL_acts_721 (by decide) (fun c5 => absurd c5 (by decide)) (fun _ => ?_)
  refine lv_aload_n hx hb dL_acts_724 rfl (lv_at hl 13 rfl) ?_
  refine lv_iload hx hb dL_acts_725 (lv_at hl 3 rfl) ?_
  refine lv_iconst (v := 0) hx hb dL_acts_727 (by decide) ?_
  refine r_ownerOf (rest := []) X hI hz hl.1 rfl ⟨rfl, rfl, by decide, by decide⟩ (Nat.le_of_ble_eq_true rfl) ⟨Nat.zero_le _, Nat.zero_le _⟩ dL_acts_728 (fun H locs hI => ?_)
  refine lv_goto (tgt := 735) hx hb dL_acts_731 (by decide) ?_
  refine lv_istore (lv' := [(14, .int (q_tellOwner (M (P 0)) (M 7 1 (34 + 7 * k + 1)) 0)), (13, .int w4), (12, .int (m_share (M 7) k 0)), (11, .int w1), (10, .int (M 7 1 (34 + 7 * k + 1))), (9, .int (u_loan (M 7) k)), (8, .int (M 7 1 (34 + 7 * k + 3))), (7, .int (M 7 1 (34 + 7 * k))), (6, .int 1), (5, .int k5), (4, .int (nI n)), (3, .int h3), (2, .int y1), (1, .int x1), (0, .ref (ad 6 0))]) hx hb dL_acts_735 hl (by decide) rfl (fun ls hl => ?_)
  refine lv_iload hx hb dL_acts_737 (lv_at hl 8 rfl) ?_
  refine lv_if_eq (tgt := 753) hx hb dL_acts_739 (by decide) (fun c6 => absurd c6 (by decide)) (fun _ => ?_)
  refine lv_iload hx hb dL_acts_742 (lv_at hl 3 rfl) ?_
  refine lv_iconst (v := 3) hx hb dL_acts_744 (by decide) ?_
  refine lv_icmp_eq (tgt := 753) hx hb dL_acts_745 (by decide) (fun c7 => ?_) (fun c7 => ?_)
  · skip
    refine lv_iconst (v := 1) hx hb dL_acts_753 (by decide) ?_
    refine lv_goto (tgt := 758) hx hb dL_acts_754 (by decide) ?_
    refine lv_istore (lv' := [(15, .int 1), (14, .int (q_tellOwner (M (P 0)) (M 7 1 (34 + 7 * k + 1)) 0)), (13, .int w4), (12, .int (m_share (M 7) k 0)), (11, .int w1), (10, .int (M 7 1 (34 + 7 * k + 1))), (9, .int (u_loan (M 7) k)), (8, .int (M 7 1 (34 + 7 * k + 3))), (7, .int (M 7 1 (34 + 7 * k))), (6, .int 1), (5, .int k5), (4, .int (nI n)), (3, .int h3), (2, .int y1), (1, .int x1), (0, .ref (ad 6 0))]) hx hb dL_acts_758 hl (by decide) rfl (fun ls hl => ?_)
    refine lv_aload_n hx hb dL_acts_760 rfl (lv_at hl 15 rfl) ?_
    refine lv_iload hx hb dL_acts_761 (lv_at hl 8 rfl) ?_
    refine lv_iload hx hb dL_acts_763 (lv_at hl 4 rfl) ?_
    refine lv_iload hx hb dL_acts_765 (lv_at hl 2 rfl) ?_
    refine r_pledge (rest := []) X hI hzi h0 h1 hr hl.1 rfl ⟨rfl, rfl, by decide, by decide⟩ (Nat.le_of_ble_eq_true rfl) ⟨Nat.zero_le _, Nat.zero_le _⟩ dL_acts_767 (fun P1 M1 hO H locs hI => ?_)
    refine g_te (y := (if w1 = 3 then -2000000001 else if w4 = 0 then -2000000001 else if u_loan (M 7) k = -2000000004 then (if M 7 1 (34 + 7 * k + 1) = 5 + w1 then -2000000002 else if w4 ≤ m_share (M 7) k 0 then q_tellOwner (M (P 0)) (M 7 1 (34 + 7 * k + 1)) 0 + w4 else -2000000002) else -2000000002)) (E_pledge hr hk ⟨w1a, w1b⟩ w4a) ?_
    refine lv_iload hx hb dL_acts_770 (lv_at hl 0 rfl) ?_
    refine lv_if_eq (tgt := 780) hx hb dL_acts_772 (by decide) (fun c8 => absurd c8 (by decide)) (fun _ => ?_)
    refine lv_ldc (v := (-2000000001)) hx hb hown (hts _ qc_L_44) dL_acts_775 ?_
    refine lv_goto (tgt := 813) hx hb dL_acts_777 (by decide) ?_
    refine lv_icmp_ne (tgt := 820) hx hb dL_acts_813 (by decide) (fun c9 => ?_) (fun c9 => ?_)
    · exact absurd (by simp only [if_pos c7]) c9
    · skip
      refine lv_iconst (v := 1) hx hb dL_acts_816 (by decide) ?_
      refine lv_goto (tgt := 821) hx hb dL_acts_817 (by decide) ?_
      exact K _ _ _ _ _ _ dL_acts_821 hO.1 hO.2.1 hI
  · skip
    refine lv_iload hx hb dL_acts_748 (lv_at hl 1 rfl) ?_
    refine lv_if_ne (tgt := 757) hx hb dL_acts_750 (by decide) (fun c10 => ?_) (fun c10 => ?_)
    · skip
      refine lv_iconst (v := 0) hx hb dL_acts_757 (by decide) ?_
      refine lv_istore (lv' := [(15, .int 0), (14, .int (q_tellOwner (M (P 0)) (M 7 1 (34 + 7 * k + 1)) 0)), (13, .int w4), (12, .int (m_share (M 7) k 0)), (11, .int w1), (10, .int (M 7 1 (34 + 7 * k + 1))), (9, .int (u_loan (M 7) k)), (8, .int (M 7 1 (34 + 7 * k + 3))), (7, .int (M 7 1 (34 + 7 * k))), (6, .int 1), (5, .int k5), (4, .int (nI n)), (3, .int h3), (2, .int y1), (1, .int x1), (0, .ref (ad 6 0))]) hx hb dL_acts_758 hl (by decide) rfl (fun ls hl => ?_)
      refine lv_aload_n hx hb dL_acts_760 rfl (lv_at hl 15 rfl) ?_
      refine lv_iload hx hb dL_acts_761 (lv_at hl 8 rfl) ?_
      refine lv_iload hx hb dL_acts_763 (lv_at hl 4 rfl) ?_
      refine lv_iload hx hb dL_acts_765 (lv_at hl 2 rfl) ?_
      refine r_pledge (rest := []) X hI hzi h0 h1 hr hl.1 rfl ⟨rfl, rfl, by decide, by decide⟩ (Nat.le_of_ble_eq_true rfl) ⟨Nat.zero_le _, Nat.zero_le _⟩ dL_acts_767 (fun P1 M1 hO H locs hI => ?_)
      refine g_te (y := (if w1 = 3 then -2000000001 else if w4 = 0 then -2000000001 else if u_loan (M 7) k = -2000000004 then (if M 7 1 (34 + 7 * k + 1) = 5 + w1 then -2000000002 else if w4 ≤ m_share (M 7) k 0 then q_tellOwner (M (P 0)) (M 7 1 (34 + 7 * k + 1)) 0 + w4 else -2000000002) else -2000000002)) (E_pledge hr hk ⟨w1a, w1b⟩ w4a) ?_
      refine lv_iload hx hb dL_acts_770 (lv_at hl 0 rfl) ?_
      refine lv_if_eq (tgt := 780) hx hb dL_acts_772 (by decide) (fun _ => ?_) (fun c11 => absurd c11 (by decide))
      refine lv_iload hx hb dL_acts_780 (lv_at hl 6 rfl) ?_
      refine lv_ldc (v := (-2000000004)) hx hb hown (hts _ qc_L_43) dL_acts_782 ?_
      refine lv_icmp_ne (tgt := 803) hx hb dL_acts_784 (by decide) (fun c12 => ?_) (fun c12 => ?_)
      · skip
        refine lv_ldc (v := (-2000000002)) hx hb hown (hts _ qc_L_65) dL_acts_803 ?_
        refine lv_goto (tgt := 813) hx hb dL_acts_805 (by decide) ?_
        refine lv_icmp_ne (tgt := 820) hx hb dL_acts_813 (by decide) (fun c13 => ?_) (fun c13 => ?_)
        · exact absurd (by simp only [if_neg c7, if_neg c10, if_neg c12]) c13
        · skip
          refine lv_iconst (v := 1) hx hb dL_acts_816 (by decide) ?_
          refine lv_goto (tgt := 821) hx hb dL_acts_817 (by decide) ?_
          exact K _ _ _ _ _ _ dL_acts_821 hO.1 hO.2.1 hI
      · skip
        refine lv_iload hx hb dL_acts_787 (lv_at hl 5 rfl) ?_
        refine lv_iconst (v := 5) hx hb dL_acts_789 (by decide) ?_
        refine lv_iload hx hb dL_acts_790 (lv_at hl 4 rfl) ?_
        refine lv_iadd hx hb dL_acts_792 ?_
        refine lv_icmp_eq (tgt := 803) hx hb dL_acts_793 (by decide) (fun c14 => ?_) (fun c14 => ?_)
        · skip
          refine lv_ldc (v := (-2000000002)) hx hb hown (hts _ qc_L_65) dL_acts_803 ?_
          refine lv_goto (tgt := 813) hx hb dL_acts_805 (by decide) ?_
          refine lv_icmp_ne (tgt := 820) hx hb dL_acts_813 (by decide) (fun c15 => ?_) (fun c15 => ?_)
          · exact absurd (by simp only [if_neg c7, if_neg c10, if_pos c12, if_pos c14]) c15
          · skip
            refine lv_iconst (v := 1) hx hb dL_acts_816 (by decide) ?_
            refine lv_goto (tgt := 821) hx hb dL_acts_817 (by decide) ?_
            exact K _ _ _ _ _ _ dL_acts_821 hO.1 hO.2.1 hI
        · skip
          refine lv_iload hx hb dL_acts_796 (lv_at hl 2 rfl) ?_
          refine lv_iload hx hb dL_acts_798 (lv_at hl 3 rfl) ?_
          refine lv_icmp_le (tgt := 808) hx hb dL_acts_800 (by decide) (fun c16 => ?_) (fun c16 => ?_)
          · skip
            refine lv_iload hx hb dL_acts_808 (lv_at hl 1 rfl) ?_
            refine lv_iload hx hb dL_acts_810 (lv_at hl 2 rfl) ?_
            refine lv_iadd hx hb dL_acts_812 ?_
            refine lv_icmp_ne (tgt := 820) hx hb dL_acts_813 (by decide) (fun c17 => ?_) (fun c17 => ?_)
            · exact absurd (by simp only [if_neg c7, if_neg c10, if_pos c12, if_neg c14, if_pos c16]) c17
            · skip
              refine lv_iconst (v := 1) hx hb dL_acts_816 (by decide) ?_
              refine lv_goto (tgt := 821) hx hb dL_acts_817 (by decide) ?_
              exact K _ _ _ _ _ _ dL_acts_821 hO.1 hO.2.1 hI
          · skip
            refine lv_ldc (v := (-2000000002)) hx hb hown (hts _ qc_L_65) dL_acts_803 ?_
            refine lv_goto (tgt := 813) hx hb dL_acts_805 (by decide) ?_
            refine lv_icmp_ne (tgt := 820) hx hb dL_acts_813 (by decide) (fun c18 => ?_) (fun c18 => ?_)
            · exact absurd (by simp only [if_neg c7, if_neg c10, if_pos c12, if_neg c14, if_neg c16]) c18
            · skip
              refine lv_iconst (v := 1) hx hb dL_acts_816 (by decide) ?_
              refine lv_goto (tgt := 821) hx hb dL_acts_817 (by decide) ?_
              exact K _ _ _ _ _ _ dL_acts_821 hO.1 hO.2.1 hI
    · skip
      refine lv_iconst (v := 1) hx hb dL_acts_753 (by decide) ?_
      refine lv_goto (tgt := 758) hx hb dL_acts_754 (by decide) ?_
      refine lv_istore (lv' := [(15, .int 1), (14, .int (q_tellOwner (M (P 0)) (M 7 1 (34 + 7 * k + 1)) 0)), (13, .int w4), (12, .int (m_share (M 7) k 0)), (11, .int w1), (10, .int (M 7 1 (34 + 7 * k + 1))), (9, .int (u_loan (M 7) k)), (8, .int (M 7 1 (34 + 7 * k + 3))), (7, .int (M 7 1 (34 + 7 * k))), (6, .int 1), (5, .int k5), (4, .int (nI n)), (3, .int h3), (2, .int y1), (1, .int x1), (0, .ref (ad 6 0))]) hx hb dL_acts_758 hl (by decide) rfl (fun ls hl => ?_)
      refine lv_aload_n hx hb dL_acts_760 rfl (lv_at hl 15 rfl) ?_
      refine lv_iload hx hb dL_acts_761 (lv_at hl 8 rfl) ?_
      refine lv_iload hx hb dL_acts_763 (lv_at hl 4 rfl) ?_
      refine lv_iload hx hb dL_acts_765 (lv_at hl 2 rfl) ?_
      refine r_pledge (rest := []) X hI hzi h0 h1 hr hl.1 rfl ⟨rfl, rfl, by decide, by decide⟩ (Nat.le_of_ble_eq_true rfl) ⟨Nat.zero_le _, Nat.zero_le _⟩ dL_acts_767 (fun P1 M1 hO H locs hI => ?_)
      refine g_te (y := (if w1 = 3 then -2000000001 else if w4 = 0 then -2000000001 else if u_loan (M 7) k = -2000000004 then (if M 7 1 (34 + 7 * k + 1) = 5 + w1 then -2000000002 else if w4 ≤ m_share (M 7) k 0 then q_tellOwner (M (P 0)) (M 7 1 (34 + 7 * k + 1)) 0 + w4 else -2000000002) else -2000000002)) (E_pledge hr hk ⟨w1a, w1b⟩ w4a) ?_
      refine lv_iload hx hb dL_acts_770 (lv_at hl 0 rfl) ?_
      refine lv_if_eq (tgt := 780) hx hb dL_acts_772 (by decide) (fun c19 => absurd c19 (by decide)) (fun _ => ?_)
      refine lv_ldc (v := (-2000000001)) hx hb hown (hts _ qc_L_44) dL_acts_775 ?_
      refine lv_goto (tgt := 813) hx hb dL_acts_777 (by decide) ?_
      refine lv_icmp_ne (tgt := 820) hx hb dL_acts_813 (by decide) (fun c20 => ?_) (fun c20 => ?_)
      · exact absurd (by simp only [if_neg c7, if_pos c10]) c20
      · skip
        refine lv_iconst (v := 1) hx hb dL_acts_816 (by decide) ?_
        refine lv_goto (tgt := 821) hx hb dL_acts_817 (by decide) ?_
        exact K _ _ _ _ _ _ dL_acts_821 hO.1 hO.2.1 hI
set_option maxHeartbeats 4000000 in
set_option maxRecDepth 100000 in
theorem a_pledge0 (X : L_x p s m args c' cL_acts 17 D tb ad (g_A ad)) (hzi : z_In P M c) (h0 : 0 ≤ c) (h1 : c ≤ 511) (hr : z_R (M (P 0)) (M 7 1) n (61 * c) (-(990000 * c)) (3960000 * c))
    (K : ∀ (pc : Nat) (ls : Array Slot) (P1 : g_P) (M1 : g_M) (H : Heap) (locs : List Loc), decode cL_acts pc = .ok (.ireturn, 1) → z_In P1 M1 (c + 1) → z_Step P M P1 M1 → g_I D tb ad (g_A ad) s H locs P1 M1 → W p l e rm_L_acts s m args below meth c' H locs 0 0 Q (F0 m pc ls [.int 1]))
    (hI : g_I D tb ad (g_A ad) s H locs P M) (hl : lv_has ls 17 [(10, .int 0), (9, .int (-2000000004)), (8, .int 0), (7, .int (M 7 1 2)), (6, .int 0), (5, .int k5), (4, .int (nI n)), (3, .int h3), (2, .int y1), (1, .int x1), (0, .ref (ad 6 0))]) : W p l e rm_L_acts s m args below meth c' H locs 0 0 Q (F0 m 681 ls []) := by
  obtain ⟨hx, hb, hml, hown, hts, hC, hj⟩ := id X
  have hz := hzi.1
  have h16 : n ≤ 16 := hr.choose_spec.1.n16
  have hmd : m_place (M 7) (M 7 1 2) n = none := u_made hr.choose_spec.2.2.1
  refine lv_iload_n hx hb dL_acts_681 rfl (lv_at hl 8 rfl) ?_
  refine lv_iconst (v := 4) hx hb dL_acts_682 (by decide) ?_
  refine r_low (rest := []) X hI (by decide) hl.1 rfl ⟨rfl, rfl, by decide, by decide⟩ (Nat.le_of_ble_eq_true rfl) ⟨Nat.zero_le _, Nat.zero_le _⟩ dL_acts_683 (fun H locs hI w1 w1a w1b => ?_)
  have w1b : w1.toInt < 4 := w1b
  refine lv_istore (lv' := [(11, .int w1), (10, .int 0), (9, .int (-2000000004)), (8, .int 0), (7, .int (M 7 1 2)), (6, .int 0), (5, .int k5), (4, .int (nI n)), (3, .int h3), (2, .int y1), (1, .int x1), (0, .ref (ad 6 0))]) hx hb dL_acts_686 hl (by decide) rfl (fun ls hl => ?_)
  refine lv_iload hx hb dL_acts_688 (lv_at hl 5 rfl) ?_
  refine lv_if_eq (tgt := 704) hx hb dL_acts_690 (by decide) (fun _ => ?_) (fun c2 => absurd c2 (by decide))
  refine lv_iconst (v := 0) hx hb dL_acts_704 (by decide) ?_
  refine lv_istore (lv' := [(12, .int 0), (11, .int w1), (10, .int 0), (9, .int (-2000000004)), (8, .int 0), (7, .int (M 7 1 2)), (6, .int 0), (5, .int k5), (4, .int (nI n)), (3, .int h3), (2, .int y1), (1, .int x1), (0, .ref (ad 6 0))]) hx hb dL_acts_705 hl (by decide) rfl (fun ls hl => ?_)
  refine lv_iload_n hx hb dL_acts_707 rfl (lv_at hl 10 rfl) ?_
  refine lv_iconst (v := 2) hx hb dL_acts_708 (by decide) ?_
  refine lv_ishr hx hb dL_acts_709 ?_
  refine lv_topi (fun sh3 _ => ?_)
  refine lv_iload hx hb dL_acts_710 (lv_at hl 0 rfl) ?_
  refine lv_iconst (v := 2) hx hb dL_acts_712 (by decide) ?_
  refine lv_iadd hx hb dL_acts_713 ?_
  refine g_te (y := 2) (by decide) ?_
  refine r_low (rest := []) X hI (by decide) hl.1 rfl ⟨rfl, rfl, by decide, by decide⟩ (Nat.le_of_ble_eq_true rfl) ⟨Nat.zero_le _, Nat.zero_le _⟩ dL_acts_714 (fun H locs hI w4 w4a w4b => ?_)
  have w4b : w4.toInt < 2 := w4b
  refine lv_istore (lv' := [(13, .int w4), (12, .int 0), (11, .int w1), (10, .int 0), (9, .int (-2000000004)), (8, .int 0), (7, .int (M 7 1 2)), (6, .int 0), (5, .int k5), (4, .int (nI n)), (3, .int h3), (2, .int y1), (1, .int x1), (0, .ref (ad 6 0))]) hx hb dL_acts_717 hl (by decide) rfl (fun ls hl => ?_)
  refine lv_iload hx hb dL_acts_719 (lv_at hl 7 rfl) ?_
  refine lv_if_eq (tgt := 734) hx hb dL_acts_721 (by decide) (fun _ => ?_) (fun c5 => absurd c5 (by decide))
  refine lv_iconst (v := 0) hx hb dL_acts_734 (by decide) ?_
  refine lv_istore (lv' := [(14, .int 0), (13, .int w4), (12, .int 0), (11, .int w1), (10, .int 0), (9, .int (-2000000004)), (8, .int 0), (7, .int (M 7 1 2)), (6, .int 0), (5, .int k5), (4, .int (nI n)), (3, .int h3), (2, .int y1), (1, .int x1), (0, .ref (ad 6 0))]) hx hb dL_acts_735 hl (by decide) rfl (fun ls hl => ?_)
  refine lv_iload hx hb dL_acts_737 (lv_at hl 8 rfl) ?_
  refine lv_if_eq (tgt := 753) hx hb dL_acts_739 (by decide) (fun _ => ?_) (fun c6 => absurd c6 (by decide))
  refine lv_iconst (v := 1) hx hb dL_acts_753 (by decide) ?_
  refine lv_goto (tgt := 758) hx hb dL_acts_754 (by decide) ?_
  refine lv_istore (lv' := [(15, .int 1), (14, .int 0), (13, .int w4), (12, .int 0), (11, .int w1), (10, .int 0), (9, .int (-2000000004)), (8, .int 0), (7, .int (M 7 1 2)), (6, .int 0), (5, .int k5), (4, .int (nI n)), (3, .int h3), (2, .int y1), (1, .int x1), (0, .ref (ad 6 0))]) hx hb dL_acts_758 hl (by decide) rfl (fun ls hl => ?_)
  refine lv_aload_n hx hb dL_acts_760 rfl (lv_at hl 15 rfl) ?_
  refine lv_iload hx hb dL_acts_761 (lv_at hl 8 rfl) ?_
  refine lv_iload hx hb dL_acts_763 (lv_at hl 4 rfl) ?_
  refine lv_iload hx hb dL_acts_765 (lv_at hl 2 rfl) ?_
  refine r_pledge (rest := []) X hI hzi h0 h1 hr hl.1 rfl ⟨rfl, rfl, by decide, by decide⟩ (Nat.le_of_ble_eq_true rfl) ⟨Nat.zero_le _, Nat.zero_le _⟩ dL_acts_767 (fun P1 M1 hO H locs hI => ?_)
  refine g_te (y := (-2000000001)) (E_pledge0 hmd) ?_
  refine lv_iload hx hb dL_acts_770 (lv_at hl 0 rfl) ?_
  refine lv_if_eq (tgt := 780) hx hb dL_acts_772 (by decide) (fun c7 => absurd c7 (by decide)) (fun _ => ?_)
  refine lv_ldc (v := (-2000000001)) hx hb hown (hts _ qc_L_44) dL_acts_775 ?_
  refine lv_goto (tgt := 813) hx hb dL_acts_777 (by decide) ?_
  refine lv_icmp_ne (tgt := 820) hx hb dL_acts_813 (by decide) (fun c8 => absurd c8 (by decide)) (fun _ => ?_)
  refine lv_iconst (v := 1) hx hb dL_acts_816 (by decide) ?_
  refine lv_goto (tgt := 821) hx hb dL_acts_817 (by decide) ?_
  exact K _ _ _ _ _ _ dL_acts_821 hO.1 hO.2.1 hI
set_option maxHeartbeats 4000000 in
set_option maxRecDepth 100000 in
theorem a_repay1 {k : Nat} (hk : k < n) (X : L_x p s m args c' cL_acts 17 D tb ad (g_A ad)) (hzi : z_In P M c) (h0 : 0 ≤ c) (h1 : c ≤ 511) (hr : z_R (M (P 0)) (M 7 1) n (61 * c) (-(990000 * c)) (3960000 * c))
    (K : ∀ (pc : Nat) (ls : Array Slot) (P1 : g_P) (M1 : g_M) (H : Heap) (locs : List Loc), decode cL_acts pc = .ok (.ireturn, 1) → z_In P1 M1 (c + 1) → z_Step P M P1 M1 → g_I D tb ad (g_A ad) s H locs P1 M1 → W p l e rm_L_acts s m args below meth c' H locs 0 0 Q (F0 m pc ls [.int 1]))
    (hI : g_I D tb ad (g_A ad) s H locs P M) (hl : lv_has ls 17 [(10, .int (M 7 1 (34 + 7 * k + 1))), (9, .int (u_loan (M 7) k)), (8, .int (M 7 1 (34 + 7 * k + 3))), (7, .int (M 7 1 (34 + 7 * k))), (6, .int 1), (5, .int k5), (4, .int (nI n)), (3, .int h3), (2, .int y1), (1, .int x1), (0, .ref (ad 6 0))]) : W p l e rm_L_acts s m args below meth c' H locs 0 0 Q (F0 m 828 ls []) := by
  obtain ⟨hx, hb, hml, hown, hts, hC, hj⟩ := id X
  have hz := hzi.1
  have h16 : n ≤ 16 := hr.choose_spec.1.n16
  have hmd : m_place (M 7) (M 7 1 2) n = none := u_made hr.choose_spec.2.2.1
  refine lv_iload hx hb dL_acts_828 (lv_at hl 1 rfl) ?_
  refine lv_ldc (v := (-2000000004)) hx hb hown (hts _ qc_L_43) dL_acts_830 ?_
  refine lv_icmp_ne (tgt := 843) hx hb dL_acts_832 (by decide) (fun c1 => ?_) (fun c1 => ?_)
  · skip
    refine lv_iload_n hx hb dL_acts_843 rfl (lv_at hl 8 rfl) ?_
    refine lv_iload hx hb dL_acts_844 (lv_at hl 1 rfl) ?_
    refine lv_iconst (v := 2) hx hb dL_acts_846 (by decide) ?_
    refine lv_iadd hx hb dL_acts_847 ?_
    refine r_low (rest := []) X hI (u_loan2 hr hk c1) hl.1 rfl ⟨rfl, rfl, by decide, by decide⟩ (Nat.le_of_ble_eq_true rfl) ⟨Nat.zero_le _, Nat.zero_le _⟩ dL_acts_848 (fun H locs hI w2 w2a w2b => ?_)
    refine lv_istore (lv' := [(11, .int w2), (10, .int (M 7 1 (34 + 7 * k + 1))), (9, .int (u_loan (M 7) k)), (8, .int (M 7 1 (34 + 7 * k + 3))), (7, .int (M 7 1 (34 + 7 * k))), (6, .int 1), (5, .int k5), (4, .int (nI n)), (3, .int h3), (2, .int y1), (1, .int x1), (0, .ref (ad 6 0))]) hx hb dL_acts_851 hl (by decide) rfl (fun ls hl => ?_)
    refine lv_aload_n hx hb dL_acts_853 rfl (lv_at hl 11 rfl) ?_
    refine lv_iload hx hb dL_acts_854 (lv_at hl 4 rfl) ?_
    refine lv_iload hx hb dL_acts_856 (lv_at hl 0 rfl) ?_
    refine r_repay (rest := []) X hI hzi h0 h1 hr hl.1 rfl ⟨rfl, rfl, by decide, by decide⟩ (Nat.le_of_ble_eq_true rfl) ⟨Nat.zero_le _, Nat.zero_le _⟩ dL_acts_858 (fun P1 M1 hO H locs hI => ?_)
    refine g_te (y := (if w2 = 0 then -2000000001 else if u_loan (M 7) k = -2000000004 then -2000000002 else if w2 ≤ u_loan (M 7) k then u_loan (M 7) k - w2 else -2000000002)) (E_repay hr hk w2a) ?_
    refine lv_iload hx hb dL_acts_861 (lv_at hl 5 rfl) ?_
    refine lv_if_eq (tgt := 871) hx hb dL_acts_863 (by decide) (fun c3 => absurd c3 (by decide)) (fun _ => ?_)
    refine lv_iload hx hb dL_acts_866 (lv_at hl 0 rfl) ?_
    refine lv_if_ne (tgt := 876) hx hb dL_acts_868 (by decide) (fun c4 => ?_) (fun c4 => ?_)
    · skip
      refine lv_iload hx hb dL_acts_876 (lv_at hl 2 rfl) ?_
      refine lv_ldc (v := (-2000000004)) hx hb hown (hts _ qc_L_43) dL_acts_878 ?_
      refine lv_icmp_eq (tgt := 890) hx hb dL_acts_880 (by decide) (fun c5 => ?_) (fun c5 => ?_)
      · exact absurd c5 c1
      · skip
        refine lv_iload hx hb dL_acts_883 (lv_at hl 0 rfl) ?_
        refine lv_iload hx hb dL_acts_885 (lv_at hl 2 rfl) ?_
        refine lv_icmp_le (tgt := 895) hx hb dL_acts_887 (by decide) (fun c6 => ?_) (fun c6 => ?_)
        · skip
          refine lv_iload hx hb dL_acts_895 (lv_at hl 2 rfl) ?_
          refine lv_iload hx hb dL_acts_897 (lv_at hl 0 rfl) ?_
          refine lv_isub hx hb dL_acts_899 ?_
          refine lv_icmp_ne (tgt := 907) hx hb dL_acts_900 (by decide) (fun c7 => ?_) (fun c7 => ?_)
          · exact absurd (by simp only [if_neg c1, if_neg c4, if_neg c5, if_pos c6]) c7
          · skip
            refine lv_iconst (v := 1) hx hb dL_acts_903 (by decide) ?_
            refine lv_goto (tgt := 908) hx hb dL_acts_904 (by decide) ?_
            exact K _ _ _ _ _ _ dL_acts_908 hO.1 hO.2.1 hI
        · skip
          refine lv_ldc (v := (-2000000002)) hx hb hown (hts _ qc_L_65) dL_acts_890 ?_
          refine lv_goto (tgt := 900) hx hb dL_acts_892 (by decide) ?_
          refine lv_icmp_ne (tgt := 907) hx hb dL_acts_900 (by decide) (fun c8 => ?_) (fun c8 => ?_)
          · exact absurd (by simp only [if_neg c1, if_neg c4, if_neg c5, if_neg c6]) c8
          · skip
            refine lv_iconst (v := 1) hx hb dL_acts_903 (by decide) ?_
            refine lv_goto (tgt := 908) hx hb dL_acts_904 (by decide) ?_
            exact K _ _ _ _ _ _ dL_acts_908 hO.1 hO.2.1 hI
    · skip
      refine lv_ldc (v := (-2000000001)) hx hb hown (hts _ qc_L_44) dL_acts_871 ?_
      refine lv_goto (tgt := 900) hx hb dL_acts_873 (by decide) ?_
      refine lv_icmp_ne (tgt := 907) hx hb dL_acts_900 (by decide) (fun c9 => ?_) (fun c9 => ?_)
      · exact absurd (by simp only [if_neg c1, if_pos c4]) c9
      · skip
        refine lv_iconst (v := 1) hx hb dL_acts_903 (by decide) ?_
        refine lv_goto (tgt := 908) hx hb dL_acts_904 (by decide) ?_
        exact K _ _ _ _ _ _ dL_acts_908 hO.1 hO.2.1 hI
  · skip
    refine lv_iload_n hx hb dL_acts_835 rfl (lv_at hl 8 rfl) ?_
    refine lv_iconst (v := 2) hx hb dL_acts_836 (by decide) ?_
    refine r_low (rest := []) X hI (by decide) hl.1 rfl ⟨rfl, rfl, by decide, by decide⟩ (Nat.le_of_ble_eq_true rfl) ⟨Nat.zero_le _, Nat.zero_le _⟩ dL_acts_837 (fun H locs hI w10 w10a w10b => ?_)
    have w10b : w10.toInt < 2 := w10b
    refine lv_goto (tgt := 851) hx hb dL_acts_840 (by decide) ?_
    refine lv_istore (lv' := [(11, .int w10), (10, .int (M 7 1 (34 + 7 * k + 1))), (9, .int (u_loan (M 7) k)), (8, .int (M 7 1 (34 + 7 * k + 3))), (7, .int (M 7 1 (34 + 7 * k))), (6, .int 1), (5, .int k5), (4, .int (nI n)), (3, .int h3), (2, .int y1), (1, .int x1), (0, .ref (ad 6 0))]) hx hb dL_acts_851 hl (by decide) rfl (fun ls hl => ?_)
    refine lv_aload_n hx hb dL_acts_853 rfl (lv_at hl 11 rfl) ?_
    refine lv_iload hx hb dL_acts_854 (lv_at hl 4 rfl) ?_
    refine lv_iload hx hb dL_acts_856 (lv_at hl 0 rfl) ?_
    refine r_repay (rest := []) X hI hzi h0 h1 hr hl.1 rfl ⟨rfl, rfl, by decide, by decide⟩ (Nat.le_of_ble_eq_true rfl) ⟨Nat.zero_le _, Nat.zero_le _⟩ dL_acts_858 (fun P1 M1 hO H locs hI => ?_)
    refine g_te (y := (if w10 = 0 then -2000000001 else if u_loan (M 7) k = -2000000004 then -2000000002 else if w10 ≤ u_loan (M 7) k then u_loan (M 7) k - w10 else -2000000002)) (E_repay hr hk w10a) ?_
    refine lv_iload hx hb dL_acts_861 (lv_at hl 5 rfl) ?_
    refine lv_if_eq (tgt := 871) hx hb dL_acts_863 (by decide) (fun c11 => absurd c11 (by decide)) (fun _ => ?_)
    refine lv_iload hx hb dL_acts_866 (lv_at hl 0 rfl) ?_
    refine lv_if_ne (tgt := 876) hx hb dL_acts_868 (by decide) (fun c12 => ?_) (fun c12 => ?_)
    · skip
      refine lv_iload hx hb dL_acts_876 (lv_at hl 2 rfl) ?_
      refine lv_ldc (v := (-2000000004)) hx hb hown (hts _ qc_L_43) dL_acts_878 ?_
      refine lv_icmp_eq (tgt := 890) hx hb dL_acts_880 (by decide) (fun c13 => ?_) (fun c13 => ?_)
      · skip
        refine lv_ldc (v := (-2000000002)) hx hb hown (hts _ qc_L_65) dL_acts_890 ?_
        refine lv_goto (tgt := 900) hx hb dL_acts_892 (by decide) ?_
        refine lv_icmp_ne (tgt := 907) hx hb dL_acts_900 (by decide) (fun c14 => ?_) (fun c14 => ?_)
        · exact absurd (by simp only [if_pos c1, if_neg c12, if_pos c13]) c14
        · skip
          refine lv_iconst (v := 1) hx hb dL_acts_903 (by decide) ?_
          refine lv_goto (tgt := 908) hx hb dL_acts_904 (by decide) ?_
          exact K _ _ _ _ _ _ dL_acts_908 hO.1 hO.2.1 hI
      · exact absurd c1 c13
    · skip
      refine lv_ldc (v := (-2000000001)) hx hb hown (hts _ qc_L_44) dL_acts_871 ?_
      refine lv_goto (tgt := 900) hx hb dL_acts_873 (by decide) ?_
      refine lv_icmp_ne (tgt := 907) hx hb dL_acts_900 (by decide) (fun c15 => ?_) (fun c15 => ?_)
      · exact absurd (by simp only [if_pos c1, if_pos c12]) c15
      · skip
        refine lv_iconst (v := 1) hx hb dL_acts_903 (by decide) ?_
        refine lv_goto (tgt := 908) hx hb dL_acts_904 (by decide) ?_
        exact K _ _ _ _ _ _ dL_acts_908 hO.1 hO.2.1 hI
set_option maxHeartbeats 4000000 in
set_option maxRecDepth 100000 in
theorem a_repay0 (X : L_x p s m args c' cL_acts 17 D tb ad (g_A ad)) (hzi : z_In P M c) (h0 : 0 ≤ c) (h1 : c ≤ 511) (hr : z_R (M (P 0)) (M 7 1) n (61 * c) (-(990000 * c)) (3960000 * c))
    (K : ∀ (pc : Nat) (ls : Array Slot) (P1 : g_P) (M1 : g_M) (H : Heap) (locs : List Loc), decode cL_acts pc = .ok (.ireturn, 1) → z_In P1 M1 (c + 1) → z_Step P M P1 M1 → g_I D tb ad (g_A ad) s H locs P1 M1 → W p l e rm_L_acts s m args below meth c' H locs 0 0 Q (F0 m pc ls [.int 1]))
    (hI : g_I D tb ad (g_A ad) s H locs P M) (hl : lv_has ls 17 [(10, .int 0), (9, .int (-2000000004)), (8, .int 0), (7, .int (M 7 1 2)), (6, .int 0), (5, .int k5), (4, .int (nI n)), (3, .int h3), (2, .int y1), (1, .int x1), (0, .ref (ad 6 0))]) : W p l e rm_L_acts s m args below meth c' H locs 0 0 Q (F0 m 828 ls []) := by
  obtain ⟨hx, hb, hml, hown, hts, hC, hj⟩ := id X
  have hz := hzi.1
  have h16 : n ≤ 16 := hr.choose_spec.1.n16
  have hmd : m_place (M 7) (M 7 1 2) n = none := u_made hr.choose_spec.2.2.1
  refine lv_iload hx hb dL_acts_828 (lv_at hl 1 rfl) ?_
  refine lv_ldc (v := (-2000000004)) hx hb hown (hts _ qc_L_43) dL_acts_830 ?_
  refine lv_icmp_ne (tgt := 843) hx hb dL_acts_832 (by decide) (fun c1 => absurd c1 (by decide)) (fun _ => ?_)
  refine lv_iload_n hx hb dL_acts_835 rfl (lv_at hl 8 rfl) ?_
  refine lv_iconst (v := 2) hx hb dL_acts_836 (by decide) ?_
  refine r_low (rest := []) X hI (by decide) hl.1 rfl ⟨rfl, rfl, by decide, by decide⟩ (Nat.le_of_ble_eq_true rfl) ⟨Nat.zero_le _, Nat.zero_le _⟩ dL_acts_837 (fun H locs hI w2 w2a w2b => ?_)
  have w2b : w2.toInt < 2 := w2b
  refine lv_goto (tgt := 851) hx hb dL_acts_840 (by decide) ?_
  refine lv_istore (lv' := [(11, .int w2), (10, .int 0), (9, .int (-2000000004)), (8, .int 0), (7, .int (M 7 1 2)), (6, .int 0), (5, .int k5), (4, .int (nI n)), (3, .int h3), (2, .int y1), (1, .int x1), (0, .ref (ad 6 0))]) hx hb dL_acts_851 hl (by decide) rfl (fun ls hl => ?_)
  refine lv_aload_n hx hb dL_acts_853 rfl (lv_at hl 11 rfl) ?_
  refine lv_iload hx hb dL_acts_854 (lv_at hl 4 rfl) ?_
  refine lv_iload hx hb dL_acts_856 (lv_at hl 0 rfl) ?_
  refine r_repay (rest := []) X hI hzi h0 h1 hr hl.1 rfl ⟨rfl, rfl, by decide, by decide⟩ (Nat.le_of_ble_eq_true rfl) ⟨Nat.zero_le _, Nat.zero_le _⟩ dL_acts_858 (fun P1 M1 hO H locs hI => ?_)
  refine g_te (y := (-2000000001)) (E_repay0 hmd) ?_
  refine lv_iload hx hb dL_acts_861 (lv_at hl 5 rfl) ?_
  refine lv_if_eq (tgt := 871) hx hb dL_acts_863 (by decide) (fun _ => ?_) (fun c3 => absurd c3 (by decide))
  refine lv_ldc (v := (-2000000001)) hx hb hown (hts _ qc_L_44) dL_acts_871 ?_
  refine lv_goto (tgt := 900) hx hb dL_acts_873 (by decide) ?_
  refine lv_icmp_ne (tgt := 907) hx hb dL_acts_900 (by decide) (fun c4 => absurd c4 (by decide)) (fun _ => ?_)
  refine lv_iconst (v := 1) hx hb dL_acts_903 (by decide) ?_
  refine lv_goto (tgt := 908) hx hb dL_acts_904 (by decide) ?_
  exact K _ _ _ _ _ _ dL_acts_908 hO.1 hO.2.1 hI
set_option maxHeartbeats 4000000 in
set_option maxRecDepth 100000 in
theorem a_price (X : L_x p s m args c' cL_acts 17 D tb ad (g_A ad)) (hzi : z_In P M c) (h0 : 0 ≤ c) (h1 : c ≤ 511) (hr : z_R (M (P 0)) (M 7 1) n (61 * c) (-(990000 * c)) (3960000 * c))
    (K : ∀ (pc : Nat) (ls : Array Slot) (P1 : g_P) (M1 : g_M) (H : Heap) (locs : List Loc), decode cL_acts pc = .ok (.ireturn, 1) → z_In P1 M1 (c + 1) → z_Step P M P1 M1 → g_I D tb ad (g_A ad) s H locs P1 M1 → W p l e rm_L_acts s m args below meth c' H locs 0 0 Q (F0 m pc ls [.int 1]))
    (hI : g_I D tb ad (g_A ad) s H locs P M) (hl : lv_has ls 17 [(10, .int own), (9, .int loan), (8, .int amt), (7, .int num), (6, .int th), (5, .int k5), (4, .int (nI n)), (3, .int h3), (2, .int y1), (1, .int x1), (0, .ref (ad 6 0))]) : W p l e rm_L_acts s m args below meth c' H locs 0 0 Q (F0 m 915 ls []) := by
  obtain ⟨hx, hb, hml, hown, hts, hC, hj⟩ := id X
  have hz := hzi.1
  have h16 : n ≤ 16 := hr.choose_spec.1.n16
  have hmd : m_place (M 7) (M 7 1 2) n = none := u_made hr.choose_spec.2.2.1
  refine lv_iload_n hx hb dL_acts_915 rfl (lv_at hl 8 rfl) ?_
  refine lv_iconst (v := 4) hx hb dL_acts_916 (by decide) ?_
  refine r_low (rest := []) X hI (by decide) hl.1 rfl ⟨rfl, rfl, by decide, by decide⟩ (Nat.le_of_ble_eq_true rfl) ⟨Nat.zero_le _, Nat.zero_le _⟩ dL_acts_917 (fun H locs hI w1 w1a w1b => ?_)
  have w1b : w1.toInt < 4 := w1b
  refine lv_istore (lv' := [(11, .int w1), (10, .int own), (9, .int loan), (8, .int amt), (7, .int num), (6, .int th), (5, .int k5), (4, .int (nI n)), (3, .int h3), (2, .int y1), (1, .int x1), (0, .ref (ad 6 0))]) hx hb dL_acts_920 hl (by decide) rfl (fun ls hl => ?_)
  refine lv_iload_n hx hb dL_acts_922 rfl (lv_at hl 9 rfl) ?_
  refine lv_iconst (v := 2) hx hb dL_acts_923 (by decide) ?_
  refine lv_ishr hx hb dL_acts_924 ?_
  refine lv_topi (fun sh2 _ => ?_)
  refine lv_bipush (v := 40) hx hb dL_acts_925 (by decide) ?_
  refine r_low (rest := []) X hI (by decide) hl.1 rfl ⟨rfl, rfl, by decide, by decide⟩ (Nat.le_of_ble_eq_true rfl) ⟨Nat.zero_le _, Nat.zero_le _⟩ dL_acts_927 (fun H locs hI w3 w3a w3b => ?_)
  have w3b : w3.toInt < 40 := w3b
  refine lv_istore (lv' := [(12, .int w3), (11, .int w1), (10, .int own), (9, .int loan), (8, .int amt), (7, .int num), (6, .int th), (5, .int k5), (4, .int (nI n)), (3, .int h3), (2, .int y1), (1, .int x1), (0, .ref (ad 6 0))]) hx hb dL_acts_930 hl (by decide) rfl (fun ls hl => ?_)
  refine lv_iload hx hb dL_acts_932 (lv_at hl 1 rfl) ?_
  refine lv_iconst (v := 3) hx hb dL_acts_934 (by decide) ?_
  refine lv_icmp_ne (tgt := 942) hx hb dL_acts_935 (by decide) (fun c4 => ?_) (fun c4 => ?_)
  · skip
    refine lv_aload_n hx hb dL_acts_942 rfl (lv_at hl 12 rfl) ?_
    refine lv_iload hx hb dL_acts_943 (lv_at hl 1 rfl) ?_
    refine lv_iconst (v := 0) hx hb dL_acts_945 (by decide) ?_
    refine r_gradeOf (rest := []) X hI hz hl.1 rfl ⟨rfl, rfl, by decide, by decide⟩ (Nat.le_of_ble_eq_true rfl) ⟨Nat.zero_le _, Nat.zero_le _⟩ dL_acts_946 (fun H locs hI => ?_)
    refine lv_istore (lv' := [(13, .int (q_tellGrade (M (P 0)) w1 0)), (12, .int w3), (11, .int w1), (10, .int own), (9, .int loan), (8, .int amt), (7, .int num), (6, .int th), (5, .int k5), (4, .int (nI n)), (3, .int h3), (2, .int y1), (1, .int x1), (0, .ref (ad 6 0))]) hx hb dL_acts_949 hl (by decide) rfl (fun ls hl => ?_)
    refine lv_aload_n hx hb dL_acts_951 rfl (lv_at hl 13 rfl) ?_
    refine lv_iload hx hb dL_acts_952 (lv_at hl 2 rfl) ?_
    refine lv_iload hx hb dL_acts_954 (lv_at hl 1 rfl) ?_
    refine r_price (rest := []) X hI hzi h0 h1 hr hl.1 rfl ⟨rfl, rfl, by decide, by decide⟩ (Nat.le_of_ble_eq_true rfl) ⟨Nat.zero_le _, Nat.zero_le _⟩ dL_acts_956 (fun P1 M1 hO H locs hI => ?_)
    refine g_te (y := (if w1 = 3 then -2000000001 else if w3 = 0 then -2000000001 else q_tellGrade (M (P 0)) w1 0)) (E_price hr ⟨w1a, w1b⟩ ⟨w3a, w3b⟩) ?_
    refine lv_iload hx hb dL_acts_959 (lv_at hl 2 rfl) ?_
    refine lv_iconst (v := 3) hx hb dL_acts_961 (by decide) ?_
    refine lv_icmp_eq (tgt := 970) hx hb dL_acts_962 (by decide) (fun c5 => ?_) (fun c5 => ?_)
    · exact absurd c5 c4
    · skip
      refine lv_iload hx hb dL_acts_965 (lv_at hl 1 rfl) ?_
      refine lv_if_ne (tgt := 975) hx hb dL_acts_967 (by decide) (fun c6 => ?_) (fun c6 => ?_)
      · skip
        refine lv_iload hx hb dL_acts_975 (lv_at hl 0 rfl) ?_
        refine lv_icmp_ne (tgt := 984) hx hb dL_acts_977 (by decide) (fun c7 => ?_) (fun c7 => ?_)
        · exact absurd (by simp only [if_neg c4, if_neg c5, if_neg c6]) c7
        · skip
          refine lv_iconst (v := 1) hx hb dL_acts_980 (by decide) ?_
          refine lv_goto (tgt := 985) hx hb dL_acts_981 (by decide) ?_
          exact K _ _ _ _ _ _ dL_acts_985 hO.1 hO.2.1 hI
      · skip
        refine lv_ldc (v := (-2000000001)) hx hb hown (hts _ qc_L_44) dL_acts_970 ?_
        refine lv_goto (tgt := 977) hx hb dL_acts_972 (by decide) ?_
        refine lv_icmp_ne (tgt := 984) hx hb dL_acts_977 (by decide) (fun c8 => ?_) (fun c8 => ?_)
        · exact absurd (by simp only [if_neg c4, if_neg c5, if_pos c6]) c8
        · skip
          refine lv_iconst (v := 1) hx hb dL_acts_980 (by decide) ?_
          refine lv_goto (tgt := 985) hx hb dL_acts_981 (by decide) ?_
          exact K _ _ _ _ _ _ dL_acts_985 hO.1 hO.2.1 hI
  · skip
    refine lv_iconst (v := 0) hx hb dL_acts_938 (by decide) ?_
    refine lv_goto (tgt := 949) hx hb dL_acts_939 (by decide) ?_
    refine lv_istore (lv' := [(13, .int 0), (12, .int w3), (11, .int w1), (10, .int own), (9, .int loan), (8, .int amt), (7, .int num), (6, .int th), (5, .int k5), (4, .int (nI n)), (3, .int h3), (2, .int y1), (1, .int x1), (0, .ref (ad 6 0))]) hx hb dL_acts_949 hl (by decide) rfl (fun ls hl => ?_)
    refine lv_aload_n hx hb dL_acts_951 rfl (lv_at hl 13 rfl) ?_
    refine lv_iload hx hb dL_acts_952 (lv_at hl 2 rfl) ?_
    refine lv_iload hx hb dL_acts_954 (lv_at hl 1 rfl) ?_
    refine r_price (rest := []) X hI hzi h0 h1 hr hl.1 rfl ⟨rfl, rfl, by decide, by decide⟩ (Nat.le_of_ble_eq_true rfl) ⟨Nat.zero_le _, Nat.zero_le _⟩ dL_acts_956 (fun P1 M1 hO H locs hI => ?_)
    refine g_te (y := (if w1 = 3 then -2000000001 else if w3 = 0 then -2000000001 else q_tellGrade (M (P 0)) w1 0)) (E_price hr ⟨w1a, w1b⟩ ⟨w3a, w3b⟩) ?_
    refine lv_iload hx hb dL_acts_959 (lv_at hl 2 rfl) ?_
    refine lv_iconst (v := 3) hx hb dL_acts_961 (by decide) ?_
    refine lv_icmp_eq (tgt := 970) hx hb dL_acts_962 (by decide) (fun c9 => ?_) (fun c9 => ?_)
    · skip
      refine lv_ldc (v := (-2000000001)) hx hb hown (hts _ qc_L_44) dL_acts_970 ?_
      refine lv_goto (tgt := 977) hx hb dL_acts_972 (by decide) ?_
      refine lv_icmp_ne (tgt := 984) hx hb dL_acts_977 (by decide) (fun c10 => ?_) (fun c10 => ?_)
      · exact absurd (by simp only [if_pos c4, if_pos c9]) c10
      · skip
        refine lv_iconst (v := 1) hx hb dL_acts_980 (by decide) ?_
        refine lv_goto (tgt := 985) hx hb dL_acts_981 (by decide) ?_
        exact K _ _ _ _ _ _ dL_acts_985 hO.1 hO.2.1 hI
    · exact absurd c4 c9
set_option maxHeartbeats 4000000 in
set_option maxRecDepth 100000 in
theorem a_call (X : L_x p s m args c' cL_acts 17 D tb ad (g_A ad)) (hzi : z_In P M c) (h0 : 0 ≤ c) (h1 : c ≤ 511) (hr : z_R (M (P 0)) (M 7 1) n (61 * c) (-(990000 * c)) (3960000 * c))
    (K : ∀ (pc : Nat) (ls : Array Slot) (P1 : g_P) (M1 : g_M) (H : Heap) (locs : List Loc), decode cL_acts pc = .ok (.ireturn, 1) → z_In P1 M1 (c + 1) → z_Step P M P1 M1 → g_I D tb ad (g_A ad) s H locs P1 M1 → W p l e rm_L_acts s m args below meth c' H locs 0 0 Q (F0 m pc ls [.int 1]))
    (hI : g_I D tb ad (g_A ad) s H locs P M) (hl : lv_has ls 17 [(10, .int own), (9, .int loan), (8, .int amt), (7, .int num), (6, .int th), (5, .int k5), (4, .int (nI n)), (3, .int h3), (2, .int y1), (1, .int x1), (0, .ref (ad 6 0))]) : W p l e rm_L_acts s m args below meth c' H locs 0 0 Q (F0 m 992 ls []) := by
  obtain ⟨hx, hb, hml, hown, hts, hC, hj⟩ := id X
  have hz := hzi.1
  have h16 : n ≤ 16 := hr.choose_spec.1.n16
  have hmd : m_place (M 7) (M 7 1 2) n = none := u_made hr.choose_spec.2.2.1
  refine lv_iload_n hx hb dL_acts_992 rfl (lv_at hl 8 rfl) ?_
  refine lv_iconst (v := 4) hx hb dL_acts_993 (by decide) ?_
  refine r_low (rest := []) X hI (by decide) hl.1 rfl ⟨rfl, rfl, by decide, by decide⟩ (Nat.le_of_ble_eq_true rfl) ⟨Nat.zero_le _, Nat.zero_le _⟩ dL_acts_994 (fun H locs hI w1 w1a w1b => ?_)
  have w1b : w1.toInt < 4 := w1b
  refine lv_istore (lv' := [(11, .int w1), (10, .int own), (9, .int loan), (8, .int amt), (7, .int num), (6, .int th), (5, .int k5), (4, .int (nI n)), (3, .int h3), (2, .int y1), (1, .int x1), (0, .ref (ad 6 0))]) hx hb dL_acts_997 hl (by decide) rfl (fun ls hl => ?_)
  refine lv_iload hx hb dL_acts_999 (lv_at hl 0 rfl) ?_
  refine lv_iconst (v := 3) hx hb dL_acts_1001 (by decide) ?_
  refine lv_icmp_ne (tgt := 1010) hx hb dL_acts_1002 (by decide) (fun c2 => ?_) (fun c2 => ?_)
  · skip
    refine lv_aload_n hx hb dL_acts_1010 rfl (lv_at hl 11 rfl) ?_
    refine lv_iload hx hb dL_acts_1011 (lv_at hl 0 rfl) ?_
    refine lv_iconst (v := 5) hx hb dL_acts_1013 (by decide) ?_
    refine r_lenderOf (rest := []) X hI hz hl.1 rfl ⟨rfl, rfl, by decide, by decide⟩ (Nat.le_of_ble_eq_true rfl) ⟨Nat.zero_le _, Nat.zero_le _⟩ dL_acts_1014 (fun H locs hI => ?_)
    refine lv_istore (lv' := [(12, .int (q_tellLender (M (P 0)) w1 5)), (11, .int w1), (10, .int own), (9, .int loan), (8, .int amt), (7, .int num), (6, .int th), (5, .int k5), (4, .int (nI n)), (3, .int h3), (2, .int y1), (1, .int x1), (0, .ref (ad 6 0))]) hx hb dL_acts_1017 hl (by decide) rfl (fun ls hl => ?_)
    refine lv_aload_n hx hb dL_acts_1019 rfl (lv_at hl 12 rfl) ?_
    refine lv_iload hx hb dL_acts_1020 (lv_at hl 1 rfl) ?_
    refine r_call (rest := []) X hI hzi h0 h1 hr hl.1 rfl ⟨rfl, rfl, by decide, by decide⟩ (Nat.le_of_ble_eq_true rfl) ⟨Nat.zero_le _, Nat.zero_le _⟩ dL_acts_1022 (fun P1 M1 hO H locs hI => ?_)
    refine g_te (y := (if w1 = 3 then -2000000001 else q_tellLender (M (P 0)) w1 5)) (E_call hr ⟨w1a, w1b⟩) ?_
    refine lv_iload hx hb dL_acts_1025 (lv_at hl 0 rfl) ?_
    refine lv_icmp_ne (tgt := 1050) hx hb dL_acts_1027 (by decide) (fun c3 => ?_) (fun c3 => ?_)
    · exact absurd (by simp only [if_neg c2]) c3
    · skip
      refine lv_iload hx hb dL_acts_1030 (lv_at hl 1 rfl) ?_
      refine lv_iconst (v := 3) hx hb dL_acts_1032 (by decide) ?_
      refine lv_icmp_eq (tgt := 1046) hx hb dL_acts_1033 (by decide) (fun c4 => ?_) (fun c4 => ?_)
      · exact absurd c4 c2
      · skip
        refine lv_aload_n hx hb dL_acts_1036 rfl (lv_at hl 12 rfl) ?_
        refine lv_iload hx hb dL_acts_1037 (lv_at hl 1 rfl) ?_
        refine lv_iconst (v := 5) hx hb dL_acts_1039 (by decide) ?_
        refine r_lenderOf (rest := []) X hI hO.1.1 hl.1 rfl ⟨rfl, rfl, by decide, by decide⟩ (Nat.le_of_ble_eq_true rfl) ⟨Nat.zero_le _, Nat.zero_le _⟩ dL_acts_1040 (fun H locs hI => ?_)
        refine g_te (y := 0) (u_callG hr ⟨w1a, w1b⟩ c2 hO) ?_
        refine lv_if_ne (tgt := 1050) hx hb dL_acts_1043 (by decide) (fun c5 => absurd c5 (by decide)) (fun _ => ?_)
        refine lv_iconst (v := 1) hx hb dL_acts_1046 (by decide) ?_
        refine lv_goto (tgt := 1051) hx hb dL_acts_1047 (by decide) ?_
        exact K _ _ _ _ _ _ dL_acts_1051 hO.1 hO.2.1 hI
  · skip
    refine lv_ldc (v := (-2000000001)) hx hb hown (hts _ qc_L_44) dL_acts_1005 ?_
    refine lv_goto (tgt := 1017) hx hb dL_acts_1007 (by decide) ?_
    refine lv_istore (lv' := [(12, .int (-2000000001)), (11, .int w1), (10, .int own), (9, .int loan), (8, .int amt), (7, .int num), (6, .int th), (5, .int k5), (4, .int (nI n)), (3, .int h3), (2, .int y1), (1, .int x1), (0, .ref (ad 6 0))]) hx hb dL_acts_1017 hl (by decide) rfl (fun ls hl => ?_)
    refine lv_aload_n hx hb dL_acts_1019 rfl (lv_at hl 12 rfl) ?_
    refine lv_iload hx hb dL_acts_1020 (lv_at hl 1 rfl) ?_
    refine r_call (rest := []) X hI hzi h0 h1 hr hl.1 rfl ⟨rfl, rfl, by decide, by decide⟩ (Nat.le_of_ble_eq_true rfl) ⟨Nat.zero_le _, Nat.zero_le _⟩ dL_acts_1022 (fun P1 M1 hO H locs hI => ?_)
    refine g_te (y := (if w1 = 3 then -2000000001 else q_tellLender (M (P 0)) w1 5)) (E_call hr ⟨w1a, w1b⟩) ?_
    refine lv_iload hx hb dL_acts_1025 (lv_at hl 0 rfl) ?_
    refine lv_icmp_ne (tgt := 1050) hx hb dL_acts_1027 (by decide) (fun c6 => ?_) (fun c6 => ?_)
    · exact absurd (by simp only [if_pos c2]) c6
    · skip
      refine lv_iload hx hb dL_acts_1030 (lv_at hl 1 rfl) ?_
      refine lv_iconst (v := 3) hx hb dL_acts_1032 (by decide) ?_
      refine lv_icmp_eq (tgt := 1046) hx hb dL_acts_1033 (by decide) (fun c7 => ?_) (fun c7 => ?_)
      · skip
        refine lv_iconst (v := 1) hx hb dL_acts_1046 (by decide) ?_
        refine lv_goto (tgt := 1051) hx hb dL_acts_1047 (by decide) ?_
        exact K _ _ _ _ _ _ dL_acts_1051 hO.1 hO.2.1 hI
      · exact absurd c2 c7
set_option maxHeartbeats 4000000 in
set_option maxRecDepth 100000 in
theorem a_pass (X : L_x p s m args c' cL_acts 17 D tb ad (g_A ad)) (hzi : z_In P M c) (h0 : 0 ≤ c) (h1 : c ≤ 511) (hr : z_R (M (P 0)) (M 7 1) n (61 * c) (-(990000 * c)) (3960000 * c))
    (K : ∀ (pc : Nat) (ls : Array Slot) (P1 : g_P) (M1 : g_M) (H : Heap) (locs : List Loc), decode cL_acts pc = .ok (.ireturn, 1) → z_In P1 M1 (c + 1) → z_Step P M P1 M1 → g_I D tb ad (g_A ad) s H locs P1 M1 → W p l e rm_L_acts s m args below meth c' H locs 0 0 Q (F0 m pc ls [.int 1]))
    (hI : g_I D tb ad (g_A ad) s H locs P M) (hl : lv_has ls 17 [(10, .int own), (9, .int loan), (8, .int amt), (7, .int num), (6, .int th), (5, .int k5), (4, .int (nI n)), (3, .int h3), (2, .int y1), (1, .int x1), (0, .ref (ad 6 0))]) : W p l e rm_L_acts s m args below meth c' H locs 0 0 Q (F0 m 1058 ls []) := by
  obtain ⟨hx, hb, hml, hown, hts, hC, hj⟩ := id X
  have hz := hzi.1
  have h16 : n ≤ 16 := hr.choose_spec.1.n16
  have hmd : m_place (M 7) (M 7 1 2) n = none := u_made hr.choose_spec.2.2.1
  refine lv_iload_n hx hb dL_acts_1058 rfl (lv_at hl 8 rfl) ?_
  refine lv_bipush (v := 6) hx hb dL_acts_1059 (by decide) ?_
  refine r_low (rest := []) X hI (by decide) hl.1 rfl ⟨rfl, rfl, by decide, by decide⟩ (Nat.le_of_ble_eq_true rfl) ⟨Nat.zero_le _, Nat.zero_le _⟩ dL_acts_1061 (fun H locs hI w1 w1a w1b => ?_)
  have w1b : w1.toInt < 6 := w1b
  refine lv_if_ne (tgt := 1078) hx hb dL_acts_1064 (by decide) (fun c2 => ?_) (fun c2 => ?_)
  · skip
    refine lv_iconst (v := 1) hx hb dL_acts_1078 (by decide) ?_
    refine lv_iload_n hx hb dL_acts_1079 rfl (lv_at hl 8 rfl) ?_
    refine lv_iconst (v := 3) hx hb dL_acts_1080 (by decide) ?_
    refine lv_ishr hx hb dL_acts_1081 ?_
    refine lv_topi (fun sh3 _ => ?_)
    refine lv_iconst (v := 3) hx hb dL_acts_1082 (by decide) ?_
    refine r_low (rest := [.int 1]) X hI (by decide) hl.1 rfl ⟨rfl, rfl, by decide, by decide⟩ (Nat.le_of_ble_eq_true rfl) ⟨Nat.zero_le _, Nat.zero_le _⟩ dL_acts_1083 (fun H locs hI w4 w4a w4b => ?_)
    have w4b : w4.toInt < 3 := w4b
    refine lv_iadd hx hb dL_acts_1086 ?_
    have hd : 0 ≤ (1 + w4).toInt ∧ (1 + w4).toInt ≤ 100 := by rw [z_add (by rw [z_i1]; omega) (by rw [z_i1]; omega), z_i1]; omega
    refine lv_topi (fun d5 hd5 => ?_)
    rw [← hd5] at hd
    refine lv_istore (lv' := [(11, .int d5), (10, .int own), (9, .int loan), (8, .int amt), (7, .int num), (6, .int th), (5, .int k5), (4, .int (nI n)), (3, .int h3), (2, .int y1), (1, .int x1), (0, .ref (ad 6 0))]) hx hb dL_acts_1087 hl (by decide) rfl (fun ls hl => ?_)
    refine lv_aload_n hx hb dL_acts_1089 rfl (lv_at hl 11 rfl) ?_
    refine lv_iconst (v := 3) hx hb dL_acts_1090 (by decide) ?_
    refine r_count (rest := []) X hI hz hl.1 rfl ⟨rfl, rfl, by decide, by decide⟩ (Nat.le_of_ble_eq_true rfl) ⟨Nat.zero_le _, Nat.zero_le _⟩ dL_acts_1091 (fun H locs hI => ?_)
    refine g_te (y := (M 7 1 1)) ((q_cnt_of (by decide) (by decide)).trans (u_c3 hr)) ?_
    refine lv_istore (lv' := [(12, .int (M 7 1 1)), (11, .int d5), (10, .int own), (9, .int loan), (8, .int amt), (7, .int num), (6, .int th), (5, .int k5), (4, .int (nI n)), (3, .int h3), (2, .int y1), (1, .int x1), (0, .ref (ad 6 0))]) hx hb dL_acts_1094 hl (by decide) rfl (fun ls hl => ?_)
    refine lv_aload_n hx hb dL_acts_1096 rfl (lv_at hl 12 rfl) ?_
    refine lv_iconst (v := 5) hx hb dL_acts_1097 (by decide) ?_
    refine r_count (rest := []) X hI hz hl.1 rfl ⟨rfl, rfl, by decide, by decide⟩ (Nat.le_of_ble_eq_true rfl) ⟨Nat.zero_le _, Nat.zero_le _⟩ dL_acts_1098 (fun H locs hI => ?_)
    refine g_te (y := (M 7 1 3)) ((q_cnt_of (by decide) (by decide)).trans (u_c5 hr)) ?_
    refine lv_istore (lv' := [(13, .int (M 7 1 3)), (12, .int (M 7 1 1)), (11, .int d5), (10, .int own), (9, .int loan), (8, .int amt), (7, .int num), (6, .int th), (5, .int k5), (4, .int (nI n)), (3, .int h3), (2, .int y1), (1, .int x1), (0, .ref (ad 6 0))]) hx hb dL_acts_1101 hl (by decide) rfl (fun ls hl => ?_)
    refine lv_aload_n hx hb dL_acts_1103 rfl (lv_at hl 13 rfl) ?_
    refine lv_iload hx hb dL_acts_1104 (lv_at hl 2 rfl) ?_
    refine r_pass (rest := []) X hI hzi h0 h1 hr hl.1 rfl ⟨rfl, rfl, by decide, by decide⟩ (Nat.le_of_ble_eq_true rfl) ⟨Nat.zero_le _, Nat.zero_le _⟩ dL_acts_1106 (fun P1 M1 hO H locs hI => ?_)
    refine lv_istore (lv' := [(14, .int ((m_lets (m_begins (M 7)) d5 n).1)), (13, .int (M 7 1 3)), (12, .int (M 7 1 1)), (11, .int d5), (10, .int own), (9, .int loan), (8, .int amt), (7, .int num), (6, .int th), (5, .int k5), (4, .int (nI n)), (3, .int h3), (2, .int y1), (1, .int x1), (0, .ref (ad 6 0))]) hx hb dL_acts_1109 hl (by decide) rfl (fun ls hl => ?_)
    refine lv_iload hx hb dL_acts_1111 (lv_at hl 3 rfl) ?_
    refine lv_if_eq (tgt := 1123) hx hb dL_acts_1113 (by decide) (fun c5 => ?_) (fun c5 => ?_)
    · skip
      refine lv_iload hx hb dL_acts_1123 (lv_at hl 0 rfl) ?_
      refine lv_ldc (v := (-2000000001)) hx hb hown (hts _ qc_L_44) dL_acts_1125 ?_
      refine lv_icmp_ne (tgt := 1134) hx hb dL_acts_1127 (by decide) (fun c6 => ?_) (fun c6 => ?_)
      · exact absurd ((E_pass hd).1 (Or.inl c5)) c6
      · skip
        refine lv_iconst (v := 1) hx hb dL_acts_1130 (by decide) ?_
        refine lv_goto (tgt := 1169) hx hb dL_acts_1131 (by decide) ?_
        exact K _ _ _ _ _ _ dL_acts_1169 hO.1 hO.2.1 hI
    · skip
      refine lv_iload hx hb dL_acts_1116 (lv_at hl 3 rfl) ?_
      refine lv_bipush (v := 100) hx hb dL_acts_1118 (by decide) ?_
      refine lv_icmp_ne (tgt := 1138) hx hb dL_acts_1120 (by decide) (fun c7 => ?_) (fun c7 => ?_)
      · skip
        refine lv_aload_n hx hb dL_acts_1138 rfl (lv_at hl 14 rfl) ?_
        refine lv_iconst (v := 5) hx hb dL_acts_1139 (by decide) ?_
        refine r_count (rest := []) X hI hO.1.1 hl.1 rfl ⟨rfl, rfl, by decide, by decide⟩ (Nat.le_of_ble_eq_true rfl) ⟨Nat.zero_le _, Nat.zero_le _⟩ dL_acts_1140 (fun H locs hI => ?_)
        refine g_te (y := (M1 7 1 3)) ((q_cnt_of (by decide) (by decide)).trans (u_c5 (z_Rel.row hO.1.1).choose_spec)) ?_
        refine lv_iload hx hb dL_acts_1143 (lv_at hl 1 rfl) ?_
        refine lv_iload hx hb dL_acts_1145 (lv_at hl 0 rfl) ?_
        refine lv_iadd hx hb dL_acts_1147 ?_
        refine lv_icmp_ne (tgt := 1168) hx hb dL_acts_1148 (by decide) (fun c8 => ?_) (fun c8 => ?_)
        · exact absurd (u_passG hr hd c5 c7 hO).1 c8
        · skip
          refine lv_aload_n hx hb dL_acts_1151 rfl (lv_at hl 14 rfl) ?_
          refine lv_iconst (v := 3) hx hb dL_acts_1152 (by decide) ?_
          refine r_count (rest := []) X hI hO.1.1 hl.1 rfl ⟨rfl, rfl, by decide, by decide⟩ (Nat.le_of_ble_eq_true rfl) ⟨Nat.zero_le _, Nat.zero_le _⟩ dL_acts_1153 (fun H locs hI => ?_)
          refine g_te (y := (M1 7 1 1)) ((q_cnt_of (by decide) (by decide)).trans (u_c3 (z_Rel.row hO.1.1).choose_spec)) ?_
          refine lv_iload hx hb dL_acts_1156 (lv_at hl 2 rfl) ?_
          refine lv_iload hx hb dL_acts_1158 (lv_at hl 3 rfl) ?_
          refine lv_iadd hx hb dL_acts_1160 ?_
          refine lv_icmp_ne (tgt := 1168) hx hb dL_acts_1161 (by decide) (fun c9 => ?_) (fun c9 => ?_)
          · exact absurd (u_passG hr hd c5 c7 hO).2 c9
          · skip
            refine lv_iconst (v := 1) hx hb dL_acts_1164 (by decide) ?_
            refine lv_goto (tgt := 1169) hx hb dL_acts_1165 (by decide) ?_
            exact K _ _ _ _ _ _ dL_acts_1169 hO.1 hO.2.1 hI
      · skip
        refine lv_iload hx hb dL_acts_1123 (lv_at hl 0 rfl) ?_
        refine lv_ldc (v := (-2000000001)) hx hb hown (hts _ qc_L_44) dL_acts_1125 ?_
        refine lv_icmp_ne (tgt := 1134) hx hb dL_acts_1127 (by decide) (fun c10 => ?_) (fun c10 => ?_)
        · exact absurd ((E_pass hd).1 (Or.inr c7)) c10
        · skip
          refine lv_iconst (v := 1) hx hb dL_acts_1130 (by decide) ?_
          refine lv_goto (tgt := 1169) hx hb dL_acts_1131 (by decide) ?_
          exact K _ _ _ _ _ _ dL_acts_1169 hO.1 hO.2.1 hI
  · skip
    refine lv_iload_n hx hb dL_acts_1067 rfl (lv_at hl 8 rfl) ?_
    refine lv_iconst (v := 3) hx hb dL_acts_1068 (by decide) ?_
    refine lv_ishr hx hb dL_acts_1069 ?_
    refine lv_topi (fun sh11 _ => ?_)
    refine lv_bipush (v := 101) hx hb dL_acts_1070 (by decide) ?_
    refine r_low (rest := []) X hI (by decide) hl.1 rfl ⟨rfl, rfl, by decide, by decide⟩ (Nat.le_of_ble_eq_true rfl) ⟨Nat.zero_le _, Nat.zero_le _⟩ dL_acts_1072 (fun H locs hI w12 w12a w12b => ?_)
    have w12b : w12.toInt < 101 := w12b
    refine lv_goto (tgt := 1087) hx hb dL_acts_1075 (by decide) ?_
    have hd : 0 ≤ w12.toInt ∧ w12.toInt ≤ 100 := by omega
    refine lv_topi (fun d5 hd5 => ?_)
    rw [← hd5] at hd
    refine lv_istore (lv' := [(11, .int d5), (10, .int own), (9, .int loan), (8, .int amt), (7, .int num), (6, .int th), (5, .int k5), (4, .int (nI n)), (3, .int h3), (2, .int y1), (1, .int x1), (0, .ref (ad 6 0))]) hx hb dL_acts_1087 hl (by decide) rfl (fun ls hl => ?_)
    refine lv_aload_n hx hb dL_acts_1089 rfl (lv_at hl 11 rfl) ?_
    refine lv_iconst (v := 3) hx hb dL_acts_1090 (by decide) ?_
    refine r_count (rest := []) X hI hz hl.1 rfl ⟨rfl, rfl, by decide, by decide⟩ (Nat.le_of_ble_eq_true rfl) ⟨Nat.zero_le _, Nat.zero_le _⟩ dL_acts_1091 (fun H locs hI => ?_)
    refine g_te (y := (M 7 1 1)) ((q_cnt_of (by decide) (by decide)).trans (u_c3 hr)) ?_
    refine lv_istore (lv' := [(12, .int (M 7 1 1)), (11, .int d5), (10, .int own), (9, .int loan), (8, .int amt), (7, .int num), (6, .int th), (5, .int k5), (4, .int (nI n)), (3, .int h3), (2, .int y1), (1, .int x1), (0, .ref (ad 6 0))]) hx hb dL_acts_1094 hl (by decide) rfl (fun ls hl => ?_)
    refine lv_aload_n hx hb dL_acts_1096 rfl (lv_at hl 12 rfl) ?_
    refine lv_iconst (v := 5) hx hb dL_acts_1097 (by decide) ?_
    refine r_count (rest := []) X hI hz hl.1 rfl ⟨rfl, rfl, by decide, by decide⟩ (Nat.le_of_ble_eq_true rfl) ⟨Nat.zero_le _, Nat.zero_le _⟩ dL_acts_1098 (fun H locs hI => ?_)
    refine g_te (y := (M 7 1 3)) ((q_cnt_of (by decide) (by decide)).trans (u_c5 hr)) ?_
    refine lv_istore (lv' := [(13, .int (M 7 1 3)), (12, .int (M 7 1 1)), (11, .int d5), (10, .int own), (9, .int loan), (8, .int amt), (7, .int num), (6, .int th), (5, .int k5), (4, .int (nI n)), (3, .int h3), (2, .int y1), (1, .int x1), (0, .ref (ad 6 0))]) hx hb dL_acts_1101 hl (by decide) rfl (fun ls hl => ?_)
    refine lv_aload_n hx hb dL_acts_1103 rfl (lv_at hl 13 rfl) ?_
    refine lv_iload hx hb dL_acts_1104 (lv_at hl 2 rfl) ?_
    refine r_pass (rest := []) X hI hzi h0 h1 hr hl.1 rfl ⟨rfl, rfl, by decide, by decide⟩ (Nat.le_of_ble_eq_true rfl) ⟨Nat.zero_le _, Nat.zero_le _⟩ dL_acts_1106 (fun P1 M1 hO H locs hI => ?_)
    refine lv_istore (lv' := [(14, .int ((m_lets (m_begins (M 7)) d5 n).1)), (13, .int (M 7 1 3)), (12, .int (M 7 1 1)), (11, .int d5), (10, .int own), (9, .int loan), (8, .int amt), (7, .int num), (6, .int th), (5, .int k5), (4, .int (nI n)), (3, .int h3), (2, .int y1), (1, .int x1), (0, .ref (ad 6 0))]) hx hb dL_acts_1109 hl (by decide) rfl (fun ls hl => ?_)
    refine lv_iload hx hb dL_acts_1111 (lv_at hl 3 rfl) ?_
    refine lv_if_eq (tgt := 1123) hx hb dL_acts_1113 (by decide) (fun c13 => ?_) (fun c13 => ?_)
    · skip
      refine lv_iload hx hb dL_acts_1123 (lv_at hl 0 rfl) ?_
      refine lv_ldc (v := (-2000000001)) hx hb hown (hts _ qc_L_44) dL_acts_1125 ?_
      refine lv_icmp_ne (tgt := 1134) hx hb dL_acts_1127 (by decide) (fun c14 => ?_) (fun c14 => ?_)
      · exact absurd ((E_pass hd).1 (Or.inl c13)) c14
      · skip
        refine lv_iconst (v := 1) hx hb dL_acts_1130 (by decide) ?_
        refine lv_goto (tgt := 1169) hx hb dL_acts_1131 (by decide) ?_
        exact K _ _ _ _ _ _ dL_acts_1169 hO.1 hO.2.1 hI
    · skip
      refine lv_iload hx hb dL_acts_1116 (lv_at hl 3 rfl) ?_
      refine lv_bipush (v := 100) hx hb dL_acts_1118 (by decide) ?_
      refine lv_icmp_ne (tgt := 1138) hx hb dL_acts_1120 (by decide) (fun c15 => ?_) (fun c15 => ?_)
      · skip
        refine lv_aload_n hx hb dL_acts_1138 rfl (lv_at hl 14 rfl) ?_
        refine lv_iconst (v := 5) hx hb dL_acts_1139 (by decide) ?_
        refine r_count (rest := []) X hI hO.1.1 hl.1 rfl ⟨rfl, rfl, by decide, by decide⟩ (Nat.le_of_ble_eq_true rfl) ⟨Nat.zero_le _, Nat.zero_le _⟩ dL_acts_1140 (fun H locs hI => ?_)
        refine g_te (y := (M1 7 1 3)) ((q_cnt_of (by decide) (by decide)).trans (u_c5 (z_Rel.row hO.1.1).choose_spec)) ?_
        refine lv_iload hx hb dL_acts_1143 (lv_at hl 1 rfl) ?_
        refine lv_iload hx hb dL_acts_1145 (lv_at hl 0 rfl) ?_
        refine lv_iadd hx hb dL_acts_1147 ?_
        refine lv_icmp_ne (tgt := 1168) hx hb dL_acts_1148 (by decide) (fun c16 => ?_) (fun c16 => ?_)
        · exact absurd (u_passG hr hd c13 c15 hO).1 c16
        · skip
          refine lv_aload_n hx hb dL_acts_1151 rfl (lv_at hl 14 rfl) ?_
          refine lv_iconst (v := 3) hx hb dL_acts_1152 (by decide) ?_
          refine r_count (rest := []) X hI hO.1.1 hl.1 rfl ⟨rfl, rfl, by decide, by decide⟩ (Nat.le_of_ble_eq_true rfl) ⟨Nat.zero_le _, Nat.zero_le _⟩ dL_acts_1153 (fun H locs hI => ?_)
          refine g_te (y := (M1 7 1 1)) ((q_cnt_of (by decide) (by decide)).trans (u_c3 (z_Rel.row hO.1.1).choose_spec)) ?_
          refine lv_iload hx hb dL_acts_1156 (lv_at hl 2 rfl) ?_
          refine lv_iload hx hb dL_acts_1158 (lv_at hl 3 rfl) ?_
          refine lv_iadd hx hb dL_acts_1160 ?_
          refine lv_icmp_ne (tgt := 1168) hx hb dL_acts_1161 (by decide) (fun c17 => ?_) (fun c17 => ?_)
          · exact absurd (u_passG hr hd c13 c15 hO).2 c17
          · skip
            refine lv_iconst (v := 1) hx hb dL_acts_1164 (by decide) ?_
            refine lv_goto (tgt := 1169) hx hb dL_acts_1165 (by decide) ?_
            exact K _ _ _ _ _ _ dL_acts_1169 hO.1 hO.2.1 hI
      · skip
        refine lv_iload hx hb dL_acts_1123 (lv_at hl 0 rfl) ?_
        refine lv_ldc (v := (-2000000001)) hx hb hown (hts _ qc_L_44) dL_acts_1125 ?_
        refine lv_icmp_ne (tgt := 1134) hx hb dL_acts_1127 (by decide) (fun c18 => ?_) (fun c18 => ?_)
        · exact absurd ((E_pass hd).1 (Or.inr c15)) c18
        · skip
          refine lv_iconst (v := 1) hx hb dL_acts_1130 (by decide) ?_
          refine lv_goto (tgt := 1169) hx hb dL_acts_1131 (by decide) ?_
          exact K _ _ _ _ _ _ dL_acts_1169 hO.1 hO.2.1 hI
set_option maxHeartbeats 4000000 in
set_option maxRecDepth 100000 in
theorem a_lose (X : L_x p s m args c' cL_acts 17 D tb ad (g_A ad)) (hzi : z_In P M c) (h0 : 0 ≤ c) (h1 : c ≤ 511) (hr : z_R (M (P 0)) (M 7 1) n (61 * c) (-(990000 * c)) (3960000 * c))
    (K : ∀ (pc : Nat) (ls : Array Slot) (P1 : g_P) (M1 : g_M) (H : Heap) (locs : List Loc), decode cL_acts pc = .ok (.ireturn, 1) → z_In P1 M1 (c + 1) → z_Step P M P1 M1 → g_I D tb ad (g_A ad) s H locs P1 M1 → W p l e rm_L_acts s m args below meth c' H locs 0 0 Q (F0 m pc ls [.int 1]))
    (hI : g_I D tb ad (g_A ad) s H locs P M) (hl : lv_has ls 17 [(10, .int own), (9, .int loan), (8, .int amt), (7, .int num), (6, .int th), (5, .int k5), (4, .int (nI n)), (3, .int h3), (2, .int y1), (1, .int x1), (0, .ref (ad 6 0))]) : W p l e rm_L_acts s m args below meth c' H locs 0 0 Q (F0 m 1176 ls []) := by
  obtain ⟨hx, hb, hml, hown, hts, hC, hj⟩ := id X
  have hz := hzi.1
  have h16 : n ≤ 16 := hr.choose_spec.1.n16
  have hmd : m_place (M 7) (M 7 1 2) n = none := u_made hr.choose_spec.2.2.1
  refine lv_iload_n hx hb dL_acts_1176 rfl (lv_at hl 8 rfl) ?_
  refine lv_bipush (v := 6) hx hb dL_acts_1177 (by decide) ?_
  refine r_low (rest := []) X hI (by decide) hl.1 rfl ⟨rfl, rfl, by decide, by decide⟩ (Nat.le_of_ble_eq_true rfl) ⟨Nat.zero_le _, Nat.zero_le _⟩ dL_acts_1179 (fun H locs hI w1 w1a w1b => ?_)
  have w1b : w1.toInt < 6 := w1b
  refine lv_istore (lv' := [(11, .int w1), (10, .int own), (9, .int loan), (8, .int amt), (7, .int num), (6, .int th), (5, .int k5), (4, .int (nI n)), (3, .int h3), (2, .int y1), (1, .int x1), (0, .ref (ad 6 0))]) hx hb dL_acts_1182 hl (by decide) rfl (fun ls hl => ?_)
  refine lv_iload_n hx hb dL_acts_1184 rfl (lv_at hl 9 rfl) ?_
  refine lv_iconst (v := 3) hx hb dL_acts_1185 (by decide) ?_
  refine lv_ishr hx hb dL_acts_1186 ?_
  refine lv_topi (fun sh2 _ => ?_)
  refine lv_bipush (v := 30) hx hb dL_acts_1187 (by decide) ?_
  refine r_low (rest := []) X hI (by decide) hl.1 rfl ⟨rfl, rfl, by decide, by decide⟩ (Nat.le_of_ble_eq_true rfl) ⟨Nat.zero_le _, Nat.zero_le _⟩ dL_acts_1189 (fun H locs hI w3 w3a w3b => ?_)
  have w3b : w3.toInt < 30 := w3b
  refine lv_istore (lv' := [(12, .int w3), (11, .int w1), (10, .int own), (9, .int loan), (8, .int amt), (7, .int num), (6, .int th), (5, .int k5), (4, .int (nI n)), (3, .int h3), (2, .int y1), (1, .int x1), (0, .ref (ad 6 0))]) hx hb dL_acts_1192 hl (by decide) rfl (fun ls hl => ?_)
  refine lv_iload hx hb dL_acts_1194 (lv_at hl 1 rfl) ?_
  refine lv_iconst (v := 5) hx hb dL_acts_1196 (by decide) ?_
  refine lv_icmp_ne (tgt := 1204) hx hb dL_acts_1197 (by decide) (fun c4 => ?_) (fun c4 => ?_)
  · skip
    refine lv_aload_n hx hb dL_acts_1204 rfl (lv_at hl 12 rfl) ?_
    refine lv_iload hx hb dL_acts_1205 (lv_at hl 1 rfl) ?_
    refine lv_iconst (v := 1) hx hb dL_acts_1207 (by decide) ?_
    refine r_binOf (rest := []) X hI hz hl.1 rfl ⟨rfl, rfl, by decide, by decide⟩ (Nat.le_of_ble_eq_true rfl) ⟨Nat.zero_le _, Nat.zero_le _⟩ dL_acts_1208 (fun H locs hI => ?_)
    refine lv_istore (lv' := [(13, .int (q_tellBin (M (P 0)) w1 1)), (12, .int w3), (11, .int w1), (10, .int own), (9, .int loan), (8, .int amt), (7, .int num), (6, .int th), (5, .int k5), (4, .int (nI n)), (3, .int h3), (2, .int y1), (1, .int x1), (0, .ref (ad 6 0))]) hx hb dL_acts_1211 hl (by decide) rfl (fun ls hl => ?_)
    refine lv_iload hx hb dL_acts_1213 (lv_at hl 2 rfl) ?_
    refine lv_iconst (v := 5) hx hb dL_acts_1215 (by decide) ?_
    refine lv_icmp_ne (tgt := 1223) hx hb dL_acts_1216 (by decide) (fun c5 => ?_) (fun c5 => ?_)
    · skip
      refine lv_aload_n hx hb dL_acts_1223 rfl (lv_at hl 13 rfl) ?_
      refine lv_iload hx hb dL_acts_1224 (lv_at hl 2 rfl) ?_
      refine lv_iconst (v := 2) hx hb dL_acts_1226 (by decide) ?_
      refine r_binOf (rest := []) X hI hz hl.1 rfl ⟨rfl, rfl, by decide, by decide⟩ (Nat.le_of_ble_eq_true rfl) ⟨Nat.zero_le _, Nat.zero_le _⟩ dL_acts_1227 (fun H locs hI => ?_)
      refine lv_istore (lv' := [(14, .int (q_tellBin (M (P 0)) w1 2)), (13, .int (q_tellBin (M (P 0)) w1 1)), (12, .int w3), (11, .int w1), (10, .int own), (9, .int loan), (8, .int amt), (7, .int num), (6, .int th), (5, .int k5), (4, .int (nI n)), (3, .int h3), (2, .int y1), (1, .int x1), (0, .ref (ad 6 0))]) hx hb dL_acts_1230 hl (by decide) rfl (fun ls hl => ?_)
      refine lv_aload_n hx hb dL_acts_1232 rfl (lv_at hl 14 rfl) ?_
      refine lv_iload hx hb dL_acts_1233 (lv_at hl 3 rfl) ?_
      refine lv_iload hx hb dL_acts_1235 (lv_at hl 2 rfl) ?_
      refine r_lose (rest := []) X hI hzi h0 h1 hr hl.1 rfl ⟨rfl, rfl, by decide, by decide⟩ (Nat.le_of_ble_eq_true rfl) ⟨Nat.zero_le _, Nat.zero_le _⟩ dL_acts_1237 (fun P1 M1 hO H locs hI => ?_)
      refine g_te (y := (if w1 = 5 then -2000000001 else if w3 = 0 then -2000000001 else if w3 ≤ q_tellBin (M (P 0)) w1 2 then q_tellBin (M (P 0)) w1 1 - w3 else -2000000002)) (E_lose hr ⟨w1a, w1b⟩ w3a) ?_
      refine lv_iload hx hb dL_acts_1240 (lv_at hl 3 rfl) ?_
      refine lv_iconst (v := 5) hx hb dL_acts_1242 (by decide) ?_
      refine lv_icmp_eq (tgt := 1251) hx hb dL_acts_1243 (by decide) (fun c6 => ?_) (fun c6 => ?_)
      · exact absurd c6 c5
      · skip
        refine lv_iload hx hb dL_acts_1246 (lv_at hl 2 rfl) ?_
        refine lv_if_ne (tgt := 1256) hx hb dL_acts_1248 (by decide) (fun c7 => ?_) (fun c7 => ?_)
        · skip
          refine lv_iload hx hb dL_acts_1256 (lv_at hl 2 rfl) ?_
          refine lv_iload hx hb dL_acts_1258 (lv_at hl 0 rfl) ?_
          refine lv_icmp_le (tgt := 1268) hx hb dL_acts_1260 (by decide) (fun c8 => ?_) (fun c8 => ?_)
          · skip
            refine lv_iload hx hb dL_acts_1268 (lv_at hl 1 rfl) ?_
            refine lv_iload hx hb dL_acts_1270 (lv_at hl 2 rfl) ?_
            refine lv_isub hx hb dL_acts_1272 ?_
            refine lv_icmp_ne (tgt := 1280) hx hb dL_acts_1273 (by decide) (fun c9 => ?_) (fun c9 => ?_)
            · exact absurd (by simp only [if_neg c4, if_neg c5, if_neg c6, if_neg c7, if_pos c8]) c9
            · skip
              refine lv_iconst (v := 1) hx hb dL_acts_1276 (by decide) ?_
              refine lv_goto (tgt := 1281) hx hb dL_acts_1277 (by decide) ?_
              exact K _ _ _ _ _ _ dL_acts_1281 hO.1 hO.2.1 hI
          · skip
            refine lv_ldc (v := (-2000000002)) hx hb hown (hts _ qc_L_65) dL_acts_1263 ?_
            refine lv_goto (tgt := 1273) hx hb dL_acts_1265 (by decide) ?_
            refine lv_icmp_ne (tgt := 1280) hx hb dL_acts_1273 (by decide) (fun c10 => ?_) (fun c10 => ?_)
            · exact absurd (by simp only [if_neg c4, if_neg c5, if_neg c6, if_neg c7, if_neg c8]) c10
            · skip
              refine lv_iconst (v := 1) hx hb dL_acts_1276 (by decide) ?_
              refine lv_goto (tgt := 1281) hx hb dL_acts_1277 (by decide) ?_
              exact K _ _ _ _ _ _ dL_acts_1281 hO.1 hO.2.1 hI
        · skip
          refine lv_ldc (v := (-2000000001)) hx hb hown (hts _ qc_L_44) dL_acts_1251 ?_
          refine lv_goto (tgt := 1273) hx hb dL_acts_1253 (by decide) ?_
          refine lv_icmp_ne (tgt := 1280) hx hb dL_acts_1273 (by decide) (fun c11 => ?_) (fun c11 => ?_)
          · exact absurd (by simp only [if_neg c4, if_neg c5, if_neg c6, if_pos c7]) c11
          · skip
            refine lv_iconst (v := 1) hx hb dL_acts_1276 (by decide) ?_
            refine lv_goto (tgt := 1281) hx hb dL_acts_1277 (by decide) ?_
            exact K _ _ _ _ _ _ dL_acts_1281 hO.1 hO.2.1 hI
    · exact absurd c5 c4
  · skip
    refine lv_iconst (v := 0) hx hb dL_acts_1200 (by decide) ?_
    refine lv_goto (tgt := 1211) hx hb dL_acts_1201 (by decide) ?_
    refine lv_istore (lv' := [(13, .int 0), (12, .int w3), (11, .int w1), (10, .int own), (9, .int loan), (8, .int amt), (7, .int num), (6, .int th), (5, .int k5), (4, .int (nI n)), (3, .int h3), (2, .int y1), (1, .int x1), (0, .ref (ad 6 0))]) hx hb dL_acts_1211 hl (by decide) rfl (fun ls hl => ?_)
    refine lv_iload hx hb dL_acts_1213 (lv_at hl 2 rfl) ?_
    refine lv_iconst (v := 5) hx hb dL_acts_1215 (by decide) ?_
    refine lv_icmp_ne (tgt := 1223) hx hb dL_acts_1216 (by decide) (fun c12 => ?_) (fun c12 => ?_)
    · exact absurd c4 c12
    · skip
      refine lv_iconst (v := 0) hx hb dL_acts_1219 (by decide) ?_
      refine lv_goto (tgt := 1230) hx hb dL_acts_1220 (by decide) ?_
      refine lv_istore (lv' := [(14, .int 0), (13, .int 0), (12, .int w3), (11, .int w1), (10, .int own), (9, .int loan), (8, .int amt), (7, .int num), (6, .int th), (5, .int k5), (4, .int (nI n)), (3, .int h3), (2, .int y1), (1, .int x1), (0, .ref (ad 6 0))]) hx hb dL_acts_1230 hl (by decide) rfl (fun ls hl => ?_)
      refine lv_aload_n hx hb dL_acts_1232 rfl (lv_at hl 14 rfl) ?_
      refine lv_iload hx hb dL_acts_1233 (lv_at hl 3 rfl) ?_
      refine lv_iload hx hb dL_acts_1235 (lv_at hl 2 rfl) ?_
      refine r_lose (rest := []) X hI hzi h0 h1 hr hl.1 rfl ⟨rfl, rfl, by decide, by decide⟩ (Nat.le_of_ble_eq_true rfl) ⟨Nat.zero_le _, Nat.zero_le _⟩ dL_acts_1237 (fun P1 M1 hO H locs hI => ?_)
      refine g_te (y := (if w1 = 5 then -2000000001 else if w3 = 0 then -2000000001 else if w3 ≤ q_tellBin (M (P 0)) w1 2 then q_tellBin (M (P 0)) w1 1 - w3 else -2000000002)) (E_lose hr ⟨w1a, w1b⟩ w3a) ?_
      refine lv_iload hx hb dL_acts_1240 (lv_at hl 3 rfl) ?_
      refine lv_iconst (v := 5) hx hb dL_acts_1242 (by decide) ?_
      refine lv_icmp_eq (tgt := 1251) hx hb dL_acts_1243 (by decide) (fun c13 => ?_) (fun c13 => ?_)
      · skip
        refine lv_ldc (v := (-2000000001)) hx hb hown (hts _ qc_L_44) dL_acts_1251 ?_
        refine lv_goto (tgt := 1273) hx hb dL_acts_1253 (by decide) ?_
        refine lv_icmp_ne (tgt := 1280) hx hb dL_acts_1273 (by decide) (fun c14 => ?_) (fun c14 => ?_)
        · exact absurd (by simp only [if_pos c4, if_pos c12, if_pos c13]) c14
        · skip
          refine lv_iconst (v := 1) hx hb dL_acts_1276 (by decide) ?_
          refine lv_goto (tgt := 1281) hx hb dL_acts_1277 (by decide) ?_
          exact K _ _ _ _ _ _ dL_acts_1281 hO.1 hO.2.1 hI
      · exact absurd c12 c13
set_option maxHeartbeats 4000000 in
set_option maxRecDepth 100000 in
theorem a_regrade (X : L_x p s m args c' cL_acts 17 D tb ad (g_A ad)) (hzi : z_In P M c) (h0 : 0 ≤ c) (h1 : c ≤ 511) (hr : z_R (M (P 0)) (M 7 1) n (61 * c) (-(990000 * c)) (3960000 * c))
    (K : ∀ (pc : Nat) (ls : Array Slot) (P1 : g_P) (M1 : g_M) (H : Heap) (locs : List Loc), decode cL_acts pc = .ok (.ireturn, 1) → z_In P1 M1 (c + 1) → z_Step P M P1 M1 → g_I D tb ad (g_A ad) s H locs P1 M1 → W p l e rm_L_acts s m args below meth c' H locs 0 0 Q (F0 m pc ls [.int 1]))
    (hI : g_I D tb ad (g_A ad) s H locs P M) (hl : lv_has ls 17 [(10, .int own), (9, .int loan), (8, .int amt), (7, .int num), (6, .int th), (5, .int k5), (4, .int (nI n)), (3, .int h3), (2, .int y1), (1, .int x1), (0, .ref (ad 6 0))]) : W p l e rm_L_acts s m args below meth c' H locs 0 0 Q (F0 m 1288 ls []) := by
  obtain ⟨hx, hb, hml, hown, hts, hC, hj⟩ := id X
  have hz := hzi.1
  have h16 : n ≤ 16 := hr.choose_spec.1.n16
  have hmd : m_place (M 7) (M 7 1 2) n = none := u_made hr.choose_spec.2.2.1
  refine lv_iload_n hx hb dL_acts_1288 rfl (lv_at hl 8 rfl) ?_
  refine lv_bipush (v := 6) hx hb dL_acts_1289 (by decide) ?_
  refine r_low (rest := []) X hI (by decide) hl.1 rfl ⟨rfl, rfl, by decide, by decide⟩ (Nat.le_of_ble_eq_true rfl) ⟨Nat.zero_le _, Nat.zero_le _⟩ dL_acts_1291 (fun H locs hI w1 w1a w1b => ?_)
  have w1b : w1.toInt < 6 := w1b
  refine lv_istore (lv' := [(11, .int w1), (10, .int own), (9, .int loan), (8, .int amt), (7, .int num), (6, .int th), (5, .int k5), (4, .int (nI n)), (3, .int h3), (2, .int y1), (1, .int x1), (0, .ref (ad 6 0))]) hx hb dL_acts_1294 hl (by decide) rfl (fun ls hl => ?_)
  refine lv_iload_n hx hb dL_acts_1296 rfl (lv_at hl 9 rfl) ?_
  refine lv_iconst (v := 3) hx hb dL_acts_1297 (by decide) ?_
  refine lv_ishr hx hb dL_acts_1298 ?_
  refine lv_topi (fun sh2 _ => ?_)
  refine lv_iconst (v := 4) hx hb dL_acts_1299 (by decide) ?_
  refine r_low (rest := []) X hI (by decide) hl.1 rfl ⟨rfl, rfl, by decide, by decide⟩ (Nat.le_of_ble_eq_true rfl) ⟨Nat.zero_le _, Nat.zero_le _⟩ dL_acts_1300 (fun H locs hI w3 w3a w3b => ?_)
  have w3b : w3.toInt < 4 := w3b
  refine lv_istore (lv' := [(12, .int w3), (11, .int w1), (10, .int own), (9, .int loan), (8, .int amt), (7, .int num), (6, .int th), (5, .int k5), (4, .int (nI n)), (3, .int h3), (2, .int y1), (1, .int x1), (0, .ref (ad 6 0))]) hx hb dL_acts_1303 hl (by decide) rfl (fun ls hl => ?_)
  refine lv_iload hx hb dL_acts_1305 (lv_at hl 1 rfl) ?_
  refine lv_iconst (v := 5) hx hb dL_acts_1307 (by decide) ?_
  refine lv_icmp_ne (tgt := 1315) hx hb dL_acts_1308 (by decide) (fun c4 => ?_) (fun c4 => ?_)
  · skip
    refine lv_aload_n hx hb dL_acts_1315 rfl (lv_at hl 12 rfl) ?_
    refine lv_iload hx hb dL_acts_1316 (lv_at hl 1 rfl) ?_
    refine lv_iconst (v := 0) hx hb dL_acts_1318 (by decide) ?_
    refine r_binOf (rest := []) X hI hz hl.1 rfl ⟨rfl, rfl, by decide, by decide⟩ (Nat.le_of_ble_eq_true rfl) ⟨Nat.zero_le _, Nat.zero_le _⟩ dL_acts_1319 (fun H locs hI => ?_)
    refine lv_istore (lv' := [(13, .int (q_tellBin (M (P 0)) w1 0)), (12, .int w3), (11, .int w1), (10, .int own), (9, .int loan), (8, .int amt), (7, .int num), (6, .int th), (5, .int k5), (4, .int (nI n)), (3, .int h3), (2, .int y1), (1, .int x1), (0, .ref (ad 6 0))]) hx hb dL_acts_1322 hl (by decide) rfl (fun ls hl => ?_)
    refine lv_aload_n hx hb dL_acts_1324 rfl (lv_at hl 13 rfl) ?_
    refine lv_iload hx hb dL_acts_1325 (lv_at hl 2 rfl) ?_
    refine lv_iload hx hb dL_acts_1327 (lv_at hl 1 rfl) ?_
    refine r_regrade (rest := []) X hI hzi h0 h1 hr hl.1 rfl ⟨rfl, rfl, by decide, by decide⟩ (Nat.le_of_ble_eq_true rfl) ⟨Nat.zero_le _, Nat.zero_le _⟩ dL_acts_1329 (fun P1 M1 hO H locs hI => ?_)
    refine lv_istore (lv' := [(14, .int ((m_regrades (m_begins (M 7)) w1 w3 n).1)), (13, .int (q_tellBin (M (P 0)) w1 0)), (12, .int w3), (11, .int w1), (10, .int own), (9, .int loan), (8, .int amt), (7, .int num), (6, .int th), (5, .int k5), (4, .int (nI n)), (3, .int h3), (2, .int y1), (1, .int x1), (0, .ref (ad 6 0))]) hx hb dL_acts_1332 hl (by decide) rfl (fun ls hl => ?_)
    refine lv_iload hx hb dL_acts_1334 (lv_at hl 3 rfl) ?_
    refine lv_iconst (v := 5) hx hb dL_acts_1336 (by decide) ?_
    refine lv_icmp_eq (tgt := 1346) hx hb dL_acts_1337 (by decide) (fun c5 => ?_) (fun c5 => ?_)
    · exact absurd c5 c4
    · skip
      refine lv_iload hx hb dL_acts_1340 (lv_at hl 2 rfl) ?_
      refine lv_iconst (v := 3) hx hb dL_acts_1342 (by decide) ?_
      refine lv_icmp_ne (tgt := 1361) hx hb dL_acts_1343 (by decide) (fun c6 => ?_) (fun c6 => ?_)
      · skip
        refine lv_iload hx hb dL_acts_1361 (lv_at hl 0 rfl) ?_
        refine lv_ldc (v := (-2000000002)) hx hb hown (hts _ qc_L_65) dL_acts_1363 ?_
        refine lv_icmp_ne (tgt := 1383) hx hb dL_acts_1365 (by decide) (fun c7 => ?_) (fun c7 => ?_)
        · skip
          refine lv_iload hx hb dL_acts_1383 (lv_at hl 0 rfl) ?_
          refine lv_iload hx hb dL_acts_1385 (lv_at hl 1 rfl) ?_
          refine lv_icmp_ne (tgt := 1406) hx hb dL_acts_1387 (by decide) (fun c8 => ?_) (fun c8 => ?_)
          · exact absurd (u_regG hr ⟨w1a, w1b⟩ ⟨w3a, w3b⟩ c4 c6 c7 hO).1 c8
          · skip
            refine lv_aload_n hx hb dL_acts_1390 rfl (lv_at hl 14 rfl) ?_
            refine lv_iload hx hb dL_acts_1391 (lv_at hl 3 rfl) ?_
            refine lv_iconst (v := 0) hx hb dL_acts_1393 (by decide) ?_
            refine r_binOf (rest := []) X hI hO.1.1 hl.1 rfl ⟨rfl, rfl, by decide, by decide⟩ (Nat.le_of_ble_eq_true rfl) ⟨Nat.zero_le _, Nat.zero_le _⟩ dL_acts_1394 (fun H locs hI => ?_)
            refine lv_iload hx hb dL_acts_1397 (lv_at hl 2 rfl) ?_
            refine lv_icmp_ne (tgt := 1406) hx hb dL_acts_1399 (by decide) (fun c9 => ?_) (fun c9 => ?_)
            · exact absurd (u_regG hr ⟨w1a, w1b⟩ ⟨w3a, w3b⟩ c4 c6 c7 hO).2 c9
            · skip
              refine lv_iconst (v := 1) hx hb dL_acts_1402 (by decide) ?_
              refine lv_goto (tgt := 1407) hx hb dL_acts_1403 (by decide) ?_
              exact K _ _ _ _ _ _ dL_acts_1407 hO.1 hO.2.1 hI
        · skip
          refine lv_iload hx hb dL_acts_1368 (lv_at hl 2 rfl) ?_
          refine lv_iload hx hb dL_acts_1370 (lv_at hl 1 rfl) ?_
          refine lv_icmp_eq (tgt := 1379) hx hb dL_acts_1372 (by decide) (fun c10 => ?_) (fun c10 => ?_)
          · exact absurd c10 (u_regS hr ⟨w1a, w1b⟩ ⟨w3a, w3b⟩ c4 c6 c7)
          · skip
            refine lv_iconst (v := 1) hx hb dL_acts_1375 (by decide) ?_
            refine lv_goto (tgt := 1407) hx hb dL_acts_1376 (by decide) ?_
            exact K _ _ _ _ _ _ dL_acts_1407 hO.1 hO.2.1 hI
      · skip
        refine lv_iload hx hb dL_acts_1346 (lv_at hl 0 rfl) ?_
        refine lv_ldc (v := (-2000000001)) hx hb hown (hts _ qc_L_44) dL_acts_1348 ?_
        refine lv_icmp_ne (tgt := 1357) hx hb dL_acts_1350 (by decide) (fun c11 => ?_) (fun c11 => ?_)
        · exact absurd ((E_regrade hr ⟨w1a, w1b⟩ ⟨w3a, w3b⟩).1 (Or.inr c6)) c11
        · skip
          refine lv_iconst (v := 1) hx hb dL_acts_1353 (by decide) ?_
          refine lv_goto (tgt := 1407) hx hb dL_acts_1354 (by decide) ?_
          exact K _ _ _ _ _ _ dL_acts_1407 hO.1 hO.2.1 hI
  · skip
    refine lv_iconst (v := 0) hx hb dL_acts_1311 (by decide) ?_
    refine lv_goto (tgt := 1322) hx hb dL_acts_1312 (by decide) ?_
    refine lv_istore (lv' := [(13, .int 0), (12, .int w3), (11, .int w1), (10, .int own), (9, .int loan), (8, .int amt), (7, .int num), (6, .int th), (5, .int k5), (4, .int (nI n)), (3, .int h3), (2, .int y1), (1, .int x1), (0, .ref (ad 6 0))]) hx hb dL_acts_1322 hl (by decide) rfl (fun ls hl => ?_)
    refine lv_aload_n hx hb dL_acts_1324 rfl (lv_at hl 13 rfl) ?_
    refine lv_iload hx hb dL_acts_1325 (lv_at hl 2 rfl) ?_
    refine lv_iload hx hb dL_acts_1327 (lv_at hl 1 rfl) ?_
    refine r_regrade (rest := []) X hI hzi h0 h1 hr hl.1 rfl ⟨rfl, rfl, by decide, by decide⟩ (Nat.le_of_ble_eq_true rfl) ⟨Nat.zero_le _, Nat.zero_le _⟩ dL_acts_1329 (fun P1 M1 hO H locs hI => ?_)
    refine lv_istore (lv' := [(14, .int ((m_regrades (m_begins (M 7)) w1 w3 n).1)), (13, .int 0), (12, .int w3), (11, .int w1), (10, .int own), (9, .int loan), (8, .int amt), (7, .int num), (6, .int th), (5, .int k5), (4, .int (nI n)), (3, .int h3), (2, .int y1), (1, .int x1), (0, .ref (ad 6 0))]) hx hb dL_acts_1332 hl (by decide) rfl (fun ls hl => ?_)
    refine lv_iload hx hb dL_acts_1334 (lv_at hl 3 rfl) ?_
    refine lv_iconst (v := 5) hx hb dL_acts_1336 (by decide) ?_
    refine lv_icmp_eq (tgt := 1346) hx hb dL_acts_1337 (by decide) (fun c12 => ?_) (fun c12 => ?_)
    · skip
      refine lv_iload hx hb dL_acts_1346 (lv_at hl 0 rfl) ?_
      refine lv_ldc (v := (-2000000001)) hx hb hown (hts _ qc_L_44) dL_acts_1348 ?_
      refine lv_icmp_ne (tgt := 1357) hx hb dL_acts_1350 (by decide) (fun c13 => ?_) (fun c13 => ?_)
      · exact absurd ((E_regrade hr ⟨w1a, w1b⟩ ⟨w3a, w3b⟩).1 (Or.inl c4)) c13
      · skip
        refine lv_iconst (v := 1) hx hb dL_acts_1353 (by decide) ?_
        refine lv_goto (tgt := 1407) hx hb dL_acts_1354 (by decide) ?_
        exact K _ _ _ _ _ _ dL_acts_1407 hO.1 hO.2.1 hI
    · exact absurd c4 c12
set_option maxHeartbeats 4000000 in
set_option maxRecDepth 100000 in
theorem a_set (X : L_x p s m args c' cL_acts 17 D tb ad (g_A ad)) (hzi : z_In P M c) (h0 : 0 ≤ c) (h1 : c ≤ 511) (hr : z_R (M (P 0)) (M 7 1) n (61 * c) (-(990000 * c)) (3960000 * c))
    (K : ∀ (pc : Nat) (ls : Array Slot) (P1 : g_P) (M1 : g_M) (H : Heap) (locs : List Loc), decode cL_acts pc = .ok (.ireturn, 1) → z_In P1 M1 (c + 1) → z_Step P M P1 M1 → g_I D tb ad (g_A ad) s H locs P1 M1 → W p l e rm_L_acts s m args below meth c' H locs 0 0 Q (F0 m pc ls [.int 1]))
    (hI : g_I D tb ad (g_A ad) s H locs P M) (hl : lv_has ls 17 [(10, .int own), (9, .int loan), (8, .int amt), (7, .int num), (6, .int th), (5, .int k5), (4, .int (nI n)), (3, .int h3), (2, .int y1), (1, .int x1), (0, .ref (ad 6 0))]) : W p l e rm_L_acts s m args below meth c' H locs 0 0 Q (F0 m 1414 ls []) := by
  obtain ⟨hx, hb, hml, hown, hts, hC, hj⟩ := id X
  have hz := hzi.1
  have h16 : n ≤ 16 := hr.choose_spec.1.n16
  have hmd : m_place (M 7) (M 7 1 2) n = none := u_made hr.choose_spec.2.2.1
  refine lv_iload_n hx hb dL_acts_1414 rfl (lv_at hl 8 rfl) ?_
  refine lv_iconst (v := 5) hx hb dL_acts_1415 (by decide) ?_
  refine r_low (rest := []) X hI (by decide) hl.1 rfl ⟨rfl, rfl, by decide, by decide⟩ (Nat.le_of_ble_eq_true rfl) ⟨Nat.zero_le _, Nat.zero_le _⟩ dL_acts_1416 (fun H locs hI w1 w1a w1b => ?_)
  have w1b : w1.toInt < 5 := w1b
  obtain ⟨j5, hj5, rfl⟩ := z_lo (N := 5) w1a (by omega)
  rcases (show j5 = 0 ∨ j5 = 1 ∨ j5 = 2 ∨ j5 = 3 ∨ j5 = 4 by omega) with rfl | rfl | rfl | rfl | rfl
  · refine g_te (y := 0) rfl ?_
    refine lv_istore (lv' := [(11, .int 0), (10, .int own), (9, .int loan), (8, .int amt), (7, .int num), (6, .int th), (5, .int k5), (4, .int (nI n)), (3, .int h3), (2, .int y1), (1, .int x1), (0, .ref (ad 6 0))]) hx hb dL_acts_1419 hl (by decide) rfl (fun ls hl => ?_)
    refine lv_iload_n hx hb dL_acts_1421 rfl (lv_at hl 9 rfl) ?_
    refine lv_iconst (v := 3) hx hb dL_acts_1422 (by decide) ?_
    refine lv_ishr hx hb dL_acts_1423 ?_
    refine lv_topi (fun sh2 _ => ?_)
    refine lv_bipush (v := 30) hx hb dL_acts_1424 (by decide) ?_
    refine r_low (rest := []) X hI (by decide) hl.1 rfl ⟨rfl, rfl, by decide, by decide⟩ (Nat.le_of_ble_eq_true rfl) ⟨Nat.zero_le _, Nat.zero_le _⟩ dL_acts_1426 (fun H locs hI w3 w3a w3b => ?_)
    have w3b : w3.toInt < 30 := w3b
    refine lv_istore (lv' := [(12, .int w3), (11, .int 0), (10, .int own), (9, .int loan), (8, .int amt), (7, .int num), (6, .int th), (5, .int k5), (4, .int (nI n)), (3, .int h3), (2, .int y1), (1, .int x1), (0, .ref (ad 6 0))]) hx hb dL_acts_1429 hl (by decide) rfl (fun ls hl => ?_)
    refine lv_iload hx hb dL_acts_1431 (lv_at hl 1 rfl) ?_
    refine lv_iconst (v := 4) hx hb dL_acts_1433 (by decide) ?_
    refine lv_icmp_ne (tgt := 1441) hx hb dL_acts_1434 (by decide) (fun _ => ?_) (fun c4 => absurd c4 (by decide))
    refine lv_aload_n hx hb dL_acts_1441 rfl (lv_at hl 12 rfl) ?_
    refine lv_bipush (v := 20) hx hb dL_acts_1442 (by decide) ?_
    refine lv_iload hx hb dL_acts_1444 (lv_at hl 1 rfl) ?_
    refine lv_iadd hx hb dL_acts_1446 ?_
    refine g_te (y := 20) (by decide) ?_
    refine r_count (rest := []) X hI hz hl.1 rfl ⟨rfl, rfl, by decide, by decide⟩ (Nat.le_of_ble_eq_true rfl) ⟨Nat.zero_le _, Nat.zero_le _⟩ dL_acts_1447 (fun H locs hI => ?_)
    refine g_te (y := (M 7 1 6)) ((q_cnt_of (by decide) (by decide)).trans (u_c20 hr)) ?_
    refine lv_istore (lv' := [(13, .int (M 7 1 6)), (12, .int w3), (11, .int 0), (10, .int own), (9, .int loan), (8, .int amt), (7, .int num), (6, .int th), (5, .int k5), (4, .int (nI n)), (3, .int h3), (2, .int y1), (1, .int x1), (0, .ref (ad 6 0))]) hx hb dL_acts_1450 hl (by decide) rfl (fun ls hl => ?_)
    refine lv_iload hx hb dL_acts_1452 (lv_at hl 2 rfl) ?_
    refine lv_iconst (v := 4) hx hb dL_acts_1454 (by decide) ?_
    refine lv_icmp_eq (tgt := 1495) hx hb dL_acts_1455 (by decide) (fun c5 => absurd c5 (by decide)) (fun _ => ?_)
    refine lv_iload hx hb dL_acts_1458 (lv_at hl 2 rfl) ?_
    refine lv_iconst (v := 2) hx hb dL_acts_1460 (by decide) ?_
    refine lv_icmp_ge (tgt := 1471) hx hb dL_acts_1461 (by decide) (fun c6 => absurd c6 (by decide)) (fun _ => ?_)
    refine lv_iload hx hb dL_acts_1464 (lv_at hl 1 rfl) ?_
    refine lv_bipush (v := 10) hx hb dL_acts_1466 (by decide) ?_
    refine lv_icmp_lt (tgt := 1495) hx hb dL_acts_1468 (by decide) (fun c7 => ?_) (fun c7 => ?_)
    · skip
      refine lv_iconst (v := 1) hx hb dL_acts_1495 (by decide) ?_
      refine lv_goto (tgt := 1500) hx hb dL_acts_1496 (by decide) ?_
      refine lv_istore (lv' := [(14, .int 1), (13, .int (M 7 1 6)), (12, .int w3), (11, .int 0), (10, .int own), (9, .int loan), (8, .int amt), (7, .int num), (6, .int th), (5, .int k5), (4, .int (nI n)), (3, .int h3), (2, .int y1), (1, .int x1), (0, .ref (ad 6 0))]) hx hb dL_acts_1500 hl (by decide) rfl (fun ls hl => ?_)
      refine lv_aload_n hx hb dL_acts_1502 rfl (lv_at hl 14 rfl) ?_
      refine lv_iload hx hb dL_acts_1503 (lv_at hl 3 rfl) ?_
      refine lv_iload hx hb dL_acts_1505 (lv_at hl 2 rfl) ?_
      refine r_set (rest := []) X hI hzi h0 h1 hr hl.1 rfl ⟨rfl, rfl, by decide, by decide⟩ (Nat.le_of_ble_eq_true rfl) ⟨Nat.zero_le _, Nat.zero_le _⟩ dL_acts_1507 (fun P1 M1 hO H locs hI => ?_)
      refine g_te (y := (if w3 < 10 then -2000000001 else M 7 1 6)) (E_set0 ⟨w3a, w3b⟩) ?_
      refine lv_iload hx hb dL_acts_1510 (lv_at hl 0 rfl) ?_
      refine lv_if_eq (tgt := 1520) hx hb dL_acts_1512 (by decide) (fun c8 => absurd c8 (by decide)) (fun _ => ?_)
      refine lv_ldc (v := (-2000000001)) hx hb hown (hts _ qc_L_44) dL_acts_1515 ?_
      refine lv_goto (tgt := 1522) hx hb dL_acts_1517 (by decide) ?_
      refine lv_icmp_ne (tgt := 1529) hx hb dL_acts_1522 (by decide) (fun c9 => ?_) (fun c9 => ?_)
      · exact absurd (by simp only [if_pos c7]) c9
      · skip
        refine lv_iconst (v := 1) hx hb dL_acts_1525 (by decide) ?_
        refine lv_goto (tgt := 1530) hx hb dL_acts_1526 (by decide) ?_
        exact K _ _ _ _ _ _ dL_acts_1530 hO.1 hO.2.1 hI
    · skip
      refine lv_iload hx hb dL_acts_1471 (lv_at hl 2 rfl) ?_
      refine lv_iconst (v := 2) hx hb dL_acts_1473 (by decide) ?_
      refine lv_icmp_ne (tgt := 1482) hx hb dL_acts_1474 (by decide) (fun _ => ?_) (fun c10 => absurd c10 (by decide))
      refine lv_iload hx hb dL_acts_1482 (lv_at hl 2 rfl) ?_
      refine lv_iconst (v := 3) hx hb dL_acts_1484 (by decide) ?_
      refine lv_icmp_ne (tgt := 1499) hx hb dL_acts_1485 (by decide) (fun _ => ?_) (fun c11 => absurd c11 (by decide))
      refine lv_iconst (v := 0) hx hb dL_acts_1499 (by decide) ?_
      refine lv_istore (lv' := [(14, .int 0), (13, .int (M 7 1 6)), (12, .int w3), (11, .int 0), (10, .int own), (9, .int loan), (8, .int amt), (7, .int num), (6, .int th), (5, .int k5), (4, .int (nI n)), (3, .int h3), (2, .int y1), (1, .int x1), (0, .ref (ad 6 0))]) hx hb dL_acts_1500 hl (by decide) rfl (fun ls hl => ?_)
      refine lv_aload_n hx hb dL_acts_1502 rfl (lv_at hl 14 rfl) ?_
      refine lv_iload hx hb dL_acts_1503 (lv_at hl 3 rfl) ?_
      refine lv_iload hx hb dL_acts_1505 (lv_at hl 2 rfl) ?_
      refine r_set (rest := []) X hI hzi h0 h1 hr hl.1 rfl ⟨rfl, rfl, by decide, by decide⟩ (Nat.le_of_ble_eq_true rfl) ⟨Nat.zero_le _, Nat.zero_le _⟩ dL_acts_1507 (fun P1 M1 hO H locs hI => ?_)
      refine g_te (y := (if w3 < 10 then -2000000001 else M 7 1 6)) (E_set0 ⟨w3a, w3b⟩) ?_
      refine lv_iload hx hb dL_acts_1510 (lv_at hl 0 rfl) ?_
      refine lv_if_eq (tgt := 1520) hx hb dL_acts_1512 (by decide) (fun _ => ?_) (fun c12 => absurd c12 (by decide))
      refine lv_iload hx hb dL_acts_1520 (lv_at hl 1 rfl) ?_
      refine lv_icmp_ne (tgt := 1529) hx hb dL_acts_1522 (by decide) (fun c13 => ?_) (fun c13 => ?_)
      · exact absurd (by simp only [if_neg c7]) c13
      · skip
        refine lv_iconst (v := 1) hx hb dL_acts_1525 (by decide) ?_
        refine lv_goto (tgt := 1530) hx hb dL_acts_1526 (by decide) ?_
        exact K _ _ _ _ _ _ dL_acts_1530 hO.1 hO.2.1 hI
  · refine g_te (y := 1) rfl ?_
    refine lv_istore (lv' := [(11, .int 1), (10, .int own), (9, .int loan), (8, .int amt), (7, .int num), (6, .int th), (5, .int k5), (4, .int (nI n)), (3, .int h3), (2, .int y1), (1, .int x1), (0, .ref (ad 6 0))]) hx hb dL_acts_1419 hl (by decide) rfl (fun ls hl => ?_)
    refine lv_iload_n hx hb dL_acts_1421 rfl (lv_at hl 9 rfl) ?_
    refine lv_iconst (v := 3) hx hb dL_acts_1422 (by decide) ?_
    refine lv_ishr hx hb dL_acts_1423 ?_
    refine lv_topi (fun sh14 _ => ?_)
    refine lv_bipush (v := 30) hx hb dL_acts_1424 (by decide) ?_
    refine r_low (rest := []) X hI (by decide) hl.1 rfl ⟨rfl, rfl, by decide, by decide⟩ (Nat.le_of_ble_eq_true rfl) ⟨Nat.zero_le _, Nat.zero_le _⟩ dL_acts_1426 (fun H locs hI w15 w15a w15b => ?_)
    have w15b : w15.toInt < 30 := w15b
    refine lv_istore (lv' := [(12, .int w15), (11, .int 1), (10, .int own), (9, .int loan), (8, .int amt), (7, .int num), (6, .int th), (5, .int k5), (4, .int (nI n)), (3, .int h3), (2, .int y1), (1, .int x1), (0, .ref (ad 6 0))]) hx hb dL_acts_1429 hl (by decide) rfl (fun ls hl => ?_)
    refine lv_iload hx hb dL_acts_1431 (lv_at hl 1 rfl) ?_
    refine lv_iconst (v := 4) hx hb dL_acts_1433 (by decide) ?_
    refine lv_icmp_ne (tgt := 1441) hx hb dL_acts_1434 (by decide) (fun _ => ?_) (fun c16 => absurd c16 (by decide))
    refine lv_aload_n hx hb dL_acts_1441 rfl (lv_at hl 12 rfl) ?_
    refine lv_bipush (v := 20) hx hb dL_acts_1442 (by decide) ?_
    refine lv_iload hx hb dL_acts_1444 (lv_at hl 1 rfl) ?_
    refine lv_iadd hx hb dL_acts_1446 ?_
    refine g_te (y := 21) (by decide) ?_
    refine r_count (rest := []) X hI hz hl.1 rfl ⟨rfl, rfl, by decide, by decide⟩ (Nat.le_of_ble_eq_true rfl) ⟨Nat.zero_le _, Nat.zero_le _⟩ dL_acts_1447 (fun H locs hI => ?_)
    refine g_te (y := (M 7 1 7)) ((q_cnt_of (by decide) (by decide)).trans (u_c21 hr)) ?_
    refine lv_istore (lv' := [(13, .int (M 7 1 7)), (12, .int w15), (11, .int 1), (10, .int own), (9, .int loan), (8, .int amt), (7, .int num), (6, .int th), (5, .int k5), (4, .int (nI n)), (3, .int h3), (2, .int y1), (1, .int x1), (0, .ref (ad 6 0))]) hx hb dL_acts_1450 hl (by decide) rfl (fun ls hl => ?_)
    refine lv_iload hx hb dL_acts_1452 (lv_at hl 2 rfl) ?_
    refine lv_iconst (v := 4) hx hb dL_acts_1454 (by decide) ?_
    refine lv_icmp_eq (tgt := 1495) hx hb dL_acts_1455 (by decide) (fun c17 => absurd c17 (by decide)) (fun _ => ?_)
    refine lv_iload hx hb dL_acts_1458 (lv_at hl 2 rfl) ?_
    refine lv_iconst (v := 2) hx hb dL_acts_1460 (by decide) ?_
    refine lv_icmp_ge (tgt := 1471) hx hb dL_acts_1461 (by decide) (fun c18 => absurd c18 (by decide)) (fun _ => ?_)
    refine lv_iload hx hb dL_acts_1464 (lv_at hl 1 rfl) ?_
    refine lv_bipush (v := 10) hx hb dL_acts_1466 (by decide) ?_
    refine lv_icmp_lt (tgt := 1495) hx hb dL_acts_1468 (by decide) (fun c19 => ?_) (fun c19 => ?_)
    · skip
      refine lv_iconst (v := 1) hx hb dL_acts_1495 (by decide) ?_
      refine lv_goto (tgt := 1500) hx hb dL_acts_1496 (by decide) ?_
      refine lv_istore (lv' := [(14, .int 1), (13, .int (M 7 1 7)), (12, .int w15), (11, .int 1), (10, .int own), (9, .int loan), (8, .int amt), (7, .int num), (6, .int th), (5, .int k5), (4, .int (nI n)), (3, .int h3), (2, .int y1), (1, .int x1), (0, .ref (ad 6 0))]) hx hb dL_acts_1500 hl (by decide) rfl (fun ls hl => ?_)
      refine lv_aload_n hx hb dL_acts_1502 rfl (lv_at hl 14 rfl) ?_
      refine lv_iload hx hb dL_acts_1503 (lv_at hl 3 rfl) ?_
      refine lv_iload hx hb dL_acts_1505 (lv_at hl 2 rfl) ?_
      refine r_set (rest := []) X hI hzi h0 h1 hr hl.1 rfl ⟨rfl, rfl, by decide, by decide⟩ (Nat.le_of_ble_eq_true rfl) ⟨Nat.zero_le _, Nat.zero_le _⟩ dL_acts_1507 (fun P1 M1 hO H locs hI => ?_)
      refine g_te (y := (if w15 < 10 then -2000000001 else M 7 1 7)) (E_set1 ⟨w15a, w15b⟩) ?_
      refine lv_iload hx hb dL_acts_1510 (lv_at hl 0 rfl) ?_
      refine lv_if_eq (tgt := 1520) hx hb dL_acts_1512 (by decide) (fun c20 => absurd c20 (by decide)) (fun _ => ?_)
      refine lv_ldc (v := (-2000000001)) hx hb hown (hts _ qc_L_44) dL_acts_1515 ?_
      refine lv_goto (tgt := 1522) hx hb dL_acts_1517 (by decide) ?_
      refine lv_icmp_ne (tgt := 1529) hx hb dL_acts_1522 (by decide) (fun c21 => ?_) (fun c21 => ?_)
      · exact absurd (by simp only [if_pos c19]) c21
      · skip
        refine lv_iconst (v := 1) hx hb dL_acts_1525 (by decide) ?_
        refine lv_goto (tgt := 1530) hx hb dL_acts_1526 (by decide) ?_
        exact K _ _ _ _ _ _ dL_acts_1530 hO.1 hO.2.1 hI
    · skip
      refine lv_iload hx hb dL_acts_1471 (lv_at hl 2 rfl) ?_
      refine lv_iconst (v := 2) hx hb dL_acts_1473 (by decide) ?_
      refine lv_icmp_ne (tgt := 1482) hx hb dL_acts_1474 (by decide) (fun _ => ?_) (fun c22 => absurd c22 (by decide))
      refine lv_iload hx hb dL_acts_1482 (lv_at hl 2 rfl) ?_
      refine lv_iconst (v := 3) hx hb dL_acts_1484 (by decide) ?_
      refine lv_icmp_ne (tgt := 1499) hx hb dL_acts_1485 (by decide) (fun _ => ?_) (fun c23 => absurd c23 (by decide))
      refine lv_iconst (v := 0) hx hb dL_acts_1499 (by decide) ?_
      refine lv_istore (lv' := [(14, .int 0), (13, .int (M 7 1 7)), (12, .int w15), (11, .int 1), (10, .int own), (9, .int loan), (8, .int amt), (7, .int num), (6, .int th), (5, .int k5), (4, .int (nI n)), (3, .int h3), (2, .int y1), (1, .int x1), (0, .ref (ad 6 0))]) hx hb dL_acts_1500 hl (by decide) rfl (fun ls hl => ?_)
      refine lv_aload_n hx hb dL_acts_1502 rfl (lv_at hl 14 rfl) ?_
      refine lv_iload hx hb dL_acts_1503 (lv_at hl 3 rfl) ?_
      refine lv_iload hx hb dL_acts_1505 (lv_at hl 2 rfl) ?_
      refine r_set (rest := []) X hI hzi h0 h1 hr hl.1 rfl ⟨rfl, rfl, by decide, by decide⟩ (Nat.le_of_ble_eq_true rfl) ⟨Nat.zero_le _, Nat.zero_le _⟩ dL_acts_1507 (fun P1 M1 hO H locs hI => ?_)
      refine g_te (y := (if w15 < 10 then -2000000001 else M 7 1 7)) (E_set1 ⟨w15a, w15b⟩) ?_
      refine lv_iload hx hb dL_acts_1510 (lv_at hl 0 rfl) ?_
      refine lv_if_eq (tgt := 1520) hx hb dL_acts_1512 (by decide) (fun _ => ?_) (fun c24 => absurd c24 (by decide))
      refine lv_iload hx hb dL_acts_1520 (lv_at hl 1 rfl) ?_
      refine lv_icmp_ne (tgt := 1529) hx hb dL_acts_1522 (by decide) (fun c25 => ?_) (fun c25 => ?_)
      · exact absurd (by simp only [if_neg c19]) c25
      · skip
        refine lv_iconst (v := 1) hx hb dL_acts_1525 (by decide) ?_
        refine lv_goto (tgt := 1530) hx hb dL_acts_1526 (by decide) ?_
        exact K _ _ _ _ _ _ dL_acts_1530 hO.1 hO.2.1 hI
  · refine g_te (y := 2) rfl ?_
    refine lv_istore (lv' := [(11, .int 2), (10, .int own), (9, .int loan), (8, .int amt), (7, .int num), (6, .int th), (5, .int k5), (4, .int (nI n)), (3, .int h3), (2, .int y1), (1, .int x1), (0, .ref (ad 6 0))]) hx hb dL_acts_1419 hl (by decide) rfl (fun ls hl => ?_)
    refine lv_iload_n hx hb dL_acts_1421 rfl (lv_at hl 9 rfl) ?_
    refine lv_iconst (v := 3) hx hb dL_acts_1422 (by decide) ?_
    refine lv_ishr hx hb dL_acts_1423 ?_
    refine lv_topi (fun sh26 _ => ?_)
    refine lv_bipush (v := 30) hx hb dL_acts_1424 (by decide) ?_
    refine r_low (rest := []) X hI (by decide) hl.1 rfl ⟨rfl, rfl, by decide, by decide⟩ (Nat.le_of_ble_eq_true rfl) ⟨Nat.zero_le _, Nat.zero_le _⟩ dL_acts_1426 (fun H locs hI w27 w27a w27b => ?_)
    have w27b : w27.toInt < 30 := w27b
    refine lv_istore (lv' := [(12, .int w27), (11, .int 2), (10, .int own), (9, .int loan), (8, .int amt), (7, .int num), (6, .int th), (5, .int k5), (4, .int (nI n)), (3, .int h3), (2, .int y1), (1, .int x1), (0, .ref (ad 6 0))]) hx hb dL_acts_1429 hl (by decide) rfl (fun ls hl => ?_)
    refine lv_iload hx hb dL_acts_1431 (lv_at hl 1 rfl) ?_
    refine lv_iconst (v := 4) hx hb dL_acts_1433 (by decide) ?_
    refine lv_icmp_ne (tgt := 1441) hx hb dL_acts_1434 (by decide) (fun _ => ?_) (fun c28 => absurd c28 (by decide))
    refine lv_aload_n hx hb dL_acts_1441 rfl (lv_at hl 12 rfl) ?_
    refine lv_bipush (v := 20) hx hb dL_acts_1442 (by decide) ?_
    refine lv_iload hx hb dL_acts_1444 (lv_at hl 1 rfl) ?_
    refine lv_iadd hx hb dL_acts_1446 ?_
    refine g_te (y := 22) (by decide) ?_
    refine r_count (rest := []) X hI hz hl.1 rfl ⟨rfl, rfl, by decide, by decide⟩ (Nat.le_of_ble_eq_true rfl) ⟨Nat.zero_le _, Nat.zero_le _⟩ dL_acts_1447 (fun H locs hI => ?_)
    refine g_te (y := (M 7 1 8)) ((q_cnt_of (by decide) (by decide)).trans (u_c22 hr)) ?_
    refine lv_istore (lv' := [(13, .int (M 7 1 8)), (12, .int w27), (11, .int 2), (10, .int own), (9, .int loan), (8, .int amt), (7, .int num), (6, .int th), (5, .int k5), (4, .int (nI n)), (3, .int h3), (2, .int y1), (1, .int x1), (0, .ref (ad 6 0))]) hx hb dL_acts_1450 hl (by decide) rfl (fun ls hl => ?_)
    refine lv_iload hx hb dL_acts_1452 (lv_at hl 2 rfl) ?_
    refine lv_iconst (v := 4) hx hb dL_acts_1454 (by decide) ?_
    refine lv_icmp_eq (tgt := 1495) hx hb dL_acts_1455 (by decide) (fun c29 => absurd c29 (by decide)) (fun _ => ?_)
    refine lv_iload hx hb dL_acts_1458 (lv_at hl 2 rfl) ?_
    refine lv_iconst (v := 2) hx hb dL_acts_1460 (by decide) ?_
    refine lv_icmp_ge (tgt := 1471) hx hb dL_acts_1461 (by decide) (fun _ => ?_) (fun c30 => absurd c30 (by decide))
    refine lv_iload hx hb dL_acts_1471 (lv_at hl 2 rfl) ?_
    refine lv_iconst (v := 2) hx hb dL_acts_1473 (by decide) ?_
    refine lv_icmp_ne (tgt := 1482) hx hb dL_acts_1474 (by decide) (fun c31 => absurd c31 (by decide)) (fun _ => ?_)
    refine lv_iload hx hb dL_acts_1477 (lv_at hl 1 rfl) ?_
    refine lv_if_eq (tgt := 1495) hx hb dL_acts_1479 (by decide) (fun c32 => ?_) (fun c32 => ?_)
    · skip
      refine lv_iconst (v := 1) hx hb dL_acts_1495 (by decide) ?_
      refine lv_goto (tgt := 1500) hx hb dL_acts_1496 (by decide) ?_
      refine lv_istore (lv' := [(14, .int 1), (13, .int (M 7 1 8)), (12, .int w27), (11, .int 2), (10, .int own), (9, .int loan), (8, .int amt), (7, .int num), (6, .int th), (5, .int k5), (4, .int (nI n)), (3, .int h3), (2, .int y1), (1, .int x1), (0, .ref (ad 6 0))]) hx hb dL_acts_1500 hl (by decide) rfl (fun ls hl => ?_)
      refine lv_aload_n hx hb dL_acts_1502 rfl (lv_at hl 14 rfl) ?_
      refine lv_iload hx hb dL_acts_1503 (lv_at hl 3 rfl) ?_
      refine lv_iload hx hb dL_acts_1505 (lv_at hl 2 rfl) ?_
      refine r_set (rest := []) X hI hzi h0 h1 hr hl.1 rfl ⟨rfl, rfl, by decide, by decide⟩ (Nat.le_of_ble_eq_true rfl) ⟨Nat.zero_le _, Nat.zero_le _⟩ dL_acts_1507 (fun P1 M1 hO H locs hI => ?_)
      refine g_te (y := (if w27 = 0 then -2000000001 else M 7 1 8)) (E_set2 ⟨w27a, w27b⟩) ?_
      refine lv_iload hx hb dL_acts_1510 (lv_at hl 0 rfl) ?_
      refine lv_if_eq (tgt := 1520) hx hb dL_acts_1512 (by decide) (fun c33 => absurd c33 (by decide)) (fun _ => ?_)
      refine lv_ldc (v := (-2000000001)) hx hb hown (hts _ qc_L_44) dL_acts_1515 ?_
      refine lv_goto (tgt := 1522) hx hb dL_acts_1517 (by decide) ?_
      refine lv_icmp_ne (tgt := 1529) hx hb dL_acts_1522 (by decide) (fun c34 => ?_) (fun c34 => ?_)
      · exact absurd (by simp only [if_pos c32]) c34
      · skip
        refine lv_iconst (v := 1) hx hb dL_acts_1525 (by decide) ?_
        refine lv_goto (tgt := 1530) hx hb dL_acts_1526 (by decide) ?_
        exact K _ _ _ _ _ _ dL_acts_1530 hO.1 hO.2.1 hI
    · skip
      refine lv_iload hx hb dL_acts_1482 (lv_at hl 2 rfl) ?_
      refine lv_iconst (v := 3) hx hb dL_acts_1484 (by decide) ?_
      refine lv_icmp_ne (tgt := 1499) hx hb dL_acts_1485 (by decide) (fun _ => ?_) (fun c35 => absurd c35 (by decide))
      refine lv_iconst (v := 0) hx hb dL_acts_1499 (by decide) ?_
      refine lv_istore (lv' := [(14, .int 0), (13, .int (M 7 1 8)), (12, .int w27), (11, .int 2), (10, .int own), (9, .int loan), (8, .int amt), (7, .int num), (6, .int th), (5, .int k5), (4, .int (nI n)), (3, .int h3), (2, .int y1), (1, .int x1), (0, .ref (ad 6 0))]) hx hb dL_acts_1500 hl (by decide) rfl (fun ls hl => ?_)
      refine lv_aload_n hx hb dL_acts_1502 rfl (lv_at hl 14 rfl) ?_
      refine lv_iload hx hb dL_acts_1503 (lv_at hl 3 rfl) ?_
      refine lv_iload hx hb dL_acts_1505 (lv_at hl 2 rfl) ?_
      refine r_set (rest := []) X hI hzi h0 h1 hr hl.1 rfl ⟨rfl, rfl, by decide, by decide⟩ (Nat.le_of_ble_eq_true rfl) ⟨Nat.zero_le _, Nat.zero_le _⟩ dL_acts_1507 (fun P1 M1 hO H locs hI => ?_)
      refine g_te (y := (if w27 = 0 then -2000000001 else M 7 1 8)) (E_set2 ⟨w27a, w27b⟩) ?_
      refine lv_iload hx hb dL_acts_1510 (lv_at hl 0 rfl) ?_
      refine lv_if_eq (tgt := 1520) hx hb dL_acts_1512 (by decide) (fun _ => ?_) (fun c36 => absurd c36 (by decide))
      refine lv_iload hx hb dL_acts_1520 (lv_at hl 1 rfl) ?_
      refine lv_icmp_ne (tgt := 1529) hx hb dL_acts_1522 (by decide) (fun c37 => ?_) (fun c37 => ?_)
      · exact absurd (by simp only [if_neg c32]) c37
      · skip
        refine lv_iconst (v := 1) hx hb dL_acts_1525 (by decide) ?_
        refine lv_goto (tgt := 1530) hx hb dL_acts_1526 (by decide) ?_
        exact K _ _ _ _ _ _ dL_acts_1530 hO.1 hO.2.1 hI
  · refine g_te (y := 3) rfl ?_
    refine lv_istore (lv' := [(11, .int 3), (10, .int own), (9, .int loan), (8, .int amt), (7, .int num), (6, .int th), (5, .int k5), (4, .int (nI n)), (3, .int h3), (2, .int y1), (1, .int x1), (0, .ref (ad 6 0))]) hx hb dL_acts_1419 hl (by decide) rfl (fun ls hl => ?_)
    refine lv_iload_n hx hb dL_acts_1421 rfl (lv_at hl 9 rfl) ?_
    refine lv_iconst (v := 3) hx hb dL_acts_1422 (by decide) ?_
    refine lv_ishr hx hb dL_acts_1423 ?_
    refine lv_topi (fun sh38 _ => ?_)
    refine lv_bipush (v := 30) hx hb dL_acts_1424 (by decide) ?_
    refine r_low (rest := []) X hI (by decide) hl.1 rfl ⟨rfl, rfl, by decide, by decide⟩ (Nat.le_of_ble_eq_true rfl) ⟨Nat.zero_le _, Nat.zero_le _⟩ dL_acts_1426 (fun H locs hI w39 w39a w39b => ?_)
    have w39b : w39.toInt < 30 := w39b
    refine lv_istore (lv' := [(12, .int w39), (11, .int 3), (10, .int own), (9, .int loan), (8, .int amt), (7, .int num), (6, .int th), (5, .int k5), (4, .int (nI n)), (3, .int h3), (2, .int y1), (1, .int x1), (0, .ref (ad 6 0))]) hx hb dL_acts_1429 hl (by decide) rfl (fun ls hl => ?_)
    refine lv_iload hx hb dL_acts_1431 (lv_at hl 1 rfl) ?_
    refine lv_iconst (v := 4) hx hb dL_acts_1433 (by decide) ?_
    refine lv_icmp_ne (tgt := 1441) hx hb dL_acts_1434 (by decide) (fun _ => ?_) (fun c40 => absurd c40 (by decide))
    refine lv_aload_n hx hb dL_acts_1441 rfl (lv_at hl 12 rfl) ?_
    refine lv_bipush (v := 20) hx hb dL_acts_1442 (by decide) ?_
    refine lv_iload hx hb dL_acts_1444 (lv_at hl 1 rfl) ?_
    refine lv_iadd hx hb dL_acts_1446 ?_
    refine g_te (y := 23) (by decide) ?_
    refine r_count (rest := []) X hI hz hl.1 rfl ⟨rfl, rfl, by decide, by decide⟩ (Nat.le_of_ble_eq_true rfl) ⟨Nat.zero_le _, Nat.zero_le _⟩ dL_acts_1447 (fun H locs hI => ?_)
    refine g_te (y := (M 7 1 9)) ((q_cnt_of (by decide) (by decide)).trans (u_c23 hr)) ?_
    refine lv_istore (lv' := [(13, .int (M 7 1 9)), (12, .int w39), (11, .int 3), (10, .int own), (9, .int loan), (8, .int amt), (7, .int num), (6, .int th), (5, .int k5), (4, .int (nI n)), (3, .int h3), (2, .int y1), (1, .int x1), (0, .ref (ad 6 0))]) hx hb dL_acts_1450 hl (by decide) rfl (fun ls hl => ?_)
    refine lv_iload hx hb dL_acts_1452 (lv_at hl 2 rfl) ?_
    refine lv_iconst (v := 4) hx hb dL_acts_1454 (by decide) ?_
    refine lv_icmp_eq (tgt := 1495) hx hb dL_acts_1455 (by decide) (fun c41 => absurd c41 (by decide)) (fun _ => ?_)
    refine lv_iload hx hb dL_acts_1458 (lv_at hl 2 rfl) ?_
    refine lv_iconst (v := 2) hx hb dL_acts_1460 (by decide) ?_
    refine lv_icmp_ge (tgt := 1471) hx hb dL_acts_1461 (by decide) (fun _ => ?_) (fun c42 => absurd c42 (by decide))
    refine lv_iload hx hb dL_acts_1471 (lv_at hl 2 rfl) ?_
    refine lv_iconst (v := 2) hx hb dL_acts_1473 (by decide) ?_
    refine lv_icmp_ne (tgt := 1482) hx hb dL_acts_1474 (by decide) (fun _ => ?_) (fun c43 => absurd c43 (by decide))
    refine lv_iload hx hb dL_acts_1482 (lv_at hl 2 rfl) ?_
    refine lv_iconst (v := 3) hx hb dL_acts_1484 (by decide) ?_
    refine lv_icmp_ne (tgt := 1499) hx hb dL_acts_1485 (by decide) (fun c44 => absurd c44 (by decide)) (fun _ => ?_)
    refine lv_iload hx hb dL_acts_1488 (lv_at hl 1 rfl) ?_
    refine lv_bipush (v := 20) hx hb dL_acts_1490 (by decide) ?_
    refine lv_icmp_le (tgt := 1499) hx hb dL_acts_1492 (by decide) (fun c45 => ?_) (fun c45 => ?_)
    · skip
      refine lv_iconst (v := 0) hx hb dL_acts_1499 (by decide) ?_
      refine lv_istore (lv' := [(14, .int 0), (13, .int (M 7 1 9)), (12, .int w39), (11, .int 3), (10, .int own), (9, .int loan), (8, .int amt), (7, .int num), (6, .int th), (5, .int k5), (4, .int (nI n)), (3, .int h3), (2, .int y1), (1, .int x1), (0, .ref (ad 6 0))]) hx hb dL_acts_1500 hl (by decide) rfl (fun ls hl => ?_)
      refine lv_aload_n hx hb dL_acts_1502 rfl (lv_at hl 14 rfl) ?_
      refine lv_iload hx hb dL_acts_1503 (lv_at hl 3 rfl) ?_
      refine lv_iload hx hb dL_acts_1505 (lv_at hl 2 rfl) ?_
      refine r_set (rest := []) X hI hzi h0 h1 hr hl.1 rfl ⟨rfl, rfl, by decide, by decide⟩ (Nat.le_of_ble_eq_true rfl) ⟨Nat.zero_le _, Nat.zero_le _⟩ dL_acts_1507 (fun P1 M1 hO H locs hI => ?_)
      refine g_te (y := (if w39 ≤ 20 then M 7 1 9 else -2000000001)) (E_set3 ⟨w39a, w39b⟩) ?_
      refine lv_iload hx hb dL_acts_1510 (lv_at hl 0 rfl) ?_
      refine lv_if_eq (tgt := 1520) hx hb dL_acts_1512 (by decide) (fun _ => ?_) (fun c46 => absurd c46 (by decide))
      refine lv_iload hx hb dL_acts_1520 (lv_at hl 1 rfl) ?_
      refine lv_icmp_ne (tgt := 1529) hx hb dL_acts_1522 (by decide) (fun c47 => ?_) (fun c47 => ?_)
      · exact absurd (by simp only [if_pos c45]) c47
      · skip
        refine lv_iconst (v := 1) hx hb dL_acts_1525 (by decide) ?_
        refine lv_goto (tgt := 1530) hx hb dL_acts_1526 (by decide) ?_
        exact K _ _ _ _ _ _ dL_acts_1530 hO.1 hO.2.1 hI
    · skip
      refine lv_iconst (v := 1) hx hb dL_acts_1495 (by decide) ?_
      refine lv_goto (tgt := 1500) hx hb dL_acts_1496 (by decide) ?_
      refine lv_istore (lv' := [(14, .int 1), (13, .int (M 7 1 9)), (12, .int w39), (11, .int 3), (10, .int own), (9, .int loan), (8, .int amt), (7, .int num), (6, .int th), (5, .int k5), (4, .int (nI n)), (3, .int h3), (2, .int y1), (1, .int x1), (0, .ref (ad 6 0))]) hx hb dL_acts_1500 hl (by decide) rfl (fun ls hl => ?_)
      refine lv_aload_n hx hb dL_acts_1502 rfl (lv_at hl 14 rfl) ?_
      refine lv_iload hx hb dL_acts_1503 (lv_at hl 3 rfl) ?_
      refine lv_iload hx hb dL_acts_1505 (lv_at hl 2 rfl) ?_
      refine r_set (rest := []) X hI hzi h0 h1 hr hl.1 rfl ⟨rfl, rfl, by decide, by decide⟩ (Nat.le_of_ble_eq_true rfl) ⟨Nat.zero_le _, Nat.zero_le _⟩ dL_acts_1507 (fun P1 M1 hO H locs hI => ?_)
      refine g_te (y := (if w39 ≤ 20 then M 7 1 9 else -2000000001)) (E_set3 ⟨w39a, w39b⟩) ?_
      refine lv_iload hx hb dL_acts_1510 (lv_at hl 0 rfl) ?_
      refine lv_if_eq (tgt := 1520) hx hb dL_acts_1512 (by decide) (fun c48 => absurd c48 (by decide)) (fun _ => ?_)
      refine lv_ldc (v := (-2000000001)) hx hb hown (hts _ qc_L_44) dL_acts_1515 ?_
      refine lv_goto (tgt := 1522) hx hb dL_acts_1517 (by decide) ?_
      refine lv_icmp_ne (tgt := 1529) hx hb dL_acts_1522 (by decide) (fun c49 => ?_) (fun c49 => ?_)
      · exact absurd (by simp only [if_neg c45]) c49
      · skip
        refine lv_iconst (v := 1) hx hb dL_acts_1525 (by decide) ?_
        refine lv_goto (tgt := 1530) hx hb dL_acts_1526 (by decide) ?_
        exact K _ _ _ _ _ _ dL_acts_1530 hO.1 hO.2.1 hI
  · refine g_te (y := 4) rfl ?_
    refine lv_istore (lv' := [(11, .int 4), (10, .int own), (9, .int loan), (8, .int amt), (7, .int num), (6, .int th), (5, .int k5), (4, .int (nI n)), (3, .int h3), (2, .int y1), (1, .int x1), (0, .ref (ad 6 0))]) hx hb dL_acts_1419 hl (by decide) rfl (fun ls hl => ?_)
    refine lv_iload_n hx hb dL_acts_1421 rfl (lv_at hl 9 rfl) ?_
    refine lv_iconst (v := 3) hx hb dL_acts_1422 (by decide) ?_
    refine lv_ishr hx hb dL_acts_1423 ?_
    refine lv_topi (fun sh50 _ => ?_)
    refine lv_bipush (v := 30) hx hb dL_acts_1424 (by decide) ?_
    refine r_low (rest := []) X hI (by decide) hl.1 rfl ⟨rfl, rfl, by decide, by decide⟩ (Nat.le_of_ble_eq_true rfl) ⟨Nat.zero_le _, Nat.zero_le _⟩ dL_acts_1426 (fun H locs hI w51 w51a w51b => ?_)
    have w51b : w51.toInt < 30 := w51b
    refine lv_istore (lv' := [(12, .int w51), (11, .int 4), (10, .int own), (9, .int loan), (8, .int amt), (7, .int num), (6, .int th), (5, .int k5), (4, .int (nI n)), (3, .int h3), (2, .int y1), (1, .int x1), (0, .ref (ad 6 0))]) hx hb dL_acts_1429 hl (by decide) rfl (fun ls hl => ?_)
    refine lv_iload hx hb dL_acts_1431 (lv_at hl 1 rfl) ?_
    refine lv_iconst (v := 4) hx hb dL_acts_1433 (by decide) ?_
    refine lv_icmp_ne (tgt := 1441) hx hb dL_acts_1434 (by decide) (fun c52 => absurd c52 (by decide)) (fun _ => ?_)
    refine lv_iconst (v := 0) hx hb dL_acts_1437 (by decide) ?_
    refine lv_goto (tgt := 1450) hx hb dL_acts_1438 (by decide) ?_
    refine lv_istore (lv' := [(13, .int 0), (12, .int w51), (11, .int 4), (10, .int own), (9, .int loan), (8, .int amt), (7, .int num), (6, .int th), (5, .int k5), (4, .int (nI n)), (3, .int h3), (2, .int y1), (1, .int x1), (0, .ref (ad 6 0))]) hx hb dL_acts_1450 hl (by decide) rfl (fun ls hl => ?_)
    refine lv_iload hx hb dL_acts_1452 (lv_at hl 2 rfl) ?_
    refine lv_iconst (v := 4) hx hb dL_acts_1454 (by decide) ?_
    refine lv_icmp_eq (tgt := 1495) hx hb dL_acts_1455 (by decide) (fun _ => ?_) (fun c53 => absurd c53 (by decide))
    refine lv_iconst (v := 1) hx hb dL_acts_1495 (by decide) ?_
    refine lv_goto (tgt := 1500) hx hb dL_acts_1496 (by decide) ?_
    refine lv_istore (lv' := [(14, .int 1), (13, .int 0), (12, .int w51), (11, .int 4), (10, .int own), (9, .int loan), (8, .int amt), (7, .int num), (6, .int th), (5, .int k5), (4, .int (nI n)), (3, .int h3), (2, .int y1), (1, .int x1), (0, .ref (ad 6 0))]) hx hb dL_acts_1500 hl (by decide) rfl (fun ls hl => ?_)
    refine lv_aload_n hx hb dL_acts_1502 rfl (lv_at hl 14 rfl) ?_
    refine lv_iload hx hb dL_acts_1503 (lv_at hl 3 rfl) ?_
    refine lv_iload hx hb dL_acts_1505 (lv_at hl 2 rfl) ?_
    refine r_set (rest := []) X hI hzi h0 h1 hr hl.1 rfl ⟨rfl, rfl, by decide, by decide⟩ (Nat.le_of_ble_eq_true rfl) ⟨Nat.zero_le _, Nat.zero_le _⟩ dL_acts_1507 (fun P1 M1 hO H locs hI => ?_)
    refine g_te (y := (-2000000001)) (E_set4) ?_
    refine lv_iload hx hb dL_acts_1510 (lv_at hl 0 rfl) ?_
    refine lv_if_eq (tgt := 1520) hx hb dL_acts_1512 (by decide) (fun c54 => absurd c54 (by decide)) (fun _ => ?_)
    refine lv_ldc (v := (-2000000001)) hx hb hown (hts _ qc_L_44) dL_acts_1515 ?_
    refine lv_goto (tgt := 1522) hx hb dL_acts_1517 (by decide) ?_
    refine lv_icmp_ne (tgt := 1529) hx hb dL_acts_1522 (by decide) (fun c55 => absurd c55 (by decide)) (fun _ => ?_)
    refine lv_iconst (v := 1) hx hb dL_acts_1525 (by decide) ?_
    refine lv_goto (tgt := 1530) hx hb dL_acts_1526 (by decide) ?_
    exact K _ _ _ _ _ _ dL_acts_1530 hO.1 hO.2.1 hI
end AC
