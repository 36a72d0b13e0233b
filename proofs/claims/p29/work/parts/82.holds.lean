/-! ===== holds: it answers 1 ===== -/
def u_bef (W : g_V) (k : Nat) : Int32 := if k = 0 then -1 else W 1 (34 + 7 * (k - 1))
section UH
variable {V W : g_V} {n : Nat} {mb lo hi : Int} {k : Nat}
theorem u_share0 (h : z_R V (W 1) n mb lo hi) (hk : k < n) : 0 ≤ (m_share W k 1).toInt := by
  obtain ⟨g, hL, h1, h2, h3⟩ := h
  obtain ⟨-, hw1, hw2, -⟩ := m_worth_i h1 hk
  have h4 : 10 ≤ (W 1 (6 + 1)).toInt ∧ (W 1 (6 + 1)).toInt ≤ 150 := h1.set.2.1
  have h7 : (m_worth W k).toInt * (W 1 (6 + 1)).toInt ≤ (m_worth W k).toInt * 150 := Int.mul_le_mul_of_nonneg_left h4.2 (by omega)
  have h6 : 0 ≤ (m_worth W k).toInt * (W 1 (6 + 1)).toInt := Int.mul_nonneg (by omega) (by omega)
  have e : (m_worth W k * W 1 (6 + 1)).toInt = (m_worth W k).toInt * (W 1 (6 + 1)).toInt := z_mul (by omega) (by omega)
  unfold m_share
  rw [z_div (by rw [e]; exact h6) (by decide), e]
  exact Int.ediv_nonneg h6 (by decide)
theorem u_befI (h : z_R V (W 1) n mb lo hi) (hk : k < n) : ¬ W 1 (34 + 7 * k) ≤ u_bef W k := by
  obtain ⟨g, hL, h1, h2, h3⟩ := h
  rw [Int32.le_iff_toInt_le]
  unfold u_bef
  by_cases c : k = 0
  · rw [if_pos c]
    have := (h2.2.1 k hk).1
    show ¬ _ ≤ (-1 : Int)
    omega
  · rw [if_neg c]
    have := h2.1 (k - 1) k (by omega) hk
    omega
theorem u_numI (h : z_R V (W 1) n mb lo hi) (hk : k < n) : ¬ W 1 2 ≤ W 1 (34 + 7 * k) := by
  obtain ⟨g, hL, h1, h2, h3⟩ := h
  rw [Int32.le_iff_toInt_le]
  have := (h2.2.1 k hk).2
  omega
end UH
abbrev rm_L_holds : Room := { frames := 5, cells := 0, slots := 0, locals := 112 }
set_option maxHeartbeats 4000000 in
set_option maxRecDepth 100000 in
theorem c_L_holds (l : Launch) (D : va_G) (tb : g_T) (ad : g_Ad) (hj : g_inj ad) (P : g_P) (M : g_M) {mb lo hi : Int} (hz : z_Rel P M mb lo hi) (hv : v_4 (M (P 0))) : g_Ci l yL_holds cL_holds 10 (some .boolean) rm_L_holds D tb ad [.ref (ad 6 0)] P M 1 P M := by
  refine g_go (by decide) (Nat.le_of_ble_eq_true rfl) hj ?_
  intro p e s m below meth c ls H locs R args Q hR0 hQ hx hb hml hr0 hlk hown hts hC hI hl
  subst hR0
  have hown : s.vm.findClass RL = some m.cls := hown
  have hl : lv_has ls 10 [(0, .ref (ad 6 0))] := hl
  have X : L_x p s m args c cL_holds 10 D tb ad (g_A ad) := ⟨hx, hb, hml, hown, hts, hC, hj⟩
  obtain ⟨n, hr⟩ := hz.row
  have h16 : n ≤ 16 := hr.choose_spec.1.n16
  have hmd : m_place (M 7) (M 7 1 2) n = none := u_made hr.choose_spec.2.2.1
  have lp9 : ∀ (d k : Nat) (s1 w1 : Int32), k ≤ n → n < k + d → s1 = k_sum (fun k => M 7 1 (34 + 7 * k + 3)) k → w1 = k_sum (fun k => if m_pledged (M 7) k then m_worth (M 7) k else 0) k → ∀ (H : Heap) (locs : List Loc) (ls : Array Slot), g_I D tb ad (g_A ad) s H locs P M → lv_has ls 10 [(4, .int (nI k)), (3, .int (u_bef (M 7) k)), (2, .int w1), (1, .int s1), (0, .ref (ad 6 0))] → W p l e rm_L_holds s m args below meth c H locs 0 0 Q (F0 m 9 ls []) := by
    intro d
    induction d with
    | zero => intros; omega
    | succ d ih =>
      intro k s1 w1 hkN hd hs hw H locs ls hI hl
      refine lv_iload hx hb dL_holds_9 (lv_at hl 0 rfl) ?_
      refine lv_aload_n hx hb dL_holds_11 rfl (lv_at hl 4 rfl) ?_
      refine lv_iconst (v := 0) hx hb dL_holds_12 (by decide) ?_
      refine r_count (rest := [.int (nI k)]) X hI hz hl.1 rfl ⟨rfl, rfl, by decide, by decide⟩ (Nat.le_of_ble_eq_true rfl) ⟨Nat.zero_le _, Nat.zero_le _⟩ dL_holds_13 (fun H locs hI => ?_)
      refine g_te (y := (nI n)) ((q_cnt_of (by decide) (by decide)).trans (u_c0 hr)) ?_
      refine lv_icmp_ge (tgt := 251) hx hb dL_holds_16 (by decide) (fun c1 => ?_) (fun c1 => ?_)
      · have c1n : n ≤ k := (nI_leI (a := n) (b := k) (by omega) (by omega)).mp c1
        have hkn : k = n := by omega
        subst hkn
        have es : s1 = q_receiptsOf (M (P 0)) 0 2 := hs.trans (u_sum hr)
        have ew := hw.trans (u_worths hr)
        have ec := u_cov hr
        have eg0 := u_sur hr (j := 0) (by decide)
        have eg1 := u_sur hr (j := 1) (by decide)
        refine lv_aload_n hx hb dL_holds_251 rfl (lv_at hl 4 rfl) ?_
        refine lv_iconst (v := 0) hx hb dL_holds_252 (by decide) ?_
        refine lv_iconst (v := 2) hx hb dL_holds_253 (by decide) ?_
        refine r_lenderOf (rest := []) X hI hz hl.1 rfl ⟨rfl, rfl, by decide, by decide⟩ (Nat.le_of_ble_eq_true rfl) ⟨Nat.zero_le _, Nat.zero_le _⟩ dL_holds_254 (fun H locs hI => ?_)
        refine lv_aload_n hx hb dL_holds_257 rfl (lv_at hl 4 rfl) ?_
        refine lv_iconst (v := 1) hx hb dL_holds_258 (by decide) ?_
        refine lv_iconst (v := 2) hx hb dL_holds_259 (by decide) ?_
        refine r_lenderOf (rest := [.int (q_tellLender (M (P 0)) 0 2)]) X hI hz hl.1 rfl ⟨rfl, rfl, by decide, by decide⟩ (Nat.le_of_ble_eq_true rfl) ⟨Nat.zero_le _, Nat.zero_le _⟩ dL_holds_260 (fun H locs hI => ?_)
        refine lv_iadd hx hb dL_holds_263 ?_
        refine lv_aload_n hx hb dL_holds_264 rfl (lv_at hl 4 rfl) ?_
        refine lv_iconst (v := 2) hx hb dL_holds_265 (by decide) ?_
        refine lv_iconst (v := 2) hx hb dL_holds_266 (by decide) ?_
        refine r_lenderOf (rest := [.int ((q_tellLender (M (P 0)) 0 2) + (q_tellLender (M (P 0)) 1 2))]) X hI hz hl.1 rfl ⟨rfl, rfl, by decide, by decide⟩ (Nat.le_of_ble_eq_true rfl) ⟨Nat.zero_le _, Nat.zero_le _⟩ dL_holds_267 (fun H locs hI => ?_)
        refine lv_iadd hx hb dL_holds_270 ?_
        refine lv_istore (lv' := [(4, .int (((q_tellLender (M (P 0)) 0 2) + (q_tellLender (M (P 0)) 1 2)) + (q_tellLender (M (P 0)) 2 2))), (3, .int (u_bef (M 7) k)), (2, .int w1), (1, .int s1), (0, .ref (ad 6 0))]) hx hb dL_holds_271 hl (by decide) rfl (fun ls hl => ?_)
        refine lv_iload_n hx hb dL_holds_273 rfl (lv_at hl 3 rfl) ?_
        refine lv_aload_n hx hb dL_holds_274 rfl (lv_at hl 4 rfl) ?_
        refine lv_iconst (v := 1) hx hb dL_holds_275 (by decide) ?_
        refine r_count (rest := [.int s1]) X hI hz hl.1 rfl ⟨rfl, rfl, by decide, by decide⟩ (Nat.le_of_ble_eq_true rfl) ⟨Nat.zero_le _, Nat.zero_le _⟩ dL_holds_276 (fun H locs hI => ?_)
        refine g_te (y := (q_receiptsOf (M (P 0)) 0 2)) (rfl) ?_
        refine lv_icmp_ne (tgt := 374) hx hb dL_holds_279 (by decide) (fun c21 => ?_) (fun c21 => ?_)
        · exact absurd es c21
        · skip
          refine lv_iload_n hx hb dL_holds_282 rfl (lv_at hl 2 rfl) ?_
          refine lv_iload hx hb dL_holds_283 (lv_at hl 0 rfl) ?_
          refine lv_icmp_ne (tgt := 374) hx hb dL_holds_285 (by decide) (fun c22 => ?_) (fun c22 => ?_)
          · exact absurd ew c22
          · skip
            refine lv_aload_n hx hb dL_holds_288 rfl (lv_at hl 4 rfl) ?_
            refine lv_iconst (v := 2) hx hb dL_holds_289 (by decide) ?_
            refine r_count (rest := []) X hI hz hl.1 rfl ⟨rfl, rfl, by decide, by decide⟩ (Nat.le_of_ble_eq_true rfl) ⟨Nat.zero_le _, Nat.zero_le _⟩ dL_holds_290 (fun H locs hI => ?_)
            refine g_te (y := (q_grainOf (M (P 0)) 0 2)) (rfl) ?_
            refine lv_iload_n hx hb dL_holds_293 rfl (lv_at hl 3 rfl) ?_
            refine lv_icmp_lt (tgt := 374) hx hb dL_holds_294 (by decide) (fun c23 => ?_) (fun c23 => ?_)
            · (rw [Int32.lt_iff_toInt_lt, es] at c23; omega)
            · skip
              refine lv_aload_n hx hb dL_holds_297 rfl (lv_at hl 4 rfl) ?_
              refine lv_iconst (v := 0) hx hb dL_holds_298 (by decide) ?_
              refine lv_iconst (v := 3) hx hb dL_holds_299 (by decide) ?_
              refine r_gradeOf (rest := []) X hI hz hl.1 rfl ⟨rfl, rfl, by decide, by decide⟩ (Nat.le_of_ble_eq_true rfl) ⟨Nat.zero_le _, Nat.zero_le _⟩ dL_holds_300 (fun H locs hI => ?_)
              refine g_te (y := (q_surplus (M (P 0)) 0)) (rfl) ?_
              refine lv_if_lt (tgt := 374) hx hb dL_holds_303 (by decide) (fun c24 => ?_) (fun c24 => ?_)
              · (rw [Int32.lt_iff_toInt_lt, z_i0] at c24; exact absurd eg0 (Int.not_le.mpr c24))
              · skip
                refine lv_aload_n hx hb dL_holds_306 rfl (lv_at hl 4 rfl) ?_
                refine lv_iconst (v := 1) hx hb dL_holds_307 (by decide) ?_
                refine lv_iconst (v := 3) hx hb dL_holds_308 (by decide) ?_
                refine r_gradeOf (rest := []) X hI hz hl.1 rfl ⟨rfl, rfl, by decide, by decide⟩ (Nat.le_of_ble_eq_true rfl) ⟨Nat.zero_le _, Nat.zero_le _⟩ dL_holds_309 (fun H locs hI => ?_)
                refine g_te (y := (q_surplus (M (P 0)) 1)) (rfl) ?_
                refine lv_if_lt (tgt := 374) hx hb dL_holds_312 (by decide) (fun c25 => ?_) (fun c25 => ?_)
                · (rw [Int32.lt_iff_toInt_lt, z_i0] at c25; exact absurd eg1 (Int.not_le.mpr c25))
                · skip
                  refine lv_aload_n hx hb dL_holds_315 rfl (lv_at hl 4 rfl) ?_
                  refine lv_iconst (v := 2) hx hb dL_holds_316 (by decide) ?_
                  refine lv_iconst (v := 3) hx hb dL_holds_317 (by decide) ?_
                  refine r_gradeOf (rest := []) X hI hz hl.1 rfl ⟨rfl, rfl, by decide, by decide⟩ (Nat.le_of_ble_eq_true rfl) ⟨Nat.zero_le _, Nat.zero_le _⟩ dL_holds_318 (fun H locs hI => ?_)
                  refine g_te (y := (q_surplus (M (P 0)) 2)) (rfl) ?_
                  refine lv_aload_n hx hb dL_holds_321 rfl (lv_at hl 4 rfl) ?_
                  refine lv_iconst (v := 2) hx hb dL_holds_322 (by decide) ?_
                  refine r_count (rest := [.int (q_surplus (M (P 0)) 2)]) X hI hz hl.1 rfl ⟨rfl, rfl, by decide, by decide⟩ (Nat.le_of_ble_eq_true rfl) ⟨Nat.zero_le _, Nat.zero_le _⟩ dL_holds_323 (fun H locs hI => ?_)
                  refine g_te (y := (q_grainOf (M (P 0)) 0 2)) (rfl) ?_
                  refine lv_iload_n hx hb dL_holds_326 rfl (lv_at hl 3 rfl) ?_
                  refine lv_isub hx hb dL_holds_327 ?_
                  refine lv_icmp_ne (tgt := 374) hx hb dL_holds_328 (by decide) (fun c26 => ?_) (fun c26 => ?_)
                  · exact absurd (by rw [es]; rfl) c26
                  · skip
                    refine lv_aload_n hx hb dL_holds_331 rfl (lv_at hl 4 rfl) ?_
                    refine lv_aload_n hx hb dL_holds_332 rfl (lv_at hl 4 rfl) ?_
                    refine lv_iconst (v := 0) hx hb dL_holds_333 (by decide) ?_
                    refine r_count (rest := [.ref (ad 6 0)]) X hI hz hl.1 rfl ⟨rfl, rfl, by decide, by decide⟩ (Nat.le_of_ble_eq_true rfl) ⟨Nat.zero_le _, Nat.zero_le _⟩ dL_holds_334 (fun H locs hI => ?_)
                    refine g_te (y := (nI k)) ((q_cnt_of (by decide) (by decide)).trans (u_c0 hr)) ?_
                    refine r_receipt (rest := []) X hI hz hl.1 rfl ⟨rfl, rfl, by decide, by decide⟩ (Nat.le_of_ble_eq_true rfl) ⟨Nat.zero_le _, Nat.zero_le _⟩ dL_holds_337 (fun H locs hI => ?_)
                    refine g_te (y := (-2000000004)) (u_numn hr) ?_
                    refine lv_ldc (v := (-2000000004)) hx hb hown (hts _ qc_L_43) dL_holds_340 ?_
                    refine lv_icmp_ne (tgt := 374) hx hb dL_holds_342 (by decide) (fun c27 => absurd c27 (by decide)) (fun _ => ?_)
                    refine lv_aload_n hx hb dL_holds_345 rfl (lv_at hl 4 rfl) ?_
                    refine lv_aload_n hx hb dL_holds_346 rfl (lv_at hl 4 rfl) ?_
                    refine lv_iconst (v := 4) hx hb dL_holds_347 (by decide) ?_
                    refine r_count (rest := [.ref (ad 6 0)]) X hI hz hl.1 rfl ⟨rfl, rfl, by decide, by decide⟩ (Nat.le_of_ble_eq_true rfl) ⟨Nat.zero_le _, Nat.zero_le _⟩ dL_holds_348 (fun H locs hI => ?_)
                    refine g_te (y := (M 7 1 2)) ((q_cnt_of (by decide) (by decide)).trans (u_c4 hr)) ?_
                    refine lv_iconst (v := 0) hx hb dL_holds_351 (by decide) ?_
                    refine r_receiptOf (rest := []) X hI hz hl.1 rfl ⟨rfl, rfl, by decide, by decide⟩ (Nat.le_of_ble_eq_true rfl) ⟨Nat.zero_le _, Nat.zero_le _⟩ dL_holds_352 (fun H locs hI => ?_)
                    refine g_te (y := (-2000000001)) (u_none hr hmd) ?_
                    refine lv_ldc (v := (-2000000001)) hx hb hown (hts _ qc_L_44) dL_holds_355 ?_
                    refine lv_icmp_ne (tgt := 374) hx hb dL_holds_357 (by decide) (fun c28 => absurd c28 (by decide)) (fun _ => ?_)
                    refine lv_aload_n hx hb dL_holds_360 rfl (lv_at hl 4 rfl) ?_
                    refine lv_iconst (v := 0) hx hb dL_holds_361 (by decide) ?_
                    refine r_count (rest := []) X hI hz hl.1 rfl ⟨rfl, rfl, by decide, by decide⟩ (Nat.le_of_ble_eq_true rfl) ⟨Nat.zero_le _, Nat.zero_le _⟩ dL_holds_362 (fun H locs hI => ?_)
                    refine g_te (y := (nI k)) ((q_cnt_of (by decide) (by decide)).trans (u_c0 hr)) ?_
                    refine lv_bipush (v := 16) hx hb dL_holds_365 (by decide) ?_
                    refine lv_icmp_gt (tgt := 374) hx hb dL_holds_367 (by decide) (fun c29 => ?_) (fun c29 => ?_)
                    · exact absurd c29 (show ¬ nI 16 < nI k from fun z => by have := (nI_ltI (a := 16) (b := k) (by decide) (by omega)).mp z; omega)
                    · skip
                      refine lv_iconst (v := 1) hx hb dL_holds_370 (by decide) ?_
                      refine lv_goto (tgt := 375) hx hb dL_holds_371 (by decide) ?_
                      exact g_ir hQ hx hb hr0 hlk hC hI dL_holds_375 rfl rfl rfl rfl
      · have c1n : ¬ n ≤ k := fun z => c1 ((nI_leI (a := n) (b := k) (by omega) (by omega)).mpr z)
        have hk : k < n := by omega
        by_cases hp : m_pledged (M 7) k
        · have hln : ¬ M 7 1 (34 + 7 * k + 5) = -2000000004 := fun z => by have := (u_loan_no hr hk).mp ((if_pos hp).trans z); exact this hp
          have hle : ¬ M 7 1 (34 + 7 * k + 4) = -2000000004 := fun z => by have hp : ¬ M 7 1 (34 + 7 * k + 4) < 0 := hp; rw [z] at hp; exact hp (by decide)
          refine lv_aload_n hx hb dL_holds_19 rfl (lv_at hl 4 rfl) ?_
          refine lv_iload hx hb dL_holds_20 (lv_at hl 0 rfl) ?_
          refine r_receipt (rest := []) X hI hz hl.1 rfl ⟨rfl, rfl, by decide, by decide⟩ (Nat.le_of_ble_eq_true rfl) ⟨Nat.zero_le _, Nat.zero_le _⟩ dL_holds_22 (fun H locs hI => ?_)
          refine g_te (y := (M 7 1 (34 + 7 * k))) (u_num hr hk) ?_
          refine lv_istore (lv' := [(5, .int (M 7 1 (34 + 7 * k))), (4, .int (nI k)), (3, .int (u_bef (M 7) k)), (2, .int w1), (1, .int s1), (0, .ref (ad 6 0))]) hx hb dL_holds_25 hl (by decide) rfl (fun ls hl => ?_)
          refine lv_aload_n hx hb dL_holds_27 rfl (lv_at hl 5 rfl) ?_
          refine lv_iload hx hb dL_holds_28 (lv_at hl 0 rfl) ?_
          refine lv_iconst (v := 5) hx hb dL_holds_30 (by decide) ?_
          refine r_receiptOf (rest := []) X hI hz hl.1 rfl ⟨rfl, rfl, by decide, by decide⟩ (Nat.le_of_ble_eq_true rfl) ⟨Nat.zero_le _, Nat.zero_le _⟩ dL_holds_31 (fun H locs hI => ?_)
          refine g_te (y := (M 7 1 (34 + 7 * k + 5))) ((u_r5 hr hk).trans (if_pos hp)) ?_
          refine lv_istore (lv' := [(6, .int (M 7 1 (34 + 7 * k + 5))), (5, .int (M 7 1 (34 + 7 * k))), (4, .int (nI k)), (3, .int (u_bef (M 7) k)), (2, .int w1), (1, .int s1), (0, .ref (ad 6 0))]) hx hb dL_holds_34 hl (by decide) rfl (fun ls hl => ?_)
          refine lv_aload_n hx hb dL_holds_36 rfl (lv_at hl 6 rfl) ?_
          refine lv_iload hx hb dL_holds_37 (lv_at hl 1 rfl) ?_
          refine lv_iconst (v := 3) hx hb dL_holds_39 (by decide) ?_
          refine r_receiptOf (rest := []) X hI hz hl.1 rfl ⟨rfl, rfl, by decide, by decide⟩ (Nat.le_of_ble_eq_true rfl) ⟨Nat.zero_le _, Nat.zero_le _⟩ dL_holds_40 (fun H locs hI => ?_)
          refine g_te (y := (m_worth (M 7) k)) (u_r3 hr hk) ?_
          refine lv_aload_n hx hb dL_holds_43 rfl (lv_at hl 6 rfl) ?_
          refine lv_bipush (v := 21) hx hb dL_holds_44 (by decide) ?_
          refine r_count (rest := [.int (m_worth (M 7) k)]) X hI hz hl.1 rfl ⟨rfl, rfl, by decide, by decide⟩ (Nat.le_of_ble_eq_true rfl) ⟨Nat.zero_le _, Nat.zero_le _⟩ dL_holds_46 (fun H locs hI => ?_)
          refine g_te (y := (M 7 1 7)) ((q_cnt_of (by decide) (by decide)).trans (u_c21 hr)) ?_
          refine lv_imul hx hb dL_holds_49 ?_
          refine lv_bipush (v := 100) hx hb dL_holds_50 (by decide) ?_
          refine lv_idiv hx hb dL_holds_52 (by decide) ?_
          refine g_te (y := (m_share (M 7) k 1)) rfl ?_
          refine lv_istore (lv' := [(7, .int (m_share (M 7) k 1)), (6, .int (M 7 1 (34 + 7 * k + 5))), (5, .int (M 7 1 (34 + 7 * k))), (4, .int (nI k)), (3, .int (u_bef (M 7) k)), (2, .int w1), (1, .int s1), (0, .ref (ad 6 0))]) hx hb dL_holds_53 hl (by decide) rfl (fun ls hl => ?_)
          refine lv_iload hx hb dL_holds_55 (lv_at hl 1 rfl) ?_
          refine lv_iload hx hb dL_holds_57 (lv_at hl 0 rfl) ?_
          refine lv_icmp_le (tgt := 70) hx hb dL_holds_59 (by decide) (fun c21 => ?_) (fun c21 => ?_)
          · skip
            refine lv_iconst (v := 0) hx hb dL_holds_70 (by decide) ?_
            refine lv_istore (lv' := [(8, .int 0), (7, .int (m_share (M 7) k 1)), (6, .int (M 7 1 (34 + 7 * k + 5))), (5, .int (M 7 1 (34 + 7 * k))), (4, .int (nI k)), (3, .int (u_bef (M 7) k)), (2, .int w1), (1, .int s1), (0, .ref (ad 6 0))]) hx hb dL_holds_71 hl (by decide) rfl (fun ls hl => ?_)
            refine lv_iload hx hb dL_holds_73 (lv_at hl 2 rfl) ?_
            refine lv_ldc (v := (-2000000004)) hx hb hown (hts _ qc_L_43) dL_holds_75 ?_
            refine lv_icmp_eq (tgt := 84) hx hb dL_holds_77 (by decide) (fun c22 => ?_) (fun c22 => ?_)
            · exact absurd c22 hln
            · skip
              refine lv_iconst (v := 1) hx hb dL_holds_80 (by decide) ?_
              refine lv_goto (tgt := 85) hx hb dL_holds_81 (by decide) ?_
              refine lv_istore (lv' := [(9, .int 1), (8, .int 0), (7, .int (m_share (M 7) k 1)), (6, .int (M 7 1 (34 + 7 * k + 5))), (5, .int (M 7 1 (34 + 7 * k))), (4, .int (nI k)), (3, .int (u_bef (M 7) k)), (2, .int w1), (1, .int s1), (0, .ref (ad 6 0))]) hx hb dL_holds_85 hl (by decide) rfl (fun ls hl => ?_)
              refine lv_iload hx hb dL_holds_87 (lv_at hl 4 rfl) ?_
              refine lv_iload_n hx hb dL_holds_89 rfl (lv_at hl 6 rfl) ?_
              refine lv_icmp_le (tgt := 211) hx hb dL_holds_90 (by decide) (fun c23 => ?_) (fun c23 => ?_)
              · exact absurd c23 (u_befI hr hk)
              · skip
                refine lv_iload hx hb dL_holds_93 (lv_at hl 4 rfl) ?_
                refine lv_aload_n hx hb dL_holds_95 rfl (lv_at hl 9 rfl) ?_
                refine lv_iconst (v := 4) hx hb dL_holds_96 (by decide) ?_
                refine r_count (rest := [.int (M 7 1 (34 + 7 * k))]) X hI hz hl.1 rfl ⟨rfl, rfl, by decide, by decide⟩ (Nat.le_of_ble_eq_true rfl) ⟨Nat.zero_le _, Nat.zero_le _⟩ dL_holds_97 (fun H locs hI => ?_)
                refine g_te (y := (M 7 1 2)) ((q_cnt_of (by decide) (by decide)).trans (u_c4 hr)) ?_
                refine lv_icmp_ge (tgt := 211) hx hb dL_holds_100 (by decide) (fun c24 => ?_) (fun c24 => ?_)
                · exact absurd c24 (u_numI hr hk)
                · skip
                  refine lv_aload_n hx hb dL_holds_103 rfl (lv_at hl 9 rfl) ?_
                  refine lv_iload hx hb dL_holds_104 (lv_at hl 4 rfl) ?_
                  refine lv_iconst (v := 3) hx hb dL_holds_106 (by decide) ?_
                  refine r_receiptOf (rest := []) X hI hz hl.1 rfl ⟨rfl, rfl, by decide, by decide⟩ (Nat.le_of_ble_eq_true rfl) ⟨Nat.zero_le _, Nat.zero_le _⟩ dL_holds_107 (fun H locs hI => ?_)
                  refine g_te (y := (m_worth (M 7) k)) (u_r3 hr hk) ?_
                  refine lv_aload_n hx hb dL_holds_110 rfl (lv_at hl 9 rfl) ?_
                  refine lv_iload hx hb dL_holds_111 (lv_at hl 4 rfl) ?_
                  refine lv_iconst (v := 2) hx hb dL_holds_113 (by decide) ?_
                  refine r_receiptOf (rest := [.int (m_worth (M 7) k)]) X hI hz hl.1 rfl ⟨rfl, rfl, by decide, by decide⟩ (Nat.le_of_ble_eq_true rfl) ⟨Nat.zero_le _, Nat.zero_le _⟩ dL_holds_114 (fun H locs hI => ?_)
                  refine g_te (y := (M 7 1 (34 + 7 * k + 3))) (u_r2 hr hk) ?_
                  refine lv_aload_n hx hb dL_holds_117 rfl (lv_at hl 9 rfl) ?_
                  refine lv_iconst (v := 2) hx hb dL_holds_118 (by decide) ?_
                  refine lv_iconst (v := 0) hx hb dL_holds_119 (by decide) ?_
                  refine r_gradeOf (rest := [.int (M 7 1 (34 + 7 * k + 3)), .int (m_worth (M 7) k)]) X hI hz hl.1 rfl ⟨rfl, rfl, by decide, by decide⟩ (Nat.le_of_ble_eq_true rfl) ⟨Nat.zero_le _, Nat.zero_le _⟩ dL_holds_120 (fun H locs hI => ?_)
                  refine g_te (y := (M 7 1 12)) (u_g20 hr) ?_
                  refine lv_imul hx hb dL_holds_123 ?_
                  refine lv_icmp_ne (tgt := 211) hx hb dL_holds_124 (by decide) (fun c25 => ?_) (fun c25 => ?_)
                  · exact absurd rfl c25
                  · skip
                    refine lv_aload_n hx hb dL_holds_127 rfl (lv_at hl 9 rfl) ?_
                    refine lv_iload hx hb dL_holds_128 (lv_at hl 4 rfl) ?_
                    refine lv_bipush (v := 7) hx hb dL_holds_130 (by decide) ?_
                    refine r_receiptOf (rest := []) X hI hz hl.1 rfl ⟨rfl, rfl, by decide, by decide⟩ (Nat.le_of_ble_eq_true rfl) ⟨Nat.zero_le _, Nat.zero_le _⟩ dL_holds_132 (fun H locs hI => ?_)
                    refine g_te (y := (m_share (M 7) k 0)) (u_r7 hr hk) ?_
                    refine lv_aload_n hx hb dL_holds_135 rfl (lv_at hl 9 rfl) ?_
                    refine lv_iload hx hb dL_holds_136 (lv_at hl 4 rfl) ?_
                    refine lv_iconst (v := 3) hx hb dL_holds_138 (by decide) ?_
                    refine r_receiptOf (rest := [.int (m_share (M 7) k 0)]) X hI hz hl.1 rfl ⟨rfl, rfl, by decide, by decide⟩ (Nat.le_of_ble_eq_true rfl) ⟨Nat.zero_le _, Nat.zero_le _⟩ dL_holds_139 (fun H locs hI => ?_)
                    refine g_te (y := (m_worth (M 7) k)) (u_r3 hr hk) ?_
                    refine lv_aload_n hx hb dL_holds_142 rfl (lv_at hl 9 rfl) ?_
                    refine lv_bipush (v := 20) hx hb dL_holds_143 (by decide) ?_
                    refine r_count (rest := [.int (m_worth (M 7) k), .int (m_share (M 7) k 0)]) X hI hz hl.1 rfl ⟨rfl, rfl, by decide, by decide⟩ (Nat.le_of_ble_eq_true rfl) ⟨Nat.zero_le _, Nat.zero_le _⟩ dL_holds_145 (fun H locs hI => ?_)
                    refine g_te (y := (M 7 1 6)) ((q_cnt_of (by decide) (by decide)).trans (u_c20 hr)) ?_
                    refine lv_imul hx hb dL_holds_148 ?_
                    refine lv_bipush (v := 100) hx hb dL_holds_149 (by decide) ?_
                    refine lv_idiv hx hb dL_holds_151 (by decide) ?_
                    refine lv_icmp_ne (tgt := 211) hx hb dL_holds_152 (by decide) (fun c26 => ?_) (fun c26 => ?_)
                    · exact absurd rfl c26
                    · skip
                      refine lv_aload_n hx hb dL_holds_155 rfl (lv_at hl 9 rfl) ?_
                      refine lv_iload hx hb dL_holds_156 (lv_at hl 4 rfl) ?_
                      refine lv_bipush (v := 8) hx hb dL_holds_158 (by decide) ?_
                      refine r_receiptOf (rest := []) X hI hz hl.1 rfl ⟨rfl, rfl, by decide, by decide⟩ (Nat.le_of_ble_eq_true rfl) ⟨Nat.zero_le _, Nat.zero_le _⟩ dL_holds_160 (fun H locs hI => ?_)
                      refine g_te (y := 0) ((u_r8 hr hk).trans (if_neg (fun z => z c21))) ?_
                      refine lv_iload hx hb dL_holds_163 (lv_at hl 1 rfl) ?_
                      refine lv_icmp_ne (tgt := 211) hx hb dL_holds_165 (by decide) (fun c27 => absurd c27 (by decide)) (fun _ => ?_)
                      refine lv_iload hx hb dL_holds_168 (lv_at hl 0 rfl) ?_
                      refine lv_aload_n hx hb dL_holds_170 rfl (lv_at hl 9 rfl) ?_
                      refine lv_iload hx hb dL_holds_171 (lv_at hl 4 rfl) ?_
                      refine lv_iconst (v := 4) hx hb dL_holds_173 (by decide) ?_
                      refine r_receiptOf (rest := [.int 1]) X hI hz hl.1 rfl ⟨rfl, rfl, by decide, by decide⟩ (Nat.le_of_ble_eq_true rfl) ⟨Nat.zero_le _, Nat.zero_le _⟩ dL_holds_174 (fun H locs hI => ?_)
                      refine g_te (y := (M 7 1 (34 + 7 * k + 4))) ((u_r4 hr hk).trans (if_pos hp)) ?_
                      refine lv_ldc (v := (-2000000004)) hx hb hown (hts _ qc_L_43) dL_holds_177 ?_
                      refine lv_icmp_eq (tgt := 186) hx hb dL_holds_179 (by decide) (fun c28 => ?_) (fun c28 => ?_)
                      · exact absurd c28 hle
                      · skip
                        refine lv_iconst (v := 1) hx hb dL_holds_182 (by decide) ?_
                        refine lv_goto (tgt := 187) hx hb dL_holds_183 (by decide) ?_
                        refine lv_icmp_ne (tgt := 211) hx hb dL_holds_187 (by decide) (fun c29 => absurd c29 (by decide)) (fun _ => ?_)
                        refine lv_aload_n hx hb dL_holds_190 rfl (lv_at hl 9 rfl) ?_
                        refine lv_iload hx hb dL_holds_191 (lv_at hl 4 rfl) ?_
                        refine lv_bipush (v := 9) hx hb dL_holds_193 (by decide) ?_
                        refine r_receiptOf (rest := []) X hI hz hl.1 rfl ⟨rfl, rfl, by decide, by decide⟩ (Nat.le_of_ble_eq_true rfl) ⟨Nat.zero_le _, Nat.zero_le _⟩ dL_holds_195 (fun H locs hI => ?_)
                        refine g_te (y := ((FP.fdiv (FP.i2f (M 7 1 (34 + 7 * k + 5))) (FP.i2f (m_worth (M 7) k))).toInt32)) (u_r9 hr hk) ?_
                        refine lv_if_ne (tgt := 205) hx hb dL_holds_198 (by decide) (fun c30 => ?_) (fun c30 => ?_)
                        · skip
                          refine lv_iconst (v := 0) hx hb dL_holds_205 (by decide) ?_
                          refine lv_iload hx hb dL_holds_206 (lv_at hl 0 rfl) ?_
                          refine lv_icmp_ne (tgt := 213) hx hb dL_holds_208 (by decide) (fun _ => ?_) (fun c31 => absurd c31 (by decide))
                          refine lv_iload hx hb dL_holds_213 (lv_at hl 4 rfl) ?_
                          refine lv_istore_n (lv' := [(3, .int (M 7 1 (34 + 7 * k))), (9, .int 1), (8, .int 0), (7, .int (m_share (M 7) k 1)), (6, .int (M 7 1 (34 + 7 * k + 5))), (5, .int (M 7 1 (34 + 7 * k))), (4, .int (nI k)), (2, .int w1), (1, .int s1), (0, .ref (ad 6 0))]) hx hb dL_holds_215 rfl hl (by decide) rfl (fun ls hl => ?_)
                          refine lv_iload_n hx hb dL_holds_216 rfl (lv_at hl 8 rfl) ?_
                          refine lv_aload_n hx hb dL_holds_217 rfl (lv_at hl 9 rfl) ?_
                          refine lv_iload hx hb dL_holds_218 (lv_at hl 5 rfl) ?_
                          refine lv_iconst (v := 2) hx hb dL_holds_220 (by decide) ?_
                          refine r_receiptOf (rest := [.int s1]) X hI hz hl.1 rfl ⟨rfl, rfl, by decide, by decide⟩ (Nat.le_of_ble_eq_true rfl) ⟨Nat.zero_le _, Nat.zero_le _⟩ dL_holds_221 (fun H locs hI => ?_)
                          refine g_te (y := (M 7 1 (34 + 7 * k + 3))) (u_r2 hr hk) ?_
                          refine lv_iadd hx hb dL_holds_224 ?_
                          refine lv_istore_n (lv' := [(1, .int (s1 + (M 7 1 (34 + 7 * k + 3)))), (3, .int (M 7 1 (34 + 7 * k))), (9, .int 1), (8, .int 0), (7, .int (m_share (M 7) k 1)), (6, .int (M 7 1 (34 + 7 * k + 5))), (5, .int (M 7 1 (34 + 7 * k))), (4, .int (nI k)), (2, .int w1), (0, .ref (ad 6 0))]) hx hb dL_holds_225 rfl hl (by decide) rfl (fun ls hl => ?_)
                          refine lv_iload_n hx hb dL_holds_226 rfl (lv_at hl 8 rfl) ?_
                          refine lv_iload hx hb dL_holds_227 (lv_at hl 2 rfl) ?_
                          refine lv_if_eq (tgt := 242) hx hb dL_holds_229 (by decide) (fun c32 => absurd c32 (by decide)) (fun _ => ?_)
                          refine lv_aload_n hx hb dL_holds_232 rfl (lv_at hl 9 rfl) ?_
                          refine lv_iload hx hb dL_holds_233 (lv_at hl 6 rfl) ?_
                          refine lv_iconst (v := 3) hx hb dL_holds_235 (by decide) ?_
                          refine r_receiptOf (rest := [.int w1]) X hI hz hl.1 rfl ⟨rfl, rfl, by decide, by decide⟩ (Nat.le_of_ble_eq_true rfl) ⟨Nat.zero_le _, Nat.zero_le _⟩ dL_holds_236 (fun H locs hI => ?_)
                          refine g_te (y := (m_worth (M 7) k)) (u_r3 hr hk) ?_
                          refine lv_goto (tgt := 243) hx hb dL_holds_239 (by decide) ?_
                          refine lv_iadd hx hb dL_holds_243 ?_
                          refine lv_istore_n (lv' := [(2, .int (w1 + (m_worth (M 7) k))), (1, .int (s1 + (M 7 1 (34 + 7 * k + 3)))), (3, .int (M 7 1 (34 + 7 * k))), (9, .int 1), (8, .int 0), (7, .int (m_share (M 7) k 1)), (6, .int (M 7 1 (34 + 7 * k + 5))), (5, .int (M 7 1 (34 + 7 * k))), (4, .int (nI k)), (0, .ref (ad 6 0))]) hx hb dL_holds_244 rfl hl (by decide) rfl (fun ls hl => ?_)
                          refine lv_iinc (v := nI (k + 1)) (lv' := [(4, .int (nI (k + 1))), (2, .int (w1 + (m_worth (M 7) k))), (1, .int (s1 + (M 7 1 (34 + 7 * k + 3)))), (3, .int (M 7 1 (34 + 7 * k))), (9, .int 1), (8, .int 0), (7, .int (m_share (M 7) k 1)), (6, .int (M 7 1 (34 + 7 * k + 5))), (5, .int (M 7 1 (34 + 7 * k))), (0, .ref (ad 6 0))]) hx hb dL_holds_245 hl (k := 8) rfl (nI_1 _) (by decide) rfl (fun ls hl => ?_)
                          refine lv_goto (tgt := 9) hx hb dL_holds_248 (by decide) ?_
                          rw [show M 7 1 (34 + 7 * k) = u_bef (M 7) (k + 1) from rfl] at hl
                          exact ih (k + 1) _ _ (by omega) (by omega) (by rw [k_sum, ← hs]) (by rw [k_sum, ← hw, if_pos hp]) _ _ _ hI (lv_sub hl [0, 3, 1, 2, 9] rfl)
                        · exact absurd hp ((u_bits hr hv hk).mp c30)
          · skip
            refine lv_iload hx hb dL_holds_62 (lv_at hl 1 rfl) ?_
            refine lv_iload hx hb dL_holds_64 (lv_at hl 0 rfl) ?_
            refine lv_isub hx hb dL_holds_66 ?_
            refine lv_goto (tgt := 71) hx hb dL_holds_67 (by decide) ?_
            refine lv_istore (lv' := [(8, .int ((M 7 1 (34 + 7 * k + 5)) - (m_share (M 7) k 1))), (7, .int (m_share (M 7) k 1)), (6, .int (M 7 1 (34 + 7 * k + 5))), (5, .int (M 7 1 (34 + 7 * k))), (4, .int (nI k)), (3, .int (u_bef (M 7) k)), (2, .int w1), (1, .int s1), (0, .ref (ad 6 0))]) hx hb dL_holds_71 hl (by decide) rfl (fun ls hl => ?_)
            refine lv_iload hx hb dL_holds_73 (lv_at hl 2 rfl) ?_
            refine lv_ldc (v := (-2000000004)) hx hb hown (hts _ qc_L_43) dL_holds_75 ?_
            refine lv_icmp_eq (tgt := 84) hx hb dL_holds_77 (by decide) (fun c33 => ?_) (fun c33 => ?_)
            · exact absurd c33 hln
            · skip
              refine lv_iconst (v := 1) hx hb dL_holds_80 (by decide) ?_
              refine lv_goto (tgt := 85) hx hb dL_holds_81 (by decide) ?_
              refine lv_istore (lv' := [(9, .int 1), (8, .int ((M 7 1 (34 + 7 * k + 5)) - (m_share (M 7) k 1))), (7, .int (m_share (M 7) k 1)), (6, .int (M 7 1 (34 + 7 * k + 5))), (5, .int (M 7 1 (34 + 7 * k))), (4, .int (nI k)), (3, .int (u_bef (M 7) k)), (2, .int w1), (1, .int s1), (0, .ref (ad 6 0))]) hx hb dL_holds_85 hl (by decide) rfl (fun ls hl => ?_)
              refine lv_iload hx hb dL_holds_87 (lv_at hl 4 rfl) ?_
              refine lv_iload_n hx hb dL_holds_89 rfl (lv_at hl 6 rfl) ?_
              refine lv_icmp_le (tgt := 211) hx hb dL_holds_90 (by decide) (fun c34 => ?_) (fun c34 => ?_)
              · exact absurd c34 (u_befI hr hk)
              · skip
                refine lv_iload hx hb dL_holds_93 (lv_at hl 4 rfl) ?_
                refine lv_aload_n hx hb dL_holds_95 rfl (lv_at hl 9 rfl) ?_
                refine lv_iconst (v := 4) hx hb dL_holds_96 (by decide) ?_
                refine r_count (rest := [.int (M 7 1 (34 + 7 * k))]) X hI hz hl.1 rfl ⟨rfl, rfl, by decide, by decide⟩ (Nat.le_of_ble_eq_true rfl) ⟨Nat.zero_le _, Nat.zero_le _⟩ dL_holds_97 (fun H locs hI => ?_)
                refine g_te (y := (M 7 1 2)) ((q_cnt_of (by decide) (by decide)).trans (u_c4 hr)) ?_
                refine lv_icmp_ge (tgt := 211) hx hb dL_holds_100 (by decide) (fun c35 => ?_) (fun c35 => ?_)
                · exact absurd c35 (u_numI hr hk)
                · skip
                  refine lv_aload_n hx hb dL_holds_103 rfl (lv_at hl 9 rfl) ?_
                  refine lv_iload hx hb dL_holds_104 (lv_at hl 4 rfl) ?_
                  refine lv_iconst (v := 3) hx hb dL_holds_106 (by decide) ?_
                  refine r_receiptOf (rest := []) X hI hz hl.1 rfl ⟨rfl, rfl, by decide, by decide⟩ (Nat.le_of_ble_eq_true rfl) ⟨Nat.zero_le _, Nat.zero_le _⟩ dL_holds_107 (fun H locs hI => ?_)
                  refine g_te (y := (m_worth (M 7) k)) (u_r3 hr hk) ?_
                  refine lv_aload_n hx hb dL_holds_110 rfl (lv_at hl 9 rfl) ?_
                  refine lv_iload hx hb dL_holds_111 (lv_at hl 4 rfl) ?_
                  refine lv_iconst (v := 2) hx hb dL_holds_113 (by decide) ?_
                  refine r_receiptOf (rest := [.int (m_worth (M 7) k)]) X hI hz hl.1 rfl ⟨rfl, rfl, by decide, by decide⟩ (Nat.le_of_ble_eq_true rfl) ⟨Nat.zero_le _, Nat.zero_le _⟩ dL_holds_114 (fun H locs hI => ?_)
                  refine g_te (y := (M 7 1 (34 + 7 * k + 3))) (u_r2 hr hk) ?_
                  refine lv_aload_n hx hb dL_holds_117 rfl (lv_at hl 9 rfl) ?_
                  refine lv_iconst (v := 2) hx hb dL_holds_118 (by decide) ?_
                  refine lv_iconst (v := 0) hx hb dL_holds_119 (by decide) ?_
                  refine r_gradeOf (rest := [.int (M 7 1 (34 + 7 * k + 3)), .int (m_worth (M 7) k)]) X hI hz hl.1 rfl ⟨rfl, rfl, by decide, by decide⟩ (Nat.le_of_ble_eq_true rfl) ⟨Nat.zero_le _, Nat.zero_le _⟩ dL_holds_120 (fun H locs hI => ?_)
                  refine g_te (y := (M 7 1 12)) (u_g20 hr) ?_
                  refine lv_imul hx hb dL_holds_123 ?_
                  refine lv_icmp_ne (tgt := 211) hx hb dL_holds_124 (by decide) (fun c36 => ?_) (fun c36 => ?_)
                  · exact absurd rfl c36
                  · skip
                    refine lv_aload_n hx hb dL_holds_127 rfl (lv_at hl 9 rfl) ?_
                    refine lv_iload hx hb dL_holds_128 (lv_at hl 4 rfl) ?_
                    refine lv_bipush (v := 7) hx hb dL_holds_130 (by decide) ?_
                    refine r_receiptOf (rest := []) X hI hz hl.1 rfl ⟨rfl, rfl, by decide, by decide⟩ (Nat.le_of_ble_eq_true rfl) ⟨Nat.zero_le _, Nat.zero_le _⟩ dL_holds_132 (fun H locs hI => ?_)
                    refine g_te (y := (m_share (M 7) k 0)) (u_r7 hr hk) ?_
                    refine lv_aload_n hx hb dL_holds_135 rfl (lv_at hl 9 rfl) ?_
                    refine lv_iload hx hb dL_holds_136 (lv_at hl 4 rfl) ?_
                    refine lv_iconst (v := 3) hx hb dL_holds_138 (by decide) ?_
                    refine r_receiptOf (rest := [.int (m_share (M 7) k 0)]) X hI hz hl.1 rfl ⟨rfl, rfl, by decide, by decide⟩ (Nat.le_of_ble_eq_true rfl) ⟨Nat.zero_le _, Nat.zero_le _⟩ dL_holds_139 (fun H locs hI => ?_)
                    refine g_te (y := (m_worth (M 7) k)) (u_r3 hr hk) ?_
                    refine lv_aload_n hx hb dL_holds_142 rfl (lv_at hl 9 rfl) ?_
                    refine lv_bipush (v := 20) hx hb dL_holds_143 (by decide) ?_
                    refine r_count (rest := [.int (m_worth (M 7) k), .int (m_share (M 7) k 0)]) X hI hz hl.1 rfl ⟨rfl, rfl, by decide, by decide⟩ (Nat.le_of_ble_eq_true rfl) ⟨Nat.zero_le _, Nat.zero_le _⟩ dL_holds_145 (fun H locs hI => ?_)
                    refine g_te (y := (M 7 1 6)) ((q_cnt_of (by decide) (by decide)).trans (u_c20 hr)) ?_
                    refine lv_imul hx hb dL_holds_148 ?_
                    refine lv_bipush (v := 100) hx hb dL_holds_149 (by decide) ?_
                    refine lv_idiv hx hb dL_holds_151 (by decide) ?_
                    refine lv_icmp_ne (tgt := 211) hx hb dL_holds_152 (by decide) (fun c37 => ?_) (fun c37 => ?_)
                    · exact absurd rfl c37
                    · skip
                      refine lv_aload_n hx hb dL_holds_155 rfl (lv_at hl 9 rfl) ?_
                      refine lv_iload hx hb dL_holds_156 (lv_at hl 4 rfl) ?_
                      refine lv_bipush (v := 8) hx hb dL_holds_158 (by decide) ?_
                      refine r_receiptOf (rest := []) X hI hz hl.1 rfl ⟨rfl, rfl, by decide, by decide⟩ (Nat.le_of_ble_eq_true rfl) ⟨Nat.zero_le _, Nat.zero_le _⟩ dL_holds_160 (fun H locs hI => ?_)
                      refine g_te (y := (M 7 1 (34 + 7 * k + 5) - m_share (M 7) k 1)) ((u_r8 hr hk).trans (if_pos c21)) ?_
                      refine lv_iload hx hb dL_holds_163 (lv_at hl 1 rfl) ?_
                      refine lv_icmp_ne (tgt := 211) hx hb dL_holds_165 (by decide) (fun c38 => ?_) (fun c38 => ?_)
                      · exact absurd rfl c38
                      · skip
                        refine lv_iload hx hb dL_holds_168 (lv_at hl 0 rfl) ?_
                        refine lv_aload_n hx hb dL_holds_170 rfl (lv_at hl 9 rfl) ?_
                        refine lv_iload hx hb dL_holds_171 (lv_at hl 4 rfl) ?_
                        refine lv_iconst (v := 4) hx hb dL_holds_173 (by decide) ?_
                        refine r_receiptOf (rest := [.int 1]) X hI hz hl.1 rfl ⟨rfl, rfl, by decide, by decide⟩ (Nat.le_of_ble_eq_true rfl) ⟨Nat.zero_le _, Nat.zero_le _⟩ dL_holds_174 (fun H locs hI => ?_)
                        refine g_te (y := (M 7 1 (34 + 7 * k + 4))) ((u_r4 hr hk).trans (if_pos hp)) ?_
                        refine lv_ldc (v := (-2000000004)) hx hb hown (hts _ qc_L_43) dL_holds_177 ?_
                        refine lv_icmp_eq (tgt := 186) hx hb dL_holds_179 (by decide) (fun c39 => ?_) (fun c39 => ?_)
                        · exact absurd c39 hle
                        · skip
                          refine lv_iconst (v := 1) hx hb dL_holds_182 (by decide) ?_
                          refine lv_goto (tgt := 187) hx hb dL_holds_183 (by decide) ?_
                          refine lv_icmp_ne (tgt := 211) hx hb dL_holds_187 (by decide) (fun c40 => absurd c40 (by decide)) (fun _ => ?_)
                          refine lv_aload_n hx hb dL_holds_190 rfl (lv_at hl 9 rfl) ?_
                          refine lv_iload hx hb dL_holds_191 (lv_at hl 4 rfl) ?_
                          refine lv_bipush (v := 9) hx hb dL_holds_193 (by decide) ?_
                          refine r_receiptOf (rest := []) X hI hz hl.1 rfl ⟨rfl, rfl, by decide, by decide⟩ (Nat.le_of_ble_eq_true rfl) ⟨Nat.zero_le _, Nat.zero_le _⟩ dL_holds_195 (fun H locs hI => ?_)
                          refine g_te (y := ((FP.fdiv (FP.i2f (M 7 1 (34 + 7 * k + 5))) (FP.i2f (m_worth (M 7) k))).toInt32)) (u_r9 hr hk) ?_
                          refine lv_if_ne (tgt := 205) hx hb dL_holds_198 (by decide) (fun c41 => ?_) (fun c41 => ?_)
                          · skip
                            refine lv_iconst (v := 0) hx hb dL_holds_205 (by decide) ?_
                            refine lv_iload hx hb dL_holds_206 (lv_at hl 0 rfl) ?_
                            refine lv_icmp_ne (tgt := 213) hx hb dL_holds_208 (by decide) (fun _ => ?_) (fun c42 => absurd c42 (by decide))
                            refine lv_iload hx hb dL_holds_213 (lv_at hl 4 rfl) ?_
                            refine lv_istore_n (lv' := [(3, .int (M 7 1 (34 + 7 * k))), (9, .int 1), (8, .int ((M 7 1 (34 + 7 * k + 5)) - (m_share (M 7) k 1))), (7, .int (m_share (M 7) k 1)), (6, .int (M 7 1 (34 + 7 * k + 5))), (5, .int (M 7 1 (34 + 7 * k))), (4, .int (nI k)), (2, .int w1), (1, .int s1), (0, .ref (ad 6 0))]) hx hb dL_holds_215 rfl hl (by decide) rfl (fun ls hl => ?_)
                            refine lv_iload_n hx hb dL_holds_216 rfl (lv_at hl 8 rfl) ?_
                            refine lv_aload_n hx hb dL_holds_217 rfl (lv_at hl 9 rfl) ?_
                            refine lv_iload hx hb dL_holds_218 (lv_at hl 5 rfl) ?_
                            refine lv_iconst (v := 2) hx hb dL_holds_220 (by decide) ?_
                            refine r_receiptOf (rest := [.int s1]) X hI hz hl.1 rfl ⟨rfl, rfl, by decide, by decide⟩ (Nat.le_of_ble_eq_true rfl) ⟨Nat.zero_le _, Nat.zero_le _⟩ dL_holds_221 (fun H locs hI => ?_)
                            refine g_te (y := (M 7 1 (34 + 7 * k + 3))) (u_r2 hr hk) ?_
                            refine lv_iadd hx hb dL_holds_224 ?_
                            refine lv_istore_n (lv' := [(1, .int (s1 + (M 7 1 (34 + 7 * k + 3)))), (3, .int (M 7 1 (34 + 7 * k))), (9, .int 1), (8, .int ((M 7 1 (34 + 7 * k + 5)) - (m_share (M 7) k 1))), (7, .int (m_share (M 7) k 1)), (6, .int (M 7 1 (34 + 7 * k + 5))), (5, .int (M 7 1 (34 + 7 * k))), (4, .int (nI k)), (2, .int w1), (0, .ref (ad 6 0))]) hx hb dL_holds_225 rfl hl (by decide) rfl (fun ls hl => ?_)
                            refine lv_iload_n hx hb dL_holds_226 rfl (lv_at hl 8 rfl) ?_
                            refine lv_iload hx hb dL_holds_227 (lv_at hl 2 rfl) ?_
                            refine lv_if_eq (tgt := 242) hx hb dL_holds_229 (by decide) (fun c43 => absurd c43 (by decide)) (fun _ => ?_)
                            refine lv_aload_n hx hb dL_holds_232 rfl (lv_at hl 9 rfl) ?_
                            refine lv_iload hx hb dL_holds_233 (lv_at hl 6 rfl) ?_
                            refine lv_iconst (v := 3) hx hb dL_holds_235 (by decide) ?_
                            refine r_receiptOf (rest := [.int w1]) X hI hz hl.1 rfl ⟨rfl, rfl, by decide, by decide⟩ (Nat.le_of_ble_eq_true rfl) ⟨Nat.zero_le _, Nat.zero_le _⟩ dL_holds_236 (fun H locs hI => ?_)
                            refine g_te (y := (m_worth (M 7) k)) (u_r3 hr hk) ?_
                            refine lv_goto (tgt := 243) hx hb dL_holds_239 (by decide) ?_
                            refine lv_iadd hx hb dL_holds_243 ?_
                            refine lv_istore_n (lv' := [(2, .int (w1 + (m_worth (M 7) k))), (1, .int (s1 + (M 7 1 (34 + 7 * k + 3)))), (3, .int (M 7 1 (34 + 7 * k))), (9, .int 1), (8, .int ((M 7 1 (34 + 7 * k + 5)) - (m_share (M 7) k 1))), (7, .int (m_share (M 7) k 1)), (6, .int (M 7 1 (34 + 7 * k + 5))), (5, .int (M 7 1 (34 + 7 * k))), (4, .int (nI k)), (0, .ref (ad 6 0))]) hx hb dL_holds_244 rfl hl (by decide) rfl (fun ls hl => ?_)
                            refine lv_iinc (v := nI (k + 1)) (lv' := [(4, .int (nI (k + 1))), (2, .int (w1 + (m_worth (M 7) k))), (1, .int (s1 + (M 7 1 (34 + 7 * k + 3)))), (3, .int (M 7 1 (34 + 7 * k))), (9, .int 1), (8, .int ((M 7 1 (34 + 7 * k + 5)) - (m_share (M 7) k 1))), (7, .int (m_share (M 7) k 1)), (6, .int (M 7 1 (34 + 7 * k + 5))), (5, .int (M 7 1 (34 + 7 * k))), (0, .ref (ad 6 0))]) hx hb dL_holds_245 hl (k := 8) rfl (nI_1 _) (by decide) rfl (fun ls hl => ?_)
                            refine lv_goto (tgt := 9) hx hb dL_holds_248 (by decide) ?_
                            rw [show M 7 1 (34 + 7 * k) = u_bef (M 7) (k + 1) from rfl] at hl
                            exact ih (k + 1) _ _ (by omega) (by omega) (by rw [k_sum, ← hs]) (by rw [k_sum, ← hw, if_pos hp]) _ _ _ hI (lv_sub hl [0, 3, 1, 2, 9] rfl)
                          · exact absurd hp ((u_bits hr hv hk).mp c41)
        · have hl0 : M 7 1 (34 + 7 * k + 5) = 0 := by rcases u_v hr hv hk with z | z; exact z.2; exact absurd z.1 hp
          have hs0 : (0 : Int32) ≤ m_share (M 7) k 1 := by rw [Int32.le_iff_toInt_le, z_i0]; exact u_share0 hr hk
          have hns : (-2000000004 : Int32) ≤ m_share (M 7) k 1 := by have := u_share0 hr hk; rw [Int32.le_iff_toInt_le]; show (-2000000004 : Int) ≤ _; omega
          refine lv_aload_n hx hb dL_holds_19 rfl (lv_at hl 4 rfl) ?_
          refine lv_iload hx hb dL_holds_20 (lv_at hl 0 rfl) ?_
          refine r_receipt (rest := []) X hI hz hl.1 rfl ⟨rfl, rfl, by decide, by decide⟩ (Nat.le_of_ble_eq_true rfl) ⟨Nat.zero_le _, Nat.zero_le _⟩ dL_holds_22 (fun H locs hI => ?_)
          refine g_te (y := (M 7 1 (34 + 7 * k))) (u_num hr hk) ?_
          refine lv_istore (lv' := [(5, .int (M 7 1 (34 + 7 * k))), (4, .int (nI k)), (3, .int (u_bef (M 7) k)), (2, .int w1), (1, .int s1), (0, .ref (ad 6 0))]) hx hb dL_holds_25 hl (by decide) rfl (fun ls hl => ?_)
          refine lv_aload_n hx hb dL_holds_27 rfl (lv_at hl 5 rfl) ?_
          refine lv_iload hx hb dL_holds_28 (lv_at hl 0 rfl) ?_
          refine lv_iconst (v := 5) hx hb dL_holds_30 (by decide) ?_
          refine r_receiptOf (rest := []) X hI hz hl.1 rfl ⟨rfl, rfl, by decide, by decide⟩ (Nat.le_of_ble_eq_true rfl) ⟨Nat.zero_le _, Nat.zero_le _⟩ dL_holds_31 (fun H locs hI => ?_)
          refine g_te (y := (-2000000004)) ((u_r5 hr hk).trans (if_neg hp)) ?_
          refine lv_istore (lv' := [(6, .int (-2000000004)), (5, .int (M 7 1 (34 + 7 * k))), (4, .int (nI k)), (3, .int (u_bef (M 7) k)), (2, .int w1), (1, .int s1), (0, .ref (ad 6 0))]) hx hb dL_holds_34 hl (by decide) rfl (fun ls hl => ?_)
          refine lv_aload_n hx hb dL_holds_36 rfl (lv_at hl 6 rfl) ?_
          refine lv_iload hx hb dL_holds_37 (lv_at hl 1 rfl) ?_
          refine lv_iconst (v := 3) hx hb dL_holds_39 (by decide) ?_
          refine r_receiptOf (rest := []) X hI hz hl.1 rfl ⟨rfl, rfl, by decide, by decide⟩ (Nat.le_of_ble_eq_true rfl) ⟨Nat.zero_le _, Nat.zero_le _⟩ dL_holds_40 (fun H locs hI => ?_)
          refine g_te (y := (m_worth (M 7) k)) (u_r3 hr hk) ?_
          refine lv_aload_n hx hb dL_holds_43 rfl (lv_at hl 6 rfl) ?_
          refine lv_bipush (v := 21) hx hb dL_holds_44 (by decide) ?_
          refine r_count (rest := [.int (m_worth (M 7) k)]) X hI hz hl.1 rfl ⟨rfl, rfl, by decide, by decide⟩ (Nat.le_of_ble_eq_true rfl) ⟨Nat.zero_le _, Nat.zero_le _⟩ dL_holds_46 (fun H locs hI => ?_)
          refine g_te (y := (M 7 1 7)) ((q_cnt_of (by decide) (by decide)).trans (u_c21 hr)) ?_
          refine lv_imul hx hb dL_holds_49 ?_
          refine lv_bipush (v := 100) hx hb dL_holds_50 (by decide) ?_
          refine lv_idiv hx hb dL_holds_52 (by decide) ?_
          refine g_te (y := (m_share (M 7) k 1)) rfl ?_
          refine lv_istore (lv' := [(7, .int (m_share (M 7) k 1)), (6, .int (-2000000004)), (5, .int (M 7 1 (34 + 7 * k))), (4, .int (nI k)), (3, .int (u_bef (M 7) k)), (2, .int w1), (1, .int s1), (0, .ref (ad 6 0))]) hx hb dL_holds_53 hl (by decide) rfl (fun ls hl => ?_)
          refine lv_iload hx hb dL_holds_55 (lv_at hl 1 rfl) ?_
          refine lv_iload hx hb dL_holds_57 (lv_at hl 0 rfl) ?_
          refine lv_icmp_le (tgt := 70) hx hb dL_holds_59 (by decide) (fun c21 => ?_) (fun c21 => ?_)
          · skip
            refine lv_iconst (v := 0) hx hb dL_holds_70 (by decide) ?_
            refine lv_istore (lv' := [(8, .int 0), (7, .int (m_share (M 7) k 1)), (6, .int (-2000000004)), (5, .int (M 7 1 (34 + 7 * k))), (4, .int (nI k)), (3, .int (u_bef (M 7) k)), (2, .int w1), (1, .int s1), (0, .ref (ad 6 0))]) hx hb dL_holds_71 hl (by decide) rfl (fun ls hl => ?_)
            refine lv_iload hx hb dL_holds_73 (lv_at hl 2 rfl) ?_
            refine lv_ldc (v := (-2000000004)) hx hb hown (hts _ qc_L_43) dL_holds_75 ?_
            refine lv_icmp_eq (tgt := 84) hx hb dL_holds_77 (by decide) (fun _ => ?_) (fun c22 => absurd c22 (by decide))
            refine lv_iconst (v := 0) hx hb dL_holds_84 (by decide) ?_
            refine lv_istore (lv' := [(9, .int 0), (8, .int 0), (7, .int (m_share (M 7) k 1)), (6, .int (-2000000004)), (5, .int (M 7 1 (34 + 7 * k))), (4, .int (nI k)), (3, .int (u_bef (M 7) k)), (2, .int w1), (1, .int s1), (0, .ref (ad 6 0))]) hx hb dL_holds_85 hl (by decide) rfl (fun ls hl => ?_)
            refine lv_iload hx hb dL_holds_87 (lv_at hl 4 rfl) ?_
            refine lv_iload_n hx hb dL_holds_89 rfl (lv_at hl 6 rfl) ?_
            refine lv_icmp_le (tgt := 211) hx hb dL_holds_90 (by decide) (fun c23 => ?_) (fun c23 => ?_)
            · exact absurd c23 (u_befI hr hk)
            · skip
              refine lv_iload hx hb dL_holds_93 (lv_at hl 4 rfl) ?_
              refine lv_aload_n hx hb dL_holds_95 rfl (lv_at hl 9 rfl) ?_
              refine lv_iconst (v := 4) hx hb dL_holds_96 (by decide) ?_
              refine r_count (rest := [.int (M 7 1 (34 + 7 * k))]) X hI hz hl.1 rfl ⟨rfl, rfl, by decide, by decide⟩ (Nat.le_of_ble_eq_true rfl) ⟨Nat.zero_le _, Nat.zero_le _⟩ dL_holds_97 (fun H locs hI => ?_)
              refine g_te (y := (M 7 1 2)) ((q_cnt_of (by decide) (by decide)).trans (u_c4 hr)) ?_
              refine lv_icmp_ge (tgt := 211) hx hb dL_holds_100 (by decide) (fun c24 => ?_) (fun c24 => ?_)
              · exact absurd c24 (u_numI hr hk)
              · skip
                refine lv_aload_n hx hb dL_holds_103 rfl (lv_at hl 9 rfl) ?_
                refine lv_iload hx hb dL_holds_104 (lv_at hl 4 rfl) ?_
                refine lv_iconst (v := 3) hx hb dL_holds_106 (by decide) ?_
                refine r_receiptOf (rest := []) X hI hz hl.1 rfl ⟨rfl, rfl, by decide, by decide⟩ (Nat.le_of_ble_eq_true rfl) ⟨Nat.zero_le _, Nat.zero_le _⟩ dL_holds_107 (fun H locs hI => ?_)
                refine g_te (y := (m_worth (M 7) k)) (u_r3 hr hk) ?_
                refine lv_aload_n hx hb dL_holds_110 rfl (lv_at hl 9 rfl) ?_
                refine lv_iload hx hb dL_holds_111 (lv_at hl 4 rfl) ?_
                refine lv_iconst (v := 2) hx hb dL_holds_113 (by decide) ?_
                refine r_receiptOf (rest := [.int (m_worth (M 7) k)]) X hI hz hl.1 rfl ⟨rfl, rfl, by decide, by decide⟩ (Nat.le_of_ble_eq_true rfl) ⟨Nat.zero_le _, Nat.zero_le _⟩ dL_holds_114 (fun H locs hI => ?_)
                refine g_te (y := (M 7 1 (34 + 7 * k + 3))) (u_r2 hr hk) ?_
                refine lv_aload_n hx hb dL_holds_117 rfl (lv_at hl 9 rfl) ?_
                refine lv_iconst (v := 2) hx hb dL_holds_118 (by decide) ?_
                refine lv_iconst (v := 0) hx hb dL_holds_119 (by decide) ?_
                refine r_gradeOf (rest := [.int (M 7 1 (34 + 7 * k + 3)), .int (m_worth (M 7) k)]) X hI hz hl.1 rfl ⟨rfl, rfl, by decide, by decide⟩ (Nat.le_of_ble_eq_true rfl) ⟨Nat.zero_le _, Nat.zero_le _⟩ dL_holds_120 (fun H locs hI => ?_)
                refine g_te (y := (M 7 1 12)) (u_g20 hr) ?_
                refine lv_imul hx hb dL_holds_123 ?_
                refine lv_icmp_ne (tgt := 211) hx hb dL_holds_124 (by decide) (fun c25 => ?_) (fun c25 => ?_)
                · exact absurd rfl c25
                · skip
                  refine lv_aload_n hx hb dL_holds_127 rfl (lv_at hl 9 rfl) ?_
                  refine lv_iload hx hb dL_holds_128 (lv_at hl 4 rfl) ?_
                  refine lv_bipush (v := 7) hx hb dL_holds_130 (by decide) ?_
                  refine r_receiptOf (rest := []) X hI hz hl.1 rfl ⟨rfl, rfl, by decide, by decide⟩ (Nat.le_of_ble_eq_true rfl) ⟨Nat.zero_le _, Nat.zero_le _⟩ dL_holds_132 (fun H locs hI => ?_)
                  refine g_te (y := (m_share (M 7) k 0)) (u_r7 hr hk) ?_
                  refine lv_aload_n hx hb dL_holds_135 rfl (lv_at hl 9 rfl) ?_
                  refine lv_iload hx hb dL_holds_136 (lv_at hl 4 rfl) ?_
                  refine lv_iconst (v := 3) hx hb dL_holds_138 (by decide) ?_
                  refine r_receiptOf (rest := [.int (m_share (M 7) k 0)]) X hI hz hl.1 rfl ⟨rfl, rfl, by decide, by decide⟩ (Nat.le_of_ble_eq_true rfl) ⟨Nat.zero_le _, Nat.zero_le _⟩ dL_holds_139 (fun H locs hI => ?_)
                  refine g_te (y := (m_worth (M 7) k)) (u_r3 hr hk) ?_
                  refine lv_aload_n hx hb dL_holds_142 rfl (lv_at hl 9 rfl) ?_
                  refine lv_bipush (v := 20) hx hb dL_holds_143 (by decide) ?_
                  refine r_count (rest := [.int (m_worth (M 7) k), .int (m_share (M 7) k 0)]) X hI hz hl.1 rfl ⟨rfl, rfl, by decide, by decide⟩ (Nat.le_of_ble_eq_true rfl) ⟨Nat.zero_le _, Nat.zero_le _⟩ dL_holds_145 (fun H locs hI => ?_)
                  refine g_te (y := (M 7 1 6)) ((q_cnt_of (by decide) (by decide)).trans (u_c20 hr)) ?_
                  refine lv_imul hx hb dL_holds_148 ?_
                  refine lv_bipush (v := 100) hx hb dL_holds_149 (by decide) ?_
                  refine lv_idiv hx hb dL_holds_151 (by decide) ?_
                  refine lv_icmp_ne (tgt := 211) hx hb dL_holds_152 (by decide) (fun c26 => ?_) (fun c26 => ?_)
                  · exact absurd rfl c26
                  · skip
                    refine lv_aload_n hx hb dL_holds_155 rfl (lv_at hl 9 rfl) ?_
                    refine lv_iload hx hb dL_holds_156 (lv_at hl 4 rfl) ?_
                    refine lv_bipush (v := 8) hx hb dL_holds_158 (by decide) ?_
                    refine r_receiptOf (rest := []) X hI hz hl.1 rfl ⟨rfl, rfl, by decide, by decide⟩ (Nat.le_of_ble_eq_true rfl) ⟨Nat.zero_le _, Nat.zero_le _⟩ dL_holds_160 (fun H locs hI => ?_)
                    refine g_te (y := 0) ((u_r8 hr hk).trans (if_neg (fun z => z (by rw [hl0]; exact hs0)))) ?_
                    refine lv_iload hx hb dL_holds_163 (lv_at hl 1 rfl) ?_
                    refine lv_icmp_ne (tgt := 211) hx hb dL_holds_165 (by decide) (fun c27 => absurd c27 (by decide)) (fun _ => ?_)
                    refine lv_iload hx hb dL_holds_168 (lv_at hl 0 rfl) ?_
                    refine lv_aload_n hx hb dL_holds_170 rfl (lv_at hl 9 rfl) ?_
                    refine lv_iload hx hb dL_holds_171 (lv_at hl 4 rfl) ?_
                    refine lv_iconst (v := 4) hx hb dL_holds_173 (by decide) ?_
                    refine r_receiptOf (rest := [.int 0]) X hI hz hl.1 rfl ⟨rfl, rfl, by decide, by decide⟩ (Nat.le_of_ble_eq_true rfl) ⟨Nat.zero_le _, Nat.zero_le _⟩ dL_holds_174 (fun H locs hI => ?_)
                    refine g_te (y := (-2000000004)) ((u_r4 hr hk).trans (if_neg hp)) ?_
                    refine lv_ldc (v := (-2000000004)) hx hb hown (hts _ qc_L_43) dL_holds_177 ?_
                    refine lv_icmp_eq (tgt := 186) hx hb dL_holds_179 (by decide) (fun _ => ?_) (fun c28 => absurd c28 (by decide))
                    refine lv_iconst (v := 0) hx hb dL_holds_186 (by decide) ?_
                    refine lv_icmp_ne (tgt := 211) hx hb dL_holds_187 (by decide) (fun c29 => absurd c29 (by decide)) (fun _ => ?_)
                    refine lv_aload_n hx hb dL_holds_190 rfl (lv_at hl 9 rfl) ?_
                    refine lv_iload hx hb dL_holds_191 (lv_at hl 4 rfl) ?_
                    refine lv_bipush (v := 9) hx hb dL_holds_193 (by decide) ?_
                    refine r_receiptOf (rest := []) X hI hz hl.1 rfl ⟨rfl, rfl, by decide, by decide⟩ (Nat.le_of_ble_eq_true rfl) ⟨Nat.zero_le _, Nat.zero_le _⟩ dL_holds_195 (fun H locs hI => ?_)
                    refine g_te (y := 0) ((u_r9 hr hk).trans ((u_bits hr hv hk).mpr hp)) ?_
                    refine lv_if_ne (tgt := 205) hx hb dL_holds_198 (by decide) (fun c30 => absurd c30 (by decide)) (fun _ => ?_)
                    refine lv_iconst (v := 1) hx hb dL_holds_201 (by decide) ?_
                    refine lv_goto (tgt := 206) hx hb dL_holds_202 (by decide) ?_
                    refine lv_iload hx hb dL_holds_206 (lv_at hl 0 rfl) ?_
                    refine lv_icmp_ne (tgt := 213) hx hb dL_holds_208 (by decide) (fun _ => ?_) (fun c31 => absurd c31 (by decide))
                    refine lv_iload hx hb dL_holds_213 (lv_at hl 4 rfl) ?_
                    refine lv_istore_n (lv' := [(3, .int (M 7 1 (34 + 7 * k))), (9, .int 0), (8, .int 0), (7, .int (m_share (M 7) k 1)), (6, .int (-2000000004)), (5, .int (M 7 1 (34 + 7 * k))), (4, .int (nI k)), (2, .int w1), (1, .int s1), (0, .ref (ad 6 0))]) hx hb dL_holds_215 rfl hl (by decide) rfl (fun ls hl => ?_)
                    refine lv_iload_n hx hb dL_holds_216 rfl (lv_at hl 8 rfl) ?_
                    refine lv_aload_n hx hb dL_holds_217 rfl (lv_at hl 9 rfl) ?_
                    refine lv_iload hx hb dL_holds_218 (lv_at hl 5 rfl) ?_
                    refine lv_iconst (v := 2) hx hb dL_holds_220 (by decide) ?_
                    refine r_receiptOf (rest := [.int s1]) X hI hz hl.1 rfl ⟨rfl, rfl, by decide, by decide⟩ (Nat.le_of_ble_eq_true rfl) ⟨Nat.zero_le _, Nat.zero_le _⟩ dL_holds_221 (fun H locs hI => ?_)
                    refine g_te (y := (M 7 1 (34 + 7 * k + 3))) (u_r2 hr hk) ?_
                    refine lv_iadd hx hb dL_holds_224 ?_
                    refine lv_istore_n (lv' := [(1, .int (s1 + (M 7 1 (34 + 7 * k + 3)))), (3, .int (M 7 1 (34 + 7 * k))), (9, .int 0), (8, .int 0), (7, .int (m_share (M 7) k 1)), (6, .int (-2000000004)), (5, .int (M 7 1 (34 + 7 * k))), (4, .int (nI k)), (2, .int w1), (0, .ref (ad 6 0))]) hx hb dL_holds_225 rfl hl (by decide) rfl (fun ls hl => ?_)
                    refine lv_iload_n hx hb dL_holds_226 rfl (lv_at hl 8 rfl) ?_
                    refine lv_iload hx hb dL_holds_227 (lv_at hl 2 rfl) ?_
                    refine lv_if_eq (tgt := 242) hx hb dL_holds_229 (by decide) (fun _ => ?_) (fun c32 => absurd c32 (by decide))
                    refine lv_iconst (v := 0) hx hb dL_holds_242 (by decide) ?_
                    refine lv_iadd hx hb dL_holds_243 ?_
                    refine lv_istore_n (lv' := [(2, .int (w1 + 0)), (1, .int (s1 + (M 7 1 (34 + 7 * k + 3)))), (3, .int (M 7 1 (34 + 7 * k))), (9, .int 0), (8, .int 0), (7, .int (m_share (M 7) k 1)), (6, .int (-2000000004)), (5, .int (M 7 1 (34 + 7 * k))), (4, .int (nI k)), (0, .ref (ad 6 0))]) hx hb dL_holds_244 rfl hl (by decide) rfl (fun ls hl => ?_)
                    refine lv_iinc (v := nI (k + 1)) (lv' := [(4, .int (nI (k + 1))), (2, .int (w1 + 0)), (1, .int (s1 + (M 7 1 (34 + 7 * k + 3)))), (3, .int (M 7 1 (34 + 7 * k))), (9, .int 0), (8, .int 0), (7, .int (m_share (M 7) k 1)), (6, .int (-2000000004)), (5, .int (M 7 1 (34 + 7 * k))), (0, .ref (ad 6 0))]) hx hb dL_holds_245 hl (k := 8) rfl (nI_1 _) (by decide) rfl (fun ls hl => ?_)
                    refine lv_goto (tgt := 9) hx hb dL_holds_248 (by decide) ?_
                    rw [show M 7 1 (34 + 7 * k) = u_bef (M 7) (k + 1) from rfl] at hl
                    exact ih (k + 1) _ _ (by omega) (by omega) (by rw [k_sum, ← hs]) (by rw [k_sum, ← hw, if_neg hp]) _ _ _ hI (lv_sub hl [0, 3, 1, 2, 9] rfl)
          · exact absurd hns c21
  refine lv_iconst (v := 0) hx hb dL_holds_0 (by decide) ?_
  refine lv_istore_n (lv' := [(1, .int 0), (0, .ref (ad 6 0))]) hx hb dL_holds_1 rfl hl (by decide) rfl (fun ls hl => ?_)
  refine lv_iconst (v := 0) hx hb dL_holds_2 (by decide) ?_
  refine lv_istore_n (lv' := [(2, .int 0), (1, .int 0), (0, .ref (ad 6 0))]) hx hb dL_holds_3 rfl hl (by decide) rfl (fun ls hl => ?_)
  refine lv_iconst (v := (-1)) hx hb dL_holds_4 (by decide) ?_
  refine lv_istore_n (lv' := [(3, .int (-1)), (2, .int 0), (1, .int 0), (0, .ref (ad 6 0))]) hx hb dL_holds_5 rfl hl (by decide) rfl (fun ls hl => ?_)
  refine lv_iconst (v := 0) hx hb dL_holds_6 (by decide) ?_
  refine lv_istore (lv' := [(4, .int 0), (3, .int (-1)), (2, .int 0), (1, .int 0), (0, .ref (ad 6 0))]) hx hb dL_holds_7 hl (by decide) rfl (fun ls hl => ?_)
  exact lp9 (n + 1) 0 0 0 (Nat.zero_le _) (by omega) rfl rfl _ _ _ hI (lv_sub hl [0, 1, 2, 3, 4] rfl)
