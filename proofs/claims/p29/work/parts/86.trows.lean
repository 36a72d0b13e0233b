/-! ===== typing, clearing, faults, playing, undoing: rows of the law ===== -/
def z_Tx (M M1 : g_M) : Prop := (∀ r, r < 6 → M1 r = M r) ∧ M1 6 0 2 = M 6 0 2
theorem z_Tx.rf {M : g_M} : z_Tx M M := ⟨fun _ _ => rfl, rfl⟩
theorem z_Tx.tr {M M1 M2 : g_M} (h : z_Tx M M1) (h' : z_Tx M1 M2) : z_Tx M M2 := ⟨fun r hr => (h'.1 r hr).trans (h.1 r hr), h'.2.trans h.2⟩
/-- what a look for faults leaves -/
def z_Fx (P : g_P) (M M1 : g_M) : Prop := M1 7 = M 7 ∧ M1 6 1 2 = M 6 1 2 ∧ M1 6 0 2 = M 6 0 2 ∧ ∀ i, i < 6 → i ≠ 1 → M1 (P i) = M (P i)
theorem z_Fx.tr {P : g_P} {M M1 M2 : g_M} (h : z_Fx P M M1) (h' : z_Fx P M1 M2) : z_Fx P M M2 := ⟨h'.1.trans h.1, h'.2.1.trans h.2.1, h'.2.2.1.trans h.2.2.1, fun i hi h1 => (h'.2.2.2 i hi h1).trans (h.2.2.2 i hi h1)⟩
theorem z_Fx.v {P : g_P} {M M1 : g_M} (h : z_Fx P M M1) (hv : v_I P M) : v_I P M1 := fun i hi h1 => by rw [h.2.2.2 i hi h1]; exact hv i hi h1
theorem z_Tx.v {P : g_P} {M M1 : g_M} (h : z_Tx M M1) (hP : ∀ i, P i < 6) (hv : v_I P M) : v_I P M1 := fun i hi h1 => by rw [h.1 _ (hP i)]; exact hv i hi h1
theorem x_same.refl {W : g_V} : x_same W W := ⟨rfl, rfl, rfl, rfl, fun _ _ => rfl⟩
section TR
variable {p : Program} {l : Launch} {e : Env} {R : Room} {s : State} {m : MethodId} {args : Array Value} {below : List Frame} {meth : Method} {c' : Code} {H : Heap} {locs : List Loc} {cells slots : Nat} {Q : State → Prop}
variable {cc : ByteArray} {pc nL : Nat} {ls : Array Slot} {rest st0 : List Value} {D : va_G} {tb : g_T} {ad : g_Ad} {A : Nat → Prop} {P : g_P} {M : g_M} {c mb lo hi : Int} {n ln : Nat}
theorem r_type (X : L_x p s m args c' cc nL D tb ad A) (hI : g_I D tb ad A s H locs P M) (h : z_Rel P M mb lo hi) {ch : Int32} (hlen : M 6 1 2 = nI ln) (hln : ln < 60) (hch : 32 ≤ ch.toInt ∧ ch.toInt ≤ 126) (hl : ls.size = nL) (hst : st0 = .int ch :: .ref (ad 6 0) :: rest) (hR : g_R rm_X4_type 2 R) (hW : (rest.map fun v => v.category).sum ≤ 8) (hcap : cells ≤ R.cells ∧ slots ≤ R.slots) (hdg : decode cc pc = .ok (.invokevirtual 45, 3))
    (kk : ∀ M1 : g_M, z_Rel P M1 mb lo hi → z_Tx M M1 → M1 6 1 2 = nI (ln + 1) → ∀ (H1 : Heap) (locs1 : List Loc), g_I D tb ad A s H1 locs1 P M1 → ∀ r : Int32, 0 < r.toInt → W p l e R s m args below meth c' H1 locs1 cells slots Q (F0 m (pc + 3) ls (.int r :: rest))) : W p l e R s m args below meth c' H locs cells slots Q (F0 m pc ls st0) := by
  obtain ⟨hx, hb, hml, hown, hts, hC, hj⟩ := X
  obtain ⟨-, hr⟩ := z_type (ch := ch) h rfl rfl
  have eq : q_append (M 6) ch = (nI (ln + 1), g_w2 (g_w2 (M 6) 2 ln (vp_nar .char ((ch.toUInt32 % 65536).toInt32))) 1 2 (nI (ln + 1))) := by
    unfold q_append
    rw [hlen, if_neg (show ¬ ch < 32 by rw [Int32.lt_iff_toInt_lt]; show ¬ ch.toInt < 32; omega), if_pos (show ch ≤ 126 by rw [Int32.le_iff_toInt_le]; show ch.toInt ≤ 126; omega), if_neg (nI_pos (by omega)), if_pos (show nI ln < (60 : Int32) from nI_lt (a := ln) (b := 60) (by omega) (by decide)), nI_clamp (by omega), w2_at, w2_ne (by omega), hlen, nI_1]
  have hc := c_X4_type l D tb ad hj P M ch _ rfl
  rw [eq] at hc hr
  dsimp only at hc hr
  refine g_callVi (rest := rest) hc rfl rfl gm_X4_type hx hb hml hown hts hC hI (by decide) (e_gr rfl) rfl rfl qm_L_45 rfl hl hst hR hW hcap hdg (fun H1 locs1 hI1 => kk _ hr ?_ ?_ H1 locs1 (g_I_7 _ hI1) _ ?_)
  · refine ⟨fun r hr => ?_, ?_⟩
    · rw [va_up_ne _ _ (by omega), va_up_ne _ _ (by omega)]
    · rw [va_up_ne _ _ (by decide), va_up_self, w2_ne (by omega), w2_ne (by omega)]
  · rw [va_up_ne _ _ (by decide), va_up_self, w2_at]
  · rw [nI_toInt (by omega)]; omega
theorem r_clear (X : L_x p s m args c' cc nL D tb ad A) (hI : g_I D tb ad A s H locs P M) (h : z_Rel P M mb lo hi) (hl : ls.size = nL) (hst : st0 = .ref (ad 6 0) :: rest) (hR : g_R rm_X4_clearText 2 R) (hW : (rest.map fun v => v.category).sum ≤ 8) (hcap : cells ≤ R.cells ∧ slots ≤ R.slots) (hdg : decode cc pc = .ok (.invokevirtual 51, 3))
    (kk : ∀ M1 : g_M, z_Rel P M1 mb lo hi → z_Tx M M1 → M1 6 1 2 = nI 0 → ∀ (H1 : Heap) (locs1 : List Loc), g_I D tb ad A s H1 locs1 P M1 → ∀ r : Int32, 0 ≤ r.toInt → W p l e R s m args below meth c' H1 locs1 cells slots Q (F0 m (pc + 3) ls (.int r :: rest))) : W p l e R s m args below meth c' H locs cells slots Q (F0 m pc ls st0) := by
  obtain ⟨hx, hb, hml, hown, hts, hC, hj⟩ := X
  obtain ⟨-, hr⟩ := z_clear h rfl rfl
  have h0 := h
  obtain ⟨hP, ⟨ln, t1, t2, t3, -⟩, -⟩ := h0
  have hc := c_X4_clearText l D tb ad hj P M _ rfl
  refine g_callVi (rest := rest) hc rfl rfl gm_X4_clearText hx hb hml hown hts hC hI (by decide) (e_gr rfl) rfl rfl qm_L_51 rfl hl hst hR hW hcap hdg (fun H1 locs1 hI1 => kk _ hr ?_ ?_ H1 locs1 (g_I_7 _ hI1) _ ?_)
  · refine ⟨fun r hr => ?_, ?_⟩
    · rw [va_up_ne _ _ (by omega), va_up_ne _ _ (by omega)]
    · rw [va_up_ne _ _ (by decide), va_up_self, w2_ne (by omega)]
  · rw [va_up_ne _ _ (by decide), va_up_self, w2_at]; rfl
  · rw [t1, nI_toInt (by omega)]; omega
theorem z_Rel.okC (h : z_Rel P M mb lo hi) : q_okC (M 6) := by
  obtain ⟨hP, ⟨ln, t1, t2, t3, t4, t5⟩, -⟩ := h
  exact t5
theorem z_Rel.okRc (h : z_Rel P M mb lo hi) : q_okR (q_copy (M (P 1)) (M (P 0))) := by
  obtain ⟨n, hz⟩ := z_Rel.row h
  have hc : z_R (q_copy (M (P 1)) (M (P 0))) (M 7 1) n mb lo hi := hz.cong (fun _ _ hp => q_copy_v hp) (fun _ _ => rfl)
  obtain ⟨g, hL, h1, -⟩ := hc
  exact hL.okR h1
theorem r_fault (X : L_x p s m args c' cc nL D tb ad A) (hI : g_I D tb ad A s H locs P M) (h : z_Rel P M mb lo hi) (hmb : mb + 60 ≤ 2000000000) (hlo : -600000000 ≤ lo) (hhi : hi + 3960000 ≤ 2030000000) {w : Int32} (hw : w = 0 ∨ w = 1 ∨ w = 2) (hl : ls.size = nL) (hst : st0 = .int w :: .ref (ad 6 0) :: rest) (hR : g_R rm_X4_fault 2 R) (hW : (rest.map fun v => v.category).sum ≤ 8) (hcap : cells ≤ R.cells ∧ slots ≤ R.slots) (hdg : decode cc pc = .ok (.invokevirtual 59, 3))
    (kk : ∀ M1 : g_M, z_Rel P M1 mb lo hi → z_Fx P M M1 → ∀ (H1 : Heap) (locs1 : List Loc), g_I D tb ad A s H1 locs1 P M1 → W p l e R s m args below meth c' H1 locs1 cells slots Q (F0 m (pc + 3) ls (.int (m_fault (M 7) w).1 :: rest))) : W p l e R s m args below meth c' H locs cells slots Q (F0 m pc ls st0) := by
  obtain ⟨hx, hb, hml, hown, hts, hC, hj⟩ := X
  obtain ⟨ef, -⟩ := z_fault (w := w) h rfl rfl rfl rfl hmb hlo hhi
  obtain ⟨⟨q1, q2⟩, -, -⟩ := x_all (S := M (P 1)) h rfl rfl rfl hmb hlo hhi
  have hc := c_X4_fault l D tb ad hj P M w (z_Rel.P6 h) (z_Rel.ne h (by decide) (by decide) (by decide)) _ rfl _ rfl _ rfl q_okR (fun _ h => h) (fun _ _ _ h => h.order) h.okRc h.okC
  rw [ef] at hc
  have w0 : ¬ w < 0 := by rcases hw with rfl | rfl | rfl <;> decide
  have w2 : w ≤ 2 := by rcases hw with rfl | rfl | rfl <;> decide
  rw [if_neg w0, if_pos w2, if_neg w0, if_pos w2] at hc
  generalize q_orders (q_copy (M (P 1)) (M (P 0))) (M 6) = Z at q1 q2 hc
  have hr := h.spare (Y := Z.2) (G' := Z.1) (W' := M 7) (by rw [q1 0 (by decide) (by decide)]) q2 (q1 2 (by decide) (by decide)) x_same.refl
  refine g_callVi (rest := rest) hc rfl rfl gm_X4_fault hx hb hml hown hts hC hI (by decide) (e_gr rfl) rfl rfl qm_L_59 rfl hl hst hR hW hcap hdg (fun H1 locs1 hI1 => kk _ hr ?_ H1 locs1 (g_I_7 _ hI1))
  have hP := h.1
  refine ⟨va_up_self _ 7 _, ?_, ?_, fun i hi h1 => ?_⟩
  · rw [va_up_ne _ _ (by decide), va_up_self]; exact q2
  · rw [va_up_ne _ _ (by decide), va_up_self, q1 0 (by decide) (by decide)]
  · rw [va_up_ne _ _ (fun z => by have := hP.1 i; omega), va_up_ne _ _ (fun z => by have := hP.1 i; omega), va_up_ne _ _ (fun z => h1 (hP.2 i 1 hi (by decide) z))]
/-- what playing leaves -/
def z_Py (P : g_P) (M : g_M) (P1 : g_P) (M1 : g_M) (c : Int) : Prop := z_In P1 M1 (c + 1) ∧ z_Step P M P1 M1 ∧ M1 6 1 2 = M 6 1 2
theorem r_play (X : L_x p s m args c' cc nL D tb ad A) (hI : g_I D tb ad A s H locs P M) (h : z_In P M c) (h0 : 0 ≤ c) (h1 : c ≤ 511) (hl : ls.size = nL) (hst : st0 = .ref (ad 6 0) :: rest) (hR : g_R rm_X4_play 2 R) (hW : (rest.map fun v => v.category).sum ≤ 8) (hcap : cells ≤ R.cells ∧ slots ≤ R.slots) (hdg : decode cc pc = .ok (.invokevirtual 62, 3))
    (kk : ∀ (P1 : g_P) (M1 : g_M), z_Py P M P1 M1 c → ∀ (H1 : Heap) (locs1 : List Loc), g_I D tb ad A s H1 locs1 P1 M1 → W p l e R s m args below meth c' H1 locs1 cells slots Q (F0 m (pc + 3) ls (.int (if (m_does (m_begins (M 7))).1 = 0 then -2000000002 else (m_does (m_begins (M 7))).2 0 8) :: rest))) : W p l e R s m args below meth c' H locs cells slots Q (F0 m pc ls st0) := by
  obtain ⟨hx, hb, hml, hown, hts, hC, hj⟩ := X
  obtain ⟨hz, hv⟩ := h
  obtain ⟨nn, sn, hzr, hs, hs4⟩ := z_Rel.get hz
  obtain ⟨ep, hr⟩ := z_play hz rfl rfl rfl rfl ⟨hs, hs4⟩ (by omega) (by omega) (by omega)
  obtain ⟨⟨q1, q2⟩, -, hres⟩ := x_all (S := M (P 1)) hz rfl rfl rfl (by omega) (by omega) (by omega)
  have hc := c_X4_play l D tb ad hj P M (z_Rel.P6 hz) (z_Rel.ne hz (by decide) (by decide) (by decide)) _ rfl _ rfl _ rfl q_okR (fun _ h => h) (fun _ _ _ h => h.order) hz.okRc hz.okC
  have em : (m_play (M 7) sn).1 = if (m_does (m_begins (M 7))).1 = 0 then -2000000002 else (m_does (m_begins (M 7))).2 0 8 := by
    unfold m_play
    generalize m_does (m_begins (M 7)) = D
    by_cases c6 : D.1 = 0
    · rw [if_pos c6, if_pos c6]
    · rw [if_neg c6, if_neg c6]
  rw [ep, em] at hc
  have hv4 : v_4 (q_orders (q_copy (M (P 1)) (M (P 0))) (M 6)).2 := v_4.orders 60 _ ((hv 0 (by decide) (by decide)).cpy)
  refine g_callVi (rest := rest) hc rfl rfl gm_X4_play hx hb hml hown hts hC hI (by decide) (e_gr rfl) rfl rfl qm_L_62 rfl hl hst hR hW hcap hdg (fun H1 locs1 hI1 => kk _ _ ⟨⟨z_Rel.mono hr (by omega) (by omega) (by omega), ?_⟩, ?_, ?_⟩ H1 locs1 (g_I_7 _ hI1))
  all_goals clear hc hr kk
  all_goals generalize q_orders (q_copy (M (P 1)) (M (P 0))) (M 6) = Z at q1 q2 hres hv4 ⊢
  all_goals have hP := hz.1
  all_goals have mr : ∀ (X : g_M) (Y Z : g_V) (r : Nat), r < 6 → va_up (va_up X 6 Y) 7 Z r = X r := fun X Y Z r hr => by rw [va_up_ne _ _ (by omega), va_up_ne _ _ (by omega)]
  · obtain ⟨r0, r1, r2, r3, r4, r5⟩ := q_recP_v (va_up (va_up P 0 (P 1)) 1 (P 0))
    have f0 : va_up (va_up P 0 (P 1)) 1 (P 0) 0 = P 1 := rfl
    have f1 : va_up (va_up P 0 (P 1)) 1 (P 0) 1 = P 0 := rfl
    have f2 : va_up (va_up P 0 (P 1)) 1 (P 0) 2 = P 2 := rfl
    have f3 : va_up (va_up P 0 (P 1)) 1 (P 0) 3 = P 3 := rfl
    have f4 : va_up (va_up P 0 (P 1)) 1 (P 0) 4 = P 4 := rfl
    have key : ∀ i, i < 6 → i ≠ 1 → ∀ G' W', v_4 (va_up (va_up (va_up M (P 1) Z.2) 6 G') 7 W' (P i)) := fun i hi h1 G' W' => by
      rw [mr _ _ _ _ (hP.1 i), va_up_ne _ _ (fun z => h1 (hP.2 i 1 hi (by decide) z))]
      exact hv i hi h1
    intro i hi h1
    by_cases c6 : Z.1 1 6 = 0
    · simp only [if_pos c6]
      rcases (show i = 0 ∨ i = 2 ∨ i = 3 ∨ i = 4 ∨ i = 5 by omega) with rfl | rfl | rfl | rfl | rfl
      · rw [r0, f0, mr _ _ _ _ (hP.1 1), va_up_self]; exact hv4
      · rw [r2, f1]; exact key 0 (by decide) (by decide) _ _
      · rw [r3, f2]; exact key 2 (by decide) (by decide) _ _
      · rw [r4, f3]; exact key 3 (by decide) (by decide) _ _
      · rw [r5, f4]; exact key 4 (by decide) (by decide) _ _
    · simp only [if_neg c6]
      exact key i hi h1 _ _
  · obtain ⟨-, -, sx, a, b, c5, ⟨nx, d⟩, e⟩ := hz
    obtain ⟨r0, r1, r2, r3, r4, r5⟩ := q_recP_v (va_up (va_up P 0 (P 1)) 1 (P 0))
    have f1 : va_up (va_up P 0 (P 1)) 1 (P 0) 1 = P 0 := rfl
    have a' : Z.1 0 2 = nI sx := by rw [q1 0 (by decide) (by decide)]; exact a
    have e0 : M (P 0) = va_up M (P 1) Z.2 (P 0) := by rw [va_up_ne _ _ (fun z => by have := hP.2 0 1 (by decide) (by decide) z; omega)]
    by_cases c6 : Z.1 1 6 = 0
    · simp only [if_pos c6]
      refine ⟨sx, min (sx + 1) 4, c5, by omega, a, ?_, Or.inr ⟨rfl, ?_⟩⟩
      · rw [va_up_ne _ _ (by decide), va_up_self]
        unfold q_histUp
        rw [a']
        by_cases c4 : sx = 4
        · subst c4; rw [if_pos (by decide)]; exact a'
        · rw [if_neg (show ¬ (4 : Int32) ≤ nI sx from nI_ge (a := sx) (b := 4) (by omega) (by decide)), w2_at, show min (sx + 1) 4 = sx + 1 by omega]; exact nI_1 sx
      · rw [r2, f1, mr _ _ _ _ (hP.1 0), ← e0]
        exact ⟨_, _, _, _, _, d, d⟩
    · simp only [if_neg c6]
      refine ⟨sx, sx, c5, c5, a, ?_, Or.inl ⟨rfl, ?_⟩⟩
      · rw [va_up_ne _ _ (by decide), va_up_self]; exact a'
      · rw [mr _ _ _ _ (hP.1 0), ← e0]
        exact ⟨_, _, _, _, _, d, d⟩
  · rw [va_up_ne _ _ (by decide), va_up_self]
    by_cases c6 : Z.1 1 6 = 0
    · rw [if_pos c6]
      have eh1 : q_histUp Z.1 1 = Z.1 1 := by
        unfold q_histUp
        split
        · rfl
        · exact w2_c (by decide)
      rw [eh1]; exact q2
    · rw [if_neg c6]; exact q2
/-- undoing -/
def z_Un (P : g_P) (M : g_M) (P1 : g_P) (M1 : g_M) (c : Int) (hh : Nat) : Prop := z_In P1 M1 c ∧ ((hh = 0 ∧ M1 (P1 0) = M (P 0) ∧ M1 6 0 2 = nI 0) ∨ (0 < hh ∧ M1 (P1 0) = M (P 2) ∧ M1 6 0 2 = nI (hh - 1)))
theorem r_undo (X : L_x p s m args c' cc nL D tb ad A) (hI : g_I D tb ad A s H locs P M) (h : z_In P M c) {hh : Nat} (hh2 : M 6 0 2 = nI hh) (hh4 : hh ≤ 4) (hl : ls.size = nL) (hst : st0 = .ref (ad 6 0) :: rest) (hR : g_R rm_X4_undo 3 R) (hW : (rest.map fun v => v.category).sum ≤ 8) (hcap : cells ≤ R.cells ∧ slots ≤ R.slots) (hdg : decode cc pc = .ok (.invokevirtual 118, 3))
    (kk : ∀ (P1 : g_P) (M1 : g_M), z_Un P M P1 M1 c hh → ∀ (H1 : Heap) (locs1 : List Loc), g_I D tb ad A s H1 locs1 P1 M1 → W p l e R s m args below meth c' H1 locs1 cells slots Q (F0 m (pc + 3) ls (.int (if hh = 0 then -2000000002 else nI (hh - 1)) :: rest))) : W p l e R s m args below meth c' H locs cells slots Q (F0 m pc ls st0) := by
  obtain ⟨hx, hb, hml, hown, hts, hC, hj⟩ := X
  obtain ⟨hz, hv⟩ := h
  obtain ⟨-, hr⟩ := z_undo hz rfl rfl
  have hc := c_X4_undo l D tb ad hj P M (z_Rel.P6 hz) _ rfl
  have hP := hz.1
  have mr : ∀ (X : g_M) (Y Z : g_V) (r : Nat), r < 6 → va_up (va_up X 6 Y) 7 Z r = X r := fun X Y Z r hr => by rw [va_up_ne _ _ (by omega), va_up_ne _ _ (by omega)]
  rw [hh2] at hc hr
  by_cases c0 : hh = 0
  · subst c0
    have hn : ¬ (0 : Int32) < nI 0 := by decide
    simp only [if_neg hn] at hc hr
    rw [if_pos rfl] at kk
    refine g_callVi (rest := rest) hc rfl rfl gm_X4_undo hx hb hml hown hts hC hI (by decide) (e_gr rfl) rfl rfl qm_L_118 rfl hl hst hR hW hcap hdg (fun H1 locs1 hI1 => kk _ _ ⟨⟨hr, fun i hi h1 => ?_⟩, Or.inl ⟨rfl, ?_, ?_⟩⟩ H1 locs1 (g_I_7 _ hI1))
    · rw [mr _ _ _ _ (hP.1 i)]; exact hv i hi h1
    · rw [mr _ _ _ _ (hP.1 0)]
    · rw [va_up_ne _ _ (by decide), va_up_self]; exact hh2
  · have hp : (0 : Int32) < nI hh := (nI_ltI (a := 0) (b := hh) (by decide) (by omega)).mpr (by omega)
    simp only [if_pos hp] at hc hr
    rw [k_dp (by omega)] at hc hr
    rw [if_neg c0] at kk
    obtain ⟨r0, r1, r2, r3, r4, r5⟩ := q_undoP_v P
    refine g_callVi (rest := rest) hc rfl rfl gm_X4_undo hx hb hml hown hts hC hI (by decide) (e_gr rfl) rfl rfl qm_L_118 rfl hl hst hR hW hcap hdg (fun H1 locs1 hI1 => kk _ _ ⟨⟨hr, fun i hi h1 => ?_⟩, Or.inr ⟨by omega, ?_, ?_⟩⟩ H1 locs1 (g_I_7 _ hI1))
    · rcases (show i = 0 ∨ i = 2 ∨ i = 3 ∨ i = 4 ∨ i = 5 by omega) with rfl | rfl | rfl | rfl | rfl
      · rw [r0, mr _ _ _ _ (hP.1 2)]; exact hv 2 (by decide) (by decide)
      · rw [r2, mr _ _ _ _ (hP.1 3)]; exact hv 3 (by decide) (by decide)
      · rw [r3, mr _ _ _ _ (hP.1 4)]; exact hv 4 (by decide) (by decide)
      · rw [r4, mr _ _ _ _ (hP.1 5)]; exact hv 5 (by decide) (by decide)
      · rw [r5, mr _ _ _ _ (hP.1 0)]; exact hv 0 (by decide) (by decide)
    · rw [r0, mr _ _ _ _ (hP.1 2)]
    · rw [va_up_ne _ _ (by decide), va_up_self, w2_at]
end TR
