/-! ===== the two sides, with text and history ===== -/
def x_T (G W : g_V) : Prop := ∃ ln : Nat, G 1 2 = nI ln ∧ W 0 5 = nI ln ∧ ln ≤ 60 ∧ (∀ j, j < ln → G 2 j = W 4 j ∧ 32 ≤ (G 2 j).toInt ∧ (G 2 j).toInt ≤ 126) ∧ q_okC G
def z_H (P : g_P) (M : g_M) (mb lo hi : Int) : Prop := ∃ h : Nat, M 6 0 2 = nI h ∧ M 7 0 3 = nI h ∧ h ≤ 4 ∧ (∃ n, z_R (M (P 0)) (M 7 1) n mb lo hi) ∧ ∀ i, i < h → ∃ n, z_R (M (P (2 + i))) (fun x => M 7 3 (146 * (h - 1 - i) + x)) n mb lo hi
def z_P (P : g_P) : Prop := (∀ i, P i < 6) ∧ ∀ i j, i < 6 → j < 6 → P i = P j → i = j
def z_Rel (P : g_P) (M : g_M) (mb lo hi : Int) : Prop := z_P P ∧ x_T (M 6) (M 7) ∧ z_H P M mb lo hi
def x_same (W W' : g_V) : Prop := W' 3 = W 3 ∧ W' 4 = W 4 ∧ W' 0 3 = W 0 3 ∧ W' 0 5 = W 0 5 ∧ ∀ x, x < 146 → W' 1 x = W 1 x
theorem x_T.of {G W G' W' : g_V} (h : x_T G W) (h1 : G' 1 2 = G 1 2) (h2 : G' 2 = G 2) (h3 : W' 0 5 = W 0 5) (h4 : W' 4 = W 4) : x_T G' W' := by
  obtain ⟨ln, a, b, c, d, e⟩ := h
  exact ⟨ln, h1.trans a, h3.trans b, c, fun j hj => by rw [h2, h4]; exact d j hj, e.of h2⟩
theorem z_P.rec {P : g_P} (h : z_P P) : z_P (q_recP P) := by
  refine ⟨q_recP_lt h.1, fun i j hi hj e => ?_⟩
  obtain ⟨e0, e1, e2, e3, e4, e5⟩ := q_recP_v P
  have key : ∀ a b, a < 6 → b < 6 → P a = P b → a = b := h.2
  rcases (show i = 0 ∨ i = 1 ∨ i = 2 ∨ i = 3 ∨ i = 4 ∨ i = 5 by omega) with rfl | rfl | rfl | rfl | rfl | rfl <;> rcases (show j = 0 ∨ j = 1 ∨ j = 2 ∨ j = 3 ∨ j = 4 ∨ j = 5 by omega) with rfl | rfl | rfl | rfl | rfl | rfl <;> simp only [e0, e1, e2, e3, e4, e5] at e <;> first | rfl | (have := key _ _ (by decide) (by decide) e; omega)
theorem z_P.undo {P : g_P} (h : z_P P) : z_P (q_undoP P) := by
  refine ⟨k_upP (k_upP (k_upP (k_upP (k_upP h.1 (h.1 _)) (k_upP h.1 (h.1 _) _)) (k_upP (k_upP h.1 (h.1 _)) (k_upP h.1 (h.1 _) _) _)) (k_upP (k_upP (k_upP h.1 (h.1 _)) (k_upP h.1 (h.1 _) _)) (k_upP (k_upP h.1 (h.1 _)) (k_upP h.1 (h.1 _) _) _) _)) (h.1 _), fun i j hi hj e => ?_⟩
  obtain ⟨e0, e1, e2, e3, e4, e5⟩ := q_undoP_v P
  have key : ∀ a b, a < 6 → b < 6 → P a = P b → a = b := h.2
  rcases (show i = 0 ∨ i = 1 ∨ i = 2 ∨ i = 3 ∨ i = 4 ∨ i = 5 by omega) with rfl | rfl | rfl | rfl | rfl | rfl <;> rcases (show j = 0 ∨ j = 1 ∨ j = 2 ∨ j = 3 ∨ j = 4 ∨ j = 5 by omega) with rfl | rfl | rfl | rfl | rfl | rfl <;> simp only [e0, e1, e2, e3, e4, e5] at e <;> first | rfl | (have := key _ _ (by decide) (by decide) e; omega)
theorem z_P.swap {P : g_P} (h : z_P P) : z_P (va_up (va_up P 0 (P 1)) 1 (P 0)) := by
  refine ⟨k_upP (k_upP h.1 (h.1 _)) (h.1 _), fun i j hi hj e => ?_⟩
  have key : ∀ a b, a < 6 → b < 6 → P a = P b → a = b := h.2
  have f0 : va_up (va_up P 0 (P 1)) 1 (P 0) 0 = P 1 := rfl
  have f1 : va_up (va_up P 0 (P 1)) 1 (P 0) 1 = P 0 := rfl
  have f : ∀ k, 2 ≤ k → va_up (va_up P 0 (P 1)) 1 (P 0) k = P k := fun k hk => by rw [va_up_ne _ _ (by omega), va_up_ne _ _ (by omega)]
  by_cases hi2 : 2 ≤ i
  · rw [f i hi2] at e
    by_cases hj2 : 2 ≤ j
    · rw [f j hj2] at e; exact key i j hi hj e
    · rcases (show j = 0 ∨ j = 1 by omega) with rfl | rfl
      · rw [f0] at e; have := key i 1 hi (by decide) e; omega
      · rw [f1] at e; have := key i 0 hi (by decide) e; omega
  · by_cases hj2 : 2 ≤ j
    · rw [f j hj2] at e
      rcases (show i = 0 ∨ i = 1 by omega) with rfl | rfl
      · rw [f0] at e; have := key 1 j (by decide) hj e; omega
      · rw [f1] at e; have := key 0 j (by decide) hj e; omega
    · rcases (show i = 0 ∨ i = 1 by omega) with rfl | rfl <;> rcases (show j = 0 ∨ j = 1 by omega) with rfl | rfl
      · rfl
      · rw [f0, f1] at e; have := key 1 0 (by decide) (by decide) e; omega
      · rw [f0, f1] at e; have := key 0 1 (by decide) (by decide) e; omega
      · rfl
section XR
variable {P : g_P} {M : g_M} {V S G W W' : g_V} {mb lo hi mb' lo' hi' : Int}
theorem z_Rel.P6 (h : z_Rel P M mb lo hi) : ∀ i, P i < 6 := h.1.1
theorem z_Rel.ne (h : z_Rel P M mb lo hi) {i j : Nat} (hi : i < 6) (hj : j < 6) (hne : i ≠ j) : P i ≠ P j := fun e => hne (h.1.2 i j hi hj e)
theorem x_same.ret {X : g_V} (h : ∀ c, c ≠ 1 → X c = m_begins W c) : x_same W (m_returns X) := by
  refine ⟨?_, ?_, ?_, ?_, fun x hx => ?_⟩
  · rw [m_returns_c (by decide), h 3 (by decide), m_begins_c (by decide)]
  · rw [m_returns_c (by decide), h 4 (by decide), m_begins_c (by decide)]
  · rw [m_returns_c (by decide), h 0 (by decide), m_begins_c (by decide)]
  · rw [m_returns_c (by decide), h 0 (by decide), m_begins_c (by decide)]
  · rw [m_returns_1 hx, h 2 (by decide), m_begins_2 hx]
theorem x_same.beg : x_same W (m_begins W) := ⟨m_begins_c (by decide), m_begins_c (by decide), by rw [m_begins_c (by decide)], by rw [m_begins_c (by decide)], fun x _ => by rw [m_begins_c (by decide)]⟩
/-- nothing shows: the reference's row, and perhaps the spare state, are written -/
theorem z_Rel.same (h : z_Rel P M mb lo hi) {X G' : g_V} (h1 : G' 1 2 = M 6 1 2) (h2 : G' 2 = M 6 2) (h0 : G' 0 2 = M 6 0 2) (hw : x_same (M 7) W') (hX : ∀ c j, z_pl c j → X c j = M (P 0) c j) : z_Rel P (va_up (va_up (va_up M (P 0) X) 6 G') 7 W') mb lo hi := by
  obtain ⟨hP, hT, s, a, b, c, ⟨n, d⟩, e⟩ := h
  have e7 : va_up (va_up (va_up M (P 0) X) 6 G') 7 W' 7 = W' := va_up_self _ 7 _
  have e6 : va_up (va_up (va_up M (P 0) X) 6 G') 7 W' 6 = G' := by rw [va_up_ne _ _ (by decide), va_up_self]
  have eP : ∀ r, r < 6 → va_up (va_up (va_up M (P 0) X) 6 G') 7 W' r = va_up M (P 0) X r := fun r hr => by rw [va_up_ne _ _ (by omega), va_up_ne _ _ (by omega)]
  refine ⟨hP, ?_, s, ?_, ?_, c, ⟨n, ?_⟩, fun i hi => ?_⟩
  · rw [e6, e7]; exact hT.of h1 h2 hw.2.2.2.1 hw.2.1
  · rw [e6, h0]; exact a
  · rw [e7, hw.2.2.1]; exact b
  · rw [e7, eP _ (hP.1 0), va_up_self]
    exact d.cong hX hw.2.2.2.2
  · obtain ⟨n', f⟩ := e i hi
    refine ⟨n', ?_⟩
    rw [e7, eP _ (hP.1 _), va_up_ne _ _ (fun z => by have := hP.2 (2 + i) 0 (by omega) (by decide) z; omega), hw.1]
    exact f
theorem z_act {A B : Int32 × g_V} {sn : Nat} (h : z_Rel P M mb lo hi) (hV : M (P 0) = V) (hS : M (P 1) = S) (hG : M 6 = G) (hW : M 7 = W) (hsn : W 0 3 = nI sn ∧ sn ≤ 4) (hsim : z_S V (m_begins W) A B mb' lo' hi') (hmb : mb ≤ mb') (hlo : lo' ≤ lo) (hhi : hi ≤ hi') (hk : ∀ c, c ≠ 1 → B.2 c = m_begins W c) (hW' : (z_err B.1 ∧ x_same W W') ∨ (z_good B.1 ∧ W' = m_acted B.2 B.1 sn)) :
    z_Rel (q_recdP A.1 P) (va_up (va_up (va_up (va_up M (P 1) (q_copy S V)) (P 0) A.2) 6 (q_recdG A.1 G)) 7 W') mb' lo' hi' := by
  obtain ⟨hP, hT, s, a, b, c, ⟨n, d⟩, e⟩ := h
  rw [hG] at hT a
  rw [hW] at hT b d e
  rw [hV] at d
  have es : s = sn := by
    have := hsn.1.symm.trans b
    have := (nI_eq (by omega) (by omega)).mp this
    omega
  subst es
  have e7 : ∀ X : g_M, va_up X 7 W' 7 = W' := fun X => va_up_self _ 7 _
  obtain ⟨hA, hs⟩ := hsim
  have p01 : P 0 ≠ P 1 := fun z => by have := hP.2 0 1 (by decide) (by decide) z; omega
  have m6 : ∀ (X : g_M) (Y Z : g_V), va_up (va_up X 6 Y) 7 Z 6 = Y := fun X Y Z => by rw [va_up_ne _ _ (by decide), va_up_self]
  have mr : ∀ (X : g_M) (Y Z : g_V) (r : Nat), r < 6 → va_up (va_up X 6 Y) 7 Z r = X r := fun X Y Z r hr => by rw [va_up_ne _ _ (by omega), va_up_ne _ _ (by omega)]
  rcases hs with ⟨h1, h2, h3⟩ | ⟨h1, n', h2⟩
  · have hsame : x_same W W' := by
      rcases hW' with h | h
      · exact h.2
      · exact absurd (z_err_k h1).2 (fun z => z (z_good_k h.1).2)
    have ek : k_isError A.1 := by rw [hA]; exact (z_err_k h1).1
    unfold q_recdP q_recdG
    rw [if_pos ek, if_pos ek]
    refine ⟨hP, ?_, s, ?_, ?_, c, ⟨n, ?_⟩, fun i hi => ?_⟩
    · rw [m6, e7]; exact hT.of rfl rfl hsame.2.2.2.1 hsame.2.1
    · rw [m6]; exact a
    · rw [e7, hsame.2.2.1]; exact b
    · rw [e7, mr _ _ _ _ (hP.1 0), va_up_self, h2]
      exact (d.mono hmb hlo hhi).cong (fun _ _ _ => rfl) hsame.2.2.2.2
    · obtain ⟨n', f⟩ := e i hi
      refine ⟨n', ?_⟩
      rw [e7, mr _ _ _ _ (hP.1 _), va_up_ne _ _ (fun z => by have := hP.2 (2 + i) 0 (by omega) (by decide) z; omega), va_up_ne _ _ (fun z => by have := hP.2 (2 + i) 1 (by omega) (by decide) z; omega), hsame.1]
      exact f.mono hmb hlo hhi
  · have hWa : W' = m_acted B.2 B.1 s := by
      rcases hW' with h | h
      · exact absurd (z_good_k h1).2 (z_err_k h.1).2
      · exact h.2
    have ek : ¬ k_isError A.1 := by rw [hA]; exact (z_good_k h1).1
    have hB0 : B.2 0 3 = nI s := by rw [hk 0 (by decide), m_begins_c (by decide)]; exact b
    obtain ⟨g1, g2, g3, g4, g5, g6⟩ := m_acted_good hB0 c h1
    unfold q_recdP q_recdG
    rw [if_neg ek, if_neg ek]
    obtain ⟨r0, r1, r2, r3, r4, r5⟩ := q_recP_v P
    have eh : q_histUp G 0 2 = nI (min (s + 1) 4) := by
      unfold q_histUp
      rw [a]
      by_cases c4 : s = 4
      · subst c4; rw [if_pos (by decide)]; exact a
      · rw [if_neg (show ¬ (4 : Int32) ≤ nI s from nI_ge (a := s) (b := 4) (by omega) (by decide)), w2_at, show min (s + 1) 4 = s + 1 by omega]; exact nI_1 s
    have eh1 : q_histUp G 1 = G 1 := by
      unfold q_histUp
      split
      · rfl
      · exact w2_c (by decide)
    have eh2 : q_histUp G 2 = G 2 := by
      unfold q_histUp
      split
      · rfl
      · exact w2_c (by decide)
    refine ⟨hP.rec, ?_, min (s + 1) 4, ?_, ?_, by omega, ⟨n', ?_⟩, fun i hi => ?_⟩
    · rw [m6, e7, hWa]
      exact hT.of (by rw [eh1]) eh2 (by rw [g3, hk 0 (by decide), m_begins_c (by decide)]) (by rw [g2, hk 4 (by decide), m_begins_c (by decide)])
    · rw [m6]; exact eh
    · rw [e7, hWa]; exact g4
    · rw [e7, hWa, r0, mr _ _ _ _ (hP.1 0), va_up_self, g1]
      exact h2
    · rw [e7, hWa]
      by_cases i0 : i = 0
      · subst i0
        refine ⟨n, ?_⟩
        rw [r2, mr _ _ _ _ (hP.1 1), va_up_ne _ _ (fun z => p01 z.symm), va_up_self]
        refine (d.mono hmb hlo hhi).cong (fun _ _ hp => q_copy_v hp) (fun x hx => ?_)
        rw [Nat.sub_zero, g5 x hx, hk 2 (by decide), m_begins_2 hx]
      · have hri : q_recP P (2 + i) = P (2 + (i - 1)) := by
          rcases (show i = 1 ∨ i = 2 ∨ i = 3 by omega) with rfl | rfl | rfl
          · exact r3
          · exact r4
          · exact r5
        obtain ⟨n'', f⟩ := e (i - 1) (by omega)
        refine ⟨n'', ?_⟩
        rw [hri, mr _ _ _ _ (hP.1 _), va_up_ne _ _ (fun z => by have := hP.2 (2 + (i - 1)) 0 (by omega) (by decide) z; omega), va_up_ne _ _ (fun z => by have := hP.2 (2 + (i - 1)) 1 (by omega) (by decide) z; omega)]
        refine (f.mono hmb hlo hhi).cong (fun _ _ _ => rfl) (fun x hx => ?_)
        rw [g6 i x (by omega) hi hx, hk 3 (by decide), m_begins_c (by decide)]
end XR
