/-! ===== playing, faults, undoing, typing ===== -/
section XY
variable {P : g_P} {M : g_M} {V S G W W' : g_V} {mb lo hi mb' lo' hi' : Int}
theorem z_Rel.txt (h : z_Rel P M mb lo hi) {G' : g_V} (h0 : G' 0 2 = M 6 0 2) (h1 : W' 1 = M 7 1) (h3 : W' 3 = M 7 3) (h03 : W' 0 3 = M 7 0 3) (hT : x_T G' W') : z_Rel P (va_up (va_up M 6 G') 7 W') mb lo hi := by
  obtain ⟨hP, -, s, a, b, c, d, e⟩ := h
  have e7 : va_up (va_up M 6 G') 7 W' 7 = W' := va_up_self _ 7 _
  have e6 : va_up (va_up M 6 G') 7 W' 6 = G' := by rw [va_up_ne _ _ (by decide), va_up_self]
  have eP : ∀ r, r < 6 → va_up (va_up M 6 G') 7 W' r = M r := fun r hr => by rw [va_up_ne _ _ (by omega), va_up_ne _ _ (by omega)]
  refine ⟨hP, ?_, s, ?_, ?_, c, ?_, fun i hi => ?_⟩
  · rw [e6, e7]; exact hT
  · rw [e6, h0]; exact a
  · rw [e7, h03]; exact b
  · rw [e7, eP _ (hP.1 0), h1]; exact d
  · rw [e7, eP _ (hP.1 _), h3]; exact e i hi
theorem z_Rel.spare (h : z_Rel P M mb lo hi) {Y G' : g_V} (h0 : G' 0 2 = M 6 0 2) (h1 : G' 1 2 = M 6 1 2) (h2 : G' 2 = M 6 2) (hw : x_same (M 7) W') : z_Rel P (va_up (va_up (va_up M (P 1) Y) 6 G') 7 W') mb lo hi := by
  obtain ⟨hP, hT, s, a, b, c, ⟨n, d⟩, e⟩ := h
  have e7 : va_up (va_up (va_up M (P 1) Y) 6 G') 7 W' 7 = W' := va_up_self _ 7 _
  have e6 : va_up (va_up (va_up M (P 1) Y) 6 G') 7 W' 6 = G' := by rw [va_up_ne _ _ (by decide), va_up_self]
  have eP : ∀ r, r < 6 → r ≠ P 1 → va_up (va_up (va_up M (P 1) Y) 6 G') 7 W' r = M r := fun r hr hn => by rw [va_up_ne _ _ (by omega), va_up_ne _ _ (by omega), va_up_ne _ _ hn]
  refine ⟨hP, ?_, s, ?_, ?_, c, ⟨n, ?_⟩, fun i hi => ?_⟩
  · rw [e6, e7]; exact hT.of h1 h2 hw.2.2.2.1 hw.2.1
  · rw [e6, h0]; exact a
  · rw [e7, hw.2.2.1]; exact b
  · rw [e7, eP _ (hP.1 0) (fun z => by have := hP.2 0 1 (by decide) (by decide) z; omega)]
    exact d.cong (fun _ _ _ => rfl) hw.2.2.2.2
  · obtain ⟨n', f⟩ := e i hi
    refine ⟨n', ?_⟩
    rw [e7, eP _ (hP.1 _) (fun z => by have := hP.2 (2 + i) 1 (by omega) (by decide) z; omega), hw.1]
    exact f
/-- a change is recorded: X shows what was before, A what is now -/
theorem z_chg {X A B : g_V} {b1 : Int32} {s n n' : Nat} {G' : g_V} (hP : z_P P) (hT : x_T G W) (b : W 0 3 = nI s) (c : s ≤ 4) (d : z_R V (W 1) n mb' lo' hi') (e : ∀ i, i < s → ∃ n, z_R (M (P (2 + i))) (fun x => W 3 (146 * (s - 1 - i) + x)) n mb' lo' hi') (hX : ∀ c j, z_pl c j → X c j = V c j) (hA : z_R A (B 1) n' mb' lo' hi') (hg : z_good b1) (k2 : ∀ x, x < 146 → B 2 x = W 1 x) (k3 : B 3 = W 3) (k4 : B 4 = W 4) (k03 : B 0 3 = W 0 3) (k05 : B 0 5 = W 0 5) (g0 : G' 0 2 = nI (min (s + 1) 4)) (g1 : G' 1 2 = G 1 2) (g2 : G' 2 = G 2) :
    z_Rel (q_recP P) (va_up (va_up (va_up (va_up M (P 1) X) (P 0) A) 6 G') 7 (m_acted B b1 s)) mb' lo' hi' := by
  obtain ⟨a1, a2, a3, a4, a5, a6⟩ := m_acted_good (X := B) (k03.trans b) c hg
  obtain ⟨r0, r1, r2, r3, r4, r5⟩ := q_recP_v P
  have p01 : P 0 ≠ P 1 := fun z => by have := hP.2 0 1 (by decide) (by decide) z; omega
  have e7 : ∀ (Y : g_M) (Z : g_V), va_up Y 7 Z 7 = Z := fun Y Z => va_up_self _ 7 _
  have m6 : ∀ (X : g_M) (Y Z : g_V), va_up (va_up X 6 Y) 7 Z 6 = Y := fun X Y Z => by rw [va_up_ne _ _ (by decide), va_up_self]
  have mr : ∀ (X : g_M) (Y Z : g_V) (r : Nat), r < 6 → va_up (va_up X 6 Y) 7 Z r = X r := fun X Y Z r hr => by rw [va_up_ne _ _ (by omega), va_up_ne _ _ (by omega)]
  refine ⟨hP.rec, ?_, min (s + 1) 4, ?_, ?_, by omega, ⟨n', ?_⟩, fun i hi => ?_⟩
  · rw [m6, e7]; exact hT.of g1 g2 (a3.trans k05) (a2.trans k4)
  · rw [m6]; exact g0
  · rw [e7]; exact a4
  · rw [e7, r0, mr _ _ _ _ (hP.1 0), va_up_self, a1]; exact hA
  · rw [e7]
    by_cases i0 : i = 0
    · subst i0
      refine ⟨n, ?_⟩
      rw [r2, mr _ _ _ _ (hP.1 1), va_up_ne _ _ (fun z => p01 z.symm), va_up_self]
      exact d.cong hX (fun x hx => by rw [Nat.sub_zero, a5 x hx, k2 x hx])
    · have hri : q_recP P (2 + i) = P (2 + (i - 1)) := by
        rcases (show i = 1 ∨ i = 2 ∨ i = 3 by omega) with rfl | rfl | rfl
        · exact r3
        · exact r4
        · exact r5
      obtain ⟨n'', f⟩ := e (i - 1) (by omega)
      refine ⟨n'', ?_⟩
      rw [hri, mr _ _ _ _ (hP.1 _), va_up_ne _ _ (fun z => by have := hP.2 (2 + (i - 1)) 0 (by omega) (by decide) z; omega), va_up_ne _ _ (fun z => by have := hP.2 (2 + (i - 1)) 1 (by omega) (by decide) z; omega)]
      exact f.cong (fun _ _ _ => rfl) (fun x hx => by rw [a6 i x (by omega) hi hx, k3])
theorem x_all (h : z_Rel P M mb lo hi) (hV : M (P 0) = V) (hG : M 6 = G) (hW : M 7 = W) (hmb : mb + 60 ≤ 2000000000) (hlo : -600000000 ≤ lo) (hhi : hi + 3960000 ≤ 2030000000) :
    ((∀ c, c ≠ 1 → c ≠ 3 → (q_orders (q_copy S V) G).1 c = G c) ∧ (q_orders (q_copy S V) G).1 1 2 = G 1 2) ∧ ((∀ c, c ≠ 0 → c ≠ 1 → c ≠ 5 → (m_does (m_begins W)).2 c = m_begins W c) ∧ (m_does (m_begins W)).2 0 3 = W 0 3 ∧ (m_does (m_begins W)).2 0 5 = W 0 5) ∧ x_res (q_orders (q_copy S V) G) (m_does (m_begins W)) (mb + 60) lo (hi + 3960000) := by
  obtain ⟨hP, ⟨ln, t1, t2, t3, t4, t5⟩, s, a, b, c, ⟨n, d⟩, e⟩ := h
  rw [hG] at t1 t4
  rw [hW] at t2 t4 d
  rw [hV] at d
  have hb : ∀ c, c ≠ 0 → c ≠ 2 → g_w2 (g_w2 (m_begins W) 0 6 0) 0 8 0 c = W c := fun c c0 c2 => by rw [w2_c c0, w2_c c0, m_begins_c c2]
  have hx : x_tx (q_orders0 G) (g_w2 (g_w2 (m_begins W) 0 6 0) 0 8 0) ln 0 := by
    unfold q_orders0
    refine ⟨?_, ?_, ?_, ?_, Nat.zero_le _, t3, fun j hj => ?_⟩
    · rw [w2_ne (by omega), w2_ne (by omega), w2_ne (by omega)]; exact t1
    · rw [w2_ne (by omega), w2_ne (by omega), m_begins_c (by decide)]; exact t2
    · rw [w2_at]; rfl
    · rw [w2_ne (by omega), w2_at]; rfl
    · rw [w2_c (by decide), w2_c (by decide), w2_c (by decide), hb 4 (by decide) (by decide)]; exact t4 j hj
  have hR : z_R (q_copy S V) (g_w2 (g_w2 (m_begins W) 0 6 0) 0 8 0 1) n mb lo (hi + 0) := by
    rw [Int.add_zero, hb 1 (by decide) (by decide)]
    exact d.cong (fun _ _ hp => q_copy_v hp) (fun _ _ => rfl)
  have hY : y_1 (W 1) n := d.choose_spec.2.1
  have hpt : x_pt (g_w2 (g_w2 (m_begins W) 0 6 0) 0 8 0 1) 0 0 := by
    rw [hb 1 (by decide) (by decide)]
    have := (y_P_bd hY).1
    exact ⟨0, by omega, by omega⟩
  obtain ⟨f1, f2⟩ := x_loop hlo hhi 60 0 n 0 (q_orders0 G) (q_copy S V) (g_w2 (g_w2 (m_begins W) 0 6 0) 0 8 0) mb 0 hx hR (by omega) (by omega) (by omega) hpt (by unfold q_orders0; rw [w2_ne (by omega), w2_ne (by omega), w2_at]; rfl) (by rw [w2_at]; rfl) (by unfold q_orders0; rw [w2_ne (by omega), w2_at])
  have eQ : q_orders (q_copy S V) G = q_ordersN 60 (q_orders0 G, q_copy S V) := by unfold q_orders; with_reducible rfl
  have eD : m_does (m_begins W) = m_doesN (60 + 1) (g_w2 (g_w2 (m_begins W) 0 6 0) 0 8 0) := by unfold m_does; with_reducible rfl
  rw [eQ, eD]
  refine ⟨⟨fun c c1 c3 => (f1.1.1 c c1 c3).trans ?_, f1.1.2.trans ?_⟩, ⟨fun c c0 c1 c5 => (f1.2.1 c c0 c1 c5).trans ?_, f1.2.2.1.trans ?_, f1.2.2.2.trans ?_⟩, f2⟩
  · unfold q_orders0; rw [w2_c c1, w2_c c1, w2_c c1]
  · unfold q_orders0; rw [w2_ne (by omega), w2_ne (by omega), w2_ne (by omega)]
  · rw [w2_c c0, w2_c c0]
  · rw [w2_ne (by omega), w2_ne (by omega), m_begins_c (by decide)]
  · rw [w2_ne (by omega), w2_ne (by omega), m_begins_c (by decide)]
theorem x_same.does {D : g_V} (h1 : ∀ c, c ≠ 0 → c ≠ 1 → c ≠ 5 → D c = m_begins W c) (h2 : D 0 3 = W 0 3) (h3 : D 0 5 = W 0 5) : x_same W (m_returns D) := by
  refine ⟨?_, ?_, ?_, ?_, fun x hx => ?_⟩
  · rw [m_returns_c (by decide), h1 3 (by decide) (by decide) (by decide), m_begins_c (by decide)]
  · rw [m_returns_c (by decide), h1 4 (by decide) (by decide) (by decide), m_begins_c (by decide)]
  · rw [m_returns_c (by decide), h2]
  · rw [m_returns_c (by decide), h3]
  · rw [m_returns_1 hx, h1 2 (by decide) (by decide) (by decide), m_begins_2 hx]
theorem z_play {sn : Nat} (h : z_Rel P M mb lo hi) (hV : M (P 0) = V) (hS : M (P 1) = S) (hG : M 6 = G) (hW : M 7 = W) (hsn : W 0 3 = nI sn ∧ sn ≤ 4) (hmb : mb + 60 ≤ 2000000000) (hlo : -600000000 ≤ lo) (hhi : hi + 3960000 ≤ 2030000000) :
    (if (q_orders (q_copy S V) G).1 1 6 = 0 then q_histUp (q_orders (q_copy S V) G).1 1 4 else -2000000002) = (m_play W sn).1 ∧ z_Rel (if (q_orders (q_copy S V) G).1 1 6 = 0 then q_recP (va_up (va_up P 0 (P 1)) 1 (P 0)) else P) (va_up (va_up (va_up M (P 1) (q_orders (q_copy S V) G).2) 6 (if (q_orders (q_copy S V) G).1 1 6 = 0 then q_histUp (q_orders (q_copy S V) G).1 else (q_orders (q_copy S V) G).1)) 7 (m_play W sn).2) (mb + 60) lo (hi + 3960000) := by
  obtain ⟨⟨q1, q2⟩, ⟨d1, d2, d3⟩, hres⟩ := x_all (S := S) h hV hG hW hmb hlo hhi
  have h0 := h
  obtain ⟨hP, hT, s, a, b, c, ⟨n, d⟩, e⟩ := h
  rw [hG] at hT a
  rw [hW] at hT b d e
  rw [hV] at d
  have es : s = sn := by
    have := hsn.1.symm.trans b
    have := (nI_eq (by omega) (by omega)).mp this
    omega
  subst es
  unfold m_play
  generalize q_orders (q_copy S V) G = Q at q1 q2 hres ⊢
  generalize m_does (m_begins W) = D at d1 d2 d3 hres ⊢
  rcases hres with ⟨r1, r2, r3, r4, n', r5⟩ | ⟨r1, r2, -, -⟩
  · rw [if_pos r2, if_pos r2, if_pos r2, if_neg (show ¬ D.1 = 0 by rw [r1]; decide)]
    have eh1 : q_histUp Q.1 1 = Q.1 1 := by
      unfold q_histUp
      split
      · rfl
      · exact w2_c (by decide)
    have eh2 : q_histUp Q.1 2 = Q.1 2 := by
      unfold q_histUp
      split
      · rfl
      · exact w2_c (by decide)
    have a' : Q.1 0 2 = nI s := by rw [q1 0 (by decide) (by decide)]; exact a
    have eh : q_histUp Q.1 0 2 = nI (min (s + 1) 4) := by
      unfold q_histUp
      rw [a']
      by_cases c4 : s = 4
      · subst c4; rw [if_pos (by decide)]; exact a'
      · rw [if_neg (show ¬ (4 : Int32) ≤ nI s from nI_ge (a := s) (b := 4) (by omega) (by decide)), w2_at, show min (s + 1) 4 = s + 1 by omega]; exact nI_1 s
    refine ⟨by rw [eh1]; exact r3, ?_⟩
    have f2 : ∀ i, va_up (va_up P 0 (P 1)) 1 (P 0) (2 + i) = P (2 + i) := fun i => by rw [va_up_ne _ _ (by omega), va_up_ne _ _ (by omega)]
    have key := z_chg (P := va_up (va_up P 0 (P 1)) 1 (P 0)) (M := M) (X := V) (A := Q.2) (B := D.2) (b1 := D.2 0 8) (G' := q_histUp Q.1) (mb' := mb + 60) (lo' := lo) (hi' := hi + 3960000) hP.swap hT b c (d.mono (by omega) (Int.le_refl _) (by omega)) (fun i hi => by
      obtain ⟨n'', f⟩ := e i hi
      rw [f2]
      exact ⟨n'', f.mono (by omega) (Int.le_refl _) (by omega)⟩) (fun _ _ _ => rfl) r5 (z_good_0 r4) (fun x hx => by rw [d1 2 (by decide) (by decide) (by decide), m_begins_2 hx]) (by rw [d1 3 (by decide) (by decide) (by decide), m_begins_c (by decide)]) (by rw [d1 4 (by decide) (by decide) (by decide), m_begins_c (by decide)]) d2 d3 eh (by rw [eh1]; exact q2) (by rw [eh2]; exact q1 2 (by decide) (by decide))
    have f0 : va_up (va_up P 0 (P 1)) 1 (P 0) 0 = P 1 := rfl
    have f1 : va_up (va_up P 0 (P 1)) 1 (P 0) 1 = P 0 := rfl
    rw [f0, f1, k_eta hV] at key
    exact key
  · have r6 : ¬ Q.1 1 6 = 0 := by rcases r2 with z | z <;> rw [z.1] <;> decide
    rw [if_neg r6, if_neg r6, if_neg r6, if_pos r1]
    refine ⟨rfl, ?_⟩
    dsimp only
    rw [m_acted_err (Or.inr (Or.inl rfl))]
    have h1 : z_Rel P M (mb + 60) lo (hi + 3960000) := by
      refine ⟨hP, by rw [hG, hW]; exact hT, s, by rw [hG]; exact a, by rw [hW]; exact b, c, ⟨n, by rw [hV, hW]; exact d.mono (by omega) (Int.le_refl _) (by omega)⟩, fun i hi => ?_⟩
      obtain ⟨n'', f⟩ := e i hi
      rw [hW]
      exact ⟨n'', f.mono (by omega) (Int.le_refl _) (by omega)⟩
    exact h1.spare (by rw [hG]; rw [q1 0 (by decide) (by decide)]) (by rw [hG]; exact q2) (by rw [hG]; exact q1 2 (by decide) (by decide)) (by rw [hW]; exact x_same.does d1 d2 d3)
theorem z_fault {w : Int32} (h : z_Rel P M mb lo hi) (hV : M (P 0) = V) (hS : M (P 1) = S) (hG : M 6 = G) (hW : M 7 = W) (hmb : mb + 60 ≤ 2000000000) (hlo : -600000000 ≤ lo) (hhi : hi + 3960000 ≤ 2030000000) :
    (if w < 0 then -2000000001 else if w ≤ 2 then (if (q_orders (q_copy S V) G).1 1 6 = 0 then -2000000004 else if w = 0 then (q_orders (q_copy S V) G).1 1 5 else if w = 1 then (q_orders (q_copy S V) G).1 1 6 else (q_orders (q_copy S V) G).1 1 7) else -2000000001) = (m_fault W w).1 ∧ z_Rel P (va_up (va_up (va_up M (P 1) (if w < 0 then S else if w ≤ 2 then (q_orders (q_copy S V) G).2 else S)) 6 (if w < 0 then G else if w ≤ 2 then (q_orders (q_copy S V) G).1 else G)) 7 (m_fault W w).2) mb lo hi := by
  obtain ⟨⟨q1, q2⟩, ⟨d1, d2, d3⟩, hres⟩ := x_all (S := S) h hV hG hW hmb hlo hhi
  unfold m_fault
  generalize q_orders (q_copy S V) G = Q at q1 q2 hres ⊢
  generalize m_does (m_begins W) = D at d1 d2 d3 hres ⊢
  by_cases c : m_in w 0 2
  · rw [if_neg c.1, if_neg c.1, if_neg c.1, if_pos (z_lt.mp c.2), if_pos (z_lt.mp c.2), if_pos (z_lt.mp c.2), if_pos c]
    have hst : ∀ x : Int32, z_Rel P (va_up (va_up (va_up M (P 1) Q.2) 6 Q.1) 7 (m_returns D.2)) mb lo hi := fun _ => h.spare (by rw [hG, q1 0 (by decide) (by decide)]) (by rw [hG]; exact q2) (by rw [hG]; exact q1 2 (by decide) (by decide)) (by rw [hW]; exact x_same.does d1 d2 d3)
    have hr0 : ∀ j, m_returns D.2 0 j = D.2 0 j := fun j => by rw [m_returns_c (by decide)]
    rcases hres with ⟨r1, r2, -⟩ | ⟨r1, r2, r3, r4⟩
    · rw [if_pos r2, if_neg (show ¬ D.1 = 0 by rw [r1]; decide)]
      exact ⟨rfl, hst 0⟩
    · have r6 : ¬ Q.1 1 6 = 0 := by rcases r2 with z | z <;> rw [z.1] <;> decide
      rw [if_neg r6, if_pos r1, hr0, hr0, hr0, hr0]
      by_cases w0 : w = 0
      · rw [if_pos w0, if_pos w0]
        exact ⟨r3, hst 0⟩
      · rw [if_neg w0, if_neg w0]
        by_cases w1 : w = 1
        · rw [if_pos w1, if_pos w1]
          rcases r2 with z | z
          · rw [if_pos z.2]; exact ⟨z.1, hst 0⟩
          · rw [if_neg (show ¬ D.2 0 10 = 0 by rw [z.2]; decide)]; exact ⟨z.1, hst 0⟩
        · rw [if_neg w1, if_neg w1, r4]
          rcases r2 with z | z
          · rw [if_pos z.2, if_pos z.2]; exact ⟨rfl, hst 0⟩
          · rw [if_neg (show ¬ D.2 0 10 = 0 by rw [z.2]; decide), if_neg (show ¬ D.2 0 10 = 0 by rw [z.2]; decide)]; exact ⟨rfl, hst 0⟩
  · rw [if_neg c]
    have hs : x_same (M 7) W := by rw [hW]; exact ⟨rfl, rfl, rfl, rfl, fun _ _ => rfl⟩
    by_cases c1 : w < 0
    · rw [if_pos c1, if_pos c1, if_pos c1]
      exact ⟨rfl, h.spare (by rw [hG]) (by rw [hG]) (by rw [hG]) hs⟩
    · rw [if_neg c1, if_neg c1, if_neg c1]
      by_cases c2 : w ≤ 2
      · exact absurd ⟨c1, z_lt.mpr c2⟩ c
      · rw [if_neg c2, if_neg c2, if_neg c2]
        exact ⟨rfl, h.spare (by rw [hG]) (by rw [hG]) (by rw [hG]) hs⟩
theorem z_undo (h : z_Rel P M mb lo hi) (hG : M 6 = G) (hW : M 7 = W) : (if 0 < G 0 2 then G 0 2 - 1 else -2000000002) = (m_undo W).1 ∧ z_Rel (if 0 < G 0 2 then q_undoP P else P) (va_up (va_up M 6 (if 0 < G 0 2 then g_w2 G 0 2 (G 0 2 - 1) else G)) 7 (m_undo W).2) mb lo hi := by
  have h0 := h
  obtain ⟨hP, hT, s, a, b, c, ⟨n, d⟩, e⟩ := h
  rw [hG] at hT a
  rw [hW] at hT b d e
  unfold m_undo
  rw [a, b, nI_clamp (by omega)]
  by_cases c0 : s = 0
  · subst c0
    simp only [if_neg (show ¬ (0 : Int32) < nI 0 by decide), if_pos (show nI 0 = (0 : Int32) by decide)]
    exact ⟨trivial, h0.txt (by rw [hG]) (by rw [hW]) (by rw [hW]) (by rw [hW]) hT⟩
  · have hp : 0 < nI s := (nI_ltI (a := 0) (b := s) (by decide) (by omega)).mpr (by omega)
    rw [if_pos hp, if_pos hp, if_pos hp, if_neg (nI_ne0 (by omega) (by omega))]
    have e1 : nI s - 1 = nI (s - 1) := k_dp (by omega)
    rw [e1]
    have m03 : m_undoN (g_w2 W 0 3 (nI (s - 1))) (146 * (s - 1)) 146 0 = g_w2 W 0 3 (nI (s - 1)) 0 := m_undoN_c (by decide)
    refine ⟨by rw [m03, w2_at], ?_⟩
    dsimp only
    obtain ⟨r0, r1, r2, r3, r4, r5⟩ := q_undoP_v P
    have e7 : ∀ (Y : g_M) (Z : g_V), va_up Y 7 Z 7 = Z := fun Y Z => va_up_self _ 7 _
    have m6 : ∀ (X : g_M) (Y Z : g_V), va_up (va_up X 6 Y) 7 Z 6 = Y := fun X Y Z => by rw [va_up_ne _ _ (by decide), va_up_self]
    have mr : ∀ (X : g_M) (Y Z : g_V) (r : Nat), r < 6 → va_up (va_up X 6 Y) 7 Z r = X r := fun X Y Z r hr => by rw [va_up_ne _ _ (by omega), va_up_ne _ _ (by omega)]
    refine ⟨hP.undo, ?_, s - 1, ?_, ?_, by omega, ?_, fun i hi => ?_⟩
    · rw [m6, e7]
      exact hT.of (w2_ne (by omega)) (w2_c (by decide)) (by rw [m03, w2_ne (by omega)]) (by rw [m_undoN_c (by decide), w2_c (by decide)])
    · rw [m6, w2_at]
    · rw [e7, m03, w2_at]
    · obtain ⟨n', f⟩ := e 0 (by omega)
      refine ⟨n', ?_⟩
      rw [e7, r0, mr _ _ _ _ (hP.1 2)]
      refine f.cong (fun _ _ _ => rfl) (fun x hx => ?_)
      rw [m_undoN_v, if_pos hx, w2_c (by decide), Nat.sub_zero]
    · obtain ⟨n', f⟩ := e (i + 1) (by omega)
      refine ⟨n', ?_⟩
      have hri : q_undoP P (2 + i) = P (2 + (i + 1)) := by
        rcases (show i = 0 ∨ i = 1 ∨ i = 2 by omega) with rfl | rfl | rfl
        · exact r2
        · exact r3
        · exact r4
      rw [e7, hri, mr _ _ _ _ (hP.1 _), m_undoN_c (by decide), w2_c (by decide)]
      refine f.cong (fun _ _ _ => rfl) (fun x hx => ?_)
      exact congrArg (W 3) (by omega)
theorem x_char : ∀ c : Fin 127, vp_nar .char (((nI c.val).toUInt32 % 65536).toInt32) = nI c.val ∧ narrow .char (.int (nI c.val)) = .int (nI c.val) := by decide +kernel
theorem z_type {ch : Int32} (h : z_Rel P M mb lo hi) (hG : M 6 = G) (hW : M 7 = W) : (q_append G ch).1 = (m_type W ch).1 ∧ z_Rel P (va_up (va_up M 6 (q_append G ch).2) 7 (m_type W ch).2) mb lo hi := by
  have h0 := h
  obtain ⟨hP, hT, -⟩ := h
  rw [hG, hW] at hT
  have hT0 := hT
  obtain ⟨ln, t1, t2, t3, t4, t5⟩ := hT
  have hn : z_Rel P (va_up (va_up M 6 G) 7 W) mb lo hi := h0.txt (by rw [hG]) (by rw [hW]) (by rw [hW]) (by rw [hW]) hT0
  unfold q_append m_type
  rw [t1, t2, nI_clamp (by omega)]
  by_cases c : m_in ch 32 126
  · rw [if_neg c.1, if_pos (z_lt.mp c.2), if_pos c, if_neg (nI_pos (by omega))]
    have hc : 32 ≤ ch.toInt ∧ ch.toInt ≤ 126 := z_rg c
    by_cases c60 : ln = 60
    · subst c60
      rw [if_neg (by decide), if_pos (by decide)]
      exact ⟨rfl, hn⟩
    · rw [if_pos (show nI ln < (60 : Int32) from nI_lt (a := ln) (b := 60) (by omega) (by decide)), if_neg (show ¬ nI ln = (60 : Int32) from fun z => c60 ((nI_eq (a := ln) (b := 60) (by omega) (by decide)).mp z))]
      obtain ⟨x1, x2⟩ := x_char ⟨ch.toInt.toNat, by omega⟩
      dsimp only at x1 x2
      rw [← z_nI (by omega)] at x1 x2
      rw [x1]
      have l1 : g_w2 G 2 ln ch 1 2 = nI ln := by rw [w2_ne (by omega)]; exact t1
      have l2 : g_w2 W 4 ln ch 0 5 = nI ln := by rw [w2_ne (by omega)]; exact t2
      rw [l1, l2]
      dsimp only
      refine ⟨by rw [w2_at, w2_at], h0.txt ?_ ?_ ?_ ?_ ?_⟩
      · rw [w2_ne (by omega), w2_ne (by omega), hG]
      · rw [w2_c (by decide), w2_c (by decide), hW]
      · rw [w2_c (by decide), w2_c (by decide), hW]
      · rw [w2_ne (by omega), w2_ne (by omega), hW]
      · refine ⟨ln + 1, by rw [w2_at]; exact nI_1 ln, by rw [w2_at]; exact nI_1 ln, by omega, fun j hj => ?_, fun j => ?_⟩
        · rw [w2_ne (V := g_w2 G 2 ln ch) (c := 1) (k := 2) (by omega), w2_ne (V := g_w2 W 4 ln ch) (c := 0) (k := 5) (by omega)]
          by_cases e : j = ln
          · subst e; rw [w2_at, w2_at]; exact ⟨rfl, hc⟩
          · rw [w2_ne (by omega), w2_ne (by omega)]; exact t4 j (by omega)
        · rw [w2_ne (V := g_w2 G 2 ln ch) (c := 1) (k := 2) (by omega)]
          by_cases e : j = ln
          · subst e; rw [w2_at]; exact x2
          · rw [w2_ne (by omega)]; exact t5 j
  · rw [if_neg c]
    by_cases c1 : ch < 32
    · rw [if_pos c1]; exact ⟨rfl, hn⟩
    · rw [if_neg c1, if_neg (fun z => c ⟨c1, z_lt.mpr z⟩)]; exact ⟨rfl, hn⟩
theorem z_clear (h : z_Rel P M mb lo hi) (hG : M 6 = G) (hW : M 7 = W) : G 1 2 = (m_clearText W).1 ∧ z_Rel P (va_up (va_up M 6 (g_w2 G 1 2 0)) 7 (m_clearText W).2) mb lo hi := by
  have h0 := h
  obtain ⟨hP, hT, -⟩ := h
  rw [hG, hW] at hT
  obtain ⟨ln, t1, t2, t3, t4, t5⟩ := hT
  unfold m_clearText
  dsimp only
  refine ⟨t1.trans t2.symm, h0.txt ?_ ?_ ?_ ?_ ⟨0, by rw [w2_at]; rfl, by rw [w2_at]; rfl, by decide, fun j hj => absurd hj (Nat.not_lt_zero j), t5.of (w2_c (by decide))⟩⟩
  · rw [w2_ne (by omega), hG]
  · rw [w2_c (by decide), hW]
  · rw [w2_c (by decide), hW]
  · rw [w2_ne (by omega), hW]
end XY
