/-! ===== a pledge has a loan, no other receipt has: kept by all that writes a state ===== -/
def v_ok1 (V : g_V) (i : Nat) : Prop := (V (12 + i) 4 = -1 ∧ V (12 + i) 5 = 0) ∨ (¬ V (12 + i) 4 = -1 ∧ 1 ≤ (V (12 + i) 5).toInt)
def v_4 (V : g_V) : Prop := ∀ i, i < 16 → v_ok1 V i
theorem v_ok1.of {V V' : g_V} {i : Nat} (h : v_ok1 V i) (e4 : V' (12 + i) 4 = V (12 + i) 4) (e5 : V' (12 + i) 5 = V (12 + i) 5) : v_ok1 V' i := by
  unfold v_ok1
  rw [e4, e5]
  exact h
theorem v_4.one {V V' : g_V} (h : v_4 V) (i0 : Nat) (hs : ∀ i, i ≠ i0 → V' (12 + i) 4 = V (12 + i) 4 ∧ V' (12 + i) 5 = V (12 + i) 5) (h0 : i0 < 16 → v_ok1 V' i0) : v_4 V' := fun i hi => by
  by_cases e : i = i0
  · subst e; exact h0 hi
  · exact (h i hi).of (hs i e).1 (hs i e).2
theorem v_4.w {V : g_V} (h : v_4 V) {c k : Nat} {x : Int32} (hc : c < 12 ∨ (k ≠ 4 ∧ k ≠ 5)) : v_4 (g_w2 V c k x) := fun i hi =>
  (h i hi).of (w2_ne (by omega)) (w2_ne (by omega))
theorem v_4.iter {f : Nat → g_V → g_V} (hf : ∀ i U, v_4 U → v_4 (f i U)) {V : g_V} (h : v_4 V) : ∀ N, v_4 (k_iter f V N)
  | 0 => h
  | N + 1 => by rw [k_iter]; exact hf N _ (v_4.iter hf h N)
theorem v_4.iter2 {f : Nat → g_V × Int32 → g_V × Int32} (hf : ∀ i q, v_4 q.1 → v_4 (f i q).1) {q : g_V × Int32} (h : v_4 q.1) : ∀ N, v_4 (k_iter f q N).1
  | 0 => h
  | N + 1 => by rw [k_iter]; exact hf N _ (v_4.iter2 hf h N)
theorem v_4.use {V : g_V} (h : v_4 V) {i : Nat} {a b c d : Int32} : v_4 (q_use V i a b c d) :=
  (((h.w (by omega)).w (by omega)).w (by omega)).w (by omega)
theorem v_4.endP {V : g_V} (h : v_4 V) {i : Nat} : v_4 (q_endPledge V i) := by
  unfold q_endPledge
  refine h.one i (fun j hj => ⟨?_, ?_⟩) (fun _ => Or.inl ⟨?_, ?_⟩)
  · rw [w2_ne (by omega), w2_ne (by omega), w2_ne (by omega)]
  · rw [w2_ne (by omega), w2_ne (by omega), w2_ne (by omega)]
  · rw [w2_ne (by omega), w2_ne (by omega), w2_at]
  · rw [w2_ne (by omega), w2_at]
theorem v_4.fre {V : g_V} (h : v_4 V) {i : Nat} : v_4 (q_free V i) := h.use.endP
theorem v_4.addM {V : g_V} (h : v_4 V) {o a : Int32} : v_4 (q_addMoney V o a) := by
  unfold q_addMoney
  split
  · exact h.w (by omega)
  · exact h
theorem v_4.day {V : g_V} (h : v_4 V) : v_4 (q_passDay V) := by
  refine v_4.iter (fun i U hU => ?_) (h.w (by omega)) 16
  have hd : v_4 (q_dec U i) := hU.w (by omega)
  unfold q_dayStep
  split
  · split
    · split
      · exact hd
      · unfold q_seize
        split
        · unfold q_seize2 q_seize1
          exact (((hd.w (by omega)).w (by omega)).w (by omega)).endP
        · exact hd
    · exact hd.w (by omega)
  · exact hU
theorem v_4.same {V V' : g_V} (h : v_4 V) (e : ∀ i, i < 16 → V' (12 + i) 4 = V (12 + i) 4 ∧ V' (12 + i) 5 = V (12 + i) 5) : v_4 V' := fun i hi => (h i hi).of (e i hi).1 (e i hi).2
theorem v_4.callS {le : Int32} {i : Nat} {q : g_V × Int32} (hq : v_4 q.1) : v_4 (q_callStep le i q).1 := by
  unfold q_callStep
  split
  · exact hq.w (by omega)
  · exact hq
theorem v_4.call {V : g_V} {le : Int32} (h : v_4 V) : v_4 (q_call V le).2 := by
  unfold q_call
  split
  · dsimp only
    exact v_4.iter2 (f := q_callStep le) (q := (V, 0)) (fun i q hq => hq.callS) h 16
  · exact h
theorem v_4.delr {V : g_V} {x : Int32} (h : v_4 V) : v_4 (q_deliver V x).2 := by
  unfold q_deliver
  split
  · exact h
  · split
    · exact h
    · dsimp only
      unfold q_deliver1
      refine v_4.fre ?_
      refine v_4.w ?_ (by omega)
      refine h.same (fun i hi => ?_)
      have e : ∀ a b, (q_take V a b).1 (12 + i) = V (12 + i) := fun a b => q_take_c (by omega) 5 (Nat.le_refl 5)
      rw [q_delv_c (by omega), e]
      exact ⟨rfl, rfl⟩
theorem v_4.plg {V : g_V} {x le lo : Int32} (h : v_4 V) : v_4 (q_pledge V x le lo).2 := by
  unfold q_pledge
  split
  · exact h
  · next i2 _ =>
    split
    · next hle =>
      split
      · next hlo =>
        split
        · exact h
        · split
          · exact h
          · split
            · dsimp only
              refine v_4.addM ?_
              refine h.one i2 (fun j hj => ⟨?_, ?_⟩) (fun _ => Or.inr ⟨?_, ?_⟩)
              · rw [w2_ne (by omega), w2_ne (by omega)]
              · rw [w2_ne (by omega), w2_ne (by omega)]
              · rw [w2_ne (by omega), w2_at]
                intro z
                have := (k_in_ti hle).1
                rw [z] at this
                exact absurd this (by decide)
              · rw [w2_at]
                rw [Int32.le_iff_toInt_le, z_i1] at hlo
                exact hlo
            · exact h
      · exact h
    · exact h
theorem v_4.prc {V : g_V} {x y : Int32} (h : v_4 V) : v_4 (q_price V x y).2 := by
  unfold q_price
  split
  · split
    · exact h
    · split
      · exact h.w (by omega)
      · exact h
  · exact h
theorem v_4.fil {V : g_V} {x a : Int32} (h : v_4 V) : v_4 (q_fill V x a) := by
  unfold q_fill
  refine v_4.iter2 (f := q_fillStep x) (q := (V, a)) (fun i q hq => ?_) h 5
  unfold q_fillStep
  split
  · exact hq.w (by omega)
  · exact hq
theorem v_4.sto {V : g_V} {o x a : Int32} (h : v_4 V) : v_4 (q_store V o x a).2 := by
  unfold q_store
  split
  · exact h
  · split
    · exact h
    · split
      · split
        · exact h
        · split
          · split
            · exact h
            · split
              · refine v_4.use ?_
                unfold q_next
                exact h.fil.w (by omega)
              · exact h
          · exact h
      · exact h
theorem v_4.pas {V : g_V} {x : Int32} (h : v_4 V) : v_4 (q_pass V x).2 := by
  unfold q_pass
  split
  · exact h
  · split
    · dsimp only
      unfold q_passN
      exact v_4.iter (fun _ U hU => hU.day) h _
    · exact h
theorem v_4.order {V F : g_V} {x : Int32} (h : v_4 V) : v_4 (q_doOrder V F x).2 := by
  unfold q_doOrder
  split
  · exact h.call
  · split
    · exact h.delr
    · split
      · exact h.plg
      · split
        · exact h.prc
        · split
          · exact h.sto
          · split
            · exact h.pas
            · exact h
theorem v_4.orders : ∀ (n : Nat) (q : g_V × g_V), v_4 q.2 → v_4 (q_ordersN n q).2
  | 0, _, h => h
  | n + 1, q, h => by
    rw [q_ordersN]
    split
    · exact h
    · split
      · exact h
      · split
        · exact h.order
        · exact v_4.orders n _ h.order
theorem v_4.han {V : g_V} {x y : Int32} (h : v_4 V) : v_4 (q_hand V x y).2 := by
  unfold q_hand
  repeat' split
  all_goals first | exact h | exact h.w (by omega)
theorem v_4.joi {V : g_V} {x y : Int32} (h : v_4 V) : v_4 (q_join V x y).2 := by
  unfold q_join
  repeat' split
  all_goals first | exact h | exact (h.w (by omega)).fre
theorem v_4.rep {V : g_V} {x a : Int32} (h : v_4 V) : v_4 (q_repay V x a).2 := by
  unfold q_repay
  split
  · exact h
  · next i2 hf =>
    have hi : i2 < 16 := k_find_lt hf
    split
    · next ha =>
      split
      · next hp =>
        split
        · next hle =>
          have hU : ∀ X : g_V, X = q_addMoney (g_w2 V (12 + i2) 5 (V (12 + i2) 5 - a)) (g_w2 V (12 + i2) 5 (V (12 + i2) 5 - a) (12 + i2) 1) (-a) → (∀ c, c ≠ 5 → c ≠ 12 + i2 → X c = V c) ∧ (X (12 + i2) 5 = V (12 + i2) 5 - a) ∧ (¬ X (12 + i2) 5 = 0 → v_4 X) := by
            intro X hX
            have e : ∀ c, c ≠ 5 → X c = g_w2 V (12 + i2) 5 (V (12 + i2) 5 - a) c := fun c hc => by
              rw [hX]
              unfold q_addMoney
              split
              · exact w2_c hc
              · rfl
            have e5 : X (12 + i2) 5 = V (12 + i2) 5 - a := by rw [e _ (by omega), w2_at]
            refine ⟨fun c hc hi2 => (e c hc).trans (w2_c hi2), e5, fun h0 => ?_⟩
            refine h.one i2 (fun j hj => ⟨?_, ?_⟩) (fun _ => Or.inr ⟨?_, ?_⟩)
            · rw [e _ (by omega), w2_ne (by omega)]
            · rw [e _ (by omega), w2_ne (by omega)]
            · rw [e _ (by omega), w2_ne (by omega)]; exact hp
            · rw [e5] at h0 ⊢
              rw [Int32.le_iff_toInt_le] at hle ha
              rw [z_i1] at ha
              have hb := Int32.toInt_lt (V (12 + i2) 5)
              have e2 : (V (12 + i2) 5 - a).toInt = (V (12 + i2) 5).toInt - a.toInt := z_sub (by omega) (by omega)
              rw [e2]
              have : (V (12 + i2) 5).toInt - a.toInt ≠ 0 := fun z => h0 (z_ext (by rw [e2, z, z_i0]))
              omega
          obtain ⟨hXc, hX5, hX⟩ := hU _ rfl
          generalize q_addMoney (g_w2 V (12 + i2) 5 (V (12 + i2) 5 - a)) (g_w2 V (12 + i2) 5 (V (12 + i2) 5 - a) (12 + i2) 1) (-a) = X at hXc hX hX5 ⊢
          split
          · next h0 =>
            dsimp only
            intro i hi
            by_cases e : i = i2
            · subst e
              unfold q_endPledge
              refine Or.inl ⟨?_, ?_⟩
              · rw [w2_ne (by omega), w2_ne (by omega), w2_at]
              · rw [w2_ne (by omega), w2_at]
            · have hX' : v_ok1 X i := (h i hi).of (by rw [hXc _ (by omega) (by omega)]) (by rw [hXc _ (by omega) (by omega)])
              unfold q_endPledge
              exact hX'.of (by rw [w2_ne (by omega), w2_ne (by omega), w2_ne (by omega)]) (by rw [w2_ne (by omega), w2_ne (by omega), w2_ne (by omega)])
          · next h0 =>
            split
            · exact hX h0
            · exact (hX h0).w (by omega)
        · exact h
      · exact h
    · exact h
theorem v_4.los {V : g_V} {x a : Int32} (h : v_4 V) : v_4 (q_lose V x a).2 := by
  unfold q_lose
  split
  · next hk =>
    obtain ⟨hj, -, -⟩ := z_cl hk (N := 5) rfl
    repeat' split
    all_goals first | exact h | exact (h.w (by omega)).w (by omega)
  · exact h
theorem v_4.reg {V : g_V} {x a : Int32} (h : v_4 V) : v_4 (q_regrade V x a).2 := by
  unfold q_regrade
  split
  · next hk =>
    obtain ⟨hj, -, -⟩ := z_cl hk (N := 5) rfl
    unfold q_regrade2
    repeat' split
    all_goals first | exact h | exact h.w (by omega)
  · exact h
theorem v_4.set {V : g_V} {x a : Int32} (h : v_4 V) : v_4 (q_set V x a).2 := by
  unfold q_set
  repeat' split
  all_goals first | exact h | exact h.w (by omega)
theorem v_4.cpy {V S : g_V} (h : v_4 V) : v_4 (q_copy S V) := h.same (fun i hi => by
  refine ⟨q_copy_v ?_, q_copy_v ?_⟩
  · unfold z_pl; omega
  · unfold z_pl; omega)
/-- a part of a loan is less than it -/
theorem z_share_lt {l a A : Int32} (hl : 1 ≤ l.toInt) (ha : 0 ≤ a.toInt) (haA : a.toInt < A.toInt) (hlM : l.toInt ≤ 990000) (hAM : A.toInt ≤ 10000) : ((l.toInt64 * a.toInt64 / A.toInt64).toInt32).toInt < l.toInt := by
  have h1 : l.toInt * a.toInt < l.toInt * A.toInt := Int.mul_lt_mul_of_pos_left haA (by omega)
  have h2 : l.toInt * A.toInt ≤ l.toInt * 10000 := Int.mul_le_mul_of_nonneg_left hAM (by omega)
  have h3 : 0 ≤ l.toInt * a.toInt := Int.mul_nonneg (by omega) ha
  have e1 : (l.toInt64 * a.toInt64).toInt = l.toInt * a.toInt := by
    rw [Int64.toInt_mul, Int32.toInt_toInt64, Int32.toInt_toInt64]
    exact z_bm64 (by omega) (by omega)
  have h4 : 0 ≤ l.toInt * a.toInt / A.toInt := Int.ediv_nonneg h3 (by omega)
  have h5 : l.toInt * a.toInt / A.toInt < l.toInt := Int.ediv_lt_of_lt_mul (by omega) h1
  have e2 : (l.toInt64 * a.toInt64 / A.toInt64).toInt = l.toInt * a.toInt / A.toInt := by
    rw [Int64.toInt_div, e1, Int32.toInt_toInt64, Int.tdiv_eq_ediv_of_nonneg h3]
    exact z_bm64 (by omega) (by omega)
  have e3 : ((l.toInt64 * a.toInt64 / A.toInt64).toInt32).toInt = l.toInt * a.toInt / A.toInt := by
    rw [Int64.toInt_toInt32, e2]
    exact z_bm (by omega) (by omega)
  omega
theorem v_4.spl {V : g_V} {S : Nat → Int32} {n : Nat} {mb lo hi : Int} {x a : Int32} (h : v_4 V) (hz : z_R V S n mb lo hi) : v_4 (q_split V x a).2 := by
  obtain ⟨g, hL, h1, h2, h3⟩ := hz
  unfold q_split
  split
  · exact h
  · next i2 hf =>
    have hi : i2 < 16 := k_find_lt hf
    have hu : q_used V i2 := (of_decide_eq_true (k_find_some hf).2.1).1
    obtain ⟨k, hk, rfl⟩ : ∃ k, k < n ∧ g k = i2 := by
      rcases hL.cases hi with z | z
      · exact absurd z.1 hu
      · exact z
    split
    · next c1 =>
      split
      · next c2 =>
        split
        · exact h
        · next i7 hf7 =>
          have hi7 : i7 < 16 := k_find_lt hf7
          have hu7 : ¬ q_used V i7 := of_decide_eq_true (k_find_some hf7).2.1
          have hne : g k ≠ i7 := fun z => hu7 (z ▸ hu)
          have hf7 : z_free V i7 := by
            rcases hL.cases hi7 with z | ⟨k', hk', e⟩
            · exact z
            · exact absurd (e ▸ z_used hL h2 hk') hu7
          dsimp only
          refine v_4.w ?_ (by omega)
          have eU : ∀ c j, c ≠ 12 + i7 → c ≠ 0 → q_use (q_next V) i7 (V 0 7) (q_next V (12 + g k) 1) (q_next V (12 + g k) 2) a c j = V c j := fun c j hc h0 => by
            unfold q_use q_next
            rw [w2_ne (by omega), w2_ne (by omega), w2_ne (by omega), w2_ne (by omega), w2_ne (by omega)]
          have eU3 : q_use (q_next V) i7 (V 0 7) (q_next V (12 + g k) 1) (q_next V (12 + g k) 2) a (12 + i7) 3 = a := by
            unfold q_use
            rw [w2_at]
          have hU : v_4 (q_use (q_next V) i7 (V 0 7) (q_next V (12 + g k) 1) (q_next V (12 + g k) 2) a) := by
            refine v_4.use ?_
            unfold q_next
            exact h.w (by omega)
          generalize q_use (q_next V) i7 (V 0 7) (q_next V (12 + g k) 1) (q_next V (12 + g k) 2) a = U at eU eU3 hU ⊢
          unfold q_splitLoanA
          rw [eU (12 + g k) 3 (by omega) (by omega), eU (12 + g k) 5 (by omega) (by omega), eU (12 + g k) 4 (by omega) (by omega), eU3]
          obtain ⟨-, -, hr3, hr4, hr5, -⟩ := h1.row hk
          have hamt := h1.amt hk
          rw [← hL.row hk (j := 3) (by decide)] at hr3 hamt
          rw [← hL.row hk (j := 4) (by decide)] at hr4
          rw [← hL.row hk (j := 5) (by decide)] at hr5
          rw [Int32.le_iff_toInt_le, z_i1] at c1
          rw [Int32.lt_iff_toInt_lt] at c2
          split
          · split
            · exact hU
            · next c3 =>
              rw [w2_ne (c := 12 + i7) (k := 5) (c' := 12 + g k) (j := 5) (by omega), w2_ne (V := U) (c := 12 + i7) (k := 4) (c' := 12 + g k) (j := 5) (by omega), eU (12 + g k) 5 (by omega) (by omega)]
              have hs0 := z_share (l := V (12 + g k) 5) (a := a) (A := V (12 + g k) 3) hr5.1 (by omega) (by omega) (by omega) hr5.2 hamt
              have hlt : 1 ≤ (V (12 + g k) 5).toInt → (((V (12 + g k) 5).toInt64 * a.toInt64 / (V (12 + g k) 3).toInt64).toInt32).toInt < (V (12 + g k) 5).toInt := fun hl => z_share_lt hl (by omega) c2 hr5.2 hamt
              generalize ((V (12 + g k) 5).toInt64 * a.toInt64 / (V (12 + g k) 3).toInt64).toInt32 = L at c3 hs0 hlt ⊢
              have hL1 : 1 ≤ L.toInt := by
                have := z_pos c3
                omega
              have hp : ¬ V (12 + g k) 4 = -1 ∧ 1 ≤ (V (12 + g k) 5).toInt := by
                rcases h (g k) hi with z | z
                · have := z.2
                  rw [this, z_i0] at hs0
                  omega
                · exact z
              have hlt' := hlt hp.2
              intro i hi
              by_cases e : i = g k
              · subst e
                refine Or.inr ⟨?_, ?_⟩
                · rw [w2_ne (by omega), w2_ne (by omega), w2_ne (by omega), eU (12 + g k) 4 (by omega) (by omega)]
                  exact hp.1
                · rw [w2_at, z_sub (by omega) (by omega)]
                  omega
              · by_cases e7 : i = i7
                · subst e7
                  refine Or.inr ⟨?_, ?_⟩
                  · rw [w2_ne (by omega), w2_ne (by omega), w2_at]
                    exact hp.1
                  · rw [w2_ne (by omega), w2_at]
                    exact hL1
                · exact (hU i hi).of (by rw [w2_ne (by omega), w2_ne (by omega), w2_ne (by omega)]) (by rw [w2_ne (by omega), w2_ne (by omega), w2_ne (by omega)])
          · exact hU
      · exact h
    · exact h
/-- all states but the spare one -/
def v_I (P : g_P) (M : g_M) : Prop := ∀ i, i < 6 → i ≠ 1 → v_4 (M (P i))
