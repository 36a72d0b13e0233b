/-! ===== the two objects as made are one world ===== -/
def w_adS (x : Nat × n_u6 × n_c6) (c : Nat) : Nat := if c = 0 then x.1 else if c = 1 then x.2.1.1.1 else if c = 2 then x.2.1.1.2.1 else if c = 3 then x.2.1.1.2.2.1 else if c = 4 then x.2.1.1.2.2.2.1 else if c = 5 then x.2.1.1.2.2.2.2.1 else if c = 6 then x.2.1.1.2.2.2.2.2 else if c < 12 then x.2.1.2.1 (c - 7) else x.2.1.2.2 (c - 12)
def w_adG (b : Nat) (u : n_gu) (c : Nat) : Nat := if c = 0 then b else if c = 1 then u.1 else if c = 2 then u.2.2.1.1 else if c = 3 then u.2.2.1.2.1 else u.2.1
def w_ad (b : Nat) (u : n_gu) : g_Ad := fun r c => if r < 6 then w_adS (u.2.2.2.2 r) c else w_adG b u c
def w_tb (u : n_gu) : g_T := fun k => if k = 0 then u.2.2.1.2.2.2 else if k = 1 then u.2.2.1.2.2.1 else if k = 2 then (u.2.2.2.2 0).2.2.1 else if k = 3 then (u.2.2.2.2 0).2.2.2.1 else u.2.2.2.1
def w_V : g_V := fun c j => if c = 3 then n_pr j else if c = 4 then n_se j else if 12 ≤ c then (if j = 0 ∨ j = 4 then -1 else 0) else if 7 ≤ c then (if j = 0 then nI (c - 7) / 2 else 0) else 0
def w_X : g_V := fun c => if c = 1 then m_row0 else n_z
def w_M : g_M := fun r => if r < 6 then w_V else if r = 7 then w_X else fun _ _ => 0
def w_P : g_P := fun i => if i < 6 then i else 0
def w_idx (r c : Nat) : Nat := if r < 6 then 5 + 28 * r + c else c
def w_sim (D : va_G) (e e' : va_E) : Prop := ∀ (q : Nat) (H : Heap), va_at D vwCl (q, e) H → va_at D vwCl (q, e') H
theorem w_sim.of {D : va_G} {e e' : va_E} (h : e = e') : w_sim D e e' := by subst h; exact fun _ _ h => h
theorem arrV_cong {c : ClassId} {N : Nat} {f g : Nat → Value} (h : ∀ j, j < N → f j = g j) : arrV c N f = arrV c N g := by
  unfold arrV
  have e : (fun j : Fin N => f j.val) = fun j : Fin N => g j.val := funext fun j => h j.val j.isLt
  rw [e]
theorem w_sim.refs {D : va_G} {t t' : ClassId} {N : Nat} {f : Nat → Option Nat} {g : Nat → Nat} (ht : t = t') (h : ∀ i, i < N → f i = some (g i)) : w_sim D (.inl (t, N, .inr (.inr (.inr (.inr f))))) (g_rf N g t') := by
  subst ht
  intro q H hq
  have hq : H[q]? = some (vp_cell t (N, .inr (.inr (.inr (.inr f))))) := hq
  show H[q]? = some (vp_cell t (N, .inr (.inr (.inr (.inr (fun i => some (g i)))))))
  rw [hq, vp_cell_q, vp_cell_q, arrV_cong (fun j hj => by rw [h j hj])]
theorem w_sim.ints {D : va_G} {t t' : ClassId} {N : Nat} {f g : Nat → Int32} (ht : t = t') (h : f = g) : w_sim D (.inl (t, N, .inl f)) (.inl (t', N, .inl g)) := by
  subst ht; subst h
  exact fun _ _ h => h
theorem w_sts_at {S : n_S} : ∀ {k r c : Nat}, r < k → c < 28 → (n_sts S k)[28 * r + c]? = (n_sw (S r).1 (S r).2)[c]?
  | 0, r, c, h, _ => absurd h (Nat.not_lt_zero r)
  | k + 1, r, c, h, hc => by
    rw [n_sts]
    by_cases e : r = k
    · subst e
      rw [List.getElem?_append_right (by rw [n_sts_len]; omega), n_sts_len]
      congr 1
      omega
    · rw [List.getElem?_append_left (by rw [n_sts_len]; omega)]
      exact w_sts_at (by omega) hc
theorem w_sw_bin {b : Nat} {u : n_u6 × n_c6} {i : Nat} (hi : i < 5) : (n_sw b u)[7 + i]? = some (n_binE i (u.1.2.1 i)) := by
  unfold n_sw
  refine n_atL ?_
  rw [List.getElem?_append_right (by show 7 ≤ 7 + i; omega)]
  rw [show 7 + i - (n_s7 b u.1.1.1 u.1.1.2.1 u.1.1.2.2.1 u.1.1.2.2.2.1 u.1.1.2.2.2.2.1 u.1.1.2.2.2.2.2 u.2.1 u.2.2.1 u.2.2.2.1 u.2.2.2.2.1 u.2.2.2.2.2.1 u.2.2.2.2.2.2 (n_refs u.1.2.1 5) (n_refs u.1.2.2 16)).length = i by show 7 + i - 7 = i; omega]
  exact n_many_at hi
theorem w_sw_rec {b : Nat} {u : n_u6 × n_c6} {i : Nat} (hi : i < 16) : (n_sw b u)[12 + i]? = some (n_recE i (u.1.2.2 i)) := by
  unfold n_sw
  rw [List.getElem?_append_right (by rw [List.length_append, n_many_len]; show 7 + 5 ≤ 12 + i; omega)]
  rw [List.length_append, n_many_len]
  rw [show 12 + i - ((n_s7 b u.1.1.1 u.1.1.2.1 u.1.1.2.2.1 u.1.1.2.2.2.1 u.1.1.2.2.2.2.1 u.1.1.2.2.2.2.2 u.2.1 u.2.2.1 u.2.2.2.1 u.2.2.2.2.1 u.2.2.2.2.2.1 u.2.2.2.2.2.2 (n_refs u.1.2.1 5) (n_refs u.1.2.2 16)).length + 5) = i by show 12 + i - (7 + 5) = i; omega]
  exact n_many_at hi
/-- the class numbers of the arrays agree -/
def w_ty (u : n_gu) (tb : g_T) : Prop :=
  (u.2.2.1.2.2.1 = tb 1 ∧ u.2.2.1.2.2.2 = tb 0 ∧ u.2.2.2.1 = tb 4) ∧ ∀ r, r < 6 → (u.2.2.2.2 r).2.2.1 = tb 2 ∧ (u.2.2.2.2 r).2.2.2.1 = tb 3 ∧ (u.2.2.2.2 r).2.2.2.2.1 = tb 0 ∧ (u.2.2.2.2 r).2.2.2.2.2.1 = tb 0 ∧ (u.2.2.2.2 r).2.2.2.2.2.2.1 = tb 0 ∧ (u.2.2.2.2 r).2.2.2.2.2.2.2 = tb 0
section WW
variable {b : Nat} {u : n_gu} {tb : g_T} {D : va_G}
theorem w_adr {r c : Nat} (hr : r < 6) : w_ad b u r c = w_adS (u.2.2.2.2 r) c := if_pos hr
theorem w_V_bin {i j : Nat} (hi : i < 5) : w_V (7 + i) j = if j = 0 then nI i / 2 else 0 := by
  unfold w_V
  rw [if_neg (by omega), if_neg (by omega), if_neg (by omega), if_pos (by omega), Nat.add_sub_cancel_left]
theorem w_V_rec {i j : Nat} : w_V (12 + i) j = if j = 0 ∨ j = 4 then -1 else 0 := by
  unfold w_V
  rw [if_neg (by omega), if_neg (by omega), if_pos (by omega)]
theorem w_adS_bin {x : Nat × n_u6 × n_c6} {i : Nat} (hi : i < 5) : w_adS x (7 + i) = x.2.1.2.1 i := by
  unfold w_adS
  rw [if_neg (by omega), if_neg (by omega), if_neg (by omega), if_neg (by omega), if_neg (by omega), if_neg (by omega), if_neg (by omega), if_pos (by omega), Nat.add_sub_cancel_left]
theorem w_adS_rec {x : Nat × n_u6 × n_c6} {i : Nat} : w_adS x (12 + i) = x.2.1.2.2 i := by
  unfold w_adS
  rw [if_neg (by omega), if_neg (by omega), if_neg (by omega), if_neg (by omega), if_neg (by omega), if_neg (by omega), if_neg (by omega), if_neg (by omega), Nat.add_sub_cancel_left]
theorem w_atS (hT : w_ty u tb) {r c : Nat} (hr : r < 6) (hc : c < 28) : ∃ e, (n_sw (u.2.2.2.2 r).1 (u.2.2.2.2 r).2)[c]? = some (w_adS (u.2.2.2.2 r) c, e) ∧ w_sim D e (g_S tb (w_ad b u) w_V r c) := by
  obtain ⟨t1, t2, t3, t4, t5, t6⟩ := hT.2 r hr
  by_cases h12 : 12 ≤ c
  · obtain ⟨i, rfl⟩ : ∃ i, c = 12 + i := ⟨c - 12, by omega⟩
    rw [w_adS_rec]
    refine ⟨_, w_sw_rec (by omega), w_sim.of ?_⟩
    unfold g_S
    rw [if_pos (by omega), w_V_rec, w_V_rec, w_V_rec, w_V_rec, w_V_rec, w_V_rec, w_V_rec]
    rfl
  · by_cases h7 : 7 ≤ c
    · obtain ⟨i, rfl⟩ : ∃ i, c = 7 + i := ⟨c - 7, by omega⟩
      rw [w_adS_bin (by omega)]
      refine ⟨_, w_sw_bin (by omega), w_sim.of ?_⟩
      unfold g_S
      rw [if_neg (by omega), if_pos (by omega), w_V_bin (by omega), w_V_bin (by omega)]
      rfl
    · rcases (show c = 0 ∨ c = 1 ∨ c = 2 ∨ c = 3 ∨ c = 4 ∨ c = 5 ∨ c = 6 by omega) with rfl | rfl | rfl | rfl | rfl | rfl | rfl
      · refine ⟨_, n_atL (n_atL rfl), w_sim.of ?_⟩
        unfold g_S
        rw [if_neg (by decide), if_neg (by decide), if_pos rfl, w_adr hr, w_adr hr, w_adr hr, w_adr hr, w_adr hr, w_adr hr]
        rfl
      · refine ⟨_, n_atL (n_atL rfl), ?_⟩
        unfold g_S
        rw [if_neg (by decide), if_neg (by decide), if_neg (by decide), if_pos rfl]
        exact w_sim.refs t1 (fun i hi => by rw [w_adr hr, w_adS_bin hi]; exact if_pos hi)
      · refine ⟨_, n_atL (n_atL rfl), ?_⟩
        unfold g_S
        rw [if_neg (by decide), if_neg (by decide), if_neg (by decide), if_neg (by decide), if_pos rfl]
        exact w_sim.refs t2 (fun i hi => by rw [w_adr hr, w_adS_rec]; exact if_pos hi)
      · refine ⟨_, n_atL (n_atL rfl), ?_⟩
        exact w_sim.ints t3 rfl
      · refine ⟨_, n_atL (n_atL rfl), ?_⟩
        exact w_sim.ints t4 rfl
      · refine ⟨_, n_atL (n_atL rfl), ?_⟩
        exact w_sim.ints t5 rfl
      · refine ⟨_, n_atL (n_atL rfl), ?_⟩
        exact w_sim.ints t6 rfl
theorem w_len : (n_gw b u).length = 173 := by
  unfold n_gw
  rw [List.length_append, n_sts_len]
  rfl
theorem w_at (hT : w_ty u tb) {r c : Nat} (h : g_ok r c = true) : ∃ e, (n_gw b u)[w_idx r c]? = some (w_ad b u r c, e) ∧ w_sim D e (g_E tb (w_ad b u) w_P w_M r c) := by
  by_cases hr : r < 6
  · have hc : c < 28 := (g_ok_lt h).2
    have e1 : w_idx r c = 5 + 28 * r + c := if_pos hr
    obtain ⟨e, h1, h2⟩ := w_atS (b := b) (D := D) hT hr hc
    have e2 : g_E tb (w_ad b u) w_P w_M r c = g_S tb (w_ad b u) w_V r c := by
      unfold g_E
      rw [if_pos hr]
      have : w_M r = w_V := if_pos hr
      rw [this]
    refine ⟨e, ?_, by rw [e2]; exact h2⟩
    rw [e1, w_adr hr]
    unfold n_gw
    rw [List.getElem?_append_right (by show 5 ≤ 5 + 28 * r + c; omega)]
    have e3 : 5 + 28 * r + c - (n_gh b u.1 u.2.1 u.2.2.1 u.2.2.2.1 (n_gr u.1 u.2.1 (.ref (u.2.2.2.2 0).1) (.ref (u.2.2.2.2 1).1)) (n_refs (fun i => (u.2.2.2.2 (2 + i)).1) 4)).length = 28 * r + c := by show 5 + 28 * r + c - 5 = 28 * r + c; omega
    rw [e3, w_sts_at hr hc]
    exact h1
  · by_cases h6 : r = 6
    · subst h6
      have hc : c < 5 := by simpa [g_ok] using h
      obtain ⟨t1, t2, t3⟩ := hT.1
      rcases (show c = 0 ∨ c = 1 ∨ c = 2 ∨ c = 3 ∨ c = 4 by omega) with rfl | rfl | rfl | rfl | rfl
      · exact ⟨_, n_atL rfl, w_sim.of rfl⟩
      · exact ⟨_, n_atL rfl, w_sim.of rfl⟩
      · exact ⟨_, n_atL rfl, w_sim.ints t1 rfl⟩
      · exact ⟨_, n_atL rfl, w_sim.ints t2 rfl⟩
      · refine ⟨_, n_atL rfl, w_sim.refs t3 (fun i hi => ?_)⟩
        have e1 : w_P (2 + i) = 2 + i := if_pos (by omega)
        show n_refs _ 4 i = some (w_ad b u (w_P (2 + i)) 0)
        rw [e1, w_adr (by omega)]
        exact if_pos hi
    · unfold g_ok at h; rw [if_neg hr, if_neg h6] at h; cases h
theorem w_ok6 {r c : Nat} (h : g_ok r c = true) : (r < 6 ∧ c < 28) ∨ (r = 6 ∧ c < 5) := by
  unfold g_ok at h
  by_cases hr : r < 6
  · rw [if_pos hr] at h; exact Or.inl ⟨hr, of_decide_eq_true h⟩
  · rw [if_neg hr] at h
    by_cases h6 : r = 6
    · rw [if_pos h6] at h; exact Or.inr ⟨h6, of_decide_eq_true h⟩
    · rw [if_neg h6] at h; cases h
theorem w_idx_inj {r c r' c' : Nat} (h : g_ok r c = true) (h' : g_ok r' c' = true) (e : w_idx r c = w_idx r' c') : r = r' ∧ c = c' := by
  unfold w_idx at e
  rcases w_ok6 h with ⟨a1, a2⟩ | ⟨a1, a2⟩ <;> rcases w_ok6 h' with ⟨b1, b2⟩ | ⟨b1, b2⟩
  · rw [if_pos a1, if_pos b1] at e; omega
  · rw [if_pos a1, if_neg (by omega)] at e; omega
  · rw [if_neg (by omega), if_pos b1] at e; omega
  · rw [if_neg (by omega), if_neg (by omega)] at e; omega
theorem w_inj {A : Nat → Prop} (hT : w_ty u tb) (hD : va_D A (n_gw b u)) : g_inj (w_ad b u) ∧ ∀ r c, g_ok r c = true → A (w_ad b u r c) := by
  refine ⟨fun r c r' c' h h' e => ?_, fun r c h => ?_⟩
  · obtain ⟨e1, h1, -⟩ := w_at (b := b) (D := (fun _ => 0, fun _ _ => 0)) hT h
    obtain ⟨e2, h2, -⟩ := w_at (b := b) (D := (fun _ => 0, fun _ _ => 0)) hT h'
    exact w_idx_inj h h' (hD.1 _ _ _ _ h1 h2 e)
  · obtain ⟨e1, h1, -⟩ := w_at (b := b) (D := (fun _ => 0, fun _ _ => 0)) hT h
    exact hD.2 _ _ h1
theorem w_world {H : Heap} (hT : w_ty u tb) (hP : va_P D vwCl (n_gw b u) H) : va_P D vwCl (g_W tb (w_ad b u) w_P w_M) H := by
  intro k q hk
  unfold g_W at hk
  rw [List.getElem?_map] at hk
  cases hx : g_L[k]? with
  | none => rw [hx] at hk; cases hk
  | some p =>
    rw [hx] at hk
    cases hk
    obtain ⟨r, c⟩ := p
    obtain ⟨e, h1, h2⟩ := w_at (b := b) (D := D) hT (g_L_ok (List.mem_of_getElem? hx))
    exact h2 _ H (hP _ _ h1)
theorem va_RA_one {s : State} {t t' : ClassId} {ty : FieldType} (h : va_RA s t ty) (h' : va_RA s t' ty) : t = t' := by
  cases ty with
  | object C =>
    obtain ⟨_, _, -, -, -, e⟩ := h
    obtain ⟨_, _, -, -, -, e'⟩ := h'
    exact Option.some.inj (e.symm.trans e')
  | _ => exact Option.some.inj (h.symm.trans h')
end WW
