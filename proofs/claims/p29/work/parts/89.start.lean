/-! ===== the start: words of the nest, static tables ===== -/
section WS
variable {args : Array Value} {s : State}
theorem w_gN (hts : ∀ w ∈ lw_tbl, w.before args s = true) : g_N s := by
  intro w hw
  simp only [g_nest, List.mem_cons, List.not_mem_nil, or_false] at hw
  rcases hw with rfl | rfl | rfl | rfl | rfl | rfl | rfl | rfl | rfl | rfl | rfl | rfl | rfl | rfl
  · exact va_Nw.of (by decide +kernel) (hts _ (List.mem_of_getElem? (i := 319) (by decide +kernel)))
  · exact va_Nw.of (by decide +kernel) (hts _ (List.mem_of_getElem? (i := 357) (by decide +kernel)))
  · exact va_Nw.of (by decide +kernel) (hts _ (List.mem_of_getElem? (i := 334) (by decide +kernel)))
  · exact va_Nw.of (by decide +kernel) (hts _ (List.mem_of_getElem? (i := 297) (by decide +kernel)))
  · exact va_Nw.of (by decide +kernel) (hts _ (List.mem_of_getElem? (i := 562) (by decide +kernel)))
  · exact va_Nw.of (by decide +kernel) (hts _ (List.mem_of_getElem? (i := 284) (by decide +kernel)))
  · exact va_Nw.of (by decide +kernel) (hts _ (List.mem_of_getElem? (i := 632) (by decide +kernel)))
  · exact va_Nw.of (by decide +kernel) (hts _ (List.mem_of_getElem? (i := 55) (by decide +kernel)))
  · exact va_Nw.of (by decide +kernel) (hts _ (List.mem_of_getElem? (i := 58) (by decide +kernel)))
  · exact va_Nw.of (by decide +kernel) (hts _ (List.mem_of_getElem? (i := 60) (by decide +kernel)))
  · exact va_Nw.of (by decide +kernel) (hts _ (List.mem_of_getElem? (i := 62) (by decide +kernel)))
  · exact va_Nw.of (by decide +kernel) (hts _ (List.mem_of_getElem? (i := 64) (by decide +kernel)))
  · exact va_Nw.of (by decide +kernel) (hts _ (List.mem_of_getElem? (i := 565) (by decide +kernel)))
  · exact va_Nw.of (by decide +kernel) (hts _ (List.mem_of_getElem? (i := 567) (by decide +kernel)))
theorem w_nN (hts : ∀ w ∈ lw_tbl, w.before args s = true) : n_N s := by
  intro w hw
  simp only [n_nest, List.mem_cons, List.not_mem_nil, or_false] at hw
  rcases hw with rfl | rfl | rfl
  · exact va_Nw.of (by decide +kernel) (hts _ (List.mem_of_getElem? (i := 48) (by decide +kernel)))
  · exact va_Nw.of (by decide +kernel) (hts _ (List.mem_of_getElem? (i := 96) (by decide +kernel)))
  · exact va_Nw.of (by decide +kernel) (hts _ (List.mem_of_getElem? (i := 110) (by decide +kernel)))
theorem w_AO (hts : ∀ w ∈ lw_tbl, w.before args s = true) : n_AO s :=
  ⟨va_AO.of (hts _ (List.mem_of_getElem? (i := 85) (by decide +kernel))), va_AO.of (hts _ (List.mem_of_getElem? (i := 92) (by decide +kernel))), va_AO.of (hts _ (List.mem_of_getElem? (i := 94) (by decide +kernel)))⟩
theorem w_sta (hts : ∀ w ∈ lw_tbl, w.before args s = true) (hgv : (Jvm.Cond.and given_1 narrow_1).before args s = true) {A : Nat → Prop} (hA : ∀ a : Nat, a < s.heap.size → ¬ A a) : g_sta A s s.heap := by
  have hs := flat_of_before _ hgv
  have hz : (Cond.initialized "GrainReceipts").before args s = true := g_of_tbl hts _ qz_X4
  refine ⟨?_, ?_⟩
  · have hl1 : (Cond.laysStatic "GrainReceipts" "LEAST_SETTINGS" "[I").before args s = true := hts _ (List.mem_of_getElem? (i := 566) (by decide +kernel))
    obtain ⟨t, ht, hT⟩ := va_Tof (A := A) (tm := .static "GrainReceipts" "LEAST_SETTINGS" "[I") (ty := .int) (N := 4) (f := fun j => .int (g_least j)) (by decide) (hs _ (by decide +kernel)) (va_eqt (hs (Cond.eq (.length (.static "GrainReceipts" "LEAST_SETTINGS" "[I")) (.int 4)) (by decide +kernel))) (fun j hj => by
      rcases (show j = 0 ∨ j = 1 ∨ j = 2 ∨ j = 3 by omega) with rfl | rfl | rfl | rfl
      · exact va_eqt (hs (Cond.eq (.elem (.static "GrainReceipts" "LEAST_SETTINGS" "[I") (.int 0)) (.int 10)) (by decide +kernel))
      · exact va_eqt (hs (Cond.eq (.elem (.static "GrainReceipts" "LEAST_SETTINGS" "[I") (.int 1)) (.int 10)) (by decide +kernel))
      · exact va_eqt (hs (Cond.eq (.elem (.static "GrainReceipts" "LEAST_SETTINGS" "[I") (.int 2)) (.int 1)) (by decide +kernel))
      · exact va_eqt (hs (Cond.eq (.elem (.static "GrainReceipts" "LEAST_SETTINGS" "[I") (.int 3)) (.int 0)) (by decide +kernel))) hA
    exact ⟨t, va_Zref hl1 hz ht hA, hT⟩
  · have hl1 : (Cond.laysStatic "GrainReceipts" "GREATEST_SETTINGS" "[I").before args s = true := hts _ (List.mem_of_getElem? (i := 568) (by decide +kernel))
    obtain ⟨t, ht, hT⟩ := va_Tof (A := A) (tm := .static "GrainReceipts" "GREATEST_SETTINGS" "[I") (ty := .int) (N := 4) (f := fun j => .int (g_great j)) (by decide) (hs _ (by decide +kernel)) (va_eqt (hs (Cond.eq (.length (.static "GrainReceipts" "GREATEST_SETTINGS" "[I")) (.int 4)) (by decide +kernel))) (fun j hj => by
      rcases (show j = 0 ∨ j = 1 ∨ j = 2 ∨ j = 3 by omega) with rfl | rfl | rfl | rfl
      · exact va_eqt (hs (Cond.eq (.elem (.static "GrainReceipts" "GREATEST_SETTINGS" "[I") (.int 0)) (.int 100)) (by decide +kernel))
      · exact va_eqt (hs (Cond.eq (.elem (.static "GrainReceipts" "GREATEST_SETTINGS" "[I") (.int 1)) (.int 150)) (by decide +kernel))
      · exact va_eqt (hs (Cond.eq (.elem (.static "GrainReceipts" "GREATEST_SETTINGS" "[I") (.int 2)) (.int 30)) (by decide +kernel))
      · exact va_eqt (hs (Cond.eq (.elem (.static "GrainReceipts" "GREATEST_SETTINGS" "[I") (.int 3)) (.int 20)) (by decide +kernel))) hA
    exact ⟨t, va_Zref hl1 hz ht hA, hT⟩
theorem w_K (hts : ∀ w ∈ lw_tbl, w.before args s = true) : ∃ D : va_G, va_K D vwCl [] s := by
  have hts := g_of_tbl hts
  obtain ⟨c0, i0, k0⟩ := u_known (C := RX0) (T := TX0) (N := 2) (n := 2) hts i_X0 (hts _ qi_X0)
  obtain ⟨c1, i1, k1⟩ := u_known (C := RX1) (T := TX1) (N := 7) (n := 7) hts i_X1 (hts _ qi_X1)
  obtain ⟨c2, i2, k2⟩ := u_known (C := RX2) (T := TX2) (N := 8) (n := 8) hts i_X2 (hts _ qi_X2)
  obtain ⟨c3, i3, k3⟩ := u_known (C := RX3) (T := TX3) (N := 11) (n := 11) hts i_X3 (hts _ qi_X3)
  obtain ⟨c4, i4, k4⟩ := u_known (C := RX4) (T := TX4) (N := 5) (n := 5) hts i_X4 (hts _ qi_X4)
  refine ⟨(fun k => match k with | 0 => c0 | 1 => c1 | 2 => c2 | 3 => c3 | _ => c4, fun k => match k with | 0 => i0 | 1 => i1 | 2 => i2 | 3 => i3 | _ => i4), fun k q hq => ?_, fun k q h => by simp at h⟩
  match k, hq with
  | 0, hq => cases hq; exact k0
  | 1, hq => cases hq; exact k1
  | 2, hq => cases hq; exact k2
  | 3, hq => cases hq; exact k3
  | 4, hq => cases hq; exact k4
  | k + 5, hq => simp [vwCl] at hq
end WS
