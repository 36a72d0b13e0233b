theorem k_cmpI (a b : Int) : compare a b = if a < b then .lt else if a = b then .eq else .gt := rfl
theorem kF_lt {E T E2 : Nat} (h1 : 1 ≤ E) (hE : E ≤ 254) (hT : T < 8388608) (hE2 : E2 ≤ 254) (h : E < E2) : FP.fcmp (kF E T) (kF E2 0) = some .lt := by
  show FP.Core.order _ _ = _
  rw [kF_dec h1 hE hT, kF_dec (by omega) hE2 (by omega)]
  show some (compare ((FP.Core.inUnits (8388608 + T) ((E : Int) - 150) (min ((E : Int) - 150) ((E2 : Int) - 150)) : Nat) : Int) ((FP.Core.inUnits (8388608 + 0) ((E2 : Int) - 150) (min ((E : Int) - 150) ((E2 : Int) - 150)) : Nat) : Int)) = _
  rw [Int.min_eq_left (by omega)]
  unfold FP.Core.inUnits
  rw [show ((E : Int) - 150 - ((E : Int) - 150)).toNat = 0 from by omega, show ((E2 : Int) - 150 - ((E : Int) - 150)).toNat = (E2 - E - 1) + 1 from by omega, k_cmpI, if_pos]
  have h2 : 1 ≤ 2 ^ (E2 - E - 1) := Nat.one_le_two_pow
  have h3 : 2 ^ ((E2 - E - 1) + 1) = 2 ^ (E2 - E - 1) * 2 := Nat.pow_succ 2 (E2 - E - 1)
  rw [h3, Nat.pow_zero]
  have : (8388608 + T) * 1 < (8388608 + 0) * (2 ^ (E2 - E - 1) * 2) := by omega
  exact Int.ofNat_lt.mpr this
theorem kF_ge {E T E2 : Nat} (hE : E ≤ 254) (hT : T < 8388608) (h2 : 1 ≤ E2) (h : E2 ≤ E) : FP.fcmp (kF E T) (kF E2 0) = some .gt ∨ FP.fcmp (kF E T) (kF E2 0) = some .eq := by
  have hd : FP.fcmp (kF E T) (kF E2 0) = FP.Core.order (FP.Core.decode FP.Core.b32 (kF E T).toNat) (FP.Core.decode FP.Core.b32 (kF E2 0).toNat) := rfl
  rw [hd, kF_dec (by omega) hE hT, kF_dec h2 (by omega) (by omega)]
  have he : FP.Core.order (.fin false (8388608 + T) ((E : Int) - 150)) (.fin false (8388608 + 0) ((E2 : Int) - 150)) = some (compare ((FP.Core.inUnits (8388608 + T) ((E : Int) - 150) (min ((E : Int) - 150) ((E2 : Int) - 150)) : Nat) : Int) ((FP.Core.inUnits (8388608 + 0) ((E2 : Int) - 150) (min ((E : Int) - 150) ((E2 : Int) - 150)) : Nat) : Int)) := rfl
  rw [he, Int.min_eq_right (by omega)]
  unfold FP.Core.inUnits
  rw [show ((E : Int) - 150 - ((E2 : Int) - 150)).toNat = E - E2 from by omega, show ((E2 : Int) - 150 - ((E2 : Int) - 150)).toNat = 0 from by omega, k_cmpI, Nat.pow_zero]
  have h3 : 1 ≤ 2 ^ (E - E2) := Nat.one_le_two_pow
  have h4 : (8388608 + T) * 1 ≤ (8388608 + T) * 2 ^ (E - E2) := Nat.mul_le_mul_left _ h3
  rw [if_neg (by have := Int.ofNat_le.mpr h4; omega)]
  split
  · exact Or.inr rfl
  · exact Or.inl rfl
theorem kF_2l {E T : Nat} (h1 : 1 ≤ E) (hE : E ≤ 254) (hT : T < 8388608) : (Op.cmpValue (FP.fcmp (kF E T) FP.fconst2) .l < 0) ↔ E < 128 := by
  show (Op.cmpValue (FP.fcmp (kF E T) (kF 128 0)) .l < 0) ↔ E < 128
  rcases Nat.lt_or_ge E 128 with h | h
  · rw [kF_lt h1 hE hT (by omega) h]
    exact ⟨fun _ => h, fun _ => by decide⟩
  · rcases kF_ge hE hT (by omega) h with e | e <;> rw [e] <;> exact ⟨fun z => absurd z (by decide), fun z => by omega⟩
theorem kF_1g {E T : Nat} (h1 : 1 ≤ E) (hE : E ≤ 254) (hT : T < 8388608) : (0 ≤ Op.cmpValue (FP.fcmp (kF E T) FP.fconst1) .g) ↔ 127 ≤ E := by
  show (0 ≤ Op.cmpValue (FP.fcmp (kF E T) (kF 127 0)) .g) ↔ 127 ≤ E
  rcases Nat.lt_or_ge E 127 with h | h
  · rw [kF_lt h1 hE hT (by omega) h]
    exact ⟨fun z => absurd z (by decide), fun z => by omega⟩
  · rcases kF_ge hE hT (by omega) h with e | e <;> rw [e] <;> exact ⟨fun _ => h, fun _ => by decide⟩
theorem kF_0g {E T : Nat} (h1 : 1 ≤ E) (hE : E ≤ 254) (hT : T < 8388608) : 0 < Op.cmpValue (FP.fcmp (kF E T) FP.fconst0) .g := by
  have hd : FP.fcmp (kF E T) FP.fconst0 = FP.Core.order (FP.Core.decode FP.Core.b32 (kF E T).toNat) (FP.Core.decode FP.Core.b32 0) := rfl
  have h0 : FP.Core.decode FP.Core.b32 0 = .fin false 0 (-149) := by decide
  rw [hd, h0, kF_dec h1 hE hT]
  have he : FP.Core.order (.fin false (8388608 + T) ((E : Int) - 150)) (.fin false 0 (-149)) = some (compare ((FP.Core.inUnits (8388608 + T) ((E : Int) - 150) (min ((E : Int) - 150) (-149)) : Nat) : Int) ((FP.Core.inUnits 0 (-149) (min ((E : Int) - 150) (-149)) : Nat) : Int)) := rfl
  rw [he]
  unfold FP.Core.inUnits
  rw [Nat.zero_mul, k_cmpI]
  have h3 : 1 ≤ 2 ^ ((E : Int) - 150 - min ((E : Int) - 150) (-149)).toNat := Nat.one_le_two_pow
  have h4 : (8388608 + T) * 1 ≤ (8388608 + T) * 2 ^ ((E : Int) - 150 - min ((E : Int) - 150) (-149)).toNat := Nat.mul_le_mul_left _ h3
  rw [if_neg (by have := Int.ofNat_le.mpr h4; omega), if_neg (by have := Int.ofNat_le.mpr h4; omega)]
  decide
theorem kF_zero : Op.cmpValue (FP.fcmp 0 FP.fconst0) .g = 0 := by decide
theorem kF_f2i {T : Nat} (hT : T < 8388608) : FP.f2i (kF 150 T) = nI (8388608 + T) := by
  show FP.Core.toI (FP.Core.decode FP.Core.b32 (kF 150 T).toNat) = _
  rw [kF_dec (by omega) (by omega) hT]
  show Int32.ofInt (max _ (min _ (((8388608 + T) * 2 ^ 0 / 2 ^ 0 : Nat) : Int))) = _
  rw [Nat.pow_zero, Nat.mul_one, Nat.div_one]
  rw [Int.min_eq_right (by omega), Int.max_eq_right (by omega)]
  rfl
theorem k_shl : ∀ E : Fin 255, nI E.val <<< (23 &&& 31 : Int32) = nI (E.val * 8388608) := by decide +kernel
theorem kF_bits {E T : Nat} (hE : E ≤ 254) : (nI E <<< (23 &&& 31 : Int32)) + (nI (8388608 + T) - 8388608) = (kF E T).toInt32 := by
  have h1 : nI (8388608 + T) - 8388608 = nI T := by
    rw [Nat.add_comm, ← nI_add T 8388608]
    exact Int32.add_sub_cancel _ _
  rw [h1, k_shl ⟨E, by omega⟩, nI_add]
  rfl
theorem kF_ok {E T : Nat} (hE : E ≤ 254) (hT : T < 8388608) : vf_n32 (kF E T) := by
  unfold vf_n32
  rw [UInt32.le_iff_toNat_le, UInt32.toNat_and, kF_nat hE hT]
  have : (E * 8388608 + T) &&& (0x7fffffff : UInt32).toNat ≤ E * 8388608 + T := Nat.and_le_left
  exact Nat.le_trans this (show E * 8388608 + T ≤ 2139095040 by omega)
/-- a float that is zero, or positive and normal -/
def kPos (v : UInt32) : Prop := v = 0 ∨ ∃ E T, 1 ≤ E ∧ E ≤ 254 ∧ T < 8388608 ∧ v = kF E T
theorem k_fin_pos {c : Nat} {q : Int} (h1 : 8388608 ≤ c) (h2 : c ≤ 16777216) (hq : -148 ≤ q) (hq2 : q ≤ 102) : ∃ E T, 1 ≤ E ∧ E ≤ 254 ∧ T < 8388608 ∧ FP.Core.encode FP.Core.b32 (FP.Core.settle FP.Core.b32 false c q) = E * 8388608 + T ∧ ((E : Int) = q + 150 ∨ (E : Int) = q + 151) := by
  rcases Nat.lt_or_ge c 16777216 with h | h
  · rw [k_settle h (by omega), kF_enc (E := (q + 150).toNat) h1 (by omega) (by omega)]
    exact ⟨(q + 150).toNat, c - 8388608, by omega, by omega, by omega, rfl, by omega⟩
  · have hc : FP.Core.settle FP.Core.b32 false c q = .fin false 8388608 (q + 1) := by
      unfold FP.Core.settle FP.Core.bound
      rw [b32_p, b32_qx, b32_t, if_neg (by omega), if_pos (by omega)]
    rw [hc, kF_enc (E := (q + 151).toNat) (by omega) (by omega) (by omega)]
    exact ⟨(q + 151).toNat, 0, by omega, by omega, by omega, by omega, by omega⟩
theorem k_near_lo {a b N : Nat} (hb : 0 < b) (h : N * b ≤ a) : N ≤ FP.Core.nearest a b := by
  have h1 : N ≤ a / b := (Nat.le_div_iff_mul_le hb).mpr h
  unfold FP.Core.nearest
  repeat' split
  all_goals omega
theorem k_near_hi {a b N : Nat} (hb : 0 < b) (h : a < N * b) : FP.Core.nearest a b ≤ N := by
  have h1 : a / b < N := (Nat.div_lt_iff_lt_mul hb).mpr h
  unfold FP.Core.nearest
  repeat' split
  all_goals omega
theorem kF_int {a : Nat} (h0 : 0 < a) (ha : a < 16777216) : ∃ E T, 127 ≤ E ∧ E ≤ 151 ∧ T < 8388608 ∧ FP.i2f (nI a) = kF E T := by
  have hn : a ≠ 0 := by omega
  have hk : a.log2 < 24 := (Nat.log2_lt hn).mpr ha
  have hlo : 2 ^ a.log2 ≤ a := Nat.log2_self_le hn
  have hhi : a < 2 ^ (a.log2 + 1) := Nat.lt_log2_self
  have hl : FP.Core.leading a 1 = (a.log2 : Int) := by
    have hk1 : ((a.log2 : Nat) : Int) - ((1 : Nat).log2 : Int) = (a.log2 : Int) := by
      show ((a.log2 : Nat) : Int) - 0 = _
      omega
    unfold FP.Core.leading
    simp only [hk1]
    exact if_pos (by rw [show ((a.log2 : Nat) : Int).toNat = a.log2 from rfl, show (-((a.log2 : Nat) : Int)).toNat = 0 from by omega]; omega)
  have hq : FP.Core.quantum FP.Core.b32 a 1 0 = (a.log2 : Int) - 23 := by
    unfold FP.Core.quantum
    rw [hl, b32_qm, b32_p]
    show max (-149 : Int) ((a.log2 : Int) + 0 - ((24 : Int) - 1)) = _
    rw [Int.max_eq_right (by omega)]
    omega
  have hp : 2 ^ a.log2 * 2 ^ (23 - a.log2) = 8388608 := by rw [← Nat.pow_add, show a.log2 + (23 - a.log2) = 23 from by omega]
  have hp2 : 2 ^ (a.log2 + 1) * 2 ^ (23 - a.log2) = 16777216 := by rw [← Nat.pow_add, show a.log2 + 1 + (23 - a.log2) = 24 from by omega]
  have hc1 : 8388608 ≤ a * 2 ^ (23 - a.log2) := by rw [← hp]; exact Nat.mul_le_mul_right _ hlo
  have hc2 : a * 2 ^ (23 - a.log2) < 16777216 := by rw [← hp2]; exact Nat.mul_lt_mul_of_pos_right hhi (Nat.two_pow_pos _)
  have hr : FP.Core.roundRatio FP.Core.b32 false a 1 0 = FP.Core.settle FP.Core.b32 false (a * 2 ^ (23 - a.log2)) ((a.log2 : Int) - 23) := by
    unfold FP.Core.roundRatio
    rw [if_neg hn, hq]
    unfold FP.Core.roundAt FP.Core.unitsNum FP.Core.unitsDen
    rw [show (0 - ((a.log2 : Int) - 23)).toNat = 23 - a.log2 from by omega, show (((a.log2 : Int) - 23) - 0).toNat = 0 from by omega, Nat.pow_zero, Nat.mul_one]
    have := k_near (a := a * 2 ^ (23 - a.log2)) (b := 1) (by omega)
    rw [Nat.mul_one] at this
    rw [this]
  obtain ⟨E, T, a1, a2, a3, a4, a5⟩ := k_fin_pos (c := a * 2 ^ (23 - a.log2)) (q := (a.log2 : Int) - 23) hc1 (by omega) (by omega) (by omega)
  refine ⟨E, T, by omega, by omega, a3, ?_⟩
  have hi : FP.i2f (nI a) = UInt32.ofNat (FP.Core.encode FP.Core.b32 (FP.Core.round FP.Core.b32 (FP.Core.ofInt (nI a).toInt))) := rfl
  rw [hi, nI_toInt (by omega)]
  have ho : FP.Core.ofInt (a : Int) = .fin false a 0 := by
    unfold FP.Core.ofInt
    rw [decide_eq_false (by omega)]
    rfl
  rw [ho]
  show UInt32.ofNat (FP.Core.encode FP.Core.b32 (FP.Core.roundRatio FP.Core.b32 false a 1 0)) = _
  rw [hr, a4]
  rfl
theorem kF_quotP {E T E2 T2 : Nat} (h1 : 127 ≤ E) (hE : E ≤ 151) (hT : T < 8388608) (h2 : 127 ≤ E2) (hE2 : E2 ≤ 151) (hT2 : T2 < 8388608) : ∃ E' T', 1 ≤ E' ∧ E' ≤ 254 ∧ T' < 8388608 ∧ FP.fdiv (kF E T) (kF E2 T2) = kF E' T' := by
  have hd : FP.fdiv (kF E T) (kF E2 T2) = UInt32.ofNat (FP.Core.encode FP.Core.b32 (FP.Core.quotient FP.Core.b32 (FP.Core.decode FP.Core.b32 (kF E T).toNat) (FP.Core.decode FP.Core.b32 (kF E2 T2).toNat))) := rfl
  rw [hd, kF_dec (by omega) (by omega) hT, kF_dec (by omega) (by omega) hT2]
  have hquo : FP.Core.quotient FP.Core.b32 (.fin false (8388608 + T) ((E : Int) - 150)) (.fin false (8388608 + T2) ((E2 : Int) - 150)) = FP.Core.roundRatio FP.Core.b32 false (8388608 + T) (8388608 + T2) ((E : Int) - 150 - ((E2 : Int) - 150)) := by
    show (if 8388608 + T2 = 0 then (if 8388608 + T = 0 then FP.Core.Datum.nan else FP.Core.Datum.inf (false != false)) else FP.Core.roundRatio FP.Core.b32 (false != false) (8388608 + T) (8388608 + T2) ((E : Int) - 150 - ((E2 : Int) - 150))) = _
    rw [if_neg (by omega)]
    rfl
  rw [hquo]
  have e1 : (8388608 + T).log2 = 23 := k_log (by omega) (by omega)
  have e2 : (8388608 + T2).log2 = 23 := k_log (by omega) (by omega)
  have hl : ∃ z : Nat, z ≤ 1 ∧ FP.Core.leading (8388608 + T) (8388608 + T2) = -(z : Int) ∧ 8388608 * (8388608 + T2) ≤ (8388608 + T) * 2 ^ (23 + z) ∧ (8388608 + T) * 2 ^ (23 + z) < 16777216 * (8388608 + T2) := by
    unfold FP.Core.leading
    rw [e1, e2]
    rcases Nat.lt_or_ge T T2 with h | h
    · refine ⟨1, by omega, ?_, by show _ ≤ (8388608 + T) * 16777216; omega, by show (8388608 + T) * 16777216 < _; omega⟩
      exact if_neg (by show ¬ (8388608 + T2) * 1 ≤ (8388608 + T) * 1; omega)
    · refine ⟨0, by omega, ?_, by show _ ≤ (8388608 + T) * 8388608; omega, by show (8388608 + T) * 8388608 < _; omega⟩
      exact if_pos (by show (8388608 + T2) * 1 ≤ (8388608 + T) * 1; omega)
  obtain ⟨z, hz, hl, hlo, hhi⟩ := hl
  have hq : FP.Core.quantum FP.Core.b32 (8388608 + T) (8388608 + T2) ((E : Int) - 150 - ((E2 : Int) - 150)) = (E : Int) - (E2 : Int) - 23 - (z : Int) := by
    unfold FP.Core.quantum
    rw [hl, b32_qm, b32_p]
    show max (-149 : Int) (-(z : Int) + ((E : Int) - 150 - ((E2 : Int) - 150)) - ((24 : Int) - 1)) = _
    rw [Int.max_eq_right (by omega)]
    omega
  unfold FP.Core.roundRatio
  rw [if_neg (by omega), hq]
  unfold FP.Core.roundAt FP.Core.unitsNum FP.Core.unitsDen
  rw [show ((E : Int) - 150 - ((E2 : Int) - 150) - ((E : Int) - (E2 : Int) - 23 - (z : Int))).toNat = 23 + z from by omega, show ((E : Int) - (E2 : Int) - 23 - (z : Int) - ((E : Int) - 150 - ((E2 : Int) - 150))).toNat = 0 from by omega, Nat.pow_zero, Nat.mul_one]
  obtain ⟨E', T', a1, a2, a3, a4, -⟩ := k_fin_pos (q := (E : Int) - (E2 : Int) - 23 - (z : Int)) (k_near_lo (a := (8388608 + T) * 2 ^ (23 + z)) (b := 8388608 + T2) (by omega) hlo) (k_near_hi (by omega) hhi) (by omega) (by omega)
  rw [a4]
  exact ⟨E', T', a1, a2, a3, rfl⟩
theorem kF_quot {E T E2 T2 : Nat} (h1 : 127 ≤ E) (hE : E ≤ 151) (hT : T < 8388608) (h2 : 127 ≤ E2) (hE2 : E2 ≤ 151) (hT2 : T2 < 8388608) : kPos (FP.fdiv (kF E T) (kF E2 T2)) := Or.inr (kF_quotP h1 hE hT h2 hE2 hT2)
theorem kF_quot0 {E2 T2 : Nat} (h2 : 127 ≤ E2) (hE2 : E2 ≤ 151) (hT2 : T2 < 8388608) : FP.fdiv 0 (kF E2 T2) = 0 := by
  have hd : FP.fdiv 0 (kF E2 T2) = UInt32.ofNat (FP.Core.encode FP.Core.b32 (FP.Core.quotient FP.Core.b32 (FP.Core.decode FP.Core.b32 0) (FP.Core.decode FP.Core.b32 (kF E2 T2).toNat))) := rfl
  have h0 : FP.Core.decode FP.Core.b32 0 = .fin false 0 (-149) := by decide
  rw [hd, h0, kF_dec (by omega) (by omega) hT2]
  have hquo : FP.Core.quotient FP.Core.b32 (.fin false 0 (-149)) (.fin false (8388608 + T2) ((E2 : Int) - 150)) = .fin false 0 (-149) := by
    show (if 8388608 + T2 = 0 then (if (0 : Nat) = 0 then FP.Core.Datum.nan else FP.Core.Datum.inf (false != false)) else FP.Core.roundRatio FP.Core.b32 (false != false) 0 (8388608 + T2) (-149 - ((E2 : Int) - 150))) = _
    rw [if_neg (by omega)]
    rfl
  rw [hquo]
  decide
theorem kPos_div {a b : Nat} (ha : a < 16777216) (h0 : 0 < b) (hb : b < 16777216) : kPos (FP.fdiv (FP.i2f (nI a)) (FP.i2f (nI b))) := by
  obtain ⟨E2, T2, b1, b2, b3, b4⟩ := kF_int h0 hb
  rw [b4]
  rcases Nat.eq_zero_or_pos a with h | h
  · rw [h, show FP.i2f (nI 0) = 0 from by decide]
    exact Or.inl (kF_quot0 b1 b2 b3)
  · obtain ⟨E, T, a1, a2, a3, a4⟩ := kF_int h ha
    rw [a4]
    exact kF_quot a1 a2 a3 b1 b2 b3
theorem kPos_ok {v : UInt32} (h : kPos v) : vf_n32 v := by
  rcases h with rfl | ⟨E, T, -, h2, h3, rfl⟩
  · unfold vf_n32; decide
  · exact kF_ok h2 h3
