/-! ===== floats: a positive normal float is its exponent and its fraction ===== -/
def kF (E T : Nat) : UInt32 := UInt32.ofNat (E * 8388608 + T)
theorem b32_t : FP.Core.b32.tails = 8388608 := by decide
theorem b32_e : FP.Core.b32.exps = 256 := by decide
theorem b32_qm : FP.Core.b32.qmin = -149 := by decide
theorem b32_qx : FP.Core.b32.qmax = 104 := by decide
theorem b32_p : FP.Core.b32.p = 24 := rfl
theorem kF_nat {E T : Nat} (hE : E ≤ 254) (hT : T < 8388608) : (kF E T).toNat = E * 8388608 + T := by
  unfold kF
  rw [UInt32.toNat_ofNat']
  exact Nat.mod_eq_of_lt (by omega)
theorem kF_dec {E T : Nat} (h1 : 1 ≤ E) (hE : E ≤ 254) (hT : T < 8388608) : FP.Core.decode FP.Core.b32 (kF E T).toNat = .fin false (8388608 + T) ((E : Int) - 150) := by
  rw [kF_nat hE hT]
  have hd : (E * 8388608 + T) / 8388608 = E := by omega
  have hm : (E * 8388608 + T) % 8388608 = T := by omega
  unfold FP.Core.decode FP.Core.fieldE FP.Core.fieldT FP.Core.fieldS
  rw [b32_t, b32_e, b32_qm, hd, hm, if_neg (by omega), if_neg (by omega), show E % 256 = E from by omega, show E / 256 % 2 = 0 from by omega]
  show FP.Core.Datum.fin false _ _ = _
  congr 1
  omega
theorem kF_enc {c : Nat} {q : Int} {E : Nat} (h1 : 8388608 ≤ c) (hq : q = (E : Int) - 150) (hE : 1 ≤ E) : FP.Core.encode FP.Core.b32 (.fin false c q) = E * 8388608 + (c - 8388608) := by
  unfold FP.Core.encode FP.Core.assemble
  simp only [b32_t, b32_e, b32_qm]
  rw [if_neg (by omega), show (q - -149).toNat + 1 = E from by omega]
  simp
theorem k_log {c k : Nat} (h1 : 2 ^ k ≤ c) (h2 : c < 2 ^ (k + 1)) : c.log2 = k := by
  have h0 : c ≠ 0 := by have := Nat.two_pow_pos k; omega
  have h3 := (Nat.log2_lt h0).mpr h2
  have h4 : k ≤ c.log2 := (Nat.le_log2 h0).mpr h1
  omega
theorem k_near {a b : Nat} (hb : 0 < b) : FP.Core.nearest (a * b) b = a := by
  unfold FP.Core.nearest
  rw [Nat.mul_mod_left, Nat.mul_div_cancel a hb]
  simp [hb]
theorem k_settle {c : Nat} {q : Int} (hc : c < 16777216) (hq : q ≤ 104) : FP.Core.settle FP.Core.b32 false c q = .fin false c q := by
  unfold FP.Core.settle FP.Core.bound
  rw [b32_p, b32_qx, if_pos (by simpa using hc), if_pos hq]
/-- a rounded number that is whole in its last digit -/
theorem kF_mul {E T E2 E3 : Nat} (h1 : 1 ≤ E) (hE : E ≤ 254) (hT : T < 8388608) (h2 : 1 ≤ E2) (hE2 : E2 ≤ 254) (h3 : E + E2 = E3 + 127) (h31 : 1 ≤ E3) (hE3 : E3 ≤ 254) : FP.fmul (kF E T) (kF E2 0) = kF E3 T := by
  show UInt32.ofNat (FP.Core.mul FP.Core.b32 _ _) = UInt32.ofNat _
  congr 1
  unfold FP.Core.mul
  rw [kF_dec h1 hE hT, kF_dec h2 hE2 (by omega)]
  show FP.Core.encode FP.Core.b32 (FP.Core.roundRatio FP.Core.b32 (false != false) ((8388608 + T) * (8388608 + 0)) 1 _) = _
  have hl : FP.Core.leading ((8388608 + T) * (8388608 + 0)) 1 = 46 := by
    unfold FP.Core.leading
    have hk : (((8388608 + T) * (8388608 + 0)).log2 : Int) - ((1 : Nat).log2 : Int) = 46 := by
      rw [show ((8388608 + T) * (8388608 + 0)).log2 = 46 from k_log (by omega) (by omega)]
      rfl
    simp only [hk]
    exact if_pos (by show 1 * 2 ^ 46 ≤ (8388608 + T) * (8388608 + 0) * 2 ^ 0; omega)
  have hq : FP.Core.quantum FP.Core.b32 ((8388608 + T) * (8388608 + 0)) 1 ((E : Int) - 150 + ((E2 : Int) - 150)) = (E3 : Int) - 150 := by
    unfold FP.Core.quantum
    rw [hl, b32_qm, b32_p]
    show max (-149 : Int) (46 + ((E : Int) - 150 + ((E2 : Int) - 150)) - ((24 : Int) - 1)) = _
    rw [Int.max_eq_right (by omega)]
    omega
  have hr : FP.Core.roundRatio FP.Core.b32 (false != false) ((8388608 + T) * (8388608 + 0)) 1 ((E : Int) - 150 + ((E2 : Int) - 150)) = .fin false (8388608 + T) ((E3 : Int) - 150) := by
    unfold FP.Core.roundRatio
    rw [if_neg (by omega), hq]
    unfold FP.Core.roundAt FP.Core.unitsNum FP.Core.unitsDen
    rw [show ((E : Int) - 150 + ((E2 : Int) - 150) - ((E3 : Int) - 150)).toNat = 0 from by omega, show ((E3 : Int) - 150 - ((E : Int) - 150 + ((E2 : Int) - 150))).toNat = 23 from by omega, Nat.pow_zero, Nat.mul_one, show 1 * 2 ^ 23 = 8388608 from rfl, show 8388608 + 0 = 8388608 from rfl, k_near (by omega)]
    exact k_settle (by omega) (by omega)
  rw [hr, kF_enc (by omega) rfl h31]
  omega
theorem kF_div {E T : Nat} (h1 : 2 ≤ E) (hE : E ≤ 254) (hT : T < 8388608) : FP.fdiv (kF E T) FP.fconst2 = kF (E - 1) T := by
  show UInt32.ofNat (FP.Core.div FP.Core.b32 _ (kF 128 0).toNat) = UInt32.ofNat _
  congr 1
  unfold FP.Core.div
  rw [kF_dec (by omega) hE hT, kF_dec (by omega) (by omega) (by omega)]
  show FP.Core.encode FP.Core.b32 (if 8388608 + 0 = 0 then (if 8388608 + T = 0 then FP.Core.Datum.nan else FP.Core.Datum.inf (false != false)) else FP.Core.roundRatio FP.Core.b32 (false != false) (8388608 + T) (8388608 + 0) ((E : Int) - 150 - ((128 : Nat) - 150 : Int))) = _
  rw [if_neg (by omega)]
  have hl : FP.Core.leading (8388608 + T) (8388608 + 0) = 0 := by
    unfold FP.Core.leading
    have e1 : (8388608 + T).log2 = 23 := k_log (by omega) (by omega)
    have e2 : (8388608 + 0).log2 = 23 := k_log (by omega) (by omega)
    rw [e1, e2]
    simp
  have hq : FP.Core.quantum FP.Core.b32 (8388608 + T) (8388608 + 0) ((E : Int) - 150 - ((128 : Nat) - 150 : Int)) = ((E - 1 : Nat) : Int) - 150 := by
    unfold FP.Core.quantum
    rw [hl, b32_qm, b32_p]
    show max (-149 : Int) (0 + ((E : Int) - 150 - ((128 : Nat) - 150 : Int)) - ((24 : Int) - 1)) = _
    rw [Int.max_eq_right (by omega)]
    omega
  have hr : FP.Core.roundRatio FP.Core.b32 (false != false) (8388608 + T) (8388608 + 0) ((E : Int) - 150 - ((128 : Nat) - 150 : Int)) = .fin false (8388608 + T) (((E - 1 : Nat) : Int) - 150) := by
    unfold FP.Core.roundRatio
    rw [if_neg (by omega), hq]
    unfold FP.Core.roundAt FP.Core.unitsNum FP.Core.unitsDen
    rw [show ((E : Int) - 150 - ((128 : Nat) - 150 : Int) - (((E - 1 : Nat) : Int) - 150)).toNat = 23 from by omega, show (((E - 1 : Nat) : Int) - 150 - ((E : Int) - 150 - ((128 : Nat) - 150 : Int))).toNat = 0 from by omega, Nat.pow_zero, Nat.mul_one, show 2 ^ 23 = 8388608 from rfl, show 8388608 + 0 = 8388608 from rfl, k_near (by omega)]
    exact k_settle (by omega) (by omega)
  rw [hr, kF_enc (by omega) rfl (by omega)]
  omega
