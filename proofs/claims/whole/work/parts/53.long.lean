/-! ===== longs of ranks ===== -/
theorem lN_toIntB {n : Nat} (h : n < 2 ^ 63) : (lN n).toInt = (n : Int) := lg_ofNat_toInt (by omega)
theorem lN_ltB {a c : Nat} (ha : a < 2 ^ 63) (hc : c < 2 ^ 63) : lN a < lN c ↔ a < c := by
  rw [Int64.lt_iff_toInt_lt, lN_toIntB ha, lN_toIntB hc]; omega
theorem lN_shl (a : Nat) : lN a <<< (18 : Int64) = lN (a * 262144) := by
  unfold lN
  apply Int64.toBitVec_inj.mp
  rw [Int64.toBitVec_shiftLeft, Int64.toBitVec_ofNat', Int64.toBitVec_ofNat']
  apply BitVec.eq_of_toNat_eq
  simp [BitVec.toNat_shiftLeft, Nat.shiftLeft_eq]
theorem lN_toNat {r : Nat} (h : r < 2 ^ 63) : (lN r).toBitVec.toNat = r := by
  unfold lN
  rw [Int64.toBitVec_ofNat', BitVec.toNat_ofNat]
  exact Nat.mod_eq_of_lt (by omega)
theorem lN_31 {r : Nat} (h : r < 2 ^ 63) : lN r &&& (31 : Int64) = lN (r % 32) := by
  apply Int64.toBitVec_inj.mp
  apply BitVec.eq_of_toNat_eq
  rw [Int64.toBitVec_and, BitVec.toNat_and, lN_toNat h, lN_toNat (by omega)]
  show r &&& 31 = r % 32
  exact Nat.and_two_pow_sub_one_eq_mod r 5
theorem land_m32 {r : Nat} (h : r < 2 ^ 63) : r &&& (2 ^ 64 - 32) = r / 32 * 32 := by
  have e1 : (2 : Nat) ^ 64 - 32 = (2 ^ 59 - 1) <<< 5 := by decide
  have e2 : r / 32 * 32 = (r >>> 5) <<< 5 := by rw [Nat.shiftLeft_eq, Nat.shiftRight_eq_div_pow]
  rw [e1, e2]
  apply Nat.eq_of_testBit_eq
  intro i
  rw [Nat.testBit_and, Nat.testBit_shiftLeft, Nat.testBit_shiftLeft, Nat.testBit_shiftRight, Nat.testBit_two_pow_sub_one]
  by_cases h5 : 5 ≤ i
  · rw [show 5 + (i - 5) = i by omega]
    by_cases h6 : i - 5 < 59
    · simp [h5, h6]
    · have : r.testBit i = false := Nat.testBit_lt_two_pow (Nat.lt_of_lt_of_le h (Nat.pow_le_pow_right (by omega) (by omega)))
      simp [this]
  · simp [h5]
theorem lN_m32 {r : Nat} (h : r < 2 ^ 63) : lN r &&& (-32 : Int64) = lN (r / 32 * 32) := by
  apply Int64.toBitVec_inj.mp
  apply BitVec.eq_of_toNat_eq
  rw [Int64.toBitVec_and, BitVec.toNat_and, lN_toNat h, lN_toNat (by omega)]
  show r &&& (2 ^ 64 - 32) = _
  exact land_m32 h
theorem lN_shr {r : Nat} (h : r < 2 ^ 63) : lN r >>> (18 : Int64) = lN (r / 262144) := by
  apply Int64.toInt_inj.mp
  rw [lN_toIntB (by omega)]
  show (lN r >>> 18).toBitVec.toInt = _
  rw [Int64.toBitVec_shiftRight]
  show ((lN r).toBitVec.sshiftRight (((18 : Int64).toBitVec.smod 64).toNat)).toInt = _
  rw [show ((18 : Int64).toBitVec.smod 64).toNat = 18 by decide, BitVec.toInt_sshiftRight]
  show ((lN r).toInt >>> 18 : Int) = _
  rw [lN_toIntB h, Int.shiftRight_eq_div_pow]
  omega
/-- the rank of a row that begins with p -/
theorem rk_sum {S : SS} {W : WT} {p d : Nat} (hf : (W d).2.2.1 < 32) (hp : p < 32) : (prcP S p * 262144 + 32 + p) + rkN (W d) / 32 * 32 = rkN (valC S W p d) := by
  have e1 : (valC S W p d).1 = prcP S p + (W d).1 := rfl
  have e2 : (valC S W p d).2.1 = 1 + (W d).2.1 := rfl
  have e3 : (valC S W p d).2.2.1 = p := rfl
  unfold rkN
  rw [e1, e2, e3]
  omega
theorem stN_inj {z fr m z' fr' m' : Nat} (h1 : fr < 10080) (h2 : m ≤ 4320) (h3 : fr' < 10080) (h4 : m' ≤ 4320) (h : stN z fr m = stN z' fr' m') : z = z' ∧ fr = fr' ∧ m = m' := by
  unfold stN at h
  omega
theorem stN_lt {z fr m : Nat} (hz : z < 4) (h1 : fr < 10080) (h2 : m ≤ 4320) : stN z fr m < 2 ^ 31 := by unfold stN; omega
/-- hours as numbers -/
theorem mayB_n {f t a : Nat} (hf : f ≤ 168) (ht : t ≤ 168) (ha : a < 168) : mayB (nI f) (nI t) (nI a) ↔ (if f < t then f ≤ a ∧ a < t else f ≤ a ∨ a < t) := by
  unfold mayB
  by_cases l : f < t
  · rw [if_pos l, if_pos (nI_lt l (by omega)), nI_leI (by omega) (by omega), nI_ltI (by omega) (by omega)]
  · rw [if_neg l, if_neg (nI_nlt (by omega) (by omega)), nI_leI (by omega) (by omega), nI_ltI (by omega) (by omega)]
def mayN (f t a : Nat) : Prop := if f < t then f ≤ a ∧ a < t else f ≤ a ∨ a < t
/-- outside its hours, the latest minute within them -/
theorem out_hours {f t M : Nat} (hf : f ≤ 168) (ht : t ≤ 168) (hM : M < 20000) (hn : ¬ mayN f t (M % 10080 / 60)) (hx : ¬ (f = 168 ∧ t = 0)) :
    let X := (M + 10080 + 1 - 60 * t) % 10080
    (∀ i, i < X → i ≤ M → ¬ mayN f t ((M - i) % 10080 / 60)) ∧ (X ≤ M → mayN f t ((M - X) % 10080 / 60)) := by
  intro X
  have hX : X = (M + 10080 + 1 - 60 * t) % 10080 := rfl
  clear_value X
  unfold mayN at *
  by_cases l : f < t
  · simp only [if_pos l] at *
    refine ⟨fun i hi hi2 => ?_, fun h => ?_⟩
    · omega
    · omega
  · simp only [if_neg l] at *
    refine ⟨fun i hi hi2 => ?_, fun h => ?_⟩
    · omega
    · omega
theorem no_hours (a : Nat) (ha : a < 168) : ¬ mayN 168 0 a := by unfold mayN; rw [if_neg (by omega)]; omega
