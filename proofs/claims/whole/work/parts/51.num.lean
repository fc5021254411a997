
/-! ===== numbers: 64 and 32 bits as images of whole numbers ===== -/
abbrev jj (v : Int) : Int64 := Int64.ofInt v
abbrev ii (v : Int) : Int32 := Int32.ofInt v
theorem jj_add (a b : Int) : jj a + jj b = jj (a + b) := (Int64.ofInt_add a b).symm
theorem jj_sub (a b : Int) : jj a - jj b = jj (a - b) := (Int64.ofInt_sub a b).symm
theorem jj_mul (a b : Int) : jj a * jj b = jj (a * b) := (Int64.ofInt_mul a b).symm
theorem jj_neg (a : Int) : -jj a = jj (-a) := (Int64.ofInt_neg a).symm
theorem jj_lit (n : Nat) : (no_index (OfNat.ofNat n) : Int64) = jj (no_index (OfNat.ofNat n)) := Int64.ofInt_eq_ofNat.symm
theorem ii_add (a b : Int) : ii a + ii b = ii (a + b) := (Int32.ofInt_add a b).symm
theorem ii_sub (a b : Int) : ii a - ii b = ii (a - b) := (Int32.ofInt_sub a b).symm
theorem ii_mul (a b : Int) : ii a * ii b = ii (a * b) := (Int32.ofInt_mul a b).symm
theorem ii_neg (a : Int) : -ii a = ii (-a) := (Int32.ofInt_neg a).symm
theorem ii_lit (n : Nat) : (no_index (OfNat.ofNat n) : Int32) = ii (no_index (OfNat.ofNat n)) := Int32.ofInt_eq_ofNat.symm
theorem jj_toInt {a : Int} (h1 : -9223372036854775808 ≤ a) (h2 : a < 9223372036854775808) : (jj a).toInt = a := Int64.toInt_ofInt_of_le (by omega) (by omega)
theorem ii_toInt {a : Int} (h1 : -2147483648 ≤ a) (h2 : a < 2147483648) : (ii a).toInt = a := Int32.toInt_ofInt_of_le (by omega) (by omega)
theorem jj_all (x : Int64) : ∃ v : Int, x = jj v ∧ -9223372036854775808 ≤ v ∧ v < 9223372036854775808 := by
  have h1 := x.le_toInt
  have h2 := x.toInt_lt
  exact ⟨x.toInt, (Int64.ofInt_toInt x).symm, by omega, by omega⟩
theorem ii_all (x : Int32) : ∃ v : Int, x = ii v ∧ -2147483648 ≤ v ∧ v < 2147483648 := by
  have h1 := x.le_toInt
  have h2 := x.toInt_lt
  exact ⟨x.toInt, (Int32.ofInt_toInt x).symm, by omega, by omega⟩
section
variable {a b : Int}
theorem jj_le (h1 : -9223372036854775808 ≤ a) (h2 : a < 9223372036854775808) (h3 : -9223372036854775808 ≤ b) (h4 : b < 9223372036854775808) : (jj a ≤ jj b) ↔ a ≤ b := by
  rw [Int64.le_iff_toInt_le, jj_toInt h1 h2, jj_toInt h3 h4]
theorem jj_lt (h1 : -9223372036854775808 ≤ a) (h2 : a < 9223372036854775808) (h3 : -9223372036854775808 ≤ b) (h4 : b < 9223372036854775808) : (jj a < jj b) ↔ a < b := by
  rw [Int64.lt_iff_toInt_lt, jj_toInt h1 h2, jj_toInt h3 h4]
theorem jj_eq (h1 : -9223372036854775808 ≤ a) (h2 : a < 9223372036854775808) (h3 : -9223372036854775808 ≤ b) (h4 : b < 9223372036854775808) : (jj a = jj b) ↔ a = b := by
  rw [← Int64.toInt_inj, jj_toInt h1 h2, jj_toInt h3 h4]
theorem ii_le (h1 : -2147483648 ≤ a) (h2 : a < 2147483648) (h3 : -2147483648 ≤ b) (h4 : b < 2147483648) : (ii a ≤ ii b) ↔ a ≤ b := by
  rw [Int32.le_iff_toInt_le, ii_toInt h1 h2, ii_toInt h3 h4]
theorem ii_lt (h1 : -2147483648 ≤ a) (h2 : a < 2147483648) (h3 : -2147483648 ≤ b) (h4 : b < 2147483648) : (ii a < ii b) ↔ a < b := by
  rw [Int32.lt_iff_toInt_lt, ii_toInt h1 h2, ii_toInt h3 h4]
theorem ii_eq (h1 : -2147483648 ≤ a) (h2 : a < 2147483648) (h3 : -2147483648 ≤ b) (h4 : b < 2147483648) : (ii a = ii b) ↔ a = b := by
  rw [← Int32.toInt_inj, ii_toInt h1 h2, ii_toInt h3 h4]
theorem ii_nat (h1 : -2147483648 ≤ a) (h2 : a < 2147483648) : (ii a).toNatClampNeg = a.toNat := by
  show (ii a).toInt.toNat = _
  rw [ii_toInt h1 h2]
theorem i64min : Int64.minValue.toInt = -9223372036854775808 := by decide
theorem i64max : Int64.maxValue.toInt = 9223372036854775807 := by decide
theorem i32min : Int32.minValue.toInt = -2147483648 := by decide
theorem i32max : Int32.maxValue.toInt = 2147483647 := by decide
theorem jj_div (h1 : -9223372036854775808 ≤ a) (h2 : a < 9223372036854775808) (h3 : 0 < b) (h4 : b < 9223372036854775808) : jj a / jj b = jj (a.tdiv b) :=
  (Int64.ofInt_tdiv (by rw [i64min]; exact h1) (by rw [i64max]; omega) (by rw [i64min]; omega) (by rw [i64max]; omega)).symm
theorem jj_divp (h1 : 0 ≤ a) (h2 : a < 9223372036854775808) (h3 : 0 < b) (h4 : b < 9223372036854775808) : jj a / jj b = jj (a / b) := by
  rw [jj_div (by omega) h2 h3 h4, Int.tdiv_eq_ediv_of_nonneg h1]
theorem ii_div (h1 : -2147483648 ≤ a) (h2 : a < 2147483648) (h3 : 0 < b) (h4 : b < 2147483648) : ii a / ii b = ii (a.tdiv b) :=
  (Int32.ofInt_tdiv (by rw [i32min]; exact h1) (by rw [i32max]; omega) (by rw [i32min]; omega) (by rw [i32max]; omega)).symm
theorem ii_divp (h1 : 0 ≤ a) (h2 : a < 2147483648) (h3 : 0 < b) (h4 : b < 2147483648) : ii a / ii b = ii (a / b) := by
  rw [ii_div (by omega) h2 h3 h4, Int.tdiv_eq_ediv_of_nonneg h1]
theorem ii_64 (h1 : -2147483648 ≤ a) (h2 : a < 2147483648) : (ii a).toInt64 = jj a :=
  Int32.toInt64_ofInt (by rw [i32min]; exact h1) (by rw [i32max]; omega)
theorem jj_32 (a : Int) : (jj a).toInt32 = ii a := Int64.toInt32_ofInt
end
theorem nI_ii (n : Nat) : nI n = ii (n : Int) := Int32.ofInt_eq_ofNat.symm
theorem xor_nonneg (x y : Int64) (hy : 0 ≤ y.toInt) : ((0 : Int64) ≤ x ^^^ y) ↔ 0 ≤ x.toInt := by
  have h (z : Int64) : z.toBitVec.msb = decide (z.toInt < 0) := BitVec.msb_eq_toInt
  have e : (x ^^^ y).toBitVec.msb = (x.toBitVec.msb ^^ y.toBitVec.msb) := by rw [Int64.toBitVec_xor, BitVec.msb_xor]
  have hy' : decide (y.toInt < 0) = false := by simp; omega
  rw [h, h, h, hy', Bool.xor_false] at e
  have e2 := decide_eq_decide.mp e
  rw [Int64.le_iff_toInt_le, show (0 : Int64).toInt = 0 from rfl]
  omega
theorem mul_up {a b : Int} (h3 : 0 < b) (hd : ¬ b ∣ a) : a < (a / b + 1) * b ∧ (a / b + 1) * b < a + b := by
  have e := Int.emod_add_mul_ediv a b
  have h0 : 0 < a % b := by
    have h := Int.emod_nonneg a (by omega : b ≠ 0)
    have h' : a % b ≠ 0 := fun q => hd (Int.dvd_of_emod_eq_zero q)
    omega
  have h1 := Int.emod_lt_of_pos a h3
  have e2 : (a / b + 1) * b = b * (a / b) + b := by rw [Int.add_mul, Int.one_mul, Int.mul_comm]
  omega
theorem fd_ok (nf : Nat) {a b : Int} (h1 : -9223372036854775808 ≤ a) (h2 : a < 9223372036854775808) (h3 : 0 < b) (h4 : b < 4611686018427387904) : f_Math_floorDiv nf (jj a) (jj b) = some (jj (a / b)) := by
  have hb0 : ¬ jj b = 0 := by
    rw [jj_lit, jj_eq (by omega) (by omega) (by omega) (by omega)]
    omega
  have hx : ((0 : Int64) ≤ (jj a ^^^ jj b)) ↔ 0 ≤ a := by
    rw [xor_nonneg _ _ (by rw [jj_toInt (by omega) (by omega)]; omega), jj_toInt h1 h2]
  have hq := jj_div h1 h2 h3 (by omega)
  have e := @Int.tdiv_eq_ediv a b
  have hs : b.sign = 1 := Int.sign_eq_one_of_pos h3
  unfold f_Math_floorDiv f_Math_floorDiv_0 f_Math_floorDiv_27
  rw [if_neg hb0, hq, jj_mul]
  by_cases ha : 0 ≤ a
  · rw [if_pos (hx.mpr ha), e, if_pos (Or.inl ha), Int.add_zero]
  · rw [if_neg (fun q => ha (hx.mp q))]
    by_cases hd : b ∣ a
    · rw [e, if_pos (Or.inr hd), Int.add_zero, Int.ediv_mul_cancel hd, if_pos rfl]
    · have hm := mul_up h3 hd
      rw [if_neg (show ¬ (0 ≤ a ∨ b ∣ a) from fun q => q.elim ha hd), hs] at e
      rw [e, if_neg (fun q => by rw [jj_eq (by omega) (by omega) h1 h2] at q; omega), jj_lit, jj_sub]
      congr 2
      omega
theorem fm_ok (nf : Nat) {a b : Int} (h1 : -9223372036854775808 ≤ a) (h2 : a < 9223372036854775808) (h3 : 0 < b) (h4 : b < 4611686018427387904) : f_Math_floorMod nf (jj a) (jj b) = some (jj (a % b)) := by
  have hb0 : ¬ jj b = 0 := by
    rw [jj_lit, jj_eq (by omega) (by omega) (by omega) (by omega)]
    omega
  have hx : ((0 : Int64) ≤ (jj a ^^^ jj b)) ↔ 0 ≤ a := by
    rw [xor_nonneg _ _ (by rw [jj_toInt (by omega) (by omega)]; omega), jj_toInt h1 h2]
  have hq := jj_div h1 h2 h3 (by omega)
  have e := @Int.tdiv_eq_ediv a b
  have hs : b.sign = 1 := Int.sign_eq_one_of_pos h3
  have em := Int.emod_add_mul_ediv a b
  have ec : b * (a / b) = a / b * b := Int.mul_comm _ _
  unfold f_Math_floorMod f_Math_floorMod_0 f_Math_floorMod_25
  rw [if_neg hb0, hq, jj_mul, jj_sub]
  by_cases ha : 0 ≤ a
  · rw [if_pos (hx.mpr ha), e, if_pos (Or.inl ha), Int.add_zero]
    congr 2
    omega
  · rw [if_neg (fun q => ha (hx.mp q))]
    by_cases hd : b ∣ a
    · rw [e, if_pos (Or.inr hd), Int.add_zero, Int.ediv_mul_cancel hd, if_pos (by rw [Int.sub_self]; rfl)]
      congr 2
      rw [Int.emod_eq_zero_of_dvd hd, Int.sub_self]
    · have hm := mul_up h3 hd
      have e2 : (a / b + 1) * b = a / b * b + b := by rw [Int.add_mul, Int.one_mul]
      rw [if_neg (show ¬ (0 ≤ a ∨ b ∣ a) from fun q => q.elim ha hd), hs] at e
      rw [e, if_neg (fun q => by rw [jj_lit, jj_eq (by omega) (by omega) (by omega) (by omega)] at q; omega), jj_add]
      congr 2
      omega
theorem fl_ok (nf : Nat) {a b : Int} (h1 : -9223372036854775808 ≤ a) (h2 : a < 9223372036854775808) (h3 : 0 < b) (h4 : b < 4611686018427387904) : f_Mo_floor nf (jj a) (jj b) = some (jj (a / b)) := by
  have hb0 : ¬ jj b = 0 := by
    rw [jj_lit, jj_eq (by omega) (by omega) (by omega) (by omega)]
    omega
  have hq := jj_div h1 h2 h3 (by omega)
  have e := @Int.tdiv_eq_ediv a b
  have hs : b.sign = 1 := Int.sign_eq_one_of_pos h3
  have em := Int.emod_add_mul_ediv a b
  have en := Int.emod_nonneg a (by omega : b ≠ 0)
  have el := Int.emod_lt_of_pos a h3
  have ec : b * (a / b) = a / b * b := Int.mul_comm _ _
  unfold f_Mo_floor f_Mo_floor_0 f_Mo_floor_23
  rw [if_neg hb0, hq, jj_mul]
  by_cases ha : 0 ≤ a
  · rw [e, if_pos (Or.inl ha), Int.add_zero, if_pos ((jj_le (by omega) (by omega) h1 h2).mpr (by omega))]
  · by_cases hd : b ∣ a
    · rw [e, if_pos (Or.inr hd), Int.add_zero, Int.ediv_mul_cancel hd, if_pos (Int64.le_refl _)]
    · have hm := mul_up h3 hd
      rw [if_neg (show ¬ (0 ≤ a ∨ b ∣ a) from fun q => q.elim ha hd), hs] at e
      rw [e, if_neg (fun q => by rw [jj_le (by omega) (by omega) h1 h2] at q; omega), jj_lit, jj_sub]
      congr 2
      omega

