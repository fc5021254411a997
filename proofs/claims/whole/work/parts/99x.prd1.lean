/-! ===== read: numbers out of bytes ===== -/
theorem shl8 (X : Int64) {b : Nat} (hb : b < 256) : (X <<< ((8 : Int32).toInt64 &&& 63)) ||| jj (b : Int) = X * 256 + jj (b : Int) := by
  apply Int64.toBitVec.inj
  rw [Int64.toBitVec_or, Int64.toBitVec_add, Int64.toBitVec_mul]
  have e1 : (X <<< ((8 : Int32).toInt64 &&& 63)).toBitVec = X.toBitVec <<< 8 := by
    show X.toBitVec <<< (((8 : Int32).toInt64 &&& 63).toBitVec.smod 64) = _
    rw [show (((8 : Int32).toInt64 &&& 63).toBitVec.smod 64) = 8#64 by decide]
    rfl
  have e2 : (jj (b : Int)).toBitVec = BitVec.ofNat 64 b := by
    show BitVec.ofInt 64 (b : Int) = _
    exact BitVec.ofInt_natCast 64 b
  have e3 : X.toBitVec * (256 : Int64).toBitVec = X.toBitVec <<< 8 := by
    apply BitVec.eq_of_toNat_eq
    rw [BitVec.toNat_mul, BitVec.toNat_shiftLeft, show (256 : Int64).toBitVec.toNat = 256 by decide, Nat.shiftLeft_eq]
  rw [e1, e2, e3]
  refine (BitVec.add_eq_or_of_and_eq_zero _ _ ?_).symm
  apply BitVec.eq_of_getLsbD_eq
  intro i hi
  rw [BitVec.getLsbD_and, BitVec.getLsbD_shiftLeft, BitVec.getLsbD_ofNat]
  by_cases c : i < 8
  · simp [c]
  · have hz : b.testBit i = false := Nat.testBit_lt_two_pow (by
      have : 2 ^ 8 ≤ 2 ^ i := Nat.pow_le_pow_right (by omega) (by omega)
      omega)
    simp [hz]
theorem and255 {b : Nat} (hb : b < 256) : (ii (b : Int)).toInt64 &&& 255 = jj (b : Int) := by
  rw [ii_64 (by omega) (by omega)]
  apply Int64.toBitVec.inj
  rw [Int64.toBitVec_and]
  have e2 : (jj (b : Int)).toBitVec = BitVec.ofNat 64 b := by
    show BitVec.ofInt 64 (b : Int) = _
    exact BitVec.ofInt_natCast 64 b
  rw [e2]
  apply BitVec.eq_of_toNat_eq
  rw [BitVec.toNat_and, show (255 : Int64).toBitVec.toNat = 2 ^ 8 - 1 by decide, Nat.and_two_pow_sub_one_eq_mod, BitVec.toNat_ofNat]
  omega
theorem sx32 (X : Int64) : (X <<< ((64 - (8 * (4 : Int32))).toInt64 &&& 63)) >>> ((64 - (8 * (4 : Int32))).toInt64 &&& 63) = X.toInt32.toInt64 := by
  apply Int64.toBitVec.inj
  have e1 : ((X <<< ((64 - (8 * (4 : Int32))).toInt64 &&& 63)) >>> ((64 - (8 * (4 : Int32))).toInt64 &&& 63)).toBitVec = (X.toBitVec <<< 32).sshiftRight 32 := by
    show (X.toBitVec <<< (((64 - (8 * (4 : Int32))).toInt64 &&& 63).toBitVec.smod 64)).sshiftRight (((64 - (8 * (4 : Int32))).toInt64 &&& 63).toBitVec.smod 64).toNat = _
    rw [show (((64 - (8 * (4 : Int32))).toInt64 &&& 63).toBitVec.smod 64) = 32#64 by decide]
    rfl
  have e2 : X.toInt32.toInt64.toBitVec = (X.toBitVec.signExtend 32).signExtend 64 := rfl
  rw [e1, e2]
  apply BitVec.eq_of_getLsbD_eq
  intro i hi
  rw [BitVec.getLsbD_sshiftRight, BitVec.getLsbD_signExtend, BitVec.getLsbD_signExtend]
  have hm1 : (X.toBitVec <<< 32).msb = X.toBitVec.getLsbD 31 := by
    rw [BitVec.msb_eq_getLsbD_last, BitVec.getLsbD_shiftLeft]
    simp
  have hm2 : (X.toBitVec.signExtend 32).msb = X.toBitVec.getLsbD 31 := by
    rw [BitVec.msb_eq_getLsbD_last, BitVec.getLsbD_signExtend]
    simp
  by_cases c : i < 32
  · have c2 : 32 + i < 64 := by omega
    have c3 : ¬ 64 ≤ i := by omega
    have c4 : ¬ 32 + i < 32 := by omega
    rw [BitVec.getLsbD_shiftLeft]
    simp [c, hi, c2, c3, c4]
  · have c2 : ¬ 32 + i < 64 := by omega
    have c3 : ¬ 64 ≤ i := by omega
    simp [c, hi, c2, c3, hm1, hm2]
theorem u32 {b : Nat} (hb : b < 4294967296) : (jj (b : Int)).toInt32.toInt64 &&& 4294967295 = jj (b : Int) := by
  apply Int64.toBitVec.inj
  rw [Int64.toBitVec_and]
  have e2 : (jj (b : Int)).toBitVec = BitVec.ofNat 64 b := by
    show BitVec.ofInt 64 (b : Int) = _
    exact BitVec.ofInt_natCast 64 b
  have e3 : (jj (b : Int)).toInt32.toInt64.toBitVec = ((jj (b : Int)).toBitVec.signExtend 32).signExtend 64 := rfl
  rw [e3, e2]
  apply BitVec.eq_of_getLsbD_eq
  intro i hi
  have hm : (4294967295 : Int64).toBitVec = BitVec.ofNat 64 (2 ^ 32 - 1) := by decide
  rw [BitVec.getLsbD_and, hm, BitVec.getLsbD_signExtend, BitVec.getLsbD_signExtend, BitVec.getLsbD_ofNat, BitVec.getLsbD_ofNat, Nat.testBit_two_pow_sub_one]
  by_cases c : i < 32
  · simp [c, hi]
  · have hz : b.testBit i = false := Nat.testBit_lt_two_pow (by
      have : 2 ^ 32 ≤ 2 ^ i := Nat.pow_le_pow_right (by omega) (by omega)
      omega)
    simp [c, hz]
section
variable {nf n : Nat} {s : Int32} {N : Nat} {A : Nat → Int32} {sa : Nat → Nat → Int32}
theorem rdn (hP : RB s N A n (sa 0)) (hn : n ≤ 6000) {p w : Nat} (hp : p + w ≤ n) (hw : w ≤ 8) : ∀ (d k fu fu' a : Nat), k + d = w → d < fu → d < fu' → a < 256 ^ k → ∃ b : Nat, b < 256 ^ w ∧ f_By_signedAt_5 nf s N A fu (ii (k : Int)) (jj (a : Int)) (ii (p : Int)) (ii (w : Int)) = some (if ii (w : Int) = 4 then (jj (b : Int)).toInt32.toInt64 else jj (b : Int)) ∧ f_Mo_unsigned_5 nf sa fu' (ii (k : Int)) (jj (a : Int)) (ii (p : Int)) (ii (w : Int)) = some (jj (b : Int)) := by
  intro d
  induction d with
  | zero =>
    intro k fu fu' a hk hf hf' ha
    obtain ⟨f, rfl⟩ : ∃ f, fu = f + 1 := ⟨fu - 1, by omega⟩
    obtain ⟨f', rfl⟩ : ∃ f', fu' = f' + 1 := ⟨fu' - 1, by omega⟩
    obtain rfl : k = w := by omega
    have le : ii (k : Int) ≤ ii (k : Int) := iple (c := 0) (d := 0) (by omega) (by omega)
    refine ⟨a, ha, ?_, ?_⟩
    · rw [f_By_signedAt_5, if_pos le]
      unfold f_By_signedAt_48
      by_cases c : ii (k : Int) = 4
      · rw [if_pos c, if_pos c]
      · rw [if_neg c, if_neg c]
    · rw [f_Mo_unsigned_5, if_pos le]
  | succ d ih =>
    intro k fu fu' a hk hf hf' ha
    obtain ⟨f, rfl⟩ : ∃ f, fu = f + 1 := ⟨fu - 1, by omega⟩
    obtain ⟨f', rfl⟩ : ∃ f', fu' = f' + 1 := ⟨fu' - 1, by omega⟩
    obtain ⟨x, hx, ex⟩ := hP.byte (k := p + k) (by omega)
    obtain ⟨i1, i2⟩ := nidx (k := p + k) (m := 6000) (by omega) (by omega)
    have epk : ii (p : Int) + ii (k : Int) = ii ((p + k : Nat) : Int) := by rw [ii_add]; congr 1
    have pw : 256 ^ (k + 1) = 256 * 256 ^ k := by rw [Nat.pow_succ, Nat.mul_comm]
    obtain ⟨b, b1, b2, b3⟩ := ih (k + 1) f f' (a * 256 + x) (by omega) (by omega) (by omega) (by rw [pw]; omega)
    have eacc : jj (a : Int) * 256 + jj (x : Int) = jj ((a * 256 + x : Nat) : Int) := by
      rw [show (256 : Int64) = jj 256 from rfl, jj_mul, jj_add]
      congr 1
    refine ⟨b, b1, ?_, ?_⟩
    · rw [f_By_signedAt_5, if_neg (inle (show k < w by omega) (by omega)), epk, hP.get (k := p + k) (by omega), Option.bind_some, ex, and255 hx, shl8 _ hx, eacc, iiS]
      exact b2
    · rw [f_Mo_unsigned_5, if_neg (inle (show k < w by omega) (by omega)), epk, i1, if_neg i2, ex, ii_64 (by omega) (by omega), shl8 _ hx, eacc, iiS]
      exact b3
/-- a number of four bytes without a sign -/
theorem rdu (hnf : 10000 ≤ nf) (hP : RB s N A n (sa 0)) (hn : n ≤ 6000) {p : Nat} (hp : p + 4 ≤ n) {si : Nat → Int32} {sj : Nat → Int64} {sb : Nat → Nat → Int64} : ∃ b : Nat, b < 4294967296 ∧ f_By_unsignedAt nf (ii (p : Int)) s N A = some (jj (b : Int)) ∧ f_Mo_unsigned nf (ii (p : Int)) 4 si sj sa sb = some (jj (b : Int)) := by
  obtain ⟨b, b1, b2, b3⟩ := rdn (nf := nf) hP hn (p := p) (w := 4) hp (by omega) 4 0 nf nf 0 (by omega) (by omega) (by omega) (by omega)
  refine ⟨b, b1, ?_, b3⟩
  unfold f_By_unsignedAt f_By_unsignedAt_0
  have b2' : f_By_signedAt nf (ii (p : Int)) 4 s N A = some (jj (b : Int)).toInt32.toInt64 := b2
  rw [b2', Option.bind_some, u32 b1]
/-- a number with a sign: of eight bytes, of four -/
theorem rds (hnf : 10000 ≤ nf) (hP : RB s N A n (sa 0)) (hn : n ≤ 6000) {p w : Nat} (hw : w = 4 ∨ w = 8) (hp : p + w ≤ n) {si : Nat → Int32} {sj : Nat → Int64} {sb : Nat → Nat → Int64} : ∃ v : Int, -9223372036854775808 ≤ v ∧ v < 9223372036854775808 ∧ (w = 4 → -2147483648 ≤ v ∧ v < 2147483648) ∧ f_By_signedAt nf (ii (p : Int)) (ii (w : Int)) s N A = some (jj v) ∧ f_Mo_signed nf (ii (p : Int)) (ii (w : Int)) si sj sa sb = some (jj v) := by
  obtain ⟨b, b1, b2, b3⟩ := rdn (nf := nf) hP hn (p := p) (w := w) hp (by omega) w 0 nf nf 0 (by omega) (by omega) (by omega) (by omega)
  have b2' : f_By_signedAt nf (ii (p : Int)) (ii (w : Int)) s N A = some (if ii (w : Int) = 4 then (jj (b : Int)).toInt32.toInt64 else jj (b : Int)) := b2
  have b3' : f_Mo_unsigned nf (ii (p : Int)) (ii (w : Int)) si sj sa sb = some (jj (b : Int)) := b3
  unfold f_Mo_signed f_Mo_signed_0 f_Mo_signed_34
  rw [b2', b3', Option.bind_some]
  rcases hw with rfl | rfl
  · obtain ⟨v, e, v1, v2⟩ := ii_all (jj (b : Int)).toInt32
    have e4 : ii ((4 : Nat) : Int) = 4 := rfl
    refine ⟨v, by omega, by omega, fun _ => ⟨v1, v2⟩, ?_, ?_⟩
    · rw [if_pos e4, e, ii_64 v1 v2]
    · rw [e4, if_neg (by decide), sx32, e, ii_64 v1 v2]
  · obtain ⟨v, e, v1, v2⟩ := jj_all (jj (b : Int))
    refine ⟨v, v1, v2, fun q => by omega, ?_, ?_⟩
    · rw [if_neg (show ¬ ii ((8 : Nat) : Int) = 4 by decide), e]
    · rw [if_pos (show ii ((8 : Nat) : Int) = 8 from rfl), e]
end
