/-! ===== rows of bytes ===== -/
theorem vup_ne {α : Type} {f : Nat → α} {k j : Nat} {v : α} (h : j ≠ k) : va_up f k v j = f j := if_neg h
theorem vup_eq {α : Type} {f : Nat → α} {k : Nat} {v : α} : va_up f k v k = v := if_pos rfl
theorem bx_b (x : Int32) : x.toInt8.toInt32 &&& 255 = x &&& 255 := by
  apply Int32.toBitVec.inj
  rw [Int32.toBitVec_and, Int32.toBitVec_and]
  apply BitVec.eq_of_getLsbD_eq
  intro i hi
  rw [BitVec.getLsbD_and, BitVec.getLsbD_and]
  by_cases h : i < 8
  · have e : x.toInt8.toInt32.toBitVec.getLsbD i = x.toBitVec.getLsbD i := by
      show ((x.toBitVec.signExtend 8).signExtend 32).getLsbD i = _
      rw [BitVec.getLsbD_signExtend, BitVec.getLsbD_signExtend]
      simp [h, hi]
    rw [e]
  · have hm : ∀ i < 32, 8 ≤ i → (255 : Int32).toBitVec.getLsbD i = false := by decide
    rw [hm i hi (by omega), Bool.and_false, Bool.and_false]
theorem m255 (v : Int32) : ∃ b : Nat, b < 256 ∧ v &&& 255 = ii (b : Int) := by
  refine ⟨v.toBitVec.toNat % 256, Nat.mod_lt _ (by omega), ?_⟩
  apply Int32.toBitVec.inj
  show v.toBitVec &&& 255#32 = BitVec.ofInt 32 _
  apply BitVec.eq_of_toNat_eq
  rw [BitVec.toNat_and, BitVec.toNat_ofInt]
  show v.toBitVec.toNat &&& 255 = _
  rw [show (255 : Nat) = 2 ^ 8 - 1 from rfl, Nat.and_two_pow_sub_one_eq_mod]
  omega
theorem byte_ok (x : Int32) : ∃ v : Int, x.toInt8.toInt32 = ii v ∧ -128 ≤ v ∧ v < 128 := by
  have h1 := x.toInt8.le_toInt
  have h2 := x.toInt8.toInt_lt
  refine ⟨x.toInt8.toInt, ?_, by omega, by omega⟩
  exact (Int32.ofInt_int8ToInt x.toInt8).symm
theorem nar_byte (x : Int32) : vp_nar .byte x.toInt8.toInt32 = x.toInt8.toInt32.toInt8.toInt32 := rfl
theorem fits_byte {x : Int32} {v : Int} (e : x = ii v) (h1 : -128 ≤ v) (h2 : v < 128) : fits .byte (.int x) = true := by
  show (decide (-128 ≤ x) && decide (x ≤ 127)) = true
  rw [e, ii_lit, ii_neg, ii_lit, Bool.and_eq_true]
  exact ⟨decide_eq_true ((ii_le (by omega) (by omega) (by omega) (by omega)).mpr h1), decide_eq_true ((ii_le (by omega) (by omega) (by omega) (by omega)).mpr (by omega))⟩
/-- a row of bytes: its size, its room, its bytes; T: the same bytes as 0 .. 255 -/
def RB (s : Int32) (N : Nat) (A : Nat → Int32) (n : Nat) (T : Nat → Int32) : Prop :=
  s = ii (n : Int) ∧ n ≤ N ∧ 1 ≤ N ∧ N ≤ 40000 ∧ (∀ k, k < N → ∃ v : Int, A k = ii v ∧ -128 ≤ v ∧ v < 128) ∧ ∀ k, k < n → A k &&& 255 = T k
theorem RB.get {nf : Nat} {s : Int32} {N n : Nat} {A T : Nat → Int32} (h : RB s N A n T) {k : Nat} (hk : k < n) : f_By_get nf (ii (k : Int)) s N A = some (T k) := by
  obtain ⟨e, h1, h2, h3, h4, h5⟩ := h
  unfold f_By_get f_By_get_0 f_By_get_26
  rw [e, ii_lit, if_neg (by rw [ii_lt (by omega) (by omega) (by omega) (by omega)]; omega), if_pos ((ii_lt (by omega) (by omega) (by omega) (by omega)).mpr (by omega)), ii_nat (by omega) (by omega), if_neg (by rw [ii_lt (by omega) (by omega) (by omega) (by omega)]; omega)]
  rw [show ((k : Int)).toNat = k by omega, h5 k hk]
theorem RB.out {nf : Nat} {s : Int32} {N n : Nat} {A T : Nat → Int32} (h : RB s N A n T) {k : Int} (h0 : -2147483648 ≤ k) (h9 : k < 2147483648) (hk : k < 0 ∨ (n : Int) ≤ k) : f_By_get nf (ii k) s N A = some (-1) := by
  obtain ⟨e, h1, h2, h3, h4, h5⟩ := h
  unfold f_By_get f_By_get_0 f_By_get_12 f_By_get_26
  rw [e, ii_lit]
  by_cases c : k < 0
  · rw [if_pos ((ii_lt (by omega) (by omega) (by omega) (by omega)).mpr c)]
  · rw [if_neg (by rw [ii_lt (by omega) (by omega) (by omega) (by omega)]; omega), if_neg (by rw [ii_lt (by omega) (by omega) (by omega) (by omega)]; omega)]
theorem RB.byte {s : Int32} {N n : Nat} {A T : Nat → Int32} (h : RB s N A n T) {k : Nat} (hk : k < n) : ∃ b : Nat, b < 256 ∧ T k = ii (b : Int) := by
  obtain ⟨e, h1, h2, h3, h4, h5⟩ := h
  obtain ⟨b, hb, e⟩ := m255 (A k)
  exact ⟨b, hb, by rw [← h5 k hk, e]⟩
theorem copy_ok (nf : Nat) {N : Nat} {A : Nat → Int32} (h1 : 1 ≤ N) (h2 : N ≤ 400000) (hA : ∀ k, k < N → ∃ v : Int, A k = ii v ∧ -128 ≤ v ∧ v < 128) : f_Arrays_copyOf nf (2 * nI N) N A = some ((2 * N, va_cpy A (fun _ => 0) 0 0 N), 1, 2 * N) := by
  have e : (2 * nI N : Int32) = ii (2 * (N : Int)) := by rw [nI_ii, ii_lit, ii_mul]
  have hlt : ¬ (ii (2 * (N : Int)) < nI N) := by rw [nI_ii, ii_lt (by omega) (by omega) (by omega) (by omega)]; omega
  have e3 : (nI N).toNatClampNeg = N := by rw [nI_ii, ii_nat (by omega) (by omega)]; omega
  have e4 : (ii (2 * (N : Int))).toNatClampNeg = 2 * N := by rw [ii_nat (by omega) (by omega)]; omega
  unfold f_Arrays_copyOf f_Arrays_copyOf_0
  rw [e, if_neg (by rw [nI_ii, ii_eq (by omega) (by omega) (by omega) (by omega)]; omega), e4, if_neg (by rw [ii_lit, ii_lt (by omega) (by omega) (by omega) (by omega)]; omega)]
  simp only [if_neg hlt, e3]
  rw [if_neg (by
    rw [show (0 : Int32).toNatClampNeg = 0 from rfl]
    rintro (q | q | q | q | q)
    · exact absurd q (by decide)
    · exact absurd q (by decide)
    · rw [nI_ii, ii_lit, ii_lt (by omega) (by omega) (by omega) (by omega)] at q; omega
    · omega
    · omega)]
  rw [if_pos (fun i hi => by
    rw [show (0 : Int32).toNatClampNeg = 0 from rfl, Nat.zero_add]
    obtain ⟨v, e, k1, k2⟩ := hA i hi
    exact fits_byte e k1 k2)]
  show some _ = some _
  rw [show (0 : Int32).toNatClampNeg = 0 from rfl]
  simp only [Nat.zero_add]
theorem RB.put {nf : Nat} {s : Int32} {N n : Nat} {A T : Nat → Int32} (h : RB s N A n T) (hn : n < 20000) (x : Int32) :
    ∃ N' A' kc ks, f_By_put nf x s N A = some ((ii ((n : Int) + 1), N', A'), kc, ks) ∧ RB (ii ((n : Int) + 1)) N' A' (n + 1) (upd T n (x &&& 255)) ∧ kc + N ≤ N' ∧ ks + 2 * N ≤ 2 * N' := by
  obtain ⟨e, h1, h2, h3, h4, h5⟩ := h
  have key : ∀ (N' : Nat) (A' : Nat → Int32), n < N' → N' ≤ 40000 → (∀ k, k < N' → ∃ v : Int, A' k = ii v ∧ -128 ≤ v ∧ v < 128) → (∀ k, k < n → A' k &&& 255 = T k) →
      f_By_put_30 nf x (ii (n : Int)) N' A' = some ((ii ((n : Int) + 1), N', upd A' n (vp_nar .byte x.toInt8.toInt32)), 0, 0) ∧ RB (ii ((n : Int) + 1)) N' (upd A' n (vp_nar .byte x.toInt8.toInt32)) (n + 1) (upd T n (x &&& 255)) := by
    intro N' A' g1 g2 g3 g4
    have en : (ii (n : Int)).toNatClampNeg = n := by rw [ii_nat (by omega) (by omega)]; omega
    constructor
    · unfold f_By_put_30
      rw [en, if_neg (by rw [ii_lit, ii_lt (by omega) (by omega) (by omega) (by omega)]; omega), ii_lit, ii_add]
    · refine ⟨by congr 1, by omega, by omega, g2, fun k hk => ?_, fun k hk => ?_⟩
      · unfold upd
        by_cases c : k = n
        · rw [if_pos c, nar_byte]
          exact byte_ok _
        · rw [if_neg c]
          exact g3 k hk
      · unfold upd
        by_cases c : k = n
        · rw [if_pos c, if_pos c, nar_byte, bx_b, bx_b]
        · rw [if_neg c, if_neg c]
          exact g4 k (by omega)
  unfold f_By_put f_By_put_0
  rw [e]
  by_cases c : n < N
  · obtain ⟨k1, k2⟩ := key N A c h3 h4 h5
    rw [if_pos (by rw [nI_ii, ii_lt (by omega) (by omega) (by omega) (by omega)]; omega), k1]
    exact ⟨N, _, 0, 0, rfl, k2, by omega, by omega⟩
  · rw [if_neg (by rw [nI_ii, ii_lt (by omega) (by omega) (by omega) (by omega)]; omega), copy_ok nf h2 (by omega) h4, Option.bind_some]
    obtain ⟨k1, k2⟩ := key (2 * N) (va_cpy A (fun _ => 0) 0 0 N) (by omega) (by omega) (fun k hk => by
      unfold va_cpy
      by_cases q : 0 ≤ k ∧ k < 0 + N
      · rw [if_pos q]
        exact h4 _ (by omega)
      · rw [if_neg q]
        exact ⟨0, rfl, by omega, by omega⟩) (fun k hk => by
      unfold va_cpy
      rw [if_pos (by omega), show 0 + (k - 0) = k by omega]
      exact h5 k hk)
    dsimp only
    rw [k1]
    exact ⟨2 * N, _, 1, 2 * N, by unfold ad; simp, k2, by omega, by omega⟩
theorem RB.T_congr {s : Int32} {N n : Nat} {A T T' : Nat → Int32} (h : RB s N A n T) (e : ∀ k, k < n → T k = T' k) : RB s N A n T' := by
  obtain ⟨e1, h1, h2, h3, h4, h5⟩ := h
  exact ⟨e1, h1, h2, h3, h4, fun k hk => (h5 k hk).trans (e k hk)⟩
theorem RB.clear {s : Int32} {N n : Nat} {A T : Nat → Int32} (h : RB s N A n T) (T' : Nat → Int32) : RB 0 N A 0 T' := by
  obtain ⟨e1, h1, h2, h3, h4, h5⟩ := h
  exact ⟨rfl, by omega, h2, h3, h4, fun k hk => by omega⟩
/-- bytes of a long -/
theorem feed_bits (x : Int64) : ∀ k : Nat, k < 8 → ((x.toUInt64 >>> ((8 * ii (k : Int)).toInt64.toUInt64 &&& Int64.toUInt64 63)).toInt64).toInt32 &&& 255 = ((x >>> ((8 * ii (k : Int)).toInt64 &&& 63)) &&& 255).toInt32 := by
  intro k hk
  have es : ∀ k : Fin 8, ((8 * ii (k.val : Int)).toInt64.toUInt64 &&& Int64.toUInt64 63).toNat % 64 = 8 * k.val ∧ ((8 * ii (k.val : Int)).toInt64 &&& 63).toBitVec.toNat = 8 * k.val ∧ (((8 * ii (k.val : Int)).toInt64 &&& 63).toBitVec.smod 64).toNat = 8 * k.val := by decide +kernel
  obtain ⟨e1, e2, e3⟩ := es ⟨k, hk⟩
  apply Int32.toBitVec.inj
  rw [Int32.toBitVec_and]
  apply BitVec.eq_of_getLsbD_eq
  intro i hi
  have hm : ∀ i < 32, (255 : Int32).toBitVec.getLsbD i = decide (i < 8) := by decide
  have hm2 : ∀ i < 64, (255 : Int64).toBitVec.getLsbD i = decide (i < 8) := by decide
  rw [BitVec.getLsbD_and, hm i hi]
  have eL : ((x.toUInt64 >>> ((8 * ii (k : Int)).toInt64.toUInt64 &&& Int64.toUInt64 63)).toInt64).toInt32.toBitVec = (x.toBitVec >>> (8 * k)).signExtend 32 := by
    show (x.toBitVec >>> (((8 * ii (k : Int)).toInt64.toUInt64 &&& Int64.toUInt64 63).toBitVec % 64)).signExtend 32 = _
    congr 1
    show x.toBitVec >>> (((8 * ii (k : Int)).toInt64.toUInt64 &&& Int64.toUInt64 63).toBitVec % 64).toNat = _
    congr 1
  have eR : ((x >>> ((8 * ii (k : Int)).toInt64 &&& 63)) &&& 255).toInt32.toBitVec = (x.toBitVec.sshiftRight (8 * k) &&& (255 : Int64).toBitVec).signExtend 32 := by
    show ((x.toBitVec.sshiftRight (((8 * ii (k : Int)).toInt64 &&& 63).toBitVec.smod 64).toNat) &&& (255 : Int64).toBitVec).signExtend 32 = _
    rw [e3]
  rw [eL, eR, BitVec.getLsbD_signExtend, BitVec.getLsbD_signExtend, BitVec.getLsbD_and, BitVec.getLsbD_ushiftRight, BitVec.getLsbD_sshiftRight]
  by_cases h : i < 8
  · have h1 : 8 * k + i < 64 := by omega
    have h2 : i < 64 := by omega
    have h3 : ¬ 64 ≤ i := by omega
    rw [hm2 i h2]
    simp [h, hi, h1, h2, h3]
  · by_cases h2 : i < 64
    · rw [hm2 i h2]
      simp [h, hi, h2]
    · omega
