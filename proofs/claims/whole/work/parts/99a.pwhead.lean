/-! ===== write: headers and blocks ===== -/
section
variable {nf n m q N : Nat} {si : Nat → Int32} {sj : Nat → Int64} {sa : Nat → Nat → Int32} {sb : Nat → Nat → Int64} {s : Int32} {A : Nat → Int32}
theorem wr_ad {k1 s1 N1 : Nat} {si1 : Nat → Int32} {sa1 : Nat → Nat → Int32} {fc : Option ((Int32 × Nat × (Nat → Int32)) × Nat × Nat)} {fm : Option MS} (b1 : k1 + N ≤ N1) (b2 : s1 + 2 * N ≤ 2 * N1) (f1 : ∀ k, k ≠ 59 → si1 k = si k) (f2 : ∀ a, a ≠ 58 → sa1 a = sa a) (h : Wr n q fc fm N1 si1 sj sa1 sb) : Wr n q (ad k1 s1 fc) fm N si sj sa sb := by
  obtain ⟨N2, A2, kc2, ks2, si2, sa2, e1, e2, r1, r2, r3, r4, r5, r6⟩ := h
  exact ⟨N2, A2, kc2 + k1, ks2 + s1, si2, sa2, by rw [e1]; rfl, e2, r1, r2, by omega, by omega, fun k hk => (r5 k hk).trans (f1 k hk), fun a ha => (r6 a ha).trans (f2 a ha)⟩
theorem wr_fin (h : RB s N A n (sa 58)) (h59 : si 59 = ii (n : Int)) : Wr n n (some ((s, N, A), 0, 0)) (some (si, sj, sa, sb)) N si sj sa sb := by
  have e := h.1
  exact ⟨N, A, 0, 0, si, sa, by rw [e], rfl, by rw [← e]; exact h, h59, by omega, by omega, fun _ _ => rfl, fun _ _ => rfl⟩
/-- 15 zeros -/
theorem zer15 (hnf : 10000 ≤ nf) (hn : n + 15 ≤ 6000) (h : RB s N A n (sa 58)) (h59 : si 59 = ii (n : Int)) : ∃ (N' : Nat) (A' : Nat → Int32) (kc ks : Nat) (i1 : Nat → Int32) (a1 : Nat → Nat → Int32) (i2 : Nat → Int32) (a2 : Nat → Nat → Int32), f_By_putZeros nf 15 s N A = some ((ii ((n + 15 : Nat) : Int), N', A'), kc, ks) ∧ f_Mo_putNumber nf 0 8 si sj sa sb = some (i1, sj, a1, sb) ∧ f_Mo_putNumber nf 0 7 i1 sj a1 sb = some (i2, sj, a2, sb) ∧ RB (ii ((n + 15 : Nat) : Int)) N' A' (n + 15) (a2 58) ∧ i2 59 = ii ((n + 15 : Nat) : Int) ∧ kc + N ≤ N' ∧ ks + 2 * N ≤ 2 * N' ∧ (∀ k, k ≠ 59 → i2 k = si k) ∧ ∀ a, a ≠ 58 → a2 a = sa a := by
  obtain ⟨N', A', kc, ks, e, r, c, d⟩ := pzer2 (nf := nf) 15 0 n 15 nf (by omega) (by omega) hn (by omega) h
  obtain ⟨i1, a1, e1, x1, f1, g1, y1, z1⟩ := mzer (nf := nf) (sj := sj) (sb := sb) (sa := sa) hnf 8 n (by omega) (by omega) h59
  obtain ⟨i2, a2, e2, x2, f2, g2, y2, z2⟩ := mzer (nf := nf) (sj := sj) (sb := sb) (sa := a1) hnf 7 (n + 8) (by omega) (by omega) x1
  refine ⟨N', A', kc, ks, i1, a1, i2, a2, e, e1, e2, r.T_congr (fun q hq => ?_), ?_, c, d, fun k hk => (f2 k hk).trans (f1 k hk), fun a ha => (g2 a ha).trans (g1 a ha)⟩
  · by_cases c1 : q < n
    · rw [if_pos c1, y2 q (by omega), y1 q c1]
    · rw [if_neg c1]
      by_cases c2 : q < n + 8
      · rw [y2 q c2, z1 q (by omega) c2]
      · rw [z2 q (by omega) (by omega)]
  · rw [x2]
theorem zer7 (hnf : 10000 ≤ nf) (hn : n + 7 ≤ 6000) (h : RB s N A n (sa 58)) (h59 : si 59 = ii (n : Int)) : Wr n (n + 7) (f_By_putZeros nf 7 s N A) (f_Mo_putNumber nf 0 7 si sj sa sb) N si sj sa sb := by
  obtain ⟨N', A', kc, ks, e, r, c, d⟩ := pzer2 (nf := nf) 7 0 n 7 nf (by omega) (by omega) hn (by omega) h
  obtain ⟨i1, a1, e1, x1, f1, g1, y1, z1⟩ := mzer (nf := nf) (sj := sj) (sb := sb) (sa := sa) hnf 7 n (by omega) (by omega) h59
  refine ⟨N', A', kc, ks, i1, a1, e, e1, r.T_congr (fun q hq => ?_), x1, c, d, f1, g1⟩
  by_cases c1 : q < n
  · rw [if_pos c1, y1 q c1]
  · rw [if_neg c1, z1 q (by omega) (by omega)]
/-- 16 zeros -/
theorem zer16 (hnf : 10000 ≤ nf) (hn : n + 16 ≤ 6000) (h : RB s N A n (sa 58)) (h59 : si 59 = ii (n : Int)) : ∃ (N' : Nat) (A' : Nat → Int32) (kc ks : Nat) (i1 i2 i3 i4 : Nat → Int32) (a1 a2 a3 a4 : Nat → Nat → Int32), f_By_putZeros nf 16 s N A = some ((ii ((n + 16 : Nat) : Int), N', A'), kc, ks) ∧ f_Mo_putNumber nf 0 4 si sj sa sb = some (i1, sj, a1, sb) ∧ f_Mo_putNumber nf 0 4 i1 sj a1 sb = some (i2, sj, a2, sb) ∧ f_Mo_putNumber nf 0 4 i2 sj a2 sb = some (i3, sj, a3, sb) ∧ f_Mo_putNumber nf 0 4 i3 sj a3 sb = some (i4, sj, a4, sb) ∧ RB (ii ((n + 16 : Nat) : Int)) N' A' (n + 16) (a4 58) ∧ i4 59 = ii ((n + 16 : Nat) : Int) ∧ kc + N ≤ N' ∧ ks + 2 * N ≤ 2 * N' ∧ (∀ k, k ≠ 59 → i4 k = si k) ∧ ∀ a, a ≠ 58 → a4 a = sa a := by
  obtain ⟨N', A', kc, ks, e, r, c, d⟩ := pzer2 (nf := nf) 16 0 n 16 nf (by omega) (by omega) hn (by omega) h
  obtain ⟨i1, a1, e1, x1, f1, g1, y1, z1⟩ := mzer (nf := nf) (sj := sj) (sb := sb) (sa := sa) hnf 4 n (by omega) (by omega) h59
  obtain ⟨i2, a2, e2, x2, f2, g2, y2, z2⟩ := mzer (nf := nf) (sj := sj) (sb := sb) (sa := a1) hnf 4 (n + 4) (by omega) (by omega) x1
  obtain ⟨i3, a3, e3, x3, f3, g3, y3, z3⟩ := mzer (nf := nf) (sj := sj) (sb := sb) (sa := a2) hnf 4 (n + 4 + 4) (by omega) (by omega) x2
  obtain ⟨i4, a4, e4, x4, f4, g4, y4, z4⟩ := mzer (nf := nf) (sj := sj) (sb := sb) (sa := a3) hnf 4 (n + 4 + 4 + 4) (by omega) (by omega) x3
  refine ⟨N', A', kc, ks, i1, i2, i3, i4, a1, a2, a3, a4, e, e1, e2, e3, e4, r.T_congr (fun q hq => ?_), ?_, c, d, fun k hk => (f4 k hk).trans ((f3 k hk).trans ((f2 k hk).trans (f1 k hk))), fun a ha => (g4 a ha).trans ((g3 a ha).trans ((g2 a ha).trans (g1 a ha)))⟩
  · by_cases c1 : q < n
    · rw [if_pos c1, y4 q (by omega), y3 q (by omega), y2 q (by omega), y1 q c1]
    · rw [if_neg c1]
      by_cases c2 : q < n + 4
      · rw [y4 q (by omega), y3 q (by omega), y2 q c2, z1 q (by omega) c2]
      · by_cases c3 : q < n + 4 + 4
        · rw [y4 q (by omega), y3 q (by omega), z2 q (by omega) c3]
        · by_cases c4 : q < n + 4 + 4 + 4
          · rw [y4 q (by omega), z3 q (by omega) c4]
          · rw [z4 q (by omega) (by omega)]
  · rw [x4]
/-- the rest of the reference's header -/
def HT (nf : Nat) (x2 x3 x4 x5 x6 x7 : Int32) (si : Nat → Int32) (sj : Nat → Int64) (sa : Nat → Nat → Int32) (sb : Nat → Nat → Int64) : Option MS :=
  (f_Mo_putNumber nf x2.toInt64 4 si sj sa sb).bind fun (i_14, j_15, a_16, b_17) =>
  (f_Mo_putNumber nf x3.toInt64 4 i_14 j_15 a_16 b_17).bind fun (i_18, j_19, a_20, b_21) =>
  (f_Mo_putNumber nf x4.toInt64 4 i_18 j_19 a_20 b_21).bind fun (i_22, j_23, a_24, b_25) =>
  (f_Mo_putNumber nf x5.toInt64 4 i_22 j_23 a_24 b_25).bind fun (i_26, j_27, a_28, b_29) =>
  (f_Mo_putNumber nf x6.toInt64 4 i_26 j_27 a_28 b_29).bind fun (i_30, j_31, a_32, b_33) =>
  (f_Mo_putNumber nf x7.toInt64 4 i_30 j_31 a_32 b_33).bind fun (i_34, j_35, a_36, b_37) =>
  some (i_34, j_35, a_36, b_37)
theorem mg_ok (k : Nat) (hk : k < 4) : f_Mo_magic nf (ii (k : Int)) = some (mg_v k) := by
  rcases (show k = 0 ∨ k = 1 ∨ k = 2 ∨ k = 3 by omega) with rfl | rfl | rfl | rfl <;> rfl
theorem hst2 (hnf : 10000 ≤ nf) {ver x2 x3 x4 x5 x6 x7 : Int32} : ∀ (d k fu fu' n : Nat), k + d = 4 → d < fu → d < fu' → n + d + 16 ≤ 6000 → ∀ {s : Int32} {N : Nat} {A : Nat → Int32} {si : Nat → Int32} {sa : Nat → Nat → Int32}, RB s N A n (sa 58) → si 59 = ii (n : Int) → ∃ (N' : Nat) (A' : Nat → Int32) (kc ks : Nat) (i2 : Nat → Int32) (a2 : Nat → Nat → Int32), f_FW_putHeaderStart_2 nf fu (ii (k : Int)) ver s N A = some ((ii ((n + d + 16 : Nat) : Int), N', A'), kc, ks) ∧ f_Mo_putHeader_3 nf fu' (ii (k : Int)) ver x2 x3 x4 x5 x6 x7 si sj sa sb = HT nf x2 x3 x4 x5 x6 x7 i2 sj a2 sb ∧ RB (ii ((n + d + 16 : Nat) : Int)) N' A' (n + d + 16) (a2 58) ∧ i2 59 = ii ((n + d + 16 : Nat) : Int) ∧ kc + N ≤ N' ∧ ks + 2 * N ≤ 2 * N' ∧ (∀ k, k ≠ 59 → i2 k = si k) ∧ ∀ a, a ≠ 58 → a2 a = sa a := by
  intro d
  induction d with
  | zero =>
    intro k fu fu' n hk hf hf' hn s N A si sa h h59
    obtain ⟨f, rfl⟩ : ∃ f, fu = f + 1 := ⟨fu - 1, by omega⟩
    obtain ⟨f', rfl⟩ : ∃ f', fu' = f' + 1 := ⟨fu' - 1, by omega⟩
    obtain rfl : k = 4 := by omega
    obtain ⟨N1, A1, k1, s1, i1, a1, e1, e1', r1, h1, b1, b1', f1, g1⟩ := pone (nf := nf) (sj := sj) (sb := sb) hnf ver (by omega) h h59
    obtain ⟨N2, A2, k2, s2, i2, a2, i3, a3, e2, e2', e2'', r2, h2, b2, b2', f2, g2⟩ := zer15 (nf := nf) (sj := sj) (sb := sb) hnf (by omega) r1 h1
    refine ⟨N2, A2, 0 + k2 + k1, 0 + s2 + s1, i3, a3, ?_, ?_, ?_, ?_, by omega, by omega, fun k hk => (f2 k hk).trans (f1 k hk), fun a ha => (g2 a ha).trans (g1 a ha)⟩
    · rw [f_FW_putHeaderStart_2, if_pos (by decide), e1, Option.bind_some]
      dsimp only
      rw [e2]
      rfl
    · rw [f_Mo_putHeader_3, if_pos (by decide), e1', Option.bind_some]
      dsimp only
      rw [e2', Option.bind_some]
      dsimp only
      rw [e2'', Option.bind_some]
      rfl
    · exact r2
    · exact h2
  | succ d ih =>
    intro k fu fu' n hk hf hf' hn s N A si sa h h59
    obtain ⟨f, rfl⟩ : ∃ f, fu = f + 1 := ⟨fu - 1, by omega⟩
    obtain ⟨f', rfl⟩ : ∃ f', fu' = f' + 1 := ⟨fu' - 1, by omega⟩
    have ek : (ii (k : Int)).toNatClampNeg = k := by rw [ii_nat (by omega) (by omega)]; omega
    obtain ⟨N1, A1, k1, s1, i1, a1, e1, e1', r1, h1, b1, b1', f1, g1⟩ := pone (nf := nf) (sj := sj) (sb := sb) hnf (mg_v k) (by omega) h h59
    obtain ⟨N2, A2, k2, s2, i2, a2, e2, e2', r2, h2, b2, b2', f2, g2⟩ := ih (k + 1) f f' (n + 1) (by omega) (by omega) (by omega) (by omega) r1 h1
    rw [show n + 1 + d + 16 = n + (d + 1) + 16 by omega] at e2 r2 h2
    refine ⟨N2, A2, k2 + k1, s2 + s1, i2, a2, ?_, ?_, r2, h2, by omega, by omega, fun k hk => (f2 k hk).trans (f1 k hk), fun a ha => (g2 a ha).trans (g1 a ha)⟩
    · rw [f_FW_putHeaderStart_2, if_neg (by rw [ii_lit, ii_le (by omega) (by omega) (by omega) (by omega)]; omega), ek, if_neg (by rw [ii_lit, ii_lt (by omega) (by omega) (by omega) (by omega)]; omega), e1, Option.bind_some]
      dsimp only
      rw [iiS, e2]
      rfl
    · rw [f_Mo_putHeader_3, if_neg (by rw [ii_lit, ii_le (by omega) (by omega) (by omega) (by omega)]; omega), mg_ok k (by omega), Option.bind_some, e1', Option.bind_some]
      dsimp only
      rw [iiS]
      exact e2'
theorem hstart (hnf : 10000 ≤ nf) {ver x2 x3 x4 x5 x6 x7 : Int32} (hn : n + 20 ≤ 6000) (h : RB s N A n (sa 58)) (h59 : si 59 = ii (n : Int)) : ∃ (N' : Nat) (A' : Nat → Int32) (kc ks : Nat) (i2 : Nat → Int32) (a2 : Nat → Nat → Int32), f_FW_putHeaderStart nf ver s N A = some ((ii ((n + 20 : Nat) : Int), N', A'), kc, ks) ∧ f_Mo_putHeader nf ver x2 x3 x4 x5 x6 x7 si sj sa sb = HT nf x2 x3 x4 x5 x6 x7 i2 sj a2 sb ∧ RB (ii ((n + 20 : Nat) : Int)) N' A' (n + 20) (a2 58) ∧ i2 59 = ii ((n + 20 : Nat) : Int) ∧ kc + N ≤ N' ∧ ks + 2 * N ≤ 2 * N' ∧ (∀ k, k ≠ 59 → i2 k = si k) ∧ ∀ a, a ≠ 58 → a2 a = sa a := hst2 hnf 4 0 nf nf n (by omega) (by omega) (by omega) (by omega) h h59

theorem phead (hnf : 10000 ≤ nf) {ver c1 c2 c3 c4 c5 c6 : Int32} (hn : n + 44 ≤ 6000) (h : RB s N A n (sa 58)) (h59 : si 59 = ii (n : Int)) : Wr n (n + 44) (f_FW_putHeader nf ver s N A c4 c5 c3 c2 c1 c6) (f_Mo_putHeader nf ver c1 c2 c3 c4 c5 c6 si sj sa sb) N si sj sa sb := by
  obtain ⟨N0, A0, k0, s0, i0, a0, e0, e0', r0, h0, b0, b0', f0, g0⟩ := hstart (nf := nf) (sj := sj) (sb := sb) (x2 := c1) (x3 := c2) (x4 := c3) (x5 := c4) (x6 := c5) (x7 := c6) (ver := ver) hnf (by omega) h h59
  unfold f_FW_putHeader f_FW_putHeader_0
  rw [e0, e0', Option.bind_some]
  refine wr_ad b0 b0' f0 g0 ?_
  unfold HT
  obtain ⟨N1, A1, k1, s1, i1, a1, e1, e1', r1, h1, b1, b1', f1, g1⟩ := pnum (nf := nf) (sj := sj) (sb := sb) hnf c1.toInt64 4 (by omega) (by omega) r0 h0
  rw [show ii ((4 : Nat) : Int) = (4 : Int32) from rfl] at e1 e1'
  dsimp only
  rw [e1, e1', Option.bind_some, Option.bind_some]
  refine wr_ad b1 b1' f1 g1 ?_
  obtain ⟨N2, A2, k2, s2, i2, a2, e2, e2', r2, h2, b2, b2', f2, g2⟩ := pnum (nf := nf) (sj := sj) (sb := sb) hnf c2.toInt64 4 (by omega) (by omega) r1 h1
  rw [show ii ((4 : Nat) : Int) = (4 : Int32) from rfl] at e2 e2'
  dsimp only
  rw [e2, e2', Option.bind_some, Option.bind_some]
  refine wr_ad b2 b2' f2 g2 ?_
  obtain ⟨N3, A3, k3, s3, i3, a3, e3, e3', r3, h3, b3, b3', f3, g3⟩ := pnum (nf := nf) (sj := sj) (sb := sb) hnf c3.toInt64 4 (by omega) (by omega) r2 h2
  rw [show ii ((4 : Nat) : Int) = (4 : Int32) from rfl] at e3 e3'
  dsimp only
  rw [e3, e3', Option.bind_some, Option.bind_some]
  refine wr_ad b3 b3' f3 g3 ?_
  obtain ⟨N4, A4, k4, s4, i4, a4, e4, e4', r4, h4, b4, b4', f4, g4⟩ := pnum (nf := nf) (sj := sj) (sb := sb) hnf c4.toInt64 4 (by omega) (by omega) r3 h3
  rw [show ii ((4 : Nat) : Int) = (4 : Int32) from rfl] at e4 e4'
  dsimp only
  rw [e4, e4', Option.bind_some, Option.bind_some]
  refine wr_ad b4 b4' f4 g4 ?_
  obtain ⟨N5, A5, k5, s5, i5, a5, e5, e5', r5, h5, b5, b5', f5, g5⟩ := pnum (nf := nf) (sj := sj) (sb := sb) hnf c5.toInt64 4 (by omega) (by omega) r4 h4
  rw [show ii ((4 : Nat) : Int) = (4 : Int32) from rfl] at e5 e5'
  dsimp only
  rw [e5, e5', Option.bind_some, Option.bind_some]
  refine wr_ad b5 b5' f5 g5 ?_
  obtain ⟨N6, A6, k6, s6, i6, a6, e6, e6', r6, h6, b6, b6', f6, g6⟩ := pnum (nf := nf) (sj := sj) (sb := sb) hnf c6.toInt64 4 (by omega) (by omega) r5 h5
  rw [show ii ((4 : Nat) : Int) = (4 : Int32) from rfl] at e6 e6'
  dsimp only
  rw [e6, e6', Option.bind_some, Option.bind_some]
  refine wr_ad b6 b6' f6 g6 ?_
  dsimp only
  exact wr_fin r6 h6
theorem pempty (hnf : 10000 ≤ nf) {ver : Int32} (hn : n + 51 ≤ 6000) (h : RB s N A n (sa 58)) (h59 : si 59 = ii (n : Int)) : Wr n (n + 51) (f_FW_putEmptyFile nf ver s N A) ((f_Mo_putHeader nf ver 0 0 0 0 1 1 si sj sa sb).bind fun (i_42, j_43, a_44, b_45) => f_Mo_putNumber nf 0 7 i_42 j_43 a_44 b_45) N si sj sa sb := by
  obtain ⟨N0, A0, k0, s0, i0, a0, e0, e0', r0, h0, b0, b0', f0, g0⟩ := hstart (nf := nf) (sj := sj) (sb := sb) (x2 := 0) (x3 := 0) (x4 := 0) (x5 := 0) (x6 := 1) (x7 := 1) (ver := ver) hnf (by omega) h h59
  unfold f_FW_putEmptyFile f_FW_putEmptyFile_0
  rw [e0, e0', Option.bind_some]
  refine wr_ad b0 b0' f0 g0 ?_
  obtain ⟨N1, A1, k1, s1, i1, i2, i3, i4, a1, a2, a3, a4, e1, m1, m2, m3, m4, r1, h1, b1, b1', f1, g1⟩ := zer16 (nf := nf) (sj := sj) (sb := sb) hnf (by omega) r0 h0
  obtain ⟨N2, A2, k2, s2, i5, a5, e2, m5, r2, h2, b2, b2', f2, g2⟩ := pnum (nf := nf) (sj := sj) (sb := sb) hnf 1 4 (by omega) (by omega) r1 h1
  obtain ⟨N3, A3, k3, s3, i6, a6, e3, m6, r3, h3, b3, b3', f3, g3⟩ := pnum (nf := nf) (sj := sj) (sb := sb) hnf 1 4 (by omega) (by omega) r2 h2
  obtain ⟨N4, A4, k4, s4, i7, a7, e4, m7, r4, h4, b4, b4', f4, g4⟩ := zer7 (nf := nf) (sj := sj) (sb := sb) hnf (by omega) r3 h3
  rw [show ii ((4 : Nat) : Int) = (4 : Int32) from rfl] at e2 e3 m5 m6
  have eH : HT nf 0 0 0 0 1 1 i0 sj a0 sb = some (i6, sj, a6, sb) := by
    unfold HT
    rw [show (0 : Int32).toInt64 = 0 from rfl, show (1 : Int32).toInt64 = 1 from rfl, m1, Option.bind_some]
    dsimp only
    rw [m2, Option.bind_some]
    dsimp only
    rw [m3, Option.bind_some]
    dsimp only
    rw [m4, Option.bind_some]
    dsimp only
    rw [m5, Option.bind_some]
    dsimp only
    rw [m6, Option.bind_some]
  dsimp only
  rw [eH, Option.bind_some, e1, Option.bind_some]
  refine wr_ad b1 b1' f1 g1 ?_
  dsimp only
  rw [e2, Option.bind_some]
  refine wr_ad b2 b2' f2 g2 ?_
  dsimp only
  rw [e3, Option.bind_some]
  refine wr_ad b3 b3' f3 g3 ?_
  dsimp only
  rw [e4, Option.bind_some, m7]
  refine wr_ad b4 b4' f4 g4 ?_
  exact wr_fin r4 h4
end

section
variable {nf i : Nat} {sj : Nat → Int64} {sb : Nat → Nat → Int64} {Z0 : Nat → Nat → Int32}
/-- a place in rows of w for zone i -/
theorem wpl {w k m : Nat} (hi : i < 5) (hw : w ≤ 200) (hk : k ≤ w) (hm : 5 * w = m) : ∀ W : Int32, W = ii (w : Int) → W * ii (i : Int) + ii (k : Int) = ii ((w * i + k : Nat) : Int) ∧ w * i + k ≤ m := by
  intro W hW
  have hwi : w * i ≤ w * 4 := Nat.mul_le_mul_left w (by omega)
  rw [hW, ii_mul, ii_add]
  exact ⟨by congr 1, by omega⟩
theorem wpz {w : Nat} : ∀ W : Int32, W = ii (w : Int) → W * ii (i : Int) = ii ((w * i + 0 : Nat) : Int) := by
  intro W hW
  rw [hW, ii_mul]
  congr 1
end
