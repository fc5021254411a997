/-! ===== read: the whole call ===== -/
theorem kFt_kAz {a j : Nat} (h : kFt a j) : kAz 4 a j := by
  unfold kFt kH at h
  unfold kAz
  omega
section
variable {nf n : Nat} {s : Int32} {N : Nat} {A : Nat → Int32} {sj : Nat → Int64} {sb sb' : Nat → Nat → Int64} {sa sa' : Nat → Nat → Int32} {si si' : Nat → Int32}
set_option maxHeartbeats 1000000 in
theorem rdFoot (hnf : 10000 ≤ nf) (hP : RB s N A n (sa 0)) (hn : n ≤ 6000) (h1 : si 1 = ii (n : Int)) {q : Nat} {ver : Int32} {vs : Nat → Nat} {TI LT : Nat → Int64} {TT OF DS IX SD UT AA' LO : Nat → Int32} {NN' : Nat} {rf : Option (Int32 × MS)} (y2 : ver = 0 ∨ ver = 50 ∨ ver = 51) (y3 : ∀ j, j < 6 → cntOK j (vs j) (vs 4)) (y4 : q ≤ n) (y5 : si' 32 = ii (q : Int)) (y6 : si' 38 = ver) (y7 : RdK si si' sa sa' sb sb') (y8 : BkZ sa' sb' vs TI TT OF DS IX SD UT NN' AA' LT LO)
    (y9 : ver = 0 → sa' 23 4 = 0 ∧ sa' 11 4 = 0 ∧ rf = f_Mo_file_149 nf 4 si' sj sa' sb')
    (y10 : ¬ ver = 0 → rf = (f_Mo_footer nf si' sj sa' sb').bind fun (z_36, i_32, j_33, a_34, b_35) => if z_36 = 0 then f_Mo_file_147 nf i_32 j_33 a_34 b_35 else f_Mo_file_149 nf 4 i_32 j_33 a_34 b_35)
    {r0 r1 r2 r3 r4 r5 r6 r7 r8 txS b0 b1 b2 b3 b4 b5 c0 c1 c2 c3 c4 c5 : Int32} {txN tn : Nat} {txA tT : Nat → Int32} (ht : RB txS txN txA tn tT) :
    (∃ (f pp po ft k0 k1 k2 k3 k4 k5 k6 k7 k8 txS' : Int32) (N' : Nat) (A' : Nat → Int32) (d0 d1 d2 d3 d4 d5 g0 g1 g2 g3 g4 g5 : Int32) (kc ks : Nat) (si2 : Nat → Int32) (sa2 : Nat → Nat → Int32) (c' : Nat) (T' : Nat → Int32), f_FP_readFooter nf 0 0 (ii (q : Int)) 0 s N A ver r0 r1 r2 r3 r4 r5 r6 r7 r8 txS txN txA b0 b1 b2 b3 b4 b5 c0 c1 c2 c3 c4 c5 = some ((0, f, pp, po, ft, k0, k1, k2, k3, k4, k5, k6, k7, k8, txS', N', A', d0, d1, d2, d3, d4, d5, g0, g1, g2, g3, g4, g5), kc, ks) ∧ rf = some (0, si2, sj, sa2, sb') ∧ RdF si si2 sa sa2 sb sb' f pp ∧ RB txS' N' A' c' T' ∧ kc + txN ≤ N' + 1 ∧ ks + 2 * txN ≤ 2 * N' + 10) ∨
    (∃ (q' : Nat) (ft has wd so uo sp ss up us txS' : Int32) (N' : Nat) (A' : Nat → Int32) (d0 d1 d2 d3 d4 d5 g0 g1 g2 g3 g4 g5 : Int32) (kc ks : Nat) (s2 : Nat → Int32) (a2 : Nat → Nat → Int32), f_FP_readFooter nf 0 0 (ii (q : Int)) 0 s N A ver r0 r1 r2 r3 r4 r5 r6 r7 r8 txS txN txA b0 b1 b2 b3 b4 b5 c0 c1 c2 c3 c4 c5 = some ((1, 0, 0, ii (q' : Int), ft, has, wd, so, uo, sp, ss, up, us, 0, txS', N', A', d0, d1, d2, d3, d4, d5, g0, g1, g2, g3, g4, g5), kc, ks) ∧ rf = f_Mo_file_149 nf 4 s2 sj a2 sb' ∧ q' ≤ n ∧ s2 32 = ii (q' : Int) ∧ s2 38 = ver ∧ RdK si s2 sa a2 sb sb' ∧ RZon (ver, ii (vs 3 : Int), ii (vs 4 : Int), ii (vs 2 : Int), ii (vs 1 : Int), ii (vs 0 : Int), TI, TT, OF, DS, IX, SD, UT, ii (vs 5 : Int), NN', AA', LT, LO, has, wd, so, uo, sp, ss, up, us, 0, txS', N', A', d0, d1, d2, d3, d4, d5, g0, g1, g2, g3, g4, g5) (va_up a2 4 (upd (a2 4) 4 ver)) sb' 4 ∧ (txS' = 0 ∨ s2 39 = ft) ∧ kc + txN ≤ N' + 1 ∧ ks + 2 * txN ≤ 2 * N' + 10) := by
  have hP' : RB s N A n (sa' 0) := hP.T_congr (fun j _ => (y7.2.1 0 j (by unfold kAz; omega)).symm)
  by_cases cv : ver = 0
  · subst cv
    obtain ⟨w1, w2, w3⟩ := y9 rfl
    refine Or.inr ⟨q, 0, 0, 0, 0, 0, 0, 0, 0, 0, 0, txN, txA, b0, b1, b2, b3, b4, b5, c0, c1, c2, c3, c4, c5, 0, 0, si', sa', rfl, w3, y4, y5, y6, y7, ?_, Or.inl rfl, by omega, by omega⟩
    refine rzon_read (r := 0) (vs := vs) (y8.congr y3 (fun a j hk => ?_)) y3 ?_ (Or.inl rfl) rfl rfl rfl rfl rfl rfl ?_ (by omega) (ht.clear _) (Or.inl ⟨rfl, ?_, rfl, rfl⟩)
    · rw [vu_ne (by unfold kBk at hk; omega)]
    · rw [vu_eq]
    · rw [vu_ne (by omega)]
      exact w2
    · rw [vu_ne (by omega)]
      exact w1
  · have f := ftr (nf := nf) (sj := sj) (sb := sb') hnf hP' hn ((y7.1 1 (by omega)).trans h1) y5 y4 cv y6 0 0 0 (r0 := r0) (r1 := r1) (r2 := r2) (r3 := r3) (r4 := r4) (r5 := r5) (r6 := r6) (r7 := r7) (r8 := r8) ht (b0 := b0) (b1 := b1) (b2 := b2) (b3 := b3) (b4 := b4) (b5 := b5) (c0 := c0) (c1 := c1) (c2 := c2) (c3 := c3) (c4 := c4) (c5 := c5)
    have er := y10 cv
    rcases f with ⟨q', st, rr, has, wd, so, uo, sp, ss, up, us, txS', N', A', d0, d1, d2, d3, d4, d5, g0, g1, g2, g3, g4, g5, kc, ks, s2, a2, x1, x2, x3, x4, x5, x6, x7, x8, x9, x10, x11, x12, x13⟩ | ⟨f, pp, po, ft, k0, k1, k2, k3, k4, k5, k6, k7, k8, txS', N', A', d0, d1, d2, d3, d4, d5, g0, g1, g2, g3, g4, g5, kc, ks, s2, a2, c', T', x1, x2, x3, x4, x5, x6, x7, x8, x9⟩
    · rw [x2, Option.bind_some] at er
      dsimp only at er
      rw [if_neg (show ¬ (1 : Int32) = 0 by decide)] at er
      have K2 : RdK si s2 sa a2 sb sb' := y7.tr ⟨fun k hk => x6 k (by omega) (by omega) (by omega) (by omega) (by omega), fun a j ha => x7 a j (fun z => ha (kFt_kAz z)), fun _ _ _ _ => rfl⟩
      refine Or.inr ⟨q', ii (st : Int), has, wd, so, uo, sp, ss, up, us, txS', N', A', d0, d1, d2, d3, d4, d5, g0, g1, g2, g3, g4, g5, kc, ks, s2, a2, x1, er, x3, x4, (x6 38 (by decide) (by decide) (by decide) (by decide) (by decide)).trans y6, K2, ?_, Or.inr x5, x11, x12⟩
      have hz : ZRul (ver, ii (vs 3 : Int), ii (vs 4 : Int), ii (vs 2 : Int), ii (vs 1 : Int), ii (vs 0 : Int), TI, TT, OF, DS, IX, SD, UT, ii (vs 5 : Int), NN', AA', LT, LO, has, wd, so, uo, sp, ss, up, us, 0, txS', N', A', d0, d1, d2, d3, d4, d5, g0, g1, g2, g3, g4, g5) a2 4 rr := x13 (ver, ii (vs 3 : Int), ii (vs 4 : Int), ii (vs 2 : Int), ii (vs 1 : Int), ii (vs 0 : Int), TI, TT, OF, DS, IX, SD, UT, ii (vs 5 : Int), NN', AA', LT, LO, has, wd, so, uo, sp, ss, up, us, 0, txS', N', A', d0, d1, d2, d3, d4, d5, g0, g1, g2, g3, g4, g5) rfl rfl rfl rfl rfl rfl rfl rfl rfl rfl rfl rfl rfl rfl rfl rfl rfl rfl rfl rfl rfl
      refine rzon_read (r := rr) (vs := vs) (y8.congr y3 (fun a j hk => ?_)) y3 ?_ y2 rfl rfl rfl rfl rfl rfl ?_ x9 (x10.T_congr (fun k hk => ?_)) ?_
      · rw [vu_ne (by unfold kBk at hk; omega), x7 a j (by unfold kBk at hk; unfold kFt kH; omega)]
      · rw [vu_eq]
      · rw [vu_ne (by omega)]
        exact x8
      · rw [vu_ne (by omega)]
      · exact hz
    · rw [x2, Option.bind_some] at er
      refine Or.inl ⟨f, pp, po, ft, k0, k1, k2, k3, k4, k5, k6, k7, k8, txS', N', A', d0, d1, d2, d3, d4, d5, g0, g1, g2, g3, g4, g5, kc, ks, s2, a2, c', T', x1, er, RdF.aft (si' := si') (sa' := sa') (sb' := sb') ⟨x3, x4, fun k hk k2 => x5 k (by omega) (by omega) (by omega) (by omega) (by omega) (by omega) k2, fun a j ha => x6 a j (fun z => ha (kFt_kAz z)), fun _ _ _ _ => rfl⟩ y7, x7, x8, x9⟩
end
