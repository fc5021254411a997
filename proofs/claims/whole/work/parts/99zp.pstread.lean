/-! ===== read ===== -/
set_option maxHeartbeats 2000000 in
theorem st_read1 {nf : Nat} (hnf : 10000 ≤ nf) (S : CS) {si : Nat → Int32} {sj : Nat → Int64} {sa : Nat → Nat → Int32} {sb : Nat → Nat → Int64} (h : RR S (si, sj, sa, sb)) {i : Nat} (hi : i < 4) : STWi nf RR S (cq_read nf S (ii (i : Int))) (f_Mo_read_15 nf (ii (i : Int)) 0 si sj sa sb) := by
  obtain ⟨a1, a2, a3, a4, a5, a6, a7⟩ := zgood hi nf
  obtain ⟨n, n1, n2, n3⟩ := id h.1
  obtain ⟨⟨nc, Tc0, hch⟩, ⟨nt, Tt0, htx⟩⟩ := id h.2.2.2.2.2.2
  dsimp only at n2 n3
  have n0 := n2.1
  have hcl : ∀ x : Int32, f_By_clear nf x = some 0 := fun _ => rfl
  have g1 : va_up (va_up si 3 0) 36 0 1 = ii (n : Int) := n3
  have keep : f_ZF_keepSpareZone nf (ii (i : Int)) = some 0 := by
    unfold f_ZF_keepSpareZone f_ZF_keepSpareZone_0
    rw [a5, if_neg a6, if_neg a6]
  have bl := blks (nf := nf) (sj := sj) (sb := sb) (sa := sa) (si := va_up (va_up si 3 0) 36 0) (zv := (S.2 4).1) (e1 := (S.2 4).2.1) (e2 := (S.2 4).2.2.1) (e3 := (S.2 4).2.2.2.1) (e4 := (S.2 4).2.2.2.2.1) (e5 := (S.2 4).2.2.2.2.2.1) (TI := (S.2 4).2.2.2.2.2.2.1) (TT := (S.2 4).2.2.2.2.2.2.2.1) (OF := (S.2 4).2.2.2.2.2.2.2.2.1) (DS := (S.2 4).2.2.2.2.2.2.2.2.2.1) (IX := (S.2 4).2.2.2.2.2.2.2.2.2.2.1) (SD := (S.2 4).2.2.2.2.2.2.2.2.2.2.2.1) (UT := (S.2 4).2.2.2.2.2.2.2.2.2.2.2.2.1) (LT := (S.2 4).2.2.2.2.2.2.2.2.2.2.2.2.2.2.2.2.1) (LO := (S.2 4).2.2.2.2.2.2.2.2.2.2.2.2.2.2.2.2.2.1) (spx := (S.2 4).2.2.2.2.2.2.2.2.2.2.2.2.2.2.2.2.2.2.2.2.2.2.1) (ssx := (S.2 4).2.2.2.2.2.2.2.2.2.2.2.2.2.2.2.2.2.2.2.2.2.2.2.1) (upx := (S.2 4).2.2.2.2.2.2.2.2.2.2.2.2.2.2.2.2.2.2.2.2.2.2.2.2.1) (usx := (S.2 4).2.2.2.2.2.2.2.2.2.2.2.2.2.2.2.2.2.2.2.2.2.2.2.2.2.1) (txS := (S.2 4).2.2.2.2.2.2.2.2.2.2.2.2.2.2.2.2.2.2.2.2.2.2.2.2.2.2.2.1) (txN := (S.2 4).2.2.2.2.2.2.2.2.2.2.2.2.2.2.2.2.2.2.2.2.2.2.2.2.2.2.2.2.1) (txA := (S.2 4).2.2.2.2.2.2.2.2.2.2.2.2.2.2.2.2.2.2.2.2.2.2.2.2.2.2.2.2.2.1) (W := fun _ => 0) hnf n2 n1 g1 hch
  rw [mr15]
  generalize f_Mo_file nf (va_up (va_up si 3 0) 36 0) sj sa sb = RF at bl ⊢
  generalize hC : cq_read nf S (ii (i : Int)) = C
  unfold cq_read f_ZF_readOk f_ZF_readOk_0 f_ZF_readNo f_ZF_readNo_0 at hC
  rw [a5, if_pos hi, a1, Option.bind_some, Option.bind_some, show f_FP_init nf = some ((fun _ => 0), 1, 6) from rfl, Option.bind_some, Option.bind_some] at hC
  dsimp only at hC
  rcases bl with ⟨q, ver, vs, TI, TT, OF, DS, IX, SD, UT, NN', AA', LT, LO, W', kc, ks, s1, t1, u1, x1, y2, y3, y4, y5, y6, y7, y8, x9, x10, y9, y10⟩ | ⟨f, pp, po, ver, e1, e2, e3, e4, e5, TI, TT, OF, DS, IX, SD, UT, cs', NN', AA', LT, LO, W', kc, ks, s1, t1, u1, c', T', x1, x2, x3, x4, x5, x6⟩
  · rw [x1, Option.bind_some, Option.bind_some] at hC
    dsimp only at hC
    rw [if_neg (show ¬ (1 : Int32) = 0 by decide), if_neg (show ¬ (1 : Int32) = 0 by decide)] at hC
    have ft := rdFoot (nf := nf) (sj := sj) hnf n2 n1 g1 y2 y3 y4 y5 y6 y7 y8 y9 y10 (r0 := (S.2 4).2.2.2.2.2.2.2.2.2.2.2.2.2.2.2.2.2.2.1) (r1 := (S.2 4).2.2.2.2.2.2.2.2.2.2.2.2.2.2.2.2.2.2.2.1) (r2 := (S.2 4).2.2.2.2.2.2.2.2.2.2.2.2.2.2.2.2.2.2.2.2.1) (r3 := (S.2 4).2.2.2.2.2.2.2.2.2.2.2.2.2.2.2.2.2.2.2.2.2.1) (r4 := (S.2 4).2.2.2.2.2.2.2.2.2.2.2.2.2.2.2.2.2.2.2.2.2.2.1) (r5 := (S.2 4).2.2.2.2.2.2.2.2.2.2.2.2.2.2.2.2.2.2.2.2.2.2.2.1) (r6 := (S.2 4).2.2.2.2.2.2.2.2.2.2.2.2.2.2.2.2.2.2.2.2.2.2.2.2.1) (r7 := (S.2 4).2.2.2.2.2.2.2.2.2.2.2.2.2.2.2.2.2.2.2.2.2.2.2.2.2.1) (r8 := (S.2 4).2.2.2.2.2.2.2.2.2.2.2.2.2.2.2.2.2.2.2.2.2.2.2.2.2.2.1) (b0 := (S.2 4).2.2.2.2.2.2.2.2.2.2.2.2.2.2.2.2.2.2.2.2.2.2.2.2.2.2.2.2.2.2.1) (b1 := (S.2 4).2.2.2.2.2.2.2.2.2.2.2.2.2.2.2.2.2.2.2.2.2.2.2.2.2.2.2.2.2.2.2.1) (b2 := (S.2 4).2.2.2.2.2.2.2.2.2.2.2.2.2.2.2.2.2.2.2.2.2.2.2.2.2.2.2.2.2.2.2.2.1) (b3 := (S.2 4).2.2.2.2.2.2.2.2.2.2.2.2.2.2.2.2.2.2.2.2.2.2.2.2.2.2.2.2.2.2.2.2.2.1) (b4 := (S.2 4).2.2.2.2.2.2.2.2.2.2.2.2.2.2.2.2.2.2.2.2.2.2.2.2.2.2.2.2.2.2.2.2.2.2.1) (b5 := (S.2 4).2.2.2.2.2.2.2.2.2.2.2.2.2.2.2.2.2.2.2.2.2.2.2.2.2.2.2.2.2.2.2.2.2.2.2.1) (c0 := (S.2 4).2.2.2.2.2.2.2.2.2.2.2.2.2.2.2.2.2.2.2.2.2.2.2.2.2.2.2.2.2.2.2.2.2.2.2.2.1) (c1 := (S.2 4).2.2.2.2.2.2.2.2.2.2.2.2.2.2.2.2.2.2.2.2.2.2.2.2.2.2.2.2.2.2.2.2.2.2.2.2.2.1) (c2 := (S.2 4).2.2.2.2.2.2.2.2.2.2.2.2.2.2.2.2.2.2.2.2.2.2.2.2.2.2.2.2.2.2.2.2.2.2.2.2.2.2.1) (c3 := (S.2 4).2.2.2.2.2.2.2.2.2.2.2.2.2.2.2.2.2.2.2.2.2.2.2.2.2.2.2.2.2.2.2.2.2.2.2.2.2.2.2.1) (c4 := (S.2 4).2.2.2.2.2.2.2.2.2.2.2.2.2.2.2.2.2.2.2.2.2.2.2.2.2.2.2.2.2.2.2.2.2.2.2.2.2.2.2.2.1) (c5 := (S.2 4).2.2.2.2.2.2.2.2.2.2.2.2.2.2.2.2.2.2.2.2.2.2.2.2.2.2.2.2.2.2.2.2.2.2.2.2.2.2.2.2.2) htx
    rcases ft with ⟨f, pp, po, ft, k0, k1, k2, k3, k4, k5, k6, k7, k8, txS', N', A', d0, d1, d2, d3, d4, d5, gg0, gg1, gg2, gg3, gg4, gg5, kc2, ks2, s2, t2, c', T', z1, z2, z3, z4, z5, z6⟩ | ⟨q', ft, has, wd, so, uo, sp, ss, up, us, txS', N', A', d0, d1, d2, d3, d4, d5, gg0, gg1, gg2, gg3, gg4, gg5, kc2, ks2, s2, t2, z1, z2, z3, z4, z5, z6, z7, z8, z9, z10⟩
    · rw [z1, Option.bind_some, Option.bind_some] at hC
      dsimp only at hC
      rw [if_pos rfl, if_pos rfl] at hC
      rw [z2]
      refine rdBad (x1 := ii (i : Int)) h n2 (hC.symm.trans rfl) z3.1 z3.2.1 z3.i ⟨⟨_, _, y8.2.1⟩, c', T', z4⟩ ?_ ?_
      · unfold pz
        dsimp only
        omega
      · unfold pz
        dsimp only
        omega
    · rw [z1, Option.bind_some, Option.bind_some] at hC
      dsimp only at hC
      rw [if_neg (show ¬ (1 : Int32) = 0 by decide), if_neg (show ¬ (1 : Int32) = 0 by decide)] at hC
      rw [z2]
      have tl := rdTail (nf := nf) (x1 := ii (i : Int)) (sj := sj) (s := S.1.1) hnf n1 z3 n0 ((z6.1 1 (by omega)).trans g1) z4 z5 z7 z8
      dsimp only at tl
      have w36 : s2 36 = 0 := (z6.1 36 (by omega)).trans rfl
      have w2 : s2 2 = si 2 := (z6.1 2 (by omega)).trans rfl
      have zI : RdI si s2 sj sj sa t2 sb u1 := z6.i
      rcases tl with ⟨f, pp, s3, j3, t3, v1, v2, v3, v4, v5⟩ | ⟨s3, j3, t3, v1, v2, v3, v4, v5, v6⟩
      · rw [v1, Option.bind_some, Option.bind_some] at hC
        dsimp only at hC
        rw [if_pos rfl, if_pos rfl] at hC
        rw [v2]
        refine rdBad (x1 := ii (i : Int)) h n2 (hC.symm.trans rfl) v3 v4 (v5 zI) ⟨⟨_, _, y8.2.1⟩, ?_⟩ ?_ ?_
        · obtain ⟨nn, t, c, l, d, u, r, tm, tt, of, ds, ix, sz, _, _, hh, _⟩ := z7
          exact ⟨r, _, hh⟩
        · unfold pz
          dsimp only
          omega
        · unfold pz
          dsimp only
          omega
      · rw [v1, Option.bind_some, Option.bind_some] at hC
        dsimp only at hC
        rw [if_neg (show ¬ (1 : Int32) = 0 by decide), if_neg (show ¬ (1 : Int32) = 0 by decide)] at hC
        unfold f_ZF_readOk_46 at hC
        rw [hcl, Option.bind_some, if_neg (show ¬ (1 : Int32) = 0 by decide), keep, Option.bind_some] at hC
        rw [v2]
        refine rdGood hnf h hi n2 (z' := (ver, ii (vs 3 : Int), ii (vs 4 : Int), ii (vs 2 : Int), ii (vs 1 : Int), ii (vs 0 : Int), TI, TT, OF, DS, IX, SD, UT, ii (vs 5 : Int), NN', AA', LT, LO, has, wd, so, uo, sp, ss, up, us, 0, txS', N', A', d0, d1, d2, d3, d4, d5, gg0, gg1, gg2, gg3, gg4, gg5)) (hC.symm.trans rfl) (v3.trans w36) (v4.trans w2) (v5 zI) v6 ?_ ?_
        · unfold pz
          dsimp only
          omega
        · unfold pz
          dsimp only
          omega
  · rw [x1, Option.bind_some, Option.bind_some] at hC
    dsimp only at hC
    rw [if_pos rfl, if_pos rfl] at hC
    rw [x2]
    refine rdBad (x1 := ii (i : Int)) h n2 (hC.symm.trans rfl) x3.1 x3.2.1 x3.i ⟨⟨c', T', x4⟩, nt, Tt0, htx⟩ ?_ ?_
    · unfold pz
      dsimp only
      omega
    · unfold pz
      dsimp only
      omega
theorem st_read {nf : Nat} (hnf : 10000 ≤ nf) (S : CS) (M : MS) (p0 : Int32) (h : RR S M) : STWi nf RR S (cq_read nf S p0) (f_Mo_read nf p0 M.1 M.2.1 M.2.2.1 M.2.2.2) := by
  obtain ⟨si, sj, sa, sb⟩ := M
  dsimp only
  have e15 : f_Mo_read_15 nf p0 1 si sj sa sb = some (0, va_up si 3 1, sj, sa, sb) := by
    unfold f_Mo_read_15
    rw [if_neg (by decide)]
  rcases rzcase p0 with ⟨i, hi, rfl⟩ | ⟨hz, hz2⟩
  · obtain ⟨g1, g2⟩ := rzgood hi
    unfold f_Mo_read f_Mo_read_0
    rw [if_neg g1, if_pos g2]
    exact st_read1 hnf S h hi
  · refine noI h 1 (by decide) ?_ ?_
    · unfold cq_read f_ZF_readOk f_ZF_readOk_0 f_ZF_readNo f_ZF_readNo_0 g_ZF_read g_ZF_read_0
      rw [(hz nf).1, (hz nf).2]
      by_cases w : p0.toNatClampNeg < 4
      · rw [if_pos w]
        rfl
      · rw [if_neg w]
        rfl
    · unfold f_Mo_read f_Mo_read_0 f_Mo_read_10
      rw [e15]
      rcases hz2 with q | ⟨q1, q2⟩
      · rw [if_pos q]
      · rw [if_neg q1, if_neg q2]
