/-! ===== the class reads a rule text: the whole ===== -/
section
variable {nf : Nat} {s : Int32} {N : Nat} {A T : Nat → Int32} {E : Nat}
set_option maxHeartbeats 1000000 in
theorem rtext_c (h : PT s N A T E) (hE : E ≤ 9000) (hnf : 10000 ≤ nf) (wide : Bool) {st : Nat} (hst : st < E) {np ns am aw v3 v4 v5 v6 v7 v8 v9 v10 v11 txS : Int32} {txN tn : Nat} {txA tT : Nat → Int32} (ht : RB txS txN txA tn tT) {b0 b1 b2 b3 b4 b5 c0 c1 c2 c3 c4 c5 : Int32} : match rtext (LL T E) wide st E with
    | .error x => ∃ a1 a2 a3 a4 r1 r2 r3 r4 r5 r6 r7 r8 r9 e1 e2 e3 e4 e5 e6 g1 g2 g3 g4 g5 g6 : Int32, f_RP_readText nf (ii (st : Int)) (ii (st : Int)) (ii (E : Int)) (bI wide) np ns am aw s N A v3 v4 v5 v6 v7 v8 v9 v10 v11 txS txN txA b0 b1 b2 b3 b4 b5 c0 c1 c2 c3 c4 c5 = some ((0, ii (x : Int), a1, a2, a3, a4, r1, r2, r3, r4, r5, r6, r7, r8, r9, 0, txN, txA, e1, e2, e3, e4, e5, e6, g1, g2, g3, g4, g5, g6), 0, 0)
    | .ok (sp, ss, so, x) => ∃ (po a1 a2 a3 a4 has wd uo up us : Int32) (N' : Nat) (A' : Nat → Int32) (e1 e2 e3 e4 e5 e6 g1 g2 g3 g4 g5 g6 : Int32) (kc ks : Nat), f_RP_readText nf (ii (st : Int)) (ii (st : Int)) (ii (E : Int)) (bI wide) np ns am aw s N A v3 v4 v5 v6 v7 v8 v9 v10 v11 txS txN txA b0 b1 b2 b3 b4 b5 c0 c1 c2 c3 c4 c5 = some ((1, po, a1, a2, a3, a4, has, wd, ii so, uo, ii ((sp : Int) - (st : Int)), ii (ss : Int), up, us, 0, ii ((E - st : Nat) : Int), N', A', e1, e2, e3, e4, e5, e6, g1, g2, g3, g4, g5, g6), kc, ks) ∧
        RB (ii ((E - st : Nat) : Int)) N' A' (E - st) (fun k => T (st + k)) ∧ kc + txN ≤ N' ∧ ks + 2 * txN ≤ 2 * N' ∧
        match x with
        | none => has = 0 ∧ wd = 0
        | some (up', us', uo', d1, t1, d2, t2, w) => has = 1 ∧ wd = bI w ∧ uo = ii uo' ∧ up = ii ((up' : Int) - (st : Int)) ∧ us = ii (us' : Int) ∧ REc e1 e2 e3 e4 e5 e6 (bET so d1 t1) ∧ REc g1 g2 g3 g4 g5 g6 (bET uo' d2 t2) := by
  have h9 : E ≤ 9000 := hE
  obtain ⟨n, hT, hn1, hn2⟩ := id h
  have pa : ∃ (N' : Nat) (A' : Nat → Int32) (kc ks : Nat), f_By_putAll nf (ii (st : Int)) (ii (E : Int)) 0 txN txA s N A = some ((ii ((E - st : Nat) : Int), N', A'), kc, ks) ∧ RB (ii ((E - st : Nat) : Int)) N' A' (E - st) (fun k => T (st + k)) ∧ kc + txN ≤ N' ∧ ks + 2 * txN ≤ 2 * N' := by
    obtain ⟨N', A', kc, ks, e, r, q1, q2⟩ := RB.putAll (nf := nf) (s := 0) (N := 0) (n := 0) (A := A) (T := T) hT (E - st) st (fu := nf) (ht.clear T) (by omega) (by omega) (by omega)
    rw [show st + (E - st) = E by omega, show 0 + (E - st) = E - st by omega] at e
    rw [show 0 + (E - st) = E - st by omega] at r
    refine ⟨N', A', kc, ks, e, r.T_congr (fun k hk => ?_), q1, q2⟩
    rw [if_neg (by omega), Nat.sub_zero]
  generalize hF : f_RP_readText nf (ii (st : Int)) (ii (st : Int)) (ii (E : Int)) (bI wide) np ns am aw s N A v3 v4 v5 v6 v7 v8 v9 v10 v11 txS txN txA b0 b1 b2 b3 b4 b5 c0 c1 c2 c3 c4 c5 = F
  unfold f_RP_readText f_RP_readText_0 at hF
  unfold rtext
  rw [show f_Rule_clear nf v3 v4 v5 v6 v7 v8 v9 v10 v11 txS = some (0, 0, 0, 0, 0, 0, 0, 0, 0, 0) from rfl, Option.bind_some] at hF
  dsimp only at hF
  rw [if_pos ((ii_lt (by omega) (by omega) (by omega) (by omega)).mpr (by omega))] at hF
  have h1 := rstd_c (nf := nf) h hE (by omega) (p := st) (st := st) (by omega) (np := np) (ns := ns) (am := am) (aw := aw) (so := 0) (sp := 0) (ss := 0)
  cases e1 : rname (LL T E) st with
  | error x =>
    rw [e1] at h1
    obtain ⟨a1, a2, a3, a4, a5, a6, a7, e⟩ := h1
    rw [e, Option.bind_some] at hF
    dsimp only at hF ⊢
    rw [if_pos rfl] at hF
    exact ⟨_, _, _, _, _, _, _, _, _, _, _, _, _, _, _, _, _, _, _, _, _, _, _, _, _, hF.symm⟩
  | ok q1 =>
    obtain ⟨sp, ss, p1⟩ := q1
    have k1 := rname_ok e1
    rw [e1] at h1
    dsimp only at h1 ⊢
    cases e2 : ramt (LL T E) true 24 p1 with
    | error x =>
      rw [e2] at h1
      obtain ⟨a1, a2, a3, a4, a5, a6, a7, e⟩ := h1
      rw [e, Option.bind_some] at hF
      dsimp only at hF ⊢
      rw [if_pos rfl] at hF
      exact ⟨_, _, _, _, _, _, _, _, _, _, _, _, _, _, _, _, _, _, _, _, _, _, _, _, _, hF.symm⟩
    | ok q2 =>
      obtain ⟨v, wf, p2⟩ := q2
      have k2 := ramt_ok e2
      have k2' := ramt_le e2
      rw [e2] at h1
      obtain ⟨a1, a2, a3, a4, e⟩ := h1
      rw [e, Option.bind_some] at hF
      dsimp only at hF ⊢
      rw [if_neg (by decide)] at hF
      unfold f_RP_readText_130 f_RP_readText_86 at hF
      obtain ⟨N', A', kc, ks, pe, pr, pc, pk⟩ := pa
      by_cases cE : E ≤ p2
      · rw [if_pos cE]
        rw [if_pos ((ii_le (by omega) (by omega) (by omega) (by omega)).mpr (by omega)), pe, Option.bind_some] at hF
        dsimp only at hF ⊢
        refine ⟨_, _, _, _, _, _, _, _, _, _, N', A', _, _, _, _, _, _, _, _, _, _, _, _, _, _, hF.symm, pr, by show 0 + kc + txN ≤ N'; omega, by show 0 + ks + 2 * txN ≤ 2 * N'; omega, rfl, rfl⟩
      · rw [if_neg cE]
        rw [if_neg (by rw [ii_le (by omega) (by omega) (by omega) (by omega)]; omega)] at hF
        have h3 := rsum_c (nf := nf) h hE (by omega) (p := p2) (st := st) (by omega) (np := a1) (ns := a2) (am := a3) (aw := a4) (uo := 0) (up := 0) (us := 0) (so := -v)
        cases e3 : rname (LL T E) p2 with
        | error x =>
          rw [e3] at h3
          obtain ⟨z1, z2, z3, z4, z5, z6, z7, e⟩ := h3
          rw [e, Option.bind_some] at hF
          dsimp only at hF ⊢
          rw [if_pos rfl] at hF
          exact ⟨_, _, _, _, _, _, _, _, _, _, _, _, _, _, _, _, _, _, _, _, _, _, _, _, _, hF.symm⟩
        | ok q3 =>
          obtain ⟨up, us, p3⟩ := q3
          have k3 := rname_ok e3
          rw [e3] at h3
          dsimp only at h3 ⊢
          cases e4 : rsoff (LL T E) (-v) p3 with
          | error x =>
            rw [e4] at h3
            obtain ⟨z1, z2, z3, z4, z5, z6, z7, e⟩ := h3
            rw [e, Option.bind_some] at hF
            dsimp only at hF ⊢
            rw [if_pos rfl] at hF
            exact ⟨_, _, _, _, _, _, _, _, _, _, _, _, _, _, _, _, _, _, _, _, _, _, _, _, _, hF.symm⟩
          | ok q4 =>
            obtain ⟨uo, p4⟩ := q4
            have k4 : p4 ≤ E := by
              unfold rsoff at e4
              split at e4
              · cases e5 : ramt (LL T E) true 24 p3 with
                | error x => rw [e5] at e4; cases e4
                | ok q5 =>
                  obtain ⟨v5, w5, p5⟩ := q5
                  rw [e5] at e4
                  cases e4
                  exact ramt_le e5
              · cases e4
                exact k3.2.2.2.2.1
            rw [e4] at h3
            dsimp only at h3 ⊢
            rcases h3 with ⟨z1, z2, z3, z4, e⟩ | ⟨hq, hc, z1, z2, z3, z4, z5, z6, z7, e⟩
            · rw [e, Option.bind_some] at hF
              dsimp only at hF
              rw [if_neg (by decide)] at hF
              have h5 := redge_c (nf := nf) h hE (by omega) wide false (p := p4) (by omega) (am := z3) (aw := z4) (k := b0) (m := b1) (w := b2) (d := b3) (t := b4)
              rw [show bI false = 0 from rfl] at h5
              cases e5 : redge (LL T E) wide p4 with
              | error x =>
                rw [e5] at h5
                obtain ⟨y1, y2, y3, y4, y5, y6, y7, y8, e⟩ := h5
                rw [e, Option.bind_some] at hF
                dsimp only at hF ⊢
                rw [if_pos rfl] at hF
                exact ⟨_, _, _, _, _, _, _, _, _, _, _, _, _, _, _, _, _, _, _, _, _, _, _, _, _, hF.symm⟩
              | ok q5 =>
                obtain ⟨⟨k5, a5, b5', c5'⟩, t1, w1, p5⟩ := q5
                have k5' := redge_ok e5
                rw [e5] at h5
                obtain ⟨y1, y2, m5, w5, d5, e, r5, r5'⟩ := h5
                rw [e, Option.bind_some] at hF
                dsimp only at hF ⊢
                rw [if_neg (by decide)] at hF
                have h6 := redge_c (nf := nf) h hE (by omega) wide (false || w1) (p := p5) (by omega) (am := y1) (aw := y2) (k := c0) (m := c1) (w := c2) (d := c3) (t := c4)
                cases e6 : redge (LL T E) wide p5 with
                | error x =>
                  rw [e6] at h6
                  obtain ⟨u1, u2, u3, u4, u5, u6, u7, u8, e⟩ := h6
                  rw [e, Option.bind_some] at hF
                  dsimp only at hF ⊢
                  rw [if_pos rfl] at hF
                  exact ⟨_, _, _, _, _, _, _, _, _, _, _, _, _, _, _, _, _, _, _, _, _, _, _, _, _, hF.symm⟩
                | ok q6 =>
                  obtain ⟨⟨k6, a6, b6, c6⟩, t2, w2, p6⟩ := q6
                  have k6' := redge_ok e6
                  rw [e6] at h6
                  obtain ⟨u1, u2, m6, w6, d6, e, r6, r6'⟩ := h6
                  rw [e, Option.bind_some] at hF
                  dsimp only at hF ⊢
                  rw [if_neg (by decide)] at hF
                  by_cases cE2 : E ≤ p6
                  · rw [if_pos cE2]
                    rw [if_pos ((ii_le (by omega) (by omega) (by omega) (by omega)).mpr (by omega)), pe, Option.bind_some] at hF
                    dsimp only at hF ⊢
                    refine ⟨_, _, _, _, _, _, _, _, _, _, N', A', _, _, _, _, _, _, _, _, _, _, _, _, _, _, hF.symm, pr, by show 0 + kc + txN ≤ N'; omega, by show 0 + ks + 2 * txN ≤ 2 * N'; omega, rfl, ?_, rfl, rfl, rfl, ⟨rfl, rfl, rfl, r5, r5'⟩, ⟨rfl, rfl, rfl, r6, r6'⟩⟩
                    rw [Bool.false_or]
                  · rw [if_neg cE2]
                    rw [if_neg (by rw [ii_le (by omega) (by omega) (by omega) (by omega)]; omega)] at hF
                    exact ⟨_, _, _, _, _, _, _, _, _, _, _, _, _, _, _, _, _, _, _, _, _, _, _, _, _, hF.symm⟩
            · rw [e, Option.bind_some] at hF
              dsimp only at hF
              rw [if_pos rfl] at hF
              have er : redge (LL T E) wide p4 = .error p4 := by
                unfold redge
                rw [if_neg (by rw [hq]; exact hc)]
              rw [er, hq]
              exact ⟨_, _, _, _, _, _, _, _, _, _, _, _, _, _, _, _, _, _, _, _, _, _, _, _, _, hF.symm⟩
end
