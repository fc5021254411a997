section
variable {nf i : Nat} {sj : Nat → Int64} {sb : Nat → Nat → Int64}
theorem pblock (hnf : 10000 ≤ nf) {z : ZS} {Z0 : Nat → Nat → Int32} (hi : i < 4) (h : RZon z Z0 sb i) (w : Nat) (hw : w = 4 ∨ w = 8) {n : Nat} (hn : n ≤ 200) {s : Int32} {N : Nat} {A : Nat → Int32} {si : Nat → Int32} {sa : Nat → Nat → Int32} (hb : RB s N A n (sa 58)) (h59 : si 59 = ii (n : Int)) (hsa : ∀ a, a ≠ 58 → sa a = Z0 a) : ∃ q, q ≤ 3500 ∧ Wr n q (f_FW_putBlock nf (ii (w : Int)) s N A z.2.1 z.2.2.1 z.2.2.2.1 z.2.2.2.2.1 z.2.2.2.2.2.1 z.2.2.2.2.2.2.1 z.2.2.2.2.2.2.2.1 z.2.2.2.2.2.2.2.2.1 z.2.2.2.2.2.2.2.2.2.1 z.2.2.2.2.2.2.2.2.2.2.1 z.2.2.2.2.2.2.2.2.2.2.2.1 z.2.2.2.2.2.2.2.2.2.2.2.2.1 z.2.2.2.2.2.2.2.2.2.2.2.2.2.1 z.2.2.2.2.2.2.2.2.2.2.2.2.2.2.1 z.2.2.2.2.2.2.2.2.2.2.2.2.2.2.2.1 z.2.2.2.2.2.2.2.2.2.2.2.2.2.2.2.2.1 z.2.2.2.2.2.2.2.2.2.2.2.2.2.2.2.2.2.1) (f_Mo_putBlock nf (ii (i : Int)) (ii (w : Int)) si sj sa sb) N si sj sa sb := by
  obtain ⟨nt, t, c, l, d, u, r, tm, tt, of, ds, ix, sz, ⟨c1, c2, ⟨c3, c4, c5⟩, ⟨c6, c7, c8, c9⟩, ⟨c10, c11, c12⟩, ⟨c13, c14, c15⟩, ⟨c16, c17, c18⟩, ⟨c19, c20, c21⟩, ⟨c22, c23⟩⟩, h1, h2, ⟨h3, h3'⟩, h4, ⟨h5, h5'⟩, h6, _⟩ := h
  have e := wTI (nf := nf) (sj := sj) (sb := sb) hnf (show i < 5 by omega) hw c5 c9 c12 c15 (by omega) (by omega) c4 c7 c10 c14 c17 c20 (fun k hk => (h3 k hk).2.2.2.1.trans (h3 k hk).2.2.2.2.1.symm) (fun k hk => ⟨(h4 k hk).1.trans (h4 k hk).2.1.symm, (h4 k hk).2.2.2.2.1.trans (h4 k hk).2.2.2.2.2.1.symm, (h4 k hk).2.2.2.2.2.2.2.1.trans (h4 k hk).2.2.2.2.2.2.2.2.1.symm⟩) h1 (fun k hk => h6 k hk) h5 h5' (fun k hk => (h3 k hk).1.trans (h3 k hk).2.1.symm) nt 0 nf nf n (n + nt * w + (nt + (t * 6 + (c + l * (w + 4) + (d + u))))) (by omega) (by omega) (by omega) rfl (by rcases hw with rfl | rfl <;> omega) hb h59 hsa
  refine ⟨n + nt * w + (nt + (t * 6 + (c + l * (w + 4) + (d + u)))), ?_, ?_⟩
  rotate_left
  · unfold f_FW_putBlock f_FW_putBlock_0 f_Mo_putBlock f_Mo_putBlock_0
    rw [c3, c6, c13, c16, c19, wpz (w := 200) 200 rfl]
    exact e
  · rcases hw with rfl | rfl <;> omega
theorem phead' (hnf : 10000 ≤ nf) {z : ZS} {Z0 : Nat → Nat → Int32} (hi : i < 4) (h : RZon z Z0 sb i) {ver : Int32} {n : Nat} (hn : n ≤ 200) {s : Int32} {N : Nat} {A : Nat → Int32} {si : Nat → Int32} {sa : Nat → Nat → Int32} (hb : RB s N A n (sa 58)) (h59 : si 59 = ii (n : Int)) (hsa : ∀ a, a ≠ 58 → sa a = Z0 a) : Wr n (n + 44) (f_FW_putHeader nf ver s N A z.2.1 z.2.2.1 z.2.2.2.1 z.2.2.2.2.1 z.2.2.2.2.2.1 z.2.2.2.2.2.2.2.2.2.2.2.2.2.1) (f_Mo_putHeader nf ver (sa 10 i) (sa 9 i) (sa 8 i) (sa 5 i) (sa 6 i) (sa 7 i) si sj sa sb) N si sj sa sb := by
  obtain ⟨nt, t, c, l, d, u, r, tm, tt, of, ds, ix, sz, ⟨c1, c2, ⟨c3, c4, c5⟩, ⟨c6, c7, c8, c9⟩, ⟨c10, c11, c12⟩, ⟨c13, c14, c15⟩, ⟨c16, c17, c18⟩, ⟨c19, c20, c21⟩, ⟨c22, c23⟩⟩, h1, _⟩ := h
  rw [hsa 10 (by decide), hsa 9 (by decide), hsa 8 (by decide), hsa 5 (by decide), hsa 6 (by decide), hsa 7 (by decide), c4, c7, c10, c14, c17, c20, c3, c6, c13, c16, c19, h1.1]
  exact phead hnf (by omega) hb h59
set_option maxHeartbeats 1000000 in
theorem wfile (hnf : 10000 ≤ nf) {z : ZS} {sa : Nat → Nat → Int32} (hi : i < 4) (h : RZon z sa sb i) {ver : Int32} (hv : ver = 0 ∨ ver = 50 ∨ ver = 51) {s : Int32} {N n0 : Nat} {A T0 : Nat → Int32} (hw : RB s N A n0 T0) (si : Nat → Int32) : ∃ (N' : Nat) (A' : Nat → Int32) (kc ks q : Nat) (si' : Nat → Int32) (sa' : Nat → Nat → Int32), f_FW_putFile nf ver s N A z.2.1 z.2.2.1 z.2.2.2.1 z.2.2.2.2.1 z.2.2.2.2.2.1 z.2.2.2.2.2.2.1 z.2.2.2.2.2.2.2.1 z.2.2.2.2.2.2.2.2.1 z.2.2.2.2.2.2.2.2.2.1 z.2.2.2.2.2.2.2.2.2.2.1 z.2.2.2.2.2.2.2.2.2.2.2.1 z.2.2.2.2.2.2.2.2.2.2.2.2.1 z.2.2.2.2.2.2.2.2.2.2.2.2.2.1 z.2.2.2.2.2.2.2.2.2.2.2.2.2.2.1 z.2.2.2.2.2.2.2.2.2.2.2.2.2.2.2.1 z.2.2.2.2.2.2.2.2.2.2.2.2.2.2.2.2.1 z.2.2.2.2.2.2.2.2.2.2.2.2.2.2.2.2.2.1 z.2.2.2.2.2.2.2.2.2.2.2.2.2.2.2.2.2.2.2.2.2.2.2.2.2.2.2.1 z.2.2.2.2.2.2.2.2.2.2.2.2.2.2.2.2.2.2.2.2.2.2.2.2.2.2.2.2.1 z.2.2.2.2.2.2.2.2.2.2.2.2.2.2.2.2.2.2.2.2.2.2.2.2.2.2.2.2.2.1 = some ((ii (q : Int), N', A'), kc, ks) ∧ f_Mo_write_64 nf (ii (i : Int)) ver 0 si sj sa sb = some (ii (q : Int), si', sj, sa', sb) ∧ RB (ii (q : Int)) N' A' q (sa' 56) ∧ si' 57 = ii (q : Int) ∧ q ≤ 6000 ∧ si' 3 = 0 ∧ kc + N ≤ N' ∧ ks + 2 * N ≤ 2 * N' ∧ (∀ k, k ≠ 3 → k ≠ 57 → k ≠ 59 → si' k = si k) ∧ ∀ a, a ≠ 56 → a ≠ 58 → sa' a = sa a := by
  obtain ⟨ei, ni⟩ := zidx (i := i) (by omega)
  have r0 := hw.clear (sa 58)
  generalize hC : f_FW_putFile nf ver s N A z.2.1 z.2.2.1 z.2.2.2.1 z.2.2.2.2.1 z.2.2.2.2.2.1 z.2.2.2.2.2.2.1 z.2.2.2.2.2.2.2.1 z.2.2.2.2.2.2.2.2.1 z.2.2.2.2.2.2.2.2.2.1 z.2.2.2.2.2.2.2.2.2.2.1 z.2.2.2.2.2.2.2.2.2.2.2.1 z.2.2.2.2.2.2.2.2.2.2.2.2.1 z.2.2.2.2.2.2.2.2.2.2.2.2.2.1 z.2.2.2.2.2.2.2.2.2.2.2.2.2.2.1 z.2.2.2.2.2.2.2.2.2.2.2.2.2.2.2.1 z.2.2.2.2.2.2.2.2.2.2.2.2.2.2.2.2.1 z.2.2.2.2.2.2.2.2.2.2.2.2.2.2.2.2.2.1 z.2.2.2.2.2.2.2.2.2.2.2.2.2.2.2.2.2.2.2.2.2.2.2.2.2.2.2.1 z.2.2.2.2.2.2.2.2.2.2.2.2.2.2.2.2.2.2.2.2.2.2.2.2.2.2.2.2.1 z.2.2.2.2.2.2.2.2.2.2.2.2.2.2.2.2.2.2.2.2.2.2.2.2.2.2.2.2.2.1 = C
  generalize hQ : f_Mo_write_64 nf (ii (i : Int)) ver 0 si sj sa sb = Q
  unfold f_FW_putFile f_FW_putFile_0 at hC
  rw [show f_By_clear nf s = some 0 from rfl, Option.bind_some] at hC
  unfold f_Mo_write_64 at hQ
  rw [if_pos (show (0 : Int32) ≤ 0 by decide)] at hQ
  by_cases v0 : ver = 0
  · subst v0
    rw [if_pos rfl] at hC
    rw [if_pos (show (0 : Int32) ≤ 0 by decide)] at hQ
    unfold f_Mo_write_103 at hQ
    rw [ei] at hQ
    simp only [if_neg ni] at hQ
    obtain ⟨N1, A1, k1, s1, i1, a1, e1, e1', r1, h1, b1, b1', f1, g1⟩ := phead' (nf := nf) (sj := sj) (ver := 0) hnf hi h (by omega) (s := 0) (si := va_up (va_up si 3 0) 59 0) r0 rfl (fun _ _ => rfl)
    rw [e1, Option.bind_some] at hC
    rw [e1', Option.bind_some] at hQ
    dsimp only at hC hQ
    obtain ⟨q, hq, N2, A2, k2, s2, i2, a2, e2, e2', r2, h2, b2, b2', f2, g2⟩ := pblock (nf := nf) (sj := sj) hnf hi h 4 (Or.inl rfl) (by omega) r1 h1 g1
    rw [show ii ((4 : Nat) : Int) = (4 : Int32) from rfl] at e2 e2'
    rw [e2, Option.bind_some] at hC
    unfold f_Mo_write_156 at hQ
    rw [if_pos (show (0 : Int32) ≤ 0 by decide), e2', Option.bind_some] at hQ
    dsimp only at hC hQ
    rw [if_pos (show (0 : Int32) ≤ 0 by decide)] at hQ
    obtain ⟨a3, m1, m2, m3⟩ := w215 (nf := nf) (sj := sj) (sb := sb) (sa := a2) hnf (show q ≤ 6000 by omega) h2
    rw [m1] at hQ
    refine ⟨N2, A2, 0 + k2 + k1, 0 + s2 + s1, q, _, a3, hC.symm.trans rfl, hQ.symm, r2.T_congr (fun k hk => (m2 k hk).symm), rfl, by omega, ?_, by omega, by omega, fun k x1 x2 x3 => ?_, fun a x1 x2 => ?_⟩
    · rw [vup_ne (by decide), f2 3 (by decide), f1 3 (by decide)]; rfl
    · rw [vup_ne x2, f2 k x3, f1 k x3, vup_ne x3, vup_ne x1]
    · rw [m3 a x1, g2 a x2, g1 a x2]
  · have vp : ¬ ver ≤ 0 := by
      rcases hv with rfl | rfl | rfl
      · exact absurd rfl v0
      · decide
      · decide
    rw [if_neg v0] at hC
    rw [if_neg vp] at hQ
    obtain ⟨N0, A0, k0, s0, i0, a0, e0, e0', r0', h0, b0, b0', f0, g0⟩ := pempty (nf := nf) (sj := sj) (sb := sb) (ver := ver) hnf (by omega) (s := 0) (si := va_up (va_up si 3 0) 59 0) r0 rfl
    have hQ' : (((f_Mo_putHeader nf ver 0 0 0 0 1 1 (va_up (va_up si 3 0) 59 0) sj sa sb).bind fun (i_42, j_43, a_44, b_45) => f_Mo_putNumber nf 0 7 i_42 j_43 a_44 b_45).bind fun (i_46, j_47, a_48, b_49) => f_Mo_write_103 nf (ii (i : Int)) ver i_46 j_47 a_48 b_49) = Q := by
      rw [← hQ]
      cases f_Mo_putHeader nf ver 0 0 0 0 1 1 (va_up (va_up si 3 0) 59 0) sj sa sb with
      | none => rfl
      | some x => rfl
    clear hQ
    rw [e0', Option.bind_some] at hQ'
    rw [e0, Option.bind_some] at hC
    dsimp only at hC hQ'
    unfold f_Mo_write_103 at hQ'
    rw [ei] at hQ'
    simp only [if_neg ni] at hQ'
    obtain ⟨N1, A1, k1, s1, i1, a1, e1, e1', r1, h1, b1, b1', f1, g1⟩ := phead' (nf := nf) (sj := sj) (ver := ver) hnf hi h (by omega) r0' h0 g0
    rw [e1, Option.bind_some] at hC
    rw [e1', Option.bind_some] at hQ'
    dsimp only at hC hQ'
    rw [if_neg vp] at hQ'
    have g1' : ∀ a, a ≠ 58 → a1 a = sa a := fun a ha => (g1 a ha).trans (g0 a ha)
    obtain ⟨q, hq, N2, A2, k2, s2, i2, a2, e2, e2', r2, h2, b2, b2', f2, g2⟩ := pblock (nf := nf) (sj := sj) hnf hi h 8 (Or.inr rfl) (by omega) r1 h1 g1'
    rw [show ii ((8 : Nat) : Int) = (8 : Int32) from rfl] at e2 e2'
    rw [e2, Option.bind_some] at hC
    unfold f_Mo_write_156 at hQ'
    rw [e2', Option.bind_some] at hQ'
    dsimp only at hC hQ'
    rw [if_neg vp] at hQ'
    obtain ⟨N3, A3, k3, s3, i3, a3, e3, e3', r3, h3, b3, b3', f3, g3⟩ := pone (nf := nf) (sj := sj) (sb := sb) hnf 10 (by omega) r2 h2
    rw [show (10 : Int32).toInt64 = 10 from rfl] at e3'
    rw [e3, Option.bind_some] at hC
    rw [e3', Option.bind_some] at hQ'
    dsimp only at hC hQ'
    have g3' : ∀ a, a ≠ 58 → a3 a = sa a := fun a ha => (g3 a ha).trans ((g2 a ha).trans (g1' a ha))
    obtain ⟨nt, t, c, l, d, u, r, tm, tt, of, ds, ix, sz, ⟨_, _, _, _, _, _, _, _, ⟨c22, c23⟩⟩, _, htx, _⟩ := h
    obtain ⟨N4, A4, k4, s4, p1, p2, p3, p4⟩ := RB.putAll (nf := nf) (s := 0) (N := 0) (n := 0) (A := A) (T := a3 58) htx r 0 (fu := nf) r3 (by omega) (by omega) (by omega)
    have pa : f_By_putAll nf 0 z.2.2.2.2.2.2.2.2.2.2.2.2.2.2.2.2.2.2.2.2.2.2.2.2.2.2.2.1 (ii ((q + 1 : Nat) : Int)) N3 A3 z.2.2.2.2.2.2.2.2.2.2.2.2.2.2.2.2.2.2.2.2.2.2.2.2.2.2.2.1 z.2.2.2.2.2.2.2.2.2.2.2.2.2.2.2.2.2.2.2.2.2.2.2.2.2.2.2.2.1 z.2.2.2.2.2.2.2.2.2.2.2.2.2.2.2.2.2.2.2.2.2.2.2.2.2.2.2.2.2.1 = some ((ii ((q + 1 + r : Nat) : Int), N4, A4), k4, s4) := by
      rw [← p1, Nat.zero_add, ← htx.1]
      rfl
    obtain ⟨i4, a4, m1, m2, m3, m4, m5, m6⟩ := mR (nf := nf) (sj := sj) (sb := sb) hnf (show i < 5 by omega) c23 c22 (fun k hk => htx.byte hk) r 0 nf (q + 1) (by omega) (by omega) (by omega) h3 g3'
    rw [show ii ((0 : Nat) : Int) = (0 : Int32) from rfl] at m1
    rw [pa, Option.bind_some] at hC
    rw [m1] at hQ'
    dsimp only at hC
    have r4 : RB (ii ((q + 1 + r : Nat) : Int)) N4 A4 (q + 1 + r) (a4 58) := p2.T_congr (fun k hk => by
      by_cases y : k < q + 1
      · rw [if_pos y, m3 k y]
      · rw [if_neg y, m4 k (by omega) hk])
    obtain ⟨N5, A5, k5, s5, i5, a5, e5, e5', r5, h5, b5, b5', f5, g5⟩ := pone (nf := nf) (sj := sj) (sb := sb) hnf 10 (by omega) r4 m2
    rw [show (10 : Int32).toInt64 = 10 from rfl] at e5'
    rw [e5, Option.bind_some] at hC
    rw [e5', Option.bind_some] at hQ'
    dsimp only at hC hQ'
    obtain ⟨a6, n1, n2, n3⟩ := w215 (nf := nf) (sj := sj) (sb := sb) (sa := a5) hnf (show q + 1 + r + 1 ≤ 6000 by omega) h5
    rw [n1] at hQ'
    refine ⟨N5, A5, 0 + k5 + k4 + k3 + k2 + k1 + k0, 0 + s5 + s4 + s3 + s2 + s1 + s0, q + 1 + r + 1, _, a6, hC.symm.trans rfl, hQ'.symm, r5.T_congr (fun k hk => (n2 k hk).symm), rfl, by omega, ?_, by omega, by omega, fun k x1 x2 x3 => ?_, fun a x1 x2 => ?_⟩
    · rw [vup_ne (by decide), f5 3 (by decide), m5 3 (by decide), f3 3 (by decide), f2 3 (by decide), f1 3 (by decide), f0 3 (by decide)]; rfl
    · rw [vup_ne x2, f5 k x3, m5 k x3, f3 k x3, f2 k x3, f1 k x3, f0 k x3, vup_ne x3, vup_ne x1]
    · rw [n3 a x1, g5 a x2, m6 a x2, g3' a x2]
end
/-- only what is written has changed -/
theorem RR.writ {S : CS} {si si' : Nat → Int32} {sj : Nat → Int64} {sa sa' : Nat → Nat → Int32} {sb sb' : Nat → Nat → Int64} (h : RR S (si, sj, sa, sb)) {n N : Nat} {s : Int32} {A : Nat → Int32} (hn : n ≤ 6000) (hb : RB s N A n (sa' 56)) (h1 : si' 57 = ii (n : Int)) (hi : ∀ k, kI k → k ≠ 57 → si' k = si k) (h0 : ∀ j, sa' 0 j = sa 0 j) (hz : ∀ i, i < 4 → ∀ a j, kAz i a j → sa' a j = sa a j) (hbb : ∀ b j, b = 54 ∨ b = 63 ∨ b = 64 → sb' b j = sb b j) (hzb : ∀ i, i < 4 → ∀ b j, kBz i b j → sb' b j = sb b j) : RR ((S.1.1, S.1.2.1, S.1.2.2.1, s, N, A, S.1.2.2.2.2.2.2), S.2) (si', sj, sa', sb') := by
  obtain ⟨⟨t, t1, t2, t3⟩, _, r3, ⟨q, q1, q2, q3, q4⟩, ⟨c, c1, c2, c3, c4⟩, r6, r7⟩ := h
  dsimp only at *
  refine ⟨⟨t, t1, t2.T_congr (fun k _ => (h0 k).symm), (hi 1 (by unfold kI; omega) (by decide)).trans t3⟩, ⟨n, hn, hb, h1⟩, r3.trans (hi 2 (by unfold kI; omega) (by decide)).symm, ⟨q, q1, q2, (hi 55 (by unfold kI; omega) (by decide)).trans q3, fun k hk => (q4 k hk).trans (hbb 54 k (by omega)).symm⟩, ⟨c, c1, c2, (hi 61 (by unfold kI; omega) (by decide)).trans c3, fun z => ?_⟩, fun i hi => (r6 i hi).congr (hz i hi) (hzb i hi), r7⟩
  obtain ⟨g1, tv, av, x, g2, g3, g4, g5⟩ := c4 z
  refine ⟨(hi 62 (by unfold kI; omega) (by decide)).trans g1, tv, av, x, g2, fun k hk => ?_, g4, g5⟩
  obtain ⟨e1, e2, e3, e4⟩ := g3 k hk
  exact ⟨e1, (hbb 63 k (by omega)).trans e2, e3, (hbb 64 k (by omega)).trans e4⟩
theorem phi_writ (S : CS) (s : Int32) (N : Nat) (A : Nat → Int32) : phi ((S.1.1, S.1.2.1, S.1.2.2.1, s, N, A, S.1.2.2.2.2.2.2), S.2) + S.1.2.2.2.2.1 = phi S + N := by
  unfold phi
  dsimp only
  omega
/-- a question for narrowness leaves the relation -/
theorem RR.nar {S : CS} {si si' : Nat → Int32} {sj : Nat → Int64} {sa sa' : Nat → Nat → Int32} {sb sb' : Nat → Nat → Int64} (h : RR S (si, sj, sa, sb)) (f : frN si si' sa sa' sb sb') : RR S (si', sj, sa', sb') :=
  h.frame (fun k hk => f.1 k (by unfold kI at hk; omega)) rfl (fun j => f.2.1 0 j (by unfold kAz; omega) (by decide)) (fun j => f.2.1 56 j (by unfold kAz; omega) (by decide)) (fun i hi a j hk => f.2.1 a j (kAz_dis hk (by omega)) (by unfold kAz at hk; omega)) (fun b j hb => f.2.2 b j (by unfold kBz; omega)) (fun i hi b j hk => f.2.2 b j (kBz_dis hk (by omega)))
set_option maxHeartbeats 1000000 in
theorem st_write {nf : Nat} (hnf : 10000 ≤ nf) (S : CS) (M : MS) (p0 p1 : Int32) (h : RR S M) : STWi nf RR S (cq_write nf S p0 p1) (f_Mo_write nf p0 p1 M.1 M.2.1 M.2.2.1 M.2.2.2) := by
  obtain ⟨si, sj, sa, sb⟩ := M
  generalize hC : cq_write nf S p0 p1 = C
  unfold cq_write at hC
  dsimp only
  generalize hQ : f_Mo_write nf p0 p1 si sj sa sb = Q
  have e64 : ∀ (s : Int32) (si : Nat → Int32) (sa : Nat → Nat → Int32) (sb : Nat → Nat → Int64), ¬ s ≤ 0 → f_Mo_write_64 nf p0 p1 s si sj sa sb = some (0, va_up si 3 s, sj, sa, sb) := by
    intro s si sa sb hs
    unfold f_Mo_write_64
    rw [if_neg hs]
  unfold f_Mo_write f_Mo_write_0 at hQ
  rw [e64 1 si sa sb (by decide), e64 2 si sa sb (by decide)] at hQ
  unfold f_ZF_write f_ZF_write_0 g_ZF_write g_ZF_write_0 at hC
  rcases zcase p0 with ⟨i, hi, rfl⟩ | hz
  · obtain ⟨a1, a2, a3, a4, a5, a6, a7⟩ := zgood hi nf
    rw [a4, a1, a2, Option.bind_some, Option.bind_some] at hC
    rw [a3, Option.bind_some, if_pos rfl] at hQ
    by_cases hv : p1 = 0 ∨ p1 = 50 ∨ p1 = 51
    · have key : ∀ (si1 : Nat → Int32) (sa1 : Nat → Nat → Int32) (sb1 : Nat → Nat → Int64), RR S (si1, sj, sa1, sb1) → STWi nf RR S (match f_ZF_write_87 nf (S.2 i).2.1 (S.2 i).2.2.1 (S.2 i).2.2.2.1 (S.2 i).2.2.2.2.1 (S.2 i).2.2.2.2.2.1 (S.2 i).2.2.2.2.2.2.1 (S.2 i).2.2.2.2.2.2.2.1 (S.2 i).2.2.2.2.2.2.2.2.1 (S.2 i).2.2.2.2.2.2.2.2.2.1 (S.2 i).2.2.2.2.2.2.2.2.2.2.1 (S.2 i).2.2.2.2.2.2.2.2.2.2.2.1 (S.2 i).2.2.2.2.2.2.2.2.2.2.2.2.1 (S.2 i).2.2.2.2.2.2.2.2.2.2.2.2.2.1 (S.2 i).2.2.2.2.2.2.2.2.2.2.2.2.2.2.1 (S.2 i).2.2.2.2.2.2.2.2.2.2.2.2.2.2.2.1 (S.2 i).2.2.2.2.2.2.2.2.2.2.2.2.2.2.2.2.1 (S.2 i).2.2.2.2.2.2.2.2.2.2.2.2.2.2.2.2.2.1 (S.2 i).2.2.2.2.2.2.2.2.2.2.2.2.2.2.2.2.2.2.2.2.2.2.2.2.2.2.2.1 (S.2 i).2.2.2.2.2.2.2.2.2.2.2.2.2.2.2.2.2.2.2.2.2.2.2.2.2.2.2.2.1 (S.2 i).2.2.2.2.2.2.2.2.2.2.2.2.2.2.2.2.2.2.2.2.2.2.2.2.2.2.2.2.2.1 p1 S.1.2.2.2.1 S.1.2.2.2.2.1 S.1.2.2.2.2.2.1 with
        | some ((r0, v1_1, v2_n, v2_a), kc, ks) => some (0, r0.toInt64, ((S.1.1, S.1.2.1, S.1.2.2.1, v1_1, v2_n, v2_a, S.1.2.2.2.2.2.2), S.2), kc, ks)
        | none => none) (f_Mo_write_63 nf (ii (i : Int)) p1 si1 sj sa1 sb1) := by
        intro si1 sa1 sb1 h1
        obtain ⟨wn, w1, w2, w3⟩ := id h1.2.1
        obtain ⟨N', A', kc, ks, q, si2, sa2, e1, e2, r1, r2, r3, r4, r5, r6, r7, r8⟩ := wfile (nf := nf) (sj := sj) hnf hi (h1.2.2.2.2.2.1 i hi) hv w2 si1
        unfold f_ZF_write_87 f_Mo_write_63
        rw [e1, Option.bind_some, e2]
        have ph := phi_writ S (ii (q : Int)) N' A'
        refine ⟨0, (ii (q : Int)).toInt64, ((S.1.1, S.1.2.1, S.1.2.2.1, ii (q : Int), N', A', S.1.2.2.2.2.2.2), S.2), 0 + kc, 0 + ks, ii (q : Int), (si2, sj, sa2, sb1), rfl, rfl, congrArg some r4, fun _ => rfl, h1.writ r3 r1 r2 (fun k hk k1 => r7 k (by unfold kI at hk; omega) k1 (by unfold kI at hk; omega)) (fun j => congrFun (r8 0 (by decide) (by decide)) j) (fun i _ a j hk => congrFun (r8 a (by unfold kAz at hk; omega) (by unfold kAz at hk; omega)) j) (fun _ _ _ => rfl) (fun _ _ _ _ _ => rfl), by omega, by omega⟩
      obtain ⟨n, t, c, l, d, u, r, tm, tt, of, ds, ix, sz, ⟨_, _, ⟨c3, c4, c5⟩, _, _, ⟨c13, c14, c15⟩, _⟩, _, _, ⟨ht, _⟩, _, _, hl, _⟩ := id (h.2.2.2.2.2.1 i hi)
      dsimp only at c3 c4 c13 c14 ht hl
      have h31 : f_Mo_write_33 nf (ii (i : Int)) p1 si sj sa sb = Q := by
        rw [← hQ]
        rcases hv with rfl | rfl | rfl <;> rfl
      clear hQ
      unfold f_Mo_write_33 at h31
      rcases hv with rfl | rfl | rfl
      · rw [if_pos rfl] at hC h31
        unfold f_ZF_write_31 g_ZF_write_31 at hC
        rw [a5, if_neg a6, if_neg a6, if_pos rfl, if_pos rfl] at hC
        obtain ⟨r1, e1, e2, e3⟩ := cfit2 (nf := nf) (TI := (S.2 i).2.2.2.2.2.2.1) (LT := (S.2 i).2.2.2.2.2.2.2.2.2.2.2.2.2.2.2.2.1) hnf c5 c15 n 0 nf (by omega) (by omega)
        obtain ⟨r2, g1, g2, g3⟩ := mfit8 (nf := nf) (sa := sa) (sb := sb) hnf (show i < 5 by omega) c5 c15 c4 c14 n 0 nf 1 (by omega) (by omega) (Or.inr rfl)
        have er : r1 = r2 := by
          have : r1 = 1 ↔ r2 = 1 := by
            rw [e3, g3]
            constructor
            · rintro ⟨x1, x2⟩
              refine ⟨rfl, fun q q1 q2 => ?_, fun q q1 => ?_⟩
              · rw [(ht q q2).2.1, ← (ht q q2).1]; exact x1 q q1 q2
              · rw [← (hl q q1).1]; exact x2 q q1
            · rintro ⟨_, x1, x2⟩
              refine ⟨fun q q1 q2 => ?_, fun q q1 => ?_⟩
              · rw [(ht q q2).1, ← (ht q q2).2.1]; exact x1 q q1 q2
              · rw [(hl q q1).1]; exact x2 q q1
          rcases e2 with e2 | e2 <;> rcases g2 with g2 | g2
          · rw [e2, g2]
          · rw [this.mpr g2, g2]
          · rw [e2, this.mp e2]
          · rw [e2, g2]
        have f1 : f_Zone_fitsFourBytes nf (S.2 i).2.1 (S.2 i).2.2.2.1 (S.2 i).2.2.2.2.2.2.1 (S.2 i).2.2.2.2.2.2.2.2.2.2.2.2.2.2.2.2.1 = some r1 := by
          unfold f_Zone_fitsFourBytes f_Zone_fitsFourBytes_0
          rw [c3, c13]
          exact e1
        have f2 : f_Mo_fitsShort nf (ii (i : Int)) si sj sa sb = some r1 := by
          unfold f_Mo_fitsShort f_Mo_fitsShort_0
          rw [wpz (w := 200) 200 rfl, er]
          exact g1
        rw [f1, Option.bind_some, Option.bind_some] at hC
        rw [f2, Option.bind_some] at h31
        rcases e2 with rfl | rfl
        · rw [if_pos rfl, if_pos rfl] at hC
          rw [if_pos rfl] at h31
          unfold f_Mo_write_59 at h31
          rw [e64 3 si sa sb (by decide)] at h31
          exact noI h 3 (by decide) hC.symm h31.symm
        · rw [if_neg (show ¬ (1 : Int32) = 0 by decide), if_neg (show ¬ (1 : Int32) = 0 by decide)] at hC
          rw [if_neg (by decide)] at h31
          unfold f_Mo_write_45 at h31
          rw [if_neg (by decide)] at h31
          rw [← h31]
          have k := key si sa sb h
          unfold f_ZF_write_60 g_ZF_write_60 at hC
          rw [if_neg (show ¬ (0 : Int32) = 50 by decide), if_neg (show ¬ (0 : Int32) = 50 by decide)] at hC
          rw [← hC]
          exact k
      · rw [if_neg (show ¬ (50 : Int32) = 0 by decide)] at h31
        rw [if_neg (show ¬ (50 : Int32) = 0 by decide), if_pos (show (50 : Int32) = 50 from rfl), if_neg (show ¬ (50 : Int32) = 0 by decide), if_pos (show (50 : Int32) = 50 from rfl)] at hC
        unfold f_ZF_write_31 g_ZF_write_31 f_ZF_write_60 g_ZF_write_60 at hC
        rw [a5, if_neg a6, if_neg a6, if_neg (show ¬ (50 : Int32) = 0 by decide), if_neg (show ¬ (50 : Int32) = 0 by decide), if_pos (show (50 : Int32) = 50 from rfl), if_pos (show (50 : Int32) = 50 from rfl)] at hC
        unfold f_Mo_write_45 at h31
        obtain ⟨fl, si1, sa1, sb1, m1, m2, m3⟩ := mnarrow (nf := nf) (si := si) (sj := sj) hnf hi (h.2.2.2.2.2.1 i hi)
        dsimp only at m1
        rw [if_pos (show (50 : Int32) = 50 from rfl), m1, Option.bind_some] at h31
        dsimp only at h31
        by_cases w : (S.2 i).2.2.2.2.2.2.2.2.2.2.2.2.2.2.2.2.2.2.2.1 = 0
        · rw [if_pos w] at m2
          rw [m2, if_neg (by decide)] at h31
          rw [if_pos w, if_pos w] at hC
          rw [← h31]
          have k := key si1 sa1 sb1 (h.nar m3)
          rw [← hC]
          exact k
        · rw [if_neg w] at m2
          rw [m2, if_pos rfl] at h31
          rw [if_neg w, if_neg w] at hC
          unfold f_Mo_write_59 at h31
          rw [e64 3 si1 sa1 sb1 (by decide)] at h31
          exact noI (h.nar m3) 3 (by decide) hC.symm h31.symm
      · rw [if_neg (show ¬ (51 : Int32) = 0 by decide)] at h31
        rw [if_neg (show ¬ (51 : Int32) = 0 by decide), if_neg (show ¬ (51 : Int32) = 50 by decide), if_pos (show (51 : Int32) = 51 from rfl), if_neg (show ¬ (51 : Int32) = 0 by decide), if_neg (show ¬ (51 : Int32) = 50 by decide), if_pos (show (51 : Int32) = 51 from rfl)] at hC
        unfold f_ZF_write_31 g_ZF_write_31 f_ZF_write_60 g_ZF_write_60 at hC
        rw [a5, if_neg a6, if_neg a6, if_neg (show ¬ (51 : Int32) = 0 by decide), if_neg (show ¬ (51 : Int32) = 0 by decide), if_neg (show ¬ (51 : Int32) = 50 by decide), if_neg (show ¬ (51 : Int32) = 50 by decide)] at hC
        unfold f_Mo_write_45 at h31
        rw [if_neg (show ¬ (51 : Int32) = 50 by decide)] at h31
        rw [← h31]
        have k := key si sa sb h
        rw [← hC]
        exact k
    · have v0 : ¬ p1 = 0 := fun z => hv (Or.inl z)
      have v1 : ¬ p1 = 50 := fun z => hv (Or.inr (Or.inl z))
      have v2 : ¬ p1 = 51 := fun z => hv (Or.inr (Or.inr z))
      rw [if_neg v0, if_neg v1, if_neg v2, if_neg v0, if_neg v1, if_neg v2] at hC
      rw [if_neg v0, if_neg v1, if_neg v2] at hQ
      exact noI h 2 (by decide) hC.symm hQ.symm
  · rw [(hz nf).2.2, Option.bind_some, if_neg (by decide)] at hQ
    rw [(hz nf).1, (hz nf).2.1] at hC
    exact noI h 1 (by decide) hC.symm hQ.symm
