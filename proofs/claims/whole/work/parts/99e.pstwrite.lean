section
variable {nf i : Nat} {sj : Nat → Int64} {sb : Nat → Nat → Int64}
theorem pblock (hnf : 10000 ≤ nf) {z : ZS} {Z0 : Nat → Nat → Int32} (hi : i < 4) (h : RZon z Z0 sb i) (w : Nat) (hw : w = 4 ∨ w = 8) {n : Nat} (hn : n ≤ 200) {s : Int32} {N : Nat} {A : Nat → Int32} {si : Nat → Int32} {sa : Nat → Nat → Int32} (hb : RB s N A n (sa 58)) (h59 : si 59 = ii (n : Int)) (hsa : ∀ a, a ≠ 58 → sa a = Z0 a) : ∃ q, q ≤ 3500 ∧ Wr n q (f_FW_putBlock nf (ii (w : Int)) s N A z.2.1 z.2.2.1 z.2.2.2.1 z.2.2.2.2.1 z.2.2.2.2.2.1 z.2.2.2.2.2.2.1 z.2.2.2.2.2.2.2.1 z.2.2.2.2.2.2.2.2.1 z.2.2.2.2.2.2.2.2.2.1 z.2.2.2.2.2.2.2.2.2.2.1 z.2.2.2.2.2.2.2.2.2.2.2.1 z.2.2.2.2.2.2.2.2.2.2.2.2.1 z.2.2.2.2.2.2.2.2.2.2.2.2.2.1 z.2.2.2.2.2.2.2.2.2.2.2.2.2.2.1 z.2.2.2.2.2.2.2.2.2.2.2.2.2.2.2.1 z.2.2.2.2.2.2.2.2.2.2.2.2.2.2.2.2.1 z.2.2.2.2.2.2.2.2.2.2.2.2.2.2.2.2.2.1) (f_Mo_putBlock nf (ii (i : Int)) (ii (w : Int)) si sj sa sb) N si sj sa sb := by
  obtain ⟨nt, t, c, l, d, u, r, tm, tt, of, ds, ix, sz, ⟨c1, c2, ⟨c3, c4, c5⟩, ⟨c6, c7, c8, c9⟩, ⟨c10, c11, c12⟩, ⟨c13, c14, c15⟩, ⟨c16, c17, c18⟩, ⟨c19, c20, c21⟩, ⟨c22, c23⟩⟩, h1, h2, ⟨h3, h3'⟩, h4, ⟨h5, h5'⟩, h6, _⟩ := h
  have e := wTI (nf := nf) (sj := sj) (sb := sb) hnf (show i < 5 by omega) hw c5 c9 c12 c15 (by omega) (by omega) c4 c7 c10 c14 c17 c20 (fun k hk => (h3 k hk).2.2.2.1.trans (h3 k hk).2.2.2.2.1.symm) (fun k hk => ⟨(h4 k hk).1.trans (h4 k hk).2.1.symm, (h4 k hk).2.2.2.2.1.trans (h4 k hk).2.2.2.2.2.1.symm, (h4 k hk).2.2.2.2.2.2.2.1.trans (h4 k hk).2.2.2.2.2.2.2.2.1.symm⟩) h1 (fun k hk => h6 k hk) h5 h5' (fun k hk => (h3 k hk).1.trans (h3 k hk).2.1.symm) nt 0 nf nf n (n + nt * w + (nt + (t * 6 + (c + l * (w + 4) + (d + u))))) (by omega) (by omega) (by omega) rfl (by rcases hw with rfl | rfl <;> omega) hb h59 hsa
  refine ⟨_, ?_, ?_⟩
  rotate_left
  · unfold f_FW_putBlock f_FW_putBlock_0 f_Mo_putBlock f_Mo_putBlock_0
    rw [c3, c6, c13, c16, c19, wpz (w := 200) 200 rfl]
    exact e
  · rcases hw with rfl | rfl <;> omega
theorem phead' (hnf : 10000 ≤ nf) {z : ZS} {Z0 : Nat → Nat → Int32} (hi : i < 4) (h : RZon z Z0 sb i) {ver : Int32} {n : Nat} (hn : n ≤ 200) {s : Int32} {N : Nat} {A : Nat → Int32} {si : Nat → Int32} {sa : Nat → Nat → Int32} (hb : RB s N A n (sa 58)) (h59 : si 59 = ii (n : Int)) (hsa : ∀ a, a ≠ 58 → sa a = Z0 a) : Wr n (n + 44) (f_FW_putHeader nf ver s N A z.2.1 z.2.2.1 z.2.2.2.1 z.2.2.2.2.1 z.2.2.2.2.2.1 z.2.2.2.2.2.2.2.2.2.2.2.2.2.1) (f_Mo_putHeader nf ver (sa 10 i) (sa 9 i) (sa 8 i) (sa 5 i) (sa 6 i) (sa 7 i) si sj sa sb) N si sj sa sb := by
  obtain ⟨nt, t, c, l, d, u, r, tm, tt, of, ds, ix, sz, ⟨c1, c2, ⟨c3, c4, c5⟩, ⟨c6, c7, c8, c9⟩, ⟨c10, c11, c12⟩, ⟨c13, c14, c15⟩, ⟨c16, c17, c18⟩, ⟨c19, c20, c21⟩, ⟨c22, c23⟩⟩, h1, _⟩ := h
  rw [hsa 10 (by decide), hsa 9 (by decide), hsa 8 (by decide), hsa 5 (by decide), hsa 6 (by decide), hsa 7 (by decide), c4, c7, c10, c14, c17, c20, c3, c6, c13, c16, c19, h1.1]
  exact phead hnf (by omega) hb h59
set_option maxHeartbeats 1000000 in
theorem wfile (hnf : 10000 ≤ nf) {z : ZS} {sa : Nat → Nat → Int32} (hi : i < 4) (h : RZon z sa sb i) {ver : Int32} (hv : ver = 0 ∨ ver = 50 ∨ ver = 51) {s : Int32} {N n0 : Nat} {A T0 : Nat → Int32} (hw : RB s N A n0 T0) (si : Nat → Int32) : ∃ (N' : Nat) (A' : Nat → Int32) (kc ks q : Nat) (si' : Nat → Int32) (sa' : Nat → Nat → Int32), f_FW_putFile nf ver s N A z.2.1 z.2.2.1 z.2.2.2.1 z.2.2.2.2.1 z.2.2.2.2.2.1 z.2.2.2.2.2.2.1 z.2.2.2.2.2.2.2.1 z.2.2.2.2.2.2.2.2.1 z.2.2.2.2.2.2.2.2.2.1 z.2.2.2.2.2.2.2.2.2.2.1 z.2.2.2.2.2.2.2.2.2.2.2.1 z.2.2.2.2.2.2.2.2.2.2.2.2.1 z.2.2.2.2.2.2.2.2.2.2.2.2.2.1 z.2.2.2.2.2.2.2.2.2.2.2.2.2.2.1 z.2.2.2.2.2.2.2.2.2.2.2.2.2.2.2.1 z.2.2.2.2.2.2.2.2.2.2.2.2.2.2.2.2.1 z.2.2.2.2.2.2.2.2.2.2.2.2.2.2.2.2.2.1 z.2.2.2.2.2.2.2.2.2.2.2.2.2.2.2.2.2.2.2.2.2.2.2.2.2.2.2.1 z.2.2.2.2.2.2.2.2.2.2.2.2.2.2.2.2.2.2.2.2.2.2.2.2.2.2.2.2.1 z.2.2.2.2.2.2.2.2.2.2.2.2.2.2.2.2.2.2.2.2.2.2.2.2.2.2.2.2.2.1 = some ((ii (q : Int), N', A'), kc, ks) ∧ f_Mo_write_64 nf (ii (i : Int)) ver 0 si sj sa sb = some (ii (q : Int), si', sj, sa', sb) ∧ RB (ii (q : Int)) N' A' q (sa' 56) ∧ si' 57 = ii (q : Int) ∧ q ≤ 6000 ∧ si' 3 = 0 ∧ kc + N ≤ N' ∧ ks + 2 * N ≤ 2 * N' ∧ (∀ k, k ≠ 3 → k ≠ 57 → k ≠ 59 → si' k = si k) ∧ ∀ a, a ≠ 56 → a ≠ 58 → sa' a = sa a := by
  obtain ⟨ei, ni⟩ := zidx (i := i) (by omega)
  have r0 := hw.clear (sa 58)
  generalize hC : f_FW_putFile nf ver s N A z.2.1 z.2.2.1 z.2.2.2.1 z.2.2.2.2.1 z.2.2.2.2.2.1 z.2.2.2.2.2.2.1 z.2.2.2.2.2.2.2.1 z.2.2.2.2.2.2.2.2.1 z.2.2.2.2.2.2.2.2.2.1 z.2.2.2.2.2.2.2.2.2.2.1 z.2.2.2.2.2.2.2.2.2.2.2.1 z.2.2.2.2.2.2.2.2.2.2.2.2.1 z.2.2.2.2.2.2.2.2.2.2.2.2.2.1 z.2.2.2.2.2.2.2.2.2.2.2.2.2.2.1 z.2.2.2.2.2.2.2.2.2.2.2.2.2.2.2.1 z.2.2.2.2.2.2.2.2.2.2.2.2.2.2.2.2.1 z.2.2.2.2.2.2.2.2.2.2.2.2.2.2.2.2.2.1 z.2.2.2.2.2.2.2.2.2.2.2.2.2.2.2.2.2.2.2.2.2.2.2.2.2.2.2.1 z.2.2.2.2.2.2.2.2.2.2.2.2.2.2.2.2.2.2.2.2.2.2.2.2.2.2.2.2.1 z.2.2.2.2.2.2.2.2.2.2.2.2.2.2.2.2.2.2.2.2.2.2.2.2.2.2.2.2.2.1 = C
  generalize hQ : f_Mo_write_64 nf (ii (i : Int)) ver 0 si sj sa sb = Q
  unfold f_FW_putFile f_FW_putFile_0 at hC
  rw [show f_By_clear nf s = some 0 from rfl, Option.bind_some] at hC
  unfold f_Mo_write_64 at hQ
  rw [if_pos (show (0 : Int32) ≤ 0 by decide)] at hQ
  by_cases v0 : ver = 0
  · subst v0
    rw [if_pos rfl] at hC
    rw [if_pos (show (0 : Int32) ≤ 0 by decide)] at hQ
    unfold f_Mo_write_103 at hQ
    rw [ei] at hQ
    simp only [if_neg ni] at hQ
    obtain ⟨N1, A1, k1, s1, i1, a1, e1, e1', r1, h1, b1, b1', f1, g1⟩ := phead' (nf := nf) (sj := sj) (ver := 0) hnf hi h (by omega) (s := 0) (si := va_up (va_up si 3 0) 59 0) r0 rfl (fun _ _ => rfl)
    rw [e1, Option.bind_some] at hC
    rw [e1', Option.bind_some] at hQ
    dsimp only at hC hQ
    obtain ⟨q, hq, N2, A2, k2, s2, i2, a2, e2, e2', r2, h2, b2, b2', f2, g2⟩ := pblock (nf := nf) (sj := sj) hnf hi h 4 (Or.inl rfl) (by omega) r1 h1 g1
    rw [show ii ((4 : Nat) : Int) = (4 : Int32) from rfl] at e2 e2'
    rw [e2, Option.bind_some] at hC
    unfold f_Mo_write_156 at hQ
    rw [if_pos (show (0 : Int32) ≤ 0 by decide), e2', Option.bind_some] at hQ
    dsimp only at hC hQ
    rw [if_pos (show (0 : Int32) ≤ 0 by decide)] at hQ
    obtain ⟨a3, m1, m2, m3⟩ := w215 (nf := nf) (sj := sj) (sb := sb) (sa := a2) hnf (show q ≤ 6000 by omega) h2
    rw [m1] at hQ
    refine ⟨N2, A2, 0 + k2 + k1, 0 + s2 + s1, q, _, a3, hC.symm.trans rfl, hQ.symm, r2.T_congr (fun k hk => (m2 k hk).symm), rfl, by omega, ?_, by omega, by omega, fun k x1 x2 x3 => ?_, fun a x1 x2 => ?_⟩
    · rw [vup_ne (by decide), f2 3 (by decide), f1 3 (by decide)]; rfl
    · rw [vup_ne x2, f2 k x3, f1 k x3, vup_ne x3, vup_ne x1]
    · rw [m3 a x1, g2 a x2, g1 a x2]
  · have vp : ¬ ver ≤ 0 := by
      rcases hv with rfl | rfl | rfl
      · exact absurd rfl v0
      · decide
      · decide
    rw [if_neg v0] at hC
    rw [if_neg vp] at hQ
    obtain ⟨N0, A0, k0, s0, i0, a0, e0, e0', r0', h0, b0, b0', f0, g0⟩ := pempty (nf := nf) (sj := sj) (sb := sb) (ver := ver) hnf (by omega) (s := 0) (si := va_up (va_up si 3 0) 59 0) r0 rfl
    have hQ' : (((f_Mo_putHeader nf ver 0 0 0 0 1 1 (va_up (va_up si 3 0) 59 0) sj sa sb).bind fun (i_42, j_43, a_44, b_45) => f_Mo_putNumber nf 0 7 i_42 j_43 a_44 b_45).bind fun (i_46, j_47, a_48, b_49) => f_Mo_write_103 nf (ii (i : Int)) ver i_46 j_47 a_48 b_49) = Q := by
      rw [← hQ]
      cases f_Mo_putHeader nf ver 0 0 0 0 1 1 (va_up (va_up si 3 0) 59 0) sj sa sb with
      | none => rfl
      | some x => rfl
    clear hQ
    rw [e0', Option.bind_some] at hQ'
    rw [e0, Option.bind_some] at hC
    dsimp only at hC hQ'
    unfold f_Mo_write_103 at hQ'
    rw [ei] at hQ'
    simp only [if_neg ni] at hQ'
    obtain ⟨N1, A1, k1, s1, i1, a1, e1, e1', r1, h1, b1, b1', f1, g1⟩ := phead' (nf := nf) (sj := sj) (ver := ver) hnf hi h (by omega) r0' h0 g0
    rw [e1, Option.bind_some] at hC
    rw [e1', Option.bind_some] at hQ'
    dsimp only at hC hQ'
    rw [if_neg vp] at hQ'
    have g1' : ∀ a, a ≠ 58 → a1 a = sa a := fun a ha => (g1 a ha).trans (g0 a ha)
    obtain ⟨q, hq, N2, A2, k2, s2, i2, a2, e2, e2', r2, h2, b2, b2', f2, g2⟩ := pblock (nf := nf) (sj := sj) hnf hi h 8 (Or.inr rfl) (by omega) r1 h1 g1'
    rw [show ii ((8 : Nat) : Int) = (8 : Int32) from rfl] at e2 e2'
    rw [e2, Option.bind_some] at hC
    unfold f_Mo_write_156 at hQ'
    rw [e2', Option.bind_some] at hQ'
    dsimp only at hC hQ'
    rw [if_neg vp] at hQ'
    obtain ⟨N3, A3, k3, s3, i3, a3, e3, e3', r3, h3, b3, b3', f3, g3⟩ := pone (nf := nf) (sj := sj) (sb := sb) hnf 10 (by omega) r2 h2
    rw [show (10 : Int32).toInt64 = 10 from rfl] at e3'
    rw [e3, Option.bind_some] at hC
    rw [e3', Option.bind_some] at hQ'
    dsimp only at hC hQ'
    have g3' : ∀ a, a ≠ 58 → a3 a = sa a := fun a ha => (g3 a ha).trans ((g2 a ha).trans (g1' a ha))
    obtain ⟨nt, t, c, l, d, u, r, tm, tt, of, ds, ix, sz, ⟨_, _, _, _, _, _, _, _, ⟨c22, c23⟩⟩, _, htx, _⟩ := h
    obtain ⟨N4, A4, k4, s4, p1, p2, p3, p4⟩ := RB.putAll (nf := nf) (s := 0) (N := 0) (n := 0) (A := A) (T := a3 58) htx r 0 (fu := nf) r3 (by omega) (by omega) (by omega)
    have pa : f_By_putAll nf 0 z.2.2.2.2.2.2.2.2.2.2.2.2.2.2.2.2.2.2.2.2.2.2.2.2.2.2.2.1 (ii ((q + 1 : Nat) : Int)) N3 A3 z.2.2.2.2.2.2.2.2.2.2.2.2.2.2.2.2.2.2.2.2.2.2.2.2.2.2.2.1 z.2.2.2.2.2.2.2.2.2.2.2.2.2.2.2.2.2.2.2.2.2.2.2.2.2.2.2.2.1 z.2.2.2.2.2.2.2.2.2.2.2.2.2.2.2.2.2.2.2.2.2.2.2.2.2.2.2.2.2.1 = some ((ii ((q + 1 + r : Nat) : Int), N4, A4), k4, s4) := by
      rw [← p1, Nat.zero_add, ← htx.1]
      rfl
    obtain ⟨i4, a4, m1, m2, m3, m4, m5, m6⟩ := mR (nf := nf) (sj := sj) (sb := sb) hnf (show i < 5 by omega) c23 c22 (fun k hk => htx.byte hk) r 0 nf (q + 1) (by omega) (by omega) (by omega) h3 g3'
    rw [show ii ((0 : Nat) : Int) = (0 : Int32) from rfl] at m1
    rw [pa, Option.bind_some] at hC
    rw [m1] at hQ'
    dsimp only at hC
    have r4 : RB (ii ((q + 1 + r : Nat) : Int)) N4 A4 (q + 1 + r) (a4 58) := p2.T_congr (fun k hk => by
      by_cases y : k < q + 1
      · rw [if_pos y, m3 k y]
      · rw [if_neg y, m4 k (by omega) hk])
    obtain ⟨N5, A5, k5, s5, i5, a5, e5, e5', r5, h5, b5, b5', f5, g5⟩ := pone (nf := nf) (sj := sj) (sb := sb) hnf 10 (by omega) r4 m2
    rw [show (10 : Int32).toInt64 = 10 from rfl] at e5'
    rw [e5, Option.bind_some] at hC
    rw [e5', Option.bind_some] at hQ'
    dsimp only at hC hQ'
    obtain ⟨a6, n1, n2, n3⟩ := w215 (nf := nf) (sj := sj) (sb := sb) (sa := a5) hnf (show q + 1 + r + 1 ≤ 6000 by omega) h5
    rw [n1] at hQ'
    refine ⟨N5, A5, 0 + k5 + k4 + k3 + k2 + k1 + k0, 0 + s5 + s4 + s3 + s2 + s1 + s0, q + 1 + r + 1, _, a6, hC.symm.trans rfl, hQ'.symm, r5.T_congr (fun k hk => (n2 k hk).symm), rfl, by omega, ?_, by omega, by omega, fun k x1 x2 x3 => ?_, fun a x1 x2 => ?_⟩
    · rw [vup_ne (by decide), f5 3 (by decide), m5 3 (by decide), f3 3 (by decide), f2 3 (by decide), f1 3 (by decide), f0 3 (by decide)]; rfl
    · rw [vup_ne x2, f5 k x3, m5 k x3, f3 k x3, f2 k x3, f1 k x3, f0 k x3, vup_ne x3, vup_ne x1]
    · rw [n3 a x1, g5 a x2, m6 a x2, g3' a x2]
end
