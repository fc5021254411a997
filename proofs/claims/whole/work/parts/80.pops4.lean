/-! ===== typeAt ===== -/
theorem st_typeAt (nf : Nat) (S : CS) (M : MS) (p0 p1 : Int32) (h : RR S M) : STWi nf RR S (cq_typeAt nf S p0 p1) (f_Mo_typeAt nf p0 p1 M.1 M.2.1 M.2.2.1 M.2.2.2) := by
  obtain ⟨si, sj, sa, sb⟩ := M
  have bad : g_ZF_typeAt nf p0 p1 (S.2 (zx p0)).2.1 = some 1 → f_ZF_typeAt nf p0 p1 (S.2 (zx p0)).2.1 (S.2 (zx p0)).2.2.2.2.2.2.2.1 = none → f_Mo_typeAt nf p0 p1 si sj sa sb = some (0, va_up si 3 1, sj, sa, sb) → STWi nf RR S (cq_typeAt nf S p0 p1) (f_Mo_typeAt nf p0 p1 si sj sa sb) := by
    intro q1 q2 q3
    refine ⟨1, 0, S, 1, 6, 0, (va_up si 3 1, sj, sa, sb), ?_, q3, rfl, fun z => absurd z (by decide), h.thr 1, by omega, by omega⟩
    unfold cq_typeAt
    rw [q2, q1]
    rfl
  rcases zcase p0 with ⟨i, hi, rfl⟩ | hz
  · obtain ⟨a1, a2, a3, a4, a5, a6, a7⟩ := zgood hi nf
    obtain ⟨n, t, c, l, d, u, r, tm, tt, of, ds, ix, sz, ⟨_, _, ⟨c3, c4, c5⟩, _⟩, _, _, ⟨ht, _⟩, _⟩ := h.2.2.2.2.2.1 i hi
    dsimp only at *
    rcases xcase p1 (n := n) (by omega) with ⟨k, hk, rfl⟩ | ⟨hx, hx2⟩
    · obtain ⟨b1, b2, b3, b4, b5, b6⟩ := xgood hk (by omega) nf
      obtain ⟨s1, s2⟩ := slice (w := 200) (i := i) (k := k) (m := 1000) (by omega) (by omega) (by omega) (by omega) (by omega)
      obtain ⟨_, _, _, g1, g2, _⟩ := ht k hk
      refine okI h (v := ii (tt k : Int)) ?_ ?_
      · unfold cq_typeAt f_ZF_typeAt f_ZF_typeAt_0
        rw [a4, c3, a1, Option.bind_some, a5, if_neg a6, b1, Option.bind_some, if_neg a6, b6, if_neg (by rintro (z | z); exact b3 z; omega), g1]
      · unfold f_Mo_typeAt f_Mo_typeAt_0 f_Mo_typeAt_28 f_Mo_typeAt_54
        have s1' : (200 * ii (i : Int) + ii (k : Int)).toNatClampNeg = 200 * i + k := s1
        have s2' : ¬ (200 * ii (i : Int) + ii (k : Int) < 0 ∨ 1000 ≤ 200 * i + k) := s2
        rw [a3, Option.bind_some, if_pos rfl, if_neg b3, a5, if_neg a7, c4, if_pos b4, if_pos (by decide), s1', if_neg s2', g2]
    · refine bad ?_ ?_ ?_
      · unfold g_ZF_typeAt g_ZF_typeAt_0
        rw [a4, c3, a2, a1, a5]
        simp only [orT, Option.bind_some, if_neg a6, (hx nf).2]
      · unfold f_ZF_typeAt f_ZF_typeAt_0
        rw [a4, c3, a1, Option.bind_some, a5, if_neg a6, (hx nf).1]
        rfl
      · unfold f_Mo_typeAt f_Mo_typeAt_0 f_Mo_typeAt_23 f_Mo_typeAt_28 f_Mo_typeAt_54
        rw [a3, Option.bind_some, if_pos rfl, a5, if_neg a7, c4]
        rcases hx2 with hx2 | ⟨hx2, _, hx3⟩
        · rw [if_pos hx2, if_neg (by decide)]
        · rw [if_neg hx2, if_neg hx3, if_neg (by decide)]
  · refine bad ?_ ?_ ?_
    · unfold g_ZF_typeAt g_ZF_typeAt_0
      rw [(hz nf).2.1]
      rfl
    · unfold f_ZF_typeAt f_ZF_typeAt_0
      rw [(hz nf).1]
      rfl
    · unfold f_Mo_typeAt f_Mo_typeAt_0 f_Mo_typeAt_23 f_Mo_typeAt_28 f_Mo_typeAt_54
      rw [(hz nf).2.2, Option.bind_some, if_neg (by decide), if_neg (by decide)]
