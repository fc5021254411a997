/-! ===== leap ===== -/
theorem st_leap (nf : Nat) (S : CS) (M : MS) (p0 p1 p2 : Int32) (h : RR S M) : STWj nf RR S (cq_leap nf S p0 p1 p2) (f_Mo_leap nf p0 p1 p2 M.1 M.2.1 M.2.2.1 M.2.2.2) := by
  obtain ⟨si, sj, sa, sb⟩ := M
  generalize hC : cq_leap nf S p0 p1 p2 = C
  unfold cq_leap at hC
  dsimp only
  generalize hQ : f_Mo_leap nf p0 p1 p2 si sj sa sb = Q
  have e37 : f_Mo_leap_37 nf p0 p1 p2 1 si sj sa sb = some (0, va_up si 3 1, sj, sa, sb) := by
    unfold f_Mo_leap_37 f_Mo_leap_80
    rw [if_neg (by decide)]
  unfold f_Mo_leap f_Mo_leap_0 f_Mo_leap_32 at hQ
  rw [e37] at hQ
  rcases zcase p0 with ⟨i, hi, rfl⟩ | hz
  · obtain ⟨a1, a2, a3, a4, a5, a6, a7⟩ := zgood hi nf
    obtain ⟨n, t, c, l, d, u, r, tm, tt, of, ds, ix, sz, ⟨_, _, _, _, _, ⟨c13, c14, c15⟩, _⟩, _, _, _, _, _, hl, _⟩ := h.2.2.2.2.2.1 i hi
    dsimp only at *
    rw [a4, c13] at hC
    rw [a3, Option.bind_some, if_pos rfl, a5, if_neg a7, c14] at hQ
    unfold f_ZF_leap f_ZF_leap_0 g_ZF_leap g_ZF_leap_0 at hC
    rw [a1, a2, a5, Option.bind_some, Option.bind_some, if_neg a6, if_neg a6, if_neg a6, if_neg a6, two] at hC
    rcases xcase p1 (n := l) (by omega) with ⟨k, hk, rfl⟩ | ⟨hx, hx2⟩
    · obtain ⟨b1, b2, b3, b4, b5, b6⟩ := xgood hk (by omega) nf
      rw [b1, b2, Option.bind_some, Option.bind_some, b6] at hC
      rw [if_neg b3, if_neg b5] at hQ
      rcases xcase p2 (n := 2) (by omega) with ⟨j, hj, rfl⟩ | ⟨hx, hx2⟩
      · obtain ⟨d1, d2, d3, d4, d5, d6⟩ := xgood hj (by omega) nf
        have d7 : ii (j : Int) ≤ 1 := by rw [ii_lit, ii_le (by omega) (by omega) (by omega) (by omega)]; omega
        obtain ⟨s1, s2⟩ := slice (w := 40) (i := i) (k := k) (m := 200) (by omega) (by omega) (by omega) (by omega) (by omega)
        have s1' : (40 * ii (i : Int) + ii (k : Int)).toNatClampNeg = 40 * i + k := s1
        have s2' : ¬ (40 * ii (i : Int) + ii (k : Int) < 0 ∨ 200 ≤ 40 * i + k) := s2
        obtain ⟨g1, g2⟩ := hl k hk
        have nk : ¬ (ii (k : Int) < 0 ∨ 40 ≤ k) := fun z => z.elim b3 (by omega)
        unfold f_Mo_leap_37 f_Mo_leap_80 at hQ
        unfold f_ZF_leap_52 at hC
        rw [d1, Option.bind_some, if_neg nk, if_neg nk, g1, g2] at hC
        rw [if_neg d3, if_pos d7, if_pos (show (0 : Int32) ≤ 0 by decide), s1', if_neg s2', if_neg s2'] at hQ
        by_cases j0 : ii (j : Int) = 0
        · rw [if_pos j0] at hC hQ
          exact okJ h hC.symm hQ.symm
        · rw [if_neg j0] at hC hQ
          exact okJ h hC.symm hQ.symm
      · rw [(hx nf).1, (hx nf).2] at hC
        refine noJ h 1 (by decide) hC.symm ?_
        rcases hx2 with hx2 | ⟨hx2, hx4, hx3⟩
        · rw [if_pos hx2] at hQ
          exact hQ.symm
        · have b7 : ¬ p2 ≤ 1 := by
            obtain ⟨v, rfl, v1, v2⟩ := ii_all p2
            rw [ii_le (by omega) (by omega) v1 v2] at hx4
            rw [ii_lit, ii_le v1 v2 (by omega) (by omega)]
            omega
          rw [if_neg hx2, if_neg b7] at hQ
          exact hQ.symm
    · rw [(hx nf).1, (hx nf).2] at hC
      refine noJ h 1 (by decide) hC.symm ?_
      rcases hx2 with hx2 | ⟨hx2, hx4, hx3⟩
      · rw [if_pos hx2] at hQ
        exact hQ.symm
      · rw [if_neg hx2, if_pos hx4] at hQ
        exact hQ.symm
  · rw [(hz nf).2.2, Option.bind_some, if_neg (by decide)] at hQ
    unfold f_ZF_leap f_ZF_leap_0 g_ZF_leap g_ZF_leap_0 at hC
    rw [(hz nf).1, (hz nf).2.1] at hC
    exact noJ h 1 (by decide) hC.symm hQ.symm
