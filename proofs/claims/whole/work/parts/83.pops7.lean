/-! ===== letter ===== -/
theorem st_letter (nf : Nat) (S : CS) (M : MS) (p0 p1 p2 : Int32) (h : RR S M) : STWi nf RR S (cq_letter nf S p0 p1 p2) (f_Mo_letter nf p0 p1 p2 M.1 M.2.1 M.2.2.1 M.2.2.2) := by
  obtain ⟨si, sj, sa, sb⟩ := M
  generalize hC : cq_letter nf S p0 p1 p2 = C
  unfold cq_letter at hC
  dsimp only
  generalize hQ : f_Mo_letter nf p0 p1 p2 si sj sa sb = Q
  have e50 : f_Mo_letter_50 nf p0 p1 p2 1 si sj sa sb = some (0, va_up si 3 1, sj, sa, sb) := by
    unfold f_Mo_letter_50 f_Mo_letter_95
    rw [if_neg (by decide)]
  unfold f_Mo_letter f_Mo_letter_0 f_Mo_letter_42 f_Mo_letter_45 at hQ
  rw [e50] at hQ
  rcases zcase p0 with ⟨i, hi, rfl⟩ | hz
  · obtain ⟨a1, a2, a3, a4, a5, a6, a7⟩ := zgood hi nf
    obtain ⟨n, t, c, l, d, u, r, tm, tt, of, ds, ix, sz, ⟨_, _, _, _, ⟨c10, c11, c12⟩, _, _, _, ⟨c22, c23⟩⟩, h1, h2, _⟩ := h.2.2.2.2.2.1 i hi
    have k1 := h1.1
    have k2 := h2.1
    dsimp only at *
    rw [a4] at hC
    rw [a3, Option.bind_some, if_pos rfl, a5, if_neg a7, if_neg a7, c10, c22] at hQ
    unfold f_ZF_letter f_ZF_letter_0 g_ZF_letter g_ZF_letter_0 at hC
    rw [a1, a2, a5, Option.bind_some, Option.bind_some, if_neg a6, if_neg a6, if_neg a6, if_neg a6, two] at hC
    rcases xcase p1 (n := 2) (by omega) with ⟨k, hk, rfl⟩ | ⟨hx, hx2⟩
    · obtain ⟨b1, b2, b3, b4, b5, b6⟩ := xgood hk (by omega) nf
      have b7 : ¬ (1 : Int32) < ii (k : Int) := by rw [ii_lit, ii_lt (by omega) (by omega) (by omega) (by omega)]; omega
      rw [b1, b2, Option.bind_some, Option.bind_some] at hC
      rw [if_neg b3, if_neg b7] at hQ
      by_cases k0 : ii (k : Int) = 0
      · rw [if_pos k0, if_pos k0] at hC
        rw [if_pos k0] at hQ
        rcases xcase p2 (n := c) (by omega) with ⟨j, hj, rfl⟩ | ⟨hx, hx2⟩
        · obtain ⟨d1, d2, d3, d4, d5, d6⟩ := xgood hj (by omega) nf
          obtain ⟨s1, s2⟩ := slice (w := 200) (i := i) (k := j) (m := 1000) (by omega) (by omega) (by omega) (by omega) (by omega)
          have s1' : (200 * ii (i : Int) + ii (j : Int)).toNatClampNeg = 200 * i + j := s1
          have s2' : ¬ (200 * ii (i : Int) + ii (j : Int) < 0 ∨ 1000 ≤ 200 * i + j) := s2
          have hg := h1.get (nf := nf) hj
          rw [k1] at hg hC
          rw [d1, Option.bind_some, hg, Option.bind_some] at hC
          rw [if_neg d3, if_pos d4] at hQ
          unfold f_Mo_letter_50 f_Mo_letter_95 at hQ
          rw [if_pos (show (0 : Int32) ≤ 0 by decide), if_pos k0, s1', if_neg s2'] at hQ
          exact okI h hC.symm hQ.symm
        · rw [k1, (hx nf).1, (hx nf).2] at hC
          refine noI h 1 (by decide) hC.symm ?_
          rcases hx2 with hx2 | ⟨hx2, hx4, hx3⟩
          · rw [if_pos hx2] at hQ
            exact hQ.symm
          · rw [if_neg hx2, if_neg hx3] at hQ
            exact hQ.symm
      · rw [if_neg k0, if_neg k0] at hC
        rw [if_neg k0] at hQ
        rcases xcase p2 (n := r) (by omega) with ⟨j, hj, rfl⟩ | ⟨hx, hx2⟩
        · obtain ⟨d1, d2, d3, d4, d5, d6⟩ := xgood hj (by omega) nf
          obtain ⟨s1, s2⟩ := slice (w := 128) (i := i) (k := j) (m := 640) (by omega) (by omega) (by omega) (by omega) (by omega)
          have s1' : (128 * ii (i : Int) + ii (j : Int)).toNatClampNeg = 128 * i + j := s1
          have s2' : ¬ (128 * ii (i : Int) + ii (j : Int) < 0 ∨ 640 ≤ 128 * i + j) := s2
          have hg := h2.get (nf := nf) hj
          rw [k2] at hg hC
          rw [d1, Option.bind_some, hg, Option.bind_some] at hC
          rw [if_neg d3, if_pos d4] at hQ
          unfold f_Mo_letter_50 f_Mo_letter_95 at hQ
          rw [if_pos (show (0 : Int32) ≤ 0 by decide), if_neg k0, s1', if_neg s2'] at hQ
          exact okI h hC.symm hQ.symm
        · rw [k2, (hx nf).1, (hx nf).2] at hC
          refine noI h 1 (by decide) hC.symm ?_
          rcases hx2 with hx2 | ⟨hx2, hx4, hx3⟩
          · rw [if_pos hx2] at hQ
            exact hQ.symm
          · rw [if_neg hx2, if_neg hx3] at hQ
            exact hQ.symm
    · rw [(hx nf).1, (hx nf).2] at hC
      refine noI h 1 (by decide) hC.symm ?_
      rcases hx2 with hx2 | ⟨hx2, hx4, hx3⟩
      · rw [if_pos hx2] at hQ
        exact hQ.symm
      · have b7 : (1 : Int32) < p1 := by
          obtain ⟨v, rfl, v1, v2⟩ := ii_all p1
          rw [ii_le (by omega) (by omega) v1 v2] at hx4
          rw [ii_lit, ii_lt (by omega) (by omega) v1 v2]
          omega
        rw [if_neg hx2, if_pos b7] at hQ
        exact hQ.symm
  · rw [(hz nf).2.2, Option.bind_some, if_neg (by decide)] at hQ
    unfold f_ZF_letter f_ZF_letter_0 g_ZF_letter g_ZF_letter_0 at hC
    rw [(hz nf).1, (hz nf).2.1] at hC
    exact noI h 1 (by decide) hC.symm hQ.symm
