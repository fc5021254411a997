/-! ===== zone ===== -/
theorem seven (k : Nat) (hk : k < 8) : ii (k : Int) ≤ 7 := by rw [ii_lit, ii_le (by omega) (by omega) (by omega) (by omega)]; omega
theorem st_zone (nf : Nat) (S : CS) (M : MS) (p0 p1 : Int32) (h : RR S M) : STWi nf RR S (cq_zone nf S p0 p1) (f_Mo_zone nf p0 p1 M.1 M.2.1 M.2.2.1 M.2.2.2) := by
  obtain ⟨si, sj, sa, sb⟩ := M
  generalize hC : cq_zone nf S p0 p1 = C
  unfold cq_zone at hC
  dsimp only
  generalize hQ : f_Mo_zone nf p0 p1 si sj sa sb = Q
  have e24 : f_Mo_zone_24 nf p0 p1 1 si sj sa sb = some (0, va_up si 3 1, sj, sa, sb) := by
    unfold f_Mo_zone_24
    rw [if_neg (by decide)]
  unfold f_Mo_zone f_Mo_zone_0 f_Mo_zone_19 at hQ
  rw [e24] at hQ
  rcases zcase p0 with ⟨i, hi, rfl⟩ | hz
  · obtain ⟨a1, a2, a3, a4, a5, a6, a7⟩ := zgood hi nf
    obtain ⟨n, t, c, l, d, u, r, tm, tt, of, ds, ix, sz, ⟨c1, c2, ⟨c3, c4, c5⟩, ⟨c6, c7, c8, c9⟩, ⟨c10, c11, c12⟩, ⟨c13, c14, c15⟩, ⟨c16, c17, c18⟩, ⟨c19, c20, c21⟩, ⟨c22, c23⟩⟩, h1, h2, _⟩ := h.2.2.2.2.2.1 i hi
    have k1 := h1.1
    have k2 := h2.1
    dsimp only at *
    rw [a4, c1, c3, c6, c13, c16, c19, k1, k2] at hC
    rw [a3, Option.bind_some, if_pos rfl] at hQ
    unfold f_ZF_zone f_ZF_zone_0 g_ZF_zone g_ZF_zone_0 at hC
    rw [a1, a2, a5, Option.bind_some, Option.bind_some, if_neg a6, if_neg a6] at hC
    rcases xcase p1 (n := 8) (by omega) with ⟨k, hk, rfl⟩ | ⟨hx, hx2⟩
    · obtain ⟨b1, b2, b3, b4, b5, b6⟩ := xgood hk (by omega) nf
      rw [if_neg b3, if_pos (seven k hk)] at hQ
      unfold f_Mo_zone_24 at hQ
      rw [if_pos (show (0 : Int32) ≤ 0 by decide), a5, if_neg a7, if_neg a7, if_neg a7, if_neg a7, if_neg a7, if_neg a7, if_neg a7, if_neg a7, c4, c7, c10, c14, c17, c20, c22] at hQ
      rcases (show k = 0 ∨ k = 1 ∨ k = 2 ∨ k = 3 ∨ k = 4 ∨ k = 5 ∨ k = 6 ∨ k = 7 by omega) with rfl | rfl | rfl | rfl | rfl | rfl | rfl | rfl
      · exact okI h (v := sa 4 i) hC.symm hQ.symm
      · exact okI h (v := ii (n : Int)) hC.symm hQ.symm
      · exact okI h (v := ii (t : Int)) hC.symm hQ.symm
      · exact okI h (v := ii (c : Int)) hC.symm hQ.symm
      · exact okI h (v := ii (l : Int)) hC.symm hQ.symm
      · exact okI h (v := ii (d : Int)) hC.symm hQ.symm
      · exact okI h (v := ii (u : Int)) hC.symm hQ.symm
      · exact okI h (v := ii (r : Int)) hC.symm hQ.symm
    · have nk : ∀ m : Nat, m < 8 → ¬ p1 = ii (m : Int) := by
        intro m hm e
        obtain ⟨b1, b2, b3, b4, b5, b6⟩ := xgood hm (by omega) nf
        rw [e] at hx2
        rcases hx2 with hx2 | ⟨_, hx2, _⟩
        · exact b3 hx2
        · exact b5 hx2
      have x0 : ¬ p1 = 0 := nk 0 (by omega)
      have x1 : ¬ p1 = 1 := nk 1 (by omega)
      have x2 : ¬ p1 = 2 := nk 2 (by omega)
      have x3 : ¬ p1 = 3 := nk 3 (by omega)
      have x4 : ¬ p1 = 4 := nk 4 (by omega)
      have x5 : ¬ p1 = 5 := nk 5 (by omega)
      have x6 : ¬ p1 = 6 := nk 6 (by omega)
      have x7 : ¬ p1 = 7 := nk 7 (by omega)
      simp only [if_neg x0, if_neg x1, if_neg x2, if_neg x3, if_neg x4, if_neg x5, if_neg x6, if_neg x7] at hC
      refine noI h 1 (by decide) hC.symm ?_
      rcases hx2 with hx2 | ⟨hx2, hx4, hx3⟩
      · rw [if_pos hx2] at hQ
        exact hQ.symm
      · have b7 : ¬ p1 ≤ 7 := by
          obtain ⟨v, rfl, v1, v2⟩ := ii_all p1
          rw [ii_le (by omega) (by omega) v1 v2] at hx4
          rw [ii_lit, ii_le v1 v2 (by omega) (by omega)]
          omega
        rw [if_neg hx2, if_neg b7] at hQ
        exact hQ.symm
  · rw [(hz nf).2.2, Option.bind_some, if_neg (by decide)] at hQ
    unfold f_ZF_zone f_ZF_zone_0 g_ZF_zone g_ZF_zone_0 at hC
    rw [(hz nf).1, (hz nf).2.1] at hC
    exact noI h 1 (by decide) hC.symm hQ.symm
