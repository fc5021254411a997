/-! ===== more calls that only read ===== -/
section
variable {nf : Nat} {S : CS} {si : Nat → Int32} {sj : Nat → Int64} {sa : Nat → Nat → Int32} {sb : Nat → Nat → Int64}
theorem okJ (h : RR S (si, sj, sa, sb)) {c : Option (Int32 × Int64 × CS × Nat × Nat)} {q : Option (Int64 × MS)} {v : Int64} (e1 : c = some (0, v, S, 0, 0)) (e2 : q = some (v, va_up si 3 0, sj, sa, sb)) : STWj nf RR S c q :=
  ⟨0, v, S, 0, 0, v, _, e1, e2, rfl, fun _ => rfl, h.thr 0, by omega, by omega⟩
theorem noJ (h : RR S (si, sj, sa, sb)) {c : Option (Int32 × Int64 × CS × Nat × Nat)} {q : Option (Int64 × MS)} (k : Int32) (hk : k ≠ 0) (e1 : c = some (k, 0, S, 1, 6)) (e2 : q = some (0, va_up si 3 k, sj, sa, sb)) : STWj nf RR S c q :=
  ⟨k, 0, S, 1, 6, 0, _, e1, e2, rfl, fun z => absurd z hk, h.thr k, by omega, by omega⟩
theorem okI (h : RR S (si, sj, sa, sb)) {c : Option (Int32 × Int64 × CS × Nat × Nat)} {q : Option (Int32 × MS)} {v : Int32} (e1 : c = some (0, v.toInt64, S, 0, 0)) (e2 : q = some (v, va_up si 3 0, sj, sa, sb)) : STWi nf RR S c q :=
  ⟨0, v.toInt64, S, 0, 0, v, _, e1, e2, rfl, fun _ => rfl, h.thr 0, by omega, by omega⟩
theorem noI (h : RR S (si, sj, sa, sb)) {c : Option (Int32 × Int64 × CS × Nat × Nat)} {q : Option (Int32 × MS)} (k : Int32) (hk : k ≠ 0) (e1 : c = some (k, 0, S, 1, 6)) (e2 : q = some (0, va_up si 3 k, sj, sa, sb)) : STWi nf RR S c q :=
  ⟨k, 0, S, 1, 6, 0, _, e1, e2, rfl, fun z => absurd z hk, h.thr k, by omega, by omega⟩
end
theorem st_found (nf : Nat) (S : CS) (M : MS) (p0 : Int32) (h : RR S M) : STWj nf RR S (cq_found nf S p0) (f_Mo_found nf p0 M.1 M.2.1 M.2.2.1 M.2.2.2) := by
  obtain ⟨si, sj, sa, sb⟩ := M
  obtain ⟨n, n1, n2, n3, n4⟩ := h.2.2.2.1
  dsimp only at *
  rcases xcase p0 (n := n) (by omega) with ⟨k, hk, rfl⟩ | ⟨hx, hx2⟩
  · obtain ⟨b1, b2, b3, b4, b5, b6⟩ := xgood hk (by omega) nf
    refine okJ h (v := S.1.2.2.2.2.2.2.2.2.1 k) ?_ ?_
    · unfold cq_found f_ZF_found f_ZF_found_0
      rw [n2, b1, Option.bind_some, b6, if_neg (fun z => z.elim b3 (by omega))]
    · unfold f_Mo_found f_Mo_found_0 f_Mo_found_18 f_Mo_found_38
      rw [if_neg b3, n3, if_pos b4, if_pos (by decide), b6, if_neg (fun z => z.elim b3 (by omega)), n4 k hk]
  · refine noJ h 1 (by decide) ?_ ?_
    · unfold cq_found f_ZF_found f_ZF_found_0 g_ZF_found g_ZF_found_0
      rw [n2, (hx nf).1, (hx nf).2]
      rfl
    · unfold f_Mo_found f_Mo_found_0 f_Mo_found_13 f_Mo_found_18 f_Mo_found_38
      rw [n3]
      rcases hx2 with hx2 | ⟨hx2, _, hx3⟩
      · rw [if_pos hx2, if_neg (by decide)]
      · rw [if_neg hx2, if_neg hx3, if_neg (by decide)]
theorem st_out (nf : Nat) (S : CS) (M : MS) (p0 : Int32) (h : RR S M) : STWi nf RR S (cq_out nf S p0) (f_Mo_out nf p0 M.1 M.2.1 M.2.2.1 M.2.2.2) := by
  obtain ⟨si, sj, sa, sb⟩ := M
  obtain ⟨n, n1, n2, n3⟩ := h.2.1
  have n0 := n2.1
  dsimp only at *
  rcases xcase p0 (n := n) (by omega) with ⟨k, hk, rfl⟩ | ⟨hx, hx2⟩
  · obtain ⟨b1, b2, b3, b4, b5, b6⟩ := xgood hk (by omega) nf
    refine okI h (v := sa 56 k) ?_ ?_
    · unfold cq_out f_ZF_out f_ZF_out_0
      have e := n2.get (nf := nf) hk
      rw [n0] at e ⊢
      rw [b1, Option.bind_some, e, Option.bind_some]
    · unfold f_Mo_out f_Mo_out_0 f_Mo_out_18 f_Mo_out_38
      rw [if_neg b3, n3, if_pos b4, if_pos (by decide), b6, if_neg (fun z => z.elim b3 (by omega))]
  · refine noI h 1 (by decide) ?_ ?_
    · unfold cq_out f_ZF_out f_ZF_out_0 g_ZF_out g_ZF_out_0
      rw [n0, (hx nf).1, (hx nf).2]
      rfl
    · unfold f_Mo_out f_Mo_out_0 f_Mo_out_13 f_Mo_out_18 f_Mo_out_38
      rw [n3]
      rcases hx2 with hx2 | ⟨hx2, _, hx3⟩
      · rw [if_pos hx2, if_neg (by decide)]
      · rw [if_neg hx2, if_neg hx3, if_neg (by decide)]
theorem two : (2 : Int32) = ii ((2 : Nat) : Int) := rfl
theorem st_told (nf : Nat) (S : CS) (M : MS) (p0 : Int32) (h : RR S M) : STWj nf RR S (cq_told nf S p0) (f_Mo_told nf p0 M.1 M.2.1 M.2.2.1 M.2.2.2) := by
  obtain ⟨si, sj, sa, sb⟩ := M
  obtain ⟨c, c1, c2, c3, c4⟩ := h.2.2.2.2.1
  dsimp only at *
  rcases xcase p0 (n := 2) (by omega) with ⟨k, hk, rfl⟩ | ⟨hx, hx2⟩
  · obtain ⟨b1, b2, b3, b4, b5, b6⟩ := xgood hk (by omega) nf
    have b7 : ii (k : Int) ≤ 1 := by rw [ii_lit, ii_le (by omega) (by omega) (by omega) (by omega)]; omega
    by_cases d : c = 0
    · rw [if_pos d] at c3
      refine noJ h 2 (by decide) ?_ ?_
      · unfold cq_told f_ZF_told f_ZF_told_0 g_ZF_told g_ZF_told_0
        rw [two, b1, b2, Option.bind_some, Option.bind_some, c2, d]
        rfl
      · unfold f_Mo_told f_Mo_told_0 f_Mo_told_26 f_Mo_told_56
        rw [if_neg b3, if_pos b7, c3, if_pos rfl, if_neg (by decide)]
    · rw [if_neg d] at c3
      obtain ⟨t1, tv, av, x, t2, t3, t4, t5⟩ := c4 (by omega)
      have dn : ¬ ii (c : Int) = 0 := by rw [ii_lit, ii_eq (by omega) (by omega) (by omega) (by omega)]; omega
      by_cases k0 : k = 0
      · subst k0
        refine okJ h (v := (ii (c : Int)).toInt64) ?_ ?_
        · unfold cq_told f_ZF_told f_ZF_told_0 f_ZF_told_48
          rw [two, b1, Option.bind_some, c2, if_neg dn, if_pos (show ii ((0 : Nat) : Int) = 0 from rfl)]
        · unfold f_Mo_told f_Mo_told_0 f_Mo_told_26 f_Mo_told_56
          rw [if_neg b3, if_pos b7, c3, if_neg (by decide), if_pos (by decide), if_pos (show ii ((0 : Nat) : Int) = 0 from rfl), t1]
      · have k1 : ¬ ii (k : Int) = 0 := by rw [ii_lit, ii_eq (by omega) (by omega) (by omega) (by omega)]; omega
        refine okJ h (v := jj x) ?_ ?_
        · unfold cq_told f_ZF_told f_ZF_told_0 f_ZF_told_48
          rw [two, b1, Option.bind_some, c2, if_neg dn, if_neg k1, t4]
        · unfold f_Mo_told f_Mo_told_0 f_Mo_told_26 f_Mo_told_56
          rw [if_neg b3, if_pos b7, c3, if_neg (by decide), if_pos (by decide), if_neg k1, t5]
  · refine noJ h 1 (by decide) ?_ ?_
    · unfold cq_told f_ZF_told f_ZF_told_0 g_ZF_told g_ZF_told_0
      rw [two, (hx nf).1, (hx nf).2]
      rfl
    · unfold f_Mo_told f_Mo_told_0 f_Mo_told_10 f_Mo_told_26 f_Mo_told_56
      rcases hx2 with hx2 | ⟨hx2, hx4, hx3⟩
      · rw [if_pos hx2, if_neg (by decide)]
      · have b7 : ¬ p0 ≤ 1 := by
          obtain ⟨v, rfl, v1, v2⟩ := ii_all p0
          rw [ii_le (by omega) (by omega) v1 v2] at hx4
          rw [ii_lit, ii_le v1 v2 (by omega) (by omega)]
          omega
        rw [if_neg hx2, if_neg b7, if_neg (by decide)]
theorem cinst (nf : Nat) {v : Int} (h1 : -9223372036854775808 ≤ v) (h2 : v < 9223372036854775808) : f_ZF_isInstant nf (jj v) = some (if -1152921504606846975 ≤ v ∧ v ≤ 1152921504606846975 then 1 else 0) ∧ f_Mo_isInstant nf (jj v) = some (if -1152921504606846975 ≤ v ∧ v ≤ 1152921504606846975 then 1 else 0) := by
  unfold f_ZF_isInstant f_ZF_isInstant_0 f_ZF_isInstant_20 f_ZF_isInstant_21 f_Mo_isInstant f_Mo_isInstant_0 f_Mo_isInstant_20 f_Mo_isInstant_21
  rw [show (-1152921504606846975 : Int64) = jj (-1152921504606846975) from rfl, show (1152921504606846975 : Int64) = jj 1152921504606846975 from rfl, show (-1152921504606846976 : Int64) = jj (-1152921504606846976) from rfl, show (1152921504606846976 : Int64) = jj 1152921504606846976 from rfl]
  by_cases c1 : v < -1152921504606846975
  · have m1 : jj v < jj (-1152921504606846975) := (jj_lt h1 h2 (by omega) (by omega)).mpr c1
    have m2 : jj v ≤ jj (-1152921504606846976) := (jj_le h1 h2 (by omega) (by omega)).mpr (by omega)
    rw [if_pos m1, if_pos m2, if_neg (show ¬ (-1152921504606846975 ≤ v ∧ v ≤ 1152921504606846975) by omega)]
    exact ⟨rfl, rfl⟩
  · have m1 : ¬ jj v < jj (-1152921504606846975) := fun z => c1 ((jj_lt h1 h2 (by omega) (by omega)).mp z)
    have m2 : ¬ jj v ≤ jj (-1152921504606846976) := fun z => by rw [jj_le h1 h2 (by omega) (by omega)] at z; omega
    rw [if_neg m1, if_neg m2]
    by_cases c2 : 1152921504606846975 < v
    · have m3 : jj 1152921504606846975 < jj v := (jj_lt (by omega) (by omega) h1 h2).mpr c2
      have m4 : jj 1152921504606846976 ≤ jj v := (jj_le (by omega) (by omega) h1 h2).mpr (by omega)
      rw [if_pos m3, if_pos m4, if_neg (show ¬ (-1152921504606846975 ≤ v ∧ v ≤ 1152921504606846975) by omega)]
      exact ⟨rfl, rfl⟩
    · have m3 : ¬ jj 1152921504606846975 < jj v := fun z => c2 ((jj_lt (by omega) (by omega) h1 h2).mp z)
      have m4 : ¬ jj 1152921504606846976 ≤ jj v := fun z => by rw [jj_le (by omega) (by omega) h1 h2] at z; omega
      rw [if_neg m3, if_neg m4, if_pos (show (-1152921504606846975 ≤ v ∧ v ≤ 1152921504606846975) by omega)]
      exact ⟨rfl, rfl⟩
theorem st_row (nf : Nat) (S : CS) (M : MS) (p0 p1 : Int32) (h : RR S M) : STWj nf RR S (cq_row nf S p0 p1) (f_Mo_row nf p0 p1 M.1 M.2.1 M.2.2.1 M.2.2.2) := by
  obtain ⟨si, sj, sa, sb⟩ := M
  obtain ⟨c, c1, c2, c3, c4⟩ := h.2.2.2.2.1
  dsimp only at *
  have bad : g_ZF_row nf p0 p1 S.1.2.2.2.2.2.2.2.2.2.1 = some 1 → f_ZF_row nf p0 p1 S.1.2.2.2.2.2.2.2.2.2.1 S.1.2.2.2.2.2.2.2.2.2.2.2.1 S.1.2.2.2.2.2.2.2.2.2.2.2.2.1 = none → f_Mo_row nf p0 p1 si sj sa sb = some (0, va_up si 3 1, sj, sa, sb) → STWj nf RR S (cq_row nf S p0 p1) (f_Mo_row nf p0 p1 si sj sa sb) := by
    intro q1 q2 q3
    refine noJ h 1 (by decide) ?_ q3
    unfold cq_row
    rw [q2, q1]
    rfl
  rcases xcase p0 (n := c) (by omega) with ⟨k, hk, rfl⟩ | ⟨hx, hx2⟩
  · obtain ⟨b1, b2, b3, b4, b5, b6⟩ := xgood hk (by omega) nf
    rw [if_neg (by omega)] at c3
    obtain ⟨t1, tv, av, x, t2, t3, t4, t5⟩ := c4 (by omega)
    obtain ⟨u1, u2, u3, u4⟩ := t3 k hk
    rcases xcase p1 (n := 2) (by omega) with ⟨j, hj, rfl⟩ | ⟨hx, hx2⟩
    · obtain ⟨d1, d2, d3, d4, d5, d6⟩ := xgood hj (by omega) nf
      have d7 : ii (j : Int) ≤ 1 := by rw [ii_lit, ii_le (by omega) (by omega) (by omega) (by omega)]; omega
      by_cases j0 : j = 0
      · subst j0
        refine okJ h (v := jj (tv k)) ?_ ?_
        · unfold cq_row f_ZF_row f_ZF_row_0 f_ZF_row_41
          rw [two, c2, b1, Option.bind_some, d1, Option.bind_some, if_pos (show ii ((0 : Nat) : Int) = 0 from rfl), b6, if_neg (fun z => z.elim b3 (by omega)), u1]
        · unfold f_Mo_row f_Mo_row_0 f_Mo_row_34 f_Mo_row_67
          rw [c3, if_neg (by decide), if_neg b3, t1, if_neg b5, if_neg d3, if_pos d7, if_pos (by decide), if_pos (show ii ((0 : Nat) : Int) = 0 from rfl), b6, if_neg (fun z => z.elim b3 (by omega)), u2]
      · have j1 : ¬ ii (j : Int) = 0 := by rw [ii_lit, ii_eq (by omega) (by omega) (by omega) (by omega)]; omega
        refine okJ h (v := jj (av k)) ?_ ?_
        · unfold cq_row f_ZF_row f_ZF_row_0 f_ZF_row_41
          rw [two, c2, b1, Option.bind_some, d1, Option.bind_some, if_neg j1, b6, if_neg (fun z => z.elim b3 (by omega)), u3]
        · unfold f_Mo_row f_Mo_row_0 f_Mo_row_34 f_Mo_row_67
          rw [c3, if_neg (by decide), if_neg b3, t1, if_neg b5, if_neg d3, if_pos d7, if_pos (by decide), if_neg j1, b6, if_neg (fun z => z.elim b3 (by omega)), u4]
    · refine bad ?_ ?_ ?_
      · unfold g_ZF_row g_ZF_row_0
        rw [two, c2, b1, b2, Option.bind_some, (hx nf).2]
        rfl
      · unfold f_ZF_row f_ZF_row_0
        rw [two, c2, b1, Option.bind_some, (hx nf).1]
        rfl
      · unfold f_Mo_row f_Mo_row_0 f_Mo_row_29 f_Mo_row_34 f_Mo_row_67
        rw [c3, if_neg (by decide), if_neg b3, t1, if_neg b5]
        rcases hx2 with hx2 | ⟨hx2, hx4, hx3⟩
        · rw [if_pos hx2, if_neg (by decide)]
        · have b7 : ¬ p1 ≤ 1 := by
            obtain ⟨v, rfl, v1, v2⟩ := ii_all p1
            rw [ii_le (by omega) (by omega) v1 v2] at hx4
            rw [ii_lit, ii_le v1 v2 (by omega) (by omega)]
            omega
          rw [if_neg hx2, if_neg b7, if_neg (by decide)]
  · refine bad ?_ ?_ ?_
    · unfold g_ZF_row g_ZF_row_0
      rw [c2, (hx nf).2]
      rfl
    · unfold f_ZF_row f_ZF_row_0
      rw [c2, (hx nf).1]
      rfl
    · unfold f_Mo_row f_Mo_row_0 f_Mo_row_29 f_Mo_row_34 f_Mo_row_67
      by_cases d : c = 0
      · rw [if_pos d] at c3
        rw [c3, if_pos rfl, if_neg (by decide)]
      · rw [if_neg d] at c3
        obtain ⟨t1, _⟩ := c4 (by omega)
        rw [c3, if_neg (by decide), t1]
        rcases hx2 with hx2 | ⟨hx2, hx4, hx3⟩
        · rw [if_pos hx2, if_neg (by decide)]
        · rw [if_neg hx2, if_pos hx4, if_neg (by decide)]
