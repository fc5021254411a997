/-! ===== seconds ===== -/
theorem msec_bad (nf : Nat) (x1 : Int64) (x3 x4 x5 : Int32) (si : Nat → Int32) (sj : Nat → Int64) (sa : Nat → Nat → Int32) (sb : Nat → Nat → Int64) : f_Mo_seconds_72 nf x1 x3 x4 x5 si sj sa sb = some (0, va_up si 3 1, sj, sa, sb) := by
  unfold f_Mo_seconds_72 f_Mo_seconds_73 f_Mo_seconds_86 f_Mo_seconds_113
  rw [if_pos rfl, if_pos rfl]
theorem msec_bad2 (nf : Nat) (x1 : Int64) (x3 x4 x5 : Int32) (si : Nat → Int32) (sj : Nat → Int64) (sa : Nat → Nat → Int32) (sb : Nat → Nat → Int64) : f_Mo_seconds_31 nf x1 x3 x4 x5 si sj sa sb = some (0, va_up si 3 1, sj, sa, sb) := by
  unfold f_Mo_seconds_31 f_Mo_seconds_32
  rw [if_pos rfl, msec_bad]
theorem st_seconds (nf : Nat) (S : CS) (M : MS) (p0 : Int64) (p1 p2 p3 : Int32) (h : RR S M) : STWj nf RR S (cq_seconds nf S p0 p1 p2 p3) (f_Mo_seconds nf p0 p1 p2 p3 M.1 M.2.1 M.2.2.1 M.2.2.2) := by
  obtain ⟨si, sj, sa, sb⟩ := M
  obtain ⟨y, rfl, y1, y2⟩ := jj_all p0
  obtain ⟨m, rfl, m1, m2⟩ := ii_all p1
  obtain ⟨d, rfl, d1, d2⟩ := ii_all p2
  obtain ⟨s, rfl, s1, s2⟩ := ii_all p3
  dsimp only
  generalize hC : cq_seconds nf S (jj y) (ii m) (ii d) (ii s) = C
  unfold cq_seconds at hC
  generalize hF : f_ZF_seconds nf (jj y) (ii m) (ii d) (ii s) = F at hC
  generalize hG : g_ZF_seconds nf (jj y) (ii m) (ii d) (ii s) = G at hC
  generalize hM : f_Mo_seconds nf (jj y) (ii m) (ii d) (ii s) si sj sa sb = Q
  have bad : none = F → some 2 = G → some (0, va_up si 3 1, sj, sa, sb) = Q → STWj nf RR S C Q := by
    intro q1 q2 q3
    subst q1
    subst q2
    exact noJ h 1 (by decide) hC.symm q3.symm
  unfold f_ZF_seconds f_ZF_seconds_0 f_ZF_seconds_16 f_ZF_seconds_37 f_ZF_seconds_70 f_ZF_seconds_96 at hF
  unfold g_ZF_seconds g_ZF_seconds_0 g_ZF_seconds_16 g_ZF_seconds_37 g_ZF_seconds_70 g_ZF_seconds_96 at hG
  unfold f_Mo_seconds f_Mo_seconds_0 at hM
  rw [msec_bad2] at hM
  rw [show (-30000000000 : Int64) = jj (-30000000000) from rfl, show (30000000000 : Int64) = jj 30000000000 from rfl] at hF hG hM
  by_cases c1 : y < -30000000000
  · have q : jj y < jj (-30000000000) := (jj_lt y1 y2 (by omega) (by omega)).mpr c1
    rw [if_pos q] at hF hG hM
    exact bad hF hG hM
  · have q : ¬ jj y < jj (-30000000000) := fun z => c1 ((jj_lt y1 y2 (by omega) (by omega)).mp z)
    rw [if_neg q] at hF hG hM
    by_cases c2 : 30000000000 < y
    · have q2 : ¬ jj y ≤ jj 30000000000 := fun z => by rw [jj_le y1 y2 (by omega) (by omega)] at z; omega
      have q3 : jj 30000000000 < jj y := (jj_lt (by omega) (by omega) y1 y2).mpr c2
      rw [if_neg q2] at hF hG
      rw [if_pos q3] at hM
      exact bad hF hG hM
    · have q2 : jj y ≤ jj 30000000000 := (jj_le y1 y2 (by omega) (by omega)).mpr (by omega)
      have q3 : ¬ jj 30000000000 < jj y := fun z => c2 ((jj_lt (by omega) (by omega) y1 y2).mp z)
      rw [if_pos q2] at hF hG
      rw [if_neg q3] at hM
      by_cases c3 : m < 1
      · have q4 : ii m < 1 := by rw [ii_lit, ii_lt m1 m2 (by omega) (by omega)]; exact c3
        rw [if_pos q4] at hF hG hM
        exact bad hF hG hM
      · have q4 : ¬ ii m < 1 := by rw [ii_lit, ii_lt m1 m2 (by omega) (by omega)]; exact c3
        rw [if_neg q4] at hF hG hM
        by_cases c4 : 12 < m
        · have q5 : ¬ ii m ≤ 12 := by rw [ii_lit, ii_le m1 m2 (by omega) (by omega)]; omega
          have q6 : (12 : Int32) < ii m := by rw [ii_lit, ii_lt (by omega) (by omega) m1 m2]; exact c4
          rw [if_neg q5] at hF hG
          rw [if_pos q6] at hM
          exact bad hF hG hM
        · have q5 : ii m ≤ 12 := by rw [ii_lit, ii_le m1 m2 (by omega) (by omega)]; omega
          have q6 : ¬ (12 : Int32) < ii m := by rw [ii_lit, ii_lt (by omega) (by omega) m1 m2]; exact c4
          have hl := lg_01 y
          have hb := mst_bounds m (lg y) hl
          have hb1 := mst_bounds (m + 1) (lg y) hl
          have hsz : f_Cal_monthSize nf (ii m) (ii (lg y)) = some (ii (mst (m + 1) (lg y) - mst m (lg y))) := by
            unfold f_Cal_monthSize f_Cal_monthSize_0
            rw [show ii m + 1 = ii (m + 1) by rw [ii_lit, ii_add], mst_ok nf (by omega) (by omega) hl, Option.bind_some, mst_ok nf (by omega) (by omega) hl, Option.bind_some, ii_sub]
          rw [if_pos q5, islong_ok nf (by omega) (by omega), Option.bind_some, hsz, Option.bind_some] at hF hG
          rw [if_neg q6] at hM
          unfold f_Mo_seconds_32 at hM
          rw [if_neg (show ¬ (1 : Int32) = 0 by decide), msec_bad, mlength_ok nf (by omega) (by omega) (by omega) (by omega), Option.bind_some] at hM
          by_cases c5 : d < 1
          · have q7 : ii d < 1 := by rw [ii_lit, ii_lt d1 d2 (by omega) (by omega)]; exact c5
            rw [if_pos q7] at hF hG hM
            exact bad hF hG hM
          · have q7 : ¬ ii d < 1 := by rw [ii_lit, ii_lt d1 d2 (by omega) (by omega)]; exact c5
            rw [if_neg q7] at hF hG hM
            by_cases c6 : mst (m + 1) (lg y) - mst m (lg y) < d
            · have q8 : ¬ ii d ≤ ii (mst (m + 1) (lg y) - mst m (lg y)) := by rw [ii_le d1 d2 (by omega) (by omega)]; omega
              have q9 : ii (mst (m + 1) (lg y) - mst m (lg y)) < ii d := by rw [ii_lt (by omega) (by omega) d1 d2]; exact c6
              rw [if_neg q8] at hF hG
              rw [if_pos q9] at hM
              exact bad hF hG hM
            · have q8 : ii d ≤ ii (mst (m + 1) (lg y) - mst m (lg y)) := by rw [ii_le d1 d2 (by omega) (by omega)]; omega
              have q9 : ¬ ii (mst (m + 1) (lg y) - mst m (lg y)) < ii d := by rw [ii_lt (by omega) (by omega) d1 d2]; exact c6
              rw [if_pos q8, ii_64 s1 s2] at hF hG
              rw [if_neg q9] at hM
              by_cases c7 : s < 0
              · have qa : ii s < 0 := by rw [ii_lit, ii_lt s1 s2 (by omega) (by omega)]; exact c7
                rw [if_pos qa] at hF hG hM
                exact bad hF hG hM
              · have qa : ¬ ii s < 0 := by rw [ii_lit, ii_lt s1 s2 (by omega) (by omega)]; exact c7
                rw [if_neg qa] at hF hG hM
                by_cases c8 : 86400 ≤ s
                · have qb : ¬ jj s < 86400 := by rw [jj_lit, jj_lt (by omega) (by omega) (by omega) (by omega)]; omega
                  have qc : (86400 : Int32) ≤ ii s := by rw [ii_lit, ii_le (by omega) (by omega) s1 s2]; exact c8
                  rw [if_neg qb] at hF hG
                  rw [if_pos qc] at hM
                  exact bad hF hG hM
                · have qb : jj s < 86400 := by rw [jj_lit, jj_lt (by omega) (by omega) (by omega) (by omega)]; omega
                  have qc : ¬ (86400 : Int32) ≤ ii s := by rw [ii_lit, ii_le (by omega) (by omega) s1 s2]; exact c8
                  rw [if_pos qb, ystart_ok nf (by omega) (by omega), Option.bind_some, mst_ok nf (by omega) (by omega) hl, Option.bind_some, ii_64 (by omega) (by omega), ii_64 d1 d2] at hF
                  rw [if_neg qc] at hM
                  unfold f_Mo_seconds_73 f_Mo_seconds_86 f_Mo_seconds_113 at hM
                  rw [if_neg (show ¬ (1 : Int32) = 0 by decide), if_neg (show ¬ (1 : Int32) = 0 by decide), mdays_ok nf (by omega) (by omega) (by omega) (by omega) (by omega) (by omega), Option.bind_some, ii_64 s1 s2] at hM
                  subst hF
                  refine okJ h hC.symm (hM.symm.trans ?_)
                  simp only [jj_lit, jj_add, jj_sub, jj_mul]
