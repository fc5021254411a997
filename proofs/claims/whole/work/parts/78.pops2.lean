/-! ===== clock and seconds ===== -/
theorem eight : (8 : Int32) = ii ((8 : Nat) : Int) := rfl
theorem cchk (nf : Nat) {v : Int} (h1 : -9223372036854775808 ≤ v) (h2 : v < 9223372036854775808) (c : -1152921504606846975 ≤ v ∧ v ≤ 1152921504606846975) : f_ZF_checkInstant nf (jj v) = some () ∧ g_ZF_checkInstant nf (jj v) = none := by
  unfold f_ZF_checkInstant f_ZF_checkInstant_0 g_ZF_checkInstant g_ZF_checkInstant_0
  rw [(cinst nf h1 h2).1, if_pos c, Option.bind_some, Option.bind_some, if_neg (by decide), if_neg (by decide)]
  exact ⟨rfl, rfl⟩
theorem cchkN (nf : Nat) {v : Int} (h1 : -9223372036854775808 ≤ v) (h2 : v < 9223372036854775808) (c : ¬ (-1152921504606846975 ≤ v ∧ v ≤ 1152921504606846975)) : f_ZF_checkInstant nf (jj v) = none ∧ g_ZF_checkInstant nf (jj v) = some 2 := by
  unfold f_ZF_checkInstant f_ZF_checkInstant_0 g_ZF_checkInstant g_ZF_checkInstant_0
  rw [(cinst nf h1 h2).1, if_neg c, Option.bind_some, Option.bind_some, if_pos rfl, if_pos rfl]
  exact ⟨rfl, rfl⟩
theorem dateof_ok {nf : Nat} (hnf : 12 ≤ nf) {d : Int} (h1 : -20000000000000 ≤ d) (h2 : d ≤ 20000000000000) (w : Int32) : f_ZF_dateOf nf (jj d) w = some (if w = 0 then jj (yo d) else if w = 1 then jj (mod_ d) else if w = 2 then jj (dod_ d) else jj (d - ys (yo d) + 1)) := by
  have hy := yo_bounds h1 h2
  obtain ⟨s1, s2⟩ := yo_spec d
  have hs := ys_succ (yo d)
  have hl := lg_01 (yo d)
  obtain ⟨k1, k2, k3, k4⟩ := @dod_spec d
  have hmo := mo_spec hl (show 0 ≤ d - ys (yo d) by omega) (by omega)
  have hb := mst_bounds (mod_ d) (lg (yo d)) hl
  have hm : f_Cal_monthOf nf (ii (d - ys (yo d))) (ii (lg (yo d))) = some (ii (mod_ d)) := monthof_ok hnf (by omega) (by omega) hl
  unfold f_ZF_dateOf f_ZF_dateOf_0
  rw [yearof_ok nf h1 h2, Option.bind_some, ystart_ok nf (by omega) (by omega), Option.bind_some, islong_ok nf (by omega) (by omega), Option.bind_some, jj_sub, jj_32, hm, Option.bind_some, mst_ok nf k1 (by omega) hl, Option.bind_some, ii_64 (by omega) (by omega)]
  rw [show ii (d - ys (yo d)) - ii (mst (mod_ d) (lg (yo d))) + 1 = ii (dod_ d) by rw [ii_lit, ii_sub, ii_add]; rfl, ii_64 (by omega) (by omega), show ii (d - ys (yo d)) + 1 = ii (d - ys (yo d) + 1) by rw [ii_lit, ii_add], ii_64 (by omega) (by omega)]
  by_cases c0 : w = 0
  · rw [if_pos c0, if_pos c0]
  · rw [if_neg c0, if_neg c0]
    by_cases c1 : w = 1
    · rw [if_pos c1, if_pos c1]
    · rw [if_neg c1, if_neg c1]
      by_cases c2 : w = 2
      · rw [if_pos c2, if_pos c2]
      · rw [if_neg c2, if_neg c2]
/-- what clock answers: of day d and second r of it -/
def clk (d r : Int) (k : Nat) : Int64 := if k = 0 then jj (yo d) else if k = 1 then jj (mod_ d) else if k = 2 then jj (dod_ d) else if k = 3 then jj (r / 3600) else if k = 4 then jj (r / 60 - r / 60 / 60 * 60) else if k = 5 then jj (r - r / 60 * 60) else if k = 6 then jj ((d + 4) % 7) else jj (d - ys (yo d) + 1)
theorem ek {k : Nat} (hk : k < 8) (m : Nat) (hm : m < 8) : (ii (k : Int) = ii (m : Int)) = (k = m) := by
  rw [ii_eq (by omega) (by omega) (by omega) (by omega)]
  exact propext (by omega)
theorem clock_c {nf : Nat} (hnf : 12 ≤ nf) {v d r : Int} {k : Nat} (hk : k < 8) (v1 : -9223372036854775808 ≤ v) (v2 : v < 9223372036854775808) (c : -1152921504606846975 ≤ v ∧ v ≤ 1152921504606846975) (hd : v / 86400 = d) (hr : v - d * 86400 = r) (r1 : 0 ≤ r) (r2 : r < 86400) (d1 : -20000000000000 ≤ d) (d2 : d ≤ 20000000000000) : f_ZF_clock nf (jj v) (ii (k : Int)) = some (clk d r k) := by
  have b1 := (xgood hk (by omega) nf).1
  have i1 := (cchk nf v1 v2 c).1
  have hf := fd_ok nf v1 v2 (show (0 : Int) < 86400 by omega) (by omega)
  rw [hd] at hf
  have a36 := ii_divp r1 (show r < 2147483648 by omega) (show (0 : Int) < 3600 by omega) (by omega)
  have a60 := ii_divp r1 (show r < 2147483648 by omega) (show (0 : Int) < 60 by omega) (by omega)
  have a6b := ii_divp (show 0 ≤ r / 60 by omega) (show r / 60 < 2147483648 by omega) (show (0 : Int) < 60 by omega) (by omega)
  have z1 := ii_64 (show -2147483648 ≤ r / 3600 by omega) (show r / 3600 < 2147483648 by omega)
  have z2 := ii_64 (show -2147483648 ≤ r / 60 - r / 60 / 60 * 60 by omega) (show r / 60 - r / 60 / 60 * 60 < 2147483648 by omega)
  have z3 := ii_64 (show -2147483648 ≤ r - r / 60 * 60 by omega) (show r - r / 60 * 60 < 2147483648 by omega)
  have z4 := ii_64 (show -2147483648 ≤ (d + 4) % 7 by omega) (show (d + 4) % 7 < 2147483648 by omega)
  have hwd := weekday_ok nf (d := d) (by omega) (by omega)
  have hdt := fun w => dateof_ok hnf d1 d2 w
  unfold f_ZF_clock f_ZF_clock_0
  rw [eight, b1, Option.bind_some, i1, Option.bind_some]
  simp only [jj_lit, hf, Option.bind_some, jj_mul, jj_sub, hr, jj_32]
  rw [hwd, Option.bind_some, hdt, Option.bind_some]
  simp only [show (3600 : Int32) = ii 3600 from rfl, show (60 : Int32) = ii 60 from rfl, a36, a60, a6b, ii_mul, ii_sub, z1, z2, z3, z4]
  rw [show (3 : Int32) = ii ((3 : Nat) : Int) from rfl, show (4 : Int32) = ii ((4 : Nat) : Int) from rfl, show (5 : Int32) = ii ((5 : Nat) : Int) from rfl, show (6 : Int32) = ii ((6 : Nat) : Int) from rfl, show (0 : Int32) = ii ((0 : Nat) : Int) from rfl, show (1 : Int32) = ii ((1 : Nat) : Int) from rfl, show (2 : Int32) = ii ((2 : Nat) : Int) from rfl]
  simp only [ek hk 0 (by omega), ek hk 1 (by omega), ek hk 2 (by omega), ek hk 3 (by omega), ek hk 4 (by omega), ek hk 5 (by omega), ek hk 6 (by omega)]
  unfold clk
  clear hf a36 a60 a6b z1 z2 z3 z4 hwd hdt b1 i1
  rcases (show k = 0 ∨ k = 1 ∨ k = 2 ∨ k = 3 ∨ k = 4 ∨ k = 5 ∨ k = 6 ∨ k = 7 by omega) with rfl | rfl | rfl | rfl | rfl | rfl | rfl | rfl <;> simp
theorem mdays11 (nf : Nat) {y : Int} (h1 : -60000000000 ≤ y) (h2 : y ≤ 60000000000) : f_Mo_days nf (jj y) 1 1 = some (jj (ys y)) := by
  have := mdays_ok nf (y := y) (m := 1) (k := 1) (by omega) (by omega) (by omega) (by omega) (by omega) (by omega)
  rw [show mst 1 (lg y) = 0 from rfl, show ys y + 0 + 1 - 1 = ys y by omega] at this
  exact this
theorem clock_m {nf : Nat} {v d r : Int} {k : Nat} (hk : k < 8) (v1 : -9223372036854775808 ≤ v) (v2 : v < 9223372036854775808) (hd : v / 86400 = d) (hr : v - d * 86400 = r) (r1 : 0 ≤ r) (r2 : r < 86400) (d1 : -20000000000000 ≤ d) (d2 : d ≤ 20000000000000) (si : Nat → Int32) (sj : Nat → Int64) (sa : Nat → Nat → Int32) (sb : Nat → Nat → Int64) :
    f_Mo_clock_27 nf (jj v) (ii (k : Int)) 0 si sj sa sb = some (clk d r k, va_up (va_up (va_up si 3 0) 42 (ii (dod_ d))) 41 (ii (mod_ d)), va_up sj 40 (jj (yo d)), sa, sb) := by
  have hf2 := fl_ok nf v1 v2 (show (0 : Int) < 86400 by omega) (by omega)
  rw [hd] at hf2
  have hy := yo_bounds d1 d2
  obtain ⟨m1, m2, m3, m4⟩ := @dod_spec d
  have hdt := mdate_ok nf d1 d2 (va_up si 3 0) sj sa sb
  unfold clk
  generalize yo d = y at hy hdt ⊢
  generalize mod_ d = m at m1 m2 hdt ⊢
  generalize dod_ d = a at m3 m4 hdt ⊢
  have j36 := jj_divp r1 (show r < 9223372036854775808 by omega) (show (0 : Int) < 3600 by omega) (by omega)
  have j60 := jj_divp r1 (show r < 9223372036854775808 by omega) (show (0 : Int) < 60 by omega) (by omega)
  have j6b := jj_divp (show 0 ≤ r / 60 by omega) (show r / 60 < 9223372036854775808 by omega) (show (0 : Int) < 60 by omega) (by omega)
  have z4 := ii_64 (show -2147483648 ≤ (d + 4) % 7 by omega) (show (d + 4) % 7 < 2147483648 by omega)
  have z5 := ii_64 (show -2147483648 ≤ m by omega) (show m < 2147483648 by omega)
  have z6 := ii_64 (show -2147483648 ≤ a by omega) (show a < 2147483648 by omega)
  have hwd2 := mwday_ok nf (d := d) (by omega) (by omega)
  have hday := mdays11 nf hy.1 hy.2
  generalize ys y = yy at hday ⊢
  unfold f_Mo_clock_27
  rw [if_pos (show (0 : Int32) ≤ 0 by decide)]
  have hf3 : f_Mo_floor nf (jj v) 86400 = some (jj d) := by
    rw [jj_lit]
    exact hf2
  rw [hf3, Option.bind_some, hdt, Option.bind_some]
  dsimp only
  have q40 : va_up sj 40 (jj y) 40 = jj y := vup_eq
  have q41 : va_up (va_up (va_up si 3 0) 42 (ii a)) 41 (ii m) 41 = ii m := vup_eq
  have q42 : va_up (va_up (va_up si 3 0) 42 (ii a)) 41 (ii m) 42 = ii a := by rw [vup_ne (by decide), vup_eq]
  rw [q40, q41, q42]
  generalize va_up (va_up (va_up si 3 0) 42 (ii a)) 41 (ii m) = s1
  generalize va_up sj 40 (jj y) = j1
  rw [hwd2, Option.bind_some, hday, Option.bind_some]
  simp only [jj_lit, jj_mul, jj_sub, hr, j36, j60, j6b, z4, z5, z6, jj_add]
  rw [show (3 : Int32) = ii ((3 : Nat) : Int) from rfl, show (4 : Int32) = ii ((4 : Nat) : Int) from rfl, show (5 : Int32) = ii ((5 : Nat) : Int) from rfl, show (6 : Int32) = ii ((6 : Nat) : Int) from rfl, show (0 : Int32) = ii ((0 : Nat) : Int) from rfl, show (1 : Int32) = ii ((1 : Nat) : Int) from rfl, show (2 : Int32) = ii ((2 : Nat) : Int) from rfl]
  simp only [ek hk 0 (by omega), ek hk 1 (by omega), ek hk 2 (by omega), ek hk 3 (by omega), ek hk 4 (by omega), ek hk 5 (by omega), ek hk 6 (by omega)]
  clear hf2 j36 j60 j6b z4 z5 z6 hwd2 hday hdt q40 q41 q42
  rcases (show k = 0 ∨ k = 1 ∨ k = 2 ∨ k = 3 ∨ k = 4 ∨ k = 5 ∨ k = 6 ∨ k = 7 by omega) with rfl | rfl | rfl | rfl | rfl | rfl | rfl | rfl <;> simp
theorem st_clock {nf : Nat} (hnf : 100 ≤ nf) (S : CS) (M : MS) (p0 : Int64) (p1 : Int32) (h : RR S M) : STWj nf RR S (cq_clock nf S p0 p1) (f_Mo_clock nf p0 p1 M.1 M.2.1 M.2.2.1 M.2.2.2) := by
  obtain ⟨si, sj, sa, sb⟩ := M
  obtain ⟨v, rfl, v1, v2⟩ := jj_all p0
  dsimp only
  rcases xcase p1 (n := 8) (by omega) with ⟨k, hk, rfl⟩ | ⟨hx, hx2⟩
  · obtain ⟨b1, b2, b3, b4, b5, b6⟩ := xgood hk (by omega) nf
    have b7 : ii (k : Int) ≤ 7 := by rw [ii_lit, ii_le (by omega) (by omega) (by omega) (by omega)]; omega
    by_cases c : -1152921504606846975 ≤ v ∧ v ≤ 1152921504606846975
    · have hC := clock_c (nf := nf) (by omega) hk v1 v2 c rfl rfl (by omega) (by omega) (by omega) (by omega)
      have hM := clock_m (nf := nf) hk v1 v2 rfl rfl (by omega) (by omega) (by omega) (by omega) si sj sa sb
      generalize v / 86400 = d at hC hM
      generalize v - d * 86400 = r at hC hM
      generalize clk d r k = w at hC hM
      refine ⟨0, w, S, 0, 0, w, (va_up (va_up (va_up si 3 0) 42 (ii (dod_ d))) 41 (ii (mod_ d)), va_up sj 40 (jj (yo d)), sa, sb), ?_, ?_, ?_, fun _ => rfl, ?_, by omega, by omega⟩
      · unfold cq_clock
        rw [hC]
      · unfold f_Mo_clock f_Mo_clock_0
        rw [if_neg b3, if_pos b7, (cinst nf v1 v2).2, if_pos c, Option.bind_some, if_neg (by decide)]
        exact hM
      · rw [thr_ok]
        show some (va_up (va_up (va_up si 3 0) 42 (ii (dod_ d))) 41 (ii (mod_ d)) 3) = some 0
        rw [vup_ne (by decide), vup_ne (by decide), vup_eq]
      · refine h.scr (fun j hj => ?_) ?_
        · unfold kI at hj
          rw [vup_ne (by omega), vup_ne (by omega), vup_ne (by omega)]
        · rw [vup_ne (by decide)]
    · obtain ⟨i1, i2⟩ := cchkN nf v1 v2 c
      refine noJ h 2 (by decide) ?_ ?_
      · unfold cq_clock f_ZF_clock f_ZF_clock_0 g_ZF_clock g_ZF_clock_0
        rw [eight, b1, b2, Option.bind_some, Option.bind_some, i1, i2]
        rfl
      · unfold f_Mo_clock f_Mo_clock_0
        rw [if_neg b3, if_pos b7, (cinst nf v1 v2).2, if_neg c, Option.bind_some, if_pos rfl]
        unfold f_Mo_clock_27
        rw [if_neg (by decide)]
  · refine noJ h 1 (by decide) ?_ ?_
    · unfold cq_clock f_ZF_clock f_ZF_clock_0 g_ZF_clock g_ZF_clock_0
      rw [eight, (hx nf).1, (hx nf).2]
      rfl
    · have e27 : f_Mo_clock_27 nf (jj v) p1 1 si sj sa sb = some (0, va_up si 3 1, sj, sa, sb) := by
        unfold f_Mo_clock_27
        rw [if_neg (by decide)]
      unfold f_Mo_clock f_Mo_clock_0 f_Mo_clock_11
      rw [e27]
      rcases hx2 with hx2 | ⟨hx2, hx4, hx3⟩
      · rw [if_pos hx2]
      · have b7 : ¬ p1 ≤ 7 := by
          obtain ⟨u, rfl, u1, u2⟩ := ii_all p1
          rw [ii_le (by omega) (by omega) u1 u2] at hx4
          rw [ii_lit, ii_le u1 u2 (by omega) (by omega)]
          omega
        rw [if_neg hx2, if_neg b7]
