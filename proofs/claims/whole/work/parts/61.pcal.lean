/-! ===== the calendar, in whole numbers ===== -/
def ys (y : Int) : Int := 365 * (y - 1970) + ((y - 1) / 4 - (y - 1) / 100 + (y - 1) / 400) - 477
def lg (y : Int) : Int := if y % 4 = 0 ∧ (y % 100 ≠ 0 ∨ y % 400 = 0) then 1 else 0
theorem lg_01 (y : Int) : lg y = 0 ∨ lg y = 1 := by
  unfold lg
  by_cases h : y % 4 = 0 ∧ (y % 100 ≠ 0 ∨ y % 400 = 0)
  · rw [if_pos h]; exact Or.inr rfl
  · rw [if_neg h]; exact Or.inl rfl
theorem ys_succ (y : Int) : ys (y + 1) = ys y + 365 + lg y := by
  unfold ys lg
  by_cases h : y % 4 = 0 ∧ (y % 100 ≠ 0 ∨ y % 400 = 0)
  · rw [if_pos h]; omega
  · rw [if_neg h]; omega
theorem ys_cycle (y c : Int) : ys (400 * c + y) = 146097 * c + ys y := by
  unfold ys
  omega
theorem lg_cycle (y c : Int) : lg (400 * c + y) = lg y := by
  unfold lg
  have h1 : (400 * c + y) % 4 = y % 4 := by omega
  have h2 : (400 * c + y) % 100 = y % 100 := by omega
  have h3 : (400 * c + y) % 400 = y % 400 := by omega
  rw [h1, h2, h3]
theorem ys_mono {a b : Int} (h : a ≤ b) : ys a + 365 * (b - a) ≤ ys b := by
  unfold ys
  omega
theorem ys_mono2 {a b : Int} (h : a ≤ b) : ys b ≤ ys a + 366 * (b - a) := by
  unfold ys
  omega
def yo (d : Int) : Int := if ys (400 * ((d + 719528) / 146097) + (d + 719528 - (d + 719528) / 146097 * 146097) / 365) ≤ d then 400 * ((d + 719528) / 146097) + (d + 719528 - (d + 719528) / 146097 * 146097) / 365 else 400 * ((d + 719528) / 146097) + (d + 719528 - (d + 719528) / 146097 * 146097) / 365 - 1
theorem yo_spec (d : Int) : ys (yo d) ≤ d ∧ d < ys (yo d + 1) := by
  have hc : ∃ c r : Int, (d + 719528) / 146097 = c ∧ d + 719528 - c * 146097 = r ∧ 0 ≤ r ∧ r < 146097 := ⟨_, _, rfl, rfl, by omega, by omega⟩
  obtain ⟨c, r, e1, e2, h1, h2⟩ := hc
  have hq : ∃ q s : Int, r / 365 = q ∧ r = 365 * q + s ∧ 0 ≤ s ∧ s < 365 ∧ 0 ≤ q ∧ q ≤ 400 := ⟨r / 365, r - 365 * (r / 365), rfl, by omega, by omega, by omega, by omega, by omega⟩
  obtain ⟨q, s, e3, e4, h3, h4, h5, h6⟩ := hq
  unfold yo
  rw [e1, e2, e3]
  have k0 := ys_cycle q c
  have k1 := ys_cycle (q - 1) c
  have k2 := ys_cycle (q + 1) c
  rw [show 400 * c + (q - 1) = 400 * c + q - 1 by omega] at k1
  rw [show 400 * c + (q + 1) = 400 * c + q + 1 by omega] at k2
  have g0 : ys q = 365 * (q - 1970) + ((q - 1) / 4 - (q - 1) / 100 + (q - 1) / 400) - 477 := rfl
  have g1 : ys (q - 1) = 365 * (q - 1 - 1970) + ((q - 1 - 1) / 4 - (q - 1 - 1) / 100 + (q - 1 - 1) / 400) - 477 := rfl
  have g2 : ys (q + 1) = 365 * (q + 1 - 1970) + ((q + 1 - 1) / 4 - (q + 1 - 1) / 100 + (q + 1 - 1) / 400) - 477 := rfl
  by_cases h : ys (400 * c + q) ≤ d
  · rw [if_pos h]
    exact ⟨h, by rw [k2]; omega⟩
  · rw [if_neg h, Int.sub_add_cancel, k1]
    exact ⟨by omega, by omega⟩
theorem yo_uniq {d y : Int} (h1 : ys y ≤ d) (h2 : d < ys (y + 1)) : yo d = y := by
  obtain ⟨g1, g2⟩ := yo_spec d
  by_cases h : yo d < y
  · have := ys_mono (show yo d + 1 ≤ y by omega)
    omega
  · by_cases h' : y < yo d
    · have := ys_mono (show y + 1 ≤ yo d by omega)
      omega
    · omega
theorem yo_bounds {d : Int} (h1 : -20000000000000 ≤ d) (h2 : d ≤ 20000000000000) : -60000000000 ≤ yo d ∧ yo d ≤ 60000000000 := by
  obtain ⟨g1, g2⟩ := yo_spec d
  constructor
  · by_cases h : -60000000000 ≤ yo d
    · exact h
    · have := ys_mono (show yo d + 1 ≤ -60000000000 by omega)
      have e : ys (-60000000000) = -21914550719528 := by decide
      omega
  · by_cases h : yo d ≤ 60000000000
    · exact h
    · have := ys_mono (show 60000000000 ≤ yo d by omega)
      have e : ys 60000000000 = 21914549280472 := by decide
      omega
theorem ys_bounds {y : Int} (h1 : -100000000000 ≤ y) (h2 : y ≤ 100000000000) : -40000000000000 ≤ ys y ∧ ys y ≤ 40000000000000 := by
  unfold ys
  omega
/-! the class -/
theorem ystart_ok (nf : Nat) {y : Int} (h1 : -100000000000 ≤ y) (h2 : y ≤ 100000000000) : f_Cal_yearStart nf (jj y) = some (jj (ys y)) := by
  unfold f_Cal_yearStart f_Cal_yearStart_0
  simp only [jj_lit, jj_sub, fd_ok nf (show -9223372036854775808 ≤ y - 1 by omega) (show y - 1 < 9223372036854775808 by omega) (show (0 : Int) < 4 by omega) (by omega), fd_ok nf (show -9223372036854775808 ≤ y - 1 by omega) (show y - 1 < 9223372036854775808 by omega) (show (0 : Int) < 100 by omega) (by omega), fd_ok nf (show -9223372036854775808 ≤ y - 1 by omega) (show y - 1 < 9223372036854775808 by omega) (show (0 : Int) < 400 by omega) (by omega), Option.bind_some, jj_mul, jj_add]
  rfl
theorem tm0 {a b : Int} (hb : 0 < b) : a - a.tdiv b * b = 0 ↔ a % b = 0 := by
  have e := @Int.tdiv_eq_ediv a b
  constructor
  · intro h
    exact Int.emod_eq_zero_of_dvd ⟨a.tdiv b, by rw [Int.mul_comm]; omega⟩
  · intro h
    rw [Int.tdiv_mul_cancel (Int.dvd_of_emod_eq_zero h)]
    omega
theorem jm0 {a b : Int} (h1 : -4611686018427387904 ≤ a) (h2 : a < 4611686018427387904) (h3 : 0 < b) (h4 : b < 1000000) : (jj a - jj a / jj b * jj b = jj 0) ↔ a % b = 0 := by
  rw [jj_div (by omega) (by omega) h3 (by omega), jj_mul, jj_sub, ← tm0 h3]
  have e := Int.tmod_add_mul_tdiv a b
  have l1 := Int.tmod_lt_of_pos a h3
  have l2 := Int.lt_tmod_of_pos a h3
  have e2 : a.tdiv b * b = b * a.tdiv b := Int.mul_comm _ _
  rw [jj_eq (by omega) (by omega) (by omega) (by omega)]
theorem islong_ok (nf : Nat) {y : Int} (h1 : -100000000000 ≤ y) (h2 : y ≤ 100000000000) : f_Cal_isLongYear nf (jj y) = some (ii (lg y)) := by
  have e4 := jm0 (a := y) (b := 4) (by omega) (by omega) (by omega) (by omega)
  have e1 := jm0 (a := y) (b := 100) (by omega) (by omega) (by omega) (by omega)
  have e0 := jm0 (a := y) (b := 400) (by omega) (by omega) (by omega) (by omega)
  unfold f_Cal_isLongYear f_Cal_isLongYear_0 f_Cal_isLongYear_30 f_Cal_isLongYear_34 f_Cal_isLongYear_35
  simp only [jj_lit, e4, e1, e0]
  unfold lg
  by_cases k4 : y % 4 = 0
  · by_cases k1 : y % 100 = 0
    · by_cases k0 : y % 400 = 0
      · simp [k4, k1, k0]; decide
      · simp [k4, k1, k0]; decide
    · simp [k4, k1]; decide
  · simp [k4]; decide
theorem yearof_ok (nf : Nat) {d : Int} (h1 : -20000000000000 ≤ d) (h2 : d ≤ 20000000000000) : f_Cal_yearOf nf (jj d) = some (jj (yo d)) := by
  unfold f_Cal_yearOf f_Cal_yearOf_0 f_Cal_yearOf_55
  have hc : -200000000 ≤ (d + 719528) / 146097 ∧ (d + 719528) / 146097 ≤ 200000000 := by omega
  have hr : 0 ≤ d + 719528 - (d + 719528) / 146097 * 146097 ∧ d + 719528 - (d + 719528) / 146097 * 146097 < 146097 := by omega
  have hy := ystart_ok nf (y := 400 * ((d + 719528) / 146097) + (d + 719528 - (d + 719528) / 146097 * 146097) / 365) (by omega) (by omega)
  have hb := ys_bounds (y := 400 * ((d + 719528) / 146097) + (d + 719528 - (d + 719528) / 146097 * 146097) / 365) (by omega) (by omega)
  simp only [jj_lit, jj_neg, jj_sub, Int.sub_neg, fd_ok nf (show -9223372036854775808 ≤ d + 719528 by omega) (show d + 719528 < 9223372036854775808 by omega) (show (0 : Int) < 146097 by omega) (by omega), Option.bind_some, jj_mul, jj_add, jj_divp hr.1 (by omega) (show (0 : Int) < 365 by omega) (by omega), hy, jj_le (show -9223372036854775808 ≤ ys (400 * ((d + 719528) / 146097) + (d + 719528 - (d + 719528) / 146097 * 146097) / 365) by omega) (by omega) (show -9223372036854775808 ≤ d by omega) (by omega)]
  unfold yo
  by_cases h : ys (400 * ((d + 719528) / 146097) + (d + 719528 - (d + 719528) / 146097 * 146097) / 365) ≤ d
  · rw [if_pos h, if_pos h]
  · rw [if_neg h, if_neg h]
/-- days of the year ahead of month m (1 .. 13) -/
def mst (m g : Int) : Int := (match m.toNat with | 1 => 0 | 2 => 31 | 3 => 59 | 4 => 90 | 5 => 120 | 6 => 151 | 7 => 181 | 8 => 212 | 9 => 243 | 10 => 273 | 11 => 304 | 12 => 334 | _ => 365) + if m ≤ 2 then 0 else g
theorem m13 {m : Int} (h1 : 1 ≤ m) (h2 : m ≤ 13) : m = 1 ∨ m = 2 ∨ m = 3 ∨ m = 4 ∨ m = 5 ∨ m = 6 ∨ m = 7 ∨ m = 8 ∨ m = 9 ∨ m = 10 ∨ m = 11 ∨ m = 12 ∨ m = 13 := by omega
theorem mst_ok (nf : Nat) {m g : Int} (h1 : 1 ≤ m) (h2 : m ≤ 13) (hg : g = 0 ∨ g = 1) : f_Cal_monthStart nf (ii m) (ii g) = some (ii (mst m g)) := by
  rcases hg with rfl | rfl <;> rcases m13 h1 h2 with rfl | rfl | rfl | rfl | rfl | rfl | rfl | rfl | rfl | rfl | rfl | rfl | rfl <;> rfl
theorem mst_bounds (m g : Int) (hg : g = 0 ∨ g = 1) : 0 ≤ mst m g ∧ mst m g ≤ 366 := by
  unfold mst
  split <;> (split <;> omega)
theorem mst_step {m g : Int} (h1 : 1 ≤ m) (h2 : m ≤ 12) (hg : g = 0 ∨ g = 1) : mst m g + 28 ≤ mst (m + 1) g ∧ mst (m + 1) g ≤ mst m g + 31 := by
  rcases hg with rfl | rfl <;> rcases m13 h1 (by omega) with rfl | rfl | rfl | rfl | rfl | rfl | rfl | rfl | rfl | rfl | rfl | rfl | rfl <;> first | decide | omega
def moq : Nat → Int → Int → Int
  | 0, _, _ => 1
  | n + 1, q, g => if mst ((n : Int) + 2) g ≤ q then (n : Int) + 2 else moq n q g
def mo (q g : Int) : Int := moq 11 q g
theorem monthof_lp (nf : Nat) {q g : Int} (h1 : -1000 ≤ q) (h2 : q ≤ 1000) (hg : g = 0 ∨ g = 1) : ∀ (n fu : Nat), n ≤ 11 → n < fu → f_Cal_monthOf_5 nf fu (ii (11 - (n : Int))) (ii ((n : Int) + 1)) (ii q) (ii g) = some (ii (moq n q g)) := by
  intro n
  induction n with
  | zero =>
    intro fu hn hf
    obtain ⟨k, rfl⟩ : ∃ k, fu = k + 1 := ⟨fu - 1, by omega⟩
    rw [f_Cal_monthOf_5, if_pos (by decide)]
    rfl
  | succ n ih =>
    intro fu hn hf
    obtain ⟨k, rfl⟩ : ∃ k, fu = k + 1 := ⟨fu - 1, by omega⟩
    have hb := mst_bounds ((n : Int) + 2) g hg
    rw [f_Cal_monthOf_5, ii_lit, if_neg (by rw [ii_le (by omega) (by omega) (by omega) (by omega)]; omega), show ((n + 1 : Nat) : Int) + 1 = (n : Int) + 2 by omega, mst_ok nf (by omega) (by omega) hg, Option.bind_some]
    unfold moq
    by_cases h : mst ((n : Int) + 2) g ≤ q
    · rw [if_pos h, if_pos ((ii_le (by omega) (by omega) (by omega) (by omega)).mpr h)]
      rfl
    · rw [if_neg h, if_neg (fun z => h ((ii_le (by omega) (by omega) (by omega) (by omega)).mp z))]
      have := ih k (by omega) (by omega)
      rw [ii_lit, ii_neg, ii_add, ii_add]
      rw [← this]
      congr 2 <;> omega
theorem monthof_ok {nf : Nat} (hnf : 12 ≤ nf) {q g : Int} (h1 : -1000 ≤ q) (h2 : q ≤ 1000) (hg : g = 0 ∨ g = 1) : f_Cal_monthOf nf (ii q) (ii g) = some (ii (mo q g)) :=
  monthof_lp nf h1 h2 hg 11 nf (by omega) (by omega)
theorem moq_spec {q g : Int} (hg : g = 0 ∨ g = 1) (h0 : 0 ≤ q) : ∀ n : Nat, n ≤ 11 → q < mst ((n : Int) + 2) g → 1 ≤ moq n q g ∧ moq n q g ≤ (n : Int) + 1 ∧ mst (moq n q g) g ≤ q ∧ q < mst (moq n q g + 1) g := by
  intro n
  induction n with
  | zero =>
    intro _ h
    refine ⟨by show (1 : Int) ≤ 1; decide, by show (1 : Int) ≤ _; omega, ?_, h⟩
    rcases hg with rfl | rfl <;> exact h0
  | succ n ih =>
    intro hn h
    unfold moq
    by_cases k : mst ((n : Int) + 2) g ≤ q
    · rw [if_pos k]
      refine ⟨by omega, by omega, k, ?_⟩
      rw [show ((n + 1 : Nat) : Int) + 2 = (n : Int) + 2 + 1 by omega] at h
      exact h
    · rw [if_neg k]
      obtain ⟨g1, g2, g3, g4⟩ := ih (by omega) (by omega)
      exact ⟨g1, by omega, g3, g4⟩
theorem mo_spec {q g : Int} (hg : g = 0 ∨ g = 1) (h0 : 0 ≤ q) (h1 : q < 365 + g) : 1 ≤ mo q g ∧ mo q g ≤ 12 ∧ mst (mo q g) g ≤ q ∧ q < mst (mo q g + 1) g := by
  have := moq_spec hg h0 11 (by omega) (by rcases hg with rfl | rfl <;> exact h1)
  exact ⟨this.1, by have := this.2.1; show moq 11 q g ≤ 12; omega, this.2.2⟩
theorem mst_mono {a b g : Int} (hg : g = 0 ∨ g = 1) (h1 : 1 ≤ a) (h : a < b) (h2 : b ≤ 13) : mst (a + 1) g ≤ mst b g := by
  obtain ⟨k, hk⟩ : ∃ k : Nat, b = a + 1 + k := ⟨(b - a - 1).toNat, by omega⟩
  subst hk
  induction k with
  | zero => simp
  | succ k ih =>
    have g1 := ih (by omega) (by omega)
    have g2 := mst_step (m := a + 1 + (k : Int)) (g := g) (by omega) (by omega) hg
    rw [show a + 1 + ((k + 1 : Nat) : Int) = a + 1 + (k : Int) + 1 by omega]
    omega
theorem mo_uniq {q g m : Int} (hg : g = 0 ∨ g = 1) (h0 : 0 ≤ q) (h1 : q < 365 + g) (m1 : 1 ≤ m) (m2 : m ≤ 12) (k1 : mst m g ≤ q) (k2 : q < mst (m + 1) g) : mo q g = m := by
  obtain ⟨g1, g2, g3, g4⟩ := mo_spec hg h0 h1
  by_cases h : mo q g < m
  · have := mst_mono hg g1 h (by omega)
    omega
  · by_cases h' : m < mo q g
    · have := mst_mono hg m1 h' (by omega)
      omega
    · omega
theorem weekday_ok (nf : Nat) {d : Int} (h1 : -40000000000000 ≤ d) (h2 : d ≤ 40000000000000) : f_Cal_weekday nf (jj d) = some (ii ((d + 4) % 7)) := by
  unfold f_Cal_weekday f_Cal_weekday_0
  simp only [jj_lit, jj_add, fm_ok nf (show -9223372036854775808 ≤ d + 4 by omega) (show d + 4 < 9223372036854775808 by omega) (show (0 : Int) < 7 by omega) (by omega), Option.bind_some, jj_32]
/-! the reference -/
theorem mwday_ok (nf : Nat) {d : Int} (h1 : -40000000000000 ≤ d) (h2 : d ≤ 40000000000000) : f_Mo_weekday nf (jj d) = some (ii ((d + 4) % 7)) := by
  unfold f_Mo_weekday f_Mo_weekday_0
  simp only [jj_lit, jj_add, fl_ok nf (show -9223372036854775808 ≤ d + 4 by omega) (show d + 4 < 9223372036854775808 by omega) (show (0 : Int) < 7 by omega) (by omega), Option.bind_some, jj_mul, jj_sub, jj_32]
  congr 2
  omega
theorem mlong_ok (nf : Nat) {y : Int} (h1 : -100000000000 ≤ y) (h2 : y ≤ 100000000000) : f_Mo_isLong nf (jj y) = some (ii (lg y)) := by
  unfold f_Mo_isLong f_Mo_isLong_0 f_Mo_isLong_48 f_Mo_isLong_52 f_Mo_isLong_53
  simp only [jj_lit, fl_ok nf (show -9223372036854775808 ≤ y by omega) (show y < 9223372036854775808 by omega) (show (0 : Int) < 4 by omega) (by omega), fl_ok nf (show -9223372036854775808 ≤ y by omega) (show y < 9223372036854775808 by omega) (show (0 : Int) < 100 by omega) (by omega), fl_ok nf (show -9223372036854775808 ≤ y by omega) (show y < 9223372036854775808 by omega) (show (0 : Int) < 400 by omega) (by omega), Option.bind_some, jj_mul, jj_eq (show -9223372036854775808 ≤ y / 4 * 4 by omega) (by omega) (show -9223372036854775808 ≤ y by omega) (by omega), jj_eq (show -9223372036854775808 ≤ y / 100 * 100 by omega) (by omega) (show -9223372036854775808 ≤ y by omega) (by omega), jj_eq (show -9223372036854775808 ≤ y / 400 * 400 by omega) (by omega) (show -9223372036854775808 ≤ y by omega) (by omega)]
  unfold lg
  by_cases k4 : y % 4 = 0
  · rw [if_pos (show y / 4 * 4 = y by omega)]
    by_cases k1 : y % 100 = 0
    · rw [if_pos (show y / 100 * 100 = y by omega)]
      by_cases k0 : y % 400 = 0
      · rw [if_pos (show y / 400 * 400 = y by omega), if_pos (by decide), if_pos ⟨k4, Or.inr k0⟩]; rfl
      · rw [if_neg (show ¬ y / 400 * 400 = y by omega), if_pos (by decide), if_neg (by omega)]; rfl
    · rw [if_neg (show ¬ y / 100 * 100 = y by omega), if_pos (by decide), if_pos ⟨k4, Or.inl k1⟩]; rfl
  · rw [if_neg (show ¬ y / 4 * 4 = y by omega), if_pos (by decide), if_neg (by omega)]; rfl
theorem mlength_ok (nf : Nat) {y m : Int} (h1 : -100000000000 ≤ y) (h2 : y ≤ 100000000000) (m1 : 1 ≤ m) (m2 : m ≤ 12) : f_Mo_length nf (jj y) (ii m) = some (ii (mst (m + 1) (lg y) - mst m (lg y))) := by
  have hl := mlong_ok nf h1 h2
  unfold f_Mo_length f_Mo_length_0 f_Mo_length_45 f_Mo_length_52
  rw [hl, Option.bind_some]
  rcases lg_01 y with e | e <;> rw [e] <;> rcases m13 m1 (by omega) with rfl | rfl | rfl | rfl | rfl | rfl | rfl | rfl | rfl | rfl | rfl | rfl | rfl <;> first | rfl | omega
/-- the reference's count of days -/
theorem mdays_ok (nf : Nat) {y m k : Int} (h1 : -100000000000 ≤ y) (h2 : y ≤ 100000000000) (m1 : 1 ≤ m) (m2 : m ≤ 12) (k1 : -1000 ≤ k) (k2 : k ≤ 1000) : f_Mo_days nf (jj y) (ii m) (ii k) = some (jj (ys y + mst m (lg y) + k - 1)) := by
  unfold f_Mo_days f_Mo_days_0 f_Mo_days_12 f_Mo_days_53
  by_cases hm : m ≤ 2
  · have hf := fl_ok nf (show -9223372036854775808 ≤ y - 1 by omega) (show y - 1 < 9223372036854775808 by omega) (show (0 : Int) < 400 by omega) (by omega)
    have hc : ∃ c r : Int, (y - 1) / 400 = c ∧ y - 1 - c * 400 = r ∧ 0 ≤ r ∧ r < 400 ∧ -300000000 ≤ c ∧ c ≤ 300000000 := ⟨_, _, rfl, rfl, by omega, by omega, by omega, by omega⟩
    obtain ⟨c, r, e1, e2, r1, r2, c1, c2⟩ := hc
    rw [e1] at hf
    have hy : ys y = 146097 * c + 365 * r + r / 4 - r / 100 + 306 - 719468 := by
      have : y = 400 * c + (r + 1) := by omega
      rw [this, ys_cycle]
      unfold ys
      omega
    have hd1 := jj_divp r1 (show r < 9223372036854775808 by omega) (show (0 : Int) < 4 by omega) (by omega)
    have hd2 := jj_divp r1 (show r < 9223372036854775808 by omega) (show (0 : Int) < 100 by omega) (by omega)
    have hd3 := jj_divp (show 0 ≤ 153 * (m + 9) + 2 by omega) (show 153 * (m + 9) + 2 < 9223372036854775808 by omega) (show (0 : Int) < 5 by omega) (by omega)
    have hi : (ii m + 9).toInt64 = jj (m + 9) := by rw [ii_lit, ii_add, ii_64 (by omega) (by omega)]
    have hk := ii_64 (show -2147483648 ≤ k by omega) (by omega)
    rw [if_neg (by rw [ii_lit, ii_lt (by omega) (by omega) (by omega) (by omega)]; omega)]
    simp only [jj_lit, jj_sub, hf, Option.bind_some]
    rw [if_pos (by rw [ii_lit, ii_le (by omega) (by omega) (by omega) (by omega)]; omega)]
    simp only [jj_lit, hi, hk, jj_sub, jj_mul, jj_add, e2, hd1, hd2, hd3]
    rw [hy]
    congr 2
    rcases (show m = 1 ∨ m = 2 by omega) with rfl | rfl
    · rw [show mst 1 (lg y) = 0 from rfl]; omega
    · rw [show mst 2 (lg y) = 31 from rfl]; omega
  · have hf := fl_ok nf (show -9223372036854775808 ≤ y by omega) (show y < 9223372036854775808 by omega) (show (0 : Int) < 400 by omega) (by omega)
    have hc : ∃ c r : Int, y / 400 = c ∧ y - c * 400 = r ∧ 0 ≤ r ∧ r < 400 ∧ -300000000 ≤ c ∧ c ≤ 300000000 := ⟨_, _, rfl, rfl, by omega, by omega, by omega, by omega⟩
    obtain ⟨c, r, e1, e2, r1, r2, c1, c2⟩ := hc
    rw [e1] at hf
    have hy : ys y + lg y = 146097 * c + 365 * r + r / 4 - r / 100 - 59 - 719468 := by
      have : y = 400 * c + r := by omega
      rw [this, ys_cycle, lg_cycle]
      unfold ys lg
      by_cases h : r % 4 = 0 ∧ (r % 100 ≠ 0 ∨ r % 400 = 0)
      · rw [if_pos h]; omega
      · rw [if_neg h]; omega
    have hd1 := jj_divp r1 (show r < 9223372036854775808 by omega) (show (0 : Int) < 4 by omega) (by omega)
    have hd2 := jj_divp r1 (show r < 9223372036854775808 by omega) (show (0 : Int) < 100 by omega) (by omega)
    have hd3 := jj_divp (show 0 ≤ 153 * (m - 3) + 2 by omega) (show 153 * (m - 3) + 2 < 9223372036854775808 by omega) (show (0 : Int) < 5 by omega) (by omega)
    have hi : (ii m - 3).toInt64 = jj (m - 3) := by rw [ii_lit, ii_sub, ii_64 (by omega) (by omega)]
    have hk := ii_64 (show -2147483648 ≤ k by omega) (by omega)
    rw [if_pos (by rw [ii_lit, ii_lt (by omega) (by omega) (by omega) (by omega)]; omega)]
    simp only [jj_lit, hf, Option.bind_some]
    rw [if_neg (by rw [ii_lit, ii_le (by omega) (by omega) (by omega) (by omega)]; omega)]
    simp only [jj_lit, hi, hk, jj_sub, jj_mul, jj_add, e2, hd1, hd2, hd3]
    congr 2
    have hm' : mst m (lg y) = (153 * (m - 3) + 2) / 5 + 59 + lg y := by
      rcases lg_01 y with e | e <;> rw [e] <;> rcases m13 m1 (by omega) with rfl | rfl | rfl | rfl | rfl | rfl | rfl | rfl | rfl | rfl | rfl | rfl | rfl <;> first | rfl | omega
    omega
