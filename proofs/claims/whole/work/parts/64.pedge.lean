/-! ===== edges: the day of a rule in a year, the moment ===== -/
/-- kind (0: J, 1: a number, 2: M), its numbers, its time, the clock's offset -/
abbrev ET : Type := Int × Int × Int × Int × Int × Int
def EOK (e : ET) : Prop := (e.1 = 0 ∧ 1 ≤ e.2.1 ∧ e.2.1 ≤ 365 ∨ e.1 = 1 ∧ 0 ≤ e.2.1 ∧ e.2.1 ≤ 365 ∨ e.1 = 2 ∧ 1 ≤ e.2.1 ∧ e.2.1 ≤ 12 ∧ 1 ≤ e.2.2.1 ∧ e.2.2.1 ≤ 5 ∧ 0 ≤ e.2.2.2.1 ∧ e.2.2.2.1 ≤ 6) ∧ -700000 ≤ e.2.2.2.2.1 ∧ e.2.2.2.2.1 ≤ 700000 ∧ -100000 ≤ e.2.2.2.2.2 ∧ e.2.2.2.2.2 ≤ 100000
def wkd (a b c y : Int) : Int := (c - (ys y + mst a (lg y) + 4) % 7 + 7) % 7 + 7 * (b - 1)
def dyi (k a b c y : Int) : Int := if k = 1 then a else if k = 0 then (if lg y = 0 then a - 1 else if a ≤ 59 then a - 1 else a) else
  (if mst (a + 1) (lg y) - mst a (lg y) ≤ wkd a b c y then wkd a b c y - 7 else wkd a b c y) + mst a (lg y)
theorem dyi_J (a b c y : Int) : dyi 0 a b c y = if lg y = 0 then a - 1 else if a ≤ 59 then a - 1 else a := by
  unfold dyi
  rw [if_neg (by decide), if_pos rfl]
theorem dyi_N (a b c y : Int) : dyi 1 a b c y = a := by
  unfold dyi
  rw [if_pos rfl]
theorem dyi_M (a b c y : Int) : dyi 2 a b c y = (if mst (a + 1) (lg y) - mst a (lg y) ≤ wkd a b c y then wkd a b c y - 7 else wkd a b c y) + mst a (lg y) := by
  unfold dyi
  rw [if_neg (by decide), if_neg (by decide)]
def ev (e : ET) (y : Int) : Int := (ys y + dyi e.1 e.2.1 e.2.2.1 e.2.2.2.1 y) * 86400 + e.2.2.2.2.1 - e.2.2.2.2.2
def REc (k m w d t c : Int32) (e : ET) : Prop := k = ii e.1 ∧ t = ii e.2.2.2.2.1 ∧ c = ii e.2.2.2.2.2 ∧ (e.1 = 2 → m = ii e.2.1 ∧ w = ii e.2.2.1 ∧ d = ii e.2.2.2.1) ∧ (e.1 ≠ 2 → d = ii e.2.1)
def REm (sa : Nat → Nat → Int32) (j : Nat) (e : ET) : Prop := sa 27 j = (if e.1 = 0 then 74 else if e.1 = 1 then 0 else 77) ∧ sa 28 j = ii e.2.1 ∧ (e.1 = 2 → sa 29 j = ii e.2.2.1 ∧ sa 30 j = ii e.2.2.2.1) ∧ sa 31 j = ii e.2.2.2.2.1 ∧ sa 24 j = ii e.2.2.2.2.2
theorem ys_b9 {y : Int} (h1 : -90000000000 ≤ y) (h2 : y ≤ 90000000000) : -39000000000000 ≤ ys y ∧ ys y ≤ 39000000000000 := by
  unfold ys
  omega
theorem wkd_bounds {a b c y : Int} (h1 : 1 ≤ b) (h2 : b ≤ 5) : 0 ≤ wkd a b c y ∧ wkd a b c y ≤ 34 := by
  unfold wkd
  omega
theorem dyi_bounds {e : ET} (h : EOK e) (y : Int) : 0 ≤ dyi e.1 e.2.1 e.2.2.1 e.2.2.2.1 y ∧ dyi e.1 e.2.1 e.2.2.1 e.2.2.2.1 y ≤ 366 := by
  obtain ⟨k, a, b, c, t, o⟩ := e
  obtain ⟨h, _⟩ := h
  dsimp only at h ⊢
  rcases h with ⟨rfl, h1, h2⟩ | ⟨rfl, h1, h2⟩ | ⟨rfl, h1, h2, h3, h4, h5, h6⟩
  · rw [dyi_J]
    split
    · omega
    · split <;> omega
  · rw [dyi_N]; omega
  · rw [dyi_M]
    have hw := wkd_bounds (a := a) (c := c) (y := y) h3 h4
    have hl := lg_01 y
    have hm := mst_step h1 h2 hl
    have hb := mst_bounds (a + 1) (lg y) hl
    have hb0 := mst_bounds a (lg y) hl
    split <;> omega
theorem dayin_ok (nf : Nat) {k m w d t c : Int32} {e : ET} (hc : REc k m w d t c e) (h : EOK e) {y : Int} (h1 : -90000000000 ≤ y) (h2 : y ≤ 90000000000) : f_Edge_dayIn nf (jj y) (jj (ys y)) k m w d = some (ii (dyi e.1 e.2.1 e.2.2.1 e.2.2.2.1 y)) := by
  obtain ⟨kk, a, b, cc, tt, oo⟩ := e
  obtain ⟨e1, e2, e3, e4, e5⟩ := hc
  obtain ⟨h, _⟩ := h
  dsimp only at *
  have hl := lg_01 y
  have hL := islong_ok nf (show -100000000000 ≤ y by omega) (by omega)
  unfold f_Edge_dayIn f_Edge_dayIn_0 f_Edge_dayIn_47 f_Edge_dayIn_53 f_Edge_dayIn_143
  rcases h with ⟨rfl, g1, g2⟩ | ⟨rfl, g1, g2⟩ | ⟨rfl, g1, g2, g3, g4, g5, g6⟩
  · have ed := e5 (by decide)
    rw [dyi_J, e1, ed, hL, if_neg (show ¬ (ii 0 : Int32) = 1 by decide), Option.bind_some, if_pos (show (ii 0 : Int32) = 0 from rfl)]
    rcases hl with hl | hl <;> rw [hl]
    · rw [if_pos (show (ii 0 : Int32) = 0 from rfl), if_pos (show (0 : Int) = 0 from rfl), ii_lit, ii_sub]
    · rw [if_neg (show ¬ (ii 1 : Int32) = 0 by decide), if_neg (show ¬ (1 : Int) = 0 by decide)]
      simp only [ii_lit, ii_sub]
      by_cases c : a ≤ 59
      · rw [if_pos c, if_pos ((ii_le (a := a) (b := 59) (by omega) (by omega) (by omega) (by omega)).mpr c)]
      · rw [if_neg c, if_neg (fun q => c ((ii_le (a := a) (b := 59) (by omega) (by omega) (by omega) (by omega)).mp q))]
  · have ed := e5 (by decide)
    rw [dyi_N, e1, ed, if_pos (show (ii 1 : Int32) = 1 from rfl)]
  · obtain ⟨em, ew, ed⟩ := e4 rfl
    have hb := mst_bounds a (lg y) hl
    have hb1 := mst_bounds (a + 1) (lg y) hl
    have hy := ys_bounds (y := y) (by omega) (by omega)
    have hw := wkd_bounds (a := a) (c := cc) (y := y) g3 g4
    have hX : ∃ X : Int, (ys y + mst a (lg y) + 4) % 7 = X ∧ 0 ≤ X ∧ X ≤ 6 := ⟨_, rfl, by omega, by omega⟩
    obtain ⟨X, eX, x1, x2⟩ := hX
    have hfm := fm_ok nf (show -9223372036854775808 ≤ ys y + mst a (lg y) + 4 by omega) (show ys y + mst a (lg y) + 4 < 9223372036854775808 by omega) (show (0 : Int) < 7 by omega) (by omega)
    rw [eX] at hfm
    have hq : wkd a b cc y = cc - X + 7 - (cc - X + 7) / 7 * 7 + 7 * (b - 1) := by
      unfold wkd
      rw [eX]
      omega
    have hd := ii_divp (show 0 ≤ cc - X + 7 by omega) (show cc - X + 7 < 2147483648 by omega) (show (0 : Int) < 7 by omega) (by omega)
    rw [dyi_M, e1, em, ew, ed, hL, if_neg (show ¬ (ii 2 : Int32) = 1 by decide), Option.bind_some, if_neg (show ¬ (ii 2 : Int32) = 0 by decide)]
    rw [mst_ok nf g1 (by omega) hl, Option.bind_some]
    simp only [ii_lit, ii_add]
    rw [mst_ok nf (by omega) (by omega) hl, Option.bind_some]
    simp only [jj_lit, ii_64 (show -2147483648 ≤ mst a (lg y) by omega) (show mst a (lg y) < 2147483648 by omega), jj_add, hfm, Option.bind_some, jj_32, ii_sub, ii_add, ii_mul, hd, ← hq]
    clear hfm hq hd eX hL
    by_cases c : mst (a + 1) (lg y) - mst a (lg y) ≤ wkd a b cc y
    · rw [if_pos c, if_pos ((ii_le (by omega) (by omega) (by omega) (by omega)).mpr c)]
      congr 2
      omega
    · rw [if_neg c, if_neg (fun q => c ((ii_le (by omega) (by omega) (by omega) (by omega)).mp q))]
      congr 2
      omega
theorem moment_ok (nf : Nat) {k m w d t c : Int32} {e : ET} (hc : REc k m w d t c e) (h : EOK e) {y : Int} (h1 : -90000000000 ≤ y) (h2 : y ≤ 90000000000) : f_Edge_momentIn nf (jj y) k m w d t c = some (jj (ev e y)) := by
  have hd := dyi_bounds h y
  unfold f_Edge_momentIn f_Edge_momentIn_0
  rw [ystart_ok nf (by omega) (by omega), Option.bind_some, dayin_ok nf hc h h1 h2, Option.bind_some]
  obtain ⟨_, e2, e3, _, _⟩ := hc
  obtain ⟨_, q1, q2, q3, q4⟩ := h
  rw [e2, e3]
  simp only [jj_lit, ii_64 (show -2147483648 ≤ dyi e.1 e.2.1 e.2.2.1 e.2.2.2.1 y by omega) (by omega), ii_64 (show -2147483648 ≤ e.2.2.2.2.1 by omega) (by omega), ii_64 (show -2147483648 ≤ e.2.2.2.2.2 by omega) (by omega), jj_add, jj_mul, jj_sub]
  rfl
theorem mruleday_ok (nf : Nat) {sa : Nat → Nat → Int32} {j : Nat} {e : ET} (hj : j < 10) (hc : REm sa j e) (h : EOK e) {y : Int} (h1 : -90000000000 ≤ y) (h2 : y ≤ 90000000000) (si : Nat → Int32) (sj : Nat → Int64) (sb : Nat → Nat → Int64) : f_Mo_ruleDay nf (ii (j : Int)) (jj y) si sj sa sb = some (jj (ys y + dyi e.1 e.2.1 e.2.2.1 e.2.2.2.1 y)) := by
  obtain ⟨kk, a, b, cc, tt, oo⟩ := e
  obtain ⟨e1, e2, e4, e5, e6⟩ := hc
  obtain ⟨h, _⟩ := h
  dsimp only at *
  have hl := lg_01 y
  have hL := mlong_ok nf (show -100000000000 ≤ y by omega) (by omega)
  have hjn : (ii (j : Int)).toNatClampNeg = j := by rw [ii_nat (by omega) (by omega)]; omega
  have hj1 : ¬ (ii (j : Int) < 0 ∨ 10 ≤ j) := by
    rw [ii_lit, ii_lt (by omega) (by omega) (by omega) (by omega)]
    omega
  have hD : f_Mo_days nf (jj y) 1 1 = some (jj (ys y)) := by
    have := mdays_ok nf (y := y) (m := 1) (k := 1) (by omega) (by omega) (by omega) (by omega) (by omega) (by omega)
    rw [show mst 1 (lg y) = 0 from rfl] at this
    rw [show ys y + 0 + 1 - 1 = ys y by omega] at this
    exact this
  unfold f_Mo_ruleDay f_Mo_ruleDay_0 f_Mo_ruleDay_53 f_Mo_ruleDay_54 f_Mo_ruleDay_154
  rcases h with ⟨rfl, g1, g2⟩ | ⟨rfl, g1, g2⟩ | ⟨rfl, g1, g2, g3, g4, g5, g6⟩
  · have e27 : sa 27 j = 74 := e1.trans (if_pos rfl)
    simp only [hjn, if_neg hj1, hD, Option.bind_some, e27, e2, if_pos, ii_64 (show -2147483648 ≤ a by omega) (show a < 2147483648 by omega), hL, jj_lit, jj_add, jj_sub]
    rw [dyi_J]
    rcases hl with hl | hl <;> rw [hl]
    · rw [if_pos (show (ii 0 : Int32) = 0 from rfl), if_pos (show (0 : Int) = 0 from rfl)]
      congr 2
      omega
    · rw [if_neg (show ¬ (ii 1 : Int32) = 0 by decide), if_neg (show ¬ (1 : Int) = 0 by decide)]
      simp only [ii_lit]
      by_cases c : a ≤ 59
      · rw [if_pos c, if_pos ((ii_lt (a := a) (b := 60) (by omega) (by omega) (by omega) (by omega)).mpr (by omega))]
        congr 2
        omega
      · rw [if_neg c, if_neg (fun q => by rw [ii_lt (a := a) (b := 60) (by omega) (by omega) (by omega) (by omega)] at q; omega)]
        congr 2
        omega
  · have e27 : sa 27 j = 0 := e1.trans ((if_neg (by decide)).trans (if_pos rfl))
    simp only [hjn, if_neg hj1, hD, Option.bind_some, e27, e2, if_pos, if_neg (show ¬ (0 : Int32) = 74 by decide), ii_64 (show -2147483648 ≤ a by omega) (show a < 2147483648 by omega), jj_add]
    rw [dyi_N]
  · have e27 : sa 27 j = 77 := e1.trans ((if_neg (by decide)).trans (if_neg (by decide)))
    obtain ⟨e7, e8⟩ := e4 rfl
    have hb := mst_bounds a (lg y) hl
    have hb1 := mst_bounds (a + 1) (lg y) hl
    have hst := mst_step g1 g2 hl
    have hy := ys_b9 h1 h2
    have hw := wkd_bounds (a := a) (c := cc) (y := y) g3 g4
    have hX : ∃ X : Int, (ys y + mst a (lg y) + 4) % 7 = X ∧ 0 ≤ X ∧ X ≤ 6 := ⟨_, rfl, by omega, by omega⟩
    obtain ⟨X, eX, x1, x2⟩ := hX
    have hD2 := mdays_ok nf (y := y) (m := a) (k := 1) (by omega) (by omega) g1 g2 (by omega) (by omega)
    rw [show ys y + mst a (lg y) + 1 - 1 = ys y + mst a (lg y) by omega] at hD2
    have hW := mwday_ok nf (d := ys y + mst a (lg y)) (by omega) (by omega)
    rw [eX] at hW
    have hN := mlength_ok nf (y := y) (m := a) (by omega) (by omega) g1 g2
    have hq : wkd a b cc y = cc - X + 7 - (cc - X + 7) / 7 * 7 + 7 * (b - 1) := by
      unfold wkd
      rw [eX]
      omega
    have hd := ii_divp (show 0 ≤ cc - X + 7 by omega) (show cc - X + 7 < 2147483648 by omega) (show (0 : Int) < 7 by omega) (by omega)
    have hD2' : f_Mo_days nf (jj y) (ii a) 1 = some (jj (ys y + mst a (lg y))) := hD2
    rw [dyi_M]
    simp only [hjn, if_neg hj1, hD, Option.bind_some, e27, e2, e7, e8, if_neg (show ¬ (77 : Int32) = 74 by decide), if_neg (show ¬ (77 : Int32) = 0 by decide), hD2', hW, hN]
    simp only [ii_lit, jj_lit, ii_sub, ii_add, ii_mul, hd, ii_64 (show -2147483648 ≤ cc - X + 7 - (cc - X + 7) / 7 * 7 by omega) (show cc - X + 7 - (cc - X + 7) / 7 * 7 < 2147483648 by omega), ii_64 (show -2147483648 ≤ b - 1 by omega) (show b - 1 < 2147483648 by omega), ii_64 (show -2147483648 ≤ mst (a + 1) (lg y) - mst a (lg y) by omega) (show mst (a + 1) (lg y) - mst a (lg y) < 2147483648 by omega), jj_mul, jj_add, jj_sub, ← hq]
    clear hD hD2 hD2' hW hN hq hd eX hL
    by_cases c : mst (a + 1) (lg y) - mst a (lg y) ≤ wkd a b cc y
    · rw [if_pos c, if_neg (fun q => by rw [jj_lt (by omega) (by omega) (by omega) (by omega)] at q; omega)]
      congr 2
      omega
    · rw [if_neg c, if_pos ((jj_lt (by omega) (by omega) (by omega) (by omega)).mpr (by omega))]
      congr 2
      omega
theorem mevent_ok (nf : Nat) {sa : Nat → Nat → Int32} {z w : Nat} {e : ET} (hz : z < 5) (hw : w < 2) (hc : REm sa (2 * z + w) e) (h : EOK e) {y : Int} (h1 : -90000000000 ≤ y) (h2 : y ≤ 90000000000) (si : Nat → Int32) (sj : Nat → Int64) (sb : Nat → Nat → Int64) : f_Mo_event nf (ii (z : Int)) (jj y) (ii (w : Int)) si sj sa sb = some (jj (ev e y)) := by
  have ej : (2 * ii (z : Int)) + ii (w : Int) = ii ((2 * z + w : Nat) : Int) := by
    rw [ii_lit, ii_mul, ii_add]
    congr 1
  have hjn : (ii ((2 * z + w : Nat) : Int)).toNatClampNeg = 2 * z + w := by rw [ii_nat (by omega) (by omega)]; omega
  have hj1 : ¬ (ii ((2 * z + w : Nat) : Int) < 0 ∨ 10 ≤ 2 * z + w) := by
    rw [ii_lit, ii_lt (by omega) (by omega) (by omega) (by omega)]
    omega
  have hR := mruleday_ok nf (j := 2 * z + w) (by omega) hc h h1 h2 si sj sb
  unfold f_Mo_event f_Mo_event_0
  rw [ej, hR, Option.bind_some, hjn, if_neg hj1, if_neg hj1]
  obtain ⟨_, _, _, e5, e6⟩ := hc
  obtain ⟨_, q1, q2, q3, q4⟩ := h
  rw [e5, e6]
  simp only [jj_lit, ii_64 (show -2147483648 ≤ e.2.2.2.2.1 by omega) (by omega), ii_64 (show -2147483648 ≤ e.2.2.2.2.2 by omega) (by omega), jj_add, jj_mul, jj_sub]
  rfl
/-! moments grow with the years -/
theorem ev_step {e : ET} (h : EOK e) (y : Int) : ev e y + 25000000 ≤ ev e (y + 1) := by
  have h1 := dyi_bounds h y
  have h2 := dyi_bounds h (y + 1)
  have hs := ys_succ y
  have hl := lg_01 y
  have hl1 := lg_01 (y + 1)
  have hd : dyi e.1 e.2.1 e.2.2.1 e.2.2.2.1 y ≤ dyi e.1 e.2.1 e.2.2.1 e.2.2.2.1 (y + 1) + 36 := by
    obtain ⟨k, a, b, c, t, o⟩ := e
    obtain ⟨h, _⟩ := h
    dsimp only at h ⊢
    rcases h with ⟨rfl, g1, g2⟩ | ⟨rfl, g1, g2⟩ | ⟨rfl, g1, g2, g3, g4, g5, g6⟩
    · rw [dyi_J, dyi_J]
      split <;> split <;> (try split) <;> (try split) <;> omega
    · rw [dyi_N, dyi_N]
      omega
    · rw [dyi_M, dyi_M]
      have w1 := wkd_bounds (a := a) (c := c) (y := y) g3 g4
      have w2 := wkd_bounds (a := a) (c := c) (y := y + 1) g3 g4
      have hm : mst a (lg y) ≤ mst a (lg (y + 1)) + 1 := by
        by_cases q : a ≤ 2
        · rw [mst_lo _ q, mst_lo (lg (y + 1)) q]; omega
        · rw [mst_hi _ (by omega), mst_hi (lg (y + 1)) (by omega)]; omega
      have s1 := mst_step g1 g2 hl
      have s2 := mst_step g1 g2 hl1
      have w3 : 7 * (b - 1) ≤ wkd a b c y ∧ wkd a b c y ≤ 7 * (b - 1) + 6 := by unfold wkd; omega
      have w4 : 7 * (b - 1) ≤ wkd a b c (y + 1) ∧ wkd a b c (y + 1) ≤ 7 * (b - 1) + 6 := by unfold wkd; omega
      split <;> split <;> omega
  unfold ev
  omega
theorem ev_mono {e : ET} (h : EOK e) {a b : Int} (hab : a ≤ b) : ev e a + 25000000 * (b - a) ≤ ev e b := by
  obtain ⟨k, hk⟩ : ∃ k : Nat, b = a + k := ⟨(b - a).toNat, by omega⟩
  subst hk
  induction k with
  | zero => simp
  | succ k ih =>
    have g1 := ih (by omega)
    have g2 := ev_step h (a + (k : Int))
    rw [show a + ((k + 1 : Nat) : Int) = a + (k : Int) + 1 by omega]
    omega
theorem ev_cycle (e : ET) (y : Int) : ev e (y + 400) = ev e y + 12622780800 := by
  have h1 : ys (y + 400) = 146097 + ys y := by
    have := ys_cycle y 1
    rw [show 400 * 1 + y = y + 400 by omega] at this
    omega
  have h2 : lg (y + 400) = lg y := by
    have := lg_cycle y 1
    rw [show 400 * 1 + y = y + 400 by omega] at this
    exact this
  have h3 : ∀ a b c, wkd a b c (y + 400) = wkd a b c y := by
    intro a b c
    unfold wkd
    rw [h1, h2]
    omega
  have h4 : ∀ k a b c, dyi k a b c (y + 400) = dyi k a b c y := by
    intro k a b c
    unfold dyi
    rw [h2, h3]
  unfold ev
  rw [h1, h4]
  omega
/-- a moment lies near its year -/
theorem ev_near {e : ET} (h : EOK e) (y : Int) : ys y * 86400 - 800000 ≤ ev e y ∧ ev e y ≤ ys y * 86400 + 366 * 86400 + 800000 := by
  have h1 := dyi_bounds h y
  obtain ⟨_, q1, q2, q3, q4⟩ := h
  unfold ev
  omega
