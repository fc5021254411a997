/-! the reference's date: a check of all days of 400 years -/
noncomputable def alln (f : Nat → Bool) (n : Nat) : Bool := Nat.rec true (fun k ih => f k && ih) n
theorem alln_spec {f : Nat → Bool} : ∀ {n : Nat}, alln f n = true → ∀ k, k < n → f k = true := by
  intro n
  induction n with
  | zero => intro _ k hk; omega
  | succ n ih =>
    intro h k hk
    have h' : (f n && alln f n) = true := h
    rw [Bool.and_eq_true] at h'
    by_cases e : k = n
    · rw [e]; exact h'.1
    · exact ih h'.2 k (by omega)
def dyo (o : Nat) : Nat := (o - o / 1460 + o / 36524 - o / 146096) / 365
def dys (y : Nat) : Nat := 365 * y + y / 4 - y / 100
def dh (o : Nat) : Nat := o - o / 1460 + o / 36524 - o / 146096
theorem dh_mono {a b : Nat} (h : a ≤ b) (hb : b ≤ 146096) : dh a ≤ dh b := by
  unfold dh
  omega
def dkk (y : Nat) : Bool := Nat.ble (365 * y) (dh (dys y)) && Nat.blt (dh (dys (y + 1) + y / 399 - 1)) (365 * (y + 1)) && Nat.ble (dys (y + 1) + y / 399) 146097
set_option maxRecDepth 100000 in
theorem dkk_all : alln dkk 400 = true := by decide +kernel
theorem dys_ex {o : Nat} : ∀ n : Nat, n < 400 → o < dys (n + 1) + n / 399 → ∃ y, y ≤ n ∧ dys y ≤ o ∧ o < dys (y + 1) + y / 399 := by
  intro n
  induction n with
  | zero => intro _ h; exact ⟨0, Nat.le_refl _, Nat.zero_le _, h⟩
  | succ n ih =>
    intro hn h
    by_cases c : o < dys (n + 1) + n / 399
    · obtain ⟨y, h1, h2⟩ := ih (by omega) c
      exact ⟨y, by omega, h2⟩
    · exact ⟨n + 1, Nat.le_refl _, by omega, h⟩
theorem dck_at {o : Nat} (h : o < 146097) : dys (dyo o) ≤ o ∧ o < dys (dyo o + 1) + dyo o / 399 ∧ dyo o ≤ 399 := by
  obtain ⟨y, h1, h2, h3⟩ := dys_ex (o := o) 399 (by omega) (by show o < 146097; exact h)
  have h4 := alln_spec dkk_all y (by omega)
  unfold dkk at h4
  rw [Bool.and_eq_true, Bool.and_eq_true] at h4
  have a1 := Nat.le_of_ble_eq_true h4.1.1
  have a2 : dh (dys (y + 1) + y / 399 - 1) < 365 * (y + 1) := Nat.le_of_ble_eq_true h4.1.2
  have a3 := Nat.le_of_ble_eq_true h4.2
  have m1 := dh_mono h2 (by omega)
  have m2 := dh_mono (show o ≤ dys (y + 1) + y / 399 - 1 by omega) (by omega)
  have e : dyo o = y := by
    show dh o / 365 = y
    omega
  rw [e]
  exact ⟨h2, h3, by omega⟩
theorem mst_hi {m : Int} (g : Int) (h : 2 < m) : mst m g = mst m 0 + g := by
  unfold mst
  rw [if_neg (by omega), if_neg (by omega)]
  omega
theorem mst_lo {m : Int} (g : Int) (h : m ≤ 2) : mst m g = mst m 0 := by
  unfold mst
  rw [if_pos h, if_pos h]
theorem mst_0 (m : Int) : 0 ≤ mst m 0 ∧ mst m 0 ≤ 365 := by
  unfold mst
  split <;> (split <;> omega)
abbrev qcp (q : Int) : Prop := 0 ≤ (5 * q + 2) / 153 ∧ (5 * q + 2) / 153 ≤ 11 ∧ (153 * ((5 * q + 2) / 153) + 2) / 5 ≤ q ∧
  ((5 * q + 2) / 153 < 10 → mst ((5 * q + 2) / 153 + 3) 0 = (153 * ((5 * q + 2) / 153) + 2) / 5 + 59 ∧ q + 59 < mst ((5 * q + 2) / 153 + 3 + 1) 0) ∧
  (10 ≤ (5 * q + 2) / 153 → 306 ≤ q ∧ mst ((5 * q + 2) / 153 - 9) 0 = (153 * ((5 * q + 2) / 153) + 2) / 5 - 306 ∧ q - 306 < mst ((5 * q + 2) / 153 - 9 + 1) 1 ∧ (q < 365 → q - 306 < mst ((5 * q + 2) / 153 - 9 + 1) 0))
set_option maxRecDepth 100000 in
theorem qck_all : alln (fun t => decide (qcp (t : Int))) 366 = true := by decide +kernel
theorem ys_march {r : Int} (r1 : 0 ≤ r) (r2 : r < 400) : ys r + lg r = 365 * r + r / 4 - r / 100 - 59 - 719468 := by
  unfold ys lg
  by_cases h : r % 4 = 0 ∧ (r % 100 ≠ 0 ∨ r % 400 = 0)
  · rw [if_pos h]; omega
  · rw [if_neg h]; omega
/-- month and day of a day -/
def mod_ (d : Int) : Int := mo (d - ys (yo d)) (lg (yo d))
def dod_ (d : Int) : Int := d - ys (yo d) - mst (mod_ d) (lg (yo d)) + 1
theorem march_len {Y o : Int} (h0 : 0 ≤ Y) (h9 : Y ≤ 399) (h : o < 365 * (Y + 1) + (Y + 1) / 4 - (Y + 1) / 100 + Y / 399) : o - (365 * Y + Y / 4 - Y / 100) < 365 + lg (Y + 1) := by
  unfold lg
  by_cases z : Y = 399
  · subst z
    rw [if_pos (by decide)]
    omega
  · have e0 : Y / 399 = 0 := by clear h; omega
    rw [e0] at h
    by_cases c4 : (Y + 1) % 4 = 0
    · have e4 : (Y + 1) / 4 = Y / 4 + 1 := by clear h; omega
      by_cases c1 : (Y + 1) % 100 = 0
      · have e1 : (Y + 1) / 100 = Y / 100 + 1 := by clear h; omega
        have c0 : ¬ (Y + 1) % 400 = 0 := by clear h; omega
        rw [if_neg (fun z => z.2.elim (fun y => y c1) c0)]
        rw [e4, e1] at h
        omega
      · have e1 : (Y + 1) / 100 = Y / 100 := by clear h; omega
        rw [if_pos ⟨c4, Or.inl c1⟩]
        rw [e4, e1] at h
        omega
    · have e4 : (Y + 1) / 4 = Y / 4 := by clear h; omega
      have e1 : (Y + 1) / 100 = Y / 100 := by clear h; omega
      rw [if_neg (fun z => c4 z.1)]
      rw [e4, e1] at h
      omega
theorem march_yr {o : Int} (o1 : 0 ≤ o) (o2 : o < 146097) : ∃ Y : Int, (o - o / 1460 + o / 36524 - o / 146096) / 365 = Y ∧ 0 ≤ Y ∧ Y ≤ 399 ∧ 365 * Y + Y / 4 - Y / 100 ≤ o ∧ o < 365 * (Y + 1) + (Y + 1) / 4 - (Y + 1) / 100 + Y / 399 := by
  obtain ⟨n, rfl⟩ : ∃ n : Nat, o = n := ⟨o.toNat, by omega⟩
  obtain ⟨g1, g2, g3⟩ := dck_at (o := n) (by omega)
  have hY : ((n : Int) - (n : Int) / 1460 + (n : Int) / 36524 - (n : Int) / 146096) / 365 = ((dyo n : Nat) : Int) := by
    clear g1 g2 g3
    unfold dyo
    omega
  refine ⟨((dyo n : Nat) : Int), hY, ?_⟩
  clear hY
  generalize dyo n = k at *
  have h4 : (((k + 1) / 4 : Nat) : Int) = ((k : Int) + 1) / 4 := by clear g1 g2; omega
  have h100 : (((k + 1) / 100 : Nat) : Int) = ((k : Int) + 1) / 100 := by clear g1 g2; omega
  unfold dys at g1 g2
  refine ⟨by omega, by omega, ?_, ?_⟩
  · clear g2 h4 h100
    omega
  · rw [← h4, ← h100]
    omega
theorem mdate_eval (nf : Nat) {d e o Y q M : Int} (h1 : -20000000000000 ≤ d) (h2 : d ≤ 20000000000000) (he : (d + 719468) / 146097 = e) (ho : d + 719468 - e * 146097 = o) (hY : (o - o / 1460 + o / 36524 - o / 146096) / 365 = Y) (hq : o - (365 * Y + Y / 4 - Y / 100) = q) (hM : (5 * q + 2) / 153 = M)
    (o1 : 0 ≤ o) (o2 : o < 146097) (y1 : 0 ≤ Y) (y2 : Y ≤ 399) (q1 : 0 ≤ q) (q2 : q ≤ 365) (m1 : 0 ≤ M) (m2 : M ≤ 11) (si : Nat → Int32) (sj : Nat → Int64) (sa : Nat → Nat → Int32) (sb : Nat → Nat → Int64) :
    f_Mo_date nf (jj d) si sj sa sb = if M < 10 then some (va_up (va_up si 42 (ii (q - (153 * M + 2) / 5 + 1))) 41 (ii (M + 3)), va_up sj 40 (jj (Y + e * 400 + 0)), sa, sb) else some (va_up (va_up si 42 (ii (q - (153 * M + 2) / 5 + 1))) 41 (ii (M - 9)), va_up sj 40 (jj (Y + e * 400 + 1)), sa, sb) := by
  have hf := fl_ok nf (show -9223372036854775808 ≤ d + 719468 by omega) (show d + 719468 < 9223372036854775808 by omega) (show (0 : Int) < 146097 by omega) (by omega)
  rw [he] at hf
  have d1 := jj_divp o1 (show o < 9223372036854775808 by omega) (show (0 : Int) < 1460 by omega) (by omega)
  have d2 := jj_divp o1 (show o < 9223372036854775808 by omega) (show (0 : Int) < 36524 by omega) (by omega)
  have d3 := jj_divp o1 (show o < 9223372036854775808 by omega) (show (0 : Int) < 146096 by omega) (by omega)
  have d4 : jj (o - o / 1460 + o / 36524 - o / 146096) / jj 365 = jj Y := by
    rw [← hY]
    clear hq hM hY he ho hf d1 d2 d3
    exact jj_divp (by omega) (by omega) (by omega) (by omega)
  have d5 := jj_divp y1 (show Y < 9223372036854775808 by omega) (show (0 : Int) < 4 by omega) (by omega)
  have d6 := jj_divp y1 (show Y < 9223372036854775808 by omega) (show (0 : Int) < 100 by omega) (by omega)
  have d7 := jj_divp (show 0 ≤ 5 * q + 2 by omega) (show 5 * q + 2 < 9223372036854775808 by omega) (show (0 : Int) < 153 by omega) (by omega)
  have d8 := jj_divp (show 0 ≤ 153 * M + 2 by omega) (show 153 * M + 2 < 9223372036854775808 by omega) (show (0 : Int) < 5 by omega) (by omega)
  rw [hM] at d7
  have hM6 := ii_64 (show -2147483648 ≤ M by omega) (show M < 2147483648 by omega)
  unfold f_Mo_date f_Mo_date_0 f_Mo_date_141 f_Mo_date_167
  simp only [jj_lit, jj_add, hf, Option.bind_some, jj_mul, jj_sub, ho, d1, d2, d3, d4, d5, d6, hq, d7, jj_32, hM6, d8]
  clear hf d1 d2 d3 d4 d5 d6 d7 d8 hM6 he ho hY hq hM h1 h2
  by_cases c : M < 10
  · rw [if_pos c, if_neg (by rw [ii_lit, ii_le (by omega) (by omega) (by omega) (by omega)]; omega)]
    simp only [ii_lit, ii_add]
    rw [if_pos (by rw [ii_lt (by omega) (by omega) (by omega) (by omega)]; omega)]
  · rw [if_neg c, if_pos (by rw [ii_lit, ii_le (by omega) (by omega) (by omega) (by omega)]; omega)]
    simp only [ii_lit, ii_add, ii_sub]
    rw [if_neg (by rw [ii_lt (by omega) (by omega) (by omega) (by omega)]; omega)]
theorem mdate_ok (nf : Nat) {d : Int} (h1 : -20000000000000 ≤ d) (h2 : d ≤ 20000000000000) (si : Nat → Int32) (sj : Nat → Int64) (sa : Nat → Nat → Int32) (sb : Nat → Nat → Int64) :
    f_Mo_date nf (jj d) si sj sa sb = some (va_up (va_up si 42 (ii (dod_ d))) 41 (ii (mod_ d)), va_up sj 40 (jj (yo d)), sa, sb) := by
  obtain ⟨e, o, he, ho, o1, o2⟩ : ∃ e o : Int, (d + 719468) / 146097 = e ∧ d + 719468 - e * 146097 = o ∧ 0 ≤ o ∧ o < 146097 := ⟨_, _, rfl, rfl, by omega, by omega⟩
  obtain ⟨Y, hY, y1, y2, y3, y4⟩ := march_yr o1 o2
  have q2 := march_len y1 y2 y4
  obtain ⟨q, hq⟩ : ∃ q : Int, o - (365 * Y + Y / 4 - Y / 100) = q := ⟨_, rfl⟩
  rw [hq] at q2
  have hl1 := lg_01 (Y + 1)
  have q1 : 0 ≤ q := by clear hY he ho q2 y4; omega
  have q3 : q ≤ 365 := by clear hY he ho y4 y3 hq; omega
  obtain ⟨t, ht⟩ : ∃ t : Nat, q = t := ⟨q.toNat, by omega⟩
  have hc := of_decide_eq_true (alln_spec qck_all t (by omega))
  rw [← ht] at hc
  clear ht t
  obtain ⟨M, hM⟩ : ∃ M : Int, (5 * q + 2) / 153 = M := ⟨_, rfl⟩
  unfold qcp at hc
  rw [hM] at hc
  obtain ⟨m1, m2, m3, m4, m5⟩ := hc
  rw [mdate_eval nf h1 h2 he ho hY hq hM o1 o2 y1 y2 q1 q3 m1 m2]
  have hsy := ys_march y1 (show Y < 400 by omega)
  clear hY hM y4 y3 he h1 h2
  have hdo : d = 146097 * e + o - 719468 := by clear hq; omega
  have hoq : o = 365 * Y + Y / 4 - Y / 100 + q := by clear ho hdo; omega
  clear ho hq
  by_cases c : M < 10
  · rw [if_pos c]
    obtain ⟨k1, k2⟩ := m4 c
    have k3 := mst_0 (M + 3 + 1)
    have hyc := ys_cycle Y e
    have hlc := lg_cycle Y e
    have hl := lg_01 Y
    have hd : d - ys (400 * e + Y) = q + 59 + lg Y := by rw [hyc]; omega
    have hs := ys_succ (400 * e + Y)
    clear hsy hoq hdo
    have hy : yo d = 400 * e + Y := yo_uniq (by omega) (by omega)
    have hm : mod_ d = M + 3 := by
      unfold mod_
      rw [hy, hd, hlc]
      refine mo_uniq hl (by omega) (by omega) (by omega) (by omega) ?_ ?_
      · rw [mst_hi _ (by omega)]; omega
      · rw [mst_hi _ (by omega)]; omega
    have hdd : dod_ d = q - (153 * M + 2) / 5 + 1 := by
      unfold dod_
      rw [hm, hy, hd, hlc, mst_hi _ (by omega)]; omega
    rw [hm, hdd, hy, show Y + e * 400 + 0 = 400 * e + Y by omega]
  · rw [if_neg c]
    obtain ⟨k0, k1, k2, k3⟩ := m5 (by omega)
    have hyc := ys_cycle (Y + 1) e
    have hlc := lg_cycle (Y + 1) e
    have hs0 := ys_succ Y
    have hd : d - ys (400 * e + (Y + 1)) = q - 306 := by rw [hyc]; omega
    have hs := ys_succ (400 * e + (Y + 1))
    clear hsy hoq hdo hs0
    have hy : yo d = 400 * e + (Y + 1) := yo_uniq (by omega) (by omega)
    have hm : mod_ d = M - 9 := by
      unfold mod_
      rw [hy, hd, hlc]
      refine mo_uniq hl1 (by omega) (by omega) (by omega) (by omega) ?_ ?_
      · rw [mst_lo _ (by omega)]; omega
      · rcases hl1 with hl | hl <;> rw [hl] at q2 ⊢
        · exact k3 (by omega)
        · exact k2
    have hdd : dod_ d = q - (153 * M + 2) / 5 + 1 := by
      unfold dod_
      rw [hm, hy, hd, hlc, mst_lo _ (by omega)]; omega
    rw [hm, hdd, hy, show Y + e * 400 + 1 = 400 * e + (Y + 1) by omega]
theorem dod_spec {d : Int} : 1 ≤ mod_ d ∧ mod_ d ≤ 12 ∧ 1 ≤ dod_ d ∧ dod_ d ≤ 31 := by
  obtain ⟨g1, g2⟩ := yo_spec d
  have hs := ys_succ (yo d)
  have hl := lg_01 (yo d)
  obtain ⟨k1, k2, k3, k4⟩ := mo_spec hl (show 0 ≤ d - ys (yo d) by omega) (by omega)
  have hst := mst_step k1 k2 hl
  unfold dod_ mod_
  exact ⟨k1, k2, by omega, by omega⟩
theorem mabout_ok (nf : Nat) {t : Int} (h1 : -1728000000000000000 ≤ t) (h2 : t ≤ 1728000000000000000) (si : Nat → Int32) (sj : Nat → Int64) (sa : Nat → Nat → Int32) (sb : Nat → Nat → Int64) :
    f_Mo_about nf (jj t) si sj sa sb = some (jj (yo (t / 86400)), va_up (va_up si 42 (ii (dod_ (t / 86400)))) 41 (ii (mod_ (t / 86400))), va_up sj 40 (jj (yo (t / 86400))), sa, sb) := by
  unfold f_Mo_about f_Mo_about_0
  rw [jj_lit, fl_ok nf (by omega) (by omega) (by omega) (by omega), Option.bind_some, mdate_ok nf (by omega) (by omega), Option.bind_some]
  rfl
