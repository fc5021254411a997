/-! ===== stretch: the first type like a state ===== -/
section
variable {nf : Nat} {z : ZS} {si : Nat → Int32} {sj : Nat → Int64} {sa : Nat → Nat → Int32} {sb : Nat → Nat → Int64} {i n t r : Nat} {tm : Nat → Int} {tt : Nat → Nat} {hs : Bool} {b e : ET} {O D : Int → Int} {Z : Int → Nat} {B : Int → Nat → Int32}
theorem e26 (w k : Nat) : 20 * (4 : Int32) + 10 * ii (w : Int) + ii (k : Int) = ii ((80 + 10 * w + k : Nat) : Int) := by
  rw [show (20 * (4 : Int32)) = ii 80 from rfl, show (10 : Int32) = ii 10 from rfl, ii_mul, ii_add, ii_add]
  congr 1
theorem e8w (w : Nat) : 2 * (4 : Int32) + ii (w : Int) = ii ((8 + w : Nat) : Int) := by
  rw [show (2 * (4 : Int32)) = ii 8 from rfl, ii_add]
  congr 1
theorem mty72z {K : Int32 → Int32 → Int32 → (Nat → Int32) → (Nat → Int64) → (Nat → Nat → Int32) → (Nat → Nat → Int64) → Option (Int32 × MS)} {x x1 x2 x3 : Int32} (f : Nat) : f_Mo_typeLike_72 nf K (f + 1) x 0 x3 x2 x1 si sj sa sb = f_Mo_typeLike_126 nf K 0 x3 x2 x1 si sj sa sb := by
  rw [f_Mo_typeLike_72]
  by_cases c : si 47 ≤ x
  · rw [if_pos c]
  · rw [if_neg c, if_pos rfl]
theorem mty72 {K : Int32 → Int32 → Int32 → (Nat → Int32) → (Nat → Int64) → (Nat → Nat → Int32) → (Nat → Nat → Int64) → Option (Int32 × MS)} {x3 : Int32} {s w : Nat} (hs : s ≤ 10) (hw : w < 2) (h47 : si 47 = ii (s : Int)) : ∀ (d k fu : Nat), k + d = s → d < fu → ∃ q : Bool, (q = true ↔ ∀ j, k ≤ j → j < s → sa 48 j = sa 26 (80 + 10 * w + j)) ∧ f_Mo_typeLike_72 nf K fu (ii (k : Int)) 1 x3 4 (ii (w : Int)) si sj sa sb = f_Mo_typeLike_126 nf K (bI q) x3 4 (ii (w : Int)) si sj sa sb := by
  intro d
  induction d with
  | zero =>
    intro k fu hk hf
    obtain ⟨f, rfl⟩ : ∃ f, fu = f + 1 := ⟨fu - 1, by omega⟩
    rw [f_Mo_typeLike_72, h47, if_pos (iple (c := 0) (d := 0) (show s ≤ k by omega) (by omega))]
    exact ⟨true, ⟨fun _ j h1 h2 => by omega, fun _ => rfl⟩, rfl⟩
  | succ d ih =>
    intro k fu hk hf
    obtain ⟨f, rfl⟩ : ∃ f, fu = f + 2 := ⟨fu - 2, by omega⟩
    obtain ⟨i1, i2⟩ := nidx (k := k) (m := 10) (by omega) (by omega)
    obtain ⟨i3, i4⟩ := nidx (k := 80 + 10 * w + k) (m := 100) (by omega) (by omega)
    rw [f_Mo_typeLike_72, h47, if_neg (inle (show k < s by omega) (by omega)), if_neg (show ¬ (1 : Int32) = 0 by decide), i1, if_neg i2, e26, i3, if_neg i4]
    unfold f_Mo_typeLike_118
    by_cases c : sa 48 k = sa 26 (80 + 10 * w + k)
    · rw [if_pos c, iiS]
      obtain ⟨q, h1, h2⟩ := ih (k + 1) (f + 1) (by omega) (by omega)
      refine ⟨q, ⟨fun y j a1 a2 => ?_, fun y => h1.mpr (fun j a1 a2 => y j (by omega) a2)⟩, h2⟩
      by_cases ej : j = k
      · rw [ej]
        exact c
      · exact h1.mp y j (by omega) a2
    · rw [if_neg c, mty72z]
      exact ⟨false, ⟨fun y => (by cases y), fun y => absurd (y k (by omega) (by omega)) c⟩, rfl⟩
theorem mtyc {K : Int32 → Int32 → Int32 → (Nat → Int32) → (Nat → Int64) → (Nat → Nat → Int32) → (Nat → Nat → Int64) → Option (Int32 × MS)} (hnf : 10000 ≤ nf) {w : Nat} (hw : w < 2) {j g : Int} (hj : j ≠ -3) (hg : g ≠ -3) (bj : -100000 ≤ O j ∧ O j ≤ 100000 ∧ (D j = 0 ∨ D j = 1) ∧ 3 ≤ Z j ∧ Z j ≤ 10) (bg : -100000 ≤ O g ∧ O g ≤ 100000 ∧ (D g = 0 ∨ D g = 1) ∧ 3 ≤ Z g ∧ Z g ≤ 10) (k45 : si 45 = ii (O j)) (k46 : si 46 = ii (D j)) (k47 : si 47 = ii (Z j : Int)) (kn : ∀ k, k < Z j → sa 48 k = B j k) (vw : VW sa 4 O D Z B w g) (x3 : Int32) :
    ∃ q : Bool, (q = true ↔ sm O D Z B j g) ∧ (if 2 * (4 : Int32) + ii (w : Int) < 0 ∨ 10 ≤ (2 * (4 : Int32) + ii (w : Int)).toNatClampNeg then none else
      if si 45 = sa 24 (2 * (4 : Int32) + ii (w : Int)).toNatClampNeg then
      if si 46 = ii (w : Int) then
        if 2 * (4 : Int32) + ii (w : Int) < 0 ∨ 10 ≤ (2 * (4 : Int32) + ii (w : Int)).toNatClampNeg then none else
          if si 47 = sa 25 (2 * (4 : Int32) + ii (w : Int)).toNatClampNeg then
          f_Mo_typeLike_67 nf K x3 4 (ii (w : Int)) 1 si sj sa sb
          else
          f_Mo_typeLike_66 nf K x3 4 (ii (w : Int)) si sj sa sb
        else
        f_Mo_typeLike_66 nf K x3 4 (ii (w : Int)) si sj sa sb
      else
      f_Mo_typeLike_66 nf K x3 4 (ii (w : Int)) si sj sa sb) = f_Mo_typeLike_126 nf K (bI q) x3 4 (ii (w : Int)) si sj sa sb := by
  obtain ⟨o1, o2, o3, o4, o5⟩ := bj
  obtain ⟨p1, p2, p3, p4, p5⟩ := bg
  have w1 : sa 24 (8 + w) = ii (O g) := vw.1
  have w2 : D g = w := vw.2.1
  have w3 : sa 25 (8 + w) = ii (Z g : Int) := vw.2.2.1
  have w4 : ∀ k, k < Z g → sa 26 (80 + 10 * w + k) = B g k := vw.2.2.2
  obtain ⟨i1, i2⟩ := nidx (k := 8 + w) (m := 10) (by omega) (by omega)
  obtain ⟨m, hm⟩ : ∃ m, nf = m + 1 := ⟨nf - 1, by omega⟩
  have e66 : f_Mo_typeLike_66 nf K x3 4 (ii (w : Int)) si sj sa sb = f_Mo_typeLike_126 nf K (bI false) x3 4 (ii (w : Int)) si sj sa sb := by
    unfold f_Mo_typeLike_66 f_Mo_typeLike_67
    have := mty72z (nf := nf) (K := K) (x := 0) (x1 := ii (w : Int)) (x2 := 4) (x3 := x3) (si := si) (sj := sj) (sa := sa) (sb := sb) m
    rw [← hm] at this
    exact this
  rw [e8w, i1, if_neg i2, if_neg i2, w1, w3, k45, k46, k47, e66]
  by_cases d1 : O j = O g
  · rw [if_pos (by rw [d1])]
    by_cases d2 : D j = D g
    · rw [if_pos (by rw [d2, w2])]
      by_cases d3 : Z j = Z g
      · rw [if_pos (by rw [d3])]
        unfold f_Mo_typeLike_67
        obtain ⟨q, h1, h2⟩ := mty72 (nf := nf) (K := K) (x3 := x3) (sj := sj) (sa := sa) (sb := sb) (s := Z j) (by omega) hw k47 (Z j) 0 nf (by omega) (by omega)
        refine ⟨q, ⟨fun hq => Or.inr ⟨hj, hg, d1, d2, d3, fun k hk => ?_⟩, fun hq => h1.mpr (fun k _ hk => ?_)⟩, h2⟩
        · rw [← kn k hk, ← w4 k (by omega)]
          exact h1.mp hq k (by omega) hk
        · rcases hq with ⟨hq, _⟩ | ⟨_, _, _, _, _, hq⟩
          · exact absurd hq hj
          · rw [kn k hk, w4 k (by omega)]
            exact hq k hk
      · rw [if_neg (show ¬ ii (Z j : Int) = ii (Z g : Int) by rw [ii_eq (by omega) (by omega) (by omega) (by omega)]; omega)]
        refine ⟨false, ⟨fun y => (by cases y), fun y => ?_⟩, rfl⟩
        rcases y with ⟨y, _⟩ | ⟨_, _, _, _, y, _⟩
        · exact absurd y hj
        · exact absurd y d3
    · rw [if_neg (show ¬ ii (D j) = ii (w : Int) by rw [← w2, ii_eq (by omega) (by omega) (by omega) (by omega)]; exact d2)]
      refine ⟨false, ⟨fun y => (by cases y), fun y => ?_⟩, rfl⟩
      rcases y with ⟨y, _⟩ | ⟨_, _, _, y, _⟩
      · exact absurd y hj
      · exact absurd y d2
  · rw [if_neg (show ¬ ii (O j) = ii (O g) by rw [ii_eq (by omega) (by omega) (by omega) (by omega)]; exact d1)]
    refine ⟨false, ⟨fun y => (by cases y), fun y => ?_⟩, rfl⟩
    rcases y with ⟨y, _⟩ | ⟨_, _, y, _⟩
    · exact absurd y hj
    · exact absurd y d1
def gW (w : Nat) : Int := if w = 1 then -2 else -1
theorem ZV.vwg (h : ZV z sa sb i n t r tm tt hs b e O D Z B) (hr : 0 < r) (hh : hs = true) {w : Nat} (hw : w < 2) : VW sa i O D Z B w (gW w) ∧ vg t r hs (gW w) := by
  unfold gW
  rcases (show w = 0 ∨ w = 1 by omega) with rfl | rfl
  · rw [if_neg (by decide)]
    exact ⟨h.2.2.2.2.1 hr, Or.inr (Or.inl ⟨hr, rfl⟩)⟩
  · rw [if_pos rfl]
    exact ⟨h.2.2.2.2.2 hr hh, Or.inr (Or.inr ⟨hr, hh, rfl⟩)⟩
theorem gW_n3 (w : Nat) : gW w ≠ -3 := by
  unfold gW
  split <;> omega
theorem ZV.tyl (hnf : 10000 ≤ nf) {w : Nat} (hw : w < 2) (hr : 0 < r) (hh : hs = true) (x1 : Int64) : ∀ (d j fu fu' : Nat) (si : Nat → Int32) (sj : Nat → Int64) (sa : Nat → Nat → Int32), j + d = t → d < fu → d < fu' → ZV z sa sb 4 n t r tm tt hs b e O D Z B →
    (∃ (q : Nat) (si' : Nat → Int32) (sj' : Nat → Int64) (sa' : Nat → Nat → Int32), q < t ∧ f_Zone_addTime_15 nf z.2.2.2.2.2.2.2.2.2.2.2.2.2.2.2.2.2.2.2.2.1 z.2.2.2.2.2.2.2.2.2.2.2.2.2.2.2.2.2.2.2.2.2.1 z.2.2.2.2.2.2.2.2.2.2.2.2.2.2.2.2.2.2.2.2.2.2.1 z.2.2.2.2.2.2.2.2.2.2.2.2.2.2.2.2.2.2.2.2.2.2.2.1 z.2.2.2.2.2.2.2.2.2.2.2.2.2.2.2.2.2.2.2.2.2.2.2.2.1 z.2.2.2.2.2.2.2.2.2.2.2.2.2.2.2.2.2.2.2.2.2.2.2.2.2.1 z.2.2.2.2.2.2.2.2.2.2.2.2.2.2.2.2.2.2.2.2.2.2.2.2.2.2.2.1 z.2.2.2.2.2.2.2.2.2.2.2.2.2.2.2.2.2.2.2.2.2.2.2.2.2.2.2.2.1 z.2.2.2.2.2.2.2.2.2.2.2.2.2.2.2.2.2.2.2.2.2.2.2.2.2.2.2.2.2.1 fu (ii (j : Int)) x1 (ii (gW w)) z.2.1 z.2.2.1 z.2.2.2.2.1 z.2.2.2.2.2.1 z.2.2.2.2.2.2.1 z.2.2.2.2.2.2.2.1 z.2.2.2.2.2.2.2.2.1 z.2.2.2.2.2.2.2.2.2.1 z.2.2.2.2.2.2.2.2.2.2.1 z.2.2.2.2.2.2.2.2.2.2.2.1 z.2.2.2.2.2.2.2.2.2.2.2.2.1 z.2.2.2.2.2.2.2.2.2.2.2.2.2.1 z.2.2.2.2.2.2.2.2.2.2.2.2.2.2.1 z.2.2.2.2.2.2.2.2.2.2.2.2.2.2.2.1 = f_Zone_addTime_40 nf z.2.2.2.2.2.2.2.2.2.2.2.2.2.2.2.2.2.2.2.2.1 z.2.2.2.2.2.2.2.2.2.2.2.2.2.2.2.2.2.2.2.2.2.1 z.2.2.2.2.2.2.2.2.2.2.2.2.2.2.2.2.2.2.2.2.2.2.1 z.2.2.2.2.2.2.2.2.2.2.2.2.2.2.2.2.2.2.2.2.2.2.2.1 z.2.2.2.2.2.2.2.2.2.2.2.2.2.2.2.2.2.2.2.2.2.2.2.2.1 z.2.2.2.2.2.2.2.2.2.2.2.2.2.2.2.2.2.2.2.2.2.2.2.2.2.1 z.2.2.2.2.2.2.2.2.2.2.2.2.2.2.2.2.2.2.2.2.2.2.2.2.2.2.2.1 z.2.2.2.2.2.2.2.2.2.2.2.2.2.2.2.2.2.2.2.2.2.2.2.2.2.2.2.2.1 z.2.2.2.2.2.2.2.2.2.2.2.2.2.2.2.2.2.2.2.2.2.2.2.2.2.2.2.2.2.1 (ii (q : Int)) x1 (ii (gW w)) z.2.1 z.2.2.1 z.2.2.2.2.1 z.2.2.2.2.2.1 z.2.2.2.2.2.2.1 z.2.2.2.2.2.2.2.1 z.2.2.2.2.2.2.2.2.1 z.2.2.2.2.2.2.2.2.2.1 z.2.2.2.2.2.2.2.2.2.2.1 z.2.2.2.2.2.2.2.2.2.2.2.1 z.2.2.2.2.2.2.2.2.2.2.2.2.1 z.2.2.2.2.2.2.2.2.2.2.2.2.2.1 z.2.2.2.2.2.2.2.2.2.2.2.2.2.2.1 z.2.2.2.2.2.2.2.2.2.2.2.2.2.2.2.1 ∧ f_Mo_typeLike_4 nf fu' (ii (j : Int)) 4 (ii (w : Int)) si sj sa sb = some (ii (q : Int), si', sj', sa', sb) ∧ QF si si' sj sj' sa sa') ∨
    (∃ (si' : Nat → Int32) (sj' : Nat → Int64) (sa' : Nat → Nat → Int32), f_Zone_addTime_15 nf z.2.2.2.2.2.2.2.2.2.2.2.2.2.2.2.2.2.2.2.2.1 z.2.2.2.2.2.2.2.2.2.2.2.2.2.2.2.2.2.2.2.2.2.1 z.2.2.2.2.2.2.2.2.2.2.2.2.2.2.2.2.2.2.2.2.2.2.1 z.2.2.2.2.2.2.2.2.2.2.2.2.2.2.2.2.2.2.2.2.2.2.2.1 z.2.2.2.2.2.2.2.2.2.2.2.2.2.2.2.2.2.2.2.2.2.2.2.2.1 z.2.2.2.2.2.2.2.2.2.2.2.2.2.2.2.2.2.2.2.2.2.2.2.2.2.1 z.2.2.2.2.2.2.2.2.2.2.2.2.2.2.2.2.2.2.2.2.2.2.2.2.2.2.2.1 z.2.2.2.2.2.2.2.2.2.2.2.2.2.2.2.2.2.2.2.2.2.2.2.2.2.2.2.2.1 z.2.2.2.2.2.2.2.2.2.2.2.2.2.2.2.2.2.2.2.2.2.2.2.2.2.2.2.2.2.1 fu (ii (j : Int)) x1 (ii (gW w)) z.2.1 z.2.2.1 z.2.2.2.2.1 z.2.2.2.2.2.1 z.2.2.2.2.2.2.1 z.2.2.2.2.2.2.2.1 z.2.2.2.2.2.2.2.2.1 z.2.2.2.2.2.2.2.2.2.1 z.2.2.2.2.2.2.2.2.2.2.1 z.2.2.2.2.2.2.2.2.2.2.2.1 z.2.2.2.2.2.2.2.2.2.2.2.2.1 z.2.2.2.2.2.2.2.2.2.2.2.2.2.1 z.2.2.2.2.2.2.2.2.2.2.2.2.2.2.1 z.2.2.2.2.2.2.2.2.2.2.2.2.2.2.2.1 = f_Zone_addTime_40 nf z.2.2.2.2.2.2.2.2.2.2.2.2.2.2.2.2.2.2.2.2.1 z.2.2.2.2.2.2.2.2.2.2.2.2.2.2.2.2.2.2.2.2.2.1 z.2.2.2.2.2.2.2.2.2.2.2.2.2.2.2.2.2.2.2.2.2.2.1 z.2.2.2.2.2.2.2.2.2.2.2.2.2.2.2.2.2.2.2.2.2.2.2.1 z.2.2.2.2.2.2.2.2.2.2.2.2.2.2.2.2.2.2.2.2.2.2.2.2.1 z.2.2.2.2.2.2.2.2.2.2.2.2.2.2.2.2.2.2.2.2.2.2.2.2.2.1 z.2.2.2.2.2.2.2.2.2.2.2.2.2.2.2.2.2.2.2.2.2.2.2.2.2.2.2.1 z.2.2.2.2.2.2.2.2.2.2.2.2.2.2.2.2.2.2.2.2.2.2.2.2.2.2.2.2.1 z.2.2.2.2.2.2.2.2.2.2.2.2.2.2.2.2.2.2.2.2.2.2.2.2.2.2.2.2.2.1 (ii (t : Int)) x1 (ii (gW w)) z.2.1 z.2.2.1 z.2.2.2.2.1 z.2.2.2.2.2.1 z.2.2.2.2.2.2.1 z.2.2.2.2.2.2.2.1 z.2.2.2.2.2.2.2.2.1 z.2.2.2.2.2.2.2.2.2.1 z.2.2.2.2.2.2.2.2.2.2.1 z.2.2.2.2.2.2.2.2.2.2.2.1 z.2.2.2.2.2.2.2.2.2.2.2.2.1 z.2.2.2.2.2.2.2.2.2.2.2.2.2.1 z.2.2.2.2.2.2.2.2.2.2.2.2.2.2.1 z.2.2.2.2.2.2.2.2.2.2.2.2.2.2.2.1 ∧ f_Mo_typeLike_4 nf fu' (ii (j : Int)) 4 (ii (w : Int)) si sj sa sb = some (-1, si', sj', sa', sb) ∧ QF si si' sj sj' sa sa') := by
  have n4 : ¬ ((4 : Int32) < 0 ∨ 5 ≤ (4 : Int32).toNatClampNeg) := by decide
  have z4 : (4 : Int32).toNatClampNeg = 4 := rfl
  intro d
  induction d with
  | zero =>
    intro j fu fu' si sj sa hj hf hf' h
    obtain ⟨f, rfl⟩ : ∃ f, fu = f + 1 := ⟨fu - 1, by omega⟩
    obtain ⟨f', rfl⟩ : ∃ f', fu' = f' + 1 := ⟨fu' - 1, by omega⟩
    obtain rfl : j = t := by omega
    have v4 := h.1.2.2.2.1
    have v7 := h.1.2.2.2.2.2.2.1
    have v8 := h.1.2.2.2.2.2.2.2.1
    have le : ii (j : Int) ≤ ii (j : Int) := iple (c := 0) (d := 0) (by omega) (by omega)
    refine Or.inr ⟨si, sj, sa, ?_, ?_, QF.rf⟩
    · rw [f_Zone_addTime_15, if_pos (show z.2.2.1 ≤ ii (j : Int) by rw [v7]; exact le)]
    · rw [f_Mo_typeLike_4, if_neg n4, z4, v8, if_pos le]
  | succ d ih =>
    intro j fu fu' si sj sa hj hf hf' h
    obtain ⟨f, rfl⟩ : ∃ f, fu = f + 1 := ⟨fu - 1, by omega⟩
    obtain ⟨f', rfl⟩ : ∃ f', fu' = f' + 1 := ⟨fu' - 1, by omega⟩
    have v4 := h.1.2.2.2.1
    have v7 := h.1.2.2.2.2.2.2.1
    have v8 := h.1.2.2.2.2.2.2.2.1
    have lt : j < t := by omega
    have vj : vg t r hs (j : Int) := Or.inl ⟨by omega, by omega⟩
    obtain ⟨vw, vgw⟩ := h.vwg hr hh hw
    obtain ⟨q, q1, q2⟩ := h.same hnf (g := (j : Int)) (g' := gW w) (Or.inl vj) (Or.inl vgw)
    obtain ⟨si1, sa1, m1, m2⟩ := h.byType (nf := nf) (si := si) (sj := sj) hnf lt
    obtain ⟨_, k45, k46, k47, kn⟩ := m2.dat
    unfold dval at k45 k46
    unfold dsz at k47 kn
    rw [if_neg (show ¬ (j : Int) = -3 by omega)] at k45 k46 k47 kn
    have fr : frA sa sa1 := fun a h1 _ => m2.frA a h1
    obtain ⟨q', r1, r2⟩ := mtyc (nf := nf) (sj := sj) (sb := sb) (K := f_Mo_typeLike_4 nf f') hnf hw (show (j : Int) ≠ -3 by omega) (gW_n3 w) (h.bdg (Or.inl vj) (by omega)) (h.bdg (Or.inl vgw) (gW_n3 w)) k45 k46 k47 kn (vw.fr fr) (ii (j : Int))
    have pp : q = q' := Bool.eq_iff_iff.mpr (q1.trans r1.symm)
    subst pp
    have qf : QF si si1 sj sj sa sa1 := ⟨fun k hk => m2.frI k (by omega), fun _ _ => rfl, fr⟩
    have cC : f_Zone_addTime_15 nf z.2.2.2.2.2.2.2.2.2.2.2.2.2.2.2.2.2.2.2.2.1 z.2.2.2.2.2.2.2.2.2.2.2.2.2.2.2.2.2.2.2.2.2.1 z.2.2.2.2.2.2.2.2.2.2.2.2.2.2.2.2.2.2.2.2.2.2.1 z.2.2.2.2.2.2.2.2.2.2.2.2.2.2.2.2.2.2.2.2.2.2.2.1 z.2.2.2.2.2.2.2.2.2.2.2.2.2.2.2.2.2.2.2.2.2.2.2.2.1 z.2.2.2.2.2.2.2.2.2.2.2.2.2.2.2.2.2.2.2.2.2.2.2.2.2.1 z.2.2.2.2.2.2.2.2.2.2.2.2.2.2.2.2.2.2.2.2.2.2.2.2.2.2.2.1 z.2.2.2.2.2.2.2.2.2.2.2.2.2.2.2.2.2.2.2.2.2.2.2.2.2.2.2.2.1 z.2.2.2.2.2.2.2.2.2.2.2.2.2.2.2.2.2.2.2.2.2.2.2.2.2.2.2.2.2.1 (f + 1) (ii (j : Int)) x1 (ii (gW w)) z.2.1 z.2.2.1 z.2.2.2.2.1 z.2.2.2.2.2.1 z.2.2.2.2.2.2.1 z.2.2.2.2.2.2.2.1 z.2.2.2.2.2.2.2.2.1 z.2.2.2.2.2.2.2.2.2.1 z.2.2.2.2.2.2.2.2.2.2.1 z.2.2.2.2.2.2.2.2.2.2.2.1 z.2.2.2.2.2.2.2.2.2.2.2.2.1 z.2.2.2.2.2.2.2.2.2.2.2.2.2.1 z.2.2.2.2.2.2.2.2.2.2.2.2.2.2.1 z.2.2.2.2.2.2.2.2.2.2.2.2.2.2.2.1 = if bI q = 0 then f_Zone_addTime_15 nf z.2.2.2.2.2.2.2.2.2.2.2.2.2.2.2.2.2.2.2.2.1 z.2.2.2.2.2.2.2.2.2.2.2.2.2.2.2.2.2.2.2.2.2.1 z.2.2.2.2.2.2.2.2.2.2.2.2.2.2.2.2.2.2.2.2.2.2.1 z.2.2.2.2.2.2.2.2.2.2.2.2.2.2.2.2.2.2.2.2.2.2.2.1 z.2.2.2.2.2.2.2.2.2.2.2.2.2.2.2.2.2.2.2.2.2.2.2.2.1 z.2.2.2.2.2.2.2.2.2.2.2.2.2.2.2.2.2.2.2.2.2.2.2.2.2.1 z.2.2.2.2.2.2.2.2.2.2.2.2.2.2.2.2.2.2.2.2.2.2.2.2.2.2.2.1 z.2.2.2.2.2.2.2.2.2.2.2.2.2.2.2.2.2.2.2.2.2.2.2.2.2.2.2.2.1 z.2.2.2.2.2.2.2.2.2.2.2.2.2.2.2.2.2.2.2.2.2.2.2.2.2.2.2.2.2.1 f (ii ((j + 1 : Nat) : Int)) x1 (ii (gW w)) z.2.1 z.2.2.1 z.2.2.2.2.1 z.2.2.2.2.2.1 z.2.2.2.2.2.2.1 z.2.2.2.2.2.2.2.1 z.2.2.2.2.2.2.2.2.1 z.2.2.2.2.2.2.2.2.2.1 z.2.2.2.2.2.2.2.2.2.2.1 z.2.2.2.2.2.2.2.2.2.2.2.1 z.2.2.2.2.2.2.2.2.2.2.2.2.1 z.2.2.2.2.2.2.2.2.2.2.2.2.2.1 z.2.2.2.2.2.2.2.2.2.2.2.2.2.2.1 z.2.2.2.2.2.2.2.2.2.2.2.2.2.2.2.1 else f_Zone_addTime_40 nf z.2.2.2.2.2.2.2.2.2.2.2.2.2.2.2.2.2.2.2.2.1 z.2.2.2.2.2.2.2.2.2.2.2.2.2.2.2.2.2.2.2.2.2.1 z.2.2.2.2.2.2.2.2.2.2.2.2.2.2.2.2.2.2.2.2.2.2.1 z.2.2.2.2.2.2.2.2.2.2.2.2.2.2.2.2.2.2.2.2.2.2.2.1 z.2.2.2.2.2.2.2.2.2.2.2.2.2.2.2.2.2.2.2.2.2.2.2.2.1 z.2.2.2.2.2.2.2.2.2.2.2.2.2.2.2.2.2.2.2.2.2.2.2.2.2.1 z.2.2.2.2.2.2.2.2.2.2.2.2.2.2.2.2.2.2.2.2.2.2.2.2.2.2.2.1 z.2.2.2.2.2.2.2.2.2.2.2.2.2.2.2.2.2.2.2.2.2.2.2.2.2.2.2.2.1 z.2.2.2.2.2.2.2.2.2.2.2.2.2.2.2.2.2.2.2.2.2.2.2.2.2.2.2.2.2.1 (ii (j : Int)) x1 (ii (gW w)) z.2.1 z.2.2.1 z.2.2.2.2.1 z.2.2.2.2.2.1 z.2.2.2.2.2.2.1 z.2.2.2.2.2.2.2.1 z.2.2.2.2.2.2.2.2.1 z.2.2.2.2.2.2.2.2.2.1 z.2.2.2.2.2.2.2.2.2.2.1 z.2.2.2.2.2.2.2.2.2.2.2.1 z.2.2.2.2.2.2.2.2.2.2.2.2.1 z.2.2.2.2.2.2.2.2.2.2.2.2.2.1 z.2.2.2.2.2.2.2.2.2.2.2.2.2.2.1 z.2.2.2.2.2.2.2.2.2.2.2.2.2.2.2.1 := by
      rw [f_Zone_addTime_15, if_neg (show ¬ z.2.2.1 ≤ ii (j : Int) by rw [v7]; exact inle lt (by omega)), q2, Option.bind_some, iiS]
    have cR : f_Mo_typeLike_4 nf (f' + 1) (ii (j : Int)) 4 (ii (w : Int)) si sj sa sb = f_Mo_typeLike_126 nf (f_Mo_typeLike_4 nf f') (bI q) (ii (j : Int)) 4 (ii (w : Int)) si1 sj sa1 sb := by
      have m1' : f_Mo_byType nf 4 (ii (j : Int)) si sj sa sb = some (si1, sj, sa1, sb) := m1
      rw [f_Mo_typeLike_4, if_neg n4, z4, v8, if_neg (inle lt (by omega)), m1', Option.bind_some]
      exact r2
    unfold f_Mo_typeLike_126 at cR
    cases q with
    | true =>
      rw [if_neg (show ¬ bI true = 0 by decide)] at cC cR
      exact Or.inl ⟨j, si1, sj, sa1, lt, cC, cR, qf⟩
    | false =>
      rw [if_pos (show bI false = 0 from rfl)] at cC cR
      rw [iiS] at cR
      rcases ih (j + 1) f f' si1 sj sa1 (by omega) (by omega) (by omega) (h.fr fr) with ⟨q, si2, sj2, sa2, x1', x2, x3, x4⟩ | ⟨si2, sj2, sa2, x2, x3, x4⟩
      · exact Or.inl ⟨q, si2, sj2, sa2, x1', cC.trans x2, cR.trans x3, qf.tr x4⟩
      · exact Or.inr ⟨si2, sj2, sa2, cC.trans x2, cR.trans x3, qf.tr x4⟩
/-! where a name stands among the letters -/
theorem cpl24 {tyc spx upx txS cs x1 : Int32} {X txA A T Nm : Nat → Int32} {txN N c k s : Nat} {K : Int32 → Int32 → Int32 → Int32 → Nat → (Nat → Int32) → Option ((Int32 × Int32 × Nat × (Nat → Int32)) × Nat × Nat)} (hb : RB cs N A c T) (hc : c ≤ 6000) (hk : k + s < c) (hN : ∀ m, m < s → f_Zone_nameByte nf x1 (ii (m : Int)) tyc X cs N A spx upx txS txN txA = some (Nm m)) : ∀ (d j fu : Nat), j + d = s → d < fu → ∃ q : Bool, (q = true ↔ (∀ m, j ≤ m → m < s → T (k + m) = Nm m) ∧ T (k + s) = 0) ∧ f_Zone_placeOfName_24 nf tyc X spx upx txS txN txA K fu (ii (j : Int)) (ii (k : Int)) (ii (s : Int)) x1 cs N A = if q = true then some ((ii (k : Int), cs, N, A), 0, 0) else K (ii ((k + 1 : Nat) : Int)) (ii (s : Int)) x1 cs N A := by
  intro d
  induction d with
  | zero =>
    intro j fu hj hf
    obtain ⟨f, rfl⟩ : ∃ f, fu = f + 1 := ⟨fu - 1, by omega⟩
    obtain rfl : j = s := by omega
    rw [f_Zone_placeOfName_24, if_pos (iple (c := 0) (d := 0) (show j ≤ j by omega) (by omega))]
    unfold f_Zone_placeOfName_57 f_Zone_placeOfName_78
    rw [if_pos rfl, show ii (k : Int) + ii (j : Int) = ii ((k + j : Nat) : Int) by rw [ii_add]; congr 1, hb.get (k := k + j) (by omega), Option.bind_some, iiS]
    by_cases z0 : T (k + j) = 0
    · rw [if_pos z0]
      exact ⟨true, ⟨fun _ => ⟨fun m h1 h2 => by omega, z0⟩, fun _ => rfl⟩, rfl⟩
    · rw [if_neg z0]
      exact ⟨false, ⟨fun y => (by cases y), fun y => absurd y.2 z0⟩, rfl⟩
  | succ d ih =>
    intro j fu hj hf
    obtain ⟨f, rfl⟩ : ∃ f, fu = f + 1 := ⟨fu - 1, by omega⟩
    rw [f_Zone_placeOfName_24, if_neg (inle (show j < s by omega) (by omega)), show ii (k : Int) + ii (j : Int) = ii ((k + j : Nat) : Int) by rw [ii_add]; congr 1, hb.get (k := k + j) (by omega), Option.bind_some, hN j (by omega), Option.bind_some]
    by_cases e0 : T (k + j) = Nm j
    · rw [if_pos e0, iiS]
      obtain ⟨q, h1, h2⟩ := ih (j + 1) f (by omega) (by omega)
      refine ⟨q, ⟨fun y => ⟨fun m a1 a2 => ?_, (h1.mp y).2⟩, fun y => h1.mpr ⟨fun m a1 a2 => y.1 m (by omega) a2, y.2⟩⟩, h2⟩
      by_cases em : m = j
      · rw [em]
        exact e0
      · exact (h1.mp y).1 m (by omega) a2
    · rw [if_neg e0]
      unfold f_Zone_placeOfName_57 f_Zone_placeOfName_78
      rw [if_neg (show ¬ ii (j : Int) = ii (s : Int) by rw [ii_eq (by omega) (by omega) (by omega) (by omega)]; omega), iiS]
      exact ⟨false, ⟨fun y => (by cases y), fun y => absurd (y.1 j (by omega) (by omega)) e0⟩, rfl⟩
theorem mll57z {K : Int32 → Int32 → Int32 → Int32 → Option Int32} {x x1 x2 x3 x4 : Int32} (f : Nat) : f_Mo_lettersLike_57 nf sa K (f + 1) x 0 x4 x3 x2 x1 = K (x4 + 1) x3 x2 x1 := by
  rw [f_Mo_lettersLike_57]
  unfold f_Mo_lettersLike_117
  by_cases c : x3 ≤ x
  · rw [if_pos c, if_pos rfl]
  · rw [if_neg c, if_pos rfl, if_pos rfl]
theorem mll57 {K : Int32 → Int32 → Int32 → Int32 → Option Int32} {k s w : Nat} (hk : k + s < 200) (hw : w < 2) (hs : s ≤ 10) : ∀ (d j fu : Nat), j + d = s → d < fu → ∃ q : Bool, (q = true ↔ ∀ m, j ≤ m → m < s → sa 17 (800 + (k + m)) = sa 26 (80 + 10 * w + m)) ∧ f_Mo_lettersLike_57 nf sa K fu (ii (j : Int)) 1 (ii (k : Int)) (ii (s : Int)) 4 (ii (w : Int)) = if q = true then some (ii (k : Int)) else K (ii ((k + 1 : Nat) : Int)) (ii (s : Int)) 4 (ii (w : Int)) := by
  intro d
  induction d with
  | zero =>
    intro j fu hj hf
    obtain ⟨f, rfl⟩ : ∃ f, fu = f + 1 := ⟨fu - 1, by omega⟩
    rw [f_Mo_lettersLike_57, if_pos (iple (c := 0) (d := 0) (show s ≤ j by omega) (by omega))]
    exact ⟨true, ⟨fun _ m h1 h2 => by omega, fun _ => rfl⟩, rfl⟩
  | succ d ih =>
    intro j fu hj hf
    obtain ⟨f, rfl⟩ : ∃ f, fu = f + 2 := ⟨fu - 2, by omega⟩
    obtain ⟨i1, i2⟩ := nidx (k := 800 + (k + j)) (m := 1000) (by omega) (by omega)
    obtain ⟨i3, i4⟩ := nidx (k := 80 + 10 * w + j) (m := 100) (by omega) (by omega)
    have e17 : 200 * (4 : Int32) + ii (k : Int) + ii (j : Int) = ii ((800 + (k + j) : Nat) : Int) := by
      rw [show (200 * (4 : Int32)) = ii 800 from rfl, ii_add, ii_add]
      congr 1
      omega
    rw [f_Mo_lettersLike_57, if_neg (inle (show j < s by omega) (by omega)), if_neg (show ¬ (1 : Int32) = 0 by decide), e17, i1, if_neg i2, e26, i3, if_neg i4]
    unfold f_Mo_lettersLike_109
    by_cases c : sa 17 (800 + (k + j)) = sa 26 (80 + 10 * w + j)
    · rw [if_pos c, iiS]
      obtain ⟨q, h1, h2⟩ := ih (j + 1) (f + 1) (by omega) (by omega)
      refine ⟨q, ⟨fun y m a1 a2 => ?_, fun y => h1.mpr (fun m a1 a2 => y m (by omega) a2)⟩, h2⟩
      by_cases em : m = j
      · rw [em]
        exact c
      · exact h1.mp y m (by omega) a2
    · rw [if_neg c, mll57z, iiS]
      exact ⟨false, ⟨fun y => (by cases y), fun y => absurd (y j (by omega) (by omega)) c⟩, rfl⟩
theorem pln {tyc spx upx ssx usx txS cs x1 : Int32} {X txA A Nm : Nat → Int32} {txN N c s w : Nat} (hnf : 10000 ≤ nf) (hb : RB cs N A c (fun k => sa 17 (800 + k))) (hc : c ≤ 200) (hs : s ≤ 10) (hw : w < 2) (h7 : sa 7 4 = ii (c : Int)) (hN : ∀ m, m < s → f_Zone_nameByte nf x1 (ii (m : Int)) tyc X cs N A spx upx txS txN txA = some (Nm m)) (hM : ∀ m, m < s → sa 26 (80 + 10 * w + m) = Nm m) : ∀ (d k fu fu' : Nat), c ≤ k + s + d → k ≤ 300 → d < fu → d < fu' →
    (∃ q : Nat, q + s < c ∧ (∀ m, m < s → sa 17 (800 + (q + m)) = Nm m) ∧ sa 17 (800 + (q + s)) = 0 ∧ f_Zone_placeOfName_8 nf tyc X spx ssx upx usx txS txN txA fu (ii (k : Int)) (ii (s : Int)) x1 cs N A = some ((ii (q : Int), cs, N, A), 0, 0) ∧ f_Mo_lettersLike_16 nf sa fu' (ii (k : Int)) (ii (s : Int)) 4 (ii (w : Int)) = some (ii (q : Int))) ∨
    (f_Zone_placeOfName_8 nf tyc X spx ssx upx usx txS txN txA fu (ii (k : Int)) (ii (s : Int)) x1 cs N A = f_Zone_placeOfName_8 nf tyc X spx ssx upx usx txS txN txA 1 300 (ii (s : Int)) x1 cs N A ∧ f_Mo_lettersLike_16 nf sa fu' (ii (k : Int)) (ii (s : Int)) 4 (ii (w : Int)) = some (-1)) := by
  have n4 : ¬ ((4 : Int32) < 0 ∨ 5 ≤ (4 : Int32).toNatClampNeg) := by decide
  have z4 : (4 : Int32).toNatClampNeg = 4 := rfl
  have stop : ∀ (k f f' : Nat), c ≤ k + s → k ≤ 300 → f_Zone_placeOfName_8 nf tyc X spx ssx upx usx txS txN txA (f + 1) (ii (k : Int)) (ii (s : Int)) x1 cs N A = f_Zone_placeOfName_8 nf tyc X spx ssx upx usx txS txN txA 1 300 (ii (s : Int)) x1 cs N A ∧ f_Mo_lettersLike_16 nf sa (f' + 1) (ii (k : Int)) (ii (s : Int)) 4 (ii (w : Int)) = some (-1) := by
    intro k f f' hk hk2
    have ek : ii (k : Int) + ii (s : Int) = ii ((k + s : Nat) : Int) := by rw [ii_add]; congr 1
    have e3 : (300 : Int32) + ii (s : Int) = ii ((300 + s : Nat) : Int) := by rw [show (300 : Int32) = ii 300 from rfl, ii_add]; congr 1
    constructor
    · rw [f_Zone_placeOfName_8, if_pos (show cs ≤ ii (k : Int) + ii (s : Int) by rw [hb.1, ek]; exact iple (c := 0) (d := 0) hk (by omega)), show (1 : Nat) = 0 + 1 from rfl, f_Zone_placeOfName_8, if_pos (show cs ≤ (300 : Int32) + ii (s : Int) by rw [hb.1, e3]; exact iple (c := 0) (d := 0) (by omega) (by omega))]
    · rw [f_Mo_lettersLike_16, if_neg n4, z4, h7, ek, if_pos (iple (c := 0) (d := 0) hk (by omega))]
  intro d
  induction d with
  | zero =>
    intro k fu fu' hk hk2 hf hf'
    obtain ⟨f, rfl⟩ : ∃ f, fu = f + 1 := ⟨fu - 1, by omega⟩
    obtain ⟨f', rfl⟩ : ∃ f', fu' = f' + 1 := ⟨fu' - 1, by omega⟩
    exact Or.inr (stop k f f' (by omega) hk2)
  | succ d ih =>
    intro k fu fu' hk hk2 hf hf'
    obtain ⟨f, rfl⟩ : ∃ f, fu = f + 1 := ⟨fu - 1, by omega⟩
    obtain ⟨f', rfl⟩ : ∃ f', fu' = f' + 1 := ⟨fu' - 1, by omega⟩
    by_cases lt : k + s < c
    · have ek : ii (k : Int) + ii (s : Int) = ii ((k + s : Nat) : Int) := by rw [ii_add]; congr 1
      obtain ⟨q, q1, q2⟩ := cpl24 (nf := nf) (K := f_Zone_placeOfName_8 nf tyc X spx ssx upx usx txS txN txA f) hb (by omega) lt hN s 0 nf (by omega) (by omega)
      rw [show ii ((0 : Nat) : Int) = 0 from rfl] at q2
      obtain ⟨i1, i2⟩ := nidx (k := 800 + (k + s)) (m := 1000) (by omega) (by omega)
      have e17 : 200 * (4 : Int32) + ii (k : Int) + ii (s : Int) = ii ((800 + (k + s) : Nat) : Int) := by
        rw [show (200 * (4 : Int32)) = ii 800 from rfl, ii_add, ii_add]
        congr 1
        omega
      have cC : f_Zone_placeOfName_8 nf tyc X spx ssx upx usx txS txN txA (f + 1) (ii (k : Int)) (ii (s : Int)) x1 cs N A = if q = true then some ((ii (k : Int), cs, N, A), 0, 0) else f_Zone_placeOfName_8 nf tyc X spx ssx upx usx txS txN txA f (ii ((k + 1 : Nat) : Int)) (ii (s : Int)) x1 cs N A := by
        rw [f_Zone_placeOfName_8, if_neg (show ¬ cs ≤ ii (k : Int) + ii (s : Int) by rw [hb.1, ek]; exact inle lt (by omega))]
        exact q2
      have cR : f_Mo_lettersLike_16 nf sa (f' + 1) (ii (k : Int)) (ii (s : Int)) 4 (ii (w : Int)) = if q = true then some (ii (k : Int)) else f_Mo_lettersLike_16 nf sa f' (ii ((k + 1 : Nat) : Int)) (ii (s : Int)) 4 (ii (w : Int)) := by
        rw [f_Mo_lettersLike_16, if_neg n4, z4, h7, if_neg (show ¬ ii (c : Int) ≤ ii (k : Int) + ii (s : Int) by rw [ek]; exact inle lt (by omega)), e17, i1, if_neg i2]
        unfold f_Mo_lettersLike_52
        by_cases z0 : sa 17 (800 + (k + s)) = 0
        · rw [if_pos z0]
          obtain ⟨q', r1, r2⟩ := mll57 (nf := nf) (sa := sa) (K := f_Mo_lettersLike_16 nf sa f') (k := k) (s := s) (w := w) (by omega) hw hs s 0 nf (by omega) (by omega)
          rw [show ii ((0 : Nat) : Int) = 0 from rfl] at r2
          rw [r2]
          have pp : q = q' := Bool.eq_iff_iff.mpr (q1.trans ⟨fun y => r1.mpr (fun m a1 a2 => (y.1 m (by omega) a2).trans (hM m a2).symm), fun y => ⟨fun m _ a2 => (r1.mp y m (by omega) a2).trans (hM m a2), z0⟩⟩)
          rw [pp]
        · rw [if_neg z0]
          have qn : ¬ q = true := fun y => z0 (q1.mp y).2
          obtain ⟨m, hm⟩ : ∃ m, nf = m + 1 := ⟨nf - 1, by omega⟩
          have g := mll57z (nf := nf) (sa := sa) (K := f_Mo_lettersLike_16 nf sa f') (x := 0) (x1 := ii (w : Int)) (x2 := 4) (x3 := ii (s : Int)) (x4 := ii (k : Int)) m
          rw [← hm] at g
          rw [g, if_neg qn, iiS]
      cases q with
      | true =>
        rw [if_pos rfl] at cC cR
        exact Or.inl ⟨k, lt, fun m hm => (q1.mp rfl).1 m (by omega) hm, (q1.mp rfl).2, cC, cR⟩
      | false =>
        rw [if_neg (by decide)] at cC cR
        rcases ih (k + 1) f f' (by omega) (by omega) (by omega) (by omega) with ⟨q, x1, x2, x3, x4, x5⟩ | ⟨x4, x5⟩
        · exact Or.inl ⟨q, x1, x2, x3, cC.trans x4, cR.trans x5⟩
        · exact Or.inr ⟨cC.trans x4, cR.trans x5⟩
    · exact Or.inr (stop k f f' (by omega) hk2)
end
