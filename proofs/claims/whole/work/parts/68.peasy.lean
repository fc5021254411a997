/-! ===== the calls that only read ===== -/
theorem thr_ok (nf : Nat) (si : Nat → Int32) (sj : Nat → Int64) (sa : Nat → Nat → Int32) (sb : Nat → Nat → Int64) : f_Mo_thrown nf si sj sa sb = some (si 3) := rfl
theorem zcase (p0 : Int32) : (∃ i : Nat, i < 4 ∧ p0 = ii (i : Int)) ∨ (∀ nf, f_ZF_checkZone nf p0 = none ∧ g_ZF_checkZone nf p0 = some 1 ∧ ∀ si sj sa sb, f_Mo_noZone nf p0 si sj sa sb = some 1) := by
  obtain ⟨v, rfl, h1, h2⟩ := ii_all p0
  by_cases c : 0 ≤ v ∧ v < 4
  · exact Or.inl ⟨v.toNat, by omega, by congr 1; omega⟩
  · refine Or.inr (fun nf => ?_)
    unfold f_ZF_checkZone f_ZF_checkZone_0 f_ZF_checkZone_9 g_ZF_checkZone g_ZF_checkZone_0 g_ZF_checkZone_9 f_Mo_noZone f_Mo_noZone_0 f_Mo_noZone_9 f_Mo_noZone_14
    simp only [ii_lit]
    by_cases c1 : v < 0
    · have q := (ii_lt h1 h2 (show -2147483648 ≤ (0 : Int) by omega) (by omega)).mpr c1
      simp only [if_pos q]
      exact ⟨trivial, trivial, fun _ _ _ _ => rfl⟩
    · have q : ¬ ii v < ii 0 := fun z => c1 ((ii_lt h1 h2 (by omega) (by omega)).mp z)
      have q2 : ¬ ii v < ii 4 := fun z => by rw [ii_lt h1 h2 (by omega) (by omega)] at z; omega
      simp only [if_neg q, if_neg q2]
      exact ⟨trivial, trivial, fun _ _ _ _ => rfl⟩
theorem zgood {i : Nat} (hi : i < 4) (nf : Nat) : f_ZF_checkZone nf (ii (i : Int)) = some () ∧ g_ZF_checkZone nf (ii (i : Int)) = none ∧ (∀ si sj sa sb, f_Mo_noZone nf (ii (i : Int)) si sj sa sb = some 0) ∧ zx (ii (i : Int)) = i ∧ (ii (i : Int)).toNatClampNeg = i ∧ ¬ (ii (i : Int) < 0 ∨ 4 ≤ i) ∧ ¬ (ii (i : Int) < 0 ∨ 5 ≤ i) := by
  have e : (ii (i : Int)).toNatClampNeg = i := by rw [ii_nat (by omega) (by omega)]; omega
  have q : ¬ ii (i : Int) < 0 := by rw [ii_lit, ii_lt (by omega) (by omega) (by omega) (by omega)]; omega
  have q2 : ii (i : Int) < 4 := by rw [ii_lit, ii_lt (by omega) (by omega) (by omega) (by omega)]; omega
  refine ⟨?_, ?_, ?_, ?_, e, ?_, ?_⟩
  · unfold f_ZF_checkZone f_ZF_checkZone_0
    rw [if_neg q, if_pos q2]
  · unfold g_ZF_checkZone g_ZF_checkZone_0
    rw [if_neg q, if_pos q2]
  · intro si sj sa sb
    unfold f_Mo_noZone f_Mo_noZone_0 f_Mo_noZone_14
    rw [if_neg q, if_pos q2]
    rfl
  · unfold zx
    rw [e, if_pos hi]
  · rintro (z | z)
    · exact q z
    · omega
  · rintro (z | z)
    · exact q z
    · omega
theorem xcase (x : Int32) {n : Nat} (hn : n ≤ 100000) : (∃ k : Nat, k < n ∧ x = ii (k : Int)) ∨ ((∀ nf, f_ZF_checkIndex nf x (ii (n : Int)) = none ∧ g_ZF_checkIndex nf x (ii (n : Int)) = some 1) ∧ (x < 0 ∨ ¬ x < 0 ∧ ii (n : Int) ≤ x ∧ ¬ x < ii (n : Int))) := by
  obtain ⟨v, rfl, h1, h2⟩ := ii_all x
  by_cases c : 0 ≤ v ∧ v < n
  · exact Or.inl ⟨v.toNat, by omega, by congr 1; omega⟩
  · right
    rw [ii_lit]
    unfold f_ZF_checkIndex f_ZF_checkIndex_0 f_ZF_checkIndex_9 g_ZF_checkIndex g_ZF_checkIndex_0 g_ZF_checkIndex_9
    simp only [ii_lit]
    by_cases c1 : v < 0
    · have q := (ii_lt h1 h2 (show -2147483648 ≤ (0 : Int) by omega) (by omega)).mpr c1
      exact ⟨fun nf => ⟨by rw [if_pos q], by rw [if_pos q]⟩, Or.inl q⟩
    · have q : ¬ ii v < ii 0 := fun z => c1 ((ii_lt h1 h2 (by omega) (by omega)).mp z)
      have q2 : ¬ ii v < ii (n : Int) := fun z => by rw [ii_lt h1 h2 (by omega) (by omega)] at z; omega
      exact ⟨fun nf => ⟨by rw [if_neg q, if_neg q2], by rw [if_neg q, if_neg q2]⟩, Or.inr ⟨q, (ii_le (by omega) (by omega) h1 h2).mpr (by omega), q2⟩⟩
theorem xgood {k n : Nat} (hk : k < n) (hn : n ≤ 100000) (nf : Nat) : f_ZF_checkIndex nf (ii (k : Int)) (ii (n : Int)) = some () ∧ g_ZF_checkIndex nf (ii (k : Int)) (ii (n : Int)) = none ∧ ¬ ii (k : Int) < 0 ∧ ii (k : Int) < ii (n : Int) ∧ ¬ ii (n : Int) ≤ ii (k : Int) ∧ (ii (k : Int)).toNatClampNeg = k := by
  have e : (ii (k : Int)).toNatClampNeg = k := by rw [ii_nat (by omega) (by omega)]; omega
  have q : ¬ ii (k : Int) < 0 := by rw [ii_lit, ii_lt (by omega) (by omega) (by omega) (by omega)]; omega
  have q2 : ii (k : Int) < ii (n : Int) := by rw [ii_lt (by omega) (by omega) (by omega) (by omega)]; omega
  refine ⟨?_, ?_, q, q2, ?_, e⟩
  · unfold f_ZF_checkIndex f_ZF_checkIndex_0
    rw [if_neg q, if_pos q2]
  · unfold g_ZF_checkIndex g_ZF_checkIndex_0
    rw [if_neg q, if_pos q2]
  · rw [ii_le (by omega) (by omega) (by omega) (by omega)]
    omega
/-- the place of number k of zone i in rows of w -/
theorem slice {w i k m : Nat} (hw : w ≤ 200) (hi : i < 5) (hk : k < w) (hm : 5 * w ≤ m) (hm2 : m ≤ 100000) : (ii (w : Int) * ii (i : Int) + ii (k : Int)).toNatClampNeg = w * i + k ∧ ¬ (ii (w : Int) * ii (i : Int) + ii (k : Int) < 0 ∨ m ≤ w * i + k) := by
  have hwi : w * i ≤ w * 4 := Nat.mul_le_mul_left w (by omega)
  have e0 : ii (w : Int) * ii (i : Int) + ii (k : Int) = ii ((w * i + k : Nat) : Int) := by
    rw [ii_mul, ii_add]
    congr 1
  have e : (ii ((w * i + k : Nat) : Int)).toNatClampNeg = w * i + k := by rw [ii_nat (by omega) (by omega)]; omega
  refine ⟨by rw [e0, e], ?_⟩
  rw [e0, ii_lit, ii_lt (by omega) (by omega) (by omega) (by omega)]
  omega
theorem st_place (nf : Nat) (S : CS) (M : MS) (h : RR S M) : STDi RR S (cq_place nf S) (f_Mo_place nf M.1 M.2.1 M.2.2.1 M.2.2.2) :=
  ⟨S.1.2.2.2.2.2.2.2.1, S, 0, 0, M.1 2, (va_up M.1 3 0, M.2.1, M.2.2.1, M.2.2.2), rfl, rfl, h.2.2.1, h.thr 0, by omega, by omega⟩
theorem st_time (nf : Nat) (S : CS) (M : MS) (p0 p1 : Int32) (h : RR S M) : STWj nf RR S (cq_time nf S p0 p1) (f_Mo_time nf p0 p1 M.1 M.2.1 M.2.2.1 M.2.2.2) := by
  obtain ⟨si, sj, sa, sb⟩ := M
  have bad : g_ZF_time nf p0 p1 (S.2 (zx p0)).2.1 = some 1 → f_ZF_time nf p0 p1 (S.2 (zx p0)).2.1 (S.2 (zx p0)).2.2.2.2.2.2.1 = none → f_Mo_time nf p0 p1 si sj sa sb = some (0, va_up si 3 1, sj, sa, sb) → STWj nf RR S (cq_time nf S p0 p1) (f_Mo_time nf p0 p1 si sj sa sb) := by
    intro q1 q2 q3
    refine ⟨1, 0, S, 1, 6, 0, (va_up si 3 1, sj, sa, sb), ?_, q3, rfl, fun z => absurd z (by decide), h.thr 1, by omega, by omega⟩
    unfold cq_time
    rw [q2, q1]
    rfl
  rcases zcase p0 with ⟨i, hi, rfl⟩ | hz
  · obtain ⟨a1, a2, a3, a4, a5, a6, a7⟩ := zgood hi nf
    obtain ⟨n, t, c, l, d, u, r, tm, tt, of, ds, ix, sz, ⟨_, _, ⟨c3, c4, c5⟩, _⟩, _, _, ⟨ht, _⟩, _⟩ := h.2.2.2.2.2.1 i hi
    dsimp only at *
    rcases xcase p1 (n := n) (by omega) with ⟨k, hk, rfl⟩ | ⟨hx, hx2⟩
    · obtain ⟨b1, b2, b3, b4, b5, b6⟩ := xgood hk (by omega) nf
      obtain ⟨s1, s2⟩ := slice (w := 200) (i := i) (k := k) (m := 1000) (by omega) (by omega) (by omega) (by omega) (by omega)
      obtain ⟨g1, g2, _⟩ := ht k hk
      refine ⟨0, jj (tm k), S, 0, 0, jj (tm k), (va_up si 3 0, sj, sa, sb), ?_, ?_, rfl, fun _ => rfl, h.thr 0, by omega, by omega⟩
      · unfold cq_time f_ZF_time f_ZF_time_0
        rw [a4, c3, a1, Option.bind_some, a5, if_neg a6, b1, Option.bind_some, if_neg a6, b6, if_neg (by rintro (z | z); exact b3 z; omega), g1]
      · unfold f_Mo_time f_Mo_time_0 f_Mo_time_28 f_Mo_time_54
        have s1' : (200 * ii (i : Int) + ii (k : Int)).toNatClampNeg = 200 * i + k := s1
        have s2' : ¬ (200 * ii (i : Int) + ii (k : Int) < 0 ∨ 1000 ≤ 200 * i + k) := s2
        rw [a3, Option.bind_some, if_pos rfl, if_neg b3, a5, if_neg a7, c4, if_pos b4, if_pos (by decide), s1', if_neg s2', g2]
    · refine bad ?_ ?_ ?_
      · unfold g_ZF_time g_ZF_time_0
        rw [a4, c3, a2, a1, a5]
        simp only [orT, Option.bind_some, if_neg a6, (hx nf).2]
      · unfold f_ZF_time f_ZF_time_0
        rw [a4, c3, a1, Option.bind_some, a5, if_neg a6, (hx nf).1]
        rfl
      · unfold f_Mo_time f_Mo_time_0 f_Mo_time_23 f_Mo_time_28 f_Mo_time_54
        rw [a3, Option.bind_some, if_pos rfl, a5, if_neg a7, c4]
        rcases hx2 with hx2 | ⟨hx2, _, hx3⟩
        · rw [if_pos hx2, if_neg (by decide)]
        · rw [if_neg hx2, if_neg hx3, if_neg (by decide)]
  · refine bad ?_ ?_ ?_
    · unfold g_ZF_time g_ZF_time_0
      rw [(hz nf).2.1]
      rfl
    · unfold f_ZF_time f_ZF_time_0
      rw [(hz nf).1]
      rfl
    · unfold f_Mo_time f_Mo_time_0 f_Mo_time_23 f_Mo_time_28 f_Mo_time_54
      rw [(hz nf).2.2, Option.bind_some, if_neg (by decide), if_neg (by decide)]
