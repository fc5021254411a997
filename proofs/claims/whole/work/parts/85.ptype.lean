/-! ===== sizes of names ===== -/
/-- m bytes that aren't 0 stand from x on; behind them stands a 0 or nothing -/
def NZ (T : Nat → Int32) (c x m : Nat) : Prop := x + m ≤ c ∧ (∀ k, k < m → T (x + k) ≠ 0) ∧ (x + m < c → T (x + m) = 0)
theorem NZ.ex (T : Nat → Int32) (c : Nat) : ∀ (j x : Nat), x + j = c → ∃ m, NZ T c x m := by
  intro j
  induction j with
  | zero => intro x hx; exact ⟨0, by omega, fun k hk => by omega, fun h => by omega⟩
  | succ j ih =>
    intro x hx
    by_cases h : T x = 0
    · exact ⟨0, by omega, fun k hk => by omega, fun _ => h⟩
    · obtain ⟨m, h1, h2, h3⟩ := ih (x + 1) (by omega)
      refine ⟨m + 1, by omega, fun k hk => ?_, fun q => ?_⟩
      · by_cases c0 : k = 0
        · subst c0; exact h
        · have := h2 (k - 1) (by omega)
          rw [show x + 1 + (k - 1) = x + k by omega] at this
          exact this
      · have := h3 (by omega)
        rw [show x + 1 + m = x + (m + 1) by omega] at this
        exact this
theorem nmb_nz {v : Int} (h : nmb v) : 43 ≤ v ∧ v ≤ 122 := by rcases h with h | (h | h) | h | h <;> omega
theorem nam0.nz {T : Nat → Int32} {c x s : Nat} (h : nam0 T c x s) : NZ T c x s := by
  obtain ⟨h1, h2, h3, h4, h5⟩ := h
  refine ⟨by omega, fun k hk => ?_, fun _ => h5⟩
  obtain ⟨v, e, hv⟩ := h4 k hk
  have := nmb_nz hv
  rw [e, ii_lit, Ne, ii_eq (by omega) (by omega) (by omega) (by omega)]
  omega
theorem cnsz {nf : Nat} {s : Int32} {N c : Nat} {A T : Nat → Int32} (hb : RB s N A c T) (hc : c ≤ 6000) {x m : Nat} (h : NZ T c x m) : ∀ (j k fu : Nat), k + j = m → j < fu → f_Zone_nameSize_53 nf s N A fu (ii ((x + k : Nat) : Int)) (ii (k : Int)) = some (ii (m : Int)) := by
  obtain ⟨h1, h2, h3⟩ := h
  have hs := hb.1
  intro j
  induction j with
  | zero =>
    intro k fu hk hf
    obtain ⟨f, rfl⟩ : ∃ f, fu = f + 1 := ⟨fu - 1, by omega⟩
    obtain rfl : k = m := by omega
    rw [f_Zone_nameSize_53]
    by_cases q : x + k < c
    · have g := hb.get (nf := nf) q
      rw [h3 q, hs] at g
      rw [hs, if_neg (by rw [ii_le (by omega) (by omega) (by omega) (by omega)]; omega), g, Option.bind_some, if_pos rfl]
      rfl
    · rw [hs, if_pos (by rw [ii_le (by omega) (by omega) (by omega) (by omega)]; omega)]
      rfl
  | succ j ih =>
    intro k fu hk hf
    obtain ⟨f, rfl⟩ : ∃ f, fu = f + 1 := ⟨fu - 1, by omega⟩
    have g := hb.get (nf := nf) (k := x + k) (by omega)
    have n := h2 k (by omega)
    have e := ih (k + 1) f (by omega) (by omega)
    rw [hs] at g e
    rw [f_Zone_nameSize_53, hs, if_neg (by rw [ii_le (by omega) (by omega) (by omega) (by omega)]; omega), g, Option.bind_some, if_neg n, show ii ((x + k : Nat) : Int) + 1 = ii ((x + (k + 1) : Nat) : Int) by rw [ii_lit, ii_add]; congr 1, show ii (k : Int) + 1 = ii ((k + 1 : Nat) : Int) by rw [ii_lit, ii_add]; congr 1]
    exact e
theorem mnsz {nf i c : Nat} (hi : i < 5) {sa : Nat → Nat → Int32} (hc : sa 7 i = ii (c : Int)) (hc2 : c ≤ 200) {x m : Nat} (h : NZ (fun k => sa 17 (200 * i + k)) c x m) : ∀ (j k fu : Nat), k + j = m → j < fu → f_Mo_nameSize_15 nf sa fu (ii ((x + k : Nat) : Int)) (ii (x : Int)) (ii (i : Int)) = some (if x + m = c then -1 else ii (m : Int)) := by
  obtain ⟨h1, h2, h3⟩ := h
  dsimp only at h2 h3
  have ei : (ii (i : Int)).toNatClampNeg = i := by rw [ii_nat (by omega) (by omega)]; omega
  have ni : ¬ (ii (i : Int) < 0 ∨ 5 ≤ i) := by rw [ii_lit, ii_lt (by omega) (by omega) (by omega) (by omega)]; omega
  intro j
  induction j with
  | zero =>
    intro k fu hk hf
    obtain ⟨f, rfl⟩ : ∃ f, fu = f + 1 := ⟨fu - 1, by omega⟩
    obtain rfl : k = m := by omega
    rw [f_Mo_nameSize_15, ei, if_neg ni, hc]
    by_cases q : x + k < c
    · have s12 := slice (w := 200) (i := i) (k := x + k) (m := 1000) (by omega) (by omega) (by omega) (by omega) (by omega)
      have s1 : (200 * ii (i : Int) + ii ((x + k : Nat) : Int)).toNatClampNeg = 200 * i + (x + k) := s12.1
      have s2 : ¬ (200 * ii (i : Int) + ii ((x + k : Nat) : Int) < 0 ∨ 1000 ≤ 200 * i + (x + k)) := s12.2
      rw [if_neg (by rw [ii_le (by omega) (by omega) (by omega) (by omega)]; omega), s1, if_neg s2, if_pos (h3 q)]
      unfold f_Mo_nameSize_48 f_Mo_nameSize_67
      rw [ei, if_neg ni, hc, if_neg (by rw [ii_eq (by omega) (by omega) (by omega) (by omega)]; omega), if_neg (by omega), ii_sub]
      congr 2
      omega
    · rw [if_pos (by rw [ii_le (by omega) (by omega) (by omega) (by omega)]; omega)]
      unfold f_Mo_nameSize_48 f_Mo_nameSize_67
      rw [ei, if_neg ni, hc, if_pos (by rw [ii_eq (by omega) (by omega) (by omega) (by omega)]; omega), if_pos (by omega)]
  | succ j ih =>
    intro k fu hk hf
    obtain ⟨f, rfl⟩ : ∃ f, fu = f + 1 := ⟨fu - 1, by omega⟩
    have s12 := slice (w := 200) (i := i) (k := x + k) (m := 1000) (by omega) (by omega) (by omega) (by omega) (by omega)
    have s1 : (200 * ii (i : Int) + ii ((x + k : Nat) : Int)).toNatClampNeg = 200 * i + (x + k) := s12.1
    have s2 : ¬ (200 * ii (i : Int) + ii ((x + k : Nat) : Int) < 0 ∨ 1000 ≤ 200 * i + (x + k)) := s12.2
    have n := h2 k (by omega)
    rw [f_Mo_nameSize_15, ei, if_neg ni, hc, if_neg (by rw [ii_le (by omega) (by omega) (by omega) (by omega)]; omega), s1, if_neg s2, if_neg n, show ii ((x + k : Nat) : Int) + 1 = ii ((x + (k + 1) : Nat) : Int) by rw [ii_lit, ii_add]; congr 1]
    exact ih (k + 1) f (by omega) (by omega)
/-- class: size of the name of type k -/
theorem cnameSize {nf : Nat} (hnf : 10000 ≤ nf) {tc s : Int32} {X A T : Nat → Int32} {N c t k x m : Nat} {us ss : Int32} (hb : RB s N A c T) (hc : c ≤ 6000) (ht : tc = ii (t : Int)) (hk : k < t) (ht2 : t ≤ 40) (hx : X k = ii (x : Int)) (h : NZ T c x m) : f_Zone_nameSize nf (ii (k : Int)) tc X s N A ss us = some (ii (m : Int)) := by
  have g := cnsz (nf := nf) hb hc h m 0 nf (by omega) (by have := h.1; omega)
  have ek : (ii (k : Int)).toNatClampNeg = k := by rw [ii_nat (by omega) (by omega)]; omega
  unfold f_Zone_nameSize f_Zone_nameSize_0
  rw [ht, if_neg (by rw [show (-3 : Int32) = ii (-3) from rfl, ii_eq (by omega) (by omega) (by omega) (by omega)]; omega), if_pos (by rw [ii_lt (by omega) (by omega) (by omega) (by omega)]; omega), if_pos (by rw [ii_lit, ii_le (by omega) (by omega) (by omega) (by omega)]; omega), ek, if_neg (by rw [ii_lit, ii_lt (by omega) (by omega) (by omega) (by omega)]; omega), hx]
  exact g
theorem mnameSize {nf : Nat} (hnf : 10000 ≤ nf) {i c k x m : Nat} (hi : i < 5) {si : Nat → Int32} {sj : Nat → Int64} {sa : Nat → Nat → Int32} {sb : Nat → Nat → Int64} (hc : sa 7 i = ii (c : Int)) (hc2 : c ≤ 200) (hk : k < 40) (hx : sa 16 (40 * i + k) = ii (x : Int)) (h : NZ (fun k => sa 17 (200 * i + k)) c x m) : f_Mo_nameSize nf (ii (i : Int)) (ii (k : Int)) si sj sa sb = some (if x + m = c then -1 else ii (m : Int)) := by
  have g := mnsz (nf := nf) hi hc hc2 h m 0 nf (by omega) (by have := h.1; omega)
  have s12 := slice (w := 40) (i := i) (k := k) (m := 200) (by omega) (by omega) (by omega) (by omega) (by omega)
  have s1 : (40 * ii (i : Int) + ii (k : Int)).toNatClampNeg = 40 * i + k := s12.1
  have s2 : ¬ (40 * ii (i : Int) + ii (k : Int) < 0 ∨ 200 ≤ 40 * i + k) := s12.2
  unfold f_Mo_nameSize f_Mo_nameSize_0
  rw [s1, if_neg s2, hx]
  exact g
/-! ===== type ===== -/
theorem st_type {nf : Nat} (hnf : 10000 ≤ nf) (S : CS) (M : MS) (p0 p1 p2 : Int32) (h : RR S M) : STWi nf RR S (cq_type nf S p0 p1 p2) (f_Mo_type nf p0 p1 p2 M.1 M.2.1 M.2.2.1 M.2.2.2) := by
  obtain ⟨si, sj, sa, sb⟩ := M
  generalize hC : cq_type nf S p0 p1 p2 = C
  unfold cq_type at hC
  dsimp only
  generalize hQ : f_Mo_type nf p0 p1 p2 si sj sa sb = Q
  have e37 : f_Mo_type_37 nf p0 p1 p2 1 si sj sa sb = some (0, va_up si 3 1, sj, sa, sb) := by
    unfold f_Mo_type_37
    rw [if_neg (by decide)]
  unfold f_Mo_type f_Mo_type_0 f_Mo_type_32 at hQ
  rw [e37] at hQ
  rcases zcase p0 with ⟨i, hi, rfl⟩ | hz
  · obtain ⟨a1, a2, a3, a4, a5, a6, a7⟩ := zgood hi nf
    obtain ⟨n, t, c, l, d, u, r, tm, tt, of, ds, ix, sz, ⟨_, _, _, ⟨c6, c7, c8, c9⟩, ⟨c10, c11, c12⟩, _, ⟨c16, c17, c18⟩, ⟨c19, c20, c21⟩, _⟩, h1, _, _, hty, ⟨hf1, hf2⟩, _⟩ := h.2.2.2.2.2.1 i hi
    dsimp only at *
    rw [a4] at hC
    rw [a3, Option.bind_some, if_pos rfl, a5, if_neg a7, c7] at hQ
    unfold f_ZF_type f_ZF_type_0 g_ZF_type g_ZF_type_0 at hC
    rw [a1, a2, a5, Option.bind_some, Option.bind_some, if_neg a6, if_neg a6] at hC
    rcases xcase p1 (n := t) (by omega) with ⟨k, hk, rfl⟩ | ⟨hx, hx2⟩
    · obtain ⟨b1, b2, b3, b4, b5, b6⟩ := xgood hk (by omega) nf
      obtain ⟨g1, g2, _, _, g3, g4, _, g5, g6, g7⟩ := hty k hk
      have q1 := cnameSize hnf (ss := (S.2 i).2.2.2.2.2.2.2.2.2.2.2.2.2.2.2.2.2.2.2.2.2.2.2.1) (us := (S.2 i).2.2.2.2.2.2.2.2.2.2.2.2.2.2.2.2.2.2.2.2.2.2.2.2.2.1) h1 (by omega) c6 hk c9 g5 g7.nz
      have q2 := mnameSize hnf (k := k) (si := va_up si 3 0) (sj := sj) (sb := sb) (show i < 5 by omega) c10 c12 (by omega) g6 g7.nz
      rw [if_neg (by have := g7.2.2.1; omega)] at q2
      rw [q1, c6, b1, b2, Option.bind_some, Option.bind_some, b6, Option.bind_some] at hC
      rw [if_neg b3, if_neg b5] at hQ
      have nk : ¬ (ii (k : Int) < 0 ∨ 40 ≤ k) := fun z => z.elim b3 (by omega)
      rw [if_neg nk, if_neg nk, if_neg nk, if_neg nk, if_neg nk, g1, g3, g5, c16, c19] at hC
      have s12 := slice (w := 40) (i := i) (k := k) (m := 200) (by omega) (by omega) (by omega) (by omega) (by omega)
      have s1 : (40 * ii (i : Int) + ii (k : Int)).toNatClampNeg = 40 * i + k := s12.1
      have s2 : ¬ (40 * ii (i : Int) + ii (k : Int) < 0 ∨ 200 ≤ 40 * i + k) := s12.2
      rcases xcase p2 (n := 6) (by omega) with ⟨j, hj, rfl⟩ | ⟨hx, hx2⟩
      · obtain ⟨d1, d2, d3, d4, d5, d6⟩ := xgood hj (by omega) nf
        have d7 : ii (j : Int) ≤ 5 := by rw [ii_lit, ii_le (by omega) (by omega) (by omega) (by omega)]; omega
        rw [if_neg d3, if_pos d7] at hQ
        unfold f_Mo_type_37 at hQ
        rw [if_pos (show (0 : Int32) ≤ 0 by decide), s1, if_neg s2, if_neg s2, if_neg s2, if_neg s2, if_neg s2, a5, if_neg a7, if_neg a7, q2, Option.bind_some, g2, g4, g6, c17, c20] at hQ
        rcases (show j = 0 ∨ j = 1 ∨ j = 2 ∨ j = 3 ∨ j = 4 ∨ j = 5 by omega) with rfl | rfl | rfl | rfl | rfl | rfl
        · exact okI h (v := ii (of k)) hC.symm hQ.symm
        · exact okI h (v := ii (ds k)) hC.symm hQ.symm
        · exact okI h (v := ii (ix k : Int)) hC.symm hQ.symm
        · exact okI h (v := ii (sz k : Int)) hC.symm hQ.symm
        · by_cases d0 : k < d
          · have w1 : ¬ ii (d : Int) ≤ ii (k : Int) := by rw [ii_le (by omega) (by omega) (by omega) (by omega)]; omega
            have w2 : ¬ ii (d : Int) ≤ 0 := by rw [ii_lit, ii_le (by omega) (by omega) (by omega) (by omega)]; omega
            rw [if_neg w1, hf1 k d0] at hC
            rw [if_neg w2] at hQ
            exact okI h (v := sa 20 (40 * i + k)) hC.symm hQ.symm
          · have w1 : ii (d : Int) ≤ ii (k : Int) := by rw [ii_le (by omega) (by omega) (by omega) (by omega)]; omega
            have w2 : ii (d : Int) ≤ 0 := by rw [ii_lit, ii_le (by omega) (by omega) (by omega) (by omega)]; omega
            rw [if_pos w1] at hC
            rw [if_pos w2] at hQ
            exact okI h (v := 0) hC.symm hQ.symm
        · by_cases d0 : k < u
          · have w1 : ¬ ii (u : Int) ≤ ii (k : Int) := by rw [ii_le (by omega) (by omega) (by omega) (by omega)]; omega
            have w2 : ¬ ii (u : Int) ≤ 0 := by rw [ii_lit, ii_le (by omega) (by omega) (by omega) (by omega)]; omega
            rw [if_neg w1, hf2 k d0] at hC
            rw [if_neg w2] at hQ
            exact okI h (v := sa 21 (40 * i + k)) hC.symm hQ.symm
          · have w1 : ii (u : Int) ≤ ii (k : Int) := by rw [ii_le (by omega) (by omega) (by omega) (by omega)]; omega
            have w2 : ii (u : Int) ≤ 0 := by rw [ii_lit, ii_le (by omega) (by omega) (by omega) (by omega)]; omega
            rw [if_pos w1] at hC
            rw [if_pos w2] at hQ
            exact okI h (v := 0) hC.symm hQ.symm
      · have nk : ∀ m : Nat, m < 6 → ¬ p2 = ii (m : Int) := by
          intro m hm e
          obtain ⟨b1, b2, b3, b4, b5, b6⟩ := xgood hm (by omega) nf
          rw [e] at hx2
          rcases hx2 with hx2 | ⟨_, hx2, _⟩
          · exact b3 hx2
          · exact b5 hx2
        have x0 : ¬ p2 = 0 := nk 0 (by omega)
        have x1 : ¬ p2 = 1 := nk 1 (by omega)
        have x2 : ¬ p2 = 2 := nk 2 (by omega)
        have x3 : ¬ p2 = 3 := nk 3 (by omega)
        have x4 : ¬ p2 = 4 := nk 4 (by omega)
        have x5 : ¬ p2 = 5 := nk 5 (by omega)
        simp only [if_neg x0, if_neg x1, if_neg x2, if_neg x3, if_neg x4, if_neg x5] at hC
        refine noI h 1 (by decide) hC.symm ?_
        rcases hx2 with hx2 | ⟨hx2, hx4, hx3⟩
        · rw [if_pos hx2] at hQ
          exact hQ.symm
        · have b7 : ¬ p2 ≤ 5 := by
            obtain ⟨v, rfl, v1, v2⟩ := ii_all p2
            rw [ii_le (by omega) (by omega) v1 v2] at hx4
            rw [ii_lit, ii_le v1 v2 (by omega) (by omega)]
            omega
          rw [if_neg hx2, if_neg b7] at hQ
          exact hQ.symm
    · rw [c6, (hx nf).1, (hx nf).2] at hC
      refine noI h 1 (by decide) hC.symm ?_
      rcases hx2 with hx2 | ⟨hx2, hx4, hx3⟩
      · rw [if_pos hx2] at hQ
        exact hQ.symm
      · rw [if_neg hx2, if_pos hx4] at hQ
        exact hQ.symm
  · rw [(hz nf).2.2, Option.bind_some, if_neg (by decide)] at hQ
    unfold f_ZF_type f_ZF_type_0 g_ZF_type g_ZF_type_0 at hC
    rw [(hz nf).1, (hz nf).2.1] at hC
    exact noI h 1 (by decide) hC.symm hQ.symm
