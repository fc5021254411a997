/-! ===== the reference: a name's letters, a rule taken ===== -/
section
variable {nf : Nat} {si : Nat → Int32} {sj : Nat → Int64} {sb : Nat → Nat → Int64}
/-- what addName leaves: w which name, c letters there, s its size -/
def mNm (sa sa' : Nat → Nat → Int32) (w c s : Nat) : Prop := (∀ k, k < s → sa' 17 (800 + (c + k)) = sa 26 (80 + 10 * w + k)) ∧ sa' 17 (800 + (c + s)) = 0 ∧ sa' 7 4 = ii ((c + s + 1 : Nat) : Int) ∧ ∀ a j, ¬ (a = 17 ∧ 800 + c ≤ j ∧ j ≤ 800 + (c + s)) → ¬ (a = 7 ∧ j = 4) → sa' a j = sa a j
theorem madd14 {w c s : Nat} (hw : w < 2) (hs : s ≤ 10) (hc : c + s < 200) : ∀ (d k fu : Nat), k + d = s → d < fu → ∀ sa : Nat → Nat → Int32, sa 7 4 = ii (c : Int) → ∃ sa', f_Mo_addName_14 nf fu (ii (k : Int)) (ii (s : Int)) 4 (ii (w : Int)) si sj sa sb = some (si, sj, sa', sb) ∧ (∀ q, k ≤ q → q < s → sa' 17 (800 + (c + q)) = sa 26 (80 + 10 * w + q)) ∧ sa' 17 (800 + (c + s)) = 0 ∧ sa' 7 4 = ii ((c + s + 1 : Nat) : Int) ∧ ∀ a j, ¬ (a = 17 ∧ 800 + (c + k) ≤ j ∧ j ≤ 800 + (c + s)) → ¬ (a = 7 ∧ j = 4) → sa' a j = sa a j := by
  have n4 : ¬ ((4 : Int32) < 0 ∨ 5 ≤ 4) := by decide
  have z4 : (4 : Int32).toNatClampNeg = 4 := rfl
  have p17 : ∀ q : Nat, c + q < 200 → (200 * (4 : Int32) + ii (c : Int) + ii (q : Int)).toNatClampNeg = 800 + (c + q) ∧ ¬ (200 * (4 : Int32) + ii (c : Int) + ii (q : Int) < 0 ∨ 1000 ≤ 800 + (c + q)) := by
    intro q hq
    have e : 200 * (4 : Int32) + ii (c : Int) + ii (q : Int) = ii ((800 + (c + q) : Nat) : Int) := by
      rw [show 200 * (4 : Int32) = ii 800 from rfl, ii_add, ii_add]
      congr 1
      omega
    rw [e]
    refine ⟨by rw [ii_nat (by omega) (by omega)]; omega, ?_⟩
    rw [ii_lit, ii_lt (by omega) (by omega) (by omega) (by omega)]
    omega
  have p26 : ∀ q : Nat, q < 10 → (20 * (4 : Int32) + 10 * ii (w : Int) + ii (q : Int)).toNatClampNeg = 80 + 10 * w + q ∧ ¬ (20 * (4 : Int32) + 10 * ii (w : Int) + ii (q : Int) < 0 ∨ 100 ≤ 80 + 10 * w + q) := by
    intro q hq
    have e : 20 * (4 : Int32) + 10 * ii (w : Int) + ii (q : Int) = ii ((80 + 10 * w + q : Nat) : Int) := by
      rw [show 20 * (4 : Int32) = ii 80 from rfl, show (10 : Int32) = ii 10 from rfl, ii_mul, ii_add, ii_add]
      congr 1
    rw [e]
    refine ⟨by rw [ii_nat (by omega) (by omega)]; omega, ?_⟩
    rw [ii_lit, ii_lt (by omega) (by omega) (by omega) (by omega)]
    omega
  intro d
  induction d with
  | zero =>
    intro k fu hk hf sa h7
    obtain ⟨f, rfl⟩ : ∃ f, fu = f + 1 := ⟨fu - 1, by omega⟩
    obtain rfl : k = s := by omega
    obtain ⟨a1, a2⟩ := p17 k (by omega)
    refine ⟨_, by rw [f_Mo_addName_14, if_pos ((ii_le (by omega) (by omega) (by omega) (by omega)).mpr (by omega)), z4, if_neg n4, h7, a1, if_neg a2, if_neg n4, if_neg n4], fun q h1 h2 => by omega, ?_, ?_, fun a j h1 h2 => ?_⟩
    · rw [vup_ne (by decide), vup_eq]
      unfold upd
      rw [if_pos rfl]
    · rw [vup_eq]
      unfold upd
      rw [if_pos rfl, show (1 : Int32) = ii 1 from rfl, ii_add, ii_add]
      congr 1
    · by_cases e7 : a = 7
      · subst e7
        rw [vup_eq]
        unfold upd
        rw [if_neg (by omega)]
      · rw [vup_ne e7]
        by_cases e17 : a = 17
        · subst e17
          rw [vup_eq]
          unfold upd
          rw [if_neg (by omega)]
        · rw [vup_ne e17]
  | succ d ih =>
    intro k fu hk hf sa h7
    obtain ⟨f, rfl⟩ : ∃ f, fu = f + 1 := ⟨fu - 1, by omega⟩
    obtain ⟨a1, a2⟩ := p17 k (by omega)
    obtain ⟨b1, b2⟩ := p26 k (by omega)
    obtain ⟨sa', g1, g2, g3, g4, g5⟩ := ih (k + 1) f (by omega) (by omega) (va_up sa 17 (upd (sa 17) (800 + (c + k)) (sa 26 (80 + 10 * w + k)))) (by rw [vup_ne (by decide)]; exact h7)
    refine ⟨sa', ?_, fun q h1 h2 => ?_, g3, g4, fun a j h1 h2 => ?_⟩
    · rw [f_Mo_addName_14, if_neg (by rw [ii_le (by omega) (by omega) (by omega) (by omega)]; omega), z4, if_neg n4, h7, a1, if_neg a2, b1, if_neg b2, iiS]
      exact g1
    · by_cases e : q = k
      · subst e
        rw [g5 17 _ (by omega) (by omega), vup_eq]
        unfold upd
        rw [if_pos rfl]
      · rw [g2 q (by omega) h2, vup_ne (by decide)]
    · rw [g5 a j (by omega) h2]
      by_cases e17 : a = 17
      · subst e17
        rw [vup_eq]
        unfold upd
        rw [if_neg (by omega)]
      · rw [vup_ne e17]
theorem maddName (hnf : 100 ≤ nf) {w c s : Nat} (hw : w < 2) (hs : s ≤ 10) (hc : c + s < 200) {sa : Nat → Nat → Int32} (h25 : sa 25 (8 + w) = ii (s : Int)) (h7 : sa 7 4 = ii (c : Int)) : ∃ sa', f_Mo_addName nf 4 (ii (w : Int)) si sj sa sb = some (si, sj, sa', sb) ∧ mNm sa sa' w c s := by
  obtain ⟨sa', g1, g2, g3, g4, g5⟩ := madd14 (nf := nf) (si := si) (sj := sj) (sb := sb) hw hs hc s 0 nf (by omega) (by omega) sa h7
  have e : 2 * (4 : Int32) + ii (w : Int) = ii ((8 + w : Nat) : Int) := by
    rw [show 2 * (4 : Int32) = ii 8 from rfl, ii_add]
    congr 1
  refine ⟨sa', ?_, fun k hk => g2 k (by omega) hk, g3, g4, g5⟩
  unfold f_Mo_addName f_Mo_addName_0
  rw [e, show (ii ((8 + w : Nat) : Int)).toNatClampNeg = 8 + w by rw [ii_nat (by omega) (by omega)]; omega, if_neg (by rw [ii_lit, ii_lt (by omega) (by omega) (by omega) (by omega)]; omega), h25]
  exact g1
theorem mtak167 {st E : Nat} (hE : E ≤ 6000) (hl : E ≤ st + 128) : ∀ (d k fu : Nat), k + d = E → st ≤ k → d < fu → ∀ sa : Nat → Nat → Int32, ∃ sa', f_Mo_takeRule_167 nf fu (ii (k : Int)) 4 (ii (st : Int)) (ii (E : Int)) si sj sa sb = some (si, sj, sa', sb) ∧ (∀ q, k ≤ q → q < E → sa' 22 (512 + (q - st)) = sa 0 q) ∧ ∀ a j, ¬ (a = 22 ∧ 512 + (k - st) ≤ j ∧ j < 640) → sa' a j = sa a j := by
  intro d
  induction d with
  | zero =>
    intro k fu hk hst hf sa
    obtain ⟨f, rfl⟩ : ∃ f, fu = f + 1 := ⟨fu - 1, by omega⟩
    rw [f_Mo_takeRule_167, if_pos ((ii_le (by omega) (by omega) (by omega) (by omega)).mpr (by omega))]
    exact ⟨sa, rfl, fun q h1 h2 => by omega, fun _ _ _ => rfl⟩
  | succ d ih =>
    intro k fu hk hst hf sa
    obtain ⟨f, rfl⟩ : ∃ f, fu = f + 1 := ⟨fu - 1, by omega⟩
    have e : 128 * (4 : Int32) + ii (k : Int) - ii (st : Int) = ii ((512 + (k - st) : Nat) : Int) := by
      rw [show 128 * (4 : Int32) = ii 512 from rfl, ii_add, ii_sub]
      congr 1
      omega
    have e1 : (ii ((512 + (k - st) : Nat) : Int)).toNatClampNeg = 512 + (k - st) := by rw [ii_nat (by omega) (by omega)]; omega
    have e2 : ¬ (ii ((512 + (k - st) : Nat) : Int) < 0 ∨ 640 ≤ 512 + (k - st)) := by rw [ii_lit, ii_lt (by omega) (by omega) (by omega) (by omega)]; omega
    have k1 : (ii (k : Int)).toNatClampNeg = k := by rw [ii_nat (by omega) (by omega)]; omega
    have k2 : ¬ (ii (k : Int) < 0 ∨ 6000 ≤ k) := by rw [ii_lit, ii_lt (by omega) (by omega) (by omega) (by omega)]; omega
    obtain ⟨sa', g1, g2, g3⟩ := ih (k + 1) f (by omega) (by omega) (by omega) (va_up sa 22 (upd (sa 22) (512 + (k - st)) (sa 0 k)))
    refine ⟨sa', ?_, fun q h1 h2 => ?_, fun a j h => ?_⟩
    · rw [f_Mo_takeRule_167, if_neg (by rw [ii_le (by omega) (by omega) (by omega) (by omega)]; omega), k1, if_neg k2, e, e1, if_neg e2, iiS]
      exact g1
    · by_cases c : q = k
      · subst c
        rw [g3 22 _ (by omega), vup_eq]
        unfold upd
        rw [if_pos rfl]
      · rw [g2 q (by omega) h2, vup_ne (by decide)]
    · rw [g3 a j (by omega)]
      by_cases c : a = 22
      · subst c
        rw [vup_eq]
        unfold upd
        rw [if_neg (by omega)]
      · rw [vup_ne c]
/-- one more type of the rule's -/
theorem mtak68 (hnf : 100 ≤ nf) {w c s h E : Nat} {sa : Nat → Nat → Int32} {x2 x3 : Int32} (hw : w < h) (hh : h ≤ 2) (h23 : sa 23 4 = ii (h : Int)) (hs : s ≤ 10) (hc : c + s < 200) (h25 : sa 25 (8 + w) = ii (s : Int)) (h7 : sa 7 4 = ii (c : Int)) (fu : Nat) : ∃ sa' sa'', f_Mo_takeRule_68 nf (fu + 1) (ii (w : Int)) 4 x2 x3 si sj sa sb = f_Mo_takeRule_68 nf fu (ii ((w + 1 : Nat) : Int)) 4 x2 x3 si sj sa'' sb ∧ mNm sa' sa'' w c s ∧ sa' 14 (160 + w) = sa 24 (8 + w) ∧ sa' 15 (160 + w) = ii (w : Int) ∧ sa' 16 (160 + w) = ii (c : Int) ∧ ∀ a j, ¬ (14 ≤ a ∧ a ≤ 16 ∧ j = 160 + w) → sa' a j = sa a j := by
  have n4 : ¬ ((4 : Int32) < 0 ∨ 5 ≤ 4) := by decide
  have z4 : (4 : Int32).toNatClampNeg = 4 := rfl
  have e8 : 2 * (4 : Int32) + ii (w : Int) = ii ((8 + w : Nat) : Int) := by
    rw [show 2 * (4 : Int32) = ii 8 from rfl, ii_add]; congr 1
  have e160 : 40 * (4 : Int32) + ii (w : Int) = ii ((160 + w : Nat) : Int) := by
    rw [show 40 * (4 : Int32) = ii 160 from rfl, ii_add]; congr 1
  have a1 : (ii ((8 + w : Nat) : Int)).toNatClampNeg = 8 + w := by rw [ii_nat (by omega) (by omega)]; omega
  have a2 : ¬ (ii ((8 + w : Nat) : Int) < 0 ∨ 10 ≤ 8 + w) := by rw [ii_lit, ii_lt (by omega) (by omega) (by omega) (by omega)]; omega
  have b1 : (ii ((160 + w : Nat) : Int)).toNatClampNeg = 160 + w := by rw [ii_nat (by omega) (by omega)]; omega
  have b2 : ¬ (ii ((160 + w : Nat) : Int) < 0 ∨ 200 ≤ 160 + w) := by rw [ii_lit, ii_lt (by omega) (by omega) (by omega) (by omega)]; omega
  obtain ⟨sa'', g1, g2⟩ := maddName (nf := nf) (si := si) (sj := sj) (sb := sb) hnf (w := w) (c := c) (s := s) (by omega) hs hc (sa := va_up (va_up (va_up sa 14 (upd (sa 14) (160 + w) (sa 24 (8 + w)))) 15 (upd (sa 15) (160 + w) (ii (w : Int)))) 16 (upd (sa 16) (160 + w) (ii (c : Int)))) (by rw [vup_ne (by decide), vup_ne (by decide), vup_ne (by decide)]; exact h25) (by rw [vup_ne (by decide), vup_ne (by decide), vup_ne (by decide)]; exact h7)
  refine ⟨_, sa'', ?_, g2, ?_, ?_, ?_, fun a j hn => ?_⟩
  · rw [f_Mo_takeRule_68, z4, if_neg n4, h23, if_neg (by rw [ii_le (by omega) (by omega) (by omega) (by omega)]; omega), e8, e160, a1, if_neg a2, b1, if_neg b2, if_neg b2, if_neg n4, if_neg b2, h7, g1, Option.bind_some, iiS]
  · rw [vup_ne (by decide), vup_ne (by decide), vup_eq]; unfold upd; rw [if_pos rfl]
  · rw [vup_ne (by decide), vup_eq]; unfold upd; rw [if_pos rfl]
  · rw [vup_eq]; unfold upd; rw [if_pos rfl]
  · by_cases c16 : a = 16
    · subst c16
      rw [vup_eq]; unfold upd; rw [if_neg (by omega)]
    · rw [vup_ne c16]
      by_cases c15 : a = 15
      · subst c15
        rw [vup_eq]; unfold upd; rw [if_neg (by omega)]
      · rw [vup_ne c15]
        by_cases c14 : a = 14
        · subst c14
          rw [vup_eq]; unfold upd; rw [if_neg (by omega)]
        · rw [vup_ne c14]
/-- what takeRule leaves -/
def mTk (sa sa' : Nat → Nat → Int32) (ver : Int32) (h s0 s1 E : Nat) : Prop :=
  sa' 4 4 = ver ∧ sa' 5 4 = 0 ∧ sa' 6 4 = ii (h : Int) ∧ sa' 8 4 = 0 ∧ sa' 9 4 = 0 ∧ sa' 10 4 = 0 ∧ sa' 11 4 = ii (E : Int) ∧ (∀ k, k < E → sa' 22 (512 + k) = sa 0 k) ∧
  (sa' 14 160 = sa 24 8 ∧ sa' 15 160 = 0 ∧ sa' 16 160 = 0 ∧ (∀ k, k < s0 → sa' 17 (800 + k) = sa 26 (80 + k)) ∧ sa' 17 (800 + s0) = 0) ∧
  (h = 1 → sa' 7 4 = ii ((s0 + 1 : Nat) : Int)) ∧
  (h = 2 → sa' 7 4 = ii ((s0 + 1 + s1 + 1 : Nat) : Int) ∧ sa' 14 161 = sa 24 9 ∧ sa' 15 161 = 1 ∧ sa' 16 161 = ii ((s0 + 1 : Nat) : Int) ∧ (∀ k, k < s1 → sa' 17 (800 + (s0 + 1 + k)) = sa 26 (90 + k)) ∧ sa' 17 (800 + (s0 + 1 + s1)) = 0) ∧
  (∀ a j, ¬ kAz 4 a j → sa' a j = sa a j) ∧ ∀ a j, 23 ≤ a → sa' a j = sa a j
theorem mtake (hnf : 10000 ≤ nf) {h s0 s1 E : Nat} {sa : Nat → Nat → Int32} {ver : Int32} (hh : h = 1 ∨ h = 2) (h23 : sa 23 4 = ii (h : Int)) (hs0 : s0 ≤ 10) (h250 : sa 25 8 = ii (s0 : Int)) (hs1 : h = 2 → s1 ≤ 10 ∧ sa 25 9 = ii (s1 : Int)) (hE : E ≤ 128) : ∃ sa', f_Mo_takeRule nf ver 0 (ii (E : Int)) si sj sa sb = some (si, sj, sa', sb) ∧ mTk sa sa' ver h s0 s1 E := by
  have n4 : ¬ ((4 : Int32) < 0 ∨ 5 ≤ 4) := by decide
  have z4 : (4 : Int32).toNatClampNeg = 4 := rfl
  generalize hF : f_Mo_takeRule nf ver 0 (ii (E : Int)) si sj sa sb = F
  unfold f_Mo_takeRule f_Mo_takeRule_0 at hF
  rw [z4] at hF
  simp only [if_neg n4] at hF
  generalize hA : (va_up (va_up (va_up (va_up (va_up (va_up (va_up sa 4 (upd (sa 4) 4 ver)) 5 (upd (sa 5) 4 0)) 6 (upd (sa 6) 4 (sa 23 4))) 8 (upd (sa 8) 4 0)) 9 (upd (sa 9) 4 0)) 10 (upd (sa 10) 4 0)) 7 (upd (sa 7) 4 0)) = A at hF
  have A4 : A 4 4 = ver := by rw [← hA]; rfl
  have A5 : A 5 4 = 0 := by rw [← hA]; rfl
  have A6 : A 6 4 = ii (h : Int) := by rw [← hA, ← h23]; rfl
  have A8 : A 8 4 = 0 := by rw [← hA]; rfl
  have A9 : A 9 4 = 0 := by rw [← hA]; rfl
  have A10 : A 10 4 = 0 := by rw [← hA]; rfl
  have A7 : A 7 4 = ii ((0 : Nat) : Int) := by rw [← hA]; rfl
  have Ao : ∀ a j, ¬ (4 ≤ a ∧ a ≤ 10 ∧ j = 4) → A a j = sa a j := by
    intro a j hn
    rw [← hA]
    have u : ∀ (B : Nat → Nat → Int32) (b : Nat) (v : Int32), 4 ≤ b → b ≤ 10 → va_up B b (upd (sa b) 4 v) a j = if a = b then sa a j else B a j := by
      intro B b v h1 h2
      by_cases e : a = b
      · subst e
        rw [vup_eq, if_pos rfl]
        unfold upd
        rw [if_neg (by omega)]
      · rw [vup_ne e, if_neg e]
    rw [u _ 7 _ (by omega) (by omega), u _ 10 _ (by omega) (by omega), u _ 9 _ (by omega) (by omega), u _ 8 _ (by omega) (by omega), u _ 6 _ (by omega) (by omega), u _ 5 _ (by omega) (by omega), u _ 4 _ (by omega) (by omega)]
    simp only [ite_self]
  clear hA
  obtain ⟨f, rfl⟩ : ∃ f, nf = f + 3 := ⟨nf - 3, by omega⟩
  have A23 : A 23 4 = ii (h : Int) := (Ao _ _ (by omega)).trans h23
  have A25 : A 25 (8 + 0) = ii (s0 : Int) := (Ao _ _ (by omega)).trans h250
  obtain ⟨B, C, e1, ⟨m1, m2, m3, m4⟩, b1, b2, b3, b4⟩ := mtak68 (nf := f + 3) (si := si) (sj := sj) (sb := sb) (E := E) (x2 := 0) (x3 := ii (E : Int)) (by omega) (w := 0) (c := 0) (s := s0) (h := h) (by omega) (by omega) A23 hs0 (by omega) A25 A7 (f + 2)
  rw [show (0 : Int32) = ii ((0 : Nat) : Int) from rfl] at hF
  rw [show (0 : Int32) = ii ((0 : Nat) : Int) from rfl] at e1
  rw [e1] at hF
  have z0 : ii ((0 : Nat) : Int) = (0 : Int32) := rfl
  rcases hh with rfl | rfl
  · have C23 : C 23 4 = ii ((1 : Nat) : Int) := by rw [m4 _ _ (by omega) (by omega), b4 _ _ (by omega)]; exact A23
    obtain ⟨D, d1, d2, d3⟩ := mtak167 (nf := f + 3) (si := si) (sj := sj) (sb := sb) (st := 0) (E := E) (by omega) (by omega) E 0 (f + 3) (by omega) (by omega) (by omega) (va_up C 11 (upd (C 11) 4 (ii (E : Int))))
    rw [f_Mo_takeRule_68, z4, if_neg n4, C23, if_pos (by decide), if_neg n4, show ii (E : Int) - ii ((0 : Nat) : Int) = ii (E : Int) by (rw [ii_sub, show (E : Int) - ((0 : Nat) : Int) = (E : Int) by omega]), d1] at hF
    have fr : ∀ a j, a ≠ 22 → ¬ (a = 11 ∧ j = 4) → D a j = C a j := by
      intro a j h1 h2
      rw [d3 a j (by omega)]
      by_cases e : a = 11
      · subst e
        rw [vup_eq]; unfold upd; rw [if_neg (by omega)]
      · rw [vup_ne e]
    refine ⟨D, hF.symm, ?_, ?_, ?_, ?_, ?_, ?_, ?_, ?_, ⟨?_, ?_, ?_, ?_, ?_⟩, ?_, fun z => absurd z (by decide), ?_, ?_⟩
    · rw [fr _ _ (by decide) (by omega), m4 _ _ (by omega) (by omega), b4 _ _ (by omega)]; exact A4
    · rw [fr _ _ (by decide) (by omega), m4 _ _ (by omega) (by omega), b4 _ _ (by omega)]; exact A5
    · rw [fr _ _ (by decide) (by omega), m4 _ _ (by omega) (by omega), b4 _ _ (by omega)]; exact A6
    · rw [fr _ _ (by decide) (by omega), m4 _ _ (by omega) (by omega), b4 _ _ (by omega)]; exact A8
    · rw [fr _ _ (by decide) (by omega), m4 _ _ (by omega) (by omega), b4 _ _ (by omega)]; exact A9
    · rw [fr _ _ (by decide) (by omega), m4 _ _ (by omega) (by omega), b4 _ _ (by omega)]; exact A10
    · rw [d3 _ _ (by omega), vup_eq]; unfold upd; rw [if_pos rfl]
    · intro k hk
      have := d2 k (by omega) hk
      rw [Nat.sub_zero] at this
      rw [this, vup_ne (by decide), m4 _ _ (by omega) (by omega), b4 _ _ (by omega), Ao _ _ (by omega)]
    · rw [fr _ _ (by decide) (by omega), m4 _ _ (by omega) (by omega)]
      exact b1.trans (Ao _ _ (by omega))
    · rw [fr _ _ (by decide) (by omega), m4 _ _ (by omega) (by omega)]
      exact b2
    · rw [fr _ _ (by decide) (by omega), m4 _ _ (by omega) (by omega)]
      exact b3
    · intro k hk
      have := m1 k hk
      rw [Nat.zero_add] at this
      rw [fr _ _ (by decide) (by omega), this, b4 _ _ (by omega), Ao _ _ (by omega)]
    · have := m2
      rw [Nat.zero_add] at this
      rw [fr _ _ (by decide) (by omega), this]
    · intro _
      rw [fr _ _ (by decide) (by omega), m3]
      congr 2
      omega
    · intro a j hn
      unfold kAz at hn
      rw [d3 _ _ (by omega)]
      by_cases e : a = 11
      · subst e
        rw [vup_eq]; unfold upd; rw [if_neg (by omega), m4 _ _ (by omega) (by omega), b4 _ _ (by omega), Ao _ _ (by omega)]
      · rw [vup_ne e, m4 _ _ (by omega) (by omega), b4 _ _ (by omega), Ao _ _ (by omega)]
    · intro a j hn
      rw [fr _ _ (by omega) (by omega), m4 _ _ (by omega) (by omega), b4 _ _ (by omega), Ao _ _ (by omega)]
  · obtain ⟨hs1a, hs1b⟩ := hs1 rfl
    have C23 : C 23 4 = ii ((2 : Nat) : Int) := by rw [m4 _ _ (by omega) (by omega), b4 _ _ (by omega)]; exact A23
    have C25 : C 25 (8 + 1) = ii (s1 : Int) := by rw [m4 _ _ (by omega) (by omega), b4 _ _ (by omega)]; exact (Ao _ _ (by omega)).trans hs1b
    rw [Nat.zero_add] at m3
    obtain ⟨B', C', e1', ⟨m1', m2', m3', m4'⟩, b1', b2', b3', b4'⟩ := mtak68 (nf := f + 3) (si := si) (sj := sj) (sb := sb) (E := E) (x2 := 0) (x3 := ii (E : Int)) (by omega) (w := 1) (c := s0 + 1) (s := s1) (h := 2) (by omega) (by omega) C23 hs1a (by omega) C25 m3 (f + 1)
    rw [show (0 : Int32) = ii ((0 : Nat) : Int) from rfl] at e1'
    rw [show ((0 + 1 : Nat) : Int) = ((1 : Nat) : Int) from rfl, e1'] at hF
    have C23' : C' 23 4 = ii ((2 : Nat) : Int) := by rw [m4' _ _ (by omega) (by omega), b4' _ _ (by omega)]; exact C23
    obtain ⟨D, d1, d2, d3⟩ := mtak167 (nf := f + 3) (si := si) (sj := sj) (sb := sb) (st := 0) (E := E) (by omega) (by omega) E 0 (f + 3) (by omega) (by omega) (by omega) (va_up C' 11 (upd (C' 11) 4 (ii (E : Int))))
    rw [f_Mo_takeRule_68, z4, if_neg n4, C23', if_pos (by decide), if_neg n4, show ii (E : Int) - ii ((0 : Nat) : Int) = ii (E : Int) by (rw [ii_sub, show (E : Int) - ((0 : Nat) : Int) = (E : Int) by omega]), d1] at hF
    have fr : ∀ a j, a ≠ 22 → ¬ (a = 11 ∧ j = 4) → D a j = C' a j := by
      intro a j h1 h2
      rw [d3 a j (by omega)]
      by_cases e : a = 11
      · subst e
        rw [vup_eq]; unfold upd; rw [if_neg (by omega)]
      · rw [vup_ne e]
    refine ⟨D, hF.symm, ?_, ?_, ?_, ?_, ?_, ?_, ?_, ?_, ⟨?_, ?_, ?_, ?_, ?_⟩, fun z => absurd z (by decide), fun _ => ⟨?_, ?_, ?_, ?_, ?_, ?_⟩, ?_, ?_⟩
    · rw [fr _ _ (by decide) (by omega), m4' _ _ (by omega) (by omega), b4' _ _ (by omega), m4 _ _ (by omega) (by omega), b4 _ _ (by omega)]; exact A4
    · rw [fr _ _ (by decide) (by omega), m4' _ _ (by omega) (by omega), b4' _ _ (by omega), m4 _ _ (by omega) (by omega), b4 _ _ (by omega)]; exact A5
    · rw [fr _ _ (by decide) (by omega), m4' _ _ (by omega) (by omega), b4' _ _ (by omega), m4 _ _ (by omega) (by omega), b4 _ _ (by omega)]; exact A6
    · rw [fr _ _ (by decide) (by omega), m4' _ _ (by omega) (by omega), b4' _ _ (by omega), m4 _ _ (by omega) (by omega), b4 _ _ (by omega)]; exact A8
    · rw [fr _ _ (by decide) (by omega), m4' _ _ (by omega) (by omega), b4' _ _ (by omega), m4 _ _ (by omega) (by omega), b4 _ _ (by omega)]; exact A9
    · rw [fr _ _ (by decide) (by omega), m4' _ _ (by omega) (by omega), b4' _ _ (by omega), m4 _ _ (by omega) (by omega), b4 _ _ (by omega)]; exact A10
    · rw [d3 _ _ (by omega), vup_eq]; unfold upd; rw [if_pos rfl]
    · intro k hk
      have := d2 k (by omega) hk
      rw [Nat.sub_zero] at this
      rw [this, vup_ne (by decide), m4' _ _ (by omega) (by omega), b4' _ _ (by omega), m4 _ _ (by omega) (by omega), b4 _ _ (by omega), Ao _ _ (by omega)]
    · rw [fr _ _ (by decide) (by omega), m4' _ _ (by omega) (by omega), b4' _ _ (by omega), m4 _ _ (by omega) (by omega)]
      exact b1.trans (Ao _ _ (by omega))
    · rw [fr _ _ (by decide) (by omega), m4' _ _ (by omega) (by omega), b4' _ _ (by omega), m4 _ _ (by omega) (by omega)]
      exact b2
    · rw [fr _ _ (by decide) (by omega), m4' _ _ (by omega) (by omega), b4' _ _ (by omega), m4 _ _ (by omega) (by omega)]
      exact b3
    · intro k hk
      have := m1 k hk
      rw [Nat.zero_add] at this
      rw [fr _ _ (by decide) (by omega), m4' _ _ (by omega) (by omega), b4' _ _ (by omega), this, b4 _ _ (by omega), Ao _ _ (by omega)]
    · have := m2
      rw [Nat.zero_add] at this
      rw [fr _ _ (by decide) (by omega), m4' _ _ (by omega) (by omega), b4' _ _ (by omega), this]
    · rw [fr _ _ (by decide) (by omega), m3']
    · rw [fr _ _ (by decide) (by omega), m4' _ _ (by omega) (by omega)]
      refine b1'.trans ?_
      rw [m4 _ _ (by omega) (by omega), b4 _ _ (by omega), Ao _ _ (by omega)]
    · rw [fr _ _ (by decide) (by omega), m4' _ _ (by omega) (by omega)]
      exact b2'
    · rw [fr _ _ (by decide) (by omega), m4' _ _ (by omega) (by omega)]
      exact b3'
    · intro k hk
      rw [fr _ _ (by decide) (by omega), m1' k hk, b4' _ _ (by omega), m4 _ _ (by omega) (by omega), b4 _ _ (by omega), Ao _ _ (by omega)]
    · rw [fr _ _ (by decide) (by omega)]
      exact m2'
    · intro a j hn
      unfold kAz at hn
      rw [d3 _ _ (by omega)]
      by_cases e : a = 11
      · subst e
        rw [vup_eq]; unfold upd; rw [if_neg (by omega), m4' _ _ (by omega) (by omega), b4' _ _ (by omega), m4 _ _ (by omega) (by omega), b4 _ _ (by omega), Ao _ _ (by omega)]
      · rw [vup_ne e, m4' _ _ (by omega) (by omega), b4' _ _ (by omega), m4 _ _ (by omega) (by omega), b4 _ _ (by omega), Ao _ _ (by omega)]
    · intro a j hn
      rw [fr _ _ (by omega) (by omega), m4' _ _ (by omega) (by omega), b4' _ _ (by omega), m4 _ _ (by omega) (by omega), b4 _ _ (by omega), Ao _ _ (by omega)]
end
