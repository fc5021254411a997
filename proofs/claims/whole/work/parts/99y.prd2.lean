/-! ===== read: the header ===== -/
section
variable {nf n : Nat} {s : Int32} {N : Nat} {A : Nat → Int32} {sj : Nat → Int64} {sa : Nat → Nat → Int32}
theorem chas (hs : s = ii (n : Int)) (hn : n ≤ 6000) {p m : Nat} (hp : p ≤ n) (hm : m ≤ 100000) (fa pl : Int32) : f_FP_hasMore nf (ii (m : Int)) fa pl (ii (p : Int)) s = if p + m ≤ n then some (1, fa, pl) else some (0, 1, ii (n : Int)) := by
  unfold f_FP_hasMore f_FP_hasMore_0
  rw [hs, ii_sub]
  by_cases c : p + m ≤ n
  · rw [if_pos c, if_pos (show ii (m : Int) ≤ ii ((n : Int) - (p : Int)) by rw [ii_le (by omega) (by omega) (by omega) (by omega)]; omega)]
    rfl
  · rw [if_neg c, if_neg (show ¬ ii (m : Int) ≤ ii ((n : Int) - (p : Int)) by rw [ii_le (by omega) (by omega) (by omega) (by omega)]; omega)]
    rfl
theorem mhas {si : Nat → Int32} {sb : Nat → Nat → Int64} (h1 : si 1 = ii (n : Int)) (hn : n ≤ 6000) {p m : Nat} (h32 : si 32 = ii (p : Int)) (hp : p ≤ n) (hm : m ≤ 100000) : f_Mo_needs nf (jj (m : Int)) si sj sa sb = if p + m ≤ n then some (1, si, sj, sa, sb) else some (0, va_up (va_up si 36 1) 2 (ii (n : Int)), sj, sa, sb) := by
  unfold f_Mo_needs f_Mo_needs_0
  rw [h1, h32, ii_64 (by omega) (by omega), ii_64 (by omega) (by omega), jj_add]
  by_cases c : p + m ≤ n
  · rw [if_pos c, if_pos (show jj ((p : Int) + (m : Int)) ≤ jj (n : Int) by rw [jj_le (by omega) (by omega) (by omega) (by omega)]; omega)]
    rfl
  · rw [if_neg c, if_neg (show ¬ jj ((p : Int) + (m : Int)) ≤ jj (n : Int) by rw [jj_le (by omega) (by omega) (by omega) (by omega)]; omega)]
    rfl
/-- the six counts: UT, STD, LEAP, TIME, TYPE, CHAR -/
def cntOK (k : Nat) (v y : Nat) : Prop := (k < 2 → v = 0 ∨ v = y) ∧ (k = 2 → v ≤ 40) ∧ (k = 3 → v ≤ 200) ∧ (k = 4 → 1 ≤ v ∧ v ≤ 40) ∧ (k = 5 → 1 ≤ v ∧ v ≤ 200)
theorem n6 {k : Nat} (hk : k < 6) : k = 0 ∨ k = 1 ∨ k = 2 ∨ k = 3 ∨ k = 4 ∨ k = 5 := by omega
/-- one count checked by both -/
theorem hcnt {W : Nat → Int64} {vs : Nat → Nat} (hv : ∀ j, j < 6 → vs j < 4294967296 ∧ W j = jj (vs j : Int)) {k : Nat} (hk : k < 6) {K : Int32 → (Nat → Int32) → (Nat → Int64) → (Nat → Nat → Int32) → (Nat → Nat → Int64) → Option (Int32 × MS)} (f : Nat) {si : Nat → Int32} {sb : Nat → Nat → Int64} (hs : ∀ j, j < 6 → sb 37 j = jj (vs j : Int)) :
    ∃ q : Bool, (q = true ↔ cntOK k (vs k) (vs 4)) ∧ f_FP_countFits nf (ii (k : Int)) (W k) W = some (bI q) ∧ f_Mo_header_191 nf (f + 1) (ii (k : Int)) si sj sa sb = f_Mo_header_306 nf (f_Mo_header_191 nf f) (ii (k : Int)) (bI q) si sj sa sb := by
  obtain ⟨v1, v2⟩ := hv k hk
  obtain ⟨y1, y2⟩ := hv 4 (by omega)
  have s2 := hs k hk
  have s4 := hs 4 (by omega)
  obtain ⟨i1, i2⟩ := nidx (k := k) (m := 6) hk (by omega)
  have n6' : ¬ (6 : Int32) ≤ ii (k : Int) := by rw [ii_lit, ii_le (by omega) (by omega) (by omega) (by omega)]; omega
  have z4 : (4 : Int32).toNatClampNeg = 4 := rfl
  have n4 : ¬ ((4 : Int32) < 0 ∨ 6 ≤ 4) := by decide
  have L : ∀ c : Nat, c ≤ 1000 → ((jj (c : Int) < jj (vs k : Int)) ↔ c < vs k) := fun c hc => by rw [jj_lt (by omega) (by omega) (by omega) (by omega)]; omega
  have G : (jj (vs k : Int) < 1) ↔ vs k < 1 := by rw [show (1 : Int64) = jj 1 from rfl, jj_lt (by omega) (by omega) (by omega) (by omega)]; omega
  have E0 : (jj (vs k : Int) = 0) ↔ vs k = 0 := by rw [show (0 : Int64) = jj 0 from rfl, jj_eq (by omega) (by omega) (by omega) (by omega)]; omega
  have E4 : (jj (vs k : Int) = jj (vs 4 : Int)) ↔ vs k = vs 4 := by rw [jj_eq (by omega) (by omega) (by omega) (by omega)]; omega
  have L40 := L 40 (by omega)
  have L200 := L 200 (by omega)
  rw [show jj ((40 : Nat) : Int) = 40 from rfl] at L40
  rw [show jj ((200 : Nat) : Int) = 200 from rfl] at L200
  unfold f_FP_countFits f_FP_countFits_0 cntOK
  rw [f_Mo_header_191, if_neg n6', i1, if_neg i2, s2, z4, if_neg n4, if_neg n4, s4, v2, y2]
  rcases n6 hk with rfl | rfl | rfl | rfl | rfl | rfl
  · rw [if_neg (by decide), if_neg (by decide), if_neg (by decide), if_neg (by decide), if_neg (show ¬ (2 : Int32) ≤ ii ((0 : Nat) : Int) by decide)]
    by_cases c0 : vs 0 = 0
    · rw [if_pos (E0.mpr c0), if_pos (E0.mpr c0)]
      exact ⟨true, ⟨fun _ => ⟨fun _ => Or.inl c0, by omega, by omega, by omega, by omega⟩, fun _ => rfl⟩, rfl, rfl⟩
    · rw [if_neg (fun y => c0 (E0.mp y)), if_neg (fun y => c0 (E0.mp y))]
      by_cases c4 : vs 0 = vs 4
      · rw [if_pos (E4.mpr c4), if_pos (E4.mpr c4)]
        exact ⟨true, ⟨fun _ => ⟨fun _ => Or.inr c4, by omega, by omega, by omega, by omega⟩, fun _ => rfl⟩, rfl, rfl⟩
      · rw [if_neg (fun y => c4 (E4.mp y)), if_neg (fun y => c4 (E4.mp y))]
        exact ⟨false, ⟨fun y => (by cases y), fun y => (y.1 (by omega)).elim (fun q => absurd q c0) (fun q => absurd q c4)⟩, rfl, rfl⟩
  · rw [if_neg (by decide), if_neg (by decide), if_neg (by decide), if_neg (by decide), if_neg (show ¬ (2 : Int32) ≤ ii ((1 : Nat) : Int) by decide)]
    by_cases c0 : vs 1 = 0
    · rw [if_pos (E0.mpr c0), if_pos (E0.mpr c0)]
      exact ⟨true, ⟨fun _ => ⟨fun _ => Or.inl c0, by omega, by omega, by omega, by omega⟩, fun _ => rfl⟩, rfl, rfl⟩
    · rw [if_neg (fun y => c0 (E0.mp y)), if_neg (fun y => c0 (E0.mp y))]
      by_cases c4 : vs 1 = vs 4
      · rw [if_pos (E4.mpr c4), if_pos (E4.mpr c4)]
        exact ⟨true, ⟨fun _ => ⟨fun _ => Or.inr c4, by omega, by omega, by omega, by omega⟩, fun _ => rfl⟩, rfl, rfl⟩
      · rw [if_neg (fun y => c4 (E4.mp y)), if_neg (fun y => c4 (E4.mp y))]
        exact ⟨false, ⟨fun y => (by cases y), fun y => (y.1 (by omega)).elim (fun q => absurd q c0) (fun q => absurd q c4)⟩, rfl, rfl⟩
  · rw [if_pos (show ii ((2 : Nat) : Int) = 2 from rfl), if_pos (show (2 : Int32) ≤ ii ((2 : Nat) : Int) by decide), if_pos (show ii ((2 : Nat) : Int) = 2 from rfl)]
    by_cases c : 40 < vs 2
    · rw [if_pos (L40.mpr c), if_pos (L40.mpr c)]
      exact ⟨false, ⟨fun y => (by cases y), fun y => absurd (y.2.1 rfl) (by omega)⟩, rfl, rfl⟩
    · rw [if_neg (fun y => c (L40.mp y)), if_neg (fun y => c (L40.mp y))]
      exact ⟨true, ⟨fun _ => ⟨by omega, fun _ => by omega, by omega, by omega, by omega⟩, fun _ => rfl⟩, rfl, rfl⟩
  · rw [if_neg (show ¬ ii ((3 : Nat) : Int) = 2 by decide), if_pos (show ii ((3 : Nat) : Int) = 3 from rfl), if_pos (show (2 : Int32) ≤ ii ((3 : Nat) : Int) by decide), if_neg (show ¬ ii ((3 : Nat) : Int) = 2 by decide), if_pos (show ii ((3 : Nat) : Int) = 3 from rfl)]
    by_cases c : 200 < vs 3
    · rw [if_pos (L200.mpr c), if_pos (L200.mpr c)]
      exact ⟨false, ⟨fun y => (by cases y), fun y => absurd (y.2.2.1 rfl) (by omega)⟩, rfl, rfl⟩
    · rw [if_neg (fun y => c (L200.mp y)), if_neg (fun y => c (L200.mp y))]
      exact ⟨true, ⟨fun _ => ⟨by omega, by omega, fun _ => by omega, by omega, by omega⟩, fun _ => rfl⟩, rfl, rfl⟩
  · rw [if_neg (show ¬ ii ((4 : Nat) : Int) = 2 by decide), if_neg (show ¬ ii ((4 : Nat) : Int) = 3 by decide), if_pos (show ii ((4 : Nat) : Int) = 4 from rfl), if_pos (show (2 : Int32) ≤ ii ((4 : Nat) : Int) by decide), if_neg (show ¬ ii ((4 : Nat) : Int) = 2 by decide), if_neg (show ¬ ii ((4 : Nat) : Int) = 3 by decide)]
    by_cases c : vs 4 < 1
    · rw [if_pos (G.mpr c), if_pos (G.mpr c)]
      exact ⟨false, ⟨fun y => (by cases y), fun y => absurd (y.2.2.2.1 rfl) (by omega)⟩, rfl, rfl⟩
    · rw [if_neg (fun y => c (G.mp y)), if_neg (fun y => c (G.mp y)), if_pos (show ii ((4 : Nat) : Int) = 4 from rfl)]
      unfold f_Mo_header_297
      by_cases c' : 40 < vs 4
      · rw [if_pos (L40.mpr c'), if_pos (L40.mpr c')]
        exact ⟨false, ⟨fun y => (by cases y), fun y => absurd (y.2.2.2.1 rfl) (by omega)⟩, rfl, rfl⟩
      · rw [if_neg (fun y => c' (L40.mp y)), if_neg (fun y => c' (L40.mp y))]
        exact ⟨true, ⟨fun _ => ⟨by omega, by omega, by omega, fun _ => by omega, by omega⟩, fun _ => rfl⟩, rfl, rfl⟩
  · rw [if_neg (show ¬ ii ((5 : Nat) : Int) = 2 by decide), if_neg (show ¬ ii ((5 : Nat) : Int) = 3 by decide), if_neg (show ¬ ii ((5 : Nat) : Int) = 4 by decide), if_pos (show ii ((5 : Nat) : Int) = 5 from rfl), if_pos (show (2 : Int32) ≤ ii ((5 : Nat) : Int) by decide), if_neg (show ¬ ii ((5 : Nat) : Int) = 2 by decide), if_neg (show ¬ ii ((5 : Nat) : Int) = 3 by decide)]
    by_cases c : vs 5 < 1
    · rw [if_pos (G.mpr c), if_pos (G.mpr c)]
      exact ⟨false, ⟨fun y => (by cases y), fun y => absurd (y.2.2.2.2 rfl) (by omega)⟩, rfl, rfl⟩
    · rw [if_neg (fun y => c (G.mp y)), if_neg (fun y => c (G.mp y)), if_neg (show ¬ ii ((5 : Nat) : Int) = 4 by decide)]
      unfold f_Mo_header_297
      by_cases c' : 200 < vs 5
      · rw [if_pos (L200.mpr c'), if_pos (L200.mpr c')]
        exact ⟨false, ⟨fun y => (by cases y), fun y => absurd (y.2.2.2.2 rfl) (by omega)⟩, rfl, rfl⟩
      · rw [if_neg (fun y => c' (L200.mp y)), if_neg (fun y => c' (L200.mp y))]
        exact ⟨true, ⟨fun _ => ⟨by omega, by omega, by omega, by omega, fun _ => by omega⟩, fun _ => rfl⟩, rfl, rfl⟩
/-- how a header ends -/
def HOut (n p : Nat) (fa pl : Int32) (ver : Int32) (cl : Option (Int32 × Int32 × Int32 × Int32 × Int32 × (Nat → Int64))) (rf : Option (Int32 × MS)) (si : Nat → Int32) (sj : Nat → Int64) (sa : Nat → Nat → Int32) (sb : Nat → Nat → Int64) : Prop :=
  (∃ (W : Nat → Int64) (vs : Nat → Nat) (si' : Nat → Int32) (sb' : Nat → Nat → Int64), cl = some (1, fa, pl, ii ((p + 44 : Nat) : Int), ver, W) ∧ rf = some (1, si', sj, sa, sb') ∧ p + 44 ≤ n ∧ (∀ j, j < 6 → W j = jj (vs j : Int) ∧ sb' 37 j = jj (vs j : Int) ∧ cntOK j (vs j) (vs 4)) ∧ si' 32 = ii ((p + 44 : Nat) : Int) ∧ (∀ k, k ≠ 32 → si' k = si k) ∧ ∀ b, b ≠ 37 → sb' b = sb b) ∨
  (∃ (f q po v : Int32) (W : Nat → Int64) (si' : Nat → Int32) (sb' : Nat → Nat → Int64), cl = some (0, f, q, po, v, W) ∧ rf = some (0, si', sj, sa, sb') ∧ si' 36 = f ∧ si' 2 = q ∧ (∀ k, k ≠ 2 → k ≠ 36 → si' k = si k) ∧ ∀ b, b ≠ 37 → sb' b = sb b)
theorem h178 {p : Nat} (hp : p + 44 ≤ n) (hn : n ≤ 6000) (fa pl ver : Int32) {W : Nat → Int64} {vs : Nat → Nat} (hv : ∀ j, j < 6 → vs j < 4294967296 ∧ W j = jj (vs j : Int)) {si : Nat → Int32} {sb : Nat → Nat → Int64} (hs : ∀ j, j < 6 → sb 37 j = jj (vs j : Int)) (h32 : si 32 = ii (p : Int)) : ∀ (d k fu fu' : Nat), k + d = 6 → d < fu → d < fu' → (∀ j, j < k → cntOK j (vs j) (vs 4)) → HOut n p fa pl ver (f_FP_readHeader_178 nf fu (ii (k : Int)) fa pl (ii (p : Int)) ver W) (f_Mo_header_191 nf fu' (ii (k : Int)) si sj sa sb) si sj sa sb := by
  intro d
  induction d with
  | zero =>
    intro k fu fu' hk hf hf' hc
    obtain ⟨f, rfl⟩ : ∃ f, fu = f + 1 := ⟨fu - 1, by omega⟩
    obtain ⟨f', rfl⟩ : ∃ f', fu' = f' + 1 := ⟨fu' - 1, by omega⟩
    obtain rfl : k = 6 := by omega
    have e44 : ii (p : Int) + 44 = ii ((p + 44 : Nat) : Int) := by rw [show (44 : Int32) = ii 44 from rfl, ii_add]; congr 1
    refine Or.inl ⟨W, vs, _, sb, ?_, ?_, hp, fun j hj => ⟨(hv j hj).2, hs j hj, hc j hj⟩, vup_eq, fun k hk => vup_ne hk, fun _ _ => rfl⟩
    · rw [f_FP_readHeader_178, if_pos (by decide), e44]
    · rw [f_Mo_header_191, if_pos (by decide), h32, e44]
  | succ d ih =>
    intro k fu fu' hk hf hf' hc
    obtain ⟨f, rfl⟩ : ∃ f, fu = f + 1 := ⟨fu - 1, by omega⟩
    obtain ⟨f', rfl⟩ : ∃ f', fu' = f' + 1 := ⟨fu' - 1, by omega⟩
    obtain ⟨i1, i2⟩ := nidx (k := k) (m := 6) (by omega) (by omega)
    obtain ⟨q, q1, q2, q3⟩ := hcnt (nf := nf) (sj := sj) (sa := sa) (K := f_Mo_header_191 nf f') hv (k := k) (by omega) f' (si := si) hs
    have n6' : ¬ (6 : Int32) ≤ ii (k : Int) := by rw [ii_lit, ii_le (by omega) (by omega) (by omega) (by omega)]; omega
    rw [f_FP_readHeader_178, if_neg n6', i1, if_neg i2, q2, Option.bind_some, q3]
    unfold f_Mo_header_306
    cases q with
    | true =>
      rw [if_neg (show ¬ bI true = 0 by decide), if_neg (show ¬ bI true = 0 by decide), iiS]
      refine ih (k + 1) f f' (by omega) (by omega) (by omega) (fun j hj => ?_)
      by_cases c : j = k
      · rw [c]
        exact q1.mp rfl
      · exact hc j (by omega)
    | false =>
      rw [if_pos (show bI false = 0 from rfl), if_pos (show bI false = 0 from rfl), h32]
      exact Or.inr ⟨4, _, _, _, _, _, sb, rfl, rfl, rfl, rfl, fun k h1 h2 => by rw [vup_ne h1, vup_ne h2], fun _ _ => rfl⟩
theorem h137 (hnf : 10000 ≤ nf) (hP : RB s N A n (sa 0)) (hn : n ≤ 6000) {p : Nat} (hp : p + 44 ≤ n) (fa pl ver : Int32) {si : Nat → Int32} (h32 : si 32 = ii (p : Int)) : ∀ (d k fu fu' : Nat) (W : Nat → Int64) (vs : Nat → Nat) (sb : Nat → Nat → Int64), k + d = 6 → d < fu → d < fu' → (∀ j, j < k → vs j < 4294967296 ∧ W j = jj (vs j : Int)) → (∀ j, j < k → sb 37 j = jj (vs j : Int)) → HOut n p fa pl ver (f_FP_readHeader_137 nf s N A fu (ii (k : Int)) fa pl (ii (p : Int)) ver W) (f_Mo_header_155 nf fu' (ii (k : Int)) si sj sa sb) si sj sa sb := by
  intro d
  induction d with
  | zero =>
    intro k fu fu' W vs sb hk hf hf' hv hs
    obtain ⟨f, rfl⟩ : ∃ f, fu = f + 1 := ⟨fu - 1, by omega⟩
    obtain ⟨f', rfl⟩ : ∃ f', fu' = f' + 1 := ⟨fu' - 1, by omega⟩
    obtain rfl : k = 6 := by omega
    rw [f_FP_readHeader_137, if_pos (by decide), f_Mo_header_155, if_pos (by decide)]
    exact h178 hp hn fa pl ver hv hs h32 6 0 nf nf (by omega) (by omega) (by omega) (fun j hj => by omega)
  | succ d ih =>
    intro k fu fu' W vs sb hk hf hf' hv hs
    obtain ⟨f, rfl⟩ : ∃ f, fu = f + 1 := ⟨fu - 1, by omega⟩
    obtain ⟨f', rfl⟩ : ∃ f', fu' = f' + 1 := ⟨fu' - 1, by omega⟩
    obtain ⟨i1, i2⟩ := nidx (k := k) (m := 6) (by omega) (by omega)
    have n6' : ¬ (6 : Int32) ≤ ii (k : Int) := by rw [ii_lit, ii_le (by omega) (by omega) (by omega) (by omega)]; omega
    have ep : ii (p : Int) + 20 + 4 * ii (k : Int) = ii ((p + 20 + 4 * k : Nat) : Int) := by rw [show (20 : Int32) = ii 20 from rfl, show (4 : Int32) = ii 4 from rfl, ii_mul, ii_add, ii_add]; congr 1
    obtain ⟨b, b1, b2, b3⟩ := rdu (nf := nf) (si := si) (sj := sj) (sb := sb) hnf hP hn (p := p + 20 + 4 * k) (by omega)
    rw [f_FP_readHeader_137, if_neg n6', ep, b2, Option.bind_some, i1, if_neg i2, f_Mo_header_155, if_neg n6', h32, ep, b3, Option.bind_some, i1, if_neg i2, iiS]
    have r := ih (k + 1) f f' (vp_updL W k (jj (b : Int))) (fun j => if j = k then b else vs j) (va_up sb 37 (vp_updL (sb 37) k (jj (b : Int)))) (by omega) (by omega) (by omega) (fun j hj => by
        by_cases c : j = k
        · rw [if_pos c, c, vpl_eq]
          exact ⟨b1, rfl⟩
        · rw [if_neg c, vpl_ne c]
          exact hv j (by omega)) (fun j hj => by
        rw [vup_eq]
        by_cases c : j = k
        · rw [if_pos c, c, vpl_eq]
        · rw [if_neg c, vpl_ne c]
          exact hs j (by omega))
    rcases r with ⟨W', vs', si', sb', g1, g2, g3, g4, g5, g6, g7⟩ | ⟨f1, q, po, v, W', si', sb', g1, g2, g3, g4, g5, g6⟩
    · exact Or.inl ⟨W', vs', si', sb', g1, g2, g3, g4, g5, g6, fun b hb => (g7 b hb).trans (vup_ne hb)⟩
    · exact Or.inr ⟨f1, q, po, v, W', si', sb', g1, g2, g3, g4, g5, fun b hb => (g6 b hb).trans (vup_ne hb)⟩
end
