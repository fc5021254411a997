/-! ===== read: names ===== -/
def NBy (T : Nat → Int32) (i : Nat) : Prop := ∃ v : Int, T i = ii v ∧ nmb v
theorem NBy.iff {T : Nat → Int32} {i b : Nat} (hb : b < 256) (h : T i = ii (b : Int)) : NBy T i ↔ nmb (b : Int) := by
  constructor
  · rintro ⟨v, e, hv⟩
    have r := nmb_nz hv
    rw [h, ii_eq (by omega) (by omega) (by omega) (by omega)] at e
    rw [e]
    exact hv
  · exact fun y => ⟨b, h, y⟩
theorem NZ.uq {T : Nat → Int32} {c x m m' : Nat} (h : NZ T c x m) (h' : NZ T c x m') : m = m' := by
  obtain ⟨a1, a2, a3⟩ := h
  obtain ⟨b1, b2, b3⟩ := h'
  rcases Nat.lt_trichotomy m m' with q | q | q
  · exact absurd (a3 (by omega)) (b2 m q)
  · exact q
  · exact absurd (b3 (by omega)) (a2 m' q)
section
variable {nf n : Nat} {s : Int32} {N : Nat} {A : Nat → Int32} {si : Nat → Int32} {sj : Nat → Int64} {sa : Nat → Nat → Int32} {sb : Nat → Nat → Int64}
theorem nbT {tyc spx upx txS cs : Int32} {X txA AA T : Nat → Int32} {txN NN c y k x j : Nat} (hb : RB cs NN AA c T) (hty : tyc = ii (y : Int)) (hy : y ≤ 40) (hk : k < y) (hX : X k = ii (x : Int)) (hj : x + j < c) : f_Zone_nameByte nf (ii (k : Int)) (ii (j : Int)) tyc X cs NN AA spx upx txS txN txA = some (T (x + j)) := by
  obtain ⟨q1, q2, q3, q4⟩ := iigt hy hk
  unfold f_Zone_nameByte f_Zone_nameByte_0 f_Zone_nameByte_31
  rw [hty, if_neg q1, if_neg q2, q3, if_neg q4, hX, ii_add, show ((x : Int) + (j : Int)) = ((x + j : Nat) : Int) by omega, hb.get hj]
  rfl
theorem nbO {tyc spx upx txS cs : Int32} {X txA AA T : Nat → Int32} {txN NN c y k x j : Nat} (hb : RB cs NN AA c T) (hty : tyc = ii (y : Int)) (hy : y ≤ 40) (hk : k < y) (hX : X k = ii (x : Int)) (hj : c ≤ x + j) (hj2 : x + j ≤ 10000) : f_Zone_nameByte nf (ii (k : Int)) (ii (j : Int)) tyc X cs NN AA spx upx txS txN txA = some (-1) := by
  obtain ⟨q1, q2, q3, q4⟩ := iigt hy hk
  unfold f_Zone_nameByte f_Zone_nameByte_0 f_Zone_nameByte_31
  rw [hty, if_neg q1, if_neg q2, q3, if_neg q4, hX, ii_add, hb.out (by omega) (by omega) (by omega)]
  rfl
theorem cnf36 {tyc spx upx txS cs : Int32} {X txA AA T : Nat → Int32} {txN NN c y k x m : Nat} (hb : RB cs NN AA c T) (hty : tyc = ii (y : Int)) (hy : y ≤ 40) (hk : k < y) (hX : X k = ii (x : Int)) (hm : x + m ≤ c) (hm2 : m ≤ 1000) : ∀ (d j fu : Nat), j + d = m → d < fu → ∃ q : Bool, (q = true ↔ ∀ i, j ≤ i → i < m → NBy T (x + i)) ∧ f_FP_nameFits_36 nf tyc X cs NN AA spx upx txS txN txA fu (ii (j : Int)) (ii (m : Int)) (ii (k : Int)) = some (bI q) := by
  intro d
  induction d with
  | zero =>
    intro j fu hj hf
    obtain ⟨f, rfl⟩ : ∃ f, fu = f + 1 := ⟨fu - 1, by omega⟩
    rw [f_FP_nameFits_36, if_pos (iple (c := 0) (d := 0) (show m ≤ j by omega) (by omega))]
    exact ⟨true, ⟨fun _ i h1 h2 => by omega, fun _ => rfl⟩, rfl⟩
  | succ d ih =>
    intro j fu hj hf
    obtain ⟨f, rfl⟩ : ∃ f, fu = f + 1 := ⟨fu - 1, by omega⟩
    obtain ⟨b, hb1, eb⟩ := hb.byte (k := x + j) (by omega)
    have ni := NBy.iff hb1 eb
    rw [f_FP_nameFits_36, if_neg (inle (show j < m by omega) (by omega)), nbT hb hty hy hk hX (by omega), Option.bind_some, eb, cnmb nf (by omega) (by omega), Option.bind_some]
    by_cases c1 : nmb (b : Int)
    · rw [if_pos c1, if_neg (show ¬ (1 : Int32) = 0 by decide), iiS]
      obtain ⟨q, h1, h2⟩ := ih (j + 1) f (by omega) (by omega)
      refine ⟨q, ⟨fun y i a1 a2 => ?_, fun y => h1.mpr (fun i a1 a2 => y i (by omega) a2)⟩, h2⟩
      by_cases ei : i = j
      · rw [ei]
        exact ni.mpr c1
      · exact h1.mp y i (by omega) a2
    · rw [if_neg c1, if_pos rfl]
      exact ⟨false, ⟨fun y => (by cases y), fun y => absurd (ni.mp (y j (by omega) (by omega))) c1⟩, rfl⟩
theorem cnfit (hnf : 10000 ≤ nf) {tyc spx upx ssx usx txS cs : Int32} {X txA AA T : Nat → Int32} {txN NN c y k x : Nat} (hb : RB cs NN AA c T) (hc : c ≤ 200) (hty : tyc = ii (y : Int)) (hy : y ≤ 40) (hk : k < y) (hX : X k = ii (x : Int)) (hx : x < c) : ∃ q : Bool, (q = true ↔ ∃ m, nam0 T c x m) ∧ f_FP_nameFits nf (ii (k : Int)) tyc X cs NN AA spx ssx upx usx txS txN txA = some (bI q) := by
  obtain ⟨m, hm⟩ := NZ.ex T c (c - x) x (by omega)
  have hm1 := hm.1
  unfold f_FP_nameFits f_FP_nameFits_0
  rw [cnameSize hnf hb (by omega) hty hk hy hX hm, Option.bind_some]
  have no : ∀ Q : Prop, ¬ Q → (Q ↔ false = true) := fun Q h => ⟨fun y => absurd y h, fun y => by cases y⟩
  by_cases m3 : m < 3
  · rw [if_pos (show ii (m : Int) < 3 by rw [ii_lit, ii_lt (by omega) (by omega) (by omega) (by omega)]; omega)]
    refine ⟨false, (no _ ?_).symm, rfl⟩
    rintro ⟨m', h'⟩
    have := hm.uq h'.nz
    have := h'.1
    omega
  · rw [if_neg (show ¬ ii (m : Int) < 3 by rw [ii_lit, ii_lt (by omega) (by omega) (by omega) (by omega)]; omega)]
    by_cases m10 : 10 < m
    · rw [if_pos (show (10 : Int32) < ii (m : Int) by rw [ii_lit, ii_lt (by omega) (by omega) (by omega) (by omega)]; omega)]
      refine ⟨false, (no _ ?_).symm, rfl⟩
      rintro ⟨m', h'⟩
      have := hm.uq h'.nz
      have := h'.2.1
      omega
    · rw [if_neg (show ¬ (10 : Int32) < ii (m : Int) by rw [ii_lit, ii_lt (by omega) (by omega) (by omega) (by omega)]; omega)]
      by_cases e : x + m < c
      · rw [nbT hb hty hy hk hX e, Option.bind_some, if_pos (hm.2.2 e)]
        obtain ⟨q, q1, q2⟩ := cnf36 (nf := nf) (spx := spx) (upx := upx) (txS := txS) (txA := txA) (txN := txN) hb hty hy hk hX hm1 (by omega) m 0 nf (by omega) (by omega)
        refine ⟨q, q1.trans ⟨fun y => ⟨m, by omega, by omega, e, fun i hi => y i (by omega) hi, hm.2.2 e⟩, fun y i _ hi => ?_⟩, q2⟩
        obtain ⟨m', h'⟩ := y
        have em := hm.uq h'.nz
        subst em
        exact h'.2.2.2.1 i hi
      · rw [nbO hb hty hy hk hX (by omega) (by omega), Option.bind_some, if_neg (by decide)]
        refine ⟨false, (no _ ?_).symm, rfl⟩
        rintro ⟨m', h'⟩
        have em := hm.uq h'.nz
        have := h'.2.2.1
        omega
/-! the reference -/
theorem mnr132z {K : Int32 → Int32 → Int32 → (Nat → Int32) → (Nat → Int64) → (Nat → Nat → Int32) → (Nat → Nat → Int64) → Option (Int32 × MS)} {x x1 x2 x3 x4 : Int32} (f : Nat) : f_Mo_nameRows_132 nf K (f + 1) x 0 x4 x3 x2 x1 si sj sa sb = f_Mo_nameRows_180 nf K 0 x3 x2 x1 si sj sa sb := by
  rw [f_Mo_nameRows_132]
  by_cases c : x4 ≤ x
  · rw [if_pos c]
  · rw [if_neg c, if_pos rfl]
theorem mnr132 {K : Int32 → Int32 → Int32 → (Nat → Int32) → (Nat → Int64) → (Nat → Nat → Int32) → (Nat → Nat → Int64) → Option (Int32 × MS)} {x2 : Int32} {k x m c : Nat} (hk : k < 40) (hX : sa 16 (160 + k) = ii (x : Int)) (hm : x + m ≤ c) (hc : c ≤ 200) (hB : ∀ j, j < c → ∃ b : Nat, b < 256 ∧ sa 17 (800 + j) = ii (b : Int)) : ∀ (d j fu : Nat), j + d = m → d < fu → ∃ q : Bool, (q = true ↔ ∀ i, j ≤ i → i < m → NBy (fun q => sa 17 (800 + q)) (x + i)) ∧ f_Mo_nameRows_132 nf K fu (ii (j : Int)) 1 (ii (m : Int)) (ii (k : Int)) x2 4 si sj sa sb = f_Mo_nameRows_180 nf K (bI q) (ii (k : Int)) x2 4 si sj sa sb := by
  intro d
  induction d with
  | zero =>
    intro j fu hj hf
    obtain ⟨f, rfl⟩ : ∃ f, fu = f + 1 := ⟨fu - 1, by omega⟩
    rw [f_Mo_nameRows_132, if_pos (iple (c := 0) (d := 0) (show m ≤ j by omega) (by omega))]
    exact ⟨true, ⟨fun _ i h1 h2 => by omega, fun _ => rfl⟩, rfl⟩
  | succ d ih =>
    intro j fu hj hf
    obtain ⟨f, rfl⟩ : ∃ f, fu = f + 2 := ⟨fu - 2, by omega⟩
    obtain ⟨b, hb1, eb⟩ := hB (x + j) (by omega)
    have ni := NBy.iff (T := fun q => sa 17 (800 + q)) (i := x + j) hb1 eb
    obtain ⟨i1, i2⟩ := nidx (k := 160 + k) (m := 200) (by omega) (by omega)
    obtain ⟨i3, i4⟩ := nidx (k := 800 + (x + j)) (m := 1000) (by omega) (by omega)
    have e17 : 200 * (4 : Int32) + ii (x : Int) + ii (j : Int) = ii ((800 + (x + j) : Nat) : Int) := by
      rw [show (200 * (4 : Int32)) = ii 800 from rfl, ii_add, ii_add]
      congr 1
      omega
    rw [f_Mo_nameRows_132, if_neg (inle (show j < m by omega) (by omega)), if_neg (show ¬ (1 : Int32) = 0 by decide), e160, i1, if_neg i2, hX, e17, i3, if_neg i4, eb, mnmb nf (by omega) (by omega), Option.bind_some]
    by_cases c1 : nmb (b : Int)
    · rw [if_pos c1, iiS]
      obtain ⟨q, h1, h2⟩ := ih (j + 1) (f + 1) (by omega) (by omega)
      refine ⟨q, ⟨fun y i a1 a2 => ?_, fun y => h1.mpr (fun i a1 a2 => y i (by omega) a2)⟩, h2⟩
      by_cases ei : i = j
      · rw [ei]
        exact ni.mpr c1
      · exact h1.mp y i (by omega) a2
    · rw [if_neg c1, mnr132z]
      exact ⟨false, ⟨fun y => (by cases y), fun y => absurd (ni.mp (y j (by omega) (by omega))) c1⟩, rfl⟩
theorem mnfit (hnf : 10000 ≤ nf) {x2 : Int32} {y k x c : Nat} (hy : y ≤ 40) (hk : k < y) (h6 : sa 6 4 = ii (y : Int)) (h7 : sa 7 4 = ii (c : Int)) (hX : sa 16 (160 + k) = ii (x : Int)) (hx : x < c) (hc : c ≤ 200) (hB : ∀ j, j < c → ∃ b : Nat, b < 256 ∧ sa 17 (800 + j) = ii (b : Int)) (f : Nat) : ∃ q : Bool, (q = true ↔ ∃ m, nam0 (fun q => sa 17 (800 + q)) c x m) ∧ f_Mo_nameRows_91 nf (f + 1) (ii (k : Int)) x2 4 si sj sa sb = f_Mo_nameRows_180 nf (f_Mo_nameRows_91 nf f) (bI q) (ii (k : Int)) x2 4 si sj sa sb := by
  have n4 : ¬ ((4 : Int32) < 0 ∨ 5 ≤ 4) := by decide
  have z4 : (4 : Int32).toNatClampNeg = 4 := rfl
  obtain ⟨m, hm⟩ := NZ.ex (fun q => sa 17 (800 + q)) c (c - x) x (by omega)
  have hm1 := hm.1
  obtain ⟨g, hg⟩ : ∃ g, nf = g + 1 := ⟨nf - 1, by omega⟩
  have ms : f_Mo_nameSize nf 4 (ii (k : Int)) si sj sa sb = some (if x + m = c then -1 else ii (m : Int)) := mnameSize hnf (i := 4) (by omega) h7 hc (by omega) hX hm
  have bad : ∀ r : Int32, f_Mo_nameRows_126 nf (f_Mo_nameRows_91 nf f) r (ii (k : Int)) x2 4 si sj sa sb = f_Mo_nameRows_180 nf (f_Mo_nameRows_91 nf f) (bI false) (ii (k : Int)) x2 4 si sj sa sb := by
    intro r
    unfold f_Mo_nameRows_126 f_Mo_nameRows_127
    have := mnr132z (nf := nf) (K := f_Mo_nameRows_91 nf f) (x := 0) (x1 := 4) (x2 := x2) (x3 := ii (k : Int)) (x4 := r) (si := si) (sj := sj) (sa := sa) (sb := sb) g
    rw [← hg] at this
    exact this
  have no : ∀ Q : Prop, ¬ Q → (Q ↔ false = true) := fun Q h => ⟨fun y => absurd y h, fun y => by cases y⟩
  rw [f_Mo_nameRows_91, z4, if_neg n4, h6, if_neg (inle hk (by omega)), ms, Option.bind_some]
  by_cases e : x + m = c
  · rw [if_pos e, if_pos (by decide), bad]
    refine ⟨false, (no _ ?_).symm, rfl⟩
    rintro ⟨m', h'⟩
    have em := hm.uq h'.nz
    have := h'.2.2.1
    omega
  · rw [if_neg e]
    by_cases m3 : m < 3
    · rw [if_pos (show ii (m : Int) < 3 by rw [ii_lit, ii_lt (by omega) (by omega) (by omega) (by omega)]; omega), bad]
      refine ⟨false, (no _ ?_).symm, rfl⟩
      rintro ⟨m', h'⟩
      have := hm.uq h'.nz
      have := h'.1
      omega
    · rw [if_neg (show ¬ ii (m : Int) < 3 by rw [ii_lit, ii_lt (by omega) (by omega) (by omega) (by omega)]; omega)]
      by_cases m10 : 10 < m
      · rw [if_pos (show (10 : Int32) < ii (m : Int) by rw [ii_lit, ii_lt (by omega) (by omega) (by omega) (by omega)]; omega), bad]
        refine ⟨false, (no _ ?_).symm, rfl⟩
        rintro ⟨m', h'⟩
        have := hm.uq h'.nz
        have := h'.2.1
        omega
      · rw [if_neg (show ¬ (10 : Int32) < ii (m : Int) by rw [ii_lit, ii_lt (by omega) (by omega) (by omega) (by omega)]; omega)]
        unfold f_Mo_nameRows_127
        obtain ⟨q, q1, q2⟩ := mnr132 (nf := nf) (si := si) (sj := sj) (sb := sb) (K := f_Mo_nameRows_91 nf f) (x2 := x2) (k := k) (by omega) hX hm1 hc hB m 0 nf (by omega) (by omega)
        refine ⟨q, q1.trans ⟨fun y => ⟨m, by omega, by omega, by omega, fun i hi => y i (by omega) hi, hm.2.2 (by omega)⟩, fun y i _ hi => ?_⟩, q2⟩
        obtain ⟨m', h'⟩ := y
        have em := hm.uq h'.nz
        subst em
        exact h'.2.2.2.1 i hi
/-- all names -/
theorem nms (hnf : 10000 ≤ nf) {tyc spx upx ssx usx txS cs : Int32} {X txA AA : Nat → Int32} {txN NN c y tp po : Nat} (hb : RB cs NN AA c (fun q => sa 17 (800 + q))) (hc : c ≤ 200) (hty : tyc = ii (y : Int)) (hy : y ≤ 40) (ix : Nat → Nat) (hX : ∀ k, k < y → X k = ii (ix k : Int) ∧ sa 16 (160 + k) = ii (ix k : Int) ∧ ix k < c) (h6 : sa 6 4 = ii (y : Int)) (h7 : sa 7 4 = ii (c : Int)) (htp : tp ≤ 6000) (fa pl : Int32) : ∀ (d k fu fu' : Nat), k + d = y → d < fu → d < fu' → (∀ j, j < k → ∃ m, nam0 (fun q => sa 17 (800 + q)) c (ix j) m) →
    (f_FP_readChars_62 nf tyc X spx ssx upx usx txS txN txA fu (ii (k : Int)) (ii (tp : Int)) fa pl (ii (po : Int)) cs NN AA = some ((1, fa, pl, ii (po : Int), cs, NN, AA), 0, 0) ∧ f_Mo_nameRows_91 nf fu' (ii (k : Int)) (ii (tp : Int)) 4 si sj sa sb = some (1, si, sj, sa, sb) ∧ ∀ j, j < y → ∃ m, nam0 (fun q => sa 17 (800 + q)) c (ix j) m) ∨
    (∃ pp : Int32, f_FP_readChars_62 nf tyc X spx ssx upx usx txS txN txA fu (ii (k : Int)) (ii (tp : Int)) fa pl (ii (po : Int)) cs NN AA = some ((0, 10, pp, ii (po : Int), cs, NN, AA), 0, 0) ∧ f_Mo_nameRows_91 nf fu' (ii (k : Int)) (ii (tp : Int)) 4 si sj sa sb = some (0, va_up (va_up si 36 10) 2 pp, sj, sa, sb)) := by
  have n4 : ¬ ((4 : Int32) < 0 ∨ 5 ≤ 4) := by decide
  have z4 : (4 : Int32).toNatClampNeg = 4 := rfl
  intro d
  induction d with
  | zero =>
    intro k fu fu' hk hf hf' hh
    obtain ⟨f, rfl⟩ : ∃ f, fu = f + 1 := ⟨fu - 1, by omega⟩
    obtain ⟨f', rfl⟩ : ∃ f', fu' = f' + 1 := ⟨fu' - 1, by omega⟩
    obtain rfl : k = y := by omega
    have le : ii (k : Int) ≤ ii (k : Int) := iple (c := 0) (d := 0) (by omega) (by omega)
    refine Or.inl ⟨?_, ?_, hh⟩
    · rw [f_FP_readChars_62, if_pos (show tyc ≤ ii (k : Int) by rw [hty]; exact le)]
    · rw [f_Mo_nameRows_91, z4, if_neg n4, h6, if_pos le]
  | succ d ih =>
    intro k fu fu' hk hf hf' hh
    obtain ⟨f, rfl⟩ : ∃ f, fu = f + 1 := ⟨fu - 1, by omega⟩
    obtain ⟨f', rfl⟩ : ∃ f', fu' = f' + 1 := ⟨fu' - 1, by omega⟩
    obtain ⟨x1, x2, x3⟩ := hX k (by omega)
    obtain ⟨q, q1, q2⟩ := cnfit (nf := nf) (spx := spx) (upx := upx) (ssx := ssx) (usx := usx) (txS := txS) (txA := txA) (txN := txN) hnf hb hc hty hy (k := k) (by omega) x1 x3
    obtain ⟨q', r1, r2⟩ := mnfit (nf := nf) (si := si) (sj := sj) (sb := sb) (x2 := ii (tp : Int)) hnf hy (k := k) (by omega) h6 h7 x2 x3 hc (fun j hj => hb.byte hj) f'
    have pp : q = q' := Bool.eq_iff_iff.mpr (q1.trans r1.symm)
    subst pp
    rw [f_FP_readChars_62, if_neg (show ¬ tyc ≤ ii (k : Int) by rw [hty]; exact inle (by omega) (by omega)), q2, Option.bind_some, r2]
    unfold f_Mo_nameRows_180
    cases q with
    | true =>
      rw [if_neg (show ¬ bI true = 0 by decide), if_neg (show ¬ bI true = 0 by decide), iiS]
      refine ih (k + 1) f f' (by omega) (by omega) (by omega) (fun j hj => ?_)
      by_cases c1 : j = k
      · rw [c1]
        exact q1.mp rfl
      · exact hh j (by omega)
    | false =>
      rw [if_pos (show bI false = 0 from rfl), if_pos (show bI false = 0 from rfl)]
      exact Or.inr ⟨_, rfl, rfl⟩
end
