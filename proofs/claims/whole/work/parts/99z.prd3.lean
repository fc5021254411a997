/-! ===== read: the header, whole ===== -/
section
variable {nf n : Nat} {s : Int32} {N : Nat} {A : Nat → Int32} {sj : Nat → Int64} {sa : Nat → Nat → Int32} {sb : Nat → Nat → Int64}
theorem h116 (hnf : 10000 ≤ nf) (hP : RB s N A n (sa 0)) (hn : n ≤ 6000) {p : Nat} (hp : p ≤ n) (fa pl ver zv : Int32) (W : Nat → Int64) {si : Nat → Int32} (h1 : si 1 = ii (n : Int)) (h32 : si 32 = ii (p : Int)) : HOut n p fa pl ver (f_FP_readHeader_116 nf s N A ver fa pl (ii (p : Int)) zv W) (f_Mo_header_129 nf si sj sa sb) si sj sa sb := by
  have hm : f_FP_hasMore nf 44 fa pl (ii (p : Int)) s = if p + 44 ≤ n then some (1, fa, pl) else some (0, 1, ii (n : Int)) := chas hP.1 hn hp (m := 44) (by omega) fa pl
  have e44 : ii (p : Int) + 44 = ii ((p + 44 : Nat) : Int) := by rw [show (44 : Int32) = ii 44 from rfl, ii_add]; congr 1
  unfold f_FP_readHeader_116 f_Mo_header_129
  rw [hm, h32, h1, e44]
  by_cases c : p + 44 ≤ n
  · rw [if_pos c, Option.bind_some, if_pos (iple (c := 0) (d := 0) c (by omega))]
    dsimp only
    rw [if_neg (show ¬ (1 : Int32) = 0 by decide)]
    exact h137 hnf hP hn c fa pl ver h32 6 0 nf nf W (fun _ => 0) sb (by omega) (by omega) (by omega) (fun j hj => by omega) (fun j hj => by omega)
  · rw [if_neg c, Option.bind_some, if_neg (inle (show n < p + 44 by omega) (by omega))]
    dsimp only
    rw [if_pos rfl]
    exact Or.inr ⟨1, ii (n : Int), _, _, _, va_up (va_up si 36 1) 2 (ii (n : Int)), sb, rfl, rfl, rfl, rfl, fun k h1 h2 => by rw [vup_ne h1, vup_ne h2], fun _ _ => rfl⟩
def HdO (n p : Nat) (fa pl : Int32) (first : Bool) (T : Nat → Int32) (cl : Option (Int32 × Int32 × Int32 × Int32 × Int32 × (Nat → Int64))) (rf : Option (Int32 × MS)) (si : Nat → Int32) (sj : Nat → Int64) (sa : Nat → Nat → Int32) (sb : Nat → Nat → Int64) : Prop :=
  (∃ (W : Nat → Int64) (vs : Nat → Nat) (si' : Nat → Int32) (sb' : Nat → Nat → Int64), cl = some (1, fa, pl, ii ((p + 44 : Nat) : Int), T (p + 4), W) ∧ rf = some (1, si', sj, sa, sb') ∧ p + 44 ≤ n ∧ (∀ j, j < 6 → W j = jj (vs j : Int) ∧ sb' 37 j = jj (vs j : Int) ∧ cntOK j (vs j) (vs 4)) ∧ (first = true → T (p + 4) = 0 ∨ T (p + 4) = 50 ∨ T (p + 4) = 51) ∧ (first = false → T (p + 4) = si 38) ∧ si' 32 = ii ((p + 44 : Nat) : Int) ∧ si' 38 = T (p + 4) ∧ (∀ k, k ≠ 32 → k ≠ 38 → si' k = si k) ∧ ∀ b, b ≠ 37 → sb' b = sb b) ∨
  (∃ (f q po v : Int32) (W : Nat → Int64) (si' : Nat → Int32) (sb' : Nat → Nat → Int64), cl = some (0, f, q, po, v, W) ∧ rf = some (0, si', sj, sa, sb') ∧ si' 36 = f ∧ si' 2 = q ∧ (∀ k, k ≠ 2 → k ≠ 36 → k ≠ 38 → si' k = si k) ∧ ∀ b, b ≠ 37 → sb' b = sb b)
theorem mgk {k : Nat} (hk : k < 4) : f_Mo_magic nf (ii (k : Int)) = some (mg_v k) := by
  rcases (show k = 0 ∨ k = 1 ∨ k = 2 ∨ k = 3 by omega) with rfl | rfl | rfl | rfl <;> rfl
theorem hdr2 (hnf : 10000 ≤ nf) (hP : RB s N A n (sa 0)) (hn : n ≤ 6000) {p : Nat} (hp : p ≤ n) (fa pl zv : Int32) (W : Nat → Int64) {si : Nat → Int32} (h1 : si 1 = ii (n : Int)) (h32 : si 32 = ii (p : Int)) (first : Bool) (h38 : first = false → si 38 = zv) : ∀ (d k fu fu' : Nat), k + d = 4 → d < fu → d < fu' → HdO n p fa pl first (sa 0) (f_FP_readHeader_2 nf s N A fu (ii (k : Int)) (bI first) fa pl (ii (p : Int)) zv W) (f_Mo_header_2 nf fu' (ii (k : Int)) (bI first.not) si sj sa sb) si sj sa sb := by
  have hs := hP.1
  have e4 : ii (p : Int) + 4 = ii ((p + 4 : Nat) : Int) := by rw [show (4 : Int32) = ii 4 from rfl, ii_add]; congr 1
  intro d
  induction d with
  | zero =>
    intro k fu fu' hk hf hf'
    obtain ⟨f, rfl⟩ : ∃ f, fu = f + 1 := ⟨fu - 1, by omega⟩
    obtain ⟨f', rfl⟩ : ∃ f', fu' = f' + 1 := ⟨fu' - 1, by omega⟩
    obtain rfl : k = 4 := by omega
    rw [f_FP_readHeader_2, if_pos (by decide), e4, f_Mo_header_2, if_pos (by decide), h1, h32, e4]
    by_cases c : p + 4 < n
    · obtain ⟨i1, i2⟩ := nidx (k := p + 4) (m := 6000) (by omega) (by omega)
      rw [hP.get (k := p + 4) c, Option.bind_some, if_neg (show ¬ s ≤ ii ((p + 4 : Nat) : Int) by rw [hs]; exact inle c (by omega)), if_neg (inle c (by omega)), i1, if_neg i2]
      -- a good version
      have good : (first = true → sa 0 (p + 4) = 0 ∨ sa 0 (p + 4) = 50 ∨ sa 0 (p + 4) = 51) → (first = false → sa 0 (p + 4) = si 38) → HdO n p fa pl first (sa 0) (f_FP_readHeader_116 nf s N A (sa 0 (p + 4)) fa pl (ii (p : Int)) zv W) (f_Mo_header_124 nf (sa 0 (p + 4)) si sj sa sb) si sj sa sb := by
        intro g1 g2
        have r := h116 (nf := nf) (sj := sj) (sb := sb) (si := va_up si 38 (sa 0 (p + 4))) hnf hP hn hp fa pl (sa 0 (p + 4)) zv W ((vup_ne (by decide)).trans h1) ((vup_ne (by decide)).trans h32)
        unfold f_Mo_header_124
        rcases r with ⟨W', vs, si', sb', x1, x2, x3, x4, x5, x6, x7⟩ | ⟨f1, q, po, v, W', si', sb', x1, x2, x3, x4, x5, x6⟩
        · exact Or.inl ⟨W', vs, si', sb', x1, x2, x3, x4, g1, g2, x5, (x6 38 (by decide)).trans vup_eq, fun k a1 a2 => (x6 k a1).trans (vup_ne a2), x7⟩
        · exact Or.inr ⟨f1, q, po, v, W', si', sb', x1, x2, x3, x4, fun k a1 a2 a3 => (x5 k a1 a2).trans (vup_ne a3), x6⟩
      have bad : HdO n p fa pl first (sa 0) ((f_FP_fail nf 3 (ii ((p + 4 : Nat) : Int)) fa pl).bind fun (z_21, z_22, z_23) => if z_21 = 0 ∨ z_21 = 1 then some (z_21, z_22, z_23, ii (p : Int), zv, W) else none) (f_Mo_header_112 nf si sj sa sb) si sj sa sb := by
        unfold f_Mo_header_112
        rw [h32, e4]
        exact Or.inr ⟨3, ii ((p + 4 : Nat) : Int), _, _, _, _, sb, rfl, rfl, rfl, rfl, fun k a1 a2 _ => by rw [vup_ne a1, vup_ne a2], fun _ _ => rfl⟩
      unfold f_FP_isVersion f_FP_isVersion_0 f_FP_isVersion_37 f_FP_isVersion_42 f_FP_isVersion_20
      rw [if_pos (show (1 : Int32) = 0 ∨ (1 : Int32) = 1 from Or.inr rfl), if_pos (show (0 : Int32) = 0 ∨ (0 : Int32) = 1 from Or.inl rfl)]
      cases first with
      | true =>
        rw [if_neg (show ¬ bI true = 0 by decide), if_pos (show bI true.not = 0 from rfl)]
        by_cases v0 : sa 0 (p + 4) = 0
        · rw [if_pos v0, if_pos v0, Option.bind_some, if_neg (show ¬ (1 : Int32) = 0 by decide)]
          exact good (fun _ => Or.inl v0) (fun y => by cases y)
        · rw [if_neg v0, if_neg v0]
          by_cases v5 : sa 0 (p + 4) = 50
          · rw [if_pos v5, if_pos v5, Option.bind_some, if_neg (show ¬ (1 : Int32) = 0 by decide)]
            exact good (fun _ => Or.inr (Or.inl v5)) (fun y => by cases y)
          · rw [if_neg v5, if_neg v5]
            by_cases v6 : sa 0 (p + 4) = 51
            · rw [if_pos v6, if_pos v6, Option.bind_some, if_neg (show ¬ (1 : Int32) = 0 by decide)]
              exact good (fun _ => Or.inr (Or.inr v6)) (fun y => by cases y)
            · rw [if_neg v6, if_neg v6, Option.bind_some, if_pos rfl]
              exact bad
      | false =>
        rw [if_pos (show bI false = 0 from rfl), if_neg (show ¬ bI false.not = 0 by decide), h38 rfl]
        by_cases v0 : sa 0 (p + 4) = zv
        · rw [if_pos v0, if_pos v0, Option.bind_some, if_neg (show ¬ (1 : Int32) = 0 by decide)]
          exact good (fun y => by cases y) (fun _ => v0.trans (h38 rfl).symm)
        · rw [if_neg v0, if_neg v0, Option.bind_some, if_pos rfl]
          exact bad
    · rw [tget hP hn (by omega), Option.bind_some, if_pos (show s ≤ ii ((p + 4 : Nat) : Int) by rw [hs]; exact iple (c := 0) (d := 0) (by omega) (by omega)), if_pos (iple (c := 0) (d := 0) (show n ≤ p + 4 by omega) (by omega))]
      have r := h116 (nf := nf) (sj := sj) (sb := sb) hnf hP hn hp fa pl (ii (LL (sa 0) n (p + 4))) zv W h1 h32
      rcases r with ⟨W', vs, si', sb', x1, x2, x3, x4, x5, x6, x7⟩ | ⟨f1, q, po, v, W', si', sb', x1, x2, x3, x4, x5, x6⟩
      · omega
      · exact Or.inr ⟨f1, q, po, v, W', si', sb', x1, x2, x3, x4, fun k a1 a2 _ => x5 k a1 a2, x6⟩
  | succ d ih =>
    intro k fu fu' hk hf hf'
    obtain ⟨f, rfl⟩ : ∃ f, fu = f + 1 := ⟨fu - 1, by omega⟩
    obtain ⟨f', rfl⟩ : ∃ f', fu' = f' + 1 := ⟨fu' - 1, by omega⟩
    have n4 : ¬ (4 : Int32) ≤ ii (k : Int) := by rw [ii_lit, ii_le (by omega) (by omega) (by omega) (by omega)]; omega
    have ek : ii (p : Int) + ii (k : Int) = ii ((p + k : Nat) : Int) := by rw [ii_add]; congr 1
    rw [f_FP_readHeader_2, if_neg n4, ek, f_Mo_header_2, if_neg n4, h1, h32, ek]
    unfold f_FP_readHeader_59 f_Mo_header_50
    rw [iiS]
    by_cases c : p + k < n
    · obtain ⟨i1, i2⟩ := nidx (k := p + k) (m := 6000) (by omega) (by omega)
      obtain ⟨i3, i4⟩ := nidx (k := k) (m := 4) (by omega) (by omega)
      rw [if_neg (show ¬ s ≤ ii ((p + k : Nat) : Int) by rw [hs]; exact inle c (by omega)), hP.get (k := p + k) c, Option.bind_some, i3, if_neg i4, if_neg (inle c (by omega)), i1, if_neg i2, mgk (by omega), Option.bind_some]
      by_cases m : sa 0 (p + k) = mg_v k
      · rw [if_pos m, if_pos m]
        exact ih (k + 1) f f' (by omega) (by omega) (by omega)
      · rw [if_neg m, if_neg m]
        exact Or.inr ⟨2, ii ((p + k : Nat) : Int), _, _, _, _, sb, rfl, rfl, rfl, rfl, fun k a1 a2 _ => by rw [vup_ne a1, vup_ne a2], fun _ _ => rfl⟩
    · rw [if_pos (show s ≤ ii ((p + k : Nat) : Int) by rw [hs]; exact iple (c := 0) (d := 0) (by omega) (by omega)), if_pos (iple (c := 0) (d := 0) (show n ≤ p + k by omega) (by omega))]
      exact ih (k + 1) f f' (by omega) (by omega) (by omega)
theorem hdr (hnf : 10000 ≤ nf) (hP : RB s N A n (sa 0)) (hn : n ≤ 6000) {p : Nat} (hp : p ≤ n) (fa pl zv : Int32) (W : Nat → Int64) {si : Nat → Int32} (h1 : si 1 = ii (n : Int)) (h32 : si 32 = ii (p : Int)) (first : Bool) (h38 : first = false → si 38 = zv) : HdO n p fa pl first (sa 0) (f_FP_readHeader nf (bI first) fa pl (ii (p : Int)) s N A zv W) (f_Mo_header nf (bI first.not) si sj sa sb) si sj sa sb :=
  hdr2 hnf hP hn hp fa pl zv W h1 h32 first h38 4 0 nf nf (by omega) (by omega) (by omega)
end
