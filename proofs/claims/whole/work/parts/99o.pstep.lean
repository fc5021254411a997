/-! ===== two states are the same; a step ===== -/
def sm (O D : Int → Int) (Z : Int → Nat) (B : Int → Nat → Int32) (g g' : Int) : Prop := (g = -3 ∧ g' = -3) ∨ (g ≠ -3 ∧ g' ≠ -3 ∧ O g = O g' ∧ D g = D g' ∧ Z g = Z g' ∧ ∀ k, k < Z g → B g k = B g' k)
def QF (si si' : Nat → Int32) (sj sj' : Nat → Int64) (sa sa' : Nat → Nat → Int32) : Prop := (∀ k, ¬ (41 ≤ k ∧ k ≤ 52) → si' k = si k) ∧ (∀ k, k ≠ 40 → sj' k = sj k) ∧ frA sa sa'
theorem QF.rf {si : Nat → Int32} {sj : Nat → Int64} {sa : Nat → Nat → Int32} : QF si si sj sj sa sa := ⟨fun _ _ => rfl, fun _ _ => rfl, frA.rf⟩
theorem QF.tr {si si' si'' : Nat → Int32} {sj sj' sj'' : Nat → Int64} {sa sa' sa'' : Nat → Nat → Int32} (h : QF si si' sj sj' sa sa') (g : QF si' si'' sj' sj'' sa' sa'') : QF si si'' sj sj'' sa sa'' :=
  ⟨fun k hk => (g.1 k hk).trans (h.1 k hk), fun k hk => (g.2.1 k hk).trans (h.2.1 k hk), h.2.2.tr g.2.2⟩
section
variable {nf : Nat} {z : ZS} {si : Nat → Int32} {sj : Nat → Int64} {sa : Nat → Nat → Int32} {sb : Nat → Nat → Int64} {i n t r : Nat} {tm : Nat → Int} {tt : Nat → Nat} {hs : Bool} {b e : ET} {O D : Int → Int} {Z : Int → Nat} {B : Int → Nat → Int32}
theorem sm.rf (g : Int) : sm O D Z B g g := by
  by_cases c : g = -3
  · exact Or.inl ⟨c, c⟩
  · exact Or.inr ⟨c, c, rfl, rfl, rfl, fun _ _ => rfl⟩
theorem same69 {x1 x2 : Int32} {s : Nat} {F G : Nat → Int32} (hs : s ≤ 1000) (hF : ∀ k, k < s → f_Zone_nameByte nf x1 (ii (k : Int)) z.2.2.1 z.2.2.2.2.2.2.2.2.2.2.1 z.2.2.2.2.2.2.2.2.2.2.2.2.2.1 z.2.2.2.2.2.2.2.2.2.2.2.2.2.2.1 z.2.2.2.2.2.2.2.2.2.2.2.2.2.2.2.1 z.2.2.2.2.2.2.2.2.2.2.2.2.2.2.2.2.2.2.2.2.2.2.1 z.2.2.2.2.2.2.2.2.2.2.2.2.2.2.2.2.2.2.2.2.2.2.2.2.1 z.2.2.2.2.2.2.2.2.2.2.2.2.2.2.2.2.2.2.2.2.2.2.2.2.2.2.2.1 z.2.2.2.2.2.2.2.2.2.2.2.2.2.2.2.2.2.2.2.2.2.2.2.2.2.2.2.2.1 z.2.2.2.2.2.2.2.2.2.2.2.2.2.2.2.2.2.2.2.2.2.2.2.2.2.2.2.2.2.1 = some (F k)) (hG : ∀ k, k < s → f_Zone_nameByte nf x2 (ii (k : Int)) z.2.2.1 z.2.2.2.2.2.2.2.2.2.2.1 z.2.2.2.2.2.2.2.2.2.2.2.2.2.1 z.2.2.2.2.2.2.2.2.2.2.2.2.2.2.1 z.2.2.2.2.2.2.2.2.2.2.2.2.2.2.2.1 z.2.2.2.2.2.2.2.2.2.2.2.2.2.2.2.2.2.2.2.2.2.2.1 z.2.2.2.2.2.2.2.2.2.2.2.2.2.2.2.2.2.2.2.2.2.2.2.2.1 z.2.2.2.2.2.2.2.2.2.2.2.2.2.2.2.2.2.2.2.2.2.2.2.2.2.2.2.1 z.2.2.2.2.2.2.2.2.2.2.2.2.2.2.2.2.2.2.2.2.2.2.2.2.2.2.2.2.1 z.2.2.2.2.2.2.2.2.2.2.2.2.2.2.2.2.2.2.2.2.2.2.2.2.2.2.2.2.2.1 = some (G k)) : ∀ (d k fu : Nat), k + d = s → d < fu → ∃ q : Bool, (q = true ↔ ∀ j, k ≤ j → j < s → F j = G j) ∧ f_Zone_isSame_69 nf z.2.2.1 z.2.2.2.2.2.2.2.2.2.2.1 z.2.2.2.2.2.2.2.2.2.2.2.2.2.1 z.2.2.2.2.2.2.2.2.2.2.2.2.2.2.1 z.2.2.2.2.2.2.2.2.2.2.2.2.2.2.2.1 z.2.2.2.2.2.2.2.2.2.2.2.2.2.2.2.2.2.2.2.2.2.2.1 z.2.2.2.2.2.2.2.2.2.2.2.2.2.2.2.2.2.2.2.2.2.2.2.2.1 z.2.2.2.2.2.2.2.2.2.2.2.2.2.2.2.2.2.2.2.2.2.2.2.2.2.2.2.1 z.2.2.2.2.2.2.2.2.2.2.2.2.2.2.2.2.2.2.2.2.2.2.2.2.2.2.2.2.1 z.2.2.2.2.2.2.2.2.2.2.2.2.2.2.2.2.2.2.2.2.2.2.2.2.2.2.2.2.2.1 fu (ii (k : Int)) (ii (s : Int)) x1 x2 = some (bI q) := by
  intro d
  induction d with
  | zero =>
    intro k fu hk hf
    obtain ⟨f, rfl⟩ : ∃ f, fu = f + 1 := ⟨fu - 1, by omega⟩
    rw [f_Zone_isSame_69, if_pos (iple (c := 0) (d := 0) (show s ≤ k by omega) (by omega))]
    exact ⟨true, ⟨fun _ j h1 h2 => by omega, fun _ => rfl⟩, rfl⟩
  | succ d ih =>
    intro k fu hk hf
    obtain ⟨f, rfl⟩ : ∃ f, fu = f + 1 := ⟨fu - 1, by omega⟩
    rw [f_Zone_isSame_69, if_neg (inle (show k < s by omega) (by omega)), hF k (by omega), Option.bind_some, hG k (by omega), Option.bind_some]
    by_cases c : F k = G k
    · rw [if_pos c, iiS]
      obtain ⟨q, h1, h2⟩ := ih (k + 1) f (by omega) (by omega)
      refine ⟨q, ⟨fun y j a1 a2 => ?_, fun y => h1.mpr (fun j a1 a2 => y j (by omega) a2)⟩, h2⟩
      by_cases ej : j = k
      · rw [ej]
        exact c
      · exact h1.mp y j (by omega) a2
    · rw [if_neg c]
      exact ⟨false, ⟨fun y => (by cases y), fun y => absurd (y k (by omega) (by omega)) c⟩, rfl⟩
theorem vg_bd (ht : t ≤ 40) {g : Int} (hg : vg t r hs g ∨ g = -3) : -3 ≤ g ∧ g ≤ 1000 := by
  unfold vg at hg
  omega
theorem ZV.same (h : ZV z sa sb i n t r tm tt hs b e O D Z B) (hnf : 10000 ≤ nf) {g g' : Int} (hg : vg t r hs g ∨ g = -3) (hg' : vg t r hs g' ∨ g' = -3) : ∃ q : Bool, (q = true ↔ sm O D Z B g g') ∧ f_Zone_isSame nf (ii g) (ii g') z.2.2.1 z.2.2.2.2.2.2.2.2.1 z.2.2.2.2.2.2.2.2.2.1 z.2.2.2.2.2.2.2.2.2.2.1 z.2.2.2.2.2.2.2.2.2.2.2.2.2.1 z.2.2.2.2.2.2.2.2.2.2.2.2.2.2.1 z.2.2.2.2.2.2.2.2.2.2.2.2.2.2.2.1 z.2.2.2.2.2.2.2.2.2.2.2.2.2.2.2.2.2.2.2.2.1 z.2.2.2.2.2.2.2.2.2.2.2.2.2.2.2.2.2.2.2.2.2.1 z.2.2.2.2.2.2.2.2.2.2.2.2.2.2.2.2.2.2.2.2.2.2.1 z.2.2.2.2.2.2.2.2.2.2.2.2.2.2.2.2.2.2.2.2.2.2.2.1 z.2.2.2.2.2.2.2.2.2.2.2.2.2.2.2.2.2.2.2.2.2.2.2.2.1 z.2.2.2.2.2.2.2.2.2.2.2.2.2.2.2.2.2.2.2.2.2.2.2.2.2.1 z.2.2.2.2.2.2.2.2.2.2.2.2.2.2.2.2.2.2.2.2.2.2.2.2.2.2.2.1 z.2.2.2.2.2.2.2.2.2.2.2.2.2.2.2.2.2.2.2.2.2.2.2.2.2.2.2.2.1 z.2.2.2.2.2.2.2.2.2.2.2.2.2.2.2.2.2.2.2.2.2.2.2.2.2.2.2.2.2.1 = some (bI q) := by
  have ht := h.1.2.2.2.1
  have gb := vg_bd ht hg
  have gb' := vg_bd ht hg'
  unfold f_Zone_isSame f_Zone_isSame_0
  by_cases c : g = g'
  · rw [if_pos (by rw [c])]
    exact ⟨true, ⟨fun _ => by rw [c]; exact sm.rf g', fun _ => rfl⟩, rfl⟩
  · rw [if_neg (show ¬ ii g = ii g' by rw [ii_eq (by omega) (by omega) (by omega) (by omega)]; exact c)]
    by_cases c3 : g = -3
    · rw [if_pos ((ii_neg3 (by omega) (by omega)).mpr c3)]
      refine ⟨false, ⟨fun y => (by cases y), fun y => ?_⟩, rfl⟩
      rcases y with ⟨y1, y2⟩ | ⟨y1, _⟩
      · exact absurd (y1.trans y2.symm) c
      · exact absurd c3 y1
    · rw [if_neg (fun y => c3 ((ii_neg3 (by omega) (by omega)).mp y))]
      by_cases c3' : g' = -3
      · rw [if_pos ((ii_neg3 (by omega) (by omega)).mpr c3')]
        refine ⟨false, ⟨fun y => (by cases y), fun y => ?_⟩, rfl⟩
        rcases y with ⟨y1, y2⟩ | ⟨_, y1, _⟩
        · exact absurd (y1.trans y2.symm) c
        · exact absurd c3' y1
      · rw [if_neg (fun y => c3' ((ii_neg3 (by omega) (by omega)).mp y))]
        obtain ⟨o1, o2, o3, o4, o5, o6⟩ := h.2.2.1 g (hg.resolve_right c3)
        obtain ⟨p1, p2, p3, p4, p5, p6⟩ := h.2.2.1 g' (hg'.resolve_right c3')
        obtain ⟨a1, a2, a3, a4⟩ := o6 nf hnf
        obtain ⟨b1, b2, b3, b4⟩ := p6 nf hnf
        rw [a1, Option.bind_some, b1, Option.bind_some]
        by_cases d1 : O g = O g'
        · rw [if_pos (by rw [d1]), a2, Option.bind_some, b2, Option.bind_some]
          by_cases d2 : D g = D g'
          · rw [if_pos (by rw [d2]), a3, Option.bind_some, b3, Option.bind_some]
            by_cases d3 : Z g = Z g'
            · rw [if_pos (by rw [d3])]
              obtain ⟨q, h1, h2⟩ := same69 (nf := nf) (z := z) (s := Z g) (F := B g) (G := B g') (by omega) a4 (fun k hk => b4 k (by omega)) (Z g) 0 nf (by omega) (by omega)
              refine ⟨q, ⟨fun hq => Or.inr ⟨c3, c3', d1, d2, d3, fun k hk => h1.mp hq k (by omega) hk⟩, fun hq => h1.mpr (fun j _ hj => ?_)⟩, h2⟩
              rcases hq with ⟨hq, _⟩ | ⟨_, _, _, _, _, hq⟩
              · exact absurd hq c3
              · exact hq j hj
            · rw [if_neg (show ¬ ii (Z g : Int) = ii (Z g' : Int) by rw [ii_eq (by omega) (by omega) (by omega) (by omega)]; omega)]
              refine ⟨false, ⟨fun y => (by cases y), fun y => ?_⟩, rfl⟩
              rcases y with ⟨y, _⟩ | ⟨_, _, _, _, y, _⟩
              · exact absurd y c3
              · exact absurd y d3
          · rw [if_neg (show ¬ ii (D g) = ii (D g') by rw [ii_eq (by omega) (by omega) (by omega) (by omega)]; exact d2)]
            refine ⟨false, ⟨fun y => (by cases y), fun y => ?_⟩, rfl⟩
            rcases y with ⟨y, _⟩ | ⟨_, _, _, y, _⟩
            · exact absurd y c3
            · exact absurd y d2
        · rw [if_neg (show ¬ ii (O g) = ii (O g') by rw [ii_eq (by omega) (by omega) (by omega) (by omega)]; exact d1)]
          refine ⟨false, ⟨fun y => (by cases y), fun y => ?_⟩, rfl⟩
          rcases y with ⟨y, _⟩ | ⟨_, _, y, _⟩
          · exact absurd y c3
          · exact absurd y d1
/-! the reference keeps and compares -/
theorem mkeep34 {s : Nat} (hs : s ≤ 10) (h47 : si 47 = ii (s : Int)) : ∀ (d k fu : Nat), k + d = s → d < fu → ∀ sa : Nat → Nat → Int32, ∃ sa' : Nat → Nat → Int32, f_Mo_keep_34 nf fu (ii (k : Int)) si sj sa sb = some (si, sj, sa', sb) ∧ (∀ q, k ≤ q → q < s → sa' 53 q = sa 48 q) ∧ (∀ q, q < k → sa' 53 q = sa 53 q) ∧ ∀ a, a ≠ 53 → sa' a = sa a := by
  intro d
  induction d with
  | zero =>
    intro k fu hk hf sa
    obtain ⟨f, rfl⟩ : ∃ f, fu = f + 1 := ⟨fu - 1, by omega⟩
    rw [f_Mo_keep_34, h47, if_pos (iple (c := 0) (d := 0) (show s ≤ k by omega) (by omega))]
    exact ⟨sa, rfl, fun q h1 h2 => by omega, fun _ _ => rfl, fun _ _ => rfl⟩
  | succ d ih =>
    intro k fu hk hf sa
    obtain ⟨f, rfl⟩ : ∃ f, fu = f + 1 := ⟨fu - 1, by omega⟩
    obtain ⟨i1, i2⟩ := nidx (k := k) (m := 10) (by omega) (by omega)
    obtain ⟨sa', e1, e2, e3, e4⟩ := ih (k + 1) f (by omega) (by omega) (va_up sa 53 (upd (sa 53) k (sa 48 k)))
    refine ⟨sa', ?_, fun q h1 h2 => ?_, fun q hq => ?_, fun a ha => (e4 a ha).trans (vup_ne ha)⟩
    · rw [f_Mo_keep_34, h47, if_neg (inle (show k < s by omega) (by omega)), i1, if_neg i2, if_neg i2, iiS]
      exact e1
    · by_cases c : q = k
      · subst c
        rw [e3 q (by omega), vu_eq]
      · rw [e2 q (by omega) h2, vup_ne (by decide)]
    · rw [e3 q (by omega), vu_ne (by omega)]
theorem mkeep (hnf : 10000 ≤ nf) {s : Nat} (hs : s ≤ 10) (h47 : si 47 = ii (s : Int)) : ∃ (si' : Nat → Int32) (sa' : Nat → Nat → Int32), f_Mo_keep nf si sj sa sb = some (si', sj, sa', sb) ∧ (si' 49 = si 43 ∧ si' 50 = si 45 ∧ si' 51 = si 46 ∧ si' 52 = si 47) ∧ (∀ k, ¬ (49 ≤ k ∧ k ≤ 52) → si' k = si k) ∧ (∀ q, q < s → sa' 53 q = sa 48 q) ∧ ∀ a, a ≠ 53 → sa' a = sa a := by
  obtain ⟨sa', e1, e2, e3, e4⟩ := mkeep34 (nf := nf) (sj := sj) (sb := sb) (si := va_up (va_up (va_up (va_up si 49 (si 43)) 50 (si 45)) 51 (si 46)) 52 (si 47)) hs (by rw [vup_ne (by decide), vup_ne (by decide), vup_ne (by decide), vup_ne (by decide)]; exact h47) s 0 nf (by omega) (by omega) sa
  exact ⟨_, sa', e1, ⟨rfl, rfl, rfl, rfl⟩, fun k hk => by rw [vup_ne (by omega), vup_ne (by omega), vup_ne (by omega), vup_ne (by omega)], fun q hq => e2 q (by omega) hq, e4⟩
theorem mk0 (fv : Nat) (x : Int32) : f_Mo_isKept_70 nf si sa (fv + 1) x 0 = some 0 := by
  rw [f_Mo_isKept_70]
  by_cases c : si 47 ≤ x
  · rw [if_pos c]
    rfl
  · rw [if_neg c, if_pos rfl]
    rfl
theorem mk70 {s : Nat} (hs : s ≤ 10) (h47 : si 47 = ii (s : Int)) : ∀ (d k fu : Nat), k + d = s → d < fu → ∃ q : Bool, (q = true ↔ ∀ j, k ≤ j → j < s → sa 53 j = sa 48 j) ∧ f_Mo_isKept_70 nf si sa fu (ii (k : Int)) 1 = some (bI q) := by
  intro d
  induction d with
  | zero =>
    intro k fu hk hf
    obtain ⟨f, rfl⟩ : ∃ f, fu = f + 1 := ⟨fu - 1, by omega⟩
    rw [f_Mo_isKept_70, h47, if_pos (iple (c := 0) (d := 0) (show s ≤ k by omega) (by omega))]
    exact ⟨true, ⟨fun _ j h1 h2 => by omega, fun _ => rfl⟩, rfl⟩
  | succ d ih =>
    intro k fu hk hf
    obtain ⟨f, rfl⟩ : ∃ f, fu = f + 2 := ⟨fu - 2, by omega⟩
    obtain ⟨i1, i2⟩ := nidx (k := k) (m := 10) (by omega) (by omega)
    rw [f_Mo_isKept_70, h47, if_neg (inle (show k < s by omega) (by omega)), if_neg (show ¬ (1 : Int32) = 0 by decide), i1, if_neg i2, if_neg i2]
    unfold f_Mo_isKept_102
    by_cases c : sa 53 k = sa 48 k
    · rw [if_pos c, iiS]
      obtain ⟨q, h1, h2⟩ := ih (k + 1) (f + 1) (by omega) (by omega)
      refine ⟨q, ⟨fun y j a1 a2 => ?_, fun y => h1.mpr (fun j a1 a2 => y j (by omega) a2)⟩, h2⟩
      by_cases ej : j = k
      · rw [ej]
        exact c
      · exact h1.mp y j (by omega) a2
    · rw [if_neg c, mk0]
      exact ⟨false, ⟨fun y => (by cases y), fun y => absurd (y k (by omega) (by omega)) c⟩, rfl⟩
/-- what the reference has got of a state -/
def dsrc (g : Int) : Int32 := if g = -3 then 2 else if g < 0 then 1 else 0
def dval (O : Int → Int) (g : Int) : Int32 := if g = -3 then 0 else ii (O g)
def dsz (Z : Int → Nat) (g : Int) : Nat := if g = -3 then 0 else Z g
theorem gotG.dat {si' : Nat → Int32} {sa' : Nat → Nat → Int32} {g : Int} (h : gotG si si' sa sa' O D Z B g) : si' 43 = dsrc g ∧ si' 45 = dval O g ∧ si' 46 = dval D g ∧ si' 47 = ii (dsz Z g : Int) ∧ ∀ k, k < dsz Z g → sa' 48 k = B g k := by
  unfold gotG at h
  unfold dsrc dval dsz
  by_cases c : g = -3
  · rw [if_pos c] at h
    rw [if_pos c, if_pos c, if_pos c, if_pos c]
    exact ⟨h.1, h.2.1, h.2.2.1, h.2.2.2.1, fun k hk => by omega⟩
  · rw [if_neg c] at h
    rw [if_neg c, if_neg c, if_neg c, if_neg c]
    exact ⟨h.1.1, h.1.2.2.1, h.1.2.2.2.1, h.1.2.2.2.2.1, h.2.1⟩
theorem mkept (hnf : 10000 ≤ nf) {g g' : Int} (hg : g ≠ -3 → -100000 ≤ O g ∧ O g ≤ 100000 ∧ (D g = 0 ∨ D g = 1) ∧ 3 ≤ Z g ∧ Z g ≤ 10) (hg' : g' ≠ -3 → -100000 ≤ O g' ∧ O g' ≤ 100000 ∧ (D g' = 0 ∨ D g' = 1) ∧ 3 ≤ Z g' ∧ Z g' ≤ 10) (k49 : si 49 = dsrc g) (k50 : si 50 = dval O g) (k51 : si 51 = dval D g) (k52 : si 52 = ii (dsz Z g : Int)) (kn : ∀ k, k < dsz Z g → sa 53 k = B g k) (k43 : si 43 = dsrc g') (k45 : si 45 = dval O g') (k46 : si 46 = dval D g') (k47 : si 47 = ii (dsz Z g' : Int)) (kn' : ∀ k, k < dsz Z g' → sa 48 k = B g' k) : ∃ q : Bool, (q = true ↔ sm O D Z B g g') ∧ f_Mo_isKept nf si sj sa sb = some (bI q) := by
  have e66 : f_Mo_isKept_66 nf si sa = some 0 := by
    unfold f_Mo_isKept_66 f_Mo_isKept_67
    obtain ⟨m, rfl⟩ : ∃ m, nf = m + 1 := ⟨nf - 1, by omega⟩
    exact mk0 m 0
  unfold f_Mo_isKept f_Mo_isKept_0
  rw [e66]
  have no : ∀ X : Option Int32, ¬ si 52 = si 47 → (if si 50 = si 45 then if si 51 = si 46 then if si 52 = si 47 then X else some 0 else some 0 else some 0) = some 0 := by
    intro X ne
    by_cases a : si 50 = si 45
    · rw [if_pos a]
      by_cases c : si 51 = si 46
      · rw [if_pos c, if_neg ne]
      · rw [if_neg c]
    · rw [if_neg a]
  unfold dsrc at k49 k43
  unfold dval at k50 k51 k45 k46
  by_cases c : g = -3
  · by_cases c' : g' = -3
    · unfold dsz at k52 k47
      rw [if_pos c] at k49 k50 k51 k52
      rw [if_pos c'] at k43 k45 k46 k47
      rw [if_pos (k50.trans k45.symm), if_pos (k51.trans k46.symm), if_pos (k52.trans k47.symm), if_pos k49]
      unfold f_Mo_isKept_46 f_Mo_isKept_59 f_Mo_isKept_67
      rw [if_pos k43, if_pos rfl]
      obtain ⟨q, h1, h2⟩ := mk70 (nf := nf) (sa := sa) (s := 0) (by omega) k47 0 0 nf (by omega) (by omega)
      exact ⟨q, ⟨fun _ => Or.inl ⟨c, c'⟩, fun _ => h1.mpr (fun j _ hj => by omega)⟩, h2⟩
    · obtain ⟨_, _, _, z1, z2⟩ := hg' c'
      unfold dsz at k52 k47
      rw [if_pos c] at k52
      rw [if_neg c'] at k47
      rw [no _ (by rw [k52, k47, ii_eq (by omega) (by omega) (by omega) (by omega)]; omega)]
      refine ⟨false, ⟨fun y => (by cases y), fun y => ?_⟩, rfl⟩
      rcases y with ⟨_, y⟩ | ⟨y, _⟩
      · exact absurd y c'
      · exact absurd c y
  · obtain ⟨o1, o2, o3, o4, o5⟩ := hg c
    by_cases c' : g' = -3
    · unfold dsz at k52 k47
      rw [if_neg c] at k52
      rw [if_pos c'] at k47
      rw [no _ (by rw [k52, k47, ii_eq (by omega) (by omega) (by omega) (by omega)]; omega)]
      refine ⟨false, ⟨fun y => (by cases y), fun y => ?_⟩, rfl⟩
      rcases y with ⟨y, _⟩ | ⟨_, y, _⟩
      · exact absurd y c
      · exact absurd c' y
    · obtain ⟨p1, p2, p3, p4, p5⟩ := hg' c'
      unfold dsz at k52 k47 kn kn'
      rw [if_neg c] at k49 k50 k51 k52 kn
      rw [if_neg c'] at k43 k45 k46 k47 kn'
      have n49 : ¬ si 49 = 2 := by
        rw [k49]
        by_cases w : g < 0
        · rw [if_pos w]; decide
        · rw [if_neg w]; decide
      have n43 : ¬ si 43 = 2 := by
        rw [k43]
        by_cases w : g' < 0
        · rw [if_pos w]; decide
        · rw [if_neg w]; decide
      by_cases d3 : Z g = Z g'
      · by_cases d1 : O g = O g'
        · by_cases d2 : D g = D g'
          · rw [if_pos (by rw [k50, k45, d1]), if_pos (by rw [k51, k46, d2]), if_pos (by rw [k52, k47, d3]), if_neg n49]
            unfold f_Mo_isKept_46 f_Mo_isKept_59 f_Mo_isKept_67
            rw [if_neg n43, if_pos rfl]
            obtain ⟨q, h1, h2⟩ := mk70 (nf := nf) (sa := sa) (s := Z g') (by omega) k47 (Z g') 0 nf (by omega) (by omega)
            refine ⟨q, ⟨fun hq => Or.inr ⟨c, c', d1, d2, d3, fun k hk => ?_⟩, fun hq => h1.mpr (fun j _ hj => ?_)⟩, h2⟩
            · rw [← kn k hk, ← kn' k (by omega)]
              exact h1.mp hq k (by omega) (by omega)
            · rcases hq with ⟨hq, _⟩ | ⟨_, _, _, _, _, hq⟩
              · exact absurd hq c
              · rw [kn j (by omega), kn' j hj]
                exact hq j (by omega)
          · rw [if_pos (by rw [k50, k45, d1]), if_neg (by rw [k51, k46, ii_eq (by omega) (by omega) (by omega) (by omega)]; exact d2)]
            refine ⟨false, ⟨fun y => (by cases y), fun y => ?_⟩, rfl⟩
            rcases y with ⟨y, _⟩ | ⟨_, _, _, y, _⟩
            · exact absurd y c
            · exact absurd y d2
        · rw [if_neg (by rw [k50, k45, ii_eq (by omega) (by omega) (by omega) (by omega)]; exact d1)]
          refine ⟨false, ⟨fun y => (by cases y), fun y => ?_⟩, rfl⟩
          rcases y with ⟨y, _⟩ | ⟨_, _, y, _⟩
          · exact absurd y c
          · exact absurd y d1
      · rw [no _ (by rw [k52, k47, ii_eq (by omega) (by omega) (by omega) (by omega)]; omega)]
        refine ⟨false, ⟨fun y => (by cases y), fun y => ?_⟩, rfl⟩
        rcases y with ⟨y, _⟩ | ⟨_, _, _, _, y, _⟩
        · exact absurd y c
        · exact absurd y d3
theorem ZV.bdg (h : ZV z sa sb i n t r tm tt hs b e O D Z B) {g : Int} (hg : vg t r hs g ∨ g = -3) : g ≠ -3 → -100000 ≤ O g ∧ O g ≤ 100000 ∧ (D g = 0 ∨ D g = 1) ∧ 3 ≤ Z g ∧ Z g ≤ 10 := fun c => by
  obtain ⟨o1, o2, o3, o4, o5, _⟩ := h.2.2.1 g (hg.resolve_right c)
  exact ⟨o1, o2, o3, o4, o5⟩
theorem ZV.stg (h : ZV z sa sb i n t r tm tt hs b e O D Z B) (v : Int) {k : Nat} (hk : k ≤ n) : vg t r hs (stI n r tt (hs && suB b e v) k) ∨ stI n r tt (hs && suB b e v) k = -3 := (stI_ok (v := v) h hk).imp id (fun w => w.1)
theorem dsz_le {g : Int} (hg : g ≠ -3 → -100000 ≤ O g ∧ O g ≤ 100000 ∧ (D g = 0 ∨ D g = 1) ∧ 3 ≤ Z g ∧ Z g ≤ 10) : dsz Z g ≤ 10 := by
  unfold dsz
  by_cases c : g = -3
  · rw [if_pos c]; omega
  · rw [if_neg c]; exact (hg c).2.2.2.2
theorem ZV.mstep (h : ZV z sa sb i n t r tm tt hs b e O D Z B) (hnf : 10000 ≤ nf) {v : Int} (v1 : isI v) (v2 : isI (v - 1)) {k1 k2 : Nat} (hk1 : upto n tm (v - 1) k1) (hk2 : upto n tm v k2) : ∃ (q : Bool) (si' : Nat → Int32) (sj' : Nat → Int64) (sa' : Nat → Nat → Int32), (q = true ↔ sm O D Z B (stI n r tt (hs && suB b e (v - 1)) k1) (stI n r tt (hs && suB b e v) k2)) ∧ f_Mo_isStep nf (ii (i : Int)) (jj v) si sj sa sb = some (bI (!q), si', sj', sa', sb) ∧ QF si si' sj sj' sa sa' := by
  obtain ⟨si1, sj1, sa1, m1, m2, m3⟩ := h.state (nf := nf) (si := si) (sj := sj) hnf v2 hk1
  have G1 := h.stg (v - 1) hk1.1
  have G2 := h.stg v hk2.1
  generalize stI n r tt (hs && suB b e (v - 1)) k1 = g1 at m2 G1 ⊢
  obtain ⟨a43, a45, a46, a47, a48⟩ := m2.dat
  obtain ⟨si2, sa2, p1, ⟨p49, p50, p51, p52⟩, p3, p4, p5⟩ := mkeep (nf := nf) (sj := sj1) (sb := sb) (sa := sa1) hnf (dsz_le (h.bdg G1)) a47
  have fr2 : frA sa sa2 := fun a h1 h2 => (p5 a h2).trans (m2.frA a h1)
  obtain ⟨si3, sj3, sa3, n1, n2, n3⟩ := (h.fr fr2).state (nf := nf) (si := si2) (sj := sj1) hnf v1 hk2
  generalize stI n r tt (hs && suB b e v) k2 = g2 at n2 G2 ⊢
  obtain ⟨c43, c45, c46, c47, c48⟩ := n2.dat
  obtain ⟨q, q1, q2⟩ := mkept (nf := nf) (sj := sj3) (sb := sb) (si := si3) (sa := sa3) hnf (h.bdg G1) (h.bdg G2) (by rw [n2.frI 49 (by omega), p49, a43]) (by rw [n2.frI 50 (by omega), p50, a45]) (by rw [n2.frI 51 (by omega), p51, a46]) (by rw [n2.frI 52 (by omega), p52, a47]) (fun k hk => by rw [n2.frA 53 (by decide), p4 k hk, a48 k hk]) c43 c45 c46 c47 c48
  refine ⟨q, si3, sj3, sa3, q1, ?_, ⟨fun k hk => ?_, fun k hk => (n3 k hk).trans (m3 k hk), fun a h1 h2 => (n2.frA a h1).trans (fr2 a h1 h2)⟩⟩
  · unfold isI at v1 v2
    obtain ⟨_, i2⟩ := cinst nf (v := v) (by omega) (by omega)
    obtain ⟨_, j2⟩ := cinst nf (v := v - 1) (by omega) (by omega)
    unfold f_Mo_isStep f_Mo_isStep_0
    rw [show (1 : Int64) = jj 1 from rfl, jj_sub, i2, Option.bind_some, if_pos v1, if_neg (show ¬ (1 : Int32) = 0 by decide), j2, Option.bind_some, if_pos v2, if_neg (show ¬ (1 : Int32) = 0 by decide), m1, Option.bind_some]
    dsimp only
    rw [p1, Option.bind_some]
    dsimp only
    rw [n1, Option.bind_some]
    dsimp only
    rw [q2, Option.bind_some]
    cases q <;> rfl
  · rw [n2.frI k (by omega), p3 k (by omega), m2.frI k (by omega)]
theorem mstep0 {x1 : Int32} {v : Int} (h1 : -9223372036854775807 ≤ v) (h2 : v < 9223372036854775808) (hv : ¬ (isI v ∧ isI (v - 1))) : f_Mo_isStep nf x1 (jj v) si sj sa sb = some (0, si, sj, sa, sb) := by
  unfold isI at hv
  obtain ⟨_, i2⟩ := cinst nf (v := v) (by omega) (by omega)
  obtain ⟨_, j2⟩ := cinst nf (v := v - 1) (by omega) (by omega)
  unfold f_Mo_isStep f_Mo_isStep_0
  rw [show (1 : Int64) = jj 1 from rfl, jj_sub, i2, Option.bind_some]
  by_cases c : -1152921504606846975 ≤ v ∧ v ≤ 1152921504606846975
  · rw [if_pos c, if_neg (show ¬ (1 : Int32) = 0 by decide), j2, Option.bind_some, if_neg (show ¬ (-1152921504606846975 ≤ v - 1 ∧ v - 1 ≤ 1152921504606846975) by omega), if_pos rfl]
    rfl
  · rw [if_neg c, if_pos rfl]
    rfl
/-! a time that begins another state -/
def stpP (n r : Nat) (tm : Nat → Int) (tt : Nat → Nat) (hs : Bool) (b e : ET) (O D : Int → Int) (Z : Int → Nat) (B : Int → Nat → Int32) (j : Nat) : Prop := -1152921504606846975 < tm j ∧ ¬ sm O D Z B (if j = 0 then 0 else (tt (j - 1) : Int)) (stI n r tt (hs && suB b e (tm j)) (j + 1))
theorem ZV.lt (h : ZV z sa sb i n t r tm tt hs b e O D Z B) {a c : Nat} (hab : a < c) (hc : c < n) : tm a < tm c := ss_lt h.1.2.2.2.2.2.2.2.2.2 hab hc
theorem ZV.upt (h : ZV z sa sb i n t r tm tt hs b e O D Z B) {j : Nat} (hj : j < n) : upto n tm (tm j) (j + 1) := by
  refine ⟨by omega, fun m hm => ?_, fun m h1 h2 => h.lt (by omega) h2⟩
  by_cases c : m = j
  · rw [c]; omega
  · have := h.lt (show m < j by omega) hj
    omega
theorem ZV.upb (h : ZV z sa sb i n t r tm tt hs b e O D Z B) {j : Nat} (hj : j < n) : upto n tm (tm j - 1) j := by
  refine ⟨by omega, fun m hm => ?_, fun m h1 h2 => ?_⟩
  · have := h.lt (show m < j by omega) hj
    omega
  · by_cases c : m = j
    · rw [c]; omega
    · have := h.lt (show j < m by omega) h2
      omega
theorem ZV.stepM (h : ZV z sa sb i n t r tm tt hs b e O D Z B) (hnf : 10000 ≤ nf) {j : Nat} (hj : j < n) : ∃ (p : Bool) (si' : Nat → Int32) (sj' : Nat → Int64) (sa' : Nat → Nat → Int32), (p = true ↔ stpP n r tm tt hs b e O D Z B j) ∧ f_Mo_isStep nf (ii (i : Int)) (jj (tm j)) si sj sa sb = some (bI p, si', sj', sa', sb) ∧ QF si si' sj sj' sa sa' := by
  obtain ⟨_, _, v1, _⟩ := h.1.2.2.2.2.2.2.2.2.1 j hj
  by_cases c : -1152921504606846975 < tm j
  · have v2 : isI (tm j - 1) := by
      unfold isI at v1 ⊢
      omega
    obtain ⟨q, si', sj', sa', q1, q2, q3⟩ := h.mstep (nf := nf) (si := si) (sj := sj) hnf v1 v2 (h.upb hj) (h.upt hj)
    have e0 : stI n r tt (hs && suB b e (tm j - 1)) j = if j = 0 then 0 else (tt (j - 1) : Int) := by
      unfold stI
      rw [if_pos hj]
    rw [e0] at q1
    refine ⟨!q, si', sj', sa', ?_, q2, q3⟩
    unfold stpP
    cases q with
    | true => exact ⟨fun y => (by cases y), fun y => absurd (q1.mp rfl) y.2⟩
    | false => exact ⟨fun _ => ⟨c, fun y => (by cases (q1.mpr y))⟩, fun _ => rfl⟩
  · refine ⟨false, si, sj, sa, ⟨fun y => (by cases y), fun y => absurd y.1 c⟩, ?_, QF.rf⟩
    unfold isI at v1
    exact mstep0 (by omega) (by omega) (by unfold isI; omega)
theorem ZV.cbeg (h : ZV z sa sb i n t r tm tt hs b e O D Z B) (hnf : 10000 ≤ nf) {j : Nat} (hj : j < n) {g2 : Int} (hg2 : vg t r hs g2 ∨ g2 = -3) : ∃ p : Bool, (p = true ↔ -1152921504606846975 < tm j ∧ ¬ sm O D Z B (if j = 0 then 0 else (tt (j - 1) : Int)) g2) ∧ f_Zone_beginsOther nf (ii (j : Int)) (ii g2) z.2.1 z.2.2.1 z.2.2.2.2.2.2.1 z.2.2.2.2.2.2.2.1 z.2.2.2.2.2.2.2.2.1 z.2.2.2.2.2.2.2.2.2.1 z.2.2.2.2.2.2.2.2.2.2.1 z.2.2.2.2.2.2.2.2.2.2.2.2.2.1 z.2.2.2.2.2.2.2.2.2.2.2.2.2.2.1 z.2.2.2.2.2.2.2.2.2.2.2.2.2.2.2.1 z.2.2.2.2.2.2.2.2.2.2.2.2.2.2.2.2.2.2.2.2.1 z.2.2.2.2.2.2.2.2.2.2.2.2.2.2.2.2.2.2.2.2.2.1 z.2.2.2.2.2.2.2.2.2.2.2.2.2.2.2.2.2.2.2.2.2.2.1 z.2.2.2.2.2.2.2.2.2.2.2.2.2.2.2.2.2.2.2.2.2.2.2.1 z.2.2.2.2.2.2.2.2.2.2.2.2.2.2.2.2.2.2.2.2.2.2.2.2.1 z.2.2.2.2.2.2.2.2.2.2.2.2.2.2.2.2.2.2.2.2.2.2.2.2.2.1 z.2.2.2.2.2.2.2.2.2.2.2.2.2.2.2.2.2.2.2.2.2.2.2.2.2.2.2.1 z.2.2.2.2.2.2.2.2.2.2.2.2.2.2.2.2.2.2.2.2.2.2.2.2.2.2.2.2.1 z.2.2.2.2.2.2.2.2.2.2.2.2.2.2.2.2.2.2.2.2.2.2.2.2.2.2.2.2.2.1 = some (bI p) := by
  have hn := h.1.2.1
  have ht := h.1.2.2.1
  obtain ⟨w1, _, v1, _⟩ := h.1.2.2.2.2.2.2.2.2.1 j hj
  have v5 := h.1.2.2.2.2.1
  obtain ⟨i1, i2⟩ := nidx (k := j) (m := 200) (by omega) (by omega)
  have n0 : ¬ ii (j : Int) < 0 := fun y => i2 (Or.inl y)
  unfold isI at v1
  unfold f_Zone_beginsOther f_Zone_beginsOther_0
  rw [if_neg n0, v5, if_neg (inle hj (by omega)), i1, if_neg i2, w1, show (-1152921504606846975 : Int64) = jj (-1152921504606846975) from rfl]
  have fin : ∀ g1 : Int, vg t r hs g1 → ∃ p : Bool, (p = true ↔ ¬ sm O D Z B g1 g2) ∧ f_Zone_beginsOther_44 nf z.2.2.1 z.2.2.2.2.2.2.2.2.1 z.2.2.2.2.2.2.2.2.2.1 z.2.2.2.2.2.2.2.2.2.2.1 z.2.2.2.2.2.2.2.2.2.2.2.2.2.1 z.2.2.2.2.2.2.2.2.2.2.2.2.2.2.1 z.2.2.2.2.2.2.2.2.2.2.2.2.2.2.2.1 z.2.2.2.2.2.2.2.2.2.2.2.2.2.2.2.2.2.2.2.2.1 z.2.2.2.2.2.2.2.2.2.2.2.2.2.2.2.2.2.2.2.2.2.1 z.2.2.2.2.2.2.2.2.2.2.2.2.2.2.2.2.2.2.2.2.2.2.1 z.2.2.2.2.2.2.2.2.2.2.2.2.2.2.2.2.2.2.2.2.2.2.2.1 z.2.2.2.2.2.2.2.2.2.2.2.2.2.2.2.2.2.2.2.2.2.2.2.2.1 z.2.2.2.2.2.2.2.2.2.2.2.2.2.2.2.2.2.2.2.2.2.2.2.2.2.1 z.2.2.2.2.2.2.2.2.2.2.2.2.2.2.2.2.2.2.2.2.2.2.2.2.2.2.2.1 z.2.2.2.2.2.2.2.2.2.2.2.2.2.2.2.2.2.2.2.2.2.2.2.2.2.2.2.2.1 z.2.2.2.2.2.2.2.2.2.2.2.2.2.2.2.2.2.2.2.2.2.2.2.2.2.2.2.2.2.1 (ii g2) (ii g1) = some (bI p) := by
    intro g1 hg1
    obtain ⟨q, q1, q2⟩ := h.same hnf (Or.inl hg1) hg2
    unfold f_Zone_beginsOther_44
    rw [q2, Option.bind_some]
    cases q with
    | true => exact ⟨false, ⟨fun y => (by cases y), fun y => absurd (q1.mp rfl) y⟩, rfl⟩
    | false => exact ⟨true, ⟨fun _ y => (by cases (q1.mpr y)), fun _ => rfl⟩, rfl⟩
  by_cases c : -1152921504606846975 < tm j
  · rw [if_pos ((jj_lt (by omega) (by omega) (by omega) (by omega)).mpr c)]
    by_cases j0 : j = 0
    · subst j0
      obtain ⟨p, p1, p2⟩ := fin 0 (Or.inl ⟨by omega, by omega⟩)
      rw [if_pos (show ii ((0 : Nat) : Int) = 0 from rfl), if_pos rfl]
      exact ⟨p, p1.trans ⟨fun y => ⟨c, y⟩, fun y => y.2⟩, p2⟩
    · obtain ⟨_, _, _, w4, _, w6⟩ := h.1.2.2.2.2.2.2.2.2.1 (j - 1) (by omega)
      obtain ⟨i3, i4⟩ := nidx (k := j - 1) (m := 200) (by omega) (by omega)
      obtain ⟨p, p1, p2⟩ := fin (tt (j - 1) : Int) (Or.inl ⟨by omega, by omega⟩)
      rw [if_neg (show ¬ ii (j : Int) = 0 by rw [ii_lit, ii_eq (by omega) (by omega) (by omega) (by omega)]; omega), show ii (j : Int) - 1 = ii ((j - 1 : Nat) : Int) by rw [ii_lit, ii_sub, show (j : Int) - 1 = ((j - 1 : Nat) : Int) by omega], i3, if_neg i4, w4, if_neg j0]
      exact ⟨p, p1.trans ⟨fun y => ⟨c, y⟩, fun y => y.2⟩, p2⟩
  · rw [if_neg (fun y => c ((jj_lt (by omega) (by omega) (by omega) (by omega)).mp y))]
    exact ⟨false, ⟨fun y => (by cases y), fun y => absurd y.1 c⟩, rfl⟩
end
