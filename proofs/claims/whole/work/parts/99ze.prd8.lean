/-! ===== read: a block ===== -/
section
variable {nf n : Nat} {s : Int32} {N : Nat} {A : Nat → Int32} {sj : Nat → Int64}
theorem uts {sb : Nat → Nat → Int64} (hnf : 10000 ≤ nf) (hn : n ≤ 6000) {d0 u0 : Nat} (hd : d0 ≤ 40) (hu : u0 ≤ 40) (hdu : d0 = 0 ∨ u0 ≤ d0) {SD : Nat → Int32} (fa pl : Int32) : ∀ (d k q fu fu' : Nat) (UT : Nat → Int32) (si : Nat → Int32) (sa : Nat → Nat → Int32), RB s N A n (sa 0) → sa 9 4 = ii (d0 : Int) → sa 10 4 = ii (u0 : Int) → (∀ j, j < d0 → SD j = sa 20 (160 + j) ∧ (SD j = 0 ∨ SD j = 1)) → k + d = u0 → q + d ≤ n → d < fu → d < fu' → si 32 = ii (q : Int) → (∀ j, j < k → UT j = sa 21 (160 + j)) →
    (∃ (UT' : Nat → Int32) (si' : Nat → Int32) (sa' : Nat → Nat → Int32), f_FP_readUts_18 nf s N A (ii (d0 : Int)) (ii (u0 : Int)) SD fu (ii (k : Int)) fa pl (ii (q : Int)) UT = some (1, fa, pl, ii ((q + d : Nat) : Int), UT') ∧ f_Mo_flagRows_108 nf fu' (ii (k : Int)) 4 si sj sa sb = some (1, si', sj, sa', sb) ∧ si' 32 = ii ((q + d : Nat) : Int) ∧ (∀ k, k ≠ 32 → si' k = si k) ∧ (∀ a j, ¬ (a = 21 ∧ 160 ≤ j ∧ j < 200) → sa' a j = sa a j) ∧ ∀ j, j < u0 → UT' j = sa' 21 (160 + j)) ∨
    (∃ (f pp po : Int32) (UT' : Nat → Int32) (si' : Nat → Int32) (sa' : Nat → Nat → Int32), f_FP_readUts_18 nf s N A (ii (d0 : Int)) (ii (u0 : Int)) SD fu (ii (k : Int)) fa pl (ii (q : Int)) UT = some (0, f, pp, po, UT') ∧ f_Mo_flagRows_108 nf fu' (ii (k : Int)) 4 si sj sa sb = some (0, si', sj, sa', sb) ∧ si' 36 = f ∧ si' 2 = pp ∧ FlI si si' ∧ ∀ a j, ¬ (a = 21 ∧ 160 ≤ j ∧ j < 200) → sa' a j = sa a j) := by
  have n4 : ¬ ((4 : Int32) < 0 ∨ 5 ≤ 4) := by decide
  have z4 : (4 : Int32).toNatClampNeg = 4 := rfl
  intro d
  induction d with
  | zero =>
    intro k q fu fu' UT si sa hP h9 h10 hS hk hq hf hf' h32 ht
    obtain ⟨f, rfl⟩ : ∃ f, fu = f + 1 := ⟨fu - 1, by omega⟩
    obtain ⟨f', rfl⟩ : ∃ f', fu' = f' + 1 := ⟨fu' - 1, by omega⟩
    obtain rfl : k = u0 := by omega
    have le : ii (k : Int) ≤ ii (k : Int) := iple (c := 0) (d := 0) (by omega) (by omega)
    refine Or.inl ⟨UT, si, sa, ?_, ?_, h32, fun _ _ => rfl, fun _ _ _ => rfl, ht⟩
    · rw [f_FP_readUts_18, if_pos le]
      rfl
    · rw [f_Mo_flagRows_108, z4, if_neg n4, h10, if_pos le]
  | succ d ih =>
    intro k q fu fu' UT si sa hP h9 h10 hS hk hq hf hf' h32 ht
    obtain ⟨f, rfl⟩ : ∃ f, fu = f + 1 := ⟨fu - 1, by omega⟩
    obtain ⟨f', rfl⟩ : ∃ f', fu' = f' + 1 := ⟨fu' - 1, by omega⟩
    obtain ⟨x, hx, ex⟩ := hP.byte (k := q) (by omega)
    obtain ⟨i1, i2⟩ := nidx (k := k) (m := 40) (by omega) (by omega)
    obtain ⟨i3, i4⟩ := nidx (k := 160 + k) (m := 200) (by omega) (by omega)
    obtain ⟨i5, i6⟩ := nidx (k := q) (m := 6000) (by omega) (by omega)
    -- what may stand there
    have fin : ∀ (s0 : Int32) (ok : Bool), ((ii (x : Int) ≤ s0) ↔ ok = true) →
        (∃ (UT' : Nat → Int32) (si' : Nat → Int32) (sa' : Nat → Nat → Int32), f_FP_readUts_65 nf (f_FP_readUts_18 nf s N A (ii (d0 : Int)) (ii (u0 : Int)) SD f) (ii (x : Int)) (ii (k : Int)) s0 fa pl (ii (q : Int)) UT = some (1, fa, pl, ii ((q + (d + 1) : Nat) : Int), UT') ∧ f_Mo_flagRows_172 nf (f_Mo_flagRows_108 nf f') (ii (k : Int)) 4 (bI ok) si sj sa sb = some (1, si', sj, sa', sb) ∧ si' 32 = ii ((q + (d + 1) : Nat) : Int) ∧ (∀ k, k ≠ 32 → si' k = si k) ∧ (∀ a j, ¬ (a = 21 ∧ 160 ≤ j ∧ j < 200) → sa' a j = sa a j) ∧ ∀ j, j < u0 → UT' j = sa' 21 (160 + j)) ∨
        (∃ (f1 pp po : Int32) (UT' : Nat → Int32) (si' : Nat → Int32) (sa' : Nat → Nat → Int32), f_FP_readUts_65 nf (f_FP_readUts_18 nf s N A (ii (d0 : Int)) (ii (u0 : Int)) SD f) (ii (x : Int)) (ii (k : Int)) s0 fa pl (ii (q : Int)) UT = some (0, f1, pp, po, UT') ∧ f_Mo_flagRows_172 nf (f_Mo_flagRows_108 nf f') (ii (k : Int)) 4 (bI ok) si sj sa sb = some (0, si', sj, sa', sb) ∧ si' 36 = f1 ∧ si' 2 = pp ∧ FlI si si' ∧ ∀ a j, ¬ (a = 21 ∧ 160 ≤ j ∧ j < 200) → sa' a j = sa a j) := by
      intro s0 ok hok
      unfold f_FP_readUts_65 f_Mo_flagRows_172
      rw [i1, if_neg i2, h32, i5, if_neg i6, e160, i3, if_neg i4, ex, iiS, iiS]
      cases ok with
      | true =>
        rw [if_pos (hok.mpr rfl), if_neg (show ¬ bI true = 0 by decide)]
        have r := ih (k + 1) (q + 1) f f' (upd UT k (ii (x : Int))) (va_up si 32 (ii ((q + 1 : Nat) : Int))) (va_up sa 21 (upd (sa 21) (160 + k) (ii (x : Int)))) (hP.T_congr (fun j _ => by rw [vup_ne (by decide)])) ((congrFun (vup_ne (by decide)) _).trans h9) ((congrFun (vup_ne (by decide)) _).trans h10) (fun j hj => by rw [vup_ne (by decide)]; exact hS j hj) (by omega) (by omega) (by omega) (by omega) rfl (fun j hj => by
            rw [vup_eq]
            by_cases c1 : j = k
            · rw [c1, upd_eq, upd_eq]
            · rw [upd_ne c1, upd_ne (by omega)]
              exact ht j (by omega))
        rw [show q + 1 + d = q + (d + 1) by omega] at r
        have fA : ∀ (a j : Nat), ¬ (a = 21 ∧ 160 ≤ j ∧ j < 200) → va_up sa 21 (upd (sa 21) (160 + k) (ii (x : Int))) a j = sa a j := fun a j ha => vu_ne (by omega)
        rcases r with ⟨UT', si', sa', x1, x2, x3, x4, x5, x6⟩ | ⟨f1, pp, po, UT', si', sa', x1, x2, x3, x4, x5, x6⟩
        · exact Or.inl ⟨UT', si', sa', x1, x2, x3, fun k hk => (x4 k hk).trans (vup_ne hk), fun a j ha => (x5 a j ha).trans (fA a j ha), x6⟩
        · exact Or.inr ⟨f1, pp, po, UT', si', sa', x1, x2, x3, x4, fun k h1 h2 h3 => (x5 k h1 h2 h3).trans (vup_ne h2), fun a j ha => (x6 a j ha).trans (fA a j ha)⟩
      | false =>
        rw [if_neg (fun y => by cases hok.mp y), if_pos (show bI false = 0 from rfl)]
        exact Or.inr ⟨13, ii (q : Int), ii (q : Int), UT, va_up (va_up si 36 13) 2 (ii (q : Int)), sa, rfl, rfl, rfl, rfl, fun k h1 h2 h3 => by rw [vup_ne h1, vup_ne h3], fun _ _ _ => rfl⟩
    rw [f_FP_readUts_18, if_neg (inle (show k < u0 by omega) (by omega)), hP.get (k := q) (by omega), Option.bind_some, ex, f_Mo_flagRows_108, z4, if_neg n4, h10, if_neg (inle (show k < u0 by omega) (by omega)), h32, i5, if_neg i6, ex, h9]
    unfold f_Mo_flagRows_167 f_Mo_flagRows_171
    have X0 : (ii (x : Int) = 0) ↔ x = 0 := by rw [ii_lit, ii_eq (by omega) (by omega) (by omega) (by omega)]; omega
    have X1 : (ii (x : Int) = 1) ↔ x = 1 := by rw [ii_lit, ii_eq (by omega) (by omega) (by omega) (by omega)]; omega
    have L0 : (ii (x : Int) ≤ 0) ↔ x = 0 := by rw [ii_lit, ii_le (by omega) (by omega) (by omega) (by omega)]; omega
    have L1 : (ii (x : Int) ≤ 1) ↔ x ≤ 1 := by rw [ii_lit, ii_le (by omega) (by omega) (by omega) (by omega)]; omega
    by_cases d00 : d0 = 0
    · subst d00
      rw [if_pos (iple (c := 0) (d := 0) (show 0 ≤ k by omega) (by omega)), if_pos (show ii ((0 : Nat) : Int) ≤ 0 by decide)]
      by_cases x0 : x = 0
      · rw [if_pos (X0.mpr x0)]
        exact fin 0 true ⟨fun _ => rfl, fun _ => L0.mpr x0⟩
      · rw [if_neg (fun y => x0 (X0.mp y)), if_neg i6, if_neg n4]
        by_cases x1 : x = 1
        · rw [if_pos (X1.mpr x1)]
          exact fin 0 false ⟨fun y => absurd (L0.mp y) x0, fun y => by cases y⟩
        · rw [if_neg (fun y => x1 (X1.mp y))]
          exact fin 0 false ⟨fun y => absurd (L0.mp y) x0, fun y => by cases y⟩
    · obtain ⟨s1, s2⟩ := hS k (by omega)
      rw [if_neg (inle (show k < d0 by omega) (by omega)), i1, if_neg i2, if_neg (show ¬ ii (d0 : Int) ≤ 0 by rw [ii_lit, ii_le (by omega) (by omega) (by omega) (by omega)]; omega), e160, i3, ← s1]
      by_cases x0 : x = 0
      · rw [if_pos (X0.mpr x0)]
        refine fin (SD k) true ⟨fun _ => rfl, fun _ => ?_⟩
        rcases s2 with e | e
        · rw [e]
          exact L0.mpr x0
        · rw [e]
          exact L1.mpr (by omega)
      · rw [if_neg (fun y => x0 (X0.mp y)), if_neg i6, if_neg n4, if_neg i4]
        by_cases x1 : x = 1
        · rw [if_pos (X1.mpr x1)]
          rcases s2 with e | e
          · rw [e, if_neg (by decide)]
            exact fin 0 false ⟨fun y => absurd (L0.mp y) x0, fun y => by cases y⟩
          · rw [e, if_pos rfl]
            exact fin 1 true ⟨fun _ => rfl, fun _ => L1.mpr (by omega)⟩
        · rw [if_neg (fun y => x1 (X1.mp y))]
          refine fin (SD k) false ⟨fun y => ?_, fun y => by cases y⟩
          rcases s2 with e | e
          · rw [e] at y
            exact absurd (L0.mp y) x0
          · rw [e] at y
            have := L1.mp y
            omega
end
