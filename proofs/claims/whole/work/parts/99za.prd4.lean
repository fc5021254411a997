/-! ===== read: times and their types ===== -/
section
variable {nf n : Nat} {s : Int32} {N : Nat} {A : Nat → Int32} {sj : Nat → Int64} {sa : Nat → Nat → Int32} {sb : Nat → Nat → Int64}
def TmK (c : Nat) (TI : Nat → Int64) (sb : Nat → Nat → Int64) (tm : Nat → Int) : Prop := (∀ k, k < c → TI k = jj (tm k) ∧ sb 12 (800 + k) = jj (tm k) ∧ isI (tm k)) ∧ ∀ k, k + 1 < c → tm k < tm (k + 1)
def FlI (si si' : Nat → Int32) : Prop := ∀ k, k ≠ 2 → k ≠ 32 → k ≠ 36 → si' k = si k
theorem tms (hnf : 10000 ≤ nf) (hP : RB s N A n (sa 0)) (hn : n ≤ 6000) {w c : Nat} (hw : w = 4 ∨ w = 8) (hc : c ≤ 200) (fa pl : Int32) : ∀ (d k q fu fu' : Nat) (TI : Nat → Int64) (si : Nat → Int32) (sb : Nat → Nat → Int64) (tm : Nat → Int), k + d = c → q + w * d ≤ n → d < fu → d < fu' → si 32 = ii (q : Int) → TmK k TI sb tm →
    (∃ (TI' : Nat → Int64) (si' : Nat → Int32) (sb' : Nat → Nat → Int64) (tm' : Nat → Int), f_FP_readTimes_20 nf s N A (ii (c : Int)) fu (ii (k : Int)) (ii (w : Int)) fa pl (ii (q : Int)) TI = some (1, fa, pl, ii ((q + w * d : Nat) : Int), TI') ∧ f_Mo_timeRows_26 nf fu' (ii (k : Int)) (ii (c : Int)) 4 (ii (w : Int)) si sj sa sb = f_Mo_timeRows_26 nf 1 (ii (c : Int)) (ii (c : Int)) 4 (ii (w : Int)) si' sj sa sb' ∧ si' 32 = ii ((q + w * d : Nat) : Int) ∧ (∀ k, k ≠ 32 → si' k = si k) ∧ (∀ b j, ¬ (b = 12 ∧ 800 ≤ j ∧ j < 1000) → sb' b j = sb b j) ∧ TmK c TI' sb' tm') ∨
    (∃ (f pp po : Int32) (TI' : Nat → Int64) (si' : Nat → Int32) (sb' : Nat → Nat → Int64), f_FP_readTimes_20 nf s N A (ii (c : Int)) fu (ii (k : Int)) (ii (w : Int)) fa pl (ii (q : Int)) TI = some (0, f, pp, po, TI') ∧ f_Mo_timeRows_26 nf fu' (ii (k : Int)) (ii (c : Int)) 4 (ii (w : Int)) si sj sa sb = some (0, si', sj, sa, sb') ∧ si' 36 = f ∧ si' 2 = pp ∧ FlI si si' ∧ ∀ b j, ¬ (b = 12 ∧ 800 ≤ j ∧ j < 1000) → sb' b j = sb b j) := by
  intro d
  induction d with
  | zero =>
    intro k q fu fu' TI si sb tm hk hq hf hf' h32 ht
    obtain ⟨f, rfl⟩ : ∃ f, fu = f + 1 := ⟨fu - 1, by omega⟩
    obtain ⟨f', rfl⟩ : ∃ f', fu' = f' + 1 := ⟨fu' - 1, by omega⟩
    obtain rfl : k = c := by omega
    have le : ii (k : Int) ≤ ii (k : Int) := iple (c := 0) (d := 0) (by omega) (by omega)
    refine Or.inl ⟨TI, si, sb, tm, ?_, ?_, h32, fun _ _ => rfl, fun _ _ _ => rfl, ht⟩
    · rw [f_FP_readTimes_20, if_pos le]
      rfl
    · rw [f_Mo_timeRows_26, if_pos le, show (1 : Nat) = 0 + 1 from rfl, f_Mo_timeRows_26, if_pos le]
  | succ d ih =>
    intro k q fu fu' TI si sb tm hk hq hf hf' h32 ht
    obtain ⟨f, rfl⟩ : ∃ f, fu = f + 1 := ⟨fu - 1, by omega⟩
    obtain ⟨f', rfl⟩ : ∃ f', fu' = f' + 1 := ⟨fu' - 1, by omega⟩
    have wd : w * (d + 1) = w * d + w := Nat.mul_succ w d
    obtain ⟨v, v1, v2, _, e1, e2⟩ := rds (nf := nf) (si := si) (sj := sj) (sb := sb) hnf hP hn hw (p := q) (by omega)
    obtain ⟨j1, j2⟩ := cinst nf v1 v2
    obtain ⟨i1, i2⟩ := nidx (k := k) (m := 200) (by omega) (by omega)
    obtain ⟨i3, i4⟩ := nidx (k := 800 + k) (m := 1000) (by omega) (by omega)
    have eq : ii (q : Int) + ii (w : Int) = ii ((q + w : Nat) : Int) := by rw [ii_add]; congr 1
    rw [f_FP_readTimes_20, if_neg (inle (show k < c by omega) (by omega)), e1, Option.bind_some, j1, Option.bind_some, f_Mo_timeRows_26, if_neg (inle (show k < c by omega) (by omega)), h32, e2, Option.bind_some, j2, Option.bind_some]
    have bad : ∃ (f pp po : Int32) (TI' : Nat → Int64) (si' : Nat → Int32) (sb' : Nat → Nat → Int64), f_FP_readTimes_71 nf fa pl (ii (q : Int)) TI = some (0, f, pp, po, TI') ∧ f_Mo_timeRows_77 nf si sj sa sb = some (0, si', sj, sa, sb') ∧ si' 36 = f ∧ si' 2 = pp ∧ FlI si si' ∧ ∀ b j, ¬ (b = 12 ∧ 800 ≤ j ∧ j < 1000) → sb' b j = sb b j := by
      refine ⟨5, ii (q : Int), ii (q : Int), TI, va_up (va_up si 36 5) 2 (si 32), sb, rfl, rfl, rfl, ?_, fun k h1 h2 h3 => by rw [vup_ne h1, vup_ne h3], fun _ _ _ => rfl⟩
      rw [vup_eq]
      exact h32
    by_cases cI : -1152921504606846975 ≤ v ∧ v ≤ 1152921504606846975
    · rw [if_pos cI, if_neg (show ¬ (1 : Int32) = 0 by decide), if_neg (show ¬ (1 : Int32) = 0 by decide)]
      -- stored
      have good : (0 < k → tm (k - 1) < v) → (∃ (TI' : Nat → Int64) (si' : Nat → Int32) (sb' : Nat → Nat → Int64) (tm' : Nat → Int), f_FP_readTimes_81 nf (f_FP_readTimes_20 nf s N A (ii (c : Int)) f) (jj v) (ii (k : Int)) (ii (w : Int)) fa pl (ii (q : Int)) TI = some (1, fa, pl, ii ((q + w * (d + 1) : Nat) : Int), TI') ∧ f_Mo_timeRows_87 nf (f_Mo_timeRows_26 nf f') (jj v) (ii (k : Int)) (ii (c : Int)) 4 (ii (w : Int)) si sj sa sb = f_Mo_timeRows_26 nf 1 (ii (c : Int)) (ii (c : Int)) 4 (ii (w : Int)) si' sj sa sb' ∧ si' 32 = ii ((q + w * (d + 1) : Nat) : Int) ∧ (∀ k, k ≠ 32 → si' k = si k) ∧ (∀ b j, ¬ (b = 12 ∧ 800 ≤ j ∧ j < 1000) → sb' b j = sb b j) ∧ TmK c TI' sb' tm') ∨
          (∃ (f1 pp po : Int32) (TI' : Nat → Int64) (si' : Nat → Int32) (sb' : Nat → Nat → Int64), f_FP_readTimes_81 nf (f_FP_readTimes_20 nf s N A (ii (c : Int)) f) (jj v) (ii (k : Int)) (ii (w : Int)) fa pl (ii (q : Int)) TI = some (0, f1, pp, po, TI') ∧ f_Mo_timeRows_87 nf (f_Mo_timeRows_26 nf f') (jj v) (ii (k : Int)) (ii (c : Int)) 4 (ii (w : Int)) si sj sa sb = some (0, si', sj, sa, sb') ∧ si' 36 = f1 ∧ si' 2 = pp ∧ FlI si si' ∧ ∀ b j, ¬ (b = 12 ∧ 800 ≤ j ∧ j < 1000) → sb' b j = sb b j) := by
        intro hlt
        unfold f_FP_readTimes_81 f_Mo_timeRows_87
        rw [i1, if_neg i2, iiS, eq, e800, i3, if_neg i4, h32, eq]
        have r := ih (k + 1) (q + w) f f' (vp_updL TI k (jj v)) (va_up si 32 (ii ((q + w : Nat) : Int))) (va_up sb 12 (vp_updL (sb 12) (800 + k) (jj v))) (fun j => if j = k then v else tm j) (by omega) (by omega) (by omega) (by omega) rfl ⟨fun j hj => by
            rw [vup_eq]
            dsimp only
            by_cases c1 : j = k
            · rw [if_pos c1, c1, vpl_eq, vpl_eq]
              exact ⟨rfl, rfl, cI⟩
            · rw [if_neg c1, vpl_ne c1, vpl_ne (by omega)]
              exact ht.1 j (by omega), fun j hj => by
            dsimp only
            rw [if_neg (show ¬ j = k by omega)]
            by_cases c1 : j + 1 = k
            · rw [if_pos c1]
              have := hlt (by omega)
              rw [show k - 1 = j by omega] at this
              exact this
            · rw [if_neg c1]
              exact ht.2 j (by omega)⟩
        rw [show q + w + w * d = q + w * (d + 1) by omega] at r
        have fB : ∀ (b j : Nat), ¬ (b = 12 ∧ 800 ≤ j ∧ j < 1000) → va_up sb 12 (vp_updL (sb 12) (800 + k) (jj v)) b j = sb b j := by
          intro b j hb
          by_cases eb : b = 12
          · subst eb
            rw [vup_eq, vpl_ne (by omega)]
          · rw [vup_ne eb]
        rcases r with ⟨TI', si', sb', tm', x1, x2, x3, x4, x5, x6⟩ | ⟨f1, pp, po, TI', si', sb', x1, x2, x3, x4, x5, x6⟩
        · exact Or.inl ⟨TI', si', sb', tm', x1, x2, x3, fun k hk => (x4 k hk).trans (vup_ne hk), fun b j hb => (x5 b j hb).trans (fB b j hb), x6⟩
        · exact Or.inr ⟨f1, pp, po, TI', si', sb', x1, x2, x3, x4, fun k h1 h2 h3 => (x5 k h1 h2 h3).trans (vup_ne h2), fun b j hb => (x6 b j hb).trans (fB b j hb)⟩
      by_cases k0 : k = 0
      · subst k0
        rw [if_pos (show ii ((0 : Nat) : Int) ≤ 0 by decide), if_pos (show ii ((0 : Nat) : Int) ≤ 0 by decide)]
        exact good (by omega)
      · obtain ⟨i5, i6⟩ := nidx (k := k - 1) (m := 200) (by omega) (by omega)
        obtain ⟨i7, i8⟩ := nidx (k := 800 + (k - 1)) (m := 1000) (by omega) (by omega)
        have nk : ¬ ii (k : Int) ≤ 0 := by rw [ii_lit, ii_le (by omega) (by omega) (by omega) (by omega)]; omega
        have ek : ii (k : Int) - 1 = ii ((k - 1 : Nat) : Int) := by rw [ii_lit, ii_sub, show (k : Int) - 1 = ((k - 1 : Nat) : Int) by omega]
        have ek8 : 200 * (4 : Int32) + ii (k : Int) - 1 = ii ((800 + (k - 1) : Nat) : Int) := by
          rw [show (200 * (4 : Int32)) = ii 800 from rfl, show (1 : Int32) = ii 1 from rfl, ii_add, ii_sub]
          congr 1
          omega
        obtain ⟨t1, t2, t3⟩ := ht.1 (k - 1) (by omega)
        unfold isI at t3
        rw [if_neg nk, ek, i5, if_neg i6, t1, if_neg nk, ek8, i7, if_neg i8, t2]
        by_cases lt : tm (k - 1) < v
        · rw [if_pos ((jj_lt (by omega) (by omega) (by omega) (by omega)).mpr lt), if_pos ((jj_lt (by omega) (by omega) (by omega) (by omega)).mpr lt)]
          exact good (fun _ => lt)
        · rw [if_neg (fun y => lt ((jj_lt (by omega) (by omega) (by omega) (by omega)).mp y)), if_neg (fun y => lt ((jj_lt (by omega) (by omega) (by omega) (by omega)).mp y))]
          exact Or.inr bad
    · rw [if_neg cI, if_pos rfl, if_pos rfl]
      exact Or.inr bad
/-- the types of the times -/
theorem tts (hnf : 10000 ≤ nf) (hn : n ≤ 6000) {c y : Nat} (hc : c ≤ 200) (hy : y ≤ 40) (fa pl : Int32) : ∀ (d k q fu fu' : Nat) (TT : Nat → Int32) (si : Nat → Int32) (sa : Nat → Nat → Int32) (tt : Nat → Nat), RB s N A n (sa 0) → sa 6 4 = ii (y : Int) → k + d = c → q + d ≤ n → d < fu → d < fu' → si 32 = ii (q : Int) → (∀ j, j < k → TT j = ii (tt j : Int) ∧ sa 13 (800 + j) = ii (tt j : Int) ∧ tt j < y) →
    (∃ (TT' : Nat → Int32) (si' : Nat → Int32) (sa' : Nat → Nat → Int32) (tt' : Nat → Nat), f_FP_readTimeTypes_18 nf s N A (ii (c : Int)) (ii (y : Int)) fu (ii (k : Int)) fa pl (ii (q : Int)) TT = some (1, fa, pl, ii ((q + d : Nat) : Int), TT') ∧ f_Mo_timeRows_132 nf fu' (ii (k : Int)) (ii (c : Int)) 4 si sj sa sb = some (1, si', sj, sa', sb) ∧ si' 32 = ii ((q + d : Nat) : Int) ∧ (∀ k, k ≠ 32 → si' k = si k) ∧ (∀ a j, ¬ (a = 13 ∧ 800 ≤ j ∧ j < 1000) → sa' a j = sa a j) ∧ ∀ j, j < c → TT' j = ii (tt' j : Int) ∧ sa' 13 (800 + j) = ii (tt' j : Int) ∧ tt' j < y) ∨
    (∃ (f pp po : Int32) (TT' : Nat → Int32) (si' : Nat → Int32) (sa' : Nat → Nat → Int32), f_FP_readTimeTypes_18 nf s N A (ii (c : Int)) (ii (y : Int)) fu (ii (k : Int)) fa pl (ii (q : Int)) TT = some (0, f, pp, po, TT') ∧ f_Mo_timeRows_132 nf fu' (ii (k : Int)) (ii (c : Int)) 4 si sj sa sb = some (0, si', sj, sa', sb) ∧ si' 36 = f ∧ si' 2 = pp ∧ FlI si si' ∧ ∀ a j, ¬ (a = 13 ∧ 800 ≤ j ∧ j < 1000) → sa' a j = sa a j) := by
  have n4 : ¬ ((4 : Int32) < 0 ∨ 5 ≤ 4) := by decide
  have z4 : (4 : Int32).toNatClampNeg = 4 := rfl
  intro d
  induction d with
  | zero =>
    intro k q fu fu' TT si sa tt hP h6 hk hq hf hf' h32 ht
    obtain ⟨f, rfl⟩ : ∃ f, fu = f + 1 := ⟨fu - 1, by omega⟩
    obtain ⟨f', rfl⟩ : ∃ f', fu' = f' + 1 := ⟨fu' - 1, by omega⟩
    obtain rfl : k = c := by omega
    have le : ii (k : Int) ≤ ii (k : Int) := iple (c := 0) (d := 0) (by omega) (by omega)
    refine Or.inl ⟨TT, si, sa, tt, ?_, ?_, h32, fun _ _ => rfl, fun _ _ _ => rfl, ht⟩
    · rw [f_FP_readTimeTypes_18, if_pos le]
      rfl
    · rw [f_Mo_timeRows_132, if_pos le]
  | succ d ih =>
    intro k q fu fu' TT si sa tt hP h6 hk hq hf hf' h32 ht
    obtain ⟨f, rfl⟩ : ∃ f, fu = f + 1 := ⟨fu - 1, by omega⟩
    obtain ⟨f', rfl⟩ : ∃ f', fu' = f' + 1 := ⟨fu' - 1, by omega⟩
    obtain ⟨x, hx, ex⟩ := hP.byte (k := q) (by omega)
    obtain ⟨i1, i2⟩ := nidx (k := k) (m := 200) (by omega) (by omega)
    obtain ⟨i3, i4⟩ := nidx (k := 800 + k) (m := 1000) (by omega) (by omega)
    obtain ⟨i5, i6⟩ := nidx (k := q) (m := 6000) (by omega) (by omega)
    rw [f_FP_readTimeTypes_18, if_neg (inle (show k < c by omega) (by omega)), hP.get (k := q) (by omega), Option.bind_some, ex, f_Mo_timeRows_132, if_neg (inle (show k < c by omega) (by omega)), h32, i5, if_neg i6, z4, if_neg n4, ex, h6]
    by_cases lt : x < y
    · have lt' : ii (x : Int) < ii (y : Int) := by rw [ii_lt (by omega) (by omega) (by omega) (by omega)]; omega
      rw [if_pos lt', i1, if_neg i2, if_pos lt', if_neg i6, e800, i3, if_neg i4, iiS, iiS]
      have r := ih (k + 1) (q + 1) f f' (upd TT k (ii (x : Int))) (va_up si 32 (ii ((q + 1 : Nat) : Int))) (va_up sa 13 (upd (sa 13) (800 + k) (ii (x : Int)))) (fun j => if j = k then x else tt j) (hP.T_congr (fun j _ => by rw [vup_ne (by decide)])) ((congrFun (vup_ne (by decide)) _).trans h6) (by omega) (by omega) (by omega) (by omega) rfl (fun j hj => by
          rw [vup_eq]
          by_cases c1 : j = k
          · rw [if_pos c1, c1, upd_eq, upd_eq]
            exact ⟨rfl, rfl, lt⟩
          · rw [if_neg c1, upd_ne c1, upd_ne (by omega)]
            exact ht j (by omega))
      rw [show q + 1 + d = q + (d + 1) by omega] at r
      have fA : ∀ (a j : Nat), ¬ (a = 13 ∧ 800 ≤ j ∧ j < 1000) → va_up sa 13 (upd (sa 13) (800 + k) (ii (x : Int))) a j = sa a j := fun a j ha => vu_ne (by omega)
      rcases r with ⟨TT', si', sa', tt', x1, x2, x3, x4, x5, x6⟩ | ⟨f1, pp, po, TT', si', sa', x1, x2, x3, x4, x5, x6⟩
      · exact Or.inl ⟨TT', si', sa', tt', x1, x2, x3, fun k hk => (x4 k hk).trans (vup_ne hk), fun a j ha => (x5 a j ha).trans (fA a j ha), x6⟩
      · exact Or.inr ⟨f1, pp, po, TT', si', sa', x1, x2, x3, x4, fun k h1 h2 h3 => (x5 k h1 h2 h3).trans (vup_ne h2), fun a j ha => (x6 a j ha).trans (fA a j ha)⟩
    · have lt' : ¬ ii (x : Int) < ii (y : Int) := by rw [ii_lt (by omega) (by omega) (by omega) (by omega)]; omega
      rw [if_neg lt', if_neg lt']
      exact Or.inr ⟨6, ii (q : Int), ii (q : Int), TT, va_up (va_up si 36 6) 2 (ii (q : Int)), sa, rfl, rfl, rfl, rfl, fun k h1 h2 h3 => by rw [vup_ne h1, vup_ne h3], fun _ _ _ => rfl⟩
end
