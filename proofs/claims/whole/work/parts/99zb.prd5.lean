/-! ===== read: types ===== -/
section
variable {nf n : Nat} {s : Int32} {N : Nat} {A : Nat → Int32} {sj : Nat → Int64} {sb : Nat → Nat → Int64}
def TyK (y cc : Nat) (OF DS IX : Nat → Int32) (sa : Nat → Nat → Int32) (of ds : Nat → Int) (ix : Nat → Nat) : Prop := ∀ k, k < y → OF k = ii (of k) ∧ sa 14 (160 + k) = ii (of k) ∧ -89999 ≤ of k ∧ of k ≤ 93599 ∧ DS k = ii (ds k) ∧ sa 15 (160 + k) = ii (ds k) ∧ (ds k = 0 ∨ ds k = 1) ∧ IX k = ii (ix k : Int) ∧ sa 16 (160 + k) = ii (ix k : Int) ∧ ix k < cc
def kTy (a j : Nat) : Prop := 14 ≤ a ∧ a ≤ 16 ∧ 160 ≤ j ∧ j < 200
theorem cnt5 {W : Nat → Int64} {v k : Nat} (hk : k < 6) (hv : W k = jj (v : Int)) : f_FP_count nf (ii (k : Int)) W = some (ii (v : Int)) := by
  obtain ⟨i1, i2⟩ := nidx (k := k) (m := 6) (by omega) (by omega)
  unfold f_FP_count f_FP_count_0
  rw [if_neg (fun y => i2 (Or.inl y)), if_pos (show ii (k : Int) < 6 by rw [ii_lit, ii_lt (by omega) (by omega) (by omega) (by omega)]; omega), i1, if_neg i2, hv, jj_32]
  rfl
theorem tys (hnf : 10000 ≤ nf) (hn : n ≤ 6000) {y cc : Nat} (hy : y ≤ 40) (hcc : cc ≤ 200) {W : Nat → Int64} (hW : W 5 = jj (cc : Int)) (fa pl : Int32) : ∀ (d k q fu fu' : Nat) (OF DS IX : Nat → Int32) (si : Nat → Int32) (sa : Nat → Nat → Int32) (of ds : Nat → Int) (ix : Nat → Nat), RB s N A n (sa 0) → sa 6 4 = ii (y : Int) → sa 7 4 = ii (cc : Int) → k + d = y → q + 6 * d ≤ n → d < fu → d < fu' → si 32 = ii (q : Int) → TyK k cc OF DS IX sa of ds ix →
    (∃ (OF' DS' IX' : Nat → Int32) (si' : Nat → Int32) (sa' : Nat → Nat → Int32) (of' ds' : Nat → Int) (ix' : Nat → Nat), f_FP_readTypes_21 nf s N A (ii (y : Int)) W fu (ii (k : Int)) fa pl (ii (q : Int)) OF DS IX = some (1, fa, pl, ii ((q + 6 * d : Nat) : Int), OF', DS', IX') ∧ f_Mo_typeRows_24 nf fu' (ii (k : Int)) 4 si sj sa sb = some (1, si', sj, sa', sb) ∧ si' 32 = ii ((q + 6 * d : Nat) : Int) ∧ (∀ k, k ≠ 32 → si' k = si k) ∧ (∀ a j, ¬ kTy a j → sa' a j = sa a j) ∧ TyK y cc OF' DS' IX' sa' of' ds' ix') ∨
    (∃ (f pp po : Int32) (OF' DS' IX' : Nat → Int32) (si' : Nat → Int32) (sa' : Nat → Nat → Int32), f_FP_readTypes_21 nf s N A (ii (y : Int)) W fu (ii (k : Int)) fa pl (ii (q : Int)) OF DS IX = some (0, f, pp, po, OF', DS', IX') ∧ f_Mo_typeRows_24 nf fu' (ii (k : Int)) 4 si sj sa sb = some (0, si', sj, sa', sb) ∧ si' 36 = f ∧ si' 2 = pp ∧ FlI si si' ∧ ∀ a j, ¬ kTy a j → sa' a j = sa a j) := by
  have n4 : ¬ ((4 : Int32) < 0 ∨ 5 ≤ 4) := by decide
  have z4 : (4 : Int32).toNatClampNeg = 4 := rfl
  intro d
  induction d with
  | zero =>
    intro k q fu fu' OF DS IX si sa of ds ix hP h6 h7 hk hq hf hf' h32 ht
    obtain ⟨f, rfl⟩ : ∃ f, fu = f + 1 := ⟨fu - 1, by omega⟩
    obtain ⟨f', rfl⟩ : ∃ f', fu' = f' + 1 := ⟨fu' - 1, by omega⟩
    obtain rfl : k = y := by omega
    have le : ii (k : Int) ≤ ii (k : Int) := iple (c := 0) (d := 0) (by omega) (by omega)
    refine Or.inl ⟨OF, DS, IX, si, sa, of, ds, ix, ?_, ?_, h32, fun _ _ => rfl, fun _ _ _ => rfl, ht⟩
    · rw [f_FP_readTypes_21, if_pos le]
      rfl
    · rw [f_Mo_typeRows_24, z4, if_neg n4, h6, if_pos le]
  | succ d ih =>
    intro k q fu fu' OF DS IX si sa of ds ix hP h6 h7 hk hq hf hf' h32 ht
    obtain ⟨f, rfl⟩ : ∃ f, fu = f + 1 := ⟨fu - 1, by omega⟩
    obtain ⟨f', rfl⟩ : ∃ f', fu' = f' + 1 := ⟨fu' - 1, by omega⟩
    obtain ⟨v, v1, v2, v3, e1, e2⟩ := rds (nf := nf) (si := si) (sj := sj) (sb := sb) hnf hP hn (w := 4) (Or.inl rfl) (p := q) (by omega)
    obtain ⟨v4, v5⟩ := v3 rfl
    have e1' : f_By_signedAt nf (ii (q : Int)) 4 s N A = some (jj v) := e1
    have e2' : f_Mo_signed nf (ii (q : Int)) 4 si sj sa sb = some (jj v) := e2
    obtain ⟨b4, hb4, eb4⟩ := hP.byte (k := q + 4) (by omega)
    obtain ⟨b5, hb5, eb5⟩ := hP.byte (k := q + 5) (by omega)
    obtain ⟨i1, i2⟩ := nidx (k := k) (m := 40) (by omega) (by omega)
    obtain ⟨i3, i4⟩ := nidx (k := 160 + k) (m := 200) (by omega) (by omega)
    obtain ⟨i5, i6⟩ := nidx (k := q + 4) (m := 6000) (by omega) (by omega)
    obtain ⟨i7, i8⟩ := nidx (k := q + 5) (m := 6000) (by omega) (by omega)
    have q4 : ii (q : Int) + 4 = ii ((q + 4 : Nat) : Int) := by rw [show (4 : Int32) = ii 4 from rfl, ii_add]; congr 1
    have q5 : ii (q : Int) + 5 = ii ((q + 5 : Nat) : Int) := by rw [show (5 : Int32) = ii 5 from rfl, ii_add]; congr 1
    have q6 : ii (q : Int) + 6 = ii ((q + 6 : Nat) : Int) := by rw [show (6 : Int32) = ii 6 from rfl, ii_add]; congr 1
    have c5 : f_FP_count nf 5 W = some (ii (cc : Int)) := cnt5 (k := 5) (by omega) hW
    rw [f_FP_readTypes_21, if_neg (inle (show k < y by omega) (by omega)), e1', Option.bind_some, jj_32, f_Mo_typeRows_24, z4, if_neg n4, h6, if_neg (inle (show k < y by omega) (by omega)), h32, e2', Option.bind_some]
    have b7 : f_FP_readTypes_58 nf fa pl (ii (q : Int)) OF DS IX = some (0, 7, ii (q : Int), ii (q : Int), OF, DS, IX) := rfl
    have m7 : f_Mo_typeRows_60 nf si sj sa sb = some (0, va_up (va_up si 36 7) 2 (ii (q : Int)), sj, sa, sb) := by
      unfold f_Mo_typeRows_60
      rw [h32]
      rfl
    have badF : ∀ (x pq : Int32), FlI si (va_up (va_up si 36 x) 2 pq) := fun x pq k h1 h2 h3 => by rw [vup_ne h1, vup_ne h3]
    by_cases lo : v < -89999
    · rw [if_pos (show ii v < -89999 by rw [show (-89999 : Int32) = ii (-89999) from rfl, ii_lt (by omega) (by omega) (by omega) (by omega)]; exact lo), if_pos (show jj v < -89999 by rw [show (-89999 : Int64) = jj (-89999) from rfl, jj_lt (by omega) (by omega) (by omega) (by omega)]; exact lo), b7, m7]
      exact Or.inr ⟨7, ii (q : Int), _, OF, DS, IX, _, sa, rfl, rfl, rfl, rfl, badF _ _, fun _ _ _ => rfl⟩
    · rw [if_neg (show ¬ ii v < -89999 by rw [show (-89999 : Int32) = ii (-89999) from rfl, ii_lt (by omega) (by omega) (by omega) (by omega)]; exact lo), if_neg (show ¬ jj v < -89999 by rw [show (-89999 : Int64) = jj (-89999) from rfl, jj_lt (by omega) (by omega) (by omega) (by omega)]; exact lo)]
      by_cases hi : v ≤ 93599
      · rw [if_pos (show ii v ≤ 93599 by rw [ii_lit, ii_le (by omega) (by omega) (by omega) (by omega)]; exact hi), if_pos (show jj v ≤ 93599 by rw [jj_lit, jj_le (by omega) (by omega) (by omega) (by omega)]; exact hi), q4, hP.get (k := q + 4) (by omega), Option.bind_some, i5, if_neg i6, eb4]
        by_cases d1 : b4 ≤ 1
        · have d1' : ii (b4 : Int) ≤ 1 := by rw [ii_lit, ii_le (by omega) (by omega) (by omega) (by omega)]; omega
          rw [if_pos d1', q5, hP.get (k := q + 5) (by omega), Option.bind_some, c5, Option.bind_some, eb5, if_pos d1', i7, if_neg i8, if_neg n4, eb5, h7]
          by_cases lt : b5 < cc
          · have lt' : ii (b5 : Int) < ii (cc : Int) := by rw [ii_lt (by omega) (by omega) (by omega) (by omega)]; omega
            rw [if_pos lt', i1, if_neg i2, if_neg i2, if_neg i2, if_pos lt', e160, i3, if_neg i4, if_neg i6, if_neg i4, if_neg i8, if_neg i4, iiS, q6, jj_32]
            obtain ⟨sa1, hsa1⟩ : ∃ sa1, sa1 = va_up (va_up (va_up sa 14 (upd (sa 14) (160 + k) (ii v))) 15 (upd (sa 15) (160 + k) (ii (b4 : Int)))) 16 (upd (sa 16) (160 + k) (ii (b5 : Int))) := ⟨_, rfl⟩
            rw [← hsa1]
            have f14 : sa1 14 (160 + k) = ii v := by rw [hsa1, vup_ne (by decide), vup_ne (by decide), vup_eq, upd_eq]
            have f15 : sa1 15 (160 + k) = ii (b4 : Int) := by rw [hsa1, vup_ne (by decide), vup_eq, upd_eq]
            have f16 : sa1 16 (160 + k) = ii (b5 : Int) := by rw [hsa1, vup_eq, upd_eq]
            have fr : ∀ a j, ¬ (14 ≤ a ∧ a ≤ 16 ∧ j = 160 + k) → sa1 a j = sa a j := by
              intro a j h1
              rw [hsa1]
              by_cases e16 : a = 16
              · subst e16
                rw [vup_eq, upd_ne (by omega)]
              · rw [vup_ne e16]
                by_cases e15 : a = 15
                · subst e15
                  rw [vup_eq, upd_ne (by omega)]
                · rw [vup_ne e15, vu_ne (by omega)]
            have r := ih (k + 1) (q + 6) f f' (upd OF k (ii v)) (upd DS k (ii (b4 : Int))) (upd IX k (ii (b5 : Int))) (va_up si 32 (ii ((q + 6 : Nat) : Int))) sa1 (fun j => if j = k then v else of j) (fun j => if j = k then (b4 : Int) else ds j) (fun j => if j = k then b5 else ix j) (hP.T_congr (fun j _ => (fr 0 j (by omega)).symm)) ((fr 6 4 (by omega)).trans h6) ((fr 7 4 (by omega)).trans h7) (by omega) (by omega) (by omega) (by omega) rfl (fun j hj => by
                dsimp only
                by_cases c1 : j = k
                · rw [if_pos c1, if_pos c1, if_pos c1, c1, upd_eq, upd_eq, upd_eq]
                  exact ⟨rfl, f14, by omega, hi, rfl, f15, by omega, rfl, f16, lt⟩
                · rw [if_neg c1, if_neg c1, if_neg c1, upd_ne c1, upd_ne c1, upd_ne c1, fr 14 (160 + j) (by omega), fr 15 (160 + j) (by omega), fr 16 (160 + j) (by omega)]
                  exact ht j (by omega))
            rw [show q + 6 + 6 * d = q + 6 * (d + 1) by omega] at r
            have fA : ∀ (a j : Nat), ¬ kTy a j → sa1 a j = sa a j := fun a j ha => fr a j (by unfold kTy at ha; omega)
            rcases r with ⟨OF', DS', IX', si', sa', of', ds', ix', x1, x2, x3, x4, x5, x6⟩ | ⟨f1, pp, po, OF', DS', IX', si', sa', x1, x2, x3, x4, x5, x6⟩
            · exact Or.inl ⟨OF', DS', IX', si', sa', of', ds', ix', x1, x2, x3, fun k hk => (x4 k hk).trans (vup_ne hk), fun a j ha => (x5 a j ha).trans (fA a j ha), x6⟩
            · exact Or.inr ⟨f1, pp, po, OF', DS', IX', si', sa', x1, x2, x3, x4, fun k h1 h2 h3 => (x5 k h1 h2 h3).trans (vup_ne h2), fun a j ha => (x6 a j ha).trans (fA a j ha)⟩
          · have lt' : ¬ ii (b5 : Int) < ii (cc : Int) := by rw [ii_lt (by omega) (by omega) (by omega) (by omega)]; omega
            rw [if_neg lt', if_neg lt']
            exact Or.inr ⟨9, ii ((q + 5 : Nat) : Int), ii (q : Int), OF, DS, IX, va_up (va_up si 36 9) 2 (ii ((q + 5 : Nat) : Int)), sa, rfl, rfl, rfl, rfl, badF _ _, fun _ _ _ => rfl⟩
        · have d1' : ¬ ii (b4 : Int) ≤ 1 := by rw [ii_lit, ii_le (by omega) (by omega) (by omega) (by omega)]; omega
          rw [if_neg d1', if_neg d1']
          exact Or.inr ⟨8, ii ((q + 4 : Nat) : Int), ii (q : Int), OF, DS, IX, va_up (va_up si 36 8) 2 (ii ((q + 4 : Nat) : Int)), sa, rfl, rfl, rfl, rfl, badF _ _, fun _ _ _ => rfl⟩
      · rw [if_neg (show ¬ ii v ≤ 93599 by rw [ii_lit, ii_le (by omega) (by omega) (by omega) (by omega)]; exact hi), if_neg (show ¬ jj v ≤ 93599 by rw [jj_lit, jj_le (by omega) (by omega) (by omega) (by omega)]; exact hi), b7, m7]
        exact Or.inr ⟨7, ii (q : Int), _, OF, DS, IX, _, sa, rfl, rfl, rfl, rfl, badF _ _, fun _ _ _ => rfl⟩
end
