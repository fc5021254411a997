/-! ===== last ===== -/
section
variable {nf : Nat} {z : ZS} {si : Nat → Int32} {sj : Nat → Int64} {sa : Nat → Nat → Int32} {sb : Nat → Nat → Int64} {i n t r : Nat} {tm : Nat → Int} {tt : Nat → Nat} {hs : Bool} {b e : ET} {O D : Int → Int} {Z : Int → Nat} {B : Int → Nat → Int32}
/-- the reference leaves its search -/
theorem mex79 (hi : i < 5) {x4 : Int32} {x2 : Int64} {v L : Int} (v1 : -9223372036854775808 ≤ v) (v2 : v < 9223372036854775808) (L1 : -9223372036854775808 ≤ L) (L2 : L < 9223372036854775808) (hv : ¬ isI v ∨ v ≤ L) (k : Int32) (f : Nat) : f_Mo_last_79 nf (f + 1) k (jj v) (jj L) x4 (ii (i : Int)) x2 si sj sa sb = f_Mo_last_149 nf x4 (ii (i : Int)) x2 si sj sa sb := by
  have ei : (ii (i : Int)).toNatClampNeg = i := by rw [ii_nat (by omega) (by omega)]; omega
  have ni : ¬ (ii (i : Int) < 0 ∨ 5 ≤ i) := by rw [ii_lit, ii_lt (by omega) (by omega) (by omega) (by omega)]; omega
  unfold isI at hv
  obtain ⟨_, i3⟩ := cinst nf v1 v2
  rw [f_Mo_last_79]
  by_cases c8 : (820 : Int32) ≤ k
  · rw [if_pos c8]
  · rw [if_neg c8, ei, if_neg ni]
    by_cases c2 : sa 23 i = 2
    · rw [if_pos c2, i3, Option.bind_some]
      by_cases c : -1152921504606846975 ≤ v ∧ v ≤ 1152921504606846975
      · rw [if_pos c, if_neg (show ¬ (1 : Int32) = 0 by decide), if_pos ((jj_le (by omega) (by omega) (by omega) (by omega)).mpr (by omega))]
      · rw [if_neg c, if_pos rfl]
    · rw [if_neg c2]
theorem ZV.m79 (hnf : 10000 ≤ nf) (hh : hs = true) {bd L : Int} {x4 : Int32} {x2 : Int64} (hbd : isI bd) (hL1 : -9223372036854775808 ≤ L) (hL : L = bd ∨ L = -9223372036854775808 ∧ bd = -1152921504606846975) (hup : upto n tm bd n) : ∀ (d k fu : Nat) (u : Int) (si : Nat → Int32) (sj : Nat → Int64) (sa : Nat → Nat → Int32), k + d = 820 → d + 2 < fu → ZV z sa sb i n t r tm tt hs b e O D Z B → bd ≤ u → u < 1152921504606846975 →
    ∃ (si' : Nat → Int32) (sj' : Nat → Int64) (sa' : Nat → Nat → Int32), QF si si' sj sj' sa sa' ∧ ((∃ v, scb b e bd d u = some v ∧ bd < v ∧ v ≤ u ∧ f_Mo_last_79 nf fu (ii (k : Int)) (jj (u + 1)) (jj L) x4 (ii (i : Int)) x2 si sj sa sb = some (jj v, si', sj', sa', sb)) ∨ (scb b e bd d u = none ∧ f_Mo_last_79 nf fu (ii (k : Int)) (jj (u + 1)) (jj L) x4 (ii (i : Int)) x2 si sj sa sb = f_Mo_last_149 nf x4 (ii (i : Int)) x2 si' sj' sa' sb)) := by
  unfold isI at hbd
  intro d
  induction d with
  | zero =>
    intro k fu u si sj sa hk hf h hu1 hu2
    obtain ⟨f, rfl⟩ : ∃ f, fu = f + 1 := ⟨fu - 1, by omega⟩
    obtain rfl : k = 820 := by omega
    refine ⟨si, sj, sa, QF.rf, Or.inr ⟨rfl, ?_⟩⟩
    rw [f_Mo_last_79, if_pos (by decide)]
  | succ d ih =>
    intro k fu u si sj sa hk hf h hu1 hu2
    obtain ⟨f, rfl⟩ : ∃ f, fu = f + 1 := ⟨fu - 1, by omega⟩
    obtain ⟨_, hr, h23, _, _, _, hreb⟩ : hs = true ∧ 0 < r ∧ sa 23 i = 2 ∧ z.2.2.2.2.2.2.2.2.2.2.2.2.2.2.2.2.2.2.1 = 1 ∧ REc z.2.2.2.2.2.2.2.2.2.2.2.2.2.2.2.2.2.2.2.2.2.2.2.2.2.2.2.2.2.2.1 z.2.2.2.2.2.2.2.2.2.2.2.2.2.2.2.2.2.2.2.2.2.2.2.2.2.2.2.2.2.2.2.1 z.2.2.2.2.2.2.2.2.2.2.2.2.2.2.2.2.2.2.2.2.2.2.2.2.2.2.2.2.2.2.2.2.1 z.2.2.2.2.2.2.2.2.2.2.2.2.2.2.2.2.2.2.2.2.2.2.2.2.2.2.2.2.2.2.2.2.2.1 z.2.2.2.2.2.2.2.2.2.2.2.2.2.2.2.2.2.2.2.2.2.2.2.2.2.2.2.2.2.2.2.2.2.2.1 z.2.2.2.2.2.2.2.2.2.2.2.2.2.2.2.2.2.2.2.2.2.2.2.2.2.2.2.2.2.2.2.2.2.2.2.1 b ∧ REc z.2.2.2.2.2.2.2.2.2.2.2.2.2.2.2.2.2.2.2.2.2.2.2.2.2.2.2.2.2.2.2.2.2.2.2.2.1 z.2.2.2.2.2.2.2.2.2.2.2.2.2.2.2.2.2.2.2.2.2.2.2.2.2.2.2.2.2.2.2.2.2.2.2.2.2.1 z.2.2.2.2.2.2.2.2.2.2.2.2.2.2.2.2.2.2.2.2.2.2.2.2.2.2.2.2.2.2.2.2.2.2.2.2.2.2.1 z.2.2.2.2.2.2.2.2.2.2.2.2.2.2.2.2.2.2.2.2.2.2.2.2.2.2.2.2.2.2.2.2.2.2.2.2.2.2.2.1 z.2.2.2.2.2.2.2.2.2.2.2.2.2.2.2.2.2.2.2.2.2.2.2.2.2.2.2.2.2.2.2.2.2.2.2.2.2.2.2.2.1 z.2.2.2.2.2.2.2.2.2.2.2.2.2.2.2.2.2.2.2.2.2.2.2.2.2.2.2.2.2.2.2.2.2.2.2.2.2.2.2.2.2 e ∧ REb sa i b e := by
      rcases h.rul with q | ⟨q, _⟩
      · exact q
      · rw [hh] at q
        cases q
    have hi := h.1.1
    have ei : (ii (i : Int)).toNatClampNeg = i := by rw [ii_nat (by omega) (by omega)]; omega
    have ni : ¬ (ii (i : Int) < 0 ∨ 5 ≤ i) := by rw [ii_lit, ii_lt (by omega) (by omega) (by omega) (by omega)]; omega
    obtain ⟨_, i2⟩ := cinst nf (v := u + 1) (by omega) (by omega)
    have nk : ¬ (820 : Int32) ≤ ii (k : Int) := by rw [ii_lit, ii_le (by omega) (by omega) (by omega) (by omega)]; omega
    have ob := hreb.2.2.1
    have oe := hreb.2.2.2
    have g := pm_le ob oe u
    have pr := pm_range ob oe (u := u) (by omega) (by omega)
    have qf0 : ∀ w : Int, QF si (abI si (w / 86400)) sj (abJ sj (w / 86400)) sa sa := fun w => ⟨ab_fI si _, ab_fJ sj _, frA.rf⟩
    have mb := mbelow (nf := nf) (si := si) (sj := sj) (sb := sb) hnf hreb hi (t := u + 1) (by omega) (by omega)
    rw [show u + 1 - 1 = u by omega] at mb
    have head : f_Mo_last_79 nf (f + 1) (ii (k : Int)) (jj (u + 1)) (jj L) x4 (ii (i : Int)) x2 si sj sa sb = if jj (pmm b e u) ≤ jj L then f_Mo_last_79 nf f (ii ((k + 1 : Nat) : Int)) (jj (pmm b e u)) (jj L) x4 (ii (i : Int)) x2 (abI si ((u + 1) / 86400)) (abJ sj ((u + 1) / 86400)) sa sb else (f_Mo_isStep nf (ii (i : Int)) (jj (pmm b e u)) (abI si ((u + 1) / 86400)) (abJ sj ((u + 1) / 86400)) sa sb).bind fun (z_34, i_30, j_31, a_32, b_33) => if z_34 = 0 then f_Mo_last_79 nf f (ii ((k + 1 : Nat) : Int)) (jj (pmm b e u)) (jj L) x4 (ii (i : Int)) x2 i_30 j_31 a_32 b_33 else some (jj (pmm b e u), i_30, j_31, a_32, b_33) := by
      rw [f_Mo_last_79, if_neg nk, ei, if_neg ni, h23, if_pos rfl, i2, Option.bind_some, if_pos (show -1152921504606846975 ≤ u + 1 ∧ u + 1 ≤ 1152921504606846975 by omega), if_neg (show ¬ (1 : Int32) = 0 by decide), if_neg (show ¬ jj (u + 1) ≤ jj L from fun y => by rw [jj_le (by omega) (by omega) (by omega) (by omega)] at y; omega), mb, Option.bind_some]
      dsimp only
      unfold f_Mo_last_143
      rw [iiS]
    rw [head, scb_s]
    by_cases c : bd < pmm b e u
    · rw [if_pos c, if_neg (show ¬ jj (pmm b e u) ≤ jj L from fun y => by rw [jj_le (by omega) (by omega) (by omega) (by omega)] at y; omega)]
      obtain ⟨q, si', sj', sa', q1, q2, q3⟩ := h.rstep (nf := nf) (si := abI si ((u + 1) / 86400)) (sj := abJ sj ((u + 1) / 86400)) hnf hr hh (v := pmm b e u) (by unfold isI; omega) (by unfold isI; omega) ⟨by omega, fun m hm => by have := hup.2.1 m hm; omega, fun m h1 h2 => by omega⟩
      rw [su_pm ob oe (t := u) (u := pmm b e u) (by omega) (by omega)] at q1
      rw [q2, Option.bind_some]
      dsimp only
      by_cases s : suB b e (pmm b e u - 1) = suB b e u
      · rw [if_pos s]
        obtain rfl : q = true := q1.mpr s
        rw [if_pos (show bI (!true) = 0 from rfl)]
        obtain ⟨si2, sj2, sa2, r1, r2⟩ := ih (k + 1) f (pmm b e u - 1) si' sj' sa' (by omega) (by omega) (h.fr q3.2.2) (by omega) (by omega)
        rw [show pmm b e u - 1 + 1 = pmm b e u by omega] at r2
        refine ⟨si2, sj2, sa2, (qf0 _).tr (q3.tr r1), ?_⟩
        rcases r2 with ⟨v, x1, x2, x3, x4⟩ | x
        · exact Or.inl ⟨v, x1, x2, by omega, x4⟩
        · exact Or.inr x
      · rw [if_neg s]
        cases q with
        | true => exact absurd (q1.mp rfl) s
        | false =>
          rw [if_neg (show ¬ bI (!false) = 0 by decide)]
          exact ⟨si', sj', sa', (qf0 _).tr q3, Or.inl ⟨_, rfl, c, g, rfl⟩⟩
    · rw [if_neg c]
      obtain ⟨f1, rfl⟩ : ∃ f1, f = f1 + 2 := ⟨f - 2, by omega⟩
      by_cases cL : pmm b e u ≤ L
      · rw [if_pos ((jj_le (by omega) (by omega) (by omega) (by omega)).mpr cL), mex79 hi (by omega) (by omega) hL1 (by omega) (Or.inr cL)]
        exact ⟨_, _, sa, qf0 _, Or.inr ⟨rfl, rfl⟩⟩
      · rw [if_neg (fun y => cL ((jj_le (by omega) (by omega) (by omega) (by omega)).mp y)), mstep0 (by omega) (by omega) (by unfold isI; omega), Option.bind_some]
        dsimp only
        rw [if_pos rfl]
        by_cases lo : pmm b e u < -1152921504606846975
        · rw [mex79 hi (by omega) (by omega) hL1 (by omega) (Or.inl (by unfold isI; omega))]
          exact ⟨_, _, sa, qf0 _, Or.inr ⟨rfl, rfl⟩⟩
        · have ep : pmm b e u = -1152921504606846975 := by omega
          rw [ep]
          have g' := pm_le ob oe (-1152921504606846975 - 1)
          have pr' := pm_range ob oe (u := -1152921504606846975 - 1) (by omega) (by omega)
          have mb' := mbelow (nf := nf) (si := abI si ((u + 1) / 86400)) (sj := abJ sj ((u + 1) / 86400)) (sb := sb) hnf hreb hi (t := -1152921504606846975) (by omega) (by omega)
          obtain ⟨_, i3⟩ := cinst nf (v := -1152921504606846975) (by omega) (by omega)
          rw [f_Mo_last_79]
          by_cases c8 : (820 : Int32) ≤ ii ((k + 1 : Nat) : Int)
          · rw [if_pos c8]
            exact ⟨_, _, sa, qf0 _, Or.inr ⟨rfl, rfl⟩⟩
          · rw [if_neg c8, ei, if_neg ni, h23, if_pos rfl, i3, Option.bind_some, if_pos (show (-1152921504606846975 : Int) ≤ -1152921504606846975 ∧ (-1152921504606846975 : Int) ≤ 1152921504606846975 by omega), if_neg (show ¬ (1 : Int32) = 0 by decide), if_neg (show ¬ jj (-1152921504606846975) ≤ jj L from fun y => by rw [jj_le (by omega) (by omega) (by omega) (by omega)] at y; omega), mb', Option.bind_some]
            dsimp only
            rw [if_neg (show ¬ jj (pmm b e (-1152921504606846975 - 1)) ≤ jj L from fun y => by rw [jj_le (by omega) (by omega) (by omega) (by omega)] at y; omega), mstep0 (by omega) (by omega) (by unfold isI; omega), Option.bind_some]
            dsimp only
            rw [if_pos rfl]
            unfold f_Mo_last_143
            rw [mex79 hi (by omega) (by omega) hL1 (by omega) (Or.inl (by unfold isI; omega))]
            refine ⟨_, _, sa, (qf0 _).tr ⟨ab_fI _ _, ab_fJ _ _, frA.rf⟩, Or.inr ⟨rfl, rfl⟩⟩
/-- times below -/
theorem ZV.la155 (hnf : 10000 ≤ nf) {v : Int} (hv : isI v) : ∀ (j fu fu' : Nat) (si : Nat → Int32) (sj : Nat → Int64) (sa : Nat → Nat → Int32), j ≤ n → (∀ m, m < j → tm m < v) → j < fu → j < fu' → ZV z sa sb i n t r tm tt hs b e O D Z B → ∃ (a : Int64) (si' : Nat → Int32) (sj' : Nat → Int64) (sa' : Nat → Nat → Int32), (∀ w, f_Zone_stepBelow_71 nf z.2.1 z.2.2.1 z.2.2.2.2.2.2.1 z.2.2.2.2.2.2.2.1 z.2.2.2.2.2.2.2.2.1 z.2.2.2.2.2.2.2.2.2.1 z.2.2.2.2.2.2.2.2.2.2.1 z.2.2.2.2.2.2.2.2.2.2.2.2.2.1 z.2.2.2.2.2.2.2.2.2.2.2.2.2.2.1 z.2.2.2.2.2.2.2.2.2.2.2.2.2.2.2.1 z.2.2.2.2.2.2.2.2.2.2.2.2.2.2.2.2.2.2.1 z.2.2.2.2.2.2.2.2.2.2.2.2.2.2.2.2.2.2.2.2.1 z.2.2.2.2.2.2.2.2.2.2.2.2.2.2.2.2.2.2.2.2.2.1 z.2.2.2.2.2.2.2.2.2.2.2.2.2.2.2.2.2.2.2.2.2.2.1 z.2.2.2.2.2.2.2.2.2.2.2.2.2.2.2.2.2.2.2.2.2.2.2.1 z.2.2.2.2.2.2.2.2.2.2.2.2.2.2.2.2.2.2.2.2.2.2.2.2.1 z.2.2.2.2.2.2.2.2.2.2.2.2.2.2.2.2.2.2.2.2.2.2.2.2.2.1 z.2.2.2.2.2.2.2.2.2.2.2.2.2.2.2.2.2.2.2.2.2.2.2.2.2.2.2.1 z.2.2.2.2.2.2.2.2.2.2.2.2.2.2.2.2.2.2.2.2.2.2.2.2.2.2.2.2.1 z.2.2.2.2.2.2.2.2.2.2.2.2.2.2.2.2.2.2.2.2.2.2.2.2.2.2.2.2.2.1 z.2.2.2.2.2.2.2.2.2.2.2.2.2.2.2.2.2.2.2.2.2.2.2.2.2.2.2.2.2.2.1 z.2.2.2.2.2.2.2.2.2.2.2.2.2.2.2.2.2.2.2.2.2.2.2.2.2.2.2.2.2.2.2.1 z.2.2.2.2.2.2.2.2.2.2.2.2.2.2.2.2.2.2.2.2.2.2.2.2.2.2.2.2.2.2.2.2.1 z.2.2.2.2.2.2.2.2.2.2.2.2.2.2.2.2.2.2.2.2.2.2.2.2.2.2.2.2.2.2.2.2.2.1 z.2.2.2.2.2.2.2.2.2.2.2.2.2.2.2.2.2.2.2.2.2.2.2.2.2.2.2.2.2.2.2.2.2.2.1 z.2.2.2.2.2.2.2.2.2.2.2.2.2.2.2.2.2.2.2.2.2.2.2.2.2.2.2.2.2.2.2.2.2.2.2.1 z.2.2.2.2.2.2.2.2.2.2.2.2.2.2.2.2.2.2.2.2.2.2.2.2.2.2.2.2.2.2.2.2.2.2.2.2.1 z.2.2.2.2.2.2.2.2.2.2.2.2.2.2.2.2.2.2.2.2.2.2.2.2.2.2.2.2.2.2.2.2.2.2.2.2.2.1 z.2.2.2.2.2.2.2.2.2.2.2.2.2.2.2.2.2.2.2.2.2.2.2.2.2.2.2.2.2.2.2.2.2.2.2.2.2.2.1 z.2.2.2.2.2.2.2.2.2.2.2.2.2.2.2.2.2.2.2.2.2.2.2.2.2.2.2.2.2.2.2.2.2.2.2.2.2.2.2.1 z.2.2.2.2.2.2.2.2.2.2.2.2.2.2.2.2.2.2.2.2.2.2.2.2.2.2.2.2.2.2.2.2.2.2.2.2.2.2.2.2.1 z.2.2.2.2.2.2.2.2.2.2.2.2.2.2.2.2.2.2.2.2.2.2.2.2.2.2.2.2.2.2.2.2.2.2.2.2.2.2.2.2.2 fu (ii ((j : Int) - 1)) w = some ((a, w), 0, 0)) ∧ f_Mo_last_155 nf fu' (ii ((j : Int) - 1)) (ii (i : Int)) (jj v) si sj sa sb = some (a, si', sj', sa', sb) ∧ QF si si' sj sj' sa sa' := by
  unfold isI at hv
  intro j
  induction j with
  | zero =>
    intro fu fu' si sj sa _ _ hf hf' h
    obtain ⟨f, rfl⟩ : ∃ f, fu = f + 1 := ⟨fu - 1, by omega⟩
    obtain ⟨f', rfl⟩ : ∃ f', fu' = f' + 1 := ⟨fu' - 1, by omega⟩
    have lt : ii (((0 : Nat) : Int) - 1) < 0 := by decide
    refine ⟨-9223372036854775808, si, sj, sa, fun w => ?_, ?_, QF.rf⟩
    · rw [f_Zone_stepBelow_71, if_pos lt]
    · rw [f_Mo_last_155, if_pos lt]
  | succ j ih =>
    intro fu fu' si sj sa hj hm hf hf' h
    obtain ⟨f, rfl⟩ : ∃ f, fu = f + 1 := ⟨fu - 1, by omega⟩
    obtain ⟨f', rfl⟩ : ∃ f', fu' = f' + 1 := ⟨fu' - 1, by omega⟩
    have hn := h.1.2.1
    have hi := h.1.1
    have lt : j < n := by omega
    obtain ⟨w1, w2, w3, _⟩ := h.1.2.2.2.2.2.2.2.2.1 j lt
    unfold isI at w3
    obtain ⟨i1, i2⟩ := nidx (k := j) (m := 200) (by omega) (by omega)
    obtain ⟨i3, i4⟩ := nidx (k := 200 * i + j) (m := 1000) (by omega) (by omega)
    have n0 : ¬ ii (j : Int) < 0 := fun y => i2 (Or.inl y)
    have e200 : 200 * ii (i : Int) + ii (j : Int) = ii ((200 * i + j : Nat) : Int) := by rw [ii_lit, ii_mul, ii_add]; congr 1
    have em : ii (j : Int) + -1 = ii ((j : Int) - 1) := by rw [show (-1 : Int32) = ii (-1) from rfl, ii_add]; congr 1
    obtain ⟨p, g2, p1, p2, p3⟩ := h.stepC hnf lt
    obtain ⟨p', si', sj', sa', q1, q2, q3⟩ := h.stepM (nf := nf) (si := si) (sj := sj) hnf lt
    have pp : p = p' := Bool.eq_iff_iff.mpr (p1.trans q1.symm)
    subst pp
    have tv := hm j (by omega)
    rw [show ((j + 1 : Nat) : Int) - 1 = (j : Int) by omega]
    have cC : ∀ w, f_Zone_stepBelow_71 nf z.2.1 z.2.2.1 z.2.2.2.2.2.2.1 z.2.2.2.2.2.2.2.1 z.2.2.2.2.2.2.2.2.1 z.2.2.2.2.2.2.2.2.2.1 z.2.2.2.2.2.2.2.2.2.2.1 z.2.2.2.2.2.2.2.2.2.2.2.2.2.1 z.2.2.2.2.2.2.2.2.2.2.2.2.2.2.1 z.2.2.2.2.2.2.2.2.2.2.2.2.2.2.2.1 z.2.2.2.2.2.2.2.2.2.2.2.2.2.2.2.2.2.2.1 z.2.2.2.2.2.2.2.2.2.2.2.2.2.2.2.2.2.2.2.2.1 z.2.2.2.2.2.2.2.2.2.2.2.2.2.2.2.2.2.2.2.2.2.1 z.2.2.2.2.2.2.2.2.2.2.2.2.2.2.2.2.2.2.2.2.2.2.1 z.2.2.2.2.2.2.2.2.2.2.2.2.2.2.2.2.2.2.2.2.2.2.2.1 z.2.2.2.2.2.2.2.2.2.2.2.2.2.2.2.2.2.2.2.2.2.2.2.2.1 z.2.2.2.2.2.2.2.2.2.2.2.2.2.2.2.2.2.2.2.2.2.2.2.2.2.1 z.2.2.2.2.2.2.2.2.2.2.2.2.2.2.2.2.2.2.2.2.2.2.2.2.2.2.2.1 z.2.2.2.2.2.2.2.2.2.2.2.2.2.2.2.2.2.2.2.2.2.2.2.2.2.2.2.2.1 z.2.2.2.2.2.2.2.2.2.2.2.2.2.2.2.2.2.2.2.2.2.2.2.2.2.2.2.2.2.1 z.2.2.2.2.2.2.2.2.2.2.2.2.2.2.2.2.2.2.2.2.2.2.2.2.2.2.2.2.2.2.1 z.2.2.2.2.2.2.2.2.2.2.2.2.2.2.2.2.2.2.2.2.2.2.2.2.2.2.2.2.2.2.2.1 z.2.2.2.2.2.2.2.2.2.2.2.2.2.2.2.2.2.2.2.2.2.2.2.2.2.2.2.2.2.2.2.2.1 z.2.2.2.2.2.2.2.2.2.2.2.2.2.2.2.2.2.2.2.2.2.2.2.2.2.2.2.2.2.2.2.2.2.1 z.2.2.2.2.2.2.2.2.2.2.2.2.2.2.2.2.2.2.2.2.2.2.2.2.2.2.2.2.2.2.2.2.2.2.1 z.2.2.2.2.2.2.2.2.2.2.2.2.2.2.2.2.2.2.2.2.2.2.2.2.2.2.2.2.2.2.2.2.2.2.2.1 z.2.2.2.2.2.2.2.2.2.2.2.2.2.2.2.2.2.2.2.2.2.2.2.2.2.2.2.2.2.2.2.2.2.2.2.2.1 z.2.2.2.2.2.2.2.2.2.2.2.2.2.2.2.2.2.2.2.2.2.2.2.2.2.2.2.2.2.2.2.2.2.2.2.2.2.1 z.2.2.2.2.2.2.2.2.2.2.2.2.2.2.2.2.2.2.2.2.2.2.2.2.2.2.2.2.2.2.2.2.2.2.2.2.2.2.1 z.2.2.2.2.2.2.2.2.2.2.2.2.2.2.2.2.2.2.2.2.2.2.2.2.2.2.2.2.2.2.2.2.2.2.2.2.2.2.2.1 z.2.2.2.2.2.2.2.2.2.2.2.2.2.2.2.2.2.2.2.2.2.2.2.2.2.2.2.2.2.2.2.2.2.2.2.2.2.2.2.2.1 z.2.2.2.2.2.2.2.2.2.2.2.2.2.2.2.2.2.2.2.2.2.2.2.2.2.2.2.2.2.2.2.2.2.2.2.2.2.2.2.2.2 (f + 1) (ii (j : Int)) w = if bI p = 0 then f_Zone_stepBelow_71 nf z.2.1 z.2.2.1 z.2.2.2.2.2.2.1 z.2.2.2.2.2.2.2.1 z.2.2.2.2.2.2.2.2.1 z.2.2.2.2.2.2.2.2.2.1 z.2.2.2.2.2.2.2.2.2.2.1 z.2.2.2.2.2.2.2.2.2.2.2.2.2.1 z.2.2.2.2.2.2.2.2.2.2.2.2.2.2.1 z.2.2.2.2.2.2.2.2.2.2.2.2.2.2.2.1 z.2.2.2.2.2.2.2.2.2.2.2.2.2.2.2.2.2.2.1 z.2.2.2.2.2.2.2.2.2.2.2.2.2.2.2.2.2.2.2.2.1 z.2.2.2.2.2.2.2.2.2.2.2.2.2.2.2.2.2.2.2.2.2.1 z.2.2.2.2.2.2.2.2.2.2.2.2.2.2.2.2.2.2.2.2.2.2.1 z.2.2.2.2.2.2.2.2.2.2.2.2.2.2.2.2.2.2.2.2.2.2.2.1 z.2.2.2.2.2.2.2.2.2.2.2.2.2.2.2.2.2.2.2.2.2.2.2.2.1 z.2.2.2.2.2.2.2.2.2.2.2.2.2.2.2.2.2.2.2.2.2.2.2.2.2.1 z.2.2.2.2.2.2.2.2.2.2.2.2.2.2.2.2.2.2.2.2.2.2.2.2.2.2.2.1 z.2.2.2.2.2.2.2.2.2.2.2.2.2.2.2.2.2.2.2.2.2.2.2.2.2.2.2.2.1 z.2.2.2.2.2.2.2.2.2.2.2.2.2.2.2.2.2.2.2.2.2.2.2.2.2.2.2.2.2.1 z.2.2.2.2.2.2.2.2.2.2.2.2.2.2.2.2.2.2.2.2.2.2.2.2.2.2.2.2.2.2.1 z.2.2.2.2.2.2.2.2.2.2.2.2.2.2.2.2.2.2.2.2.2.2.2.2.2.2.2.2.2.2.2.1 z.2.2.2.2.2.2.2.2.2.2.2.2.2.2.2.2.2.2.2.2.2.2.2.2.2.2.2.2.2.2.2.2.1 z.2.2.2.2.2.2.2.2.2.2.2.2.2.2.2.2.2.2.2.2.2.2.2.2.2.2.2.2.2.2.2.2.2.1 z.2.2.2.2.2.2.2.2.2.2.2.2.2.2.2.2.2.2.2.2.2.2.2.2.2.2.2.2.2.2.2.2.2.2.1 z.2.2.2.2.2.2.2.2.2.2.2.2.2.2.2.2.2.2.2.2.2.2.2.2.2.2.2.2.2.2.2.2.2.2.2.1 z.2.2.2.2.2.2.2.2.2.2.2.2.2.2.2.2.2.2.2.2.2.2.2.2.2.2.2.2.2.2.2.2.2.2.2.2.1 z.2.2.2.2.2.2.2.2.2.2.2.2.2.2.2.2.2.2.2.2.2.2.2.2.2.2.2.2.2.2.2.2.2.2.2.2.2.1 z.2.2.2.2.2.2.2.2.2.2.2.2.2.2.2.2.2.2.2.2.2.2.2.2.2.2.2.2.2.2.2.2.2.2.2.2.2.2.1 z.2.2.2.2.2.2.2.2.2.2.2.2.2.2.2.2.2.2.2.2.2.2.2.2.2.2.2.2.2.2.2.2.2.2.2.2.2.2.2.1 z.2.2.2.2.2.2.2.2.2.2.2.2.2.2.2.2.2.2.2.2.2.2.2.2.2.2.2.2.2.2.2.2.2.2.2.2.2.2.2.2.1 z.2.2.2.2.2.2.2.2.2.2.2.2.2.2.2.2.2.2.2.2.2.2.2.2.2.2.2.2.2.2.2.2.2.2.2.2.2.2.2.2.2 f (ii ((j : Int) - 1)) w else some ((jj (tm j), w), 0, 0) := by
      intro w
      rw [f_Zone_stepBelow_71, if_neg n0, i1, if_neg i2, w1, p2, Option.bind_some, p3, Option.bind_some, if_neg i2, em]
    have cR : f_Mo_last_155 nf (f' + 1) (ii (j : Int)) (ii (i : Int)) (jj v) si sj sa sb = if bI p = 0 then f_Mo_last_155 nf f' (ii ((j : Int) - 1)) (ii (i : Int)) (jj v) si' sj' sa' sb else some (jj (tm j), si', sj', sa', sb) := by
      rw [f_Mo_last_155, if_neg n0, e200, i3, if_neg i4, w2, if_neg (fun y => by rw [jj_le (by omega) (by omega) (by omega) (by omega)] at y; omega), q2, Option.bind_some]
      dsimp only
      unfold f_Mo_last_195
      rw [em]
    cases p with
    | true =>
      rw [if_neg (show ¬ bI true = 0 by decide)] at cR
      exact ⟨jj (tm j), si', sj', sa', fun w => (cC w).trans (if_neg (by decide)), cR, q3⟩
    | false =>
      rw [if_pos (show bI false = 0 from rfl)] at cR
      obtain ⟨a, si2, sj2, sa2, r1, r2, r3⟩ := ih f f' si' sj' sa' (by omega) (fun m hm' => hm m (by omega)) (by omega) (by omega) (h.fr q3.2.2)
      exact ⟨a, si2, sj2, sa2, fun w => (cC w).trans ((if_pos rfl).trans (r1 w)), cR.trans r2, q3.tr r3⟩
theorem ZV.la155a (h : ZV z sa sb i n t r tm tt hs b e O D Z B) {v : Int} (hv : isI v) {k : Nat} (hk : ∀ m, k ≤ m → m < n → v ≤ tm m) (fu : Nat) : ∀ d : Nat, k + d ≤ n → f_Mo_last_155 nf (fu + d) (ii (((k + d : Nat) : Int) - 1)) (ii (i : Int)) (jj v) si sj sa sb = f_Mo_last_155 nf fu (ii ((k : Int) - 1)) (ii (i : Int)) (jj v) si sj sa sb := by
  unfold isI at hv
  have hn := h.1.2.1
  have hi := h.1.1
  intro d
  induction d with
  | zero => intro _; rfl
  | succ d ih =>
    intro hd
    obtain ⟨w1, w2, w3, _⟩ := h.1.2.2.2.2.2.2.2.2.1 (k + d) (by omega)
    unfold isI at w3
    have tv := hk (k + d) (by omega) (by omega)
    obtain ⟨i1, i2⟩ := nidx (k := k + d) (m := 200) (by omega) (by omega)
    have n0 : ¬ ii ((k + d : Nat) : Int) < 0 := fun y => i2 (Or.inl y)
    obtain ⟨i3, i4⟩ := nidx (k := 200 * i + (k + d)) (m := 1000) (by omega) (by omega)
    have e200 : 200 * ii (i : Int) + ii ((k + d : Nat) : Int) = ii ((200 * i + (k + d) : Nat) : Int) := by rw [ii_lit, ii_mul, ii_add]; congr 1
    have em : ii ((k + d : Nat) : Int) + -1 = ii (((k + d : Nat) : Int) - 1) := by rw [show (-1 : Int32) = ii (-1) from rfl, ii_add]; congr 1
    rw [show ((k + (d + 1) : Nat) : Int) - 1 = ((k + d : Nat) : Int) by omega, show fu + (d + 1) = (fu + d) + 1 by omega, f_Mo_last_155, if_neg n0, e200, i3, if_neg i4, w2, if_pos ((jj_le (by omega) (by omega) (by omega) (by omega)).mpr tv)]
    unfold f_Mo_last_195
    rw [em]
    exact ih (by omega)
end
theorem st_last {nf : Nat} (hnf : 10000 ≤ nf) (S : CS) (M : MS) (p0 : Int32) (p1 : Int64) (h : RR S M) : STWj nf RR S (cq_last nf S p0 p1) (f_Mo_last nf p0 p1 M.1 M.2.1 M.2.2.1 M.2.2.2) := by
  obtain ⟨si, sj, sa, sb⟩ := M
  generalize hC : cq_last nf S p0 p1 = C
  unfold cq_last at hC
  dsimp only
  generalize hQ : f_Mo_last nf p0 p1 si sj sa sb = Q
  have e25 : ∀ s : Int32, ¬ s ≤ 0 → f_Mo_last_25 nf p0 p1 s si sj sa sb = some (0, va_up si 3 s, sj, sa, sb) := by
    intro s hs
    unfold f_Mo_last_25
    rw [if_neg hs]
  unfold f_Mo_last f_Mo_last_0 at hQ
  rw [e25 1 (by decide), e25 2 (by decide)] at hQ
  unfold f_ZF_last f_ZF_last_0 g_ZF_last g_ZF_last_0 at hC
  rcases zcase p0 with ⟨i, hi, rfl⟩ | hz
  · obtain ⟨a1, a2, a3, a4, a5, a6, a7⟩ := zgood hi nf
    rw [a4, a1, a2, a5, Option.bind_some] at hC
    rw [a3, Option.bind_some, if_pos rfl] at hQ
    obtain ⟨v, rfl, v1, v2⟩ := jj_all p1
    obtain ⟨i1, i2⟩ := cinst nf v1 v2
    rw [i2, Option.bind_some] at hQ
    by_cases c : -1152921504606846975 ≤ v ∧ v ≤ 1152921504606846975
    · obtain ⟨k1, k2⟩ := cchk nf v1 v2 c
      rw [k1, Option.bind_some, if_neg a6] at hC
      rw [if_pos c, if_neg (by decide)] at hQ
      have hzi : RZon (S.2 i) sa sb i := h.2.2.2.2.2.1 i hi
      obtain ⟨n, t, r, tm, tt, hs, b, e, O, D, Z, B, hv, hnev, hput⟩ := hzi.viewN (by omega)
      have v5 := hv.1.2.2.2.2.1
      have v6 := hv.1.2.2.2.2.2.1
      have hn := hv.1.2.1
      -- the bound
      obtain ⟨bd, L, hbd, hL1, hL, hup, cB, rB⟩ : ∃ bd L : Int, isI bd ∧ -9223372036854775808 ≤ L ∧ (L = bd ∨ L = -9223372036854775808 ∧ bd = -1152921504606846975) ∧ upto n tm bd n ∧
          (∀ w, f_Zone_stepBelow nf (jj v) (S.2 i).2.1 (S.2 i).2.2.1 (S.2 i).2.2.2.2.2.2.1 (S.2 i).2.2.2.2.2.2.2.1 (S.2 i).2.2.2.2.2.2.2.2.1 (S.2 i).2.2.2.2.2.2.2.2.2.1 (S.2 i).2.2.2.2.2.2.2.2.2.2.1 (S.2 i).2.2.2.2.2.2.2.2.2.2.2.2.2.1 (S.2 i).2.2.2.2.2.2.2.2.2.2.2.2.2.2.1 (S.2 i).2.2.2.2.2.2.2.2.2.2.2.2.2.2.2.1 (S.2 i).2.2.2.2.2.2.2.2.2.2.2.2.2.2.2.2.2.2.1 (S.2 i).2.2.2.2.2.2.2.2.2.2.2.2.2.2.2.2.2.2.2.2.1 (S.2 i).2.2.2.2.2.2.2.2.2.2.2.2.2.2.2.2.2.2.2.2.2.1 (S.2 i).2.2.2.2.2.2.2.2.2.2.2.2.2.2.2.2.2.2.2.2.2.2.1 (S.2 i).2.2.2.2.2.2.2.2.2.2.2.2.2.2.2.2.2.2.2.2.2.2.2.1 (S.2 i).2.2.2.2.2.2.2.2.2.2.2.2.2.2.2.2.2.2.2.2.2.2.2.2.1 (S.2 i).2.2.2.2.2.2.2.2.2.2.2.2.2.2.2.2.2.2.2.2.2.2.2.2.2.1 w (S.2 i).2.2.2.2.2.2.2.2.2.2.2.2.2.2.2.2.2.2.2.2.2.2.2.2.2.2.2.1 (S.2 i).2.2.2.2.2.2.2.2.2.2.2.2.2.2.2.2.2.2.2.2.2.2.2.2.2.2.2.2.1 (S.2 i).2.2.2.2.2.2.2.2.2.2.2.2.2.2.2.2.2.2.2.2.2.2.2.2.2.2.2.2.2.1 (S.2 i).2.2.2.2.2.2.2.2.2.2.2.2.2.2.2.2.2.2.2.2.2.2.2.2.2.2.2.2.2.2.1 (S.2 i).2.2.2.2.2.2.2.2.2.2.2.2.2.2.2.2.2.2.2.2.2.2.2.2.2.2.2.2.2.2.2.1 (S.2 i).2.2.2.2.2.2.2.2.2.2.2.2.2.2.2.2.2.2.2.2.2.2.2.2.2.2.2.2.2.2.2.2.1 (S.2 i).2.2.2.2.2.2.2.2.2.2.2.2.2.2.2.2.2.2.2.2.2.2.2.2.2.2.2.2.2.2.2.2.2.1 (S.2 i).2.2.2.2.2.2.2.2.2.2.2.2.2.2.2.2.2.2.2.2.2.2.2.2.2.2.2.2.2.2.2.2.2.2.1 (S.2 i).2.2.2.2.2.2.2.2.2.2.2.2.2.2.2.2.2.2.2.2.2.2.2.2.2.2.2.2.2.2.2.2.2.2.2.1 (S.2 i).2.2.2.2.2.2.2.2.2.2.2.2.2.2.2.2.2.2.2.2.2.2.2.2.2.2.2.2.2.2.2.2.2.2.2.2.1 (S.2 i).2.2.2.2.2.2.2.2.2.2.2.2.2.2.2.2.2.2.2.2.2.2.2.2.2.2.2.2.2.2.2.2.2.2.2.2.2.1 (S.2 i).2.2.2.2.2.2.2.2.2.2.2.2.2.2.2.2.2.2.2.2.2.2.2.2.2.2.2.2.2.2.2.2.2.2.2.2.2.2.1 (S.2 i).2.2.2.2.2.2.2.2.2.2.2.2.2.2.2.2.2.2.2.2.2.2.2.2.2.2.2.2.2.2.2.2.2.2.2.2.2.2.2.1 (S.2 i).2.2.2.2.2.2.2.2.2.2.2.2.2.2.2.2.2.2.2.2.2.2.2.2.2.2.2.2.2.2.2.2.2.2.2.2.2.2.2.2.1 (S.2 i).2.2.2.2.2.2.2.2.2.2.2.2.2.2.2.2.2.2.2.2.2.2.2.2.2.2.2.2.2.2.2.2.2.2.2.2.2.2.2.2.2 = f_Zone_stepBelow_24 nf (S.2 i).2.1 (S.2 i).2.2.1 (S.2 i).2.2.2.2.2.2.1 (S.2 i).2.2.2.2.2.2.2.1 (S.2 i).2.2.2.2.2.2.2.2.1 (S.2 i).2.2.2.2.2.2.2.2.2.1 (S.2 i).2.2.2.2.2.2.2.2.2.2.1 (S.2 i).2.2.2.2.2.2.2.2.2.2.2.2.2.1 (S.2 i).2.2.2.2.2.2.2.2.2.2.2.2.2.2.1 (S.2 i).2.2.2.2.2.2.2.2.2.2.2.2.2.2.2.1 (S.2 i).2.2.2.2.2.2.2.2.2.2.2.2.2.2.2.2.2.2.1 (S.2 i).2.2.2.2.2.2.2.2.2.2.2.2.2.2.2.2.2.2.2.2.1 (S.2 i).2.2.2.2.2.2.2.2.2.2.2.2.2.2.2.2.2.2.2.2.2.1 (S.2 i).2.2.2.2.2.2.2.2.2.2.2.2.2.2.2.2.2.2.2.2.2.2.1 (S.2 i).2.2.2.2.2.2.2.2.2.2.2.2.2.2.2.2.2.2.2.2.2.2.2.1 (S.2 i).2.2.2.2.2.2.2.2.2.2.2.2.2.2.2.2.2.2.2.2.2.2.2.2.1 (S.2 i).2.2.2.2.2.2.2.2.2.2.2.2.2.2.2.2.2.2.2.2.2.2.2.2.2.1 (S.2 i).2.2.2.2.2.2.2.2.2.2.2.2.2.2.2.2.2.2.2.2.2.2.2.2.2.2.2.1 (S.2 i).2.2.2.2.2.2.2.2.2.2.2.2.2.2.2.2.2.2.2.2.2.2.2.2.2.2.2.2.1 (S.2 i).2.2.2.2.2.2.2.2.2.2.2.2.2.2.2.2.2.2.2.2.2.2.2.2.2.2.2.2.2.1 (S.2 i).2.2.2.2.2.2.2.2.2.2.2.2.2.2.2.2.2.2.2.2.2.2.2.2.2.2.2.2.2.2.1 (S.2 i).2.2.2.2.2.2.2.2.2.2.2.2.2.2.2.2.2.2.2.2.2.2.2.2.2.2.2.2.2.2.2.1 (S.2 i).2.2.2.2.2.2.2.2.2.2.2.2.2.2.2.2.2.2.2.2.2.2.2.2.2.2.2.2.2.2.2.2.1 (S.2 i).2.2.2.2.2.2.2.2.2.2.2.2.2.2.2.2.2.2.2.2.2.2.2.2.2.2.2.2.2.2.2.2.2.1 (S.2 i).2.2.2.2.2.2.2.2.2.2.2.2.2.2.2.2.2.2.2.2.2.2.2.2.2.2.2.2.2.2.2.2.2.2.1 (S.2 i).2.2.2.2.2.2.2.2.2.2.2.2.2.2.2.2.2.2.2.2.2.2.2.2.2.2.2.2.2.2.2.2.2.2.2.1 (S.2 i).2.2.2.2.2.2.2.2.2.2.2.2.2.2.2.2.2.2.2.2.2.2.2.2.2.2.2.2.2.2.2.2.2.2.2.2.1 (S.2 i).2.2.2.2.2.2.2.2.2.2.2.2.2.2.2.2.2.2.2.2.2.2.2.2.2.2.2.2.2.2.2.2.2.2.2.2.2.1 (S.2 i).2.2.2.2.2.2.2.2.2.2.2.2.2.2.2.2.2.2.2.2.2.2.2.2.2.2.2.2.2.2.2.2.2.2.2.2.2.2.1 (S.2 i).2.2.2.2.2.2.2.2.2.2.2.2.2.2.2.2.2.2.2.2.2.2.2.2.2.2.2.2.2.2.2.2.2.2.2.2.2.2.2.1 (S.2 i).2.2.2.2.2.2.2.2.2.2.2.2.2.2.2.2.2.2.2.2.2.2.2.2.2.2.2.2.2.2.2.2.2.2.2.2.2.2.2.2.1 (S.2 i).2.2.2.2.2.2.2.2.2.2.2.2.2.2.2.2.2.2.2.2.2.2.2.2.2.2.2.2.2.2.2.2.2.2.2.2.2.2.2.2.2 (jj v) (jj bd) w) ∧ f_Mo_last_25 nf (ii (i : Int)) (jj v) 0 si sj sa sb = f_Mo_last_79 nf nf 0 (jj v) (jj L) (ii (n : Int)) (ii (i : Int)) (jj v) (va_up si 3 0) sj sa sb := by
        by_cases n0 : n = 0
        · subst n0
          refine ⟨-1152921504606846975, -9223372036854775808, by unfold isI; omega, by omega, Or.inr ⟨rfl, rfl⟩, ⟨by omega, fun m hm => by omega, fun m h1 h2 => by omega⟩, fun w => ?_, ?_⟩
          · unfold f_Zone_stepBelow f_Zone_stepBelow_0
            rw [if_pos (show (S.2 i).2.1 ≤ 0 by rw [v5]; decide)]
            rfl
          · unfold f_Mo_last_25
            rw [if_pos (by decide), a5, if_neg a7, v6, if_pos (show ii ((0 : Nat) : Int) = 0 from rfl)]
            rfl
        · obtain ⟨w1, w2, w3, _⟩ := hv.1.2.2.2.2.2.2.2.2.1 (n - 1) (by omega)
          obtain ⟨x1, x2⟩ := nidx (k := n - 1) (m := 200) (by omega) (by omega)
          obtain ⟨x3, x4⟩ := nidx (k := 200 * i + (n - 1)) (m := 1000) (by omega) (by omega)
          refine ⟨tm (n - 1), tm (n - 1), w3, by unfold isI at w3; omega, Or.inl rfl, ⟨by omega, fun m hm => ?_, fun m h1 h2 => by omega⟩, fun w => ?_, ?_⟩
          · by_cases c' : m = n - 1
            · rw [c']; omega
            · have := hv.lt (show m < n - 1 by omega) (by omega)
              omega
          · unfold f_Zone_stepBelow f_Zone_stepBelow_0
            rw [if_neg (show ¬ (S.2 i).2.1 ≤ 0 by rw [v5, ii_lit, ii_le (by omega) (by omega) (by omega) (by omega)]; omega), show (S.2 i).2.1 - 1 = ii ((n - 1 : Nat) : Int) by rw [v5, ii_lit, ii_sub, show (n : Int) - 1 = ((n - 1 : Nat) : Int) by omega], x1, if_neg x2, w1]
          · unfold f_Mo_last_25
            rw [if_pos (by decide), a5, if_neg a7, v6, if_neg (show ¬ ii (n : Int) = 0 by rw [ii_lit, ii_eq (by omega) (by omega) (by omega) (by omega)]; omega), show 200 * ii (i : Int) + ii (n : Int) - 1 = ii ((200 * i + (n - 1) : Nat) : Int) by rw [show (200 : Int32) = ii 200 from rfl, show (1 : Int32) = ii 1 from rfl, ii_mul, ii_add, ii_sub]; congr 1; omega, x3, if_neg x4, w2]
            rfl
      have hbd' := hbd
      unfold isI at hbd'
      rw [cB] at hC
      rw [rB] at hQ
      -- the times
      obtain ⟨k, hk⟩ := hv.ex (v - 1)
      have kn := hk.1
      have tu := hv.tup (nf := nf) hnf (v := v - 1) ⟨by omega, by omega⟩ hk
      have times : ∀ (si' : Nat → Int32) (sj' : Nat → Int64) (sa' : Nat → Nat → Int32), ZV (S.2 i) sa' sb i n t r tm tt hs b e O D Z B → ∃ (a : Int64) (si2 : Nat → Int32) (sj2 : Nat → Int64) (sa2 : Nat → Nat → Int32), (∀ w, f_Zone_stepBelow_46 nf (S.2 i).2.1 (S.2 i).2.2.1 (S.2 i).2.2.2.2.2.2.1 (S.2 i).2.2.2.2.2.2.2.1 (S.2 i).2.2.2.2.2.2.2.2.1 (S.2 i).2.2.2.2.2.2.2.2.2.1 (S.2 i).2.2.2.2.2.2.2.2.2.2.1 (S.2 i).2.2.2.2.2.2.2.2.2.2.2.2.2.1 (S.2 i).2.2.2.2.2.2.2.2.2.2.2.2.2.2.1 (S.2 i).2.2.2.2.2.2.2.2.2.2.2.2.2.2.2.1 (S.2 i).2.2.2.2.2.2.2.2.2.2.2.2.2.2.2.2.2.2.1 (S.2 i).2.2.2.2.2.2.2.2.2.2.2.2.2.2.2.2.2.2.2.2.1 (S.2 i).2.2.2.2.2.2.2.2.2.2.2.2.2.2.2.2.2.2.2.2.2.1 (S.2 i).2.2.2.2.2.2.2.2.2.2.2.2.2.2.2.2.2.2.2.2.2.2.1 (S.2 i).2.2.2.2.2.2.2.2.2.2.2.2.2.2.2.2.2.2.2.2.2.2.2.1 (S.2 i).2.2.2.2.2.2.2.2.2.2.2.2.2.2.2.2.2.2.2.2.2.2.2.2.1 (S.2 i).2.2.2.2.2.2.2.2.2.2.2.2.2.2.2.2.2.2.2.2.2.2.2.2.2.1 (S.2 i).2.2.2.2.2.2.2.2.2.2.2.2.2.2.2.2.2.2.2.2.2.2.2.2.2.2.2.1 (S.2 i).2.2.2.2.2.2.2.2.2.2.2.2.2.2.2.2.2.2.2.2.2.2.2.2.2.2.2.2.1 (S.2 i).2.2.2.2.2.2.2.2.2.2.2.2.2.2.2.2.2.2.2.2.2.2.2.2.2.2.2.2.2.1 (S.2 i).2.2.2.2.2.2.2.2.2.2.2.2.2.2.2.2.2.2.2.2.2.2.2.2.2.2.2.2.2.2.1 (S.2 i).2.2.2.2.2.2.2.2.2.2.2.2.2.2.2.2.2.2.2.2.2.2.2.2.2.2.2.2.2.2.2.1 (S.2 i).2.2.2.2.2.2.2.2.2.2.2.2.2.2.2.2.2.2.2.2.2.2.2.2.2.2.2.2.2.2.2.2.1 (S.2 i).2.2.2.2.2.2.2.2.2.2.2.2.2.2.2.2.2.2.2.2.2.2.2.2.2.2.2.2.2.2.2.2.2.1 (S.2 i).2.2.2.2.2.2.2.2.2.2.2.2.2.2.2.2.2.2.2.2.2.2.2.2.2.2.2.2.2.2.2.2.2.2.1 (S.2 i).2.2.2.2.2.2.2.2.2.2.2.2.2.2.2.2.2.2.2.2.2.2.2.2.2.2.2.2.2.2.2.2.2.2.2.1 (S.2 i).2.2.2.2.2.2.2.2.2.2.2.2.2.2.2.2.2.2.2.2.2.2.2.2.2.2.2.2.2.2.2.2.2.2.2.2.1 (S.2 i).2.2.2.2.2.2.2.2.2.2.2.2.2.2.2.2.2.2.2.2.2.2.2.2.2.2.2.2.2.2.2.2.2.2.2.2.2.1 (S.2 i).2.2.2.2.2.2.2.2.2.2.2.2.2.2.2.2.2.2.2.2.2.2.2.2.2.2.2.2.2.2.2.2.2.2.2.2.2.2.1 (S.2 i).2.2.2.2.2.2.2.2.2.2.2.2.2.2.2.2.2.2.2.2.2.2.2.2.2.2.2.2.2.2.2.2.2.2.2.2.2.2.2.1 (S.2 i).2.2.2.2.2.2.2.2.2.2.2.2.2.2.2.2.2.2.2.2.2.2.2.2.2.2.2.2.2.2.2.2.2.2.2.2.2.2.2.2.1 (S.2 i).2.2.2.2.2.2.2.2.2.2.2.2.2.2.2.2.2.2.2.2.2.2.2.2.2.2.2.2.2.2.2.2.2.2.2.2.2.2.2.2.2 (jj v) (-9223372036854775808) w = some ((a, w), 0, 0)) ∧ f_Mo_last_149 nf (ii (n : Int)) (ii (i : Int)) (jj v) si' sj' sa' sb = some (a, si2, sj2, sa2, sb) ∧ QF si' si2 sj' sj2 sa' sa2 := by
        intro si' sj' sa' hv'
        obtain ⟨a, si2, sj2, sa2, g1, g2, g3⟩ := ZV.la155 (nf := nf) hnf (v := v) c k nf (nf - (n - k)) si' sj' sa' kn (fun m hm => by have := hk.2.1 m hm; omega) (by omega) (by omega) hv'
        have g4 := hv'.la155a (nf := nf) (si := si') (sj := sj') (v := v) c (k := k) (fun m h1 h2 => by have := hk.2.2 m h1 h2; omega) (nf - (n - k)) (n - k) (by omega)
        rw [show nf - (n - k) + (n - k) = nf by omega, show k + (n - k) = n by omega] at g4
        refine ⟨a, si2, sj2, sa2, fun w => ?_, ?_, g3⟩
        · unfold f_Zone_stepBelow_46
          rw [if_pos rfl, show (1 : Int64) = jj 1 from rfl, jj_sub, tu, Option.bind_some, show ii (k : Int) - 1 = ii ((k : Int) - 1) by rw [show (1 : Int32) = ii 1 from rfl, ii_sub]]
          exact g1 w
        · unfold f_Mo_last_149
          rw [show ii (n : Int) - 1 = ii ((n : Int) - 1) by rw [show (1 : Int32) = ii 1 from rfl, ii_sub], g4]
          exact g2
      unfold f_Zone_stepBelow_24 at hC
      by_cases cb : v ≤ bd
      · rw [if_pos ((jj_le (by omega) (by omega) (by omega) (by omega)).mpr cb)] at hC
        -- nothing of the rule
        have hno : ∃ (si' : Nat → Int32) (sj' : Nat → Int64) (sa' : Nat → Nat → Int32), f_Mo_last_79 nf nf 0 (jj v) (jj L) (ii (n : Int)) (ii (i : Int)) (jj v) (va_up si 3 0) sj sa sb = f_Mo_last_149 nf (ii (n : Int)) (ii (i : Int)) (jj v) si' sj' sa' sb ∧ QF (va_up si 3 0) si' sj sj' sa sa' := by
          obtain ⟨nf', hnf'⟩ : ∃ nf', nf = nf' + 3 := ⟨nf - 3, by omega⟩
          rcases hL with hL | ⟨hL, hb⟩
          · have g := mex79 (nf := nf) (si := va_up si 3 0) (sj := sj) (sa := sa) (sb := sb) (i := i) (x4 := ii (n : Int)) (x2 := jj v) (v := v) (L := L) (by omega) (by omega) (by omega) (by omega) (by omega) (Or.inr (by omega)) 0 (nf' + 2)
            rw [show nf' + 2 + 1 = nf by omega] at g
            exact ⟨_, _, _, g, QF.rf⟩
          · have ev' : v = -1152921504606846975 := by omega
            rcases hv.rul with ⟨y1, y2, y3, y4, y5, y6, y7⟩ | ⟨y1, y2, y3⟩
            · have mb' := mbelow (nf := nf) (si := va_up si 3 0) (sj := sj) (sb := sb) hnf y7 (show i < 5 by omega) (t := v) (by omega) (by omega)
              have g' := pm_le y7.2.2.1 y7.2.2.2 (v - 1)
              have pr' := pm_range y7.2.2.1 y7.2.2.2 (u := v - 1) (by omega) (by omega)
              have gen : ∀ fu, f_Mo_last_79 nf (fu + 2) 0 (jj v) (jj L) (ii (n : Int)) (ii (i : Int)) (jj v) (va_up si 3 0) sj sa sb = f_Mo_last_149 nf (ii (n : Int)) (ii (i : Int)) (jj v) (abI (va_up si 3 0) (v / 86400)) (abJ sj (v / 86400)) sa sb := by
                intro fu
                rw [f_Mo_last_79, if_neg (by decide), a5, if_neg a7, y3, if_pos rfl, i2, Option.bind_some, if_pos c, if_neg (show ¬ (1 : Int32) = 0 by decide), if_neg (show ¬ jj v ≤ jj L from fun y => by rw [jj_le (by omega) (by omega) (by omega) (by omega)] at y; omega), mb', Option.bind_some]
                dsimp only
                rw [if_neg (show ¬ jj (pmm b e (v - 1)) ≤ jj L from fun y => by rw [jj_le (by omega) (by omega) (by omega) (by omega)] at y; omega), mstep0 (by omega) (by omega) (by unfold isI; omega), Option.bind_some]
                dsimp only
                rw [if_pos rfl]
                unfold f_Mo_last_143
                rw [mex79 (by omega) (by omega) (by omega) (by omega) (by omega) (Or.inl (by unfold isI; omega))]
              have g := gen (nf' + 1)
              rw [show nf' + 1 + 2 = nf by omega] at g
              exact ⟨_, _, _, g, ab_fI _ _, ab_fJ _ _, frA.rf⟩
            · have gen : ∀ fu, f_Mo_last_79 nf (fu + 1) 0 (jj v) (jj L) (ii (n : Int)) (ii (i : Int)) (jj v) (va_up si 3 0) sj sa sb = f_Mo_last_149 nf (ii (n : Int)) (ii (i : Int)) (jj v) (va_up si 3 0) sj sa sb := by
                intro fu
                rw [f_Mo_last_79, if_neg (by decide), a5, if_neg a7, if_neg y2]
              have g := gen (nf' + 2)
              rw [show nf' + 2 + 1 = nf by omega] at g
              exact ⟨_, _, _, g, QF.rf⟩
        obtain ⟨si', sj', sa', g1, g2⟩ := hno
        obtain ⟨a, si2, sj2, sa2, t1, t2, t3⟩ := times si' sj' sa' (hv.fr g2.2.2)
        rw [t1, Option.bind_some] at hC
        rw [g1, t2] at hQ
        exact okN hi h (hput _ hnev) (g2.tr t3) hC.symm hQ.symm (kc := 0 + 0) (ks := 0 + 0) (by omega) (by omega)
      · rw [if_neg (fun y => cb ((jj_le (by omega) (by omega) (by omega) (by omega)).mp y))] at hC
        rcases hv.rul with ⟨y1, y2, y3, y4, y5, y6, y7⟩ | ⟨y1, y2, y3⟩
        · obtain ⟨f', kc, ks, g1, g2, g3, g4⟩ := cbelow hnf y5 y6 y7.2.2.1 y7.2.2.2 (u := v) (bd := bd) c hbd (by omega) (hnev y1)
          obtain ⟨si', sj', sa', m1, m2⟩ := ZV.m79 (nf := nf) hnf y1 (bd := bd) (L := L) (x4 := ii (n : Int)) (x2 := jj v) hbd hL1 hL hup 820 0 nf (v - 1) (va_up si 3 0) sj sa (by omega) (by omega) hv (by omega) (by omega)
          rw [show ii ((0 : Nat) : Int) = 0 from rfl, show v - 1 + 1 = v by omega] at m2
          have g1' : f_Rule_changeBelow nf (jj v) (jj bd) (S.2 i).2.2.2.2.2.2.2.2.2.2.2.2.2.2.2.2.2.2.1 (S.2 i).2.2.2.2.2.2.2.2.2.2.2.2.2.2.2.2.2.2.2.2.2.2.2.2.2.2.1 (S.2 i).2.2.2.2.2.2.2.2.2.2.2.2.2.2.2.2.2.2.2.2.2.2.2.2.2.2.2.2.2.2.1 (S.2 i).2.2.2.2.2.2.2.2.2.2.2.2.2.2.2.2.2.2.2.2.2.2.2.2.2.2.2.2.2.2.2.1 (S.2 i).2.2.2.2.2.2.2.2.2.2.2.2.2.2.2.2.2.2.2.2.2.2.2.2.2.2.2.2.2.2.2.2.1 (S.2 i).2.2.2.2.2.2.2.2.2.2.2.2.2.2.2.2.2.2.2.2.2.2.2.2.2.2.2.2.2.2.2.2.2.1 (S.2 i).2.2.2.2.2.2.2.2.2.2.2.2.2.2.2.2.2.2.2.2.2.2.2.2.2.2.2.2.2.2.2.2.2.2.1 (S.2 i).2.2.2.2.2.2.2.2.2.2.2.2.2.2.2.2.2.2.2.2.2.2.2.2.2.2.2.2.2.2.2.2.2.2.2.1 (S.2 i).2.2.2.2.2.2.2.2.2.2.2.2.2.2.2.2.2.2.2.2.2.2.2.2.2.2.2.2.2.2.2.2.2.2.2.2.1 (S.2 i).2.2.2.2.2.2.2.2.2.2.2.2.2.2.2.2.2.2.2.2.2.2.2.2.2.2.2.2.2.2.2.2.2.2.2.2.2.1 (S.2 i).2.2.2.2.2.2.2.2.2.2.2.2.2.2.2.2.2.2.2.2.2.2.2.2.2.2.2.2.2.2.2.2.2.2.2.2.2.2.1 (S.2 i).2.2.2.2.2.2.2.2.2.2.2.2.2.2.2.2.2.2.2.2.2.2.2.2.2.2.2.2.2.2.2.2.2.2.2.2.2.2.2.1 (S.2 i).2.2.2.2.2.2.2.2.2.2.2.2.2.2.2.2.2.2.2.2.2.2.2.2.2.2.2.2.2.2.2.2.2.2.2.2.2.2.2.2.1 (S.2 i).2.2.2.2.2.2.2.2.2.2.2.2.2.2.2.2.2.2.2.2.2.2.2.2.2.2.2.2.2.2.2.2.2.2.2.2.2.2.2.2.2 = some ((encN (scb b e bd 820 (v - 1)), f'), kc, ks) := by
            rw [y4]
            exact g1
          rw [g1', Option.bind_some] at hC
          dsimp only at hC
          rcases m2 with ⟨u, n1, n2, n3, n4⟩ | ⟨n1, n4⟩
          · rw [n4] at hQ
            rw [n1, show encN (some u) = jj u from rfl] at hC
            unfold f_Zone_stepBelow_46 at hC
            rw [if_neg (show ¬ jj u = -9223372036854775808 by rw [show (-9223372036854775808 : Int64) = jj (-9223372036854775808) from rfl, jj_eq (by omega) (by omega) (by omega) (by omega)]; omega)] at hC
            exact okN hi h (hput f' (fun _ => g2)) m1 hC.symm hQ.symm (kc := 0 + (0 + kc)) (ks := 0 + (0 + ks)) (by omega) (by omega)
          · obtain ⟨a, si2, sj2, sa2, t1, t2, t3⟩ := times si' sj' sa' (hv.fr m1.2.2)
            rw [n4, t2] at hQ
            rw [n1, show encN none = -9223372036854775808 from rfl, t1] at hC
            exact okN hi h (hput f' (fun _ => g2)) (m1.tr t3) hC.symm hQ.symm (kc := 0 + (0 + kc)) (ks := 0 + (0 + ks)) (by omega) (by omega)
        · obtain ⟨nf', hnf'⟩ : ∃ nf', nf = nf' + 1 := ⟨nf - 1, by omega⟩
          have gen : ∀ fu, f_Mo_last_79 nf (fu + 1) 0 (jj v) (jj L) (ii (n : Int)) (ii (i : Int)) (jj v) (va_up si 3 0) sj sa sb = f_Mo_last_149 nf (ii (n : Int)) (ii (i : Int)) (jj v) (va_up si 3 0) sj sa sb := by
            intro fu
            rw [f_Mo_last_79, if_neg (by decide), a5, if_neg a7, if_neg y2]
          have g := gen nf'
          rw [show nf' + 1 = nf by omega] at g
          obtain ⟨a, si2, sj2, sa2, t1, t2, t3⟩ := times (va_up si 3 0) sj sa hv
          rw [g, t2] at hQ
          have hcb : ∀ w, f_Rule_changeBelow nf (jj v) (jj bd) (S.2 i).2.2.2.2.2.2.2.2.2.2.2.2.2.2.2.2.2.2.1 w (S.2 i).2.2.2.2.2.2.2.2.2.2.2.2.2.2.2.2.2.2.2.2.2.2.2.2.2.2.2.2.2.2.1 (S.2 i).2.2.2.2.2.2.2.2.2.2.2.2.2.2.2.2.2.2.2.2.2.2.2.2.2.2.2.2.2.2.2.1 (S.2 i).2.2.2.2.2.2.2.2.2.2.2.2.2.2.2.2.2.2.2.2.2.2.2.2.2.2.2.2.2.2.2.2.1 (S.2 i).2.2.2.2.2.2.2.2.2.2.2.2.2.2.2.2.2.2.2.2.2.2.2.2.2.2.2.2.2.2.2.2.2.1 (S.2 i).2.2.2.2.2.2.2.2.2.2.2.2.2.2.2.2.2.2.2.2.2.2.2.2.2.2.2.2.2.2.2.2.2.2.1 (S.2 i).2.2.2.2.2.2.2.2.2.2.2.2.2.2.2.2.2.2.2.2.2.2.2.2.2.2.2.2.2.2.2.2.2.2.2.1 (S.2 i).2.2.2.2.2.2.2.2.2.2.2.2.2.2.2.2.2.2.2.2.2.2.2.2.2.2.2.2.2.2.2.2.2.2.2.2.1 (S.2 i).2.2.2.2.2.2.2.2.2.2.2.2.2.2.2.2.2.2.2.2.2.2.2.2.2.2.2.2.2.2.2.2.2.2.2.2.2.1 (S.2 i).2.2.2.2.2.2.2.2.2.2.2.2.2.2.2.2.2.2.2.2.2.2.2.2.2.2.2.2.2.2.2.2.2.2.2.2.2.2.1 (S.2 i).2.2.2.2.2.2.2.2.2.2.2.2.2.2.2.2.2.2.2.2.2.2.2.2.2.2.2.2.2.2.2.2.2.2.2.2.2.2.2.1 (S.2 i).2.2.2.2.2.2.2.2.2.2.2.2.2.2.2.2.2.2.2.2.2.2.2.2.2.2.2.2.2.2.2.2.2.2.2.2.2.2.2.2.1 (S.2 i).2.2.2.2.2.2.2.2.2.2.2.2.2.2.2.2.2.2.2.2.2.2.2.2.2.2.2.2.2.2.2.2.2.2.2.2.2.2.2.2.2 = some ((-9223372036854775808, w), 0, 0) := by
            intro w
            unfold f_Rule_changeBelow f_Rule_changeBelow_0
            rw [y3, if_pos rfl]
            rfl
          rw [hcb, Option.bind_some] at hC
          dsimp only at hC
          rw [t1] at hC
          exact okN hi h (hput _ hnev) t3 hC.symm hQ.symm (kc := 0 + (0 + 0)) (ks := 0 + (0 + 0)) (by omega) (by omega)
    · obtain ⟨k1, k2⟩ := cchkN nf v1 v2 c
      rw [k1, k2] at hC
      rw [if_neg c, if_pos rfl] at hQ
      exact noJ h 2 (by decide) hC.symm hQ.symm
  · rw [(hz nf).2.2, Option.bind_some, if_neg (by decide)] at hQ
    rw [(hz nf).1, (hz nf).2.1] at hC
    exact noJ h 1 (by decide) hC.symm hQ.symm
