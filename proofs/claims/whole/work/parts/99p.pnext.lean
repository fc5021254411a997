/-! ===== next ===== -/
section
variable {nf : Nat} {z : ZS} {si : Nat → Int32} {sj : Nat → Int64} {sa : Nat → Nat → Int32} {sb : Nat → Nat → Int64} {i n t r : Nat} {tm : Nat → Int} {tt : Nat → Nat} {hs : Bool} {b e : ET} {O D : Int → Int} {Z : Int → Nat} {B : Int → Nat → Int32}
theorem ZV.rul (h : ZV z sa sb i n t r tm tt hs b e O D Z B) : (hs = true ∧ 0 < r ∧ sa 23 i = 2 ∧ z.2.2.2.2.2.2.2.2.2.2.2.2.2.2.2.2.2.2.1 = 1 ∧ REc z.2.2.2.2.2.2.2.2.2.2.2.2.2.2.2.2.2.2.2.2.2.2.2.2.2.2.2.2.2.2.1 z.2.2.2.2.2.2.2.2.2.2.2.2.2.2.2.2.2.2.2.2.2.2.2.2.2.2.2.2.2.2.2.1 z.2.2.2.2.2.2.2.2.2.2.2.2.2.2.2.2.2.2.2.2.2.2.2.2.2.2.2.2.2.2.2.2.1 z.2.2.2.2.2.2.2.2.2.2.2.2.2.2.2.2.2.2.2.2.2.2.2.2.2.2.2.2.2.2.2.2.2.1 z.2.2.2.2.2.2.2.2.2.2.2.2.2.2.2.2.2.2.2.2.2.2.2.2.2.2.2.2.2.2.2.2.2.2.1 z.2.2.2.2.2.2.2.2.2.2.2.2.2.2.2.2.2.2.2.2.2.2.2.2.2.2.2.2.2.2.2.2.2.2.2.1 b ∧ REc z.2.2.2.2.2.2.2.2.2.2.2.2.2.2.2.2.2.2.2.2.2.2.2.2.2.2.2.2.2.2.2.2.2.2.2.2.1 z.2.2.2.2.2.2.2.2.2.2.2.2.2.2.2.2.2.2.2.2.2.2.2.2.2.2.2.2.2.2.2.2.2.2.2.2.2.1 z.2.2.2.2.2.2.2.2.2.2.2.2.2.2.2.2.2.2.2.2.2.2.2.2.2.2.2.2.2.2.2.2.2.2.2.2.2.2.1 z.2.2.2.2.2.2.2.2.2.2.2.2.2.2.2.2.2.2.2.2.2.2.2.2.2.2.2.2.2.2.2.2.2.2.2.2.2.2.2.1 z.2.2.2.2.2.2.2.2.2.2.2.2.2.2.2.2.2.2.2.2.2.2.2.2.2.2.2.2.2.2.2.2.2.2.2.2.2.2.2.2.1 z.2.2.2.2.2.2.2.2.2.2.2.2.2.2.2.2.2.2.2.2.2.2.2.2.2.2.2.2.2.2.2.2.2.2.2.2.2.2.2.2.2 e ∧ REb sa i b e) ∨ (hs = false ∧ ¬ sa 23 i = 2 ∧ z.2.2.2.2.2.2.2.2.2.2.2.2.2.2.2.2.2.2.1 = 0) := by
  rcases h.2.1.2.2 with ⟨q0, q1, q2, q3⟩ | ⟨q0, q1, q2, q3⟩ | ⟨q0, q1, q2, q3, q4, q5, q6⟩
  · exact Or.inr ⟨q3, by rw [q1]; decide, q2⟩
  · exact Or.inr ⟨q1, by rw [q2]; decide, q3⟩
  · exact Or.inl ⟨q1, q0, q2, q3, q4, q5, q6⟩
theorem ZV.smr (h : ZV z sa sb i n t r tm tt hs b e O D Z B) (hr : 0 < r) (hh : hs = true) (s1 s2 : Bool) : sm O D Z B (if s1 = true then -2 else -1) (if s2 = true then -2 else -1) ↔ s1 = s2 := by
  have d1 : D (-1) = 0 := (h.2.2.2.2.1 hr).2.1
  have d2 : D (-2) = 1 := (h.2.2.2.2.2 hr hh).2.1
  cases s1 <;> cases s2
  · exact ⟨fun _ => rfl, fun _ => sm.rf _⟩
  · refine ⟨fun y => ?_, fun y => (by cases y)⟩
    rw [if_neg (by decide), if_pos rfl] at y
    rcases y with ⟨y, _⟩ | ⟨_, _, _, y, _⟩
    · omega
    · rw [d1, d2] at y
      omega
  · refine ⟨fun y => ?_, fun y => (by cases y)⟩
    rw [if_pos rfl, if_neg (by decide)] at y
    rcases y with ⟨y, _⟩ | ⟨_, _, _, y, _⟩
    · omega
    · rw [d1, d2] at y
      omega
  · exact ⟨fun _ => rfl, fun _ => sm.rf _⟩
theorem stI_n (hr : 0 < r) (s : Bool) : stI n r tt s n = if s = true then -2 else -1 := by
  unfold stI
  rw [if_neg (by omega), if_pos hr]
theorem ZV.rstep (h : ZV z sa sb i n t r tm tt hs b e O D Z B) (hnf : 10000 ≤ nf) (hr : 0 < r) (hh : hs = true) {v : Int} (v1 : isI v) (v2 : isI (v - 1)) (hu : upto n tm (v - 1) n) : ∃ (q : Bool) (si' : Nat → Int32) (sj' : Nat → Int64) (sa' : Nat → Nat → Int32), (q = true ↔ suB b e (v - 1) = suB b e v) ∧ f_Mo_isStep nf (ii (i : Int)) (jj v) si sj sa sb = some (bI (!q), si', sj', sa', sb) ∧ QF si si' sj sj' sa sa' := by
  obtain ⟨q, si', sj', sa', q1, q2, q3⟩ := h.mstep (nf := nf) (si := si) (sj := sj) hnf v1 v2 hu (k2 := n) ⟨by omega, fun m hm => by have := hu.2.1 m hm; omega, fun m h1 h2 => by omega⟩
  rw [stI_n hr, stI_n hr, h.smr hr hh, hh] at q1
  exact ⟨q, si', sj', sa', q1, q2, q3⟩
theorem ZV.m115 (hnf : 10000 ≤ nf) (hh : hs = true) : ∀ (d k fu : Nat) (u : Int) (si : Nat → Int32) (sj : Nat → Int64) (sa : Nat → Nat → Int32), k + d = 820 → d < fu → ZV z sa sb i n t r tm tt hs b e O D Z B → isI u → upto n tm u n → ∃ (si' : Nat → Int32) (sj' : Nat → Int64) (sa' : Nat → Nat → Int32), f_Mo_next_115 nf fu (ii (k : Int)) (jj u) (ii (i : Int)) si sj sa sb = some (encN (scn b e d u), si', sj', sa', sb) ∧ QF si si' sj sj' sa sa' := by
  intro d
  induction d with
  | zero =>
    intro k fu u si sj sa hk hf h hu hup
    obtain ⟨f, rfl⟩ : ∃ f, fu = f + 1 := ⟨fu - 1, by omega⟩
    obtain rfl : k = 820 := by omega
    rw [f_Mo_next_115, if_pos (by decide)]
    exact ⟨si, sj, sa, rfl, QF.rf⟩
  | succ d ih =>
    intro k fu u si sj sa hk hf h hu hup
    obtain ⟨f, rfl⟩ : ∃ f, fu = f + 1 := ⟨fu - 1, by omega⟩
    obtain ⟨_, hr, h23, _, _, _, hreb⟩ : hs = true ∧ 0 < r ∧ sa 23 i = 2 ∧ z.2.2.2.2.2.2.2.2.2.2.2.2.2.2.2.2.2.2.1 = 1 ∧ REc z.2.2.2.2.2.2.2.2.2.2.2.2.2.2.2.2.2.2.2.2.2.2.2.2.2.2.2.2.2.2.1 z.2.2.2.2.2.2.2.2.2.2.2.2.2.2.2.2.2.2.2.2.2.2.2.2.2.2.2.2.2.2.2.1 z.2.2.2.2.2.2.2.2.2.2.2.2.2.2.2.2.2.2.2.2.2.2.2.2.2.2.2.2.2.2.2.2.1 z.2.2.2.2.2.2.2.2.2.2.2.2.2.2.2.2.2.2.2.2.2.2.2.2.2.2.2.2.2.2.2.2.2.1 z.2.2.2.2.2.2.2.2.2.2.2.2.2.2.2.2.2.2.2.2.2.2.2.2.2.2.2.2.2.2.2.2.2.2.1 z.2.2.2.2.2.2.2.2.2.2.2.2.2.2.2.2.2.2.2.2.2.2.2.2.2.2.2.2.2.2.2.2.2.2.2.1 b ∧ REc z.2.2.2.2.2.2.2.2.2.2.2.2.2.2.2.2.2.2.2.2.2.2.2.2.2.2.2.2.2.2.2.2.2.2.2.2.1 z.2.2.2.2.2.2.2.2.2.2.2.2.2.2.2.2.2.2.2.2.2.2.2.2.2.2.2.2.2.2.2.2.2.2.2.2.2.1 z.2.2.2.2.2.2.2.2.2.2.2.2.2.2.2.2.2.2.2.2.2.2.2.2.2.2.2.2.2.2.2.2.2.2.2.2.2.2.1 z.2.2.2.2.2.2.2.2.2.2.2.2.2.2.2.2.2.2.2.2.2.2.2.2.2.2.2.2.2.2.2.2.2.2.2.2.2.2.2.1 z.2.2.2.2.2.2.2.2.2.2.2.2.2.2.2.2.2.2.2.2.2.2.2.2.2.2.2.2.2.2.2.2.2.2.2.2.2.2.2.2.1 z.2.2.2.2.2.2.2.2.2.2.2.2.2.2.2.2.2.2.2.2.2.2.2.2.2.2.2.2.2.2.2.2.2.2.2.2.2.2.2.2.2 e ∧ REb sa i b e := by
      rcases h.rul with q | ⟨q, _⟩
      · exact q
      · rw [hh] at q
        cases q
    have hi := h.1.1
    have ei : (ii (i : Int)).toNatClampNeg = i := by rw [ii_nat (by omega) (by omega)]; omega
    have ni : ¬ (ii (i : Int) < 0 ∨ 5 ≤ i) := by rw [ii_lit, ii_lt (by omega) (by omega) (by omega) (by omega)]; omega
    unfold isI at hu
    obtain ⟨_, i2⟩ := cinst nf (v := u) (by omega) (by omega)
    have nk : ¬ (820 : Int32) ≤ ii (k : Int) := by rw [ii_lit, ii_le (by omega) (by omega) (by omega) (by omega)]; omega
    have ob := hreb.2.2.1
    have oe := hreb.2.2.2
    have g := nx_gt ob oe u
    have nr := nx_range ob oe (u := u) (by omega) (by omega)
    generalize hF : f_Mo_next_115 nf (f + 1) (ii (k : Int)) (jj u) (ii (i : Int)) si sj sa sb = F
    rw [f_Mo_next_115, if_neg nk, ei, if_neg ni, h23, if_pos rfl, i2, Option.bind_some, if_pos hu, if_neg (show ¬ (1 : Int32) = 0 by decide), mabove hnf hreb hi (by omega) (by omega), Option.bind_some] at hF
    dsimp only at hF
    have qf0 : QF si (abI si (u / 86400)) sj (abJ sj (u / 86400)) sa sa := ⟨ab_fI si _, ab_fJ sj _, frA.rf⟩
    rw [scn_s]
    by_cases c : nxm b e u ≤ 1152921504606846975
    · rw [if_pos c]
      obtain ⟨q, si', sj', sa', q1, q2, q3⟩ := h.rstep (nf := nf) (si := abI si (u / 86400)) (sj := abJ sj (u / 86400)) hnf hr hh (v := nxm b e u) (by unfold isI; omega) (by unfold isI; omega) ⟨by omega, fun m hm => by have := hup.2.1 m hm; omega, fun m h1 h2 => by omega⟩
      rw [su_nx ob oe (t := u) (u := nxm b e u - 1) (by omega) (by omega)] at q1
      rw [q2, Option.bind_some] at hF
      dsimp only at hF
      by_cases s : suB b e (nxm b e u) = suB b e u
      · rw [if_pos s]
        obtain rfl : q = true := q1.mpr s.symm
        rw [if_pos (show bI (!true) = 0 from rfl), iiS] at hF
        obtain ⟨si2, sj2, sa2, r1, r2⟩ := ih (k + 1) f (nxm b e u) si' sj' sa' (by omega) (by omega) (h.fr q3.2.2) (by unfold isI; omega) ⟨by omega, fun m hm => by have := hup.2.1 m hm; omega, fun m h1 h2 => by omega⟩
        exact ⟨si2, sj2, sa2, hF.symm.trans r1, qf0.tr (q3.tr r2)⟩
      · rw [if_neg s]
        cases q with
        | true => exact absurd (q1.mp rfl).symm s
        | false =>
          rw [if_neg (show ¬ bI (!false) = 0 by decide)] at hF
          exact ⟨si', sj', sa', hF.symm, qf0.tr q3⟩
    · rw [if_neg c]
      rw [mstep0 (by omega) (by omega) (by unfold isI; omega), Option.bind_some] at hF
      dsimp only at hF
      rw [if_pos rfl, iiS] at hF
      obtain ⟨f', rfl⟩ : ∃ f', f = f' + 1 := ⟨f - 1, by omega⟩
      refine ⟨_, _, sa, ?_, qf0⟩
      rw [← hF, f_Mo_next_115]
      by_cases c8 : (820 : Int32) ≤ ii ((k + 1 : Nat) : Int)
      · rw [if_pos c8]
        rfl
      · obtain ⟨_, i3⟩ := cinst nf (v := nxm b e u) (by omega) (by omega)
        rw [if_neg c8, ei, if_neg ni, h23, if_pos rfl, i3, Option.bind_some, if_neg (show ¬ (-1152921504606846975 ≤ nxm b e u ∧ nxm b e u ≤ 1152921504606846975) by omega), if_pos rfl]
        rfl
/-- the class's look at time j -/
theorem ZV.stepC (h : ZV z sa sb i n t r tm tt hs b e O D Z B) (hnf : 10000 ≤ nf) {j : Nat} (hj : j < n) : ∃ (p : Bool) (g2 : Int), (p = true ↔ stpP n r tm tt hs b e O D Z B j) ∧ f_Zone_stateAt nf (jj (tm j)) z.2.1 z.2.2.2.2.2.2.1 z.2.2.2.2.2.2.2.1 z.2.2.2.2.2.2.2.2.2.2.2.2.2.2.2.2.2.2.1 z.2.2.2.2.2.2.2.2.2.2.2.2.2.2.2.2.2.2.2.2.2.2.2.2.2.2.2.1 z.2.2.2.2.2.2.2.2.2.2.2.2.2.2.2.2.2.2.2.2.2.2.2.2.2.2.2.2.2.2.1 z.2.2.2.2.2.2.2.2.2.2.2.2.2.2.2.2.2.2.2.2.2.2.2.2.2.2.2.2.2.2.2.1 z.2.2.2.2.2.2.2.2.2.2.2.2.2.2.2.2.2.2.2.2.2.2.2.2.2.2.2.2.2.2.2.2.1 z.2.2.2.2.2.2.2.2.2.2.2.2.2.2.2.2.2.2.2.2.2.2.2.2.2.2.2.2.2.2.2.2.2.1 z.2.2.2.2.2.2.2.2.2.2.2.2.2.2.2.2.2.2.2.2.2.2.2.2.2.2.2.2.2.2.2.2.2.2.1 z.2.2.2.2.2.2.2.2.2.2.2.2.2.2.2.2.2.2.2.2.2.2.2.2.2.2.2.2.2.2.2.2.2.2.2.1 z.2.2.2.2.2.2.2.2.2.2.2.2.2.2.2.2.2.2.2.2.2.2.2.2.2.2.2.2.2.2.2.2.2.2.2.2.1 z.2.2.2.2.2.2.2.2.2.2.2.2.2.2.2.2.2.2.2.2.2.2.2.2.2.2.2.2.2.2.2.2.2.2.2.2.2.1 z.2.2.2.2.2.2.2.2.2.2.2.2.2.2.2.2.2.2.2.2.2.2.2.2.2.2.2.2.2.2.2.2.2.2.2.2.2.2.1 z.2.2.2.2.2.2.2.2.2.2.2.2.2.2.2.2.2.2.2.2.2.2.2.2.2.2.2.2.2.2.2.2.2.2.2.2.2.2.2.1 z.2.2.2.2.2.2.2.2.2.2.2.2.2.2.2.2.2.2.2.2.2.2.2.2.2.2.2.2.2.2.2.2.2.2.2.2.2.2.2.2.1 z.2.2.2.2.2.2.2.2.2.2.2.2.2.2.2.2.2.2.2.2.2.2.2.2.2.2.2.2.2.2.2.2.2.2.2.2.2.2.2.2.2 = some (ii g2) ∧ f_Zone_beginsOther nf (ii (j : Int)) (ii g2) z.2.1 z.2.2.1 z.2.2.2.2.2.2.1 z.2.2.2.2.2.2.2.1 z.2.2.2.2.2.2.2.2.1 z.2.2.2.2.2.2.2.2.2.1 z.2.2.2.2.2.2.2.2.2.2.1 z.2.2.2.2.2.2.2.2.2.2.2.2.2.1 z.2.2.2.2.2.2.2.2.2.2.2.2.2.2.1 z.2.2.2.2.2.2.2.2.2.2.2.2.2.2.2.1 z.2.2.2.2.2.2.2.2.2.2.2.2.2.2.2.2.2.2.2.2.1 z.2.2.2.2.2.2.2.2.2.2.2.2.2.2.2.2.2.2.2.2.2.1 z.2.2.2.2.2.2.2.2.2.2.2.2.2.2.2.2.2.2.2.2.2.2.1 z.2.2.2.2.2.2.2.2.2.2.2.2.2.2.2.2.2.2.2.2.2.2.2.1 z.2.2.2.2.2.2.2.2.2.2.2.2.2.2.2.2.2.2.2.2.2.2.2.2.1 z.2.2.2.2.2.2.2.2.2.2.2.2.2.2.2.2.2.2.2.2.2.2.2.2.2.1 z.2.2.2.2.2.2.2.2.2.2.2.2.2.2.2.2.2.2.2.2.2.2.2.2.2.2.2.1 z.2.2.2.2.2.2.2.2.2.2.2.2.2.2.2.2.2.2.2.2.2.2.2.2.2.2.2.2.1 z.2.2.2.2.2.2.2.2.2.2.2.2.2.2.2.2.2.2.2.2.2.2.2.2.2.2.2.2.2.1 = some (bI p) := by
  obtain ⟨_, _, v1, _⟩ := h.1.2.2.2.2.2.2.2.2.1 j hj
  have cs := h.cstate hnf v1 (h.upt hj)
  obtain ⟨p, p1, p2⟩ := h.cbeg hnf hj (h.stg (tm j) (show j + 1 ≤ n by omega))
  exact ⟨p, _, p1, cs, p2⟩
theorem ZV.nx43 (hnf : 10000 ≤ nf) {v : Int} (hv : isI v) {k : Nat} (hk : upto n tm v k) : ∀ (d j fu fu' : Nat) (F : Int) (si : Nat → Int32) (sj : Nat → Int64) (sa : Nat → Nat → Int32), j + d = n → k ≤ j → d < fu → d < fu' → ZV z sa sb i n t r tm tt hs b e O D Z B → F = (if k < j then tm (j - 1) else v) →
    (∃ (p : Nat) (si' : Nat → Int32) (sj' : Nat → Int64) (sa' : Nat → Nat → Int32), p < n ∧ (∀ w, f_Zone_stepAbove_6 nf z.2.1 z.2.2.1 z.2.2.2.2.2.2.1 z.2.2.2.2.2.2.2.1 z.2.2.2.2.2.2.2.2.1 z.2.2.2.2.2.2.2.2.2.1 z.2.2.2.2.2.2.2.2.2.2.1 z.2.2.2.2.2.2.2.2.2.2.2.2.2.1 z.2.2.2.2.2.2.2.2.2.2.2.2.2.2.1 z.2.2.2.2.2.2.2.2.2.2.2.2.2.2.2.1 z.2.2.2.2.2.2.2.2.2.2.2.2.2.2.2.2.2.2.1 z.2.2.2.2.2.2.2.2.2.2.2.2.2.2.2.2.2.2.2.2.1 z.2.2.2.2.2.2.2.2.2.2.2.2.2.2.2.2.2.2.2.2.2.1 z.2.2.2.2.2.2.2.2.2.2.2.2.2.2.2.2.2.2.2.2.2.2.1 z.2.2.2.2.2.2.2.2.2.2.2.2.2.2.2.2.2.2.2.2.2.2.2.1 z.2.2.2.2.2.2.2.2.2.2.2.2.2.2.2.2.2.2.2.2.2.2.2.2.1 z.2.2.2.2.2.2.2.2.2.2.2.2.2.2.2.2.2.2.2.2.2.2.2.2.2.1 z.2.2.2.2.2.2.2.2.2.2.2.2.2.2.2.2.2.2.2.2.2.2.2.2.2.2.2.1 z.2.2.2.2.2.2.2.2.2.2.2.2.2.2.2.2.2.2.2.2.2.2.2.2.2.2.2.2.1 z.2.2.2.2.2.2.2.2.2.2.2.2.2.2.2.2.2.2.2.2.2.2.2.2.2.2.2.2.2.1 z.2.2.2.2.2.2.2.2.2.2.2.2.2.2.2.2.2.2.2.2.2.2.2.2.2.2.2.2.2.2.1 z.2.2.2.2.2.2.2.2.2.2.2.2.2.2.2.2.2.2.2.2.2.2.2.2.2.2.2.2.2.2.2.1 z.2.2.2.2.2.2.2.2.2.2.2.2.2.2.2.2.2.2.2.2.2.2.2.2.2.2.2.2.2.2.2.2.1 z.2.2.2.2.2.2.2.2.2.2.2.2.2.2.2.2.2.2.2.2.2.2.2.2.2.2.2.2.2.2.2.2.2.1 z.2.2.2.2.2.2.2.2.2.2.2.2.2.2.2.2.2.2.2.2.2.2.2.2.2.2.2.2.2.2.2.2.2.2.1 z.2.2.2.2.2.2.2.2.2.2.2.2.2.2.2.2.2.2.2.2.2.2.2.2.2.2.2.2.2.2.2.2.2.2.2.1 z.2.2.2.2.2.2.2.2.2.2.2.2.2.2.2.2.2.2.2.2.2.2.2.2.2.2.2.2.2.2.2.2.2.2.2.2.1 z.2.2.2.2.2.2.2.2.2.2.2.2.2.2.2.2.2.2.2.2.2.2.2.2.2.2.2.2.2.2.2.2.2.2.2.2.2.1 z.2.2.2.2.2.2.2.2.2.2.2.2.2.2.2.2.2.2.2.2.2.2.2.2.2.2.2.2.2.2.2.2.2.2.2.2.2.2.1 z.2.2.2.2.2.2.2.2.2.2.2.2.2.2.2.2.2.2.2.2.2.2.2.2.2.2.2.2.2.2.2.2.2.2.2.2.2.2.2.1 z.2.2.2.2.2.2.2.2.2.2.2.2.2.2.2.2.2.2.2.2.2.2.2.2.2.2.2.2.2.2.2.2.2.2.2.2.2.2.2.2.1 z.2.2.2.2.2.2.2.2.2.2.2.2.2.2.2.2.2.2.2.2.2.2.2.2.2.2.2.2.2.2.2.2.2.2.2.2.2.2.2.2.2 fu (ii (j : Int)) (jj v) w = some ((jj (tm p), w), 0, 0)) ∧ f_Mo_next_43 nf fu' (ii (j : Int)) (jj F) (ii (i : Int)) (jj v) si sj sa sb = some (jj (tm p), si', sj', sa', sb) ∧ QF si si' sj sj' sa sa') ∨
    (∃ (F' : Int) (si' : Nat → Int32) (sj' : Nat → Int64) (sa' : Nat → Nat → Int32), isI F' ∧ upto n tm F' n ∧ (∀ w, f_Zone_stepAbove_6 nf z.2.1 z.2.2.1 z.2.2.2.2.2.2.1 z.2.2.2.2.2.2.2.1 z.2.2.2.2.2.2.2.2.1 z.2.2.2.2.2.2.2.2.2.1 z.2.2.2.2.2.2.2.2.2.2.1 z.2.2.2.2.2.2.2.2.2.2.2.2.2.1 z.2.2.2.2.2.2.2.2.2.2.2.2.2.2.1 z.2.2.2.2.2.2.2.2.2.2.2.2.2.2.2.1 z.2.2.2.2.2.2.2.2.2.2.2.2.2.2.2.2.2.2.1 z.2.2.2.2.2.2.2.2.2.2.2.2.2.2.2.2.2.2.2.2.1 z.2.2.2.2.2.2.2.2.2.2.2.2.2.2.2.2.2.2.2.2.2.1 z.2.2.2.2.2.2.2.2.2.2.2.2.2.2.2.2.2.2.2.2.2.2.1 z.2.2.2.2.2.2.2.2.2.2.2.2.2.2.2.2.2.2.2.2.2.2.2.1 z.2.2.2.2.2.2.2.2.2.2.2.2.2.2.2.2.2.2.2.2.2.2.2.2.1 z.2.2.2.2.2.2.2.2.2.2.2.2.2.2.2.2.2.2.2.2.2.2.2.2.2.1 z.2.2.2.2.2.2.2.2.2.2.2.2.2.2.2.2.2.2.2.2.2.2.2.2.2.2.2.1 z.2.2.2.2.2.2.2.2.2.2.2.2.2.2.2.2.2.2.2.2.2.2.2.2.2.2.2.2.1 z.2.2.2.2.2.2.2.2.2.2.2.2.2.2.2.2.2.2.2.2.2.2.2.2.2.2.2.2.2.1 z.2.2.2.2.2.2.2.2.2.2.2.2.2.2.2.2.2.2.2.2.2.2.2.2.2.2.2.2.2.2.1 z.2.2.2.2.2.2.2.2.2.2.2.2.2.2.2.2.2.2.2.2.2.2.2.2.2.2.2.2.2.2.2.1 z.2.2.2.2.2.2.2.2.2.2.2.2.2.2.2.2.2.2.2.2.2.2.2.2.2.2.2.2.2.2.2.2.1 z.2.2.2.2.2.2.2.2.2.2.2.2.2.2.2.2.2.2.2.2.2.2.2.2.2.2.2.2.2.2.2.2.2.1 z.2.2.2.2.2.2.2.2.2.2.2.2.2.2.2.2.2.2.2.2.2.2.2.2.2.2.2.2.2.2.2.2.2.2.1 z.2.2.2.2.2.2.2.2.2.2.2.2.2.2.2.2.2.2.2.2.2.2.2.2.2.2.2.2.2.2.2.2.2.2.2.1 z.2.2.2.2.2.2.2.2.2.2.2.2.2.2.2.2.2.2.2.2.2.2.2.2.2.2.2.2.2.2.2.2.2.2.2.2.1 z.2.2.2.2.2.2.2.2.2.2.2.2.2.2.2.2.2.2.2.2.2.2.2.2.2.2.2.2.2.2.2.2.2.2.2.2.2.1 z.2.2.2.2.2.2.2.2.2.2.2.2.2.2.2.2.2.2.2.2.2.2.2.2.2.2.2.2.2.2.2.2.2.2.2.2.2.2.1 z.2.2.2.2.2.2.2.2.2.2.2.2.2.2.2.2.2.2.2.2.2.2.2.2.2.2.2.2.2.2.2.2.2.2.2.2.2.2.2.1 z.2.2.2.2.2.2.2.2.2.2.2.2.2.2.2.2.2.2.2.2.2.2.2.2.2.2.2.2.2.2.2.2.2.2.2.2.2.2.2.2.1 z.2.2.2.2.2.2.2.2.2.2.2.2.2.2.2.2.2.2.2.2.2.2.2.2.2.2.2.2.2.2.2.2.2.2.2.2.2.2.2.2.2 fu (ii (j : Int)) (jj v) w = f_Zone_stepAbove_75 nf z.2.2.2.2.2.2.2.2.2.2.2.2.2.2.2.2.2.2.1 z.2.2.2.2.2.2.2.2.2.2.2.2.2.2.2.2.2.2.2.2.2.2.2.2.2.2.2.2.2.2.1 z.2.2.2.2.2.2.2.2.2.2.2.2.2.2.2.2.2.2.2.2.2.2.2.2.2.2.2.2.2.2.2.1 z.2.2.2.2.2.2.2.2.2.2.2.2.2.2.2.2.2.2.2.2.2.2.2.2.2.2.2.2.2.2.2.2.1 z.2.2.2.2.2.2.2.2.2.2.2.2.2.2.2.2.2.2.2.2.2.2.2.2.2.2.2.2.2.2.2.2.2.1 z.2.2.2.2.2.2.2.2.2.2.2.2.2.2.2.2.2.2.2.2.2.2.2.2.2.2.2.2.2.2.2.2.2.2.1 z.2.2.2.2.2.2.2.2.2.2.2.2.2.2.2.2.2.2.2.2.2.2.2.2.2.2.2.2.2.2.2.2.2.2.2.1 z.2.2.2.2.2.2.2.2.2.2.2.2.2.2.2.2.2.2.2.2.2.2.2.2.2.2.2.2.2.2.2.2.2.2.2.2.1 z.2.2.2.2.2.2.2.2.2.2.2.2.2.2.2.2.2.2.2.2.2.2.2.2.2.2.2.2.2.2.2.2.2.2.2.2.2.1 z.2.2.2.2.2.2.2.2.2.2.2.2.2.2.2.2.2.2.2.2.2.2.2.2.2.2.2.2.2.2.2.2.2.2.2.2.2.2.1 z.2.2.2.2.2.2.2.2.2.2.2.2.2.2.2.2.2.2.2.2.2.2.2.2.2.2.2.2.2.2.2.2.2.2.2.2.2.2.2.1 z.2.2.2.2.2.2.2.2.2.2.2.2.2.2.2.2.2.2.2.2.2.2.2.2.2.2.2.2.2.2.2.2.2.2.2.2.2.2.2.2.1 z.2.2.2.2.2.2.2.2.2.2.2.2.2.2.2.2.2.2.2.2.2.2.2.2.2.2.2.2.2.2.2.2.2.2.2.2.2.2.2.2.2 (jj F') w) ∧ f_Mo_next_43 nf fu' (ii (j : Int)) (jj F) (ii (i : Int)) (jj v) si sj sa sb = f_Mo_next_115 nf nf 0 (jj F') (ii (i : Int)) si' sj' sa' sb ∧ QF si si' sj sj' sa sa') := by
  have hvI := hv
  unfold isI at hvI
  intro d
  induction d with
  | zero =>
    intro j fu fu' F si sj sa hj hkj hf hf' h hF
    obtain ⟨f, rfl⟩ : ∃ f, fu = f + 1 := ⟨fu - 1, by omega⟩
    obtain ⟨f', rfl⟩ : ∃ f', fu' = f' + 1 := ⟨fu' - 1, by omega⟩
    obtain rfl : j = n := by omega
    have hn := h.1.2.1
    have hi := h.1.1
    have v5 := h.1.2.2.2.2.1
    have v6 := h.1.2.2.2.2.2.1
    have ei : (ii (i : Int)).toNatClampNeg = i := by rw [ii_nat (by omega) (by omega)]; omega
    have ni : ¬ (ii (i : Int) < 0 ∨ 5 ≤ i) := by rw [ii_lit, ii_lt (by omega) (by omega) (by omega) (by omega)]; omega
    have le : ii (j : Int) ≤ ii (j : Int) := iple (c := 0) (d := 0) (by omega) (by omega)
    have hup : upto j tm F j := by
      refine ⟨by omega, fun m hm => ?_, fun m h1 h2 => by omega⟩
      rw [hF]
      by_cases c : k < j
      · rw [if_pos c]
        by_cases c' : m = j - 1
        · rw [c']; omega
        · have := h.lt (show m < j - 1 by omega) (by omega)
          omega
      · rw [if_neg c]
        exact hk.2.1 m (by omega)
    have hI : isI F := by
      rw [hF]
      by_cases c : k < j
      · rw [if_pos c]
        exact (h.1.2.2.2.2.2.2.2.2.1 (j - 1) (by omega)).2.2.1
      · rw [if_neg c]
        exact hv
    refine Or.inr ⟨F, si, sj, sa, hI, hup, fun w => ?_, ?_, QF.rf⟩
    · rw [f_Zone_stepAbove_6, v5, if_pos le]
      by_cases n0 : j = 0
      · subst n0
        rw [if_pos (by decide), hF, if_neg (by omega)]
      · obtain ⟨i1, i2⟩ := nidx (k := j - 1) (m := 200) (by omega) (by omega)
        obtain ⟨w1, _, w3, _⟩ := h.1.2.2.2.2.2.2.2.2.1 (j - 1) (by omega)
        unfold isI at w3
        rw [if_neg (show ¬ ii (j : Int) ≤ 0 by rw [ii_lit, ii_le (by omega) (by omega) (by omega) (by omega)]; omega), show ii (j : Int) - 1 = ii ((j - 1 : Nat) : Int) by rw [ii_lit, ii_sub, show (j : Int) - 1 = ((j - 1 : Nat) : Int) by omega], i1, if_neg i2, w1, hF]
        by_cases c : k < j
        · have := hk.2.2 (j - 1) (by omega) (by omega)
          rw [if_pos c, if_neg (fun y => by rw [jj_lt (by omega) (by omega) (by omega) (by omega)] at y; omega)]
        · have := hk.2.1 (j - 1) (by omega)
          rw [if_neg c]
          by_cases c' : tm (j - 1) < v
          · rw [if_pos ((jj_lt (by omega) (by omega) (by omega) (by omega)).mpr c')]
          · rw [if_neg (fun y => c' ((jj_lt (by omega) (by omega) (by omega) (by omega)).mp y)), show tm (j - 1) = v by omega]
    · rw [f_Mo_next_43, ei, if_neg ni, v6, if_pos le]
  | succ d ih =>
    intro j fu fu' F si sj sa hj hkj hf hf' h hF
    obtain ⟨f, rfl⟩ : ∃ f, fu = f + 1 := ⟨fu - 1, by omega⟩
    obtain ⟨f', rfl⟩ : ∃ f', fu' = f' + 1 := ⟨fu' - 1, by omega⟩
    have hn := h.1.2.1
    have hi := h.1.1
    have v5 := h.1.2.2.2.2.1
    have v6 := h.1.2.2.2.2.2.1
    have ei : (ii (i : Int)).toNatClampNeg = i := by rw [ii_nat (by omega) (by omega)]; omega
    have ni : ¬ (ii (i : Int) < 0 ∨ 5 ≤ i) := by rw [ii_lit, ii_lt (by omega) (by omega) (by omega) (by omega)]; omega
    have lt : j < n := by omega
    obtain ⟨w1, w2, w3, _⟩ := h.1.2.2.2.2.2.2.2.2.1 j lt
    unfold isI at w3
    obtain ⟨i1, i2⟩ := nidx (k := j) (m := 200) (by omega) (by omega)
    obtain ⟨i3, i4⟩ := nidx (k := 200 * i + j) (m := 1000) (by omega) (by omega)
    have e200 : 200 * ii (i : Int) + ii (j : Int) = ii ((200 * i + j : Nat) : Int) := by rw [ii_lit, ii_mul, ii_add]; congr 1
    obtain ⟨p, g2, p1, p2, p3⟩ := h.stepC hnf lt
    obtain ⟨p', si', sj', sa', q1, q2, q3⟩ := h.stepM (nf := nf) (si := si) (sj := sj) hnf lt
    have pp : p = p' := Bool.eq_iff_iff.mpr (p1.trans q1.symm)
    subst pp
    have vt : v < tm j := hk.2.2 j hkj lt
    have Ft : F < tm j := by
      rw [hF]
      by_cases c : k < j
      · rw [if_pos c]
        exact h.lt (by omega) lt
      · rw [if_neg c]
        exact vt
    have Fb : -1152921504606846975 ≤ F := by
      rw [hF]
      by_cases c : k < j
      · rw [if_pos c]
        exact (h.1.2.2.2.2.2.2.2.2.1 (j - 1) (by omega)).2.2.1.1
      · rw [if_neg c]
        exact hvI.1
    have cC : ∀ w, f_Zone_stepAbove_6 nf z.2.1 z.2.2.1 z.2.2.2.2.2.2.1 z.2.2.2.2.2.2.2.1 z.2.2.2.2.2.2.2.2.1 z.2.2.2.2.2.2.2.2.2.1 z.2.2.2.2.2.2.2.2.2.2.1 z.2.2.2.2.2.2.2.2.2.2.2.2.2.1 z.2.2.2.2.2.2.2.2.2.2.2.2.2.2.1 z.2.2.2.2.2.2.2.2.2.2.2.2.2.2.2.1 z.2.2.2.2.2.2.2.2.2.2.2.2.2.2.2.2.2.2.1 z.2.2.2.2.2.2.2.2.2.2.2.2.2.2.2.2.2.2.2.2.1 z.2.2.2.2.2.2.2.2.2.2.2.2.2.2.2.2.2.2.2.2.2.1 z.2.2.2.2.2.2.2.2.2.2.2.2.2.2.2.2.2.2.2.2.2.2.1 z.2.2.2.2.2.2.2.2.2.2.2.2.2.2.2.2.2.2.2.2.2.2.2.1 z.2.2.2.2.2.2.2.2.2.2.2.2.2.2.2.2.2.2.2.2.2.2.2.2.1 z.2.2.2.2.2.2.2.2.2.2.2.2.2.2.2.2.2.2.2.2.2.2.2.2.2.1 z.2.2.2.2.2.2.2.2.2.2.2.2.2.2.2.2.2.2.2.2.2.2.2.2.2.2.2.1 z.2.2.2.2.2.2.2.2.2.2.2.2.2.2.2.2.2.2.2.2.2.2.2.2.2.2.2.2.1 z.2.2.2.2.2.2.2.2.2.2.2.2.2.2.2.2.2.2.2.2.2.2.2.2.2.2.2.2.2.1 z.2.2.2.2.2.2.2.2.2.2.2.2.2.2.2.2.2.2.2.2.2.2.2.2.2.2.2.2.2.2.1 z.2.2.2.2.2.2.2.2.2.2.2.2.2.2.2.2.2.2.2.2.2.2.2.2.2.2.2.2.2.2.2.1 z.2.2.2.2.2.2.2.2.2.2.2.2.2.2.2.2.2.2.2.2.2.2.2.2.2.2.2.2.2.2.2.2.1 z.2.2.2.2.2.2.2.2.2.2.2.2.2.2.2.2.2.2.2.2.2.2.2.2.2.2.2.2.2.2.2.2.2.1 z.2.2.2.2.2.2.2.2.2.2.2.2.2.2.2.2.2.2.2.2.2.2.2.2.2.2.2.2.2.2.2.2.2.2.1 z.2.2.2.2.2.2.2.2.2.2.2.2.2.2.2.2.2.2.2.2.2.2.2.2.2.2.2.2.2.2.2.2.2.2.2.1 z.2.2.2.2.2.2.2.2.2.2.2.2.2.2.2.2.2.2.2.2.2.2.2.2.2.2.2.2.2.2.2.2.2.2.2.2.1 z.2.2.2.2.2.2.2.2.2.2.2.2.2.2.2.2.2.2.2.2.2.2.2.2.2.2.2.2.2.2.2.2.2.2.2.2.2.1 z.2.2.2.2.2.2.2.2.2.2.2.2.2.2.2.2.2.2.2.2.2.2.2.2.2.2.2.2.2.2.2.2.2.2.2.2.2.2.1 z.2.2.2.2.2.2.2.2.2.2.2.2.2.2.2.2.2.2.2.2.2.2.2.2.2.2.2.2.2.2.2.2.2.2.2.2.2.2.2.1 z.2.2.2.2.2.2.2.2.2.2.2.2.2.2.2.2.2.2.2.2.2.2.2.2.2.2.2.2.2.2.2.2.2.2.2.2.2.2.2.2.1 z.2.2.2.2.2.2.2.2.2.2.2.2.2.2.2.2.2.2.2.2.2.2.2.2.2.2.2.2.2.2.2.2.2.2.2.2.2.2.2.2.2 (f + 1) (ii (j : Int)) (jj v) w = if bI p = 0 then f_Zone_stepAbove_6 nf z.2.1 z.2.2.1 z.2.2.2.2.2.2.1 z.2.2.2.2.2.2.2.1 z.2.2.2.2.2.2.2.2.1 z.2.2.2.2.2.2.2.2.2.1 z.2.2.2.2.2.2.2.2.2.2.1 z.2.2.2.2.2.2.2.2.2.2.2.2.2.1 z.2.2.2.2.2.2.2.2.2.2.2.2.2.2.1 z.2.2.2.2.2.2.2.2.2.2.2.2.2.2.2.1 z.2.2.2.2.2.2.2.2.2.2.2.2.2.2.2.2.2.2.1 z.2.2.2.2.2.2.2.2.2.2.2.2.2.2.2.2.2.2.2.2.1 z.2.2.2.2.2.2.2.2.2.2.2.2.2.2.2.2.2.2.2.2.2.1 z.2.2.2.2.2.2.2.2.2.2.2.2.2.2.2.2.2.2.2.2.2.2.1 z.2.2.2.2.2.2.2.2.2.2.2.2.2.2.2.2.2.2.2.2.2.2.2.1 z.2.2.2.2.2.2.2.2.2.2.2.2.2.2.2.2.2.2.2.2.2.2.2.2.1 z.2.2.2.2.2.2.2.2.2.2.2.2.2.2.2.2.2.2.2.2.2.2.2.2.2.1 z.2.2.2.2.2.2.2.2.2.2.2.2.2.2.2.2.2.2.2.2.2.2.2.2.2.2.2.1 z.2.2.2.2.2.2.2.2.2.2.2.2.2.2.2.2.2.2.2.2.2.2.2.2.2.2.2.2.1 z.2.2.2.2.2.2.2.2.2.2.2.2.2.2.2.2.2.2.2.2.2.2.2.2.2.2.2.2.2.1 z.2.2.2.2.2.2.2.2.2.2.2.2.2.2.2.2.2.2.2.2.2.2.2.2.2.2.2.2.2.2.1 z.2.2.2.2.2.2.2.2.2.2.2.2.2.2.2.2.2.2.2.2.2.2.2.2.2.2.2.2.2.2.2.1 z.2.2.2.2.2.2.2.2.2.2.2.2.2.2.2.2.2.2.2.2.2.2.2.2.2.2.2.2.2.2.2.2.1 z.2.2.2.2.2.2.2.2.2.2.2.2.2.2.2.2.2.2.2.2.2.2.2.2.2.2.2.2.2.2.2.2.2.1 z.2.2.2.2.2.2.2.2.2.2.2.2.2.2.2.2.2.2.2.2.2.2.2.2.2.2.2.2.2.2.2.2.2.2.1 z.2.2.2.2.2.2.2.2.2.2.2.2.2.2.2.2.2.2.2.2.2.2.2.2.2.2.2.2.2.2.2.2.2.2.2.1 z.2.2.2.2.2.2.2.2.2.2.2.2.2.2.2.2.2.2.2.2.2.2.2.2.2.2.2.2.2.2.2.2.2.2.2.2.1 z.2.2.2.2.2.2.2.2.2.2.2.2.2.2.2.2.2.2.2.2.2.2.2.2.2.2.2.2.2.2.2.2.2.2.2.2.2.1 z.2.2.2.2.2.2.2.2.2.2.2.2.2.2.2.2.2.2.2.2.2.2.2.2.2.2.2.2.2.2.2.2.2.2.2.2.2.2.1 z.2.2.2.2.2.2.2.2.2.2.2.2.2.2.2.2.2.2.2.2.2.2.2.2.2.2.2.2.2.2.2.2.2.2.2.2.2.2.2.1 z.2.2.2.2.2.2.2.2.2.2.2.2.2.2.2.2.2.2.2.2.2.2.2.2.2.2.2.2.2.2.2.2.2.2.2.2.2.2.2.2.1 z.2.2.2.2.2.2.2.2.2.2.2.2.2.2.2.2.2.2.2.2.2.2.2.2.2.2.2.2.2.2.2.2.2.2.2.2.2.2.2.2.2 f (ii ((j + 1 : Nat) : Int)) (jj v) w else some ((jj (tm j), w), 0, 0) := by
      intro w
      rw [f_Zone_stepAbove_6, v5, if_neg (inle lt (by omega)), i1, if_neg i2, w1]
      rw [v5] at p2 p3
      rw [p2, Option.bind_some, p3, Option.bind_some, if_neg i2, iiS]
    have cR : f_Mo_next_43 nf (f' + 1) (ii (j : Int)) (jj F) (ii (i : Int)) (jj v) si sj sa sb = if bI p = 0 then f_Mo_next_43 nf f' (ii ((j + 1 : Nat) : Int)) (jj (tm j)) (ii (i : Int)) (jj v) si' sj' sa' sb else some (jj (tm j), si', sj', sa', sb) := by
      rw [f_Mo_next_43, ei, if_neg ni, v6, if_neg (inle lt (by omega)), e200, i3, if_neg i4, w2, if_neg (fun y => by rw [jj_le (by omega) (by omega) (by omega) (by omega)] at y; omega), q2, Option.bind_some]
      dsimp only
      unfold f_Mo_next_89 f_Mo_next_104
      rw [if_neg (show ¬ jj (tm j) ≤ jj F from fun y => by rw [jj_le (by omega) (by omega) (by omega) (by omega)] at y; omega), iiS]
    cases p with
    | true =>
      rw [if_neg (show ¬ bI true = 0 by decide)] at cR
      exact Or.inl ⟨j, si', sj', sa', lt, fun w => (cC w).trans (if_neg (by decide)), cR, q3⟩
    | false =>
      rw [if_pos (show bI false = 0 from rfl)] at cR
      have r := ih (j + 1) f f' (tm j) si' sj' sa' (by omega) (by omega) (by omega) (by omega) (h.fr q3.2.2) (by rw [if_pos (show k < j + 1 by omega), show j + 1 - 1 = j by omega])
      rcases r with ⟨p, si2, sj2, sa2, r1, r2, r3, r4⟩ | ⟨F', si2, sj2, sa2, r1, r2, r3, r4, r5⟩
      · exact Or.inl ⟨p, si2, sj2, sa2, r1, fun w => (cC w).trans ((if_pos rfl).trans (r2 w)), cR.trans r3, q3.tr r4⟩
      · exact Or.inr ⟨F', si2, sj2, sa2, r1, r2, fun w => (cC w).trans ((if_pos rfl).trans (r3 w)), cR.trans r4, q3.tr r5⟩
theorem ZV.nx43a (h : ZV z sa sb i n t r tm tt hs b e O D Z B) {v : Int} (hv : isI v) {k : Nat} (hk : upto n tm v k) (fu : Nat) : ∀ (d j : Nat), j + d = k → f_Mo_next_43 nf (fu + d) (ii (j : Int)) (jj v) (ii (i : Int)) (jj v) si sj sa sb = f_Mo_next_43 nf fu (ii (k : Int)) (jj v) (ii (i : Int)) (jj v) si sj sa sb := by
  unfold isI at hv
  have hn := h.1.2.1
  have hi := h.1.1
  have v6 := h.1.2.2.2.2.2.1
  have ei : (ii (i : Int)).toNatClampNeg = i := by rw [ii_nat (by omega) (by omega)]; omega
  have ni : ¬ (ii (i : Int) < 0 ∨ 5 ≤ i) := by rw [ii_lit, ii_lt (by omega) (by omega) (by omega) (by omega)]; omega
  intro d
  induction d with
  | zero =>
    intro j hj
    obtain rfl : j = k := by omega
    rfl
  | succ d ih =>
    intro j hj
    have lt : j < n := by have := hk.1; omega
    obtain ⟨w1, w2, w3, _⟩ := h.1.2.2.2.2.2.2.2.2.1 j lt
    unfold isI at w3
    have tv := hk.2.1 j (by omega)
    obtain ⟨i3, i4⟩ := nidx (k := 200 * i + j) (m := 1000) (by omega) (by omega)
    have e200 : 200 * ii (i : Int) + ii (j : Int) = ii ((200 * i + j : Nat) : Int) := by rw [ii_lit, ii_mul, ii_add]; congr 1
    have le : jj (tm j) ≤ jj v := (jj_le (by omega) (by omega) (by omega) (by omega)).mpr tv
    rw [show fu + (d + 1) = (fu + d) + 1 by omega, f_Mo_next_43, ei, if_neg ni, v6, if_neg (inle lt (by omega)), e200, i3, if_neg i4, w2, if_pos le]
    unfold f_Mo_next_89 f_Mo_next_104
    rw [if_pos le, iiS]
    exact ih (j + 1) (by omega)
end
theorem okN {nf : Nat} {S : CS} {i : Nat} {f : Int32} {si si' : Nat → Int32} {sj sj' : Nat → Int64} {sa sa' : Nat → Nat → Int32} {sb : Nat → Nat → Int64} (hi : i < 4) (h : RR S (si, sj, sa, sb)) (hz : RZon (zNev (S.2 i) f) sa sb i) (fr : QF (va_up si 3 0) si' sj sj' sa sa') {c : Option (Int32 × Int64 × CS × Nat × Nat)} {q : Option (Int64 × MS)} {v : Int64} {kc ks : Nat} (e1 : c = some (0, v, (S.1, zup S.2 i (zNev (S.2 i) f)), kc, ks)) (e2 : q = some (v, si', sj', sa', sb)) (hkc : kc ≤ 10) (hks : ks ≤ 100) : STWj nf RR S c q := by
  have hR : RR S (si', sj', sa', sb) := h.qry (fun k hk => by rw [fr.1 k (by unfold kI at hk; omega), vup_ne (by unfold kI at hk; omega)]) fr.2.1 fr.2.2
  have hz' : RZon (zNev (S.2 i) f) sa' sb i := hz.congr (fun a j k => by rw [fr.2.2 a (by unfold kAz at k; omega) (by unfold kAz at k; omega)]) (fun _ _ _ => rfl)
  have nN : ∀ m, (zup S.2 i (zNev (S.2 i) f) m).2.2.2.2.2.2.2.2.2.2.2.2.2.2.1 = (S.2 m).2.2.2.2.2.2.2.2.2.2.2.2.2.2.1 ∧ (zup S.2 i (zNev (S.2 i) f) m).2.2.2.2.2.2.2.2.2.2.2.2.2.2.2.2.2.2.2.2.2.2.2.2.2.2.2.2.1 = (S.2 m).2.2.2.2.2.2.2.2.2.2.2.2.2.2.2.2.2.2.2.2.2.2.2.2.2.2.2.2.1 := fun m => by
    unfold zup
    by_cases c : m = i
    · rw [if_pos c, c]
      exact ⟨rfl, rfl⟩
    · rw [if_neg c]
      exact ⟨rfl, rfl⟩
  have ph : phi (S.1, zup S.2 i (zNev (S.2 i) f)) = phi S := by
    unfold phi
    dsimp only
    rw [(nN 0).1, (nN 0).2, (nN 1).1, (nN 1).2, (nN 2).1, (nN 2).2, (nN 3).1, (nN 3).2, (nN 4).1, (nN 4).2]
  refine ⟨0, v, _, kc, ks, v, _, e1, e2, congrArg some ((fr.1 3 (by omega)).trans rfl), fun _ => rfl, ⟨hR.1, hR.2.1, hR.2.2.1, hR.2.2.2.1, hR.2.2.2.2.1, fun m hm => ?_, ?_⟩, ?_, ?_⟩
  · show RZon (zup S.2 i (zNev (S.2 i) f) m) sa' sb m
    unfold zup
    by_cases c : m = i
    · rw [if_pos c, c]
      exact hz'
    · rw [if_neg c]
      exact hR.2.2.2.2.2.1 m hm
  · show RSpa (zup S.2 i (zNev (S.2 i) f) 4)
    unfold zup
    rw [if_neg (by omega)]
    exact hR.2.2.2.2.2.2
  · rw [ph]
    omega
  · rw [ph]
    omega
theorem st_next {nf : Nat} (hnf : 10000 ≤ nf) (S : CS) (M : MS) (p0 : Int32) (p1 : Int64) (h : RR S M) : STWj nf RR S (cq_next nf S p0 p1) (f_Mo_next nf p0 p1 M.1 M.2.1 M.2.2.1 M.2.2.2) := by
  obtain ⟨si, sj, sa, sb⟩ := M
  generalize hC : cq_next nf S p0 p1 = C
  unfold cq_next at hC
  dsimp only
  generalize hQ : f_Mo_next nf p0 p1 si sj sa sb = Q
  have e25 : ∀ s : Int32, ¬ s ≤ 0 → f_Mo_next_25 nf p0 p1 s si sj sa sb = some (0, va_up si 3 s, sj, sa, sb) := by
    intro s hs
    unfold f_Mo_next_25
    rw [if_neg hs]
  unfold f_Mo_next f_Mo_next_0 at hQ
  rw [e25 1 (by decide), e25 2 (by decide)] at hQ
  unfold f_ZF_next f_ZF_next_0 g_ZF_next g_ZF_next_0 at hC
  rcases zcase p0 with ⟨i, hi, rfl⟩ | hz
  · obtain ⟨a1, a2, a3, a4, a5, a6, a7⟩ := zgood hi nf
    rw [a4, a1, a2, a5, Option.bind_some] at hC
    rw [a3, Option.bind_some, if_pos rfl] at hQ
    obtain ⟨v, rfl, v1, v2⟩ := jj_all p1
    obtain ⟨i1, i2⟩ := cinst nf v1 v2
    rw [i2, Option.bind_some] at hQ
    by_cases c : -1152921504606846975 ≤ v ∧ v ≤ 1152921504606846975
    · obtain ⟨k1, k2⟩ := cchk nf v1 v2 c
      rw [k1, Option.bind_some, if_neg a6] at hC
      rw [if_pos c, if_neg (by decide)] at hQ
      have hzi : RZon (S.2 i) sa sb i := h.2.2.2.2.2.1 i hi
      obtain ⟨n, t, r, tm, tt, hs, b, e, O, D, Z, B, hv, hnev, hput⟩ := hzi.viewN (by omega)
      obtain ⟨k, hk⟩ := hv.ex v
      have tu := hv.tup hnf (v := v) ⟨v1, v2⟩ hk
      unfold f_Zone_stepAbove f_Zone_stepAbove_0 at hC
      rw [tu, Option.bind_some] at hC
      unfold f_Mo_next_25 at hQ
      rw [if_pos (show (0 : Int32) ≤ 0 by decide)] at hQ
      have pre := hv.nx43a (nf := nf) (si := va_up si 3 0) (sj := sj) c hk (nf - k) k 0 (by omega)
      have kn := hk.1
      have n2 := hv.1.2.1
      rw [show nf - k + k = nf by omega, show ii ((0 : Nat) : Int) = 0 from rfl] at pre
      rw [pre] at hQ
      rcases ZV.nx43 (nf := nf) hnf c hk (n - k) k nf (nf - k) v (va_up si 3 0) sj sa (by omega) (by omega) (by omega) (by omega) hv (by rw [if_neg (by omega)]) with ⟨p, si', sj', sa', r1, r2, r3, r4⟩ | ⟨F', si', sj', sa', r1, r2, r3, r4, r5⟩
      · rw [r2, Option.bind_some] at hC
        rw [r3] at hQ
        exact okN hi h (hput _ hnev) r4 hC.symm hQ.symm (kc := 0 + 0) (ks := 0 + 0) (by omega) (by omega)
      · rw [r3] at hC
        rw [r4] at hQ
        unfold f_Zone_stepAbove_75 at hC
        rcases (hv.fr r5.2.2).rul with ⟨y1, y2, y3, y4, y5, y6, y7⟩ | ⟨y1, y2, y3⟩
        · obtain ⟨f', kc, ks, g1, g2, g3, g4⟩ := cabove hnf y5 y6 y7.2.2.1 y7.2.2.2 r1 (hnev y1)
          obtain ⟨si2, sj2, sa2, m1, m2⟩ := ZV.m115 (nf := nf) hnf y1 820 0 nf F' si' sj' sa' (by omega) (by omega) (hv.fr r5.2.2) r1 r2
          rw [show ii ((0 : Nat) : Int) = 0 from rfl] at m1
          rw [m1] at hQ
          have g1' : f_Rule_changeAbove nf (jj F') (S.2 i).2.2.2.2.2.2.2.2.2.2.2.2.2.2.2.2.2.2.1 (S.2 i).2.2.2.2.2.2.2.2.2.2.2.2.2.2.2.2.2.2.2.2.2.2.2.2.2.2.1 (S.2 i).2.2.2.2.2.2.2.2.2.2.2.2.2.2.2.2.2.2.2.2.2.2.2.2.2.2.2.2.2.2.1 (S.2 i).2.2.2.2.2.2.2.2.2.2.2.2.2.2.2.2.2.2.2.2.2.2.2.2.2.2.2.2.2.2.2.1 (S.2 i).2.2.2.2.2.2.2.2.2.2.2.2.2.2.2.2.2.2.2.2.2.2.2.2.2.2.2.2.2.2.2.2.1 (S.2 i).2.2.2.2.2.2.2.2.2.2.2.2.2.2.2.2.2.2.2.2.2.2.2.2.2.2.2.2.2.2.2.2.2.1 (S.2 i).2.2.2.2.2.2.2.2.2.2.2.2.2.2.2.2.2.2.2.2.2.2.2.2.2.2.2.2.2.2.2.2.2.2.1 (S.2 i).2.2.2.2.2.2.2.2.2.2.2.2.2.2.2.2.2.2.2.2.2.2.2.2.2.2.2.2.2.2.2.2.2.2.2.1 (S.2 i).2.2.2.2.2.2.2.2.2.2.2.2.2.2.2.2.2.2.2.2.2.2.2.2.2.2.2.2.2.2.2.2.2.2.2.2.1 (S.2 i).2.2.2.2.2.2.2.2.2.2.2.2.2.2.2.2.2.2.2.2.2.2.2.2.2.2.2.2.2.2.2.2.2.2.2.2.2.1 (S.2 i).2.2.2.2.2.2.2.2.2.2.2.2.2.2.2.2.2.2.2.2.2.2.2.2.2.2.2.2.2.2.2.2.2.2.2.2.2.2.1 (S.2 i).2.2.2.2.2.2.2.2.2.2.2.2.2.2.2.2.2.2.2.2.2.2.2.2.2.2.2.2.2.2.2.2.2.2.2.2.2.2.2.1 (S.2 i).2.2.2.2.2.2.2.2.2.2.2.2.2.2.2.2.2.2.2.2.2.2.2.2.2.2.2.2.2.2.2.2.2.2.2.2.2.2.2.2.1 (S.2 i).2.2.2.2.2.2.2.2.2.2.2.2.2.2.2.2.2.2.2.2.2.2.2.2.2.2.2.2.2.2.2.2.2.2.2.2.2.2.2.2.2 = some ((encN (scn b e 820 F'), f'), kc, ks) := by
            rw [y4]
            exact g1
          rw [g1', Option.bind_some] at hC
          exact okN hi h (hput f' (fun _ => g2)) (r5.tr m2) hC.symm hQ.symm (kc := 0 + (0 + kc)) (ks := 0 + (0 + ks)) (by omega) (by omega)
        · obtain ⟨nf', hnf'⟩ : ∃ nf', nf = nf' + 1 := ⟨nf - 1, by omega⟩
          have hrd : f_Mo_next_115 nf nf 0 (jj F') (ii (i : Int)) si' sj' sa' sb = some (-9223372036854775808, si', sj', sa', sb) := by
            have gen : ∀ fu, f_Mo_next_115 nf (fu + 1) 0 (jj F') (ii (i : Int)) si' sj' sa' sb = some (-9223372036854775808, si', sj', sa', sb) := by
              intro fu
              rw [f_Mo_next_115, if_neg (by decide), a5, if_neg a7, if_neg y2]
              rfl
            have := gen nf'
            rw [← hnf'] at this
            exact this
          rw [hrd] at hQ
          have hcb : ∀ w, f_Rule_changeAbove nf (jj F') (S.2 i).2.2.2.2.2.2.2.2.2.2.2.2.2.2.2.2.2.2.1 w (S.2 i).2.2.2.2.2.2.2.2.2.2.2.2.2.2.2.2.2.2.2.2.2.2.2.2.2.2.2.2.2.2.1 (S.2 i).2.2.2.2.2.2.2.2.2.2.2.2.2.2.2.2.2.2.2.2.2.2.2.2.2.2.2.2.2.2.2.1 (S.2 i).2.2.2.2.2.2.2.2.2.2.2.2.2.2.2.2.2.2.2.2.2.2.2.2.2.2.2.2.2.2.2.2.1 (S.2 i).2.2.2.2.2.2.2.2.2.2.2.2.2.2.2.2.2.2.2.2.2.2.2.2.2.2.2.2.2.2.2.2.2.1 (S.2 i).2.2.2.2.2.2.2.2.2.2.2.2.2.2.2.2.2.2.2.2.2.2.2.2.2.2.2.2.2.2.2.2.2.2.1 (S.2 i).2.2.2.2.2.2.2.2.2.2.2.2.2.2.2.2.2.2.2.2.2.2.2.2.2.2.2.2.2.2.2.2.2.2.2.1 (S.2 i).2.2.2.2.2.2.2.2.2.2.2.2.2.2.2.2.2.2.2.2.2.2.2.2.2.2.2.2.2.2.2.2.2.2.2.2.1 (S.2 i).2.2.2.2.2.2.2.2.2.2.2.2.2.2.2.2.2.2.2.2.2.2.2.2.2.2.2.2.2.2.2.2.2.2.2.2.2.1 (S.2 i).2.2.2.2.2.2.2.2.2.2.2.2.2.2.2.2.2.2.2.2.2.2.2.2.2.2.2.2.2.2.2.2.2.2.2.2.2.2.1 (S.2 i).2.2.2.2.2.2.2.2.2.2.2.2.2.2.2.2.2.2.2.2.2.2.2.2.2.2.2.2.2.2.2.2.2.2.2.2.2.2.2.1 (S.2 i).2.2.2.2.2.2.2.2.2.2.2.2.2.2.2.2.2.2.2.2.2.2.2.2.2.2.2.2.2.2.2.2.2.2.2.2.2.2.2.2.1 (S.2 i).2.2.2.2.2.2.2.2.2.2.2.2.2.2.2.2.2.2.2.2.2.2.2.2.2.2.2.2.2.2.2.2.2.2.2.2.2.2.2.2.2 = some ((-9223372036854775808, w), 0, 0) := by
            intro w
            unfold f_Rule_changeAbove f_Rule_changeAbove_0
            rw [y3, if_pos rfl]
            rfl
          rw [hcb, Option.bind_some] at hC
          exact okN hi h (hput _ hnev) r5 hC.symm hQ.symm (kc := 0 + (0 + 0)) (ks := 0 + (0 + 0)) (by omega) (by omega)
    · obtain ⟨k1, k2⟩ := cchkN nf v1 v2 c
      rw [k1, k2] at hC
      rw [if_neg c, if_pos rfl] at hQ
      exact noJ h 2 (by decide) hC.symm hQ.symm
  · rw [(hz nf).2.2, Option.bind_some, if_neg (by decide)] at hQ
    rw [(hz nf).1, (hz nf).2.1] at hC
    exact noJ h 1 (by decide) hC.symm hQ.symm
