/-! ===== read: does the rule go on where the times end ===== -/
theorem sm_symm {O D : Int → Int} {Z : Int → Nat} {B : Int → Nat → Int32} {g g' : Int} (h : sm O D Z B g g') : sm O D Z B g' g := by
  rcases h with ⟨h1, h2⟩ | ⟨h1, h2, h3, h4, h5, h6⟩
  · exact Or.inl ⟨h2, h1⟩
  · exact Or.inr ⟨h2, h1, h3.symm, h4.symm, h5.symm, fun k hk => (h6 k (by omega)).symm⟩
section
variable {nf : Nat} {z : ZS} {si : Nat → Int32} {sj : Nat → Int64} {sa : Nat → Nat → Int32} {sb : Nat → Nat → Int64} {n t r : Nat} {tm : Nat → Int} {tt : Nat → Nat} {hs : Bool} {b e : ET} {O D : Int → Int} {Z : Int → Nat} {B : Int → Nat → Int32}
theorem ZV.cont (h : ZV z sa sb 4 n t r tm tt hs b e O D Z B) (hnf : 10000 ≤ nf) (hn : 0 < n) (hr : 0 < r) : ∃ (q : Bool) (g : Int) (si' : Nat → Int32) (sj' : Nat → Int64) (sa' : Nat → Nat → Int32), f_Zone_stateAt nf (jj (tm (n - 1))) z.2.1 z.2.2.2.2.2.2.1 z.2.2.2.2.2.2.2.1 z.2.2.2.2.2.2.2.2.2.2.2.2.2.2.2.2.2.2.1 z.2.2.2.2.2.2.2.2.2.2.2.2.2.2.2.2.2.2.2.2.2.2.2.2.2.2.2.1 z.2.2.2.2.2.2.2.2.2.2.2.2.2.2.2.2.2.2.2.2.2.2.2.2.2.2.2.2.2.2.1 z.2.2.2.2.2.2.2.2.2.2.2.2.2.2.2.2.2.2.2.2.2.2.2.2.2.2.2.2.2.2.2.1 z.2.2.2.2.2.2.2.2.2.2.2.2.2.2.2.2.2.2.2.2.2.2.2.2.2.2.2.2.2.2.2.2.1 z.2.2.2.2.2.2.2.2.2.2.2.2.2.2.2.2.2.2.2.2.2.2.2.2.2.2.2.2.2.2.2.2.2.1 z.2.2.2.2.2.2.2.2.2.2.2.2.2.2.2.2.2.2.2.2.2.2.2.2.2.2.2.2.2.2.2.2.2.2.1 z.2.2.2.2.2.2.2.2.2.2.2.2.2.2.2.2.2.2.2.2.2.2.2.2.2.2.2.2.2.2.2.2.2.2.2.1 z.2.2.2.2.2.2.2.2.2.2.2.2.2.2.2.2.2.2.2.2.2.2.2.2.2.2.2.2.2.2.2.2.2.2.2.2.1 z.2.2.2.2.2.2.2.2.2.2.2.2.2.2.2.2.2.2.2.2.2.2.2.2.2.2.2.2.2.2.2.2.2.2.2.2.2.1 z.2.2.2.2.2.2.2.2.2.2.2.2.2.2.2.2.2.2.2.2.2.2.2.2.2.2.2.2.2.2.2.2.2.2.2.2.2.2.1 z.2.2.2.2.2.2.2.2.2.2.2.2.2.2.2.2.2.2.2.2.2.2.2.2.2.2.2.2.2.2.2.2.2.2.2.2.2.2.2.1 z.2.2.2.2.2.2.2.2.2.2.2.2.2.2.2.2.2.2.2.2.2.2.2.2.2.2.2.2.2.2.2.2.2.2.2.2.2.2.2.2.1 z.2.2.2.2.2.2.2.2.2.2.2.2.2.2.2.2.2.2.2.2.2.2.2.2.2.2.2.2.2.2.2.2.2.2.2.2.2.2.2.2.2 = some (ii g) ∧ f_Zone_isSame nf (ii g) (ii (tt (n - 1) : Int)) z.2.2.1 z.2.2.2.2.2.2.2.2.1 z.2.2.2.2.2.2.2.2.2.1 z.2.2.2.2.2.2.2.2.2.2.1 z.2.2.2.2.2.2.2.2.2.2.2.2.2.1 z.2.2.2.2.2.2.2.2.2.2.2.2.2.2.1 z.2.2.2.2.2.2.2.2.2.2.2.2.2.2.2.1 z.2.2.2.2.2.2.2.2.2.2.2.2.2.2.2.2.2.2.2.2.1 z.2.2.2.2.2.2.2.2.2.2.2.2.2.2.2.2.2.2.2.2.2.1 z.2.2.2.2.2.2.2.2.2.2.2.2.2.2.2.2.2.2.2.2.2.2.1 z.2.2.2.2.2.2.2.2.2.2.2.2.2.2.2.2.2.2.2.2.2.2.2.1 z.2.2.2.2.2.2.2.2.2.2.2.2.2.2.2.2.2.2.2.2.2.2.2.2.1 z.2.2.2.2.2.2.2.2.2.2.2.2.2.2.2.2.2.2.2.2.2.2.2.2.2.1 z.2.2.2.2.2.2.2.2.2.2.2.2.2.2.2.2.2.2.2.2.2.2.2.2.2.2.2.1 z.2.2.2.2.2.2.2.2.2.2.2.2.2.2.2.2.2.2.2.2.2.2.2.2.2.2.2.2.1 z.2.2.2.2.2.2.2.2.2.2.2.2.2.2.2.2.2.2.2.2.2.2.2.2.2.2.2.2.2.1 = some (bI q) ∧ f_Mo_isContinued nf si sj sa sb = some (bI q, si', sj', sa', sb) ∧ QF si si' sj sj' sa sa' := by
  obtain ⟨d1, d2, d3, d4, d5, d6, d7, d8, d9⟩ := id h.1
  obtain ⟨t1, t2, t3, t4, t5, t6⟩ := d9.1 (n - 1) (by omega)
  have hk : upto n tm (tm (n - 1)) n := by
    have := h.upt (j := n - 1) (by omega)
    rw [show n - 1 + 1 = n by omega] at this
    exact this
  have cs := h.cstate (nf := nf) hnf t3 hk
  have G2 := h.stg (tm (n - 1)) hk.1
  have eg : stI n r tt (hs && suB b e (tm (n - 1))) n = if 0 < r then (if (hs && suB b e (tm (n - 1))) = true then -2 else -1) else -3 := by
    unfold stI
    rw [if_neg (by omega), if_pos hr, if_pos hr]
  have G1 : vg t r hs (tt (n - 1) : Int) ∨ (tt (n - 1) : Int) = -3 := Or.inl (Or.inl ⟨by omega, by omega⟩)
  obtain ⟨si1, sa1, m1, m2⟩ := h.byType (nf := nf) (si := si) (sj := sj) hnf (g := tt (n - 1)) t6
  obtain ⟨a43, a45, a46, a47, a48⟩ := m2.dat
  obtain ⟨si2, sa2, p1, ⟨p49, p50, p51, p52⟩, p3, p4, p5⟩ := mkeep (nf := nf) (sj := sj) (sb := sb) (sa := sa1) hnf (dsz_le (h.bdg G1)) a47
  have fr2 : frA sa sa2 := fun a h1 h2 => (p5 a h2).trans (m2.frA a h1)
  obtain ⟨si3, sj3, sa3, n1, n2, n3⟩ := (h.fr fr2).byRule (nf := nf) (si := si2) (sj := sj) hnf t3
  rw [← eg] at n2
  obtain ⟨q', q1', q2'⟩ := h.same (nf := nf) hnf G2 G1
  generalize stI n r tt (hs && suB b e (tm (n - 1))) n = g2 at n2 G2 cs q1' q2'
  obtain ⟨c43, c45, c46, c47, c48⟩ := n2.dat
  obtain ⟨q, q1, q2⟩ := mkept (nf := nf) (sj := sj3) (sb := sb) (si := si3) (sa := sa3) hnf (h.bdg G1) (h.bdg G2) (by rw [n2.frI 49 (by omega), p49, a43]) (by rw [n2.frI 50 (by omega), p50, a45]) (by rw [n2.frI 51 (by omega), p51, a46]) (by rw [n2.frI 52 (by omega), p52, a47]) (fun k hk => by rw [n2.frA 53 (by decide), p4 k hk, a48 k hk]) c43 c45 c46 c47 c48
  have eqq : q' = q := Bool.eq_iff_iff.mpr ⟨fun y => q1.mpr (sm_symm (q1'.mp y)), fun y => q1'.mpr (sm_symm (q1.mp y))⟩
  subst eqq
  refine ⟨q', g2, si3, sj3, sa3, cs, q2', ?_, ⟨fun k hk => ?_, n3, fun a h1 h2 => (n2.frA a h1).trans (fr2 a h1 h2)⟩⟩
  · have n4 : ¬ ((4 : Int32) < 0 ∨ 5 ≤ 4) := by decide
    have z4 : (4 : Int32).toNatClampNeg = 4 := rfl
    have ex : 200 * (4 : Int32) + ii (n : Int) - 1 = ii ((800 + (n - 1) : Nat) : Int) := by
      rw [show (200 * (4 : Int32)) = ii 800 from rfl, show (1 : Int32) = ii 1 from rfl, ii_add, ii_sub]
      congr 1
      omega
    obtain ⟨i1, i2⟩ := nidx (k := 800 + (n - 1)) (m := 1000) (by omega) (by omega)
    have t5' : sa 13 (800 + (n - 1)) = ii (tt (n - 1) : Int) := t5
    have t2' : sb 12 (800 + (n - 1)) = jj (tm (n - 1)) := t2
    have m1' : f_Mo_byType nf 4 (ii (tt (n - 1) : Int)) si sj sa sb = some (si1, sj, sa1, sb) := m1
    have n1' : f_Mo_byRule nf 4 (jj (tm (n - 1))) si2 sj sa2 sb = some (si3, sj3, sa3, sb) := n1
    unfold f_Mo_isContinued f_Mo_isContinued_0
    rw [z4, if_neg n4, d6, ex, i1, if_neg i2, t5', m1', Option.bind_some]
    dsimp only
    rw [p1, Option.bind_some]
    dsimp only
    rw [if_neg i2, t2', n1', Option.bind_some]
    dsimp only
    rw [q2, Option.bind_some]
    cases q' <;> rfl
  · rw [n2.frI k (by omega), p3 k (by omega), m2.frI k (by omega)]
end
/-! the zone that a file makes -/
theorem BkZ.congr {sa sa' : Nat → Nat → Int32} {sb : Nat → Nat → Int64} {vs : Nat → Nat} {TI : Nat → Int64} {TT OF DS IX SD UT : Nat → Int32} {NN : Nat} {AA : Nat → Int32} {LT : Nat → Int64} {LO : Nat → Int32} (h : BkZ sa sb vs TI TT OF DS IX SD UT NN AA LT LO) (hc : ∀ j, j < 6 → cntOK j (vs j) (vs 4)) (k : ∀ a j, kBk a j → sa' a j = sa a j) : BkZ sa' sb vs TI TT OF DS IX SD UT NN AA LT LO := by
  obtain ⟨⟨e5, e6, e7, e8, e9, e10⟩, hb, tm, tt, of, ds, ix, sz, lv, h1, h2, h3, h4, h5, h6, h7⟩ := h
  have m3 : vs 3 ≤ 200 := (hc 3 (by omega)).2.2.1 rfl
  have m4 : 1 ≤ vs 4 ∧ vs 4 ≤ 40 := (hc 4 (by omega)).2.2.2.1 rfl
  have m1 : vs 1 = 0 ∨ vs 1 = vs 4 := (hc 1 (by omega)).1 (by omega)
  have m0 : vs 0 = 0 ∨ vs 0 = vs 4 := (hc 0 (by omega)).1 (by omega)
  have m5 : 1 ≤ vs 5 ∧ vs 5 ≤ 200 := (hc 5 (by omega)).2.2.2.2 rfl
  refine ⟨⟨(k 5 4 (by unfold kBk; omega)).trans e5, (k 6 4 (by unfold kBk; omega)).trans e6, (k 7 4 (by unfold kBk; omega)).trans e7, (k 8 4 (by unfold kBk; omega)).trans e8, (k 9 4 (by unfold kBk; omega)).trans e9, (k 10 4 (by unfold kBk; omega)).trans e10⟩, hb.T_congr (fun q hq => (k 17 _ (by unfold kBk; omega)).symm), tm, tt, of, ds, ix, sz, lv, h1, fun j hj => ?_, fun j hj => ?_, fun j hj => ?_, fun j hj => (h5 j hj).trans (k 20 _ (by unfold kBk; omega)).symm, fun j hj => (h6 j hj).trans (k 21 _ (by unfold kBk; omega)).symm, h7⟩
  · obtain ⟨a1, a2, a3⟩ := h2 j hj
    exact ⟨a1, (k 13 _ (by unfold kBk; omega)).trans a2, a3⟩
  · obtain ⟨a1, a2, a3, a4, a5, a6, a7, a8, a9, a10⟩ := h3 j hj
    exact ⟨a1, (k 14 _ (by unfold kBk; omega)).trans a2, a3, a4, a5, (k 15 _ (by unfold kBk; omega)).trans a6, a7, a8, (k 16 _ (by unfold kBk; omega)).trans a9, a10⟩
  · obtain ⟨a1, a2, a3, a4, a5⟩ := h4 j hj
    refine ⟨a1, a2, a3, fun q hq => ?_, (k 17 _ (by unfold kBk; omega)).trans a5⟩
    obtain ⟨v, e, hv⟩ := a4 q hq
    exact ⟨v, (k 17 _ (by unfold kBk; omega)).trans e, hv⟩
theorem rzon_read {z : ZS} {sa : Nat → Nat → Int32} {sb : Nat → Nat → Int64} {vs : Nat → Nat} (h : BkZ sa sb vs z.2.2.2.2.2.2.1 z.2.2.2.2.2.2.2.1 z.2.2.2.2.2.2.2.2.1 z.2.2.2.2.2.2.2.2.2.1 z.2.2.2.2.2.2.2.2.2.2.1 z.2.2.2.2.2.2.2.2.2.2.2.1 z.2.2.2.2.2.2.2.2.2.2.2.2.1 z.2.2.2.2.2.2.2.2.2.2.2.2.2.2.1 z.2.2.2.2.2.2.2.2.2.2.2.2.2.2.2.1 z.2.2.2.2.2.2.2.2.2.2.2.2.2.2.2.2.1 z.2.2.2.2.2.2.2.2.2.2.2.2.2.2.2.2.2.1) (hc : ∀ j, j < 6 → cntOK j (vs j) (vs 4)) (h0 : z.1 = sa 4 4) (hv : z.1 = 0 ∨ z.1 = 50 ∨ z.1 = 51) (h1 : z.2.1 = ii (vs 3 : Int)) (h2 : z.2.2.1 = ii (vs 4 : Int)) (h3 : z.2.2.2.1 = ii (vs 2 : Int)) (h4 : z.2.2.2.2.1 = ii (vs 1 : Int)) (h5 : z.2.2.2.2.2.1 = ii (vs 0 : Int)) (h6 : z.2.2.2.2.2.2.2.2.2.2.2.2.2.1 = ii (vs 5 : Int)) {r : Nat} (hr : sa 11 4 = ii (r : Int)) (hr2 : r ≤ 128) (ht : RB z.2.2.2.2.2.2.2.2.2.2.2.2.2.2.2.2.2.2.2.2.2.2.2.2.2.2.2.1 z.2.2.2.2.2.2.2.2.2.2.2.2.2.2.2.2.2.2.2.2.2.2.2.2.2.2.2.2.1 z.2.2.2.2.2.2.2.2.2.2.2.2.2.2.2.2.2.2.2.2.2.2.2.2.2.2.2.2.2.1 r (fun k => sa 22 (512 + k))) (hz : ZRul z sa 4 r) : RZon z sa sb 4 := by
  obtain ⟨⟨e5, e6, e7, e8, e9, e10⟩, hb, tm, tt, of, ds, ix, sz, lv, g1, g2, g3, g4, g5, g6, g7⟩ := h
  have m3 : vs 3 ≤ 200 := (hc 3 (by omega)).2.2.1 rfl
  have m4 : 1 ≤ vs 4 ∧ vs 4 ≤ 40 := (hc 4 (by omega)).2.2.2.1 rfl
  have m2 : vs 2 ≤ 40 := (hc 2 (by omega)).2.1 rfl
  have m1 : vs 1 = 0 ∨ vs 1 = vs 4 := (hc 1 (by omega)).1 (by omega)
  have m0 : vs 0 = 0 ∨ vs 0 = vs 4 := (hc 0 (by omega)).1 (by omega)
  have m5 : 1 ≤ vs 5 ∧ vs 5 ≤ 200 := (hc 5 (by omega)).2.2.2.2 rfl
  refine ⟨vs 3, vs 4, vs 5, vs 2, vs 1, vs 0, r, tm, tt, of, ds, ix, sz, ⟨h0, hv, ⟨h1, e5, m3⟩, ⟨h2, e6, m4.1, m4.2⟩, ⟨e7, m5.1, m5.2⟩, ⟨h3, e8, m2⟩, ⟨h4, e9, m1⟩, ⟨h5, e10, m0⟩, ⟨hr, hr2⟩⟩, by rw [h6]; exact hb, ht, ⟨fun k hk => ?_, g1.2⟩, fun k hk => ?_, ⟨g5, g6⟩, fun k hk => ?_, hz⟩
  · obtain ⟨a1, a2, a3⟩ := g1.1 k hk
    obtain ⟨b1, b2, b3⟩ := g2 k hk
    exact ⟨a1, a2, a3, b1, b2, b3⟩
  · obtain ⟨a1, a2, a3, a4, a5, a6, a7, a8, a9, a10⟩ := g3 k hk
    exact ⟨a1, a2, by omega, by omega, a5, a6, a7, a8, a9, g4 k hk⟩
  · obtain ⟨a1, a2, a3, a4, a5⟩ := g7 k hk
    exact ⟨a1, by rw [a2, ii_64 a4 a5]; exact a3.symm⟩
