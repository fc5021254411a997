/-! ===== read: behind the footer ===== -/
/-- what the reference does behind its file -/
def mtail (nf : Nat) (x1 : Int32) : Int32 × MS → Option (Int32 × MS) := fun (z_7, i_3, j_4, a_5, b_6) =>
  if z_7 = 0 then
  f_Mo_read_77 nf z_7 x1 i_3 j_4 a_5 b_6
  else
  if (4 : Int32) < 0 ∨ 5 ≤ (4 : Int32).toNatClampNeg then none else
    if (a_5 5 (4 : Int32).toNatClampNeg) ≤ 0 then
    f_Mo_read_77 nf z_7 x1 i_3 j_4 a_5 b_6
    else
    if (4 : Int32) < 0 ∨ 5 ≤ (4 : Int32).toNatClampNeg then none else
      if (a_5 23 (4 : Int32).toNatClampNeg) ≤ 0 then
      f_Mo_read_77 nf z_7 x1 i_3 j_4 a_5 b_6
      else
      (f_Mo_isContinued nf i_3 j_4 a_5 b_6).bind fun (z_22, i_18, j_19, a_20, b_21) =>
        if z_22 = 0 then
        (f_Mo_faulty nf 17 (i_18 39) i_18 j_19 a_20 b_21).bind fun (z_28, i_24, j_25, a_26, b_27) =>
          f_Mo_read_77 nf z_28 x1 i_24 j_25 a_26 b_27
        else
        f_Mo_read_77 nf z_7 x1 i_18 j_19 a_20 b_21
theorem mr15 {nf : Nat} {x1 : Int32} {si : Nat → Int32} {sj : Nat → Int64} {sa : Nat → Nat → Int32} {sb : Nat → Nat → Int64} : f_Mo_read_15 nf x1 0 si sj sa sb = (f_Mo_file nf (va_up (va_up si 3 0) 36 0) sj sa sb).bind (mtail nf x1) := by
  unfold f_Mo_read_15
  rw [if_pos (by decide)]
  rfl
section
variable {nf n q : Nat} {z : ZS} {s x1 ft ver : Int32} {s2 : Nat → Int32} {sj : Nat → Int64} {a2 : Nat → Nat → Int32} {sb : Nat → Nat → Int64}
theorem rdTail (hnf : 10000 ≤ nf) (hn : n ≤ 6000) (hq : q ≤ n) (hs : s = ii (n : Int)) (h1 : s2 1 = ii (n : Int)) (h32 : s2 32 = ii (q : Int)) (h38 : s2 38 = ver) (hz : RZon z (va_up a2 4 (upd (a2 4) 4 ver)) sb 4) (hft : z.2.2.2.2.2.2.2.2.2.2.2.2.2.2.2.2.2.2.2.2.2.2.2.2.2.2.2.1 = 0 ∨ s2 39 = ft) :
    (∃ (f pp : Int32) (si' : Nat → Int32) (sj' : Nat → Int64) (sa' : Nat → Nat → Int32), f_FP_readEnd nf 0 0 (ii (q : Int)) ft s z.2.1 z.2.2.1 z.2.2.2.2.2.2.1 z.2.2.2.2.2.2.2.1 z.2.2.2.2.2.2.2.2.1 z.2.2.2.2.2.2.2.2.2.1 z.2.2.2.2.2.2.2.2.2.2.1 z.2.2.2.2.2.2.2.2.2.2.2.2.2.1 z.2.2.2.2.2.2.2.2.2.2.2.2.2.2.1 z.2.2.2.2.2.2.2.2.2.2.2.2.2.2.2.1 z.2.2.2.2.2.2.2.2.2.2.2.2.2.2.2.2.2.2.1 z.2.2.2.2.2.2.2.2.2.2.2.2.2.2.2.2.2.2.2.2.1 z.2.2.2.2.2.2.2.2.2.2.2.2.2.2.2.2.2.2.2.2.2.1 z.2.2.2.2.2.2.2.2.2.2.2.2.2.2.2.2.2.2.2.2.2.2.1 z.2.2.2.2.2.2.2.2.2.2.2.2.2.2.2.2.2.2.2.2.2.2.2.1 z.2.2.2.2.2.2.2.2.2.2.2.2.2.2.2.2.2.2.2.2.2.2.2.2.1 z.2.2.2.2.2.2.2.2.2.2.2.2.2.2.2.2.2.2.2.2.2.2.2.2.2.1 z.2.2.2.2.2.2.2.2.2.2.2.2.2.2.2.2.2.2.2.2.2.2.2.2.2.2.2.1 z.2.2.2.2.2.2.2.2.2.2.2.2.2.2.2.2.2.2.2.2.2.2.2.2.2.2.2.2.1 z.2.2.2.2.2.2.2.2.2.2.2.2.2.2.2.2.2.2.2.2.2.2.2.2.2.2.2.2.2.1 z.2.2.2.2.2.2.2.2.2.2.2.2.2.2.2.2.2.2.2.2.2.2.2.2.2.2.2.2.2.2.1 z.2.2.2.2.2.2.2.2.2.2.2.2.2.2.2.2.2.2.2.2.2.2.2.2.2.2.2.2.2.2.2.1 z.2.2.2.2.2.2.2.2.2.2.2.2.2.2.2.2.2.2.2.2.2.2.2.2.2.2.2.2.2.2.2.2.1 z.2.2.2.2.2.2.2.2.2.2.2.2.2.2.2.2.2.2.2.2.2.2.2.2.2.2.2.2.2.2.2.2.2.1 z.2.2.2.2.2.2.2.2.2.2.2.2.2.2.2.2.2.2.2.2.2.2.2.2.2.2.2.2.2.2.2.2.2.2.1 z.2.2.2.2.2.2.2.2.2.2.2.2.2.2.2.2.2.2.2.2.2.2.2.2.2.2.2.2.2.2.2.2.2.2.2.1 z.2.2.2.2.2.2.2.2.2.2.2.2.2.2.2.2.2.2.2.2.2.2.2.2.2.2.2.2.2.2.2.2.2.2.2.2.1 z.2.2.2.2.2.2.2.2.2.2.2.2.2.2.2.2.2.2.2.2.2.2.2.2.2.2.2.2.2.2.2.2.2.2.2.2.2.1 z.2.2.2.2.2.2.2.2.2.2.2.2.2.2.2.2.2.2.2.2.2.2.2.2.2.2.2.2.2.2.2.2.2.2.2.2.2.2.1 z.2.2.2.2.2.2.2.2.2.2.2.2.2.2.2.2.2.2.2.2.2.2.2.2.2.2.2.2.2.2.2.2.2.2.2.2.2.2.2.1 z.2.2.2.2.2.2.2.2.2.2.2.2.2.2.2.2.2.2.2.2.2.2.2.2.2.2.2.2.2.2.2.2.2.2.2.2.2.2.2.2.1 z.2.2.2.2.2.2.2.2.2.2.2.2.2.2.2.2.2.2.2.2.2.2.2.2.2.2.2.2.2.2.2.2.2.2.2.2.2.2.2.2.2 = some (0, f, pp) ∧ (f_Mo_file_149 nf 4 s2 sj a2 sb).bind (mtail nf x1) = f_Mo_read_77 nf 0 x1 si' sj' sa' sb ∧ si' 36 = f ∧ si' 2 = pp ∧ ∀ {i0 : Nat → Int32} {j0 : Nat → Int64} {a0 : Nat → Nat → Int32} {b0 : Nat → Nat → Int64}, RdI i0 s2 j0 sj a0 a2 b0 sb → RdI i0 si' j0 sj' a0 sa' b0 sb) ∨
    (∃ (si' : Nat → Int32) (sj' : Nat → Int64) (sa' : Nat → Nat → Int32), f_FP_readEnd nf 0 0 (ii (q : Int)) ft s z.2.1 z.2.2.1 z.2.2.2.2.2.2.1 z.2.2.2.2.2.2.2.1 z.2.2.2.2.2.2.2.2.1 z.2.2.2.2.2.2.2.2.2.1 z.2.2.2.2.2.2.2.2.2.2.1 z.2.2.2.2.2.2.2.2.2.2.2.2.2.1 z.2.2.2.2.2.2.2.2.2.2.2.2.2.2.1 z.2.2.2.2.2.2.2.2.2.2.2.2.2.2.2.1 z.2.2.2.2.2.2.2.2.2.2.2.2.2.2.2.2.2.2.1 z.2.2.2.2.2.2.2.2.2.2.2.2.2.2.2.2.2.2.2.2.1 z.2.2.2.2.2.2.2.2.2.2.2.2.2.2.2.2.2.2.2.2.2.1 z.2.2.2.2.2.2.2.2.2.2.2.2.2.2.2.2.2.2.2.2.2.2.1 z.2.2.2.2.2.2.2.2.2.2.2.2.2.2.2.2.2.2.2.2.2.2.2.1 z.2.2.2.2.2.2.2.2.2.2.2.2.2.2.2.2.2.2.2.2.2.2.2.2.1 z.2.2.2.2.2.2.2.2.2.2.2.2.2.2.2.2.2.2.2.2.2.2.2.2.2.1 z.2.2.2.2.2.2.2.2.2.2.2.2.2.2.2.2.2.2.2.2.2.2.2.2.2.2.2.1 z.2.2.2.2.2.2.2.2.2.2.2.2.2.2.2.2.2.2.2.2.2.2.2.2.2.2.2.2.1 z.2.2.2.2.2.2.2.2.2.2.2.2.2.2.2.2.2.2.2.2.2.2.2.2.2.2.2.2.2.1 z.2.2.2.2.2.2.2.2.2.2.2.2.2.2.2.2.2.2.2.2.2.2.2.2.2.2.2.2.2.2.1 z.2.2.2.2.2.2.2.2.2.2.2.2.2.2.2.2.2.2.2.2.2.2.2.2.2.2.2.2.2.2.2.1 z.2.2.2.2.2.2.2.2.2.2.2.2.2.2.2.2.2.2.2.2.2.2.2.2.2.2.2.2.2.2.2.2.1 z.2.2.2.2.2.2.2.2.2.2.2.2.2.2.2.2.2.2.2.2.2.2.2.2.2.2.2.2.2.2.2.2.2.1 z.2.2.2.2.2.2.2.2.2.2.2.2.2.2.2.2.2.2.2.2.2.2.2.2.2.2.2.2.2.2.2.2.2.2.1 z.2.2.2.2.2.2.2.2.2.2.2.2.2.2.2.2.2.2.2.2.2.2.2.2.2.2.2.2.2.2.2.2.2.2.2.1 z.2.2.2.2.2.2.2.2.2.2.2.2.2.2.2.2.2.2.2.2.2.2.2.2.2.2.2.2.2.2.2.2.2.2.2.2.1 z.2.2.2.2.2.2.2.2.2.2.2.2.2.2.2.2.2.2.2.2.2.2.2.2.2.2.2.2.2.2.2.2.2.2.2.2.2.1 z.2.2.2.2.2.2.2.2.2.2.2.2.2.2.2.2.2.2.2.2.2.2.2.2.2.2.2.2.2.2.2.2.2.2.2.2.2.2.1 z.2.2.2.2.2.2.2.2.2.2.2.2.2.2.2.2.2.2.2.2.2.2.2.2.2.2.2.2.2.2.2.2.2.2.2.2.2.2.2.1 z.2.2.2.2.2.2.2.2.2.2.2.2.2.2.2.2.2.2.2.2.2.2.2.2.2.2.2.2.2.2.2.2.2.2.2.2.2.2.2.2.1 z.2.2.2.2.2.2.2.2.2.2.2.2.2.2.2.2.2.2.2.2.2.2.2.2.2.2.2.2.2.2.2.2.2.2.2.2.2.2.2.2.2 = some (1, 0, 0) ∧ (f_Mo_file_149 nf 4 s2 sj a2 sb).bind (mtail nf x1) = f_Mo_read_77 nf 1 x1 si' sj' sa' sb ∧ si' 36 = s2 36 ∧ si' 2 = s2 2 ∧ (∀ {i0 : Nat → Int32} {j0 : Nat → Int64} {a0 : Nat → Nat → Int32} {b0 : Nat → Nat → Int64}, RdI i0 s2 j0 sj a0 a2 b0 sb → RdI i0 si' j0 sj' a0 sa' b0 sb) ∧ RZon z sa' sb 4) := by
  have n4 : ¬ ((4 : Int32) < 0 ∨ 5 ≤ 4) := by decide
  have z4 : (4 : Int32).toNatClampNeg = 4 := rfl
  have k4 : kAz 4 4 4 := by unfold kAz; omega
  obtain ⟨nn, t, r, tm, tt, hs', b, e, O, D, Z, B, hv⟩ := hz.view (by omega)
  obtain ⟨d1, d2, d3, d4, d5, d6, d7, d8, d9⟩ := id hv.1
  obtain ⟨r1, r2, r3⟩ := id hv.2.1
  have key : ∀ {j : Nat → Int64} {i0 : Nat → Int32} {j0 : Nat → Int64} {a0 : Nat → Nat → Int32} {b0 : Nat → Nat → Int64}, RdI i0 s2 j0 j a0 a2 b0 sb → RdI i0 s2 j0 j a0 (va_up a2 4 (upd (a2 4) 4 ver)) b0 sb := fun h => h.c4 k4
  generalize hA : va_up a2 4 (upd (a2 4) 4 ver) = A4 at hz hv d6 d8 d9 r3 key
  unfold f_Mo_file_149 f_FP_readEnd f_FP_readEnd_0
  rw [z4, if_neg n4, h32, h1, hs, h38, hA]
  by_cases cq : q = n
  · subst cq
    rw [if_pos (iple (c := 0) (d := 0) (show q ≤ q by omega) (by omega)), if_pos rfl]
    have e183 : f_Mo_file_183 nf s2 sj A4 sb = some (1, s2, sj, A4, sb) := rfl
    rw [e183, Option.bind_some]
    unfold mtail
    dsimp only
    rw [if_neg (show ¬ (1 : Int32) = 0 by decide), z4, if_neg n4, d6, d5]
    by_cases c0 : nn = 0
    · subst c0
      rw [if_pos (show ii ((0 : Nat) : Int) - 1 < 0 by decide), if_pos (show ii ((0 : Nat) : Int) ≤ 0 by decide)]
      exact Or.inr ⟨s2, sj, A4, rfl, rfl, rfl, rfl, fun h => key h, hz⟩
    · have ek : ii (nn : Int) - 1 = ii ((nn - 1 : Nat) : Int) := by rw [ii_lit, ii_sub, show (nn : Int) - 1 = ((nn - 1 : Nat) : Int) by omega]
      obtain ⟨i1, i2⟩ := nidx (k := nn - 1) (m := 200) (by omega) (by omega)
      rw [ek, if_neg (fun y => i2 (Or.inl y)), if_neg (show ¬ ii (nn : Int) ≤ 0 by rw [ii_lit, ii_le (by omega) (by omega) (by omega) (by omega)]; omega), if_neg n4]
      unfold f_Rule_isThere f_Rule_isThere_0 f_Rule_isThere_15
      rw [r1]
      by_cases cr : r = 0
      · subst cr
        have e23 : A4 23 4 = 0 := by
          rcases r3 with ⟨_, g, _⟩ | ⟨g, _⟩ | ⟨g, _⟩
          · exact g
          · omega
          · omega
        rw [if_pos (show ii ((0 : Nat) : Int) ≤ 0 by decide), e23, if_pos (show (0 : Int32) ≤ 0 by decide)]
        exact Or.inr ⟨s2, sj, A4, rfl, rfl, rfl, rfl, fun h => key h, hz⟩
      · have e23 : ¬ A4 23 4 ≤ 0 := by
          rcases r3 with ⟨g, _⟩ | ⟨_, _, g, _⟩ | ⟨_, _, g, _⟩
          · omega
          · rw [g]; decide
          · rw [g]; decide
        have hft' : s2 39 = ft := hft.resolve_left (fun y => by
          rw [r1, ii_lit, ii_eq (by omega) (by omega) (by omega) (by omega)] at y
          omega)
        obtain ⟨ok, g, si', sj', sa', g1, g2, g3, g4⟩ := hv.cont (nf := nf) (si := s2) (sj := sj) hnf (by omega) (by omega)
        obtain ⟨t1, t2, t3, t4, t5, t6⟩ := d9.1 (nn - 1) (by omega)
        rw [d5, r1] at g1
        rw [r1] at g2
        rw [if_neg (show ¬ ii (r : Int) ≤ 0 by rw [ii_lit, ii_le (by omega) (by omega) (by omega) (by omega)]; omega), if_neg e23, g3, Option.bind_some, if_pos (show (1 : Int32) = 0 ∨ (1 : Int32) = 1 from Or.inr rfl), Option.bind_some, if_neg (show ¬ (1 : Int32) = 0 by decide), i1, if_neg i2, t1, g1, Option.bind_some, if_neg i2, t4, g2, Option.bind_some]
        dsimp only
        cases ok with
        | false =>
          rw [if_pos (show bI false = 0 from rfl), if_pos (show bI false = 0 from rfl)]
          refine Or.inl ⟨17, ft, va_up (va_up si' 36 17) 2 (si' 39), sj', sa', rfl, rfl, rfl, ?_, fun h => ((key h).qf g4).flt _ _⟩
          rw [vup_eq, g4.1 39 (by omega)]
          exact hft'
        | true =>
          rw [if_neg (show ¬ bI true = 0 by decide), if_neg (show ¬ bI true = 0 by decide)]
          refine Or.inr ⟨si', sj', sa', rfl, rfl, g4.1 36 (by omega), g4.1 2 (by omega), fun h => (key h).qf g4, hz.congr (fun a j ha => ?_) (fun _ _ _ => rfl)⟩
          rw [g4.2.2 a (by unfold kAz at ha; omega) (by unfold kAz at ha; omega)]
  · have ne : ¬ ii (q : Int) = ii (n : Int) := by rw [ii_eq (by omega) (by omega) (by omega) (by omega)]; omega
    rw [if_neg (inle (show q < n by omega) (by omega)), if_neg ne]
    exact Or.inl ⟨16, ii (q : Int), va_up (va_up s2 36 16) 2 (ii (q : Int)), sj, A4, rfl, rfl, rfl, rfl, fun h => (key h).flt _ _⟩
end
