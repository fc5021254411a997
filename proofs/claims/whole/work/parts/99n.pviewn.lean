/-! ===== steps ===== -/
/-- only the mark 'never changes' is another -/
def zNev (z : ZS) (f : Int32) : ZS := (z.1, z.2.1, z.2.2.1, z.2.2.2.1, z.2.2.2.2.1, z.2.2.2.2.2.1, z.2.2.2.2.2.2.1, z.2.2.2.2.2.2.2.1, z.2.2.2.2.2.2.2.2.1, z.2.2.2.2.2.2.2.2.2.1, z.2.2.2.2.2.2.2.2.2.2.1, z.2.2.2.2.2.2.2.2.2.2.2.1, z.2.2.2.2.2.2.2.2.2.2.2.2.1, z.2.2.2.2.2.2.2.2.2.2.2.2.2.1, z.2.2.2.2.2.2.2.2.2.2.2.2.2.2.1, z.2.2.2.2.2.2.2.2.2.2.2.2.2.2.2.1, z.2.2.2.2.2.2.2.2.2.2.2.2.2.2.2.2.1, z.2.2.2.2.2.2.2.2.2.2.2.2.2.2.2.2.2.1, z.2.2.2.2.2.2.2.2.2.2.2.2.2.2.2.2.2.2.1, z.2.2.2.2.2.2.2.2.2.2.2.2.2.2.2.2.2.2.2.1, z.2.2.2.2.2.2.2.2.2.2.2.2.2.2.2.2.2.2.2.2.1, z.2.2.2.2.2.2.2.2.2.2.2.2.2.2.2.2.2.2.2.2.2.1, z.2.2.2.2.2.2.2.2.2.2.2.2.2.2.2.2.2.2.2.2.2.2.1, z.2.2.2.2.2.2.2.2.2.2.2.2.2.2.2.2.2.2.2.2.2.2.2.1, z.2.2.2.2.2.2.2.2.2.2.2.2.2.2.2.2.2.2.2.2.2.2.2.2.1, z.2.2.2.2.2.2.2.2.2.2.2.2.2.2.2.2.2.2.2.2.2.2.2.2.2.1, f, z.2.2.2.2.2.2.2.2.2.2.2.2.2.2.2.2.2.2.2.2.2.2.2.2.2.2.2.1, z.2.2.2.2.2.2.2.2.2.2.2.2.2.2.2.2.2.2.2.2.2.2.2.2.2.2.2.2.1, z.2.2.2.2.2.2.2.2.2.2.2.2.2.2.2.2.2.2.2.2.2.2.2.2.2.2.2.2.2.1, z.2.2.2.2.2.2.2.2.2.2.2.2.2.2.2.2.2.2.2.2.2.2.2.2.2.2.2.2.2.2.1, z.2.2.2.2.2.2.2.2.2.2.2.2.2.2.2.2.2.2.2.2.2.2.2.2.2.2.2.2.2.2.2.1, z.2.2.2.2.2.2.2.2.2.2.2.2.2.2.2.2.2.2.2.2.2.2.2.2.2.2.2.2.2.2.2.2.1, z.2.2.2.2.2.2.2.2.2.2.2.2.2.2.2.2.2.2.2.2.2.2.2.2.2.2.2.2.2.2.2.2.2.1, z.2.2.2.2.2.2.2.2.2.2.2.2.2.2.2.2.2.2.2.2.2.2.2.2.2.2.2.2.2.2.2.2.2.2.1, z.2.2.2.2.2.2.2.2.2.2.2.2.2.2.2.2.2.2.2.2.2.2.2.2.2.2.2.2.2.2.2.2.2.2.2.1, z.2.2.2.2.2.2.2.2.2.2.2.2.2.2.2.2.2.2.2.2.2.2.2.2.2.2.2.2.2.2.2.2.2.2.2.2.1, z.2.2.2.2.2.2.2.2.2.2.2.2.2.2.2.2.2.2.2.2.2.2.2.2.2.2.2.2.2.2.2.2.2.2.2.2.2.1, z.2.2.2.2.2.2.2.2.2.2.2.2.2.2.2.2.2.2.2.2.2.2.2.2.2.2.2.2.2.2.2.2.2.2.2.2.2.2.1, z.2.2.2.2.2.2.2.2.2.2.2.2.2.2.2.2.2.2.2.2.2.2.2.2.2.2.2.2.2.2.2.2.2.2.2.2.2.2.2.1, z.2.2.2.2.2.2.2.2.2.2.2.2.2.2.2.2.2.2.2.2.2.2.2.2.2.2.2.2.2.2.2.2.2.2.2.2.2.2.2.2.1, z.2.2.2.2.2.2.2.2.2.2.2.2.2.2.2.2.2.2.2.2.2.2.2.2.2.2.2.2.2.2.2.2.2.2.2.2.2.2.2.2.2)
def nevK (b e : ET) (hs : Bool) (f : Int32) : Prop := hs = true → (f = 0 ∨ f = 1 ∧ ∀ x y : Int, suB b e x = suB b e y)
section
variable {z : ZS} {sa : Nat → Nat → Int32} {sb : Nat → Nat → Int64} {i : Nat}
theorem RZon.viewN (hi : i < 5) (h : RZon z sa sb i) : ∃ (n t r : Nat) (tm : Nat → Int) (tt : Nat → Nat) (hs : Bool) (b e : ET) (O D : Int → Int) (Z : Int → Nat) (B : Int → Nat → Int32), ZV z sa sb i n t r tm tt hs b e O D Z B ∧ nevK b e hs z.2.2.2.2.2.2.2.2.2.2.2.2.2.2.2.2.2.2.2.2.2.2.2.2.2.2.1 ∧ ∀ f, nevK b e hs f → RZon (zNev z f) sa sb i := by
  obtain ⟨n, t, c, l, d, u, r, tm, tt, of, ds, ix, sz, ⟨c1, c2, ⟨c3, c4, c5⟩, ⟨c6, c7, c8, c9⟩, ⟨c10, c11, c12⟩, ⟨c13, c14, c15⟩, ⟨c16, c17, c18⟩, ⟨c19, c20, c21⟩, ⟨c22, c23⟩⟩, h1, h2, h3, h4, h5, h6, h7⟩ := id h
  have hcnt : ZCnt z sa i n t c l d u r := ⟨c1, c2, ⟨c3, c4, c5⟩, ⟨c6, c7, c8, c9⟩, ⟨c10, c11, c12⟩, ⟨c13, c14, c15⟩, ⟨c16, c17, c18⟩, ⟨c19, c20, c21⟩, ⟨c22, c23⟩⟩
  have typ : ∀ (so uo : Int) (ss us sp up : Nat), ∀ g : Nat, g < t → (-100000 ≤ vO of so uo g ∧ vO of so uo g ≤ 100000 ∧ (vD ds g = 0 ∨ vD ds g = 1) ∧ 3 ≤ vZ sz ss us g ∧ vZ sz ss us g ≤ 10 ∧ VC z (vO of so uo) (vD ds) (vZ sz ss us) (vB (fun k => sa 17 (200 * i + k)) (fun k => sa 22 (128 * i + k)) ix sp up) g) ∧ VM sa i (vO of so uo) (vD ds) (vZ sz ss us) (vB (fun k => sa 17 (200 * i + k)) (fun k => sa 22 (128 * i + k)) ix sp up) g := by
    intro so uo ss us sp up g hg
    obtain ⟨g1, g2, g3, g4, g5, g6, g7, g8, g9, g10⟩ := h4 g hg
    have eO : vO of so uo g = of g := by unfold vO; rw [vnat]; rfl
    have eD : vD ds g = ds g := by unfold vD; rw [vnat]; rfl
    have eZ : vZ sz ss us g = sz g := by unfold vZ; rw [vnat]; rfl
    have eB : ∀ k, vB (fun k => sa 17 (200 * i + k)) (fun k => sa 22 (128 * i + k)) ix sp up g k = sa 17 (200 * i + (ix g + k)) := by intro k; unfold vB; rw [vnat]; rfl
    refine ⟨⟨by omega, by omega, by rw [eD]; exact g7, by rw [eZ]; exact g10.1, by rw [eZ]; exact g10.2.1, vc_type c6 c9 h1 c12 hg g1 g5 g8 g10 eO eD eZ (fun k _ => eB k)⟩, ?_⟩
    unfold VM
    rw [eO, eD, eZ]
    exact ⟨g2, g6, ix g, c, g9, c10, c12, g10.2.2.1, g10.nz, fun k _ => (eB k).symm⟩
  rcases h7 with ⟨q1, q2, q3, q9⟩ | ⟨q1, wd, sp, ss, so, x, q2, q3, q4, q5, q6, q7, q8⟩
  · subst q1
    refine ⟨n, t, 0, tm, tt, false, (0, 0, 0, 0, 0, 0), (0, 0, 0, 0, 0, 0), vO of 0 0, vD ds, vZ sz 0 0, vB (fun k => sa 17 (200 * i + k)) (fun k => sa 22 (128 * i + k)) ix 0 0, ⟨⟨hi, c5, c8, c9, c3, c4, c6, c7, h3⟩, ⟨h2.1, by omega, Or.inl ⟨rfl, q2, q3, rfl⟩⟩, ⟨fun g hg => ?_, fun g hg => (typ 0 0 0 0 0 0 g hg).2, fun hr => by omega, fun hr => by omega⟩⟩, fun hh => (by cases hh), fun f _ => ⟨n, t, c, l, d, u, 0, tm, tt, of, ds, ix, sz, hcnt, h1, h2, h3, h4, h5, h6, Or.inl ⟨rfl, q2, q3, q9⟩⟩⟩
    rcases hg with ⟨g1, g2⟩ | ⟨g1, _⟩ | ⟨g1, _⟩
    · obtain ⟨m, rfl⟩ : ∃ m : Nat, g = (m : Int) := ⟨g.toNat, by omega⟩
      exact (typ 0 0 0 0 0 0 m (by omega)).1
    · omega
    · omega
  · obtain ⟨s1, s2, s3, s4, s5, s6, s7⟩ := id q3
    match x, q8 with
    | none, ⟨x1, x2, x3⟩ =>
      have std : ∀ g : Int, g = -1 → (-100000 ≤ vO of so 0 g ∧ vO of so 0 g ≤ 100000 ∧ (vD ds g = 0 ∨ vD ds g = 1) ∧ 3 ≤ vZ sz ss 0 g ∧ vZ sz ss 0 g ≤ 10 ∧ VC z (vO of so 0) (vD ds) (vZ sz ss 0) (vB (fun k => sa 17 (200 * i + k)) (fun k => sa 22 (128 * i + k)) ix sp 0) g) := by
        rintro g rfl
        refine ⟨?_, ?_, Or.inl rfl, ?_, ?_, vc_rule false c6 c9 h2 c23 s5 q4 s1 s2 rfl rfl rfl rfl (fun k _ => rfl)⟩
        · show -100000 ≤ so; omega
        · show so ≤ 100000; omega
        · show 3 ≤ ss; omega
        · show ss ≤ 10; omega
      refine ⟨n, t, r, tm, tt, false, (0, 0, 0, 0, 0, 0), (0, 0, 0, 0, 0, 0), vO of so 0, vD ds, vZ sz ss 0, vB (fun k => sa 17 (200 * i + k)) (fun k => sa 22 (128 * i + k)) ix sp 0, ⟨⟨hi, c5, c8, c9, c3, c4, c6, c7, h3⟩, ⟨h2.1, c23, Or.inr (Or.inl ⟨q1, rfl, x2, x1⟩)⟩, ⟨fun g hg => ?_, fun g hg => (typ so 0 ss 0 sp 0 g hg).2, fun hr => ⟨q5, rfl, s6, fun k hk => (s7 k hk).1⟩, fun hr hh => by cases hh⟩⟩, fun hh => (by cases hh), fun f _ => ⟨n, t, c, l, d, u, r, tm, tt, of, ds, ix, sz, hcnt, h1, h2, h3, h4, h5, h6, Or.inr ⟨q1, wd, sp, ss, so, none, q2, q3, q4, q5, q6, q7, x1, x2, x3⟩⟩⟩
      rcases hg with ⟨g1, g2⟩ | ⟨_, g1⟩ | ⟨_, g1, _⟩
      · obtain ⟨m, rfl⟩ : ∃ m : Nat, g = (m : Int) := ⟨g.toNat, by omega⟩
        exact (typ so 0 ss 0 sp 0 m (by omega)).1
      · exact std g g1
      · cases g1
    | some (up, us, uo, d1, t1, d2, t2, w), ⟨x1, x2, x3, x4, x5, x6, x7, x8, x9, x10, x11, x12⟩ =>
      obtain ⟨u1, u2, u3, u4, u5, u6, u7⟩ := id x4
      have std : ∀ g : Int, g = -1 → (-100000 ≤ vO of so uo g ∧ vO of so uo g ≤ 100000 ∧ (vD ds g = 0 ∨ vD ds g = 1) ∧ 3 ≤ vZ sz ss us g ∧ vZ sz ss us g ≤ 10 ∧ VC z (vO of so uo) (vD ds) (vZ sz ss us) (vB (fun k => sa 17 (200 * i + k)) (fun k => sa 22 (128 * i + k)) ix sp up) g) := by
        rintro g rfl
        refine ⟨?_, ?_, Or.inl rfl, ?_, ?_, vc_rule false c6 c9 h2 c23 s5 q4 s1 s2 rfl rfl rfl rfl (fun k _ => rfl)⟩
        · show -100000 ≤ so; omega
        · show so ≤ 100000; omega
        · show 3 ≤ ss; omega
        · show ss ≤ 10; omega
      have sum : ∀ g : Int, g = -2 → (-100000 ≤ vO of so uo g ∧ vO of so uo g ≤ 100000 ∧ (vD ds g = 0 ∨ vD ds g = 1) ∧ 3 ≤ vZ sz ss us g ∧ vZ sz ss us g ≤ 10 ∧ VC z (vO of so uo) (vD ds) (vZ sz ss us) (vB (fun k => sa 17 (200 * i + k)) (fun k => sa 22 (128 * i + k)) ix sp up) g) := by
        rintro g rfl
        refine ⟨?_, ?_, Or.inr rfl, ?_, ?_, vc_rule true c6 c9 h2 c23 u5 x5 u1 u2 rfl rfl rfl rfl (fun k _ => rfl)⟩
        · show -100000 ≤ uo; omega
        · show uo ≤ 100000; omega
        · show 3 ≤ us; omega
        · show us ≤ 10; omega
      refine ⟨n, t, r, tm, tt, true, bET so d1 t1, bET uo d2 t2, vO of so uo, vD ds, vZ sz ss us, vB (fun k => sa 17 (200 * i + k)) (fun k => sa 22 (128 * i + k)) ix sp up, ⟨⟨hi, c5, c8, c9, c3, c4, c6, c7, h3⟩, ⟨h2.1, c23, Or.inr (Or.inr ⟨q1, rfl, x2, x1, x9, x10, x11⟩)⟩, ⟨fun g hg => ?_, fun g hg => (typ so uo ss us sp up g hg).2, fun hr => ⟨q5, rfl, s6, fun k hk => (s7 k hk).1⟩, fun hr hh => ⟨x6, rfl, u6, fun k hk => (u7 k hk).1⟩⟩⟩, fun _ => x12.imp id (fun w => ⟨w.1, fun x y => decide_eq_decide.mpr (w.2 x y)⟩), fun f hf => ⟨n, t, c, l, d, u, r, tm, tt, of, ds, ix, sz, hcnt, h1, h2, h3, h4, h5, h6, Or.inr ⟨q1, wd, sp, ss, so, some (up, us, uo, d1, t1, d2, t2, w), q2, q3, q4, q5, q6, q7, x1, x2, x3, x4, x5, x6, x7, x8, x9, x10, x11, (hf rfl).imp id (fun w => ⟨w.1, fun x y => decide_eq_decide.mp (w.2 x y)⟩)⟩⟩⟩
      rcases hg with ⟨g1, g2⟩ | ⟨_, g1⟩ | ⟨_, _, g1⟩
      · obtain ⟨m, rfl⟩ : ∃ m : Nat, g = (m : Int) := ⟨g.toNat, by omega⟩
        exact (typ so uo ss us sp up m (by omega)).1
      · exact std g g1
      · exact sum g g1
end
