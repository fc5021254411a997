/-! ===== the reference's start, whole ===== -/
theorem minit_ok {nf : Nat} (hnf : 10000 ≤ nf) : ∃ (vi : Nat → Int32) (va : Nat → Nat → Int32) (vb : Nat → Nat → Int64), f_Mo_init_335 nf (va_up (fun _ => 0) 2 (-1)) (fun _ => 0) (fun _ _ => 0) (fun _ _ => 0) = some (vi, (fun _ => 0), va, vb) ∧ (vi 1 = 0 ∧ vi 2 = -1 ∧ vi 55 = 0 ∧ vi 57 = 0 ∧ vi 61 = 0) ∧ ∀ z : Nat → ZS, (∀ i, i < 4 → utcZ (z i)) → ∀ i, i < 4 → RZon (z i) va vb i := by
  have z0 : (0 : Int32).toNatClampNeg = 0 := rfl
  have z1 : (1 : Int32).toNatClampNeg = 1 := rfl
  have z2 : (2 : Int32).toNatClampNeg = 2 := rfl
  have z3 : (3 : Int32).toNatClampNeg = 3 := rfl
  unfold f_Mo_init_335
  rw [z0, z1, z2, z3, if_neg (show ¬ ((0 : Int32) < 0 ∨ 6000 ≤ 0) by decide), if_neg (show ¬ ((1 : Int32) < 0 ∨ 6000 ≤ 1) by decide), if_neg (show ¬ ((2 : Int32) < 0 ∨ 6000 ≤ 2) by decide), if_neg (show ¬ ((3 : Int32) < 0 ∨ 6000 ≤ 3) by decide)]
  generalize hA : va_up (va_up (va_up (va_up (fun _ _ => (0 : Int32)) 0 (upd ((fun _ _ => (0 : Int32)) 0) 0 85)) 0 (upd (upd ((fun _ _ => (0 : Int32)) 0) 0 85) 1 84)) 0 (upd (upd (upd ((fun _ _ => (0 : Int32)) 0) 0 85) 1 84) 2 67)) 0 (upd (upd (upd (upd ((fun _ _ => (0 : Int32)) 0) 0 85) 1 84) 2 67) 3 48) = A0
  have hT : ∀ k, k < 4 → A0 0 k = utcT k := fun k hk => by
    rw [← hA]
    rcases (show k = 0 ∨ k = 1 ∨ k = 2 ∨ k = 3 by omega) with rfl | rfl | rfl | rfl <;> rfl
  obtain ⟨f, hf⟩ : ∃ f, nf = f + 1 + 1 + 1 + 1 + 1 := ⟨nf - 5, by omega⟩
  have e0 : f_Mo_init_369 nf nf 0 (va_up (fun _ => 0) 2 (-1)) (fun _ => 0) A0 (fun _ _ => 0) = f_Mo_init_369 nf (f + 1 + 1 + 1 + 1 + 1) (ii ((0 : Nat) : Int)) (va_up (fun _ => 0) 2 (-1)) (fun _ => 0) A0 (fun _ _ => 0) := by
    rw [← hf]
    rfl
  rw [e0]
  obtain ⟨s1, a1, b1, x1, i1, t1, w1, r1, u1, v1⟩ := mi_it (nf := nf) (sj := fun _ => 0) hnf (i := 0) (by omega) (si := va_up (fun _ => 0) 2 (-1)) (sb := fun _ _ => 0) hT (f + 1 + 1 + 1 + 1)
  obtain ⟨s2, a2, b2, x2, i2, t2, w2, r2, u2, v2⟩ := mi_it (nf := nf) (sj := fun _ => 0) hnf (i := 1) (by omega) (si := s1) (sa := a1) (sb := b1) (fun k hk => (t1 k).trans (hT k hk)) (f + 1 + 1 + 1)
  obtain ⟨s3, a3, b3, x3, i3, t3, w3, r3, u3, v3⟩ := mi_it (nf := nf) (sj := fun _ => 0) hnf (i := 2) (by omega) (si := s2) (sa := a2) (sb := b2) (fun k hk => (t2 k).trans ((t1 k).trans (hT k hk))) (f + 1 + 1)
  obtain ⟨s4, a4, b4, x4, i4, t4, w4, r4, u4, v4⟩ := mi_it (nf := nf) (sj := fun _ => 0) hnf (i := 3) (by omega) (si := s3) (sa := a3) (sb := b3) (fun k hk => (t3 k).trans ((t2 k).trans ((t1 k).trans (hT k hk)))) (f + 1)
  have i5 : ∀ k, k ≠ 1 → k < 32 ∨ 35 < k → s4 k = va_up (fun _ => (0 : Int32)) 2 (-1) k := fun k h1 h2 => (i4 k h1 h2).trans ((i3 k h1 h2).trans ((i2 k h1 h2).trans (i1 k h1 h2)))
  refine ⟨va_up s4 1 0, a4, b4, ?_, ⟨rfl, ?_, ?_, ?_, ?_⟩, fun z hz i hi => ?_⟩
  · rw [x1, x2, x3, x4, f_Mo_init_369, if_pos (by decide)]
  · rw [vup_ne (by decide), i5 2 (by decide) (by omega)]
    rfl
  · rw [vup_ne (by decide), i5 55 (by decide) (by omega)]
    rfl
  · rw [vup_ne (by decide), i5 57 (by decide) (by omega)]
    rfl
  · rw [vup_ne (by decide), i5 61 (by decide) (by omega)]
    rfl
  · rcases (show i = 0 ∨ i = 1 ∨ i = 2 ∨ i = 3 by omega) with rfl | rfl | rfl | rfl
    · have g1 := (r1 (z 0) (hz 0 (by omega))).congr (u2 0 (by omega) (by omega)) (fun b j hk => v2 b j (kBz_dis hk (by omega)))
      have g2 := g1.congr (u3 0 (by omega) (by omega)) (fun b j hk => v3 b j (kBz_dis hk (by omega)))
      exact g2.congr (u4 0 (by omega) (by omega)) (fun b j hk => v4 b j (kBz_dis hk (by omega)))
    · have g2 := (r2 (z 1) (hz 1 (by omega))).congr (u3 1 (by omega) (by omega)) (fun b j hk => v3 b j (kBz_dis hk (by omega)))
      exact g2.congr (u4 1 (by omega) (by omega)) (fun b j hk => v4 b j (kBz_dis hk (by omega)))
    · exact (r3 (z 2) (hz 2 (by omega))).congr (u4 2 (by omega) (by omega)) (fun b j hk => v4 b j (kBz_dis hk (by omega)))
    · exact r4 (z 3) (hz 3 (by omega))
/-! the class's zone UTC0 -/
theorem minit_rr {vi : Nat → Int32} {va : Nat → Nat → Int32} {vb : Nat → Nat → Int64} {S : CS} (h : vi 1 = 0 ∧ vi 2 = -1 ∧ vi 55 = 0 ∧ vi 57 = 0 ∧ vi 61 = 0) (hz : ∀ z : Nat → ZS, (∀ i, i < 4 → utcZ (z i)) → ∀ i, i < 4 → RZon (z i) va vb i) (hu : ∀ i, i < 4 → utcZ (S.2 i)) (h4 : RSpa (S.2 4)) (ht : RB S.1.1 S.1.2.1 S.1.2.2.1 0 (va 0)) (hw : RB S.1.2.2.2.1 S.1.2.2.2.2.1 S.1.2.2.2.2.2.1 0 (va 56)) (hf : S.1.2.2.2.2.2.2.2.1 = -1) (hc : S.1.2.2.2.2.2.2.1 = 0) (hl : S.1.2.2.2.2.2.2.2.2.2.1 = 0) : RR S (vi, (fun _ => 0), va, vb) := by
  obtain ⟨v1, v2, v55, v57, v61⟩ := h
  refine ⟨⟨0, by omega, ht, v1⟩, ⟨0, by omega, hw, v57⟩, hf.trans v2.symm, ⟨0, by omega, hc, v55, fun k hk => by omega⟩, ⟨0, by omega, hl, v61, fun z => by omega⟩, hz S.2 hu, h4⟩
