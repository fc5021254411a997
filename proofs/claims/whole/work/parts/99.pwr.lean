/-! ===== write: both write the same bytes ===== -/
/-- class and reference write from n to m bytes -/
def Wr (n m : Nat) (fc : Option ((Int32 × Nat × (Nat → Int32)) × Nat × Nat)) (fm : Option MS) (N : Nat) (si : Nat → Int32) (sj : Nat → Int64) (sa : Nat → Nat → Int32) (sb : Nat → Nat → Int64) : Prop :=
  ∃ (N' : Nat) (A' : Nat → Int32) (kc ks : Nat) (si' : Nat → Int32) (sa' : Nat → Nat → Int32), fc = some ((ii (m : Int), N', A'), kc, ks) ∧ fm = some (si', sj, sa', sb) ∧ RB (ii (m : Int)) N' A' m (sa' 58) ∧ si' 59 = ii (m : Int) ∧ kc + N ≤ N' ∧ ks + 2 * N ≤ 2 * N' ∧ (∀ k, k ≠ 59 → si' k = si k) ∧ ∀ a, a ≠ 58 → sa' a = sa a
section
variable {nf n m q N : Nat} {si : Nat → Int32} {sj : Nat → Int64} {sa : Nat → Nat → Int32} {sb : Nat → Nat → Int64}
theorem wr_bind {fc : Option ((Int32 × Nat × (Nat → Int32)) × Nat × Nat)} {fm : Option MS} {gc : Int32 → Nat → (Nat → Int32) → Option ((Int32 × Nat × (Nat → Int32)) × Nat × Nat)} {gm : (Nat → Int32) → (Nat → Int64) → (Nat → Nat → Int32) → (Nat → Nat → Int64) → Option MS} (h : Wr n m fc fm N si sj sa sb) (k : ∀ (N' : Nat) (A' : Nat → Int32) (si' : Nat → Int32) (sa' : Nat → Nat → Int32), RB (ii (m : Int)) N' A' m (sa' 58) → si' 59 = ii (m : Int) → (∀ k, k ≠ 59 → si' k = si k) → (∀ a, a ≠ 58 → sa' a = sa a) → Wr m q (gc (ii (m : Int)) N' A') (gm si' sj sa' sb) N' si' sj sa' sb) :
    Wr n q (fc.bind fun x => ad x.2.1 x.2.2 (gc x.1.1 x.1.2.1 x.1.2.2)) (fm.bind fun x => gm x.1 x.2.1 x.2.2.1 x.2.2.2) N si sj sa sb := by
  obtain ⟨N', A', kc, ks, si', sa', e1, e2, r1, r2, r3, r4, r5, r6⟩ := h
  obtain ⟨N2, A2, kc2, ks2, si2, sa2, f1, f2, s1, s2, s3, s4, s5, s6⟩ := k N' A' si' sa' r1 r2 r5 r6
  refine ⟨N2, A2, kc2 + kc, ks2 + ks, si2, sa2, ?_, ?_, s1, s2, by omega, by omega, fun k hk => (s5 k hk).trans (r5 k hk), fun a ha => (s6 a ha).trans (r6 a ha)⟩
  · rw [e1, Option.bind_some]
    dsimp only
    rw [f1]
    rfl
  · rw [e2, Option.bind_some]
    exact f2
theorem pn5 (x : Int64) : ∀ (w n : Nat), w ≤ 8 → n + w ≤ 6000 → ∀ (fu fu' : Nat), w < fu → w < fu' → ∀ {s : Int32} {N : Nat} {A : Nat → Int32} {si : Nat → Int32} {sa : Nat → Nat → Int32}, RB s N A n (sa 58) → si 59 = ii (n : Int) → Wr n (n + w) (f_By_putNumber_5 nf fu (ii ((w : Int) - 1)) x s N A) (f_Mo_putNumber_5 nf fu' (ii ((w : Int) - 1)) x si sj sa sb) N si sj sa sb := by
  intro w
  induction w with
  | zero =>
    intro n _ hn fu fu' hf hf' s N A si sa h h59
    obtain ⟨f, rfl⟩ : ∃ f, fu = f + 1 := ⟨fu - 1, by omega⟩
    obtain ⟨f', rfl⟩ : ∃ f', fu' = f' + 1 := ⟨fu' - 1, by omega⟩
    rw [f_By_putNumber_5, if_pos (by decide), f_Mo_putNumber_5, if_pos (by decide)]
    have e := h.1
    exact ⟨N, A, 0, 0, si, sa, by rw [e]; rfl, rfl, by rw [← show s = ii ((n + 0 : Nat) : Int) from e]; exact h, h59, by omega, by omega, fun _ _ => rfl, fun _ _ => rfl⟩
  | succ w ih =>
    intro n hw hn fu fu' hf hf' s N A si sa h h59
    obtain ⟨f, rfl⟩ : ∃ f, fu = f + 1 := ⟨fu - 1, by omega⟩
    obtain ⟨f', rfl⟩ : ∃ f', fu' = f' + 1 := ⟨fu' - 1, by omega⟩
    have ew : ((w + 1 : Nat) : Int) - 1 = (w : Int) := by omega
    have nn : ¬ ii (w : Int) < 0 := by rw [ii_lit, ii_lt (by omega) (by omega) (by omega) (by omega)]; omega
    have en : (ii (n : Int)).toNatClampNeg = n := by rw [ii_nat (by omega) (by omega)]; omega
    have n2 : ¬ (ii (n : Int) < 0 ∨ 6000 ≤ n) := by rw [ii_lit, ii_lt (by omega) (by omega) (by omega) (by omega)]; omega
    have em : ii (w : Int) + (-1) = ii ((w : Int) - 1) := by rw [show (-1 : Int32) = ii (-1) from rfl, ii_add]; rfl
    obtain ⟨N1, A1, k1, s1, e1, r1, c1, d1⟩ := h.put (nf := nf) (by omega) ((x.toUInt64 >>> ((8 * ii (w : Int)).toInt64.toUInt64 &&& Int64.toUInt64 63)).toInt64).toInt32
    rw [feed_bits x w (by omega)] at r1
    obtain ⟨N2, A2, k2, s2, si2, sa2, f1, f2, t1, t2, t3, t4, t5, t6⟩ := ih (n + 1) (by omega) (by omega) f f' (by omega) (by omega) (N := N1) (A := A1) (si := va_up si 59 (ii ((n + 1 : Nat) : Int))) (sa := va_up sa 58 (upd (sa 58) n (((x >>> ((8 * ii (w : Int)).toInt64 &&& 63)) &&& 255).toInt32))) r1 rfl
    rw [ew, f_By_putNumber_5, if_neg nn, e1, Option.bind_some, f_Mo_putNumber_5, if_neg nn, h59, en, if_neg n2, em, iiS]
    dsimp only
    refine ⟨N2, A2, k2 + k1, s2 + s1, si2, sa2, ?_, ?_, ?_, ?_, by omega, by omega, fun k hk => (t5 k hk).trans (vup_ne hk), fun a ha => (t6 a ha).trans (vup_ne ha)⟩
    · rw [f1, show n + 1 + w = n + (w + 1) by omega]
      rfl
    · exact f2
    · rw [show n + (w + 1) = n + 1 + w by omega]
      exact t1
    · rw [show n + (w + 1) = n + 1 + w by omega]
      exact t2
variable {s : Int32} {A : Nat → Int32}
/-- a number of w bytes -/
theorem pnum (hnf : 10000 ≤ nf) (x : Int64) (w : Nat) (hw : w ≤ 8) (hn : n + w ≤ 6000) (h : RB s N A n (sa 58)) (h59 : si 59 = ii (n : Int)) : Wr n (n + w) (f_By_putNumber nf x (ii (w : Int)) s N A) (f_Mo_putNumber nf x (ii (w : Int)) si sj sa sb) N si sj sa sb := by
  have e : ii (w : Int) - 1 = ii ((w : Int) - 1) := by rw [ii_lit, ii_sub]
  unfold f_By_putNumber f_By_putNumber_0 f_Mo_putNumber f_Mo_putNumber_0
  rw [e]
  exact pn5 x w n hw hn nf nf (by omega) (by omega) h h59
theorem b0 (v : Int32) : ((v.toInt64 >>> ((8 * ii ((0 : Nat) : Int)).toInt64 &&& 63)) &&& 255).toInt32 = v &&& 255 := by
  have e : ((8 * ii ((0 : Nat) : Int)).toInt64 &&& 63) = 0 := by decide
  rw [e]
  simp
/-- one byte -/
theorem pone (hnf : 10000 ≤ nf) (v : Int32) (hn : n + 1 ≤ 6000) (h : RB s N A n (sa 58)) (h59 : si 59 = ii (n : Int)) : Wr n (n + 1) (f_By_put nf v s N A) (f_Mo_putNumber nf v.toInt64 1 si sj sa sb) N si sj sa sb := by
  obtain ⟨N1, A1, k1, s1, e1, r1, c1, d1⟩ := h.put (nf := nf) (by omega) v
  have en : (ii (n : Int)).toNatClampNeg = n := by rw [ii_nat (by omega) (by omega)]; omega
  have n2 : ¬ (ii (n : Int) < 0 ∨ 6000 ≤ n) := by rw [ii_lit, ii_lt (by omega) (by omega) (by omega) (by omega)]; omega
  obtain ⟨f, rfl⟩ : ∃ f, nf = f + 2 := ⟨nf - 2, by omega⟩
  refine ⟨N1, A1, k1, s1, va_up si 59 (ii ((n + 1 : Nat) : Int)), va_up sa 58 (upd (sa 58) n (v &&& 255)), e1, ?_, r1, rfl, c1, d1, fun k hk => vup_ne hk, fun a ha => vup_ne ha⟩
  unfold f_Mo_putNumber f_Mo_putNumber_0
  rw [show (1 : Int32) - 1 = ii ((0 : Nat) : Int) from rfl, f_Mo_putNumber_5, if_neg (by decide), h59, en, if_neg n2, b0, iiS, f_Mo_putNumber_5, if_pos (by decide)]
/-- zeros -/
theorem pzer2 : ∀ (w k n m fu : Nat), k + w = m → m ≤ 100 → n + w ≤ 6000 → w < fu → ∀ {s : Int32} {N : Nat} {A T : Nat → Int32}, RB s N A n T → ∃ N' A' kc ks, f_By_putZeros_2 nf fu (ii (k : Int)) (ii (m : Int)) s N A = some ((ii ((n + w : Nat) : Int), N', A'), kc, ks) ∧ RB (ii ((n + w : Nat) : Int)) N' A' (n + w) (fun q => if q < n then T q else 0) ∧ kc + N ≤ N' ∧ ks + 2 * N ≤ 2 * N' := by
  intro w
  induction w with
  | zero =>
    intro k n m fu hk hm hn hf s N A T h
    obtain ⟨f, rfl⟩ : ∃ f, fu = f + 1 := ⟨fu - 1, by omega⟩
    have e := h.1
    rw [f_By_putZeros_2, if_pos (by rw [ii_le (by omega) (by omega) (by omega) (by omega)]; omega)]
    refine ⟨N, A, 0, 0, by rw [e]; rfl, ?_, by omega, by omega⟩
    rw [← show s = ii ((n + 0 : Nat) : Int) from e]
    exact h.T_congr (fun q hq => by rw [if_pos (by omega)])
  | succ w ih =>
    intro k n m fu hk hm hn hf s N A T h
    obtain ⟨f, rfl⟩ : ∃ f, fu = f + 1 := ⟨fu - 1, by omega⟩
    obtain ⟨N1, A1, k1, s1, e1, r1, c1, d1⟩ := h.put (nf := nf) (by omega) 0
    obtain ⟨N2, A2, k2, s2, e2, r2, c2, d2⟩ := ih (k + 1) (n + 1) m f (by omega) hm (by omega) (by omega) r1
    rw [f_By_putZeros_2, if_neg (by rw [ii_le (by omega) (by omega) (by omega) (by omega)]; omega), e1, Option.bind_some]
    dsimp only
    rw [iiS]
    refine ⟨N2, A2, k2 + k1, s2 + s1, ?_, ?_, by omega, by omega⟩
    · rw [e2, show n + 1 + w = n + (w + 1) by omega]
      rfl
    · rw [show n + (w + 1) = n + 1 + w by omega]
      refine r2.T_congr (fun q hq => ?_)
      unfold upd
      by_cases c : q < n
      · rw [if_pos (by omega), if_neg (by omega), if_pos c]
      · rw [if_neg c]
        by_cases c2 : q = n
        · rw [if_pos (by omega), if_pos c2]; rfl
        · rw [if_neg (by omega)]
theorem mzer5 : ∀ (w n : Nat), w ≤ 8 → n + w ≤ 6000 → ∀ (fu : Nat), w < fu → ∀ (si : Nat → Int32) (sa : Nat → Nat → Int32), si 59 = ii (n : Int) → ∃ si' sa', f_Mo_putNumber_5 nf fu (ii ((w : Int) - 1)) 0 si sj sa sb = some (si', sj, sa', sb) ∧ si' 59 = ii ((n + w : Nat) : Int) ∧ (∀ k, k ≠ 59 → si' k = si k) ∧ (∀ a, a ≠ 58 → sa' a = sa a) ∧ (∀ q, q < n → sa' 58 q = sa 58 q) ∧ ∀ q, n ≤ q → q < n + w → sa' 58 q = 0 := by
  intro w
  induction w with
  | zero =>
    intro n _ hn fu hf si sa h59
    obtain ⟨f, rfl⟩ : ∃ f, fu = f + 1 := ⟨fu - 1, by omega⟩
    rw [f_Mo_putNumber_5, if_pos (by decide)]
    exact ⟨si, sa, rfl, h59, fun _ _ => rfl, fun _ _ => rfl, fun _ _ => rfl, fun q h1 h2 => by omega⟩
  | succ w ih =>
    intro n hw hn fu hf si sa h59
    obtain ⟨f, rfl⟩ : ∃ f, fu = f + 1 := ⟨fu - 1, by omega⟩
    have ew : ((w + 1 : Nat) : Int) - 1 = (w : Int) := by omega
    have nn : ¬ ii (w : Int) < 0 := by rw [ii_lit, ii_lt (by omega) (by omega) (by omega) (by omega)]; omega
    have en : (ii (n : Int)).toNatClampNeg = n := by rw [ii_nat (by omega) (by omega)]; omega
    have n2 : ¬ (ii (n : Int) < 0 ∨ 6000 ≤ n) := by rw [ii_lit, ii_lt (by omega) (by omega) (by omega) (by omega)]; omega
    have em : ii (w : Int) + (-1) = ii ((w : Int) - 1) := by rw [show (-1 : Int32) = ii (-1) from rfl, ii_add]; rfl
    have ez : (((0 : Int64) >>> ((8 * ii (w : Int)).toInt64 &&& 63)) &&& 255).toInt32 = 0 := by
      have : ∀ w : Fin 8, (((0 : Int64) >>> ((8 * ii (w.val : Int)).toInt64 &&& 63)) &&& 255).toInt32 = 0 := by decide +kernel
      exact this ⟨w, by omega⟩
    obtain ⟨si', sa', g1, g2, g3, g4, g5, g6⟩ := ih (n + 1) (by omega) (by omega) f (by omega) (va_up si 59 (ii ((n + 1 : Nat) : Int))) (va_up sa 58 (upd (sa 58) n 0)) rfl
    refine ⟨si', sa', ?_, ?_, fun k hk => (g3 k hk).trans (vup_ne hk), fun a ha => (g4 a ha).trans (vup_ne ha), fun q hq => ?_, fun q h1 h2 => ?_⟩
    · rw [ew, f_Mo_putNumber_5, if_neg nn, h59, en, if_neg n2, em, iiS, ez]
      exact g1
    · rw [g2, show n + 1 + w = n + (w + 1) by omega]
    · rw [g5 q (by omega), vup_eq]; unfold upd; rw [if_neg (by omega)]
    · by_cases c : q = n
      · rw [g5 q (by omega), vup_eq]; unfold upd; rw [if_pos c]
      · exact g6 q (by omega) (by omega)
theorem mzer (hnf : 10000 ≤ nf) (w n : Nat) (hw : w ≤ 8) (hn : n + w ≤ 6000) (h59 : si 59 = ii (n : Int)) : ∃ si' sa', f_Mo_putNumber nf 0 (ii (w : Int)) si sj sa sb = some (si', sj, sa', sb) ∧ si' 59 = ii ((n + w : Nat) : Int) ∧ (∀ k, k ≠ 59 → si' k = si k) ∧ (∀ a, a ≠ 58 → sa' a = sa a) ∧ (∀ q, q < n → sa' 58 q = sa 58 q) ∧ ∀ q, n ≤ q → q < n + w → sa' 58 q = 0 := by
  have e : ii (w : Int) - 1 = ii ((w : Int) - 1) := by rw [ii_lit, ii_sub]
  unfold f_Mo_putNumber f_Mo_putNumber_0
  rw [e]
  exact mzer5 w n hw hn nf (by omega) si sa h59
end
