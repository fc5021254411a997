/-! ===== again ===== -/
theorem mag {nf w : Nat} {si : Nat → Int32} {sj : Nat → Int64} {sb : Nat → Nat → Int64} (hw : w ≤ 6000) (hs : si 57 = ii (w : Int)) : ∀ (j k fu : Nat), k + j = w → j < fu → ∀ sa : Nat → Nat → Int32, ∃ sa' : Nat → Nat → Int32, f_Mo_again_7 nf fu (ii (k : Int)) si sj sa sb = some (ii (w : Int), va_up si 1 (ii (w : Int)), sj, sa', sb) ∧ (∀ a, a ≠ 0 → sa' a = sa a) ∧ (∀ m, m < k → sa' 0 m = sa 0 m) ∧ ∀ m, k ≤ m → m < w → sa' 0 m = sa 56 m := by
  intro j
  induction j with
  | zero =>
    intro k fu hk hf sa
    obtain ⟨f, rfl⟩ : ∃ f, fu = f + 1 := ⟨fu - 1, by omega⟩
    rw [f_Mo_again_7, hs, if_pos ((ii_le (by omega) (by omega) (by omega) (by omega)).mpr (by omega))]
    exact ⟨sa, rfl, fun _ _ => rfl, fun _ _ => rfl, fun m h1 h2 => by omega⟩
  | succ j ih =>
    intro k fu hk hf sa
    obtain ⟨f, rfl⟩ : ∃ f, fu = f + 1 := ⟨fu - 1, by omega⟩
    have en : (ii (k : Int)).toNatClampNeg = k := by rw [ii_nat (by omega) (by omega)]; omega
    have n : ¬ (ii (k : Int) < 0 ∨ 6000 ≤ k) := by rw [ii_lit, ii_lt (by omega) (by omega) (by omega) (by omega)]; omega
    obtain ⟨sa', e1, e2, e3, e4⟩ := ih (k + 1) f (by omega) (by omega) (va_up sa 0 (upd (sa 0) k (sa 56 k)))
    refine ⟨sa', ?_, fun a ha => (e2 a ha).trans (vup_ne ha), fun m hm => ?_, fun m h1 h2 => ?_⟩
    · rw [f_Mo_again_7, hs, if_neg (by rw [ii_le (by omega) (by omega) (by omega) (by omega)]; omega), en, if_neg n, if_neg n, show ii (k : Int) + 1 = ii ((k + 1 : Nat) : Int) by rw [ii_lit, ii_add]; rfl]
      exact e1
    · rw [e3 m (by omega), vu_ne (by omega)]
    · by_cases c : m = k
      · subst c
        rw [e3 m (by omega), vu_eq]
      · rw [e4 m (by omega) h2, vup_ne (by decide)]
theorem st_again {nf : Nat} (hnf : 10000 ≤ nf) (S : CS) (M : MS) (h : RR S M) : STDi RR S (cq_again nf S) (f_Mo_again nf M.1 M.2.1 M.2.2.1 M.2.2.2) := by
  obtain ⟨si, sj, sa, sb⟩ := M
  obtain ⟨⟨t, t1, t2, t3⟩, ⟨w, w1, w2, w3⟩, rest⟩ := id h
  dsimp only at *
  obtain ⟨sa', e1, e2, e3, e4⟩ := mag (nf := nf) (sj := sj) (sb := sb) (si := va_up si 3 0) w1 ((vup_ne (by decide)).trans w3) w 0 nf (by omega) (by omega) sa
  obtain ⟨N', A', kc, ks, p1, p2, p3, p4⟩ := RB.putAll (nf := nf) (s := 0) (N := 0) (n := 0) (A := S.1.2.2.1) (T := sa 0) w2 w 0 (fu := nf) (t2.clear (sa 0)) (by omega) (by omega) (by omega)
  rw [Nat.zero_add] at p1 p2
  have hC : cq_again nf S = some (ii (w : Int), ((ii (w : Int), N', A', S.1.2.2.2.1, S.1.2.2.2.2.1, S.1.2.2.2.2.2.1, S.1.2.2.2.2.2.2.1, S.1.2.2.2.2.2.2.2.1, S.1.2.2.2.2.2.2.2.2.1, S.1.2.2.2.2.2.2.2.2.2.1, S.1.2.2.2.2.2.2.2.2.2.2.1, S.1.2.2.2.2.2.2.2.2.2.2.2.1, S.1.2.2.2.2.2.2.2.2.2.2.2.2.1, S.1.2.2.2.2.2.2.2.2.2.2.2.2.2.1, S.1.2.2.2.2.2.2.2.2.2.2.2.2.2.2.1, S.1.2.2.2.2.2.2.2.2.2.2.2.2.2.2.2.1, S.1.2.2.2.2.2.2.2.2.2.2.2.2.2.2.2.2), S.2), 0 + kc, 0 + ks) := by
    have pa : f_By_putAll nf 0 S.1.2.2.2.1 0 S.1.2.1 S.1.2.2.1 S.1.2.2.2.1 S.1.2.2.2.2.1 S.1.2.2.2.2.2.1 = some ((ii (w : Int), N', A'), kc, ks) := by
      rw [← p1, ← w2.1]
      rfl
    unfold cq_again f_ZF_again f_ZF_again_0
    rw [show f_By_clear nf S.1.1 = some 0 from rfl, Option.bind_some, pa]
    rfl
  refine ⟨_, _, _, _, _, _, hC, e1, rfl, ?_, ?_, ?_⟩
  · obtain ⟨r3, r4, r5, r6, r7⟩ := rest
    refine ⟨⟨w, w1, p2.T_congr (fun k hk => ?_), rfl⟩, ⟨w, w1, w2.T_congr (fun k _ => (congrFun (e2 56 (by decide)) k).symm), ?_⟩, ?_, ?_, ?_, fun i hi => ?_, r7⟩
    · rw [if_neg (by omega), Nat.zero_add, Nat.sub_zero]
      exact (e4 k (by omega) hk).symm
    · show va_up (va_up si 3 0) 1 (ii (w : Int)) 57 = ii (w : Int)
      rw [vup_ne (by decide), vup_ne (by decide)]
      exact w3
    · show S.1.2.2.2.2.2.2.2.1 = va_up (va_up si 3 0) 1 (ii (w : Int)) 2
      rw [vup_ne (by decide), vup_ne (by decide)]
      exact r3
    · obtain ⟨q, q1, q2, q3, q4⟩ := r4
      refine ⟨q, q1, q2, ?_, q4⟩
      show va_up (va_up si 3 0) 1 (ii (w : Int)) 55 = ii (q : Int)
      rw [vup_ne (by decide), vup_ne (by decide)]
      exact q3
    · obtain ⟨q, q1, q2, q3, q4⟩ := r5
      refine ⟨q, q1, q2, ?_, fun z => ⟨?_, (q4 z).2⟩⟩
      · show va_up (va_up si 3 0) 1 (ii (w : Int)) 61 = _
        rw [vup_ne (by decide), vup_ne (by decide)]
        exact q3
      · show va_up (va_up si 3 0) 1 (ii (w : Int)) 62 = _
        rw [vup_ne (by decide), vup_ne (by decide)]
        exact (q4 z).1
    · exact (r6 i hi).congr (fun a j q => congrFun (e2 a (by unfold kAz at q; omega)) j) (fun _ _ _ => rfl)
  · unfold phi
    dsimp only
    omega
  · unfold phi
    dsimp only
    omega
