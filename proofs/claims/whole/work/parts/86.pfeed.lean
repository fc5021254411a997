/-! ===== feed ===== -/
/-- only the tape has changed -/
theorem RR.tape {S : CS} {si si' : Nat → Int32} {sj : Nat → Int64} {sa sa' : Nat → Nat → Int32} {sb : Nat → Nat → Int64} (h : RR S (si, sj, sa, sb)) {n N : Nat} {s : Int32} {A : Nat → Int32} (hn : n ≤ 6000) (hb : RB s N A n (sa' 0)) (h1 : si' 1 = ii (n : Int)) (hi : ∀ k, kI k → k ≠ 1 → si' k = si k) (ha : ∀ a, a ≠ 0 → sa' a = sa a) : RR ((s, N, A, S.1.2.2.2), S.2) (si', sj, sa', sb) := by
  obtain ⟨_, ⟨w, w1, w2, w3⟩, r3, ⟨q, q1, q2, q3, q4⟩, ⟨c, c1, c2, c3, c4⟩, r6, r7⟩ := h
  dsimp only at *
  refine ⟨⟨n, hn, hb, h1⟩, ⟨w, w1, w2.T_congr (fun k _ => (congrFun (ha 56 (by decide)) k).symm), (hi 57 (by unfold kI; omega) (by decide)).trans w3⟩, r3.trans (hi 2 (by unfold kI; omega) (by decide)).symm, ⟨q, q1, q2, (hi 55 (by unfold kI; omega) (by decide)).trans q3, q4⟩, ⟨c, c1, c2, (hi 61 (by unfold kI; omega) (by decide)).trans c3, fun z => ⟨(hi 62 (by unfold kI; omega) (by decide)).trans (c4 z).1, (c4 z).2⟩⟩, fun i hi => (r6 i hi).congr (fun a j q => congrFun (ha a (by unfold kAz at q; omega)) j) (fun _ _ _ => rfl), r7⟩
def xby (x : Int64) (k : Nat) : Int32 := ((x >>> ((8 * ii (k : Int)).toInt64 &&& 63)) &&& 255).toInt32
theorem feedc {nf : Nat} (x : Int64) {m : Nat} (hm : m ≤ 8) : ∀ (j k fu : Nat), k + j = m → j < fu → ∀ {s : Int32} {N n : Nat} {A T : Nat → Int32}, RB s N A n T → n + j ≤ 6000 →
    ∃ N' A' kc ks, f_ZF_feed_49 nf fu (ii (k : Int)) (ii (m : Int)) x s N A = some ((ii ((n + j : Nat) : Int), ii ((n + j : Nat) : Int), N', A'), kc, ks) ∧ RB (ii ((n + j : Nat) : Int)) N' A' (n + j) (fun q => if q < n then T q else xby x (k + (q - n))) ∧ kc + N ≤ N' ∧ ks + 2 * N ≤ 2 * N' := by
  intro j
  induction j with
  | zero =>
    intro k fu hk hf s N n A T h hn
    obtain ⟨f, rfl⟩ : ∃ f, fu = f + 1 := ⟨fu - 1, by omega⟩
    rw [f_ZF_feed_49, if_pos ((ii_le (by omega) (by omega) (by omega) (by omega)).mpr (by omega))]
    refine ⟨N, A, 0, 0, ?_, ?_, by omega, by omega⟩
    · rw [h.1]; rfl
    · have e := h.1
      refine RB.T_congr (T := T) ?_ (fun k hk => by rw [if_pos (by omega)])
      rw [← show s = ii ((n + 0 : Nat) : Int) from e]
      exact h
  | succ j ih =>
    intro k fu hk hf s N n A T h hn
    obtain ⟨f, rfl⟩ : ∃ f, fu = f + 1 := ⟨fu - 1, by omega⟩
    obtain ⟨N1, A1, k1, s1, e1, r1, c1, d1⟩ := h.put (nf := nf) (by omega) ((x.toUInt64 >>> ((8 * ii (k : Int)).toInt64.toUInt64 &&& Int64.toUInt64 63)).toInt64).toInt32
    obtain ⟨N2, A2, k2, s2, e2, r2, c2, d2⟩ := ih (k + 1) f (by omega) (by omega) r1 (by omega)
    rw [f_ZF_feed_49, if_neg (by rw [ii_le (by omega) (by omega) (by omega) (by omega)]; omega), e1, Option.bind_some]
    dsimp only
    rw [show ii (k : Int) + 1 = ii ((k + 1 : Nat) : Int) by rw [ii_lit, ii_add]; rfl, e2]
    refine ⟨N2, A2, k2 + k1, s2 + s1, ?_, ?_, by omega, by omega⟩
    · rw [show n + (j + 1) = n + 1 + j by omega]
      rfl
    · rw [show n + (j + 1) = n + 1 + j by omega]
      refine r2.T_congr (fun q hq => ?_)
      unfold upd
      by_cases c : q < n
      · rw [if_pos (by omega), if_pos c, if_neg (by omega)]
      · by_cases c2 : q = n
        · subst c2
          rw [if_pos (show q < q + 1 by omega), if_pos rfl, if_neg (show ¬ q < q by omega), feed_bits x k (by omega), Nat.sub_self]
          rfl
        · rw [if_neg (by omega), if_neg c, show k + 1 + (q - (n + 1)) = k + (q - n) by omega]
theorem feedm {nf n : Nat} (x : Int64) {m : Nat} (hm : m ≤ 8) {si : Nat → Int32} {sj : Nat → Int64} {sb : Nat → Nat → Int64} (hs : si 1 = ii (n : Int)) (hn : n + m ≤ 6000) : ∀ (j k fu : Nat), k + j = m → j < fu → ∀ sa : Nat → Nat → Int32, ∃ sa' : Nat → Nat → Int32, f_Mo_feed_44 nf fu (ii (k : Int)) (ii (m : Int)) x si sj sa sb = some (ii ((n + m : Nat) : Int), va_up si 1 (ii ((n + m : Nat) : Int)), sj, sa', sb) ∧ (∀ a, a ≠ 0 → sa' a = sa a) ∧ (∀ q, q < n + k → sa' 0 q = sa 0 q) ∧ ∀ q, n + k ≤ q → q < n + m → sa' 0 q = xby x (q - n) := by
  have e0 : ii (n : Int) + ii (m : Int) = ii ((n + m : Nat) : Int) := by rw [ii_add]; congr 1
  intro j
  induction j with
  | zero =>
    intro k fu hk hf sa
    obtain ⟨f, rfl⟩ : ∃ f, fu = f + 1 := ⟨fu - 1, by omega⟩
    rw [f_Mo_feed_44, hs, if_pos ((ii_le (by omega) (by omega) (by omega) (by omega)).mpr (by omega)), e0]
    exact ⟨sa, rfl, fun _ _ => rfl, fun _ _ => rfl, fun q h1 h2 => by omega⟩
  | succ j ih =>
    intro k fu hk hf sa
    obtain ⟨f, rfl⟩ : ∃ f, fu = f + 1 := ⟨fu - 1, by omega⟩
    have e1 : ii (n : Int) + ii (k : Int) = ii ((n + k : Nat) : Int) := by rw [ii_add]; congr 1
    have en : (ii ((n + k : Nat) : Int)).toNatClampNeg = n + k := by rw [ii_nat (by omega) (by omega)]; omega
    have nn : ¬ (ii ((n + k : Nat) : Int) < 0 ∨ 6000 ≤ n + k) := by rw [ii_lit, ii_lt (by omega) (by omega) (by omega) (by omega)]; omega
    obtain ⟨sa', g1, g2, g3, g4⟩ := ih (k + 1) f (by omega) (by omega) (va_up sa 0 (upd (sa 0) (n + k) (xby x k)))
    refine ⟨sa', ?_, fun a ha => (g2 a ha).trans (vup_ne ha), fun q hq => ?_, fun q h1 h2 => ?_⟩
    · rw [f_Mo_feed_44, hs, if_neg (by rw [ii_le (by omega) (by omega) (by omega) (by omega)]; omega), e1, en, if_neg nn, show ii (k : Int) + 1 = ii ((k + 1 : Nat) : Int) by rw [ii_lit, ii_add]; rfl]
      exact g1
    · rw [g3 q (by omega), vup_eq]
      unfold upd
      rw [if_neg (by omega)]
    · by_cases c : q = n + k
      · subst c
        rw [g3 (n + k) (by omega), vup_eq, show n + k - n = k by omega]
        unfold upd
        rw [if_pos rfl]
      · rw [g4 q (by omega) h2]
theorem st_feed {nf : Nat} (hnf : 10000 ≤ nf) (S : CS) (M : MS) (p0 : Int32) (p1 : Int64) (h : RR S M) : STWi nf RR S (cq_feed nf S p0 p1) (f_Mo_feed nf p0 p1 M.1 M.2.1 M.2.2.1 M.2.2.2) := by
  obtain ⟨si, sj, sa, sb⟩ := M
  obtain ⟨n, n1, n2, n3⟩ := h.1
  have n0 := n2.1
  dsimp only at *
  obtain ⟨v, rfl, v1, v2⟩ := ii_all p0
  have e29 : f_Mo_feed_29 nf (ii v) p1 1 si sj sa sb = some (0, va_up si 3 1, sj, sa, sb) := by
    unfold f_Mo_feed_29
    rw [if_neg (by decide)]
  have bad : (v < 1 ∨ 8 < v ∨ 6000 < n + v) → STWi nf RR S (cq_feed nf S (ii v) p1) (f_Mo_feed nf (ii v) p1 si sj sa sb) := by
    intro q
    refine noI h 1 (by decide) ?_ ?_
    · unfold cq_feed f_ZF_feed f_ZF_feed_0 g_ZF_feed g_ZF_feed_0 f_ZF_feed_11 g_ZF_feed_11
      by_cases c1 : v < 1
      · have m1 : ii v < (1 : Int32) := by rw [ii_lit, ii_lt v1 v2 (by omega) (by omega)]; omega
        rw [if_pos m1, if_pos m1]
        rfl
      · have m1 : ¬ ii v < (1 : Int32) := by rw [ii_lit, ii_lt v1 v2 (by omega) (by omega)]; omega
        rw [if_neg m1, if_neg m1]
        by_cases c2 : 8 < v
        · have m2 : ¬ ii v ≤ (8 : Int32) := by rw [ii_lit, ii_le v1 v2 (by omega) (by omega)]; omega
          rw [if_neg m2, if_neg m2]
          rfl
        · have m2 : ii v ≤ (8 : Int32) := by rw [ii_lit, ii_le v1 v2 (by omega) (by omega)]; omega
          have m3 : ¬ S.1.1 + ii v ≤ (6000 : Int32) := by rw [n0, ii_add, ii_lit, ii_le (by omega) (by omega) (by omega) (by omega)]; omega
          rw [if_pos m2, if_pos m2, if_neg m3, if_neg m3]
          rfl
    · unfold f_Mo_feed f_Mo_feed_0 f_Mo_feed_24
      rw [e29]
      by_cases c1 : v < 1
      · have m1 : ii v < (1 : Int32) := by rw [ii_lit, ii_lt v1 v2 (by omega) (by omega)]; omega
        rw [if_pos m1]
      · have m1 : ¬ ii v < (1 : Int32) := by rw [ii_lit, ii_lt v1 v2 (by omega) (by omega)]; omega
        rw [if_neg m1]
        by_cases c2 : 8 < v
        · have m2 : (8 : Int32) < ii v := by rw [ii_lit, ii_lt (by omega) (by omega) v1 v2]; omega
          rw [if_pos m2]
        · have m2 : ¬ (8 : Int32) < ii v := by rw [ii_lit, ii_lt (by omega) (by omega) v1 v2]; omega
          have m3 : ¬ si 1 + ii v ≤ (6000 : Int32) := by rw [n3, ii_add, ii_lit, ii_le (by omega) (by omega) (by omega) (by omega)]; omega
          rw [if_neg m2, if_neg m3]
  by_cases q : v < 1 ∨ 8 < v ∨ 6000 < n + v
  · exact bad q
  obtain ⟨m, rfl⟩ : ∃ m : Nat, v = (m : Int) := ⟨v.toNat, by omega⟩
  obtain ⟨N', A', kc, ks, e1, r1, c1, d1⟩ := feedc (nf := nf) p1 (m := m) (by omega) m 0 nf (by omega) (by omega) n2 (by omega)
  obtain ⟨sa', g1, g2, g3, g4⟩ := feedm (nf := nf) (n := n) p1 (m := m) (by omega) (si := va_up si 3 0) (sj := sj) (sb := sb) ((vup_ne (by decide)).trans n3) (by omega) m 0 nf (by omega) (by omega) sa
  have m1 : ¬ ii (m : Int) < (1 : Int32) := by rw [ii_lit, ii_lt v1 v2 (by omega) (by omega)]; omega
  have m2 : ii (m : Int) ≤ (8 : Int32) := by rw [ii_lit, ii_le v1 v2 (by omega) (by omega)]; omega
  have m2' : ¬ (8 : Int32) < ii (m : Int) := by rw [ii_lit, ii_lt (by omega) (by omega) v1 v2]; omega
  have m3 : S.1.1 + ii (m : Int) ≤ (6000 : Int32) := by rw [n0, ii_add, ii_lit, ii_le (by omega) (by omega) (by omega) (by omega)]; omega
  have m3' : si 1 + ii (m : Int) ≤ (6000 : Int32) := by rw [n3, ii_add, ii_lit, ii_le (by omega) (by omega) (by omega) (by omega)]; omega
  have hC : cq_feed nf S (ii (m : Int)) p1 = some (0, (ii ((n + m : Nat) : Int)).toInt64, ((ii ((n + m : Nat) : Int), N', A', S.1.2.2.2), S.2), kc, ks) := by
    unfold cq_feed f_ZF_feed f_ZF_feed_0
    rw [if_neg m1, if_pos m2, if_pos m3, show (0 : Int32) = ii ((0 : Nat) : Int) from rfl, e1]
  have hQ : f_Mo_feed nf (ii (m : Int)) p1 si sj sa sb = some (ii ((n + m : Nat) : Int), va_up (va_up si 3 0) 1 (ii ((n + m : Nat) : Int)), sj, sa', sb) := by
    unfold f_Mo_feed f_Mo_feed_0
    rw [if_neg m1, if_neg m2', if_pos m3']
    unfold f_Mo_feed_29
    rw [if_pos (by decide)]
    exact g1
  refine ⟨0, _, _, kc, ks, _, _, hC, hQ, rfl, fun _ => rfl, ?_, ?_, ?_⟩
  · refine h.tape (n := n + m) (by omega) (r1.T_congr (fun q hq => ?_)) rfl (fun k hk hk1 => ?_) g2
    · by_cases c : q < n
      · rw [if_pos c, g3 q (by omega)]
      · rw [if_neg c, g4 q (by omega) hq, Nat.zero_add]
    · rw [vup_ne hk1, vup_ne (by unfold kI at hk; omega)]
  · unfold phi
    dsimp only
    omega
  · unfold phi
    dsimp only
    omega
