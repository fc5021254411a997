/-! ===== rule: the zone that a rule text makes ===== -/
abbrev XT2 : Type := Nat × Nat × Int × (Int × Int × Int × Int) × Int × (Int × Int × Int × Int) × Int × Bool
/-- what the class holds of the types of a rule's zone, and of the rule -/
def cRul (z : ZS) (T Tc : Nat → Int32) (ss h c us : Nat) (so : Int) : Option XT2 → Prop
  | none => h = 1 ∧ c = ss + 1 ∧ z.2.2.2.2.2.2.2.2.2.2.2.2.2.2.2.2.2.2.1 = 0 ∧ z.2.2.2.2.2.2.2.2.2.2.2.2.2.2.2.2.2.2.2.1 = 0
  | some (up', us', uo', d1, t1, d2, t2, w) => us = us' ∧ h = 2 ∧ c = ss + 1 + us' + 1 ∧ z.2.2.2.2.2.2.2.2.1 1 = ii uo' ∧ z.2.2.2.2.2.2.2.2.2.1 1 = 1 ∧ z.2.2.2.2.2.2.2.2.2.2.1 1 = ii ((ss + 1 : Nat) : Int) ∧ (∀ k, k < us' → Tc (ss + 1 + k) = T (up' + k)) ∧ Tc (ss + 1 + us') = 0 ∧ z.2.2.2.2.2.2.2.2.2.2.2.2.2.2.2.2.2.2.1 = 1 ∧ z.2.2.2.2.2.2.2.2.2.2.2.2.2.2.2.2.2.2.2.1 = (if w then 1 else 0) ∧ z.2.2.2.2.2.2.2.2.2.2.2.2.2.2.2.2.2.2.2.2.2.2.2.2.2.1 = ii (us' : Int) ∧ z.2.2.2.2.2.2.2.2.2.2.2.2.2.2.2.2.2.2.2.2.2.2.2.2.1 = ii (up' : Int) ∧ z.2.2.2.2.2.2.2.2.2.2.2.2.2.2.2.2.2.2.2.2.2.1 = ii uo' ∧ REc z.2.2.2.2.2.2.2.2.2.2.2.2.2.2.2.2.2.2.2.2.2.2.2.2.2.2.2.2.2.2.1 z.2.2.2.2.2.2.2.2.2.2.2.2.2.2.2.2.2.2.2.2.2.2.2.2.2.2.2.2.2.2.2.1 z.2.2.2.2.2.2.2.2.2.2.2.2.2.2.2.2.2.2.2.2.2.2.2.2.2.2.2.2.2.2.2.2.1 z.2.2.2.2.2.2.2.2.2.2.2.2.2.2.2.2.2.2.2.2.2.2.2.2.2.2.2.2.2.2.2.2.2.1 z.2.2.2.2.2.2.2.2.2.2.2.2.2.2.2.2.2.2.2.2.2.2.2.2.2.2.2.2.2.2.2.2.2.2.1 z.2.2.2.2.2.2.2.2.2.2.2.2.2.2.2.2.2.2.2.2.2.2.2.2.2.2.2.2.2.2.2.2.2.2.2.1 (bET so d1 t1) ∧ REc z.2.2.2.2.2.2.2.2.2.2.2.2.2.2.2.2.2.2.2.2.2.2.2.2.2.2.2.2.2.2.2.2.2.2.2.2.1 z.2.2.2.2.2.2.2.2.2.2.2.2.2.2.2.2.2.2.2.2.2.2.2.2.2.2.2.2.2.2.2.2.2.2.2.2.2.1 z.2.2.2.2.2.2.2.2.2.2.2.2.2.2.2.2.2.2.2.2.2.2.2.2.2.2.2.2.2.2.2.2.2.2.2.2.2.2.1 z.2.2.2.2.2.2.2.2.2.2.2.2.2.2.2.2.2.2.2.2.2.2.2.2.2.2.2.2.2.2.2.2.2.2.2.2.2.2.2.1 z.2.2.2.2.2.2.2.2.2.2.2.2.2.2.2.2.2.2.2.2.2.2.2.2.2.2.2.2.2.2.2.2.2.2.2.2.2.2.2.2.1 z.2.2.2.2.2.2.2.2.2.2.2.2.2.2.2.2.2.2.2.2.2.2.2.2.2.2.2.2.2.2.2.2.2.2.2.2.2.2.2.2.2 (bET uo' d2 t2)
theorem rzon_rule {z : ZS} {sa1 sa2 : Nat → Nat → Int32} {sb : Nat → Nat → Int64} {ver : Int32} {E h c sp ss us : Nat} {so : Int} {x : Option XT2} {wide : Bool} {T Tc : Nat → Int32}
    (hv : z.1 = ver) (hver : ver = 50 ∨ ver = 51) (h1 : z.2.1 = 0) (h2 : z.2.2.1 = ii (h : Int)) (h3 : z.2.2.2.1 = 0) (h4 : z.2.2.2.2.1 = 0) (h5 : z.2.2.2.2.2.1 = 0)
    (hrt : rtext (LL T E) wide 0 E = .ok (sp, ss, so, x)) (hT : ∀ k, k < E → sa1 0 k = T k) (hE : 0 < E) (hm : mRule sa1 (LL T E) (sp, ss, so, x)) (htk : mTk sa1 sa2 ver h ss us E)
    (hch : RB z.2.2.2.2.2.2.2.2.2.2.2.2.2.1 z.2.2.2.2.2.2.2.2.2.2.2.2.2.2.1 z.2.2.2.2.2.2.2.2.2.2.2.2.2.2.2.1 c Tc) (htx : RB z.2.2.2.2.2.2.2.2.2.2.2.2.2.2.2.2.2.2.2.2.2.2.2.2.2.2.2.1 z.2.2.2.2.2.2.2.2.2.2.2.2.2.2.2.2.2.2.2.2.2.2.2.2.2.2.2.2.1 z.2.2.2.2.2.2.2.2.2.2.2.2.2.2.2.2.2.2.2.2.2.2.2.2.2.2.2.2.2.1 E T) (o0 : z.2.2.2.2.2.2.2.2.1 0 = ii so) (o1 : z.2.2.2.2.2.2.2.2.2.1 0 = 0) (o2 : z.2.2.2.2.2.2.2.2.2.2.1 0 = 0) (o3 : ∀ k, k < ss → Tc k = T (sp + k)) (o4 : Tc ss = 0)
    (r1 : z.2.2.2.2.2.2.2.2.2.2.2.2.2.2.2.2.2.2.2.2.2.2.2.1 = ii (ss : Int)) (r2 : z.2.2.2.2.2.2.2.2.2.2.2.2.2.2.2.2.2.2.2.2.2.2.1 = ii (sp : Int)) (r3 : z.2.2.2.2.2.2.2.2.2.2.2.2.2.2.2.2.2.2.2.2.1 = ii so) (r4 : z.2.2.2.2.2.2.2.2.2.2.2.2.2.2.2.2.2.2.2.2.2.2.2.2.2.2.1 = 0) (hx : cRul z T Tc ss h c us so x) : RZon z sa2 sb 4 := by
  have tok := rtext_ok hrt
  obtain ⟨k4, k5, k6, k8, k9, k10, k11, k22, ⟨y1, y2, y3, y4, y5⟩, yn, ys, fr, f23⟩ := htk
  obtain ⟨q1, q2, q3, q4⟩ := hm
  obtain ⟨l1, ⟨l2, l3, l4, l5, l6⟩, l7, l8, l9⟩ := tok
  dsimp only at q1 q2 q3 q4 l2 l3 l4 l5 l6 l7 l8 l9
  have e22 : ∀ k, k < E → sa2 22 (128 * 4 + k) = T k := fun k hk => (k22 k hk).trans (hT k hk)
  have nm0 : ∀ k, k < ss → sa2 17 (200 * 4 + k) = T (sp + k) := fun k hk => by
    have := y4 k hk
    rw [q2 k hk, LLv (by omega)] at this
    exact this
  have bts : ∀ (p s : Nat), p + s ≤ E → (∀ k, k < s → nmb (LL T E (p + k))) → ∀ k, k < s → ∃ v : Int, T (p + k) = ii v ∧ nmb v := fun p s hp hn k hk => ⟨LL T E (p + k), (LLv (by omega)).symm, hn k hk⟩
  have zn0 : ZNam z.2.2.2.2.2.2.2.2.2.2.2.2.2.2.2.2.2.2.2.2.2.2.2.1 z.2.2.2.2.2.2.2.2.2.2.2.2.2.2.2.2.2.2.2.2.2.2.1 sa2 4 0 E ss sp := by
    refine ⟨r1, r2, l2, l3, l5, ?_, fun k hk => ⟨?_, ?_⟩⟩
    · rw [f23 25 _ (by omega)]; exact q1
    · rw [f23 26 _ (by omega), e22 _ (by omega)]
      exact (q2 k hk).trans (LLv (by omega))
    · rw [e22 _ (by omega)]
      exact bts sp ss l5 l6 k hk
  have hLL : rtext (LL (fun k => sa2 22 (128 * 4 + k)) E) wide 0 E = .ok (sp, ss, so, x) := by
    rw [LL_congr (T := T) (fun k hk => e22 k hk)]
    exact hrt
  have hvv : z.1 = 0 ∨ z.1 = 50 ∨ z.1 = 51 := by rw [hv]; exact Or.inr hver
  match x, hx, q4, l9, hLL with
  | none, ⟨g1, g2, g3, g4⟩, m1, _, hLL =>
    subst g1 g2
    refine ⟨0, 1, ss + 1, 0, 0, 0, E, fun _ => 0, fun _ => 0, fun _ => so, fun _ => 0, fun _ => 0, fun _ => ss, ⟨hv.trans k4.symm, hvv, ⟨h1, k5, by omega⟩, ⟨h2, k6, by omega, by omega⟩, ⟨yn rfl, by omega, by omega⟩, ⟨h3, k8, by omega⟩, ⟨h4, k9, Or.inl rfl⟩, ⟨h5, k10, Or.inl rfl⟩, ⟨k11, by omega⟩⟩, ?_, htx.T_congr (fun k hk => (e22 k hk).symm), ⟨fun k hk => by omega, fun k hk => by omega⟩, fun k hk => ?_, ⟨fun k hk => by omega, fun k hk => by omega⟩, fun k hk => by omega, ?_⟩
    · refine hch.T_congr (fun k hk => ?_)
      by_cases c : k < ss
      · rw [o3 k c, nm0 k c]
      · obtain rfl : k = ss := by omega
        exact o4.trans y5.symm
    · obtain rfl : k = 0 := by omega
      refine ⟨o0, y1.trans q3, by show -100000 ≤ so; omega, by show so ≤ 100000; omega, o1, y2, Or.inl rfl, o2, y3, l2, l3, by show 0 + ss < ss + 1; omega, fun q hq => ?_, ?_⟩
      · show ∃ v : Int, sa2 17 (200 * 4 + (0 + q)) = ii v ∧ nmb v
        rw [Nat.zero_add, nm0 q hq]
        exact bts sp ss l5 l6 q hq
      · show sa2 17 (200 * 4 + (0 + ss)) = 0
        rw [Nat.zero_add]
        exact y5
    · refine Or.inr ⟨hE, wide, sp, ss, so, none, hLL, zn0, r3, ?_, by omega, by omega, g3, ?_, g4⟩
      · rw [f23 24 _ (by omega)]; exact q3
      · rw [f23 23 _ (by omega)]; exact m1
  | some (up', us', uo', d1, t1, d2, t2, w), ⟨g0, g1, g2, g3, g4, g5, g6, g7, g8, g9, g10, g11, g12, g13, g14⟩, ⟨m1, m2, m3, m4, m5, m6⟩, ⟨⟨n1, n2, n3, n4, n5⟩, n6, n7, n8, n9⟩, hLL =>
    subst g0 g1 g2
    obtain ⟨s1, s2, s3, s4, s5, s6⟩ := ys rfl
    have nm1 : ∀ k, k < us → sa2 17 (200 * 4 + (ss + 1 + k)) = T (up' + k) := fun k hk => by
      have := s5 k hk
      rw [m3 k hk, LLv (by omega)] at this
      exact this
    refine ⟨0, 2, ss + 1 + us + 1, 0, 0, 0, E, fun _ => 0, fun _ => 0, fun k => if k = 0 then so else uo', fun k => if k = 0 then 0 else 1, fun k => if k = 0 then 0 else ss + 1, fun k => if k = 0 then ss else us, ⟨hv.trans k4.symm, hvv, ⟨h1, k5, by omega⟩, ⟨h2, k6, by omega, by omega⟩, ⟨s1, by omega, by omega⟩, ⟨h3, k8, by omega⟩, ⟨h4, k9, Or.inl rfl⟩, ⟨h5, k10, Or.inl rfl⟩, ⟨k11, by omega⟩⟩, ?_, htx.T_congr (fun k hk => (e22 k hk).symm), ⟨fun k hk => by omega, fun k hk => by omega⟩, fun k hk => ?_, ⟨fun k hk => by omega, fun k hk => by omega⟩, fun k hk => by omega, ?_⟩
    · refine hch.T_congr (fun k hk => ?_)
      by_cases c : k < ss
      · rw [o3 k c, nm0 k c]
      · by_cases c1 : k = ss
        · subst c1
          exact o4.trans y5.symm
        · by_cases c2 : k < ss + 1 + us
          · have e1 := g6 (k - (ss + 1)) (by omega)
            have e2 := nm1 (k - (ss + 1)) (by omega)
            rw [show ss + 1 + (k - (ss + 1)) = k by omega] at e1 e2
            rw [e1, e2]
          · obtain rfl : k = ss + 1 + us := by omega
            exact g7.trans s6.symm
    · by_cases c : k = 0
      · subst c
        refine ⟨o0, y1.trans q3, by show -100000 ≤ so; omega, by show so ≤ 100000; omega, o1, y2, Or.inl rfl, o2, y3, l2, l3, by show 0 + ss < ss + 1 + us + 1; omega, fun q hq => ?_, ?_⟩
        · show ∃ v : Int, sa2 17 (200 * 4 + (0 + q)) = ii v ∧ nmb v
          rw [Nat.zero_add, nm0 q hq]
          exact bts sp ss l5 l6 q hq
        · show sa2 17 (200 * 4 + (0 + ss)) = 0
          rw [Nat.zero_add]
          exact y5
      · obtain rfl : k = 1 := by omega
        refine ⟨g3, s2.trans m4, n6, n7, g4, s3, Or.inr rfl, g5, s4, n1, n2, by show ss + 1 + us < ss + 1 + us + 1; omega, fun q hq => ?_, ?_⟩
        · show ∃ v : Int, sa2 17 (200 * 4 + (ss + 1 + q)) = ii v ∧ nmb v
          rw [nm1 q hq]
          exact bts up' us n4 n5 q hq
        · exact s6
    · refine Or.inr ⟨hE, wide, sp, ss, so, some (up', us, uo', d1, t1, d2, t2, w), hLL, zn0, r3, ?_, by omega, by omega, g8, ?_, g9, ?_, g12, ?_, n6, n7, g13, g14, ?_, Or.inl r4⟩
      · rw [f23 24 _ (by omega)]; exact q3
      · rw [f23 23 _ (by omega)]; exact m1
      · refine ⟨g10, g11, n1, n2, n4, ?_, fun k hk => ⟨?_, ?_⟩⟩
        · rw [f23 25 _ (by omega)]; exact m2
        · rw [f23 26 _ (by omega), e22 _ (by omega)]
          exact (m3 k hk).trans (LLv (by omega))
        · rw [e22 _ (by omega)]
          exact bts up' us n4 n5 k hk
      · rw [f23 24 _ (by omega)]; exact m4
      · exact ⟨m5.mv (fun a ha => f23 a _ (by omega)), m6.mv (fun a ha => f23 a _ (by omega)), n8, n9⟩
/-- a new zone i (from the spare), the tape empty -/
theorem RR.swap {S : CS} {si si' : Nat → Int32} {sj : Nat → Int64} {sa sa' : Nat → Nat → Int32} {sb sb' : Nat → Nat → Int64} (h : RR S (si, sj, sa, sb)) {i : Nat} (hi : i < 4) {z' : ZS} {s : Int32} {N : Nat} {A : Nat → Int32} (ht : RB s N A 0 (sa' 0)) (h1 : si' 1 = 0) (hI : ∀ k, kI k → k ≠ 1 → si' k = si k) (ha : ∀ j, sa' 56 j = sa 56 j) (hb : ∀ b j, b = 54 ∨ b = 63 ∨ b = 64 → sb' b j = sb b j)
    (hz : RZon z' sa' sb' i) (hza : ∀ q, q < 4 → q ≠ i → ∀ a j, kAz q a j → sa' a j = sa a j) (hzb : ∀ q, q < 4 → q ≠ i → ∀ a j, kBz q a j → sb' a j = sb a j) : RR ((s, N, A, S.1.2.2.2), zsw S.2 i z') (si', sj, sa', sb') := by
  obtain ⟨_, ⟨w, w1, w2, w3⟩, r3, ⟨q, q1, q2, q3, q4⟩, ⟨c, c1, c2, c3, c4⟩, r6, r7⟩ := h
  dsimp only at *
  refine ⟨⟨0, by omega, ht, h1⟩, ⟨w, w1, w2.T_congr (fun k _ => (ha k).symm), (hI 57 (by unfold kI; omega) (by decide)).trans w3⟩, r3.trans (hI 2 (by unfold kI; omega) (by decide)).symm, ⟨q, q1, q2, (hI 55 (by unfold kI; omega) (by decide)).trans q3, fun k hk => (q4 k hk).trans (hb 54 k (by omega)).symm⟩, ⟨c, c1, c2, (hI 61 (by unfold kI; omega) (by decide)).trans c3, fun z => ?_⟩, fun k hk => ?_, ?_⟩
  · obtain ⟨g1, tv, av, x, g2, g3, g4, g5⟩ := c4 z
    refine ⟨(hI 62 (by unfold kI; omega) (by decide)).trans g1, tv, av, x, g2, fun k hk => ?_, g4, g5⟩
    obtain ⟨e1, e2, e3, e4⟩ := g3 k hk
    exact ⟨e1, (hb 63 k (by omega)).trans e2, e3, (hb 64 k (by omega)).trans e4⟩
  · show RZon (zsw S.2 i z' k) sa' sb' k
    unfold zsw
    by_cases e : k = i
    · subst e
      rw [if_pos rfl]
      exact hz
    · rw [if_neg e, if_neg (by omega)]
      exact (r6 k hk).congr (hza k hk e) (hzb k hk e)
  · show RSpa (zsw S.2 i z' 4)
    unfold zsw
    rw [if_neg (by omega), if_pos rfl]
    obtain ⟨n, t, c, l, d, u, r, tm, tt, of, ds, ix, sz, _, h1, h2, _⟩ := r6 i hi
    exact ⟨⟨c, _, h1⟩, r, _, h2⟩
/-- a fault: the tape empty, the place told, the spare zone anything -/
theorem RR.ref {S : CS} {si si' : Nat → Int32} {sj : Nat → Int64} {sa sa' : Nat → Nat → Int32} {sb sb' : Nat → Nat → Int64} (h : RR S (si, sj, sa, sb)) {z' : ZS} {s : Int32} {N : Nat} {A : Nat → Int32} {pl : Int32} (ht : RB s N A 0 (sa' 0)) (h1 : si' 1 = 0) (h2 : si' 2 = pl) (hI : ∀ k, kI k → k ≠ 1 → k ≠ 2 → si' k = si k) (ha : ∀ j, sa' 56 j = sa 56 j) (hb : ∀ b j, b = 54 ∨ b = 63 ∨ b = 64 → sb' b j = sb b j)
    (hz : RSpa z') (hza : ∀ q, q < 4 → ∀ a j, kAz q a j → sa' a j = sa a j) (hzb : ∀ q, q < 4 → ∀ a j, kBz q a j → sb' a j = sb a j) : RR ((s, N, A, S.1.2.2.2.1, S.1.2.2.2.2.1, S.1.2.2.2.2.2.1, S.1.2.2.2.2.2.2.1, pl, S.1.2.2.2.2.2.2.2.2), zup S.2 4 z') (si', sj, sa', sb') := by
  obtain ⟨_, ⟨w, w1, w2, w3⟩, r3, ⟨q, q1, q2, q3, q4⟩, ⟨c, c1, c2, c3, c4⟩, r6, r7⟩ := h
  dsimp only at *
  refine ⟨⟨0, by omega, ht, h1⟩, ⟨w, w1, w2.T_congr (fun k _ => (ha k).symm), (hI 57 (by unfold kI; omega) (by decide) (by decide)).trans w3⟩, h2.symm, ⟨q, q1, q2, (hI 55 (by unfold kI; omega) (by decide) (by decide)).trans q3, fun k hk => (q4 k hk).trans (hb 54 k (by omega)).symm⟩, ⟨c, c1, c2, (hI 61 (by unfold kI; omega) (by decide) (by decide)).trans c3, fun z => ?_⟩, fun k hk => ?_, ?_⟩
  · obtain ⟨g1, tv, av, x, g2, g3, g4, g5⟩ := c4 z
    refine ⟨(hI 62 (by unfold kI; omega) (by decide) (by decide)).trans g1, tv, av, x, g2, fun k hk => ?_, g4, g5⟩
    obtain ⟨e1, e2, e3, e4⟩ := g3 k hk
    exact ⟨e1, (hb 63 k (by omega)).trans e2, e3, (hb 64 k (by omega)).trans e4⟩
  · show RZon (zup S.2 4 z' k) sa' sb' k
    unfold zup
    rw [if_neg (by omega)]
    exact (r6 k hk).congr (hza k hk) (hzb k hk)
  · show RSpa (zup S.2 4 z' 4)
    unfold zup
    rw [if_pos rfl]
    exact hz
