/-! ===== stretch ===== -/
theorem RZX.mv {z : ZS} {x o : Nat} {sa sa' : Nat → Nat → Int32} {sb sb' : Nat → Nat → Int64} {n t c l d u r : Nat} {tm : Nat → Int} {tt : Nat → Nat} {of ds : Nat → Int} {ix sz : Nat → Nat} (h : RZX z sa sb o n t c l d u r tm tt of ds ix sz) (ka : mvA x o sa' sa) (kb : mvB x o sb' sb) : RZX z sa' sb' x n t c l d u r tm tt of ds ix sz := by
  obtain ⟨⟨c1, c2, ⟨c3, c4, c5⟩, ⟨c6, c7, c8, c9⟩, ⟨c10, c11, c12⟩, ⟨c13, c14, c15⟩, ⟨c16, c17, c18⟩, ⟨c19, c20, c21⟩, ⟨c22, c23⟩⟩, h1, h2, ⟨h3, h3'⟩, h4, ⟨h5, h5'⟩, h6, h7⟩ := h
  refine ⟨⟨c1.trans (ka.one 4 (by omega)).symm, c2, ⟨c3, (ka.one 5 (by omega)).trans c4, c5⟩, ⟨c6, (ka.one 6 (by omega)).trans c7, c8, c9⟩, ⟨(ka.one 7 (by omega)).trans c10, c11, c12⟩, ⟨c13, (ka.one 8 (by omega)).trans c14, c15⟩, ⟨c16, (ka.one 9 (by omega)).trans c17, c18⟩, ⟨c19, (ka.one 10 (by omega)).trans c20, c21⟩, ⟨(ka.one 11 (by omega)).trans c22, c23⟩⟩, ?_, ?_, ⟨fun k hk => ?_, h3'⟩, fun k hk => ?_, ⟨fun k hk => ?_, fun k hk => ?_⟩, fun k hk => ?_, ?_⟩
  · exact h1.T_congr (fun k hk => (ka.w200 17 (by omega) (by omega)).symm)
  · exact h2.T_congr (fun k hk => (ka.w128 (by omega)).symm)
  · obtain ⟨g1, g2, g3, g4, g5, g6⟩ := h3 k hk
    exact ⟨g1, (kb.w200 (by omega)).trans g2, g3, g4, (ka.w200 13 (by omega) (by omega)).trans g5, g6⟩
  · obtain ⟨g1, g2, g3, g4, g5, g6, g7, g8, g9, n1, n2, n3, n4, n5⟩ := h4 k hk
    refine ⟨g1, (ka.w40 14 (by omega) (by omega)).trans g2, g3, g4, g5, (ka.w40 15 (by omega) (by omega)).trans g6, g7, g8, (ka.w40 16 (by omega) (by omega)).trans g9, n1, n2, n3, fun q hq => ?_, ?_⟩
    · obtain ⟨v, e1, e2⟩ := n4 q hq
      exact ⟨v, (ka.w200 17 (by omega) (by omega)).trans e1, e2⟩
    · exact (ka.w200 17 (by omega) (by omega)).trans n5
  · exact (h5 k hk).trans (ka.w40 20 (by omega) (by omega)).symm
  · exact (h5' k hk).trans (ka.w40 21 (by omega) (by omega)).symm
  · obtain ⟨g1, g2⟩ := h6 k hk
    exact ⟨g1.trans (kb.w40 18 (by omega) (by omega)).symm, g2.trans (kb.w40 19 (by omega) (by omega)).symm⟩
  · rcases h7 with ⟨g1, g2, g3⟩ | ⟨g1, wd, sp, ss, so, y, g2, g3, g4, g5, g6, g7, g8⟩
    · exact Or.inl ⟨g1, (ka.one 23 (by omega)).trans g2, g3⟩
    · refine Or.inr ⟨g1, wd, sp, ss, so, y, ?_, g3.mv (by omega) c23 ka, g4, (ka.w2 24 (k := 0) (by omega) (by omega)).trans g5, g6, g7, ?_⟩
      · rw [LL_congr (T := fun k => sa 22 (128 * o + k)) (fun k hk => ka.w128 (by omega))]
        exact g2
      · match y, g8 with
        | none, ⟨a1, a2, a3⟩ => exact ⟨a1, (ka.one 23 (by omega)).trans a2, a3⟩
        | some (up, us, uo, d1, t1, d2, t2, w), ⟨a1, a2, a3, a4, a5, a6, a7, a8, a9, a10, ⟨b1, b2, b3, b4⟩, a12⟩ =>
          exact ⟨a1, (ka.one 23 (by omega)).trans a2, a3, a4.mv (by omega) c23 ka, a5, (ka.w2 24 (by omega) (by omega)).trans a6, a7, a8, a9, a10, ⟨b1.mv (fun a ha => ka.w2 a (k := 0) (by omega) (by omega)), b2.mv (fun a ha => ka.w2 a (k := 1) (by omega) (by omega)), b3, b4⟩, a12⟩
theorem RR.zone {S : CS} {si si' : Nat → Int32} {sj sj' : Nat → Int64} {sa sa' : Nat → Nat → Int32} {sb sb' : Nat → Nat → Int64} (h : RR S (si, sj, sa, sb)) {i : Nat} (hi : i < 4) {z' : ZS} (hz : RZon z' sa' sb' i) (hI : ∀ k, kI k → si' k = si k) (hj : sj' 65 = sj 65) (h0 : ∀ j, sa' 0 j = sa 0 j) (ha : ∀ j, sa' 56 j = sa 56 j) (hb : ∀ b j, b = 54 ∨ b = 63 ∨ b = 64 → sb' b j = sb b j) (hza : ∀ q, q < 4 → q ≠ i → ∀ a j, kAz q a j → sa' a j = sa a j) (hzb : ∀ q, q < 4 → q ≠ i → ∀ a j, kBz q a j → sb' a j = sb a j) : RR (S.1, zup S.2 i z') (si', sj', sa', sb') := by
  obtain ⟨⟨n, t1, t2, t3⟩, ⟨w, w1, w2, w3⟩, r3, ⟨q, q1, q2, q3, q4⟩, ⟨c, c1, c2, c3, c4⟩, r6, r7⟩ := h
  dsimp only at *
  refine ⟨⟨n, t1, t2.T_congr (fun k _ => (h0 k).symm), (hI 1 (by unfold kI; omega)).trans t3⟩, ⟨w, w1, w2.T_congr (fun k _ => (ha k).symm), (hI 57 (by unfold kI; omega)).trans w3⟩, r3.trans (hI 2 (by unfold kI; omega)).symm, ⟨q, q1, q2, (hI 55 (by unfold kI; omega)).trans q3, fun k hk => (q4 k hk).trans (hb 54 k (by omega)).symm⟩, ⟨c, c1, c2, (hI 61 (by unfold kI; omega)).trans c3, fun z => ?_⟩, fun k hk => ?_, ?_⟩
  · obtain ⟨g1, tv, av, x, g2, g3, g4, g5⟩ := c4 z
    refine ⟨(hI 62 (by unfold kI; omega)).trans g1, tv, av, x, g2, fun k hk => ?_, g4, hj.trans g5⟩
    obtain ⟨e1, e2, e3, e4⟩ := g3 k hk
    exact ⟨e1, (hb 63 k (by omega)).trans e2, e3, (hb 64 k (by omega)).trans e4⟩
  · show RZon (zup S.2 i z' k) sa' sb' k
    unfold zup
    by_cases e : k = i
    · subst e
      rw [if_pos rfl]
      exact hz
    · rw [if_neg e]
      exact (r6 k hk).congr (hza k hk e) (hzb k hk e)
  · show RSpa (zup S.2 i z' 4)
    unfold zup
    rw [if_neg (by omega)]
    exact r7
theorem phi_zone (S : CS) {i : Nat} (hi : i < 4) (z' : ZS) : phi (S.1, zup S.2 i z') + pz (S.2 i) = phi S + pz z' := by
  have e : ∀ j, zup S.2 i z' j = if j = i then z' else S.2 j := fun _ => rfl
  unfold phi pz
  dsimp only
  rw [e 0, e 1, e 2, e 3, e 4]
  rcases (show i = 0 ∨ i = 1 ∨ i = 2 ∨ i = 3 by omega) with rfl | rfl | rfl | rfl
  · rw [if_pos rfl, if_neg (by decide), if_neg (by decide), if_neg (by decide), if_neg (by decide)]
    omega
  · rw [if_neg (by decide), if_pos rfl, if_neg (by decide), if_neg (by decide), if_neg (by decide)]
    omega
  · rw [if_neg (by decide), if_neg (by decide), if_pos rfl, if_neg (by decide), if_neg (by decide)]
    omega
  · rw [if_neg (by decide), if_neg (by decide), if_neg (by decide), if_pos rfl, if_neg (by decide)]
    omega
theorem X4_kAz {a j : Nat} (h : X4 a j) : kAz 4 a j := by
  unfold X4 at h
  unfold kAz
  omega
theorem st_stretch {nf : Nat} (hnf : 10000 ≤ nf) (S : CS) (M : MS) (p0 p1 : Int32) (h : RR S M) : STWi nf RR S (cq_stretch nf S p0 p1) (f_Mo_stretch nf p0 p1 M.1 M.2.1 M.2.2.1 M.2.2.2) := by
  obtain ⟨si, sj, sa, sb⟩ := M
  generalize hC : cq_stretch nf S p0 p1 = C
  unfold cq_stretch at hC
  dsimp only
  generalize hQ : f_Mo_stretch nf p0 p1 si sj sa sb = Q
  have e46 : ∀ s : Int32, ¬ s ≤ 0 → f_Mo_stretch_46 nf p0 p1 s si sj sa sb = some (0, va_up si 3 s, sj, sa, sb) := by
    intro s hs
    unfold f_Mo_stretch_46
    rw [if_neg hs]
  unfold f_Mo_stretch f_Mo_stretch_0 f_Mo_stretch_27 at hQ
  rw [e46 1 (by decide), e46 2 (by decide), e46 3 (by decide)] at hQ
  rcases zcase p0 with ⟨i, hi, rfl⟩ | hz
  · obtain ⟨a1, a2, a3, a4, a5, a6, a7⟩ := zgood hi nf
    rw [a4] at hC
    rw [a3, Option.bind_some, if_pos rfl] at hQ
    obtain ⟨y, rfl, y1, y2⟩ := ii_all p1
    by_cases cy : 1970 ≤ y ∧ y ≤ 2400
    · have n70 : ¬ ii y < 1970 := by rw [ii_lit, ii_lt (by omega) (by omega) (by omega) (by omega)]; omega
      have p24 : ii y ≤ 2400 := by rw [ii_lit, ii_le (by omega) (by omega) (by omega) (by omega)]; omega
      rw [if_neg n70, if_pos p24, a5, if_neg a7] at hQ
      have hzi : RZon (S.2 i) sa sb i := h.2.2.2.2.2.1 i hi
      obtain ⟨nv, tv, rv, tmv, ttv, hs, b, e, O, D, Z, B, hv⟩ := hzi.view (by omega)
      rcases hv.rul with ⟨x1, x2, x3, x4, x5, x6, x7⟩ | ⟨x1, x2, x3⟩
      · obtain ⟨n, t, c, l, d, u, r, tm, tt, of, ds, ix, sz, h0'⟩ := id hzi
        have h0 : RZX (S.2 i) sa sb i n t c l d u r tm tt of ds ix sz := h0'
        obtain ⟨⟨c1, c2, ⟨c3, c4, c5⟩, ⟨c6, c7, c8, c9⟩, ⟨c10, c11, c12⟩, _⟩, h1, _, ⟨h3, h3'⟩, _⟩ := id h0
        rw [if_pos (show (2 : Int32) ≤ sa 23 i by rw [x3]; decide)] at hQ
        -- the limit
        have ys0 : ys 1970 = 0 := by decide
        have m1 := ys_mono (show (1970 : Int) ≤ y + 1 by omega)
        have m2 := ys_mono2 (show (1970 : Int) ≤ y + 1 by omega)
        have eY : (ii y).toInt64 + 1 = jj (y + 1) := by rw [ii_64 (by omega) (by omega), show (1 : Int64) = jj 1 from rfl, jj_add]
        have eL : jj (ys (y + 1)) * 86400 = jj (ys (y + 1) * 86400) := by rw [show (86400 : Int64) = jj 86400 from rfl, jj_mul]
        -- the reference's start
        have n4 : ¬ ((4 : Int32) < 0 ∨ 5 ≤ 4) := by decide
        have z4 : (4 : Int32).toNatClampNeg = 4 := rfl
        have mp : f_Mo_put nf 4 (ii (i : Int)) (va_up si 3 0) sj sa sb = some (va_up si 3 0, sj, putA 4 i sa, putB 4 i sb) := mput (by omega) (show 4 < 5 by omega) (by omega) (by omega) sa sb
        unfold f_Mo_stretch_46 at hQ
        rw [if_pos (show (0 : Int32) ≤ 0 by decide), mp, Option.bind_some] at hQ
        dsimp only at hQ
        rw [eY, mdays11 nf (by omega) (by omega), Option.bind_some, z4, if_neg n4, eL] at hQ
        have R4 : RZX (S.2 i) (putA 4 i sa) (putB 4 i sb) 4 n t c l d u r tm tt of ds ix sz := h0.mv (putA_mv 4 i sa) (putB_mv 4 i sb)
        have s5 : putA 4 i sa 5 4 = ii (n : Int) := R4.1.2.2.1.2.1
        rw [s5] at hQ
        have hreb : REb (putA 4 i sa) 4 b e := ⟨x7.1.mv (fun a ha => (putA_mv 4 i sa).w2 a (by omega) (k := 0) (by omega)), x7.2.1.mv (fun a ha => (putA_mv 4 i sa).w2 a (by omega) (k := 1) (by omega)), x7.2.2⟩
        -- where it begins
        obtain ⟨x, hx, hxl, cX, rX⟩ : ∃ x : Int, isI x ∧ (0 < n → tm (n - 1) ≤ x) ∧ f_Zone_addEdges nf (jj (ys (y + 1) * 86400)) (S.2 i).2.1 (S.2 i).2.2.1 (S.2 i).2.2.2.2.1 (S.2 i).2.2.2.2.2.1 (S.2 i).2.2.2.2.2.2.1 (S.2 i).2.2.2.2.2.2.2.1 (S.2 i).2.2.2.2.2.2.2.2.1 (S.2 i).2.2.2.2.2.2.2.2.2.1 (S.2 i).2.2.2.2.2.2.2.2.2.2.1 (S.2 i).2.2.2.2.2.2.2.2.2.2.2.1 (S.2 i).2.2.2.2.2.2.2.2.2.2.2.2.1 (S.2 i).2.2.2.2.2.2.2.2.2.2.2.2.2.1 (S.2 i).2.2.2.2.2.2.2.2.2.2.2.2.2.2.1 (S.2 i).2.2.2.2.2.2.2.2.2.2.2.2.2.2.2.1 (S.2 i).2.2.2.2.2.2.2.2.2.2.2.2.2.2.2.2.2.2.2.2.1 (S.2 i).2.2.2.2.2.2.2.2.2.2.2.2.2.2.2.2.2.2.2.2.2.1 (S.2 i).2.2.2.2.2.2.2.2.2.2.2.2.2.2.2.2.2.2.2.2.2.2.1 (S.2 i).2.2.2.2.2.2.2.2.2.2.2.2.2.2.2.2.2.2.2.2.2.2.2.1 (S.2 i).2.2.2.2.2.2.2.2.2.2.2.2.2.2.2.2.2.2.2.2.2.2.2.2.1 (S.2 i).2.2.2.2.2.2.2.2.2.2.2.2.2.2.2.2.2.2.2.2.2.2.2.2.2.1 (S.2 i).2.2.2.2.2.2.2.2.2.2.2.2.2.2.2.2.2.2.2.2.2.2.2.2.2.2.2.1 (S.2 i).2.2.2.2.2.2.2.2.2.2.2.2.2.2.2.2.2.2.2.2.2.2.2.2.2.2.2.2.1 (S.2 i).2.2.2.2.2.2.2.2.2.2.2.2.2.2.2.2.2.2.2.2.2.2.2.2.2.2.2.2.2.1 (S.2 i).2.2.2.2.2.2.2.2.2.2.2.2.2.2.2.2.2.2.2.2.2.2.2.2.2.2.2.2.2.2.1 (S.2 i).2.2.2.2.2.2.2.2.2.2.2.2.2.2.2.2.2.2.2.2.2.2.2.2.2.2.2.2.2.2.2.1 (S.2 i).2.2.2.2.2.2.2.2.2.2.2.2.2.2.2.2.2.2.2.2.2.2.2.2.2.2.2.2.2.2.2.2.1 (S.2 i).2.2.2.2.2.2.2.2.2.2.2.2.2.2.2.2.2.2.2.2.2.2.2.2.2.2.2.2.2.2.2.2.2.1 (S.2 i).2.2.2.2.2.2.2.2.2.2.2.2.2.2.2.2.2.2.2.2.2.2.2.2.2.2.2.2.2.2.2.2.2.2.1 (S.2 i).2.2.2.2.2.2.2.2.2.2.2.2.2.2.2.2.2.2.2.2.2.2.2.2.2.2.2.2.2.2.2.2.2.2.2.1 (S.2 i).2.2.2.2.2.2.2.2.2.2.2.2.2.2.2.2.2.2.2.2.2.2.2.2.2.2.2.2.2.2.2.2.2.2.2.2.1 (S.2 i).2.2.2.2.2.2.2.2.2.2.2.2.2.2.2.2.2.2.2.2.2.2.2.2.2.2.2.2.2.2.2.2.2.2.2.2.2.1 (S.2 i).2.2.2.2.2.2.2.2.2.2.2.2.2.2.2.2.2.2.2.2.2.2.2.2.2.2.2.2.2.2.2.2.2.2.2.2.2.2.1 (S.2 i).2.2.2.2.2.2.2.2.2.2.2.2.2.2.2.2.2.2.2.2.2.2.2.2.2.2.2.2.2.2.2.2.2.2.2.2.2.2.2.1 (S.2 i).2.2.2.2.2.2.2.2.2.2.2.2.2.2.2.2.2.2.2.2.2.2.2.2.2.2.2.2.2.2.2.2.2.2.2.2.2.2.2.2.1 (S.2 i).2.2.2.2.2.2.2.2.2.2.2.2.2.2.2.2.2.2.2.2.2.2.2.2.2.2.2.2.2.2.2.2.2.2.2.2.2.2.2.2.2 = ad 1 5 (f_Zone_addEdges_52 nf (S.2 i).2.2.2.2.2.2.2.2.2.2.2.2.2.2.2.2.2.2.2.2.1 (S.2 i).2.2.2.2.2.2.2.2.2.2.2.2.2.2.2.2.2.2.2.2.2.1 (S.2 i).2.2.2.2.2.2.2.2.2.2.2.2.2.2.2.2.2.2.2.2.2.2.1 (S.2 i).2.2.2.2.2.2.2.2.2.2.2.2.2.2.2.2.2.2.2.2.2.2.2.1 (S.2 i).2.2.2.2.2.2.2.2.2.2.2.2.2.2.2.2.2.2.2.2.2.2.2.2.1 (S.2 i).2.2.2.2.2.2.2.2.2.2.2.2.2.2.2.2.2.2.2.2.2.2.2.2.2.1 (S.2 i).2.2.2.2.2.2.2.2.2.2.2.2.2.2.2.2.2.2.2.2.2.2.2.2.2.2.2.1 (S.2 i).2.2.2.2.2.2.2.2.2.2.2.2.2.2.2.2.2.2.2.2.2.2.2.2.2.2.2.2.1 (S.2 i).2.2.2.2.2.2.2.2.2.2.2.2.2.2.2.2.2.2.2.2.2.2.2.2.2.2.2.2.2.1 (S.2 i).2.2.2.2.2.2.2.2.2.2.2.2.2.2.2.2.2.2.2.2.2.2.2.2.2.2.2.2.2.2.1 (S.2 i).2.2.2.2.2.2.2.2.2.2.2.2.2.2.2.2.2.2.2.2.2.2.2.2.2.2.2.2.2.2.2.1 (S.2 i).2.2.2.2.2.2.2.2.2.2.2.2.2.2.2.2.2.2.2.2.2.2.2.2.2.2.2.2.2.2.2.2.1 (S.2 i).2.2.2.2.2.2.2.2.2.2.2.2.2.2.2.2.2.2.2.2.2.2.2.2.2.2.2.2.2.2.2.2.2.1 (S.2 i).2.2.2.2.2.2.2.2.2.2.2.2.2.2.2.2.2.2.2.2.2.2.2.2.2.2.2.2.2.2.2.2.2.2.1 (S.2 i).2.2.2.2.2.2.2.2.2.2.2.2.2.2.2.2.2.2.2.2.2.2.2.2.2.2.2.2.2.2.2.2.2.2.2.1 (S.2 i).2.2.2.2.2.2.2.2.2.2.2.2.2.2.2.2.2.2.2.2.2.2.2.2.2.2.2.2.2.2.2.2.2.2.2.2.1 (S.2 i).2.2.2.2.2.2.2.2.2.2.2.2.2.2.2.2.2.2.2.2.2.2.2.2.2.2.2.2.2.2.2.2.2.2.2.2.2.1 (S.2 i).2.2.2.2.2.2.2.2.2.2.2.2.2.2.2.2.2.2.2.2.2.2.2.2.2.2.2.2.2.2.2.2.2.2.2.2.2.2.1 (S.2 i).2.2.2.2.2.2.2.2.2.2.2.2.2.2.2.2.2.2.2.2.2.2.2.2.2.2.2.2.2.2.2.2.2.2.2.2.2.2.2.1 (S.2 i).2.2.2.2.2.2.2.2.2.2.2.2.2.2.2.2.2.2.2.2.2.2.2.2.2.2.2.2.2.2.2.2.2.2.2.2.2.2.2.2.1 (S.2 i).2.2.2.2.2.2.2.2.2.2.2.2.2.2.2.2.2.2.2.2.2.2.2.2.2.2.2.2.2.2.2.2.2.2.2.2.2.2.2.2.2 (ii (c : Int)) (ii (t : Int)) (ii (n : Int)) (jj (ys (y + 1) * 86400)) (jj x) (S.2 i).2.1 (S.2 i).2.2.1 (S.2 i).2.2.2.2.1 (S.2 i).2.2.2.2.2.1 (S.2 i).2.2.2.2.2.2.1 (S.2 i).2.2.2.2.2.2.2.1 (S.2 i).2.2.2.2.2.2.2.2.1 (S.2 i).2.2.2.2.2.2.2.2.2.1 (S.2 i).2.2.2.2.2.2.2.2.2.2.1 (S.2 i).2.2.2.2.2.2.2.2.2.2.2.1 (S.2 i).2.2.2.2.2.2.2.2.2.2.2.2.1 (S.2 i).2.2.2.2.2.2.2.2.2.2.2.2.2.1 (S.2 i).2.2.2.2.2.2.2.2.2.2.2.2.2.2.1 (S.2 i).2.2.2.2.2.2.2.2.2.2.2.2.2.2.2.1) ∧ f_Mo_stretch_115 nf (jj (ys (y + 1) * 86400)) 4 (ii (i : Int)) (jj x) (va_up si 3 0) sj (putA 4 i sa) (putB 4 i sb) = Q := by
          by_cases n0 : n = 0
          · subst n0
            rw [if_pos (show ii ((0 : Nat) : Int) = 0 from rfl), show (-1 : Int64) = jj (-1) from rfl] at hQ
            refine ⟨-1, by unfold isI; omega, by omega, ?_, hQ⟩
            unfold f_Zone_addEdges f_Zone_addEdges_0
            rw [if_pos (show (S.2 i).2.1 ≤ 0 by rw [c3]; decide), h1.1, c3, c6, show (-1 : Int64) = jj (-1) from rfl]
          · obtain ⟨w1, w2, w3, _⟩ := h3 (n - 1) (by omega)
            obtain ⟨_, w2', _⟩ := R4.2.2.2.1.1 (n - 1) (by omega)
            obtain ⟨k1, k2⟩ := nidx (k := n - 1) (m := 200) (by omega) (by omega)
            obtain ⟨k3, k4⟩ := nidx (k := 800 + (n - 1)) (m := 1000) (by omega) (by omega)
            rw [if_neg (show ¬ ii (n : Int) = 0 by rw [ii_lit, ii_eq (by omega) (by omega) (by omega) (by omega)]; omega), if_neg n4, show 200 * (4 : Int32) + ii (n : Int) - 1 = ii ((800 + (n - 1) : Nat) : Int) by rw [show (200 * (4 : Int32)) = ii 800 from rfl, show (1 : Int32) = ii 1 from rfl, ii_add, ii_sub]; congr 1; omega, k3, if_neg k4] at hQ
            have w2'' : putB 4 i sb 12 (800 + (n - 1)) = jj (tm (n - 1)) := w2'
            rw [w2''] at hQ
            refine ⟨tm (n - 1), w3, by omega, ?_, hQ⟩
            unfold f_Zone_addEdges f_Zone_addEdges_0
            rw [if_neg (show ¬ (S.2 i).2.1 ≤ 0 by rw [c3, ii_lit, ii_le (by omega) (by omega) (by omega) (by omega)]; omega), show (S.2 i).2.1 - 1 = ii ((n - 1 : Nat) : Int) by rw [c3, ii_lit, ii_sub, show (n : Int) - 1 = ((n - 1 : Nat) : Int) by omega], k1, if_neg k2, w1, h1.1, c3, c6]
        have hxI := hx
        unfold isI at hx
        unfold f_Mo_stretch_115 f_Mo_stretch_144 at rX
        rw [if_pos (show (-1152921504606846976 : Int64) < jj x by rw [show (-1152921504606846976 : Int64) = jj (-1152921504606846976) from rfl, jj_lt (by omega) (by omega) (by omega) (by omega)]; omega), if_neg (show ¬ (1152921504606846976 : Int64) ≤ jj x by rw [show (1152921504606846976 : Int64) = jj 1152921504606846976 from rfl, jj_le (by omega) (by omega) (by omega) (by omega)]; omega)] at rX
        unfold f_Zone_addEdges_52 at cX
        rw [wk_init (by omega) x5 x6 x7.2.2.1 x7.2.2.2 (by omega) (by omega), Option.bind_some] at cX
        dsimp only at cX
        have lp := strLoop (nf := nf) (z0 := S.2 i) (b := b) (e := e) hnf hi h0 x4 x5 x6 x7.2.2.1 x7.2.2.2 (lim := ys (y + 1) * 86400) (by omega) (by omega) (200 - n) n t c d u ((S.2 i).2.1, (S.2 i).2.2.1, (S.2 i).2.2.2.2.1, (S.2 i).2.2.2.2.2.1, (S.2 i).2.2.2.2.2.2.1, (S.2 i).2.2.2.2.2.2.2.1, (S.2 i).2.2.2.2.2.2.2.2.1, (S.2 i).2.2.2.2.2.2.2.2.2.1, (S.2 i).2.2.2.2.2.2.2.2.2.2.1, (S.2 i).2.2.2.2.2.2.2.2.2.2.2.1, (S.2 i).2.2.2.2.2.2.2.2.2.2.2.2.1, (S.2 i).2.2.2.2.2.2.2.2.2.2.2.2.2.1, (S.2 i).2.2.2.2.2.2.2.2.2.2.2.2.2.2.1, (S.2 i).2.2.2.2.2.2.2.2.2.2.2.2.2.2.2.1) x nf nf (va_up si 3 0) sj (putA 4 i sa) (putB 4 i sb) tm tt of ds ix sz (by omega) (by omega) (by omega) R4 (by omega) (by omega) (by omega) (KP.rf h0) hreb hxI hxl
        rw [Nat.sub_self, show ii ((0 : Nat) : Int) = 0 from rfl, rX] at lp
        obtain ⟨a, Q', kc, ks, si', sj', sa', sb', g1, g2, g3, g4, g5⟩ := lp
        obtain ⟨q0, q1, q2, q3, q4, q5, q6, q7, q8, q9, q10, q11, q12, q13⟩ := Q'
        have hf : f_ZF_stretch nf (ii (i : Int)) (ii y) (S.2 i).2.1 (S.2 i).2.2.1 (S.2 i).2.2.2.2.1 (S.2 i).2.2.2.2.2.1 (S.2 i).2.2.2.2.2.2.1 (S.2 i).2.2.2.2.2.2.2.1 (S.2 i).2.2.2.2.2.2.2.2.1 (S.2 i).2.2.2.2.2.2.2.2.2.1 (S.2 i).2.2.2.2.2.2.2.2.2.2.1 (S.2 i).2.2.2.2.2.2.2.2.2.2.2.1 (S.2 i).2.2.2.2.2.2.2.2.2.2.2.2.1 (S.2 i).2.2.2.2.2.2.2.2.2.2.2.2.2.1 (S.2 i).2.2.2.2.2.2.2.2.2.2.2.2.2.2.1 (S.2 i).2.2.2.2.2.2.2.2.2.2.2.2.2.2.2.1 (S.2 i).2.2.2.2.2.2.2.2.2.2.2.2.2.2.2.2.2.2.1 (S.2 i).2.2.2.2.2.2.2.2.2.2.2.2.2.2.2.2.2.2.2.2.1 (S.2 i).2.2.2.2.2.2.2.2.2.2.2.2.2.2.2.2.2.2.2.2.2.1 (S.2 i).2.2.2.2.2.2.2.2.2.2.2.2.2.2.2.2.2.2.2.2.2.2.1 (S.2 i).2.2.2.2.2.2.2.2.2.2.2.2.2.2.2.2.2.2.2.2.2.2.2.1 (S.2 i).2.2.2.2.2.2.2.2.2.2.2.2.2.2.2.2.2.2.2.2.2.2.2.2.1 (S.2 i).2.2.2.2.2.2.2.2.2.2.2.2.2.2.2.2.2.2.2.2.2.2.2.2.2.1 (S.2 i).2.2.2.2.2.2.2.2.2.2.2.2.2.2.2.2.2.2.2.2.2.2.2.2.2.2.2.1 (S.2 i).2.2.2.2.2.2.2.2.2.2.2.2.2.2.2.2.2.2.2.2.2.2.2.2.2.2.2.2.1 (S.2 i).2.2.2.2.2.2.2.2.2.2.2.2.2.2.2.2.2.2.2.2.2.2.2.2.2.2.2.2.2.1 (S.2 i).2.2.2.2.2.2.2.2.2.2.2.2.2.2.2.2.2.2.2.2.2.2.2.2.2.2.2.2.2.2.1 (S.2 i).2.2.2.2.2.2.2.2.2.2.2.2.2.2.2.2.2.2.2.2.2.2.2.2.2.2.2.2.2.2.2.1 (S.2 i).2.2.2.2.2.2.2.2.2.2.2.2.2.2.2.2.2.2.2.2.2.2.2.2.2.2.2.2.2.2.2.2.1 (S.2 i).2.2.2.2.2.2.2.2.2.2.2.2.2.2.2.2.2.2.2.2.2.2.2.2.2.2.2.2.2.2.2.2.2.1 (S.2 i).2.2.2.2.2.2.2.2.2.2.2.2.2.2.2.2.2.2.2.2.2.2.2.2.2.2.2.2.2.2.2.2.2.2.1 (S.2 i).2.2.2.2.2.2.2.2.2.2.2.2.2.2.2.2.2.2.2.2.2.2.2.2.2.2.2.2.2.2.2.2.2.2.2.1 (S.2 i).2.2.2.2.2.2.2.2.2.2.2.2.2.2.2.2.2.2.2.2.2.2.2.2.2.2.2.2.2.2.2.2.2.2.2.2.1 (S.2 i).2.2.2.2.2.2.2.2.2.2.2.2.2.2.2.2.2.2.2.2.2.2.2.2.2.2.2.2.2.2.2.2.2.2.2.2.2.1 (S.2 i).2.2.2.2.2.2.2.2.2.2.2.2.2.2.2.2.2.2.2.2.2.2.2.2.2.2.2.2.2.2.2.2.2.2.2.2.2.2.1 (S.2 i).2.2.2.2.2.2.2.2.2.2.2.2.2.2.2.2.2.2.2.2.2.2.2.2.2.2.2.2.2.2.2.2.2.2.2.2.2.2.2.1 (S.2 i).2.2.2.2.2.2.2.2.2.2.2.2.2.2.2.2.2.2.2.2.2.2.2.2.2.2.2.2.2.2.2.2.2.2.2.2.2.2.2.2.1 (S.2 i).2.2.2.2.2.2.2.2.2.2.2.2.2.2.2.2.2.2.2.2.2.2.2.2.2.2.2.2.2.2.2.2.2.2.2.2.2.2.2.2.2 = some ((a, q0, q1, q2, q3, q4, q5, q6, q7, q8, q9, q10, q11, q12, q13), 0 + (kc + 1), 0 + (ks + 5)) := by
          unfold f_ZF_stretch f_ZF_stretch_0
          rw [a1, Option.bind_some, if_neg n70, if_pos p24, a5, if_neg a6, if_neg (show ¬ (S.2 i).2.2.2.2.2.2.2.2.2.2.2.2.2.2.2.2.2.2.1 = 0 by rw [x4]; decide), if_neg a6, eY, ystart_ok nf (by omega) (by omega), Option.bind_some, eL, cX]
          exact (congrArg (fun X => (ad 1 5 X).bind fun ((z_7, z_8, z_9, z_10, z_11, z_12, z_13, z_14, z_15, z_16, z_17, z_18, z_19, z_20, z_21), kc_26, ks_27) => ad kc_26 ks_27 (some ((z_7, z_8, z_9, z_10, z_11, z_12, z_13, z_14, z_15, z_16, z_17, z_18, z_19, z_20, z_21), 0, 0))) g1).trans rfl
        rw [hf] at hC
        dsimp only at hC
        have fI : ∀ k, kI k → si' k = si k := fun k hk => (g2.1 k (by unfold kI at hk; omega)).trans (vup_ne (by unfold kI at hk; omega))
        have f3 : si' 3 = 0 := (g2.1 3 (by omega)).trans rfl
        have fA : ∀ a j, ¬ kAz 4 a j → a ≠ 48 → a ≠ 53 → sa' a j = sa a j := fun a j h1 h2 h3 => (g2.2.2.1 a j (fun q => h1 (X4_kAz q)) h2 h3).trans (putA_out h1)
        have fB : ∀ b j, ¬ kBz 4 b j → sb' b j = sb b j := fun b j h1 => (g2.2.2.2 b j (fun q => h1 (by unfold kBz; omega))).trans (putB_out h1)
        have kN : ∀ q, q < 4 → ∀ a j, kAz q a j → ¬ kAz 4 a j ∧ a ≠ 48 ∧ a ≠ 53 := fun q hq a j k => ⟨kAz_dis k (by omega), by unfold kAz at k; omega, by unfold kAz at k; omega⟩
        have kM : ∀ q, q < 4 → ∀ b j, kBz q b j → ¬ kBz 4 b j := fun q hq b j k => kBz_dis k (by omega)
        have ph := phi_zone S hi (zM (S.2 i) (q0, q1, q2, q3, q4, q5, q6, q7, q8, q9, q10, q11, q12, q13))
        have pN : pz (zM (S.2 i) (q0, q1, q2, q3, q4, q5, q6, q7, q8, q9, q10, q11, q12, q13)) = q12 + (S.2 i).2.2.2.2.2.2.2.2.2.2.2.2.2.2.2.2.2.2.2.2.2.2.2.2.2.2.2.2.1 := rfl
        have p0' : pz (S.2 i) = (S.2 i).2.2.2.2.2.2.2.2.2.2.2.2.2.2.1 + (S.2 i).2.2.2.2.2.2.2.2.2.2.2.2.2.2.2.2.2.2.2.2.2.2.2.2.2.2.2.2.1 := rfl
        have g3' : kc + (S.2 i).2.2.2.2.2.2.2.2.2.2.2.2.2.2.1 ≤ q12 := g3
        have g4' : ks + 2 * (S.2 i).2.2.2.2.2.2.2.2.2.2.2.2.2.2.1 ≤ 2 * q12 := g4
        have fin : ∀ (sa2 : Nat → Nat → Int32) (sb2 : Nat → Nat → Int64), RR (S.1, zup S.2 i (zM (S.2 i) (q0, q1, q2, q3, q4, q5, q6, q7, q8, q9, q10, q11, q12, q13))) (si', sj', sa2, sb2) → Q = some (a, si', sj', sa2, sb2) → STWi nf RR S C Q := by
          intro sa2 sb2 hR hQ'
          exact ⟨0, a.toInt64, (S.1, zup S.2 i (zM (S.2 i) (q0, q1, q2, q3, q4, q5, q6, q7, q8, q9, q10, q11, q12, q13))), _, _, a, _, hC.symm, hQ', congrArg some f3, fun _ => rfl, hR, by omega, by omega⟩
        rcases g5 with ⟨g6, g7⟩ | ⟨g6, g7⟩
        · refine fin _ _ (h.zone hi (g6.mv (putA_mv i 4 sa') (putB_mv i 4 sb')) fI (g2.2.1 65 (by decide)) (fun j => ?_) (fun j => ?_) (fun b j hb => ?_) (fun q hq hne a j k => ?_) (fun q hq hne b j k => ?_)) g7
          · rw [putA_out (by unfold kAz; omega), fA 0 j (by unfold kAz; omega) (by decide) (by decide)]
          · rw [putA_out (by unfold kAz; omega), fA 56 j (by unfold kAz; omega) (by decide) (by decide)]
          · rw [putB_out (by unfold kBz; omega), fB b j (by unfold kBz; omega)]
          · obtain ⟨k1, k2, k3⟩ := kN q hq a j k
            rw [putA_out (kAz_dis k hne), fA a j k1 k2 k3]
          · rw [putB_out (kBz_dis k hne), fB b j (kM q hq b j k)]
        · refine fin _ _ (h.zone hi (g6.congr (fun a j k => ?_) (fun b j k => fB b j (kM i hi b j k))) fI (g2.2.1 65 (by decide)) (fun j => ?_) (fun j => ?_) (fun b j hb => ?_) (fun q hq hne a j k => ?_) (fun q hq hne b j k => ?_)) g7
          · obtain ⟨k1, k2, k3⟩ := kN i hi a j k
            exact fA a j k1 k2 k3
          · rw [fA 0 j (by unfold kAz; omega) (by decide) (by decide)]
          · rw [fA 56 j (by unfold kAz; omega) (by decide) (by decide)]
          · rw [fB b j (by unfold kBz; omega)]
          · obtain ⟨k1, k2, k3⟩ := kN q hq a j k
            rw [fA a j k1 k2 k3]
          · rw [fB b j (kM q hq b j k)]
      · have h23 : ¬ (2 : Int32) ≤ sa 23 i := by
          rcases hv.2.1.2.2 with ⟨_, q1, _⟩ | ⟨_, _, q1, _⟩ | ⟨_, q1, _⟩
          · rw [q1]; decide
          · rw [q1]; decide
          · rw [x1] at q1
            cases q1
        rw [if_neg h23] at hQ
        have hf : f_ZF_stretch nf (ii (i : Int)) (ii y) (S.2 i).2.1 (S.2 i).2.2.1 (S.2 i).2.2.2.2.1 (S.2 i).2.2.2.2.2.1 (S.2 i).2.2.2.2.2.2.1 (S.2 i).2.2.2.2.2.2.2.1 (S.2 i).2.2.2.2.2.2.2.2.1 (S.2 i).2.2.2.2.2.2.2.2.2.1 (S.2 i).2.2.2.2.2.2.2.2.2.2.1 (S.2 i).2.2.2.2.2.2.2.2.2.2.2.1 (S.2 i).2.2.2.2.2.2.2.2.2.2.2.2.1 (S.2 i).2.2.2.2.2.2.2.2.2.2.2.2.2.1 (S.2 i).2.2.2.2.2.2.2.2.2.2.2.2.2.2.1 (S.2 i).2.2.2.2.2.2.2.2.2.2.2.2.2.2.2.1 (S.2 i).2.2.2.2.2.2.2.2.2.2.2.2.2.2.2.2.2.2.1 (S.2 i).2.2.2.2.2.2.2.2.2.2.2.2.2.2.2.2.2.2.2.2.1 (S.2 i).2.2.2.2.2.2.2.2.2.2.2.2.2.2.2.2.2.2.2.2.2.1 (S.2 i).2.2.2.2.2.2.2.2.2.2.2.2.2.2.2.2.2.2.2.2.2.2.1 (S.2 i).2.2.2.2.2.2.2.2.2.2.2.2.2.2.2.2.2.2.2.2.2.2.2.1 (S.2 i).2.2.2.2.2.2.2.2.2.2.2.2.2.2.2.2.2.2.2.2.2.2.2.2.1 (S.2 i).2.2.2.2.2.2.2.2.2.2.2.2.2.2.2.2.2.2.2.2.2.2.2.2.2.1 (S.2 i).2.2.2.2.2.2.2.2.2.2.2.2.2.2.2.2.2.2.2.2.2.2.2.2.2.2.2.1 (S.2 i).2.2.2.2.2.2.2.2.2.2.2.2.2.2.2.2.2.2.2.2.2.2.2.2.2.2.2.2.1 (S.2 i).2.2.2.2.2.2.2.2.2.2.2.2.2.2.2.2.2.2.2.2.2.2.2.2.2.2.2.2.2.1 (S.2 i).2.2.2.2.2.2.2.2.2.2.2.2.2.2.2.2.2.2.2.2.2.2.2.2.2.2.2.2.2.2.1 (S.2 i).2.2.2.2.2.2.2.2.2.2.2.2.2.2.2.2.2.2.2.2.2.2.2.2.2.2.2.2.2.2.2.1 (S.2 i).2.2.2.2.2.2.2.2.2.2.2.2.2.2.2.2.2.2.2.2.2.2.2.2.2.2.2.2.2.2.2.2.1 (S.2 i).2.2.2.2.2.2.2.2.2.2.2.2.2.2.2.2.2.2.2.2.2.2.2.2.2.2.2.2.2.2.2.2.2.1 (S.2 i).2.2.2.2.2.2.2.2.2.2.2.2.2.2.2.2.2.2.2.2.2.2.2.2.2.2.2.2.2.2.2.2.2.2.1 (S.2 i).2.2.2.2.2.2.2.2.2.2.2.2.2.2.2.2.2.2.2.2.2.2.2.2.2.2.2.2.2.2.2.2.2.2.2.1 (S.2 i).2.2.2.2.2.2.2.2.2.2.2.2.2.2.2.2.2.2.2.2.2.2.2.2.2.2.2.2.2.2.2.2.2.2.2.2.1 (S.2 i).2.2.2.2.2.2.2.2.2.2.2.2.2.2.2.2.2.2.2.2.2.2.2.2.2.2.2.2.2.2.2.2.2.2.2.2.2.1 (S.2 i).2.2.2.2.2.2.2.2.2.2.2.2.2.2.2.2.2.2.2.2.2.2.2.2.2.2.2.2.2.2.2.2.2.2.2.2.2.2.1 (S.2 i).2.2.2.2.2.2.2.2.2.2.2.2.2.2.2.2.2.2.2.2.2.2.2.2.2.2.2.2.2.2.2.2.2.2.2.2.2.2.2.1 (S.2 i).2.2.2.2.2.2.2.2.2.2.2.2.2.2.2.2.2.2.2.2.2.2.2.2.2.2.2.2.2.2.2.2.2.2.2.2.2.2.2.2.1 (S.2 i).2.2.2.2.2.2.2.2.2.2.2.2.2.2.2.2.2.2.2.2.2.2.2.2.2.2.2.2.2.2.2.2.2.2.2.2.2.2.2.2.2 = none := by
          unfold f_ZF_stretch f_ZF_stretch_0
          rw [a1, Option.bind_some, if_neg n70, if_pos p24, a5, if_neg a6, x3, if_pos rfl]
        have hg : g_ZF_stretch nf (ii (i : Int)) (ii y) (S.2 i).2.2.2.2.2.2.2.2.2.2.2.2.2.2.2.2.2.2.1 = some 3 := by
          unfold g_ZF_stretch g_ZF_stretch_0
          rw [a1, a2, Option.bind_some, if_neg n70, if_pos p24, a5, if_neg a6, x3, if_pos rfl]
          rfl
        rw [hf, hg] at hC
        exact noI h 3 (by decide) hC.symm hQ.symm
    · have hq2 : Q = some (0, va_up si 3 2, sj, sa, sb) := by
        rw [← hQ]
        by_cases c7 : ii y < 1970
        · rw [if_pos c7]
        · rw [if_neg c7, if_neg (show ¬ ii y ≤ 2400 by rw [ii_lit, ii_lt (by omega) (by omega) (by omega) (by omega)] at c7; rw [ii_lit, ii_le (by omega) (by omega) (by omega) (by omega)]; omega)]
      have hf : f_ZF_stretch nf (ii (i : Int)) (ii y) (S.2 i).2.1 (S.2 i).2.2.1 (S.2 i).2.2.2.2.1 (S.2 i).2.2.2.2.2.1 (S.2 i).2.2.2.2.2.2.1 (S.2 i).2.2.2.2.2.2.2.1 (S.2 i).2.2.2.2.2.2.2.2.1 (S.2 i).2.2.2.2.2.2.2.2.2.1 (S.2 i).2.2.2.2.2.2.2.2.2.2.1 (S.2 i).2.2.2.2.2.2.2.2.2.2.2.1 (S.2 i).2.2.2.2.2.2.2.2.2.2.2.2.1 (S.2 i).2.2.2.2.2.2.2.2.2.2.2.2.2.1 (S.2 i).2.2.2.2.2.2.2.2.2.2.2.2.2.2.1 (S.2 i).2.2.2.2.2.2.2.2.2.2.2.2.2.2.2.1 (S.2 i).2.2.2.2.2.2.2.2.2.2.2.2.2.2.2.2.2.2.1 (S.2 i).2.2.2.2.2.2.2.2.2.2.2.2.2.2.2.2.2.2.2.2.1 (S.2 i).2.2.2.2.2.2.2.2.2.2.2.2.2.2.2.2.2.2.2.2.2.1 (S.2 i).2.2.2.2.2.2.2.2.2.2.2.2.2.2.2.2.2.2.2.2.2.2.1 (S.2 i).2.2.2.2.2.2.2.2.2.2.2.2.2.2.2.2.2.2.2.2.2.2.2.1 (S.2 i).2.2.2.2.2.2.2.2.2.2.2.2.2.2.2.2.2.2.2.2.2.2.2.2.1 (S.2 i).2.2.2.2.2.2.2.2.2.2.2.2.2.2.2.2.2.2.2.2.2.2.2.2.2.1 (S.2 i).2.2.2.2.2.2.2.2.2.2.2.2.2.2.2.2.2.2.2.2.2.2.2.2.2.2.2.1 (S.2 i).2.2.2.2.2.2.2.2.2.2.2.2.2.2.2.2.2.2.2.2.2.2.2.2.2.2.2.2.1 (S.2 i).2.2.2.2.2.2.2.2.2.2.2.2.2.2.2.2.2.2.2.2.2.2.2.2.2.2.2.2.2.1 (S.2 i).2.2.2.2.2.2.2.2.2.2.2.2.2.2.2.2.2.2.2.2.2.2.2.2.2.2.2.2.2.2.1 (S.2 i).2.2.2.2.2.2.2.2.2.2.2.2.2.2.2.2.2.2.2.2.2.2.2.2.2.2.2.2.2.2.2.1 (S.2 i).2.2.2.2.2.2.2.2.2.2.2.2.2.2.2.2.2.2.2.2.2.2.2.2.2.2.2.2.2.2.2.2.1 (S.2 i).2.2.2.2.2.2.2.2.2.2.2.2.2.2.2.2.2.2.2.2.2.2.2.2.2.2.2.2.2.2.2.2.2.1 (S.2 i).2.2.2.2.2.2.2.2.2.2.2.2.2.2.2.2.2.2.2.2.2.2.2.2.2.2.2.2.2.2.2.2.2.2.1 (S.2 i).2.2.2.2.2.2.2.2.2.2.2.2.2.2.2.2.2.2.2.2.2.2.2.2.2.2.2.2.2.2.2.2.2.2.2.1 (S.2 i).2.2.2.2.2.2.2.2.2.2.2.2.2.2.2.2.2.2.2.2.2.2.2.2.2.2.2.2.2.2.2.2.2.2.2.2.1 (S.2 i).2.2.2.2.2.2.2.2.2.2.2.2.2.2.2.2.2.2.2.2.2.2.2.2.2.2.2.2.2.2.2.2.2.2.2.2.2.1 (S.2 i).2.2.2.2.2.2.2.2.2.2.2.2.2.2.2.2.2.2.2.2.2.2.2.2.2.2.2.2.2.2.2.2.2.2.2.2.2.2.1 (S.2 i).2.2.2.2.2.2.2.2.2.2.2.2.2.2.2.2.2.2.2.2.2.2.2.2.2.2.2.2.2.2.2.2.2.2.2.2.2.2.2.1 (S.2 i).2.2.2.2.2.2.2.2.2.2.2.2.2.2.2.2.2.2.2.2.2.2.2.2.2.2.2.2.2.2.2.2.2.2.2.2.2.2.2.2.1 (S.2 i).2.2.2.2.2.2.2.2.2.2.2.2.2.2.2.2.2.2.2.2.2.2.2.2.2.2.2.2.2.2.2.2.2.2.2.2.2.2.2.2.2 = none := by
        unfold f_ZF_stretch f_ZF_stretch_0
        rw [a1, Option.bind_some]
        by_cases c7 : ii y < 1970
        · rw [if_pos c7]
          rfl
        · rw [if_neg c7, if_neg (show ¬ ii y ≤ 2400 by rw [ii_lit, ii_lt (by omega) (by omega) (by omega) (by omega)] at c7; rw [ii_lit, ii_le (by omega) (by omega) (by omega) (by omega)]; omega)]
          rfl
      have hg : g_ZF_stretch nf (ii (i : Int)) (ii y) (S.2 i).2.2.2.2.2.2.2.2.2.2.2.2.2.2.2.2.2.2.1 = some 2 := by
        unfold g_ZF_stretch g_ZF_stretch_0
        rw [a1, a2, Option.bind_some]
        by_cases c7 : ii y < 1970
        · rw [if_pos c7]
          rfl
        · rw [if_neg c7, if_neg (show ¬ ii y ≤ 2400 by rw [ii_lit, ii_lt (by omega) (by omega) (by omega) (by omega)] at c7; rw [ii_lit, ii_le (by omega) (by omega) (by omega) (by omega)]; omega)]
          rfl
      rw [hf, hg] at hC
      exact noI h 2 (by decide) hC.symm hq2
  · rw [(hz nf).2.2, Option.bind_some, if_neg (by decide)] at hQ
    unfold f_ZF_stretch f_ZF_stretch_0 g_ZF_stretch g_ZF_stretch_0 at hC
    rw [(hz nf).1, (hz nf).2.1] at hC
    exact noI h 1 (by decide) hC.symm hQ.symm
