/-! ===== stretch: one time more, in both ===== -/
def X4 (a j : Nat) : Prop := ((a = 5 ∨ a = 6 ∨ a = 7 ∨ a = 9 ∨ a = 10) ∧ j = 4) ∨ ((a = 13 ∨ a = 17) ∧ 800 ≤ j ∧ j < 1000) ∨ ((14 ≤ a ∧ a ≤ 16 ∨ a = 20 ∨ a = 21) ∧ 160 ≤ j ∧ j < 200)
def G4 (si si' : Nat → Int32) (sj sj' : Nat → Int64) (sa sa' : Nat → Nat → Int32) (sb sb' : Nat → Nat → Int64) : Prop := (∀ k, ¬ (41 ≤ k ∧ k ≤ 52) → si' k = si k) ∧ (∀ k, k ≠ 40 → sj' k = sj k) ∧ (∀ a j, ¬ X4 a j → a ≠ 48 → a ≠ 53 → sa' a j = sa a j) ∧ ∀ b j, ¬ (b = 12 ∧ 800 ≤ j ∧ j < 1000) → sb' b j = sb b j
theorem G4.tr {si si' si'' : Nat → Int32} {sj sj' sj'' : Nat → Int64} {sa sa' sa'' : Nat → Nat → Int32} {sb sb' sb'' : Nat → Nat → Int64} (h : G4 si si' sj sj' sa sa' sb sb') (g : G4 si' si'' sj' sj'' sa' sa'' sb' sb'') : G4 si si'' sj sj'' sa sa'' sb sb'' :=
  ⟨fun k hk => (g.1 k hk).trans (h.1 k hk), fun k hk => (g.2.1 k hk).trans (h.2.1 k hk), fun a j h1 h2 h3 => (g.2.2.1 a j h1 h2 h3).trans (h.2.2.1 a j h1 h2 h3), fun b j h1 => (g.2.2.2 b j h1).trans (h.2.2.2 b j h1)⟩
theorem QF.g4 {si si' : Nat → Int32} {sj sj' : Nat → Int64} {sa sa' : Nat → Nat → Int32} {sb : Nat → Nat → Int64} (h : QF si si' sj sj' sa sa') : G4 si si' sj sj' sa sa' sb sb := ⟨h.1, h.2.1, fun a j _ h2 h3 => by rw [h.2.2 a h2 h3], fun _ _ _ => rfl⟩
/-- a name of the rule's, in both -/
def WN (z : ZS) (sa : Nat → Nat → Int32) (r w s p : Nat) (o : Int) : Prop := (3 ≤ s ∧ s ≤ 10 ∧ p + s ≤ r ∧ -100000 ≤ o ∧ o ≤ 100000) ∧ (if w = 1 then z.2.2.2.2.2.2.2.2.2.2.2.2.2.2.2.2.2.2.2.2.2.2.2.2.2.1 else z.2.2.2.2.2.2.2.2.2.2.2.2.2.2.2.2.2.2.2.2.2.2.2.1) = ii (s : Int) ∧ (if w = 1 then z.2.2.2.2.2.2.2.2.2.2.2.2.2.2.2.2.2.2.2.2.2.2.2.2.1 else z.2.2.2.2.2.2.2.2.2.2.2.2.2.2.2.2.2.2.2.2.2.2.1) = ii (p : Int) ∧ (if w = 1 then z.2.2.2.2.2.2.2.2.2.2.2.2.2.2.2.2.2.2.2.2.2.1 else z.2.2.2.2.2.2.2.2.2.2.2.2.2.2.2.2.2.2.2.2.1) = ii o ∧ sa 25 (8 + w) = ii (s : Int) ∧ sa 24 (8 + w) = ii o ∧ ∀ k, k < s → sa 26 (80 + 10 * w + k) = sa 22 (512 + (p + k)) ∧ ∃ v : Int, sa 22 (512 + (p + k)) = ii v ∧ nmb v
section
variable {nf : Nat} {z : ZS} {si : Nat → Int32} {sj : Nat → Int64} {sa sa' : Nat → Nat → Int32} {sb sb' : Nat → Nat → Int64} {i n t c l d u r : Nat} {tm : Nat → Int} {tt : Nat → Nat} {of ds : Nat → Int} {ix sz : Nat → Nat} {w s p : Nat} {o : Int}
theorem ZRul.wn (h : ZRul z sa 4 r) (hh : z.2.2.2.2.2.2.2.2.2.2.2.2.2.2.2.2.2.2.1 = 1) : 0 < r ∧ ∀ w, w < 2 → ∃ (s p : Nat) (o : Int), WN z sa r w s p o := by
  rcases h with ⟨_, _, g3, _⟩ | ⟨g1, wd, sp, ss, so, x, g2, g3, g4, g5, g6, g7, g8⟩
  · rw [hh] at g3
    exact absurd g3 (by decide)
  · match x, g8 with
    | none, ⟨a1, _⟩ =>
      rw [hh] at a1
      exact absurd a1 (by decide)
    | some (up, us, uo, d1, t1, d2, t2, wf), ⟨a1, a2, a3, a4, a5, a6, a7, a8, _⟩ =>
      refine ⟨g1, fun w hw => ?_⟩
      rcases (show w = 0 ∨ w = 1 by omega) with rfl | rfl
      · obtain ⟨n1, n2, n3, n4, n5, n6, n7⟩ := g3
        exact ⟨ss, sp, so, ⟨n3, n4, n5, g6, g7⟩, n1, n2, g4, n6, g5, n7⟩
      · obtain ⟨n1, n2, n3, n4, n5, n6, n7⟩ := a4
        exact ⟨us, up, uo, ⟨n3, n4, n5, a7, a8⟩, n1, n2, a5, n6, a6, n7⟩
theorem gW01 (hw : w < 2) : (w = 0 ∧ ii (gW w) = -1) ∨ (w = 1 ∧ ii (gW w) = -2) := by
  rcases (show w = 0 ∨ w = 1 by omega) with rfl | rfl
  · exact Or.inl ⟨rfl, rfl⟩
  · exact Or.inr ⟨rfl, rfl⟩
theorem WN.nsz (h : WN z sa r w s p o) (hw : w < 2) (ht : z.2.2.1 = ii (t : Int)) (ht2 : t ≤ 40) {cs : Int32} {X A : Nat → Int32} {N : Nat} : f_Zone_nameSize nf (ii (gW w)) z.2.2.1 X cs N A z.2.2.2.2.2.2.2.2.2.2.2.2.2.2.2.2.2.2.2.2.2.2.2.1 z.2.2.2.2.2.2.2.2.2.2.2.2.2.2.2.2.2.2.2.2.2.2.2.2.2.1 = some (ii (s : Int)) := by
  have h1 := h.2.1
  rcases gW01 hw with ⟨rfl, e⟩ | ⟨rfl, e⟩
  · rw [if_neg (by decide)] at h1
    rw [e, cnsS ht ht2, h1]
  · rw [if_pos rfl] at h1
    rw [e, cnsU ht ht2, h1]
theorem WN.nby (h : WN z sa r w s p o) (hw : w < 2) (hx : RB z.2.2.2.2.2.2.2.2.2.2.2.2.2.2.2.2.2.2.2.2.2.2.2.2.2.2.2.1 z.2.2.2.2.2.2.2.2.2.2.2.2.2.2.2.2.2.2.2.2.2.2.2.2.2.2.2.2.1 z.2.2.2.2.2.2.2.2.2.2.2.2.2.2.2.2.2.2.2.2.2.2.2.2.2.2.2.2.2.1 r (fun k => sa 22 (128 * 4 + k))) (hr : r ≤ 128) {cs tyc : Int32} {X A : Nat → Int32} {N : Nat} : ∀ k, k < s → f_Zone_nameByte nf (ii (gW w)) (ii (k : Int)) tyc X cs N A z.2.2.2.2.2.2.2.2.2.2.2.2.2.2.2.2.2.2.2.2.2.2.1 z.2.2.2.2.2.2.2.2.2.2.2.2.2.2.2.2.2.2.2.2.2.2.2.2.1 z.2.2.2.2.2.2.2.2.2.2.2.2.2.2.2.2.2.2.2.2.2.2.2.2.2.2.2.1 z.2.2.2.2.2.2.2.2.2.2.2.2.2.2.2.2.2.2.2.2.2.2.2.2.2.2.2.2.1 z.2.2.2.2.2.2.2.2.2.2.2.2.2.2.2.2.2.2.2.2.2.2.2.2.2.2.2.2.2.1 = some (sa 22 (512 + (p + k))) := by
  have h1 := h.2.2.1
  intro k hk
  rcases gW01 hw with ⟨rfl, e⟩ | ⟨rfl, e⟩
  · rw [if_neg (by decide)] at h1
    rw [e]
    exact cnbS hx (by omega) h.1.2.2.1 h1 k hk cs N A
  · rw [if_pos rfl] at h1
    rw [e]
    exact cnbU hx (by omega) h.1.2.2.1 h1 k hk cs N A
theorem WN.put (hnf : 10000 ≤ nf) (h : WN z sa r w s p o) (hw : w < 2) (hx : RB z.2.2.2.2.2.2.2.2.2.2.2.2.2.2.2.2.2.2.2.2.2.2.2.2.2.2.2.1 z.2.2.2.2.2.2.2.2.2.2.2.2.2.2.2.2.2.2.2.2.2.2.2.2.2.2.2.2.1 z.2.2.2.2.2.2.2.2.2.2.2.2.2.2.2.2.2.2.2.2.2.2.2.2.2.2.2.2.2.1 r (fun k => sa 22 (128 * 4 + k))) (hr : r ≤ 128) (ht : z.2.2.1 = ii (t : Int)) (ht2 : t ≤ 40) {cs : Int32} {X A T : Nat → Int32} {N : Nat} (hb : RB cs N A c T) (hc : c ≤ 200) :
    ∃ N' A' kc ks, f_Zone_putName nf (ii (gW w)) z.2.2.1 X cs N A z.2.2.2.2.2.2.2.2.2.2.2.2.2.2.2.2.2.2.2.2.2.2.1 z.2.2.2.2.2.2.2.2.2.2.2.2.2.2.2.2.2.2.2.2.2.2.2.1 z.2.2.2.2.2.2.2.2.2.2.2.2.2.2.2.2.2.2.2.2.2.2.2.2.1 z.2.2.2.2.2.2.2.2.2.2.2.2.2.2.2.2.2.2.2.2.2.2.2.2.2.1 z.2.2.2.2.2.2.2.2.2.2.2.2.2.2.2.2.2.2.2.2.2.2.2.2.2.2.2.1 z.2.2.2.2.2.2.2.2.2.2.2.2.2.2.2.2.2.2.2.2.2.2.2.2.2.2.2.2.1 z.2.2.2.2.2.2.2.2.2.2.2.2.2.2.2.2.2.2.2.2.2.2.2.2.2.2.2.2.2.1 = some ((ii (c : Int), ii ((c + s + 1 : Nat) : Int), N', A'), kc, ks) ∧ RB (ii ((c + s + 1 : Nat) : Int)) N' A' (c + s + 1) (fun q => if q < c then T q else if q < c + s then sa 22 (512 + (p + (q - c))) else 0) ∧ kc + N ≤ N' ∧ ks + 2 * N ≤ 2 * N' := by
  obtain ⟨⟨w1, w2, w3, w4, w5⟩, h1, h2, _⟩ := h
  rcases gW01 hw with ⟨rfl, e⟩ | ⟨rfl, e⟩
  · rw [if_neg (by decide)] at h1 h2
    rw [e]
    exact cputS hnf hx (by omega) w3 (by omega) h2 h1 ht ht2 hb (by omega)
  · rw [if_pos rfl] at h1 h2
    rw [e]
    exact cputU hnf hx (by omega) w3 (by omega) h2 h1 ht ht2 hb (by omega)
/-! the reference -/
theorem e800 (n : Nat) : 200 * (4 : Int32) + ii (n : Int) = ii ((800 + n : Nat) : Int) := by
  rw [show (200 * (4 : Int32)) = ii 800 from rfl, ii_add]
  congr 1
theorem e160 (n : Nat) : 40 * (4 : Int32) + ii (n : Int) = ii ((160 + n : Nat) : Int) := by
  rw [show (40 * (4 : Int32)) = ii 160 from rfl, ii_add]
  congr 1
theorem mt255 {q : Int32} {x1 : Int64} (hn : n < 200) (h5 : sa 5 4 = ii (n : Int)) : ∃ (sa' : Nat → Nat → Int32) (sb' : Nat → Nat → Int64), f_Mo_addTime_255 nf q 4 x1 si sj sa sb = some (1, si, sj, sa', sb') ∧ sa' 5 4 = ii ((n + 1 : Nat) : Int) ∧ sa' 13 (800 + n) = q ∧ sb' 12 (800 + n) = x1 ∧ (∀ a j, ¬ (a = 5 ∧ j = 4) → ¬ (a = 13 ∧ j = 800 + n) → sa' a j = sa a j) ∧ ∀ b j, ¬ (b = 12 ∧ j = 800 + n) → sb' b j = sb b j := by
  have n4 : ¬ ((4 : Int32) < 0 ∨ 5 ≤ 4) := by decide
  have z4 : (4 : Int32).toNatClampNeg = 4 := rfl
  obtain ⟨i1, i2⟩ := nidx (k := 800 + n) (m := 1000) (by omega) (by omega)
  unfold f_Mo_addTime_255
  rw [z4, if_neg n4, h5, e800, i1, if_neg i2, if_neg n4, if_neg i2, if_neg n4, if_neg n4, iiS]
  refine ⟨_, _, rfl, vu_eq, ?_, ?_, fun a j h1 h2 => ?_, fun b j h1 => ?_⟩
  · rw [vup_ne (by decide), vu_eq]
  · rw [vup_eq, vpl_eq]
  · by_cases e5 : a = 5
    · subst e5
      rw [vup_eq, upd_ne (by omega)]
    · rw [vup_ne e5, vu_ne h2]
  · by_cases eb : b = 12
    · subst eb
      rw [vup_eq, vpl_ne (by omega)]
    · rw [vup_ne eb]
theorem mt228 {x5 : Int32} {x1 : Int64} {s0 : Int32} (hd : sa 9 4 = ii (d : Int)) (hu : sa 10 4 = ii (u : Int)) (hu2 : u ≤ 40) : ∃ sa' : Nat → Nat → Int32, f_Mo_addTime_228 nf x5 4 x1 s0 (ii (d : Int)) 4 si sj sa sb = f_Mo_addTime_255 nf x5 4 x1 si sj sa' sb ∧ sa' 9 4 = ii (d : Int) + s0 ∧ sa' 10 4 = ii ((if 0 < u then u + 1 else 0 : Nat) : Int) ∧ ∀ a j, ¬ (a = 9 ∧ j = 4) → ¬ (a = 10 ∧ j = 4) → sa' a j = sa a j := by
  have n4 : ¬ ((4 : Int32) < 0 ∨ 5 ≤ 4) := by decide
  have z4 : (4 : Int32).toNatClampNeg = 4 := rfl
  have fr : ∀ (s1 : Int32) (a j : Nat), ¬ (a = 9 ∧ j = 4) → ¬ (a = 10 ∧ j = 4) → va_up (va_up sa 9 (upd (sa 9) 4 (ii (d : Int) + s0))) 10 (upd (va_up sa 9 (upd (sa 9) 4 (ii (d : Int) + s0)) 10) 4 (ii (u : Int) + s1)) a j = sa a j := by
    intro s1 a j h1 h2
    by_cases ea : a = 10
    · subst ea
      rw [vup_eq, upd_ne (by omega), vup_ne (by decide)]
    · rw [vup_ne ea, vu_ne h1]
  unfold f_Mo_addTime_228 f_Mo_addTime_253
  rw [z4, if_neg n4, if_neg n4, if_neg n4, hu, if_neg n4, if_neg n4]
  by_cases c0 : 0 < u
  · rw [if_neg (show ¬ ii (u : Int) ≤ 0 by rw [ii_lit, ii_le (by omega) (by omega) (by omega) (by omega)]; omega), if_pos c0]
    refine ⟨_, rfl, ?_, ?_, fr 1⟩
    · rw [vup_ne (by decide), vu_eq]
    · rw [vup_eq, upd_eq, iiS]
  · rw [if_pos (show ii (u : Int) ≤ 0 by rw [ii_lit, ii_le (by omega) (by omega) (by omega) (by omega)]; omega), if_neg c0]
    refine ⟨_, rfl, ?_, ?_, fr 0⟩
    · rw [vup_ne (by decide), vu_eq]
    · rw [vup_eq, upd_eq, show u = 0 by omega]
      rfl
theorem mt124 {x6 : Int32} {x1 : Int64} (hw : w < 2) (ht : t < 40) (hd : sa 9 4 = ii (d : Int)) (hd2 : d ≤ 40) (hu : sa 10 4 = ii (u : Int)) (hu2 : u ≤ 40) : ∃ sa' : Nat → Nat → Int32, f_Mo_addTime_124 nf (ii (t : Int)) x6 4 x1 (ii (w : Int)) si sj sa sb = f_Mo_addTime_255 nf (ii (t : Int)) 4 x1 si sj sa' sb ∧ sa' 9 4 = ii ((if 0 < d then d + 1 else 0 : Nat) : Int) ∧ sa' 10 4 = ii ((if 0 < u then u + 1 else 0 : Nat) : Int) ∧ sa' 14 (160 + t) = sa 24 (8 + w) ∧ sa' 15 (160 + t) = ii (w : Int) ∧ sa' 16 (160 + t) = x6 ∧ sa' 20 (160 + t) = 0 ∧ sa' 21 (160 + t) = 0 ∧ ∀ a j, ¬ (a = 9 ∧ j = 4) → ¬ (a = 10 ∧ j = 4) → ¬ ((14 ≤ a ∧ a ≤ 16 ∨ a = 20 ∨ a = 21) ∧ j = 160 + t) → sa' a j = sa a j := by
  have n4 : ¬ ((4 : Int32) < 0 ∨ 5 ≤ 4) := by decide
  have z4 : (4 : Int32).toNatClampNeg = 4 := rfl
  obtain ⟨i1, i2⟩ := nidx (k := 8 + w) (m := 10) (by omega) (by omega)
  obtain ⟨i3, i4⟩ := nidx (k := 160 + t) (m := 200) (by omega) (by omega)
  obtain ⟨sa1, hsa1⟩ : ∃ sa1, sa1 = va_up (va_up (va_up (va_up (va_up sa 14 (upd (sa 14) (160 + t) (sa 24 (8 + w)))) 15 (upd (sa 15) (160 + t) (ii (w : Int)))) 16 (upd (sa 16) (160 + t) x6)) 20 (upd (sa 20) (160 + t) 0)) 21 (upd (sa 21) (160 + t) 0) := ⟨_, rfl⟩
  have f14 : sa1 14 (160 + t) = sa 24 (8 + w) := by
    rw [hsa1, vup_ne (by decide), vup_ne (by decide), vup_ne (by decide), vup_ne (by decide), vup_eq, upd_eq]
  have f15 : sa1 15 (160 + t) = ii (w : Int) := by
    rw [hsa1, vup_ne (by decide), vup_ne (by decide), vup_ne (by decide), vup_eq, upd_eq]
  have f16 : sa1 16 (160 + t) = x6 := by
    rw [hsa1, vup_ne (by decide), vup_ne (by decide), vup_eq, upd_eq]
  have f20 : sa1 20 (160 + t) = 0 := by
    rw [hsa1, vup_ne (by decide), vup_eq, upd_eq]
  have f21 : sa1 21 (160 + t) = 0 := by
    rw [hsa1, vup_eq, upd_eq]
  have fr : ∀ a j, ¬ ((14 ≤ a ∧ a ≤ 16 ∨ a = 20 ∨ a = 21) ∧ j = 160 + t) → sa1 a j = sa a j := by
    intro a j h1
    rw [hsa1]
    by_cases e21 : a = 21
    · subst e21
      rw [vup_eq, upd_ne (by omega)]
    · rw [vup_ne e21]
      by_cases e20 : a = 20
      · subst e20
        rw [vup_eq, upd_ne (by omega)]
      · rw [vup_ne e20]
        by_cases e16 : a = 16
        · subst e16
          rw [vup_eq, upd_ne (by omega)]
        · rw [vup_ne e16]
          by_cases e15 : a = 15
          · subst e15
            rw [vup_eq, upd_ne (by omega)]
          · rw [vup_ne e15, vu_ne (by omega)]
  have h9 : sa1 9 4 = ii (d : Int) := (fr 9 4 (by omega)).trans hd
  have h10 : sa1 10 4 = ii (u : Int) := (fr 10 4 (by omega)).trans hu
  have fin : ∀ (s0 : Int32) (X : Option (Int32 × MS)), X = f_Mo_addTime_228 nf (ii (t : Int)) 4 x1 s0 (ii (d : Int)) 4 si sj sa1 sb → ii (d : Int) + s0 = ii ((if 0 < d then d + 1 else 0 : Nat) : Int) → ∃ sa' : Nat → Nat → Int32, X = f_Mo_addTime_255 nf (ii (t : Int)) 4 x1 si sj sa' sb ∧ sa' 9 4 = ii ((if 0 < d then d + 1 else 0 : Nat) : Int) ∧ sa' 10 4 = ii ((if 0 < u then u + 1 else 0 : Nat) : Int) ∧ sa' 14 (160 + t) = sa 24 (8 + w) ∧ sa' 15 (160 + t) = ii (w : Int) ∧ sa' 16 (160 + t) = x6 ∧ sa' 20 (160 + t) = 0 ∧ sa' 21 (160 + t) = 0 ∧ ∀ a j, ¬ (a = 9 ∧ j = 4) → ¬ (a = 10 ∧ j = 4) → ¬ ((14 ≤ a ∧ a ≤ 16 ∨ a = 20 ∨ a = 21) ∧ j = 160 + t) → sa' a j = sa a j := by
    intro s0 X hX hs0
    obtain ⟨sa', g1, g2, g3, g4⟩ := mt228 (nf := nf) (x5 := ii (t : Int)) (x1 := x1) (s0 := s0) (si := si) (sj := sj) (sb := sb) h9 h10 hu2
    exact ⟨sa', hX.trans g1, g2.trans hs0, g3, (g4 14 _ (by omega) (by omega)).trans f14, (g4 15 _ (by omega) (by omega)).trans f15, (g4 16 _ (by omega) (by omega)).trans f16, (g4 20 _ (by omega) (by omega)).trans f20, (g4 21 _ (by omega) (by omega)).trans f21, fun a j h1 h2 h3 => (g4 a j h1 h2).trans (fr a j h3)⟩
  unfold f_Mo_addTime_124
  rw [e8w, i1, if_neg i2, e160, i3, if_neg i4, if_neg i4, if_neg i4, if_neg i4, if_neg i4, z4, if_neg n4, if_neg n4, hd, ← hsa1]
  by_cases c0 : 0 < d
  · rw [if_neg (show ¬ ii (d : Int) ≤ 0 by rw [ii_lit, ii_le (by omega) (by omega) (by omega) (by omega)]; omega)]
    exact fin 1 _ rfl (by rw [if_pos c0, iiS])
  · rw [if_pos (show ii (d : Int) ≤ 0 by rw [ii_lit, ii_le (by omega) (by omega) (by omega) (by omega)]; omega)]
    exact fin 0 _ rfl (by rw [if_neg c0, show d = 0 by omega]; rfl)
theorem KP.step {z0 zz : ZS} {T0 T T' : Nat → Int32} {n0 t0 c0 d0 u0 c' : Nat} (k : KP z0 z T0 n0 t0 c0 d0 u0) (ht0 : 1 ≤ t0) (hb : RB z.2.2.2.2.2.2.2.2.2.2.2.2.2.1 z.2.2.2.2.2.2.2.2.2.2.2.2.2.2.1 z.2.2.2.2.2.2.2.2.2.2.2.2.2.2.2.1 c T) (hc : c ≤ 200) (hc0 : c0 ≤ c) (kn : ∀ k, k < n0 → zz.2.2.2.2.2.2.1 k = z.2.2.2.2.2.2.1 k ∧ zz.2.2.2.2.2.2.2.1 k = z.2.2.2.2.2.2.2.1 k) (kt : ∀ k, k < t0 → zz.2.2.2.2.2.2.2.2.1 k = z.2.2.2.2.2.2.2.2.1 k ∧ zz.2.2.2.2.2.2.2.2.2.1 k = z.2.2.2.2.2.2.2.2.2.1 k ∧ zz.2.2.2.2.2.2.2.2.2.2.1 k = z.2.2.2.2.2.2.2.2.2.2.1 k ∧ zz.2.2.2.2.2.2.2.2.2.2.2.1 k = z.2.2.2.2.2.2.2.2.2.2.2.1 k ∧ zz.2.2.2.2.2.2.2.2.2.2.2.2.1 k = z.2.2.2.2.2.2.2.2.2.2.2.2.1 k) (hb' : RB zz.2.2.2.2.2.2.2.2.2.2.2.2.2.1 zz.2.2.2.2.2.2.2.2.2.2.2.2.2.2.1 zz.2.2.2.2.2.2.2.2.2.2.2.2.2.2.2.1 c' T') (hcc : c ≤ c') (hT : ∀ k, k < c → T' k = T k) (hs : z.2.2.2.2.1 = ii (d : Int)) (hd : d ≤ 40) (hs' : zz.2.2.2.2.1 = z.2.2.2.2.1 ∨ zz.2.2.2.2.1 = ii ((if 0 < d then t + 1 else 0 : Nat) : Int)) (hu0 : z.2.2.2.2.2.1 = ii (u : Int)) (hu : u ≤ 40) (hu' : zz.2.2.2.2.2.1 = z.2.2.2.2.2.1 ∨ zz.2.2.2.2.2.1 = ii ((if 0 < u then t + 1 else 0 : Nat) : Int)) (ht : t < 40) (htt : t0 ≤ t) : KP z0 zz T0 n0 t0 c0 d0 u0 := by
  obtain ⟨k1, k2, ⟨c1, T1, q1, q2, q3⟩, ⟨d1, x1, x2, x3, x4⟩, ⟨u1, y1, y2, y3, y4⟩⟩ := k
  have cq : c1 = c := by
    have e := q1.1.symm.trans hb.1
    have b1 := q1.2.1
    have b2 := q1.2.2.2.1
    rw [ii_eq (by omega) (by omega) (by omega) (by omega)] at e
    omega
  subst cq
  have dq : d1 = d := by
    have e := x1.symm.trans hs
    rw [ii_eq (by omega) (by omega) (by omega) (by omega)] at e
    omega
  have uq : u1 = u := by
    have e := y1.symm.trans hu0
    rw [ii_eq (by omega) (by omega) (by omega) (by omega)] at e
    omega
  subst dq
  subst uq
  refine ⟨fun k hk => ⟨(kn k hk).1.trans (k1 k hk).1, (kn k hk).2.trans (k1 k hk).2⟩, fun k hk => ?_, ⟨c', T', hb', by omega, fun k hk => ?_⟩, ?_, ?_⟩
  · obtain ⟨e1, e2, e3, e4, e5⟩ := kt k hk
    obtain ⟨g1, g2, g3, g4, g5⟩ := k2 k hk
    exact ⟨e1.trans g1, e2.trans g2, e3.trans g3, e4.trans g4, e5.trans g5⟩
  · rw [hT k (by omega), ← q3 k hk, ← q1.2.2.2.2.2 k (by omega), ← hb.2.2.2.2.2 k (by omega)]
  · rcases hs' with e | e
    · exact ⟨d1, e.trans x1, x2, x3, x4⟩
    · refine ⟨if 0 < d1 then t + 1 else 0, e, ?_, ?_, ?_⟩
      · split <;> omega
      · intro q
        rw [if_neg (by have := x3 q; omega)]
      · intro q
        have := x4 q
        rw [if_pos (by omega)]
        omega
  · rcases hu' with e | e
    · exact ⟨u1, e.trans y1, y2, y3, y4⟩
    · refine ⟨if 0 < u1 then t + 1 else 0, e, ?_, ?_, ?_⟩
      · split <;> omega
      · intro q
        rw [if_neg (by have := y3 q; omega)]
      · intro q
        have := y4 q
        rw [if_pos (by omega)]
        omega
end
