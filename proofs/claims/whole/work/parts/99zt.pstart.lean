/-! ===== the reference's start: four zones UTC0 ===== -/
def utcT : Nat → Int32 := fun k => match k with
  | 0 => 85
  | 1 => 84
  | 2 => 67
  | _ => 48
theorem utc_rt : rtext (LL utcT 4) false 0 4 = .ok (0, 3, 0, none) := by rfl
def utcZ (z : ZS) : Prop := ∃ Tc : Nat → Int32, cZ z 50 utcT 4 0 3 0 none 1 4 0 Tc
section
variable {nf : Nat} {sj : Nat → Int64}
theorem mi_it (hnf : 10000 ≤ nf) {i : Nat} (hi : i < 4) {si : Nat → Int32} {sa : Nat → Nat → Int32} {sb : Nat → Nat → Int64} (hT : ∀ k, k < 4 → sa 0 k = utcT k) (f : Nat) : ∃ (si' : Nat → Int32) (sa' : Nat → Nat → Int32) (sb' : Nat → Nat → Int64), f_Mo_init_369 nf (f + 1) (ii (i : Int)) si sj sa sb = f_Mo_init_369 nf f (ii ((i + 1 : Nat) : Int)) si' sj sa' sb' ∧ (∀ k, k ≠ 1 → k < 32 ∨ 35 < k → si' k = si k) ∧ (∀ j, sa' 0 j = sa 0 j) ∧ (∀ j, sa' 56 j = sa 56 j) ∧ (∀ z, utcZ z → RZon z sa' sb' i) ∧ (∀ q, q < 4 → q ≠ i → ∀ a j, kAz q a j → sa' a j = sa a j) ∧ (∀ b j, ¬ kBz i b j → sb' b j = sb b j) := by
  have hby : ∀ k, k < 4 → ∃ b : Nat, b < 256 ∧ sa 0 k = ii (b : Int) := fun k hk => by
    rw [hT k hk]
    rcases (show k = 0 ∨ k = 1 ∨ k = 2 ∨ k = 3 by omega) with rfl | rfl | rfl | rfl
    · exact ⟨85, by omega, rfl⟩
    · exact ⟨84, by omega, rfl⟩
    · exact ⟨67, by omega, rfl⟩
    · exact ⟨48, by omega, rfl⟩
  have mr := mrule (nf := nf) (si := va_up si 1 4) (sj := sj) (sb := sb) (sa := sa) (E := 4) (by omega) hby (st := 0) (by omega) (by omega) (wide := false) (ver := 50) (by decide)
  have hLL : LL (sa 0) 4 = LL utcT 4 := LL_congr hT
  rw [hLL, utc_rt] at mr
  obtain ⟨fl, s1, a1, m1, m2, m3, m4, m5⟩ := mr
  subst m4
  have m1' : f_Mo_ruleText nf 50 0 4 (va_up si 1 4) sj sa sb = some (1, s1, sj, a1, sb) := m1
  obtain ⟨q1, q2, q3, q4⟩ := id m5
  obtain ⟨a2, t1, t2⟩ := mtake (nf := nf) (si := s1) (sj := sj) (sb := sb) hnf (h := 1) (s0 := 3) (s1 := 0) (E := 4) (ver := 50) (Or.inl rfl) q4 (by omega) q1 (fun z => absurd z (by decide)) (by omega)
  have t1' : f_Mo_takeRule nf 50 0 4 s1 sj a1 sb = some (s1, sj, a2, sb) := t1
  have p1 := mput (nf := nf) (si := s1) (sj := sj) (x := i) (o := 4) (by omega) (by omega) (by omega) (by omega) a2 sb
  rw [show ii ((4 : Nat) : Int) = (4 : Int32) from rfl] at p1
  have fr := t2.2.2.2.2.2.2.2.2.2.2.2.1
  refine ⟨s1, putA i 4 a2, putB i 4 sb, ?_, fun k k1 hk => ?_, fun j => ?_, fun j => ?_, fun z hz => ?_, fun q hq hqi a j hk => ?_, fun b j hb => putB_out hb⟩
  · rw [f_Mo_init_369, if_neg (show ¬ (4 : Int32) ≤ ii (i : Int) by rw [ii_lit, ii_le (by omega) (by omega) (by omega) (by omega)]; omega), m1', Option.bind_some]
    dsimp only
    rw [t1', Option.bind_some]
    dsimp only
    rw [p1, Option.bind_some]
    dsimp only
    rw [iiS]
  · rw [m2 k (by omega) (by omega) (by omega) (by omega), vup_ne k1]
  · rw [putA_out (by unfold kAz; omega), fr _ _ (by unfold kAz; omega), m3 _ _ (by unfold kH; omega)]
  · rw [putA_out (by unfold kAz; omega), fr _ _ (by unfold kAz; omega), m3 _ _ (by unfold kH; omega)]
  · obtain ⟨Tc, y1, y2, y3, y4, y5, y6, y7, y8, y9, y10, y11, y12, y13, y14, y15, y16, y17, y18⟩ := hz
    have hz4 : RZon z a2 sb 4 := rzon_rule (sb := sb) y1 (Or.inl rfl) y2 y3 y4 y5 y6 utc_rt (fun k hk => (m3 0 k (by unfold kH; omega)).trans (hT k hk)) (by omega) m5 t2 y7 y8 y9 y10 y11 y12 y13 y14 y15 y16 y17 y18
    exact hz4.mv (putA_mv i 4 a2) (putB_mv i 4 sb)
  · rw [putA_out (kAz_dis hk hqi), fr _ _ (kAz_dis hk (by omega)), m3 _ _ (fun z => kAz_dis hk (by omega) (kH_kAz z))]
end
