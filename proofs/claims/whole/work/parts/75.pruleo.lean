/-! ===== the reference reads a rule text: days and the whole ===== -/
def rtm (L : Nat → Int) (wide : Bool) (p : Nat) : Except Nat (Int × Bool × Nat) := if L p = 47 then ramt L wide (if wide then 167 else 24) (p + 1) else .ok (7200, false, p)
def rdt (L : Nat → Int) (wide : Bool) (p : Nat) : Except Nat ((Int × Int × Int × Int) × Int × Bool × Nat) := match rday L p with
  | .error x => .error x
  | .ok (d, p2) => match rtm L wide p2 with
    | .error x => .error x
    | .ok (t, w, p3) => .ok (d, t, w, p3)
theorem redge_eq (L : Nat → Int) (wide : Bool) (p : Nat) : redge L wide p = if L p = 44 then rdt L wide (p + 1) else .error p := by
  unfold redge rdt rtm
  by_cases c : L p = 44
  · rw [if_pos c, if_pos c]
    cases rday L (p + 1) with
    | error x => rfl
    | ok q =>
      obtain ⟨d, p2⟩ := q
      dsimp only
      by_cases c2 : L p2 = 47
      · rw [if_pos c2, if_pos c2]
        cases ramt L wide (if wide then 167 else 24) (p2 + 1) with
        | error x => rfl
        | ok q => rfl
      · rw [if_neg c2, if_neg c2]
  · rw [if_neg c, if_neg c]
section
variable {nf : Nat} {si si' : Nat → Int32} {sj : Nat → Int64} {sa sa' : Nat → Nat → Int32} {sb : Nat → Nat → Int64} {E : Nat}
theorem d10 {d : Nat} (h : d < 10) : (ii (d : Int)).toNatClampNeg = d ∧ ¬ (ii (d : Int) < 0 ∨ 10 ≤ d) := by
  constructor
  · rw [ii_nat (by omega) (by omega)]; omega
  · rw [ii_lit, ii_lt (by omega) (by omega) (by omega) (by omega)]; omega
theorem m155B {d : Nat} (hd : d < 10) (hb : si 34 = 1) {ver : Int32} : f_Mo_dayText_155 nf (ii (d : Int)) ver si sj sa sb = some (si, sj, va_up sa 31 (upd (sa 31) d 7200), sb) := by
  obtain ⟨e, n⟩ := d10 hd
  unfold f_Mo_dayText_155 f_Mo_dayText_225
  rw [e, if_neg n, if_neg (by rw [hb]; decide)]
theorem m155 (h : MP si sa E) (hnf : 6 ≤ nf) {p d : Nat} (hd : d < 10) (hp : si 32 = ii (p : Int)) (h1 : p ≤ 60000) (hb : si 34 = 0) {wide : Bool} {ver : Int32} (hv : if wide then ver = 51 else ¬ ver = 51) :
    ∃ (si' : Nat → Int32) (sa' : Nat → Nat → Int32), f_Mo_dayText_155 nf (ii (d : Int)) ver si sj sa sb = some (si', sj, sa', sb) ∧ sI3 si si' ∧ (∀ a j, ¬ (a = 31 ∧ j = d) → sa' a j = sa a j) ∧ mEnd (rtm (LL (sa 0) E) wide p) si' (fun r => si' 32 = ii (r.2.2 : Int) ∧ sa' 31 d = ii r.1) := by
  obtain ⟨e, n⟩ := d10 hd
  have hr := h.range p
  have hM : MP si (va_up sa 31 (upd (sa 31) d 7200)) E := h.sA (fun k => vu_ne (by omega))
  have hLk : f_Mo_look nf si sj (va_up sa 31 (upd (sa 31) d 7200)) sb = some (ii (LL (sa 0) E p)) := mlook hM hp (by omega)
  generalize hF : f_Mo_dayText_155 nf (ii (d : Int)) ver si sj sa sb = F
  unfold f_Mo_dayText_155 f_Mo_dayText_225 at hF
  rw [e, if_neg n, if_pos hb, hLk, Option.bind_some, hp] at hF
  unfold rtm
  by_cases c : LL (sa 0) E p = 47
  · rw [if_pos c]
    rw [if_pos (by rw [c]; rfl), show ii (p : Int) + 1 = ii ((p + 1 : Nat) : Int) by rw [ii_lit, ii_add]; rfl] at hF
    obtain ⟨v, s1, e1, g1, m1⟩ := moff (nf := nf) (sj := sj) (sb := sb) (hM.sI (sI3.at (x := ii ((p + 1 : Nat) : Int)))) hnf (p := p + 1) rfl (by omega) hb wide (most := if wide then 167 else 24) (by split <;> omega) (by split <;> omega)
    have hF2 : (f_Mo_offsetText nf (bI wide) (ii (if wide then 167 else 24)) (va_up si 32 (ii ((p + 1 : Nat) : Int))) sj (va_up sa 31 (upd (sa 31) d 7200)) sb).bind (fun (z_23, i_19, j_20, a_21, b_22) => if ii (d : Int) < 0 ∨ 10 ≤ d then none else some (i_19, j_20, va_up a_21 31 (upd (a_21 31) d z_23), b_22)) = F := by
      unfold f_Mo_dayText_207 f_Mo_dayText_221 f_Mo_dayText_225 at hF
      rw [e] at hF
      cases wide
      · have hv' : ¬ ver = 51 := hv
        rw [if_neg hv', if_neg hv'] at hF
        exact hF
      · have hv' : ver = 51 := hv
        rw [if_pos hv', if_pos hv'] at hF
        exact hF
    rw [e1, Option.bind_some] at hF2
    dsimp only at hF2
    rw [if_neg n] at hF2
    refine ⟨_, _, hF2.symm, sI3.at.tr g1, fun a j q => by rw [vu_ne q, vu_ne q], ?_⟩
    have hL0 : LL ((va_up sa 31 (upd (sa 31) d 7200)) 0) E = LL (sa 0) E := rfl
    rw [hL0] at m1
    cases r : ramt (LL (sa 0) E) wide (if wide then 167 else 24) (p + 1) with
    | error x => rw [r] at m1; exact m1
    | ok q =>
      rw [r] at m1
      obtain ⟨b1, rfl, a1⟩ := m1
      exact ⟨b1, a1, vu_eq⟩
  · rw [if_neg c]
    rw [if_neg (fun z => c (by rw [ii_lit, ii_eq2 (by omega) (by omega) (by omega) (by omega)] at z; exact z))] at hF
    exact ⟨_, _, hF.symm, sI3.rf, fun a j q => vu_ne q, hb, hp, vu_eq⟩
/-- the cells of a day of the rule at hand -/
def kD (d a j : Nat) : Prop := 27 ≤ a ∧ a ≤ 31 ∧ j = d
def kcode (k : Int) : Int32 := if k = 0 then 74 else if k = 1 then 0 else 77
theorem mday (h : MP si sa E) (hnf : 6 ≤ nf) {p w : Nat} (hw : w < 2) (hp : si 32 = ii (p : Int)) (h1 : p ≤ 50000) (hb : si 34 = 0) {wide : Bool} {ver : Int32} (hv : if wide then ver = 51 else ¬ ver = 51) :
    ∃ (si' : Nat → Int32) (sa' : Nat → Nat → Int32), f_Mo_dayText nf (ii (w : Int)) ver si sj sa sb = some (si', sj, sa', sb) ∧ sI3 si si' ∧ (∀ a j, ¬ kD (8 + w) a j → sa' a j = sa a j) ∧
      mEnd (rdt (LL (sa 0) E) wide p) si' (fun r => si' 32 = ii (r.2.2.2 : Int) ∧ sa' 27 (8 + w) = kcode r.1.1 ∧ sa' 28 (8 + w) = ii r.1.2.1 ∧ (r.1.1 = 2 → sa' 29 (8 + w) = ii r.1.2.2.1 ∧ sa' 30 (8 + w) = ii r.1.2.2.2) ∧ sa' 31 (8 + w) = ii r.2.1) := by
  have hd : 8 + w < 10 := by omega
  obtain ⟨e, n⟩ := d10 hd
  have hr := h.range p
  have e8 : (8 : Int32) + ii (w : Int) = ii ((8 + w : Nat) : Int) := by rw [ii_lit, ii_add]; congr 1
  generalize hF : f_Mo_dayText nf (ii (w : Int)) ver si sj sa sb = F
  unfold f_Mo_dayText f_Mo_dayText_0 f_Mo_dayText_20 at hF
  rw [if_pos hb, mlook h hp (by omega), Option.bind_some, e8] at hF
  simp only [e, if_neg n, hp] at hF
  rw [show ii (p : Int) + 1 = ii ((p + 1 : Nat) : Int) by rw [ii_lit, ii_add]; rfl] at hF
  generalize 8 + w = d at *
  -- what stands behind a number that has been read
  have tail : ∀ (st : Nat → Int32) (ta : Nat → Nat → Int32) (p2 : Nat) (dd : Int × Int × Int × Int), sI3 si st → (∀ a j, ¬ kD d a j → ta a j = sa a j) → st 32 = ii (p2 : Int) → p2 ≤ 60000 → st 34 = 0 → rday (LL (sa 0) E) p = .ok (dd, p2) → ta 27 d = kcode dd.1 → ta 28 d = ii dd.2.1 → (dd.1 = 2 → ta 29 d = ii dd.2.2.1 ∧ ta 30 d = ii dd.2.2.2) → f_Mo_dayText_155 nf (ii (d : Int)) ver st sj ta sb = F →
      ∃ (si' : Nat → Int32) (sa' : Nat → Nat → Int32), F = some (si', sj, sa', sb) ∧ sI3 si si' ∧ (∀ a j, ¬ kD d a j → sa' a j = sa a j) ∧ mEnd (rdt (LL (sa 0) E) wide p) si' (fun r => si' 32 = ii (r.2.2.2 : Int) ∧ sa' 27 d = kcode r.1.1 ∧ sa' 28 d = ii r.1.2.1 ∧ (r.1.1 = 2 → sa' 29 d = ii r.1.2.2.1 ∧ sa' 30 d = ii r.1.2.2.2) ∧ sa' 31 d = ii r.2.1) := by
    intro st ta p2 dd g1 g2 g3 g4 g5 g6 g7 g8 g9 hG
    have hM : MP st ta E := (h.sI g1).sA (fun k => g2 0 k (by unfold kD; omega))
    have hL0 : LL (ta 0) E = LL (sa 0) E := LL_congr (fun k _ => g2 0 k (by unfold kD; omega))
    obtain ⟨s', a', e1, e2, e3, e4⟩ := m155 (nf := nf) (sj := sj) (sb := sb) hM hnf hd g3 g4 g5 hv
    rw [hL0] at e4
    refine ⟨s', a', hG.symm.trans e1, g1.tr e2, fun a j q => (e3 a j (by unfold kD at q; omega)).trans (g2 a j q), ?_⟩
    unfold rdt
    rw [g6]
    dsimp only
    cases r : rtm (LL (sa 0) E) wide p2 with
    | error x => rw [r] at e4; exact e4
    | ok q =>
      obtain ⟨t, wf, p3⟩ := q
      rw [r] at e4
      obtain ⟨b1, b2, b3⟩ := e4
      exact ⟨b1, b2, (e3 27 d (by omega)).trans g7, (e3 28 d (by omega)).trans g8, fun z => ⟨(e3 29 d (by omega)).trans (g9 z).1, (e3 30 d (by omega)).trans (g9 z).2⟩, b3⟩
  -- and behind one that couldn't be
  have tailB : ∀ (st : Nat → Int32) (ta : Nat → Nat → Int32) (x : Nat), sI3 si st → (∀ a j, ¬ kD d a j → ta a j = sa a j) → st 34 = 1 → st 35 = ii (x : Int) → rday (LL (sa 0) E) p = .error x → f_Mo_dayText_155 nf (ii (d : Int)) ver st sj ta sb = F →
      ∃ (si' : Nat → Int32) (sa' : Nat → Nat → Int32), F = some (si', sj, sa', sb) ∧ sI3 si si' ∧ (∀ a j, ¬ kD d a j → sa' a j = sa a j) ∧ mEnd (rdt (LL (sa 0) E) wide p) si' (fun r => si' 32 = ii (r.2.2.2 : Int) ∧ sa' 27 d = kcode r.1.1 ∧ sa' 28 d = ii r.1.2.1 ∧ (r.1.1 = 2 → sa' 29 d = ii r.1.2.2.1 ∧ sa' 30 d = ii r.1.2.2.2) ∧ sa' 31 d = ii r.2.1) := by
    intro st ta x g1 g2 g3 g4 g5 hG
    rw [m155B hd g3] at hG
    refine ⟨_, _, hG.symm, g1, fun a j q => by rw [vu_ne (by unfold kD at q; omega)]; exact g2 a j q, ?_⟩
    unfold rdt
    rw [g5]
    exact ⟨g3, g4⟩
  have up : ∀ (ta : Nat → Nat → Int32) (a : Nat) (v : Int32), 27 ≤ a → a ≤ 31 → (∀ b j, ¬ kD d b j → ta b j = sa b j) → ∀ b j, ¬ kD d b j → va_up ta a (upd (ta a) d v) b j = sa b j := by
    intro ta a v q1 q2 q3 b j q4
    rw [vu_ne (by unfold kD at q4; omega)]
    exact q3 b j q4
  have fr0 : ∀ b j, ¬ kD d b j → sa b j = sa b j := fun _ _ _ => rfl
  have tp : ∀ (ta : Nat → Nat → Int32), (∀ b j, ¬ kD d b j → ta b j = sa b j) → ∀ st, sI3 si st → MP st ta E ∧ LL (ta 0) E = LL (sa 0) E := by
    intro ta q st g
    exact ⟨(h.sI g).sA (fun k => q 0 k (by unfold kD; omega)), LL_congr (fun k _ => q 0 k (by unfold kD; omega))⟩
  by_cases c7 : LL (sa 0) E p = 77
  · rw [c7, if_neg (show ¬ (ii 77 : Int32) = 74 by decide), if_pos (show (ii 77 : Int32) = 77 from rfl)] at hF
    have f1 := up sa 27 (ii 77) (by omega) (by omega) fr0
    obtain ⟨hM1, hL1⟩ := tp _ f1 (va_up si 32 (ii ((p + 1 : Nat) : Int))) sI3.at
    obtain ⟨v1, s1, e1, g1, m1⟩ := mnum (nf := nf) (sj := sj) (sb := sb) hM1 hnf (p := p + 1) rfl (by omega) hb (lo := 1) (hi := 12) (by omega) (by omega) (by omega) (by omega)
    rw [hL1] at m1
    have e1' : f_Mo_number nf 1 12 (va_up si 32 (ii ((p + 1 : Nat) : Int))) sj (va_up sa 27 (upd (sa 27) d (ii 77))) sb = some (v1, s1, sj, va_up sa 27 (upd (sa 27) d (ii 77)), sb) := e1
    rw [e1', Option.bind_some] at hF
    dsimp only at hF
    have G1 : sI3 si s1 := sI3.at.tr g1
    have f2 := up _ 28 v1 (by omega) (by omega) f1
    have hday : rday (LL (sa 0) E) p = match rnum (LL (sa 0) E) 1 12 (p + 1) with
        | .error x => .error x
        | .ok (a, p2) => if LL (sa 0) E p2 = 46 then match rnum (LL (sa 0) E) 1 5 (p2 + 1) with
            | .error x => .error x
            | .ok (b, p3) => if LL (sa 0) E p3 = 46 then match rnum (LL (sa 0) E) 0 6 (p3 + 1) with
                | .error x => .error x
                | .ok (c, p4) => .ok ((2, a, b, c), p4)
              else .error p3
          else .error p2 := by
      unfold rday
      rw [if_pos c7]
      rfl
    generalize hta2 : va_up (va_up sa 27 (upd (sa 27) d (ii 77))) 28 (upd ((va_up sa 27 (upd (sa 27) d (ii 77))) 28) d v1) = ta2 at hF f2
    have t27 : ta2 27 d = ii 77 := by rw [← hta2, vu_ne (by omega), vu_eq]
    have t28 : ta2 28 d = v1 := by rw [← hta2, vu_eq]
    obtain ⟨hM2, hL2⟩ := tp _ f2 s1 G1
    have badrest : ∀ (st : Nat → Int32) (x : Nat), sI3 si st → st 34 = 1 → st 35 = ii (x : Int) → rday (LL (sa 0) E) p = .error x → ∀ (ta : Nat → Nat → Int32), (∀ b j, ¬ kD d b j → ta b j = sa b j) → ((f_Mo_sign nf 46 st sj (va_up ta 29 (upd (ta 29) d 0)) sb).bind fun (i_41, j_42, a_43, b_44) => (f_Mo_number nf 0 6 i_41 j_42 a_43 b_44).bind fun (z_49, i_45, j_46, a_47, b_48) => f_Mo_dayText_155 nf (ii (d : Int)) ver i_45 j_46 (va_up a_47 30 (upd (a_47 30) d z_49)) b_48) = F →
        ∃ (si' : Nat → Int32) (sa' : Nat → Nat → Int32), F = some (si', sj, sa', sb) ∧ sI3 si si' ∧ (∀ a j, ¬ kD d a j → sa' a j = sa a j) ∧ mEnd (rdt (LL (sa 0) E) wide p) si' (fun r => si' 32 = ii (r.2.2.2 : Int) ∧ sa' 27 d = kcode r.1.1 ∧ sa' 28 d = ii r.1.2.1 ∧ (r.1.1 = 2 → sa' 29 d = ii r.1.2.2.1 ∧ sa' 30 d = ii r.1.2.2.2) ∧ sa' 31 d = ii r.2.1) := by
      intro st x q1 q2 q3 q4 ta q5 hG
      rw [msignB q2, Option.bind_some] at hG
      dsimp only at hG
      rw [mnumB (by omega) q2, Option.bind_some] at hG
      exact tailB st _ x q1 (up _ 30 0 (by omega) (by omega) (up _ 29 0 (by omega) (by omega) q5)) q2 q3 q4 hG
    cases r1 : rnum (LL (sa 0) E) 1 12 (p + 1) with
    | error x =>
      rw [r1] at m1 hday
      rw [msignB m1.1, Option.bind_some] at hF
      dsimp only at hF
      rw [mnumB (by omega) m1.1, Option.bind_some] at hF
      exact badrest s1 x G1 m1.1 m1.2 hday ta2 f2 hF
    | ok q1 =>
      obtain ⟨a, p2⟩ := q1
      rw [r1] at m1 hday
      obtain ⟨b1, rfl, a1⟩ := m1
      dsimp only at a1 hday
      have k1 := rnum_ok r1
      have hs1 := msign (nf := nf) (sj := sj) (sb := sb) hM2 a1 (by omega) b1 (x := 46) (by omega) (by omega)
      rw [hL2] at hs1
      rw [show (46 : Int32) = ii 46 from rfl, hs1, Option.bind_some] at hF
      dsimp only at hF
      by_cases c1 : LL (sa 0) E p2 = 46
      · rw [if_pos c1] at hday hF
        obtain ⟨hM3, hL3⟩ := tp _ f2 (va_up s1 32 (ii ((p2 + 1 : Nat) : Int))) (G1.tr sI3.at)
        obtain ⟨v2, s2, e2, g2, m2⟩ := mnum (nf := nf) (sj := sj) (sb := sb) hM3 hnf (p := p2 + 1) rfl (by omega) b1 (lo := 1) (hi := 5) (by omega) (by omega) (by omega) (by omega)
        rw [hL3] at m2
        have e2' : f_Mo_number nf 1 5 (va_up s1 32 (ii ((p2 + 1 : Nat) : Int))) sj ta2 sb = some (v2, s2, sj, ta2, sb) := e2
        rw [e2', Option.bind_some] at hF
        dsimp only at hF
        have G2 : sI3 si s2 := (G1.tr sI3.at).tr g2
        have f3 := up _ 29 v2 (by omega) (by omega) f2
        cases r2 : rnum (LL (sa 0) E) 1 5 (p2 + 1) with
        | error x =>
          rw [r2] at m2 hday
          rw [show (ii 46 : Int32) = 46 from rfl, msignB m2.1, Option.bind_some] at hF
          dsimp only at hF
          rw [mnumB (by omega) m2.1, Option.bind_some] at hF
          exact tailB s2 _ x G2 (up _ 30 0 (by omega) (by omega) f3) m2.1 m2.2 hday hF
        | ok q2 =>
          obtain ⟨b, p3⟩ := q2
          rw [r2] at m2 hday
          obtain ⟨b2, rfl, a2⟩ := m2
          dsimp only at a2 hday
          have k2 := rnum_ok r2
          obtain ⟨hM4, hL4⟩ := tp _ f3 s2 G2
          have hs2 := msign (nf := nf) (sj := sj) (sb := sb) hM4 a2 (by omega) b2 (x := 46) (by omega) (by omega)
          rw [hL4] at hs2
          rw [hs2, Option.bind_some] at hF
          dsimp only at hF
          by_cases c2 : LL (sa 0) E p3 = 46
          · rw [if_pos c2] at hday hF
            obtain ⟨hM5, hL5⟩ := tp _ f3 (va_up s2 32 (ii ((p3 + 1 : Nat) : Int))) (G2.tr sI3.at)
            obtain ⟨v3, s3, e3, g3, m3⟩ := mnum (nf := nf) (sj := sj) (sb := sb) hM5 hnf (p := p3 + 1) rfl (by omega) b2 (lo := 0) (hi := 6) (by omega) (by omega) (by omega) (by omega)
            rw [hL5] at m3
            have e3' : f_Mo_number nf 0 6 (va_up s2 32 (ii ((p3 + 1 : Nat) : Int))) sj (va_up ta2 29 (upd (ta2 29) d (ii b))) sb = some (v3, s3, sj, va_up ta2 29 (upd (ta2 29) d (ii b)), sb) := e3
            rw [e3', Option.bind_some] at hF
            have G3 : sI3 si s3 := (G2.tr sI3.at).tr g3
            have f4 := up _ 30 v3 (by omega) (by omega) f3
            cases r3 : rnum (LL (sa 0) E) 0 6 (p3 + 1) with
            | error x =>
              rw [r3] at m3 hday
              exact tailB s3 _ x G3 f4 m3.1 m3.2 hday hF
            | ok q3 =>
              obtain ⟨c, p4⟩ := q3
              rw [r3] at m3 hday
              obtain ⟨b3, rfl, a3⟩ := m3
              dsimp only at a3 hday
              have k3 := rnum_ok r3
              refine tail s3 _ p4 (2, a, b, c) G3 f4 a3 (by omega) b3 hday ?_ ?_ (fun _ => ⟨?_, ?_⟩) hF
              · rw [vu_ne (by omega), vu_ne (by omega), t27]; rfl
              · rw [vu_ne (by omega), vu_ne (by omega), t28]
              · rw [vu_ne (by omega), vu_eq]
              · rw [vu_eq]
          · rw [if_neg c2] at hday hF
            have nb : (va_up (va_up s2 34 1) 35 (ii (p3 : Int))) 34 = 1 := rfl
            rw [mnumB (by omega) nb, Option.bind_some] at hF
            exact tailB _ _ p3 (G2.tr sI3.bd) (up _ 30 0 (by omega) (by omega) f3) rfl rfl hday hF
      · rw [if_neg c1] at hday hF
        have nb : (va_up (va_up s1 34 1) 35 (ii (p2 : Int))) 34 = 1 := rfl
        rw [mnumB (by omega) nb, Option.bind_some] at hF
        exact badrest _ p2 (G1.tr sI3.bd) nb rfl hday ta2 f2 hF
  · by_cases c4 : LL (sa 0) E p = 74
    · rw [c4, if_pos (show (ii 74 : Int32) = 74 from rfl)] at hF
      have f1 := up sa 27 (ii 74) (by omega) (by omega) fr0
      obtain ⟨hM1, hL1⟩ := tp _ f1 (va_up si 32 (ii ((p + 1 : Nat) : Int))) sI3.at
      obtain ⟨v1, s1, e1, g1, m1⟩ := mnum (nf := nf) (sj := sj) (sb := sb) hM1 hnf (p := p + 1) rfl (by omega) hb (lo := 1) (hi := 365) (by omega) (by omega) (by omega) (by omega)
      rw [hL1] at m1
      have e1' : f_Mo_number nf 1 365 (va_up si 32 (ii ((p + 1 : Nat) : Int))) sj (va_up sa 27 (upd (sa 27) d (ii 74))) sb = some (v1, s1, sj, va_up sa 27 (upd (sa 27) d (ii 74)), sb) := e1
      rw [e1', Option.bind_some] at hF
      have G1 : sI3 si s1 := sI3.at.tr g1
      have f2 := up _ 28 v1 (by omega) (by omega) f1
      have hday : rday (LL (sa 0) E) p = match rnum (LL (sa 0) E) 1 365 (p + 1) with
          | .error x => .error x
          | .ok (a, p2) => .ok ((0, a, 0, 0), p2) := by
        unfold rday
        rw [if_neg c7, if_pos c4]
        rfl
      cases r1 : rnum (LL (sa 0) E) 1 365 (p + 1) with
      | error x =>
        rw [r1] at m1 hday
        exact tailB s1 _ x G1 f2 m1.1 m1.2 hday hF
      | ok q1 =>
        obtain ⟨a, p2⟩ := q1
        rw [r1] at m1 hday
        obtain ⟨b1, rfl, a1⟩ := m1
        dsimp only at a1 hday
        have k1 := rnum_ok r1
        refine tail s1 _ p2 (0, a, 0, 0) G1 f2 a1 (by omega) b1 hday ?_ ?_ (fun z => absurd z (show ¬ (0 : Int) = 2 by decide)) hF
        · rw [vu_ne (by omega), vu_eq]; rfl
        · rw [vu_eq]
    · rw [if_neg (fun z => c4 (by rw [ii_lit, ii_eq2 (by omega) (by omega) (by omega) (by omega)] at z; exact z)), if_neg (fun z => c7 (by rw [ii_lit, ii_eq2 (by omega) (by omega) (by omega) (by omega)] at z; exact z))] at hF
      have f0 := up sa 27 (ii (LL (sa 0) E p)) (by omega) (by omega) fr0
      have f1 : ∀ b j, ¬ kD d b j → va_up (va_up sa 27 (upd (sa 27) d (ii (LL (sa 0) E p)))) 27 (upd (upd (sa 27) d (ii (LL (sa 0) E p))) d 0) b j = sa b j := up _ 27 0 (by omega) (by omega) f0
      have t27 : va_up (va_up sa 27 (upd (sa 27) d (ii (LL (sa 0) E p)))) 27 (upd (upd (sa 27) d (ii (LL (sa 0) E p))) d 0) 27 d = 0 := by rw [vup_eq, upd_eq]
      generalize va_up (va_up sa 27 (upd (sa 27) d (ii (LL (sa 0) E p)))) 27 (upd (upd (sa 27) d (ii (LL (sa 0) E p))) d 0) = ta1 at hF f1 t27
      obtain ⟨hM1, hL1⟩ := tp _ f1 si sI3.rf
      obtain ⟨v1, s1, e1, g1, m1⟩ := mnum (nf := nf) (sj := sj) (sb := sb) hM1 hnf (p := p) hp (by omega) hb (lo := 0) (hi := 365) (by omega) (by omega) (by omega) (by omega)
      rw [hL1] at m1
      have e1' : f_Mo_number nf 0 365 si sj ta1 sb = some (v1, s1, sj, ta1, sb) := e1
      rw [e1', Option.bind_some] at hF
      have f2 := up _ 28 v1 (by omega) (by omega) f1
      have hday : rday (LL (sa 0) E) p = match rnum (LL (sa 0) E) 0 365 p with
          | .error x => .error x
          | .ok (a, p2) => .ok ((1, a, 0, 0), p2) := by
        unfold rday
        rw [if_neg c7, if_neg c4]
        rfl
      cases r1 : rnum (LL (sa 0) E) 0 365 p with
      | error x =>
        rw [r1] at m1 hday
        exact tailB s1 _ x g1 f2 m1.1 m1.2 hday hF
      | ok q1 =>
        obtain ⟨a, p2⟩ := q1
        rw [r1] at m1 hday
        obtain ⟨b1, rfl, a1⟩ := m1
        dsimp only at a1 hday
        have k1 := rnum_ok r1
        refine tail s1 _ p2 (1, a, 0, 0) g1 f2 a1 (by omega) b1 hday ?_ ?_ (fun z => absurd z (show ¬ (1 : Int) = 2 by decide)) hF
        · rw [vu_ne (by omega), t27]; rfl
        · rw [vu_eq]
end
section
variable {nf : Nat} {si si' : Nat → Int32} {sj : Nat → Int64} {sa sa' : Nat → Nat → Int32} {sb : Nat → Nat → Int64} {E : Nat}
theorem mdayB (hnf : 6 ≤ nf) {w : Nat} (hw : w < 2) (hb : si 34 = 1) {ver : Int32} : ∃ sa' : Nat → Nat → Int32, f_Mo_dayText nf (ii (w : Int)) ver si sj sa sb = some (si, sj, sa', sb) ∧ ∀ a j, ¬ kD (8 + w) a j → sa' a j = sa a j := by
  have hd : 8 + w < 10 := by omega
  obtain ⟨e, n⟩ := d10 hd
  have e8 : (8 : Int32) + ii (w : Int) = ii ((8 + w : Nat) : Int) := by rw [ii_lit, ii_add]; congr 1
  unfold f_Mo_dayText f_Mo_dayText_0 f_Mo_dayText_20
  rw [if_neg (show ¬ si 34 = 0 by rw [hb]; decide), e8, e]
  simp only [if_neg n, if_neg (show ¬ (-1 : Int32) = 74 by decide), if_neg (show ¬ (-1 : Int32) = 77 by decide)]
  rw [mnumB (by omega) hb, Option.bind_some]
  dsimp only
  rw [m155B hd hb]
  refine ⟨_, rfl, fun a j q => ?_⟩
  unfold kD at q
  rw [vu_ne (by omega), vu_ne (by omega)]
  by_cases c : a = 27
  · subst c
    rw [vup_eq, upd_ne (by omega), upd_ne (by omega)]
  · rw [vup_ne c, vup_ne c]
/-- the cells of the rule at hand -/
def kH (a j : Nat) : Prop := a = 23 ∧ j = 4 ∨ (a = 24 ∨ a = 25 ∨ 27 ≤ a ∧ a ≤ 31) ∧ 8 ≤ j ∧ j < 10 ∨ a = 26 ∧ 80 ≤ j ∧ j < 100
def sI4 (si si' : Nat → Int32) : Prop := ∀ k, k ≠ 32 → k ≠ 33 → k ≠ 34 → k ≠ 35 → si' k = si k
/-- what the reference holds of a rule text -/
def mRule (sa : Nat → Nat → Int32) (L : Nat → Int) (r : RT) : Prop :=
  sa 25 8 = ii (r.2.1 : Int) ∧ (∀ k, k < r.2.1 → sa 26 (80 + k) = ii (L (r.1 + k))) ∧ sa 24 8 = ii r.2.2.1 ∧
  match r.2.2.2 with
  | none => sa 23 4 = 1
  | some (up, us, uo, d1, t1, d2, t2, _) => sa 23 4 = 2 ∧ sa 25 9 = ii (us : Int) ∧ (∀ k, k < us → sa 26 (90 + k) = ii (L (up + k))) ∧ sa 24 9 = ii uo ∧ REm sa 8 (bET r.2.2.1 d1 t1) ∧ REm sa 9 (bET uo d2 t2)
theorem m198 (hb : si 34 = 0 ∨ si 34 = 1) : f_Mo_ruleText_198 nf si sj sa sb = some (if si 34 = 0 then 1 else 0, si, sj, sa, sb) := by
  unfold f_Mo_ruleText_198 f_Mo_ruleText_210
  rcases hb with hb | hb
  · rw [if_pos hb, if_pos hb, if_pos (by decide)]
  · have n : ¬ si 34 = 0 := by rw [hb]; decide
    rw [if_neg n, if_neg n, if_pos (by decide)]
end
section
variable {nf : Nat} {si si' : Nat → Int32} {sj : Nat → Int64} {sa sa' : Nat → Nat → Int32} {sb : Nat → Nat → Int64} {E : Nat}
/-- the cells that the end of a rule text fills -/
def kE (a j : Nat) : Prop := a = 24 ∧ j = 9 ∨ 27 ≤ a ∧ a ≤ 31 ∧ (j = 8 ∨ j = 9)
def rends (L : Nat → Int) (wide : Bool) (p E : Nat) : Except Nat ((Int × Int × Int × Int) × Int × (Int × Int × Int × Int) × Int × Bool) :=
  match redge L wide p with
  | .error x => .error x
  | .ok (d1, t1, w1, p5) => match redge L wide p5 with
    | .error x => .error x
    | .ok (d2, t2, w2, p6) => if E ≤ p6 then .ok (d1, t1, d2, t2, w1 || w2) else .error p6
/-- one day of the rule at hand, as the reference holds it -/
def mDay (sa : Nat → Nat → Int32) (j : Nat) (d : Int × Int × Int × Int) (t : Int) : Prop := sa 27 j = kcode d.1 ∧ sa 28 j = ii d.2.1 ∧ (d.1 = 2 → sa 29 j = ii d.2.2.1 ∧ sa 30 j = ii d.2.2.2) ∧ sa 31 j = ii t
theorem mDay.keep {sa sa' : Nat → Nat → Int32} {j : Nat} {d : Int × Int × Int × Int} {t : Int} (h : mDay sa j d t) (k : ∀ a, 27 ≤ a → a ≤ 31 → sa' a j = sa a j) : mDay sa' j d t := by
  obtain ⟨h1, h2, h3, h4⟩ := h
  exact ⟨(k 27 (by omega) (by omega)).trans h1, (k 28 (by omega) (by omega)).trans h2, fun z => ⟨(k 29 (by omega) (by omega)).trans (h3 z).1, (k 30 (by omega) (by omega)).trans (h3 z).2⟩, (k 31 (by omega) (by omega)).trans h4⟩
theorem m147B (hnf : 6 ≤ nf) (hb : si 34 = 1) {ver uo : Int32} : ∃ sa' : Nat → Nat → Int32, f_Mo_ruleText_147 nf ver uo 9 si sj sa sb = some (0, si, sj, sa', sb) ∧ ∀ a j, ¬ kE a j → sa' a j = sa a j := by
  unfold f_Mo_ruleText_147
  rw [show (9 : Int32).toNatClampNeg = 9 from rfl, if_neg (by decide), msignB hb, Option.bind_some]
  dsimp only
  obtain ⟨a1, e1, f1⟩ := mdayB (nf := nf) (sj := sj) (sb := sb) (sa := va_up sa 24 (upd (sa 24) 9 uo)) hnf (w := 0) (by omega) hb (ver := ver)
  have e1' : f_Mo_dayText nf 0 ver si sj (va_up sa 24 (upd (sa 24) 9 uo)) sb = some (si, sj, a1, sb) := e1
  rw [e1', Option.bind_some]
  dsimp only
  rw [msignB hb, Option.bind_some]
  dsimp only
  obtain ⟨a2, e2, f2⟩ := mdayB (nf := nf) (sj := sj) (sb := sb) (sa := a1) hnf (w := 1) (by omega) hb (ver := ver)
  have e2' : f_Mo_dayText nf 1 ver si sj a1 sb = some (si, sj, a2, sb) := e2
  rw [e2', Option.bind_some]
  dsimp only
  rw [if_neg (show ¬ si 34 = 0 by rw [hb]; decide), m198 (Or.inr hb), if_neg (show ¬ si 34 = 0 by rw [hb]; decide)]
  refine ⟨a2, rfl, fun a j q => ?_⟩
  unfold kE at q
  rw [f2 a j (by unfold kD; omega), f1 a j (by unfold kD; omega), vu_ne (by omega)]
theorem m147 (h : MP si sa E) (hnf : 6 ≤ nf) {p : Nat} (hp : si 32 = ii (p : Int)) (h1 : p ≤ 20000) (hb : si 34 = 0) {wide : Bool} {ver : Int32} (hv : if wide then ver = 51 else ¬ ver = 51) {uo : Int32} :
    ∃ (fl : Int32) (si' : Nat → Int32) (sa' : Nat → Nat → Int32), f_Mo_ruleText_147 nf ver uo 9 si sj sa sb = some (fl, si', sj, sa', sb) ∧ sI3 si si' ∧ (∀ a j, ¬ kE a j → sa' a j = sa a j) ∧
      match rends (LL (sa 0) E) wide p E with
      | .error x => fl = 0 ∧ si' 35 = ii (x : Int)
      | .ok r => fl = 1 ∧ sa' 24 9 = uo ∧ mDay sa' 8 r.1 r.2.1 ∧ mDay sa' 9 r.2.2.1 r.2.2.2.1 := by
  generalize hF : f_Mo_ruleText_147 nf ver uo 9 si sj sa sb = F
  unfold f_Mo_ruleText_147 at hF
  rw [show (9 : Int32).toNatClampNeg = 9 from rfl, if_neg (by decide)] at hF
  have u0 : ∀ a j, ¬ kE a j → (va_up sa 24 (upd (sa 24) 9 uo)) a j = sa a j := fun a j q => by unfold kE at q; rw [vu_ne (by omega)]
  have u24 : (va_up sa 24 (upd (sa 24) 9 uo)) 24 9 = uo := vu_eq
  generalize va_up sa 24 (upd (sa 24) 9 uo) = ta at hF u0 u24
  have hM0 : MP si ta E := h.sA (fun k => u0 0 k (by unfold kE; omega))
  have hL0 : LL (ta 0) E = LL (sa 0) E := LL_congr (fun k _ => u0 0 k (by unfold kE; omega))
  -- the end, once something was bad
  have bad3 : ∀ (st : Nat → Int32) (tb : Nat → Nat → Int32) (x : Nat), sI3 si st → (∀ a j, ¬ kE a j → tb a j = sa a j) → st 34 = 1 → st 35 = ii (x : Int) → rends (LL (sa 0) E) wide p E = .error x → ((f_Mo_dayText nf 1 ver st sj tb sb).bind fun (i_37, j_38, a_39, b_40) => if (i_37 34) = 0 then if (i_37 33) ≤ (i_37 32) then f_Mo_ruleText_198 nf i_37 j_38 a_39 b_40 else (f_Mo_cannot nf (i_37 32) i_37 j_38 a_39 b_40).bind fun (i_43, j_44, a_45, b_46) => f_Mo_ruleText_198 nf i_43 j_44 a_45 b_46 else f_Mo_ruleText_198 nf i_37 j_38 a_39 b_40) = F →
      ∃ (fl : Int32) (si' : Nat → Int32) (sa' : Nat → Nat → Int32), F = some (fl, si', sj, sa', sb) ∧ sI3 si si' ∧ (∀ a j, ¬ kE a j → sa' a j = sa a j) ∧ match rends (LL (sa 0) E) wide p E with
      | .error x => fl = 0 ∧ si' 35 = ii (x : Int)
      | .ok r => fl = 1 ∧ sa' 24 9 = uo ∧ mDay sa' 8 r.1 r.2.1 ∧ mDay sa' 9 r.2.2.1 r.2.2.2.1 := by
    intro st tb x q1 q2 q3 q4 q5 hG
    obtain ⟨a2, e2, f2⟩ := mdayB (nf := nf) (sj := sj) (sb := sb) (sa := tb) hnf (w := 1) (by omega) q3 (ver := ver)
    have e2' : f_Mo_dayText nf 1 ver st sj tb sb = some (st, sj, a2, sb) := e2
    rw [e2', Option.bind_some] at hG
    dsimp only at hG
    rw [if_neg (show ¬ st 34 = 0 by rw [q3]; decide), m198 (Or.inr q3), if_neg (show ¬ st 34 = 0 by rw [q3]; decide)] at hG
    refine ⟨0, st, a2, hG.symm, q1, fun a j q => ?_, ?_⟩
    · rw [f2 a j (by unfold kE at q; unfold kD; omega)]
      exact q2 a j q
    · rw [q5]
      exact ⟨rfl, q4⟩
  have s1 := msign (nf := nf) (sj := sj) (sb := sb) hM0 hp (by omega) hb (x := 44) (by omega) (by omega)
  rw [hL0] at s1
  have s1' : f_Mo_sign nf 44 si sj ta sb = _ := s1
  rw [s1', Option.bind_some] at hF
  dsimp only at hF
  by_cases c1 : LL (sa 0) E p = 44
  · rw [if_pos c1] at hF
    have l1 := LL_lt (T := sa 0) (E := E) (k := p) (by omega)
    have hE6 := h.2.1
    have hM1 : MP (va_up si 32 (ii ((p + 1 : Nat) : Int))) ta E := hM0.sI sI3.at
    obtain ⟨s2, a2, e2, g2, f2, m2⟩ := mday (nf := nf) (sj := sj) (sb := sb) hM1 hnf (p := p + 1) (w := 0) (by omega) rfl (by omega) hb hv
    rw [hL0] at m2
    have e2' : f_Mo_dayText nf 0 ver (va_up si 32 (ii ((p + 1 : Nat) : Int))) sj ta sb = some (s2, sj, a2, sb) := e2
    rw [e2', Option.bind_some] at hF
    dsimp only at hF
    have G2 : sI3 si s2 := sI3.at.tr g2
    have F2 : ∀ a j, ¬ kE a j → a2 a j = sa a j := fun a j q => by
      rw [f2 a j (by unfold kE at q; unfold kD; omega)]
      exact u0 a j q
    have hre : redge (LL (sa 0) E) wide p = rdt (LL (sa 0) E) wide (p + 1) := by rw [redge_eq, if_pos c1]
    cases r2 : rdt (LL (sa 0) E) wide (p + 1) with
    | error x =>
      rw [r2] at m2 hre
      rw [msignB m2.1, Option.bind_some] at hF
      exact bad3 s2 a2 x G2 F2 m2.1 m2.2 (by unfold rends; rw [hre]) hF
    | ok q2 =>
      obtain ⟨⟨k2, x2, y2, z2⟩, t2, w2, p5⟩ := q2
      rw [r2] at m2 hre
      obtain ⟨b2, at2, d27, d28, d29, d31⟩ := m2
      dsimp only at at2 d27 d28 d29 d31
      have hok := redge_ok hre
      have hM2 : MP s2 a2 E := (h.sI G2).sA (fun k => F2 0 k (by unfold kE; omega))
      have hL2 : LL (a2 0) E = LL (sa 0) E := LL_congr (fun k _ => F2 0 k (by unfold kE; omega))
      have s3 := msign (nf := nf) (sj := sj) (sb := sb) hM2 at2 (by omega) b2 (x := 44) (by omega) (by omega)
      rw [hL2] at s3
      have s3' : f_Mo_sign nf 44 s2 sj a2 sb = _ := s3
      rw [s3', Option.bind_some] at hF
      by_cases c5 : LL (sa 0) E p5 = 44
      · rw [if_pos c5] at hF
        have l5 := LL_lt (T := sa 0) (E := E) (k := p5) (by omega)
        have hM3 : MP (va_up s2 32 (ii ((p5 + 1 : Nat) : Int))) a2 E := hM2.sI sI3.at
        obtain ⟨s4, a4, e4, g4, f4, m4⟩ := mday (nf := nf) (sj := sj) (sb := sb) hM3 hnf (p := p5 + 1) (w := 1) (by omega) rfl (by omega) b2 hv
        rw [hL2] at m4
        have e4' : f_Mo_dayText nf 1 ver (va_up s2 32 (ii ((p5 + 1 : Nat) : Int))) sj a2 sb = some (s4, sj, a4, sb) := e4
        dsimp only at hF
        rw [e4', Option.bind_some] at hF
        dsimp only at hF
        have G4 : sI3 si s4 := (G2.tr sI3.at).tr g4
        have F4 : ∀ a j, ¬ kE a j → a4 a j = sa a j := fun a j q => by
          rw [f4 a j (by unfold kE at q; unfold kD; omega)]
          exact F2 a j q
        have hre5 : redge (LL (sa 0) E) wide p5 = rdt (LL (sa 0) E) wide (p5 + 1) := by rw [redge_eq, if_pos c5]
        cases r4 : rdt (LL (sa 0) E) wide (p5 + 1) with
        | error x =>
          rw [r4] at m4 hre5
          rw [if_neg (show ¬ s4 34 = 0 by rw [m4.1]; decide), m198 (Or.inr m4.1), if_neg (show ¬ s4 34 = 0 by rw [m4.1]; decide)] at hF
          refine ⟨_, _, _, hF.symm, G4, F4, ?_⟩
          unfold rends
          rw [hre]
          dsimp only
          rw [hre5]
          exact ⟨rfl, m4.2⟩
        | ok q4 =>
          obtain ⟨⟨k4, x4, y4, z4⟩, t4, w4, p6⟩ := q4
          rw [r4] at m4 hre5
          obtain ⟨b4, at4, d27', d28', d29', d31'⟩ := m4
          dsimp only at at4 d27' d28' d29' d31'
          have hok5 := redge_ok hre5
          have i33 : s4 33 = ii (E : Int) := (G4 33 (by decide) (by decide) (by decide)).trans h.1
          rw [if_pos b4] at hF
          unfold rends
          rw [hre]
          dsimp only
          rw [hre5]
          dsimp only
          by_cases c6 : E ≤ p6
          · rw [if_pos c6]
            rw [if_pos (by rw [i33, at4, ii_le (by omega) (by omega) (by omega) (by omega)]; omega), m198 (Or.inl b4), if_pos b4] at hF
            refine ⟨_, _, _, hF.symm, G4, F4, rfl, ?_, ?_, d27', d28', d29', d31'⟩
            · rw [f4 24 9 (by unfold kD; omega), f2 24 9 (by unfold kD; omega)]
              exact u24
            · exact mDay.keep (sa := a2) ⟨d27, d28, d29, d31⟩ (fun a q1 q2 => f4 a 8 (by unfold kD; omega))
          · rw [if_neg c6]
            rw [if_neg (by rw [i33, at4, ii_le (by omega) (by omega) (by omega) (by omega)]; omega), mcan b4, Option.bind_some] at hF
            dsimp only at hF
            rw [at4] at hF
            have nb : (va_up (va_up s4 34 1) 35 (ii (p6 : Int))) 34 = 1 := rfl
            rw [m198 (Or.inr nb), if_neg (show ¬ (va_up (va_up s4 34 1) 35 (ii (p6 : Int))) 34 = 0 by rw [nb]; decide)] at hF
            exact ⟨_, _, _, hF.symm, G4.tr sI3.bd, F4, rfl, rfl⟩
      · rw [if_neg c5] at hF
        have hre5 : redge (LL (sa 0) E) wide p5 = .error p5 := by rw [redge_eq, if_neg c5]
        exact bad3 _ a2 p5 (G2.tr sI3.bd) F2 rfl rfl (by unfold rends; rw [hre]; dsimp only; rw [hre5]) hF
  · rw [if_neg c1] at hF
    have hre : redge (LL (sa 0) E) wide p = .error p := by rw [redge_eq, if_neg c1]
    have nb : (va_up (va_up si 34 1) 35 (ii (p : Int))) 34 = 1 := rfl
    obtain ⟨a2, e2, f2⟩ := mdayB (nf := nf) (sj := sj) (sb := sb) (sa := ta) hnf (w := 0) (by omega) nb (ver := ver)
    have e2' : f_Mo_dayText nf 0 ver (va_up (va_up si 34 1) 35 (ii (p : Int))) sj ta sb = some (va_up (va_up si 34 1) 35 (ii (p : Int)), sj, a2, sb) := e2
    rw [e2', Option.bind_some] at hF
    dsimp only at hF
    rw [msignB nb, Option.bind_some] at hF
    exact bad3 _ a2 p sI3.bd (fun a j q => by rw [f2 a j (by unfold kE at q; unfold kD; omega)]; exact u0 a j q) nb rfl (by unfold rends; rw [hre]) hF
end
