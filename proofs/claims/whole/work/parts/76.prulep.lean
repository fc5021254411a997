/-! ===== the reference reads a rule text: the whole ===== -/
theorem rtext_eq (L : Nat → Int) (wide : Bool) (p E : Nat) : rtext L wide p E = match rname L p with
  | .error x => .error x
  | .ok (sp, ss, p1) => match ramt L true 24 p1 with
    | .error x => .error x
    | .ok (so, _, p2) => if E ≤ p2 then .ok (sp, ss, -so, none) else match rname L p2 with
      | .error x => .error x
      | .ok (up, us, p3) => match rsoff L (-so) p3 with
        | .error x => .error x
        | .ok (uo, p4) => match rends L wide p4 E with
          | .error x => .error x
          | .ok (d1, t1, d2, t2, w) => .ok (sp, ss, -so, some (up, us, uo, d1, t1, d2, t2, w)) := by
  unfold rtext rends
  cases rname L p with
  | error x => rfl
  | ok q =>
    obtain ⟨sp, ss, p1⟩ := q
    dsimp only
    cases ramt L true 24 p1 with
    | error x => rfl
    | ok q =>
      obtain ⟨so, w, p2⟩ := q
      dsimp only
      by_cases c : E ≤ p2
      · rw [if_pos c, if_pos c]
      · rw [if_neg c, if_neg c]
        cases rname L p2 with
        | error x => rfl
        | ok q =>
          obtain ⟨up, us, p3⟩ := q
          dsimp only
          cases rsoff L (-so) p3 with
          | error x => rfl
          | ok q =>
            obtain ⟨uo, p4⟩ := q
            dsimp only
            cases redge L wide p4 with
            | error x => rfl
            | ok q =>
              obtain ⟨d1, t1, w1, p5⟩ := q
              dsimp only
              cases redge L wide p5 with
              | error x => rfl
              | ok q =>
                obtain ⟨d2, t2, w2, p6⟩ := q
                dsimp only
                by_cases c2 : E ≤ p6
                · rw [if_pos c2, if_pos c2]
                · rw [if_neg c2, if_neg c2]
section
variable {nf : Nat} {si si' : Nat → Int32} {sj : Nat → Int64} {sa sa' : Nat → Nat → Int32} {sb : Nat → Nat → Int64} {E : Nat}
theorem sI3.w {a b : Nat → Int32} (h : sI3 a b) : sI4 a b := fun k k1 _ k3 k4 => h k k1 k3 k4
theorem sI4.tr {a b c : Nat → Int32} (h : sI4 a b) (g : sI3 b c) : sI4 a c := fun k k1 k2 k3 k4 => (g k k1 k3 k4).trans (h k k1 k2 k3 k4)
theorem mrule (hE : E ≤ 6000) (hT : ∀ k, k < E → ∃ b : Nat, b < 256 ∧ sa 0 k = ii (b : Int)) {st : Nat} (hst : st < E) (hnf : 20 ≤ nf) {wide : Bool} {ver : Int32} (hv : if wide then ver = 51 else ¬ ver = 51) :
    ∃ (fl : Int32) (si' : Nat → Int32) (sa' : Nat → Nat → Int32), f_Mo_ruleText nf ver (ii (st : Int)) (ii (E : Int)) si sj sa sb = some (fl, si', sj, sa', sb) ∧ sI4 si si' ∧ (∀ a j, ¬ kH a j → sa' a j = sa a j) ∧
      match rtext (LL (sa 0) E) wide st E with
      | .error x => fl = 0 ∧ si' 35 = ii (x : Int)
      | .ok r => fl = 1 ∧ mRule sa' (LL (sa 0) E) r := by
  generalize hF : f_Mo_ruleText nf ver (ii (st : Int)) (ii (E : Int)) si sj sa sb = F
  unfold f_Mo_ruleText f_Mo_ruleText_0 at hF
  rw [show (8 : Int32).toNatClampNeg = 8 from rfl, show (4 : Int32).toNatClampNeg = 4 from rfl] at hF
  have n8 : ¬ ((8 : Int32) < 0 ∨ 10 ≤ 8) := by decide
  have n4 : ¬ ((4 : Int32) < 0 ∨ 5 ≤ 4) := by decide
  simp only [if_neg n8, if_neg n4] at hF
  have G0 : sI4 si (va_up (va_up (va_up si 32 (ii (st : Int))) 33 (ii (E : Int))) 34 0) := fun k k1 k2 k3 k4 => by rw [vup_ne k3, vup_ne k2, vup_ne k1]
  have hM0 : MP (va_up (va_up (va_up si 32 (ii (st : Int))) 33 (ii (E : Int))) 34 0) sa E := ⟨rfl, hE, hT⟩
  have a0 : (va_up (va_up (va_up si 32 (ii (st : Int))) 33 (ii (E : Int))) 34 0) 32 = ii (st : Int) := rfl
  have b0 : (va_up (va_up (va_up si 32 (ii (st : Int))) 33 (ii (E : Int))) 34 0) 34 = 0 := rfl
  generalize va_up (va_up (va_up si 32 (ii (st : Int))) 33 (ii (E : Int))) 34 0 = s0 at hF G0 hM0 a0 b0
  obtain ⟨s1, a1, e1, g1, f1, m1⟩ := mname (nf := nf) (sj := sj) (sb := sb) hM0 hnf (w := 0) (by omega) a0 (by omega) b0
  have e1' : f_Mo_nameText nf 0 s0 sj sa sb = some (s1, sj, a1, sb) := e1
  rw [e1', Option.bind_some] at hF
  dsimp only at hF
  have f1' : ∀ a j, ¬ kH a j → a1 a j = sa a j := fun a j q => f1 a j (by unfold kH at q; unfold kN; omega)
  have G1 := G0.tr g1
  have hM1 : MP s1 a1 E := (hM0.sI g1).sA (fun k => f1 0 k (by unfold kN; omega))
  have hL1 : LL (a1 0) E = LL (sa 0) E := LL_congr (fun k _ => f1 0 k (by unfold kN; omega))
  rw [rtext_eq]
  -- cells that are written here
  have fr2 : ∀ (ta : Nat → Nat → Int32) (v : Int32), (∀ a j, ¬ kH a j → ta a j = sa a j) → ∀ a j, ¬ kH a j → (va_up (va_up ta 24 (upd (ta 24) 8 v)) 23 (upd (ta 23) 4 1)) a j = sa a j := by
    intro ta v q a j hk
    have q1 := q a j hk
    unfold kH at hk
    by_cases c : a = 23
    · subst c
      rw [vup_eq, upd_ne (by omega)]
      exact q1
    · rw [vup_ne c, vu_ne (by omega)]
      exact q1
  cases r1 : rname (LL (sa 0) E) st with
  | error x =>
    rw [r1] at m1
    obtain ⟨v, ev⟩ := moffB (nf := nf) (sj := sj) (sb := sb) (sa := a1) (by omega) m1.1 (x1 := 1) (x2 := 24)
    rw [ev, Option.bind_some] at hF
    dsimp only at hF
    rw [if_neg (show ¬ s1 34 = 0 by rw [m1.1]; decide), m198 (Or.inr m1.1), if_neg (show ¬ s1 34 = 0 by rw [m1.1]; decide)] at hF
    exact ⟨_, _, _, hF.symm, G1, fr2 a1 _ f1', rfl, m1.2⟩
  | ok q1 =>
    obtain ⟨sp, ss, p1⟩ := q1
    have k1 := rname_ok r1
    rw [r1] at m1
    obtain ⟨b1, at1, n1, n2⟩ := m1
    dsimp only at at1 n1 n2 ⊢
    obtain ⟨v, s2, e2, g2, m2⟩ := moff (nf := nf) (sj := sj) (sb := sb) hM1 (by omega) at1 (by omega) b1 true (most := 24) (by omega) (by omega)
    rw [hL1] at m2
    have e2' : f_Mo_offsetText nf 1 24 s1 sj a1 sb = some (v, s2, sj, a1, sb) := e2
    rw [e2', Option.bind_some] at hF
    dsimp only at hF
    have G2 := G1.tr g2
    cases r2 : ramt (LL (sa 0) E) true 24 p1 with
    | error x =>
      rw [r2] at m2
      rw [if_neg (show ¬ s2 34 = 0 by rw [m2.1]; decide), m198 (Or.inr m2.1), if_neg (show ¬ s2 34 = 0 by rw [m2.1]; decide)] at hF
      exact ⟨_, _, _, hF.symm, G2, fr2 a1 _ f1', rfl, m2.2⟩
    | ok q2 =>
      obtain ⟨so, wf, p2⟩ := q2
      have k2 := ramt_ok r2
      have k2' := ramt_le r2
      rw [r2] at m2
      obtain ⟨b2, rfl, at2⟩ := m2
      dsimp only at at2 ⊢
      have i33 : s2 33 = ii (E : Int) := ((g2 33 (by decide) (by decide) (by decide)).trans hM1.1)
      rw [if_pos b2, ii_neg] at hF
      by_cases cE : E ≤ p2
      · rw [if_pos cE]
        rw [if_pos (by rw [i33, at2, ii_le (by omega) (by omega) (by omega) (by omega)]; omega), m198 (Or.inl b2), if_pos b2] at hF
        refine ⟨_, _, _, hF.symm, G2, fr2 a1 _ f1', rfl, ?_, fun k hk => ?_, ?_, ?_⟩
        · rw [vup_ne (by decide), vu_ne (by omega)]; exact n1
        · rw [vup_ne (by decide), vu_ne (by omega)]; exact n2 k hk
        · rw [vup_ne (by decide), vu_eq]
        · dsimp only
          rw [vup_eq, upd_eq]
      · rw [if_neg cE]
        rw [if_neg (by rw [i33, at2, ii_le (by omega) (by omega) (by omega) (by omega)]; omega)] at hF
        have c24 : (va_up (va_up (va_up a1 24 (upd (a1 24) 8 (ii (-so)))) 23 (upd (a1 23) 4 1)) 23 (upd (upd (a1 23) 4 1) 4 2)) 24 8 = ii (-so) := by rw [vup_ne (by decide), vup_ne (by decide), vu_eq]
        have c23 : (va_up (va_up (va_up a1 24 (upd (a1 24) 8 (ii (-so)))) 23 (upd (a1 23) 4 1)) 23 (upd (upd (a1 23) 4 1) 4 2)) 23 4 = 2 := by rw [vup_eq, upd_eq]
        have cfr : ∀ a j, ¬ (a = 24 ∧ j = 8 ∨ a = 23 ∧ j = 4) → (va_up (va_up (va_up a1 24 (upd (a1 24) 8 (ii (-so)))) 23 (upd (a1 23) 4 1)) 23 (upd (upd (a1 23) 4 1) 4 2)) a j = a1 a j := by
          intro a j q
          by_cases c : a = 23
          · subst c
            rw [vup_eq, upd_ne (by omega), upd_ne (by omega)]
          · rw [vup_ne c, vup_ne c, vu_ne (by omega)]
        generalize va_up (va_up (va_up a1 24 (upd (a1 24) 8 (ii (-so)))) 23 (upd (a1 23) 4 1)) 23 (upd (upd (a1 23) 4 1) 4 2) = ta at hF c24 c23 cfr
        have hM2 : MP s2 ta E := (hM1.sI g2).sA (fun k => cfr 0 k (by omega))
        have hL2 : LL (ta 0) E = LL (sa 0) E := (LL_congr (fun k _ => cfr 0 k (by omega))).trans hL1
        obtain ⟨s3, a3, e3, g3, f3, m3⟩ := mname (nf := nf) (sj := sj) (sb := sb) hM2 hnf (w := 1) (by omega) at2 (by omega) b2
        rw [hL2] at m3
        have e3' : f_Mo_nameText nf 1 s2 sj ta sb = some (s3, sj, a3, sb) := e3
        rw [e3', Option.bind_some] at hF
        dsimp only at hF
        have G3 := G2.tr g3
        have F3 : ∀ a j, ¬ kH a j → a3 a j = sa a j := fun a j q => by
          rw [f3 a j (by unfold kH at q; unfold kN; omega), cfr a j (by unfold kH at q; omega)]
          exact f1' a j q
        have hM3 : MP s3 a3 E := (hM2.sI g3).sA (fun k => f3 0 k (by unfold kN; omega))
        have hL3 : LL (a3 0) E = LL (sa 0) E := (LL_congr (fun k _ => f3 0 k (by unfold kN; omega))).trans hL2
        have d24 : a3 24 8 = ii (-so) := (f3 24 8 (by unfold kN; omega)).trans c24
        have d23 : a3 23 4 = 2 := (f3 23 4 (by unfold kN; omega)).trans c23
        have d25 : a3 25 8 = ii (ss : Int) := ((f3 25 8 (by unfold kN; omega)).trans (cfr 25 8 (by omega))).trans n1
        have d26 : ∀ k, k < ss → a3 26 (80 + k) = ii (LL (sa 0) E (sp + k)) := fun k hk => ((f3 26 (80 + k) (by unfold kN; omega)).trans (cfr 26 (80 + k) (by omega))).trans (n2 k hk)
        -- a bad end
        have bad : ∀ (q : Nat → Int32) (x : Nat) (uo : Int32) (ta : Nat → Nat → Int32), sI4 si q → (∀ a j, ¬ kH a j → ta a j = sa a j) → q 34 = 1 → q 35 = ii (x : Int) → f_Mo_ruleText_147 nf ver uo 9 q sj ta sb = F → ∃ (fl : Int32) (si' : Nat → Int32) (sa' : Nat → Nat → Int32), F = some (fl, si', sj, sa', sb) ∧ sI4 si si' ∧ (∀ a j, ¬ kH a j → sa' a j = sa a j) ∧ fl = 0 ∧ si' 35 = ii (x : Int) := by
          intro q x uo ta h1 h2 h3 h4 hG
          obtain ⟨a4, e4, f4⟩ := m147B (nf := nf) (sj := sj) (sb := sb) (sa := ta) (by omega) h3 (ver := ver) (uo := uo)
          rw [e4] at hG
          refine ⟨0, q, a4, hG.symm, h1, fun a j z => ?_, rfl, h4⟩
          rw [f4 a j (by unfold kH at z; unfold kE; omega)]
          exact h2 a j z
        cases r3 : rname (LL (sa 0) E) p2 with
        | error x =>
          rw [r3] at m3
          rw [if_neg (show ¬ s3 34 = 0 by rw [m3.1]; decide)] at hF
          unfold f_Mo_ruleText_111 f_Mo_ruleText_112 at hF
          rw [if_pos rfl, show (8 : Int32).toNatClampNeg = 8 from rfl, if_neg n8] at hF
          exact bad s3 x _ a3 G3 F3 m3.1 m3.2 hF
        | ok q3 =>
          obtain ⟨up, us, p3⟩ := q3
          have k3 := rname_ok r3
          rw [r3] at m3
          obtain ⟨b3, at3, n3, n4'⟩ := m3
          dsimp only at at3 n3 n4' ⊢
          have hr3 := hM3.range p3
          rw [hL3] at hr3
          have lk := mlook (nf := nf) (sj := sj) (sb := sb) hM3 at3 (by omega)
          rw [hL3] at lk
          rw [if_pos b3, lk, Option.bind_some, Option.bind_some, Option.bind_some, mdig nf hr3.1 hr3.2, Option.bind_some] at hF
          -- the end
          have fin : ∀ (q : Nat → Int32) (uo : Int) (p4 : Nat), sI3 s3 q → q 34 = 0 → q 32 = ii (p4 : Int) → p4 ≤ E → rsoff (LL (sa 0) E) (-so) p3 = .ok (uo, p4) → f_Mo_ruleText_147 nf ver (ii uo) 9 q sj a3 sb = F → ∃ (fl : Int32) (si' : Nat → Int32) (sa' : Nat → Nat → Int32), F = some (fl, si', sj, sa', sb) ∧ sI4 si si' ∧ (∀ a j, ¬ kH a j → sa' a j = sa a j) ∧
              match (match rends (LL (sa 0) E) wide p4 E with | .error x => Except.error x | .ok (d1, t1, d2, t2, w) => Except.ok (sp, ss, -so, some (up, us, uo, d1, t1, d2, t2, w)) : Except Nat RT) with
              | .error x => fl = 0 ∧ si' 35 = ii (x : Int)
              | .ok r => fl = 1 ∧ mRule sa' (LL (sa 0) E) r := by
            intro q uo p4 h1 h2 h3 h4 h5 hG
            obtain ⟨fl, s5, a5, e5, g5, f5, m5⟩ := m147 (nf := nf) (sj := sj) (sb := sb) (hM3.sI h1) (by omega) h3 (by omega) h2 hv (uo := ii uo)
            rw [hL3] at m5
            refine ⟨fl, s5, a5, hG.symm.trans e5, (G3.tr h1).tr g5, fun a j z => ?_, ?_⟩
            · rw [f5 a j (by unfold kH at z; unfold kE; omega)]
              exact F3 a j z
            · cases r5 : rends (LL (sa 0) E) wide p4 E with
              | error x => rw [r5] at m5; exact m5
              | ok w5 =>
                obtain ⟨d1, t1, d2, t2, w⟩ := w5
                rw [r5] at m5
                obtain ⟨m6, m7, m8, m9⟩ := m5
                dsimp only at m8 m9 ⊢
                have z24 : a5 24 8 = ii (-so) := (f5 24 8 (by unfold kE; omega)).trans d24
                refine ⟨m6, (f5 25 8 (by unfold kE; omega)).trans d25, fun k hk => (f5 26 (80 + k) (by unfold kE; omega)).trans (d26 k hk), z24, (f5 23 4 (by unfold kE; omega)).trans d23, (f5 25 9 (by unfold kE; omega)).trans n3, fun k hk => (f5 26 (90 + k) (by unfold kE; omega)).trans (n4' k hk), m7, ?_, ?_⟩
                · exact ⟨m8.1, m8.2.1, m8.2.2.1, m8.2.2.2, z24⟩
                · exact ⟨m9.1, m9.2.1, m9.2.2.1, m9.2.2.2, m7⟩
          have told : (LL (sa 0) E p3 = 43 ∨ LL (sa 0) E p3 = 45 ∨ dig (LL (sa 0) E p3)) → f_Mo_ruleText_107 nf ver s3 sj a3 sb = F → ∃ (fl : Int32) (si' : Nat → Int32) (sa' : Nat → Nat → Int32), F = some (fl, si', sj, sa', sb) ∧ sI4 si si' ∧ (∀ a j, ¬ kH a j → sa' a j = sa a j) ∧
              match (match rsoff (LL (sa 0) E) (-so) p3 with | .error x => Except.error x | .ok (uo, p4) => match rends (LL (sa 0) E) wide p4 E with | .error x => Except.error x | .ok (d1, t1, d2, t2, w) => Except.ok (sp, ss, -so, some (up, us, uo, d1, t1, d2, t2, w)) : Except Nat RT) with
              | .error x => fl = 0 ∧ si' 35 = ii (x : Int)
              | .ok r => fl = 1 ∧ mRule sa' (LL (sa 0) E) r := by
            intro hc hG
            unfold f_Mo_ruleText_107 f_Mo_ruleText_112 at hG
            rw [if_neg (by decide)] at hG
            obtain ⟨v, s4, e4, g4, m4⟩ := moff (nf := nf) (sj := sj) (sb := sb) hM3 (by omega) at3 (by omega) b3 true (most := 24) (by omega) (by omega)
            rw [hL3] at m4
            have e4' : f_Mo_offsetText nf 1 24 s3 sj a3 sb = some (v, s4, sj, a3, sb) := e4
            rw [e4', Option.bind_some] at hG
            dsimp only at hG
            have hso : rsoff (LL (sa 0) E) (-so) p3 = match ramt (LL (sa 0) E) true 24 p3 with
                | .error x => .error x
                | .ok (v, _, q) => .ok (-v, q) := by
              unfold rsoff
              rw [if_pos hc]
              rfl
            cases r4 : ramt (LL (sa 0) E) true 24 p3 with
            | error x =>
              rw [r4] at m4 hso
              rw [hso]
              exact bad s4 x _ a3 (G3.tr g4) F3 m4.1 m4.2 hG
            | ok q4 =>
              obtain ⟨u, wf, p4⟩ := q4
              rw [r4] at m4 hso
              obtain ⟨b4, rfl, at4⟩ := m4
              dsimp only at at4 hso
              rw [ii_neg] at hG
              have := fin s4 (-u) p4 g4 b4 at4 (ramt_le r4) hso hG
              rw [hso]
              exact this
          have plain : ¬ (LL (sa 0) E p3 = 43 ∨ LL (sa 0) E p3 = 45 ∨ dig (LL (sa 0) E p3)) → f_Mo_ruleText_111 nf ver s3 sj a3 sb = F → ∃ (fl : Int32) (si' : Nat → Int32) (sa' : Nat → Nat → Int32), F = some (fl, si', sj, sa', sb) ∧ sI4 si si' ∧ (∀ a j, ¬ kH a j → sa' a j = sa a j) ∧
              match (match rsoff (LL (sa 0) E) (-so) p3 with | .error x => Except.error x | .ok (uo, p4) => match rends (LL (sa 0) E) wide p4 E with | .error x => Except.error x | .ok (d1, t1, d2, t2, w) => Except.ok (sp, ss, -so, some (up, us, uo, d1, t1, d2, t2, w)) : Except Nat RT) with
              | .error x => fl = 0 ∧ si' 35 = ii (x : Int)
              | .ok r => fl = 1 ∧ mRule sa' (LL (sa 0) E) r := by
            intro hc hG
            unfold f_Mo_ruleText_111 f_Mo_ruleText_112 at hG
            rw [if_pos rfl, show (8 : Int32).toNatClampNeg = 8 from rfl, if_neg n8, d24, show ii (-so) + 3600 = ii (-so + 3600) by rw [ii_lit, ii_add]] at hG
            have hso : rsoff (LL (sa 0) E) (-so) p3 = .ok (-so + 3600, p3) := by
              unfold rsoff
              rw [if_neg hc]
            have := fin s3 (-so + 3600) p3 sI3.rf b3 at3 k3.2.2.2.2.1 hso hG
            rw [hso]
            exact this
          by_cases c3 : LL (sa 0) E p3 = 43
          · rw [if_pos (by rw [c3]; rfl)] at hF
            exact told (Or.inl c3) hF
          · rw [if_neg (fun z => c3 (by rw [ii_lit, ii_eq2 (by omega) (by omega) (by omega) (by omega)] at z; exact z))] at hF
            by_cases c4 : LL (sa 0) E p3 = 45
            · rw [if_pos (by rw [c4]; rfl)] at hF
              exact told (Or.inr (Or.inl c4)) hF
            · rw [if_neg (fun z => c4 (by rw [ii_lit, ii_eq2 (by omega) (by omega) (by omega) (by omega)] at z; exact z))] at hF
              by_cases cd : dig (LL (sa 0) E p3)
              · rw [if_pos cd, if_neg (by decide)] at hF
                exact told (Or.inr (Or.inr cd)) hF
              · rw [if_neg cd, if_pos rfl] at hF
                exact plain (fun z => z.elim c3 (fun y => y.elim c4 cd)) hF
end
