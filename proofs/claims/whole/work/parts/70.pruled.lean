/-! ===== the class reads a rule text: edges, the whole ===== -/
section
variable {nf : Nat} {s : Int32} {N : Nat} {A T : Nat → Int32} {E : Nat}
theorem redge_c (h : PT s N A T E) (hE : E ≤ 9000) (hnf : 11 ≤ nf) (wide rw : Bool) {p : Nat} (hp : p ≤ 9000) {am aw k m w d t : Int32} : match redge (LL T E) wide p with
    | .error x => ∃ a1 a2 a3 a4 a5 a6 a7 a8 : Int32, f_RP_readEdge nf (ii (p : Int)) (ii (E : Int)) (bI wide) am aw s N A (bI rw) k m w d t = some (0, ii (x : Int), a1, a2, a3, a4, a5, a6, a7, a8)
    | .ok ((kk, a, b, c), tm, wf, q) => ∃ a1 a2 m' w' d' : Int32, f_RP_readEdge nf (ii (p : Int)) (ii (E : Int)) (bI wide) am aw s N A (bI rw) k m w d t = some (1, ii (q : Int), a1, a2, bI (rw || wf), ii kk, m', w', d', ii tm) ∧ (kk = 2 → m' = ii a ∧ w' = ii b ∧ d' = ii c) ∧ (kk ≠ 2 → d' = ii a) := by
  generalize hF : f_RP_readEdge nf (ii (p : Int)) (ii (E : Int)) (bI wide) am aw s N A (bI rw) k m w d t = F
  unfold f_RP_readEdge f_RP_readEdge_0 f_RP_readEdge_17 at hF
  rw [show (44 : Int32) = ii 44 from rfl] at hF
  unfold redge
  by_cases c0 : LL T E p = 44
  · have l0 := LL_lt (T := T) (E := E) (k := p) (by omega)
    rw [if_pos c0]
    rw [pass_y h (by omega) (by omega) (by omega) c0, Option.bind_some] at hF
    dsimp only at hF
    rw [if_neg (by decide)] at hF
    have hd := rday_c (nf := nf) h hE hnf (p := p + 1) (by omega) (k := k) (m := m) (w := w) (d := d)
    cases e1 : rday (LL T E) (p + 1) with
    | error x =>
      rw [e1] at hd
      obtain ⟨k', m', w', d', e⟩ := hd
      rw [e, Option.bind_some] at hF
      dsimp only at hF ⊢
      rw [if_pos rfl] at hF
      exact ⟨_, _, _, _, _, _, _, _, hF.symm⟩
    | ok q1 =>
      obtain ⟨⟨kk, a, b, c⟩, p2⟩ := q1
      have k1 := rday_ok e1
      rw [e1] at hd
      obtain ⟨m', w', d', e, e2, e3⟩ := hd
      rw [e, Option.bind_some] at hF
      dsimp only at hF ⊢
      rw [if_neg (by decide), h.peek (by omega), Option.bind_some] at hF
      have hr := h.range p2
      by_cases c1 : LL T E p2 = 47
      · have l1 := LL_lt (T := T) (E := E) (k := p2) (by omega)
        rw [if_pos c1]
        rw [if_pos (by rw [c1]; rfl)] at hF
        have hF2 : f_RP_readEdge_67 nf (ii (E : Int)) s N A (ii (if wide then 167 else 24)) (bI wide) (ii ((p2 + 1 : Nat) : Int)) am aw (bI rw) (ii kk) m' w' d' 7200 = F := by
          rw [← hF, show ii (p2 : Int) + 1 = ii ((p2 + 1 : Nat) : Int) by rw [ii_lit, ii_add]; rfl]
          cases wide
          · rw [if_pos (show bI false = 0 from rfl)]; rfl
          · rw [if_neg (show ¬ bI true = 0 by decide)]; rfl
        clear hF
        unfold f_RP_readEdge_67 at hF2
        have ha := ramt_c (nf := nf) h hE hnf wide (most := if wide then 167 else 24) (by split <;> omega) (by split <;> omega) (p := p2 + 1) (by omega) (am := am) (aw := aw)
        cases e4 : ramt (LL T E) wide (if wide then 167 else 24) (p2 + 1) with
        | error x =>
          rw [e4] at ha
          obtain ⟨x1, x2, e5⟩ := ha
          rw [e5, Option.bind_some] at hF2
          dsimp only at hF2 ⊢
          rw [if_pos rfl] at hF2
          exact ⟨_, _, _, _, _, _, _, _, hF2.symm⟩
        | ok q4 =>
          obtain ⟨v, wf, p3⟩ := q4
          rw [e4] at ha
          dsimp only at ha ⊢
          rw [ha, Option.bind_some] at hF2
          dsimp only at hF2
          rw [if_neg (by decide)] at hF2
          unfold f_RP_readEdge_104 f_RP_readEdge_109 at hF2
          cases rw
          · rw [if_pos (by decide)] at hF2
            cases wf
            · rw [if_pos (by decide), if_pos (by decide)] at hF2
              exact ⟨_, _, _, _, _, hF2.symm, e2, e3⟩
            · rw [if_neg (by decide), if_pos (by decide)] at hF2
              exact ⟨_, _, _, _, _, hF2.symm, e2, e3⟩
          · rw [if_neg (by decide), if_pos (by decide)] at hF2
            exact ⟨_, _, _, _, _, hF2.symm, e2, e3⟩
      · rw [if_neg c1]
        rw [if_neg (fun z => c1 (by rw [ii_lit, ii_eq2 (by omega) (by omega) (by omega) (by omega)] at z; exact z))] at hF
        dsimp only
        rw [show (rw || false) = rw from Bool.or_false rw]
        exact ⟨_, _, _, _, _, hF.symm, e2, e3⟩
  · rw [if_neg c0]
    rw [pass_n h (by omega) (by omega) (by omega) c0, Option.bind_some] at hF
    dsimp only at hF
    rw [if_pos rfl] at hF
    exact ⟨_, _, _, _, _, _, _, _, hF.symm⟩
theorem redge_ok {wide : Bool} {k a b c tm : Int} {wf : Bool} {p q : Nat} (h : redge (LL T E) wide p = .ok ((k, a, b, c), tm, wf, q)) : q ≤ E ∧ p < q ∧ (k = 0 ∧ 1 ≤ a ∧ a ≤ 365 ∨ k = 1 ∧ 0 ≤ a ∧ a ≤ 365 ∨ k = 2 ∧ 1 ≤ a ∧ a ≤ 12 ∧ 1 ≤ b ∧ b ≤ 5 ∧ 0 ≤ c ∧ c ≤ 6) ∧ -700000 ≤ tm ∧ tm ≤ 700000 := by
  unfold redge at h
  split at h
  · cases e1 : rday (LL T E) (p + 1) with
    | error x => rw [e1] at h; cases h
    | ok q1 =>
      obtain ⟨⟨k', a', b', c'⟩, p2⟩ := q1
      have k1 := rday_ok e1
      rw [e1] at h
      dsimp only at h
      split at h
      · cases e2 : ramt (LL T E) wide (if wide then 167 else 24) (p2 + 1) with
        | error x => rw [e2] at h; cases h
        | ok q2 =>
          obtain ⟨v, w', p3⟩ := q2
          have k2 := ramt_ok e2
          have k2' := ramt_le e2
          rw [e2] at h
          cases h
          have hm : (if wide = true then (167 : Int) else 24) ≤ 167 := by split <;> omega
          exact ⟨k2', by omega, k1.2.2, by omega, by omega⟩
      · cases h
        exact ⟨k1.1, by omega, k1.2.2, by omega, by omega⟩
  · cases h
theorem rname_ok {p pl sz q : Nat} (h : rname (LL T E) p = .ok (pl, sz, q)) : 3 ≤ sz ∧ sz ≤ 10 ∧ p ≤ pl ∧ pl + sz ≤ q ∧ q ≤ E ∧ (∀ k, k < sz → nmb (LL T E (pl + k))) := by
  unfold rname at h
  split at h
  · have hle := cntq_le true (LL T E) 11 (p + 1)
    have hall := cntq_all true (LL T E) 11 (p + 1)
    generalize cntq true (LL T E) 11 (p + 1) = c11 at h hle hall
    split at h
    · cases h
    · split at h
      · cases h
      · split at h
        · cases h
          rename_i c62
          have l := LL_lt (T := T) (E := E) (k := p + 1 + sz) (by omega)
          exact ⟨by omega, by omega, by omega, by omega, by omega, fun k hk => hall k hk⟩
        · cases h
  · have hle := cntq_le false (LL T E) 11 p
    have hall := cntq_all false (LL T E) 11 p
    generalize cntq false (LL T E) 11 p = c11 at h hle hall
    split at h
    · cases h
    · split at h
      · cases h
      · cases h
        have l0 := hall (sz - 1) (by omega)
        have l0' : ltr (LL T E (p + (sz - 1))) := l0
        have l := LL_lt (T := T) (E := E) (k := p + (sz - 1)) (by omega)
        refine ⟨by omega, by omega, by omega, by omega, by omega, fun k hk => ?_⟩
        have l1 : ltr (LL T E (p + k)) := hall k hk
        omega
theorem rstd_c (h : PT s N A T E) (hE : E ≤ 9000) (hnf : 11 ≤ nf) {p st : Nat} (hp : p ≤ 9000) {np ns am aw so sp ss : Int32} : match rname (LL T E) p with
    | .error x => ∃ a1 a2 a3 a4 a5 a6 a7 : Int32, f_RP_readStandard nf (ii (p : Int)) (ii (st : Int)) (ii (E : Int)) np ns am aw s N A so sp ss = some (0, ii (x : Int), a1, a2, a3, a4, a5, a6, a7)
    | .ok (pl, sz, p1) => match ramt (LL T E) true 24 p1 with
      | .error x => ∃ a1 a2 a3 a4 a5 a6 a7 : Int32, f_RP_readStandard nf (ii (p : Int)) (ii (st : Int)) (ii (E : Int)) np ns am aw s N A so sp ss = some (0, ii (x : Int), a1, a2, a3, a4, a5, a6, a7)
      | .ok (v, _, q) => ∃ a1 a2 a3 a4 : Int32, f_RP_readStandard nf (ii (p : Int)) (ii (st : Int)) (ii (E : Int)) np ns am aw s N A so sp ss = some (1, ii (q : Int), a1, a2, a3, a4, ii (-v), ii ((pl : Int) - (st : Int)), ii (sz : Int)) := by
  generalize hF : f_RP_readStandard nf (ii (p : Int)) (ii (st : Int)) (ii (E : Int)) np ns am aw s N A so sp ss = F
  unfold f_RP_readStandard f_RP_readStandard_0 f_RP_readStandard_17 at hF
  have hn := rname_c (nf := nf) h hnf (p := p) (by omega) (np := np) (ns := ns)
  cases e1 : rname (LL T E) p with
  | error x =>
    rw [e1] at hn
    obtain ⟨a, b, e⟩ := hn
    rw [e, Option.bind_some] at hF
    dsimp only at hF ⊢
    rw [if_pos rfl] at hF
    exact ⟨_, _, _, _, _, _, _, hF.symm⟩
  | ok q1 =>
    obtain ⟨pl, sz, p1⟩ := q1
    have k1 := rname_ok e1
    rw [e1] at hn
    dsimp only at hn ⊢
    rw [hn, Option.bind_some] at hF
    dsimp only at hF
    rw [if_neg (by decide)] at hF
    have ha := ramt_c (nf := nf) h hE hnf true (most := 24) (by omega) (by omega) (p := p1) (by omega) (am := am) (aw := aw)
    rw [show bI true = 1 from rfl, show ii 24 = 24 from rfl] at ha
    cases e2 : ramt (LL T E) true 24 p1 with
    | error x =>
      rw [e2] at ha
      obtain ⟨a, b, e⟩ := ha
      rw [e, Option.bind_some] at hF
      dsimp only at hF ⊢
      rw [if_pos rfl] at hF
      exact ⟨_, _, _, _, _, _, _, hF.symm⟩
    | ok q2 =>
      obtain ⟨v, wf, q⟩ := q2
      rw [e2] at ha
      dsimp only at ha ⊢
      rw [ha, Option.bind_some] at hF
      dsimp only at hF
      rw [if_neg (by decide), ii_neg, ii_sub] at hF
      exact ⟨_, _, _, _, hF.symm⟩
theorem rsum_c (h : PT s N A T E) (hE : E ≤ 9000) (hnf : 11 ≤ nf) {p st : Nat} (hp : p ≤ 9000) {np ns am aw uo up us : Int32} {so : Int} : match rname (LL T E) p with
    | .error x => ∃ a1 a2 a3 a4 a5 a6 a7 : Int32, f_RP_readSummer nf (ii (p : Int)) (ii (st : Int)) (ii (E : Int)) np ns am aw s N A (ii so) uo up us = some (0, ii (x : Int), a1, a2, a3, a4, a5, a6, a7)
    | .ok (pl, sz, p1) => match rsoff (LL T E) so p1 with
      | .error x => ∃ a1 a2 a3 a4 a5 a6 a7 : Int32, f_RP_readSummer nf (ii (p : Int)) (ii (st : Int)) (ii (E : Int)) np ns am aw s N A (ii so) uo up us = some (0, ii (x : Int), a1, a2, a3, a4, a5, a6, a7)
      | .ok (v, q) => (∃ a1 a2 a3 a4 : Int32, f_RP_readSummer nf (ii (p : Int)) (ii (st : Int)) (ii (E : Int)) np ns am aw s N A (ii so) uo up us = some (1, ii (q : Int), a1, a2, a3, a4, ii v, ii ((pl : Int) - (st : Int)), ii (sz : Int))) ∨ (q = p1 ∧ LL T E p1 ≠ 44 ∧ ∃ a1 a2 a3 a4 a5 a6 a7 : Int32, f_RP_readSummer nf (ii (p : Int)) (ii (st : Int)) (ii (E : Int)) np ns am aw s N A (ii so) uo up us = some (0, ii (p1 : Int), a1, a2, a3, a4, a5, a6, a7)) := by
  generalize hF : f_RP_readSummer nf (ii (p : Int)) (ii (st : Int)) (ii (E : Int)) np ns am aw s N A (ii so) uo up us = F
  unfold f_RP_readSummer f_RP_readSummer_0 at hF
  have hn := rname_c (nf := nf) h hnf (p := p) (by omega) (np := np) (ns := ns)
  cases e1 : rname (LL T E) p with
  | error x =>
    rw [e1] at hn
    obtain ⟨a, b, e⟩ := hn
    rw [e, Option.bind_some] at hF
    dsimp only at hF ⊢
    rw [if_pos rfl] at hF
    exact ⟨_, _, _, _, _, _, _, hF.symm⟩
  | ok q1 =>
    obtain ⟨pl, sz, p1⟩ := q1
    have k1 := rname_ok e1
    have hr := h.range p1
    rw [e1] at hn
    dsimp only at hn ⊢
    rw [hn, Option.bind_some] at hF
    dsimp only at hF
    rw [if_neg (by decide), h.peek (by omega), Option.bind_some, Option.bind_some, Option.bind_some, csgn nf hr.1 hr.2, Option.bind_some, cdig nf hr.1 hr.2, Option.bind_some] at hF
    rw [show ii so + 3600 = ii (so + 3600) by rw [ii_lit, ii_add], ii_sub] at hF
    have amt : (LL T E p1 = 43 ∨ LL T E p1 = 45 ∨ dig (LL T E p1)) → f_RP_readSummer_85 nf (ii (E : Int)) s N A (ii (p1 : Int)) (ii (pl : Int)) (ii (sz : Int)) am aw (ii (so + 3600)) (ii ((pl : Int) - (st : Int))) (ii (sz : Int)) = F → match rsoff (LL T E) so p1 with
      | .error x => ∃ a1 a2 a3 a4 a5 a6 a7 : Int32, F = some (0, ii (x : Int), a1, a2, a3, a4, a5, a6, a7)
      | .ok (v, q) => (∃ a1 a2 a3 a4 : Int32, F = some (1, ii (q : Int), a1, a2, a3, a4, ii v, ii ((pl : Int) - (st : Int)), ii (sz : Int))) ∨ (q = p1 ∧ LL T E p1 ≠ 44 ∧ ∃ a1 a2 a3 a4 a5 a6 a7 : Int32, F = some (0, ii (p1 : Int), a1, a2, a3, a4, a5, a6, a7)) := by
      intro hc hG
      unfold f_RP_readSummer_85 f_RP_readSummer_90 f_RP_readSummer_115 at hG
      rw [if_neg (by decide)] at hG
      unfold rsoff
      rw [if_pos hc]
      have ha := ramt_c (nf := nf) h hE hnf true (most := 24) (by omega) (by omega) (p := p1) (by omega) (am := am) (aw := aw)
      rw [show bI true = 1 from rfl, show ii 24 = 24 from rfl] at ha
      cases e2 : ramt (LL T E) true 24 p1 with
      | error x =>
        rw [e2] at ha
        obtain ⟨a', b', e⟩ := ha
        rw [e, Option.bind_some] at hG
        dsimp only at hG ⊢
        rw [if_pos (by decide)] at hG
        exact ⟨_, _, _, _, _, _, _, hG.symm⟩
      | ok q2 =>
        obtain ⟨v, wf, q⟩ := q2
        rw [e2] at ha
        dsimp only at ha ⊢
        rw [ha, Option.bind_some] at hG
        dsimp only at hG
        rw [if_pos (by decide), ii_neg] at hG
        exact Or.inl ⟨_, _, _, _, hG.symm⟩
    by_cases c4 : LL T E p1 = 44
    · rw [if_pos (by rw [c4]; rfl)] at hF
      unfold rsoff
      rw [if_neg (by omega)]
      exact Or.inl ⟨_, _, _, _, hF.symm⟩
    · rw [if_neg (fun z => c4 (by rw [ii_lit, ii_eq2 (by omega) (by omega) (by omega) (by omega)] at z; exact z))] at hF
      by_cases cs : LL T E p1 = 43 ∨ LL T E p1 = 45
      · rw [if_pos cs, if_neg (by decide)] at hF
        exact amt (by omega) hF
      · rw [if_neg cs, if_pos rfl] at hF
        by_cases cd : dig (LL T E p1)
        · rw [if_pos cd, if_neg (by decide)] at hF
          exact amt (by omega) hF
        · rw [if_neg cd, if_pos rfl] at hF
          unfold f_RP_readSummer_90 f_RP_readSummer_115 at hF
          unfold rsoff
          rw [if_neg (by omega)]
          rw [if_pos (by decide), if_pos (by decide)] at hF
          exact Or.inr ⟨rfl, c4, _, _, _, _, _, _, _, hF.symm⟩
end
/-! putting a part of a row behind another -/
theorem RB.putAll {nf : Nat} {s os : Int32} {N oN n m : Nat} {A oA T oT : Nat → Int32} (ho : RB os oN oA m oT) : ∀ (j a : Nat), ∀ {s : Int32} {N n : Nat} {A T : Nat → Int32} {fu : Nat}, RB s N A n T → n + j ≤ 20000 → a + j ≤ m → j < fu →
    ∃ N' A' kc ks, f_By_putAll_3 nf os oN oA fu (ii (a : Int)) (ii ((a + j : Nat) : Int)) s N A = some ((ii ((n + j : Nat) : Int), N', A'), kc, ks) ∧ RB (ii ((n + j : Nat) : Int)) N' A' (n + j) (fun k => if k < n then T k else oT (a + (k - n))) ∧ kc + N ≤ N' ∧ ks + 2 * N ≤ 2 * N' := by
  intro j
  induction j with
  | zero =>
    intro a s N n A T fu h hn hm hf
    obtain ⟨f, rfl⟩ : ∃ f, fu = f + 1 := ⟨fu - 1, by omega⟩
    have hc := ho.2.2.2.1
    have hm2 := ho.2.1
    rw [f_By_putAll_3, if_pos ((ii_le (by omega) (by omega) (by omega) (by omega)).mpr (by omega))]
    refine ⟨N, A, 0, 0, ?_, ?_, by omega, by omega⟩
    · rw [h.1]; rfl
    · have e := h.1
      refine RB.T_congr (T := T) ?_ (fun k hk => by rw [if_pos (by omega)])
      rw [← show s = ii ((n + 0 : Nat) : Int) from e]
      exact h
  | succ j ih =>
    intro a s N n A T fu h hn hm hf
    obtain ⟨f, rfl⟩ : ∃ f, fu = f + 1 := ⟨fu - 1, by omega⟩
    have hc := ho.2.2.2.1
    have hm2 := ho.2.1
    obtain ⟨N1, A1, k1, s1, e1, r1, c1, d1⟩ := h.put (nf := nf) (by omega) (oT a)
    obtain ⟨b, hb, eb⟩ := ho.byte (k := a) (by omega)
    have emask : oT a &&& 255 = oT a := by
      rw [eb]
      have : ∀ b : Fin 256, (ii (b.val : Int)) &&& 255 = ii (b.val : Int) := by decide +kernel
      exact this ⟨b, hb⟩
    obtain ⟨N2, A2, k2, s2, e2, r2, c2, d2⟩ := ih (a + 1) (fu := f) r1 (by omega) (by omega) (by omega)
    rw [f_By_putAll_3, if_neg (by rw [ii_le (by omega) (by omega) (by omega) (by omega)]; omega), ho.get (by omega), Option.bind_some, e1, Option.bind_some]
    dsimp only
    rw [ii_lit, ii_add, show ii ((a : Int) + 1) = ii ((a + 1 : Nat) : Int) from rfl, show a + (j + 1) = a + 1 + j by omega, e2]
    refine ⟨N2, A2, k2 + k1, s2 + s1, ?_, ?_, by omega, by omega⟩
    · rw [show n + (j + 1) = n + 1 + j by omega]
      rfl
    · rw [show n + (j + 1) = n + 1 + j by omega]
      refine r2.T_congr (fun k hk => ?_)
      unfold upd
      by_cases q1 : k < n
      · rw [if_pos (by omega), if_neg (by omega), if_pos q1]
      · rw [if_neg q1]
        by_cases q2 : k = n
        · rw [if_pos (by omega), if_pos q2, emask, q2, Nat.sub_self]
          rfl
        · rw [if_neg (by omega), show a + 1 + (k - (n + 1)) = a + (k - n) by omega]
