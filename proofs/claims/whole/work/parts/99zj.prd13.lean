/-! ===== read: the footer, whole ===== -/
theorem zrul_read {z : ZS} {T : Nat → Int32} {sa1 sa' : Nat → Nat → Int32} {st E sp ss : Nat} {so : Int} {x : Option XT2} {wide : Bool} (hst : st < E) (er : rtext (LL T E) wide st E = .ok (sp, ss, so, x)) (hm : mRule sa1 (LL T E) (sp, ss, so, x)) (h22 : ∀ k, k < E - st → sa' 22 (512 + k) = T (st + k)) (hf : ∀ a j, 23 ≤ a → a ≤ 31 → sa' a j = sa1 a j) (r1 : z.2.2.2.2.2.2.2.2.2.2.2.2.2.2.2.2.2.2.2.2.2.2.2.1 = ii (ss : Int)) (r2 : z.2.2.2.2.2.2.2.2.2.2.2.2.2.2.2.2.2.2.2.2.2.2.1 = ii ((sp : Int) - (st : Int))) (r3 : z.2.2.2.2.2.2.2.2.2.2.2.2.2.2.2.2.2.2.2.2.1 = ii so) (r4 : z.2.2.2.2.2.2.2.2.2.2.2.2.2.2.2.2.2.2.2.2.2.2.2.2.2.2.1 = 0)
    (hx : match x with
    | none => z.2.2.2.2.2.2.2.2.2.2.2.2.2.2.2.2.2.2.1 = 0 ∧ z.2.2.2.2.2.2.2.2.2.2.2.2.2.2.2.2.2.2.2.1 = 0
    | some (up', us', uo', d1, t1, d2, t2, w) => z.2.2.2.2.2.2.2.2.2.2.2.2.2.2.2.2.2.2.1 = 1 ∧ z.2.2.2.2.2.2.2.2.2.2.2.2.2.2.2.2.2.2.2.1 = bI w ∧ z.2.2.2.2.2.2.2.2.2.2.2.2.2.2.2.2.2.2.2.2.2.1 = ii uo' ∧ z.2.2.2.2.2.2.2.2.2.2.2.2.2.2.2.2.2.2.2.2.2.2.2.2.1 = ii ((up' : Int) - (st : Int)) ∧ z.2.2.2.2.2.2.2.2.2.2.2.2.2.2.2.2.2.2.2.2.2.2.2.2.2.1 = ii (us' : Int) ∧ REc z.2.2.2.2.2.2.2.2.2.2.2.2.2.2.2.2.2.2.2.2.2.2.2.2.2.2.2.2.2.2.1 z.2.2.2.2.2.2.2.2.2.2.2.2.2.2.2.2.2.2.2.2.2.2.2.2.2.2.2.2.2.2.2.1 z.2.2.2.2.2.2.2.2.2.2.2.2.2.2.2.2.2.2.2.2.2.2.2.2.2.2.2.2.2.2.2.2.1 z.2.2.2.2.2.2.2.2.2.2.2.2.2.2.2.2.2.2.2.2.2.2.2.2.2.2.2.2.2.2.2.2.2.1 z.2.2.2.2.2.2.2.2.2.2.2.2.2.2.2.2.2.2.2.2.2.2.2.2.2.2.2.2.2.2.2.2.2.2.1 z.2.2.2.2.2.2.2.2.2.2.2.2.2.2.2.2.2.2.2.2.2.2.2.2.2.2.2.2.2.2.2.2.2.2.2.1 (bET so d1 t1) ∧ REc z.2.2.2.2.2.2.2.2.2.2.2.2.2.2.2.2.2.2.2.2.2.2.2.2.2.2.2.2.2.2.2.2.2.2.2.2.1 z.2.2.2.2.2.2.2.2.2.2.2.2.2.2.2.2.2.2.2.2.2.2.2.2.2.2.2.2.2.2.2.2.2.2.2.2.2.1 z.2.2.2.2.2.2.2.2.2.2.2.2.2.2.2.2.2.2.2.2.2.2.2.2.2.2.2.2.2.2.2.2.2.2.2.2.2.2.1 z.2.2.2.2.2.2.2.2.2.2.2.2.2.2.2.2.2.2.2.2.2.2.2.2.2.2.2.2.2.2.2.2.2.2.2.2.2.2.2.1 z.2.2.2.2.2.2.2.2.2.2.2.2.2.2.2.2.2.2.2.2.2.2.2.2.2.2.2.2.2.2.2.2.2.2.2.2.2.2.2.2.1 z.2.2.2.2.2.2.2.2.2.2.2.2.2.2.2.2.2.2.2.2.2.2.2.2.2.2.2.2.2.2.2.2.2.2.2.2.2.2.2.2.2 (bET uo' d2 t2)) : ZRul z sa' 4 (E - st) := by
  obtain ⟨l1, ⟨l2, l3, l4, l5, l6⟩, l7, l8, l9⟩ := rtext_ok er
  obtain ⟨q1, q2, q3, q4⟩ := hm
  obtain ⟨sp', x', e', hsp, hx'⟩ := rtext_own (by omega) er
  dsimp only at l2 l3 l4 l5 l6 l7 l8 l9 q1 q2 q3 q4
  have bts : ∀ (p s : Nat), p + s ≤ E → (∀ k, k < s → nmb (LL T E (p + k))) → ∀ k, k < s → ∃ v : Int, T (p + k) = ii v ∧ nmb v := fun p s hp hn k hk => ⟨LL T E (p + k), (LLv (by omega)).symm, hn k hk⟩
  have sub : ∀ a : Nat, ii (((st + a : Nat) : Int) - (st : Int)) = ii (a : Int) := fun a => by congr 1; omega
  have hLL : rtext (LL (fun k => sa' 22 (128 * 4 + k)) (E - st)) wide 0 (E - st) = .ok (sp', ss, so, x') := by
    rw [LL_congr (T := fun k => T (st + k)) (fun k hk => h22 k hk)]
    exact e'
  have zn0 : ZNam z.2.2.2.2.2.2.2.2.2.2.2.2.2.2.2.2.2.2.2.2.2.2.2.1 z.2.2.2.2.2.2.2.2.2.2.2.2.2.2.2.2.2.2.2.2.2.2.1 sa' 4 0 (E - st) ss sp' := by
    refine ⟨r1, by rw [r2, hsp, sub], l2, l3, by omega, ?_, fun k hk => ?_⟩
    · rw [hf 25 _ (by omega) (by omega)]
      exact q1
    · have e22 : sa' 22 (128 * 4 + (sp' + k)) = T (sp + k) := by
        rw [hsp, Nat.add_assoc]
        exact h22 (sp' + k) (by omega)
      rw [e22, hf 26 _ (by omega) (by omega)]
      exact ⟨(q2 k hk).trans (LLv (by omega)), bts sp ss l5 l6 k hk⟩
  refine Or.inr ⟨by omega, wide, sp', ss, so, x', hLL, zn0, r3, ?_, by omega, by omega, ?_⟩
  · rw [hf 24 _ (by omega) (by omega)]
    exact q3
  subst hx'
  match x', hx, q4, l9 with
  | none, ⟨g1, g2⟩, m1, _ => exact ⟨g1, (hf 23 4 (by omega) (by omega)).trans m1, g2⟩
  | some (up', us', uo', d1, t1, d2, t2, w), ⟨g1, g2, g3, g4, g5, g6, g7⟩, ⟨m1, m2, m3, m4, m5, m6⟩, ⟨⟨n1, n2, n3, n4, n5⟩, n6, n7, n8, n9⟩ =>
    dsimp only at g4 m3 n3 n4 n5
    refine ⟨g1, (hf 23 4 (by omega) (by omega)).trans m1, g2.trans (bI_w w), ⟨g5, by rw [g4, sub], n1, n2, by omega, ?_, fun k hk => ?_⟩, g3, ?_, n6, n7, g6, g7, ⟨m5.mv (fun a ha => hf a _ (by omega) (by omega)), m6.mv (fun a ha => hf a _ (by omega) (by omega)), n8, n9⟩, Or.inl r4⟩
    · rw [hf 25 _ (by omega) (by omega)]
      exact m2
    · have e22 : sa' 22 (128 * 4 + (up' + k)) = T (st + up' + k) := by
        rw [Nat.add_assoc st]
        exact h22 (up' + k) (by omega)
      rw [e22, hf 26 _ (by omega) (by omega)]
      exact ⟨(m3 k hk).trans (LLv (by omega)), bts (st + up') us' n4 n5 k hk⟩
    · rw [hf 24 _ (by omega) (by omega)]
      exact m4
section
variable {nf n : Nat} {s : Int32} {N : Nat} {A : Nat → Int32} {sj : Nat → Int64} {sb : Nat → Nat → Int64} {sa : Nat → Nat → Int32} {si : Nat → Int32}
theorem ftr (hnf : 10000 ≤ nf) (hP : RB s N A n (sa 0)) (hn : n ≤ 6000) {p : Nat} (h1 : si 1 = ii (n : Int)) (h32 : si 32 = ii (p : Int)) (hp : p ≤ n) {ver : Int32} (hv0 : ¬ ver = 0) (h38 : si 38 = ver) (fa pl fx : Int32) {r0 r1 r2 r3 r4 r5 r6 r7 r8 txS : Int32} {txN tn : Nat} {txA tT : Nat → Int32} (ht : RB txS txN txA tn tT) {b0 b1 b2 b3 b4 b5 c0 c1 c2 c3 c4 c5 : Int32} :
    FtO n fa pl txN (f_FP_readFooter nf fa pl (ii (p : Int)) fx s N A ver r0 r1 r2 r3 r4 r5 r6 r7 r8 txS txN txA b0 b1 b2 b3 b4 b5 c0 c1 c2 c3 c4 c5) (f_Mo_footer nf si sj sa sb) si sj sa sb := by
  have z4 : (4 : Int32).toNatClampNeg = 4 := rfl
  have n4 : ¬ ((4 : Int32) < 0 ∨ 5 ≤ 4) := by decide
  have e1 : ii (p : Int) + 1 = ii ((p + 1 : Nat) : Int) := iiS p
  obtain ⟨E, E1, E2, E3, E4⟩ := ftE (n := n) (sa 0) (n - p) (p + 1) (by omega)
  obtain ⟨wide, hw⟩ : ∃ wide : Bool, if wide then ver = 51 else ¬ ver = 51 := by
    by_cases c : ver = 51
    · exact ⟨true, c⟩
    · exact ⟨false, c⟩
  unfold f_FP_readFooter f_FP_readFooter_0 f_Mo_footer f_Mo_footer_0
  rw [show f_Rule_clear nf r0 r1 r2 r3 r4 r5 r6 r7 r8 txS = some (0, 0, 0, 0, 0, 0, 0, 0, 0, 0) from rfl, Option.bind_some]
  dsimp only
  rw [if_neg hv0, e1, h32, e1, cft29 hP hn E2 E3 (E - (p + 1)) (p + 1) nf (by omega) (by omega) E4, mft9 (nf := nf) (sj := sj) (sb := sb) h1 hn E2 E3 (E - (p + 1)) (p + 1) nf (by omega) (by omega) E4]
  unfold f_FP_readFooter_59 f_Mo_footer_34
  rw [h1, h32, e1]
  by_cases cE : E < n
  · obtain ⟨i1, i2⟩ := nidx (k := p) (m := 6000) (by omega) (by omega)
    rw [if_pos (show ii (E : Int) < s by rw [hP.1, ii_lt (by omega) (by omega) (by omega) (by omega)]; omega), if_pos (show ii (E : Int) < ii (n : Int) by rw [ii_lt (by omega) (by omega) (by omega) (by omega)]; omega), hP.get (k := p) (by omega), Option.bind_some, i1, if_neg i2]
    by_cases c10 : sa 0 p = 10
    · rw [if_pos c10, if_pos c10, z4, if_neg n4]
      have sel : (if ver = 51 then f_FP_readFooter_150 nf s N A (ii (E : Int)) 1 (ii (E : Int)) (ii ((p + 1 : Nat) : Int)) fa pl (ii (p : Int)) (ii ((p + 1 : Nat) : Int)) 0 0 0 0 0 0 0 0 0 0 txN txA b0 b1 b2 b3 b4 b5 c0 c1 c2 c3 c4 c5 else f_FP_readFooter_150 nf s N A (ii (E : Int)) 0 (ii (E : Int)) (ii ((p + 1 : Nat) : Int)) fa pl (ii (p : Int)) (ii ((p + 1 : Nat) : Int)) 0 0 0 0 0 0 0 0 0 0 txN txA b0 b1 b2 b3 b4 b5 c0 c1 c2 c3 c4 c5) = f_FP_readFooter_150 nf s N A (ii (E : Int)) (bI wide) (ii (E : Int)) (ii ((p + 1 : Nat) : Int)) fa pl (ii (p : Int)) (ii ((p + 1 : Nat) : Int)) 0 0 0 0 0 0 0 0 0 0 txN txA b0 b1 b2 b3 b4 b5 c0 c1 c2 c3 c4 c5 := by
        cases wide with
        | true => rw [if_pos (show ver = 51 from hw)]; rfl
        | false => rw [if_neg (show ¬ ver = 51 from hw)]; rfl
      rw [sel]
      have ini : f_RP_init nf (ii ((p + 1 : Nat) : Int)) (ii (E : Int)) (bI wide) = some (ii ((p + 1 : Nat) : Int), ii ((p + 1 : Nat) : Int), ii (E : Int), bI wide) := by
        unfold f_RP_init f_RP_init_0
        rw [if_pos (by cases wide <;> decide)]
      unfold f_FP_readFooter_150
      rw [ini, Option.bind_some]
      dsimp only
      obtain ⟨sI, hsI⟩ : ∃ sI : Nat → Int32, va_up (va_up si 32 (ii ((p + 1 : Nat) : Int))) 39 (ii ((p + 1 : Nat) : Int)) = sI := ⟨_, rfl⟩
      obtain ⟨sA, hsA⟩ : ∃ sA : Nat → Nat → Int32, va_up sa 23 (upd (sa 23) 4 0) = sA := ⟨_, rfl⟩
      have fI : ∀ k, k ≠ 32 → k ≠ 39 → sI k = si k := fun k a1 a2 => by rw [← hsI, vup_ne a2, vup_ne a1]
      have f39 : sI 39 = ii ((p + 1 : Nat) : Int) := by rw [← hsI, vup_eq]
      have fA : ∀ a j, ¬ (a = 23 ∧ j = 4) → sA a j = sa a j := fun a j h => by rw [← hsA, vu_ne h]
      have fA4 : sA 23 4 = 0 := by rw [← hsA, vu_eq]
      have fA0 : sA 0 = sa 0 := by rw [← hsA, vup_ne (by decide)]
      rw [hsI, hsA]
      clear hsI hsA sel ini
      by_cases cst : E = p + 1
      · -- no text
        subst cst
        have le : ii ((p + 1 : Nat) : Int) ≤ ii ((p + 1 : Nat) : Int) := iple (c := 0) (d := 0) (by omega) (by omega)
        have nlt : ¬ ii ((p + 1 : Nat) : Int) < ii ((p + 1 : Nat) : Int) := by rw [ii_lt (by omega) (by omega) (by omega) (by omega)]; omega
        have e0 : ii ((p + 1 : Nat) : Int) - ii ((p + 1 : Nat) : Int) = ii ((0 : Nat) : Int) := by rw [ii_sub]; congr 1; omega
        rw [if_pos le]
        unfold f_Mo_footer_136
        rw [z4, if_neg n4, e0]
        obtain ⟨sa', g1, g2, g3⟩ := mft148 (nf := nf) (si := sI) (sj := sj) (sb := sb) (st := p + 1) (E := p + 1) (by omega) (by omega) 0 (p + 1) nf (by omega) (by omega) (by omega) (va_up sA 11 (upd (sA 11) 4 (ii ((0 : Nat) : Int))))
        rw [g1]
        unfold f_RP_readText f_RP_readText_0
        rw [show f_Rule_clear nf 0 0 0 0 0 0 0 0 0 0 = some (0, 0, 0, 0, 0, 0, 0, 0, 0, 0) from rfl, Option.bind_some]
        dsimp only
        rw [if_neg nlt]
        refine Or.inl ⟨p + 1 + 1, p + 1, 0, 0, 0, 0, 0, 0, 0, 0, 0, 0, txN, txA, b0, b1, b2, b3, b4, b5, c0, c1, c2, c3, c4, c5, 0 + 0 + 1, 0 + 0 + 10, _, sa', ?_, rfl, by omega, vup_eq, (vup_ne (by decide)).trans f39, fun k a1 a2 a3 a4 a5 => by rw [vup_ne a1, fI k a1 a5], fun a j h => ?_, ?_, by omega, ht.clear _, by omega, by omega, fun z y1 y2 y3 y4 y5 y6 y7 y8 y9 y10 y11 y12 y13 y14 y15 y16 y17 y18 y19 y20 y21 => Or.inl ⟨rfl, ?_, y1, y2⟩⟩
        · rw [Option.bind_some]
          dsimp only
          rw [if_neg (show ¬ (1 : Int32) = 0 by decide), iiS]
          rfl
        · unfold kFt kH at h
          rw [g3 a j (by omega), vu_ne (by omega), fA a j (by omega)]
        · rw [g3 11 4 (by omega), vu_eq]
        · rw [g3 23 4 (by omega), vu_ne (by omega), fA4]
      · have nle : ¬ ii (E : Int) ≤ ii ((p + 1 : Nat) : Int) := inle (by omega) (by omega)
        have hPT : PT s N A (sa 0) E := ⟨n, hP, by omega, by omega⟩
        have hby : ∀ k, k < E → ∃ b : Nat, b < 256 ∧ sA 0 k = ii (b : Int) := fun k hk => by rw [fA0]; exact hP.byte (by omega)
        have rc := rtext_c (nf := nf) hPT (by omega) hnf wide (st := p + 1) (by omega) (np := 0) (ns := 0) (am := 0) (aw := 0) (v3 := 0) (v4 := 0) (v5 := 0) (v6 := 0) (v7 := 0) (v8 := 0) (v9 := 0) (v10 := 0) (v11 := 0) (ht.clear tT) (b0 := b0) (b1 := b1) (b2 := b2) (b3 := b3) (b4 := b4) (b5 := b5) (c0 := c0) (c1 := c1) (c2 := c2) (c3 := c3) (c4 := c4) (c5 := c5)
        have mr := mrule (nf := nf) (si := sI) (sj := sj) (sb := sb) (sa := sA) (E := E) (by omega) hby (st := p + 1) (by omega) (by omega) (wide := wide) (ver := ver) hw
        obtain ⟨fl, s1, a1, m1, m2, m3, m4⟩ := mr
        rw [if_neg nle, h38, m1, Option.bind_some]
        dsimp only
        rw [fA0] at m4
        cases er : rtext (LL (sa 0) E) wide (p + 1) E with
        | error x =>
          rw [er] at rc m4
          dsimp only at rc m4
          obtain ⟨w1, w2, w3, w4, k1, k2, k3, k4, k5, k6, k7, k8, k9, e1, e2, e3, e4, e5, e6, u1, u2, u3, u4, u5, u6, rc1⟩ := rc
          rw [rc1, Option.bind_some, m4.1, if_pos rfl]
          refine Or.inr ⟨15, ii (x : Int), _, _, _, _, _, _, _, _, _, _, _, 0, txN, txA, _, _, _, _, _, _, _, _, _, _, _, _, 0 + 0 + 1, 0 + 0 + 10, va_up (va_up s1 36 15) 2 (s1 35), a1, 0, tT, rfl, rfl, rfl, ?_, fun k b1 b2 b3 b4 b5 b6 b7 => by rw [vup_ne b7, vup_ne b6, m2 k b1 b2 b3 b4, fI k b1 b5], fun a j h => ?_, ht.clear tT, by omega, by omega⟩
          · rw [vup_eq]
            exact m4.2
          · unfold kFt at h
            rw [m3 a j (fun q => h (Or.inl q)), fA a j (fun q => h (Or.inl (Or.inl q)))]
        | ok rr =>
          obtain ⟨sp, ss, so, x⟩ := rr
          rw [er] at rc m4
          dsimp only at rc m4
          obtain ⟨po, w1, w2, w3, w4, has, wd, uo, up, us, N', A', e1, e2, e3, e4, e5, e6, u1, u2, u3, u4, u5, u6, kc, ks, rc1, rB, rk, rs, rx⟩ := rc
          obtain ⟨m4, m5⟩ := m4
          have l1 := (rtext_ok er).1
          have eq : ii (E : Int) - ii ((p + 1 : Nat) : Int) = ii ((E - (p + 1) : Nat) : Int) := by rw [ii_sub]; congr 1; omega
          rw [rc1, Option.bind_some, m4, if_neg (show ¬ (1 : Int32) = 0 by decide)]
          unfold f_Mo_footer_136
          rw [z4, if_neg n4, eq]
          obtain ⟨sa', g1, g2, g3⟩ := mft148 (nf := nf) (si := s1) (sj := sj) (sb := sb) (st := p + 1) (E := E) (by omega) (by omega) (E - (p + 1)) (p + 1) nf (by omega) (by omega) (by omega) (va_up a1 11 (upd (a1 11) 4 (ii ((E - (p + 1) : Nat) : Int))))
          rw [g1]
          have g22 : ∀ k, k < E - (p + 1) → sa' 22 (512 + k) = sa 0 (p + 1 + k) := fun k hk => by
            have := g2 (p + 1 + k) (by omega) (by omega)
            rw [show p + 1 + k - (p + 1) = k by omega, vup_ne (by decide)] at this
            rw [this, m3 0 _ (by unfold kH; omega), fA 0 _ (by omega)]
          have gH : ∀ a j, 23 ≤ a → a ≤ 31 → sa' a j = a1 a j := fun a j h1 h2 => by rw [g3 a j (by omega), vu_ne (by omega)]
          refine Or.inl ⟨E + 1, p + 1, E - (p + 1), has, wd, ii so, uo, ii ((sp : Int) - ((p + 1 : Nat) : Int)), ii (ss : Int), up, us, ii ((E - (p + 1) : Nat) : Int), N', A', e1, e2, e3, e4, e5, e6, u1, u2, u3, u4, u5, u6, 0 + kc + 1, 0 + ks + 10, _, sa', ?_, rfl, by omega, vup_eq, ?_, fun k b1 b2 b3 b4 b5 => by rw [vup_ne b1, m2 k b1 b2 b3 b4, fI k b1 b5], fun a j h => ?_, ?_, by omega, rB.T_congr (fun k hk => (g22 k hk).symm), by omega, by omega, fun z y1 y2 y3 y4 y5 y6 y7 y8 y9 y10 y11 y12 y13 y14 y15 y16 y17 y18 y19 y20 y21 => ?_⟩
          · dsimp only
            rw [iiS]
            rfl
          · rw [vup_ne (by decide), m2 39 (by decide) (by decide) (by decide) (by decide), f39]
          · unfold kFt at h
            rw [g3 a j (by omega), vu_ne (by omega), m3 a j (fun q => h (Or.inl q)), fA a j (fun q => h (Or.inl (Or.inl q)))]
          · rw [g3 11 4 (by omega), vu_eq]
          · refine zrul_read (by omega) er m5 g22 gH y6 y5 y3 y9 ?_
            match x, rx with
            | none, ⟨b1, b2⟩ => exact ⟨y1.trans b1, y2.trans b2⟩
            | some (up', us', uo', d1, t1, d2, t2, w), ⟨b1, b2, b3, b4, b5, b6, b7⟩ =>
              rw [y10, y11, y12, y13, y14, y15, y16, y17, y18, y19, y20, y21]
              exact ⟨y1.trans b1, y2.trans b2, y4.trans b3, y7.trans b4, y8.trans b5, b6, b7⟩
    · rw [if_neg c10, if_neg c10]
      exact Or.inr ⟨14, ii (p : Int), _, _, _, _, _, _, _, _, _, _, _, 0, txN, txA, _, _, _, _, _, _, _, _, _, _, _, _, 0, 0, va_up (va_up si 36 14) 2 (ii (p : Int)), sa, 0, tT, rfl, rfl, rfl, rfl, fun k b1 b2 b3 b4 b5 b6 b7 => by rw [vup_ne b7, vup_ne b6], fun _ _ _ => rfl, ht.clear tT, by omega, by omega⟩
  · rw [if_neg (show ¬ ii (E : Int) < s by rw [hP.1, ii_lt (by omega) (by omega) (by omega) (by omega)]; omega), if_neg (show ¬ ii (E : Int) < ii (n : Int) by rw [ii_lt (by omega) (by omega) (by omega) (by omega)]; omega)]
    exact Or.inr ⟨1, s, _, _, _, _, _, _, _, _, _, _, _, 0, txN, txA, _, _, _, _, _, _, _, _, _, _, _, _, 0, 0, va_up (va_up si 36 1) 2 (ii (n : Int)), sa, 0, tT, rfl, rfl, rfl, hP.1.symm, fun k b1 b2 b3 b4 b5 b6 b7 => by rw [vup_ne b7, vup_ne b6], fun _ _ _ => rfl, ht.clear tT, by omega, by omega⟩
end
