/-! ===== table: a line, all lines, the end ===== -/
section
variable {nf n : Nat} {s : Int32} {N : Nat} {A : Nat → Int32} {sa : Nat → Nat → Int32}
theorem tfin {hb cn : Int32} {ex : Int64} {TI AH : Nat → Int64} {si si1 : Nat → Int32} {sj : Nat → Int64} {sb : Nat → Nat → Int64} {p p1 c : Nat} {h : Bool} {tv av : Nat → Int} {x : Int} (fa pl : Int32) (hJ : TJ (ii (p : Int)) hb cn ex TI AH si sj sb n p c h tv av x) (h1 : p ≤ p1) (fI : ∀ k, k ≠ 32 → si1 k = si k) :
    TOut n p fa pl (if LL (sa 0) n p1 = 10 then some (1, fa, pl, ii ((p1 + 1 : Nat) : Int), hb, cn, ex, TI, AH) else some (0, 1, ii (p1 : Int), ii (p1 : Int), hb, cn, ex, TI, AH)) (if LL (sa 0) n p1 = 10 then some (1, va_up si1 32 (ii ((p1 + 1 : Nat) : Int)), sj, sa, sb) else some (0, va_up (va_up si1 36 1) 2 (ii (p1 : Int)), sj, sa, sb)) si sj sa sb := by
  by_cases cl : LL (sa 0) n p1 = 10
  · have lt : p1 < n := LL_lt (T := sa 0) (E := n) (k := p1) (by omega)
    rw [if_pos cl, if_pos cl]
    have fI' : ∀ k, k ≠ 32 → va_up si1 32 (ii ((p1 + 1 : Nat) : Int)) k = si k := fun k hk => (vup_ne hk).trans (fI k hk)
    exact Or.inl ⟨_, hb, cn, ex, TI, AH, _, sj, sb, p1 + 1, c, h, tv, av, x, rfl, rfl, hJ.mov (p' := p1 + 1) (si' := va_up si1 32 (ii ((p1 + 1 : Nat) : Int))) (sj' := sj) rfl fI' (fun _ _ => rfl), by omega, by omega, TF.mov fI' (fun _ _ => rfl), fI' 2 (by decide), fI' 36 (by decide)⟩
  · rw [if_neg cl, if_neg cl]
    exact Or.inr ⟨1, ii (p1 : Int), _, _, _, _, _, _, _, sj, sb, rfl, rfl, rfl, rfl, TF.flt (fun k h1 h2 h3 => by rw [vup_ne h3, vup_ne h2]; exact fI k h1) (fun _ _ => rfl)⟩
theorem tline (hnf : 10000 ≤ nf) (hP : RB s N A n (sa 0)) (hn : n ≤ 6000) {hb cn : Int32} {ex : Int64} {TI AH : Nat → Int64} {si : Nat → Int32} {sj : Nat → Int64} {sb : Nat → Nat → Int64} {p c : Nat} {h : Bool} {tv av : Nat → Int} {x : Int} (fa pl : Int32) (hJ : TJ (ii (p : Int)) hb cn ex TI AH si sj sb n p c h tv av x) (hp : p < n) :
    TOut n p fa pl (f_TP_readLine nf fa pl (ii (p : Int)) hb s N A cn ex TI AH) (f_Mo_line nf si sj sa sb) si sj sa sb := by
  obtain ⟨⟨_, j2, j3, _⟩, _⟩ := id hJ
  have hr := LL_range (k := p) (fun k hk => hP.byte (k := k) hk)
  generalize hC : f_TP_readLine nf fa pl (ii (p : Int)) hb s N A cn ex TI AH = C
  generalize hQ : f_Mo_line nf si sj sa sb = Q
  unfold f_TP_readLine f_TP_readLine_0 at hC
  unfold f_Mo_line f_Mo_line_0 at hQ
  rw [tget hP hn (by omega), Option.bind_some] at hC
  rw [mlook (tMP hP hn j3) j2 (by omega), Option.bind_some] at hQ
  by_cases c35 : LL (sa 0) n p = 35
  · have ee : ii (LL (sa 0) n p) = 35 := by rw [c35]; rfl
    rw [if_pos ee] at hC hQ
    obtain ⟨p1, si1, e1, e2, e3, e4, e5, e6⟩ := tremark (nf := nf) (sj := sj) (sb := sb) hnf hP hn (show p ≤ n by omega) j3 j2
    have fin := tfin (sa := sa) (p1 := p1) fa pl hJ e1 e6
    have remQ : f_Mo_line_47 nf si sj sa sb = if LL (sa 0) n p1 = 10 then some (1, va_up si1 32 (ii ((p1 + 1 : Nat) : Int)), sj, sa, sb) else some (0, va_up (va_up si1 36 1) 2 (ii (p1 : Int)), sj, sa, sb) := by
      unfold f_Mo_line_47
      rw [e4]
      by_cases cl : LL (sa 0) n p1 = 10
      · rw [if_pos cl]
        rfl
      · rw [if_neg cl]
        rfl
    rw [iiS, tget hP hn (by omega), Option.bind_some] at hC
    rw [j3, j2, iiS] at hQ
    have noExp : ∀ C', ((f_TP_skipToLineEnd nf (ii (p : Int)) s N A).bind fun z_27 => (f_TP_passLineEnd nf fa pl z_27 s N A).bind fun (z_30, z_31, z_32, z_33) => if z_30 = 0 ∨ z_30 = 1 then some (z_30, z_31, z_32, z_33, hb, cn, ex, TI, AH) else none) = C' → C' = if LL (sa 0) n p1 = 10 then some (1, fa, pl, ii ((p1 + 1 : Nat) : Int), hb, cn, ex, TI, AH) else some (0, 1, ii (p1 : Int), ii (p1 : Int), hb, cn, ex, TI, AH) := by
      intro C' h'
      rw [← h', e3, Option.bind_some, clend hP hn e2]
      by_cases cl : LL (sa 0) n p1 = 10
      · rw [if_pos cl, if_pos cl]
        rfl
      · rw [if_neg cl, if_neg cl]
        rfl
    by_cases c1 : p + 1 < n
    · obtain ⟨i1, i2⟩ := nidx (k := p + 1) (m := 6000) (by omega) (by omega)
      have hr1 := LL_range (k := p + 1) (fun k hk => hP.byte (k := k) hk)
      rw [if_neg (inle c1 (by omega)), i1, if_neg i2, ← LLv (T := sa 0) c1] at hQ
      by_cases c64 : LL (sa 0) n (p + 1) = 64
      · have e64 : ii (LL (sa 0) n (p + 1)) = 64 := by rw [c64]; rfl
        rw [if_pos e64] at hC hQ
        rcases texp hnf hP hn fa pl hJ (show p + 2 ≤ n by omega) with ⟨ex', si', sj', p', x', g1, g2, g3, g4, g5, g6, g7, g8⟩ | ⟨f, q, po, hb', ex', si', sj', g1, g2, g3, g4, g5⟩
        · rw [g1, Option.bind_some] at hC
          rw [g2, Option.bind_some] at hQ
          dsimp only at hC hQ
          rw [if_pos (show (1 : Int32) = 0 ∨ (1 : Int32) = 1 from Or.inr rfl)] at hC
          exact Or.inl ⟨_, 1, cn, ex', TI, AH, si', sj', sb, p', c, true, tv, av, x', hC.symm, hQ.symm.trans rfl, g3, g4, g5, g6, g7, g8⟩
        · rw [g1, Option.bind_some] at hC
          rw [g2, Option.bind_some] at hQ
          dsimp only at hC hQ
          rw [if_pos (show (0 : Int32) = 0 ∨ (0 : Int32) = 1 from Or.inl rfl)] at hC
          exact Or.inr ⟨f, q, po, hb', cn, ex', TI, AH, si', sj', sb, hC.symm, hQ.symm.trans rfl, g3, g4, g5⟩
      · have e64 : ¬ ii (LL (sa 0) n (p + 1)) = 64 := by rw [ii_lit, ii_eq (by omega) (by omega) (by omega) (by omega)]; exact c64
        rw [if_neg e64] at hC hQ
        rw [noExp C hC, hQ.symm.trans remQ]
        exact fin
    · have el : LL (sa 0) n (p + 1) = -1 := by unfold LL; rw [if_neg c1]
      have e64 : ¬ ii (LL (sa 0) n (p + 1)) = 64 := by rw [el]; decide
      rw [if_neg e64] at hC
      rw [if_pos (iple (c := 0) (d := 0) (show n ≤ p + 1 by omega) (by omega))] at hQ
      rw [noExp C hC, hQ.symm.trans remQ]
      exact fin
  · have ee : ¬ ii (LL (sa 0) n p) = 35 := by rw [ii_lit, ii_eq (by omega) (by omega) (by omega) (by omega)]; exact c35
    rw [if_neg ee, cdig nf hr.1 hr.2, Option.bind_some] at hC
    rw [if_neg ee, mdig nf hr.1 hr.2, Option.bind_some] at hQ
    by_cases d : dig (LL (sa 0) n p)
    · rw [if_pos d, if_neg (show ¬ (1 : Int32) = 0 by decide)] at hC hQ
      rcases trow hnf hP hn fa pl hJ (show p ≤ n by omega) with ⟨TI', AH', si', sj', sb', p', tv', av', g1, g2, g3, g4, g5, g6, g7, g8⟩ | ⟨f, q, po, cn', TI', AH', si', sj', sb', g1, g2, g3, g4, g5⟩
      · rw [g1, Option.bind_some] at hC
        rw [g2, Option.bind_some] at hQ
        dsimp only at hC hQ
        rw [if_pos (show (1 : Int32) = 0 ∨ (1 : Int32) = 1 from Or.inr rfl)] at hC hQ
        exact Or.inl ⟨_, hb, _, ex, TI', AH', si', sj', sb', p', c + 1, h, tv', av', x, hC.symm, hQ.symm, g3, g4, g5, g6, g7, g8⟩
      · rw [g1, Option.bind_some] at hC
        rw [g2, Option.bind_some] at hQ
        dsimp only at hC hQ
        rw [if_pos (show (0 : Int32) = 0 ∨ (0 : Int32) = 1 from Or.inl rfl)] at hC hQ
        exact Or.inr ⟨f, q, po, hb, cn', ex, TI', AH', si', sj', sb', hC.symm, hQ.symm, g3, g4, g5⟩
    · rw [if_neg d, if_pos rfl] at hC hQ
      obtain ⟨p1, si1, b1, b2, b3, b4, b5, b6⟩ := tblanks (nf := nf) (sj := sj) (sb := sb) hnf hP hn (show p ≤ n by omega) j3 j2
      rw [b3, Option.bind_some, clend hP hn b2] at hC
      rw [b4, Option.bind_some] at hQ
      dsimp only at hQ
      rw [mlend hP hn b2 ((b6 33 (by decide)).trans j3) b5] at hQ
      have fin := tfin (sa := sa) (p1 := p1) fa pl hJ b1 b6
      by_cases cl : LL (sa 0) n p1 = 10
      · rw [if_pos cl, if_pos cl] at fin
        rw [if_pos cl, Option.bind_some] at hC hQ
        dsimp only at hC hQ
        rw [if_pos (show (1 : Int32) = 0 ∨ (1 : Int32) = 1 from Or.inr rfl)] at hC hQ
        rw [← hC, ← hQ]
        exact fin
      · rw [if_neg cl, if_neg cl] at fin
        rw [if_neg cl, Option.bind_some] at hC hQ
        dsimp only at hC hQ
        rw [if_pos (show (0 : Int32) = 0 ∨ (0 : Int32) = 1 from Or.inl rfl)] at hC hQ
        rw [← hC, ← hQ]
        exact fin
/-- all lines -/
def LOut (n : Nat) (fa pl : Int32) (cl : Option (Int32 × Int32 × Int32 × Int32 × Int32 × Int32 × Int64 × (Nat → Int64) × (Nat → Int64))) (rf : Option (Int32 × MS)) (nf : Nat) (si : Nat → Int32) (sj : Nat → Int64) (sa : Nat → Nat → Int32) (sb : Nat → Nat → Int64) : Prop :=
  (∃ (hb cn : Int32) (ex : Int64) (TI AH : Nat → Int64) (si' : Nat → Int32) (sj' : Nat → Int64) (sb' : Nat → Nat → Int64) (c : Nat) (h : Bool) (tv av : Nat → Int) (x : Int), cl = some (1, fa, pl, ii (n : Int), hb, cn, ex, TI, AH) ∧ rf = f_Mo_tableText_20 nf (0 + 1) (ii (n : Int)) si' sj' sa sb' ∧ TJ (ii (n : Int)) hb cn ex TI AH si' sj' sb' n n c h tv av x ∧ TF si si' sj sj' sb sb' ∧ si' 2 = si 2 ∧ si' 36 = si 36) ∨
  (∃ (f q po hb cn : Int32) (ex : Int64) (TI AH : Nat → Int64) (si' : Nat → Int32) (sj' : Nat → Int64) (sb' : Nat → Nat → Int64), cl = some (0, f, q, po, hb, cn, ex, TI, AH) ∧ rf = some (0, si', sj', sa, sb') ∧ si' 36 = f ∧ si' 2 = q ∧ TF si si' sj sj' sb sb')
theorem tstop (hn : n ≤ 6000) (hs : s = ii (n : Int)) {hb cn : Int32} {ex : Int64} {TI AH : Nat → Int64} {si : Nat → Int32} {sj : Nat → Int64} {sb : Nat → Nat → Int64} {c : Nat} {h : Bool} {tv av : Nat → Int} {x : Int} (fa pl k : Int32) (f f' : Nat) (hJ : TJ (ii (n : Int)) hb cn ex TI AH si sj sb n n c h tv av x) :
    LOut n fa pl (f_TP_readLines_10 nf s N A (f + 1) k fa pl (ii (n : Int)) hb cn ex TI AH) (f_Mo_tableText_20 nf (f' + 1) (ii (n : Int)) si sj sa sb) nf si sj sa sb := by
  obtain ⟨⟨_, j2, j3, _⟩, _⟩ := id hJ
  have le : ii (n : Int) ≤ ii (n : Int) := iple (c := 0) (d := 0) (by omega) (by omega)
  refine Or.inl ⟨hb, cn, ex, TI, AH, si, sj, sb, c, h, tv, av, x, ?_, ?_, hJ, ⟨fun _ _ _ _ _ _ => rfl, fun _ _ _ => rfl, fun _ _ _ => rfl⟩, rfl, rfl⟩
  · rw [f_TP_readLines_10, hs]
    by_cases c6 : (6000 : Int32) ≤ k
    · rw [if_pos c6]
      rfl
    · rw [if_neg c6, if_pos le]
      rfl
  · rw [f_Mo_tableText_20, f_Mo_tableText_20, j2, j3, if_pos le, if_pos le]
theorem tlines (hnf : 10000 ≤ nf) (hP : RB s N A n (sa 0)) (hn : n ≤ 6000) (fa pl : Int32) : ∀ (d k p fu fu' : Nat), n ≤ p + d → d < fu → d < fu' → k ≤ p → p ≤ n → ∀ (hb cn : Int32) (ex : Int64) (TI AH : Nat → Int64) (si : Nat → Int32) (sj : Nat → Int64) (sb : Nat → Nat → Int64) (c : Nat) (h : Bool) (tv av : Nat → Int) (x : Int), TJ (ii (p : Int)) hb cn ex TI AH si sj sb n p c h tv av x →
    LOut n fa pl (f_TP_readLines_10 nf s N A fu (ii (k : Int)) fa pl (ii (p : Int)) hb cn ex TI AH) (f_Mo_tableText_20 nf fu' (ii (n : Int)) si sj sa sb) nf si sj sa sb := by
  have hs := hP.1
  intro d
  induction d with
  | zero =>
    intro k p fu fu' h1 h2 h3 h4 h5 hb cn ex TI AH si sj sb c h tv av x hJ
    obtain ⟨f, rfl⟩ : ∃ f, fu = f + 1 := ⟨fu - 1, by omega⟩
    obtain ⟨f', rfl⟩ : ∃ f', fu' = f' + 1 := ⟨fu' - 1, by omega⟩
    obtain rfl : p = n := by omega
    exact tstop hn hs fa pl _ f f' hJ
  | succ d ih =>
    intro k p fu fu' h1 h2 h3 h4 h5 hb cn ex TI AH si sj sb c h tv av x hJ
    obtain ⟨f, rfl⟩ : ∃ f, fu = f + 1 := ⟨fu - 1, by omega⟩
    obtain ⟨f', rfl⟩ : ∃ f', fu' = f' + 1 := ⟨fu' - 1, by omega⟩
    by_cases lt : p < n
    · obtain ⟨⟨_, j2, j3, _⟩, _⟩ := id hJ
      have nl : ¬ ii (n : Int) ≤ ii (p : Int) := inle lt (by omega)
      generalize hC : f_TP_readLines_10 nf s N A (f + 1) (ii (k : Int)) fa pl (ii (p : Int)) hb cn ex TI AH = C
      generalize hQ : f_Mo_tableText_20 nf (f' + 1) (ii (n : Int)) si sj sa sb = Q
      rw [f_TP_readLines_10, if_neg (show ¬ (6000 : Int32) ≤ ii (k : Int) by rw [ii_lit, ii_le (by omega) (by omega) (by omega) (by omega)]; omega), if_neg (show ¬ s ≤ ii (p : Int) by rw [hs]; exact nl)] at hC
      rw [f_Mo_tableText_20, if_neg (show ¬ si 33 ≤ si 32 by rw [j2, j3]; exact nl)] at hQ
      rcases tline hnf hP hn fa pl hJ lt with ⟨po', hb', cn', ex', TI', AH', si', sj', sb', p', c', h', tv', av', x', g1, g2, g3, g4, g5, g6, g7, g8⟩ | ⟨f1, q, po', hb', cn', ex', TI', AH', si', sj', sb', g1, g2, g3, g4, g5⟩
      · obtain rfl : po' = ii (p' : Int) := g3.1.1
        rw [g1, Option.bind_some] at hC
        rw [g2, Option.bind_some] at hQ
        dsimp only at hC hQ
        rw [if_neg (show ¬ (1 : Int32) = 0 by decide)] at hC hQ
        rw [iiS] at hC
        have r := ih (k + 1) p' f f' (by omega) (by omega) (by omega) (by omega) g5 hb' cn' ex' TI' AH' si' sj' sb' c' h' tv' av' x' g3
        rw [hC, hQ] at r
        rcases r with ⟨hb2, cn2, ex2, TI2, AH2, si2, sj2, sb2, c2, h2', tv2, av2, x2, r1, r2, r3, r4, r5, r6⟩ | ⟨f2, q2, po2, hb2, cn2, ex2, TI2, AH2, si2, sj2, sb2, r1, r2, r3, r4, r5⟩
        · exact Or.inl ⟨hb2, cn2, ex2, TI2, AH2, si2, sj2, sb2, c2, h2', tv2, av2, x2, r1, r2, r3, g6.tr r4, r5.trans g7, r6.trans g8⟩
        · exact Or.inr ⟨f2, q2, po2, hb2, cn2, ex2, TI2, AH2, si2, sj2, sb2, r1, r2, r3, r4, g6.tr r5⟩
      · rw [g1, Option.bind_some] at hC
        rw [g2, Option.bind_some] at hQ
        dsimp only at hC hQ
        rw [if_pos rfl] at hC hQ
        exact Or.inr ⟨f1, q, po', hb', cn', ex', TI', AH', si', sj', sb', hC.symm, hQ.symm, g3, g4, g5⟩
    · obtain rfl : p = n := by omega
      exact tstop hn hs fa pl _ f f' hJ
theorem tend (hn : n ≤ 6000) (hs : s = ii (n : Int)) {hb cn : Int32} {ex : Int64} {TI AH : Nat → Int64} {si : Nat → Int32} {sj : Nat → Int64} {sb : Nat → Nat → Int64} {c : Nat} {h : Bool} {tv av : Nat → Int} {x : Int} (fa pl : Int32) (hJ : TJ (ii (n : Int)) hb cn ex TI AH si sj sb n n c h tv av x) :
    (0 < c ∧ h = true ∧ tv (c - 1) < x ∧ f_TP_readEnd nf fa pl hb s cn ex TI = some (1, fa, pl) ∧ f_Mo_tableText_20 nf (0 + 1) (ii (n : Int)) si sj sa sb = some (1, si, sj, sa, sb)) ∨
    ∃ f : Int32, f_TP_readEnd nf fa pl hb s cn ex TI = some (0, f, ii (n : Int)) ∧ f_Mo_tableText_20 nf (0 + 1) (ii (n : Int)) si sj sa sb = some (0, va_up (va_up si 36 f) 2 (ii (n : Int)), sj, sa, sb) := by
  obtain ⟨⟨j1, j2, j3, j4, j5, j6, j7, j8⟩, j9, j10, j11⟩ := hJ
  have le : si 33 ≤ si 32 := by
    rw [j2, j3]
    exact iple (c := 0) (d := 0) (by omega) (by omega)
  unfold f_TP_readEnd f_TP_readEnd_0
  rw [f_Mo_tableText_20, if_pos le, j7, j6, j5, j4, hs]
  by_cases c0 : c = 0
  · subst c0
    exact Or.inr ⟨6, rfl, rfl⟩
  · have nc : ¬ ii (c : Int) = 0 := by rw [ii_lit, ii_eq (by omega) (by omega) (by omega) (by omega)]; omega
    rw [if_neg nc, if_neg nc]
    cases h with
    | false => exact Or.inr ⟨7, rfl, rfl⟩
    | true =>
      obtain ⟨i1, i2⟩ := nidx (k := c - 1) (m := 60) (by omega) (by omega)
      have e1 : ii (c : Int) - 1 = ii ((c - 1 : Nat) : Int) := by rw [ii_lit, ii_sub, show (c : Int) - 1 = ((c - 1 : Nat) : Int) by omega]
      obtain ⟨x1, x2, x3, x4⟩ := j11 rfl
      obtain ⟨b1, b2, _, _, b5, b6, _⟩ := j9 (c - 1) (by omega)
      have n0 : ¬ bI true = 0 := by decide
      rw [if_neg n0, if_neg n0, e1, i1, if_neg i2, if_neg i2, b1, b2, x1, x2]
      by_cases lt : tv (c - 1) < x
      · rw [if_pos ((jj_lt (by omega) (by omega) (by omega) (by omega)).mpr lt), if_pos ((jj_lt (by omega) (by omega) (by omega) (by omega)).mpr (by omega))]
        exact Or.inl ⟨by omega, rfl, lt, rfl, rfl⟩
      · rw [if_neg (show ¬ jj (tv (c - 1)) < jj x from fun z => lt ((jj_lt (by omega) (by omega) (by omega) (by omega)).mp z)), if_neg (show ¬ jj (tv (c - 1) + 2208988800) < jj (x + 2208988800) from fun z => by rw [jj_lt (by omega) (by omega) (by omega) (by omega)] at z; omega)]
        exact Or.inr ⟨8, rfl, rfl⟩
/-- the rows become the table -/
theorem mtab {c : Nat} (hc : c ≤ 60) {si : Nat → Int32} {sj : Nat → Int64} (h62 : si 62 = ii (c : Int)) : ∀ (j k fu : Nat), k + j = c → j < fu → ∀ sb : Nat → Nat → Int64, ∃ sb' : Nat → Nat → Int64, f_Mo_table_55 nf fu (ii (k : Int)) si sj sa sb = some (si 36, si, sj, sa, sb') ∧ (∀ b, b ≠ 63 → b ≠ 64 → sb' b = sb b) ∧ (∀ m, m < k → sb' 63 m = sb 63 m ∧ sb' 64 m = sb 64 m) ∧ ∀ m, k ≤ m → m < c → sb' 63 m = sb 67 m - 2208988800 ∧ sb' 64 m = sb 68 m := by
  intro j
  induction j with
  | zero =>
    intro k fu hk hf sb
    obtain ⟨f, rfl⟩ : ∃ f, fu = f + 1 := ⟨fu - 1, by omega⟩
    rw [f_Mo_table_55, h62, if_pos (iple (c := 0) (d := 0) (show c ≤ k by omega) (by omega))]
    exact ⟨sb, rfl, fun _ _ _ => rfl, fun _ _ => ⟨rfl, rfl⟩, fun m h1 h2 => by omega⟩
  | succ j ih =>
    intro k fu hk hf sb
    obtain ⟨f, rfl⟩ : ∃ f, fu = f + 1 := ⟨fu - 1, by omega⟩
    obtain ⟨i1, i2⟩ := nidx (k := k) (m := 60) (by omega) (by omega)
    obtain ⟨sb', e1, e2, e3, e4⟩ := ih (k + 1) f (by omega) (by omega) (va_up (va_up sb 63 (vp_updL (sb 63) k (sb 67 k - 2208988800))) 64 (vp_updL (sb 64) k (sb 68 k)))
    refine ⟨sb', ?_, fun b h1 h2 => (e2 b h1 h2).trans (by rw [vup_ne h2, vup_ne h1]), fun m hm => ?_, fun m h1 h2 => ?_⟩
    · rw [f_Mo_table_55, h62, if_neg (inle (show k < c by omega) (by omega)), i1, if_neg i2, if_neg i2, if_neg i2, if_neg i2, iiS]
      exact e1
    · obtain ⟨g1, g2⟩ := e3 m (by omega)
      rw [vup_ne (show (63 : Nat) ≠ 64 by decide), vup_eq, vpl_ne (show m ≠ k by omega)] at g1
      rw [vup_eq, vpl_ne (show m ≠ k by omega)] at g2
      exact ⟨g1, g2⟩
    · by_cases c' : m = k
      · subst c'
        obtain ⟨g1, g2⟩ := e3 m (by omega)
        rw [vup_ne (show (63 : Nat) ≠ 64 by decide), vup_eq, vpl_eq] at g1
        rw [vup_eq, vpl_eq] at g2
        exact ⟨g1, g2⟩
      · obtain ⟨g1, g2⟩ := e4 m (by omega) h2
        rw [vup_ne (show (67 : Nat) ≠ 64 by decide), vup_ne (show (67 : Nat) ≠ 63 by decide)] at g1
        rw [vup_ne (show (68 : Nat) ≠ 64 by decide), vup_ne (show (68 : Nat) ≠ 63 by decide)] at g2
        exact ⟨g1, g2⟩
end
