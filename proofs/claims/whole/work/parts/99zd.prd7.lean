/-! ===== read: letters, leap records, flags ===== -/
section
variable {nf n : Nat} {s : Int32} {N : Nat} {A : Nat → Int32} {sj : Nat → Int64} {sb : Nat → Nat → Int64}
theorem mnr35 {si : Nat → Int32} {p cc : Nat} {x2 : Int32} (hp : p + cc ≤ n) (hn : n ≤ 6000) (hcc : cc ≤ 200) (h32 : si 32 = ii (p : Int)) : ∀ (d k fu : Nat) (sa : Nat → Nat → Int32), sa 7 4 = ii (cc : Int) → k + d = cc → d < fu → ∃ sa' : Nat → Nat → Int32, f_Mo_nameRows_35 nf fu (ii (k : Int)) x2 4 si sj sa sb = f_Mo_nameRows_91 nf nf 0 x2 4 (va_up si 32 (ii ((p + cc : Nat) : Int))) sj sa' sb ∧ (∀ j, k ≤ j → j < cc → sa' 17 (800 + j) = sa 0 (p + j)) ∧ ∀ a j, ¬ (a = 17 ∧ 800 + k ≤ j ∧ j < 1000) → sa' a j = sa a j := by
  have n4 : ¬ ((4 : Int32) < 0 ∨ 5 ≤ 4) := by decide
  have z4 : (4 : Int32).toNatClampNeg = 4 := rfl
  intro d
  induction d with
  | zero =>
    intro k fu sa h7 hk hf
    obtain ⟨f, rfl⟩ : ∃ f, fu = f + 1 := ⟨fu - 1, by omega⟩
    obtain rfl : k = cc := by omega
    have ep : ii (p : Int) + ii (k : Int) = ii ((p + k : Nat) : Int) := by rw [ii_add]; congr 1
    refine ⟨sa, ?_, fun j h1 h2 => by omega, fun _ _ _ => rfl⟩
    rw [f_Mo_nameRows_35, z4, if_neg n4, h7, if_pos (iple (c := 0) (d := 0) (show k ≤ k by omega) (by omega)), if_neg n4, h32, ep]
  | succ d ih =>
    intro k fu sa h7 hk hf
    obtain ⟨f, rfl⟩ : ∃ f, fu = f + 1 := ⟨fu - 1, by omega⟩
    obtain ⟨i1, i2⟩ := nidx (k := p + k) (m := 6000) (by omega) (by omega)
    obtain ⟨i3, i4⟩ := nidx (k := 800 + k) (m := 1000) (by omega) (by omega)
    have ep : ii (p : Int) + ii (k : Int) = ii ((p + k : Nat) : Int) := by rw [ii_add]; congr 1
    obtain ⟨sa', e1, e2, e3⟩ := ih (k + 1) f (va_up sa 17 (upd (sa 17) (800 + k) (sa 0 (p + k)))) ((congrFun (vup_ne (by decide)) _).trans h7) (by omega) (by omega)
    refine ⟨sa', ?_, fun j h1 h2 => ?_, fun a j h1 => ?_⟩
    · rw [f_Mo_nameRows_35, z4, if_neg n4, h7, if_neg (inle (show k < cc by omega) (by omega)), h32, ep, i1, if_neg i2, e800, i3, if_neg i4, iiS]
      exact e1
    · by_cases c : j = k
      · subst c
        rw [e3 17 (800 + j) (by omega), vu_eq]
      · rw [e2 j (by omega) h2, vup_ne (by decide)]
    · rw [e3 a j (by omega), vu_ne (by omega)]
/-- letters and names -/
theorem chs (hnf : 10000 ≤ nf) {sa : Nat → Nat → Int32} (hP : RB s N A n (sa 0)) (hn : n ≤ 6000) {spx upx ssx usx txS cs : Int32} {X txA AA T0 : Nat → Int32} {txN NN c0 cc y tp : Nat} {W : Nat → Int64} (hW : W 5 = jj (cc : Int)) (hcc : cc ≤ 200) (hy : y ≤ 40) (hb : RB cs NN AA c0 T0) (ix : Nat → Nat) (hX : ∀ k, k < y → X k = ii (ix k : Int) ∧ sa 16 (160 + k) = ii (ix k : Int) ∧ ix k < cc) (h6 : sa 6 4 = ii (y : Int)) (h7 : sa 7 4 = ii (cc : Int)) {si : Nat → Int32} (h1 : si 1 = ii (n : Int)) (h32 : si 32 = ii ((tp + 6 * y : Nat) : Int)) (hp : tp + 6 * y ≤ n) (fa pl : Int32) :
    (∃ (NN' : Nat) (AA' : Nat → Int32) (kc ks : Nat) (si' : Nat → Int32) (sa' : Nat → Nat → Int32) (sz : Nat → Nat), f_FP_readChars nf (ii (tp : Int)) fa pl (ii ((tp + 6 * y : Nat) : Int)) s N A (ii (y : Int)) X cs NN AA spx ssx upx usx txS txN txA W = some ((1, fa, pl, ii ((tp + 6 * y + cc : Nat) : Int), ii (cc : Int), NN', AA'), kc, ks) ∧ f_Mo_nameRows nf si sj sa sb = some (1, si', sj, sa', sb) ∧ tp + 6 * y + cc ≤ n ∧ si' 32 = ii ((tp + 6 * y + cc : Nat) : Int) ∧ (∀ k, k ≠ 32 → si' k = si k) ∧ RB (ii (cc : Int)) NN' AA' cc (fun q => sa' 17 (800 + q)) ∧ kc + NN ≤ NN' ∧ ks + 2 * NN ≤ 2 * NN' ∧ (∀ k, k < y → nam0 (fun q => sa' 17 (800 + q)) cc (ix k) (sz k)) ∧ ∀ a j, ¬ (a = 17 ∧ 800 ≤ j ∧ j < 1000) → sa' a j = sa a j) ∨
    (∃ (f pp po cs' : Int32) (NN' : Nat) (AA' : Nat → Int32) (kc ks : Nat) (si' : Nat → Int32) (sa' : Nat → Nat → Int32) (c' : Nat) (T' : Nat → Int32), f_FP_readChars nf (ii (tp : Int)) fa pl (ii ((tp + 6 * y : Nat) : Int)) s N A (ii (y : Int)) X cs NN AA spx ssx upx usx txS txN txA W = some ((0, f, pp, po, cs', NN', AA'), kc, ks) ∧ f_Mo_nameRows nf si sj sa sb = some (0, si', sj, sa', sb) ∧ si' 36 = f ∧ si' 2 = pp ∧ FlI si si' ∧ RB cs' NN' AA' c' T' ∧ kc + NN ≤ NN' ∧ ks + 2 * NN ≤ 2 * NN' ∧ ∀ a j, ¬ (a = 17 ∧ 800 ≤ j ∧ j < 1000) → sa' a j = sa a j) := by
  have n4 : ¬ ((4 : Int32) < 0 ∨ 5 ≤ 4) := by decide
  have z4 : (4 : Int32).toNatClampNeg = 4 := rfl
  have c5 : f_FP_count nf 5 W = some (ii (cc : Int)) := cnt5 (k := 5) (by omega) hW
  have hm := chas (nf := nf) hP.1 hn hp (m := cc) (by omega) fa pl
  have mm := mhas (nf := nf) (sj := sj) (sa := sa) (sb := sb) h1 hn h32 hp (m := cc) (by omega)
  unfold f_FP_readChars f_FP_readChars_0 f_Mo_nameRows f_Mo_nameRows_0
  rw [c5, Option.bind_some, hm, z4, if_neg n4, if_neg n4, h7, ii_64 (by omega) (by omega), mm, h6, h32]
  by_cases c : tp + 6 * y + cc ≤ n
  · rw [if_pos c, if_pos c, Option.bind_some, Option.bind_some]
    dsimp only
    rw [if_neg (show ¬ (1 : Int32) = 0 by decide), if_neg (show ¬ (1 : Int32) = 0 by decide), show f_By_clear nf cs = some 0 from rfl, Option.bind_some]
    have etp : ii ((tp + 6 * y : Nat) : Int) - 6 * ii (y : Int) = ii (tp : Int) := by
      rw [show (6 : Int32) = ii 6 from rfl, ii_mul, ii_sub]
      congr 1
      omega
    have ecc : ii ((tp + 6 * y : Nat) : Int) + ii (cc : Int) = ii ((tp + 6 * y + cc : Nat) : Int) := by
      rw [ii_add]
      congr 1
    obtain ⟨NN', AA', kc, ks, p1, p2, p3, p4⟩ := RB.putAll (nf := nf) (s := 0) (N := 0) (n := 0) (A := AA) (T := sa 0) hP cc (tp + 6 * y) (fu := nf) (hb.clear (sa 0)) (by omega) (by omega) (by omega)
    rw [Nat.zero_add] at p1 p2
    have pa : f_By_putAll nf (ii ((tp + 6 * y : Nat) : Int)) (ii ((tp + 6 * y + cc : Nat) : Int)) 0 NN AA s N A = some ((ii (cc : Int), NN', AA'), kc, ks) := p1
    obtain ⟨sa', m1, m2, m3⟩ := mnr35 (nf := nf) (sj := sj) (sb := sb) (si := si) (p := tp + 6 * y) (x2 := ii (tp : Int)) c hn hcc h32 cc 0 nf sa h7 (by omega) (by omega)
    rw [show ii ((0 : Nat) : Int) = 0 from rfl] at m1
    rw [ecc, pa, Option.bind_some, etp, m1]
    dsimp only
    have fr : ∀ a j, ¬ (a = 17 ∧ 800 ≤ j ∧ j < 1000) → sa' a j = sa a j := fun a j h => m3 a j (by omega)
    have hb' : RB (ii (cc : Int)) NN' AA' cc (fun q => sa' 17 (800 + q)) := p2.T_congr (fun k hk => by
      rw [if_neg (by omega), Nat.sub_zero]
      exact (m2 k (by omega) hk).symm)
    have nm := nms (nf := nf) (si := va_up si 32 (ii ((tp + 6 * y + cc : Nat) : Int))) (sj := sj) (sb := sb) (spx := spx) (upx := upx) (ssx := ssx) (usx := usx) (txS := txS) (txA := txA) (txN := txN) (X := X) (po := tp + 6 * y + cc) (tp := tp) hnf hb' hcc (y := y) rfl hy ix (fun k hk => ⟨(hX k hk).1, (fr 16 _ (by omega)).trans (hX k hk).2.1, (hX k hk).2.2⟩) ((fr 6 4 (by omega)).trans h6) ((fr 7 4 (by omega)).trans h7) (by omega) fa pl y 0 nf nf (by omega) (by omega) (by omega) (fun j hj => by omega)
    rw [show ii ((0 : Nat) : Int) = 0 from rfl] at nm
    rcases nm with ⟨g1, g2, g3⟩ | ⟨pp, g1, g2⟩
    · have g4 : ∀ k : Nat, ∃ m : Nat, k < y → nam0 (fun q => sa' 17 (800 + q)) cc (ix k) m := fun k => by
        by_cases hk : k < y
        · obtain ⟨m, hm⟩ := g3 k hk
          exact ⟨m, fun _ => hm⟩
        · exact ⟨0, fun h => absurd h hk⟩
      obtain ⟨sz, hsz⟩ := Classical.skolem.mp g4
      rw [g1, g2]
      exact Or.inl ⟨NN', AA', 0 + kc, 0 + ks, _, sa', sz, rfl, rfl, c, vup_eq, fun k hk => vup_ne hk, hb', by omega, by omega, hsz, fr⟩
    · rw [g1, g2]
      exact Or.inr ⟨10, pp, _, _, NN', AA', 0 + kc, 0 + ks, _, sa', cc, _, rfl, rfl, rfl, rfl, fun k h1 h2 h3 => by rw [vup_ne h1, vup_ne h3, vup_ne h2], hb', by omega, by omega, fr⟩
  · rw [if_neg c, if_neg c, Option.bind_some, Option.bind_some]
    dsimp only
    rw [if_pos rfl, if_pos rfl]
    exact Or.inr ⟨1, ii (n : Int), _, cs, NN, AA, 0, 0, va_up (va_up si 36 1) 2 (ii (n : Int)), sa, c0, T0, rfl, rfl, rfl, rfl, fun k h1 h2 h3 => by rw [vup_ne h1, vup_ne h3], hb, by omega, by omega, fun _ _ _ => rfl⟩
/-! leap records -/
def LeK (l : Nat) (LT : Nat → Int64) (LO : Nat → Int32) (sb : Nat → Nat → Int64) (lv : Nat → Int) : Prop := ∀ k, k < l → LT k = sb 18 (160 + k) ∧ LO k = ii (lv k) ∧ sb 19 (160 + k) = jj (lv k) ∧ -2147483648 ≤ lv k ∧ lv k < 2147483648
def kLe (b j : Nat) : Prop := (b = 18 ∨ b = 19) ∧ 160 ≤ j ∧ j < 200
theorem lps (hnf : 10000 ≤ nf) {sa : Nat → Nat → Int32} (hP : RB s N A n (sa 0)) (hn : n ≤ 6000) {w l : Nat} (hw : w = 4 ∨ w = 8) (hl : l ≤ 40) (h8 : sa 8 4 = ii (l : Int)) (fa pl : Int32) : ∀ (d k q fu fu' : Nat) (LT : Nat → Int64) (LO : Nat → Int32) (si : Nat → Int32) (sb : Nat → Nat → Int64) (lv : Nat → Int), k + d = l → q + (w + 4) * d ≤ n → d < fu → d < fu' → si 32 = ii (q : Int) → LeK k LT LO sb lv →
    (∃ (LT' : Nat → Int64) (LO' : Nat → Int32) (si' : Nat → Int32) (sb' : Nat → Nat → Int64) (lv' : Nat → Int), f_FP_readLeaps_22 nf s N A (ii (l : Int)) fu (ii (k : Int)) (ii (w : Int)) fa pl (ii (q : Int)) LT LO = some (1, fa, pl, ii ((q + (w + 4) * d : Nat) : Int), LT', LO') ∧ f_Mo_leapRows_27 nf fu' (ii (k : Int)) 4 (ii (w : Int)) si sj sa sb = some (1, si', sj, sa, sb') ∧ si' 32 = ii ((q + (w + 4) * d : Nat) : Int) ∧ (∀ k, k ≠ 32 → si' k = si k) ∧ (∀ b j, ¬ kLe b j → sb' b j = sb b j) ∧ LeK l LT' LO' sb' lv') ∨
    (∃ (f pp po : Int32) (LT' : Nat → Int64) (LO' : Nat → Int32) (si' : Nat → Int32) (sb' : Nat → Nat → Int64), f_FP_readLeaps_22 nf s N A (ii (l : Int)) fu (ii (k : Int)) (ii (w : Int)) fa pl (ii (q : Int)) LT LO = some (0, f, pp, po, LT', LO') ∧ f_Mo_leapRows_27 nf fu' (ii (k : Int)) 4 (ii (w : Int)) si sj sa sb = some (0, si', sj, sa, sb') ∧ si' 36 = f ∧ si' 2 = pp ∧ FlI si si' ∧ ∀ b j, ¬ kLe b j → sb' b j = sb b j) := by
  have n4 : ¬ ((4 : Int32) < 0 ∨ 5 ≤ 4) := by decide
  have z4 : (4 : Int32).toNatClampNeg = 4 := rfl
  intro d
  induction d with
  | zero =>
    intro k q fu fu' LT LO si sb lv hk hq hf hf' h32 ht
    obtain ⟨f, rfl⟩ : ∃ f, fu = f + 1 := ⟨fu - 1, by omega⟩
    obtain ⟨f', rfl⟩ : ∃ f', fu' = f' + 1 := ⟨fu' - 1, by omega⟩
    obtain rfl : k = l := by omega
    have le : ii (k : Int) ≤ ii (k : Int) := iple (c := 0) (d := 0) (by omega) (by omega)
    refine Or.inl ⟨LT, LO, si, sb, lv, ?_, ?_, h32, fun _ _ => rfl, fun _ _ _ => rfl, ht⟩
    · rw [f_FP_readLeaps_22, if_pos le]
      rfl
    · rw [f_Mo_leapRows_27, z4, if_neg n4, h8, if_pos le]
  | succ d ih =>
    intro k q fu fu' LT LO si sb lv hk hq hf hf' h32 ht
    obtain ⟨f, rfl⟩ : ∃ f, fu = f + 1 := ⟨fu - 1, by omega⟩
    obtain ⟨f', rfl⟩ : ∃ f', fu' = f' + 1 := ⟨fu' - 1, by omega⟩
    have wd : (w + 4) * (d + 1) = (w + 4) * d + (w + 4) := Nat.mul_succ (w + 4) d
    obtain ⟨v, v1, v2, _, e1, e2⟩ := rds (nf := nf) (si := si) (sj := sj) (sb := sb) hnf hP hn hw (p := q) (by omega)
    obtain ⟨o, o1, o2, o3, g1, g2⟩ := rds (nf := nf) (si := si) (sj := sj) (sb := sb) hnf hP hn (w := 4) (Or.inl rfl) (p := q + w) (by omega)
    obtain ⟨o4, o5⟩ := o3 rfl
    have g1' : f_By_signedAt nf (ii ((q + w : Nat) : Int)) 4 s N A = some (jj o) := g1
    have g2' : f_Mo_signed nf (ii ((q + w : Nat) : Int)) 4 si sj sa sb = some (jj o) := g2
    obtain ⟨i1, i2⟩ := nidx (k := k) (m := 40) (by omega) (by omega)
    obtain ⟨i3, i4⟩ := nidx (k := 160 + k) (m := 200) (by omega) (by omega)
    have eq : ii (q : Int) + ii (w : Int) = ii ((q + w : Nat) : Int) := by rw [ii_add]; congr 1
    have eq4 : ii (q : Int) + (ii (w : Int) + 4) = ii ((q + (w + 4) : Nat) : Int) := by rw [show (4 : Int32) = ii 4 from rfl, ii_add, ii_add]; congr 1
    rw [f_FP_readLeaps_22, if_neg (inle (show k < l by omega) (by omega)), e1, Option.bind_some, f_Mo_leapRows_27, z4, if_neg n4, h8, if_neg (inle (show k < l by omega) (by omega)), h32, e2, Option.bind_some, e160]
    have bad : ∃ (f pp po : Int32) (LT' : Nat → Int64) (LO' : Nat → Int32) (si' : Nat → Int32) (sb' : Nat → Nat → Int64), f_FP_readLeaps_76 nf fa pl (ii (q : Int)) LT LO = some (0, f, pp, po, LT', LO') ∧ f_Mo_leapRows_86 nf si sj sa sb = some (0, si', sj, sa, sb') ∧ si' 36 = f ∧ si' 2 = pp ∧ FlI si si' ∧ ∀ b j, ¬ kLe b j → sb' b j = sb b j := by
      refine ⟨11, ii (q : Int), ii (q : Int), LT, LO, va_up (va_up si 36 11) 2 (si 32), sb, rfl, rfl, rfl, ?_, fun k h1 h2 h3 => by rw [vup_ne h1, vup_ne h3], fun _ _ _ => rfl⟩
      rw [vup_eq]
      exact h32
    by_cases lt0 : jj v < 0
    · rw [if_pos lt0, if_pos lt0]
      exact Or.inr bad
    · rw [if_neg lt0, if_neg lt0]
      -- behind the checks of the time
      have next : ∀ (s0 dd : Int64) (D : Int), -9000000000 ≤ D → D ≤ 9000000000 → jj o - s0 = jj D → dd = jj D →
          (∃ (LT' : Nat → Int64) (LO' : Nat → Int32) (si' : Nat → Int32) (sb' : Nat → Nat → Int64) (lv' : Nat → Int), f_FP_readLeaps_125 nf (f_FP_readLeaps_22 nf s N A (ii (l : Int)) f) (jj o) (jj v) (ii (k : Int)) (ii (w : Int)) s0 (jj o) fa pl (ii (q : Int)) LT LO = some (1, fa, pl, ii ((q + (w + 4) * (d + 1) : Nat) : Int), LT', LO') ∧ f_Mo_leapRows_131 nf (f_Mo_leapRows_27 nf f') (jj o) (jj v) (ii ((160 + k : Nat) : Int)) (ii (k : Int)) 4 (ii (w : Int)) dd si sj sa sb = some (1, si', sj, sa, sb') ∧ si' 32 = ii ((q + (w + 4) * (d + 1) : Nat) : Int) ∧ (∀ k, k ≠ 32 → si' k = si k) ∧ (∀ b j, ¬ kLe b j → sb' b j = sb b j) ∧ LeK l LT' LO' sb' lv') ∨
          (∃ (f1 pp po : Int32) (LT' : Nat → Int64) (LO' : Nat → Int32) (si' : Nat → Int32) (sb' : Nat → Nat → Int64), f_FP_readLeaps_125 nf (f_FP_readLeaps_22 nf s N A (ii (l : Int)) f) (jj o) (jj v) (ii (k : Int)) (ii (w : Int)) s0 (jj o) fa pl (ii (q : Int)) LT LO = some (0, f1, pp, po, LT', LO') ∧ f_Mo_leapRows_131 nf (f_Mo_leapRows_27 nf f') (jj o) (jj v) (ii ((160 + k : Nat) : Int)) (ii (k : Int)) 4 (ii (w : Int)) dd si sj sa sb = some (0, si', sj, sa, sb') ∧ si' 36 = f1 ∧ si' 2 = pp ∧ FlI si si' ∧ ∀ b j, ¬ kLe b j → sb' b j = sb b j) := by
        intro s0 dd D D1 D2 hD hdd
        have key : ((if (0 : Int64) < jj o - s0 then jj o - s0 else -(jj o - s0)) = 1) ↔ (D = 1 ∨ D = -1) := by
          rw [hD, show (0 : Int64) = jj 0 from rfl, show (1 : Int64) = jj 1 from rfl]
          by_cases p : 0 < D
          · rw [if_pos ((jj_lt (by omega) (by omega) (by omega) (by omega)).mpr p), jj_eq (by omega) (by omega) (by omega) (by omega)]
            omega
          · rw [if_neg (fun y => p ((jj_lt (by omega) (by omega) (by omega) (by omega)).mp y)), jj_neg, jj_eq (by omega) (by omega) (by omega) (by omega)]
            omega
        unfold f_FP_readLeaps_125 f_Mo_leapRows_131 f_Mo_leapRows_162
        rw [i1, if_neg i2, if_neg i2, i3, if_neg i4, if_neg i4, eq, h32, eq, eq4, iiS, jj_32, hdd]
        by_cases ok : D = 1 ∨ D = -1
        · rw [if_pos (key.mpr ok)]
          have r := ih (k + 1) (q + (w + 4)) f f' (vp_updL LT k (jj v)) (upd LO k (ii o)) (va_up si 32 (ii ((q + (w + 4) : Nat) : Int))) (va_up (va_up sb 18 (vp_updL (sb 18) (160 + k) (jj v))) 19 (vp_updL (sb 19) (160 + k) (jj o))) (fun j => if j = k then o else lv j) (by omega) (by omega) (by omega) (by omega) rfl (fun j hj => by
              dsimp only
              rw [vup_ne (show (18 : Nat) ≠ 19 by decide), vup_eq, vup_eq]
              by_cases c1 : j = k
              · rw [if_pos c1, c1, vpl_eq, vpl_eq, vpl_eq, upd_eq]
                exact ⟨rfl, rfl, rfl, o4, o5⟩
              · rw [if_neg c1, vpl_ne c1, vpl_ne (by omega), vpl_ne (by omega), upd_ne c1]
                exact ht j (by omega))
          rw [show q + (w + 4) + (w + 4) * d = q + (w + 4) * (d + 1) by omega] at r
          have fB : ∀ (b j : Nat), ¬ kLe b j → va_up (va_up sb 18 (vp_updL (sb 18) (160 + k) (jj v))) 19 (vp_updL (sb 19) (160 + k) (jj o)) b j = sb b j := by
            intro b j hb
            unfold kLe at hb
            by_cases e9 : b = 19
            · subst e9
              rw [vup_eq, vpl_ne (by omega)]
            · rw [vup_ne e9]
              by_cases e8 : b = 18
              · subst e8
                rw [vup_eq, vpl_ne (by omega)]
              · rw [vup_ne e8]
          have fin : ∀ X Y : Option (Int32 × MS), X = f_Mo_leapRows_27 nf f' (ii ((k + 1 : Nat) : Int)) 4 (ii (w : Int)) (va_up si 32 (ii ((q + (w + 4) : Nat) : Int))) sj sa (va_up (va_up sb 18 (vp_updL (sb 18) (160 + k) (jj v))) 19 (vp_updL (sb 19) (160 + k) (jj o))) → (if jj D = 1 then X else if jj D = -1 then X else Y) = X := by
            intro X Y _
            rcases ok with rfl | rfl
            · rw [if_pos (show jj 1 = 1 from rfl)]
            · rw [if_neg (by decide), if_pos (show jj (-1) = -1 from rfl)]
          rw [fin _ _ rfl]
          rcases r with ⟨LT', LO', si', sb', lv', x1, x2, x3, x4, x5, x6⟩ | ⟨f1, pp, po, LT', LO', si', sb', x1, x2, x3, x4, x5, x6⟩
          · exact Or.inl ⟨LT', LO', si', sb', lv', x1, x2, x3, fun k hk => (x4 k hk).trans (vup_ne hk), fun b j hb => (x5 b j hb).trans (fB b j hb), x6⟩
          · exact Or.inr ⟨f1, pp, po, LT', LO', si', sb', x1, x2, x3, x4, fun k h1 h2 h3 => (x5 k h1 h2 h3).trans (vup_ne h2), fun b j hb => (x6 b j hb).trans (fB b j hb)⟩
        · rw [if_neg (fun y => ok (key.mp y)), if_neg (show ¬ jj D = 1 from fun y => by rw [show (1 : Int64) = jj 1 from rfl, jj_eq (by omega) (by omega) (by omega) (by omega)] at y; omega), if_neg (show ¬ jj D = -1 from fun y => by rw [show (-1 : Int64) = jj (-1) from rfl, jj_eq (by omega) (by omega) (by omega) (by omega)] at y; omega)]
          exact Or.inr ⟨12, ii ((q + w : Nat) : Int), _, LT, LO, va_up (va_up si 36 12) 2 (ii ((q + w : Nat) : Int)), sb, rfl, rfl, rfl, rfl, fun k h1 h2 h3 => by rw [vup_ne h1, vup_ne h3], fun _ _ _ => rfl⟩
      by_cases k0 : k = 0
      · subst k0
        rw [if_pos (show ii ((0 : Nat) : Int) ≤ 0 by decide), if_pos (show ii ((0 : Nat) : Int) ≤ 0 by decide)]
        unfold f_FP_readLeaps_87 f_Mo_leapRows_97
        rw [eq, g1', Option.bind_some, if_pos (show ii ((0 : Nat) : Int) ≤ 0 by decide), h32, eq, g2', Option.bind_some, if_pos (show ii ((0 : Nat) : Int) = 0 from rfl)]
        exact next 0 (jj o) o (by omega) (by omega) (by rw [show (0 : Int64) = jj 0 from rfl, jj_sub]; congr 1; omega) rfl
      · obtain ⟨i5, i6⟩ := nidx (k := k - 1) (m := 40) (by omega) (by omega)
        obtain ⟨i7, i8⟩ := nidx (k := 160 + (k - 1)) (m := 200) (by omega) (by omega)
        have nk : ¬ ii (k : Int) ≤ 0 := by rw [ii_lit, ii_le (by omega) (by omega) (by omega) (by omega)]; omega
        have nk0 : ¬ ii (k : Int) = 0 := by rw [ii_lit, ii_eq (by omega) (by omega) (by omega) (by omega)]; omega
        have ek : ii (k : Int) - 1 = ii ((k - 1 : Nat) : Int) := by rw [ii_lit, ii_sub, show (k : Int) - 1 = ((k - 1 : Nat) : Int) by omega]
        have ek8 : ii ((160 + k : Nat) : Int) - 1 = ii ((160 + (k - 1) : Nat) : Int) := by
          rw [show (1 : Int32) = ii 1 from rfl, ii_sub]
          congr 1
          omega
        obtain ⟨t1, t2, t3, t4, t5⟩ := ht (k - 1) (by omega)
        rw [if_neg nk, ek, i5, if_neg i6, t1, if_neg nk, ek8, i7, if_neg i8]
        by_cases dist : (2419199 : Int64) ≤ jj v - sb 18 (160 + (k - 1))
        · rw [if_pos dist, if_pos dist]
          unfold f_FP_readLeaps_87 f_Mo_leapRows_97
          rw [eq, g1', Option.bind_some, if_neg nk, ek, i5, if_neg i6, t2, ii_64 t4 t5, h32, eq, g2', Option.bind_some, if_neg nk0, ek8, i7, if_neg i8, t3]
          exact next (jj (lv (k - 1))) (jj o - jj (lv (k - 1))) (o - lv (k - 1)) (by omega) (by omega) (jj_sub _ _) (jj_sub _ _)
        · rw [if_neg dist, if_neg dist]
          exact Or.inr bad
/-! flags -/
theorem fls (hnf : 10000 ≤ nf) (hn : n ≤ 6000) {d0 : Nat} (hd : d0 ≤ 40) (fa pl : Int32) : ∀ (d k q fu fu' : Nat) (SD : Nat → Int32) (si : Nat → Int32) (sa : Nat → Nat → Int32), RB s N A n (sa 0) → sa 9 4 = ii (d0 : Int) → k + d = d0 → q + d ≤ n → d < fu → d < fu' → si 32 = ii (q : Int) → (∀ j, j < k → SD j = sa 20 (160 + j) ∧ (SD j = 0 ∨ SD j = 1)) →
    (∃ (SD' : Nat → Int32) (si' : Nat → Int32) (sa' : Nat → Nat → Int32), f_FP_readStds_18 nf s N A (ii (d0 : Int)) fu (ii (k : Int)) fa pl (ii (q : Int)) SD = some (1, fa, pl, ii ((q + d : Nat) : Int), SD') ∧ f_Mo_flagRows_20 nf fu' (ii (k : Int)) 4 si sj sa sb = f_Mo_flagRows_20 nf 1 (ii (d0 : Int)) 4 si' sj sa' sb ∧ si' 32 = ii ((q + d : Nat) : Int) ∧ (∀ k, k ≠ 32 → si' k = si k) ∧ (∀ a j, ¬ (a = 20 ∧ 160 ≤ j ∧ j < 200) → sa' a j = sa a j) ∧ ∀ j, j < d0 → SD' j = sa' 20 (160 + j) ∧ (SD' j = 0 ∨ SD' j = 1)) ∨
    (∃ (f pp po : Int32) (SD' : Nat → Int32) (si' : Nat → Int32) (sa' : Nat → Nat → Int32), f_FP_readStds_18 nf s N A (ii (d0 : Int)) fu (ii (k : Int)) fa pl (ii (q : Int)) SD = some (0, f, pp, po, SD') ∧ f_Mo_flagRows_20 nf fu' (ii (k : Int)) 4 si sj sa sb = some (0, si', sj, sa', sb) ∧ si' 36 = f ∧ si' 2 = pp ∧ FlI si si' ∧ ∀ a j, ¬ (a = 20 ∧ 160 ≤ j ∧ j < 200) → sa' a j = sa a j) := by
  have n4 : ¬ ((4 : Int32) < 0 ∨ 5 ≤ 4) := by decide
  have z4 : (4 : Int32).toNatClampNeg = 4 := rfl
  intro d
  induction d with
  | zero =>
    intro k q fu fu' SD si sa hP h9 hk hq hf hf' h32 ht
    obtain ⟨f, rfl⟩ : ∃ f, fu = f + 1 := ⟨fu - 1, by omega⟩
    obtain ⟨f', rfl⟩ : ∃ f', fu' = f' + 1 := ⟨fu' - 1, by omega⟩
    obtain rfl : k = d0 := by omega
    have le : ii (k : Int) ≤ ii (k : Int) := iple (c := 0) (d := 0) (by omega) (by omega)
    refine Or.inl ⟨SD, si, sa, ?_, ?_, h32, fun _ _ => rfl, fun _ _ _ => rfl, ht⟩
    · rw [f_FP_readStds_18, if_pos le]
      rfl
    · rw [f_Mo_flagRows_20, z4, if_neg n4, h9, if_pos le, show (1 : Nat) = 0 + 1 from rfl, f_Mo_flagRows_20, z4, if_neg n4, h9, if_pos le, if_neg n4]
  | succ d ih =>
    intro k q fu fu' SD si sa hP h9 hk hq hf hf' h32 ht
    obtain ⟨f, rfl⟩ : ∃ f, fu = f + 1 := ⟨fu - 1, by omega⟩
    obtain ⟨f', rfl⟩ : ∃ f', fu' = f' + 1 := ⟨fu' - 1, by omega⟩
    obtain ⟨x, hx, ex⟩ := hP.byte (k := q) (by omega)
    obtain ⟨i1, i2⟩ := nidx (k := k) (m := 40) (by omega) (by omega)
    obtain ⟨i3, i4⟩ := nidx (k := 160 + k) (m := 200) (by omega) (by omega)
    obtain ⟨i5, i6⟩ := nidx (k := q) (m := 6000) (by omega) (by omega)
    rw [f_FP_readStds_18, if_neg (inle (show k < d0 by omega) (by omega)), hP.get (k := q) (by omega), Option.bind_some, ex, f_Mo_flagRows_20, z4, if_neg n4, h9, if_neg (inle (show k < d0 by omega) (by omega)), h32, i5, if_neg i6, ex]
    by_cases le1 : x ≤ 1
    · have le' : ii (x : Int) ≤ 1 := by rw [ii_lit, ii_le (by omega) (by omega) (by omega) (by omega)]; omega
      rw [if_pos le', i1, if_neg i2, if_pos le', if_neg i6, e160, i3, if_neg i4, iiS, iiS]
      have r := ih (k + 1) (q + 1) f f' (upd SD k (ii (x : Int))) (va_up si 32 (ii ((q + 1 : Nat) : Int))) (va_up sa 20 (upd (sa 20) (160 + k) (ii (x : Int)))) (hP.T_congr (fun j _ => by rw [vup_ne (by decide)])) ((congrFun (vup_ne (by decide)) _).trans h9) (by omega) (by omega) (by omega) (by omega) rfl (fun j hj => by
          rw [vup_eq]
          by_cases c1 : j = k
          · rw [c1, upd_eq, upd_eq]
            refine ⟨rfl, ?_⟩
            rcases (show x = 0 ∨ x = 1 by omega) with rfl | rfl
            · exact Or.inl rfl
            · exact Or.inr rfl
          · rw [upd_ne c1, upd_ne (by omega)]
            exact ht j (by omega))
      rw [show q + 1 + d = q + (d + 1) by omega] at r
      have fA : ∀ (a j : Nat), ¬ (a = 20 ∧ 160 ≤ j ∧ j < 200) → va_up sa 20 (upd (sa 20) (160 + k) (ii (x : Int))) a j = sa a j := fun a j ha => vu_ne (by omega)
      rcases r with ⟨SD', si', sa', x1, x2, x3, x4, x5, x6⟩ | ⟨f1, pp, po, SD', si', sa', x1, x2, x3, x4, x5, x6⟩
      · exact Or.inl ⟨SD', si', sa', x1, x2, x3, fun k hk => (x4 k hk).trans (vup_ne hk), fun a j ha => (x5 a j ha).trans (fA a j ha), x6⟩
      · exact Or.inr ⟨f1, pp, po, SD', si', sa', x1, x2, x3, x4, fun k h1 h2 h3 => (x5 k h1 h2 h3).trans (vup_ne h2), fun a j ha => (x6 a j ha).trans (fA a j ha)⟩
    · have le' : ¬ ii (x : Int) ≤ 1 := by rw [ii_lit, ii_le (by omega) (by omega) (by omega) (by omega)]; omega
      rw [if_neg le', if_neg le']
      exact Or.inr ⟨13, ii (q : Int), ii (q : Int), SD, va_up (va_up si 36 13) 2 (ii (q : Int)), sa, rfl, rfl, rfl, rfl, fun k h1 h2 h3 => by rw [vup_ne h1, vup_ne h3], fun _ _ _ => rfl⟩
end
