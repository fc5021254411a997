/-! ===== table: whole lines ===== -/
section
variable {nf n : Nat} {s : Int32} {N : Nat} {A : Nat → Int32} {sa : Nat → Nat → Int32}
theorem TJ.mov {po hb cn : Int32} {ex : Int64} {TI AH : Nat → Int64} {si si' : Nat → Int32} {sj sj' : Nat → Int64} {sb : Nat → Nat → Int64} {p p' c : Nat} {h : Bool} {tv av : Nat → Int} {x : Int} (hJ : TJ po hb cn ex TI AH si sj sb n p c h tv av x) (h32 : si' 32 = ii (p' : Int)) (hi : ∀ k, k ≠ 32 → si' k = si k) (hj : ∀ k, k ≠ 71 → sj' k = sj k) : TJ (ii (p' : Int)) hb cn ex TI AH si' sj' sb n p' c h tv av x := by
  obtain ⟨⟨j1, j2, j3, j4, j5, j6, j7, j8⟩, j9, j10, j11⟩ := hJ
  exact ⟨⟨rfl, h32, (hi 33 (by decide)).trans j3, j4, (hi 70 (by decide)).trans j5, j6, (hi 66 (by decide)).trans j7, j8⟩, j9, j10, fun z => ⟨(j11 z).1, (hj 69 (by decide)).trans (j11 z).2.1, (j11 z).2.2⟩⟩
theorem TF.mov {si si' : Nat → Int32} {sj sj' : Nat → Int64} {sb : Nat → Nat → Int64} (hi : ∀ k, k ≠ 32 → si' k = si k) (hj : ∀ k, k ≠ 71 → sj' k = sj k) : TF si si' sj sj' sb sb := ⟨fun k _ h2 _ _ _ => hi k h2, fun k _ h2 => hj k h2, fun _ _ _ => rfl⟩
theorem TF.flt {si si' : Nat → Int32} {sj sj' : Nat → Int64} {sb : Nat → Nat → Int64} (hi : ∀ k, k ≠ 32 → k ≠ 36 → k ≠ 2 → si' k = si k) (hj : ∀ k, k ≠ 71 → sj' k = sj k) : TF si si' sj sj' sb sb := ⟨fun k h1 h2 h3 _ _ => hi k h2 h3 h1, fun k _ h2 => hj k h2, fun _ _ _ => rfl⟩
def ROut (n p : Nat) (fa pl : Int32) (hb : Int32) (ex : Int64) (h : Bool) (x : Int) (c : Nat) (cl : Option (Int32 × Int32 × Int32 × Int32 × Int32 × (Nat → Int64) × (Nat → Int64))) (rf : Option (Int32 × MS)) (si : Nat → Int32) (sj : Nat → Int64) (sa : Nat → Nat → Int32) (sb : Nat → Nat → Int64) : Prop :=
  (∃ (TI AH : Nat → Int64) (si' : Nat → Int32) (sj' : Nat → Int64) (sb' : Nat → Nat → Int64) (p' : Nat) (tv av : Nat → Int), cl = some (1, fa, pl, ii (p' : Int), ii ((c + 1 : Nat) : Int), TI, AH) ∧ rf = some (1, si', sj', sa, sb') ∧ TJ (ii (p' : Int)) hb (ii ((c + 1 : Nat) : Int)) ex TI AH si' sj' sb' n p' (c + 1) h tv av x ∧ p < p' ∧ p' ≤ n ∧ TF si si' sj sj' sb sb' ∧ si' 2 = si 2 ∧ si' 36 = si 36) ∨
  (∃ (f q po cn : Int32) (TI AH : Nat → Int64) (si' : Nat → Int32) (sj' : Nat → Int64) (sb' : Nat → Nat → Int64), cl = some (0, f, q, po, cn, TI, AH) ∧ rf = some (0, si', sj', sa, sb') ∧ si' 36 = f ∧ si' 2 = q ∧ TF si si' sj sj' sb sb')
/-- the end of a row's line, and the row -/
theorem trow94 (hP : RB s N A n (sa 0)) (hn : n ≤ 6000) {hb cn : Int32} {ex : Int64} {TI AH : Nat → Int64} {si : Nat → Int32} {sj : Nat → Int64} {sb : Nat → Nat → Int64} {p c : Nat} {h : Bool} {tv av : Nat → Int} {x v w : Int} (fa pl q1 q2 : Int32) (hJ : TJ (ii (p : Int)) hb cn ex TI AH si sj sb n p c h tv av x) (v0 : 0 ≤ v) (v1 : v < 10000000000) (w0 : 0 ≤ w) (w1 : w < 10000000000) (hp : p ≤ n) :
    ROut n p fa pl hb ex h x c (f_TP_readRow_94 nf s N A (jj w) q2 (jj v) q1 fa pl (ii (p : Int)) cn TI AH) ((if LL (sa 0) n p = 10 then some (1, va_up si 32 (ii ((p + 1 : Nat) : Int)), sj, sa, sb) else some (0, va_up (va_up si 36 1) 2 (ii (p : Int)), sj, sa, sb) : Option (Int32 × MS)).bind fun (z_30, i_26, j_27, a_28, b_29) => f_Mo_rowLine_88 nf (jj w) q2 (jj v) q1 z_30 i_26 j_27 a_28 b_29) si sj sa sb := by
  unfold f_TP_readRow_94
  rw [clend hP hn hp]
  by_cases cl : LL (sa 0) n p = 10
  · have lt : p < n := LL_lt (T := sa 0) (E := n) (k := p) (by omega)
    rw [if_pos cl, if_pos cl, Option.bind_some, Option.bind_some]
    dsimp only
    rw [if_neg (show ¬ (1 : Int32) = 0 by decide)]
    have hJ' := hJ.mov (si' := va_up si 32 (ii ((p + 1 : Nat) : Int))) (sj' := sj) (p' := p + 1) rfl (fun k hk => vup_ne hk) (fun _ _ => rfl)
    rcases tadd (nf := nf) (sa := sa) fa pl q1 q2 hJ' v0 v1 w0 w1 with ⟨TI', AH', si', sb', tv', av', g1, g2, g3, g4, g5, g6⟩ | ⟨f, q, g1, g2⟩
    · rw [g1, g2, Option.bind_some]
      dsimp only
      rw [if_neg (show ¬ (1 : Int32) = 0 by decide)]
      refine Or.inl ⟨TI', AH', si', sj, sb', p + 1, tv', av', rfl, rfl, g3, by omega, by omega, ?_, ?_, ?_⟩
      · exact (TF.mov (fun k hk => vup_ne hk) (fun _ _ => rfl)).tr g4
      · rw [g5, vup_ne (by decide)]
      · rw [g6, vup_ne (by decide)]
    · rw [g1, g2, Option.bind_some]
      dsimp only
      rw [if_pos rfl]
      exact Or.inr ⟨f, q, _, _, _, _, _, sj, sb, rfl, rfl, rfl, rfl, TF.flt (fun k h1 h2 h3 => by rw [vup_ne h3, vup_ne h2, vup_ne h1]) (fun _ _ => rfl)⟩
  · rw [if_neg cl, if_neg cl, Option.bind_some, Option.bind_some]
    dsimp only
    rw [if_pos rfl]
    unfold f_Mo_rowLine_88
    rw [if_pos rfl]
    exact Or.inr ⟨1, ii (p : Int), _, _, _, _, _, sj, sb, rfl, rfl, rfl, rfl, TF.flt (fun k h1 h2 h3 => by rw [vup_ne h3, vup_ne h2]) (fun _ _ => rfl)⟩
theorem ROut.fr {p p' : Nat} {fa pl hb : Int32} {ex : Int64} {h : Bool} {x : Int} {c : Nat} {cl : Option (Int32 × Int32 × Int32 × Int32 × Int32 × (Nat → Int64) × (Nat → Int64))} {rf : Option (Int32 × MS)} {si si1 : Nat → Int32} {sj sj1 : Nat → Int64} {sb : Nat → Nat → Int64} (g : ROut n p' fa pl hb ex h x c cl rf si1 sj1 sa sb) (hp : p ≤ p') (f : TF si si1 sj sj1 sb sb) (h2 : si1 2 = si 2) (h36 : si1 36 = si 36) : ROut n p fa pl hb ex h x c cl rf si sj sa sb := by
  rcases g with ⟨TI, AH, si', sj', sb', q, tv, av, g1, g2, g3, g4, g5, g6, g7, g8⟩ | ⟨f1, q, po, cn, TI, AH, si', sj', sb', g1, g2, g3, g4, g5⟩
  · exact Or.inl ⟨TI, AH, si', sj', sb', q, tv, av, g1, g2, g3, by omega, g5, f.tr g6, g7.trans h2, g8.trans h36⟩
  · exact Or.inr ⟨f1, q, po, cn, TI, AH, si', sj', sb', g1, g2, g3, g4, f.tr g5⟩
theorem jj0 {v : Int} (v0 : 0 ≤ v) (v1 : v < 10000000000) : (0 : Int64) ≤ jj v := by rw [show (0 : Int64) = jj 0 from rfl, jj_le (by omega) (by omega) (by omega) (by omega)]; omega
set_option maxHeartbeats 1000000 in
theorem trow (hnf : 10000 ≤ nf) (hP : RB s N A n (sa 0)) (hn : n ≤ 6000) {hb cn : Int32} {ex : Int64} {TI AH : Nat → Int64} {si : Nat → Int32} {sj : Nat → Int64} {sb : Nat → Nat → Int64} {p c : Nat} {h : Bool} {tv av : Nat → Int} {x : Int} (fa pl : Int32) (hJ : TJ (ii (p : Int)) hb cn ex TI AH si sj sb n p c h tv av x) (hp : p ≤ n) :
    ROut n p fa pl hb ex h x c (f_TP_readRow nf fa pl (ii (p : Int)) s N A cn TI AH) (f_Mo_rowLine nf si sj sa sb) si sj sa sb := by
  obtain ⟨⟨_, j2, j3, _⟩, _⟩ := id hJ
  generalize hC : f_TP_readRow nf fa pl (ii (p : Int)) s N A cn TI AH = C
  generalize hQ : f_Mo_rowLine nf si sj sa sb = Q
  unfold f_TP_readRow f_TP_readRow_0 at hC
  unfold f_Mo_rowLine f_Mo_rowLine_0 at hQ
  rcases tdigits (nf := nf) (sj := sj) (sb := sb) hnf hP hn fa pl hp j3 j2 with ⟨p1, v, si1, sj1, a1, a2, a3, a4, a5, a6, a7, a8, a9, a10⟩ | ⟨p1, si1, sj1, a1, a2, a3, a4, a5, a6⟩
  · have hr := LL_range (k := p1) (fun k hk => hP.byte (k := k) hk)
    have s33 : si1 33 = ii (n : Int) := (a9 33 (by decide)).trans j3
    rw [a5, Option.bind_some] at hC
    rw [a6, Option.bind_some] at hQ
    dsimp only at hC hQ
    rw [if_pos (jj0 a3 a4), tget hP hn (by omega), Option.bind_some, cbk nf hr.1 hr.2, Option.bind_some] at hC
    rw [if_neg (show ¬ (1 : Int32) = 0 by decide), mlook (tMP hP hn s33) a7 (by omega), Option.bind_some, mbk nf hr.1 hr.2, Option.bind_some] at hQ
    by_cases b : bk (LL (sa 0) n p1)
    · rw [if_pos b, if_neg (show ¬ (1 : Int32) = 0 by decide)] at hC hQ
      obtain ⟨p2, si2, b1, b2, b3, b4, b5, b6⟩ := tblanks (nf := nf) (sj := sj1) (sb := sb) hnf hP hn a2 s33 a7
      have s33' : si2 33 = ii (n : Int) := (b6 33 (by decide)).trans s33
      rw [b3, Option.bind_some] at hC
      rw [b4, Option.bind_some] at hQ
      dsimp only at hQ
      rcases tdigits (nf := nf) (sj := sj1) (sb := sb) hnf hP hn fa pl b2 s33' b5 with ⟨p3, w, si3, sj3, c1, c2, c3, c4, c5, c6, c7, c8, c9, c10⟩ | ⟨p3, si3, sj3, c1, c2, c3, c4, c5, c6⟩
      · have s33'' : si3 33 = ii (n : Int) := (c9 33 (by decide)).trans s33'
        rw [c5, Option.bind_some] at hC
        rw [c6, Option.bind_some] at hQ
        dsimp only at hC hQ
        obtain ⟨p4, si4, d1, d2, d3, d4, d5, d6⟩ := tblanks (nf := nf) (sj := sj3) (sb := sb) hnf hP hn c2 s33'' c7
        have s33d : si4 33 = ii (n : Int) := (d6 33 (by decide)).trans s33''
        have hr4 := LL_range (k := p4) (fun k hk => hP.byte (k := k) hk)
        rw [if_pos (jj0 c3 c4), d3, Option.bind_some, tget hP hn (by omega), Option.bind_some] at hC
        rw [if_neg (show ¬ (1 : Int32) = 0 by decide), d4, Option.bind_some] at hQ
        dsimp only at hQ
        rw [mlook (tMP hP hn s33d) d5 (by omega), Option.bind_some, c8, b5, a8, j2] at hQ
        have fI : ∀ k, k ≠ 32 → si4 k = si k := fun k hk => (d6 k hk).trans ((c9 k hk).trans ((b6 k hk).trans (a9 k hk)))
        have fJ : ∀ k, k ≠ 71 → sj3 k = sj k := fun k hk => (c10 k hk).trans (a10 k hk)
        by_cases e : LL (sa 0) n p4 = 35
        · have ee : ii (LL (sa 0) n p4) = 35 := by rw [e]; rfl
          rw [if_pos ee] at hC hQ
          obtain ⟨p5, si5, e1, e2, e3, e4, e5, e6⟩ := tremark (nf := nf) (sj := sj3) (sb := sb) hnf hP hn d2 s33d d5
          rw [e3, Option.bind_some] at hC
          rw [e4] at hQ
          have fI5 : ∀ k, k ≠ 32 → si5 k = si k := fun k hk => (e6 k hk).trans (fI k hk)
          have g := trow94 (nf := nf) hP hn fa pl (ii (p : Int)) (ii (p2 : Int)) (hJ.mov e5 fI5 fJ) a3 a4 c3 c4 e2
          rw [← hC, ← hQ]
          exact g.fr (by omega) (TF.mov fI5 fJ) (fI5 2 (by decide)) (fI5 36 (by decide))
        · have ee : ¬ ii (LL (sa 0) n p4) = 35 := by rw [ii_lit, ii_eq (by omega) (by omega) (by omega) (by omega)]; exact e
          rw [if_neg ee] at hC hQ
          rw [mlend hP hn d2 s33d d5] at hQ
          have g := trow94 (nf := nf) hP hn fa pl (ii (p : Int)) (ii (p2 : Int)) (hJ.mov d5 fI fJ) a3 a4 c3 c4 d2
          rw [← hC, ← hQ]
          exact g.fr (by omega) (TF.mov fI fJ) (fI 2 (by decide)) (fI 36 (by decide))
      · rw [c1, Option.bind_some] at hC
        rw [c2, Option.bind_some] at hQ
        dsimp only at hC hQ
        rw [if_neg (show ¬ (0 : Int64) ≤ -1 by decide)] at hC
        rw [if_pos rfl] at hQ
        refine Or.inr ⟨1, ii (p3 : Int), _, _, _, _, si3, sj3, sb, hC.symm, hQ.symm, c3, c4, TF.flt (fun k h1 h2 h3 => (c5 k h1 h2 h3).trans ((b6 k h1).trans (a9 k h1))) (fun k hk => (c6 k hk).trans (a10 k hk))⟩
    · rw [if_neg b, if_pos rfl] at hC hQ
      refine Or.inr ⟨1, ii (p1 : Int), _, _, _, _, va_up (va_up si1 36 1) 2 (si1 32), sj1, sb, hC.symm.trans rfl, hQ.symm.trans rfl, rfl, ?_, TF.flt (fun k h1 h2 h3 => by rw [vup_ne h3, vup_ne h2]; exact a9 k h1) a10⟩
      rw [vup_eq]
      exact a7
  · rw [a1, Option.bind_some] at hC
    rw [a2, Option.bind_some] at hQ
    dsimp only at hC hQ
    rw [if_neg (show ¬ (0 : Int64) ≤ -1 by decide)] at hC
    rw [if_pos rfl] at hQ
    exact Or.inr ⟨1, ii (p1 : Int), _, _, _, _, si1, sj1, sb, hC.symm, hQ.symm, a3, a4, TF.flt a5 a6⟩
/-- an expiry -/
def EOut (n p : Nat) (fa pl : Int32) (cn : Int32) (TI AH : Nat → Int64) (c : Nat) (tv av : Nat → Int) (cl : Option (Int32 × Int32 × Int32 × Int32 × Int32 × Int64)) (rf : Option (Int32 × MS)) (si : Nat → Int32) (sj : Nat → Int64) (sa : Nat → Nat → Int32) (sb : Nat → Nat → Int64) : Prop :=
  (∃ (ex : Int64) (si' : Nat → Int32) (sj' : Nat → Int64) (p' : Nat) (x : Int), cl = some (1, fa, pl, ii (p' : Int), 1, ex) ∧ rf = some (1, si', sj', sa, sb) ∧ TJ (ii (p' : Int)) 1 cn ex TI AH si' sj' sb n p' c true tv av x ∧ p < p' ∧ p' ≤ n ∧ TF si si' sj sj' sb sb ∧ si' 2 = si 2 ∧ si' 36 = si 36) ∨
  (∃ (f q po hb : Int32) (ex : Int64) (si' : Nat → Int32) (sj' : Nat → Int64), cl = some (0, f, q, po, hb, ex) ∧ rf = some (0, si', sj', sa, sb) ∧ si' 36 = f ∧ si' 2 = q ∧ TF si si' sj sj' sb sb)
theorem texp (hnf : 10000 ≤ nf) (hP : RB s N A n (sa 0)) (hn : n ≤ 6000) {hb cn : Int32} {ex : Int64} {TI AH : Nat → Int64} {si : Nat → Int32} {sj : Nat → Int64} {sb : Nat → Nat → Int64} {p c : Nat} {h : Bool} {tv av : Nat → Int} {x : Int} (fa pl : Int32) (hJ : TJ (ii (p : Int)) hb cn ex TI AH si sj sb n p c h tv av x) (hp : p + 2 ≤ n) :
    EOut n p fa pl cn TI AH c tv av (f_TP_readExpiry nf fa pl (ii (p : Int)) hb s N A ex) (f_Mo_expiryLine nf si sj sa sb) si sj sa sb := by
  obtain ⟨⟨_, j2, j3, j4, j5, _⟩, _⟩ := id hJ
  generalize hC : f_TP_readExpiry nf fa pl (ii (p : Int)) hb s N A ex = C
  generalize hQ : f_Mo_expiryLine nf si sj sa sb = Q
  unfold f_TP_readExpiry f_TP_readExpiry_0 at hC
  unfold f_Mo_expiryLine f_Mo_expiryLine_0 at hQ
  have e2 : ii (p : Int) + 2 = ii ((p + 2 : Nat) : Int) := by rw [ii_lit, ii_add]; rfl
  rw [e2] at hC
  rw [j2, e2] at hQ
  obtain ⟨p1, si1, b1, b2, b3, b4, b5, b6⟩ := tblanks (nf := nf) (sj := sj) (sb := sb) (si := va_up si 32 (ii ((p + 2 : Nat) : Int))) hnf hP hn hp (by rw [vup_ne (by decide)]; exact j3) rfl
  have f1 : ∀ k, k ≠ 32 → si1 k = si k := fun k hk => (b6 k hk).trans (vup_ne hk)
  have s33 : si1 33 = ii (n : Int) := (f1 33 (by decide)).trans j3
  rw [b3, Option.bind_some] at hC
  rw [b4, Option.bind_some] at hQ
  dsimp only at hQ
  rcases tdigits (nf := nf) (sj := sj) (sb := sb) hnf hP hn fa pl b2 s33 b5 with ⟨p2, v, si2, sj2, a1, a2, a3, a4, a5, a6, a7, a8, a9, a10⟩ | ⟨p2, si2, sj2, a1, a2, a3, a4, a5, a6⟩
  · have f2 : ∀ k, k ≠ 32 → si2 k = si k := fun k hk => (a9 k hk).trans (f1 k hk)
    have s33' : si2 33 = ii (n : Int) := (f2 33 (by decide)).trans j3
    rw [a5, Option.bind_some] at hC
    rw [a6, Option.bind_some] at hQ
    dsimp only at hC hQ
    obtain ⟨p3, si3, d1, d2, d3, d4, d5, d6⟩ := tblanks (nf := nf) (sj := sj2) (sb := sb) hnf hP hn a2 s33' a7
    have f3 : ∀ k, k ≠ 32 → si3 k = si k := fun k hk => (d6 k hk).trans (f2 k hk)
    have s33d : si3 33 = ii (n : Int) := (f3 33 (by decide)).trans j3
    rw [if_pos (jj0 a3 a4), d3, Option.bind_some, clend hP hn d2] at hC
    rw [if_neg (show ¬ (1 : Int32) = 0 by decide), d4, Option.bind_some] at hQ
    dsimp only at hQ
    rw [mlend hP hn d2 s33d d5] at hQ
    by_cases cl : LL (sa 0) n p3 = 10
    · have lt : p3 < n := LL_lt (T := sa 0) (E := n) (k := p3) (by omega)
      rw [if_pos cl, Option.bind_some] at hC hQ
      dsimp only at hC hQ
      rw [if_neg (show ¬ (1 : Int32) = 0 by decide)] at hC hQ
      have h70 : va_up si3 32 (ii ((p3 + 1 : Nat) : Int)) 70 = bI h := by rw [vup_ne (by decide), f3 70 (by decide), j5]
      have f4 : ∀ k, k ≠ 32 → va_up si3 32 (ii ((p3 + 1 : Nat) : Int)) k = si k := fun k hk => (vup_ne hk).trans (f3 k hk)
      cases h with
      | true =>
        rw [if_neg (show ¬ hb = 0 by rw [j4]; decide)] at hC
        rw [if_neg (show ¬ va_up si3 32 (ii ((p3 + 1 : Nat) : Int)) 70 = 0 by rw [h70]; decide)] at hQ
        refine Or.inr ⟨5, ii (p1 : Int), _, _, _, va_up (va_up (va_up si3 32 (ii ((p3 + 1 : Nat) : Int))) 36 5) 2 (si1 32), sj2, hC.symm.trans rfl, hQ.symm.trans rfl, rfl, ?_, TF.flt (fun k h1 h2 h3 => by rw [vup_ne h3, vup_ne h2]; exact f4 k h1) a10⟩
        rw [vup_eq]
        exact b5
      | false =>
        rw [if_pos (show hb = 0 by rw [j4]; rfl)] at hC
        rw [if_pos (show va_up si3 32 (ii ((p3 + 1 : Nat) : Int)) 70 = 0 by rw [h70]; rfl)] at hQ
        have hm := hJ.mov (si' := va_up si3 32 (ii ((p3 + 1 : Nat) : Int))) (sj' := sj2) (p' := p3 + 1) rfl f4 a10
        obtain ⟨⟨k1, k2, k3, k4, k5, k6, k7, k8⟩, k9, k10, k11⟩ := hm
        refine Or.inl ⟨jj v - 2208988800, va_up (va_up si3 32 (ii ((p3 + 1 : Nat) : Int))) 70 1, va_up sj2 69 (sj2 71), p3 + 1, v - 2208988800, hC.symm, hQ.symm, ⟨⟨rfl, by rw [vup_ne (by decide)]; exact k2, by rw [vup_ne (by decide)]; exact k3, rfl, vup_eq, k6, by rw [vup_ne (by decide)]; exact k7, k8⟩, k9, k10, fun _ => ⟨?_, ?_, by omega, by omega⟩⟩, by omega, by omega, ⟨fun k h1 h2 h3 h4 h5 => by rw [vup_ne h5]; exact f4 k h2, fun k h1 h2 => by rw [vup_ne h1]; exact a10 k h2, fun _ _ _ => rfl⟩, ?_, ?_⟩
        · rw [show (2208988800 : Int64) = jj 2208988800 from rfl, jj_sub]
        · rw [vup_eq, a8]
          congr 1
          omega
        · rw [vup_ne (by decide)]; exact f4 2 (by decide)
        · rw [vup_ne (by decide)]; exact f4 36 (by decide)
    · rw [if_neg cl, Option.bind_some] at hC hQ
      dsimp only at hC hQ
      rw [if_pos rfl] at hC hQ
      exact Or.inr ⟨1, ii (p3 : Int), _, _, _, _, sj2, hC.symm, hQ.symm, rfl, rfl, TF.flt (fun k h1 h2 h3 => by rw [vup_ne h3, vup_ne h2]; exact f3 k h1) a10⟩
  · rw [a1, Option.bind_some] at hC
    rw [a2, Option.bind_some] at hQ
    dsimp only at hC hQ
    rw [if_neg (show ¬ (0 : Int64) ≤ -1 by decide)] at hC
    rw [if_pos rfl] at hQ
    exact Or.inr ⟨1, ii (p2 : Int), _, _, _, si2, sj2, hC.symm, hQ.symm, a3, a4, TF.flt (fun k h1 h2 h3 => (a5 k h1 h2 h3).trans (f1 k h1)) a6⟩
end
