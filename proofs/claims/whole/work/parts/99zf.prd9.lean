/-! ===== read: the rows of a block, each with its room ===== -/
def kBk (a j : Nat) : Prop := (5 ≤ a ∧ a ≤ 10 ∧ j = 4) ∨ ((a = 13 ∨ a = 17) ∧ 800 ≤ j ∧ j < 1000) ∨ ((14 ≤ a ∧ a ≤ 16 ∨ a = 20 ∨ a = 21) ∧ 160 ≤ j ∧ j < 200)
def OkF (si si' : Nat → Int32) (sa sa' : Nat → Nat → Int32) (sb sb' : Nat → Nat → Int64) : Prop := (∀ k, k ≠ 32 → si' k = si k) ∧ (∀ a j, ¬ kBk a j → sa' a j = sa a j) ∧ ∀ b j, ¬ kBz 4 b j → sb' b j = sb b j
def BadO (si si' : Nat → Int32) (sa sa' : Nat → Nat → Int32) (sb sb' : Nat → Nat → Int64) (f pp : Int32) : Prop := si' 36 = f ∧ si' 2 = pp ∧ FlI si si' ∧ (∀ a j, ¬ kBk a j → sa' a j = sa a j) ∧ ∀ b j, ¬ kBz 4 b j → sb' b j = sb b j
theorem OkF.trans {si si' si'' : Nat → Int32} {sa sa' sa'' : Nat → Nat → Int32} {sb sb' sb'' : Nat → Nat → Int64} (h : OkF si si' sa sa' sb sb') (h' : OkF si' si'' sa' sa'' sb' sb'') : OkF si si'' sa sa'' sb sb'' :=
  ⟨fun k hk => (h'.1 k hk).trans (h.1 k hk), fun a j ha => (h'.2.1 a j ha).trans (h.2.1 a j ha), fun b j hb => (h'.2.2 b j hb).trans (h.2.2 b j hb)⟩
theorem BadO.after {si si' si'' : Nat → Int32} {sa sa' sa'' : Nat → Nat → Int32} {sb sb' sb'' : Nat → Nat → Int64} {f pp : Int32} (h' : BadO si' si'' sa' sa'' sb' sb'' f pp) (h : OkF si si' sa sa' sb sb') : BadO si si'' sa sa'' sb sb'' f pp :=
  ⟨h'.1, h'.2.1, fun k h1 h2 h3 => (h'.2.2.1 k h1 h2 h3).trans (h.1 k h2), fun a j ha => (h'.2.2.2.1 a j ha).trans (h.2.1 a j ha), fun b j hb => (h'.2.2.2.2 b j hb).trans (h.2.2 b j hb)⟩
theorem BadO.one {si : Nat → Int32} {sa : Nat → Nat → Int32} {sb : Nat → Nat → Int64} (f pp : Int32) : BadO si (va_up (va_up si 36 f) 2 pp) sa sa sb sb f pp :=
  ⟨rfl, rfl, fun k h1 h2 h3 => by rw [vup_ne h1, vup_ne h3], fun _ _ _ => rfl, fun _ _ _ => rfl⟩
section
variable {nf n : Nat} {s : Int32} {N : Nat} {A : Nat → Int32} {sj : Nat → Int64} {sb : Nat → Nat → Int64} {sa : Nat → Nat → Int32} {si : Nat → Int32}
theorem tmA (hnf : 10000 ≤ nf) (hP : RB s N A n (sa 0)) (hn : n ≤ 6000) {w c p : Nat} (hw : w = 4 ∨ w = 8) (hc : c ≤ 200) (h5 : sa 5 4 = ii (c : Int)) (h1 : si 1 = ii (n : Int)) (h32 : si 32 = ii (p : Int)) (hp : p ≤ n) (fa pl : Int32) (TI : Nat → Int64) :
    (∃ (TI' : Nat → Int64) (si' : Nat → Int32) (sb' : Nat → Nat → Int64) (tm' : Nat → Int), f_FP_readTimes nf (ii (w : Int)) fa pl (ii (p : Int)) s N A (ii (c : Int)) TI = some (1, fa, pl, ii ((p + w * c : Nat) : Int), TI') ∧ f_Mo_timeRows nf (ii (w : Int)) si sj sa sb = f_Mo_timeRows_26 nf 1 (ii (c : Int)) (ii (c : Int)) 4 (ii (w : Int)) si' sj sa sb' ∧ p + w * c ≤ n ∧ si' 32 = ii ((p + w * c : Nat) : Int) ∧ OkF si si' sa sa sb sb' ∧ TmK c TI' sb' tm') ∨
    (∃ (f pp po : Int32) (TI' : Nat → Int64) (si' : Nat → Int32) (sb' : Nat → Nat → Int64), f_FP_readTimes nf (ii (w : Int)) fa pl (ii (p : Int)) s N A (ii (c : Int)) TI = some (0, f, pp, po, TI') ∧ f_Mo_timeRows nf (ii (w : Int)) si sj sa sb = some (0, si', sj, sa, sb') ∧ BadO si si' sa sa sb sb' f pp) := by
  have n4 : ¬ ((4 : Int32) < 0 ∨ 5 ≤ 4) := by decide
  have z4 : (4 : Int32).toNatClampNeg = 4 := rfl
  have hwc : w * c ≤ 1600 := by rcases hw with rfl | rfl <;> omega
  have hw8 : w ≤ 8 := by omega
  have em : ii (w : Int) * ii (c : Int) = ii ((w * c : Nat) : Int) := by rw [ii_mul]; congr 1
  have jm : jj (w : Int) * jj (c : Int) = jj ((w * c : Nat) : Int) := by rw [jj_mul]; congr 1
  unfold f_FP_readTimes f_FP_readTimes_0 f_Mo_timeRows f_Mo_timeRows_0
  rw [em, chas (nf := nf) hP.1 hn hp (m := w * c) (by omega) fa pl, z4, if_neg n4, h5, ii_64 (by omega) (by omega), ii_64 (by omega) (by omega), jm, mhas (nf := nf) (sj := sj) (sa := sa) (sb := sb) h1 hn h32 hp (m := w * c) (by omega)]
  by_cases cc : p + w * c ≤ n
  · rw [if_pos cc, if_pos cc, Option.bind_some, Option.bind_some]
    dsimp only
    rw [if_neg (show ¬ (1 : Int32) = 0 by decide), if_neg (show ¬ (1 : Int32) = 0 by decide)]
    have r := tms (nf := nf) (sj := sj) (sa := sa) hnf hP hn (w := w) (c := c) hw hc fa pl c 0 p nf nf TI si sb (fun _ => 0) (by omega) cc (by omega) (by omega) h32 ⟨fun k hk => by omega, fun k hk => by omega⟩
    rw [show ii ((0 : Nat) : Int) = 0 from rfl] at r
    rcases r with ⟨TI', si', sb', tm', x1, x2, x3, x4, x5, x6⟩ | ⟨f, pp, po, TI', si', sb', x1, x2, x3, x4, x5, x6⟩
    · exact Or.inl ⟨TI', si', sb', tm', x1, x2, cc, x3, ⟨x4, fun _ _ _ => rfl, fun b j hb => x5 b j (by unfold kBz at hb; omega)⟩, x6⟩
    · exact Or.inr ⟨f, pp, po, TI', si', sb', x1, x2, x3, x4, x5, fun _ _ _ => rfl, fun b j hb => x6 b j (by unfold kBz at hb; omega)⟩
  · rw [if_neg cc, if_neg cc, Option.bind_some, Option.bind_some]
    dsimp only
    rw [if_pos rfl, if_pos rfl]
    exact Or.inr ⟨1, ii (n : Int), _, TI, _, sb, rfl, rfl, BadO.one 1 _⟩
theorem tmB (hnf : 10000 ≤ nf) (hP : RB s N A n (sa 0)) (hn : n ≤ 6000) {c y p : Nat} {x1 : Int32} (hc : c ≤ 200) (hy : y ≤ 40) (h6 : sa 6 4 = ii (y : Int)) (h1 : si 1 = ii (n : Int)) (h32 : si 32 = ii (p : Int)) (hp : p ≤ n) (fa pl : Int32) (TT : Nat → Int32) :
    (∃ (TT' : Nat → Int32) (si' : Nat → Int32) (sa' : Nat → Nat → Int32) (tt' : Nat → Nat), f_FP_readTimeTypes nf fa pl (ii (p : Int)) s N A (ii (c : Int)) (ii (y : Int)) TT = some (1, fa, pl, ii ((p + c : Nat) : Int), TT') ∧ f_Mo_timeRows_26 nf 1 (ii (c : Int)) (ii (c : Int)) 4 x1 si sj sa sb = some (1, si', sj, sa', sb) ∧ p + c ≤ n ∧ si' 32 = ii ((p + c : Nat) : Int) ∧ OkF si si' sa sa' sb sb ∧ (∀ a j, ¬ (a = 13 ∧ 800 ≤ j ∧ j < 1000) → sa' a j = sa a j) ∧ ∀ j, j < c → TT' j = ii (tt' j : Int) ∧ sa' 13 (800 + j) = ii (tt' j : Int) ∧ tt' j < y) ∨
    (∃ (f pp po : Int32) (TT' : Nat → Int32) (si' : Nat → Int32) (sa' : Nat → Nat → Int32), f_FP_readTimeTypes nf fa pl (ii (p : Int)) s N A (ii (c : Int)) (ii (y : Int)) TT = some (0, f, pp, po, TT') ∧ f_Mo_timeRows_26 nf 1 (ii (c : Int)) (ii (c : Int)) 4 x1 si sj sa sb = some (0, si', sj, sa', sb) ∧ BadO si si' sa sa' sb sb f pp) := by
  have le : ii (c : Int) ≤ ii (c : Int) := iple (c := 0) (d := 0) (by omega) (by omega)
  unfold f_FP_readTimeTypes f_FP_readTimeTypes_0
  rw [chas (nf := nf) hP.1 hn hp (m := c) (by omega) fa pl, show (1 : Nat) = 0 + 1 from rfl, f_Mo_timeRows_26, if_pos le, ii_64 (by omega) (by omega), mhas (nf := nf) (sj := sj) (sa := sa) (sb := sb) h1 hn h32 hp (m := c) (by omega)]
  by_cases cc : p + c ≤ n
  · rw [if_pos cc, if_pos cc, Option.bind_some, Option.bind_some]
    dsimp only
    rw [if_neg (show ¬ (1 : Int32) = 0 by decide), if_neg (show ¬ (1 : Int32) = 0 by decide)]
    have r := tts (nf := nf) (s := s) (N := N) (A := A) (n := n) (sj := sj) (sb := sb) hnf hn (c := c) (y := y) hc hy fa pl c 0 p nf nf TT si sa (fun _ => 0) hP h6 (by omega) cc (by omega) (by omega) h32 (fun k hk => by omega)
    rw [show ii ((0 : Nat) : Int) = 0 from rfl] at r
    rcases r with ⟨TT', si', sa', tt', x1, x2, x3, x4, x5, x6⟩ | ⟨f, pp, po, TT', si', sa', x1, x2, x3, x4, x5, x6⟩
    · exact Or.inl ⟨TT', si', sa', tt', x1, x2, cc, x3, ⟨x4, fun a j ha => x5 a j (by unfold kBk at ha; omega), fun _ _ _ => rfl⟩, x5, x6⟩
    · exact Or.inr ⟨f, pp, po, TT', si', sa', x1, x2, x3, x4, x5, fun a j ha => x6 a j (by unfold kBk at ha; omega), fun _ _ _ => rfl⟩
  · rw [if_neg cc, if_neg cc, Option.bind_some, Option.bind_some]
    dsimp only
    rw [if_pos rfl, if_pos rfl]
    exact Or.inr ⟨1, ii (n : Int), _, TT, _, sa, rfl, rfl, BadO.one 1 _⟩
theorem tyA (hnf : 10000 ≤ nf) (hP : RB s N A n (sa 0)) (hn : n ≤ 6000) {y cc p : Nat} (hy : y ≤ 40) (hcc : cc ≤ 200) {W : Nat → Int64} (hW : W 5 = jj (cc : Int)) (h6 : sa 6 4 = ii (y : Int)) (h7 : sa 7 4 = ii (cc : Int)) (h1 : si 1 = ii (n : Int)) (h32 : si 32 = ii (p : Int)) (hp : p ≤ n) (fa pl : Int32) (OF DS IX : Nat → Int32) :
    (∃ (OF' DS' IX' : Nat → Int32) (si' : Nat → Int32) (sa' : Nat → Nat → Int32) (of' ds' : Nat → Int) (ix' : Nat → Nat), f_FP_readTypes nf fa pl (ii (p : Int)) s N A (ii (y : Int)) OF DS IX W = some (1, fa, pl, ii ((p + 6 * y : Nat) : Int), OF', DS', IX') ∧ f_Mo_typeRows nf si sj sa sb = some (1, si', sj, sa', sb) ∧ p + 6 * y ≤ n ∧ si' 32 = ii ((p + 6 * y : Nat) : Int) ∧ OkF si si' sa sa' sb sb ∧ (∀ a j, ¬ kTy a j → sa' a j = sa a j) ∧ TyK y cc OF' DS' IX' sa' of' ds' ix') ∨
    (∃ (f pp po : Int32) (OF' DS' IX' : Nat → Int32) (si' : Nat → Int32) (sa' : Nat → Nat → Int32), f_FP_readTypes nf fa pl (ii (p : Int)) s N A (ii (y : Int)) OF DS IX W = some (0, f, pp, po, OF', DS', IX') ∧ f_Mo_typeRows nf si sj sa sb = some (0, si', sj, sa', sb) ∧ BadO si si' sa sa' sb sb f pp) := by
  have n4 : ¬ ((4 : Int32) < 0 ∨ 5 ≤ 4) := by decide
  have z4 : (4 : Int32).toNatClampNeg = 4 := rfl
  have em : 6 * ii (y : Int) = ii ((6 * y : Nat) : Int) := by rw [show (6 : Int32) = ii 6 from rfl, ii_mul]; congr 1
  have jm : 6 * jj (y : Int) = jj ((6 * y : Nat) : Int) := by rw [show (6 : Int64) = jj 6 from rfl, jj_mul]; congr 1
  unfold f_FP_readTypes f_FP_readTypes_0 f_Mo_typeRows f_Mo_typeRows_0
  rw [em, chas (nf := nf) hP.1 hn hp (m := 6 * y) (by omega) fa pl, z4, if_neg n4, h6, ii_64 (by omega) (by omega), jm, mhas (nf := nf) (sj := sj) (sa := sa) (sb := sb) h1 hn h32 hp (m := 6 * y) (by omega)]
  by_cases c : p + 6 * y ≤ n
  · rw [if_pos c, if_pos c, Option.bind_some, Option.bind_some]
    dsimp only
    rw [if_neg (show ¬ (1 : Int32) = 0 by decide), if_neg (show ¬ (1 : Int32) = 0 by decide)]
    have r := tys (nf := nf) (s := s) (N := N) (A := A) (n := n) (sj := sj) (sb := sb) hnf hn (y := y) (cc := cc) hy hcc hW fa pl y 0 p nf nf OF DS IX si sa (fun _ => 0) (fun _ => 0) (fun _ => 0) hP h6 h7 (by omega) c (by omega) (by omega) h32 (fun k hk => by omega)
    rw [show ii ((0 : Nat) : Int) = 0 from rfl] at r
    rcases r with ⟨OF', DS', IX', si', sa', of', ds', ix', x1, x2, x3, x4, x5, x6⟩ | ⟨f, pp, po, OF', DS', IX', si', sa', x1, x2, x3, x4, x5, x6⟩
    · exact Or.inl ⟨OF', DS', IX', si', sa', of', ds', ix', x1, x2, c, x3, ⟨x4, fun a j ha => x5 a j (by unfold kBk at ha; unfold kTy; omega), fun _ _ _ => rfl⟩, x5, x6⟩
    · exact Or.inr ⟨f, pp, po, OF', DS', IX', si', sa', x1, x2, x3, x4, x5, fun a j ha => x6 a j (by unfold kBk at ha; unfold kTy; omega), fun _ _ _ => rfl⟩
  · rw [if_neg c, if_neg c, Option.bind_some, Option.bind_some]
    dsimp only
    rw [if_pos rfl, if_pos rfl]
    exact Or.inr ⟨1, ii (n : Int), _, OF, DS, IX, _, sa, rfl, rfl, BadO.one 1 _⟩
theorem lpA (hnf : 10000 ≤ nf) (hP : RB s N A n (sa 0)) (hn : n ≤ 6000) {w l p : Nat} (hw : w = 4 ∨ w = 8) (hl : l ≤ 40) (h8 : sa 8 4 = ii (l : Int)) (h1 : si 1 = ii (n : Int)) (h32 : si 32 = ii (p : Int)) (hp : p ≤ n) (fa pl : Int32) (LT : Nat → Int64) (LO : Nat → Int32) :
    (∃ (LT' : Nat → Int64) (LO' : Nat → Int32) (si' : Nat → Int32) (sb' : Nat → Nat → Int64) (lv' : Nat → Int), f_FP_readLeaps nf (ii (w : Int)) fa pl (ii (p : Int)) s N A (ii (l : Int)) LT LO = some (1, fa, pl, ii ((p + (w + 4) * l : Nat) : Int), LT', LO') ∧ f_Mo_leapRows nf (ii (w : Int)) si sj sa sb = some (1, si', sj, sa, sb') ∧ p + (w + 4) * l ≤ n ∧ si' 32 = ii ((p + (w + 4) * l : Nat) : Int) ∧ OkF si si' sa sa sb sb' ∧ (∀ b j, ¬ kLe b j → sb' b j = sb b j) ∧ LeK l LT' LO' sb' lv') ∨
    (∃ (f pp po : Int32) (LT' : Nat → Int64) (LO' : Nat → Int32) (si' : Nat → Int32) (sb' : Nat → Nat → Int64), f_FP_readLeaps nf (ii (w : Int)) fa pl (ii (p : Int)) s N A (ii (l : Int)) LT LO = some (0, f, pp, po, LT', LO') ∧ f_Mo_leapRows nf (ii (w : Int)) si sj sa sb = some (0, si', sj, sa, sb') ∧ BadO si si' sa sa sb sb' f pp) := by
  have n4 : ¬ ((4 : Int32) < 0 ∨ 5 ≤ 4) := by decide
  have z4 : (4 : Int32).toNatClampNeg = 4 := rfl
  have hwc : (w + 4) * l ≤ 480 := by rcases hw with rfl | rfl <;> omega
  have em : (ii (w : Int) + 4) * ii (l : Int) = ii (((w + 4) * l : Nat) : Int) := by rw [show (4 : Int32) = ii 4 from rfl, ii_add, ii_mul]; congr 1
  have jm : (jj (w : Int) + 4) * jj (l : Int) = jj (((w + 4) * l : Nat) : Int) := by rw [show (4 : Int64) = jj 4 from rfl, jj_add, jj_mul]; congr 1
  unfold f_FP_readLeaps f_FP_readLeaps_0 f_Mo_leapRows f_Mo_leapRows_0
  rw [em, chas (nf := nf) hP.1 hn hp (m := (w + 4) * l) (by omega) fa pl, z4, if_neg n4, h8, ii_64 (by omega) (by omega), ii_64 (by omega) (by omega), jm, mhas (nf := nf) (sj := sj) (sa := sa) (sb := sb) h1 hn h32 hp (m := (w + 4) * l) (by omega)]
  by_cases cc : p + (w + 4) * l ≤ n
  · rw [if_pos cc, if_pos cc, Option.bind_some, Option.bind_some]
    dsimp only
    rw [if_neg (show ¬ (1 : Int32) = 0 by decide), if_neg (show ¬ (1 : Int32) = 0 by decide)]
    have r := lps (nf := nf) (sj := sj) (sa := sa) hnf hP hn (w := w) (l := l) hw hl h8 fa pl l 0 p nf nf LT LO si sb (fun _ => 0) (by omega) cc (by omega) (by omega) h32 (fun k hk => by omega)
    rw [show ii ((0 : Nat) : Int) = 0 from rfl] at r
    rcases r with ⟨LT', LO', si', sb', lv', x1, x2, x3, x4, x5, x6⟩ | ⟨f, pp, po, LT', LO', si', sb', x1, x2, x3, x4, x5, x6⟩
    · exact Or.inl ⟨LT', LO', si', sb', lv', x1, x2, cc, x3, ⟨x4, fun _ _ _ => rfl, fun b j hb => x5 b j (by unfold kBz at hb; unfold kLe; omega)⟩, x5, x6⟩
    · exact Or.inr ⟨f, pp, po, LT', LO', si', sb', x1, x2, x3, x4, x5, fun _ _ _ => rfl, fun b j hb => x6 b j (by unfold kBz at hb; unfold kLe; omega)⟩
  · rw [if_neg cc, if_neg cc, Option.bind_some, Option.bind_some]
    dsimp only
    rw [if_pos rfl, if_pos rfl]
    exact Or.inr ⟨1, ii (n : Int), _, LT, LO, _, sb, rfl, rfl, BadO.one 1 _⟩
theorem flA (hnf : 10000 ≤ nf) (hP : RB s N A n (sa 0)) (hn : n ≤ 6000) {d0 p : Nat} (hd : d0 ≤ 40) (h9 : sa 9 4 = ii (d0 : Int)) (h1 : si 1 = ii (n : Int)) (h32 : si 32 = ii (p : Int)) (hp : p ≤ n) (fa pl : Int32) (SD : Nat → Int32) :
    (∃ (SD' : Nat → Int32) (si' : Nat → Int32) (sa' : Nat → Nat → Int32), f_FP_readStds nf fa pl (ii (p : Int)) s N A (ii (d0 : Int)) SD = some (1, fa, pl, ii ((p + d0 : Nat) : Int), SD') ∧ f_Mo_flagRows nf si sj sa sb = f_Mo_flagRows_20 nf 1 (ii (d0 : Int)) 4 si' sj sa' sb ∧ p + d0 ≤ n ∧ si' 32 = ii ((p + d0 : Nat) : Int) ∧ OkF si si' sa sa' sb sb ∧ (∀ a j, ¬ (a = 20 ∧ 160 ≤ j ∧ j < 200) → sa' a j = sa a j) ∧ ∀ j, j < d0 → SD' j = sa' 20 (160 + j) ∧ (SD' j = 0 ∨ SD' j = 1)) ∨
    (∃ (f pp po : Int32) (SD' : Nat → Int32) (si' : Nat → Int32) (sa' : Nat → Nat → Int32), f_FP_readStds nf fa pl (ii (p : Int)) s N A (ii (d0 : Int)) SD = some (0, f, pp, po, SD') ∧ f_Mo_flagRows nf si sj sa sb = some (0, si', sj, sa', sb) ∧ BadO si si' sa sa' sb sb f pp) := by
  have n4 : ¬ ((4 : Int32) < 0 ∨ 5 ≤ 4) := by decide
  have z4 : (4 : Int32).toNatClampNeg = 4 := rfl
  unfold f_FP_readStds f_FP_readStds_0 f_Mo_flagRows f_Mo_flagRows_0
  rw [chas (nf := nf) hP.1 hn hp (m := d0) (by omega) fa pl, z4, if_neg n4, h9, ii_64 (by omega) (by omega), mhas (nf := nf) (sj := sj) (sa := sa) (sb := sb) h1 hn h32 hp (m := d0) (by omega)]
  by_cases cc : p + d0 ≤ n
  · rw [if_pos cc, if_pos cc, Option.bind_some, Option.bind_some]
    dsimp only
    rw [if_neg (show ¬ (1 : Int32) = 0 by decide), if_neg (show ¬ (1 : Int32) = 0 by decide)]
    have r := fls (nf := nf) (s := s) (N := N) (A := A) (n := n) (sj := sj) (sb := sb) hnf hn (d0 := d0) hd fa pl d0 0 p nf nf SD si sa hP h9 (by omega) cc (by omega) (by omega) h32 (fun k hk => by omega)
    rw [show ii ((0 : Nat) : Int) = 0 from rfl] at r
    rcases r with ⟨SD', si', sa', x1, x2, x3, x4, x5, x6⟩ | ⟨f, pp, po, SD', si', sa', x1, x2, x3, x4, x5, x6⟩
    · exact Or.inl ⟨SD', si', sa', x1, x2, cc, x3, ⟨x4, fun a j ha => x5 a j (by unfold kBk at ha; omega), fun _ _ _ => rfl⟩, x5, x6⟩
    · exact Or.inr ⟨f, pp, po, SD', si', sa', x1, x2, x3, x4, x5, fun a j ha => x6 a j (by unfold kBk at ha; omega), fun _ _ _ => rfl⟩
  · rw [if_neg cc, if_neg cc, Option.bind_some, Option.bind_some]
    dsimp only
    rw [if_pos rfl, if_pos rfl]
    exact Or.inr ⟨1, ii (n : Int), _, SD, _, sa, rfl, rfl, BadO.one 1 _⟩
theorem flB (hnf : 10000 ≤ nf) (hP : RB s N A n (sa 0)) (hn : n ≤ 6000) {d0 u0 p : Nat} (hd : d0 ≤ 40) (hu : u0 ≤ 40) (hdu : d0 = 0 ∨ u0 ≤ d0) {SD : Nat → Int32} (h9 : sa 9 4 = ii (d0 : Int)) (h10 : sa 10 4 = ii (u0 : Int)) (hS : ∀ j, j < d0 → SD j = sa 20 (160 + j) ∧ (SD j = 0 ∨ SD j = 1)) (h1 : si 1 = ii (n : Int)) (h32 : si 32 = ii (p : Int)) (hp : p ≤ n) (fa pl : Int32) (UT : Nat → Int32) :
    (∃ (UT' : Nat → Int32) (si' : Nat → Int32) (sa' : Nat → Nat → Int32), f_FP_readUts nf fa pl (ii (p : Int)) s N A (ii (d0 : Int)) (ii (u0 : Int)) SD UT = some (1, fa, pl, ii ((p + u0 : Nat) : Int), UT') ∧ f_Mo_flagRows_20 nf 1 (ii (d0 : Int)) 4 si sj sa sb = some (1, si', sj, sa', sb) ∧ p + u0 ≤ n ∧ si' 32 = ii ((p + u0 : Nat) : Int) ∧ OkF si si' sa sa' sb sb ∧ (∀ a j, ¬ (a = 21 ∧ 160 ≤ j ∧ j < 200) → sa' a j = sa a j) ∧ ∀ j, j < u0 → UT' j = sa' 21 (160 + j)) ∨
    (∃ (f pp po : Int32) (UT' : Nat → Int32) (si' : Nat → Int32) (sa' : Nat → Nat → Int32), f_FP_readUts nf fa pl (ii (p : Int)) s N A (ii (d0 : Int)) (ii (u0 : Int)) SD UT = some (0, f, pp, po, UT') ∧ f_Mo_flagRows_20 nf 1 (ii (d0 : Int)) 4 si sj sa sb = some (0, si', sj, sa', sb) ∧ BadO si si' sa sa' sb sb f pp) := by
  have n4 : ¬ ((4 : Int32) < 0 ∨ 5 ≤ 4) := by decide
  have z4 : (4 : Int32).toNatClampNeg = 4 := rfl
  have le : ii (d0 : Int) ≤ ii (d0 : Int) := iple (c := 0) (d := 0) (by omega) (by omega)
  unfold f_FP_readUts f_FP_readUts_0
  rw [chas (nf := nf) hP.1 hn hp (m := u0) (by omega) fa pl, show (1 : Nat) = 0 + 1 from rfl, f_Mo_flagRows_20, z4, if_neg n4, h9, if_pos le, if_neg n4, h10, ii_64 (by omega) (by omega), mhas (nf := nf) (sj := sj) (sa := sa) (sb := sb) h1 hn h32 hp (m := u0) (by omega)]
  by_cases cc : p + u0 ≤ n
  · rw [if_pos cc, if_pos cc, Option.bind_some, Option.bind_some]
    dsimp only
    rw [if_neg (show ¬ (1 : Int32) = 0 by decide), if_neg (show ¬ (1 : Int32) = 0 by decide)]
    have r := uts (nf := nf) (s := s) (N := N) (A := A) (n := n) (sj := sj) (sb := sb) hnf hn (d0 := d0) (u0 := u0) hd hu hdu (SD := SD) fa pl u0 0 p nf nf UT si sa hP h9 h10 hS (by omega) cc (by omega) (by omega) h32 (fun k hk => by omega)
    rw [show ii ((0 : Nat) : Int) = 0 from rfl] at r
    rcases r with ⟨UT', si', sa', x1, x2, x3, x4, x5, x6⟩ | ⟨f, pp, po, UT', si', sa', x1, x2, x3, x4, x5, x6⟩
    · exact Or.inl ⟨UT', si', sa', x1, x2, cc, x3, ⟨x4, fun a j ha => x5 a j (by unfold kBk at ha; omega), fun _ _ _ => rfl⟩, x5, x6⟩
    · exact Or.inr ⟨f, pp, po, UT', si', sa', x1, x2, x3, x4, x5, fun a j ha => x6 a j (by unfold kBk at ha; omega), fun _ _ _ => rfl⟩
  · rw [if_neg cc, if_neg cc, Option.bind_some, Option.bind_some]
    dsimp only
    rw [if_pos rfl, if_pos rfl]
    exact Or.inr ⟨1, ii (n : Int), _, UT, _, sa, rfl, rfl, BadO.one 1 _⟩
end
