/-! ===== read: a block, whole ===== -/
theorem vuX {X sa : Nat → Nat → Int32} {a k b j : Nat} {v : Int32} (h : ¬ (b = a ∧ j = k)) (hX : X b j = sa b j) : va_up X a (upd (sa a) k v) b j = sa b j := by
  by_cases c : b = a
  · subst c
    rw [vup_eq, upd_ne (fun e => h ⟨rfl, e⟩)]
  · rw [vup_ne c]
    exact hX
def BkZ (sa : Nat → Nat → Int32) (sb : Nat → Nat → Int64) (vs : Nat → Nat) (TI : Nat → Int64) (TT OF DS IX SD UT : Nat → Int32) (NN : Nat) (AA : Nat → Int32) (LT : Nat → Int64) (LO : Nat → Int32) : Prop :=
  (sa 5 4 = ii (vs 3 : Int) ∧ sa 6 4 = ii (vs 4 : Int) ∧ sa 7 4 = ii (vs 5 : Int) ∧ sa 8 4 = ii (vs 2 : Int) ∧ sa 9 4 = ii (vs 1 : Int) ∧ sa 10 4 = ii (vs 0 : Int)) ∧ RB (ii (vs 5 : Int)) NN AA (vs 5) (fun q => sa 17 (800 + q)) ∧
  ∃ (tm : Nat → Int) (tt : Nat → Nat) (of ds : Nat → Int) (ix sz : Nat → Nat) (lv : Nat → Int), TmK (vs 3) TI sb tm ∧ (∀ j, j < vs 3 → TT j = ii (tt j : Int) ∧ sa 13 (800 + j) = ii (tt j : Int) ∧ tt j < vs 4) ∧ TyK (vs 4) (vs 5) OF DS IX sa of ds ix ∧ (∀ k, k < vs 4 → nam0 (fun q => sa 17 (800 + q)) (vs 5) (ix k) (sz k)) ∧ (∀ j, j < vs 1 → SD j = sa 20 (160 + j)) ∧ (∀ j, j < vs 0 → UT j = sa 21 (160 + j)) ∧ LeK (vs 2) LT LO sb lv
abbrev BkT := ((Int32 × Int32 × Int32 × Int32 × Int32 × Int32 × Int32 × Int32 × Int32 × (Nat → Int64) × (Nat → Int32) × (Nat → Int32) × (Nat → Int32) × (Nat → Int32) × (Nat → Int32) × (Nat → Int32) × Int32 × Nat × (Nat → Int32) × (Nat → Int64) × (Nat → Int32)) × Nat × Nat)
def BlkO (n : Nat) (fa pl : Int32) (vs : Nat → Nat) (NN : Nat) (cl : Option BkT) (rf : Option (Int32 × MS)) (si : Nat → Int32) (sj : Nat → Int64) (sa : Nat → Nat → Int32) (sb : Nat → Nat → Int64) : Prop :=
  (∃ (q : Nat) (TI : Nat → Int64) (TT OF DS IX SD UT : Nat → Int32) (NN' : Nat) (AA' : Nat → Int32) (LT : Nat → Int64) (LO : Nat → Int32) (kc ks : Nat) (si' : Nat → Int32) (sa' : Nat → Nat → Int32) (sb' : Nat → Nat → Int64),
    cl = some ((1, fa, pl, ii (q : Int), ii (vs 3 : Int), ii (vs 4 : Int), ii (vs 2 : Int), ii (vs 1 : Int), ii (vs 0 : Int), TI, TT, OF, DS, IX, SD, UT, ii (vs 5 : Int), NN', AA', LT, LO), kc, ks) ∧ rf = some (1, si', sj, sa', sb') ∧ q ≤ n ∧ si' 32 = ii (q : Int) ∧ OkF si si' sa sa' sb sb' ∧ kc + NN ≤ NN' ∧ ks + 2 * NN ≤ 2 * NN' ∧ BkZ sa' sb' vs TI TT OF DS IX SD UT NN' AA' LT LO) ∨
  (∃ (f pp po e1 e2 e3 e4 e5 : Int32) (TI : Nat → Int64) (TT OF DS IX SD UT : Nat → Int32) (cs' : Int32) (NN' : Nat) (AA' : Nat → Int32) (LT : Nat → Int64) (LO : Nat → Int32) (kc ks : Nat) (si' : Nat → Int32) (sa' : Nat → Nat → Int32) (sb' : Nat → Nat → Int64) (c' : Nat) (T' : Nat → Int32),
    cl = some ((0, f, pp, po, e1, e2, e3, e4, e5, TI, TT, OF, DS, IX, SD, UT, cs', NN', AA', LT, LO), kc, ks) ∧ rf = some (0, si', sj, sa', sb') ∧ BadO si si' sa sa' sb sb' f pp ∧ RB cs' NN' AA' c' T' ∧ kc + NN ≤ NN' ∧ ks + 2 * NN ≤ 2 * NN')
section
variable {nf n : Nat} {s : Int32} {N : Nat} {A : Nat → Int32} {sj : Nat → Int64} {sb : Nat → Nat → Int64} {sa : Nat → Nat → Int32} {si : Nat → Int32}
theorem blk (hnf : 10000 ≤ nf) (hP : RB s N A n (sa 0)) (hn : n ≤ 6000) {w p : Nat} (hw : w = 4 ∨ w = 8) {W : Nat → Int64} {vs : Nat → Nat} (hv : ∀ j, j < 6 → W j = jj (vs j : Int) ∧ sb 37 j = jj (vs j : Int) ∧ cntOK j (vs j) (vs 4)) (h1 : si 1 = ii (n : Int)) (h32 : si 32 = ii (p : Int)) (hp : p ≤ n) (fa pl : Int32) {e1 e2 e3 e4 e5 : Int32} {TI LT : Nat → Int64} {TT OF DS IX SD UT AA LO T0 : Nat → Int32} {cs : Int32} {NN c0 : Nat} (hb : RB cs NN AA c0 T0) {spx ssx upx usx txS : Int32} {txN : Nat} {txA : Nat → Int32} :
    BlkO n fa pl vs NN (f_FP_readBlock nf (ii (w : Int)) fa pl (ii (p : Int)) s N A e1 e2 e3 e4 e5 TI TT OF DS IX SD UT cs NN AA LT LO spx ssx upx usx txS txN txA W) (f_Mo_block nf (ii (w : Int)) si sj sa sb) si sj sa sb := by
  have n45 : ¬ ((4 : Int32) < 0 ∨ 5 ≤ 4) := by decide
  have z0 : (0 : Int32).toNatClampNeg = 0 := rfl
  have z1 : (1 : Int32).toNatClampNeg = 1 := rfl
  have z2 : (2 : Int32).toNatClampNeg = 2 := rfl
  have z3 : (3 : Int32).toNatClampNeg = 3 := rfl
  have z4 : (4 : Int32).toNatClampNeg = 4 := rfl
  have z5 : (5 : Int32).toNatClampNeg = 5 := rfl
  obtain ⟨v3, b3, c3⟩ := hv 3 (by omega)
  obtain ⟨v4, b4, c4⟩ := hv 4 (by omega)
  obtain ⟨v2, b2, c2⟩ := hv 2 (by omega)
  obtain ⟨v1, b1, c1⟩ := hv 1 (by omega)
  obtain ⟨v0, b0, c0'⟩ := hv 0 (by omega)
  obtain ⟨v5, b5, c5⟩ := hv 5 (by omega)
  have m3 : vs 3 ≤ 200 := c3.2.2.1 rfl
  have m4 : 1 ≤ vs 4 ∧ vs 4 ≤ 40 := c4.2.2.2.1 rfl
  have m2 : vs 2 ≤ 40 := c2.2.1 rfl
  have m1 : vs 1 = 0 ∨ vs 1 = vs 4 := c1.1 (by omega)
  have m0 : vs 0 = 0 ∨ vs 0 = vs 4 := c0'.1 (by omega)
  have m5 : 1 ≤ vs 5 ∧ vs 5 ≤ 200 := c5.2.2.2.2 rfl
  have k3 : f_FP_count nf 3 W = some (ii (vs 3 : Int)) := cnt5 (k := 3) (by omega) v3
  have k4 : f_FP_count nf 4 W = some (ii (vs 4 : Int)) := cnt5 (k := 4) (by omega) v4
  have k2 : f_FP_count nf 2 W = some (ii (vs 2 : Int)) := cnt5 (k := 2) (by omega) v2
  have k1 : f_FP_count nf 1 W = some (ii (vs 1 : Int)) := cnt5 (k := 1) (by omega) v1
  have k0 : f_FP_count nf 0 W = some (ii (vs 0 : Int)) := cnt5 (k := 0) (by omega) v0
  unfold f_FP_readBlock f_FP_readBlock_0 f_Mo_block f_Mo_block_0
  rw [k3, Option.bind_some, k4, Option.bind_some, k2, Option.bind_some, k1, Option.bind_some, k0, Option.bind_some]
  rw [z0, z1, z2, z3, z4, z5, if_neg (show ¬ ((0 : Int32) < 0 ∨ 6 ≤ 0) by decide), if_neg n45, if_neg (show ¬ ((1 : Int32) < 0 ∨ 6 ≤ 1) by decide), if_neg n45, if_neg (show ¬ ((2 : Int32) < 0 ∨ 6 ≤ 2) by decide), if_neg n45, if_neg (show ¬ ((3 : Int32) < 0 ∨ 6 ≤ 3) by decide), if_neg n45, if_neg (show ¬ ((4 : Int32) < 0 ∨ 6 ≤ 4) by decide), if_neg n45, if_neg (show ¬ ((5 : Int32) < 0 ∨ 6 ≤ 5) by decide), if_neg n45, b0, b1, b2, b3, b4, b5, jj_32, jj_32, jj_32, jj_32, jj_32, jj_32]
  obtain ⟨sa0, hsa⟩ : ∃ sa0 : Nat → Nat → Int32, va_up (va_up (va_up (va_up (va_up (va_up sa 10 (upd (sa 10) 4 (ii (vs 0 : Int)))) 9 (upd (sa 9) 4 (ii (vs 1 : Int)))) 8 (upd (sa 8) 4 (ii (vs 2 : Int)))) 5 (upd (sa 5) 4 (ii (vs 3 : Int)))) 6 (upd (sa 6) 4 (ii (vs 4 : Int)))) 7 (upd (sa 7) 4 (ii (vs 5 : Int))) = sa0 := ⟨_, rfl⟩
  rw [hsa]
  have F0 : OkF si si sa sa0 sb sb := by
    refine ⟨fun _ _ => rfl, fun a j ha => ?_, fun _ _ _ => rfl⟩
    unfold kBk at ha
    rw [← hsa]
    exact vuX (by omega) (vuX (by omega) (vuX (by omega) (vuX (by omega) (vuX (by omega) (vuX (by omega) rfl)))))
  have q5 : sa0 5 4 = ii (vs 3 : Int) := by rw [← hsa]; rfl
  have q6 : sa0 6 4 = ii (vs 4 : Int) := by rw [← hsa]; rfl
  have q7 : sa0 7 4 = ii (vs 5 : Int) := by rw [← hsa]; rfl
  have q8 : sa0 8 4 = ii (vs 2 : Int) := by rw [← hsa]; rfl
  have q9 : sa0 9 4 = ii (vs 1 : Int) := by rw [← hsa]; rfl
  have q10 : sa0 10 4 = ii (vs 0 : Int) := by rw [← hsa]; rfl
  have P0 : RB s N A n (sa0 0) := hP.T_congr (fun j _ => (F0.2.1 0 j (by unfold kBk; omega)).symm)
  clear hsa
  -- times
  rcases tmA (nf := nf) (sj := sj) (sb := sb) hnf P0 hn hw m3 q5 h1 h32 hp fa pl TI with ⟨TI', i1, s1, tm, x1, x2, x3, x4, F1, K1⟩ | ⟨f, pp, po, TI', i1, s1, x1, x2, B⟩
  rotate_left
  · rw [x1, Option.bind_some, x2, Option.bind_some]
    exact Or.inr ⟨f, pp, po, _, _, _, _, _, TI', _, _, _, _, _, _, cs, NN, AA, _, _, 0, 0, i1, sa0, s1, c0, T0, rfl, rfl, B.after F0, hb, by omega, by omega⟩
  rw [x1, Option.bind_some, x2]
  dsimp only
  rw [if_neg (show ¬ (1 : Int32) = 0 by decide)]
  clear x1 x2
  have G1 := F0.trans F1
  rcases tmB (nf := nf) (sj := sj) (sb := s1) (x1 := ii (w : Int)) hnf P0 hn m3 m4.2 q6 ((G1.1 1 (by decide)).trans h1) x4 x3 fa pl TT with ⟨TT', i2, a2, tt, x1, x2, y3, y4, F2, R2, K2⟩ | ⟨f, pp, po, TT', i2, a2, x1, x2, B⟩
  rotate_left
  · rw [x1, Option.bind_some, x2, Option.bind_some]
    exact Or.inr ⟨f, pp, po, _, _, _, _, _, TI', TT', _, _, _, _, _, cs, NN, AA, _, _, 0, 0, i2, a2, s1, c0, T0, rfl, rfl, B.after G1, hb, by omega, by omega⟩
  rw [x1, Option.bind_some, x2, Option.bind_some]
  dsimp only
  rw [if_neg (show ¬ (1 : Int32) = 0 by decide), if_neg (show ¬ (1 : Int32) = 0 by decide)]
  clear x1 x2
  have G2 := G1.trans F2
  have P2 : RB s N A n (a2 0) := hP.T_congr (fun j _ => (G2.2.1 0 j (by unfold kBk; omega)).symm)
  -- types
  rcases tyA (nf := nf) (sj := sj) (sb := s1) hnf P2 hn m4.2 m5.2 v5 ((R2 6 4 (by omega)).trans q6) ((R2 7 4 (by omega)).trans q7) ((G2.1 1 (by decide)).trans h1) y4 y3 fa pl OF DS IX with ⟨OF', DS', IX', i3, a3, of, ds, ix, x1, x2, u3, u4, F3, R3, K3⟩ | ⟨f, pp, po, OF', DS', IX', i3, a3, x1, x2, B⟩
  rotate_left
  · rw [x1, Option.bind_some, x2, Option.bind_some]
    exact Or.inr ⟨f, pp, po, _, _, _, _, _, TI', TT', OF', DS', IX', _, _, cs, NN, AA, _, _, 0, 0, i3, a3, s1, c0, T0, rfl, rfl, B.after G2, hb, by omega, by omega⟩
  rw [x1, Option.bind_some, x2, Option.bind_some]
  dsimp only
  rw [if_neg (show ¬ (1 : Int32) = 0 by decide), if_neg (show ¬ (1 : Int32) = 0 by decide)]
  clear x1 x2
  have G3 := G2.trans F3
  have P3 : RB s N A n (a3 0) := hP.T_congr (fun j _ => (G3.2.1 0 j (by unfold kBk; omega)).symm)
  have nT : ∀ a, 5 ≤ a → a ≤ 10 → a3 a 4 = sa0 a 4 := fun a h1 h2 => (R3 a 4 (by unfold kTy; omega)).trans (R2 a 4 (by omega))
  -- letters
  have ch := chs (nf := nf) (sj := sj) (sb := s1) (s := s) (N := N) (A := A) (n := n) (spx := spx) (upx := upx) (ssx := ssx) (usx := usx) (txS := txS) (txN := txN) (txA := txA) (X := IX') (tp := p + w * vs 3 + vs 3) (y := vs 4) hnf P3 hn (W := W) v5 m5.2 m4.2 hb ix (fun k hk => ⟨(K3 k hk).2.2.2.2.2.2.2.1, (K3 k hk).2.2.2.2.2.2.2.2.1, (K3 k hk).2.2.2.2.2.2.2.2.2⟩) ((nT 6 (by omega) (by omega)).trans q6) ((nT 7 (by omega) (by omega)).trans q7) ((G3.1 1 (by decide)).trans h1) u4 u3 fa pl
  rcases ch with ⟨NN', AA', kc, ks, i4, a4, sz, x1, x2, w3, w4, w5, hb', g1, g2, K4, R4⟩ | ⟨f, pp, po, cs', NN', AA', kc, ks, i4, a4, c', T', x1, x2, w1, w2, w3, hb', g1, g2, R4⟩
  rotate_left
  · rw [x1, Option.bind_some, x2, Option.bind_some]
    exact Or.inr ⟨f, pp, po, _, _, _, _, _, TI', TT', OF', DS', IX', _, _, cs', NN', AA', _, _, 0 + kc, 0 + ks, i4, a4, s1, c', T', rfl, rfl, BadO.after (si' := i3) (sa' := a3) (sb' := s1) ⟨w1, w2, w3, fun a j ha => R4 a j (by unfold kBk at ha; omega), fun _ _ _ => rfl⟩ G3, hb', by omega, by omega⟩
  rw [x1, Option.bind_some, x2, Option.bind_some]
  dsimp only
  rw [if_neg (show ¬ (1 : Int32) = 0 by decide), if_neg (show ¬ (1 : Int32) = 0 by decide)]
  clear x1 x2
  have G4 : OkF si i4 sa a4 sb s1 := G3.trans ⟨w5, fun a j ha => R4 a j (by unfold kBk at ha; omega), fun _ _ _ => rfl⟩
  have P4 : RB s N A n (a4 0) := hP.T_congr (fun j _ => (G4.2.1 0 j (by unfold kBk; omega)).symm)
  have nT4 : ∀ a, 5 ≤ a → a ≤ 10 → a4 a 4 = sa0 a 4 := fun a h1 h2 => (R4 a 4 (by omega)).trans (nT a h1 h2)
  -- leap records
  rcases lpA (nf := nf) (sj := sj) (sb := s1) hnf P4 hn hw m2 ((nT4 8 (by omega) (by omega)).trans q8) ((G4.1 1 (by decide)).trans h1) w4 w3 fa pl LT LO with ⟨LT', LO', i5, s5, lv, x1, x2, l3, l4, F5, R5, K5⟩ | ⟨f, pp, po, LT', LO', i5, s5, x1, x2, B⟩
  rotate_left
  · rw [x1, Option.bind_some, x2, Option.bind_some]
    exact Or.inr ⟨f, pp, po, _, _, _, _, _, TI', TT', OF', DS', IX', _, _, _, NN', AA', LT', LO', 0 + kc, 0 + ks, i5, a4, s5, _, _, rfl, rfl, B.after G4, hb', by omega, by omega⟩
  rw [x1, Option.bind_some, x2, Option.bind_some]
  dsimp only
  rw [if_neg (show ¬ (1 : Int32) = 0 by decide), if_neg (show ¬ (1 : Int32) = 0 by decide)]
  clear x1 x2
  have G5 := G4.trans F5
  -- flags
  rcases flA (nf := nf) (sj := sj) (sb := s5) hnf P4 hn (d0 := vs 1) (by omega) ((nT4 9 (by omega) (by omega)).trans q9) ((G5.1 1 (by decide)).trans h1) l4 l3 fa pl SD with ⟨SD', i6, a6, x1, x2, r3, r4, F6, R6, K6⟩ | ⟨f, pp, po, SD', i6, a6, x1, x2, B⟩
  rotate_left
  · rw [x1, Option.bind_some, x2, Option.bind_some]
    exact Or.inr ⟨f, pp, po, _, _, _, _, _, TI', TT', OF', DS', IX', SD', _, _, NN', AA', LT', LO', 0 + kc, 0 + ks, i6, a6, s5, _, _, rfl, rfl, B.after G5, hb', by omega, by omega⟩
  rw [x1, Option.bind_some, x2]
  dsimp only
  rw [if_neg (show ¬ (1 : Int32) = 0 by decide)]
  clear x1 x2
  have G6 := G5.trans F6
  have P6 : RB s N A n (a6 0) := hP.T_congr (fun j _ => (G6.2.1 0 j (by unfold kBk; omega)).symm)
  have nT6 : ∀ a, 5 ≤ a → a ≤ 10 → a6 a 4 = sa0 a 4 := fun a h1 h2 => (R6 a 4 (by omega)).trans (nT4 a h1 h2)
  rcases flB (nf := nf) (sj := sj) (sb := s5) hnf P6 hn (d0 := vs 1) (u0 := vs 0) (by omega) (by omega) (by omega) ((nT6 9 (by omega) (by omega)).trans q9) ((nT6 10 (by omega) (by omega)).trans q10) K6 ((G6.1 1 (by decide)).trans h1) r4 r3 fa pl UT with ⟨UT', i7, a7, x1, x2, t3, t4, F7, R7, K7⟩ | ⟨f, pp, po, UT', i7, a7, x1, x2, B⟩
  rotate_left
  · rw [x1, Option.bind_some, x2, Option.bind_some]
    exact Or.inr ⟨f, pp, po, _, _, _, _, _, TI', TT', OF', DS', IX', SD', UT', _, NN', AA', LT', LO', 0 + kc, 0 + ks, i7, a7, s5, _, _, rfl, rfl, B.after G6, hb', by omega, by omega⟩
  rw [x1, Option.bind_some, x2, Option.bind_some]
  have nT7 : ∀ a, 5 ≤ a → a ≤ 10 → a7 a 4 = sa0 a 4 := fun a h1 h2 => (R7 a 4 (by omega)).trans (nT6 a h1 h2)
  have n17 : ∀ j, a7 17 j = a4 17 j := fun j => (R7 17 j (by omega)).trans (R6 17 j (by omega))
  have n13 : ∀ j, a7 13 j = a2 13 j := fun j => (R7 13 j (by omega)).trans ((R6 13 j (by omega)).trans ((R4 13 j (by omega)).trans (R3 13 j (by unfold kTy; omega))))
  have nTy : ∀ a j, 14 ≤ a → a ≤ 16 → a7 a j = a3 a j := fun a j h1 h2 => (R7 a j (by omega)).trans ((R6 a j (by omega)).trans (R4 a j (by omega)))
  refine Or.inl ⟨_, TI', TT', OF', DS', IX', SD', UT', NN', AA', LT', LO', 0 + kc, 0 + ks, i7, a7, s5, rfl, rfl, t3, t4, G6.trans F7, by omega, by omega, ⟨(nT7 5 (by omega) (by omega)).trans q5, (nT7 6 (by omega) (by omega)).trans q6, (nT7 7 (by omega) (by omega)).trans q7, (nT7 8 (by omega) (by omega)).trans q8, (nT7 9 (by omega) (by omega)).trans q9, (nT7 10 (by omega) (by omega)).trans q10⟩, hb'.T_congr (fun k _ => (n17 _).symm), tm, tt, of, ds, ix, sz, lv, ⟨fun k hk => ?_, K1.2⟩, fun j hj => ?_, fun k hk => ?_, fun k hk => ?_, fun j hj => (K6 j hj).1.trans (R7 20 _ (by omega)).symm, K7, K5⟩
  · obtain ⟨a1, a2, a3⟩ := K1.1 k hk
    exact ⟨a1, (R5 12 _ (by unfold kLe; omega)).trans a2, a3⟩
  · obtain ⟨a1, a2, a3⟩ := K2 j hj
    exact ⟨a1, (n13 _).trans a2, a3⟩
  · obtain ⟨d1, d2, d3, d4, d5, d6, d7, d8, d9, d10⟩ := K3 k hk
    exact ⟨d1, (nTy 14 _ (by omega) (by omega)).trans d2, d3, d4, d5, (nTy 15 _ (by omega) (by omega)).trans d6, d7, d8, (nTy 16 _ (by omega) (by omega)).trans d9, d10⟩
  · obtain ⟨d1, d2, d3, d4, d5⟩ := K4 k hk
    exact ⟨d1, d2, d3, fun j hj => by
      obtain ⟨v, e, hv'⟩ := d4 j hj
      exact ⟨v, (n17 _).trans e, hv'⟩, (n17 _).trans d5⟩
end
