/-! ===== read: header and blocks ===== -/
def RdF (si si' : Nat → Int32) (sa sa' : Nat → Nat → Int32) (sb sb' : Nat → Nat → Int64) (f pp : Int32) : Prop := si' 36 = f ∧ si' 2 = pp ∧ (∀ k, k < 32 ∨ 39 < k → k ≠ 2 → si' k = si k) ∧ (∀ a j, ¬ kAz 4 a j → sa' a j = sa a j) ∧ ∀ b j, b ≠ 37 → ¬ kBz 4 b j → sb' b j = sb b j
def RdK (si si' : Nat → Int32) (sa sa' : Nat → Nat → Int32) (sb sb' : Nat → Nat → Int64) : Prop := (∀ k, k < 32 ∨ 39 < k ∨ k = 36 → si' k = si k) ∧ (∀ a j, ¬ kAz 4 a j → sa' a j = sa a j) ∧ ∀ b j, b ≠ 37 → ¬ kBz 4 b j → sb' b j = sb b j
theorem RdK.tr {si si' si'' : Nat → Int32} {sa sa' sa'' : Nat → Nat → Int32} {sb sb' sb'' : Nat → Nat → Int64} (h : RdK si si' sa sa' sb sb') (h' : RdK si' si'' sa' sa'' sb' sb'') : RdK si si'' sa sa'' sb sb'' :=
  ⟨fun k hk => (h'.1 k hk).trans (h.1 k hk), fun a j ha => (h'.2.1 a j ha).trans (h.2.1 a j ha), fun b j h1 h2 => (h'.2.2 b j h1 h2).trans (h.2.2 b j h1 h2)⟩
theorem RdF.aft {si si' si'' : Nat → Int32} {sa sa' sa'' : Nat → Nat → Int32} {sb sb' sb'' : Nat → Nat → Int64} {f pp : Int32} (h' : RdF si' si'' sa' sa'' sb' sb'' f pp) (h : RdK si si' sa sa' sb sb') : RdF si si'' sa sa'' sb sb'' f pp :=
  ⟨h'.1, h'.2.1, fun k hk k2 => (h'.2.2.1 k hk k2).trans (h.1 k (by omega)), fun a j ha => (h'.2.2.2.1 a j ha).trans (h.2.1 a j ha), fun b j h1 h2 => (h'.2.2.2.2 b j h1 h2).trans (h.2.2 b j h1 h2)⟩
theorem kBk_kAz {a j : Nat} (h : kBk a j) : kAz 4 a j := by
  unfold kBk at h
  unfold kAz
  omega
theorem OkF.k {si si' : Nat → Int32} {sa sa' : Nat → Nat → Int32} {sb sb' : Nat → Nat → Int64} (h : OkF si si' sa sa' sb sb') : RdK si si' sa sa' sb sb' :=
  ⟨fun k hk => h.1 k (by omega), fun a j ha => h.2.1 a j (fun q => ha (kBk_kAz q)), fun b j _ hb => h.2.2 b j hb⟩
theorem BadO.k {si si' : Nat → Int32} {sa sa' : Nat → Nat → Int32} {sb sb' : Nat → Nat → Int64} {f pp : Int32} (h : BadO si si' sa sa' sb sb' f pp) : RdF si si' sa sa' sb sb' f pp :=
  ⟨h.1, h.2.1, fun k hk k2 => h.2.2.1 k k2 (by omega) (by omega), fun a j ha => h.2.2.2.1 a j (fun q => ha (kBk_kAz q)), fun b j _ hb => h.2.2.2.2 b j hb⟩
abbrev BsT := ((Int32 × Int32 × Int32 × Int32 × Int32 × Int32 × Int32 × Int32 × Int32 × Int32 × (Nat → Int64) × (Nat → Int32) × (Nat → Int32) × (Nat → Int32) × (Nat → Int32) × (Nat → Int32) × (Nat → Int32) × Int32 × Nat × (Nat → Int32) × (Nat → Int64) × (Nat → Int32) × (Nat → Int64)) × Nat × Nat)
def BksO (nf n NN : Nat) (cl : Option BsT) (rf : Option (Int32 × MS)) (si : Nat → Int32) (sj : Nat → Int64) (sa : Nat → Nat → Int32) (sb : Nat → Nat → Int64) : Prop :=
  (∃ (q : Nat) (ver : Int32) (vs : Nat → Nat) (TI : Nat → Int64) (TT OF DS IX SD UT : Nat → Int32) (NN' : Nat) (AA' : Nat → Int32) (LT : Nat → Int64) (LO : Nat → Int32) (W' : Nat → Int64) (kc ks : Nat) (si' : Nat → Int32) (sa' : Nat → Nat → Int32) (sb' : Nat → Nat → Int64),
    cl = some ((1, 0, 0, ii (q : Int), ver, ii (vs 3 : Int), ii (vs 4 : Int), ii (vs 2 : Int), ii (vs 1 : Int), ii (vs 0 : Int), TI, TT, OF, DS, IX, SD, UT, ii (vs 5 : Int), NN', AA', LT, LO, W'), kc, ks) ∧ (ver = 0 ∨ ver = 50 ∨ ver = 51) ∧ (∀ j, j < 6 → cntOK j (vs j) (vs 4)) ∧ q ≤ n ∧ si' 32 = ii (q : Int) ∧ si' 38 = ver ∧ RdK si si' sa sa' sb sb' ∧ BkZ sa' sb' vs TI TT OF DS IX SD UT NN' AA' LT LO ∧ kc + NN ≤ NN' ∧ ks + 2 * NN ≤ 2 * NN' ∧
    (ver = 0 → sa' 23 4 = 0 ∧ sa' 11 4 = 0 ∧ rf = f_Mo_file_149 nf 4 si' sj sa' sb') ∧
    (¬ ver = 0 → rf = (f_Mo_footer nf si' sj sa' sb').bind fun (z_36, i_32, j_33, a_34, b_35) => if z_36 = 0 then f_Mo_file_147 nf i_32 j_33 a_34 b_35 else f_Mo_file_149 nf 4 i_32 j_33 a_34 b_35)) ∨
  (∃ (f pp po ver e1 e2 e3 e4 e5 : Int32) (TI : Nat → Int64) (TT OF DS IX SD UT : Nat → Int32) (cs' : Int32) (NN' : Nat) (AA' : Nat → Int32) (LT : Nat → Int64) (LO : Nat → Int32) (W' : Nat → Int64) (kc ks : Nat) (si' : Nat → Int32) (sa' : Nat → Nat → Int32) (sb' : Nat → Nat → Int64) (c' : Nat) (T' : Nat → Int32),
    cl = some ((0, f, pp, po, ver, e1, e2, e3, e4, e5, TI, TT, OF, DS, IX, SD, UT, cs', NN', AA', LT, LO, W'), kc, ks) ∧ rf = some (0, si', sj, sa', sb') ∧ RdF si si' sa sa' sb sb' f pp ∧ RB cs' NN' AA' c' T' ∧ kc + NN ≤ NN' ∧ ks + 2 * NN ≤ 2 * NN')
section
variable {nf n : Nat} {s : Int32} {N : Nat} {A : Nat → Int32} {sj : Nat → Int64} {sb : Nat → Nat → Int64} {sa : Nat → Nat → Int32} {si : Nat → Int32}
theorem blks (hnf : 10000 ≤ nf) (hP : RB s N A n (sa 0)) (hn : n ≤ 6000) (h1 : si 1 = ii (n : Int)) {zv e1 e2 e3 e4 e5 : Int32} {TI LT W : Nat → Int64} {TT OF DS IX SD UT AA LO T0 : Nat → Int32} {cs : Int32} {NN c0 : Nat} (hb : RB cs NN AA c0 T0) {spx ssx upx usx txS : Int32} {txN : Nat} {txA : Nat → Int32} :
    BksO nf n NN (f_FP_readBlocks nf 0 0 0 s N A zv e1 e2 e3 e4 e5 TI TT OF DS IX SD UT cs NN AA LT LO spx ssx upx usx txS txN txA W) (f_Mo_file nf si sj sa sb) si sj sa sb := by
  have z0 : (0 : Int32).toNatClampNeg = 0 := rfl
  have z1 : (1 : Int32).toNatClampNeg = 1 := rfl
  have z2 : (2 : Int32).toNatClampNeg = 2 := rfl
  have z3 : (3 : Int32).toNatClampNeg = 3 := rfl
  have z4 : (4 : Int32).toNatClampNeg = 4 := rfl
  have z5 : (5 : Int32).toNatClampNeg = 5 := rfl
  have n45 : ¬ ((4 : Int32) < 0 ∨ 5 ≤ 4) := by decide
  have hd : HdO n 0 0 0 true (sa 0) (f_FP_readHeader nf 1 0 0 0 s N A zv W) (f_Mo_header nf 0 (va_up si 32 0) sj sa sb) (va_up si 32 0) sj sa sb := hdr (nf := nf) (sj := sj) (sb := sb) (si := va_up si 32 0) (p := 0) hnf hP hn (by omega) 0 0 zv W ((vup_ne (by decide)).trans h1) rfl true (fun y => by cases y)
  have F00 : RdK si (va_up si 32 0) sa sa sb sb := ⟨fun k hk => vup_ne (by omega), fun _ _ _ => rfl, fun _ _ _ _ => rfl⟩
  unfold f_FP_readBlocks f_FP_readBlocks_0 f_Mo_file f_Mo_file_0
  rcases hd with ⟨W1, vs, s1, b1, x1, x2, x3, x4, x5, x6, x7, x8, x9, x10⟩ | ⟨f, q, po, v, W1, s1, b1, x1, x2, x3, x4, x5, x6⟩
  rotate_left
  · rw [x1, Option.bind_some, x2, Option.bind_some]
    exact Or.inr ⟨f, q, po, v, _, _, _, _, _, _, _, _, _, _, _, _, cs, NN, AA, _, _, W1, 0, 0, s1, sa, b1, c0, T0, rfl, rfl, RdF.aft (si' := va_up si 32 0) (sa' := sa) (sb' := sb) ⟨x3, x4, fun k hk k2 => x5 k k2 (by omega) (by omega), fun _ _ _ => rfl, fun b j hb _ => congrFun (x6 b hb) j⟩ F00, hb, by omega, by omega⟩
  rw [x1, Option.bind_some, x2, Option.bind_some]
  dsimp only
  rw [if_neg (show ¬ (1 : Int32) = 0 by decide), if_neg (show ¬ (1 : Int32) = 0 by decide), x8]
  have F1 : RdK si s1 sa sa sb b1 := F00.tr ⟨fun k hk => x9 k (by omega) (by omega), fun _ _ _ => rfl, fun b j hb _ => congrFun (x10 b hb) j⟩
  have g1 : s1 1 = ii (n : Int) := (F1.1 1 (by omega)).trans h1
  have hver := x5 rfl
  by_cases cv : sa 0 (0 + 4) = 0
  · rw [if_pos cv, if_pos cv, z4, if_neg n45, if_neg n45]
    obtain ⟨sA, hsA⟩ : ∃ sA : Nat → Nat → Int32, va_up (va_up sa 23 (upd (sa 23) 4 0)) 11 (upd (sa 11) 4 0) = sA := ⟨_, rfl⟩
    rw [hsA]
    have fA : ∀ a j, ¬ (a = 23 ∧ j = 4) → ¬ (a = 11 ∧ j = 4) → sA a j = sa a j := fun a j h1 h2 => by rw [← hsA]; exact vuX h2 (vu_ne h1)
    have fA1 : sA 23 4 = 0 := by rw [← hsA]; rfl
    have fA2 : sA 11 4 = 0 := by rw [← hsA]; rfl
    have F2 : RdK si s1 sa sA sb b1 := F1.tr ⟨fun _ _ => rfl, fun a j ha => fA a j (fun q => ha (by unfold kAz; omega)) (fun q => ha (by unfold kAz; omega)), fun _ _ _ _ => rfl⟩
    have PA : RB s N A n (sA 0) := hP.T_congr (fun j _ => (fA 0 j (by omega) (by omega)).symm)
    have bk : BlkO n 0 0 vs NN (f_FP_readBlock nf 4 0 0 (ii ((0 + 44 : Nat) : Int)) s N A e1 e2 e3 e4 e5 TI TT OF DS IX SD UT cs NN AA LT LO spx ssx upx usx txS txN txA W1) (f_Mo_block nf 4 s1 sj sA b1) s1 sj sA b1 := blk (nf := nf) (sj := sj) (sb := b1) (sa := sA) (si := s1) (w := 4) hnf PA hn (Or.inl rfl) x4 g1 x7 x3 0 0 hb
    rcases bk with ⟨q, TI', TT', OF', DS', IX', SD', UT', NN', AA', LT', LO', kc, ks, s2, a2, b2, y1, y2, y3, y4, y5, y6, y7, y8⟩ | ⟨f, pp, po, d1, d2, d3, d4, d5, TI', TT', OF', DS', IX', SD', UT', cs', NN', AA', LT', LO', kc, ks, s2, a2, b2, c', T', y1, y2, y3, y4, y5, y6⟩
    · rw [y1, Option.bind_some, y2, Option.bind_some]
      dsimp only
      rw [if_neg (show ¬ (1 : Int32) = 0 by decide)]
      exact Or.inl ⟨q, _, vs, TI', TT', OF', DS', IX', SD', UT', NN', AA', LT', LO', W1, 0 + kc, 0 + ks, s2, a2, b2, rfl, hver, fun j hj => (x4 j hj).2.2, y3, y4, (y5.1 38 (by decide)).trans x8, F2.tr y5.k, y8, by omega, by omega, fun _ => ⟨(y5.2.1 23 4 (by unfold kBk; omega)).trans fA1, (y5.2.1 11 4 (by unfold kBk; omega)).trans fA2, rfl⟩, fun h => absurd cv h⟩
    · rw [y1, Option.bind_some, y2, Option.bind_some]
      exact Or.inr ⟨f, pp, po, _, d1, d2, d3, d4, d5, TI', TT', OF', DS', IX', SD', UT', cs', NN', AA', LT', LO', W1, 0 + kc, 0 + ks, s2, a2, b2, c', T', rfl, rfl, y3.k.aft F2, y4, by omega, by omega⟩
  · rw [if_neg cv, if_neg cv]
    obtain ⟨v3, b3, c3⟩ := x4 3 (by omega)
    obtain ⟨v4, b4, c4⟩ := x4 4 (by omega)
    obtain ⟨v2, b2, c2⟩ := x4 2 (by omega)
    obtain ⟨v1, b1', c1⟩ := x4 1 (by omega)
    obtain ⟨v0, b0, c0'⟩ := x4 0 (by omega)
    obtain ⟨v5, b5, c5⟩ := x4 5 (by omega)
    have m3 : vs 3 ≤ 200 := c3.2.2.1 rfl
    have m4 : 1 ≤ vs 4 ∧ vs 4 ≤ 40 := c4.2.2.2.1 rfl
    have m2 : vs 2 ≤ 40 := c2.2.1 rfl
    have m1 : vs 1 = 0 ∨ vs 1 = vs 4 := c1.1 (by omega)
    have m0 : vs 0 = 0 ∨ vs 0 = vs 4 := c0'.1 (by omega)
    have m5 : 1 ≤ vs 5 ∧ vs 5 ≤ 200 := c5.2.2.2.2 rfl
    have k3 : f_FP_count nf 3 W1 = some (ii (vs 3 : Int)) := cnt5 (k := 3) (by omega) v3
    have k4 : f_FP_count nf 4 W1 = some (ii (vs 4 : Int)) := cnt5 (k := 4) (by omega) v4
    have k2 : f_FP_count nf 2 W1 = some (ii (vs 2 : Int)) := cnt5 (k := 2) (by omega) v2
    have k1 : f_FP_count nf 1 W1 = some (ii (vs 1 : Int)) := cnt5 (k := 1) (by omega) v1
    have k0 : f_FP_count nf 0 W1 = some (ii (vs 0 : Int)) := cnt5 (k := 0) (by omega) v0
    have k5 : f_FP_count nf 5 W1 = some (ii (vs 5 : Int)) := cnt5 (k := 5) (by omega) v5
    obtain ⟨m, hm⟩ : ∃ m : Nat, 5 * vs 3 + 6 * vs 4 + vs 5 + 8 * vs 2 + vs 1 + vs 0 = m := ⟨_, rfl⟩
    have em : 5 * ii (vs 3 : Int) + 6 * ii (vs 4 : Int) + ii (vs 5 : Int) + 8 * ii (vs 2 : Int) + ii (vs 1 : Int) + ii (vs 0 : Int) = ii (m : Int) := by
      rw [← hm, show (5 : Int32) = ii 5 from rfl, show (6 : Int32) = ii 6 from rfl, show (8 : Int32) = ii 8 from rfl, ii_mul, ii_mul, ii_mul, ii_add, ii_add, ii_add, ii_add, ii_add]
      congr 1
    have jm : 5 * jj (vs 3 : Int) + 6 * jj (vs 4 : Int) + jj (vs 5 : Int) + 8 * jj (vs 2 : Int) + jj (vs 1 : Int) + jj (vs 0 : Int) = jj (m : Int) := by
      rw [← hm, show (5 : Int64) = jj 5 from rfl, show (6 : Int64) = jj 6 from rfl, show (8 : Int64) = jj 8 from rfl, jj_mul, jj_mul, jj_mul, jj_add, jj_add, jj_add, jj_add, jj_add]
      congr 1
    rw [k3, Option.bind_some, k4, Option.bind_some, k5, Option.bind_some, k2, Option.bind_some, k1, Option.bind_some, k0, Option.bind_some, em, chas (nf := nf) hP.1 hn x3 (m := m) (by omega) 0 0]
    rw [z0, z1, z2, z3, z4, z5, if_neg (show ¬ ((3 : Int32) < 0 ∨ 6 ≤ 3) by decide), if_neg (show ¬ ((4 : Int32) < 0 ∨ 6 ≤ 4) by decide), if_neg (show ¬ ((5 : Int32) < 0 ∨ 6 ≤ 5) by decide), if_neg (show ¬ ((2 : Int32) < 0 ∨ 6 ≤ 2) by decide), if_neg (show ¬ ((1 : Int32) < 0 ∨ 6 ≤ 1) by decide), if_neg (show ¬ ((0 : Int32) < 0 ∨ 6 ≤ 0) by decide), b0, b1', b2, b3, b4, b5, jm, mhas (nf := nf) (sj := sj) (sa := sa) (sb := b1) g1 hn x7 x3 (m := m) (by omega), jj_32]
    by_cases cm : 0 + 44 + m ≤ n
    · rw [if_pos cm, if_pos cm, Option.bind_some, Option.bind_some]
      dsimp only
      have ep : ii ((0 + 44 : Nat) : Int) + ii (m : Int) = ii ((0 + 44 + m : Nat) : Int) := by rw [ii_add]; congr 1
      rw [if_neg (show ¬ (1 : Int32) = 0 by decide), if_neg (show ¬ (1 : Int32) = 0 by decide), x7, ep]
      have hd2 : HdO n (0 + 44 + m) 0 0 false (sa 0) (f_FP_readHeader nf 0 0 0 (ii ((0 + 44 + m : Nat) : Int)) s N A (sa 0 (0 + 4)) W1) (f_Mo_header nf 1 (va_up s1 32 (ii ((0 + 44 + m : Nat) : Int))) sj sa b1) (va_up s1 32 (ii ((0 + 44 + m : Nat) : Int))) sj sa b1 := hdr (nf := nf) (sj := sj) (sb := b1) (si := va_up s1 32 (ii ((0 + 44 + m : Nat) : Int))) (p := 0 + 44 + m) hnf hP hn cm 0 0 (sa 0 (0 + 4)) W1 ((vup_ne (by decide)).trans g1) vup_eq false (fun _ => (vup_ne (by decide)).trans x8)
      have F2 : RdK si (va_up s1 32 (ii ((0 + 44 + m : Nat) : Int))) sa sa sb b1 := F1.tr ⟨fun k hk => vup_ne (by omega), fun _ _ _ => rfl, fun _ _ _ _ => rfl⟩
      rcases hd2 with ⟨W2, ws, s2, b2', w1, w2, w3, w4, w5, w6, w7, w8, w9, w10⟩ | ⟨f, q, po, v, W2, s2, b2', w1, w2, w3, w4, w5, w6⟩
      rotate_left
      · rw [w1, Option.bind_some, w2, Option.bind_some]
        exact Or.inr ⟨f, q, po, v, _, _, _, _, _, _, _, _, _, _, _, _, cs, NN, AA, _, _, W2, 0, 0, s2, sa, b2', c0, T0, rfl, rfl, RdF.aft (si' := va_up s1 32 (ii ((0 + 44 + m : Nat) : Int))) (sa' := sa) (sb' := b1) ⟨w3, w4, fun k hk k2 => w5 k k2 (by omega) (by omega), fun _ _ _ => rfl, fun b j hb _ => congrFun (w6 b hb) j⟩ F2, hb, by omega, by omega⟩
      have F3 : RdK si s2 sa sa sb b2' := F2.tr ⟨fun k hk => w9 k (by omega) (by omega), fun _ _ _ => rfl, fun b j hb _ => congrFun (w10 b hb) j⟩
      have sv : sa 0 (0 + 44 + m + 4) = sa 0 (0 + 4) := (w6 rfl).trans ((vup_ne (by decide)).trans x8)
      rw [w1, Option.bind_some, w2, Option.bind_some]
      dsimp only
      rw [if_neg (show ¬ (1 : Int32) = 0 by decide), if_neg (show ¬ (1 : Int32) = 0 by decide)]
      have bk : BlkO n 0 0 ws NN (f_FP_readBlock nf 8 0 0 (ii ((0 + 44 + m + 44 : Nat) : Int)) s N A e1 e2 e3 e4 e5 TI TT OF DS IX SD UT cs NN AA LT LO spx ssx upx usx txS txN txA W2) (f_Mo_block nf 8 s2 sj sa b2') s2 sj sa b2' := blk (nf := nf) (sj := sj) (sb := b2') (sa := sa) (si := s2) (w := 8) hnf hP hn (Or.inr rfl) w4 ((F3.1 1 (by omega)).trans h1) w7 w3 0 0 hb
      rcases bk with ⟨q, TI', TT', OF', DS', IX', SD', UT', NN', AA', LT', LO', kc, ks, s3, a3, b3', y1, y2, y3, y4, y5, y6, y7, y8⟩ | ⟨f, pp, po, d1, d2, d3, d4, d5, TI', TT', OF', DS', IX', SD', UT', cs', NN', AA', LT', LO', kc, ks, s3, a3, b3', c', T', y1, y2, y3, y4, y5, y6⟩
      · rw [y1, Option.bind_some, y2, Option.bind_some]
        exact Or.inl ⟨q, _, ws, TI', TT', OF', DS', IX', SD', UT', NN', AA', LT', LO', W2, 0 + kc, 0 + ks, s3, a3, b3', rfl, by rw [sv]; exact hver, fun j hj => (w4 j hj).2.2, y3, y4, (y5.1 38 (by decide)).trans w8, F3.tr y5.k, y8, by omega, by omega, fun h => absurd (sv.symm.trans h) cv, fun _ => rfl⟩
      · rw [y1, Option.bind_some, y2, Option.bind_some]
        exact Or.inr ⟨f, pp, po, _, d1, d2, d3, d4, d5, TI', TT', OF', DS', IX', SD', UT', cs', NN', AA', LT', LO', W2, 0 + kc, 0 + ks, s3, a3, b3', c', T', rfl, rfl, y3.k.aft F3, y4, by omega, by omega⟩
    · rw [if_neg cm, if_neg cm, Option.bind_some, Option.bind_some]
      exact Or.inr ⟨1, ii (n : Int), _, _, _, _, _, _, _, _, _, _, _, _, _, _, cs, NN, AA, _, _, W1, 0, 0, va_up (va_up s1 36 1) 2 (ii (n : Int)), sa, b1, c0, T0, rfl, rfl, RdF.aft (si' := s1) (sa' := sa) (sb' := b1) ⟨rfl, rfl, fun k hk k2 => by rw [vup_ne k2, vup_ne (by omega)], fun _ _ _ => rfl, fun _ _ _ _ => rfl⟩ F1, hb, by omega, by omega⟩
end
