/-! ===== write: blocks ===== -/
section
variable {nf i : Nat} {sj : Nat → Int64} {sb : Nat → Nat → Int64} {Z0 : Nat → Nat → Int32}
theorem zidx (hi : i < 5) : (ii (i : Int)).toNatClampNeg = i ∧ ¬ (ii (i : Int) < 0 ∨ 5 ≤ i) := by
  refine ⟨by rw [ii_nat (by omega) (by omega)]; omega, ?_⟩
  rw [ii_lit, ii_lt (by omega) (by omega) (by omega) (by omega)]
  omega
theorem nidx {k m : Nat} (hk : k < m) (hm : m ≤ 100000) : (ii (k : Int)).toNatClampNeg = k ∧ ¬ (ii (k : Int) < 0 ∨ m ≤ k) := by
  refine ⟨by rw [ii_nat (by omega) (by omega)]; omega, ?_⟩
  rw [ii_lit, ii_lt (by omega) (by omega) (by omega) (by omega)]
  omega
theorem iple {a b c d : Nat} (h : a ≤ b) (hb : b ≤ 100000) : ii (a : Int) ≤ ii (b : Int) := (ii_le (by omega) (by omega) (by omega) (by omega)).mpr (by omega)
theorem inle {a b : Nat} (h : b < a) (ha : a ≤ 100000) : ¬ ii (a : Int) ≤ ii (b : Int) := by rw [ii_le (by omega) (by omega) (by omega) (by omega)]; omega

theorem wU (hnf : 10000 ≤ nf) (hi : i < 5) {u : Nat} {UT : Nat → Int32} (hu : u ≤ 40) (hcnt : Z0 10 i = ii (u : Int)) (hdat : ∀ k, k < u → UT k = Z0 21 (40 * i + k)) : ∀ (d k fu fu' n q : Nat), k + d = u → d < fu → d < fu' → n + d = q → q ≤ 6000 → ∀ {s : Int32} {N : Nat} {A : Nat → Int32} {si : Nat → Int32} {sa : Nat → Nat → Int32}, RB s N A n (sa 58) → si 59 = ii (n : Int) → (∀ a, a ≠ 58 → sa a = Z0 a) → Wr n q (f_FW_putBlock_184 nf (ii (u : Int)) UT fu (ii (k : Int)) s N A) (f_Mo_putBlock_272 nf fu' (ii ((40 * i + k : Nat) : Int)) (ii (i : Int)) si sj sa sb) N si sj sa sb := by
  obtain ⟨ei, ni⟩ := zidx hi
  have hwi : 40 * i ≤ 40 * 4 := Nat.mul_le_mul_left 40 (by omega)
  obtain ⟨we, _⟩ := wpl (i := i) (w := 40) (k := u) (m := 200) hi (by omega) (by omega) (by omega) 40 rfl
  intro d
  induction d with
  | zero =>
    intro k fu fu' n q hk hf hf' hq hq2 s N A si sa h h59 hsa
    obtain ⟨f, rfl⟩ : ∃ f, fu = f + 1 := ⟨fu - 1, by omega⟩
    obtain ⟨f', rfl⟩ : ∃ f', fu' = f' + 1 := ⟨fu' - 1, by omega⟩
    obtain rfl : k = u := by omega
    rw [f_FW_putBlock_184, if_pos (iple (c := 0) (d := 0) (by omega) (by omega)), f_Mo_putBlock_272, ei, if_neg ni, hsa 10 (by decide), hcnt, we, if_pos (iple (c := 0) (d := 0) (by omega) (by omega))]
    obtain rfl : q = n := by omega
    exact wr_fin h h59
  | succ d ih =>
    intro k fu fu' n q hk hf hf' hq hq2 s N A si sa h h59 hsa
    obtain ⟨f, rfl⟩ : ∃ f, fu = f + 1 := ⟨fu - 1, by omega⟩
    obtain ⟨f', rfl⟩ : ∃ f', fu' = f' + 1 := ⟨fu' - 1, by omega⟩
    obtain ⟨k1, k2⟩ := nidx (k := k) (m := 40) (by omega) (by omega)
    obtain ⟨j1, j2⟩ := nidx (k := 40 * i + k) (m := 200) (by omega) (by omega)
    obtain ⟨N1, A1, c1, s1, i1, a1, e1, e1', r1, h1, b1, b1', f1, g1⟩ := pone (nf := nf) (sj := sj) (sb := sb) hnf (UT k) (by omega) h h59
    rw [f_FW_putBlock_184, if_neg (inle (by omega) (by omega)), k1, if_neg k2, e1, Option.bind_some, f_Mo_putBlock_272, ei, if_neg ni, hsa 10 (by decide), hcnt, we, if_neg (inle (by omega) (by omega)), j1, if_neg j2, hsa 21 (by decide), ← hdat k (by omega), e1', Option.bind_some]
    refine wr_ad b1 b1' f1 g1 ?_
    dsimp only
    rw [iiS, iiS]
    exact ih (k + 1) f f' (n + 1) q (by omega) (by omega) (by omega) (by omega) hq2 r1 h1 (fun a ha => (g1 a ha).trans (hsa a ha))

theorem wS (hnf : 10000 ≤ nf) (hi : i < 5) {d0 u : Nat} {SD UT : Nat → Int32} (hd0 : d0 ≤ 40) (hu : u ≤ 40) (hcnt : Z0 9 i = ii (d0 : Int)) (hcu : Z0 10 i = ii (u : Int)) (hdat : ∀ k, k < d0 → SD k = Z0 20 (40 * i + k)) (hdu : ∀ k, k < u → UT k = Z0 21 (40 * i + k)) : ∀ (d k fu fu' n q : Nat), k + d = d0 → d < fu → d < fu' → n + d + u = q → q ≤ 6000 → ∀ {s : Int32} {N : Nat} {A : Nat → Int32} {si : Nat → Int32} {sa : Nat → Nat → Int32}, RB s N A n (sa 58) → si 59 = ii (n : Int) → (∀ a, a ≠ 58 → sa a = Z0 a) → Wr n q (f_FW_putBlock_158 nf (ii (d0 : Int)) (ii (u : Int)) SD UT fu (ii (k : Int)) s N A) (f_Mo_putBlock_234 nf fu' (ii ((40 * i + k : Nat) : Int)) (ii (i : Int)) si sj sa sb) N si sj sa sb := by
  obtain ⟨ei, ni⟩ := zidx hi
  have hwi : 40 * i ≤ 40 * 4 := Nat.mul_le_mul_left 40 (by omega)
  obtain ⟨we, _⟩ := wpl (i := i) (w := 40) (k := d0) (m := 200) hi (by omega) (by omega) (by omega) 40 rfl
  intro d
  induction d with
  | zero =>
    intro k fu fu' n q hk hf hf' hq hq2 s N A si sa h h59 hsa
    obtain ⟨f, rfl⟩ : ∃ f, fu = f + 1 := ⟨fu - 1, by omega⟩
    obtain ⟨f', rfl⟩ : ∃ f', fu' = f' + 1 := ⟨fu' - 1, by omega⟩
    obtain rfl : k = d0 := by omega
    rw [f_FW_putBlock_158, if_pos (iple (c := 0) (d := 0) (by omega) (by omega)), f_Mo_putBlock_234, ei, if_neg ni, hsa 9 (by decide), hcnt, we, if_pos (iple (c := 0) (d := 0) (by omega) (by omega))]
    rw [wpz (w := 40) 40 rfl]
    exact wU hnf hi hu hcu hdu u 0 nf nf n q (by omega) (by omega) (by omega) (by omega) hq2 h h59 hsa
  | succ d ih =>
    intro k fu fu' n q hk hf hf' hq hq2 s N A si sa h h59 hsa
    obtain ⟨f, rfl⟩ : ∃ f, fu = f + 1 := ⟨fu - 1, by omega⟩
    obtain ⟨f', rfl⟩ : ∃ f', fu' = f' + 1 := ⟨fu' - 1, by omega⟩
    obtain ⟨k1, k2⟩ := nidx (k := k) (m := 40) (by omega) (by omega)
    obtain ⟨j1, j2⟩ := nidx (k := 40 * i + k) (m := 200) (by omega) (by omega)
    obtain ⟨N1, A1, c1, s1, i1, a1, e1, e1', r1, h1, b1, b1', f1, g1⟩ := pone (nf := nf) (sj := sj) (sb := sb) hnf (SD k) (by omega) h h59
    rw [f_FW_putBlock_158, if_neg (inle (by omega) (by omega)), k1, if_neg k2, e1, Option.bind_some, f_Mo_putBlock_234, ei, if_neg ni, hsa 9 (by decide), hcnt, we, if_neg (inle (by omega) (by omega)), j1, if_neg j2, hsa 20 (by decide), ← hdat k (by omega), e1', Option.bind_some]
    refine wr_ad b1 b1' f1 g1 ?_
    dsimp only
    rw [iiS, iiS]
    exact ih (k + 1) f f' (n + 1) q (by omega) (by omega) (by omega) (by omega) hq2 r1 h1 (fun a ha => (g1 a ha).trans (hsa a ha))

theorem wL (hnf : 10000 ≤ nf) (hi : i < 5) {l d0 u w : Nat} {SD UT LO : Nat → Int32} {LT : Nat → Int64} (hw : w = 4 ∨ w = 8) (hl : l ≤ 40) (hd0 : d0 ≤ 40) (hu : u ≤ 40) (hcl : Z0 8 i = ii (l : Int)) (hcd : Z0 9 i = ii (d0 : Int)) (hcu : Z0 10 i = ii (u : Int)) (hlt : ∀ k, k < l → LT k = sb 18 (40 * i + k) ∧ (LO k).toInt64 = sb 19 (40 * i + k)) (hdd : ∀ k, k < d0 → SD k = Z0 20 (40 * i + k)) (hdu : ∀ k, k < u → UT k = Z0 21 (40 * i + k)) : ∀ (d k fu fu' n q : Nat), k + d = l → d < fu → d < fu' → n + d * (w + 4) + (d0 + u) = q → q ≤ 6000 → ∀ {s : Int32} {N : Nat} {A : Nat → Int32} {si : Nat → Int32} {sa : Nat → Nat → Int32}, RB s N A n (sa 58) → si 59 = ii (n : Int) → (∀ a, a ≠ 58 → sa a = Z0 a) → Wr n q (f_FW_putBlock_119 nf (ii (l : Int)) (ii (d0 : Int)) (ii (u : Int)) SD UT LT LO fu (ii (k : Int)) (ii (w : Int)) s N A) (f_Mo_putBlock_186 nf fu' (ii ((40 * i + k : Nat) : Int)) (ii (i : Int)) (ii (w : Int)) si sj sa sb) N si sj sa sb := by
  obtain ⟨ei, ni⟩ := zidx hi
  have hwi : 40 * i ≤ 40 * 4 := Nat.mul_le_mul_left 40 (by omega)
  obtain ⟨we, _⟩ := wpl (i := i) (w := 40) (k := l) (m := 200) hi (by omega) (by omega) (by omega) 40 rfl
  intro d
  induction d with
  | zero =>
    intro k fu fu' n q hk hf hf' hq hq2 s N A si sa h h59 hsa
    obtain ⟨f, rfl⟩ : ∃ f, fu = f + 1 := ⟨fu - 1, by omega⟩
    obtain ⟨f', rfl⟩ : ∃ f', fu' = f' + 1 := ⟨fu' - 1, by omega⟩
    obtain rfl : k = l := by omega
    rw [f_FW_putBlock_119, if_pos (iple (c := 0) (d := 0) (by omega) (by omega)), f_Mo_putBlock_186, ei, if_neg ni, hsa 8 (by decide), hcl, we, if_pos (iple (c := 0) (d := 0) (by omega) (by omega)), wpz (w := 40) 40 rfl]
    exact wS hnf hi hd0 hu hcd hcu hdd hdu d0 0 nf nf n q (by omega) (by omega) (by omega) (by omega) hq2 h h59 hsa
  | succ d ih =>
    intro k fu fu' n q hk hf hf' hq hq2 s N A si sa h h59 hsa
    rw [Nat.succ_mul] at hq
    obtain ⟨f, rfl⟩ : ∃ f, fu = f + 1 := ⟨fu - 1, by omega⟩
    obtain ⟨f', rfl⟩ : ∃ f', fu' = f' + 1 := ⟨fu' - 1, by omega⟩
    obtain ⟨k1, k2⟩ := nidx (k := k) (m := 40) (by omega) (by omega)
    obtain ⟨j1, j2⟩ := nidx (k := 40 * i + k) (m := 200) (by omega) (by omega)
    obtain ⟨x1, x2⟩ := hlt k (by omega)
    obtain ⟨N1, A1, c1, s1, i1, a1, e1, e1', r1, h1, b1, b1', f1, g1⟩ := pnum (nf := nf) (sj := sj) (sb := sb) hnf (LT k) w (by omega) (by omega) h h59
    obtain ⟨N2, A2, c2, s2, i2, a2, e2, e2', r2, h2, b2, b2', f2, g2⟩ := pnum (nf := nf) (sj := sj) (sb := sb) hnf (LO k).toInt64 4 (by omega) (by omega) r1 h1
    rw [show ii ((4 : Nat) : Int) = (4 : Int32) from rfl] at e2 e2'
    rw [f_FW_putBlock_119, if_neg (inle (by omega) (by omega)), k1, if_neg k2, e1, Option.bind_some, f_Mo_putBlock_186, ei, if_neg ni, hsa 8 (by decide), hcl, we, if_neg (inle (by omega) (by omega)), j1, if_neg j2, ← x1, e1', Option.bind_some]
    refine wr_ad b1 b1' f1 g1 ?_
    dsimp only
    rw [if_neg k2, if_neg j2, ← x2, e2, e2', Option.bind_some, Option.bind_some]
    refine wr_ad b2 b2' f2 g2 ?_
    dsimp only
    rw [iiS, iiS]
    exact ih (k + 1) f f' (n + w + 4) q (by omega) (by omega) (by omega) (by omega) hq2 r2 h2 (fun a ha => (g2 a ha).trans ((g1 a ha).trans (hsa a ha)))
theorem mone {n : Nat} {si : Nat → Int32} {sa : Nat → Nat → Int32} (hnf : 10000 ≤ nf) (v : Int32) (hn : n + 1 ≤ 6000) (h59 : si 59 = ii (n : Int)) : ∃ (si' : Nat → Int32) (sa' : Nat → Nat → Int32), f_Mo_putNumber nf v.toInt64 1 si sj sa sb = some (si', sj, sa', sb) ∧ si' 59 = ii ((n + 1 : Nat) : Int) ∧ (∀ k, k ≠ 59 → si' k = si k) ∧ (∀ a, a ≠ 58 → sa' a = sa a) ∧ sa' 58 = upd (sa 58) n (v &&& 255) := by
  obtain ⟨en, n2⟩ := nidx (k := n) (m := 6000) (by omega) (by omega)
  obtain ⟨f, rfl⟩ : ∃ f, nf = f + 2 := ⟨nf - 2, by omega⟩
  refine ⟨va_up si 59 (ii ((n + 1 : Nat) : Int)), va_up sa 58 (upd (sa 58) n (v &&& 255)), ?_, rfl, fun k hk => vup_ne hk, fun a ha => vup_ne ha, vup_eq⟩
  unfold f_Mo_putNumber f_Mo_putNumber_0
  rw [show (1 : Int32) - 1 = ii ((0 : Nat) : Int) from rfl, f_Mo_putNumber_5, if_neg (by decide), h59, en, if_neg n2, b0, iiS, f_Mo_putNumber_5, if_pos (by decide)]
/-- the reference writes a row of bytes: chars -/
theorem mC (hnf : 10000 ≤ nf) (hi : i < 5) {c : Nat} {x2 : Int32} (hc : c ≤ 200) (hcc : Z0 7 i = ii (c : Int)) (hb : ∀ k, k < c → ∃ b : Nat, b < 256 ∧ Z0 17 (200 * i + k) = ii (b : Int)) : ∀ (d k fu n : Nat), k + d = c → d < fu → n + d ≤ 6000 → ∀ {si : Nat → Int32} {sa : Nat → Nat → Int32}, si 59 = ii (n : Int) → (∀ a, a ≠ 58 → sa a = Z0 a) → ∃ (si' : Nat → Int32) (sa' : Nat → Nat → Int32), f_Mo_putBlock_147 nf fu (ii ((200 * i + k : Nat) : Int)) (ii (i : Int)) x2 si sj sa sb = f_Mo_putBlock_186 nf nf (40 * ii (i : Int)) (ii (i : Int)) x2 si' sj sa' sb ∧ si' 59 = ii ((n + d : Nat) : Int) ∧ (∀ q, q < n → sa' 58 q = sa 58 q) ∧ (∀ q, n ≤ q → q < n + d → sa' 58 q = Z0 17 (200 * i + (k + (q - n)))) ∧ (∀ k, k ≠ 59 → si' k = si k) ∧ ∀ a, a ≠ 58 → sa' a = sa a := by
  obtain ⟨ei, ni⟩ := zidx hi
  have hwi : 200 * i ≤ 200 * 4 := Nat.mul_le_mul_left 200 (by omega)
  obtain ⟨we, _⟩ := wpl (i := i) (w := 200) (k := c) (m := 1000) hi (by omega) (by omega) (by omega) 200 rfl
  intro d
  induction d with
  | zero =>
    intro k fu n hk hf hn si sa h59 hsa
    obtain ⟨f, rfl⟩ : ∃ f, fu = f + 1 := ⟨fu - 1, by omega⟩
    obtain rfl : k = c := by omega
    rw [f_Mo_putBlock_147, ei, if_neg ni, hsa 7 (by decide), hcc, we, if_pos (iple (c := 0) (d := 0) (by omega) (by omega))]
    exact ⟨si, sa, rfl, h59, fun _ _ => rfl, fun q h1 h2 => by omega, fun _ _ => rfl, fun _ _ => rfl⟩
  | succ d ih =>
    intro k fu n hk hf hn si sa h59 hsa
    obtain ⟨f, rfl⟩ : ∃ f, fu = f + 1 := ⟨fu - 1, by omega⟩
    obtain ⟨j1, j2⟩ := nidx (k := 200 * i + k) (m := 1000) (by omega) (by omega)
    obtain ⟨b, hb1, hb2⟩ := hb k (by omega)
    obtain ⟨si1, sa1, m1, m2, m3, m4, m5⟩ := mone (nf := nf) (sj := sj) (sb := sb) (sa := sa) hnf (Z0 17 (200 * i + k)) (by omega) h59
    rw [hb2, bmask hb1, ← hb2] at m5
    obtain ⟨si2, sa2, q1, q2, q3, q4, q5, q6⟩ := ih (k + 1) f (n + 1) (by omega) (by omega) (by omega) (si := si1) (sa := sa1) m2 (fun a ha => (m4 a ha).trans (hsa a ha))
    refine ⟨si2, sa2, ?_, ?_, fun q hq => ?_, fun q h1 h2 => ?_, fun k hk => (q5 k hk).trans (m3 k hk), fun a ha => (q6 a ha).trans (m4 a ha)⟩
    · rw [f_Mo_putBlock_147, ei, if_neg ni, hsa 7 (by decide), hcc, we, if_neg (inle (by omega) (by omega)), j1, if_neg j2, hsa 17 (by decide), m1, Option.bind_some]
      dsimp only
      rw [iiS]
      exact q1
    · rw [q2]; congr 2; omega
    · rw [q3 q (by omega), m5]; unfold upd; rw [if_neg (by omega)]
    · by_cases e : q = n
      · rw [q3 q (by omega), m5, e, Nat.sub_self, Nat.add_zero]; unfold upd; rw [if_pos rfl]
      · rw [q4 q (by omega) (by omega), show k + 1 + (q - (n + 1)) = k + (q - n) by omega]
/-- chars, and what follows -/
theorem wC (hnf : 10000 ≤ nf) (hi : i < 5) {c l d0 u w chN : Nat} {chS : Int32} {chA SD UT LO : Nat → Int32} {LT : Nat → Int64} (hw : w = 4 ∨ w = 8) (hc : c ≤ 200) (hl : l ≤ 40) (hd0 : d0 ≤ 40) (hu : u ≤ 40) (hcc : Z0 7 i = ii (c : Int)) (hcl : Z0 8 i = ii (l : Int)) (hcd : Z0 9 i = ii (d0 : Int)) (hcu : Z0 10 i = ii (u : Int)) (hch : RB chS chN chA c (fun k => Z0 17 (200 * i + k))) (hlt : ∀ k, k < l → LT k = sb 18 (40 * i + k) ∧ (LO k).toInt64 = sb 19 (40 * i + k)) (hdd : ∀ k, k < d0 → SD k = Z0 20 (40 * i + k)) (hdu : ∀ k, k < u → UT k = Z0 21 (40 * i + k)) (n q : Nat) (hq : n + c + l * (w + 4) + (d0 + u) = q) (hq2 : q ≤ 6000) {s : Int32} {N : Nat} {A : Nat → Int32} {si : Nat → Int32} {sa : Nat → Nat → Int32} (h : RB s N A n (sa 58)) (h59 : si 59 = ii (n : Int)) (hsa : ∀ a, a ≠ 58 → sa a = Z0 a) : Wr n q ((f_By_putAll nf 0 chS s N A chS chN chA).bind fun ((z_4, z_5, z_6), kc_11, ks_12) => ad kc_11 ks_12 (f_FW_putBlock_119 nf (ii (l : Int)) (ii (d0 : Int)) (ii (u : Int)) SD UT LT LO nf 0 (ii (w : Int)) z_4 z_5 z_6)) (f_Mo_putBlock_147 nf nf (200 * ii (i : Int)) (ii (i : Int)) (ii (w : Int)) si sj sa sb) N si sj sa sb := by
  obtain ⟨N', A', kc, ks, p1, p2, p3, p4⟩ := RB.putAll (nf := nf) (s := 0) (N := 0) (n := 0) (A := A) (T := sa 58) hch c 0 (fu := nf) h (by omega) (by omega) (by omega)
  have pa : f_By_putAll nf 0 chS s N A chS chN chA = some ((ii ((n + c : Nat) : Int), N', A'), kc, ks) := by
    rw [← p1, Nat.zero_add, ← hch.1]
    rfl
  obtain ⟨si', sa', m1, m2, m3, m4, m5, m6⟩ := mC (nf := nf) (sj := sj) (sb := sb) (x2 := ii (w : Int)) hnf hi hc hcc (fun k hk => hch.byte hk) c 0 nf n (by omega) (by omega) (by omega) h59 hsa
  have e0 : (200 : Int32) * ii (i : Int) = ii ((200 * i + 0 : Nat) : Int) := wpz (w := 200) 200 rfl
  rw [pa, Option.bind_some, e0, m1, wpz (w := 40) 40 rfl]
  refine wr_ad p3 p4 m5 m6 ?_
  exact wL hnf hi hw hl hd0 hu hcl hcd hcu hlt hdd hdu l 0 nf nf (n + c) q (by omega) (by omega) (by omega) (by omega) hq2 (p2.T_congr (fun k hk => by
    by_cases y : k < n
    · rw [if_pos y, m3 k y]
    · rw [if_neg y, m4 k (by omega) hk])) m2 (fun a ha => (m6 a ha).trans (hsa a ha))
/-- types, and what follows -/
theorem wT (hnf : 10000 ≤ nf) (hi : i < 5) {t c l d0 u w chN : Nat} {chS : Int32} {OF DS IX chA SD UT LO : Nat → Int32} {LT : Nat → Int64} (hw : w = 4 ∨ w = 8) (ht : t ≤ 40) (hc : c ≤ 200) (hl : l ≤ 40) (hd0 : d0 ≤ 40) (hu : u ≤ 40) (hct : Z0 6 i = ii (t : Int)) (hcc : Z0 7 i = ii (c : Int)) (hcl : Z0 8 i = ii (l : Int)) (hcd : Z0 9 i = ii (d0 : Int)) (hcu : Z0 10 i = ii (u : Int)) (hty : ∀ k, k < t → OF k = Z0 14 (40 * i + k) ∧ DS k = Z0 15 (40 * i + k) ∧ IX k = Z0 16 (40 * i + k)) (hch : RB chS chN chA c (fun k => Z0 17 (200 * i + k))) (hlt : ∀ k, k < l → LT k = sb 18 (40 * i + k) ∧ (LO k).toInt64 = sb 19 (40 * i + k)) (hdd : ∀ k, k < d0 → SD k = Z0 20 (40 * i + k)) (hdu : ∀ k, k < u → UT k = Z0 21 (40 * i + k)) : ∀ (d k fu fu' n q : Nat), k + d = t → d < fu → d < fu' → n + d * 6 + (c + l * (w + 4) + (d0 + u)) = q → q ≤ 6000 → ∀ {s : Int32} {N : Nat} {A : Nat → Int32} {si : Nat → Int32} {sa : Nat → Nat → Int32}, RB s N A n (sa 58) → si 59 = ii (n : Int) → (∀ a, a ≠ 58 → sa a = Z0 a) → Wr n q (f_FW_putBlock_55 nf (ii (t : Int)) (ii (l : Int)) (ii (d0 : Int)) (ii (u : Int)) OF DS IX SD UT chS chN chA LT LO fu (ii (k : Int)) (ii (w : Int)) s N A) (f_Mo_putBlock_84 nf fu' (ii ((40 * i + k : Nat) : Int)) (ii (i : Int)) (ii (w : Int)) si sj sa sb) N si sj sa sb := by
  obtain ⟨ei, ni⟩ := zidx hi
  have hwi : 40 * i ≤ 40 * 4 := Nat.mul_le_mul_left 40 (by omega)
  obtain ⟨we, _⟩ := wpl (i := i) (w := 40) (k := t) (m := 200) hi (by omega) (by omega) (by omega) 40 rfl
  intro d
  induction d with
  | zero =>
    intro k fu fu' n q hk hf hf' hq hq2 s N A si sa h h59 hsa
    obtain ⟨f, rfl⟩ : ∃ f, fu = f + 1 := ⟨fu - 1, by omega⟩
    obtain ⟨f', rfl⟩ : ∃ f', fu' = f' + 1 := ⟨fu' - 1, by omega⟩
    obtain rfl : k = t := by omega
    rw [f_FW_putBlock_55, if_pos (iple (c := 0) (d := 0) (by omega) (by omega)), f_Mo_putBlock_84, ei, if_neg ni, hsa 6 (by decide), hct, we, if_pos (iple (c := 0) (d := 0) (by omega) (by omega))]
    exact wC hnf hi hw hc hl hd0 hu hcc hcl hcd hcu hch hlt hdd hdu n q (by omega) hq2 h h59 hsa
  | succ d ih =>
    intro k fu fu' n q hk hf hf' hq hq2 s N A si sa h h59 hsa
    obtain ⟨f, rfl⟩ : ∃ f, fu = f + 1 := ⟨fu - 1, by omega⟩
    obtain ⟨f', rfl⟩ : ∃ f', fu' = f' + 1 := ⟨fu' - 1, by omega⟩
    obtain ⟨k1, k2⟩ := nidx (k := k) (m := 40) (by omega) (by omega)
    obtain ⟨j1, j2⟩ := nidx (k := 40 * i + k) (m := 200) (by omega) (by omega)
    obtain ⟨x1, x2, x3⟩ := hty k (by omega)
    obtain ⟨N1, A1, c1, s1, i1, a1, e1, e1', r1, h1, b1, b1', f1, g1⟩ := pnum (nf := nf) (sj := sj) (sb := sb) hnf (OF k).toInt64 4 (by omega) (by omega) h h59
    obtain ⟨N2, A2, c2, s2, i2, a2, e2, e2', r2, h2, b2, b2', f2, g2⟩ := pone (nf := nf) (sj := sj) (sb := sb) hnf (DS k) (by omega) r1 h1
    obtain ⟨N3, A3, c3, s3, i3, a3, e3, e3', r3, h3, b3, b3', f3, g3⟩ := pone (nf := nf) (sj := sj) (sb := sb) hnf (IX k) (by omega) r2 h2
    rw [show ii ((4 : Nat) : Int) = (4 : Int32) from rfl] at e1 e1'
    rw [f_FW_putBlock_55, if_neg (inle (by omega) (by omega)), k1, if_neg k2, e1, Option.bind_some, f_Mo_putBlock_84, ei, if_neg ni, hsa 6 (by decide), hct, we, if_neg (inle (by omega) (by omega)), j1, if_neg j2, hsa 14 (by decide), ← x1, e1', Option.bind_some]
    refine wr_ad b1 b1' f1 g1 ?_
    dsimp only
    rw [if_neg k2, if_neg j2, g1 15 (by decide), hsa 15 (by decide), ← x2, e2, e2', Option.bind_some, Option.bind_some]
    refine wr_ad b2 b2' f2 g2 ?_
    dsimp only
    rw [if_neg k2, if_neg j2, g2 16 (by decide), g1 16 (by decide), hsa 16 (by decide), ← x3, e3, e3', Option.bind_some, Option.bind_some]
    refine wr_ad b3 b3' f3 g3 ?_
    dsimp only
    rw [iiS, iiS]
    exact ih (k + 1) f f' (n + 4 + 1 + 1) q (by omega) (by omega) (by omega) (by omega) hq2 r3 h3 (fun a ha => (g3 a ha).trans ((g2 a ha).trans ((g1 a ha).trans (hsa a ha))))

theorem wTT (hnf : 10000 ≤ nf) (hi : i < 5) {nt t c l d0 u w chN : Nat} {chS : Int32} {TT OF DS IX chA SD UT LO : Nat → Int32} {LT : Nat → Int64} (hw : w = 4 ∨ w = 8) (hnt : nt ≤ 200) (ht : t ≤ 40) (hc : c ≤ 200) (hl : l ≤ 40) (hd0 : d0 ≤ 40) (hu : u ≤ 40) (hcnt : Z0 5 i = ii (nt : Int)) (hct : Z0 6 i = ii (t : Int)) (hcc : Z0 7 i = ii (c : Int)) (hcl : Z0 8 i = ii (l : Int)) (hcd : Z0 9 i = ii (d0 : Int)) (hcu : Z0 10 i = ii (u : Int)) (hdat : ∀ k, k < nt → TT k = Z0 13 (200 * i + k)) (hty : ∀ k, k < t → OF k = Z0 14 (40 * i + k) ∧ DS k = Z0 15 (40 * i + k) ∧ IX k = Z0 16 (40 * i + k)) (hch : RB chS chN chA c (fun k => Z0 17 (200 * i + k))) (hlt : ∀ k, k < l → LT k = sb 18 (40 * i + k) ∧ (LO k).toInt64 = sb 19 (40 * i + k)) (hdd : ∀ k, k < d0 → SD k = Z0 20 (40 * i + k)) (hdu : ∀ k, k < u → UT k = Z0 21 (40 * i + k)) : ∀ (d k fu fu' n q : Nat), k + d = nt → d < fu → d < fu' → n + d + (t * 6 + (c + l * (w + 4) + (d0 + u))) = q → q ≤ 6000 → ∀ {s : Int32} {N : Nat} {A : Nat → Int32} {si : Nat → Int32} {sa : Nat → Nat → Int32}, RB s N A n (sa 58) → si 59 = ii (n : Int) → (∀ a, a ≠ 58 → sa a = Z0 a) → Wr n q (f_FW_putBlock_29 nf (ii (nt : Int)) (ii (t : Int)) (ii (l : Int)) (ii (d0 : Int)) (ii (u : Int)) TT OF DS IX SD UT chS chN chA LT LO fu (ii (k : Int)) (ii (w : Int)) s N A) (f_Mo_putBlock_45 nf fu' (ii ((200 * i + k : Nat) : Int)) (ii (i : Int)) (ii (w : Int)) si sj sa sb) N si sj sa sb := by
  obtain ⟨ei, ni⟩ := zidx hi
  have hwi : 200 * i ≤ 200 * 4 := Nat.mul_le_mul_left 200 (by omega)
  obtain ⟨we, _⟩ := wpl (i := i) (w := 200) (k := nt) (m := 1000) hi (by omega) (by omega) (by omega) 200 rfl
  intro d
  induction d with
  | zero =>
    intro k fu fu' n q hk hf hf' hq hq2 s N A si sa h h59 hsa
    obtain ⟨f, rfl⟩ : ∃ f, fu = f + 1 := ⟨fu - 1, by omega⟩
    obtain ⟨f', rfl⟩ : ∃ f', fu' = f' + 1 := ⟨fu' - 1, by omega⟩
    obtain rfl : k = nt := by omega
    rw [f_FW_putBlock_29, if_pos (iple (c := 0) (d := 0) (by omega) (by omega)), f_Mo_putBlock_45, ei, if_neg ni, hsa 5 (by decide), hcnt, we, if_pos (iple (c := 0) (d := 0) (by omega) (by omega))]
    rw [wpz (w := 40) 40 rfl]
    exact wT hnf hi hw ht hc hl hd0 hu hct hcc hcl hcd hcu hty hch hlt hdd hdu t 0 nf nf n q (by omega) (by omega) (by omega) (by omega) hq2 h h59 hsa
  | succ d ih =>
    intro k fu fu' n q hk hf hf' hq hq2 s N A si sa h h59 hsa
    obtain ⟨f, rfl⟩ : ∃ f, fu = f + 1 := ⟨fu - 1, by omega⟩
    obtain ⟨f', rfl⟩ : ∃ f', fu' = f' + 1 := ⟨fu' - 1, by omega⟩
    obtain ⟨k1, k2⟩ := nidx (k := k) (m := 200) (by omega) (by omega)
    obtain ⟨j1, j2⟩ := nidx (k := 200 * i + k) (m := 1000) (by omega) (by omega)
    obtain ⟨N1, A1, c1, s1, i1, a1, e1, e1', r1, h1, b1, b1', f1, g1⟩ := pone (nf := nf) (sj := sj) (sb := sb) hnf (TT k) (by omega) h h59
    rw [f_FW_putBlock_29, if_neg (inle (by omega) (by omega)), k1, if_neg k2, e1, Option.bind_some, f_Mo_putBlock_45, ei, if_neg ni, hsa 5 (by decide), hcnt, we, if_neg (inle (by omega) (by omega)), j1, if_neg j2, hsa 13 (by decide), ← hdat k (by omega), e1', Option.bind_some]
    refine wr_ad b1 b1' f1 g1 ?_
    dsimp only
    rw [iiS, iiS]
    exact ih (k + 1) f f' (n + 1) q (by omega) (by omega) (by omega) (by omega) hq2 r1 h1 (fun a ha => (g1 a ha).trans (hsa a ha))

theorem wTI (hnf : 10000 ≤ nf) (hi : i < 5) {nt t c l d0 u w chN : Nat} {chS : Int32} {TT OF DS IX chA SD UT LO : Nat → Int32} {LT : Nat → Int64} (hw : w = 4 ∨ w = 8) (hnt : nt ≤ 200) (ht : t ≤ 40) (hc : c ≤ 200) (hl : l ≤ 40) (hd0 : d0 ≤ 40) (hu : u ≤ 40) (hcnt : Z0 5 i = ii (nt : Int)) (hct : Z0 6 i = ii (t : Int)) (hcc : Z0 7 i = ii (c : Int)) (hcl : Z0 8 i = ii (l : Int)) (hcd : Z0 9 i = ii (d0 : Int)) (hcu : Z0 10 i = ii (u : Int)) (hdat : ∀ k, k < nt → TT k = Z0 13 (200 * i + k)) (hty : ∀ k, k < t → OF k = Z0 14 (40 * i + k) ∧ DS k = Z0 15 (40 * i + k) ∧ IX k = Z0 16 (40 * i + k)) (hch : RB chS chN chA c (fun k => Z0 17 (200 * i + k))) (hlt : ∀ k, k < l → LT k = sb 18 (40 * i + k) ∧ (LO k).toInt64 = sb 19 (40 * i + k)) (hdd : ∀ k, k < d0 → SD k = Z0 20 (40 * i + k)) (hdu : ∀ k, k < u → UT k = Z0 21 (40 * i + k)) {TI : Nat → Int64} (hti : ∀ k, k < nt → TI k = sb 12 (200 * i + k)) : ∀ (d k fu fu' n q : Nat), k + d = nt → d < fu → d < fu' → n + d * w + (nt + (t * 6 + (c + l * (w + 4) + (d0 + u)))) = q → q ≤ 6000 → ∀ {s : Int32} {N : Nat} {A : Nat → Int32} {si : Nat → Int32} {sa : Nat → Nat → Int32}, RB s N A n (sa 58) → si 59 = ii (n : Int) → (∀ a, a ≠ 58 → sa a = Z0 a) → Wr n q (f_FW_putBlock_2 nf (ii (nt : Int)) (ii (t : Int)) (ii (l : Int)) (ii (d0 : Int)) (ii (u : Int)) TI TT OF DS IX SD UT chS chN chA LT LO fu (ii (k : Int)) (ii (w : Int)) s N A) (f_Mo_putBlock_6 nf fu' (ii ((200 * i + k : Nat) : Int)) (ii (i : Int)) (ii (w : Int)) si sj sa sb) N si sj sa sb := by
  obtain ⟨ei, ni⟩ := zidx hi
  have hwi : 200 * i ≤ 200 * 4 := Nat.mul_le_mul_left 200 (by omega)
  obtain ⟨we, _⟩ := wpl (i := i) (w := 200) (k := nt) (m := 1000) hi (by omega) (by omega) (by omega) 200 rfl
  intro d
  induction d with
  | zero =>
    intro k fu fu' n q hk hf hf' hq hq2 s N A si sa h h59 hsa
    obtain ⟨f, rfl⟩ : ∃ f, fu = f + 1 := ⟨fu - 1, by omega⟩
    obtain ⟨f', rfl⟩ : ∃ f', fu' = f' + 1 := ⟨fu' - 1, by omega⟩
    obtain rfl : k = nt := by omega
    rw [f_FW_putBlock_2, if_pos (iple (c := 0) (d := 0) (by omega) (by omega)), f_Mo_putBlock_6, ei, if_neg ni, hsa 5 (by decide), hcnt, we, if_pos (iple (c := 0) (d := 0) (by omega) (by omega)), wpz (w := 200) 200 rfl]
    exact wTT hnf hi hw hnt ht hc hl hd0 hu hcnt hct hcc hcl hcd hcu hdat hty hch hlt hdd hdu k 0 nf nf n q (by omega) (by omega) (by omega) (by omega) hq2 h h59 hsa
  | succ d ih =>
    intro k fu fu' n q hk hf hf' hq hq2 s N A si sa h h59 hsa
    rw [Nat.succ_mul] at hq
    obtain ⟨f, rfl⟩ : ∃ f, fu = f + 1 := ⟨fu - 1, by omega⟩
    obtain ⟨f', rfl⟩ : ∃ f', fu' = f' + 1 := ⟨fu' - 1, by omega⟩
    obtain ⟨k1, k2⟩ := nidx (k := k) (m := 200) (by omega) (by omega)
    obtain ⟨j1, j2⟩ := nidx (k := 200 * i + k) (m := 1000) (by omega) (by omega)
    have x1 := hti k (by omega)
    obtain ⟨N1, A1, c1, s1, i1, a1, e1, e1', r1, h1, b1, b1', f1, g1⟩ := pnum (nf := nf) (sj := sj) (sb := sb) hnf (TI k) w (by omega) (by omega) h h59
    rw [f_FW_putBlock_2, if_neg (inle (by omega) (by omega)), k1, if_neg k2, e1, Option.bind_some, f_Mo_putBlock_6, ei, if_neg ni, hsa 5 (by decide), hcnt, we, if_neg (inle (by omega) (by omega)), j1, if_neg j2, ← x1, e1', Option.bind_some]
    refine wr_ad b1 b1' f1 g1 ?_
    dsimp only
    rw [iiS, iiS]
    exact ih (k + 1) f f' (n + w) q (by omega) (by omega) (by omega) (by omega) hq2 r1 h1 (fun a ha => (g1 a ha).trans (hsa a ha))
end
