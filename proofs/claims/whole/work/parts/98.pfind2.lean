/-! ===== find: the reference, and both ===== -/
section
variable {nf : Nat} {z : ZS} {si : Nat → Int32} {sj : Nat → Int64} {sa : Nat → Nat → Int32} {sb sb' : Nat → Nat → Int64} {i n t r : Nat} {tm : Nat → Int} {tt : Nat → Nat} {hs : Bool} {b e : ET} {O D : Int → Int} {Z : Int → Nat} {B : Int → Nat → Int32}
theorem ZV.frB (h : ZV z sa sb i n t r tm tt hs b e O D Z B) (f : sb' 12 = sb 12) : ZV z sa sb' i n t r tm tt hs b e O D Z B := by
  obtain ⟨⟨v1, v2, v3, v4, v5, v6, v7, v8, v9, v10⟩, h2, h3⟩ := h
  refine ⟨⟨v1, v2, v3, v4, v5, v6, v7, v8, fun k hk => ?_, v10⟩, h2, h3⟩
  rw [f]
  exact v9 k hk
theorem mt12 {x1 : Int32} {x4 : Int64} {u : Int} {f : Nat → Int} {c : Nat} (hc : c < 50) (h55 : si 55 = ii (c : Int)) (hS : SS (sb 54) f c) (hu : inL u) : ∀ (d k fu : Nat) (fl : Int32), k + d = c → d < fu → (fl = 0 ∨ fl = 1) → ∃ (fl' : Int32) (fu' : Nat), (fl' = 0 ∨ fl' = 1) ∧ (fl' = 1 ↔ fl = 1 ∨ ∃ q, k ≤ q ∧ q < c ∧ f q = u) ∧ f_Mo_tryOffset_12 nf fu (ii (k : Int)) fl (jj u) x1 x4 si sj sa sb = f_Mo_tryOffset_12 nf (fu' + 1) (ii (c : Int)) fl' (jj u) x1 x4 si sj sa sb := by
  intro d
  induction d with
  | zero =>
    intro k fu fl hk hf hfl
    obtain ⟨f', rfl⟩ : ∃ f', fu = f' + 1 := ⟨fu - 1, by omega⟩
    obtain rfl : k = c := by omega
    exact ⟨fl, f', hfl, ⟨Or.inl, fun w => w.elim id (fun ⟨q, q1, q2, _⟩ => by omega)⟩, rfl⟩
  | succ d ih =>
    intro k fu fl hk hf hfl
    obtain ⟨f', rfl⟩ : ∃ f', fu = f' + 1 := ⟨fu - 1, by omega⟩
    obtain ⟨t1, t2⟩ := hS.1 k (by omega)
    unfold isI at t2
    have ek : (ii (k : Int)).toNatClampNeg = k := by rw [ii_nat (by omega) (by omega)]; omega
    have nk : ¬ (ii (k : Int) < 0 ∨ 64 ≤ k) := by rw [ii_lit, ii_lt (by omega) (by omega) (by omega) (by omega)]; omega
    have hstep : f_Mo_tryOffset_12 nf (f' + 1) (ii (k : Int)) fl (jj u) x1 x4 si sj sa sb = f_Mo_tryOffset_12 nf f' (ii ((k + 1 : Nat) : Int)) (fl ||| (if f k = u then 1 else 0)) (jj u) x1 x4 si sj sa sb := by
      rw [f_Mo_tryOffset_12, h55, if_neg (by rw [ii_le (by omega) (by omega) (by omega) (by omega)]; omega), ek, if_neg nk, t1]
      unfold f_Mo_tryOffset_41
      rw [iiS]
      by_cases w : f k = u
      · rw [if_pos ((jj_eq (by omega) (by omega) hu.1 hu.2).mpr w), if_pos w]
      · rw [if_neg (fun y => w ((jj_eq (by omega) (by omega) hu.1 hu.2).mp y)), if_neg w]
    have o1 := or01 hfl (b := if f k = u then 1 else 0) (by by_cases w : f k = u <;> simp [w])
    obtain ⟨fl', fu', g1, g2, g3⟩ := ih (k + 1) f' (fl ||| (if f k = u then 1 else 0)) (by omega) (by omega) o1.1
    refine ⟨fl', fu', g1, ?_, hstep.trans g3⟩
    rw [g2, o1.2]
    constructor
    · rintro ((w | w) | ⟨q, q1, q2, q3⟩)
      · exact Or.inl w
      · by_cases y : f k = u
        · exact Or.inr ⟨k, by omega, by omega, y⟩
        · rw [if_neg y] at w; cases w
      · exact Or.inr ⟨q, by omega, q2, q3⟩
    · rintro (w | ⟨q, q1, q2, q3⟩)
      · exact Or.inl (Or.inl w)
      · by_cases y : q = k
        · rw [y] at q3
          exact Or.inl (Or.inr (by rw [if_pos q3]))
        · exact Or.inr ⟨q, by omega, q2, q3⟩
/-- what a try leaves alone -/
def frT (si si' : Nat → Int32) (sj sj' : Nat → Int64) (sa sa' : Nat → Nat → Int32) (sb sb' : Nat → Nat → Int64) : Prop := (∀ k, ¬ (41 ≤ k ∧ k ≤ 47) → k ≠ 55 → si' k = si k) ∧ (∀ k, k ≠ 40 → sj' k = sj k) ∧ frA sa sa' ∧ ∀ b, b ≠ 54 → sb' b = sb b
theorem frT.tr {si si' si'' : Nat → Int32} {sj sj' sj'' : Nat → Int64} {sa sa' sa'' : Nat → Nat → Int32} {sb sb' sb'' : Nat → Nat → Int64} (h : frT si si' sj sj' sa sa' sb sb') (g : frT si' si'' sj' sj'' sa' sa'' sb' sb'') : frT si si'' sj sj'' sa sa'' sb sb'' :=
  ⟨fun k h1 h2 => (g.1 k h1 h2).trans (h.1 k h1 h2), fun k h1 => (g.2.1 k h1).trans (h.2.1 k h1), h.2.2.1.tr g.2.2.1, fun b h1 => (g.2.2.2 b h1).trans (h.2.2.2 b h1)⟩
theorem ZV.mtry (h : ZV z sa sb i n t r tm tt hs b e O D Z B) (hnf : 10000 ≤ nf) {s o : Int} (hs' : isI s) (o1 : -2147483648 ≤ o) (o2 : o < 2147483648) {f : Nat → Int} {c : Nat} (hc : c < 50) (h55 : si 55 = ii (c : Int)) (hS : SS (sb 54) f c) : ∃ (si' : Nat → Int32) (sj' : Nat → Int64) (sa' : Nat → Nat → Int32) (sb' : Nat → Nat → Int64) (f' : Nat → Int) (c' : Nat), f_Mo_tryOffset nf (ii (i : Int)) (jj s) (jj o) si sj sa sb = some (si', sj', sa', sb') ∧ SS (sb' 54) f' c' ∧ si' 55 = ii (c' : Int) ∧ c' ≤ c + 1 ∧ (∀ u, memb f' c' u → memb f c u ∨ (u = s - o ∧ Acc n r tm tt hs b e O s (s - o))) ∧ (∀ u, memb f c u → memb f' c' u) ∧ (Acc n r tm tt hs b e O s (s - o) → memb f' c' (s - o)) ∧ frT si si' sj sj' sa sa' sb sb' := by
  have hsb := hs'
  unfold isI at hsb
  have eu : jj s - jj o = jj (s - o) := jj_sub s o
  generalize hF : f_Mo_tryOffset nf (ii (i : Int)) (jj s) (jj o) si sj sa sb = F
  unfold f_Mo_tryOffset f_Mo_tryOffset_0 at hF
  rw [eu] at hF
  obtain ⟨fl, fu, g1, g2, g3⟩ := mt12 (nf := nf) (sj := sj) (sa := sa) (x1 := ii (i : Int)) (x4 := jj o) (u := s - o) hc h55 hS ⟨by omega, by omega⟩ c 0 nf 0 (by omega) (by omega) (Or.inl rfl)
  rw [show (0 : Int32) = ii ((0 : Nat) : Int) from rfl] at hF
  rw [show (ii ((0 : Nat) : Int)) = (0 : Int32) from rfl] at g3
  rw [show (ii ((0 : Nat) : Int)) = (0 : Int32) from rfl, g3, f_Mo_tryOffset_12, h55, if_pos (by rw [ii_le (by omega) (by omega) (by omega) (by omega)]; omega)] at hF
  have rf : frT si si sj sj sa sa sb sb := ⟨fun _ _ _ => rfl, fun _ _ => rfl, frA.rf, fun _ _ => rfl⟩
  obtain ⟨_, i2⟩ := cinst nf (v := s - o) (by omega) (by omega)
  by_cases m : memb f c (s - o)
  · have : fl = 1 := g2.mpr (Or.inr (by obtain ⟨q, q1, q2⟩ := m; exact ⟨q, by omega, q1, q2⟩))
    rw [if_neg (by rw [this]; decide)] at hF
    exact ⟨si, sj, sa, sb, f, c, hF.symm, hS, h55, by omega, fun u hu => Or.inl hu, fun u hu => hu, fun _ => m, rf⟩
  · have : fl = 0 := by
      rcases g1 with g1 | g1
      · exact g1
      · rcases g2.mp g1 with w | ⟨q, _, q1, q2⟩
        · cases w
        · exact absurd ⟨q, q1, q2⟩ m
    rw [if_pos this, i2, Option.bind_some] at hF
    by_cases cI : -1152921504606846975 ≤ s - o ∧ s - o ≤ 1152921504606846975
    · obtain ⟨k, hk⟩ := h.ex (s - o)
      obtain ⟨si', sj', sa', m1, m2, m3⟩ := h.state (nf := nf) (si := si) (sj := sj) hnf cI hk
      have ok := stI_ok (v := s - o) h hk.1
      have ai := Acc.iff (r := r) (tt := tt) (hs := hs) (b := b) (e := e) (O := O) (s := s) cI hk
      generalize stI n r tt (hs && suB b e (s - o)) k = g at m2 ok ai
      rw [if_pos cI, if_neg (by decide), m1, Option.bind_some] at hF
      dsimp only at hF
      have rf' : frT si si' sj sj' sa sa' sb sb := ⟨fun k h1 _ => m2.frI k h1, m3, fun a h1 _ => m2.frA a h1, fun _ _ => rfl⟩
      have h55' : si' 55 = ii (c : Int) := (m2.frI 55 (by omega)).trans h55
      rcases ok with ok | ⟨rfl, _⟩
      · obtain ⟨z1, z2, z3, z4, z5, z6⟩ := h.2.2.1 g ok
        have gb : -3 < g := by unfold vg at ok; omega
        unfold gotG at m2
        rw [if_neg (by omega)] at m2
        obtain ⟨⟨y1, y2, y3, y4, y5, y6⟩, y7⟩ := m2
        have y1' : ¬ si' 43 = 2 := by
          rw [y1]
          by_cases w : g < 0
          · rw [if_pos w]; decide
          · rw [if_neg w]; decide
        rw [if_neg y1', y3, ii_64 (by omega) (by omega)] at hF
        by_cases w : O g = o
        · rw [if_pos (by rw [w]), h55'] at hF
          obtain ⟨f2, sb2, k1, k2, k3, k4⟩ := mk97 (nf := nf) (si := si') (sj := sj') (sa := sa') hc h55' (fun k hk => (hS.1 k hk).2) hS.2 cI m c nf (by omega) (by omega) (fun k h1 h2 => by omega) sb ⟨fun k hk => (hS.1 k hk).1, fun k h1 h2 => by omega⟩
          rw [k1] at hF
          have acc : Acc n r tm tt hs b e O s (s - o) := ai.mpr ⟨by omega, by omega⟩
          exact ⟨_, sj', sa', sb2, f2, c + 1, hF.symm, k2, rfl, by omega, fun u hu => by
            rcases (k3 u).mp hu with hu | hu
            · exact Or.inl hu
            · exact Or.inr ⟨hu, acc⟩, fun u hu => (k3 u).mpr (Or.inl hu), fun _ => (k3 _).mpr (Or.inr rfl), ⟨fun k h1 h2 => by rw [vup_ne h2]; exact rf'.1 k h1 h2, m3, rf'.2.2.1, k4⟩⟩
        · rw [if_neg (fun y => by rw [jj_eq (by omega) (by omega) (by omega) (by omega)] at y; omega)] at hF
          exact ⟨si', sj', sa', sb, f, c, hF.symm, hS, h55', by omega, fun u hu => Or.inl hu, fun u hu => hu, fun ga => by have := (ai.mp ga).2; omega, rf'⟩
      · unfold gotG at m2
        rw [if_pos rfl] at m2
        rw [if_pos m2.1] at hF
        exact ⟨si', sj', sa', sb, f, c, hF.symm, hS, h55', by omega, fun u hu => Or.inl hu, fun u hu => hu, fun ga => absurd rfl (ai.mp ga).1, rf'⟩
    · rw [if_neg cI, if_pos rfl] at hF
      exact ⟨si, sj, sa, sb, f, c, hF.symm, hS, h55, by omega, fun u hu => Or.inl hu, fun u hu => hu, fun ga => absurd ga.1 cI, rf⟩
theorem ZV.m84 (hnf : 10000 ≤ nf) {s : Int} (hs' : isI s) (hh : Nat) (hh2 : hh ≤ 2) (og : Nat → Int) : ∀ (d k fu : Nat), k + d = hh → d < fu → ∀ (si : Nat → Int32) (sj : Nat → Int64) (sa : Nat → Nat → Int32) (sb : Nat → Nat → Int64) (f : Nat → Int) (c : Nat), ZV z sa sb i n t r tm tt hs b e O D Z B → sa 23 i = ii (hh : Int) → (∀ w, w < hh → sa 24 (2 * i + w) = ii (og w) ∧ -2147483648 ≤ og w ∧ og w < 2147483648) → SS (sb 54) f c → si 55 = ii (c : Int) → c ≤ 40 + k → (∀ u, memb f c u → Acc n r tm tt hs b e O s u) → ∃ (si' : Nat → Int32) (sj' : Nat → Int64) (sa' : Nat → Nat → Int32) (sb' : Nat → Nat → Int64) (f' : Nat → Int) (c' : Nat), f_Mo_find_84 nf fu (ii (k : Int)) (ii (i : Int)) (jj s) si sj sa sb = some (ii (c' : Int), si', sj', sa', sb') ∧ SS (sb' 54) f' c' ∧ si' 55 = ii (c' : Int) ∧ c' ≤ 42 ∧ (∀ u, memb f' c' u → Acc n r tm tt hs b e O s u) ∧ (∀ u, memb f c u → memb f' c' u) ∧ (∀ w, k ≤ w → w < hh → Acc n r tm tt hs b e O s (s - og w) → memb f' c' (s - og w)) ∧ frT si si' sj sj' sa sa' sb sb' := by
  intro d
  induction d with
  | zero =>
    intro k fu hk hf si sj sa sb f c h h23 h24 hS h55 hc h1
    obtain ⟨f', rfl⟩ : ∃ f', fu = f' + 1 := ⟨fu - 1, by omega⟩
    have hi := h.1.1
    have ei : (ii (i : Int)).toNatClampNeg = i := by rw [ii_nat (by omega) (by omega)]; omega
    have ni : ¬ (ii (i : Int) < 0 ∨ 5 ≤ i) := by rw [ii_lit, ii_lt (by omega) (by omega) (by omega) (by omega)]; omega
    rw [f_Mo_find_84, ei, if_neg ni, h23, if_pos (by rw [ii_le (by omega) (by omega) (by omega) (by omega)]; omega), h55]
    exact ⟨si, sj, sa, sb, f, c, rfl, hS, h55, by omega, h1, fun u hu => hu, fun w w1 w2 => by omega, fun _ _ _ => rfl, fun _ _ => rfl, frA.rf, fun _ _ => rfl⟩
  | succ d ih =>
    intro k fu hk hf si sj sa sb f c h h23 h24 hS h55 hc h1
    obtain ⟨f', rfl⟩ : ∃ f', fu = f' + 1 := ⟨fu - 1, by omega⟩
    have hi := h.1.1
    have ei : (ii (i : Int)).toNatClampNeg = i := by rw [ii_nat (by omega) (by omega)]; omega
    have ni : ¬ (ii (i : Int) < 0 ∨ 5 ≤ i) := by rw [ii_lit, ii_lt (by omega) (by omega) (by omega) (by omega)]; omega
    obtain ⟨a1, a2⟩ := sl2 (w := 2) (i := i) (k := k) (m := 10) (by omega) hi (by omega) (by omega) 2 rfl
    obtain ⟨w1, w2, w3⟩ := h24 k (by omega)
    obtain ⟨si1, sj1, sa1, sb1, f1, c1, t1, t2, t3, t4, t5, t6, t7, t8⟩ := h.mtry (nf := nf) (si := si) (sj := sj) hnf hs' w2 w3 (show c < 50 by omega) h55 hS
    have fr := t8
    obtain ⟨si2, sj2, sa2, sb2, f2, c2, u1, u2, u3, u4, u5, u6, u7, u8⟩ := ih (k + 1) f' (by omega) (by omega) si1 sj1 sa1 sb1 f1 c1 ((h.fr t8.2.2.1).frB (t8.2.2.2 12 (by decide))) (by rw [t8.2.2.1 23 (by decide) (by decide)]; exact h23) (fun w hw => by rw [t8.2.2.1 24 (by decide) (by decide)]; exact h24 w hw) t2 t3 (by omega) (fun u hu => by
      rcases t5 u hu with q | ⟨q, q'⟩
      · exact h1 u q
      · rw [q]; exact q')
    refine ⟨si2, sj2, sa2, sb2, f2, c2, ?_, u2, u3, u4, u5, fun u hu => u6 u (t6 u hu), fun w w1 w2 ga => ?_, t8.tr u8⟩
    · rw [f_Mo_find_84, ei, if_neg ni, h23, if_neg (by rw [ii_le (by omega) (by omega) (by omega) (by omega)]; omega), a1, if_neg a2, w1, ii_64 w2 w3, t1, Option.bind_some, iiS]
      exact u1
    · by_cases y : w = k
      · rw [y] at ga ⊢
        exact u6 _ (t7 ga)
      · exact u7 w (by omega) w2 ga
theorem ZV.m45 (hnf : 10000 ≤ nf) {s : Int} (hs' : isI s) (hh : Nat) (hh2 : hh ≤ 2) (og : Nat → Int) : ∀ (d k fu : Nat), k + d = t → d < fu → ∀ (si : Nat → Int32) (sj : Nat → Int64) (sa : Nat → Nat → Int32) (sb : Nat → Nat → Int64) (f : Nat → Int) (c : Nat), ZV z sa sb i n t r tm tt hs b e O D Z B → sa 23 i = ii (hh : Int) → (∀ w, w < hh → sa 24 (2 * i + w) = ii (og w) ∧ -2147483648 ≤ og w ∧ og w < 2147483648) → SS (sb 54) f c → si 55 = ii (c : Int) → c ≤ k → (∀ u, memb f c u → Acc n r tm tt hs b e O s u) → ∃ (si' : Nat → Int32) (sj' : Nat → Int64) (sa' : Nat → Nat → Int32) (sb' : Nat → Nat → Int64) (f' : Nat → Int) (c' : Nat), f_Mo_find_45 nf fu (ii (k : Int)) (ii (i : Int)) (jj s) si sj sa sb = some (ii (c' : Int), si', sj', sa', sb') ∧ SS (sb' 54) f' c' ∧ si' 55 = ii (c' : Int) ∧ c' ≤ 42 ∧ (∀ u, memb f' c' u → Acc n r tm tt hs b e O s u) ∧ (∀ u, memb f c u → memb f' c' u) ∧ (∀ g : Nat, k ≤ g → g < t → Acc n r tm tt hs b e O s (s - O g) → memb f' c' (s - O g)) ∧ (∀ w, w < hh → Acc n r tm tt hs b e O s (s - og w) → memb f' c' (s - og w)) ∧ frT si si' sj sj' sa sa' sb sb' := by
  intro d
  induction d with
  | zero =>
    intro k fu hk hf si sj sa sb f c h h23 h24 hS h55 hc h1
    obtain ⟨f', rfl⟩ : ∃ f', fu = f' + 1 := ⟨fu - 1, by omega⟩
    obtain ⟨hi, _, _, ht, _, _, _, h6, _⟩ := h.1
    have ei : (ii (i : Int)).toNatClampNeg = i := by rw [ii_nat (by omega) (by omega)]; omega
    have ni : ¬ (ii (i : Int) < 0 ∨ 5 ≤ i) := by rw [ii_lit, ii_lt (by omega) (by omega) (by omega) (by omega)]; omega
    obtain ⟨si2, sj2, sa2, sb2, f2, c2, u1, u2, u3, u4, u5, u6, u7, u8⟩ := ZV.m84 (nf := nf) hnf hs' hh hh2 og hh 0 nf (by omega) (by omega) si sj sa sb f c h h23 h24 hS h55 (by omega) h1
    refine ⟨si2, sj2, sa2, sb2, f2, c2, ?_, u2, u3, u4, u5, u6, fun g g1 g2 => by omega, fun w hw => u7 w (by omega) hw, u8⟩
    rw [f_Mo_find_45, ei, if_neg ni, h6, if_pos (by rw [ii_le (by omega) (by omega) (by omega) (by omega)]; omega)]
    exact u1
  | succ d ih =>
    intro k fu hk hf si sj sa sb f c h h23 h24 hS h55 hc h1
    obtain ⟨f', rfl⟩ : ∃ f', fu = f' + 1 := ⟨fu - 1, by omega⟩
    obtain ⟨hi, _, _, ht, _, _, _, h6, _⟩ := h.1
    have ei : (ii (i : Int)).toNatClampNeg = i := by rw [ii_nat (by omega) (by omega)]; omega
    have ni : ¬ (ii (i : Int) < 0 ∨ 5 ≤ i) := by rw [ii_lit, ii_lt (by omega) (by omega) (by omega) (by omega)]; omega
    obtain ⟨a1, a2⟩ := sl2 (w := 40) (i := i) (k := k) (m := 200) (by omega) hi (by omega) (by omega) 40 rfl
    have o14 := (h.2.2.2.1 k (by omega)).1
    obtain ⟨w2, w3, _⟩ := h.2.2.1 k (Or.inl ⟨by omega, by omega⟩)
    obtain ⟨si1, sj1, sa1, sb1, f1, c1, t1, t2, t3, t4, t5, t6, t7, t8⟩ := h.mtry (nf := nf) (si := si) (sj := sj) (o := O k) hnf hs' (by omega) (by omega) (show c < 50 by omega) h55 hS
    obtain ⟨si2, sj2, sa2, sb2, f2, c2, u1, u2, u3, u4, u5, u6, u7, u8, u9⟩ := ih (k + 1) f' (by omega) (by omega) si1 sj1 sa1 sb1 f1 c1 ((h.fr t8.2.2.1).frB (t8.2.2.2 12 (by decide))) (by rw [t8.2.2.1 23 (by decide) (by decide)]; exact h23) (fun w hw => by rw [t8.2.2.1 24 (by decide) (by decide)]; exact h24 w hw) t2 t3 (by omega) (fun u hu => by
      rcases t5 u hu with q | ⟨q, q'⟩
      · exact h1 u q
      · rw [q]; exact q')
    refine ⟨si2, sj2, sa2, sb2, f2, c2, ?_, u2, u3, u4, u5, fun u hu => u6 u (t6 u hu), fun w w1 w2 ga => ?_, u8, t8.tr u9⟩
    · rw [f_Mo_find_45, ei, if_neg ni, h6, if_neg (by rw [ii_le (by omega) (by omega) (by omega) (by omega)]; omega), a1, if_neg a2, o14, ii_64 (by omega) (by omega), t1, Option.bind_some, iiS]
      exact u1
    · by_cases y : w = k
      · rw [y] at ga ⊢
        exact u6 _ (t7 ga)
      · exact u7 w (by omega) w2 ga
end
theorem coex (x : Int32) : ∃ v : Int, x = ii v ∧ -2147483648 ≤ v ∧ v < 2147483648 := ii_all x
set_option maxHeartbeats 1000000 in
theorem st_find {nf : Nat} (hnf : 10000 ≤ nf) (S : CS) (M : MS) (p0 : Int32) (p1 : Int64) (h : RR S M) : STWi nf RR S (cq_find nf S p0 p1) (f_Mo_find nf p0 p1 M.1 M.2.1 M.2.2.1 M.2.2.2) := by
  obtain ⟨si, sj, sa, sb⟩ := M
  generalize hC : cq_find nf S p0 p1 = C
  unfold cq_find at hC
  dsimp only
  generalize hQ : f_Mo_find nf p0 p1 si sj sa sb = Q
  have e25 : ∀ s : Int32, ¬ s ≤ 0 → f_Mo_find_25 nf p0 p1 s si sj sa sb = some (0, va_up si 3 s, sj, sa, sb) := by
    intro s hs
    unfold f_Mo_find_25
    rw [if_neg hs]
  unfold f_Mo_find f_Mo_find_0 at hQ
  rw [e25 1 (by decide), e25 2 (by decide)] at hQ
  unfold f_ZF_find f_ZF_find_0 g_ZF_find g_ZF_find_0 at hC
  rcases zcase p0 with ⟨i, hi, rfl⟩ | hz
  · obtain ⟨a1, a2, a3, a4, a5, a6, a7⟩ := zgood hi nf
    rw [a4, a1, a2, a5, Option.bind_some, Option.bind_some] at hC
    rw [a3, Option.bind_some, if_pos rfl] at hQ
    obtain ⟨v, rfl, v1, v2⟩ := jj_all p1
    obtain ⟨i1, i2⟩ := cinst nf v1 v2
    rw [i2, Option.bind_some] at hQ
    by_cases c : -1152921504606846975 ≤ v ∧ v ≤ 1152921504606846975
    · obtain ⟨k1, k2⟩ := cchk nf v1 v2 c
      rw [k1, Option.bind_some, if_neg a6] at hC
      rw [if_pos c, if_neg (by decide)] at hQ
      obtain ⟨n, t, r, tm, tt, hs, b, e, O, D, Z, B, hv⟩ := (h.2.2.2.2.2.1 i hi).view (by omega)
      dsimp only at hv
      obtain ⟨w1, e1, w2, w3⟩ := coex (S.2 i).2.2.2.2.2.2.2.2.2.2.2.2.2.2.2.2.2.2.2.2.1
      obtain ⟨x1, e2, x2, x3⟩ := coex (S.2 i).2.2.2.2.2.2.2.2.2.2.2.2.2.2.2.2.2.2.2.2.2.1
      have hty := hv.1.2.2.2.2.2.2.1
      have ht := hv.1.2.2.2.1
      have hcoe : ∀ g : Int, -2 ≤ g → g < t → f_Zone_offsetOf nf (ii g) (S.2 i).2.2.1 (S.2 i).2.2.2.2.2.2.2.2.1 (S.2 i).2.2.2.2.2.2.2.2.2.2.2.2.2.2.2.2.2.2.2.2.1 (S.2 i).2.2.2.2.2.2.2.2.2.2.2.2.2.2.2.2.2.2.2.2.2.1 = some (ii (if 0 ≤ g then O g else if g = -2 then x1 else w1)) ∧ -2147483648 ≤ (if 0 ≤ g then O g else if g = -2 then x1 else w1) ∧ (if 0 ≤ g then O g else if g = -2 then x1 else w1) < 2147483648 := by
        intro g g1 g2
        by_cases q : 0 ≤ g
        · obtain ⟨z1, z2, _, _, _, z6⟩ := hv.2.2.1 g (Or.inl ⟨q, g2⟩)
          rw [if_pos q]
          exact ⟨(z6 nf hnf).1, by omega, by omega⟩
        · rw [if_neg q]
          unfold f_Zone_offsetOf f_Zone_offsetOf_0 f_Zone_offsetOf_46
          by_cases q2 : g = -2
          · rw [if_pos q2, q2, e2]
            exact ⟨rfl, x2, x3⟩
          · obtain rfl : g = -1 := by omega
            rw [if_neg q2, e1]
            exact ⟨rfl, w2, w3⟩
      have same : ∀ g : Int, vg t r hs g → (if 0 ≤ g then O g else if g = -2 then x1 else w1) = O g ∧ -2 ≤ g ∧ g < t := by
        intro g hg
        have hb : -2 ≤ g ∧ g < t := by unfold vg at hg; have := hv.1.2.2.1; omega
        obtain ⟨z1, z2, _, _, _, z6⟩ := hv.2.2.1 g hg
        have q1 := (z6 nf hnf).1
        obtain ⟨q2, q3, q4⟩ := hcoe g hb.1 hb.2
        rw [q1] at q2
        have := Option.some.inj q2
        rw [ii_eq (by omega) (by omega) q3 q4] at this
        exact ⟨this.symm, hb⟩
      obtain ⟨fc, cc, Ac, C1, C2, C3, C4, C5⟩ := hv.cfind hnf c (fun g => if 0 ≤ g then O g else if g = -2 then x1 else w1) hcoe (t + 2) (-2) nf (by omega) (by omega) (by omega) (fun _ => 0) 0 S.1.2.2.2.2.2.2.2.2.1 ⟨fun k hk => by omega, fun k hk => by omega⟩ (by omega) (fun u ⟨k, hk, _⟩ => by omega) (fun g g1 g2 => by omega)
      have hh : ∃ hh : Nat, hh ≤ 2 ∧ sa 23 i = ii (hh : Int) ∧ (∀ w, w < hh → sa 24 (2 * i + w) = ii (O (if w = 0 then -1 else -2)) ∧ -2147483648 ≤ O (if w = 0 then -1 else -2) ∧ O (if w = 0 then -1 else -2) < 2147483648) ∧ ∀ g, vg t r hs g → (0 ≤ g ∨ (0 < hh ∧ g = -1) ∨ (1 < hh ∧ g = -2)) := by
        rcases hv.2.1.2.2 with ⟨q0, q1, q2, q3⟩ | ⟨q0, q1, q2, q3⟩ | ⟨q0, q1, q2, q3, _⟩
        · refine ⟨0, by omega, q1, fun w hw => by omega, fun g hg => ?_⟩
          unfold vg at hg
          omega
        · refine ⟨1, by omega, q2, fun w hw => ?_, fun g hg => ?_⟩
          · obtain rfl : w = 0 := by omega
            obtain ⟨z1, z2, _⟩ := hv.2.2.1 (-1) (Or.inr (Or.inl ⟨q0, rfl⟩))
            exact ⟨(hv.2.2.2.2.1 q0).1, by rw [if_pos rfl]; omega, by rw [if_pos rfl]; omega⟩
          · unfold vg at hg
            rcases hg with hg | hg | ⟨_, hg, _⟩
            · omega
            · omega
            · rw [q1] at hg; cases hg
        · refine ⟨2, by omega, q2, fun w hw => ?_, fun g hg => ?_⟩
          · by_cases y : w = 0
            · subst y
              obtain ⟨z1, z2, _⟩ := hv.2.2.1 (-1) (Or.inr (Or.inl ⟨q0, rfl⟩))
              exact ⟨(hv.2.2.2.2.1 q0).1, by rw [if_pos rfl]; omega, by rw [if_pos rfl]; omega⟩
            · obtain rfl : w = 1 := by omega
              obtain ⟨z1, z2, _⟩ := hv.2.2.1 (-2) (Or.inr (Or.inr ⟨q0, q1, rfl⟩))
              exact ⟨(hv.2.2.2.2.2 q0 q1).1, by rw [if_neg (by decide)]; omega, by rw [if_neg (by decide)]; omega⟩
          · unfold vg at hg
            omega
      obtain ⟨hh, hh1, hh2, hh3, hh4⟩ := hh
      obtain ⟨si', sj', sa', sb', fm, cm, M1, M2, M3, M4, M5, M6, M7, M8, M9⟩ := ZV.m45 (nf := nf) hnf c hh hh1 (fun w => O (if w = 0 then -1 else -2)) t 0 nf (by omega) (by omega) (va_up (va_up si 3 0) 55 0) sj sa sb (fun _ => 0) 0 hv hh2 hh3 ⟨fun k hk => by omega, fun k hk => by omega⟩ rfl (by omega) (fun u ⟨k, hk, _⟩ => by omega)
      have key : ∀ u, memb fc cc u ↔ memb fm cm u := by
        intro u
        have full : Acc n r tm tt hs b e O v u → memb fc cc u ∧ memb fm cm u := by
          intro ga
          obtain ⟨u1, k, u2, u3, u4⟩ := id ga
          rcases stI_ok (v := u) hv u2.1 with ok | ⟨ok, _⟩
          · obtain ⟨q1, q2, q3⟩ := same _ ok
            generalize stI n r tt (hs && suB b e u) k = g at u3 u4 ok q1 q2 q3
            have eu : u = v - O g := by omega
            constructor
            · have := C5 g q2 q3
              rw [q1, ← eu] at this
              exact this ga
            · rcases hh4 g ok with w | ⟨w, rfl⟩ | ⟨w, rfl⟩
              · obtain ⟨m, rfl⟩ : ∃ m : Nat, g = (m : Int) := ⟨g.toNat, by omega⟩
                have := M7 m (by omega) (by omega)
                rw [← eu] at this
                exact this ga
              · have := M8 0 w
                rw [if_pos rfl, ← eu] at this
                exact this ga
              · have := M8 1 w
                rw [if_neg (by decide), ← eu] at this
                exact this ga
          · exact absurd ok u3
        exact ⟨fun q => (full (C4 u q)).2, fun q => (full (M5 u q)).1⟩
      have ec := ss_cnt C2.2 M2.2 key
      have ee := ss_eq C2.2 M2.2 key
      subst ec
      rw [show ii (-2) = (-2 : Int32) from rfl, show ii ((0 : Nat) : Int) = (0 : Int32) from rfl] at C1
      rw [C1] at hC
      unfold f_Mo_find_25 at hQ
      rw [if_pos (show (0 : Int32) ≤ 0 by decide)] at hQ
      rw [show ii ((0 : Nat) : Int) = (0 : Int32) from rfl] at M1
      rw [M1] at hQ
      refine ⟨0, (ii (cc : Int)).toInt64, ((S.1.1, S.1.2.1, S.1.2.2.1, S.1.2.2.2.1, S.1.2.2.2.2.1, S.1.2.2.2.2.2.1, ii (cc : Int), S.1.2.2.2.2.2.2.2.1, Ac, S.1.2.2.2.2.2.2.2.2.2), S.2), 0, 0, _, _, hC.symm.trans rfl, hQ.symm, ?_, fun _ => rfl, ?_, ?_, ?_⟩
      · show some (si' 3) = some 0
        rw [M9.1 3 (by omega) (by decide)]
        rfl
      · obtain ⟨⟨n', h1, h2, h3⟩, ⟨m, h4, h5, h6⟩, h7, _, ⟨c', t1, t2, t3, t4⟩, h12, h13⟩ := h
        dsimp only at *
        have fI : ∀ k, kI k → k ≠ 55 → si' k = si k := fun k hk k1 => by
          rw [M9.1 k (by unfold kI at hk; omega) k1, vup_ne k1, vup_ne (by unfold kI at hk; omega)]
        have fA := M9.2.2.1
        have fB := M9.2.2.2
        refine ⟨⟨n', h1, ?_, (fI 1 (by unfold kI; omega) (by decide)).trans h3⟩, ⟨m, h4, ?_, (fI 57 (by unfold kI; omega) (by decide)).trans h6⟩, h7.trans (fI 2 (by unfold kI; omega) (by decide)).symm, ⟨cc, C3, rfl, M3, fun k hk => ?_⟩, ⟨c', t1, t2, (fI 61 (by unfold kI; omega) (by decide)).trans t3, fun hc => ?_⟩, fun q hq => (h12 q hq).congr (fun a j hk => congrFun (fA a (by unfold kAz at hk; omega) (by unfold kAz at hk; omega)) j) (fun a j hk => congrFun (fB a (by unfold kBz at hk; omega)) j), h13⟩
        · exact h2.T_congr (fun k _ => (congrFun (fA 0 (by decide) (by decide)) k).symm)
        · exact h5.T_congr (fun k _ => (congrFun (fA 56 (by decide) (by decide)) k).symm)
        · exact (C2.1 k hk).1.trans ((congrArg jj (ee k hk).2).trans (M2.1 k hk).1.symm)
        · obtain ⟨g1, tv, av, x, g2, g3, g4, g5⟩ := t4 hc
          refine ⟨(fI 62 (by unfold kI; omega) (by decide)).trans g1, tv, av, x, g2, fun k hk => ?_, g4, (M9.2.1 65 (by decide)).trans g5⟩
          obtain ⟨e1, e2, e3, e4⟩ := g3 k hk
          exact ⟨e1, (congrFun (fB 63 (by decide)) k).trans e2, e3, (congrFun (fB 64 (by decide)) k).trans e4⟩
      · show 0 + phi S ≤ 10 + phi S
        omega
      · show 0 + 2 * phi S ≤ 100 + 2 * phi S
        omega
    · obtain ⟨k1, k2⟩ := cchkN nf v1 v2 c
      rw [k1, k2] at hC
      rw [if_neg c, if_pos rfl] at hQ
      exact noI h 2 (by decide) hC.symm hQ.symm
  · rw [(hz nf).2.2, Option.bind_some, if_neg (by decide)] at hQ
    rw [(hz nf).1, (hz nf).2.1] at hC
    exact noI h 1 (by decide) hC.symm hQ.symm
