/-! ===== write ===== -/
section
variable {nf i : Nat} {si : Nat → Int32} {sj : Nat → Int64} {sb : Nat → Nat → Int64}
theorem mnar26 {r : Nat} (hr : r ≤ 128) (hi : i < 5) : ∀ (d k fu : Nat), k + d = r → d < fu → ∀ sa : Nat → Nat → Int32, ∃ sa', f_Mo_isNarrow_26 nf fu (ii (k : Int)) (ii (r : Int)) (ii (i : Int)) si sj sa sb = ((f_Mo_ruleText nf 50 0 (ii (r : Int)) si sj sa' sb).bind fun (z_13, i_9, j_10, a_11, b_12) => f_Mo_isNarrow_79 nf nf 0 z_13 (ii (r : Int)) i_9 j_10 a_11 b_12) ∧ (∀ q, k ≤ q → q < r → sa' 60 q = sa 0 q ∧ sa' 0 q = sa 22 (128 * i + q)) ∧ (∀ q, q < k ∨ r ≤ q → sa' 60 q = sa 60 q ∧ sa' 0 q = sa 0 q) ∧ ∀ a, a ≠ 0 → a ≠ 60 → sa' a = sa a := by
  have hwi : 128 * i ≤ 128 * 4 := Nat.mul_le_mul_left 128 (by omega)
  intro d
  induction d with
  | zero =>
    intro k fu hk hf sa
    obtain ⟨f, rfl⟩ : ∃ f, fu = f + 1 := ⟨fu - 1, by omega⟩
    rw [f_Mo_isNarrow_26, if_pos (iple (c := 0) (d := 0) (by omega) (by omega))]
    exact ⟨sa, rfl, fun q h1 h2 => by omega, fun _ _ => ⟨rfl, rfl⟩, fun _ _ _ => rfl⟩
  | succ d ih =>
    intro k fu hk hf sa
    obtain ⟨f, rfl⟩ : ∃ f, fu = f + 1 := ⟨fu - 1, by omega⟩
    obtain ⟨k1, k2⟩ := nidx (k := k) (m := 6000) (by omega) (by omega)
    obtain ⟨_, k3⟩ := nidx (k := k) (m := 128) (by omega) (by omega)
    obtain ⟨a1, a2⟩ := sl2 (w := 128) (i := i) (k := k) (m := 640) (by omega) hi (by omega) (by omega) 128 rfl
    obtain ⟨sa', g1, g2, g3, g4⟩ := ih (k + 1) f (by omega) (by omega) (va_up (va_up sa 60 (upd (sa 60) k (sa 0 k))) 0 (upd (sa 0) k (sa 22 (128 * i + k))))
    refine ⟨sa', ?_, fun q h1 h2 => ?_, fun q hq => ?_, fun a h1 h2 => by rw [g4 a h1 h2, vup_ne h1, vup_ne h2]⟩
    · rw [f_Mo_isNarrow_26, if_neg (inle (by omega) (by omega)), k1, if_neg k2, if_neg k3, a1, if_neg a2, if_neg k2, iiS]
      exact g1
    · by_cases e : q = k
      · obtain ⟨x1, x2⟩ := g3 q (by omega)
        rw [x1, x2, e, vup_ne (by decide), vup_eq, vup_eq]
        unfold upd
        rw [if_pos rfl, if_pos rfl]
        exact ⟨rfl, rfl⟩
      · obtain ⟨x1, x2⟩ := g2 q (by omega) h2
        rw [x1, x2, vup_eq, vup_ne (by decide), vup_ne (by decide)]
        unfold upd
        rw [if_neg e]
        exact ⟨rfl, rfl⟩
    · obtain ⟨x1, x2⟩ := g3 q (by omega)
      rw [x1, x2, vup_ne (by decide), vup_eq, vup_eq]
      unfold upd
      rw [if_neg (by omega), if_neg (by omega)]
      exact ⟨rfl, rfl⟩
theorem mnar79 {r : Nat} {fl : Int32} (hfl : fl = 0 ∨ fl = 1) (hr : r ≤ 128) : ∀ (d k fu : Nat), k + d = r → d < fu → ∀ (si : Nat → Int32) (sa : Nat → Nat → Int32), ∃ sa', f_Mo_isNarrow_79 nf fu (ii (k : Int)) fl (ii (r : Int)) si sj sa sb = some (fl, si, sj, sa', sb) ∧ (∀ q, k ≤ q → q < r → sa' 0 q = sa 60 q) ∧ (∀ q, q < k ∨ r ≤ q → sa' 0 q = sa 0 q) ∧ ∀ a, a ≠ 0 → sa' a = sa a := by
  intro d
  induction d with
  | zero =>
    intro k fu hk hf si sa
    obtain ⟨f, rfl⟩ : ∃ f, fu = f + 1 := ⟨fu - 1, by omega⟩
    rw [f_Mo_isNarrow_79, if_pos (iple (c := 0) (d := 0) (by omega) (by omega)), if_pos hfl]
    exact ⟨sa, rfl, fun q h1 h2 => by omega, fun _ _ => rfl, fun _ _ => rfl⟩
  | succ d ih =>
    intro k fu hk hf si sa
    obtain ⟨f, rfl⟩ : ∃ f, fu = f + 1 := ⟨fu - 1, by omega⟩
    obtain ⟨k1, k2⟩ := nidx (k := k) (m := 6000) (by omega) (by omega)
    obtain ⟨_, k3⟩ := nidx (k := k) (m := 128) (by omega) (by omega)
    obtain ⟨sa', g1, g2, g3, g4⟩ := ih (k + 1) f (by omega) (by omega) si (va_up sa 0 (upd (sa 0) k (sa 60 k)))
    refine ⟨sa', ?_, fun q h1 h2 => ?_, fun q hq => ?_, fun a h1 => by rw [g4 a h1, vup_ne h1]⟩
    · rw [f_Mo_isNarrow_79, if_neg (inle (by omega) (by omega)), k1, if_neg k3, if_neg k2, iiS]
      exact g1
    · by_cases e : q = k
      · rw [g3 q (by omega), vup_eq, e]; unfold upd; rw [if_pos rfl]
      · rw [g2 q (by omega) h2, vup_ne (by decide)]
    · rw [g3 q (by omega), vup_eq]; unfold upd; rw [if_neg (by omega)]
/-- what asking for narrowness leaves alone -/
def frN (si si' : Nat → Int32) (sa sa' : Nat → Nat → Int32) (sb sb' : Nat → Nat → Int64) : Prop := (∀ k, ¬ (32 ≤ k ∧ k ≤ 35) → si' k = si k) ∧ (∀ a j, ¬ kAz 4 a j → a ≠ 60 → sa' a j = sa a j) ∧ ∀ b j, ¬ kBz 4 b j → sb' b j = sb b j
theorem mnarrow (hnf : 10000 ≤ nf) {z : ZS} {sa : Nat → Nat → Int32} (hi : i < 4) (h : RZon z sa sb i) : ∃ (fl : Int32) (si' : Nat → Int32) (sa' : Nat → Nat → Int32) (sb' : Nat → Nat → Int64), f_Mo_isNarrow nf (ii (i : Int)) si sj sa sb = some (fl, si', sj, sa', sb') ∧ fl = (if z.2.2.2.2.2.2.2.2.2.2.2.2.2.2.2.2.2.2.2.1 = 0 then 1 else 0) ∧ frN si si' sa sa' sb sb' := by
  obtain ⟨n, t, c, l, d, u, r, tm, tt, of, ds, ix, sz, ⟨_, _, _, _, _, _, _, _, ⟨c22, c23⟩⟩, _, h2, _, _, _, _, h7⟩ := h
  obtain ⟨ei, ni⟩ := zidx (i := i) (by omega)
  generalize hF : f_Mo_isNarrow nf (ii (i : Int)) si sj sa sb = F
  unfold f_Mo_isNarrow f_Mo_isNarrow_0 at hF
  rw [ei, if_neg ni, c22] at hF
  rcases h7 with ⟨q1, q2, q3, q4⟩ | ⟨q1, wd, sp, ss, so, x, q2, q3, q4, q5, q6, q7, q8⟩
  · subst q1
    rw [if_pos (show ii ((0 : Nat) : Int) = 0 from rfl)] at hF
    exact ⟨1, si, sa, sb, hF.symm, by rw [q4, if_pos rfl], fun _ _ => rfl, fun _ _ _ _ => rfl, fun _ _ _ => rfl⟩
  · have p1 := mput (nf := nf) (si := si) (sj := sj) (x := 4) (o := i) (by omega) (by omega) (by omega) (by omega) sa sb
    rw [show ii ((4 : Nat) : Int) = (4 : Int32) from rfl] at p1
    have pA : ∀ a j, ¬ kAz 4 a j → putA 4 i sa a j = sa a j := fun a j hk => putA_out hk
    rw [if_neg (by rw [ii_lit, ii_eq (by omega) (by omega) (by omega) (by omega)]; omega), p1, Option.bind_some] at hF
    dsimp only at hF
    rw [if_neg ni, pA 11 i (by unfold kAz; omega), c22] at hF
    obtain ⟨sa2, g1, g2, g3, g4⟩ := mnar26 (nf := nf) (si := si) (sj := sj) (sb := putB 4 i sb) c23 (show i < 5 by omega) r 0 nf (by omega) (by omega) (putA 4 i sa)
    have eT : ∀ k, k < r → sa2 0 k = sa 22 (128 * i + k) := fun k hk => by rw [(g2 k (by omega) hk).2, pA 22 _ (by unfold kAz; omega)]
    rw [show (0 : Int32) = ii ((0 : Nat) : Int) from rfl, g1] at hF
    have mr := mrule (nf := nf) (si := si) (sj := sj) (sb := putB 4 i sb) (sa := sa2) (E := r) (by omega) (fun k hk => by rw [eT k hk]; exact h2.byte hk) (st := 0) q1 (by omega) (wide := false) (ver := 50) (by decide)
    rw [LL_congr (T := fun k => sa 22 (128 * i + k)) (fun k hk => eT k hk)] at mr
    obtain ⟨fl, si1, sa3, m1, m2, m3, m4⟩ := mr
    rw [show ii ((0 : Nat) : Int) = (0 : Int32) from rfl] at m1
    rw [m1, Option.bind_some] at hF
    dsimp only at hF
    have nar := rtext_nar q2
    have hfl : fl = (if z.2.2.2.2.2.2.2.2.2.2.2.2.2.2.2.2.2.2.2.1 = 0 then 1 else 0) := by
      have wx : z.2.2.2.2.2.2.2.2.2.2.2.2.2.2.2.2.2.2.2.1 = (if tW x then 1 else 0) := by
        match x, q8 with
        | none, ⟨_, _, y⟩ => exact y
        | some (up, us, uo, d1, t1, d2, t2, w), ⟨_, _, y, _⟩ => exact y
      cases hw : tW x with
      | true =>
        rw [hw, if_pos rfl] at nar
        obtain ⟨y, hy⟩ := nar
        rw [hy] at m4
        rw [wx, hw, if_pos rfl, if_neg (by decide)]
        exact m4.1
      | false =>
        rw [hw, if_neg (by decide)] at nar
        rw [nar] at m4
        rw [wx, hw, if_neg (show ¬ (false = true) by decide), if_pos rfl]
        exact m4.1
    obtain ⟨sa4, e1, e2, e3, e4⟩ := mnar79 (nf := nf) (sj := sj) (sb := putB 4 i sb) (fl := fl) (by rw [hfl]; split; exact Or.inr rfl; exact Or.inl rfl) c23 r 0 nf (by omega) (by omega) si1 sa3
    rw [show ii ((0 : Nat) : Int) = (0 : Int32) from rfl] at e1
    rw [e1] at hF
    refine ⟨fl, si1, sa4, putB 4 i sb, hF.symm, hfl, fun k hk => m2 k (by omega) (by omega) (by omega) (by omega), fun a j ha h60 => ?_, fun b j hb => putB_out hb⟩
    by_cases a0 : a = 0
    · subst a0
      by_cases jr : j < r
      · rw [e2 j (by omega) jr, m3 60 j (by unfold kH; omega), (g2 j (by omega) jr).1, pA 0 j ha]
      · rw [e3 j (by omega), m3 0 j (by unfold kH; omega), (g3 j (by omega)).2, pA 0 j ha]
    · rw [e4 a a0, m3 a j (fun w => ha (kH_kAz w)), g4 a a0 h60, pA a j ha]
/-- the reference writes the rule's text -/
theorem mR {Z0 : Nat → Nat → Int32} (hnf : 10000 ≤ nf) (hi : i < 5) {r : Nat} (hr : r ≤ 128) (hcr : Z0 11 i = ii (r : Int)) (hb : ∀ k, k < r → ∃ b : Nat, b < 256 ∧ Z0 22 (128 * i + k) = ii (b : Int)) : ∀ (d k fu n : Nat), k + d = r → d < fu → n + d ≤ 6000 → ∀ {si : Nat → Int32} {sa : Nat → Nat → Int32}, si 59 = ii (n : Int) → (∀ a, a ≠ 58 → sa a = Z0 a) → ∃ (si' : Nat → Int32) (sa' : Nat → Nat → Int32), f_Mo_write_173 nf fu (ii (k : Int)) (ii (i : Int)) si sj sa sb = ((f_Mo_putNumber nf 10 1 si' sj sa' sb).bind fun (i_33, j_34, a_35, b_36) => f_Mo_write_215 nf i_33 j_34 a_35 b_36) ∧ si' 59 = ii ((n + d : Nat) : Int) ∧ (∀ q, q < n → sa' 58 q = sa 58 q) ∧ (∀ q, n ≤ q → q < n + d → sa' 58 q = Z0 22 (128 * i + (k + (q - n)))) ∧ (∀ k, k ≠ 59 → si' k = si k) ∧ ∀ a, a ≠ 58 → sa' a = sa a := by
  obtain ⟨ei, ni⟩ := zidx hi
  have hwi : 128 * i ≤ 128 * 4 := Nat.mul_le_mul_left 128 (by omega)
  intro d
  induction d with
  | zero =>
    intro k fu n hk hf hn si sa h59 hsa
    obtain ⟨f, rfl⟩ : ∃ f, fu = f + 1 := ⟨fu - 1, by omega⟩
    rw [f_Mo_write_173, ei, if_neg ni, hsa 11 (by decide), hcr, if_pos (iple (c := 0) (d := 0) (by omega) (by omega))]
    exact ⟨si, sa, rfl, h59, fun _ _ => rfl, fun q h1 h2 => by omega, fun _ _ => rfl, fun _ _ => rfl⟩
  | succ d ih =>
    intro k fu n hk hf hn si sa h59 hsa
    obtain ⟨f, rfl⟩ : ∃ f, fu = f + 1 := ⟨fu - 1, by omega⟩
    obtain ⟨j1, j2⟩ := sl2 (w := 128) (i := i) (k := k) (m := 640) (by omega) hi (by omega) (by omega) 128 rfl
    obtain ⟨b, hb1, hb2⟩ := hb k (by omega)
    obtain ⟨si1, sa1, m1, m2, m3, m4, m5⟩ := mone (nf := nf) (sj := sj) (sb := sb) (sa := sa) hnf (Z0 22 (128 * i + k)) (by omega) h59
    rw [hb2, bmask hb1, ← hb2] at m5
    obtain ⟨si2, sa2, q1, q2, q3, q4, q5, q6⟩ := ih (k + 1) f (n + 1) (by omega) (by omega) (by omega) (si := si1) (sa := sa1) m2 (fun a ha => (m4 a ha).trans (hsa a ha))
    refine ⟨si2, sa2, ?_, ?_, fun q hq => ?_, fun q h1 h2 => ?_, fun k hk => (q5 k hk).trans (m3 k hk), fun a ha => (q6 a ha).trans (m4 a ha)⟩
    · rw [f_Mo_write_173, ei, if_neg ni, hsa 11 (by decide), hcr, if_neg (inle (by omega) (by omega)), j1, if_neg j2, hsa 22 (by decide), m1, Option.bind_some]
      dsimp only
      rw [iiS]
      exact q1
    · rw [q2]; congr 2; omega
    · rw [q3 q (by omega), m5]; unfold upd; rw [if_neg (by omega)]
    · by_cases e : q = n
      · rw [q3 q (by omega), m5, e, Nat.sub_self, Nat.add_zero]; unfold upd; rw [if_pos rfl]
      · rw [q4 q (by omega) (by omega), show k + 1 + (q - (n + 1)) = k + (q - n) by omega]
/-- what was made becomes what is out -/
theorem m217 {q : Nat} (hq : q ≤ 6000) {si : Nat → Int32} (h59 : si 59 = ii (q : Int)) : ∀ (d k fu : Nat), k + d = q → d < fu → ∀ sa : Nat → Nat → Int32, ∃ sa', f_Mo_write_217 nf fu (ii (k : Int)) si sj sa sb = some (ii (q : Int), va_up si 57 (ii (q : Int)), sj, sa', sb) ∧ (∀ j, k ≤ j → j < q → sa' 56 j = sa 58 j) ∧ (∀ j, j < k → sa' 56 j = sa 56 j) ∧ ∀ a, a ≠ 56 → sa' a = sa a := by
  intro d
  induction d with
  | zero =>
    intro k fu hk hf sa
    obtain ⟨f, rfl⟩ : ∃ f, fu = f + 1 := ⟨fu - 1, by omega⟩
    rw [f_Mo_write_217, h59, if_pos (iple (c := 0) (d := 0) (by omega) (by omega))]
    exact ⟨sa, rfl, fun j h1 h2 => by omega, fun _ _ => rfl, fun _ _ => rfl⟩
  | succ d ih =>
    intro k fu hk hf sa
    obtain ⟨f, rfl⟩ : ∃ f, fu = f + 1 := ⟨fu - 1, by omega⟩
    obtain ⟨k1, k2⟩ := nidx (k := k) (m := 6000) (by omega) (by omega)
    obtain ⟨sa', g1, g2, g3, g4⟩ := ih (k + 1) f (by omega) (by omega) (va_up sa 56 (upd (sa 56) k (sa 58 k)))
    refine ⟨sa', ?_, fun j h1 h2 => ?_, fun j hj => ?_, fun a ha => by rw [g4 a ha, vup_ne ha]⟩
    · rw [f_Mo_write_217, h59, if_neg (inle (by omega) (by omega)), k1, if_neg k2, if_neg k2, iiS]
      exact g1
    · by_cases e : j = k
      · rw [g3 j (by omega), vup_eq, e]; unfold upd; rw [if_pos rfl]
      · rw [g2 j (by omega) h2, vup_ne (by decide)]
    · rw [g3 j (by omega), vup_eq]; unfold upd; rw [if_neg (by omega)]
/-- the end: from what is made -/
theorem w215 (hnf : 10000 ≤ nf) {q : Nat} (hq : q ≤ 6000) {si : Nat → Int32} {sa : Nat → Nat → Int32} (h59 : si 59 = ii (q : Int)) : ∃ sa', f_Mo_write_215 nf si sj sa sb = some (ii (q : Int), va_up si 57 (ii (q : Int)), sj, sa', sb) ∧ (∀ j, j < q → sa' 56 j = sa 58 j) ∧ ∀ a, a ≠ 56 → sa' a = sa a := by
  obtain ⟨sa', g1, g2, g3, g4⟩ := m217 (nf := nf) (sj := sj) (sb := sb) hq h59 q 0 nf (by omega) (by omega) sa
  exact ⟨sa', g1, fun j hj => g2 j (by omega) hj, g4⟩
end
