/-! ===== the state at an instant: class and reference ===== -/
def stI (n r : Nat) (tt : Nat → Nat) (s : Bool) (k : Nat) : Int := if k < n then (if k = 0 then 0 else (tt (k - 1) : Int)) else if 0 < r then (if s then -2 else -1) else if n = 0 then 0 else -3
theorem tupto {nf n k : Nat} {TI : Nat → Int64} {tm : Nat → Int} {v : Int} (hn : n ≤ 200) (hT : ∀ q, q < n → TI q = jj (tm q) ∧ isI (tm q)) (hv : inL v) (hk : upto n tm v k) : ∀ (d lo hi j fu : Nat), hi - lo ≤ d → j + d ≤ 200 → d < fu → lo ≤ k → k ≤ hi → hi ≤ n → f_Zone_timesUpTo_11 nf TI fu (ii (j : Int)) (ii (hi : Int)) (ii (lo : Int)) (jj v) = some (ii (k : Int)) := by
  intro d
  induction d with
  | zero =>
    intro lo hi j fu h1 h2 h3 h4 h5 h6
    obtain ⟨f, rfl⟩ : ∃ f, fu = f + 1 := ⟨fu - 1, by omega⟩
    obtain rfl : lo = k := by omega
    rw [f_Zone_timesUpTo_11]
    unfold f_Zone_timesUpTo_63
    rw [if_pos (show ii (hi : Int) ≤ ii (lo : Int) by rw [ii_le (by omega) (by omega) (by omega) (by omega)]; omega), ite_self]
  | succ d ih =>
    intro lo hi j fu h1 h2 h3 h4 h5 h6
    obtain ⟨f, rfl⟩ : ∃ f, fu = f + 1 := ⟨fu - 1, by omega⟩
    rw [f_Zone_timesUpTo_11]
    unfold f_Zone_timesUpTo_63 f_Zone_timesUpTo_57
    rw [if_neg (by rw [ii_lit, ii_le (by omega) (by omega) (by omega) (by omega)]; omega)]
    by_cases c : hi ≤ lo
    · obtain rfl : lo = k := by omega
      rw [if_pos (by rw [ii_le (by omega) (by omega) (by omega) (by omega)]; omega)]
    · have em : (ii (lo : Int) + ii (hi : Int)) / 2 = ii (((lo + hi) / 2 : Nat) : Int) := by
        rw [ii_add, ii_lit, ii_divp (by omega) (by omega) (by omega) (by omega)]
        congr 1
      have m1 : lo ≤ (lo + hi) / 2 := by omega
      have m2 : (lo + hi) / 2 < hi := by omega
      generalize (lo + hi) / 2 = mid at em m1 m2
      have e1 : (ii (mid : Int)).toNatClampNeg = mid := by rw [ii_nat (by omega) (by omega)]; omega
      have e2 : ¬ (ii (mid : Int) < 0 ∨ 200 ≤ mid) := by rw [ii_lit, ii_lt (by omega) (by omega) (by omega) (by omega)]; omega
      obtain ⟨t1, t2⟩ := hT mid (by omega)
      unfold isI at t2
      rw [if_neg (by rw [ii_le (by omega) (by omega) (by omega) (by omega)]; omega), em, e1, if_neg e2, t1, iiS, iiS]
      by_cases q : v < tm mid
      · rw [if_pos ((jj_lt hv.1 hv.2 (by omega) (by omega)).mpr q)]
        have : k ≤ mid := by
          by_cases w : k ≤ mid
          · exact w
          · have := hk.2.1 mid (by omega); omega
        exact ih lo mid (j + 1) f (by omega) (by omega) (by omega) h4 this (by omega)
      · rw [if_neg (fun w => q ((jj_lt hv.1 hv.2 (by omega) (by omega)).mp w))]
        have : mid + 1 ≤ k := by
          by_cases w : mid + 1 ≤ k
          · exact w
          · have := hk.2.2 mid (by omega) (by omega); omega
        exact ih (mid + 1) hi (j + 1) f (by omega) (by omega) (by omega) this h5 h6
section
variable {nf : Nat} {z : ZS} {sa : Nat → Nat → Int32} {sb : Nat → Nat → Int64} {i n t r : Nat} {tm : Nat → Int} {tt : Nat → Nat} {hs : Bool} {b e : ET} {O D : Int → Int} {Z : Int → Nat} {B : Int → Nat → Int32}
theorem ZV.tup (h : ZV z sa sb i n t r tm tt hs b e O D Z B) (hnf : 10000 ≤ nf) {v : Int} (hv : inL v) {k : Nat} (hk : upto n tm v k) : f_Zone_timesUpTo nf (jj v) z.2.1 z.2.2.2.2.2.2.1 = some (ii (k : Int)) := by
  obtain ⟨⟨v1, v2, v3, v4, v5, v6, v7, v8, v9, v10⟩, _⟩ := h
  unfold f_Zone_timesUpTo f_Zone_timesUpTo_0
  rw [v5]
  exact tupto v2 (fun q hq => ⟨(v9 q hq).1, (v9 q hq).2.2.1⟩) hv hk 200 0 n 0 nf (by omega) (by omega) (by omega) (by omega) hk.1 (by omega)
theorem ZV.ex (h : ZV z sa sb i n t r tm tt hs b e O D Z B) (v : Int) : ∃ k, upto n tm v k := upto_ex h.1.2.2.2.2.2.2.2.2.2
theorem ZV.cstate (h : ZV z sa sb i n t r tm tt hs b e O D Z B) (hnf : 10000 ≤ nf) {v : Int} (hv : isI v) {k : Nat} (hk : upto n tm v k) : f_Zone_stateAt nf (jj v) z.2.1 z.2.2.2.2.2.2.1 z.2.2.2.2.2.2.2.1 z.2.2.2.2.2.2.2.2.2.2.2.2.2.2.2.2.2.2.1 z.2.2.2.2.2.2.2.2.2.2.2.2.2.2.2.2.2.2.2.2.2.2.2.2.2.2.2.1 z.2.2.2.2.2.2.2.2.2.2.2.2.2.2.2.2.2.2.2.2.2.2.2.2.2.2.2.2.2.2.1 z.2.2.2.2.2.2.2.2.2.2.2.2.2.2.2.2.2.2.2.2.2.2.2.2.2.2.2.2.2.2.2.1 z.2.2.2.2.2.2.2.2.2.2.2.2.2.2.2.2.2.2.2.2.2.2.2.2.2.2.2.2.2.2.2.2.1 z.2.2.2.2.2.2.2.2.2.2.2.2.2.2.2.2.2.2.2.2.2.2.2.2.2.2.2.2.2.2.2.2.2.1 z.2.2.2.2.2.2.2.2.2.2.2.2.2.2.2.2.2.2.2.2.2.2.2.2.2.2.2.2.2.2.2.2.2.2.1 z.2.2.2.2.2.2.2.2.2.2.2.2.2.2.2.2.2.2.2.2.2.2.2.2.2.2.2.2.2.2.2.2.2.2.2.1 z.2.2.2.2.2.2.2.2.2.2.2.2.2.2.2.2.2.2.2.2.2.2.2.2.2.2.2.2.2.2.2.2.2.2.2.2.1 z.2.2.2.2.2.2.2.2.2.2.2.2.2.2.2.2.2.2.2.2.2.2.2.2.2.2.2.2.2.2.2.2.2.2.2.2.2.1 z.2.2.2.2.2.2.2.2.2.2.2.2.2.2.2.2.2.2.2.2.2.2.2.2.2.2.2.2.2.2.2.2.2.2.2.2.2.2.1 z.2.2.2.2.2.2.2.2.2.2.2.2.2.2.2.2.2.2.2.2.2.2.2.2.2.2.2.2.2.2.2.2.2.2.2.2.2.2.2.1 z.2.2.2.2.2.2.2.2.2.2.2.2.2.2.2.2.2.2.2.2.2.2.2.2.2.2.2.2.2.2.2.2.2.2.2.2.2.2.2.2.1 z.2.2.2.2.2.2.2.2.2.2.2.2.2.2.2.2.2.2.2.2.2.2.2.2.2.2.2.2.2.2.2.2.2.2.2.2.2.2.2.2.2 = some (ii (stI n r tt (hs && suB b e v) k)) := by
  unfold isI at hv
  have e1 := h.tup hnf (v := v) ⟨by omega, by omega⟩ hk
  obtain ⟨⟨v1, v2, v3, v4, v5, v6, v7, v8, v9, v10⟩, ⟨r1, r2, r3⟩, _⟩ := h
  unfold f_Zone_stateAt f_Zone_stateAt_0
  rw [e1, Option.bind_some, v5]
  unfold stI
  by_cases c : k < n
  · rw [if_pos c, if_neg (by rw [ii_le (by omega) (by omega) (by omega) (by omega)]; omega)]
    unfold f_Zone_stateAt_30
    by_cases c0 : k = 0
    · subst c0
      rw [if_pos rfl, if_pos (show ii ((0 : Nat) : Int) = 0 from rfl)]
      rfl
    · have e2 : ii (k : Int) - 1 = ii ((k - 1 : Nat) : Int) := by rw [ii_lit, ii_sub]; congr 1; omega
      rw [if_neg c0, if_neg (by rw [ii_lit, ii_eq (by omega) (by omega) (by omega) (by omega)]; omega), e2, show (ii ((k - 1 : Nat) : Int)).toNatClampNeg = k - 1 by rw [ii_nat (by omega) (by omega)]; omega, if_neg (by rw [ii_lit, ii_lt (by omega) (by omega) (by omega) (by omega)]; omega), (v9 (k - 1) (by omega)).2.2.2.1]
  · rw [if_neg c, if_pos (by have := hk.1; rw [ii_le (by omega) (by omega) (by omega) (by omega)]; omega)]
    unfold f_Rule_isThere f_Rule_isThere_0 f_Rule_isThere_15
    rw [r1]
    by_cases cr : 0 < r
    · rw [if_pos cr, if_neg (show ¬ ii (r : Int) ≤ 0 by rw [ii_lit, ii_le (by omega) (by omega) (by omega) (by omega)]; omega), if_pos (by decide), Option.bind_some, if_neg (by decide)]
      unfold f_Zone_stateAt_58
      rcases r3 with q | ⟨_, q1, q2, q3⟩ | ⟨_, q1, q2, q3, q4, q5, q6, q7, q8, q9⟩
      · omega
      · subst q1
        rw [q3]
        rfl
      · subst q1
        rw [q3, issummerat_ok (by omega) q4 q5 q8 q9 (by omega) (by omega), Option.bind_some, Bool.true_and]
        unfold suB
        by_cases w : ev e (ly e v) ≤ ev b (ly b v)
        · rw [if_pos w, decide_eq_true w, if_neg (by decide), if_pos rfl]
          rfl
        · rw [if_neg w, decide_eq_false w, if_pos rfl, if_neg (by decide)]
          rfl
    · rw [if_neg cr, if_pos (show ii (r : Int) ≤ 0 by rw [ii_lit, ii_le (by omega) (by omega) (by omega) (by omega)]; omega), if_pos (by decide), Option.bind_some, if_pos rfl]
      unfold f_Zone_stateAt_72
      by_cases c0 : n = 0
      · subst c0
        rw [if_pos rfl, if_pos (show ii ((0 : Nat) : Int) = 0 from rfl)]
        rfl
      · rw [if_neg c0, if_neg (by rw [ii_lit, ii_eq (by omega) (by omega) (by omega) (by omega)]; omega)]
        rfl
theorem stI_ok (h : ZV z sa sb i n t r tm tt hs b e O D Z B) {v : Int} {k : Nat} (hk : k ≤ n) : vg t r hs (stI n r tt (hs && suB b e v) k) ∨ (stI n r tt (hs && suB b e v) k = -3 ∧ r = 0 ∧ 0 < n ∧ k = n) := by
  obtain ⟨⟨v1, v2, v3, v4, v5, v6, v7, v8, v9, v10⟩, _⟩ := h
  unfold stI vg
  by_cases c : k < n
  · rw [if_pos c]
    by_cases c0 : k = 0
    · rw [if_pos c0]; left; left; omega
    · rw [if_neg c0]
      have := (v9 (k - 1) (by omega)).2.2.2.2.2
      left; left; omega
  · rw [if_neg c]
    by_cases cr : 0 < r
    · rw [if_pos cr]
      cases hs with
      | false => left; right; left; exact ⟨cr, rfl⟩
      | true =>
        rw [Bool.true_and]
        cases suB b e v with
        | false => left; right; left; exact ⟨cr, rfl⟩
        | true => left; right; right; exact ⟨cr, rfl, rfl⟩
    · rw [if_neg cr]
      by_cases c0 : n = 0
      · rw [if_pos c0]; left; left; omega
      · rw [if_neg c0]; right; exact ⟨rfl, by omega, by omega, by omega⟩
end
/-! the reference's answer to a state -/
def gotI (si si' : Nat → Int32) (src wh : Int32) (o d : Int) (s : Nat) : Prop := si' 43 = src ∧ si' 44 = wh ∧ si' 45 = ii o ∧ si' 46 = ii d ∧ si' 47 = ii (s : Int) ∧ ∀ k, ¬ (41 ≤ k ∧ k ≤ 47) → si' k = si k
def gotA (sa sa' : Nat → Nat → Int32) (s : Nat) (B : Nat → Int32) : Prop := (∀ k, k < s → sa' 48 k = B k) ∧ ∀ a, a ≠ 48 → sa' a = sa a
theorem gotA.fr {sa sa' : Nat → Nat → Int32} {s : Nat} {B : Nat → Int32} (h : gotA sa sa' s B) : frA sa sa' := fun a h1 _ => h.2 a h1
section
variable {nf : Nat} {si : Nat → Int32} {sj : Nat → Int64} {sb : Nat → Nat → Int64} {i : Nat}
theorem mby52 (hi : i < 5) {g x s : Nat} (hg : g < 40) (hs : s ≤ 10) (hx : x + s ≤ 200) (h47 : si 47 = ii (s : Int)) : ∀ (d k fu : Nat), k + d = s → d < fu → ∀ sa : Nat → Nat → Int32, sa 16 (40 * i + g) = ii (x : Int) → ∃ sa', f_Mo_byType_52 nf fu (ii (k : Int)) (ii (i : Int)) (ii (g : Int)) si sj sa sb = some (si, sj, sa', sb) ∧ (∀ q, k ≤ q → q < s → sa' 48 q = sa 17 (200 * i + (x + q))) ∧ (∀ q, q < k → sa' 48 q = sa 48 q) ∧ ∀ a, a ≠ 48 → sa' a = sa a := by
  intro d
  induction d with
  | zero =>
    intro k fu hk hf sa h16
    obtain ⟨f, rfl⟩ : ∃ f, fu = f + 1 := ⟨fu - 1, by omega⟩
    rw [f_Mo_byType_52, h47, if_pos ((ii_le (by omega) (by omega) (by omega) (by omega)).mpr (by omega))]
    exact ⟨sa, rfl, fun q h1 h2 => by omega, fun _ _ => rfl, fun _ _ => rfl⟩
  | succ d ih =>
    intro k fu hk hf sa h16
    obtain ⟨f, rfl⟩ : ∃ f, fu = f + 1 := ⟨fu - 1, by omega⟩
    obtain ⟨a1, a2⟩ := sl2 (w := 40) (i := i) (k := g) (m := 200) (by omega) hi (by omega) (by omega) 40 rfl
    have b12 := sl2 (w := 200) (i := i) (k := x + k) (m := 1000) (by omega) hi (by omega) (by omega) 200 rfl
    have be : 200 * ii (i : Int) + ii (x : Int) + ii (k : Int) = 200 * ii (i : Int) + ii ((x + k : Nat) : Int) := by
      rw [show ii ((x + k : Nat) : Int) = ii (x : Int) + ii (k : Int) by rw [ii_add]; congr 1, ← Int32.add_assoc]
    obtain ⟨b1, b2⟩ := b12
    have k1 : (ii (k : Int)).toNatClampNeg = k := by rw [ii_nat (by omega) (by omega)]; omega
    have k2 : ¬ (ii (k : Int) < 0 ∨ 10 ≤ k) := by rw [ii_lit, ii_lt (by omega) (by omega) (by omega) (by omega)]; omega
    obtain ⟨sa', g1, g2, g3, g4⟩ := ih (k + 1) f (by omega) (by omega) (va_up sa 48 (upd (sa 48) k (sa 17 (200 * i + (x + k))))) (by rw [vup_ne (by decide)]; exact h16)
    refine ⟨sa', ?_, fun q h1 h2 => ?_, fun q hq => ?_, fun a ha => (g4 a ha).trans (vup_ne ha)⟩
    · rw [f_Mo_byType_52, h47, if_neg (by rw [ii_le (by omega) (by omega) (by omega) (by omega)]; omega), a1, if_neg a2, h16, be, b1, if_neg b2, k1, if_neg k2, iiS]
      exact g1
    · by_cases c : q = k
      · subst c
        rw [g3 q (by omega), vup_eq]; unfold upd; rw [if_pos rfl]
      · rw [g2 q (by omega) h2, vup_ne (by decide)]
    · rw [g3 q (by omega), vup_eq]; unfold upd; rw [if_neg (by omega)]
theorem mbyType (hnf : 10000 ≤ nf) (hi : i < 5) {sa : Nat → Nat → Int32} {O D : Int → Int} {Z : Int → Nat} {B : Int → Nat → Int32} {g : Nat} (hg : g < 40) (h : VM sa i O D Z B g) (hz : Z g ≤ 10) : ∃ si' sa', f_Mo_byType nf (ii (i : Int)) (ii (g : Int)) si sj sa sb = some (si', sj, sa', sb) ∧ gotI si si' 0 (ii (g : Int)) (O g) (D g) (Z g) ∧ gotA sa sa' (Z g) (B g) := by
  obtain ⟨h1, h2, x, c, h3, h4, h5, h6, h7, h8⟩ := h
  obtain ⟨a1, a2⟩ := sl2 (w := 40) (i := i) (k := g) (m := 200) (by omega) hi (by omega) (by omega) 40 rfl
  have ns := mnameSize hnf (k := g) (si := va_up (va_up (va_up (va_up si 43 0) 44 (ii (g : Int))) 45 (ii (O g))) 46 (ii (D g))) (sj := sj) (sb := sb) hi h4 h5 hg h3 h7
  rw [if_neg (by omega)] at ns
  obtain ⟨sa', g1, g2, g3, g4⟩ := mby52 (nf := nf) (si := va_up (va_up (va_up (va_up (va_up si 43 0) 44 (ii (g : Int))) 45 (ii (O g))) 46 (ii (D g))) 47 (ii (Z g : Int))) (sj := sj) (sb := sb) hi hg hz (by omega) (x := x) rfl (Z g) 0 nf (by omega) (by omega) sa h3
  refine ⟨va_up (va_up (va_up (va_up (va_up si 43 0) 44 (ii (g : Int))) 45 (ii (O g))) 46 (ii (D g))) 47 (ii (Z g : Int)), sa', ?_, ⟨rfl, rfl, rfl, rfl, rfl, fun k hk => ?_⟩, fun k hk => (g2 k (by omega) hk).trans (h8 k hk), g4⟩
  · unfold f_Mo_byType f_Mo_byType_0
    rw [a1, if_neg a2, if_neg a2, h1, h2, ns, Option.bind_some]
    exact g1
  · rw [vup_ne (by omega), vup_ne (by omega), vup_ne (by omega), vup_ne (by omega), vup_ne (by omega)]
theorem mby79 (hi : i < 5) {w s : Nat} (hw : w < 2) (hs : s ≤ 10) (h47 : si 47 = ii (s : Int)) (h46 : si 46 = ii (w : Int)) : ∀ (d k fu : Nat), k + d = s → d < fu → ∀ sa : Nat → Nat → Int32, ∃ sa', f_Mo_byRule_79 nf fu (ii (k : Int)) (ii (i : Int)) si sj sa sb = some (si, sj, sa', sb) ∧ (∀ q, k ≤ q → q < s → sa' 48 q = sa 26 (20 * i + 10 * w + q)) ∧ (∀ q, q < k → sa' 48 q = sa 48 q) ∧ ∀ a, a ≠ 48 → sa' a = sa a := by
  intro d
  induction d with
  | zero =>
    intro k fu hk hf sa
    obtain ⟨f, rfl⟩ : ∃ f, fu = f + 1 := ⟨fu - 1, by omega⟩
    rw [f_Mo_byRule_79, h47, if_pos ((ii_le (by omega) (by omega) (by omega) (by omega)).mpr (by omega))]
    exact ⟨sa, rfl, fun q h1 h2 => by omega, fun _ _ => rfl, fun _ _ => rfl⟩
  | succ d ih =>
    intro k fu hk hf sa
    obtain ⟨f, rfl⟩ : ∃ f, fu = f + 1 := ⟨fu - 1, by omega⟩
    obtain ⟨b1, b2⟩ := sl2 (w := 20) (i := i) (k := 10 * w + k) (m := 100) (by omega) hi (by omega) (by omega) 20 rfl
    have be : 20 * ii (i : Int) + 10 * ii (w : Int) + ii (k : Int) = 20 * ii (i : Int) + ii ((10 * w + k : Nat) : Int) := by
      rw [show ii ((10 * w + k : Nat) : Int) = 10 * ii (w : Int) + ii (k : Int) by rw [show (10 : Int32) = ii 10 from rfl, ii_mul, ii_add]; congr 1, ← Int32.add_assoc]
    have k1 : (ii (k : Int)).toNatClampNeg = k := by rw [ii_nat (by omega) (by omega)]; omega
    have k2 : ¬ (ii (k : Int) < 0 ∨ 10 ≤ k) := by rw [ii_lit, ii_lt (by omega) (by omega) (by omega) (by omega)]; omega
    obtain ⟨sa', g1, g2, g3, g4⟩ := ih (k + 1) f (by omega) (by omega) (va_up sa 48 (upd (sa 48) k (sa 26 (20 * i + 10 * w + k))))
    refine ⟨sa', ?_, fun q h1 h2 => ?_, fun q hq => ?_, fun a ha => (g4 a ha).trans (vup_ne ha)⟩
    · rw [f_Mo_byRule_79, h47, h46, if_neg (by rw [ii_le (by omega) (by omega) (by omega) (by omega)]; omega), be, b1, if_neg b2, k1, if_neg k2, iiS, ← Nat.add_assoc]
      exact g1
    · by_cases c : q = k
      · subst c
        rw [g3 q (by omega), vup_eq]; unfold upd; rw [if_pos rfl]
      · rw [g2 q (by omega) h2, vup_ne (by decide)]
    · rw [g3 q (by omega), vup_eq]; unfold upd; rw [if_neg (by omega)]
theorem mby39 (hnf : 10000 ≤ nf) (hi : i < 5) {sa : Nat → Nat → Int32} {O D : Int → Int} {Z : Int → Nat} {B : Int → Nat → Int32} {w : Nat} {g : Int} (hw : w < 2) (h : VW sa i O D Z B w g) (hz : Z g ≤ 10) (h43 : si 43 = 1) (h44 : si 44 = -1) : ∃ si' sa', f_Mo_byRule_39 nf (ii (i : Int)) (ii (w : Int)) si sj sa sb = some (si', sj, sa', sb) ∧ gotI si si' 1 (-1) (O g) (D g) (Z g) ∧ gotA sa sa' (Z g) (B g) := by
  obtain ⟨h1, h2, h3, h4⟩ := h
  obtain ⟨a1, a2⟩ := sl2 (w := 2) (i := i) (k := w) (m := 10) (by omega) hi (by omega) (by omega) 2 rfl
  obtain ⟨sa', g1, g2, g3, g4⟩ := mby79 (nf := nf) (si := va_up (va_up (va_up si 46 (ii (w : Int))) 45 (ii (O g))) 47 (ii (Z g : Int))) (sj := sj) (sb := sb) hi hw hz rfl rfl (Z g) 0 nf (by omega) (by omega) sa
  refine ⟨va_up (va_up (va_up si 46 (ii (w : Int))) 45 (ii (O g))) 47 (ii (Z g : Int)), sa', ?_, ⟨?_, ?_, rfl, ?_, rfl, fun k hk => ?_⟩, fun k hk => (g2 k (by omega) hk).trans (h4 k hk), g4⟩
  · unfold f_Mo_byRule_39
    rw [a1, if_neg a2, if_neg a2, h1, h3]
    exact g1
  · rw [vup_ne (by decide), vup_ne (by decide), vup_ne (by decide)]; exact h43
  · rw [vup_ne (by decide), vup_ne (by decide), vup_ne (by decide)]; exact h44
  · rw [h2]; rfl
  · rw [vup_ne (by omega), vup_ne (by omega), vup_ne (by omega)]
end
section
variable {nf : Nat} {z : ZS} {si : Nat → Int32} {sj : Nat → Int64} {sa : Nat → Nat → Int32} {sb : Nat → Nat → Int64} {i n t r : Nat} {tm : Nat → Int} {tt : Nat → Nat} {hs : Bool} {b e : ET} {O D : Int → Int} {Z : Int → Nat} {B : Int → Nat → Int32}
/-- the reference's numbers behind a question for state g -/
def gotG (si si' : Nat → Int32) (sa sa' : Nat → Nat → Int32) (O D : Int → Int) (Z : Int → Nat) (B : Int → Nat → Int32) (g : Int) : Prop :=
  if g = -3 then (si' 43 = 2 ∧ si' 45 = 0 ∧ si' 46 = 0 ∧ si' 47 = 0 ∧ (∀ k, ¬ (41 ≤ k ∧ k ≤ 47) → si' k = si k) ∧ ∀ a, a ≠ 48 → sa' a = sa a) else gotI si si' (if g < 0 then 1 else 0) (if g < 0 then -1 else ii g) (O g) (D g) (Z g) ∧ gotA sa sa' (Z g) (B g)
theorem gotG.frI {si' : Nat → Int32} {sa' : Nat → Nat → Int32} {g : Int} (h : gotG si si' sa sa' O D Z B g) : ∀ k, ¬ (41 ≤ k ∧ k ≤ 47) → si' k = si k := by
  unfold gotG at h
  split at h
  · exact h.2.2.2.2.1
  · exact h.1.2.2.2.2.2
theorem gotG.frA {si' : Nat → Int32} {sa' : Nat → Nat → Int32} {g : Int} (h : gotG si si' sa sa' O D Z B g) : ∀ a, a ≠ 48 → sa' a = sa a := by
  unfold gotG at h
  split at h
  · exact h.2.2.2.2.2
  · exact h.2.2
theorem ZV.byRule (h : ZV z sa sb i n t r tm tt hs b e O D Z B) (hnf : 10000 ≤ nf) {v : Int} (hv : isI v) : ∃ si' sj' sa', f_Mo_byRule nf (ii (i : Int)) (jj v) si sj sa sb = some (si', sj', sa', sb) ∧ gotG si si' sa sa' O D Z B (if 0 < r then (if (hs && suB b e v) = true then -2 else -1) else -3) ∧ ∀ k, k ≠ 40 → sj' k = sj k := by
  unfold isI at hv
  obtain ⟨⟨v1, v2, v3, v4, v5, v6, v7, v8, v9, v10⟩, ⟨r1, r2, r3⟩, ⟨n1, n2, n3, n4⟩⟩ := h
  have ei : (ii (i : Int)).toNatClampNeg = i := by rw [ii_nat (by omega) (by omega)]; omega
  have ni : ¬ (ii (i : Int) < 0 ∨ 5 ≤ i) := by rw [ii_lit, ii_lt (by omega) (by omega) (by omega) (by omega)]; omega
  generalize hF : f_Mo_byRule nf (ii (i : Int)) (jj v) si sj sa sb = F
  unfold f_Mo_byRule f_Mo_byRule_0 at hF
  rw [ei, if_neg ni] at hF
  rcases r3 with ⟨q0, q1, q2, q3⟩ | ⟨q0, q1, q2, q3⟩ | ⟨q0, q1, q2, q3, q4, q5, q6, q7, q8, q9⟩
  · rw [q1, if_pos rfl] at hF
    refine ⟨_, sj, sa, hF.symm.trans rfl, ?_, fun _ _ => rfl⟩
    rw [if_neg (by omega)]
    unfold gotG
    rw [if_pos rfl]
    exact ⟨rfl, rfl, rfl, rfl, fun k hk => by rw [vup_ne (by omega), vup_ne (by omega), vup_ne (by omega), vup_ne (by omega)], fun _ _ => rfl⟩
  · subst q1
    obtain ⟨_, _, _, _, z1, _⟩ := n1 (-1) (Or.inr (Or.inl ⟨q0, rfl⟩))
    have sm : f_Mo_isSummer nf (ii (i : Int)) (jj v) (va_up (va_up si 43 1) 44 (-1)) sj sa sb = some (0, va_up (va_up si 43 1) 44 (-1), sj, sa, sb) := by
      unfold f_Mo_isSummer f_Mo_isSummer_0
      rw [ei, if_neg ni, q2, if_neg (by decide)]
    rw [q2, if_neg (by decide), sm, Option.bind_some] at hF
    dsimp only at hF
    rw [if_pos rfl] at hF
    obtain ⟨si', sa', g1, g2, g3⟩ := mby39 (nf := nf) (si := va_up (va_up si 43 1) 44 (-1)) (sj := sj) (sb := sb) hnf v1 (by omega) (n3 q0) z1 rfl rfl
    rw [show (0 : Int32) = ii ((0 : Nat) : Int) from rfl, g1] at hF
    refine ⟨si', sj, sa', hF.symm, ?_, fun _ _ => rfl⟩
    rw [if_pos q0, Bool.false_and, if_neg (by decide)]
    unfold gotG
    rw [if_neg (by decide), if_pos (by decide), if_pos (by decide)]
    obtain ⟨y1, y2, y3, y4, y5, y6⟩ := g2
    exact ⟨⟨y1, y2, y3, y4, y5, fun k hk => by rw [y6 k hk, vup_ne (by omega), vup_ne (by omega)]⟩, g3⟩
  · subst q1
    have sm := msummer_ok (nf := nf) (si := va_up (va_up si 43 1) 44 (-1)) (sj := sj) (sa := sa) (sb := sb) (by omega) ⟨q6, q7, q8, q9⟩ v1 q2 (t := v) (by omega) (by omega)
    rw [q2, if_neg (by decide), sm, Option.bind_some] at hF
    dsimp only at hF
    have fI : ∀ k, ¬ (41 ≤ k ∧ k ≤ 47) → abI (va_up (va_up si 43 1) 44 (-1)) (v / 86400) k = si k := by
      intro k hk
      unfold abI
      rw [vup_ne (by omega), vup_ne (by omega), vup_ne (by omega), vup_ne (by omega)]
    have f43 : abI (va_up (va_up si 43 1) 44 (-1)) (v / 86400) 43 = 1 := rfl
    have f44 : abI (va_up (va_up si 43 1) 44 (-1)) (v / 86400) 44 = -1 := rfl
    have fJ : ∀ k, k ≠ 40 → abJ sj (v / 86400) k = sj k := fun k hk => vup_ne hk
    rw [if_pos q0, Bool.true_and]
    unfold suB
    by_cases w : ev e (ly e v) ≤ ev b (ly b v)
    · obtain ⟨_, _, _, _, z1, _⟩ := n1 (-2) (Or.inr (Or.inr ⟨q0, rfl, rfl⟩))
      rw [if_pos w, if_neg (by decide)] at hF
      obtain ⟨si', sa', g1, g2, g3⟩ := mby39 (nf := nf) (si := abI (va_up (va_up si 43 1) 44 (-1)) (v / 86400)) (sj := abJ sj (v / 86400)) (sb := sb) hnf v1 (by omega) (n4 q0 rfl) z1 f43 f44
      rw [show ii ((1 : Nat) : Int) = (1 : Int32) from rfl] at g1
      rw [g1] at hF
      refine ⟨si', _, sa', hF.symm, ?_, fJ⟩
      rw [decide_eq_true w, if_pos rfl]
      unfold gotG
      rw [if_neg (by decide), if_pos (by decide), if_pos (by decide)]
      obtain ⟨y1, y2, y3, y4, y5, y6⟩ := g2
      exact ⟨⟨y1, y2, y3, y4, y5, fun k hk => by rw [y6 k hk, fI k hk]⟩, g3⟩
    · obtain ⟨_, _, _, _, z1, _⟩ := n1 (-1) (Or.inr (Or.inl ⟨q0, rfl⟩))
      rw [if_neg w, if_pos rfl] at hF
      obtain ⟨si', sa', g1, g2, g3⟩ := mby39 (nf := nf) (si := abI (va_up (va_up si 43 1) 44 (-1)) (v / 86400)) (sj := abJ sj (v / 86400)) (sb := sb) hnf v1 (by omega) (n3 q0) z1 f43 f44
      rw [show (0 : Int32) = ii ((0 : Nat) : Int) from rfl, g1] at hF
      refine ⟨si', _, sa', hF.symm, ?_, fJ⟩
      rw [decide_eq_false w, if_neg (by decide)]
      unfold gotG
      rw [if_neg (by decide), if_pos (by decide), if_pos (by decide)]
      obtain ⟨y1, y2, y3, y4, y5, y6⟩ := g2
      exact ⟨⟨y1, y2, y3, y4, y5, fun k hk => by rw [y6 k hk, fI k hk]⟩, g3⟩
theorem ZV.byType (h : ZV z sa sb i n t r tm tt hs b e O D Z B) (hnf : 10000 ≤ nf) {g : Nat} (hg : g < t) : ∃ si' sa', f_Mo_byType nf (ii (i : Int)) (ii (g : Int)) si sj sa sb = some (si', sj, sa', sb) ∧ gotG si si' sa sa' O D Z B g := by
  obtain ⟨⟨v1, v2, v3, v4, v5, v6, v7, v8, v9, v10⟩, _, ⟨n1, n2, n3, n4⟩⟩ := h
  obtain ⟨_, _, _, _, z1, _⟩ := n1 g (Or.inl ⟨by omega, by omega⟩)
  obtain ⟨si', sa', g1, g2, g3⟩ := mbyType (nf := nf) (si := si) (sj := sj) (sb := sb) hnf v1 (by omega) (n2 g hg) z1
  refine ⟨si', sa', g1, ?_⟩
  unfold gotG
  rw [if_neg (by omega), if_neg (by omega), if_neg (by omega)]
  exact ⟨g2, g3⟩
theorem mst96 (hi : i < 5) {k : Nat} {v : Int} (hn : n ≤ 200) (hT : ∀ q, q < n → sb 12 (200 * i + q) = jj (tm q) ∧ isI (tm q)) (hv : inL v) (hk : upto n tm v k) (k0 : 0 < k) (kn : k < n) : ∀ (d j fu : Nat), j + d + 1 = k → d < fu → f_Mo_state_96 nf fu (ii (j : Int)) (ii (i : Int)) (jj v) si sj sa sb = ((f_Mo_byType nf (ii (i : Int)) (sa 13 (200 * i + (k - 1))) si sj sa sb).bind fun (i_10, j_11, a_12, b_13) => f_Mo_state_140 nf i_10 j_11 a_12 b_13) := by
  intro d
  induction d with
  | zero =>
    intro j fu hj hf
    obtain ⟨f, rfl⟩ : ∃ f, fu = f + 1 := ⟨fu - 1, by omega⟩
    obtain ⟨a1, a2⟩ := sl2 (w := 200) (i := i) (k := j) (m := 1000) (by omega) hi (by omega) (by omega) 200 rfl
    obtain ⟨b1, b2⟩ := sl2 (w := 200) (i := i) (k := j + 1) (m := 1000) (by omega) hi (by omega) (by omega) 200 rfl
    have be : 200 * ii (i : Int) + ii (j : Int) + 1 = 200 * ii (i : Int) + ii ((j + 1 : Nat) : Int) := by rw [Int32.add_assoc, iiS]
    obtain ⟨t1, t2⟩ := hT (j + 1) (by omega)
    have t3 := hk.2.2 (j + 1) (by omega) (by omega)
    unfold isI at t2
    rw [f_Mo_state_96, be, b1, if_neg b2, t1, if_pos ((jj_lt hv.1 hv.2 (by omega) (by omega)).mpr t3), a1, if_neg a2, show j = k - 1 by omega]
  | succ d ih =>
    intro j fu hj hf
    obtain ⟨f, rfl⟩ : ∃ f, fu = f + 1 := ⟨fu - 1, by omega⟩
    obtain ⟨b1, b2⟩ := sl2 (w := 200) (i := i) (k := j + 1) (m := 1000) (by omega) hi (by omega) (by omega) 200 rfl
    have be : 200 * ii (i : Int) + ii (j : Int) + 1 = 200 * ii (i : Int) + ii ((j + 1 : Nat) : Int) := by rw [Int32.add_assoc, iiS]
    obtain ⟨t1, t2⟩ := hT (j + 1) (by omega)
    have t3 := hk.2.1 (j + 1) (by omega)
    unfold isI at t2
    rw [f_Mo_state_96, be, b1, if_neg b2, t1, if_neg (fun w => by rw [jj_lt hv.1 hv.2 (by omega) (by omega)] at w; omega), iiS]
    exact ih (j + 1) f (by omega) (by omega)
theorem ZV.state (h : ZV z sa sb i n t r tm tt hs b e O D Z B) (hnf : 10000 ≤ nf) {v : Int} (hv : isI v) {k : Nat} (hk : upto n tm v k) : ∃ si' sj' sa', f_Mo_state nf (ii (i : Int)) (jj v) si sj sa sb = some (si', sj', sa', sb) ∧ gotG si si' sa sa' O D Z B (stI n r tt (hs && suB b e v) k) ∧ ∀ k, k ≠ 40 → sj' k = sj k := by
  have hv' := hv
  unfold isI at hv'
  have hvl : inL v := ⟨by omega, by omega⟩
  obtain ⟨si1, sj1, sa1, R1, R2, R3⟩ := h.byRule (nf := nf) (si := si) (sj := sj) hnf hv
  obtain ⟨⟨v1, v2, v3, v4, v5, v6, v7, v8, v9, v10⟩, ⟨r1, r2, r3⟩, _⟩ := id h
  have ei : (ii (i : Int)).toNatClampNeg = i := by rw [ii_nat (by omega) (by omega)]; omega
  have ni : ¬ (ii (i : Int) < 0 ∨ 5 ≤ i) := by rw [ii_lit, ii_lt (by omega) (by omega) (by omega) (by omega)]; omega
  generalize hF : f_Mo_state nf (ii (i : Int)) (jj v) si sj sa sb = F
  unfold f_Mo_state f_Mo_state_0 at hF
  rw [ei, if_neg ni, v6] at hF
  unfold stI
  have z0 : (0 : Int32) = ii ((0 : Nat) : Int) := rfl
  obtain ⟨si0, sa0, T1, T2⟩ := h.byType (nf := nf) (si := si) (sj := sj) hnf (g := 0) (by omega)
  by_cases c0 : n = 0
  · subst c0
    rw [if_neg (by omega)]
    rw [if_pos (show ii ((0 : Nat) : Int) = 0 from rfl), if_neg ni] at hF
    by_cases cr : 0 < r
    · have q23 : ¬ sa 23 i ≤ 0 := by
        rcases r3 with ⟨q0, _⟩ | ⟨_, _, q2, _⟩ | ⟨_, _, q2, _⟩
        · omega
        · rw [q2]; decide
        · rw [q2]; decide
      rw [if_neg q23, R1, Option.bind_some] at hF
      rw [if_pos cr] at R2 ⊢
      exact ⟨si1, sj1, sa1, hF.symm, R2, R3⟩
    · have q23 : sa 23 i ≤ 0 := by
        rcases r3 with ⟨_, q1, _⟩ | ⟨q, _⟩ | ⟨q, _⟩
        · rw [q1]; decide
        · omega
        · omega
      rw [if_pos q23, z0, T1, Option.bind_some] at hF
      rw [if_neg cr, if_pos rfl]
      exact ⟨si0, sj, sa0, hF.symm, T2, fun _ _ => rfl⟩
  · have nz : ¬ ii (n : Int) = 0 := by rw [ii_lit, ii_eq (by omega) (by omega) (by omega) (by omega)]; omega
    have a12 := sl2 (w := 200) (i := i) (k := 0) (m := 1000) (by omega) v1 (by omega) (by omega) 200 rfl
    rw [← z0, Int32.add_zero, Nat.add_zero] at a12
    obtain ⟨a1, a2⟩ := a12
    obtain ⟨b1, b2⟩ := sl2 (w := 200) (i := i) (k := n - 1) (m := 1000) (by omega) v1 (by omega) (by omega) 200 rfl
    have be : 200 * ii (i : Int) + ii (n : Int) - 1 = 200 * ii (i : Int) + ii ((n - 1 : Nat) : Int) := by
      rw [show ii ((n - 1 : Nat) : Int) = ii (n : Int) - 1 by rw [ii_lit, ii_sub]; congr 1; omega]
      rw [Int32.sub_eq_add_neg, Int32.sub_eq_add_neg, Int32.add_assoc]
    obtain ⟨t0, _, t0', _⟩ := v9 0 (by omega)
    have t0b := (v9 0 (by omega)).2.1
    obtain ⟨l0, l1, l1', _⟩ := v9 (n - 1) (by omega)
    unfold isI at t0' l1'
    rw [Nat.add_zero] at t0b
    rw [if_neg nz, a1, if_neg a2, t0b, be, b1, if_neg b2, l1] at hF
    by_cases cl : tm 0 ≤ v
    · rw [if_pos ((jj_le (by omega) (by omega) (by omega) (by omega)).mpr cl)] at hF
      have k0 : 0 < k := by
        by_cases w : 0 < k
        · exact w
        · have := hk.2.2 0 (by omega) (by omega); omega
      by_cases ch : v < tm (n - 1)
      · have kn : k < n := by
          by_cases w : k < n
          · exact w
          · have := hk.2.1 (n - 1) (by have := hk.1; omega); omega
        obtain ⟨_, _, _, _, y1, y2⟩ := v9 (k - 1) (by omega)
        obtain ⟨si2, sa2, U1, U2⟩ := h.byType (nf := nf) (si := si) (sj := sj) hnf y2
        rw [if_pos ((jj_lt (by omega) (by omega) (by omega) (by omega)).mpr ch), z0, mst96 v1 v2 (fun q hq => ⟨(v9 q hq).2.1, (v9 q hq).2.2.1⟩) hvl hk k0 kn (k - 1) 0 nf (by omega) (by omega), y1, U1, Option.bind_some] at hF
        rw [if_pos kn, if_neg (by omega)]
        exact ⟨si2, sj, sa2, hF.symm, U2, fun _ _ => rfl⟩
      · have kn : ¬ k < n := by
          intro w
          have := hk.2.2 (n - 1) (by omega) (by omega)
          omega
        rw [if_neg (fun w => ch ((jj_lt (by omega) (by omega) (by omega) (by omega)).mp w)), R1, Option.bind_some] at hF
        rw [if_neg kn, if_neg c0]
        exact ⟨si1, sj1, sa1, hF.symm, R2, R3⟩
    · have k0 : k = 0 := by
        by_cases w : k = 0
        · exact w
        · have := hk.2.1 0 (by omega); omega
      rw [if_neg (fun w => cl ((jj_le (by omega) (by omega) (by omega) (by omega)).mp w)), z0, T1, Option.bind_some] at hF
      rw [if_pos (by omega), if_pos k0]
      exact ⟨si0, sj, sa0, hF.symm, T2, fun _ _ => rfl⟩
end
