/-! ===== table: both read the same lines ===== -/
section
variable {nf n : Nat} {s : Int32} {N : Nat} {A : Nat → Int32} {sj : Nat → Int64} {sa : Nat → Nat → Int32} {sb : Nat → Nat → Int64}
theorem tget (hP : RB s N A n (sa 0)) (hn : n ≤ 6000) {p : Nat} (hp : p ≤ 30000) : f_By_get nf (ii (p : Int)) s N A = some (ii (LL (sa 0) n p)) := by
  by_cases c : p < n
  · rw [LLv c]
    exact hP.get c
  · unfold LL
    rw [if_neg c]
    exact hP.out (by omega) (by omega) (by omega)
theorem tMP {si : Nat → Int32} (hP : RB s N A n (sa 0)) (hn : n ≤ 6000) (h33 : si 33 = ii (n : Int)) : MP si sa n := ⟨h33, hn, fun k hk => hP.byte hk⟩
abbrev bk (v : Int) : Prop := v = 32 ∨ v = 9
theorem cbk (nf : Nat) {v : Int} (h1 : -1 ≤ v) (h2 : v ≤ 255) : f_TP_isBlank nf (ii v) = some (if bk v then 1 else 0) := by
  unfold f_TP_isBlank f_TP_isBlank_0 f_TP_isBlank_12 f_TP_isBlank_17
  rw [if_pos (show (1 : Int32) = 0 ∨ (1 : Int32) = 1 by decide), if_pos (show (0 : Int32) = 0 ∨ (0 : Int32) = 1 by decide)]
  by_cases c : v = 32
  · rw [if_pos (by rw [c]; rfl), if_pos (Or.inl c)]
  · rw [if_neg (by rw [ii_lit, ii_eq (by omega) (by omega) (by omega) (by omega)]; exact c)]
    by_cases d : v = 9
    · rw [if_pos (by rw [d]; rfl), if_pos (Or.inr d)]
    · rw [if_neg (by rw [ii_lit, ii_eq (by omega) (by omega) (by omega) (by omega)]; exact d), if_neg (fun z => z.elim c d)]
theorem mbk (nf : Nat) {v : Int} (h1 : -1 ≤ v) (h2 : v ≤ 255) : f_Mo_isBlank nf (ii v) = some (if bk v then 1 else 0) := cbk nf h1 h2
theorem tblank (hP : RB s N A n (sa 0)) (hn : n ≤ 6000) : ∀ (d p fu fu' : Nat), n ≤ p + d → d < fu → d < fu' → p ≤ n → ∀ si : Nat → Int32, si 33 = ii (n : Int) → si 32 = ii (p : Int) → ∃ (p' : Nat) (si' : Nat → Int32), p ≤ p' ∧ p' ≤ n ∧ f_TP_skipBlanks_0 nf s N A fu (ii (p : Int)) = some (ii (p' : Int)) ∧ f_Mo_blanks_0 nf fu' si sj sa sb = some (si', sj, sa, sb) ∧ si' 32 = ii (p' : Int) ∧ ∀ k, k ≠ 32 → si' k = si k := by
  have hs := hP.1
  intro d
  induction d with
  | zero =>
    intro p fu fu' h1 h2 h3 h4 si h33 h32
    obtain ⟨f, rfl⟩ : ∃ f, fu = f + 1 := ⟨fu - 1, by omega⟩
    obtain ⟨f', rfl⟩ : ∃ f', fu' = f' + 1 := ⟨fu' - 1, by omega⟩
    obtain rfl : p = n := by omega
    have hr := LL_range (k := p) (fun k hk => hP.byte (k := k) hk)
    have el : LL (sa 0) p p = -1 := by unfold LL; rw [if_neg (by omega)]
    refine ⟨p, si, by omega, by omega, ?_, ?_, h32, fun _ _ => rfl⟩
    · rw [f_TP_skipBlanks_0, hs, if_pos (iple (c := 0) (d := 0) (by omega) (by omega))]
      rfl
    · rw [f_Mo_blanks_0, mlook (tMP hP hn h33) h32 (by omega), Option.bind_some, mbk nf hr.1 hr.2, Option.bind_some, el, if_neg (show ¬ bk (-1) by omega), if_pos rfl]
  | succ d ih =>
    intro p fu fu' h1 h2 h3 h4 si h33 h32
    obtain ⟨f, rfl⟩ : ∃ f, fu = f + 1 := ⟨fu - 1, by omega⟩
    obtain ⟨f', rfl⟩ : ∃ f', fu' = f' + 1 := ⟨fu' - 1, by omega⟩
    have hr := LL_range (k := p) (fun k hk => hP.byte (k := k) hk)
    rw [f_TP_skipBlanks_0, f_Mo_blanks_0, mlook (tMP hP hn h33) h32 (by omega), Option.bind_some, mbk nf hr.1 hr.2, Option.bind_some]
    by_cases c : p < n
    · rw [tget hP hn (by omega), Option.bind_some, cbk nf hr.1 hr.2, Option.bind_some, hs, if_neg (inle (by omega) (by omega))]
      by_cases b : bk (LL (sa 0) n p)
      · rw [if_pos b, if_neg (by decide), if_neg (by decide), h32, iiS]
        obtain ⟨p', si', g1, g2, g3, g4, g5, g6⟩ := ih (p + 1) f f' (by omega) (by omega) (by omega) (by omega) (va_up si 32 (ii ((p + 1 : Nat) : Int))) (by rw [vup_ne (by decide)]; exact h33) rfl
        rw [hs] at g3
        exact ⟨p', si', by omega, g2, g3, g4, g5, fun k hk => (g6 k hk).trans (vup_ne hk)⟩
      · rw [if_neg b, if_pos rfl, if_pos rfl]
        exact ⟨p, si, by omega, by omega, rfl, rfl, h32, fun _ _ => rfl⟩
    · obtain rfl : p = n := by omega
      have el : LL (sa 0) p p = -1 := by unfold LL; rw [if_neg (by omega)]
      rw [hs, if_pos (iple (c := 0) (d := 0) (by omega) (by omega)), el, if_neg (show ¬ bk (-1) by omega), if_pos rfl]
      exact ⟨p, si, by omega, by omega, rfl, rfl, h32, fun _ _ => rfl⟩
theorem tblanks (hnf : 10000 ≤ nf) (hP : RB s N A n (sa 0)) (hn : n ≤ 6000) {p : Nat} (hp : p ≤ n) {si : Nat → Int32} (h33 : si 33 = ii (n : Int)) (h32 : si 32 = ii (p : Int)) : ∃ (p' : Nat) (si' : Nat → Int32), p ≤ p' ∧ p' ≤ n ∧ f_TP_skipBlanks nf (ii (p : Int)) s N A = some (ii (p' : Int)) ∧ f_Mo_blanks nf si sj sa sb = some (si', sj, sa, sb) ∧ si' 32 = ii (p' : Int) ∧ ∀ k, k ≠ 32 → si' k = si k :=
  tblank hP hn n p nf nf (by omega) (by omega) (by omega) hp si h33 h32
theorem mlend {p : Nat} (hP : RB s N A n (sa 0)) (hn : n ≤ 6000) (hp : p ≤ n) {si : Nat → Int32} (h33 : si 33 = ii (n : Int)) (h32 : si 32 = ii (p : Int)) : f_Mo_lineEnd nf si sj sa sb = if LL (sa 0) n p = 10 then some (1, va_up si 32 (ii ((p + 1 : Nat) : Int)), sj, sa, sb) else some (0, va_up (va_up si 36 1) 2 (ii (p : Int)), sj, sa, sb) := by
  have hr := LL_range (k := p) (fun k hk => hP.byte (k := k) hk)
  unfold f_Mo_lineEnd f_Mo_lineEnd_0
  rw [mlook (tMP hP hn h33) h32 (by omega), Option.bind_some, h32, iiS]
  by_cases c : LL (sa 0) n p = 10
  · rw [if_pos c, if_pos (by rw [c]; rfl)]
  · rw [if_neg c, if_neg (by rw [ii_lit, ii_eq (by omega) (by omega) (by omega) (by omega)]; exact c)]
    rfl
theorem clend {p : Nat} (hP : RB s N A n (sa 0)) (hn : n ≤ 6000) (hp : p ≤ n) (fa pl : Int32) : f_TP_passLineEnd nf fa pl (ii (p : Int)) s N A = if LL (sa 0) n p = 10 then some (1, fa, pl, ii ((p + 1 : Nat) : Int)) else some (0, 1, ii (p : Int), ii (p : Int)) := by
  have hr := LL_range (k := p) (fun k hk => hP.byte (k := k) hk)
  unfold f_TP_passLineEnd f_TP_passLineEnd_0
  rw [tget hP hn (by omega), Option.bind_some, iiS]
  by_cases c : LL (sa 0) n p = 10
  · rw [if_pos c, if_pos (by rw [c]; rfl)]
  · rw [if_neg c, if_neg (by rw [ii_lit, ii_eq (by omega) (by omega) (by omega) (by omega)]; exact c)]
    rfl
theorem tskip (hP : RB s N A n (sa 0)) (hn : n ≤ 6000) : ∀ (d p fu fu' : Nat), n ≤ p + d → d < fu → d < fu' → p ≤ n → ∀ si : Nat → Int32, si 33 = ii (n : Int) → si 32 = ii (p : Int) → ∃ (p' : Nat) (si' : Nat → Int32), p ≤ p' ∧ p' ≤ n ∧ f_TP_skipToLineEnd_0 nf s N A fu (ii (p : Int)) = some (ii (p' : Int)) ∧ f_Mo_remark_0 nf fu' si sj sa sb = f_Mo_remark_29 nf si' sj sa sb ∧ si' 32 = ii (p' : Int) ∧ ∀ k, k ≠ 32 → si' k = si k := by
  have hs := hP.1
  intro d
  induction d with
  | zero =>
    intro p fu fu' h1 h2 h3 h4 si h33 h32
    obtain ⟨f, rfl⟩ : ∃ f, fu = f + 1 := ⟨fu - 1, by omega⟩
    obtain ⟨f', rfl⟩ : ∃ f', fu' = f' + 1 := ⟨fu' - 1, by omega⟩
    obtain rfl : p = n := by omega
    have el : LL (sa 0) p p = -1 := by unfold LL; rw [if_neg (by omega)]
    refine ⟨p, si, by omega, by omega, ?_, ?_, h32, fun _ _ => rfl⟩
    · rw [f_TP_skipToLineEnd_0, hs, if_pos (iple (c := 0) (d := 0) (by omega) (by omega))]
      rfl
    · rw [f_Mo_remark_0, mlook (tMP hP hn h33) h32 (by omega), Option.bind_some, Option.bind_some, el, if_neg (by decide), if_pos (by decide)]
  | succ d ih =>
    intro p fu fu' h1 h2 h3 h4 si h33 h32
    obtain ⟨f, rfl⟩ : ∃ f, fu = f + 1 := ⟨fu - 1, by omega⟩
    obtain ⟨f', rfl⟩ : ∃ f', fu' = f' + 1 := ⟨fu' - 1, by omega⟩
    have hr := LL_range (k := p) (fun k hk => hP.byte (k := k) hk)
    rw [f_TP_skipToLineEnd_0, f_Mo_remark_0, mlook (tMP hP hn h33) h32 (by omega), Option.bind_some, Option.bind_some]
    by_cases c : p < n
    · have l0 : 0 ≤ LL (sa 0) n p := by
        obtain ⟨b, hb, e⟩ := hP.byte c
        unfold LL
        rw [if_pos c, e, ii_toInt (by omega) (by omega)]
        omega
      rw [tget hP hn (by omega), Option.bind_some, hs, if_neg (inle (by omega) (by omega))]
      by_cases b : LL (sa 0) n p = 10
      · rw [b]
        exact ⟨p, si, by omega, by omega, rfl, rfl, h32, fun _ _ => rfl⟩
      · have nb : ¬ ii (LL (sa 0) n p) = 10 := by rw [ii_lit, ii_eq (by omega) (by omega) (by omega) (by omega)]; exact b
        rw [if_neg nb, if_neg nb, if_neg (by rw [ii_lit, ii_lt (by omega) (by omega) (by omega) (by omega)]; omega), h32, iiS]
        obtain ⟨p', si', g1, g2, g3, g4, g5, g6⟩ := ih (p + 1) f f' (by omega) (by omega) (by omega) (by omega) (va_up si 32 (ii ((p + 1 : Nat) : Int))) (by rw [vup_ne (by decide)]; exact h33) rfl
        rw [hs] at g3
        exact ⟨p', si', by omega, g2, g3, g4, g5, fun k hk => (g6 k hk).trans (vup_ne hk)⟩
    · obtain rfl : p = n := by omega
      have el : LL (sa 0) p p = -1 := by unfold LL; rw [if_neg (by omega)]
      rw [hs, if_pos (iple (c := 0) (d := 0) (by omega) (by omega)), el]
      exact ⟨p, si, by omega, by omega, rfl, rfl, h32, fun _ _ => rfl⟩
/-- a remark up to its line's end -/
theorem tremark (hnf : 10000 ≤ nf) (hP : RB s N A n (sa 0)) (hn : n ≤ 6000) {p : Nat} (hp : p ≤ n) {si : Nat → Int32} (h33 : si 33 = ii (n : Int)) (h32 : si 32 = ii (p : Int)) : ∃ (p' : Nat) (si' : Nat → Int32), p ≤ p' ∧ p' ≤ n ∧ f_TP_skipToLineEnd nf (ii (p : Int)) s N A = some (ii (p' : Int)) ∧ f_Mo_remark nf si sj sa sb = (if LL (sa 0) n p' = 10 then some (1, va_up si' 32 (ii ((p' + 1 : Nat) : Int)), sj, sa, sb) else some (0, va_up (va_up si' 36 1) 2 (ii (p' : Int)), sj, sa, sb)) ∧ si' 32 = ii (p' : Int) ∧ ∀ k, k ≠ 32 → si' k = si k := by
  obtain ⟨p', si', g1, g2, g3, g4, g5, g6⟩ := tskip (nf := nf) (sj := sj) (sb := sb) hP hn n p nf nf (by omega) (by omega) (by omega) hp si h33 h32
  refine ⟨p', si', g1, g2, g3, ?_, g5, g6⟩
  unfold f_Mo_remark
  rw [g4]
  unfold f_Mo_remark_29
  rw [mlend hP hn g2 ((g6 33 (by decide)).trans h33) g5]
  by_cases c : LL (sa 0) n p' = 10
  · rw [if_pos c]
    rfl
  · rw [if_neg c]
    rfl
theorem p10 (j : Nat) (hj : j ≤ 10) : (10 : Int) ^ j ≤ 10000000000 := by
  have : ∀ j : Fin 11, (10 : Int) ^ j.val ≤ 10000000000 := by decide
  exact this ⟨j, by omega⟩
/-- digits: how both end -/
def DOut (n q0 : Nat) (fa pl : Int32) (cl : Option (Int64 × Int32 × Int32 × Int32)) (rf : Option (Int32 × MS)) (si : Nat → Int32) (sj : Nat → Int64) (sa : Nat → Nat → Int32) (sb : Nat → Nat → Int64) : Prop :=
  (∃ (p : Nat) (v : Int) (si' : Nat → Int32) (sj' : Nat → Int64), q0 < p ∧ p ≤ n ∧ 0 ≤ v ∧ v < 10000000000 ∧ cl = some (jj v, fa, pl, ii (p : Int)) ∧ rf = some (1, si', sj', sa, sb) ∧ si' 32 = ii (p : Int) ∧ sj' 71 = jj v ∧ (∀ k, k ≠ 32 → si' k = si k) ∧ ∀ k, k ≠ 71 → sj' k = sj k) ∨
  (∃ (p : Nat) (si' : Nat → Int32) (sj' : Nat → Int64), cl = some (-1, 1, ii (p : Int), ii (p : Int)) ∧ rf = some (0, si', sj', sa, sb) ∧ si' 36 = 1 ∧ si' 2 = ii (p : Int) ∧ (∀ k, k ≠ 32 → k ≠ 36 → k ≠ 2 → si' k = si k) ∧ ∀ k, k ≠ 71 → sj' k = sj k)
theorem tdig (hP : RB s N A n (sa 0)) (hn : n ≤ 6000) (fa pl : Int32) {q0 : Nat} : ∀ (d j fu fu' : Nat), j + d = 10 → d < fu → d < fu' → q0 + j ≤ n → ∀ (v : Int) (si : Nat → Int32) (sj : Nat → Int64), 0 ≤ v → v < 10 ^ j → si 33 = ii (n : Int) → si 32 = ii ((q0 + j : Nat) : Int) → sj 71 = jj v → DOut n q0 fa pl (f_TP_readNumber_10 nf s N A fu (ii (j : Int)) (jj v) (ii (q0 : Int)) fa pl (ii ((q0 + j : Nat) : Int))) (f_Mo_digits_10 nf fu' (ii (q0 : Int)) si sj sa sb) si sj sa sb := by
  have c97 : ∀ p : Nat, f_TP_readNumber_97 nf fa pl (ii (p : Int)) = some (-1, 1, ii (p : Int), ii (p : Int)) := fun _ => rfl
  intro d
  induction d with
  | zero =>
    intro j fu fu' hj hf hf' hq v si sj v0 v1 h33 h32 h71
    obtain ⟨f, rfl⟩ : ∃ f, fu = f + 1 := ⟨fu - 1, by omega⟩
    obtain ⟨f', rfl⟩ : ∃ f', fu' = f' + 1 := ⟨fu' - 1, by omega⟩
    obtain rfl : j = 10 := by omega
    have hr := LL_range (k := q0 + 10) (fun k hk => hP.byte (k := k) hk)
    have v2 := p10 10 (by omega)
    rw [f_TP_readNumber_10, if_pos (by decide), f_Mo_digits_10, mlook (tMP hP hn h33) h32 (by omega), Option.bind_some, mdig nf hr.1 hr.2, Option.bind_some]
    unfold f_TP_readNumber_72
    rw [c97, if_neg (by rw [ii_eq (by omega) (by omega) (by omega) (by omega)]; omega), tget hP hn (by omega), Option.bind_some, cdig nf hr.1 hr.2, Option.bind_some]
    by_cases c : dig (LL (sa 0) n (q0 + 10))
    · rw [if_pos c, if_neg (by decide), if_neg (by decide), h32, show ii ((q0 + 10 : Nat) : Int) - ii (q0 : Int) = 10 by rw [ii_sub, show ((q0 + 10 : Nat) : Int) - (q0 : Int) = 10 by omega]; rfl, if_pos rfl]
      exact Or.inr ⟨q0 + 10, _, sj, rfl, rfl, rfl, rfl, fun k k1 k2 k3 => by rw [vup_ne k3, vup_ne k2], fun _ _ => rfl⟩
    · rw [if_neg c, if_pos rfl, if_pos rfl, h32, if_pos (by rw [ii_lt (by omega) (by omega) (by omega) (by omega)]; omega)]
      exact Or.inl ⟨q0 + 10, v, si, sj, by omega, hq, v0, by omega, rfl, rfl, h32, h71, fun _ _ => rfl, fun _ _ => rfl⟩
  | succ d ih =>
    intro j fu fu' hj hf hf' hq v si sj v0 v1 h33 h32 h71
    obtain ⟨f, rfl⟩ : ∃ f, fu = f + 1 := ⟨fu - 1, by omega⟩
    obtain ⟨f', rfl⟩ : ∃ f', fu' = f' + 1 := ⟨fu' - 1, by omega⟩
    have hr := LL_range (k := q0 + j) (fun k hk => hP.byte (k := k) hk)
    have v2 := p10 j (by omega)
    rw [f_TP_readNumber_10, if_neg (by rw [ii_lit, ii_le (by omega) (by omega) (by omega) (by omega)]; omega), f_Mo_digits_10, mlook (tMP hP hn h33) h32 (by omega), Option.bind_some, Option.bind_some, mdig nf hr.1 hr.2, Option.bind_some, tget hP hn (by omega), Option.bind_some, Option.bind_some, cdig nf hr.1 hr.2, Option.bind_some]
    unfold f_TP_readNumber_72
    rw [c97, tget hP hn (by omega), Option.bind_some, cdig nf hr.1 hr.2, Option.bind_some]
    by_cases c : dig (LL (sa 0) n (q0 + j))
    · rw [if_pos c, if_neg (by decide), if_neg (by decide), h32, if_neg (show ¬ ii ((q0 + j : Nat) : Int) - ii (q0 : Int) = 10 by rw [ii_sub, ii_lit, ii_eq (by omega) (by omega) (by omega) (by omega)]; omega)]
      have lt : q0 + j < n := LL_lt (T := sa 0) (E := n) (k := q0 + j) (by omega)
      have e1 : 10 * jj v + (ii (LL (sa 0) n (q0 + j)) - 48).toInt64 = jj (10 * v + (LL (sa 0) n (q0 + j) - 48)) := by
        rw [show (48 : Int32) = ii 48 from rfl, ii_sub, ii_64 (by omega) (by omega), show (10 : Int64) = jj 10 from rfl, jj_mul, jj_add]
      have e2 : 10 * jj v + (ii (LL (sa 0) n (q0 + j))).toInt64 - 48 = jj (10 * v + (LL (sa 0) n (q0 + j) - 48)) := by
        rw [ii_64 (by omega) (by omega), show (10 : Int64) = jj 10 from rfl, show (48 : Int64) = jj 48 from rfl, jj_mul, jj_add, jj_sub]
        congr 1
        omega
      rw [h71, e1, e2, iiS, iiS]
      have pw : (10 : Int) ^ (j + 1) = 10 * 10 ^ j := by rw [Int.pow_succ]; omega
      rcases ih (j + 1) f f' (by omega) (by omega) (by omega) (by omega) (10 * v + (LL (sa 0) n (q0 + j) - 48)) (va_up si 32 (ii ((q0 + j + 1 : Nat) : Int))) (va_up sj 71 (jj (10 * v + (LL (sa 0) n (q0 + j) - 48)))) (by omega) (by rw [pw]; omega) (by rw [vup_ne (by decide)]; exact h33) rfl rfl with ⟨p, v', si', sj', g1, g2, g3, g4, g5, g6, g7, g8, g9, g10⟩ | ⟨p, si', sj', g1, g2, g3, g4, g5, g6⟩
      · exact Or.inl ⟨p, v', si', sj', g1, g2, g3, g4, g5, g6, g7, g8, fun k hk => (g9 k hk).trans (vup_ne hk), fun k hk => (g10 k hk).trans (vup_ne hk)⟩
      · exact Or.inr ⟨p, si', sj', g1, g2, g3, g4, fun k k1 k2 k3 => (g5 k k1 k2 k3).trans (vup_ne k1), fun k hk => (g6 k hk).trans (vup_ne hk)⟩
    · rw [if_neg c, if_pos rfl, if_pos rfl, if_pos rfl, h32]
      by_cases j0 : j = 0
      · subst j0
        rw [if_pos (show ii ((q0 + 0 : Nat) : Int) = ii (q0 : Int) from rfl), if_neg (by rw [ii_lt (by omega) (by omega) (by omega) (by omega)]; omega)]
        exact Or.inr ⟨q0 + 0, _, sj, rfl, rfl, rfl, rfl, fun k k1 k2 k3 => by rw [vup_ne k3, vup_ne k2], fun _ _ => rfl⟩
      · rw [if_neg (by rw [ii_eq (by omega) (by omega) (by omega) (by omega)]; omega), if_pos (by rw [ii_lt (by omega) (by omega) (by omega) (by omega)]; omega)]
        exact Or.inl ⟨q0 + j, v, si, sj, by omega, hq, v0, by omega, rfl, rfl, h32, h71, fun _ _ => rfl, fun _ _ => rfl⟩
theorem tdigits (hnf : 10000 ≤ nf) (hP : RB s N A n (sa 0)) (hn : n ≤ 6000) (fa pl : Int32) {q0 : Nat} (hq : q0 ≤ n) {si : Nat → Int32} (h33 : si 33 = ii (n : Int)) (h32 : si 32 = ii (q0 : Int)) : DOut n q0 fa pl (f_TP_readNumber nf fa pl (ii (q0 : Int)) s N A) (f_Mo_digits nf si sj sa sb) si sj sa sb := by
  unfold f_TP_readNumber f_TP_readNumber_0 f_Mo_digits f_Mo_digits_0
  rw [h32]
  rcases tdig (nf := nf) (sb := sb) hP hn fa pl (q0 := q0) 10 0 nf nf (by omega) (by omega) (by omega) (by omega) 0 si (va_up sj 71 0) (by omega) (by decide) h33 h32 rfl with ⟨p, v', si', sj', g1, g2, g3, g4, g5, g6, g7, g8, g9, g10⟩ | ⟨p, si', sj', g1, g2, g3, g4, g5, g6⟩
  · exact Or.inl ⟨p, v', si', sj', g1, g2, g3, g4, g5, g6, g7, g8, g9, fun k hk => (g10 k hk).trans (vup_ne hk)⟩
  · exact Or.inr ⟨p, si', sj', g1, g2, g3, g4, g5, fun k hk => (g6 k hk).trans (vup_ne hk)⟩
end
