/-! ===== the reference reads a rule text ===== -/
def MP (si : Nat → Int32) (sa : Nat → Nat → Int32) (E : Nat) : Prop := si 33 = ii (E : Int) ∧ E ≤ 6000 ∧ ∀ k, k < E → ∃ b : Nat, b < 256 ∧ sa 0 k = ii (b : Int)
def sI3 (si si' : Nat → Int32) : Prop := ∀ k, k ≠ 32 → k ≠ 34 → k ≠ 35 → si' k = si k
theorem sI3.rf {si : Nat → Int32} : sI3 si si := fun _ _ _ _ => rfl
theorem sI3.tr {a b c : Nat → Int32} (h : sI3 a b) (g : sI3 b c) : sI3 a c := fun k k1 k2 k3 => (g k k1 k2 k3).trans (h k k1 k2 k3)
theorem sI3.at {si : Nat → Int32} {x : Int32} : sI3 si (va_up si 32 x) := fun k k1 _ _ => vup_ne k1
theorem sI3.bd {si : Nat → Int32} {x : Int32} : sI3 si (va_up (va_up si 34 1) 35 x) := fun k _ k2 k3 => by rw [vup_ne k3, vup_ne k2]
/-- how a reader of the reference ends: r is what the text says -/
def mEnd {α : Type} (r : Except Nat α) (si' : Nat → Int32) (ok : α → Prop) : Prop := match r with
  | .error x => si' 34 = 1 ∧ si' 35 = ii (x : Int)
  | .ok a => si' 34 = 0 ∧ ok a
section
variable {nf : Nat} {si si' : Nat → Int32} {sj : Nat → Int64} {sa sa' : Nat → Nat → Int32} {sb : Nat → Nat → Int64} {E : Nat}
theorem MP.sI (h : MP si sa E) (g : sI3 si si') : MP si' sa E := ⟨(g 33 (by decide) (by decide) (by decide)).trans h.1, h.2⟩
theorem MP.sA (h : MP si sa E) (g : ∀ k, sa' 0 k = sa 0 k) : MP si sa' E := ⟨h.1, h.2.1, fun k hk => by rw [g]; exact h.2.2 k hk⟩
theorem MP.range (h : MP si sa E) (k : Nat) : -1 ≤ LL (sa 0) E k ∧ LL (sa 0) E k ≤ 255 := LL_range h.2.2
theorem mlook (h : MP si sa E) {p : Nat} (hp : si 32 = ii (p : Int)) (h1 : p ≤ 100000) : f_Mo_look nf si sj sa sb = some (ii (LL (sa 0) E p)) := by
  have hE := h.2.1
  unfold f_Mo_look f_Mo_look_0 f_Mo_look_24 LL
  rw [hp, h.1]
  by_cases c : p < E
  · obtain ⟨b, hb, e⟩ := h.2.2 p c
    have en : (ii (p : Int)).toNatClampNeg = p := by rw [ii_nat (by omega) (by omega)]; omega
    rw [if_neg (by rw [ii_le (by omega) (by omega) (by omega) (by omega)]; omega), if_pos c, en, if_neg (by rw [ii_lit, ii_lt (by omega) (by omega) (by omega) (by omega)]; omega), e, ii_toInt (by omega) (by omega)]
  · rw [if_pos ((ii_le (by omega) (by omega) (by omega) (by omega)).mpr (by omega)), if_neg c]; rfl
theorem mdig (nf : Nat) {v : Int} (h1 : -1 ≤ v) (h2 : v ≤ 255) : f_Mo_isDigit nf (ii v) = some (if dig v then 1 else 0) := cdig nf h1 h2
theorem mltr (nf : Nat) {v : Int} (h1 : -1 ≤ v) (h2 : v ≤ 255) : f_Mo_isLetter nf (ii v) = some (if ltr v then 1 else 0) := cltr nf h1 h2
theorem mnmb (nf : Nat) {v : Int} (h1 : -1 ≤ v) (h2 : v ≤ 255) : f_Mo_isNamed nf (ii v) = some (if nmb v then 1 else 0) := by
  unfold f_Mo_isNamed f_Mo_isNamed_0 f_Mo_isNamed_26 f_Mo_isNamed_31
  rw [mdig nf h1 h2, Option.bind_some, mltr nf h1 h2, Option.bind_some]
  by_cases c2 : dig v
  · rw [if_pos c2, if_neg (by decide), if_pos (show nmb v by omega)]; rfl
  · rw [if_neg c2, if_pos rfl]
    by_cases c1 : ltr v
    · rw [if_pos c1, if_neg (by decide), if_pos (show nmb v by omega)]; rfl
    · rw [if_neg c1, if_pos rfl]
      by_cases c3 : v = 43
      · rw [if_pos (by rw [c3]; rfl), if_pos (show nmb v by omega)]; rfl
      · rw [if_neg (fun z => c3 (by rw [ii_lit, ii_eq2 (by omega) (by omega) (by omega) (by omega)] at z; exact z))]
        by_cases c4 : v = 45
        · rw [if_pos (by rw [c4]; rfl), if_pos (show nmb v by omega)]; rfl
        · rw [if_neg (fun z => c4 (by rw [ii_lit, ii_eq2 (by omega) (by omega) (by omega) (by omega)] at z; exact z)), if_neg (show ¬ nmb v by omega)]; rfl
theorem mcan (hb : si 34 = 0) {x : Int32} : f_Mo_cannot nf x si sj sa sb = some (va_up (va_up si 34 1) 35 x, sj, sa, sb) := by
  unfold f_Mo_cannot f_Mo_cannot_0 f_Mo_cannot_17
  rw [if_pos hb]
theorem mcanB (hb : si 34 = 1) {x : Int32} : f_Mo_cannot nf x si sj sa sb = some (si, sj, sa, sb) := by
  unfold f_Mo_cannot f_Mo_cannot_0 f_Mo_cannot_17
  rw [hb, if_neg (by decide)]
theorem msignB (hb : si 34 = 1) {x : Int32} : f_Mo_sign nf x si sj sa sb = some (si, sj, sa, sb) := by
  unfold f_Mo_sign f_Mo_sign_0 f_Mo_sign_28 f_Mo_sign_36
  rw [hb, if_neg (by decide), mcanB hb]
  rfl
theorem msign (h : MP si sa E) {p : Nat} (hp : si 32 = ii (p : Int)) (h1 : p ≤ 100000) (hb : si 34 = 0) {x : Int} (x1 : 0 ≤ x) (x2 : x ≤ 255) : f_Mo_sign nf (ii x) si sj sa sb = some (if LL (sa 0) E p = x then va_up si 32 (ii ((p + 1 : Nat) : Int)) else va_up (va_up si 34 1) 35 (ii (p : Int)), sj, sa, sb) := by
  have hr := h.range p
  unfold f_Mo_sign f_Mo_sign_0 f_Mo_sign_28 f_Mo_sign_36
  rw [if_pos hb, mlook h hp h1, Option.bind_some, mcan hb, Option.bind_some, hp]
  by_cases c : LL (sa 0) E p = x
  · rw [if_pos c, if_pos (by rw [c]), ii_lit, ii_add]; rfl
  · rw [if_neg c, if_neg (fun z => c ((ii_eq2 (by omega) (by omega) (by omega) (by omega)).mp z))]
theorem mn_74 {p0 p : Nat} (hp : si 32 = ii (p : Int)) (h1 : p ≤ 100000) (h0 : p0 < p) (hb : si 34 = 0) {v lo hi : Int} (v1 : 0 ≤ v) (v2 : v ≤ 100000) (l1 : 0 ≤ lo) (l2 : lo ≤ 1000) (g1 : 0 ≤ hi) (g2 : hi ≤ 1000) : f_Mo_number_74 nf (ii v) (ii (p0 : Int)) (ii lo) (ii hi) si sj sa sb = some (ii v, (if v < lo ∨ hi < v then va_up (va_up si 34 1) 35 (ii (p0 : Int)) else si), sj, sa, sb) := by
  unfold f_Mo_number_74 f_Mo_number_101 f_Mo_number_106
  rw [if_pos hb, hp, if_neg (by rw [ii_eq (by omega) (by omega) (by omega) (by omega)]; omega), mcan hb, Option.bind_some]
  by_cases c1 : v < lo
  · rw [if_pos ((ii_lt (by omega) (by omega) (by omega) (by omega)).mpr c1), if_pos (Or.inl c1)]
  · rw [if_neg (fun z => c1 ((ii_lt (by omega) (by omega) (by omega) (by omega)).mp z))]
    by_cases c2 : hi < v
    · rw [if_neg (by rw [ii_le (by omega) (by omega) (by omega) (by omega)]; omega), if_pos (Or.inr c2)]
    · rw [if_pos ((ii_le (by omega) (by omega) (by omega) (by omega)).mpr (by omega)), if_neg (by omega)]
theorem mn_8 (h : MP si sa E) {p0 p n : Nat} (hp : si 32 = ii (p : Int)) (h1 : p ≤ 100000) (h0 : p0 ≤ p) (h3 : p < p0 + 3) (hb : si 34 = 0) {v : Int} {lo hi : Int32} (v1 : 0 ≤ v) (v2 : v ≤ 1000) : f_Mo_number_8 nf (n + 1) (ii v) (ii (p0 : Int)) lo hi si sj sa sb = if dig (LL (sa 0) E p) then f_Mo_number_8 nf n (ii (10 * v + LL (sa 0) E p - 48)) (ii (p0 : Int)) lo hi (va_up si 32 (ii ((p + 1 : Nat) : Int))) sj sa sb else f_Mo_number_74 nf (ii v) (ii (p0 : Int)) lo hi si sj sa sb := by
  have hr := h.range p
  rw [f_Mo_number_8, if_pos hb, mlook h hp h1, Option.bind_some, mdig nf hr.1 hr.2, Option.bind_some, hp, Option.bind_some]
  by_cases c : dig (LL (sa 0) E p)
  · rw [if_pos c, if_neg (by decide), if_pos c, ii_sub, if_neg (by rw [ii_lit, ii_eq (by omega) (by omega) (by omega) (by omega)]; omega)]
    simp only [ii_lit, ii_add, ii_mul, ii_sub]
    congr 2
  · rw [if_neg c, if_pos rfl, if_neg c]
theorem mnumB (hnf : 1 ≤ nf) (hb : si 34 = 1) {lo hi : Int32} : f_Mo_number nf lo hi si sj sa sb = some (0, si, sj, sa, sb) := by
  obtain ⟨n, rfl⟩ : ∃ n, nf = n + 1 := ⟨nf - 1, by omega⟩
  unfold f_Mo_number f_Mo_number_0
  rw [f_Mo_number_8, hb, if_neg (by decide)]
  unfold f_Mo_number_74 f_Mo_number_106
  rw [hb, if_neg (by decide)]
theorem mnum (h : MP si sa E) (hnf : 6 ≤ nf) {p : Nat} (hp : si 32 = ii (p : Int)) (h1 : p ≤ 90000) (hb : si 34 = 0) {lo hi : Int} (l1 : 0 ≤ lo) (l2 : lo ≤ 1000) (g1 : 0 ≤ hi) (g2 : hi ≤ 1000) :
    ∃ (v : Int32) (si' : Nat → Int32), f_Mo_number nf (ii lo) (ii hi) si sj sa sb = some (v, si', sj, sa, sb) ∧ sI3 si si' ∧ mEnd (rnum (LL (sa 0) E) lo hi p) si' (fun a => v = ii a.1 ∧ si' 32 = ii (a.2 : Int)) := by
  obtain ⟨n, rfl⟩ : ∃ n, nf = n + 6 := ⟨nf - 6, by omega⟩
  have r0 := h.range p
  have r1 := h.range (p + 1)
  have r2 := h.range (p + 2)
  have r3 := h.range (p + 3)
  have fin : ∀ (st : Nat → Int32) (q : Nat) (v : Int), sI3 si st → st 34 = 0 → st 32 = ii (q : Int) → p < q → q ≤ 100000 → 0 ≤ v → v ≤ 100000 → ∃ (w : Int32) (si' : Nat → Int32), f_Mo_number_74 (n + 6) (ii v) (ii (p : Int)) (ii lo) (ii hi) st sj sa sb = some (w, si', sj, sa, sb) ∧ sI3 si si' ∧ mEnd (rchk lo hi v p q) si' (fun a => w = ii a.1 ∧ si' 32 = ii (a.2 : Int)) := by
    intro st q v k1 k2 k3 k4 k5 k6 k7
    refine ⟨_, _, mn_74 k3 (by omega) k4 k2 k6 k7 l1 l2 g1 g2, ?_, ?_⟩
    · split
      · exact k1.tr sI3.bd
      · exact k1
    · unfold rchk
      by_cases c : v < lo ∨ hi < v
      · rw [if_pos c, if_pos c]
        exact ⟨rfl, rfl⟩
      · rw [if_neg c, if_neg c]
        exact ⟨k2, rfl, k3⟩
  unfold f_Mo_number f_Mo_number_0 rnum
  rw [hp]
  have e0 : f_Mo_number_8 (n + 6) (n + 6) 0 (ii (p : Int)) (ii lo) (ii hi) si sj sa sb = f_Mo_number_8 (n + 6) (n + 5 + 1) (ii 0) (ii (p : Int)) (ii lo) (ii hi) si sj sa sb := rfl
  rw [e0, mn_8 h hp (by omega) (by omega) (by omega) hb (by omega) (by omega)]
  by_cases c0 : dig (LL (sa 0) E p)
  · rw [if_pos c0, if_pos c0]
    have hM1 : MP (va_up si 32 (ii ((p + 1 : Nat) : Int))) sa E := h.sI sI3.at
    have hb1 : (va_up si 32 (ii ((p + 1 : Nat) : Int))) 34 = 0 := hb
    rw [show n + 5 = n + 4 + 1 from rfl, mn_8 hM1 (p := p + 1) rfl (by omega) (by omega) (by omega) hb1 (by omega) (by omega)]
    by_cases c1 : dig (LL (sa 0) E (p + 1))
    · rw [if_pos c1, if_pos c1]
      have hM2 : MP (va_up (va_up si 32 (ii ((p + 1 : Nat) : Int))) 32 (ii ((p + 1 + 1 : Nat) : Int))) sa E := hM1.sI sI3.at
      have hb2 : (va_up (va_up si 32 (ii ((p + 1 : Nat) : Int))) 32 (ii ((p + 1 + 1 : Nat) : Int))) 34 = 0 := hb
      rw [show n + 4 = n + 3 + 1 from rfl, mn_8 hM2 (p := p + 1 + 1) rfl (by omega) (by omega) (by omega) hb2 (by omega) (by omega)]
      by_cases c2 : dig (LL (sa 0) E (p + 2))
      · rw [if_pos c2, if_pos c2]
        have hM3 : MP (va_up (va_up (va_up si 32 (ii ((p + 1 : Nat) : Int))) 32 (ii ((p + 1 + 1 : Nat) : Int))) 32 (ii ((p + 1 + 1 + 1 : Nat) : Int))) sa E := hM2.sI sI3.at
        have hb3 : (va_up (va_up (va_up si 32 (ii ((p + 1 : Nat) : Int))) 32 (ii ((p + 1 + 1 : Nat) : Int))) 32 (ii ((p + 1 + 1 + 1 : Nat) : Int))) 34 = 0 := hb
        have hs3 : sI3 si (va_up (va_up (va_up si 32 (ii ((p + 1 : Nat) : Int))) 32 (ii ((p + 1 + 1 : Nat) : Int))) 32 (ii ((p + 1 + 1 + 1 : Nat) : Int))) := (sI3.at.tr sI3.at).tr sI3.at
        generalize hst : va_up (va_up (va_up si 32 (ii ((p + 1 : Nat) : Int))) 32 (ii ((p + 1 + 1 : Nat) : Int))) 32 (ii ((p + 1 + 1 + 1 : Nat) : Int)) = st at hM3 hb3 hs3 ⊢
        have ha3 : st 32 = ii ((p + 3 : Nat) : Int) := by rw [← hst]; rfl
        have hlk := mlook (nf := n + 6) (sj := sj) (sb := sb) hM3 ha3 (by omega)
        rw [show n + 3 = n + 2 + 1 from rfl, f_Mo_number_8, if_pos hb3, hlk, Option.bind_some, mdig (n + 6) r3.1 r3.2, Option.bind_some]
        by_cases c3 : dig (LL (sa 0) E (p + 3))
        · rw [if_pos c3, if_neg (by decide), if_pos c3, ha3, ii_sub, if_pos (by rw [ii_lit]; congr 1; omega), mcan hb3, Option.bind_some]
          dsimp only
          have nb : ¬ va_up (va_up st 34 1) 35 (ii ((p + 3 : Nat) : Int)) 34 = 0 := by
            show ¬ (1 : Int32) = 0
            decide
          rw [show n + 2 = n + 1 + 1 from rfl, f_Mo_number_8, if_neg nb]
          unfold f_Mo_number_74 f_Mo_number_106
          rw [if_neg nb]
          exact ⟨_, _, rfl, hs3.tr sI3.bd, rfl, rfl⟩
        · rw [if_neg c3, if_pos rfl, if_neg c3]
          have := fin st (p + 3) (10 * (10 * (10 * 0 + LL (sa 0) E p - 48) + LL (sa 0) E (p + 1) - 48) + LL (sa 0) E (p + 1 + 1) - 48) hs3 hb3 ha3 (by omega) (by omega) (by rw [show p + 1 + 1 = p + 2 from rfl]; omega) (by rw [show p + 1 + 1 = p + 2 from rfl]; omega)
          rw [show 10 * (10 * (LL (sa 0) E p - 48) + LL (sa 0) E (p + 1) - 48) + LL (sa 0) E (p + 2) - 48 = 10 * (10 * (10 * 0 + LL (sa 0) E p - 48) + LL (sa 0) E (p + 1) - 48) + LL (sa 0) E (p + 1 + 1) - 48 by rw [show p + 1 + 1 = p + 2 from rfl]; omega]
          exact this
      · rw [if_neg c2, if_neg c2]
        have := fin _ (p + 1 + 1) (10 * (10 * 0 + LL (sa 0) E p - 48) + LL (sa 0) E (p + 1) - 48) (sI3.at.tr sI3.at) hb2 rfl (by omega) (by omega) (by omega) (by omega)
        rw [show 10 * (LL (sa 0) E p - 48) + LL (sa 0) E (p + 1) - 48 = 10 * (10 * 0 + LL (sa 0) E p - 48) + LL (sa 0) E (p + 1) - 48 by omega]
        exact this
    · rw [if_neg c1, if_neg c1]
      have := fin _ (p + 1) (10 * 0 + LL (sa 0) E p - 48) sI3.at hb1 rfl (by omega) (by omega) (by omega) (by omega)
      rw [show LL (sa 0) E p - 48 = 10 * 0 + LL (sa 0) E p - 48 by omega]
      exact this
  · rw [if_neg c0, if_neg c0]
    unfold f_Mo_number_74 f_Mo_number_101 f_Mo_number_106
    rw [if_pos hb, hp, if_pos rfl, mcan hb, Option.bind_some]
    exact ⟨_, _, rfl, sI3.bd, rfl, rfl⟩
end
section
variable {nf : Nat} {si si' : Nat → Int32} {sj : Nat → Int64} {sa sa' : Nat → Nat → Int32} {sb : Nat → Nat → Int64} {E : Nat}
theorem moffB (hnf : 1 ≤ nf) (hb : si 34 = 1) {x1 x2 : Int32} : ∃ v : Int32, f_Mo_offsetText nf x1 x2 si sj sa sb = some (v, si, sj, sa, sb) := by
  unfold f_Mo_offsetText f_Mo_offsetText_0 f_Mo_offsetText_56 f_Mo_offsetText_147
  rw [hb, if_neg (by decide), mnumB hnf hb, Option.bind_some]
  dsimp only
  rw [hb, if_neg (by decide)]
  exact ⟨_, rfl⟩
theorem moff (h : MP si sa E) (hnf : 6 ≤ nf) {p : Nat} (hp : si 32 = ii (p : Int)) (h1 : p ≤ 80000) (hb : si 34 = 0) (sg : Bool) {most : Int} (o1 : 0 ≤ most) (o2 : most ≤ 200) :
    ∃ (v : Int32) (si' : Nat → Int32), f_Mo_offsetText nf (bI sg) (ii most) si sj sa sb = some (v, si', sj, sa, sb) ∧ sI3 si si' ∧ mEnd (ramt (LL (sa 0) E) sg most p) si' (fun a => v = ii a.1 ∧ si' 32 = ii (a.2.2 : Int)) := by
  have hr := h.range p
  have key : ∃ (sv : Int) (st : Nat → Int32) (p1 : Nat), f_Mo_offsetText nf (bI sg) (ii most) si sj sa sb = f_Mo_offsetText_56 nf (ii sv) (ii most) st sj sa sb ∧ sI3 si st ∧ st 32 = ii (p1 : Int) ∧ st 34 = 0 ∧ p1 = (if sgn (LL (sa 0) E) sg p then p + 1 else p) ∧ sv = (if sg = true ∧ LL (sa 0) E p = 45 then -1 else 1) := by
    unfold f_Mo_offsetText f_Mo_offsetText_0 f_Mo_offsetText_31 f_Mo_offsetText_45 sgn
    rw [if_pos hb]
    cases sg
    · rw [if_pos (by decide)]
      exact ⟨1, si, p, rfl, sI3.rf, hp, hb, rfl, rfl⟩
    · rw [if_neg (by decide), mlook h hp (by omega), Option.bind_some, Option.bind_some, Option.bind_some, hp]
      by_cases c3 : LL (sa 0) E p = 43
      · rw [if_pos (by rw [c3]; rfl), if_neg (by rw [c3]; decide), ii_lit, ii_add]
        refine ⟨1, _, p + 1, rfl, sI3.at, rfl, hb, ?_, ?_⟩
        · rw [decide_eq_true c3]; rfl
        · rw [if_neg (by omega)]
      · rw [if_neg (fun z => c3 (by rw [ii_lit, ii_eq2 (by omega) (by omega) (by omega) (by omega)] at z; exact z)), decide_eq_false c3]
        by_cases c4 : LL (sa 0) E p = 45
        · rw [if_pos (by rw [c4]; rfl), if_pos (by rw [c4]; rfl), ii_lit, ii_add, decide_eq_true c4]
          exact ⟨-1, _, p + 1, rfl, sI3.at, rfl, hb, rfl, by rw [if_pos ⟨rfl, c4⟩]⟩
        · rw [if_neg (fun z => c4 (by rw [ii_lit, ii_eq2 (by omega) (by omega) (by omega) (by omega)] at z; exact z)), decide_eq_false c4]
          exact ⟨1, si, p, rfl, sI3.rf, hp, hb, rfl, by rw [if_neg (fun z => c4 z.2)]⟩
  obtain ⟨sv, st, p1, e0, s0, a0, b0, ep, ev⟩ := key
  have hp1 : p1 ≤ 80001 := by rw [ep]; split <;> omega
  have eif : ∀ x : Int, (if sg = true ∧ LL (sa 0) E p = 45 then -x else x) = sv * x := by
    intro x
    rw [ev]
    split <;> omega
  generalize hF : f_Mo_offsetText nf (bI sg) (ii most) si sj sa sb = F
  rw [e0] at hF
  unfold f_Mo_offsetText_56 f_Mo_offsetText_147 at hF
  unfold ramt rfin
  simp only [eif]
  rw [← ep]
  clear e0
  obtain ⟨v1, s1, e1, g1, m1⟩ := mnum (nf := nf) (sj := sj) (sb := sb) (h.sI s0) hnf a0 (by omega) b0 (lo := 0) (hi := most) (by omega) (by omega) (by omega) (by omega)
  have e1' : f_Mo_number nf 0 (ii most) st sj sa sb = some (v1, s1, sj, sa, sb) := e1
  rw [e1', Option.bind_some] at hF
  dsimp only at hF
  cases r1 : rnum (LL (sa 0) E) 0 most p1 with
  | error x =>
    rw [r1] at m1
    rw [if_neg (by rw [m1.1]; decide)] at hF
    exact ⟨_, _, hF.symm, s0.tr g1, m1⟩
  | ok q1 =>
    obtain ⟨hh, p2⟩ := q1
    rw [r1] at m1
    obtain ⟨b1, rfl, a1⟩ := m1
    dsimp only at a1 ⊢
    have k1 := rnum_ok r1
    have hM1 := (h.sI s0).sI g1
    have hr2 := hM1.range p2
    rw [if_pos b1, mlook hM1 a1 (by omega), Option.bind_some, a1] at hF
    by_cases c1 : LL (sa 0) E p2 = 58
    · rw [if_pos c1]
      obtain ⟨v2, s2, e2, g2, m2⟩ := mnum (nf := nf) (sj := sj) (sb := sb) (hM1.sI (sI3.at (x := ii ((p2 + 1 : Nat) : Int)))) hnf (p := p2 + 1) rfl (by omega) b1 (lo := 0) (hi := 59) (by omega) (by omega) (by omega) (by omega)
      have e2' : f_Mo_number nf 0 59 (va_up s1 32 (ii (p2 : Int) + 1)) sj sa sb = some (v2, s2, sj, sa, sb) := by
        rw [← e2, show ii (p2 : Int) + 1 = ii ((p2 + 1 : Nat) : Int) by rw [ii_lit, ii_add]; rfl]
        rfl
      rw [if_pos (by rw [c1]; rfl), e2', Option.bind_some] at hF
      dsimp only at hF
      cases r2 : rnum (LL (sa 0) E) 0 59 (p2 + 1) with
      | error x =>
        rw [r2] at m2
        rw [if_neg (by rw [m2.1]; decide)] at hF
        exact ⟨_, _, hF.symm, ((s0.tr g1).tr sI3.at).tr g2, m2⟩
      | ok q2 =>
        obtain ⟨mm, p3⟩ := q2
        rw [r2] at m2
        obtain ⟨b2, rfl, a2⟩ := m2
        dsimp only at a2 ⊢
        have k2 := rnum_ok r2
        have hM2 := (hM1.sI (sI3.at (x := ii ((p2 + 1 : Nat) : Int)))).sI g2
        have hr3 := hM2.range p3
        rw [if_pos b2, mlook hM2 a2 (by omega), Option.bind_some, a2] at hF
        by_cases c2 : LL (sa 0) E p3 = 58
        · rw [if_pos c2]
          obtain ⟨v3, s3, e3, g3, m3⟩ := mnum (nf := nf) (sj := sj) (sb := sb) (hM2.sI (sI3.at (x := ii ((p3 + 1 : Nat) : Int)))) hnf (p := p3 + 1) rfl (by omega) b2 (lo := 0) (hi := 59) (by omega) (by omega) (by omega) (by omega)
          have e3' : f_Mo_number nf 0 59 (va_up s2 32 (ii (p3 : Int) + 1)) sj sa sb = some (v3, s3, sj, sa, sb) := by
            rw [← e3, show ii (p3 : Int) + 1 = ii ((p3 + 1 : Nat) : Int) by rw [ii_lit, ii_add]; rfl]
            rfl
          rw [if_pos (by rw [c2]; rfl), e3', Option.bind_some] at hF
          dsimp only at hF
          have g := ((((s0.tr g1).tr sI3.at).tr g2).tr sI3.at).tr g3
          cases r3 : rnum (LL (sa 0) E) 0 59 (p3 + 1) with
          | error x =>
            rw [r3] at m3
            exact ⟨_, _, hF.symm, g, m3⟩
          | ok q3 =>
            obtain ⟨cc, p4⟩ := q3
            rw [r3] at m3
            obtain ⟨b3, rfl, a3⟩ := m3
            refine ⟨_, _, hF.symm, g, b3, ?_, a3⟩
            simp only [ii_lit, ii_mul, ii_add]
        · rw [if_neg c2]
          rw [if_neg (fun z => c2 (by rw [ii_lit, ii_eq2 (by omega) (by omega) (by omega) (by omega)] at z; exact z))] at hF
          refine ⟨_, _, hF.symm, ((s0.tr g1).tr sI3.at).tr g2, b2, ?_, a2⟩
          simp only [ii_lit, ii_mul, ii_add, Int.add_zero]
    · rw [if_neg c1]
      rw [if_neg (fun z => c1 (by rw [ii_lit, ii_eq2 (by omega) (by omega) (by omega) (by omega)] at z; exact z))] at hF
      refine ⟨_, _, hF.symm, s0.tr g1, b1, ?_, a1⟩
      simp only [ii_lit, ii_mul, ii_add, Int.mul_zero, Int.add_zero]
end
