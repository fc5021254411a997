/-! ===== the class reads a rule text ===== -/
theorem b01 {x : Int32} {α : Type} {a : α} (h : x = 0 ∨ x = 1) : (if x = 0 ∨ x = 1 then some a else none) = some a := if_pos h
theorem LL_range {T : Nat → Int32} {E k : Nat} (h : ∀ k, k < E → ∃ b : Nat, b < 256 ∧ T k = ii (b : Int)) : -1 ≤ LL T E k ∧ LL T E k ≤ 255 := by
  unfold LL
  by_cases c : k < E
  · obtain ⟨b, hb, e⟩ := h k c
    rw [if_pos c, e, ii_toInt (by omega) (by omega)]
    omega
  · rw [if_neg c]
    omega
theorem cdig (nf : Nat) {v : Int} (h1 : -1 ≤ v) (h2 : v ≤ 255) : f_ZF_isDigit nf (ii v) = some (if dig v then 1 else 0) := by
  unfold f_ZF_isDigit f_ZF_isDigit_0 f_ZF_isDigit_16 f_ZF_isDigit_17
  simp only [ii_lit]
  by_cases c1 : v < 48
  · rw [if_pos ((ii_lt (by omega) (by omega) (by omega) (by omega)).mpr c1), if_neg (show ¬ dig v by omega)]; rfl
  · rw [if_neg (fun z => c1 ((ii_lt (by omega) (by omega) (by omega) (by omega)).mp z))]
    by_cases c2 : 57 < v
    · rw [if_pos ((ii_lt (by omega) (by omega) (by omega) (by omega)).mpr c2), if_neg (show ¬ dig v by omega)]; rfl
    · rw [if_neg (fun z => c2 ((ii_lt (by omega) (by omega) (by omega) (by omega)).mp z)), if_pos (show dig v by omega)]; rfl
theorem cl12 (nf : Nat) {v : Int} (h1 : -1 ≤ v) (h2 : v ≤ 255) : f_ZF_isLetter_12 nf (ii v) = some (if 97 ≤ v ∧ v ≤ 122 then 1 else 0) := by
  unfold f_ZF_isLetter_12
  by_cases c1 : v < 97
  · rw [if_pos (by rw [ii_lit, ii_lt (by omega) (by omega) (by omega) (by omega)]; exact c1), if_neg (show ¬ (97 ≤ v ∧ v ≤ 122) by omega)]; rfl
  · rw [if_neg (by rw [ii_lit, ii_lt (by omega) (by omega) (by omega) (by omega)]; exact c1)]
    by_cases c2 : 122 < v
    · rw [if_pos (by rw [ii_lit, ii_lt (by omega) (by omega) (by omega) (by omega)]; exact c2), if_neg (show ¬ (97 ≤ v ∧ v ≤ 122) by omega)]; rfl
    · rw [if_neg (by rw [ii_lit, ii_lt (by omega) (by omega) (by omega) (by omega)]; exact c2), if_pos (show (97 ≤ v ∧ v ≤ 122) by omega)]; rfl
theorem cltr (nf : Nat) {v : Int} (h1 : -1 ≤ v) (h2 : v ≤ 255) : f_ZF_isLetter nf (ii v) = some (if ltr v then 1 else 0) := by
  unfold f_ZF_isLetter f_ZF_isLetter_0
  rw [cl12 nf h1 h2]
  by_cases c1 : v < 65
  · rw [if_pos (by rw [ii_lit, ii_lt (by omega) (by omega) (by omega) (by omega)]; exact c1), if_neg (show ¬ (97 ≤ v ∧ v ≤ 122) by omega), if_neg (show ¬ ltr v by omega)]
  · rw [if_neg (by rw [ii_lit, ii_lt (by omega) (by omega) (by omega) (by omega)]; exact c1)]
    by_cases c2 : v ≤ 90
    · rw [if_pos (by rw [ii_lit, ii_le (by omega) (by omega) (by omega) (by omega)]; exact c2), if_pos (show ltr v by omega)]; rfl
    · rw [if_neg (by rw [ii_lit, ii_le (by omega) (by omega) (by omega) (by omega)]; exact c2)]
      by_cases c : 97 ≤ v ∧ v ≤ 122
      · rw [if_pos c, if_pos (show ltr v by omega)]
      · rw [if_neg c, if_neg (show ¬ ltr v by omega)]
theorem cnmb (nf : Nat) {v : Int} (h1 : -1 ≤ v) (h2 : v ≤ 255) : f_ZF_isNameByte nf (ii v) = some (if nmb v then 1 else 0) := by
  unfold f_ZF_isNameByte f_ZF_isNameByte_0 f_ZF_isNameByte_26 f_ZF_isNameByte_31
  rw [cltr nf h1 h2, Option.bind_some, cdig nf h1 h2, Option.bind_some]
  by_cases c1 : ltr v
  · rw [if_pos c1, if_neg (by decide), if_pos (show nmb v by omega)]; rfl
  · rw [if_neg c1, if_pos rfl]
    by_cases c2 : dig v
    · rw [if_pos c2, if_neg (by decide), if_pos (show nmb v by omega)]; rfl
    · rw [if_neg c2, if_pos rfl]
      by_cases c3 : v = 43
      · rw [if_pos (by rw [c3]; rfl), if_pos (show nmb v by omega)]; rfl
      · rw [if_neg (fun z => c3 (by rw [ii_lit, ii_eq (by omega) (by omega) (by omega) (by omega)] at z; exact z))]
        by_cases c4 : v = 45
        · rw [if_pos (by rw [c4]; rfl), if_pos (show nmb v by omega)]; rfl
        · rw [if_neg (fun z => c4 (by rw [ii_lit, ii_eq (by omega) (by omega) (by omega) (by omega)] at z; exact z)), if_neg (show ¬ nmb v by omega)]; rfl
/-- the tape as a parser sees it: E is the end of its part -/
def PT (s : Int32) (N : Nat) (A T : Nat → Int32) (E : Nat) : Prop := ∃ n : Nat, RB s N A n T ∧ E ≤ n ∧ n ≤ 20000
theorem PT.range {s : Int32} {N : Nat} {A T : Nat → Int32} {E : Nat} (h : PT s N A T E) (k : Nat) : -1 ≤ LL T E k ∧ LL T E k ≤ 255 := by
  obtain ⟨n, h, h1, _⟩ := h
  exact LL_range (fun k hk => h.byte (by omega))
theorem PT.peek {nf : Nat} {s : Int32} {N : Nat} {A T : Nat → Int32} {E : Nat} (h : PT s N A T E) {p : Nat} (hp : p ≤ 30000) : f_RP_peek nf (ii (p : Int)) (ii (E : Int)) s N A = some (ii (LL T E p)) := by
  obtain ⟨n, h, h1, h2⟩ := h
  unfold f_RP_peek f_RP_peek_0 f_RP_peek_26 LL
  by_cases c : p < E
  · obtain ⟨b, hb, e⟩ := h.byte (k := p) (by omega)
    rw [if_neg (by rw [ii_le (by omega) (by omega) (by omega) (by omega)]; omega), h.get (by omega), Option.bind_some, if_pos c, e, ii_toInt (by omega) (by omega)]
  · rw [if_pos ((ii_le (by omega) (by omega) (by omega) (by omega)).mpr (by omega)), if_neg c]; rfl
theorem ii_eq2 {a b : Int} (h1 : -1000 ≤ a) (h2 : a ≤ 1000) (h3 : -1000 ≤ b) (h4 : b ≤ 1000) : (ii a = ii b) ↔ a = b := ii_eq (by omega) (by omega) (by omega) (by omega)
theorem PT.pass {nf : Nat} {s : Int32} {N : Nat} {A T : Nat → Int32} {E : Nat} (h : PT s N A T E) {p : Nat} (hp : p ≤ 30000) {x : Int} (x1 : 0 ≤ x) (x2 : x ≤ 255) : f_RP_pass nf (ii x) (ii (p : Int)) (ii (E : Int)) s N A = some (if LL T E p = x then (1, ii ((p + 1 : Nat) : Int)) else (0, ii (p : Int))) := by
  have hr := h.range p
  unfold f_RP_pass f_RP_pass_0
  rw [h.peek hp, Option.bind_some]
  by_cases c : LL T E p = x
  · rw [if_pos c, if_pos (by rw [c]), ii_lit, ii_add]
    rfl
  · rw [if_neg c, if_neg (fun z => c ((ii_eq2 (by omega) (by omega) (by omega) (by omega)).mp z))]
section
variable {nf : Nat} {s : Int32} {N : Nat} {A T : Nat → Int32} {E : Nat}
theorem rn_58 (h : PT s N A T E) {p0 p : Nat} (hp : p ≤ 30000) (h0 : p0 < p) {v lo hi : Int} (v1 : 0 ≤ v) (v2 : v ≤ 100000) (l1 : 0 ≤ lo) (l2 : lo ≤ 1000) (g1 : 0 ≤ hi) (g2 : hi ≤ 1000) : f_RP_readNumber_58 nf (ii (E : Int)) s N A (ii v) (ii (p0 : Int)) (ii lo) (ii hi) (ii (p : Int)) = some (if dig (LL T E p) then (-1, ii (p : Int)) else if v < lo ∨ hi < v then (-1, ii (p0 : Int)) else (ii v, ii (p : Int))) := by
  have hr := h.range p
  unfold f_RP_readNumber_58 f_RP_readNumber_76 f_RP_readNumber_90
  rw [if_neg (by rw [ii_eq (by omega) (by omega) (by omega) (by omega)]; omega), h.peek hp, Option.bind_some, cdig nf hr.1 hr.2, Option.bind_some]
  by_cases c : dig (LL T E p)
  · rw [if_pos c, if_neg (by decide), if_pos c]
  · rw [if_neg c, if_pos rfl, if_neg c]
    by_cases c1 : v < lo
    · rw [if_pos ((ii_lt (by omega) (by omega) (by omega) (by omega)).mpr c1), if_pos (Or.inl c1)]
    · rw [if_neg (fun z => c1 ((ii_lt (by omega) (by omega) (by omega) (by omega)).mp z))]
      by_cases c2 : hi < v
      · rw [if_neg (by rw [ii_le (by omega) (by omega) (by omega) (by omega)]; omega), if_pos (Or.inr c2)]
      · rw [if_pos ((ii_le (by omega) (by omega) (by omega) (by omega)).mpr (by omega)), if_neg (by omega)]
theorem rn_11 (h : PT s N A T E) {p0 p k n : Nat} (hp : p ≤ 30000) (hk : k < 3) {v lo hi : Int} (v1 : 0 ≤ v) (v2 : v ≤ 1000) : f_RP_readNumber_11 nf (ii (E : Int)) s N A (n + 1) (ii (k : Int)) (ii v) (ii (p0 : Int)) (ii lo) (ii hi) (ii (p : Int)) =
    if dig (LL T E p) then f_RP_readNumber_11 nf (ii (E : Int)) s N A n (ii ((k + 1 : Nat) : Int)) (ii (10 * v + LL T E p - 48)) (ii (p0 : Int)) (ii lo) (ii hi) (ii ((p + 1 : Nat) : Int)) else f_RP_readNumber_58 nf (ii (E : Int)) s N A (ii v) (ii (p0 : Int)) (ii lo) (ii hi) (ii (p : Int)) := by
  have hr := h.range p
  rw [f_RP_readNumber_11, ii_lit, if_neg (by rw [ii_le (by omega) (by omega) (by omega) (by omega)]; omega), h.peek hp, Option.bind_some, cdig nf hr.1 hr.2, Option.bind_some, Option.bind_some]
  by_cases c : dig (LL T E p)
  · rw [if_pos c, if_neg (by decide), if_pos c]
    simp only [ii_lit, ii_add, ii_mul, ii_sub]
    congr 2
  · rw [if_neg c, if_pos rfl, if_neg c]
theorem rn_11e {p0 p n : Nat} {v lo hi : Int} : f_RP_readNumber_11 nf (ii (E : Int)) s N A (n + 1) (ii ((3 : Nat) : Int)) (ii v) (ii (p0 : Int)) (ii lo) (ii hi) (ii (p : Int)) = f_RP_readNumber_58 nf (ii (E : Int)) s N A (ii v) (ii (p0 : Int)) (ii lo) (ii hi) (ii (p : Int)) := by
  rw [f_RP_readNumber_11, if_pos (by decide)]
/-- what a reader of numbers answers -/
def rnR (q : Except Nat (Int × Nat)) : Int32 × Int32 := match q with
  | .error x => (-1, ii (x : Int))
  | .ok (v, p) => (ii v, ii (p : Int))
theorem rn_ok (h : PT s N A T E) (hnf : 4 ≤ nf) {p : Nat} (hp : p ≤ 20000) {lo hi : Int} (l1 : 0 ≤ lo) (l2 : lo ≤ 1000) (g1 : 0 ≤ hi) (g2 : hi ≤ 1000) : f_RP_readNumber nf (ii lo) (ii hi) (ii (p : Int)) (ii (E : Int)) s N A = some (rnR (rnum (LL T E) lo hi p)) := by
  obtain ⟨n, rfl⟩ : ∃ n, nf = n + 4 := ⟨nf - 4, by omega⟩
  have r0 := h.range p
  have r1 := h.range (p + 1)
  have r2 := h.range (p + 2)
  unfold f_RP_readNumber f_RP_readNumber_0 rnum rchk
  have e0 : f_RP_readNumber_11 (n + 4) (ii (E : Int)) s N A (n + 4) 0 0 (ii (p : Int)) (ii lo) (ii hi) (ii (p : Int)) = f_RP_readNumber_11 (n + 4) (ii (E : Int)) s N A (n + 3 + 1) (ii ((0 : Nat) : Int)) (ii 0) (ii (p : Int)) (ii lo) (ii hi) (ii (p : Int)) := rfl
  rw [e0, rn_11 h (by omega) (by omega) (by omega) (by omega)]
  by_cases c0 : dig (LL T E p)
  · rw [if_pos c0, if_pos c0, show n + 3 = n + 2 + 1 from rfl, rn_11 h (by omega) (by omega) (by omega) (by omega)]
    by_cases c1 : dig (LL T E (p + 1))
    · rw [if_pos c1, if_pos c1, show n + 2 = n + 1 + 1 from rfl, rn_11 h (by omega) (by omega) (by omega) (by omega)]
      by_cases c2 : dig (LL T E (p + 2))
      · have r2b : -1 ≤ LL T E (p + 1 + 1) ∧ LL T E (p + 1 + 1) ≤ 255 := r2
        have c2b : dig (LL T E (p + 1 + 1)) := c2
        rw [if_pos c2, if_pos c2, rn_11e, rn_58 h (by omega) (by omega) (by omega) (by omega) l1 l2 g1 g2]
        by_cases c3 : dig (LL T E (p + 3))
        · rw [if_pos c3, if_pos c3]
          rfl
        · rw [if_neg c3, if_neg c3]
          rw [show 10 * (10 * (10 * 0 + LL T E p - 48) + LL T E (p + 1) - 48) + LL T E (p + 1 + 1) - 48 = 10 * (10 * (LL T E p - 48) + LL T E (p + 1) - 48) + LL T E (p + 2) - 48 by rw [show p + 1 + 1 = p + 2 from rfl]; omega]
          split <;> rfl
      · rw [if_neg c2, if_neg c2, rn_58 h (by omega) (by omega) (by omega) (by omega) l1 l2 g1 g2, if_neg c2]
        rw [show 10 * (10 * 0 + LL T E p - 48) + LL T E (p + 1) - 48 = 10 * (LL T E p - 48) + LL T E (p + 1) - 48 by omega]
        split <;> rfl
    · rw [if_neg c1, if_neg c1, rn_58 h (by omega) (by omega) (by omega) (by omega) l1 l2 g1 g2, if_neg c1]
      rw [show 10 * 0 + LL T E p - 48 = LL T E p - 48 by omega]
      split <;> rfl
  · rw [if_neg c0, if_neg c0]
    unfold f_RP_readNumber_58 f_RP_readNumber_76
    rw [if_pos rfl]
    rfl
theorem rnum_ok {L : Nat → Int} {lo hi v : Int} {p q : Nat} (h : rnum L lo hi p = .ok (v, q)) : lo ≤ v ∧ v ≤ hi ∧ p < q ∧ q ≤ p + 3 ∧ dig (L p) ∧ ∀ k, p ≤ k → k < q → dig (L k) := by
  unfold rnum rchk at h
  split at h
  · split at h
    · split at h
      · split at h
        · cases h
        · split at h
          · cases h
          · cases h
            refine ⟨by omega, by omega, by omega, by omega, by assumption, fun k k1 k2 => ?_⟩
            rcases (show k = p ∨ k = p + 1 ∨ k = p + 2 by omega) with rfl | rfl | rfl <;> assumption
      · split at h
        · cases h
        · cases h
          refine ⟨by omega, by omega, by omega, by omega, by assumption, fun k k1 k2 => ?_⟩
          rcases (show k = p ∨ k = p + 1 by omega) with rfl | rfl <;> assumption
    · split at h
      · cases h
      · cases h
        refine ⟨by omega, by omega, by omega, by omega, by assumption, fun k k1 k2 => ?_⟩
        rcases (show k = p by omega) with rfl
        assumption
  · cases h
/-- a number ends where its part ends, at the latest -/
theorem LL_lt {T : Nat → Int32} {E k : Nat} (h : 0 ≤ LL T E k) : k < E := by
  unfold LL at h
  split at h
  · assumption
  · omega
theorem rnum_le {lo hi v : Int} {p q : Nat} (h : rnum (LL T E) lo hi p = .ok (v, q)) : q ≤ E := by
  obtain ⟨_, _, h3, _, _, h6⟩ := rnum_ok h
  have := h6 (q - 1) (by omega) (by omega)
  have := LL_lt (T := T) (E := E) (k := q - 1) (by omega)
  omega
end
/-! names -/
theorem cntq_le (q : Bool) (L : Nat → Int) : ∀ n p, cntq q L n p ≤ n := by
  intro n
  induction n with
  | zero => intro p; exact Nat.le_refl _
  | succ n ih =>
    intro p
    have := ih (p + 1)
    unfold cntq
    by_cases c : (if q then nmb (L p) else ltr (L p))
    · rw [if_pos c]; omega
    · rw [if_neg c]; omega
theorem cntq_stop (q : Bool) (L : Nat → Int) : ∀ n p, cntq q L n p < n → ¬ (if q then nmb (L (p + cntq q L n p)) else ltr (L (p + cntq q L n p))) := by
  intro n
  induction n with
  | zero => intro p h; omega
  | succ n ih =>
    intro p h
    unfold cntq at h ⊢
    by_cases c : (if q then nmb (L p) else ltr (L p))
    · rw [if_pos c] at h ⊢
      have := ih (p + 1) (by omega)
      rw [show p + 1 + cntq q L n (p + 1) = p + (cntq q L n (p + 1) + 1) by omega] at this
      exact this
    · rw [if_neg c]
      exact c
theorem cntq_all (q : Bool) (L : Nat → Int) : ∀ n p k, k < cntq q L n p → (if q then nmb (L (p + k)) else ltr (L (p + k))) := by
  intro n
  induction n with
  | zero => intro p k h; exact absurd h (Nat.not_lt_zero _)
  | succ n ih =>
    intro p k h
    unfold cntq at h
    by_cases c : (if q then nmb (L p) else ltr (L p))
    · rw [if_pos c] at h
      by_cases k0 : k = 0
      · rw [k0]; exact c
      · have := ih (p + 1) (k - 1) (by omega)
        rw [show p + 1 + (k - 1) = p + k by omega] at this
        exact this
    · rw [if_neg c] at h
      exact absurd h (Nat.not_lt_zero _)
theorem cntq_succ (q : Bool) (L : Nat → Int) : ∀ n p, cntq q L (n + 1) p = if cntq q L n p = n ∧ (if q then nmb (L (p + n)) else ltr (L (p + n))) then n + 1 else cntq q L n p := by
  intro n
  induction n with
  | zero =>
    intro p
    unfold cntq
    by_cases c : (if q then nmb (L p) else ltr (L p))
    · rw [if_pos c, if_pos ⟨rfl, c⟩]; rfl
    · rw [if_neg c, if_neg (fun z => c z.2)]
  | succ n ih =>
    intro p
    rw [show cntq q L (n + 1 + 1) p = if (if q then nmb (L p) else ltr (L p)) then cntq q L (n + 1) (p + 1) + 1 else 0 from rfl, show cntq q L (n + 1) p = if (if q then nmb (L p) else ltr (L p)) then cntq q L n (p + 1) + 1 else 0 from rfl]
    by_cases c : (if q then nmb (L p) else ltr (L p))
    · rw [if_pos c, if_pos c, ih (p + 1), show p + 1 + n = p + (n + 1) by omega]
      by_cases d : cntq q L n (p + 1) = n ∧ (if q then nmb (L (p + (n + 1))) else ltr (L (p + (n + 1))))
      · rw [if_pos d, if_pos ⟨by omega, d.2⟩]
      · rw [if_neg d, if_neg (fun z => d ⟨by omega, z.2⟩)]
    · rw [if_neg c, if_neg c, if_neg (fun z => by omega)]
section
variable {nf : Nat} {s : Int32} {N : Nat} {A T : Nat → Int32} {E : Nat}
def bI (q : Bool) : Int32 := if q then 1 else 0
theorem nm_17 (h : PT s N A T E) (q : Bool) {p : Nat} (hp : p ≤ 20000) {ns : Int32} : ∀ (j k fu : Nat), k + j = 10 → j < fu → f_RP_readName_17 nf (ii (E : Int)) s N A fu (ii (k : Int)) (bI q) (ii ((p + k : Nat) : Int)) (ii (p : Int)) ns = f_RP_readName_66 nf (ii (E : Int)) s N A (bI q) (ii ((p + k + cntq q (LL T E) j (p + k) : Nat) : Int)) (ii (p : Int)) ns := by
  intro j
  induction j with
  | zero =>
    intro k fu hk hf
    obtain ⟨n, rfl⟩ : ∃ n, fu = n + 1 := ⟨fu - 1, by omega⟩
    obtain rfl : k = 10 := by omega
    rw [f_RP_readName_17, if_pos (by decide)]
    rfl
  | succ j ih =>
    intro k fu hk hf
    obtain ⟨n, rfl⟩ : ∃ n, fu = n + 1 := ⟨fu - 1, by omega⟩
    have hr := h.range (p + k)
    rw [f_RP_readName_17, ii_lit, if_neg (by rw [ii_le (by omega) (by omega) (by omega) (by omega)]; omega), h.peek (by omega), Option.bind_some, cltr nf hr.1 hr.2, Option.bind_some, Option.bind_some, cnmb nf hr.1 hr.2, Option.bind_some]
    have nx : f_RP_readName_50 nf (f_RP_readName_17 nf (ii (E : Int)) s N A n) (ii (k : Int)) (bI q) (ii ((p + k : Nat) : Int)) (ii (p : Int)) ns = f_RP_readName_66 nf (ii (E : Int)) s N A (bI q) (ii ((p + k + (cntq q (LL T E) j (p + k + 1) + 1) : Nat) : Int)) (ii (p : Int)) ns := by
      unfold f_RP_readName_50
      rw [ii_lit, ii_add, ii_add]
      have := ih (k + 1) n (by omega) (by omega)
      rw [show p + (k + 1) = p + k + 1 by omega, show p + k + 1 + cntq q (LL T E) j (p + k + 1) = p + k + (cntq q (LL T E) j (p + k + 1) + 1) by omega] at this
      exact this
    cases q
    · rw [show bI false = 0 from rfl] at nx ⊢
      rw [if_pos rfl]
      by_cases c : ltr (LL T E (p + k))
      · rw [if_pos c, if_neg (by decide), nx, show cntq false (LL T E) (j + 1) (p + k) = cntq false (LL T E) j (p + k + 1) + 1 from if_pos c]
      · rw [if_neg c, if_pos rfl, show cntq false (LL T E) (j + 1) (p + k) = 0 from if_neg c]
        rfl
    · rw [show bI true = 1 from rfl] at nx ⊢
      rw [if_neg (by decide)]
      by_cases c : nmb (LL T E (p + k))
      · rw [if_pos c, if_neg (by decide), nx, show cntq true (LL T E) (j + 1) (p + k) = cntq true (LL T E) j (p + k + 1) + 1 from if_pos c]
      · rw [if_neg c, if_pos rfl, show cntq true (LL T E) (j + 1) (p + k) = 0 from if_neg c]
        rfl
theorem rname_c (h : PT s N A T E) (hnf : 11 ≤ nf) {p : Nat} (hp : p ≤ 10000) {np ns : Int32} : match rname (LL T E) p with
    | .error x => ∃ a b : Int32, f_RP_readName nf (ii (p : Int)) (ii (E : Int)) np ns s N A = some (0, ii (x : Int), a, b)
    | .ok (pl, sz, q) => f_RP_readName nf (ii (p : Int)) (ii (E : Int)) np ns s N A = some (1, ii (q : Int), ii (pl : Int), ii (sz : Int)) := by
  have hps := h.pass (nf := nf) (p := p) (by omega) (show (0 : Int) ≤ 60 by omega) (by omega)
  by_cases c : LL T E p = 60
  · have h17 := nm_17 (nf := nf) h true (p := p + 1) (by omega) (ns := ns) 10 0 nf (by omega) (by omega)
    have F66 : f_RP_readName nf (ii (p : Int)) (ii (E : Int)) np ns s N A = f_RP_readName_66 nf (ii (E : Int)) s N A 1 (ii ((p + 1 + cntq true (LL T E) 10 (p + 1) : Nat) : Int)) (ii ((p + 1 : Nat) : Int)) ns := by
      unfold f_RP_readName f_RP_readName_0
      rw [show (60 : Int32) = ii 60 from rfl, hps, Option.bind_some, if_pos c]
      exact h17
    have hs : cntq true (LL T E) 11 (p + 1) = if cntq true (LL T E) 10 (p + 1) = 10 ∧ nmb (LL T E (p + 1 + 10)) then 11 else cntq true (LL T E) 10 (p + 1) := by
      have := cntq_succ true (LL T E) 10 (p + 1)
      simpa using this
    have hle := cntq_le true (LL T E) 10 (p + 1)
    have hsp : rname (LL T E) p = if cntq true (LL T E) 11 (p + 1) < 3 then .error (p + 1 + cntq true (LL T E) 11 (p + 1)) else if cntq true (LL T E) 11 (p + 1) = 11 then .error (p + 1 + 10) else if LL T E (p + 1 + cntq true (LL T E) 11 (p + 1)) = 62 then .ok (p + 1, cntq true (LL T E) 11 (p + 1), p + 1 + cntq true (LL T E) 11 (p + 1) + 1) else .error (p + 1 + cntq true (LL T E) 11 (p + 1)) := by
      unfold rname
      rw [if_pos c]
    generalize cntq true (LL T E) 10 (p + 1) = c10 at *
    generalize cntq true (LL T E) 11 (p + 1) = c11 at *
    have ed : ii ((p + 1 + c10 : Nat) : Int) - ii ((p + 1 : Nat) : Int) = ii (c10 : Int) := by
      rw [ii_sub]; congr 1; omega
    have hr := h.range (p + 1 + c10)
    have h62 := h.pass (nf := nf) (p := p + 1 + c10) (by omega) (show (0 : Int) ≤ 62 by omega) (by omega)
    by_cases c3 : c10 < 3
    · have e11 : c11 = c10 := by rw [hs, if_neg (fun z => by omega)]
      rw [hsp, e11, if_pos c3, F66]
      unfold f_RP_readName_66
      rw [ed, if_neg (by rw [ii_lit, ii_le (by omega) (by omega) (by omega) (by omega)]; omega)]
      exact ⟨_, _, rfl⟩
    · have F : f_RP_readName nf (ii (p : Int)) (ii (E : Int)) np ns s N A = (some (if LL T E (p + 1 + c10) = 62 then ((1 : Int32), ii ((p + 1 + c10 + 1 : Nat) : Int)) else (0, ii ((p + 1 + c10 : Nat) : Int)))).bind fun (z_12, z_13) => f_RP_readName_117 nf z_12 z_13 (ii ((p + 1 : Nat) : Int)) (ii (c10 : Int)) := by
        rw [F66]
        unfold f_RP_readName_66
        rw [ed, if_pos (by rw [ii_lit, ii_le (by omega) (by omega) (by omega) (by omega)]; omega), if_neg (by decide), show (62 : Int32) = ii 62 from rfl, h62]
      by_cases d : c10 = 10 ∧ nmb (LL T E (p + 1 + 10))
      · have e11 : c11 = 11 := by rw [hs, if_pos d]
        rw [hsp, e11, if_neg (by omega), if_pos rfl, F]
        obtain ⟨d1, d2⟩ := d
        subst d1
        rw [if_neg (show ¬ LL T E (p + 1 + 10) = 62 by omega), Option.bind_some]
        exact ⟨_, _, rfl⟩
      · have e11 : c11 = c10 := by rw [hs, if_neg d]
        rw [hsp, e11, if_neg c3, if_neg (by omega), F]
        by_cases d2 : LL T E (p + 1 + c10) = 62
        · rw [if_pos d2, if_pos d2, Option.bind_some]
          rfl
        · rw [if_neg d2, if_neg d2, Option.bind_some]
          exact ⟨_, _, rfl⟩
  · have h17 := nm_17 (nf := nf) h false (p := p) (by omega) (ns := ns) 10 0 nf (by omega) (by omega)
    have F66 : f_RP_readName nf (ii (p : Int)) (ii (E : Int)) np ns s N A = f_RP_readName_66 nf (ii (E : Int)) s N A 0 (ii ((p + cntq false (LL T E) 10 p : Nat) : Int)) (ii (p : Int)) ns := by
      unfold f_RP_readName f_RP_readName_0
      rw [show (60 : Int32) = ii 60 from rfl, hps, Option.bind_some, if_neg c]
      exact h17
    have hs : cntq false (LL T E) 11 p = if cntq false (LL T E) 10 p = 10 ∧ ltr (LL T E (p + 10)) then 11 else cntq false (LL T E) 10 p := by
      have := cntq_succ false (LL T E) 10 p
      simpa using this
    have hle := cntq_le false (LL T E) 10 p
    have hst : cntq false (LL T E) 10 p < 10 → ¬ ltr (LL T E (p + cntq false (LL T E) 10 p)) := by
      have := cntq_stop false (LL T E) 10 p
      simpa using this
    have hsp : rname (LL T E) p = if cntq false (LL T E) 11 p < 3 then .error (p + cntq false (LL T E) 11 p) else if cntq false (LL T E) 11 p = 11 then .error (p + 10) else .ok (p, cntq false (LL T E) 11 p, p + cntq false (LL T E) 11 p) := by
      unfold rname
      rw [if_neg c]
    generalize cntq false (LL T E) 10 p = c10 at *
    generalize cntq false (LL T E) 11 p = c11 at *
    have ed : ii ((p + c10 : Nat) : Int) - ii (p : Int) = ii (c10 : Int) := by
      rw [ii_sub]; congr 1; omega
    have hr := h.range (p + c10)
    by_cases c3 : c10 < 3
    · have e11 : c11 = c10 := by rw [hs, if_neg (fun z => by omega)]
      rw [hsp, e11, if_pos c3, F66]
      unfold f_RP_readName_66
      rw [ed, if_neg (by rw [ii_lit, ii_le (by omega) (by omega) (by omega) (by omega)]; omega)]
      exact ⟨_, _, rfl⟩
    · have F : f_RP_readName nf (ii (p : Int)) (ii (E : Int)) np ns s N A = if (if ltr (LL T E (p + c10)) then (1 : Int32) else 0) = 0 then f_RP_readName_117 nf 1 (ii ((p + c10 : Nat) : Int)) (ii (p : Int)) (ii (c10 : Int)) else f_RP_readName_117 nf 0 (ii ((p + c10 : Nat) : Int)) (ii (p : Int)) (ii (c10 : Int)) := by
        rw [F66]
        unfold f_RP_readName_66
        rw [ed, if_pos (by rw [ii_lit, ii_le (by omega) (by omega) (by omega) (by omega)]; omega), if_pos rfl, h.peek (by omega), Option.bind_some, cltr nf hr.1 hr.2, Option.bind_some]
      by_cases d : c10 = 10 ∧ ltr (LL T E (p + 10))
      · have e11 : c11 = 11 := by rw [hs, if_pos d]
        rw [hsp, e11, if_neg (by omega), if_pos rfl, F]
        obtain ⟨d1, d2⟩ := d
        subst d1
        rw [if_pos d2, if_neg (show ¬ (1 : Int32) = 0 by decide)]
        exact ⟨_, _, rfl⟩
      · have e11 : c11 = c10 := by rw [hs, if_neg d]
        have nl : ¬ ltr (LL T E (p + c10)) := by
          by_cases e : c10 = 10
          · intro z; exact d ⟨e, e ▸ z⟩
          · exact hst (by omega)
        rw [hsp, e11, if_neg c3, if_neg (by omega), F, if_neg nl, if_pos rfl]
        rfl
end
/-! amounts -/
theorem csgn (nf : Nat) {v : Int} (h1 : -1 ≤ v) (h2 : v ≤ 255) : f_RP_isSign nf (ii v) = some (if v = 43 ∨ v = 45 then 1 else 0) := by
  unfold f_RP_isSign f_RP_isSign_0 f_RP_isSign_12 f_RP_isSign_17
  by_cases c3 : v = 43
  · rw [if_pos (by rw [c3]; rfl), if_pos (Or.inl c3)]; rfl
  · rw [if_neg (fun z => c3 (by rw [ii_lit, ii_eq2 (by omega) (by omega) (by omega) (by omega)] at z; exact z))]
    by_cases c4 : v = 45
    · rw [if_pos (by rw [c4]; rfl), if_pos (Or.inr c4)]; rfl
    · rw [if_neg (fun z => c4 (by rw [ii_lit, ii_eq2 (by omega) (by omega) (by omega) (by omega)] at z; exact z)), if_neg (show ¬ (v = 43 ∨ v = 45) from fun z => z.elim c3 c4)]; rfl
theorem bI_01 (q : Bool) : bI q = 0 ∨ bI q = 1 := by cases q <;> simp [bI]
section
variable {nf : Nat} {s : Int32} {N : Nat} {A T : Nat → Int32} {E : Nat}
theorem am_117 {h m c : Int} (sg mi : Bool) (pos a b : Int32) (h1 : 0 ≤ h) (h2 : h ≤ 1000) (m1 : 0 ≤ m) (m2 : m ≤ 1000) (c1 : 0 ≤ c) (c2 : c ≤ 1000) : f_RP_readAmount_117 nf (ii c) (ii m) (ii h) (bI sg) (bI mi) pos a b = some (1, pos, ii (if mi = true then -(3600 * h + 60 * m + c) else 3600 * h + 60 * m + c), bI (sg || decide (24 < h))) := by
  have f168 : ∀ (w : Bool) (a : Int32), f_RP_readAmount_168 nf (ii c) (ii m) (bI w) pos a b = some (1, pos, a, bI w) := by
    intro w a
    unfold f_RP_readAmount_168 f_RP_readAmount_186
    rw [if_pos (bI_01 w), ii_lit, if_neg (by rw [ii_lt (by omega) (by omega) (by omega) (by omega)]; omega), if_neg (by rw [ii_lt (by omega) (by omega) (by omega) (by omega)]; omega), if_pos (by decide)]
  have f147 : ∀ a : Int32, f_RP_readAmount_147 nf (ii c) (ii m) (ii h) (bI sg) a pos a b = some (1, pos, a, bI (sg || decide (24 < h))) := by
    intro a
    unfold f_RP_readAmount_147 f_RP_readAmount_163
    cases sg
    · rw [if_pos (by decide), ii_lit]
      by_cases k : 24 < h
      · rw [if_neg (by rw [ii_le (by omega) (by omega) (by omega) (by omega)]; omega), show (1 : Int32) = bI true from rfl, f168, decide_eq_true k]
        rfl
      · rw [if_pos (by rw [ii_le (by omega) (by omega) (by omega) (by omega)]; omega), show (0 : Int32) = bI false from rfl, f168, decide_eq_false k]
        rfl
    · rw [if_neg (by decide), show (1 : Int32) = bI true from rfl, f168]
      rfl
  have g147 : ∀ a a' : Int32, f_RP_readAmount_147 nf (ii c) (ii m) (ii h) (bI sg) a pos a' b = f_RP_readAmount_147 nf (ii c) (ii m) (ii h) (bI sg) a pos a b := fun _ _ => rfl
  unfold f_RP_readAmount_117
  simp only [ii_lit, ii_mul, ii_add, ii_neg]
  cases mi
  · rw [if_pos (by decide), g147, f147]
    rfl
  · rw [if_neg (by decide), g147, f147]
    rfl
theorem am_117e {h m c : Int} (sg mi : Bool) (pos a b : Int32) (h1 : -10 ≤ h) (h2 : h ≤ 1000) (m1 : -10 ≤ m) (m2 : m ≤ 1000) (c1 : -10 ≤ c) (c2 : c ≤ 1000) (hn : m < 0 ∨ c < 0) : ∃ a' b' : Int32, f_RP_readAmount_117 nf (ii c) (ii m) (ii h) (bI sg) (bI mi) pos a b = some (0, pos, a', b') := by
  have f168 : ∀ (w a : Int32), (w = 0 ∨ w = 1) → ∃ b' : Int32, f_RP_readAmount_168 nf (ii c) (ii m) w pos a b = some (0, pos, a, b') := by
    intro w a hw
    unfold f_RP_readAmount_168 f_RP_readAmount_185 f_RP_readAmount_186
    rw [if_pos hw, ii_lit]
    by_cases k : m < 0
    · rw [if_pos ((ii_lt (by omega) (by omega) (by omega) (by omega)).mpr k), if_pos (by decide)]
      exact ⟨_, rfl⟩
    · rw [if_neg (fun z => k ((ii_lt (by omega) (by omega) (by omega) (by omega)).mp z)), if_pos ((ii_lt (by omega) (by omega) (by omega) (by omega)).mpr (by omega)), if_pos (by decide)]
      exact ⟨_, rfl⟩
  have f147 : ∀ a a0 : Int32, ∃ b' : Int32, f_RP_readAmount_147 nf (ii c) (ii m) (ii h) (bI sg) a pos a0 b = some (0, pos, a, b') := by
    intro a a0
    unfold f_RP_readAmount_147 f_RP_readAmount_163
    split
    · split
      · exact f168 0 a (Or.inl rfl)
      · exact f168 1 a (Or.inr rfl)
    · exact f168 1 a (Or.inr rfl)
  unfold f_RP_readAmount_117
  split
  · obtain ⟨b', e⟩ := f147 (((3600 * ii h) + (60 * ii m)) + ii c) a
    exact ⟨_, b', e⟩
  · obtain ⟨b', e⟩ := f147 (-(((3600 * ii h) + (60 * ii m)) + ii c)) a
    exact ⟨_, b', e⟩
theorem am_0 (h : PT s N A T E) (sg : Bool) {p : Nat} (hp : p ≤ 10000) {mo a b : Int32} : f_RP_readAmount nf (bI sg) mo (ii (p : Int)) (ii (E : Int)) a b s N A = f_RP_readAmount_55 nf (ii (E : Int)) s N A (bI (sgn (LL T E) sg p)) (bI (sg && decide (LL T E p = 45))) mo (ii (((if sgn (LL T E) sg p then p + 1 else p) : Nat) : Int)) a b := by
  have hr := h.range p
  unfold f_RP_readAmount f_RP_readAmount_0 f_RP_readAmount_17 f_RP_readAmount_18 f_RP_readAmount_37 f_RP_readAmount_38 sgn
  cases sg
  · rw [if_pos (by decide), if_pos (by decide), if_pos (by decide)]
    rfl
  · have n0 : ¬ bI true = 0 := by decide
    simp only [h.peek (show p ≤ 30000 by omega), Option.bind_some, csgn nf hr.1 hr.2, if_neg n0]
    generalize LL T E p = v at hr ⊢
    by_cases c4 : v = 45
    · subst c4
      rw [if_pos (show (ii 45 : Int32) = 45 from rfl), if_pos (show (45 : Int) = 43 ∨ (45 : Int) = 45 by decide), if_neg (show ¬ (1 : Int32) = 0 by decide), if_neg (show ¬ (1 : Int32) = 0 by decide), ii_lit, ii_add]
      rfl
    · have n4 : ¬ ii v = 45 := fun z => c4 (by rw [ii_lit, ii_eq2 (by omega) (by omega) (by omega) (by omega)] at z; exact z)
      by_cases c3 : v = 43
      · subst c3
        rw [if_neg n4, if_pos (show (43 : Int) = 43 ∨ (43 : Int) = 45 by decide), if_neg (show ¬ (1 : Int32) = 0 by decide), if_neg (show ¬ (1 : Int32) = 0 by decide), ii_lit, ii_add]
        rfl
      · rw [if_neg n4, if_neg (show ¬ (v = 43 ∨ v = 45) from fun z => z.elim c3 c4), if_pos rfl, if_pos trivial, decide_eq_false c3, decide_eq_false c4]
        rfl
/-- a number that is there, and one that isn't -/
theorem rn_y (h : PT s N A T E) (hnf : 4 ≤ nf) {p q : Nat} (hp : p ≤ 20000) {lo hi v : Int} (l1 : 0 ≤ lo) (l2 : lo ≤ 1000) (g1 : 0 ≤ hi) (g2 : hi ≤ 1000) (e : rnum (LL T E) lo hi p = .ok (v, q)) : f_RP_readNumber nf (ii lo) (ii hi) (ii (p : Int)) (ii (E : Int)) s N A = some (ii v, ii (q : Int)) := by
  rw [rn_ok h hnf hp l1 l2 g1 g2, e]
  rfl
theorem rn_n (h : PT s N A T E) (hnf : 4 ≤ nf) {p x : Nat} (hp : p ≤ 20000) {lo hi : Int} (l1 : 0 ≤ lo) (l2 : lo ≤ 1000) (g1 : 0 ≤ hi) (g2 : hi ≤ 1000) (e : rnum (LL T E) lo hi p = .error x) : f_RP_readNumber nf (ii lo) (ii hi) (ii (p : Int)) (ii (E : Int)) s N A = some (-1, ii (x : Int)) := by
  rw [rn_ok h hnf hp l1 l2 g1 g2, e]
  rfl
theorem pass_y (h : PT s N A T E) {p : Nat} (hp : p ≤ 30000) {x : Int} (x1 : 0 ≤ x) (x2 : x ≤ 255) (c : LL T E p = x) : f_RP_pass nf (ii x) (ii (p : Int)) (ii (E : Int)) s N A = some (1, ii ((p + 1 : Nat) : Int)) := by
  rw [h.pass hp x1 x2, if_pos c]
theorem pass_n (h : PT s N A T E) {p : Nat} (hp : p ≤ 30000) {x : Int} (x1 : 0 ≤ x) (x2 : x ≤ 255) (c : ¬ LL T E p = x) : f_RP_pass nf (ii x) (ii (p : Int)) (ii (E : Int)) s N A = some (0, ii (p : Int)) := by
  rw [h.pass hp x1 x2, if_neg c]
theorem ramt_c (h : PT s N A T E) (hE : E ≤ 9000) (hnf : 11 ≤ nf) (sg : Bool) {most : Int} (o1 : 0 ≤ most) (o2 : most ≤ 200) {p : Nat} (hp : p ≤ 9500) {am aw : Int32} : match ramt (LL T E) sg most p with
    | .error x => ∃ a b : Int32, f_RP_readAmount nf (bI sg) (ii most) (ii (p : Int)) (ii (E : Int)) am aw s N A = some (0, ii (x : Int), a, b)
    | .ok (v, w, q) => f_RP_readAmount nf (bI sg) (ii most) (ii (p : Int)) (ii (E : Int)) am aw s N A = some (1, ii (q : Int), ii v, bI w) := by
  generalize hF : f_RP_readAmount nf (bI sg) (ii most) (ii (p : Int)) (ii (E : Int)) am aw s N A = F
  rw [am_0 h sg (by omega)] at hF
  unfold f_RP_readAmount_55 at hF
  unfold ramt rfin
  have hp1 : (if sgn (LL T E) sg p then p + 1 else p) ≤ 9501 := by split <;> omega
  generalize (if sgn (LL T E) sg p then p + 1 else p) = p1 at hp1 hF ⊢
  have eif : ∀ x : Int, (if sg = true ∧ LL T E p = 45 then -x else x) = if (sg && decide (LL T E p = 45)) = true then -x else x := by
    intro x
    by_cases c : sg = true ∧ LL T E p = 45
    · rw [if_pos c, if_pos (by simp [c])]
    · rw [if_neg c, if_neg (by simp; intro h1 h2; exact c ⟨h1, h2⟩)]
  simp only [eif]
  generalize (sg && decide (LL T E p = 45)) = mi at eif hF ⊢
  generalize sgn (LL T E) sg p = sn at hF ⊢
  rw [show (0 : Int32) = ii 0 from rfl, show (58 : Int32) = ii 58 from rfl, show (59 : Int32) = ii 59 from rfl] at hF
  cases e1 : rnum (LL T E) 0 most p1 with
  | error x =>
    rw [rn_n h (by omega) (by omega) (by omega) (by omega) (by omega) (by omega) e1, Option.bind_some] at hF
    dsimp only at hF ⊢
    rw [if_neg (by decide)] at hF
    exact ⟨_, _, hF.symm⟩
  | ok q1 =>
    obtain ⟨hh, p2⟩ := q1
    have k1 := rnum_ok e1
    have k1' := rnum_le e1
    rw [rn_y h (by omega) (by omega) (by omega) (by omega) (by omega) (by omega) e1, Option.bind_some] at hF
    dsimp only at hF ⊢
    rw [if_pos (by rw [ii_le (by omega) (by omega) (by omega) (by omega)]; omega)] at hF
    by_cases c1 : LL T E p2 = 58
    · rw [if_pos c1]
      rw [pass_y h (by omega) (by omega) (by omega) c1, Option.bind_some] at hF
      dsimp only at hF
      rw [if_neg (by decide)] at hF
      have l2 := LL_lt (T := T) (E := E) (k := p2) (by omega)
      cases e2 : rnum (LL T E) 0 59 (p2 + 1) with
      | error x =>
        rw [rn_n h (by omega) (by omega) (by omega) (by omega) (by omega) (by omega) e2, Option.bind_some] at hF
        dsimp only at hF ⊢
        rw [if_pos (by decide)] at hF
        obtain ⟨a', b', e⟩ := am_117e (nf := nf) (h := hh) (m := -1) (c := 0) sn mi (ii (x : Int)) am aw (by omega) (by omega) (by omega) (by omega) (by omega) (by omega) (by omega)
        exact ⟨a', b', hF.symm.trans e⟩
      | ok q2 =>
        obtain ⟨mm, p3⟩ := q2
        have k2 := rnum_ok e2
        have k2' := rnum_le e2
        rw [rn_y h (by omega) (by omega) (by omega) (by omega) (by omega) (by omega) e2, Option.bind_some] at hF
        dsimp only at hF ⊢
        rw [if_neg (by rw [ii_lt (by omega) (by omega) (by omega) (by omega)]; omega)] at hF
        by_cases c2 : LL T E p3 = 58
        · rw [if_pos c2]
          rw [pass_y h (by omega) (by omega) (by omega) c2, Option.bind_some] at hF
          dsimp only at hF
          rw [if_neg (by decide)] at hF
          have l3 := LL_lt (T := T) (E := E) (k := p3) (by omega)
          cases e3 : rnum (LL T E) 0 59 (p3 + 1) with
          | error x =>
            rw [rn_n h (by omega) (by omega) (by omega) (by omega) (by omega) (by omega) e3, Option.bind_some] at hF
            dsimp only at hF ⊢
            obtain ⟨a', b', e⟩ := am_117e (nf := nf) (h := hh) (m := mm) (c := -1) sn mi (ii (x : Int)) am aw (by omega) (by omega) (by omega) (by omega) (by omega) (by omega) (by omega)
            exact ⟨a', b', hF.symm.trans e⟩
          | ok q3 =>
            obtain ⟨cc, p4⟩ := q3
            have k3 := rnum_ok e3
            rw [rn_y h (by omega) (by omega) (by omega) (by omega) (by omega) (by omega) e3, Option.bind_some] at hF
            dsimp only at hF ⊢
            exact hF.symm.trans (am_117 (h := hh) (m := mm) (c := cc) sn mi _ _ _ (by omega) (by omega) (by omega) (by omega) (by omega) (by omega))
        · rw [if_neg c2]
          rw [pass_n h (by omega) (by omega) (by omega) c2, Option.bind_some] at hF
          dsimp only at hF
          rw [if_pos (by decide)] at hF
          exact hF.symm.trans (am_117 (h := hh) (m := mm) (c := 0) sn mi _ _ _ (by omega) (by omega) (by omega) (by omega) (by omega) (by omega))
    · rw [if_neg c1]
      rw [pass_n h (by omega) (by omega) (by omega) c1, Option.bind_some] at hF
      dsimp only at hF
      rw [if_pos (by decide)] at hF
      exact hF.symm.trans (am_117 (h := hh) (m := 0) (c := 0) sn mi _ _ _ (by omega) (by omega) (by omega) (by omega) (by omega) (by omega))
end
/-! days, edges -/
section
variable {nf : Nat} {s : Int32} {N : Nat} {A T : Nat → Int32} {E : Nat}
theorem ramt_ok {L : Nat → Int} {sg : Bool} {most v : Int} {w : Bool} {p q : Nat} (h : ramt L sg most p = .ok (v, w, q)) : p < q ∧ -(3600 * most + 3599) ≤ v ∧ v ≤ 3600 * most + 3599 ∧ dig (L (q - 1)) := by
  unfold ramt at h
  have hp1 : p ≤ (if sgn L sg p then p + 1 else p) := by split <;> omega
  generalize (if sgn L sg p then p + 1 else p) = p1 at hp1 h
  cases e1 : rnum L 0 most p1 with
  | error x => rw [e1] at h; cases h
  | ok q1 =>
    obtain ⟨hh, p2⟩ := q1
    rw [e1] at h
    have k1 := rnum_ok e1
    have d1 := k1.2.2.2.2.2 (p2 - 1) (by omega) (by omega)
    dsimp only at h
    split at h
    · cases e2 : rnum L 0 59 (p2 + 1) with
      | error x => rw [e2] at h; cases h
      | ok q2 =>
        obtain ⟨mm, p3⟩ := q2
        rw [e2] at h
        have k2 := rnum_ok e2
        have d2 := k2.2.2.2.2.2 (p3 - 1) (by omega) (by omega)
        dsimp only at h
        split at h
        · cases e3 : rnum L 0 59 (p3 + 1) with
          | error x => rw [e3] at h; cases h
          | ok q3 =>
            obtain ⟨cc, p4⟩ := q3
            rw [e3] at h
            have k3 := rnum_ok e3
            have d3 := k3.2.2.2.2.2 (p4 - 1) (by omega) (by omega)
            unfold rfin at h
            cases h
            refine ⟨by omega, ?_, ?_, d3⟩ <;> (split <;> omega)
        · unfold rfin at h
          cases h
          refine ⟨by omega, ?_, ?_, d2⟩ <;> (split <;> omega)
    · unfold rfin at h
      cases h
      refine ⟨by omega, ?_, ?_, d1⟩ <;> (split <;> omega)
theorem ramt_le {sg : Bool} {most v : Int} {w : Bool} {p q : Nat} (h : ramt (LL T E) sg most p = .ok (v, w, q)) : q ≤ E := by
  obtain ⟨h1, _, _, h2⟩ := ramt_ok h
  have := LL_lt (T := T) (E := E) (k := q - 1) (by omega)
  omega
theorem rday_c (h : PT s N A T E) (hE : E ≤ 9000) (hnf : 11 ≤ nf) {p : Nat} (hp : p ≤ 9500) {k m w d : Int32} : match rday (LL T E) p with
    | .error x => ∃ k' m' w' d' : Int32, f_RP_readDay nf (ii (p : Int)) (ii (E : Int)) s N A k m w d = some (0, ii (x : Int), k', m', w', d')
    | .ok ((kk, a, b, c), q) => ∃ m' w' d' : Int32, f_RP_readDay nf (ii (p : Int)) (ii (E : Int)) s N A k m w d = some (1, ii (q : Int), ii kk, m', w', d') ∧ (kk = 2 → m' = ii a ∧ w' = ii b ∧ d' = ii c) ∧ (kk ≠ 2 → d' = ii a) := by
  have hr := h.range p
  have f151 : ∀ (pos k' m' w' : Int32) (v : Int), 0 ≤ v → v ≤ 1000 → f_RP_readDay_151 nf pos k' m' w' (ii v) = some (1, pos, k', m', w', ii v) := by
    intro pos k' m' w' v v1 v2
    unfold f_RP_readDay_151 f_RP_readDay_163
    rw [ii_lit, if_neg (by rw [ii_lt (by omega) (by omega) (by omega) (by omega)]; omega), if_pos (by decide)]
  have f151e : ∀ (pos k' m' w' : Int32), f_RP_readDay_151 nf pos k' m' w' (-1) = some (0, pos, k', m', w', -1) := by
    intro pos k' m' w'
    unfold f_RP_readDay_151 f_RP_readDay_163
    rw [if_pos (by decide), if_pos (by decide)]
  generalize hF : f_RP_readDay nf (ii (p : Int)) (ii (E : Int)) s N A k m w d = F
  unfold f_RP_readDay f_RP_readDay_0 f_RP_readDay_51 f_RP_readDay_79 at hF
  rw [h.peek (by omega), Option.bind_some, Option.bind_some, show (1 : Int32) = ii 1 from rfl, show (12 : Int32) = ii 12 from rfl, show (46 : Int32) = ii 46 from rfl, show (5 : Int32) = ii 5 from rfl, show (6 : Int32) = ii 6 from rfl, show (365 : Int32) = ii 365 from rfl, ii_add, show ii ((p : Int) + 1) = ii ((p + 1 : Nat) : Int) from rfl] at hF
  unfold rday
  by_cases c7 : LL T E p = 77
  · have l1 := LL_lt (T := T) (E := E) (k := p) (by omega)
    rw [if_pos c7]
    rw [if_pos (by rw [c7]; rfl)] at hF
    cases e1 : rnum (LL T E) 1 12 (p + 1) with
    | error x =>
      rw [rn_n h (by omega) (by omega) (by omega) (by omega) (by omega) (by omega) e1, Option.bind_some] at hF
      dsimp only at hF ⊢
      rw [if_pos (by decide)] at hF
      exact ⟨_, _, _, _, hF.symm⟩
    | ok q1 =>
      obtain ⟨a, p2⟩ := q1
      have k1 := rnum_ok e1
      have k1' := rnum_le e1
      rw [rn_y h (by omega) (by omega) (by omega) (by omega) (by omega) (by omega) e1, Option.bind_some] at hF
      dsimp only at hF ⊢
      rw [if_neg (by rw [show (0 : Int32) = ii 0 from rfl, ii_lt (by omega) (by omega) (by omega) (by omega)]; omega)] at hF
      by_cases c1 : LL T E p2 = 46
      · have l2 := LL_lt (T := T) (E := E) (k := p2) (by omega)
        rw [if_pos c1]
        rw [pass_y h (by omega) (by omega) (by omega) c1, Option.bind_some] at hF
        dsimp only at hF
        rw [if_neg (by decide)] at hF
        cases e2 : rnum (LL T E) 1 5 (p2 + 1) with
        | error x =>
          rw [rn_n h (by omega) (by omega) (by omega) (by omega) (by omega) (by omega) e2, Option.bind_some] at hF
          dsimp only at hF ⊢
          rw [if_pos (by decide)] at hF
          exact ⟨_, _, _, _, hF.symm⟩
        | ok q2 =>
          obtain ⟨b, p3⟩ := q2
          have k2 := rnum_ok e2
          have k2' := rnum_le e2
          rw [rn_y h (by omega) (by omega) (by omega) (by omega) (by omega) (by omega) e2, Option.bind_some] at hF
          dsimp only at hF ⊢
          rw [if_neg (by rw [show (0 : Int32) = ii 0 from rfl, ii_lt (by omega) (by omega) (by omega) (by omega)]; omega)] at hF
          by_cases c2 : LL T E p3 = 46
          · have l3 := LL_lt (T := T) (E := E) (k := p3) (by omega)
            rw [if_pos c2]
            rw [pass_y h (by omega) (by omega) (by omega) c2, Option.bind_some] at hF
            dsimp only at hF
            rw [if_neg (by decide), show (0 : Int32) = ii 0 from rfl] at hF
            cases e3 : rnum (LL T E) 0 6 (p3 + 1) with
            | error x =>
              rw [rn_n h (by omega) (by omega) (by omega) (by omega) (by omega) (by omega) e3, Option.bind_some] at hF
              dsimp only at hF ⊢
              exact ⟨_, _, _, _, hF.symm.trans (f151e _ _ _ _)⟩
            | ok q3 =>
              obtain ⟨c, p4⟩ := q3
              have k3 := rnum_ok e3
              rw [rn_y h (by omega) (by omega) (by omega) (by omega) (by omega) (by omega) e3, Option.bind_some] at hF
              dsimp only at hF ⊢
              exact ⟨_, _, _, hF.symm.trans (f151 _ _ _ _ _ (by omega) (by omega)), fun _ => ⟨rfl, rfl, rfl⟩, fun z => absurd rfl z⟩
          · rw [if_neg c2]
            rw [pass_n h (by omega) (by omega) (by omega) c2, Option.bind_some] at hF
            dsimp only at hF
            rw [if_pos rfl] at hF
            exact ⟨_, _, _, _, hF.symm⟩
      · rw [if_neg c1]
        rw [pass_n h (by omega) (by omega) (by omega) c1, Option.bind_some] at hF
        dsimp only at hF
        rw [if_pos rfl] at hF
        exact ⟨_, _, _, _, hF.symm⟩
  · rw [if_neg c7]
    rw [if_neg (fun z => c7 (by rw [ii_lit, ii_eq2 (by omega) (by omega) (by omega) (by omega)] at z; exact z))] at hF
    by_cases c4 : LL T E p = 74
    · have l1 := LL_lt (T := T) (E := E) (k := p) (by omega)
      rw [if_pos c4]
      rw [if_pos (by rw [c4]; rfl)] at hF
      cases e1 : rnum (LL T E) 1 365 (p + 1) with
      | error x =>
        rw [rn_n h (by omega) (by omega) (by omega) (by omega) (by omega) (by omega) e1, Option.bind_some] at hF
        dsimp only at hF ⊢
        exact ⟨_, _, _, _, hF.symm.trans (f151e _ _ _ _)⟩
      | ok q1 =>
        obtain ⟨a, p2⟩ := q1
        have k1 := rnum_ok e1
        rw [rn_y h (by omega) (by omega) (by omega) (by omega) (by omega) (by omega) e1, Option.bind_some] at hF
        dsimp only at hF ⊢
        exact ⟨_, _, _, hF.symm.trans (f151 _ _ _ _ _ (by omega) (by omega)), fun z => absurd z (by decide), fun _ => rfl⟩
    · rw [if_neg c4]
      rw [if_neg (fun z => c4 (by rw [ii_lit, ii_eq2 (by omega) (by omega) (by omega) (by omega)] at z; exact z)), show (0 : Int32) = ii 0 from rfl] at hF
      cases e1 : rnum (LL T E) 0 365 p with
      | error x =>
        rw [rn_n h (by omega) (by omega) (by omega) (by omega) (by omega) (by omega) e1, Option.bind_some] at hF
        dsimp only at hF ⊢
        exact ⟨_, _, _, _, hF.symm.trans (f151e _ _ _ _)⟩
      | ok q1 =>
        obtain ⟨a, p2⟩ := q1
        have k1 := rnum_ok e1
        rw [rn_y h (by omega) (by omega) (by omega) (by omega) (by omega) (by omega) e1, Option.bind_some] at hF
        dsimp only at hF ⊢
        exact ⟨_, _, _, hF.symm.trans (f151 _ _ _ _ _ (by omega) (by omega)), fun z => absurd z (by decide), fun _ => rfl⟩
/-- what a day is, once it is read -/
theorem rday_ok {k a b c : Int} {p q : Nat} (h : rday (LL T E) p = .ok ((k, a, b, c), q)) : q ≤ E ∧ p < q ∧ (k = 0 ∧ 1 ≤ a ∧ a ≤ 365 ∨ k = 1 ∧ 0 ≤ a ∧ a ≤ 365 ∨ k = 2 ∧ 1 ≤ a ∧ a ≤ 12 ∧ 1 ≤ b ∧ b ≤ 5 ∧ 0 ≤ c ∧ c ≤ 6) := by
  unfold rday at h
  split at h
  · cases e1 : rnum (LL T E) 1 12 (p + 1) with
    | error x => rw [e1] at h; cases h
    | ok q1 =>
      obtain ⟨a', p2⟩ := q1
      have k1 := rnum_ok e1
      rw [e1] at h
      dsimp only at h
      split at h
      · cases e2 : rnum (LL T E) 1 5 (p2 + 1) with
        | error x => rw [e2] at h; cases h
        | ok q2 =>
          obtain ⟨b', p3⟩ := q2
          have k2 := rnum_ok e2
          rw [e2] at h
          dsimp only at h
          split at h
          · cases e3 : rnum (LL T E) 0 6 (p3 + 1) with
            | error x => rw [e3] at h; cases h
            | ok q3 =>
              obtain ⟨c', p4⟩ := q3
              have k3 := rnum_ok e3
              have k3' := rnum_le e3
              rw [e3] at h
              cases h
              exact ⟨k3', by omega, Or.inr (Or.inr ⟨rfl, by omega, by omega, by omega, by omega, by omega, by omega⟩)⟩
          · cases h
      · cases h
  · split at h
    · cases e1 : rnum (LL T E) 1 365 (p + 1) with
      | error x => rw [e1] at h; cases h
      | ok q1 =>
        obtain ⟨a', p2⟩ := q1
        have k1 := rnum_ok e1
        have k1' := rnum_le e1
        rw [e1] at h
        cases h
        exact ⟨k1', by omega, Or.inl ⟨rfl, by omega, by omega⟩⟩
    · cases e1 : rnum (LL T E) 0 365 p with
      | error x => rw [e1] at h; cases h
      | ok q1 =>
        obtain ⟨a', p2⟩ := q1
        have k1 := rnum_ok e1
        have k1' := rnum_le e1
        rw [e1] at h
        cases h
        exact ⟨k1', by omega, Or.inr (Or.inl ⟨rfl, by omega, by omega⟩)⟩
end
