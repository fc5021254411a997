/-! ===== find ===== -/
def SS (A : Nat → Int64) (f : Nat → Int) (c : Nat) : Prop := (∀ k, k < c → A k = jj (f k) ∧ isI (f k)) ∧ ∀ k, k + 1 < c → f k < f (k + 1)
def memb (f : Nat → Int) (c : Nat) (u : Int) : Prop := ∃ k, k < c ∧ f k = u
theorem ss_lt {f : Nat → Int} {c : Nat} (h : ∀ k, k + 1 < c → f k < f (k + 1)) {a b : Nat} (hab : a < b) (hb : b < c) : f a < f b := by
  have := gmono h (b - a) a (by omega)
  rw [show a + (b - a) = b by omega] at this
  omega
theorem ss_eq {f g : Nat → Int} {c d : Nat} (hf : ∀ k, k + 1 < c → f k < f (k + 1)) (hg : ∀ k, k + 1 < d → g k < g (k + 1)) (h : ∀ u, memb f c u ↔ memb g d u) : ∀ k, k < c → k < d ∧ f k = g k := by
  intro k
  induction k using Nat.strongRecOn with
  | _ k ih =>
    intro hk
    obtain ⟨j, hj, ej⟩ := (h (f k)).mp ⟨k, hk, rfl⟩
    have j1 : k ≤ j := by
      by_cases w : k ≤ j
      · exact w
      · have e := (ih j (by omega) (by omega)).2
        have l := ss_lt hf (a := j) (b := k) (by omega) hk
        omega
    obtain ⟨m, hm, em⟩ := (h (g k)).mpr ⟨k, by omega, rfl⟩
    have m1 : k ≤ m := by
      by_cases w : k ≤ m
      · exact w
      · have e := (ih m (by omega) (by omega)).2
        have l := ss_lt hg (a := m) (b := k) (by omega) (by omega)
        omega
    refine ⟨by omega, ?_⟩
    have a1 : f k ≤ f m := by
      by_cases w : k = m
      · rw [w]; omega
      · have := ss_lt hf (a := k) (b := m) (by omega) hm; omega
    have a2 : g k ≤ g j := by
      by_cases w : k = j
      · rw [w]; omega
      · have := ss_lt hg (a := k) (b := j) (by omega) hj; omega
    omega
theorem ss_cnt {f g : Nat → Int} {c d : Nat} (hf : ∀ k, k + 1 < c → f k < f (k + 1)) (hg : ∀ k, k + 1 < d → g k < g (k + 1)) (h : ∀ u, memb f c u ↔ memb g d u) : c = d := by
  have a : c ≤ d := by
    by_cases w : c = 0
    · omega
    · have := (ss_eq hf hg h (c - 1) (by omega)).1; omega
  have b : d ≤ c := by
    by_cases w : d = 0
    · omega
    · have := (ss_eq hg hf (fun u => (h u).symm) (d - 1) (by omega)).1; omega
  omega
def insf (f : Nat → Int) (p : Nat) (u : Int) (k : Nat) : Int := if k < p then f k else if k = p then u else f (k - 1)
theorem ins_ok {f : Nat → Int} {c p : Nat} {u : Int} (hf : ∀ k, k + 1 < c → f k < f (k + 1)) (hp : p ≤ c) (h1 : ∀ k, k < p → f k < u) (h2 : ∀ k, p ≤ k → k < c → u < f k) : (∀ k, k + 1 < c + 1 → insf f p u k < insf f p u (k + 1)) ∧ ∀ v, memb (insf f p u) (c + 1) v ↔ memb f c v ∨ v = u := by
  constructor
  · intro k hk
    unfold insf
    by_cases a : k + 1 < p
    · rw [if_pos (by omega), if_pos a]
      exact hf k (by omega)
    · by_cases b : k + 1 = p
      · rw [if_pos (by omega), if_neg a, if_pos b]
        exact h1 k (by omega)
      · rw [if_neg (by omega), if_neg a, if_neg b]
        by_cases c : k = p
        · rw [if_pos c, show k + 1 - 1 = k by omega]
          exact h2 k (by omega) (by omega)
        · rw [if_neg c, show k + 1 - 1 = k by omega]
          have := hf (k - 1) (by omega)
          rw [show k - 1 + 1 = k by omega] at this
          exact this
  · intro v
    constructor
    · rintro ⟨k, hk, e⟩
      unfold insf at e
      by_cases a : k < p
      · rw [if_pos a] at e
        exact Or.inl ⟨k, by omega, e⟩
      · rw [if_neg a] at e
        by_cases b : k = p
        · rw [if_pos b] at e
          exact Or.inr e.symm
        · rw [if_neg b] at e
          exact Or.inl ⟨k - 1, by omega, e⟩
    · rintro (⟨k, hk, e⟩ | rfl)
      · by_cases a : k < p
        · exact ⟨k, by omega, by unfold insf; rw [if_pos a, e]⟩
        · refine ⟨k + 1, by omega, ?_⟩
          unfold insf
          rw [if_neg (by omega), if_neg (by omega), show k + 1 - 1 = k by omega, e]
      · exact ⟨p, by omega, by unfold insf; rw [if_neg (by omega), if_pos rfl]⟩
/-- while numbers are moved up: place j is free -/
def shft (W : Nat → Int64) (f : Nat → Int) (c j : Nat) : Prop := (∀ k, k < j → W k = jj (f k)) ∧ ∀ k, j < k → k ≤ c → W k = jj (f (k - 1))
theorem shft.fin {W : Nat → Int64} {f : Nat → Int} {c p : Nat} {u : Int} (h : shft W f c p) (hb : ∀ k, k < c → isI (f k)) (hu : isI u) (hp : p ≤ c) : ∀ k, k < c + 1 → vp_updL W p (jj u) k = jj (insf f p u k) ∧ isI (insf f p u k) := by
  intro k hk
  unfold insf vp_updL
  by_cases a : k < p
  · rw [if_neg (by omega), if_pos a]
    exact ⟨h.1 k a, hb k (by omega)⟩
  · by_cases b : k = p
    · rw [if_pos b, if_neg a, if_pos b]
      exact ⟨rfl, hu⟩
    · rw [if_neg b, if_neg a, if_neg b]
      exact ⟨h.2 k (by omega) (by omega), hb _ (by omega)⟩
theorem shft.step {W : Nat → Int64} {f : Nat → Int} {c j : Nat} (h : shft W f c j) (hj : 0 < j) (hc : j ≤ c) : shft (vp_updL W j (W (j - 1))) f c (j - 1) := by
  refine ⟨fun k hk => ?_, fun k h1 h2 => ?_⟩
  · unfold vp_updL
    rw [if_neg (by omega)]
    exact h.1 k (by omega)
  · unfold vp_updL
    by_cases a : k = j
    · rw [if_pos a, a]
      exact h.1 (j - 1) (by omega)
    · rw [if_neg a]
      exact h.2 k (by omega) h2
section
variable {nf : Nat} {f : Nat → Int} {c : Nat} {u : Int}
theorem kf71 (hc : c < 42) (hb : ∀ k, k < c → isI (f k)) (hu : isI u) {p : Nat} (hp : p ≤ c) : ∀ (d j fu : Nat), p + d = j → j ≤ c → d < fu → ∀ W, shft W f c j → ∃ W', f_ZF_keepFound_71 nf fu (ii (j : Int)) (ii (p : Int)) (jj u) (ii (c : Int)) W = some (ii ((c + 1 : Nat) : Int), W') ∧ ∀ k, k < c + 1 → W' k = jj (insf f p u k) ∧ isI (insf f p u k) := by
  intro d
  induction d with
  | zero =>
    intro j fu hj hjc hf W hW
    obtain ⟨f', rfl⟩ : ∃ f', fu = f' + 1 := ⟨fu - 1, by omega⟩
    obtain rfl : p = j := by omega
    rw [f_ZF_keepFound_71, if_pos (by rw [ii_le (by omega) (by omega) (by omega) (by omega)]; omega), show (ii (p : Int)).toNatClampNeg = p by rw [ii_nat (by omega) (by omega)]; omega, if_neg (by rw [ii_lit, ii_lt (by omega) (by omega) (by omega) (by omega)]; omega), iiS]
    exact ⟨_, rfl, hW.fin hb hu hp⟩
  | succ d ih =>
    intro j fu hj hjc hf W hW
    obtain ⟨f', rfl⟩ : ∃ f', fu = f' + 1 := ⟨fu - 1, by omega⟩
    have e1 : ii (j : Int) - 1 = ii ((j - 1 : Nat) : Int) := by rw [ii_lit, ii_sub]; congr 1; omega
    obtain ⟨W', g1, g2⟩ := ih (j - 1) f' (by omega) (by omega) (by omega) _ (hW.step (by omega) hjc)
    refine ⟨W', ?_, g2⟩
    rw [f_ZF_keepFound_71, if_neg (by rw [ii_le (by omega) (by omega) (by omega) (by omega)]; omega), e1, show (ii ((j - 1 : Nat) : Int)).toNatClampNeg = j - 1 by rw [ii_nat (by omega) (by omega)]; omega, if_neg (by rw [ii_lit, ii_lt (by omega) (by omega) (by omega) (by omega)]; omega), show (ii (j : Int)).toNatClampNeg = j by rw [ii_nat (by omega) (by omega)]; omega, if_neg (by rw [ii_lit, ii_lt (by omega) (by omega) (by omega) (by omega)]; omega), iiP (by omega)]
    exact g1
theorem kf13 {A : Nat → Int64} (hnf : 10000 ≤ nf) (hc : c < 42) (hS : SS A f c) (hu : isI u) : ∀ (j fu : Nat), j ≤ c → j < fu → (∀ k, j ≤ k → k < c → u < f k) → ∃ (f' : Nat → Int) (c' : Nat) (A' : Nat → Int64), f_ZF_keepFound_13 nf fu (ii ((j : Int) - 1)) (ii (j : Int)) (jj u) (ii (c : Int)) A = some (ii (c' : Int), A') ∧ SS A' f' c' ∧ c' ≤ c + 1 ∧ ∀ v, memb f' c' v ↔ memb f c v ∨ v = u := by
  have hu' := hu
  unfold isI at hu'
  have fin : ∀ p, p ≤ c → (∀ k, k < p → f k < u) → (∀ k, p ≤ k → k < c → u < f k) → ∃ (f' : Nat → Int) (c' : Nat) (A' : Nat → Int64), f_ZF_keepFound_52 nf (ii (p : Int)) (jj u) (ii (c : Int)) A = some (ii (c' : Int), A') ∧ SS A' f' c' ∧ c' ≤ c + 1 ∧ ∀ v, memb f' c' v ↔ memb f c v ∨ v = u := by
    intro p hp h1 h2
    obtain ⟨W', g1, g2⟩ := kf71 (nf := nf) hc (fun k hk => (hS.1 k hk).2) hu hp (c - p) c nf (by omega) (by omega) (by omega) A ⟨fun k hk => (hS.1 k hk).1, fun k h1 h2 => by omega⟩
    obtain ⟨i1, i2⟩ := ins_ok hS.2 hp h1 h2
    refine ⟨insf f p u, c + 1, W', ?_, ⟨g2, i1⟩, by omega, i2⟩
    unfold f_ZF_keepFound_52
    rw [if_pos (by rw [ii_lit, ii_lt (by omega) (by omega) (by omega) (by omega)]; omega)]
    exact g1
  intro j
  induction j with
  | zero =>
    intro fu hj hf h
    obtain ⟨f', rfl⟩ : ∃ f', fu = f' + 1 := ⟨fu - 1, by omega⟩
    rw [f_ZF_keepFound_13, if_pos (by decide)]
    exact fin 0 (by omega) (fun k hk => by omega) h
  | succ j ih =>
    intro fu hj hf h
    obtain ⟨f', rfl⟩ : ∃ f', fu = f' + 1 := ⟨fu - 1, by omega⟩
    obtain ⟨t1, t2⟩ := hS.1 j (by omega)
    unfold isI at t2
    have e1 : ((j + 1 : Nat) : Int) - 1 = (j : Int) := by omega
    have ej : (ii (j : Int)).toNatClampNeg = j := by rw [ii_nat (by omega) (by omega)]; omega
    have nj : ¬ (ii (j : Int) < 0 ∨ 42 ≤ j) := by rw [ii_lit, ii_lt (by omega) (by omega) (by omega) (by omega)]; omega
    rw [e1, f_ZF_keepFound_13, if_neg (fun w => nj (Or.inl w)), ej, if_neg nj, if_neg nj, t1]
    by_cases a : f j < u
    · rw [if_pos ((jj_lt (by omega) (by omega) (by omega) (by omega)).mpr a)]
      refine fin (j + 1) hj (fun k hk => ?_) h
      by_cases w : k = j
      · rw [w]; exact a
      · have := ss_lt hS.2 (a := k) (b := j) (by omega) (by omega); omega
    · rw [if_neg (fun w => a ((jj_lt (by omega) (by omega) (by omega) (by omega)).mp w))]
      by_cases b : f j = u
      · rw [if_pos ((jj_eq (by omega) (by omega) (by omega) (by omega)).mpr b)]
        refine ⟨f, c, A, rfl, hS, by omega, fun v => ⟨Or.inl, fun w => w.elim id (fun q => ⟨j, by omega, by rw [q, b]⟩)⟩⟩
      · rw [if_neg (fun w => b ((jj_eq (by omega) (by omega) (by omega) (by omega)).mp w)), show ii (j : Int) + (-1) = ii ((j : Int) - 1) by rw [show (-1 : Int32) = ii (-1) from rfl, ii_add]; rfl]
        refine ih f' (by omega) (by omega) (fun k h1 h2 => ?_)
        by_cases w : k = j
        · rw [w]; omega
        · exact h k (by omega) h2
theorem ckeep {A : Nat → Int64} (hnf : 10000 ≤ nf) (hc : c < 42) (hS : SS A f c) (hu : isI u) : ∃ (f' : Nat → Int) (c' : Nat) (A' : Nat → Int64), f_ZF_keepFound nf (jj u) (ii (c : Int)) A = some (ii (c' : Int), A') ∧ SS A' f' c' ∧ c' ≤ c + 1 ∧ ∀ v, memb f' c' v ↔ memb f c v ∨ v = u := by
  unfold f_ZF_keepFound f_ZF_keepFound_0
  rw [show ii (c : Int) - 1 = ii ((c : Int) - 1) by rw [ii_lit, ii_sub]]
  exact kf13 hnf hc hS hu c nf (by omega) (by omega) (fun k h1 h2 => by omega)
end
section
variable {nf : Nat} {si : Nat → Int32} {sj : Nat → Int64} {sa : Nat → Nat → Int32} {f : Nat → Int} {c : Nat} {u : Int}
theorem mk97 (hc : c < 50) (h55 : si 55 = ii (c : Int)) (hb : ∀ k, k < c → isI (f k)) (hf : ∀ k, k + 1 < c → f k < f (k + 1)) (hu : isI u) (hm : ¬ memb f c u) : ∀ (j fu : Nat), j ≤ c → j < fu → (∀ k, j ≤ k → k < c → u < f k) → ∀ sb : Nat → Nat → Int64, shft (sb 54) f c j → ∃ (f' : Nat → Int) (sb' : Nat → Nat → Int64), f_Mo_tryOffset_97 nf fu (ii (j : Int)) (jj u) si sj sa sb = some (va_up si 55 (ii ((c + 1 : Nat) : Int)), sj, sa, sb') ∧ SS (sb' 54) f' (c + 1) ∧ (∀ v, memb f' (c + 1) v ↔ memb f c v ∨ v = u) ∧ ∀ b, b ≠ 54 → sb' b = sb b := by
  have hu' := hu
  unfold isI at hu'
  have fin : ∀ p, p ≤ c → (∀ k, k < p → f k < u) → (∀ k, p ≤ k → k < c → u < f k) → ∀ sb : Nat → Nat → Int64, shft (sb 54) f c p → ∃ (f' : Nat → Int) (sb' : Nat → Nat → Int64), f_Mo_tryOffset_139 nf (ii (p : Int)) (jj u) si sj sa sb = some (va_up si 55 (ii ((c + 1 : Nat) : Int)), sj, sa, sb') ∧ SS (sb' 54) f' (c + 1) ∧ (∀ v, memb f' (c + 1) v ↔ memb f c v ∨ v = u) ∧ ∀ b, b ≠ 54 → sb' b = sb b := by
    intro p hp h1 h2 sb hsh
    obtain ⟨i1, i2⟩ := ins_ok hf hp h1 h2
    refine ⟨insf f p u, va_up sb 54 (vp_updL (sb 54) p (jj u)), ?_, ⟨?_, i1⟩, i2, fun b hb => vup_ne hb⟩
    · unfold f_Mo_tryOffset_139
      rw [show (ii (p : Int)).toNatClampNeg = p by rw [ii_nat (by omega) (by omega)]; omega, if_neg (by rw [ii_lit, ii_lt (by omega) (by omega) (by omega) (by omega)]; omega), h55, iiS]
    · rw [vup_eq]
      exact hsh.fin hb hu hp
  intro j
  induction j with
  | zero =>
    intro fu hj hf' h sb hsh
    obtain ⟨f', rfl⟩ : ∃ f', fu = f' + 1 := ⟨fu - 1, by omega⟩
    rw [f_Mo_tryOffset_97, if_pos (by decide)]
    exact fin 0 (by omega) (fun k hk => by omega) h sb hsh
  | succ j ih =>
    intro fu hj hf' h sb hsh
    obtain ⟨f', rfl⟩ : ∃ f', fu = f' + 1 := ⟨fu - 1, by omega⟩
    have t2 := hb j (by omega)
    unfold isI at t2
    have e1 : ii ((j + 1 : Nat) : Int) - 1 = ii (j : Int) := by rw [ii_lit, ii_sub]; congr 1; omega
    have ej : (ii (j : Int)).toNatClampNeg = j := by rw [ii_nat (by omega) (by omega)]; omega
    have nj : ¬ (ii (j : Int) < 0 ∨ 64 ≤ j) := by rw [ii_lit, ii_lt (by omega) (by omega) (by omega) (by omega)]; omega
    have ej' : (ii ((j + 1 : Nat) : Int)).toNatClampNeg = j + 1 := by rw [ii_nat (by omega) (by omega)]; omega
    have nj' : ¬ (ii ((j + 1 : Nat) : Int) < 0 ∨ 64 ≤ j + 1) := by rw [ii_lit, ii_lt (by omega) (by omega) (by omega) (by omega)]; omega
    rw [f_Mo_tryOffset_97, if_neg (by rw [ii_lit, ii_le (by omega) (by omega) (by omega) (by omega)]; omega), e1, ej, if_neg nj, if_neg nj, ej', if_neg nj', hsh.1 j (by omega)]
    by_cases a : f j ≤ u
    · rw [if_pos ((jj_le (by omega) (by omega) (by omega) (by omega)).mpr a)]
      refine fin (j + 1) hj (fun k hk => ?_) h sb hsh
      have : f j ≠ u := fun w => hm ⟨j, by omega, w⟩
      by_cases w : k = j
      · rw [w]; omega
      · have := ss_lt hf (a := k) (b := j) (by omega) (by omega); omega
    · rw [if_neg (fun w => a ((jj_le (by omega) (by omega) (by omega) (by omega)).mp w)), show ii ((j + 1 : Nat) : Int) + (-1) = ii (j : Int) by rw [show (-1 : Int32) = ii (-1) from rfl, ii_add]; congr 1; omega]
      have hst := hsh.step (by omega) hj
      rw [show j + 1 - 1 = j by omega, hsh.1 j (by omega)] at hst
      obtain ⟨f2, sb', g1, g2, g3, g4⟩ := ih f' (by omega) (by omega) (fun k h1 h2 => by
        by_cases w : k = j
        · rw [w]; omega
        · exact h k (by omega) h2) (va_up sb 54 (vp_updL (sb 54) (j + 1) (jj (f j)))) (by rw [vup_eq]; exact hst)
      exact ⟨f2, sb', g1, g2, g3, fun b hb => (g4 b hb).trans (vup_ne hb)⟩
theorem or01 {a b : Int32} (ha : a = 0 ∨ a = 1) (hb : b = 0 ∨ b = 1) : (a ||| b = 0 ∨ a ||| b = 1) ∧ (a ||| b = 1 ↔ a = 1 ∨ b = 1) := by
  rcases ha with rfl | rfl <;> rcases hb with rfl | rfl <;> decide
end
section
variable {nf : Nat} {z : ZS} {sa : Nat → Nat → Int32} {sb : Nat → Nat → Int64} {i n t r : Nat} {tm : Nat → Int} {tt : Nat → Nat} {hs : Bool} {b e : ET} {O D : Int → Int} {Z : Int → Nat} {B : Int → Nat → Int32}
/-- u has local time s -/
def Acc (n r : Nat) (tm : Nat → Int) (tt : Nat → Nat) (hs : Bool) (b e : ET) (O : Int → Int) (s u : Int) : Prop := isI u ∧ ∃ k, upto n tm u k ∧ stI n r tt (hs && suB b e u) k ≠ -3 ∧ O (stI n r tt (hs && suB b e u) k) = s - u
theorem upto_uq {g : Nat → Int} {v : Int} {k k' : Nat} (h : upto n g v k) (h' : upto n g v k') : k = k' := by
  obtain ⟨a1, a2, a3⟩ := h
  obtain ⟨b1, b2, b3⟩ := h'
  by_cases c : k < k'
  · have := b2 k c; have := a3 k (by omega) (by omega); omega
  · by_cases d : k' < k
    · have := a2 k' d; have := b3 k' (by omega) (by omega); omega
    · omega
theorem Acc.iff {s u : Int} {k : Nat} (hu : isI u) (hk : upto n tm u k) : Acc n r tm tt hs b e O s u ↔ (stI n r tt (hs && suB b e u) k ≠ -3 ∧ O (stI n r tt (hs && suB b e u) k) = s - u) := by
  constructor
  · rintro ⟨_, k', h1, h2⟩
    rw [upto_uq hk h1]
    exact h2
  · intro h
    exact ⟨hu, k, hk, h⟩
/-- the class: all guesses from q on -/
theorem ZV.cfind (h : ZV z sa sb i n t r tm tt hs b e O D Z B) (hnf : 10000 ≤ nf) {s : Int} (hs' : isI s) (co : Int → Int) (hco : ∀ g : Int, -2 ≤ g → g < t → f_Zone_offsetOf nf (ii g) z.2.2.1 z.2.2.2.2.2.2.2.2.1 z.2.2.2.2.2.2.2.2.2.2.2.2.2.2.2.2.2.2.2.2.1 z.2.2.2.2.2.2.2.2.2.2.2.2.2.2.2.2.2.2.2.2.2.1 = some (ii (co g)) ∧ -2147483648 ≤ co g ∧ co g < 2147483648) : ∀ (d : Nat) (q : Int) (fu : Nat), q + d = t → -2 ≤ q → d < fu → ∀ (f : Nat → Int) (c : Nat) (A : Nat → Int64), SS A f c → (c : Int) ≤ q + 2 → (∀ u, memb f c u → Acc n r tm tt hs b e O s u) → (∀ g : Int, -2 ≤ g → g < q → Acc n r tm tt hs b e O s (s - co g) → memb f c (s - co g)) →
    ∃ (f' : Nat → Int) (c' : Nat) (A' : Nat → Int64), f_ZF_find_25 nf z.2.1 z.2.2.1 z.2.2.2.2.2.2.1 z.2.2.2.2.2.2.2.1 z.2.2.2.2.2.2.2.2.1 z.2.2.2.2.2.2.2.2.2.2.2.2.2.2.2.2.2.2.1 z.2.2.2.2.2.2.2.2.2.2.2.2.2.2.2.2.2.2.2.2.1 z.2.2.2.2.2.2.2.2.2.2.2.2.2.2.2.2.2.2.2.2.2.1 z.2.2.2.2.2.2.2.2.2.2.2.2.2.2.2.2.2.2.2.2.2.2.2.2.2.2.2.1 z.2.2.2.2.2.2.2.2.2.2.2.2.2.2.2.2.2.2.2.2.2.2.2.2.2.2.2.2.2.2.1 z.2.2.2.2.2.2.2.2.2.2.2.2.2.2.2.2.2.2.2.2.2.2.2.2.2.2.2.2.2.2.2.1 z.2.2.2.2.2.2.2.2.2.2.2.2.2.2.2.2.2.2.2.2.2.2.2.2.2.2.2.2.2.2.2.2.1 z.2.2.2.2.2.2.2.2.2.2.2.2.2.2.2.2.2.2.2.2.2.2.2.2.2.2.2.2.2.2.2.2.2.1 z.2.2.2.2.2.2.2.2.2.2.2.2.2.2.2.2.2.2.2.2.2.2.2.2.2.2.2.2.2.2.2.2.2.2.1 z.2.2.2.2.2.2.2.2.2.2.2.2.2.2.2.2.2.2.2.2.2.2.2.2.2.2.2.2.2.2.2.2.2.2.2.1 z.2.2.2.2.2.2.2.2.2.2.2.2.2.2.2.2.2.2.2.2.2.2.2.2.2.2.2.2.2.2.2.2.2.2.2.2.1 z.2.2.2.2.2.2.2.2.2.2.2.2.2.2.2.2.2.2.2.2.2.2.2.2.2.2.2.2.2.2.2.2.2.2.2.2.2.1 z.2.2.2.2.2.2.2.2.2.2.2.2.2.2.2.2.2.2.2.2.2.2.2.2.2.2.2.2.2.2.2.2.2.2.2.2.2.2.1 z.2.2.2.2.2.2.2.2.2.2.2.2.2.2.2.2.2.2.2.2.2.2.2.2.2.2.2.2.2.2.2.2.2.2.2.2.2.2.2.1 z.2.2.2.2.2.2.2.2.2.2.2.2.2.2.2.2.2.2.2.2.2.2.2.2.2.2.2.2.2.2.2.2.2.2.2.2.2.2.2.2.1 z.2.2.2.2.2.2.2.2.2.2.2.2.2.2.2.2.2.2.2.2.2.2.2.2.2.2.2.2.2.2.2.2.2.2.2.2.2.2.2.2.2 fu (ii q) (jj s) (ii (c : Int)) A = some (ii (c' : Int), ii (c' : Int), A') ∧ SS A' f' c' ∧ c' ≤ 42 ∧ (∀ u, memb f' c' u → Acc n r tm tt hs b e O s u) ∧ ∀ g : Int, -2 ≤ g → g < t → Acc n r tm tt hs b e O s (s - co g) → memb f' c' (s - co g) := by
  have hty := h.1.2.2.2.2.2.2.1
  have ht := h.1.2.2.2.1
  have hsb := hs'
  unfold isI at hsb
  intro d
  induction d with
  | zero =>
    intro q fu hq hq2 hf f c A hS hc h1 h2
    obtain ⟨f', rfl⟩ : ∃ f', fu = f' + 1 := ⟨fu - 1, by omega⟩
    rw [f_ZF_find_25, hty, if_pos (by rw [ii_le (by omega) (by omega) (by omega) (by omega)]; omega)]
    exact ⟨f, c, A, rfl, hS, by omega, h1, fun g g1 g2 => h2 g g1 (by omega)⟩
  | succ d ih =>
    intro q fu hq hq2 hf f c A hS hc h1 h2
    obtain ⟨fw, rfl⟩ : ∃ fw, fu = fw + 1 := ⟨fu - 1, by omega⟩
    obtain ⟨o1, o2, o3⟩ := hco q hq2 (by omega)
    have eu : jj s - (ii (co q)).toInt64 = jj (s - co q) := by rw [ii_64 o2 o3, jj_sub]
    have eq1 : ii q + 1 = ii (q + 1) := by rw [ii_lit, ii_add]
    have next : ∀ (f2 : Nat → Int) (c2 : Nat) (A2 : Nat → Int64), SS A2 f2 c2 → c2 ≤ c + 1 → (∀ u, memb f2 c2 u → Acc n r tm tt hs b e O s u) → (∀ g : Int, -2 ≤ g → g < q → Acc n r tm tt hs b e O s (s - co g) → memb f2 c2 (s - co g)) → (Acc n r tm tt hs b e O s (s - co q) → memb f2 c2 (s - co q)) → ∃ (f' : Nat → Int) (c' : Nat) (A' : Nat → Int64), f_ZF_find_93 nf (f_ZF_find_25 nf z.2.1 z.2.2.1 z.2.2.2.2.2.2.1 z.2.2.2.2.2.2.2.1 z.2.2.2.2.2.2.2.2.1 z.2.2.2.2.2.2.2.2.2.2.2.2.2.2.2.2.2.2.1 z.2.2.2.2.2.2.2.2.2.2.2.2.2.2.2.2.2.2.2.2.1 z.2.2.2.2.2.2.2.2.2.2.2.2.2.2.2.2.2.2.2.2.2.1 z.2.2.2.2.2.2.2.2.2.2.2.2.2.2.2.2.2.2.2.2.2.2.2.2.2.2.2.1 z.2.2.2.2.2.2.2.2.2.2.2.2.2.2.2.2.2.2.2.2.2.2.2.2.2.2.2.2.2.2.1 z.2.2.2.2.2.2.2.2.2.2.2.2.2.2.2.2.2.2.2.2.2.2.2.2.2.2.2.2.2.2.2.1 z.2.2.2.2.2.2.2.2.2.2.2.2.2.2.2.2.2.2.2.2.2.2.2.2.2.2.2.2.2.2.2.2.1 z.2.2.2.2.2.2.2.2.2.2.2.2.2.2.2.2.2.2.2.2.2.2.2.2.2.2.2.2.2.2.2.2.2.1 z.2.2.2.2.2.2.2.2.2.2.2.2.2.2.2.2.2.2.2.2.2.2.2.2.2.2.2.2.2.2.2.2.2.2.1 z.2.2.2.2.2.2.2.2.2.2.2.2.2.2.2.2.2.2.2.2.2.2.2.2.2.2.2.2.2.2.2.2.2.2.2.1 z.2.2.2.2.2.2.2.2.2.2.2.2.2.2.2.2.2.2.2.2.2.2.2.2.2.2.2.2.2.2.2.2.2.2.2.2.1 z.2.2.2.2.2.2.2.2.2.2.2.2.2.2.2.2.2.2.2.2.2.2.2.2.2.2.2.2.2.2.2.2.2.2.2.2.2.1 z.2.2.2.2.2.2.2.2.2.2.2.2.2.2.2.2.2.2.2.2.2.2.2.2.2.2.2.2.2.2.2.2.2.2.2.2.2.2.1 z.2.2.2.2.2.2.2.2.2.2.2.2.2.2.2.2.2.2.2.2.2.2.2.2.2.2.2.2.2.2.2.2.2.2.2.2.2.2.2.1 z.2.2.2.2.2.2.2.2.2.2.2.2.2.2.2.2.2.2.2.2.2.2.2.2.2.2.2.2.2.2.2.2.2.2.2.2.2.2.2.2.1 z.2.2.2.2.2.2.2.2.2.2.2.2.2.2.2.2.2.2.2.2.2.2.2.2.2.2.2.2.2.2.2.2.2.2.2.2.2.2.2.2.2 fw) (ii q) (jj s) (ii (c2 : Int)) A2 = some (ii (c' : Int), ii (c' : Int), A') ∧ SS A' f' c' ∧ c' ≤ 42 ∧ (∀ u, memb f' c' u → Acc n r tm tt hs b e O s u) ∧ ∀ g : Int, -2 ≤ g → g < t → Acc n r tm tt hs b e O s (s - co g) → memb f' c' (s - co g) := by
      intro f2 c2 A2 q1 q2 q3 q4 q5
      unfold f_ZF_find_93
      rw [eq1]
      exact ih (q + 1) fw (by omega) (by omega) (by omega) f2 c2 A2 q1 (by omega) q3 (fun g g1 g2 ga => by
        by_cases w : g = q
        · rw [w] at ga ⊢; exact q5 ga
        · exact q4 g g1 (by omega) ga)
    obtain ⟨i1, _⟩ := cinst nf (v := s - co q) (by omega) (by omega)
    rw [f_ZF_find_25, hty, if_neg (by rw [ii_le (by omega) (by omega) (by omega) (by omega)]; omega), ← hty, o1, Option.bind_some, eu, i1, Option.bind_some]
    by_cases cI : -1152921504606846975 ≤ s - co q ∧ s - co q ≤ 1152921504606846975
    · obtain ⟨k, hk⟩ := h.ex (s - co q)
      have cs := h.cstate hnf cI hk
      have ok := stI_ok (v := s - co q) h hk.1
      have ai := Acc.iff (r := r) (tt := tt) (hs := hs) (b := b) (e := e) (O := O) (s := s) cI hk
      generalize stI n r tt (hs && suB b e (s - co q)) k = g at cs ok ai
      rw [if_pos cI, if_neg (by decide), cs, Option.bind_some]
      rcases ok with ok | ⟨rfl, _⟩
      · obtain ⟨z1, z2, z3, z4, z5, z6⟩ := h.2.2.1 g ok
        obtain ⟨c1, _⟩ := z6 nf hnf
        have gb : -3 < g ∧ g ≤ 1000 := by
          unfold vg at ok
          omega
        have e8 : jj (s - co q) + (ii (O g)).toInt64 = jj (s - co q + O g) := by rw [ii_64 (by omega) (by omega), jj_add]
        rw [if_neg (by rw [ii_neg3 (by omega) (by omega)]; omega), c1, Option.bind_some, e8]
        by_cases w : O g = co q
        · rw [if_pos ((jj_eq (by omega) (by omega) (by omega) (by omega)).mpr (by omega))]
          obtain ⟨f2, c2, A2, k1, k2, k3, k4⟩ := ckeep (nf := nf) hnf (show c < 42 by omega) hS cI
          rw [k1, Option.bind_some]
          have acc : Acc n r tm tt hs b e O s (s - co q) := ai.mpr ⟨by omega, by omega⟩
          refine next f2 c2 A2 k2 k3 (fun u hu => ?_) (fun g g1 g2 ga => (k4 _).mpr (Or.inl (h2 g g1 g2 ga))) (fun _ => (k4 _).mpr (Or.inr rfl))
          rcases (k4 u).mp hu with hu | rfl
          · exact h1 u hu
          · exact acc
        · rw [if_neg (fun y => by rw [jj_eq (by omega) (by omega) (by omega) (by omega)] at y; omega)]
          exact next f c A hS (by omega) h1 h2 (fun ga => by have := (ai.mp ga).2; omega)
      · rw [if_pos (show ii (-3) = (-3 : Int32) from rfl)]
        exact next f c A hS (by omega) h1 h2 (fun ga => absurd rfl (ai.mp ga).1)
    · rw [if_neg cI, if_pos rfl]
      exact next f c A hS (by omega) h1 h2 (fun ga => absurd ga.1 cI)
end
