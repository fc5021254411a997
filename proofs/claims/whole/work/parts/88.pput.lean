/-! ===== put: one zone's cells into another's ===== -/
section
variable {α : Type}
/-- w cells of zone o into zone x's, k of them, in the rows of L -/
def cpy (L : List Nat) (w x o k : Nat) (A : Nat → Nat → α) : Nat → Nat → α := fun a j => if a ∈ L ∧ w * x ≤ j ∧ j < w * x + k then A a (w * o + (j - w * x)) else A a j
def ups (A : Nat → Nat → α) (p q : Nat) : List Nat → (Nat → Nat → α) → Nat → Nat → α
  | [], B => B
  | b :: L, B => ups A p q L (va_up B b (fun j => if j = p then A b q else A b j))
theorem ups_at (A : Nat → Nat → α) (p q : Nat) : ∀ (L : List Nat) (B : Nat → Nat → α) (a j : Nat), ups A p q L B a j = if a ∈ L then (if j = p then A a q else A a j) else B a j := by
  intro L
  induction L with
  | nil => intro B a j; simp [ups]
  | cons b L ih =>
    intro B a j
    rw [ups, ih]
    by_cases h : a ∈ L
    · rw [if_pos h, if_pos (List.mem_cons_of_mem b h)]
    · rw [if_neg h]
      by_cases e : a = b
      · subst e
        rw [vup_eq, if_pos (List.mem_cons_self)]
      · rw [vup_ne e, if_neg (fun z => (List.mem_cons.mp z).elim e h)]
theorem cpy_in {L : List Nat} {w x o k : Nat} {A : Nat → Nat → α} {a j : Nat} (h : a ∈ L) (hj : j < k) : cpy L w x o k A a (w * x + j) = A a (w * o + j) := by
  unfold cpy
  rw [if_pos ⟨h, by omega, by omega⟩, show w * x + j - w * x = j by omega]
theorem cpy_out {L : List Nat} {w x o k : Nat} {A : Nat → Nat → α} {a j : Nat} (h : ¬ (a ∈ L ∧ w * x ≤ j ∧ j < w * x + k)) : cpy L w x o k A a j = A a j := by
  unfold cpy
  rw [if_neg h]
theorem cpy_zero (L : List Nat) (w x o : Nat) (A : Nat → Nat → α) : cpy L w x o 0 A = A := by
  funext a j
  exact cpy_out (fun z => by omega)
theorem wlo {w x o k : Nat} (hx : x ≠ o) (hk : k < w) (d : Nat) (hd : d ≤ w) : ¬ (w * x ≤ w * o + k ∧ w * o + k < w * x + d) := by
  rintro ⟨h1, h2⟩
  rcases Nat.lt_or_gt_of_ne hx with q | q
  · have : w * (x + 1) ≤ w * o := Nat.mul_le_mul_left w q
    rw [Nat.mul_add] at this
    omega
  · have : w * (o + 1) ≤ w * x := Nat.mul_le_mul_left w q
    rw [Nat.mul_add] at this
    omega
theorem cpy_succ {L : List Nat} {w x o k : Nat} (A : Nat → Nat → α) (hx : x ≠ o) (hk : k < w) : ups (cpy L w x o k A) (w * x + k) (w * o + k) L (cpy L w x o k A) = cpy L w x o (k + 1) A := by
  funext a j
  rw [ups_at]
  by_cases h : a ∈ L
  · rw [if_pos h]
    by_cases e : j = w * x + k
    · subst e
      rw [if_pos rfl, cpy_in h (Nat.lt_succ_self k), cpy_out (fun z => wlo hx hk k (by omega) z.2)]
    · rw [if_neg e]
      unfold cpy
      by_cases q : w * x ≤ j ∧ j < w * x + k
      · rw [if_pos ⟨h, q⟩, if_pos ⟨h, by omega, by omega⟩]
      · rw [if_neg (fun z => q z.2), if_neg (fun z => q ⟨z.2.1, by omega⟩)]
  · rw [if_neg h, cpy_out (fun z => h z.1), cpy_out (fun z => h z.1)]
end
theorem sl2 {w i k m : Nat} (hw : w ≤ 200) (hi : i < 5) (hk : k < w) (hm : 5 * w = m) : ∀ W : Int32, W = ii (w : Int) → (W * ii (i : Int) + ii (k : Int)).toNatClampNeg = w * i + k ∧ ¬ (W * ii (i : Int) + ii (k : Int) < 0 ∨ m ≤ w * i + k) := by
  intro W hW
  rw [hW]
  exact slice hw hi hk (by omega) (by omega)
section
variable {nf : Nat} {si : Nat → Int32} {sj : Nat → Int64} {x o : Nat}
theorem put557 (hx : x < 5) (ho : o < 5) (hne : x ≠ o) (sa : Nat → Nat → Int32) (sb : Nat → Nat → Int64) : ∀ (d k fu : Nat), k + d = 20 → d < fu → f_Mo_put_557 nf fu (ii (k : Int)) (ii (x : Int)) (ii (o : Int)) si sj (cpy [26] 20 x o k sa) sb = some (si, sj, cpy [26] 20 x o 20 sa, sb) := by
  intro d
  induction d with
  | zero =>
    intro k fu hk hf
    obtain ⟨f, rfl⟩ : ∃ f, fu = f + 1 := ⟨fu - 1, by omega⟩
    obtain rfl : k = 20 := by omega
    rw [f_Mo_put_557, if_pos (by decide)]
  | succ d ih =>
    intro k fu hk hf
    obtain ⟨f, rfl⟩ : ∃ f, fu = f + 1 := ⟨fu - 1, by omega⟩
    obtain ⟨a1, a2⟩ := sl2 (w := 20) (i := x) (k := k) (m := 100) (by omega) hx (by omega) (by omega) 20 rfl
    obtain ⟨b1, b2⟩ := sl2 (w := 20) (i := o) (k := k) (m := 100) (by omega) ho (by omega) (by omega) 20 rfl
    have e := ih (k + 1) f (by omega) (by omega)
    rw [← cpy_succ sa hne (by omega)] at e
    rw [f_Mo_put_557, if_neg (by rw [ii_lit, ii_le (by omega) (by omega) (by omega) (by omega)]; omega), a1, b1, if_neg a2, if_neg b2, iiS]
    exact e
theorem put404 (hnf : 1000 ≤ nf) (hx : x < 5) (ho : o < 5) (hne : x ≠ o) (sa : Nat → Nat → Int32) (sb : Nat → Nat → Int64) : ∀ (d k fu : Nat), k + d = 2 → d < fu → f_Mo_put_404 nf fu (ii (k : Int)) (ii (x : Int)) (ii (o : Int)) si sj (cpy [24, 25, 27, 28, 29, 30, 31] 2 x o k sa) sb = some (si, sj, cpy [26] 20 x o 20 (cpy [24, 25, 27, 28, 29, 30, 31] 2 x o 2 sa), sb) := by
  intro d
  induction d with
  | zero =>
    intro k fu hk hf
    obtain ⟨f, rfl⟩ : ∃ f, fu = f + 1 := ⟨fu - 1, by omega⟩
    obtain rfl : k = 2 := by omega
    have e := put557 (nf := nf) (si := si) (sj := sj) hx ho hne (cpy [24, 25, 27, 28, 29, 30, 31] 2 x o 2 sa) sb 20 0 nf (by omega) (by omega)
    rw [cpy_zero] at e
    rw [f_Mo_put_404, if_pos (by decide)]
    exact e
  | succ d ih =>
    intro k fu hk hf
    obtain ⟨f, rfl⟩ : ∃ f, fu = f + 1 := ⟨fu - 1, by omega⟩
    obtain ⟨a1, a2⟩ := sl2 (w := 2) (i := x) (k := k) (m := 10) (by omega) hx (by omega) (by omega) 2 rfl
    obtain ⟨b1, b2⟩ := sl2 (w := 2) (i := o) (k := k) (m := 10) (by omega) ho (by omega) (by omega) 2 rfl
    have e := ih (k + 1) f (by omega) (by omega)
    rw [← cpy_succ sa hne (by omega)] at e
    rw [f_Mo_put_404, if_neg (by rw [ii_lit, ii_le (by omega) (by omega) (by omega) (by omega)]; omega), a1, b1]
    simp only [if_neg a2, if_neg b2, iiS]
    exact e
theorem put365 (hnf : 1000 ≤ nf) (hx : x < 5) (ho : o < 5) (hne : x ≠ o) (sa : Nat → Nat → Int32) (sb : Nat → Nat → Int64) : ∀ (d k fu : Nat), k + d = 128 → d < fu → f_Mo_put_365 nf fu (ii (k : Int)) (ii (x : Int)) (ii (o : Int)) si sj (cpy [22] 128 x o k sa) sb = some (si, sj, cpy [26] 20 x o 20 (cpy [24, 25, 27, 28, 29, 30, 31] 2 x o 2 (cpy [22] 128 x o 128 sa)), sb) := by
  intro d
  induction d with
  | zero =>
    intro k fu hk hf
    obtain ⟨f, rfl⟩ : ∃ f, fu = f + 1 := ⟨fu - 1, by omega⟩
    obtain rfl : k = 128 := by omega
    have e := put404 (nf := nf) (si := si) (sj := sj) hnf hx ho hne (cpy [22] 128 x o 128 sa) sb 2 0 nf (by omega) (by omega)
    rw [cpy_zero] at e
    rw [f_Mo_put_365, if_pos (by decide)]
    exact e
  | succ d ih =>
    intro k fu hk hf
    obtain ⟨f, rfl⟩ : ∃ f, fu = f + 1 := ⟨fu - 1, by omega⟩
    obtain ⟨a1, a2⟩ := sl2 (w := 128) (i := x) (k := k) (m := 640) (by omega) hx (by omega) (by omega) 128 rfl
    obtain ⟨b1, b2⟩ := sl2 (w := 128) (i := o) (k := k) (m := 640) (by omega) ho (by omega) (by omega) 128 rfl
    have e := ih (k + 1) f (by omega) (by omega)
    rw [← cpy_succ sa hne (by omega)] at e
    rw [f_Mo_put_365, if_neg (by rw [ii_lit, ii_le (by omega) (by omega) (by omega) (by omega)]; omega), a1, b1, if_neg a2, if_neg b2, iiS]
    exact e
theorem put197 (hnf : 1000 ≤ nf) (hx : x < 5) (ho : o < 5) (hne : x ≠ o) (sa : Nat → Nat → Int32) (sb : Nat → Nat → Int64) : ∀ (d k fu : Nat), k + d = 40 → d < fu → f_Mo_put_197 nf fu (ii (k : Int)) (ii (x : Int)) (ii (o : Int)) si sj (cpy [14, 15, 16, 20, 21] 40 x o k sa) (cpy [18, 19] 40 x o k sb) = some (si, sj, cpy [26] 20 x o 20 (cpy [24, 25, 27, 28, 29, 30, 31] 2 x o 2 (cpy [22] 128 x o 128 (cpy [14, 15, 16, 20, 21] 40 x o 40 sa))), cpy [18, 19] 40 x o 40 sb) := by
  intro d
  induction d with
  | zero =>
    intro k fu hk hf
    obtain ⟨f, rfl⟩ : ∃ f, fu = f + 1 := ⟨fu - 1, by omega⟩
    obtain rfl : k = 40 := by omega
    have e := put365 (nf := nf) (si := si) (sj := sj) hnf hx ho hne (cpy [14, 15, 16, 20, 21] 40 x o 40 sa) (cpy [18, 19] 40 x o 40 sb) 128 0 nf (by omega) (by omega)
    rw [cpy_zero] at e
    rw [f_Mo_put_197, if_pos (by decide)]
    exact e
  | succ d ih =>
    intro k fu hk hf
    obtain ⟨f, rfl⟩ : ∃ f, fu = f + 1 := ⟨fu - 1, by omega⟩
    obtain ⟨a1, a2⟩ := sl2 (w := 40) (i := x) (k := k) (m := 200) (by omega) hx (by omega) (by omega) 40 rfl
    obtain ⟨b1, b2⟩ := sl2 (w := 40) (i := o) (k := k) (m := 200) (by omega) ho (by omega) (by omega) 40 rfl
    have e := ih (k + 1) f (by omega) (by omega)
    rw [← cpy_succ sa hne (by omega), ← cpy_succ sb hne (by omega)] at e
    rw [f_Mo_put_197, if_neg (by rw [ii_lit, ii_le (by omega) (by omega) (by omega) (by omega)]; omega), a1, b1]
    simp only [if_neg a2, if_neg b2, iiS]
    exact e
theorem put110 (hnf : 1000 ≤ nf) (hx : x < 5) (ho : o < 5) (hne : x ≠ o) (sa : Nat → Nat → Int32) (sb : Nat → Nat → Int64) : ∀ (d k fu : Nat), k + d = 200 → d < fu → f_Mo_put_110 nf fu (ii (k : Int)) (ii (x : Int)) (ii (o : Int)) si sj (cpy [13, 17] 200 x o k sa) (cpy [12] 200 x o k sb) = some (si, sj, cpy [26] 20 x o 20 (cpy [24, 25, 27, 28, 29, 30, 31] 2 x o 2 (cpy [22] 128 x o 128 (cpy [14, 15, 16, 20, 21] 40 x o 40 (cpy [13, 17] 200 x o 200 sa)))), cpy [18, 19] 40 x o 40 (cpy [12] 200 x o 200 sb)) := by
  intro d
  induction d with
  | zero =>
    intro k fu hk hf
    obtain ⟨f, rfl⟩ : ∃ f, fu = f + 1 := ⟨fu - 1, by omega⟩
    obtain rfl : k = 200 := by omega
    have e := put197 (nf := nf) (si := si) (sj := sj) hnf hx ho hne (cpy [13, 17] 200 x o 200 sa) (cpy [12] 200 x o 200 sb) 40 0 nf (by omega) (by omega)
    rw [cpy_zero, cpy_zero] at e
    rw [f_Mo_put_110, if_pos (by decide)]
    exact e
  | succ d ih =>
    intro k fu hk hf
    obtain ⟨f, rfl⟩ : ∃ f, fu = f + 1 := ⟨fu - 1, by omega⟩
    obtain ⟨a1, a2⟩ := sl2 (w := 200) (i := x) (k := k) (m := 1000) (by omega) hx (by omega) (by omega) 200 rfl
    obtain ⟨b1, b2⟩ := sl2 (w := 200) (i := o) (k := k) (m := 1000) (by omega) ho (by omega) (by omega) 200 rfl
    have e := ih (k + 1) f (by omega) (by omega)
    rw [← cpy_succ sa hne (by omega), ← cpy_succ sb hne (by omega)] at e
    rw [f_Mo_put_110, if_neg (by rw [ii_lit, ii_le (by omega) (by omega) (by omega) (by omega)]; omega), a1, b1]
    simp only [if_neg a2, if_neg b2, iiS]
    exact e
def putA (x o : Nat) (sa : Nat → Nat → Int32) : Nat → Nat → Int32 := cpy [26] 20 x o 20 (cpy [24, 25, 27, 28, 29, 30, 31] 2 x o 2 (cpy [22] 128 x o 128 (cpy [14, 15, 16, 20, 21] 40 x o 40 (cpy [13, 17] 200 x o 200 (cpy [4, 5, 6, 7, 8, 9, 10, 11, 23] 1 x o 1 sa)))))
def putB (x o : Nat) (sb : Nat → Nat → Int64) : Nat → Nat → Int64 := cpy [18, 19] 40 x o 40 (cpy [12] 200 x o 200 sb)
theorem mput (hnf : 1000 ≤ nf) (hx : x < 5) (ho : o < 5) (hne : x ≠ o) (sa : Nat → Nat → Int32) (sb : Nat → Nat → Int64) : f_Mo_put nf (ii (x : Int)) (ii (o : Int)) si sj sa sb = some (si, sj, putA x o sa, putB x o sb) := by
  have e := put110 (nf := nf) (si := si) (sj := sj) hnf hx ho hne (cpy [4, 5, 6, 7, 8, 9, 10, 11, 23] 1 x o 1 sa) sb 200 0 nf (by omega) (by omega)
  rw [cpy_zero, cpy_zero] at e
  have e0 : ups sa x o [4, 5, 6, 7, 8, 9, 10, 11, 23] sa = cpy [4, 5, 6, 7, 8, 9, 10, 11, 23] 1 x o 1 sa := by
    have := cpy_succ (L := [4, 5, 6, 7, 8, 9, 10, 11, 23]) (w := 1) (x := x) (o := o) (k := 0) sa hne (by omega)
    rw [cpy_zero, Nat.one_mul, Nat.one_mul, Nat.add_zero, Nat.add_zero] at this
    exact this
  have x1 : (ii (x : Int)).toNatClampNeg = x := by rw [ii_nat (by omega) (by omega)]; omega
  have x2 : ¬ (ii (x : Int) < 0 ∨ 5 ≤ x) := by rw [ii_lit, ii_lt (by omega) (by omega) (by omega) (by omega)]; omega
  have o1 : (ii (o : Int)).toNatClampNeg = o := by rw [ii_nat (by omega) (by omega)]; omega
  have o2 : ¬ (ii (o : Int) < 0 ∨ 5 ≤ o) := by rw [ii_lit, ii_lt (by omega) (by omega) (by omega) (by omega)]; omega
  unfold f_Mo_put f_Mo_put_0
  rw [x1, o1]
  simp only [if_neg x2, if_neg o2]
  show f_Mo_put_110 nf nf (ii ((0 : Nat) : Int)) (ii (x : Int)) (ii (o : Int)) si sj (ups sa x o [4, 5, 6, 7, 8, 9, 10, 11, 23] sa) sb = _
  rw [e0]
  exact e
end
/-- which rows have zones' cells, and how many a zone -/
def kW (a w : Nat) : Prop := (a ∈ [4, 5, 6, 7, 8, 9, 10, 11, 23] ∧ w = 1) ∨ (a ∈ [13, 17] ∧ w = 200) ∨ (a ∈ [14, 15, 16, 20, 21] ∧ w = 40) ∨ (a ∈ [22] ∧ w = 128) ∨ (a ∈ [24, 25, 27, 28, 29, 30, 31] ∧ w = 2) ∨ (a ∈ [26] ∧ w = 20)
def kV (b w : Nat) : Prop := (b ∈ [18, 19] ∧ w = 40) ∨ (b ∈ [12] ∧ w = 200)
theorem putA_in {x o a w k : Nat} {sa : Nat → Nat → Int32} (h : kW a w) (hk : k < w) : putA x o sa a (w * x + k) = sa a (w * o + k) := by
  unfold putA
  rcases h with ⟨h, rfl⟩ | ⟨h, rfl⟩ | ⟨h, rfl⟩ | ⟨h, rfl⟩ | ⟨h, rfl⟩ | ⟨h, rfl⟩ <;> simp only [List.mem_cons, List.not_mem_nil, or_false] at h
  · rw [cpy_out (fun z => by have := z.1; simp only [List.mem_cons, List.not_mem_nil, or_false] at this; omega), cpy_out (fun z => by have := z.1; simp only [List.mem_cons, List.not_mem_nil, or_false] at this; omega), cpy_out (fun z => by have := z.1; simp only [List.mem_cons, List.not_mem_nil, or_false] at this; omega), cpy_out (fun z => by have := z.1; simp only [List.mem_cons, List.not_mem_nil, or_false] at this; omega), cpy_out (fun z => by have := z.1; simp only [List.mem_cons, List.not_mem_nil, or_false] at this; omega), cpy_in (by simp only [List.mem_cons, List.not_mem_nil, or_false]; omega) hk]
  · rw [cpy_out (fun z => by have := z.1; simp only [List.mem_cons, List.not_mem_nil, or_false] at this; omega), cpy_out (fun z => by have := z.1; simp only [List.mem_cons, List.not_mem_nil, or_false] at this; omega), cpy_out (fun z => by have := z.1; simp only [List.mem_cons, List.not_mem_nil, or_false] at this; omega), cpy_out (fun z => by have := z.1; simp only [List.mem_cons, List.not_mem_nil, or_false] at this; omega), cpy_in (by simp only [List.mem_cons, List.not_mem_nil, or_false]; omega) hk, cpy_out (fun z => by have := z.1; simp only [List.mem_cons, List.not_mem_nil, or_false] at this; omega)]
  · rw [cpy_out (fun z => by have := z.1; simp only [List.mem_cons, List.not_mem_nil, or_false] at this; omega), cpy_out (fun z => by have := z.1; simp only [List.mem_cons, List.not_mem_nil, or_false] at this; omega), cpy_out (fun z => by have := z.1; simp only [List.mem_cons, List.not_mem_nil, or_false] at this; omega), cpy_in (by simp only [List.mem_cons, List.not_mem_nil, or_false]; omega) hk, cpy_out (fun z => by have := z.1; simp only [List.mem_cons, List.not_mem_nil, or_false] at this; omega), cpy_out (fun z => by have := z.1; simp only [List.mem_cons, List.not_mem_nil, or_false] at this; omega)]
  · rw [cpy_out (fun z => by have := z.1; simp only [List.mem_cons, List.not_mem_nil, or_false] at this; omega), cpy_out (fun z => by have := z.1; simp only [List.mem_cons, List.not_mem_nil, or_false] at this; omega), cpy_in (by simp only [List.mem_cons, List.not_mem_nil, or_false]; omega) hk, cpy_out (fun z => by have := z.1; simp only [List.mem_cons, List.not_mem_nil, or_false] at this; omega), cpy_out (fun z => by have := z.1; simp only [List.mem_cons, List.not_mem_nil, or_false] at this; omega), cpy_out (fun z => by have := z.1; simp only [List.mem_cons, List.not_mem_nil, or_false] at this; omega)]
  · rw [cpy_out (fun z => by have := z.1; simp only [List.mem_cons, List.not_mem_nil, or_false] at this; omega), cpy_in (by simp only [List.mem_cons, List.not_mem_nil, or_false]; omega) hk, cpy_out (fun z => by have := z.1; simp only [List.mem_cons, List.not_mem_nil, or_false] at this; omega), cpy_out (fun z => by have := z.1; simp only [List.mem_cons, List.not_mem_nil, or_false] at this; omega), cpy_out (fun z => by have := z.1; simp only [List.mem_cons, List.not_mem_nil, or_false] at this; omega), cpy_out (fun z => by have := z.1; simp only [List.mem_cons, List.not_mem_nil, or_false] at this; omega)]
  · rw [cpy_in (by simp only [List.mem_cons, List.not_mem_nil, or_false]; omega) hk, cpy_out (fun z => by have := z.1; simp only [List.mem_cons, List.not_mem_nil, or_false] at this; omega), cpy_out (fun z => by have := z.1; simp only [List.mem_cons, List.not_mem_nil, or_false] at this; omega), cpy_out (fun z => by have := z.1; simp only [List.mem_cons, List.not_mem_nil, or_false] at this; omega), cpy_out (fun z => by have := z.1; simp only [List.mem_cons, List.not_mem_nil, or_false] at this; omega), cpy_out (fun z => by have := z.1; simp only [List.mem_cons, List.not_mem_nil, or_false] at this; omega)]
theorem putA_out {x o a j : Nat} {sa : Nat → Nat → Int32} (h : ¬ kAz x a j) : putA x o sa a j = sa a j := by
  unfold kAz at h
  unfold putA
  rw [cpy_out (fun z => by have := z.1; simp only [List.mem_cons, List.not_mem_nil, or_false] at this; omega), cpy_out (fun z => by have := z.1; simp only [List.mem_cons, List.not_mem_nil, or_false] at this; omega), cpy_out (fun z => by have := z.1; simp only [List.mem_cons, List.not_mem_nil, or_false] at this; omega), cpy_out (fun z => by have := z.1; simp only [List.mem_cons, List.not_mem_nil, or_false] at this; omega), cpy_out (fun z => by have := z.1; simp only [List.mem_cons, List.not_mem_nil, or_false] at this; omega), cpy_out (fun z => by have := z.1; simp only [List.mem_cons, List.not_mem_nil, or_false] at this; omega)]
theorem putB_in {x o b w k : Nat} {sb : Nat → Nat → Int64} (h : kV b w) (hk : k < w) : putB x o sb b (w * x + k) = sb b (w * o + k) := by
  unfold putB
  rcases h with ⟨h, rfl⟩ | ⟨h, rfl⟩ <;> simp only [List.mem_cons, List.not_mem_nil, or_false] at h
  · rw [cpy_in (by simp only [List.mem_cons, List.not_mem_nil, or_false]; omega) hk, cpy_out (fun z => by have := z.1; simp only [List.mem_cons, List.not_mem_nil, or_false] at this; omega)]
  · rw [cpy_out (fun z => by have := z.1; simp only [List.mem_cons, List.not_mem_nil, or_false] at this; omega), cpy_in (by simp only [List.mem_cons, List.not_mem_nil, or_false]; omega) hk]
theorem putB_out {x o b j : Nat} {sb : Nat → Nat → Int64} (h : ¬ kBz x b j) : putB x o sb b j = sb b j := by
  unfold kBz at h
  unfold putB
  rw [cpy_out (fun z => by have := z.1; simp only [List.mem_cons, List.not_mem_nil, or_false] at this; omega), cpy_out (fun z => by have := z.1; simp only [List.mem_cons, List.not_mem_nil, or_false] at this; omega)]
/-! zones that hold the same cells -/
def mvA (x o : Nat) (sa' sa : Nat → Nat → Int32) : Prop := ∀ a w, kW a w → ∀ k, k < w → sa' a (w * x + k) = sa a (w * o + k)
def mvB (x o : Nat) (sb' sb : Nat → Nat → Int64) : Prop := ∀ b w, kV b w → ∀ k, k < w → sb' b (w * x + k) = sb b (w * o + k)
section
variable {x o : Nat} {sa sa' : Nat → Nat → Int32} {sb sb' : Nat → Nat → Int64}
theorem mvA.one (h : mvA x o sa' sa) (a : Nat) (ha : 4 ≤ a ∧ a ≤ 11 ∨ a = 23) : sa' a x = sa a o := by
  have := h a 1 (Or.inl ⟨by simp only [List.mem_cons, List.not_mem_nil, or_false]; omega, rfl⟩) 0 (by omega)
  rw [Nat.one_mul, Nat.one_mul] at this
  exact this
theorem mvA.w200 (h : mvA x o sa' sa) (a : Nat) (ha : a = 13 ∨ a = 17) {k : Nat} (hk : k < 200) : sa' a (200 * x + k) = sa a (200 * o + k) := h a 200 (Or.inr (Or.inl ⟨by simp only [List.mem_cons, List.not_mem_nil, or_false]; omega, rfl⟩)) k hk
theorem mvA.w40 (h : mvA x o sa' sa) (a : Nat) (ha : 14 ≤ a ∧ a ≤ 16 ∨ a = 20 ∨ a = 21) {k : Nat} (hk : k < 40) : sa' a (40 * x + k) = sa a (40 * o + k) := h a 40 (Or.inr (Or.inr (Or.inl ⟨by simp only [List.mem_cons, List.not_mem_nil, or_false]; omega, rfl⟩))) k hk
theorem mvA.w128 (h : mvA x o sa' sa) {k : Nat} (hk : k < 128) : sa' 22 (128 * x + k) = sa 22 (128 * o + k) := h 22 128 (Or.inr (Or.inr (Or.inr (Or.inl ⟨by simp, rfl⟩)))) k hk
theorem mvA.w2 (h : mvA x o sa' sa) (a : Nat) (ha : a = 24 ∨ a = 25 ∨ 27 ≤ a ∧ a ≤ 31) {k : Nat} (hk : k < 2) : sa' a (2 * x + k) = sa a (2 * o + k) := h a 2 (Or.inr (Or.inr (Or.inr (Or.inr (Or.inl ⟨by simp only [List.mem_cons, List.not_mem_nil, or_false]; omega, rfl⟩))))) k hk
theorem mvA.w20 (h : mvA x o sa' sa) {k : Nat} (hk : k < 20) : sa' 26 (20 * x + k) = sa 26 (20 * o + k) := h 26 20 (Or.inr (Or.inr (Or.inr (Or.inr (Or.inr ⟨by simp, rfl⟩))))) k hk
theorem mvB.w200 (h : mvB x o sb' sb) {k : Nat} (hk : k < 200) : sb' 12 (200 * x + k) = sb 12 (200 * o + k) := h 12 200 (Or.inr ⟨by simp, rfl⟩) k hk
theorem mvB.w40 (h : mvB x o sb' sb) (b : Nat) (hb : b = 18 ∨ b = 19) {k : Nat} (hk : k < 40) : sb' b (40 * x + k) = sb b (40 * o + k) := h b 40 (Or.inl ⟨by simp only [List.mem_cons, List.not_mem_nil, or_false]; omega, rfl⟩) k hk
theorem REm.mv {j j' : Nat} {e : ET} (h : REm sa j e) (k : ∀ a, a = 24 ∨ 27 ≤ a ∧ a ≤ 31 → sa' a j' = sa a j) : REm sa' j' e := by
  obtain ⟨h1, h2, h3, h4, h5⟩ := h
  exact ⟨(k 27 (by omega)).trans h1, (k 28 (by omega)).trans h2, fun q => ⟨(k 29 (by omega)).trans (h3 q).1, (k 30 (by omega)).trans (h3 q).2⟩, (k 31 (by omega)).trans h4, (k 24 (by omega)).trans h5⟩
theorem ZNam.mv {sz pl : Int32} {w r s p : Nat} (h : ZNam sz pl sa o w r s p) (hw : w < 2) (hr : r ≤ 128) (m : mvA x o sa' sa) : ZNam sz pl sa' x w r s p := by
  obtain ⟨h1, h2, h3, h4, h5, h6, h7⟩ := h
  refine ⟨h1, h2, h3, h4, h5, (m.w2 25 (by omega) hw).trans h6, fun q hq => ?_⟩
  obtain ⟨g1, v, g2, g3⟩ := h7 q hq
  have e1 := m.w20 (k := 10 * w + q) (by omega)
  have e2 := m.w128 (k := p + q) (by omega)
  rw [← Nat.add_assoc, ← Nat.add_assoc] at e1
  rw [e1, e2]
  exact ⟨g1, v, g2, g3⟩
theorem RZon.mv {z : ZS} (h : RZon z sa sb o) (ka : mvA x o sa' sa) (kb : mvB x o sb' sb) : RZon z sa' sb' x := by
  obtain ⟨n, t, c, l, d, u, r, tm, tt, of, ds, ix, sz, ⟨c1, c2, ⟨c3, c4, c5⟩, ⟨c6, c7, c8, c9⟩, ⟨c10, c11, c12⟩, ⟨c13, c14, c15⟩, ⟨c16, c17, c18⟩, ⟨c19, c20, c21⟩, ⟨c22, c23⟩⟩, h1, h2, ⟨h3, h3'⟩, h4, ⟨h5, h5'⟩, h6, h7⟩ := h
  refine ⟨n, t, c, l, d, u, r, tm, tt, of, ds, ix, sz, ⟨c1.trans (ka.one 4 (by omega)).symm, c2, ⟨c3, (ka.one 5 (by omega)).trans c4, c5⟩, ⟨c6, (ka.one 6 (by omega)).trans c7, c8, c9⟩, ⟨(ka.one 7 (by omega)).trans c10, c11, c12⟩, ⟨c13, (ka.one 8 (by omega)).trans c14, c15⟩, ⟨c16, (ka.one 9 (by omega)).trans c17, c18⟩, ⟨c19, (ka.one 10 (by omega)).trans c20, c21⟩, ⟨(ka.one 11 (by omega)).trans c22, c23⟩⟩, ?_, ?_, ⟨fun k hk => ?_, h3'⟩, fun k hk => ?_, ⟨fun k hk => ?_, fun k hk => ?_⟩, fun k hk => ?_, ?_⟩
  · exact h1.T_congr (fun k hk => (ka.w200 17 (by omega) (by omega)).symm)
  · exact h2.T_congr (fun k hk => (ka.w128 (by omega)).symm)
  · obtain ⟨g1, g2, g3, g4, g5, g6⟩ := h3 k hk
    exact ⟨g1, (kb.w200 (by omega)).trans g2, g3, g4, (ka.w200 13 (by omega) (by omega)).trans g5, g6⟩
  · obtain ⟨g1, g2, g3, g4, g5, g6, g7, g8, g9, n1, n2, n3, n4, n5⟩ := h4 k hk
    refine ⟨g1, (ka.w40 14 (by omega) (by omega)).trans g2, g3, g4, g5, (ka.w40 15 (by omega) (by omega)).trans g6, g7, g8, (ka.w40 16 (by omega) (by omega)).trans g9, n1, n2, n3, fun q hq => ?_, ?_⟩
    · obtain ⟨v, e1, e2⟩ := n4 q hq
      exact ⟨v, (ka.w200 17 (by omega) (by omega)).trans e1, e2⟩
    · exact (ka.w200 17 (by omega) (by omega)).trans n5
  · exact (h5 k hk).trans (ka.w40 20 (by omega) (by omega)).symm
  · exact (h5' k hk).trans (ka.w40 21 (by omega) (by omega)).symm
  · obtain ⟨g1, g2⟩ := h6 k hk
    exact ⟨g1.trans (kb.w40 18 (by omega) (by omega)).symm, g2.trans (kb.w40 19 (by omega) (by omega)).symm⟩
  · rcases h7 with ⟨g1, g2, g3⟩ | ⟨g1, wd, sp, ss, so, y, g2, g3, g4, g5, g6, g7, g8⟩
    · exact Or.inl ⟨g1, (ka.one 23 (by omega)).trans g2, g3⟩
    · refine Or.inr ⟨g1, wd, sp, ss, so, y, ?_, g3.mv (by omega) c23 ka, g4, (ka.w2 24 (k := 0) (by omega) (by omega)).trans g5, g6, g7, ?_⟩
      · rw [LL_congr (T := fun k => sa 22 (128 * o + k)) (fun k hk => ka.w128 (by omega))]
        exact g2
      · match y, g8 with
        | none, ⟨a1, a2, a3⟩ => exact ⟨a1, (ka.one 23 (by omega)).trans a2, a3⟩
        | some (up, us, uo, d1, t1, d2, t2, w), ⟨a1, a2, a3, a4, a5, a6, a7, a8, a9, a10, ⟨b1, b2, b3, b4⟩, a12⟩ =>
          exact ⟨a1, (ka.one 23 (by omega)).trans a2, a3, a4.mv (by omega) c23 ka, a5, (ka.w2 24 (by omega) (by omega)).trans a6, a7, a8, a9, a10, ⟨b1.mv (fun a ha => ka.w2 a (k := 0) (by omega) (by omega)), b2.mv (fun a ha => ka.w2 a (k := 1) (by omega) (by omega)), b3, b4⟩, a12⟩
theorem putA_mv (x o : Nat) (sa : Nat → Nat → Int32) : mvA x o (putA x o sa) sa := fun _ _ h _ hk => putA_in h hk
theorem putB_mv (x o : Nat) (sb : Nat → Nat → Int64) : mvB x o (putB x o sb) sb := fun _ _ h _ hk => putB_in h hk
end
