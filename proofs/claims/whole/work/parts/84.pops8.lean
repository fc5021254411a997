/-! ===== again ===== -/
theorem mag {nf w : Nat} {si : Nat → Int32} {sj : Nat → Int64} {sb : Nat → Nat → Int64} (hw : w ≤ 6000) (hs : si 57 = ii (w : Int)) : ∀ (j k fu : Nat), k + j = w → j < fu → ∀ sa : Nat → Nat → Int32, ∃ sa' : Nat → Nat → Int32, f_Mo_again_7 nf fu (ii (k : Int)) si sj sa sb = some (ii (w : Int), va_up si 1 (ii (w : Int)), sj, sa', sb) ∧ (∀ a, a ≠ 0 → sa' a = sa a) ∧ (∀ m, m < k → sa' 0 m = sa 0 m) ∧ ∀ m, k ≤ m → m < w → sa' 0 m = sa 56 m := by
  intro j
  induction j with
  | zero =>
    intro k fu hk hf sa
    obtain ⟨f, rfl⟩ : ∃ f, fu = f + 1 := ⟨fu - 1, by omega⟩
    rw [f_Mo_again_7, hs, if_pos ((ii_le (by omega) (by omega) (by omega) (by omega)).mpr (by omega))]
    exact ⟨sa, rfl, fun _ _ => rfl, fun _ _ => rfl, fun m h1 h2 => by omega⟩
  | succ j ih =>
    intro k fu hk hf sa
    obtain ⟨f, rfl⟩ : ∃ f, fu = f + 1 := ⟨fu - 1, by omega⟩
    have en : (ii (k : Int)).toNatClampNeg = k := by rw [ii_nat (by omega) (by omega)]; omega
    have n : ¬ (ii (k : Int) < 0 ∨ 6000 ≤ k) := by rw [ii_lit, ii_lt (by omega) (by omega) (by omega) (by omega)]; omega
    obtain ⟨sa', e1, e2, e3, e4⟩ := ih (k + 1) f (by omega) (by omega) (va_up sa 0 (upd (sa 0) k (sa 56 k)))
    refine ⟨sa', ?_, fun a ha => (e2 a ha).trans (vup_ne ha), fun m hm => ?_, fun m h1 h2 => ?_⟩
    · rw [f_Mo_again_7, hs, if_neg (by rw [ii_le (by omega) (by omega) (by omega) (by omega)]; omega), en, if_neg n, if_neg n, show ii (k : Int) + 1 = ii ((k + 1 : Nat) : Int) by rw [ii_lit, ii_add]; rfl]
      exact e1
    · rw [e3 m (by omega), vu_ne (by omega)]
    · by_cases c : m = k
      · subst c
        rw [e3 m (by omega), vu_eq]
      · rw [e4 m (by omega) h2, vup_ne (by decide)]
