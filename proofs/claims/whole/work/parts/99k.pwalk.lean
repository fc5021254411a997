/-! ===== from edge to edge ===== -/
section
variable {b e : ET}
/-- the first edge above t; the last edge up to t -/
def nxm (b e : ET) (t : Int) : Int := min (ev b (ly b t + 1)) (ev e (ly e t + 1))
def pmm (b e : ET) (t : Int) : Int := max (ev b (ly b t)) (ev e (ly e t))
theorem nx_gt (ob : EOK b) (oe : EOK e) (t : Int) : t < nxm b e t := by
  have h1 := ly_spec ob t
  have h2 := ly_spec oe t
  unfold nxm
  omega
theorem nx_lyb (ob : EOK b) (oe : EOK e) (t : Int) : ly b (nxm b e t) = if ev b (ly b t + 1) ≤ ev e (ly e t + 1) then ly b t + 1 else ly b t := by
  have h1 := ly_spec ob t
  have h2 := ly_spec oe t
  have s1 := ev_step ob (ly b t + 1)
  unfold nxm
  by_cases c : ev b (ly b t + 1) ≤ ev e (ly e t + 1)
  · rw [if_pos c]
    exact ly_uniq ob (by omega) (by omega)
  · rw [if_neg c]
    exact ly_uniq ob (by omega) (by omega)
theorem nx_lye (ob : EOK b) (oe : EOK e) (t : Int) : ly e (nxm b e t) = if ev e (ly e t + 1) ≤ ev b (ly b t + 1) then ly e t + 1 else ly e t := by
  have h1 := ly_spec ob t
  have h2 := ly_spec oe t
  have s2 := ev_step oe (ly e t + 1)
  unfold nxm
  by_cases c : ev e (ly e t + 1) ≤ ev b (ly b t + 1)
  · rw [if_pos c]
    exact ly_uniq oe (by omega) (by omega)
  · rw [if_neg c]
    exact ly_uniq oe (by omega) (by omega)
theorem nx_pm (ob : EOK b) (oe : EOK e) (t : Int) : pmm b e (nxm b e t) = nxm b e t := by
  have h1 := ly_spec ob t
  have h2 := ly_spec oe t
  have g := nx_gt ob oe t
  have l1 := nx_lyb ob oe t
  have l2 := nx_lye ob oe t
  unfold pmm
  rw [l1, l2]
  unfold nxm
  by_cases c : ev b (ly b t + 1) ≤ ev e (ly e t + 1)
  · rw [if_pos c]
    by_cases d : ev e (ly e t + 1) ≤ ev b (ly b t + 1)
    · rw [if_pos d]
      omega
    · rw [if_neg d]
      omega
  · rw [if_neg c, if_pos (by omega)]
    omega
theorem ly_btw {e : ET} (h : EOK e) {t u : Int} (h1 : ev e (ly e t) ≤ u) (h2 : u < ev e (ly e t + 1)) : ly e u = ly e t := ly_uniq h h1 h2
theorem su_nx (ob : EOK b) (oe : EOK e) {t u : Int} (h1 : t ≤ u) (h2 : u < nxm b e t) : suB b e u = suB b e t := by
  have l1 := ly_spec ob t
  have l2 := ly_spec oe t
  unfold nxm at h2
  unfold suB
  rw [ly_btw ob (t := t) (u := u) (by omega) (by omega), ly_btw oe (t := t) (u := u) (by omega) (by omega)]
theorem pm_le (ob : EOK b) (oe : EOK e) (t : Int) : pmm b e t ≤ t := by
  have l1 := ly_spec ob t
  have l2 := ly_spec oe t
  unfold pmm
  omega
theorem su_pm (ob : EOK b) (oe : EOK e) {t u : Int} (h1 : pmm b e t ≤ u) (h2 : u ≤ t) : suB b e u = suB b e t := by
  have l1 := ly_spec ob t
  have l2 := ly_spec oe t
  unfold pmm at h1
  unfold suB
  rw [ly_btw ob (t := t) (u := u) (by omega) (by omega), ly_btw oe (t := t) (u := u) (by omega) (by omega)]
theorem pm_lye (ob : EOK b) (oe : EOK e) (t : Int) : ly e (pmm b e t - 1) = if ev b (ly b t) ≤ ev e (ly e t) then ly e t - 1 else ly e t := by
  have l1 := ly_spec ob t
  have l2 := ly_spec oe t
  have s1 := ev_step oe (ly e t - 1)
  rw [show ly e t - 1 + 1 = ly e t by omega] at s1
  unfold pmm
  by_cases c : ev b (ly b t) ≤ ev e (ly e t)
  · rw [if_pos c]
    exact ly_uniq oe (by omega) (by rw [show ly e t - 1 + 1 = ly e t by omega]; omega)
  · rw [if_neg c]
    exact ly_uniq oe (by omega) (by omega)
theorem pm_lyb (ob : EOK b) (oe : EOK e) (t : Int) : ly b (pmm b e t - 1) = if ev e (ly e t) ≤ ev b (ly b t) then ly b t - 1 else ly b t := by
  have l1 := ly_spec ob t
  have l2 := ly_spec oe t
  have s1 := ev_step ob (ly b t - 1)
  rw [show ly b t - 1 + 1 = ly b t by omega] at s1
  unfold pmm
  by_cases c : ev e (ly e t) ≤ ev b (ly b t)
  · rw [if_pos c]
    exact ly_uniq ob (by omega) (by rw [show ly b t - 1 + 1 = ly b t by omega]; omega)
  · rw [if_neg c]
    exact ly_uniq ob (by omega) (by omega)
/-! 400 years -/
theorem ly_per {e : ET} (h : EOK e) (t : Int) : ly e (t + 12622780800) = ly e t + 400 := by
  have l := ly_spec h t
  have c1 := ev_cycle e (ly e t)
  have c2 := ev_cycle e (ly e t + 1)
  exact ly_uniq h (by omega) (by rw [show ly e t + 400 + 1 = ly e t + 1 + 400 by omega]; omega)
theorem su_per (ob : EOK b) (oe : EOK e) (t : Int) : suB b e (t + 12622780800) = suB b e t := by
  have c1 := ev_cycle b (ly b t)
  have c2 := ev_cycle e (ly e t)
  unfold suB
  rw [ly_per ob, ly_per oe, c1, c2]
  by_cases c : ev e (ly e t) ≤ ev b (ly b t)
  · rw [decide_eq_true c, decide_eq_true (by omega)]
  · rw [decide_eq_false c, decide_eq_false (by omega)]
theorem su_perk (ob : EOK b) (oe : EOK e) (t : Int) : ∀ k : Nat, suB b e (t + 12622780800 * (k : Int)) = suB b e t := by
  intro k
  induction k with
  | zero => rw [show t + 12622780800 * ((0 : Nat) : Int) = t by omega]
  | succ k ih => rw [show t + 12622780800 * ((k + 1 : Nat) : Int) = t + 12622780800 * (k : Int) + 12622780800 by omega, su_per ob oe, ih]
theorem su_all (ob : EOK b) (oe : EOK e) {t0 : Int} {s : Bool} (h : ∀ u, t0 ≤ u → u < t0 + 12622780800 → suB b e u = s) (t : Int) : suB b e t = s := by
  by_cases c : t0 ≤ t
  · have p := su_perk ob oe (t0 + (t - t0) % 12622780800) ((t - t0) / 12622780800).toNat
    rw [show t0 + (t - t0) % 12622780800 + 12622780800 * ((((t - t0) / 12622780800).toNat : Nat) : Int) = t by omega] at p
    rw [p]
    exact h _ (by omega) (by omega)
  · have p := su_perk ob oe t (-((t - t0) / 12622780800)).toNat
    rw [show t + 12622780800 * (((-((t - t0) / 12622780800)).toNat : Nat) : Int) = t0 + (t - t0) % 12622780800 by omega] at p
    rw [← p]
    exact h _ (by omega) (by omega)
/-- j edges above t0 without a change -/
def WInv (b e : ET) (t0 : Int) (j : Nat) (u : Int) : Prop := t0 ≤ u ∧ ly b t0 + ly e t0 + j ≤ ly b u + ly e u ∧ ∀ v, t0 ≤ v → v ≤ u → suB b e v = suB b e t0
theorem WInv.zero (t0 : Int) : WInv b e t0 0 t0 := ⟨by omega, by omega, fun v h1 h2 => by rw [show v = t0 by omega]⟩
theorem WInv.step (ob : EOK b) (oe : EOK e) {t0 u : Int} {j : Nat} (h : WInv b e t0 j u) (hs : suB b e (nxm b e u) = suB b e u) : WInv b e t0 (j + 1) (nxm b e u) := by
  obtain ⟨h1, h2, h3⟩ := h
  have g := nx_gt ob oe u
  have l1 := nx_lyb ob oe u
  have l2 := nx_lye ob oe u
  refine ⟨by omega, ?_, fun v v1 v2 => ?_⟩
  · rw [l1, l2]
    by_cases c : ev b (ly b u + 1) ≤ ev e (ly e u + 1)
    · rw [if_pos c]
      by_cases d : ev e (ly e u + 1) ≤ ev b (ly b u + 1)
      · rw [if_pos d]
        omega
      · rw [if_neg d]
        omega
    · rw [if_neg c, if_pos (by omega)]
      omega
  · by_cases c : v ≤ u
    · exact h3 v v1 c
    · by_cases d : v = nxm b e u
      · rw [d, hs]
        exact h3 u h1 (by omega)
      · rw [su_nx ob oe (t := u) (u := v) (by omega) (by omega)]
        exact h3 u h1 (by omega)
theorem WInv.all (ob : EOK b) (oe : EOK e) {t0 u : Int} (h : WInv b e t0 810 u) (t : Int) : suB b e t = suB b e t0 := by
  obtain ⟨h1, h2, h3⟩ := h
  have lb := ly_spec ob t0
  have le := ly_spec oe t0
  have lb' := ly_spec ob u
  have le' := ly_spec oe u
  have c1 := ev_cycle b (ly b t0 + 1)
  have c2 := ev_cycle e (ly e t0 + 1)
  have key : t0 + 12622780800 ≤ u := by
    by_cases c : ly b t0 + 405 ≤ ly b u
    · have m := ev_mono ob (show ly b t0 + 1 + 400 ≤ ly b u by omega)
      omega
    · have m := ev_mono oe (show ly e t0 + 1 + 400 ≤ ly e u by omega)
      omega
  exact su_all ob oe (fun v v1 v2 => h3 v v1 (by omega)) t
/-- j edges below t0 without a change -/
def BInv (b e : ET) (t0 : Int) (j : Nat) (u : Int) : Prop := u ≤ t0 ∧ ly b u + ly e u + j ≤ ly b t0 + ly e t0 ∧ ∀ v, u ≤ v → v ≤ t0 → suB b e v = suB b e t0
theorem BInv.zero (t0 : Int) : BInv b e t0 0 t0 := ⟨by omega, by omega, fun v h1 h2 => by rw [show v = t0 by omega]⟩
theorem BInv.step (ob : EOK b) (oe : EOK e) {t0 u : Int} {j : Nat} (h : BInv b e t0 j u) (hs : suB b e (pmm b e u - 1) = suB b e u) : BInv b e t0 (j + 1) (pmm b e u - 1) := by
  obtain ⟨h1, h2, h3⟩ := h
  have g := pm_le ob oe u
  have l1 := pm_lyb ob oe u
  have l2 := pm_lye ob oe u
  refine ⟨by omega, ?_, fun v v1 v2 => ?_⟩
  · rw [l1, l2]
    by_cases c : ev e (ly e u) ≤ ev b (ly b u)
    · rw [if_pos c]
      by_cases d : ev b (ly b u) ≤ ev e (ly e u)
      · rw [if_pos d]
        omega
      · rw [if_neg d]
        omega
    · rw [if_neg c, if_pos (by omega)]
      omega
  · by_cases c : u ≤ v
    · exact h3 v c v2
    · by_cases d : v = pmm b e u - 1
      · rw [d, hs]
        exact h3 u (by omega) h1
      · rw [su_pm ob oe (t := u) (u := v) (by omega) (by omega)]
        exact h3 u (by omega) h1
theorem BInv.all (ob : EOK b) (oe : EOK e) {t0 u : Int} (h : BInv b e t0 810 u) (t : Int) : suB b e t = suB b e t0 := by
  obtain ⟨h1, h2, h3⟩ := h
  have lb := ly_spec ob t0
  have le := ly_spec oe t0
  have lb' := ly_spec ob u
  have le' := ly_spec oe u
  have c1 := ev_cycle b (ly b t0 - 400)
  have c2 := ev_cycle e (ly e t0 - 400)
  rw [show ly b t0 - 400 + 400 = ly b t0 by omega] at c1
  rw [show ly e t0 - 400 + 400 = ly e t0 by omega] at c2
  have key : u ≤ t0 - 12622780800 := by
    by_cases c : ly b u + 405 ≤ ly b t0
    · have m := ev_mono ob (show ly b u + 1 ≤ ly b t0 - 400 by omega)
      omega
    · have m := ev_mono oe (show ly e u + 1 ≤ ly e t0 - 400 by omega)
      omega
  exact su_all ob oe (t0 := t0 - 12622780800) (fun v v1 v2 => h3 v (by omega) (by omega)) t
/-! the search -/
def scn (b e : ET) : Nat → Int → Option Int
  | 0, _ => none
  | d + 1, u => if nxm b e u ≤ 1152921504606846975 then (if suB b e (nxm b e u) = suB b e u then scn b e d (nxm b e u) else some (nxm b e u)) else none
def scb (b e : ET) (bd : Int) : Nat → Int → Option Int
  | 0, _ => none
  | d + 1, u => if bd < pmm b e u then (if suB b e (pmm b e u - 1) = suB b e u then scb b e bd d (pmm b e u - 1) else some (pmm b e u)) else none
theorem scn_s (b e : ET) (d : Nat) (u : Int) : scn b e (d + 1) u = if nxm b e u ≤ 1152921504606846975 then (if suB b e (nxm b e u) = suB b e u then scn b e d (nxm b e u) else some (nxm b e u)) else none := rfl
theorem scb_s (b e : ET) (bd : Int) (d : Nat) (u : Int) : scb b e bd (d + 1) u = if bd < pmm b e u then (if suB b e (pmm b e u - 1) = suB b e u then scb b e bd d (pmm b e u - 1) else some (pmm b e u)) else none := rfl
def encN : Option Int → Int64
  | some v => jj v
  | none => -9223372036854775808
theorem scn_nev (h : ∀ t t', suB b e t = suB b e t') : ∀ (d : Nat) (u : Int), scn b e d u = none := by
  intro d
  induction d with
  | zero => intro u; rfl
  | succ d ih =>
    intro u
    rw [scn_s]
    by_cases c : nxm b e u ≤ 1152921504606846975
    · rw [if_pos c, if_pos (h _ _)]
      exact ih _
    · rw [if_neg c]
theorem scb_nev {bd : Int} (h : ∀ t t', suB b e t = suB b e t') : ∀ (d : Nat) (u : Int), scb b e bd d u = none := by
  intro d
  induction d with
  | zero => intro u; rfl
  | succ d ih =>
    intro u
    rw [scb_s]
    by_cases c : bd < pmm b e u
    · rw [if_pos c, if_pos (h _ _)]
      exact ih _
    · rw [if_neg c]
theorem scn_more (ob : EOK b) (oe : EOK e) {t0 : Int} : ∀ (d j : Nat) (u : Int), j + d = 810 → WInv b e t0 j u → scn b e (d + 10) u = scn b e d u := by
  intro d
  induction d with
  | zero =>
    intro j u hj hw
    obtain rfl : j = 810 := by omega
    have a := hw.all ob oe
    exact scn_nev (fun t t' => (a t).trans (a t').symm) _ _
  | succ d ih =>
    intro j u hj hw
    rw [show d + 1 + 10 = (d + 10) + 1 by omega, scn_s b e (d + 10) u, scn_s b e d u]
    by_cases c : nxm b e u ≤ 1152921504606846975
    · rw [if_pos c, if_pos c]
      by_cases s : suB b e (nxm b e u) = suB b e u
      · rw [if_pos s, if_pos s]
        exact ih (j + 1) _ (by omega) (hw.step ob oe s)
      · rw [if_neg s, if_neg s]
    · rw [if_neg c, if_neg c]
theorem scb_more (ob : EOK b) (oe : EOK e) {t0 bd : Int} : ∀ (d j : Nat) (u : Int), j + d = 810 → BInv b e t0 j u → scb b e bd (d + 10) u = scb b e bd d u := by
  intro d
  induction d with
  | zero =>
    intro j u hj hw
    obtain rfl : j = 810 := by omega
    have a := hw.all ob oe
    exact scb_nev (fun t t' => (a t).trans (a t').symm) _ _
  | succ d ih =>
    intro j u hj hw
    rw [show d + 1 + 10 = (d + 10) + 1 by omega, scb_s b e bd (d + 10) u, scb_s b e bd d u]
    by_cases c : bd < pmm b e u
    · rw [if_pos c, if_pos c]
      by_cases s : suB b e (pmm b e u - 1) = suB b e u
      · rw [if_pos s, if_pos s]
        exact ih (j + 1) _ (by omega) (hw.step ob oe s)
      · rw [if_neg s, if_neg s]
    · rw [if_neg c, if_neg c]
end
