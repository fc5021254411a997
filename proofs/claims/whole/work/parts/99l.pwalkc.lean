/-! ===== the class goes from edge to edge ===== -/
section
variable {nf : Nat} {k m w d t c k' m' w' d' t' c' : Int32} {b e : ET}
theorem nx_range (ob : EOK b) (oe : EOK e) {u : Int} (h1 : -1500000000000000000 ≤ u) (h2 : u ≤ 1500000000000000000) : -4000000000000000000 ≤ nxm b e u ∧ nxm b e u ≤ 4000000000000000000 := by
  have r1 := ly_range ob h1 h2
  have r2 := ly_range oe h1 h2
  have v1 := ev_range ob (y := ly b u + 1) (by omega) (by omega)
  have v2 := ev_range oe (y := ly e u + 1) (by omega) (by omega)
  unfold nxm
  omega
theorem pm_range (ob : EOK b) (oe : EOK e) {u : Int} (h1 : -1500000000000000000 ≤ u) (h2 : u ≤ 1500000000000000000) : -4000000000000000000 ≤ pmm b e u ∧ pmm b e u ≤ 4000000000000000000 := by
  have r1 := ly_range ob h1 h2
  have r2 := ly_range oe h1 h2
  have v1 := ev_range ob (y := ly b u) (by omega) (by omega)
  have v2 := ev_range oe (y := ly e u) (by omega) (by omega)
  unfold pmm
  omega
theorem wk_init (hnf : 4 ≤ nf) (hb : REc k m w d t c b) (he : REc k' m' w' d' t' c' e) (ob : EOK b) (oe : EOK e) {u : Int} (h1 : -1500000000000000000 ≤ u) (h2 : u ≤ 1500000000000000000) : f_Walk_init nf (jj u) k m w d t c k' m' w' d' t' c' = some (jj (ly b u), jj (ly e u), jj (ev b (ly b u)), jj (ev e (ly e u))) := by
  have r1 := ly_range ob h1 h2
  have r2 := ly_range oe h1 h2
  unfold f_Walk_init f_Walk_init_0
  rw [lastyear_ok hnf hb ob h1 h2, Option.bind_some, lastyear_ok hnf he oe h1 h2, Option.bind_some, moment_ok nf hb ob (by omega) (by omega), Option.bind_some, moment_ok nf he oe (by omega) (by omega), Option.bind_some]
theorem wk_su (nf : Nat) (ob : EOK b) (oe : EOK e) {u : Int} (r1 : -90000000000 ≤ ly b u ∧ ly b u ≤ 90000000000) (r2 : -90000000000 ≤ ly e u ∧ ly e u ≤ 90000000000) : f_Walk_isSummer nf (jj (ev b (ly b u))) (jj (ev e (ly e u))) = some (bI (suB b e u)) := by
  have v1 := ev_range ob (y := ly b u) (by omega) (by omega)
  have v2 := ev_range oe (y := ly e u) (by omega) (by omega)
  unfold f_Walk_isSummer f_Walk_isSummer_0 suB
  by_cases q : ev e (ly e u) ≤ ev b (ly b u)
  · rw [decide_eq_true q, if_neg (fun z => by rw [jj_lt (by omega) (by omega) (by omega) (by omega)] at z; omega)]
    rfl
  · rw [decide_eq_false q, if_pos ((jj_lt (by omega) (by omega) (by omega) (by omega)).mpr (by omega))]
    rfl
theorem wk_mo (nf : Nat) (ob : EOK b) (oe : EOK e) {u : Int} (r1 : -90000000000 ≤ ly b u ∧ ly b u ≤ 90000000000) (r2 : -90000000000 ≤ ly e u ∧ ly e u ≤ 90000000000) : f_Walk_moment nf (jj (ev b (ly b u))) (jj (ev e (ly e u))) = some (jj (pmm b e u)) := by
  have v1 := ev_range ob (y := ly b u) (by omega) (by omega)
  have v2 := ev_range oe (y := ly e u) (by omega) (by omega)
  unfold f_Walk_moment f_Walk_moment_0 pmm
  by_cases q : ev e (ly e u) < ev b (ly b u)
  · rw [if_pos ((jj_lt (by omega) (by omega) (by omega) (by omega)).mpr q), show max (ev b (ly b u)) (ev e (ly e u)) = ev b (ly b u) by omega]
  · rw [if_neg (fun z => q ((jj_lt (by omega) (by omega) (by omega) (by omega)).mp z)), show max (ev b (ly b u)) (ev e (ly e u)) = ev e (ly e u) by omega]
theorem wk_fw (nf : Nat) (hb : REc k m w d t c b) (he : REc k' m' w' d' t' c' e) (ob : EOK b) (oe : EOK e) {u : Int} (r1 : -80000000000 ≤ ly b u ∧ ly b u ≤ 80000000000) (r2 : -80000000000 ≤ ly e u ∧ ly e u ≤ 80000000000) : f_Walk_goForward nf (jj (ly b u)) (jj (ly e u)) (jj (ev b (ly b u))) (jj (ev e (ly e u))) k m w d t c k' m' w' d' t' c' = some (jj (ly b (nxm b e u)), jj (ly e (nxm b e u)), jj (ev b (ly b (nxm b e u))), jj (ev e (ly e (nxm b e u)))) := by
  have v1 := ev_range ob (y := ly b u + 1) (by omega) (by omega)
  have v2 := ev_range oe (y := ly e u + 1) (by omega) (by omega)
  have l1 := nx_lyb ob oe u
  have l2 := nx_lye ob oe u
  unfold f_Walk_goForward f_Walk_goForward_0
  rw [show (1 : Int64) = jj 1 from rfl, jj_add, jj_add, moment_ok nf hb ob (by omega) (by omega), Option.bind_some, moment_ok nf he oe (by omega) (by omega), Option.bind_some, l1, l2]
  unfold f_Walk_goForward_55
  by_cases q : ev b (ly b u + 1) ≤ ev e (ly e u + 1)
  · rw [if_neg (show ¬ jj (ev e (ly e u + 1)) < jj (ev b (ly b u + 1)) from fun z => by rw [jj_lt (by omega) (by omega) (by omega) (by omega)] at z; omega), if_pos q]
    by_cases q' : ev e (ly e u + 1) ≤ ev b (ly b u + 1)
    · rw [if_neg (show ¬ jj (ev b (ly b u + 1)) < jj (ev e (ly e u + 1)) from fun z => by rw [jj_lt (by omega) (by omega) (by omega) (by omega)] at z; omega), if_pos q', show (1 : Int64) = jj 1 from rfl, jj_add]
      rfl
    · rw [if_pos (show jj (ev b (ly b u + 1)) < jj (ev e (ly e u + 1)) from (jj_lt (by omega) (by omega) (by omega) (by omega)).mpr (by omega)), if_neg q']
      rfl
  · rw [if_pos (show jj (ev e (ly e u + 1)) < jj (ev b (ly b u + 1)) from (jj_lt (by omega) (by omega) (by omega) (by omega)).mpr (by omega)), if_neg q, if_neg (show ¬ jj (ev b (ly b u + 1)) < jj (ev e (ly e u + 1)) from fun z => by rw [jj_lt (by omega) (by omega) (by omega) (by omega)] at z; omega), if_pos (show ev e (ly e u + 1) ≤ ev b (ly b u + 1) by omega), show (1 : Int64) = jj 1 from rfl, jj_add]
    rfl
theorem wk_bw (nf : Nat) (hb : REc k m w d t c b) (he : REc k' m' w' d' t' c' e) (ob : EOK b) (oe : EOK e) {u : Int} (r1 : -80000000000 ≤ ly b u ∧ ly b u ≤ 80000000000) (r2 : -80000000000 ≤ ly e u ∧ ly e u ≤ 80000000000) : f_Walk_goBack nf (jj (ly b u)) (jj (ly e u)) (jj (ev b (ly b u))) (jj (ev e (ly e u))) k m w d t c k' m' w' d' t' c' = some (jj (ly b (pmm b e u - 1)), jj (ly e (pmm b e u - 1)), jj (ev b (ly b (pmm b e u - 1))), jj (ev e (ly e (pmm b e u - 1)))) := by
  have v1 := ev_range ob (y := ly b u) (by omega) (by omega)
  have v2 := ev_range oe (y := ly e u) (by omega) (by omega)
  have l1 := pm_lyb ob oe u
  have l2 := pm_lye ob oe u
  have m1 : f_Edge_momentIn nf (jj (ly b u) - 1) k m w d t c = some (jj (ev b (ly b u - 1))) := by
    rw [show (1 : Int64) = jj 1 from rfl, jj_sub]
    exact moment_ok nf hb ob (by omega) (by omega)
  have m2 : f_Edge_momentIn nf (jj (ly e u) - 1) k' m' w' d' t' c' = some (jj (ev e (ly e u - 1))) := by
    rw [show (1 : Int64) = jj 1 from rfl, jj_sub]
    exact moment_ok nf he oe (by omega) (by omega)
  have s1 : jj (ly b u) - 1 = jj (ly b u - 1) := by rw [show (1 : Int64) = jj 1 from rfl, jj_sub]
  have s2 : jj (ly e u) - 1 = jj (ly e u - 1) := by rw [show (1 : Int64) = jj 1 from rfl, jj_sub]
  have n10 : ¬ (1 : Int32) = 0 := by decide
  unfold f_Walk_goBack f_Walk_goBack_0 f_Walk_goBack_17 f_Walk_goBack_35 f_Walk_goBack_68 f_Walk_goBack_100
  rw [m1, m2, s1, s2, l1, l2]
  by_cases q : ev e (ly e u) ≤ ev b (ly b u)
  · rw [if_neg (show ¬ jj (ev b (ly b u)) < jj (ev e (ly e u)) from fun z => by rw [jj_lt (by omega) (by omega) (by omega) (by omega)] at z; omega), if_pos q]
    by_cases q' : ev b (ly b u) ≤ ev e (ly e u)
    · rw [if_neg (show ¬ jj (ev e (ly e u)) < jj (ev b (ly b u)) from fun z => by rw [jj_lt (by omega) (by omega) (by omega) (by omega)] at z; omega), if_pos q']
      rfl
    · rw [if_pos (show jj (ev e (ly e u)) < jj (ev b (ly b u)) from (jj_lt (by omega) (by omega) (by omega) (by omega)).mpr (by omega)), if_neg q']
      rfl
  · rw [if_pos (show jj (ev b (ly b u)) < jj (ev e (ly e u)) from (jj_lt (by omega) (by omega) (by omega) (by omega)).mpr (by omega)), if_neg q, if_neg (show ¬ jj (ev e (ly e u)) < jj (ev b (ly b u)) from fun z => by rw [jj_lt (by omega) (by omega) (by omega) (by omega)] at z; omega), if_pos (show ev b (ly b u) ≤ ev e (ly e u) by omega)]
    rfl
theorem bI_eq {p q : Bool} : (bI p = bI q) ↔ p = q := by
  cases p <;> cases q <;> decide
/-- the flag behind a search -/
def nevF (b e : ET) (f f' : Int32) : Prop := f' = f ∨ f' = 1 ∧ ∀ t t' : Int, suB b e t = suB b e t'
theorem cabove37 (hb : REc k m w d t c b) (he : REc k' m' w' d' t' c' e) (ob : EOK b) (oe : EOK e) {t0 : Int} (f : Int32) : ∀ (n j fu : Nat) (u : Int), j + n = 810 → n < fu → WInv b e t0 j u → -1152921504606846976 ≤ u → u ≤ 1152921504606846975 → ∃ f', f_Rule_changeAbove_37 nf k m w d t c k' m' w' d' t' c' fu (ii (j : Int)) (bI (suB b e u)) f (jj (ly b u)) (jj (ly e u)) (jj (ev b (ly b u))) (jj (ev e (ly e u))) = some ((encN (scn b e n u), f'), 0, 0) ∧ nevF b e f f' := by
  intro n
  induction n with
  | zero =>
    intro j fu u hj hf hw h1 h2
    obtain ⟨fv, rfl⟩ : ∃ fv, fu = fv + 1 := ⟨fu - 1, by omega⟩
    obtain rfl : j = 810 := by omega
    have a := hw.all ob oe
    rw [f_Rule_changeAbove_37, if_pos (by decide)]
    exact ⟨1, rfl, Or.inr ⟨rfl, fun x y => (a x).trans (a y).symm⟩⟩
  | succ n ih =>
    intro j fu u hj hf hw h1 h2
    obtain ⟨fv, rfl⟩ : ∃ fv, fu = fv + 1 := ⟨fu - 1, by omega⟩
    have r1 := ly_range ob (u := u) (by omega) (by omega)
    have r2 := ly_range oe (u := u) (by omega) (by omega)
    have g := nx_gt ob oe u
    have l1 := nx_lyb ob oe u
    have l2 := nx_lye ob oe u
    have q1 : -90000000000 ≤ ly b (nxm b e u) ∧ ly b (nxm b e u) ≤ 90000000000 := by
      rw [l1]
      split <;> omega
    have q2 : -90000000000 ≤ ly e (nxm b e u) ∧ ly e (nxm b e u) ≤ 90000000000 := by
      rw [l2]
      split <;> omega
    have nr := nx_range ob oe (u := u) (by omega) (by omega)
    generalize hF : f_Rule_changeAbove_37 nf k m w d t c k' m' w' d' t' c' (fv + 1) (ii (j : Int)) (bI (suB b e u)) f (jj (ly b u)) (jj (ly e u)) (jj (ev b (ly b u))) (jj (ev e (ly e u))) = F
    rw [f_Rule_changeAbove_37, if_neg (show ¬ (810 : Int32) ≤ ii (j : Int) by rw [ii_lit, ii_le (by omega) (by omega) (by omega) (by omega)]; omega), wk_fw nf hb he ob oe (by omega) (by omega), Option.bind_some] at hF
    dsimp only at hF
    rw [wk_mo nf ob oe q1 q2, Option.bind_some, nx_pm ob oe, show (1152921504606846975 : Int64) = jj 1152921504606846975 from rfl, wk_su nf ob oe q1 q2] at hF
    rw [scn_s]
    by_cases c1 : nxm b e u ≤ 1152921504606846975
    · rw [if_pos ((jj_le (by omega) (by omega) (by omega) (by omega)).mpr c1), Option.bind_some] at hF
      rw [if_pos c1]
      by_cases s : suB b e (nxm b e u) = suB b e u
      · rw [if_pos (bI_eq.mpr s), iiS] at hF
        rw [if_pos s]
        obtain ⟨f', g1, g2⟩ := ih (j + 1) fv (nxm b e u) (by omega) (by omega) (hw.step ob oe s) (by omega) c1
        rw [s] at g1
        exact ⟨f', hF.symm.trans g1, g2⟩
      · rw [if_neg (fun z => s (bI_eq.mp z)), Option.bind_some] at hF
        rw [if_neg s]
        exact ⟨f, hF.symm, Or.inl rfl⟩
    · rw [if_neg (fun z => c1 ((jj_le (by omega) (by omega) (by omega) (by omega)).mp z))] at hF
      rw [if_neg c1]
      exact ⟨f, hF.symm, Or.inl rfl⟩
theorem cbelow34 (hb : REc k m w d t c b) (he : REc k' m' w' d' t' c' e) (ob : EOK b) (oe : EOK e) {t0 bd : Int} (hbd : -1152921504606846975 ≤ bd ∧ bd ≤ 1152921504606846975) (f : Int32) : ∀ (n j fu : Nat) (u : Int), j + n = 810 → n < fu → BInv b e t0 j u → bd - 1 ≤ u → u ≤ 1152921504606846975 → ∃ f', f_Rule_changeBelow_34 nf k m w d t c k' m' w' d' t' c' fu (ii (j : Int)) (jj bd) f (jj (ly b u)) (jj (ly e u)) (jj (ev b (ly b u))) (jj (ev e (ly e u))) = some ((encN (scb b e bd n u), f'), 0, 0) ∧ nevF b e f f' := by
  intro n
  induction n with
  | zero =>
    intro j fu u hj hf hw h1 h2
    obtain ⟨fv, rfl⟩ : ∃ fv, fu = fv + 1 := ⟨fu - 1, by omega⟩
    obtain rfl : j = 810 := by omega
    have a := hw.all ob oe
    rw [f_Rule_changeBelow_34, if_pos (by decide)]
    exact ⟨1, rfl, Or.inr ⟨rfl, fun x y => (a x).trans (a y).symm⟩⟩
  | succ n ih =>
    intro j fu u hj hf hw h1 h2
    obtain ⟨fv, rfl⟩ : ∃ fv, fu = fv + 1 := ⟨fu - 1, by omega⟩
    have r1 := ly_range ob (u := u) (by omega) (by omega)
    have r2 := ly_range oe (u := u) (by omega) (by omega)
    have g := pm_le ob oe u
    have l1 := pm_lyb ob oe u
    have l2 := pm_lye ob oe u
    have q1 : -90000000000 ≤ ly b (pmm b e u - 1) ∧ ly b (pmm b e u - 1) ≤ 90000000000 := by
      rw [l1]
      split <;> omega
    have q2 : -90000000000 ≤ ly e (pmm b e u - 1) ∧ ly e (pmm b e u - 1) ≤ 90000000000 := by
      rw [l2]
      split <;> omega
    have pr := pm_range ob oe (u := u) (by omega) (by omega)
    generalize hF : f_Rule_changeBelow_34 nf k m w d t c k' m' w' d' t' c' (fv + 1) (ii (j : Int)) (jj bd) f (jj (ly b u)) (jj (ly e u)) (jj (ev b (ly b u))) (jj (ev e (ly e u))) = F
    rw [f_Rule_changeBelow_34, if_neg (show ¬ (810 : Int32) ≤ ii (j : Int) by rw [ii_lit, ii_le (by omega) (by omega) (by omega) (by omega)]; omega), wk_mo nf ob oe (by omega) (by omega), Option.bind_some] at hF
    rw [scb_s]
    by_cases c1 : bd < pmm b e u
    · rw [if_pos ((jj_lt (by omega) (by omega) (by omega) (by omega)).mpr c1), wk_su nf ob oe (by omega) (by omega), Option.bind_some, wk_bw nf hb he ob oe (by omega) (by omega), Option.bind_some] at hF
      dsimp only at hF
      rw [wk_su nf ob oe q1 q2, Option.bind_some] at hF
      rw [if_pos c1]
      by_cases s : suB b e (pmm b e u - 1) = suB b e u
      · rw [if_pos (bI_eq.mpr s), iiS] at hF
        rw [if_pos s]
        obtain ⟨f', g1, g2⟩ := ih (j + 1) fv (pmm b e u - 1) (by omega) (by omega) (hw.step ob oe s) (by omega) (by omega)
        exact ⟨f', hF.symm.trans g1, g2⟩
      · rw [if_neg (fun z => s (bI_eq.mp z))] at hF
        rw [if_neg s]
        exact ⟨f, hF.symm, Or.inl rfl⟩
    · rw [if_neg (fun z => c1 ((jj_lt (by omega) (by omega) (by omega) (by omega)).mp z))] at hF
      rw [if_neg c1]
      exact ⟨f, hF.symm, Or.inl rfl⟩
/-- what the class's rule answers above t, where it has a summer -/
theorem cabove (hnf : 10000 ≤ nf) (hb : REc k m w d t c b) (he : REc k' m' w' d' t' c' e) (ob : EOK b) (oe : EOK e) {u : Int} (hu : isI u) {f : Int32} (hf : f = 0 ∨ f = 1 ∧ ∀ x y : Int, suB b e x = suB b e y) : ∃ f' kc ks, f_Rule_changeAbove nf (jj u) 1 f k m w d t c k' m' w' d' t' c' = some ((encN (scn b e 820 u), f'), kc, ks) ∧ (f' = 0 ∨ f' = 1 ∧ ∀ x y : Int, suB b e x = suB b e y) ∧ kc ≤ 1 ∧ ks ≤ 5 := by
  unfold isI at hu
  have r1 := ly_range ob (u := u) (by omega) (by omega)
  have r2 := ly_range oe (u := u) (by omega) (by omega)
  unfold f_Rule_changeAbove f_Rule_changeAbove_0
  rw [if_neg (show ¬ (1 : Int32) = 0 by decide)]
  rcases hf with rfl | ⟨rfl, hc⟩
  · rw [if_pos rfl, wk_init (by omega) hb he ob oe (by omega) (by omega), Option.bind_some]
    dsimp only
    rw [wk_su nf ob oe (by omega) (by omega), Option.bind_some]
    obtain ⟨f', g1, g2⟩ := cabove37 (nf := nf) hb he ob oe (t0 := u) 0 810 0 nf u (by omega) (by omega) (WInv.zero u) (by omega) (by omega)
    rw [show ii ((0 : Nat) : Int) = 0 from rfl] at g1
    rw [g1, show (820 : Nat) = 810 + 10 from rfl, scn_more ob oe 810 0 u (by omega) (WInv.zero u)]
    exact ⟨f', 1, 5, rfl, g2, by omega, by omega⟩
  · rw [if_neg (show ¬ (1 : Int32) = 0 by decide), scn_nev hc]
    exact ⟨1, 0, 0, rfl, Or.inr ⟨rfl, hc⟩, by omega, by omega⟩
theorem cbelow (hnf : 10000 ≤ nf) (hb : REc k m w d t c b) (he : REc k' m' w' d' t' c' e) (ob : EOK b) (oe : EOK e) {u bd : Int} (hu : isI u) (hbd : isI bd) (hub : bd < u) {f : Int32} (hf : f = 0 ∨ f = 1 ∧ ∀ x y : Int, suB b e x = suB b e y) : ∃ f' kc ks, f_Rule_changeBelow nf (jj u) (jj bd) 1 f k m w d t c k' m' w' d' t' c' = some ((encN (scb b e bd 820 (u - 1)), f'), kc, ks) ∧ (f' = 0 ∨ f' = 1 ∧ ∀ x y : Int, suB b e x = suB b e y) ∧ kc ≤ 1 ∧ ks ≤ 5 := by
  unfold isI at hu hbd
  have r1 := ly_range ob (u := u - 1) (by omega) (by omega)
  have r2 := ly_range oe (u := u - 1) (by omega) (by omega)
  unfold f_Rule_changeBelow f_Rule_changeBelow_0
  rw [if_neg (show ¬ (1 : Int32) = 0 by decide)]
  rcases hf with rfl | ⟨rfl, hc⟩
  · rw [if_pos rfl, show (1 : Int64) = jj 1 from rfl, jj_sub, wk_init (by omega) hb he ob oe (by omega) (by omega), Option.bind_some]
    dsimp only
    obtain ⟨f', g1, g2⟩ := cbelow34 (nf := nf) hb he ob oe (t0 := u - 1) (bd := bd) hbd 0 810 0 nf (u - 1) (by omega) (by omega) (BInv.zero (u - 1)) (by omega) (by omega)
    rw [show ii ((0 : Nat) : Int) = 0 from rfl] at g1
    rw [g1, show (820 : Nat) = 810 + 10 from rfl, scb_more ob oe 810 0 (u - 1) (by omega) (BInv.zero (u - 1))]
    exact ⟨f', 1, 5, rfl, g2, by omega, by omega⟩
  · rw [if_neg (show ¬ (1 : Int32) = 0 by decide), scb_nev hc]
    exact ⟨1, 0, 0, rfl, Or.inr ⟨rfl, hc⟩, by omega, by omega⟩
end
