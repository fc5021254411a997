/-! ===== the reference's next and last event ===== -/
section
variable {nf : Nat} {sa : Nat → Nat → Int32} {z : Nat} {b e : ET} {si : Nat → Int32} {sj : Nat → Int64} {sb : Nat → Nat → Int64}
def upA (t v L : Int) : Int := if t < v ∧ v < L then v else L
def dnA (t v L : Int) : Int := if v < t ∧ L < v then v else L
theorem mab1 {K : Int64 → Int64 → Int64 → Int32 → Int64 → (Nat → Int32) → (Nat → Int64) → (Nat → Nat → Int32) → (Nat → Nat → Int64) → Option (Int64 × MS)} {x : Int32} {x4 x8 : Int64} {zz : Int32} {v t L : Int} (n : Nat) (hx : ¬ (2 : Int32) ≤ x) (hv : f_Mo_event nf zz x8 x si sj sa sb = some (jj v)) (v1 : -4000000000000000000 ≤ v) (v2 : v ≤ 4000000000000000000) (t1 : -1500000000000000000 ≤ t) (t2 : t ≤ 1500000000000000000) (l1 : -9223372036854775808 ≤ L) (l2 : L ≤ 9223372036854775807) :
    f_Mo_eventAbove_35 nf K (n + 1) x x8 (jj L) x4 zz (jj t) si sj sa sb = f_Mo_eventAbove_35 nf K n (x + 1) x8 (jj (upA t v L)) x4 zz (jj t) si sj sa sb := by
  rw [f_Mo_eventAbove_35, if_neg hx, hv, Option.bind_some]
  unfold f_Mo_eventAbove_72 f_Mo_eventAbove_74 upA
  by_cases c : v ≤ t
  · rw [if_pos ((jj_le (by omega) (by omega) (by omega) (by omega)).mpr c), if_neg (show ¬ (t < v ∧ v < L) by omega)]
  · rw [if_neg (fun q => c ((jj_le (by omega) (by omega) (by omega) (by omega)).mp q))]
    by_cases d : L ≤ v
    · rw [if_pos ((jj_le (by omega) (by omega) (by omega) (by omega)).mpr d), if_neg (show ¬ (t < v ∧ v < L) by omega)]
    · rw [if_neg (fun q => d ((jj_le (by omega) (by omega) (by omega) (by omega)).mp q)), if_pos (show t < v ∧ v < L by omega)]
theorem upA_bd {t v L : Int} (v1 : -4000000000000000000 ≤ v) (v2 : v ≤ 4000000000000000000) (l1 : -9223372036854775808 ≤ L) (l2 : L ≤ 9223372036854775807) : -9223372036854775808 ≤ upA t v L ∧ upA t v L ≤ 9223372036854775807 := by
  unfold upA
  split <;> omega
theorem mab35 {K : Int64 → Int64 → Int64 → Int32 → Int64 → (Nat → Int32) → (Nat → Int64) → (Nat → Nat → Int32) → (Nat → Nat → Int64) → Option (Int64 × MS)} {x4 : Int64} {k t L : Int} (n : Nat) (h : REb sa z b e) (hz : z < 5) (k1 : -80000000000 ≤ k) (k2 : k ≤ 80000000000) (t1 : -1500000000000000000 ≤ t) (t2 : t ≤ 1500000000000000000) (l1 : -9223372036854775808 ≤ L) (l2 : L ≤ 9223372036854775807) :
    f_Mo_eventAbove_35 nf K (n + 3) 0 (jj k) (jj L) x4 (ii (z : Int)) (jj t) si sj sa sb = K (jj (k + 1)) (jj (upA t (ev e k) (upA t (ev b k) L))) x4 (ii (z : Int)) (jj t) si sj sa sb := by
  have vb := ev_range h.2.2.1 (y := k) (by omega) (by omega)
  have ve := ev_range h.2.2.2 (y := k) (by omega) (by omega)
  have bd := upA_bd (t := t) vb.1 vb.2 l1 l2
  rw [mab1 (n + 2) (by decide) (mevb nf h hz (by omega) (by omega) si sj sb) vb.1 vb.2 t1 t2 l1 l2, show (0 : Int32) + 1 = 1 from rfl, mab1 (n + 1) (by decide) (meve nf h hz (by omega) (by omega) si sj sb) ve.1 ve.2 t1 t2 bd.1 bd.2, show (1 : Int32) + 1 = 2 from rfl, f_Mo_eventAbove_35, if_pos (by decide), show (1 : Int64) = jj 1 from rfl, jj_add]
theorem mbl1 {K : Int64 → Int64 → Int64 → Int32 → Int64 → (Nat → Int32) → (Nat → Int64) → (Nat → Nat → Int32) → (Nat → Nat → Int64) → Option (Int64 × MS)} {x : Int32} {x4 x8 : Int64} {zz : Int32} {v t L : Int} (n : Nat) (hx : ¬ (2 : Int32) ≤ x) (hv : f_Mo_event nf zz x8 x si sj sa sb = some (jj v)) (v1 : -4000000000000000000 ≤ v) (v2 : v ≤ 4000000000000000000) (t1 : -1500000000000000000 ≤ t) (t2 : t ≤ 1500000000000000000) (l1 : -9223372036854775808 ≤ L) (l2 : L ≤ 9223372036854775807) :
    f_Mo_eventBelow_35 nf K (n + 1) x x8 (jj L) x4 zz (jj t) si sj sa sb = f_Mo_eventBelow_35 nf K n (x + 1) x8 (jj (dnA t v L)) x4 zz (jj t) si sj sa sb := by
  rw [f_Mo_eventBelow_35, if_neg hx, hv, Option.bind_some]
  unfold f_Mo_eventBelow_72 f_Mo_eventBelow_74 dnA
  by_cases c : t ≤ v
  · rw [if_pos ((jj_le (by omega) (by omega) (by omega) (by omega)).mpr c), if_neg (show ¬ (v < t ∧ L < v) by omega)]
  · rw [if_neg (fun q => c ((jj_le (by omega) (by omega) (by omega) (by omega)).mp q))]
    by_cases d : v ≤ L
    · rw [if_pos ((jj_le (by omega) (by omega) (by omega) (by omega)).mpr d), if_neg (show ¬ (v < t ∧ L < v) by omega)]
    · rw [if_neg (fun q => d ((jj_le (by omega) (by omega) (by omega) (by omega)).mp q)), if_pos (show v < t ∧ L < v by omega)]
theorem dnA_bd {t v L : Int} (v1 : -4000000000000000000 ≤ v) (v2 : v ≤ 4000000000000000000) (l1 : -9223372036854775808 ≤ L) (l2 : L ≤ 9223372036854775807) : -9223372036854775808 ≤ dnA t v L ∧ dnA t v L ≤ 9223372036854775807 := by
  unfold dnA
  split <;> omega
theorem mbl35 {K : Int64 → Int64 → Int64 → Int32 → Int64 → (Nat → Int32) → (Nat → Int64) → (Nat → Nat → Int32) → (Nat → Nat → Int64) → Option (Int64 × MS)} {x4 : Int64} {k t L : Int} (n : Nat) (h : REb sa z b e) (hz : z < 5) (k1 : -80000000000 ≤ k) (k2 : k ≤ 80000000000) (t1 : -1500000000000000000 ≤ t) (t2 : t ≤ 1500000000000000000) (l1 : -9223372036854775808 ≤ L) (l2 : L ≤ 9223372036854775807) :
    f_Mo_eventBelow_35 nf K (n + 3) 0 (jj k) (jj L) x4 (ii (z : Int)) (jj t) si sj sa sb = K (jj (k + 1)) (jj (dnA t (ev e k) (dnA t (ev b k) L))) x4 (ii (z : Int)) (jj t) si sj sa sb := by
  have vb := ev_range h.2.2.1 (y := k) (by omega) (by omega)
  have ve := ev_range h.2.2.2 (y := k) (by omega) (by omega)
  have bd := dnA_bd (t := t) vb.1 vb.2 l1 l2
  rw [mbl1 (n + 2) (by decide) (mevb nf h hz (by omega) (by omega) si sj sb) vb.1 vb.2 t1 t2 l1 l2, show (0 : Int32) + 1 = 1 from rfl, mbl1 (n + 1) (by decide) (meve nf h hz (by omega) (by omega) si sj sb) ve.1 ve.2 t1 t2 bd.1 bd.2, show (1 : Int32) + 1 = 2 from rfl, f_Mo_eventBelow_35, if_pos (by decide), show (1 : Int64) = jj 1 from rfl, jj_add]
theorem ge_nxb (ob : EOK b) {t y : Int} (h : t < ev b y) : nxm b e t ≤ ev b y := by
  have i := ly_iff ob t y
  have m := ev_mono ob (show ly b t + 1 ≤ y by omega)
  unfold nxm
  omega
theorem ge_nxe (oe : EOK e) {t y : Int} (h : t < ev e y) : nxm b e t ≤ ev e y := by
  have i := ly_iff oe t y
  have m := ev_mono oe (show ly e t + 1 ≤ y by omega)
  unfold nxm
  omega
theorem le_pmb (ob : EOK b) {t y : Int} (h : ev b y < t) : ev b y ≤ pmm b e (t - 1) := by
  have i := ly_iff ob (t - 1) y
  have m := ev_mono ob (show y ≤ ly b (t - 1) by omega)
  unfold pmm
  omega
theorem le_pme (oe : EOK e) {t y : Int} (h : ev e y < t) : ev e y ≤ pmm b e (t - 1) := by
  have i := ly_iff oe (t - 1) y
  have m := ev_mono oe (show y ≤ ly e (t - 1) by omega)
  unfold pmm
  omega
theorem upA_mid {t L p B E : Int} (hp : p ≤ L) (hB : t < B → p ≤ B) (hE : t < E → p ≤ E) : p ≤ upA t E (upA t B L) ∧ upA t E (upA t B L) ≤ L ∧ (t < B → upA t E (upA t B L) ≤ B) ∧ (t < E → upA t E (upA t B L) ≤ E) := by
  unfold upA
  by_cases c : t < B ∧ B < L
  · rw [if_pos c]
    by_cases d : t < E ∧ E < B
    · rw [if_pos d]
      omega
    · rw [if_neg d]
      omega
  · rw [if_neg c]
    by_cases d : t < E ∧ E < L
    · rw [if_pos d]
      omega
    · rw [if_neg d]
      omega
theorem dnA_mid {t L p B E : Int} (hp : L ≤ p) (hB : B < t → B ≤ p) (hE : E < t → E ≤ p) : dnA t E (dnA t B L) ≤ p ∧ L ≤ dnA t E (dnA t B L) ∧ (B < t → B ≤ dnA t E (dnA t B L)) ∧ (E < t → E ≤ dnA t E (dnA t B L)) := by
  unfold dnA
  by_cases c : B < t ∧ L < B
  · rw [if_pos c]
    by_cases d : E < t ∧ B < E
    · rw [if_pos d]
      omega
    · rw [if_neg d]
      omega
  · rw [if_neg c]
    by_cases d : E < t ∧ L < E
    · rw [if_pos d]
      omega
    · rw [if_neg d]
      omega
theorem mab20 (hnf : 10000 ≤ nf) (h : REb sa z b e) (hz : z < 5) {t Y : Int} (y1 : -70000000000 ≤ Y) (y2 : Y ≤ 70000000000) (t1 : -1500000000000000000 ≤ t) (t2 : t ≤ 1500000000000000000) : ∀ (n : Nat) (k L : Int) (fu : Nat), k + n = Y + 4 → n < fu → Y - 2 ≤ k → nxm b e t ≤ L → L ≤ 9223372036854775807 → (∀ y, Y - 2 ≤ y → y < k → (t < ev b y → L ≤ ev b y) ∧ (t < ev e y → L ≤ ev e y)) → ∃ L', f_Mo_eventAbove_20 nf fu (jj k) (jj L) (jj Y) (ii (z : Int)) (jj t) si sj sa sb = some (jj L', si, sj, sa, sb) ∧ nxm b e t ≤ L' ∧ ∀ y, Y - 2 ≤ y → y < Y + 4 → (t < ev b y → L' ≤ ev b y) ∧ (t < ev e y → L' ≤ ev e y) := by
  have g := nx_gt h.2.2.1 h.2.2.2 t
  intro n
  induction n with
  | zero =>
    intro k L fu hk hf k1 l1 l2 hl
    obtain ⟨fv, rfl⟩ : ∃ fv, fu = fv + 1 := ⟨fu - 1, by omega⟩
    obtain rfl : k = Y + 4 := by omega
    rw [f_Mo_eventAbove_20, show (3 : Int64) = jj 3 from rfl, jj_add, if_pos ((jj_lt (by omega) (by omega) (by omega) (by omega)).mpr (by omega))]
    exact ⟨L, rfl, l1, hl⟩
  | succ n ih =>
    intro k L fu hk hf k1 l1 l2 hl
    obtain ⟨fv, rfl⟩ : ∃ fv, fu = fv + 1 := ⟨fu - 1, by omega⟩
    obtain ⟨p, hp⟩ : ∃ p, nf = p + 3 := ⟨nf - 3, by omega⟩
    have vb := ev_range h.2.2.1 (y := k) (by omega) (by omega)
    have ve := ev_range h.2.2.2 (y := k) (by omega) (by omega)
    obtain ⟨m1, m2, m3, m4⟩ := upA_mid (t := t) (B := ev b k) (E := ev e k) l1 (fun q => ge_nxb h.2.2.1 q) (fun q => ge_nxe h.2.2.2 q)
    obtain ⟨L', r1, r2, r3⟩ := ih (k + 1) (upA t (ev e k) (upA t (ev b k) L)) fv (by omega) (by omega) (by omega) m1 (by omega) (fun y q1 q2 => by
      by_cases c : y = k
      · subst c
        exact ⟨m3, m4⟩
      · have := hl y q1 (by omega)
        exact ⟨fun q => Int.le_trans m2 (this.1 q), fun q => Int.le_trans m2 (this.2 q)⟩)
    refine ⟨L', ?_, r2, r3⟩
    rw [f_Mo_eventAbove_20, show (3 : Int64) = jj 3 from rfl, jj_add, if_neg (fun q => by rw [jj_lt (by omega) (by omega) (by omega) (by omega)] at q; omega)]
    have s := mab35 (nf := nf) (si := si) (sj := sj) (sb := sb) (K := f_Mo_eventAbove_20 nf fv) (x4 := jj Y) (k := k) (t := t) (L := L) p h hz (by omega) (by omega) t1 t2 (by omega) l2
    rw [← hp] at s
    rw [s]
    exact r1
theorem mabove (hnf : 10000 ≤ nf) (h : REb sa z b e) (hz : z < 5) {t : Int} (t1 : -1500000000000000000 ≤ t) (t2 : t ≤ 1500000000000000000) : f_Mo_eventAbove nf (ii (z : Int)) (jj t) si sj sa sb = some (jj (nxm b e t), abI si (t / 86400), abJ sj (t / 86400), sa, sb) := by
  have hy := yo_bounds (d := t / 86400) (by omega) (by omega)
  have hb := ly_spec h.2.2.1 t
  have he := ly_spec h.2.2.2 t
  have nr := nx_range h.2.2.1 h.2.2.2 t1 t2
  unfold f_Mo_eventAbove f_Mo_eventAbove_0
  rw [mabout_ok nf (by omega) (by omega), Option.bind_some]
  dsimp only
  rw [show va_up (va_up si 42 (ii (dod_ (t / 86400)))) 41 (ii (mod_ (t / 86400))) = abI si (t / 86400) from rfl, show va_up sj 40 (jj (yo (t / 86400))) = abJ sj (t / 86400) from rfl]
  obtain ⟨Y, hY⟩ : ∃ Y, yo (t / 86400) = Y := ⟨_, rfl⟩
  rw [hY] at hy hb he ⊢
  rw [show (2 : Int64) = jj 2 from rfl, jj_sub, show (9223372036854775807 : Int64) = jj 9223372036854775807 from rfl]
  obtain ⟨L', r1, r2, r3⟩ := mab20 (nf := nf) (si := abI si (t / 86400)) (sj := abJ sj (t / 86400)) (sb := sb) hnf h hz (t := t) (Y := Y) (by omega) (by omega) t1 t2 6 (Y - 2) 9223372036854775807 nf (by omega) (by omega) (by omega) (by omega) (by omega) (fun y q1 q2 => by omega)
  rw [r1]
  have a1 := (r3 (ly b t + 1) (by omega) (by omega)).1 hb.2.1
  have a2 := (r3 (ly e t + 1) (by omega) (by omega)).2 he.2.1
  have : L' = nxm b e t := by
    unfold nxm at *
    omega
  rw [this]
theorem mbl20 (hnf : 10000 ≤ nf) (h : REb sa z b e) (hz : z < 5) {t Y : Int} (y1 : -70000000000 ≤ Y) (y2 : Y ≤ 70000000000) (t1 : -1400000000000000000 ≤ t) (t2 : t ≤ 1500000000000000000) : ∀ (n : Nat) (k L : Int) (fu : Nat), k + n = Y + 3 → n < fu → Y - 3 ≤ k → L ≤ pmm b e (t - 1) → -9223372036854775808 ≤ L → (∀ y, Y - 3 ≤ y → y < k → (ev b y < t → ev b y ≤ L) ∧ (ev e y < t → ev e y ≤ L)) → ∃ L', f_Mo_eventBelow_20 nf fu (jj k) (jj L) (jj Y) (ii (z : Int)) (jj t) si sj sa sb = some (jj L', si, sj, sa, sb) ∧ L' ≤ pmm b e (t - 1) ∧ ∀ y, Y - 3 ≤ y → y < Y + 3 → (ev b y < t → ev b y ≤ L') ∧ (ev e y < t → ev e y ≤ L') := by
  have pr := pm_range h.2.2.1 h.2.2.2 (u := t - 1) (by omega) (by omega)
  intro n
  induction n with
  | zero =>
    intro k L fu hk hf k1 l1 l2 hl
    obtain ⟨fv, rfl⟩ : ∃ fv, fu = fv + 1 := ⟨fu - 1, by omega⟩
    obtain rfl : k = Y + 3 := by omega
    rw [f_Mo_eventBelow_20, show (2 : Int64) = jj 2 from rfl, jj_add, if_pos ((jj_lt (by omega) (by omega) (by omega) (by omega)).mpr (by omega))]
    exact ⟨L, rfl, l1, hl⟩
  | succ n ih =>
    intro k L fu hk hf k1 l1 l2 hl
    obtain ⟨fv, rfl⟩ : ∃ fv, fu = fv + 1 := ⟨fu - 1, by omega⟩
    obtain ⟨p, hp⟩ : ∃ p, nf = p + 3 := ⟨nf - 3, by omega⟩
    obtain ⟨m1, m2, m3, m4⟩ := dnA_mid (t := t) (B := ev b k) (E := ev e k) l1 (fun q => le_pmb h.2.2.1 q) (fun q => le_pme h.2.2.2 q)
    obtain ⟨L', r1, r2, r3⟩ := ih (k + 1) (dnA t (ev e k) (dnA t (ev b k) L)) fv (by omega) (by omega) (by omega) m1 (by omega) (fun y q1 q2 => by
      by_cases c : y = k
      · subst c
        exact ⟨m3, m4⟩
      · have := hl y q1 (by omega)
        exact ⟨fun q => Int.le_trans (this.1 q) m2, fun q => Int.le_trans (this.2 q) m2⟩)
    refine ⟨L', ?_, r2, r3⟩
    rw [f_Mo_eventBelow_20, show (2 : Int64) = jj 2 from rfl, jj_add, if_neg (fun q => by rw [jj_lt (by omega) (by omega) (by omega) (by omega)] at q; omega)]
    have s := mbl35 (nf := nf) (si := si) (sj := sj) (sb := sb) (K := f_Mo_eventBelow_20 nf fv) (x4 := jj Y) (k := k) (t := t) (L := L) p h hz (by omega) (by omega) (by omega) t2 l2 (by omega)
    rw [← hp] at s
    rw [s]
    exact r1
theorem mbelow (hnf : 10000 ≤ nf) (h : REb sa z b e) (hz : z < 5) {t : Int} (t1 : -1400000000000000000 ≤ t) (t2 : t ≤ 1500000000000000000) : f_Mo_eventBelow nf (ii (z : Int)) (jj t) si sj sa sb = some (jj (pmm b e (t - 1)), abI si (t / 86400), abJ sj (t / 86400), sa, sb) := by
  have hy := yo_bounds (d := t / 86400) (by omega) (by omega)
  have hb := ly_spec h.2.2.1 t
  have he := ly_spec h.2.2.2 t
  have hb' := ly_spec h.2.2.1 (t - 1)
  have he' := ly_spec h.2.2.2 (t - 1)
  have pr := pm_range h.2.2.1 h.2.2.2 (u := t - 1) (by omega) (by omega)
  have ub := (ly_iff h.2.2.1 t (ly b (t - 1))).mp (by omega)
  have ue := (ly_iff h.2.2.2 t (ly e (t - 1))).mp (by omega)
  have mb := ev_mono h.2.2.1 (show ly b t - 1 ≤ ly b t by omega)
  have me := ev_mono h.2.2.2 (show ly e t - 1 ≤ ly e t by omega)
  have lb := (ly_iff h.2.2.1 (t - 1) (ly b t - 1)).mp (by omega)
  have le := (ly_iff h.2.2.2 (t - 1) (ly e t - 1)).mp (by omega)
  unfold f_Mo_eventBelow f_Mo_eventBelow_0
  rw [mabout_ok nf (by omega) (by omega), Option.bind_some]
  dsimp only
  rw [show va_up (va_up si 42 (ii (dod_ (t / 86400)))) 41 (ii (mod_ (t / 86400))) = abI si (t / 86400) from rfl, show va_up sj 40 (jj (yo (t / 86400))) = abJ sj (t / 86400) from rfl]
  obtain ⟨Y, hY⟩ : ∃ Y, yo (t / 86400) = Y := ⟨_, rfl⟩
  rw [hY] at hy hb he ⊢
  rw [show (3 : Int64) = jj 3 from rfl, jj_sub, show (-9223372036854775808 : Int64) = jj (-9223372036854775808) from rfl]
  obtain ⟨L', r1, r2, r3⟩ := mbl20 (nf := nf) (si := abI si (t / 86400)) (sj := abJ sj (t / 86400)) (sb := sb) hnf h hz (t := t) (Y := Y) (by omega) (by omega) t1 t2 6 (Y - 3) (-9223372036854775808) nf (by omega) (by omega) (by omega) (by omega) (by omega) (fun y q1 q2 => by omega)
  rw [r1]
  have a1 := (r3 (ly b (t - 1)) (by omega) (by omega)).1 (by omega)
  have a2 := (r3 (ly e (t - 1)) (by omega) (by omega)).2 (by omega)
  have : L' = pmm b e (t - 1) := by
    unfold pmm at *
    omega
  rw [this]
theorem ab_fI (si : Nat → Int32) (d : Int) : ∀ k, ¬ (41 ≤ k ∧ k ≤ 52) → abI si d k = si k := fun k hk => by
  unfold abI
  rw [vup_ne (by omega), vup_ne (by omega)]
theorem ab_fJ (sj : Nat → Int64) (d : Int) : ∀ k, k ≠ 40 → abJ sj d k = sj k := fun k hk => by
  unfold abJ
  rw [vup_ne hk]
end
