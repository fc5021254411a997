/-! ===== the last year whose moment is not above t; summers ===== -/
def ly (e : ET) (t : Int) : Int := if ev e (yo (t / 86400) + 1) ≤ t then yo (t / 86400) + 1 else if ev e (yo (t / 86400) + 1 - 1) ≤ t then yo (t / 86400) + 1 - 1 else if ev e (yo (t / 86400) + 1 - 1 - 1) ≤ t then yo (t / 86400) + 1 - 1 - 1 else yo (t / 86400) + 1 - 1 - 1 - 1
theorem ly_spec {e : ET} (h : EOK e) (t : Int) : ev e (ly e t) ≤ t ∧ t < ev e (ly e t + 1) ∧ yo (t / 86400) - 2 ≤ ly e t ∧ ly e t ≤ yo (t / 86400) + 1 := by
  obtain ⟨Y, hY⟩ : ∃ Y, yo (t / 86400) = Y := ⟨_, rfl⟩
  have hs := yo_spec (t / 86400)
  rw [hY] at hs
  have m1 := ys_mono (show Y - 2 ≤ Y by omega)
  have m2 := ys_mono (show Y + 1 ≤ Y + 2 by omega)
  have n1 := ev_near h (Y - 2)
  have n2 := ev_near h (Y + 2)
  have a1 : ev e (Y - 2) ≤ t := by omega
  have a2 : t < ev e (Y + 2) := by omega
  unfold ly
  rw [hY]
  by_cases c1 : ev e (Y + 1) ≤ t
  · rw [if_pos c1]
    exact ⟨c1, by rw [show Y + 1 + 1 = Y + 2 by omega]; exact a2, by omega, by omega⟩
  · rw [if_neg c1]
    by_cases c2 : ev e (Y + 1 - 1) ≤ t
    · rw [if_pos c2]
      exact ⟨c2, by rw [show Y + 1 - 1 + 1 = Y + 1 by omega]; omega, by omega, by omega⟩
    · rw [if_neg c2]
      by_cases c3 : ev e (Y + 1 - 1 - 1) ≤ t
      · rw [if_pos c3]
        exact ⟨c3, by rw [show Y + 1 - 1 - 1 + 1 = Y + 1 - 1 by omega]; omega, by omega, by omega⟩
      · rw [if_neg c3]
        exact ⟨by rw [show Y + 1 - 1 - 1 - 1 = Y - 2 by omega]; exact a1, by rw [show Y + 1 - 1 - 1 - 1 + 1 = Y + 1 - 1 - 1 by omega]; omega, by omega, by omega⟩
theorem ly_iff {e : ET} (h : EOK e) (t y : Int) : ev e y ≤ t ↔ y ≤ ly e t := by
  obtain ⟨h1, h2, _, _⟩ := ly_spec h t
  constructor
  · intro q
    by_cases c : y ≤ ly e t
    · exact c
    · have := ev_mono h (show ly e t + 1 ≤ y by omega)
      omega
  · intro q
    have := ev_mono h q
    omega
theorem ly_uniq {e : ET} (h : EOK e) {t y : Int} (h1 : ev e y ≤ t) (h2 : t < ev e (y + 1)) : ly e t = y := by
  have a := (ly_iff h t y).mp h1
  have b : ¬ (y + 1 ≤ ly e t) := fun q => by
    have := (ly_iff h t (y + 1)).mpr q
    omega
  omega
theorem lastyear_ok {nf : Nat} (hnf : 4 ≤ nf) {k m w d t c : Int32} {e : ET} (hc : REc k m w d t c e) (h : EOK e) {u : Int} (h1 : -1500000000000000000 ≤ u) (h2 : u ≤ 1500000000000000000) : f_Edge_lastYear nf (jj u) k m w d t c = some (jj (ly e u)) := by
  have hy := yo_bounds (d := u / 86400) (by omega) (by omega)
  have hf := fd_ok nf (show -9223372036854775808 ≤ u by omega) (show u < 9223372036854775808 by omega) (show (0 : Int) < 86400 by omega) (by omega)
  have hb : ∀ y : Int, -90000000000 ≤ y → y ≤ 90000000000 → -9223372036854775808 ≤ ev e y ∧ ev e y < 9223372036854775808 := by
    intro y g1 g2
    have n1 := ev_near h y
    have n2 := ys_bounds (y := y) (by omega) (by omega)
    omega
  unfold f_Edge_lastYear f_Edge_lastYear_0
  obtain ⟨n, rfl⟩ : ∃ n, nf = n + 4 := ⟨nf - 4, by omega⟩
  simp only [jj_lit, hf, Option.bind_some, yearof_ok (n + 4) (show -20000000000000 ≤ u / 86400 by omega) (by omega), jj_add]
  obtain ⟨Y, hY⟩ : ∃ Y, yo (u / 86400) = Y := ⟨_, rfl⟩
  unfold ly
  rw [hY] at hy ⊢
  have step : ∀ (j : Nat) (q y : Int), 0 ≤ q → q < 3 → -90000000000 ≤ y → y ≤ 90000000000 → f_Edge_lastYear_16 (n + 4) k m w d t c (j + 1) (ii q) (jj y) (jj u) = if ev e y ≤ u then some (jj y) else f_Edge_lastYear_16 (n + 4) k m w d t c j (ii (q + 1)) (jj (y - 1)) (jj u) := by
    intro j q y q1 q2 g1 g2
    have hbb := hb y g1 g2
    rw [f_Edge_lastYear_16, ii_lit, if_neg (by rw [ii_le (by omega) (by omega) (by omega) (by omega)]; omega), moment_ok (n + 4) hc h g1 g2, Option.bind_some, jj_lit, jj_sub, ii_lit, ii_add]
    unfold f_Edge_lastYear_42
    by_cases cc : ev e y ≤ u
    · rw [if_pos cc, if_pos ((jj_le (by omega) (by omega) (by omega) (by omega)).mpr cc)]
    · rw [if_neg cc, if_neg (fun z => cc ((jj_le (by omega) (by omega) (by omega) (by omega)).mp z))]
  rw [show (0 : Int32) = ii 0 from rfl, step (n + 3) 0 (Y + 1) (by omega) (by omega) (by omega) (by omega), step (n + 2) (0 + 1) (Y + 1 - 1) (by omega) (by omega) (by omega) (by omega), step (n + 1) (0 + 1 + 1) (Y + 1 - 1 - 1) (by omega) (by omega) (by omega) (by omega)]
  have last : f_Edge_lastYear_16 (n + 4) k m w d t c (n + 1) (ii (0 + 1 + 1 + 1)) (jj (Y + 1 - 1 - 1 - 1)) (jj u) = some (jj (Y + 1 - 1 - 1 - 1)) := by
    rw [f_Edge_lastYear_16, if_pos (by decide)]
    rfl
  rw [last]
  split
  · rfl
  · split
    · rfl
    · split <;> rfl
/-- is it summer at t -/
def su (b e : ET) (t : Int) : Prop := ev e (ly e t) ≤ ev b (ly b t)
theorem ly_range {e : ET} (h : EOK e) {u : Int} (h1 : -1500000000000000000 ≤ u) (h2 : u ≤ 1500000000000000000) : -70000000000 ≤ ly e u ∧ ly e u ≤ 70000000000 := by
  have hy := yo_bounds (d := u / 86400) (by omega) (by omega)
  have hs := ly_spec h u
  omega
theorem ev_range {e : ET} (h : EOK e) {y : Int} (g1 : -90000000000 ≤ y) (g2 : y ≤ 90000000000) : -4000000000000000000 ≤ ev e y ∧ ev e y ≤ 4000000000000000000 := by
  have n1 := ev_near h y
  have n2 := ys_bounds (y := y) (by omega) (by omega)
  omega
theorem issummerat_ok {nf : Nat} (hnf : 4 ≤ nf) {k m w d t c k' m' w' d' t' c' : Int32} {b e : ET} (hb : REc k m w d t c b) (he : REc k' m' w' d' t' c' e) (ob : EOK b) (oe : EOK e) {u : Int} (h1 : -1500000000000000000 ≤ u) (h2 : u ≤ 1500000000000000000) :
    f_Rule_isSummerAt nf (jj u) 1 k m w d t c k' m' w' d' t' c' = some (if ev e (ly e u) ≤ ev b (ly b u) then 1 else 0) := by
  have r1 := ly_range ob h1 h2
  have r2 := ly_range oe h1 h2
  have v1 := ev_range ob (y := ly b u) (by omega) (by omega)
  have v2 := ev_range oe (y := ly e u) (by omega) (by omega)
  unfold f_Rule_isSummerAt f_Rule_isSummerAt_0 f_Rule_isSummerAt_45 f_Rule_isSummerAt_46
  rw [if_neg (by decide), lastyear_ok hnf hb ob h1 h2, Option.bind_some, moment_ok nf hb ob (by omega) (by omega), Option.bind_some, lastyear_ok hnf he oe h1 h2, Option.bind_some, moment_ok nf he oe (by omega) (by omega), Option.bind_some]
  by_cases c : ev e (ly e u) ≤ ev b (ly b u)
  · rw [if_pos c, if_neg (fun q => by rw [jj_lt (by omega) (by omega) (by omega) (by omega)] at q; omega), if_pos (by decide)]
  · rw [if_neg c, if_pos ((jj_lt (by omega) (by omega) (by omega) (by omega)).mpr (by omega)), if_pos (by decide)]
/-! the reference -/
def abI (si : Nat → Int32) (d : Int) : Nat → Int32 := va_up (va_up si 42 (ii (dod_ d))) 41 (ii (mod_ d))
def abJ (sj : Nat → Int64) (d : Int) : Nat → Int64 := va_up sj 40 (jj (yo d))
/-- both edges of zone z -/
def REb (sa : Nat → Nat → Int32) (z : Nat) (b e : ET) : Prop := REm sa (2 * z) b ∧ REm sa (2 * z + 1) e ∧ EOK b ∧ EOK e
theorem mevb (nf : Nat) {sa : Nat → Nat → Int32} {z : Nat} {b e : ET} (h : REb sa z b e) (hz : z < 5) {y : Int} (h1 : -90000000000 ≤ y) (h2 : y ≤ 90000000000) (si : Nat → Int32) (sj : Nat → Int64) (sb : Nat → Nat → Int64) : f_Mo_event nf (ii (z : Int)) (jj y) 0 si sj sa sb = some (jj (ev b y)) :=
  mevent_ok nf (w := 0) hz (by omega) h.1 h.2.2.1 h1 h2 si sj sb
theorem meve (nf : Nat) {sa : Nat → Nat → Int32} {z : Nat} {b e : ET} (h : REb sa z b e) (hz : z < 5) {y : Int} (h1 : -90000000000 ≤ y) (h2 : y ≤ 90000000000) (si : Nat → Int32) (sj : Nat → Int64) (sb : Nat → Nat → Int64) : f_Mo_event nf (ii (z : Int)) (jj y) 1 si sj sa sb = some (jj (ev e y)) :=
  mevent_ok nf (w := 1) hz (by omega) h.2.1 h.2.2.2 h1 h2 si sj sb
theorem zin {z : Nat} (hz : z < 5) : (ii (z : Int)).toNatClampNeg = z ∧ ¬ (ii (z : Int) < 0 ∨ 5 ≤ (ii (z : Int)).toNatClampNeg) := by
  have e : (ii (z : Int)).toNatClampNeg = z := by rw [ii_nat (by omega) (by omega)]; omega
  refine ⟨e, ?_⟩
  rw [e, ii_lit, ii_lt (by omega) (by omega) (by omega) (by omega)]
  omega
section
variable {nf : Nat} {sa : Nat → Nat → Int32} {z : Nat} {b e : ET} {si : Nat → Int32} {sj : Nat → Int64} {sb : Nat → Nat → Int64}
theorem msum_step (h : REb sa z b e) (hz : z < 5) {t Y k L : Int} {s : Int32} {n : Nat} (k1 : -80000000000 ≤ k) (k2 : k ≤ Y + 2) (k3 : Y ≤ 70000000000) (t1 : -1500000000000000000 ≤ t) (t2 : t ≤ 1500000000000000000) (l1 : -9223372036854775808 ≤ L) (l2 : L ≤ 4000000000000000000) :
    f_Mo_isSummer_35 nf (n + 1) (jj k) s (jj L) (jj Y) (ii (z : Int)) (jj t) si sj sa sb =
      f_Mo_isSummer_35 nf n (jj (k + 1)) (if ev b k ≤ t ∧ (if ev e k ≤ t ∧ L < ev e k then ev e k else L) ≤ ev b k then 1 else if ev e k ≤ t ∧ L < ev e k then 0 else s) (jj (if ev b k ≤ t ∧ (if ev e k ≤ t ∧ L < ev e k then ev e k else L) ≤ ev b k then ev b k else if ev e k ≤ t ∧ L < ev e k then ev e k else L)) (jj Y) (ii (z : Int)) (jj t) si sj sa sb := by
  have v1 := ev_range h.2.2.1 (y := k) (by omega) (by omega)
  have v2 := ev_range h.2.2.2 (y := k) (by omega) (by omega)
  rw [f_Mo_isSummer_35, jj_lit, jj_add, if_neg (by rw [jj_lt (by omega) (by omega) (by omega) (by omega)]; omega), mevb nf h hz (by omega) (by omega), Option.bind_some, meve nf h hz (by omega) (by omega), Option.bind_some]
  have fin : ∀ (L' : Int) (s' : Int32), -9223372036854775808 ≤ L' → L' ≤ 4000000000000000000 → f_Mo_isSummer_89 nf (f_Mo_isSummer_35 nf n) (jj (ev b k)) (jj k) s' (jj L') (jj Y) (ii (z : Int)) (jj t) si sj sa sb = f_Mo_isSummer_35 nf n (jj (k + 1)) (if ev b k ≤ t ∧ L' ≤ ev b k then 1 else s') (jj (if ev b k ≤ t ∧ L' ≤ ev b k then ev b k else L')) (jj Y) (ii (z : Int)) (jj t) si sj sa sb := by
    intro L' s' g1 g2
    unfold f_Mo_isSummer_89 f_Mo_isSummer_111
    rw [jj_lit, jj_add]
    by_cases c1 : ev b k ≤ t
    · rw [if_neg (by rw [jj_lt (by omega) (by omega) (by omega) (by omega)]; omega)]
      by_cases c2 : L' ≤ ev b k
      · rw [if_neg (by rw [jj_lt (by omega) (by omega) (by omega) (by omega)]; omega), if_pos ⟨c1, c2⟩, if_pos ⟨c1, c2⟩]
      · rw [if_pos ((jj_lt (by omega) (by omega) (by omega) (by omega)).mpr (by omega)), if_neg (fun q => c2 q.2), if_neg (fun q => c2 q.2)]
    · rw [if_pos ((jj_lt (by omega) (by omega) (by omega) (by omega)).mpr (by omega)), if_neg (fun q => c1 q.1), if_neg (fun q => c1 q.1)]
  by_cases c1 : ev e k ≤ t
  · rw [if_neg (by rw [jj_lt (by omega) (by omega) (by omega) (by omega)]; omega)]
    by_cases c2 : L < ev e k
    · rw [if_neg (by rw [jj_le (by omega) (by omega) (by omega) (by omega)]; omega), fin (ev e k) 0 (by omega) (by omega), if_pos (show ev e k ≤ t ∧ L < ev e k from ⟨c1, c2⟩), if_pos (show ev e k ≤ t ∧ L < ev e k from ⟨c1, c2⟩)]
    · rw [if_pos ((jj_le (by omega) (by omega) (by omega) (by omega)).mpr (by omega)), fin L s l1 l2, if_neg (show ¬ (ev e k ≤ t ∧ L < ev e k) from fun q => c2 q.2), if_neg (show ¬ (ev e k ≤ t ∧ L < ev e k) from fun q => c2 q.2)]
  · rw [if_pos ((jj_lt (by omega) (by omega) (by omega) (by omega)).mpr (by omega)), fin L s l1 l2, if_neg (show ¬ (ev e k ≤ t ∧ L < ev e k) from fun q => c1 q.1), if_neg (show ¬ (ev e k ≤ t ∧ L < ev e k) from fun q => c1 q.1)]
/-- the loop's numbers behind the years up to k -/
def SI (b e : ET) (t k L : Int) (s : Int32) : Prop := ∃ p q : Int, p = min k (ly b t) ∧ q = min k (ly e t) ∧ (if ev e q ≤ ev b p then L = ev b p ∧ s = 1 else L = ev e q ∧ s = 0)
theorem SI_first (ob : EOK b) (oe : EOK e) {t k : Int} (h1 : k ≤ ly b t) (h2 : k ≤ ly e t) {L : Int} (hL : L < ev e k) (s : Int32) : SI b e t k (if ev b k ≤ t ∧ (if ev e k ≤ t ∧ L < ev e k then ev e k else L) ≤ ev b k then ev b k else if ev e k ≤ t ∧ L < ev e k then ev e k else L) (if ev b k ≤ t ∧ (if ev e k ≤ t ∧ L < ev e k then ev e k else L) ≤ ev b k then 1 else if ev e k ≤ t ∧ L < ev e k then 0 else s) := by
  have a1 := (ly_iff ob t k).mpr h1
  have a2 := (ly_iff oe t k).mpr h2
  refine ⟨k, k, by omega, by omega, ?_⟩
  simp only [if_pos (show ev e k ≤ t ∧ L < ev e k from ⟨a2, hL⟩)]
  by_cases c : ev e k ≤ ev b k
  · rw [if_pos c, if_pos ⟨a1, c⟩, if_pos ⟨a1, c⟩]
    exact ⟨rfl, rfl⟩
  · rw [if_neg c, if_neg (fun q => c q.2), if_neg (fun q => c q.2)]
    exact ⟨rfl, rfl⟩
theorem si_e {B E E' L : Int} {s : Int32} (h : if E ≤ B then L = B ∧ s = 1 else L = E ∧ s = 0) (he : E < E') : if E' ≤ B then (if L < E' then E' else L) = B ∧ (if L < E' then 0 else s) = 1 else (if L < E' then E' else L) = E' ∧ (if L < E' then 0 else s) = 0 := by
  by_cases c : E ≤ B
  · rw [if_pos c] at h
    obtain ⟨rfl, rfl⟩ := h
    by_cases d : E' ≤ L
    · rw [if_pos d, if_neg (by omega), if_neg (by omega)]
      exact ⟨rfl, rfl⟩
    · rw [if_neg d, if_pos (by omega), if_pos (by omega)]
      exact ⟨rfl, rfl⟩
  · rw [if_neg c] at h
    obtain ⟨rfl, rfl⟩ := h
    rw [if_neg (show ¬ E' ≤ B by omega), if_pos he, if_pos he]
    exact ⟨rfl, rfl⟩
theorem si_b {B E B' L : Int} {s : Int32} (h : if E ≤ B then L = B ∧ s = 1 else L = E ∧ s = 0) (hb : B < B') : if E ≤ B' then (if L ≤ B' then B' else L) = B' ∧ (if L ≤ B' then 1 else s) = 1 else (if L ≤ B' then B' else L) = E ∧ (if L ≤ B' then 1 else s) = 0 := by
  by_cases c : E ≤ B
  · rw [if_pos c] at h
    obtain ⟨rfl, rfl⟩ := h
    rw [if_pos (show E ≤ B' by omega), if_pos (by omega), if_pos (by omega)]
    exact ⟨rfl, rfl⟩
  · rw [if_neg c] at h
    obtain ⟨rfl, rfl⟩ := h
    by_cases d : L ≤ B'
    · rw [if_pos d, if_pos d, if_pos d]
      exact ⟨rfl, rfl⟩
    · rw [if_neg d, if_neg d, if_neg d]
      exact ⟨rfl, rfl⟩
theorem SI_next (ob : EOK b) (oe : EOK e) {t k L : Int} {s : Int32} (h : SI b e t (k - 1) L s) : SI b e t k (if ev b k ≤ t ∧ (if ev e k ≤ t ∧ L < ev e k then ev e k else L) ≤ ev b k then ev b k else if ev e k ≤ t ∧ L < ev e k then ev e k else L) (if ev b k ≤ t ∧ (if ev e k ≤ t ∧ L < ev e k then ev e k else L) ≤ ev b k then 1 else if ev e k ≤ t ∧ L < ev e k then 0 else s) := by
  obtain ⟨p, q, hp, hq, h⟩ := h
  have i1 := ly_iff ob t k
  have i2 := ly_iff oe t k
  have m1 := ev_mono ob (show p ≤ p + 1 by omega)
  have m2 := ev_mono oe (show q ≤ q + 1 by omega)
  have A : ∃ q', q' = min k (ly e t) ∧ (if ev e q' ≤ ev b p then (if ev e k ≤ t ∧ L < ev e k then ev e k else L) = ev b p ∧ (if ev e k ≤ t ∧ L < ev e k then 0 else s) = 1 else (if ev e k ≤ t ∧ L < ev e k then ev e k else L) = ev e q' ∧ (if ev e k ≤ t ∧ L < ev e k then 0 else s) = 0) := by
    by_cases c2 : k ≤ ly e t
    · have e2 : k = q + 1 := by omega
      have d2 := i2.mpr c2
      rw [← e2] at m2
      refine ⟨k, by omega, ?_⟩
      simp only [d2, true_and]
      exact si_e h (by omega)
    · have d2 : ¬ ev e k ≤ t := fun z => c2 (i2.mp z)
      refine ⟨q, by omega, ?_⟩
      simp only [d2, false_and, if_false]
      exact h
  obtain ⟨q', hq', h'⟩ := A
  generalize (if ev e k ≤ t ∧ L < ev e k then ev e k else L) = L1 at h' ⊢
  generalize (if ev e k ≤ t ∧ L < ev e k then (0 : Int32) else s) = s1 at h' ⊢
  by_cases c1 : k ≤ ly b t
  · have e1 : k = p + 1 := by omega
    have d1 := i1.mpr c1
    rw [← e1] at m1
    refine ⟨k, q', by omega, hq', ?_⟩
    simp only [d1, true_and]
    exact si_b h' (by omega)
  · have d1 : ¬ ev b k ≤ t := fun z => c1 (i1.mp z)
    refine ⟨p, q', by omega, hq', ?_⟩
    simp only [d1, false_and, if_false]
    exact h'
end
section
variable {nf : Nat} {sa : Nat → Nat → Int32} {z : Nat} {b e : ET} {si : Nat → Int32} {sj : Nat → Int64} {sb : Nat → Nat → Int64}
/-- the loop's numbers stay small -/
theorem SI_bd {t k L : Int} {s : Int32} (ob : EOK b) (oe : EOK e) (h : SI b e t k L s) (k1 : -80000000000 ≤ k) (k2 : k ≤ 80000000000) (t1 : -1500000000000000000 ≤ t) (t2 : t ≤ 1500000000000000000) : -9223372036854775808 ≤ L ∧ L ≤ 4000000000000000000 := by
  obtain ⟨p, q, hp, hq, h⟩ := h
  have r1 := ly_range ob t1 t2
  have r2 := ly_range oe t1 t2
  have v1 := ev_range ob (y := p) (by omega) (by omega)
  have v2 := ev_range oe (y := q) (by omega) (by omega)
  split at h <;> omega
theorem msummer_ok (hnf : 10 ≤ nf) (h : REb sa z b e) (hz : z < 5) (hh : sa 23 z = 2) {t : Int} (t1 : -1500000000000000000 ≤ t) (t2 : t ≤ 1500000000000000000) :
    f_Mo_isSummer nf (ii (z : Int)) (jj t) si sj sa sb = some (if ev e (ly e t) ≤ ev b (ly b t) then 1 else 0, abI si (t / 86400), abJ sj (t / 86400), sa, sb) := by
  obtain ⟨n, rfl⟩ : ∃ n, nf = n + 10 := ⟨nf - 10, by omega⟩
  obtain ⟨en, hj⟩ := zin hz
  have hy := yo_bounds (d := t / 86400) (by omega) (by omega)
  have hb := ly_spec h.2.2.1 t
  have he := ly_spec h.2.2.2 t
  unfold f_Mo_isSummer f_Mo_isSummer_0
  rw [if_neg hj, en, hh, if_pos (by decide), mabout_ok (n + 10) (by omega) (by omega), Option.bind_some]
  dsimp only
  rw [show va_up (va_up si 42 (ii (dod_ (t / 86400)))) 41 (ii (mod_ (t / 86400))) = abI si (t / 86400) from rfl, show va_up sj 40 (jj (yo (t / 86400))) = abJ sj (t / 86400) from rfl]
  generalize abI si (t / 86400) = s1
  generalize abJ sj (t / 86400) = j1
  obtain ⟨Y, hY⟩ : ∃ Y, yo (t / 86400) = Y := ⟨_, rfl⟩
  rw [hY] at hy hb he ⊢
  rw [jj_lit, jj_sub, show (-9223372036854775808 : Int64) = jj (-9223372036854775808) from rfl, show (0 : Int32) = 0 from rfl]
  have g1 := msum_step (nf := n + 10) (n := n + 9) (si := s1) (sj := j1) (sb := sb) (s := 0) h hz (t := t) (Y := Y) (k := Y - 2) (L := -9223372036854775808) (by omega) (by omega) (by omega) t1 t2 (by omega) (by omega)
  have v0 := ev_range h.2.2.2 (y := Y - 2) (by omega) (by omega)
  have i1 := SI_first h.2.2.1 h.2.2.2 (t := t) (k := Y - 2) (by omega) (by omega) (L := -9223372036854775808) (by omega) 0
  rw [g1]
  generalize (if ev b (Y - 2) ≤ t ∧ (if ev e (Y - 2) ≤ t ∧ -9223372036854775808 < ev e (Y - 2) then ev e (Y - 2) else -9223372036854775808) ≤ ev b (Y - 2) then ev b (Y - 2) else if ev e (Y - 2) ≤ t ∧ -9223372036854775808 < ev e (Y - 2) then ev e (Y - 2) else -9223372036854775808) = L1 at i1 ⊢
  generalize (if ev b (Y - 2) ≤ t ∧ (if ev e (Y - 2) ≤ t ∧ -9223372036854775808 < ev e (Y - 2) then ev e (Y - 2) else -9223372036854775808) ≤ ev b (Y - 2) then (1 : Int32) else if ev e (Y - 2) ≤ t ∧ -9223372036854775808 < ev e (Y - 2) then 0 else 0) = q1 at i1 ⊢
  have more : ∀ (j : Nat) (k L : Int) (q : Int32) (fu : Nat), k + j = Y + 2 → j + 1 < fu → Y - 2 ≤ k → SI b e t k L q → ∃ L' q', SI b e t (Y + 2) L' q' ∧ f_Mo_isSummer_35 (n + 10) fu (jj (k + 1)) q (jj L) (jj Y) (ii (z : Int)) (jj t) s1 j1 sa sb = f_Mo_isSummer_35 (n + 10) (fu - j) (jj (Y + 2 + 1)) q' (jj L') (jj Y) (ii (z : Int)) (jj t) s1 j1 sa sb := by
    intro j
    induction j with
    | zero =>
      intro k L q fu hk _ _ i
      have : k = Y + 2 := by omega
      subst this
      exact ⟨L, q, i, rfl⟩
    | succ j ih =>
      intro k L q fu hk hf hk2 i
      obtain ⟨f, rfl⟩ : ∃ f, fu = f + 1 := ⟨fu - 1, by omega⟩
      have bd := SI_bd h.2.2.1 h.2.2.2 i (by omega) (by omega) t1 t2
      have st := msum_step (nf := n + 10) (n := f) (si := s1) (sj := j1) (sb := sb) (s := q) h hz (t := t) (Y := Y) (k := k + 1) (L := L) (by omega) (by omega) (by omega) t1 t2 (by omega) (by omega)
      have i2 := SI_next (k := k + 1) h.2.2.1 h.2.2.2 (by rw [show k + 1 - 1 = k by omega]; exact i)
      obtain ⟨L', q', i3, e3⟩ := ih (k + 1) _ _ f (by omega) (by omega) (by omega) i2
      refine ⟨L', q', i3, ?_⟩
      rw [st, e3, show f + 1 - (j + 1) = f - j by omega]
  obtain ⟨L', q', i3, e3⟩ := more 4 (Y - 2) L1 q1 (n + 9) (by omega) (by omega) (by omega) i1
  rw [e3, show n + 9 - 4 = n + 4 + 1 by omega, f_Mo_isSummer_35, jj_lit, jj_add, if_pos ((jj_lt (by omega) (by omega) (by omega) (by omega)).mpr (by omega))]
  obtain ⟨p, q, hp, hq, hf⟩ := i3
  have ep : p = ly b t := by omega
  have eq : q = ly e t := by omega
  subst ep
  subst eq
  by_cases c : ev e (ly e t) ≤ ev b (ly b t)
  · rw [if_pos c] at hf
    rw [hf.2, if_pos (by decide), if_pos c]
  · rw [if_neg c] at hf
    rw [hf.2, if_pos (by decide), if_neg c]
end
