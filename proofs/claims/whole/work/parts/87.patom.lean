/-! ===== the table's rows: atomic, instant, isLeap ===== -/
theorem gmono {c : Nat} {g : Nat → Int} (hm : ∀ k, k + 1 < c → g k < g (k + 1)) : ∀ (d m : Nat), m + d < c → g m + d ≤ g (m + d) := by
  intro d
  induction d with
  | zero => intro m _; simp
  | succ d ih =>
    intro m h
    have a := ih m (by omega)
    have b := hm (m + d) (by omega)
    rw [show m + (d + 1) = m + d + 1 by omega]
    omega
theorem exrow {c : Nat} {g : Nat → Int} {v : Int} (hc : 0 < c) (hm : ∀ k, k + 1 < c → g k < g (k + 1)) (h0 : g 0 ≤ v) : ∃ k, k < c ∧ (∀ m, m ≤ k → g m ≤ v) ∧ ∀ m, k < m → m < c → v < g m := by
  induction c with
  | zero => omega
  | succ c ih =>
    by_cases q : g c ≤ v
    · refine ⟨c, by omega, fun m h => ?_, fun m h1 h2 => by omega⟩
      have := gmono hm (c - m) m (by omega)
      rw [show m + (c - m) = c by omega] at this
      omega
    · by_cases c0 : c = 0
      · subst c0; omega
      · obtain ⟨k, k1, k2, k3⟩ := ih (by omega) (fun k hk => hm k (by omega))
        refine ⟨k, by omega, k2, fun m h1 h2 => ?_⟩
        by_cases e : m = c
        · subst e; omega
        · exact k3 m h1 (by omega)
def inL (v : Int) : Prop := -9223372036854775808 ≤ v ∧ v < 9223372036854775808
def aans (c : Nat) (tv av : Nat → Int) (v : Int) (k : Nat) : Int64 := if k + 1 < c ∧ av (k + 1) < av k ∧ v = tv (k + 1) - 1 then -9223372036854775808 else jj (v + av k)
section
variable {nf c : Nat} {cnt : Int32} {TI AH : Nat → Int64} {tv av : Nat → Int} {x v : Int}
theorem idx1 {k : Nat} (hk : k < 60) : (ii (k : Int)).toNatClampNeg = k ∧ ¬ (ii (k : Int) < 0 ∨ 60 ≤ k) := by
  refine ⟨by rw [ii_nat (by omega) (by omega)]; omega, ?_⟩
  rw [ii_lit, ii_lt (by omega) (by omega) (by omega) (by omega)]; omega
theorem iiS (k : Nat) : ii (k : Int) + 1 = ii ((k + 1 : Nat) : Int) := by rw [ii_lit, ii_add]; rfl
theorem iiP {k : Nat} (h : 0 < k) : ii (k : Int) + (-1) = ii ((k - 1 : Nat) : Int) := by rw [show (-1 : Int32) = ii (-1) from rfl, ii_add]; congr 1; omega
theorem at62 (hc : cnt = ii (c : Int)) (hc2 : c ≤ 60) (ht : TRows c tv av x) (hT : ∀ k, k < c → TI k = jj (tv k) ∧ AH k = jj (av k)) {k : Nat} (hk : k < c) (hv : inL v) : f_LT_atomicOf_62 nf cnt TI AH (ii (k : Int)) (jj v) = some (aans c tv av v k) := by
  obtain ⟨t1, t2, t3, t4, t5⟩ := ht
  obtain ⟨v1, v2⟩ := hv
  obtain ⟨i1, i2⟩ := idx1 (k := k) (by omega)
  have e110 : ∀ s : Int32, f_LT_atomicOf_110 nf AH (ii (k : Int)) (jj v) s = some (if s = 0 then jj (v + av k) else -9223372036854775808) := by
    intro s
    unfold f_LT_atomicOf_110 f_LT_atomicOf_131
    rw [i1, if_neg i2, (hT k hk).2, jj_add]
    by_cases q : s = 0
    · rw [if_pos q, if_pos q]
    · rw [if_neg q, if_neg q]
  unfold f_LT_atomicOf_62 f_LT_atomicOf_109
  rw [e110, e110, if_pos (show (0 : Int32) = 0 from rfl), if_neg (show ¬ (1 : Int32) = 0 by decide), iiS, hc, i1, if_neg i2]
  unfold aans
  by_cases q : k + 1 < c
  · obtain ⟨j1, j2⟩ := idx1 (k := k + 1) (by omega)
    have b1 := t1 k hk
    have b2 := t1 (k + 1) q
    have g1 : ¬ ii (c : Int) ≤ ii ((k + 1 : Nat) : Int) := by rw [ii_le (by omega) (by omega) (by omega) (by omega)]; omega
    rw [if_neg g1, j1, if_neg j2, if_neg j2, (hT k hk).2, (hT (k + 1) q).1, (hT (k + 1) q).2, show (1 : Int64) = jj 1 from rfl, jj_sub]
    by_cases w : av k ≤ av (k + 1)
    · rw [if_pos ((jj_le (by omega) (by omega) (by omega) (by omega)).mpr w), if_neg (fun z => by omega)]
    · rw [if_neg (fun z => w ((jj_le (by omega) (by omega) (by omega) (by omega)).mp z))]
      by_cases e : v = tv (k + 1) - 1
      · rw [if_pos ((jj_eq (by omega) (by omega) (by omega) (by omega)).mpr e), if_pos (by omega)]
      · rw [if_neg (fun z => e ((jj_eq (by omega) (by omega) (by omega) (by omega)).mp z)), if_neg (fun z => e z.2.2)]
  · have g1 : ii (c : Int) ≤ ii ((k + 1 : Nat) : Int) := by rw [ii_le (by omega) (by omega) (by omega) (by omega)]; omega
    rw [if_pos g1, if_neg (fun z => q z.1)]
theorem at33 (hc : cnt = ii (c : Int)) (hc2 : c ≤ 60) (ht : TRows c tv av x) (hT : ∀ k, k < c → TI k = jj (tv k) ∧ AH k = jj (av k)) {k : Nat} (hk : k < c) (hv : inL v) (h1 : ∀ m, m ≤ k → tv m ≤ v) (h2 : ∀ m, k < m → m < c → v < tv m) : ∀ (d j fu : Nat), j + d = k → d < fu → f_LT_atomicOf_33 nf cnt TI AH fu (ii (j : Int)) (jj v) = some (aans c tv av v k) := by
  intro d
  induction d with
  | zero =>
    intro j fu hj hf
    obtain ⟨f, rfl⟩ : ∃ f, fu = f + 1 := ⟨fu - 1, by omega⟩
    obtain rfl : j = k := by omega
    have e := at62 (nf := nf) hc hc2 ht hT hk hv
    rw [f_LT_atomicOf_33, e, iiS, hc]
    by_cases q : j + 1 < c
    · obtain ⟨j1, j2⟩ := idx1 (k := j + 1) (by omega)
      have b2 := ht.1 (j + 1) q
      rw [if_neg (by rw [ii_le (by omega) (by omega) (by omega) (by omega)]; omega), j1, if_neg j2, (hT (j + 1) q).1, if_pos ((jj_lt hv.1 hv.2 (by omega) (by omega)).mpr (h2 _ (by omega) q))]
    · rw [if_pos (by rw [ii_le (by omega) (by omega) (by omega) (by omega)]; omega)]
  | succ d ih =>
    intro j fu hj hf
    obtain ⟨f, rfl⟩ : ∃ f, fu = f + 1 := ⟨fu - 1, by omega⟩
    have q : j + 1 < c := by omega
    obtain ⟨j1, j2⟩ := idx1 (k := j + 1) (by omega)
    have b2 := ht.1 (j + 1) q
    have b3 := h1 (j + 1) (by omega)
    rw [f_LT_atomicOf_33, iiS, hc, if_neg (by rw [ii_le (by omega) (by omega) (by omega) (by omega)]; omega), j1, if_neg j2, (hT (j + 1) q).1, if_neg (fun z => by rw [jj_lt hv.1 hv.2 (by omega) (by omega)] at z; omega), ← hc]
    exact ih (j + 1) f (by omega) (by omega)
theorem am43 {si : Nat → Int32} {sj : Nat → Int64} {sa : Nat → Nat → Int32} {sb : Nat → Nat → Int64} (hc : si 62 = ii (c : Int)) (hc2 : c ≤ 60) (ht : TRows c tv av x) (hT : ∀ k, k < c → sb 63 k = jj (tv k) ∧ sb 64 k = jj (av k)) {k : Nat} (hk : k < c) (hv : inL v) (h1 : ∀ m, m ≤ k → tv m ≤ v) (h2 : ∀ m, k < m → m < c → v < tv m) : ∀ (d j fu : Nat), k + d = j → j < c → d < fu → f_Mo_atomic_43 nf fu (ii (j : Int)) (jj v) si sj sa sb = some (aans c tv av v k, si, sj, sa, sb) := by
  obtain ⟨v1, v2⟩ := hv
  intro d
  induction d with
  | zero =>
    intro j fu hj hjc hf
    obtain ⟨f, rfl⟩ : ∃ f, fu = f + 1 := ⟨fu - 1, by omega⟩
    obtain rfl : k = j := by omega
    obtain ⟨i1, i2⟩ := idx1 (k := k) (by omega)
    have b1 := ht.1 k hk
    have b3 := h1 k (by omega)
    have e110 : ∀ s : Int32, f_Mo_atomic_108 nf (ii (k : Int)) (jj v) s si sj sa sb = some (if s = 0 then jj (v + av k) else -9223372036854775808, si, sj, sa, sb) := by
      intro s
      unfold f_Mo_atomic_108 f_Mo_atomic_129
      rw [i1, if_neg i2, (hT k hk).2, jj_add]
      by_cases q : s = 0
      · rw [if_pos q, if_pos q]
      · rw [if_neg q, if_neg q]
    rw [f_Mo_atomic_43]
    unfold f_Mo_atomic_107
    rw [e110, e110, if_pos (show (0 : Int32) = 0 from rfl), if_neg (show ¬ (1 : Int32) = 0 by decide), i1, if_neg i2, if_neg i2, (hT k hk).1, (hT k hk).2, if_pos ((jj_le (by omega) (by omega) v1 v2).mpr b3), iiS, hc]
    unfold aans
    by_cases q : k + 1 < c
    · obtain ⟨j1, j2⟩ := idx1 (k := k + 1) (by omega)
      have b2 := ht.1 (k + 1) q
      have g1 : ¬ ii (c : Int) ≤ ii ((k + 1 : Nat) : Int) := by rw [ii_le (by omega) (by omega) (by omega) (by omega)]; omega
      rw [if_neg g1, j1, if_neg j2, if_neg j2, (hT (k + 1) q).1, (hT (k + 1) q).2, show (1 : Int64) = jj 1 from rfl, jj_sub]
      by_cases e : v = tv (k + 1) - 1
      · rw [if_pos ((jj_eq (by omega) (by omega) (by omega) (by omega)).mpr e)]
        by_cases w : av k ≤ av (k + 1)
        · rw [if_pos ((jj_le (by omega) (by omega) (by omega) (by omega)).mpr w), if_neg (fun z => by omega)]
        · rw [if_neg (fun z => w ((jj_le (by omega) (by omega) (by omega) (by omega)).mp z)), if_pos (by omega)]
      · rw [if_neg (fun z => e ((jj_eq (by omega) (by omega) (by omega) (by omega)).mp z)), if_neg (fun z => e z.2.2)]
    · have g1 : ii (c : Int) ≤ ii ((k + 1 : Nat) : Int) := by rw [ii_le (by omega) (by omega) (by omega) (by omega)]; omega
      rw [if_pos g1, if_neg (fun z => q z.1)]
  | succ d ih =>
    intro j fu hj hjc hf
    obtain ⟨f, rfl⟩ : ∃ f, fu = f + 1 := ⟨fu - 1, by omega⟩
    obtain ⟨i1, i2⟩ := idx1 (k := j) (by omega)
    have b1 := ht.1 j hjc
    have b3 := h2 j (by omega) hjc
    rw [f_Mo_atomic_43, i1, if_neg i2, (hT j hjc).1, if_neg (fun z => by rw [jj_le (by omega) (by omega) v1 v2] at z; omega), iiP (by omega)]
    exact ih (j - 1) f (by omega) (by omega) (by omega)
end
theorem st_atomic {nf : Nat} (hnf : 10000 ≤ nf) (S : CS) (M : MS) (p0 : Int64) (h : RR S M) : STDj RR S (cq_atomic nf S p0) (f_Mo_atomic nf p0 M.1 M.2.1 M.2.2.1 M.2.2.2) := by
  obtain ⟨si, sj, sa, sb⟩ := M
  obtain ⟨c, c1, c2, c3, c4⟩ := h.2.2.2.2.1
  obtain ⟨v, rfl, v1, v2⟩ := jj_all p0
  dsimp only at *
  have ok : ∀ a : Int64, f_LT_atomicOf nf (jj v) S.1.2.2.2.2.2.2.2.2.2.1 S.1.2.2.2.2.2.2.2.2.2.2.1 S.1.2.2.2.2.2.2.2.2.2.2.2.1 S.1.2.2.2.2.2.2.2.2.2.2.2.2.1 = some a → f_Mo_atomic nf (jj v) si sj sa sb = some (a, va_up si 3 0, sj, sa, sb) → STDj RR S (cq_atomic nf S (jj v)) (f_Mo_atomic nf (jj v) si sj sa sb) := by
    intro a e1 e2
    refine ⟨a, S, 0, 0, a, _, ?_, e2, rfl, h.thr 0, by omega, by omega⟩
    unfold cq_atomic f_ZF_atomic f_ZF_atomic_0
    rw [e1]
    rfl
  have z1 : (0 : Int32).toNatClampNeg = 0 := rfl
  have z2 : ¬ ((0 : Int32) < 0 ∨ 60 ≤ 0) := by decide
  by_cases d : c = 0
  · subst d
    refine ok (-9223372036854775808) ?_ ?_
    · unfold f_LT_atomicOf f_LT_atomicOf_0
      rw [c2, if_pos (show ii ((0 : Nat) : Int) = 0 from rfl)]
      rfl
    · unfold f_Mo_atomic f_Mo_atomic_0
      rw [c3, if_pos rfl]
      rfl
  · obtain ⟨t1, tv, av, x, t2, t3, t4, t5⟩ := c4 (by omega)
    rw [if_neg d] at c3
    have dn : ¬ ii (c : Int) = 0 := by rw [ii_lit, ii_eq (by omega) (by omega) (by omega) (by omega)]; omega
    obtain ⟨u1, u2, u3, u4⟩ := t3 0 (by omega)
    have b0 := t2.1 0 (by omega)
    have bx := t2.2.2
    by_cases w : tv 0 ≤ v ∧ v < x
    · obtain ⟨k, k1, k2, k3⟩ := exrow (c := c) (g := tv) (v := v) (by omega) (fun k hk => by have := (t2.2.1 k hk).1; omega) w.1
      refine ok (aans c tv av v k) ?_ ?_
      · unfold f_LT_atomicOf f_LT_atomicOf_0
        rw [c2, if_neg dn, z1, if_neg z2, u1, if_neg (fun z => by rw [jj_lt v1 v2 (by omega) (by omega)] at z; omega), t4, if_pos ((jj_lt v1 v2 (by omega) (by omega)).mpr w.2)]
        exact at33 rfl c1 t2 (fun k hk => ⟨(t3 k hk).1, (t3 k hk).2.2.1⟩) k1 ⟨v1, v2⟩ k2 k3 k 0 nf (by omega) (by omega)
      · unfold f_Mo_atomic f_Mo_atomic_0
        rw [c3, if_neg (by decide), z1, if_neg z2, u2, if_neg (fun z => by rw [jj_lt v1 v2 (by omega) (by omega)] at z; omega), t5, if_pos ((jj_lt v1 v2 (by omega) (by omega)).mpr w.2), t1, show ii (c : Int) - 1 = ii ((c - 1 : Nat) : Int) by rw [ii_lit, ii_sub]; congr 1; omega]
        exact am43 ((vup_ne (by decide)).trans t1) c1 t2 (fun k hk => ⟨(t3 k hk).2.1, (t3 k hk).2.2.2⟩) k1 ⟨v1, v2⟩ k2 k3 (c - 1 - k) (c - 1) nf (by omega) (by omega) (by omega)
    · refine ok (-9223372036854775808) ?_ ?_
      · unfold f_LT_atomicOf f_LT_atomicOf_0 f_LT_atomicOf_27
        rw [c2, if_neg dn, z1, if_neg z2, u1, t4]
        by_cases w1 : v < tv 0
        · rw [if_pos ((jj_lt v1 v2 (by omega) (by omega)).mpr w1)]
        · rw [if_neg (fun z => w1 ((jj_lt v1 v2 (by omega) (by omega)).mp z)), if_neg (fun z => by rw [jj_lt v1 v2 (by omega) (by omega)] at z; omega)]
      · unfold f_Mo_atomic f_Mo_atomic_0 f_Mo_atomic_32
        rw [c3, if_neg (by decide), z1, if_neg z2, u2, t5]
        by_cases w1 : v < tv 0
        · rw [if_pos ((jj_lt v1 v2 (by omega) (by omega)).mpr w1)]
        · rw [if_neg (fun z => w1 ((jj_lt v1 v2 (by omega) (by omega)).mp z)), if_neg (fun z => by rw [jj_lt v1 v2 (by omega) (by omega)] at z; omega)]
def gsum (tv av : Nat → Int) (k : Nat) : Int := tv k + av k
theorem gs_mono {c : Nat} {tv av : Nat → Int} {x : Int} (ht : TRows c tv av x) : ∀ k, k + 1 < c → gsum tv av k < gsum tv av (k + 1) := by
  intro k hk
  have := ht.2.1 k hk
  unfold gsum
  omega
/-- k rows are up to v -/
def upto (c : Nat) (g : Nat → Int) (v : Int) (k : Nat) : Prop := k ≤ c ∧ (∀ m, m < k → g m ≤ v) ∧ ∀ m, k ≤ m → m < c → v < g m
theorem upto_ex {c : Nat} {g : Nat → Int} {v : Int} (hm : ∀ k, k + 1 < c → g k < g (k + 1)) : ∃ k, upto c g v k := by
  by_cases q : 0 < c ∧ g 0 ≤ v
  · obtain ⟨k, k1, k2, k3⟩ := exrow q.1 hm q.2
    exact ⟨k + 1, by omega, fun m h => k2 m (by omega), fun m h1 h2 => k3 m (by omega) h2⟩
  · refine ⟨0, by omega, fun m h => by omega, fun m h1 h2 => ?_⟩
    have := gmono hm m 0 (by omega)
    rw [Nat.zero_add] at this
    omega
section
variable {nf c k : Nat} {cnt : Int32} {TI AH : Nat → Int64} {tv av : Nat → Int} {x v : Int}
theorem iiM (k : Nat) : ii ((k : Int) - 1) + 1 = ii (k : Int) := by rw [ii_lit, ii_add]; congr 1; omega
theorem lru (hc : cnt = ii (c : Int)) (hc2 : c ≤ 60) (ht : TRows c tv av x) (hT : ∀ k, k < c → TI k = jj (tv k) ∧ AH k = jj (av k)) (hv : inL v) (hk : upto c (gsum tv av) v k) : ∀ (d j fu : Nat), j + d = k → d < fu → f_LT_lastRowUpTo_2 nf cnt TI AH fu (ii ((j : Int) - 1)) (jj v) = some (ii ((k : Int) - 1)) := by
  obtain ⟨k1, k2, k3⟩ := hk
  intro d
  induction d with
  | zero =>
    intro j fu hj hf
    obtain ⟨f, rfl⟩ : ∃ f, fu = f + 1 := ⟨fu - 1, by omega⟩
    obtain rfl : j = k := by omega
    rw [f_LT_lastRowUpTo_2, iiM, hc]
    unfold f_LT_lastRowUpTo_40
    by_cases q : j < c
    · obtain ⟨j1, j2⟩ := idx1 (k := j) (by omega)
      have b2 := ht.1 j q
      have b3 := k3 j (by omega) q
      unfold gsum at b3
      rw [if_neg (by rw [ii_le (by omega) (by omega) (by omega) (by omega)]; omega), j1, if_neg j2, if_neg j2, (hT j q).1, (hT j q).2, jj_add, if_pos ((jj_lt hv.1 hv.2 (by omega) (by omega)).mpr b3)]
    · rw [if_pos (by rw [ii_le (by omega) (by omega) (by omega) (by omega)]; omega)]
  | succ d ih =>
    intro j fu hj hf
    obtain ⟨f, rfl⟩ : ∃ f, fu = f + 1 := ⟨fu - 1, by omega⟩
    have q : j < c := by omega
    obtain ⟨j1, j2⟩ := idx1 (k := j) (by omega)
    have b2 := ht.1 j q
    have b3 := k2 j (by omega)
    unfold gsum at b3
    have e := ih (j + 1) f (by omega) (by omega)
    rw [show ((j + 1 : Nat) : Int) - 1 = (j : Int) by omega] at e
    rw [f_LT_lastRowUpTo_2, iiM, hc, if_neg (by rw [ii_le (by omega) (by omega) (by omega) (by omega)]; omega), j1, if_neg j2, if_neg j2, (hT j q).1, (hT j q).2, jj_add, if_neg (fun z => by rw [jj_lt hv.1 hv.2 (by omega) (by omega)] at z; omega), ← hc]
    exact e
theorem mrow55 {sb : Nat → Nat → Int64} (hc2 : c ≤ 60) (ht : TRows c tv av x) (hT : ∀ k, k < c → sb 63 k = jj (tv k) ∧ sb 64 k = jj (av k)) (hv : inL v) (hk : upto c (gsum tv av) v k) (k0 : 0 < k) : ∀ (d j fu : Nat), k + d = j → j ≤ c → d < fu → f_Mo_rowOf_55 nf sb fu (ii ((j : Int) - 1)) (jj v) = some (ii ((k : Int) - 1)) := by
  obtain ⟨k1, k2, k3⟩ := hk
  intro d
  induction d with
  | zero =>
    intro j fu hj hjc hf
    obtain ⟨f, rfl⟩ : ∃ f, fu = f + 1 := ⟨fu - 1, by omega⟩
    obtain rfl : k = j := by omega
    have q : k - 1 < c := by omega
    obtain ⟨j1, j2⟩ := idx1 (k := k - 1) (by omega)
    have b2 := ht.1 (k - 1) q
    have b3 := k2 (k - 1) (by omega)
    unfold gsum at b3
    rw [show (k : Int) - 1 = ((k - 1 : Nat) : Int) by omega, f_Mo_rowOf_55, j1, if_neg j2, if_neg j2, (hT _ q).1, (hT _ q).2, jj_add, if_pos ((jj_le (by omega) (by omega) hv.1 hv.2).mpr b3)]
  | succ d ih =>
    intro j fu hj hjc hf
    obtain ⟨f, rfl⟩ : ∃ f, fu = f + 1 := ⟨fu - 1, by omega⟩
    have q : j - 1 < c := by omega
    obtain ⟨j1, j2⟩ := idx1 (k := j - 1) (by omega)
    have b2 := ht.1 (j - 1) q
    have b3 := k3 (j - 1) (by omega) q
    unfold gsum at b3
    have e := ih (j - 1) f (by omega) (by omega) (by omega)
    rw [show (j : Int) - 1 = ((j - 1 : Nat) : Int) by omega, f_Mo_rowOf_55, j1, if_neg j2, if_neg j2, (hT _ q).1, (hT _ q).2, jj_add, if_neg (fun z => by rw [jj_le (by omega) (by omega) hv.1 hv.2] at z; omega), iiP (by omega)]
    rw [show ((j - 1 : Nat) : Int) - 1 = ((j - 1 - 1 : Nat) : Int) by omega] at e
    exact e
theorem mrow {si : Nat → Int32} {sj : Nat → Int64} {sa : Nat → Nat → Int32} {sb : Nat → Nat → Int64} (hnf : 10000 ≤ nf) (c0 : 0 < c) (h61 : si 61 = 1) (h62 : si 62 = ii (c : Int)) (h65 : sj 65 = jj x) (hc2 : c ≤ 60) (ht : TRows c tv av x) (hT : ∀ k, k < c → sb 63 k = jj (tv k) ∧ sb 64 k = jj (av k)) (hv : inL v) (hk : upto c (gsum tv av) v k) : f_Mo_rowOf nf (jj v) si sj sa sb = some (ii (if v < x + av (c - 1) then (k : Int) - 1 else -1)) := by
  have z1 : (0 : Int32).toNatClampNeg = 0 := rfl
  have z2 : ¬ ((0 : Int32) < 0 ∨ 60 ≤ 0) := by decide
  have b0 := ht.1 0 c0
  have bl := ht.1 (c - 1) (by omega)
  have bx := ht.2.2
  obtain ⟨j1, j2⟩ := idx1 (k := c - 1) (by omega)
  have em : (-1 : Int32) = ii (-1) := rfl
  unfold f_Mo_rowOf f_Mo_rowOf_0 f_Mo_rowOf_46
  rw [h61, if_neg (by decide), z1, if_neg z2, if_neg z2, (hT 0 c0).1, (hT 0 c0).2, jj_add, h62, show ii (c : Int) - 1 = ii ((c - 1 : Nat) : Int) by rw [ii_lit, ii_sub]; congr 1; omega, j1, if_neg j2, (hT _ (show c - 1 < c by omega)).2, h65, jj_add, em]
  by_cases q0 : v < tv 0 + av 0
  · have : k = 0 := by
      by_cases c : k = 0
      · exact c
      · have := hk.2.1 0 (by omega)
        unfold gsum at this
        omega
    subst this
    rw [if_pos ((jj_lt hv.1 hv.2 (by omega) (by omega)).mpr q0)]
    congr 2
    by_cases w : v < x + av (c - 1)
    · rw [if_pos w]; rfl
    · rw [if_neg w]
  · have k0 : 0 < k := by
      by_cases q : k = 0
      · subst q
        have := hk.2.2 0 (by omega) c0
        unfold gsum at this
        omega
      · omega
    rw [if_neg (fun z => q0 ((jj_lt hv.1 hv.2 (by omega) (by omega)).mp z))]
    by_cases w : v < x + av (c - 1)
    · rw [if_pos ((jj_lt hv.1 hv.2 (by omega) (by omega)).mpr w), if_pos w]
      have e := mrow55 (nf := nf) hc2 ht hT hv hk k0 (c - k) c nf (by have := hk.1; omega) (by omega) (by omega)
      rw [show (c : Int) - 1 = ((c - 1 : Nat) : Int) by omega] at e
      exact e
    · rw [if_neg (fun z => w ((jj_lt hv.1 hv.2 (by omega) (by omega)).mp z)), if_neg w]
/-- before the next row's own seconds -/
def bfr (c : Nat) (tv av : Nat → Int) (v : Int) (k : Nat) : Prop := 0 < k ∧ k < c ∧ tv k ≤ v - av (k - 1)
theorem cbfr (hc : cnt = ii (c : Int)) (hc2 : c ≤ 60) (ht : TRows c tv av x) (hT : ∀ k, k < c → TI k = jj (tv k) ∧ AH k = jj (av k)) (hv : inL v) (hk : upto c (gsum tv av) v k) (k0 : 0 < k) : f_LT_isBeforeNextRow nf (jj v) (ii ((k : Int) - 1)) cnt TI AH = some (if k < c ∧ tv k ≤ v - av (k - 1) then 1 else 0) := by
  obtain ⟨k1, k2, k3⟩ := hk
  obtain ⟨j1, j2⟩ := idx1 (k := k - 1) (by omega)
  have b1 := ht.1 (k - 1) (by omega)
  have b2 := k2 (k - 1) (by omega)
  unfold gsum at b2
  unfold f_LT_isBeforeNextRow f_LT_isBeforeNextRow_0 f_LT_isBeforeNextRow_34 f_LT_isBeforeNextRow_35
  rw [iiM, hc, show (k : Int) - 1 = ((k - 1 : Nat) : Int) by omega, j1, if_neg j2, (hT _ (show k - 1 < c by omega)).2, jj_sub, if_pos (show (0 : Int32) = 0 ∨ (0 : Int32) = 1 by decide), if_pos (show (1 : Int32) = 0 ∨ (1 : Int32) = 1 by decide)]
  by_cases q : k < c
  · obtain ⟨i1, i2⟩ := idx1 (k := k) (by omega)
    have b3 := ht.1 k q
    have b4 := hv.2
    rw [if_neg (by rw [ii_le (by omega) (by omega) (by omega) (by omega)]; omega), i1, if_neg i2, (hT k q).1]
    by_cases w : tv k ≤ v - av (k - 1)
    · rw [if_neg (fun z => by rw [jj_lt (by omega) (by omega) (by omega) (by omega)] at z; omega), if_pos ⟨q, w⟩]
    · rw [if_pos ((jj_lt (by omega) (by omega) (by omega) (by omega)).mpr (by omega)), if_neg (fun z => w z.2)]
  · rw [if_pos (by rw [ii_le (by omega) (by omega) (by omega) (by omega)]; omega), if_neg (fun z => q z.1)]
end
theorem st_isLeap {nf : Nat} (hnf : 10000 ≤ nf) (S : CS) (M : MS) (p0 : Int64) (h : RR S M) : STDi RR S (cq_isLeap nf S p0) (f_Mo_isLeap nf p0 M.1 M.2.1 M.2.2.1 M.2.2.2) := by
  obtain ⟨si, sj, sa, sb⟩ := M
  obtain ⟨c, c1, c2, c3, c4⟩ := h.2.2.2.2.1
  obtain ⟨v, rfl, v1, v2⟩ := jj_all p0
  dsimp only at *
  have ok : ∀ a : Int32, (a = 0 ∨ a = 1) → f_LT_hasLeapSecond nf (jj v) S.1.2.2.2.2.2.2.2.2.2.1 S.1.2.2.2.2.2.2.2.2.2.2.2.1 S.1.2.2.2.2.2.2.2.2.2.2.2.2.1 = some a → f_Mo_isLeap nf (jj v) si sj sa sb = some (a, va_up si 3 0, sj, sa, sb) → STDi RR S (cq_isLeap nf S (jj v)) (f_Mo_isLeap nf (jj v) si sj sa sb) := by
    intro a ha e1 e2
    refine ⟨a, S, 0, 0, a, _, ?_, e2, rfl, h.thr 0, by omega, by omega⟩
    unfold cq_isLeap f_ZF_isLeap f_ZF_isLeap_0
    rw [e1, Option.bind_some, if_pos ha]
  have em : (-1 : Int32) = ii (-1) := rfl
  by_cases d : c = 0
  · subst d
    refine ok 0 (by simp) ?_ ?_
    · unfold f_LT_hasLeapSecond f_LT_hasLeapSecond_0 f_LT_lastRowUpTo f_LT_lastRowUpTo_0
      obtain ⟨f, rfl⟩ : ∃ f, nf = f + 1 := ⟨nf - 1, by omega⟩
      rw [c2, f_LT_lastRowUpTo_2, if_pos (by decide)]
      rfl
    · unfold f_Mo_isLeap f_Mo_isLeap_0 f_Mo_rowOf f_Mo_rowOf_0
      rw [vup_ne (by decide), c3, if_pos rfl]
      rfl
  · obtain ⟨t1, tv, av, x, t2, t3, t4, t5⟩ := c4 (by omega)
    rw [if_neg d] at c3
    obtain ⟨k, hk⟩ := upto_ex (v := v) (gs_mono t2)
    have e1 := lru (nf := nf) c2 c1 t2 (fun k hk => ⟨(t3 k hk).1, (t3 k hk).2.2.1⟩) ⟨v1, v2⟩ hk k 0 nf (by omega) (by have := hk.1; omega)
    have e2 := mrow (nf := nf) (si := va_up si 3 0) (sa := sa) hnf (show 0 < c by omega) ((vup_ne (by decide)).trans c3) ((vup_ne (by decide)).trans t1) t5 c1 t2 (fun k hk => ⟨(t3 k hk).2.1, (t3 k hk).2.2.2⟩) ⟨v1, v2⟩ hk
    have hC : f_LT_hasLeapSecond nf (jj v) S.1.2.2.2.2.2.2.2.2.2.1 S.1.2.2.2.2.2.2.2.2.2.2.2.1 S.1.2.2.2.2.2.2.2.2.2.2.2.2.1 = some (if 0 < k ∧ k < c ∧ tv k ≤ v - av (k - 1) then 1 else 0) := by
      unfold f_LT_hasLeapSecond f_LT_hasLeapSecond_0 f_LT_lastRowUpTo f_LT_lastRowUpTo_0
      rw [em, show (-1 : Int) = ((0 : Nat) : Int) - 1 from rfl, e1, Option.bind_some]
      by_cases k0 : 0 < k
      · have e3 := cbfr (nf := nf) c2 c1 t2 (fun k hk => ⟨(t3 k hk).1, (t3 k hk).2.2.1⟩) ⟨v1, v2⟩ hk k0
        have n0 : ¬ ii ((k : Int) - 1) < 0 := by have := hk.1; rw [ii_lit, ii_lt (by omega) (by omega) (by omega) (by omega)]; omega
        rw [if_neg n0, e3, Option.bind_some]
        by_cases w : k < c ∧ tv k ≤ v - av (k - 1)
        · rw [if_pos w, if_neg (show ¬ (1 : Int32) = 0 by decide), if_pos (show 0 < k ∧ k < c ∧ tv k ≤ v - av (k - 1) from ⟨k0, w⟩)]
          rfl
        · rw [if_neg w, if_pos (show (0 : Int32) = 0 from rfl), if_neg (show ¬ (0 < k ∧ k < c ∧ tv k ≤ v - av (k - 1)) from fun z => w z.2)]
          rfl
      · have n0 : ii ((k : Int) - 1) < 0 := by rw [ii_lit, ii_lt (by omega) (by omega) (by omega) (by omega)]; omega
        rw [if_pos n0, if_neg (fun z => k0 z.1)]
        rfl
    refine ok _ (by by_cases w : 0 < k ∧ k < c ∧ tv k ≤ v - av (k - 1) <;> simp [w]) hC ?_
    unfold f_Mo_isLeap f_Mo_isLeap_0 f_Mo_isLeap_49 f_Mo_isLeap_50
    rw [e2, Option.bind_some, if_pos (show (0 : Int32) = 0 ∨ (0 : Int32) = 1 by decide), if_pos (show (1 : Int32) = 0 ∨ (1 : Int32) = 1 by decide)]
    have bl := t2.1 (c - 1) (by omega)
    have bx := t2.2.2
    by_cases w : v < x + av (c - 1)
    · rw [if_pos w]
      by_cases k0 : 0 < k
      · have hkc := hk.1
        have n0 : ¬ ii ((k : Int) - 1) < 0 := by rw [ii_lit, ii_lt (by omega) (by omega) (by omega) (by omega)]; omega
        obtain ⟨j1, j2⟩ := idx1 (k := k - 1) (by omega)
        have b1 := t2.1 (k - 1) (by omega)
        have b2 := hk.2.1 (k - 1) (by omega)
        unfold gsum at b2
        rw [if_neg n0, iiM, t1, show (k : Int) - 1 = ((k - 1 : Nat) : Int) by omega, j1, if_neg j2, (t3 _ (show k - 1 < c by omega)).2.2.2, jj_sub]
        by_cases q : k < c
        · obtain ⟨i1, i2⟩ := idx1 (k := k) (by omega)
          have b3 := t2.1 k q
          rw [if_neg (by rw [ii_le (by omega) (by omega) (by omega) (by omega)]; omega), i1, if_neg i2, (t3 k q).2.1]
          by_cases w : tv k ≤ v - av (k - 1)
          · rw [if_neg (fun z => by rw [jj_lt (by omega) (by omega) (by omega) (by omega)] at z; omega), if_pos ⟨k0, q, w⟩]
          · rw [if_pos ((jj_lt (by omega) (by omega) (by omega) (by omega)).mpr (by omega)), if_neg (fun z => w z.2.2)]
        · rw [if_pos (by rw [ii_le (by omega) (by omega) (by omega) (by omega)]; omega), if_neg (fun z => q z.2.1)]
      · have n0 : ii ((k : Int) - 1) < 0 := by rw [ii_lit, ii_lt (by omega) (by omega) (by omega) (by omega)]; omega
        rw [if_pos n0, if_neg (fun z => k0 z.1)]
    · rw [if_neg w, if_pos (by decide), if_neg]
      intro z
      have := hk.2.2 (c - 1) (by omega) (by omega)
      unfold gsum at this
      omega
theorem st_instant {nf : Nat} (hnf : 10000 ≤ nf) (S : CS) (M : MS) (p0 : Int64) (h : RR S M) : STDj RR S (cq_instant nf S p0) (f_Mo_instant nf p0 M.1 M.2.1 M.2.2.1 M.2.2.2) := by
  obtain ⟨si, sj, sa, sb⟩ := M
  obtain ⟨c, c1, c2, c3, c4⟩ := h.2.2.2.2.1
  obtain ⟨v, rfl, v1, v2⟩ := jj_all p0
  dsimp only at *
  have ok : ∀ a : Int64, f_LT_instantOf nf (jj v) S.1.2.2.2.2.2.2.2.2.2.1 S.1.2.2.2.2.2.2.2.2.2.2.1 S.1.2.2.2.2.2.2.2.2.2.2.2.1 S.1.2.2.2.2.2.2.2.2.2.2.2.2.1 = some a → f_Mo_instant nf (jj v) si sj sa sb = some (a, va_up si 3 0, sj, sa, sb) → STDj RR S (cq_instant nf S (jj v)) (f_Mo_instant nf (jj v) si sj sa sb) := by
    intro a e1 e2
    refine ⟨a, S, 0, 0, a, _, ?_, e2, rfl, h.thr 0, by omega, by omega⟩
    unfold cq_instant f_ZF_instant f_ZF_instant_0
    rw [e1]
    rfl
  have em : (-1 : Int32) = ii (-1) := rfl
  by_cases d : c = 0
  · subst d
    refine ok (-9223372036854775808) ?_ ?_
    · unfold f_LT_instantOf f_LT_instantOf_0 f_LT_lastRowUpTo f_LT_lastRowUpTo_0
      obtain ⟨f, rfl⟩ : ∃ f, nf = f + 1 := ⟨nf - 1, by omega⟩
      rw [c2, f_LT_lastRowUpTo_2, if_pos (by decide)]
      rfl
    · unfold f_Mo_instant f_Mo_instant_0 f_Mo_rowOf f_Mo_rowOf_0
      rw [vup_ne (by decide), c3, if_pos rfl]
      rfl
  · obtain ⟨t1, tv, av, x, t2, t3, t4, t5⟩ := c4 (by omega)
    rw [if_neg d] at c3
    obtain ⟨k, hk⟩ := upto_ex (v := v) (gs_mono t2)
    have e1 := lru (nf := nf) c2 c1 t2 (fun k hk => ⟨(t3 k hk).1, (t3 k hk).2.2.1⟩) ⟨v1, v2⟩ hk k 0 nf (by omega) (by have := hk.1; omega)
    have e2 := mrow (nf := nf) (si := va_up si 3 0) (sa := sa) hnf (show 0 < c by omega) ((vup_ne (by decide)).trans c3) ((vup_ne (by decide)).trans t1) t5 c1 t2 (fun k hk => ⟨(t3 k hk).2.1, (t3 k hk).2.2.2⟩) ⟨v1, v2⟩ hk
    have bl := t2.1 (c - 1) (by omega)
    have bx := t2.2.2
    have hkc := hk.1
    by_cases k0 : 0 < k
    · have n0 : (0 : Int32) ≤ ii ((k : Int) - 1) := by rw [ii_lit, ii_le (by omega) (by omega) (by omega) (by omega)]; omega
      have e3 := cbfr (nf := nf) c2 c1 t2 (fun k hk => ⟨(t3 k hk).1, (t3 k hk).2.2.1⟩) ⟨v1, v2⟩ hk k0
      obtain ⟨j1, j2⟩ := idx1 (k := k - 1) (by omega)
      have b1 := t2.1 (k - 1) (by omega)
      have b2 := hk.2.1 (k - 1) (by omega)
      unfold gsum at b2
      have hC : f_LT_instantOf nf (jj v) S.1.2.2.2.2.2.2.2.2.2.1 S.1.2.2.2.2.2.2.2.2.2.2.1 S.1.2.2.2.2.2.2.2.2.2.2.2.1 S.1.2.2.2.2.2.2.2.2.2.2.2.2.1 = some (if k < c ∧ tv k ≤ v - av (k - 1) then jj (tv k - 1) else if x ≤ v - av (k - 1) then -9223372036854775808 else jj (v - av (k - 1))) := by
        unfold f_LT_instantOf f_LT_instantOf_0 f_LT_lastRowUpTo f_LT_lastRowUpTo_0 f_LT_instantOf_62
        rw [em, show (-1 : Int) = ((0 : Nat) : Int) - 1 from rfl, e1, Option.bind_some, if_pos n0, e3, Option.bind_some, iiM, show (k : Int) - 1 = ((k - 1 : Nat) : Int) by omega, j1, if_neg j2, (t3 _ (show k - 1 < c by omega)).2.2.1, jj_sub, t4]
        by_cases w : k < c ∧ tv k ≤ v - av (k - 1)
        · obtain ⟨i1, i2⟩ := idx1 (k := k) (by omega)
          rw [if_pos w, if_pos w, if_neg (by decide), i1, if_neg i2, (t3 k w.1).1, show (1 : Int64) = jj 1 from rfl, jj_sub]
        · rw [if_neg w, if_neg w, if_pos rfl]
          by_cases y : x ≤ v - av (k - 1)
          · rw [if_pos ((jj_le (by omega) (by omega) (by omega) (by omega)).mpr y), if_pos y]
          · rw [if_neg (fun z => y ((jj_le (by omega) (by omega) (by omega) (by omega)).mp z)), if_neg y]
      refine ok _ hC ?_
      unfold f_Mo_instant f_Mo_instant_0 f_Mo_instant_66 f_Mo_instant_68
      rw [e2, Option.bind_some]
      by_cases w : v < x + av (c - 1)
      · rw [if_pos w, if_pos n0, iiM, t1, show (k : Int) - 1 = ((k - 1 : Nat) : Int) by omega, j1, if_neg j2, (t3 _ (show k - 1 < c by omega)).2.2.2, jj_sub]
        by_cases q : k < c
        · obtain ⟨i1, i2⟩ := idx1 (k := k) (by omega)
          have b3 := t2.1 k q
          have b4 := gmono (c := c) (g := tv) (fun k hk => by have := (t2.2.1 k hk).1; omega) (c - 1 - k) k (by omega)
          rw [show k + (c - 1 - k) = c - 1 by omega] at b4
          have b5 := bx.2.2 (by omega)
          rw [if_neg (by rw [ii_le (by omega) (by omega) (by omega) (by omega)]; omega), i1, if_neg i2, if_neg i2, (t3 k q).2.1, show (1 : Int64) = jj 1 from rfl, jj_sub]
          by_cases w : tv k ≤ v - av (k - 1)
          · rw [if_neg (fun z => by rw [jj_lt (by omega) (by omega) (by omega) (by omega)] at z; omega), if_pos ⟨q, w⟩]
          · rw [if_pos ((jj_lt (by omega) (by omega) (by omega) (by omega)).mpr (by omega)), if_neg (fun z => w z.2), if_neg (by omega)]
        · obtain rfl : k = c := by omega
          rw [if_pos (by rw [ii_le (by omega) (by omega) (by omega) (by omega)]; omega), if_neg (fun z => q z.1), if_neg (by omega)]
      · have ek : k = c := by
          by_cases q : k = c
          · exact q
          · have := hk.2.2 (c - 1) (by omega) (by omega)
            unfold gsum at this
            have b5 := bx.2.2 (by omega)
            omega
        subst ek
        rw [if_neg w, if_neg (by decide), if_neg (fun z => by omega), if_pos (by omega)]
    · have n0 : ¬ (0 : Int32) ≤ ii ((k : Int) - 1) := by rw [ii_lit, ii_le (by omega) (by omega) (by omega) (by omega)]; omega
      refine ok (-9223372036854775808) ?_ ?_
      · unfold f_LT_instantOf f_LT_instantOf_0 f_LT_lastRowUpTo f_LT_lastRowUpTo_0
        rw [em, show (-1 : Int) = ((0 : Nat) : Int) - 1 from rfl, e1, Option.bind_some, if_neg n0]
      · unfold f_Mo_instant f_Mo_instant_0
        rw [e2, Option.bind_some]
        by_cases w : v < x + av (c - 1)
        · rw [if_pos w, if_neg n0]
        · rw [if_neg w, if_neg (by decide)]
