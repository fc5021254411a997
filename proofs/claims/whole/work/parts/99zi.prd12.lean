/-! ===== read: the footer ===== -/
section
variable {nf n : Nat} {s : Int32} {N : Nat} {A : Nat → Int32} {sj : Nat → Int64} {sb : Nat → Nat → Int64} {si : Nat → Int32}
theorem mft148 {st E : Nat} (hE : E ≤ 6000) (hl : E ≤ st + 128) : ∀ (d k fu : Nat), k + d = E → st ≤ k → d < fu → ∀ sa : Nat → Nat → Int32, ∃ sa', f_Mo_footer_148 nf fu (ii (k : Int)) (ii (st : Int)) (ii (E : Int)) 4 si sj sa sb = some (1, va_up si 32 (ii ((E + 1 : Nat) : Int)), sj, sa', sb) ∧ (∀ q, k ≤ q → q < E → sa' 22 (512 + (q - st)) = sa 0 q) ∧ ∀ a j, ¬ (a = 22 ∧ 512 + (k - st) ≤ j ∧ j < 640) → sa' a j = sa a j := by
  intro d
  induction d with
  | zero =>
    intro k fu hk hst hf sa
    obtain ⟨f, rfl⟩ : ∃ f, fu = f + 1 := ⟨fu - 1, by omega⟩
    rw [f_Mo_footer_148, if_pos ((ii_le (by omega) (by omega) (by omega) (by omega)).mpr (by omega)), iiS]
    exact ⟨sa, rfl, fun q h1 h2 => by omega, fun _ _ _ => rfl⟩
  | succ d ih =>
    intro k fu hk hst hf sa
    obtain ⟨f, rfl⟩ : ∃ f, fu = f + 1 := ⟨fu - 1, by omega⟩
    have e : 128 * (4 : Int32) + ii (k : Int) - ii (st : Int) = ii ((512 + (k - st) : Nat) : Int) := by
      rw [show 128 * (4 : Int32) = ii 512 from rfl, ii_add, ii_sub]
      congr 1
      omega
    have e1 : (ii ((512 + (k - st) : Nat) : Int)).toNatClampNeg = 512 + (k - st) := by rw [ii_nat (by omega) (by omega)]; omega
    have e2 : ¬ (ii ((512 + (k - st) : Nat) : Int) < 0 ∨ 640 ≤ 512 + (k - st)) := by rw [ii_lit, ii_lt (by omega) (by omega) (by omega) (by omega)]; omega
    have k1 : (ii (k : Int)).toNatClampNeg = k := by rw [ii_nat (by omega) (by omega)]; omega
    have k2 : ¬ (ii (k : Int) < 0 ∨ 6000 ≤ k) := by rw [ii_lit, ii_lt (by omega) (by omega) (by omega) (by omega)]; omega
    obtain ⟨sa', g1, g2, g3⟩ := ih (k + 1) f (by omega) (by omega) (by omega) (va_up sa 22 (upd (sa 22) (512 + (k - st)) (sa 0 k)))
    refine ⟨sa', ?_, fun q h1 h2 => ?_, fun a j h => ?_⟩
    · rw [f_Mo_footer_148, if_neg (by rw [ii_le (by omega) (by omega) (by omega) (by omega)]; omega), k1, if_neg k2, e, e1, if_neg e2, iiS]
      exact g1
    · by_cases c : q = k
      · subst c
        rw [g3 22 _ (by omega), vu_eq]
      · rw [g2 q (by omega) h2, vup_ne (by decide)]
    · rw [g3 a j (by omega), vu_ne (by omega)]
/-- where the footer ends -/
theorem ftE (T : Nat → Int32) : ∀ (d x : Nat), x + d = n + 1 → ∃ E, x ≤ E ∧ E ≤ n + 1 ∧ (E < n → T E = 10) ∧ ∀ j, x ≤ j → j < E → j < n ∧ ¬ T j = 10 := by
  intro d
  induction d with
  | zero => intro x hx; exact ⟨x, by omega, by omega, fun h => by omega, fun j h1 h2 => by omega⟩
  | succ d ih =>
    intro x hx
    by_cases c : x < n
    · by_cases c1 : T x = 10
      · exact ⟨x, by omega, by omega, fun _ => c1, fun j h1 h2 => by omega⟩
      · obtain ⟨E, e1, e2, e3, e4⟩ := ih (x + 1) (by omega)
        refine ⟨E, by omega, e2, e3, fun j h1 h2 => ?_⟩
        by_cases cj : j = x
        · rw [cj]
          exact ⟨c, c1⟩
        · exact e4 j (by omega) h2
    · exact ⟨x, by omega, by omega, fun h => by omega, fun j h1 h2 => by omega⟩
theorem cft29 {T : Nat → Int32} (hP : RB s N A n T) (hn : n ≤ 6000) {E : Nat} (hE : E ≤ n + 1) (hE1 : E < n → T E = 10) {ver fa pl po fx r0 r1 r2 r3 r4 r5 r6 r7 r8 txS b0 b1 b2 b3 b4 b5 c0 c1 c2 c3 c4 c5 : Int32} {txN : Nat} {txA : Nat → Int32} : ∀ (d x fu : Nat), x + d = E → d < fu → (∀ j, x ≤ j → j < E → j < n ∧ ¬ T j = 10) → f_FP_readFooter_29 nf s N A ver fu (ii (x : Int)) fa pl po fx r0 r1 r2 r3 r4 r5 r6 r7 r8 txS txN txA b0 b1 b2 b3 b4 b5 c0 c1 c2 c3 c4 c5 = f_FP_readFooter_59 nf s N A ver (ii (E : Int)) fa pl po fx r0 r1 r2 r3 r4 r5 r6 r7 r8 txS txN txA b0 b1 b2 b3 b4 b5 c0 c1 c2 c3 c4 c5 := by
  intro d
  induction d with
  | zero =>
    intro x fu hx hf hj
    obtain ⟨f, rfl⟩ : ∃ f, fu = f + 1 := ⟨fu - 1, by omega⟩
    obtain rfl : x = E := by omega
    rw [f_FP_readFooter_29, hP.1]
    by_cases c : x < n
    · rw [if_neg (inle c (by omega)), ← hP.1, hP.get c, Option.bind_some, if_pos (hE1 c)]
    · rw [if_pos (iple (c := 0) (d := 0) (by omega) (by omega))]
  | succ d ih =>
    intro x fu hx hf hj
    obtain ⟨f, rfl⟩ : ∃ f, fu = f + 1 := ⟨fu - 1, by omega⟩
    obtain ⟨j1, j2⟩ := hj x (by omega) (by omega)
    rw [f_FP_readFooter_29, if_neg (show ¬ s ≤ ii (x : Int) by rw [hP.1]; exact inle j1 (by omega)), hP.get j1, Option.bind_some, if_neg j2, iiS]
    exact ih (x + 1) f (by omega) (by omega) (fun j h1 h2 => hj j (by omega) h2)
theorem mft9 {sa : Nat → Nat → Int32} (h1 : si 1 = ii (n : Int)) (hn : n ≤ 6000) {E : Nat} (hE : E ≤ n + 1) (hE1 : E < n → sa 0 E = 10) : ∀ (d x fu : Nat), x + d = E → d < fu → (∀ j, x ≤ j → j < E → j < n ∧ ¬ sa 0 j = 10) → f_Mo_footer_9 nf fu (ii (x : Int)) 4 si sj sa sb = f_Mo_footer_34 nf (ii (E : Int)) 4 si sj sa sb := by
  intro d
  induction d with
  | zero =>
    intro x fu hx hf hj
    obtain ⟨f, rfl⟩ : ∃ f, fu = f + 1 := ⟨fu - 1, by omega⟩
    obtain rfl : x = E := by omega
    rw [f_Mo_footer_9, h1]
    by_cases c : x < n
    · obtain ⟨i1, i2⟩ := nidx (k := x) (m := 6000) (by omega) (by omega)
      rw [if_neg (inle c (by omega)), i1, if_neg i2, if_pos (hE1 c)]
    · rw [if_pos (iple (c := 0) (d := 0) (by omega) (by omega))]
  | succ d ih =>
    intro x fu hx hf hj
    obtain ⟨f, rfl⟩ : ∃ f, fu = f + 1 := ⟨fu - 1, by omega⟩
    obtain ⟨j1, j2⟩ := hj x (by omega) (by omega)
    obtain ⟨i1, i2⟩ := nidx (k := x) (m := 6000) (by omega) (by omega)
    rw [f_Mo_footer_9, h1, if_neg (inle j1 (by omega)), i1, if_neg i2, if_neg j2, iiS]
    exact ih (x + 1) f (by omega) (by omega) (fun j h1 h2 => hj j (by omega) h2)
end
def kFt (a j : Nat) : Prop := kH a j ∨ (a = 11 ∧ j = 4) ∨ (a = 22 ∧ 512 ≤ j ∧ j < 640)
def sIF (si si' : Nat → Int32) : Prop := ∀ k, k ≠ 32 → k ≠ 33 → k ≠ 34 → k ≠ 35 → k ≠ 39 → si' k = si k
def sIB (si si' : Nat → Int32) : Prop := ∀ k, k ≠ 32 → k ≠ 33 → k ≠ 34 → k ≠ 35 → k ≠ 39 → k ≠ 36 → k ≠ 2 → si' k = si k
abbrev FtT := ((Int32 × Int32 × Int32 × Int32 × Int32 × Int32 × Int32 × Int32 × Int32 × Int32 × Int32 × Int32 × Int32 × Int32 × Int32 × Nat × (Nat → Int32) × Int32 × Int32 × Int32 × Int32 × Int32 × Int32 × Int32 × Int32 × Int32 × Int32 × Int32 × Int32) × Nat × Nat)
def FtO (n : Nat) (fa pl : Int32) (txN : Nat) (cl : Option FtT) (rf : Option (Int32 × MS)) (si : Nat → Int32) (sj : Nat → Int64) (sa : Nat → Nat → Int32) (sb : Nat → Nat → Int64) : Prop :=
  (∃ (q st r : Nat) (has wd so uo sp ss up us txS' : Int32) (N' : Nat) (A' : Nat → Int32) (b0 b1 b2 b3 b4 b5 c0 c1 c2 c3 c4 c5 : Int32) (kc ks : Nat) (si' : Nat → Int32) (sa' : Nat → Nat → Int32),
    cl = some ((1, fa, pl, ii (q : Int), ii (st : Int), has, wd, so, uo, sp, ss, up, us, 0, txS', N', A', b0, b1, b2, b3, b4, b5, c0, c1, c2, c3, c4, c5), kc, ks) ∧ rf = some (1, si', sj, sa', sb) ∧ q ≤ n ∧ si' 32 = ii (q : Int) ∧ si' 39 = ii (st : Int) ∧ sIF si si' ∧ (∀ a j, ¬ kFt a j → sa' a j = sa a j) ∧ sa' 11 4 = ii (r : Int) ∧ r ≤ 128 ∧ RB txS' N' A' r (fun k => sa' 22 (512 + k)) ∧ kc + txN ≤ N' + 1 ∧ ks + 2 * txN ≤ 2 * N' + 10 ∧ ∀ z : ZS, z.2.2.2.2.2.2.2.2.2.2.2.2.2.2.2.2.2.2.1 = has → z.2.2.2.2.2.2.2.2.2.2.2.2.2.2.2.2.2.2.2.1 = wd → z.2.2.2.2.2.2.2.2.2.2.2.2.2.2.2.2.2.2.2.2.1 = so → z.2.2.2.2.2.2.2.2.2.2.2.2.2.2.2.2.2.2.2.2.2.1 = uo → z.2.2.2.2.2.2.2.2.2.2.2.2.2.2.2.2.2.2.2.2.2.2.1 = sp → z.2.2.2.2.2.2.2.2.2.2.2.2.2.2.2.2.2.2.2.2.2.2.2.1 = ss → z.2.2.2.2.2.2.2.2.2.2.2.2.2.2.2.2.2.2.2.2.2.2.2.2.1 = up → z.2.2.2.2.2.2.2.2.2.2.2.2.2.2.2.2.2.2.2.2.2.2.2.2.2.1 = us → z.2.2.2.2.2.2.2.2.2.2.2.2.2.2.2.2.2.2.2.2.2.2.2.2.2.2.1 = 0 → z.2.2.2.2.2.2.2.2.2.2.2.2.2.2.2.2.2.2.2.2.2.2.2.2.2.2.2.2.2.2.1 = b0 → z.2.2.2.2.2.2.2.2.2.2.2.2.2.2.2.2.2.2.2.2.2.2.2.2.2.2.2.2.2.2.2.1 = b1 → z.2.2.2.2.2.2.2.2.2.2.2.2.2.2.2.2.2.2.2.2.2.2.2.2.2.2.2.2.2.2.2.2.1 = b2 → z.2.2.2.2.2.2.2.2.2.2.2.2.2.2.2.2.2.2.2.2.2.2.2.2.2.2.2.2.2.2.2.2.2.1 = b3 → z.2.2.2.2.2.2.2.2.2.2.2.2.2.2.2.2.2.2.2.2.2.2.2.2.2.2.2.2.2.2.2.2.2.2.1 = b4 → z.2.2.2.2.2.2.2.2.2.2.2.2.2.2.2.2.2.2.2.2.2.2.2.2.2.2.2.2.2.2.2.2.2.2.2.1 = b5 → z.2.2.2.2.2.2.2.2.2.2.2.2.2.2.2.2.2.2.2.2.2.2.2.2.2.2.2.2.2.2.2.2.2.2.2.2.1 = c0 → z.2.2.2.2.2.2.2.2.2.2.2.2.2.2.2.2.2.2.2.2.2.2.2.2.2.2.2.2.2.2.2.2.2.2.2.2.2.1 = c1 → z.2.2.2.2.2.2.2.2.2.2.2.2.2.2.2.2.2.2.2.2.2.2.2.2.2.2.2.2.2.2.2.2.2.2.2.2.2.2.1 = c2 → z.2.2.2.2.2.2.2.2.2.2.2.2.2.2.2.2.2.2.2.2.2.2.2.2.2.2.2.2.2.2.2.2.2.2.2.2.2.2.2.1 = c3 → z.2.2.2.2.2.2.2.2.2.2.2.2.2.2.2.2.2.2.2.2.2.2.2.2.2.2.2.2.2.2.2.2.2.2.2.2.2.2.2.2.1 = c4 → z.2.2.2.2.2.2.2.2.2.2.2.2.2.2.2.2.2.2.2.2.2.2.2.2.2.2.2.2.2.2.2.2.2.2.2.2.2.2.2.2.2 = c5 → ZRul z sa' 4 r) ∨
  (∃ (f pp po ft r0 r1 r2 r3 r4 r5 r6 r7 r8 txS' : Int32) (N' : Nat) (A' : Nat → Int32) (b0 b1 b2 b3 b4 b5 c0 c1 c2 c3 c4 c5 : Int32) (kc ks : Nat) (si' : Nat → Int32) (sa' : Nat → Nat → Int32) (c' : Nat) (T' : Nat → Int32),
    cl = some ((0, f, pp, po, ft, r0, r1, r2, r3, r4, r5, r6, r7, r8, txS', N', A', b0, b1, b2, b3, b4, b5, c0, c1, c2, c3, c4, c5), kc, ks) ∧ rf = some (0, si', sj, sa', sb) ∧ si' 36 = f ∧ si' 2 = pp ∧ sIB si si' ∧ (∀ a j, ¬ kFt a j → sa' a j = sa a j) ∧ RB txS' N' A' c' T' ∧ kc + txN ≤ N' + 1 ∧ ks + 2 * txN ≤ 2 * N' + 10)
