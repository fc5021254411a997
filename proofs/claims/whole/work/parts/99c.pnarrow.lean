/-! ===== write: four bytes enough; narrow rule texts ===== -/
section
variable {nf i : Nat} {sa : Nat → Nat → Int32} {sb : Nat → Nat → Int64}
theorem and01 {a b : Int32} (ha : a = 0 ∨ a = 1) (hb : b = 0 ∨ b = 1) : (a &&& b = 0 ∨ a &&& b = 1) ∧ (a &&& b = 1 ↔ a = 1 ∧ b = 1) := by
  rcases ha with rfl | rfl <;> rcases hb with rfl | rfl <;> decide
abbrev f4 (x : Int64) : Prop := x = x.toInt32.toInt64
theorem cfit38 {l : Nat} {LT : Nat → Int64} (hl : l ≤ 40) : ∀ (d k fu : Nat), k + d = l → d < fu → ∃ r : Int32, f_Zone_fitsFourBytes_38 nf (ii (l : Int)) LT fu (ii (k : Int)) = some r ∧ (r = 0 ∨ r = 1) ∧ (r = 1 ↔ ∀ q, k ≤ q → q < l → f4 (LT q)) := by
  intro d
  induction d with
  | zero =>
    intro k fu hk hf
    obtain ⟨f, rfl⟩ : ∃ f, fu = f + 1 := ⟨fu - 1, by omega⟩
    rw [f_Zone_fitsFourBytes_38, if_pos (iple (c := 0) (d := 0) (by omega) (by omega))]
    exact ⟨1, rfl, Or.inr rfl, fun _ q h1 h2 => by omega, fun _ => rfl⟩
  | succ d ih =>
    intro k fu hk hf
    obtain ⟨f, rfl⟩ : ∃ f, fu = f + 1 := ⟨fu - 1, by omega⟩
    obtain ⟨k1, k2⟩ := nidx (k := k) (m := 40) (by omega) (by omega)
    rw [f_Zone_fitsFourBytes_38, if_neg (inle (by omega) (by omega)), k1, if_neg k2, if_neg k2, iiS]
    by_cases c : f4 (LT k)
    · obtain ⟨r, r1, r2, r3⟩ := ih (k + 1) f (by omega) (by omega)
      rw [if_pos c]
      refine ⟨r, r1, r2, r3.trans ⟨fun z q h1 h2 => ?_, fun z q h1 h2 => z q (by omega) h2⟩⟩
      by_cases e : q = k
      · rw [e]; exact c
      · exact z q (by omega) h2
    · rw [if_neg c]
      exact ⟨0, rfl, Or.inl rfl, fun z => absurd z (by decide), fun z => absurd (z k (by omega) (by omega)) c⟩
theorem cfit2 (hnf : 10000 ≤ nf) {n l : Nat} {TI LT : Nat → Int64} (hn : n ≤ 200) (hl : l ≤ 40) : ∀ (d k fu : Nat), k + d = n → d < fu → ∃ r : Int32, f_Zone_fitsFourBytes_2 nf (ii (n : Int)) (ii (l : Int)) TI LT fu (ii (k : Int)) = some r ∧ (r = 0 ∨ r = 1) ∧ (r = 1 ↔ (∀ q, k ≤ q → q < n → f4 (TI q)) ∧ ∀ q, q < l → f4 (LT q)) := by
  intro d
  induction d with
  | zero =>
    intro k fu hk hf
    obtain ⟨f, rfl⟩ : ∃ f, fu = f + 1 := ⟨fu - 1, by omega⟩
    obtain ⟨r, r1, r2, r3⟩ := cfit38 (nf := nf) (LT := LT) hl l 0 nf (by omega) (by omega)
    rw [f_Zone_fitsFourBytes_2, if_pos (iple (c := 0) (d := 0) (by omega) (by omega))]
    exact ⟨r, r1, r2, r3.trans ⟨fun z => ⟨fun q h1 h2 => by omega, fun q hq => z q (by omega) hq⟩, fun z q h1 h2 => z.2 q h2⟩⟩
  | succ d ih =>
    intro k fu hk hf
    obtain ⟨f, rfl⟩ : ∃ f, fu = f + 1 := ⟨fu - 1, by omega⟩
    obtain ⟨k1, k2⟩ := nidx (k := k) (m := 200) (by omega) (by omega)
    rw [f_Zone_fitsFourBytes_2, if_neg (inle (by omega) (by omega)), k1, if_neg k2, if_neg k2, iiS]
    by_cases c : f4 (TI k)
    · obtain ⟨r, r1, r2, r3⟩ := ih (k + 1) f (by omega) (by omega)
      rw [if_pos c]
      refine ⟨r, r1, r2, r3.trans ⟨fun z => ⟨fun q h1 h2 => ?_, z.2⟩, fun z => ⟨fun q h1 h2 => z.1 q (by omega) h2, z.2⟩⟩⟩
      by_cases e : q = k
      · rw [e]; exact c
      · exact z.1 q (by omega) h2
    · rw [if_neg c]
      exact ⟨0, rfl, Or.inl rfl, fun z => absurd z (by decide), fun z => absurd (z.1 k (by omega) (by omega)) c⟩
theorem mfit61 (hi : i < 5) {l : Nat} (hl : l ≤ 40) (h8 : sa 8 i = ii (l : Int)) : ∀ (d k fu : Nat) (x : Int32), k + d = l → d < fu → (x = 0 ∨ x = 1) → ∃ r : Int32, f_Mo_fitsShort_61 nf sa sb fu (ii ((40 * i + k : Nat) : Int)) x (ii (i : Int)) = some r ∧ (r = 0 ∨ r = 1) ∧ (r = 1 ↔ x = 1 ∧ ∀ q, k ≤ q → q < l → f4 (sb 18 (40 * i + q))) := by
  obtain ⟨ei, ni⟩ := zidx hi
  have hwi : 40 * i ≤ 40 * 4 := Nat.mul_le_mul_left 40 (by omega)
  obtain ⟨we, _⟩ := wpl (i := i) (w := 40) (k := l) (m := 200) hi (by omega) (by omega) (by omega) 40 rfl
  intro d
  induction d with
  | zero =>
    intro k fu x hk hf hx
    obtain ⟨f, rfl⟩ : ∃ f, fu = f + 1 := ⟨fu - 1, by omega⟩
    rw [f_Mo_fitsShort_61, ei, if_neg ni, h8, we, if_pos (iple (c := 0) (d := 0) (by omega) (by omega)), if_pos hx]
    exact ⟨x, rfl, hx, fun z => ⟨z, fun q h1 h2 => by omega⟩, fun z => z.1⟩
  | succ d ih =>
    intro k fu x hk hf hx
    obtain ⟨f, rfl⟩ : ∃ f, fu = f + 1 := ⟨fu - 1, by omega⟩
    obtain ⟨j1, j2⟩ := nidx (k := 40 * i + k) (m := 200) (by omega) (by omega)
    have o1 := and01 hx (b := if f4 (sb 18 (40 * i + k)) then 1 else 0) (by split; exact Or.inr rfl; exact Or.inl rfl)
    obtain ⟨r, r1, r2, r3⟩ := ih (k + 1) f (x &&& (if f4 (sb 18 (40 * i + k)) then 1 else 0)) (by omega) (by omega) o1.1
    refine ⟨r, ?_, r2, r3.trans ?_⟩
    · rw [f_Mo_fitsShort_61, ei, if_neg ni, h8, we, if_neg (inle (by omega) (by omega)), j1, if_neg j2, if_neg j2]
      unfold f_Mo_fitsShort_100
      rw [iiS]
      by_cases c : f4 (sb 18 (40 * i + k))
      · rw [if_pos c] at r1 ⊢
        exact r1
      · rw [if_neg c] at r1 ⊢
        exact r1
    · rw [o1.2]
      constructor
      · rintro ⟨⟨z1, z2⟩, z3⟩
        refine ⟨z1, fun q h1 h2 => ?_⟩
        by_cases e : q = k
        · rw [e]
          by_cases c : f4 (sb 18 (40 * i + k))
          · exact c
          · rw [if_neg c] at z2; cases z2
        · exact z3 q (by omega) h2
      · rintro ⟨z1, z2⟩
        exact ⟨⟨z1, if_pos (z2 k (by omega) (by omega))⟩, fun q h1 h2 => z2 q (by omega) h2⟩
theorem mfit8 (hnf : 10000 ≤ nf) (hi : i < 5) {n l : Nat} (hn : n ≤ 200) (hl : l ≤ 40) (h5 : sa 5 i = ii (n : Int)) (h8 : sa 8 i = ii (l : Int)) : ∀ (d k fu : Nat) (x : Int32), k + d = n → d < fu → (x = 0 ∨ x = 1) → ∃ r : Int32, f_Mo_fitsShort_8 nf sa sb fu (ii ((200 * i + k : Nat) : Int)) x (ii (i : Int)) = some r ∧ (r = 0 ∨ r = 1) ∧ (r = 1 ↔ x = 1 ∧ (∀ q, k ≤ q → q < n → f4 (sb 12 (200 * i + q))) ∧ ∀ q, q < l → f4 (sb 18 (40 * i + q))) := by
  obtain ⟨ei, ni⟩ := zidx hi
  have hwi : 200 * i ≤ 200 * 4 := Nat.mul_le_mul_left 200 (by omega)
  obtain ⟨we, _⟩ := wpl (i := i) (w := 200) (k := n) (m := 1000) hi (by omega) (by omega) (by omega) 200 rfl
  intro d
  induction d with
  | zero =>
    intro k fu x hk hf hx
    obtain ⟨f, rfl⟩ : ∃ f, fu = f + 1 := ⟨fu - 1, by omega⟩
    obtain ⟨r, r1, r2, r3⟩ := mfit61 (nf := nf) (sb := sb) hi hl h8 l 0 nf x (by omega) (by omega) hx
    rw [f_Mo_fitsShort_8, ei, if_neg ni, h5, we, if_pos (iple (c := 0) (d := 0) (by omega) (by omega)), wpz (w := 40) 40 rfl]
    exact ⟨r, r1, r2, r3.trans ⟨fun z => ⟨z.1, fun q h1 h2 => by omega, fun q hq => z.2 q (by omega) hq⟩, fun z => ⟨z.1, fun q h1 h2 => z.2.2 q h2⟩⟩⟩
  | succ d ih =>
    intro k fu x hk hf hx
    obtain ⟨f, rfl⟩ : ∃ f, fu = f + 1 := ⟨fu - 1, by omega⟩
    obtain ⟨j1, j2⟩ := nidx (k := 200 * i + k) (m := 1000) (by omega) (by omega)
    have o1 := and01 hx (b := if f4 (sb 12 (200 * i + k)) then 1 else 0) (by split; exact Or.inr rfl; exact Or.inl rfl)
    obtain ⟨r, r1, r2, r3⟩ := ih (k + 1) f (x &&& (if f4 (sb 12 (200 * i + k)) then 1 else 0)) (by omega) (by omega) o1.1
    refine ⟨r, ?_, r2, r3.trans ?_⟩
    · rw [f_Mo_fitsShort_8, ei, if_neg ni, h5, we, if_neg (inle (by omega) (by omega)), j1, if_neg j2, if_neg j2]
      unfold f_Mo_fitsShort_48
      rw [iiS]
      by_cases c : f4 (sb 12 (200 * i + k))
      · rw [if_pos c] at r1 ⊢
        exact r1
      · rw [if_neg c] at r1 ⊢
        exact r1
    · rw [o1.2]
      constructor
      · rintro ⟨⟨z1, z2⟩, z3, z4⟩
        refine ⟨z1, fun q h1 h2 => ?_, z4⟩
        by_cases e : q = k
        · rw [e]
          by_cases c : f4 (sb 12 (200 * i + k))
          · exact c
          · rw [if_neg c] at z2; cases z2
        · exact z3 q (by omega) h2
      · rintro ⟨z1, z2, z3⟩
        exact ⟨⟨z1, if_pos (z2 k (by omega) (by omega))⟩, fun q h1 h2 => z2 q (by omega) h2, z3⟩
end
/-! narrow texts -/
section
variable {L : Nat → Int}
theorem rnum_hi {lo v : Int} {hi hi' : Int} {p q : Nat} (h : rnum L lo hi p = .ok (v, q)) (hv : v ≤ hi') : rnum L lo hi' p = .ok (v, q) := by
  unfold rnum rchk at *
  split at h
  · rename_i c1
    rw [if_pos c1]
    split at h
    · rename_i c2
      rw [if_pos c2]
      split at h
      · rename_i c3
        rw [if_pos c3]
        split at h
        · cases h
        · rename_i c4
          rw [if_neg c4]
          split at h
          · cases h
          · cases h
            rw [if_neg (by omega)]
      · rename_i c3
        rw [if_neg c3]
        split at h
        · cases h
        · cases h
          rw [if_neg (by omega)]
    · rename_i c2
      rw [if_neg c2]
      split at h
      · cases h
      · cases h
        rw [if_neg (by omega)]
  · cases h
theorem rnum_no {lo v : Int} {hi hi' : Int} {p q : Nat} (h : rnum L lo hi p = .ok (v, q)) (hv : hi' < v) : ∃ x, rnum L lo hi' p = .error x := by
  cases e : rnum L lo hi' p with
  | error x => exact ⟨x, rfl⟩
  | ok r =>
    obtain ⟨v', q'⟩ := r
    have k := rnum_ok e
    have a := rnum_hi (hi' := max hi hi') h (by have := (rnum_ok h).2.1; omega)
    have b := rnum_hi (hi' := max hi hi') e (by omega)
    rw [a] at b
    cases b
    omega
theorem rnum_nd {lo hi : Int} {p : Nat} (h : ¬ dig (L p)) : rnum L lo hi p = .error p := by
  unfold rnum
  rw [if_neg h]
theorem ramt_nar {v : Int} {w : Bool} {p q : Nat} (h : ramt L true 167 p = .ok (v, w, q)) : if w then ∃ x, ramt L false 24 p = .error x else ramt L false 24 p = .ok (v, false, q) := by
  unfold ramt at h
  cases es : sgn L true p with
  | true =>
    rw [es] at h
    have hw : w = true := by
      cases e1 : rnum L 0 167 (if true = true then p + 1 else p) with
      | error x => rw [e1] at h; cases h
      | ok r =>
        obtain ⟨hh, p2⟩ := r
        rw [e1] at h
        dsimp only at h
        split at h
        · cases e2 : rnum L 0 59 (p2 + 1) with
          | error x => rw [e2] at h; cases h
          | ok r2 =>
            obtain ⟨mm, p3⟩ := r2
            rw [e2] at h
            dsimp only at h
            split at h
            · cases e3 : rnum L 0 59 (p3 + 1) with
              | error x => rw [e3] at h; cases h
              | ok r3 =>
                obtain ⟨cc, p4⟩ := r3
                rw [e3] at h
                unfold rfin at h
                rw [es] at h
                cases h
                rfl
            · unfold rfin at h
              rw [es] at h
              cases h
              rfl
        · unfold rfin at h
          rw [es] at h
          cases h
          rfl
    rw [hw, if_pos rfl]
    have nd : ¬ dig (L p) := by
      unfold sgn at es
      simp only [Bool.true_and, Bool.or_eq_true, decide_eq_true_eq] at es
      omega
    refine ⟨p, ?_⟩
    unfold ramt
    rw [show sgn L false p = false from rfl, if_neg (by decide), rnum_nd nd]
  | false =>
    rw [es, if_neg (by decide)] at h
    have nm : ¬ L p = 45 := by
      unfold sgn at es
      simp only [Bool.true_and, Bool.or_eq_false_iff, decide_eq_false_iff_not] at es
      exact es.2
    cases e1 : rnum L 0 167 p with
    | error x => rw [e1] at h; cases h
    | ok r =>
      obtain ⟨hh, p2⟩ := r
      rw [e1] at h
      dsimp only at h
      by_cases c24 : 24 < hh
      · have hw : w = true := by
          split at h
          · cases e2 : rnum L 0 59 (p2 + 1) with
            | error x => rw [e2] at h; cases h
            | ok r2 =>
              obtain ⟨mm, p3⟩ := r2
              rw [e2] at h
              dsimp only at h
              split at h
              · cases e3 : rnum L 0 59 (p3 + 1) with
                | error x => rw [e3] at h; cases h
                | ok r3 =>
                  obtain ⟨cc, p4⟩ := r3
                  rw [e3] at h
                  unfold rfin at h
                  rw [es, decide_eq_true c24] at h
                  cases h
                  rfl
              · unfold rfin at h
                rw [es, decide_eq_true c24] at h
                cases h
                rfl
          · unfold rfin at h
            rw [es, decide_eq_true c24] at h
            cases h
            rfl
        obtain ⟨x, hx⟩ := rnum_no (hi' := 24) e1 c24
        rw [hw, if_pos rfl]
        refine ⟨x, ?_⟩
        unfold ramt
        rw [show sgn L false p = false from rfl, if_neg (by decide), hx]
      · have e1' := rnum_hi (hi' := 24) e1 (by omega)
        have fin : ∀ (mm cc : Int) (q' : Nat), rfin L true p hh mm cc q' = (3600 * hh + 60 * mm + cc, false, q') ∧ rfin L false p hh mm cc q' = (3600 * hh + 60 * mm + cc, false, q') := by
          intro mm cc q'
          unfold rfin
          rw [es, decide_eq_false c24, if_neg (fun z => nm z.2), if_neg (fun z => by cases z.1)]
          exact ⟨rfl, rfl⟩
        have main : ramt L false 24 p = .ok (v, false, q) ∧ w = false := by
          unfold ramt
          rw [show sgn L false p = false from rfl, if_neg (by decide), e1']
          dsimp only
          split at h
          · rename_i c58
            rw [if_pos c58]
            cases e2 : rnum L 0 59 (p2 + 1) with
            | error x => rw [e2] at h; cases h
            | ok r2 =>
              obtain ⟨mm, p3⟩ := r2
              rw [e2] at h
              dsimp only at h ⊢
              split at h
              · rename_i c582
                rw [if_pos c582]
                cases e3 : rnum L 0 59 (p3 + 1) with
                | error x => rw [e3] at h; cases h
                | ok r3 =>
                  obtain ⟨cc, p4⟩ := r3
                  rw [e3] at h
                  dsimp only at h ⊢
                  rw [(fin mm cc p4).1] at h
                  rw [(fin mm cc p4).2]
                  cases h
                  exact ⟨rfl, rfl⟩
              · rename_i c582
                rw [if_neg c582]
                rw [(fin mm 0 p3).1] at h
                rw [(fin mm 0 p3).2]
                cases h
                exact ⟨rfl, rfl⟩
          · rename_i c58
            rw [if_neg c58]
            rw [(fin 0 0 p2).1] at h
            rw [(fin 0 0 p2).2]
            cases h
            exact ⟨rfl, rfl⟩
        rw [main.2, if_neg (by decide)]
        exact main.1
end
section
variable {L : Nat → Int}
theorem redge_nar {d : Int × Int × Int × Int} {tm : Int} {w : Bool} {p q : Nat} (h : redge L true p = .ok (d, tm, w, q)) : if w then ∃ x, redge L false p = .error x else redge L false p = .ok (d, tm, false, q) := by
  unfold redge at *
  split at h
  · rename_i c44
    rw [if_pos c44]
    cases e1 : rday L (p + 1) with
    | error x => rw [e1] at h; cases h
    | ok r =>
      obtain ⟨d', p2⟩ := r
      rw [e1] at h
      dsimp only at h ⊢
      split at h
      · rename_i c47
        rw [if_pos c47]
        cases e2 : ramt L true (if true = true then 167 else 24) (p2 + 1) with
        | error x => rw [e2] at h; cases h
        | ok r2 =>
          obtain ⟨v, w', p3⟩ := r2
          rw [e2] at h
          dsimp only at h
          cases h
          have n := ramt_nar e2
          cases w with
          | true =>
            rw [if_pos rfl] at n ⊢
            obtain ⟨x, hx⟩ := n
            exact ⟨x, by rw [if_neg (by decide), hx]⟩
          | false =>
            rw [if_neg (by decide)] at n ⊢
            rw [if_neg (by decide), n]
      · rename_i c47
        rw [if_neg c47]
        cases h
        rw [if_neg (by decide)]
  · cases h
theorem ramt_nw {v : Int} {w : Bool} {p q : Nat} (h : ramt L false 24 p = .ok (v, w, q)) : w = false := by
  unfold ramt at h
  rw [show sgn L false p = false from rfl, if_neg (by decide)] at h
  cases e1 : rnum L 0 24 p with
  | error x => rw [e1] at h; cases h
  | ok r =>
    obtain ⟨hh, p2⟩ := r
    have k := (rnum_ok e1).2.1
    rw [e1] at h
    dsimp only at h
    have fin : ∀ (mm cc : Int) (q' : Nat), (rfin L false p hh mm cc q').2.1 = false := by
      intro mm cc q'
      unfold rfin
      rw [show sgn L false p = false from rfl, decide_eq_false (by omega)]
      rfl
    split at h
    · cases e2 : rnum L 0 59 (p2 + 1) with
      | error x => rw [e2] at h; cases h
      | ok r2 =>
        obtain ⟨mm, p3⟩ := r2
        rw [e2] at h
        dsimp only at h
        split at h
        · cases e3 : rnum L 0 59 (p3 + 1) with
          | error x => rw [e3] at h; cases h
          | ok r3 =>
            obtain ⟨cc, p4⟩ := r3
            rw [e3] at h
            have f := fin mm cc p4
            dsimp only at h
            rw [Except.ok.inj h] at f
            exact f
        · have f := fin mm 0 p3
          rw [Except.ok.inj h] at f
          exact f
    · have f := fin 0 0 p2
      rw [Except.ok.inj h] at f
      exact f
theorem redge_nw {d : Int × Int × Int × Int} {tm : Int} {w : Bool} {p q : Nat} (h : redge L false p = .ok (d, tm, w, q)) : w = false := by
  unfold redge at h
  split at h
  · cases e1 : rday L (p + 1) with
    | error x => rw [e1] at h; cases h
    | ok r =>
      obtain ⟨d', p2⟩ := r
      rw [e1] at h
      dsimp only at h
      split at h
      · cases e2 : ramt L false (if false = true then 167 else 24) (p2 + 1) with
        | error x => rw [e2] at h; cases h
        | ok r2 =>
          obtain ⟨v, w', p3⟩ := r2
          rw [e2] at h
          cases h
          rw [if_neg (by decide)] at e2
          exact ramt_nw e2
      · cases h
        rfl
  · cases h
/-- whether a text is wide -/
def tW : Option XT2 → Bool
  | none => false
  | some (_, _, _, _, _, _, _, w) => w
theorem rtext_nar {wd : Bool} {p E sp ss : Nat} {so : Int} {x : Option XT2} (h : rtext L wd p E = .ok (sp, ss, so, x)) : if tW x then ∃ y, rtext L false p E = .error y else rtext L false p E = .ok (sp, ss, so, x) := by
  cases wd with
  | false =>
    have : tW x = false := by
      unfold rtext at h
      cases e1 : rname L p with
      | error y => rw [e1] at h; cases h
      | ok q1 =>
        obtain ⟨sp', ss', p1⟩ := q1
        rw [e1] at h
        dsimp only at h
        cases e2 : ramt L true 24 p1 with
        | error y => rw [e2] at h; cases h
        | ok q2 =>
          obtain ⟨so', w0, p2⟩ := q2
          rw [e2] at h
          dsimp only at h
          split at h
          · cases h
            rfl
          · cases e3 : rname L p2 with
            | error y => rw [e3] at h; cases h
            | ok q3 =>
              obtain ⟨up, us, p3⟩ := q3
              rw [e3] at h
              dsimp only at h
              cases e4 : rsoff L (-so') p3 with
              | error y => rw [e4] at h; cases h
              | ok q4 =>
                obtain ⟨uo, p4⟩ := q4
                rw [e4] at h
                dsimp only at h
                cases e5 : redge L false p4 with
                | error y => rw [e5] at h; cases h
                | ok q5 =>
                  obtain ⟨d1, t1, w1, p5⟩ := q5
                  have k5 := redge_nw e5
                  rw [e5] at h
                  dsimp only at h
                  cases e6 : redge L false p5 with
                  | error y => rw [e6] at h; cases h
                  | ok q6 =>
                    obtain ⟨d2, t2, w2, p6⟩ := q6
                    have k6 := redge_nw e6
                    rw [e6] at h
                    dsimp only at h
                    split at h
                    · cases h
                      rw [k5, k6]
                      rfl
                    · cases h
    rw [this, if_neg (by decide)]
    exact h
  | true =>
    unfold rtext at *
    cases e1 : rname L p with
    | error y => rw [e1] at h; cases h
    | ok q1 =>
      obtain ⟨sp', ss', p1⟩ := q1
      rw [e1] at h
      dsimp only at h ⊢
      cases e2 : ramt L true 24 p1 with
      | error y => rw [e2] at h; cases h
      | ok q2 =>
        obtain ⟨so', w0, p2⟩ := q2
        rw [e2] at h
        dsimp only at h ⊢
        split at h
        · rename_i cE
          cases h
          rw [if_pos cE]
          rw [show tW none = false from rfl, if_neg (by decide)]
        · rename_i cE
          rw [if_neg cE]
          cases e3 : rname L p2 with
          | error y => rw [e3] at h; cases h
          | ok q3 =>
            obtain ⟨up, us, p3⟩ := q3
            rw [e3] at h
            dsimp only at h ⊢
            cases e4 : rsoff L (-so') p3 with
            | error y => rw [e4] at h; cases h
            | ok q4 =>
              obtain ⟨uo, p4⟩ := q4
              rw [e4] at h
              dsimp only at h ⊢
              cases e5 : redge L true p4 with
              | error y => rw [e5] at h; cases h
              | ok q5 =>
                obtain ⟨d1, t1, w1, p5⟩ := q5
                have k5 := redge_nar e5
                rw [e5] at h
                dsimp only at h
                cases e6 : redge L true p5 with
                | error y => rw [e6] at h; cases h
                | ok q6 =>
                  obtain ⟨d2, t2, w2, p6⟩ := q6
                  have k6 := redge_nar e6
                  rw [e6] at h
                  dsimp only at h
                  split at h
                  · rename_i cE2
                    cases h
                    cases w1 with
                    | true =>
                      rw [if_pos rfl] at k5
                      obtain ⟨y, hy⟩ := k5
                      rw [hy]
                      exact ⟨y, rfl⟩
                    | false =>
                      rw [if_neg (by decide)] at k5
                      rw [k5]
                      dsimp only
                      cases w2 with
                      | true =>
                        rw [if_pos rfl] at k6
                        obtain ⟨y, hy⟩ := k6
                        rw [hy]
                        exact ⟨y, rfl⟩
                      | false =>
                        rw [if_neg (by decide)] at k6
                        rw [k6]
                        dsimp only
                        rw [if_pos cE2]
                        rfl
                  · cases h
end
