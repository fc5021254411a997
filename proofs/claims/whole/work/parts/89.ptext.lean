/-! ===== more of rule texts: lengths, places moved, narrow ===== -/
theorem rname_len {L : Nat → Int} {p pl sz q : Nat} (h : rname L p = .ok (pl, sz, q)) : q ≤ p + 12 := by
  unfold rname at h
  split at h
  · have hle := cntq_le true L 11 (p + 1)
    generalize cntq true L 11 (p + 1) = c11 at h hle
    split at h
    · cases h
    · split at h
      · cases h
      · split at h
        · cases h
          omega
        · cases h
  · have hle := cntq_le false L 11 p
    generalize cntq false L 11 p = c11 at h hle
    split at h
    · cases h
    · split at h
      · cases h
      · cases h
        omega
theorem ramt_len {L : Nat → Int} {sg : Bool} {most v : Int} {w : Bool} {p q : Nat} (h : ramt L sg most p = .ok (v, w, q)) : q ≤ p + 12 := by
  unfold ramt at h
  have hp1 : (if sgn L sg p then p + 1 else p) ≤ p + 1 := by split <;> omega
  generalize (if sgn L sg p then p + 1 else p) = p1 at hp1 h
  cases e1 : rnum L 0 most p1 with
  | error x => rw [e1] at h; cases h
  | ok q1 =>
    obtain ⟨hh, p2⟩ := q1
    rw [e1] at h
    have k1 := (rnum_ok e1).2.2.2.1
    dsimp only at h
    split at h
    · cases e2 : rnum L 0 59 (p2 + 1) with
      | error x => rw [e2] at h; cases h
      | ok q2 =>
        obtain ⟨mm, p3⟩ := q2
        rw [e2] at h
        have k2 := (rnum_ok e2).2.2.2.1
        dsimp only at h
        split at h
        · cases e3 : rnum L 0 59 (p3 + 1) with
          | error x => rw [e3] at h; cases h
          | ok q3 =>
            obtain ⟨cc, p4⟩ := q3
            rw [e3] at h
            have k3 := (rnum_ok e3).2.2.2.1
            unfold rfin at h
            cases h
            omega
        · unfold rfin at h
          cases h
          omega
    · unfold rfin at h
      cases h
      omega
theorem rday_len {L : Nat → Int} {d : Int × Int × Int × Int} {p q : Nat} (h : rday L p = .ok (d, q)) : q ≤ p + 12 := by
  unfold rday at h
  split at h
  · cases e1 : rnum L 1 12 (p + 1) with
    | error x => rw [e1] at h; cases h
    | ok q1 =>
      obtain ⟨a', p2⟩ := q1
      have k1 := (rnum_ok e1).2.2.2.1
      rw [e1] at h
      dsimp only at h
      split at h
      · cases e2 : rnum L 1 5 (p2 + 1) with
        | error x => rw [e2] at h; cases h
        | ok q2 =>
          obtain ⟨b', p3⟩ := q2
          have k2 := (rnum_ok e2).2.2.2.1
          rw [e2] at h
          dsimp only at h
          split at h
          · cases e3 : rnum L 0 6 (p3 + 1) with
            | error x => rw [e3] at h; cases h
            | ok q3 =>
              obtain ⟨c', p4⟩ := q3
              have k3 := (rnum_ok e3).2.2.2.1
              rw [e3] at h
              cases h
              omega
          · cases h
      · cases h
  · split at h
    · cases e1 : rnum L 1 365 (p + 1) with
      | error x => rw [e1] at h; cases h
      | ok q1 =>
        obtain ⟨a', p2⟩ := q1
        have k1 := (rnum_ok e1).2.2.2.1
        rw [e1] at h
        cases h
        omega
    · cases e1 : rnum L 0 365 p with
      | error x => rw [e1] at h; cases h
      | ok q1 =>
        obtain ⟨a', p2⟩ := q1
        have k1 := (rnum_ok e1).2.2.2.1
        rw [e1] at h
        cases h
        omega
theorem redge_len {L : Nat → Int} {wide : Bool} {d : Int × Int × Int × Int} {tm : Int} {wf : Bool} {p q : Nat} (h : redge L wide p = .ok (d, tm, wf, q)) : q ≤ p + 26 := by
  unfold redge at h
  split at h
  · cases e1 : rday L (p + 1) with
    | error x => rw [e1] at h; cases h
    | ok q1 =>
      obtain ⟨d', p2⟩ := q1
      have k1 := rday_len e1
      rw [e1] at h
      dsimp only at h
      split at h
      · cases e2 : ramt L wide (if wide then 167 else 24) (p2 + 1) with
        | error x => rw [e2] at h; cases h
        | ok q2 =>
          obtain ⟨v, w', p3⟩ := q2
          have k2 := ramt_len e2
          rw [e2] at h
          cases h
          omega
      · cases h
        omega
  · cases h
theorem rsoff_ok {L : Nat → Int} {so v : Int} {p q : Nat} (h : rsoff L so p = .ok (v, q)) (h1 : -89999 ≤ so) (h2 : so ≤ 89999) : q ≤ p + 12 ∧ p ≤ q ∧ -100000 ≤ v ∧ v ≤ 100000 := by
  unfold rsoff at h
  split at h
  · cases e : ramt L true 24 p with
    | error x => rw [e] at h; cases h
    | ok q1 =>
      obtain ⟨v', w', p'⟩ := q1
      have k1 := ramt_len e
      have k2 := ramt_ok e
      rw [e] at h
      cases h
      omega
  · cases h
    omega
/-- what a good rule text keeps to -/
def tOK (L : Nat → Int) (p E : Nat) (r : RT) : Prop := E ≤ p + 100 ∧ (3 ≤ r.2.1 ∧ r.2.1 ≤ 10 ∧ p ≤ r.1 ∧ r.1 + r.2.1 ≤ E ∧ ∀ k, k < r.2.1 → nmb (L (r.1 + k))) ∧ -89999 ≤ r.2.2.1 ∧ r.2.2.1 ≤ 89999 ∧
  match r.2.2.2 with
  | none => True
  | some (up, us, uo, d1, t1, d2, t2, _) => (3 ≤ us ∧ us ≤ 10 ∧ p ≤ up ∧ up + us ≤ E ∧ ∀ k, k < us → nmb (L (up + k))) ∧ -100000 ≤ uo ∧ uo ≤ 100000 ∧ EOK (bET r.2.2.1 d1 t1) ∧ EOK (bET uo d2 t2)
theorem rtext_ok {T : Nat → Int32} {E p : Nat} {wide : Bool} {r : RT} (h : rtext (LL T E) wide p E = .ok r) : tOK (LL T E) p E r := by
  unfold rtext at h
  cases e1 : rname (LL T E) p with
  | error x => rw [e1] at h; cases h
  | ok q1 =>
    obtain ⟨sp, ss, p1⟩ := q1
    have k1 := rname_ok e1
    have l1 := rname_len e1
    rw [e1] at h
    dsimp only at h
    cases e2 : ramt (LL T E) true 24 p1 with
    | error x => rw [e2] at h; cases h
    | ok q2 =>
      obtain ⟨so, w0, p2⟩ := q2
      have k2 := ramt_ok e2
      have l2 := ramt_len e2
      rw [e2] at h
      dsimp only at h
      split at h
      · cases h
        unfold tOK
        dsimp only
        exact ⟨by omega, ⟨k1.1, k1.2.1, k1.2.2.1, by omega, k1.2.2.2.2.2⟩, by omega, by omega, trivial⟩
      · cases e3 : rname (LL T E) p2 with
        | error x => rw [e3] at h; cases h
        | ok q3 =>
          obtain ⟨up, us, p3⟩ := q3
          have k3 := rname_ok e3
          have l3 := rname_len e3
          rw [e3] at h
          dsimp only at h
          cases e4 : rsoff (LL T E) (-so) p3 with
          | error x => rw [e4] at h; cases h
          | ok q4 =>
            obtain ⟨uo, p4⟩ := q4
            have k4 := rsoff_ok e4 (by omega) (by omega)
            rw [e4] at h
            dsimp only at h
            cases e5 : redge (LL T E) wide p4 with
            | error x => rw [e5] at h; cases h
            | ok q5 =>
              obtain ⟨⟨a1, b1, c1, f1⟩, t1, w1, p5⟩ := q5
              have k5 := redge_ok e5
              have l5 := redge_len e5
              rw [e5] at h
              dsimp only at h
              cases e6 : redge (LL T E) wide p5 with
              | error x => rw [e6] at h; cases h
              | ok q6 =>
                obtain ⟨⟨a2, b2, c2, f2⟩, t2, w2, p6⟩ := q6
                have k6 := redge_ok e6
                have l6 := redge_len e6
                rw [e6] at h
                dsimp only at h
                split at h
                · cases h
                  unfold tOK
                  dsimp only
                  refine ⟨by omega, ⟨k1.1, k1.2.1, k1.2.2.1, by omega, k1.2.2.2.2.2⟩, by omega, by omega, ⟨k3.1, k3.2.1, by omega, by omega, k3.2.2.2.2.2⟩, k4.2.2.1, k4.2.2.2, ?_, ?_⟩
                  · unfold EOK bET
                    exact ⟨k5.2.2.1, k5.2.2.2.1, k5.2.2.2.2, by dsimp only; omega, by dsimp only; omega⟩
                  · unfold EOK bET
                    exact ⟨k6.2.2.1, k6.2.2.2.1, k6.2.2.2.2, by dsimp only; omega, by dsimp only; omega⟩
                · cases h
theorem LLv {T : Nat → Int32} {E k : Nat} (h : k < E) : ii (LL T E k) = T k := by
  unfold LL
  rw [if_pos h]
  exact Int32.ofInt_toInt (T k)
