/-! ===== a rule text that starts elsewhere ===== -/
def shE {α : Type} (s : Nat) (f : α → α) : Except Nat α → Except Nat α
  | .error x => .error (s + x)
  | .ok a => .ok (f a)
theorem shE_ite {α : Type} (s : Nat) (f : α → α) {c : Prop} [Decidable c] (a b : Except Nat α) : shE s f (if c then a else b) = if c then shE s f a else shE s f b := by
  by_cases h : c
  · rw [if_pos h, if_pos h]
  · rw [if_neg h, if_neg h]
def sg2 (s : Nat) (a : Int × Nat) : Int × Nat := (a.1, s + a.2)
def sg3 (s : Nat) (a : Nat × Nat × Nat) : Nat × Nat × Nat := (s + a.1, a.2.1, s + a.2.2)
def sgA (s : Nat) (a : Int × Bool × Nat) : Int × Bool × Nat := (a.1, a.2.1, s + a.2.2)
def sgD (s : Nat) (a : (Int × Int × Int × Int) × Nat) : (Int × Int × Int × Int) × Nat := (a.1, s + a.2)
def sgE (s : Nat) (a : (Int × Int × Int × Int) × Int × Bool × Nat) : (Int × Int × Int × Int) × Int × Bool × Nat := (a.1, a.2.1, a.2.2.1, s + a.2.2.2)
def sgT (s : Nat) (a : RT) : RT := (s + a.1, a.2.1, a.2.2.1, a.2.2.2.map fun y => (s + y.1, y.2))
section
variable {L L' : Nat → Int} {s : Nat}
theorem rnum_sh (hL : ∀ k, L' k = L (s + k)) (lo hi : Int) (p : Nat) : rnum L lo hi (s + p) = shE s (sg2 s) (rnum L' lo hi p) := by
  unfold rnum rchk
  simp only [hL, Nat.add_assoc, shE_ite]
  rfl
theorem cntq_sh (hL : ∀ k, L' k = L (s + k)) (q : Bool) : ∀ (n p : Nat), cntq q L n (s + p) = cntq q L' n p := by
  intro n
  induction n with
  | zero => intro p; rfl
  | succ n ih =>
    intro p
    unfold cntq
    rw [hL, Nat.add_assoc, ih (p + 1)]
theorem rname_sh (hL : ∀ k, L' k = L (s + k)) (p : Nat) : rname L (s + p) = shE s (sg3 s) (rname L' p) := by
  unfold rname
  rw [Nat.add_assoc s p 1, cntq_sh hL, cntq_sh hL]
  simp only [hL, Nat.add_assoc, shE_ite]
  rfl
theorem ramt_sh (hL : ∀ k, L' k = L (s + k)) (sg : Bool) (most : Int) (p : Nat) : ramt L sg most (s + p) = shE s (sgA s) (ramt L' sg most p) := by
  have es : sgn L sg (s + p) = sgn L' sg p := by unfold sgn; rw [hL]
  have ef : ∀ h m t q, rfin L sg (s + p) h m t (s + q) = sgA s (rfin L' sg p h m t q) := by
    intro h m t q
    unfold rfin sgA
    rw [es, hL]
  have e0 : (if sgn L' sg p = true then s + p + 1 else s + p) = s + (if sgn L' sg p = true then p + 1 else p) := by
    by_cases c : sgn L' sg p = true
    · rw [if_pos c, if_pos c, Nat.add_assoc]
    · rw [if_neg c, if_neg c]
  unfold ramt
  rw [es, e0, rnum_sh hL]
  cases rnum L' 0 most (if sgn L' sg p = true then p + 1 else p) with
  | error x => rfl
  | ok r =>
    obtain ⟨h, p2⟩ := r
    show (if L (s + p2) = 58 then _ else _) = _
    dsimp only
    rw [← hL]
    by_cases c : L' p2 = 58
    · rw [if_pos c, if_pos c]
      show (match rnum L 0 59 (s + p2 + 1) with | .error x => _ | .ok (m, p3) => _) = _
      rw [Nat.add_assoc, rnum_sh hL]
      cases rnum L' 0 59 (p2 + 1) with
      | error x => rfl
      | ok r =>
        obtain ⟨m, p3⟩ := r
        show (if L (s + p3) = 58 then _ else _) = _
        dsimp only
        rw [← hL]
        by_cases c3 : L' p3 = 58
        · rw [if_pos c3, if_pos c3]
          show (match rnum L 0 59 (s + p3 + 1) with | .error x => _ | .ok (m, p3) => _) = _
          rw [Nat.add_assoc, rnum_sh hL]
          cases rnum L' 0 59 (p3 + 1) with
          | error x => rfl
          | ok r =>
            obtain ⟨t, p4⟩ := r
            exact congrArg Except.ok (ef h m t p4)
        · rw [if_neg c3, if_neg c3]
          exact congrArg Except.ok (ef h m 0 p3)
    · rw [if_neg c, if_neg c]
      exact congrArg Except.ok (ef h 0 0 p2)
theorem rday_sh (hL : ∀ k, L' k = L (s + k)) (p : Nat) : rday L (s + p) = shE s (sgD s) (rday L' p) := by
  unfold rday
  rw [← hL]
  by_cases c : L' p = 77
  · rw [if_pos c, if_pos c, Nat.add_assoc, rnum_sh hL]
    cases rnum L' 1 12 (p + 1) with
    | error x => rfl
    | ok r =>
      obtain ⟨a, p2⟩ := r
      show (if L (s + p2) = 46 then _ else _) = _
      dsimp only
      rw [← hL]
      by_cases c2 : L' p2 = 46
      · rw [if_pos c2, if_pos c2]
        show (match rnum L 1 5 (s + p2 + 1) with | .error x => _ | .ok (m, p3) => _) = _
        rw [Nat.add_assoc, rnum_sh hL]
        cases rnum L' 1 5 (p2 + 1) with
        | error x => rfl
        | ok r =>
          obtain ⟨b, p3⟩ := r
          show (if L (s + p3) = 46 then _ else _) = _
          dsimp only
          rw [← hL]
          by_cases c3 : L' p3 = 46
          · rw [if_pos c3, if_pos c3]
            show (match rnum L 0 6 (s + p3 + 1) with | .error x => _ | .ok (m, p3) => _) = _
            rw [Nat.add_assoc, rnum_sh hL]
            cases rnum L' 0 6 (p3 + 1) with
            | error x => rfl
            | ok r => rfl
          · rw [if_neg c3, if_neg c3]
            rfl
      · rw [if_neg c2, if_neg c2]
        rfl
  · rw [if_neg c, if_neg c]
    by_cases c2 : L' p = 74
    · rw [if_pos c2, if_pos c2, Nat.add_assoc, rnum_sh hL]
      cases rnum L' 1 365 (p + 1) with
      | error x => rfl
      | ok r => rfl
    · rw [if_neg c2, if_neg c2, rnum_sh hL]
      cases rnum L' 0 365 p with
      | error x => rfl
      | ok r => rfl
theorem redge_sh (hL : ∀ k, L' k = L (s + k)) (wide : Bool) (p : Nat) : redge L wide (s + p) = shE s (sgE s) (redge L' wide p) := by
  unfold redge
  rw [← hL]
  by_cases c : L' p = 44
  · rw [if_pos c, if_pos c, Nat.add_assoc, rday_sh hL]
    cases rday L' (p + 1) with
    | error x => rfl
    | ok r =>
      obtain ⟨d, p2⟩ := r
      show (if L (s + p2) = 47 then _ else _) = _
      dsimp only
      rw [← hL]
      by_cases c2 : L' p2 = 47
      · rw [if_pos c2, if_pos c2]
        show (match ramt L wide (if wide = true then 167 else 24) (s + p2 + 1) with | .error x => _ | .ok (t, w, p3) => _) = _
        rw [Nat.add_assoc, ramt_sh hL]
        cases ramt L' wide (if wide = true then 167 else 24) (p2 + 1) with
        | error x => rfl
        | ok r => rfl
      · rw [if_neg c2, if_neg c2]
        rfl
  · rw [if_neg c, if_neg c]
    rfl
theorem rsoff_sh (hL : ∀ k, L' k = L (s + k)) (so : Int) (p : Nat) : rsoff L so (s + p) = shE s (sg2 s) (rsoff L' so p) := by
  unfold rsoff
  rw [← hL]
  by_cases c : L' p = 43 ∨ L' p = 45 ∨ dig (L' p)
  · rw [if_pos c, if_pos c, ramt_sh hL]
    cases ramt L' true 24 p with
    | error x => rfl
    | ok r => rfl
  · rw [if_neg c, if_neg c]
    rfl
theorem rtext_sh (hL : ∀ k, L' k = L (s + k)) (wide : Bool) (p E : Nat) : rtext L wide (s + p) (s + E) = shE s (sgT s) (rtext L' wide p E) := by
  unfold rtext
  rw [rname_sh hL]
  cases rname L' p with
  | error x => rfl
  | ok r =>
    obtain ⟨sp, ss, p1⟩ := r
    show (match ramt L true 24 (s + p1) with | .error x => _ | .ok (so, _, p2) => _) = _
    rw [ramt_sh hL]
    dsimp only
    cases ramt L' true 24 p1 with
    | error x => rfl
    | ok r =>
      obtain ⟨so, w0, p2⟩ := r
      show (if s + E ≤ s + p2 then _ else _) = _
      dsimp only
      by_cases c : E ≤ p2
      · rw [if_pos c, if_pos (by omega)]
        rfl
      · rw [if_neg c, if_neg (by omega)]
        show (match rname L (s + p2) with | .error x => _ | .ok (up, us, p3) => _) = _
        rw [rname_sh hL]
        cases rname L' p2 with
        | error x => rfl
        | ok r =>
          obtain ⟨up, us, p3⟩ := r
          show (match rsoff L (-so) (s + p3) with | .error x => _ | .ok (uo, p4) => _) = _
          rw [rsoff_sh hL]
          dsimp only
          cases rsoff L' (-so) p3 with
          | error x => rfl
          | ok r =>
            obtain ⟨uo, p4⟩ := r
            show (match redge L wide (s + p4) with | .error x => _ | .ok (d1, t1, w1, p5) => _) = _
            rw [redge_sh hL]
            dsimp only
            cases redge L' wide p4 with
            | error x => rfl
            | ok r =>
              obtain ⟨d1, t1, w1, p5⟩ := r
              show (match redge L wide (s + p5) with | .error x => _ | .ok (d2, t2, w2, p6) => _) = _
              rw [redge_sh hL]
              dsimp only
              cases redge L' wide p5 with
              | error x => rfl
              | ok r =>
                obtain ⟨d2, t2, w2, p6⟩ := r
                show (if s + E ≤ s + p6 then _ else _) = _
                dsimp only
                by_cases c2 : E ≤ p6
                · rw [if_pos c2, if_pos (by omega)]
                  rfl
                · rw [if_neg c2, if_neg (by omega)]
                  rfl
end
theorem LL_sh {T : Nat → Int32} {st E : Nat} (h : st ≤ E) (k : Nat) : LL (fun k => T (st + k)) (E - st) k = LL T E (st + k) := by
  unfold LL
  by_cases c : st + k < E
  · rw [if_pos c, if_pos (by omega)]
  · rw [if_neg c, if_neg (by omega)]
/-- a good text, seen from its own start -/
theorem rtext_own {T : Nat → Int32} {st E : Nat} (h : st ≤ E) {wide : Bool} {sp ss : Nat} {so : Int} {x : Option XT2} (e : rtext (LL T E) wide st E = .ok (sp, ss, so, x)) : ∃ (sp' : Nat) (x' : Option XT2), rtext (LL (fun k => T (st + k)) (E - st)) wide 0 (E - st) = .ok (sp', ss, so, x') ∧ sp = st + sp' ∧ x = x'.map fun y => (st + y.1, y.2) := by
  have q := rtext_sh (L := LL T E) (L' := LL (fun k => T (st + k)) (E - st)) (s := st) (fun k => LL_sh h k) wide 0 (E - st)
  rw [show st + 0 = st by omega, show st + (E - st) = E by omega, e] at q
  cases er : rtext (LL (fun k => T (st + k)) (E - st)) wide 0 (E - st) with
  | error y =>
    rw [er] at q
    cases q
  | ok r =>
    rw [er] at q
    obtain ⟨sp', ss', so', x'⟩ := r
    have q' : (Except.ok (sp, ss, so, x) : Except Nat RT) = Except.ok (st + sp', ss', so', x'.map fun y => (st + y.1, y.2)) := q
    cases q'
    exact ⟨sp', x', rfl, rfl, rfl⟩
