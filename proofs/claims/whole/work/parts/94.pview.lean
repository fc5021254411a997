/-! ===== what a zone has at an instant ===== -/
def suB (b e : ET) (v : Int) : Bool := decide (ev e (ly e v) ≤ ev b (ly b v))
/-- states: a type's number, -1 standard, -2 summer; -3 (nothing) isn't among these -/
def vg (t r : Nat) (hs : Bool) (g : Int) : Prop := (0 ≤ g ∧ g < (t : Int)) ∨ (0 < r ∧ g = -1) ∨ (0 < r ∧ hs = true ∧ g = -2)
def VT (z : ZS) (sa : Nat → Nat → Int32) (sb : Nat → Nat → Int64) (i n t : Nat) (tm : Nat → Int) (tt : Nat → Nat) : Prop :=
  i < 5 ∧ n ≤ 200 ∧ 1 ≤ t ∧ t ≤ 40 ∧ z.2.1 = ii (n : Int) ∧ sa 5 i = ii (n : Int) ∧ z.2.2.1 = ii (t : Int) ∧ sa 6 i = ii (t : Int) ∧ ZTim z sa sb i n t tm tt
def VR (z : ZS) (sa : Nat → Nat → Int32) (i r : Nat) (hs : Bool) (b e : ET) : Prop :=
  z.2.2.2.2.2.2.2.2.2.2.2.2.2.2.2.2.2.2.2.2.2.2.2.2.2.2.2.1 = ii (r : Int) ∧ r ≤ 128 ∧ ((r = 0 ∧ sa 23 i = 0 ∧ z.2.2.2.2.2.2.2.2.2.2.2.2.2.2.2.2.2.2.1 = 0 ∧ hs = false) ∨ (0 < r ∧ hs = false ∧ sa 23 i = 1 ∧ z.2.2.2.2.2.2.2.2.2.2.2.2.2.2.2.2.2.2.1 = 0) ∨ (0 < r ∧ hs = true ∧ sa 23 i = 2 ∧ z.2.2.2.2.2.2.2.2.2.2.2.2.2.2.2.2.2.2.1 = 1 ∧ REc z.2.2.2.2.2.2.2.2.2.2.2.2.2.2.2.2.2.2.2.2.2.2.2.2.2.2.2.2.2.2.1 z.2.2.2.2.2.2.2.2.2.2.2.2.2.2.2.2.2.2.2.2.2.2.2.2.2.2.2.2.2.2.2.1 z.2.2.2.2.2.2.2.2.2.2.2.2.2.2.2.2.2.2.2.2.2.2.2.2.2.2.2.2.2.2.2.2.1 z.2.2.2.2.2.2.2.2.2.2.2.2.2.2.2.2.2.2.2.2.2.2.2.2.2.2.2.2.2.2.2.2.2.1 z.2.2.2.2.2.2.2.2.2.2.2.2.2.2.2.2.2.2.2.2.2.2.2.2.2.2.2.2.2.2.2.2.2.2.1 z.2.2.2.2.2.2.2.2.2.2.2.2.2.2.2.2.2.2.2.2.2.2.2.2.2.2.2.2.2.2.2.2.2.2.2.1 b ∧ REc z.2.2.2.2.2.2.2.2.2.2.2.2.2.2.2.2.2.2.2.2.2.2.2.2.2.2.2.2.2.2.2.2.2.2.2.2.1 z.2.2.2.2.2.2.2.2.2.2.2.2.2.2.2.2.2.2.2.2.2.2.2.2.2.2.2.2.2.2.2.2.2.2.2.2.2.1 z.2.2.2.2.2.2.2.2.2.2.2.2.2.2.2.2.2.2.2.2.2.2.2.2.2.2.2.2.2.2.2.2.2.2.2.2.2.2.1 z.2.2.2.2.2.2.2.2.2.2.2.2.2.2.2.2.2.2.2.2.2.2.2.2.2.2.2.2.2.2.2.2.2.2.2.2.2.2.2.1 z.2.2.2.2.2.2.2.2.2.2.2.2.2.2.2.2.2.2.2.2.2.2.2.2.2.2.2.2.2.2.2.2.2.2.2.2.2.2.2.2.1 z.2.2.2.2.2.2.2.2.2.2.2.2.2.2.2.2.2.2.2.2.2.2.2.2.2.2.2.2.2.2.2.2.2.2.2.2.2.2.2.2.2 e ∧ REb sa i b e))
/-- the class, of a state -/
def VC (z : ZS) (O D : Int → Int) (Z : Int → Nat) (B : Int → Nat → Int32) (g : Int) : Prop :=
  ∀ nf, 10000 ≤ nf → f_Zone_offsetOf nf (ii g) z.2.2.1 z.2.2.2.2.2.2.2.2.1 z.2.2.2.2.2.2.2.2.2.2.2.2.2.2.2.2.2.2.2.2.1 z.2.2.2.2.2.2.2.2.2.2.2.2.2.2.2.2.2.2.2.2.2.1 = some (ii (O g)) ∧ f_Zone_dstOf nf (ii g) z.2.2.1 z.2.2.2.2.2.2.2.2.2.1 = some (ii (D g)) ∧ f_Zone_nameSize nf (ii g) z.2.2.1 z.2.2.2.2.2.2.2.2.2.2.1 z.2.2.2.2.2.2.2.2.2.2.2.2.2.1 z.2.2.2.2.2.2.2.2.2.2.2.2.2.2.1 z.2.2.2.2.2.2.2.2.2.2.2.2.2.2.2.1 z.2.2.2.2.2.2.2.2.2.2.2.2.2.2.2.2.2.2.2.2.2.2.2.1 z.2.2.2.2.2.2.2.2.2.2.2.2.2.2.2.2.2.2.2.2.2.2.2.2.2.1 = some (ii (Z g : Int)) ∧ ∀ k, k < Z g → f_Zone_nameByte nf (ii g) (ii (k : Int)) z.2.2.1 z.2.2.2.2.2.2.2.2.2.2.1 z.2.2.2.2.2.2.2.2.2.2.2.2.2.1 z.2.2.2.2.2.2.2.2.2.2.2.2.2.2.1 z.2.2.2.2.2.2.2.2.2.2.2.2.2.2.2.1 z.2.2.2.2.2.2.2.2.2.2.2.2.2.2.2.2.2.2.2.2.2.2.1 z.2.2.2.2.2.2.2.2.2.2.2.2.2.2.2.2.2.2.2.2.2.2.2.2.1 z.2.2.2.2.2.2.2.2.2.2.2.2.2.2.2.2.2.2.2.2.2.2.2.2.2.2.2.1 z.2.2.2.2.2.2.2.2.2.2.2.2.2.2.2.2.2.2.2.2.2.2.2.2.2.2.2.2.1 z.2.2.2.2.2.2.2.2.2.2.2.2.2.2.2.2.2.2.2.2.2.2.2.2.2.2.2.2.2.1 = some (B g k)
/-- the reference, of a type -/
def VM (sa : Nat → Nat → Int32) (i : Nat) (O D : Int → Int) (Z : Int → Nat) (B : Int → Nat → Int32) (g : Nat) : Prop :=
  sa 14 (40 * i + g) = ii (O g) ∧ sa 15 (40 * i + g) = ii (D g) ∧ ∃ x c : Nat, sa 16 (40 * i + g) = ii (x : Int) ∧ sa 7 i = ii (c : Int) ∧ c ≤ 200 ∧ x + Z g < c ∧ NZ (fun k => sa 17 (200 * i + k)) c x (Z g) ∧ ∀ k, k < Z g → sa 17 (200 * i + (x + k)) = B g k
/-- the reference, of the rule's -/
def VW (sa : Nat → Nat → Int32) (i : Nat) (O D : Int → Int) (Z : Int → Nat) (B : Int → Nat → Int32) (w : Nat) (g : Int) : Prop :=
  sa 24 (2 * i + w) = ii (O g) ∧ D g = w ∧ sa 25 (2 * i + w) = ii (Z g : Int) ∧ ∀ k, k < Z g → sa 26 (20 * i + 10 * w + k) = B g k
def VN (z : ZS) (sa : Nat → Nat → Int32) (i t r : Nat) (hs : Bool) (O D : Int → Int) (Z : Int → Nat) (B : Int → Nat → Int32) : Prop :=
  (∀ g, vg t r hs g → -100000 ≤ O g ∧ O g ≤ 100000 ∧ (D g = 0 ∨ D g = 1) ∧ 3 ≤ Z g ∧ Z g ≤ 10 ∧ VC z O D Z B g) ∧ (∀ g : Nat, g < t → VM sa i O D Z B g) ∧ (0 < r → VW sa i O D Z B 0 (-1)) ∧ (0 < r → hs = true → VW sa i O D Z B 1 (-2))
def ZV (z : ZS) (sa : Nat → Nat → Int32) (sb : Nat → Nat → Int64) (i n t r : Nat) (tm : Nat → Int) (tt : Nat → Nat) (hs : Bool) (b e : ET) (O D : Int → Int) (Z : Int → Nat) (B : Int → Nat → Int32) : Prop := VT z sa sb i n t tm tt ∧ VR z sa i r hs b e ∧ VN z sa i t r hs O D Z B
/-- rows that the queries use for themselves -/
def frA (sa sa' : Nat → Nat → Int32) : Prop := ∀ a, a ≠ 48 → a ≠ 53 → sa' a = sa a
theorem frA.rf {sa : Nat → Nat → Int32} : frA sa sa := fun _ _ _ => rfl
theorem frA.tr {sa sa' sa'' : Nat → Nat → Int32} (h : frA sa sa') (g : frA sa' sa'') : frA sa sa'' := fun a h1 h2 => (g a h1 h2).trans (h a h1 h2)
section
variable {z : ZS} {sa sa' : Nat → Nat → Int32} {sb : Nat → Nat → Int64} {i n t r : Nat} {tm : Nat → Int} {tt : Nat → Nat} {hs : Bool} {b e : ET} {O D : Int → Int} {Z : Int → Nat} {B : Int → Nat → Int32}
theorem VM.fr {g : Nat} (h : VM sa i O D Z B g) (f : frA sa sa') : VM sa' i O D Z B g := by
  unfold VM at *
  rw [f 14 (by decide) (by decide), f 15 (by decide) (by decide), f 16 (by decide) (by decide), f 7 (by decide) (by decide), f 17 (by decide) (by decide)]
  exact h
theorem VW.fr {w : Nat} {g : Int} (h : VW sa i O D Z B w g) (f : frA sa sa') : VW sa' i O D Z B w g := by
  unfold VW at *
  rw [f 24 (by decide) (by decide), f 25 (by decide) (by decide), f 26 (by decide) (by decide)]
  exact h
theorem REm.frA {j : Nat} {e : ET} (h : REm sa j e) (f : frA sa sa') : REm sa' j e := h.congr (fun a ha => by rw [f a (by omega) (by omega)])
theorem ZV.fr (h : ZV z sa sb i n t r tm tt hs b e O D Z B) (f : frA sa sa') : ZV z sa' sb i n t r tm tt hs b e O D Z B := by
  obtain ⟨⟨v1, v2, v3, v4, v5, v6, v7, v8, v9, v10⟩, ⟨r1, r2, r3⟩, ⟨n1, n2, n3, n4⟩⟩ := h
  refine ⟨⟨v1, v2, v3, v4, v5, by rw [f 5 (by decide) (by decide)]; exact v6, v7, by rw [f 6 (by decide) (by decide)]; exact v8, fun k hk => ?_, v10⟩, ⟨r1, r2, ?_⟩, n1, fun g hg => (n2 g hg).fr f, fun hr => (n3 hr).fr f, fun hr hh => (n4 hr hh).fr f⟩
  · rw [f 13 (by decide) (by decide)]
    exact v9 k hk
  · rw [f 23 (by decide) (by decide)]
    rcases r3 with q | q | ⟨q1, q2, q3, q4, q5, q6, q7, q8, q9⟩
    · exact Or.inl q
    · exact Or.inr (Or.inl q)
    · exact Or.inr (Or.inr ⟨q1, q2, q3, q4, q5, q6, q7.frA f, q8.frA f, q9⟩)
end
/-! from the relation -/
section
variable {z : ZS} {sa : Nat → Nat → Int32} {sb : Nat → Nat → Int64} {i : Nat}
theorem iigt {t : Nat} {g : Nat} (ht : t ≤ 40) (hg : g < t) : ¬ ii (g : Int) < 0 ∧ ¬ ii (t : Int) ≤ ii (g : Int) ∧ (ii (g : Int)).toNatClampNeg = g ∧ ¬ (ii (g : Int) < 0 ∨ 40 ≤ g) := by
  refine ⟨?_, ?_, ?_, ?_⟩
  · rw [ii_lit, ii_lt (by omega) (by omega) (by omega) (by omega)]; omega
  · rw [ii_le (by omega) (by omega) (by omega) (by omega)]; omega
  · rw [ii_nat (by omega) (by omega)]; omega
  · rw [ii_lit, ii_lt (by omega) (by omega) (by omega) (by omega)]; omega
theorem vc_type {t c : Nat} {of ds : Nat → Int} {ix sz : Nat → Nat} {Tc : Nat → Int32} {O D : Int → Int} {Z : Int → Nat} {B : Int → Nat → Int32} (hty : z.2.2.1 = ii (t : Int)) (ht : t ≤ 40) (hb : RB z.2.2.2.2.2.2.2.2.2.2.2.2.2.1 z.2.2.2.2.2.2.2.2.2.2.2.2.2.2.1 z.2.2.2.2.2.2.2.2.2.2.2.2.2.2.2.1 c Tc) (hc : c ≤ 200) {g : Nat} (hg : g < t) (h1 : z.2.2.2.2.2.2.2.2.1 g = ii (of g)) (h2 : z.2.2.2.2.2.2.2.2.2.1 g = ii (ds g)) (h3 : z.2.2.2.2.2.2.2.2.2.2.1 g = ii (ix g : Int)) (h4 : nam0 Tc c (ix g) (sz g)) (hO : O g = of g) (hD : D g = ds g) (hZ : Z g = sz g) (hB : ∀ k, k < sz g → B g k = Tc (ix g + k)) : VC z O D Z B g := by
  intro nf hnf
  obtain ⟨q1, q2, q3, q4⟩ := iigt ht hg
  refine ⟨?_, ?_, ?_, fun k hk => ?_⟩
  · unfold f_Zone_offsetOf f_Zone_offsetOf_0 f_Zone_offsetOf_22
    rw [hty, if_neg q1, if_neg q2, q3, if_neg q4, h1, hO]
  · unfold f_Zone_dstOf f_Zone_dstOf_0 f_Zone_dstOf_22
    rw [hty, if_neg q1, if_neg q2, q3, if_neg q4, h2, hD]
  · rw [hZ]
    exact cnameSize hnf hb (by omega) hty hg ht h3 h4.nz
  · rw [hZ] at hk
    have := h4.2.2.1
    unfold f_Zone_nameByte f_Zone_nameByte_0 f_Zone_nameByte_31
    rw [hty, if_neg q1, if_neg q2, q3, if_neg q4, h3, ii_add, show ((ix g : Int) + (k : Int)) = ((ix g + k : Nat) : Int) by omega, hb.get (by omega), hB k hk]
    rfl
theorem vc_rule {t r p s : Nat} {Tx : Nat → Int32} {O D : Int → Int} {Z : Int → Nat} {B : Int → Nat → Int32} (w : Bool) {so : Int} (hty : z.2.2.1 = ii (t : Int)) (ht : t ≤ 40) (hb : RB z.2.2.2.2.2.2.2.2.2.2.2.2.2.2.2.2.2.2.2.2.2.2.2.2.2.2.2.1 z.2.2.2.2.2.2.2.2.2.2.2.2.2.2.2.2.2.2.2.2.2.2.2.2.2.2.2.2.1 z.2.2.2.2.2.2.2.2.2.2.2.2.2.2.2.2.2.2.2.2.2.2.2.2.2.2.2.2.2.1 r Tx) (hr : r ≤ 128) (hp : p + s ≤ r) (h1 : (if w then z.2.2.2.2.2.2.2.2.2.2.2.2.2.2.2.2.2.2.2.2.2.1 else z.2.2.2.2.2.2.2.2.2.2.2.2.2.2.2.2.2.2.2.2.1) = ii so) (h2 : (if w then z.2.2.2.2.2.2.2.2.2.2.2.2.2.2.2.2.2.2.2.2.2.2.2.2.2.1 else z.2.2.2.2.2.2.2.2.2.2.2.2.2.2.2.2.2.2.2.2.2.2.2.1) = ii (s : Int)) (h3 : (if w then z.2.2.2.2.2.2.2.2.2.2.2.2.2.2.2.2.2.2.2.2.2.2.2.2.1 else z.2.2.2.2.2.2.2.2.2.2.2.2.2.2.2.2.2.2.2.2.2.2.1) = ii (p : Int)) {g : Int} (hg : g = if w then -2 else -1) (hO : O g = so) (hD : D g = if w then 1 else 0) (hZ : Z g = s) (hB : ∀ k, k < s → B g k = Tx (p + k)) : VC z O D Z B g := by
  intro nf hnf
  rw [hO, hD, hZ]
  cases w with
  | false =>
    simp only [Bool.false_eq_true, if_false] at *
    subst hg
    refine ⟨?_, ?_, ?_, fun k hk => ?_⟩
    · unfold f_Zone_offsetOf f_Zone_offsetOf_0 f_Zone_offsetOf_46
      rw [if_pos (by decide), if_neg (by decide), h1]
    · unfold f_Zone_dstOf f_Zone_dstOf_0 f_Zone_dstOf_34
      rw [if_pos (by decide), if_neg (by decide)]
      rfl
    · rw [← h2]
      exact cnsS hty ht
    · rw [hB k hk]
      exact cnbS hb (by omega) hp h3 k hk _ _ _
  | true =>
    simp only [if_true] at *
    subst hg
    refine ⟨?_, ?_, ?_, fun k hk => ?_⟩
    · unfold f_Zone_offsetOf f_Zone_offsetOf_0 f_Zone_offsetOf_46
      rw [if_pos (by decide), if_pos (by decide), h1]
    · unfold f_Zone_dstOf f_Zone_dstOf_0 f_Zone_dstOf_34
      rw [if_pos (by decide), if_pos (by decide)]
      rfl
    · rw [← h2]
      exact cnsU hty ht
    · rw [hB k hk]
      exact cnbU hb (by omega) hp h3 k hk _ _ _
def vO (of : Nat → Int) (so uo : Int) (g : Int) : Int := if 0 ≤ g then of g.toNat else if g = -2 then uo else so
def vD (ds : Nat → Int) (g : Int) : Int := if 0 ≤ g then ds g.toNat else if g = -2 then 1 else 0
def vZ (sz : Nat → Nat) (ss us : Nat) (g : Int) : Nat := if 0 ≤ g then sz g.toNat else if g = -2 then us else ss
def vB (Tc Tx : Nat → Int32) (ix : Nat → Nat) (sp up : Nat) (g : Int) (k : Nat) : Int32 := if 0 ≤ g then Tc (ix g.toNat + k) else if g = -2 then Tx (up + k) else Tx (sp + k)
theorem vnat {α : Type} {g : Nat} (a b : α) : (if 0 ≤ (g : Int) then a else b) = a := if_pos (by omega)
theorem RZon.view (hi : i < 5) (h : RZon z sa sb i) : ∃ (n t r : Nat) (tm : Nat → Int) (tt : Nat → Nat) (hs : Bool) (b e : ET) (O D : Int → Int) (Z : Int → Nat) (B : Int → Nat → Int32), ZV z sa sb i n t r tm tt hs b e O D Z B := by
  obtain ⟨n, t, c, l, d, u, r, tm, tt, of, ds, ix, sz, ⟨c1, c2, ⟨c3, c4, c5⟩, ⟨c6, c7, c8, c9⟩, ⟨c10, c11, c12⟩, ⟨c13, c14, c15⟩, ⟨c16, c17, c18⟩, ⟨c19, c20, c21⟩, ⟨c22, c23⟩⟩, h1, h2, h3, h4, _, _, h7⟩ := h
  have typ : ∀ (so uo : Int) (ss us sp up : Nat), ∀ g : Nat, g < t → (-100000 ≤ vO of so uo g ∧ vO of so uo g ≤ 100000 ∧ (vD ds g = 0 ∨ vD ds g = 1) ∧ 3 ≤ vZ sz ss us g ∧ vZ sz ss us g ≤ 10 ∧ VC z (vO of so uo) (vD ds) (vZ sz ss us) (vB (fun k => sa 17 (200 * i + k)) (fun k => sa 22 (128 * i + k)) ix sp up) g) ∧ VM sa i (vO of so uo) (vD ds) (vZ sz ss us) (vB (fun k => sa 17 (200 * i + k)) (fun k => sa 22 (128 * i + k)) ix sp up) g := by
    intro so uo ss us sp up g hg
    obtain ⟨g1, g2, g3, g4, g5, g6, g7, g8, g9, g10⟩ := h4 g hg
    have eO : vO of so uo g = of g := by unfold vO; rw [vnat]; rfl
    have eD : vD ds g = ds g := by unfold vD; rw [vnat]; rfl
    have eZ : vZ sz ss us g = sz g := by unfold vZ; rw [vnat]; rfl
    have eB : ∀ k, vB (fun k => sa 17 (200 * i + k)) (fun k => sa 22 (128 * i + k)) ix sp up g k = sa 17 (200 * i + (ix g + k)) := by intro k; unfold vB; rw [vnat]; rfl
    refine ⟨⟨by omega, by omega, by rw [eD]; exact g7, by rw [eZ]; exact g10.1, by rw [eZ]; exact g10.2.1, vc_type c6 c9 h1 c12 hg g1 g5 g8 g10 eO eD eZ (fun k _ => eB k)⟩, ?_⟩
    unfold VM
    rw [eO, eD, eZ]
    exact ⟨g2, g6, ix g, c, g9, c10, c12, g10.2.2.1, g10.nz, fun k _ => (eB k).symm⟩
  rcases h7 with ⟨q1, q2, q3, _⟩ | ⟨q1, wd, sp, ss, so, x, q2, q3, q4, q5, q6, q7, q8⟩
  · subst q1
    refine ⟨n, t, 0, tm, tt, false, (0, 0, 0, 0, 0, 0), (0, 0, 0, 0, 0, 0), vO of 0 0, vD ds, vZ sz 0 0, vB (fun k => sa 17 (200 * i + k)) (fun k => sa 22 (128 * i + k)) ix 0 0, ⟨hi, c5, c8, c9, c3, c4, c6, c7, h3⟩, ⟨h2.1, by omega, Or.inl ⟨rfl, q2, q3, rfl⟩⟩, ⟨fun g hg => ?_, fun g hg => (typ 0 0 0 0 0 0 g hg).2, fun hr => by omega, fun hr => by omega⟩⟩
    rcases hg with ⟨g1, g2⟩ | ⟨g1, _⟩ | ⟨g1, _⟩
    · obtain ⟨m, rfl⟩ : ∃ m : Nat, g = (m : Int) := ⟨g.toNat, by omega⟩
      exact (typ 0 0 0 0 0 0 m (by omega)).1
    · omega
    · omega
  · obtain ⟨s1, s2, s3, s4, s5, s6, s7⟩ := q3
    match x, q8 with
    | none, ⟨x1, x2, x3⟩ =>
      have std : ∀ g : Int, g = -1 → (-100000 ≤ vO of so 0 g ∧ vO of so 0 g ≤ 100000 ∧ (vD ds g = 0 ∨ vD ds g = 1) ∧ 3 ≤ vZ sz ss 0 g ∧ vZ sz ss 0 g ≤ 10 ∧ VC z (vO of so 0) (vD ds) (vZ sz ss 0) (vB (fun k => sa 17 (200 * i + k)) (fun k => sa 22 (128 * i + k)) ix sp 0) g) := by
        rintro g rfl
        refine ⟨?_, ?_, Or.inl rfl, ?_, ?_, vc_rule false c6 c9 h2 c23 s5 q4 s1 s2 rfl rfl rfl rfl (fun k _ => rfl)⟩
        · show -100000 ≤ so; omega
        · show so ≤ 100000; omega
        · show 3 ≤ ss; omega
        · show ss ≤ 10; omega
      refine ⟨n, t, r, tm, tt, false, (0, 0, 0, 0, 0, 0), (0, 0, 0, 0, 0, 0), vO of so 0, vD ds, vZ sz ss 0, vB (fun k => sa 17 (200 * i + k)) (fun k => sa 22 (128 * i + k)) ix sp 0, ⟨hi, c5, c8, c9, c3, c4, c6, c7, h3⟩, ⟨h2.1, c23, Or.inr (Or.inl ⟨q1, rfl, x2, x1⟩)⟩, ⟨fun g hg => ?_, fun g hg => (typ so 0 ss 0 sp 0 g hg).2, fun hr => ⟨q5, rfl, s6, fun k hk => (s7 k hk).1⟩, fun hr hh => by cases hh⟩⟩
      rcases hg with ⟨g1, g2⟩ | ⟨_, g1⟩ | ⟨_, g1, _⟩
      · obtain ⟨m, rfl⟩ : ∃ m : Nat, g = (m : Int) := ⟨g.toNat, by omega⟩
        exact (typ so 0 ss 0 sp 0 m (by omega)).1
      · exact std g g1
      · cases g1
    | some (up, us, uo, d1, t1, d2, t2, w), ⟨x1, x2, x3, ⟨u1, u2, u3, u4, u5, u6, u7⟩, x5, x6, x7, x8, x9, x10, x11, x12⟩ =>
      have std : ∀ g : Int, g = -1 → (-100000 ≤ vO of so uo g ∧ vO of so uo g ≤ 100000 ∧ (vD ds g = 0 ∨ vD ds g = 1) ∧ 3 ≤ vZ sz ss us g ∧ vZ sz ss us g ≤ 10 ∧ VC z (vO of so uo) (vD ds) (vZ sz ss us) (vB (fun k => sa 17 (200 * i + k)) (fun k => sa 22 (128 * i + k)) ix sp up) g) := by
        rintro g rfl
        refine ⟨?_, ?_, Or.inl rfl, ?_, ?_, vc_rule false c6 c9 h2 c23 s5 q4 s1 s2 rfl rfl rfl rfl (fun k _ => rfl)⟩
        · show -100000 ≤ so; omega
        · show so ≤ 100000; omega
        · show 3 ≤ ss; omega
        · show ss ≤ 10; omega
      have sum : ∀ g : Int, g = -2 → (-100000 ≤ vO of so uo g ∧ vO of so uo g ≤ 100000 ∧ (vD ds g = 0 ∨ vD ds g = 1) ∧ 3 ≤ vZ sz ss us g ∧ vZ sz ss us g ≤ 10 ∧ VC z (vO of so uo) (vD ds) (vZ sz ss us) (vB (fun k => sa 17 (200 * i + k)) (fun k => sa 22 (128 * i + k)) ix sp up) g) := by
        rintro g rfl
        refine ⟨?_, ?_, Or.inr rfl, ?_, ?_, vc_rule true c6 c9 h2 c23 u5 x5 u1 u2 rfl rfl rfl rfl (fun k _ => rfl)⟩
        · show -100000 ≤ uo; omega
        · show uo ≤ 100000; omega
        · show 3 ≤ us; omega
        · show us ≤ 10; omega
      refine ⟨n, t, r, tm, tt, true, bET so d1 t1, bET uo d2 t2, vO of so uo, vD ds, vZ sz ss us, vB (fun k => sa 17 (200 * i + k)) (fun k => sa 22 (128 * i + k)) ix sp up, ⟨hi, c5, c8, c9, c3, c4, c6, c7, h3⟩, ⟨h2.1, c23, Or.inr (Or.inr ⟨q1, rfl, x2, x1, x9, x10, x11⟩)⟩, ⟨fun g hg => ?_, fun g hg => (typ so uo ss us sp up g hg).2, fun hr => ⟨q5, rfl, s6, fun k hk => (s7 k hk).1⟩, fun hr hh => ⟨x6, rfl, u6, fun k hk => (u7 k hk).1⟩⟩⟩
      rcases hg with ⟨g1, g2⟩ | ⟨_, g1⟩ | ⟨_, _, g1⟩
      · obtain ⟨m, rfl⟩ : ∃ m : Nat, g = (m : Int) := ⟨g.toNat, by omega⟩
        exact (typ so uo ss us sp up m (by omega)).1
      · exact std g g1
      · exact sum g g1
end
