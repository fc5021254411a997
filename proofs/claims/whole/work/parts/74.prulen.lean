/-! ===== the reference reads a rule text: names, days, the whole ===== -/
def pq (q : Bool) (x : Int) : Prop := if q then nmb x else ltr x
theorem cntq_is {q : Bool} {L : Nat → Int} {p m : Nat} (h1 : ∀ k, k < m → pq q (L (p + k))) (h2 : ¬ pq q (L (p + m))) (h3 : m ≤ 10) : cntq q L 11 p = m := by
  have a := cntq_le q L 11 p
  have b := cntq_stop q L 11 p
  have c := cntq_all q L 11 p
  generalize cntq q L 11 p = n at *
  by_cases d : n < m
  · exact absurd (h1 n d) (b (by omega))
  · by_cases e : m < n
    · exact absurd (c m e) h2
    · omega
theorem cntq_11 {q : Bool} {L : Nat → Int} {p : Nat} (h1 : ∀ k, k ≤ 10 → pq q (L (p + k))) : cntq q L 11 p = 11 := by
  have a := cntq_le q L 11 p
  have b := cntq_stop q L 11 p
  generalize cntq q L 11 p = n at *
  by_cases d : n < 11
  · exact absurd (h1 n (by omega)) (b d)
  · omega
theorem upd_eq {f : Nat → Int32} {k : Nat} {v : Int32} : upd f k v k = v := if_pos rfl
theorem upd_ne {f : Nat → Int32} {k j : Nat} {v : Int32} (h : j ≠ k) : upd f k v j = f j := if_neg h
/-- one cell of a row has changed -/
theorem vu_ne {sa : Nat → Nat → Int32} {a k b j : Nat} {v : Int32} (h : ¬ (b = a ∧ j = k)) : va_up sa a (upd (sa a) k v) b j = sa b j := by
  by_cases c : b = a
  · subst c
    rw [vup_eq, upd_ne (fun e => h ⟨rfl, e⟩)]
  · rw [vup_ne c]
theorem vu_eq {sa : Nat → Nat → Int32} {a k : Nat} {v : Int32} : va_up sa a (upd (sa a) k v) a k = v := by rw [vup_eq, upd_eq]
section
variable {nf : Nat} {si si' : Nat → Int32} {sj : Nat → Int64} {sa sa' : Nat → Nat → Int32} {sb : Nat → Nat → Int64} {E : Nat}
theorem mn44B {fu : Nat} (hf : 1 ≤ fu) (hb : si 34 = 1) {x4 x3 x2 x1 : Int32} : f_Mo_nameText_44 nf fu x4 x3 x2 x1 si sj sa sb = f_Mo_nameText_125 nf x4 x3 x1 si sj sa sb := by
  obtain ⟨n, rfl⟩ : ∃ n, fu = n + 1 := ⟨fu - 1, by omega⟩
  rw [f_Mo_nameText_44, hb, if_neg (by decide)]
theorem mn44 (q : Bool) {fr p : Nat} (hp : p ≤ 80000) (hfr : fr ≤ 90) {w : Int32} {L : Nat → Int} : ∀ (j n fu : Nat), n + j = 10 → j + 1 < fu → ∀ (si : Nat → Int32) (sa : Nat → Nat → Int32), MP si sa E → L = LL (sa 0) E → si 32 = ii ((p + n : Nat) : Int) → si 34 = 0 → (∀ k, k < n → sa 26 (fr + k) = ii (L (p + k)) ∧ pq q (L (p + k))) →
    ∃ (n' : Nat) (si' : Nat → Int32) (sa' : Nat → Nat → Int32), f_Mo_nameText_44 nf fu (ii (n : Int)) (bI q) (ii (fr : Int)) w si sj sa sb = f_Mo_nameText_125 nf (ii (n' : Int)) (bI q) w si' sj sa' sb ∧ sI3 si si' ∧ (∀ a k, ¬ (a = 26 ∧ fr ≤ k ∧ k < fr + 10) → sa' a k = sa a k) ∧ n' ≤ 10 ∧ (∀ k, k < n' → sa' 26 (fr + k) = ii (L (p + k)) ∧ pq q (L (p + k))) ∧
      (si' 34 = 0 ∧ si' 32 = ii ((p + n' : Nat) : Int) ∧ ¬ pq q (L (p + n')) ∨ n' = 10 ∧ si' 34 = 1 ∧ si' 35 = ii ((p + 10 : Nat) : Int) ∧ pq q (L (p + 10))) := by
  intro j
  induction j with
  | zero =>
    intro n fu hn hf si sa h hL hat hb hk
    obtain ⟨f, rfl⟩ : ∃ f, fu = f + 1 := ⟨fu - 1, by omega⟩
    obtain rfl : n = 10 := by omega
    have hr := h.range (p + 10)
    rw [f_Mo_nameText_44, if_pos hb, mlook h hat (by omega), Option.bind_some, Option.bind_some, mltr nf hr.1 hr.2, Option.bind_some, mnmb nf hr.1 hr.2, Option.bind_some]
    have stop : ¬ pq q (L (p + 10)) → ∃ (n' : Nat) (si' : Nat → Int32) (sa' : Nat → Nat → Int32), f_Mo_nameText_125 nf (ii ((10 : Nat) : Int)) (bI q) w si sj sa sb = f_Mo_nameText_125 nf (ii (n' : Int)) (bI q) w si' sj sa' sb ∧ sI3 si si' ∧ (∀ a k, ¬ (a = 26 ∧ fr ≤ k ∧ k < fr + 10) → sa' a k = sa a k) ∧ n' ≤ 10 ∧ (∀ k, k < n' → sa' 26 (fr + k) = ii (L (p + k)) ∧ pq q (L (p + k))) ∧ (si' 34 = 0 ∧ si' 32 = ii ((p + n' : Nat) : Int) ∧ ¬ pq q (L (p + n')) ∨ n' = 10 ∧ si' 34 = 1 ∧ si' 35 = ii ((p + 10 : Nat) : Int) ∧ pq q (L (p + 10))) :=
      fun z => ⟨10, si, sa, rfl, sI3.rf, fun _ _ _ => rfl, by omega, hk, Or.inl ⟨hb, hat, z⟩⟩
    have go : pq q (L (p + 10)) → ∃ (n' : Nat) (si' : Nat → Int32) (sa' : Nat → Nat → Int32), f_Mo_nameText_78 nf (f_Mo_nameText_44 nf f) (ii ((10 : Nat) : Int)) (bI q) (ii (fr : Int)) w si sj sa sb = f_Mo_nameText_125 nf (ii (n' : Int)) (bI q) w si' sj sa' sb ∧ sI3 si si' ∧ (∀ a k, ¬ (a = 26 ∧ fr ≤ k ∧ k < fr + 10) → sa' a k = sa a k) ∧ n' ≤ 10 ∧ (∀ k, k < n' → sa' 26 (fr + k) = ii (L (p + k)) ∧ pq q (L (p + k))) ∧ (si' 34 = 0 ∧ si' 32 = ii ((p + n' : Nat) : Int) ∧ ¬ pq q (L (p + n')) ∨ n' = 10 ∧ si' 34 = 1 ∧ si' 35 = ii ((p + 10 : Nat) : Int) ∧ pq q (L (p + 10))) := by
      intro z
      unfold f_Mo_nameText_78
      rw [if_pos (by decide), mcan hb, Option.bind_some]
      dsimp only
      rw [mn44B (by omega) (by rfl)]
      exact ⟨10, _, sa, rfl, sI3.bd, fun _ _ _ => rfl, by omega, hk, Or.inr ⟨rfl, rfl, hat, z⟩⟩
    subst hL
    cases q
    · rw [show bI false = 0 from rfl] at *
      rw [if_pos rfl]
      by_cases c : ltr (LL (sa 0) E (p + 10))
      · rw [if_pos c, if_neg (by decide)]; exact go c
      · rw [if_neg c, if_pos rfl]; exact stop c
    · rw [show bI true = 1 from rfl] at *
      rw [if_neg (by decide)]
      by_cases c : nmb (LL (sa 0) E (p + 10))
      · rw [if_pos c, if_neg (by decide)]; exact go c
      · rw [if_neg c, if_pos rfl]; exact stop c
  | succ j ih =>
    intro n fu hn hf si sa h hL hat hb hk
    obtain ⟨f, rfl⟩ : ∃ f, fu = f + 1 := ⟨fu - 1, by omega⟩
    have hr := h.range (p + n)
    rw [f_Mo_nameText_44, if_pos hb, mlook h hat (by omega), Option.bind_some, Option.bind_some, mltr nf hr.1 hr.2, Option.bind_some, mnmb nf hr.1 hr.2, Option.bind_some]
    have stop : ¬ pq q (L (p + n)) → ∃ (n' : Nat) (si' : Nat → Int32) (sa' : Nat → Nat → Int32), f_Mo_nameText_125 nf (ii (n : Int)) (bI q) w si sj sa sb = f_Mo_nameText_125 nf (ii (n' : Int)) (bI q) w si' sj sa' sb ∧ sI3 si si' ∧ (∀ a k, ¬ (a = 26 ∧ fr ≤ k ∧ k < fr + 10) → sa' a k = sa a k) ∧ n' ≤ 10 ∧ (∀ k, k < n' → sa' 26 (fr + k) = ii (L (p + k)) ∧ pq q (L (p + k))) ∧ (si' 34 = 0 ∧ si' 32 = ii ((p + n' : Nat) : Int) ∧ ¬ pq q (L (p + n')) ∨ n' = 10 ∧ si' 34 = 1 ∧ si' 35 = ii ((p + 10 : Nat) : Int) ∧ pq q (L (p + 10))) :=
      fun z => ⟨n, si, sa, rfl, sI3.rf, fun _ _ _ => rfl, by omega, hk, Or.inl ⟨hb, hat, z⟩⟩
    have go : pq q (L (p + n)) → ∃ (n' : Nat) (si' : Nat → Int32) (sa' : Nat → Nat → Int32), f_Mo_nameText_78 nf (f_Mo_nameText_44 nf f) (ii (n : Int)) (bI q) (ii (fr : Int)) w si sj sa sb = f_Mo_nameText_125 nf (ii (n' : Int)) (bI q) w si' sj sa' sb ∧ sI3 si si' ∧ (∀ a k, ¬ (a = 26 ∧ fr ≤ k ∧ k < fr + 10) → sa' a k = sa a k) ∧ n' ≤ 10 ∧ (∀ k, k < n' → sa' 26 (fr + k) = ii (L (p + k)) ∧ pq q (L (p + k))) ∧ (si' 34 = 0 ∧ si' 32 = ii ((p + n' : Nat) : Int) ∧ ¬ pq q (L (p + n')) ∨ n' = 10 ∧ si' 34 = 1 ∧ si' 35 = ii ((p + 10 : Nat) : Int) ∧ pq q (L (p + 10))) := by
      intro z
      have en : (ii ((fr : Int) + (n : Int))).toNatClampNeg = fr + n := by rw [ii_nat (by omega) (by omega)]; omega
      unfold f_Mo_nameText_78
      rw [if_neg (by rw [ii_lit, ii_eq (by omega) (by omega) (by omega) (by omega)]; omega), mlook h hat (by omega), Option.bind_some, ii_add, en, if_neg (by rw [ii_lit, ii_lt (by omega) (by omega) (by omega) (by omega)]; omega), hat, ii_lit, ii_add, ii_add]
      have hM : MP (va_up si 32 (ii ((p + (n + 1) : Nat) : Int))) (va_up sa 26 (upd (sa 26) (fr + n) (ii (LL (sa 0) E (p + n))))) E := (h.sI sI3.at).sA (fun k => vu_ne (by omega))
      have hL2 : L = LL ((va_up sa 26 (upd (sa 26) (fr + n) (ii (LL (sa 0) E (p + n))))) 0) E := hL
      obtain ⟨n', s', a', e1, e2, e3, e4, e5, e6⟩ := ih (n + 1) f (by omega) (by omega) _ _ hM hL2 rfl hb (fun k hk2 => by
        by_cases c : k = n
        · subst c
          refine ⟨?_, z⟩
          rw [vu_eq, hL]
        · rw [vu_ne (by omega)]
          exact hk k (by omega))
      refine ⟨n', s', a', ?_, sI3.at.tr e2, fun a k q => (e3 a k q).trans (vu_ne (by omega)), e4, e5, e6⟩
      rw [← e1]
      congr 2
    subst hL
    cases q
    · rw [show bI false = 0 from rfl] at *
      rw [if_pos rfl]
      by_cases c : ltr (LL (sa 0) E (p + n))
      · rw [if_pos c, if_neg (by decide)]; exact go c
      · rw [if_neg c, if_pos rfl]; exact stop c
    · rw [show bI true = 1 from rfl] at *
      rw [if_neg (by decide)]
      by_cases c : nmb (LL (sa 0) E (p + n))
      · rw [if_pos c, if_neg (by decide)]; exact go c
      · rw [if_neg c, if_pos rfl]; exact stop c
end
section
variable {nf : Nat} {si si' : Nat → Int32} {sj : Nat → Int64} {sa sa' : Nat → Nat → Int32} {sb : Nat → Nat → Int64} {E : Nat}
/-- the cells that a name of the rule at hand has -/
def kN (w a j : Nat) : Prop := a = 25 ∧ j = 8 + w ∨ a = 26 ∧ 80 + 10 * w ≤ j ∧ j < 90 + 10 * w
theorem mn149 {w n : Nat} (hw : w < 2) : f_Mo_nameText_149 nf (ii (n : Int)) (ii (w : Int)) si sj sa sb = some (si, sj, va_up sa 25 (upd (sa 25) (8 + w) (ii (n : Int))), sb) := by
  have e : (8 : Int32) + ii (w : Int) = ii ((8 + w : Nat) : Int) := by
    rw [ii_lit, ii_add]; congr 1
  have en : (ii ((8 + w : Nat) : Int)).toNatClampNeg = 8 + w := by rw [ii_nat (by omega) (by omega)]; omega
  unfold f_Mo_nameText_149
  rw [e, en, if_neg (by rw [ii_lit, ii_lt (by omega) (by omega) (by omega) (by omega)]; omega)]
theorem mname (h : MP si sa E) (hnf : 20 ≤ nf) {p w : Nat} (hw : w < 2) (hp : si 32 = ii (p : Int)) (h1 : p ≤ 70000) (hb : si 34 = 0) :
    ∃ (si' : Nat → Int32) (sa' : Nat → Nat → Int32), f_Mo_nameText nf (ii (w : Int)) si sj sa sb = some (si', sj, sa', sb) ∧ sI3 si si' ∧ (∀ a j, ¬ kN w a j → sa' a j = sa a j) ∧
      mEnd (rname (LL (sa 0) E) p) si' (fun r => si' 32 = ii (r.2.2 : Int) ∧ sa' 25 (8 + w) = ii (r.2.1 : Int) ∧ ∀ k, k < r.2.1 → sa' 26 (80 + 10 * w + k) = ii (LL (sa 0) E (r.1 + k))) := by
  have hr := h.range p
  unfold f_Mo_nameText f_Mo_nameText_0 f_Mo_nameText_22 f_Mo_nameText_37
  rw [mlook h hp (by omega), Option.bind_some, hp]
  have e8 : (80 : Int32) + (10 * ii (w : Int)) = ii ((80 + 10 * w : Nat) : Int) := by
    rw [ii_lit, ii_lit, ii_mul, ii_add]; congr 1
  rw [e8]
  have main : ∀ (q : Bool) (p1 : Nat), p1 ≤ 70001 → ∃ (n' : Nat) (si' : Nat → Int32) (sa' : Nat → Nat → Int32), f_Mo_nameText_44 nf nf 0 (bI q) (ii ((80 + 10 * w : Nat) : Int)) (ii (w : Int)) (va_up si 32 (ii (p1 : Int))) sj sa sb = some (si', sj, sa', sb) ∧ sI3 si si' ∧ (∀ a j, ¬ kN w a j → sa' a j = sa a j) ∧ sa' 25 (8 + w) = ii (n' : Int) ∧ (∀ k, k < n' → sa' 26 (80 + 10 * w + k) = ii (LL (sa 0) E (p1 + k))) ∧
      (n' < 3 ∧ cntq q (LL (sa 0) E) 11 p1 = n' ∧ si' 34 = 1 ∧ si' 35 = ii ((p1 + n' : Nat) : Int) ∨ 3 ≤ n' ∧ (cntq q (LL (sa 0) E) 11 p1 = 11 ∧ si' 34 = 1 ∧ si' 35 = ii ((p1 + 10 : Nat) : Int) ∨ n' ≤ 10 ∧ cntq q (LL (sa 0) E) 11 p1 = n' ∧ (if q then (if LL (sa 0) E (p1 + n') = 62 then si' 34 = 0 ∧ si' 32 = ii ((p1 + n' + 1 : Nat) : Int) else si' 34 = 1 ∧ si' 35 = ii ((p1 + n' : Nat) : Int)) else si' 34 = 0 ∧ si' 32 = ii ((p1 + n' : Nat) : Int)))) := by
    intro q p1 hp1
    obtain ⟨n', s', a', e1, e2, e3, e4, e5, e6⟩ := mn44 (nf := nf) (sj := sj) (sb := sb) (E := E) q (fr := 80 + 10 * w) (p := p1) (by omega) (by omega) (w := ii (w : Int)) (L := LL (sa 0) E) 10 0 nf (by omega) (by omega) (va_up si 32 (ii (p1 : Int))) sa (h.sI sI3.at) rfl rfl hb (fun k hk => by omega)
    have e1' : f_Mo_nameText_44 nf nf 0 (bI q) (ii ((80 + 10 * w : Nat) : Int)) (ii (w : Int)) (va_up si 32 (ii (p1 : Int))) sj sa sb = f_Mo_nameText_125 nf (ii (n' : Int)) (bI q) (ii (w : Int)) s' sj a' sb := e1
    rw [e1']
    have g0 : sI3 si s' := sI3.at.tr e2
    have hM : MP s' a' E := ((h.sI sI3.at).sI e2).sA (fun k => e3 0 k (by omega))
    have hL : LL (a' 0) E = LL (sa 0) E := LL_congr (fun k _ => e3 0 k (by omega))
    have fr : ∀ a j, ¬ kN w a j → (va_up a' 25 (upd (a' 25) (8 + w) (ii (n' : Int)))) a j = sa a j := by
      intro a j hk
      unfold kN at hk
      rw [vu_ne (by omega), e3 a j (by omega)]
    have ff : ∀ (s2 : Nat → Int32), f_Mo_nameText_149 nf (ii (n' : Int)) (ii (w : Int)) s2 sj a' sb = some (s2, sj, va_up a' 25 (upd (a' 25) (8 + w) (ii (n' : Int))), sb) := fun s2 => mn149 hw
    have f26 : ∀ k, k < n' → (va_up a' 25 (upd (a' 25) (8 + w) (ii (n' : Int)))) 26 (80 + 10 * w + k) = ii (LL (sa 0) E (p1 + k)) := fun k hk => by rw [vu_ne (by omega)]; exact (e5 k hk).1
    unfold f_Mo_nameText_125 f_Mo_nameText_139
    rcases e6 with ⟨b1, b2, b3⟩ | ⟨b1, b2, b3, b4⟩
    · have hc := cntq_is (fun k hk => (e5 k hk).2) b3 e4
      by_cases c3 : n' < 3
      · rw [if_neg (by rw [ii_lit, ii_le (by omega) (by omega) (by omega) (by omega)]; omega), mcan b1, Option.bind_some]
        dsimp only
        rw [msignB (by rfl), Option.bind_some]
        dsimp only
        rw [ff, b2]
        refine ⟨n', _, _, ?_, g0.tr sI3.bd, fr, vu_eq, f26, Or.inl ⟨c3, hc, rfl, rfl⟩⟩
        split <;> rfl
      · rw [if_pos (by rw [ii_lit, ii_le (by omega) (by omega) (by omega) (by omega)]; omega)]
        cases q
        · rw [if_pos (by decide), ff]
          exact ⟨n', _, _, rfl, g0, fr, vu_eq, f26, Or.inr ⟨by omega, Or.inr ⟨e4, hc, b1, b2⟩⟩⟩
        · rw [if_neg (by decide), show (62 : Int32) = ii 62 from rfl, msign hM b2 (by omega) b1 (by omega) (by omega), Option.bind_some]
          dsimp only
          rw [ff, hL]
          refine ⟨n', _, _, rfl, ?_, fr, vu_eq, f26, Or.inr ⟨by omega, Or.inr ⟨e4, hc, ?_⟩⟩⟩
          · split
            · exact g0.tr sI3.at
            · exact g0.tr sI3.bd
          · by_cases c6 : LL (sa 0) E (p1 + n') = 62
            · rw [if_pos rfl, if_pos c6, if_pos c6]
              exact ⟨b1, rfl⟩
            · rw [if_pos rfl, if_neg c6, if_neg c6]
              exact ⟨rfl, rfl⟩
    · subst b1
      have hc := cntq_11 (q := q) (L := LL (sa 0) E) (p := p1) (fun k hk => by
        by_cases c : k = 10
        · rw [c]; exact b4
        · exact (e5 k (by omega)).2)
      rw [if_pos (by decide), msignB b2, Option.bind_some]
      dsimp only
      rw [ff]
      refine ⟨10, _, _, ?_, g0, fr, vu_eq, f26, Or.inr ⟨by omega, Or.inl ⟨hc, b2, b3⟩⟩⟩
      split <;> rfl
  unfold rname
  by_cases c : LL (sa 0) E p = 60
  · rw [if_pos c, if_pos (by rw [c]; rfl), if_neg (by decide), show ii (p : Int) + 1 = ii ((p + 1 : Nat) : Int) by rw [ii_lit, ii_add]; rfl]
    obtain ⟨n', s', a', e1, e2, e3, e4, e5, e6⟩ := main true (p + 1) (by omega)
    rw [show f_Mo_nameText_44 nf nf 0 1 (ii ((80 + 10 * w : Nat) : Int)) (ii (w : Int)) (va_up si 32 (ii ((p + 1 : Nat) : Int))) sj sa sb = f_Mo_nameText_44 nf nf 0 (bI true) (ii ((80 + 10 * w : Nat) : Int)) (ii (w : Int)) (va_up si 32 (ii ((p + 1 : Nat) : Int))) sj sa sb from rfl, e1]
    refine ⟨s', a', rfl, e2, e3, ?_⟩
    rcases e6 with ⟨k1, k2, k3, k4⟩ | ⟨k1, ⟨k2, k3, k4⟩ | ⟨k2, k3, k4⟩⟩
    · rw [k2, if_pos k1]; exact ⟨k3, k4⟩
    · rw [k2, if_neg (by omega), if_pos rfl]; exact ⟨k3, k4⟩
    · rw [k3, if_neg (by omega), if_neg (by omega)]
      rw [if_pos rfl] at k4
      by_cases c6 : LL (sa 0) E (p + 1 + n') = 62
      · rw [if_pos c6] at k4 ⊢
        exact ⟨k4.1, k4.2, e4, e5⟩
      · rw [if_neg c6] at k4 ⊢
        exact k4
  · rw [if_neg c, if_neg (fun z => c (by rw [ii_lit, ii_eq2 (by omega) (by omega) (by omega) (by omega)] at z; exact z)), if_pos rfl, ii_lit, ii_add, Int.add_zero]
    obtain ⟨n', s', a', e1, e2, e3, e4, e5, e6⟩ := main false p (by omega)
    rw [show f_Mo_nameText_44 nf nf (ii 0) (ii 0) (ii ((80 + 10 * w : Nat) : Int)) (ii (w : Int)) (va_up si 32 (ii (p : Int))) sj sa sb = f_Mo_nameText_44 nf nf 0 (bI false) (ii ((80 + 10 * w : Nat) : Int)) (ii (w : Int)) (va_up si 32 (ii (p : Int))) sj sa sb from rfl, e1]
    refine ⟨s', a', rfl, e2, e3, ?_⟩
    rcases e6 with ⟨k1, k2, k3, k4⟩ | ⟨k1, ⟨k2, k3, k4⟩ | ⟨k2, k3, k4⟩⟩
    · rw [k2, if_pos k1]; exact ⟨k3, k4⟩
    · rw [k2, if_neg (by omega), if_pos rfl]; exact ⟨k3, k4⟩
    · rw [k3, if_neg (by omega), if_neg (by omega)]
      rw [if_neg (by decide)] at k4
      exact ⟨k4.1, k4.2, e4, e5⟩
end
