/-! ===== at, name ===== -/
theorem RR.qry {S : CS} {si si' : Nat → Int32} {sj sj' : Nat → Int64} {sa sa' : Nat → Nat → Int32} {sb : Nat → Nat → Int64} (h : RR S (si, sj, sa, sb)) (hi : ∀ k, kI k → si' k = si k) (hj : ∀ k, k ≠ 40 → sj' k = sj k) (ha : frA sa sa') : RR S (si', sj', sa', sb) :=
  h.frame hi (hj 65 (by decide)) (fun j => by rw [ha 0 (by decide) (by decide)]) (fun j => by rw [ha 56 (by decide) (by decide)]) (fun i _ a j k => by rw [ha a (by unfold kAz at k; omega) (by unfold kAz at k; omega)]) (fun _ _ _ => rfl) (fun _ _ _ _ _ => rfl)
theorem okQ {nf : Nat} {S : CS} {M' : MS} (h : RR S M') {c : Option (Int32 × Int64 × CS × Nat × Nat)} {q : Option (Int32 × MS)} {v : Int32} (e1 : c = some (0, v.toInt64, S, 0, 0)) (e2 : q = some (v, M')) (h3 : M'.1 3 = 0) : STWi nf RR S c q :=
  ⟨0, v.toInt64, S, 0, 0, v, M', e1, e2, congrArg some h3, fun _ => rfl, h, by omega, by omega⟩
theorem noQ {nf : Nat} {S : CS} {M' : MS} (h : RR S M') {c : Option (Int32 × Int64 × CS × Nat × Nat)} {q : Option (Int32 × MS)} (k : Int32) (hk : k ≠ 0) (e1 : c = some (k, 0, S, 1, 6)) (e2 : q = some (0, M')) (h3 : M'.1 3 = k) : STWi nf RR S c q :=
  ⟨k, 0, S, 1, 6, 0, M', e1, e2, congrArg some h3, fun z => absurd z hk, h, by omega, by omega⟩
theorem ii_neg3 {g : Int} (h1 : -1000 ≤ g) (h2 : g ≤ 1000) : (ii g = -3) ↔ g = -3 := by
  rw [show (-3 : Int32) = ii (-3) from rfl, ii_eq (by omega) (by omega) (by omega) (by omega)]
theorem st_at {nf : Nat} (hnf : 10000 ≤ nf) (S : CS) (M : MS) (p0 : Int32) (p1 : Int64) (p2 : Int32) (h : RR S M) : STWi nf RR S (cq_at nf S p0 p1 p2) (f_Mo_at nf p0 p1 p2 M.1 M.2.1 M.2.2.1 M.2.2.2) := by
  obtain ⟨si, sj, sa, sb⟩ := M
  generalize hC : cq_at nf S p0 p1 p2 = C
  unfold cq_at at hC
  dsimp only
  generalize hQ : f_Mo_at nf p0 p1 p2 si sj sa sb = Q
  have e36 : ∀ s : Int32, ¬ s ≤ 0 → f_Mo_at_36 nf p0 p1 p2 s si sj sa sb = some (0, va_up si 3 s, sj, sa, sb) := by
    intro s hs
    unfold f_Mo_at_36
    rw [if_neg hs]
  unfold f_Mo_at f_Mo_at_0 f_Mo_at_20 at hQ
  rw [e36 1 (by decide), e36 2 (by decide)] at hQ
  unfold f_ZF_at f_ZF_at_0 g_ZF_at g_ZF_at_0 at hC
  rcases zcase p0 with ⟨i, hi, rfl⟩ | hz
  · obtain ⟨a1, a2, a3, a4, a5, a6, a7⟩ := zgood hi nf
    rw [a4, a1, a2, a5, Option.bind_some, Option.bind_some] at hC
    rw [a3, Option.bind_some, if_pos rfl] at hQ
    rw [show (4 : Int32) = ii ((4 : Nat) : Int) from rfl] at hC
    rcases xcase p2 (n := 4) (by omega) with ⟨j, hj, rfl⟩ | ⟨hx, hx2⟩
    · obtain ⟨d1, d2, d3, d4, d5, d6⟩ := xgood hj (by omega) nf
      have d7 : ii (j : Int) ≤ 3 := by rw [ii_lit, ii_le (by omega) (by omega) (by omega) (by omega)]; omega
      rw [d1, d2, Option.bind_some, Option.bind_some] at hC
      rw [if_neg d3, if_pos d7] at hQ
      obtain ⟨v, rfl, v1, v2⟩ := jj_all p1
      obtain ⟨i1, i2⟩ := cinst nf v1 v2
      rw [i2, Option.bind_some] at hQ
      by_cases c : -1152921504606846975 ≤ v ∧ v ≤ 1152921504606846975
      · obtain ⟨k1, k2⟩ := cchk nf v1 v2 c
        rw [k1, Option.bind_some, if_neg a6] at hC
        rw [if_pos c, if_neg (by decide)] at hQ
        obtain ⟨n, t, r, tm, tt, hs, b, e, O, D, Z, B, hv⟩ := (h.2.2.2.2.2.1 i hi).view (by omega)
        obtain ⟨k, hk⟩ := hv.ex v
        have cs := hv.cstate hnf c hk
        obtain ⟨si', sj', sa', m1, m2, m3⟩ := hv.state (nf := nf) (si := va_up si 3 0) (sj := sj) hnf c hk
        have ok := stI_ok (v := v) hv hk.1
        generalize stI n r tt (hs && suB b e v) k = g at cs m2 ok
        unfold f_Mo_at_36 f_Mo_at_110 at hQ
        rw [if_pos (by decide), m1, Option.bind_some] at hQ
        dsimp only at hQ
        rw [cs, Option.bind_some] at hC
        have hR : RR S (si', sj', sa', sb) := h.qry (fun k hk => by rw [m2.frI k (by unfold kI at hk; omega), vup_ne (by unfold kI at hk; omega)]) m3 (fun a h1 _ => m2.frA a h1)
        have h3 : si' 3 = 0 := by rw [m2.frI 3 (by omega)]; rfl
        rcases ok with ok | ⟨rfl, _⟩
        · obtain ⟨o1, o2, o3, o4, o5, o6⟩ := hv.2.2.1 g ok
          obtain ⟨c1, c2, c3', c4⟩ := o6 nf hnf
          have gb : -3 < g ∧ g ≤ 1000 := by
            have := hv.1.2.2.2.1
            unfold vg at ok
            omega
          rw [if_neg (by rw [ii_neg3 (by omega) (by omega)]; omega), c1, c2, c3', Option.bind_some, Option.bind_some, Option.bind_some] at hC
          unfold gotG at m2
          rw [if_neg (by omega)] at m2
          obtain ⟨⟨y1, y2, y3, y4, y5, y6⟩, y7⟩ := m2
          have y1' : ¬ si' 43 = 2 := by
            rw [y1]
            by_cases w : g < 0
            · rw [if_pos w]; decide
            · rw [if_neg w]; decide
          rw [if_neg y1', y2, y3, y4, y5] at hQ
          unfold f_ZF_at_103 at hC
          rcases (show j = 0 ∨ j = 1 ∨ j = 2 ∨ j = 3 by omega) with rfl | rfl | rfl | rfl
          · exact okQ hR (v := ii (O g)) hC.symm hQ.symm h3
          · exact okQ hR (v := ii (D g)) hC.symm hQ.symm h3
          · exact okQ hR (v := ii (Z g : Int)) hC.symm hQ.symm h3
          · by_cases w : g < 0
            · rw [if_pos (show ii g < 0 by rw [ii_lit, ii_lt (by omega) (by omega) (by omega) (by omega)]; omega)] at hC
              rw [if_pos w] at hQ
              exact okQ hR (v := -1) hC.symm hQ.symm h3
            · rw [if_neg (show ¬ ii g < 0 by rw [ii_lit, ii_lt (by omega) (by omega) (by omega) (by omega)]; omega)] at hC
              rw [if_neg w] at hQ
              exact okQ hR (v := ii g) hC.symm hQ.symm h3
        · rw [if_pos (show ii (-3) = (-3 : Int32) from rfl)] at hC
          unfold gotG at m2
          rw [if_pos rfl] at m2
          rw [if_pos m2.1] at hQ
          exact okQ hR (v := -2147483648) hC.symm hQ.symm h3
      · obtain ⟨k1, k2⟩ := cchkN nf v1 v2 c
        rw [k1, k2] at hC
        rw [if_neg c, if_pos rfl] at hQ
        exact noI h 2 (by decide) hC.symm hQ.symm
    · rw [(hx nf).1, (hx nf).2] at hC
      refine noI h 1 (by decide) hC.symm ?_
      rcases hx2 with hx2 | ⟨hx2, hx4, hx3⟩
      · rw [if_pos hx2] at hQ
        exact hQ.symm
      · have b7 : ¬ p2 ≤ 3 := by
          obtain ⟨v, rfl, v1, v2⟩ := ii_all p2
          rw [ii_le (by omega) (by omega) v1 v2] at hx4
          rw [ii_lit, ii_le v1 v2 (by omega) (by omega)]
          omega
        rw [if_neg hx2, if_neg b7] at hQ
        exact hQ.symm
  · rw [(hz nf).2.2, Option.bind_some, if_neg (by decide)] at hQ
    rw [(hz nf).1, (hz nf).2.1] at hC
    exact noI h 1 (by decide) hC.symm hQ.symm
theorem st_name {nf : Nat} (hnf : 10000 ≤ nf) (S : CS) (M : MS) (p0 : Int32) (p1 : Int64) (p2 : Int32) (h : RR S M) : STWi nf RR S (cq_name nf S p0 p1 p2) (f_Mo_name nf p0 p1 p2 M.1 M.2.1 M.2.2.1 M.2.2.2) := by
  obtain ⟨si, sj, sa, sb⟩ := M
  generalize hC : cq_name nf S p0 p1 p2 = C
  unfold cq_name at hC
  dsimp only
  generalize hQ : f_Mo_name nf p0 p1 p2 si sj sa sb = Q
  have e25 : ∀ s : Int32, ¬ s ≤ 0 → f_Mo_name_25 nf p0 p1 p2 s si sj sa sb = some (0, va_up si 3 s, sj, sa, sb) := by
    intro s hs
    unfold f_Mo_name_25
    rw [if_neg hs]
  unfold f_Mo_name f_Mo_name_0 at hQ
  rw [e25 1 (by decide), e25 2 (by decide)] at hQ
  unfold f_ZF_name f_ZF_name_0 g_ZF_name g_ZF_name_0 f_ZF_name_41 g_ZF_name_41 at hC
  rcases zcase p0 with ⟨i, hi, rfl⟩ | hz
  · obtain ⟨a1, a2, a3, a4, a5, a6, a7⟩ := zgood hi nf
    rw [a4, a1, a2, a5, Option.bind_some, Option.bind_some] at hC
    rw [a3, Option.bind_some, if_pos rfl] at hQ
    obtain ⟨v, rfl, v1, v2⟩ := jj_all p1
    obtain ⟨i1, i2⟩ := cinst nf v1 v2
    rw [i2, Option.bind_some] at hQ
    by_cases c : -1152921504606846975 ≤ v ∧ v ≤ 1152921504606846975
    · obtain ⟨k1, k2⟩ := cchk nf v1 v2 c
      rw [k1, k2, Option.bind_some, Option.bind_some] at hC
      simp only [if_neg a6] at hC
      rw [if_pos c, if_neg (by decide)] at hQ
      obtain ⟨n, t, r, tm, tt, hs, b, e, O, D, Z, B, hv⟩ := (h.2.2.2.2.2.1 i hi).view (by omega)
      obtain ⟨k, hk⟩ := hv.ex v
      have cs := hv.cstate hnf c hk
      obtain ⟨si', sj', sa', m1, m2, m3⟩ := hv.state (nf := nf) (si := va_up si 3 0) (sj := sj) hnf c hk
      have ok := stI_ok (v := v) hv hk.1
      generalize stI n r tt (hs && suB b e v) k = g at cs m2 ok
      unfold f_Mo_name_25 f_Mo_name_58 f_Mo_name_63 f_Mo_name_84 at hQ
      rw [if_pos (show (0 : Int32) ≤ 0 by decide), m1, Option.bind_some] at hQ
      dsimp only at hQ
      rw [if_neg (show ¬ (3 : Int32) ≤ 0 by decide), if_pos (show (0 : Int32) ≤ 0 by decide)] at hQ
      rw [cs, Option.bind_some, Option.bind_some] at hC
      have hR : ∀ x : Int32, RR S (va_up si' 3 x, sj', sa', sb) := fun x => h.qry (fun k hk => by rw [vup_ne (by unfold kI at hk; omega), m2.frI k (by unfold kI at hk; omega), vup_ne (by unfold kI at hk; omega)]) m3 (fun a h1 _ => m2.frA a h1)
      have key : ∃ s : Nat, s ≤ 10 ∧ f_Zone_nameSize nf (ii g) (S.2 i).2.2.1 (S.2 i).2.2.2.2.2.2.2.2.2.2.1 (S.2 i).2.2.2.2.2.2.2.2.2.2.2.2.2.1 (S.2 i).2.2.2.2.2.2.2.2.2.2.2.2.2.2.1 (S.2 i).2.2.2.2.2.2.2.2.2.2.2.2.2.2.2.1 (S.2 i).2.2.2.2.2.2.2.2.2.2.2.2.2.2.2.2.2.2.2.2.2.2.2.1 (S.2 i).2.2.2.2.2.2.2.2.2.2.2.2.2.2.2.2.2.2.2.2.2.2.2.2.2.1 = some (ii (s : Int)) ∧ si' 47 = ii (s : Int) ∧ ∀ q, q < s → f_Zone_nameByte nf (ii g) (ii (q : Int)) (S.2 i).2.2.1 (S.2 i).2.2.2.2.2.2.2.2.2.2.1 (S.2 i).2.2.2.2.2.2.2.2.2.2.2.2.2.1 (S.2 i).2.2.2.2.2.2.2.2.2.2.2.2.2.2.1 (S.2 i).2.2.2.2.2.2.2.2.2.2.2.2.2.2.2.1 (S.2 i).2.2.2.2.2.2.2.2.2.2.2.2.2.2.2.2.2.2.2.2.2.2.1 (S.2 i).2.2.2.2.2.2.2.2.2.2.2.2.2.2.2.2.2.2.2.2.2.2.2.2.1 (S.2 i).2.2.2.2.2.2.2.2.2.2.2.2.2.2.2.2.2.2.2.2.2.2.2.2.2.2.2.1 (S.2 i).2.2.2.2.2.2.2.2.2.2.2.2.2.2.2.2.2.2.2.2.2.2.2.2.2.2.2.2.1 (S.2 i).2.2.2.2.2.2.2.2.2.2.2.2.2.2.2.2.2.2.2.2.2.2.2.2.2.2.2.2.2.1 = some (sa' 48 q) := by
        rcases ok with ok | ⟨rfl, _⟩
        · obtain ⟨o1, o2, o3, o4, o5, o6⟩ := hv.2.2.1 g ok
          obtain ⟨c1, c2, c3', c4⟩ := o6 nf hnf
          have gb : -3 < g := by unfold vg at ok; omega
          unfold gotG at m2
          rw [if_neg (by omega)] at m2
          obtain ⟨⟨y1, y2, y3, y4, y5, y6⟩, y7, y8⟩ := m2
          exact ⟨Z g, o5, c3', y5, fun q hq => by rw [c4 q hq, y7 q hq]⟩
        · unfold gotG at m2
          rw [if_pos rfl] at m2
          refine ⟨0, by omega, ?_, m2.2.2.2.1, fun q hq => by omega⟩
          unfold f_Zone_nameSize f_Zone_nameSize_0
          rw [if_pos (show ii (-3) = (-3 : Int32) from rfl)]
          rfl
      obtain ⟨s, s1, s2, s3, s4⟩ := key
      rw [s2, Option.bind_some, Option.bind_some] at hC
      rw [s3] at hQ
      rcases xcase p2 (n := s) (by omega) with ⟨j, hj, rfl⟩ | ⟨hx, hx2⟩
      · obtain ⟨d1, d2, d3, d4, d5, d6⟩ := xgood hj (by omega) nf
        rw [if_neg d3, if_pos d4, s4 j hj, Option.bind_some] at hC
        rw [if_neg d3, if_pos d4, d6, if_neg (fun w => w.elim d3 (by omega))] at hQ
        exact okQ (hR 0) (v := sa' 48 j) hC.symm hQ.symm rfl
      · refine noQ (hR 3) 3 (by decide) (hC.symm.trans ?_) (hQ.symm.trans ?_) rfl
        · rcases hx2 with hx2 | ⟨hx2, _, hx3⟩
          · rw [if_pos hx2, if_pos hx2]
            rfl
          · rw [if_neg hx2, if_neg hx3, if_neg hx2, if_neg hx3]
            rfl
        · rcases hx2 with hx2 | ⟨hx2, _, hx3⟩
          · rw [if_pos hx2]
          · rw [if_neg hx2, if_neg hx3]
    · obtain ⟨k1, k2⟩ := cchkN nf v1 v2 c
      rw [k1, k2] at hC
      rw [if_neg c, if_pos rfl] at hQ
      exact noI h 2 (by decide) hC.symm hQ.symm
  · rw [(hz nf).2.2, Option.bind_some, if_neg (by decide)] at hQ
    rw [(hz nf).1, (hz nf).2.1] at hC
    exact noI h 1 (by decide) hC.symm hQ.symm
