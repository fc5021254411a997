/-! ===== table ===== -/
theorem st_table {nf : Nat} (hnf : 10000 ≤ nf) (S : CS) (M : MS) (h : RR S M) : STDi RR S (cq_table nf S) (f_Mo_table nf M.1 M.2.1 M.2.2.1 M.2.2.2) := by
  obtain ⟨si, sj, sa, sb⟩ := M
  obtain ⟨⟨n, t1, t2, t3⟩, ⟨w, w1, w2, w3⟩, r3, ⟨q, q1, q2, q3, q4⟩, ⟨c5, d1, d2, d3, d4⟩, r6, r7⟩ := id h
  dsimp only at *
  generalize hsi0 : va_up (va_up (va_up (va_up (va_up (va_up si 3 0) 36 0) 32 0) 33 (ii (n : Int))) 66 0) 70 0 = si0
  have f0 : ∀ k, k = 2 ∨ k = 55 ∨ k = 57 ∨ k = 61 ∨ k = 62 → si0 k = si k := fun k hk => by
    rw [← hsi0, vup_ne (by omega), vup_ne (by omega), vup_ne (by omega), vup_ne (by omega), vup_ne (by omega), vup_ne (by omega)]
  have z36 : si0 36 = 0 := by rw [← hsi0]; rfl
  have hJ0 : TJ (ii ((0 : Nat) : Int)) 0 0 S.1.2.2.2.2.2.2.2.2.2.2.2.2.2.2.1 S.1.2.2.2.2.2.2.2.2.2.2.2.2.2.2.2.1 S.1.2.2.2.2.2.2.2.2.2.2.2.2.2.2.2.2 si0 sj sb n 0 0 false (fun _ => 0) (fun _ => 0) 0 := by
    rw [← hsi0]
    exact ⟨⟨rfl, rfl, rfl, rfl, rfl, rfl, rfl, by omega⟩, fun k hk => by omega, fun k hk => by omega, fun z => by cases z⟩
  have L := tlines (nf := nf) (sa := sa) hnf t2 t1 0 0 n 0 0 nf nf (by omega) (by omega) (by omega) (by omega) (by omega) 0 0 _ _ _ _ _ _ 0 false _ _ _ hJ0
  rw [show ii ((0 : Nat) : Int) = 0 from rfl] at L
  have hL : f_TP_readLines nf 0 0 0 0 S.1.1 S.1.2.1 S.1.2.2.1 S.1.2.2.2.2.2.2.2.2.2.2.2.2.2.1 S.1.2.2.2.2.2.2.2.2.2.2.2.2.2.2.1 S.1.2.2.2.2.2.2.2.2.2.2.2.2.2.2.2.1 S.1.2.2.2.2.2.2.2.2.2.2.2.2.2.2.2.2 = f_TP_readLines_10 nf S.1.1 S.1.2.1 S.1.2.2.1 nf 0 0 0 0 0 0 S.1.2.2.2.2.2.2.2.2.2.2.2.2.2.2.1 S.1.2.2.2.2.2.2.2.2.2.2.2.2.2.2.2.1 S.1.2.2.2.2.2.2.2.2.2.2.2.2.2.2.2.2 := rfl
  have hT : f_Mo_tableText nf (si 1) (va_up (va_up si 3 0) 36 0) sj sa sb = f_Mo_tableText_20 nf nf (ii (n : Int)) si0 sj sa sb := by
    rw [t3, ← hsi0]
    rfl
  -- a fault
  have fail : ∀ (f p cn : Int32) (ex : Int64) (TI AH : Nat → Int64) (si' : Nat → Int32) (sj' : Nat → Int64) (sb' : Nat → Nat → Int64), f_ZF_tableOk nf S.1.1 S.1.2.1 S.1.2.2.1 S.1.2.2.2.2.2.2.2.2.2.2.2.2.2.1 S.1.2.2.2.2.2.2.2.2.2.2.2.2.2.2.1 S.1.2.2.2.2.2.2.2.2.2.2.2.2.2.2.2.1 S.1.2.2.2.2.2.2.2.2.2.2.2.2.2.2.2.2 = none → f_ZF_tableNo nf S.1.2.2.2.2.2.2.2.1 S.1.1 S.1.2.1 S.1.2.2.1 S.1.2.2.2.2.2.2.2.2.2.2.2.2.2.1 S.1.2.2.2.2.2.2.2.2.2.2.2.2.2.2.1 S.1.2.2.2.2.2.2.2.2.2.2.2.2.2.2.2.1 S.1.2.2.2.2.2.2.2.2.2.2.2.2.2.2.2.2 = some ((f, p, 0, cn, ex, TI, AH), 1, 6) →
      f_Mo_tableText_20 nf nf (ii (n : Int)) si0 sj sa sb = some (0, si', sj', sa, sb') → si' 36 = f → si' 2 = p → TF si0 si' sj sj' sb sb' → STDi RR S (cq_table nf S) (f_Mo_table nf si sj sa sb) := by
    intro f p cn ex TI AH si' sj' sb' ok no mo h36 h2 tf
    have hC : cq_table nf S = some (f, ((0, S.1.2.1, S.1.2.2.1, S.1.2.2.2.1, S.1.2.2.2.2.1, S.1.2.2.2.2.2.1, S.1.2.2.2.2.2.2.1, p, S.1.2.2.2.2.2.2.2.2.1, S.1.2.2.2.2.2.2.2.2.2.1, S.1.2.2.2.2.2.2.2.2.2.2.1, S.1.2.2.2.2.2.2.2.2.2.2.2.1, S.1.2.2.2.2.2.2.2.2.2.2.2.2.1, cn, ex, TI, AH), S.2), 1, 6) := by
      unfold cq_table
      rw [ok, no]
    have hM : f_Mo_table nf si sj sa sb = some (si' 36, va_up si' 1 0, sj', sa, sb') := by
      unfold f_Mo_table f_Mo_table_0
      rw [hT, mo, Option.bind_some]
      dsimp only
      rw [if_pos rfl]
      rfl
    have fr : ∀ k, k = 55 ∨ k = 57 ∨ k = 61 ∨ k = 62 → va_up si' 1 0 k = si k := fun k hk => by
      rw [vup_ne (by omega), tf.1 k (by omega) (by omega) (by omega) (by omega) (by omega)]
      exact f0 k (by omega)
    refine ⟨_, _, _, _, _, _, hC, hM, h36.symm, ⟨⟨0, by omega, t2.clear _, rfl⟩, ⟨w, w1, w2, (fr 57 (by omega)).trans w3⟩, ?_, ⟨q, q1, q2, (fr 55 (by omega)).trans q3, fun k hk => (q4 k hk).trans (congrFun (tf.2.2 54 (by decide) (by decide)) k).symm⟩, ⟨c5, d1, d2, (fr 61 (by omega)).trans d3, fun z => ⟨(fr 62 (by omega)).trans (d4 z).1, ?_⟩⟩, fun i hi => (r6 i hi).congr (fun _ _ _ => rfl) (fun b j z => congrFun (tf.2.2 b (by unfold kBz at z; omega) (by unfold kBz at z; omega)) j), r7⟩, ?_, ?_⟩
    · show p = va_up si' 1 0 2
      rw [vup_ne (by decide), h2]
    · obtain ⟨tv, av, x, g1, g2, g3, g4⟩ := (d4 z).2
      refine ⟨tv, av, x, g1, fun k hk => ?_, g3, (tf.2.1 65 (by decide) (by decide)).trans g4⟩
      obtain ⟨e1, e2, e3, e4⟩ := g2 k hk
      exact ⟨e1, (congrFun (tf.2.2 63 (by decide) (by decide)) k).trans e2, e3, (congrFun (tf.2.2 64 (by decide) (by decide)) k).trans e4⟩
    · unfold phi
      dsimp only
      omega
    · unfold phi
      dsimp only
      omega
  have ini : f_TP_init nf = some () := rfl
  rcases L with ⟨hb, cn, ex, TI, AH, si', sj', sb', c, hh, tv, av, x, l1, l2, l3, l4, l5, l6⟩ | ⟨f, p, po, hb, cn, ex, TI, AH, si', sj', sb', l1, l2, l3, l4, l5⟩
  · rcases tend (nf := nf) (sa := sa) t1 t2.1 0 0 l3 with ⟨e1, e2, e3, e4, e5⟩ | ⟨f, e1, e2⟩
    · obtain ⟨⟨j1, j2, j3, j4, j5, j6, j7, j8⟩, j9, j10, j11⟩ := l3
      obtain ⟨x1, x2, x3, x4⟩ := j11 e2
      have ok : f_ZF_tableOk nf S.1.1 S.1.2.1 S.1.2.2.1 S.1.2.2.2.2.2.2.2.2.2.2.2.2.2.1 S.1.2.2.2.2.2.2.2.2.2.2.2.2.2.2.1 S.1.2.2.2.2.2.2.2.2.2.2.2.2.2.2.2.1 S.1.2.2.2.2.2.2.2.2.2.2.2.2.2.2.2.2 = some ((0, 0, cn, ex, TI, AH), 1, 6) := by
        unfold f_ZF_tableOk f_ZF_tableOk_0
        rw [ini, Option.bind_some, hL, l1, Option.bind_some]
        dsimp only
        rw [if_neg (show ¬ (1 : Int32) = 0 by decide), e4, Option.bind_some]
        dsimp only
        rw [if_neg (show ¬ (1 : Int32) = 0 by decide)]
        rfl
      have hC : cq_table nf S = some (0, ((0, S.1.2.1, S.1.2.2.1, S.1.2.2.2.1, S.1.2.2.2.2.1, S.1.2.2.2.2.2.1, S.1.2.2.2.2.2.2.1, S.1.2.2.2.2.2.2.2.1, S.1.2.2.2.2.2.2.2.2.1, cn, ex, TI, AH, S.1.2.2.2.2.2.2.2.2.2.1, S.1.2.2.2.2.2.2.2.2.2.2.1, S.1.2.2.2.2.2.2.2.2.2.2.2.1, S.1.2.2.2.2.2.2.2.2.2.2.2.2.1), S.2), 1, 6) := by
        unfold cq_table
        rw [ok]
      obtain ⟨sb2, m1, m2, _, m4⟩ := mtab (nf := nf) (sa := sa) j8 (si := va_up (va_up (va_up si' 1 0) 61 1) 62 (si' 66)) (sj := va_up sj' 65 (sj' 69 - 2208988800)) (by rw [vup_eq]; exact j7) c 0 nf (by omega) (by omega) sb'
      have hM : f_Mo_table nf si sj sa sb = some (0, va_up (va_up (va_up si' 1 0) 61 1) 62 (si' 66), va_up sj' 65 (sj' 69 - 2208988800), sa, sb2) := by
        unfold f_Mo_table f_Mo_table_0
        rw [hT, l2, e5, Option.bind_some]
        dsimp only
        rw [if_neg (show ¬ (1 : Int32) = 0 by decide)]
        refine m1.trans ?_
        rw [vup_ne (by decide), vup_ne (by decide), vup_ne (by decide), l6, z36]
      have fr : ∀ k, k = 2 ∨ k = 55 ∨ k = 57 → va_up (va_up (va_up si' 1 0) 61 1) 62 (si' 66) k = si k := fun k hk => by
        rw [vup_ne (by omega), vup_ne (by omega), vup_ne (by omega)]
        rcases hk with rfl | hk
        · exact l5.trans (f0 2 (by omega))
        · rw [l4.1 k (by omega) (by omega) (by omega) (by omega) (by omega)]
          exact f0 k (by omega)
      refine ⟨_, _, _, _, _, _, hC, hM, rfl, ⟨⟨0, by omega, t2.clear _, ?_⟩, ⟨w, w1, w2, (fr 57 (by omega)).trans w3⟩, r3.trans (fr 2 (by omega)).symm, ⟨q, q1, q2, (fr 55 (by omega)).trans q3, fun k hk => (q4 k hk).trans ?_⟩, ⟨c, j8, j6, ?_, fun _ => ⟨?_, tv, av, x, ⟨fun k hk => ?_, j10, x3, x4, fun _ => e3⟩, fun k hk => ?_, x1, ?_⟩⟩, fun i hi => (r6 i hi).congr (fun _ _ _ => rfl) (fun b j z => ?_), r7⟩, ?_, ?_⟩
      · show va_up (va_up (va_up si' 1 0) 61 1) 62 (si' 66) 1 = _
        rw [vup_ne (by decide), vup_ne (by decide), vup_eq]
        rfl
      · show sb 54 k = sb2 54 k
        rw [m2 54 (by decide) (by decide), l4.2.2 54 (by decide) (by decide)]
      · show va_up (va_up (va_up si' 1 0) 61 1) 62 (si' 66) 61 = _
        rw [vup_ne (by decide), vup_eq, if_neg (by omega)]
      · show va_up (va_up (va_up si' 1 0) 61 1) 62 (si' 66) 62 = _
        rw [vup_eq]
        exact j7
      · obtain ⟨_, _, _, _, b5, b6, b7, b8, _⟩ := j9 k hk
        exact ⟨b5, b6, b7, b8⟩
      · obtain ⟨b1, b2, b3, b4, _⟩ := j9 k hk
        obtain ⟨g1, g2⟩ := m4 k (by omega) hk
        refine ⟨b1, ?_, b3, g2.trans b4⟩
        show sb2 63 k = _
        rw [g1, b2, show (2208988800 : Int64) = jj 2208988800 from rfl, jj_sub]
        congr 1
        omega
      · show va_up sj' 65 (sj' 69 - 2208988800) 65 = _
        rw [vup_eq, x2, show (2208988800 : Int64) = jj 2208988800 from rfl, jj_sub]
        congr 1
        omega
      · show sb2 b j = sb b j
        rw [m2 b (by unfold kBz at z; omega) (by unfold kBz at z; omega), l4.2.2 b (by unfold kBz at z; omega) (by unfold kBz at z; omega)]
      · unfold phi
        dsimp only
        omega
      · unfold phi
        dsimp only
        omega
    · refine fail f (ii (n : Int)) cn ex TI AH (va_up (va_up si' 36 f) 2 (ii (n : Int))) sj' sb' ?_ ?_ (l2.trans e2) rfl rfl (l4.tr (TF.flt (fun k h1 h2 h3 => by rw [vup_ne h3, vup_ne h2]) (fun _ _ => rfl)))
      · unfold f_ZF_tableOk f_ZF_tableOk_0
        rw [ini, Option.bind_some, hL, l1, Option.bind_some]
        dsimp only
        rw [if_neg (show ¬ (1 : Int32) = 0 by decide), e1, Option.bind_some]
        dsimp only
        rw [if_pos rfl]
        rfl
      · unfold f_ZF_tableNo f_ZF_tableNo_0
        rw [ini, Option.bind_some, hL, l1, Option.bind_some]
        dsimp only
        rw [if_neg (show ¬ (1 : Int32) = 0 by decide), e1, Option.bind_some]
        dsimp only
        rw [if_pos rfl]
        rfl
  · refine fail f p cn ex TI AH si' sj' sb' ?_ ?_ l2 l3 l4 l5
    · unfold f_ZF_tableOk f_ZF_tableOk_0
      rw [ini, Option.bind_some, hL, l1, Option.bind_some]
      dsimp only
      rw [if_pos rfl]
      rfl
    · unfold f_ZF_tableNo f_ZF_tableNo_0
      rw [ini, Option.bind_some, hL, l1, Option.bind_some]
      dsimp only
      rw [if_pos rfl]
      rfl
