/-! ===== rule ===== -/
theorem kAz_dis {q i a j : Nat} (h : kAz q a j) (hn : q ≠ i) : ¬ kAz i a j := by
  unfold kAz at *
  intro z
  rcases h with h | h | h | h | h | h <;> rcases z with z | z | z | z | z | z <;> omega
theorem kBz_dis {q i a j : Nat} (h : kBz q a j) (hn : q ≠ i) : ¬ kBz i a j := by
  unfold kBz at *
  omega
theorem kH_kAz {a j : Nat} (h : kH a j) : kAz 4 a j := by
  unfold kH at h
  unfold kAz
  omega
def pz (z : ZS) : Nat := z.2.2.2.2.2.2.2.2.2.2.2.2.2.2.1 + z.2.2.2.2.2.2.2.2.2.2.2.2.2.2.2.2.2.2.2.2.2.2.2.2.2.2.2.2.1
theorem phi_swap (S : CS) {i : Nat} (hi : i < 4) (z' : ZS) (s : Int32) (N : Nat) (A : Nat → Int32) : phi ((s, N, A, S.1.2.2.2), zsw S.2 i z') + pz (S.2 4) + S.1.2.1 = phi S + pz z' + N := by
  have e : ∀ j, zsw S.2 i z' j = if j = i then z' else if j = 4 then S.2 i else S.2 j := fun _ => rfl
  unfold phi pz
  dsimp only
  rw [e 0, e 1, e 2, e 3, e 4]
  rcases (show i = 0 ∨ i = 1 ∨ i = 2 ∨ i = 3 by omega) with rfl | rfl | rfl | rfl
  · rw [if_pos rfl, if_neg (by decide), if_neg (by decide), if_neg (by decide), if_neg (by decide), if_neg (by decide), if_neg (by decide), if_neg (by decide), if_pos rfl]
    omega
  · rw [if_neg (by decide), if_neg (by decide), if_pos rfl, if_neg (by decide), if_neg (by decide), if_neg (by decide), if_neg (by decide), if_neg (by decide), if_pos rfl]
    omega
  · rw [if_neg (by decide), if_neg (by decide), if_neg (by decide), if_neg (by decide), if_pos rfl, if_neg (by decide), if_neg (by decide), if_neg (by decide), if_pos rfl]
    omega
  · rw [if_neg (by decide), if_neg (by decide), if_neg (by decide), if_neg (by decide), if_neg (by decide), if_neg (by decide), if_pos rfl, if_neg (by decide), if_pos rfl]
    omega
theorem phi_ref (S : CS) (z' : ZS) (s pl : Int32) (N : Nat) (A : Nat → Int32) : phi ((s, N, A, S.1.2.2.2.1, S.1.2.2.2.2.1, S.1.2.2.2.2.2.1, S.1.2.2.2.2.2.2.1, pl, S.1.2.2.2.2.2.2.2.2), zup S.2 4 z') + pz (S.2 4) + S.1.2.1 = phi S + pz z' + N := by
  have e : ∀ j, zup S.2 4 z' j = if j = 4 then z' else S.2 j := fun _ => rfl
  unfold phi pz
  dsimp only
  rw [e 0, e 1, e 2, e 3, e 4, if_neg (by decide), if_neg (by decide), if_neg (by decide), if_neg (by decide), if_pos rfl]
  omega
theorem rzcase (p0 : Int32) : (∃ i : Nat, i < 4 ∧ p0 = ii (i : Int)) ∨ ((∀ nf, f_ZF_checkZone nf p0 = none ∧ g_ZF_checkZone nf p0 = some 1) ∧ (p0 < 0 ∨ ¬ p0 < 0 ∧ ¬ p0 < 4)) := by
  rcases zcase p0 with h | h
  · exact Or.inl h
  · rcases xcase p0 (n := 4) (by omega) with ⟨k, hk, rfl⟩ | ⟨_, hx2⟩
    · exact Or.inl ⟨k, hk, rfl⟩
    · refine Or.inr ⟨fun nf => ⟨(h nf).1, (h nf).2.1⟩, ?_⟩
      rcases hx2 with hx2 | ⟨hx2, _, hx3⟩
      · exact Or.inl hx2
      · exact Or.inr ⟨hx2, hx3⟩
theorem rzgood {i : Nat} (hi : i < 4) : ¬ ii (i : Int) < 0 ∧ ii (i : Int) < 4 := by
  constructor
  · rw [ii_lit, ii_lt (by omega) (by omega) (by omega) (by omega)]; omega
  · rw [ii_lit, ii_lt (by omega) (by omega) (by omega) (by omega)]; omega
/-- a fault's answer -/
theorem refI {nf : Nat} {S : CS} {c : Option (Int32 × Int64 × CS × Nat × Nat)} {q : Option (Int32 × MS)} {v : Int32} {z' : ZS} {pl : Int32} {M' : MS} {kc ks : Nat} (e1 : c = some (0, v.toInt64, ((0, S.1.2.1, S.1.2.2.1, S.1.2.2.2.1, S.1.2.2.2.2.1, S.1.2.2.2.2.2.1, S.1.2.2.2.2.2.2.1, pl, S.1.2.2.2.2.2.2.2.2), zup S.2 4 z'), kc, ks)) (e2 : q = some (v, M')) (h3 : M'.1 3 = 0) (hR : RR ((0, S.1.2.1, S.1.2.2.1, S.1.2.2.2.1, S.1.2.2.2.2.1, S.1.2.2.2.2.2.1, S.1.2.2.2.2.2.2.1, pl, S.1.2.2.2.2.2.2.2.2), zup S.2 4 z') M') (hk : kc + pz (S.2 4) ≤ 10 + pz z') (hs : ks + 2 * pz (S.2 4) ≤ 100 + 2 * pz z') : STWi nf RR S c q := by
  have p := phi_ref S z' 0 pl S.1.2.1 S.1.2.2.1
  exact ⟨0, _, _, kc, ks, v, M', e1, e2, congrArg some h3, fun _ => rfl, hR, by omega, by omega⟩
/-- a new zone's answer -/
theorem swpI {nf : Nat} {S : CS} {c : Option (Int32 × Int64 × CS × Nat × Nat)} {q : Option (Int32 × MS)} {v : Int32} {i : Nat} (hi : i < 4) {z' : ZS} {M' : MS} {kc ks : Nat} (e1 : c = some (0, v.toInt64, ((0, S.1.2.1, S.1.2.2.1, S.1.2.2.2), zsw S.2 i z'), kc, ks)) (e2 : q = some (v, M')) (h3 : M'.1 3 = 0) (hR : RR ((0, S.1.2.1, S.1.2.2.1, S.1.2.2.2), zsw S.2 i z') M') (hk : kc + pz (S.2 4) ≤ 10 + pz z') (hs : ks + 2 * pz (S.2 4) ≤ 100 + 2 * pz z') : STWi nf RR S c q := by
  have p := phi_swap S hi z' 0 S.1.2.1 S.1.2.2.1
  exact ⟨0, _, _, kc, ks, v, M', e1, e2, congrArg some h3, fun _ => rfl, hR, by omega, by omega⟩
/-- what the class holds behind a good rule text -/
def cZ (z : ZS) (ver : Int32) (T : Nat → Int32) (E sp ss : Nat) (so : Int) (x : Option XT2) (h c us : Nat) (Tc : Nat → Int32) : Prop :=
  z.1 = ver ∧ z.2.1 = 0 ∧ z.2.2.1 = ii (h : Int) ∧ z.2.2.2.1 = 0 ∧ z.2.2.2.2.1 = 0 ∧ z.2.2.2.2.2.1 = 0 ∧ RB z.2.2.2.2.2.2.2.2.2.2.2.2.2.1 z.2.2.2.2.2.2.2.2.2.2.2.2.2.2.1 z.2.2.2.2.2.2.2.2.2.2.2.2.2.2.2.1 c Tc ∧ RB z.2.2.2.2.2.2.2.2.2.2.2.2.2.2.2.2.2.2.2.2.2.2.2.2.2.2.2.1 z.2.2.2.2.2.2.2.2.2.2.2.2.2.2.2.2.2.2.2.2.2.2.2.2.2.2.2.2.1 z.2.2.2.2.2.2.2.2.2.2.2.2.2.2.2.2.2.2.2.2.2.2.2.2.2.2.2.2.2.1 E T ∧ z.2.2.2.2.2.2.2.2.1 0 = ii so ∧ z.2.2.2.2.2.2.2.2.2.1 0 = 0 ∧ z.2.2.2.2.2.2.2.2.2.2.1 0 = 0 ∧ (∀ k, k < ss → Tc k = T (sp + k)) ∧ Tc ss = 0 ∧ z.2.2.2.2.2.2.2.2.2.2.2.2.2.2.2.2.2.2.2.2.2.2.2.1 = ii (ss : Int) ∧ z.2.2.2.2.2.2.2.2.2.2.2.2.2.2.2.2.2.2.2.2.2.2.1 = ii (sp : Int) ∧ z.2.2.2.2.2.2.2.2.2.2.2.2.2.2.2.2.2.2.2.2.1 = ii so ∧ z.2.2.2.2.2.2.2.2.2.2.2.2.2.2.2.2.2.2.2.2.2.2.2.2.2.2.1 = 0 ∧ cRul z T Tc ss h c us so x
theorem iiz (a : Int) : ii (a - ((0 : Nat) : Int)) = ii a := by rw [show a - ((0 : Nat) : Int) = a by omega]
theorem bI_w (w : Bool) : bI w = if w then 1 else 0 := by cases w <;> rfl
set_option maxHeartbeats 1000000 in
theorem cruleF {nf : Nat} (hnf : 10000 ≤ nf) (S : CS) {i : Nat} (hi : i < 4) {n : Nat} (hn : 0 < n) (n1 : n ≤ 6000) {T : Nat → Int32} (n2 : RB S.1.1 S.1.2.1 S.1.2.2.1 n T) (hsp : RSpa (S.2 4)) :
    match rtext (LL T n) false 0 n with
    | .error x => ∃ (z' : ZS) (kc ks : Nat), cq_rule nf S (ii (i : Int)) 0 = some (0, (15 : Int32).toInt64, ((0, S.1.2.1, S.1.2.2.1, S.1.2.2.2.1, S.1.2.2.2.2.1, S.1.2.2.2.2.2.1, S.1.2.2.2.2.2.2.1, ii (x : Int), S.1.2.2.2.2.2.2.2.2), zup S.2 4 z'), kc, ks) ∧ RSpa z' ∧ kc + pz (S.2 4) ≤ 10 + pz z' ∧ ks + 2 * pz (S.2 4) ≤ 100 + 2 * pz z'
    | .ok (sp, ss, so, x) => ∃ (z' : ZS) (kc ks h c us : Nat) (Tc : Nat → Int32), cq_rule nf S (ii (i : Int)) 0 = some (0, (0 : Int32).toInt64, ((0, S.1.2.1, S.1.2.2.1, S.1.2.2.2), zsw S.2 i z'), kc, ks) ∧ cZ z' 50 T n sp ss so x h c us Tc ∧ kc + pz (S.2 4) ≤ 10 + pz z' ∧ ks + 2 * pz (S.2 4) ≤ 100 + 2 * pz z' := by
  obtain ⟨a1, a2, a3, a4, a5, a6, a7⟩ := zgood hi nf
  obtain ⟨⟨nc, Tc0, hch⟩, ⟨nt, Tt0, htx⟩⟩ := id hsp
  have n0 := n2.1
  have m0 : ¬ ii (n : Int) = 0 := by rw [ii_lit, ii_eq (by omega) (by omega) (by omega) (by omega)]; omega
  have hPT : PT S.1.1 S.1.2.1 S.1.2.2.1 T n := ⟨n, n2, by omega, by omega⟩
  have ini : f_RP_init nf 0 (ii (n : Int)) 0 = some (0, 0, ii (n : Int), 0) := by
    unfold f_RP_init f_RP_init_0
    rw [if_pos (by decide)]
  have hcl : ∀ x : Int32, f_By_clear nf x = some 0 := fun _ => rfl
  have rc := rtext_c (nf := nf) hPT (by omega) hnf false (st := 0) (by omega) (np := 0) (ns := 0) (am := 0) (aw := 0) (v3 := (S.2 4).2.2.2.2.2.2.2.2.2.2.2.2.2.2.2.2.2.2.1) (v4 := (S.2 4).2.2.2.2.2.2.2.2.2.2.2.2.2.2.2.2.2.2.2.1) (v5 := (S.2 4).2.2.2.2.2.2.2.2.2.2.2.2.2.2.2.2.2.2.2.2.1) (v6 := (S.2 4).2.2.2.2.2.2.2.2.2.2.2.2.2.2.2.2.2.2.2.2.2.1) (v7 := (S.2 4).2.2.2.2.2.2.2.2.2.2.2.2.2.2.2.2.2.2.2.2.2.2.1) (v8 := (S.2 4).2.2.2.2.2.2.2.2.2.2.2.2.2.2.2.2.2.2.2.2.2.2.2.1) (v9 := (S.2 4).2.2.2.2.2.2.2.2.2.2.2.2.2.2.2.2.2.2.2.2.2.2.2.2.1) (v10 := (S.2 4).2.2.2.2.2.2.2.2.2.2.2.2.2.2.2.2.2.2.2.2.2.2.2.2.2.1) (v11 := (S.2 4).2.2.2.2.2.2.2.2.2.2.2.2.2.2.2.2.2.2.2.2.2.2.2.2.2.2.1) htx (b0 := (S.2 4).2.2.2.2.2.2.2.2.2.2.2.2.2.2.2.2.2.2.2.2.2.2.2.2.2.2.2.2.2.2.1) (b1 := (S.2 4).2.2.2.2.2.2.2.2.2.2.2.2.2.2.2.2.2.2.2.2.2.2.2.2.2.2.2.2.2.2.2.1) (b2 := (S.2 4).2.2.2.2.2.2.2.2.2.2.2.2.2.2.2.2.2.2.2.2.2.2.2.2.2.2.2.2.2.2.2.2.1) (b3 := (S.2 4).2.2.2.2.2.2.2.2.2.2.2.2.2.2.2.2.2.2.2.2.2.2.2.2.2.2.2.2.2.2.2.2.2.1) (b4 := (S.2 4).2.2.2.2.2.2.2.2.2.2.2.2.2.2.2.2.2.2.2.2.2.2.2.2.2.2.2.2.2.2.2.2.2.2.1) (b5 := (S.2 4).2.2.2.2.2.2.2.2.2.2.2.2.2.2.2.2.2.2.2.2.2.2.2.2.2.2.2.2.2.2.2.2.2.2.2.1) (c0 := (S.2 4).2.2.2.2.2.2.2.2.2.2.2.2.2.2.2.2.2.2.2.2.2.2.2.2.2.2.2.2.2.2.2.2.2.2.2.2.1) (c1 := (S.2 4).2.2.2.2.2.2.2.2.2.2.2.2.2.2.2.2.2.2.2.2.2.2.2.2.2.2.2.2.2.2.2.2.2.2.2.2.2.1) (c2 := (S.2 4).2.2.2.2.2.2.2.2.2.2.2.2.2.2.2.2.2.2.2.2.2.2.2.2.2.2.2.2.2.2.2.2.2.2.2.2.2.2.1) (c3 := (S.2 4).2.2.2.2.2.2.2.2.2.2.2.2.2.2.2.2.2.2.2.2.2.2.2.2.2.2.2.2.2.2.2.2.2.2.2.2.2.2.2.1) (c4 := (S.2 4).2.2.2.2.2.2.2.2.2.2.2.2.2.2.2.2.2.2.2.2.2.2.2.2.2.2.2.2.2.2.2.2.2.2.2.2.2.2.2.2.1) (c5 := (S.2 4).2.2.2.2.2.2.2.2.2.2.2.2.2.2.2.2.2.2.2.2.2.2.2.2.2.2.2.2.2.2.2.2.2.2.2.2.2.2.2.2.2)
  have z0 : ii ((0 : Nat) : Int) = (0 : Int32) := rfl
  have zp : bI false = (0 : Int32) := rfl
  rw [z0, zp, n0] at rc
  generalize hC : cq_rule nf S (ii (i : Int)) 0 = C
  unfold cq_rule f_ZF_ruleOk f_ZF_ruleOk_0 f_ZF_ruleNo f_ZF_ruleNo_0 at hC
  rw [a5, if_pos hi, a1, Option.bind_some, Option.bind_some, n0, if_neg m0, if_neg m0, ini, Option.bind_some, Option.bind_some] at hC
  dsimp only at hC
  cases er : rtext (LL T n) false 0 n with
  | error x =>
    rw [er] at rc
    dsimp only at rc ⊢
    obtain ⟨w1, w2, w3, w4, r1, r2, r3, r4, r5, r6, r7, r8, r9, e1, e2, e3, e4, e5, e6, u1, u2, u3, u4, u5, u6, rc1⟩ := rc
    rw [rc1, Option.bind_some, Option.bind_some] at hC
    dsimp only at hC
    rw [hcl, Option.bind_some, Option.bind_some, if_pos rfl, if_pos rfl] at hC
    refine ⟨_, _, _, hC.symm.trans rfl, ⟨⟨nc, Tc0, hch⟩, 0, Tt0, htx.clear Tt0⟩, ?_, ?_⟩
    · unfold pz
      dsimp only
      omega
    · unfold pz
      dsimp only
      omega
  | ok r =>
    obtain ⟨sp, ss, so, x⟩ := r
    rw [er] at rc
    dsimp only at rc ⊢
    obtain ⟨po, w1, w2, w3, w4, has, wd, uo, up, us, N', A', e1, e2, e3, e4, e5, e6, u1, u2, u3, u4, u5, u6, kc, ks, rc1, rB, rk, rs, rx⟩ := rc
    obtain ⟨l1, ⟨l2, l3, l4, l5, l6⟩, l7, l8, l9⟩ := rtext_ok er
    dsimp only at l2 l3 l4 l5 l6 l7 l8 l9
    rw [rc1, Option.bind_some, Option.bind_some] at hC
    dsimp only at hC
    rw [hcl, Option.bind_some, Option.bind_some, if_neg (show ¬ (1 : Int32) = 0 by decide), if_neg (show ¬ (1 : Int32) = 0 by decide), if_pos (show (0 : Int32) = 0 from rfl), if_pos (show (0 : Int32) = 0 from rfl)] at hC
    unfold f_ZF_ruleOk_93 f_ZF_ruleNo_93 at hC
    have keep : f_ZF_keepSpareZone nf (ii (i : Int)) = some 0 := by
      unfold f_ZF_keepSpareZone f_ZF_keepSpareZone_0
      rw [a5, if_neg a6, if_neg a6]
    rw [Nat.sub_zero] at rB
    have rB' : RB (ii ((n - 0 : Nat) : Int)) N' A' n T := by
      rw [Nat.sub_zero]
      exact rB.T_congr (fun k _ => by rw [Nat.zero_add])
    have hsp0 : ii ((sp : Int) - ((0 : Nat) : Int)) = ii (sp : Int) := iiz _
    have hsel : ∃ p1 s1 : Nat, (has = 0 ∨ has = 1) ∧ (has = 1 → p1 + s1 ≤ n ∧ s1 ≤ 10 ∧ up = ii (p1 : Int) ∧ us = ii (s1 : Int)) ∧ ∀ y, x = some y → p1 = y.1 ∧ s1 = y.2.1 := by
      match x, rx, l9 with
      | none, ⟨b1, b2⟩, _ => exact ⟨0, 0, Or.inl b1, fun z => absurd (b1.symm.trans z) (by decide), fun y hy => by cases hy⟩
      | some (up', us', uo', d1, t1, d2, t2, w), ⟨b1, b2, b3, b4, b5, b6, b7⟩, ⟨⟨v1, v2, v3, v4, v5⟩, _⟩ => exact ⟨up', us', Or.inr b1, fun _ => ⟨v4, v2, b4.trans (iiz _), b5⟩, fun y hy => by cases hy; exact ⟨rfl, rfl⟩⟩
    obtain ⟨p1, s1, hh, h1, hxy⟩ := hsel
    obtain ⟨h, c, of', ds', ix', sd', ut', N2, A2, Tc, kc2, ks2, cb, cb1, cb2, cb3, cb4, cb5, cb6, cb7, cb8, cb9, cb10⟩ := cbecome hnf (ver := 50) (a0 := (S.2 4).1) (a1 := (S.2 4).2.1) (a2 := (S.2 4).2.2.1) (a3 := (S.2 4).2.2.2.1) (a4 := (S.2 4).2.2.2.2.1) (a5 := (S.2 4).2.2.2.2.2.1) (of := (S.2 4).2.2.2.2.2.2.2.2.1) (ds := (S.2 4).2.2.2.2.2.2.2.2.2.1) (ix := (S.2 4).2.2.2.2.2.2.2.2.2.2.1) (sd := (S.2 4).2.2.2.2.2.2.2.2.2.2.2.1) (ut := (S.2 4).2.2.2.2.2.2.2.2.2.2.2.2.1) (so := ii so) (uo := uo) (upx := up) (usx := us) hch rB' (by omega) l5 l3 hsp0 rfl hh h1
    rw [cb, Option.bind_some] at hC
    dsimp only at hC
    rw [keep, Option.bind_some] at hC
    refine ⟨_, _, _, h, c, s1, Tc, hC.symm.trans rfl, ⟨rfl, rfl, rfl, rfl, rfl, rfl, cb1, rB', cb4, cb5, cb6, cb7, cb8, rfl, hsp0, rfl, rfl, ?_⟩, ?_, ?_⟩
    · match x, rx, hxy with
      | none, ⟨b1, b2⟩, _ => exact ⟨(cb9 b1).1, (cb9 b1).2, b1, b2⟩
      | some (up', us', uo', d1, t1, d2, t2, w), ⟨b1, b2, b3, b4, b5, b6, b7⟩, hxy =>
        obtain ⟨y1, y2⟩ := hxy _ rfl
        dsimp only at y1 y2
        subst y1 y2
        obtain ⟨d3, d4, d5, d6, d7, d8, d9⟩ := cb10 b1
        exact ⟨rfl, d3, d4, d5.trans b3, d6, d7, d8, d9, b1, b2.trans (bI_w w), b5, b4.trans (iiz _), b3, b6, b7⟩
    · unfold pz
      dsimp only
      omega
    · unfold pz
      dsimp only
      omega
set_option maxHeartbeats 1000000 in
theorem cruleT {nf : Nat} (hnf : 10000 ≤ nf) (S : CS) {i : Nat} (hi : i < 4) {n : Nat} (hn : 0 < n) (n1 : n ≤ 6000) {T : Nat → Int32} (n2 : RB S.1.1 S.1.2.1 S.1.2.2.1 n T) (hsp : RSpa (S.2 4)) :
    match rtext (LL T n) true 0 n with
    | .error x => ∃ (z' : ZS) (kc ks : Nat), cq_rule nf S (ii (i : Int)) 1 = some (0, (15 : Int32).toInt64, ((0, S.1.2.1, S.1.2.2.1, S.1.2.2.2.1, S.1.2.2.2.2.1, S.1.2.2.2.2.2.1, S.1.2.2.2.2.2.2.1, ii (x : Int), S.1.2.2.2.2.2.2.2.2), zup S.2 4 z'), kc, ks) ∧ RSpa z' ∧ kc + pz (S.2 4) ≤ 10 + pz z' ∧ ks + 2 * pz (S.2 4) ≤ 100 + 2 * pz z'
    | .ok (sp, ss, so, x) => ∃ (z' : ZS) (kc ks h c us : Nat) (Tc : Nat → Int32), cq_rule nf S (ii (i : Int)) 1 = some (0, (0 : Int32).toInt64, ((0, S.1.2.1, S.1.2.2.1, S.1.2.2.2), zsw S.2 i z'), kc, ks) ∧ cZ z' 51 T n sp ss so x h c us Tc ∧ kc + pz (S.2 4) ≤ 10 + pz z' ∧ ks + 2 * pz (S.2 4) ≤ 100 + 2 * pz z' := by
  obtain ⟨a1, a2, a3, a4, a5, a6, a7⟩ := zgood hi nf
  obtain ⟨⟨nc, Tc0, hch⟩, ⟨nt, Tt0, htx⟩⟩ := id hsp
  have n0 := n2.1
  have m0 : ¬ ii (n : Int) = 0 := by rw [ii_lit, ii_eq (by omega) (by omega) (by omega) (by omega)]; omega
  have hPT : PT S.1.1 S.1.2.1 S.1.2.2.1 T n := ⟨n, n2, by omega, by omega⟩
  have ini : f_RP_init nf 0 (ii (n : Int)) 1 = some (0, 0, ii (n : Int), 1) := by
    unfold f_RP_init f_RP_init_0
    rw [if_pos (by decide)]
  have hcl : ∀ x : Int32, f_By_clear nf x = some 0 := fun _ => rfl
  have rc := rtext_c (nf := nf) hPT (by omega) hnf true (st := 0) (by omega) (np := 0) (ns := 0) (am := 0) (aw := 0) (v3 := (S.2 4).2.2.2.2.2.2.2.2.2.2.2.2.2.2.2.2.2.2.1) (v4 := (S.2 4).2.2.2.2.2.2.2.2.2.2.2.2.2.2.2.2.2.2.2.1) (v5 := (S.2 4).2.2.2.2.2.2.2.2.2.2.2.2.2.2.2.2.2.2.2.2.1) (v6 := (S.2 4).2.2.2.2.2.2.2.2.2.2.2.2.2.2.2.2.2.2.2.2.2.1) (v7 := (S.2 4).2.2.2.2.2.2.2.2.2.2.2.2.2.2.2.2.2.2.2.2.2.2.1) (v8 := (S.2 4).2.2.2.2.2.2.2.2.2.2.2.2.2.2.2.2.2.2.2.2.2.2.2.1) (v9 := (S.2 4).2.2.2.2.2.2.2.2.2.2.2.2.2.2.2.2.2.2.2.2.2.2.2.2.1) (v10 := (S.2 4).2.2.2.2.2.2.2.2.2.2.2.2.2.2.2.2.2.2.2.2.2.2.2.2.2.1) (v11 := (S.2 4).2.2.2.2.2.2.2.2.2.2.2.2.2.2.2.2.2.2.2.2.2.2.2.2.2.2.1) htx (b0 := (S.2 4).2.2.2.2.2.2.2.2.2.2.2.2.2.2.2.2.2.2.2.2.2.2.2.2.2.2.2.2.2.2.1) (b1 := (S.2 4).2.2.2.2.2.2.2.2.2.2.2.2.2.2.2.2.2.2.2.2.2.2.2.2.2.2.2.2.2.2.2.1) (b2 := (S.2 4).2.2.2.2.2.2.2.2.2.2.2.2.2.2.2.2.2.2.2.2.2.2.2.2.2.2.2.2.2.2.2.2.1) (b3 := (S.2 4).2.2.2.2.2.2.2.2.2.2.2.2.2.2.2.2.2.2.2.2.2.2.2.2.2.2.2.2.2.2.2.2.2.1) (b4 := (S.2 4).2.2.2.2.2.2.2.2.2.2.2.2.2.2.2.2.2.2.2.2.2.2.2.2.2.2.2.2.2.2.2.2.2.2.1) (b5 := (S.2 4).2.2.2.2.2.2.2.2.2.2.2.2.2.2.2.2.2.2.2.2.2.2.2.2.2.2.2.2.2.2.2.2.2.2.2.1) (c0 := (S.2 4).2.2.2.2.2.2.2.2.2.2.2.2.2.2.2.2.2.2.2.2.2.2.2.2.2.2.2.2.2.2.2.2.2.2.2.2.1) (c1 := (S.2 4).2.2.2.2.2.2.2.2.2.2.2.2.2.2.2.2.2.2.2.2.2.2.2.2.2.2.2.2.2.2.2.2.2.2.2.2.2.1) (c2 := (S.2 4).2.2.2.2.2.2.2.2.2.2.2.2.2.2.2.2.2.2.2.2.2.2.2.2.2.2.2.2.2.2.2.2.2.2.2.2.2.2.1) (c3 := (S.2 4).2.2.2.2.2.2.2.2.2.2.2.2.2.2.2.2.2.2.2.2.2.2.2.2.2.2.2.2.2.2.2.2.2.2.2.2.2.2.2.1) (c4 := (S.2 4).2.2.2.2.2.2.2.2.2.2.2.2.2.2.2.2.2.2.2.2.2.2.2.2.2.2.2.2.2.2.2.2.2.2.2.2.2.2.2.2.1) (c5 := (S.2 4).2.2.2.2.2.2.2.2.2.2.2.2.2.2.2.2.2.2.2.2.2.2.2.2.2.2.2.2.2.2.2.2.2.2.2.2.2.2.2.2.2)
  have z0 : ii ((0 : Nat) : Int) = (0 : Int32) := rfl
  have zp : bI true = (1 : Int32) := rfl
  rw [z0, zp, n0] at rc
  generalize hC : cq_rule nf S (ii (i : Int)) 1 = C
  unfold cq_rule f_ZF_ruleOk f_ZF_ruleOk_0 f_ZF_ruleNo f_ZF_ruleNo_0 at hC
  rw [a5, if_pos hi, a1, Option.bind_some, Option.bind_some, n0, if_neg m0, if_neg m0, ini, Option.bind_some, Option.bind_some] at hC
  dsimp only at hC
  cases er : rtext (LL T n) true 0 n with
  | error x =>
    rw [er] at rc
    dsimp only at rc ⊢
    obtain ⟨w1, w2, w3, w4, r1, r2, r3, r4, r5, r6, r7, r8, r9, e1, e2, e3, e4, e5, e6, u1, u2, u3, u4, u5, u6, rc1⟩ := rc
    rw [rc1, Option.bind_some, Option.bind_some] at hC
    dsimp only at hC
    rw [hcl, Option.bind_some, Option.bind_some, if_pos rfl, if_pos rfl] at hC
    refine ⟨_, _, _, hC.symm.trans rfl, ⟨⟨nc, Tc0, hch⟩, 0, Tt0, htx.clear Tt0⟩, ?_, ?_⟩
    · unfold pz
      dsimp only
      omega
    · unfold pz
      dsimp only
      omega
  | ok r =>
    obtain ⟨sp, ss, so, x⟩ := r
    rw [er] at rc
    dsimp only at rc ⊢
    obtain ⟨po, w1, w2, w3, w4, has, wd, uo, up, us, N', A', e1, e2, e3, e4, e5, e6, u1, u2, u3, u4, u5, u6, kc, ks, rc1, rB, rk, rs, rx⟩ := rc
    obtain ⟨l1, ⟨l2, l3, l4, l5, l6⟩, l7, l8, l9⟩ := rtext_ok er
    dsimp only at l2 l3 l4 l5 l6 l7 l8 l9
    rw [rc1, Option.bind_some, Option.bind_some] at hC
    dsimp only at hC
    rw [hcl, Option.bind_some, Option.bind_some, if_neg (show ¬ (1 : Int32) = 0 by decide), if_neg (show ¬ (1 : Int32) = 0 by decide), if_neg (show ¬ (1 : Int32) = 0 by decide), if_neg (show ¬ (1 : Int32) = 0 by decide)] at hC
    unfold f_ZF_ruleOk_93 f_ZF_ruleNo_93 at hC
    have keep : f_ZF_keepSpareZone nf (ii (i : Int)) = some 0 := by
      unfold f_ZF_keepSpareZone f_ZF_keepSpareZone_0
      rw [a5, if_neg a6, if_neg a6]
    rw [Nat.sub_zero] at rB
    have rB' : RB (ii ((n - 0 : Nat) : Int)) N' A' n T := by
      rw [Nat.sub_zero]
      exact rB.T_congr (fun k _ => by rw [Nat.zero_add])
    have hsp0 : ii ((sp : Int) - ((0 : Nat) : Int)) = ii (sp : Int) := iiz _
    have hsel : ∃ p1 s1 : Nat, (has = 0 ∨ has = 1) ∧ (has = 1 → p1 + s1 ≤ n ∧ s1 ≤ 10 ∧ up = ii (p1 : Int) ∧ us = ii (s1 : Int)) ∧ ∀ y, x = some y → p1 = y.1 ∧ s1 = y.2.1 := by
      match x, rx, l9 with
      | none, ⟨b1, b2⟩, _ => exact ⟨0, 0, Or.inl b1, fun z => absurd (b1.symm.trans z) (by decide), fun y hy => by cases hy⟩
      | some (up', us', uo', d1, t1, d2, t2, w), ⟨b1, b2, b3, b4, b5, b6, b7⟩, ⟨⟨v1, v2, v3, v4, v5⟩, _⟩ => exact ⟨up', us', Or.inr b1, fun _ => ⟨v4, v2, b4.trans (iiz _), b5⟩, fun y hy => by cases hy; exact ⟨rfl, rfl⟩⟩
    obtain ⟨p1, s1, hh, h1, hxy⟩ := hsel
    obtain ⟨h, c, of', ds', ix', sd', ut', N2, A2, Tc, kc2, ks2, cb, cb1, cb2, cb3, cb4, cb5, cb6, cb7, cb8, cb9, cb10⟩ := cbecome hnf (ver := 51) (a0 := (S.2 4).1) (a1 := (S.2 4).2.1) (a2 := (S.2 4).2.2.1) (a3 := (S.2 4).2.2.2.1) (a4 := (S.2 4).2.2.2.2.1) (a5 := (S.2 4).2.2.2.2.2.1) (of := (S.2 4).2.2.2.2.2.2.2.2.1) (ds := (S.2 4).2.2.2.2.2.2.2.2.2.1) (ix := (S.2 4).2.2.2.2.2.2.2.2.2.2.1) (sd := (S.2 4).2.2.2.2.2.2.2.2.2.2.2.1) (ut := (S.2 4).2.2.2.2.2.2.2.2.2.2.2.2.1) (so := ii so) (uo := uo) (upx := up) (usx := us) hch rB' (by omega) l5 l3 hsp0 rfl hh h1
    rw [cb, Option.bind_some] at hC
    dsimp only at hC
    rw [keep, Option.bind_some] at hC
    refine ⟨_, _, _, h, c, s1, Tc, hC.symm.trans rfl, ⟨rfl, rfl, rfl, rfl, rfl, rfl, cb1, rB', cb4, cb5, cb6, cb7, cb8, rfl, hsp0, rfl, rfl, ?_⟩, ?_, ?_⟩
    · match x, rx, hxy with
      | none, ⟨b1, b2⟩, _ => exact ⟨(cb9 b1).1, (cb9 b1).2, b1, b2⟩
      | some (up', us', uo', d1, t1, d2, t2, w), ⟨b1, b2, b3, b4, b5, b6, b7⟩, hxy =>
        obtain ⟨y1, y2⟩ := hxy _ rfl
        dsimp only at y1 y2
        subst y1 y2
        obtain ⟨d3, d4, d5, d6, d7, d8, d9⟩ := cb10 b1
        exact ⟨rfl, d3, d4, d5.trans b3, d6, d7, d8, d9, b1, b2.trans (bI_w w), b5, b4.trans (iiz _), b3, b6, b7⟩
    · unfold pz
      dsimp only
      omega
    · unfold pz
      dsimp only
      omega
set_option maxHeartbeats 1000000 in
/-- the reference, behind the check of the zone; the class's side given -/
theorem st_rule1 {nf : Nat} (hnf : 10000 ≤ nf) (S : CS) {si : Nat → Int32} {sj : Nat → Int64} {sa : Nat → Nat → Int32} {sb : Nat → Nat → Int64} (h : RR S (si, sj, sa, sb)) {i n : Nat} (hi : i < 4) (hn : 0 < n) (n1 : n ≤ 6000) (n2 : RB S.1.1 S.1.2.1 S.1.2.2.1 n (sa 0)) (wide : Bool) {ver : Int32} (hv : ver = if wide then 51 else 50) {c : Option (Int32 × Int64 × CS × Nat × Nat)}
    (hc : match rtext (LL (sa 0) n) wide 0 n with
    | .error x => ∃ (z' : ZS) (kc ks : Nat), c = some (0, (15 : Int32).toInt64, ((0, S.1.2.1, S.1.2.2.1, S.1.2.2.2.1, S.1.2.2.2.2.1, S.1.2.2.2.2.2.1, S.1.2.2.2.2.2.2.1, ii (x : Int), S.1.2.2.2.2.2.2.2.2), zup S.2 4 z'), kc, ks) ∧ RSpa z' ∧ kc + pz (S.2 4) ≤ 10 + pz z' ∧ ks + 2 * pz (S.2 4) ≤ 100 + 2 * pz z'
    | .ok (sp, ss, so, x) => ∃ (z' : ZS) (kc ks h c' us : Nat) (Tc : Nat → Int32), c = some (0, (0 : Int32).toInt64, ((0, S.1.2.1, S.1.2.2.1, S.1.2.2.2), zsw S.2 i z'), kc, ks) ∧ cZ z' ver (sa 0) n sp ss so x h c' us Tc ∧ kc + pz (S.2 4) ≤ 10 + pz z' ∧ ks + 2 * pz (S.2 4) ≤ 100 + 2 * pz z') : STWi nf RR S c (f_Mo_rule_59 nf (ii (n : Int)) (ii (i : Int)) ver (va_up (va_up si 3 0) 1 0) sj sa sb) := by
  have hby : ∀ k, k < n → ∃ b : Nat, b < 256 ∧ sa 0 k = ii (b : Int) := fun k hk => n2.byte hk
  have mr := mrule (nf := nf) (si := va_up (va_up si 3 0) 1 0) (sj := sj) (sb := sb) (sa := sa) (E := n) (by omega) hby (st := 0) (by omega) (by omega) (wide := wide) (ver := ver) (by subst hv; cases wide <;> decide)
  have z0 : ii ((0 : Nat) : Int) = (0 : Int32) := rfl
  rw [z0] at mr
  obtain ⟨fl, si1, sa1, mr1, mr2, mr3, mr4⟩ := mr
  generalize sel : f_Mo_rule_59 nf (ii (n : Int)) (ii (i : Int)) ver (va_up (va_up si 3 0) 1 0) sj sa sb = Q
  unfold f_Mo_rule_59 at sel
  rw [mr1, Option.bind_some] at sel
  dsimp only at sel
  have fI : ∀ k, kI k → k ≠ 1 → si1 k = si k := fun k hk k1 => by
    rw [mr2 k (by unfold kI at hk; omega) (by unfold kI at hk; omega) (by unfold kI at hk; omega) (by unfold kI at hk; omega), vup_ne k1, vup_ne (by unfold kI at hk; omega)]
  have f1 : si1 1 = 0 := by rw [mr2 1 (by decide) (by decide) (by decide) (by decide)]; rfl
  have f3 : si1 3 = 0 := by rw [mr2 3 (by decide) (by decide) (by decide) (by decide)]; rfl
  have fT : ∀ j, sa1 0 j = sa 0 j := fun j => mr3 _ _ (by unfold kH; omega)
  cases er : rtext (LL (sa 0) n) wide 0 n with
  | error x =>
    rw [er] at hc mr4
    dsimp only at hc mr4
    obtain ⟨z', kc, ks, hc1, hc2, hc3, hc4⟩ := hc
    rw [mr4.1, if_pos rfl] at sel
    refine refI hc1 sel.symm ?_ (h.ref (n2.clear (sa1 0)) ?_ ?_ (fun k hk k1 k2 => by rw [vup_ne k2]; exact fI k hk k1) (fun j => mr3 _ _ (by unfold kH; omega)) (fun _ _ _ => rfl) hc2 (fun q hq a j hk => mr3 _ _ (fun z => kAz_dis hk (by omega) (kH_kAz z))) (fun _ _ _ _ _ => rfl)) hc3 hc4
    · show va_up si1 2 (si1 35) 3 = 0
      rw [vup_ne (by decide), f3]
    · rw [vup_ne (by decide)]; exact f1
    · rw [vup_eq]; exact mr4.2
  | ok r =>
    obtain ⟨sp, ss, so, x⟩ := r
    rw [er] at hc mr4
    dsimp only at hc mr4
    obtain ⟨z', kc, ks, hh, c', us, Tc, hc1, ⟨y1, y2, y3, y4, y5, y6, y7, y8, y9, y10, y11, y12, y13, y14, y15, y16, y17, y18⟩, hc3, hc4⟩ := hc
    obtain ⟨m0, m1⟩ := mr4
    obtain ⟨l1, ⟨l2, l3, l4, l5, l6⟩, l7, l8, l9⟩ := rtext_ok er
    dsimp only at l2 l3 l4 l5 l6 l7 l8 l9
    have hs : (hh = 1 ∨ hh = 2) ∧ sa1 23 4 = ii (hh : Int) ∧ (hh = 2 → us ≤ 10 ∧ sa1 25 9 = ii (us : Int)) := by
      obtain ⟨q1, q2, q3, q4⟩ := m1
      match x, y18, q4, l9 with
      | none, ⟨b1, _⟩, q4, _ => subst b1; exact ⟨Or.inl rfl, q4, fun z => absurd z (by decide)⟩
      | some (up', us', uo', d1, t1, d2, t2, w), ⟨b1, b2, _⟩, ⟨q4, q5, _⟩, ⟨⟨v1, v2, v3, v4, v5⟩, _⟩ => subst b1 b2; exact ⟨Or.inr rfl, q4, fun _ => ⟨v2, q5⟩⟩
    obtain ⟨sa2, t1, t2⟩ := mtake (nf := nf) (si := si1) (sj := sj) (sb := sb) hnf (h := hh) (s0 := ss) (s1 := us) (E := n) (ver := ver) hs.1 hs.2.1 l3 m1.1 hs.2.2 (by omega)
    have p1 := mput (nf := nf) (si := si1) (sj := sj) (x := i) (o := 4) (by omega) (by omega) (by omega) (by omega) sa2 sb
    rw [show ii ((4 : Nat) : Int) = (4 : Int32) from rfl] at p1
    rw [m0, if_neg (by decide), t1, Option.bind_some] at sel
    dsimp only at sel
    rw [p1, Option.bind_some] at sel
    dsimp only at sel
    have hz := rzon_rule (sb := sb) y1 (by subst hv; cases wide <;> decide) y2 y3 y4 y5 y6 er (fun k _ => fT k) hn m1 t2 y7 y8 y9 y10 y11 y12 y13 y14 y15 y16 y17 y18
    have fr := t2.2.2.2.2.2.2.2.2.2.2.2.1
    refine swpI hi hc1 sel.symm f3 (h.swap hi (n2.clear _) f1 fI (fun j => ?_) (fun b j hb => putB_out (by unfold kBz; omega)) (hz.mv (putA_mv i 4 sa2) (putB_mv i 4 sb)) (fun q hq hqi a j hk => ?_) (fun q hq hqi a j hk => putB_out (kBz_dis hk hqi))) hc3 hc4
    · rw [putA_out (by unfold kAz; omega), fr _ _ (by unfold kAz; omega), mr3 _ _ (by unfold kH; omega)]
    · rw [putA_out (kAz_dis hk hqi), fr _ _ (kAz_dis hk (by omega)), mr3 _ _ (fun z => kAz_dis hk (by omega) (kH_kAz z))]
set_option maxHeartbeats 1000000 in
theorem st_rule {nf : Nat} (hnf : 10000 ≤ nf) (S : CS) (M : MS) (p0 p1 : Int32) (hp : p1 = 0 ∨ p1 = 1) (h : RR S M) : STWi nf RR S (cq_rule nf S p0 p1) (f_Mo_rule nf p0 p1 M.1 M.2.1 M.2.2.1 M.2.2.2) := by
  obtain ⟨si, sj, sa, sb⟩ := M
  dsimp only
  have e15 : f_Mo_rule_15 nf p0 p1 1 si sj sa sb = some (0, va_up si 3 1, sj, sa, sb) := by
    unfold f_Mo_rule_15
    rw [if_neg (by decide)]
  rcases rzcase p0 with ⟨i, hi, rfl⟩ | ⟨hz, hz2⟩
  · obtain ⟨g1, g2⟩ := rzgood hi
    obtain ⟨n, n1, n2, n3⟩ := id h.1
    have n0 := n2.1
    dsimp only at n2 n3 n0
    generalize hQ : f_Mo_rule nf (ii (i : Int)) p1 si sj sa sb = Q
    unfold f_Mo_rule f_Mo_rule_0 at hQ
    rw [if_neg g1, if_pos g2] at hQ
    unfold f_Mo_rule_15 at hQ
    rw [if_pos (show (0 : Int32) ≤ 0 by decide)] at hQ
    by_cases c0 : n = 0
    · subst c0
      obtain ⟨a1, a2, a3, a4, a5, a6, a7⟩ := zgood hi nf
      have n0' : S.1.1 = 0 := n0
      have n3' : si 1 = 0 := n3
      generalize hC : cq_rule nf S (ii (i : Int)) p1 = C
      unfold cq_rule f_ZF_ruleOk f_ZF_ruleOk_0 f_ZF_ruleNo f_ZF_ruleNo_0 at hC
      rw [a5, if_pos hi, a1, Option.bind_some, Option.bind_some, n0', if_pos rfl, if_pos rfl] at hC
      rw [if_pos n3'] at hQ
      refine refI (v := 1) (z' := S.2 4) (pl := 0) (hC.symm.trans rfl) hQ.symm rfl (h.ref (n2.clear (sa 0)) rfl rfl (fun k hk k1 k2 => by rw [vup_ne k2, vup_ne k1, vup_ne (by unfold kI at hk; omega)]) (fun _ => rfl) (fun _ _ _ => rfl) h.2.2.2.2.2.2 (fun _ _ _ _ _ => rfl) (fun _ _ _ _ _ => rfl)) (by omega) (by omega)
    · have m0 : ¬ ii (n : Int) = 0 := by rw [ii_lit, ii_eq (by omega) (by omega) (by omega) (by omega)]; omega
      rw [n3, if_neg m0] at hQ
      rcases hp with rfl | rfl
      · rw [if_pos rfl] at hQ
        rw [← hQ]
        exact st_rule1 hnf S h hi (by omega) n1 n2 false rfl (cruleF hnf S hi (by omega) n1 n2 h.2.2.2.2.2.2)
      · rw [if_neg (by decide)] at hQ
        rw [← hQ]
        exact st_rule1 hnf S h hi (by omega) n1 n2 true rfl (cruleT hnf S hi (by omega) n1 n2 h.2.2.2.2.2.2)
  · refine noI h 1 (by decide) ?_ ?_
    · unfold cq_rule f_ZF_ruleOk f_ZF_ruleOk_0 f_ZF_ruleNo f_ZF_ruleNo_0 g_ZF_rule g_ZF_rule_0
      rw [(hz nf).1, (hz nf).2]
      by_cases w : p0.toNatClampNeg < 4
      · rw [if_pos w]
        rfl
      · rw [if_neg w]
        rfl
    · unfold f_Mo_rule f_Mo_rule_0 f_Mo_rule_10
      rw [e15]
      rcases hz2 with q | ⟨q1, q2⟩
      · rw [if_pos q]
      · rw [if_neg q1, if_neg q2]
