
theorem d_LAW_23 : decode code 23 = .ok (.iload 4, 2) := by decide +kernel
theorem d_LAW_25 : decode code 25 = .ok (.aload_n 0, 1) := by decide +kernel
theorem d_LAW_26 : decode code 26 = .ok (.arraylength, 1) := by decide +kernel
theorem d_LAW_27 : decode code 27 = .ok (.bipush 6, 2) := by decide +kernel
theorem d_LAW_29 : decode code 29 = .ok (.isub, 1) := by decide +kernel
theorem d_LAW_30 : decode code 30 = .ok (.if_icmp .gt 2151, 3) := by decide +kernel
theorem d_LAW_33 : decode code 33 = .ok (.aload_n 0, 1) := by decide +kernel
theorem d_LAW_34 : decode code 34 = .ok (.iload 4, 2) := by decide +kernel
theorem d_LAW_36 : decode code 36 = .ok (.iaload, 1) := by decide +kernel
theorem d_LAW_37 : decode code 37 = .ok (.bipush 31, 2) := by decide +kernel
theorem d_LAW_39 : decode code 39 = .ok (.iand, 1) := by decide +kernel
theorem d_LAW_40 : decode code 40 = .ok (.tableswitch 2135 0 27 #[128, 228, 284, 368, 381, 394, 462, 529, 597, 677, 757, 836, 948, 1060, 1159, 1282, 1382, 1437, 1536, 1635, 1703, 1771, 1827, 1840, 1895, 1962, 2020, 2078], 128) := by decide +kernel
theorem d_LAW_2175 : decode code 2175 = .ok (.iinc 4 6, 3) := by decide +kernel
theorem d_LAW_2178 : decode code 2178 = .ok (.goto (-2155), 3) := by decide +kernel
theorem d_LAW_2181 : decode code 2181 = .ok (.iconst 1, 1) := by decide +kernel
theorem d_LAW_2182 : decode code 2182 = .ok (.ireturn, 1) := by decide +kernel
section
variable {p : Program} {l : Launch} {e : Env} {R : Room} {s : State} {m : MethodId} {args : Array Value} {below : List Frame} {meth : Method} {c : Code} {H : Heap} {locs : List Loc} {cells slots : Nat} {Q : State → Prop} {ls : Array Slot} {dC : Nat → ClassId} {dI : Nat → Nat → Nat} {hx hm o : Nat} {S : CS} {M : MS} {a : Int64} {b L : Nat} {xs : Nat → Int32}
theorem vpi {L j k : Nat} (h : 6 * j + 6 ≤ L) (hk : k < 6) (hL : L ≤ 3072) : vp_in (ii (6 * (j : Int) + (k : Int))) L := by
  unfold vp_in
  rw [ii_nat (by omega) (by omega), ii_lit, ii_lt (by omega) (by omega) (by omega) (by omega)]
  omega
set_option maxRecDepth 100000 in
set_option maxHeartbeats 8000000 in
theorem law_loop {RR : CS → MS → Prop} (C0 : Cx p s m meth c args R code "ZoneFilesLaw" 8 (some .boolean) 12 518) (hLX : LX s b L xs) (hno : NT l) (nf : Nat) (hL : L ≤ 3072) (hphi : ∀ S M, RR S M → phi S ≤ 480000) (hst : STEPS nf RR) (hRc : 490000 ≤ R.cells) (hRs : 2000000 ≤ R.slots)
    (kend : ∀ (S : CS) (M : MS) (a : Int64) (H : Heap) (locs : List Loc) (ls : Array Slot) (cells slots : Nat), LA dC dI s hx hm o S M a H locs → cells ≤ 490000 → slots ≤ 2000000 → W p l e R s m args below meth c H locs cells slots Q (F0 m 2181 ls [])) :
    ∀ (n j : Nat) (S : CS) (M : MS) (a : Int64) (H : Heap) (locs : List Loc) (ls : Array Slot) (cells slots : Nat), L < 6 * (j + n) → 6 * j ≤ L → RR S M → LA dC dI s hx hm o S M a H locs → lv_has ls 8 [(0, .ref b), (1, .ref hx), (2, .ref hm), (3, .ref o), (4, .int (ii (6 * (j : Int))))] → cells ≤ 2000 + 10 * j + phi S → slots ≤ 500000 + 100 * j + 2 * phi S →
      W p l e R s m args below meth c H locs cells slots Q (F0 m 23 ls []) := by
  obtain ⟨hx', hb, hr, hml, hown, hts, hlocks, hRf, hRl⟩ := id C0
  obtain ⟨s0, s1, s2, s3, s4, s5, s6, s7, s8, s9, s10, s11, s12, s13, s14, s15, s16, s17, s18, s19, s20, s21, s22, s23, s24, s25, s26, s27⟩ := hst
  intro n
  induction n with
  | zero => intro j S M a H locs ls cells slots h1 h2; omega
  | succ n ih =>
    intro j S M a H locs ls cells slots h1 h2 hRR hLA hl hce hsl
    have hph := hphi S M hRR
    refine lv_iload hx' hb d_LAW_23 (lv_at hl 4 rfl) ?_
    refine lv_aload_n hx' hb d_LAW_25 rfl (lv_at hl 0 rfl) ?_
    refine law_len C0 hLX hLA d_LAW_26 ?_
    refine lv_bipush (v := 6) hx' hb d_LAW_27 (by decide) ?_
    refine lv_isub hx' hb d_LAW_29 ?_
    refine lv_icmp_gt (tgt := 2181) hx' hb d_LAW_30 (by decide) (fun _ => kend S M a H locs ls cells slots hLA (by omega) (by omega)) (fun cc => ?_)
    have hj : 6 * j + 6 ≤ L := by
      rw [show (Int32.ofNat L : Int32) = ii (L : Int) from Int32.ofInt_eq_ofNat.symm, show (6 : Int32) = ii 6 from rfl, ii_sub, ii_lt (by omega) (by omega) (by omega) (by omega)] at cc
      omega
    have e0 : ii (6 * (j : Int)) = ii (6 * (j : Int) + ((0 : Nat) : Int)) := by congr 1

    have g1 : ii (6 * (j : Int)) + 1 = ii (6 * (j : Int) + ((1 : Nat) : Int)) := by rw [show (1 : Int32) = ii ((1 : Nat) : Int) from rfl, ii_add]
    have g2 : ii (6 * (j : Int)) + 2 = ii (6 * (j : Int) + ((2 : Nat) : Int)) := by rw [show (2 : Int32) = ii ((2 : Nat) : Int) from rfl, ii_add]
    have g3 : ii (6 * (j : Int)) + 3 = ii (6 * (j : Int) + ((3 : Nat) : Int)) := by rw [show (3 : Int32) = ii ((3 : Nat) : Int) from rfl, ii_add]
    have g4 : ii (6 * (j : Int)) + 4 = ii (6 * (j : Int) + ((4 : Nat) : Int)) := by rw [show (4 : Int32) = ii ((4 : Nat) : Int) from rfl, ii_add]
    have g5 : ii (6 * (j : Int)) + 5 = ii (6 * (j : Int) + ((5 : Nat) : Int)) := by rw [show (5 : Int32) = ii ((5 : Nat) : Int) from rfl, ii_add]
    have v0 : vp_in (ii (6 * (j : Int))) L := by
      rw [e0]
      exact vpi (k := 0) hj (by omega) hL
    have v1 : vp_in (ii (6 * (j : Int)) + 1) L := by
      rw [g1]
      exact vpi (k := 1) hj (by omega) hL
    have v2 : vp_in (ii (6 * (j : Int)) + 2) L := by
      rw [g2]
      exact vpi (k := 2) hj (by omega) hL
    have v3 : vp_in (ii (6 * (j : Int)) + 3) L := by
      rw [g3]
      exact vpi (k := 3) hj (by omega) hL
    have v4 : vp_in (ii (6 * (j : Int)) + 4) L := by
      rw [g4]
      exact vpi (k := 4) hj (by omega) hL
    have v5 : vp_in (ii (6 * (j : Int)) + 5) L := by
      rw [g5]
      exact vpi (k := 5) hj (by omega) hL
    have nxt : ∀ (S' : CS) (M' : MS) (kc ks : Nat), RR S' M' → kc + phi S ≤ 10 + phi S' → ks + 2 * phi S ≤ 100 + 2 * phi S' → ∀ (H1 : Heap) (locs1 : List Loc) (a1 : Int64) (ls1 : Array Slot), LA dC dI s hx hm o S' M' a1 H1 locs1 → lv_has ls1 8 [(0, .ref b), (1, .ref hx), (2, .ref hm), (3, .ref o), (4, .int (ii (6 * (j : Int))))] → W p l e R s m args below meth c H1 locs1 (cells + kc) (slots + ks) Q (F0 m 2175 ls1 []) := by
      intro S' M' kc ks q1 q2 q3 H1 locs1 a1 ls1 q4 q5
      refine lv_iinc (v := ii (6 * ((j + 1 : Nat) : Int))) (lv' := [(4, .int (ii (6 * ((j + 1 : Nat) : Int)))), (0, .ref b), (1, .ref hx), (2, .ref hm), (3, .ref o)]) hx' hb d_LAW_2175 q5 (k := 4) rfl (by show ii _ + ii 6 = _; rw [ii_add]; congr 1) (by decide) rfl (fun ls2 q6 => ?_)
      refine lv_goto (tgt := 23) hx' hb d_LAW_2178 (by decide) ?_
      exact ih (j + 1) S' M' a1 H1 locs1 ls2 (cells + kc) (slots + ks) (by omega) (by omega) q1 q4 (lv_sub q6 [1, 2, 3, 4, 0] rfl) (by omega) (by omega)
    obtain ⟨i, hi⟩ : ∃ i : Int32, ii (6 * (j : Int)) = i := ⟨_, rfl⟩
    rw [hi] at hl v0 v1 v2 v3 v4 v5 nxt
    refine lv_aload_n hx' hb d_LAW_33 rfl (lv_at hl 0 rfl) ?_
    refine lv_iload hx' hb d_LAW_34 (lv_at hl 4 rfl) ?_
    refine law_ld C0 hLX hLA v0 d_LAW_36 ?_
    refine lv_bipush (v := 31) hx' hb d_LAW_37 (by decide) ?_
    refine lv_iand hx' hb d_LAW_39 ?_
    obtain ⟨x, hxx⟩ : ∃ x : Int32, (xs i.toNatClampNeg) &&& 31 = x := ⟨_, rfl⟩
    rw [hxx]
    by_cases c0 : x.toInt = 0
    · refine lv_tableIn (off := 128) (tgt := 168) hx' hb d_LAW_40 (by omega) (by omega) (by rw [c0]; rfl) (by decide) ?_
      obtain ⟨k, ans, S', kc, ks, r0, M', e1, e2, e3, e4, e5, e6, e7⟩ := s0 S M (xs (i + 1).toNatClampNeg) (((xs (i + 2).toNatClampNeg).toInt64 <<< ((32 : Int32).toInt64 &&& 63)) ||| ((xs (i + 3).toNatClampNeg).toInt64 &&& 4294967295)) hRR
      have hp' := hphi S' M' e5
      exact law_feed C0 hLX hno nf v1 v2 v3 hLA hl e1 e2 e3 e4 (by omega) (by omega) (nxt S' M' kc ks e5 e6 e7)
    by_cases c1 : x.toInt = 1
    · refine lv_tableIn (off := 228) (tgt := 268) hx' hb d_LAW_40 (by omega) (by omega) (by rw [c1]; rfl) (by decide) ?_
      obtain ⟨k, ans, S', kc, ks, r0, M', e1, e2, e3, e4, e5, e6, e7⟩ := s1 S M (xs (i + 1).toNatClampNeg) hRR
      have hp' := hphi S' M' e5
      exact law_read C0 hLX hno nf v1 hLA hl e1 e2 e3 e4 (by omega) (by omega) (nxt S' M' kc ks e5 e6 e7)
    by_cases c2 : x.toInt = 2
    · refine lv_tableIn (off := 284) (tgt := 324) hx' hb d_LAW_40 (by omega) (by omega) (by rw [c2]; rfl) (by decide) ?_
      obtain ⟨k, ans, S', kc, ks, r0, M', e1, e2, e3, e4, e5, e6, e7⟩ := s2 S M (xs (i + 1).toNatClampNeg) (if (xs (i + 2).toNatClampNeg) = 0 then 0 else 1) (by split <;> simp) hRR
      have hp' := hphi S' M' e5
      exact law_rule C0 hLX hno nf v1 v2 hLA hl e1 e2 e3 e4 (by omega) (by omega) (nxt S' M' kc ks e5 e6 e7)
    by_cases c3 : x.toInt = 3
    · refine lv_tableIn (off := 368) (tgt := 408) hx' hb d_LAW_40 (by omega) (by omega) (by rw [c3]; rfl) (by decide) ?_
      obtain ⟨rc, S', kc, ks, r0, M', e1, e2, e3, e5, e6, e7⟩ := s3 S M hRR
      have hp' := hphi S' M' e5
      exact law_table C0 hLX hno nf hLA hl e1 e2 e3 (by omega) (by omega) (nxt S' M' kc ks e5 e6 e7)
    by_cases c4 : x.toInt = 4
    · refine lv_tableIn (off := 381) (tgt := 421) hx' hb d_LAW_40 (by omega) (by omega) (by rw [c4]; rfl) (by decide) ?_
      obtain ⟨rc, S', kc, ks, r0, M', e1, e2, e3, e5, e6, e7⟩ := s4 S M hRR
      have hp' := hphi S' M' e5
      exact law_place C0 hLX hno nf hLA hl e1 e2 e3 (by omega) (by omega) (nxt S' M' kc ks e5 e6 e7)
    by_cases c5 : x.toInt = 5
    · refine lv_tableIn (off := 394) (tgt := 434) hx' hb d_LAW_40 (by omega) (by omega) (by rw [c5]; rfl) (by decide) ?_
      obtain ⟨k, ans, S', kc, ks, r0, M', e1, e2, e3, e4, e5, e6, e7⟩ := s5 S M (xs (i + 1).toNatClampNeg) (xs (i + 2).toNatClampNeg) hRR
      have hp' := hphi S' M' e5
      exact law_zone C0 hLX hno nf v1 v2 hLA hl e1 e2 e3 e4 (by omega) (by omega) (nxt S' M' kc ks e5 e6 e7)
    by_cases c6 : x.toInt = 6
    · refine lv_tableIn (off := 462) (tgt := 502) hx' hb d_LAW_40 (by omega) (by omega) (by rw [c6]; rfl) (by decide) ?_
      obtain ⟨k, ans, S', kc, ks, r0, M', e1, e2, e3, e4, e5, e6, e7⟩ := s6 S M (xs (i + 1).toNatClampNeg) (xs (i + 2).toNatClampNeg) hRR
      have hp' := hphi S' M' e5
      exact law_time C0 hLX hno nf v1 v2 hLA hl e1 e2 e3 e4 (by omega) (by omega) (nxt S' M' kc ks e5 e6 e7)
    by_cases c7 : x.toInt = 7
    · refine lv_tableIn (off := 529) (tgt := 569) hx' hb d_LAW_40 (by omega) (by omega) (by rw [c7]; rfl) (by decide) ?_
      obtain ⟨k, ans, S', kc, ks, r0, M', e1, e2, e3, e4, e5, e6, e7⟩ := s7 S M (xs (i + 1).toNatClampNeg) (xs (i + 2).toNatClampNeg) hRR
      have hp' := hphi S' M' e5
      exact law_typeAt C0 hLX hno nf v1 v2 hLA hl e1 e2 e3 e4 (by omega) (by omega) (nxt S' M' kc ks e5 e6 e7)
    by_cases c8 : x.toInt = 8
    · refine lv_tableIn (off := 597) (tgt := 637) hx' hb d_LAW_40 (by omega) (by omega) (by rw [c8]; rfl) (by decide) ?_
      obtain ⟨k, ans, S', kc, ks, r0, M', e1, e2, e3, e4, e5, e6, e7⟩ := s8 S M (xs (i + 1).toNatClampNeg) (xs (i + 2).toNatClampNeg) (xs (i + 3).toNatClampNeg) hRR
      have hp' := hphi S' M' e5
      exact law_type C0 hLX hno nf v1 v2 v3 hLA hl e1 e2 e3 e4 (by omega) (by omega) (nxt S' M' kc ks e5 e6 e7)
    by_cases c9 : x.toInt = 9
    · refine lv_tableIn (off := 677) (tgt := 717) hx' hb d_LAW_40 (by omega) (by omega) (by rw [c9]; rfl) (by decide) ?_
      obtain ⟨k, ans, S', kc, ks, r0, M', e1, e2, e3, e4, e5, e6, e7⟩ := s9 S M (xs (i + 1).toNatClampNeg) (xs (i + 2).toNatClampNeg) (xs (i + 3).toNatClampNeg) hRR
      have hp' := hphi S' M' e5
      exact law_letter C0 hLX hno nf v1 v2 v3 hLA hl e1 e2 e3 e4 (by omega) (by omega) (nxt S' M' kc ks e5 e6 e7)
    by_cases c10 : x.toInt = 10
    · refine lv_tableIn (off := 757) (tgt := 797) hx' hb d_LAW_40 (by omega) (by omega) (by rw [c10]; rfl) (by decide) ?_
      obtain ⟨k, ans, S', kc, ks, r0, M', e1, e2, e3, e4, e5, e6, e7⟩ := s10 S M (xs (i + 1).toNatClampNeg) (xs (i + 2).toNatClampNeg) (xs (i + 3).toNatClampNeg) hRR
      have hp' := hphi S' M' e5
      exact law_leap C0 hLX hno nf v1 v2 v3 hLA hl e1 e2 e3 e4 (by omega) (by omega) (nxt S' M' kc ks e5 e6 e7)
    by_cases c11 : x.toInt = 11
    · refine lv_tableIn (off := 836) (tgt := 876) hx' hb d_LAW_40 (by omega) (by omega) (by rw [c11]; rfl) (by decide) ?_
      obtain ⟨k, ans, S', kc, ks, r0, M', e1, e2, e3, e4, e5, e6, e7⟩ := s11 S M (xs (i + 1).toNatClampNeg) (((xs (i + 2).toNatClampNeg).toInt64 <<< ((32 : Int32).toInt64 &&& 63)) ||| ((xs (i + 3).toNatClampNeg).toInt64 &&& 4294967295)) (xs (i + 4).toNatClampNeg) hRR
      have hp' := hphi S' M' e5
      exact law_at C0 hLX hno nf v1 v2 v3 v4 hLA hl e1 e2 e3 e4 (by omega) (by omega) (nxt S' M' kc ks e5 e6 e7)
    by_cases c12 : x.toInt = 12
    · refine lv_tableIn (off := 948) (tgt := 988) hx' hb d_LAW_40 (by omega) (by omega) (by rw [c12]; rfl) (by decide) ?_
      obtain ⟨k, ans, S', kc, ks, r0, M', e1, e2, e3, e4, e5, e6, e7⟩ := s12 S M (xs (i + 1).toNatClampNeg) (((xs (i + 2).toNatClampNeg).toInt64 <<< ((32 : Int32).toInt64 &&& 63)) ||| ((xs (i + 3).toNatClampNeg).toInt64 &&& 4294967295)) (xs (i + 4).toNatClampNeg) hRR
      have hp' := hphi S' M' e5
      exact law_name C0 hLX hno nf v1 v2 v3 v4 hLA hl e1 e2 e3 e4 (by omega) (by omega) (nxt S' M' kc ks e5 e6 e7)
    by_cases c13 : x.toInt = 13
    · refine lv_tableIn (off := 1060) (tgt := 1100) hx' hb d_LAW_40 (by omega) (by omega) (by rw [c13]; rfl) (by decide) ?_
      obtain ⟨k, ans, S', kc, ks, r0, M', e1, e2, e3, e4, e5, e6, e7⟩ := s13 S M (((xs (i + 1).toNatClampNeg).toInt64 <<< ((32 : Int32).toInt64 &&& 63)) ||| ((xs (i + 2).toNatClampNeg).toInt64 &&& 4294967295)) (xs (i + 3).toNatClampNeg) hRR
      have hp' := hphi S' M' e5
      exact law_clock C0 hLX hno nf v1 v2 v3 hLA hl e1 e2 e3 e4 (by omega) (by omega) (nxt S' M' kc ks e5 e6 e7)
    by_cases c14 : x.toInt = 14
    · refine lv_tableIn (off := 1159) (tgt := 1199) hx' hb d_LAW_40 (by omega) (by omega) (by rw [c14]; rfl) (by decide) ?_
      obtain ⟨k, ans, S', kc, ks, r0, M', e1, e2, e3, e4, e5, e6, e7⟩ := s14 S M (((xs (i + 1).toNatClampNeg).toInt64 <<< ((32 : Int32).toInt64 &&& 63)) ||| ((xs (i + 2).toNatClampNeg).toInt64 &&& 4294967295)) (xs (i + 3).toNatClampNeg) (xs (i + 4).toNatClampNeg) (xs (i + 5).toNatClampNeg) hRR
      have hp' := hphi S' M' e5
      exact law_seconds C0 hLX hno nf v1 v2 v3 v4 v5 hLA hl e1 e2 e3 e4 (by omega) (by omega) (nxt S' M' kc ks e5 e6 e7)
    by_cases c15 : x.toInt = 15
    · refine lv_tableIn (off := 1282) (tgt := 1322) hx' hb d_LAW_40 (by omega) (by omega) (by rw [c15]; rfl) (by decide) ?_
      obtain ⟨k, ans, S', kc, ks, r0, M', e1, e2, e3, e4, e5, e6, e7⟩ := s15 S M (xs (i + 1).toNatClampNeg) (((xs (i + 2).toNatClampNeg).toInt64 <<< ((32 : Int32).toInt64 &&& 63)) ||| ((xs (i + 3).toNatClampNeg).toInt64 &&& 4294967295)) hRR
      have hp' := hphi S' M' e5
      exact law_find C0 hLX hno nf v1 v2 v3 hLA hl e1 e2 e3 e4 (by omega) (by omega) (nxt S' M' kc ks e5 e6 e7)
    by_cases c16 : x.toInt = 16
    · refine lv_tableIn (off := 1382) (tgt := 1422) hx' hb d_LAW_40 (by omega) (by omega) (by rw [c16]; rfl) (by decide) ?_
      obtain ⟨k, ans, S', kc, ks, r0, M', e1, e2, e3, e4, e5, e6, e7⟩ := s16 S M (xs (i + 1).toNatClampNeg) hRR
      have hp' := hphi S' M' e5
      exact law_found C0 hLX hno nf v1 hLA hl e1 e2 e3 e4 (by omega) (by omega) (nxt S' M' kc ks e5 e6 e7)
    by_cases c17 : x.toInt = 17
    · refine lv_tableIn (off := 1437) (tgt := 1477) hx' hb d_LAW_40 (by omega) (by omega) (by rw [c17]; rfl) (by decide) ?_
      obtain ⟨k, ans, S', kc, ks, r0, M', e1, e2, e3, e4, e5, e6, e7⟩ := s17 S M (xs (i + 1).toNatClampNeg) (((xs (i + 2).toNatClampNeg).toInt64 <<< ((32 : Int32).toInt64 &&& 63)) ||| ((xs (i + 3).toNatClampNeg).toInt64 &&& 4294967295)) hRR
      have hp' := hphi S' M' e5
      exact law_next C0 hLX hno nf v1 v2 v3 hLA hl e1 e2 e3 e4 (by omega) (by omega) (nxt S' M' kc ks e5 e6 e7)
    by_cases c18 : x.toInt = 18
    · refine lv_tableIn (off := 1536) (tgt := 1576) hx' hb d_LAW_40 (by omega) (by omega) (by rw [c18]; rfl) (by decide) ?_
      obtain ⟨k, ans, S', kc, ks, r0, M', e1, e2, e3, e4, e5, e6, e7⟩ := s18 S M (xs (i + 1).toNatClampNeg) (((xs (i + 2).toNatClampNeg).toInt64 <<< ((32 : Int32).toInt64 &&& 63)) ||| ((xs (i + 3).toNatClampNeg).toInt64 &&& 4294967295)) hRR
      have hp' := hphi S' M' e5
      exact law_last C0 hLX hno nf v1 v2 v3 hLA hl e1 e2 e3 e4 (by omega) (by omega) (nxt S' M' kc ks e5 e6 e7)
    by_cases c19 : x.toInt = 19
    · refine lv_tableIn (off := 1635) (tgt := 1675) hx' hb d_LAW_40 (by omega) (by omega) (by rw [c19]; rfl) (by decide) ?_
      obtain ⟨k, ans, S', kc, ks, r0, M', e1, e2, e3, e4, e5, e6, e7⟩ := s19 S M (xs (i + 1).toNatClampNeg) (xs (i + 2).toNatClampNeg) hRR
      have hp' := hphi S' M' e5
      exact law_stretch C0 hLX hno nf v1 v2 hLA hl e1 e2 e3 e4 (by omega) (by omega) (nxt S' M' kc ks e5 e6 e7)
    by_cases c20 : x.toInt = 20
    · refine lv_tableIn (off := 1703) (tgt := 1743) hx' hb d_LAW_40 (by omega) (by omega) (by rw [c20]; rfl) (by decide) ?_
      obtain ⟨k, ans, S', kc, ks, r0, M', e1, e2, e3, e4, e5, e6, e7⟩ := s20 S M (xs (i + 1).toNatClampNeg) (xs (i + 2).toNatClampNeg) hRR
      have hp' := hphi S' M' e5
      exact law_write C0 hLX hno nf v1 v2 hLA hl e1 e2 e3 e4 (by omega) (by omega) (nxt S' M' kc ks e5 e6 e7)
    by_cases c21 : x.toInt = 21
    · refine lv_tableIn (off := 1771) (tgt := 1811) hx' hb d_LAW_40 (by omega) (by omega) (by rw [c21]; rfl) (by decide) ?_
      obtain ⟨k, ans, S', kc, ks, r0, M', e1, e2, e3, e4, e5, e6, e7⟩ := s21 S M (xs (i + 1).toNatClampNeg) hRR
      have hp' := hphi S' M' e5
      exact law_outc C0 hLX hno nf v1 hLA hl e1 e2 e3 e4 (by omega) (by omega) (nxt S' M' kc ks e5 e6 e7)
    by_cases c22 : x.toInt = 22
    · refine lv_tableIn (off := 1827) (tgt := 1867) hx' hb d_LAW_40 (by omega) (by omega) (by rw [c22]; rfl) (by decide) ?_
      obtain ⟨rc, S', kc, ks, r0, M', e1, e2, e3, e5, e6, e7⟩ := s22 S M hRR
      have hp' := hphi S' M' e5
      exact law_again C0 hLX hno nf hLA hl e1 e2 e3 (by omega) (by omega) (nxt S' M' kc ks e5 e6 e7)
    by_cases c23 : x.toInt = 23
    · refine lv_tableIn (off := 1840) (tgt := 1880) hx' hb d_LAW_40 (by omega) (by omega) (by rw [c23]; rfl) (by decide) ?_
      obtain ⟨k, ans, S', kc, ks, r0, M', e1, e2, e3, e4, e5, e6, e7⟩ := s23 S M (xs (i + 1).toNatClampNeg) hRR
      have hp' := hphi S' M' e5
      exact law_told C0 hLX hno nf v1 hLA hl e1 e2 e3 e4 (by omega) (by omega) (nxt S' M' kc ks e5 e6 e7)
    by_cases c24 : x.toInt = 24
    · refine lv_tableIn (off := 1895) (tgt := 1935) hx' hb d_LAW_40 (by omega) (by omega) (by rw [c24]; rfl) (by decide) ?_
      obtain ⟨k, ans, S', kc, ks, r0, M', e1, e2, e3, e4, e5, e6, e7⟩ := s24 S M (xs (i + 1).toNatClampNeg) (xs (i + 2).toNatClampNeg) hRR
      have hp' := hphi S' M' e5
      exact law_row C0 hLX hno nf v1 v2 hLA hl e1 e2 e3 e4 (by omega) (by omega) (nxt S' M' kc ks e5 e6 e7)
    by_cases c25 : x.toInt = 25
    · refine lv_tableIn (off := 1962) (tgt := 2002) hx' hb d_LAW_40 (by omega) (by omega) (by rw [c25]; rfl) (by decide) ?_
      obtain ⟨rc, S', kc, ks, r0, M', e1, e2, e3, e5, e6, e7⟩ := s25 S M (((xs (i + 1).toNatClampNeg).toInt64 <<< ((32 : Int32).toInt64 &&& 63)) ||| ((xs (i + 2).toNatClampNeg).toInt64 &&& 4294967295)) hRR
      have hp' := hphi S' M' e5
      exact law_atomic C0 hLX hno nf v1 v2 hLA hl e1 e2 e3 (by omega) (by omega) (nxt S' M' kc ks e5 e6 e7)
    by_cases c26 : x.toInt = 26
    · refine lv_tableIn (off := 2020) (tgt := 2060) hx' hb d_LAW_40 (by omega) (by omega) (by rw [c26]; rfl) (by decide) ?_
      obtain ⟨rc, S', kc, ks, r0, M', e1, e2, e3, e5, e6, e7⟩ := s26 S M (((xs (i + 1).toNatClampNeg).toInt64 <<< ((32 : Int32).toInt64 &&& 63)) ||| ((xs (i + 2).toNatClampNeg).toInt64 &&& 4294967295)) hRR
      have hp' := hphi S' M' e5
      exact law_instant C0 hLX hno nf v1 v2 hLA hl e1 e2 e3 (by omega) (by omega) (nxt S' M' kc ks e5 e6 e7)
    by_cases c27 : x.toInt = 27
    · refine lv_tableIn (off := 2078) (tgt := 2118) hx' hb d_LAW_40 (by omega) (by omega) (by rw [c27]; rfl) (by decide) ?_
      obtain ⟨rc, S', kc, ks, r0, M', e1, e2, e3, e5, e6, e7⟩ := s27 S M (((xs (i + 1).toNatClampNeg).toInt64 <<< ((32 : Int32).toInt64 &&& 63)) ||| ((xs (i + 2).toNatClampNeg).toInt64 &&& 4294967295)) hRR
      have hp' := hphi S' M' e5
      exact law_isLeap C0 hLX hno nf v1 v2 hLA hl e1 e2 e3 (by omega) (by omega) (nxt S' M' kc ks e5 e6 e7)
    refine lv_tableOut (tgt := 2175) hx' hb d_LAW_40 (by omega) (by decide) ?_
    exact nxt S M 0 0 hRR (by omega) (by omega) H locs a ls hLA hl
end
