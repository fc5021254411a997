
def cq_feed (nf : Nat) (S : CS) (p0 : Int32) (p1 : Int64) : Option (Int32 × Int64 × CS × Nat × Nat) :=
  match (f_ZF_feed nf p0 p1 S.1.1 S.1.2.1 S.1.2.2.1) with
  | some ((r0, v1_1, v2_n, v2_a), kc, ks) => some (0, r0.toInt64, ((v1_1, v2_n, v2_a, S.1.2.2.2.1, S.1.2.2.2.2.1, S.1.2.2.2.2.2.1, S.1.2.2.2.2.2.2.1, S.1.2.2.2.2.2.2.2.1, S.1.2.2.2.2.2.2.2.2.1, S.1.2.2.2.2.2.2.2.2.2.1, S.1.2.2.2.2.2.2.2.2.2.2.1, S.1.2.2.2.2.2.2.2.2.2.2.2.1, S.1.2.2.2.2.2.2.2.2.2.2.2.2.1, S.1.2.2.2.2.2.2.2.2.2.2.2.2.2.1, S.1.2.2.2.2.2.2.2.2.2.2.2.2.2.2.1, S.1.2.2.2.2.2.2.2.2.2.2.2.2.2.2.2.1, S.1.2.2.2.2.2.2.2.2.2.2.2.2.2.2.2.2), S.2), kc, ks)
  | none =>
  match (g_ZF_feed nf p0 p1 S.1.1) with
  | some 2 => some (1, 0, S, 1, 6)
  | _ => none
set_option maxRecDepth 100000 in
set_option maxHeartbeats 1000000 in
theorem q_feed (l : Launch) (hno : NT l) (dC : Nat → ClassId) (dI : Nat → Nat → Nat) (h0 : Nat) (ad : Nat → Nat) (cA : Nat → ClassId) (za : Nat → Nat) (zad : Nat → Nat → Nat) (zcA : Nat → Nat → ClassId) (S : CS) (nf : Nat) (p0 : Int32) (p1 : Int64) {k : Int32} {ans : Int64} {S' : CS} {kc ks : Nat} (h : cq_feed nf S p0 p1 = some (k, ans, S', kc, ks)) (o : Nat) (cO : ClassId) (f : Nat → Int64) :
    (k = 0 ∧ OM l y_LW_feed (wdW y_LW_feed b_LW_feed 6 (some .int) [(0, 11, 14, 13)]) ({ frames := 4, cells := kc, slots := ks, locals := 86 }) dC dI (oC o cO f :: WX h0 ad cA za zad zcA S) ((cO, .long) :: TX cA zcA) [.ref h0, .int p0, .long p1, .ref o] (some (.int 0)) (oF (CW h0 S') o cO f (TX cA zcA) ans) kc ks) ∨
    (kc = 1 ∧ ks = 6 ∧ S' = S ∧ k ≠ 0 ∧ Met l y_LW_feed (wdW y_LW_feed b_LW_feed 6 (some .int) [(0, 11, 14, 13)]) ({ frames := 7, cells := 1, slots := 6, locals := 124 }) (ROX dC dI (WX h0 ad cA za zad zcA S) (TX cA zcA) [.ref h0, .int p0, .long p1, .ref o]) (MV (some (.int k)) (fun _ => True) (fun _ => False)) 1 6 (fun _ => False)) := by
  unfold cq_feed at h
  split at h
  · rename_i hf
    cases h
    exact Or.inl ⟨rfl, cw_feed l dC dI p0 p1 (lift_c (zad := zad) (zcA := zcA) (o_ZF_feed l dC dI h0 (za 4) ad cA (zgc za) S.1 nf p0 p1 hf)) rfl⟩
  · split at h
    · rename_i hf
      cases h
      exact Or.inr ⟨rfl, rfl, rfl, by decide, tw_feed_2 l dC dI p0 p1 (metT_mono (t_ZF_feed l hno dC dI h0 (ad 0) (ad 1) (ad 2) (za 4) (ad 3) (ad 4) (ad 5) (ad 6) nf p0 p1 S.1.2.2.2.2.2.2.1 S.1.2.2.2.2.2.2.2.1 S.1.1 hf) (rox_sub (fun q hq => List.mem_append_left _ (sub_ix (E := commonW h0 ad cA (za 4) (zgc za) S.1) [0, 1] rfl q hq)) (fun q hq => List.mem_append_left _ (sub_ix (E := commonT cA) [] rfl q hq)))) rfl⟩
    · exact absurd h (by simp)
def cq_read (nf : Nat) (S : CS) (p0 : Int32) : Option (Int32 × Int64 × CS × Nat × Nat) :=
  match (if p0.toNatClampNeg < 4 then f_ZF_readOk nf p0 S.1.1 S.1.2.1 S.1.2.2.1 (S.2 4).1 (S.2 4).2.1 (S.2 4).2.2.1 (S.2 4).2.2.2.1 (S.2 4).2.2.2.2.1 (S.2 4).2.2.2.2.2.1 (S.2 4).2.2.2.2.2.2.1 (S.2 4).2.2.2.2.2.2.2.1 (S.2 4).2.2.2.2.2.2.2.2.1 (S.2 4).2.2.2.2.2.2.2.2.2.1 (S.2 4).2.2.2.2.2.2.2.2.2.2.1 (S.2 4).2.2.2.2.2.2.2.2.2.2.2.1 (S.2 4).2.2.2.2.2.2.2.2.2.2.2.2.1 (S.2 4).2.2.2.2.2.2.2.2.2.2.2.2.2.1 (S.2 4).2.2.2.2.2.2.2.2.2.2.2.2.2.2.1 (S.2 4).2.2.2.2.2.2.2.2.2.2.2.2.2.2.2.1 (S.2 4).2.2.2.2.2.2.2.2.2.2.2.2.2.2.2.2.1 (S.2 4).2.2.2.2.2.2.2.2.2.2.2.2.2.2.2.2.2.1 (S.2 4).2.2.2.2.2.2.2.2.2.2.2.2.2.2.2.2.2.2.1 (S.2 4).2.2.2.2.2.2.2.2.2.2.2.2.2.2.2.2.2.2.2.1 (S.2 4).2.2.2.2.2.2.2.2.2.2.2.2.2.2.2.2.2.2.2.2.1 (S.2 4).2.2.2.2.2.2.2.2.2.2.2.2.2.2.2.2.2.2.2.2.2.1 (S.2 4).2.2.2.2.2.2.2.2.2.2.2.2.2.2.2.2.2.2.2.2.2.2.1 (S.2 4).2.2.2.2.2.2.2.2.2.2.2.2.2.2.2.2.2.2.2.2.2.2.2.1 (S.2 4).2.2.2.2.2.2.2.2.2.2.2.2.2.2.2.2.2.2.2.2.2.2.2.2.1 (S.2 4).2.2.2.2.2.2.2.2.2.2.2.2.2.2.2.2.2.2.2.2.2.2.2.2.2.1 (S.2 4).2.2.2.2.2.2.2.2.2.2.2.2.2.2.2.2.2.2.2.2.2.2.2.2.2.2.1 (S.2 4).2.2.2.2.2.2.2.2.2.2.2.2.2.2.2.2.2.2.2.2.2.2.2.2.2.2.2.1 (S.2 4).2.2.2.2.2.2.2.2.2.2.2.2.2.2.2.2.2.2.2.2.2.2.2.2.2.2.2.2.1 (S.2 4).2.2.2.2.2.2.2.2.2.2.2.2.2.2.2.2.2.2.2.2.2.2.2.2.2.2.2.2.2.1 (S.2 4).2.2.2.2.2.2.2.2.2.2.2.2.2.2.2.2.2.2.2.2.2.2.2.2.2.2.2.2.2.2.1 (S.2 4).2.2.2.2.2.2.2.2.2.2.2.2.2.2.2.2.2.2.2.2.2.2.2.2.2.2.2.2.2.2.2.1 (S.2 4).2.2.2.2.2.2.2.2.2.2.2.2.2.2.2.2.2.2.2.2.2.2.2.2.2.2.2.2.2.2.2.2.1 (S.2 4).2.2.2.2.2.2.2.2.2.2.2.2.2.2.2.2.2.2.2.2.2.2.2.2.2.2.2.2.2.2.2.2.2.1 (S.2 4).2.2.2.2.2.2.2.2.2.2.2.2.2.2.2.2.2.2.2.2.2.2.2.2.2.2.2.2.2.2.2.2.2.2.1 (S.2 4).2.2.2.2.2.2.2.2.2.2.2.2.2.2.2.2.2.2.2.2.2.2.2.2.2.2.2.2.2.2.2.2.2.2.2.1 (S.2 4).2.2.2.2.2.2.2.2.2.2.2.2.2.2.2.2.2.2.2.2.2.2.2.2.2.2.2.2.2.2.2.2.2.2.2.2.1 (S.2 4).2.2.2.2.2.2.2.2.2.2.2.2.2.2.2.2.2.2.2.2.2.2.2.2.2.2.2.2.2.2.2.2.2.2.2.2.2.1 (S.2 4).2.2.2.2.2.2.2.2.2.2.2.2.2.2.2.2.2.2.2.2.2.2.2.2.2.2.2.2.2.2.2.2.2.2.2.2.2.2.1 (S.2 4).2.2.2.2.2.2.2.2.2.2.2.2.2.2.2.2.2.2.2.2.2.2.2.2.2.2.2.2.2.2.2.2.2.2.2.2.2.2.2.1 (S.2 4).2.2.2.2.2.2.2.2.2.2.2.2.2.2.2.2.2.2.2.2.2.2.2.2.2.2.2.2.2.2.2.2.2.2.2.2.2.2.2.2.1 (S.2 4).2.2.2.2.2.2.2.2.2.2.2.2.2.2.2.2.2.2.2.2.2.2.2.2.2.2.2.2.2.2.2.2.2.2.2.2.2.2.2.2.2 else none) with
  | some ((r0, v1_1, v4_0, v4_1, v4_2, v4_3, v4_4, v4_5, v5_a, v6_a, v7_a, v8_a, v9_a, v10_a, v11_a, v12_1, v13_n, v13_a, v14_a, v15_a, v16_3, v16_4, v16_5, v16_6, v16_7, v16_8, v16_9, v16_10, v16_11, v17_1, v18_n, v18_a, v19_0, v19_1, v19_2, v19_3, v19_4, v19_5, v20_0, v20_1, v20_2, v20_3, v20_4, v20_5), kc, ks) => some (0, r0.toInt64, ((v1_1, S.1.2.1, S.1.2.2.1, S.1.2.2.2.1, S.1.2.2.2.2.1, S.1.2.2.2.2.2.1, S.1.2.2.2.2.2.2.1, S.1.2.2.2.2.2.2.2.1, S.1.2.2.2.2.2.2.2.2.1, S.1.2.2.2.2.2.2.2.2.2.1, S.1.2.2.2.2.2.2.2.2.2.2.1, S.1.2.2.2.2.2.2.2.2.2.2.2.1, S.1.2.2.2.2.2.2.2.2.2.2.2.2.1, S.1.2.2.2.2.2.2.2.2.2.2.2.2.2.1, S.1.2.2.2.2.2.2.2.2.2.2.2.2.2.2.1, S.1.2.2.2.2.2.2.2.2.2.2.2.2.2.2.2.1, S.1.2.2.2.2.2.2.2.2.2.2.2.2.2.2.2.2), zsw S.2 p0.toNatClampNeg (v4_0, v4_1, v4_2, v4_3, v4_4, v4_5, v5_a, v6_a, v7_a, v8_a, v9_a, v10_a, v11_a, v12_1, v13_n, v13_a, v14_a, v15_a, v16_3, v16_4, v16_5, v16_6, v16_7, v16_8, v16_9, v16_10, v16_11, v17_1, v18_n, v18_a, v19_0, v19_1, v19_2, v19_3, v19_4, v19_5, v20_0, v20_1, v20_2, v20_3, v20_4, v20_5)), kc, ks)
  | none =>
  match (f_ZF_readNo nf p0 S.1.2.2.2.2.2.2.2.1 S.1.1 S.1.2.1 S.1.2.2.1 (S.2 4).1 (S.2 4).2.1 (S.2 4).2.2.1 (S.2 4).2.2.2.1 (S.2 4).2.2.2.2.1 (S.2 4).2.2.2.2.2.1 (S.2 4).2.2.2.2.2.2.1 (S.2 4).2.2.2.2.2.2.2.1 (S.2 4).2.2.2.2.2.2.2.2.1 (S.2 4).2.2.2.2.2.2.2.2.2.1 (S.2 4).2.2.2.2.2.2.2.2.2.2.1 (S.2 4).2.2.2.2.2.2.2.2.2.2.2.1 (S.2 4).2.2.2.2.2.2.2.2.2.2.2.2.1 (S.2 4).2.2.2.2.2.2.2.2.2.2.2.2.2.1 (S.2 4).2.2.2.2.2.2.2.2.2.2.2.2.2.2.1 (S.2 4).2.2.2.2.2.2.2.2.2.2.2.2.2.2.2.1 (S.2 4).2.2.2.2.2.2.2.2.2.2.2.2.2.2.2.2.1 (S.2 4).2.2.2.2.2.2.2.2.2.2.2.2.2.2.2.2.2.1 (S.2 4).2.2.2.2.2.2.2.2.2.2.2.2.2.2.2.2.2.2.1 (S.2 4).2.2.2.2.2.2.2.2.2.2.2.2.2.2.2.2.2.2.2.1 (S.2 4).2.2.2.2.2.2.2.2.2.2.2.2.2.2.2.2.2.2.2.2.1 (S.2 4).2.2.2.2.2.2.2.2.2.2.2.2.2.2.2.2.2.2.2.2.2.1 (S.2 4).2.2.2.2.2.2.2.2.2.2.2.2.2.2.2.2.2.2.2.2.2.2.1 (S.2 4).2.2.2.2.2.2.2.2.2.2.2.2.2.2.2.2.2.2.2.2.2.2.2.1 (S.2 4).2.2.2.2.2.2.2.2.2.2.2.2.2.2.2.2.2.2.2.2.2.2.2.2.1 (S.2 4).2.2.2.2.2.2.2.2.2.2.2.2.2.2.2.2.2.2.2.2.2.2.2.2.2.1 (S.2 4).2.2.2.2.2.2.2.2.2.2.2.2.2.2.2.2.2.2.2.2.2.2.2.2.2.2.1 (S.2 4).2.2.2.2.2.2.2.2.2.2.2.2.2.2.2.2.2.2.2.2.2.2.2.2.2.2.2.1 (S.2 4).2.2.2.2.2.2.2.2.2.2.2.2.2.2.2.2.2.2.2.2.2.2.2.2.2.2.2.2.1 (S.2 4).2.2.2.2.2.2.2.2.2.2.2.2.2.2.2.2.2.2.2.2.2.2.2.2.2.2.2.2.2.1 (S.2 4).2.2.2.2.2.2.2.2.2.2.2.2.2.2.2.2.2.2.2.2.2.2.2.2.2.2.2.2.2.2.1 (S.2 4).2.2.2.2.2.2.2.2.2.2.2.2.2.2.2.2.2.2.2.2.2.2.2.2.2.2.2.2.2.2.2.1 (S.2 4).2.2.2.2.2.2.2.2.2.2.2.2.2.2.2.2.2.2.2.2.2.2.2.2.2.2.2.2.2.2.2.2.1 (S.2 4).2.2.2.2.2.2.2.2.2.2.2.2.2.2.2.2.2.2.2.2.2.2.2.2.2.2.2.2.2.2.2.2.2.1 (S.2 4).2.2.2.2.2.2.2.2.2.2.2.2.2.2.2.2.2.2.2.2.2.2.2.2.2.2.2.2.2.2.2.2.2.2.1 (S.2 4).2.2.2.2.2.2.2.2.2.2.2.2.2.2.2.2.2.2.2.2.2.2.2.2.2.2.2.2.2.2.2.2.2.2.2.1 (S.2 4).2.2.2.2.2.2.2.2.2.2.2.2.2.2.2.2.2.2.2.2.2.2.2.2.2.2.2.2.2.2.2.2.2.2.2.2.1 (S.2 4).2.2.2.2.2.2.2.2.2.2.2.2.2.2.2.2.2.2.2.2.2.2.2.2.2.2.2.2.2.2.2.2.2.2.2.2.2.1 (S.2 4).2.2.2.2.2.2.2.2.2.2.2.2.2.2.2.2.2.2.2.2.2.2.2.2.2.2.2.2.2.2.2.2.2.2.2.2.2.2.1 (S.2 4).2.2.2.2.2.2.2.2.2.2.2.2.2.2.2.2.2.2.2.2.2.2.2.2.2.2.2.2.2.2.2.2.2.2.2.2.2.2.2.1 (S.2 4).2.2.2.2.2.2.2.2.2.2.2.2.2.2.2.2.2.2.2.2.2.2.2.2.2.2.2.2.2.2.2.2.2.2.2.2.2.2.2.2.1 (S.2 4).2.2.2.2.2.2.2.2.2.2.2.2.2.2.2.2.2.2.2.2.2.2.2.2.2.2.2.2.2.2.2.2.2.2.2.2.2.2.2.2.2) with
  | some ((r0, v0_8, v1_1, v3_0, v3_1, v3_2, v3_3, v3_4, v3_5, v4_a, v5_a, v6_a, v7_a, v8_a, v9_a, v10_a, v11_1, v12_n, v12_a, v13_a, v14_a, v15_3, v15_4, v15_5, v15_6, v15_7, v15_8, v15_9, v15_10, v15_11, v16_1, v17_n, v17_a, v18_0, v18_1, v18_2, v18_3, v18_4, v18_5, v19_0, v19_1, v19_2, v19_3, v19_4, v19_5), kc, ks) => some (0, r0.toInt64, ((v1_1, S.1.2.1, S.1.2.2.1, S.1.2.2.2.1, S.1.2.2.2.2.1, S.1.2.2.2.2.2.1, S.1.2.2.2.2.2.2.1, v0_8, S.1.2.2.2.2.2.2.2.2.1, S.1.2.2.2.2.2.2.2.2.2.1, S.1.2.2.2.2.2.2.2.2.2.2.1, S.1.2.2.2.2.2.2.2.2.2.2.2.1, S.1.2.2.2.2.2.2.2.2.2.2.2.2.1, S.1.2.2.2.2.2.2.2.2.2.2.2.2.2.1, S.1.2.2.2.2.2.2.2.2.2.2.2.2.2.2.1, S.1.2.2.2.2.2.2.2.2.2.2.2.2.2.2.2.1, S.1.2.2.2.2.2.2.2.2.2.2.2.2.2.2.2.2), zup S.2 4 (v3_0, v3_1, v3_2, v3_3, v3_4, v3_5, v4_a, v5_a, v6_a, v7_a, v8_a, v9_a, v10_a, v11_1, v12_n, v12_a, v13_a, v14_a, v15_3, v15_4, v15_5, v15_6, v15_7, v15_8, v15_9, v15_10, v15_11, v16_1, v17_n, v17_a, v18_0, v18_1, v18_2, v18_3, v18_4, v18_5, v19_0, v19_1, v19_2, v19_3, v19_4, v19_5)), kc, ks)
  | none =>
  match (g_ZF_read nf p0) with
  | some 1 => some (1, 0, S, 1, 6)
  | _ => none
set_option maxRecDepth 100000 in
set_option maxHeartbeats 1000000 in
theorem q_read (l : Launch) (hno : NT l) (dC : Nat → ClassId) (dI : Nat → Nat → Nat) (h0 : Nat) (ad : Nat → Nat) (cA : Nat → ClassId) (za : Nat → Nat) (zad : Nat → Nat → Nat) (zcA : Nat → Nat → ClassId) (S : CS) (nf : Nat) (p0 : Int32) {k : Int32} {ans : Int64} {S' : CS} {kc ks : Nat} (h : cq_read nf S p0 = some (k, ans, S', kc, ks)) (o : Nat) (cO : ClassId) (f : Nat → Int64) :
    (k = 0 ∧ OM l y_LW_read (wdW y_LW_read b_LW_read 4 (some .int) [(0, 9, 12, 19)]) ({ frames := 8, cells := kc, slots := ks, locals := 193 }) dC dI (oC o cO f :: WX h0 ad cA za zad zcA S) ((cO, .long) :: TX cA zcA) [.ref h0, .int p0, .ref o] (some (.int 0)) (oF (CW h0 S') o cO f (TX cA zcA) ans) kc ks) ∨
    (kc = 1 ∧ ks = 6 ∧ S' = S ∧ k ≠ 0 ∧ Met l y_LW_read (wdW y_LW_read b_LW_read 4 (some .int) [(0, 9, 12, 19)]) ({ frames := 8, cells := 1, slots := 6, locals := 143 }) (ROX dC dI (WX h0 ad cA za zad zcA S) (TX cA zcA) [.ref h0, .int p0, .ref o]) (MV (some (.int k)) (fun _ => True) (fun _ => False)) 1 6 (fun _ => False)) := by
  unfold cq_read at h
  split at h
  · rename_i hf
    cases h
    obtain ⟨hi, hf⟩ := it_g hf
    exact Or.inl ⟨rfl, cw_read l dC dI p0 (lift_e (i := p0.toNatClampNeg) (zad := zad) (zcA := zcA) hi (o_ZF_readOk l dC dI h0 (za 4) ad cA (zgc za) S.1 (zad 4) (zcA 4) (S.2 4) (za p0.toNatClampNeg) nf p0 hf (by simp [zgc, hi]))) rfl⟩
  · split at h
    · rename_i hf
      cases h
      exact Or.inl ⟨rfl, cw_read l dC dI p0 (lift_z (i := 4) (zad := zad) (zcA := zcA) (by omega) (o_ZF_readNo l dC dI h0 (za 4) ad cA (zgc za) S.1 (zad 4) (zcA 4) (S.2 4) nf p0 hf)) rfl⟩
    · split at h
      · rename_i hf
        cases h
        exact Or.inr ⟨rfl, rfl, rfl, by decide, tw_read_1 l dC dI p0 (metT_mono (t_ZF_read l hno dC dI h0 nf p0 hf) (rox_sub (fun q hq => List.mem_append_left _ (sub_ix (E := commonW h0 ad cA (za 4) (zgc za) S.1) [] rfl q hq)) (fun q hq => List.mem_append_left _ (sub_ix (E := commonT cA) [] rfl q hq)))) rfl⟩
      · exact absurd h (by simp)
def cq_rule (nf : Nat) (S : CS) (p0 : Int32) (p1 : Int32) : Option (Int32 × Int64 × CS × Nat × Nat) :=
  match (if p0.toNatClampNeg < 4 then f_ZF_ruleOk nf p0 p1 S.1.1 S.1.2.1 S.1.2.2.1 (S.2 4).1 (S.2 4).2.1 (S.2 4).2.2.1 (S.2 4).2.2.2.1 (S.2 4).2.2.2.2.1 (S.2 4).2.2.2.2.2.1 (S.2 4).2.2.2.2.2.2.2.2.1 (S.2 4).2.2.2.2.2.2.2.2.2.1 (S.2 4).2.2.2.2.2.2.2.2.2.2.1 (S.2 4).2.2.2.2.2.2.2.2.2.2.2.1 (S.2 4).2.2.2.2.2.2.2.2.2.2.2.2.1 (S.2 4).2.2.2.2.2.2.2.2.2.2.2.2.2.1 (S.2 4).2.2.2.2.2.2.2.2.2.2.2.2.2.2.1 (S.2 4).2.2.2.2.2.2.2.2.2.2.2.2.2.2.2.1 (S.2 4).2.2.2.2.2.2.2.2.2.2.2.2.2.2.2.2.2.2.1 (S.2 4).2.2.2.2.2.2.2.2.2.2.2.2.2.2.2.2.2.2.2.1 (S.2 4).2.2.2.2.2.2.2.2.2.2.2.2.2.2.2.2.2.2.2.2.1 (S.2 4).2.2.2.2.2.2.2.2.2.2.2.2.2.2.2.2.2.2.2.2.2.1 (S.2 4).2.2.2.2.2.2.2.2.2.2.2.2.2.2.2.2.2.2.2.2.2.2.1 (S.2 4).2.2.2.2.2.2.2.2.2.2.2.2.2.2.2.2.2.2.2.2.2.2.2.1 (S.2 4).2.2.2.2.2.2.2.2.2.2.2.2.2.2.2.2.2.2.2.2.2.2.2.2.1 (S.2 4).2.2.2.2.2.2.2.2.2.2.2.2.2.2.2.2.2.2.2.2.2.2.2.2.2.1 (S.2 4).2.2.2.2.2.2.2.2.2.2.2.2.2.2.2.2.2.2.2.2.2.2.2.2.2.2.1 (S.2 4).2.2.2.2.2.2.2.2.2.2.2.2.2.2.2.2.2.2.2.2.2.2.2.2.2.2.2.1 (S.2 4).2.2.2.2.2.2.2.2.2.2.2.2.2.2.2.2.2.2.2.2.2.2.2.2.2.2.2.2.1 (S.2 4).2.2.2.2.2.2.2.2.2.2.2.2.2.2.2.2.2.2.2.2.2.2.2.2.2.2.2.2.2.1 (S.2 4).2.2.2.2.2.2.2.2.2.2.2.2.2.2.2.2.2.2.2.2.2.2.2.2.2.2.2.2.2.2.1 (S.2 4).2.2.2.2.2.2.2.2.2.2.2.2.2.2.2.2.2.2.2.2.2.2.2.2.2.2.2.2.2.2.2.1 (S.2 4).2.2.2.2.2.2.2.2.2.2.2.2.2.2.2.2.2.2.2.2.2.2.2.2.2.2.2.2.2.2.2.2.1 (S.2 4).2.2.2.2.2.2.2.2.2.2.2.2.2.2.2.2.2.2.2.2.2.2.2.2.2.2.2.2.2.2.2.2.2.1 (S.2 4).2.2.2.2.2.2.2.2.2.2.2.2.2.2.2.2.2.2.2.2.2.2.2.2.2.2.2.2.2.2.2.2.2.2.1 (S.2 4).2.2.2.2.2.2.2.2.2.2.2.2.2.2.2.2.2.2.2.2.2.2.2.2.2.2.2.2.2.2.2.2.2.2.2.1 (S.2 4).2.2.2.2.2.2.2.2.2.2.2.2.2.2.2.2.2.2.2.2.2.2.2.2.2.2.2.2.2.2.2.2.2.2.2.2.1 (S.2 4).2.2.2.2.2.2.2.2.2.2.2.2.2.2.2.2.2.2.2.2.2.2.2.2.2.2.2.2.2.2.2.2.2.2.2.2.2.1 (S.2 4).2.2.2.2.2.2.2.2.2.2.2.2.2.2.2.2.2.2.2.2.2.2.2.2.2.2.2.2.2.2.2.2.2.2.2.2.2.2.1 (S.2 4).2.2.2.2.2.2.2.2.2.2.2.2.2.2.2.2.2.2.2.2.2.2.2.2.2.2.2.2.2.2.2.2.2.2.2.2.2.2.2.1 (S.2 4).2.2.2.2.2.2.2.2.2.2.2.2.2.2.2.2.2.2.2.2.2.2.2.2.2.2.2.2.2.2.2.2.2.2.2.2.2.2.2.2.1 (S.2 4).2.2.2.2.2.2.2.2.2.2.2.2.2.2.2.2.2.2.2.2.2.2.2.2.2.2.2.2.2.2.2.2.2.2.2.2.2.2.2.2.2 else none) with
  | some ((r0, v1_1, v4_0, v4_1, v4_2, v4_3, v4_4, v4_5, v5_a, v6_a, v7_a, v8_a, v9_a, v10_1, v11_n, v11_a, v12_3, v12_4, v12_5, v12_6, v12_7, v12_8, v12_9, v12_10, v12_11, v13_1, v14_n, v14_a, v15_0, v15_1, v15_2, v15_3, v15_4, v15_5, v16_0, v16_1, v16_2, v16_3, v16_4, v16_5), kc, ks) => some (0, r0.toInt64, ((v1_1, S.1.2.1, S.1.2.2.1, S.1.2.2.2.1, S.1.2.2.2.2.1, S.1.2.2.2.2.2.1, S.1.2.2.2.2.2.2.1, S.1.2.2.2.2.2.2.2.1, S.1.2.2.2.2.2.2.2.2.1, S.1.2.2.2.2.2.2.2.2.2.1, S.1.2.2.2.2.2.2.2.2.2.2.1, S.1.2.2.2.2.2.2.2.2.2.2.2.1, S.1.2.2.2.2.2.2.2.2.2.2.2.2.1, S.1.2.2.2.2.2.2.2.2.2.2.2.2.2.1, S.1.2.2.2.2.2.2.2.2.2.2.2.2.2.2.1, S.1.2.2.2.2.2.2.2.2.2.2.2.2.2.2.2.1, S.1.2.2.2.2.2.2.2.2.2.2.2.2.2.2.2.2), zsw S.2 p0.toNatClampNeg (v4_0, v4_1, v4_2, v4_3, v4_4, v4_5, (S.2 4).2.2.2.2.2.2.1, (S.2 4).2.2.2.2.2.2.2.1, v5_a, v6_a, v7_a, v8_a, v9_a, v10_1, v11_n, v11_a, (S.2 4).2.2.2.2.2.2.2.2.2.2.2.2.2.2.2.2.1, (S.2 4).2.2.2.2.2.2.2.2.2.2.2.2.2.2.2.2.2.1, v12_3, v12_4, v12_5, v12_6, v12_7, v12_8, v12_9, v12_10, v12_11, v13_1, v14_n, v14_a, v15_0, v15_1, v15_2, v15_3, v15_4, v15_5, v16_0, v16_1, v16_2, v16_3, v16_4, v16_5)), kc, ks)
  | none =>
  match (f_ZF_ruleNo nf p0 p1 S.1.2.2.2.2.2.2.2.1 S.1.1 S.1.2.1 S.1.2.2.1 (S.2 4).1 (S.2 4).2.1 (S.2 4).2.2.1 (S.2 4).2.2.2.1 (S.2 4).2.2.2.2.1 (S.2 4).2.2.2.2.2.1 (S.2 4).2.2.2.2.2.2.2.2.1 (S.2 4).2.2.2.2.2.2.2.2.2.1 (S.2 4).2.2.2.2.2.2.2.2.2.2.1 (S.2 4).2.2.2.2.2.2.2.2.2.2.2.1 (S.2 4).2.2.2.2.2.2.2.2.2.2.2.2.1 (S.2 4).2.2.2.2.2.2.2.2.2.2.2.2.2.1 (S.2 4).2.2.2.2.2.2.2.2.2.2.2.2.2.2.1 (S.2 4).2.2.2.2.2.2.2.2.2.2.2.2.2.2.2.1 (S.2 4).2.2.2.2.2.2.2.2.2.2.2.2.2.2.2.2.2.2.1 (S.2 4).2.2.2.2.2.2.2.2.2.2.2.2.2.2.2.2.2.2.2.1 (S.2 4).2.2.2.2.2.2.2.2.2.2.2.2.2.2.2.2.2.2.2.2.1 (S.2 4).2.2.2.2.2.2.2.2.2.2.2.2.2.2.2.2.2.2.2.2.2.1 (S.2 4).2.2.2.2.2.2.2.2.2.2.2.2.2.2.2.2.2.2.2.2.2.2.1 (S.2 4).2.2.2.2.2.2.2.2.2.2.2.2.2.2.2.2.2.2.2.2.2.2.2.1 (S.2 4).2.2.2.2.2.2.2.2.2.2.2.2.2.2.2.2.2.2.2.2.2.2.2.2.1 (S.2 4).2.2.2.2.2.2.2.2.2.2.2.2.2.2.2.2.2.2.2.2.2.2.2.2.2.1 (S.2 4).2.2.2.2.2.2.2.2.2.2.2.2.2.2.2.2.2.2.2.2.2.2.2.2.2.2.1 (S.2 4).2.2.2.2.2.2.2.2.2.2.2.2.2.2.2.2.2.2.2.2.2.2.2.2.2.2.2.1 (S.2 4).2.2.2.2.2.2.2.2.2.2.2.2.2.2.2.2.2.2.2.2.2.2.2.2.2.2.2.2.1 (S.2 4).2.2.2.2.2.2.2.2.2.2.2.2.2.2.2.2.2.2.2.2.2.2.2.2.2.2.2.2.2.1 (S.2 4).2.2.2.2.2.2.2.2.2.2.2.2.2.2.2.2.2.2.2.2.2.2.2.2.2.2.2.2.2.2.1 (S.2 4).2.2.2.2.2.2.2.2.2.2.2.2.2.2.2.2.2.2.2.2.2.2.2.2.2.2.2.2.2.2.2.1 (S.2 4).2.2.2.2.2.2.2.2.2.2.2.2.2.2.2.2.2.2.2.2.2.2.2.2.2.2.2.2.2.2.2.2.1 (S.2 4).2.2.2.2.2.2.2.2.2.2.2.2.2.2.2.2.2.2.2.2.2.2.2.2.2.2.2.2.2.2.2.2.2.1 (S.2 4).2.2.2.2.2.2.2.2.2.2.2.2.2.2.2.2.2.2.2.2.2.2.2.2.2.2.2.2.2.2.2.2.2.2.1 (S.2 4).2.2.2.2.2.2.2.2.2.2.2.2.2.2.2.2.2.2.2.2.2.2.2.2.2.2.2.2.2.2.2.2.2.2.2.1 (S.2 4).2.2.2.2.2.2.2.2.2.2.2.2.2.2.2.2.2.2.2.2.2.2.2.2.2.2.2.2.2.2.2.2.2.2.2.2.1 (S.2 4).2.2.2.2.2.2.2.2.2.2.2.2.2.2.2.2.2.2.2.2.2.2.2.2.2.2.2.2.2.2.2.2.2.2.2.2.2.1 (S.2 4).2.2.2.2.2.2.2.2.2.2.2.2.2.2.2.2.2.2.2.2.2.2.2.2.2.2.2.2.2.2.2.2.2.2.2.2.2.2.1 (S.2 4).2.2.2.2.2.2.2.2.2.2.2.2.2.2.2.2.2.2.2.2.2.2.2.2.2.2.2.2.2.2.2.2.2.2.2.2.2.2.2.1 (S.2 4).2.2.2.2.2.2.2.2.2.2.2.2.2.2.2.2.2.2.2.2.2.2.2.2.2.2.2.2.2.2.2.2.2.2.2.2.2.2.2.2.1 (S.2 4).2.2.2.2.2.2.2.2.2.2.2.2.2.2.2.2.2.2.2.2.2.2.2.2.2.2.2.2.2.2.2.2.2.2.2.2.2.2.2.2.2) with
  | some ((r0, v0_8, v1_1, v3_0, v3_1, v3_2, v3_3, v3_4, v3_5, v4_a, v5_a, v6_a, v7_a, v8_a, v9_1, v10_n, v10_a, v11_3, v11_4, v11_5, v11_6, v11_7, v11_8, v11_9, v11_10, v11_11, v12_1, v13_n, v13_a, v14_0, v14_1, v14_2, v14_3, v14_4, v14_5, v15_0, v15_1, v15_2, v15_3, v15_4, v15_5), kc, ks) => some (0, r0.toInt64, ((v1_1, S.1.2.1, S.1.2.2.1, S.1.2.2.2.1, S.1.2.2.2.2.1, S.1.2.2.2.2.2.1, S.1.2.2.2.2.2.2.1, v0_8, S.1.2.2.2.2.2.2.2.2.1, S.1.2.2.2.2.2.2.2.2.2.1, S.1.2.2.2.2.2.2.2.2.2.2.1, S.1.2.2.2.2.2.2.2.2.2.2.2.1, S.1.2.2.2.2.2.2.2.2.2.2.2.2.1, S.1.2.2.2.2.2.2.2.2.2.2.2.2.2.1, S.1.2.2.2.2.2.2.2.2.2.2.2.2.2.2.1, S.1.2.2.2.2.2.2.2.2.2.2.2.2.2.2.2.1, S.1.2.2.2.2.2.2.2.2.2.2.2.2.2.2.2.2), zup S.2 4 (v3_0, v3_1, v3_2, v3_3, v3_4, v3_5, (S.2 4).2.2.2.2.2.2.1, (S.2 4).2.2.2.2.2.2.2.1, v4_a, v5_a, v6_a, v7_a, v8_a, v9_1, v10_n, v10_a, (S.2 4).2.2.2.2.2.2.2.2.2.2.2.2.2.2.2.2.1, (S.2 4).2.2.2.2.2.2.2.2.2.2.2.2.2.2.2.2.2.1, v11_3, v11_4, v11_5, v11_6, v11_7, v11_8, v11_9, v11_10, v11_11, v12_1, v13_n, v13_a, v14_0, v14_1, v14_2, v14_3, v14_4, v14_5, v15_0, v15_1, v15_2, v15_3, v15_4, v15_5)), kc, ks)
  | none =>
  match (g_ZF_rule nf p0 p1) with
  | some 1 => some (1, 0, S, 1, 6)
  | _ => none
set_option maxRecDepth 100000 in
set_option maxHeartbeats 1000000 in
theorem q_rule (l : Launch) (hno : NT l) (dC : Nat → ClassId) (dI : Nat → Nat → Nat) (h0 : Nat) (ad : Nat → Nat) (cA : Nat → ClassId) (za : Nat → Nat) (zad : Nat → Nat → Nat) (zcA : Nat → Nat → ClassId) (S : CS) (nf : Nat) (p0 : Int32) (p1 : Int32) {k : Int32} {ans : Int64} {S' : CS} {kc ks : Nat} (h : cq_rule nf S p0 p1 = some (k, ans, S', kc, ks)) (o : Nat) (cO : ClassId) (f : Nat → Int64) :
    (k = 0 ∧ OM l y_LW_rule (wdW y_LW_rule b_LW_rule 5 (some .int) [(0, 10, 13, 19)]) ({ frames := 7, cells := kc, slots := ks, locals := 159 }) dC dI (oC o cO f :: WX h0 ad cA za zad zcA S) ((cO, .long) :: TX cA zcA) [.ref h0, .int p0, .int p1, .ref o] (some (.int 0)) (oF (CW h0 S') o cO f (TX cA zcA) ans) kc ks) ∨
    (kc = 1 ∧ ks = 6 ∧ S' = S ∧ k ≠ 0 ∧ Met l y_LW_rule (wdW y_LW_rule b_LW_rule 5 (some .int) [(0, 10, 13, 19)]) ({ frames := 8, cells := 1, slots := 6, locals := 144 }) (ROX dC dI (WX h0 ad cA za zad zcA S) (TX cA zcA) [.ref h0, .int p0, .int p1, .ref o]) (MV (some (.int k)) (fun _ => True) (fun _ => False)) 1 6 (fun _ => False)) := by
  unfold cq_rule at h
  split at h
  · rename_i hf
    cases h
    obtain ⟨hi, hf⟩ := it_g hf
    exact Or.inl ⟨rfl, cw_rule l dC dI p0 p1 (lift_e (i := p0.toNatClampNeg) (zad := zad) (zcA := zcA) hi (o_ZF_ruleOk l dC dI h0 (za 4) ad cA (zgc za) S.1 (zad 4) (zcA 4) (S.2 4) (za p0.toNatClampNeg) nf p0 p1 hf (by simp [zgc, hi]))) rfl⟩
  · split at h
    · rename_i hf
      cases h
      exact Or.inl ⟨rfl, cw_rule l dC dI p0 p1 (lift_z (i := 4) (zad := zad) (zcA := zcA) (by omega) (o_ZF_ruleNo l dC dI h0 (za 4) ad cA (zgc za) S.1 (zad 4) (zcA 4) (S.2 4) nf p0 p1 hf)) rfl⟩
    · split at h
      · rename_i hf
        cases h
        exact Or.inr ⟨rfl, rfl, rfl, by decide, tw_rule_1 l dC dI p0 p1 (metT_mono (t_ZF_rule l hno dC dI h0 nf p0 p1 hf) (rox_sub (fun q hq => List.mem_append_left _ (sub_ix (E := commonW h0 ad cA (za 4) (zgc za) S.1) [] rfl q hq)) (fun q hq => List.mem_append_left _ (sub_ix (E := commonT cA) [] rfl q hq)))) rfl⟩
      · exact absurd h (by simp)
def cq_zone (nf : Nat) (S : CS) (p0 : Int32) (p1 : Int32) : Option (Int32 × Int64 × CS × Nat × Nat) :=
  match (f_ZF_zone nf p0 p1 (S.2 (zx p0)).1 (S.2 (zx p0)).2.1 (S.2 (zx p0)).2.2.1 (S.2 (zx p0)).2.2.2.1 (S.2 (zx p0)).2.2.2.2.1 (S.2 (zx p0)).2.2.2.2.2.1 (S.2 (zx p0)).2.2.2.2.2.2.2.2.2.2.2.2.2.1 (S.2 (zx p0)).2.2.2.2.2.2.2.2.2.2.2.2.2.2.2.2.2.2.2.2.2.2.2.2.2.2.2.1) with
  | some r0 => some (0, r0.toInt64, S, 0, 0)
  | none =>
  match (g_ZF_zone nf p0 p1) with
  | some 1 => some (1, 0, S, 1, 6)
  | _ => none
set_option maxRecDepth 100000 in
set_option maxHeartbeats 1000000 in
theorem q_zone (l : Launch) (hno : NT l) (dC : Nat → ClassId) (dI : Nat → Nat → Nat) (h0 : Nat) (ad : Nat → Nat) (cA : Nat → ClassId) (za : Nat → Nat) (zad : Nat → Nat → Nat) (zcA : Nat → Nat → ClassId) (S : CS) (nf : Nat) (p0 : Int32) (p1 : Int32) {k : Int32} {ans : Int64} {S' : CS} {kc ks : Nat} (h : cq_zone nf S p0 p1 = some (k, ans, S', kc, ks)) (o : Nat) (cO : ClassId) (f : Nat → Int64) :
    (k = 0 ∧ OM l y_LW_zone (wdW y_LW_zone b_LW_zone 5 (some .int) [(0, 10, 13, 19)]) ({ frames := 2, cells := kc, slots := ks, locals := 43 }) dC dI (oC o cO f :: WX h0 ad cA za zad zcA S) ((cO, .long) :: TX cA zcA) [.ref h0, .int p0, .int p1, .ref o] (some (.int 0)) (oF (CW h0 S') o cO f (TX cA zcA) ans) kc ks) ∨
    (kc = 1 ∧ ks = 6 ∧ S' = S ∧ k ≠ 0 ∧ Met l y_LW_zone (wdW y_LW_zone b_LW_zone 5 (some .int) [(0, 10, 13, 19)]) ({ frames := 8, cells := 1, slots := 6, locals := 143 }) (ROX dC dI (WX h0 ad cA za zad zcA S) (TX cA zcA) [.ref h0, .int p0, .int p1, .ref o]) (MV (some (.int k)) (fun _ => True) (fun _ => False)) 1 6 (fun _ => False)) := by
  unfold cq_zone at h
  split at h
  · rename_i hf
    cases h
    exact Or.inl ⟨rfl, cw_zone l dC dI p0 p1 (lift_z0 (i := zx p0) (zad := zad) (zcA := zcA) (Nat.lt_succ_of_lt (zx_lt p0)) (o_ZF_zone l dC dI h0 (za 4) ad cA (zgc za) S.1 (za (zx p0)) (zad (zx p0)) (zcA (zx p0)) (S.2 (zx p0)) nf p0 p1 hf (zgc_at za p0))) rfl⟩
  · split at h
    · rename_i hf
      cases h
      exact Or.inr ⟨rfl, rfl, rfl, by decide, tw_zone_1 l dC dI p0 p1 (metT_mono (t_ZF_zone l hno dC dI h0 (ad 0) (ad 1) (ad 2) (za 4) (ad 3) (ad 4) (ad 5) (za (zx p0)) (cA 2) nf p0 p1 S.1.2.2.2.2.2.2.1 S.1.2.2.2.2.2.2.2.1 (zgc za) hf (zgc_at za p0)) (rox_sub (fun q hq => List.mem_append_left _ (sub_ix (E := commonW h0 ad cA (za 4) (zgc za) S.1) [0, 5] rfl q hq)) (fun q hq => List.mem_append_left _ (sub_ix (E := commonT cA) [2] rfl q hq)))) rfl⟩
    · exact absurd h (by simp)
def cq_time (nf : Nat) (S : CS) (p0 : Int32) (p1 : Int32) : Option (Int32 × Int64 × CS × Nat × Nat) :=
  match (f_ZF_time nf p0 p1 (S.2 (zx p0)).2.1 (S.2 (zx p0)).2.2.2.2.2.2.1) with
  | some r0 => some (0, r0, S, 0, 0)
  | none =>
  match (g_ZF_time nf p0 p1 ((S.2 (zx p0)).2.1)) with
  | some 1 => some (1, 0, S, 1, 6)
  | _ => none
set_option maxRecDepth 100000 in
set_option maxHeartbeats 1000000 in
theorem q_time (l : Launch) (hno : NT l) (dC : Nat → ClassId) (dI : Nat → Nat → Nat) (h0 : Nat) (ad : Nat → Nat) (cA : Nat → ClassId) (za : Nat → Nat) (zad : Nat → Nat → Nat) (zcA : Nat → Nat → ClassId) (S : CS) (nf : Nat) (p0 : Int32) (p1 : Int32) {k : Int32} {ans : Int64} {S' : CS} {kc ks : Nat} (h : cq_time nf S p0 p1 = some (k, ans, S', kc, ks)) (o : Nat) (cO : ClassId) (f : Nat → Int64) :
    (k = 0 ∧ OM l y_LW_time (wdW y_LW_time b_LW_time 5 (some .int) [(0, 9, 12, 19)]) ({ frames := 2, cells := kc, slots := ks, locals := 43 }) dC dI (oC o cO f :: WX h0 ad cA za zad zcA S) ((cO, .long) :: TX cA zcA) [.ref h0, .int p0, .int p1, .ref o] (some (.int 0)) (oF (CW h0 S') o cO f (TX cA zcA) ans) kc ks) ∨
    (kc = 1 ∧ ks = 6 ∧ S' = S ∧ k ≠ 0 ∧ Met l y_LW_time (wdW y_LW_time b_LW_time 5 (some .int) [(0, 9, 12, 19)]) ({ frames := 8, cells := 1, slots := 6, locals := 143 }) (ROX dC dI (WX h0 ad cA za zad zcA S) (TX cA zcA) [.ref h0, .int p0, .int p1, .ref o]) (MV (some (.int k)) (fun _ => True) (fun _ => False)) 1 6 (fun _ => False)) := by
  unfold cq_time at h
  split at h
  · rename_i hf
    cases h
    exact Or.inl ⟨rfl, cw_time l dC dI p0 p1 (lift_z0 (i := zx p0) (zad := zad) (zcA := zcA) (Nat.lt_succ_of_lt (zx_lt p0)) (o_ZF_time l dC dI h0 (za 4) ad cA (zgc za) S.1 (za (zx p0)) (zad (zx p0)) (zcA (zx p0)) (S.2 (zx p0)) nf p0 p1 hf (zgc_at za p0))) rfl⟩
  · split at h
    · rename_i hf
      cases h
      exact Or.inr ⟨rfl, rfl, rfl, by decide, tw_time_1 l dC dI p0 p1 (metT_mono (t_ZF_time l hno dC dI h0 (ad 0) (ad 1) (ad 2) (za 4) (ad 3) (ad 4) (ad 5) (za (zx p0)) (zad (zx p0) 0) (zad (zx p0) 1) (zad (zx p0) 2) (zad (zx p0) 3) (zad (zx p0) 4) (zad (zx p0) 5) (zad (zx p0) 6) (zad (zx p0) 7) (zad (zx p0) 8) (zad (zx p0) 9) (zad (zx p0) 10) (cA 2) nf p0 p1 S.1.2.2.2.2.2.2.1 S.1.2.2.2.2.2.2.2.1 (zgc za) ((S.2 (zx p0)).1) ((S.2 (zx p0)).2.1) ((S.2 (zx p0)).2.2.1) ((S.2 (zx p0)).2.2.2.1) ((S.2 (zx p0)).2.2.2.2.1) ((S.2 (zx p0)).2.2.2.2.2.1) hf (zgc_at za p0)) (rox_sub (fun q hq => (WX_sel (i := zx p0) (Nat.lt_succ_of_lt (zx_lt p0))).mem_iff.mpr (List.mem_append_left _ (sub_ix (E := commonW h0 ad cA (za 4) (zgc za) S.1 ++ zoneW (za (zx p0)) (zad (zx p0)) (zcA (zx p0)) (S.2 (zx p0))) [0, 5, 13] rfl q hq))) (fun q hq => TX_sel (i := zx p0) (Nat.lt_succ_of_lt (zx_lt p0)) q (sub_ix (E := commonT cA ++ zoneT (zcA (zx p0))) [2] rfl q hq)))) rfl⟩
    · exact absurd h (by simp)
def cq_typeAt (nf : Nat) (S : CS) (p0 : Int32) (p1 : Int32) : Option (Int32 × Int64 × CS × Nat × Nat) :=
  match (f_ZF_typeAt nf p0 p1 (S.2 (zx p0)).2.1 (S.2 (zx p0)).2.2.2.2.2.2.2.1) with
  | some r0 => some (0, r0.toInt64, S, 0, 0)
  | none =>
  match (g_ZF_typeAt nf p0 p1 ((S.2 (zx p0)).2.1)) with
  | some 1 => some (1, 0, S, 1, 6)
  | _ => none
set_option maxRecDepth 100000 in
set_option maxHeartbeats 1000000 in
theorem q_typeAt (l : Launch) (hno : NT l) (dC : Nat → ClassId) (dI : Nat → Nat → Nat) (h0 : Nat) (ad : Nat → Nat) (cA : Nat → ClassId) (za : Nat → Nat) (zad : Nat → Nat → Nat) (zcA : Nat → Nat → ClassId) (S : CS) (nf : Nat) (p0 : Int32) (p1 : Int32) {k : Int32} {ans : Int64} {S' : CS} {kc ks : Nat} (h : cq_typeAt nf S p0 p1 = some (k, ans, S', kc, ks)) (o : Nat) (cO : ClassId) (f : Nat → Int64) :
    (k = 0 ∧ OM l y_LW_typeAt (wdW y_LW_typeAt b_LW_typeAt 5 (some .int) [(0, 10, 13, 19)]) ({ frames := 2, cells := kc, slots := ks, locals := 43 }) dC dI (oC o cO f :: WX h0 ad cA za zad zcA S) ((cO, .long) :: TX cA zcA) [.ref h0, .int p0, .int p1, .ref o] (some (.int 0)) (oF (CW h0 S') o cO f (TX cA zcA) ans) kc ks) ∨
    (kc = 1 ∧ ks = 6 ∧ S' = S ∧ k ≠ 0 ∧ Met l y_LW_typeAt (wdW y_LW_typeAt b_LW_typeAt 5 (some .int) [(0, 10, 13, 19)]) ({ frames := 8, cells := 1, slots := 6, locals := 143 }) (ROX dC dI (WX h0 ad cA za zad zcA S) (TX cA zcA) [.ref h0, .int p0, .int p1, .ref o]) (MV (some (.int k)) (fun _ => True) (fun _ => False)) 1 6 (fun _ => False)) := by
  unfold cq_typeAt at h
  split at h
  · rename_i hf
    cases h
    exact Or.inl ⟨rfl, cw_typeAt l dC dI p0 p1 (lift_z0 (i := zx p0) (zad := zad) (zcA := zcA) (Nat.lt_succ_of_lt (zx_lt p0)) (o_ZF_typeAt l dC dI h0 (za 4) ad cA (zgc za) S.1 (za (zx p0)) (zad (zx p0)) (zcA (zx p0)) (S.2 (zx p0)) nf p0 p1 hf (zgc_at za p0))) rfl⟩
  · split at h
    · rename_i hf
      cases h
      exact Or.inr ⟨rfl, rfl, rfl, by decide, tw_typeAt_1 l dC dI p0 p1 (metT_mono (t_ZF_typeAt l hno dC dI h0 (ad 0) (ad 1) (ad 2) (za 4) (ad 3) (ad 4) (ad 5) (za (zx p0)) (zad (zx p0) 0) (zad (zx p0) 1) (zad (zx p0) 2) (zad (zx p0) 3) (zad (zx p0) 4) (zad (zx p0) 5) (zad (zx p0) 6) (zad (zx p0) 7) (zad (zx p0) 8) (zad (zx p0) 9) (zad (zx p0) 10) (cA 2) nf p0 p1 S.1.2.2.2.2.2.2.1 S.1.2.2.2.2.2.2.2.1 (zgc za) ((S.2 (zx p0)).1) ((S.2 (zx p0)).2.1) ((S.2 (zx p0)).2.2.1) ((S.2 (zx p0)).2.2.2.1) ((S.2 (zx p0)).2.2.2.2.1) ((S.2 (zx p0)).2.2.2.2.2.1) hf (zgc_at za p0)) (rox_sub (fun q hq => (WX_sel (i := zx p0) (Nat.lt_succ_of_lt (zx_lt p0))).mem_iff.mpr (List.mem_append_left _ (sub_ix (E := commonW h0 ad cA (za 4) (zgc za) S.1 ++ zoneW (za (zx p0)) (zad (zx p0)) (zcA (zx p0)) (S.2 (zx p0))) [0, 5, 13] rfl q hq))) (fun q hq => TX_sel (i := zx p0) (Nat.lt_succ_of_lt (zx_lt p0)) q (sub_ix (E := commonT cA ++ zoneT (zcA (zx p0))) [2] rfl q hq)))) rfl⟩
    · exact absurd h (by simp)
def cq_type (nf : Nat) (S : CS) (p0 : Int32) (p1 : Int32) (p2 : Int32) : Option (Int32 × Int64 × CS × Nat × Nat) :=
  match (f_ZF_type nf p0 p1 p2 (S.2 (zx p0)).2.2.1 (S.2 (zx p0)).2.2.2.2.1 (S.2 (zx p0)).2.2.2.2.2.1 (S.2 (zx p0)).2.2.2.2.2.2.2.2.1 (S.2 (zx p0)).2.2.2.2.2.2.2.2.2.1 (S.2 (zx p0)).2.2.2.2.2.2.2.2.2.2.1 (S.2 (zx p0)).2.2.2.2.2.2.2.2.2.2.2.1 (S.2 (zx p0)).2.2.2.2.2.2.2.2.2.2.2.2.1 (S.2 (zx p0)).2.2.2.2.2.2.2.2.2.2.2.2.2.1 (S.2 (zx p0)).2.2.2.2.2.2.2.2.2.2.2.2.2.2.1 (S.2 (zx p0)).2.2.2.2.2.2.2.2.2.2.2.2.2.2.2.1 (S.2 (zx p0)).2.2.2.2.2.2.2.2.2.2.2.2.2.2.2.2.2.2.2.2.2.2.2.1 (S.2 (zx p0)).2.2.2.2.2.2.2.2.2.2.2.2.2.2.2.2.2.2.2.2.2.2.2.2.2.1) with
  | some r0 => some (0, r0.toInt64, S, 0, 0)
  | none =>
  match (g_ZF_type nf p0 p1 p2 ((S.2 (zx p0)).2.2.1)) with
  | some 1 => some (1, 0, S, 1, 6)
  | _ => none
set_option maxRecDepth 100000 in
set_option maxHeartbeats 1000000 in
theorem q_type (l : Launch) (hno : NT l) (dC : Nat → ClassId) (dI : Nat → Nat → Nat) (h0 : Nat) (ad : Nat → Nat) (cA : Nat → ClassId) (za : Nat → Nat) (zad : Nat → Nat → Nat) (zcA : Nat → Nat → ClassId) (S : CS) (nf : Nat) (p0 : Int32) (p1 : Int32) (p2 : Int32) {k : Int32} {ans : Int64} {S' : CS} {kc ks : Nat} (h : cq_type nf S p0 p1 p2 = some (k, ans, S', kc, ks)) (o : Nat) (cO : ClassId) (f : Nat → Int64) :
    (k = 0 ∧ OM l y_LW_type (wdW y_LW_type b_LW_type 6 (some .int) [(0, 12, 15, 19)]) ({ frames := 3, cells := kc, slots := ks, locals := 68 }) dC dI (oC o cO f :: WX h0 ad cA za zad zcA S) ((cO, .long) :: TX cA zcA) [.ref h0, .int p0, .int p1, .int p2, .ref o] (some (.int 0)) (oF (CW h0 S') o cO f (TX cA zcA) ans) kc ks) ∨
    (kc = 1 ∧ ks = 6 ∧ S' = S ∧ k ≠ 0 ∧ Met l y_LW_type (wdW y_LW_type b_LW_type 6 (some .int) [(0, 12, 15, 19)]) ({ frames := 8, cells := 1, slots := 6, locals := 145 }) (ROX dC dI (WX h0 ad cA za zad zcA S) (TX cA zcA) [.ref h0, .int p0, .int p1, .int p2, .ref o]) (MV (some (.int k)) (fun _ => True) (fun _ => False)) 1 6 (fun _ => False)) := by
  unfold cq_type at h
  split at h
  · rename_i hf
    cases h
    exact Or.inl ⟨rfl, cw_type l dC dI p0 p1 p2 (lift_z0 (i := zx p0) (zad := zad) (zcA := zcA) (Nat.lt_succ_of_lt (zx_lt p0)) (o_ZF_type l dC dI h0 (za 4) ad cA (zgc za) S.1 (za (zx p0)) (zad (zx p0)) (zcA (zx p0)) (S.2 (zx p0)) nf p0 p1 p2 hf (zgc_at za p0))) rfl⟩
  · split at h
    · rename_i hf
      cases h
      exact Or.inr ⟨rfl, rfl, rfl, by decide, tw_type_1 l dC dI p0 p1 p2 (metT_mono (t_ZF_type l hno dC dI h0 (ad 0) (ad 1) (ad 2) (za 4) (ad 3) (ad 4) (ad 5) (za (zx p0)) (zad (zx p0) 0) (zad (zx p0) 1) (zad (zx p0) 2) (zad (zx p0) 3) (zad (zx p0) 4) (zad (zx p0) 5) (zad (zx p0) 6) (zad (zx p0) 7) (zad (zx p0) 8) (zad (zx p0) 9) (zad (zx p0) 10) (cA 2) nf p0 p1 p2 S.1.2.2.2.2.2.2.1 S.1.2.2.2.2.2.2.2.1 (zgc za) ((S.2 (zx p0)).1) ((S.2 (zx p0)).2.1) ((S.2 (zx p0)).2.2.1) ((S.2 (zx p0)).2.2.2.1) ((S.2 (zx p0)).2.2.2.2.1) ((S.2 (zx p0)).2.2.2.2.2.1) hf (zgc_at za p0)) (rox_sub (fun q hq => (WX_sel (i := zx p0) (Nat.lt_succ_of_lt (zx_lt p0))).mem_iff.mpr (List.mem_append_left _ (sub_ix (E := commonW h0 ad cA (za 4) (zgc za) S.1 ++ zoneW (za (zx p0)) (zad (zx p0)) (zcA (zx p0)) (S.2 (zx p0))) [0, 5, 13] rfl q hq))) (fun q hq => TX_sel (i := zx p0) (Nat.lt_succ_of_lt (zx_lt p0)) q (sub_ix (E := commonT cA ++ zoneT (zcA (zx p0))) [2] rfl q hq)))) rfl⟩
    · exact absurd h (by simp)
def cq_letter (nf : Nat) (S : CS) (p0 : Int32) (p1 : Int32) (p2 : Int32) : Option (Int32 × Int64 × CS × Nat × Nat) :=
  match (f_ZF_letter nf p0 p1 p2 (S.2 (zx p0)).2.2.2.2.2.2.2.2.2.2.2.2.2.1 (S.2 (zx p0)).2.2.2.2.2.2.2.2.2.2.2.2.2.2.1 (S.2 (zx p0)).2.2.2.2.2.2.2.2.2.2.2.2.2.2.2.1 (S.2 (zx p0)).2.2.2.2.2.2.2.2.2.2.2.2.2.2.2.2.2.2.2.2.2.2.2.2.2.2.2.1 (S.2 (zx p0)).2.2.2.2.2.2.2.2.2.2.2.2.2.2.2.2.2.2.2.2.2.2.2.2.2.2.2.2.1 (S.2 (zx p0)).2.2.2.2.2.2.2.2.2.2.2.2.2.2.2.2.2.2.2.2.2.2.2.2.2.2.2.2.2.1) with
  | some r0 => some (0, r0.toInt64, S, 0, 0)
  | none =>
  match (g_ZF_letter nf p0 p1 p2 ((S.2 (zx p0)).2.2.2.2.2.2.2.2.2.2.2.2.2.1) ((S.2 (zx p0)).2.2.2.2.2.2.2.2.2.2.2.2.2.2.2.2.2.2.2.2.2.2.2.2.2.2.2.1)) with
  | some 1 => some (1, 0, S, 1, 6)
  | _ => none
set_option maxRecDepth 100000 in
set_option maxHeartbeats 1000000 in
theorem q_letter (l : Launch) (hno : NT l) (dC : Nat → ClassId) (dI : Nat → Nat → Nat) (h0 : Nat) (ad : Nat → Nat) (cA : Nat → ClassId) (za : Nat → Nat) (zad : Nat → Nat → Nat) (zcA : Nat → Nat → ClassId) (S : CS) (nf : Nat) (p0 : Int32) (p1 : Int32) (p2 : Int32) {k : Int32} {ans : Int64} {S' : CS} {kc ks : Nat} (h : cq_letter nf S p0 p1 p2 = some (k, ans, S', kc, ks)) (o : Nat) (cO : ClassId) (f : Nat → Int64) :
    (k = 0 ∧ OM l y_LW_letter (wdW y_LW_letter b_LW_letter 6 (some .int) [(0, 12, 15, 19)]) ({ frames := 2, cells := kc, slots := ks, locals := 45 }) dC dI (oC o cO f :: WX h0 ad cA za zad zcA S) ((cO, .long) :: TX cA zcA) [.ref h0, .int p0, .int p1, .int p2, .ref o] (some (.int 0)) (oF (CW h0 S') o cO f (TX cA zcA) ans) kc ks) ∨
    (kc = 1 ∧ ks = 6 ∧ S' = S ∧ k ≠ 0 ∧ Met l y_LW_letter (wdW y_LW_letter b_LW_letter 6 (some .int) [(0, 12, 15, 19)]) ({ frames := 8, cells := 1, slots := 6, locals := 145 }) (ROX dC dI (WX h0 ad cA za zad zcA S) (TX cA zcA) [.ref h0, .int p0, .int p1, .int p2, .ref o]) (MV (some (.int k)) (fun _ => True) (fun _ => False)) 1 6 (fun _ => False)) := by
  unfold cq_letter at h
  split at h
  · rename_i hf
    cases h
    exact Or.inl ⟨rfl, cw_letter l dC dI p0 p1 p2 (lift_z0 (i := zx p0) (zad := zad) (zcA := zcA) (Nat.lt_succ_of_lt (zx_lt p0)) (o_ZF_letter l dC dI h0 (za 4) ad cA (zgc za) S.1 (za (zx p0)) (zad (zx p0)) (zcA (zx p0)) (S.2 (zx p0)) nf p0 p1 p2 hf (zgc_at za p0))) rfl⟩
  · split at h
    · rename_i hf
      cases h
      exact Or.inr ⟨rfl, rfl, rfl, by decide, tw_letter_1 l dC dI p0 p1 p2 (metT_mono (t_ZF_letter l hno dC dI h0 (ad 0) (ad 1) (ad 2) (za 4) (ad 3) (ad 4) (ad 5) (za (zx p0)) (zad (zx p0) 0) (zad (zx p0) 1) (zad (zx p0) 2) (zad (zx p0) 3) (zad (zx p0) 4) (zad (zx p0) 5) (zad (zx p0) 6) (zad (zx p0) 7) (zad (zx p0) 8) (zad (zx p0) 9) (zad (zx p0) 10) (zad (zx p0) 11) (zad (zx p0) 12) (zad (zx p0) 13) (zad (zx p0) 14) (zad (zx p0) 15) (cA 2) nf p0 p1 p2 S.1.2.2.2.2.2.2.1 S.1.2.2.2.2.2.2.2.1 (zgc za) ((S.2 (zx p0)).1) ((S.2 (zx p0)).2.1) ((S.2 (zx p0)).2.2.1) ((S.2 (zx p0)).2.2.2.1) ((S.2 (zx p0)).2.2.2.2.1) ((S.2 (zx p0)).2.2.2.2.2.1) ((S.2 (zx p0)).2.2.2.2.2.2.2.2.2.2.2.2.2.1) ((S.2 (zx p0)).2.2.2.2.2.2.2.2.2.2.2.2.2.2.2.2.2.2.1) ((S.2 (zx p0)).2.2.2.2.2.2.2.2.2.2.2.2.2.2.2.2.2.2.2.1) ((S.2 (zx p0)).2.2.2.2.2.2.2.2.2.2.2.2.2.2.2.2.2.2.2.2.1) ((S.2 (zx p0)).2.2.2.2.2.2.2.2.2.2.2.2.2.2.2.2.2.2.2.2.2.1) ((S.2 (zx p0)).2.2.2.2.2.2.2.2.2.2.2.2.2.2.2.2.2.2.2.2.2.2.1) ((S.2 (zx p0)).2.2.2.2.2.2.2.2.2.2.2.2.2.2.2.2.2.2.2.2.2.2.2.1) ((S.2 (zx p0)).2.2.2.2.2.2.2.2.2.2.2.2.2.2.2.2.2.2.2.2.2.2.2.2.1) ((S.2 (zx p0)).2.2.2.2.2.2.2.2.2.2.2.2.2.2.2.2.2.2.2.2.2.2.2.2.2.1) ((S.2 (zx p0)).2.2.2.2.2.2.2.2.2.2.2.2.2.2.2.2.2.2.2.2.2.2.2.2.2.2.1) ((S.2 (zx p0)).2.2.2.2.2.2.2.2.2.2.2.2.2.2.2.2.2.2.2.2.2.2.2.2.2.2.2.1) hf (zgc_at za p0)) (rox_sub (fun q hq => (WX_sel (i := zx p0) (Nat.lt_succ_of_lt (zx_lt p0))).mem_iff.mpr (List.mem_append_left _ (sub_ix (E := commonW h0 ad cA (za 4) (zgc za) S.1 ++ zoneW (za (zx p0)) (zad (zx p0)) (zcA (zx p0)) (S.2 (zx p0))) [0, 5, 13, 21, 25, 26] rfl q hq))) (fun q hq => TX_sel (i := zx p0) (Nat.lt_succ_of_lt (zx_lt p0)) q (sub_ix (E := commonT cA ++ zoneT (zcA (zx p0))) [2] rfl q hq)))) rfl⟩
    · exact absurd h (by simp)
def cq_leap (nf : Nat) (S : CS) (p0 : Int32) (p1 : Int32) (p2 : Int32) : Option (Int32 × Int64 × CS × Nat × Nat) :=
  match (f_ZF_leap nf p0 p1 p2 (S.2 (zx p0)).2.2.2.1 (S.2 (zx p0)).2.2.2.2.2.2.2.2.2.2.2.2.2.2.2.2.1 (S.2 (zx p0)).2.2.2.2.2.2.2.2.2.2.2.2.2.2.2.2.2.1) with
  | some r0 => some (0, r0, S, 0, 0)
  | none =>
  match (g_ZF_leap nf p0 p1 p2 ((S.2 (zx p0)).2.2.2.1)) with
  | some 1 => some (1, 0, S, 1, 6)
  | _ => none
set_option maxRecDepth 100000 in
set_option maxHeartbeats 1000000 in
theorem q_leap (l : Launch) (hno : NT l) (dC : Nat → ClassId) (dI : Nat → Nat → Nat) (h0 : Nat) (ad : Nat → Nat) (cA : Nat → ClassId) (za : Nat → Nat) (zad : Nat → Nat → Nat) (zcA : Nat → Nat → ClassId) (S : CS) (nf : Nat) (p0 : Int32) (p1 : Int32) (p2 : Int32) {k : Int32} {ans : Int64} {S' : CS} {kc ks : Nat} (h : cq_leap nf S p0 p1 p2 = some (k, ans, S', kc, ks)) (o : Nat) (cO : ClassId) (f : Nat → Int64) :
    (k = 0 ∧ OM l y_LW_leap (wdW y_LW_leap b_LW_leap 6 (some .int) [(0, 11, 14, 19)]) ({ frames := 2, cells := kc, slots := ks, locals := 44 }) dC dI (oC o cO f :: WX h0 ad cA za zad zcA S) ((cO, .long) :: TX cA zcA) [.ref h0, .int p0, .int p1, .int p2, .ref o] (some (.int 0)) (oF (CW h0 S') o cO f (TX cA zcA) ans) kc ks) ∨
    (kc = 1 ∧ ks = 6 ∧ S' = S ∧ k ≠ 0 ∧ Met l y_LW_leap (wdW y_LW_leap b_LW_leap 6 (some .int) [(0, 11, 14, 19)]) ({ frames := 8, cells := 1, slots := 6, locals := 144 }) (ROX dC dI (WX h0 ad cA za zad zcA S) (TX cA zcA) [.ref h0, .int p0, .int p1, .int p2, .ref o]) (MV (some (.int k)) (fun _ => True) (fun _ => False)) 1 6 (fun _ => False)) := by
  unfold cq_leap at h
  split at h
  · rename_i hf
    cases h
    exact Or.inl ⟨rfl, cw_leap l dC dI p0 p1 p2 (lift_z0 (i := zx p0) (zad := zad) (zcA := zcA) (Nat.lt_succ_of_lt (zx_lt p0)) (o_ZF_leap l dC dI h0 (za 4) ad cA (zgc za) S.1 (za (zx p0)) (zad (zx p0)) (zcA (zx p0)) (S.2 (zx p0)) nf p0 p1 p2 hf (zgc_at za p0))) rfl⟩
  · split at h
    · rename_i hf
      cases h
      exact Or.inr ⟨rfl, rfl, rfl, by decide, tw_leap_1 l dC dI p0 p1 p2 (metT_mono (t_ZF_leap l hno dC dI h0 (ad 0) (ad 1) (ad 2) (za 4) (ad 3) (ad 4) (ad 5) (za (zx p0)) (zad (zx p0) 0) (zad (zx p0) 1) (zad (zx p0) 2) (zad (zx p0) 3) (zad (zx p0) 4) (zad (zx p0) 5) (zad (zx p0) 6) (zad (zx p0) 7) (zad (zx p0) 8) (zad (zx p0) 9) (zad (zx p0) 10) (cA 2) nf p0 p1 p2 S.1.2.2.2.2.2.2.1 S.1.2.2.2.2.2.2.2.1 (zgc za) ((S.2 (zx p0)).1) ((S.2 (zx p0)).2.1) ((S.2 (zx p0)).2.2.1) ((S.2 (zx p0)).2.2.2.1) ((S.2 (zx p0)).2.2.2.2.1) ((S.2 (zx p0)).2.2.2.2.2.1) hf (zgc_at za p0)) (rox_sub (fun q hq => (WX_sel (i := zx p0) (Nat.lt_succ_of_lt (zx_lt p0))).mem_iff.mpr (List.mem_append_left _ (sub_ix (E := commonW h0 ad cA (za 4) (zgc za) S.1 ++ zoneW (za (zx p0)) (zad (zx p0)) (zcA (zx p0)) (S.2 (zx p0))) [0, 5, 13] rfl q hq))) (fun q hq => TX_sel (i := zx p0) (Nat.lt_succ_of_lt (zx_lt p0)) q (sub_ix (E := commonT cA ++ zoneT (zcA (zx p0))) [2] rfl q hq)))) rfl⟩
    · exact absurd h (by simp)
def cq_at (nf : Nat) (S : CS) (p0 : Int32) (p1 : Int64) (p2 : Int32) : Option (Int32 × Int64 × CS × Nat × Nat) :=
  match (f_ZF_at nf p0 p1 p2 (S.2 (zx p0)).2.1 (S.2 (zx p0)).2.2.1 (S.2 (zx p0)).2.2.2.2.2.2.1 (S.2 (zx p0)).2.2.2.2.2.2.2.1 (S.2 (zx p0)).2.2.2.2.2.2.2.2.1 (S.2 (zx p0)).2.2.2.2.2.2.2.2.2.1 (S.2 (zx p0)).2.2.2.2.2.2.2.2.2.2.1 (S.2 (zx p0)).2.2.2.2.2.2.2.2.2.2.2.2.2.1 (S.2 (zx p0)).2.2.2.2.2.2.2.2.2.2.2.2.2.2.1 (S.2 (zx p0)).2.2.2.2.2.2.2.2.2.2.2.2.2.2.2.1 (S.2 (zx p0)).2.2.2.2.2.2.2.2.2.2.2.2.2.2.2.2.2.2.1 (S.2 (zx p0)).2.2.2.2.2.2.2.2.2.2.2.2.2.2.2.2.2.2.2.2.1 (S.2 (zx p0)).2.2.2.2.2.2.2.2.2.2.2.2.2.2.2.2.2.2.2.2.2.1 (S.2 (zx p0)).2.2.2.2.2.2.2.2.2.2.2.2.2.2.2.2.2.2.2.2.2.2.2.1 (S.2 (zx p0)).2.2.2.2.2.2.2.2.2.2.2.2.2.2.2.2.2.2.2.2.2.2.2.2.2.1 (S.2 (zx p0)).2.2.2.2.2.2.2.2.2.2.2.2.2.2.2.2.2.2.2.2.2.2.2.2.2.2.2.1 (S.2 (zx p0)).2.2.2.2.2.2.2.2.2.2.2.2.2.2.2.2.2.2.2.2.2.2.2.2.2.2.2.2.2.2.1 (S.2 (zx p0)).2.2.2.2.2.2.2.2.2.2.2.2.2.2.2.2.2.2.2.2.2.2.2.2.2.2.2.2.2.2.2.1 (S.2 (zx p0)).2.2.2.2.2.2.2.2.2.2.2.2.2.2.2.2.2.2.2.2.2.2.2.2.2.2.2.2.2.2.2.2.1 (S.2 (zx p0)).2.2.2.2.2.2.2.2.2.2.2.2.2.2.2.2.2.2.2.2.2.2.2.2.2.2.2.2.2.2.2.2.2.1 (S.2 (zx p0)).2.2.2.2.2.2.2.2.2.2.2.2.2.2.2.2.2.2.2.2.2.2.2.2.2.2.2.2.2.2.2.2.2.2.1 (S.2 (zx p0)).2.2.2.2.2.2.2.2.2.2.2.2.2.2.2.2.2.2.2.2.2.2.2.2.2.2.2.2.2.2.2.2.2.2.2.1 (S.2 (zx p0)).2.2.2.2.2.2.2.2.2.2.2.2.2.2.2.2.2.2.2.2.2.2.2.2.2.2.2.2.2.2.2.2.2.2.2.2.1 (S.2 (zx p0)).2.2.2.2.2.2.2.2.2.2.2.2.2.2.2.2.2.2.2.2.2.2.2.2.2.2.2.2.2.2.2.2.2.2.2.2.2.1 (S.2 (zx p0)).2.2.2.2.2.2.2.2.2.2.2.2.2.2.2.2.2.2.2.2.2.2.2.2.2.2.2.2.2.2.2.2.2.2.2.2.2.2.1 (S.2 (zx p0)).2.2.2.2.2.2.2.2.2.2.2.2.2.2.2.2.2.2.2.2.2.2.2.2.2.2.2.2.2.2.2.2.2.2.2.2.2.2.2.1 (S.2 (zx p0)).2.2.2.2.2.2.2.2.2.2.2.2.2.2.2.2.2.2.2.2.2.2.2.2.2.2.2.2.2.2.2.2.2.2.2.2.2.2.2.2.1 (S.2 (zx p0)).2.2.2.2.2.2.2.2.2.2.2.2.2.2.2.2.2.2.2.2.2.2.2.2.2.2.2.2.2.2.2.2.2.2.2.2.2.2.2.2.2) with
  | some r0 => some (0, r0.toInt64, S, 0, 0)
  | none =>
  match (g_ZF_at nf p0 p1 p2) with
  | some 1 => some (1, 0, S, 1, 6)
  | some 2 => some (2, 0, S, 1, 6)
  | _ => none
set_option maxRecDepth 100000 in
set_option maxHeartbeats 1000000 in
theorem q_at (l : Launch) (hno : NT l) (dC : Nat → ClassId) (dI : Nat → Nat → Nat) (h0 : Nat) (ad : Nat → Nat) (cA : Nat → ClassId) (za : Nat → Nat) (zad : Nat → Nat → Nat) (zcA : Nat → Nat → ClassId) (S : CS) (nf : Nat) (p0 : Int32) (p1 : Int64) (p2 : Int32) {k : Int32} {ans : Int64} {S' : CS} {kc ks : Nat} (h : cq_at nf S p0 p1 p2 = some (k, ans, S', kc, ks)) (o : Nat) (cO : ClassId) (f : Nat → Int64) :
    (k = 0 ∧ OM l y_LW_at (wdW y_LW_at b_LW_at 7 (some .int) [(0, 13, 16, 19), (0, 13, 20, 13)]) ({ frames := 7, cells := kc, slots := ks, locals := 174 }) dC dI (oC o cO f :: WX h0 ad cA za zad zcA S) ((cO, .long) :: TX cA zcA) [.ref h0, .int p0, .long p1, .int p2, .ref o] (some (.int 0)) (oF (CW h0 S') o cO f (TX cA zcA) ans) kc ks) ∨
    (kc = 1 ∧ ks = 6 ∧ S' = S ∧ k ≠ 0 ∧ Met l y_LW_at (wdW y_LW_at b_LW_at 7 (some .int) [(0, 13, 16, 19), (0, 13, 20, 13)]) ({ frames := 8, cells := 1, slots := 6, locals := 147 }) (ROX dC dI (WX h0 ad cA za zad zcA S) (TX cA zcA) [.ref h0, .int p0, .long p1, .int p2, .ref o]) (MV (some (.int k)) (fun _ => True) (fun _ => False)) 1 6 (fun _ => False)) := by
  unfold cq_at at h
  split at h
  · rename_i hf
    cases h
    exact Or.inl ⟨rfl, cw_at l dC dI p0 p1 p2 (lift_z0 (i := zx p0) (zad := zad) (zcA := zcA) (Nat.lt_succ_of_lt (zx_lt p0)) (o_ZF_at l dC dI h0 (za 4) ad cA (zgc za) S.1 (za (zx p0)) (zad (zx p0)) (zcA (zx p0)) (S.2 (zx p0)) nf p0 p1 p2 hf (zgc_at za p0))) rfl⟩
  · split at h
    · rename_i hf
      cases h
      exact Or.inr ⟨rfl, rfl, rfl, by decide, tw_at_1 l dC dI p0 p1 p2 (metT_mono (t_ZF_at l hno dC dI h0 nf p0 p1 p2 hf) (rox_sub (fun q hq => List.mem_append_left _ (sub_ix (E := commonW h0 ad cA (za 4) (zgc za) S.1) [] rfl q hq)) (fun q hq => List.mem_append_left _ (sub_ix (E := commonT cA) [] rfl q hq)))) rfl⟩
    · rename_i hf
      cases h
      exact Or.inr ⟨rfl, rfl, rfl, by decide, tw_at_2 l dC dI p0 p1 p2 (metT_mono (t_ZF_at l hno dC dI h0 nf p0 p1 p2 hf) (rox_sub (fun q hq => List.mem_append_left _ (sub_ix (E := commonW h0 ad cA (za 4) (zgc za) S.1) [] rfl q hq)) (fun q hq => List.mem_append_left _ (sub_ix (E := commonT cA) [] rfl q hq)))) rfl⟩
    · exact absurd h (by simp)
def cq_name (nf : Nat) (S : CS) (p0 : Int32) (p1 : Int64) (p2 : Int32) : Option (Int32 × Int64 × CS × Nat × Nat) :=
  match (f_ZF_name nf p0 p1 p2 (S.2 (zx p0)).2.1 (S.2 (zx p0)).2.2.1 (S.2 (zx p0)).2.2.2.2.2.2.1 (S.2 (zx p0)).2.2.2.2.2.2.2.1 (S.2 (zx p0)).2.2.2.2.2.2.2.2.2.2.1 (S.2 (zx p0)).2.2.2.2.2.2.2.2.2.2.2.2.2.1 (S.2 (zx p0)).2.2.2.2.2.2.2.2.2.2.2.2.2.2.1 (S.2 (zx p0)).2.2.2.2.2.2.2.2.2.2.2.2.2.2.2.1 (S.2 (zx p0)).2.2.2.2.2.2.2.2.2.2.2.2.2.2.2.2.2.2.1 (S.2 (zx p0)).2.2.2.2.2.2.2.2.2.2.2.2.2.2.2.2.2.2.2.2.2.2.1 (S.2 (zx p0)).2.2.2.2.2.2.2.2.2.2.2.2.2.2.2.2.2.2.2.2.2.2.2.1 (S.2 (zx p0)).2.2.2.2.2.2.2.2.2.2.2.2.2.2.2.2.2.2.2.2.2.2.2.2.1 (S.2 (zx p0)).2.2.2.2.2.2.2.2.2.2.2.2.2.2.2.2.2.2.2.2.2.2.2.2.2.1 (S.2 (zx p0)).2.2.2.2.2.2.2.2.2.2.2.2.2.2.2.2.2.2.2.2.2.2.2.2.2.2.2.1 (S.2 (zx p0)).2.2.2.2.2.2.2.2.2.2.2.2.2.2.2.2.2.2.2.2.2.2.2.2.2.2.2.2.1 (S.2 (zx p0)).2.2.2.2.2.2.2.2.2.2.2.2.2.2.2.2.2.2.2.2.2.2.2.2.2.2.2.2.2.1 (S.2 (zx p0)).2.2.2.2.2.2.2.2.2.2.2.2.2.2.2.2.2.2.2.2.2.2.2.2.2.2.2.2.2.2.1 (S.2 (zx p0)).2.2.2.2.2.2.2.2.2.2.2.2.2.2.2.2.2.2.2.2.2.2.2.2.2.2.2.2.2.2.2.1 (S.2 (zx p0)).2.2.2.2.2.2.2.2.2.2.2.2.2.2.2.2.2.2.2.2.2.2.2.2.2.2.2.2.2.2.2.2.1 (S.2 (zx p0)).2.2.2.2.2.2.2.2.2.2.2.2.2.2.2.2.2.2.2.2.2.2.2.2.2.2.2.2.2.2.2.2.2.1 (S.2 (zx p0)).2.2.2.2.2.2.2.2.2.2.2.2.2.2.2.2.2.2.2.2.2.2.2.2.2.2.2.2.2.2.2.2.2.2.1 (S.2 (zx p0)).2.2.2.2.2.2.2.2.2.2.2.2.2.2.2.2.2.2.2.2.2.2.2.2.2.2.2.2.2.2.2.2.2.2.2.1 (S.2 (zx p0)).2.2.2.2.2.2.2.2.2.2.2.2.2.2.2.2.2.2.2.2.2.2.2.2.2.2.2.2.2.2.2.2.2.2.2.2.1 (S.2 (zx p0)).2.2.2.2.2.2.2.2.2.2.2.2.2.2.2.2.2.2.2.2.2.2.2.2.2.2.2.2.2.2.2.2.2.2.2.2.2.1 (S.2 (zx p0)).2.2.2.2.2.2.2.2.2.2.2.2.2.2.2.2.2.2.2.2.2.2.2.2.2.2.2.2.2.2.2.2.2.2.2.2.2.2.1 (S.2 (zx p0)).2.2.2.2.2.2.2.2.2.2.2.2.2.2.2.2.2.2.2.2.2.2.2.2.2.2.2.2.2.2.2.2.2.2.2.2.2.2.2.1 (S.2 (zx p0)).2.2.2.2.2.2.2.2.2.2.2.2.2.2.2.2.2.2.2.2.2.2.2.2.2.2.2.2.2.2.2.2.2.2.2.2.2.2.2.2.1 (S.2 (zx p0)).2.2.2.2.2.2.2.2.2.2.2.2.2.2.2.2.2.2.2.2.2.2.2.2.2.2.2.2.2.2.2.2.2.2.2.2.2.2.2.2.2) with
  | some r0 => some (0, r0.toInt64, S, 0, 0)
  | none =>
  match (g_ZF_name nf p0 p1 p2 ((S.2 (zx p0)).2.1) ((S.2 (zx p0)).2.2.1) ((S.2 (zx p0)).2.2.2.2.2.2.1) ((S.2 (zx p0)).2.2.2.2.2.2.2.1) ((S.2 (zx p0)).2.2.2.2.2.2.2.2.2.2.1) ((S.2 (zx p0)).2.2.2.2.2.2.2.2.2.2.2.2.2.1) ((S.2 (zx p0)).2.2.2.2.2.2.2.2.2.2.2.2.2.2.1) ((S.2 (zx p0)).2.2.2.2.2.2.2.2.2.2.2.2.2.2.2.1) ((S.2 (zx p0)).2.2.2.2.2.2.2.2.2.2.2.2.2.2.2.2.2.2.1) ((S.2 (zx p0)).2.2.2.2.2.2.2.2.2.2.2.2.2.2.2.2.2.2.2.2.2.2.2.1) ((S.2 (zx p0)).2.2.2.2.2.2.2.2.2.2.2.2.2.2.2.2.2.2.2.2.2.2.2.2.2.1) ((S.2 (zx p0)).2.2.2.2.2.2.2.2.2.2.2.2.2.2.2.2.2.2.2.2.2.2.2.2.2.2.2.1) ((S.2 (zx p0)).2.2.2.2.2.2.2.2.2.2.2.2.2.2.2.2.2.2.2.2.2.2.2.2.2.2.2.2.2.2.1) ((S.2 (zx p0)).2.2.2.2.2.2.2.2.2.2.2.2.2.2.2.2.2.2.2.2.2.2.2.2.2.2.2.2.2.2.2.1) ((S.2 (zx p0)).2.2.2.2.2.2.2.2.2.2.2.2.2.2.2.2.2.2.2.2.2.2.2.2.2.2.2.2.2.2.2.2.1) ((S.2 (zx p0)).2.2.2.2.2.2.2.2.2.2.2.2.2.2.2.2.2.2.2.2.2.2.2.2.2.2.2.2.2.2.2.2.2.1) ((S.2 (zx p0)).2.2.2.2.2.2.2.2.2.2.2.2.2.2.2.2.2.2.2.2.2.2.2.2.2.2.2.2.2.2.2.2.2.2.1) ((S.2 (zx p0)).2.2.2.2.2.2.2.2.2.2.2.2.2.2.2.2.2.2.2.2.2.2.2.2.2.2.2.2.2.2.2.2.2.2.2.1) ((S.2 (zx p0)).2.2.2.2.2.2.2.2.2.2.2.2.2.2.2.2.2.2.2.2.2.2.2.2.2.2.2.2.2.2.2.2.2.2.2.2.1) ((S.2 (zx p0)).2.2.2.2.2.2.2.2.2.2.2.2.2.2.2.2.2.2.2.2.2.2.2.2.2.2.2.2.2.2.2.2.2.2.2.2.2.1) ((S.2 (zx p0)).2.2.2.2.2.2.2.2.2.2.2.2.2.2.2.2.2.2.2.2.2.2.2.2.2.2.2.2.2.2.2.2.2.2.2.2.2.2.1) ((S.2 (zx p0)).2.2.2.2.2.2.2.2.2.2.2.2.2.2.2.2.2.2.2.2.2.2.2.2.2.2.2.2.2.2.2.2.2.2.2.2.2.2.2.1) ((S.2 (zx p0)).2.2.2.2.2.2.2.2.2.2.2.2.2.2.2.2.2.2.2.2.2.2.2.2.2.2.2.2.2.2.2.2.2.2.2.2.2.2.2.2.1) ((S.2 (zx p0)).2.2.2.2.2.2.2.2.2.2.2.2.2.2.2.2.2.2.2.2.2.2.2.2.2.2.2.2.2.2.2.2.2.2.2.2.2.2.2.2.2)) with
  | some 1 => some (1, 0, S, 1, 6)
  | some 2 => some (2, 0, S, 1, 6)
  | some 3 => some (3, 0, S, 1, 6)
  | _ => none
set_option maxRecDepth 100000 in
set_option maxHeartbeats 1000000 in
theorem q_name (l : Launch) (hno : NT l) (dC : Nat → ClassId) (dI : Nat → Nat → Nat) (h0 : Nat) (ad : Nat → Nat) (cA : Nat → ClassId) (za : Nat → Nat) (zad : Nat → Nat → Nat) (zcA : Nat → Nat → ClassId) (S : CS) (nf : Nat) (p0 : Int32) (p1 : Int64) (p2 : Int32) {k : Int32} {ans : Int64} {S' : CS} {kc ks : Nat} (h : cq_name nf S p0 p1 p2 = some (k, ans, S', kc, ks)) (o : Nat) (cO : ClassId) (f : Nat → Int64) :
    (k = 0 ∧ OM l y_LW_name (wdW y_LW_name b_LW_name 7 (some .int) [(0, 13, 16, 19), (0, 13, 20, 13), (0, 13, 24, 54)]) ({ frames := 7, cells := kc, slots := ks, locals := 173 }) dC dI (oC o cO f :: WX h0 ad cA za zad zcA S) ((cO, .long) :: TX cA zcA) [.ref h0, .int p0, .long p1, .int p2, .ref o] (some (.int 0)) (oF (CW h0 S') o cO f (TX cA zcA) ans) kc ks) ∨
    (kc = 1 ∧ ks = 6 ∧ S' = S ∧ k ≠ 0 ∧ Met l y_LW_name (wdW y_LW_name b_LW_name 7 (some .int) [(0, 13, 16, 19), (0, 13, 20, 13), (0, 13, 24, 54)]) ({ frames := 8, cells := 1, slots := 6, locals := 173 }) (ROX dC dI (WX h0 ad cA za zad zcA S) (TX cA zcA) [.ref h0, .int p0, .long p1, .int p2, .ref o]) (MV (some (.int k)) (fun _ => True) (fun _ => False)) 1 6 (fun _ => False)) := by
  unfold cq_name at h
  split at h
  · rename_i hf
    cases h
    exact Or.inl ⟨rfl, cw_name l dC dI p0 p1 p2 (lift_z0 (i := zx p0) (zad := zad) (zcA := zcA) (Nat.lt_succ_of_lt (zx_lt p0)) (o_ZF_name l dC dI h0 (za 4) ad cA (zgc za) S.1 (za (zx p0)) (zad (zx p0)) (zcA (zx p0)) (S.2 (zx p0)) nf p0 p1 p2 hf (zgc_at za p0))) rfl⟩
  · split at h
    · rename_i hf
      cases h
      exact Or.inr ⟨rfl, rfl, rfl, by decide, tw_name_1 l dC dI p0 p1 p2 (metT_mono (t_ZF_name l hno dC dI h0 (ad 0) (ad 1) (ad 2) (za 4) (ad 3) (ad 4) (ad 5) (za (zx p0)) (zad (zx p0) 0) (zad (zx p0) 1) (zad (zx p0) 2) (zad (zx p0) 3) (zad (zx p0) 4) (zad (zx p0) 5) (zad (zx p0) 6) (zad (zx p0) 7) (zad (zx p0) 8) (zad (zx p0) 9) (zad (zx p0) 10) (zad (zx p0) 11) (zad (zx p0) 12) (zad (zx p0) 13) (zad (zx p0) 14) (zad (zx p0) 15) (cA 2) (zcA (zx p0) 0) (zcA (zx p0) 1) (zcA (zx p0) 4) (zcA (zx p0) 7) nf p0 p1 p2 S.1.2.2.2.2.2.2.1 S.1.2.2.2.2.2.2.2.1 (zgc za) ((S.2 (zx p0)).1) ((S.2 (zx p0)).2.1) ((S.2 (zx p0)).2.2.1) ((S.2 (zx p0)).2.2.2.1) ((S.2 (zx p0)).2.2.2.2.1) ((S.2 (zx p0)).2.2.2.2.2.1) ((S.2 (zx p0)).2.2.2.2.2.2.1) ((S.2 (zx p0)).2.2.2.2.2.2.2.1) ((S.2 (zx p0)).2.2.2.2.2.2.2.2.2.2.1) ((S.2 (zx p0)).2.2.2.2.2.2.2.2.2.2.2.2.2.1) ((S.2 (zx p0)).2.2.2.2.2.2.2.2.2.2.2.2.2.2.1) ((S.2 (zx p0)).2.2.2.2.2.2.2.2.2.2.2.2.2.2.2.1) ((S.2 (zx p0)).2.2.2.2.2.2.2.2.2.2.2.2.2.2.2.2.2.2.1) ((S.2 (zx p0)).2.2.2.2.2.2.2.2.2.2.2.2.2.2.2.2.2.2.2.1) ((S.2 (zx p0)).2.2.2.2.2.2.2.2.2.2.2.2.2.2.2.2.2.2.2.2.1) ((S.2 (zx p0)).2.2.2.2.2.2.2.2.2.2.2.2.2.2.2.2.2.2.2.2.2.1) ((S.2 (zx p0)).2.2.2.2.2.2.2.2.2.2.2.2.2.2.2.2.2.2.2.2.2.2.1) ((S.2 (zx p0)).2.2.2.2.2.2.2.2.2.2.2.2.2.2.2.2.2.2.2.2.2.2.2.1) ((S.2 (zx p0)).2.2.2.2.2.2.2.2.2.2.2.2.2.2.2.2.2.2.2.2.2.2.2.2.1) ((S.2 (zx p0)).2.2.2.2.2.2.2.2.2.2.2.2.2.2.2.2.2.2.2.2.2.2.2.2.2.1) ((S.2 (zx p0)).2.2.2.2.2.2.2.2.2.2.2.2.2.2.2.2.2.2.2.2.2.2.2.2.2.2.1) ((S.2 (zx p0)).2.2.2.2.2.2.2.2.2.2.2.2.2.2.2.2.2.2.2.2.2.2.2.2.2.2.2.1) ((S.2 (zx p0)).2.2.2.2.2.2.2.2.2.2.2.2.2.2.2.2.2.2.2.2.2.2.2.2.2.2.2.2.2.2.1) ((S.2 (zx p0)).2.2.2.2.2.2.2.2.2.2.2.2.2.2.2.2.2.2.2.2.2.2.2.2.2.2.2.2.2.2.2.1) ((S.2 (zx p0)).2.2.2.2.2.2.2.2.2.2.2.2.2.2.2.2.2.2.2.2.2.2.2.2.2.2.2.2.2.2.2.2.1) ((S.2 (zx p0)).2.2.2.2.2.2.2.2.2.2.2.2.2.2.2.2.2.2.2.2.2.2.2.2.2.2.2.2.2.2.2.2.2.1) ((S.2 (zx p0)).2.2.2.2.2.2.2.2.2.2.2.2.2.2.2.2.2.2.2.2.2.2.2.2.2.2.2.2.2.2.2.2.2.2.1) ((S.2 (zx p0)).2.2.2.2.2.2.2.2.2.2.2.2.2.2.2.2.2.2.2.2.2.2.2.2.2.2.2.2.2.2.2.2.2.2.2.1) ((S.2 (zx p0)).2.2.2.2.2.2.2.2.2.2.2.2.2.2.2.2.2.2.2.2.2.2.2.2.2.2.2.2.2.2.2.2.2.2.2.2.1) ((S.2 (zx p0)).2.2.2.2.2.2.2.2.2.2.2.2.2.2.2.2.2.2.2.2.2.2.2.2.2.2.2.2.2.2.2.2.2.2.2.2.2.1) ((S.2 (zx p0)).2.2.2.2.2.2.2.2.2.2.2.2.2.2.2.2.2.2.2.2.2.2.2.2.2.2.2.2.2.2.2.2.2.2.2.2.2.2.1) ((S.2 (zx p0)).2.2.2.2.2.2.2.2.2.2.2.2.2.2.2.2.2.2.2.2.2.2.2.2.2.2.2.2.2.2.2.2.2.2.2.2.2.2.2.1) ((S.2 (zx p0)).2.2.2.2.2.2.2.2.2.2.2.2.2.2.2.2.2.2.2.2.2.2.2.2.2.2.2.2.2.2.2.2.2.2.2.2.2.2.2.2.1) ((S.2 (zx p0)).2.2.2.2.2.2.2.2.2.2.2.2.2.2.2.2.2.2.2.2.2.2.2.2.2.2.2.2.2.2.2.2.2.2.2.2.2.2.2.2.2) hf (zgc_at za p0)) (rox_sub (fun q hq => (WX_sel (i := zx p0) (Nat.lt_succ_of_lt (zx_lt p0))).mem_iff.mpr (List.mem_append_left _ (sub_ix (E := commonW h0 ad cA (za 4) (zgc za) S.1 ++ zoneW (za (zx p0)) (zad (zx p0)) (zcA (zx p0)) (S.2 (zx p0))) [0, 5, 13, 14, 15, 18, 21, 22, 25, 26, 28, 29] rfl q hq))) (fun q hq => TX_sel (i := zx p0) (Nat.lt_succ_of_lt (zx_lt p0)) q (sub_ix (E := commonT cA ++ zoneT (zcA (zx p0))) [2, 8, 9, 12, 15] rfl q hq)))) rfl⟩
    · rename_i hf
      cases h
      exact Or.inr ⟨rfl, rfl, rfl, by decide, tw_name_2 l dC dI p0 p1 p2 (metT_mono (t_ZF_name l hno dC dI h0 (ad 0) (ad 1) (ad 2) (za 4) (ad 3) (ad 4) (ad 5) (za (zx p0)) (zad (zx p0) 0) (zad (zx p0) 1) (zad (zx p0) 2) (zad (zx p0) 3) (zad (zx p0) 4) (zad (zx p0) 5) (zad (zx p0) 6) (zad (zx p0) 7) (zad (zx p0) 8) (zad (zx p0) 9) (zad (zx p0) 10) (zad (zx p0) 11) (zad (zx p0) 12) (zad (zx p0) 13) (zad (zx p0) 14) (zad (zx p0) 15) (cA 2) (zcA (zx p0) 0) (zcA (zx p0) 1) (zcA (zx p0) 4) (zcA (zx p0) 7) nf p0 p1 p2 S.1.2.2.2.2.2.2.1 S.1.2.2.2.2.2.2.2.1 (zgc za) ((S.2 (zx p0)).1) ((S.2 (zx p0)).2.1) ((S.2 (zx p0)).2.2.1) ((S.2 (zx p0)).2.2.2.1) ((S.2 (zx p0)).2.2.2.2.1) ((S.2 (zx p0)).2.2.2.2.2.1) ((S.2 (zx p0)).2.2.2.2.2.2.1) ((S.2 (zx p0)).2.2.2.2.2.2.2.1) ((S.2 (zx p0)).2.2.2.2.2.2.2.2.2.2.1) ((S.2 (zx p0)).2.2.2.2.2.2.2.2.2.2.2.2.2.1) ((S.2 (zx p0)).2.2.2.2.2.2.2.2.2.2.2.2.2.2.1) ((S.2 (zx p0)).2.2.2.2.2.2.2.2.2.2.2.2.2.2.2.1) ((S.2 (zx p0)).2.2.2.2.2.2.2.2.2.2.2.2.2.2.2.2.2.2.1) ((S.2 (zx p0)).2.2.2.2.2.2.2.2.2.2.2.2.2.2.2.2.2.2.2.1) ((S.2 (zx p0)).2.2.2.2.2.2.2.2.2.2.2.2.2.2.2.2.2.2.2.2.1) ((S.2 (zx p0)).2.2.2.2.2.2.2.2.2.2.2.2.2.2.2.2.2.2.2.2.2.1) ((S.2 (zx p0)).2.2.2.2.2.2.2.2.2.2.2.2.2.2.2.2.2.2.2.2.2.2.1) ((S.2 (zx p0)).2.2.2.2.2.2.2.2.2.2.2.2.2.2.2.2.2.2.2.2.2.2.2.1) ((S.2 (zx p0)).2.2.2.2.2.2.2.2.2.2.2.2.2.2.2.2.2.2.2.2.2.2.2.2.1) ((S.2 (zx p0)).2.2.2.2.2.2.2.2.2.2.2.2.2.2.2.2.2.2.2.2.2.2.2.2.2.1) ((S.2 (zx p0)).2.2.2.2.2.2.2.2.2.2.2.2.2.2.2.2.2.2.2.2.2.2.2.2.2.2.1) ((S.2 (zx p0)).2.2.2.2.2.2.2.2.2.2.2.2.2.2.2.2.2.2.2.2.2.2.2.2.2.2.2.1) ((S.2 (zx p0)).2.2.2.2.2.2.2.2.2.2.2.2.2.2.2.2.2.2.2.2.2.2.2.2.2.2.2.2.2.2.1) ((S.2 (zx p0)).2.2.2.2.2.2.2.2.2.2.2.2.2.2.2.2.2.2.2.2.2.2.2.2.2.2.2.2.2.2.2.1) ((S.2 (zx p0)).2.2.2.2.2.2.2.2.2.2.2.2.2.2.2.2.2.2.2.2.2.2.2.2.2.2.2.2.2.2.2.2.1) ((S.2 (zx p0)).2.2.2.2.2.2.2.2.2.2.2.2.2.2.2.2.2.2.2.2.2.2.2.2.2.2.2.2.2.2.2.2.2.1) ((S.2 (zx p0)).2.2.2.2.2.2.2.2.2.2.2.2.2.2.2.2.2.2.2.2.2.2.2.2.2.2.2.2.2.2.2.2.2.2.1) ((S.2 (zx p0)).2.2.2.2.2.2.2.2.2.2.2.2.2.2.2.2.2.2.2.2.2.2.2.2.2.2.2.2.2.2.2.2.2.2.2.1) ((S.2 (zx p0)).2.2.2.2.2.2.2.2.2.2.2.2.2.2.2.2.2.2.2.2.2.2.2.2.2.2.2.2.2.2.2.2.2.2.2.2.1) ((S.2 (zx p0)).2.2.2.2.2.2.2.2.2.2.2.2.2.2.2.2.2.2.2.2.2.2.2.2.2.2.2.2.2.2.2.2.2.2.2.2.2.1) ((S.2 (zx p0)).2.2.2.2.2.2.2.2.2.2.2.2.2.2.2.2.2.2.2.2.2.2.2.2.2.2.2.2.2.2.2.2.2.2.2.2.2.2.1) ((S.2 (zx p0)).2.2.2.2.2.2.2.2.2.2.2.2.2.2.2.2.2.2.2.2.2.2.2.2.2.2.2.2.2.2.2.2.2.2.2.2.2.2.2.1) ((S.2 (zx p0)).2.2.2.2.2.2.2.2.2.2.2.2.2.2.2.2.2.2.2.2.2.2.2.2.2.2.2.2.2.2.2.2.2.2.2.2.2.2.2.2.1) ((S.2 (zx p0)).2.2.2.2.2.2.2.2.2.2.2.2.2.2.2.2.2.2.2.2.2.2.2.2.2.2.2.2.2.2.2.2.2.2.2.2.2.2.2.2.2) hf (zgc_at za p0)) (rox_sub (fun q hq => (WX_sel (i := zx p0) (Nat.lt_succ_of_lt (zx_lt p0))).mem_iff.mpr (List.mem_append_left _ (sub_ix (E := commonW h0 ad cA (za 4) (zgc za) S.1 ++ zoneW (za (zx p0)) (zad (zx p0)) (zcA (zx p0)) (S.2 (zx p0))) [0, 5, 13, 14, 15, 18, 21, 22, 25, 26, 28, 29] rfl q hq))) (fun q hq => TX_sel (i := zx p0) (Nat.lt_succ_of_lt (zx_lt p0)) q (sub_ix (E := commonT cA ++ zoneT (zcA (zx p0))) [2, 8, 9, 12, 15] rfl q hq)))) rfl⟩
    · rename_i hf
      cases h
      exact Or.inr ⟨rfl, rfl, rfl, by decide, tw_name_3 l dC dI p0 p1 p2 (metT_mono (t_ZF_name l hno dC dI h0 (ad 0) (ad 1) (ad 2) (za 4) (ad 3) (ad 4) (ad 5) (za (zx p0)) (zad (zx p0) 0) (zad (zx p0) 1) (zad (zx p0) 2) (zad (zx p0) 3) (zad (zx p0) 4) (zad (zx p0) 5) (zad (zx p0) 6) (zad (zx p0) 7) (zad (zx p0) 8) (zad (zx p0) 9) (zad (zx p0) 10) (zad (zx p0) 11) (zad (zx p0) 12) (zad (zx p0) 13) (zad (zx p0) 14) (zad (zx p0) 15) (cA 2) (zcA (zx p0) 0) (zcA (zx p0) 1) (zcA (zx p0) 4) (zcA (zx p0) 7) nf p0 p1 p2 S.1.2.2.2.2.2.2.1 S.1.2.2.2.2.2.2.2.1 (zgc za) ((S.2 (zx p0)).1) ((S.2 (zx p0)).2.1) ((S.2 (zx p0)).2.2.1) ((S.2 (zx p0)).2.2.2.1) ((S.2 (zx p0)).2.2.2.2.1) ((S.2 (zx p0)).2.2.2.2.2.1) ((S.2 (zx p0)).2.2.2.2.2.2.1) ((S.2 (zx p0)).2.2.2.2.2.2.2.1) ((S.2 (zx p0)).2.2.2.2.2.2.2.2.2.2.1) ((S.2 (zx p0)).2.2.2.2.2.2.2.2.2.2.2.2.2.1) ((S.2 (zx p0)).2.2.2.2.2.2.2.2.2.2.2.2.2.2.1) ((S.2 (zx p0)).2.2.2.2.2.2.2.2.2.2.2.2.2.2.2.1) ((S.2 (zx p0)).2.2.2.2.2.2.2.2.2.2.2.2.2.2.2.2.2.2.1) ((S.2 (zx p0)).2.2.2.2.2.2.2.2.2.2.2.2.2.2.2.2.2.2.2.1) ((S.2 (zx p0)).2.2.2.2.2.2.2.2.2.2.2.2.2.2.2.2.2.2.2.2.1) ((S.2 (zx p0)).2.2.2.2.2.2.2.2.2.2.2.2.2.2.2.2.2.2.2.2.2.1) ((S.2 (zx p0)).2.2.2.2.2.2.2.2.2.2.2.2.2.2.2.2.2.2.2.2.2.2.1) ((S.2 (zx p0)).2.2.2.2.2.2.2.2.2.2.2.2.2.2.2.2.2.2.2.2.2.2.2.1) ((S.2 (zx p0)).2.2.2.2.2.2.2.2.2.2.2.2.2.2.2.2.2.2.2.2.2.2.2.2.1) ((S.2 (zx p0)).2.2.2.2.2.2.2.2.2.2.2.2.2.2.2.2.2.2.2.2.2.2.2.2.2.1) ((S.2 (zx p0)).2.2.2.2.2.2.2.2.2.2.2.2.2.2.2.2.2.2.2.2.2.2.2.2.2.2.1) ((S.2 (zx p0)).2.2.2.2.2.2.2.2.2.2.2.2.2.2.2.2.2.2.2.2.2.2.2.2.2.2.2.1) ((S.2 (zx p0)).2.2.2.2.2.2.2.2.2.2.2.2.2.2.2.2.2.2.2.2.2.2.2.2.2.2.2.2.2.2.1) ((S.2 (zx p0)).2.2.2.2.2.2.2.2.2.2.2.2.2.2.2.2.2.2.2.2.2.2.2.2.2.2.2.2.2.2.2.1) ((S.2 (zx p0)).2.2.2.2.2.2.2.2.2.2.2.2.2.2.2.2.2.2.2.2.2.2.2.2.2.2.2.2.2.2.2.2.1) ((S.2 (zx p0)).2.2.2.2.2.2.2.2.2.2.2.2.2.2.2.2.2.2.2.2.2.2.2.2.2.2.2.2.2.2.2.2.2.1) ((S.2 (zx p0)).2.2.2.2.2.2.2.2.2.2.2.2.2.2.2.2.2.2.2.2.2.2.2.2.2.2.2.2.2.2.2.2.2.2.1) ((S.2 (zx p0)).2.2.2.2.2.2.2.2.2.2.2.2.2.2.2.2.2.2.2.2.2.2.2.2.2.2.2.2.2.2.2.2.2.2.2.1) ((S.2 (zx p0)).2.2.2.2.2.2.2.2.2.2.2.2.2.2.2.2.2.2.2.2.2.2.2.2.2.2.2.2.2.2.2.2.2.2.2.2.1) ((S.2 (zx p0)).2.2.2.2.2.2.2.2.2.2.2.2.2.2.2.2.2.2.2.2.2.2.2.2.2.2.2.2.2.2.2.2.2.2.2.2.2.1) ((S.2 (zx p0)).2.2.2.2.2.2.2.2.2.2.2.2.2.2.2.2.2.2.2.2.2.2.2.2.2.2.2.2.2.2.2.2.2.2.2.2.2.2.1) ((S.2 (zx p0)).2.2.2.2.2.2.2.2.2.2.2.2.2.2.2.2.2.2.2.2.2.2.2.2.2.2.2.2.2.2.2.2.2.2.2.2.2.2.2.1) ((S.2 (zx p0)).2.2.2.2.2.2.2.2.2.2.2.2.2.2.2.2.2.2.2.2.2.2.2.2.2.2.2.2.2.2.2.2.2.2.2.2.2.2.2.2.1) ((S.2 (zx p0)).2.2.2.2.2.2.2.2.2.2.2.2.2.2.2.2.2.2.2.2.2.2.2.2.2.2.2.2.2.2.2.2.2.2.2.2.2.2.2.2.2) hf (zgc_at za p0)) (rox_sub (fun q hq => (WX_sel (i := zx p0) (Nat.lt_succ_of_lt (zx_lt p0))).mem_iff.mpr (List.mem_append_left _ (sub_ix (E := commonW h0 ad cA (za 4) (zgc za) S.1 ++ zoneW (za (zx p0)) (zad (zx p0)) (zcA (zx p0)) (S.2 (zx p0))) [0, 5, 13, 14, 15, 18, 21, 22, 25, 26, 28, 29] rfl q hq))) (fun q hq => TX_sel (i := zx p0) (Nat.lt_succ_of_lt (zx_lt p0)) q (sub_ix (E := commonT cA ++ zoneT (zcA (zx p0))) [2, 8, 9, 12, 15] rfl q hq)))) rfl⟩
    · exact absurd h (by simp)
def cq_clock (nf : Nat) (S : CS) (p0 : Int64) (p1 : Int32) : Option (Int32 × Int64 × CS × Nat × Nat) :=
  match (f_ZF_clock nf p0 p1) with
  | some r0 => some (0, r0, S, 0, 0)
  | none =>
  match (g_ZF_clock nf p0 p1) with
  | some 1 => some (1, 0, S, 1, 6)
  | some 2 => some (2, 0, S, 1, 6)
  | _ => none
set_option maxRecDepth 100000 in
set_option maxHeartbeats 1000000 in
theorem q_clock (l : Launch) (hno : NT l) (dC : Nat → ClassId) (dI : Nat → Nat → Nat) (h0 : Nat) (ad : Nat → Nat) (cA : Nat → ClassId) (za : Nat → Nat) (zad : Nat → Nat → Nat) (zcA : Nat → Nat → ClassId) (S : CS) (nf : Nat) (p0 : Int64) (p1 : Int32) {k : Int32} {ans : Int64} {S' : CS} {kc ks : Nat} (h : cq_clock nf S p0 p1 = some (k, ans, S', kc, ks)) (o : Nat) (cO : ClassId) (f : Nat → Int64) :
    (k = 0 ∧ OM l y_LW_clock (wdW y_LW_clock b_LW_clock 6 (some .int) [(0, 10, 13, 19), (0, 10, 17, 13)]) ({ frames := 5, cells := kc, slots := ks, locals := 130 }) dC dI (oC o cO f :: WX h0 ad cA za zad zcA S) ((cO, .long) :: TX cA zcA) [.ref h0, .long p0, .int p1, .ref o] (some (.int 0)) (oF (CW h0 S') o cO f (TX cA zcA) ans) kc ks) ∨
    (kc = 1 ∧ ks = 6 ∧ S' = S ∧ k ≠ 0 ∧ Met l y_LW_clock (wdW y_LW_clock b_LW_clock 6 (some .int) [(0, 10, 13, 19), (0, 10, 17, 13)]) ({ frames := 8, cells := 1, slots := 6, locals := 147 }) (ROX dC dI (WX h0 ad cA za zad zcA S) (TX cA zcA) [.ref h0, .long p0, .int p1, .ref o]) (MV (some (.int k)) (fun _ => True) (fun _ => False)) 1 6 (fun _ => False)) := by
  unfold cq_clock at h
  split at h
  · rename_i hf
    cases h
    exact Or.inl ⟨rfl, cw_clock l dC dI p0 p1 (lift_c (zad := zad) (zcA := zcA) (o_ZF_clock l dC dI h0 (za 4) ad cA (zgc za) S.1 nf p0 p1 hf)) rfl⟩
  · split at h
    · rename_i hf
      cases h
      exact Or.inr ⟨rfl, rfl, rfl, by decide, tw_clock_1 l dC dI p0 p1 (metT_mono (t_ZF_clock l hno dC dI h0 nf p0 p1 hf) (rox_sub (fun q hq => List.mem_append_left _ (sub_ix (E := commonW h0 ad cA (za 4) (zgc za) S.1) [] rfl q hq)) (fun q hq => List.mem_append_left _ (sub_ix (E := commonT cA) [] rfl q hq)))) rfl⟩
    · rename_i hf
      cases h
      exact Or.inr ⟨rfl, rfl, rfl, by decide, tw_clock_2 l dC dI p0 p1 (metT_mono (t_ZF_clock l hno dC dI h0 nf p0 p1 hf) (rox_sub (fun q hq => List.mem_append_left _ (sub_ix (E := commonW h0 ad cA (za 4) (zgc za) S.1) [] rfl q hq)) (fun q hq => List.mem_append_left _ (sub_ix (E := commonT cA) [] rfl q hq)))) rfl⟩
    · exact absurd h (by simp)
def cq_seconds (nf : Nat) (S : CS) (p0 : Int64) (p1 : Int32) (p2 : Int32) (p3 : Int32) : Option (Int32 × Int64 × CS × Nat × Nat) :=
  match (f_ZF_seconds nf p0 p1 p2 p3) with
  | some r0 => some (0, r0, S, 0, 0)
  | none =>
  match (g_ZF_seconds nf p0 p1 p2 p3) with
  | some 2 => some (1, 0, S, 1, 6)
  | _ => none
set_option maxRecDepth 100000 in
set_option maxHeartbeats 1000000 in
theorem q_seconds (l : Launch) (hno : NT l) (dC : Nat → ClassId) (dI : Nat → Nat → Nat) (h0 : Nat) (ad : Nat → Nat) (cA : Nat → ClassId) (za : Nat → Nat) (zad : Nat → Nat → Nat) (zcA : Nat → Nat → ClassId) (S : CS) (nf : Nat) (p0 : Int64) (p1 : Int32) (p2 : Int32) (p3 : Int32) {k : Int32} {ans : Int64} {S' : CS} {kc ks : Nat} (h : cq_seconds nf S p0 p1 p2 p3 = some (k, ans, S', kc, ks)) (o : Nat) (cO : ClassId) (f : Nat → Int64) :
    (k = 0 ∧ OM l y_LW_seconds (wdW y_LW_seconds b_LW_seconds 8 (some .int) [(0, 14, 17, 13)]) ({ frames := 3, cells := kc, slots := ks, locals := 78 }) dC dI (oC o cO f :: WX h0 ad cA za zad zcA S) ((cO, .long) :: TX cA zcA) [.ref h0, .long p0, .int p1, .int p2, .int p3, .ref o] (some (.int 0)) (oF (CW h0 S') o cO f (TX cA zcA) ans) kc ks) ∨
    (kc = 1 ∧ ks = 6 ∧ S' = S ∧ k ≠ 0 ∧ Met l y_LW_seconds (wdW y_LW_seconds b_LW_seconds 8 (some .int) [(0, 14, 17, 13)]) ({ frames := 7, cells := 1, slots := 6, locals := 128 }) (ROX dC dI (WX h0 ad cA za zad zcA S) (TX cA zcA) [.ref h0, .long p0, .int p1, .int p2, .int p3, .ref o]) (MV (some (.int k)) (fun _ => True) (fun _ => False)) 1 6 (fun _ => False)) := by
  unfold cq_seconds at h
  split at h
  · rename_i hf
    cases h
    exact Or.inl ⟨rfl, cw_seconds l dC dI p0 p1 p2 p3 (lift_c (zad := zad) (zcA := zcA) (o_ZF_seconds l dC dI h0 (za 4) ad cA (zgc za) S.1 nf p0 p1 p2 p3 hf)) rfl⟩
  · split at h
    · rename_i hf
      cases h
      exact Or.inr ⟨rfl, rfl, rfl, by decide, tw_seconds_2 l dC dI p0 p1 p2 p3 (metT_mono (t_ZF_seconds l hno dC dI h0 nf p0 p1 p2 p3 hf) (rox_sub (fun q hq => List.mem_append_left _ (sub_ix (E := commonW h0 ad cA (za 4) (zgc za) S.1) [] rfl q hq)) (fun q hq => List.mem_append_left _ (sub_ix (E := commonT cA) [] rfl q hq)))) rfl⟩
    · exact absurd h (by simp)
def cq_find (nf : Nat) (S : CS) (p0 : Int32) (p1 : Int64) : Option (Int32 × Int64 × CS × Nat × Nat) :=
  match (f_ZF_find nf p0 p1 S.1.2.2.2.2.2.2.1 S.1.2.2.2.2.2.2.2.2.1 (S.2 (zx p0)).2.1 (S.2 (zx p0)).2.2.1 (S.2 (zx p0)).2.2.2.2.2.2.1 (S.2 (zx p0)).2.2.2.2.2.2.2.1 (S.2 (zx p0)).2.2.2.2.2.2.2.2.1 (S.2 (zx p0)).2.2.2.2.2.2.2.2.2.2.2.2.2.2.2.2.2.2.1 (S.2 (zx p0)).2.2.2.2.2.2.2.2.2.2.2.2.2.2.2.2.2.2.2.2.1 (S.2 (zx p0)).2.2.2.2.2.2.2.2.2.2.2.2.2.2.2.2.2.2.2.2.2.1 (S.2 (zx p0)).2.2.2.2.2.2.2.2.2.2.2.2.2.2.2.2.2.2.2.2.2.2.2.2.2.2.2.1 (S.2 (zx p0)).2.2.2.2.2.2.2.2.2.2.2.2.2.2.2.2.2.2.2.2.2.2.2.2.2.2.2.2.2.2.1 (S.2 (zx p0)).2.2.2.2.2.2.2.2.2.2.2.2.2.2.2.2.2.2.2.2.2.2.2.2.2.2.2.2.2.2.2.1 (S.2 (zx p0)).2.2.2.2.2.2.2.2.2.2.2.2.2.2.2.2.2.2.2.2.2.2.2.2.2.2.2.2.2.2.2.2.1 (S.2 (zx p0)).2.2.2.2.2.2.2.2.2.2.2.2.2.2.2.2.2.2.2.2.2.2.2.2.2.2.2.2.2.2.2.2.2.1 (S.2 (zx p0)).2.2.2.2.2.2.2.2.2.2.2.2.2.2.2.2.2.2.2.2.2.2.2.2.2.2.2.2.2.2.2.2.2.2.1 (S.2 (zx p0)).2.2.2.2.2.2.2.2.2.2.2.2.2.2.2.2.2.2.2.2.2.2.2.2.2.2.2.2.2.2.2.2.2.2.2.1 (S.2 (zx p0)).2.2.2.2.2.2.2.2.2.2.2.2.2.2.2.2.2.2.2.2.2.2.2.2.2.2.2.2.2.2.2.2.2.2.2.2.1 (S.2 (zx p0)).2.2.2.2.2.2.2.2.2.2.2.2.2.2.2.2.2.2.2.2.2.2.2.2.2.2.2.2.2.2.2.2.2.2.2.2.2.1 (S.2 (zx p0)).2.2.2.2.2.2.2.2.2.2.2.2.2.2.2.2.2.2.2.2.2.2.2.2.2.2.2.2.2.2.2.2.2.2.2.2.2.2.1 (S.2 (zx p0)).2.2.2.2.2.2.2.2.2.2.2.2.2.2.2.2.2.2.2.2.2.2.2.2.2.2.2.2.2.2.2.2.2.2.2.2.2.2.2.1 (S.2 (zx p0)).2.2.2.2.2.2.2.2.2.2.2.2.2.2.2.2.2.2.2.2.2.2.2.2.2.2.2.2.2.2.2.2.2.2.2.2.2.2.2.2.1 (S.2 (zx p0)).2.2.2.2.2.2.2.2.2.2.2.2.2.2.2.2.2.2.2.2.2.2.2.2.2.2.2.2.2.2.2.2.2.2.2.2.2.2.2.2.2) with
  | some (r0, v0_7, v2_a) => some (0, r0.toInt64, ((S.1.1, S.1.2.1, S.1.2.2.1, S.1.2.2.2.1, S.1.2.2.2.2.1, S.1.2.2.2.2.2.1, v0_7, S.1.2.2.2.2.2.2.2.1, v2_a, S.1.2.2.2.2.2.2.2.2.2.1, S.1.2.2.2.2.2.2.2.2.2.2.1, S.1.2.2.2.2.2.2.2.2.2.2.2.1, S.1.2.2.2.2.2.2.2.2.2.2.2.2.1, S.1.2.2.2.2.2.2.2.2.2.2.2.2.2.1, S.1.2.2.2.2.2.2.2.2.2.2.2.2.2.2.1, S.1.2.2.2.2.2.2.2.2.2.2.2.2.2.2.2.1, S.1.2.2.2.2.2.2.2.2.2.2.2.2.2.2.2.2), S.2), 0, 0)
  | none =>
  match (g_ZF_find nf p0 p1) with
  | some 1 => some (1, 0, S, 1, 6)
  | some 2 => some (2, 0, S, 1, 6)
  | _ => none
set_option maxRecDepth 100000 in
set_option maxHeartbeats 1000000 in
theorem q_find (l : Launch) (hno : NT l) (dC : Nat → ClassId) (dI : Nat → Nat → Nat) (h0 : Nat) (ad : Nat → Nat) (cA : Nat → ClassId) (za : Nat → Nat) (zad : Nat → Nat → Nat) (zcA : Nat → Nat → ClassId) (S : CS) (nf : Nat) (p0 : Int32) (p1 : Int64) {k : Int32} {ans : Int64} {S' : CS} {kc ks : Nat} (h : cq_find nf S p0 p1 = some (k, ans, S', kc, ks)) (o : Nat) (cO : ClassId) (f : Nat → Int64) :
    (k = 0 ∧ OM l y_LW_find (wdW y_LW_find b_LW_find 6 (some .int) [(0, 11, 14, 19), (0, 11, 18, 13)]) ({ frames := 7, cells := kc, slots := ks, locals := 176 }) dC dI (oC o cO f :: WX h0 ad cA za zad zcA S) ((cO, .long) :: TX cA zcA) [.ref h0, .int p0, .long p1, .ref o] (some (.int 0)) (oF (CW h0 S') o cO f (TX cA zcA) ans) kc ks) ∨
    (kc = 1 ∧ ks = 6 ∧ S' = S ∧ k ≠ 0 ∧ Met l y_LW_find (wdW y_LW_find b_LW_find 6 (some .int) [(0, 11, 14, 19), (0, 11, 18, 13)]) ({ frames := 8, cells := 1, slots := 6, locals := 149 }) (ROX dC dI (WX h0 ad cA za zad zcA S) (TX cA zcA) [.ref h0, .int p0, .long p1, .ref o]) (MV (some (.int k)) (fun _ => True) (fun _ => False)) 1 6 (fun _ => False)) := by
  unfold cq_find at h
  split at h
  · rename_i hf
    cases h
    exact Or.inl ⟨rfl, cw_find l dC dI p0 p1 (lift_z0 (i := zx p0) (zad := zad) (zcA := zcA) (Nat.lt_succ_of_lt (zx_lt p0)) (o_ZF_find l dC dI h0 (za 4) ad cA (zgc za) S.1 (za (zx p0)) (zad (zx p0)) (zcA (zx p0)) (S.2 (zx p0)) nf p0 p1 hf (zgc_at za p0))) rfl⟩
  · split at h
    · rename_i hf
      cases h
      exact Or.inr ⟨rfl, rfl, rfl, by decide, tw_find_1 l dC dI p0 p1 (metT_mono (t_ZF_find l hno dC dI h0 nf p0 p1 hf) (rox_sub (fun q hq => List.mem_append_left _ (sub_ix (E := commonW h0 ad cA (za 4) (zgc za) S.1) [] rfl q hq)) (fun q hq => List.mem_append_left _ (sub_ix (E := commonT cA) [] rfl q hq)))) rfl⟩
    · rename_i hf
      cases h
      exact Or.inr ⟨rfl, rfl, rfl, by decide, tw_find_2 l dC dI p0 p1 (metT_mono (t_ZF_find l hno dC dI h0 nf p0 p1 hf) (rox_sub (fun q hq => List.mem_append_left _ (sub_ix (E := commonW h0 ad cA (za 4) (zgc za) S.1) [] rfl q hq)) (fun q hq => List.mem_append_left _ (sub_ix (E := commonT cA) [] rfl q hq)))) rfl⟩
    · exact absurd h (by simp)
def cq_found (nf : Nat) (S : CS) (p0 : Int32) : Option (Int32 × Int64 × CS × Nat × Nat) :=
  match (f_ZF_found nf p0 S.1.2.2.2.2.2.2.1 S.1.2.2.2.2.2.2.2.2.1) with
  | some r0 => some (0, r0, S, 0, 0)
  | none =>
  match (g_ZF_found nf p0 S.1.2.2.2.2.2.2.1) with
  | some 1 => some (1, 0, S, 1, 6)
  | _ => none
set_option maxRecDepth 100000 in
set_option maxHeartbeats 1000000 in
theorem q_found (l : Launch) (hno : NT l) (dC : Nat → ClassId) (dI : Nat → Nat → Nat) (h0 : Nat) (ad : Nat → Nat) (cA : Nat → ClassId) (za : Nat → Nat) (zad : Nat → Nat → Nat) (zcA : Nat → Nat → ClassId) (S : CS) (nf : Nat) (p0 : Int32) {k : Int32} {ans : Int64} {S' : CS} {kc ks : Nat} (h : cq_found nf S p0 = some (k, ans, S', kc, ks)) (o : Nat) (cO : ClassId) (f : Nat → Int64) :
    (k = 0 ∧ OM l y_LW_found (wdW y_LW_found b_LW_found 4 (some .int) [(0, 8, 11, 19)]) ({ frames := 2, cells := kc, slots := ks, locals := 42 }) dC dI (oC o cO f :: WX h0 ad cA za zad zcA S) ((cO, .long) :: TX cA zcA) [.ref h0, .int p0, .ref o] (some (.int 0)) (oF (CW h0 S') o cO f (TX cA zcA) ans) kc ks) ∨
    (kc = 1 ∧ ks = 6 ∧ S' = S ∧ k ≠ 0 ∧ Met l y_LW_found (wdW y_LW_found b_LW_found 4 (some .int) [(0, 8, 11, 19)]) ({ frames := 8, cells := 1, slots := 6, locals := 142 }) (ROX dC dI (WX h0 ad cA za zad zcA S) (TX cA zcA) [.ref h0, .int p0, .ref o]) (MV (some (.int k)) (fun _ => True) (fun _ => False)) 1 6 (fun _ => False)) := by
  unfold cq_found at h
  split at h
  · rename_i hf
    cases h
    exact Or.inl ⟨rfl, cw_found l dC dI p0 (lift_c (zad := zad) (zcA := zcA) (o_ZF_found l dC dI h0 (za 4) ad cA (zgc za) S.1 nf p0 hf)) rfl⟩
  · split at h
    · rename_i hf
      cases h
      exact Or.inr ⟨rfl, rfl, rfl, by decide, tw_found_1 l dC dI p0 (metT_mono (t_ZF_found l hno dC dI h0 (ad 0) (ad 1) (ad 2) (za 4) (ad 3) (ad 4) (ad 5) nf p0 S.1.2.2.2.2.2.2.1 S.1.2.2.2.2.2.2.2.1 hf) (rox_sub (fun q hq => List.mem_append_left _ (sub_ix (E := commonW h0 ad cA (za 4) (zgc za) S.1) [0] rfl q hq)) (fun q hq => List.mem_append_left _ (sub_ix (E := commonT cA) [] rfl q hq)))) rfl⟩
    · exact absurd h (by simp)
def cq_next (nf : Nat) (S : CS) (p0 : Int32) (p1 : Int64) : Option (Int32 × Int64 × CS × Nat × Nat) :=
  match (f_ZF_next nf p0 p1 (S.2 (zx p0)).2.1 (S.2 (zx p0)).2.2.1 (S.2 (zx p0)).2.2.2.2.2.2.1 (S.2 (zx p0)).2.2.2.2.2.2.2.1 (S.2 (zx p0)).2.2.2.2.2.2.2.2.1 (S.2 (zx p0)).2.2.2.2.2.2.2.2.2.1 (S.2 (zx p0)).2.2.2.2.2.2.2.2.2.2.1 (S.2 (zx p0)).2.2.2.2.2.2.2.2.2.2.2.2.2.1 (S.2 (zx p0)).2.2.2.2.2.2.2.2.2.2.2.2.2.2.1 (S.2 (zx p0)).2.2.2.2.2.2.2.2.2.2.2.2.2.2.2.1 (S.2 (zx p0)).2.2.2.2.2.2.2.2.2.2.2.2.2.2.2.2.2.2.1 (S.2 (zx p0)).2.2.2.2.2.2.2.2.2.2.2.2.2.2.2.2.2.2.2.2.1 (S.2 (zx p0)).2.2.2.2.2.2.2.2.2.2.2.2.2.2.2.2.2.2.2.2.2.1 (S.2 (zx p0)).2.2.2.2.2.2.2.2.2.2.2.2.2.2.2.2.2.2.2.2.2.2.1 (S.2 (zx p0)).2.2.2.2.2.2.2.2.2.2.2.2.2.2.2.2.2.2.2.2.2.2.2.1 (S.2 (zx p0)).2.2.2.2.2.2.2.2.2.2.2.2.2.2.2.2.2.2.2.2.2.2.2.2.1 (S.2 (zx p0)).2.2.2.2.2.2.2.2.2.2.2.2.2.2.2.2.2.2.2.2.2.2.2.2.2.1 (S.2 (zx p0)).2.2.2.2.2.2.2.2.2.2.2.2.2.2.2.2.2.2.2.2.2.2.2.2.2.2.1 (S.2 (zx p0)).2.2.2.2.2.2.2.2.2.2.2.2.2.2.2.2.2.2.2.2.2.2.2.2.2.2.2.1 (S.2 (zx p0)).2.2.2.2.2.2.2.2.2.2.2.2.2.2.2.2.2.2.2.2.2.2.2.2.2.2.2.2.1 (S.2 (zx p0)).2.2.2.2.2.2.2.2.2.2.2.2.2.2.2.2.2.2.2.2.2.2.2.2.2.2.2.2.2.1 (S.2 (zx p0)).2.2.2.2.2.2.2.2.2.2.2.2.2.2.2.2.2.2.2.2.2.2.2.2.2.2.2.2.2.2.1 (S.2 (zx p0)).2.2.2.2.2.2.2.2.2.2.2.2.2.2.2.2.2.2.2.2.2.2.2.2.2.2.2.2.2.2.2.1 (S.2 (zx p0)).2.2.2.2.2.2.2.2.2.2.2.2.2.2.2.2.2.2.2.2.2.2.2.2.2.2.2.2.2.2.2.2.1 (S.2 (zx p0)).2.2.2.2.2.2.2.2.2.2.2.2.2.2.2.2.2.2.2.2.2.2.2.2.2.2.2.2.2.2.2.2.2.1 (S.2 (zx p0)).2.2.2.2.2.2.2.2.2.2.2.2.2.2.2.2.2.2.2.2.2.2.2.2.2.2.2.2.2.2.2.2.2.2.1 (S.2 (zx p0)).2.2.2.2.2.2.2.2.2.2.2.2.2.2.2.2.2.2.2.2.2.2.2.2.2.2.2.2.2.2.2.2.2.2.2.1 (S.2 (zx p0)).2.2.2.2.2.2.2.2.2.2.2.2.2.2.2.2.2.2.2.2.2.2.2.2.2.2.2.2.2.2.2.2.2.2.2.2.1 (S.2 (zx p0)).2.2.2.2.2.2.2.2.2.2.2.2.2.2.2.2.2.2.2.2.2.2.2.2.2.2.2.2.2.2.2.2.2.2.2.2.2.1 (S.2 (zx p0)).2.2.2.2.2.2.2.2.2.2.2.2.2.2.2.2.2.2.2.2.2.2.2.2.2.2.2.2.2.2.2.2.2.2.2.2.2.2.1 (S.2 (zx p0)).2.2.2.2.2.2.2.2.2.2.2.2.2.2.2.2.2.2.2.2.2.2.2.2.2.2.2.2.2.2.2.2.2.2.2.2.2.2.2.1 (S.2 (zx p0)).2.2.2.2.2.2.2.2.2.2.2.2.2.2.2.2.2.2.2.2.2.2.2.2.2.2.2.2.2.2.2.2.2.2.2.2.2.2.2.2.1 (S.2 (zx p0)).2.2.2.2.2.2.2.2.2.2.2.2.2.2.2.2.2.2.2.2.2.2.2.2.2.2.2.2.2.2.2.2.2.2.2.2.2.2.2.2.2) with
  | some ((r0, v10_11), kc, ks) => some (0, r0, (S.1, zup S.2 (zx p0) ((S.2 (zx p0)).1, (S.2 (zx p0)).2.1, (S.2 (zx p0)).2.2.1, (S.2 (zx p0)).2.2.2.1, (S.2 (zx p0)).2.2.2.2.1, (S.2 (zx p0)).2.2.2.2.2.1, (S.2 (zx p0)).2.2.2.2.2.2.1, (S.2 (zx p0)).2.2.2.2.2.2.2.1, (S.2 (zx p0)).2.2.2.2.2.2.2.2.1, (S.2 (zx p0)).2.2.2.2.2.2.2.2.2.1, (S.2 (zx p0)).2.2.2.2.2.2.2.2.2.2.1, (S.2 (zx p0)).2.2.2.2.2.2.2.2.2.2.2.1, (S.2 (zx p0)).2.2.2.2.2.2.2.2.2.2.2.2.1, (S.2 (zx p0)).2.2.2.2.2.2.2.2.2.2.2.2.2.1, (S.2 (zx p0)).2.2.2.2.2.2.2.2.2.2.2.2.2.2.1, (S.2 (zx p0)).2.2.2.2.2.2.2.2.2.2.2.2.2.2.2.1, (S.2 (zx p0)).2.2.2.2.2.2.2.2.2.2.2.2.2.2.2.2.1, (S.2 (zx p0)).2.2.2.2.2.2.2.2.2.2.2.2.2.2.2.2.2.1, (S.2 (zx p0)).2.2.2.2.2.2.2.2.2.2.2.2.2.2.2.2.2.2.1, (S.2 (zx p0)).2.2.2.2.2.2.2.2.2.2.2.2.2.2.2.2.2.2.2.1, (S.2 (zx p0)).2.2.2.2.2.2.2.2.2.2.2.2.2.2.2.2.2.2.2.2.1, (S.2 (zx p0)).2.2.2.2.2.2.2.2.2.2.2.2.2.2.2.2.2.2.2.2.2.1, (S.2 (zx p0)).2.2.2.2.2.2.2.2.2.2.2.2.2.2.2.2.2.2.2.2.2.2.1, (S.2 (zx p0)).2.2.2.2.2.2.2.2.2.2.2.2.2.2.2.2.2.2.2.2.2.2.2.1, (S.2 (zx p0)).2.2.2.2.2.2.2.2.2.2.2.2.2.2.2.2.2.2.2.2.2.2.2.2.1, (S.2 (zx p0)).2.2.2.2.2.2.2.2.2.2.2.2.2.2.2.2.2.2.2.2.2.2.2.2.2.1, v10_11, (S.2 (zx p0)).2.2.2.2.2.2.2.2.2.2.2.2.2.2.2.2.2.2.2.2.2.2.2.2.2.2.2.1, (S.2 (zx p0)).2.2.2.2.2.2.2.2.2.2.2.2.2.2.2.2.2.2.2.2.2.2.2.2.2.2.2.2.1, (S.2 (zx p0)).2.2.2.2.2.2.2.2.2.2.2.2.2.2.2.2.2.2.2.2.2.2.2.2.2.2.2.2.2.1, (S.2 (zx p0)).2.2.2.2.2.2.2.2.2.2.2.2.2.2.2.2.2.2.2.2.2.2.2.2.2.2.2.2.2.2.1, (S.2 (zx p0)).2.2.2.2.2.2.2.2.2.2.2.2.2.2.2.2.2.2.2.2.2.2.2.2.2.2.2.2.2.2.2.1, (S.2 (zx p0)).2.2.2.2.2.2.2.2.2.2.2.2.2.2.2.2.2.2.2.2.2.2.2.2.2.2.2.2.2.2.2.2.1, (S.2 (zx p0)).2.2.2.2.2.2.2.2.2.2.2.2.2.2.2.2.2.2.2.2.2.2.2.2.2.2.2.2.2.2.2.2.2.1, (S.2 (zx p0)).2.2.2.2.2.2.2.2.2.2.2.2.2.2.2.2.2.2.2.2.2.2.2.2.2.2.2.2.2.2.2.2.2.2.1, (S.2 (zx p0)).2.2.2.2.2.2.2.2.2.2.2.2.2.2.2.2.2.2.2.2.2.2.2.2.2.2.2.2.2.2.2.2.2.2.2.1, (S.2 (zx p0)).2.2.2.2.2.2.2.2.2.2.2.2.2.2.2.2.2.2.2.2.2.2.2.2.2.2.2.2.2.2.2.2.2.2.2.2.1, (S.2 (zx p0)).2.2.2.2.2.2.2.2.2.2.2.2.2.2.2.2.2.2.2.2.2.2.2.2.2.2.2.2.2.2.2.2.2.2.2.2.2.1, (S.2 (zx p0)).2.2.2.2.2.2.2.2.2.2.2.2.2.2.2.2.2.2.2.2.2.2.2.2.2.2.2.2.2.2.2.2.2.2.2.2.2.2.1, (S.2 (zx p0)).2.2.2.2.2.2.2.2.2.2.2.2.2.2.2.2.2.2.2.2.2.2.2.2.2.2.2.2.2.2.2.2.2.2.2.2.2.2.2.1, (S.2 (zx p0)).2.2.2.2.2.2.2.2.2.2.2.2.2.2.2.2.2.2.2.2.2.2.2.2.2.2.2.2.2.2.2.2.2.2.2.2.2.2.2.2.1, (S.2 (zx p0)).2.2.2.2.2.2.2.2.2.2.2.2.2.2.2.2.2.2.2.2.2.2.2.2.2.2.2.2.2.2.2.2.2.2.2.2.2.2.2.2.2)), kc, ks)
  | none =>
  match (g_ZF_next nf p0 p1) with
  | some 1 => some (1, 0, S, 1, 6)
  | some 2 => some (2, 0, S, 1, 6)
  | _ => none
set_option maxRecDepth 100000 in
set_option maxHeartbeats 1000000 in
theorem q_next (l : Launch) (hno : NT l) (dC : Nat → ClassId) (dI : Nat → Nat → Nat) (h0 : Nat) (ad : Nat → Nat) (cA : Nat → ClassId) (za : Nat → Nat) (zad : Nat → Nat → Nat) (zcA : Nat → Nat → ClassId) (S : CS) (nf : Nat) (p0 : Int32) (p1 : Int64) {k : Int32} {ans : Int64} {S' : CS} {kc ks : Nat} (h : cq_next nf S p0 p1 = some (k, ans, S', kc, ks)) (o : Nat) (cO : ClassId) (f : Nat → Int64) :
    (k = 0 ∧ OM l y_LW_next (wdW y_LW_next b_LW_next 6 (some .int) [(0, 10, 13, 19), (0, 10, 17, 13)]) ({ frames := 8, cells := kc, slots := ks, locals := 197 }) dC dI (oC o cO f :: WX h0 ad cA za zad zcA S) ((cO, .long) :: TX cA zcA) [.ref h0, .int p0, .long p1, .ref o] (some (.int 0)) (oF (CW h0 S') o cO f (TX cA zcA) ans) kc ks) ∨
    (kc = 1 ∧ ks = 6 ∧ S' = S ∧ k ≠ 0 ∧ Met l y_LW_next (wdW y_LW_next b_LW_next 6 (some .int) [(0, 10, 13, 19), (0, 10, 17, 13)]) ({ frames := 8, cells := 1, slots := 6, locals := 144 }) (ROX dC dI (WX h0 ad cA za zad zcA S) (TX cA zcA) [.ref h0, .int p0, .long p1, .ref o]) (MV (some (.int k)) (fun _ => True) (fun _ => False)) 1 6 (fun _ => False)) := by
  unfold cq_next at h
  split at h
  · rename_i hf
    cases h
    exact Or.inl ⟨rfl, cw_next l dC dI p0 p1 (lift_z (i := zx p0) (zad := zad) (zcA := zcA) (Nat.lt_succ_of_lt (zx_lt p0)) (o_ZF_next l dC dI h0 (za 4) ad cA (zgc za) S.1 (za (zx p0)) (zad (zx p0)) (zcA (zx p0)) (S.2 (zx p0)) nf p0 p1 hf (zgc_at za p0))) rfl⟩
  · split at h
    · rename_i hf
      cases h
      exact Or.inr ⟨rfl, rfl, rfl, by decide, tw_next_1 l dC dI p0 p1 (metT_mono (t_ZF_next l hno dC dI h0 nf p0 p1 hf) (rox_sub (fun q hq => List.mem_append_left _ (sub_ix (E := commonW h0 ad cA (za 4) (zgc za) S.1) [] rfl q hq)) (fun q hq => List.mem_append_left _ (sub_ix (E := commonT cA) [] rfl q hq)))) rfl⟩
    · rename_i hf
      cases h
      exact Or.inr ⟨rfl, rfl, rfl, by decide, tw_next_2 l dC dI p0 p1 (metT_mono (t_ZF_next l hno dC dI h0 nf p0 p1 hf) (rox_sub (fun q hq => List.mem_append_left _ (sub_ix (E := commonW h0 ad cA (za 4) (zgc za) S.1) [] rfl q hq)) (fun q hq => List.mem_append_left _ (sub_ix (E := commonT cA) [] rfl q hq)))) rfl⟩
    · exact absurd h (by simp)
def cq_last (nf : Nat) (S : CS) (p0 : Int32) (p1 : Int64) : Option (Int32 × Int64 × CS × Nat × Nat) :=
  match (f_ZF_last nf p0 p1 (S.2 (zx p0)).2.1 (S.2 (zx p0)).2.2.1 (S.2 (zx p0)).2.2.2.2.2.2.1 (S.2 (zx p0)).2.2.2.2.2.2.2.1 (S.2 (zx p0)).2.2.2.2.2.2.2.2.1 (S.2 (zx p0)).2.2.2.2.2.2.2.2.2.1 (S.2 (zx p0)).2.2.2.2.2.2.2.2.2.2.1 (S.2 (zx p0)).2.2.2.2.2.2.2.2.2.2.2.2.2.1 (S.2 (zx p0)).2.2.2.2.2.2.2.2.2.2.2.2.2.2.1 (S.2 (zx p0)).2.2.2.2.2.2.2.2.2.2.2.2.2.2.2.1 (S.2 (zx p0)).2.2.2.2.2.2.2.2.2.2.2.2.2.2.2.2.2.2.1 (S.2 (zx p0)).2.2.2.2.2.2.2.2.2.2.2.2.2.2.2.2.2.2.2.2.1 (S.2 (zx p0)).2.2.2.2.2.2.2.2.2.2.2.2.2.2.2.2.2.2.2.2.2.1 (S.2 (zx p0)).2.2.2.2.2.2.2.2.2.2.2.2.2.2.2.2.2.2.2.2.2.2.1 (S.2 (zx p0)).2.2.2.2.2.2.2.2.2.2.2.2.2.2.2.2.2.2.2.2.2.2.2.1 (S.2 (zx p0)).2.2.2.2.2.2.2.2.2.2.2.2.2.2.2.2.2.2.2.2.2.2.2.2.1 (S.2 (zx p0)).2.2.2.2.2.2.2.2.2.2.2.2.2.2.2.2.2.2.2.2.2.2.2.2.2.1 (S.2 (zx p0)).2.2.2.2.2.2.2.2.2.2.2.2.2.2.2.2.2.2.2.2.2.2.2.2.2.2.1 (S.2 (zx p0)).2.2.2.2.2.2.2.2.2.2.2.2.2.2.2.2.2.2.2.2.2.2.2.2.2.2.2.1 (S.2 (zx p0)).2.2.2.2.2.2.2.2.2.2.2.2.2.2.2.2.2.2.2.2.2.2.2.2.2.2.2.2.1 (S.2 (zx p0)).2.2.2.2.2.2.2.2.2.2.2.2.2.2.2.2.2.2.2.2.2.2.2.2.2.2.2.2.2.1 (S.2 (zx p0)).2.2.2.2.2.2.2.2.2.2.2.2.2.2.2.2.2.2.2.2.2.2.2.2.2.2.2.2.2.2.1 (S.2 (zx p0)).2.2.2.2.2.2.2.2.2.2.2.2.2.2.2.2.2.2.2.2.2.2.2.2.2.2.2.2.2.2.2.1 (S.2 (zx p0)).2.2.2.2.2.2.2.2.2.2.2.2.2.2.2.2.2.2.2.2.2.2.2.2.2.2.2.2.2.2.2.2.1 (S.2 (zx p0)).2.2.2.2.2.2.2.2.2.2.2.2.2.2.2.2.2.2.2.2.2.2.2.2.2.2.2.2.2.2.2.2.2.1 (S.2 (zx p0)).2.2.2.2.2.2.2.2.2.2.2.2.2.2.2.2.2.2.2.2.2.2.2.2.2.2.2.2.2.2.2.2.2.2.1 (S.2 (zx p0)).2.2.2.2.2.2.2.2.2.2.2.2.2.2.2.2.2.2.2.2.2.2.2.2.2.2.2.2.2.2.2.2.2.2.2.1 (S.2 (zx p0)).2.2.2.2.2.2.2.2.2.2.2.2.2.2.2.2.2.2.2.2.2.2.2.2.2.2.2.2.2.2.2.2.2.2.2.2.1 (S.2 (zx p0)).2.2.2.2.2.2.2.2.2.2.2.2.2.2.2.2.2.2.2.2.2.2.2.2.2.2.2.2.2.2.2.2.2.2.2.2.2.1 (S.2 (zx p0)).2.2.2.2.2.2.2.2.2.2.2.2.2.2.2.2.2.2.2.2.2.2.2.2.2.2.2.2.2.2.2.2.2.2.2.2.2.2.1 (S.2 (zx p0)).2.2.2.2.2.2.2.2.2.2.2.2.2.2.2.2.2.2.2.2.2.2.2.2.2.2.2.2.2.2.2.2.2.2.2.2.2.2.2.1 (S.2 (zx p0)).2.2.2.2.2.2.2.2.2.2.2.2.2.2.2.2.2.2.2.2.2.2.2.2.2.2.2.2.2.2.2.2.2.2.2.2.2.2.2.2.1 (S.2 (zx p0)).2.2.2.2.2.2.2.2.2.2.2.2.2.2.2.2.2.2.2.2.2.2.2.2.2.2.2.2.2.2.2.2.2.2.2.2.2.2.2.2.2) with
  | some ((r0, v10_11), kc, ks) => some (0, r0, (S.1, zup S.2 (zx p0) ((S.2 (zx p0)).1, (S.2 (zx p0)).2.1, (S.2 (zx p0)).2.2.1, (S.2 (zx p0)).2.2.2.1, (S.2 (zx p0)).2.2.2.2.1, (S.2 (zx p0)).2.2.2.2.2.1, (S.2 (zx p0)).2.2.2.2.2.2.1, (S.2 (zx p0)).2.2.2.2.2.2.2.1, (S.2 (zx p0)).2.2.2.2.2.2.2.2.1, (S.2 (zx p0)).2.2.2.2.2.2.2.2.2.1, (S.2 (zx p0)).2.2.2.2.2.2.2.2.2.2.1, (S.2 (zx p0)).2.2.2.2.2.2.2.2.2.2.2.1, (S.2 (zx p0)).2.2.2.2.2.2.2.2.2.2.2.2.1, (S.2 (zx p0)).2.2.2.2.2.2.2.2.2.2.2.2.2.1, (S.2 (zx p0)).2.2.2.2.2.2.2.2.2.2.2.2.2.2.1, (S.2 (zx p0)).2.2.2.2.2.2.2.2.2.2.2.2.2.2.2.1, (S.2 (zx p0)).2.2.2.2.2.2.2.2.2.2.2.2.2.2.2.2.1, (S.2 (zx p0)).2.2.2.2.2.2.2.2.2.2.2.2.2.2.2.2.2.1, (S.2 (zx p0)).2.2.2.2.2.2.2.2.2.2.2.2.2.2.2.2.2.2.1, (S.2 (zx p0)).2.2.2.2.2.2.2.2.2.2.2.2.2.2.2.2.2.2.2.1, (S.2 (zx p0)).2.2.2.2.2.2.2.2.2.2.2.2.2.2.2.2.2.2.2.2.1, (S.2 (zx p0)).2.2.2.2.2.2.2.2.2.2.2.2.2.2.2.2.2.2.2.2.2.1, (S.2 (zx p0)).2.2.2.2.2.2.2.2.2.2.2.2.2.2.2.2.2.2.2.2.2.2.1, (S.2 (zx p0)).2.2.2.2.2.2.2.2.2.2.2.2.2.2.2.2.2.2.2.2.2.2.2.1, (S.2 (zx p0)).2.2.2.2.2.2.2.2.2.2.2.2.2.2.2.2.2.2.2.2.2.2.2.2.1, (S.2 (zx p0)).2.2.2.2.2.2.2.2.2.2.2.2.2.2.2.2.2.2.2.2.2.2.2.2.2.1, v10_11, (S.2 (zx p0)).2.2.2.2.2.2.2.2.2.2.2.2.2.2.2.2.2.2.2.2.2.2.2.2.2.2.2.1, (S.2 (zx p0)).2.2.2.2.2.2.2.2.2.2.2.2.2.2.2.2.2.2.2.2.2.2.2.2.2.2.2.2.1, (S.2 (zx p0)).2.2.2.2.2.2.2.2.2.2.2.2.2.2.2.2.2.2.2.2.2.2.2.2.2.2.2.2.2.1, (S.2 (zx p0)).2.2.2.2.2.2.2.2.2.2.2.2.2.2.2.2.2.2.2.2.2.2.2.2.2.2.2.2.2.2.1, (S.2 (zx p0)).2.2.2.2.2.2.2.2.2.2.2.2.2.2.2.2.2.2.2.2.2.2.2.2.2.2.2.2.2.2.2.1, (S.2 (zx p0)).2.2.2.2.2.2.2.2.2.2.2.2.2.2.2.2.2.2.2.2.2.2.2.2.2.2.2.2.2.2.2.2.1, (S.2 (zx p0)).2.2.2.2.2.2.2.2.2.2.2.2.2.2.2.2.2.2.2.2.2.2.2.2.2.2.2.2.2.2.2.2.2.1, (S.2 (zx p0)).2.2.2.2.2.2.2.2.2.2.2.2.2.2.2.2.2.2.2.2.2.2.2.2.2.2.2.2.2.2.2.2.2.2.1, (S.2 (zx p0)).2.2.2.2.2.2.2.2.2.2.2.2.2.2.2.2.2.2.2.2.2.2.2.2.2.2.2.2.2.2.2.2.2.2.2.1, (S.2 (zx p0)).2.2.2.2.2.2.2.2.2.2.2.2.2.2.2.2.2.2.2.2.2.2.2.2.2.2.2.2.2.2.2.2.2.2.2.2.1, (S.2 (zx p0)).2.2.2.2.2.2.2.2.2.2.2.2.2.2.2.2.2.2.2.2.2.2.2.2.2.2.2.2.2.2.2.2.2.2.2.2.2.1, (S.2 (zx p0)).2.2.2.2.2.2.2.2.2.2.2.2.2.2.2.2.2.2.2.2.2.2.2.2.2.2.2.2.2.2.2.2.2.2.2.2.2.2.1, (S.2 (zx p0)).2.2.2.2.2.2.2.2.2.2.2.2.2.2.2.2.2.2.2.2.2.2.2.2.2.2.2.2.2.2.2.2.2.2.2.2.2.2.2.1, (S.2 (zx p0)).2.2.2.2.2.2.2.2.2.2.2.2.2.2.2.2.2.2.2.2.2.2.2.2.2.2.2.2.2.2.2.2.2.2.2.2.2.2.2.2.1, (S.2 (zx p0)).2.2.2.2.2.2.2.2.2.2.2.2.2.2.2.2.2.2.2.2.2.2.2.2.2.2.2.2.2.2.2.2.2.2.2.2.2.2.2.2.2)), kc, ks)
  | none =>
  match (g_ZF_last nf p0 p1) with
  | some 1 => some (1, 0, S, 1, 6)
  | some 2 => some (2, 0, S, 1, 6)
  | _ => none
set_option maxRecDepth 100000 in
set_option maxHeartbeats 1000000 in
theorem q_last (l : Launch) (hno : NT l) (dC : Nat → ClassId) (dI : Nat → Nat → Nat) (h0 : Nat) (ad : Nat → Nat) (cA : Nat → ClassId) (za : Nat → Nat) (zad : Nat → Nat → Nat) (zcA : Nat → Nat → ClassId) (S : CS) (nf : Nat) (p0 : Int32) (p1 : Int64) {k : Int32} {ans : Int64} {S' : CS} {kc ks : Nat} (h : cq_last nf S p0 p1 = some (k, ans, S', kc, ks)) (o : Nat) (cO : ClassId) (f : Nat → Int64) :
    (k = 0 ∧ OM l y_LW_last (wdW y_LW_last b_LW_last 6 (some .int) [(0, 10, 13, 19), (0, 10, 17, 13)]) ({ frames := 8, cells := kc, slots := ks, locals := 205 }) dC dI (oC o cO f :: WX h0 ad cA za zad zcA S) ((cO, .long) :: TX cA zcA) [.ref h0, .int p0, .long p1, .ref o] (some (.int 0)) (oF (CW h0 S') o cO f (TX cA zcA) ans) kc ks) ∨
    (kc = 1 ∧ ks = 6 ∧ S' = S ∧ k ≠ 0 ∧ Met l y_LW_last (wdW y_LW_last b_LW_last 6 (some .int) [(0, 10, 13, 19), (0, 10, 17, 13)]) ({ frames := 8, cells := 1, slots := 6, locals := 144 }) (ROX dC dI (WX h0 ad cA za zad zcA S) (TX cA zcA) [.ref h0, .int p0, .long p1, .ref o]) (MV (some (.int k)) (fun _ => True) (fun _ => False)) 1 6 (fun _ => False)) := by
  unfold cq_last at h
  split at h
  · rename_i hf
    cases h
    exact Or.inl ⟨rfl, cw_last l dC dI p0 p1 (lift_z (i := zx p0) (zad := zad) (zcA := zcA) (Nat.lt_succ_of_lt (zx_lt p0)) (o_ZF_last l dC dI h0 (za 4) ad cA (zgc za) S.1 (za (zx p0)) (zad (zx p0)) (zcA (zx p0)) (S.2 (zx p0)) nf p0 p1 hf (zgc_at za p0))) rfl⟩
  · split at h
    · rename_i hf
      cases h
      exact Or.inr ⟨rfl, rfl, rfl, by decide, tw_last_1 l dC dI p0 p1 (metT_mono (t_ZF_last l hno dC dI h0 nf p0 p1 hf) (rox_sub (fun q hq => List.mem_append_left _ (sub_ix (E := commonW h0 ad cA (za 4) (zgc za) S.1) [] rfl q hq)) (fun q hq => List.mem_append_left _ (sub_ix (E := commonT cA) [] rfl q hq)))) rfl⟩
    · rename_i hf
      cases h
      exact Or.inr ⟨rfl, rfl, rfl, by decide, tw_last_2 l dC dI p0 p1 (metT_mono (t_ZF_last l hno dC dI h0 nf p0 p1 hf) (rox_sub (fun q hq => List.mem_append_left _ (sub_ix (E := commonW h0 ad cA (za 4) (zgc za) S.1) [] rfl q hq)) (fun q hq => List.mem_append_left _ (sub_ix (E := commonT cA) [] rfl q hq)))) rfl⟩
    · exact absurd h (by simp)
def cq_stretch (nf : Nat) (S : CS) (p0 : Int32) (p1 : Int32) : Option (Int32 × Int64 × CS × Nat × Nat) :=
  match (f_ZF_stretch nf p0 p1 (S.2 (zx p0)).2.1 (S.2 (zx p0)).2.2.1 (S.2 (zx p0)).2.2.2.2.1 (S.2 (zx p0)).2.2.2.2.2.1 (S.2 (zx p0)).2.2.2.2.2.2.1 (S.2 (zx p0)).2.2.2.2.2.2.2.1 (S.2 (zx p0)).2.2.2.2.2.2.2.2.1 (S.2 (zx p0)).2.2.2.2.2.2.2.2.2.1 (S.2 (zx p0)).2.2.2.2.2.2.2.2.2.2.1 (S.2 (zx p0)).2.2.2.2.2.2.2.2.2.2.2.1 (S.2 (zx p0)).2.2.2.2.2.2.2.2.2.2.2.2.1 (S.2 (zx p0)).2.2.2.2.2.2.2.2.2.2.2.2.2.1 (S.2 (zx p0)).2.2.2.2.2.2.2.2.2.2.2.2.2.2.1 (S.2 (zx p0)).2.2.2.2.2.2.2.2.2.2.2.2.2.2.2.1 (S.2 (zx p0)).2.2.2.2.2.2.2.2.2.2.2.2.2.2.2.2.2.2.1 (S.2 (zx p0)).2.2.2.2.2.2.2.2.2.2.2.2.2.2.2.2.2.2.2.2.1 (S.2 (zx p0)).2.2.2.2.2.2.2.2.2.2.2.2.2.2.2.2.2.2.2.2.2.1 (S.2 (zx p0)).2.2.2.2.2.2.2.2.2.2.2.2.2.2.2.2.2.2.2.2.2.2.1 (S.2 (zx p0)).2.2.2.2.2.2.2.2.2.2.2.2.2.2.2.2.2.2.2.2.2.2.2.1 (S.2 (zx p0)).2.2.2.2.2.2.2.2.2.2.2.2.2.2.2.2.2.2.2.2.2.2.2.2.1 (S.2 (zx p0)).2.2.2.2.2.2.2.2.2.2.2.2.2.2.2.2.2.2.2.2.2.2.2.2.2.1 (S.2 (zx p0)).2.2.2.2.2.2.2.2.2.2.2.2.2.2.2.2.2.2.2.2.2.2.2.2.2.2.2.1 (S.2 (zx p0)).2.2.2.2.2.2.2.2.2.2.2.2.2.2.2.2.2.2.2.2.2.2.2.2.2.2.2.2.1 (S.2 (zx p0)).2.2.2.2.2.2.2.2.2.2.2.2.2.2.2.2.2.2.2.2.2.2.2.2.2.2.2.2.2.1 (S.2 (zx p0)).2.2.2.2.2.2.2.2.2.2.2.2.2.2.2.2.2.2.2.2.2.2.2.2.2.2.2.2.2.2.1 (S.2 (zx p0)).2.2.2.2.2.2.2.2.2.2.2.2.2.2.2.2.2.2.2.2.2.2.2.2.2.2.2.2.2.2.2.1 (S.2 (zx p0)).2.2.2.2.2.2.2.2.2.2.2.2.2.2.2.2.2.2.2.2.2.2.2.2.2.2.2.2.2.2.2.2.1 (S.2 (zx p0)).2.2.2.2.2.2.2.2.2.2.2.2.2.2.2.2.2.2.2.2.2.2.2.2.2.2.2.2.2.2.2.2.2.1 (S.2 (zx p0)).2.2.2.2.2.2.2.2.2.2.2.2.2.2.2.2.2.2.2.2.2.2.2.2.2.2.2.2.2.2.2.2.2.2.1 (S.2 (zx p0)).2.2.2.2.2.2.2.2.2.2.2.2.2.2.2.2.2.2.2.2.2.2.2.2.2.2.2.2.2.2.2.2.2.2.2.1 (S.2 (zx p0)).2.2.2.2.2.2.2.2.2.2.2.2.2.2.2.2.2.2.2.2.2.2.2.2.2.2.2.2.2.2.2.2.2.2.2.2.1 (S.2 (zx p0)).2.2.2.2.2.2.2.2.2.2.2.2.2.2.2.2.2.2.2.2.2.2.2.2.2.2.2.2.2.2.2.2.2.2.2.2.2.1 (S.2 (zx p0)).2.2.2.2.2.2.2.2.2.2.2.2.2.2.2.2.2.2.2.2.2.2.2.2.2.2.2.2.2.2.2.2.2.2.2.2.2.2.1 (S.2 (zx p0)).2.2.2.2.2.2.2.2.2.2.2.2.2.2.2.2.2.2.2.2.2.2.2.2.2.2.2.2.2.2.2.2.2.2.2.2.2.2.2.1 (S.2 (zx p0)).2.2.2.2.2.2.2.2.2.2.2.2.2.2.2.2.2.2.2.2.2.2.2.2.2.2.2.2.2.2.2.2.2.2.2.2.2.2.2.2.1 (S.2 (zx p0)).2.2.2.2.2.2.2.2.2.2.2.2.2.2.2.2.2.2.2.2.2.2.2.2.2.2.2.2.2.2.2.2.2.2.2.2.2.2.2.2.2) with
  | some ((r0, v2_1, v2_2, v2_4, v2_5, v3_a, v4_a, v5_a, v6_a, v7_a, v8_a, v9_a, v10_1, v11_n, v11_a), kc, ks) => some (0, r0.toInt64, (S.1, zup S.2 (zx p0) ((S.2 (zx p0)).1, v2_1, v2_2, (S.2 (zx p0)).2.2.2.1, v2_4, v2_5, v3_a, v4_a, v5_a, v6_a, v7_a, v8_a, v9_a, v10_1, v11_n, v11_a, (S.2 (zx p0)).2.2.2.2.2.2.2.2.2.2.2.2.2.2.2.2.1, (S.2 (zx p0)).2.2.2.2.2.2.2.2.2.2.2.2.2.2.2.2.2.1, (S.2 (zx p0)).2.2.2.2.2.2.2.2.2.2.2.2.2.2.2.2.2.2.1, (S.2 (zx p0)).2.2.2.2.2.2.2.2.2.2.2.2.2.2.2.2.2.2.2.1, (S.2 (zx p0)).2.2.2.2.2.2.2.2.2.2.2.2.2.2.2.2.2.2.2.2.1, (S.2 (zx p0)).2.2.2.2.2.2.2.2.2.2.2.2.2.2.2.2.2.2.2.2.2.1, (S.2 (zx p0)).2.2.2.2.2.2.2.2.2.2.2.2.2.2.2.2.2.2.2.2.2.2.1, (S.2 (zx p0)).2.2.2.2.2.2.2.2.2.2.2.2.2.2.2.2.2.2.2.2.2.2.2.1, (S.2 (zx p0)).2.2.2.2.2.2.2.2.2.2.2.2.2.2.2.2.2.2.2.2.2.2.2.2.1, (S.2 (zx p0)).2.2.2.2.2.2.2.2.2.2.2.2.2.2.2.2.2.2.2.2.2.2.2.2.2.1, (S.2 (zx p0)).2.2.2.2.2.2.2.2.2.2.2.2.2.2.2.2.2.2.2.2.2.2.2.2.2.2.1, (S.2 (zx p0)).2.2.2.2.2.2.2.2.2.2.2.2.2.2.2.2.2.2.2.2.2.2.2.2.2.2.2.1, (S.2 (zx p0)).2.2.2.2.2.2.2.2.2.2.2.2.2.2.2.2.2.2.2.2.2.2.2.2.2.2.2.2.1, (S.2 (zx p0)).2.2.2.2.2.2.2.2.2.2.2.2.2.2.2.2.2.2.2.2.2.2.2.2.2.2.2.2.2.1, (S.2 (zx p0)).2.2.2.2.2.2.2.2.2.2.2.2.2.2.2.2.2.2.2.2.2.2.2.2.2.2.2.2.2.2.1, (S.2 (zx p0)).2.2.2.2.2.2.2.2.2.2.2.2.2.2.2.2.2.2.2.2.2.2.2.2.2.2.2.2.2.2.2.1, (S.2 (zx p0)).2.2.2.2.2.2.2.2.2.2.2.2.2.2.2.2.2.2.2.2.2.2.2.2.2.2.2.2.2.2.2.2.1, (S.2 (zx p0)).2.2.2.2.2.2.2.2.2.2.2.2.2.2.2.2.2.2.2.2.2.2.2.2.2.2.2.2.2.2.2.2.2.1, (S.2 (zx p0)).2.2.2.2.2.2.2.2.2.2.2.2.2.2.2.2.2.2.2.2.2.2.2.2.2.2.2.2.2.2.2.2.2.2.1, (S.2 (zx p0)).2.2.2.2.2.2.2.2.2.2.2.2.2.2.2.2.2.2.2.2.2.2.2.2.2.2.2.2.2.2.2.2.2.2.2.1, (S.2 (zx p0)).2.2.2.2.2.2.2.2.2.2.2.2.2.2.2.2.2.2.2.2.2.2.2.2.2.2.2.2.2.2.2.2.2.2.2.2.1, (S.2 (zx p0)).2.2.2.2.2.2.2.2.2.2.2.2.2.2.2.2.2.2.2.2.2.2.2.2.2.2.2.2.2.2.2.2.2.2.2.2.2.1, (S.2 (zx p0)).2.2.2.2.2.2.2.2.2.2.2.2.2.2.2.2.2.2.2.2.2.2.2.2.2.2.2.2.2.2.2.2.2.2.2.2.2.2.1, (S.2 (zx p0)).2.2.2.2.2.2.2.2.2.2.2.2.2.2.2.2.2.2.2.2.2.2.2.2.2.2.2.2.2.2.2.2.2.2.2.2.2.2.2.1, (S.2 (zx p0)).2.2.2.2.2.2.2.2.2.2.2.2.2.2.2.2.2.2.2.2.2.2.2.2.2.2.2.2.2.2.2.2.2.2.2.2.2.2.2.2.1, (S.2 (zx p0)).2.2.2.2.2.2.2.2.2.2.2.2.2.2.2.2.2.2.2.2.2.2.2.2.2.2.2.2.2.2.2.2.2.2.2.2.2.2.2.2.2)), kc, ks)
  | none =>
  match (g_ZF_stretch nf p0 p1 ((S.2 (zx p0)).2.2.2.2.2.2.2.2.2.2.2.2.2.2.2.2.2.2.1)) with
  | some 1 => some (1, 0, S, 1, 6)
  | some 2 => some (2, 0, S, 1, 6)
  | some 3 => some (3, 0, S, 1, 6)
  | _ => none
set_option maxRecDepth 100000 in
set_option maxHeartbeats 1000000 in
theorem q_stretch (l : Launch) (hno : NT l) (dC : Nat → ClassId) (dI : Nat → Nat → Nat) (h0 : Nat) (ad : Nat → Nat) (cA : Nat → ClassId) (za : Nat → Nat) (zad : Nat → Nat → Nat) (zcA : Nat → Nat → ClassId) (S : CS) (nf : Nat) (p0 : Int32) (p1 : Int32) {k : Int32} {ans : Int64} {S' : CS} {kc ks : Nat} (h : cq_stretch nf S p0 p1 = some (k, ans, S', kc, ks)) (o : Nat) (cO : ClassId) (f : Nat → Int64) :
    (k = 0 ∧ OM l y_LW_stretch (wdW y_LW_stretch b_LW_stretch 5 (some .int) [(0, 10, 13, 19), (0, 10, 17, 13), (0, 10, 21, 54)]) ({ frames := 8, cells := kc, slots := ks, locals := 183 }) dC dI (oC o cO f :: WX h0 ad cA za zad zcA S) ((cO, .long) :: TX cA zcA) [.ref h0, .int p0, .int p1, .ref o] (some (.int 0)) (oF (CW h0 S') o cO f (TX cA zcA) ans) kc ks) ∨
    (kc = 1 ∧ ks = 6 ∧ S' = S ∧ k ≠ 0 ∧ Met l y_LW_stretch (wdW y_LW_stretch b_LW_stretch 5 (some .int) [(0, 10, 13, 19), (0, 10, 17, 13), (0, 10, 21, 54)]) ({ frames := 8, cells := 1, slots := 6, locals := 142 }) (ROX dC dI (WX h0 ad cA za zad zcA S) (TX cA zcA) [.ref h0, .int p0, .int p1, .ref o]) (MV (some (.int k)) (fun _ => True) (fun _ => False)) 1 6 (fun _ => False)) := by
  unfold cq_stretch at h
  split at h
  · rename_i hf
    cases h
    exact Or.inl ⟨rfl, cw_stretch l dC dI p0 p1 (lift_z (i := zx p0) (zad := zad) (zcA := zcA) (Nat.lt_succ_of_lt (zx_lt p0)) (o_ZF_stretch l dC dI h0 (za 4) ad cA (zgc za) S.1 (za (zx p0)) (zad (zx p0)) (zcA (zx p0)) (S.2 (zx p0)) nf p0 p1 hf (zgc_at za p0))) rfl⟩
  · split at h
    · rename_i hf
      cases h
      exact Or.inr ⟨rfl, rfl, rfl, by decide, tw_stretch_1 l dC dI p0 p1 (metT_mono (t_ZF_stretch l hno dC dI h0 (ad 0) (ad 1) (ad 2) (za 4) (ad 3) (ad 4) (ad 5) (za (zx p0)) (zad (zx p0) 0) (zad (zx p0) 1) (zad (zx p0) 2) (zad (zx p0) 3) (zad (zx p0) 4) (zad (zx p0) 5) (zad (zx p0) 6) (zad (zx p0) 7) (zad (zx p0) 8) (zad (zx p0) 9) (zad (zx p0) 10) (zad (zx p0) 12) (zad (zx p0) 13) (zad (zx p0) 14) (cA 2) nf p0 p1 S.1.2.2.2.2.2.2.1 S.1.2.2.2.2.2.2.2.1 (zgc za) ((S.2 (zx p0)).1) ((S.2 (zx p0)).2.1) ((S.2 (zx p0)).2.2.1) ((S.2 (zx p0)).2.2.2.1) ((S.2 (zx p0)).2.2.2.2.1) ((S.2 (zx p0)).2.2.2.2.2.1) ((S.2 (zx p0)).2.2.2.2.2.2.2.2.2.2.2.2.2.2.2.2.2.2.1) ((S.2 (zx p0)).2.2.2.2.2.2.2.2.2.2.2.2.2.2.2.2.2.2.2.1) ((S.2 (zx p0)).2.2.2.2.2.2.2.2.2.2.2.2.2.2.2.2.2.2.2.2.1) ((S.2 (zx p0)).2.2.2.2.2.2.2.2.2.2.2.2.2.2.2.2.2.2.2.2.2.1) ((S.2 (zx p0)).2.2.2.2.2.2.2.2.2.2.2.2.2.2.2.2.2.2.2.2.2.2.1) ((S.2 (zx p0)).2.2.2.2.2.2.2.2.2.2.2.2.2.2.2.2.2.2.2.2.2.2.2.1) ((S.2 (zx p0)).2.2.2.2.2.2.2.2.2.2.2.2.2.2.2.2.2.2.2.2.2.2.2.2.1) ((S.2 (zx p0)).2.2.2.2.2.2.2.2.2.2.2.2.2.2.2.2.2.2.2.2.2.2.2.2.2.1) ((S.2 (zx p0)).2.2.2.2.2.2.2.2.2.2.2.2.2.2.2.2.2.2.2.2.2.2.2.2.2.2.1) hf (zgc_at za p0)) (rox_sub (fun q hq => (WX_sel (i := zx p0) (Nat.lt_succ_of_lt (zx_lt p0))).mem_iff.mpr (List.mem_append_left _ (sub_ix (E := commonW h0 ad cA (za 4) (zgc za) S.1 ++ zoneW (za (zx p0)) (zad (zx p0)) (zcA (zx p0)) (S.2 (zx p0))) [0, 5, 13, 25] rfl q hq))) (fun q hq => TX_sel (i := zx p0) (Nat.lt_succ_of_lt (zx_lt p0)) q (sub_ix (E := commonT cA ++ zoneT (zcA (zx p0))) [2] rfl q hq)))) rfl⟩
    · rename_i hf
      cases h
      exact Or.inr ⟨rfl, rfl, rfl, by decide, tw_stretch_2 l dC dI p0 p1 (metT_mono (t_ZF_stretch l hno dC dI h0 (ad 0) (ad 1) (ad 2) (za 4) (ad 3) (ad 4) (ad 5) (za (zx p0)) (zad (zx p0) 0) (zad (zx p0) 1) (zad (zx p0) 2) (zad (zx p0) 3) (zad (zx p0) 4) (zad (zx p0) 5) (zad (zx p0) 6) (zad (zx p0) 7) (zad (zx p0) 8) (zad (zx p0) 9) (zad (zx p0) 10) (zad (zx p0) 12) (zad (zx p0) 13) (zad (zx p0) 14) (cA 2) nf p0 p1 S.1.2.2.2.2.2.2.1 S.1.2.2.2.2.2.2.2.1 (zgc za) ((S.2 (zx p0)).1) ((S.2 (zx p0)).2.1) ((S.2 (zx p0)).2.2.1) ((S.2 (zx p0)).2.2.2.1) ((S.2 (zx p0)).2.2.2.2.1) ((S.2 (zx p0)).2.2.2.2.2.1) ((S.2 (zx p0)).2.2.2.2.2.2.2.2.2.2.2.2.2.2.2.2.2.2.1) ((S.2 (zx p0)).2.2.2.2.2.2.2.2.2.2.2.2.2.2.2.2.2.2.2.1) ((S.2 (zx p0)).2.2.2.2.2.2.2.2.2.2.2.2.2.2.2.2.2.2.2.2.1) ((S.2 (zx p0)).2.2.2.2.2.2.2.2.2.2.2.2.2.2.2.2.2.2.2.2.2.1) ((S.2 (zx p0)).2.2.2.2.2.2.2.2.2.2.2.2.2.2.2.2.2.2.2.2.2.2.1) ((S.2 (zx p0)).2.2.2.2.2.2.2.2.2.2.2.2.2.2.2.2.2.2.2.2.2.2.2.1) ((S.2 (zx p0)).2.2.2.2.2.2.2.2.2.2.2.2.2.2.2.2.2.2.2.2.2.2.2.2.1) ((S.2 (zx p0)).2.2.2.2.2.2.2.2.2.2.2.2.2.2.2.2.2.2.2.2.2.2.2.2.2.1) ((S.2 (zx p0)).2.2.2.2.2.2.2.2.2.2.2.2.2.2.2.2.2.2.2.2.2.2.2.2.2.2.1) hf (zgc_at za p0)) (rox_sub (fun q hq => (WX_sel (i := zx p0) (Nat.lt_succ_of_lt (zx_lt p0))).mem_iff.mpr (List.mem_append_left _ (sub_ix (E := commonW h0 ad cA (za 4) (zgc za) S.1 ++ zoneW (za (zx p0)) (zad (zx p0)) (zcA (zx p0)) (S.2 (zx p0))) [0, 5, 13, 25] rfl q hq))) (fun q hq => TX_sel (i := zx p0) (Nat.lt_succ_of_lt (zx_lt p0)) q (sub_ix (E := commonT cA ++ zoneT (zcA (zx p0))) [2] rfl q hq)))) rfl⟩
    · rename_i hf
      cases h
      exact Or.inr ⟨rfl, rfl, rfl, by decide, tw_stretch_3 l dC dI p0 p1 (metT_mono (t_ZF_stretch l hno dC dI h0 (ad 0) (ad 1) (ad 2) (za 4) (ad 3) (ad 4) (ad 5) (za (zx p0)) (zad (zx p0) 0) (zad (zx p0) 1) (zad (zx p0) 2) (zad (zx p0) 3) (zad (zx p0) 4) (zad (zx p0) 5) (zad (zx p0) 6) (zad (zx p0) 7) (zad (zx p0) 8) (zad (zx p0) 9) (zad (zx p0) 10) (zad (zx p0) 12) (zad (zx p0) 13) (zad (zx p0) 14) (cA 2) nf p0 p1 S.1.2.2.2.2.2.2.1 S.1.2.2.2.2.2.2.2.1 (zgc za) ((S.2 (zx p0)).1) ((S.2 (zx p0)).2.1) ((S.2 (zx p0)).2.2.1) ((S.2 (zx p0)).2.2.2.1) ((S.2 (zx p0)).2.2.2.2.1) ((S.2 (zx p0)).2.2.2.2.2.1) ((S.2 (zx p0)).2.2.2.2.2.2.2.2.2.2.2.2.2.2.2.2.2.2.1) ((S.2 (zx p0)).2.2.2.2.2.2.2.2.2.2.2.2.2.2.2.2.2.2.2.1) ((S.2 (zx p0)).2.2.2.2.2.2.2.2.2.2.2.2.2.2.2.2.2.2.2.2.1) ((S.2 (zx p0)).2.2.2.2.2.2.2.2.2.2.2.2.2.2.2.2.2.2.2.2.2.1) ((S.2 (zx p0)).2.2.2.2.2.2.2.2.2.2.2.2.2.2.2.2.2.2.2.2.2.2.1) ((S.2 (zx p0)).2.2.2.2.2.2.2.2.2.2.2.2.2.2.2.2.2.2.2.2.2.2.2.1) ((S.2 (zx p0)).2.2.2.2.2.2.2.2.2.2.2.2.2.2.2.2.2.2.2.2.2.2.2.2.1) ((S.2 (zx p0)).2.2.2.2.2.2.2.2.2.2.2.2.2.2.2.2.2.2.2.2.2.2.2.2.2.1) ((S.2 (zx p0)).2.2.2.2.2.2.2.2.2.2.2.2.2.2.2.2.2.2.2.2.2.2.2.2.2.2.1) hf (zgc_at za p0)) (rox_sub (fun q hq => (WX_sel (i := zx p0) (Nat.lt_succ_of_lt (zx_lt p0))).mem_iff.mpr (List.mem_append_left _ (sub_ix (E := commonW h0 ad cA (za 4) (zgc za) S.1 ++ zoneW (za (zx p0)) (zad (zx p0)) (zcA (zx p0)) (S.2 (zx p0))) [0, 5, 13, 25] rfl q hq))) (fun q hq => TX_sel (i := zx p0) (Nat.lt_succ_of_lt (zx_lt p0)) q (sub_ix (E := commonT cA ++ zoneT (zcA (zx p0))) [2] rfl q hq)))) rfl⟩
    · exact absurd h (by simp)
def cq_write (nf : Nat) (S : CS) (p0 : Int32) (p1 : Int32) : Option (Int32 × Int64 × CS × Nat × Nat) :=
  match (f_ZF_write nf p0 p1 S.1.2.2.2.1 S.1.2.2.2.2.1 S.1.2.2.2.2.2.1 (S.2 (zx p0)).2.1 (S.2 (zx p0)).2.2.1 (S.2 (zx p0)).2.2.2.1 (S.2 (zx p0)).2.2.2.2.1 (S.2 (zx p0)).2.2.2.2.2.1 (S.2 (zx p0)).2.2.2.2.2.2.1 (S.2 (zx p0)).2.2.2.2.2.2.2.1 (S.2 (zx p0)).2.2.2.2.2.2.2.2.1 (S.2 (zx p0)).2.2.2.2.2.2.2.2.2.1 (S.2 (zx p0)).2.2.2.2.2.2.2.2.2.2.1 (S.2 (zx p0)).2.2.2.2.2.2.2.2.2.2.2.1 (S.2 (zx p0)).2.2.2.2.2.2.2.2.2.2.2.2.1 (S.2 (zx p0)).2.2.2.2.2.2.2.2.2.2.2.2.2.1 (S.2 (zx p0)).2.2.2.2.2.2.2.2.2.2.2.2.2.2.1 (S.2 (zx p0)).2.2.2.2.2.2.2.2.2.2.2.2.2.2.2.1 (S.2 (zx p0)).2.2.2.2.2.2.2.2.2.2.2.2.2.2.2.2.1 (S.2 (zx p0)).2.2.2.2.2.2.2.2.2.2.2.2.2.2.2.2.2.1 (S.2 (zx p0)).2.2.2.2.2.2.2.2.2.2.2.2.2.2.2.2.2.2.2.1 (S.2 (zx p0)).2.2.2.2.2.2.2.2.2.2.2.2.2.2.2.2.2.2.2.2.2.2.2.2.2.2.2.1 (S.2 (zx p0)).2.2.2.2.2.2.2.2.2.2.2.2.2.2.2.2.2.2.2.2.2.2.2.2.2.2.2.2.1 (S.2 (zx p0)).2.2.2.2.2.2.2.2.2.2.2.2.2.2.2.2.2.2.2.2.2.2.2.2.2.2.2.2.2.1) with
  | some ((r0, v1_1, v2_n, v2_a), kc, ks) => some (0, r0.toInt64, ((S.1.1, S.1.2.1, S.1.2.2.1, v1_1, v2_n, v2_a, S.1.2.2.2.2.2.2.1, S.1.2.2.2.2.2.2.2.1, S.1.2.2.2.2.2.2.2.2.1, S.1.2.2.2.2.2.2.2.2.2.1, S.1.2.2.2.2.2.2.2.2.2.2.1, S.1.2.2.2.2.2.2.2.2.2.2.2.1, S.1.2.2.2.2.2.2.2.2.2.2.2.2.1, S.1.2.2.2.2.2.2.2.2.2.2.2.2.2.1, S.1.2.2.2.2.2.2.2.2.2.2.2.2.2.2.1, S.1.2.2.2.2.2.2.2.2.2.2.2.2.2.2.2.1, S.1.2.2.2.2.2.2.2.2.2.2.2.2.2.2.2.2), S.2), kc, ks)
  | none =>
  match (g_ZF_write nf p0 p1 ((S.2 (zx p0)).2.1) ((S.2 (zx p0)).2.2.2.1) ((S.2 (zx p0)).2.2.2.2.2.2.1) ((S.2 (zx p0)).2.2.2.2.2.2.2.2.2.2.2.2.2.2.2.2.1) ((S.2 (zx p0)).2.2.2.2.2.2.2.2.2.2.2.2.2.2.2.2.2.2.2.1)) with
  | some 1 => some (1, 0, S, 1, 6)
  | some 2 => some (2, 0, S, 1, 6)
  | some 3 => some (3, 0, S, 1, 6)
  | _ => none
set_option maxRecDepth 100000 in
set_option maxHeartbeats 1000000 in
theorem q_write (l : Launch) (hno : NT l) (dC : Nat → ClassId) (dI : Nat → Nat → Nat) (h0 : Nat) (ad : Nat → Nat) (cA : Nat → ClassId) (za : Nat → Nat) (zad : Nat → Nat → Nat) (zcA : Nat → Nat → ClassId) (S : CS) (nf : Nat) (p0 : Int32) (p1 : Int32) {k : Int32} {ans : Int64} {S' : CS} {kc ks : Nat} (h : cq_write nf S p0 p1 = some (k, ans, S', kc, ks)) (o : Nat) (cO : ClassId) (f : Nat → Int64) :
    (k = 0 ∧ OM l y_LW_write (wdW y_LW_write b_LW_write 5 (some .int) [(0, 10, 13, 19), (0, 10, 17, 13), (0, 10, 21, 54)]) ({ frames := 8, cells := kc, slots := ks, locals := 173 }) dC dI (oC o cO f :: WX h0 ad cA za zad zcA S) ((cO, .long) :: TX cA zcA) [.ref h0, .int p0, .int p1, .ref o] (some (.int 0)) (oF (CW h0 S') o cO f (TX cA zcA) ans) kc ks) ∨
    (kc = 1 ∧ ks = 6 ∧ S' = S ∧ k ≠ 0 ∧ Met l y_LW_write (wdW y_LW_write b_LW_write 5 (some .int) [(0, 10, 13, 19), (0, 10, 17, 13), (0, 10, 21, 54)]) ({ frames := 8, cells := 1, slots := 6, locals := 143 }) (ROX dC dI (WX h0 ad cA za zad zcA S) (TX cA zcA) [.ref h0, .int p0, .int p1, .ref o]) (MV (some (.int k)) (fun _ => True) (fun _ => False)) 1 6 (fun _ => False)) := by
  unfold cq_write at h
  split at h
  · rename_i hf
    cases h
    exact Or.inl ⟨rfl, cw_write l dC dI p0 p1 (lift_z0 (i := zx p0) (zad := zad) (zcA := zcA) (Nat.lt_succ_of_lt (zx_lt p0)) (o_ZF_write l dC dI h0 (za 4) ad cA (zgc za) S.1 (za (zx p0)) (zad (zx p0)) (zcA (zx p0)) (S.2 (zx p0)) nf p0 p1 hf (zgc_at za p0))) rfl⟩
  · split at h
    · rename_i hf
      cases h
      exact Or.inr ⟨rfl, rfl, rfl, by decide, tw_write_1 l dC dI p0 p1 (metT_mono (t_ZF_write l hno dC dI h0 (ad 0) (ad 1) (ad 2) (za 4) (ad 3) (ad 4) (ad 5) (za (zx p0)) (zad (zx p0) 0) (zad (zx p0) 1) (zad (zx p0) 2) (zad (zx p0) 3) (zad (zx p0) 4) (zad (zx p0) 5) (zad (zx p0) 6) (zad (zx p0) 7) (zad (zx p0) 8) (zad (zx p0) 9) (zad (zx p0) 10) (zad (zx p0) 12) (zad (zx p0) 13) (zad (zx p0) 14) (cA 2) (zcA (zx p0) 0) (zcA (zx p0) 8) nf p0 p1 S.1.2.2.2.2.2.2.1 S.1.2.2.2.2.2.2.2.1 (zgc za) ((S.2 (zx p0)).1) ((S.2 (zx p0)).2.1) ((S.2 (zx p0)).2.2.1) ((S.2 (zx p0)).2.2.2.1) ((S.2 (zx p0)).2.2.2.2.1) ((S.2 (zx p0)).2.2.2.2.2.1) ((S.2 (zx p0)).2.2.2.2.2.2.1) ((S.2 (zx p0)).2.2.2.2.2.2.2.2.2.2.2.2.2.2.2.2.1) ((S.2 (zx p0)).2.2.2.2.2.2.2.2.2.2.2.2.2.2.2.2.2.2.1) ((S.2 (zx p0)).2.2.2.2.2.2.2.2.2.2.2.2.2.2.2.2.2.2.2.1) ((S.2 (zx p0)).2.2.2.2.2.2.2.2.2.2.2.2.2.2.2.2.2.2.2.2.1) ((S.2 (zx p0)).2.2.2.2.2.2.2.2.2.2.2.2.2.2.2.2.2.2.2.2.2.1) ((S.2 (zx p0)).2.2.2.2.2.2.2.2.2.2.2.2.2.2.2.2.2.2.2.2.2.2.1) ((S.2 (zx p0)).2.2.2.2.2.2.2.2.2.2.2.2.2.2.2.2.2.2.2.2.2.2.2.1) ((S.2 (zx p0)).2.2.2.2.2.2.2.2.2.2.2.2.2.2.2.2.2.2.2.2.2.2.2.2.1) ((S.2 (zx p0)).2.2.2.2.2.2.2.2.2.2.2.2.2.2.2.2.2.2.2.2.2.2.2.2.2.1) ((S.2 (zx p0)).2.2.2.2.2.2.2.2.2.2.2.2.2.2.2.2.2.2.2.2.2.2.2.2.2.2.1) hf (zgc_at za p0)) (rox_sub (fun q hq => (WX_sel (i := zx p0) (Nat.lt_succ_of_lt (zx_lt p0))).mem_iff.mpr (List.mem_append_left _ (sub_ix (E := commonW h0 ad cA (za 4) (zgc za) S.1 ++ zoneW (za (zx p0)) (zad (zx p0)) (zcA (zx p0)) (S.2 (zx p0))) [0, 5, 13, 14, 23, 25] rfl q hq))) (fun q hq => TX_sel (i := zx p0) (Nat.lt_succ_of_lt (zx_lt p0)) q (sub_ix (E := commonT cA ++ zoneT (zcA (zx p0))) [2, 8, 16] rfl q hq)))) rfl⟩
    · rename_i hf
      cases h
      exact Or.inr ⟨rfl, rfl, rfl, by decide, tw_write_2 l dC dI p0 p1 (metT_mono (t_ZF_write l hno dC dI h0 (ad 0) (ad 1) (ad 2) (za 4) (ad 3) (ad 4) (ad 5) (za (zx p0)) (zad (zx p0) 0) (zad (zx p0) 1) (zad (zx p0) 2) (zad (zx p0) 3) (zad (zx p0) 4) (zad (zx p0) 5) (zad (zx p0) 6) (zad (zx p0) 7) (zad (zx p0) 8) (zad (zx p0) 9) (zad (zx p0) 10) (zad (zx p0) 12) (zad (zx p0) 13) (zad (zx p0) 14) (cA 2) (zcA (zx p0) 0) (zcA (zx p0) 8) nf p0 p1 S.1.2.2.2.2.2.2.1 S.1.2.2.2.2.2.2.2.1 (zgc za) ((S.2 (zx p0)).1) ((S.2 (zx p0)).2.1) ((S.2 (zx p0)).2.2.1) ((S.2 (zx p0)).2.2.2.1) ((S.2 (zx p0)).2.2.2.2.1) ((S.2 (zx p0)).2.2.2.2.2.1) ((S.2 (zx p0)).2.2.2.2.2.2.1) ((S.2 (zx p0)).2.2.2.2.2.2.2.2.2.2.2.2.2.2.2.2.1) ((S.2 (zx p0)).2.2.2.2.2.2.2.2.2.2.2.2.2.2.2.2.2.2.1) ((S.2 (zx p0)).2.2.2.2.2.2.2.2.2.2.2.2.2.2.2.2.2.2.2.1) ((S.2 (zx p0)).2.2.2.2.2.2.2.2.2.2.2.2.2.2.2.2.2.2.2.2.1) ((S.2 (zx p0)).2.2.2.2.2.2.2.2.2.2.2.2.2.2.2.2.2.2.2.2.2.1) ((S.2 (zx p0)).2.2.2.2.2.2.2.2.2.2.2.2.2.2.2.2.2.2.2.2.2.2.1) ((S.2 (zx p0)).2.2.2.2.2.2.2.2.2.2.2.2.2.2.2.2.2.2.2.2.2.2.2.1) ((S.2 (zx p0)).2.2.2.2.2.2.2.2.2.2.2.2.2.2.2.2.2.2.2.2.2.2.2.2.1) ((S.2 (zx p0)).2.2.2.2.2.2.2.2.2.2.2.2.2.2.2.2.2.2.2.2.2.2.2.2.2.1) ((S.2 (zx p0)).2.2.2.2.2.2.2.2.2.2.2.2.2.2.2.2.2.2.2.2.2.2.2.2.2.2.1) hf (zgc_at za p0)) (rox_sub (fun q hq => (WX_sel (i := zx p0) (Nat.lt_succ_of_lt (zx_lt p0))).mem_iff.mpr (List.mem_append_left _ (sub_ix (E := commonW h0 ad cA (za 4) (zgc za) S.1 ++ zoneW (za (zx p0)) (zad (zx p0)) (zcA (zx p0)) (S.2 (zx p0))) [0, 5, 13, 14, 23, 25] rfl q hq))) (fun q hq => TX_sel (i := zx p0) (Nat.lt_succ_of_lt (zx_lt p0)) q (sub_ix (E := commonT cA ++ zoneT (zcA (zx p0))) [2, 8, 16] rfl q hq)))) rfl⟩
    · rename_i hf
      cases h
      exact Or.inr ⟨rfl, rfl, rfl, by decide, tw_write_3 l dC dI p0 p1 (metT_mono (t_ZF_write l hno dC dI h0 (ad 0) (ad 1) (ad 2) (za 4) (ad 3) (ad 4) (ad 5) (za (zx p0)) (zad (zx p0) 0) (zad (zx p0) 1) (zad (zx p0) 2) (zad (zx p0) 3) (zad (zx p0) 4) (zad (zx p0) 5) (zad (zx p0) 6) (zad (zx p0) 7) (zad (zx p0) 8) (zad (zx p0) 9) (zad (zx p0) 10) (zad (zx p0) 12) (zad (zx p0) 13) (zad (zx p0) 14) (cA 2) (zcA (zx p0) 0) (zcA (zx p0) 8) nf p0 p1 S.1.2.2.2.2.2.2.1 S.1.2.2.2.2.2.2.2.1 (zgc za) ((S.2 (zx p0)).1) ((S.2 (zx p0)).2.1) ((S.2 (zx p0)).2.2.1) ((S.2 (zx p0)).2.2.2.1) ((S.2 (zx p0)).2.2.2.2.1) ((S.2 (zx p0)).2.2.2.2.2.1) ((S.2 (zx p0)).2.2.2.2.2.2.1) ((S.2 (zx p0)).2.2.2.2.2.2.2.2.2.2.2.2.2.2.2.2.1) ((S.2 (zx p0)).2.2.2.2.2.2.2.2.2.2.2.2.2.2.2.2.2.2.1) ((S.2 (zx p0)).2.2.2.2.2.2.2.2.2.2.2.2.2.2.2.2.2.2.2.1) ((S.2 (zx p0)).2.2.2.2.2.2.2.2.2.2.2.2.2.2.2.2.2.2.2.2.1) ((S.2 (zx p0)).2.2.2.2.2.2.2.2.2.2.2.2.2.2.2.2.2.2.2.2.2.1) ((S.2 (zx p0)).2.2.2.2.2.2.2.2.2.2.2.2.2.2.2.2.2.2.2.2.2.2.1) ((S.2 (zx p0)).2.2.2.2.2.2.2.2.2.2.2.2.2.2.2.2.2.2.2.2.2.2.2.1) ((S.2 (zx p0)).2.2.2.2.2.2.2.2.2.2.2.2.2.2.2.2.2.2.2.2.2.2.2.2.1) ((S.2 (zx p0)).2.2.2.2.2.2.2.2.2.2.2.2.2.2.2.2.2.2.2.2.2.2.2.2.2.1) ((S.2 (zx p0)).2.2.2.2.2.2.2.2.2.2.2.2.2.2.2.2.2.2.2.2.2.2.2.2.2.2.1) hf (zgc_at za p0)) (rox_sub (fun q hq => (WX_sel (i := zx p0) (Nat.lt_succ_of_lt (zx_lt p0))).mem_iff.mpr (List.mem_append_left _ (sub_ix (E := commonW h0 ad cA (za 4) (zgc za) S.1 ++ zoneW (za (zx p0)) (zad (zx p0)) (zcA (zx p0)) (S.2 (zx p0))) [0, 5, 13, 14, 23, 25] rfl q hq))) (fun q hq => TX_sel (i := zx p0) (Nat.lt_succ_of_lt (zx_lt p0)) q (sub_ix (E := commonT cA ++ zoneT (zcA (zx p0))) [2, 8, 16] rfl q hq)))) rfl⟩
    · exact absurd h (by simp)
def cq_out (nf : Nat) (S : CS) (p0 : Int32) : Option (Int32 × Int64 × CS × Nat × Nat) :=
  match (f_ZF_out nf p0 S.1.2.2.2.1 S.1.2.2.2.2.1 S.1.2.2.2.2.2.1) with
  | some r0 => some (0, r0.toInt64, S, 0, 0)
  | none =>
  match (g_ZF_out nf p0 S.1.2.2.2.1) with
  | some 1 => some (1, 0, S, 1, 6)
  | _ => none
set_option maxRecDepth 100000 in
set_option maxHeartbeats 1000000 in
theorem q_out (l : Launch) (hno : NT l) (dC : Nat → ClassId) (dI : Nat → Nat → Nat) (h0 : Nat) (ad : Nat → Nat) (cA : Nat → ClassId) (za : Nat → Nat) (zad : Nat → Nat → Nat) (zcA : Nat → Nat → ClassId) (S : CS) (nf : Nat) (p0 : Int32) {k : Int32} {ans : Int64} {S' : CS} {kc ks : Nat} (h : cq_out nf S p0 = some (k, ans, S', kc, ks)) (o : Nat) (cO : ClassId) (f : Nat → Int64) :
    (k = 0 ∧ OM l y_LW_out (wdW y_LW_out b_LW_out 4 (some .int) [(0, 9, 12, 19)]) ({ frames := 2, cells := kc, slots := ks, locals := 42 }) dC dI (oC o cO f :: WX h0 ad cA za zad zcA S) ((cO, .long) :: TX cA zcA) [.ref h0, .int p0, .ref o] (some (.int 0)) (oF (CW h0 S') o cO f (TX cA zcA) ans) kc ks) ∨
    (kc = 1 ∧ ks = 6 ∧ S' = S ∧ k ≠ 0 ∧ Met l y_LW_out (wdW y_LW_out b_LW_out 4 (some .int) [(0, 9, 12, 19)]) ({ frames := 8, cells := 1, slots := 6, locals := 142 }) (ROX dC dI (WX h0 ad cA za zad zcA S) (TX cA zcA) [.ref h0, .int p0, .ref o]) (MV (some (.int k)) (fun _ => True) (fun _ => False)) 1 6 (fun _ => False)) := by
  unfold cq_out at h
  split at h
  · rename_i hf
    cases h
    exact Or.inl ⟨rfl, cw_out l dC dI p0 (lift_c (zad := zad) (zcA := zcA) (o_ZF_out l dC dI h0 (za 4) ad cA (zgc za) S.1 nf p0 hf)) rfl⟩
  · split at h
    · rename_i hf
      cases h
      exact Or.inr ⟨rfl, rfl, rfl, by decide, tw_out_1 l dC dI p0 (metT_mono (t_ZF_out l hno dC dI h0 (ad 0) (ad 1) (ad 2) (za 4) (ad 3) (ad 4) (ad 5) (ad 7) nf p0 S.1.2.2.2.2.2.2.1 S.1.2.2.2.2.2.2.2.1 S.1.2.2.2.1 hf) (rox_sub (fun q hq => List.mem_append_left _ (sub_ix (E := commonW h0 ad cA (za 4) (zgc za) S.1) [0, 3] rfl q hq)) (fun q hq => List.mem_append_left _ (sub_ix (E := commonT cA) [] rfl q hq)))) rfl⟩
    · exact absurd h (by simp)
def cq_told (nf : Nat) (S : CS) (p0 : Int32) : Option (Int32 × Int64 × CS × Nat × Nat) :=
  match (f_ZF_told nf p0 S.1.2.2.2.2.2.2.2.2.2.1 S.1.2.2.2.2.2.2.2.2.2.2.1) with
  | some r0 => some (0, r0, S, 0, 0)
  | none =>
  match (g_ZF_told nf p0 S.1.2.2.2.2.2.2.2.2.2.1) with
  | some 1 => some (1, 0, S, 1, 6)
  | some 3 => some (2, 0, S, 1, 6)
  | _ => none
set_option maxRecDepth 100000 in
set_option maxHeartbeats 1000000 in
theorem q_told (l : Launch) (hno : NT l) (dC : Nat → ClassId) (dI : Nat → Nat → Nat) (h0 : Nat) (ad : Nat → Nat) (cA : Nat → ClassId) (za : Nat → Nat) (zad : Nat → Nat → Nat) (zcA : Nat → Nat → ClassId) (S : CS) (nf : Nat) (p0 : Int32) {k : Int32} {ans : Int64} {S' : CS} {kc ks : Nat} (h : cq_told nf S p0 = some (k, ans, S', kc, ks)) (o : Nat) (cO : ClassId) (f : Nat → Int64) :
    (k = 0 ∧ OM l y_LW_told (wdW y_LW_told b_LW_told 4 (some .int) [(0, 8, 11, 19), (0, 8, 14, 54)]) ({ frames := 2, cells := kc, slots := ks, locals := 42 }) dC dI (oC o cO f :: WX h0 ad cA za zad zcA S) ((cO, .long) :: TX cA zcA) [.ref h0, .int p0, .ref o] (some (.int 0)) (oF (CW h0 S') o cO f (TX cA zcA) ans) kc ks) ∨
    (kc = 1 ∧ ks = 6 ∧ S' = S ∧ k ≠ 0 ∧ Met l y_LW_told (wdW y_LW_told b_LW_told 4 (some .int) [(0, 8, 11, 19), (0, 8, 14, 54)]) ({ frames := 8, cells := 1, slots := 6, locals := 142 }) (ROX dC dI (WX h0 ad cA za zad zcA S) (TX cA zcA) [.ref h0, .int p0, .ref o]) (MV (some (.int k)) (fun _ => True) (fun _ => False)) 1 6 (fun _ => False)) := by
  unfold cq_told at h
  split at h
  · rename_i hf
    cases h
    exact Or.inl ⟨rfl, cw_told l dC dI p0 (lift_c (zad := zad) (zcA := zcA) (o_ZF_told l dC dI h0 (za 4) ad cA (zgc za) S.1 nf p0 hf)) rfl⟩
  · split at h
    · rename_i hf
      cases h
      exact Or.inr ⟨rfl, rfl, rfl, by decide, tw_told_1 l dC dI p0 (metT_mono (t_ZF_told l hno dC dI h0 (ad 0) (ad 1) (ad 2) (za 4) (ad 3) (ad 4) (ad 5) (ad 8) (ad 9) nf p0 S.1.2.2.2.2.2.2.1 S.1.2.2.2.2.2.2.2.1 S.1.2.2.2.2.2.2.2.2.2.1 S.1.2.2.2.2.2.2.2.2.2.2.1 hf) (rox_sub (fun q hq => List.mem_append_left _ (sub_ix (E := commonW h0 ad cA (za 4) (zgc za) S.1) [0, 7] rfl q hq)) (fun q hq => List.mem_append_left _ (sub_ix (E := commonT cA) [] rfl q hq)))) rfl⟩
    · rename_i hf
      cases h
      exact Or.inr ⟨rfl, rfl, rfl, by decide, tw_told_3 l dC dI p0 (metT_mono (t_ZF_told l hno dC dI h0 (ad 0) (ad 1) (ad 2) (za 4) (ad 3) (ad 4) (ad 5) (ad 8) (ad 9) nf p0 S.1.2.2.2.2.2.2.1 S.1.2.2.2.2.2.2.2.1 S.1.2.2.2.2.2.2.2.2.2.1 S.1.2.2.2.2.2.2.2.2.2.2.1 hf) (rox_sub (fun q hq => List.mem_append_left _ (sub_ix (E := commonW h0 ad cA (za 4) (zgc za) S.1) [0, 7] rfl q hq)) (fun q hq => List.mem_append_left _ (sub_ix (E := commonT cA) [] rfl q hq)))) rfl⟩
    · exact absurd h (by simp)
def cq_row (nf : Nat) (S : CS) (p0 : Int32) (p1 : Int32) : Option (Int32 × Int64 × CS × Nat × Nat) :=
  match (f_ZF_row nf p0 p1 S.1.2.2.2.2.2.2.2.2.2.1 S.1.2.2.2.2.2.2.2.2.2.2.2.1 S.1.2.2.2.2.2.2.2.2.2.2.2.2.1) with
  | some r0 => some (0, r0, S, 0, 0)
  | none =>
  match (g_ZF_row nf p0 p1 S.1.2.2.2.2.2.2.2.2.2.1) with
  | some 1 => some (1, 0, S, 1, 6)
  | _ => none
set_option maxRecDepth 100000 in
set_option maxHeartbeats 1000000 in
theorem q_row (l : Launch) (hno : NT l) (dC : Nat → ClassId) (dI : Nat → Nat → Nat) (h0 : Nat) (ad : Nat → Nat) (cA : Nat → ClassId) (za : Nat → Nat) (zad : Nat → Nat → Nat) (zcA : Nat → Nat → ClassId) (S : CS) (nf : Nat) (p0 : Int32) (p1 : Int32) {k : Int32} {ans : Int64} {S' : CS} {kc ks : Nat} (h : cq_row nf S p0 p1 = some (k, ans, S', kc, ks)) (o : Nat) (cO : ClassId) (f : Nat → Int64) :
    (k = 0 ∧ OM l y_LW_row (wdW y_LW_row b_LW_row 5 (some .int) [(0, 9, 12, 19)]) ({ frames := 2, cells := kc, slots := ks, locals := 43 }) dC dI (oC o cO f :: WX h0 ad cA za zad zcA S) ((cO, .long) :: TX cA zcA) [.ref h0, .int p0, .int p1, .ref o] (some (.int 0)) (oF (CW h0 S') o cO f (TX cA zcA) ans) kc ks) ∨
    (kc = 1 ∧ ks = 6 ∧ S' = S ∧ k ≠ 0 ∧ Met l y_LW_row (wdW y_LW_row b_LW_row 5 (some .int) [(0, 9, 12, 19)]) ({ frames := 8, cells := 1, slots := 6, locals := 143 }) (ROX dC dI (WX h0 ad cA za zad zcA S) (TX cA zcA) [.ref h0, .int p0, .int p1, .ref o]) (MV (some (.int k)) (fun _ => True) (fun _ => False)) 1 6 (fun _ => False)) := by
  unfold cq_row at h
  split at h
  · rename_i hf
    cases h
    exact Or.inl ⟨rfl, cw_row l dC dI p0 p1 (lift_c (zad := zad) (zcA := zcA) (o_ZF_row l dC dI h0 (za 4) ad cA (zgc za) S.1 nf p0 p1 hf)) rfl⟩
  · split at h
    · rename_i hf
      cases h
      exact Or.inr ⟨rfl, rfl, rfl, by decide, tw_row_1 l dC dI p0 p1 (metT_mono (t_ZF_row l hno dC dI h0 (ad 0) (ad 1) (ad 2) (za 4) (ad 3) (ad 4) (ad 5) (ad 8) (ad 9) nf p0 p1 S.1.2.2.2.2.2.2.1 S.1.2.2.2.2.2.2.2.1 S.1.2.2.2.2.2.2.2.2.2.1 S.1.2.2.2.2.2.2.2.2.2.2.1 hf) (rox_sub (fun q hq => List.mem_append_left _ (sub_ix (E := commonW h0 ad cA (za 4) (zgc za) S.1) [0, 7] rfl q hq)) (fun q hq => List.mem_append_left _ (sub_ix (E := commonT cA) [] rfl q hq)))) rfl⟩
    · exact absurd h (by simp)
def cq_table (nf : Nat) (S : CS) : Option (Int32 × CS × Nat × Nat) :=
  match (f_ZF_tableOk nf S.1.1 S.1.2.1 S.1.2.2.1 S.1.2.2.2.2.2.2.2.2.2.2.2.2.2.1 S.1.2.2.2.2.2.2.2.2.2.2.2.2.2.2.1 S.1.2.2.2.2.2.2.2.2.2.2.2.2.2.2.2.1 S.1.2.2.2.2.2.2.2.2.2.2.2.2.2.2.2.2) with
  | some ((r0, v1_1, v3_0, v3_3, v4_a, v5_a), kc, ks) => some (r0, ((v1_1, S.1.2.1, S.1.2.2.1, S.1.2.2.2.1, S.1.2.2.2.2.1, S.1.2.2.2.2.2.1, S.1.2.2.2.2.2.2.1, S.1.2.2.2.2.2.2.2.1, S.1.2.2.2.2.2.2.2.2.1, v3_0, v3_3, v4_a, v5_a, S.1.2.2.2.2.2.2.2.2.2.1, S.1.2.2.2.2.2.2.2.2.2.2.1, S.1.2.2.2.2.2.2.2.2.2.2.2.1, S.1.2.2.2.2.2.2.2.2.2.2.2.2.1), S.2), kc, ks)
  | none =>
  match (f_ZF_tableNo nf S.1.2.2.2.2.2.2.2.1 S.1.1 S.1.2.1 S.1.2.2.1 S.1.2.2.2.2.2.2.2.2.2.2.2.2.2.1 S.1.2.2.2.2.2.2.2.2.2.2.2.2.2.2.1 S.1.2.2.2.2.2.2.2.2.2.2.2.2.2.2.2.1 S.1.2.2.2.2.2.2.2.2.2.2.2.2.2.2.2.2) with
  | some ((r0, v0_8, v1_1, v3_0, v3_3, v4_a, v5_a), kc, ks) => some (r0, ((v1_1, S.1.2.1, S.1.2.2.1, S.1.2.2.2.1, S.1.2.2.2.2.1, S.1.2.2.2.2.2.1, S.1.2.2.2.2.2.2.1, v0_8, S.1.2.2.2.2.2.2.2.2.1, S.1.2.2.2.2.2.2.2.2.2.1, S.1.2.2.2.2.2.2.2.2.2.2.1, S.1.2.2.2.2.2.2.2.2.2.2.2.1, S.1.2.2.2.2.2.2.2.2.2.2.2.2.1, v3_0, v3_3, v4_a, v5_a), S.2), kc, ks)
  | none =>
  none
set_option maxRecDepth 100000 in
set_option maxHeartbeats 1000000 in
theorem q_table (l : Launch) (dC : Nat → ClassId) (dI : Nat → Nat → Nat) (h0 : Nat) (ad : Nat → Nat) (cA : Nat → ClassId) (za : Nat → Nat) (zad : Nat → Nat → Nat) (zcA : Nat → Nat → ClassId) (S : CS) (nf : Nat) {r : Int32} {S' : CS} {kc ks : Nat} (h : cq_table nf S = some (r, S', kc, ks)) : OM l y_ZF_tableNo (wd y_ZF_tableNo b_ZF_tableNo 4 (some .int)) ({ frames := 5, cells := kc, slots := ks, locals := 119 }) dC dI (WX h0 ad cA za zad zcA S) (TX cA zcA) [.ref h0] (some (.int r)) (CW h0 S') kc ks := by
  unfold cq_table at h
  split at h
  · rename_i hf
    cases h
    exact lift_c (zad := zad) (zcA := zcA) (o_ZF_tableOk l dC dI h0 (za 4) ad cA (zgc za) S.1 nf hf)
  · split at h
    · rename_i hf
      cases h
      exact lift_c (zad := zad) (zcA := zcA) (o_ZF_tableNo l dC dI h0 (za 4) ad cA (zgc za) S.1 nf hf)
    · exact absurd h (by simp)
def cq_place (nf : Nat) (S : CS) : Option (Int32 × CS × Nat × Nat) :=
  match (f_ZF_place nf S.1.2.2.2.2.2.2.2.1) with
  | some r0 => some (r0, S, 0, 0)
  | none =>
  none
set_option maxRecDepth 100000 in
set_option maxHeartbeats 1000000 in
theorem q_place (l : Launch) (dC : Nat → ClassId) (dI : Nat → Nat → Nat) (h0 : Nat) (ad : Nat → Nat) (cA : Nat → ClassId) (za : Nat → Nat) (zad : Nat → Nat → Nat) (zcA : Nat → Nat → ClassId) (S : CS) (nf : Nat) {r : Int32} {S' : CS} {kc ks : Nat} (h : cq_place nf S = some (r, S', kc, ks)) : OM l y_ZF_place (wd y_ZF_place b_ZF_place 1 (some .int)) ({ frames := 0, cells := kc, slots := ks, locals := 0 }) dC dI (WX h0 ad cA za zad zcA S) (TX cA zcA) [.ref h0] (some (.int r)) (CW h0 S') kc ks := by
  unfold cq_place at h
  split at h
  · rename_i hf
    cases h
    exact lift_c (zad := zad) (zcA := zcA) (o_ZF_place l dC dI h0 (za 4) ad cA (zgc za) S.1 nf hf)
  · exact absurd h (by simp)
def cq_again (nf : Nat) (S : CS) : Option (Int32 × CS × Nat × Nat) :=
  match (f_ZF_again nf S.1.1 S.1.2.1 S.1.2.2.1 S.1.2.2.2.1 S.1.2.2.2.2.1 S.1.2.2.2.2.2.1) with
  | some ((r0, v1_1, v2_n, v2_a), kc, ks) => some (r0, ((v1_1, v2_n, v2_a, S.1.2.2.2.1, S.1.2.2.2.2.1, S.1.2.2.2.2.2.1, S.1.2.2.2.2.2.2.1, S.1.2.2.2.2.2.2.2.1, S.1.2.2.2.2.2.2.2.2.1, S.1.2.2.2.2.2.2.2.2.2.1, S.1.2.2.2.2.2.2.2.2.2.2.1, S.1.2.2.2.2.2.2.2.2.2.2.2.1, S.1.2.2.2.2.2.2.2.2.2.2.2.2.1, S.1.2.2.2.2.2.2.2.2.2.2.2.2.2.1, S.1.2.2.2.2.2.2.2.2.2.2.2.2.2.2.1, S.1.2.2.2.2.2.2.2.2.2.2.2.2.2.2.2.1, S.1.2.2.2.2.2.2.2.2.2.2.2.2.2.2.2.2), S.2), kc, ks)
  | none =>
  none
set_option maxRecDepth 100000 in
set_option maxHeartbeats 1000000 in
theorem q_again (l : Launch) (dC : Nat → ClassId) (dI : Nat → Nat → Nat) (h0 : Nat) (ad : Nat → Nat) (cA : Nat → ClassId) (za : Nat → Nat) (zad : Nat → Nat → Nat) (zcA : Nat → Nat → ClassId) (S : CS) (nf : Nat) {r : Int32} {S' : CS} {kc ks : Nat} (h : cq_again nf S = some (r, S', kc, ks)) : OM l y_ZF_again (wd y_ZF_again b_ZF_again 1 (some .int)) ({ frames := 4, cells := kc, slots := ks, locals := 86 }) dC dI (WX h0 ad cA za zad zcA S) (TX cA zcA) [.ref h0] (some (.int r)) (CW h0 S') kc ks := by
  unfold cq_again at h
  split at h
  · rename_i hf
    cases h
    exact lift_c (zad := zad) (zcA := zcA) (o_ZF_again l dC dI h0 (za 4) ad cA (zgc za) S.1 nf hf)
  · exact absurd h (by simp)
def cq_atomic (nf : Nat) (S : CS) (p0 : Int64) : Option (Int64 × CS × Nat × Nat) :=
  match (f_ZF_atomic nf p0 S.1.2.2.2.2.2.2.2.2.2.1 S.1.2.2.2.2.2.2.2.2.2.2.1 S.1.2.2.2.2.2.2.2.2.2.2.2.1 S.1.2.2.2.2.2.2.2.2.2.2.2.2.1) with
  | some r0 => some (r0, S, 0, 0)
  | none =>
  none
set_option maxRecDepth 100000 in
set_option maxHeartbeats 1000000 in
theorem q_atomic (l : Launch) (dC : Nat → ClassId) (dI : Nat → Nat → Nat) (h0 : Nat) (ad : Nat → Nat) (cA : Nat → ClassId) (za : Nat → Nat) (zad : Nat → Nat → Nat) (zcA : Nat → Nat → ClassId) (S : CS) (nf : Nat) (p0 : Int64) {r : Int64} {S' : CS} {kc ks : Nat} (h : cq_atomic nf S p0 = some (r, S', kc, ks)) : OM l y_ZF_atomic (wd y_ZF_atomic b_ZF_atomic 3 (some .long)) ({ frames := 1, cells := kc, slots := ks, locals := 24 }) dC dI (WX h0 ad cA za zad zcA S) (TX cA zcA) [.ref h0, .long p0] (some (.long r)) (CW h0 S') kc ks := by
  unfold cq_atomic at h
  split at h
  · rename_i hf
    cases h
    exact lift_c (zad := zad) (zcA := zcA) (o_ZF_atomic l dC dI h0 (za 4) ad cA (zgc za) S.1 nf p0 hf)
  · exact absurd h (by simp)
def cq_instant (nf : Nat) (S : CS) (p0 : Int64) : Option (Int64 × CS × Nat × Nat) :=
  match (f_ZF_instant nf p0 S.1.2.2.2.2.2.2.2.2.2.1 S.1.2.2.2.2.2.2.2.2.2.2.1 S.1.2.2.2.2.2.2.2.2.2.2.2.1 S.1.2.2.2.2.2.2.2.2.2.2.2.2.1) with
  | some r0 => some (r0, S, 0, 0)
  | none =>
  none
set_option maxRecDepth 100000 in
set_option maxHeartbeats 1000000 in
theorem q_instant (l : Launch) (dC : Nat → ClassId) (dI : Nat → Nat → Nat) (h0 : Nat) (ad : Nat → Nat) (cA : Nat → ClassId) (za : Nat → Nat) (zad : Nat → Nat → Nat) (zcA : Nat → Nat → ClassId) (S : CS) (nf : Nat) (p0 : Int64) {r : Int64} {S' : CS} {kc ks : Nat} (h : cq_instant nf S p0 = some (r, S', kc, ks)) : OM l y_ZF_instant (wd y_ZF_instant b_ZF_instant 3 (some .long)) ({ frames := 2, cells := kc, slots := ks, locals := 48 }) dC dI (WX h0 ad cA za zad zcA S) (TX cA zcA) [.ref h0, .long p0] (some (.long r)) (CW h0 S') kc ks := by
  unfold cq_instant at h
  split at h
  · rename_i hf
    cases h
    exact lift_c (zad := zad) (zcA := zcA) (o_ZF_instant l dC dI h0 (za 4) ad cA (zgc za) S.1 nf p0 hf)
  · exact absurd h (by simp)
def cq_isLeap (nf : Nat) (S : CS) (p0 : Int64) : Option (Int32 × CS × Nat × Nat) :=
  match (f_ZF_isLeap nf p0 S.1.2.2.2.2.2.2.2.2.2.1 S.1.2.2.2.2.2.2.2.2.2.2.2.1 S.1.2.2.2.2.2.2.2.2.2.2.2.2.1) with
  | some r0 => some (r0, S, 0, 0)
  | none =>
  none
set_option maxRecDepth 100000 in
set_option maxHeartbeats 1000000 in
theorem q_isLeap (l : Launch) (dC : Nat → ClassId) (dI : Nat → Nat → Nat) (h0 : Nat) (ad : Nat → Nat) (cA : Nat → ClassId) (za : Nat → Nat) (zad : Nat → Nat → Nat) (zcA : Nat → Nat → ClassId) (S : CS) (nf : Nat) (p0 : Int64) {r : Int32} {S' : CS} {kc ks : Nat} (h : cq_isLeap nf S p0 = some (r, S', kc, ks)) : OM l y_ZF_isLeap (wd y_ZF_isLeap b_ZF_isLeap 3 (some .boolean)) ({ frames := 2, cells := kc, slots := ks, locals := 46 }) dC dI (WX h0 ad cA za zad zcA S) (TX cA zcA) [.ref h0, .long p0] (some (.int r)) (CW h0 S') kc ks := by
  unfold cq_isLeap at h
  split at h
  · rename_i hf
    cases h
    exact lift_c (zad := zad) (zcA := zcA) (o_ZF_isLeap l dC dI h0 (za 4) ad cA (zgc za) S.1 nf p0 hf)
  · exact absurd h (by simp)
