/-! ===== the constructor of ZoneFiles: its loop, its contract ===== -/
/-- becomeUtc of a fresh zone -/
def UZ (zz : ZS) (kc ks : Nat) : Prop := ∀ (l : Launch) (dC : Nat → ClassId) (dI : Nat → Nat → Nat) (a : Nat) (zad : Nat → Nat) (zcA : Nat → ClassId), OM l y_Zone_becomeUtc (wd y_Zone_becomeUtc b_Zone_becomeUtc 1 none) ({ frames := 5, cells := kc, slots := ks, locals := 107 }) dC dI (zoneW a zad zcA zfresh) (zoneT zcA) [.ref a] none (fun w t => ∃ (zb : Nat → Nat) (zc : Nat → ClassId), w.Perm (zoneW a zb zc zz) ∧ ∀ q ∈ zoneT zc, q ∈ t) kc ks
theorem zt_i {p : Program} {l : Launch} {e : Env} {R : Room} {s : State} {m : MethodId} {args : Array Value} {below : List Frame} {meth : Method} {c : Code} {H : Heap} {locs : List Loc} {cells slots : Nat} {Q : State → Prop} {ls : Array Slot} {dC : Nat → ClassId} {dI : Nat → Nat → Nat} {A : Nat → Prop} {h0 : Nat} {v : Nat → Value} {ws : va_W} {tys : List (ClassId × FieldType)} {zs : Nat} {cA : ClassId} {f : Nat → Option Nat} {i i' : Int32} {k : Nat} {zz : ZS} {kc ks : Nat} (hz : UZ zz kc ks) (C0 : Cx p s m meth c args R b_ZF_init "ZoneFiles" 2 none 6 200) (hST : ST A s s.heap) (hA : ∀ q, s.heap.size ≤ q → A q) (hi : vp_in i 4) (hi4 : ¬ (4 : Int32) ≤ i) (hik : i.toNatClampNeg = k) (hi1 : i + 1 = i') (hv2 : v 2 = .ref zs) (hcA : (cA, FieldType.object "ZoneFiles$Zone") ∈ tys) (hl : lv_has ls 2 [(1, .int i), (0, .ref h0)]) (hK : va_K (dC, dI) classes tys s) (hP : va_P (dC, dI) classes (zO h0 v :: zA zs cA f :: ws) H) (hD : va_D A (zO h0 v :: zA zs cA f :: ws)) (hS : va_S A s.heap H locs) (hkc : cells + 17 + kc ≤ R.cells) (hks : slots + 789 + ks ≤ R.slots)
    (kk : ∀ (q : Nat) (zb : Nat → Nat) (zc : Nat → ClassId) (tys' : List (ClassId × FieldType)) (ls1 : Array Slot) (H1 : Heap) (locs1 : List Loc), (∀ x ∈ tys, x ∈ tys') → (∀ x ∈ zoneT zc, x ∈ tys') → lv_has ls1 2 [(1, .int i'), (0, .ref h0)] → va_K (dC, dI) classes tys' s → va_P (dC, dI) classes (zO h0 v :: zA zs cA (va_up f k (some q)) :: (zoneW q zb zc zz ++ ws)) H1 → va_D A (zO h0 v :: zA zs cA (va_up f k (some q)) :: (zoneW q zb zc zz ++ ws)) → va_S A s.heap H1 locs1 → W p l e R s m args below meth c H1 locs1 (cells + 1 + 16 + kc) (slots + 17 + 772 + ks) Q (F0 m 40 ls1 [])) : W p l e R s m args below meth c H locs cells slots Q (F0 m 40 ls []) := by
  obtain ⟨hx, hb, hr, hml, hown, hts, hlocks, hRf, hRl⟩ := id C0
  subst hik hi1
  refine lv_iload_n hx hb d_ZF_init_40 rfl (lv_at hl 0 rfl) ?_
  refine lv_iconst (v := 4) hx hb d_ZF_init_41 (by decide) ?_
  refine lv_icmp_ge (tgt := 73) hx hb d_ZF_init_42 (by decide) (fun cc => absurd cc hi4) (fun _ => ?_)
  refine zi_a C0 hST hA hl hi hv2 hcA hK hP hD hS (by omega) (by omega) (fun q zad zcA H1 locs1 hK hP hD hS => ?_)
  refine zi_b (z := zfresh) (zz := zz) (hz l dC dI q zad zcA) C0 hST hA hl hi hv2 (by simp [va_up]) (List.mem_append_right _ hcA) (fun x hx => List.mem_append_left _ hx) hK hP hD hS (by omega) (by omega) (fun zb zc wf tf H2 locs2 hw ht hK hP hD hS => ?_)
  refine lv_iinc (v := i + 1) (lv' := [(1, .int (i + 1)), (0, .ref h0)]) hx hb d_ZF_init_67 hl (k := 0) rfl rfl (by decide) rfl (fun ls1 hl1 => ?_)
  refine lv_goto (tgt := 40) hx hb d_ZF_init_70 (by decide) ?_
  have hp : (wf ++ (zO h0 v :: zA zs cA (va_up f i.toNatClampNeg (some q)) :: ws)).Perm (zO h0 v :: zA zs cA (va_up f i.toNatClampNeg (some q)) :: (zoneW q zb zc zz ++ ws)) :=
    (List.perm_middle.trans (List.Perm.cons _ List.perm_middle)).trans (List.Perm.cons _ (List.Perm.cons _ (hw.append_right _)))
  exact kk q zb zc _ ls1 H2 locs2 (fun x hx => List.mem_append_right _ (List.mem_append_right _ hx)) (fun x hx => List.mem_append_left _ (ht x hx)) hl1 hK (va_P.perm hP hp) (va_D.perm hD hp) hS
theorem zt_e {p : Program} {l : Launch} {e : Env} {R : Room} {s : State} {m : MethodId} {args : Array Value} {below : List Frame} {meth : Method} {c : Code} {H : Heap} {locs : List Loc} {cells slots : Nat} {Q : State → Prop} {ls : Array Slot} {h0 : Nat} {i : Int32} (C0 : Cx p s m meth c args R b_ZF_init "ZoneFiles" 2 none 6 200) (hi4 : (4 : Int32) ≤ i) (hl : lv_has ls 2 [(1, .int i), (0, .ref h0)]) (kk : W p l e R s m args below meth c H locs cells slots Q (F0 m 73 ls [])) : W p l e R s m args below meth c H locs cells slots Q (F0 m 40 ls []) := by
  obtain ⟨hx, hb, hr, hml, hown, hts, hlocks, hRf, hRl⟩ := id C0
  refine lv_iload_n hx hb d_ZF_init_40 rfl (lv_at hl 0 rfl) ?_
  refine lv_iconst (v := 4) hx hb d_ZF_init_41 (by decide) ?_
  exact lv_icmp_ge (tgt := 73) hx hb d_ZF_init_42 (by decide) (fun _ => kk) (fun cc => absurd hi4 cc)
theorem zperm {α : Type} (a f A B1 B2 La Lb Z0 Z1 Z2 Z3 Z4 : List α) : (a ++ (f ++ (Lb ++ (La ++ (Z4 ++ (A ++ (Z3 ++ (Z2 ++ (Z1 ++ (Z0 ++ (B2 ++ (B1 ++ [])))))))))))).Perm ((a ++ (B1 ++ (B2 ++ (A ++ (f ++ (La ++ Lb)))))) ++ (Z0 ++ (Z1 ++ (Z2 ++ (Z3 ++ Z4))))) := by
  classical
  rw [List.perm_iff_count]
  intro x
  simp only [List.count_append, List.count_nil]
  omega
def zv0 : Nat → Value := fun k => match k with | 7 => .int 0 | 8 => .int 0 | _ => .null
def zC0 : CC := (0, 64, (fun _ => 0), 0, 64, (fun _ => 0), 0, -1, (fun _ => 0), 0, 0, (fun _ => 0), (fun _ => 0), 0, 0, (fun _ => 0), (fun _ => 0))
def zSt (zz : ZS) : Nat → ZS := fun j => match j with | 0 => zz | 1 => zz | 2 => zz | 3 => zz | _ => zfresh
def zq5 {α : Type} (a b c d e : α) : Nat → α := fun k => match k with | 0 => a | 1 => b | 2 => c | 3 => d | _ => e
def zqA (qt qw zs qa qb qf qt1 qw1 qa1 qa2 qb1 qb2 : Nat) : Nat → Nat := fun k => match k with | 0 => qt | 1 => qw | 2 => zs | 3 => qa | 4 => qb | 5 => qf | 6 => qt1 | 7 => qw1 | 8 => qa1 | 9 => qa2 | 10 => qb1 | _ => qb2
def zqC (nt nw cZ cF na1 na2 nb1 nb2 : ClassId) : Nat → ClassId := fun k => match k with | 0 => nt | 1 => nw | 2 => cZ | 3 => cF | 4 => na1 | 5 => na2 | 6 => nb1 | _ => nb2
set_option maxRecDepth 100000 in
theorem zend {dC : Nat → ClassId} {dI : Nat → Nat → Nat} {A : Nat → Prop} {H : Heap} {h0 qt qw zs qa qb qf qt1 qw1 qa1 qa2 qb1 qb2 q0 q1 q2 q3 q4 : Nat} {nt nw cZ cF na1 na2 nb1 nb2 : ClassId} {b0 b1 b2 b3 b4 : Nat → Nat} {c0 c1 c2 c3 c4 : Nat → ClassId} {zz : ZS}
    (hP : va_P (dC, dI) classes (zO h0 (va_up (va_up (va_up (va_up (va_up (va_up (va_up (va_up (va_up zv0 0 (.ref qt)) 1 (.ref qw)) 2 (.ref zs)) 3 (.ref q4)) 4 (.ref qa)) 5 (.ref qb)) 6 (.ref qf)) 7 (.int 0)) 8 (.int (-1))) :: (qf, .inl (cF, 42, .inr (.inl (fun _ => 0)))) :: (zLt qb qb1 qb2 nb1 nb2 ++ (zLt qa qa1 qa2 na1 na2 ++ (zoneW q4 b4 c4 zfresh ++ (zA zs cZ (va_up (va_up (va_up (va_up (fun _ => none) 0 (some q0)) 1 (some q1)) 2 (some q2)) 3 (some q3)) :: (zoneW q3 b3 c3 zz ++ (zoneW q2 b2 c2 zz ++ (zoneW q1 b1 c1 zz ++ (zoneW q0 b0 c0 zz ++ (zBy qw qw1 nw ++ (zBy qt qt1 nt ++ []))))))))))) H)
    (hD : va_D A (zO h0 (va_up (va_up (va_up (va_up (va_up (va_up (va_up (va_up (va_up zv0 0 (.ref qt)) 1 (.ref qw)) 2 (.ref zs)) 3 (.ref q4)) 4 (.ref qa)) 5 (.ref qb)) 6 (.ref qf)) 7 (.int 0)) 8 (.int (-1))) :: (qf, .inl (cF, 42, .inr (.inl (fun _ => 0)))) :: (zLt qb qb1 qb2 nb1 nb2 ++ (zLt qa qa1 qa2 na1 na2 ++ (zoneW q4 b4 c4 zfresh ++ (zA zs cZ (va_up (va_up (va_up (va_up (fun _ => none) 0 (some q0)) 1 (some q1)) 2 (some q2)) 3 (some q3)) :: (zoneW q3 b3 c3 zz ++ (zoneW q2 b2 c2 zz ++ (zoneW q1 b1 c1 zz ++ (zoneW q0 b0 c0 zz ++ (zBy qw qw1 nw ++ (zBy qt qt1 nt ++ [])))))))))))) :
    va_P (dC, dI) classes (WX h0 (zqA qt qw zs qa qb qf qt1 qw1 qa1 qa2 qb1 qb2) (zqC nt nw cZ cF na1 na2 nb1 nb2) (zq5 q0 q1 q2 q3 q4) (zq5 b0 b1 b2 b3 b4) (zq5 c0 c1 c2 c3 c4) (zC0, zSt zz)) H ∧ va_D A (WX h0 (zqA qt qw zs qa qb qf qt1 qw1 qa1 qa2 qb1 qb2) (zqC nt nw cZ cF na1 na2 nb1 nb2) (zq5 q0 q1 q2 q3 q4) (zq5 b0 b1 b2 b3 b4) (zq5 c0 c1 c2 c3 c4) (zC0, zSt zz)) := by
  have hp := zperm [zO h0 (va_up (va_up (va_up (va_up (va_up (va_up (va_up (va_up (va_up zv0 0 (.ref qt)) 1 (.ref qw)) 2 (.ref zs)) 3 (.ref q4)) 4 (.ref qa)) 5 (.ref qb)) 6 (.ref qf)) 7 (.int 0)) 8 (.int (-1)))] [(qf, .inl (cF, 42, .inr (.inl (fun _ => 0))))] [zA zs cZ (va_up (va_up (va_up (va_up (fun _ => none) 0 (some q0)) 1 (some q1)) 2 (some q2)) 3 (some q3))] (zBy qt qt1 nt) (zBy qw qw1 nw) (zLt qa qa1 qa2 na1 na2) (zLt qb qb1 qb2 nb1 nb2) (zoneW q0 b0 c0 zz) (zoneW q1 b1 c1 zz) (zoneW q2 b2 c2 zz) (zoneW q3 b3 c3 zz) (zoneW q4 b4 c4 zfresh)
  have hP1 : va_P (dC, dI) classes (commonW h0 (zqA qt qw zs qa qb qf qt1 qw1 qa1 qa2 qb1 qb2) (zqC nt nw cZ cF na1 na2 nb1 nb2) q4 (va_up (va_up (va_up (va_up (fun _ => none) 0 (some q0)) 1 (some q1)) 2 (some q2)) 3 (some q3)) zC0 ++ (zoneW q0 b0 c0 zz ++ (zoneW q1 b1 c1 zz ++ (zoneW q2 b2 c2 zz ++ (zoneW q3 b3 c3 zz ++ zoneW q4 b4 c4 zfresh))))) H := va_P.perm hP hp
  have hD1 : va_D A (commonW h0 (zqA qt qw zs qa qb qf qt1 qw1 qa1 qa2 qb1 qb2) (zqC nt nw cZ cF na1 na2 nb1 nb2) q4 (va_up (va_up (va_up (va_up (fun _ => none) 0 (some q0)) 1 (some q1)) 2 (some q2)) 3 (some q3)) zC0 ++ (zoneW q0 b0 c0 zz ++ (zoneW q1 b1 c1 zz ++ (zoneW q2 b2 c2 zz ++ (zoneW q3 b3 c3 zz ++ zoneW q4 b4 c4 zfresh))))) := va_D.perm hD hp
  obtain ⟨e1, e2⟩ := vP_app.mp hP1
  refine ⟨vP_app.mpr ⟨commonW_zg (fun j hj => ?_) e1, e2⟩, va_D_same (by rw [WX, List.map_append, List.map_append]; rfl) hD1⟩
  match j, hj with
  | 0, _ => rfl
  | 1, _ => rfl
  | 2, _ => rfl
  | 3, _ => rfl
  | n + 4, h => exact absurd h (by omega)
set_option maxRecDepth 100000 in
theorem c_ZF_init {zz : ZS} {kc ks : Nat} (hz : UZ zz kc ks) (l : Launch) (dC : Nat → ClassId) (dI : Nat → Nat → Nat) (h0 : Nat) (sz : Nat) : Met l y_ZF_init (wd y_ZF_init b_ZF_init 2 none) ({ frames := 6, cells := 97 + 4 * kc, slots := 4371 + 4 * ks, locals := 200 }) (MUX dC dI [zO h0 zv0] [] sz [.ref h0]) (MV none (WF dC dI (CW h0 (zC0, zSt zz)) (va_A [zO h0 zv0] sz)) (va_A [zO h0 zv0] sz)) (97 + 4 * kc) (4371 + 4 * ks) (va_A [zO h0 zv0] sz) :=
  met_MX (plainFor_of_name (by decide)) (Nat.le_of_ble_eq_true rfl) (fun p e R s m args below meth c ls hRc hRs hsz hin C0 hST hAO hK hP hD hl => by
    obtain ⟨hx, hb, hr, hml, hown, hts, hlocks, hRf, hRl⟩ := id C0
    subst hsz
    have hA : ∀ q : Nat, s.heap.size ≤ q → va_A [zO h0 zv0] s.heap.size q := fun q h => Or.inr h
    have hS : va_S (va_A [zO h0 zv0] s.heap.size) s.heap s.heap [] := va_S.rf
    refine lv_aload_n hx hb d_ZF_init_0 rfl (lv_at hl 0 rfl) ?_
    refine W.objInit hx hb hown (hts (.methodLink "ZoneFiles" 1 objectInit) m_1_28) (hts (.instanceMethod objectInit) m_1_29) (hts (.code objectInit ⟨#[0xb1]⟩ 1 none) m_1_30) rfl (by rw [hml]; exact hl.1) rfl d_ZF_init_1 (Nat.le_trans (Nat.le_of_ble_eq_true rfl) hRf) (Nat.le_trans (Nat.le_of_ble_eq_true rfl) hRl) ?_
    refine W.eq (g2 := F0 m 4 ls []) rfl ?_
    have hl : lv_has ls 2 [(0, .ref h0)] := hl
    refine zb_0 C0 hST hA (hin rfl) hl hK hP hD hS (by omega) (by omega) (fun qt qt1 nt H locs hK hP hD hS => ?_)
    refine zb_1 C0 hST hA (hin rfl) hl hK hP hD hS (by omega) (by omega) (fun qw qw1 nw H locs hK hP hD hS => ?_)
    refine zq_2 C0 hST hA (hin rfl) hl hK hP hD hS hAO (by omega) (by omega) (fun zs cZ H locs hK hP hD hS => ?_)
    refine lv_iconst (v := 0) hx hb d_ZF_init_38 (by decide) ?_
    refine lv_istore_n (lv' := [(1, .int 0), (0, .ref h0)]) hx hb d_ZF_init_39 rfl hl (by decide) rfl (fun ls hl => ?_)
    have hcA : (cZ, FieldType.object "ZoneFiles$Zone") ∈ ([(nw, .byte), (nt, .byte)] ++ [(cZ, .object "ZoneFiles$Zone")] : List (ClassId × FieldType)) := List.mem_append_right _ (List.mem_cons_self)
    refine zt_i (i := 0) (i' := 1) (k := 0) hz C0 hST hA (by show ¬ ((0 : Int32) < 0 ∨ 4 ≤ (0 : Int32).toNatClampNeg); decide) (by decide) rfl rfl (by rfl) hcA hl hK hP hD hS (by omega) (by omega) (fun q0 b0 c0 t0 ls H locs hs0 hz0 hl hK hP hD hS => ?_)
    refine zt_i (i := 1) (i' := 2) (k := 1) hz C0 hST hA (by show ¬ ((1 : Int32) < 0 ∨ 4 ≤ (1 : Int32).toNatClampNeg); decide) (by decide) rfl rfl (by rfl) (hs0 _ hcA) hl hK hP hD hS (by omega) (by omega) (fun q1 b1 c1 t1 ls H locs hs1 hz1 hl hK hP hD hS => ?_)
    refine zt_i (i := 2) (i' := 3) (k := 2) hz C0 hST hA (by show ¬ ((2 : Int32) < 0 ∨ 4 ≤ (2 : Int32).toNatClampNeg); decide) (by decide) rfl rfl (by rfl) (hs1 _ (hs0 _ hcA)) hl hK hP hD hS (by omega) (by omega) (fun q2 b2 c2 t2 ls H locs hs2 hz2 hl hK hP hD hS => ?_)
    refine zt_i (i := 3) (i' := 4) (k := 3) hz C0 hST hA (by show ¬ ((3 : Int32) < 0 ∨ 4 ≤ (3 : Int32).toNatClampNeg); decide) (by decide) rfl rfl (by rfl) (hs2 _ (hs1 _ (hs0 _ hcA))) hl hK hP hD hS (by omega) (by omega) (fun q3 b3 c3 t3 ls H locs hs3 hz3 hl hK hP hD hS => ?_)
    refine zt_e C0 (by decide) hl ?_
    have hl : lv_has ls 2 [(0, .ref h0)] := lv_sub hl [1] rfl
    refine zs_3 C0 hST hA (hin rfl) hl hK hP hD hS (by omega) (by omega) (fun q4 b4 c4 H locs hK hP hD hS => ?_)
    refine zl_4 C0 hST hA (hin rfl) hl hK hP hD hS (by omega) (by omega) (fun qa qa1 qa2 na1 na2 H locs hK hP hD hS => ?_)
    refine zl_5 C0 hST hA (hin rfl) hl hK hP hD hS (by omega) (by omega) (fun qb qb1 qb2 nb1 nb2 H locs hK hP hD hS => ?_)
    refine ze_6 C0 hST hA (hin rfl) hl hK hP hD hS (by omega) (by omega) (fun qf cF H locs hK hP hD hS => ?_)
    obtain ⟨hP, hD⟩ := zend hP hD
    have u3 : ∀ x ∈ t3, x ∈ ([(nb1, .long), (nb2, .long)] ++ ([(na1, .long), (na2, .long)] ++ (zoneT c4 ++ t3)) ++ [(cF, .long)] : List (ClassId × FieldType)) := fun x hx => List.mem_append_left _ (List.mem_append_right _ (List.mem_append_right _ (List.mem_append_right _ hx)))
    have hT : ∀ x ∈ TX (zqC nt nw cZ cF na1 na2 nb1 nb2) (zq5 c0 c1 c2 c3 c4), x ∈ ([(nb1, .long), (nb2, .long)] ++ ([(na1, .long), (na2, .long)] ++ (zoneT c4 ++ t3)) ++ [(cF, .long)] : List (ClassId × FieldType)) := by
      intro x hx
      rcases List.mem_append.mp hx with hx | hx
      · have hx : x ∈ [(nt, FieldType.byte), (nw, .byte), (cZ, .object "ZoneFiles$Zone"), (cF, .long), (na1, .long), (na2, .long), (nb1, .long), (nb2, .long)] := hx
        simp only [List.mem_cons, List.not_mem_nil, or_false] at hx
        rcases hx with rfl | rfl | rfl | rfl | rfl | rfl | rfl | rfl
        · exact u3 _ (hs3 _ (hs2 _ (hs1 _ (hs0 _ (by simp)))))
        · exact u3 _ (hs3 _ (hs2 _ (hs1 _ (hs0 _ (by simp)))))
        · exact u3 _ (hs3 _ (hs2 _ (hs1 _ (hs0 _ (by simp)))))
        · simp
        · simp
        · simp
        · simp
        · simp
      · have hx : x ∈ zoneT c0 ++ (zoneT c1 ++ (zoneT c2 ++ (zoneT c3 ++ zoneT c4))) := hx
        rcases List.mem_append.mp hx with hx | hx
        · exact u3 _ (hs3 _ (hs2 _ (hs1 _ (hz0 _ hx))))
        rcases List.mem_append.mp hx with hx | hx
        · exact u3 _ (hs3 _ (hs2 _ (hz1 _ hx)))
        rcases List.mem_append.mp hx with hx | hx
        · exact u3 _ (hs3 _ (hz2 _ hx))
        rcases List.mem_append.mp hx with hx | hx
        · exact u3 _ (hz3 _ hx)
        · exact List.mem_append_left _ (List.mem_append_right _ (List.mem_append_right _ (List.mem_append_left _ hx)))
    have ec : 0 + 1 + 1 + 1 + 1 + 1 + 1 + 16 + kc + 1 + 16 + kc + 1 + 16 + kc + 1 + 16 + kc + 1 + 16 + 1 + 2 + 1 + 2 + 1 = 97 + 4 * kc := by omega
    have es : 0 + 2 + 64 + 2 + 64 + 4 + 17 + 772 + ks + 17 + 772 + ks + 17 + 772 + ks + 17 + 772 + ks + 17 + 772 + 4 + 120 + 4 + 120 + 42 = 4371 + 4 * ks := by omega
    rw [ec, es]
    exact W.vret hx hb hr (fun t ht hW => ⟨⟨rfl, ⟨_, _, ⟨_, _, _, _, _, List.Perm.refl _, hT⟩, by rw [ht]; exact hP, va_K.moved hW.alike hK, hD⟩⟩, hS.F ht⟩) hS.2.2 d_ZF_init_124)
