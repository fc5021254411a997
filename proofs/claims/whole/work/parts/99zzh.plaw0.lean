/-! ===== the law: both objects made, up to its loop ===== -/
theorem d_LAW_0 : decode code 0 = .ok (.new 8, 3) := by decide +kernel
theorem d_LAW_3 : decode code 3 = .ok (.dup, 1) := by decide +kernel
theorem d_LAW_4 : decode code 4 = .ok (.invokespecial 93, 3) := by decide +kernel
theorem d_LAW_7 : decode code 7 = .ok (.astore_n 1, 1) := by decide +kernel
theorem d_LAW_8 : decode code 8 = .ok (.new 94, 3) := by decide +kernel
theorem d_LAW_11 : decode code 11 = .ok (.dup, 1) := by decide +kernel
theorem d_LAW_12 : decode code 12 = .ok (.invokespecial 96, 3) := by decide +kernel
theorem d_LAW_15 : decode code 15 = .ok (.astore_n 2, 1) := by decide +kernel
theorem d_LAW_16 : decode code 16 = .ok (.iconst 1, 1) := by decide +kernel
theorem d_LAW_17 : decode code 17 = .ok (.newarray .long, 2) := by decide +kernel
theorem d_LAW_19 : decode code 19 = .ok (.astore_n 3, 1) := by decide +kernel
theorem d_LAW_20 : decode code 20 = .ok (.iconst 0, 1) := by decide +kernel
theorem d_LAW_21 : decode code 21 = .ok (.istore 4, 2) := by decide +kernel
theorem cl_MX {p : Program} {l : Launch} {e : Env} {R : Room} {s : State} {m : MethodId} {args : Array Value} {below : List Frame} {meth : Method} {c : Code} {H : Heap} {locs : List Loc} {cells slots : Nat} {Q : State → Prop} {y : MethodName} {bytes cc : ByteArray} {maxL nL kc ks n index pc : Nat} {rm : Room} {own : String} {As rest st0 : List Value} {ls : Array Slot} {b : Nat} {dC : Nat → ClassId} {dI : Nat → Nat → Nat} {ws : va_W} {tys : List (ClassId × FieldType)} {F : va_W → List (ClassId × FieldType) → Prop} {A : Nat → Prop}
    (S : CallFix p m c cc nL s args T0 own) (hM : ∀ sz : Nat, Met l y (wd y bytes maxL none) rm (MUX dC dI ws tys sz (.ref b :: As)) (MV none (WF dC dI F (va_A ws sz)) (va_A ws sz)) kc ks (va_A ws sz)) (cw : CallB R s args own index y bytes maxL none (wd y bytes maxL none) rm kc ks n ∧ y.name = "<init>" ∧ (Cond.instanceMethod y).before args s = true)
    (hn : As.length = n) (hsize : ls.size = nL) (hstack : st0 = As.reverse ++ .ref b :: rest) (hroom : (rest.map fun v => v.category).sum ≤ 8) (hdg : decode cc pc = .ok (.invokespecial index, 3)) (hf : cells + kc ≤ R.cells ∧ slots + ks ≤ R.slots)
    (hP : va_P (dC, dI) classes ws H) (hK : va_K (dC, dI) classes tys s) (hD : va_D A ws) (hS : va_S A s.heap H locs) (hA : ∀ q, s.heap.size ≤ q → A q) (hST : ST A s s.heap) (hAO : va_AO "ZoneFiles$Zone" s)
    (kk : ∀ (H1 : Heap) (locs1 : List Loc) (wf : va_W) (tf : List (ClassId × FieldType)), F wf tf → va_P (dC, dI) classes wf H1 → va_K (dC, dI) classes tf s → va_D A wf → va_S A s.heap H1 locs1 → W p l e R s m args below meth c H1 locs1 (cells + kc) (slots + ks) Q (F0 m (pc + 3) ls rest)) : W p l e R s m args below meth c H locs cells slots Q (F0 m pc ls st0) := by
  have hFc := fr_in (D := (dC, dI)) hD hS hA
  refine cl_M (v := none) (st1 := rest) (va_runI (As := As) (rest := rest) S (hM H.size) cw (MUXsta (MU.pre hP hK hD (hST.mu hS hFc)) hAO) rfl hn hsize hstack (lv_room hroom) hdg hf) rfl hS (fun q _ h => hFc q h) hFc (fun t H1 locs1 ht hvm hB hz1 hk1 hS1 => ?_)
  obtain ⟨w1, t1, hF, hP1, hK1, hD1⟩ := hB
  rw [ht] at hP1
  exact kk H1 locs1 w1 t1 hF hP1 (va_K.moved hvm.symm hK1) (hD1.weaken (fun _ _ _ z => hFc _ z)) hS1
theorem oi_Mo (l : Launch) (dC : Nat → ClassId) (dI : Nat → Nat → Nat) (h0 : Nat) (nf : Nat) {vi : Nat → Int32} {vj : Nat → Int64} {va : Nat → Nat → Int32} {vb : Nat → Nat → Int64} (hf : f_Mo_init_335 nf (va_up (fun _ => 0) 2 (-1)) (fun _ => 0) (fun _ _ => 0) (fun _ _ => 0) = some (vi, vj, va, vb)) : OM l y_Mo_init (wd y_Mo_init b_Mo_init 3 none) ({ frames := 5, cells := 40, slots := 23713, locals := 117 }) dC dI (mcO h0) [] [.ref h0] none (fun w t => ∃ (r : Nat → Nat) (cA : Nat → ClassId), w = moW h0 r cA vi vj va vb ∧ t = moT cA) 40 23713 := fun sz => met_mono (c_Mo_init l dC dI h0 sz nf hf) (fun _ _ z => z) (fun a st o t _ hQ _ => by
  obtain ⟨⟨h1, r, cA, h2⟩, h4⟩ := hQ
  exact ⟨⟨h1, _, _, ⟨r, cA, rfl, rfl⟩, h2⟩, h4⟩) (fun _ z => z)
theorem phi0 (zz : ZS) : 4 * pz zz ≤ phi (zC0, zSt zz) := by
  have e0 : zSt zz 0 = zz := rfl
  have e1 : zSt zz 1 = zz := rfl
  have e2 : zSt zz 2 = zz := rfl
  have e3 : zSt zz 3 = zz := rfl
  unfold phi pz
  dsimp only
  rw [e0, e1, e2, e3]
  omega
theorem mo_dflt : ∀ j, j < 72 → defaultValue (tyZoneFilesModel j) = vp_V (mcV mv0) j := by decide +kernel
set_option maxRecDepth 100000 in
theorem law_start {p : Program} {l : Launch} {e : Env} {R : Room} {s : State} {m : MethodId} {args : Array Value} {below : List Frame} {meth : Method} {c : Code} {Q : State → Prop} {ls : Array Slot} {dC : Nat → ClassId} {dI : Nat → Nat → Nat} {b L : Nat} {xs : Nat → Int32} (C0 : Cx p s m meth c args R code "ZoneFilesLaw" 8 (some .boolean) 12 518) (hLX : LX s b L xs) (hno : NT l) (hL : L ≤ 3072) (hAO : va_AO "ZoneFiles$Zone" s) (hK : va_K (dC, dI) classes [] s) (hRc : 490000 ≤ R.cells) (hRs : 2000000 ≤ R.slots) (hl : lv_has ls 8 [(0, .ref b)])
    (kend : ∀ (hx hm o : Nat) (S : CS) (M : MS) (a : Int64) (H : Heap) (locs : List Loc) (ls : Array Slot) (cells slots : Nat), LA dC dI s hx hm o S M a H locs → cells ≤ 490000 → slots ≤ 2000000 → W p l e R s m args below meth c H locs cells slots Q (F0 m 2181 ls [])) : W p l e R s m args below meth c s.heap [] 0 0 Q (F0 m 0 ls []) := by
  obtain ⟨hx, hb, hr, hml, hown, hts, hlocks, hRf, hRl⟩ := id C0
  obtain ⟨zz, kc, ks, hu, hk1, hk2, hz⟩ := oi_utc zfresh zfresh_sp
  obtain ⟨vi, va, vb, hfM, hvi, hRZ⟩ := minit_ok (nf := 10000) (by omega)
  have hRR : RR (zC0, zSt zz) (vi, (fun _ => 0), va, vb) := minit_rr hvi hRZ (fun i hi => by
    match i, hi with
    | 0, _ => exact hu
    | 1, _ => exact hu
    | 2, _ => exact hu
    | 3, _ => exact hu
    | n + 4, h => exact absurd h (by omega)) zfresh_sp (RB.zero (N := 64) (by omega) (by omega) _) (RB.zero (N := 64) (by omega) (by omega) _) rfl rfl rfl
  have hph := phi0 zz
  have hcap := phi_all _ _ hRR
  have hA : ∀ q : Nat, s.heap.size ≤ q → nA s q := fun q h => h
  have hS : va_S (nA s) s.heap s.heap [] := va_S.rf
  have hP : va_P (dC, dI) classes [] s.heap := vP_mem.mpr (fun q hq => by cases hq)
  have hD : va_D (nA s) [] := vD_iff.mpr ⟨List.nodup_nil, fun q hq => by cases hq⟩
  refine va_new (ci := 9) (fs := zcV zv0) (C := RZoneFiles) (T := TZoneFiles) (N := 9) hx hb hts in_ZoneFiles tyZoneFiles ty_ZoneFiles hown (hts (.classLink "ZoneFilesLaw" 8 "ZoneFiles") m_1_23) (hts (.instantiable "ZoneFiles" 9) m_1_24) (hts (.initialized "ZoneFiles") m_1_1) hK hP hD hS hA rfl (fun j hj => by match j, hj with | 0, _ => exact rfl | 1, _ => exact rfl | 2, _ => exact rfl | 3, _ => exact rfl | 4, _ => exact rfl | 5, _ => exact rfl | 6, _ => exact rfl | 7, _ => exact rfl | 8, _ => exact rfl | n + 9, h => exact absurd h (by omega)) (by omega) (by omega) d_LAW_0 (fun hxz H hP hD hS => ?_)
  refine lv_dup hx hb d_LAW_3 rfl ?_
  refine cl_MX (As := []) (rest := [.ref hxz]) (ws := [zO hxz zv0]) (tys := []) ⟨hx, hb, hml, hown, hts⟩ (c_ZF_init hz l dC dI hxz) (cwI 0 hts (gd_of m_1_27) rfl rfl rfl (hts (.initialized "ZoneFiles") m_1_1) (hts (.methodLink "ZoneFilesLaw" 93 ⟨"ZoneFiles", "<init>", "()V"⟩) m_1_25) (hts (.instanceMethod ⟨"ZoneFiles", "<init>", "()V"⟩) m_1_26) rfl (by decide +kernel) ⟨Nat.le_trans (Nat.le_of_ble_eq_true rfl) hRf, Nat.le_trans (Nat.le_of_ble_eq_true rfl) hRl⟩) rfl hl.1 rfl (Nat.le_of_ble_eq_true rfl) d_LAW_4 ⟨by omega, by omega⟩ hP hK hD hS hA hLX.1 hAO (fun H locs wf tf hF hP hK hD hS => ?_)
  refine lv_astore_n (lv' := [(1, .ref hxz), (0, .ref b)]) hx hb d_LAW_7 rfl hl (by decide) rfl (fun ls hl => ?_)
  refine va_new (ci := 10) (fs := mcV mv0) (C := RZoneFilesModel) (T := TZoneFilesModel) (N := 72) hx hb hts in_ZoneFilesModel tyZoneFilesModel ty_ZoneFilesModel hown (hts (.classLink "ZoneFilesLaw" 94 "ZoneFilesModel") m_6_69) (hts (.instantiable "ZoneFilesModel" 72) m_6_70) (hts (.initialized "ZoneFilesModel") m_1_10) hK hP hD hS hA rfl mo_dflt (by omega) (by omega) d_LAW_8 (fun hm H hP hD hS => ?_)
  refine lv_dup hx hb d_LAW_11 rfl ?_
  refine cl_OMI (As := []) (rest := [.ref hm]) (st1 := [.ref hm]) (wc := mcO hm) (wr := wf) ⟨hx, hb, hml, hown, hts⟩ (oi_Mo l dC dI hm 10000 hfM) (cwI 0 hts (gd_of m_6_73) rfl rfl rfl (hts (.initialized "ZoneFilesModel") m_1_10) (hts (.methodLink "ZoneFilesLaw" 96 ⟨"ZoneFilesModel", "<init>", "()V"⟩) m_6_71) (hts (.instanceMethod ⟨"ZoneFilesModel", "<init>", "()V"⟩) m_6_72) rfl (by decide +kernel) ⟨Nat.le_trans (Nat.le_of_ble_eq_true rfl) hRf, Nat.le_trans (Nat.le_of_ble_eq_true rfl) hRl⟩) rfl hl.1 rfl (Nat.le_of_ble_eq_true rfl) d_LAW_12 ⟨by omega, by omega⟩ List.perm_append_comm (fun q h => by cases h) hP hK hD hS hA hLX.1 rfl (fun H locs w2 t2 hF2 hP hK hD hS => ?_)
  obtain ⟨r, cM, rfl, rfl⟩ := hF2
  refine lv_astore_n (lv' := [(2, .ref hm), (1, .ref hxz), (0, .ref b)]) hx hb d_LAW_15 rfl hl (by decide) rfl (fun ls hl => ?_)
  refine lv_iconst (v := 1) hx hb d_LAW_16 (by decide) ?_
  refine va_newa (atype := .long) (ty := .long) (N' := 1) (a0 := (1, .inr (.inl (fun _ => 0)))) hx hb (hts (.arrayClass .long) m_1_99) rfl hK hP hD hS hA (fun cA => rfl) (by decide) (by decide) (by decide) (by omega) (by omega) d_LAW_17 (fun o cO H hK hP hD hS => ?_)
  refine lv_astore_n (lv' := [(3, .ref o), (2, .ref hm), (1, .ref hxz), (0, .ref b)]) hx hb d_LAW_19 rfl hl (by decide) rfl (fun ls hl => ?_)
  refine lv_iconst (v := ii (6 * ((0 : Nat) : Int))) hx hb d_LAW_20 (by decide) ?_
  refine lv_istore (lv' := [(4, .int (ii (6 * ((0 : Nat) : Int)))), (3, .ref o), (2, .ref hm), (1, .ref hxz), (0, .ref b)]) hx hb d_LAW_21 hl (by decide) rfl (fun ls hl => ?_)
  have hpm : ((moW hm r cM vi (fun _ => 0) va vb ++ wf) ++ [oC o cO (fun _ => 0)]).Perm (oC o cO (fun _ => 0) :: (wf ++ mW hm r cM (vi, (fun _ => 0), va, vb))) := (List.perm_append_comm (l₁ := moW hm r cM vi (fun _ => 0) va vb ++ wf) (l₂ := [oC o cO (fun _ => 0)])).trans (List.Perm.cons (oC o cO (fun _ => 0)) (List.perm_append_comm (l₁ := moW hm r cM vi (fun _ => 0) va vb) (l₂ := wf)))
  have hLA : LA dC dI s hxz hm o (zC0, zSt zz) (vi, (fun _ => 0), va, vb) 0 H _ := ⟨_, _, ⟨(fun _ => 0), cO, wf, tf, r, cM, rfl, hpm, hF, List.mem_append_right _ List.mem_cons_self, fun q hq => List.mem_append_left _ (List.mem_append_right _ hq), fun q hq => List.mem_append_left _ (List.mem_append_left _ hq)⟩, hP, hK, hD, hS⟩
  exact law_loop C0 hLX hno 10000 hL phi_all (steps_all (by omega)) hRc hRs (kend hxz hm o) (L + 1) 0 (zC0, zSt zz) (vi, (fun _ => 0), va, vb) 0 H _ ls _ _ (by omega) (by omega) hRR hLA (lv_sub hl [4, 3, 2, 1, 0] rfl) (by omega) (by omega)
