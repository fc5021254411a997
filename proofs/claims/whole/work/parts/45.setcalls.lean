
/-! ===== calls by contracts in the form of sets, inside a walk ===== -/
theorem fr_in {D : va_G} {A : Nat → Prop} {ws : va_W} {H0 H : Heap} {locs : List Loc} (hD : va_D A ws) (hS : va_S A H0 H locs) (hA : ∀ q, H0.size ≤ q → A q) : ∀ q, va_A ws H.size q → A q := by
  intro q h
  rcases vA_mem.mp h with h | h
  · obtain ⟨x, hx, rfl⟩ := List.mem_map.mp h
    exact (vD_iff.mp hD).2 x hx
  · exact hA q (Nat.le_trans hS.1 h)
section
variable {p : Program} {l : Launch} {e : Env} {R : Room} {s : State} {m : MethodId} {args : Array Value} {below : List Frame} {meth : Method} {c : Code} {H : Heap} {locs : List Loc} {cells slots : Nat} {Q : State → Prop}
variable {y : MethodName} {bytes cc : ByteArray} {maxL nL kc ks n index pc : Nat} {ret : Option FieldType} {hh : List (Nat × Nat × Nat × Nat)} {rm : Room} {own C : String} {As rest st0 st1 : List Value} {ls : Array Slot} {b : Nat}
variable {dC : Nat → ClassId} {dI : Nat → Nat → Nat} {ws wc wr : va_W} {tys tc : List (ClassId × FieldType)} {v : Option Value} {F : va_W → List (ClassId × FieldType) → Prop} {A : Nat → Prop}
theorem cl_OMV (S : CallFix p m c cc nL s args T0 own) (hM : OM l y (wd y bytes maxL ret) rm dC dI wc tc (.ref b :: As) v F kc ks) (cw : CallW R s args own C index y bytes maxL ret (wd y bytes maxL ret) rm kc ks n) (hrecv : ∃ cellB : Cell, H[b]? = some cellB ∧ cellB.vm.isStatics = false ∧ s.vm.findClass C = some cellB.cls)
    (hn : As.length = n) (hsize : ls.size = nL) (hstack : st0 = As.reverse ++ .ref b :: rest) (hroom : (rest.map fun v => v.category).sum ≤ 8) (hdg : decode cc pc = .ok (.invokevirtual index, 3)) (hf : cells + kc ≤ R.cells ∧ slots + ks ≤ R.slots)
    (hperm : ws.Perm (wc ++ wr)) (htc : ∀ q ∈ tc, q ∈ tys) (hP : va_P (dC, dI) classes ws H) (hK : va_K (dC, dI) classes tys s) (hD : va_D A ws) (hS : va_S A s.heap H locs) (hA : ∀ q, s.heap.size ≤ q → A q) (hST : ST A s s.heap) (hst1 : v.toList ++ rest = st1)
    (kk : ∀ (H1 : Heap) (locs1 : List Loc) (wf : va_W) (tf : List (ClassId × FieldType)), F wf tf → va_P (dC, dI) classes (wf ++ wr) H1 → va_K (dC, dI) classes (tf ++ tys) s → va_D A (wf ++ wr) → va_S A s.heap H1 locs1 → W p l e R s m args below meth c H1 locs1 (cells + kc) (slots + ks) Q (F0 m (pc + 3) ls st1)) : W p l e R s m args below meth c H locs cells slots Q (F0 m pc ls st0) := by
  have hFc := fr_in (D := (dC, dI)) hD hS hA
  refine cl_M (v := v) (st1 := st1) (va_runV (As := As) (rest := rest) S ((hM.frame hperm htc) H.size) cw ((MU.pre hP hK hD (hST.mu hS hFc)).vir hrecv) rfl hn hsize hstack (lv_room hroom) hdg hf) hst1 hS (fun q _ h => hFc q h) hFc (fun t H1 locs1 ht hvm hB hz1 hk1 hS1 => ?_)
  obtain ⟨w1, t1, ⟨wf, tf, hF, rfl, rfl⟩, hP1, hK1, hD1⟩ := hB
  rw [ht] at hP1
  exact kk H1 locs1 wf tf hF hP1 (va_K.moved hvm.symm hK1) (hD1.weaken (fun _ _ _ z => hFc _ z)) hS1
theorem cl_OMS (S : CallFix p m c cc nL s args T0 own) (hM : OM l y (wd y bytes maxL ret) rm dC dI wc tc As v F kc ks) (cw : CallB R s args own index y bytes maxL ret (wd y bytes maxL ret) rm kc ks n ∧ (Cond.static y).before args s = true)
    (hn : As.length = n) (hsize : ls.size = nL) (hstack : st0 = As.reverse ++ rest) (hroom : (rest.map fun v => v.category).sum ≤ 8) (hdg : decode cc pc = .ok (.invokestatic index, 3)) (hf : cells + kc ≤ R.cells ∧ slots + ks ≤ R.slots)
    (hperm : ws.Perm (wc ++ wr)) (htc : ∀ q ∈ tc, q ∈ tys) (hP : va_P (dC, dI) classes ws H) (hK : va_K (dC, dI) classes tys s) (hD : va_D A ws) (hS : va_S A s.heap H locs) (hA : ∀ q, s.heap.size ≤ q → A q) (hST : ST A s s.heap) (hst1 : v.toList ++ rest = st1)
    (kk : ∀ (H1 : Heap) (locs1 : List Loc) (wf : va_W) (tf : List (ClassId × FieldType)), F wf tf → va_P (dC, dI) classes (wf ++ wr) H1 → va_K (dC, dI) classes (tf ++ tys) s → va_D A (wf ++ wr) → va_S A s.heap H1 locs1 → W p l e R s m args below meth c H1 locs1 (cells + kc) (slots + ks) Q (F0 m (pc + 3) ls st1)) : W p l e R s m args below meth c H locs cells slots Q (F0 m pc ls st0) := by
  have hFc := fr_in (D := (dC, dI)) hD hS hA
  refine cl_M (v := v) (st1 := st1) (va_runS (As := As) (rest := rest) S ((hM.frame hperm htc) H.size) cw ((MU.pre hP hK hD (hST.mu hS hFc)).sta) rfl hn hsize hstack (lv_room hroom) hdg hf) hst1 hS (fun q _ h => hFc q h) hFc (fun t H1 locs1 ht hvm hB hz1 hk1 hS1 => ?_)
  obtain ⟨w1, t1, ⟨wf, tf, hF, rfl, rfl⟩, hP1, hK1, hD1⟩ := hB
  rw [ht] at hP1
  exact kk H1 locs1 wf tf hF hP1 (va_K.moved hvm.symm hK1) (hD1.weaken (fun _ _ _ z => hFc _ z)) hS1
theorem cl_OMI (S : CallFix p m c cc nL s args T0 own) (hM : OM l y (wd y bytes maxL none) rm dC dI wc tc (.ref b :: As) v F kc ks) (cw : CallB R s args own index y bytes maxL none (wd y bytes maxL none) rm kc ks n ∧ y.name = "<init>" ∧ (Cond.instanceMethod y).before args s = true)
    (hn : As.length = n) (hsize : ls.size = nL) (hstack : st0 = As.reverse ++ .ref b :: rest) (hroom : (rest.map fun v => v.category).sum ≤ 8) (hdg : decode cc pc = .ok (.invokespecial index, 3)) (hf : cells + kc ≤ R.cells ∧ slots + ks ≤ R.slots)
    (hperm : ws.Perm (wc ++ wr)) (htc : ∀ q ∈ tc, q ∈ tys) (hP : va_P (dC, dI) classes ws H) (hK : va_K (dC, dI) classes tys s) (hD : va_D A ws) (hS : va_S A s.heap H locs) (hA : ∀ q, s.heap.size ≤ q → A q) (hST : ST A s s.heap) (hst1 : v.toList ++ rest = st1)
    (kk : ∀ (H1 : Heap) (locs1 : List Loc) (wf : va_W) (tf : List (ClassId × FieldType)), F wf tf → va_P (dC, dI) classes (wf ++ wr) H1 → va_K (dC, dI) classes (tf ++ tys) s → va_D A (wf ++ wr) → va_S A s.heap H1 locs1 → W p l e R s m args below meth c H1 locs1 (cells + kc) (slots + ks) Q (F0 m (pc + 3) ls st1)) : W p l e R s m args below meth c H locs cells slots Q (F0 m pc ls st0) := by
  have hFc := fr_in (D := (dC, dI)) hD hS hA
  refine cl_M (v := v) (st1 := st1) (va_runI (As := As) (rest := rest) S ((hM.frame hperm htc) H.size) cw ((MU.pre hP hK hD (hST.mu hS hFc)).sta) rfl hn hsize hstack (lv_room hroom) hdg hf) hst1 hS (fun q _ h => hFc q h) hFc (fun t H1 locs1 ht hvm hB hz1 hk1 hS1 => ?_)
  obtain ⟨w1, t1, ⟨wf, tf, hF, rfl, rfl⟩, hP1, hK1, hD1⟩ := hB
  rw [ht] at hP1
  exact kk H1 locs1 wf tf hF hP1 (va_K.moved hvm.symm hK1) (hD1.weaken (fun _ _ _ z => hFc _ z)) hS1
theorem cl_OMW (S : CallFix p m c cc nL s args T0 own) (hM : OM l y (wdW y bytes maxL ret hh) rm dC dI wc tc As v F kc ks) (hl : Cond.methodLink own index y ∈ T0) (hstt : Cond.static y ∈ T0) (hini : Cond.initialized y.cls ∈ T0) (hcw : Cond.codeWith y bytes maxL ret hh ∈ T0) (hrc : rm.cells = kc) (hrs : rm.slots = ks)
    (hd : y.cls ≠ "java/lang/invoke/MethodHandle" ∧ y.cls ≠ "java/lang/invoke/VarHandle" ∧ (parseMethodDescriptor y.desc).map (fun d => d.parameters.length) = some n) (hR : rm.frames + 1 ≤ R.frames ∧ 8 + (maxL + 11) + rm.locals ≤ R.locals)
    (hn : As.length = n) (hsize : ls.size = nL) (hstack : st0 = As.reverse ++ rest) (hroom : (rest.map fun v => v.category).sum ≤ 8) (hdg : decode cc pc = .ok (.invokestatic index, 3)) (hf : cells + kc ≤ R.cells ∧ slots + ks ≤ R.slots)
    (hperm : ws.Perm (wc ++ wr)) (htc : ∀ q ∈ tc, q ∈ tys) (hP : va_P (dC, dI) classes ws H) (hK : va_K (dC, dI) classes tys s) (hD : va_D A ws) (hS : va_S A s.heap H locs) (hA : ∀ q, s.heap.size ≤ q → A q) (hST : ST A s s.heap) (hst1 : v.toList ++ rest = st1)
    (kk : ∀ (H1 : Heap) (locs1 : List Loc) (wf : va_W) (tf : List (ClassId × FieldType)), F wf tf → va_P (dC, dI) classes (wf ++ wr) H1 → va_K (dC, dI) classes (tf ++ tys) s → va_D A (wf ++ wr) → va_S A s.heap H1 locs1 → W p l e R s m args below meth c H1 locs1 (cells + kc) (slots + ks) Q (F0 m (pc + 3) ls st1)) : W p l e R s m args below meth c H locs cells slots Q (F0 m pc ls st0) := by
  have hFc := fr_in (D := (dC, dI)) hD hS hA
  refine cl_M (v := v) (st1 := st1) (runSW (As := As) (rest := rest) S ((hM.frame hperm htc) H.size) hl hstt hini hcw hrc hrs hd hR ((MU.pre hP hK hD (hST.mu hS hFc)).sta) rfl hn hsize hstack (lv_room hroom) hdg hf) hst1 hS (fun q _ h => hFc q h) hFc (fun t H1 locs1 ht hvm hB hz1 hk1 hS1 => ?_)
  obtain ⟨w1, t1, ⟨wf, tf, hF, rfl, rfl⟩, hP1, hK1, hD1⟩ := hB
  rw [ht] at hP1
  exact kk H1 locs1 wf tf hF hP1 (va_K.moved hvm.symm hK1) (hD1.weaken (fun _ _ _ z => hFc _ z)) hS1
/-- a wrapper whose callee throws: nothing that was there has changed -/
theorem cl_TW {kv : Int32} (S : CallFix p m c cc nL s args T0 own) (hM : Met l y (wdW y bytes maxL ret hh) rm (ROX dC dI wc tc As) (MV (some (.int kv)) (fun _ => True) (fun _ => False)) 1 6 (fun _ => False)) (hl : Cond.methodLink own index y ∈ T0) (hstt : Cond.static y ∈ T0) (hini : Cond.initialized y.cls ∈ T0) (hcw : Cond.codeWith y bytes maxL ret hh ∈ T0) (hrc : rm.cells = 1) (hrs : rm.slots = 6)
    (hd : y.cls ≠ "java/lang/invoke/MethodHandle" ∧ y.cls ≠ "java/lang/invoke/VarHandle" ∧ (parseMethodDescriptor y.desc).map (fun d => d.parameters.length) = some n) (hR : rm.frames + 1 ≤ R.frames ∧ 8 + (maxL + 11) + rm.locals ≤ R.locals)
    (hn : As.length = n) (hsize : ls.size = nL) (hstack : st0 = As.reverse ++ rest) (hroom : (rest.map fun v => v.category).sum ≤ 8) (hdg : decode cc pc = .ok (.invokestatic index, 3)) (hf : cells + 1 ≤ R.cells ∧ slots + 6 ≤ R.slots)
    (hwc : ∀ q ∈ wc, q ∈ ws) (htc : ∀ q ∈ tc, q ∈ tys) (hP : va_P (dC, dI) classes ws H) (hK : va_K (dC, dI) classes tys s) (hS : va_S A s.heap H locs) (hST : ST A s s.heap) (hXT : XT A s s.heap)
    (kk : ∀ (H1 : Heap), va_P (dC, dI) classes ws H1 → va_S A s.heap H1 locs → W p l e R s m args below meth c H1 locs (cells + 1) (slots + 6) Q (F0 m (pc + 3) ls (.int kv :: rest))) : W p l e R s m args below meth c H locs cells slots Q (F0 m pc ls st0) := by
  have hpre : PreS s H (ROX dC dI wc tc As) As := ROXsta ⟨vP_mem.mpr (fun q hq => vP_mem.mp hP q (hwc q hq)), vK_mem hK htc, hST.ro hS⟩ (hXT.ro hS)
  intro T hT X
  obtain ⟨w, st₀, t, T', L, h0, X', hL, e1, e2, ⟨⟨hv, -⟩, hz, hk⟩, st⟩ := runSW (As := As) (rest := rest) S hM hl hstt hini hcw hrc hrs hd hR hpre rfl hn hsize hstack (lv_room hroom) hdg hf T hT X
  cases hv
  rw [h0] at hz hk
  have hk' : ∀ q : Nat, q < H.size → T'.heap[q]? = H[q]? := fun q hq => by rw [e1]; exact hk q hq (fun z => z)
  have hz' : H.size ≤ T'.heap.size := by rw [e1]; exact hz
  obtain ⟨t2, a1, b1⟩ := kk T'.heap (vP_mem.mpr (fun q hq => vat_kept (vP_mem.mp hP q hq) (hk' q.1 (vat_lt (vP_mem.mp hP q hq))))) ⟨Nat.le_trans hS.1 hz', fun q h1 h2 => by rw [hk' q (Nat.lt_of_lt_of_le h1 hS.1)]; exact hS.2.1 q h1 h2, hS.2.2⟩ T' rfl (Stand.forget X' (fun q h => (hL q h).elim))
  exact ⟨t2, st t2 a1, b1⟩
end

