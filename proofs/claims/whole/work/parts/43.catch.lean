
/-! ===== catching; calls of methods with an exception table ===== -/
section
variable {p : Program} {l : Launch} {e : Env} {R : Room} {s : State} {m : MethodId} {args : Array Value} {below : List Frame} {meth : Method} {c : Code} {V : State} {locs : List Loc} {cells slots : Nat} {Q : State → Prop}
theorem W_up {H : Heap} {cells' slots' : Nat} {g : JFrame} (hc : cells ≤ cells') (hs : slots ≤ slots') (h : W p l e R s m args below meth c H locs cells' slots' Q g) : W p l e R s m args below meth c H locs cells slots Q g := fun T hT X => h T hT { X with same := X.same.weaken (fun y hy _ => hy) hc hs }
def FG (e : Env) (f : JFrame) (a : Addr) (t : List ExceptionTableEntry) (U : State) (pc : Nat) (vm' : Vm) : Prop := ∀ (Q : Handler → Pre) (E : CtlPost) (d : Bool) (acts : List Action), wp (findHandler.go f a t) Q E e d acts U ↔ Q (.found pc) d acts (U.setVm vm')
theorem cat_res (Z : Stand p l e R s m args below meth c V locs cells slots) {own name : String} {index : Nat} (hown : s.vm.findClass own = some m.cls) (hlink : (Cond.classLink own index name).before args s = true) {cT : ClassId} (hcT : s.vm.findClass name = some cT) :
    ∃ vm', Stand p l e R s m args below meth c (V.setVm vm') locs cells slots ∧ (Jvm.resolveClass m.cls index).Gives e.toSetting V.vm (.ok cT) vm' ∧ vm'.classes.size ≤ V.vm.classes.size ∧ s.WarmedH vm' ∧ ∃ k, vm'.classes[cT]? = some k := by
  have hpl : e.platform.magicAccessors = ({} : Platform).magicAccessors := by rw [Z.admits.platform]
  obtain ⟨c', hc', hcl⟩ := Cond.classLink_spec hown hlink e.platform hpl
  cases hcT.symm.trans hc'
  obtain ⟨dk, _, _, kt, hd, _, _, _, _, hkt, _, hopen⟩ := hcl.here
  have hcl₀ := Z.warmed.classLinks hcl
  have hW' : s.WarmedH (V.vm.noted m.cls index (.cls cT)) := Z.warmed.noted hd hopen (State.rightAt_cls hcl)
  obtain ⟨kt', hkt', -⟩ := hW'.alike.2.2 _ _ hkt
  exact ⟨_, Z.noted hW', resolveClass_links e.toSetting hcl₀, by rw [Vm.size_note]; exact Nat.le_refl _, hW', kt', hkt'⟩
theorem cat_hit (Z : Stand p l e R s m args below meth c V locs cells slots) {own name : String} {index : Nat} (hown : s.vm.findClass own = some m.cls) (hlink : (Cond.classLink own index name).before args s = true)
    {x : Addr} {ce : Cell} (hce : V.heap[x]? = some ce) (hvm : ce.vm = .none) (hX : s.vm.findClass name = some ce.cls) (hk : ∃ k, s.vm.classes[ce.cls]? = some k) (hca : va_Nw (.castable name name) s) {g : JFrame} (hg : g.method = m) {en : ExceptionTableEntry} {t : List ExceptionTableEntry} (hcov : covers en g.pc = true) (hct : en.catchType = index) (h0 : index ≠ 0) :
    ∃ vm', Stand p l e R s m args below meth c (V.setVm vm') locs cells slots ∧ FG e g x (en :: t) ((V.setTop g).pushFrame (.throwing x)) en.handlerPc vm' := by
  obtain ⟨vm', h1, h2, h3, h4, h5⟩ := cat_res Z hown hlink hX
  obtain ⟨c3, t3, w1, w2, w3⟩ := Cond.castable_spec hca
  cases hX.symm.trans w1
  cases hX.symm.trans w2
  obtain ⟨k, hk⟩ := hk
  obtain ⟨k', hk', -⟩ := h4.alike.2.2 _ _ hk
  refine ⟨vm', h1, fun Q E d acts => ?_⟩
  have hv : ((V.setTop g).pushFrame (.throwing x)).vm = V.vm := Stand.throwing_vm ..
  have hh : ((V.setTop g).pushFrame (.throwing x)).heap = V.heap := Stand.throwing_heap ..
  subst hct
  subst hg
  rw [fh_cold (c := ce.cls) (cell := ce) (vm' := vm') hcov h0 (by rw [hv]; exact h2) (by rw [hv]; exact h3) (by rw [hh]; exact hce) (fun k h => by rw [hvm] at h; cases h) ⟨k', hk'⟩ h5, if_pos (by rw [h4.alike.assignable]; exact w3)]
theorem cat_pass (Z : Stand p l e R s m args below meth c V locs cells slots) {own name X : String} {index : Nat} (hown : s.vm.findClass own = some m.cls) (hlink : (Cond.classLink own index name).before args s = true)
    {x : Addr} {ce : Cell} (hce : V.heap[x]? = some ce) (hvm : ce.vm = .none) (hX : s.vm.findClass X = some ce.cls) (hk : ∃ k, s.vm.classes[ce.cls]? = some k) (hNC : th_NC X name s) {g : JFrame} (hg : g.method = m) {en : ExceptionTableEntry} {t : List ExceptionTableEntry} (hcov : covers en g.pc = true) (hct : en.catchType = index) (h0 : index ≠ 0) {pc : Nat}
    (kk : ∀ vm1, Stand p l e R s m args below meth c (V.setVm vm1) locs cells slots → ∃ vm', Stand p l e R s m args below meth c ((V.setVm vm1).setVm vm') locs cells slots ∧ FG e g x t (((V.setVm vm1).setTop g).pushFrame (.throwing x)) pc vm') :
    ∃ vm', Stand p l e R s m args below meth c (V.setVm vm') locs cells slots ∧ FG e g x (en :: t) ((V.setTop g).pushFrame (.throwing x)) pc vm' := by
  obtain ⟨cx, cy, n1, n2, n3⟩ := hNC
  cases hX.symm.trans n1
  obtain ⟨vm1, h1, h2, h3, h4, h5⟩ := cat_res Z hown hlink n2
  obtain ⟨k, hk⟩ := hk
  obtain ⟨k', hk', -⟩ := h4.alike.2.2 _ _ hk
  obtain ⟨vm', hs, hf⟩ := kk vm1 h1
  refine ⟨vm', hs, fun Q E d acts => ?_⟩
  have hv : ((V.setTop g).pushFrame (.throwing x)).vm = V.vm := Stand.throwing_vm ..
  have hh : ((V.setTop g).pushFrame (.throwing x)).heap = V.heap := Stand.throwing_heap ..
  subst hct
  subst hg
  rw [fh_cold (c := cy) (cell := ce) (vm' := vm1) hcov h0 (by rw [hv]; exact h2) (by rw [hv]; exact h3) (by rw [hh]; exact hce) (fun k h => by rw [hvm] at h; cases h) ⟨k', hk'⟩ h5, if_neg (by rw [h4.alike.assignable, n3]; decide)]
  exact hf Q E d acts
theorem cat_go (Z : Stand p l e R s m args below meth c V locs cells slots) {g : JFrame} (hg : g.method = m) {x : Addr} {hpc : Nat}
    (h : ∃ vm', Stand p l e R s m args below meth c (V.setVm vm') locs cells slots ∧ FG e g x c.exceptionTable.toList ((V.setTop g).pushFrame (.throwing x)) hpc vm')
    (kw : W p l e R s m args below meth c V.heap locs cells slots Q { g with pc := hpc, stack := [.ref x] }) : ∃ u, Steps p.tables e below ((V.setTop g).pushFrame (.throwing x)) u ∧ Q u := by
  obtain ⟨vm', Z', hf⟩ := h
  have hAt : At V g.method c below := by rw [hg]; exact Z.here
  have hv : ((V.setTop g).pushFrame (.throwing x)).vm = V.vm := Stand.throwing_vm ..
  have hm : ((V.setTop g).pushFrame (.throwing x)).vm.method? g.method = some meth := by rw [hv, hg]; exact Z.method'
  have hfind : ∀ (Q : Handler → Pre) (E : CtlPost) (d : Bool) (acts : List Action), wp (findHandler g x) Q E e d acts ((V.setTop g).pushFrame (.throwing x)) ↔ Q (.found hpc) d acts (((V.setTop g).pushFrame (.throwing x)).setVm vm') := fun Q E d acts => (W.findHandler_eq hm Z.code).trans (hf Q E d acts)
  obtain ⟨t, a1, b1⟩ := kw (V.setVm vm') rfl Z'
  refine ⟨t, ?_, b1⟩
  have hstep : ∀ r : List Frame, (stepThrowing e ((V.setTop g).pushFrame (.throwing x)) x (.java g :: r)).Is ((((V.setTop g).pushFrame (.throwing x)).setVm vm').setFrames (.java { g with pc := hpc, stack := [.ref x] } :: r)) [] := by
    intro r
    simp only [stepThrowing, searchFrame, vmDo]
    generalize hr : Sem.go _ e false [] ((V.setTop g).pushFrame (.throwing x)) = res
    obtain ⟨as, rfl, ha⟩ := Sem.eq_ok_of hr (a := Handler.found hpc) (s' := ((V.setTop g).pushFrame (.throwing x)).setVm vm') (acts' := []) (by simp [hfind])
    exact ⟨rfl, ha⟩
  obtain ⟨hgo, hw⟩ := hAt.throwing x
  refine Steps.head hgo hw ?_
  rw [stepThread_throwing (frames_entered hAt.top _), (hstep _).1]
  obtain ⟨g₀, hg0⟩ := Option.isSome_iff_exists.mp hAt.top
  obtain ⟨r, hr⟩ := State.topJava?_eq_some.mp hg0
  have hr' : (V.setVm vm').frames = .java g₀ :: r := hr
  rw [State.setTop_of_frames _ hr'] at a1
  have e1 : (((V.setTop g).pushFrame (.throwing x)).setVm vm').setFrames (.java { g with pc := hpc, stack := [.ref x] } :: V.frames.tail) = ((V.setVm vm').setFrames (.java { g with pc := hpc, stack := [.ref x] } :: r)) := by
    rw [State.pushFrame, State.setTop_of_frames _ hr, State.setFrames_setFrames, hr]
    show ((V.setVm vm').setFrames _).setFrames _ = _
    rw [State.setFrames_setFrames]
    rfl
  rw [e1]
  exact a1
end
section
variable {p : Program} {l : Launch} {e : Env} {R : Room} {s : State} {m : MethodId} {args : Array Value} {below : List Frame} {meth : Method} {c : Code} {H : Heap} {locs : List Loc} {cells slots : Nat}
variable {y : MethodName} {bytes cc : ByteArray} {maxL nL mc ms n index : Nat} {ret : Option FieldType} {hh : List (Nat × Nat × Nat × Nat)} {rm : Room} {Pc : Array Value → State → Prop} {Qc : Array Value → State → Outcome → State → Prop} {free : Addr → Prop} {own : String} {As rest : List Value} {g : JFrame}
theorem runSW (S : CallFix p m c cc nL s args T0 own) (hM : Met l y (wdW y bytes maxL ret hh) rm Pc Qc mc ms free) (hl : Cond.methodLink own index y ∈ T0) (hstt : Cond.static y ∈ T0) (hini : Cond.initialized y.cls ∈ T0) (hcw : Cond.codeWith y bytes maxL ret hh ∈ T0) (hrc : rm.cells = mc) (hrs : rm.slots = ms)
    (hd : y.cls ≠ "java/lang/invoke/MethodHandle" ∧ y.cls ≠ "java/lang/invoke/VarHandle" ∧ (parseMethodDescriptor y.desc).map (fun d => d.parameters.length) = some n) (hR : rm.frames + 1 ≤ R.frames ∧ 8 + (maxL + 11) + rm.locals ≤ R.locals) (hp : PreS s H Pc As)
    (hg : g.method = m) (hn : As.length = n) (hsize : g.locals.size = nL) (hstack : g.stack = As.reverse ++ rest) (hW : 2 * g.monitorRoom + (rest.map fun v => v.category).sum ≤ 8) (hdg : decode cc g.pc = .ok (.invokestatic index, 3)) (hf : cells + mc ≤ R.cells ∧ slots + ms ≤ R.slots) :
    va_Run p l e R s m args below meth c H locs cells slots mc ms g rest (Qc As.toArray) (free) := by
  obtain ⟨hx, hb, hml, ho, hts⟩ := S
  have hK : Back l R p e below s args y 3 8 (PreOf R mc ms Pc) (PostOf Qc mc ms free) := va_backW (bytes := bytes) (maxL := maxL) (ret := ret) (hh := hh) hM hp.1 hrc hrs hR.1 hR.2 (pay_in hts (gdW_of hcw)) List.mem_cons_self (fun a' U hW => word_at hW (Or.inl (by first | rfl | simp [Cond.onTables, Cond.keeps, Cond.steady])) (hts _ hini))
  intro T hT X
  obtain ⟨mk, methM, cM, hnamed, hmethM, -, -, -, -, -, -, hsigM⟩ := Cond.codeWith_spec (hts _ hcw)
  have hstatic : methM.isStatic = true := Cond.static_spec hnamed hmethM (hts _ hstt)
  obtain ⟨kP, hkP, -⟩ := className_of_methodNamed hnamed
  have hinitP : kP.init = .initialized := Cond.initialized_spec (findClass_of_methodNamed hnamed) hkP (hts _ hini)
  have hdg' : decode c.code g.pc = .ok (.invokestatic index, 3) := by rw [hb]; exact hdg
  have hlen : n = methM.sig.parameters.length := by
    have h2 := hd.2.2
    rw [hsigM] at h2
    exact (Option.some.inj h2).symm
  obtain ⟨vm₁, X₁, hstep₁⟩ := X.invokestatic hx ho (hts _ hl) hnamed hmethM hstatic hkP hinitP ⟨hd.1, hd.2.1⟩ (g := g) hg (argsL := As) (rest := rest) (hn.trans hlen) hstack hdg'
  obtain ⟨v, B, X', hpost, hsteps⟩ := hK m meth c ⟨T.setVm vm₁, locs, cells, slots⟩ { g with stack := rest } (.invokestatic index) mk As.toArray X₁ hg (hsize.trans hml.symm) hdg' hW (X₁.named hnamed) ⟨hf.1, hf.2, hp.2 (T.setVm vm₁) hT X₁.warmed⟩
  obtain ⟨U', l2, c2, s2⟩ := B
  obtain ⟨g', mk', t, L, e1, e2, hq, h1, hL, h2, h3⟩ := hpost
  dsimp only [Pt.U, Pt.locs, Pt.cells, Pt.slots] at X' e1 e2 h1 h2 h3 hsteps
  subst h1; subst h2; subst h3
  exact ⟨v, (T.setVm vm₁).calling g' mk' As.toArray, t, U', L, hT, X', hL, e1, e2, hq, fun target h => hstep₁ _ fun acts => by rw [doInvoke_state]; exact hsteps.trans h⟩
end
theorem met_MW {l : Launch} {y : MethodName} {b : ByteArray} {nL F Lc kc ks sz : Nat} {ret : Option FieldType} {hh : List (Nat × Nat × Nat × Nat)} {Qc : Array Value → State → Outcome → State → Prop} {dC : Nat → ClassId} {dI : Nat → Nat → Nat} {ws : va_W} {tys : List (ClassId × FieldType)} {av : List Value} (hy : plainName y.cls = true) (hn : (lg_sl av).length ≤ nL)
    (hbody : ∀ (p : Program) (e : Env) (R : Room) (s : State) (m : MethodId) (args : Array Value) (below : List Frame) (meth : Method) (c : Code) (ls : Array Slot), R.cells = kc → R.slots = ks → s.heap.size = sz → Cx p s m meth c args R b y.cls nL ret F Lc → ST (va_A ws sz) s s.heap → va_K (dC, dI) classes tys s → va_P (dC, dI) classes ws s.heap → va_D (va_A ws sz) ws → lv_has ls nL (lv_args 0 av) →
      W p l e R s m args below meth c s.heap [] 0 0 (MQ below Qc args s kc ks (va_A ws sz)) (F0 m 0 ls [])) : Met l y (wdW y b nL ret hh) ({ frames := F, cells := kc, slots := ks, locals := Lc }) (MU dC dI ws tys sz av) Qc kc ks (va_A ws sz) := by
  refine va_MetW (cc := b) (maxL := nL) (ret := ret) hy rfl ?_
  intro p e s m args below meth c s₁ B hml0 hv
  obtain ⟨ha, hsz, hP, hK, hD, hST⟩ := hv
  have C0 := Cx.ofW B hml0
  have ef : entryFrame m args nL = F0 m 0 ((lg_sl av ++ List.replicate (nL - (lg_sl av).length) Slot.unset).toArray) [] := by rw [ha]; exact lg_entry_eq _ _ _
  rw [ef]
  exact hbody p e _ s m args below meth c _ rfl rfl hsz C0 hST hK hP hD.self (lv_entry av hn)
theorem met_TW {l : Launch} {y : MethodName} {b : ByteArray} {nL F Lc : Nat} {ret : Option FieldType} {hh : List (Nat × Nat × Nat × Nat)} {Qc : Array Value → State → Outcome → State → Prop} {dC : Nat → ClassId} {dI : Nat → Nat → Nat} {ws : va_W} {tys : List (ClassId × FieldType)} {av : List Value} (hy : plainName y.cls = true) (hn : (lg_sl av).length ≤ nL)
    (hbody : ∀ (p : Program) (e : Env) (R : Room) (s : State) (m : MethodId) (args : Array Value) (below : List Frame) (meth : Method) (c : Code) (ls : Array Slot), 1 ≤ R.cells → 6 ≤ R.slots → c.exceptionTable.toList.map (fun h => (h.startPc, h.endPc, h.handlerPc, h.catchType)) = hh → Cx p s m meth c args R b y.cls nL ret F Lc → ST (fun _ => False) s s.heap → XT (fun _ => False) s s.heap → va_K (dC, dI) classes tys s → va_P (dC, dI) classes ws s.heap → lv_has ls nL (lv_args 0 av) →
      W p l e R s m args below meth c s.heap [] 0 0 (MQ below Qc args s 1 6 (fun _ => False)) (F0 m 0 ls [])) : Met l y (wdW y b nL ret hh) ({ frames := F, cells := 1, slots := 6, locals := Lc }) (ROX dC dI ws tys av) Qc 1 6 (fun _ => False) := by
  refine va_MetW (cc := b) (maxL := nL) (ret := ret) hy rfl ?_
  intro p e s m args below meth c s₁ B hml0 hv
  obtain ⟨ha, hP, hK, hST, hXT⟩ := hv
  have C0 := Cx.ofW B hml0
  have ef : entryFrame m args nL = F0 m 0 ((lg_sl av ++ List.replicate (nL - (lg_sl av).length) Slot.unset).toArray) [] := by rw [ha]; exact lg_entry_eq _ _ _
  rw [ef]
  exact hbody p e _ s m args below meth c _ (Nat.le_refl _) (Nat.le_refl _) (exTab B) C0 hST hXT hK hP (lv_entry av hn)
/-- the world of a wrapper: its long[1], and the class's own -/
def oC (o : Nat) (cA : ClassId) (f : Nat → Int64) : Nat × va_E := (o, .inl (cA, 1, .inr (.inl f)))
def oF (F : va_W → List (ClassId × FieldType) → Prop) (o : Nat) (cA : ClassId) (f : Nat → Int64) (tc : List (ClassId × FieldType)) (ans : Int64) : va_W → List (ClassId × FieldType) → Prop := fun w t => ∃ wf tf, F wf tf ∧ w = wf ++ [oC o cA (vp_updL f 0 ans)] ∧ t = tf ++ (cA, .long) :: tc
section
variable {p : Program} {l : Launch} {e : Env} {R : Room} {s : State} {m : MethodId} {args : Array Value} {below : List Frame} {meth : Method} {c : Code} {cc bC : ByteArray} {nL nC Fr Lc n idx kc ks pc pc2 tgt : Nat} {rC : Option FieldType} {yC : MethodName} {rmC : Room} {dC : Nat → ClassId} {dI : Nat → Nat → Nat} {wc : va_W} {tc : List (ClassId × FieldType)} {hx o : Nat} {cA : ClassId} {f : Nat → Int64} {fs As : List Value} {F : va_W → List (ClassId × FieldType) → Prop} {ls : Array Slot} {off : Int}
/-- behind the call: the answer goes to out[0]; 0 -/
theorem wr_end (C0 : Cx p s m meth c args R cc "ZoneFilesLaw" nL (some .int) Fr Lc) {H : Heap} {locs : List Loc} {wf : va_W} {tf : List (ClassId × FieldType)} {ans : Int64} {A : Nat → Prop} (hF : F wf tf) (hP : va_P (dC, dI) classes (wf ++ [oC o cA f]) H) (hK : va_K (dC, dI) classes (tf ++ (cA, .long) :: tc) s) (hD : va_D A (wf ++ [oC o cA f])) (hS : va_S A s.heap H locs)
    (h1 : decode cc pc2 = .ok (.lastore, 1)) (h2 : decode cc (pc2 + 1) = .ok (.goto off, 3)) (ht : ((pc2 + 1 : Nat) : Int) + off = (tgt : Int)) (h3 : decode cc tgt = .ok (.iconst 0, 1)) (h4 : decode cc (tgt + 1) = .ok (.ireturn, 1)) :
    W p l e R s m args below meth c H locs kc ks (MQ below (MV (some (.int 0)) (WF dC dI (oF F o cA f tc ans) A) A) args s kc ks A) (F0 m pc2 ls [.long ans, .int 0, .ref o]) := by
  obtain ⟨hx', hb, hr, hml, hown, hts, hlocks, hRf, hRl⟩ := id C0
  refine va_last hx' hb hK hP hD hS wf.length tf.length (a := o) (cA := cA) (n := 1) (f := f) (by simp [oC]) (by simp) (by show ¬ ((0 : Int32) < 0 ∨ 1 ≤ (0 : Int32).toNatClampNeg); decide) h1 (fun H1 locs1 hP1 hD1 hS1 => ?_)
  have e1 : (wf ++ [oC o cA f]).set wf.length (o, .inl (cA, 1, .inr (.inl (vp_updL f (0 : Int32).toNatClampNeg ans)))) = wf ++ [oC o cA (vp_updL f 0 ans)] := by
    rw [List.set_append_right _ _ (Nat.le_refl _), Nat.sub_self]
    rfl
  rw [e1] at hP1 hD1
  refine lv_goto (tgt := tgt) hx' hb h2 ht ?_
  refine lv_iconst (v := 0) hx' hb h3 (by decide) ?_
  exact W.iret hx' hb hr (fun t ht hW => ⟨⟨rfl, _, _, ⟨wf, tf, hF, rfl, rfl⟩, by rw [ht]; exact hP1, va_K.moved hW.alike hK, hD1⟩, hS1.F ht⟩) hS1.2.2 h4
theorem wr_ret (C0 : Cx p s m meth c args R cc "ZoneFilesLaw" nL (some .int) Fr Lc) {v : Value} {ans : Int64} (hM : OM l yC (wd yC bC nC rC) rmC dC dI wc tc (.ref hx :: As) (some v) F kc ks) (hRc : R.cells = kc) (hRs : R.slots = ks)
    (cw : CallW R s args "ZoneFilesLaw" "ZoneFiles" idx yC bC nC rC (wd yC bC nC rC) rmC kc ks n) (hn : As.length = n) (hw0 : wc[0]? = some (hx, .inr (9, fs)))
    (hP : va_P (dC, dI) classes (oC o cA f :: wc) s.heap) (hK : va_K (dC, dI) classes ((cA, .long) :: tc) s) (hD : va_D (va_A (oC o cA f :: wc) s.heap.size) (oC o cA f :: wc)) (hST : ST (va_A (oC o cA f :: wc) s.heap.size) s s.heap) (hsz : ls.size = nL) (hd : decode cc pc = .ok (.invokevirtual idx, 3))
    (kk : ∀ (H : Heap) (locs : List Loc) (wf : va_W) (tf : List (ClassId × FieldType)), F wf tf → va_P (dC, dI) classes (wf ++ [oC o cA f]) H → va_K (dC, dI) classes (tf ++ (cA, .long) :: tc) s → va_D (va_A (oC o cA f :: wc) s.heap.size) (wf ++ [oC o cA f]) → va_S (va_A (oC o cA f :: wc) s.heap.size) s.heap H locs →
      W p l e R s m args below meth c H locs kc ks (MQ below (MV (some (.int 0)) (WF dC dI (oF F o cA f tc ans) (va_A (oC o cA f :: wc) s.heap.size)) (va_A (oC o cA f :: wc) s.heap.size)) args s kc ks (va_A (oC o cA f :: wc) s.heap.size)) (F0 m (pc + 3) ls [v, .int 0, .ref o])) :
    W p l e R s m args below meth c s.heap [] 0 0 (MQ below (MV (some (.int 0)) (WF dC dI (oF F o cA f tc ans) (va_A (oC o cA f :: wc) s.heap.size)) (va_A (oC o cA f :: wc) s.heap.size)) args s kc ks (va_A (oC o cA f :: wc) s.heap.size)) (F0 m pc ls (As.reverse ++ .ref hx :: [.int 0, .ref o])) := by
  obtain ⟨hx', hb, hr, hml, hown, hts, hlocks, hRf, hRl⟩ := id C0
  have hperm : (oC o cA f :: wc).Perm (wc ++ [oC o cA f]) := List.perm_append_comm (l₁ := [oC o cA f])
  have hM2 := (hM.frame hperm (tE := (cA, .long) :: tc) (fun q h => List.mem_cons_of_mem _ h)) s.heap.size
  have hw1 : (oC o cA f :: wc)[1]? = some (hx, .inr (9, fs)) := by rw [List.getElem?_cons_succ]; exact hw0
  have hmu : MUat s s.heap dC dI (oC o cA f :: wc) ((cA, .long) :: tc) := MU.pre hP hK hD hST
  refine cl_M (v := some v) (st1 := [v, .int 0, .ref o]) (va_runV (As := As) (rest := [.int 0, .ref o]) ⟨hx', hb, hml, hown, hts⟩ hM2 cw (hmu.vir (va_recv hK hP (ci := 9) (q0 := 1) rfl hw1)) rfl hn hsz rfl (lv_room (Nat.le_of_ble_eq_true rfl)) hd ⟨by omega, by omega⟩) rfl va_S.rf (fun q _ h => h) (fun q h => h) (fun t H1 locs1 ht hvm hB hz1 hk1 hS => ?_)
  obtain ⟨w1, t1, ⟨wf, tf, hF, rfl, rfl⟩, hP1, hK1, hD1⟩ := hB
  rw [ht] at hP1
  have hK1 := va_K.moved hvm.symm hK1
  have q := kk H1 locs1 wf tf hF hP1 hK1 hD1 hS
  rw [Nat.zero_add, Nat.zero_add]
  exact q
/-- behind the call: a throw is caught -/
theorem wr_thr (C0 : Cx p s m meth c args R cc "ZoneFilesLaw" nL (some .int) Fr Lc) {X : String} {kv : Int32} {hpc : Nat} (hM : MetT l yC (wd yC bC nC rC) rmC (ROX dC dI wc tc (.ref hx :: As)) (TQ X) 1 6) (hRc : 1 ≤ R.cells) (hRs : 6 ≤ R.slots)
    (cw : CallW R s args "ZoneFilesLaw" "ZoneFiles" idx yC bC nC rC (wd yC bC nC rC) rmC 1 6 n) (hn : As.length = n) (hrv : ∃ cellB : Cell, s.heap[hx]? = some cellB ∧ cellB.vm.isStatics = false ∧ s.vm.findClass "ZoneFiles" = some cellB.cls)
    (hP : va_P (dC, dI) classes wc s.heap) (hK : va_K (dC, dI) classes tc s) (hST : ST (fun _ => False) s s.heap) (hXT : XT (fun _ => False) s s.heap) (hsz : ls.size = nL) (hd : decode cc pc = .ok (.invokevirtual idx, 3))
    (kc : ∀ (x : Addr) (V : State) (ce : Cell), V.heap[x]? = some ce → s.vm.findClass X = some ce.cls → ce.vm = .none → Stand p l e R s m args below meth c V [] 1 6 → ∃ vm', Stand p l e R s m args below meth c (V.setVm vm') [] 1 6 ∧ FG e (F0 m pc ls [.int 0, .ref o]) x c.exceptionTable.toList ((V.setTop (F0 m pc ls [.int 0, .ref o])).pushFrame (.throwing x)) hpc vm')
    (kw : ∀ (x : Nat) (H : Heap), (∀ q : Nat, q < s.heap.size → H[q]? = s.heap[q]?) → s.heap.size ≤ H.size → W p l e R s m args below meth c H [] 1 6 (MQ below (MV (some (.int kv)) (fun _ => True) (fun _ => False)) args s 1 6 (fun _ => False)) (F0 m hpc ls [.ref x])) :
    W p l e R s m args below meth c s.heap [] 0 0 (MQ below (MV (some (.int kv)) (fun _ => True) (fun _ => False)) args s 1 6 (fun _ => False)) (F0 m pc ls (As.reverse ++ .ref hx :: [.int 0, .ref o])) := by
  obtain ⟨hx', hb, hr, hml, hown, hts, hlocks, hRf, hRl⟩ := id C0
  refine th_goV (H := s.heap) (locs := []) (cells := 0) (slots := 0) (As := As) (rest := [.int 0, .ref o]) ⟨hx', hb, hml, hown, hts⟩ hM cw (ROXvir ⟨hP, hK, hST⟩ hXT hrv) hn hsz rfl (Nat.le_of_ble_eq_true rfl) hd ⟨hRc, hRs⟩ (fun x V ce h1 h2 h3 h4 h5 h6 => ?_)
  exact cat_go h6 rfl (kc x V ce h1 h2 h3 h6) (kw x V.heap h4 h5)
theorem wr_done (C0 : Cx p s m meth c args R cc "ZoneFilesLaw" nL (some .int) Fr Lc) {kv : Int32} {H : Heap} {ls : Array Slot} (hold : ∀ q : Nat, q < s.heap.size → H[q]? = s.heap[q]?) (hsz : s.heap.size ≤ H.size) (hd : decode cc pc = .ok (.ireturn, 1)) :
    W p l e R s m args below meth c H [] 1 6 (MQ below (MV (some (.int kv)) (fun _ => True) (fun _ => False)) args s 1 6 (fun _ => False)) (F0 m pc ls [.int kv]) := by
  obtain ⟨hx', hb, hr, hml, hown, hts, hlocks, hRf, hRl⟩ := id C0
  exact W.iret hx' hb hr (fun t ht hW => ⟨⟨rfl, trivial⟩, by rw [ht]; exact hsz, fun q hq _ => by rw [ht]; exact hold q hq⟩) (fun _ h => by cases h) hd
theorem x_at {X : String} {ce : Cell} (hin : (Cond.instantiable X 6).before args s = true) (h : s.vm.findClass X = some ce.cls) : ∃ k, s.vm.classes[ce.cls]? = some k := by
  obtain ⟨c, k, h1, h2, -⟩ := Cond.instantiable_spec hin
  cases h.symm.trans h1
  exact ⟨k, h2⟩
end

