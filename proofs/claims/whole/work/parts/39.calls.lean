
/-! ===== calls of methods that throw ===== -/
section
variable {p : Program} {l : Launch} {e : Env} {R : Room} {s : State} {m : MethodId} {args : Array Value} {below : List Frame} {meth : Method} {c : Code} {y : MethodName} {ws : List Cond} {rm : Room} {Pc : Array Value → State → Prop} {X : String} {bytes : ByteArray} {maxL : Nat} {ret : Option FieldType}
/-- behind the invoking instruction: the callee runs, throws, and the note lies over the caller's frame -/
theorem th_core (hM : MetT l y ws rm Pc (TQ X) 1 6) {U : State} (Z : Stand p l e R s m args below meth c U [] 0 0) {g : JFrame} (hg : g.method = m) (hsize : g.locals.size = c.maxLocals) {ig : Instr} {len : Nat} (hdg : decode c.code g.pc = .ok (ig, len))
    (hW : 2 * g.monitorRoom + (g.stack.map fun v => v.category).sum ≤ 8) {mk : MethodId} {a : Array Value} (hn : U.methodNamed? y = some mk) (hcode : (Cond.code y bytes maxL ret).before a U = true) (hini : (Cond.initialized y.cls).before a U = true) (hws : ∀ w ∈ ws, w.before a U = true)
    (hframes : rm.frames + 1 ≤ R.frames) (hlocals : 8 + (maxL + 11) + rm.locals ≤ R.locals) (hcells : rm.cells ≤ R.cells) (hslots : rm.slots ≤ R.slots) (hP : Pc a (U.calling g mk a)) :
    ∃ (x : Addr) (t V : State), V.heap = t.heap ∧ TQ X a (U.calling g mk a) (.threw x) t ∧ Stand p l e R s m args below meth c V [] 1 6 ∧ Steps p.tables e below (doInvoke e (U.setTop g) [] mk a).1 ((V.setTop g).pushFrame (.throwing x)) := by
  obtain ⟨methY, cY, hmY, hcY, -, hlY, -, -, -, -⟩ := Cond.code_spec hn hcode
  obtain ⟨kY, hkY, -⟩ := className_of_methodNamed hn
  have hinitY : kY.init = .initialized := Cond.initialized_spec (findClass_of_methodNamed hn) hkY hini
  have h : At U g.method c below := by rw [hg]; exact Z.here
  have happ : (headSpec ws rm).appliesLoose y e.platform (U.calling g mk a) = true :=
    Spec.appliesLoose_calling (g := g) h hdg hn hkY hinitY
      (Z.room_calling (g := g) (R' := (headSpec ws rm).room) hsize hmY hcY hframes (by
        show 2 * g.monitorRoom + (g.stack.map fun v => v.category).sum + (cY.maxLocals + 11) + rm.locals ≤ R.locals
        rw [hlY]; omega) (by show 0 + rm.cells ≤ R.cells; omega) (by show 0 + rm.slots ≤ R.slots; omega)) (atoms_intro fun w hw => hws w hw)
  obtain ⟨mid, hmid⟩ := h.above
  have hfr : (U.setTop g).frames = (.java g :: mid) ++ below := by rw [State.frames_setTop' g h.top, hmid]; rfl
  obtain ⟨o, s₂, hsteps, -, hend, hq, hfe⟩ := Steps.callFree hM p Z.admits Z.cas Z.clock (acts := []) hfr happ hP trivial
  rw [State.frames_setTop' g h.top] at hend
  have hq' : TQ X a (U.calling g mk a) o s₂ := hq
  have hfe' : FrT (U.calling g mk a) o s₂ 1 6 := hfe
  obtain ⟨⟨v, rfl⟩, hW₂, e2, q2, q3, q4, q5, q6⟩ := id hfe'
  have e3 : s₂ = ({ (U.calling g mk a).setFrames s₂.frames with heap := s₂.heap, slotsUsed := s₂.slotsUsed } : State).setVm s₂.vm := by
    have hh : s₂ = ({ s₂ with vm := (U.calling g mk a).vm } : State).setVm s₂.vm := rfl
    rw [e2] at hh
    exact hh
  have hf₂ : s₂.frames = .throwing v :: .java g :: U.frames.tail := hend
  have hW' : U.WarmedH s₂.vm := hW₂
  obtain ⟨g₀, hg0⟩ := Option.isSome_iff_exists.mp h.top
  obtain ⟨r, hr⟩ := State.topJava?_eq_some.mp hg0
  have hs₂ : s₂ = ((({ U with heap := s₂.heap, slotsUsed := s₂.slotsUsed } : State).setVm s₂.vm).setTop g).pushFrame (.throwing v) := by
    have hr' : (({ U with heap := s₂.heap, slotsUsed := s₂.slotsUsed } : State).setVm s₂.vm).frames = .java g₀ :: r := hr
    refine e3.trans ?_
    rw [hf₂, State.calling_eq h.top, State.setFrames_setFrames, State.pushFrame, State.frames_setTop _ hr', State.setTop_of_frames _ hr', State.setFrames_setFrames, hr]
    rfl
  have hsame : U.sameButNew ({ U with heap := s₂.heap, slotsUsed := s₂.slotsUsed } : State) [] 1 6 := by
    refine ⟨?_, q2, q3, q4, q5, q6⟩
    obtain ⟨t, ht, -⟩ := State.frames_cons hr
    show ({ U with heap := s₂.heap, slotsUsed := s₂.slotsUsed } : State) = { U.setFrames U.frames with heap := s₂.heap, slotsUsed := s₂.slotsUsed }
    rw [State.setFrames_self ht]
  subst hg
  refine ⟨v, s₂, ({ U with heap := s₂.heap, slotsUsed := s₂.slotsUsed } : State).setVm s₂.vm, rfl, hq',
    ⟨Z.admits, Z.cas, Z.clock, Z.frames, Z.room, Z.hears, Z.method, Z.code, (Z.here.setHeapUsed s₂.heap s₂.slotsUsed).setVm hW'.alike, Z.tail, State.WarmedH.trans Z.warmed hW', Z.limits, Z.bytes, Z.same.trans (hsame.setVm s.vm)⟩, ?_⟩
  rw [← hs₂]
  exact hsteps
end
section
variable {p : Program} {l : Launch} {e : Env} {R : Room} {s : State} {m : MethodId} {args : Array Value} {below : List Frame} {meth : Method} {c : Code} {y : MethodName} {ws : List Cond} {rm : Room} {Pc : Array Value → State → Prop} {X : String} {bytes cc : ByteArray} {maxL n index nL : Nat} {ret : Option FieldType} {own : String} {Ts : List Cond} {Q : State → Prop} {pc : Nat} {ls : Array Slot} {As rest st0 : List Value}
/-- invokestatic of a method that throws: what is owed is said of the note over the caller's own frame -/
theorem th_goS (S : CallFix p m c cc nL s args Ts own) (hM : MetT l y ws rm Pc (TQ X) 1 6) (cw : CallB R s args own index y bytes maxL ret ws rm 1 6 n ∧ (Cond.static y).before args s = true) (hp : PreS s s.heap Pc As)
    (hn : As.length = n) (hsize : ls.size = nL) (hstack : st0 = As.reverse ++ rest) (hW : (rest.map fun v => v.category).sum ≤ 8) (hdg : decode cc pc = .ok (.invokestatic index, 3)) (hc6 : 1 ≤ R.cells ∧ 6 ≤ R.slots)
    (kk : ∀ (x : Addr) (V : State) (ce : Cell), V.heap[x]? = some ce → s.vm.findClass X = some ce.cls → ce.vm = .none → (∀ q : Nat, q < s.heap.size → V.heap[q]? = s.heap[q]?) → s.heap.size ≤ V.heap.size → Stand p l e R s m args below meth c V [] 1 6 →
      ∃ u, Steps p.tables e below ((V.setTop (F0 m pc ls rest)).pushFrame (.throwing x)) u ∧ Q u) : W p l e R s m args below meth c s.heap [] 0 0 Q (F0 m pc ls st0) := by
  obtain ⟨⟨hrc, hrs, hfr, hlo, hws, hcw, hcode, hini, hy, hlen, hl⟩, hstat⟩ := cw
  obtain ⟨hx, hb, hml, ho, -⟩ := S
  intro T hT Z
  obtain ⟨mk, hnamed⟩ := Cond.code_named hcode
  obtain ⟨methM, cM, hmethM, -, -, -, -, -, -, hsigM⟩ := Cond.code_spec hnamed hcode
  have hstatic : methM.isStatic = true := Cond.static_spec hnamed hmethM hstat
  obtain ⟨kP, hkP, -⟩ := className_of_methodNamed hnamed
  have hinitP : kP.init = .initialized := Cond.initialized_spec (findClass_of_methodNamed hnamed) hkP hini
  have hdg' : decode c.code pc = .ok (.invokestatic index, 3) := by rw [hb]; exact hdg
  obtain ⟨vm₁, X₁, hstep₁⟩ := Z.invokestatic hx ho hl hnamed hmethM hstatic hkP hinitP hy (g := F0 m pc ls st0) rfl (argsL := As) (rest := rest) (hn.trans (hlen _ hsigM)) hstack hdg'
  obtain ⟨x, t, V, hVt, hq, hStV, hst⟩ := th_core hM X₁ (g := F0 m pc ls rest) rfl (hsize.trans hml.symm) hdg' (by
      have e1 : (F0 m pc ls rest).monitorRoom = 0 := rfl
      rw [e1]; simpa using hW) (X₁.named hnamed) (hws _ hcw As.toArray (T.setVm vm₁) X₁.warmed) (word_at X₁.warmed (Or.inl (by first | rfl | simp [Cond.onTables, Cond.keeps, Cond.steady])) hini) (fun w hw => hws w hw _ _ X₁.warmed) hfr hlo (by omega) (by omega) (hp.1 _ _ _ _ (hp.2 (T.setVm vm₁) hT X₁.warmed))
  obtain ⟨x', ce, hxx, hce, hcls, hvm, hold, hsz⟩ := hq
  cases hxx
  have hUh : ((T.setVm vm₁).calling (F0 m pc ls rest) mk As.toArray).heap = s.heap := hT
  rw [hUh] at hold hsz
  have hcls' : s.vm.findClass X = some ce.cls := by
    have h1 : (T.setVm vm₁).vm.findClass X = some ce.cls := hcls
    rw [← X₁.warmed.alike.findClass X none]; exact h1
  obtain ⟨u, hu, hQ⟩ := kk x V ce (by rw [hVt]; exact hce) hcls' hvm (fun q h => by rw [hVt]; exact hold q h) (by rw [hVt]; exact hsz) hStV
  exact ⟨u, hstep₁ _ (fun acts => by rw [doInvoke_state]; exact hst.trans hu), hQ⟩
end
section
variable {p : Program} {l : Launch} {e : Env} {R : Room} {s : State} {m : MethodId} {args : Array Value} {below : List Frame} {meth : Method} {c : Code} {y : MethodName} {ws : List Cond} {rm : Room} {Pc : Array Value → State → Prop} {X : String} {bytes cc : ByteArray} {maxL n index nL : Nat} {ret : Option FieldType} {own C : String} {Ts : List Cond} {Q : State → Prop} {pc : Nat} {ls : Array Slot} {As rest st0 : List Value} {b : Addr}
/-- invokevirtual of a method that throws, at any heap -/
theorem th_goV {H : Heap} {locs : List Loc} {cells slots : Nat} (S : CallFix p m c cc nL s args Ts own) (hM : MetT l y ws rm Pc (TQ X) 1 6) (cw : CallW R s args own C index y bytes maxL ret ws rm 1 6 n) (hp : PreV s s.heap C b Pc As)
    (hn : As.length = n) (hsize : ls.size = nL) (hstack : st0 = As.reverse ++ .ref b :: rest) (hW : (rest.map fun v => v.category).sum ≤ 8) (hdg : decode cc pc = .ok (.invokevirtual index, 3)) (hc6 : 1 ≤ R.cells ∧ 6 ≤ R.slots)
    (kk : ∀ (x : Addr) (V : State) (ce : Cell), V.heap[x]? = some ce → s.vm.findClass X = some ce.cls → ce.vm = .none → (∀ q : Nat, q < s.heap.size → V.heap[q]? = s.heap[q]?) → s.heap.size ≤ V.heap.size → Stand p l e R s m args below meth c V [] 1 6 →
      ∃ u, Steps p.tables e below ((V.setTop (F0 m pc ls rest)).pushFrame (.throwing x)) u ∧ Q u) : W p l e R s m args below meth c s.heap [] 0 0 Q (F0 m pc ls st0) := by
  obtain ⟨⟨hrc, hrs, hfr, hlo, hws, hcw, hcode, hini, hy, hlen, hl⟩, hinst, hsel⟩ := cw
  obtain ⟨hx, hb, hml, ho, -⟩ := S
  obtain ⟨hbl, ⟨cellB, hcB, hoB, hclB⟩, hPc⟩ := hp
  intro T hT Z
  obtain ⟨mk, methM, hnamed, hmethM, hstM, habM⟩ := Cond.instanceMethod_spec hinst
  obtain ⟨methM', cM, hmethM', -, -, -, -, -, -, hsigM⟩ := Cond.code_spec hnamed hcode
  cases hmethM.symm.trans hmethM'
  obtain ⟨c2, r2, m2, q1, q2, q3, q4, kP, hkP, hkPi⟩ := Cond.selects_spec hsel
  cases hclB.symm.trans q1
  cases (State.methodFound?_of_named hnamed hy).symm.trans q2
  cases hnamed.symm.trans q3
  have hselP : selectMethod e.platform s.vm cellB.cls mk = .method mk := by rw [Launch.admits_selectMethod Z.admits]; exact q4
  have hdg' : decode c.code pc = .ok (.invokevirtual index, 3) := by rw [hb]; exact hdg
  obtain ⟨vm₁, X₁, hstep₁⟩ := Z.invokevirtual hx ho hl hnamed hmethM hstM hkP hkPi hy (a := b) (cell := cellB) (by rw [hT]; exact hcB) (fun z h => by rw [h] at hoB; cases hoB) hselP hmethM habM hkP hkPi (g := F0 m pc ls st0) rfl (argsL := As) (rest := rest) (hn.trans (hlen _ hsigM)) hstack hdg'
  obtain ⟨x, t, V, hVt, hq, hStV, hst⟩ := th_core hM X₁ (g := F0 m pc ls rest) rfl (hsize.trans hml.symm) hdg' (by
      have e1 : (F0 m pc ls rest).monitorRoom = 0 := rfl
      rw [e1]; simpa using hW) (X₁.named hnamed) (hws _ hcw (Value.ref b :: As).toArray (T.setVm vm₁) X₁.warmed) (word_at X₁.warmed (Or.inl (by first | rfl | simp [Cond.onTables, Cond.keeps, Cond.steady])) hini) (fun w hw => hws w hw _ _ X₁.warmed) hfr hlo (by omega) (by omega) (hbl _ _ _ _ (hPc (T.setVm vm₁) hT X₁.warmed))
  obtain ⟨x', ce, hxx, hce, hcls, hvm, hold, hsz⟩ := hq
  cases hxx
  have hUh : ((T.setVm vm₁).calling (F0 m pc ls rest) mk (Value.ref b :: As).toArray).heap = s.heap := hT
  rw [hUh] at hold hsz
  have hcls' : s.vm.findClass X = some ce.cls := by
    have h1 : (T.setVm vm₁).vm.findClass X = some ce.cls := hcls
    rw [← X₁.warmed.alike.findClass X none]; exact h1
  obtain ⟨u, hu, hQ⟩ := kk x V ce (by rw [hVt]; exact hce) hcls' hvm (fun q h => by rw [hVt]; exact hold q h) (by rw [hVt]; exact hsz) hStV
  exact ⟨u, hstep₁ _ (fun acts => by rw [doInvoke_state]; exact hst.trans hu), hQ⟩
/-- what is thrown in a callee leaves this method too -/
theorem th_out (hlocks : meth.locks = false) (hemp : c.exceptionTable.isEmpty = true) {x : Addr} {V : State} {ce : Cell} (hce : V.heap[x]? = some ce) (hcls : s.vm.findClass X = some ce.cls) (hvm : ce.vm = .none) (hold : ∀ q : Nat, q < s.heap.size → V.heap[q]? = s.heap[q]?) (hsz : s.heap.size ≤ V.heap.size) (Z : Stand p l e R s m args below meth c V [] 1 6) :
    ∃ u, Steps p.tables e below ((V.setTop (F0 m pc ls rest)).pushFrame (.throwing x)) u ∧ MQT below (TQ X) args s 1 6 u := by
  obtain ⟨h1, h2, h3, h4, h5⟩ := Z.leaveThrown x (g := F0 m pc ls rest) rfl rfl rfl (noex hemp _) hlocks
  exact ⟨_, h1, .threw x, h2, h3, ⟨x, ce, rfl, hce, hcls, hvm, hold, hsz⟩, ⟨x, rfl⟩, h4, h5⟩
end
/-! a handler whose class may not have been resolved yet -/
section
variable {Q : Handler → Pre} {E : CtlPost} {e : Env} {d : Bool} {acts : List Action} {s : State} {f : JFrame} {a : Addr}
theorem fh_cold {x : ExceptionTableEntry} {t : List ExceptionTableEntry} {c : ClassId} {cell : Cell} {vm' : Vm} (hx : covers x f.pc = true) (h0 : x.catchType ≠ 0) (hg : (Jvm.resolveClass f.method.cls x.catchType).Gives e.toSetting s.vm (.ok c) vm') (hsz : vm'.classes.size ≤ s.vm.classes.size)
    (hcell : s.heap[a]? = some cell) (hobj : ∀ k, cell.vm ≠ .statics k) (hk : ∃ k, vm'.classes[cell.cls]? = some k) (hc : ∃ k, vm'.classes[c]? = some k) :
    wp (findHandler.go f a (x :: t)) Q E e d acts s ↔ if vm'.assignable cell.cls c = true then Q (.found x.handlerPc) d acts (s.setVm vm') else wp (findHandler.go f a t) Q E e d acts (s.setVm vm') := by
  simp only [covers] at hx
  obtain ⟨ha, ht⟩ := hg.op (op := VmOp.resolveClass f.method.cls x.catchType) rfl
  cases hfit : vm'.assignable cell.cls c <;>
    simp [findHandler.go, hx, h0, ha, ht, hsz, hcell, hobj, hk, hc, hfit, VmOp.dirties, VmOp.acts]
end
section
variable {p : Program} {l : Launch} {e : Env} {R : Room} {s : State} {m : MethodId} {args : Array Value} {below : List Frame} {meth : Method} {c : Code} {H : Heap} {locs : List Loc} {cells slots : Nat} {Q : State → Prop} {cc : ByteArray} {pc : Nat} {ls : Array Slot} {rest : List Value}
theorem th_ldcwX {T : State} (X : Stand p l e R s m args below meth c T locs cells slots) (hexec : p.tables.exec = Jvm.exec) {own text : String} {index : Nat} {a : Addr} (hown : s.vm.findClass own = some m.cls)
    (hconst : (Cond.stringRef own index text).before args s = true) (hev : (Term.string own index).eval args s none [] s = some (.ref a)) {g : JFrame} (hg : g.method = m) (hdg : decode c.code g.pc = .ok (.ldc_w index, 3)) :
    ∀ target, Steps p.tables e below (T.setTop { g with pc := g.pc + 3, stack := .ref a :: g.stack }) target → Steps p.tables e below (T.setTop g) target := by
  obtain ⟨k, cf, i, a', hk, hcf, hcp, -, hr, hev'⟩ := Cond.stringRef_spec hown hconst
  cases hev.symm.trans hev'
  obtain ⟨k', hk', he⟩ := X.warmed.alike.2.2 _ _ hk
  have hr' : k'.resolved[index]? = some (some (.string a)) := by
    rcases X.warmed.entry hk hk' index with h | ⟨h, -⟩
    · rw [h]; exact hr
    · rw [hr] at h; cases h
  intro target hrest
  subst hg
  jvm_step X.here [hexec, hdg, ldc_w.wp_string (e := e) (s := T) (f := g) X.here.top hk' (by rw [he]; exact hcf) hcp hr']
  exact hrest
theorem th_ldcwS (hexec : p.tables.exec = Jvm.exec) (hb : c.code = cc) {own tx : String} {index q : Nat} (hown : s.vm.findClass own = some m.cls) (hZ : vk_R own index tx q s) (hdg : decode cc pc = .ok (.ldc_w index, 3))
    (k : W p l e R s m args below meth c H locs cells slots Q (F0 m (pc + 3) ls (.ref q :: rest))) : W p l e R s m args below meth c H locs cells slots Q (F0 m pc ls rest) := by
  intro T hT X
  obtain ⟨t, a1, b1⟩ := k T hT X
  exact ⟨t, th_ldcwX X hexec hown (text := tx) (a := q) hZ.1 hZ.2 (g := F0 m pc ls rest) rfl (by rw [hb]; exact hdg) t a1, b1⟩
end
section
variable {p : Program} {l : Launch} {e : Env} {R : Room} {s : State} {m : MethodId} {args : Array Value} {below : List Frame} {meth : Method} {c : Code} {cc : ByteArray} {pc : Nat} {ls : Array Slot} {rest : List Value} {X : String} {i1 ic k qs : Nat} {tx : String} {nL : Nat} {ret : Option FieldType} {F Lc : Nat}
/-- throw new X("..") -/
theorem th_newW (hno : NT l) (C0 : Cx p s m meth c args R cc "ZoneFiles" nL ret F Lc) (hemp : c.exceptionTable.isEmpty = true)
    (hd0 : decode cc pc = .ok (.new i1, 3)) (hd1 : decode cc (pc + 3) = .ok (.dup, 1)) (hd2 : decode cc (pc + 4) = .ok (.ldc_w k, 3)) (hd3 : decode cc (pc + 7) = .ok (.invokespecial ic, 3)) (hd4 : decode cc (pc + 10) = .ok (.athrow, 1))
    (hat : ∀ a ∈ Bundle.ownAtoms "ZoneFiles" ic X ["java/lang/RuntimeException", "java/lang/Exception"], a.before args s = true) (hcl : (Cond.classLink "ZoneFiles" i1 X).before args s = true) (hin : (Cond.instantiable X 6).before args s = true) (hini : (Cond.initialized X).before args s = true)
    (hstr : vk_R "ZoneFiles" k tx qs s) (hfit : Bundle.fit X = true) (hRc : 1 ≤ R.cells) (hRs : 6 ≤ R.slots) (hF : 6 ≤ F) (hL : 100 ≤ Lc) (hsz : ls.size = nL) (hrest : (rest.map fun v => v.category).sum ≤ 8) :
    W p l e R s m args below meth c s.heap [] 0 0 (MQT below (TQ X) args s 1 6) (F0 m pc ls rest) := by
  obtain ⟨hx, hb, hr, hml, hown, hts, hlocks, hRf, hRl⟩ := id C0
  refine W.newc hx hb hown hcl hin hini rfl hd0 (by omega) (by omega) (fun cC kC h1 h2 h3 h4 => ?_)
  refine W.eq (g2 := F0 m (pc + 3) ls (.ref s.heap.size :: rest)) rfl ?_
  refine lv_dup hx hb hd1 rfl ?_
  refine th_ldcwS hx hb hown hstr hd2 ?_
  intro T hT X0
  have hcell : T.heap[s.heap.size]? = some (freshCell cC kC) := by rw [hT]; simp [freshCell]
  obtain ⟨U, st, hrun, hend, hW, hsame, ce, hce, hoc⟩ := X0.ctorThrowS hx (hno e X0.admits) hown hfit (by decide) hat (fun x hx => by cases hx) h1 h2 hcell (Nat.le_refl _) (msg := .ref qs) rfl (g := F0 m (pc + 3 + 1 + 3) ls (.ref qs :: .ref s.heap.size :: .ref s.heap.size :: rest)) rfl (hsz.trans hml.symm) rfl rfl (rest := rest) rfl (by rw [hb]; exact hd3) (by rw [hb]; exact hd4) (noex hemp _)
    (by show 2 + 3 < R.frames; omega) (by
      have e1 : (F0 m (pc + 3 + 1 + 3) ls (.ref qs :: .ref s.heap.size :: .ref s.heap.size :: rest)).monitorRoom = 0 := rfl
      have e2 : (Value.ref s.heap.size).category = 1 := rfl
      rw [e1]
      simp only [List.map_cons, List.sum_cons, List.length_cons, List.length_nil, e2]
      omega) hlocks
  refine ⟨U, st, .threw _, hrun, hend, ⟨_, ce, rfl, hce, hoc.cls, hoc.vm, fun q hq => ?_, hsame.2.1⟩, ⟨_, rfl⟩, hW, hsame⟩
  have h5 : ({ U with vm := s.vm } : State).heap[q]? = s.heap[q]? := by
    rw [Array.getElem?_eq_getElem hq]
    exact State.sameButNew.old_cell hsame (Array.getElem?_eq_getElem hq)
  exact h5
end

