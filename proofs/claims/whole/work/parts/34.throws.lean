
/-! ===== methods that throw: nothing that was there has changed, one new object of the class X is thrown ===== -/
def TQ (X : String) : Array Value → State → Outcome → State → Prop := fun _ st o t => ∃ (a : Nat) (ce : Cell), o = .threw a ∧ t.heap[a]? = some ce ∧ st.vm.findClass X = some ce.cls ∧ ce.vm = .none ∧ (∀ q : Nat, q < st.heap.size → t.heap[q]? = st.heap[q]?) ∧ st.heap.size ≤ t.heap.size
def FrT (first : State) (o : Outcome) (t : State) (k n : Nat) : Prop := (∃ a, o = .threw a) ∧ first.WarmedH t.vm ∧ first.sameButNew ({ t with vm := first.vm } : State) [] k n
def MetT (l : Launch) (y : MethodName) (ws : List Cond) (rm : Room) (Pc : Array Value → State → Prop) (Qc : Array Value → State → Outcome → State → Prop) (mc ms : Nat) : Prop :=
  MetFree l y (headSpec ws rm) Pc (fun _ _ _ _ _ => True) (fun a st o t => Qc a st o t ∧ FrT st o t mc ms)
def MQT (below : List Frame) (Qc : Array Value → State → Outcome → State → Prop) (a : Array Value) (s : State) (mc ms : Nat) : State → Prop := fun t =>
  ∃ o, t.status = .running ∧ Ended t below o ∧ Qc a s o t ∧ FrT s o t mc ms
/-- the launch is one without stack traces -/
def NT (l : Launch) : Prop := ∀ e : Env, l.admits e → e.platform.stackTraces = false
theorem met_T {l : Launch} {y : MethodName} {ws ws' : List Cond} {rm : Room} {Pc : Array Value → State → Prop} {Qc : Array Value → State → Outcome → State → Prop} {mc ms : Nat} {cc : ByteArray} {maxL : Nat} {ret : Option FieldType}
    (hy : plainFor y = true) (hw : ws = Cond.code y cc maxL ret :: ws')
    (body : ∀ p e s m args below meth c s₁, BodyLoose p l y (headSpec ws rm) cc maxL ret e s m args below meth c s₁ → c.maxLocals = maxL → c.exceptionTable.isEmpty = true → Pc args s →
      W p l e (headSpec ws rm).room s m args below meth c s.heap [] 0 0 (MQT below Qc args s mc ms) (entryFrame m args maxL)) : MetT l y ws rm Pc Qc mc ms := by
  refine MetFree.of_bodySF (code := cc) (maxLocals := maxL) (ret := ret) hy ?_ ?_
  · intro args s m h hn
    obtain ⟨meth, c, h1, h2, h3, h4, h5, h6, -, -⟩ := Cond.code_spec hn (atoms_spec (ws := ws) h _ (by rw [hw]; exact List.mem_cons_self))
    exact ⟨meth, c, h1, h2, h3, h4, h5, h6⟩
  · intro p e s m args below meth c s₁ B hml hP _
    have hh0 : s₁.heap = s.heap := by rw [B.state]; rfl
    have hemp : c.exceptionTable.isEmpty = true := by
      obtain ⟨meth', c', h1, h2, -, -, -, -, h7, -⟩ := Cond.code_spec B.named (atoms_spec (ws := ws) B.pre _ (by rw [hw]; exact List.mem_cons_self))
      cases B.method.symm.trans h1
      cases (Stand.of_body B).code.symm.trans h2
      exact h7
    obtain ⟨t, a1, o, b1, b2, b3⟩ := body p e s m args below meth c s₁ B hml hemp hP s₁ hh0 (Stand.of_body B)
    exact ⟨t, o, a1, b1, b2, ⟨b3.1, b3.2⟩⟩
theorem noex {c : Code} (h : c.exceptionTable.isEmpty = true) (n : Nat) : ∀ x ∈ c.exceptionTable.toList, covers x n = false := by
  intro x hx
  have e : c.exceptionTable = #[] := by simpa using h
  rw [e] at hx
  cases hx
section
variable {p : Program} {l : Launch} {e : Env} {R : Room} {s : State} {m : MethodId} {args : Array Value} {below : List Frame} {meth : Method} {c : Code} {cc : ByteArray} {pc : Nat} {ls : Array Slot} {rest : List Value} {X : String} {i1 ic k qs : Nat} {tx : String} {nL : Nat} {ret : Option FieldType} {F Lc : Nat}
/-- throw new X("..") -/
theorem th_new (hno : NT l) (C0 : Cx p s m meth c args R cc "ZoneFiles" nL ret F Lc) (hemp : c.exceptionTable.isEmpty = true)
    (hd0 : decode cc pc = .ok (.new i1, 3)) (hd1 : decode cc (pc + 3) = .ok (.dup, 1)) (hd2 : decode cc (pc + 4) = .ok (.ldc k, 2)) (hd3 : decode cc (pc + 6) = .ok (.invokespecial ic, 3)) (hd4 : decode cc (pc + 9) = .ok (.athrow, 1))
    (hat : ∀ a ∈ Bundle.ownAtoms "ZoneFiles" ic X ["java/lang/RuntimeException", "java/lang/Exception"], a.before args s = true) (hcl : (Cond.classLink "ZoneFiles" i1 X).before args s = true) (hin : (Cond.instantiable X 6).before args s = true) (hini : (Cond.initialized X).before args s = true)
    (hstr : vk_R "ZoneFiles" k tx qs s) (hfit : Bundle.fit X = true) (hRc : 1 ≤ R.cells) (hRs : 6 ≤ R.slots) (hF : 6 ≤ F) (hL : 100 ≤ Lc) (hsz : ls.size = nL) (hrest : (rest.map fun v => v.category).sum ≤ 8) :
    W p l e R s m args below meth c s.heap [] 0 0 (MQT below (TQ X) args s 1 6) (F0 m pc ls rest) := by
  obtain ⟨hx, hb, hr, hml, hown, hts, hlocks, hRf, hRl⟩ := id C0
  refine W.newc hx hb hown hcl hin hini rfl hd0 (by omega) (by omega) (fun cC kC h1 h2 h3 h4 => ?_)
  refine W.eq (g2 := F0 m (pc + 3) ls (.ref s.heap.size :: rest)) rfl ?_
  refine lv_dup hx hb hd1 rfl ?_
  refine va_ldcS hx hb hown hstr hd2 ?_
  intro T hT X0
  have hcell : T.heap[s.heap.size]? = some (freshCell cC kC) := by rw [hT]; simp [freshCell]
  obtain ⟨U, st, hrun, hend, hW, hsame, ce, hce, hoc⟩ := X0.ctorThrowS hx (hno e X0.admits) hown hfit (by decide) hat (fun x hx => by cases hx) h1 h2 hcell (Nat.le_refl _) (msg := .ref qs) rfl (g := F0 m (pc + 3 + 1 + 2) ls (.ref qs :: .ref s.heap.size :: .ref s.heap.size :: rest)) rfl (hsz.trans hml.symm) rfl rfl (rest := rest) rfl (by rw [hb]; exact hd3) (by rw [hb]; exact hd4) (noex hemp _)
    (by show 2 + 3 < R.frames; omega) (by
      have e1 : (F0 m (pc + 3 + 1 + 2) ls (.ref qs :: .ref s.heap.size :: .ref s.heap.size :: rest)).monitorRoom = 0 := rfl
      have e2 : (Value.ref s.heap.size).category = 1 := rfl
      rw [e1]
      simp only [List.map_cons, List.sum_cons, List.length_cons, List.length_nil, e2]
      omega) hlocks
  refine ⟨U, st, .threw _, hrun, hend, ⟨_, ce, rfl, hce, hoc.cls, hoc.vm, fun q hq => ?_, hsame.2.1⟩, ⟨_, rfl⟩, hW, hsame⟩
  have h5 : ({ U with vm := s.vm } : State).heap[q]? = s.heap[q]? := by
    rw [Array.getElem?_eq_getElem hq]
    exact State.sameButNew.old_cell hsame (Array.getElem?_eq_getElem hq)
  exact h5
end
section
variable {p : Program} {l : Launch} {e : Env} {R : Room} {s : State} {m : MethodId} {args : Array Value} {below : List Frame} {meth : Method} {c : Code} {H : Heap} {locs : List Loc} {cells slots : Nat} {Q : State → Prop}
variable {cc : ByteArray} {pc : Nat} {ls : Array Slot} {rest : List Value} {D : va_G} {cl : List vw_C} {a : Nat} {tys : List (ClassId × FieldType)} {ws : va_W}
/-- an element of an array of references, by what is known of it -/
theorem zf_ald (hx : p.tables.exec = Jvm.exec) (hb : c.code = cc) (hK : va_K D cl tys s) (hP : va_P D cl ws H) (q0 t0 : Nat) {cA : ClassId} {C : String} {n zz : Nat} {f : Nat → Option Nat} (ha : ws[q0]? = some (a, .inl (cA, n, .inr (.inr (.inr (.inr f)))))) (ht : tys[t0]? = some (cA, .object C)) {i : Int32} (hin : vp_in i n) (hz : f i.toNatClampNeg = some zz) (hd : decode cc pc = .ok (.aaload, 1))
    (kk : W p l e R s m args below meth c H locs cells slots Q (F0 m (pc + 1) ls (.ref zz :: rest))) : W p l e R s m args below meth c H locs cells slots Q (F0 m pc ls (.int i :: .ref a :: rest)) :=
  va_aldq hx hb hK hP q0 t0 ha ht hin hd (by rw [hz]; exact kk)
end

