
/-! ===== worlds as sets; contracts in the form of sets; the frame rule for contracts ===== -/
section
variable {D : va_G} {cl : List vw_C} {A : Nat → Prop} {ws ws' a b : va_W} {H H1 : Heap}
theorem vP_mem : va_P D cl ws H ↔ ∀ q ∈ ws, va_at D cl q H := by
  constructor
  · intro h q hq
    obtain ⟨k, hk⟩ := List.getElem?_of_mem hq
    exact h k q hk
  · intro h k q hk
    exact h q (List.mem_of_getElem? hk)
theorem vP_app : va_P D cl (a ++ b) H ↔ va_P D cl a H ∧ va_P D cl b H := by
  rw [vP_mem, vP_mem, vP_mem]
  constructor
  · intro h
    exact ⟨fun q hq => h q (List.mem_append_left _ hq), fun q hq => h q (List.mem_append_right _ hq)⟩
  · intro h q hq
    rcases List.mem_append.mp hq with hq | hq
    · exact h.1 q hq
    · exact h.2 q hq
theorem va_P.perm (h : va_P D cl ws H) (hp : ws.Perm ws') : va_P D cl ws' H := vP_mem.mpr (fun q hq => vP_mem.mp h q (hp.mem_iff.mpr hq))
theorem vD_iff : va_D A ws ↔ (ws.map Prod.fst).Nodup ∧ ∀ q ∈ ws, A q.1 := by
  induction ws with
  | nil => exact ⟨fun _ => ⟨List.nodup_nil, fun q h => by cases h⟩, fun _ => ⟨fun i j p q h => by simp at h, fun k q h => by simp at h⟩⟩
  | cons x l ih =>
    constructor
    · intro h
      have hl : va_D A l := ⟨fun i j p q hi hj e => Nat.succ.inj (h.1 (i + 1) (j + 1) p q (by simpa using hi) (by simpa using hj) e), fun k q hk => h.2 (k + 1) q (by simpa using hk)⟩
      obtain ⟨h1, h2⟩ := ih.mp hl
      refine ⟨List.nodup_cons.mpr ⟨fun hm => ?_, h1⟩, fun q hq => ?_⟩
      · obtain ⟨q, hq, e⟩ := List.mem_map.mp hm
        obtain ⟨k, hk⟩ := List.getElem?_of_mem hq
        have := h.1 0 (k + 1) x q rfl (by simpa using hk) e.symm
        omega
      · rcases List.mem_cons.mp hq with rfl | hq
        · exact h.2 0 _ rfl
        · exact h2 q hq
    · intro h
      obtain ⟨hn, hm⟩ := List.nodup_cons.mp h.1
      have hl := ih.mpr ⟨hm, fun q hq => h.2 q (List.mem_cons_of_mem _ hq)⟩
      refine ⟨fun i j p q hi hj e => ?_, fun k q hk => h.2 q (List.mem_of_getElem? hk)⟩
      cases i with
      | zero =>
        cases j with
        | zero => rfl
        | succ j =>
          have e1 : x = p := by simpa using hi
          have hq : q ∈ l := List.mem_of_getElem? (by simpa using hj)
          exact absurd (List.mem_map.mpr ⟨q, hq, by rw [e1]; exact e.symm⟩) hn
      | succ i =>
        cases j with
        | zero =>
          have e1 : x = q := by simpa using hj
          have hp : p ∈ l := List.mem_of_getElem? (by simpa using hi)
          exact absurd (List.mem_map.mpr ⟨p, hp, by rw [e1]; exact e⟩) hn
        | succ j => rw [hl.1 i j p q (by simpa using hi) (by simpa using hj) e]
theorem va_D.perm (h : va_D A ws) (hp : ws.Perm ws') : va_D A ws' := by
  obtain ⟨h1, h2⟩ := vD_iff.mp h
  exact vD_iff.mpr ⟨(hp.map Prod.fst).nodup_iff.mp h1, fun q hq => h2 q (hp.mem_iff.mpr hq)⟩
theorem vA_mem {sz x : Nat} : va_A ws sz x ↔ x ∈ ws.map Prod.fst ∨ sz ≤ x := by
  constructor
  · rintro (⟨k, e, h⟩ | h)
    · exact Or.inl (List.mem_map.mpr ⟨_, List.mem_of_getElem? h, rfl⟩)
    · exact Or.inr h
  · rintro (h | h)
    · obtain ⟨q, hq, rfl⟩ := List.mem_map.mp h
      obtain ⟨k, hk⟩ := List.getElem?_of_mem hq
      exact Or.inl ⟨k, q.2, hk⟩
    · exact Or.inr h
theorem vat_lt {q : Nat × va_E} (h : va_at D cl q H) : q.1 < H.size := by
  obtain ⟨x, e⟩ := q
  cases e with
  | inl y => exact (Array.getElem?_eq_some_iff.mp h).1
  | inr y =>
    obtain ⟨r, h1, cell, h2, -⟩ := h
    exact (Array.getElem?_eq_some_iff.mp h2).1
theorem vat_kept {q : Nat × va_E} (h : va_at D cl q H) (e : H1[q.1]? = H[q.1]?) : va_at D cl q H1 := by
  obtain ⟨x, y⟩ := q
  cases y with
  | inl y => exact e.trans h
  | inr y =>
    obtain ⟨r, h1, h2⟩ := h
    exact ⟨r, h1, h2.kept e⟩
theorem vK_mem {tys tys' : List (ClassId × FieldType)} {U : State} (h : va_K D cl tys U) (hs : ∀ q ∈ tys', q ∈ tys) : va_K D cl tys' U := ⟨h.1, fun k q hk => by
  obtain ⟨i, hi⟩ := List.getElem?_of_mem (hs q (List.mem_of_getElem? hk))
  exact h.2 i q hi⟩
end
def WF (dC : Nat → ClassId) (dI : Nat → Nat → Nat) (F : va_W → List (ClassId × FieldType) → Prop) (A : Nat → Prop) : State → Prop := fun t => ∃ wf tf, F wf tf ∧ va_P (dC, dI) classes wf t.heap ∧ va_K (dC, dI) classes tf t ∧ va_D A wf
/-- a contract: any start that holds the world wc; behind it one of the worlds F -/
def OM (l : Launch) (y : MethodName) (ws : List Cond) (rm : Room) (dC : Nat → ClassId) (dI : Nat → Nat → Nat) (wc : va_W) (tc : List (ClassId × FieldType)) (av : List Value) (v : Option Value) (F : va_W → List (ClassId × FieldType) → Prop) (kc ks : Nat) : Prop :=
  ∀ sz : Nat, Met l y ws rm (MU dC dI wc tc sz av) (MV v (WF dC dI F (va_A wc sz)) (va_A wc sz)) kc ks (va_A wc sz)
theorem met_mono {l : Launch} {y : MethodName} {ws : List Cond} {rm : Room} {P P' : Array Value → State → Prop} {Q Q' : Array Value → State → Outcome → State → Prop} {mc ms : Nat} {free free' : Addr → Prop} (hM : Met l y ws rm P Q mc ms free) (hP : ∀ a U, P' a U → P a U)
    (hQ : ∀ a st o t, P' a st → Q a st o t → st.WarmedH t.vm → Q' a st o t) (hf : ∀ q, free q → free' q) : Met l y ws rm P' Q' mc ms free' := by
  intro p e h1 h2 h3 s m args below h4 h5 h6 _
  obtain ⟨n, o, a1, a2, a3, a4, L, a5, a6⟩ := hM p e h1 h2 h3 s m args below h4 h5 (hP _ _ h6) trivial
  exact ⟨n, o, a1, a2, a3, hQ _ _ _ _ h6 a4 a5.2.1, L, a5, fun q hq => hf _ (a6 q hq)⟩
section
variable {l : Launch} {y : MethodName} {ws : List Cond} {rm : Room} {dC : Nat → ClassId} {dI : Nat → Nat → Nat} {wc wr E : va_W} {tc tE : List (ClassId × FieldType)} {av : List Value} {v : Option Value} {F F' : va_W → List (ClassId × FieldType) → Prop} {kc ks : Nat}
theorem OM.imp (h : OM l y ws rm dC dI wc tc av v F kc ks) (hF : ∀ w t, F w t → F' w t) : OM l y ws rm dC dI wc tc av v F' kc ks := fun sz => met_mono (h sz) (fun _ _ z => z) (fun a st o t _ hQ _ => by
  obtain ⟨⟨h1, wf, tf, h2, h3⟩, h4⟩ := hQ
  exact ⟨⟨h1, wf, tf, hF _ _ h2, h3⟩, h4⟩) (fun _ z => z)
theorem OM.ofRO (h : Met l y ws rm (RO dC dI wc tc av) (SV v) 0 0 (fun _ => False)) : OM l y ws rm dC dI wc tc av v (fun w t => w = wc ∧ t = tc) 0 0 := fun sz => met_mono h (fun a U z => by
    obtain ⟨q0, q1, qP, qK, qD, qS⟩ := z
    exact ⟨q0, qP, qK, qS.narrow (fun _ z => z.elim)⟩) (fun a st o t z hQ hW => by
    obtain ⟨q0, q1, qP, qK, qD, qS⟩ := z
    obtain ⟨h1, h2⟩ := hQ
    exact ⟨⟨h1, wc, tc, ⟨rfl, rfl⟩, by rw [h2]; exact qP, va_K.moved hW.alike qK, qD.self⟩, by rw [h2]; exact Nat.le_refl _, fun q _ _ => by rw [h2]⟩) (fun _ z => z.elim)
theorem OM.ofMU {w1 : va_W} {t1 : List (ClassId × FieldType)} (h : ∀ sz, Met l y ws rm (MU dC dI wc tc sz av) (MV v (fun t => va_P (dC, dI) classes w1 t.heap ∧ va_K (dC, dI) classes t1 t ∧ va_D (va_A wc sz) w1) (va_A wc sz)) kc ks (va_A wc sz)) : OM l y ws rm dC dI wc tc av v (fun w t => w = w1 ∧ t = t1) kc ks := fun sz => met_mono (h sz) (fun _ _ z => z) (fun a st o t _ hQ _ => by
  obtain ⟨⟨h1, h2⟩, h4⟩ := hQ
  exact ⟨⟨h1, w1, t1, ⟨rfl, rfl⟩, h2⟩, h4⟩) (fun _ z => z)
theorem OM.frame (h : OM l y ws rm dC dI wc tc av v F kc ks) (hp : E.Perm (wc ++ wr)) (ht : ∀ q ∈ tc, q ∈ tE) : OM l y ws rm dC dI E tE av v (fun w t => ∃ wf tf, F wf tf ∧ w = wf ++ wr ∧ t = tf ++ tE) kc ks := by
  intro sz
  have hin : ∀ q, va_A wc sz q → va_A E sz q := fun q hq => by
    rcases vA_mem.mp hq with hq | hq
    · exact vA_mem.mpr (Or.inl ((hp.map Prod.fst).mem_iff.mpr (by rw [List.map_append]; exact List.mem_append_left _ hq)))
    · exact vA_mem.mpr (Or.inr hq)
  refine met_mono (h sz) (fun a U z => ?_) (fun a st o t z hQ hW => ?_) hin
  · obtain ⟨q0, q1, qP, qK, qD, qS⟩ := z
    have hD := qD.perm hp
    refine ⟨q0, q1, (vP_app.mp (qP.perm hp)).1, vK_mem qK ht, ?_, qS.narrow hin⟩
    obtain ⟨n1, n2⟩ := vD_iff.mp hD
    rw [List.map_append] at n1
    exact vD_iff.mpr ⟨(List.nodup_append.mp n1).1, fun _ _ => trivial⟩
  · obtain ⟨q0, q1, qP, qK, qD, qS⟩ := z
    obtain ⟨⟨h1, wf, tf, h2, h3, h4, h5⟩, h6, h7⟩ := hQ
    obtain ⟨pc, pr⟩ := vP_app.mp (qP.perm hp)
    obtain ⟨n1, -⟩ := vD_iff.mp (qD.perm hp)
    rw [List.map_append] at n1
    obtain ⟨n2, n3, n4⟩ := List.nodup_append.mp n1
    have hlt : ∀ q ∈ wr, q.1 < st.heap.size := fun q hq => vat_lt (vP_mem.mp pr q hq)
    have hnot : ∀ q ∈ wr, ¬ va_A wc sz q.1 := fun q hq hA => by
      rcases vA_mem.mp hA with hA | hA
      · exact n4 _ hA _ (List.mem_map.mpr ⟨q, hq, rfl⟩) rfl
      · have := hlt q hq
        omega
    have hwr : va_P (dC, dI) classes wr t.heap := vP_mem.mpr (fun q hq => vat_kept (vP_mem.mp pr q hq) (h7 q.1 (hlt q hq) (hnot q hq)))
    obtain ⟨m1, m2⟩ := vD_iff.mp h5
    refine ⟨⟨h1, wf ++ wr, tf ++ tE, ⟨wf, tf, h2, rfl, rfl⟩, vP_app.mpr ⟨h3, hwr⟩, h4.app (va_K.moved hW.alike qK), ?_⟩, h6, fun q hq hA => h7 q hq (fun z => hA (hin q z))⟩
    refine vD_iff.mpr ⟨?_, fun q hq => ?_⟩
    · rw [List.map_append]
      refine List.nodup_append.mpr ⟨m1, n3, fun x hx z hz e => ?_⟩
      obtain ⟨q, hq, rfl⟩ := List.mem_map.mp hx
      obtain ⟨q', hq', rfl⟩ := List.mem_map.mp hz
      exact hnot q' hq' (e ▸ m2 q hq)
    · rcases List.mem_append.mp hq with hq | hq
      · exact hin _ (m2 q hq)
      · exact vA_mem.mpr (Or.inl ((hp.map Prod.fst).mem_iff.mpr (by rw [List.map_append]; exact List.mem_append_right _ (List.mem_map.mpr ⟨q, hq, rfl⟩))))
end
/-! ===== methods with an exception table ===== -/
def wdW (y : MethodName) (b : ByteArray) (n : Nat) (r : Option FieldType) (hh : List (Nat × Nat × Nat × Nat)) : List Cond := .codeWith y b n r hh :: T0
theorem gdW_of {y : MethodName} {b : ByteArray} {n : Nat} {r : Option FieldType} {hh : List (Nat × Nat × Nat × Nat)} (h : Cond.codeWith y b n r hh ∈ T0) : GoodIn T0 (wdW y b n r hh) := by
  intro w hw
  rcases List.mem_cons.mp hw with rfl | hw
  · exact ⟨h, T0_good _ h⟩
  · exact ⟨hw, T0_good _ hw⟩
theorem Cx.ofW {p : Program} {l : Launch} {y : MethodName} {cc : ByteArray} {nL : Nat} {ret : Option FieldType} {hh : List (Nat × Nat × Nat × Nat)} {rm : Room} {e : Env} {s : State} {m : MethodId} {args : Array Value} {below : List Frame} {meth : Method} {c : Code} {s₁ : State}
    (B : BodyLoose p l y (headSpec (wdW y cc nL ret hh) rm) cc nL ret e s m args below meth c s₁) (hml : c.maxLocals = nL) : Cx p s m meth c args (headSpec (wdW y cc nL ret hh) rm).room cc y.cls nL ret rm.frames rm.locals :=
  ⟨B.exec, B.bytes, B.returns, hml, findClass_of_methodNamed B.named, fun w h => atoms_spec (ws := wdW y cc nL ret hh) B.pre w (List.mem_cons_of_mem _ h), B.notSynchronized, Nat.le_refl _, Nat.le_refl _⟩
theorem exTab {p : Program} {l : Launch} {y : MethodName} {cc : ByteArray} {nL : Nat} {ret : Option FieldType} {hh : List (Nat × Nat × Nat × Nat)} {rm : Room} {e : Env} {s : State} {m : MethodId} {args : Array Value} {below : List Frame} {meth : Method} {c : Code} {s₁ : State}
    (B : BodyLoose p l y (headSpec (wdW y cc nL ret hh) rm) cc nL ret e s m args below meth c s₁) : c.exceptionTable.toList.map (fun h => (h.startPc, h.endPc, h.handlerPc, h.catchType)) = hh := by
  obtain ⟨m9, meth', c', hn9, h1, h2, -, -, h7, -⟩ := Cond.codeWith_spec (atoms_spec (ws := wdW y cc nL ret hh) B.pre _ List.mem_cons_self)
  cases B.named.symm.trans hn9
  cases B.method.symm.trans h1
  cases (Stand.of_body B).code.symm.trans h2
  exact h7

