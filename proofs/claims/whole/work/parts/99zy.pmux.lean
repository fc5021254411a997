/-! ===== contracts whose start knows the array class of zones ===== -/
def MUX (dC : Nat → ClassId) (dI : Nat → Nat → Nat) (ws : va_W) (tys : List (ClassId × FieldType)) (sz : Nat) (av : List Value) : Array Value → State → Prop :=
  va_Pc av (fun U => U.heap.size = sz ∧ va_P (dC, dI) classes ws U.heap ∧ va_K (dC, dI) classes tys U ∧ va_D (fun _ => True) ws ∧ ST (va_A ws sz) U U.heap ∧ va_AO "ZoneFiles$Zone" U)
section
variable {s : State} {H : Heap} {dC : Nat → ClassId} {dI : Nat → Nat → Nat} {ws : va_W} {tys : List (ClassId × FieldType)} {av : List Value} {As : List Value}
theorem MUX.blind {sz : Nat} : FrameBlind (MUX dC dI ws tys sz av) := fun a U g mk q => by
  obtain ⟨q0, q1, qP, qK, qD, qS, qX⟩ := q
  exact ⟨q0, q1, qP, va_K.moved (u := U) (U := U.calling g mk a) (Vm.Alike.refl U.vm) qK, qD, ST.same (u := U) (U := U.calling g mk a) rfl qS, va_AO.moved (u := U) (U := U.calling g mk a) (Vm.Alike.refl U.vm) qX⟩
theorem MUXsta (h : MUat s H dC dI ws tys) (hX : va_AO "ZoneFiles$Zone" s) : PreS s H (MUX dC dI ws tys H.size As) As :=
  ⟨MUX.blind, fun U hU hW => ⟨rfl, by rw [hU], by rw [hU]; exact h.1, va_K.moved hW.alike h.2.1, h.2.2.1, by rw [hU]; exact ST.warm hW h.2.2.2, va_AO.moved hW.alike hX⟩⟩
end
theorem met_MX {l : Launch} {y : MethodName} {b : ByteArray} {nL F Lc kc ks sz : Nat} {ret : Option FieldType} {Qc : Array Value → State → Outcome → State → Prop} {dC : Nat → ClassId} {dI : Nat → Nat → Nat} {ws : va_W} {tys : List (ClassId × FieldType)} {av : List Value} (hy : plainFor y = true) (hn : (lg_sl av).length ≤ nL)
    (hbody : ∀ (p : Program) (e : Env) (R : Room) (s : State) (m : MethodId) (args : Array Value) (below : List Frame) (meth : Method) (c : Code) (ls : Array Slot), R.cells = kc → R.slots = ks → s.heap.size = sz → (y.name = "<init>" → meth.name = "<init>") → Cx p s m meth c args R b y.cls nL ret F Lc → ST (va_A ws sz) s s.heap → va_AO "ZoneFiles$Zone" s → va_K (dC, dI) classes tys s → va_P (dC, dI) classes ws s.heap → va_D (va_A ws sz) ws → lv_has ls nL (lv_args 0 av) →
      W p l e R s m args below meth c s.heap [] 0 0 (MQ below Qc args s kc ks (va_A ws sz)) (F0 m 0 ls [])) : Met l y (wd y b nL ret) ({ frames := F, cells := kc, slots := ks, locals := Lc }) (MUX dC dI ws tys sz av) Qc kc ks (va_A ws sz) := by
  refine met_ofW (cc := b) (maxL := nL) (ret := ret) hy rfl ?_
  intro p e s m args below meth c s₁ B hml0 hv
  obtain ⟨ha, hsz, hP, hK, hD, hST, hX⟩ := hv
  have C0 := Cx.of B hml0
  have ef : entryFrame m args nL = F0 m 0 ((lg_sl av ++ List.replicate (nL - (lg_sl av).length) Slot.unset).toArray) [] := by rw [ha]; exact lg_entry_eq _ _ _
  rw [ef]
  exact hbody p e _ s m args below meth c _ rfl rfl hsz (fun h => (name_of_methodNamed B.named B.method).1.trans h) C0 hST hX hK hP hD.self (lv_entry av hn)
