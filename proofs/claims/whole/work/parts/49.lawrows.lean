
/-! ===== the law: its world, its calls ===== -/
abbrev MS : Type := (Nat → Int32) × (Nat → Int64) × (Nat → Nat → Int32) × (Nat → Nat → Int64)
def mW (hm : Nat) (r : Nat → Nat) (cM : Nat → ClassId) (M : MS) : va_W := moW hm r cM M.1 M.2.1 M.2.2.1 M.2.2.2
def LWd (hx hm o : Nat) (S : CS) (M : MS) (a : Int64) (ws : va_W) (tys : List (ClassId × FieldType)) : Prop := ∃ f cO wx tx r cM, f 0 = a ∧ ws.Perm (oC o cO f :: (wx ++ mW hm r cM M)) ∧ CW hx S wx tx ∧ (cO, FieldType.long) ∈ tys ∧ (∀ q ∈ tx, q ∈ tys) ∧ ∀ q ∈ moT cM, q ∈ tys
/-- the cells made since the law began -/
def nA (s : State) : Nat → Prop := fun q => s.heap.size ≤ q
def LA (dC : Nat → ClassId) (dI : Nat → Nat → Nat) (s : State) (hx hm o : Nat) (S : CS) (M : MS) (a : Int64) (H : Heap) (locs : List Loc) : Prop := ∃ ws tys, LWd hx hm o S M a ws tys ∧ va_P (dC, dI) classes ws H ∧ va_K (dC, dI) classes tys s ∧ va_D (nA s) ws ∧ va_S (nA s) s.heap H locs
def LX (s : State) (b L : Nat) (xs : Nat → Int32) : Prop := ST (nA s) s s.heap ∧ XT (nA s) s s.heap ∧ va_X b L xs s s.heap ∧ b < s.heap.size
theorem getIx {α : Type} {a : α} {l : List α} (h : a ∈ l) : ∃ k : Nat, l[k]? = some a := List.getElem?_of_mem h
section
variable {p : Program} {l : Launch} {e : Env} {R : Room} {s : State} {m : MethodId} {args : Array Value} {below : List Frame} {meth : Method} {c : Code} {H : Heap} {locs : List Loc} {cells slots : Nat} {Q : State → Prop}
variable {cc : ByteArray} {pc nL Fr Lc : Nat} {ls : Array Slot} {rest st0 st1 As : List Value} {dC : Nat → ClassId} {dI : Nat → Nat → Nat} {hx hm o : Nat} {S S' : CS} {M M' : MS} {a : Int64} {b L : Nat} {xs : Nat → Int32} {rt : Option FieldType}
variable {y : MethodName} {bytes : ByteArray} {maxL kc ks n index : Nat} {ret : Option FieldType} {hh : List (Nat × Nat × Nat × Nat)} {rm : Room}
theorem law_ld (C0 : Cx p s m meth c args R cc "ZoneFilesLaw" nL rt Fr Lc) (hLX : LX s b L xs) (hLA : LA dC dI s hx hm o S M a H locs) {i : Int32} (hin : vp_in i L) (hd : decode cc pc = .ok (.iaload, 1))
    (kk : W p l e R s m args below meth c H locs cells slots Q (F0 m (pc + 1) ls (.int (xs i.toNatClampNeg) :: rest))) : W p l e R s m args below meth c H locs cells slots Q (F0 m pc ls (.int i :: .ref b :: rest)) := by
  obtain ⟨ws, tys, -, -, -, -, hS⟩ := hLA
  exact va_sld C0.1 C0.2.1 hLX.2.2.1 hLX.2.2.2 (Nat.not_le.mpr hLX.2.2.2) hS hin hd kk
theorem law_len (C0 : Cx p s m meth c args R cc "ZoneFilesLaw" nL rt Fr Lc) (hLX : LX s b L xs) (hLA : LA dC dI s hx hm o S M a H locs) (hd : decode cc pc = .ok (.arraylength, 1))
    (kk : W p l e R s m args below meth c H locs cells slots Q (F0 m (pc + 1) ls (.int (Int32.ofNat L) :: rest))) : W p l e R s m args below meth c H locs cells slots Q (F0 m pc ls (.ref b :: rest)) := by
  obtain ⟨ws, tys, -, -, -, -, hS⟩ := hLA
  exact va_slen C0.1 C0.2.1 hLX.2.2.1 hLX.2.2.2 (Nat.not_le.mpr hLX.2.2.2) hS hd kk
theorem law_out (C0 : Cx p s m meth c args R cc "ZoneFilesLaw" nL rt Fr Lc) (hLA : LA dC dI s hx hm o S M a H locs) (hd : decode cc pc = .ok (.laload, 1))
    (kk : W p l e R s m args below meth c H locs cells slots Q (F0 m (pc + 1) ls (.long a :: rest))) : W p l e R s m args below meth c H locs cells slots Q (F0 m pc ls (.int 0 :: .ref o :: rest)) := by
  obtain ⟨ws, tys, ⟨f, cO, wx, tx, r, cM, hf, hp, hC, h1, h2, h3⟩, hP, hK, hD, hS⟩ := hLA
  obtain ⟨k, hk⟩ := getIx (hp.mem_iff.mpr (List.mem_cons_self (a := oC o cO f)))
  obtain ⟨j, hj⟩ := getIx h1
  have e : f (0 : Int32).toNatClampNeg = a := hf
  exact va_lald C0.1 C0.2.1 hK hP k j (a := o) (cA := cO) (n := 1) (f := f) hk hj (by show ¬ ((0 : Int32) < 0 ∨ 1 ≤ (0 : Int32).toNatClampNeg); decide) hd (by rw [e]; exact kk)
/-- a call of a wrapper -/
theorem law_W (C0 : Cx p s m meth c args R cc "ZoneFilesLaw" nL rt Fr Lc) (hLX : LX s b L xs) (hLA : LA dC dI s hx hm o S M a H locs) {k : Int32} {ans : Int64} {F1 L1 F2 L2 : Nat}
    (hq : ∀ (ad : Nat → Nat) (cA : Nat → ClassId) (za : Nat → Nat) (zad : Nat → Nat → Nat) (zcA : Nat → Nat → ClassId) (cO : ClassId) (f : Nat → Int64),
      (k = 0 ∧ OM l y (wdW y bytes maxL ret hh) ({ frames := F1, cells := kc, slots := ks, locals := L1 }) dC dI (oC o cO f :: WX hx ad cA za zad zcA S) ((cO, .long) :: TX cA zcA) As (some (.int 0)) (oF (CW hx S') o cO f (TX cA zcA) ans) kc ks) ∨
      (kc = 1 ∧ ks = 6 ∧ S' = S ∧ k ≠ 0 ∧ Met l y (wdW y bytes maxL ret hh) ({ frames := F2, cells := 1, slots := 6, locals := L2 }) (ROX dC dI (WX hx ad cA za zad zcA S) (TX cA zcA) As) (MV (some (.int k)) (fun _ => True) (fun _ => False)) 1 6 (fun _ => False)))
    (hl : Cond.methodLink "ZoneFilesLaw" index y ∈ T0) (hstt : Cond.static y ∈ T0) (hini : Cond.initialized y.cls ∈ T0) (hcw : Cond.codeWith y bytes maxL ret hh ∈ T0)
    (hd : y.cls ≠ "java/lang/invoke/MethodHandle" ∧ y.cls ≠ "java/lang/invoke/VarHandle" ∧ (parseMethodDescriptor y.desc).map (fun d => d.parameters.length) = some n) (hR1 : F1 + 1 ≤ R.frames ∧ 8 + (maxL + 11) + L1 ≤ R.locals) (hR2 : F2 + 1 ≤ R.frames ∧ 8 + (maxL + 11) + L2 ≤ R.locals)
    (hn : As.length = n) (hsize : ls.size = nL) (hstack : st0 = As.reverse ++ rest) (hroom : (rest.map fun v => v.category).sum ≤ 8) (hdg : decode cc pc = .ok (.invokestatic index, 3)) (hf : cells + kc ≤ R.cells ∧ slots + ks ≤ R.slots)
    (kk : ∀ (H1 : Heap) (locs1 : List Loc) (a1 : Int64), (k = 0 → a1 = ans) → LA dC dI s hx hm o S' M a1 H1 locs1 → W p l e R s m args below meth c H1 locs1 (cells + kc) (slots + ks) Q (F0 m (pc + 3) ls (.int k :: rest))) : W p l e R s m args below meth c H locs cells slots Q (F0 m pc ls st0) := by
  obtain ⟨hx', hb, hr, hml, hown, hts, hlocks, hRf, hRl⟩ := id C0
  obtain ⟨ws, tys, ⟨f, cO, wx, tx, r, cM, hf0, hp, ⟨ad, cA, za, zad, zcA, hpx, htx⟩, h1, h2, h3⟩, hP, hK, hD, hS⟩ := hLA
  have hT : ∀ q ∈ TX cA zcA, q ∈ tys := fun q hq => h2 q (htx q hq)
  rcases hq ad cA za zad zcA cO f with ⟨rfl, hM⟩ | ⟨rfl, rfl, rfl, hk0, hM⟩
  · have hperm : ws.Perm ((oC o cO f :: WX hx ad cA za zad zcA S) ++ mW hm r cM M) := hp.trans ((hpx.append_right _).cons _)
    refine cl_OMW (wr := mW hm r cM M) ⟨hx', hb, hml, hown, hts⟩ hM hl hstt hini hcw rfl rfl hd hR1 hn hsize hstack hroom hdg hf hperm (fun q hq => ?_) hP hK hD hS (fun q h => h) hLX.1 rfl (fun H1 locs1 wf tf hF hP1 hK1 hD1 hS1 => ?_)
    · rcases List.mem_cons.mp hq with rfl | hq
      · exact h1
      · exact hT q hq
    · obtain ⟨w2, t2, hC, rfl, rfl⟩ := hF
      refine kk H1 locs1 ans (fun _ => rfl) ⟨_, _, ⟨vp_updL f 0 ans, cO, w2, t2, r, cM, by simp [vp_updL], ?_, hC, List.mem_append_right _ h1, fun q hq => List.mem_append_left _ (List.mem_append_left _ hq), fun q hq => List.mem_append_right _ (h3 q hq)⟩, hP1, hK1, hD1, hS1⟩
      have e1 : ((w2 ++ [oC o cO (vp_updL f 0 ans)]) ++ mW hm r cM M) = w2 ++ (oC o cO (vp_updL f 0 ans) :: mW hm r cM M) := by simp
      rw [e1]
      exact List.perm_middle
  · refine cl_TW ⟨hx', hb, hml, hown, hts⟩ hM hl hstt hini hcw rfl rfl hd hR2 hn hsize hstack hroom hdg hf (fun q hq => ?_) hT hP hK hS hLX.1 hLX.2.1 (fun H1 hP1 hS1 => ?_)
    · exact hp.mem_iff.mpr (List.mem_cons_of_mem _ (List.mem_append_left _ (hpx.mem_iff.mpr hq)))
    · exact kk H1 locs a (fun h => absurd h hk0) ⟨ws, tys, ⟨f, cO, wx, tx, r, cM, hf0, hp, ⟨ad, cA, za, zad, zcA, hpx, htx⟩, h1, h2, h3⟩, hP1, hK, hD, hS1⟩
/-- a call of the reference -/
theorem law_M (C0 : Cx p s m meth c args R cc "ZoneFilesLaw" nL rt Fr Lc) (hLX : LX s b L xs) (hLA : LA dC dI s hx hm o S M a H locs) {v : Option Value}
    (hM : ∀ (r : Nat → Nat) (cM : Nat → ClassId), OM l y (wd y bytes maxL ret) rm dC dI (mW hm r cM M) (moT cM) (.ref hm :: As) v (fun w t => w = mW hm r cM M' ∧ t = moT cM) 0 0) (cw : CallW R s args "ZoneFilesLaw" "ZoneFilesModel" index y bytes maxL ret (wd y bytes maxL ret) rm 0 0 n)
    (hn : As.length = n) (hsize : ls.size = nL) (hstack : st0 = As.reverse ++ .ref hm :: rest) (hroom : (rest.map fun v => v.category).sum ≤ 8) (hdg : decode cc pc = .ok (.invokevirtual index, 3)) (hf : cells ≤ R.cells ∧ slots ≤ R.slots) (hst1 : v.toList ++ rest = st1)
    (kk : ∀ (H1 : Heap) (locs1 : List Loc), LA dC dI s hx hm o S M' a H1 locs1 → W p l e R s m args below meth c H1 locs1 cells slots Q (F0 m (pc + 3) ls st1)) : W p l e R s m args below meth c H locs cells slots Q (F0 m pc ls st0) := by
  obtain ⟨hx', hb, hr, hml, hown, hts, hlocks, hRf, hRl⟩ := id C0
  obtain ⟨ws, tys, ⟨f, cO, wx, tx, r, cM, hf0, hp, hC, h1, h2, h3⟩, hP, hK, hD, hS⟩ := hLA
  have hperm : ws.Perm (mW hm r cM M ++ (oC o cO f :: wx)) := hp.trans ((List.perm_append_comm (l₁ := oC o cO f :: wx) (l₂ := mW hm r cM M)))
  obtain ⟨k0, hk0⟩ := getIx (hperm.mem_iff.mpr (List.mem_append_left _ (List.mem_cons_self (a := (hm, Sum.inr (10, moL r M.1 M.2.1))))))
  refine cl_OMV (wr := oC o cO f :: wx) ⟨hx', hb, hml, hown, hts⟩ (hM r cM) cw (va_recv hK hP (ci := 10) rfl hk0) hn hsize hstack hroom hdg ⟨hf.1, hf.2⟩ hperm h3 hP hK hD hS (fun q h => h) hLX.1 hst1 (fun H1 locs1 wf tf hF hP1 hK1 hD1 hS1 => ?_)
  obtain ⟨rfl, rfl⟩ := hF
  exact kk H1 locs1 ⟨_, _, ⟨f, cO, wx, tx, r, cM, hf0, List.perm_append_comm, hC, List.mem_append_right _ h1, fun q hq => List.mem_append_right _ (h2 q hq), fun q hq => List.mem_append_left _ hq⟩, hP1, hK1, hD1, hS1⟩
/-- a call of the class itself -/
theorem law_C (C0 : Cx p s m meth c args R cc "ZoneFilesLaw" nL rt Fr Lc) (hLX : LX s b L xs) (hLA : LA dC dI s hx hm o S M a H locs) {v : Option Value}
    (hM : ∀ (ad : Nat → Nat) (cA : Nat → ClassId) (za : Nat → Nat) (zad : Nat → Nat → Nat) (zcA : Nat → Nat → ClassId), OM l y (wd y bytes maxL ret) rm dC dI (WX hx ad cA za zad zcA S) (TX cA zcA) (.ref hx :: As) v (CW hx S') kc ks) (cw : CallW R s args "ZoneFilesLaw" "ZoneFiles" index y bytes maxL ret (wd y bytes maxL ret) rm kc ks n)
    (hn : As.length = n) (hsize : ls.size = nL) (hstack : st0 = As.reverse ++ .ref hx :: rest) (hroom : (rest.map fun v => v.category).sum ≤ 8) (hdg : decode cc pc = .ok (.invokevirtual index, 3)) (hf : cells + kc ≤ R.cells ∧ slots + ks ≤ R.slots) (hst1 : v.toList ++ rest = st1)
    (kk : ∀ (H1 : Heap) (locs1 : List Loc), LA dC dI s hx hm o S' M a H1 locs1 → W p l e R s m args below meth c H1 locs1 (cells + kc) (slots + ks) Q (F0 m (pc + 3) ls st1)) : W p l e R s m args below meth c H locs cells slots Q (F0 m pc ls st0) := by
  obtain ⟨hx', hb, hr, hml, hown, hts, hlocks, hRf, hRl⟩ := id C0
  obtain ⟨ws, tys, ⟨f, cO, wx, tx, r, cM, hf0, hp, ⟨ad, cA, za, zad, zcA, hpx, htx⟩, h1, h2, h3⟩, hP, hK, hD, hS⟩ := hLA
  have hT : ∀ q ∈ TX cA zcA, q ∈ tys := fun q hq => h2 q (htx q hq)
  have hperm : ws.Perm (WX hx ad cA za zad zcA S ++ (oC o cO f :: mW hm r cM M)) := hp.trans (((hpx.append_right _).cons _).trans List.perm_middle.symm)
  have hin0 : ∃ fs, (hx, (Sum.inr (9, fs) : va_E)) ∈ WX hx ad cA za zad zcA S := ⟨_, List.mem_append_left _ List.mem_cons_self⟩
  obtain ⟨fs, hin⟩ := hin0
  obtain ⟨k0, hk0⟩ := getIx (hperm.mem_iff.mpr (List.mem_append_left _ hin))
  refine cl_OMV (wr := oC o cO f :: mW hm r cM M) ⟨hx', hb, hml, hown, hts⟩ (hM ad cA za zad zcA) cw (va_recv hK hP (ci := 9) rfl hk0) hn hsize hstack hroom hdg hf hperm hT hP hK hD hS (fun q h => h) hLX.1 hst1 (fun H1 locs1 wf tf hF hP1 hK1 hD1 hS1 => ?_)
  exact kk H1 locs1 ⟨_, _, ⟨f, cO, wf, tf, r, cM, hf0, List.perm_middle, hF, List.mem_append_right _ h1, fun q hq => List.mem_append_left _ hq, fun q hq => List.mem_append_right _ (h3 q hq)⟩, hP1, hK1, hD1, hS1⟩
end

