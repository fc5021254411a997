
abbrev b_Mo_instant : ByteArray := prog_14_method_100_code
def y_Mo_instant : MethodName := ⟨"ZoneFilesModel", "instant", "(J)J"⟩
theorem d_Mo_instant_0 : decode b_Mo_instant 0 = .ok (.aload_n 0, 1) := by decide +kernel
theorem d_Mo_instant_1 : decode b_Mo_instant 1 = .ok (.iconst 0, 1) := by decide +kernel
theorem d_Mo_instant_2 : decode b_Mo_instant 2 = .ok (.putfield 150, 3) := by decide +kernel
theorem d_Mo_instant_5 : decode b_Mo_instant 5 = .ok (.aload_n 0, 1) := by decide +kernel
theorem d_Mo_instant_6 : decode b_Mo_instant 6 = .ok (.lload_n 1, 1) := by decide +kernel
theorem d_Mo_instant_7 : decode b_Mo_instant 7 = .ok (.invokevirtual 537, 3) := by decide +kernel
theorem d_Mo_instant_10 : decode b_Mo_instant 10 = .ok (.istore_n 3, 1) := by decide +kernel
theorem d_Mo_instant_11 : decode b_Mo_instant 11 = .ok (.iload_n 3, 1) := by decide +kernel
theorem d_Mo_instant_12 : decode b_Mo_instant 12 = .ok (.ifCond .ge 7, 3) := by decide +kernel
theorem d_Mo_instant_15 : decode b_Mo_instant 15 = .ok (.ldc2_w 370, 3) := by decide +kernel
theorem d_Mo_instant_18 : decode b_Mo_instant 18 = .ok (.lreturn, 1) := by decide +kernel
theorem d_Mo_instant_19 : decode b_Mo_instant 19 = .ok (.lload_n 1, 1) := by decide +kernel
theorem d_Mo_instant_20 : decode b_Mo_instant 20 = .ok (.aload_n 0, 1) := by decide +kernel
theorem d_Mo_instant_21 : decode b_Mo_instant 21 = .ok (.getfield 126, 3) := by decide +kernel
theorem d_Mo_instant_24 : decode b_Mo_instant 24 = .ok (.iload_n 3, 1) := by decide +kernel
theorem d_Mo_instant_25 : decode b_Mo_instant 25 = .ok (.laload, 1) := by decide +kernel
theorem d_Mo_instant_26 : decode b_Mo_instant 26 = .ok (.lsub, 1) := by decide +kernel
theorem d_Mo_instant_27 : decode b_Mo_instant 27 = .ok (.lstore 4, 2) := by decide +kernel
theorem d_Mo_instant_29 : decode b_Mo_instant 29 = .ok (.iload_n 3, 1) := by decide +kernel
theorem d_Mo_instant_30 : decode b_Mo_instant 30 = .ok (.iconst 1, 1) := by decide +kernel
theorem d_Mo_instant_31 : decode b_Mo_instant 31 = .ok (.iadd, 1) := by decide +kernel
theorem d_Mo_instant_32 : decode b_Mo_instant 32 = .ok (.aload_n 0, 1) := by decide +kernel
theorem d_Mo_instant_33 : decode b_Mo_instant 33 = .ok (.getfield 529, 3) := by decide +kernel
theorem d_Mo_instant_36 : decode b_Mo_instant 36 = .ok (.if_icmp .ge 30, 3) := by decide +kernel
theorem d_Mo_instant_39 : decode b_Mo_instant 39 = .ok (.lload 4, 2) := by decide +kernel
theorem d_Mo_instant_41 : decode b_Mo_instant 41 = .ok (.aload_n 0, 1) := by decide +kernel
theorem d_Mo_instant_42 : decode b_Mo_instant 42 = .ok (.getfield 123, 3) := by decide +kernel
theorem d_Mo_instant_45 : decode b_Mo_instant 45 = .ok (.iload_n 3, 1) := by decide +kernel
theorem d_Mo_instant_46 : decode b_Mo_instant 46 = .ok (.iconst 1, 1) := by decide +kernel
theorem d_Mo_instant_47 : decode b_Mo_instant 47 = .ok (.iadd, 1) := by decide +kernel
theorem d_Mo_instant_48 : decode b_Mo_instant 48 = .ok (.laload, 1) := by decide +kernel
theorem d_Mo_instant_49 : decode b_Mo_instant 49 = .ok (.lcmp, 1) := by decide +kernel
theorem d_Mo_instant_50 : decode b_Mo_instant 50 = .ok (.ifCond .lt 16, 3) := by decide +kernel
theorem d_Mo_instant_53 : decode b_Mo_instant 53 = .ok (.aload_n 0, 1) := by decide +kernel
theorem d_Mo_instant_54 : decode b_Mo_instant 54 = .ok (.getfield 123, 3) := by decide +kernel
theorem d_Mo_instant_57 : decode b_Mo_instant 57 = .ok (.iload_n 3, 1) := by decide +kernel
theorem d_Mo_instant_58 : decode b_Mo_instant 58 = .ok (.iconst 1, 1) := by decide +kernel
theorem d_Mo_instant_59 : decode b_Mo_instant 59 = .ok (.iadd, 1) := by decide +kernel
theorem d_Mo_instant_60 : decode b_Mo_instant 60 = .ok (.laload, 1) := by decide +kernel
theorem d_Mo_instant_61 : decode b_Mo_instant 61 = .ok (.lconst 1, 1) := by decide +kernel
theorem d_Mo_instant_62 : decode b_Mo_instant 62 = .ok (.lsub, 1) := by decide +kernel
theorem d_Mo_instant_63 : decode b_Mo_instant 63 = .ok (.goto 5, 3) := by decide +kernel
theorem d_Mo_instant_66 : decode b_Mo_instant 66 = .ok (.lload 4, 2) := by decide +kernel
theorem d_Mo_instant_68 : decode b_Mo_instant 68 = .ok (.lreturn, 1) := by decide +kernel
-- ZoneFilesModel.instant(J)J
def f_Mo_instant_68 (nf : Nat) (s0 : Int64) (si : Nat → Int32) (sj : Nat → Int64) (sa : Nat → Nat → Int32) (sb : Nat → Nat → Int64) : Option (Int64 × (Nat → Int32) × (Nat → Int64) × (Nat → Nat → Int32) × (Nat → Nat → Int64)) :=
  some (s0, si, sj, sa, sb)
def f_Mo_instant_66 (nf : Nat) (x4 : Int64) (si : Nat → Int32) (sj : Nat → Int64) (sa : Nat → Nat → Int32) (sb : Nat → Nat → Int64) : Option (Int64 × (Nat → Int32) × (Nat → Int64) × (Nat → Nat → Int32) × (Nat → Nat → Int64)) :=
  f_Mo_instant_68 nf x4 si sj sa sb
def f_Mo_instant_0 (nf : Nat) (x1 : Int64) (si : Nat → Int32) (sj : Nat → Int64) (sa : Nat → Nat → Int32) (sb : Nat → Nat → Int64) : Option (Int64 × (Nat → Int32) × (Nat → Int64) × (Nat → Nat → Int32) × (Nat → Nat → Int64)) :=
  (f_Mo_rowOf nf x1 (va_up si 3 0) sj sa sb).bind fun r_1 =>
  if 0 ≤ r_1 then
  if r_1 < 0 ∨ 60 ≤ r_1.toNatClampNeg then none else
    if (si 62) ≤ (r_1 + 1) then
    f_Mo_instant_66 nf (x1 - (sb 64 r_1.toNatClampNeg)) (va_up si 3 0) sj sa sb
    else
    if (r_1 + 1) < 0 ∨ 60 ≤ (r_1 + 1).toNatClampNeg then none else
      if (x1 - (sb 64 r_1.toNatClampNeg)) < (sb 63 (r_1 + 1).toNatClampNeg) then
      f_Mo_instant_66 nf (x1 - (sb 64 r_1.toNatClampNeg)) (va_up si 3 0) sj sa sb
      else
      if (r_1 + 1) < 0 ∨ 60 ≤ (r_1 + 1).toNatClampNeg then none else
        f_Mo_instant_68 nf ((sb 63 (r_1 + 1).toNatClampNeg) - 1) (va_up si 3 0) sj sa sb
  else
  some ((-9223372036854775808), va_up si 3 0, sj, sa, sb)
def f_Mo_instant (nf : Nat) (p0 : Int64) (si : Nat → Int32) (sj : Nat → Int64) (sa : Nat → Nat → Int32) (sb : Nat → Nat → Int64) : Option (Int64 × (Nat → Int32) × (Nat → Int64) × (Nat → Nat → Int32) × (Nat → Nat → Int64)) :=
  f_Mo_instant_0 nf p0 si sj sa sb
section
variable {p : Program} {l : Launch} {e : Env} {R : Room} {s : State} {m : MethodId} {args : Array Value} {below : List Frame} {meth : Method} {c : Code} {Q : State → Prop} {dC : Nat → ClassId} {dI : Nat → Nat → Nat} {nf : Nat} {A : Nat → Prop} {h0 : Nat} {r : Nat → Nat} {cA : Nat → ClassId}
variable {r0 : Int64} {vi : Nat → Int32} {vj : Nat → Int64} {va : Nat → Nat → Int32} {vb : Nat → Nat → Int64}
set_option maxHeartbeats 400000 in
set_option maxRecDepth 100000 in
theorem k_Mo_instant_68 (C0 : Cx p s m meth c args R b_Mo_instant "ZoneFilesModel" 6 (some .long) 1 23) (hST : ST A s s.heap) (hA : ∀ q, s.heap.size ≤ q → A q) (hK : va_K (dC, dI) classes (moT cA) s) (hE : ∀ (pc : Nat) (ls : Array Slot) (H : Heap) (locs : List Loc), decode b_Mo_instant pc = .ok (.lreturn, 1) → va_P (dC, dI) classes (moW h0 r cA vi vj va vb) H → va_D A (moW h0 r cA vi vj va vb) → va_S A s.heap H locs → W p l e R s m args below meth c H locs 0 0 Q (F0 m pc ls [.long r0])) {s0 : Int64} {si : Nat → Int32} {sj : Nat → Int64} {sa : Nat → Nat → Int32} {sb : Nat → Nat → Int64} (hf : f_Mo_instant_68 nf s0 si sj sa sb = some (r0, vi, vj, va, vb)) {H : Heap} {locs : List Loc} {ls : Array Slot} (hP : va_P (dC, dI) classes (moW h0 r cA si sj sa sb) H) (hD : va_D A (moW h0 r cA si sj sa sb)) (hS : va_S A s.heap H locs) (hl : lv_has ls 6 []) : W p l e R s m args below meth c H locs 0 0 Q (F0 m 68 ls [.long s0]) := by
  obtain ⟨hx, hb, hr, hml, hown, hts, hlocks, hRf, hRl⟩ := id C0
  unfold f_Mo_instant_68 at hf
  cases rs hf
  exact hE _ _ _ _ d_Mo_instant_68 hP hD hS
set_option maxHeartbeats 400000 in
set_option maxRecDepth 100000 in
theorem k_Mo_instant_66 (C0 : Cx p s m meth c args R b_Mo_instant "ZoneFilesModel" 6 (some .long) 1 23) (hST : ST A s s.heap) (hA : ∀ q, s.heap.size ≤ q → A q) (hK : va_K (dC, dI) classes (moT cA) s) (hE : ∀ (pc : Nat) (ls : Array Slot) (H : Heap) (locs : List Loc), decode b_Mo_instant pc = .ok (.lreturn, 1) → va_P (dC, dI) classes (moW h0 r cA vi vj va vb) H → va_D A (moW h0 r cA vi vj va vb) → va_S A s.heap H locs → W p l e R s m args below meth c H locs 0 0 Q (F0 m pc ls [.long r0])) {x4 : Int64} {si : Nat → Int32} {sj : Nat → Int64} {sa : Nat → Nat → Int32} {sb : Nat → Nat → Int64} (hf : f_Mo_instant_66 nf x4 si sj sa sb = some (r0, vi, vj, va, vb)) {H : Heap} {locs : List Loc} {ls : Array Slot} (hP : va_P (dC, dI) classes (moW h0 r cA si sj sa sb) H) (hD : va_D A (moW h0 r cA si sj sa sb)) (hS : va_S A s.heap H locs) (hl : lv_has ls 6 [(4, .long x4)]) : W p l e R s m args below meth c H locs 0 0 Q (F0 m 66 ls []) := by
  obtain ⟨hx, hb, hr, hml, hown, hts, hlocks, hRf, hRl⟩ := id C0
  unfold f_Mo_instant_66 at hf
  refine lv_lload hx hb d_Mo_instant_66 (lv_at hl 0 rfl) ?_
  exact k_Mo_instant_68 C0 hST hA hK hE hf hP hD hS (lv_sub hl [] rfl)
set_option maxHeartbeats 400000 in
set_option maxRecDepth 100000 in
theorem k_Mo_instant_0 (C0 : Cx p s m meth c args R b_Mo_instant "ZoneFilesModel" 6 (some .long) 1 23) (hST : ST A s s.heap) (hA : ∀ q, s.heap.size ≤ q → A q) (hK : va_K (dC, dI) classes (moT cA) s) (hE : ∀ (pc : Nat) (ls : Array Slot) (H : Heap) (locs : List Loc), decode b_Mo_instant pc = .ok (.lreturn, 1) → va_P (dC, dI) classes (moW h0 r cA vi vj va vb) H → va_D A (moW h0 r cA vi vj va vb) → va_S A s.heap H locs → W p l e R s m args below meth c H locs 0 0 Q (F0 m pc ls [.long r0])) {x1 : Int64} {si : Nat → Int32} {sj : Nat → Int64} {sa : Nat → Nat → Int32} {sb : Nat → Nat → Int64} (hf : f_Mo_instant_0 nf x1 si sj sa sb = some (r0, vi, vj, va, vb)) {H : Heap} {locs : List Loc} {ls : Array Slot} (hP : va_P (dC, dI) classes (moW h0 r cA si sj sa sb) H) (hD : va_D A (moW h0 r cA si sj sa sb)) (hS : va_S A s.heap H locs) (hl : lv_has ls 6 [(0, .ref h0), (1, .long x1)]) : W p l e R s m args below meth c H locs 0 0 Q (F0 m 0 ls []) := by
  obtain ⟨hx, hb, hr, hml, hown, hts, hlocks, hRf, hRl⟩ := id C0
  unfold f_Mo_instant_0 at hf
  refine lv_aload_n hx hb d_Mo_instant_0 rfl (lv_at hl 0 rfl) ?_
  refine lv_iconst (v := 0) hx hb d_Mo_instant_1 (by decide) ?_
  refine mp_3 hx hb hts hown hK hP hD hS d_Mo_instant_2 (fun H locs hP hD hS => ?_)
  refine lv_aload_n hx hb d_Mo_instant_5 rfl (lv_at hl 0 rfl) ?_
  refine lv_lload_n hx hb d_Mo_instant_6 rfl (lv_at hl 1 rfl) ?_
  obtain ⟨r_1, hc, hf⟩ := ob hf
  refine cl_S (v := (some (.int r_1))) (st1 := [.int r_1]) (va_runV (As := [.long x1]) (rest := []) ⟨hx, hb, hml, hown, hts⟩ (c_Mo_rowOf l dC dI h0 r cA nf x1 (va_up si 3 0) sj sa sb hc) (cwV 1 hts (gdV m_8_226 m_8_228 msel_105 m_1_10 m_8_229) rfl rfl rfl (by decide +kernel) ⟨Nat.le_trans (Nat.le_of_ble_eq_true rfl) hRf, Nat.le_trans (Nat.le_of_ble_eq_true rfl) hRl⟩) ((RO.pre hP hK (hST.ro hS)).vir (va_recv hK hP (ci := 10) (q0 := 0) rfl rfl)) rfl rfl hl.1 rfl (lv_room (Nat.le_of_ble_eq_true rfl)) d_Mo_instant_7 ⟨Nat.zero_le _, Nat.zero_le _⟩) rfl ?_
  refine lv_istore_n (lv' := [(3, .int r_1), (0, .ref h0), (1, .long x1)]) hx hb d_Mo_instant_10 rfl hl (by decide) rfl (fun ls hl => ?_)
  refine lv_iload_n hx hb d_Mo_instant_11 rfl (lv_at hl 0 rfl) ?_
  refine lv_if_ge (tgt := 19) hx hb d_Mo_instant_12 (by decide) (fun c_2 => ?_) (fun c_2 => ?_)
  · have hf := it_t c_2 hf
    refine lv_lload_n hx hb d_Mo_instant_19 rfl (lv_at hl 2 rfl) ?_
    refine lv_aload_n hx hb d_Mo_instant_20 rfl (lv_at hl 1 rfl) ?_
    refine mg_64 hx hb hts hown hK hP d_Mo_instant_21 ?_
    refine lv_iload_n hx hb d_Mo_instant_24 rfl (lv_at hl 0 rfl) ?_
    obtain ⟨c_3, hf⟩ := it_n hf
    refine ma_64 (v := sb 64 r_1.toNatClampNeg) hx hb hK hP c_3 rfl d_Mo_instant_25 ?_
    refine lv_lsub hx hb d_Mo_instant_26 ?_
    refine lv_lstore (lv' := [(4, .long (x1 - (sb 64 r_1.toNatClampNeg))), (3, .int r_1), (0, .ref h0), (1, .long x1)]) hx hb d_Mo_instant_27 hl (by decide) rfl (fun ls hl => ?_)
    refine lv_iload_n hx hb d_Mo_instant_29 rfl (lv_at hl 1 rfl) ?_
    refine lv_iconst (v := 1) hx hb d_Mo_instant_30 (by decide) ?_
    refine lv_iadd hx hb d_Mo_instant_31 ?_
    refine lv_aload_n hx hb d_Mo_instant_32 rfl (lv_at hl 2 rfl) ?_
    refine mg_62 (v := si 62) hx hb hts hown hK hP rfl d_Mo_instant_33 ?_
    refine lv_icmp_ge (tgt := 66) hx hb d_Mo_instant_36 (by decide) (fun c_4 => ?_) (fun c_4 => ?_)
    · have hf := it_t c_4 hf
      exact k_Mo_instant_66 C0 hST hA hK hE hf hP hD hS (lv_sub hl [0] rfl)
    · have hf := it_f c_4 hf
      refine lv_lload hx hb d_Mo_instant_39 (lv_at hl 0 rfl) ?_
      refine lv_aload_n hx hb d_Mo_instant_41 rfl (lv_at hl 2 rfl) ?_
      refine mg_63 hx hb hts hown hK hP d_Mo_instant_42 ?_
      refine lv_iload_n hx hb d_Mo_instant_45 rfl (lv_at hl 1 rfl) ?_
      refine lv_iconst (v := 1) hx hb d_Mo_instant_46 (by decide) ?_
      refine lv_iadd hx hb d_Mo_instant_47 ?_
      obtain ⟨c_5, hf⟩ := it_n hf
      refine ma_63 (v := sb 63 (r_1 + 1).toNatClampNeg) hx hb hK hP c_5 rfl d_Mo_instant_48 ?_
      refine lc_lt (tgt := 66) hx hb d_Mo_instant_49 d_Mo_instant_50 (by decide) (fun c_6 => ?_) (fun c_6 => ?_)
      · have hf := it_t c_6 hf
        exact k_Mo_instant_66 C0 hST hA hK hE hf hP hD hS (lv_sub hl [0] rfl)
      · have hf := it_f c_6 hf
        refine lv_aload_n hx hb d_Mo_instant_53 rfl (lv_at hl 2 rfl) ?_
        refine mg_63 hx hb hts hown hK hP d_Mo_instant_54 ?_
        refine lv_iload_n hx hb d_Mo_instant_57 rfl (lv_at hl 1 rfl) ?_
        refine lv_iconst (v := 1) hx hb d_Mo_instant_58 (by decide) ?_
        refine lv_iadd hx hb d_Mo_instant_59 ?_
        obtain ⟨c_7, hf⟩ := it_n hf
        refine ma_63 (v := sb 63 (r_1 + 1).toNatClampNeg) hx hb hK hP c_7 rfl d_Mo_instant_60 ?_
        refine lv_lconst (v := 1) hx hb d_Mo_instant_61 (by decide) ?_
        refine lv_lsub hx hb d_Mo_instant_62 ?_
        refine lv_goto (tgt := 68) hx hb d_Mo_instant_63 (by decide) ?_
        exact k_Mo_instant_68 C0 hST hA hK hE hf hP hD hS (lv_sub hl [] rfl)
  · have hf := it_f c_2 hf
    refine lv_ldc2 (v := (-9223372036854775808)) hx hb hown (hts (.constantLong "ZoneFilesModel" 370 (-9223372036854775808)) m_8_2) d_Mo_instant_15 ?_
    cases rs hf
    exact hE _ _ _ _ d_Mo_instant_18 hP hD hS
end
set_option maxHeartbeats 400000 in
set_option maxRecDepth 100000 in
theorem c_Mo_instant (l : Launch) (dC : Nat → ClassId) (dI : Nat → Nat → Nat) (h0 : Nat) (r : Nat → Nat) (cA : Nat → ClassId) (sz : Nat) (nf : Nat) (p0 : Int64) (si : Nat → Int32) (sj : Nat → Int64) (sa : Nat → Nat → Int32) (sb : Nat → Nat → Int64) {r0 : Int64} {vi : Nat → Int32} {vj : Nat → Int64} {va : Nat → Nat → Int32} {vb : Nat → Nat → Int64} (hf : f_Mo_instant nf p0 si sj sa sb = some (r0, vi, vj, va, vb)) : Met l y_Mo_instant (wd y_Mo_instant b_Mo_instant 6 (some .long)) ({ frames := 1, cells := 0, slots := 0, locals := 23 }) (MU dC dI (moW h0 r cA si sj sa sb) (moT cA) sz [.ref h0, .long p0]) (MV (some (.long r0)) (fun t => va_P (dC, dI) classes (moW h0 r cA vi vj va vb) t.heap) (va_A (moW h0 r cA si sj sa sb) sz)) 0 0 (va_A (moW h0 r cA si sj sa sb) sz) :=
  met_M (plainFor_of_name (by decide)) (Nat.le_of_ble_eq_true rfl) (fun p e R s m args below meth c ls hRc hRs hsz hin C0 hST hK hP hD hl => by
    obtain ⟨hx, hb, hr, hml, hown, hts, hlocks, hRf, hRl⟩ := id C0
    subst hsz
    have hA : ∀ q : Nat, s.heap.size ≤ q → va_A (moW h0 r cA si sj sa sb) s.heap.size q := fun q h => Or.inr h
    have hS : va_S (va_A (moW h0 r cA si sj sa sb) s.heap.size) s.heap s.heap [] := va_S.rf
    unfold f_Mo_instant at hf
    exact k_Mo_instant_0 C0 hST hA hK (fun pc ls H locs hd hP hD hS => W.lret hx hb hr (fun t ht hW => ⟨⟨rfl, mo_end ht hP⟩, hS.F ht⟩) hS.2.2 hd) hf hP hD hS (lv_sub hl [0, 1] rfl))
