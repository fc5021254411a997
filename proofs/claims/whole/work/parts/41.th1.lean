theorem m_1_14 : Cond.initialized "java/lang/IllegalArgumentException" ∈ T0 := tb_1 14 rfl rfl
theorem m_1_15 : Cond.initialized "java/lang/IndexOutOfBoundsException" ∈ T0 := tb_1 15 rfl rfl
theorem m_1_20 : Cond.initialized "java/lang/IllegalStateException" ∈ T0 := tb_1 20 rfl rfl
theorem m_3_54 : Cond.classLink "ZoneFiles" 56 "java/lang/IllegalArgumentException" ∈ T0 := tb_3 54 rfl rfl
theorem m_3_134 : Cond.classLink "ZoneFiles" 161 "java/lang/IndexOutOfBoundsException" ∈ T0 := tb_3 134 rfl rfl
theorem m_5_53 : Cond.classLink "ZoneFiles" 221 "java/lang/IllegalStateException" ∈ T0 := tb_5 53 rfl rfl
-- ZoneFiles.checkZone(I)V
def g_ZF_checkZone_9 (nf : Nat) : Option (Nat) :=
  some 1
def g_ZF_checkZone_0 (nf : Nat) (x0 : Int32) : Option (Nat) :=
  if x0 < 0 then
  g_ZF_checkZone_9 nf
  else
  if x0 < (4 : Int32) then
    none
    else
    g_ZF_checkZone_9 nf
def g_ZF_checkZone (nf : Nat) (p0 : Int32) : Option (Nat) :=
  g_ZF_checkZone_0 nf p0
section
variable {p : Program} {l : Launch} {e : Env} {R : Room} {s : State} {m : MethodId} {args : Array Value} {below : List Frame} {meth : Method} {c : Code} {Q : State → Prop} {dC : Nat → ClassId} {dI : Nat → Nat → Nat} {nf : Nat}
variable {k : Nat}
set_option maxHeartbeats 400000 in
set_option maxRecDepth 100000 in
theorem u_ZF_checkZone_9 (C0 : Cx p s m meth c args R b_ZF_checkZone "ZoneFiles" 1 none 6 100) (hno : NT l) (hemp : c.exceptionTable.isEmpty = true) (hRc : 1 ≤ R.cells) (hRs : 6 ≤ R.slots) (hXT : XT (fun _ => False) s s.heap) (hST : ST (fun _ => False) s s.heap) (hK : va_K (dC, dI) classes [] s) (hE : True) (hf : g_ZF_checkZone_9 nf = some k) {ls : Array Slot} (hl : lv_has ls 1 []) : W p l e R s m args below meth c s.heap [] 0 0 (MQT below (TQ (xn k)) args s 1 6) (F0 m 9 ls []) := by
  obtain ⟨hx, hb, hr, hml, hown, hts, hlocks, hRf, hRl⟩ := id C0
  obtain ⟨tms, hZms, hTms, tmg, hZmg, hTmg, hNW⟩ := id hST
  unfold g_ZF_checkZone_9 at hf
  cases rs hf
  obtain ⟨qs, hstr⟩ := hXT.2.2.2.2.1
  exact th_newW hno C0 hemp d_ZF_checkZone_9 d_ZF_checkZone_12 d_ZF_checkZone_13 d_ZF_checkZone_16 d_ZF_checkZone_19 (xa_1 hts hXT) (hts _ m_3_134) (hts _ m_3_135) (hts _ m_1_15) hstr (by decide) hRc hRs (by decide) (by decide) hl.1 (Nat.le_of_ble_eq_true rfl)
set_option maxHeartbeats 400000 in
set_option maxRecDepth 100000 in
theorem u_ZF_checkZone_0 (C0 : Cx p s m meth c args R b_ZF_checkZone "ZoneFiles" 1 none 6 100) (hno : NT l) (hemp : c.exceptionTable.isEmpty = true) (hRc : 1 ≤ R.cells) (hRs : 6 ≤ R.slots) (hXT : XT (fun _ => False) s s.heap) (hST : ST (fun _ => False) s s.heap) (hK : va_K (dC, dI) classes [] s) (hE : True) {x0 : Int32} (hf : g_ZF_checkZone_0 nf x0 = some k) {ls : Array Slot} (hl : lv_has ls 1 [(0, .int x0)]) : W p l e R s m args below meth c s.heap [] 0 0 (MQT below (TQ (xn k)) args s 1 6) (F0 m 0 ls []) := by
  obtain ⟨hx, hb, hr, hml, hown, hts, hlocks, hRf, hRl⟩ := id C0
  obtain ⟨tms, hZms, hTms, tmg, hZmg, hTmg, hNW⟩ := id hST
  unfold g_ZF_checkZone_0 at hf
  refine lv_iload_n hx hb d_ZF_checkZone_0 rfl (lv_at hl 0 rfl) ?_
  refine lv_if_lt (tgt := 9) hx hb d_ZF_checkZone_1 (by decide) (fun c_1 => ?_) (fun c_1 => ?_)
  · have hf := it_t c_1 hf
    exact u_ZF_checkZone_9 C0 hno hemp hRc hRs hXT hST hK hE hf (lv_sub hl [] rfl)
  · have hf := it_f c_1 hf
    refine lv_iload_n hx hb d_ZF_checkZone_4 rfl (lv_at hl 0 rfl) ?_
    refine lv_iconst (v := 4) hx hb d_ZF_checkZone_5 (by decide) ?_
    refine lv_icmp_lt (tgt := 20) hx hb d_ZF_checkZone_6 (by decide) (fun c_2 => ?_) (fun c_2 => ?_)
    · have hf := it_t c_2 hf
      exact absurd hf (by simp)
    · have hf := it_f c_2 hf
      exact u_ZF_checkZone_9 C0 hno hemp hRc hRs hXT hST hK hE hf (lv_sub hl [] rfl)
end
set_option maxHeartbeats 400000 in
set_option maxRecDepth 100000 in
theorem t_ZF_checkZone (l : Launch) (hno : NT l) (dC : Nat → ClassId) (dI : Nat → Nat → Nat) (nf : Nat) (p0 : Int32) {k : Nat} (hf : g_ZF_checkZone nf p0 = some k) : MetT l y_ZF_checkZone (wd y_ZF_checkZone b_ZF_checkZone 1 none) ({ frames := 6, cells := 1, slots := 6, locals := 100 }) (ROX dC dI [] [] [.int p0]) (TQ (xn k)) 1 6 :=
  met_TX (plainFor_of_name (by decide)) (Nat.le_of_ble_eq_true rfl) (fun p e R s m args below meth c ls hRc hRs hemp C0 hST hXT hK hP hl => by
    obtain ⟨hx, hb, hr, hml, hown, hts, hlocks, hRf, hRl⟩ := id C0
    unfold g_ZF_checkZone at hf
    exact u_ZF_checkZone_0 C0 hno hemp hRc hRs hXT hST hK trivial hf (lv_sub hl [0] rfl))
-- ZoneFiles.checkIndex(II)V
def g_ZF_checkIndex_9 (nf : Nat) : Option (Nat) :=
  some 1
def g_ZF_checkIndex_0 (nf : Nat) (x0 : Int32) (x1 : Int32) : Option (Nat) :=
  if x0 < 0 then
  g_ZF_checkIndex_9 nf
  else
  if x0 < x1 then
    none
    else
    g_ZF_checkIndex_9 nf
def g_ZF_checkIndex (nf : Nat) (p0 : Int32) (p1 : Int32) : Option (Nat) :=
  g_ZF_checkIndex_0 nf p0 p1
section
variable {p : Program} {l : Launch} {e : Env} {R : Room} {s : State} {m : MethodId} {args : Array Value} {below : List Frame} {meth : Method} {c : Code} {Q : State → Prop} {dC : Nat → ClassId} {dI : Nat → Nat → Nat} {nf : Nat}
variable {k : Nat}
set_option maxHeartbeats 400000 in
set_option maxRecDepth 100000 in
theorem u_ZF_checkIndex_9 (C0 : Cx p s m meth c args R b_ZF_checkIndex "ZoneFiles" 2 none 6 100) (hno : NT l) (hemp : c.exceptionTable.isEmpty = true) (hRc : 1 ≤ R.cells) (hRs : 6 ≤ R.slots) (hXT : XT (fun _ => False) s s.heap) (hST : ST (fun _ => False) s s.heap) (hK : va_K (dC, dI) classes [] s) (hE : True) (hf : g_ZF_checkIndex_9 nf = some k) {ls : Array Slot} (hl : lv_has ls 2 []) : W p l e R s m args below meth c s.heap [] 0 0 (MQT below (TQ (xn k)) args s 1 6) (F0 m 9 ls []) := by
  obtain ⟨hx, hb, hr, hml, hown, hts, hlocks, hRf, hRl⟩ := id C0
  obtain ⟨tms, hZms, hTms, tmg, hZmg, hTmg, hNW⟩ := id hST
  unfold g_ZF_checkIndex_9 at hf
  cases rs hf
  obtain ⟨qs, hstr⟩ := hXT.2.2.2.2.2.2.1
  exact th_newW hno C0 hemp d_ZF_checkIndex_9 d_ZF_checkIndex_12 d_ZF_checkIndex_13 d_ZF_checkIndex_16 d_ZF_checkIndex_19 (xa_1 hts hXT) (hts _ m_3_134) (hts _ m_3_135) (hts _ m_1_15) hstr (by decide) hRc hRs (by decide) (by decide) hl.1 (Nat.le_of_ble_eq_true rfl)
set_option maxHeartbeats 400000 in
set_option maxRecDepth 100000 in
theorem u_ZF_checkIndex_0 (C0 : Cx p s m meth c args R b_ZF_checkIndex "ZoneFiles" 2 none 6 100) (hno : NT l) (hemp : c.exceptionTable.isEmpty = true) (hRc : 1 ≤ R.cells) (hRs : 6 ≤ R.slots) (hXT : XT (fun _ => False) s s.heap) (hST : ST (fun _ => False) s s.heap) (hK : va_K (dC, dI) classes [] s) (hE : True) {x0 : Int32} {x1 : Int32} (hf : g_ZF_checkIndex_0 nf x0 x1 = some k) {ls : Array Slot} (hl : lv_has ls 2 [(0, .int x0), (1, .int x1)]) : W p l e R s m args below meth c s.heap [] 0 0 (MQT below (TQ (xn k)) args s 1 6) (F0 m 0 ls []) := by
  obtain ⟨hx, hb, hr, hml, hown, hts, hlocks, hRf, hRl⟩ := id C0
  obtain ⟨tms, hZms, hTms, tmg, hZmg, hTmg, hNW⟩ := id hST
  unfold g_ZF_checkIndex_0 at hf
  refine lv_iload_n hx hb d_ZF_checkIndex_0 rfl (lv_at hl 0 rfl) ?_
  refine lv_if_lt (tgt := 9) hx hb d_ZF_checkIndex_1 (by decide) (fun c_1 => ?_) (fun c_1 => ?_)
  · have hf := it_t c_1 hf
    exact u_ZF_checkIndex_9 C0 hno hemp hRc hRs hXT hST hK hE hf (lv_sub hl [] rfl)
  · have hf := it_f c_1 hf
    refine lv_iload_n hx hb d_ZF_checkIndex_4 rfl (lv_at hl 0 rfl) ?_
    refine lv_iload_n hx hb d_ZF_checkIndex_5 rfl (lv_at hl 1 rfl) ?_
    refine lv_icmp_lt (tgt := 20) hx hb d_ZF_checkIndex_6 (by decide) (fun c_2 => ?_) (fun c_2 => ?_)
    · have hf := it_t c_2 hf
      exact absurd hf (by simp)
    · have hf := it_f c_2 hf
      exact u_ZF_checkIndex_9 C0 hno hemp hRc hRs hXT hST hK hE hf (lv_sub hl [] rfl)
end
set_option maxHeartbeats 400000 in
set_option maxRecDepth 100000 in
theorem t_ZF_checkIndex (l : Launch) (hno : NT l) (dC : Nat → ClassId) (dI : Nat → Nat → Nat) (nf : Nat) (p0 : Int32) (p1 : Int32) {k : Nat} (hf : g_ZF_checkIndex nf p0 p1 = some k) : MetT l y_ZF_checkIndex (wd y_ZF_checkIndex b_ZF_checkIndex 2 none) ({ frames := 6, cells := 1, slots := 6, locals := 100 }) (ROX dC dI [] [] [.int p0, .int p1]) (TQ (xn k)) 1 6 :=
  met_TX (plainFor_of_name (by decide)) (Nat.le_of_ble_eq_true rfl) (fun p e R s m args below meth c ls hRc hRs hemp C0 hST hXT hK hP hl => by
    obtain ⟨hx, hb, hr, hml, hown, hts, hlocks, hRf, hRl⟩ := id C0
    unfold g_ZF_checkIndex at hf
    exact u_ZF_checkIndex_0 C0 hno hemp hRc hRs hXT hST hK trivial hf (lv_sub hl [0, 1] rfl))
-- ZoneFiles.checkInstant(J)V
def g_ZF_checkInstant_0 (nf : Nat) (x0 : Int64) : Option (Nat) :=
  (f_ZF_isInstant nf x0).bind fun r_1 =>
  if r_1 = 0 then
  some 2
  else
  none
def g_ZF_checkInstant (nf : Nat) (p0 : Int64) : Option (Nat) :=
  g_ZF_checkInstant_0 nf p0
section
variable {p : Program} {l : Launch} {e : Env} {R : Room} {s : State} {m : MethodId} {args : Array Value} {below : List Frame} {meth : Method} {c : Code} {Q : State → Prop} {dC : Nat → ClassId} {dI : Nat → Nat → Nat} {nf : Nat}
variable {k : Nat}
set_option maxHeartbeats 400000 in
set_option maxRecDepth 100000 in
theorem u_ZF_checkInstant_0 (C0 : Cx p s m meth c args R b_ZF_checkInstant "ZoneFiles" 2 none 6 100) (hno : NT l) (hemp : c.exceptionTable.isEmpty = true) (hRc : 1 ≤ R.cells) (hRs : 6 ≤ R.slots) (hXT : XT (fun _ => False) s s.heap) (hST : ST (fun _ => False) s s.heap) (hK : va_K (dC, dI) classes [] s) (hE : True) {x0 : Int64} (hf : g_ZF_checkInstant_0 nf x0 = some k) {ls : Array Slot} (hl : lv_has ls 2 [(0, .long x0)]) : W p l e R s m args below meth c s.heap [] 0 0 (MQT below (TQ (xn k)) args s 1 6) (F0 m 0 ls []) := by
  obtain ⟨hx, hb, hr, hml, hown, hts, hlocks, hRf, hRl⟩ := id C0
  obtain ⟨tms, hZms, hTms, tmg, hZmg, hTmg, hNW⟩ := id hST
  unfold g_ZF_checkInstant_0 at hf
  refine lv_lload_n hx hb d_ZF_checkInstant_0 rfl (lv_at hl 0 rfl) ?_
  obtain ⟨r_1, hc, hf⟩ := ob hf
  refine cl_S (v := (some (.int r_1))) (st1 := [.int r_1]) (va_runS (As := [.long x0]) (rest := []) ⟨hx, hb, hml, hown, hts⟩ (c_ZF_isInstant l dC dI nf x0 hc) (va_cwS 1 hts (gdS m_5_39 m_3_233 m_1_1 m_3_234) rfl rfl rfl (by decide +kernel) ⟨Nat.le_trans (Nat.le_of_ble_eq_true rfl) hRf, Nat.le_trans (Nat.le_of_ble_eq_true rfl) hRl⟩) (RO.pre0 hK hST).sta rfl rfl hl.1 rfl (lv_room (Nat.le_of_ble_eq_true rfl)) d_ZF_checkInstant_1 ⟨Nat.zero_le _, Nat.zero_le _⟩) rfl ?_
  refine lv_if_ne (tgt := 18) hx hb d_ZF_checkInstant_4 (by decide) (fun c_2 => ?_) (fun c_2 => ?_)
  · have hf := it_f c_2 hf
    exact absurd hf (by simp)
  · have hf := it_t c_2 hf
    cases rs hf
    obtain ⟨qs, hstr⟩ := hXT.2.2.2.2.2.2.2.2.1
    exact th_newW hno C0 hemp d_ZF_checkInstant_7 d_ZF_checkInstant_10 d_ZF_checkInstant_11 d_ZF_checkInstant_14 d_ZF_checkInstant_17 (xa_2 hts hXT) (hts _ m_3_54) (hts _ m_3_55) (hts _ m_1_14) hstr (by decide) hRc hRs (by decide) (by decide) hl.1 (Nat.le_of_ble_eq_true rfl)
end
set_option maxHeartbeats 400000 in
set_option maxRecDepth 100000 in
theorem t_ZF_checkInstant (l : Launch) (hno : NT l) (dC : Nat → ClassId) (dI : Nat → Nat → Nat) (nf : Nat) (p0 : Int64) {k : Nat} (hf : g_ZF_checkInstant nf p0 = some k) : MetT l y_ZF_checkInstant (wd y_ZF_checkInstant b_ZF_checkInstant 2 none) ({ frames := 6, cells := 1, slots := 6, locals := 100 }) (ROX dC dI [] [] [.long p0]) (TQ (xn k)) 1 6 :=
  met_TX (plainFor_of_name (by decide)) (Nat.le_of_ble_eq_true rfl) (fun p e R s m args below meth c ls hRc hRs hemp C0 hST hXT hK hP hl => by
    obtain ⟨hx, hb, hr, hml, hown, hts, hlocks, hRf, hRl⟩ := id C0
    unfold g_ZF_checkInstant at hf
    exact u_ZF_checkInstant_0 C0 hno hemp hRc hRs hXT hST hK trivial hf (lv_sub hl [0] rfl))
-- ZoneFiles.feed(IJ)I
def g_ZF_feed_11 (nf : Nat) : Option (Nat) :=
  some 2
def g_ZF_feed_0 (nf : Nat) (tpS : Int32) (x1 : Int32) (x2 : Int64) : Option (Nat) :=
  if x1 < (1 : Int32) then
  g_ZF_feed_11 nf
  else
  if x1 ≤ (8 : Int32) then
    if (tpS + x1) ≤ (6000 : Int32) then
      none
      else
      some 2
    else
    g_ZF_feed_11 nf
def g_ZF_feed (nf : Nat) (p0 : Int32) (p1 : Int64) (tpS : Int32) : Option (Nat) :=
  g_ZF_feed_0 nf tpS p0 p1
section
variable {p : Program} {l : Launch} {e : Env} {R : Room} {s : State} {m : MethodId} {args : Array Value} {below : List Frame} {meth : Method} {c : Code} {Q : State → Prop} {dC : Nat → ClassId} {dI : Nat → Nat → Nat} {nf : Nat}
variable {h0 : Nat} {zfTp : Nat} {zfWr : Nat} {zfZs : Nat} {zfSp : Nat} {zfLt : Nat} {zfSt : Nat} {zfFd : Nat} {tpR : Nat} {zfFc : Int32} {zfFp : Int32} {tpS : Int32} {k : Nat}
set_option maxHeartbeats 400000 in
set_option maxRecDepth 100000 in
theorem u_ZF_feed_11 (C0 : Cx p s m meth c args R b_ZF_feed "ZoneFiles" 5 (some .int) 6 100) (hno : NT l) (hemp : c.exceptionTable.isEmpty = true) (hRc : 1 ≤ R.cells) (hRs : 6 ≤ R.slots) (hXT : XT (fun _ => False) s s.heap) (hST : ST (fun _ => False) s s.heap) (hK : va_K (dC, dI) classes [] s) (hP : va_P (dC, dI) classes [(h0, .inr (9, [.ref zfTp, .ref zfWr, .ref zfZs, .ref zfSp, .ref zfLt, .ref zfSt, .ref zfFd, .int zfFc, .int zfFp])), (zfTp, .inr (0, [.ref tpR, .int tpS]))] s.heap) (hE : True) (hf : g_ZF_feed_11 nf = some k) {ls : Array Slot} (hl : lv_has ls 5 []) : W p l e R s m args below meth c s.heap [] 0 0 (MQT below (TQ (xn k)) args s 1 6) (F0 m 11 ls []) := by
  obtain ⟨hx, hb, hr, hml, hown, hts, hlocks, hRf, hRl⟩ := id C0
  obtain ⟨tms, hZms, hTms, tmg, hZmg, hTmg, hNW⟩ := id hST
  unfold g_ZF_feed_11 at hf
  cases rs hf
  obtain ⟨qs, hstr⟩ := hXT.2.2.1
  exact th_new hno C0 hemp d_ZF_feed_11 d_ZF_feed_14 d_ZF_feed_15 d_ZF_feed_17 d_ZF_feed_20 (xa_2 hts hXT) (hts _ m_3_54) (hts _ m_3_55) (hts _ m_1_14) hstr (by decide) hRc hRs (by decide) (by decide) hl.1 (Nat.le_of_ble_eq_true rfl)
set_option maxHeartbeats 400000 in
set_option maxRecDepth 100000 in
theorem u_ZF_feed_0 (C0 : Cx p s m meth c args R b_ZF_feed "ZoneFiles" 5 (some .int) 6 100) (hno : NT l) (hemp : c.exceptionTable.isEmpty = true) (hRc : 1 ≤ R.cells) (hRs : 6 ≤ R.slots) (hXT : XT (fun _ => False) s s.heap) (hST : ST (fun _ => False) s s.heap) (hK : va_K (dC, dI) classes [] s) (hP : va_P (dC, dI) classes [(h0, .inr (9, [.ref zfTp, .ref zfWr, .ref zfZs, .ref zfSp, .ref zfLt, .ref zfSt, .ref zfFd, .int zfFc, .int zfFp])), (zfTp, .inr (0, [.ref tpR, .int tpS]))] s.heap) (hE : True) {x1 : Int32} {x2 : Int64} (hf : g_ZF_feed_0 nf tpS x1 x2 = some k) {ls : Array Slot} (hl : lv_has ls 5 [(0, .ref h0), (1, .int x1), (2, .long x2)]) : W p l e R s m args below meth c s.heap [] 0 0 (MQT below (TQ (xn k)) args s 1 6) (F0 m 0 ls []) := by
  obtain ⟨hx, hb, hr, hml, hown, hts, hlocks, hRf, hRl⟩ := id C0
  obtain ⟨tms, hZms, hTms, tmg, hZmg, hTmg, hNW⟩ := id hST
  unfold g_ZF_feed_0 at hf
  refine lv_iload_n hx hb d_ZF_feed_0 rfl (lv_at hl 1 rfl) ?_
  refine lv_iconst (v := 1) hx hb d_ZF_feed_1 (by decide) ?_
  refine lv_icmp_lt (tgt := 11) hx hb d_ZF_feed_2 (by decide) (fun c_1 => ?_) (fun c_1 => ?_)
  · have hf := it_t c_1 hf
    exact u_ZF_feed_11 C0 hno hemp hRc hRs hXT hST hK hP hE hf (lv_sub hl [] rfl)
  · have hf := it_f c_1 hf
    refine lv_iload_n hx hb d_ZF_feed_5 rfl (lv_at hl 1 rfl) ?_
    refine lv_bipush (v := 8) hx hb d_ZF_feed_6 (by decide) ?_
    refine lv_icmp_le (tgt := 21) hx hb d_ZF_feed_8 (by decide) (fun c_2 => ?_) (fun c_2 => ?_)
    · have hf := it_t c_2 hf
      refine lv_aload_n hx hb d_ZF_feed_21 rfl (lv_at hl 0 rfl) ?_
      refine va_get (D := (dC, dI)) (ci := 9) (v := .ref zfTp) (C := RZoneFiles) (T := TZoneFiles) (N := 9) hx hb hts in_ZoneFiles hown hK hP 0 rfl rfl 0 (by decide) (hts (.fieldLink "ZoneFiles" 12 "ZoneFiles" "tape" "LZoneFiles$Bytes;") m_2_117) (fun _ h9 => h9) rfl d_ZF_feed_22 ?_
      refine va_get (D := (dC, dI)) (ci := 0) (v := .int tpS) (C := RBytes) (T := TBytes) (N := 2) hx hb hts in_Bytes hown hK hP 1 rfl rfl 1 (by decide) (hts (.fieldLink "ZoneFiles" 63 "ZoneFiles$Bytes" "size" "I") m_1_39) (fun _ h9 => h9) rfl d_ZF_feed_25 ?_
      refine lv_iload_n hx hb d_ZF_feed_28 rfl (lv_at hl 1 rfl) ?_
      refine lv_iadd hx hb d_ZF_feed_29 ?_
      refine lv_sipush (v := 6000) hx hb d_ZF_feed_30 (by decide) ?_
      refine lv_icmp_le (tgt := 46) hx hb d_ZF_feed_33 (by decide) (fun c_3 => ?_) (fun c_3 => ?_)
      · have hf := it_t c_3 hf
        exact absurd hf (by simp)
      · have hf := it_f c_3 hf
        cases rs hf
        obtain ⟨qs, hstr⟩ := hXT.2.2.2.1
        exact th_new hno C0 hemp d_ZF_feed_36 d_ZF_feed_39 d_ZF_feed_40 d_ZF_feed_42 d_ZF_feed_45 (xa_2 hts hXT) (hts _ m_3_54) (hts _ m_3_55) (hts _ m_1_14) hstr (by decide) hRc hRs (by decide) (by decide) hl.1 (Nat.le_of_ble_eq_true rfl)
    · have hf := it_f c_2 hf
      exact u_ZF_feed_11 C0 hno hemp hRc hRs hXT hST hK hP hE hf (lv_sub hl [] rfl)
end
set_option maxHeartbeats 400000 in
set_option maxRecDepth 100000 in
theorem t_ZF_feed (l : Launch) (hno : NT l) (dC : Nat → ClassId) (dI : Nat → Nat → Nat) (h0 : Nat) (zfTp : Nat) (zfWr : Nat) (zfZs : Nat) (zfSp : Nat) (zfLt : Nat) (zfSt : Nat) (zfFd : Nat) (tpR : Nat) (nf : Nat) (p0 : Int32) (p1 : Int64) (zfFc : Int32) (zfFp : Int32) (tpS : Int32) {k : Nat} (hf : g_ZF_feed nf p0 p1 tpS = some k) : MetT l y_ZF_feed (wd y_ZF_feed b_ZF_feed 5 (some .int)) ({ frames := 6, cells := 1, slots := 6, locals := 100 }) (ROX dC dI [(h0, .inr (9, [.ref zfTp, .ref zfWr, .ref zfZs, .ref zfSp, .ref zfLt, .ref zfSt, .ref zfFd, .int zfFc, .int zfFp])), (zfTp, .inr (0, [.ref tpR, .int tpS]))] [] [.ref h0, .int p0, .long p1]) (TQ (xn k)) 1 6 :=
  met_TX (plainFor_of_name (by decide)) (Nat.le_of_ble_eq_true rfl) (fun p e R s m args below meth c ls hRc hRs hemp C0 hST hXT hK hP hl => by
    obtain ⟨hx, hb, hr, hml, hown, hts, hlocks, hRf, hRl⟩ := id C0
    unfold g_ZF_feed at hf
    exact u_ZF_feed_0 C0 hno hemp hRc hRs hXT hST hK hP trivial hf (lv_sub hl [0, 1, 2] rfl))
-- ZoneFiles.clock(JI)J
def g_ZF_clock_0 (nf : Nat) (x1 : Int64) (x3 : Int32) : Option (Nat) :=
  orT (g_ZF_checkIndex nf x3 8) ((f_ZF_checkIndex nf x3 8).bind fun _u =>
  orT (g_ZF_checkInstant nf x1) (none))
def g_ZF_clock (nf : Nat) (p0 : Int64) (p1 : Int32) : Option (Nat) :=
  g_ZF_clock_0 nf p0 p1
section
variable {p : Program} {l : Launch} {e : Env} {R : Room} {s : State} {m : MethodId} {args : Array Value} {below : List Frame} {meth : Method} {c : Code} {Q : State → Prop} {dC : Nat → ClassId} {dI : Nat → Nat → Nat} {nf : Nat}
variable {h0 : Nat} {k : Nat}
set_option maxHeartbeats 400000 in
set_option maxRecDepth 100000 in
theorem u_ZF_clock_0 (C0 : Cx p s m meth c args R b_ZF_clock "ZoneFiles" 7 (some .long) 7 121) (hno : NT l) (hemp : c.exceptionTable.isEmpty = true) (hRc : 1 ≤ R.cells) (hRs : 6 ≤ R.slots) (hXT : XT (fun _ => False) s s.heap) (hST : ST (fun _ => False) s s.heap) (hK : va_K (dC, dI) classes [] s) (hE : True) {x1 : Int64} {x3 : Int32} (hf : g_ZF_clock_0 nf x1 x3 = some k) {ls : Array Slot} (hl : lv_has ls 7 [(1, .long x1), (3, .int x3)]) : W p l e R s m args below meth c s.heap [] 0 0 (MQT below (TQ (xn k)) args s 1 6) (F0 m 0 ls []) := by
  obtain ⟨hx, hb, hr, hml, hown, hts, hlocks, hRf, hRl⟩ := id C0
  obtain ⟨tms, hZms, hTms, tmg, hZmg, hTmg, hNW⟩ := id hST
  unfold g_ZF_clock_0 at hf
  refine lv_iload_n hx hb d_ZF_clock_0 rfl (lv_at hl 1 rfl) ?_
  refine lv_bipush (v := 8) hx hb d_ZF_clock_1 (by decide) ?_
  rcases orT_c hf with hc | hf
  · exact th_goS (As := [.int x3, .int 8]) (rest := []) ⟨hx, hb, hml, hown, hts⟩ (t_ZF_checkIndex l hno dC dI nf x3 8 hc) (va_cwS 2 hts (gdS m_4_234 m_4_235 m_1_1 m_4_236) rfl rfl rfl (by decide +kernel) ⟨Nat.le_trans (Nat.le_of_ble_eq_true rfl) hRf, Nat.le_trans (Nat.le_of_ble_eq_true rfl) hRl⟩) (ROXsta (RO.pre0 hK hST) hXT) rfl hl.1 rfl (Nat.le_of_ble_eq_true rfl) d_ZF_clock_3 ⟨hRc, hRs⟩ (fun x V ce h1 h2 h3 h4 h5 h6 => th_out hlocks hemp h1 h2 h3 h4 h5 h6)
  · obtain ⟨_u, hc, hf⟩ := ob hf
    refine cl_S (v := none) (st1 := []) (va_runS (As := [.int x3, .int 8]) (rest := []) ⟨hx, hb, hml, hown, hts⟩ (c_ZF_checkIndex l dC dI nf x3 8 hc) (va_cwS 2 hts (gdS m_4_234 m_4_235 m_1_1 m_4_236) rfl rfl rfl (by decide +kernel) ⟨Nat.le_trans (Nat.le_of_ble_eq_true rfl) hRf, Nat.le_trans (Nat.le_of_ble_eq_true rfl) hRl⟩) (RO.pre0 hK hST).sta rfl rfl hl.1 rfl (lv_room (Nat.le_of_ble_eq_true rfl)) d_ZF_clock_3 ⟨Nat.zero_le _, Nat.zero_le _⟩) rfl ?_
    refine lv_lload_n hx hb d_ZF_clock_6 rfl (lv_at hl 0 rfl) ?_
    rcases orT_c hf with hc | hf
    · exact th_goS (As := [.long x1]) (rest := []) ⟨hx, hb, hml, hown, hts⟩ (t_ZF_checkInstant l hno dC dI nf x1 hc) (va_cwS 1 hts (gdS m_5_36 m_5_37 m_1_1 m_5_38) rfl rfl rfl (by decide +kernel) ⟨Nat.le_trans (Nat.le_of_ble_eq_true rfl) hRf, Nat.le_trans (Nat.le_of_ble_eq_true rfl) hRl⟩) (ROXsta (RO.pre0 hK hST) hXT) rfl hl.1 rfl (Nat.le_of_ble_eq_true rfl) d_ZF_clock_7 ⟨hRc, hRs⟩ (fun x V ce h1 h2 h3 h4 h5 h6 => th_out hlocks hemp h1 h2 h3 h4 h5 h6)
    · exact absurd hf (by simp)
end
set_option maxHeartbeats 400000 in
set_option maxRecDepth 100000 in
theorem t_ZF_clock (l : Launch) (hno : NT l) (dC : Nat → ClassId) (dI : Nat → Nat → Nat) (h0 : Nat) (nf : Nat) (p0 : Int64) (p1 : Int32) {k : Nat} (hf : g_ZF_clock nf p0 p1 = some k) : MetT l y_ZF_clock (wd y_ZF_clock b_ZF_clock 7 (some .long)) ({ frames := 7, cells := 1, slots := 6, locals := 121 }) (ROX dC dI [] [] [.ref h0, .long p0, .int p1]) (TQ (xn k)) 1 6 :=
  met_TX (plainFor_of_name (by decide)) (Nat.le_of_ble_eq_true rfl) (fun p e R s m args below meth c ls hRc hRs hemp C0 hST hXT hK hP hl => by
    obtain ⟨hx, hb, hr, hml, hown, hts, hlocks, hRf, hRl⟩ := id C0
    unfold g_ZF_clock at hf
    exact u_ZF_clock_0 C0 hno hemp hRc hRs hXT hST hK trivial hf (lv_sub hl [1, 2] rfl))
-- ZoneFiles.seconds(JIII)J
def g_ZF_seconds_16 (nf : Nat) : Option (Nat) :=
  some 2
def g_ZF_seconds_37 (nf : Nat) : Option (Nat) :=
  some 2
def g_ZF_seconds_70 (nf : Nat) : Option (Nat) :=
  some 2
def g_ZF_seconds_96 (nf : Nat) : Option (Nat) :=
  some 2
def g_ZF_seconds_0 (nf : Nat) (x1 : Int64) (x3 : Int32) (x4 : Int32) (x5 : Int32) : Option (Nat) :=
  if x1 < (-30000000000 : Int64) then
  g_ZF_seconds_16 nf
  else
  if x1 ≤ (30000000000 : Int64) then
    if x3 < (1 : Int32) then
      g_ZF_seconds_37 nf
      else
      if x3 ≤ (12 : Int32) then
        (f_Cal_isLongYear nf x1).bind fun r_5 =>
          if x4 < (1 : Int32) then
          g_ZF_seconds_70 nf
          else
          (f_Cal_monthSize nf x3 r_5).bind fun r_7 =>
            if x4 ≤ r_7 then
            if x5 < 0 then
              g_ZF_seconds_96 nf
              else
              if x5.toInt64 < (86400 : Int64) then
                none
                else
                g_ZF_seconds_96 nf
            else
            g_ZF_seconds_70 nf
        else
        g_ZF_seconds_37 nf
    else
    g_ZF_seconds_16 nf
def g_ZF_seconds (nf : Nat) (p0 : Int64) (p1 : Int32) (p2 : Int32) (p3 : Int32) : Option (Nat) :=
  g_ZF_seconds_0 nf p0 p1 p2 p3
section
variable {p : Program} {l : Launch} {e : Env} {R : Room} {s : State} {m : MethodId} {args : Array Value} {below : List Frame} {meth : Method} {c : Code} {Q : State → Prop} {dC : Nat → ClassId} {dI : Nat → Nat → Nat} {nf : Nat}
variable {h0 : Nat} {k : Nat}
set_option maxHeartbeats 400000 in
set_option maxRecDepth 100000 in
theorem u_ZF_seconds_16 (C0 : Cx p s m meth c args R b_ZF_seconds "ZoneFiles" 9 (some .long) 6 100) (hno : NT l) (hemp : c.exceptionTable.isEmpty = true) (hRc : 1 ≤ R.cells) (hRs : 6 ≤ R.slots) (hXT : XT (fun _ => False) s s.heap) (hST : ST (fun _ => False) s s.heap) (hK : va_K (dC, dI) classes [] s) (hE : True) (hf : g_ZF_seconds_16 nf = some k) {ls : Array Slot} (hl : lv_has ls 9 []) : W p l e R s m args below meth c s.heap [] 0 0 (MQT below (TQ (xn k)) args s 1 6) (F0 m 16 ls []) := by
  obtain ⟨hx, hb, hr, hml, hown, hts, hlocks, hRf, hRl⟩ := id C0
  obtain ⟨tms, hZms, hTms, tmg, hZmg, hTmg, hNW⟩ := id hST
  unfold g_ZF_seconds_16 at hf
  cases rs hf
  obtain ⟨qs, hstr⟩ := hXT.2.2.2.2.2.2.2.2.2.2.1
  exact th_new hno C0 hemp d_ZF_seconds_16 d_ZF_seconds_19 d_ZF_seconds_20 d_ZF_seconds_22 d_ZF_seconds_25 (xa_2 hts hXT) (hts _ m_3_54) (hts _ m_3_55) (hts _ m_1_14) hstr (by decide) hRc hRs (by decide) (by decide) hl.1 (Nat.le_of_ble_eq_true rfl)
set_option maxHeartbeats 400000 in
set_option maxRecDepth 100000 in
theorem u_ZF_seconds_37 (C0 : Cx p s m meth c args R b_ZF_seconds "ZoneFiles" 9 (some .long) 6 100) (hno : NT l) (hemp : c.exceptionTable.isEmpty = true) (hRc : 1 ≤ R.cells) (hRs : 6 ≤ R.slots) (hXT : XT (fun _ => False) s s.heap) (hST : ST (fun _ => False) s s.heap) (hK : va_K (dC, dI) classes [] s) (hE : True) (hf : g_ZF_seconds_37 nf = some k) {ls : Array Slot} (hl : lv_has ls 9 []) : W p l e R s m args below meth c s.heap [] 0 0 (MQT below (TQ (xn k)) args s 1 6) (F0 m 37 ls []) := by
  obtain ⟨hx, hb, hr, hml, hown, hts, hlocks, hRf, hRl⟩ := id C0
  obtain ⟨tms, hZms, hTms, tmg, hZmg, hTmg, hNW⟩ := id hST
  unfold g_ZF_seconds_37 at hf
  cases rs hf
  obtain ⟨qs, hstr⟩ := hXT.2.2.2.2.2.2.2.2.2.2.2.1
  exact th_new hno C0 hemp d_ZF_seconds_37 d_ZF_seconds_40 d_ZF_seconds_41 d_ZF_seconds_43 d_ZF_seconds_46 (xa_2 hts hXT) (hts _ m_3_54) (hts _ m_3_55) (hts _ m_1_14) hstr (by decide) hRc hRs (by decide) (by decide) hl.1 (Nat.le_of_ble_eq_true rfl)
set_option maxHeartbeats 400000 in
set_option maxRecDepth 100000 in
theorem u_ZF_seconds_70 (C0 : Cx p s m meth c args R b_ZF_seconds "ZoneFiles" 9 (some .long) 6 100) (hno : NT l) (hemp : c.exceptionTable.isEmpty = true) (hRc : 1 ≤ R.cells) (hRs : 6 ≤ R.slots) (hXT : XT (fun _ => False) s s.heap) (hST : ST (fun _ => False) s s.heap) (hK : va_K (dC, dI) classes [] s) (hE : True) (hf : g_ZF_seconds_70 nf = some k) {ls : Array Slot} (hl : lv_has ls 9 []) : W p l e R s m args below meth c s.heap [] 0 0 (MQT below (TQ (xn k)) args s 1 6) (F0 m 70 ls []) := by
  obtain ⟨hx, hb, hr, hml, hown, hts, hlocks, hRf, hRl⟩ := id C0
  obtain ⟨tms, hZms, hTms, tmg, hZmg, hTmg, hNW⟩ := id hST
  unfold g_ZF_seconds_70 at hf
  cases rs hf
  obtain ⟨qs, hstr⟩ := hXT.2.2.2.2.2.2.2.2.2.2.2.2.1
  exact th_newW hno C0 hemp d_ZF_seconds_70 d_ZF_seconds_73 d_ZF_seconds_74 d_ZF_seconds_77 d_ZF_seconds_80 (xa_2 hts hXT) (hts _ m_3_54) (hts _ m_3_55) (hts _ m_1_14) hstr (by decide) hRc hRs (by decide) (by decide) hl.1 (Nat.le_of_ble_eq_true rfl)
set_option maxHeartbeats 400000 in
set_option maxRecDepth 100000 in
theorem u_ZF_seconds_96 (C0 : Cx p s m meth c args R b_ZF_seconds "ZoneFiles" 9 (some .long) 6 100) (hno : NT l) (hemp : c.exceptionTable.isEmpty = true) (hRc : 1 ≤ R.cells) (hRs : 6 ≤ R.slots) (hXT : XT (fun _ => False) s s.heap) (hST : ST (fun _ => False) s s.heap) (hK : va_K (dC, dI) classes [] s) (hE : True) (hf : g_ZF_seconds_96 nf = some k) {ls : Array Slot} (hl : lv_has ls 9 []) : W p l e R s m args below meth c s.heap [] 0 0 (MQT below (TQ (xn k)) args s 1 6) (F0 m 96 ls []) := by
  obtain ⟨hx, hb, hr, hml, hown, hts, hlocks, hRf, hRl⟩ := id C0
  obtain ⟨tms, hZms, hTms, tmg, hZmg, hTmg, hNW⟩ := id hST
  unfold g_ZF_seconds_96 at hf
  cases rs hf
  obtain ⟨qs, hstr⟩ := hXT.2.2.2.2.2.2.2.2.2.2.2.2.2.1
  exact th_newW hno C0 hemp d_ZF_seconds_96 d_ZF_seconds_99 d_ZF_seconds_100 d_ZF_seconds_103 d_ZF_seconds_106 (xa_2 hts hXT) (hts _ m_3_54) (hts _ m_3_55) (hts _ m_1_14) hstr (by decide) hRc hRs (by decide) (by decide) hl.1 (Nat.le_of_ble_eq_true rfl)
set_option maxHeartbeats 400000 in
set_option maxRecDepth 100000 in
theorem u_ZF_seconds_0 (C0 : Cx p s m meth c args R b_ZF_seconds "ZoneFiles" 9 (some .long) 6 100) (hno : NT l) (hemp : c.exceptionTable.isEmpty = true) (hRc : 1 ≤ R.cells) (hRs : 6 ≤ R.slots) (hXT : XT (fun _ => False) s s.heap) (hST : ST (fun _ => False) s s.heap) (hK : va_K (dC, dI) classes [] s) (hE : True) {x1 : Int64} {x3 : Int32} {x4 : Int32} {x5 : Int32} (hf : g_ZF_seconds_0 nf x1 x3 x4 x5 = some k) {ls : Array Slot} (hl : lv_has ls 9 [(1, .long x1), (3, .int x3), (4, .int x4), (5, .int x5)]) : W p l e R s m args below meth c s.heap [] 0 0 (MQT below (TQ (xn k)) args s 1 6) (F0 m 0 ls []) := by
  obtain ⟨hx, hb, hr, hml, hown, hts, hlocks, hRf, hRl⟩ := id C0
  obtain ⟨tms, hZms, hTms, tmg, hZmg, hTmg, hNW⟩ := id hST
  unfold g_ZF_seconds_0 at hf
  refine lv_lload_n hx hb d_ZF_seconds_0 rfl (lv_at hl 0 rfl) ?_
  refine lv_ldc2 (v := (-30000000000)) hx hb hown (hts (.constantLong "ZoneFiles" 246 (-30000000000)) m_5_102) d_ZF_seconds_1 ?_
  refine lc_lt (tgt := 16) hx hb d_ZF_seconds_4 d_ZF_seconds_5 (by decide) (fun c_1 => ?_) (fun c_1 => ?_)
  · have hf := it_t c_1 hf
    exact u_ZF_seconds_16 C0 hno hemp hRc hRs hXT hST hK hE hf (lv_sub hl [] rfl)
  · have hf := it_f c_1 hf
    refine lv_lload_n hx hb d_ZF_seconds_8 rfl (lv_at hl 0 rfl) ?_
    refine lv_ldc2 (v := 30000000000) hx hb hown (hts (.constantLong "ZoneFiles" 248 30000000000) m_5_103) d_ZF_seconds_9 ?_
    refine lc_le (tgt := 26) hx hb d_ZF_seconds_12 d_ZF_seconds_13 (by decide) (fun c_2 => ?_) (fun c_2 => ?_)
    · have hf := it_t c_2 hf
      refine lv_iload_n hx hb d_ZF_seconds_26 rfl (lv_at hl 1 rfl) ?_
      refine lv_iconst (v := 1) hx hb d_ZF_seconds_27 (by decide) ?_
      refine lv_icmp_lt (tgt := 37) hx hb d_ZF_seconds_28 (by decide) (fun c_3 => ?_) (fun c_3 => ?_)
      · have hf := it_t c_3 hf
        exact u_ZF_seconds_37 C0 hno hemp hRc hRs hXT hST hK hE hf (lv_sub hl [] rfl)
      · have hf := it_f c_3 hf
        refine lv_iload_n hx hb d_ZF_seconds_31 rfl (lv_at hl 1 rfl) ?_
        refine lv_bipush (v := 12) hx hb d_ZF_seconds_32 (by decide) ?_
        refine lv_icmp_le (tgt := 47) hx hb d_ZF_seconds_34 (by decide) (fun c_4 => ?_) (fun c_4 => ?_)
        · have hf := it_t c_4 hf
          refine lv_lload_n hx hb d_ZF_seconds_47 rfl (lv_at hl 0 rfl) ?_
          obtain ⟨r_5, hc, hf⟩ := ob hf
          refine cl_S (v := (some (.int r_5))) (st1 := [.int r_5]) (va_runS (As := [.long x1]) (rest := []) ⟨hx, hb, hml, hown, hts⟩ (c_Cal_isLongYear l dC dI nf x1 hc) (va_cwS 1 hts (gdS m_5_89 m_4_187 m_1_18 m_4_188) rfl rfl rfl (by decide +kernel) ⟨Nat.le_trans (Nat.le_of_ble_eq_true rfl) hRf, Nat.le_trans (Nat.le_of_ble_eq_true rfl) hRl⟩) (RO.pre0 hK hST).sta rfl rfl hl.1 rfl (lv_room (Nat.le_of_ble_eq_true rfl)) d_ZF_seconds_48 ⟨Nat.zero_le _, Nat.zero_le _⟩) rfl ?_
          refine lv_istore (lv' := [(6, .int r_5), (1, .long x1), (3, .int x3), (4, .int x4), (5, .int x5)]) hx hb d_ZF_seconds_51 hl (by decide) rfl (fun ls hl => ?_)
          refine lv_iload hx hb d_ZF_seconds_53 (lv_at hl 3 rfl) ?_
          refine lv_iconst (v := 1) hx hb d_ZF_seconds_55 (by decide) ?_
          refine lv_icmp_lt (tgt := 70) hx hb d_ZF_seconds_56 (by decide) (fun c_6 => ?_) (fun c_6 => ?_)
          · have hf := it_t c_6 hf
            exact u_ZF_seconds_70 C0 hno hemp hRc hRs hXT hST hK hE hf (lv_sub hl [] rfl)
          · have hf := it_f c_6 hf
            refine lv_iload hx hb d_ZF_seconds_59 (lv_at hl 3 rfl) ?_
            refine lv_iload_n hx hb d_ZF_seconds_61 rfl (lv_at hl 2 rfl) ?_
            refine lv_iload hx hb d_ZF_seconds_62 (lv_at hl 0 rfl) ?_
            obtain ⟨r_7, hc, hf⟩ := ob hf
            refine cl_S (v := (some (.int r_7))) (st1 := [.int r_7, .int x4]) (va_runS (As := [.int x3, .int r_5]) (rest := [.int x4]) ⟨hx, hb, hml, hown, hts⟩ (c_Cal_monthSize l dC dI nf x3 r_5 hc) (va_cwS 2 hts (gdS m_5_106 m_5_107 m_1_18 m_5_108) rfl rfl rfl (by decide +kernel) ⟨Nat.le_trans (Nat.le_of_ble_eq_true rfl) hRf, Nat.le_trans (Nat.le_of_ble_eq_true rfl) hRl⟩) (RO.pre0 hK hST).sta rfl rfl hl.1 rfl (lv_room (Nat.le_of_ble_eq_true rfl)) d_ZF_seconds_64 ⟨Nat.zero_le _, Nat.zero_le _⟩) rfl ?_
            refine lv_icmp_le (tgt := 81) hx hb d_ZF_seconds_67 (by decide) (fun c_8 => ?_) (fun c_8 => ?_)
            · have hf := it_t c_8 hf
              refine lv_iload hx hb d_ZF_seconds_81 (lv_at hl 4 rfl) ?_
              refine lv_if_lt (tgt := 96) hx hb d_ZF_seconds_83 (by decide) (fun c_9 => ?_) (fun c_9 => ?_)
              · have hf := it_t c_9 hf
                exact u_ZF_seconds_96 C0 hno hemp hRc hRs hXT hST hK hE hf (lv_sub hl [] rfl)
              · have hf := it_f c_9 hf
                refine lv_iload hx hb d_ZF_seconds_86 (lv_at hl 4 rfl) ?_
                refine lv_i2l hx hb d_ZF_seconds_88 rfl ?_
                refine lv_ldc2 (v := 86400) hx hb hown (hts (.constantLong "ZoneFiles" 229 86400) m_5_77) d_ZF_seconds_89 ?_
                refine lc_lt (tgt := 107) hx hb d_ZF_seconds_92 d_ZF_seconds_93 (by decide) (fun c_10 => ?_) (fun c_10 => ?_)
                · have hf := it_t c_10 hf
                  exact absurd hf (by simp)
                · have hf := it_f c_10 hf
                  exact u_ZF_seconds_96 C0 hno hemp hRc hRs hXT hST hK hE hf (lv_sub hl [] rfl)
            · have hf := it_f c_8 hf
              exact u_ZF_seconds_70 C0 hno hemp hRc hRs hXT hST hK hE hf (lv_sub hl [] rfl)
        · have hf := it_f c_4 hf
          exact u_ZF_seconds_37 C0 hno hemp hRc hRs hXT hST hK hE hf (lv_sub hl [] rfl)
    · have hf := it_f c_2 hf
      exact u_ZF_seconds_16 C0 hno hemp hRc hRs hXT hST hK hE hf (lv_sub hl [] rfl)
end
set_option maxHeartbeats 400000 in
set_option maxRecDepth 100000 in
theorem t_ZF_seconds (l : Launch) (hno : NT l) (dC : Nat → ClassId) (dI : Nat → Nat → Nat) (h0 : Nat) (nf : Nat) (p0 : Int64) (p1 : Int32) (p2 : Int32) (p3 : Int32) {k : Nat} (hf : g_ZF_seconds nf p0 p1 p2 p3 = some k) : MetT l y_ZF_seconds (wd y_ZF_seconds b_ZF_seconds 9 (some .long)) ({ frames := 6, cells := 1, slots := 6, locals := 100 }) (ROX dC dI [] [] [.ref h0, .long p0, .int p1, .int p2, .int p3]) (TQ (xn k)) 1 6 :=
  met_TX (plainFor_of_name (by decide)) (Nat.le_of_ble_eq_true rfl) (fun p e R s m args below meth c ls hRc hRs hemp C0 hST hXT hK hP hl => by
    obtain ⟨hx, hb, hr, hml, hown, hts, hlocks, hRf, hRl⟩ := id C0
    unfold g_ZF_seconds at hf
    exact u_ZF_seconds_0 C0 hno hemp hRc hRs hXT hST hK trivial hf (lv_sub hl [1, 2, 3, 4] rfl))
-- ZoneFiles.found(I)J
def g_ZF_found_0 (nf : Nat) (zfFc : Int32) (x1 : Int32) : Option (Nat) :=
  orT (g_ZF_checkIndex nf x1 zfFc) (none)
def g_ZF_found (nf : Nat) (p0 : Int32) (zfFc : Int32) : Option (Nat) :=
  g_ZF_found_0 nf zfFc p0
section
variable {p : Program} {l : Launch} {e : Env} {R : Room} {s : State} {m : MethodId} {args : Array Value} {below : List Frame} {meth : Method} {c : Code} {Q : State → Prop} {dC : Nat → ClassId} {dI : Nat → Nat → Nat} {nf : Nat}
variable {h0 : Nat} {zfTp : Nat} {zfWr : Nat} {zfZs : Nat} {zfSp : Nat} {zfLt : Nat} {zfSt : Nat} {zfFd : Nat} {zfFc : Int32} {zfFp : Int32} {k : Nat}
set_option maxHeartbeats 400000 in
set_option maxRecDepth 100000 in
theorem u_ZF_found_0 (C0 : Cx p s m meth c args R b_ZF_found "ZoneFiles" 2 (some .long) 7 121) (hno : NT l) (hemp : c.exceptionTable.isEmpty = true) (hRc : 1 ≤ R.cells) (hRs : 6 ≤ R.slots) (hXT : XT (fun _ => False) s s.heap) (hST : ST (fun _ => False) s s.heap) (hK : va_K (dC, dI) classes [] s) (hP : va_P (dC, dI) classes [(h0, .inr (9, [.ref zfTp, .ref zfWr, .ref zfZs, .ref zfSp, .ref zfLt, .ref zfSt, .ref zfFd, .int zfFc, .int zfFp]))] s.heap) (hE : True) {x1 : Int32} (hf : g_ZF_found_0 nf zfFc x1 = some k) {ls : Array Slot} (hl : lv_has ls 2 [(0, .ref h0), (1, .int x1)]) : W p l e R s m args below meth c s.heap [] 0 0 (MQT below (TQ (xn k)) args s 1 6) (F0 m 0 ls []) := by
  obtain ⟨hx, hb, hr, hml, hown, hts, hlocks, hRf, hRl⟩ := id C0
  obtain ⟨tms, hZms, hTms, tmg, hZmg, hTmg, hNW⟩ := id hST
  unfold g_ZF_found_0 at hf
  refine lv_iload_n hx hb d_ZF_found_0 rfl (lv_at hl 1 rfl) ?_
  refine lv_aload_n hx hb d_ZF_found_1 rfl (lv_at hl 0 rfl) ?_
  refine va_get (D := (dC, dI)) (ci := 9) (v := .int zfFc) (C := RZoneFiles) (T := TZoneFiles) (N := 9) hx hb hts in_ZoneFiles hown hK hP 0 rfl rfl 7 (by decide) (hts (.fieldLink "ZoneFiles" 49 "ZoneFiles" "foundCount" "I") m_2_124) (fun _ h9 => h9) rfl d_ZF_found_2 ?_
  rcases orT_c hf with hc | hf
  · exact th_goS (As := [.int x1, .int zfFc]) (rest := []) ⟨hx, hb, hml, hown, hts⟩ (t_ZF_checkIndex l hno dC dI nf x1 zfFc hc) (va_cwS 2 hts (gdS m_4_234 m_4_235 m_1_1 m_4_236) rfl rfl rfl (by decide +kernel) ⟨Nat.le_trans (Nat.le_of_ble_eq_true rfl) hRf, Nat.le_trans (Nat.le_of_ble_eq_true rfl) hRl⟩) (ROXsta (RO.pre0 hK hST) hXT) rfl hl.1 rfl (Nat.le_of_ble_eq_true rfl) d_ZF_found_5 ⟨hRc, hRs⟩ (fun x V ce h1 h2 h3 h4 h5 h6 => th_out hlocks hemp h1 h2 h3 h4 h5 h6)
  · exact absurd hf (by simp)
end
set_option maxHeartbeats 400000 in
set_option maxRecDepth 100000 in
theorem t_ZF_found (l : Launch) (hno : NT l) (dC : Nat → ClassId) (dI : Nat → Nat → Nat) (h0 : Nat) (zfTp : Nat) (zfWr : Nat) (zfZs : Nat) (zfSp : Nat) (zfLt : Nat) (zfSt : Nat) (zfFd : Nat) (nf : Nat) (p0 : Int32) (zfFc : Int32) (zfFp : Int32) {k : Nat} (hf : g_ZF_found nf p0 zfFc = some k) : MetT l y_ZF_found (wd y_ZF_found b_ZF_found 2 (some .long)) ({ frames := 7, cells := 1, slots := 6, locals := 121 }) (ROX dC dI [(h0, .inr (9, [.ref zfTp, .ref zfWr, .ref zfZs, .ref zfSp, .ref zfLt, .ref zfSt, .ref zfFd, .int zfFc, .int zfFp]))] [] [.ref h0, .int p0]) (TQ (xn k)) 1 6 :=
  met_TX (plainFor_of_name (by decide)) (Nat.le_of_ble_eq_true rfl) (fun p e R s m args below meth c ls hRc hRs hemp C0 hST hXT hK hP hl => by
    obtain ⟨hx, hb, hr, hml, hown, hts, hlocks, hRf, hRl⟩ := id C0
    unfold g_ZF_found at hf
    exact u_ZF_found_0 C0 hno hemp hRc hRs hXT hST hK hP trivial hf (lv_sub hl [0, 1] rfl))
-- ZoneFiles.out(I)I
def g_ZF_out_0 (nf : Nat) (wrS : Int32) (x1 : Int32) : Option (Nat) :=
  orT (g_ZF_checkIndex nf x1 wrS) (none)
def g_ZF_out (nf : Nat) (p0 : Int32) (wrS : Int32) : Option (Nat) :=
  g_ZF_out_0 nf wrS p0
section
variable {p : Program} {l : Launch} {e : Env} {R : Room} {s : State} {m : MethodId} {args : Array Value} {below : List Frame} {meth : Method} {c : Code} {Q : State → Prop} {dC : Nat → ClassId} {dI : Nat → Nat → Nat} {nf : Nat}
variable {h0 : Nat} {zfTp : Nat} {zfWr : Nat} {zfZs : Nat} {zfSp : Nat} {zfLt : Nat} {zfSt : Nat} {zfFd : Nat} {wrR : Nat} {zfFc : Int32} {zfFp : Int32} {wrS : Int32} {k : Nat}
set_option maxHeartbeats 400000 in
set_option maxRecDepth 100000 in
theorem u_ZF_out_0 (C0 : Cx p s m meth c args R b_ZF_out "ZoneFiles" 2 (some .int) 7 121) (hno : NT l) (hemp : c.exceptionTable.isEmpty = true) (hRc : 1 ≤ R.cells) (hRs : 6 ≤ R.slots) (hXT : XT (fun _ => False) s s.heap) (hST : ST (fun _ => False) s s.heap) (hK : va_K (dC, dI) classes [] s) (hP : va_P (dC, dI) classes [(h0, .inr (9, [.ref zfTp, .ref zfWr, .ref zfZs, .ref zfSp, .ref zfLt, .ref zfSt, .ref zfFd, .int zfFc, .int zfFp])), (zfWr, .inr (0, [.ref wrR, .int wrS]))] s.heap) (hE : True) {x1 : Int32} (hf : g_ZF_out_0 nf wrS x1 = some k) {ls : Array Slot} (hl : lv_has ls 2 [(0, .ref h0), (1, .int x1)]) : W p l e R s m args below meth c s.heap [] 0 0 (MQT below (TQ (xn k)) args s 1 6) (F0 m 0 ls []) := by
  obtain ⟨hx, hb, hr, hml, hown, hts, hlocks, hRf, hRl⟩ := id C0
  obtain ⟨tms, hZms, hTms, tmg, hZmg, hTmg, hNW⟩ := id hST
  unfold g_ZF_out_0 at hf
  refine lv_iload_n hx hb d_ZF_out_0 rfl (lv_at hl 1 rfl) ?_
  refine lv_aload_n hx hb d_ZF_out_1 rfl (lv_at hl 0 rfl) ?_
  refine va_get (D := (dC, dI)) (ci := 9) (v := .ref zfWr) (C := RZoneFiles) (T := TZoneFiles) (N := 9) hx hb hts in_ZoneFiles hown hK hP 0 rfl rfl 1 (by decide) (hts (.fieldLink "ZoneFiles" 18 "ZoneFiles" "written" "LZoneFiles$Bytes;") m_2_118) (fun _ h9 => h9) rfl d_ZF_out_2 ?_
  refine va_get (D := (dC, dI)) (ci := 0) (v := .int wrS) (C := RBytes) (T := TBytes) (N := 2) hx hb hts in_Bytes hown hK hP 1 rfl rfl 1 (by decide) (hts (.fieldLink "ZoneFiles" 63 "ZoneFiles$Bytes" "size" "I") m_1_39) (fun _ h9 => h9) rfl d_ZF_out_5 ?_
  rcases orT_c hf with hc | hf
  · exact th_goS (As := [.int x1, .int wrS]) (rest := []) ⟨hx, hb, hml, hown, hts⟩ (t_ZF_checkIndex l hno dC dI nf x1 wrS hc) (va_cwS 2 hts (gdS m_4_234 m_4_235 m_1_1 m_4_236) rfl rfl rfl (by decide +kernel) ⟨Nat.le_trans (Nat.le_of_ble_eq_true rfl) hRf, Nat.le_trans (Nat.le_of_ble_eq_true rfl) hRl⟩) (ROXsta (RO.pre0 hK hST) hXT) rfl hl.1 rfl (Nat.le_of_ble_eq_true rfl) d_ZF_out_8 ⟨hRc, hRs⟩ (fun x V ce h1 h2 h3 h4 h5 h6 => th_out hlocks hemp h1 h2 h3 h4 h5 h6)
  · exact absurd hf (by simp)
end
set_option maxHeartbeats 400000 in
set_option maxRecDepth 100000 in
theorem t_ZF_out (l : Launch) (hno : NT l) (dC : Nat → ClassId) (dI : Nat → Nat → Nat) (h0 : Nat) (zfTp : Nat) (zfWr : Nat) (zfZs : Nat) (zfSp : Nat) (zfLt : Nat) (zfSt : Nat) (zfFd : Nat) (wrR : Nat) (nf : Nat) (p0 : Int32) (zfFc : Int32) (zfFp : Int32) (wrS : Int32) {k : Nat} (hf : g_ZF_out nf p0 wrS = some k) : MetT l y_ZF_out (wd y_ZF_out b_ZF_out 2 (some .int)) ({ frames := 7, cells := 1, slots := 6, locals := 121 }) (ROX dC dI [(h0, .inr (9, [.ref zfTp, .ref zfWr, .ref zfZs, .ref zfSp, .ref zfLt, .ref zfSt, .ref zfFd, .int zfFc, .int zfFp])), (zfWr, .inr (0, [.ref wrR, .int wrS]))] [] [.ref h0, .int p0]) (TQ (xn k)) 1 6 :=
  met_TX (plainFor_of_name (by decide)) (Nat.le_of_ble_eq_true rfl) (fun p e R s m args below meth c ls hRc hRs hemp C0 hST hXT hK hP hl => by
    obtain ⟨hx, hb, hr, hml, hown, hts, hlocks, hRf, hRl⟩ := id C0
    unfold g_ZF_out at hf
    exact u_ZF_out_0 C0 hno hemp hRc hRs hXT hST hK hP trivial hf (lv_sub hl [0, 1] rfl))
-- ZoneFiles.told(I)J
def g_ZF_told_0 (nf : Nat) (lCount : Int32) (x1 : Int32) : Option (Nat) :=
  orT (g_ZF_checkIndex nf x1 2) ((f_ZF_checkIndex nf x1 2).bind fun _u =>
  if lCount = 0 then
  some 3
  else
  none)
def g_ZF_told (nf : Nat) (p0 : Int32) (lCount : Int32) : Option (Nat) :=
  g_ZF_told_0 nf lCount p0
section
variable {p : Program} {l : Launch} {e : Env} {R : Room} {s : State} {m : MethodId} {args : Array Value} {below : List Frame} {meth : Method} {c : Code} {Q : State → Prop} {dC : Nat → ClassId} {dI : Nat → Nat → Nat} {nf : Nat}
variable {h0 : Nat} {zfTp : Nat} {zfWr : Nat} {zfZs : Nat} {zfSp : Nat} {zfLt : Nat} {zfSt : Nat} {zfFd : Nat} {lTi : Nat} {lAh : Nat} {zfFc : Int32} {zfFp : Int32} {lCount : Int32} {lExp : Int64} {k : Nat}
set_option maxHeartbeats 400000 in
set_option maxRecDepth 100000 in
theorem u_ZF_told_0 (C0 : Cx p s m meth c args R b_ZF_told "ZoneFiles" 2 (some .long) 7 121) (hno : NT l) (hemp : c.exceptionTable.isEmpty = true) (hRc : 1 ≤ R.cells) (hRs : 6 ≤ R.slots) (hXT : XT (fun _ => False) s s.heap) (hST : ST (fun _ => False) s s.heap) (hK : va_K (dC, dI) classes [] s) (hP : va_P (dC, dI) classes [(h0, .inr (9, [.ref zfTp, .ref zfWr, .ref zfZs, .ref zfSp, .ref zfLt, .ref zfSt, .ref zfFd, .int zfFc, .int zfFp])), (zfLt, .inr (4, [.int lCount, .ref lTi, .ref lAh, .long lExp]))] s.heap) (hE : True) {x1 : Int32} (hf : g_ZF_told_0 nf lCount x1 = some k) {ls : Array Slot} (hl : lv_has ls 2 [(0, .ref h0), (1, .int x1)]) : W p l e R s m args below meth c s.heap [] 0 0 (MQT below (TQ (xn k)) args s 1 6) (F0 m 0 ls []) := by
  obtain ⟨hx, hb, hr, hml, hown, hts, hlocks, hRf, hRl⟩ := id C0
  obtain ⟨tms, hZms, hTms, tmg, hZmg, hTmg, hNW⟩ := id hST
  unfold g_ZF_told_0 at hf
  refine lv_iload_n hx hb d_ZF_told_0 rfl (lv_at hl 1 rfl) ?_
  refine lv_iconst (v := 2) hx hb d_ZF_told_1 (by decide) ?_
  rcases orT_c hf with hc | hf
  · exact th_goS (As := [.int x1, .int 2]) (rest := []) ⟨hx, hb, hml, hown, hts⟩ (t_ZF_checkIndex l hno dC dI nf x1 2 hc) (va_cwS 2 hts (gdS m_4_234 m_4_235 m_1_1 m_4_236) rfl rfl rfl (by decide +kernel) ⟨Nat.le_trans (Nat.le_of_ble_eq_true rfl) hRf, Nat.le_trans (Nat.le_of_ble_eq_true rfl) hRl⟩) (ROXsta (RO.pre0 hK hST) hXT) rfl hl.1 rfl (Nat.le_of_ble_eq_true rfl) d_ZF_told_2 ⟨hRc, hRs⟩ (fun x V ce h1 h2 h3 h4 h5 h6 => th_out hlocks hemp h1 h2 h3 h4 h5 h6)
  · obtain ⟨_u, hc, hf⟩ := ob hf
    refine cl_S (v := none) (st1 := []) (va_runS (As := [.int x1, .int 2]) (rest := []) ⟨hx, hb, hml, hown, hts⟩ (c_ZF_checkIndex l dC dI nf x1 2 hc) (va_cwS 2 hts (gdS m_4_234 m_4_235 m_1_1 m_4_236) rfl rfl rfl (by decide +kernel) ⟨Nat.le_trans (Nat.le_of_ble_eq_true rfl) hRf, Nat.le_trans (Nat.le_of_ble_eq_true rfl) hRl⟩) (RO.pre0 hK hST).sta rfl rfl hl.1 rfl (lv_room (Nat.le_of_ble_eq_true rfl)) d_ZF_told_2 ⟨Nat.zero_le _, Nat.zero_le _⟩) rfl ?_
    refine lv_aload_n hx hb d_ZF_told_5 rfl (lv_at hl 0 rfl) ?_
    refine va_get (D := (dC, dI)) (ci := 9) (v := .ref zfLt) (C := RZoneFiles) (T := TZoneFiles) (N := 9) hx hb hts in_ZoneFiles hown hK hP 0 rfl rfl 4 (by decide) (hts (.fieldLink "ZoneFiles" 38 "ZoneFiles" "leapTable" "LZoneFiles$LeapTable;") m_2_121) (fun _ h9 => h9) rfl d_ZF_told_6 ?_
    refine va_get (D := (dC, dI)) (ci := 4) (v := .int lCount) (C := RLeapTable) (T := TLeapTable) (N := 4) hx hb hts in_LeapTable hown hK hP 1 rfl rfl 0 (by decide) (hts (.fieldLink "ZoneFiles" 318 "ZoneFiles$LeapTable" "count" "I") m_2_98) (fun _ h9 => h9) rfl d_ZF_told_9 ?_
    refine lv_if_ne (tgt := 26) hx hb d_ZF_told_12 (by decide) (fun c_1 => ?_) (fun c_1 => ?_)
    · have hf := it_f c_1 hf
      exact absurd hf (by simp)
    · have hf := it_t c_1 hf
      cases rs hf
      obtain ⟨qs, hstr⟩ := hXT.2.2.2.2.2.2.2.2.2.2.2.2.2.2.2.2.2.2.2
      exact th_newW hno C0 hemp d_ZF_told_15 d_ZF_told_18 d_ZF_told_19 d_ZF_told_22 d_ZF_told_25 (xa_3 hts hXT) (hts _ m_5_53) (hts _ m_5_54) (hts _ m_1_20) hstr (by decide) hRc hRs (by decide) (by decide) hl.1 (Nat.le_of_ble_eq_true rfl)
end
set_option maxHeartbeats 400000 in
set_option maxRecDepth 100000 in
theorem t_ZF_told (l : Launch) (hno : NT l) (dC : Nat → ClassId) (dI : Nat → Nat → Nat) (h0 : Nat) (zfTp : Nat) (zfWr : Nat) (zfZs : Nat) (zfSp : Nat) (zfLt : Nat) (zfSt : Nat) (zfFd : Nat) (lTi : Nat) (lAh : Nat) (nf : Nat) (p0 : Int32) (zfFc : Int32) (zfFp : Int32) (lCount : Int32) (lExp : Int64) {k : Nat} (hf : g_ZF_told nf p0 lCount = some k) : MetT l y_ZF_told (wd y_ZF_told b_ZF_told 2 (some .long)) ({ frames := 7, cells := 1, slots := 6, locals := 121 }) (ROX dC dI [(h0, .inr (9, [.ref zfTp, .ref zfWr, .ref zfZs, .ref zfSp, .ref zfLt, .ref zfSt, .ref zfFd, .int zfFc, .int zfFp])), (zfLt, .inr (4, [.int lCount, .ref lTi, .ref lAh, .long lExp]))] [] [.ref h0, .int p0]) (TQ (xn k)) 1 6 :=
  met_TX (plainFor_of_name (by decide)) (Nat.le_of_ble_eq_true rfl) (fun p e R s m args below meth c ls hRc hRs hemp C0 hST hXT hK hP hl => by
    obtain ⟨hx, hb, hr, hml, hown, hts, hlocks, hRf, hRl⟩ := id C0
    unfold g_ZF_told at hf
    exact u_ZF_told_0 C0 hno hemp hRc hRs hXT hST hK hP trivial hf (lv_sub hl [0, 1] rfl))
-- ZoneFiles.row(II)J
def g_ZF_row_0 (nf : Nat) (lCount : Int32) (x1 : Int32) (x2 : Int32) : Option (Nat) :=
  orT (g_ZF_checkIndex nf x1 lCount) ((f_ZF_checkIndex nf x1 lCount).bind fun _u =>
  orT (g_ZF_checkIndex nf x2 2) (none))
def g_ZF_row (nf : Nat) (p0 : Int32) (p1 : Int32) (lCount : Int32) : Option (Nat) :=
  g_ZF_row_0 nf lCount p0 p1
section
variable {p : Program} {l : Launch} {e : Env} {R : Room} {s : State} {m : MethodId} {args : Array Value} {below : List Frame} {meth : Method} {c : Code} {Q : State → Prop} {dC : Nat → ClassId} {dI : Nat → Nat → Nat} {nf : Nat}
variable {h0 : Nat} {zfTp : Nat} {zfWr : Nat} {zfZs : Nat} {zfSp : Nat} {zfLt : Nat} {zfSt : Nat} {zfFd : Nat} {lTi : Nat} {lAh : Nat} {zfFc : Int32} {zfFp : Int32} {lCount : Int32} {lExp : Int64} {k : Nat}
set_option maxHeartbeats 400000 in
set_option maxRecDepth 100000 in
theorem u_ZF_row_0 (C0 : Cx p s m meth c args R b_ZF_row "ZoneFiles" 3 (some .long) 7 121) (hno : NT l) (hemp : c.exceptionTable.isEmpty = true) (hRc : 1 ≤ R.cells) (hRs : 6 ≤ R.slots) (hXT : XT (fun _ => False) s s.heap) (hST : ST (fun _ => False) s s.heap) (hK : va_K (dC, dI) classes [] s) (hP : va_P (dC, dI) classes [(h0, .inr (9, [.ref zfTp, .ref zfWr, .ref zfZs, .ref zfSp, .ref zfLt, .ref zfSt, .ref zfFd, .int zfFc, .int zfFp])), (zfLt, .inr (4, [.int lCount, .ref lTi, .ref lAh, .long lExp]))] s.heap) (hE : True) {x1 : Int32} {x2 : Int32} (hf : g_ZF_row_0 nf lCount x1 x2 = some k) {ls : Array Slot} (hl : lv_has ls 3 [(0, .ref h0), (1, .int x1), (2, .int x2)]) : W p l e R s m args below meth c s.heap [] 0 0 (MQT below (TQ (xn k)) args s 1 6) (F0 m 0 ls []) := by
  obtain ⟨hx, hb, hr, hml, hown, hts, hlocks, hRf, hRl⟩ := id C0
  obtain ⟨tms, hZms, hTms, tmg, hZmg, hTmg, hNW⟩ := id hST
  unfold g_ZF_row_0 at hf
  refine lv_iload_n hx hb d_ZF_row_0 rfl (lv_at hl 1 rfl) ?_
  refine lv_aload_n hx hb d_ZF_row_1 rfl (lv_at hl 0 rfl) ?_
  refine va_get (D := (dC, dI)) (ci := 9) (v := .ref zfLt) (C := RZoneFiles) (T := TZoneFiles) (N := 9) hx hb hts in_ZoneFiles hown hK hP 0 rfl rfl 4 (by decide) (hts (.fieldLink "ZoneFiles" 38 "ZoneFiles" "leapTable" "LZoneFiles$LeapTable;") m_2_121) (fun _ h9 => h9) rfl d_ZF_row_2 ?_
  refine va_get (D := (dC, dI)) (ci := 4) (v := .int lCount) (C := RLeapTable) (T := TLeapTable) (N := 4) hx hb hts in_LeapTable hown hK hP 1 rfl rfl 0 (by decide) (hts (.fieldLink "ZoneFiles" 318 "ZoneFiles$LeapTable" "count" "I") m_2_98) (fun _ h9 => h9) rfl d_ZF_row_5 ?_
  rcases orT_c hf with hc | hf
  · exact th_goS (As := [.int x1, .int lCount]) (rest := []) ⟨hx, hb, hml, hown, hts⟩ (t_ZF_checkIndex l hno dC dI nf x1 lCount hc) (va_cwS 2 hts (gdS m_4_234 m_4_235 m_1_1 m_4_236) rfl rfl rfl (by decide +kernel) ⟨Nat.le_trans (Nat.le_of_ble_eq_true rfl) hRf, Nat.le_trans (Nat.le_of_ble_eq_true rfl) hRl⟩) (ROXsta (RO.pre0 hK hST) hXT) rfl hl.1 rfl (Nat.le_of_ble_eq_true rfl) d_ZF_row_8 ⟨hRc, hRs⟩ (fun x V ce h1 h2 h3 h4 h5 h6 => th_out hlocks hemp h1 h2 h3 h4 h5 h6)
  · obtain ⟨_u, hc, hf⟩ := ob hf
    refine cl_S (v := none) (st1 := []) (va_runS (As := [.int x1, .int lCount]) (rest := []) ⟨hx, hb, hml, hown, hts⟩ (c_ZF_checkIndex l dC dI nf x1 lCount hc) (va_cwS 2 hts (gdS m_4_234 m_4_235 m_1_1 m_4_236) rfl rfl rfl (by decide +kernel) ⟨Nat.le_trans (Nat.le_of_ble_eq_true rfl) hRf, Nat.le_trans (Nat.le_of_ble_eq_true rfl) hRl⟩) (RO.pre0 hK hST).sta rfl rfl hl.1 rfl (lv_room (Nat.le_of_ble_eq_true rfl)) d_ZF_row_8 ⟨Nat.zero_le _, Nat.zero_le _⟩) rfl ?_
    refine lv_iload_n hx hb d_ZF_row_11 rfl (lv_at hl 2 rfl) ?_
    refine lv_iconst (v := 2) hx hb d_ZF_row_12 (by decide) ?_
    rcases orT_c hf with hc | hf
    · exact th_goS (As := [.int x2, .int 2]) (rest := []) ⟨hx, hb, hml, hown, hts⟩ (t_ZF_checkIndex l hno dC dI nf x2 2 hc) (va_cwS 2 hts (gdS m_4_234 m_4_235 m_1_1 m_4_236) rfl rfl rfl (by decide +kernel) ⟨Nat.le_trans (Nat.le_of_ble_eq_true rfl) hRf, Nat.le_trans (Nat.le_of_ble_eq_true rfl) hRl⟩) (ROXsta (RO.pre0 hK hST) hXT) rfl hl.1 rfl (Nat.le_of_ble_eq_true rfl) d_ZF_row_13 ⟨hRc, hRs⟩ (fun x V ce h1 h2 h3 h4 h5 h6 => th_out hlocks hemp h1 h2 h3 h4 h5 h6)
    · exact absurd hf (by simp)
end
set_option maxHeartbeats 400000 in
set_option maxRecDepth 100000 in
theorem t_ZF_row (l : Launch) (hno : NT l) (dC : Nat → ClassId) (dI : Nat → Nat → Nat) (h0 : Nat) (zfTp : Nat) (zfWr : Nat) (zfZs : Nat) (zfSp : Nat) (zfLt : Nat) (zfSt : Nat) (zfFd : Nat) (lTi : Nat) (lAh : Nat) (nf : Nat) (p0 : Int32) (p1 : Int32) (zfFc : Int32) (zfFp : Int32) (lCount : Int32) (lExp : Int64) {k : Nat} (hf : g_ZF_row nf p0 p1 lCount = some k) : MetT l y_ZF_row (wd y_ZF_row b_ZF_row 3 (some .long)) ({ frames := 7, cells := 1, slots := 6, locals := 121 }) (ROX dC dI [(h0, .inr (9, [.ref zfTp, .ref zfWr, .ref zfZs, .ref zfSp, .ref zfLt, .ref zfSt, .ref zfFd, .int zfFc, .int zfFp])), (zfLt, .inr (4, [.int lCount, .ref lTi, .ref lAh, .long lExp]))] [] [.ref h0, .int p0, .int p1]) (TQ (xn k)) 1 6 :=
  met_TX (plainFor_of_name (by decide)) (Nat.le_of_ble_eq_true rfl) (fun p e R s m args below meth c ls hRc hRs hemp C0 hST hXT hK hP hl => by
    obtain ⟨hx, hb, hr, hml, hown, hts, hlocks, hRf, hRl⟩ := id C0
    unfold g_ZF_row at hf
    exact u_ZF_row_0 C0 hno hemp hRc hRs hXT hST hK hP trivial hf (lv_sub hl [0, 1, 2] rfl))
-- ZoneFiles.read(I)I
def g_ZF_read_0 (nf : Nat) (x1 : Int32) : Option (Nat) :=
  orT (g_ZF_checkZone nf x1) (none)
def g_ZF_read (nf : Nat) (p0 : Int32) : Option (Nat) :=
  g_ZF_read_0 nf p0
section
variable {p : Program} {l : Launch} {e : Env} {R : Room} {s : State} {m : MethodId} {args : Array Value} {below : List Frame} {meth : Method} {c : Code} {Q : State → Prop} {dC : Nat → ClassId} {dI : Nat → Nat → Nat} {nf : Nat}
variable {h0 : Nat} {k : Nat}
set_option maxHeartbeats 400000 in
set_option maxRecDepth 100000 in
theorem u_ZF_read_0 (C0 : Cx p s m meth c args R b_ZF_readNo "ZoneFiles" 4 (some .int) 7 120) (hno : NT l) (hemp : c.exceptionTable.isEmpty = true) (hRc : 1 ≤ R.cells) (hRs : 6 ≤ R.slots) (hXT : XT (fun _ => False) s s.heap) (hST : ST (fun _ => False) s s.heap) (hK : va_K (dC, dI) classes [] s) (hE : True) {x1 : Int32} (hf : g_ZF_read_0 nf x1 = some k) {ls : Array Slot} (hl : lv_has ls 4 [(0, .ref h0), (1, .int x1)]) : W p l e R s m args below meth c s.heap [] 0 0 (MQT below (TQ (xn k)) args s 1 6) (F0 m 0 ls []) := by
  obtain ⟨hx, hb, hr, hml, hown, hts, hlocks, hRf, hRl⟩ := id C0
  obtain ⟨tms, hZms, hTms, tmg, hZmg, hTmg, hNW⟩ := id hST
  unfold g_ZF_read_0 at hf
  refine lv_iload_n hx hb d_ZF_readNo_0 rfl (lv_at hl 1 rfl) ?_
  rcases orT_c hf with hc | hf
  · exact th_goS (As := [.int x1]) (rest := []) ⟨hx, hb, hml, hown, hts⟩ (t_ZF_checkZone l hno dC dI nf x1 hc) (va_cwS 1 hts (gdS m_3_131 m_3_132 m_1_1 m_3_133) rfl rfl rfl (by decide +kernel) ⟨Nat.le_trans (Nat.le_of_ble_eq_true rfl) hRf, Nat.le_trans (Nat.le_of_ble_eq_true rfl) hRl⟩) (ROXsta (RO.pre0 hK hST) hXT) rfl hl.1 rfl (Nat.le_of_ble_eq_true rfl) d_ZF_readNo_1 ⟨hRc, hRs⟩ (fun x V ce h1 h2 h3 h4 h5 h6 => th_out hlocks hemp h1 h2 h3 h4 h5 h6)
  · exact absurd hf (by simp)
end
set_option maxHeartbeats 400000 in
set_option maxRecDepth 100000 in
theorem t_ZF_read (l : Launch) (hno : NT l) (dC : Nat → ClassId) (dI : Nat → Nat → Nat) (h0 : Nat) (nf : Nat) (p0 : Int32) {k : Nat} (hf : g_ZF_read nf p0 = some k) : MetT l y_ZF_readNo (wd y_ZF_readNo b_ZF_readNo 4 (some .int)) ({ frames := 7, cells := 1, slots := 6, locals := 120 }) (ROX dC dI [] [] [.ref h0, .int p0]) (TQ (xn k)) 1 6 :=
  met_TX (plainFor_of_name (by decide)) (Nat.le_of_ble_eq_true rfl) (fun p e R s m args below meth c ls hRc hRs hemp C0 hST hXT hK hP hl => by
    obtain ⟨hx, hb, hr, hml, hown, hts, hlocks, hRf, hRl⟩ := id C0
    unfold g_ZF_read at hf
    exact u_ZF_read_0 C0 hno hemp hRc hRs hXT hST hK trivial hf (lv_sub hl [0, 1] rfl))
-- ZoneFiles.rule(IZ)I
def g_ZF_rule_0 (nf : Nat) (x1 : Int32) (x2 : Int32) : Option (Nat) :=
  orT (g_ZF_checkZone nf x1) (none)
def g_ZF_rule (nf : Nat) (p0 : Int32) (p1 : Int32) : Option (Nat) :=
  g_ZF_rule_0 nf p0 p1
section
variable {p : Program} {l : Launch} {e : Env} {R : Room} {s : State} {m : MethodId} {args : Array Value} {below : List Frame} {meth : Method} {c : Code} {Q : State → Prop} {dC : Nat → ClassId} {dI : Nat → Nat → Nat} {nf : Nat}
variable {h0 : Nat} {k : Nat}
set_option maxHeartbeats 400000 in
set_option maxRecDepth 100000 in
theorem u_ZF_rule_0 (C0 : Cx p s m meth c args R b_ZF_ruleNo "ZoneFiles" 5 (some .int) 7 120) (hno : NT l) (hemp : c.exceptionTable.isEmpty = true) (hRc : 1 ≤ R.cells) (hRs : 6 ≤ R.slots) (hXT : XT (fun _ => False) s s.heap) (hST : ST (fun _ => False) s s.heap) (hK : va_K (dC, dI) classes [] s) (hE : True) {x1 : Int32} {x2 : Int32} (hf : g_ZF_rule_0 nf x1 x2 = some k) {ls : Array Slot} (hl : lv_has ls 5 [(0, .ref h0), (1, .int x1), (2, .int x2)]) : W p l e R s m args below meth c s.heap [] 0 0 (MQT below (TQ (xn k)) args s 1 6) (F0 m 0 ls []) := by
  obtain ⟨hx, hb, hr, hml, hown, hts, hlocks, hRf, hRl⟩ := id C0
  obtain ⟨tms, hZms, hTms, tmg, hZmg, hTmg, hNW⟩ := id hST
  unfold g_ZF_rule_0 at hf
  refine lv_iload_n hx hb d_ZF_ruleNo_0 rfl (lv_at hl 1 rfl) ?_
  rcases orT_c hf with hc | hf
  · exact th_goS (As := [.int x1]) (rest := []) ⟨hx, hb, hml, hown, hts⟩ (t_ZF_checkZone l hno dC dI nf x1 hc) (va_cwS 1 hts (gdS m_3_131 m_3_132 m_1_1 m_3_133) rfl rfl rfl (by decide +kernel) ⟨Nat.le_trans (Nat.le_of_ble_eq_true rfl) hRf, Nat.le_trans (Nat.le_of_ble_eq_true rfl) hRl⟩) (ROXsta (RO.pre0 hK hST) hXT) rfl hl.1 rfl (Nat.le_of_ble_eq_true rfl) d_ZF_ruleNo_1 ⟨hRc, hRs⟩ (fun x V ce h1 h2 h3 h4 h5 h6 => th_out hlocks hemp h1 h2 h3 h4 h5 h6)
  · exact absurd hf (by simp)
end
set_option maxHeartbeats 400000 in
set_option maxRecDepth 100000 in
theorem t_ZF_rule (l : Launch) (hno : NT l) (dC : Nat → ClassId) (dI : Nat → Nat → Nat) (h0 : Nat) (nf : Nat) (p0 : Int32) (p1 : Int32) {k : Nat} (hf : g_ZF_rule nf p0 p1 = some k) : MetT l y_ZF_ruleNo (wd y_ZF_ruleNo b_ZF_ruleNo 5 (some .int)) ({ frames := 7, cells := 1, slots := 6, locals := 120 }) (ROX dC dI [] [] [.ref h0, .int p0, .int p1]) (TQ (xn k)) 1 6 :=
  met_TX (plainFor_of_name (by decide)) (Nat.le_of_ble_eq_true rfl) (fun p e R s m args below meth c ls hRc hRs hemp C0 hST hXT hK hP hl => by
    obtain ⟨hx, hb, hr, hml, hown, hts, hlocks, hRf, hRl⟩ := id C0
    unfold g_ZF_rule at hf
    exact u_ZF_rule_0 C0 hno hemp hRc hRs hXT hST hK trivial hf (lv_sub hl [0, 1, 2] rfl))
-- ZoneFiles.zone(II)I
def g_ZF_zone_0 (nf : Nat) (p0 : Int32) (x2 : Int32) : Option (Nat) :=
  orT (g_ZF_checkZone nf p0) ((f_ZF_checkZone nf p0).bind fun _u =>
  if p0 < 0 ∨ 4 ≤ p0.toNatClampNeg then none else
  if x2 = 0 then
  none
  else
  if x2 = 1 then
    none
    else
    if x2 = 2 then
      none
      else
      if x2 = 3 then
        none
        else
        if x2 = 4 then
          none
          else
          if x2 = 5 then
            none
            else
            if x2 = 6 then
              none
              else
              if x2 = 7 then
                none
                else
                some 1)
def g_ZF_zone (nf : Nat) (p0 : Int32) (p1 : Int32) : Option (Nat) :=
  g_ZF_zone_0 nf p0 p1
section
variable {p : Program} {l : Launch} {e : Env} {R : Room} {s : State} {m : MethodId} {args : Array Value} {below : List Frame} {meth : Method} {c : Code} {Q : State → Prop} {dC : Nat → ClassId} {dI : Nat → Nat → Nat} {nf : Nat}
variable {h0 : Nat} {zfTp : Nat} {zfWr : Nat} {zfZs : Nat} {zfSp : Nat} {zfLt : Nat} {zfSt : Nat} {zfFd : Nat} {zz : Nat} {cAzfZs : ClassId} {p0 : Int32} {zfFc : Int32} {zfFp : Int32} {zg : Nat → Option Nat} {k : Nat}
set_option maxHeartbeats 400000 in
set_option maxRecDepth 100000 in
theorem u_ZF_zone_0 (C0 : Cx p s m meth c args R b_ZF_zone "ZoneFiles" 4 (some .int) 7 120) (hno : NT l) (hemp : c.exceptionTable.isEmpty = true) (hRc : 1 ≤ R.cells) (hRs : 6 ≤ R.slots) (hXT : XT (fun _ => False) s s.heap) (hST : ST (fun _ => False) s s.heap) (hK : va_K (dC, dI) classes [(cAzfZs, .object "ZoneFiles$Zone")] s) (hP : va_P (dC, dI) classes [(h0, .inr (9, [.ref zfTp, .ref zfWr, .ref zfZs, .ref zfSp, .ref zfLt, .ref zfSt, .ref zfFd, .int zfFc, .int zfFp])), (zfZs, .inl (cAzfZs, 4, .inr (.inr (.inr (.inr zg)))))] s.heap) (hz : zg p0.toNatClampNeg = some zz) (hE : True) {x2 : Int32} (hf : g_ZF_zone_0 nf p0 x2 = some k) {ls : Array Slot} (hl : lv_has ls 4 [(0, .ref h0), (1, .int p0), (2, .int x2)]) : W p l e R s m args below meth c s.heap [] 0 0 (MQT below (TQ (xn k)) args s 1 6) (F0 m 0 ls []) := by
  obtain ⟨hx, hb, hr, hml, hown, hts, hlocks, hRf, hRl⟩ := id C0
  obtain ⟨tms, hZms, hTms, tmg, hZmg, hTmg, hNW⟩ := id hST
  unfold g_ZF_zone_0 at hf
  refine lv_iload_n hx hb d_ZF_zone_0 rfl (lv_at hl 1 rfl) ?_
  rcases orT_c hf with hc | hf
  · exact th_goS (As := [.int p0]) (rest := []) ⟨hx, hb, hml, hown, hts⟩ (t_ZF_checkZone l hno dC dI nf p0 hc) (va_cwS 1 hts (gdS m_3_131 m_3_132 m_1_1 m_3_133) rfl rfl rfl (by decide +kernel) ⟨Nat.le_trans (Nat.le_of_ble_eq_true rfl) hRf, Nat.le_trans (Nat.le_of_ble_eq_true rfl) hRl⟩) (ROXsta (RO.pre0 hK hST) hXT) rfl hl.1 rfl (Nat.le_of_ble_eq_true rfl) d_ZF_zone_1 ⟨hRc, hRs⟩ (fun x V ce h1 h2 h3 h4 h5 h6 => th_out hlocks hemp h1 h2 h3 h4 h5 h6)
  · obtain ⟨_u, hc, hf⟩ := ob hf
    refine cl_S (v := none) (st1 := []) (va_runS (As := [.int p0]) (rest := []) ⟨hx, hb, hml, hown, hts⟩ (c_ZF_checkZone l dC dI nf p0 hc) (va_cwS 1 hts (gdS m_3_131 m_3_132 m_1_1 m_3_133) rfl rfl rfl (by decide +kernel) ⟨Nat.le_trans (Nat.le_of_ble_eq_true rfl) hRf, Nat.le_trans (Nat.le_of_ble_eq_true rfl) hRl⟩) (RO.pre0 hK hST).sta rfl rfl hl.1 rfl (lv_room (Nat.le_of_ble_eq_true rfl)) d_ZF_zone_1 ⟨Nat.zero_le _, Nat.zero_le _⟩) rfl ?_
    refine lv_aload_n hx hb d_ZF_zone_4 rfl (lv_at hl 0 rfl) ?_
    refine va_get (D := (dC, dI)) (ci := 9) (v := .ref zfZs) (C := RZoneFiles) (T := TZoneFiles) (N := 9) hx hb hts in_ZoneFiles hown hK hP 0 rfl rfl 2 (by decide) (hts (.fieldLink "ZoneFiles" 23 "ZoneFiles" "zones" "[LZoneFiles$Zone;") m_2_119) (fun _ h9 => h9) rfl d_ZF_zone_5 ?_
    refine lv_iload_n hx hb d_ZF_zone_8 rfl (lv_at hl 1 rfl) ?_
    obtain ⟨c_1, hf⟩ := it_n hf
    refine zf_ald (zz := zz) hx hb hK hP 1 0 rfl rfl c_1 hz d_ZF_zone_9 ?_
    refine lv_astore_n (lv' := [(3, .ref zz), (0, .ref h0), (1, .int p0), (2, .int x2)]) hx hb d_ZF_zone_10 rfl hl (by decide) rfl (fun ls hl => ?_)
    refine lv_iload_n hx hb d_ZF_zone_11 rfl (lv_at hl 3 rfl) ?_
    by_cases c_2 : x2 = 0
    · have hf := it_t c_2 hf
      refine lv_tableIn (tgt := 60) hx hb d_ZF_zone_12 (by rw [c_2]; decide) (by rw [c_2]; decide) (by rw [c_2]; rfl) (by decide) ?_
      exact absurd hf (by simp)
    · have hf := it_f c_2 hf
      by_cases c_3 : x2 = 1
      · have hf := it_t c_3 hf
        refine lv_tableIn (tgt := 65) hx hb d_ZF_zone_12 (by rw [c_3]; decide) (by rw [c_3]; decide) (by rw [c_3]; rfl) (by decide) ?_
        exact absurd hf (by simp)
      · have hf := it_f c_3 hf
        by_cases c_4 : x2 = 2
        · have hf := it_t c_4 hf
          refine lv_tableIn (tgt := 70) hx hb d_ZF_zone_12 (by rw [c_4]; decide) (by rw [c_4]; decide) (by rw [c_4]; rfl) (by decide) ?_
          exact absurd hf (by simp)
        · have hf := it_f c_4 hf
          by_cases c_5 : x2 = 3
          · have hf := it_t c_5 hf
            refine lv_tableIn (tgt := 75) hx hb d_ZF_zone_12 (by rw [c_5]; decide) (by rw [c_5]; decide) (by rw [c_5]; rfl) (by decide) ?_
            exact absurd hf (by simp)
          · have hf := it_f c_5 hf
            by_cases c_6 : x2 = 4
            · have hf := it_t c_6 hf
              refine lv_tableIn (tgt := 83) hx hb d_ZF_zone_12 (by rw [c_6]; decide) (by rw [c_6]; decide) (by rw [c_6]; rfl) (by decide) ?_
              exact absurd hf (by simp)
            · have hf := it_f c_6 hf
              by_cases c_7 : x2 = 5
              · have hf := it_t c_7 hf
                refine lv_tableIn (tgt := 88) hx hb d_ZF_zone_12 (by rw [c_7]; decide) (by rw [c_7]; decide) (by rw [c_7]; rfl) (by decide) ?_
                exact absurd hf (by simp)
              · have hf := it_f c_7 hf
                by_cases c_8 : x2 = 6
                · have hf := it_t c_8 hf
                  refine lv_tableIn (tgt := 93) hx hb d_ZF_zone_12 (by rw [c_8]; decide) (by rw [c_8]; decide) (by rw [c_8]; rfl) (by decide) ?_
                  exact absurd hf (by simp)
                · have hf := it_f c_8 hf
                  by_cases c_9 : x2 = 7
                  · have hf := it_t c_9 hf
                    refine lv_tableIn (tgt := 98) hx hb d_ZF_zone_12 (by rw [c_9]; decide) (by rw [c_9]; decide) (by rw [c_9]; rfl) (by decide) ?_
                    exact absurd hf (by simp)
                  · have hf := it_f c_9 hf
                    have hsw : x2.toInt < 0 ∨ 7 < x2.toInt := by
                      have hsw0 := lv_neT c_2 (a := 0) rfl
                      have hsw1 := lv_neT c_3 (a := 1) rfl
                      have hsw2 := lv_neT c_4 (a := 2) rfl
                      have hsw3 := lv_neT c_5 (a := 3) rfl
                      have hsw4 := lv_neT c_6 (a := 4) rfl
                      have hsw5 := lv_neT c_7 (a := 5) rfl
                      have hsw6 := lv_neT c_8 (a := 6) rfl
                      have hsw7 := lv_neT c_9 (a := 7) rfl
                      omega
                    refine lv_tableOut (tgt := 109) hx hb d_ZF_zone_12 hsw (by decide) ?_
                    cases rs hf
                    obtain ⟨qs, hstr⟩ := hXT.2.2.2.2.2.1
                    exact th_new hno C0 hemp d_ZF_zone_109 d_ZF_zone_112 d_ZF_zone_113 d_ZF_zone_115 d_ZF_zone_118 (xa_1 hts hXT) (hts _ m_3_134) (hts _ m_3_135) (hts _ m_1_15) hstr (by decide) hRc hRs (by decide) (by decide) hl.1 (Nat.le_of_ble_eq_true rfl)
end
set_option maxHeartbeats 400000 in
set_option maxRecDepth 100000 in
theorem t_ZF_zone (l : Launch) (hno : NT l) (dC : Nat → ClassId) (dI : Nat → Nat → Nat) (h0 : Nat) (zfTp : Nat) (zfWr : Nat) (zfZs : Nat) (zfSp : Nat) (zfLt : Nat) (zfSt : Nat) (zfFd : Nat) (zz : Nat) (cAzfZs : ClassId) (nf : Nat) (p0 : Int32) (p1 : Int32) (zfFc : Int32) (zfFp : Int32) (zg : Nat → Option Nat) {k : Nat} (hf : g_ZF_zone nf p0 p1 = some k) (hz : zg p0.toNatClampNeg = some zz) : MetT l y_ZF_zone (wd y_ZF_zone b_ZF_zone 4 (some .int)) ({ frames := 7, cells := 1, slots := 6, locals := 120 }) (ROX dC dI [(h0, .inr (9, [.ref zfTp, .ref zfWr, .ref zfZs, .ref zfSp, .ref zfLt, .ref zfSt, .ref zfFd, .int zfFc, .int zfFp])), (zfZs, .inl (cAzfZs, 4, .inr (.inr (.inr (.inr zg)))))] [(cAzfZs, .object "ZoneFiles$Zone")] [.ref h0, .int p0, .int p1]) (TQ (xn k)) 1 6 :=
  met_TX (plainFor_of_name (by decide)) (Nat.le_of_ble_eq_true rfl) (fun p e R s m args below meth c ls hRc hRs hemp C0 hST hXT hK hP hl => by
    obtain ⟨hx, hb, hr, hml, hown, hts, hlocks, hRf, hRl⟩ := id C0
    unfold g_ZF_zone at hf
    exact u_ZF_zone_0 C0 hno hemp hRc hRs hXT hST hK hP hz trivial hf (lv_sub hl [0, 1, 2] rfl))
-- ZoneFiles.time(II)J
def g_ZF_time_0 (nf : Nat) (p0 : Int32) (zTic : Int32) (x2 : Int32) : Option (Nat) :=
  orT (g_ZF_checkZone nf p0) ((f_ZF_checkZone nf p0).bind fun _u =>
  if p0 < 0 ∨ 4 ≤ p0.toNatClampNeg then none else
  orT (g_ZF_checkIndex nf x2 zTic) (none))
def g_ZF_time (nf : Nat) (p0 : Int32) (p1 : Int32) (zTic : Int32) : Option (Nat) :=
  g_ZF_time_0 nf p0 zTic p1
section
variable {p : Program} {l : Launch} {e : Env} {R : Room} {s : State} {m : MethodId} {args : Array Value} {below : List Frame} {meth : Method} {c : Code} {Q : State → Prop} {dC : Nat → ClassId} {dI : Nat → Nat → Nat} {nf : Nat}
variable {h0 : Nat} {zfTp : Nat} {zfWr : Nat} {zfZs : Nat} {zfSp : Nat} {zfLt : Nat} {zfSt : Nat} {zfFd : Nat} {zz : Nat} {zTi : Nat} {zTt : Nat} {zOf : Nat} {zDs : Nat} {zIx : Nat} {zSd : Nat} {zUt : Nat} {zCh : Nat} {zLt : Nat} {zLo : Nat} {zRu : Nat} {cAzfZs : ClassId} {p0 : Int32} {zfFc : Int32} {zfFp : Int32} {zg : Nat → Option Nat} {zVer : Int32} {zTic : Int32} {zTyc : Int32} {zLec : Int32} {zStc : Int32} {zUtc : Int32} {k : Nat}
set_option maxHeartbeats 400000 in
set_option maxRecDepth 100000 in
theorem u_ZF_time_0 (C0 : Cx p s m meth c args R b_ZF_time "ZoneFiles" 3 (some .long) 7 121) (hno : NT l) (hemp : c.exceptionTable.isEmpty = true) (hRc : 1 ≤ R.cells) (hRs : 6 ≤ R.slots) (hXT : XT (fun _ => False) s s.heap) (hST : ST (fun _ => False) s s.heap) (hK : va_K (dC, dI) classes [(cAzfZs, .object "ZoneFiles$Zone")] s) (hP : va_P (dC, dI) classes [(h0, .inr (9, [.ref zfTp, .ref zfWr, .ref zfZs, .ref zfSp, .ref zfLt, .ref zfSt, .ref zfFd, .int zfFc, .int zfFp])), (zfZs, .inl (cAzfZs, 4, .inr (.inr (.inr (.inr zg))))), (zz, .inr (8, [.int zVer, .int zTic, .int zTyc, .int zLec, .int zStc, .int zUtc, .ref zTi, .ref zTt, .ref zOf, .ref zDs, .ref zIx, .ref zSd, .ref zUt, .ref zCh, .ref zLt, .ref zLo, .ref zRu]))] s.heap) (hz : zg p0.toNatClampNeg = some zz) (hE : True) {x2 : Int32} (hf : g_ZF_time_0 nf p0 zTic x2 = some k) {ls : Array Slot} (hl : lv_has ls 3 [(0, .ref h0), (1, .int p0), (2, .int x2)]) : W p l e R s m args below meth c s.heap [] 0 0 (MQT below (TQ (xn k)) args s 1 6) (F0 m 0 ls []) := by
  obtain ⟨hx, hb, hr, hml, hown, hts, hlocks, hRf, hRl⟩ := id C0
  obtain ⟨tms, hZms, hTms, tmg, hZmg, hTmg, hNW⟩ := id hST
  unfold g_ZF_time_0 at hf
  refine lv_iload_n hx hb d_ZF_time_0 rfl (lv_at hl 1 rfl) ?_
  rcases orT_c hf with hc | hf
  · exact th_goS (As := [.int p0]) (rest := []) ⟨hx, hb, hml, hown, hts⟩ (t_ZF_checkZone l hno dC dI nf p0 hc) (va_cwS 1 hts (gdS m_3_131 m_3_132 m_1_1 m_3_133) rfl rfl rfl (by decide +kernel) ⟨Nat.le_trans (Nat.le_of_ble_eq_true rfl) hRf, Nat.le_trans (Nat.le_of_ble_eq_true rfl) hRl⟩) (ROXsta (RO.pre0 hK hST) hXT) rfl hl.1 rfl (Nat.le_of_ble_eq_true rfl) d_ZF_time_1 ⟨hRc, hRs⟩ (fun x V ce h1 h2 h3 h4 h5 h6 => th_out hlocks hemp h1 h2 h3 h4 h5 h6)
  · obtain ⟨_u, hc, hf⟩ := ob hf
    refine cl_S (v := none) (st1 := []) (va_runS (As := [.int p0]) (rest := []) ⟨hx, hb, hml, hown, hts⟩ (c_ZF_checkZone l dC dI nf p0 hc) (va_cwS 1 hts (gdS m_3_131 m_3_132 m_1_1 m_3_133) rfl rfl rfl (by decide +kernel) ⟨Nat.le_trans (Nat.le_of_ble_eq_true rfl) hRf, Nat.le_trans (Nat.le_of_ble_eq_true rfl) hRl⟩) (RO.pre0 hK hST).sta rfl rfl hl.1 rfl (lv_room (Nat.le_of_ble_eq_true rfl)) d_ZF_time_1 ⟨Nat.zero_le _, Nat.zero_le _⟩) rfl ?_
    refine lv_iload_n hx hb d_ZF_time_4 rfl (lv_at hl 2 rfl) ?_
    refine lv_aload_n hx hb d_ZF_time_5 rfl (lv_at hl 0 rfl) ?_
    refine va_get (D := (dC, dI)) (ci := 9) (v := .ref zfZs) (C := RZoneFiles) (T := TZoneFiles) (N := 9) hx hb hts in_ZoneFiles hown hK hP 0 rfl rfl 2 (by decide) (hts (.fieldLink "ZoneFiles" 23 "ZoneFiles" "zones" "[LZoneFiles$Zone;") m_2_119) (fun _ h9 => h9) rfl d_ZF_time_6 ?_
    refine lv_iload_n hx hb d_ZF_time_9 rfl (lv_at hl 1 rfl) ?_
    obtain ⟨c_1, hf⟩ := it_n hf
    refine zf_ald (zz := zz) hx hb hK hP 1 0 rfl rfl c_1 hz d_ZF_time_10 ?_
    refine va_get (D := (dC, dI)) (ci := 8) (v := .int zTic) (C := RZone) (T := TZone) (N := 17) hx hb hts in_Zone hown hK hP 2 rfl rfl 1 (by decide) (hts (.fieldLink "ZoneFiles" 138 "ZoneFiles$Zone" "timeCount" "I") m_1_169) (fun _ h9 => h9) rfl d_ZF_time_11 ?_
    rcases orT_c hf with hc | hf
    · exact th_goS (As := [.int x2, .int zTic]) (rest := []) ⟨hx, hb, hml, hown, hts⟩ (t_ZF_checkIndex l hno dC dI nf x2 zTic hc) (va_cwS 2 hts (gdS m_4_234 m_4_235 m_1_1 m_4_236) rfl rfl rfl (by decide +kernel) ⟨Nat.le_trans (Nat.le_of_ble_eq_true rfl) hRf, Nat.le_trans (Nat.le_of_ble_eq_true rfl) hRl⟩) (ROXsta (RO.pre0 hK hST) hXT) rfl hl.1 rfl (Nat.le_of_ble_eq_true rfl) d_ZF_time_14 ⟨hRc, hRs⟩ (fun x V ce h1 h2 h3 h4 h5 h6 => th_out hlocks hemp h1 h2 h3 h4 h5 h6)
    · exact absurd hf (by simp)
end
set_option maxHeartbeats 400000 in
set_option maxRecDepth 100000 in
theorem t_ZF_time (l : Launch) (hno : NT l) (dC : Nat → ClassId) (dI : Nat → Nat → Nat) (h0 : Nat) (zfTp : Nat) (zfWr : Nat) (zfZs : Nat) (zfSp : Nat) (zfLt : Nat) (zfSt : Nat) (zfFd : Nat) (zz : Nat) (zTi : Nat) (zTt : Nat) (zOf : Nat) (zDs : Nat) (zIx : Nat) (zSd : Nat) (zUt : Nat) (zCh : Nat) (zLt : Nat) (zLo : Nat) (zRu : Nat) (cAzfZs : ClassId) (nf : Nat) (p0 : Int32) (p1 : Int32) (zfFc : Int32) (zfFp : Int32) (zg : Nat → Option Nat) (zVer : Int32) (zTic : Int32) (zTyc : Int32) (zLec : Int32) (zStc : Int32) (zUtc : Int32) {k : Nat} (hf : g_ZF_time nf p0 p1 zTic = some k) (hz : zg p0.toNatClampNeg = some zz) : MetT l y_ZF_time (wd y_ZF_time b_ZF_time 3 (some .long)) ({ frames := 7, cells := 1, slots := 6, locals := 121 }) (ROX dC dI [(h0, .inr (9, [.ref zfTp, .ref zfWr, .ref zfZs, .ref zfSp, .ref zfLt, .ref zfSt, .ref zfFd, .int zfFc, .int zfFp])), (zfZs, .inl (cAzfZs, 4, .inr (.inr (.inr (.inr zg))))), (zz, .inr (8, [.int zVer, .int zTic, .int zTyc, .int zLec, .int zStc, .int zUtc, .ref zTi, .ref zTt, .ref zOf, .ref zDs, .ref zIx, .ref zSd, .ref zUt, .ref zCh, .ref zLt, .ref zLo, .ref zRu]))] [(cAzfZs, .object "ZoneFiles$Zone")] [.ref h0, .int p0, .int p1]) (TQ (xn k)) 1 6 :=
  met_TX (plainFor_of_name (by decide)) (Nat.le_of_ble_eq_true rfl) (fun p e R s m args below meth c ls hRc hRs hemp C0 hST hXT hK hP hl => by
    obtain ⟨hx, hb, hr, hml, hown, hts, hlocks, hRf, hRl⟩ := id C0
    unfold g_ZF_time at hf
    exact u_ZF_time_0 C0 hno hemp hRc hRs hXT hST hK hP hz trivial hf (lv_sub hl [0, 1, 2] rfl))
-- ZoneFiles.typeAt(II)I
def g_ZF_typeAt_0 (nf : Nat) (p0 : Int32) (zTic : Int32) (x2 : Int32) : Option (Nat) :=
  orT (g_ZF_checkZone nf p0) ((f_ZF_checkZone nf p0).bind fun _u =>
  if p0 < 0 ∨ 4 ≤ p0.toNatClampNeg then none else
  orT (g_ZF_checkIndex nf x2 zTic) (none))
def g_ZF_typeAt (nf : Nat) (p0 : Int32) (p1 : Int32) (zTic : Int32) : Option (Nat) :=
  g_ZF_typeAt_0 nf p0 zTic p1
section
variable {p : Program} {l : Launch} {e : Env} {R : Room} {s : State} {m : MethodId} {args : Array Value} {below : List Frame} {meth : Method} {c : Code} {Q : State → Prop} {dC : Nat → ClassId} {dI : Nat → Nat → Nat} {nf : Nat}
variable {h0 : Nat} {zfTp : Nat} {zfWr : Nat} {zfZs : Nat} {zfSp : Nat} {zfLt : Nat} {zfSt : Nat} {zfFd : Nat} {zz : Nat} {zTi : Nat} {zTt : Nat} {zOf : Nat} {zDs : Nat} {zIx : Nat} {zSd : Nat} {zUt : Nat} {zCh : Nat} {zLt : Nat} {zLo : Nat} {zRu : Nat} {cAzfZs : ClassId} {p0 : Int32} {zfFc : Int32} {zfFp : Int32} {zg : Nat → Option Nat} {zVer : Int32} {zTic : Int32} {zTyc : Int32} {zLec : Int32} {zStc : Int32} {zUtc : Int32} {k : Nat}
set_option maxHeartbeats 400000 in
set_option maxRecDepth 100000 in
theorem u_ZF_typeAt_0 (C0 : Cx p s m meth c args R b_ZF_typeAt "ZoneFiles" 3 (some .int) 7 121) (hno : NT l) (hemp : c.exceptionTable.isEmpty = true) (hRc : 1 ≤ R.cells) (hRs : 6 ≤ R.slots) (hXT : XT (fun _ => False) s s.heap) (hST : ST (fun _ => False) s s.heap) (hK : va_K (dC, dI) classes [(cAzfZs, .object "ZoneFiles$Zone")] s) (hP : va_P (dC, dI) classes [(h0, .inr (9, [.ref zfTp, .ref zfWr, .ref zfZs, .ref zfSp, .ref zfLt, .ref zfSt, .ref zfFd, .int zfFc, .int zfFp])), (zfZs, .inl (cAzfZs, 4, .inr (.inr (.inr (.inr zg))))), (zz, .inr (8, [.int zVer, .int zTic, .int zTyc, .int zLec, .int zStc, .int zUtc, .ref zTi, .ref zTt, .ref zOf, .ref zDs, .ref zIx, .ref zSd, .ref zUt, .ref zCh, .ref zLt, .ref zLo, .ref zRu]))] s.heap) (hz : zg p0.toNatClampNeg = some zz) (hE : True) {x2 : Int32} (hf : g_ZF_typeAt_0 nf p0 zTic x2 = some k) {ls : Array Slot} (hl : lv_has ls 3 [(0, .ref h0), (1, .int p0), (2, .int x2)]) : W p l e R s m args below meth c s.heap [] 0 0 (MQT below (TQ (xn k)) args s 1 6) (F0 m 0 ls []) := by
  obtain ⟨hx, hb, hr, hml, hown, hts, hlocks, hRf, hRl⟩ := id C0
  obtain ⟨tms, hZms, hTms, tmg, hZmg, hTmg, hNW⟩ := id hST
  unfold g_ZF_typeAt_0 at hf
  refine lv_iload_n hx hb d_ZF_typeAt_0 rfl (lv_at hl 1 rfl) ?_
  rcases orT_c hf with hc | hf
  · exact th_goS (As := [.int p0]) (rest := []) ⟨hx, hb, hml, hown, hts⟩ (t_ZF_checkZone l hno dC dI nf p0 hc) (va_cwS 1 hts (gdS m_3_131 m_3_132 m_1_1 m_3_133) rfl rfl rfl (by decide +kernel) ⟨Nat.le_trans (Nat.le_of_ble_eq_true rfl) hRf, Nat.le_trans (Nat.le_of_ble_eq_true rfl) hRl⟩) (ROXsta (RO.pre0 hK hST) hXT) rfl hl.1 rfl (Nat.le_of_ble_eq_true rfl) d_ZF_typeAt_1 ⟨hRc, hRs⟩ (fun x V ce h1 h2 h3 h4 h5 h6 => th_out hlocks hemp h1 h2 h3 h4 h5 h6)
  · obtain ⟨_u, hc, hf⟩ := ob hf
    refine cl_S (v := none) (st1 := []) (va_runS (As := [.int p0]) (rest := []) ⟨hx, hb, hml, hown, hts⟩ (c_ZF_checkZone l dC dI nf p0 hc) (va_cwS 1 hts (gdS m_3_131 m_3_132 m_1_1 m_3_133) rfl rfl rfl (by decide +kernel) ⟨Nat.le_trans (Nat.le_of_ble_eq_true rfl) hRf, Nat.le_trans (Nat.le_of_ble_eq_true rfl) hRl⟩) (RO.pre0 hK hST).sta rfl rfl hl.1 rfl (lv_room (Nat.le_of_ble_eq_true rfl)) d_ZF_typeAt_1 ⟨Nat.zero_le _, Nat.zero_le _⟩) rfl ?_
    refine lv_iload_n hx hb d_ZF_typeAt_4 rfl (lv_at hl 2 rfl) ?_
    refine lv_aload_n hx hb d_ZF_typeAt_5 rfl (lv_at hl 0 rfl) ?_
    refine va_get (D := (dC, dI)) (ci := 9) (v := .ref zfZs) (C := RZoneFiles) (T := TZoneFiles) (N := 9) hx hb hts in_ZoneFiles hown hK hP 0 rfl rfl 2 (by decide) (hts (.fieldLink "ZoneFiles" 23 "ZoneFiles" "zones" "[LZoneFiles$Zone;") m_2_119) (fun _ h9 => h9) rfl d_ZF_typeAt_6 ?_
    refine lv_iload_n hx hb d_ZF_typeAt_9 rfl (lv_at hl 1 rfl) ?_
    obtain ⟨c_1, hf⟩ := it_n hf
    refine zf_ald (zz := zz) hx hb hK hP 1 0 rfl rfl c_1 hz d_ZF_typeAt_10 ?_
    refine va_get (D := (dC, dI)) (ci := 8) (v := .int zTic) (C := RZone) (T := TZone) (N := 17) hx hb hts in_Zone hown hK hP 2 rfl rfl 1 (by decide) (hts (.fieldLink "ZoneFiles" 138 "ZoneFiles$Zone" "timeCount" "I") m_1_169) (fun _ h9 => h9) rfl d_ZF_typeAt_11 ?_
    rcases orT_c hf with hc | hf
    · exact th_goS (As := [.int x2, .int zTic]) (rest := []) ⟨hx, hb, hml, hown, hts⟩ (t_ZF_checkIndex l hno dC dI nf x2 zTic hc) (va_cwS 2 hts (gdS m_4_234 m_4_235 m_1_1 m_4_236) rfl rfl rfl (by decide +kernel) ⟨Nat.le_trans (Nat.le_of_ble_eq_true rfl) hRf, Nat.le_trans (Nat.le_of_ble_eq_true rfl) hRl⟩) (ROXsta (RO.pre0 hK hST) hXT) rfl hl.1 rfl (Nat.le_of_ble_eq_true rfl) d_ZF_typeAt_14 ⟨hRc, hRs⟩ (fun x V ce h1 h2 h3 h4 h5 h6 => th_out hlocks hemp h1 h2 h3 h4 h5 h6)
    · exact absurd hf (by simp)
end
set_option maxHeartbeats 400000 in
set_option maxRecDepth 100000 in
theorem t_ZF_typeAt (l : Launch) (hno : NT l) (dC : Nat → ClassId) (dI : Nat → Nat → Nat) (h0 : Nat) (zfTp : Nat) (zfWr : Nat) (zfZs : Nat) (zfSp : Nat) (zfLt : Nat) (zfSt : Nat) (zfFd : Nat) (zz : Nat) (zTi : Nat) (zTt : Nat) (zOf : Nat) (zDs : Nat) (zIx : Nat) (zSd : Nat) (zUt : Nat) (zCh : Nat) (zLt : Nat) (zLo : Nat) (zRu : Nat) (cAzfZs : ClassId) (nf : Nat) (p0 : Int32) (p1 : Int32) (zfFc : Int32) (zfFp : Int32) (zg : Nat → Option Nat) (zVer : Int32) (zTic : Int32) (zTyc : Int32) (zLec : Int32) (zStc : Int32) (zUtc : Int32) {k : Nat} (hf : g_ZF_typeAt nf p0 p1 zTic = some k) (hz : zg p0.toNatClampNeg = some zz) : MetT l y_ZF_typeAt (wd y_ZF_typeAt b_ZF_typeAt 3 (some .int)) ({ frames := 7, cells := 1, slots := 6, locals := 121 }) (ROX dC dI [(h0, .inr (9, [.ref zfTp, .ref zfWr, .ref zfZs, .ref zfSp, .ref zfLt, .ref zfSt, .ref zfFd, .int zfFc, .int zfFp])), (zfZs, .inl (cAzfZs, 4, .inr (.inr (.inr (.inr zg))))), (zz, .inr (8, [.int zVer, .int zTic, .int zTyc, .int zLec, .int zStc, .int zUtc, .ref zTi, .ref zTt, .ref zOf, .ref zDs, .ref zIx, .ref zSd, .ref zUt, .ref zCh, .ref zLt, .ref zLo, .ref zRu]))] [(cAzfZs, .object "ZoneFiles$Zone")] [.ref h0, .int p0, .int p1]) (TQ (xn k)) 1 6 :=
  met_TX (plainFor_of_name (by decide)) (Nat.le_of_ble_eq_true rfl) (fun p e R s m args below meth c ls hRc hRs hemp C0 hST hXT hK hP hl => by
    obtain ⟨hx, hb, hr, hml, hown, hts, hlocks, hRf, hRl⟩ := id C0
    unfold g_ZF_typeAt at hf
    exact u_ZF_typeAt_0 C0 hno hemp hRc hRs hXT hST hK hP hz trivial hf (lv_sub hl [0, 1, 2] rfl))
-- ZoneFiles.type(III)I
def g_ZF_type_0 (nf : Nat) (p0 : Int32) (zTyc : Int32) (x2 : Int32) (x3 : Int32) : Option (Nat) :=
  orT (g_ZF_checkZone nf p0) ((f_ZF_checkZone nf p0).bind fun _u =>
  if p0 < 0 ∨ 4 ≤ p0.toNatClampNeg then none else
  orT (g_ZF_checkIndex nf x2 zTyc) ((f_ZF_checkIndex nf x2 zTyc).bind fun _u =>
  if x3 = 0 then
  none
  else
  if x3 = 1 then
    none
    else
    if x3 = 2 then
      none
      else
      if x3 = 3 then
        none
        else
        if x3 = 4 then
          none
          else
          if x3 = 5 then
            none
            else
            some 1))
def g_ZF_type (nf : Nat) (p0 : Int32) (p1 : Int32) (p2 : Int32) (zTyc : Int32) : Option (Nat) :=
  g_ZF_type_0 nf p0 zTyc p1 p2
section
variable {p : Program} {l : Launch} {e : Env} {R : Room} {s : State} {m : MethodId} {args : Array Value} {below : List Frame} {meth : Method} {c : Code} {Q : State → Prop} {dC : Nat → ClassId} {dI : Nat → Nat → Nat} {nf : Nat}
variable {h0 : Nat} {zfTp : Nat} {zfWr : Nat} {zfZs : Nat} {zfSp : Nat} {zfLt : Nat} {zfSt : Nat} {zfFd : Nat} {zz : Nat} {zTi : Nat} {zTt : Nat} {zOf : Nat} {zDs : Nat} {zIx : Nat} {zSd : Nat} {zUt : Nat} {zCh : Nat} {zLt : Nat} {zLo : Nat} {zRu : Nat} {cAzfZs : ClassId} {p0 : Int32} {zfFc : Int32} {zfFp : Int32} {zg : Nat → Option Nat} {zVer : Int32} {zTic : Int32} {zTyc : Int32} {zLec : Int32} {zStc : Int32} {zUtc : Int32} {k : Nat}
set_option maxHeartbeats 400000 in
set_option maxRecDepth 100000 in
theorem u_ZF_type_0 (C0 : Cx p s m meth c args R b_ZF_type "ZoneFiles" 5 (some .int) 7 121) (hno : NT l) (hemp : c.exceptionTable.isEmpty = true) (hRc : 1 ≤ R.cells) (hRs : 6 ≤ R.slots) (hXT : XT (fun _ => False) s s.heap) (hST : ST (fun _ => False) s s.heap) (hK : va_K (dC, dI) classes [(cAzfZs, .object "ZoneFiles$Zone")] s) (hP : va_P (dC, dI) classes [(h0, .inr (9, [.ref zfTp, .ref zfWr, .ref zfZs, .ref zfSp, .ref zfLt, .ref zfSt, .ref zfFd, .int zfFc, .int zfFp])), (zfZs, .inl (cAzfZs, 4, .inr (.inr (.inr (.inr zg))))), (zz, .inr (8, [.int zVer, .int zTic, .int zTyc, .int zLec, .int zStc, .int zUtc, .ref zTi, .ref zTt, .ref zOf, .ref zDs, .ref zIx, .ref zSd, .ref zUt, .ref zCh, .ref zLt, .ref zLo, .ref zRu]))] s.heap) (hz : zg p0.toNatClampNeg = some zz) (hE : True) {x2 : Int32} {x3 : Int32} (hf : g_ZF_type_0 nf p0 zTyc x2 x3 = some k) {ls : Array Slot} (hl : lv_has ls 5 [(0, .ref h0), (1, .int p0), (2, .int x2), (3, .int x3)]) : W p l e R s m args below meth c s.heap [] 0 0 (MQT below (TQ (xn k)) args s 1 6) (F0 m 0 ls []) := by
  obtain ⟨hx, hb, hr, hml, hown, hts, hlocks, hRf, hRl⟩ := id C0
  obtain ⟨tms, hZms, hTms, tmg, hZmg, hTmg, hNW⟩ := id hST
  unfold g_ZF_type_0 at hf
  refine lv_iload_n hx hb d_ZF_type_0 rfl (lv_at hl 1 rfl) ?_
  rcases orT_c hf with hc | hf
  · exact th_goS (As := [.int p0]) (rest := []) ⟨hx, hb, hml, hown, hts⟩ (t_ZF_checkZone l hno dC dI nf p0 hc) (va_cwS 1 hts (gdS m_3_131 m_3_132 m_1_1 m_3_133) rfl rfl rfl (by decide +kernel) ⟨Nat.le_trans (Nat.le_of_ble_eq_true rfl) hRf, Nat.le_trans (Nat.le_of_ble_eq_true rfl) hRl⟩) (ROXsta (RO.pre0 hK hST) hXT) rfl hl.1 rfl (Nat.le_of_ble_eq_true rfl) d_ZF_type_1 ⟨hRc, hRs⟩ (fun x V ce h1 h2 h3 h4 h5 h6 => th_out hlocks hemp h1 h2 h3 h4 h5 h6)
  · obtain ⟨_u, hc, hf⟩ := ob hf
    refine cl_S (v := none) (st1 := []) (va_runS (As := [.int p0]) (rest := []) ⟨hx, hb, hml, hown, hts⟩ (c_ZF_checkZone l dC dI nf p0 hc) (va_cwS 1 hts (gdS m_3_131 m_3_132 m_1_1 m_3_133) rfl rfl rfl (by decide +kernel) ⟨Nat.le_trans (Nat.le_of_ble_eq_true rfl) hRf, Nat.le_trans (Nat.le_of_ble_eq_true rfl) hRl⟩) (RO.pre0 hK hST).sta rfl rfl hl.1 rfl (lv_room (Nat.le_of_ble_eq_true rfl)) d_ZF_type_1 ⟨Nat.zero_le _, Nat.zero_le _⟩) rfl ?_
    refine lv_aload_n hx hb d_ZF_type_4 rfl (lv_at hl 0 rfl) ?_
    refine va_get (D := (dC, dI)) (ci := 9) (v := .ref zfZs) (C := RZoneFiles) (T := TZoneFiles) (N := 9) hx hb hts in_ZoneFiles hown hK hP 0 rfl rfl 2 (by decide) (hts (.fieldLink "ZoneFiles" 23 "ZoneFiles" "zones" "[LZoneFiles$Zone;") m_2_119) (fun _ h9 => h9) rfl d_ZF_type_5 ?_
    refine lv_iload_n hx hb d_ZF_type_8 rfl (lv_at hl 1 rfl) ?_
    obtain ⟨c_1, hf⟩ := it_n hf
    refine zf_ald (zz := zz) hx hb hK hP 1 0 rfl rfl c_1 hz d_ZF_type_9 ?_
    refine lv_astore (lv' := [(4, .ref zz), (0, .ref h0), (1, .int p0), (2, .int x2), (3, .int x3)]) hx hb d_ZF_type_10 hl (by decide) rfl (fun ls hl => ?_)
    refine lv_iload_n hx hb d_ZF_type_12 rfl (lv_at hl 3 rfl) ?_
    refine lv_aload hx hb d_ZF_type_13 (lv_at hl 0 rfl) ?_
    refine va_get (D := (dC, dI)) (ci := 8) (v := .int zTyc) (C := RZone) (T := TZone) (N := 17) hx hb hts in_Zone hown hK hP 2 rfl rfl 2 (by decide) (hts (.fieldLink "ZoneFiles" 141 "ZoneFiles$Zone" "typeCount" "I") m_1_172) (fun _ h9 => h9) rfl d_ZF_type_15 ?_
    rcases orT_c hf with hc | hf
    · exact th_goS (As := [.int x2, .int zTyc]) (rest := []) ⟨hx, hb, hml, hown, hts⟩ (t_ZF_checkIndex l hno dC dI nf x2 zTyc hc) (va_cwS 2 hts (gdS m_4_234 m_4_235 m_1_1 m_4_236) rfl rfl rfl (by decide +kernel) ⟨Nat.le_trans (Nat.le_of_ble_eq_true rfl) hRf, Nat.le_trans (Nat.le_of_ble_eq_true rfl) hRl⟩) (ROXsta (RO.pre0 hK hST) hXT) rfl hl.1 rfl (Nat.le_of_ble_eq_true rfl) d_ZF_type_18 ⟨hRc, hRs⟩ (fun x V ce h1 h2 h3 h4 h5 h6 => th_out hlocks hemp h1 h2 h3 h4 h5 h6)
    · obtain ⟨_u, hc, hf⟩ := ob hf
      refine cl_S (v := none) (st1 := []) (va_runS (As := [.int x2, .int zTyc]) (rest := []) ⟨hx, hb, hml, hown, hts⟩ (c_ZF_checkIndex l dC dI nf x2 zTyc hc) (va_cwS 2 hts (gdS m_4_234 m_4_235 m_1_1 m_4_236) rfl rfl rfl (by decide +kernel) ⟨Nat.le_trans (Nat.le_of_ble_eq_true rfl) hRf, Nat.le_trans (Nat.le_of_ble_eq_true rfl) hRl⟩) (RO.pre0 hK hST).sta rfl rfl hl.1 rfl (lv_room (Nat.le_of_ble_eq_true rfl)) d_ZF_type_18 ⟨Nat.zero_le _, Nat.zero_le _⟩) rfl ?_
      refine lv_iload_n hx hb d_ZF_type_21 rfl (lv_at hl 4 rfl) ?_
      by_cases c_2 : x3 = 0
      · have hf := it_t c_2 hf
        refine lv_tableIn (tgt := 60) hx hb d_ZF_type_22 (by rw [c_2]; decide) (by rw [c_2]; decide) (by rw [c_2]; rfl) (by decide) ?_
        exact absurd hf (by simp)
      · have hf := it_f c_2 hf
        by_cases c_3 : x3 = 1
        · have hf := it_t c_3 hf
          refine lv_tableIn (tgt := 68) hx hb d_ZF_type_22 (by rw [c_3]; decide) (by rw [c_3]; decide) (by rw [c_3]; rfl) (by decide) ?_
          exact absurd hf (by simp)
        · have hf := it_f c_3 hf
          by_cases c_4 : x3 = 2
          · have hf := it_t c_4 hf
            refine lv_tableIn (tgt := 76) hx hb d_ZF_type_22 (by rw [c_4]; decide) (by rw [c_4]; decide) (by rw [c_4]; rfl) (by decide) ?_
            exact absurd hf (by simp)
          · have hf := it_f c_4 hf
            by_cases c_5 : x3 = 3
            · have hf := it_t c_5 hf
              refine lv_tableIn (tgt := 84) hx hb d_ZF_type_22 (by rw [c_5]; decide) (by rw [c_5]; decide) (by rw [c_5]; rfl) (by decide) ?_
              exact absurd hf (by simp)
            · have hf := it_f c_5 hf
              by_cases c_6 : x3 = 4
              · have hf := it_t c_6 hf
                refine lv_tableIn (tgt := 91) hx hb d_ZF_type_22 (by rw [c_6]; decide) (by rw [c_6]; decide) (by rw [c_6]; rfl) (by decide) ?_
                exact absurd hf (by simp)
              · have hf := it_f c_6 hf
                by_cases c_7 : x3 = 5
                · have hf := it_t c_7 hf
                  refine lv_tableIn (tgt := 112) hx hb d_ZF_type_22 (by rw [c_7]; decide) (by rw [c_7]; decide) (by rw [c_7]; rfl) (by decide) ?_
                  exact absurd hf (by simp)
                · have hf := it_f c_7 hf
                  have hsw : x3.toInt < 0 ∨ 5 < x3.toInt := by
                    have hsw0 := lv_neT c_2 (a := 0) rfl
                    have hsw1 := lv_neT c_3 (a := 1) rfl
                    have hsw2 := lv_neT c_4 (a := 2) rfl
                    have hsw3 := lv_neT c_5 (a := 3) rfl
                    have hsw4 := lv_neT c_6 (a := 4) rfl
                    have hsw5 := lv_neT c_7 (a := 5) rfl
                    omega
                  refine lv_tableOut (tgt := 133) hx hb d_ZF_type_22 hsw (by decide) ?_
                  cases rs hf
                  obtain ⟨qs, hstr⟩ := hXT.2.2.2.2.2.2.2.1
                  exact th_new hno C0 hemp d_ZF_type_133 d_ZF_type_136 d_ZF_type_137 d_ZF_type_139 d_ZF_type_142 (xa_1 hts hXT) (hts _ m_3_134) (hts _ m_3_135) (hts _ m_1_15) hstr (by decide) hRc hRs (by decide) (by decide) hl.1 (Nat.le_of_ble_eq_true rfl)
end
set_option maxHeartbeats 400000 in
set_option maxRecDepth 100000 in
theorem t_ZF_type (l : Launch) (hno : NT l) (dC : Nat → ClassId) (dI : Nat → Nat → Nat) (h0 : Nat) (zfTp : Nat) (zfWr : Nat) (zfZs : Nat) (zfSp : Nat) (zfLt : Nat) (zfSt : Nat) (zfFd : Nat) (zz : Nat) (zTi : Nat) (zTt : Nat) (zOf : Nat) (zDs : Nat) (zIx : Nat) (zSd : Nat) (zUt : Nat) (zCh : Nat) (zLt : Nat) (zLo : Nat) (zRu : Nat) (cAzfZs : ClassId) (nf : Nat) (p0 : Int32) (p1 : Int32) (p2 : Int32) (zfFc : Int32) (zfFp : Int32) (zg : Nat → Option Nat) (zVer : Int32) (zTic : Int32) (zTyc : Int32) (zLec : Int32) (zStc : Int32) (zUtc : Int32) {k : Nat} (hf : g_ZF_type nf p0 p1 p2 zTyc = some k) (hz : zg p0.toNatClampNeg = some zz) : MetT l y_ZF_type (wd y_ZF_type b_ZF_type 5 (some .int)) ({ frames := 7, cells := 1, slots := 6, locals := 121 }) (ROX dC dI [(h0, .inr (9, [.ref zfTp, .ref zfWr, .ref zfZs, .ref zfSp, .ref zfLt, .ref zfSt, .ref zfFd, .int zfFc, .int zfFp])), (zfZs, .inl (cAzfZs, 4, .inr (.inr (.inr (.inr zg))))), (zz, .inr (8, [.int zVer, .int zTic, .int zTyc, .int zLec, .int zStc, .int zUtc, .ref zTi, .ref zTt, .ref zOf, .ref zDs, .ref zIx, .ref zSd, .ref zUt, .ref zCh, .ref zLt, .ref zLo, .ref zRu]))] [(cAzfZs, .object "ZoneFiles$Zone")] [.ref h0, .int p0, .int p1, .int p2]) (TQ (xn k)) 1 6 :=
  met_TX (plainFor_of_name (by decide)) (Nat.le_of_ble_eq_true rfl) (fun p e R s m args below meth c ls hRc hRs hemp C0 hST hXT hK hP hl => by
    obtain ⟨hx, hb, hr, hml, hown, hts, hlocks, hRf, hRl⟩ := id C0
    unfold g_ZF_type at hf
    exact u_ZF_type_0 C0 hno hemp hRc hRs hXT hST hK hP hz trivial hf (lv_sub hl [0, 1, 2, 3] rfl))
-- ZoneFiles.letter(III)I
def g_ZF_letter_0 (nf : Nat) (p0 : Int32) (chS : Int32) (txS : Int32) (x2 : Int32) (x3 : Int32) : Option (Nat) :=
  orT (g_ZF_checkZone nf p0) ((f_ZF_checkZone nf p0).bind fun _u =>
  orT (g_ZF_checkIndex nf x2 2) ((f_ZF_checkIndex nf x2 2).bind fun _u =>
  if x2 = 0 then
  if p0 < 0 ∨ 4 ≤ p0.toNatClampNeg then none else
    orT (g_ZF_checkIndex nf x3 chS) (none)
  else
  if p0 < 0 ∨ 4 ≤ p0.toNatClampNeg then none else
    orT (g_ZF_checkIndex nf x3 txS) (none)))
def g_ZF_letter (nf : Nat) (p0 : Int32) (p1 : Int32) (p2 : Int32) (chS : Int32) (txS : Int32) : Option (Nat) :=
  g_ZF_letter_0 nf p0 chS txS p1 p2
section
variable {p : Program} {l : Launch} {e : Env} {R : Room} {s : State} {m : MethodId} {args : Array Value} {below : List Frame} {meth : Method} {c : Code} {Q : State → Prop} {dC : Nat → ClassId} {dI : Nat → Nat → Nat} {nf : Nat}
variable {h0 : Nat} {zfTp : Nat} {zfWr : Nat} {zfZs : Nat} {zfSp : Nat} {zfLt : Nat} {zfSt : Nat} {zfFd : Nat} {zz : Nat} {zTi : Nat} {zTt : Nat} {zOf : Nat} {zDs : Nat} {zIx : Nat} {zSd : Nat} {zUt : Nat} {zCh : Nat} {zLt : Nat} {zLo : Nat} {zRu : Nat} {chR : Nat} {ruT : Nat} {ruB : Nat} {ruE : Nat} {txR : Nat} {cAzfZs : ClassId} {p0 : Int32} {zfFc : Int32} {zfFp : Int32} {zg : Nat → Option Nat} {zVer : Int32} {zTic : Int32} {zTyc : Int32} {zLec : Int32} {zStc : Int32} {zUtc : Int32} {chS : Int32} {ruHas : Int32} {ruWide : Int32} {ruSo : Int32} {ruUo : Int32} {ruSp : Int32} {ruSs : Int32} {ruUp : Int32} {ruUs : Int32} {ruNev : Int32} {txS : Int32} {k : Nat}
set_option maxHeartbeats 400000 in
set_option maxRecDepth 100000 in
theorem u_ZF_letter_0 (C0 : Cx p s m meth c args R b_ZF_letter "ZoneFiles" 5 (some .int) 7 121) (hno : NT l) (hemp : c.exceptionTable.isEmpty = true) (hRc : 1 ≤ R.cells) (hRs : 6 ≤ R.slots) (hXT : XT (fun _ => False) s s.heap) (hST : ST (fun _ => False) s s.heap) (hK : va_K (dC, dI) classes [(cAzfZs, .object "ZoneFiles$Zone")] s) (hP : va_P (dC, dI) classes [(h0, .inr (9, [.ref zfTp, .ref zfWr, .ref zfZs, .ref zfSp, .ref zfLt, .ref zfSt, .ref zfFd, .int zfFc, .int zfFp])), (zfZs, .inl (cAzfZs, 4, .inr (.inr (.inr (.inr zg))))), (zz, .inr (8, [.int zVer, .int zTic, .int zTyc, .int zLec, .int zStc, .int zUtc, .ref zTi, .ref zTt, .ref zOf, .ref zDs, .ref zIx, .ref zSd, .ref zUt, .ref zCh, .ref zLt, .ref zLo, .ref zRu])), (zCh, .inr (0, [.ref chR, .int chS])), (zRu, .inr (5, [.ref ruT, .ref ruB, .ref ruE, .int ruHas, .int ruWide, .int ruSo, .int ruUo, .int ruSp, .int ruSs, .int ruUp, .int ruUs, .int ruNev])), (ruT, .inr (0, [.ref txR, .int txS]))] s.heap) (hz : zg p0.toNatClampNeg = some zz) (hE : True) {x2 : Int32} {x3 : Int32} (hf : g_ZF_letter_0 nf p0 chS txS x2 x3 = some k) {ls : Array Slot} (hl : lv_has ls 5 [(0, .ref h0), (1, .int p0), (2, .int x2), (3, .int x3)]) : W p l e R s m args below meth c s.heap [] 0 0 (MQT below (TQ (xn k)) args s 1 6) (F0 m 0 ls []) := by
  obtain ⟨hx, hb, hr, hml, hown, hts, hlocks, hRf, hRl⟩ := id C0
  obtain ⟨tms, hZms, hTms, tmg, hZmg, hTmg, hNW⟩ := id hST
  unfold g_ZF_letter_0 at hf
  refine lv_iload_n hx hb d_ZF_letter_0 rfl (lv_at hl 1 rfl) ?_
  rcases orT_c hf with hc | hf
  · exact th_goS (As := [.int p0]) (rest := []) ⟨hx, hb, hml, hown, hts⟩ (t_ZF_checkZone l hno dC dI nf p0 hc) (va_cwS 1 hts (gdS m_3_131 m_3_132 m_1_1 m_3_133) rfl rfl rfl (by decide +kernel) ⟨Nat.le_trans (Nat.le_of_ble_eq_true rfl) hRf, Nat.le_trans (Nat.le_of_ble_eq_true rfl) hRl⟩) (ROXsta (RO.pre0 hK hST) hXT) rfl hl.1 rfl (Nat.le_of_ble_eq_true rfl) d_ZF_letter_1 ⟨hRc, hRs⟩ (fun x V ce h1 h2 h3 h4 h5 h6 => th_out hlocks hemp h1 h2 h3 h4 h5 h6)
  · obtain ⟨_u, hc, hf⟩ := ob hf
    refine cl_S (v := none) (st1 := []) (va_runS (As := [.int p0]) (rest := []) ⟨hx, hb, hml, hown, hts⟩ (c_ZF_checkZone l dC dI nf p0 hc) (va_cwS 1 hts (gdS m_3_131 m_3_132 m_1_1 m_3_133) rfl rfl rfl (by decide +kernel) ⟨Nat.le_trans (Nat.le_of_ble_eq_true rfl) hRf, Nat.le_trans (Nat.le_of_ble_eq_true rfl) hRl⟩) (RO.pre0 hK hST).sta rfl rfl hl.1 rfl (lv_room (Nat.le_of_ble_eq_true rfl)) d_ZF_letter_1 ⟨Nat.zero_le _, Nat.zero_le _⟩) rfl ?_
    refine lv_iload_n hx hb d_ZF_letter_4 rfl (lv_at hl 2 rfl) ?_
    refine lv_iconst (v := 2) hx hb d_ZF_letter_5 (by decide) ?_
    rcases orT_c hf with hc | hf
    · exact th_goS (As := [.int x2, .int 2]) (rest := []) ⟨hx, hb, hml, hown, hts⟩ (t_ZF_checkIndex l hno dC dI nf x2 2 hc) (va_cwS 2 hts (gdS m_4_234 m_4_235 m_1_1 m_4_236) rfl rfl rfl (by decide +kernel) ⟨Nat.le_trans (Nat.le_of_ble_eq_true rfl) hRf, Nat.le_trans (Nat.le_of_ble_eq_true rfl) hRl⟩) (ROXsta (RO.pre0 hK hST) hXT) rfl hl.1 rfl (Nat.le_of_ble_eq_true rfl) d_ZF_letter_6 ⟨hRc, hRs⟩ (fun x V ce h1 h2 h3 h4 h5 h6 => th_out hlocks hemp h1 h2 h3 h4 h5 h6)
    · obtain ⟨_u, hc, hf⟩ := ob hf
      refine cl_S (v := none) (st1 := []) (va_runS (As := [.int x2, .int 2]) (rest := []) ⟨hx, hb, hml, hown, hts⟩ (c_ZF_checkIndex l dC dI nf x2 2 hc) (va_cwS 2 hts (gdS m_4_234 m_4_235 m_1_1 m_4_236) rfl rfl rfl (by decide +kernel) ⟨Nat.le_trans (Nat.le_of_ble_eq_true rfl) hRf, Nat.le_trans (Nat.le_of_ble_eq_true rfl) hRl⟩) (RO.pre0 hK hST).sta rfl rfl hl.1 rfl (lv_room (Nat.le_of_ble_eq_true rfl)) d_ZF_letter_6 ⟨Nat.zero_le _, Nat.zero_le _⟩) rfl ?_
      refine lv_iload_n hx hb d_ZF_letter_9 rfl (lv_at hl 2 rfl) ?_
      refine lv_if_ne (tgt := 25) hx hb d_ZF_letter_10 (by decide) (fun c_1 => ?_) (fun c_1 => ?_)
      · have hf := it_f c_1 hf
        refine lv_aload_n hx hb d_ZF_letter_25 rfl (lv_at hl 0 rfl) ?_
        refine va_get (D := (dC, dI)) (ci := 9) (v := .ref zfZs) (C := RZoneFiles) (T := TZoneFiles) (N := 9) hx hb hts in_ZoneFiles hown hK hP 0 rfl rfl 2 (by decide) (hts (.fieldLink "ZoneFiles" 23 "ZoneFiles" "zones" "[LZoneFiles$Zone;") m_2_119) (fun _ h9 => h9) rfl d_ZF_letter_26 ?_
        refine lv_iload_n hx hb d_ZF_letter_29 rfl (lv_at hl 1 rfl) ?_
        obtain ⟨c_2, hf⟩ := it_n hf
        refine zf_ald (zz := zz) hx hb hK hP 1 0 rfl rfl c_2 hz d_ZF_letter_30 ?_
        refine va_get (D := (dC, dI)) (ci := 8) (v := .ref zRu) (C := RZone) (T := TZone) (N := 17) hx hb hts in_Zone hown hK hP 2 rfl rfl 16 (by decide) (hts (.fieldLink "ZoneFiles" 108 "ZoneFiles$Zone" "rule" "LZoneFiles$Rule;") m_1_229) (fun _ h9 => h9) rfl d_ZF_letter_31 ?_
        refine va_get (D := (dC, dI)) (ci := 5) (v := .ref ruT) (C := RRule) (T := TRule) (N := 12) hx hb hts in_Rule hown hK hP 4 rfl rfl 0 (by decide) (hts (.fieldLink "ZoneFiles" 156 "ZoneFiles$Rule" "text" "LZoneFiles$Bytes;") m_1_105) (fun _ h9 => h9) rfl d_ZF_letter_34 ?_
        refine lv_astore (lv' := [(4, .ref ruT), (0, .ref h0), (1, .int p0), (2, .int x2), (3, .int x3)]) hx hb d_ZF_letter_37 hl (by decide) rfl (fun ls hl => ?_)
        refine lv_iload_n hx hb d_ZF_letter_39 rfl (lv_at hl 4 rfl) ?_
        refine lv_aload hx hb d_ZF_letter_40 (lv_at hl 0 rfl) ?_
        refine va_get (D := (dC, dI)) (ci := 0) (v := .int txS) (C := RBytes) (T := TBytes) (N := 2) hx hb hts in_Bytes hown hK hP 5 rfl rfl 1 (by decide) (hts (.fieldLink "ZoneFiles" 63 "ZoneFiles$Bytes" "size" "I") m_1_39) (fun _ h9 => h9) rfl d_ZF_letter_42 ?_
        rcases orT_c hf with hc | hf
        · exact th_goS (As := [.int x3, .int txS]) (rest := []) ⟨hx, hb, hml, hown, hts⟩ (t_ZF_checkIndex l hno dC dI nf x3 txS hc) (va_cwS 2 hts (gdS m_4_234 m_4_235 m_1_1 m_4_236) rfl rfl rfl (by decide +kernel) ⟨Nat.le_trans (Nat.le_of_ble_eq_true rfl) hRf, Nat.le_trans (Nat.le_of_ble_eq_true rfl) hRl⟩) (ROXsta (RO.pre0 hK hST) hXT) rfl hl.1 rfl (Nat.le_of_ble_eq_true rfl) d_ZF_letter_45 ⟨hRc, hRs⟩ (fun x V ce h1 h2 h3 h4 h5 h6 => th_out hlocks hemp h1 h2 h3 h4 h5 h6)
        · exact absurd hf (by simp)
      · have hf := it_t c_1 hf
        refine lv_aload_n hx hb d_ZF_letter_13 rfl (lv_at hl 0 rfl) ?_
        refine va_get (D := (dC, dI)) (ci := 9) (v := .ref zfZs) (C := RZoneFiles) (T := TZoneFiles) (N := 9) hx hb hts in_ZoneFiles hown hK hP 0 rfl rfl 2 (by decide) (hts (.fieldLink "ZoneFiles" 23 "ZoneFiles" "zones" "[LZoneFiles$Zone;") m_2_119) (fun _ h9 => h9) rfl d_ZF_letter_14 ?_
        refine lv_iload_n hx hb d_ZF_letter_17 rfl (lv_at hl 1 rfl) ?_
        obtain ⟨c_3, hf⟩ := it_n hf
        refine zf_ald (zz := zz) hx hb hK hP 1 0 rfl rfl c_3 hz d_ZF_letter_18 ?_
        refine va_get (D := (dC, dI)) (ci := 8) (v := .ref zCh) (C := RZone) (T := TZone) (N := 17) hx hb hts in_Zone hown hK hP 2 rfl rfl 13 (by decide) (hts (.fieldLink "ZoneFiles" 144 "ZoneFiles$Zone" "chars" "LZoneFiles$Bytes;") m_1_216) (fun _ h9 => h9) rfl d_ZF_letter_19 ?_
        refine lv_goto (tgt := 37) hx hb d_ZF_letter_22 (by decide) ?_
        refine lv_astore (lv' := [(4, .ref zCh), (0, .ref h0), (1, .int p0), (2, .int x2), (3, .int x3)]) hx hb d_ZF_letter_37 hl (by decide) rfl (fun ls hl => ?_)
        refine lv_iload_n hx hb d_ZF_letter_39 rfl (lv_at hl 4 rfl) ?_
        refine lv_aload hx hb d_ZF_letter_40 (lv_at hl 0 rfl) ?_
        refine va_get (D := (dC, dI)) (ci := 0) (v := .int chS) (C := RBytes) (T := TBytes) (N := 2) hx hb hts in_Bytes hown hK hP 3 rfl rfl 1 (by decide) (hts (.fieldLink "ZoneFiles" 63 "ZoneFiles$Bytes" "size" "I") m_1_39) (fun _ h9 => h9) rfl d_ZF_letter_42 ?_
        rcases orT_c hf with hc | hf
        · exact th_goS (As := [.int x3, .int chS]) (rest := []) ⟨hx, hb, hml, hown, hts⟩ (t_ZF_checkIndex l hno dC dI nf x3 chS hc) (va_cwS 2 hts (gdS m_4_234 m_4_235 m_1_1 m_4_236) rfl rfl rfl (by decide +kernel) ⟨Nat.le_trans (Nat.le_of_ble_eq_true rfl) hRf, Nat.le_trans (Nat.le_of_ble_eq_true rfl) hRl⟩) (ROXsta (RO.pre0 hK hST) hXT) rfl hl.1 rfl (Nat.le_of_ble_eq_true rfl) d_ZF_letter_45 ⟨hRc, hRs⟩ (fun x V ce h1 h2 h3 h4 h5 h6 => th_out hlocks hemp h1 h2 h3 h4 h5 h6)
        · exact absurd hf (by simp)
end
set_option maxHeartbeats 400000 in
set_option maxRecDepth 100000 in
theorem t_ZF_letter (l : Launch) (hno : NT l) (dC : Nat → ClassId) (dI : Nat → Nat → Nat) (h0 : Nat) (zfTp : Nat) (zfWr : Nat) (zfZs : Nat) (zfSp : Nat) (zfLt : Nat) (zfSt : Nat) (zfFd : Nat) (zz : Nat) (zTi : Nat) (zTt : Nat) (zOf : Nat) (zDs : Nat) (zIx : Nat) (zSd : Nat) (zUt : Nat) (zCh : Nat) (zLt : Nat) (zLo : Nat) (zRu : Nat) (chR : Nat) (ruT : Nat) (ruB : Nat) (ruE : Nat) (txR : Nat) (cAzfZs : ClassId) (nf : Nat) (p0 : Int32) (p1 : Int32) (p2 : Int32) (zfFc : Int32) (zfFp : Int32) (zg : Nat → Option Nat) (zVer : Int32) (zTic : Int32) (zTyc : Int32) (zLec : Int32) (zStc : Int32) (zUtc : Int32) (chS : Int32) (ruHas : Int32) (ruWide : Int32) (ruSo : Int32) (ruUo : Int32) (ruSp : Int32) (ruSs : Int32) (ruUp : Int32) (ruUs : Int32) (ruNev : Int32) (txS : Int32) {k : Nat} (hf : g_ZF_letter nf p0 p1 p2 chS txS = some k) (hz : zg p0.toNatClampNeg = some zz) : MetT l y_ZF_letter (wd y_ZF_letter b_ZF_letter 5 (some .int)) ({ frames := 7, cells := 1, slots := 6, locals := 121 }) (ROX dC dI [(h0, .inr (9, [.ref zfTp, .ref zfWr, .ref zfZs, .ref zfSp, .ref zfLt, .ref zfSt, .ref zfFd, .int zfFc, .int zfFp])), (zfZs, .inl (cAzfZs, 4, .inr (.inr (.inr (.inr zg))))), (zz, .inr (8, [.int zVer, .int zTic, .int zTyc, .int zLec, .int zStc, .int zUtc, .ref zTi, .ref zTt, .ref zOf, .ref zDs, .ref zIx, .ref zSd, .ref zUt, .ref zCh, .ref zLt, .ref zLo, .ref zRu])), (zCh, .inr (0, [.ref chR, .int chS])), (zRu, .inr (5, [.ref ruT, .ref ruB, .ref ruE, .int ruHas, .int ruWide, .int ruSo, .int ruUo, .int ruSp, .int ruSs, .int ruUp, .int ruUs, .int ruNev])), (ruT, .inr (0, [.ref txR, .int txS]))] [(cAzfZs, .object "ZoneFiles$Zone")] [.ref h0, .int p0, .int p1, .int p2]) (TQ (xn k)) 1 6 :=
  met_TX (plainFor_of_name (by decide)) (Nat.le_of_ble_eq_true rfl) (fun p e R s m args below meth c ls hRc hRs hemp C0 hST hXT hK hP hl => by
    obtain ⟨hx, hb, hr, hml, hown, hts, hlocks, hRf, hRl⟩ := id C0
    unfold g_ZF_letter at hf
    exact u_ZF_letter_0 C0 hno hemp hRc hRs hXT hST hK hP hz trivial hf (lv_sub hl [0, 1, 2, 3] rfl))
-- ZoneFiles.leap(III)J
def g_ZF_leap_0 (nf : Nat) (p0 : Int32) (zLec : Int32) (x2 : Int32) (x3 : Int32) : Option (Nat) :=
  orT (g_ZF_checkZone nf p0) ((f_ZF_checkZone nf p0).bind fun _u =>
  if p0 < 0 ∨ 4 ≤ p0.toNatClampNeg then none else
  orT (g_ZF_checkIndex nf x2 zLec) ((f_ZF_checkIndex nf x2 zLec).bind fun _u =>
  orT (g_ZF_checkIndex nf x3 2) (none)))
def g_ZF_leap (nf : Nat) (p0 : Int32) (p1 : Int32) (p2 : Int32) (zLec : Int32) : Option (Nat) :=
  g_ZF_leap_0 nf p0 zLec p1 p2
section
variable {p : Program} {l : Launch} {e : Env} {R : Room} {s : State} {m : MethodId} {args : Array Value} {below : List Frame} {meth : Method} {c : Code} {Q : State → Prop} {dC : Nat → ClassId} {dI : Nat → Nat → Nat} {nf : Nat}
variable {h0 : Nat} {zfTp : Nat} {zfWr : Nat} {zfZs : Nat} {zfSp : Nat} {zfLt : Nat} {zfSt : Nat} {zfFd : Nat} {zz : Nat} {zTi : Nat} {zTt : Nat} {zOf : Nat} {zDs : Nat} {zIx : Nat} {zSd : Nat} {zUt : Nat} {zCh : Nat} {zLt : Nat} {zLo : Nat} {zRu : Nat} {cAzfZs : ClassId} {p0 : Int32} {zfFc : Int32} {zfFp : Int32} {zg : Nat → Option Nat} {zVer : Int32} {zTic : Int32} {zTyc : Int32} {zLec : Int32} {zStc : Int32} {zUtc : Int32} {k : Nat}
set_option maxHeartbeats 400000 in
set_option maxRecDepth 100000 in
theorem u_ZF_leap_0 (C0 : Cx p s m meth c args R b_ZF_leap "ZoneFiles" 4 (some .long) 7 121) (hno : NT l) (hemp : c.exceptionTable.isEmpty = true) (hRc : 1 ≤ R.cells) (hRs : 6 ≤ R.slots) (hXT : XT (fun _ => False) s s.heap) (hST : ST (fun _ => False) s s.heap) (hK : va_K (dC, dI) classes [(cAzfZs, .object "ZoneFiles$Zone")] s) (hP : va_P (dC, dI) classes [(h0, .inr (9, [.ref zfTp, .ref zfWr, .ref zfZs, .ref zfSp, .ref zfLt, .ref zfSt, .ref zfFd, .int zfFc, .int zfFp])), (zfZs, .inl (cAzfZs, 4, .inr (.inr (.inr (.inr zg))))), (zz, .inr (8, [.int zVer, .int zTic, .int zTyc, .int zLec, .int zStc, .int zUtc, .ref zTi, .ref zTt, .ref zOf, .ref zDs, .ref zIx, .ref zSd, .ref zUt, .ref zCh, .ref zLt, .ref zLo, .ref zRu]))] s.heap) (hz : zg p0.toNatClampNeg = some zz) (hE : True) {x2 : Int32} {x3 : Int32} (hf : g_ZF_leap_0 nf p0 zLec x2 x3 = some k) {ls : Array Slot} (hl : lv_has ls 4 [(0, .ref h0), (1, .int p0), (2, .int x2), (3, .int x3)]) : W p l e R s m args below meth c s.heap [] 0 0 (MQT below (TQ (xn k)) args s 1 6) (F0 m 0 ls []) := by
  obtain ⟨hx, hb, hr, hml, hown, hts, hlocks, hRf, hRl⟩ := id C0
  obtain ⟨tms, hZms, hTms, tmg, hZmg, hTmg, hNW⟩ := id hST
  unfold g_ZF_leap_0 at hf
  refine lv_iload_n hx hb d_ZF_leap_0 rfl (lv_at hl 1 rfl) ?_
  rcases orT_c hf with hc | hf
  · exact th_goS (As := [.int p0]) (rest := []) ⟨hx, hb, hml, hown, hts⟩ (t_ZF_checkZone l hno dC dI nf p0 hc) (va_cwS 1 hts (gdS m_3_131 m_3_132 m_1_1 m_3_133) rfl rfl rfl (by decide +kernel) ⟨Nat.le_trans (Nat.le_of_ble_eq_true rfl) hRf, Nat.le_trans (Nat.le_of_ble_eq_true rfl) hRl⟩) (ROXsta (RO.pre0 hK hST) hXT) rfl hl.1 rfl (Nat.le_of_ble_eq_true rfl) d_ZF_leap_1 ⟨hRc, hRs⟩ (fun x V ce h1 h2 h3 h4 h5 h6 => th_out hlocks hemp h1 h2 h3 h4 h5 h6)
  · obtain ⟨_u, hc, hf⟩ := ob hf
    refine cl_S (v := none) (st1 := []) (va_runS (As := [.int p0]) (rest := []) ⟨hx, hb, hml, hown, hts⟩ (c_ZF_checkZone l dC dI nf p0 hc) (va_cwS 1 hts (gdS m_3_131 m_3_132 m_1_1 m_3_133) rfl rfl rfl (by decide +kernel) ⟨Nat.le_trans (Nat.le_of_ble_eq_true rfl) hRf, Nat.le_trans (Nat.le_of_ble_eq_true rfl) hRl⟩) (RO.pre0 hK hST).sta rfl rfl hl.1 rfl (lv_room (Nat.le_of_ble_eq_true rfl)) d_ZF_leap_1 ⟨Nat.zero_le _, Nat.zero_le _⟩) rfl ?_
    refine lv_iload_n hx hb d_ZF_leap_4 rfl (lv_at hl 2 rfl) ?_
    refine lv_aload_n hx hb d_ZF_leap_5 rfl (lv_at hl 0 rfl) ?_
    refine va_get (D := (dC, dI)) (ci := 9) (v := .ref zfZs) (C := RZoneFiles) (T := TZoneFiles) (N := 9) hx hb hts in_ZoneFiles hown hK hP 0 rfl rfl 2 (by decide) (hts (.fieldLink "ZoneFiles" 23 "ZoneFiles" "zones" "[LZoneFiles$Zone;") m_2_119) (fun _ h9 => h9) rfl d_ZF_leap_6 ?_
    refine lv_iload_n hx hb d_ZF_leap_9 rfl (lv_at hl 1 rfl) ?_
    obtain ⟨c_1, hf⟩ := it_n hf
    refine zf_ald (zz := zz) hx hb hK hP 1 0 rfl rfl c_1 hz d_ZF_leap_10 ?_
    refine va_get (D := (dC, dI)) (ci := 8) (v := .int zLec) (C := RZone) (T := TZone) (N := 17) hx hb hts in_Zone hown hK hP 2 rfl rfl 3 (by decide) (hts (.fieldLink "ZoneFiles" 147 "ZoneFiles$Zone" "leapCount" "I") m_1_176) (fun _ h9 => h9) rfl d_ZF_leap_11 ?_
    rcases orT_c hf with hc | hf
    · exact th_goS (As := [.int x2, .int zLec]) (rest := []) ⟨hx, hb, hml, hown, hts⟩ (t_ZF_checkIndex l hno dC dI nf x2 zLec hc) (va_cwS 2 hts (gdS m_4_234 m_4_235 m_1_1 m_4_236) rfl rfl rfl (by decide +kernel) ⟨Nat.le_trans (Nat.le_of_ble_eq_true rfl) hRf, Nat.le_trans (Nat.le_of_ble_eq_true rfl) hRl⟩) (ROXsta (RO.pre0 hK hST) hXT) rfl hl.1 rfl (Nat.le_of_ble_eq_true rfl) d_ZF_leap_14 ⟨hRc, hRs⟩ (fun x V ce h1 h2 h3 h4 h5 h6 => th_out hlocks hemp h1 h2 h3 h4 h5 h6)
    · obtain ⟨_u, hc, hf⟩ := ob hf
      refine cl_S (v := none) (st1 := []) (va_runS (As := [.int x2, .int zLec]) (rest := []) ⟨hx, hb, hml, hown, hts⟩ (c_ZF_checkIndex l dC dI nf x2 zLec hc) (va_cwS 2 hts (gdS m_4_234 m_4_235 m_1_1 m_4_236) rfl rfl rfl (by decide +kernel) ⟨Nat.le_trans (Nat.le_of_ble_eq_true rfl) hRf, Nat.le_trans (Nat.le_of_ble_eq_true rfl) hRl⟩) (RO.pre0 hK hST).sta rfl rfl hl.1 rfl (lv_room (Nat.le_of_ble_eq_true rfl)) d_ZF_leap_14 ⟨Nat.zero_le _, Nat.zero_le _⟩) rfl ?_
      refine lv_iload_n hx hb d_ZF_leap_17 rfl (lv_at hl 3 rfl) ?_
      refine lv_iconst (v := 2) hx hb d_ZF_leap_18 (by decide) ?_
      rcases orT_c hf with hc | hf
      · exact th_goS (As := [.int x3, .int 2]) (rest := []) ⟨hx, hb, hml, hown, hts⟩ (t_ZF_checkIndex l hno dC dI nf x3 2 hc) (va_cwS 2 hts (gdS m_4_234 m_4_235 m_1_1 m_4_236) rfl rfl rfl (by decide +kernel) ⟨Nat.le_trans (Nat.le_of_ble_eq_true rfl) hRf, Nat.le_trans (Nat.le_of_ble_eq_true rfl) hRl⟩) (ROXsta (RO.pre0 hK hST) hXT) rfl hl.1 rfl (Nat.le_of_ble_eq_true rfl) d_ZF_leap_19 ⟨hRc, hRs⟩ (fun x V ce h1 h2 h3 h4 h5 h6 => th_out hlocks hemp h1 h2 h3 h4 h5 h6)
      · exact absurd hf (by simp)
end
set_option maxHeartbeats 400000 in
set_option maxRecDepth 100000 in
theorem t_ZF_leap (l : Launch) (hno : NT l) (dC : Nat → ClassId) (dI : Nat → Nat → Nat) (h0 : Nat) (zfTp : Nat) (zfWr : Nat) (zfZs : Nat) (zfSp : Nat) (zfLt : Nat) (zfSt : Nat) (zfFd : Nat) (zz : Nat) (zTi : Nat) (zTt : Nat) (zOf : Nat) (zDs : Nat) (zIx : Nat) (zSd : Nat) (zUt : Nat) (zCh : Nat) (zLt : Nat) (zLo : Nat) (zRu : Nat) (cAzfZs : ClassId) (nf : Nat) (p0 : Int32) (p1 : Int32) (p2 : Int32) (zfFc : Int32) (zfFp : Int32) (zg : Nat → Option Nat) (zVer : Int32) (zTic : Int32) (zTyc : Int32) (zLec : Int32) (zStc : Int32) (zUtc : Int32) {k : Nat} (hf : g_ZF_leap nf p0 p1 p2 zLec = some k) (hz : zg p0.toNatClampNeg = some zz) : MetT l y_ZF_leap (wd y_ZF_leap b_ZF_leap 4 (some .long)) ({ frames := 7, cells := 1, slots := 6, locals := 121 }) (ROX dC dI [(h0, .inr (9, [.ref zfTp, .ref zfWr, .ref zfZs, .ref zfSp, .ref zfLt, .ref zfSt, .ref zfFd, .int zfFc, .int zfFp])), (zfZs, .inl (cAzfZs, 4, .inr (.inr (.inr (.inr zg))))), (zz, .inr (8, [.int zVer, .int zTic, .int zTyc, .int zLec, .int zStc, .int zUtc, .ref zTi, .ref zTt, .ref zOf, .ref zDs, .ref zIx, .ref zSd, .ref zUt, .ref zCh, .ref zLt, .ref zLo, .ref zRu]))] [(cAzfZs, .object "ZoneFiles$Zone")] [.ref h0, .int p0, .int p1, .int p2]) (TQ (xn k)) 1 6 :=
  met_TX (plainFor_of_name (by decide)) (Nat.le_of_ble_eq_true rfl) (fun p e R s m args below meth c ls hRc hRs hemp C0 hST hXT hK hP hl => by
    obtain ⟨hx, hb, hr, hml, hown, hts, hlocks, hRf, hRl⟩ := id C0
    unfold g_ZF_leap at hf
    exact u_ZF_leap_0 C0 hno hemp hRc hRs hXT hST hK hP hz trivial hf (lv_sub hl [0, 1, 2, 3] rfl))
-- ZoneFiles.at(IJI)I
def g_ZF_at_0 (nf : Nat) (x1 : Int32) (x2 : Int64) (x4 : Int32) : Option (Nat) :=
  orT (g_ZF_checkZone nf x1) ((f_ZF_checkZone nf x1).bind fun _u =>
  orT (g_ZF_checkIndex nf x4 4) ((f_ZF_checkIndex nf x4 4).bind fun _u =>
  orT (g_ZF_checkInstant nf x2) (none)))
def g_ZF_at (nf : Nat) (p0 : Int32) (p1 : Int64) (p2 : Int32) : Option (Nat) :=
  g_ZF_at_0 nf p0 p1 p2
section
variable {p : Program} {l : Launch} {e : Env} {R : Room} {s : State} {m : MethodId} {args : Array Value} {below : List Frame} {meth : Method} {c : Code} {Q : State → Prop} {dC : Nat → ClassId} {dI : Nat → Nat → Nat} {nf : Nat}
variable {h0 : Nat} {k : Nat}
set_option maxHeartbeats 400000 in
set_option maxRecDepth 100000 in
theorem u_ZF_at_0 (C0 : Cx p s m meth c args R b_ZF_at "ZoneFiles" 7 (some .int) 7 121) (hno : NT l) (hemp : c.exceptionTable.isEmpty = true) (hRc : 1 ≤ R.cells) (hRs : 6 ≤ R.slots) (hXT : XT (fun _ => False) s s.heap) (hST : ST (fun _ => False) s s.heap) (hK : va_K (dC, dI) classes [] s) (hE : True) {x1 : Int32} {x2 : Int64} {x4 : Int32} (hf : g_ZF_at_0 nf x1 x2 x4 = some k) {ls : Array Slot} (hl : lv_has ls 7 [(0, .ref h0), (1, .int x1), (2, .long x2), (4, .int x4)]) : W p l e R s m args below meth c s.heap [] 0 0 (MQT below (TQ (xn k)) args s 1 6) (F0 m 0 ls []) := by
  obtain ⟨hx, hb, hr, hml, hown, hts, hlocks, hRf, hRl⟩ := id C0
  obtain ⟨tms, hZms, hTms, tmg, hZmg, hTmg, hNW⟩ := id hST
  unfold g_ZF_at_0 at hf
  refine lv_iload_n hx hb d_ZF_at_0 rfl (lv_at hl 1 rfl) ?_
  rcases orT_c hf with hc | hf
  · exact th_goS (As := [.int x1]) (rest := []) ⟨hx, hb, hml, hown, hts⟩ (t_ZF_checkZone l hno dC dI nf x1 hc) (va_cwS 1 hts (gdS m_3_131 m_3_132 m_1_1 m_3_133) rfl rfl rfl (by decide +kernel) ⟨Nat.le_trans (Nat.le_of_ble_eq_true rfl) hRf, Nat.le_trans (Nat.le_of_ble_eq_true rfl) hRl⟩) (ROXsta (RO.pre0 hK hST) hXT) rfl hl.1 rfl (Nat.le_of_ble_eq_true rfl) d_ZF_at_1 ⟨hRc, hRs⟩ (fun x V ce h1 h2 h3 h4 h5 h6 => th_out hlocks hemp h1 h2 h3 h4 h5 h6)
  · obtain ⟨_u, hc, hf⟩ := ob hf
    refine cl_S (v := none) (st1 := []) (va_runS (As := [.int x1]) (rest := []) ⟨hx, hb, hml, hown, hts⟩ (c_ZF_checkZone l dC dI nf x1 hc) (va_cwS 1 hts (gdS m_3_131 m_3_132 m_1_1 m_3_133) rfl rfl rfl (by decide +kernel) ⟨Nat.le_trans (Nat.le_of_ble_eq_true rfl) hRf, Nat.le_trans (Nat.le_of_ble_eq_true rfl) hRl⟩) (RO.pre0 hK hST).sta rfl rfl hl.1 rfl (lv_room (Nat.le_of_ble_eq_true rfl)) d_ZF_at_1 ⟨Nat.zero_le _, Nat.zero_le _⟩) rfl ?_
    refine lv_iload hx hb d_ZF_at_4 (lv_at hl 3 rfl) ?_
    refine lv_iconst (v := 4) hx hb d_ZF_at_6 (by decide) ?_
    rcases orT_c hf with hc | hf
    · exact th_goS (As := [.int x4, .int 4]) (rest := []) ⟨hx, hb, hml, hown, hts⟩ (t_ZF_checkIndex l hno dC dI nf x4 4 hc) (va_cwS 2 hts (gdS m_4_234 m_4_235 m_1_1 m_4_236) rfl rfl rfl (by decide +kernel) ⟨Nat.le_trans (Nat.le_of_ble_eq_true rfl) hRf, Nat.le_trans (Nat.le_of_ble_eq_true rfl) hRl⟩) (ROXsta (RO.pre0 hK hST) hXT) rfl hl.1 rfl (Nat.le_of_ble_eq_true rfl) d_ZF_at_7 ⟨hRc, hRs⟩ (fun x V ce h1 h2 h3 h4 h5 h6 => th_out hlocks hemp h1 h2 h3 h4 h5 h6)
    · obtain ⟨_u, hc, hf⟩ := ob hf
      refine cl_S (v := none) (st1 := []) (va_runS (As := [.int x4, .int 4]) (rest := []) ⟨hx, hb, hml, hown, hts⟩ (c_ZF_checkIndex l dC dI nf x4 4 hc) (va_cwS 2 hts (gdS m_4_234 m_4_235 m_1_1 m_4_236) rfl rfl rfl (by decide +kernel) ⟨Nat.le_trans (Nat.le_of_ble_eq_true rfl) hRf, Nat.le_trans (Nat.le_of_ble_eq_true rfl) hRl⟩) (RO.pre0 hK hST).sta rfl rfl hl.1 rfl (lv_room (Nat.le_of_ble_eq_true rfl)) d_ZF_at_7 ⟨Nat.zero_le _, Nat.zero_le _⟩) rfl ?_
      refine lv_lload_n hx hb d_ZF_at_10 rfl (lv_at hl 2 rfl) ?_
      rcases orT_c hf with hc | hf
      · exact th_goS (As := [.long x2]) (rest := []) ⟨hx, hb, hml, hown, hts⟩ (t_ZF_checkInstant l hno dC dI nf x2 hc) (va_cwS 1 hts (gdS m_5_36 m_5_37 m_1_1 m_5_38) rfl rfl rfl (by decide +kernel) ⟨Nat.le_trans (Nat.le_of_ble_eq_true rfl) hRf, Nat.le_trans (Nat.le_of_ble_eq_true rfl) hRl⟩) (ROXsta (RO.pre0 hK hST) hXT) rfl hl.1 rfl (Nat.le_of_ble_eq_true rfl) d_ZF_at_11 ⟨hRc, hRs⟩ (fun x V ce h1 h2 h3 h4 h5 h6 => th_out hlocks hemp h1 h2 h3 h4 h5 h6)
      · exact absurd hf (by simp)
end
set_option maxHeartbeats 400000 in
set_option maxRecDepth 100000 in
theorem t_ZF_at (l : Launch) (hno : NT l) (dC : Nat → ClassId) (dI : Nat → Nat → Nat) (h0 : Nat) (nf : Nat) (p0 : Int32) (p1 : Int64) (p2 : Int32) {k : Nat} (hf : g_ZF_at nf p0 p1 p2 = some k) : MetT l y_ZF_at (wd y_ZF_at b_ZF_at 7 (some .int)) ({ frames := 7, cells := 1, slots := 6, locals := 121 }) (ROX dC dI [] [] [.ref h0, .int p0, .long p1, .int p2]) (TQ (xn k)) 1 6 :=
  met_TX (plainFor_of_name (by decide)) (Nat.le_of_ble_eq_true rfl) (fun p e R s m args below meth c ls hRc hRs hemp C0 hST hXT hK hP hl => by
    obtain ⟨hx, hb, hr, hml, hown, hts, hlocks, hRf, hRl⟩ := id C0
    unfold g_ZF_at at hf
    exact u_ZF_at_0 C0 hno hemp hRc hRs hXT hST hK trivial hf (lv_sub hl [0, 1, 2, 3] rfl))
-- ZoneFiles.name(IJI)I
def g_ZF_name_41 (nf : Nat) : Option (Nat) :=
  some 3
def g_ZF_name_0 (nf : Nat) (p0 : Int32) (zTic : Int32) (zTyc : Int32) (zTiA : Nat → Int64) (zTtA : Nat → Int32) (zIxA : Nat → Int32) (chS : Int32) (chN : Nat) (chA : Nat → Int32) (ruHas : Int32) (ruSs : Int32) (ruUs : Int32) (txS : Int32) (ebKind : Int32) (ebMonth : Int32) (ebWeek : Int32) (ebDay : Int32) (ebTime : Int32) (ebClock : Int32) (eeKind : Int32) (eeMonth : Int32) (eeWeek : Int32) (eeDay : Int32) (eeTime : Int32) (eeClock : Int32) (x2 : Int64) (x4 : Int32) : Option (Nat) :=
  orT (g_ZF_checkZone nf p0) ((f_ZF_checkZone nf p0).bind fun _u =>
  orT (g_ZF_checkInstant nf x2) ((f_ZF_checkInstant nf x2).bind fun _u =>
  if p0 < 0 ∨ 4 ≤ p0.toNatClampNeg then none else
  (f_Zone_stateAt nf x2 zTic zTiA zTtA ruHas txS ebKind ebMonth ebWeek ebDay ebTime ebClock eeKind eeMonth eeWeek eeDay eeTime eeClock).bind fun r_2 =>
  if x4 < 0 then
  g_ZF_name_41 nf
  else
  if p0 < 0 ∨ 4 ≤ p0.toNatClampNeg then none else
    (f_Zone_nameSize nf r_2 zTyc zIxA chS chN chA ruSs ruUs).bind fun r_5 =>
    if x4 < r_5 then
    none
    else
    g_ZF_name_41 nf))
def g_ZF_name (nf : Nat) (p0 : Int32) (p1 : Int64) (p2 : Int32) (zTic : Int32) (zTyc : Int32) (zTiA : Nat → Int64) (zTtA : Nat → Int32) (zIxA : Nat → Int32) (chS : Int32) (chN : Nat) (chA : Nat → Int32) (ruHas : Int32) (ruSs : Int32) (ruUs : Int32) (txS : Int32) (ebKind : Int32) (ebMonth : Int32) (ebWeek : Int32) (ebDay : Int32) (ebTime : Int32) (ebClock : Int32) (eeKind : Int32) (eeMonth : Int32) (eeWeek : Int32) (eeDay : Int32) (eeTime : Int32) (eeClock : Int32) : Option (Nat) :=
  g_ZF_name_0 nf p0 zTic zTyc zTiA zTtA zIxA chS chN chA ruHas ruSs ruUs txS ebKind ebMonth ebWeek ebDay ebTime ebClock eeKind eeMonth eeWeek eeDay eeTime eeClock p1 p2
section
variable {p : Program} {l : Launch} {e : Env} {R : Room} {s : State} {m : MethodId} {args : Array Value} {below : List Frame} {meth : Method} {c : Code} {Q : State → Prop} {dC : Nat → ClassId} {dI : Nat → Nat → Nat} {nf : Nat}
variable {h0 : Nat} {zfTp : Nat} {zfWr : Nat} {zfZs : Nat} {zfSp : Nat} {zfLt : Nat} {zfSt : Nat} {zfFd : Nat} {zz : Nat} {zTi : Nat} {zTt : Nat} {zOf : Nat} {zDs : Nat} {zIx : Nat} {zSd : Nat} {zUt : Nat} {zCh : Nat} {zLt : Nat} {zLo : Nat} {zRu : Nat} {chR : Nat} {ruT : Nat} {ruB : Nat} {ruE : Nat} {txR : Nat} {cAzfZs : ClassId} {cAzTi : ClassId} {cAzTt : ClassId} {cAzIx : ClassId} {cAchR : ClassId} {p0 : Int32} {zfFc : Int32} {zfFp : Int32} {zg : Nat → Option Nat} {zVer : Int32} {zTic : Int32} {zTyc : Int32} {zLec : Int32} {zStc : Int32} {zUtc : Int32} {zTiA : Nat → Int64} {zTtA : Nat → Int32} {zIxA : Nat → Int32} {chS : Int32} {chN : Nat} {chA : Nat → Int32} {ruHas : Int32} {ruWide : Int32} {ruSo : Int32} {ruUo : Int32} {ruSp : Int32} {ruSs : Int32} {ruUp : Int32} {ruUs : Int32} {ruNev : Int32} {txS : Int32} {ebKind : Int32} {ebMonth : Int32} {ebWeek : Int32} {ebDay : Int32} {ebTime : Int32} {ebClock : Int32} {eeKind : Int32} {eeMonth : Int32} {eeWeek : Int32} {eeDay : Int32} {eeTime : Int32} {eeClock : Int32} {k : Nat}
set_option maxHeartbeats 400000 in
set_option maxRecDepth 100000 in
theorem u_ZF_name_41 (C0 : Cx p s m meth c args R b_ZF_name "ZoneFiles" 6 (some .int) 7 148) (hno : NT l) (hemp : c.exceptionTable.isEmpty = true) (hRc : 1 ≤ R.cells) (hRs : 6 ≤ R.slots) (hXT : XT (fun _ => False) s s.heap) (hST : ST (fun _ => False) s s.heap) (hK : va_K (dC, dI) classes [(cAzfZs, .object "ZoneFiles$Zone"), (cAzTi, .long), (cAzTt, .int), (cAzIx, .int), (cAchR, .byte)] s) (hP : va_P (dC, dI) classes [(h0, .inr (9, [.ref zfTp, .ref zfWr, .ref zfZs, .ref zfSp, .ref zfLt, .ref zfSt, .ref zfFd, .int zfFc, .int zfFp])), (zfZs, .inl (cAzfZs, 4, .inr (.inr (.inr (.inr zg))))), (zz, .inr (8, [.int zVer, .int zTic, .int zTyc, .int zLec, .int zStc, .int zUtc, .ref zTi, .ref zTt, .ref zOf, .ref zDs, .ref zIx, .ref zSd, .ref zUt, .ref zCh, .ref zLt, .ref zLo, .ref zRu])), (zTi, .inl (cAzTi, 200, .inr (.inl zTiA))), (zTt, .inl (cAzTt, 200, .inl zTtA)), (zIx, .inl (cAzIx, 40, .inl zIxA)), (zCh, .inr (0, [.ref chR, .int chS])), (chR, .inl (cAchR, chN, .inl chA)), (zRu, .inr (5, [.ref ruT, .ref ruB, .ref ruE, .int ruHas, .int ruWide, .int ruSo, .int ruUo, .int ruSp, .int ruSs, .int ruUp, .int ruUs, .int ruNev])), (ruT, .inr (0, [.ref txR, .int txS])), (ruB, .inr (1, [.int ebKind, .int ebMonth, .int ebWeek, .int ebDay, .int ebTime, .int ebClock])), (ruE, .inr (1, [.int eeKind, .int eeMonth, .int eeWeek, .int eeDay, .int eeTime, .int eeClock]))] s.heap) (hz : zg p0.toNatClampNeg = some zz) (hE : True) (hf : g_ZF_name_41 nf = some k) {ls : Array Slot} (hl : lv_has ls 6 []) : W p l e R s m args below meth c s.heap [] 0 0 (MQT below (TQ (xn k)) args s 1 6) (F0 m 41 ls []) := by
  obtain ⟨hx, hb, hr, hml, hown, hts, hlocks, hRf, hRl⟩ := id C0
  obtain ⟨tms, hZms, hTms, tmg, hZmg, hTmg, hNW⟩ := id hST
  unfold g_ZF_name_41 at hf
  cases rs hf
  obtain ⟨qs, hstr⟩ := hXT.2.2.2.2.2.2.2.2.2.1
  exact th_new hno C0 hemp d_ZF_name_41 d_ZF_name_44 d_ZF_name_45 d_ZF_name_47 d_ZF_name_50 (xa_3 hts hXT) (hts _ m_5_53) (hts _ m_5_54) (hts _ m_1_20) hstr (by decide) hRc hRs (by decide) (by decide) hl.1 (Nat.le_of_ble_eq_true rfl)
set_option maxHeartbeats 400000 in
set_option maxRecDepth 100000 in
theorem u_ZF_name_0 (C0 : Cx p s m meth c args R b_ZF_name "ZoneFiles" 6 (some .int) 7 148) (hno : NT l) (hemp : c.exceptionTable.isEmpty = true) (hRc : 1 ≤ R.cells) (hRs : 6 ≤ R.slots) (hXT : XT (fun _ => False) s s.heap) (hST : ST (fun _ => False) s s.heap) (hK : va_K (dC, dI) classes [(cAzfZs, .object "ZoneFiles$Zone"), (cAzTi, .long), (cAzTt, .int), (cAzIx, .int), (cAchR, .byte)] s) (hP : va_P (dC, dI) classes [(h0, .inr (9, [.ref zfTp, .ref zfWr, .ref zfZs, .ref zfSp, .ref zfLt, .ref zfSt, .ref zfFd, .int zfFc, .int zfFp])), (zfZs, .inl (cAzfZs, 4, .inr (.inr (.inr (.inr zg))))), (zz, .inr (8, [.int zVer, .int zTic, .int zTyc, .int zLec, .int zStc, .int zUtc, .ref zTi, .ref zTt, .ref zOf, .ref zDs, .ref zIx, .ref zSd, .ref zUt, .ref zCh, .ref zLt, .ref zLo, .ref zRu])), (zTi, .inl (cAzTi, 200, .inr (.inl zTiA))), (zTt, .inl (cAzTt, 200, .inl zTtA)), (zIx, .inl (cAzIx, 40, .inl zIxA)), (zCh, .inr (0, [.ref chR, .int chS])), (chR, .inl (cAchR, chN, .inl chA)), (zRu, .inr (5, [.ref ruT, .ref ruB, .ref ruE, .int ruHas, .int ruWide, .int ruSo, .int ruUo, .int ruSp, .int ruSs, .int ruUp, .int ruUs, .int ruNev])), (ruT, .inr (0, [.ref txR, .int txS])), (ruB, .inr (1, [.int ebKind, .int ebMonth, .int ebWeek, .int ebDay, .int ebTime, .int ebClock])), (ruE, .inr (1, [.int eeKind, .int eeMonth, .int eeWeek, .int eeDay, .int eeTime, .int eeClock]))] s.heap) (hz : zg p0.toNatClampNeg = some zz) (hE : True) {x2 : Int64} {x4 : Int32} (hf : g_ZF_name_0 nf p0 zTic zTyc zTiA zTtA zIxA chS chN chA ruHas ruSs ruUs txS ebKind ebMonth ebWeek ebDay ebTime ebClock eeKind eeMonth eeWeek eeDay eeTime eeClock x2 x4 = some k) {ls : Array Slot} (hl : lv_has ls 6 [(0, .ref h0), (1, .int p0), (2, .long x2), (4, .int x4)]) : W p l e R s m args below meth c s.heap [] 0 0 (MQT below (TQ (xn k)) args s 1 6) (F0 m 0 ls []) := by
  obtain ⟨hx, hb, hr, hml, hown, hts, hlocks, hRf, hRl⟩ := id C0
  obtain ⟨tms, hZms, hTms, tmg, hZmg, hTmg, hNW⟩ := id hST
  unfold g_ZF_name_0 at hf
  refine lv_iload_n hx hb d_ZF_name_0 rfl (lv_at hl 1 rfl) ?_
  rcases orT_c hf with hc | hf
  · exact th_goS (As := [.int p0]) (rest := []) ⟨hx, hb, hml, hown, hts⟩ (t_ZF_checkZone l hno dC dI nf p0 hc) (va_cwS 1 hts (gdS m_3_131 m_3_132 m_1_1 m_3_133) rfl rfl rfl (by decide +kernel) ⟨Nat.le_trans (Nat.le_of_ble_eq_true rfl) hRf, Nat.le_trans (Nat.le_of_ble_eq_true rfl) hRl⟩) (ROXsta (RO.pre0 hK hST) hXT) rfl hl.1 rfl (Nat.le_of_ble_eq_true rfl) d_ZF_name_1 ⟨hRc, hRs⟩ (fun x V ce h1 h2 h3 h4 h5 h6 => th_out hlocks hemp h1 h2 h3 h4 h5 h6)
  · obtain ⟨_u, hc, hf⟩ := ob hf
    refine cl_S (v := none) (st1 := []) (va_runS (As := [.int p0]) (rest := []) ⟨hx, hb, hml, hown, hts⟩ (c_ZF_checkZone l dC dI nf p0 hc) (va_cwS 1 hts (gdS m_3_131 m_3_132 m_1_1 m_3_133) rfl rfl rfl (by decide +kernel) ⟨Nat.le_trans (Nat.le_of_ble_eq_true rfl) hRf, Nat.le_trans (Nat.le_of_ble_eq_true rfl) hRl⟩) (RO.pre0 hK hST).sta rfl rfl hl.1 rfl (lv_room (Nat.le_of_ble_eq_true rfl)) d_ZF_name_1 ⟨Nat.zero_le _, Nat.zero_le _⟩) rfl ?_
    refine lv_lload_n hx hb d_ZF_name_4 rfl (lv_at hl 2 rfl) ?_
    rcases orT_c hf with hc | hf
    · exact th_goS (As := [.long x2]) (rest := []) ⟨hx, hb, hml, hown, hts⟩ (t_ZF_checkInstant l hno dC dI nf x2 hc) (va_cwS 1 hts (gdS m_5_36 m_5_37 m_1_1 m_5_38) rfl rfl rfl (by decide +kernel) ⟨Nat.le_trans (Nat.le_of_ble_eq_true rfl) hRf, Nat.le_trans (Nat.le_of_ble_eq_true rfl) hRl⟩) (ROXsta (RO.pre0 hK hST) hXT) rfl hl.1 rfl (Nat.le_of_ble_eq_true rfl) d_ZF_name_5 ⟨hRc, hRs⟩ (fun x V ce h1 h2 h3 h4 h5 h6 => th_out hlocks hemp h1 h2 h3 h4 h5 h6)
    · obtain ⟨_u, hc, hf⟩ := ob hf
      refine cl_S (v := none) (st1 := []) (va_runS (As := [.long x2]) (rest := []) ⟨hx, hb, hml, hown, hts⟩ (c_ZF_checkInstant l dC dI nf x2 hc) (va_cwS 1 hts (gdS m_5_36 m_5_37 m_1_1 m_5_38) rfl rfl rfl (by decide +kernel) ⟨Nat.le_trans (Nat.le_of_ble_eq_true rfl) hRf, Nat.le_trans (Nat.le_of_ble_eq_true rfl) hRl⟩) (RO.pre0 hK hST).sta rfl rfl hl.1 rfl (lv_room (Nat.le_of_ble_eq_true rfl)) d_ZF_name_5 ⟨Nat.zero_le _, Nat.zero_le _⟩) rfl ?_
      refine lv_aload_n hx hb d_ZF_name_8 rfl (lv_at hl 0 rfl) ?_
      refine va_get (D := (dC, dI)) (ci := 9) (v := .ref zfZs) (C := RZoneFiles) (T := TZoneFiles) (N := 9) hx hb hts in_ZoneFiles hown hK hP 0 rfl rfl 2 (by decide) (hts (.fieldLink "ZoneFiles" 23 "ZoneFiles" "zones" "[LZoneFiles$Zone;") m_2_119) (fun _ h9 => h9) rfl d_ZF_name_9 ?_
      refine lv_iload_n hx hb d_ZF_name_12 rfl (lv_at hl 1 rfl) ?_
      obtain ⟨c_1, hf⟩ := it_n hf
      refine zf_ald (zz := zz) hx hb hK hP 1 0 rfl rfl c_1 hz d_ZF_name_13 ?_
      refine lv_lload_n hx hb d_ZF_name_14 rfl (lv_at hl 2 rfl) ?_
      obtain ⟨r_2, hc, hf⟩ := ob hf
      refine cl_S (v := (some (.int r_2))) (st1 := [.int r_2]) (va_runV (As := [.long x2]) (rest := []) ⟨hx, hb, hml, hown, hts⟩ (c_Zone_stateAt l dC dI zz zTi zTt zOf zDs zIx zSd zUt zCh zLt zLo zRu ruT ruB ruE txR cAzTi cAzTt nf x2 zVer zTic zTyc zLec zStc zUtc zTiA zTtA ruHas ruWide ruSo ruUo ruSp ruSs ruUp ruUs ruNev txS ebKind ebMonth ebWeek ebDay ebTime ebClock eeKind eeMonth eeWeek eeDay eeTime eeClock hc) (cwV 1 hts (gdV m_5_41 m_4_142 m_4_143 m_1_3 m_4_144) rfl rfl rfl (by decide +kernel) ⟨Nat.le_trans (Nat.le_of_ble_eq_true rfl) hRf, Nat.le_trans (Nat.le_of_ble_eq_true rfl) hRl⟩) ((RO.pre (hP.sub (ws' := [(zz, .inr (8, [.int zVer, .int zTic, .int zTyc, .int zLec, .int zStc, .int zUtc, .ref zTi, .ref zTt, .ref zOf, .ref zDs, .ref zIx, .ref zSd, .ref zUt, .ref zCh, .ref zLt, .ref zLo, .ref zRu])), (zTi, .inl (cAzTi, 200, .inr (.inl zTiA))), (zTt, .inl (cAzTt, 200, .inl zTtA)), (zRu, .inr (5, [.ref ruT, .ref ruB, .ref ruE, .int ruHas, .int ruWide, .int ruSo, .int ruUo, .int ruSp, .int ruSs, .int ruUp, .int ruUs, .int ruNev])), (ruT, .inr (0, [.ref txR, .int txS])), (ruB, .inr (1, [.int ebKind, .int ebMonth, .int ebWeek, .int ebDay, .int ebTime, .int ebClock])), (ruE, .inr (1, [.int eeKind, .int eeMonth, .int eeWeek, .int eeDay, .int eeTime, .int eeClock]))]) [2, 3, 4, 8, 9, 10, 11] rfl) (hK.sub (tys' := [(cAzTi, .long), (cAzTt, .int)]) [1, 2] rfl) hST).vir (va_recv (hK.sub (tys' := [(cAzTi, .long), (cAzTt, .int)]) [1, 2] rfl) (hP.sub (ws' := [(zz, .inr (8, [.int zVer, .int zTic, .int zTyc, .int zLec, .int zStc, .int zUtc, .ref zTi, .ref zTt, .ref zOf, .ref zDs, .ref zIx, .ref zSd, .ref zUt, .ref zCh, .ref zLt, .ref zLo, .ref zRu])), (zTi, .inl (cAzTi, 200, .inr (.inl zTiA))), (zTt, .inl (cAzTt, 200, .inl zTtA)), (zRu, .inr (5, [.ref ruT, .ref ruB, .ref ruE, .int ruHas, .int ruWide, .int ruSo, .int ruUo, .int ruSp, .int ruSs, .int ruUp, .int ruUs, .int ruNev])), (ruT, .inr (0, [.ref txR, .int txS])), (ruB, .inr (1, [.int ebKind, .int ebMonth, .int ebWeek, .int ebDay, .int ebTime, .int ebClock])), (ruE, .inr (1, [.int eeKind, .int eeMonth, .int eeWeek, .int eeDay, .int eeTime, .int eeClock]))]) [2, 3, 4, 8, 9, 10, 11] rfl) (ci := 8) (q0 := 0) rfl rfl)) rfl rfl hl.1 rfl (lv_room (Nat.le_of_ble_eq_true rfl)) d_ZF_name_15 ⟨Nat.zero_le _, Nat.zero_le _⟩) rfl ?_
      refine lv_istore (lv' := [(5, .int r_2), (0, .ref h0), (1, .int p0), (2, .long x2), (4, .int x4)]) hx hb d_ZF_name_18 hl (by decide) rfl (fun ls hl => ?_)
      refine lv_iload hx hb d_ZF_name_20 (lv_at hl 4 rfl) ?_
      refine lv_if_lt (tgt := 41) hx hb d_ZF_name_22 (by decide) (fun c_3 => ?_) (fun c_3 => ?_)
      · have hf := it_t c_3 hf
        exact u_ZF_name_41 C0 hno hemp hRc hRs hXT hST hK hP hz hE hf (lv_sub hl [] rfl)
      · have hf := it_f c_3 hf
        refine lv_iload hx hb d_ZF_name_25 (lv_at hl 4 rfl) ?_
        refine lv_aload_n hx hb d_ZF_name_27 rfl (lv_at hl 1 rfl) ?_
        refine va_get (D := (dC, dI)) (ci := 9) (v := .ref zfZs) (C := RZoneFiles) (T := TZoneFiles) (N := 9) hx hb hts in_ZoneFiles hown hK hP 0 rfl rfl 2 (by decide) (hts (.fieldLink "ZoneFiles" 23 "ZoneFiles" "zones" "[LZoneFiles$Zone;") m_2_119) (fun _ h9 => h9) rfl d_ZF_name_28 ?_
        refine lv_iload_n hx hb d_ZF_name_31 rfl (lv_at hl 2 rfl) ?_
        obtain ⟨c_4, hf⟩ := it_n hf
        refine zf_ald (zz := zz) hx hb hK hP 1 0 rfl rfl c_4 hz d_ZF_name_32 ?_
        refine lv_iload hx hb d_ZF_name_33 (lv_at hl 0 rfl) ?_
        obtain ⟨r_5, hc, hf⟩ := ob hf
        refine cl_S (v := (some (.int r_5))) (st1 := [.int r_5, .int x4]) (va_runV (As := [.int r_2]) (rest := [.int x4]) ⟨hx, hb, hml, hown, hts⟩ (c_Zone_nameSize l dC dI zz zTi zTt zOf zDs zIx zSd zUt zCh zLt zLo zRu chR ruT ruB ruE cAzIx cAchR nf r_2 zVer zTic zTyc zLec zStc zUtc zIxA chS chN chA ruHas ruWide ruSo ruUo ruSp ruSs ruUp ruUs ruNev hc) (cwV 1 hts (gdV m_5_12 m_2_67 m_2_68 m_1_3 m_2_69) rfl rfl rfl (by decide +kernel) ⟨Nat.le_trans (Nat.le_of_ble_eq_true rfl) hRf, Nat.le_trans (Nat.le_of_ble_eq_true rfl) hRl⟩) ((RO.pre (hP.sub (ws' := [(zz, .inr (8, [.int zVer, .int zTic, .int zTyc, .int zLec, .int zStc, .int zUtc, .ref zTi, .ref zTt, .ref zOf, .ref zDs, .ref zIx, .ref zSd, .ref zUt, .ref zCh, .ref zLt, .ref zLo, .ref zRu])), (zIx, .inl (cAzIx, 40, .inl zIxA)), (zCh, .inr (0, [.ref chR, .int chS])), (chR, .inl (cAchR, chN, .inl chA)), (zRu, .inr (5, [.ref ruT, .ref ruB, .ref ruE, .int ruHas, .int ruWide, .int ruSo, .int ruUo, .int ruSp, .int ruSs, .int ruUp, .int ruUs, .int ruNev]))]) [2, 5, 6, 7, 8] rfl) (hK.sub (tys' := [(cAzIx, .int), (cAchR, .byte)]) [3, 4] rfl) hST).vir (va_recv (hK.sub (tys' := [(cAzIx, .int), (cAchR, .byte)]) [3, 4] rfl) (hP.sub (ws' := [(zz, .inr (8, [.int zVer, .int zTic, .int zTyc, .int zLec, .int zStc, .int zUtc, .ref zTi, .ref zTt, .ref zOf, .ref zDs, .ref zIx, .ref zSd, .ref zUt, .ref zCh, .ref zLt, .ref zLo, .ref zRu])), (zIx, .inl (cAzIx, 40, .inl zIxA)), (zCh, .inr (0, [.ref chR, .int chS])), (chR, .inl (cAchR, chN, .inl chA)), (zRu, .inr (5, [.ref ruT, .ref ruB, .ref ruE, .int ruHas, .int ruWide, .int ruSo, .int ruUo, .int ruSp, .int ruSs, .int ruUp, .int ruUs, .int ruNev]))]) [2, 5, 6, 7, 8] rfl) (ci := 8) (q0 := 0) rfl rfl)) rfl rfl hl.1 rfl (lv_room (Nat.le_of_ble_eq_true rfl)) d_ZF_name_35 ⟨Nat.zero_le _, Nat.zero_le _⟩) rfl ?_
        refine lv_icmp_lt (tgt := 51) hx hb d_ZF_name_38 (by decide) (fun c_6 => ?_) (fun c_6 => ?_)
        · have hf := it_t c_6 hf
          exact absurd hf (by simp)
        · have hf := it_f c_6 hf
          exact u_ZF_name_41 C0 hno hemp hRc hRs hXT hST hK hP hz hE hf (lv_sub hl [] rfl)
end
set_option maxHeartbeats 400000 in
set_option maxRecDepth 100000 in
theorem t_ZF_name (l : Launch) (hno : NT l) (dC : Nat → ClassId) (dI : Nat → Nat → Nat) (h0 : Nat) (zfTp : Nat) (zfWr : Nat) (zfZs : Nat) (zfSp : Nat) (zfLt : Nat) (zfSt : Nat) (zfFd : Nat) (zz : Nat) (zTi : Nat) (zTt : Nat) (zOf : Nat) (zDs : Nat) (zIx : Nat) (zSd : Nat) (zUt : Nat) (zCh : Nat) (zLt : Nat) (zLo : Nat) (zRu : Nat) (chR : Nat) (ruT : Nat) (ruB : Nat) (ruE : Nat) (txR : Nat) (cAzfZs : ClassId) (cAzTi : ClassId) (cAzTt : ClassId) (cAzIx : ClassId) (cAchR : ClassId) (nf : Nat) (p0 : Int32) (p1 : Int64) (p2 : Int32) (zfFc : Int32) (zfFp : Int32) (zg : Nat → Option Nat) (zVer : Int32) (zTic : Int32) (zTyc : Int32) (zLec : Int32) (zStc : Int32) (zUtc : Int32) (zTiA : Nat → Int64) (zTtA : Nat → Int32) (zIxA : Nat → Int32) (chS : Int32) (chN : Nat) (chA : Nat → Int32) (ruHas : Int32) (ruWide : Int32) (ruSo : Int32) (ruUo : Int32) (ruSp : Int32) (ruSs : Int32) (ruUp : Int32) (ruUs : Int32) (ruNev : Int32) (txS : Int32) (ebKind : Int32) (ebMonth : Int32) (ebWeek : Int32) (ebDay : Int32) (ebTime : Int32) (ebClock : Int32) (eeKind : Int32) (eeMonth : Int32) (eeWeek : Int32) (eeDay : Int32) (eeTime : Int32) (eeClock : Int32) {k : Nat} (hf : g_ZF_name nf p0 p1 p2 zTic zTyc zTiA zTtA zIxA chS chN chA ruHas ruSs ruUs txS ebKind ebMonth ebWeek ebDay ebTime ebClock eeKind eeMonth eeWeek eeDay eeTime eeClock = some k) (hz : zg p0.toNatClampNeg = some zz) : MetT l y_ZF_name (wd y_ZF_name b_ZF_name 6 (some .int)) ({ frames := 7, cells := 1, slots := 6, locals := 148 }) (ROX dC dI [(h0, .inr (9, [.ref zfTp, .ref zfWr, .ref zfZs, .ref zfSp, .ref zfLt, .ref zfSt, .ref zfFd, .int zfFc, .int zfFp])), (zfZs, .inl (cAzfZs, 4, .inr (.inr (.inr (.inr zg))))), (zz, .inr (8, [.int zVer, .int zTic, .int zTyc, .int zLec, .int zStc, .int zUtc, .ref zTi, .ref zTt, .ref zOf, .ref zDs, .ref zIx, .ref zSd, .ref zUt, .ref zCh, .ref zLt, .ref zLo, .ref zRu])), (zTi, .inl (cAzTi, 200, .inr (.inl zTiA))), (zTt, .inl (cAzTt, 200, .inl zTtA)), (zIx, .inl (cAzIx, 40, .inl zIxA)), (zCh, .inr (0, [.ref chR, .int chS])), (chR, .inl (cAchR, chN, .inl chA)), (zRu, .inr (5, [.ref ruT, .ref ruB, .ref ruE, .int ruHas, .int ruWide, .int ruSo, .int ruUo, .int ruSp, .int ruSs, .int ruUp, .int ruUs, .int ruNev])), (ruT, .inr (0, [.ref txR, .int txS])), (ruB, .inr (1, [.int ebKind, .int ebMonth, .int ebWeek, .int ebDay, .int ebTime, .int ebClock])), (ruE, .inr (1, [.int eeKind, .int eeMonth, .int eeWeek, .int eeDay, .int eeTime, .int eeClock]))] [(cAzfZs, .object "ZoneFiles$Zone"), (cAzTi, .long), (cAzTt, .int), (cAzIx, .int), (cAchR, .byte)] [.ref h0, .int p0, .long p1, .int p2]) (TQ (xn k)) 1 6 :=
  met_TX (plainFor_of_name (by decide)) (Nat.le_of_ble_eq_true rfl) (fun p e R s m args below meth c ls hRc hRs hemp C0 hST hXT hK hP hl => by
    obtain ⟨hx, hb, hr, hml, hown, hts, hlocks, hRf, hRl⟩ := id C0
    unfold g_ZF_name at hf
    exact u_ZF_name_0 C0 hno hemp hRc hRs hXT hST hK hP hz trivial hf (lv_sub hl [0, 1, 2, 3] rfl))
-- ZoneFiles.find(IJ)I
def g_ZF_find_0 (nf : Nat) (x1 : Int32) (x2 : Int64) : Option (Nat) :=
  orT (g_ZF_checkZone nf x1) ((f_ZF_checkZone nf x1).bind fun _u =>
  orT (g_ZF_checkInstant nf x2) (none))
def g_ZF_find (nf : Nat) (p0 : Int32) (p1 : Int64) : Option (Nat) :=
  g_ZF_find_0 nf p0 p1
section
variable {p : Program} {l : Launch} {e : Env} {R : Room} {s : State} {m : MethodId} {args : Array Value} {below : List Frame} {meth : Method} {c : Code} {Q : State → Prop} {dC : Nat → ClassId} {dI : Nat → Nat → Nat} {nf : Nat}
variable {h0 : Nat} {k : Nat}
set_option maxHeartbeats 400000 in
set_option maxRecDepth 100000 in
theorem u_ZF_find_0 (C0 : Cx p s m meth c args R b_ZF_find "ZoneFiles" 9 (some .int) 7 121) (hno : NT l) (hemp : c.exceptionTable.isEmpty = true) (hRc : 1 ≤ R.cells) (hRs : 6 ≤ R.slots) (hXT : XT (fun _ => False) s s.heap) (hST : ST (fun _ => False) s s.heap) (hK : va_K (dC, dI) classes [] s) (hE : True) {x1 : Int32} {x2 : Int64} (hf : g_ZF_find_0 nf x1 x2 = some k) {ls : Array Slot} (hl : lv_has ls 9 [(0, .ref h0), (1, .int x1), (2, .long x2)]) : W p l e R s m args below meth c s.heap [] 0 0 (MQT below (TQ (xn k)) args s 1 6) (F0 m 0 ls []) := by
  obtain ⟨hx, hb, hr, hml, hown, hts, hlocks, hRf, hRl⟩ := id C0
  obtain ⟨tms, hZms, hTms, tmg, hZmg, hTmg, hNW⟩ := id hST
  unfold g_ZF_find_0 at hf
  refine lv_iload_n hx hb d_ZF_find_0 rfl (lv_at hl 1 rfl) ?_
  rcases orT_c hf with hc | hf
  · exact th_goS (As := [.int x1]) (rest := []) ⟨hx, hb, hml, hown, hts⟩ (t_ZF_checkZone l hno dC dI nf x1 hc) (va_cwS 1 hts (gdS m_3_131 m_3_132 m_1_1 m_3_133) rfl rfl rfl (by decide +kernel) ⟨Nat.le_trans (Nat.le_of_ble_eq_true rfl) hRf, Nat.le_trans (Nat.le_of_ble_eq_true rfl) hRl⟩) (ROXsta (RO.pre0 hK hST) hXT) rfl hl.1 rfl (Nat.le_of_ble_eq_true rfl) d_ZF_find_1 ⟨hRc, hRs⟩ (fun x V ce h1 h2 h3 h4 h5 h6 => th_out hlocks hemp h1 h2 h3 h4 h5 h6)
  · obtain ⟨_u, hc, hf⟩ := ob hf
    refine cl_S (v := none) (st1 := []) (va_runS (As := [.int x1]) (rest := []) ⟨hx, hb, hml, hown, hts⟩ (c_ZF_checkZone l dC dI nf x1 hc) (va_cwS 1 hts (gdS m_3_131 m_3_132 m_1_1 m_3_133) rfl rfl rfl (by decide +kernel) ⟨Nat.le_trans (Nat.le_of_ble_eq_true rfl) hRf, Nat.le_trans (Nat.le_of_ble_eq_true rfl) hRl⟩) (RO.pre0 hK hST).sta rfl rfl hl.1 rfl (lv_room (Nat.le_of_ble_eq_true rfl)) d_ZF_find_1 ⟨Nat.zero_le _, Nat.zero_le _⟩) rfl ?_
    refine lv_lload_n hx hb d_ZF_find_4 rfl (lv_at hl 2 rfl) ?_
    rcases orT_c hf with hc | hf
    · exact th_goS (As := [.long x2]) (rest := []) ⟨hx, hb, hml, hown, hts⟩ (t_ZF_checkInstant l hno dC dI nf x2 hc) (va_cwS 1 hts (gdS m_5_36 m_5_37 m_1_1 m_5_38) rfl rfl rfl (by decide +kernel) ⟨Nat.le_trans (Nat.le_of_ble_eq_true rfl) hRf, Nat.le_trans (Nat.le_of_ble_eq_true rfl) hRl⟩) (ROXsta (RO.pre0 hK hST) hXT) rfl hl.1 rfl (Nat.le_of_ble_eq_true rfl) d_ZF_find_5 ⟨hRc, hRs⟩ (fun x V ce h1 h2 h3 h4 h5 h6 => th_out hlocks hemp h1 h2 h3 h4 h5 h6)
    · exact absurd hf (by simp)
end
set_option maxHeartbeats 400000 in
set_option maxRecDepth 100000 in
theorem t_ZF_find (l : Launch) (hno : NT l) (dC : Nat → ClassId) (dI : Nat → Nat → Nat) (h0 : Nat) (nf : Nat) (p0 : Int32) (p1 : Int64) {k : Nat} (hf : g_ZF_find nf p0 p1 = some k) : MetT l y_ZF_find (wd y_ZF_find b_ZF_find 9 (some .int)) ({ frames := 7, cells := 1, slots := 6, locals := 121 }) (ROX dC dI [] [] [.ref h0, .int p0, .long p1]) (TQ (xn k)) 1 6 :=
  met_TX (plainFor_of_name (by decide)) (Nat.le_of_ble_eq_true rfl) (fun p e R s m args below meth c ls hRc hRs hemp C0 hST hXT hK hP hl => by
    obtain ⟨hx, hb, hr, hml, hown, hts, hlocks, hRf, hRl⟩ := id C0
    unfold g_ZF_find at hf
    exact u_ZF_find_0 C0 hno hemp hRc hRs hXT hST hK trivial hf (lv_sub hl [0, 1, 2] rfl))
-- ZoneFiles.next(IJ)J
def g_ZF_next_0 (nf : Nat) (x1 : Int32) (x2 : Int64) : Option (Nat) :=
  orT (g_ZF_checkZone nf x1) ((f_ZF_checkZone nf x1).bind fun _u =>
  orT (g_ZF_checkInstant nf x2) (none))
def g_ZF_next (nf : Nat) (p0 : Int32) (p1 : Int64) : Option (Nat) :=
  g_ZF_next_0 nf p0 p1
section
variable {p : Program} {l : Launch} {e : Env} {R : Room} {s : State} {m : MethodId} {args : Array Value} {below : List Frame} {meth : Method} {c : Code} {Q : State → Prop} {dC : Nat → ClassId} {dI : Nat → Nat → Nat} {nf : Nat}
variable {h0 : Nat} {k : Nat}
set_option maxHeartbeats 400000 in
set_option maxRecDepth 100000 in
theorem u_ZF_next_0 (C0 : Cx p s m meth c args R b_ZF_next "ZoneFiles" 4 (some .long) 7 121) (hno : NT l) (hemp : c.exceptionTable.isEmpty = true) (hRc : 1 ≤ R.cells) (hRs : 6 ≤ R.slots) (hXT : XT (fun _ => False) s s.heap) (hST : ST (fun _ => False) s s.heap) (hK : va_K (dC, dI) classes [] s) (hE : True) {x1 : Int32} {x2 : Int64} (hf : g_ZF_next_0 nf x1 x2 = some k) {ls : Array Slot} (hl : lv_has ls 4 [(0, .ref h0), (1, .int x1), (2, .long x2)]) : W p l e R s m args below meth c s.heap [] 0 0 (MQT below (TQ (xn k)) args s 1 6) (F0 m 0 ls []) := by
  obtain ⟨hx, hb, hr, hml, hown, hts, hlocks, hRf, hRl⟩ := id C0
  obtain ⟨tms, hZms, hTms, tmg, hZmg, hTmg, hNW⟩ := id hST
  unfold g_ZF_next_0 at hf
  refine lv_iload_n hx hb d_ZF_next_0 rfl (lv_at hl 1 rfl) ?_
  rcases orT_c hf with hc | hf
  · exact th_goS (As := [.int x1]) (rest := []) ⟨hx, hb, hml, hown, hts⟩ (t_ZF_checkZone l hno dC dI nf x1 hc) (va_cwS 1 hts (gdS m_3_131 m_3_132 m_1_1 m_3_133) rfl rfl rfl (by decide +kernel) ⟨Nat.le_trans (Nat.le_of_ble_eq_true rfl) hRf, Nat.le_trans (Nat.le_of_ble_eq_true rfl) hRl⟩) (ROXsta (RO.pre0 hK hST) hXT) rfl hl.1 rfl (Nat.le_of_ble_eq_true rfl) d_ZF_next_1 ⟨hRc, hRs⟩ (fun x V ce h1 h2 h3 h4 h5 h6 => th_out hlocks hemp h1 h2 h3 h4 h5 h6)
  · obtain ⟨_u, hc, hf⟩ := ob hf
    refine cl_S (v := none) (st1 := []) (va_runS (As := [.int x1]) (rest := []) ⟨hx, hb, hml, hown, hts⟩ (c_ZF_checkZone l dC dI nf x1 hc) (va_cwS 1 hts (gdS m_3_131 m_3_132 m_1_1 m_3_133) rfl rfl rfl (by decide +kernel) ⟨Nat.le_trans (Nat.le_of_ble_eq_true rfl) hRf, Nat.le_trans (Nat.le_of_ble_eq_true rfl) hRl⟩) (RO.pre0 hK hST).sta rfl rfl hl.1 rfl (lv_room (Nat.le_of_ble_eq_true rfl)) d_ZF_next_1 ⟨Nat.zero_le _, Nat.zero_le _⟩) rfl ?_
    refine lv_lload_n hx hb d_ZF_next_4 rfl (lv_at hl 2 rfl) ?_
    rcases orT_c hf with hc | hf
    · exact th_goS (As := [.long x2]) (rest := []) ⟨hx, hb, hml, hown, hts⟩ (t_ZF_checkInstant l hno dC dI nf x2 hc) (va_cwS 1 hts (gdS m_5_36 m_5_37 m_1_1 m_5_38) rfl rfl rfl (by decide +kernel) ⟨Nat.le_trans (Nat.le_of_ble_eq_true rfl) hRf, Nat.le_trans (Nat.le_of_ble_eq_true rfl) hRl⟩) (ROXsta (RO.pre0 hK hST) hXT) rfl hl.1 rfl (Nat.le_of_ble_eq_true rfl) d_ZF_next_5 ⟨hRc, hRs⟩ (fun x V ce h1 h2 h3 h4 h5 h6 => th_out hlocks hemp h1 h2 h3 h4 h5 h6)
    · exact absurd hf (by simp)
end
set_option maxHeartbeats 400000 in
set_option maxRecDepth 100000 in
theorem t_ZF_next (l : Launch) (hno : NT l) (dC : Nat → ClassId) (dI : Nat → Nat → Nat) (h0 : Nat) (nf : Nat) (p0 : Int32) (p1 : Int64) {k : Nat} (hf : g_ZF_next nf p0 p1 = some k) : MetT l y_ZF_next (wd y_ZF_next b_ZF_next 4 (some .long)) ({ frames := 7, cells := 1, slots := 6, locals := 121 }) (ROX dC dI [] [] [.ref h0, .int p0, .long p1]) (TQ (xn k)) 1 6 :=
  met_TX (plainFor_of_name (by decide)) (Nat.le_of_ble_eq_true rfl) (fun p e R s m args below meth c ls hRc hRs hemp C0 hST hXT hK hP hl => by
    obtain ⟨hx, hb, hr, hml, hown, hts, hlocks, hRf, hRl⟩ := id C0
    unfold g_ZF_next at hf
    exact u_ZF_next_0 C0 hno hemp hRc hRs hXT hST hK trivial hf (lv_sub hl [0, 1, 2] rfl))
-- ZoneFiles.last(IJ)J
def g_ZF_last_0 (nf : Nat) (x1 : Int32) (x2 : Int64) : Option (Nat) :=
  orT (g_ZF_checkZone nf x1) ((f_ZF_checkZone nf x1).bind fun _u =>
  orT (g_ZF_checkInstant nf x2) (none))
def g_ZF_last (nf : Nat) (p0 : Int32) (p1 : Int64) : Option (Nat) :=
  g_ZF_last_0 nf p0 p1
section
variable {p : Program} {l : Launch} {e : Env} {R : Room} {s : State} {m : MethodId} {args : Array Value} {below : List Frame} {meth : Method} {c : Code} {Q : State → Prop} {dC : Nat → ClassId} {dI : Nat → Nat → Nat} {nf : Nat}
variable {h0 : Nat} {k : Nat}
set_option maxHeartbeats 400000 in
set_option maxRecDepth 100000 in
theorem u_ZF_last_0 (C0 : Cx p s m meth c args R b_ZF_last "ZoneFiles" 4 (some .long) 7 121) (hno : NT l) (hemp : c.exceptionTable.isEmpty = true) (hRc : 1 ≤ R.cells) (hRs : 6 ≤ R.slots) (hXT : XT (fun _ => False) s s.heap) (hST : ST (fun _ => False) s s.heap) (hK : va_K (dC, dI) classes [] s) (hE : True) {x1 : Int32} {x2 : Int64} (hf : g_ZF_last_0 nf x1 x2 = some k) {ls : Array Slot} (hl : lv_has ls 4 [(0, .ref h0), (1, .int x1), (2, .long x2)]) : W p l e R s m args below meth c s.heap [] 0 0 (MQT below (TQ (xn k)) args s 1 6) (F0 m 0 ls []) := by
  obtain ⟨hx, hb, hr, hml, hown, hts, hlocks, hRf, hRl⟩ := id C0
  obtain ⟨tms, hZms, hTms, tmg, hZmg, hTmg, hNW⟩ := id hST
  unfold g_ZF_last_0 at hf
  refine lv_iload_n hx hb d_ZF_last_0 rfl (lv_at hl 1 rfl) ?_
  rcases orT_c hf with hc | hf
  · exact th_goS (As := [.int x1]) (rest := []) ⟨hx, hb, hml, hown, hts⟩ (t_ZF_checkZone l hno dC dI nf x1 hc) (va_cwS 1 hts (gdS m_3_131 m_3_132 m_1_1 m_3_133) rfl rfl rfl (by decide +kernel) ⟨Nat.le_trans (Nat.le_of_ble_eq_true rfl) hRf, Nat.le_trans (Nat.le_of_ble_eq_true rfl) hRl⟩) (ROXsta (RO.pre0 hK hST) hXT) rfl hl.1 rfl (Nat.le_of_ble_eq_true rfl) d_ZF_last_1 ⟨hRc, hRs⟩ (fun x V ce h1 h2 h3 h4 h5 h6 => th_out hlocks hemp h1 h2 h3 h4 h5 h6)
  · obtain ⟨_u, hc, hf⟩ := ob hf
    refine cl_S (v := none) (st1 := []) (va_runS (As := [.int x1]) (rest := []) ⟨hx, hb, hml, hown, hts⟩ (c_ZF_checkZone l dC dI nf x1 hc) (va_cwS 1 hts (gdS m_3_131 m_3_132 m_1_1 m_3_133) rfl rfl rfl (by decide +kernel) ⟨Nat.le_trans (Nat.le_of_ble_eq_true rfl) hRf, Nat.le_trans (Nat.le_of_ble_eq_true rfl) hRl⟩) (RO.pre0 hK hST).sta rfl rfl hl.1 rfl (lv_room (Nat.le_of_ble_eq_true rfl)) d_ZF_last_1 ⟨Nat.zero_le _, Nat.zero_le _⟩) rfl ?_
    refine lv_lload_n hx hb d_ZF_last_4 rfl (lv_at hl 2 rfl) ?_
    rcases orT_c hf with hc | hf
    · exact th_goS (As := [.long x2]) (rest := []) ⟨hx, hb, hml, hown, hts⟩ (t_ZF_checkInstant l hno dC dI nf x2 hc) (va_cwS 1 hts (gdS m_5_36 m_5_37 m_1_1 m_5_38) rfl rfl rfl (by decide +kernel) ⟨Nat.le_trans (Nat.le_of_ble_eq_true rfl) hRf, Nat.le_trans (Nat.le_of_ble_eq_true rfl) hRl⟩) (ROXsta (RO.pre0 hK hST) hXT) rfl hl.1 rfl (Nat.le_of_ble_eq_true rfl) d_ZF_last_5 ⟨hRc, hRs⟩ (fun x V ce h1 h2 h3 h4 h5 h6 => th_out hlocks hemp h1 h2 h3 h4 h5 h6)
    · exact absurd hf (by simp)
end
set_option maxHeartbeats 400000 in
set_option maxRecDepth 100000 in
theorem t_ZF_last (l : Launch) (hno : NT l) (dC : Nat → ClassId) (dI : Nat → Nat → Nat) (h0 : Nat) (nf : Nat) (p0 : Int32) (p1 : Int64) {k : Nat} (hf : g_ZF_last nf p0 p1 = some k) : MetT l y_ZF_last (wd y_ZF_last b_ZF_last 4 (some .long)) ({ frames := 7, cells := 1, slots := 6, locals := 121 }) (ROX dC dI [] [] [.ref h0, .int p0, .long p1]) (TQ (xn k)) 1 6 :=
  met_TX (plainFor_of_name (by decide)) (Nat.le_of_ble_eq_true rfl) (fun p e R s m args below meth c ls hRc hRs hemp C0 hST hXT hK hP hl => by
    obtain ⟨hx, hb, hr, hml, hown, hts, hlocks, hRf, hRl⟩ := id C0
    unfold g_ZF_last at hf
    exact u_ZF_last_0 C0 hno hemp hRc hRs hXT hST hK trivial hf (lv_sub hl [0, 1, 2] rfl))
-- ZoneFiles.stretch(II)I
def g_ZF_stretch_18 (nf : Nat) : Option (Nat) :=
  some 2
def g_ZF_stretch_0 (nf : Nat) (p0 : Int32) (ruHas : Int32) (x2 : Int32) : Option (Nat) :=
  orT (g_ZF_checkZone nf p0) ((f_ZF_checkZone nf p0).bind fun _u =>
  if x2 < (1970 : Int32) then
  g_ZF_stretch_18 nf
  else
  if x2 ≤ (2400 : Int32) then
    if p0 < 0 ∨ 4 ≤ p0.toNatClampNeg then none else
      if ruHas = 0 then
      some 3
      else
      none
    else
    g_ZF_stretch_18 nf)
def g_ZF_stretch (nf : Nat) (p0 : Int32) (p1 : Int32) (ruHas : Int32) : Option (Nat) :=
  g_ZF_stretch_0 nf p0 ruHas p1
section
variable {p : Program} {l : Launch} {e : Env} {R : Room} {s : State} {m : MethodId} {args : Array Value} {below : List Frame} {meth : Method} {c : Code} {Q : State → Prop} {dC : Nat → ClassId} {dI : Nat → Nat → Nat} {nf : Nat}
variable {h0 : Nat} {zfTp : Nat} {zfWr : Nat} {zfZs : Nat} {zfSp : Nat} {zfLt : Nat} {zfSt : Nat} {zfFd : Nat} {zz : Nat} {zTi : Nat} {zTt : Nat} {zOf : Nat} {zDs : Nat} {zIx : Nat} {zSd : Nat} {zUt : Nat} {zCh : Nat} {zLt : Nat} {zLo : Nat} {zRu : Nat} {ruT : Nat} {ruB : Nat} {ruE : Nat} {cAzfZs : ClassId} {p0 : Int32} {zfFc : Int32} {zfFp : Int32} {zg : Nat → Option Nat} {zVer : Int32} {zTic : Int32} {zTyc : Int32} {zLec : Int32} {zStc : Int32} {zUtc : Int32} {ruHas : Int32} {ruWide : Int32} {ruSo : Int32} {ruUo : Int32} {ruSp : Int32} {ruSs : Int32} {ruUp : Int32} {ruUs : Int32} {ruNev : Int32} {k : Nat}
set_option maxHeartbeats 400000 in
set_option maxRecDepth 100000 in
theorem u_ZF_stretch_18 (C0 : Cx p s m meth c args R b_ZF_stretch "ZoneFiles" 3 (some .int) 7 120) (hno : NT l) (hemp : c.exceptionTable.isEmpty = true) (hRc : 1 ≤ R.cells) (hRs : 6 ≤ R.slots) (hXT : XT (fun _ => False) s s.heap) (hST : ST (fun _ => False) s s.heap) (hK : va_K (dC, dI) classes [(cAzfZs, .object "ZoneFiles$Zone")] s) (hP : va_P (dC, dI) classes [(h0, .inr (9, [.ref zfTp, .ref zfWr, .ref zfZs, .ref zfSp, .ref zfLt, .ref zfSt, .ref zfFd, .int zfFc, .int zfFp])), (zfZs, .inl (cAzfZs, 4, .inr (.inr (.inr (.inr zg))))), (zz, .inr (8, [.int zVer, .int zTic, .int zTyc, .int zLec, .int zStc, .int zUtc, .ref zTi, .ref zTt, .ref zOf, .ref zDs, .ref zIx, .ref zSd, .ref zUt, .ref zCh, .ref zLt, .ref zLo, .ref zRu])), (zRu, .inr (5, [.ref ruT, .ref ruB, .ref ruE, .int ruHas, .int ruWide, .int ruSo, .int ruUo, .int ruSp, .int ruSs, .int ruUp, .int ruUs, .int ruNev]))] s.heap) (hz : zg p0.toNatClampNeg = some zz) (hE : True) (hf : g_ZF_stretch_18 nf = some k) {ls : Array Slot} (hl : lv_has ls 3 []) : W p l e R s m args below meth c s.heap [] 0 0 (MQT below (TQ (xn k)) args s 1 6) (F0 m 18 ls []) := by
  obtain ⟨hx, hb, hr, hml, hown, hts, hlocks, hRf, hRl⟩ := id C0
  obtain ⟨tms, hZms, hTms, tmg, hZmg, hTmg, hNW⟩ := id hST
  unfold g_ZF_stretch_18 at hf
  cases rs hf
  obtain ⟨qs, hstr⟩ := hXT.2.2.2.2.2.2.2.2.2.2.2.2.2.2.1
  exact th_newW hno C0 hemp d_ZF_stretch_18 d_ZF_stretch_21 d_ZF_stretch_22 d_ZF_stretch_25 d_ZF_stretch_28 (xa_2 hts hXT) (hts _ m_3_54) (hts _ m_3_55) (hts _ m_1_14) hstr (by decide) hRc hRs (by decide) (by decide) hl.1 (Nat.le_of_ble_eq_true rfl)
set_option maxHeartbeats 400000 in
set_option maxRecDepth 100000 in
theorem u_ZF_stretch_0 (C0 : Cx p s m meth c args R b_ZF_stretch "ZoneFiles" 3 (some .int) 7 120) (hno : NT l) (hemp : c.exceptionTable.isEmpty = true) (hRc : 1 ≤ R.cells) (hRs : 6 ≤ R.slots) (hXT : XT (fun _ => False) s s.heap) (hST : ST (fun _ => False) s s.heap) (hK : va_K (dC, dI) classes [(cAzfZs, .object "ZoneFiles$Zone")] s) (hP : va_P (dC, dI) classes [(h0, .inr (9, [.ref zfTp, .ref zfWr, .ref zfZs, .ref zfSp, .ref zfLt, .ref zfSt, .ref zfFd, .int zfFc, .int zfFp])), (zfZs, .inl (cAzfZs, 4, .inr (.inr (.inr (.inr zg))))), (zz, .inr (8, [.int zVer, .int zTic, .int zTyc, .int zLec, .int zStc, .int zUtc, .ref zTi, .ref zTt, .ref zOf, .ref zDs, .ref zIx, .ref zSd, .ref zUt, .ref zCh, .ref zLt, .ref zLo, .ref zRu])), (zRu, .inr (5, [.ref ruT, .ref ruB, .ref ruE, .int ruHas, .int ruWide, .int ruSo, .int ruUo, .int ruSp, .int ruSs, .int ruUp, .int ruUs, .int ruNev]))] s.heap) (hz : zg p0.toNatClampNeg = some zz) (hE : True) {x2 : Int32} (hf : g_ZF_stretch_0 nf p0 ruHas x2 = some k) {ls : Array Slot} (hl : lv_has ls 3 [(0, .ref h0), (1, .int p0), (2, .int x2)]) : W p l e R s m args below meth c s.heap [] 0 0 (MQT below (TQ (xn k)) args s 1 6) (F0 m 0 ls []) := by
  obtain ⟨hx, hb, hr, hml, hown, hts, hlocks, hRf, hRl⟩ := id C0
  obtain ⟨tms, hZms, hTms, tmg, hZmg, hTmg, hNW⟩ := id hST
  unfold g_ZF_stretch_0 at hf
  refine lv_iload_n hx hb d_ZF_stretch_0 rfl (lv_at hl 1 rfl) ?_
  rcases orT_c hf with hc | hf
  · exact th_goS (As := [.int p0]) (rest := []) ⟨hx, hb, hml, hown, hts⟩ (t_ZF_checkZone l hno dC dI nf p0 hc) (va_cwS 1 hts (gdS m_3_131 m_3_132 m_1_1 m_3_133) rfl rfl rfl (by decide +kernel) ⟨Nat.le_trans (Nat.le_of_ble_eq_true rfl) hRf, Nat.le_trans (Nat.le_of_ble_eq_true rfl) hRl⟩) (ROXsta (RO.pre0 hK hST) hXT) rfl hl.1 rfl (Nat.le_of_ble_eq_true rfl) d_ZF_stretch_1 ⟨hRc, hRs⟩ (fun x V ce h1 h2 h3 h4 h5 h6 => th_out hlocks hemp h1 h2 h3 h4 h5 h6)
  · obtain ⟨_u, hc, hf⟩ := ob hf
    refine cl_S (v := none) (st1 := []) (va_runS (As := [.int p0]) (rest := []) ⟨hx, hb, hml, hown, hts⟩ (c_ZF_checkZone l dC dI nf p0 hc) (va_cwS 1 hts (gdS m_3_131 m_3_132 m_1_1 m_3_133) rfl rfl rfl (by decide +kernel) ⟨Nat.le_trans (Nat.le_of_ble_eq_true rfl) hRf, Nat.le_trans (Nat.le_of_ble_eq_true rfl) hRl⟩) (RO.pre0 hK hST).sta rfl rfl hl.1 rfl (lv_room (Nat.le_of_ble_eq_true rfl)) d_ZF_stretch_1 ⟨Nat.zero_le _, Nat.zero_le _⟩) rfl ?_
    refine lv_iload_n hx hb d_ZF_stretch_4 rfl (lv_at hl 2 rfl) ?_
    refine lv_sipush (v := 1970) hx hb d_ZF_stretch_5 (by decide) ?_
    refine lv_icmp_lt (tgt := 18) hx hb d_ZF_stretch_8 (by decide) (fun c_1 => ?_) (fun c_1 => ?_)
    · have hf := it_t c_1 hf
      exact u_ZF_stretch_18 C0 hno hemp hRc hRs hXT hST hK hP hz hE hf (lv_sub hl [] rfl)
    · have hf := it_f c_1 hf
      refine lv_iload_n hx hb d_ZF_stretch_11 rfl (lv_at hl 2 rfl) ?_
      refine lv_sipush (v := 2400) hx hb d_ZF_stretch_12 (by decide) ?_
      refine lv_icmp_le (tgt := 29) hx hb d_ZF_stretch_15 (by decide) (fun c_2 => ?_) (fun c_2 => ?_)
      · have hf := it_t c_2 hf
        refine lv_aload_n hx hb d_ZF_stretch_29 rfl (lv_at hl 0 rfl) ?_
        refine va_get (D := (dC, dI)) (ci := 9) (v := .ref zfZs) (C := RZoneFiles) (T := TZoneFiles) (N := 9) hx hb hts in_ZoneFiles hown hK hP 0 rfl rfl 2 (by decide) (hts (.fieldLink "ZoneFiles" 23 "ZoneFiles" "zones" "[LZoneFiles$Zone;") m_2_119) (fun _ h9 => h9) rfl d_ZF_stretch_30 ?_
        refine lv_iload_n hx hb d_ZF_stretch_33 rfl (lv_at hl 1 rfl) ?_
        obtain ⟨c_3, hf⟩ := it_n hf
        refine zf_ald (zz := zz) hx hb hK hP 1 0 rfl rfl c_3 hz d_ZF_stretch_34 ?_
        refine va_get (D := (dC, dI)) (ci := 8) (v := .ref zRu) (C := RZone) (T := TZone) (N := 17) hx hb hts in_Zone hown hK hP 2 rfl rfl 16 (by decide) (hts (.fieldLink "ZoneFiles" 108 "ZoneFiles$Zone" "rule" "LZoneFiles$Rule;") m_1_229) (fun _ h9 => h9) rfl d_ZF_stretch_35 ?_
        refine va_get (D := (dC, dI)) (ci := 5) (v := .int ruHas) (C := RRule) (T := TRule) (N := 12) hx hb hts in_Rule hown hK hP 3 rfl rfl 3 (by decide) (hts (.fieldLink "ZoneFiles" 287 "ZoneFiles$Rule" "hasSummer" "Z") m_1_115) (fun _ h9 => h9) rfl d_ZF_stretch_38 ?_
        refine lv_if_ne (tgt := 55) hx hb d_ZF_stretch_41 (by decide) (fun c_4 => ?_) (fun c_4 => ?_)
        · have hf := it_f c_4 hf
          exact absurd hf (by simp)
        · have hf := it_t c_4 hf
          cases rs hf
          obtain ⟨qs, hstr⟩ := hXT.2.2.2.2.2.2.2.2.2.2.2.2.2.2.2.1
          exact th_newW hno C0 hemp d_ZF_stretch_44 d_ZF_stretch_47 d_ZF_stretch_48 d_ZF_stretch_51 d_ZF_stretch_54 (xa_3 hts hXT) (hts _ m_5_53) (hts _ m_5_54) (hts _ m_1_20) hstr (by decide) hRc hRs (by decide) (by decide) hl.1 (Nat.le_of_ble_eq_true rfl)
      · have hf := it_f c_2 hf
        exact u_ZF_stretch_18 C0 hno hemp hRc hRs hXT hST hK hP hz hE hf (lv_sub hl [] rfl)
end
set_option maxHeartbeats 400000 in
set_option maxRecDepth 100000 in
theorem t_ZF_stretch (l : Launch) (hno : NT l) (dC : Nat → ClassId) (dI : Nat → Nat → Nat) (h0 : Nat) (zfTp : Nat) (zfWr : Nat) (zfZs : Nat) (zfSp : Nat) (zfLt : Nat) (zfSt : Nat) (zfFd : Nat) (zz : Nat) (zTi : Nat) (zTt : Nat) (zOf : Nat) (zDs : Nat) (zIx : Nat) (zSd : Nat) (zUt : Nat) (zCh : Nat) (zLt : Nat) (zLo : Nat) (zRu : Nat) (ruT : Nat) (ruB : Nat) (ruE : Nat) (cAzfZs : ClassId) (nf : Nat) (p0 : Int32) (p1 : Int32) (zfFc : Int32) (zfFp : Int32) (zg : Nat → Option Nat) (zVer : Int32) (zTic : Int32) (zTyc : Int32) (zLec : Int32) (zStc : Int32) (zUtc : Int32) (ruHas : Int32) (ruWide : Int32) (ruSo : Int32) (ruUo : Int32) (ruSp : Int32) (ruSs : Int32) (ruUp : Int32) (ruUs : Int32) (ruNev : Int32) {k : Nat} (hf : g_ZF_stretch nf p0 p1 ruHas = some k) (hz : zg p0.toNatClampNeg = some zz) : MetT l y_ZF_stretch (wd y_ZF_stretch b_ZF_stretch 3 (some .int)) ({ frames := 7, cells := 1, slots := 6, locals := 120 }) (ROX dC dI [(h0, .inr (9, [.ref zfTp, .ref zfWr, .ref zfZs, .ref zfSp, .ref zfLt, .ref zfSt, .ref zfFd, .int zfFc, .int zfFp])), (zfZs, .inl (cAzfZs, 4, .inr (.inr (.inr (.inr zg))))), (zz, .inr (8, [.int zVer, .int zTic, .int zTyc, .int zLec, .int zStc, .int zUtc, .ref zTi, .ref zTt, .ref zOf, .ref zDs, .ref zIx, .ref zSd, .ref zUt, .ref zCh, .ref zLt, .ref zLo, .ref zRu])), (zRu, .inr (5, [.ref ruT, .ref ruB, .ref ruE, .int ruHas, .int ruWide, .int ruSo, .int ruUo, .int ruSp, .int ruSs, .int ruUp, .int ruUs, .int ruNev]))] [(cAzfZs, .object "ZoneFiles$Zone")] [.ref h0, .int p0, .int p1]) (TQ (xn k)) 1 6 :=
  met_TX (plainFor_of_name (by decide)) (Nat.le_of_ble_eq_true rfl) (fun p e R s m args below meth c ls hRc hRs hemp C0 hST hXT hK hP hl => by
    obtain ⟨hx, hb, hr, hml, hown, hts, hlocks, hRf, hRl⟩ := id C0
    unfold g_ZF_stretch at hf
    exact u_ZF_stretch_0 C0 hno hemp hRc hRs hXT hST hK hP hz trivial hf (lv_sub hl [0, 1, 2] rfl))
-- ZoneFiles.write(II)I
def g_ZF_write_60 (nf : Nat) (ruWide : Int32) (x2 : Int32) : Option (Nat) :=
  if x2 = (50 : Int32) then
  if ruWide = 0 then
    none
    else
    some 3
  else
  none
def g_ZF_write_31 (nf : Nat) (p0 : Int32) (zTic : Int32) (zLec : Int32) (zTiA : Nat → Int64) (zLtA : Nat → Int64) (ruWide : Int32) (x2 : Int32) : Option (Nat) :=
  if p0 < 0 ∨ 4 ≤ p0.toNatClampNeg then none else
  if x2 = 0 then
  (f_Zone_fitsFourBytes nf zTic zLec zTiA zLtA).bind fun r_6 =>
    if r_6 = 0 then
    some 3
    else
    g_ZF_write_60 nf ruWide x2
  else
  g_ZF_write_60 nf ruWide x2
def g_ZF_write_0 (nf : Nat) (p0 : Int32) (zTic : Int32) (zLec : Int32) (zTiA : Nat → Int64) (zLtA : Nat → Int64) (ruWide : Int32) (x2 : Int32) : Option (Nat) :=
  orT (g_ZF_checkZone nf p0) ((f_ZF_checkZone nf p0).bind fun _u =>
  if x2 = 0 then
  g_ZF_write_31 nf p0 zTic zLec zTiA zLtA ruWide x2
  else
  if x2 = (50 : Int32) then
    g_ZF_write_31 nf p0 zTic zLec zTiA zLtA ruWide x2
    else
    if x2 = (51 : Int32) then
      g_ZF_write_31 nf p0 zTic zLec zTiA zLtA ruWide x2
      else
      some 2)
def g_ZF_write (nf : Nat) (p0 : Int32) (p1 : Int32) (zTic : Int32) (zLec : Int32) (zTiA : Nat → Int64) (zLtA : Nat → Int64) (ruWide : Int32) : Option (Nat) :=
  g_ZF_write_0 nf p0 zTic zLec zTiA zLtA ruWide p1
section
variable {p : Program} {l : Launch} {e : Env} {R : Room} {s : State} {m : MethodId} {args : Array Value} {below : List Frame} {meth : Method} {c : Code} {Q : State → Prop} {dC : Nat → ClassId} {dI : Nat → Nat → Nat} {nf : Nat}
variable {h0 : Nat} {zfTp : Nat} {zfWr : Nat} {zfZs : Nat} {zfSp : Nat} {zfLt : Nat} {zfSt : Nat} {zfFd : Nat} {zz : Nat} {zTi : Nat} {zTt : Nat} {zOf : Nat} {zDs : Nat} {zIx : Nat} {zSd : Nat} {zUt : Nat} {zCh : Nat} {zLt : Nat} {zLo : Nat} {zRu : Nat} {ruT : Nat} {ruB : Nat} {ruE : Nat} {cAzfZs : ClassId} {cAzTi : ClassId} {cAzLt : ClassId} {p0 : Int32} {zfFc : Int32} {zfFp : Int32} {zg : Nat → Option Nat} {zVer : Int32} {zTic : Int32} {zTyc : Int32} {zLec : Int32} {zStc : Int32} {zUtc : Int32} {zTiA : Nat → Int64} {zLtA : Nat → Int64} {ruHas : Int32} {ruWide : Int32} {ruSo : Int32} {ruUo : Int32} {ruSp : Int32} {ruSs : Int32} {ruUp : Int32} {ruUs : Int32} {ruNev : Int32} {k : Nat}
set_option maxHeartbeats 400000 in
set_option maxRecDepth 100000 in
theorem u_ZF_write_60 (C0 : Cx p s m meth c args R b_ZF_write "ZoneFiles" 4 (some .int) 7 120) (hno : NT l) (hemp : c.exceptionTable.isEmpty = true) (hRc : 1 ≤ R.cells) (hRs : 6 ≤ R.slots) (hXT : XT (fun _ => False) s s.heap) (hST : ST (fun _ => False) s s.heap) (hK : va_K (dC, dI) classes [(cAzfZs, .object "ZoneFiles$Zone"), (cAzTi, .long), (cAzLt, .long)] s) (hP : va_P (dC, dI) classes [(h0, .inr (9, [.ref zfTp, .ref zfWr, .ref zfZs, .ref zfSp, .ref zfLt, .ref zfSt, .ref zfFd, .int zfFc, .int zfFp])), (zfZs, .inl (cAzfZs, 4, .inr (.inr (.inr (.inr zg))))), (zz, .inr (8, [.int zVer, .int zTic, .int zTyc, .int zLec, .int zStc, .int zUtc, .ref zTi, .ref zTt, .ref zOf, .ref zDs, .ref zIx, .ref zSd, .ref zUt, .ref zCh, .ref zLt, .ref zLo, .ref zRu])), (zTi, .inl (cAzTi, 200, .inr (.inl zTiA))), (zLt, .inl (cAzLt, 40, .inr (.inl zLtA))), (zRu, .inr (5, [.ref ruT, .ref ruB, .ref ruE, .int ruHas, .int ruWide, .int ruSo, .int ruUo, .int ruSp, .int ruSs, .int ruUp, .int ruUs, .int ruNev]))] s.heap) (hz : zg p0.toNatClampNeg = some zz) (hE : True) {x2 : Int32} (hf : g_ZF_write_60 nf ruWide x2 = some k) {ls : Array Slot} (hl : lv_has ls 4 [(3, .ref zz), (0, .ref h0), (2, .int x2)]) : W p l e R s m args below meth c s.heap [] 0 0 (MQT below (TQ (xn k)) args s 1 6) (F0 m 60 ls []) := by
  obtain ⟨hx, hb, hr, hml, hown, hts, hlocks, hRf, hRl⟩ := id C0
  obtain ⟨tms, hZms, hTms, tmg, hZmg, hTmg, hNW⟩ := id hST
  unfold g_ZF_write_60 at hf
  refine lv_iload_n hx hb d_ZF_write_60 rfl (lv_at hl 2 rfl) ?_
  refine lv_bipush (v := 50) hx hb d_ZF_write_61 (by decide) ?_
  refine lv_icmp_ne (tgt := 87) hx hb d_ZF_write_63 (by decide) (fun c_4 => ?_) (fun c_4 => ?_)
  · have hf := it_f c_4 hf
    exact absurd hf (by simp)
  · have hf := it_t c_4 hf
    refine lv_aload_n hx hb d_ZF_write_66 rfl (lv_at hl 0 rfl) ?_
    refine va_get (D := (dC, dI)) (ci := 8) (v := .ref zRu) (C := RZone) (T := TZone) (N := 17) hx hb hts in_Zone hown hK hP 2 rfl rfl 16 (by decide) (hts (.fieldLink "ZoneFiles" 108 "ZoneFiles$Zone" "rule" "LZoneFiles$Rule;") m_1_229) (fun _ h9 => h9) rfl d_ZF_write_67 ?_
    refine va_get (D := (dC, dI)) (ci := 5) (v := .int ruWide) (C := RRule) (T := TRule) (N := 12) hx hb hts in_Rule hown hK hP 5 rfl rfl 4 (by decide) (hts (.fieldLink "ZoneFiles" 303 "ZoneFiles$Rule" "needsWide" "Z") m_1_118) (fun _ h9 => h9) rfl d_ZF_write_70 ?_
    refine lv_if_eq (tgt := 87) hx hb d_ZF_write_73 (by decide) (fun c_5 => ?_) (fun c_5 => ?_)
    · have hf := it_t c_5 hf
      exact absurd hf (by simp)
    · have hf := it_f c_5 hf
      cases rs hf
      obtain ⟨qs, hstr⟩ := hXT.2.2.2.2.2.2.2.2.2.2.2.2.2.2.2.2.2.2.1
      exact th_newW hno C0 hemp d_ZF_write_76 d_ZF_write_79 d_ZF_write_80 d_ZF_write_83 d_ZF_write_86 (xa_3 hts hXT) (hts _ m_5_53) (hts _ m_5_54) (hts _ m_1_20) hstr (by decide) hRc hRs (by decide) (by decide) hl.1 (Nat.le_of_ble_eq_true rfl)
set_option maxHeartbeats 400000 in
set_option maxRecDepth 100000 in
theorem u_ZF_write_31 (C0 : Cx p s m meth c args R b_ZF_write "ZoneFiles" 4 (some .int) 7 120) (hno : NT l) (hemp : c.exceptionTable.isEmpty = true) (hRc : 1 ≤ R.cells) (hRs : 6 ≤ R.slots) (hXT : XT (fun _ => False) s s.heap) (hST : ST (fun _ => False) s s.heap) (hK : va_K (dC, dI) classes [(cAzfZs, .object "ZoneFiles$Zone"), (cAzTi, .long), (cAzLt, .long)] s) (hP : va_P (dC, dI) classes [(h0, .inr (9, [.ref zfTp, .ref zfWr, .ref zfZs, .ref zfSp, .ref zfLt, .ref zfSt, .ref zfFd, .int zfFc, .int zfFp])), (zfZs, .inl (cAzfZs, 4, .inr (.inr (.inr (.inr zg))))), (zz, .inr (8, [.int zVer, .int zTic, .int zTyc, .int zLec, .int zStc, .int zUtc, .ref zTi, .ref zTt, .ref zOf, .ref zDs, .ref zIx, .ref zSd, .ref zUt, .ref zCh, .ref zLt, .ref zLo, .ref zRu])), (zTi, .inl (cAzTi, 200, .inr (.inl zTiA))), (zLt, .inl (cAzLt, 40, .inr (.inl zLtA))), (zRu, .inr (5, [.ref ruT, .ref ruB, .ref ruE, .int ruHas, .int ruWide, .int ruSo, .int ruUo, .int ruSp, .int ruSs, .int ruUp, .int ruUs, .int ruNev]))] s.heap) (hz : zg p0.toNatClampNeg = some zz) (hE : True) {x2 : Int32} (hf : g_ZF_write_31 nf p0 zTic zLec zTiA zLtA ruWide x2 = some k) {ls : Array Slot} (hl : lv_has ls 4 [(0, .ref h0), (1, .int p0), (2, .int x2)]) : W p l e R s m args below meth c s.heap [] 0 0 (MQT below (TQ (xn k)) args s 1 6) (F0 m 31 ls []) := by
  obtain ⟨hx, hb, hr, hml, hown, hts, hlocks, hRf, hRl⟩ := id C0
  obtain ⟨tms, hZms, hTms, tmg, hZmg, hTmg, hNW⟩ := id hST
  unfold g_ZF_write_31 at hf
  refine lv_aload_n hx hb d_ZF_write_31 rfl (lv_at hl 0 rfl) ?_
  refine va_get (D := (dC, dI)) (ci := 9) (v := .ref zfZs) (C := RZoneFiles) (T := TZoneFiles) (N := 9) hx hb hts in_ZoneFiles hown hK hP 0 rfl rfl 2 (by decide) (hts (.fieldLink "ZoneFiles" 23 "ZoneFiles" "zones" "[LZoneFiles$Zone;") m_2_119) (fun _ h9 => h9) rfl d_ZF_write_32 ?_
  refine lv_iload_n hx hb d_ZF_write_35 rfl (lv_at hl 1 rfl) ?_
  obtain ⟨c_2, hf⟩ := it_n hf
  refine zf_ald (zz := zz) hx hb hK hP 1 0 rfl rfl c_2 hz d_ZF_write_36 ?_
  refine lv_astore_n (lv' := [(3, .ref zz), (0, .ref h0), (1, .int p0), (2, .int x2)]) hx hb d_ZF_write_37 rfl hl (by decide) rfl (fun ls hl => ?_)
  refine lv_iload_n hx hb d_ZF_write_38 rfl (lv_at hl 3 rfl) ?_
  refine lv_if_ne (tgt := 60) hx hb d_ZF_write_39 (by decide) (fun c_3 => ?_) (fun c_3 => ?_)
  · have hf := it_f c_3 hf
    exact u_ZF_write_60 C0 hno hemp hRc hRs hXT hST hK hP hz hE hf (lv_sub hl [0, 1, 3] rfl)
  · have hf := it_t c_3 hf
    refine lv_aload_n hx hb d_ZF_write_42 rfl (lv_at hl 0 rfl) ?_
    obtain ⟨r_6, hc, hf⟩ := ob hf
    refine cl_S (v := (some (.int r_6))) (st1 := [.int r_6]) (va_runV (As := []) (rest := []) ⟨hx, hb, hml, hown, hts⟩ (c_Zone_fitsFourBytes l dC dI zz zTi zTt zOf zDs zIx zSd zUt zCh zLt zLo zRu cAzTi cAzLt nf zVer zTic zTyc zLec zStc zUtc zTiA zLtA hc) (cwV 0 hts (gdV m_6_14 m_6_15 m_6_16 m_1_3 m_6_17) rfl rfl rfl (by decide +kernel) ⟨Nat.le_trans (Nat.le_of_ble_eq_true rfl) hRf, Nat.le_trans (Nat.le_of_ble_eq_true rfl) hRl⟩) ((RO.pre (hP.sub (ws' := [(zz, .inr (8, [.int zVer, .int zTic, .int zTyc, .int zLec, .int zStc, .int zUtc, .ref zTi, .ref zTt, .ref zOf, .ref zDs, .ref zIx, .ref zSd, .ref zUt, .ref zCh, .ref zLt, .ref zLo, .ref zRu])), (zTi, .inl (cAzTi, 200, .inr (.inl zTiA))), (zLt, .inl (cAzLt, 40, .inr (.inl zLtA)))]) [2, 3, 4] rfl) (hK.sub (tys' := [(cAzTi, .long), (cAzLt, .long)]) [1, 2] rfl) hST).vir (va_recv (hK.sub (tys' := [(cAzTi, .long), (cAzLt, .long)]) [1, 2] rfl) (hP.sub (ws' := [(zz, .inr (8, [.int zVer, .int zTic, .int zTyc, .int zLec, .int zStc, .int zUtc, .ref zTi, .ref zTt, .ref zOf, .ref zDs, .ref zIx, .ref zSd, .ref zUt, .ref zCh, .ref zLt, .ref zLo, .ref zRu])), (zTi, .inl (cAzTi, 200, .inr (.inl zTiA))), (zLt, .inl (cAzLt, 40, .inr (.inl zLtA)))]) [2, 3, 4] rfl) (ci := 8) (q0 := 0) rfl rfl)) rfl rfl hl.1 rfl (lv_room (Nat.le_of_ble_eq_true rfl)) d_ZF_write_43 ⟨Nat.zero_le _, Nat.zero_le _⟩) rfl ?_
    refine lv_if_ne (tgt := 60) hx hb d_ZF_write_46 (by decide) (fun c_7 => ?_) (fun c_7 => ?_)
    · have hf := it_f c_7 hf
      exact u_ZF_write_60 C0 hno hemp hRc hRs hXT hST hK hP hz hE hf (lv_sub hl [0, 1, 3] rfl)
    · have hf := it_t c_7 hf
      cases rs hf
      obtain ⟨qs, hstr⟩ := hXT.2.2.2.2.2.2.2.2.2.2.2.2.2.2.2.2.2.1
      exact th_newW hno C0 hemp d_ZF_write_49 d_ZF_write_52 d_ZF_write_53 d_ZF_write_56 d_ZF_write_59 (xa_3 hts hXT) (hts _ m_5_53) (hts _ m_5_54) (hts _ m_1_20) hstr (by decide) hRc hRs (by decide) (by decide) hl.1 (Nat.le_of_ble_eq_true rfl)
set_option maxHeartbeats 400000 in
set_option maxRecDepth 100000 in
theorem u_ZF_write_0 (C0 : Cx p s m meth c args R b_ZF_write "ZoneFiles" 4 (some .int) 7 120) (hno : NT l) (hemp : c.exceptionTable.isEmpty = true) (hRc : 1 ≤ R.cells) (hRs : 6 ≤ R.slots) (hXT : XT (fun _ => False) s s.heap) (hST : ST (fun _ => False) s s.heap) (hK : va_K (dC, dI) classes [(cAzfZs, .object "ZoneFiles$Zone"), (cAzTi, .long), (cAzLt, .long)] s) (hP : va_P (dC, dI) classes [(h0, .inr (9, [.ref zfTp, .ref zfWr, .ref zfZs, .ref zfSp, .ref zfLt, .ref zfSt, .ref zfFd, .int zfFc, .int zfFp])), (zfZs, .inl (cAzfZs, 4, .inr (.inr (.inr (.inr zg))))), (zz, .inr (8, [.int zVer, .int zTic, .int zTyc, .int zLec, .int zStc, .int zUtc, .ref zTi, .ref zTt, .ref zOf, .ref zDs, .ref zIx, .ref zSd, .ref zUt, .ref zCh, .ref zLt, .ref zLo, .ref zRu])), (zTi, .inl (cAzTi, 200, .inr (.inl zTiA))), (zLt, .inl (cAzLt, 40, .inr (.inl zLtA))), (zRu, .inr (5, [.ref ruT, .ref ruB, .ref ruE, .int ruHas, .int ruWide, .int ruSo, .int ruUo, .int ruSp, .int ruSs, .int ruUp, .int ruUs, .int ruNev]))] s.heap) (hz : zg p0.toNatClampNeg = some zz) (hE : True) {x2 : Int32} (hf : g_ZF_write_0 nf p0 zTic zLec zTiA zLtA ruWide x2 = some k) {ls : Array Slot} (hl : lv_has ls 4 [(0, .ref h0), (1, .int p0), (2, .int x2)]) : W p l e R s m args below meth c s.heap [] 0 0 (MQT below (TQ (xn k)) args s 1 6) (F0 m 0 ls []) := by
  obtain ⟨hx, hb, hr, hml, hown, hts, hlocks, hRf, hRl⟩ := id C0
  obtain ⟨tms, hZms, hTms, tmg, hZmg, hTmg, hNW⟩ := id hST
  unfold g_ZF_write_0 at hf
  refine lv_iload_n hx hb d_ZF_write_0 rfl (lv_at hl 1 rfl) ?_
  rcases orT_c hf with hc | hf
  · exact th_goS (As := [.int p0]) (rest := []) ⟨hx, hb, hml, hown, hts⟩ (t_ZF_checkZone l hno dC dI nf p0 hc) (va_cwS 1 hts (gdS m_3_131 m_3_132 m_1_1 m_3_133) rfl rfl rfl (by decide +kernel) ⟨Nat.le_trans (Nat.le_of_ble_eq_true rfl) hRf, Nat.le_trans (Nat.le_of_ble_eq_true rfl) hRl⟩) (ROXsta (RO.pre0 hK hST) hXT) rfl hl.1 rfl (Nat.le_of_ble_eq_true rfl) d_ZF_write_1 ⟨hRc, hRs⟩ (fun x V ce h1 h2 h3 h4 h5 h6 => th_out hlocks hemp h1 h2 h3 h4 h5 h6)
  · obtain ⟨_u, hc, hf⟩ := ob hf
    refine cl_S (v := none) (st1 := []) (va_runS (As := [.int p0]) (rest := []) ⟨hx, hb, hml, hown, hts⟩ (c_ZF_checkZone l dC dI nf p0 hc) (va_cwS 1 hts (gdS m_3_131 m_3_132 m_1_1 m_3_133) rfl rfl rfl (by decide +kernel) ⟨Nat.le_trans (Nat.le_of_ble_eq_true rfl) hRf, Nat.le_trans (Nat.le_of_ble_eq_true rfl) hRl⟩) (RO.pre0 hK hST).sta rfl rfl hl.1 rfl (lv_room (Nat.le_of_ble_eq_true rfl)) d_ZF_write_1 ⟨Nat.zero_le _, Nat.zero_le _⟩) rfl ?_
    refine lv_iload_n hx hb d_ZF_write_4 rfl (lv_at hl 2 rfl) ?_
    refine lv_if_eq (tgt := 31) hx hb d_ZF_write_5 (by decide) (fun c_1 => ?_) (fun c_1 => ?_)
    · have hf := it_t c_1 hf
      exact u_ZF_write_31 C0 hno hemp hRc hRs hXT hST hK hP hz hE hf (lv_sub hl [0, 1, 2] rfl)
    · have hf := it_f c_1 hf
      refine lv_iload_n hx hb d_ZF_write_8 rfl (lv_at hl 2 rfl) ?_
      refine lv_bipush (v := 50) hx hb d_ZF_write_9 (by decide) ?_
      refine lv_icmp_eq (tgt := 31) hx hb d_ZF_write_11 (by decide) (fun c_8 => ?_) (fun c_8 => ?_)
      · have hf := it_t c_8 hf
        exact u_ZF_write_31 C0 hno hemp hRc hRs hXT hST hK hP hz hE hf (lv_sub hl [0, 1, 2] rfl)
      · have hf := it_f c_8 hf
        refine lv_iload_n hx hb d_ZF_write_14 rfl (lv_at hl 2 rfl) ?_
        refine lv_bipush (v := 51) hx hb d_ZF_write_15 (by decide) ?_
        refine lv_icmp_eq (tgt := 31) hx hb d_ZF_write_17 (by decide) (fun c_9 => ?_) (fun c_9 => ?_)
        · have hf := it_t c_9 hf
          exact u_ZF_write_31 C0 hno hemp hRc hRs hXT hST hK hP hz hE hf (lv_sub hl [0, 1, 2] rfl)
        · have hf := it_f c_9 hf
          cases rs hf
          obtain ⟨qs, hstr⟩ := hXT.2.2.2.2.2.2.2.2.2.2.2.2.2.2.2.2.1
          exact th_newW hno C0 hemp d_ZF_write_20 d_ZF_write_23 d_ZF_write_24 d_ZF_write_27 d_ZF_write_30 (xa_2 hts hXT) (hts _ m_3_54) (hts _ m_3_55) (hts _ m_1_14) hstr (by decide) hRc hRs (by decide) (by decide) hl.1 (Nat.le_of_ble_eq_true rfl)
end
set_option maxHeartbeats 400000 in
set_option maxRecDepth 100000 in
theorem t_ZF_write (l : Launch) (hno : NT l) (dC : Nat → ClassId) (dI : Nat → Nat → Nat) (h0 : Nat) (zfTp : Nat) (zfWr : Nat) (zfZs : Nat) (zfSp : Nat) (zfLt : Nat) (zfSt : Nat) (zfFd : Nat) (zz : Nat) (zTi : Nat) (zTt : Nat) (zOf : Nat) (zDs : Nat) (zIx : Nat) (zSd : Nat) (zUt : Nat) (zCh : Nat) (zLt : Nat) (zLo : Nat) (zRu : Nat) (ruT : Nat) (ruB : Nat) (ruE : Nat) (cAzfZs : ClassId) (cAzTi : ClassId) (cAzLt : ClassId) (nf : Nat) (p0 : Int32) (p1 : Int32) (zfFc : Int32) (zfFp : Int32) (zg : Nat → Option Nat) (zVer : Int32) (zTic : Int32) (zTyc : Int32) (zLec : Int32) (zStc : Int32) (zUtc : Int32) (zTiA : Nat → Int64) (zLtA : Nat → Int64) (ruHas : Int32) (ruWide : Int32) (ruSo : Int32) (ruUo : Int32) (ruSp : Int32) (ruSs : Int32) (ruUp : Int32) (ruUs : Int32) (ruNev : Int32) {k : Nat} (hf : g_ZF_write nf p0 p1 zTic zLec zTiA zLtA ruWide = some k) (hz : zg p0.toNatClampNeg = some zz) : MetT l y_ZF_write (wd y_ZF_write b_ZF_write 4 (some .int)) ({ frames := 7, cells := 1, slots := 6, locals := 120 }) (ROX dC dI [(h0, .inr (9, [.ref zfTp, .ref zfWr, .ref zfZs, .ref zfSp, .ref zfLt, .ref zfSt, .ref zfFd, .int zfFc, .int zfFp])), (zfZs, .inl (cAzfZs, 4, .inr (.inr (.inr (.inr zg))))), (zz, .inr (8, [.int zVer, .int zTic, .int zTyc, .int zLec, .int zStc, .int zUtc, .ref zTi, .ref zTt, .ref zOf, .ref zDs, .ref zIx, .ref zSd, .ref zUt, .ref zCh, .ref zLt, .ref zLo, .ref zRu])), (zTi, .inl (cAzTi, 200, .inr (.inl zTiA))), (zLt, .inl (cAzLt, 40, .inr (.inl zLtA))), (zRu, .inr (5, [.ref ruT, .ref ruB, .ref ruE, .int ruHas, .int ruWide, .int ruSo, .int ruUo, .int ruSp, .int ruSs, .int ruUp, .int ruUs, .int ruNev]))] [(cAzfZs, .object "ZoneFiles$Zone"), (cAzTi, .long), (cAzLt, .long)] [.ref h0, .int p0, .int p1]) (TQ (xn k)) 1 6 :=
  met_TX (plainFor_of_name (by decide)) (Nat.le_of_ble_eq_true rfl) (fun p e R s m args below meth c ls hRc hRs hemp C0 hST hXT hK hP hl => by
    obtain ⟨hx, hb, hr, hml, hown, hts, hlocks, hRf, hRl⟩ := id C0
    unfold g_ZF_write at hf
    exact u_ZF_write_0 C0 hno hemp hRc hRs hXT hST hK hP hz trivial hf (lv_sub hl [0, 1, 2] rfl))
