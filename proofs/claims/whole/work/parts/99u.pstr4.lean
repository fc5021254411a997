/-! ===== stretch: addTime ===== -/
theorem RZX.congr {z : ZS} {sa sa' : Nat → Nat → Int32} {sb sb' : Nat → Nat → Int64} {i n t c l d u r : Nat} {tm : Nat → Int} {tt : Nat → Nat} {of ds : Nat → Int} {ix sz : Nat → Nat} (h : RZX z sa sb i n t c l d u r tm tt of ds ix sz) (ka : ∀ a j, kAz i a j → sa' a j = sa a j) (kb : ∀ b j, kBz i b j → sb' b j = sb b j) : RZX z sa' sb' i n t c l d u r tm tt of ds ix sz := by
  obtain ⟨⟨c1, c2, ⟨c3, c4, c5⟩, ⟨c6, c7, c8, c9⟩, ⟨c10, c11, c12⟩, ⟨c13, c14, c15⟩, ⟨c16, c17, c18⟩, ⟨c19, c20, c21⟩, ⟨c22, c23⟩⟩, h1, h2, ⟨h3, h3'⟩, h4, ⟨h5, h5'⟩, h6, h7⟩ := h
  refine ⟨⟨c1.trans (ka 4 i (by unfold kAz; omega)).symm, c2, ⟨c3, (ka 5 i (by unfold kAz; omega)).trans c4, c5⟩, ⟨c6, (ka 6 i (by unfold kAz; omega)).trans c7, c8, c9⟩, ⟨(ka 7 i (by unfold kAz; omega)).trans c10, c11, c12⟩, ⟨c13, (ka 8 i (by unfold kAz; omega)).trans c14, c15⟩, ⟨c16, (ka 9 i (by unfold kAz; omega)).trans c17, c18⟩, ⟨c19, (ka 10 i (by unfold kAz; omega)).trans c20, c21⟩, ⟨(ka 11 i (by unfold kAz; omega)).trans c22, c23⟩⟩, ?_, ?_, ⟨fun k hk => ?_, h3'⟩, fun k hk => ?_, ⟨fun k hk => ?_, fun k hk => ?_⟩, fun k hk => ?_, ?_⟩
  · exact h1.T_congr (fun k hk => (ka 17 _ (by unfold kAz; omega)).symm)
  · exact h2.T_congr (fun k hk => (ka 22 _ (by unfold kAz; omega)).symm)
  · obtain ⟨g1, g2, g3, g4, g5, g6⟩ := h3 k hk
    exact ⟨g1, (kb 12 _ (by unfold kBz; omega)).trans g2, g3, g4, (ka 13 _ (by unfold kAz; omega)).trans g5, g6⟩
  · obtain ⟨g1, g2, g3, g4, g5, g6, g7, g8, g9, n1, n2, n3, n4, n5⟩ := h4 k hk
    refine ⟨g1, (ka 14 _ (by unfold kAz; omega)).trans g2, g3, g4, g5, (ka 15 _ (by unfold kAz; omega)).trans g6, g7, g8, (ka 16 _ (by unfold kAz; omega)).trans g9, n1, n2, n3, fun q hq => ?_, ?_⟩
    · obtain ⟨v, e1, e2⟩ := n4 q hq
      exact ⟨v, (ka 17 _ (by unfold kAz; omega)).trans e1, e2⟩
    · exact (ka 17 _ (by unfold kAz; omega)).trans n5
  · exact (h5 k hk).trans (ka 20 _ (by unfold kAz; omega)).symm
  · exact (h5' k hk).trans (ka 21 _ (by unfold kAz; omega)).symm
  · obtain ⟨g1, g2⟩ := h6 k hk
    exact ⟨g1.trans (kb 18 _ (by unfold kBz; omega)).symm, g2.trans (kb 19 _ (by unfold kBz; omega)).symm⟩
  · rcases h7 with ⟨g1, g2, g3⟩ | ⟨g1, wd, sp, ss, so, x, g2, g3, g4, g5, g6, g7, g8⟩
    · exact Or.inl ⟨g1, (ka 23 i (by unfold kAz; omega)).trans g2, g3⟩
    · refine Or.inr ⟨g1, wd, sp, ss, so, x, ?_, g3.congr (by omega) c23 ka, g4, (ka 24 _ (by unfold kAz; omega)).trans g5, g6, g7, ?_⟩
      · rw [LL_congr (T := fun k => sa 22 (128 * i + k)) (fun k hk => ka 22 _ (by unfold kAz; omega))]
        exact g2
      · match x, g8 with
        | none, ⟨a1, a2, a3⟩ => exact ⟨a1, (ka 23 i (by unfold kAz; omega)).trans a2, a3⟩
        | some (up, us, uo, d1, t1, d2, t2, w), ⟨a1, a2, a3, a4, a5, a6, a7, a8, a9, a10, ⟨b1, b2, b3, b4⟩, a12⟩ =>
          exact ⟨a1, (ka 23 i (by unfold kAz; omega)).trans a2, a3, a4.congr (by omega) c23 ka, a5, (ka 24 _ (by unfold kAz; omega)).trans a6, a7, a8, a9, a10, ⟨b1.congr (fun a ha => ka a _ (by unfold kAz; omega)), b2.congr (fun a ha => ka a _ (by unfold kAz; omega)), b3, b4⟩, a12⟩
section
variable {nf : Nat} {z : ZS} {si : Nat → Int32} {sj : Nat → Int64} {sa sa' : Nat → Nat → Int32} {sb sb' : Nat → Nat → Int64} {i n t c l d u r : Nat} {tm : Nat → Int} {tt : Nat → Nat} {of ds : Nat → Int} {ix sz : Nat → Nat} {w s p : Nat} {o : Int}
theorem fin64 (h : RZX z sa sb 4 n t c l d u r tm tt of ds ix sz) (hn : n < 200) {v : Int} (hv : isI v) (hlt : 0 < n → tm (n - 1) < v) {q : Nat} (hq : q < t) : ∃ (sa' : Nat → Nat → Int32) (sb' : Nat → Nat → Int64), f_Zone_addTime_64 nf (ii (q : Int)) (jj v) z.2.1 z.2.2.1 z.2.2.2.2.1 z.2.2.2.2.2.1 z.2.2.2.2.2.2.1 z.2.2.2.2.2.2.2.1 z.2.2.2.2.2.2.2.2.1 z.2.2.2.2.2.2.2.2.2.1 z.2.2.2.2.2.2.2.2.2.2.1 z.2.2.2.2.2.2.2.2.2.2.2.1 z.2.2.2.2.2.2.2.2.2.2.2.2.1 z.2.2.2.2.2.2.2.2.2.2.2.2.2.1 z.2.2.2.2.2.2.2.2.2.2.2.2.2.2.1 z.2.2.2.2.2.2.2.2.2.2.2.2.2.2.2.1 = some ((1, ii ((n + 1 : Nat) : Int), z.2.2.1, z.2.2.2.2.1, z.2.2.2.2.2.1, vp_updL z.2.2.2.2.2.2.1 n (jj v), upd z.2.2.2.2.2.2.2.1 n (ii (q : Int)), z.2.2.2.2.2.2.2.2.1, z.2.2.2.2.2.2.2.2.2.1, z.2.2.2.2.2.2.2.2.2.2.1, z.2.2.2.2.2.2.2.2.2.2.2.1, z.2.2.2.2.2.2.2.2.2.2.2.2.1, z.2.2.2.2.2.2.2.2.2.2.2.2.2.1, z.2.2.2.2.2.2.2.2.2.2.2.2.2.2.1, z.2.2.2.2.2.2.2.2.2.2.2.2.2.2.2.1), 0, 0) ∧ f_Mo_addTime_255 nf (ii (q : Int)) 4 (jj v) si sj sa sb = some (1, si, sj, sa', sb') ∧
    RZX (zM z (ii ((n + 1 : Nat) : Int), z.2.2.1, z.2.2.2.2.1, z.2.2.2.2.2.1, vp_updL z.2.2.2.2.2.2.1 n (jj v), upd z.2.2.2.2.2.2.2.1 n (ii (q : Int)), z.2.2.2.2.2.2.2.2.1, z.2.2.2.2.2.2.2.2.2.1, z.2.2.2.2.2.2.2.2.2.2.1, z.2.2.2.2.2.2.2.2.2.2.2.1, z.2.2.2.2.2.2.2.2.2.2.2.2.1, z.2.2.2.2.2.2.2.2.2.2.2.2.2.1, z.2.2.2.2.2.2.2.2.2.2.2.2.2.2.1, z.2.2.2.2.2.2.2.2.2.2.2.2.2.2.2.1)) sa' sb' 4 (n + 1) t c l d u r (fun k => if k = n then v else tm k) (fun k => if k = n then q else tt k) of ds ix sz ∧ G4 si si sj sj sa sa' sb sb' := by
  obtain ⟨sa', sb', g1, g2, g3, g4, g5, g6⟩ := mt255 (nf := nf) (q := ii (q : Int)) (x1 := jj v) (si := si) (sj := sj) (sa := sa) (sb := sb) hn h.1.2.2.1.2.1
  obtain ⟨i1, i2⟩ := nidx (k := n) (m := 200) (by omega) (by omega)
  have c3 := h.1.2.2.1.1
  refine ⟨sa', sb', ?_, g1, h.time hn hv hlt hq g2 g3 g4 g5 g6, fun _ _ => rfl, fun _ _ => rfl, fun a j h1 _ _ => g5 a j (by unfold X4 at h1; omega) (by unfold X4 at h1; omega), fun b j h1 => g6 b j (by omega)⟩
  unfold f_Zone_addTime_64
  rw [c3, i1, if_neg i2, if_neg i2, iiS]
theorem WN.sof (h : WN z sa r w s p o) (hw : w < 2) : sOf (ii (gW w)) z.2.2.2.2.2.2.2.2.2.2.2.2.2.2.2.2.2.2.2.2.1 z.2.2.2.2.2.2.2.2.2.2.2.2.2.2.2.2.2.2.2.2.2.1 = ii o ∧ sDs (ii (gW w)) = ii (w : Int) ∧ (ii (gW w) = -1 ∨ ii (gW w) = -2) := by
  have h1 := h.2.2.2.1
  rcases gW01 hw with ⟨rfl, e⟩ | ⟨rfl, e⟩
  · rw [if_neg (by decide)] at h1
    rw [e]
    unfold sOf sDs
    rw [if_neg (by decide), if_neg (by decide)]
    exact ⟨h1, rfl, Or.inl rfl⟩
  · rw [if_pos rfl] at h1
    rw [e]
    unfold sOf sDs
    rw [if_pos rfl, if_pos rfl]
    exact ⟨h1, rfl, Or.inr rfl⟩
def KPs (z z' : ZS) (n t c : Nat) : Prop := ∀ (z0 : ZS) (T0 : Nat → Int32) (n0 t0 c0 d0 u0 : Nat), 1 ≤ t0 → n0 ≤ n → t0 ≤ t → c0 ≤ c → KP z0 z T0 n0 t0 c0 d0 u0 → KP z0 z' T0 n0 t0 c0 d0 u0
/-- how both end -/
def ATo (z : ZS) (n t c l r : Nat) (v : Int) (cl : Option ((Int32 × ZM) × Nat × Nat)) (rf : Option (Int32 × MS)) (si : Nat → Int32) (sj : Nat → Int64) (sa : Nat → Nat → Int32) (sb : Nat → Nat → Int64) : Prop :=
  ∃ (ok : Bool) (Q : ZM) (kc ks : Nat) (si' : Nat → Int32) (sj' : Nat → Int64) (sa' : Nat → Nat → Int32) (sb' : Nat → Nat → Int64), cl = some ((bI ok, Q), kc, ks) ∧ rf = some (bI ok, si', sj', sa', sb') ∧ G4 si si' sj sj' sa sa' sb sb' ∧ kc + z.2.2.2.2.2.2.2.2.2.2.2.2.2.2.1 ≤ (zM z Q).2.2.2.2.2.2.2.2.2.2.2.2.2.2.1 ∧ ks + 2 * z.2.2.2.2.2.2.2.2.2.2.2.2.2.2.1 ≤ 2 * (zM z Q).2.2.2.2.2.2.2.2.2.2.2.2.2.2.1 ∧ KPs z (zM z Q) n t c ∧
    (ok = true → ∃ (t' c' d' u' : Nat) (tm' : Nat → Int) (tt' : Nat → Nat) (of' ds' : Nat → Int) (ix' sz' : Nat → Nat), RZX (zM z Q) sa' sb' 4 (n + 1) t' c' l d' u' r tm' tt' of' ds' ix' sz' ∧ tm' n = v ∧ t ≤ t' ∧ c ≤ c')
/-- a new type, its name at x among letters that may be more now -/
theorem addNew (h : RZX z sa sb 4 n t c l d u r tm tt of ds ix sz) (hn : n < 200) {v : Int} (hv : isI v) (hlt : 0 < n → tm (n - 1) < v) (hw : w < 2) (hN : WN z sa r w s p o) (ht : t < 40) {c' x : Nat} {cs : Int32} {N : Nat} {A : Nat → Int32} {kc ks : Nat} {sa1 : Nat → Nat → Int32} (hc : c ≤ c') (hc2 : c' ≤ 200) (hch : RB cs N A c' (fun k => sa1 17 (800 + k))) (hpre : ∀ k, k < c → sa1 17 (800 + k) = sa 17 (800 + k)) (hnm : nam0 (fun k => sa1 17 (800 + k)) c' x s) (hkc : kc + z.2.2.2.2.2.2.2.2.2.2.2.2.2.2.1 ≤ N) (hks : ks + 2 * z.2.2.2.2.2.2.2.2.2.2.2.2.2.2.1 ≤ 2 * N)
    (s6 : sa1 6 4 = ii ((t + 1 : Nat) : Int)) (s7 : sa1 7 4 = ii (c' : Int)) (f1 : ∀ a j, ¬ (a = 6 ∧ j = 4) → ¬ (a = 7 ∧ j = 4) → ¬ (a = 17 ∧ 800 + c ≤ j ∧ j < 1000) → sa1 a j = sa a j) {cl : Option ((Int32 × ZM) × Nat × Nat)} {rf : Option (Int32 × MS)}
    (hcl : cl = ad kc ks ((f_Zone_addType nf (ii (gW w)) (ii (x : Int)) z.2.2.1 z.2.2.2.2.1 z.2.2.2.2.2.1 z.2.2.2.2.2.2.2.2.1 z.2.2.2.2.2.2.2.2.2.1 z.2.2.2.2.2.2.2.2.2.2.1 z.2.2.2.2.2.2.2.2.2.2.2.1 z.2.2.2.2.2.2.2.2.2.2.2.2.1 cs z.2.2.2.2.2.2.2.2.2.2.2.2.2.2.2.2.2.2.2.2.1 z.2.2.2.2.2.2.2.2.2.2.2.2.2.2.2.2.2.2.2.2.2.1).bind fun (z_16, z_17, z_18, z_19, z_20, z_21, z_22, z_23, z_24) => if z_16 = 0 then some ((0, z.2.1, z_17, z_18, z_19, z.2.2.2.2.2.2.1, z.2.2.2.2.2.2.2.1, z_20, z_21, z_22, z_23, z_24, cs, N, A), 0, 0) else f_Zone_addTime_64 nf (ii (t : Int)) (jj v) z.2.1 z_17 z_18 z_19 z.2.2.2.2.2.2.1 z.2.2.2.2.2.2.2.1 z_20 z_21 z_22 z_23 z_24 cs N A)) (hrf : rf = f_Mo_addTime_124 nf (ii (t : Int)) (ii (x : Int)) 4 (jj v) (ii (w : Int)) si sj sa1 sb) : ATo z n t c l r v cl rf si sj sa sb := by
  obtain ⟨⟨c1, c2', ⟨c3, c4, c5⟩, ⟨c6, c7, c8, c9⟩, ⟨c10, c11, c12⟩, ⟨c13, c14, c15⟩, ⟨c16, c17, c18⟩, ⟨c19, c20, c21⟩, ⟨c22, c23⟩⟩, h1, h2, _⟩ := id h
  obtain ⟨o1, o2, o3⟩ := hN.sof hw
  have at1 := caddType (nf := nf) (stt := ii (gW w)) (x := ii (x : Int)) (so := z.2.2.2.2.2.2.2.2.2.2.2.2.2.2.2.2.2.2.2.2.1) (uo := z.2.2.2.2.2.2.2.2.2.2.2.2.2.2.2.2.2.2.2.2.2.1) (cs := cs) (of := z.2.2.2.2.2.2.2.2.1) (ds := z.2.2.2.2.2.2.2.2.2.1) (ix := z.2.2.2.2.2.2.2.2.2.2.1) (sd := z.2.2.2.2.2.2.2.2.2.2.2.1) (ut := z.2.2.2.2.2.2.2.2.2.2.2.2.1) o3 hch.1 hc2 c6 ht c16 (by omega) c19 (by omega)
  rw [o1, o2] at at1
  obtain ⟨sa2, m1, m2, m3, m4, m5, m6, m7, m8, m9⟩ := mt124 (nf := nf) (w := w) (t := t) (d := d) (u := u) (x6 := ii (x : Int)) (x1 := jj v) (si := si) (sj := sj) (sa := sa1) (sb := sb) hw ht ((f1 9 4 (by omega) (by omega) (by omega)).trans c17) (by omega) ((f1 10 4 (by omega) (by omega) (by omega)).trans c20) (by omega)
  have e17 : ∀ j, sa2 17 j = sa1 17 j := fun j => m9 17 j (by omega) (by omega) (by omega)
  have dq : (if 0 < d then d + 1 else 0) = if 0 < d then t + 1 else 0 := by
    by_cases c0 : 0 < d
    · rw [if_pos c0, if_pos c0]; omega
    · rw [if_neg c0, if_neg c0]
  have uq : (if 0 < u then u + 1 else 0) = if 0 < u then t + 1 else 0 := by
    by_cases c0 : 0 < u
    · rw [if_pos c0, if_pos c0]; omega
    · rw [if_neg c0, if_neg c0]
  rw [dq] at m2
  rw [uq] at m3
  have hN25 := hN.2.2.2.2.2.1
  have hb := hN.1
  have R1 := h.type (sa' := sa2) (c' := c') (x := x) (s := s) (o := o) (dd := (w : Int)) (cs := cs) (N := N) (A := A) ht hc hc2 (hch.T_congr (fun k _ => (e17 _).symm)) (fun k hk => (e17 _).trans (hpre k hk)) (by
      obtain ⟨n1, n2, n3, n4, n5⟩ := hnm
      refine ⟨n1, n2, n3, fun k hk => ?_, (e17 _).trans n5⟩
      obtain ⟨y, y1, y2⟩ := n4 k hk
      exact ⟨y, (e17 _).trans y1, y2⟩) hb.2.2.2.1 hb.2.2.2.2 (by omega) ((m9 6 4 (by omega) (by omega) (by omega)).trans s6) ((m9 7 4 (by omega) (by omega) (by omega)).trans s7) m2 m3 (m4.trans ((f1 24 _ (by omega) (by omega) (by omega)).trans hN25)) m5 m6 m7 m8 (fun a j h6 h7 h9 h10 h14 h17 => (m9 a j h9 h10 h14).trans (f1 a j h6 h7 (by omega)))
  obtain ⟨sa3, sb3, x1, x2, x3, x4⟩ := fin64 (nf := nf) (si := si) (sj := sj) R1 hn hv hlt (q := t) (by omega)
  refine ⟨true, _, 0 + kc, 0 + ks, si, sj, sa3, sb3, ?_, hrf.trans (m1.trans x2), ?_, ?_, ?_, ?_, fun _ => ⟨t + 1, c', _, _, _, _, _, _, _, _, x3, if_pos rfl, by omega, hc⟩⟩
  · rw [hcl, at1, Option.bind_some]
    dsimp only
    rw [if_neg (show ¬ (1 : Int32) = 0 by decide)]
    exact (congrArg (ad kc ks) x1).trans rfl
  · refine ⟨fun _ _ => rfl, fun _ _ => rfl, fun a j h1 h2 h3 => ?_, x4.2.2.2⟩
    rw [x4.2.2.1 a j h1 h2 h3, m9 a j (by unfold X4 at h1; omega) (by unfold X4 at h1; omega) (by unfold X4 at h1; omega), f1 a j (by unfold X4 at h1; omega) (by unfold X4 at h1; omega) (by unfold X4 at h1; omega)]
  · show 0 + kc + z.2.2.2.2.2.2.2.2.2.2.2.2.2.2.1 ≤ N
    omega
  · show 0 + ks + 2 * z.2.2.2.2.2.2.2.2.2.2.2.2.2.2.1 ≤ 2 * N
    omega
  · intro z0 T0 n0 t0 c0 d0 u0 k1 k2 k3 k4 k5
    refine k5.step (t := t) (d := d) (u := u) (c' := c') (T' := fun k => sa1 17 (800 + k)) k1 h1 c12 k4 (fun k hk => ?_) (fun k hk => ?_) hch hc hpre c16 (by omega) (Or.inr rfl) c19 (by omega) (Or.inr rfl) ht k3
    · exact ⟨vpl_ne (by omega), upd_ne (by omega)⟩
    · exact ⟨upd_ne (by omega), upd_ne (by omega), upd_ne (by omega), upd_ne (by omega), upd_ne (by omega)⟩
theorem ATo.fr {si1 : Nat → Int32} {sj1 : Nat → Int64} {sa1 : Nat → Nat → Int32} {v : Int} {cl : Option ((Int32 × ZM) × Nat × Nat)} {rf : Option (Int32 × MS)} (h : ATo z n t c l r v cl rf si1 sj1 sa1 sb) (q : QF si si1 sj sj1 sa sa1) : ATo z n t c l r v cl rf si sj sa sb := by
  obtain ⟨ok, Q, kc, ks, si', sj', sa', sb', g1, g2, g3, g4⟩ := h
  exact ⟨ok, Q, kc, ks, si', sj', sa', sb', g1, g2, q.g4.tr g3, g4⟩
/-- no place: nothing kept -/
theorem addNo (h : RZX z sa sb 4 n t c l d u r tm tt of ds ix sz) {cs : Int32} {N c' : Nat} {A T' : Nat → Int32} {kc ks : Nat} (hc : c ≤ c') (hch : RB cs N A c' T') (hpre : ∀ k, k < c → T' k = sa 17 (800 + k)) (hkc : kc + z.2.2.2.2.2.2.2.2.2.2.2.2.2.2.1 ≤ N) (hks : ks + 2 * z.2.2.2.2.2.2.2.2.2.2.2.2.2.2.1 ≤ 2 * N) {v : Int} {cl : Option ((Int32 × ZM) × Nat × Nat)} {rf : Option (Int32 × MS)} (hcl : cl = some ((0, z.2.1, z.2.2.1, z.2.2.2.2.1, z.2.2.2.2.2.1, z.2.2.2.2.2.2.1, z.2.2.2.2.2.2.2.1, z.2.2.2.2.2.2.2.2.1, z.2.2.2.2.2.2.2.2.2.1, z.2.2.2.2.2.2.2.2.2.2.1, z.2.2.2.2.2.2.2.2.2.2.2.1, z.2.2.2.2.2.2.2.2.2.2.2.2.1, cs, N, A), kc, ks)) (hrf : rf = some (0, si, sj, sa, sb)) : ATo z n t c l r v cl rf si sj sa sb := by
  obtain ⟨⟨c1, c2', ⟨c3, c4, c5⟩, ⟨c6, c7, c8, c9⟩, ⟨c10, c11, c12⟩, ⟨c13, c14, c15⟩, ⟨c16, c17, c18⟩, ⟨c19, c20, c21⟩, ⟨c22, c23⟩⟩, h1, h2, _⟩ := id h
  refine ⟨false, _, kc, ks, si, sj, sa, sb, hcl, hrf, ⟨fun _ _ => rfl, fun _ _ => rfl, fun _ _ _ _ _ => rfl, fun _ _ _ => rfl⟩, hkc, hks, ?_, fun y => by cases y⟩
  intro z0 T0 n0 t0 c0 d0 u0 k1 k2 k3 k4 k5
  obtain ⟨a1, a2, ⟨c9', T9, a3, a4, a5⟩, a6, a7⟩ := k5
  refine ⟨a1, a2, ⟨c', T', hch, by omega, fun k hk => ?_⟩, a6, a7⟩
  have cq : c9' = c := by
    have e := a3.1.symm.trans h1.1
    have b1 := a3.2.1
    have b2 := a3.2.2.2.1
    rw [ii_eq (by omega) (by omega) (by omega) (by omega)] at e
    omega
  subst cq
  rw [hpre k (by omega), ← a5 k hk, ← a3.2.2.2.2.2 k (by omega)]
  exact (h1.2.2.2.2.2 k (by omega)).symm
theorem addTm (hnf : 10000 ≤ nf) (h : RZX z sa sb 4 n t c l d u r tm tt of ds ix sz) (hh : z.2.2.2.2.2.2.2.2.2.2.2.2.2.2.2.2.2.2.1 = 1) (hw : w < 2) {v : Int} (hv : isI v) (hlt : 0 < n → tm (n - 1) < v) : ATo z n t c l r v (f_Zone_addTime nf (jj v) (ii (gW w)) z.2.1 z.2.2.1 z.2.2.2.2.1 z.2.2.2.2.2.1 z.2.2.2.2.2.2.1 z.2.2.2.2.2.2.2.1 z.2.2.2.2.2.2.2.2.1 z.2.2.2.2.2.2.2.2.2.1 z.2.2.2.2.2.2.2.2.2.2.1 z.2.2.2.2.2.2.2.2.2.2.2.1 z.2.2.2.2.2.2.2.2.2.2.2.2.1 z.2.2.2.2.2.2.2.2.2.2.2.2.2.1 z.2.2.2.2.2.2.2.2.2.2.2.2.2.2.1 z.2.2.2.2.2.2.2.2.2.2.2.2.2.2.2.1 z.2.2.2.2.2.2.2.2.2.2.2.2.2.2.2.2.2.2.2.2.1 z.2.2.2.2.2.2.2.2.2.2.2.2.2.2.2.2.2.2.2.2.2.1 z.2.2.2.2.2.2.2.2.2.2.2.2.2.2.2.2.2.2.2.2.2.2.1 z.2.2.2.2.2.2.2.2.2.2.2.2.2.2.2.2.2.2.2.2.2.2.2.1 z.2.2.2.2.2.2.2.2.2.2.2.2.2.2.2.2.2.2.2.2.2.2.2.2.1 z.2.2.2.2.2.2.2.2.2.2.2.2.2.2.2.2.2.2.2.2.2.2.2.2.2.1 z.2.2.2.2.2.2.2.2.2.2.2.2.2.2.2.2.2.2.2.2.2.2.2.2.2.2.2.1 z.2.2.2.2.2.2.2.2.2.2.2.2.2.2.2.2.2.2.2.2.2.2.2.2.2.2.2.2.1 z.2.2.2.2.2.2.2.2.2.2.2.2.2.2.2.2.2.2.2.2.2.2.2.2.2.2.2.2.2.1) (f_Mo_addTime nf (jj v) (ii (w : Int)) si sj sa sb) si sj sa sb := by
  obtain ⟨⟨c1, c2', ⟨c3, c4, c5⟩, ⟨c6, c7, c8, c9⟩, ⟨c10, c11, c12⟩, ⟨c13, c14, c15⟩, ⟨c16, c17, c18⟩, ⟨c19, c20, c21⟩, ⟨c22, c23⟩⟩, h1, h2, _, _, _, _, hR⟩ := id h
  have n4 : ¬ ((4 : Int32) < 0 ∨ 5 ≤ 4) := by decide
  have z4 : (4 : Int32).toNatClampNeg = 4 := rfl
  generalize hC : f_Zone_addTime nf (jj v) (ii (gW w)) z.2.1 z.2.2.1 z.2.2.2.2.1 z.2.2.2.2.2.1 z.2.2.2.2.2.2.1 z.2.2.2.2.2.2.2.1 z.2.2.2.2.2.2.2.2.1 z.2.2.2.2.2.2.2.2.2.1 z.2.2.2.2.2.2.2.2.2.2.1 z.2.2.2.2.2.2.2.2.2.2.2.1 z.2.2.2.2.2.2.2.2.2.2.2.2.1 z.2.2.2.2.2.2.2.2.2.2.2.2.2.1 z.2.2.2.2.2.2.2.2.2.2.2.2.2.2.1 z.2.2.2.2.2.2.2.2.2.2.2.2.2.2.2.1 z.2.2.2.2.2.2.2.2.2.2.2.2.2.2.2.2.2.2.2.2.1 z.2.2.2.2.2.2.2.2.2.2.2.2.2.2.2.2.2.2.2.2.2.1 z.2.2.2.2.2.2.2.2.2.2.2.2.2.2.2.2.2.2.2.2.2.2.1 z.2.2.2.2.2.2.2.2.2.2.2.2.2.2.2.2.2.2.2.2.2.2.2.1 z.2.2.2.2.2.2.2.2.2.2.2.2.2.2.2.2.2.2.2.2.2.2.2.2.1 z.2.2.2.2.2.2.2.2.2.2.2.2.2.2.2.2.2.2.2.2.2.2.2.2.2.1 z.2.2.2.2.2.2.2.2.2.2.2.2.2.2.2.2.2.2.2.2.2.2.2.2.2.2.2.1 z.2.2.2.2.2.2.2.2.2.2.2.2.2.2.2.2.2.2.2.2.2.2.2.2.2.2.2.2.1 z.2.2.2.2.2.2.2.2.2.2.2.2.2.2.2.2.2.2.2.2.2.2.2.2.2.2.2.2.2.1 = C
  generalize hQ : f_Mo_addTime nf (jj v) (ii (w : Int)) si sj sa sb = Q
  unfold f_Zone_addTime f_Zone_addTime_0 at hC
  unfold f_Mo_addTime f_Mo_addTime_0 at hQ
  rw [z4, if_neg n4] at hQ
  by_cases n200 : n = 200
  · rw [if_neg (show ¬ z.2.1 < 200 by rw [c3, n200]; decide)] at hC
    rw [if_pos (show sa 5 4 = 200 by rw [c4, n200]; rfl)] at hQ
    exact addNo h (c' := c) (T' := fun k => sa 17 (800 + k)) (by omega) h1 (fun _ _ => rfl) (by omega) (by omega) hC.symm hQ.symm
  · have hn : n < 200 := by omega
    rw [if_pos (show z.2.1 < 200 by rw [c3, ii_lit, ii_lt (by omega) (by omega) (by omega) (by omega)]; omega)] at hC
    rw [if_neg (show ¬ sa 5 4 = 200 by rw [c4, ii_lit, ii_eq (by omega) (by omega) (by omega) (by omega)]; omega)] at hQ
    obtain ⟨hr, wn⟩ := hR.wn hh
    obtain ⟨nv, tv, rv, tmv, ttv, hs, b, e, O, D, Z, B, hv4⟩ := h.zon.view (show 4 < 5 by omega)
    obtain ⟨hst, hrv⟩ : hs = true ∧ 0 < rv := by
      rcases hv4.rul with y | ⟨_, _, y⟩
      · exact ⟨y.1, y.2.1⟩
      · rw [hh] at y
        exact absurd y (by decide)
    have tq : tv = t := by
      have e1 := hv4.1.2.2.2.2.2.2.1.symm.trans c6
      have e2 := hv4.1.2.2.2.1
      rw [ii_eq (by omega) (by omega) (by omega) (by omega)] at e1
      omega
    subst tq
    rcases ZV.tyl (nf := nf) hnf hw hrv hst (jj v) tv 0 nf nf si sj sa (by omega) (by omega) (by omega) hv4 with ⟨q, si1, sj1, sa1, y1, y2, y3, y4⟩ | ⟨si1, sj1, sa1, y2, y3, y4⟩
    · rw [show ii ((0 : Nat) : Int) = 0 from rfl] at y2 y3
      rw [y2] at hC
      unfold f_Mo_typeLike f_Mo_typeLike_0 at hQ
      rw [y3, Option.bind_some] at hQ
      dsimp only at hQ
      rw [if_pos (show (0 : Int32) ≤ ii (q : Int) by rw [ii_lit, ii_le (by omega) (by omega) (by omega) (by omega)]; omega)] at hQ
      unfold f_Zone_addTime_40 at hC
      rw [if_pos (show ii (q : Int) < z.2.2.1 by rw [c6, ii_lt (by omega) (by omega) (by omega) (by omega)]; omega)] at hC
      have h' : RZX z sa1 sb 4 n tv c l d u r tm tt of ds ix sz := h.congr (fun a j k => by rw [y4.2.2 a (by unfold kAz at k; omega) (by unfold kAz at k; omega)]) (fun _ _ _ => rfl)
      obtain ⟨sa3, sb3, x1, x2, x3, x4⟩ := fin64 (nf := nf) (si := si1) (sj := sj1) h' hn hv hlt y1
      refine ATo.fr ?_ y4
      refine ⟨true, _, 0, 0, si1, sj1, sa3, sb3, hC.symm.trans x1, hQ.symm.trans x2, x4, ?_, ?_, ?_, fun _ => ⟨tv, c, _, _, _, _, _, _, _, _, x3, if_pos rfl, by omega, by omega⟩⟩
      · show 0 + z.2.2.2.2.2.2.2.2.2.2.2.2.2.2.1 ≤ z.2.2.2.2.2.2.2.2.2.2.2.2.2.2.1
        omega
      · show 0 + 2 * z.2.2.2.2.2.2.2.2.2.2.2.2.2.2.1 ≤ 2 * z.2.2.2.2.2.2.2.2.2.2.2.2.2.2.1
        omega
      · intro z0 T0 n0 t0 c0 d0 u0 k1 k2 k3 k4 k5
        obtain ⟨a1, a2, a3, a6, a7⟩ := k5
        refine ⟨fun k hk => ⟨(vpl_ne (show k ≠ n by omega)).trans (a1 k hk).1, (upd_ne (show k ≠ n by omega)).trans (a1 k hk).2⟩, a2, a3, a6, a7⟩
    · rw [show ii ((0 : Nat) : Int) = 0 from rfl] at y2 y3
      rw [y2] at hC
      unfold f_Mo_typeLike f_Mo_typeLike_0 at hQ
      rw [y3, Option.bind_some] at hQ
      dsimp only at hQ
      rw [if_neg (show ¬ (0 : Int32) ≤ -1 by decide)] at hQ
      unfold f_Zone_addTime_40 at hC
      rw [if_neg (show ¬ ii (tv : Int) < z.2.2.1 by rw [c6, ii_lt (by omega) (by omega) (by omega) (by omega)]; omega)] at hC
      have h' : RZX z sa1 sb 4 n tv c l d u r tm tt of ds ix sz := h.congr (fun a j k => by rw [y4.2.2 a (by unfold kAz at k; omega) (by unfold kAz at k; omega)]) (fun _ _ _ => rfl)
      refine ATo.fr ?_ y4
      obtain ⟨⟨_, _, _, ⟨_, d7, _, _⟩, ⟨d10, _, _⟩, _⟩, h1', h2', _, _, _, _, hR'⟩ := id h'
      obtain ⟨s, p, o, hN⟩ := (hR'.wn hh).2 w hw
      obtain ⟨⟨w1, w2, w3, w4, w5⟩, w6, w7, w8, w9, w10, w11⟩ := id hN
      obtain ⟨i1, i2⟩ := nidx (k := 8 + w) (m := 10) (by omega) (by omega)
      have nb := fun k hk => hN.nby (nf := nf) hw h2' c23 (cs := z.2.2.2.2.2.2.2.2.2.2.2.2.2.1) (tyc := z.2.2.1) (X := z.2.2.2.2.2.2.2.2.2.2.1) (A := z.2.2.2.2.2.2.2.2.2.2.2.2.2.2.2.1) (N := z.2.2.2.2.2.2.2.2.2.2.2.2.2.2.1) k hk
      have ns := hN.nsz (nf := nf) hw c6 c9 (cs := z.2.2.2.2.2.2.2.2.2.2.2.2.2.1) (X := z.2.2.2.2.2.2.2.2.2.2.1) (A := z.2.2.2.2.2.2.2.2.2.2.2.2.2.2.2.1) (N := z.2.2.2.2.2.2.2.2.2.2.2.2.2.2.1)
      have pl := pln (nf := nf) (sa := sa1) (tyc := z.2.2.1) (spx := z.2.2.2.2.2.2.2.2.2.2.2.2.2.2.2.2.2.2.2.2.2.2.1) (upx := z.2.2.2.2.2.2.2.2.2.2.2.2.2.2.2.2.2.2.2.2.2.2.2.2.1) (ssx := z.2.2.2.2.2.2.2.2.2.2.2.2.2.2.2.2.2.2.2.2.2.2.2.1) (usx := z.2.2.2.2.2.2.2.2.2.2.2.2.2.2.2.2.2.2.2.2.2.2.2.2.2.1) (txS := z.2.2.2.2.2.2.2.2.2.2.2.2.2.2.2.2.2.2.2.2.2.2.2.2.2.2.2.1) (x1 := ii (gW w)) (X := z.2.2.2.2.2.2.2.2.2.2.1) (txA := z.2.2.2.2.2.2.2.2.2.2.2.2.2.2.2.2.2.2.2.2.2.2.2.2.2.2.2.2.2.1) (txN := z.2.2.2.2.2.2.2.2.2.2.2.2.2.2.2.2.2.2.2.2.2.2.2.2.2.2.2.2.1) hnf h1' c12 w2 hw d10 nb (fun m hm => (w11 m hm).1) c 0 nf nf (by omega) (by omega) (by omega) (by omega)
      rw [show ii ((0 : Nat) : Int) = 0 from rfl] at pl
      have hll : f_Mo_lettersLike nf (ii (w : Int)) si1 sj1 sa1 sb = f_Mo_lettersLike_16 nf sa1 nf 0 (ii (s : Int)) 4 (ii (w : Int)) := by
        unfold f_Mo_lettersLike f_Mo_lettersLike_0
        rw [e8w, i1, if_neg i2, w9]
      unfold f_Zone_placeOfName f_Zone_placeOfName_0 at hC
      rw [ns, Option.bind_some] at hC
      rw [hll] at hQ
      rcases pl with ⟨q, p1, p2, p3, p4, p5⟩ | ⟨p4, p5⟩
      · rw [p4, Option.bind_some] at hC
        dsimp only at hC
        rw [p5, Option.bind_some, if_neg n4, d7] at hQ
        by_cases t40 : tv = 40
        · have tf : f_Zone_addType nf (ii (gW w)) (ii (q : Int)) z.2.2.1 z.2.2.2.2.1 z.2.2.2.2.2.1 z.2.2.2.2.2.2.2.2.1 z.2.2.2.2.2.2.2.2.2.1 z.2.2.2.2.2.2.2.2.2.2.1 z.2.2.2.2.2.2.2.2.2.2.2.1 z.2.2.2.2.2.2.2.2.2.2.2.2.1 z.2.2.2.2.2.2.2.2.2.2.2.2.2.1 z.2.2.2.2.2.2.2.2.2.2.2.2.2.2.2.2.2.2.2.2.1 z.2.2.2.2.2.2.2.2.2.2.2.2.2.2.2.2.2.2.2.2.2.1 = some (0, z.2.2.1, z.2.2.2.2.1, z.2.2.2.2.2.1, z.2.2.2.2.2.2.2.2.1, z.2.2.2.2.2.2.2.2.2.1, z.2.2.2.2.2.2.2.2.2.2.1, z.2.2.2.2.2.2.2.2.2.2.2.1, z.2.2.2.2.2.2.2.2.2.2.2.2.1) := by
            unfold f_Zone_addType f_Zone_addType_0
            rw [if_pos (show (40 : Int32) ≤ z.2.2.1 by rw [c6, t40]; decide)]
            rfl
          rw [tf, Option.bind_some] at hC
          rw [if_pos (show ii (tv : Int) = 40 by rw [t40]; rfl)] at hQ
          exact addNo h' (c' := c) (T' := fun k => sa1 17 (800 + k)) (kc := 0 + 0) (ks := 0 + 0) (by omega) h1' (fun _ _ => rfl) (by omega) (by omega) (hC.symm.trans rfl) hQ.symm
        · rw [if_neg (show ¬ ii (tv : Int) = 40 by rw [ii_lit, ii_eq (by omega) (by omega) (by omega) (by omega)]; omega), if_pos (show (0 : Int32) ≤ ii (q : Int) by rw [ii_lit, ii_le (by omega) (by omega) (by omega) (by omega)]; omega)] at hQ
          unfold f_Mo_addTime_83 at hQ
          rw [z4, if_neg n4, if_neg n4, if_neg n4, if_pos (show (0 : Int32) ≤ ii (q : Int) by rw [ii_lit, ii_le (by omega) (by omega) (by omega) (by omega)]; omega), d7, iiS] at hQ
          refine addNew h' hn hv hlt hw hN (by omega) (c' := c) (x := q) (kc := 0) (ks := 0) (sa1 := va_up sa1 6 (upd (sa1 6) 4 (ii ((tv + 1 : Nat) : Int)))) (by omega) c12 h1' (fun _ _ => rfl) ⟨w1, w2, p1, fun k hk => ?_, ?_⟩ (by omega) (by omega) vu_eq ?_ (fun a j e1 _ _ => vu_ne e1) hC.symm hQ.symm
          · obtain ⟨_, y, g1, g2⟩ := w11 k hk
            exact ⟨y, ((congrFun (vup_ne (show (17 : Nat) ≠ 6 by decide)) _).trans (p2 k hk)).trans g1, g2⟩
          · exact (congrFun (vup_ne (show (17 : Nat) ≠ 6 by decide)) _).trans p3
          · exact (congrFun (vup_ne (show (7 : Nat) ≠ 6 by decide)) _).trans d10
      · obtain ⟨N', A', kc, ks, g1, g2, g3, g4⟩ := hN.put (nf := nf) hnf hw h2' c23 c6 c9 (X := z.2.2.2.2.2.2.2.2.2.2.1) h1' c12
        have pn : f_Zone_placeOfName_8 nf z.2.2.1 z.2.2.2.2.2.2.2.2.2.2.1 z.2.2.2.2.2.2.2.2.2.2.2.2.2.2.2.2.2.2.2.2.2.2.1 z.2.2.2.2.2.2.2.2.2.2.2.2.2.2.2.2.2.2.2.2.2.2.2.1 z.2.2.2.2.2.2.2.2.2.2.2.2.2.2.2.2.2.2.2.2.2.2.2.2.1 z.2.2.2.2.2.2.2.2.2.2.2.2.2.2.2.2.2.2.2.2.2.2.2.2.2.1 z.2.2.2.2.2.2.2.2.2.2.2.2.2.2.2.2.2.2.2.2.2.2.2.2.2.2.2.1 z.2.2.2.2.2.2.2.2.2.2.2.2.2.2.2.2.2.2.2.2.2.2.2.2.2.2.2.2.1 z.2.2.2.2.2.2.2.2.2.2.2.2.2.2.2.2.2.2.2.2.2.2.2.2.2.2.2.2.2.1 1 300 (ii (s : Int)) (ii (gW w)) z.2.2.2.2.2.2.2.2.2.2.2.2.2.1 z.2.2.2.2.2.2.2.2.2.2.2.2.2.2.1 z.2.2.2.2.2.2.2.2.2.2.2.2.2.2.2.1 = some ((ii (c : Int), ii ((c + s + 1 : Nat) : Int), N', A'), 0 + kc, 0 + ks) := by
          rw [show (1 : Nat) = 0 + 1 from rfl, f_Zone_placeOfName_8, if_pos (show z.2.2.2.2.2.2.2.2.2.2.2.2.2.1 ≤ (300 : Int32) + ii (s : Int) by rw [h1'.1, show (300 : Int32) = ii 300 from rfl, ii_add, ii_le (by omega) (by omega) (by omega) (by omega)]; omega), g1, Option.bind_some]
          rfl
        rw [p4, pn, Option.bind_some] at hC
        dsimp only at hC
        rw [p5, Option.bind_some, if_neg n4, d7] at hQ
        have fail : f_Zone_addType nf (ii (gW w)) (ii (c : Int)) z.2.2.1 z.2.2.2.2.1 z.2.2.2.2.2.1 z.2.2.2.2.2.2.2.2.1 z.2.2.2.2.2.2.2.2.2.1 z.2.2.2.2.2.2.2.2.2.2.1 z.2.2.2.2.2.2.2.2.2.2.2.1 z.2.2.2.2.2.2.2.2.2.2.2.2.1 (ii ((c + s + 1 : Nat) : Int)) z.2.2.2.2.2.2.2.2.2.2.2.2.2.2.2.2.2.2.2.2.1 z.2.2.2.2.2.2.2.2.2.2.2.2.2.2.2.2.2.2.2.2.2.1 = some (0, z.2.2.1, z.2.2.2.2.1, z.2.2.2.2.2.1, z.2.2.2.2.2.2.2.2.1, z.2.2.2.2.2.2.2.2.2.1, z.2.2.2.2.2.2.2.2.2.2.1, z.2.2.2.2.2.2.2.2.2.2.2.1, z.2.2.2.2.2.2.2.2.2.2.2.2.1) → Q = some (0, si1, sj1, sa1, sb) → ATo z n tv c l r v C Q si1 sj1 sa1 sb := by
          intro tf hq
          rw [tf, Option.bind_some] at hC
          refine addNo h' (c' := c + s + 1) (kc := 0 + (0 + kc)) (ks := 0 + (0 + ks)) (by omega) g2 (fun k hk => ?_) (by omega) (by omega) (hC.symm.trans rfl) hq
          rw [if_pos hk]
        by_cases t40 : tv = 40
        · rw [if_pos (show ii (tv : Int) = 40 by rw [t40]; rfl)] at hQ
          refine fail ?_ hQ.symm
          unfold f_Zone_addType f_Zone_addType_0
          rw [if_pos (show (40 : Int32) ≤ z.2.2.1 by rw [c6, t40]; decide)]
          rfl
        · have n40 : ¬ (40 : Int32) ≤ z.2.2.1 := by rw [c6, ii_lit, ii_le (by omega) (by omega) (by omega) (by omega)]; omega
          have e200 : ii (c : Int) + ii (s : Int) + 1 = ii ((c + s + 1 : Nat) : Int) := by rw [ii_add, show (1 : Int32) = ii 1 from rfl, ii_add]; congr 1
          rw [if_neg (show ¬ ii (tv : Int) = 40 by rw [ii_lit, ii_eq (by omega) (by omega) (by omega) (by omega)]; omega), if_neg (show ¬ (0 : Int32) ≤ -1 by decide), if_neg n4, e8w, i1, if_neg i2, d10, w9, e200] at hQ
          by_cases c200 : c + s + 1 ≤ 200
          · rw [if_pos (show ii ((c + s + 1 : Nat) : Int) ≤ 200 by rw [ii_lit, ii_le (by omega) (by omega) (by omega) (by omega)]; omega)] at hQ
            unfold f_Mo_addTime_83 at hQ
            obtain ⟨sa2, m1, ⟨m2, m3, m4, m5⟩⟩ := maddName (nf := nf) (si := si1) (sj := sj1) (sb := sb) (w := w) (c := c) (s := s) (sa := va_up sa1 6 (upd (sa1 6) 4 (ii ((tv + 1 : Nat) : Int)))) (by omega) hw w2 (by omega) ((congrFun (vup_ne (show (25 : Nat) ≠ 6 by decide)) _).trans w9) ((congrFun (vup_ne (show (7 : Nat) ≠ 6 by decide)) _).trans d10)
            rw [z4, if_neg n4, if_neg n4, if_neg n4, if_neg (show ¬ (0 : Int32) ≤ -1 by decide), if_neg n4, d7, iiS, m1, Option.bind_some, d10] at hQ
            dsimp only at hQ
            have q26 : ∀ k, k < s → sa2 17 (800 + (c + k)) = sa1 22 (512 + (p + k)) := fun k hk => (m2 k hk).trans ((congrFun (vup_ne (show (26 : Nat) ≠ 6 by decide)) _).trans (w11 k hk).1)
            have fr2 : ∀ a j, ¬ (a = 6 ∧ j = 4) → ¬ (a = 7 ∧ j = 4) → ¬ (a = 17 ∧ 800 + c ≤ j ∧ j < 1000) → sa2 a j = sa1 a j := fun a j e1 e2 e3 => (m5 a j (by omega) e2).trans (vu_ne e1)
            refine addNew h' hn hv hlt hw hN (by omega) (c' := c + s + 1) (x := c) (kc := 0 + kc) (ks := 0 + ks) (sa1 := sa2) (by omega) c200 (g2.T_congr (fun k hk => ?_)) (fun k hk => fr2 17 _ (by omega) (by omega) (by omega)) ⟨w1, w2, by omega, fun k hk => ?_, m3⟩ (by omega) (by omega) ((m5 6 4 (by omega) (by omega)).trans vu_eq) m4 fr2 hC.symm hQ.symm
            · by_cases k1 : k < c
              · rw [if_pos k1]
                exact (fr2 17 _ (by omega) (by omega) (by omega)).symm
              · rw [if_neg k1]
                by_cases k2 : k < c + s
                · rw [if_pos k2]
                  have := q26 (k - c) (by omega)
                  rw [show c + (k - c) = k by omega] at this
                  exact this.symm
                · rw [if_neg k2, show k = c + s by omega]
                  exact m3.symm
            · obtain ⟨_, y, e1, e2⟩ := w11 k hk
              exact ⟨y, (q26 k hk).trans e1, e2⟩
          · rw [if_neg (show ¬ ii ((c + s + 1 : Nat) : Int) ≤ 200 by rw [ii_lit, ii_le (by omega) (by omega) (by omega) (by omega)]; omega)] at hQ
            refine fail ?_ hQ.symm
            unfold f_Zone_addType f_Zone_addType_0
            rw [if_neg n40, if_neg (show ¬ ii ((c + s + 1 : Nat) : Int) ≤ 200 by rw [ii_lit, ii_le (by omega) (by omega) (by omega) (by omega)]; omega)]
            rfl
end
