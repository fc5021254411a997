/-! ===== the class: a name's letters, a rule's types ===== -/
theorem bmask {b : Nat} (hb : b < 256) : ii (b : Int) &&& 255 = ii (b : Int) := by
  have : ∀ b : Fin 256, (ii (b.val : Int)) &&& 255 = ii (b.val : Int) := by decide +kernel
  exact this ⟨b, hb⟩
section
variable {nf : Nat}
theorem cput17 {tyc spx upx txS stt x2 : Int32} {X txA T' : Nat → Int32} {txN r p s : Nat} (ht : RB txS txN txA r T') (hp : p + s ≤ r) (hs : s ≤ 1000) (hb : ∀ k, k < s → ∀ (cs : Int32) (N : Nat) (A : Nat → Int32), f_Zone_nameByte nf stt (ii (k : Int)) tyc X cs N A spx upx txS txN txA = some (T' (p + k))) : ∀ (d k fu : Nat), k + d = s → d < fu → ∀ {cs : Int32} {N n : Nat} {A T : Nat → Int32}, RB cs N A n T → n + d + 1 ≤ 10000 →
    ∃ N' A' kc ks, f_Zone_putName_17 nf tyc X spx upx txS txN txA fu (ii (k : Int)) (ii (s : Int)) x2 stt cs N A = some ((x2, ii ((n + d + 1 : Nat) : Int), N', A'), kc, ks) ∧ RB (ii ((n + d + 1 : Nat) : Int)) N' A' (n + d + 1) (fun q => if q < n then T q else if q < n + d then T' (p + (k + (q - n))) else 0) ∧ kc + N ≤ N' ∧ ks + 2 * N ≤ 2 * N' := by
  intro d
  induction d with
  | zero =>
    intro k fu hk hf cs N n A T h hn
    obtain ⟨f, rfl⟩ : ∃ f, fu = f + 1 := ⟨fu - 1, by omega⟩
    obtain ⟨N1, A1, k1, s1, e1, r1, c1, d1⟩ := h.put (nf := nf) (by omega) 0
    rw [f_Zone_putName_17, if_pos ((ii_le (by omega) (by omega) (by omega) (by omega)).mpr (by omega)), e1, Option.bind_some]
    dsimp only
    refine ⟨N1, A1, 0 + k1, 0 + s1, rfl, r1.T_congr (fun q hq => ?_), by omega, by omega⟩
    unfold upd
    by_cases c : q < n
    · rw [if_neg (by omega), if_pos c]
    · rw [if_pos (by omega), if_neg c, if_neg (by omega)]
      rfl
  | succ d ih =>
    intro k fu hk hf cs N n A T h hn
    obtain ⟨f, rfl⟩ : ∃ f, fu = f + 1 := ⟨fu - 1, by omega⟩
    obtain ⟨N1, A1, k1, s1, e1, r1, c1, d1⟩ := h.put (nf := nf) (by omega) (T' (p + k))
    obtain ⟨b, hb1, hb2⟩ := ht.byte (k := p + k) (by omega)
    have em : T' (p + k) &&& 255 = T' (p + k) := by rw [hb2, bmask hb1]
    obtain ⟨N2, A2, k2, s2, e2, r2, c2, d2⟩ := ih (k + 1) f (by omega) (by omega) r1 (by omega)
    rw [f_Zone_putName_17, if_neg (by rw [ii_le (by omega) (by omega) (by omega) (by omega)]; omega), hb k (by omega), Option.bind_some, e1, Option.bind_some]
    dsimp only
    rw [iiS, e2]
    refine ⟨N2, A2, k2 + k1, s2 + s1, ?_, ?_, by omega, by omega⟩
    · rw [show n + (d + 1) + 1 = n + 1 + d + 1 by omega]
      rfl
    · rw [show n + (d + 1) + 1 = n + 1 + d + 1 by omega]
      refine r2.T_congr (fun q hq => ?_)
      unfold upd
      by_cases c : q < n
      · rw [if_pos (by omega), if_neg (by omega), if_pos c]
      · by_cases c2 : q = n
        · subst c2
          rw [if_pos (by omega), if_pos rfl, if_neg (by omega), if_pos (by omega), em, Nat.sub_self, Nat.add_zero]
        · rw [if_neg (by omega), if_neg c]
          by_cases c3 : q < n + 1 + d
          · rw [if_pos c3, if_pos (by omega), show k + 1 + (q - (n + 1)) = k + (q - n) by omega]
          · rw [if_neg c3, if_neg (by omega)]
theorem cnbS {tyc spx upx txS : Int32} {X txA T' : Nat → Int32} {txN r p s : Nat} (ht : RB txS txN txA r T') (hr : r ≤ 9000) (hp : p + s ≤ r) (hsp : spx = ii (p : Int)) : ∀ k, k < s → ∀ (cs : Int32) (N : Nat) (A : Nat → Int32), f_Zone_nameByte nf (-1) (ii (k : Int)) tyc X cs N A spx upx txS txN txA = some (T' (p + k)) := by
  intro k hk cs N A
  unfold f_Zone_nameByte f_Zone_nameByte_0 f_Zone_nameByte_63
  rw [if_pos (by decide), if_neg (by decide), hsp, ii_add, show ((k : Int) + (p : Int)) = ((p + k : Nat) : Int) by omega, ht.get (by omega)]
  rfl
theorem cnbU {tyc spx upx txS : Int32} {X txA T' : Nat → Int32} {txN r p s : Nat} (ht : RB txS txN txA r T') (hr : r ≤ 9000) (hp : p + s ≤ r) (hsp : upx = ii (p : Int)) : ∀ k, k < s → ∀ (cs : Int32) (N : Nat) (A : Nat → Int32), f_Zone_nameByte nf (-2) (ii (k : Int)) tyc X cs N A spx upx txS txN txA = some (T' (p + k)) := by
  intro k hk cs N A
  unfold f_Zone_nameByte f_Zone_nameByte_0 f_Zone_nameByte_63
  rw [if_pos (by decide), if_pos (by decide), hsp, ii_add, show ((k : Int) + (p : Int)) = ((p + k : Nat) : Int) by omega, ht.get (by omega)]
  rfl
theorem cnsS {tyc cs ss us : Int32} {X A : Nat → Int32} {N t : Nat} (ht : tyc = ii (t : Int)) (ht2 : t ≤ 40) : f_Zone_nameSize nf (-1) tyc X cs N A ss us = some ss := by
  unfold f_Zone_nameSize f_Zone_nameSize_0 f_Zone_nameSize_43
  rw [if_neg (by decide), ht, if_pos (by rw [show (-1 : Int32) = ii (-1) from rfl, ii_lt (by omega) (by omega) (by omega) (by omega)]; omega), if_neg (by decide), if_neg (by decide)]
theorem cnsU {tyc cs ss us : Int32} {X A : Nat → Int32} {N t : Nat} (ht : tyc = ii (t : Int)) (ht2 : t ≤ 40) : f_Zone_nameSize nf (-2) tyc X cs N A ss us = some us := by
  unfold f_Zone_nameSize f_Zone_nameSize_0 f_Zone_nameSize_43
  rw [if_neg (by decide), ht, if_pos (by rw [show (-2 : Int32) = ii (-2) from rfl, ii_lt (by omega) (by omega) (by omega) (by omega)]; omega), if_neg (by decide), if_pos (by decide)]
/-- putName: of the standard, of the summer -/
theorem cputS (hnf : 10000 ≤ nf) {tyc spx upx ssx usx txS cs : Int32} {X txA T' A T : Nat → Int32} {txN r p s t N n : Nat} (ht : RB txS txN txA r T') (hr : r ≤ 9000) (hp : p + s ≤ r) (hs : s ≤ 1000) (hsp : spx = ii (p : Int)) (hss : ssx = ii (s : Int)) (hty : tyc = ii (t : Int)) (ht2 : t ≤ 40) (h : RB cs N A n T) (hn : n + s + 1 ≤ 10000) :
    ∃ N' A' kc ks, f_Zone_putName nf (-1) tyc X cs N A spx ssx upx usx txS txN txA = some ((ii (n : Int), ii ((n + s + 1 : Nat) : Int), N', A'), kc, ks) ∧ RB (ii ((n + s + 1 : Nat) : Int)) N' A' (n + s + 1) (fun q => if q < n then T q else if q < n + s then T' (p + (q - n)) else 0) ∧ kc + N ≤ N' ∧ ks + 2 * N ≤ 2 * N' := by
  obtain ⟨N', A', kc, ks, e, r1, q1, q2⟩ := cput17 (nf := nf) (x2 := cs) ht hp hs (cnbS ht hr hp hsp (tyc := tyc) (upx := upx) (X := X)) s 0 nf (by omega) (by omega) h (by omega)
  refine ⟨N', A', kc, ks, ?_, r1.T_congr (fun q hq => ?_), q1, q2⟩
  · unfold f_Zone_putName f_Zone_putName_0
    rw [cnsS hty ht2, Option.bind_some, hss, show (0 : Int32) = ii ((0 : Nat) : Int) from rfl, e, h.1]
  · rw [Nat.zero_add]
theorem cputU (hnf : 10000 ≤ nf) {tyc spx upx ssx usx txS cs : Int32} {X txA T' A T : Nat → Int32} {txN r p s t N n : Nat} (ht : RB txS txN txA r T') (hr : r ≤ 9000) (hp : p + s ≤ r) (hs : s ≤ 1000) (hsp : upx = ii (p : Int)) (hss : usx = ii (s : Int)) (hty : tyc = ii (t : Int)) (ht2 : t ≤ 40) (h : RB cs N A n T) (hn : n + s + 1 ≤ 10000) :
    ∃ N' A' kc ks, f_Zone_putName nf (-2) tyc X cs N A spx ssx upx usx txS txN txA = some ((ii (n : Int), ii ((n + s + 1 : Nat) : Int), N', A'), kc, ks) ∧ RB (ii ((n + s + 1 : Nat) : Int)) N' A' (n + s + 1) (fun q => if q < n then T q else if q < n + s then T' (p + (q - n)) else 0) ∧ kc + N ≤ N' ∧ ks + 2 * N ≤ 2 * N' := by
  obtain ⟨N', A', kc, ks, e, r1, q1, q2⟩ := cput17 (nf := nf) (x2 := cs) ht hp hs (cnbU ht hr hp hsp (tyc := tyc) (spx := spx) (X := X)) s 0 nf (by omega) (by omega) h (by omega)
  refine ⟨N', A', kc, ks, ?_, r1.T_congr (fun q hq => ?_), q1, q2⟩
  · unfold f_Zone_putName f_Zone_putName_0
    rw [cnsU hty ht2, Option.bind_some, hss, show (0 : Int32) = ii ((0 : Nat) : Int) from rfl, e, h.1]
  · rw [Nat.zero_add]
def sOf (stt so uo : Int32) : Int32 := if stt = -2 then uo else so
def sDs (stt : Int32) : Int32 := if stt = -2 then 1 else 0
theorem caddType {stt x so uo cs tyc stc utc : Int32} {of ds ix sd ut : Nat → Int32} {t d u c : Nat} (hst : stt = -1 ∨ stt = -2) (hc : cs = ii (c : Int)) (hc2 : c ≤ 200) (ht : tyc = ii (t : Int)) (ht2 : t < 40) (hd : stc = ii (d : Int)) (hd2 : d ≤ 40) (hu : utc = ii (u : Int)) (hu2 : u ≤ 40) : f_Zone_addType nf stt x tyc stc utc of ds ix sd ut cs so uo = some (1, ii ((t + 1 : Nat) : Int), ii ((if 0 < d then t + 1 else 0 : Nat) : Int), ii ((if 0 < u then t + 1 else 0 : Nat) : Int), upd of t (sOf stt so uo), upd ds t (sDs stt), upd ix t x, upd sd t 0, upd ut t 0) := by
  have e1 : (ii (t : Int)).toNatClampNeg = t := by rw [ii_nat (by omega) (by omega)]; omega
  have e2 : ¬ (ii (t : Int) < 0 ∨ 40 ≤ t) := by rw [ii_lit, ii_lt (by omega) (by omega) (by omega) (by omega)]; omega
  have o1 : f_Zone_offsetOf nf stt tyc of so uo = some (sOf stt so uo) := by
    unfold f_Zone_offsetOf f_Zone_offsetOf_0 f_Zone_offsetOf_46 sOf
    rcases hst with rfl | rfl
    · rw [if_pos (by decide), if_neg (by decide), if_neg (by decide)]
    · rw [if_pos (by decide), if_pos (by decide), if_pos (by decide)]
  have o2 : f_Zone_dstOf nf stt tyc ds = some (sDs stt) := by
    unfold f_Zone_dstOf f_Zone_dstOf_0 f_Zone_dstOf_34 sDs
    rcases hst with rfl | rfl
    · rw [if_pos (by decide), if_neg (by decide), if_neg (by decide)]
    · rw [if_pos (by decide), if_pos (by decide), if_pos (by decide)]
  have dp : (ii (d : Int) ≤ 0) ↔ ¬ 0 < d := by rw [ii_lit, ii_le (by omega) (by omega) (by omega) (by omega)]; omega
  have up : (ii (u : Int) ≤ 0) ↔ ¬ 0 < u := by rw [ii_lit, ii_le (by omega) (by omega) (by omega) (by omega)]; omega
  unfold f_Zone_addType f_Zone_addType_0
  rw [o1, o2, ht, hc, if_neg (by rw [ii_lit, ii_le (by omega) (by omega) (by omega) (by omega)]; omega), if_pos (by rw [ii_lit, ii_le (by omega) (by omega) (by omega) (by omega)]; omega), Option.bind_some, Option.bind_some, e1, if_neg e2, if_neg e2, if_neg e2, if_neg e2, if_neg e2, hd, hu, iiS]
  unfold f_Zone_addType_108 f_Zone_addType_127
  by_cases c1 : 0 < d
  · by_cases c2 : 0 < u
    · rw [if_neg (by rw [dp]; omega), if_neg (by rw [up]; omega), if_pos c1, if_pos c2]
    · rw [if_neg (by rw [dp]; omega), if_pos (by rw [up]; omega), if_pos c1, if_neg c2]
      rfl
  · by_cases c2 : 0 < u
    · rw [if_pos (by rw [dp]; omega), if_neg (by rw [up]; omega), if_neg c1, if_pos c2]
      rfl
    · rw [if_pos (by rw [dp]; omega), if_pos (by rw [up]; omega), if_neg c1, if_neg c2]
      rfl
theorem cbecome (hnf : 10000 ≤ nf) {ver a0 a1 a2 a3 a4 a5 cs has so uo spx ssx upx usx txS : Int32} {of ds ix sd ut A T txA T' : Nat → Int32} {N n txN r p s p1 s1 : Nat} (hch : RB cs N A n T) (ht : RB txS txN txA r T') (hr : r ≤ 9000) (hp : p + s ≤ r) (hs : s ≤ 10) (hsp : spx = ii (p : Int)) (hss : ssx = ii (s : Int)) (hh : has = 0 ∨ has = 1) (h1 : has = 1 → p1 + s1 ≤ r ∧ s1 ≤ 10 ∧ upx = ii (p1 : Int) ∧ usx = ii (s1 : Int)) :
    ∃ (h c : Nat) (of' ds' ix' sd' ut' : Nat → Int32) (N' : Nat) (A' Tc : Nat → Int32) (kc ks : Nat), f_Zone_becomeRule nf ver a0 a1 a2 a3 a4 a5 of ds ix sd ut cs N A has so uo spx ssx upx usx txS txN txA = some ((ver, 0, ii (h : Int), 0, 0, 0, of', ds', ix', sd', ut', ii (c : Int), N', A'), kc, ks) ∧ RB (ii (c : Int)) N' A' c Tc ∧ kc + N ≤ N' ∧ ks + 2 * N ≤ 2 * N' ∧
      of' 0 = so ∧ ds' 0 = 0 ∧ ix' 0 = 0 ∧ (∀ k, k < s → Tc k = T' (p + k)) ∧ Tc s = 0 ∧ (has = 0 → h = 1 ∧ c = s + 1) ∧
      (has = 1 → h = 2 ∧ c = s + 1 + s1 + 1 ∧ of' 1 = uo ∧ ds' 1 = 1 ∧ ix' 1 = ii ((s + 1 : Nat) : Int) ∧ (∀ k, k < s1 → Tc (s + 1 + k) = T' (p1 + k)) ∧ Tc (s + 1 + s1) = 0) := by
  obtain ⟨N1, A1, k1, q1, e1, r1, c1, d1⟩ := cputS hnf (tyc := 0) (X := ix) (upx := upx) (usx := usx) (t := 0) ht hr hp (by omega) hsp hss rfl (by omega) (hch.clear T) (by omega)
  have e2 := caddType (nf := nf) (stt := -1) (x := ii ((0 : Nat) : Int)) (so := so) (uo := uo) (of := of) (ds := ds) (ix := ix) (sd := sd) (ut := ut) (t := 0) (d := 0) (u := 0) (c := 0 + s + 1) (Or.inl rfl) rfl (by omega) rfl (by omega) rfl (by omega) rfl (by omega)
  have i0 : ((if 0 < 0 then 0 + 1 else 0 : Nat) : Int) = ((0 : Nat) : Int) := rfl
  rw [i0] at e2
  generalize hF : f_Zone_becomeRule nf ver a0 a1 a2 a3 a4 a5 of ds ix sd ut cs N A has so uo spx ssx upx usx txS txN txA = F
  unfold f_Zone_becomeRule f_Zone_becomeRule_0 at hF
  rw [show f_By_clear nf cs = some 0 from rfl, Option.bind_some, e1, Option.bind_some] at hF
  dsimp only at hF
  rw [show (0 : Int32) = ii ((0 : Nat) : Int) from rfl, e2, Option.bind_some] at hF
  dsimp only at hF
  unfold f_Zone_becomeRule_71 at hF
  rcases hh with rfl | rfl
  · rw [if_pos (show (0 : Int32) = ii ((0 : Nat) : Int) from rfl)] at hF
    refine ⟨1, s + 1, upd of 0 (sOf (-1) so uo), upd ds 0 (sDs (-1)), upd ix 0 (ii ((0 : Nat) : Int)), upd sd 0 (ii ((0 : Nat) : Int)), upd ut 0 (ii ((0 : Nat) : Int)), N1, A1, fun q => if q < 0 then T q else if q < 0 + s then T' (p + (q - 0)) else 0, 0 + k1, 0 + q1, hF.symm.trans ?_, ?_, ?_, ?_, ?_, ?_, ?_, ?_, ?_, fun _ => ⟨rfl, rfl⟩, fun z => absurd z (by decide)⟩
    · rw [show 0 + s + 1 = s + 1 by omega]
      rfl
    · rw [show 0 + s + 1 = s + 1 by omega] at r1
      exact r1
    · omega
    · omega
    · rfl
    · rfl
    · rfl
    · intro k hk
      dsimp only
      rw [if_neg (by omega), if_pos (by omega), Nat.sub_zero]
    · dsimp only
      rw [if_neg (by omega), if_neg (by omega)]
  · obtain ⟨g1, g2, g3, g4⟩ := h1 rfl
    obtain ⟨N2, A2, k2, q2, e3, r2, c2, d2⟩ := cputU hnf (tyc := ii ((0 + 1 : Nat) : Int)) (X := upd ix 0 (ii ((0 : Nat) : Int))) (spx := spx) (ssx := ssx) (t := 0 + 1) ht hr g1 (by omega) g3 g4 rfl (by omega) r1 (by omega)
    have e4 := caddType (nf := nf) (stt := -2) (x := ii ((0 + s + 1 : Nat) : Int)) (so := so) (uo := uo) (of := upd of 0 (sOf (-1) so uo)) (ds := upd ds 0 (sDs (-1))) (ix := upd ix 0 (ii ((0 : Nat) : Int))) (sd := upd sd 0 0) (ut := upd ut 0 0) (t := 0 + 1) (d := 0) (u := 0) (c := 0 + s + 1 + s1 + 1) (Or.inr rfl) rfl (by omega) rfl (by omega) rfl (by omega) rfl (by omega)
    rw [show ((if 0 < 0 then 0 + 1 + 1 else 0 : Nat) : Int) = ((0 : Nat) : Int) from rfl] at e4
    rw [if_neg (show ¬ (1 : Int32) = ii ((0 : Nat) : Int) by decide), e3, Option.bind_some] at hF
    dsimp only at hF
    rw [e4, Option.bind_some] at hF
    dsimp only at hF
    refine ⟨2, s + 1 + s1 + 1, upd (upd of 0 (sOf (-1) so uo)) (0 + 1) (sOf (-2) so uo), upd (upd ds 0 (sDs (-1))) (0 + 1) (sDs (-2)), upd (upd ix 0 (ii ((0 : Nat) : Int))) (0 + 1) (ii ((0 + s + 1 : Nat) : Int)), upd (upd sd 0 (ii ((0 : Nat) : Int))) (0 + 1) (ii ((0 : Nat) : Int)), upd (upd ut 0 (ii ((0 : Nat) : Int))) (0 + 1) (ii ((0 : Nat) : Int)), N2, A2, fun q => if q < 0 + s + 1 then (if q < 0 then T q else if q < 0 + s then T' (p + (q - 0)) else 0) else if q < 0 + s + 1 + s1 then T' (p1 + (q - (0 + s + 1))) else 0, 0 + k2 + k1, 0 + q2 + q1, hF.symm.trans ?_, ?_, ?_, ?_, ?_, ?_, ?_, ?_, ?_, fun z => absurd z (by decide), fun _ => ⟨rfl, rfl, ?_, ?_, ?_, ?_, ?_⟩⟩
    · rw [show 0 + s + 1 + s1 + 1 = s + 1 + s1 + 1 by omega]
      rfl
    · rw [show 0 + s + 1 + s1 + 1 = s + 1 + s1 + 1 by omega] at r2
      exact r2
    · omega
    · omega
    · rfl
    · rfl
    · rfl
    · intro k hk
      dsimp only
      rw [if_pos (by omega), if_neg (by omega), if_pos (by omega), Nat.sub_zero]
    · dsimp only
      rw [if_pos (by omega), if_neg (by omega), if_neg (by omega)]
    · rfl
    · rfl
    · show ii ((0 + s + 1 : Nat) : Int) = _
      rw [show 0 + s + 1 = s + 1 by omega]
    · intro k hk
      dsimp only
      rw [if_neg (by omega), if_pos (by omega), show s + 1 + k - (0 + s + 1) = k by omega]
    · dsimp only
      rw [if_neg (by omega), if_neg (by omega)]
end
