/-! ===== read: how it ends ===== -/
section
variable {nf : Nat} {S : CS} {si si' : Nat → Int32} {sj sj' : Nat → Int64} {sa sa' : Nat → Nat → Int32} {sb sb' : Nat → Nat → Int64} {c : Option (Int32 × Int64 × CS × Nat × Nat)}
def RdI (si si' : Nat → Int32) (sj sj' : Nat → Int64) (sa sa' : Nat → Nat → Int32) (sb sb' : Nat → Nat → Int64) : Prop := (∀ k, kI k → k ≠ 2 → si' k = si k) ∧ si' 3 = 0 ∧ sj' 65 = sj 65 ∧ (∀ a j, a = 56 ∨ (∃ q, q < 4 ∧ kAz q a j) → sa' a j = sa a j) ∧ ∀ b j, b = 54 ∨ b = 63 ∨ b = 64 ∨ (∃ q, q < 4 ∧ kBz q b j) → sb' b j = sb b j
theorem rdBad (h : RR S (si, sj, sa, sb)) {n : Nat} {T : Nat → Int32} (n2 : RB S.1.1 S.1.2.1 S.1.2.2.1 n T) {f pp x1 : Int32} {z' : ZS} {kc ks : Nat} (e1 : c = some (0, f.toInt64, ((0, S.1.2.1, S.1.2.2.1, S.1.2.2.2.1, S.1.2.2.2.2.1, S.1.2.2.2.2.2.1, S.1.2.2.2.2.2.2.1, pp, S.1.2.2.2.2.2.2.2.2), zup S.2 4 z'), kc, ks)) (w36 : si' 36 = f) (w2 : si' 2 = pp) (hI : RdI si si' sj sj' sa sa' sb sb') (hz : RSpa z') (hk : kc + pz (S.2 4) ≤ 10 + pz z') (hs : ks + 2 * pz (S.2 4) ≤ 100 + 2 * pz z') : STWi nf RR S c (f_Mo_read_77 nf 0 x1 si' sj' sa' sb') := by
  have e2 : f_Mo_read_77 nf 0 x1 si' sj' sa' sb' = some (f, va_up si' 1 0, sj', sa', sb') := by
    unfold f_Mo_read_77 f_Mo_read_92
    rw [if_pos rfl, vup_ne (by decide), w36]
  have h' : RR S (si, sj', sa, sb) := h.scr (fun _ _ => rfl) hI.2.2.1
  refine refI e1 e2 ?_ (h'.ref (n2.clear (sa' 0)) rfl ?_ (fun k hk k1 k2 => by rw [vup_ne k1]; exact hI.1 k hk k2) (fun j => hI.2.2.2.1 56 j (Or.inl rfl)) (fun b j hb => hI.2.2.2.2 b j (by omega)) hz (fun q hq a j hk => hI.2.2.2.1 a j (Or.inr ⟨q, hq, hk⟩)) (fun q hq b j hk => hI.2.2.2.2 b j (Or.inr (Or.inr (Or.inr ⟨q, hq, hk⟩))))) hk hs
  · show va_up si' 1 0 3 = 0
    rw [vup_ne (by decide)]
    exact hI.2.1
  · exact (vup_ne (by decide)).trans w2
theorem rdGood (hnf : 10000 ≤ nf) (h : RR S (si, sj, sa, sb)) {n i : Nat} (hi : i < 4) {T : Nat → Int32} (n2 : RB S.1.1 S.1.2.1 S.1.2.2.1 n T) {z' : ZS} {kc ks : Nat} (e1 : c = some (0, (0 : Int32).toInt64, ((0, S.1.2.1, S.1.2.2.1, S.1.2.2.2), zsw S.2 i z'), kc, ks)) (w36 : si' 36 = 0) (w2 : si' 2 = si 2) (hI : RdI si si' sj sj' sa sa' sb sb') (hz : RZon z' sa' sb' 4) (hk : kc + pz (S.2 4) ≤ 10 + pz z') (hs : ks + 2 * pz (S.2 4) ≤ 100 + 2 * pz z') : STWi nf RR S c (f_Mo_read_77 nf 1 (ii (i : Int)) si' sj' sa' sb') := by
  have p1 := mput (nf := nf) (si := va_up si' 1 0) (sj := sj') (x := i) (o := 4) (by omega) (by omega) (by omega) (by omega) sa' sb'
  rw [show ii ((4 : Nat) : Int) = (4 : Int32) from rfl] at p1
  have e2 : f_Mo_read_77 nf 1 (ii (i : Int)) si' sj' sa' sb' = some (0, va_up si' 1 0, sj', putA i 4 sa', putB i 4 sb') := by
    unfold f_Mo_read_77 f_Mo_read_92
    rw [if_neg (by decide), p1, Option.bind_some]
    dsimp only
    rw [vup_ne (by decide), w36]
  have h' : RR S (si, sj', sa, sb) := h.scr (fun _ _ => rfl) hI.2.2.1
  refine swpI hi e1 e2 (show va_up si' 1 0 3 = 0 by rw [vup_ne (by decide)]; exact hI.2.1) (h'.swap hi (n2.clear _) rfl (fun k hk k1 => ?_) (fun j => ?_) (fun b j hb => ?_) (hz.mv (putA_mv i 4 sa') (putB_mv i 4 sb')) (fun q hq hqi a j hk => ?_) (fun q hq hqi a j hk => ?_)) hk hs
  · rw [vup_ne k1]
    by_cases k2 : k = 2
    · rw [k2]
      exact w2
    · exact hI.1 k hk k2
  · rw [putA_out (by unfold kAz; omega)]
    exact hI.2.2.2.1 56 j (Or.inl rfl)
  · rw [putB_out (by unfold kBz; omega)]
    exact hI.2.2.2.2 b j (by omega)
  · rw [putA_out (kAz_dis hk hqi)]
    exact hI.2.2.2.1 a j (Or.inr ⟨q, hq, hk⟩)
  · rw [putB_out (kBz_dis hk hqi)]
    exact hI.2.2.2.2 a j (Or.inr (Or.inr (Or.inr ⟨q, hq, hk⟩)))
theorem RdF.i {f pp : Int32} (h : RdF (va_up (va_up si 3 0) 36 0) si' sa sa' sb sb' f pp) : RdI si si' sj sj sa sa' sb sb' := by
  refine ⟨fun k hk k2 => ?_, ?_, rfl, fun a j ha => ?_, fun b j hb => ?_⟩
  · unfold kI at hk
    rw [h.2.2.1 k (by omega) k2, vup_ne (by omega), vup_ne (by omega)]
  · rw [h.2.2.1 3 (by omega) (by decide), vup_ne (by decide), vup_eq]
  · rcases ha with rfl | ⟨q, hq, hk⟩
    · exact h.2.2.2.1 56 j (by unfold kAz; omega)
    · exact h.2.2.2.1 a j (kAz_dis hk (by omega))
  · refine h.2.2.2.2 b j ?_ ?_
    · rintro rfl
      rcases hb with hb | hb | hb | ⟨q, hq, hk⟩
      · omega
      · omega
      · omega
      · unfold kBz at hk
        omega
    · rcases hb with hb | hb | hb | ⟨q, hq, hk⟩
      · unfold kBz; omega
      · unfold kBz; omega
      · unfold kBz; omega
      · exact kBz_dis hk (by omega)
theorem RdK.i (h : RdK (va_up (va_up si 3 0) 36 0) si' sa sa' sb sb') : RdI si si' sj sj sa sa' sb sb' := by
  refine RdF.i (f := si' 36) (pp := si' 2) ⟨rfl, rfl, fun k hk _ => h.1 k (by omega), h.2.1, h.2.2⟩
/-- one more row cell of zone 4 -/
theorem RdI.c4 (h : RdI si si' sj sj' sa sa' sb sb') {a0 j0 : Nat} (h0 : kAz 4 a0 j0) {x : Int32} : RdI si si' sj sj' sa (va_up sa' a0 (upd (sa' a0) j0 x)) sb sb' := by
  refine ⟨h.1, h.2.1, h.2.2.1, fun a j ha => ?_, h.2.2.2.2⟩
  rw [vu_ne]
  · exact h.2.2.2.1 a j ha
  · rintro ⟨rfl, rfl⟩
    rcases ha with rfl | ⟨q, hq, hk⟩
    · unfold kAz at h0
      omega
    · exact kAz_dis hk (by omega) h0
theorem RdI.flt (h : RdI si si' sj sj' sa sa' sb sb') (f pp : Int32) : RdI si (va_up (va_up si' 36 f) 2 pp) sj sj' sa sa' sb sb' :=
  ⟨fun k hk k2 => by rw [vup_ne k2, vup_ne (by unfold kI at hk; omega)]; exact h.1 k hk k2, h.2.1, h.2.2⟩
theorem RdI.qf {si'' : Nat → Int32} {sj'' : Nat → Int64} {sa'' : Nat → Nat → Int32} (h : RdI si si' sj sj' sa sa' sb sb') (q : QF si' si'' sj' sj'' sa' sa'') : RdI si si'' sj sj'' sa sa'' sb sb' := by
  refine ⟨fun k hk k2 => by rw [q.1 k (by unfold kI at hk; omega)]; exact h.1 k hk k2, (q.1 3 (by omega)).trans h.2.1, (q.2.1 65 (by decide)).trans h.2.2.1, fun a j ha => ?_, h.2.2.2.2⟩
  rw [q.2.2 a]
  · exact h.2.2.2.1 a j ha
  · rintro rfl
    rcases ha with ha | ⟨q, hq, hk⟩
    · omega
    · unfold kAz at hk; omega
  · rintro rfl
    rcases ha with ha | ⟨q, hq, hk⟩
    · omega
    · unfold kAz at hk; omega
end
