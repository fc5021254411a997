/-! ===== stretch: a zone with one type more, one time more ===== -/
abbrev ZM : Type := Int32 × Int32 × Int32 × Int32 × (Nat → Int64) × (Nat → Int32) × (Nat → Int32) × (Nat → Int32) × (Nat → Int32) × (Nat → Int32) × (Nat → Int32) × Int32 × Nat × (Nat → Int32)
def zM (z : ZS) (Q : ZM) : ZS := (z.1, Q.1, Q.2.1, z.2.2.2.1, Q.2.2.1, Q.2.2.2.1, Q.2.2.2.2.1, Q.2.2.2.2.2.1, Q.2.2.2.2.2.2.1, Q.2.2.2.2.2.2.2.1, Q.2.2.2.2.2.2.2.2.1, Q.2.2.2.2.2.2.2.2.2.1, Q.2.2.2.2.2.2.2.2.2.2.1, Q.2.2.2.2.2.2.2.2.2.2.2.1, Q.2.2.2.2.2.2.2.2.2.2.2.2.1, Q.2.2.2.2.2.2.2.2.2.2.2.2.2, z.2.2.2.2.2.2.2.2.2.2.2.2.2.2.2.2.1, z.2.2.2.2.2.2.2.2.2.2.2.2.2.2.2.2.2.1, z.2.2.2.2.2.2.2.2.2.2.2.2.2.2.2.2.2.2.1, z.2.2.2.2.2.2.2.2.2.2.2.2.2.2.2.2.2.2.2.1, z.2.2.2.2.2.2.2.2.2.2.2.2.2.2.2.2.2.2.2.2.1, z.2.2.2.2.2.2.2.2.2.2.2.2.2.2.2.2.2.2.2.2.2.1, z.2.2.2.2.2.2.2.2.2.2.2.2.2.2.2.2.2.2.2.2.2.2.1, z.2.2.2.2.2.2.2.2.2.2.2.2.2.2.2.2.2.2.2.2.2.2.2.1, z.2.2.2.2.2.2.2.2.2.2.2.2.2.2.2.2.2.2.2.2.2.2.2.2.1, z.2.2.2.2.2.2.2.2.2.2.2.2.2.2.2.2.2.2.2.2.2.2.2.2.2.1, z.2.2.2.2.2.2.2.2.2.2.2.2.2.2.2.2.2.2.2.2.2.2.2.2.2.2.1, z.2.2.2.2.2.2.2.2.2.2.2.2.2.2.2.2.2.2.2.2.2.2.2.2.2.2.2.1, z.2.2.2.2.2.2.2.2.2.2.2.2.2.2.2.2.2.2.2.2.2.2.2.2.2.2.2.2.1, z.2.2.2.2.2.2.2.2.2.2.2.2.2.2.2.2.2.2.2.2.2.2.2.2.2.2.2.2.2.1, z.2.2.2.2.2.2.2.2.2.2.2.2.2.2.2.2.2.2.2.2.2.2.2.2.2.2.2.2.2.2.1, z.2.2.2.2.2.2.2.2.2.2.2.2.2.2.2.2.2.2.2.2.2.2.2.2.2.2.2.2.2.2.2.1, z.2.2.2.2.2.2.2.2.2.2.2.2.2.2.2.2.2.2.2.2.2.2.2.2.2.2.2.2.2.2.2.2.1, z.2.2.2.2.2.2.2.2.2.2.2.2.2.2.2.2.2.2.2.2.2.2.2.2.2.2.2.2.2.2.2.2.2.1, z.2.2.2.2.2.2.2.2.2.2.2.2.2.2.2.2.2.2.2.2.2.2.2.2.2.2.2.2.2.2.2.2.2.2.1, z.2.2.2.2.2.2.2.2.2.2.2.2.2.2.2.2.2.2.2.2.2.2.2.2.2.2.2.2.2.2.2.2.2.2.2.1, z.2.2.2.2.2.2.2.2.2.2.2.2.2.2.2.2.2.2.2.2.2.2.2.2.2.2.2.2.2.2.2.2.2.2.2.2.1, z.2.2.2.2.2.2.2.2.2.2.2.2.2.2.2.2.2.2.2.2.2.2.2.2.2.2.2.2.2.2.2.2.2.2.2.2.2.1, z.2.2.2.2.2.2.2.2.2.2.2.2.2.2.2.2.2.2.2.2.2.2.2.2.2.2.2.2.2.2.2.2.2.2.2.2.2.2.1, z.2.2.2.2.2.2.2.2.2.2.2.2.2.2.2.2.2.2.2.2.2.2.2.2.2.2.2.2.2.2.2.2.2.2.2.2.2.2.2.1, z.2.2.2.2.2.2.2.2.2.2.2.2.2.2.2.2.2.2.2.2.2.2.2.2.2.2.2.2.2.2.2.2.2.2.2.2.2.2.2.2.1, z.2.2.2.2.2.2.2.2.2.2.2.2.2.2.2.2.2.2.2.2.2.2.2.2.2.2.2.2.2.2.2.2.2.2.2.2.2.2.2.2.2)
def RZX (z : ZS) (sa : Nat → Nat → Int32) (sb : Nat → Nat → Int64) (i n t c l d u r : Nat) (tm : Nat → Int) (tt : Nat → Nat) (of ds : Nat → Int) (ix sz : Nat → Nat) : Prop := ZCnt z sa i n t c l d u r ∧ RB z.2.2.2.2.2.2.2.2.2.2.2.2.2.1 z.2.2.2.2.2.2.2.2.2.2.2.2.2.2.1 z.2.2.2.2.2.2.2.2.2.2.2.2.2.2.2.1 c (fun k => sa 17 (200 * i + k)) ∧ RB z.2.2.2.2.2.2.2.2.2.2.2.2.2.2.2.2.2.2.2.2.2.2.2.2.2.2.2.1 z.2.2.2.2.2.2.2.2.2.2.2.2.2.2.2.2.2.2.2.2.2.2.2.2.2.2.2.2.1 z.2.2.2.2.2.2.2.2.2.2.2.2.2.2.2.2.2.2.2.2.2.2.2.2.2.2.2.2.2.1 r (fun k => sa 22 (128 * i + k)) ∧ ZTim z sa sb i n t tm tt ∧ ZTyp z sa i t c (fun k => sa 17 (200 * i + k)) of ds ix sz ∧ ZFlg z sa i d u ∧ ZLea z sb i l ∧ ZRul z sa i r
/-- the cells that a zone's rule has -/
def kRz (i a j : Nat) : Prop := (a = 23 ∧ j = i) ∨ (a = 22 ∧ 128 * i ≤ j ∧ j < 128 * i + 128) ∨ ((a = 24 ∨ a = 25 ∨ 27 ≤ a ∧ a ≤ 31) ∧ 2 * i ≤ j ∧ j < 2 * i + 2) ∨ (a = 26 ∧ 20 * i ≤ j ∧ j < 20 * i + 20)
section
variable {z : ZS} {sa sa' : Nat → Nat → Int32} {sb sb' : Nat → Nat → Int64} {i n t c l d u r : Nat} {tm : Nat → Int} {tt : Nat → Nat} {of ds : Nat → Int} {ix sz : Nat → Nat}
theorem RZX.zon (h : RZX z sa sb i n t c l d u r tm tt of ds ix sz) : RZon z sa sb i := ⟨n, t, c, l, d, u, r, tm, tt, of, ds, ix, sz, h⟩
theorem ZNam.rcongr {sz pl : Int32} {w s p : Nat} (h : ZNam sz pl sa i w r s p) (hw : w < 2) (hr : r ≤ 128) (k : ∀ a j, kRz i a j → sa' a j = sa a j) : ZNam sz pl sa' i w r s p := by
  obtain ⟨h1, h2, h3, h4, h5, h6, h7⟩ := h
  refine ⟨h1, h2, h3, h4, h5, (k 25 _ (by unfold kRz; omega)).trans h6, fun q hq => ?_⟩
  obtain ⟨g1, v, g2, g3⟩ := h7 q hq
  rw [k 26 (20 * i + 10 * w + q) (by unfold kRz; omega), k 22 (128 * i + (p + q)) (by unfold kRz; omega)]
  exact ⟨g1, v, g2, g3⟩
theorem ZRul.rcongr (h : ZRul z sa i r) (hr : r ≤ 128) (ka : ∀ a j, kRz i a j → sa' a j = sa a j) : ZRul z sa' i r := by
  rcases h with ⟨g1, g2, g3⟩ | ⟨g1, wd, sp, ss, so, x, g2, g3, g4, g5, g6, g7, g8⟩
  · exact Or.inl ⟨g1, (ka 23 i (by unfold kRz; omega)).trans g2, g3⟩
  · refine Or.inr ⟨g1, wd, sp, ss, so, x, ?_, g3.rcongr (by omega) hr ka, g4, (ka 24 _ (by unfold kRz; omega)).trans g5, g6, g7, ?_⟩
    · rw [LL_congr (T := fun k => sa 22 (128 * i + k)) (fun k hk => ka 22 _ (by unfold kRz; omega))]
      exact g2
    · match x, g8 with
      | none, ⟨a1, a2, a3⟩ => exact ⟨a1, (ka 23 i (by unfold kRz; omega)).trans a2, a3⟩
      | some (up, us, uo, d1, t1, d2, t2, w), ⟨a1, a2, a3, a4, a5, a6, a7, a8, a9, a10, ⟨b1, b2, b3, b4⟩, a12⟩ =>
        exact ⟨a1, (ka 23 i (by unfold kRz; omega)).trans a2, a3, a4.rcongr (by omega) hr ka, a5, (ka 24 _ (by unfold kRz; omega)).trans a6, a7, a8, a9, a10, ⟨b1.congr (fun a ha => ka a _ (by unfold kRz; omega)), b2.congr (fun a ha => ka a _ (by unfold kRz; omega)), b3, b4⟩, a12⟩
/-- one time more -/
theorem RZX.time (h : RZX z sa sb 4 n t c l d u r tm tt of ds ix sz) (hn : n < 200) {v : Int} (hv : isI v) (hlt : 0 < n → tm (n - 1) < v) {q : Nat} (hq : q < t) (s5 : sa' 5 4 = ii ((n + 1 : Nat) : Int)) (s13 : sa' 13 (800 + n) = ii (q : Int)) (s12 : sb' 12 (800 + n) = jj v) (fA : ∀ a j, ¬ (a = 5 ∧ j = 4) → ¬ (a = 13 ∧ j = 800 + n) → sa' a j = sa a j) (fB : ∀ b j, ¬ (b = 12 ∧ j = 800 + n) → sb' b j = sb b j) :
    RZX (zM z (ii ((n + 1 : Nat) : Int), z.2.2.1, z.2.2.2.2.1, z.2.2.2.2.2.1, vp_updL z.2.2.2.2.2.2.1 n (jj v), upd z.2.2.2.2.2.2.2.1 n (ii (q : Int)), z.2.2.2.2.2.2.2.2.1, z.2.2.2.2.2.2.2.2.2.1, z.2.2.2.2.2.2.2.2.2.2.1, z.2.2.2.2.2.2.2.2.2.2.2.1, z.2.2.2.2.2.2.2.2.2.2.2.2.1, z.2.2.2.2.2.2.2.2.2.2.2.2.2.1, z.2.2.2.2.2.2.2.2.2.2.2.2.2.2.1, z.2.2.2.2.2.2.2.2.2.2.2.2.2.2.2.1)) sa' sb' 4 (n + 1) t c l d u r (fun k => if k = n then v else tm k) (fun k => if k = n then q else tt k) of ds ix sz := by
  obtain ⟨⟨c1, c2, ⟨c3, c4, c5⟩, ⟨c6, c7, c8, c9⟩, ⟨c10, c11, c12⟩, ⟨c13, c14, c15⟩, ⟨c16, c17, c18⟩, ⟨c19, c20, c21⟩, ⟨c22, c23⟩⟩, h1, h2, ⟨h3, h3'⟩, h4, ⟨h5, h5'⟩, h6, h7⟩ := h
  refine ⟨⟨c1.trans (fA 4 4 (by omega) (by omega)).symm, c2, ⟨rfl, s5, by omega⟩, ⟨c6, (fA 6 4 (by omega) (by omega)).trans c7, c8, c9⟩, ⟨(fA 7 4 (by omega) (by omega)).trans c10, c11, c12⟩, ⟨c13, (fA 8 4 (by omega) (by omega)).trans c14, c15⟩, ⟨c16, (fA 9 4 (by omega) (by omega)).trans c17, c18⟩, ⟨c19, (fA 10 4 (by omega) (by omega)).trans c20, c21⟩, ⟨(fA 11 4 (by omega) (by omega)).trans c22, c23⟩⟩, ?_, ?_, ⟨fun k hk => ?_, fun k hk => ?_⟩, fun k hk => ?_, ⟨fun k hk => ?_, fun k hk => ?_⟩, fun k hk => ?_, ?_⟩
  · exact h1.T_congr (fun k hk => (fA 17 _ (by omega) (by omega)).symm)
  · exact h2.T_congr (fun k hk => (fA 22 _ (by omega) (by omega)).symm)
  · show vp_updL z.2.2.2.2.2.2.1 n (jj v) k = jj (if k = n then v else tm k) ∧ sb' 12 (200 * 4 + k) = jj (if k = n then v else tm k) ∧ isI (if k = n then v else tm k) ∧ upd z.2.2.2.2.2.2.2.1 n (ii (q : Int)) k = ii ((if k = n then q else tt k : Nat) : Int) ∧ sa' 13 (200 * 4 + k) = ii ((if k = n then q else tt k : Nat) : Int) ∧ (if k = n then q else tt k) < t
    by_cases e : k = n
    · rw [e, if_pos rfl, if_pos rfl, vpl_eq, upd_eq]
      exact ⟨rfl, s12, hv, rfl, s13, hq⟩
    · rw [if_neg e, if_neg e, vpl_ne e, upd_ne e, fB 12 (200 * 4 + k) (by omega), fA 13 (200 * 4 + k) (by omega) (by omega)]
      exact h3 k (by omega)
  · show (if k = n then v else tm k) < if k + 1 = n then v else tm (k + 1)
    rw [if_neg (show ¬ k = n by omega)]
    by_cases e : k + 1 = n
    · rw [if_pos e]
      have := hlt (by omega)
      rw [show n - 1 = k by omega] at this
      exact this
    · rw [if_neg e]
      exact h3' k (by omega)
  · obtain ⟨g1, g2, g3, g4, g5, g6, g7, g8, g9, n1, n2, n3, n4, n5⟩ := h4 k hk
    refine ⟨g1, (fA 14 _ (by omega) (by omega)).trans g2, g3, g4, g5, (fA 15 _ (by omega) (by omega)).trans g6, g7, g8, (fA 16 _ (by omega) (by omega)).trans g9, n1, n2, n3, fun q hq => ?_, ?_⟩
    · obtain ⟨v, e1, e2⟩ := n4 q hq
      exact ⟨v, (fA 17 _ (by omega) (by omega)).trans e1, e2⟩
    · exact (fA 17 _ (by omega) (by omega)).trans n5
  · exact (h5 k hk).trans (fA 20 _ (by omega) (by omega)).symm
  · exact (h5' k hk).trans (fA 21 _ (by omega) (by omega)).symm
  · obtain ⟨g1, g2⟩ := h6 k hk
    exact ⟨g1.trans (fB 18 _ (by omega)).symm, g2.trans (fB 19 _ (by omega)).symm⟩
  · exact ZRul.rcongr (z := zM z _) h7 c23 (fun a j k => fA a j (by unfold kRz at k; omega) (by unfold kRz at k; omega))
/-- one type more -/
theorem RZX.type (h : RZX z sa sb 4 n t c l d u r tm tt of ds ix sz) (ht : t < 40) {c' x s : Nat} {o dd : Int} {cs : Int32} {N : Nat} {A : Nat → Int32} (hc : c ≤ c') (hc2 : c' ≤ 200) (hch : RB cs N A c' (fun k => sa' 17 (200 * 4 + k))) (hpre : ∀ k, k < c → sa' 17 (200 * 4 + k) = sa 17 (200 * 4 + k)) (hnm : nam0 (fun k => sa' 17 (200 * 4 + k)) c' x s) (ho1 : -100000 ≤ o) (ho2 : o ≤ 100000) (hdd : dd = 0 ∨ dd = 1)
    (s6 : sa' 6 4 = ii ((t + 1 : Nat) : Int)) (s7 : sa' 7 4 = ii (c' : Int)) (s9 : sa' 9 4 = ii ((if 0 < d then t + 1 else 0 : Nat) : Int)) (s10 : sa' 10 4 = ii ((if 0 < u then t + 1 else 0 : Nat) : Int)) (s14 : sa' 14 (160 + t) = ii o) (s15 : sa' 15 (160 + t) = ii dd) (s16 : sa' 16 (160 + t) = ii (x : Int)) (s20 : sa' 20 (160 + t) = 0) (s21 : sa' 21 (160 + t) = 0)
    (fA : ∀ a j, ¬ (a = 6 ∧ j = 4) → ¬ (a = 7 ∧ j = 4) → ¬ (a = 9 ∧ j = 4) → ¬ (a = 10 ∧ j = 4) → ¬ ((14 ≤ a ∧ a ≤ 16 ∨ a = 20 ∨ a = 21) ∧ j = 160 + t) → ¬ a = 17 → sa' a j = sa a j) :
    RZX (zM z (z.2.1, ii ((t + 1 : Nat) : Int), ii ((if 0 < d then t + 1 else 0 : Nat) : Int), ii ((if 0 < u then t + 1 else 0 : Nat) : Int), z.2.2.2.2.2.2.1, z.2.2.2.2.2.2.2.1, upd z.2.2.2.2.2.2.2.2.1 t (ii o), upd z.2.2.2.2.2.2.2.2.2.1 t (ii dd), upd z.2.2.2.2.2.2.2.2.2.2.1 t (ii (x : Int)), upd z.2.2.2.2.2.2.2.2.2.2.2.1 t 0, upd z.2.2.2.2.2.2.2.2.2.2.2.2.1 t 0, cs, N, A)) sa' sb 4 n (t + 1) c' l (if 0 < d then t + 1 else 0) (if 0 < u then t + 1 else 0) r tm tt (fun k => if k = t then o else of k) (fun k => if k = t then dd else ds k) (fun k => if k = t then x else ix k) (fun k => if k = t then s else sz k) := by
  obtain ⟨⟨c1, c2, ⟨c3, c4, c5⟩, ⟨c6, c7, c8, c9⟩, ⟨c10, c11, c12⟩, ⟨c13, c14, c15⟩, ⟨c16, c17, c18⟩, ⟨c19, c20, c21⟩, ⟨c22, c23⟩⟩, h1, h2, ⟨h3, h3'⟩, h4, ⟨h5, h5'⟩, h6, h7⟩ := h
  have fx : ∀ a j, a = 4 ∨ a = 5 ∨ a = 8 ∨ a = 11 ∨ a = 13 ∨ 22 ≤ a → sa' a j = sa a j := fun a j ha => fA a j (by omega) (by omega) (by omega) (by omega) (by omega) (by omega)
  have ft : ∀ a k, 14 ≤ a ∧ a ≤ 16 ∨ a = 20 ∨ a = 21 → ¬ k = t → sa' a (40 * 4 + k) = sa a (40 * 4 + k) := fun a k ha hk => fA a _ (by omega) (by omega) (by omega) (by omega) (by omega) (by omega)
  have d' : (if 0 < d then t + 1 else 0) = 0 ∨ (if 0 < d then t + 1 else 0) = t + 1 := by split <;> omega
  have u' : (if 0 < u then t + 1 else 0) = 0 ∨ (if 0 < u then t + 1 else 0) = t + 1 := by split <;> omega
  refine ⟨⟨c1.trans (fx 4 4 (by omega)).symm, c2, ⟨c3, (fx 5 4 (by omega)).trans c4, c5⟩, ⟨rfl, s6, by omega, by omega⟩, ⟨s7, by omega, hc2⟩, ⟨c13, (fx 8 4 (by omega)).trans c14, c15⟩, ⟨rfl, s9, d'⟩, ⟨rfl, s10, u'⟩, ⟨(fx 11 4 (by omega)).trans c22, c23⟩⟩, hch, ?_, ⟨fun k hk => ?_, h3'⟩, fun k hk => ?_, ⟨fun k hk => ?_, fun k hk => ?_⟩, h6, ?_⟩
  · exact h2.T_congr (fun k hk => (fx 22 _ (by omega)).symm)
  · obtain ⟨g1, g2, g3, g4, g5, g6⟩ := h3 k hk
    exact ⟨g1, g2, g3, g4, (fx 13 _ (by omega)).trans g5, by omega⟩
  · show upd z.2.2.2.2.2.2.2.2.1 t (ii o) k = ii (if k = t then o else of k) ∧ sa' 14 (40 * 4 + k) = ii (if k = t then o else of k) ∧ -100000 ≤ (if k = t then o else of k) ∧ (if k = t then o else of k) ≤ 100000 ∧ upd z.2.2.2.2.2.2.2.2.2.1 t (ii dd) k = ii (if k = t then dd else ds k) ∧ sa' 15 (40 * 4 + k) = ii (if k = t then dd else ds k) ∧ ((if k = t then dd else ds k) = 0 ∨ (if k = t then dd else ds k) = 1) ∧ upd z.2.2.2.2.2.2.2.2.2.2.1 t (ii (x : Int)) k = ii ((if k = t then x else ix k : Nat) : Int) ∧ sa' 16 (40 * 4 + k) = ii ((if k = t then x else ix k : Nat) : Int) ∧ nam0 (fun k => sa' 17 (200 * 4 + k)) c' (if k = t then x else ix k) (if k = t then s else sz k)
    by_cases e : k = t
    · rw [e, if_pos rfl, if_pos rfl, if_pos rfl, if_pos rfl, upd_eq, upd_eq, upd_eq]
      exact ⟨rfl, s14, ho1, ho2, rfl, s15, hdd, rfl, s16, hnm⟩
    · obtain ⟨g1, g2, g3, g4, g5, g6, g7, g8, g9, n1, n2, n3, n4, n5⟩ := h4 k (by omega)
      rw [if_neg e, if_neg e, if_neg e, if_neg e, upd_ne e, upd_ne e, upd_ne e, ft 14 k (by omega) e, ft 15 k (by omega) e, ft 16 k (by omega) e]
      refine ⟨g1, g2, g3, g4, g5, g6, g7, g8, g9, n1, n2, by omega, fun q hq => ?_, ?_⟩
      · obtain ⟨v, e1, e2⟩ := n4 q hq
        exact ⟨v, (hpre _ (by omega)).trans e1, e2⟩
      · exact (hpre _ (by omega)).trans n5
  · show upd z.2.2.2.2.2.2.2.2.2.2.2.1 t 0 k = sa' 20 (40 * 4 + k)
    by_cases e : k = t
    · rw [e, upd_eq]
      exact s20.symm
    · rw [upd_ne e, ft 20 k (by omega) e]
      refine h5 k ?_
      by_cases c0 : 0 < d
      · rw [if_pos c0] at hk
        omega
      · rw [if_neg c0] at hk
        omega
  · show upd z.2.2.2.2.2.2.2.2.2.2.2.2.1 t 0 k = sa' 21 (40 * 4 + k)
    by_cases e : k = t
    · rw [e, upd_eq]
      exact s21.symm
    · rw [upd_ne e, ft 21 k (by omega) e]
      refine h5' k ?_
      by_cases c0 : 0 < u
      · rw [if_pos c0] at hk
        omega
      · rw [if_neg c0] at hk
        omega
  · exact ZRul.rcongr (z := zM z _) h7 c23 (fun a j k => fx a j (by unfold kRz at k; omega))
/-! what is kept of the zone for the case that it fails -/
def KP (z0 z : ZS) (T0 : Nat → Int32) (n0 t0 c0 d0 u0 : Nat) : Prop := (∀ k, k < n0 → z.2.2.2.2.2.2.1 k = z0.2.2.2.2.2.2.1 k ∧ z.2.2.2.2.2.2.2.1 k = z0.2.2.2.2.2.2.2.1 k) ∧ (∀ k, k < t0 → z.2.2.2.2.2.2.2.2.1 k = z0.2.2.2.2.2.2.2.2.1 k ∧ z.2.2.2.2.2.2.2.2.2.1 k = z0.2.2.2.2.2.2.2.2.2.1 k ∧ z.2.2.2.2.2.2.2.2.2.2.1 k = z0.2.2.2.2.2.2.2.2.2.2.1 k ∧ z.2.2.2.2.2.2.2.2.2.2.2.1 k = z0.2.2.2.2.2.2.2.2.2.2.2.1 k ∧ z.2.2.2.2.2.2.2.2.2.2.2.2.1 k = z0.2.2.2.2.2.2.2.2.2.2.2.2.1 k) ∧ (∃ (c : Nat) (T : Nat → Int32), RB z.2.2.2.2.2.2.2.2.2.2.2.2.2.1 z.2.2.2.2.2.2.2.2.2.2.2.2.2.2.1 z.2.2.2.2.2.2.2.2.2.2.2.2.2.2.2.1 c T ∧ c0 ≤ c ∧ ∀ k, k < c0 → T k = T0 k) ∧ (∃ d : Nat, z.2.2.2.2.1 = ii (d : Int) ∧ d ≤ 40 ∧ (d0 = 0 → d = 0) ∧ (0 < d0 → t0 ≤ d)) ∧ ∃ u : Nat, z.2.2.2.2.2.1 = ii (u : Int) ∧ u ≤ 40 ∧ (u0 = 0 → u = 0) ∧ (0 < u0 → t0 ≤ u)
theorem KP.rf (h : RZX z sa sb i n t c l d u r tm tt of ds ix sz) : KP z z (fun k => sa 17 (200 * i + k)) n t c d u := by
  obtain ⟨⟨c1, c2, ⟨c3, c4, c5⟩, ⟨c6, c7, c8, c9⟩, ⟨c10, c11, c12⟩, ⟨c13, c14, c15⟩, ⟨c16, c17, c18⟩, ⟨c19, c20, c21⟩, ⟨c22, c23⟩⟩, h1, _⟩ := h
  exact ⟨fun _ _ => ⟨rfl, rfl⟩, fun _ _ => ⟨rfl, rfl, rfl, rfl, rfl⟩, ⟨c, _, h1, by omega, fun _ _ => rfl⟩, ⟨d, c16, by omega, by omega, by omega⟩, ⟨u, c19, by omega, by omega, by omega⟩⟩
theorem iimin {t0 d0 d : Nat} (ht1 : 1 ≤ t0) (ht : t0 ≤ 40) (hd0 : d0 = 0 ∨ d0 = t0) (hd : d ≤ 40) (h1 : d0 = 0 → d = 0) (h2 : 0 < d0 → t0 ≤ d) : (if ii (t0 : Int) < ii (d : Int) then ii (t0 : Int) else ii (d : Int)) = ii (d0 : Int) := by
  by_cases c : t0 < d
  · rw [if_pos ((ii_lt (by omega) (by omega) (by omega) (by omega)).mpr (by omega)), show t0 = d0 by omega]
  · rw [if_neg (fun y => by rw [ii_lt (by omega) (by omega) (by omega) (by omega)] at y; omega), show d = d0 by omega]
theorem KP.back {z0 : ZS} (h : RZX z0 sa sb i n t c l d u r tm tt of ds ix sz) (k : KP z0 z (fun k => sa 17 (200 * i + k)) n t c d u) : RZX (zM z0 (ii (n : Int), ii (t : Int), if ii (t : Int) < z.2.2.2.2.1 then ii (t : Int) else z.2.2.2.2.1, if ii (t : Int) < z.2.2.2.2.2.1 then ii (t : Int) else z.2.2.2.2.2.1, z.2.2.2.2.2.2.1, z.2.2.2.2.2.2.2.1, z.2.2.2.2.2.2.2.2.1, z.2.2.2.2.2.2.2.2.2.1, z.2.2.2.2.2.2.2.2.2.2.1, z.2.2.2.2.2.2.2.2.2.2.2.1, z.2.2.2.2.2.2.2.2.2.2.2.2.1, ii (c : Int), z.2.2.2.2.2.2.2.2.2.2.2.2.2.2.1, z.2.2.2.2.2.2.2.2.2.2.2.2.2.2.2.1)) sa sb i n t c l d u r tm tt of ds ix sz := by
  obtain ⟨⟨c1, c2, ⟨c3, c4, c5⟩, ⟨c6, c7, c8, c9⟩, ⟨c10, c11, c12⟩, ⟨c13, c14, c15⟩, ⟨c16, c17, c18⟩, ⟨c19, c20, c21⟩, ⟨c22, c23⟩⟩, h1, h2, ⟨h3, h3'⟩, h4, ⟨h5, h5'⟩, h6, h7⟩ := h
  obtain ⟨k1, k2, ⟨c', T, ⟨b1, b2, b3, b4, b5, b6⟩, kc, kt⟩, ⟨d', kd1, kd2, kd3, kd4⟩, ⟨u', ku1, ku2, ku3, ku4⟩⟩ := k
  rw [kd1, ku1, iimin c8 c9 c18 kd2 kd3 kd4, iimin c8 c9 c21 ku2 ku3 ku4]
  refine ⟨⟨c1, c2, ⟨rfl, c4, c5⟩, ⟨rfl, c7, c8, c9⟩, ⟨c10, c11, c12⟩, ⟨c13, c14, c15⟩, ⟨rfl, c17, c18⟩, ⟨rfl, c20, c21⟩, ⟨c22, c23⟩⟩, ⟨rfl, show c ≤ z.2.2.2.2.2.2.2.2.2.2.2.2.2.2.1 by omega, b3, b4, b5, fun k hk => (b6 k (by omega)).trans (kt k hk)⟩, h2, ⟨fun k hk => ?_, h3'⟩, fun k hk => ?_, ⟨fun k hk => ?_, fun k hk => ?_⟩, h6, h7⟩
  · obtain ⟨g1, g2, g3, g4, g5, g6⟩ := h3 k hk
    exact ⟨((k1 k hk).1).trans g1, g2, g3, ((k1 k hk).2).trans g4, g5, g6⟩
  · obtain ⟨g1, g2, g3, g4, g5, g6, g7, g8, g9, g10⟩ := h4 k hk
    obtain ⟨e1, e2, e3, e4, e5⟩ := k2 k hk
    exact ⟨e1.trans g1, g2, g3, g4, e2.trans g5, g6, g7, e3.trans g8, g9, g10⟩
  · exact ((k2 k (by omega)).2.2.2.1).trans (h5 k hk)
  · exact ((k2 k (by omega)).2.2.2.2).trans (h5' k hk)
end
