/-! ===== what ties the class's state to the reference's ===== -/
def RTape (C : CC) (si : Nat → Int32) (sa : Nat → Nat → Int32) : Prop := ∃ n : Nat, n ≤ 6000 ∧ RB C.1 C.2.1 C.2.2.1 n (sa 0) ∧ si 1 = ii (n : Int)
def RWrit (C : CC) (si : Nat → Int32) (sa : Nat → Nat → Int32) : Prop := ∃ n : Nat, n ≤ 6000 ∧ RB C.2.2.2.1 C.2.2.2.2.1 C.2.2.2.2.2.1 n (sa 56) ∧ si 57 = ii (n : Int)
def RFind (C : CC) (si : Nat → Int32) (sb : Nat → Nat → Int64) : Prop := ∃ n : Nat, n ≤ 42 ∧ C.2.2.2.2.2.2.1 = ii (n : Int) ∧ si 55 = ii (n : Int) ∧ ∀ k, k < n → C.2.2.2.2.2.2.2.2.1 k = sb 54 k
/-- the table's rows, in whole numbers -/
def TRows (c : Nat) (tv av : Nat → Int) (x : Int) : Prop := (∀ k, k < c → -2208988800 ≤ tv k ∧ tv k ≤ 10000000000 ∧ 0 ≤ av k ∧ av k ≤ 10000000000) ∧ (∀ k, k + 1 < c → tv k + 86400 ≤ tv (k + 1) ∧ (av (k + 1) = av k + 1 ∨ av (k + 1) = av k - 1)) ∧ -2208988800 ≤ x ∧ x ≤ 10000000000 ∧ (0 < c → tv (c - 1) < x)
def RTab (C : CC) (si : Nat → Int32) (sj : Nat → Int64) (sb : Nat → Nat → Int64) : Prop := ∃ c : Nat, c ≤ 60 ∧ C.2.2.2.2.2.2.2.2.2.1 = ii (c : Int) ∧ si 61 = (if c = 0 then 0 else 1) ∧
  (0 < c → si 62 = ii (c : Int) ∧ ∃ (tv av : Nat → Int) (x : Int), TRows c tv av x ∧ (∀ k, k < c → C.2.2.2.2.2.2.2.2.2.2.2.1 k = jj (tv k) ∧ sb 63 k = jj (tv k) ∧ C.2.2.2.2.2.2.2.2.2.2.2.2.1 k = jj (av k) ∧ sb 64 k = jj (av k)) ∧ C.2.2.2.2.2.2.2.2.2.2.1 = jj x ∧ sj 65 = jj x)
/-- a name of s bytes stands from x on, and a 0 behind it -/
def nam0 (T : Nat → Int32) (c x s : Nat) : Prop := 3 ≤ s ∧ s ≤ 10 ∧ x + s < c ∧ (∀ k, k < s → ∃ v : Int, T (x + k) = ii v ∧ nmb v) ∧ T (x + s) = 0
/-- counts: times, types, chars, leaps, stds, uts, rule's bytes -/
def ZCnt (z : ZS) (sa : Nat → Nat → Int32) (i n t c l d u r : Nat) : Prop :=
  z.1 = sa 4 i ∧ (z.1 = 0 ∨ z.1 = 50 ∨ z.1 = 51) ∧ (z.2.1 = ii (n : Int) ∧ sa 5 i = ii (n : Int) ∧ n ≤ 200) ∧ (z.2.2.1 = ii (t : Int) ∧ sa 6 i = ii (t : Int) ∧ 1 ≤ t ∧ t ≤ 40) ∧
  (sa 7 i = ii (c : Int) ∧ 1 ≤ c ∧ c ≤ 200) ∧ (z.2.2.2.1 = ii (l : Int) ∧ sa 8 i = ii (l : Int) ∧ l ≤ 40) ∧ (z.2.2.2.2.1 = ii (d : Int) ∧ sa 9 i = ii (d : Int) ∧ (d = 0 ∨ d = t)) ∧ (z.2.2.2.2.2.1 = ii (u : Int) ∧ sa 10 i = ii (u : Int) ∧ (u = 0 ∨ u = t)) ∧ (sa 11 i = ii (r : Int) ∧ r ≤ 128)
def isI (t : Int) : Prop := -1152921504606846975 ≤ t ∧ t ≤ 1152921504606846975
def ZTim (z : ZS) (sa : Nat → Nat → Int32) (sb : Nat → Nat → Int64) (i n t : Nat) (tm : Nat → Int) (tt : Nat → Nat) : Prop :=
  (∀ k, k < n → z.2.2.2.2.2.2.1 k = jj (tm k) ∧ sb 12 (200 * i + k) = jj (tm k) ∧ isI (tm k) ∧ z.2.2.2.2.2.2.2.1 k = ii (tt k : Int) ∧ sa 13 (200 * i + k) = ii (tt k : Int) ∧ tt k < t) ∧ ∀ k, k + 1 < n → tm k < tm (k + 1)
def ZTyp (z : ZS) (sa : Nat → Nat → Int32) (i t c : Nat) (T : Nat → Int32) (of ds : Nat → Int) (ix sz : Nat → Nat) : Prop :=
  ∀ k, k < t → z.2.2.2.2.2.2.2.2.1 k = ii (of k) ∧ sa 14 (40 * i + k) = ii (of k) ∧ -100000 ≤ of k ∧ of k ≤ 100000 ∧ z.2.2.2.2.2.2.2.2.2.1 k = ii (ds k) ∧ sa 15 (40 * i + k) = ii (ds k) ∧ (ds k = 0 ∨ ds k = 1) ∧ z.2.2.2.2.2.2.2.2.2.2.1 k = ii (ix k : Int) ∧ sa 16 (40 * i + k) = ii (ix k : Int) ∧ nam0 T c (ix k) (sz k)
def ZFlg (z : ZS) (sa : Nat → Nat → Int32) (i d u : Nat) : Prop := (∀ k, k < d → z.2.2.2.2.2.2.2.2.2.2.2.1 k = sa 20 (40 * i + k)) ∧ ∀ k, k < u → z.2.2.2.2.2.2.2.2.2.2.2.2.1 k = sa 21 (40 * i + k)
def ZLea (z : ZS) (sb : Nat → Nat → Int64) (i l : Nat) : Prop := ∀ k, k < l → z.2.2.2.2.2.2.2.2.2.2.2.2.2.2.2.2.1 k = sb 18 (40 * i + k) ∧ (z.2.2.2.2.2.2.2.2.2.2.2.2.2.2.2.2.2.1 k).toInt64 = sb 19 (40 * i + k)
/-- a name of the rule: its size and place in the text; the reference's own copy -/
def ZNam (sz pl : Int32) (sa : Nat → Nat → Int32) (i w r s p : Nat) : Prop := sz = ii (s : Int) ∧ pl = ii (p : Int) ∧ 3 ≤ s ∧ s ≤ 10 ∧ p + s ≤ r ∧ sa 25 (2 * i + w) = ii (s : Int) ∧ ∀ k, k < s → sa 26 (20 * i + 10 * w + k) = sa 22 (128 * i + (p + k)) ∧ ∃ v : Int, sa 22 (128 * i + (p + k)) = ii v ∧ nmb v
def ZRul (z : ZS) (sa : Nat → Nat → Int32) (i r : Nat) : Prop :=
  (r = 0 ∧ sa 23 i = 0 ∧ z.2.2.2.2.2.2.2.2.2.2.2.2.2.2.2.2.2.2.1 = 0 ∧ z.2.2.2.2.2.2.2.2.2.2.2.2.2.2.2.2.2.2.2.1 = 0) ∨
  (0 < r ∧ ∃ (wd : Bool) (sp ss : Nat) (so : Int) (x : Option (Nat × Nat × Int × (Int × Int × Int × Int) × Int × (Int × Int × Int × Int) × Int × Bool)),
    rtext (LL (fun k => sa 22 (128 * i + k)) r) wd 0 r = .ok (sp, ss, so, x) ∧ ZNam z.2.2.2.2.2.2.2.2.2.2.2.2.2.2.2.2.2.2.2.2.2.2.2.1 z.2.2.2.2.2.2.2.2.2.2.2.2.2.2.2.2.2.2.2.2.2.2.1 sa i 0 r ss sp ∧ z.2.2.2.2.2.2.2.2.2.2.2.2.2.2.2.2.2.2.2.2.1 = ii so ∧ sa 24 (2 * i) = ii so ∧ -100000 ≤ so ∧ so ≤ 100000 ∧
    match x with
    | none => z.2.2.2.2.2.2.2.2.2.2.2.2.2.2.2.2.2.2.1 = 0 ∧ sa 23 i = 1 ∧ z.2.2.2.2.2.2.2.2.2.2.2.2.2.2.2.2.2.2.2.1 = 0
    | some (up, us, uo, d1, t1, d2, t2, w) => z.2.2.2.2.2.2.2.2.2.2.2.2.2.2.2.2.2.2.1 = 1 ∧ sa 23 i = 2 ∧ z.2.2.2.2.2.2.2.2.2.2.2.2.2.2.2.2.2.2.2.1 = (if w then 1 else 0) ∧ ZNam z.2.2.2.2.2.2.2.2.2.2.2.2.2.2.2.2.2.2.2.2.2.2.2.2.2.1 z.2.2.2.2.2.2.2.2.2.2.2.2.2.2.2.2.2.2.2.2.2.2.2.2.1 sa i 1 r us up ∧ z.2.2.2.2.2.2.2.2.2.2.2.2.2.2.2.2.2.2.2.2.2.1 = ii uo ∧ sa 24 (2 * i + 1) = ii uo ∧ -100000 ≤ uo ∧ uo ≤ 100000 ∧
      REc z.2.2.2.2.2.2.2.2.2.2.2.2.2.2.2.2.2.2.2.2.2.2.2.2.2.2.2.2.2.2.1 z.2.2.2.2.2.2.2.2.2.2.2.2.2.2.2.2.2.2.2.2.2.2.2.2.2.2.2.2.2.2.2.1 z.2.2.2.2.2.2.2.2.2.2.2.2.2.2.2.2.2.2.2.2.2.2.2.2.2.2.2.2.2.2.2.2.1 z.2.2.2.2.2.2.2.2.2.2.2.2.2.2.2.2.2.2.2.2.2.2.2.2.2.2.2.2.2.2.2.2.2.1 z.2.2.2.2.2.2.2.2.2.2.2.2.2.2.2.2.2.2.2.2.2.2.2.2.2.2.2.2.2.2.2.2.2.2.1 z.2.2.2.2.2.2.2.2.2.2.2.2.2.2.2.2.2.2.2.2.2.2.2.2.2.2.2.2.2.2.2.2.2.2.2.1 (bET so d1 t1) ∧ REc z.2.2.2.2.2.2.2.2.2.2.2.2.2.2.2.2.2.2.2.2.2.2.2.2.2.2.2.2.2.2.2.2.2.2.2.2.1 z.2.2.2.2.2.2.2.2.2.2.2.2.2.2.2.2.2.2.2.2.2.2.2.2.2.2.2.2.2.2.2.2.2.2.2.2.2.1 z.2.2.2.2.2.2.2.2.2.2.2.2.2.2.2.2.2.2.2.2.2.2.2.2.2.2.2.2.2.2.2.2.2.2.2.2.2.2.1 z.2.2.2.2.2.2.2.2.2.2.2.2.2.2.2.2.2.2.2.2.2.2.2.2.2.2.2.2.2.2.2.2.2.2.2.2.2.2.2.1 z.2.2.2.2.2.2.2.2.2.2.2.2.2.2.2.2.2.2.2.2.2.2.2.2.2.2.2.2.2.2.2.2.2.2.2.2.2.2.2.2.1 z.2.2.2.2.2.2.2.2.2.2.2.2.2.2.2.2.2.2.2.2.2.2.2.2.2.2.2.2.2.2.2.2.2.2.2.2.2.2.2.2.2 (bET uo d2 t2) ∧ REb sa i (bET so d1 t1) (bET uo d2 t2) ∧
      (z.2.2.2.2.2.2.2.2.2.2.2.2.2.2.2.2.2.2.2.2.2.2.2.2.2.2.1 = 0 ∨ z.2.2.2.2.2.2.2.2.2.2.2.2.2.2.2.2.2.2.2.2.2.2.2.2.2.2.1 = 1 ∧ ∀ t t' : Int, su (bET so d1 t1) (bET uo d2 t2) t ↔ su (bET so d1 t1) (bET uo d2 t2) t'))
def RZon (z : ZS) (sa : Nat → Nat → Int32) (sb : Nat → Nat → Int64) (i : Nat) : Prop := ∃ (n t c l d u r : Nat) (tm : Nat → Int) (tt : Nat → Nat) (of ds : Nat → Int) (ix sz : Nat → Nat),
  ZCnt z sa i n t c l d u r ∧ RB z.2.2.2.2.2.2.2.2.2.2.2.2.2.1 z.2.2.2.2.2.2.2.2.2.2.2.2.2.2.1 z.2.2.2.2.2.2.2.2.2.2.2.2.2.2.2.1 c (fun k => sa 17 (200 * i + k)) ∧ RB z.2.2.2.2.2.2.2.2.2.2.2.2.2.2.2.2.2.2.2.2.2.2.2.2.2.2.2.1 z.2.2.2.2.2.2.2.2.2.2.2.2.2.2.2.2.2.2.2.2.2.2.2.2.2.2.2.2.1 z.2.2.2.2.2.2.2.2.2.2.2.2.2.2.2.2.2.2.2.2.2.2.2.2.2.2.2.2.2.1 r (fun k => sa 22 (128 * i + k)) ∧ ZTim z sa sb i n t tm tt ∧ ZTyp z sa i t c (fun k => sa 17 (200 * i + k)) of ds ix sz ∧ ZFlg z sa i d u ∧ ZLea z sb i l ∧ ZRul z sa i r
def RSpa (z : ZS) : Prop := (∃ (n : Nat) (T : Nat → Int32), RB z.2.2.2.2.2.2.2.2.2.2.2.2.2.1 z.2.2.2.2.2.2.2.2.2.2.2.2.2.2.1 z.2.2.2.2.2.2.2.2.2.2.2.2.2.2.2.1 n T) ∧ ∃ (n : Nat) (T : Nat → Int32), RB z.2.2.2.2.2.2.2.2.2.2.2.2.2.2.2.2.2.2.2.2.2.2.2.2.2.2.2.1 z.2.2.2.2.2.2.2.2.2.2.2.2.2.2.2.2.2.2.2.2.2.2.2.2.2.2.2.2.1 z.2.2.2.2.2.2.2.2.2.2.2.2.2.2.2.2.2.2.2.2.2.2.2.2.2.2.2.2.2.1 n T
def RR (S : CS) (M : MS) : Prop := RTape S.1 M.1 M.2.2.1 ∧ RWrit S.1 M.1 M.2.2.1 ∧ S.1.2.2.2.2.2.2.2.1 = M.1 2 ∧ RFind S.1 M.1 M.2.2.2 ∧ RTab S.1 M.1 M.2.1 M.2.2.2 ∧ (∀ i, i < 4 → RZon (S.2 i) M.2.2.1 M.2.2.2 i) ∧ RSpa (S.2 4)
theorem RB.cap {s : Int32} {N n : Nat} {A T : Nat → Int32} (h : RB s N A n T) : N ≤ 40000 := h.2.2.2.1
theorem RZon.cap {z : ZS} {sa : Nat → Nat → Int32} {sb : Nat → Nat → Int64} {i : Nat} (h : RZon z sa sb i) : z.2.2.2.2.2.2.2.2.2.2.2.2.2.2.1 + z.2.2.2.2.2.2.2.2.2.2.2.2.2.2.2.2.2.2.2.2.2.2.2.2.2.2.2.2.1 ≤ 80000 := by
  obtain ⟨n, t, c, l, d, u, r, tm, tt, of, ds, ix, sz, _, h1, h2, _⟩ := h
  have a := h1.cap
  have b := h2.cap
  omega
theorem RR.cap {S : CS} {M : MS} (h : RR S M) : phi S ≤ 480000 := by
  obtain ⟨⟨n, _, h1, _⟩, ⟨m, _, h2, _⟩, _, _, _, h3, ⟨⟨n4, T4, h4⟩, ⟨n5, T5, h5⟩⟩⟩ := h
  have a0 := (h3 0 (by omega)).cap
  have a1 := (h3 1 (by omega)).cap
  have a2 := (h3 2 (by omega)).cap
  have a3 := (h3 3 (by omega)).cap
  have a4 := h4.cap
  have a5 := h5.cap
  have a6 := h1.cap
  have a7 := h2.cap
  unfold phi
  omega
/-! what the relation looks at -/
def kI (k : Nat) : Prop := k = 1 ∨ k = 2 ∨ k = 55 ∨ k = 57 ∨ k = 61 ∨ k = 62
/-- the reference's cells that belong to zone i -/
def kAz (i a j : Nat) : Prop := ((4 ≤ a ∧ a ≤ 11 ∨ a = 23) ∧ j = i) ∨ ((a = 13 ∨ a = 17) ∧ 200 * i ≤ j ∧ j < 200 * i + 200) ∨ ((14 ≤ a ∧ a ≤ 16 ∨ a = 20 ∨ a = 21) ∧ 40 * i ≤ j ∧ j < 40 * i + 40) ∨ (a = 22 ∧ 128 * i ≤ j ∧ j < 128 * i + 128) ∨ ((a = 24 ∨ a = 25 ∨ 27 ≤ a ∧ a ≤ 31) ∧ 2 * i ≤ j ∧ j < 2 * i + 2) ∨ (a = 26 ∧ 20 * i ≤ j ∧ j < 20 * i + 20)
def kBz (i b j : Nat) : Prop := (b = 12 ∧ 200 * i ≤ j ∧ j < 200 * i + 200) ∨ ((b = 18 ∨ b = 19) ∧ 40 * i ≤ j ∧ j < 40 * i + 40)
theorem REm.congr {sa sa' : Nat → Nat → Int32} {j : Nat} {e : ET} (h : REm sa j e) (k : ∀ a, a = 24 ∨ 27 ≤ a ∧ a ≤ 31 → sa' a j = sa a j) : REm sa' j e := by
  obtain ⟨h1, h2, h3, h4, h5⟩ := h
  exact ⟨(k 27 (by omega)).trans h1, (k 28 (by omega)).trans h2, fun q => ⟨(k 29 (by omega)).trans (h3 q).1, (k 30 (by omega)).trans (h3 q).2⟩, (k 31 (by omega)).trans h4, (k 24 (by omega)).trans h5⟩
theorem ZNam.congr {sz pl : Int32} {sa sa' : Nat → Nat → Int32} {i w r s p : Nat} (h : ZNam sz pl sa i w r s p) (hw : w < 2) (hr : r ≤ 128) (k : ∀ a j, kAz i a j → sa' a j = sa a j) : ZNam sz pl sa' i w r s p := by
  obtain ⟨h1, h2, h3, h4, h5, h6, h7⟩ := h
  refine ⟨h1, h2, h3, h4, h5, (k 25 _ (by unfold kAz; omega)).trans h6, fun q hq => ?_⟩
  obtain ⟨g1, v, g2, g3⟩ := h7 q hq
  rw [k 26 (20 * i + 10 * w + q) (by unfold kAz; omega), k 22 (128 * i + (p + q)) (by unfold kAz; omega)]
  exact ⟨g1, v, g2, g3⟩
theorem RZon.congr {z : ZS} {sa sa' : Nat → Nat → Int32} {sb sb' : Nat → Nat → Int64} {i : Nat} (h : RZon z sa sb i) (ka : ∀ a j, kAz i a j → sa' a j = sa a j) (kb : ∀ b j, kBz i b j → sb' b j = sb b j) : RZon z sa' sb' i := by
  obtain ⟨n, t, c, l, d, u, r, tm, tt, of, ds, ix, sz, ⟨c1, c2, ⟨c3, c4, c5⟩, ⟨c6, c7, c8, c9⟩, ⟨c10, c11, c12⟩, ⟨c13, c14, c15⟩, ⟨c16, c17, c18⟩, ⟨c19, c20, c21⟩, ⟨c22, c23⟩⟩, h1, h2, ⟨h3, h3'⟩, h4, ⟨h5, h5'⟩, h6, h7⟩ := h
  refine ⟨n, t, c, l, d, u, r, tm, tt, of, ds, ix, sz, ⟨c1.trans (ka 4 i (by unfold kAz; omega)).symm, c2, ⟨c3, (ka 5 i (by unfold kAz; omega)).trans c4, c5⟩, ⟨c6, (ka 6 i (by unfold kAz; omega)).trans c7, c8, c9⟩, ⟨(ka 7 i (by unfold kAz; omega)).trans c10, c11, c12⟩, ⟨c13, (ka 8 i (by unfold kAz; omega)).trans c14, c15⟩, ⟨c16, (ka 9 i (by unfold kAz; omega)).trans c17, c18⟩, ⟨c19, (ka 10 i (by unfold kAz; omega)).trans c20, c21⟩, ⟨(ka 11 i (by unfold kAz; omega)).trans c22, c23⟩⟩, ?_, ?_, ⟨fun k hk => ?_, h3'⟩, fun k hk => ?_, ⟨fun k hk => ?_, fun k hk => ?_⟩, fun k hk => ?_, ?_⟩
  · exact h1.T_congr (fun k hk => (ka 17 _ (by unfold kAz; omega)).symm)
  · exact h2.T_congr (fun k hk => (ka 22 _ (by unfold kAz; omega)).symm)
  · obtain ⟨g1, g2, g3, g4, g5, g6⟩ := h3 k hk
    exact ⟨g1, (kb 12 _ (by unfold kBz; omega)).trans g2, g3, g4, (ka 13 _ (by unfold kAz; omega)).trans g5, g6⟩
  · obtain ⟨g1, g2, g3, g4, g5, g6, g7, g8, g9, n1, n2, n3, n4, n5⟩ := h4 k hk
    refine ⟨g1, (ka 14 _ (by unfold kAz; omega)).trans g2, g3, g4, g5, (ka 15 _ (by unfold kAz; omega)).trans g6, g7, g8, (ka 16 _ (by unfold kAz; omega)).trans g9, n1, n2, n3, fun q hq => ?_, ?_⟩
    · obtain ⟨v, e1, e2⟩ := n4 q hq
      exact ⟨v, (ka 17 _ (by unfold kAz; omega)).trans e1, e2⟩
    · exact (ka 17 _ (by unfold kAz; omega)).trans n5
  · exact (h5 k hk).trans (ka 20 _ (by unfold kAz; omega)).symm
  · exact (h5' k hk).trans (ka 21 _ (by unfold kAz; omega)).symm
  · obtain ⟨g1, g2⟩ := h6 k hk
    exact ⟨g1.trans (kb 18 _ (by unfold kBz; omega)).symm, g2.trans (kb 19 _ (by unfold kBz; omega)).symm⟩
  · rcases h7 with ⟨g1, g2, g3⟩ | ⟨g1, wd, sp, ss, so, x, g2, g3, g4, g5, g6, g7, g8⟩
    · exact Or.inl ⟨g1, (ka 23 i (by unfold kAz; omega)).trans g2, g3⟩
    · refine Or.inr ⟨g1, wd, sp, ss, so, x, ?_, g3.congr (by omega) c23 ka, g4, (ka 24 _ (by unfold kAz; omega)).trans g5, g6, g7, ?_⟩
      · rw [LL_congr (T := fun k => sa 22 (128 * i + k)) (fun k hk => ka 22 _ (by unfold kAz; omega))]
        exact g2
      · match x, g8 with
        | none, ⟨a1, a2, a3⟩ => exact ⟨a1, (ka 23 i (by unfold kAz; omega)).trans a2, a3⟩
        | some (up, us, uo, d1, t1, d2, t2, w), ⟨a1, a2, a3, a4, a5, a6, a7, a8, a9, a10, ⟨b1, b2, b3, b4⟩, a12⟩ =>
          exact ⟨a1, (ka 23 i (by unfold kAz; omega)).trans a2, a3, a4.congr (by omega) c23 ka, a5, (ka 24 _ (by unfold kAz; omega)).trans a6, a7, a8, a9, a10, ⟨b1.congr (fun a ha => ka a _ (by unfold kAz; omega)), b2.congr (fun a ha => ka a _ (by unfold kAz; omega)), b3, b4⟩, a12⟩
theorem RR.frame {S : CS} {si si' : Nat → Int32} {sj sj' : Nat → Int64} {sa sa' : Nat → Nat → Int32} {sb sb' : Nat → Nat → Int64} (h : RR S (si, sj, sa, sb)) (hi : ∀ k, kI k → si' k = si k) (hj : sj' 65 = sj 65)
    (ha : ∀ j, sa' 0 j = sa 0 j) (ha' : ∀ j, sa' 56 j = sa 56 j) (hz : ∀ i, i < 4 → ∀ a j, kAz i a j → sa' a j = sa a j) (hb : ∀ b j, b = 54 ∨ b = 63 ∨ b = 64 → sb' b j = sb b j) (hzb : ∀ i, i < 4 → ∀ b j, kBz i b j → sb' b j = sb b j) : RR S (si', sj', sa', sb') := by
  obtain ⟨⟨n, h1, h2, h3⟩, ⟨m, h4, h5, h6⟩, h7, ⟨q, h8, h9, h10, h11⟩, ⟨c, t1, t2, t3, t4⟩, h12, h13⟩ := h
  dsimp only at *
  refine ⟨⟨n, h1, ?_, (hi 1 (by unfold kI; omega)).trans h3⟩, ⟨m, h4, ?_, (hi 57 (by unfold kI; omega)).trans h6⟩, h7.trans (hi 2 (by unfold kI; omega)).symm, ⟨q, h8, h9, (hi 55 (by unfold kI; omega)).trans h10, fun k hk => (h11 k hk).trans (hb 54 k (by omega)).symm⟩, ⟨c, t1, t2, (hi 61 (by unfold kI; omega)).trans t3, fun hc => ?_⟩, fun i hi' => (h12 i hi').congr (hz i hi') (hzb i hi'), h13⟩
  · exact h2.T_congr (fun k _ => (ha k).symm)
  · exact h5.T_congr (fun k _ => (ha' k).symm)
  · obtain ⟨g1, tv, av, x, g2, g3, g4, g5⟩ := t4 hc
    refine ⟨(hi 62 (by unfold kI; omega)).trans g1, tv, av, x, g2, fun k hk => ?_, g4, hj.trans g5⟩
    obtain ⟨e1, e2, e3, e4⟩ := g3 k hk
    exact ⟨e1, (hb 63 k (by omega)).trans e2, e3, (hb 64 k (by omega)).trans e4⟩
/-- only numbers that the relation doesn't look at have changed -/
theorem RR.scr {S : CS} {si si' : Nat → Int32} {sj sj' : Nat → Int64} {sa : Nat → Nat → Int32} {sb : Nat → Nat → Int64} (h : RR S (si, sj, sa, sb)) (hi : ∀ k, kI k → si' k = si k) (hj : sj' 65 = sj 65) : RR S (si', sj', sa, sb) :=
  h.frame hi hj (fun _ => rfl) (fun _ => rfl) (fun _ _ _ _ _ => rfl) (fun _ _ _ => rfl) (fun _ _ _ _ _ => rfl)
theorem RR.thr {S : CS} {si : Nat → Int32} {sj : Nat → Int64} {sa : Nat → Nat → Int32} {sb : Nat → Nat → Int64} (h : RR S (si, sj, sa, sb)) (v : Int32) : RR S (va_up si 3 v, sj, sa, sb) :=
  h.scr (fun k hk => vup_ne (by unfold kI at hk; omega)) rfl
