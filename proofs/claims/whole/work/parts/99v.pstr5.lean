/-! ===== stretch: all edges ===== -/
section
variable {nf : Nat} {sa : Nat → Nat → Int32} {sb : Nat → Nat → Int64} {si : Nat → Int32} {sj : Nat → Int64} {b e : ET}
theorem mbeg {K : Int32 → Int64 → Int64 → Int32 → Int32 → (Nat → Int32) → (Nat → Int64) → (Nat → Nat → Int32) → (Nat → Nat → Int64) → Option (Int32 × MS)} {x1 : Int32} {x4 : Int64} (h : REb sa 4 b e) {v Y : Int} (v1 : -4000000000000000000 ≤ v) (v2 : v ≤ 4000000000000000000) (y1 : -60000000000 ≤ Y) (y2 : Y ≤ 60000000000) : ∀ (d : Nat) (k : Int) (fu : Nat) (fl : Int32), k + d = Y + 3 → Y - 2 ≤ k → d < fu → (fl = 0 ∨ fl = 1) → ∃ fl' : Int32, (fl' = 0 ∨ fl' = 1) ∧ (fl' = 1 ↔ fl = 1 ∨ ∃ y, k ≤ y ∧ y < Y + 3 ∧ ev b y = v) ∧ f_Mo_stretch_199 nf K fu (jj k) fl (jj Y) 1 (jj v) x4 4 x1 si sj sa sb = f_Mo_stretch_257 nf K 1 (jj v) x4 4 x1 fl' (jj v) si sj sa sb := by
  intro d
  induction d with
  | zero =>
    intro k fu fl hk _ hf hfl
    obtain ⟨f, rfl⟩ : ∃ f, fu = f + 1 := ⟨fu - 1, by omega⟩
    refine ⟨fl, hfl, ⟨fun q => Or.inl q, fun q => q.elim id (fun ⟨y, a1, a2, _⟩ => by omega)⟩, ?_⟩
    rw [f_Mo_stretch_199, show (2 : Int64) = jj 2 from rfl, jj_add, if_pos ((jj_lt (by omega) (by omega) (by omega) (by omega)).mpr (by omega))]
    rcases hfl with rfl | rfl
    · rw [if_pos rfl]
    · rw [if_neg (by decide)]
  | succ d ih =>
    intro k fu fl hk hk2 hf hfl
    obtain ⟨f, rfl⟩ : ∃ f, fu = f + 1 := ⟨fu - 1, by omega⟩
    have vb := ev_range h.2.2.1 (y := k) (by omega) (by omega)
    have me := mevb nf h (show 4 < 5 by omega) (y := k) (by omega) (by omega) si sj sb
    have me' : f_Mo_event nf 4 (jj k) 0 si sj sa sb = some (jj (ev b k)) := me
    rw [f_Mo_stretch_199, show (2 : Int64) = jj 2 from rfl, jj_add, if_neg (fun q => by rw [jj_lt (by omega) (by omega) (by omega) (by omega)] at q; omega), me', Option.bind_some]
    unfold f_Mo_stretch_232
    rw [show (1 : Int64) = jj 1 from rfl, jj_add]
    have key : ∀ s0 : Int32, (s0 = 0 ∨ s0 = 1) → (s0 = 1 ↔ ev b k = v) → ∃ fl' : Int32, (fl' = 0 ∨ fl' = 1) ∧ (fl' = 1 ↔ fl = 1 ∨ ∃ y, k ≤ y ∧ y < Y + 3 ∧ ev b y = v) ∧ f_Mo_stretch_199 nf K f (jj (k + 1)) (fl ||| s0) (jj Y) 1 (jj v) x4 4 x1 si sj sa sb = f_Mo_stretch_257 nf K 1 (jj v) x4 4 x1 fl' (jj v) si sj sa sb := by
      intro s0 hs0 hs1
      obtain ⟨o1, o2⟩ := or01 hfl hs0
      obtain ⟨fl', g1, g2, g3⟩ := ih (k + 1) f (fl ||| s0) (by omega) (by omega) (by omega) o1
      refine ⟨fl', g1, g2.trans ⟨fun q => ?_, fun q => ?_⟩, g3⟩
      · rcases q with q | ⟨y, a1, a2, a3⟩
        · rcases o2.mp q with q | q
          · exact Or.inl q
          · exact Or.inr ⟨k, by omega, by omega, hs1.mp q⟩
        · exact Or.inr ⟨y, by omega, a2, a3⟩
      · rcases q with q | ⟨y, a1, a2, a3⟩
        · exact Or.inl (o2.mpr (Or.inl q))
        · by_cases ey : y = k
          · subst ey
            exact Or.inl (o2.mpr (Or.inr (hs1.mpr a3)))
          · exact Or.inr ⟨y, by omega, a2, a3⟩
    by_cases c : ev b k = v
    · rw [if_pos (by rw [c])]
      exact key 1 (Or.inr rfl) ⟨fun _ => c, fun _ => rfl⟩
    · rw [if_neg (fun q => by rw [jj_eq (by omega) (by omega) (by omega) (by omega)] at q; exact c q)]
      exact key 0 (Or.inl rfl) ⟨fun q => absurd q (by decide), fun q => absurd q c⟩
/-- an edge is a beginning where summer is behind it -/
theorem beg_su (ob : EOK b) (oe : EOK e) {v Y : Int} (hv : pmm b e v = v) (hY : yo (v / 86400) = Y) : (∃ y, Y - 2 ≤ y ∧ y < Y + 3 ∧ ev b y = v) ↔ suB b e v = true := by
  have lb := ly_spec ob v
  have le := ly_spec oe v
  rw [hY] at lb le
  unfold suB
  rw [decide_eq_true_iff]
  unfold pmm at hv
  constructor
  · rintro ⟨y, _, _, a3⟩
    have s := ev_step ob y
    have := ly_uniq ob (t := v) (y := y) (by omega) (by omega)
    rw [this]
    omega
  · intro q
    exact ⟨ly b v, by omega, by omega, by omega⟩
end
section
variable {nf : Nat} {z0 : ZS} {b e : ET} {i n0 t0 c0 l d0 u0 r : Nat}
/-- how all edges end -/
def STo (z0 : ZS) (sa0 : Nat → Nat → Int32) (sb0 : Nat → Nat → Int64) (i : Nat) (N0 : Nat) (cl : Option ((Int32 × ZM) × Nat × Nat)) (rf : Option (Int32 × MS)) (si : Nat → Int32) (sj : Nat → Int64) (sa : Nat → Nat → Int32) (sb : Nat → Nat → Int64) : Prop :=
  ∃ (a : Int32) (Q : ZM) (kc ks : Nat) (si' : Nat → Int32) (sj' : Nat → Int64) (sa' : Nat → Nat → Int32) (sb' : Nat → Nat → Int64), cl = some ((a, Q), kc, ks) ∧ G4 si si' sj sj' sa sa' sb sb' ∧ kc + N0 ≤ (zM z0 Q).2.2.2.2.2.2.2.2.2.2.2.2.2.2.1 ∧ ks + 2 * N0 ≤ 2 * (zM z0 Q).2.2.2.2.2.2.2.2.2.2.2.2.2.2.1 ∧
    ((RZon (zM z0 Q) sa' sb' 4 ∧ rf = some (a, si', sj', putA i 4 sa', putB i 4 sb')) ∨ (RZon (zM z0 Q) sa0 sb0 i ∧ rf = some (a, si', sj', sa', sb')))
theorem strLoop (hnf : 10000 ≤ nf) (hi : i < 4) {sa0 : Nat → Nat → Int32} {sb0 : Nat → Nat → Int64} {tm0 : Nat → Int} {tt0 : Nat → Nat} {of0 ds0 : Nat → Int} {ix0 sz0 : Nat → Nat} (h0 : RZX z0 sa0 sb0 i n0 t0 c0 l d0 u0 r tm0 tt0 of0 ds0 ix0 sz0) (hh : z0.2.2.2.2.2.2.2.2.2.2.2.2.2.2.2.2.2.2.1 = 1) (hb : REc z0.2.2.2.2.2.2.2.2.2.2.2.2.2.2.2.2.2.2.2.2.2.2.2.2.2.2.2.2.2.2.1 z0.2.2.2.2.2.2.2.2.2.2.2.2.2.2.2.2.2.2.2.2.2.2.2.2.2.2.2.2.2.2.2.1 z0.2.2.2.2.2.2.2.2.2.2.2.2.2.2.2.2.2.2.2.2.2.2.2.2.2.2.2.2.2.2.2.2.1 z0.2.2.2.2.2.2.2.2.2.2.2.2.2.2.2.2.2.2.2.2.2.2.2.2.2.2.2.2.2.2.2.2.2.1 z0.2.2.2.2.2.2.2.2.2.2.2.2.2.2.2.2.2.2.2.2.2.2.2.2.2.2.2.2.2.2.2.2.2.2.1 z0.2.2.2.2.2.2.2.2.2.2.2.2.2.2.2.2.2.2.2.2.2.2.2.2.2.2.2.2.2.2.2.2.2.2.2.1 b) (he : REc z0.2.2.2.2.2.2.2.2.2.2.2.2.2.2.2.2.2.2.2.2.2.2.2.2.2.2.2.2.2.2.2.2.2.2.2.2.1 z0.2.2.2.2.2.2.2.2.2.2.2.2.2.2.2.2.2.2.2.2.2.2.2.2.2.2.2.2.2.2.2.2.2.2.2.2.2.1 z0.2.2.2.2.2.2.2.2.2.2.2.2.2.2.2.2.2.2.2.2.2.2.2.2.2.2.2.2.2.2.2.2.2.2.2.2.2.2.1 z0.2.2.2.2.2.2.2.2.2.2.2.2.2.2.2.2.2.2.2.2.2.2.2.2.2.2.2.2.2.2.2.2.2.2.2.2.2.2.2.1 z0.2.2.2.2.2.2.2.2.2.2.2.2.2.2.2.2.2.2.2.2.2.2.2.2.2.2.2.2.2.2.2.2.2.2.2.2.2.2.2.2.1 z0.2.2.2.2.2.2.2.2.2.2.2.2.2.2.2.2.2.2.2.2.2.2.2.2.2.2.2.2.2.2.2.2.2.2.2.2.2.2.2.2.2 e) (ob : EOK b) (oe : EOK e) {lim : Int} (lim1 : -100000000000 ≤ lim) (lim2 : lim ≤ 100000000000) :
    ∀ (m n t c d u : Nat) (Q : ZM) (x : Int) (fu fu' : Nat) (si : Nat → Int32) (sj : Nat → Int64) (sa : Nat → Nat → Int32) (sb : Nat → Nat → Int64) (tm : Nat → Int) (tt : Nat → Nat) (of ds : Nat → Int) (ix sz : Nat → Nat), n + m = 200 → m < fu → m + 1 < fu' → RZX (zM z0 Q) sa sb 4 n t c l d u r tm tt of ds ix sz → n0 ≤ n → t0 ≤ t → c0 ≤ c → KP z0 (zM z0 Q) (fun k => sa0 17 (200 * i + k)) n0 t0 c0 d0 u0 → REb sa 4 b e → isI x → (0 < n → tm (n - 1) ≤ x) →
    STo z0 sa0 sb0 i (zM z0 Q).2.2.2.2.2.2.2.2.2.2.2.2.2.2.1 (f_Zone_addEdges_60 nf z0.2.2.2.2.2.2.2.2.2.2.2.2.2.2.2.2.2.2.2.2.1 z0.2.2.2.2.2.2.2.2.2.2.2.2.2.2.2.2.2.2.2.2.2.1 z0.2.2.2.2.2.2.2.2.2.2.2.2.2.2.2.2.2.2.2.2.2.2.1 z0.2.2.2.2.2.2.2.2.2.2.2.2.2.2.2.2.2.2.2.2.2.2.2.1 z0.2.2.2.2.2.2.2.2.2.2.2.2.2.2.2.2.2.2.2.2.2.2.2.2.1 z0.2.2.2.2.2.2.2.2.2.2.2.2.2.2.2.2.2.2.2.2.2.2.2.2.2.1 z0.2.2.2.2.2.2.2.2.2.2.2.2.2.2.2.2.2.2.2.2.2.2.2.2.2.2.2.1 z0.2.2.2.2.2.2.2.2.2.2.2.2.2.2.2.2.2.2.2.2.2.2.2.2.2.2.2.2.1 z0.2.2.2.2.2.2.2.2.2.2.2.2.2.2.2.2.2.2.2.2.2.2.2.2.2.2.2.2.2.1 z0.2.2.2.2.2.2.2.2.2.2.2.2.2.2.2.2.2.2.2.2.2.2.2.2.2.2.2.2.2.2.1 z0.2.2.2.2.2.2.2.2.2.2.2.2.2.2.2.2.2.2.2.2.2.2.2.2.2.2.2.2.2.2.2.1 z0.2.2.2.2.2.2.2.2.2.2.2.2.2.2.2.2.2.2.2.2.2.2.2.2.2.2.2.2.2.2.2.2.1 z0.2.2.2.2.2.2.2.2.2.2.2.2.2.2.2.2.2.2.2.2.2.2.2.2.2.2.2.2.2.2.2.2.2.1 z0.2.2.2.2.2.2.2.2.2.2.2.2.2.2.2.2.2.2.2.2.2.2.2.2.2.2.2.2.2.2.2.2.2.2.1 z0.2.2.2.2.2.2.2.2.2.2.2.2.2.2.2.2.2.2.2.2.2.2.2.2.2.2.2.2.2.2.2.2.2.2.2.1 z0.2.2.2.2.2.2.2.2.2.2.2.2.2.2.2.2.2.2.2.2.2.2.2.2.2.2.2.2.2.2.2.2.2.2.2.2.1 z0.2.2.2.2.2.2.2.2.2.2.2.2.2.2.2.2.2.2.2.2.2.2.2.2.2.2.2.2.2.2.2.2.2.2.2.2.2.1 z0.2.2.2.2.2.2.2.2.2.2.2.2.2.2.2.2.2.2.2.2.2.2.2.2.2.2.2.2.2.2.2.2.2.2.2.2.2.2.1 z0.2.2.2.2.2.2.2.2.2.2.2.2.2.2.2.2.2.2.2.2.2.2.2.2.2.2.2.2.2.2.2.2.2.2.2.2.2.2.2.1 z0.2.2.2.2.2.2.2.2.2.2.2.2.2.2.2.2.2.2.2.2.2.2.2.2.2.2.2.2.2.2.2.2.2.2.2.2.2.2.2.2.1 z0.2.2.2.2.2.2.2.2.2.2.2.2.2.2.2.2.2.2.2.2.2.2.2.2.2.2.2.2.2.2.2.2.2.2.2.2.2.2.2.2.2 fu (ii ((n - n0 : Nat) : Int)) (ii (c0 : Int)) (ii (t0 : Int)) (ii (n0 : Int)) (jj lim) Q.1 Q.2.1 Q.2.2.1 Q.2.2.2.1 Q.2.2.2.2.1 Q.2.2.2.2.2.1 Q.2.2.2.2.2.2.1 Q.2.2.2.2.2.2.2.1 Q.2.2.2.2.2.2.2.2.1 Q.2.2.2.2.2.2.2.2.2.1 Q.2.2.2.2.2.2.2.2.2.2.1 Q.2.2.2.2.2.2.2.2.2.2.2.1 Q.2.2.2.2.2.2.2.2.2.2.2.2.1 Q.2.2.2.2.2.2.2.2.2.2.2.2.2 (jj (ly b x)) (jj (ly e x)) (jj (ev b (ly b x))) (jj (ev e (ly e x)))) (f_Mo_stretch_146 nf fu' 1 (jj x) (jj lim) 4 (ii (i : Int)) si sj sa sb) si sj sa sb := by
  intro m
  induction m using Nat.strongRecOn with
  | ind m ih =>
  intro n t c d u Q x fu fu' si sj sa sb tm tt of ds ix sz hm hf hf' h hn0 ht0 hc0 hk hreb hx hlast
  obtain ⟨f, rfl⟩ : ∃ f, fu = f + 1 := ⟨fu - 1, by omega⟩
  obtain ⟨f', rfl⟩ : ∃ f', fu' = f' + 2 := ⟨fu' - 2, by omega⟩
  have hxI := hx
  unfold isI at hx
  have r1 := ly_range ob (u := x) (by omega) (by omega)
  have r2 := ly_range oe (u := x) (by omega) (by omega)
  have g := nx_gt ob oe x
  have nr := nx_range ob oe (u := x) (by omega) (by omega)
  have l1 := nx_lyb ob oe x
  have l2 := nx_lye ob oe x
  have pe := nx_pm ob oe x
  have b1 : -90000000000 ≤ ly b (nxm b e x) ∧ ly b (nxm b e x) ≤ 90000000000 := by
    rw [l1]
    split <;> omega
  have b2 : -90000000000 ≤ ly e (nxm b e x) ∧ ly e (nxm b e x) ≤ 90000000000 := by
    rw [l2]
    split <;> omega
  have ma : f_Mo_eventAbove nf 4 (jj x) si sj sa sb = some (jj (nxm b e x), abI si (x / 86400), abJ sj (x / 86400), sa, sb) := mabove hnf hreb (show 4 < 5 by omega) (by omega) (by omega)
  have hn2 := h.1.2.2.1.2.2
  generalize hC : f_Zone_addEdges_60 nf z0.2.2.2.2.2.2.2.2.2.2.2.2.2.2.2.2.2.2.2.2.1 z0.2.2.2.2.2.2.2.2.2.2.2.2.2.2.2.2.2.2.2.2.2.1 z0.2.2.2.2.2.2.2.2.2.2.2.2.2.2.2.2.2.2.2.2.2.2.1 z0.2.2.2.2.2.2.2.2.2.2.2.2.2.2.2.2.2.2.2.2.2.2.2.1 z0.2.2.2.2.2.2.2.2.2.2.2.2.2.2.2.2.2.2.2.2.2.2.2.2.1 z0.2.2.2.2.2.2.2.2.2.2.2.2.2.2.2.2.2.2.2.2.2.2.2.2.2.1 z0.2.2.2.2.2.2.2.2.2.2.2.2.2.2.2.2.2.2.2.2.2.2.2.2.2.2.2.1 z0.2.2.2.2.2.2.2.2.2.2.2.2.2.2.2.2.2.2.2.2.2.2.2.2.2.2.2.2.1 z0.2.2.2.2.2.2.2.2.2.2.2.2.2.2.2.2.2.2.2.2.2.2.2.2.2.2.2.2.2.1 z0.2.2.2.2.2.2.2.2.2.2.2.2.2.2.2.2.2.2.2.2.2.2.2.2.2.2.2.2.2.2.1 z0.2.2.2.2.2.2.2.2.2.2.2.2.2.2.2.2.2.2.2.2.2.2.2.2.2.2.2.2.2.2.2.1 z0.2.2.2.2.2.2.2.2.2.2.2.2.2.2.2.2.2.2.2.2.2.2.2.2.2.2.2.2.2.2.2.2.1 z0.2.2.2.2.2.2.2.2.2.2.2.2.2.2.2.2.2.2.2.2.2.2.2.2.2.2.2.2.2.2.2.2.2.1 z0.2.2.2.2.2.2.2.2.2.2.2.2.2.2.2.2.2.2.2.2.2.2.2.2.2.2.2.2.2.2.2.2.2.2.1 z0.2.2.2.2.2.2.2.2.2.2.2.2.2.2.2.2.2.2.2.2.2.2.2.2.2.2.2.2.2.2.2.2.2.2.2.1 z0.2.2.2.2.2.2.2.2.2.2.2.2.2.2.2.2.2.2.2.2.2.2.2.2.2.2.2.2.2.2.2.2.2.2.2.2.1 z0.2.2.2.2.2.2.2.2.2.2.2.2.2.2.2.2.2.2.2.2.2.2.2.2.2.2.2.2.2.2.2.2.2.2.2.2.2.1 z0.2.2.2.2.2.2.2.2.2.2.2.2.2.2.2.2.2.2.2.2.2.2.2.2.2.2.2.2.2.2.2.2.2.2.2.2.2.2.1 z0.2.2.2.2.2.2.2.2.2.2.2.2.2.2.2.2.2.2.2.2.2.2.2.2.2.2.2.2.2.2.2.2.2.2.2.2.2.2.2.1 z0.2.2.2.2.2.2.2.2.2.2.2.2.2.2.2.2.2.2.2.2.2.2.2.2.2.2.2.2.2.2.2.2.2.2.2.2.2.2.2.2.1 z0.2.2.2.2.2.2.2.2.2.2.2.2.2.2.2.2.2.2.2.2.2.2.2.2.2.2.2.2.2.2.2.2.2.2.2.2.2.2.2.2.2 (f + 1) (ii ((n - n0 : Nat) : Int)) (ii (c0 : Int)) (ii (t0 : Int)) (ii (n0 : Int)) (jj lim) Q.1 Q.2.1 Q.2.2.1 Q.2.2.2.1 Q.2.2.2.2.1 Q.2.2.2.2.2.1 Q.2.2.2.2.2.2.1 Q.2.2.2.2.2.2.2.1 Q.2.2.2.2.2.2.2.2.1 Q.2.2.2.2.2.2.2.2.2.1 Q.2.2.2.2.2.2.2.2.2.2.1 Q.2.2.2.2.2.2.2.2.2.2.2.1 Q.2.2.2.2.2.2.2.2.2.2.2.2.1 Q.2.2.2.2.2.2.2.2.2.2.2.2.2 (jj (ly b x)) (jj (ly e x)) (jj (ev b (ly b x))) (jj (ev e (ly e x))) = C
  generalize hR : f_Mo_stretch_146 nf (f' + 2) 1 (jj x) (jj lim) 4 (ii (i : Int)) si sj sa sb = R
  rw [f_Zone_addEdges_60, if_neg (show ¬ (200 : Int32) < ii ((n - n0 : Nat) : Int) by rw [ii_lit, ii_lt (by omega) (by omega) (by omega) (by omega)]; omega), wk_fw nf hb he ob oe (by omega) (by omega), Option.bind_some] at hC
  dsimp only at hC
  rw [wk_mo nf ob oe b1 b2, Option.bind_some, pe] at hC
  rw [f_Mo_stretch_146, if_neg (show ¬ (1 : Int32) = 0 by decide), ma, Option.bind_some] at hR
  dsimp only at hR
  have qf0 : QF si (abI si (x / 86400)) sj (abJ sj (x / 86400)) sa sa := ⟨ab_fI si _, ab_fJ sj _, frA.rf⟩
  generalize hv : nxm b e x = v at *
  by_cases c1 : v < lim
  · rw [if_pos ((jj_lt (by omega) (by omega) (by omega) (by omega)).mpr c1), Option.bind_some, wk_su nf ob oe b1 b2, Option.bind_some] at hC
    rw [if_neg (show ¬ jj lim ≤ jj v from fun y => by rw [jj_le (by omega) (by omega) (by omega) (by omega)] at y; omega)] at hR
    unfold f_Mo_stretch_173 at hR
    rw [if_neg (show ¬ (1 : Int32) = 0 by decide), mabout_ok nf (by omega) (by omega), Option.bind_some] at hR
    dsimp only at hR
    rw [show va_up (va_up (abI si (x / 86400)) 42 (ii (dod_ (v / 86400)))) 41 (ii (mod_ (v / 86400))) = abI (abI si (x / 86400)) (v / 86400) from rfl, show va_up (abJ sj (x / 86400)) 40 (jj (yo (v / 86400))) = abJ (abJ sj (x / 86400)) (v / 86400) from rfl, show (2 : Int64) = jj 2 from rfl, jj_sub] at hR
    have qf1 : QF si (abI (abI si (x / 86400)) (v / 86400)) sj (abJ (abJ sj (x / 86400)) (v / 86400)) sa sa := qf0.tr ⟨ab_fI _ _, ab_fJ _ _, frA.rf⟩
    have hy := yo_bounds (d := v / 86400) (by omega) (by omega)
    have bs := beg_su ob oe (v := v) pe rfl
    obtain ⟨fl, g1, g2, g3⟩ := mbeg (nf := nf) (K := f_Mo_stretch_146 nf (f' + 1)) (x1 := ii (i : Int)) (x4 := jj lim) (si := abI (abI si (x / 86400)) (v / 86400)) (sj := abJ (abJ sj (x / 86400)) (v / 86400)) (sb := sb) hreb (v := v) (Y := yo (v / 86400)) (by omega) (by omega) (by omega) (by omega) 5 (yo (v / 86400) - 2) nf 0 (by omega) (by omega) (by omega) (Or.inl rfl)
    rw [g3] at hR
    obtain ⟨w, hw, hfl, hCw⟩ : ∃ w : Nat, w < 2 ∧ fl = ii (w : Int) ∧ f_Zone_addEdges_108 nf z0.2.2.2.2.2.2.2.2.2.2.2.2.2.2.2.2.2.2.2.2.1 z0.2.2.2.2.2.2.2.2.2.2.2.2.2.2.2.2.2.2.2.2.2.1 z0.2.2.2.2.2.2.2.2.2.2.2.2.2.2.2.2.2.2.2.2.2.2.1 z0.2.2.2.2.2.2.2.2.2.2.2.2.2.2.2.2.2.2.2.2.2.2.2.1 z0.2.2.2.2.2.2.2.2.2.2.2.2.2.2.2.2.2.2.2.2.2.2.2.2.1 z0.2.2.2.2.2.2.2.2.2.2.2.2.2.2.2.2.2.2.2.2.2.2.2.2.2.1 z0.2.2.2.2.2.2.2.2.2.2.2.2.2.2.2.2.2.2.2.2.2.2.2.2.2.2.2.1 z0.2.2.2.2.2.2.2.2.2.2.2.2.2.2.2.2.2.2.2.2.2.2.2.2.2.2.2.2.1 z0.2.2.2.2.2.2.2.2.2.2.2.2.2.2.2.2.2.2.2.2.2.2.2.2.2.2.2.2.2.1 (f_Zone_addEdges_60 nf z0.2.2.2.2.2.2.2.2.2.2.2.2.2.2.2.2.2.2.2.2.1 z0.2.2.2.2.2.2.2.2.2.2.2.2.2.2.2.2.2.2.2.2.2.1 z0.2.2.2.2.2.2.2.2.2.2.2.2.2.2.2.2.2.2.2.2.2.2.1 z0.2.2.2.2.2.2.2.2.2.2.2.2.2.2.2.2.2.2.2.2.2.2.2.1 z0.2.2.2.2.2.2.2.2.2.2.2.2.2.2.2.2.2.2.2.2.2.2.2.2.1 z0.2.2.2.2.2.2.2.2.2.2.2.2.2.2.2.2.2.2.2.2.2.2.2.2.2.1 z0.2.2.2.2.2.2.2.2.2.2.2.2.2.2.2.2.2.2.2.2.2.2.2.2.2.2.2.1 z0.2.2.2.2.2.2.2.2.2.2.2.2.2.2.2.2.2.2.2.2.2.2.2.2.2.2.2.2.1 z0.2.2.2.2.2.2.2.2.2.2.2.2.2.2.2.2.2.2.2.2.2.2.2.2.2.2.2.2.2.1 z0.2.2.2.2.2.2.2.2.2.2.2.2.2.2.2.2.2.2.2.2.2.2.2.2.2.2.2.2.2.2.1 z0.2.2.2.2.2.2.2.2.2.2.2.2.2.2.2.2.2.2.2.2.2.2.2.2.2.2.2.2.2.2.2.1 z0.2.2.2.2.2.2.2.2.2.2.2.2.2.2.2.2.2.2.2.2.2.2.2.2.2.2.2.2.2.2.2.2.1 z0.2.2.2.2.2.2.2.2.2.2.2.2.2.2.2.2.2.2.2.2.2.2.2.2.2.2.2.2.2.2.2.2.2.1 z0.2.2.2.2.2.2.2.2.2.2.2.2.2.2.2.2.2.2.2.2.2.2.2.2.2.2.2.2.2.2.2.2.2.2.1 z0.2.2.2.2.2.2.2.2.2.2.2.2.2.2.2.2.2.2.2.2.2.2.2.2.2.2.2.2.2.2.2.2.2.2.2.1 z0.2.2.2.2.2.2.2.2.2.2.2.2.2.2.2.2.2.2.2.2.2.2.2.2.2.2.2.2.2.2.2.2.2.2.2.2.1 z0.2.2.2.2.2.2.2.2.2.2.2.2.2.2.2.2.2.2.2.2.2.2.2.2.2.2.2.2.2.2.2.2.2.2.2.2.2.1 z0.2.2.2.2.2.2.2.2.2.2.2.2.2.2.2.2.2.2.2.2.2.2.2.2.2.2.2.2.2.2.2.2.2.2.2.2.2.2.1 z0.2.2.2.2.2.2.2.2.2.2.2.2.2.2.2.2.2.2.2.2.2.2.2.2.2.2.2.2.2.2.2.2.2.2.2.2.2.2.2.1 z0.2.2.2.2.2.2.2.2.2.2.2.2.2.2.2.2.2.2.2.2.2.2.2.2.2.2.2.2.2.2.2.2.2.2.2.2.2.2.2.2.1 z0.2.2.2.2.2.2.2.2.2.2.2.2.2.2.2.2.2.2.2.2.2.2.2.2.2.2.2.2.2.2.2.2.2.2.2.2.2.2.2.2.2 f) (ii ((n - n0 : Nat) : Int)) (ii (c0 : Int)) (ii (t0 : Int)) (ii (n0 : Int)) (jj lim) (ii (gW w)) (jj v) Q.1 Q.2.1 Q.2.2.1 Q.2.2.2.1 Q.2.2.2.2.1 Q.2.2.2.2.2.1 Q.2.2.2.2.2.2.1 Q.2.2.2.2.2.2.2.1 Q.2.2.2.2.2.2.2.2.1 Q.2.2.2.2.2.2.2.2.2.1 Q.2.2.2.2.2.2.2.2.2.2.1 Q.2.2.2.2.2.2.2.2.2.2.2.1 Q.2.2.2.2.2.2.2.2.2.2.2.2.1 Q.2.2.2.2.2.2.2.2.2.2.2.2.2 (jj (ly b v)) (jj (ly e v)) (jj (ev b (ly b v))) (jj (ev e (ly e v))) = C := by
      cases hs : suB b e v with
      | true =>
        rw [hs, if_neg (show ¬ bI true = 0 by decide)] at hC
        refine ⟨1, by omega, ?_, hC⟩
        exact g2.mpr (Or.inr (bs.mpr hs))
      | false =>
        rw [hs, if_pos (show bI false = 0 from rfl)] at hC
        refine ⟨0, by omega, ?_, hC⟩
        rcases g1 with g1 | g1
        · exact g1
        · rcases g2.mp g1 with q | q
          · exact absurd q (by decide)
          · rw [bs.mp q] at hs
            cases hs
    subst hfl
    unfold f_Zone_addEdges_108 at hCw
    unfold f_Mo_stretch_257 at hR
    obtain ⟨ok, Q', kc, ks, si', sj', sa', sb', a1, a2, a3, a4, a5, a6, a7⟩ := addTm (nf := nf) (w := w) (v := v) (si := abI (abI si (x / 86400)) (v / 86400)) (sj := abJ (abJ sj (x / 86400)) (v / 86400)) hnf h hh hw (by unfold isI; omega) (fun y => by have := hlast y; omega)
    have a1' : f_Zone_addTime nf (jj v) (ii (gW w)) Q.1 Q.2.1 Q.2.2.1 Q.2.2.2.1 Q.2.2.2.2.1 Q.2.2.2.2.2.1 Q.2.2.2.2.2.2.1 Q.2.2.2.2.2.2.2.1 Q.2.2.2.2.2.2.2.2.1 Q.2.2.2.2.2.2.2.2.2.1 Q.2.2.2.2.2.2.2.2.2.2.1 Q.2.2.2.2.2.2.2.2.2.2.2.1 Q.2.2.2.2.2.2.2.2.2.2.2.2.1 Q.2.2.2.2.2.2.2.2.2.2.2.2.2 z0.2.2.2.2.2.2.2.2.2.2.2.2.2.2.2.2.2.2.2.2.1 z0.2.2.2.2.2.2.2.2.2.2.2.2.2.2.2.2.2.2.2.2.2.1 z0.2.2.2.2.2.2.2.2.2.2.2.2.2.2.2.2.2.2.2.2.2.2.1 z0.2.2.2.2.2.2.2.2.2.2.2.2.2.2.2.2.2.2.2.2.2.2.2.1 z0.2.2.2.2.2.2.2.2.2.2.2.2.2.2.2.2.2.2.2.2.2.2.2.2.1 z0.2.2.2.2.2.2.2.2.2.2.2.2.2.2.2.2.2.2.2.2.2.2.2.2.2.1 z0.2.2.2.2.2.2.2.2.2.2.2.2.2.2.2.2.2.2.2.2.2.2.2.2.2.2.2.1 z0.2.2.2.2.2.2.2.2.2.2.2.2.2.2.2.2.2.2.2.2.2.2.2.2.2.2.2.2.1 z0.2.2.2.2.2.2.2.2.2.2.2.2.2.2.2.2.2.2.2.2.2.2.2.2.2.2.2.2.2.1 = some ((bI ok, Q'), kc, ks) := a1
    obtain ⟨q0, q1, q2, q3, q4, q5, q6, q7, q8, q9, q10, q11, q12, q13⟩ := Q'
    rw [a1', Option.bind_some] at hCw
    rw [a2, Option.bind_some] at hR
    dsimp only at hCw hR
    have gf := (qf1.g4 (sb := sb)).tr a3
    have kp := a6 z0 (fun k => sa0 17 (200 * i + k)) n0 t0 c0 d0 u0 h0.1.2.2.2.1.2.2.1 hn0 ht0 hc0 hk
    cases ok with
    | true =>
      rw [if_neg (show ¬ bI true = 0 by decide)] at hCw hR
      obtain ⟨t', c', d', u', tm', tt', of', ds', ix', sz', R', tmn, ht', hc'⟩ := a7 rfl
      have n1 : n + 1 ≤ 200 := R'.1.2.2.1.2.2
      have hreb' : REb sa' 4 b e := by
        refine ⟨hreb.1.congr (fun a ha => ?_), hreb.2.1.congr (fun a ha => ?_), hreb.2.2.1, hreb.2.2.2⟩
        · exact gf.2.2.1 a _ (by unfold X4; omega) (by omega) (by omega)
        · exact gf.2.2.1 a _ (by unfold X4; omega) (by omega) (by omega)
      rw [iiS, show n - n0 + 1 = n + 1 - n0 by omega] at hCw
      have rr := ih (m - 1) (by omega) (n + 1) t' c' d' u' (q0, q1, q2, q3, q4, q5, q6, q7, q8, q9, q10, q11, q12, q13) v f (f' + 1) si' sj' sa' sb' tm' tt' of' ds' ix' sz' (by omega) (by omega) (by omega) R' (by omega) (by omega) (by omega) kp hreb' (by unfold isI; omega) (fun _ => by rw [show n + 1 - 1 = n by omega, tmn]; omega)
      obtain ⟨a, Q2, kc2, ks2, si2, sj2, sa2, sb2, y1, y2, y3, y4, y5⟩ := rr
      refine ⟨a, Q2, kc2 + kc, ks2 + ks, si2, sj2, sa2, sb2, hCw.symm.trans ((congrArg (ad kc ks) y1).trans rfl), gf.tr y2, ?_, ?_, ?_⟩
      · have e1 : kc + (zM z0 Q).2.2.2.2.2.2.2.2.2.2.2.2.2.2.1 ≤ q12 := a4
        have e2 : kc2 + q12 ≤ (zM z0 Q2).2.2.2.2.2.2.2.2.2.2.2.2.2.2.1 := y3
        omega
      · have e1 : ks + 2 * (zM z0 Q).2.2.2.2.2.2.2.2.2.2.2.2.2.2.1 ≤ 2 * q12 := a5
        have e2 : ks2 + 2 * q12 ≤ 2 * (zM z0 Q2).2.2.2.2.2.2.2.2.2.2.2.2.2.2.1 := y4
        omega
      · rcases y5 with ⟨e1, e2⟩ | ⟨e1, e2⟩
        · exact Or.inl ⟨e1, hR.symm.trans e2⟩
        · exact Or.inr ⟨e1, hR.symm.trans e2⟩
    | false =>
      rw [if_pos (show bI false = 0 from rfl)] at hCw hR
      have bk := (KP.back h0 kp).zon
      refine ⟨-2147483648, _, 0 + kc, 0 + ks, si', sj', sa', sb', hCw.symm.trans rfl, gf, ?_, ?_, Or.inr ⟨bk, hR.symm⟩⟩
      · have e1 : kc + (zM z0 Q).2.2.2.2.2.2.2.2.2.2.2.2.2.2.1 ≤ q12 := a4
        show 0 + kc + (zM z0 Q).2.2.2.2.2.2.2.2.2.2.2.2.2.2.1 ≤ q12
        omega
      · have e1 : ks + 2 * (zM z0 Q).2.2.2.2.2.2.2.2.2.2.2.2.2.2.1 ≤ 2 * q12 := a5
        show 0 + ks + 2 * (zM z0 Q).2.2.2.2.2.2.2.2.2.2.2.2.2.2.1 ≤ 2 * q12
        omega
  · rw [if_neg (fun y => c1 ((jj_lt (by omega) (by omega) (by omega) (by omega)).mp y))] at hC
    rw [if_pos (show jj lim ≤ jj v from (jj_le (by omega) (by omega) (by omega) (by omega)).mpr (by omega))] at hR
    unfold f_Mo_stretch_173 at hR
    have ei : (ii (i : Int)).toNatClampNeg = i := by rw [ii_nat (by omega) (by omega)]; omega
    have ni : ¬ (ii (i : Int) < 0 ∨ 5 ≤ i) := by rw [ii_lit, ii_lt (by omega) (by omega) (by omega) (by omega)]; omega
    have mp : f_Mo_put nf (ii (i : Int)) 4 (abI si (x / 86400)) (abJ sj (x / 86400)) sa sb = some (abI si (x / 86400), abJ sj (x / 86400), putA i 4 sa, putB i 4 sb) := mput (by omega) (by omega) (show 4 < 5 by omega) (by omega) sa sb
    rw [if_pos rfl, f_Mo_stretch_146, if_pos rfl, mp, Option.bind_some] at hR
    dsimp only at hR
    rw [ei, if_neg ni, (putA_mv i 4 sa).one 5 (by omega)] at hR
    have e5 : sa 5 4 = Q.1 := h.1.2.2.1.2.1.trans h.1.2.2.1.1.symm
    rw [e5] at hR
    refine ⟨Q.1, Q, 0, 0, abI si (x / 86400), abJ sj (x / 86400), sa, sb, hC.symm, qf0.g4, by omega, by omega, Or.inl ⟨h.zon, hR.symm⟩⟩
end
