/-! ===== table: lines ===== -/
/-- both have read so far -/
def TJ (po hb cn : Int32) (ex : Int64) (TI AH : Nat → Int64) (si : Nat → Int32) (sj : Nat → Int64) (sb : Nat → Nat → Int64) (n p c : Nat) (h : Bool) (tv av : Nat → Int) (x : Int) : Prop :=
  (po = ii (p : Int) ∧ si 32 = ii (p : Int) ∧ si 33 = ii (n : Int) ∧ hb = bI h ∧ si 70 = bI h ∧ cn = ii (c : Int) ∧ si 66 = ii (c : Int) ∧ c ≤ 60) ∧
  (∀ k, k < c → TI k = jj (tv k) ∧ sb 67 k = jj (tv k + 2208988800) ∧ AH k = jj (av k) ∧ sb 68 k = jj (av k) ∧ -2208988800 ≤ tv k ∧ tv k ≤ 10000000000 ∧ 0 ≤ av k ∧ av k ≤ 10000000000 ∧ (tv k + 2208988800) % 86400 = 0) ∧
  (∀ k, k + 1 < c → tv k + 86400 ≤ tv (k + 1) ∧ (av (k + 1) = av k + 1 ∨ av (k + 1) = av k - 1)) ∧ (h = true → ex = jj x ∧ sj 69 = jj (x + 2208988800) ∧ -2208988800 ≤ x ∧ x ≤ 10000000000)
def TF (si si' : Nat → Int32) (sj sj' : Nat → Int64) (sb sb' : Nat → Nat → Int64) : Prop := (∀ k, k ≠ 2 → k ≠ 32 → k ≠ 36 → k ≠ 66 → k ≠ 70 → si' k = si k) ∧ (∀ k, k ≠ 69 → k ≠ 71 → sj' k = sj k) ∧ ∀ b, b ≠ 67 → b ≠ 68 → sb' b = sb b
theorem TF.tr {si si' si'' : Nat → Int32} {sj sj' sj'' : Nat → Int64} {sb sb' sb'' : Nat → Nat → Int64} (h : TF si si' sj sj' sb sb') (g : TF si' si'' sj' sj'' sb' sb'') : TF si si'' sj sj'' sb sb'' :=
  ⟨fun k h1 h2 h3 h4 h5 => (g.1 k h1 h2 h3 h4 h5).trans (h.1 k h1 h2 h3 h4 h5), fun k h1 h2 => (g.2.1 k h1 h2).trans (h.2.1 k h1 h2), fun b h1 h2 => (g.2.2 b h1 h2).trans (h.2.2 b h1 h2)⟩
/-- how a line ends -/
def TOut (n p : Nat) (fa pl : Int32) (cl : Option (Int32 × Int32 × Int32 × Int32 × Int32 × Int32 × Int64 × (Nat → Int64) × (Nat → Int64))) (rf : Option (Int32 × MS)) (si : Nat → Int32) (sj : Nat → Int64) (sa : Nat → Nat → Int32) (sb : Nat → Nat → Int64) : Prop :=
  (∃ (po hb cn : Int32) (ex : Int64) (TI AH : Nat → Int64) (si' : Nat → Int32) (sj' : Nat → Int64) (sb' : Nat → Nat → Int64) (p' c : Nat) (h : Bool) (tv av : Nat → Int) (x : Int), cl = some (1, fa, pl, po, hb, cn, ex, TI, AH) ∧ rf = some (1, si', sj', sa, sb') ∧ TJ po hb cn ex TI AH si' sj' sb' n p' c h tv av x ∧ p < p' ∧ p' ≤ n ∧ TF si si' sj sj' sb sb' ∧ si' 2 = si 2 ∧ si' 36 = si 36) ∨
  (∃ (f q po hb cn : Int32) (ex : Int64) (TI AH : Nat → Int64) (si' : Nat → Int32) (sj' : Nat → Int64) (sb' : Nat → Nat → Int64), cl = some (0, f, q, po, hb, cn, ex, TI, AH) ∧ rf = some (0, si', sj', sa, sb') ∧ si' 36 = f ∧ si' 2 = q ∧ TF si si' sj sj' sb sb')
theorem vpl_ne {f : Nat → Int64} {k j : Nat} {v : Int64} (h : j ≠ k) : vp_updL f k v j = f j := by unfold vp_updL; rw [if_neg h]
theorem vpl_eq {f : Nat → Int64} {k : Nat} {v : Int64} : vp_updL f k v k = v := by unfold vp_updL; rw [if_pos rfl]
section
variable {nf n : Nat} {sj : Nat → Int64} {sa : Nat → Nat → Int32}
/-- a row is added: behind the line's end at p -/
theorem tadd {po hb cn : Int32} {ex : Int64} {TI AH : Nat → Int64} {si : Nat → Int32} {sb : Nat → Nat → Int64} {p c : Nat} {h : Bool} {tv av : Nat → Int} {x v w : Int} (fa pl q1 q2 : Int32) (hJ : TJ po hb cn ex TI AH si sj sb n p c h tv av x) (v0 : 0 ≤ v) (v1 : v < 10000000000) (w0 : 0 ≤ w) (w1 : w < 10000000000) :
    (∃ (TI' AH' : Nat → Int64) (si' : Nat → Int32) (sb' : Nat → Nat → Int64) (tv' av' : Nat → Int), f_TP_addRow nf (jj v) q1 (jj w) q2 fa pl cn TI AH = some (1, fa, pl, ii ((c + 1 : Nat) : Int), TI', AH') ∧ f_Mo_rowLine_88 nf (jj w) q2 (jj v) q1 1 si sj sa sb = some (1, si', sj, sa, sb') ∧ TJ po hb (ii ((c + 1 : Nat) : Int)) ex TI' AH' si' sj sb' n p (c + 1) h tv' av' x ∧ TF si si' sj sj sb sb' ∧ si' 2 = si 2 ∧ si' 36 = si 36) ∨
    (∃ (f q : Int32), f_TP_addRow nf (jj v) q1 (jj w) q2 fa pl cn TI AH = some (0, f, q, cn, TI, AH) ∧ f_Mo_rowLine_88 nf (jj w) q2 (jj v) q1 1 si sj sa sb = some (0, va_up (va_up si 36 f) 2 q, sj, sa, sb)) := by
  obtain ⟨⟨j1, j2, j3, j4, j5, j6, j7, j8⟩, j9, j10, j11⟩ := hJ
  have em : jj v - jj v / 86400 * 86400 = jj (v - v / 86400 * 86400) := by
    rw [show (86400 : Int64) = jj 86400 from rfl, jj_divp v0 (by omega) (by omega) (by omega), jj_mul, jj_sub]
  have fail2 : ∀ k : Int32, f_TP_fail nf k q1 fa pl = some (0, k, q1) := fun _ => rfl
  have fail3 : ∀ k : Int32, f_TP_fail nf k q2 fa pl = some (0, k, q2) := fun _ => rfl
  have m130 : f_Mo_rowLine_130 nf q1 si sj sa sb = some (0, va_up (va_up si 36 2) 2 q1, sj, sa, sb) := rfl
  have c49 : f_TP_addRow_49 nf q1 fa pl cn TI AH = some (0, 2, q1, cn, TI, AH) := rfl
  have e8 : jj v - 2208988800 = jj (v - 2208988800) := by rw [show (2208988800 : Int64) = jj 2208988800 from rfl, jj_sub]
  -- storing
  have store : (0 < c → tv (c - 1) + 86400 ≤ v - 2208988800 ∧ (w = av (c - 1) + 1 ∨ w = av (c - 1) - 1)) → v % 86400 = 0 → f_TP_addRow nf (jj v) q1 (jj w) q2 fa pl cn TI AH = f_TP_addRow_90 nf (jj (v - 2208988800)) q1 (jj w) fa pl cn TI AH → f_Mo_rowLine_88 nf (jj w) q2 (jj v) q1 1 si sj sa sb = f_Mo_rowLine_192 nf (jj w) (jj v) q1 si sj sa sb →
      (∃ (TI' AH' : Nat → Int64) (si' : Nat → Int32) (sb' : Nat → Nat → Int64) (tv' av' : Nat → Int), f_TP_addRow nf (jj v) q1 (jj w) q2 fa pl cn TI AH = some (1, fa, pl, ii ((c + 1 : Nat) : Int), TI', AH') ∧ f_Mo_rowLine_88 nf (jj w) q2 (jj v) q1 1 si sj sa sb = some (1, si', sj, sa, sb') ∧ TJ po hb (ii ((c + 1 : Nat) : Int)) ex TI' AH' si' sj sb' n p (c + 1) h tv' av' x ∧ TF si si' sj sj sb sb' ∧ si' 2 = si 2 ∧ si' 36 = si 36) ∨
      (∃ (f q : Int32), f_TP_addRow nf (jj v) q1 (jj w) q2 fa pl cn TI AH = some (0, f, q, cn, TI, AH) ∧ f_Mo_rowLine_88 nf (jj w) q2 (jj v) q1 1 si sj sa sb = some (0, va_up (va_up si 36 f) 2 q, sj, sa, sb)) := by
    intro hpr hmod ec er
    rw [ec, er]
    unfold f_TP_addRow_90 f_Mo_rowLine_192
    rw [j6, j7]
    by_cases c60 : c = 60
    · rw [if_neg (by rw [ii_lit, ii_lt (by omega) (by omega) (by omega) (by omega)]; omega), if_pos (by rw [c60]; rfl)]
      exact Or.inr ⟨4, q1, rfl, rfl⟩
    · obtain ⟨i1, i2⟩ := nidx (k := c) (m := 60) (by omega) (by omega)
      rw [if_pos (by rw [ii_lit, ii_lt (by omega) (by omega) (by omega) (by omega)]; omega), i1, if_neg i2, if_neg i2, if_neg (by rw [ii_lit, ii_eq (by omega) (by omega) (by omega) (by omega)]; omega), if_neg i2, if_neg i2, iiS]
      refine Or.inl ⟨_, _, _, _, fun k => if k = c then v - 2208988800 else tv k, fun k => if k = c then w else av k, rfl, rfl, ⟨⟨j1, by rw [vup_ne (by decide)]; exact j2, by rw [vup_ne (by decide)]; exact j3, j4, by rw [vup_ne (by decide)]; exact j5, rfl, vup_eq, by omega⟩, fun k hk => ?_, fun k hk => ?_, j11⟩, ⟨fun k _ _ _ h4 _ => vup_ne h4, fun _ _ _ => rfl, fun b h1 h2 => by rw [vup_ne h2, vup_ne h1]⟩, vup_ne (by decide), vup_ne (by decide)⟩
      · dsimp only
        rw [vup_ne (show (67 : Nat) ≠ 68 by decide), vup_eq, vup_eq]
        by_cases e : k = c
        · rw [e, if_pos rfl, if_pos rfl, vpl_eq, vpl_eq, vpl_eq, vpl_eq]
          exact ⟨rfl, by congr 1; omega, rfl, rfl, by omega, by omega, by omega, by omega, by omega⟩
        · rw [if_neg e, if_neg e, vpl_ne e, vpl_ne e, vpl_ne e, vpl_ne e]
          exact j9 k (by omega)
      · dsimp only
        rw [if_neg (show ¬ k = c by omega), if_neg (show ¬ k = c by omega)]
        by_cases e : k + 1 = c
        · rw [if_pos e, if_pos e]
          have := hpr (by omega)
          rw [show c - 1 = k by omega] at this
          exact this
        · rw [if_neg e, if_neg e]
          exact j10 k (by omega)
  have ec1 : cn - 1 = ii ((c : Int) - 1) := by rw [j6, ii_lit, ii_sub]
  by_cases d0 : v % 86400 = 0
  · have dz : jj (v - v / 86400 * 86400) = 0 := by rw [show v - v / 86400 * 86400 = 0 by omega]; rfl
    by_cases c0 : c = 0
    · subst c0
      refine store (fun z => by omega) d0 ?_ ?_
      · unfold f_TP_addRow f_TP_addRow_0 f_TP_addRow_56
        rw [em, if_pos dz, ec1, if_pos (by decide), if_pos (by decide), e8]
      · unfold f_Mo_rowLine_88 f_Mo_rowLine_137
        rw [if_neg (by decide), em, if_pos dz, j7, if_pos (show ii ((0 : Nat) : Int) ≤ 0 by decide), if_pos (show ii ((0 : Nat) : Int) ≤ 0 by decide)]
    · obtain ⟨i1, i2⟩ := nidx (k := c - 1) (m := 60) (by omega) (by omega)
      have ec2 : ii ((c : Int) - 1) = ii ((c - 1 : Nat) : Int) := by congr 1; omega
      have er1 : si 66 - 1 = ii ((c - 1 : Nat) : Int) := by rw [j7, ii_lit, ii_sub, show (c : Int) - 1 = ((c - 1 : Nat) : Int) by omega]
      obtain ⟨b1, b2, b3, b4, b5, b6, b7, b8, b9⟩ := j9 (c - 1) (by omega)
      have n1 : ¬ ii ((c - 1 : Nat) : Int) < 0 := fun z => i2 (Or.inl z)
      have r66 : ¬ si 66 ≤ 0 := by rw [j7, ii_lit, ii_le (by omega) (by omega) (by omega) (by omega)]; omega
      by_cases lt : tv (c - 1) < v - 2208988800
      · have cA : f_TP_addRow nf (jj v) q1 (jj w) q2 fa pl cn TI AH = f_TP_addRow_56 nf (jj (v - 2208988800)) (ii ((c - 1 : Nat) : Int)) q1 (jj w) q2 fa pl cn TI AH := by
          unfold f_TP_addRow f_TP_addRow_0
          rw [em, if_pos dz, ec1, ec2, if_neg n1, i1, if_neg i2, b1, e8, if_pos ((jj_lt (by omega) (by omega) (by omega) (by omega)).mpr lt)]
        have rA : f_Mo_rowLine_88 nf (jj w) q2 (jj v) q1 1 si sj sa sb = f_Mo_rowLine_137 nf (jj w) q2 (jj v) q1 si sj sa sb := by
          unfold f_Mo_rowLine_88
          rw [if_neg (by decide), em, if_pos dz, if_neg r66, er1, i1, if_neg i2, b2, if_pos ((jj_lt (by omega) (by omega) (by omega) (by omega)).mpr (by omega))]
        have d1 : jj w - AH (c - 1) = jj (w - av (c - 1)) := by rw [b3, jj_sub]
        have d2 : jj w - sb 68 (c - 1) = jj (w - av (c - 1)) := by rw [b4, jj_sub]
        by_cases g : w = av (c - 1) + 1 ∨ w = av (c - 1) - 1
        · refine store (fun _ => ⟨by omega, g⟩) d0 (cA.trans ?_) (rA.trans ?_)
          · unfold f_TP_addRow_56
            rw [if_neg n1, i1, if_neg i2, d1, show (0 : Int64) = jj 0 from rfl, jj_neg]
            rcases g with g | g
            · rw [if_pos ((jj_lt (by omega) (by omega) (by omega) (by omega)).mpr (by omega)), if_pos (by rw [show w - av (c - 1) = 1 by omega]; rfl)]
            · rw [if_neg (show ¬ jj 0 < jj (w - av (c - 1)) from fun z => by rw [jj_lt (by omega) (by omega) (by omega) (by omega)] at z; omega), if_pos (by rw [show -(w - av (c - 1)) = 1 by omega]; rfl)]
          · unfold f_Mo_rowLine_137
            rw [if_neg r66, er1, i1, if_neg i2, if_neg i2, d2]
            rcases g with g | g
            · rw [if_pos (by rw [show w - av (c - 1) = 1 by omega]; rfl)]
            · rw [if_neg (fun z => by rw [show (1 : Int64) = jj 1 from rfl, jj_eq (by omega) (by omega) (by omega) (by omega)] at z; omega), if_pos (by rw [show w - av (c - 1) = -1 by omega]; rfl)]
        · refine Or.inr ⟨3, q2, cA.trans ?_, rA.trans ?_⟩
          · unfold f_TP_addRow_56
            rw [if_neg n1, i1, if_neg i2, d1, show (0 : Int64) = jj 0 from rfl, jj_neg, show (1 : Int64) = jj 1 from rfl]
            by_cases s : 0 < w - av (c - 1)
            · rw [if_pos ((jj_lt (by omega) (by omega) (by omega) (by omega)).mpr s), if_neg (show ¬ jj (w - av (c - 1)) = jj 1 from fun z => by rw [jj_eq (by omega) (by omega) (by omega) (by omega)] at z; omega)]
              rfl
            · rw [if_neg (show ¬ jj 0 < jj (w - av (c - 1)) from fun z => s ((jj_lt (by omega) (by omega) (by omega) (by omega)).mp z)), if_neg (show ¬ jj (-(w - av (c - 1))) = jj 1 from fun z => by rw [jj_eq (by omega) (by omega) (by omega) (by omega)] at z; omega)]
              rfl
          · unfold f_Mo_rowLine_137
            rw [if_neg r66, er1, i1, if_neg i2, if_neg i2, d2, if_neg (fun z => by rw [show (1 : Int64) = jj 1 from rfl, jj_eq (by omega) (by omega) (by omega) (by omega)] at z; omega), if_neg (fun z => by rw [show (-1 : Int64) = jj (-1) from rfl, jj_eq (by omega) (by omega) (by omega) (by omega)] at z; omega)]
            rfl
      · refine Or.inr ⟨2, q1, ?_, ?_⟩
        · unfold f_TP_addRow f_TP_addRow_0
          rw [em, if_pos dz, ec1, ec2, if_neg n1, i1, if_neg i2, b1, e8, if_neg (fun z => lt ((jj_lt (by omega) (by omega) (by omega) (by omega)).mp z)), c49]
        · unfold f_Mo_rowLine_88
          rw [if_neg (by decide), em, if_pos dz, if_neg r66, er1, i1, if_neg i2, b2, if_neg (fun z => by rw [jj_lt (by omega) (by omega) (by omega) (by omega)] at z; omega), m130]
  · have dz : ¬ jj (v - v / 86400 * 86400) = 0 := by rw [show (0 : Int64) = jj 0 from rfl, jj_eq (by omega) (by omega) (by omega) (by omega)]; omega
    refine Or.inr ⟨2, q1, ?_, ?_⟩
    · unfold f_TP_addRow f_TP_addRow_0
      rw [em, if_neg dz, c49]
    · unfold f_Mo_rowLine_88
      rw [if_neg (by decide), em, if_neg dz, m130]
end
