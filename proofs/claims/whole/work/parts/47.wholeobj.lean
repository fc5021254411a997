
/-! ===== the whole object: common cells, four zones and the spare one ===== -/
abbrev CS : Type := CC × (Nat → ZS)
def zAll {α : Type} (f : Nat → List α) : List α := f 0 ++ (f 1 ++ (f 2 ++ (f 3 ++ f 4)))
def zOth {α : Type} (f : Nat → List α) (i : Nat) : List α := match i with
  | 0 => f 1 ++ (f 2 ++ (f 3 ++ f 4))
  | 1 => f 0 ++ (f 2 ++ (f 3 ++ f 4))
  | 2 => f 0 ++ (f 1 ++ (f 3 ++ f 4))
  | 3 => f 0 ++ (f 1 ++ (f 2 ++ f 4))
  | _ => f 0 ++ (f 1 ++ (f 2 ++ f 3))
theorem zsel {α : Type} (f : Nat → List α) {i : Nat} (hi : i < 5) : (zAll f).Perm (f i ++ zOth f i) := by
  match i, hi with
  | 0, _ => exact List.Perm.refl _
  | 1, _ => exact List.perm_append_comm_assoc _ _ _
  | 2, _ => exact ((List.perm_append_comm_assoc _ _ _).append_left _).trans (List.perm_append_comm_assoc _ _ _)
  | 3, _ => exact ((((List.perm_append_comm_assoc _ _ _).append_left _).trans (List.perm_append_comm_assoc _ _ _)).append_left _).trans (List.perm_append_comm_assoc _ _ _)
  | 4, _ => exact ((((((List.perm_append_comm).append_left _).trans (List.perm_append_comm_assoc _ _ _)).append_left _).trans (List.perm_append_comm_assoc _ _ _)).append_left _).trans (List.perm_append_comm_assoc _ _ _)
theorem zOth_congr {α : Type} {f g : Nat → List α} {i : Nat} (hi : i < 5) (h : ∀ j, j < 5 → j ≠ i → f j = g j) : zOth f i = zOth g i := by
  match i, hi with
  | 0, _ => simp only [zOth]; rw [h 1 (by omega) (by omega), h 2 (by omega) (by omega), h 3 (by omega) (by omega), h 4 (by omega) (by omega)]
  | 1, _ => simp only [zOth]; rw [h 0 (by omega) (by omega), h 2 (by omega) (by omega), h 3 (by omega) (by omega), h 4 (by omega) (by omega)]
  | 2, _ => simp only [zOth]; rw [h 0 (by omega) (by omega), h 1 (by omega) (by omega), h 3 (by omega) (by omega), h 4 (by omega) (by omega)]
  | 3, _ => simp only [zOth]; rw [h 0 (by omega) (by omega), h 1 (by omega) (by omega), h 2 (by omega) (by omega), h 4 (by omega) (by omega)]
  | 4, _ => simp only [zOth]; rw [h 0 (by omega) (by omega), h 1 (by omega) (by omega), h 2 (by omega) (by omega), h 3 (by omega) (by omega)]
/-- zone i and the spare one change places -/
theorem zOth_swap {α : Type} {f g : Nat → List α} {i : Nat} (hi : i < 4) (h4 : g 4 = f i) (h : ∀ j, j < 4 → j ≠ i → g j = f j) : (zOth f 4).Perm (zOth g i) := by
  match i, hi with
  | 0, _ =>
    simp only [zOth]; rw [h 1 (by omega) (by omega), h 2 (by omega) (by omega), h 3 (by omega) (by omega), h4]
    exact (List.perm_append_comm (l₁ := f 0)).trans (by simp [List.append_assoc])
  | 1, _ =>
    simp only [zOth]; rw [h 0 (by omega) (by omega), h 2 (by omega) (by omega), h 3 (by omega) (by omega), h4]
    exact ((List.perm_append_comm (l₁ := f 1)).trans (by simp [List.append_assoc])).append_left _
  | 2, _ =>
    simp only [zOth]; rw [h 0 (by omega) (by omega), h 1 (by omega) (by omega), h 3 (by omega) (by omega), h4]
    exact (((List.perm_append_comm (l₁ := f 2)).trans (by simp [List.append_assoc])).append_left _).append_left _
  | 3, _ =>
    simp only [zOth]; rw [h 0 (by omega) (by omega), h 1 (by omega) (by omega), h 2 (by omega) (by omega), h4]
def zup (Z : Nat → ZS) (i : Nat) (z : ZS) : Nat → ZS := fun j => if j = i then z else Z j
def zsw (Z : Nat → ZS) (i : Nat) (z : ZS) : Nat → ZS := fun j => if j = i then z else if j = 4 then Z i else Z j
def zgc (za : Nat → Nat) : Nat → Option Nat := fun j => some (za (if j < 4 then j else 0))
def zx (p0 : Int32) : Nat := if p0.toNatClampNeg < 4 then p0.toNatClampNeg else 0
theorem zx_lt (p0 : Int32) : zx p0 < 4 := by
  unfold zx
  by_cases h : p0.toNatClampNeg < 4
  · rw [if_pos h]; exact h
  · rw [if_neg h]; omega
theorem zgc_at (za : Nat → Nat) (p0 : Int32) : zgc za p0.toNatClampNeg = some (za (zx p0)) := rfl
def WX (h0 : Nat) (ad : Nat → Nat) (cA : Nat → ClassId) (za : Nat → Nat) (zad : Nat → Nat → Nat) (zcA : Nat → Nat → ClassId) (S : CS) : va_W := commonW h0 ad cA (za 4) (zgc za) S.1 ++ zAll (fun j => zoneW (za j) (zad j) (zcA j) (S.2 j))
def TX (cA : Nat → ClassId) (zcA : Nat → Nat → ClassId) : List (ClassId × FieldType) := commonT cA ++ zAll (fun j => zoneT (zcA j))
def CW (h0 : Nat) (S : CS) : va_W → List (ClassId × FieldType) → Prop := fun w t => ∃ ad cA za zad zcA, w.Perm (WX h0 ad cA za zad zcA S) ∧ ∀ q ∈ TX cA zcA, q ∈ t
theorem cell_zg {D : va_G} {cl : List vw_C} {a n : Nat} {c : ClassId} {f g : Nat → Option Nat} {H : Heap} (h : ∀ j, j < n → f j = g j) (hP : va_at D cl (a, .inl (c, n, .inr (.inr (.inr (.inr f))))) H) : va_at D cl (a, .inl (c, n, .inr (.inr (.inr (.inr g))))) H := by
  have e : vp_cell c (n, .inr (.inr (.inr (.inr f)))) = vp_cell c (n, .inr (.inr (.inr (.inr g)))) := by
    rw [vp_cell_q, vp_cell_q]
    unfold arrV
    congr 2
    funext j
    exact congrArg va_rf (h j.val j.isLt)
  exact (show H[a]? = some (vp_cell c (n, .inr (.inr (.inr (.inr g))))) from by rw [← e]; exact hP)
theorem commonW_zg {D : va_G} {cl : List vw_C} {h0 sp : Nat} {ad : Nat → Nat} {cA : Nat → ClassId} {f g : Nat → Option Nat} {C : CC} {H : Heap} (h : ∀ j, j < 4 → f j = g j) (hP : va_P D cl (commonW h0 ad cA sp f C) H) : va_P D cl (commonW h0 ad cA sp g C) H := by
  rw [vP_mem] at hP ⊢
  intro q hq
  simp only [commonW, List.mem_cons, List.not_mem_nil, or_false] at hP hq
  rcases hq with hq | hq | hq | hq | hq | hq | hq | hq | hq | hq | hq | hq | hq
  case inr.inr.inr.inr.inr.inl =>
    subst hq
    exact cell_zg h (hP _ (by simp))
  all_goals exact hP q (by simp [hq])
section
variable {l : Launch} {y : MethodName} {ws : List Cond} {rm : Room} {dC : Nat → ClassId} {dI : Nat → Nat → Nat} {av : List Value} {v : Option Value} {kc ks : Nat} {h0 : Nat} {ad : Nat → Nat} {cA : Nat → ClassId} {za : Nat → Nat} {zad : Nat → Nat → Nat} {zcA : Nat → Nat → ClassId} {S : CS} {C' : CC} {z' : ZS} {i : Nat} {wc : va_W} {tc : List (ClassId × FieldType)} {F F' : va_W → List (ClassId × FieldType) → Prop}
theorem OM.conv (h : OM l y ws rm dC dI wc tc av v F kc ks) (hF : ∀ w t, F w t → ∃ w', F' w' t ∧ (w.map Prod.fst).Perm (w'.map Prod.fst) ∧ ∀ H, va_P (dC, dI) classes w H → va_P (dC, dI) classes w' H) : OM l y ws rm dC dI wc tc av v F' kc ks := fun sz => met_mono (h sz) (fun _ _ z => z) (fun a st o t _ hQ _ => by
  obtain ⟨⟨h1, wf, tf, h2, h3, h5, h6⟩, h4⟩ := hQ
  obtain ⟨w', g1, g2, g3⟩ := hF _ _ h2
  obtain ⟨m1, m2⟩ := vD_iff.mp h6
  refine ⟨⟨h1, w', tf, g1, g3 _ h3, h5, vD_iff.mpr ⟨g2.nodup_iff.mp m1, fun q hq => ?_⟩⟩, h4⟩
  have hm : q.1 ∈ wf.map Prod.fst := g2.mem_iff.mpr (List.mem_map.mpr ⟨q, hq, rfl⟩)
  obtain ⟨x, hx, e⟩ := List.mem_map.mp hm
  rw [← e]
  exact m2 x hx) (fun _ z => z)
theorem WX_sel (hi : i < 5) : (WX h0 ad cA za zad zcA S).Perm ((commonW h0 ad cA (za 4) (zgc za) S.1 ++ zoneW (za i) (zad i) (zcA i) (S.2 i)) ++ zOth (fun j => zoneW (za j) (zad j) (zcA j) (S.2 j)) i) := by
  rw [List.append_assoc]
  exact (zsel (fun j => zoneW (za j) (zad j) (zcA j) (S.2 j)) hi).append_left _
theorem TX_sel (hi : i < 5) : ∀ q ∈ commonT cA ++ zoneT (zcA i), q ∈ TX cA zcA := by
  intro q hq
  rcases List.mem_append.mp hq with h | h
  · exact List.mem_append_left _ h
  · exact List.mem_append_right _ ((zsel (fun j => zoneT (zcA j)) hi).mem_iff.mpr (List.mem_append_left _ h))
theorem lift_c (h : OM l y ws rm dC dI (commonW h0 ad cA (za 4) (zgc za) S.1) (commonT cA) av v (PC h0 (za 4) (zgc za) C') kc ks) : OM l y ws rm dC dI (WX h0 ad cA za zad zcA S) (TX cA zcA) av v (CW h0 (C', S.2)) kc ks := by
  refine (h.frame (E := WX h0 ad cA za zad zcA S) (tE := TX cA zcA) (wr := zAll (fun j => zoneW (za j) (zad j) (zcA j) (S.2 j))) (List.Perm.refl _) (fun q hq => List.mem_append_left _ hq)).imp ?_
  rintro w t ⟨wf, tf, ⟨ad', cA', hp, ht⟩, rfl, rfl⟩
  refine ⟨ad', cA', za, zad, zcA, hp.append_right _, fun q hq => ?_⟩
  rcases List.mem_append.mp hq with h | h
  · exact List.mem_append_left _ (ht q h)
  · exact List.mem_append_right _ (List.mem_append_right _ h)
/-- the zone i (or the spare one, i = 4) has changed -/
theorem lift_z (hi : i < 5) (h : OM l y ws rm dC dI (commonW h0 ad cA (za 4) (zgc za) S.1 ++ zoneW (za i) (zad i) (zcA i) (S.2 i)) (commonT cA ++ zoneT (zcA i)) av v (PZ h0 (za 4) (zgc za) C' (za i) z') kc ks) : OM l y ws rm dC dI (WX h0 ad cA za zad zcA S) (TX cA zcA) av v (CW h0 (C', zup S.2 i z')) kc ks := by
  refine (h.frame (E := WX h0 ad cA za zad zcA S) (tE := TX cA zcA) (wr := zOth (fun j => zoneW (za j) (zad j) (zcA j) (S.2 j)) i) (WX_sel hi) (TX_sel hi)).imp ?_
  rintro w t ⟨wf, tf, ⟨ad', cA', zad', zcA', hp, ht⟩, rfl, rfl⟩
  refine ⟨ad', cA', za, (fun j => if j = i then zad' else zad j), (fun j => if j = i then zcA' else zcA j), ?_, fun q hq => ?_⟩
  · refine (hp.append_right _).trans ?_
    rw [List.append_assoc]
    refine List.Perm.append_left _ ?_
    refine List.Perm.trans ?_ (zsel _ hi).symm
    have e1 : zoneW (za i) (if i = i then zad' else zad i) (if i = i then zcA' else zcA i) (zup S.2 i z' i) = zoneW (za i) zad' zcA' z' := by simp [zup]
    rw [e1]
    refine List.Perm.append_left _ ?_
    rw [zOth_congr hi (g := fun j => zoneW (za j) (if j = i then zad' else zad j) (if j = i then zcA' else zcA j) (zup S.2 i z' j)) (fun j _ hj => by simp [zup, hj])]
  · rcases List.mem_append.mp hq with h | h
    · exact List.mem_append_left _ (ht q (List.mem_append_left _ h))
    · rcases List.mem_append.mp ((zsel _ hi).mem_iff.mp h) with h | h
      · exact List.mem_append_left _ (ht q (List.mem_append_right _ (by simpa using h)))
      · rw [zOth_congr hi (g := fun j => zoneT (zcA j)) (fun j _ hj => by simp [hj])] at h
        exact List.mem_append_right _ (List.mem_append_right _ ((zsel _ hi).mem_iff.mpr (List.mem_append_right _ h)))
/-- the zone i is as it was -/
theorem lift_z0 (hi : i < 5) (h : OM l y ws rm dC dI (commonW h0 ad cA (za 4) (zgc za) S.1 ++ zoneW (za i) (zad i) (zcA i) (S.2 i)) (commonT cA ++ zoneT (zcA i)) av v (PZ h0 (za 4) (zgc za) C' (za i) (S.2 i)) kc ks) : OM l y ws rm dC dI (WX h0 ad cA za zad zcA S) (TX cA zcA) av v (CW h0 (C', S.2)) kc ks := by
  have e : zup S.2 i (S.2 i) = S.2 := by
    funext j
    by_cases h : j = i
    · simp [zup, h]
    · simp [zup, h]
  have h2 := lift_z (zad := zad) (zcA := zcA) hi h
  rw [e] at h2
  exact h2
/-- the spare zone has changed, and it and the zone i have changed places -/
theorem lift_e (hi : i < 4) (h : OM l y ws rm dC dI (commonW h0 ad cA (za 4) (zgc za) S.1 ++ zoneW (za 4) (zad 4) (zcA 4) (S.2 4)) (commonT cA ++ zoneT (zcA 4)) av v (PZ h0 (za i) (va_up (zgc za) i (some (za 4))) C' (za 4) z') kc ks) : OM l y ws rm dC dI (WX h0 ad cA za zad zcA S) (TX cA zcA) av v (CW h0 (C', zsw S.2 i z')) kc ks := by
  have h4 : (4 : Nat) < 5 := by omega
  have hi5 : i < 5 := by omega
  have hn : ¬ (4 : Nat) = i := by omega
  refine (h.frame (E := WX h0 ad cA za zad zcA S) (tE := TX cA zcA) (wr := zOth (fun j => zoneW (za j) (zad j) (zcA j) (S.2 j)) 4) (WX_sel h4) (TX_sel h4)).conv ?_
  rintro w t ⟨wf, tf, ⟨ad', cA', zad', zcA', hp, ht⟩, rfl, rfl⟩
  have hperm : (wf ++ zOth (fun j => zoneW (za j) (zad j) (zcA j) (S.2 j)) 4).Perm (commonW h0 ad' cA' (za i) (va_up (zgc za) i (some (za 4))) C' ++ zAll (fun j => zoneW (if j = i then za 4 else if j = 4 then za i else za j) (if j = i then zad' else if j = 4 then zad i else zad j) (if j = i then zcA' else if j = 4 then zcA i else zcA j) (zsw S.2 i z' j))) := by
    refine (hp.append_right _).trans ?_
    rw [List.append_assoc]
    refine List.Perm.append_left _ ?_
    refine List.Perm.trans ?_ (zsel _ hi5).symm
    have e1 : zoneW (if i = i then za 4 else if i = 4 then za i else za i) (if i = i then zad' else if i = 4 then zad i else zad i) (if i = i then zcA' else if i = 4 then zcA i else zcA i) (zsw S.2 i z' i) = zoneW (za 4) zad' zcA' z' := by simp [zsw]
    rw [e1]
    refine List.Perm.append_left _ ?_
    refine zOth_swap (f := fun j => zoneW (za j) (zad j) (zcA j) (S.2 j)) hi ?_ (fun j hj hji => ?_)
    · simp [zsw, hn]
    · have hj4 : ¬ j = 4 := by omega
      simp [zsw, hji, hj4]
  have e0 : (if (4 : Nat) = i then za 4 else if (4 : Nat) = 4 then za i else za 4) = za i := by simp [hn]
  refine ⟨WX h0 ad' cA' (fun j => if j = i then za 4 else if j = 4 then za i else za j) (fun j => if j = i then zad' else if j = 4 then zad i else zad j) (fun j => if j = i then zcA' else if j = 4 then zcA i else zcA j) (C', zsw S.2 i z'), ⟨ad', cA', _, _, _, List.Perm.refl _, fun q hq => ?_⟩, ?_, fun H hP => ?_⟩
  · rcases List.mem_append.mp hq with h | h
    · exact List.mem_append_left _ (ht q (List.mem_append_left _ h))
    · rcases List.mem_append.mp ((zsel _ hi5).mem_iff.mp h) with h | h
      · exact List.mem_append_left _ (ht q (List.mem_append_right _ (by simpa using h)))
      · have h2 := (zOth_swap (f := fun j => zoneT (zcA j)) (g := fun j => zoneT (if j = i then zcA' else if j = 4 then zcA i else zcA j)) hi (by simp [hn]) (fun j hj hji => by
          have hj4 : ¬ j = 4 := by omega
          simp [hji, hj4])).mem_iff.mpr h
        exact List.mem_append_right _ (List.mem_append_right _ ((zsel (fun j => zoneT (zcA j)) h4).mem_iff.mpr (List.mem_append_right _ h2)))
  · refine (hperm.map _).trans ?_
    dsimp only [WX]
    rw [e0, List.map_append, List.map_append]
    exact List.Perm.refl _
  · have h1 := vP_app.mp (hP.perm hperm)
    dsimp only [WX]
    rw [e0]
    refine vP_app.mpr ⟨commonW_zg (fun j hj => ?_) h1.1, h1.2⟩
    by_cases hji : j = i
    · simp [va_up, zgc, hji, hi]
    · have hj4 : ¬ j = 4 := by omega
      simp [va_up, zgc, hji, hj4, hj]
end
theorem metT_mono {l : Launch} {y : MethodName} {ws : List Cond} {rm : Room} {P P' : Array Value → State → Prop} {Q : Array Value → State → Outcome → State → Prop} {mc ms : Nat} (hM : MetT l y ws rm P Q mc ms) (hP : ∀ a U, P' a U → P a U) : MetT l y ws rm P' Q mc ms := by
  intro p e h1 h2 h3 s m args below h4 h5 h6 _
  exact hM p e h1 h2 h3 s m args below h4 h5 (hP _ _ h6) trivial
theorem rox_sub {dC : Nat → ClassId} {dI : Nat → Nat → Nat} {wc E : va_W} {tc tE : List (ClassId × FieldType)} {av : List Value} (hw : ∀ q ∈ wc, q ∈ E) (ht : ∀ q ∈ tc, q ∈ tE) (a : Array Value) (U : State) (h : ROX dC dI E tE av a U) : ROX dC dI wc tc av a U := by
  obtain ⟨h1, h2, h3, h4⟩ := h
  exact ⟨h1, vP_mem.mpr (fun q hq => vP_mem.mp h2 q (hw q hq)), vK_mem h3 ht, h4⟩
/-- the reference's contracts in the form of sets -/
theorem OM.ofMo {l : Launch} {y : MethodName} {ws : List Cond} {rm : Room} {dC : Nat → ClassId} {dI : Nat → Nat → Nat} {h0 : Nat} {r : Nat → Nat} {cA : Nat → ClassId} {si vi : Nat → Int32} {sj vj : Nat → Int64} {sa va : Nat → Nat → Int32} {sb vb : Nat → Nat → Int64} {av : List Value} {v : Option Value} {kc ks : Nat}
    (h : ∀ sz, Met l y ws rm (MU dC dI (moW h0 r cA si sj sa sb) (moT cA) sz av) (MV v (fun t => va_P (dC, dI) classes (moW h0 r cA vi vj va vb) t.heap) (va_A (moW h0 r cA si sj sa sb) sz)) kc ks (va_A (moW h0 r cA si sj sa sb) sz)) : OM l y ws rm dC dI (moW h0 r cA si sj sa sb) (moT cA) av v (fun w t => w = moW h0 r cA vi vj va vb ∧ t = moT cA) kc ks := fun sz => met_mono (h sz) (fun _ _ z => z) (fun a st o t z hQ hW => by
  obtain ⟨⟨h1, h2⟩, h4⟩ := hQ
  obtain ⟨q0, q1, qP, qK, qD, qS⟩ := z
  exact ⟨⟨h1, _, _, ⟨rfl, rfl⟩, h2, va_K.moved hW.alike qK, va_D_same (ws := moW h0 r cA si sj sa sb) (ws' := moW h0 r cA vi vj va vb) rfl qD.self⟩, h4⟩) (fun _ z => z)

