/-! ===== the class's constructors in the form of sets ===== -/
def zfresh : ZS := (0, 0, 0, 0, 0, 0, (fun _ => 0), (fun _ => 0), (fun _ => 0), (fun _ => 0), (fun _ => 0), (fun _ => 0), (fun _ => 0), 0, 32, (fun _ => 0), (fun _ => 0), (fun _ => 0), 0, 0, 0, 0, 0, 0, 0, 0, 0, 0, 32, (fun _ => 0), 0, 0, 0, 0, 0, 0, 0, 0, 0, 0, 0, 0)
theorem byinit_f (nf : Nat) : f_By_init nf 64 = some ((0, 64, (fun _ => 0)), 1, 64) := by rfl
theorem zinit_f (nf : Nat) : f_Zone_init nf = some (((fun _ => 0), (fun _ => 0), (fun _ => 0), (fun _ => 0), (fun _ => 0), (fun _ => 0), (fun _ => 0), 0, 32, (fun _ => 0), (fun _ => 0), (fun _ => 0), 0, 0, 0, 0, 0, 0, 0, 0, 0, 0, 32, (fun _ => 0), 0, 0, 0, 0, 0, 0, 0, 0, 0, 0, 0, 0), 16, 772) := by rfl
theorem ltinit_f (nf : Nat) : f_LT_init nf = some (((fun _ => 0), (fun _ => 0)), 2, 120) := by rfl
theorem RB.zero {N : Nat} (h : 1 ≤ N) (h2 : N ≤ 40000) (T : Nat → Int32) : RB 0 N (fun _ => 0) 0 T := ⟨rfl, by omega, h, h2, fun k _ => ⟨0, rfl, by omega, by omega⟩, fun k hk => by omega⟩
theorem zfresh_sp : RSpa zfresh := ⟨⟨0, fun _ => 0, RB.zero (N := 32) (by omega) (by omega) _⟩, 0, fun _ => 0, RB.zero (N := 32) (by omega) (by omega) _⟩
section
variable (l : Launch) (dC : Nat → ClassId) (dI : Nat → Nat → Nat) (q : Nat)
theorem oi_By : OM l y_By_init (wd y_By_init b_By_init 2 none) ({ frames := 1, cells := 1, slots := 64, locals := 12 }) dC dI [(q, .inr (0, [.null, .int 0]))] [] [.ref q, .int 64] none (fun w t => ∃ (q1 : Nat) (n1 : ClassId), w = [(q, .inr (0, [.ref q1, .int 0])), (q1, .inl (n1, 64, .inl (fun _ => 0)))] ∧ t = [(n1, .byte)]) 1 64 := fun sz => met_mono (c_By_init l dC dI q sz 0 64 (byinit_f 0)) (fun _ _ z => z) (fun a st o t _ hQ _ => by
  obtain ⟨⟨h1, q1, n1, h2⟩, h4⟩ := hQ
  exact ⟨⟨h1, _, _, ⟨q1, n1, rfl, rfl⟩, h2⟩, h4⟩) (fun _ z => z)
theorem oi_LT : OM l y_LT_init (wd y_LT_init b_LT_init 1 none) ({ frames := 1, cells := 2, slots := 120, locals := 12 }) dC dI [(q, .inr (4, [.int 0, .null, .null, .long 0]))] [] [.ref q] none (fun w t => ∃ (q1 q2 : Nat) (n1 n2 : ClassId), w = [(q, .inr (4, [.int 0, .ref q1, .ref q2, .long 0])), (q1, .inl (n1, 60, .inr (.inl (fun _ => 0)))), (q2, .inl (n2, 60, .inr (.inl (fun _ => 0))))] ∧ t = [(n1, .long), (n2, .long)]) 2 120 := fun sz => met_mono (c_LT_init l dC dI q sz 0 (ltinit_f 0)) (fun _ _ z => z) (fun a st o t _ hQ _ => by
  obtain ⟨⟨h1, q1, q2, n1, n2, h2⟩, h4⟩ := hQ
  exact ⟨⟨h1, _, _, ⟨q1, q2, n1, n2, rfl, rfl⟩, h2⟩, h4⟩) (fun _ z => z)
theorem oi_Zone : OM l y_Zone_init (wd y_Zone_init b_Zone_init 1 none) ({ frames := 3, cells := 16, slots := 772, locals := 53 }) dC dI [(q, .inr (8, [.int 0, .int 0, .int 0, .int 0, .int 0, .int 0, .null, .null, .null, .null, .null, .null, .null, .null, .null, .null, .null]))] [] [.ref q] none (fun w t => ∃ (zad : Nat → Nat) (zcA : Nat → ClassId), w = zoneW q zad zcA zfresh ∧ t = zoneT zcA) 16 772 := fun sz => met_mono (c_Zone_init l dC dI q sz 0 (zinit_f 0)) (fun _ _ z => z) (fun a st o t _ hQ _ => by
  obtain ⟨⟨h1, q1, q2, q3, q4, q5, q6, q7, q8, q9, q10, q11, q12, q13, q14, q15, q16, n1, n2, n3, n4, n5, n6, n7, n9, n10, n11, n14, h2⟩, h4⟩ := hQ
  exact ⟨⟨h1, _, _, ⟨(fun k => match k with | 0 => q1 | 1 => q2 | 2 => q3 | 3 => q4 | 4 => q5 | 5 => q6 | 6 => q7 | 7 => q8 | 8 => q10 | 9 => q11 | 10 => q12 | 11 => q9 | 12 => q13 | 13 => q15 | 14 => q16 | _ => q14), (fun k => match k with | 0 => n1 | 1 => n2 | 2 => n3 | 3 => n4 | 4 => n5 | 5 => n6 | 6 => n7 | 7 => n9 | 8 => n10 | 9 => n11 | _ => n14), rfl, rfl⟩, h2⟩, h4⟩) (fun _ z => z)
end
