/-! ===== every call keeps the relation ===== -/
theorem steps_all {nf : Nat} (hnf : 10000 ≤ nf) : STEPS nf RR :=
  ⟨st_feed hnf, st_read hnf, fun S M p0 p1 hp h => st_rule hnf S M p0 p1 hp h, st_table hnf, st_place nf, st_zone nf, st_time nf, st_typeAt nf, st_type hnf, st_letter nf, st_leap nf, st_at hnf, st_name hnf, st_clock (by omega), st_seconds nf, st_find hnf, st_found nf, st_next hnf, st_last hnf, st_stretch hnf, st_write hnf, st_out nf, st_again hnf, st_told nf, st_row nf, st_atomic hnf, st_instant hnf, st_isLeap hnf⟩
theorem phi_all : ∀ S M, RR S M → phi S ≤ 480000 := fun _ _ h => h.cap
