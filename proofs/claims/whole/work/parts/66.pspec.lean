/-! ===== rule texts: what they say ===== -/
abbrev dig (x : Int) : Prop := 48 ≤ x ∧ x ≤ 57
abbrev ltr (x : Int) : Prop := 65 ≤ x ∧ x ≤ 90 ∨ 97 ≤ x ∧ x ≤ 122
abbrev nmb (x : Int) : Prop := (48 ≤ x ∧ x ≤ 57) ∨ (65 ≤ x ∧ x ≤ 90 ∨ 97 ≤ x ∧ x ≤ 122) ∨ x = 43 ∨ x = 45
/-- the byte at k, -1 from E on -/
def LL (T : Nat → Int32) (E k : Nat) : Int := if k < E then (T k).toInt else -1
def rchk (lo hi v : Int) (p q : Nat) : Except Nat (Int × Nat) := if v < lo ∨ hi < v then .error p else .ok (v, q)
def rnum (L : Nat → Int) (lo hi : Int) (p : Nat) : Except Nat (Int × Nat) :=
  if dig (L p) then
    if dig (L (p + 1)) then
      if dig (L (p + 2)) then
        if dig (L (p + 3)) then .error (p + 3) else rchk lo hi (10 * (10 * (L p - 48) + L (p + 1) - 48) + L (p + 2) - 48) p (p + 3)
      else rchk lo hi (10 * (L p - 48) + L (p + 1) - 48) p (p + 2)
    else rchk lo hi (L p - 48) p (p + 1)
  else .error p
def cntq (q : Bool) (L : Nat → Int) : Nat → Nat → Nat
  | 0, _ => 0
  | n + 1, p => if (if q then nmb (L p) else ltr (L p)) then cntq q L n (p + 1) + 1 else 0
/-- place, size, and where it goes on -/
def rname (L : Nat → Int) (p : Nat) : Except Nat (Nat × Nat × Nat) :=
  if L p = 60 then
    if cntq true L 11 (p + 1) < 3 then .error (p + 1 + cntq true L 11 (p + 1)) else if cntq true L 11 (p + 1) = 11 then .error (p + 1 + 10) else
      if L (p + 1 + cntq true L 11 (p + 1)) = 62 then .ok (p + 1, cntq true L 11 (p + 1), p + 1 + cntq true L 11 (p + 1) + 1) else .error (p + 1 + cntq true L 11 (p + 1))
  else
    if cntq false L 11 p < 3 then .error (p + cntq false L 11 p) else if cntq false L 11 p = 11 then .error (p + 10) else .ok (p, cntq false L 11 p, p + cntq false L 11 p)
def sgn (L : Nat → Int) (signs : Bool) (p : Nat) : Bool := signs && (decide (L p = 43) || decide (L p = 45))
def rfin (L : Nat → Int) (signs : Bool) (p : Nat) (h m s : Int) (q : Nat) : Int × Bool × Nat := (if signs = true ∧ L p = 45 then -(3600 * h + 60 * m + s) else 3600 * h + 60 * m + s, sgn L signs p || decide (24 < h), q)
def ramt (L : Nat → Int) (signs : Bool) (most : Int) (p : Nat) : Except Nat (Int × Bool × Nat) :=
  match rnum L 0 most (if sgn L signs p then p + 1 else p) with
  | .error x => .error x
  | .ok (h, p2) =>
    if L p2 = 58 then
      match rnum L 0 59 (p2 + 1) with
      | .error x => .error x
      | .ok (m, p3) =>
        if L p3 = 58 then
          match rnum L 0 59 (p3 + 1) with
          | .error x => .error x
          | .ok (s, p4) => .ok (rfin L signs p h m s p4)
        else .ok (rfin L signs p h m 0 p3)
    else .ok (rfin L signs p h 0 0 p2)
/-- kind, numbers, and where it goes on -/
def rday (L : Nat → Int) (p : Nat) : Except Nat ((Int × Int × Int × Int) × Nat) :=
  if L p = 77 then
    match rnum L 1 12 (p + 1) with
    | .error x => .error x
    | .ok (a, p2) =>
      if L p2 = 46 then
        match rnum L 1 5 (p2 + 1) with
        | .error x => .error x
        | .ok (b, p3) =>
          if L p3 = 46 then
            match rnum L 0 6 (p3 + 1) with
            | .error x => .error x
            | .ok (c, p4) => .ok ((2, a, b, c), p4)
          else .error p3
      else .error p2
  else if L p = 74 then
    match rnum L 1 365 (p + 1) with
    | .error x => .error x
    | .ok (a, p2) => .ok ((0, a, 0, 0), p2)
  else
    match rnum L 0 365 p with
    | .error x => .error x
    | .ok (a, p2) => .ok ((1, a, 0, 0), p2)
/-- day, time, wide -/
def redge (L : Nat → Int) (wide : Bool) (p : Nat) : Except Nat ((Int × Int × Int × Int) × Int × Bool × Nat) :=
  if L p = 44 then
    match rday L (p + 1) with
    | .error x => .error x
    | .ok (d, p2) =>
      if L p2 = 47 then
        match ramt L wide (if wide then 167 else 24) (p2 + 1) with
        | .error x => .error x
        | .ok (t, w, p3) => .ok (d, t, w, p3)
      else .ok (d, 7200, false, p2)
  else .error p
/-- offset of the summer -/
def rsoff (L : Nat → Int) (so : Int) (p : Nat) : Except Nat (Int × Nat) :=
  if L p = 43 ∨ L p = 45 ∨ dig (L p) then
    match ramt L true 24 p with
    | .error x => .error x
    | .ok (v, _, q) => .ok (-v, q)
  else .ok (so + 3600, p)
abbrev RT : Type := Nat × Nat × Int × Option (Nat × Nat × Int × (Int × Int × Int × Int) × Int × (Int × Int × Int × Int) × Int × Bool)
def rtext (L : Nat → Int) (wide : Bool) (p E : Nat) : Except Nat RT :=
  match rname L p with
  | .error x => .error x
  | .ok (sp, ss, p1) =>
    match ramt L true 24 p1 with
    | .error x => .error x
    | .ok (so, _, p2) =>
      if E ≤ p2 then .ok (sp, ss, -so, none) else
        match rname L p2 with
        | .error x => .error x
        | .ok (up, us, p3) =>
          match rsoff L (-so) p3 with
          | .error x => .error x
          | .ok (uo, p4) =>
            match redge L wide p4 with
            | .error x => .error x
            | .ok (d1, t1, w1, p5) =>
              match redge L wide p5 with
              | .error x => .error x
              | .ok (d2, t2, w2, p6) => if E ≤ p6 then .ok (sp, ss, -so, some (up, us, uo, d1, t1, d2, t2, w1 || w2)) else .error p6
def bET (so : Int) (d : Int × Int × Int × Int) (t : Int) : ET := (d.1, d.2.1, d.2.2.1, d.2.2.2, t, so)
theorem LL_congr {T T' : Nat → Int32} {E : Nat} (h : ∀ k, k < E → T' k = T k) : LL T' E = LL T E := by
  funext k
  unfold LL
  by_cases c : k < E
  · rw [if_pos c, if_pos c, h k c]
  · rw [if_neg c, if_neg c]
