abbrev zRD : Type := Int32 × Int32 × Bool × Int32 × Int32 × Bool
abbrev zLT : Type := (Nat → Int32) × Int32 × Int32
abbrev zPG : Type := (Nat → Int32) × Int32
abbrev zLS : Type := (Nat → Int32) × Int32
abbrev zTD : Type := (Nat → Int32) × Int32
abbrev zIM : Type := zLT × zTD × Int32 × Int32 × Bool
abbrev zWR : Type := zLT × zRD × (Nat → zRD) × Int32 × Int32 × Int32
abbrev zEN : Type := (Nat → Int32) × (Nat → Int32) × zRD
abbrev zDY : Type := zLT × zRD × Int32 × Int32 × Int32
abbrev zXS : Type := zPG × zLT × zLS × zTD × zIM × zRD × zWR × zEN × zDY × (Nat → Int32) × Int32 × Int32 × Int32
def FU : Nat := 10000
abbrev zR (f k : Nat) : Room := { frames := f, cells := 0, slots := 0, locals := k }
abbrev iA (G : GG) (a n : Nat) (f : Nat → Int32) : Nat × va_E := (a, .inl (G.2.1, n, .inl f))
def wX6 (G : GG) (q : Nat → Nat) (t : zRD) : va_W := [(q 0, .inr (6, [.int t.1, .int t.2.1, .int (bI t.2.2.1), .int t.2.2.2.1, .int t.2.2.2.2.1, .int (bI t.2.2.2.2.2)]))]
def wX3 (G : GG) (q : Nat → Nat) (t : zLT) : va_W := [(q 0, .inr (3, [.ref (q 1), .int t.2.1, .int t.2.2])), (q 1, .inl (G.2.1, 9, .inl t.1))]
def wX5 (G : GG) (q : Nat → Nat) (t : zPG) : va_W := [(q 0, .inr (5, [.ref (q 1), .int t.2])), (q 1, .inl (G.2.1, 12, .inl t.1))]
def wX4 (G : GG) (q : Nat → Nat) (t : zLS) : va_W := [(q 0, .inr (4, [.ref (q 1), .int t.2])), (q 1, .inl (G.2.1, 4, .inl t.1))]
def wX7 (G : GG) (q : Nat → Nat) (t : zTD) : va_W := [(q 0, .inr (7, [.ref (q 1), .int t.2])), (q 1, .inl (G.2.1, 6, .inl t.1))]
def wX2 (G : GG) (q : Nat → Nat) (t : zIM) : va_W := [(q 0, .inr (2, [.ref (q 1), .ref (q 3), .int t.2.2.1, .int t.2.2.2.1, .int (bI t.2.2.2.2)])), (q 1, .inr (3, [.ref (q 2), .int t.1.2.1, .int t.1.2.2])), (q 2, .inl (G.2.1, 9, .inl t.1.1)), (q 3, .inr (7, [.ref (q 4), .int t.2.1.2])), (q 4, .inl (G.2.1, 6, .inl t.2.1.1))]
def wX8 (G : GG) (q : Nat → Nat) (t : zWR) : va_W := [(q 0, .inr (8, [.ref (q 1), .ref (q 3), .ref (q 4), .int t.2.2.2.1, .int t.2.2.2.2.1, .int t.2.2.2.2.2])), (q 1, .inr (3, [.ref (q 2), .int t.1.2.1, .int t.1.2.2])), (q 2, .inl (G.2.1, 9, .inl t.1.1)), (q 3, .inr (6, [.int t.2.1.1, .int t.2.1.2.1, .int (bI t.2.1.2.2.1), .int t.2.1.2.2.2.1, .int t.2.1.2.2.2.2.1, .int (bI t.2.1.2.2.2.2.2)])), (q 4, .inl (G.2.2, 6, .inr (.inr (.inr (.inr (fun j => some (q (j + 5)))))))), (q 5, .inr (6, [.int ((t.2.2.1 0).1), .int ((t.2.2.1 0).2.1), .int (bI ((t.2.2.1 0).2.2.1)), .int ((t.2.2.1 0).2.2.2.1), .int ((t.2.2.1 0).2.2.2.2.1), .int (bI ((t.2.2.1 0).2.2.2.2.2))])), (q 6, .inr (6, [.int ((t.2.2.1 1).1), .int ((t.2.2.1 1).2.1), .int (bI ((t.2.2.1 1).2.2.1)), .int ((t.2.2.1 1).2.2.2.1), .int ((t.2.2.1 1).2.2.2.2.1), .int (bI ((t.2.2.1 1).2.2.2.2.2))])), (q 7, .inr (6, [.int ((t.2.2.1 2).1), .int ((t.2.2.1 2).2.1), .int (bI ((t.2.2.1 2).2.2.1)), .int ((t.2.2.1 2).2.2.2.1), .int ((t.2.2.1 2).2.2.2.2.1), .int (bI ((t.2.2.1 2).2.2.2.2.2))])), (q 8, .inr (6, [.int ((t.2.2.1 3).1), .int ((t.2.2.1 3).2.1), .int (bI ((t.2.2.1 3).2.2.1)), .int ((t.2.2.1 3).2.2.2.1), .int ((t.2.2.1 3).2.2.2.2.1), .int (bI ((t.2.2.1 3).2.2.2.2.2))])), (q 9, .inr (6, [.int ((t.2.2.1 4).1), .int ((t.2.2.1 4).2.1), .int (bI ((t.2.2.1 4).2.2.1)), .int ((t.2.2.1 4).2.2.2.1), .int ((t.2.2.1 4).2.2.2.2.1), .int (bI ((t.2.2.1 4).2.2.2.2.2))])), (q 10, .inr (6, [.int ((t.2.2.1 5).1), .int ((t.2.2.1 5).2.1), .int (bI ((t.2.2.1 5).2.2.1)), .int ((t.2.2.1 5).2.2.2.1), .int ((t.2.2.1 5).2.2.2.2.1), .int (bI ((t.2.2.1 5).2.2.2.2.2))]))]
def wX1 (G : GG) (q : Nat → Nat) (t : zEN) : va_W := [(q 0, .inr (1, [.ref (q 1), .ref (q 2), .ref (q 3)])), (q 1, .inl (G.2.1, 22, .inl t.1)), (q 2, .inl (G.2.1, 22, .inl t.2.1)), (q 3, .inr (6, [.int t.2.2.1, .int t.2.2.2.1, .int (bI t.2.2.2.2.1), .int t.2.2.2.2.2.1, .int t.2.2.2.2.2.2.1, .int (bI t.2.2.2.2.2.2.2)]))]
def wX0 (G : GG) (q : Nat → Nat) (t : zDY) : va_W := [(q 0, .inr (0, [.ref (q 1), .ref (q 3), .int t.2.2.1, .int t.2.2.2.1, .int t.2.2.2.2])), (q 1, .inr (3, [.ref (q 2), .int t.1.2.1, .int t.1.2.2])), (q 2, .inl (G.2.1, 9, .inl t.1.1)), (q 3, .inr (6, [.int t.2.1.1, .int t.2.1.2.1, .int (bI t.2.1.2.2.1), .int t.2.1.2.2.2.1, .int t.2.1.2.2.2.2.1, .int (bI t.2.1.2.2.2.2.2)]))]
def wX9 (G : GG) (q : Nat → Nat) (t : zXS) : va_W := [(q 0, .inr (9, [.ref (q 1), .ref (q 3), .ref (q 5), .ref (q 7), .ref (q 9), .ref (q 14), .ref (q 15), .ref (q 26), .ref (q 30), .ref (q 34), .int t.2.2.2.2.2.2.2.2.2.2.1, .int t.2.2.2.2.2.2.2.2.2.2.2.1, .int t.2.2.2.2.2.2.2.2.2.2.2.2])), (q 1, .inr (5, [.ref (q 2), .int t.1.2])), (q 2, .inl (G.2.1, 12, .inl t.1.1)), (q 3, .inr (3, [.ref (q 4), .int t.2.1.2.1, .int t.2.1.2.2])), (q 4, .inl (G.2.1, 9, .inl t.2.1.1)), (q 5, .inr (4, [.ref (q 6), .int t.2.2.1.2])), (q 6, .inl (G.2.1, 4, .inl t.2.2.1.1)), (q 7, .inr (7, [.ref (q 8), .int t.2.2.2.1.2])), (q 8, .inl (G.2.1, 6, .inl t.2.2.2.1.1)), (q 9, .inr (2, [.ref (q 10), .ref (q 12), .int t.2.2.2.2.1.2.2.1, .int t.2.2.2.2.1.2.2.2.1, .int (bI t.2.2.2.2.1.2.2.2.2)])), (q 10, .inr (3, [.ref (q 11), .int t.2.2.2.2.1.1.2.1, .int t.2.2.2.2.1.1.2.2])), (q 11, .inl (G.2.1, 9, .inl t.2.2.2.2.1.1.1)), (q 12, .inr (7, [.ref (q 13), .int t.2.2.2.2.1.2.1.2])), (q 13, .inl (G.2.1, 6, .inl t.2.2.2.2.1.2.1.1)), (q 14, .inr (6, [.int t.2.2.2.2.2.1.1, .int t.2.2.2.2.2.1.2.1, .int (bI t.2.2.2.2.2.1.2.2.1), .int t.2.2.2.2.2.1.2.2.2.1, .int t.2.2.2.2.2.1.2.2.2.2.1, .int (bI t.2.2.2.2.2.1.2.2.2.2.2)])), (q 15, .inr (8, [.ref (q 16), .ref (q 18), .ref (q 19), .int t.2.2.2.2.2.2.1.2.2.2.1, .int t.2.2.2.2.2.2.1.2.2.2.2.1, .int t.2.2.2.2.2.2.1.2.2.2.2.2])), (q 16, .inr (3, [.ref (q 17), .int t.2.2.2.2.2.2.1.1.2.1, .int t.2.2.2.2.2.2.1.1.2.2])), (q 17, .inl (G.2.1, 9, .inl t.2.2.2.2.2.2.1.1.1)), (q 18, .inr (6, [.int t.2.2.2.2.2.2.1.2.1.1, .int t.2.2.2.2.2.2.1.2.1.2.1, .int (bI t.2.2.2.2.2.2.1.2.1.2.2.1), .int t.2.2.2.2.2.2.1.2.1.2.2.2.1, .int t.2.2.2.2.2.2.1.2.1.2.2.2.2.1, .int (bI t.2.2.2.2.2.2.1.2.1.2.2.2.2.2)])), (q 19, .inl (G.2.2, 6, .inr (.inr (.inr (.inr (fun j => some (q (j + 20)))))))), (q 20, .inr (6, [.int ((t.2.2.2.2.2.2.1.2.2.1 0).1), .int ((t.2.2.2.2.2.2.1.2.2.1 0).2.1), .int (bI ((t.2.2.2.2.2.2.1.2.2.1 0).2.2.1)), .int ((t.2.2.2.2.2.2.1.2.2.1 0).2.2.2.1), .int ((t.2.2.2.2.2.2.1.2.2.1 0).2.2.2.2.1), .int (bI ((t.2.2.2.2.2.2.1.2.2.1 0).2.2.2.2.2))])), (q 21, .inr (6, [.int ((t.2.2.2.2.2.2.1.2.2.1 1).1), .int ((t.2.2.2.2.2.2.1.2.2.1 1).2.1), .int (bI ((t.2.2.2.2.2.2.1.2.2.1 1).2.2.1)), .int ((t.2.2.2.2.2.2.1.2.2.1 1).2.2.2.1), .int ((t.2.2.2.2.2.2.1.2.2.1 1).2.2.2.2.1), .int (bI ((t.2.2.2.2.2.2.1.2.2.1 1).2.2.2.2.2))])), (q 22, .inr (6, [.int ((t.2.2.2.2.2.2.1.2.2.1 2).1), .int ((t.2.2.2.2.2.2.1.2.2.1 2).2.1), .int (bI ((t.2.2.2.2.2.2.1.2.2.1 2).2.2.1)), .int ((t.2.2.2.2.2.2.1.2.2.1 2).2.2.2.1), .int ((t.2.2.2.2.2.2.1.2.2.1 2).2.2.2.2.1), .int (bI ((t.2.2.2.2.2.2.1.2.2.1 2).2.2.2.2.2))])), (q 23, .inr (6, [.int ((t.2.2.2.2.2.2.1.2.2.1 3).1), .int ((t.2.2.2.2.2.2.1.2.2.1 3).2.1), .int (bI ((t.2.2.2.2.2.2.1.2.2.1 3).2.2.1)), .int ((t.2.2.2.2.2.2.1.2.2.1 3).2.2.2.1), .int ((t.2.2.2.2.2.2.1.2.2.1 3).2.2.2.2.1), .int (bI ((t.2.2.2.2.2.2.1.2.2.1 3).2.2.2.2.2))])), (q 24, .inr (6, [.int ((t.2.2.2.2.2.2.1.2.2.1 4).1), .int ((t.2.2.2.2.2.2.1.2.2.1 4).2.1), .int (bI ((t.2.2.2.2.2.2.1.2.2.1 4).2.2.1)), .int ((t.2.2.2.2.2.2.1.2.2.1 4).2.2.2.1), .int ((t.2.2.2.2.2.2.1.2.2.1 4).2.2.2.2.1), .int (bI ((t.2.2.2.2.2.2.1.2.2.1 4).2.2.2.2.2))])), (q 25, .inr (6, [.int ((t.2.2.2.2.2.2.1.2.2.1 5).1), .int ((t.2.2.2.2.2.2.1.2.2.1 5).2.1), .int (bI ((t.2.2.2.2.2.2.1.2.2.1 5).2.2.1)), .int ((t.2.2.2.2.2.2.1.2.2.1 5).2.2.2.1), .int ((t.2.2.2.2.2.2.1.2.2.1 5).2.2.2.2.1), .int (bI ((t.2.2.2.2.2.2.1.2.2.1 5).2.2.2.2.2))])), (q 26, .inr (1, [.ref (q 27), .ref (q 28), .ref (q 29)])), (q 27, .inl (G.2.1, 22, .inl t.2.2.2.2.2.2.2.1.1)), (q 28, .inl (G.2.1, 22, .inl t.2.2.2.2.2.2.2.1.2.1)), (q 29, .inr (6, [.int t.2.2.2.2.2.2.2.1.2.2.1, .int t.2.2.2.2.2.2.2.1.2.2.2.1, .int (bI t.2.2.2.2.2.2.2.1.2.2.2.2.1), .int t.2.2.2.2.2.2.2.1.2.2.2.2.2.1, .int t.2.2.2.2.2.2.2.1.2.2.2.2.2.2.1, .int (bI t.2.2.2.2.2.2.2.1.2.2.2.2.2.2.2)])), (q 30, .inr (0, [.ref (q 31), .ref (q 33), .int t.2.2.2.2.2.2.2.2.1.2.2.1, .int t.2.2.2.2.2.2.2.2.1.2.2.2.1, .int t.2.2.2.2.2.2.2.2.1.2.2.2.2])), (q 31, .inr (3, [.ref (q 32), .int t.2.2.2.2.2.2.2.2.1.1.2.1, .int t.2.2.2.2.2.2.2.2.1.1.2.2])), (q 32, .inl (G.2.1, 9, .inl t.2.2.2.2.2.2.2.2.1.1.1)), (q 33, .inr (6, [.int t.2.2.2.2.2.2.2.2.1.2.1.1, .int t.2.2.2.2.2.2.2.2.1.2.1.2.1, .int (bI t.2.2.2.2.2.2.2.2.1.2.1.2.2.1), .int t.2.2.2.2.2.2.2.2.1.2.1.2.2.2.1, .int t.2.2.2.2.2.2.2.2.1.2.1.2.2.2.2.1, .int (bI t.2.2.2.2.2.2.2.2.1.2.1.2.2.2.2.2)])), (q 34, .inl (G.2.1, 10, .inl t.2.2.2.2.2.2.2.2.2.1))]
def wX10 (G : GG) (q : Nat → Nat) (m0 : (Nat → Int32)) (m1 : Int32) (m2 : Int32) (m3 : Int32) (m4 : Int32) (m5 : Int32) (m6 : Int32) (m7 : Int32) (m8 : (Nat → Int32)) (m9 : Int32) (m10 : (Nat → Int32)) (m11 : Int32) (m12 : Bool) (m13 : Int32) (m14 : Int32) (m15 : Bool) (m16 : Int32) (m17 : (Nat → Int32)) (m18 : Int32) (m19 : (Nat → Int32)) (m20 : (Nat → Int32)) (m21 : Int32) (m22 : Int32) (m23 : Int32) (m24 : Int32) (m25 : Int32) (m26 : Int32) (m27 : (Nat → Int32)) (m28 : (Nat → Int32)) (m29 : Int64) : va_W := [(q 0, .inr (10, [.ref (q 1), .int m1, .int m2, .int m3, .int m4, .int m5, .int m6, .int m7, .ref (q 2), .int m9, .ref (q 3), .int m11, .int (bI m12), .int m13, .int m14, .int (bI m15), .int m16, .ref (q 4), .int m18, .ref (q 5), .ref (q 6), .int m21, .int m22, .int m23, .int m24, .int m25, .int m26, .ref (q 7), .ref (q 8), .long m29])), (q 1, .inl (G.2.1, 12, .inl m0)), (q 2, .inl (G.2.1, 9, .inl m8)), (q 3, .inl (G.2.1, 4, .inl m10)), (q 4, .inl (G.2.1, 10, .inl m17)), (q 5, .inl (G.2.1, 6, .inl m19)), (q 6, .inl (G.2.1, 10, .inl m20)), (q 7, .inl (G.2.1, 9, .inl m27)), (q 8, .inl (G.2.1, 6, .inl m28))]
def f_X3_has (t0 : zLT) (a0 : Int32) : Option (Bool) :=
  if a0 < 0 then
    some false
  else
    if t0.2.1 ≤ a0 then
      some false
    else
      if (Int32.ofNat 9) ≤ a0 then
        some false
      else
        some true

def f_X3_wordAt (t0 : zLT) (a0 : Int32) : Option (Int32) :=
  if a0 < 0 then
    some (-1)
  else
    if t0.2.1 ≤ a0 then
      some (-1)
    else
      if (Int32.ofNat 9) ≤ a0 then
        some (-1)
      else
        if a0 < 0 ∨ 9 ≤ Int32.toNatClampNeg a0 then none
        else
          some (t0.1 (Int32.toNatClampNeg a0))

def f_X3_put (t0 : zLT) (a0 : Int32) (a1 : Int32) : Option (zLT) :=
  (f_X3_has t0 a0).bind fun u1 =>
    if (bI u1) = 0 then
      some t0
    else
      if a0 < 0 ∨ 9 ≤ Int32.toNatClampNeg a0 then none
      else
        (some (upd t0.1 (Int32.toNatClampNeg a0) a1)).bind fun z3 =>
          some (z3, t0.2)

def f_X3_add (t0 : zLT) (a0 : Int32) : Option (zLT) :=
  if t0.2.1 < 0 then
    some t0
  else
    if t0.2.1 < (Int32.ofNat 9) then
      if t0.2.1 < 0 ∨ 9 ≤ Int32.toNatClampNeg t0.2.1 then none
      else
        (some (upd t0.1 (Int32.toNatClampNeg t0.2.1) a0)).bind fun z3 =>
          (some ((t0.2.1 + 1) : Int32)).bind fun z5 =>
            some (z3, z5, t0.2.2)
    else
      some t0

def f_X3_clear (t0 : zLT) : Option (zLT) :=
  some (t0.1, 0, 0)

def lp_X3_copy_6 (s1_0 : (Nat → Int32)) (s1_1 : Int32) (s1_2 : Int32) (K : Int32 → (Nat → Int32) → Int32 → Int32 → Option (zLT)) : Nat → Int32 → (Nat → Int32) → Int32 → Int32 → Option (zLT)
  | 0, _, _, _, _ => none
  | n + 1, v2, s0_0, s0_1, s0_2 =>
    if s1_1 ≤ v2 then
      K v2 s0_0 s0_1 s0_2
    else
      (f_X3_wordAt (s1_0, s1_1, s1_2) v2).bind fun u3 =>
        (f_X3_add (s0_0, s0_1, s0_2) u3).bind fun u4 =>
          lp_X3_copy_6 s1_0 s1_1 s1_2 K n (v2 + 1) u4.1 u4.2.1 u4.2.2
def f_X3_copy (t0 : zLT) (t1 : zLT) : Option (zLT) :=
  (f_X3_clear t0).bind fun u1 =>
    lp_X3_copy_6 t1.1 t1.2.1 t1.2.2 (fun w5_v2 w5_s0_0 w5_s0_1 w5_s0_2 =>
      some (w5_s0_0, w5_s0_1, t1.2.2)) FU 0 u1.1 u1.2.1 u1.2.2

def f_X6_begin (a0 : Int32) : Option (zRD) :=
  some (a0, 0, false, 0, 0, false)

def f_X6_copy (t1 : zRD) : Option (zRD) :=
  some t1

def f_X6_shutsBehind (t0 : zRD) (a0 : Int32) : Option (Bool) :=
  if t0.1 = 2 then
    some false
  else
    if t0.1 = (-1) then
      some false
    else
      if (-1) ≤ t0.2.1 then
        if a0 = 4 then
          if t0.1 = 1 then
            some true
          else
            if t0.1 = 4 then
              some true
            else
              if t0.2.2.2.1 < 2 then
                if t0.2.1 ≤ 1 then
                  some false
                else
                  if t0.1 = 4 then
                    some true
                  else
                    some false
              else
                if t0.1 = 3 then
                  some true
                else
                  if t0.2.1 ≤ 1 then
                    some false
                  else
                    if t0.1 = 4 then
                      some true
                    else
                      some false
        else
          if t0.2.2.2.1 < 2 then
            if t0.2.1 ≤ 1 then
              some false
            else
              if t0.1 = 4 then
                some true
              else
                some false
          else
            if t0.1 = 3 then
              some true
            else
              if t0.2.1 ≤ 1 then
                some false
              else
                if t0.1 = 4 then
                  some true
                else
                  some false
      else
        some true

def f_X6_hear (t0 : zRD) (a0 : Int32) : Option (zRD) :=
  if a0 = 0 then
    if (bI t0.2.2.1) = 0 then
      (some ((t0.2.1 + 1) : Int32)).bind fun z3 =>
        (some ((t0.2.2.2.2.1 + 1) : Int32)).bind fun z4 =>
          (f_X6_shutsBehind (t0.1, z3, false, t0.2.2.2.1, z4, t0.2.2.2.2.2) a0).bind fun u5 =>
            some (t0.1, z3, false, t0.2.2.2.1, z4, u5)
    else
      (some ((t0.2.1 + (-1)) : Int32)).bind fun z6 =>
        (some ((t0.2.2.2.2.1 + 1) : Int32)).bind fun z7 =>
          (f_X6_shutsBehind (t0.1, z6, false, t0.2.2.2.1, z7, t0.2.2.2.2.2) a0).bind fun u8 =>
            some (t0.1, z6, false, t0.2.2.2.1, z7, u8)
  else
    if a0 = 1 then
      if (bI t0.2.2.1) = 0 then
        (some ((t0.2.1 + (-1)) : Int32)).bind fun z11 =>
          (some ((t0.2.2.2.2.1 + 1) : Int32)).bind fun z12 =>
            (f_X6_shutsBehind (t0.1, z11, false, t0.2.2.2.1, z12, t0.2.2.2.2.2) a0).bind fun u13 =>
              some (t0.1, z11, false, t0.2.2.2.1, z12, u13)
      else
        (some ((t0.2.1 + 1) : Int32)).bind fun z14 =>
          (some ((t0.2.2.2.2.1 + 1) : Int32)).bind fun z15 =>
            (f_X6_shutsBehind (t0.1, z14, false, t0.2.2.2.1, z15, t0.2.2.2.2.2) a0).bind fun u16 =>
              some (t0.1, z14, false, t0.2.2.2.1, z15, u16)
    else
      if a0 = 2 then
        if (bI t0.2.2.1) = 0 then
          (some ((t0.2.2.2.2.1 + 1) : Int32)).bind fun z21 =>
            (f_X6_shutsBehind (t0.1, t0.2.1, true, t0.2.2.2.1, z21, t0.2.2.2.2.2) a0).bind fun u22 =>
              some (t0.1, t0.2.1, true, t0.2.2.2.1, z21, u22)
        else
          (some ((t0.2.2.2.2.1 + 1) : Int32)).bind fun z19 =>
            (f_X6_shutsBehind (t0.1, t0.2.1, false, t0.2.2.2.1, z19, t0.2.2.2.2.2) a0).bind fun u20 =>
              some (t0.1, t0.2.1, false, t0.2.2.2.1, z19, u20)
      else
        if a0 = 3 then
          (some ((-t0.2.1) : Int32)).bind fun z24 =>
            (some ((t0.2.2.2.2.1 + 1) : Int32)).bind fun z25 =>
              (f_X6_shutsBehind (t0.1, z24, t0.2.2.1, t0.2.2.2.1, z25, t0.2.2.2.2.2) a0).bind fun u26 =>
                some (t0.1, z24, t0.2.2.1, t0.2.2.2.1, z25, u26)
        else
          if a0 = 4 then
            (some ((t0.2.1 + 1) : Int32)).bind fun z28 =>
              (some ((t0.2.2.2.2.1 + 1) : Int32)).bind fun z29 =>
                (f_X6_shutsBehind (t0.1, z28, t0.2.2.1, t0.2.2.2.1, z29, t0.2.2.2.2.2) a0).bind fun u30 =>
                  some (t0.1, z28, t0.2.2.1, t0.2.2.2.1, z29, u30)
          else
            if a0 = 5 then
              (some ((t0.2.2.2.1 + 1) : Int32)).bind fun z32 =>
                (some ((t0.2.2.2.2.1 + 1) : Int32)).bind fun z33 =>
                  (f_X6_shutsBehind (t0.1, t0.2.1, t0.2.2.1, z32, z33, t0.2.2.2.2.2) a0).bind fun u34 =>
                    some (t0.1, t0.2.1, t0.2.2.1, z32, z33, u34)
            else
              (some ((t0.2.2.2.2.1 + 1) : Int32)).bind fun z35 =>
                (f_X6_shutsBehind (t0.1, t0.2.1, t0.2.2.1, t0.2.2.2.1, z35, t0.2.2.2.2.2) a0).bind fun u36 =>
                  some (t0.1, t0.2.1, t0.2.2.1, t0.2.2.2.1, z35, u36)

def lp_X6_hearSome_3 (v2 : Int32) (v3 : Bool) (s1_0 : (Nat → Int32)) (s1_1 : Int32) (s1_2 : Int32) (K : Int32 → Int32 → Int32 → Bool → Int32 → Int32 → Bool → Option (zRD)) : Nat → Int32 → Int32 → Int32 → Bool → Int32 → Int32 → Bool → Option (zRD)
  | 0, _, _, _, _, _, _, _ => none
  | n + 1, v4, s0_0, s0_1, s0_2, s0_3, s0_4, s0_5 =>
    if v2 ≤ v4 then
      K v4 s0_0 s0_1 s0_2 s0_3 s0_4 s0_5
    else
      if (bI s0_5) = 0 then
        if (bI v3) = 0 then
          (f_X3_wordAt (s1_0, s1_1, s1_2) ((s1_1 - 1) - v4)).bind fun u4 =>
            (f_X6_hear (s0_0, s0_1, s0_2, s0_3, s0_4, s0_5) u4).bind fun u5 =>
              lp_X6_hearSome_3 v2 v3 s1_0 s1_1 s1_2 K n (v4 + 1) u5.1 u5.2.1 u5.2.2.1 u5.2.2.2.1 u5.2.2.2.2.1 u5.2.2.2.2.2
        else
          (f_X3_wordAt (s1_0, s1_1, s1_2) v4).bind fun u6 =>
            (f_X6_hear (s0_0, s0_1, s0_2, s0_3, s0_4, s0_5) u6).bind fun u7 =>
              lp_X6_hearSome_3 v2 v3 s1_0 s1_1 s1_2 K n (v4 + 1) u7.1 u7.2.1 u7.2.2.1 u7.2.2.2.1 u7.2.2.2.2.1 u7.2.2.2.2.2
      else
        K v4 s0_0 s0_1 s0_2 s0_3 s0_4 s0_5
def f_X6_hearSome (t0 : zRD) (t1 : zLT) (a1 : Int32) (a2 : Bool) : Option (zRD) :=
  lp_X6_hearSome_3 a1 a2 t1.1 t1.2.1 t1.2.2 (fun w8_v4 w8_s0_0 w8_s0_1 w8_s0_2 w8_s0_3 w8_s0_4 w8_s0_5 =>
    some (w8_s0_0, w8_s0_1, w8_s0_2, w8_s0_3, w8_s0_4, w8_s0_5)) FU 0 t0.1 t0.2.1 t0.2.2.1 t0.2.2.2.1 t0.2.2.2.2.1 t0.2.2.2.2.2

def f_X6_readTo (a0 : Int32) (t1 : zLT) (a2 : Bool) : Option (zRD) :=
  (f_X6_begin a0).bind fun u1 =>
    if a0 = 2 then
      (f_X6_hearSome u1 t1 t1.2.1 true).bind fun u4 =>
        some u4
    else
      (f_X6_hearSome u1 t1 (if t1.2.2 < t1.2.1 then t1.2.2 else t1.2.1) a2).bind fun u3 =>
        some u3
