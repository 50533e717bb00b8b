abbrev zRD : Type := Int32 × Int32 × Bool × Int32 × Int32 × Bool
abbrev zLT : Type := (Nat → Int32) × Int32 × Int32
abbrev zPG : Type := (Nat → Int32) × Int32
abbrev zLS : Type := (Nat → Int32) × Int32
abbrev zTD : Type := (Nat → Int32) × Int32
abbrev zIM : Type := zLT × zTD × Int32 × Int32 × Bool
abbrev zWR : Type := zLT × zRD × (Nat → zRD) × Int32 × Int32 × Int32
abbrev zEN : Type := (Nat → Int32) × (Nat → Int32) × zRD
abbrev zDY : Type := zLT × zRD × Int32 × Int32 × Int32
abbrev zXS : Type := zPG × zLT × zLS × zTD × zIM × zRD × zWR × zEN × zDY × (Nat → Int32) × Int32 × Int32 × Int32
def FU : Nat := 10000
abbrev zR (f k : Nat) : Room := { frames := f, cells := 0, slots := 0, locals := k }
abbrev iA (G : GG) (a n : Nat) (f : Nat → Int32) : Nat × va_E := (a, .inl (G.2.1, n, .inl f))
def wX6 (G : GG) (q : Nat → Nat) (m0 : Int32) (m1 : Int32) (m2 : Bool) (m3 : Int32) (m4 : Int32) (m5 : Bool) : va_W := [(q 0, .inr (6, [.int m0, .int m1, .int (bI m2), .int m3, .int m4, .int (bI m5)]))]
def wX3 (G : GG) (q : Nat → Nat) (m0 : (Nat → Int32)) (m1 : Int32) (m2 : Int32) : va_W := [(q 0, .inr (3, [.ref (q 1), .int m1, .int m2])), (q 1, .inl (G.2.1, 9, .inl m0))]
def wX5 (G : GG) (q : Nat → Nat) (m0 : (Nat → Int32)) (m1 : Int32) : va_W := [(q 0, .inr (5, [.ref (q 1), .int m1])), (q 1, .inl (G.2.1, 12, .inl m0))]
def wX4 (G : GG) (q : Nat → Nat) (m0 : (Nat → Int32)) (m1 : Int32) : va_W := [(q 0, .inr (4, [.ref (q 1), .int m1])), (q 1, .inl (G.2.1, 4, .inl m0))]
def wX7 (G : GG) (q : Nat → Nat) (m0 : (Nat → Int32)) (m1 : Int32) : va_W := [(q 0, .inr (7, [.ref (q 1), .int m1])), (q 1, .inl (G.2.1, 6, .inl m0))]
def wX2 (G : GG) (q : Nat → Nat) (m0 : zLT) (m1 : zTD) (m2 : Int32) (m3 : Int32) (m4 : Bool) : va_W := [(q 0, .inr (2, [.ref (q 1), .ref (q 3), .int m2, .int m3, .int (bI m4)])), (q 1, .inr (3, [.ref (q 2), .int m0.2.1, .int m0.2.2])), (q 2, .inl (G.2.1, 9, .inl m0.1)), (q 3, .inr (7, [.ref (q 4), .int m1.2])), (q 4, .inl (G.2.1, 6, .inl m1.1))]
def wX8 (G : GG) (q : Nat → Nat) (m0 : zLT) (m1 : zRD) (m2 : (Nat → zRD)) (m3 : Int32) (m4 : Int32) (m5 : Int32) : va_W := [(q 0, .inr (8, [.ref (q 1), .ref (q 3), .ref (q 4), .int m3, .int m4, .int m5])), (q 1, .inr (3, [.ref (q 2), .int m0.2.1, .int m0.2.2])), (q 2, .inl (G.2.1, 9, .inl m0.1)), (q 3, .inr (6, [.int m1.1, .int m1.2.1, .int (bI m1.2.2.1), .int m1.2.2.2.1, .int m1.2.2.2.2.1, .int (bI m1.2.2.2.2.2)])), (q 4, .inl (G.2.2, 6, .inr (.inr (.inr (.inr (va_up (va_up (va_up (va_up (va_up (va_up (fun _ => none) 0 (some (q 5))) 1 (some (q 6))) 2 (some (q 7))) 3 (some (q 8))) 4 (some (q 9))) 5 (some (q 10)))))))), (q 5, .inr (6, [.int ((m2 0).1), .int ((m2 0).2.1), .int (bI ((m2 0).2.2.1)), .int ((m2 0).2.2.2.1), .int ((m2 0).2.2.2.2.1), .int (bI ((m2 0).2.2.2.2.2))])), (q 6, .inr (6, [.int ((m2 1).1), .int ((m2 1).2.1), .int (bI ((m2 1).2.2.1)), .int ((m2 1).2.2.2.1), .int ((m2 1).2.2.2.2.1), .int (bI ((m2 1).2.2.2.2.2))])), (q 7, .inr (6, [.int ((m2 2).1), .int ((m2 2).2.1), .int (bI ((m2 2).2.2.1)), .int ((m2 2).2.2.2.1), .int ((m2 2).2.2.2.2.1), .int (bI ((m2 2).2.2.2.2.2))])), (q 8, .inr (6, [.int ((m2 3).1), .int ((m2 3).2.1), .int (bI ((m2 3).2.2.1)), .int ((m2 3).2.2.2.1), .int ((m2 3).2.2.2.2.1), .int (bI ((m2 3).2.2.2.2.2))])), (q 9, .inr (6, [.int ((m2 4).1), .int ((m2 4).2.1), .int (bI ((m2 4).2.2.1)), .int ((m2 4).2.2.2.1), .int ((m2 4).2.2.2.2.1), .int (bI ((m2 4).2.2.2.2.2))])), (q 10, .inr (6, [.int ((m2 5).1), .int ((m2 5).2.1), .int (bI ((m2 5).2.2.1)), .int ((m2 5).2.2.2.1), .int ((m2 5).2.2.2.2.1), .int (bI ((m2 5).2.2.2.2.2))]))]
def wX1 (G : GG) (q : Nat → Nat) (m0 : (Nat → Int32)) (m1 : (Nat → Int32)) (m2 : zRD) : va_W := [(q 0, .inr (1, [.ref (q 1), .ref (q 2), .ref (q 3)])), (q 1, .inl (G.2.1, 22, .inl m0)), (q 2, .inl (G.2.1, 22, .inl m1)), (q 3, .inr (6, [.int m2.1, .int m2.2.1, .int (bI m2.2.2.1), .int m2.2.2.2.1, .int m2.2.2.2.2.1, .int (bI m2.2.2.2.2.2)]))]
def wX0 (G : GG) (q : Nat → Nat) (m0 : zLT) (m1 : zRD) (m2 : Int32) (m3 : Int32) (m4 : Int32) : va_W := [(q 0, .inr (0, [.ref (q 1), .ref (q 3), .int m2, .int m3, .int m4])), (q 1, .inr (3, [.ref (q 2), .int m0.2.1, .int m0.2.2])), (q 2, .inl (G.2.1, 9, .inl m0.1)), (q 3, .inr (6, [.int m1.1, .int m1.2.1, .int (bI m1.2.2.1), .int m1.2.2.2.1, .int m1.2.2.2.2.1, .int (bI m1.2.2.2.2.2)]))]
def wX9 (G : GG) (q : Nat → Nat) (m0 : zPG) (m1 : zLT) (m2 : zLS) (m3 : zTD) (m4 : zIM) (m5 : zRD) (m6 : zWR) (m7 : zEN) (m8 : zDY) (m9 : (Nat → Int32)) (m10 : Int32) (m11 : Int32) (m12 : Int32) : va_W := [(q 0, .inr (9, [.ref (q 1), .ref (q 3), .ref (q 5), .ref (q 7), .ref (q 9), .ref (q 14), .ref (q 15), .ref (q 26), .ref (q 30), .ref (q 34), .int m10, .int m11, .int m12])), (q 1, .inr (5, [.ref (q 2), .int m0.2])), (q 2, .inl (G.2.1, 12, .inl m0.1)), (q 3, .inr (3, [.ref (q 4), .int m1.2.1, .int m1.2.2])), (q 4, .inl (G.2.1, 9, .inl m1.1)), (q 5, .inr (4, [.ref (q 6), .int m2.2])), (q 6, .inl (G.2.1, 4, .inl m2.1)), (q 7, .inr (7, [.ref (q 8), .int m3.2])), (q 8, .inl (G.2.1, 6, .inl m3.1)), (q 9, .inr (2, [.ref (q 10), .ref (q 12), .int m4.2.2.1, .int m4.2.2.2.1, .int (bI m4.2.2.2.2)])), (q 10, .inr (3, [.ref (q 11), .int m4.1.2.1, .int m4.1.2.2])), (q 11, .inl (G.2.1, 9, .inl m4.1.1)), (q 12, .inr (7, [.ref (q 13), .int m4.2.1.2])), (q 13, .inl (G.2.1, 6, .inl m4.2.1.1)), (q 14, .inr (6, [.int m5.1, .int m5.2.1, .int (bI m5.2.2.1), .int m5.2.2.2.1, .int m5.2.2.2.2.1, .int (bI m5.2.2.2.2.2)])), (q 15, .inr (8, [.ref (q 16), .ref (q 18), .ref (q 19), .int m6.2.2.2.1, .int m6.2.2.2.2.1, .int m6.2.2.2.2.2])), (q 16, .inr (3, [.ref (q 17), .int m6.1.2.1, .int m6.1.2.2])), (q 17, .inl (G.2.1, 9, .inl m6.1.1)), (q 18, .inr (6, [.int m6.2.1.1, .int m6.2.1.2.1, .int (bI m6.2.1.2.2.1), .int m6.2.1.2.2.2.1, .int m6.2.1.2.2.2.2.1, .int (bI m6.2.1.2.2.2.2.2)])), (q 19, .inl (G.2.2, 6, .inr (.inr (.inr (.inr (va_up (va_up (va_up (va_up (va_up (va_up (fun _ => none) 0 (some (q 20))) 1 (some (q 21))) 2 (some (q 22))) 3 (some (q 23))) 4 (some (q 24))) 5 (some (q 25)))))))), (q 20, .inr (6, [.int ((m6.2.2.1 0).1), .int ((m6.2.2.1 0).2.1), .int (bI ((m6.2.2.1 0).2.2.1)), .int ((m6.2.2.1 0).2.2.2.1), .int ((m6.2.2.1 0).2.2.2.2.1), .int (bI ((m6.2.2.1 0).2.2.2.2.2))])), (q 21, .inr (6, [.int ((m6.2.2.1 1).1), .int ((m6.2.2.1 1).2.1), .int (bI ((m6.2.2.1 1).2.2.1)), .int ((m6.2.2.1 1).2.2.2.1), .int ((m6.2.2.1 1).2.2.2.2.1), .int (bI ((m6.2.2.1 1).2.2.2.2.2))])), (q 22, .inr (6, [.int ((m6.2.2.1 2).1), .int ((m6.2.2.1 2).2.1), .int (bI ((m6.2.2.1 2).2.2.1)), .int ((m6.2.2.1 2).2.2.2.1), .int ((m6.2.2.1 2).2.2.2.2.1), .int (bI ((m6.2.2.1 2).2.2.2.2.2))])), (q 23, .inr (6, [.int ((m6.2.2.1 3).1), .int ((m6.2.2.1 3).2.1), .int (bI ((m6.2.2.1 3).2.2.1)), .int ((m6.2.2.1 3).2.2.2.1), .int ((m6.2.2.1 3).2.2.2.2.1), .int (bI ((m6.2.2.1 3).2.2.2.2.2))])), (q 24, .inr (6, [.int ((m6.2.2.1 4).1), .int ((m6.2.2.1 4).2.1), .int (bI ((m6.2.2.1 4).2.2.1)), .int ((m6.2.2.1 4).2.2.2.1), .int ((m6.2.2.1 4).2.2.2.2.1), .int (bI ((m6.2.2.1 4).2.2.2.2.2))])), (q 25, .inr (6, [.int ((m6.2.2.1 5).1), .int ((m6.2.2.1 5).2.1), .int (bI ((m6.2.2.1 5).2.2.1)), .int ((m6.2.2.1 5).2.2.2.1), .int ((m6.2.2.1 5).2.2.2.2.1), .int (bI ((m6.2.2.1 5).2.2.2.2.2))])), (q 26, .inr (1, [.ref (q 27), .ref (q 28), .ref (q 29)])), (q 27, .inl (G.2.1, 22, .inl m7.1)), (q 28, .inl (G.2.1, 22, .inl m7.2.1)), (q 29, .inr (6, [.int m7.2.2.1, .int m7.2.2.2.1, .int (bI m7.2.2.2.2.1), .int m7.2.2.2.2.2.1, .int m7.2.2.2.2.2.2.1, .int (bI m7.2.2.2.2.2.2.2)])), (q 30, .inr (0, [.ref (q 31), .ref (q 33), .int m8.2.2.1, .int m8.2.2.2.1, .int m8.2.2.2.2])), (q 31, .inr (3, [.ref (q 32), .int m8.1.2.1, .int m8.1.2.2])), (q 32, .inl (G.2.1, 9, .inl m8.1.1)), (q 33, .inr (6, [.int m8.2.1.1, .int m8.2.1.2.1, .int (bI m8.2.1.2.2.1), .int m8.2.1.2.2.2.1, .int m8.2.1.2.2.2.2.1, .int (bI m8.2.1.2.2.2.2.2)])), (q 34, .inl (G.2.1, 10, .inl m9))]
def wX10 (G : GG) (q : Nat → Nat) (m0 : (Nat → Int32)) (m1 : Int32) (m2 : Int32) (m3 : Int32) (m4 : Int32) (m5 : Int32) (m6 : Int32) (m7 : Int32) (m8 : (Nat → Int32)) (m9 : Int32) (m10 : (Nat → Int32)) (m11 : Int32) (m12 : Bool) (m13 : Int32) (m14 : Int32) (m15 : Bool) (m16 : Int32) (m17 : (Nat → Int32)) (m18 : Int32) (m19 : (Nat → Int32)) (m20 : (Nat → Int32)) (m21 : Int32) (m22 : Int32) (m23 : Int32) (m24 : Int32) (m25 : Int32) (m26 : Int32) (m27 : (Nat → Int32)) (m28 : (Nat → Int32)) (m29 : Int64) : va_W := [(q 0, .inr (10, [.ref (q 1), .int m1, .int m2, .int m3, .int m4, .int m5, .int m6, .int m7, .ref (q 2), .int m9, .ref (q 3), .int m11, .int (bI m12), .int m13, .int m14, .int (bI m15), .int m16, .ref (q 4), .int m18, .ref (q 5), .ref (q 6), .int m21, .int m22, .int m23, .int m24, .int m25, .int m26, .ref (q 7), .ref (q 8), .long m29])), (q 1, .inl (G.2.1, 12, .inl m0)), (q 2, .inl (G.2.1, 9, .inl m8)), (q 3, .inl (G.2.1, 4, .inl m10)), (q 4, .inl (G.2.1, 10, .inl m17)), (q 5, .inl (G.2.1, 6, .inl m19)), (q 6, .inl (G.2.1, 10, .inl m20)), (q 7, .inl (G.2.1, 9, .inl m27)), (q 8, .inl (G.2.1, 6, .inl m28))]
def wO10 (G : GG) (q : Nat → Nat) (m1 : Int32) (m2 : Int32) (m3 : Int32) (m4 : Int32) (m5 : Int32) (m6 : Int32) (m7 : Int32) (m9 : Int32) (m11 : Int32) (m12 : Bool) (m13 : Int32) (m14 : Int32) (m15 : Bool) (m16 : Int32) (m18 : Int32) (m21 : Int32) (m22 : Int32) (m23 : Int32) (m24 : Int32) (m25 : Int32) (m26 : Int32) (m29 : Int64) : va_W := [(q 0, .inr (10, [.ref (q 1), .int m1, .int m2, .int m3, .int m4, .int m5, .int m6, .int m7, .ref (q 2), .int m9, .ref (q 3), .int m11, .int (bI m12), .int m13, .int m14, .int (bI m15), .int m16, .ref (q 4), .int m18, .ref (q 5), .ref (q 6), .int m21, .int m22, .int m23, .int m24, .int m25, .int m26, .ref (q 7), .ref (q 8), .long m29]))]
def f_X3_has (t0 : zLT) (a0 : Int32) : Option (Bool) :=
  if a0 < 0 then
    some false
  else
    if t0.2.1 ≤ a0 then
      some false
    else
      if (Int32.ofNat 9) ≤ a0 then
        some false
      else
        some true

def f_X3_wordAt (t0 : zLT) (a0 : Int32) : Option (Int32) :=
  if a0 < 0 then
    some (-1)
  else
    if t0.2.1 ≤ a0 then
      some (-1)
    else
      if (Int32.ofNat 9) ≤ a0 then
        some (-1)
      else
        if a0 < 0 ∨ 9 ≤ Int32.toNatClampNeg a0 then none
        else
          some (t0.1 (Int32.toNatClampNeg a0))

def f_X3_put (t0 : zLT) (a0 : Int32) (a1 : Int32) : Option (zLT) :=
  (f_X3_has t0 a0).bind fun u1 =>
    if (bI u1) = 0 then
      some t0
    else
      if a0 < 0 ∨ 9 ≤ Int32.toNatClampNeg a0 then none
      else
        (some (upd t0.1 (Int32.toNatClampNeg a0) a1)).bind fun z3 =>
          some (z3, t0.2)

def f_X3_add (t0 : zLT) (a0 : Int32) : Option (zLT) :=
  if t0.2.1 < 0 then
    some t0
  else
    if t0.2.1 < (Int32.ofNat 9) then
      if t0.2.1 < 0 ∨ 9 ≤ Int32.toNatClampNeg t0.2.1 then none
      else
        (some (upd t0.1 (Int32.toNatClampNeg t0.2.1) a0)).bind fun z3 =>
          (some ((t0.2.1 + 1) : Int32)).bind fun z5 =>
            some (z3, z5, t0.2.2)
    else
      some t0

def f_X3_clear (t0 : zLT) : Option (zLT) :=
  some (t0.1, 0, 0)

def lp_X3_copy_6 (s1_0 : (Nat → Int32)) (s1_1 : Int32) (s1_2 : Int32) (K : Int32 → (Nat → Int32) → Int32 → Int32 → Option (zLT)) : Nat → Int32 → (Nat → Int32) → Int32 → Int32 → Option (zLT)
  | 0, _, _, _, _ => none
  | n + 1, v2, s0_0, s0_1, s0_2 =>
    if s1_1 ≤ v2 then
      K v2 s0_0 s0_1 s0_2
    else
      (f_X3_wordAt (s1_0, s1_1, s1_2) v2).bind fun u3 =>
        (f_X3_add (s0_0, s0_1, s0_2) u3).bind fun u4 =>
          lp_X3_copy_6 s1_0 s1_1 s1_2 K n (v2 + 1) u4.1 u4.2.1 u4.2.2
def f_X3_copy (t0 : zLT) (t1 : zLT) : Option (zLT) :=
  (f_X3_clear t0).bind fun u1 =>
    lp_X3_copy_6 t1.1 t1.2.1 t1.2.2 (fun w5_v2 w5_s0_0 w5_s0_1 w5_s0_2 =>
      some (w5_s0_0, w5_s0_1, t1.2.2)) FU 0 u1.1 u1.2.1 u1.2.2

def f_X6_begin (a0 : Int32) : Option (zRD) :=
  some (a0, 0, false, 0, 0, false)

def f_X6_copy (t1 : zRD) : Option (zRD) :=
  some t1

def f_X6_shutsBehind (t0 : zRD) (a0 : Int32) : Option (Bool) :=
  if t0.1 = 2 then
    some false
  else
    if t0.1 = (-1) then
      some false
    else
      if (-1) ≤ t0.2.1 then
        if a0 = 4 then
          if t0.1 = 1 then
            some true
          else
            if t0.1 = 4 then
              some true
            else
              if t0.2.2.2.1 < 2 then
                if t0.2.1 ≤ 1 then
                  some false
                else
                  if t0.1 = 4 then
                    some true
                  else
                    some false
              else
                if t0.1 = 3 then
                  some true
                else
                  if t0.2.1 ≤ 1 then
                    some false
                  else
                    if t0.1 = 4 then
                      some true
                    else
                      some false
        else
          if t0.2.2.2.1 < 2 then
            if t0.2.1 ≤ 1 then
              some false
            else
              if t0.1 = 4 then
                some true
              else
                some false
          else
            if t0.1 = 3 then
              some true
            else
              if t0.2.1 ≤ 1 then
                some false
              else
                if t0.1 = 4 then
                  some true
                else
                  some false
      else
        some true

def f_X6_hear (t0 : zRD) (a0 : Int32) : Option (zRD) :=
  if a0 = 0 then
    if (bI t0.2.2.1) = 0 then
      (some ((t0.2.1 + 1) : Int32)).bind fun z3 =>
        (some ((t0.2.2.2.2.1 + 1) : Int32)).bind fun z4 =>
          (f_X6_shutsBehind (t0.1, z3, false, t0.2.2.2.1, z4, t0.2.2.2.2.2) a0).bind fun u5 =>
            some (t0.1, z3, false, t0.2.2.2.1, z4, u5)
    else
      (some ((t0.2.1 + (-1)) : Int32)).bind fun z6 =>
        (some ((t0.2.2.2.2.1 + 1) : Int32)).bind fun z7 =>
          (f_X6_shutsBehind (t0.1, z6, false, t0.2.2.2.1, z7, t0.2.2.2.2.2) a0).bind fun u8 =>
            some (t0.1, z6, false, t0.2.2.2.1, z7, u8)
  else
    if a0 = 1 then
      if (bI t0.2.2.1) = 0 then
        (some ((t0.2.1 + (-1)) : Int32)).bind fun z11 =>
          (some ((t0.2.2.2.2.1 + 1) : Int32)).bind fun z12 =>
            (f_X6_shutsBehind (t0.1, z11, false, t0.2.2.2.1, z12, t0.2.2.2.2.2) a0).bind fun u13 =>
              some (t0.1, z11, false, t0.2.2.2.1, z12, u13)
      else
        (some ((t0.2.1 + 1) : Int32)).bind fun z14 =>
          (some ((t0.2.2.2.2.1 + 1) : Int32)).bind fun z15 =>
            (f_X6_shutsBehind (t0.1, z14, false, t0.2.2.2.1, z15, t0.2.2.2.2.2) a0).bind fun u16 =>
              some (t0.1, z14, false, t0.2.2.2.1, z15, u16)
    else
      if a0 = 2 then
        if (bI t0.2.2.1) = 0 then
          (some ((t0.2.2.2.2.1 + 1) : Int32)).bind fun z21 =>
            (f_X6_shutsBehind (t0.1, t0.2.1, true, t0.2.2.2.1, z21, t0.2.2.2.2.2) a0).bind fun u22 =>
              some (t0.1, t0.2.1, true, t0.2.2.2.1, z21, u22)
        else
          (some ((t0.2.2.2.2.1 + 1) : Int32)).bind fun z19 =>
            (f_X6_shutsBehind (t0.1, t0.2.1, false, t0.2.2.2.1, z19, t0.2.2.2.2.2) a0).bind fun u20 =>
              some (t0.1, t0.2.1, false, t0.2.2.2.1, z19, u20)
      else
        if a0 = 3 then
          (some ((-t0.2.1) : Int32)).bind fun z24 =>
            (some ((t0.2.2.2.2.1 + 1) : Int32)).bind fun z25 =>
              (f_X6_shutsBehind (t0.1, z24, t0.2.2.1, t0.2.2.2.1, z25, t0.2.2.2.2.2) a0).bind fun u26 =>
                some (t0.1, z24, t0.2.2.1, t0.2.2.2.1, z25, u26)
        else
          if a0 = 4 then
            (some ((t0.2.1 + 1) : Int32)).bind fun z28 =>
              (some ((t0.2.2.2.2.1 + 1) : Int32)).bind fun z29 =>
                (f_X6_shutsBehind (t0.1, z28, t0.2.2.1, t0.2.2.2.1, z29, t0.2.2.2.2.2) a0).bind fun u30 =>
                  some (t0.1, z28, t0.2.2.1, t0.2.2.2.1, z29, u30)
          else
            if a0 = 5 then
              (some ((t0.2.2.2.1 + 1) : Int32)).bind fun z32 =>
                (some ((t0.2.2.2.2.1 + 1) : Int32)).bind fun z33 =>
                  (f_X6_shutsBehind (t0.1, t0.2.1, t0.2.2.1, z32, z33, t0.2.2.2.2.2) a0).bind fun u34 =>
                    some (t0.1, t0.2.1, t0.2.2.1, z32, z33, u34)
            else
              (some ((t0.2.2.2.2.1 + 1) : Int32)).bind fun z35 =>
                (f_X6_shutsBehind (t0.1, t0.2.1, t0.2.2.1, t0.2.2.2.1, z35, t0.2.2.2.2.2) a0).bind fun u36 =>
                  some (t0.1, t0.2.1, t0.2.2.1, t0.2.2.2.1, z35, u36)

def lp_X6_hearSome_3 (v2 : Int32) (v3 : Bool) (s1_0 : (Nat → Int32)) (s1_1 : Int32) (s1_2 : Int32) (K : Int32 → Int32 → Int32 → Bool → Int32 → Int32 → Bool → Option (zRD)) : Nat → Int32 → Int32 → Int32 → Bool → Int32 → Int32 → Bool → Option (zRD)
  | 0, _, _, _, _, _, _, _ => none
  | n + 1, v4, s0_0, s0_1, s0_2, s0_3, s0_4, s0_5 =>
    if v2 ≤ v4 then
      K v4 s0_0 s0_1 s0_2 s0_3 s0_4 s0_5
    else
      if (bI s0_5) = 0 then
        if (bI v3) = 0 then
          (f_X3_wordAt (s1_0, s1_1, s1_2) ((s1_1 - 1) - v4)).bind fun u4 =>
            (f_X6_hear (s0_0, s0_1, s0_2, s0_3, s0_4, s0_5) u4).bind fun u5 =>
              lp_X6_hearSome_3 v2 v3 s1_0 s1_1 s1_2 K n (v4 + 1) u5.1 u5.2.1 u5.2.2.1 u5.2.2.2.1 u5.2.2.2.2.1 u5.2.2.2.2.2
        else
          (f_X3_wordAt (s1_0, s1_1, s1_2) v4).bind fun u6 =>
            (f_X6_hear (s0_0, s0_1, s0_2, s0_3, s0_4, s0_5) u6).bind fun u7 =>
              lp_X6_hearSome_3 v2 v3 s1_0 s1_1 s1_2 K n (v4 + 1) u7.1 u7.2.1 u7.2.2.1 u7.2.2.2.1 u7.2.2.2.2.1 u7.2.2.2.2.2
      else
        K v4 s0_0 s0_1 s0_2 s0_3 s0_4 s0_5
def f_X6_hearSome (t0 : zRD) (t1 : zLT) (a1 : Int32) (a2 : Bool) : Option (zRD) :=
  lp_X6_hearSome_3 a1 a2 t1.1 t1.2.1 t1.2.2 (fun w8_v4 w8_s0_0 w8_s0_1 w8_s0_2 w8_s0_3 w8_s0_4 w8_s0_5 =>
    some (w8_s0_0, w8_s0_1, w8_s0_2, w8_s0_3, w8_s0_4, w8_s0_5)) FU 0 t0.1 t0.2.1 t0.2.2.1 t0.2.2.2.1 t0.2.2.2.2.1 t0.2.2.2.2.2

def f_X6_readTo (a0 : Int32) (t1 : zLT) (a2 : Bool) : Option (zRD) :=
  (f_X6_begin a0).bind fun u1 =>
    if a0 = 2 then
      (f_X6_hearSome u1 t1 t1.2.1 true).bind fun u4 =>
        some u4
    else
      (f_X6_hearSome u1 t1 (if t1.2.2 < t1.2.1 then t1.2.2 else t1.2.1) a2).bind fun u3 =>
        some u3

def f_X4_has (t0 : zLS) (a0 : Int32) : Option (Bool) :=
  if a0 < 0 then
    some false
  else
    if t0.2 ≤ a0 then
      some false
    else
      if (Int32.ofNat 4) ≤ a0 then
        some false
      else
        some true

def f_X4_kindOf (t0 : zLS) (a0 : Int32) : Option (Int32) :=
  (f_X4_has t0 a0).bind fun u1 =>
    if (bI u1) = 0 then
      some 0
    else
      if a0 < 0 ∨ 4 ≤ Int32.toNatClampNeg a0 then none
      else
        some (t0.1 (Int32.toNatClampNeg a0))

def f_X4_add (t0 : zLS) (a0 : Int32) : Option (zLS) :=
  if t0.2 < 0 then
    some t0
  else
    if t0.2 < (Int32.ofNat 4) then
      if t0.2 < 0 ∨ 4 ≤ Int32.toNatClampNeg t0.2 then none
      else
        (some (upd t0.1 (Int32.toNatClampNeg t0.2) a0)).bind fun z3 =>
          (some ((t0.2 + 1) : Int32)).bind fun z5 =>
            some (z3, z5)
    else
      some t0

def f_X7_add (t0 : zTD) (a0 : Int32) : Option (zTD) :=
  if t0.2 < 0 then
    some t0
  else
    if t0.2 < (Int32.ofNat 6) then
      if t0.2 < 0 ∨ 6 ≤ Int32.toNatClampNeg t0.2 then none
      else
        (some (upd t0.1 (Int32.toNatClampNeg t0.2) a0)).bind fun z3 =>
          (some ((t0.2 + 1) : Int32)).bind fun z5 =>
            some (z3, z5)
    else
      some t0

def f_X7_clear (t0 : zTD) : Option (zTD) :=
  some (t0.1, 0)

def f_X7_kindsAt (t0 : zTD) (a0 : Int32) : Option (Int32) :=
  if a0 < 0 then
    some 31
  else
    if t0.2 ≤ a0 then
      some 31
    else
      if (Int32.ofNat 6) ≤ a0 then
        some 31
      else
        if a0 < 0 ∨ 6 ≤ Int32.toNatClampNeg a0 then none
        else
          some (t0.1 (Int32.toNatClampNeg a0))

def lp_X7_possibleKinds_5 (s0_0 : (Nat → Int32)) (s0_1 : Int32) (K : Int32 → Int32 → Option (Int32)) : Nat → Int32 → Int32 → Option (Int32)
  | 0, _, _ => none
  | n + 1, v1, v2 =>
    if s0_1 ≤ v2 then
      K v1 v2
    else
      (f_X7_kindsAt (s0_0, s0_1) v2).bind fun u2 =>
        lp_X7_possibleKinds_5 s0_0 s0_1 K n (v1 &&& u2) (v2 + 1)
def f_X7_possibleKinds (t0 : zTD) : Option (Int32) :=
  lp_X7_possibleKinds_5 t0.1 t0.2 (fun w3_v1 w3_v2 =>
    some w3_v1) FU 31 0

def lp_X7_copy_6 (s1_0 : (Nat → Int32)) (s1_1 : Int32) (K : Int32 → (Nat → Int32) → Int32 → Option (zTD)) : Nat → Int32 → (Nat → Int32) → Int32 → Option (zTD)
  | 0, _, _, _ => none
  | n + 1, v2, s0_0, s0_1 =>
    if s1_1 ≤ v2 then
      K v2 s0_0 s0_1
    else
      (f_X7_kindsAt (s1_0, s1_1) v2).bind fun u3 =>
        (f_X7_add (s0_0, s0_1) u3).bind fun u4 =>
          lp_X7_copy_6 s1_0 s1_1 K n (v2 + 1) u4.1 u4.2
def f_X7_copy (t0 : zTD) (t1 : zTD) : Option (zTD) :=
  (f_X7_clear t0).bind fun u1 =>
    lp_X7_copy_6 t1.1 t1.2 (fun w5_v2 w5_s0_0 w5_s0_1 =>
      some (w5_s0_0, w5_s0_1)) FU 0 u1.1 u1.2

def f_X5_add (t0 : zPG) (a0 : Int32) : Option (zPG) :=
  if t0.2 < 0 then
    some t0
  else
    if t0.2 < (Int32.ofNat 12) then
      if t0.2 < 0 ∨ 12 ≤ Int32.toNatClampNeg t0.2 then none
      else
        (some (upd t0.1 (Int32.toNatClampNeg t0.2) a0)).bind fun z3 =>
          (some ((t0.2 + 1) : Int32)).bind fun z5 =>
            some (z3, z5)
    else
      some t0

def f_X5_clear (t0 : zPG) : Option (zPG) :=
  some (t0.1, 0)

def f_X5_signAt (t0 : zPG) (a0 : Int32) : Option (Int32) :=
  if a0 < 0 then
    some 0
  else
    if t0.2 ≤ a0 then
      some 0
    else
      if (Int32.ofNat 12) ≤ a0 then
        some 0
      else
        if a0 < 0 ∨ 12 ≤ Int32.toNatClampNeg a0 then none
        else
          some (t0.1 (Int32.toNatClampNeg a0))

def f_X5_wordOf (a0 : Int32) : Option (Int32) :=
  if a0 = 46 then
    some 5
  else
    if a0 = 100 then
      some 4
    else
      if a0 = 110 then
        some 1
      else
        if a0 = 116 then
          some 2
        else
          if a0 = 117 then
            some 3
          else
            if a0 = 121 then
              some 0
            else
              some (-1)

def f_X5_fits (a0 : Int32) (a1 : Int32) (a2 : Int32) : Option (Bool) :=
  if a2 = (-1) then
    if a0 = 59 then
      if a1 ≤ 0 then
        some false
      else
        some true
    else
      if 9 ≤ a1 then
        some false
      else
        (f_X5_wordOf a0).bind fun u4 =>
          if u4 = (-1) then
            some false
          else
            some true
  else
    if a1 = (a2 + 1) then
      if a0 < 49 then
        some false
      else
        if 57 < a0 then
          some false
        else
          some true
    else
      some false

def lp_X5_firstFault_4 (s0_0 : (Nat → Int32)) (s0_1 : Int32) (K : Int32 → Int32 → Option (Int32)) : Nat → Int32 → Int32 → Option (Int32)
  | 0, _, _ => none
  | n + 1, v1, v2 =>
    if s0_1 ≤ v2 then
      K v1 v2
    else
      (f_X5_signAt (s0_0, s0_1) v2).bind fun u2 =>
        (f_X5_fits u2 v2 v1).bind fun u3 =>
          if (bI u3) = 0 then
            some v2
          else
            if u2 = 59 then
              lp_X5_firstFault_4 s0_0 s0_1 K n v2 (v2 + 1)
            else
              lp_X5_firstFault_4 s0_0 s0_1 K n v1 (v2 + 1)
def f_X5_firstFault (t0 : zPG) : Option (Int32) :=
  lp_X5_firstFault_4 t0.1 t0.2 (fun w6_v1 w6_v2 =>
    some t0.2) FU (-1) 0

def f_X5_isLetter (t0 : zPG) : Option (Bool) :=
  if t0.2 ≤ 2 then
    some false
  else
    (f_X5_signAt t0 (t0.2 - 2)).bind fun u2 =>
      if u2 = 59 then
        (f_X5_firstFault t0).bind fun u4 =>
          if u4 = t0.2 then
            some true
          else
            some false
      else
        some false

def lp_X5_copyTo_6 (s0_0 : (Nat → Int32)) (s0_1 : Int32) (K : Int32 → (Nat → Int32) → Int32 → Int32 → Option (zLT)) : Nat → Int32 → (Nat → Int32) → Int32 → Int32 → Option (zLT)
  | 0, _, _, _, _ => none
  | n + 1, v2, s1_0, s1_1, s1_2 =>
    if (s0_1 - 2) ≤ v2 then
      K v2 s1_0 s1_1 s1_2
    else
      (f_X5_signAt (s0_0, s0_1) v2).bind fun u3 =>
        (f_X5_wordOf u3).bind fun u4 =>
          (f_X3_add (s1_0, s1_1, s1_2) u4).bind fun u5 =>
            lp_X5_copyTo_6 s0_0 s0_1 K n (v2 + 1) u5.1 u5.2.1 u5.2.2
def f_X5_copyTo (t0 : zPG) (t1 : zLT) : Option (zLT) :=
  (f_X3_clear t1).bind fun u1 =>
    lp_X5_copyTo_6 t0.1 t0.2 (fun w6_v2 w6_s1_0 w6_s1_1 w6_s1_2 =>
      (f_X5_signAt t0 (t0.2 - 1)).bind fun u7 =>
        (some ((u7 - 48) : Int32)).bind fun z8 =>
          some (w6_s1_0, w6_s1_1, z8)) FU 0 u1.1 u1.2.1 u1.2.2

def f_X0_draw (t0 : zDY) (a0 : Int32) : Option (Int32 × zDY) :=
  (some ((Int64.toInt32 (((1103515245 * (Int32.toInt64 t0.2.2.1)) + 12345) - ((1103515245 * (Int32.toInt64 t0.2.2.1)) + 12345) / 2147483648 * 2147483648)) : Int32)).bind fun z1 =>
    if a0 ≤ 0 then
      some (0, (t0.1, t0.2.1, z1, t0.2.2.2))
    else
      if a0 = 0 then none
      else
        some (((z1 / 65536) - (z1 / 65536) / a0 * a0), (t0.1, t0.2.1, z1, t0.2.2.2))

def lp_X0_drawLetter_26 (v2 : Int32) (K : Int32 → zLT → zRD → Int32 → Int32 → Int32 → Option (zDY)) : Nat → Int32 → zLT → zRD → Int32 → Int32 → Int32 → Option (zDY)
  | 0, _, _, _, _, _, _ => none
  | n + 1, v3, s0_0, s0_1, s0_2, s0_3, s0_4 =>
    if v2 ≤ v3 then
      K v3 s0_0 s0_1 s0_2 s0_3 s0_4
    else
      (f_X0_draw (s0_0, s0_1, s0_2, s0_3, s0_4) 6).bind fun u4 =>
        (f_X3_add u4.2.1 u4.1).bind fun u5 =>
          lp_X0_drawLetter_26 v2 K n (v3 + 1) u5 u4.2.2.1 u4.2.2.2.1 u4.2.2.2.2.1 u4.2.2.2.2.2
def f_X0_drawLetter (t0 : zDY) (a0 : Int32) : Option (zDY) :=
  (f_X3_clear t0.1).bind fun u1 =>
    (f_X0_draw ((u1.1, u1.2.1, a0), t0.2) 9).bind fun u2 =>
      lp_X0_drawLetter_26 (1 + u2.1) (fun w6_v3 w6_s0_0 w6_s0_1 w6_s0_2 w6_s0_3 w6_s0_4 =>
        some (w6_s0_0, w6_s0_1, w6_s0_2, w6_s0_3, w6_s0_4)) FU 0 u2.2.1 u2.2.2.1 u2.2.2.2.1 u2.2.2.2.2.1 u2.2.2.2.2.2

def lp_X0_pass_18 (v1 : Int32) (v4 : Int32) (s1_0 : (Nat → Int32)) (s1_1 : Int32) (K : Int32 → zLT → zRD → Int32 → Int32 → Int32 → Option (zDY)) : Nat → Int32 → zLT → zRD → Int32 → Int32 → Int32 → Option (zDY)
  | 0, _, _, _, _, _, _ => none
  | n + 1, v5, s0_0, s0_1, s0_2, s0_3, s0_4 =>
    if v1 ≤ v5 then
      K v5 s0_0 s0_1 s0_2 s0_3 s0_4
    else
      (f_X0_drawLetter (s0_0, s0_1, s0_2, s0_3, s0_4) v4).bind fun u2 =>
        (f_X0_draw u2 s1_1).bind fun u3 =>
          (f_X4_kindOf (s1_0, s1_1) u3.1).bind fun u4 =>
            (f_X6_readTo u4 u3.2.1 false).bind fun u5 =>
              if (bI u5.2.2.2.2.2) = 0 then
                (some ((u3.2.2.2.2.2 + u5.2.1) : Int32)).bind fun z7 =>
                  lp_X0_pass_18 v1 v4 s1_0 s1_1 K n (v5 + 1) u3.2.1 u5 u3.2.2.2.1 u3.2.2.2.2.1 z7
              else
                (some ((u3.2.2.2.2.1 + 1) : Int32)).bind fun z8 =>
                  (some ((u3.2.2.2.2.2 + u5.2.1) : Int32)).bind fun z9 =>
                    lp_X0_pass_18 v1 v4 s1_0 s1_1 K n (v5 + 1) u3.2.1 u5 u3.2.2.2.1 z8 z9
def f_X0_pass (t0 : zDY) (a0 : Int32) (a1 : Int32) (t1 : zLS) (a3 : Int32) : Option (zDY) :=
  lp_X0_pass_18 a0 a3 t1.1 t1.2 (fun w10_v5 w10_s0_0 w10_s0_1 w10_s0_2 w10_s0_3 w10_s0_4 =>
    some (w10_s0_0, w10_s0_1, w10_s0_2, w10_s0_3, w10_s0_4)) FU 0 t0.1 t0.2.1 a1 0 0

def lp_J7_fill_53178_5 (v1 : Int32) (v3 : Int32) (n0 : Nat) (K : Int32 → (Nat → Int32) → Option ((Nat → Int32))) : Nat → Int32 → (Nat → Int32) → Option ((Nat → Int32))
  | 0, _, _ => none
  | n + 1, v2, s0 =>
    if v3 ≤ v2 then
      K v2 s0
    else
      if v2 < 0 ∨ n0 ≤ Int32.toNatClampNeg v2 then none
      else
        (some (upd s0 (Int32.toNatClampNeg v2) v1)).bind fun z2 =>
          lp_J7_fill_53178_5 v1 v3 n0 K n (v2 + 1) z2
def f_J7_fill_53178 (n0 : Nat) (f0 : (Nat → Int32)) (a1 : Int32) : Option ((Nat → Int32)) :=
  lp_J7_fill_53178_5 a1 (Int32.ofNat n0) n0 (fun w4_v2 w4_s0 =>
    some w4_s0) FU 0 f0

def f_X1_stateOf (t0 : zRD) : Option (Int32) :=
  if (bI t0.2.2.1) = 0 then
    some ((2 * (t0.2.1 + 5)) + 0)
  else
    some ((2 * (t0.2.1 + 5)) + 1)

def f_X1_beginAt (t0 : zEN) (a0 : Int32) : Option (zEN) :=
  (f_X6_begin (-1)).bind fun u1 =>
    (some (((a0 / 2) - 5) : Int32)).bind fun z2 =>
      if (a0 - a0 / 2 * 2) = 1 then
        some (t0.1, t0.2.1, (u1.1, z2, true, u1.2.2.2))
      else
        some (t0.1, t0.2.1, (u1.1, z2, false, u1.2.2.2))

def lp_X1_readUnknownWord_30 (v1 : Int32) (K : Int32 → (Nat → Int32) → (Nat → Int32) → zRD → Option (zEN)) : Nat → Int32 → (Nat → Int32) → (Nat → Int32) → zRD → Option (zEN)
  | 0, _, _, _, _ => none
  | n + 1, v2, s0_0, s0_1, s0_2 =>
    if 6 ≤ v2 then
      K v2 s0_0 s0_1 s0_2
    else
      (f_X1_beginAt (s0_0, s0_1, s0_2) v1).bind fun u6 =>
        (f_X6_hear u6.2.2 v2).bind fun u7 =>
          (f_X1_stateOf u7).bind fun u8 =>
            if u8 < 0 then
              lp_X1_readUnknownWord_30 v1 K n (v2 + 1) u6.1 u6.2.1 u7
            else
              if 22 ≤ u8 then
                lp_X1_readUnknownWord_30 v1 K n (v2 + 1) u6.1 u6.2.1 u7
              else
                if u8 < 0 ∨ 22 ≤ Int32.toNatClampNeg u8 then none
                else
                  if v1 < 0 ∨ 22 ≤ Int32.toNatClampNeg v1 then none
                  else
                    if u8 < 0 ∨ 22 ≤ Int32.toNatClampNeg u8 then none
                    else
                      (some (upd u6.2.1 (Int32.toNatClampNeg u8) ((u6.2.1 (Int32.toNatClampNeg u8)) + (u6.1 (Int32.toNatClampNeg v1))))).bind fun z13 =>
                        lp_X1_readUnknownWord_30 v1 K n (v2 + 1) u6.1 z13 u7
def lp_X1_readUnknownWord_10 (K : Int32 → (Nat → Int32) → (Nat → Int32) → zRD → Option (zEN)) : Nat → Int32 → (Nat → Int32) → (Nat → Int32) → zRD → Option (zEN)
  | 0, _, _, _, _ => none
  | n + 1, v1, s0_0, s0_1, s0_2 =>
    if 22 ≤ v1 then
      K v1 s0_0 s0_1 s0_2
    else
      if v1 < 0 ∨ 22 ≤ Int32.toNatClampNeg v1 then none
      else
        if (s0_0 (Int32.toNatClampNeg v1)) = 0 then
          lp_X1_readUnknownWord_10  K n (v1 + 1) s0_0 s0_1 s0_2
        else
          lp_X1_readUnknownWord_30 v1 (fun w15_v2 w15_s0_0 w15_s0_1 w15_s0_2 =>
            lp_X1_readUnknownWord_10  K n (v1 + 1) w15_s0_0 w15_s0_1 w15_s0_2) FU 0 s0_0 s0_1 s0_2
def f_X1_readUnknownWord (t0 : zEN) : Option (zEN) :=
  (f_J7_fill_53178 22 t0.2.1 0).bind fun u1 =>
    lp_X1_readUnknownWord_10  (fun w16_v1 w16_s0_0 w16_s0_1 w16_s0_2 =>
      (some (va_cpy w16_s0_1 w16_s0_0 0 0 (Int32.toNatClampNeg 22))).bind fun z17 =>
        some (z17, w16_s0_1, w16_s0_2)) FU 0 t0.1 u1 t0.2.2

def lp_X1_howMany_48 (v3 : Int32) (K : Int32 → (Nat → Int32) → (Nat → Int32) → zRD → Option (Int32 × zEN)) : Nat → Int32 → (Nat → Int32) → (Nat → Int32) → zRD → Option (Int32 × zEN)
  | 0, _, _, _, _ => none
  | n + 1, v6, s0_0, s0_1, s0_2 =>
    if v3 ≤ v6 then
      K v6 s0_0 s0_1 s0_2
    else
      (f_X1_readUnknownWord (s0_0, s0_1, s0_2)).bind fun u6 =>
        lp_X1_howMany_48 v3 K n (v6 + 1) u6.1 u6.2.1 u6.2.2
def lp_X1_howMany_104 (s1_0 : (Nat → Int32)) (s1_1 : Int32) (s1_2 : Int32) (K : Int32 → zRD → Option (Int32 × zEN)) : Nat → Int32 → zRD → Option (Int32 × zEN)
  | 0, _, _ => none
  | n + 1, v8, s0_2 =>
    if s1_1 ≤ v8 then
      K v8 s0_2
    else
      (f_X3_wordAt (s1_0, s1_1, s1_2) v8).bind fun u13 =>
        (f_X6_hear s0_2 u13).bind fun u14 =>
          lp_X1_howMany_104 s1_0 s1_1 s1_2 K n (v8 + 1) u14
def lp_X1_howMany_70 (v2 : Int32) (v4 : Int32) (s1_0 : (Nat → Int32)) (s1_1 : Int32) (s1_2 : Int32) (K : Int32 → Int32 → (Nat → Int32) → (Nat → Int32) → zRD → Option (Int32 × zEN)) : Nat → Int32 → Int32 → (Nat → Int32) → (Nat → Int32) → zRD → Option (Int32 × zEN)
  | 0, _, _, _, _, _ => none
  | n + 1, v6, v7, s0_0, s0_1, s0_2 =>
    if 22 ≤ v7 then
      K v6 v7 s0_0 s0_1 s0_2
    else
      if v7 < 0 ∨ 22 ≤ Int32.toNatClampNeg v7 then none
      else
        if (s0_0 (Int32.toNatClampNeg v7)) = 0 then
          lp_X1_howMany_70 v2 v4 s1_0 s1_1 s1_2 K n v6 (v7 + 1) s0_0 s0_1 s0_2
        else
          (f_X1_beginAt (s0_0, s0_1, s0_2) v7).bind fun u11 =>
            lp_X1_howMany_104 s1_0 s1_1 s1_2 (fun w15_v8 w15_s0_2 =>
              if w15_s0_2.2.1 = v4 then
                if v7 < 0 ∨ 22 ≤ Int32.toNatClampNeg v7 then none
                else
                  lp_X1_howMany_70 v2 v4 s1_0 s1_1 s1_2 K n (v6 + (u11.1 (Int32.toNatClampNeg v7))) (v7 + 1) u11.1 u11.2.1 w15_s0_2
              else
                lp_X1_howMany_70 v2 v4 s1_0 s1_1 s1_2 K n v6 (v7 + 1) u11.1 u11.2.1 w15_s0_2) FU (s1_1 - v2) u11.2.2
def f_X1_howMany (t0 : zEN) (t1 : zLT) (a1 : Int32) (a2 : Int32) (a3 : Int32) : Option (Int32 × zEN) :=
  (f_J7_fill_53178 22 t0.1 0).bind fun u1 =>
    (f_X6_begin (-1)).bind fun u2 =>
      (f_X1_stateOf u2).bind fun u3 =>
        if u3 < 0 then
          lp_X1_howMany_48 a2 (fun w7_v6 w7_s0_0 w7_s0_1 w7_s0_2 =>
            lp_X1_howMany_70 a1 a3 t1.1 t1.2.1 t1.2.2 (fun w18_v6 w18_v7 w18_s0_0 w18_s0_1 w18_s0_2 =>
              some (w18_v6, (w18_s0_0, w18_s0_1, w18_s0_2))) FU 0 0 w7_s0_0 w7_s0_1 w7_s0_2) FU a1 u1 t0.2.1 u2
        else
          if 22 ≤ u3 then
            lp_X1_howMany_48 a2 (fun w20_v6 w20_s0_0 w20_s0_1 w20_s0_2 =>
              lp_X1_howMany_70 a1 a3 t1.1 t1.2.1 t1.2.2 (fun w21_v6 w21_v7 w21_s0_0 w21_s0_1 w21_s0_2 =>
                some (w21_v6, (w21_s0_0, w21_s0_1, w21_s0_2))) FU 0 0 w20_s0_0 w20_s0_1 w20_s0_2) FU a1 u1 t0.2.1 u2
          else
            if u3 < 0 ∨ 22 ≤ Int32.toNatClampNeg u3 then none
            else
              (some (upd u1 (Int32.toNatClampNeg u3) 1)).bind fun z22 =>
                lp_X1_howMany_48 a2 (fun w24_v6 w24_s0_0 w24_s0_1 w24_s0_2 =>
                  lp_X1_howMany_70 a1 a3 t1.1 t1.2.1 t1.2.2 (fun w25_v6 w25_v7 w25_s0_0 w25_s0_1 w25_s0_2 =>
                    some (w25_v6, (w25_s0_0, w25_s0_1, w25_s0_2))) FU 0 0 w24_s0_0 w24_s0_1 w24_s0_2) FU a1 z22 t0.2.1 u2

def f_X8_canReachTop (t0 : zWR) (a0 : Int32) (a1 : Int32) : Option (Bool) :=
  if (t0.1.2.1 - a1) < (if 0 ≤ ((if 0 ≤ t0.2.2.2.2.2 then t0.2.2.2.2.2 else 0 - t0.2.2.2.2.2) - (if 0 ≤ a0 then a0 else 0 - a0)) then ((if 0 ≤ t0.2.2.2.2.2 then t0.2.2.2.2.2 else 0 - t0.2.2.2.2.2) - (if 0 ≤ a0 then a0 else 0 - a0)) else 0 - ((if 0 ≤ t0.2.2.2.2.2 then t0.2.2.2.2.2 else 0 - t0.2.2.2.2.2) - (if 0 ≤ a0 then a0 else 0 - a0))) then
    some false
  else
    some true

def f_X8_fits (t0 : zWR) : Option (Bool × zWR) :=
  if t0.1.2.1 < 0 then
    some (false, t0)
  else
    if t0.1.2.1 < (Int32.ofNat 6) then
      if t0.1.2.1 < 0 ∨ 6 ≤ Int32.toNatClampNeg t0.1.2.1 then none
      else
        if t0.1.2.1 = 0 then
          if (t0.2.2.1 0).2.1 = t0.2.2.2.2.2 then
            (f_X6_begin t0.2.2.2.1).bind fun u6 =>
              if t0.2.2.2.1 = 2 then
                (f_X6_hearSome u6 t0.1 t0.1.2.1 true).bind fun u11 =>
                  if (bI u11.2.2.2.2.2) = 0 then
                    if u11.2.1 = t0.2.2.2.2.1 then
                      some (true, (t0.1, u11, t0.2.2))
                    else
                      some (false, (t0.1, u11, t0.2.2))
                  else
                    some (false, (t0.1, u11, t0.2.2))
              else
                (f_X6_hearSome u6 t0.1 t0.1.2.1 false).bind fun u8 =>
                  if (bI u8.2.2.2.2.2) = 0 then
                    if u8.2.1 = t0.2.2.2.2.1 then
                      some (true, (t0.1, u8, t0.2.2))
                    else
                      some (false, (t0.1, u8, t0.2.2))
                  else
                    some (false, (t0.1, u8, t0.2.2))
          else
            some (false, t0)
        else
          if t0.1.2.1 = 1 then
            if (t0.2.2.1 1).2.1 = t0.2.2.2.2.2 then
              (f_X6_begin t0.2.2.2.1).bind fun u16 =>
                if t0.2.2.2.1 = 2 then
                  (f_X6_hearSome u16 t0.1 t0.1.2.1 true).bind fun u21 =>
                    if (bI u21.2.2.2.2.2) = 0 then
                      if u21.2.1 = t0.2.2.2.2.1 then
                        some (true, (t0.1, u21, t0.2.2))
                      else
                        some (false, (t0.1, u21, t0.2.2))
                    else
                      some (false, (t0.1, u21, t0.2.2))
                else
                  (f_X6_hearSome u16 t0.1 t0.1.2.1 false).bind fun u18 =>
                    if (bI u18.2.2.2.2.2) = 0 then
                      if u18.2.1 = t0.2.2.2.2.1 then
                        some (true, (t0.1, u18, t0.2.2))
                      else
                        some (false, (t0.1, u18, t0.2.2))
                    else
                      some (false, (t0.1, u18, t0.2.2))
            else
              some (false, t0)
          else
            if t0.1.2.1 = 2 then
              if (t0.2.2.1 2).2.1 = t0.2.2.2.2.2 then
                (f_X6_begin t0.2.2.2.1).bind fun u26 =>
                  if t0.2.2.2.1 = 2 then
                    (f_X6_hearSome u26 t0.1 t0.1.2.1 true).bind fun u31 =>
                      if (bI u31.2.2.2.2.2) = 0 then
                        if u31.2.1 = t0.2.2.2.2.1 then
                          some (true, (t0.1, u31, t0.2.2))
                        else
                          some (false, (t0.1, u31, t0.2.2))
                      else
                        some (false, (t0.1, u31, t0.2.2))
                  else
                    (f_X6_hearSome u26 t0.1 t0.1.2.1 false).bind fun u28 =>
                      if (bI u28.2.2.2.2.2) = 0 then
                        if u28.2.1 = t0.2.2.2.2.1 then
                          some (true, (t0.1, u28, t0.2.2))
                        else
                          some (false, (t0.1, u28, t0.2.2))
                      else
                        some (false, (t0.1, u28, t0.2.2))
              else
                some (false, t0)
            else
              if t0.1.2.1 = 3 then
                if (t0.2.2.1 3).2.1 = t0.2.2.2.2.2 then
                  (f_X6_begin t0.2.2.2.1).bind fun u36 =>
                    if t0.2.2.2.1 = 2 then
                      (f_X6_hearSome u36 t0.1 t0.1.2.1 true).bind fun u41 =>
                        if (bI u41.2.2.2.2.2) = 0 then
                          if u41.2.1 = t0.2.2.2.2.1 then
                            some (true, (t0.1, u41, t0.2.2))
                          else
                            some (false, (t0.1, u41, t0.2.2))
                        else
                          some (false, (t0.1, u41, t0.2.2))
                    else
                      (f_X6_hearSome u36 t0.1 t0.1.2.1 false).bind fun u38 =>
                        if (bI u38.2.2.2.2.2) = 0 then
                          if u38.2.1 = t0.2.2.2.2.1 then
                            some (true, (t0.1, u38, t0.2.2))
                          else
                            some (false, (t0.1, u38, t0.2.2))
                        else
                          some (false, (t0.1, u38, t0.2.2))
                else
                  some (false, t0)
              else
                if t0.1.2.1 = 4 then
                  if (t0.2.2.1 4).2.1 = t0.2.2.2.2.2 then
                    (f_X6_begin t0.2.2.2.1).bind fun u46 =>
                      if t0.2.2.2.1 = 2 then
                        (f_X6_hearSome u46 t0.1 t0.1.2.1 true).bind fun u51 =>
                          if (bI u51.2.2.2.2.2) = 0 then
                            if u51.2.1 = t0.2.2.2.2.1 then
                              some (true, (t0.1, u51, t0.2.2))
                            else
                              some (false, (t0.1, u51, t0.2.2))
                          else
                            some (false, (t0.1, u51, t0.2.2))
                      else
                        (f_X6_hearSome u46 t0.1 t0.1.2.1 false).bind fun u48 =>
                          if (bI u48.2.2.2.2.2) = 0 then
                            if u48.2.1 = t0.2.2.2.2.1 then
                              some (true, (t0.1, u48, t0.2.2))
                            else
                              some (false, (t0.1, u48, t0.2.2))
                          else
                            some (false, (t0.1, u48, t0.2.2))
                  else
                    some (false, t0)
                else
                  if t0.1.2.1 = 5 then
                    if (t0.2.2.1 5).2.1 = t0.2.2.2.2.2 then
                      (f_X6_begin t0.2.2.2.1).bind fun u56 =>
                        if t0.2.2.2.1 = 2 then
                          (f_X6_hearSome u56 t0.1 t0.1.2.1 true).bind fun u61 =>
                            if (bI u61.2.2.2.2.2) = 0 then
                              if u61.2.1 = t0.2.2.2.2.1 then
                                some (true, (t0.1, u61, t0.2.2))
                              else
                                some (false, (t0.1, u61, t0.2.2))
                            else
                              some (false, (t0.1, u61, t0.2.2))
                        else
                          (f_X6_hearSome u56 t0.1 t0.1.2.1 false).bind fun u58 =>
                            if (bI u58.2.2.2.2.2) = 0 then
                              if u58.2.1 = t0.2.2.2.2.1 then
                                some (true, (t0.1, u58, t0.2.2))
                              else
                                some (false, (t0.1, u58, t0.2.2))
                            else
                              some (false, (t0.1, u58, t0.2.2))
                    else
                      some (false, t0)
                  else
                    none
    else
      some (false, t0)

def f_X8_fillFrom_5 (t0 : zWR) : Option (Bool × zWR) :=
  if 5 < t0.1.2.1 then
    some (false, t0)
  else
    (f_X8_fits t0).bind fun u5 =>
      some u5

def lp_X8_fillFrom_4_62 (K : Int32 → zLT → zRD → (Nat → zRD) → Int32 → Int32 → Int32 → Option (Bool × zWR)) : Nat → Int32 → zLT → zRD → (Nat → zRD) → Int32 → Int32 → Int32 → Option (Bool × zWR)
  | 0, _, _, _, _, _, _, _ => none
  | n + 1, v4, s0_0, s0_1, s0_2, s0_3, s0_4, s0_5 =>
    if 6 ≤ v4 then
      K v4 s0_0 s0_1 s0_2 s0_3 s0_4 s0_5
    else
      (f_X6_copy (s0_2 4)).bind fun u7 =>
        (f_X6_hear u7 v4).bind fun u8 =>
          if (bI u8.2.2.2.2.2) = 0 then
            (f_X8_canReachTop (s0_0, s0_1, (va_up s0_2 5 u8), s0_3, s0_4, s0_5) u8.2.1 5).bind fun u11 =>
              if (bI u11) = 0 then
                lp_X8_fillFrom_4_62  K n (v4 + 1) s0_0 s0_1 (va_up s0_2 5 u8) s0_3 s0_4 s0_5
              else
                (f_X3_put s0_0 4 v4).bind fun u13 =>
                  (f_X8_fillFrom_5 (u13, s0_1, (va_up s0_2 5 u8), s0_3, s0_4, s0_5)).bind fun u15 =>
                    if (bI u15.1) = 0 then
                      lp_X8_fillFrom_4_62  K n (v4 + 1) u15.2.1 u15.2.2.1 u15.2.2.2.1 u15.2.2.2.2.1 u15.2.2.2.2.2.1 u15.2.2.2.2.2.2
                    else
                      some (true, u15.2)
          else
            lp_X8_fillFrom_4_62  K n (v4 + 1) s0_0 s0_1 (va_up s0_2 5 u8) s0_3 s0_4 s0_5
def f_X8_fillFrom_4 (t0 : zWR) : Option (Bool × zWR) :=
  if 4 < t0.1.2.1 then
    lp_X8_fillFrom_4_62  (fun w17_v4 w17_s0_0 w17_s0_1 w17_s0_2 w17_s0_3 w17_s0_4 w17_s0_5 =>
      some (false, (w17_s0_0, w17_s0_1, w17_s0_2, w17_s0_3, w17_s0_4, w17_s0_5))) FU 0 t0.1 t0.2.1 t0.2.2.1 t0.2.2.2.1 t0.2.2.2.2.1 t0.2.2.2.2.2
  else
    (f_X8_fits t0).bind fun u18 =>
      some u18

def lp_X8_fillFrom_3_62 (K : Int32 → zLT → zRD → (Nat → zRD) → Int32 → Int32 → Int32 → Option (Bool × zWR)) : Nat → Int32 → zLT → zRD → (Nat → zRD) → Int32 → Int32 → Int32 → Option (Bool × zWR)
  | 0, _, _, _, _, _, _, _ => none
  | n + 1, v4, s0_0, s0_1, s0_2, s0_3, s0_4, s0_5 =>
    if 6 ≤ v4 then
      K v4 s0_0 s0_1 s0_2 s0_3 s0_4 s0_5
    else
      (f_X6_copy (s0_2 3)).bind fun u7 =>
        (f_X6_hear u7 v4).bind fun u8 =>
          if (bI u8.2.2.2.2.2) = 0 then
            (f_X8_canReachTop (s0_0, s0_1, (va_up s0_2 4 u8), s0_3, s0_4, s0_5) u8.2.1 4).bind fun u11 =>
              if (bI u11) = 0 then
                lp_X8_fillFrom_3_62  K n (v4 + 1) s0_0 s0_1 (va_up s0_2 4 u8) s0_3 s0_4 s0_5
              else
                (f_X3_put s0_0 3 v4).bind fun u13 =>
                  (f_X8_fillFrom_4 (u13, s0_1, (va_up s0_2 4 u8), s0_3, s0_4, s0_5)).bind fun u15 =>
                    if (bI u15.1) = 0 then
                      lp_X8_fillFrom_3_62  K n (v4 + 1) u15.2.1 u15.2.2.1 u15.2.2.2.1 u15.2.2.2.2.1 u15.2.2.2.2.2.1 u15.2.2.2.2.2.2
                    else
                      some (true, u15.2)
          else
            lp_X8_fillFrom_3_62  K n (v4 + 1) s0_0 s0_1 (va_up s0_2 4 u8) s0_3 s0_4 s0_5
def f_X8_fillFrom_3 (t0 : zWR) : Option (Bool × zWR) :=
  if 3 < t0.1.2.1 then
    lp_X8_fillFrom_3_62  (fun w17_v4 w17_s0_0 w17_s0_1 w17_s0_2 w17_s0_3 w17_s0_4 w17_s0_5 =>
      some (false, (w17_s0_0, w17_s0_1, w17_s0_2, w17_s0_3, w17_s0_4, w17_s0_5))) FU 0 t0.1 t0.2.1 t0.2.2.1 t0.2.2.2.1 t0.2.2.2.2.1 t0.2.2.2.2.2
  else
    (f_X8_fits t0).bind fun u18 =>
      some u18

def lp_X8_fillFrom_2_62 (K : Int32 → zLT → zRD → (Nat → zRD) → Int32 → Int32 → Int32 → Option (Bool × zWR)) : Nat → Int32 → zLT → zRD → (Nat → zRD) → Int32 → Int32 → Int32 → Option (Bool × zWR)
  | 0, _, _, _, _, _, _, _ => none
  | n + 1, v4, s0_0, s0_1, s0_2, s0_3, s0_4, s0_5 =>
    if 6 ≤ v4 then
      K v4 s0_0 s0_1 s0_2 s0_3 s0_4 s0_5
    else
      (f_X6_copy (s0_2 2)).bind fun u7 =>
        (f_X6_hear u7 v4).bind fun u8 =>
          if (bI u8.2.2.2.2.2) = 0 then
            (f_X8_canReachTop (s0_0, s0_1, (va_up s0_2 3 u8), s0_3, s0_4, s0_5) u8.2.1 3).bind fun u11 =>
              if (bI u11) = 0 then
                lp_X8_fillFrom_2_62  K n (v4 + 1) s0_0 s0_1 (va_up s0_2 3 u8) s0_3 s0_4 s0_5
              else
                (f_X3_put s0_0 2 v4).bind fun u13 =>
                  (f_X8_fillFrom_3 (u13, s0_1, (va_up s0_2 3 u8), s0_3, s0_4, s0_5)).bind fun u15 =>
                    if (bI u15.1) = 0 then
                      lp_X8_fillFrom_2_62  K n (v4 + 1) u15.2.1 u15.2.2.1 u15.2.2.2.1 u15.2.2.2.2.1 u15.2.2.2.2.2.1 u15.2.2.2.2.2.2
                    else
                      some (true, u15.2)
          else
            lp_X8_fillFrom_2_62  K n (v4 + 1) s0_0 s0_1 (va_up s0_2 3 u8) s0_3 s0_4 s0_5
def f_X8_fillFrom_2 (t0 : zWR) : Option (Bool × zWR) :=
  if 2 < t0.1.2.1 then
    lp_X8_fillFrom_2_62  (fun w17_v4 w17_s0_0 w17_s0_1 w17_s0_2 w17_s0_3 w17_s0_4 w17_s0_5 =>
      some (false, (w17_s0_0, w17_s0_1, w17_s0_2, w17_s0_3, w17_s0_4, w17_s0_5))) FU 0 t0.1 t0.2.1 t0.2.2.1 t0.2.2.2.1 t0.2.2.2.2.1 t0.2.2.2.2.2
  else
    (f_X8_fits t0).bind fun u18 =>
      some u18

def lp_X8_fillFrom_1_62 (K : Int32 → zLT → zRD → (Nat → zRD) → Int32 → Int32 → Int32 → Option (Bool × zWR)) : Nat → Int32 → zLT → zRD → (Nat → zRD) → Int32 → Int32 → Int32 → Option (Bool × zWR)
  | 0, _, _, _, _, _, _, _ => none
  | n + 1, v4, s0_0, s0_1, s0_2, s0_3, s0_4, s0_5 =>
    if 6 ≤ v4 then
      K v4 s0_0 s0_1 s0_2 s0_3 s0_4 s0_5
    else
      (f_X6_copy (s0_2 1)).bind fun u7 =>
        (f_X6_hear u7 v4).bind fun u8 =>
          if (bI u8.2.2.2.2.2) = 0 then
            (f_X8_canReachTop (s0_0, s0_1, (va_up s0_2 2 u8), s0_3, s0_4, s0_5) u8.2.1 2).bind fun u11 =>
              if (bI u11) = 0 then
                lp_X8_fillFrom_1_62  K n (v4 + 1) s0_0 s0_1 (va_up s0_2 2 u8) s0_3 s0_4 s0_5
              else
                (f_X3_put s0_0 1 v4).bind fun u13 =>
                  (f_X8_fillFrom_2 (u13, s0_1, (va_up s0_2 2 u8), s0_3, s0_4, s0_5)).bind fun u15 =>
                    if (bI u15.1) = 0 then
                      lp_X8_fillFrom_1_62  K n (v4 + 1) u15.2.1 u15.2.2.1 u15.2.2.2.1 u15.2.2.2.2.1 u15.2.2.2.2.2.1 u15.2.2.2.2.2.2
                    else
                      some (true, u15.2)
          else
            lp_X8_fillFrom_1_62  K n (v4 + 1) s0_0 s0_1 (va_up s0_2 2 u8) s0_3 s0_4 s0_5
def f_X8_fillFrom_1 (t0 : zWR) : Option (Bool × zWR) :=
  if 1 < t0.1.2.1 then
    lp_X8_fillFrom_1_62  (fun w17_v4 w17_s0_0 w17_s0_1 w17_s0_2 w17_s0_3 w17_s0_4 w17_s0_5 =>
      some (false, (w17_s0_0, w17_s0_1, w17_s0_2, w17_s0_3, w17_s0_4, w17_s0_5))) FU 0 t0.1 t0.2.1 t0.2.2.1 t0.2.2.2.1 t0.2.2.2.2.1 t0.2.2.2.2.2
  else
    (f_X8_fits t0).bind fun u18 =>
      some u18

def lp_X8_fillFrom_0_62 (K : Int32 → zLT → zRD → (Nat → zRD) → Int32 → Int32 → Int32 → Option (Bool × zWR)) : Nat → Int32 → zLT → zRD → (Nat → zRD) → Int32 → Int32 → Int32 → Option (Bool × zWR)
  | 0, _, _, _, _, _, _, _ => none
  | n + 1, v4, s0_0, s0_1, s0_2, s0_3, s0_4, s0_5 =>
    if 6 ≤ v4 then
      K v4 s0_0 s0_1 s0_2 s0_3 s0_4 s0_5
    else
      (f_X6_copy (s0_2 0)).bind fun u7 =>
        (f_X6_hear u7 v4).bind fun u8 =>
          if (bI u8.2.2.2.2.2) = 0 then
            (f_X8_canReachTop (s0_0, s0_1, (va_up s0_2 1 u8), s0_3, s0_4, s0_5) u8.2.1 1).bind fun u11 =>
              if (bI u11) = 0 then
                lp_X8_fillFrom_0_62  K n (v4 + 1) s0_0 s0_1 (va_up s0_2 1 u8) s0_3 s0_4 s0_5
              else
                (f_X3_put s0_0 0 v4).bind fun u13 =>
                  (f_X8_fillFrom_1 (u13, s0_1, (va_up s0_2 1 u8), s0_3, s0_4, s0_5)).bind fun u15 =>
                    if (bI u15.1) = 0 then
                      lp_X8_fillFrom_0_62  K n (v4 + 1) u15.2.1 u15.2.2.1 u15.2.2.2.1 u15.2.2.2.2.1 u15.2.2.2.2.2.1 u15.2.2.2.2.2.2
                    else
                      some (true, u15.2)
          else
            lp_X8_fillFrom_0_62  K n (v4 + 1) s0_0 s0_1 (va_up s0_2 1 u8) s0_3 s0_4 s0_5
def f_X8_fillFrom_0 (t0 : zWR) : Option (Bool × zWR) :=
  if 0 < t0.1.2.1 then
    lp_X8_fillFrom_0_62  (fun w17_v4 w17_s0_0 w17_s0_1 w17_s0_2 w17_s0_3 w17_s0_4 w17_s0_5 =>
      some (false, (w17_s0_0, w17_s0_1, w17_s0_2, w17_s0_3, w17_s0_4, w17_s0_5))) FU 0 t0.1 t0.2.1 t0.2.2.1 t0.2.2.2.1 t0.2.2.2.2.1 t0.2.2.2.2.2
  else
    (f_X8_fits t0).bind fun u18 =>
      some u18

def lp_X8_find_25 (K : Int32 → zLT → zRD → (Nat → zRD) → Int32 → Int32 → Int32 → Option (Bool × zWR)) : Nat → Int32 → zLT → zRD → (Nat → zRD) → Int32 → Int32 → Int32 → Option (Bool × zWR)
  | 0, _, _, _, _, _, _, _ => none
  | n + 1, v4, s0_0, s0_1, s0_2, s0_3, s0_4, s0_5 =>
    if 5 < v4 then
      K v4 s0_0 s0_1 s0_2 s0_3 s0_4 s0_5
    else
      (f_X3_add s0_0 0).bind fun u3 =>
        (f_X6_begin s0_3).bind fun u4 =>
          (f_X8_fillFrom_0 (u3, s0_1, (va_up s0_2 0 u4), s0_3, s0_4, s0_5)).bind fun u5 =>
            if (bI u5.1) = 0 then
              lp_X8_find_25  K n (v4 + 1) u5.2.1 u5.2.2.1 u5.2.2.2.1 u5.2.2.2.2.1 u5.2.2.2.2.2.1 u5.2.2.2.2.2.2
            else
              some (true, u5.2)
def f_X8_find (t0 : zWR) (a0 : Int32) (a1 : Int32) (a2 : Int32) : Option (Bool × zWR) :=
  (f_X3_clear t0.1).bind fun u1 =>
    lp_X8_find_25  (fun w7_v4 w7_s0_0 w7_s0_1 w7_s0_2 w7_s0_3 w7_s0_4 w7_s0_5 =>
      some (false, (w7_s0_0, w7_s0_1, w7_s0_2, w7_s0_3, w7_s0_4, w7_s0_5))) FU 1 u1 t0.2.1 t0.2.2.1 a0 a1 a2

def f_X9_isWord (a0 : Int32) : Option (Bool) :=
  if a0 < 0 then
    some false
  else
    if 6 ≤ a0 then
      some false
    else
      some true

def f_X9_isKind (a0 : Int32) : Option (Bool) :=
  if a0 < 0 then
    some false
  else
    if 5 ≤ a0 then
      some false
    else
      some true

def f_X9_isWrittenValue (a0 : Int32) : Option (Bool) :=
  if a0 < (-3) then
    some false
  else
    if 3 < a0 then
      some false
    else
      some true

def f_X9_isSuch (a0 : Int32) (a1 : Int32) : Option (Bool) :=
  if a0 = a1 then
    some true
  else
    if a1 = 0 then
      some true
    else
      if a0 = 4 then
        if a1 = 1 then
          some true
        else
          some false
      else
        some false

def f_X9_noLetter (t0 : zXS) : Option (Bool) :=
  if t0.2.1.2.1 = 0 then
    some true
  else
    some false

def f_X9_letter (t0 : zXS) (a0 : Int32) : Option (Int32 × zXS) :=
  if a0 < 1 then
    some ((-102), t0)
  else
    if a0 ≤ 126 then
      if t0.1.2 < 12 then
        (f_X5_add t0.1 a0).bind fun u4 =>
          some (u4.2, (u4, t0.2))
      else
        some ((-104), t0)
    else
      some ((-102), t0)

def f_X9_blank (t0 : zXS) : Option (Int32 × zXS) :=
  (f_X5_clear t0.1).bind fun u1 =>
    some (t0.1.2, (u1, t0.2))

def f_X9_fault (t0 : zXS) : Option (Int32) :=
  (f_X5_firstFault t0.1).bind fun u1 =>
    some u1

def f_X9_take (t0 : zXS) : Option (Int32 × zXS) :=
  (f_X5_isLetter t0.1).bind fun u1 =>
    if (bI u1) = 0 then
      some ((-103), t0)
    else
      (f_X5_copyTo t0.1 t0.2.1).bind fun u3 =>
        (f_X5_clear t0.1).bind fun u4 =>
          (f_X7_clear t0.2.2.2.1).bind fun u5 =>
            (some ((t0.2.2.2.2.2.2.2.2.2.2.2.1 + 1) : Int32)).bind fun z6 =>
              some (u3.2.1, (u4, u3, (t0.2.2.1.1, 0), u5, (t0.2.2.2.2.1.1, t0.2.2.2.2.1.2.1, t0.2.2.2.2.1.2.2.1, t0.2.2.2.2.1.2.2.2.1, false), t0.2.2.2.2.2.1, t0.2.2.2.2.2.2.1, t0.2.2.2.2.2.2.2.1, t0.2.2.2.2.2.2.2.2.1, t0.2.2.2.2.2.2.2.2.2.1, 0, z6, t0.2.2.2.2.2.2.2.2.2.2.2.2))

def f_X9_word (t0 : zXS) (a0 : Int32) (a1 : Int32) : Option (Int32 × zXS) :=
  (f_X3_has t0.2.1 a0).bind fun u1 =>
    if (bI u1) = 0 then
      some ((-101), t0)
    else
      if a1 < 0 then
        some ((-102), t0)
      else
        if a1 ≤ 2 then
          if a1 = 0 then
            (f_X3_wordAt t0.2.1 a0).bind fun u13 =>
              some (u13, t0)
          else
            if a1 = 2 then
              (f_X6_begin (-1)).bind fun u10 =>
                (f_X6_hearSome u10 t0.2.1 (a0 + 1) true).bind fun u12 =>
                  some ((u12.2.1 + 100), (t0.1, t0.2.1, t0.2.2.1, t0.2.2.2.1, t0.2.2.2.2.1, u12, t0.2.2.2.2.2.2))
            else
              (f_X6_begin (-1)).bind fun u7 =>
                (f_X6_hearSome u7 t0.2.1 (t0.2.1.2.1 - a0) false).bind fun u9 =>
                  some ((u9.2.1 + 100), (t0.1, t0.2.1, t0.2.2.1, t0.2.2.2.1, t0.2.2.2.2.1, u9, t0.2.2.2.2.2.2))
        else
          some ((-102), t0)

def f_X9_change (t0 : zXS) (a0 : Int32) (a1 : Int32) : Option (Int32 × zXS) :=
  (f_X3_has t0.2.1 a0).bind fun u1 =>
    if (bI u1) = 0 then
      some ((-101), t0)
    else
      (f_X9_isWord a1).bind fun u3 =>
        if (bI u3) = 0 then
          some ((-102), t0)
        else
          (f_X3_wordAt t0.2.1 a0).bind fun u5 =>
            (f_X3_put t0.2.1 a0 a1).bind fun u6 =>
              (some ((t0.2.2.2.2.2.2.2.2.2.2.1 + 1) : Int32)).bind fun z7 =>
                some (u5, (t0.1, u6, t0.2.2.1, t0.2.2.2.1, t0.2.2.2.2.1, t0.2.2.2.2.2.1, t0.2.2.2.2.2.2.1, t0.2.2.2.2.2.2.2.1, t0.2.2.2.2.2.2.2.2.1, t0.2.2.2.2.2.2.2.2.2.1, z7, t0.2.2.2.2.2.2.2.2.2.2.2))

def f_X9_snow (t0 : zXS) (a0 : Int32) : Option (Int32 × zXS) :=
  if a0 < 1 then
    some ((-102), t0)
  else
    if a0 ≤ 9 then
      (f_X9_noLetter t0).bind fun u3 =>
        if (bI u3) = 0 then
          some (t0.2.1.2.2, (t0.1, (t0.2.1.1, t0.2.1.2.1, a0), t0.2.2))
        else
          some ((-103), t0)
    else
      some ((-102), t0)

def f_X9_listener (t0 : zXS) (a0 : Int32) : Option (Int32 × zXS) :=
  (f_X9_isKind a0).bind fun u1 =>
    if (bI u1) = 0 then
      some ((-102), t0)
    else
      (f_X9_noLetter t0).bind fun u3 =>
        if (bI u3) = 0 then
          if t0.2.2.1.2 < 4 then
            (f_X4_add t0.2.2.1 a0).bind fun u6 =>
              some ((u6.2 - 1), (t0.1, t0.2.1, u6, t0.2.2.2))
          else
            some ((-104), t0)
        else
          some ((-103), t0)

def f_X9_about (t0 : zXS) (a0 : Int32) (a1 : Int32) : Option (Int32 × zXS) :=
  (f_X4_has t0.2.2.1 a0).bind fun u1 =>
    if (bI u1) = 0 then
      some ((-101), t0)
    else
      if a1 < 0 then
        some ((-102), t0)
      else
        if a1 ≤ 6 then
          (f_X4_kindOf t0.2.2.1 a0).bind fun u5 =>
            if a1 = 0 then
              some (u5, t0)
            else
              if a1 ≤ 3 then
                (f_X6_readTo u5 t0.2.1 false).bind fun u8 =>
                  if a1 = 1 then
                    some (u8.2.2.2.2.1, (t0.1, t0.2.1, t0.2.2.1, t0.2.2.2.1, t0.2.2.2.2.1, u8, t0.2.2.2.2.2.2))
                  else
                    if a1 = 2 then
                      some ((u8.2.1 + 100), (t0.1, t0.2.1, t0.2.2.1, t0.2.2.2.1, t0.2.2.2.2.1, u8, t0.2.2.2.2.2.2))
                    else
                      if (bI u8.2.2.2.2.2) = 0 then
                        some (0, (t0.1, t0.2.1, t0.2.2.1, t0.2.2.2.1, t0.2.2.2.2.1, u8, t0.2.2.2.2.2.2))
                      else
                        some (1, (t0.1, t0.2.1, t0.2.2.1, t0.2.2.2.1, t0.2.2.2.2.1, u8, t0.2.2.2.2.2.2))
              else
                (f_X6_readTo u5 t0.2.1 true).bind fun u13 =>
                  if (a1 - 3) = 1 then
                    some (u13.2.2.2.2.1, (t0.1, t0.2.1, t0.2.2.1, t0.2.2.2.1, t0.2.2.2.2.1, u13, t0.2.2.2.2.2.2))
                  else
                    if (a1 - 3) = 2 then
                      some ((u13.2.1 + 100), (t0.1, t0.2.1, t0.2.2.1, t0.2.2.2.1, t0.2.2.2.2.1, u13, t0.2.2.2.2.2.2))
                    else
                      if (bI u13.2.2.2.2.2) = 0 then
                        some (0, (t0.1, t0.2.1, t0.2.2.1, t0.2.2.2.1, t0.2.2.2.2.1, u13, t0.2.2.2.2.2.2))
                      else
                        some (1, (t0.1, t0.2.1, t0.2.2.1, t0.2.2.2.1, t0.2.2.2.2.1, u13, t0.2.2.2.2.2.2))
        else
          some ((-102), t0)

def f_X9_as (t0 : zXS) (a0 : Int32) (a1 : Int32) : Option (Int32) :=
  (f_X4_has t0.2.2.1 a0).bind fun u1 =>
    if (bI u1) = 0 then
      some (-101)
    else
      (f_X9_isKind a1).bind fun u3 =>
        if (bI u3) = 0 then
          some (-102)
        else
          (f_X4_kindOf t0.2.2.1 a0).bind fun u5 =>
            (f_X9_isSuch u5 a1).bind fun u6 =>
              if (bI u6) = 0 then
                some (-1)
              else
                some a0

def f_X9_write (t0 : zXS) (a0 : Int32) (a1 : Int32) (a2 : Int32) (a3 : Int32) : Option (Int32 × zXS) :=
  (f_X9_isKind a0).bind fun u1 =>
    if (bI u1) = 0 then
      some ((-102), t0)
    else
      (f_X9_isWrittenValue a1).bind fun u3 =>
        if (bI u3) = 0 then
          some ((-102), t0)
        else
          (f_X9_isWrittenValue a2).bind fun u5 =>
            if (bI u5) = 0 then
              some ((-102), t0)
            else
              if a3 < 10 then
                if a3 = 0 then
                  if t0.2.2.2.2.2.2.2.2.2.2.2.2 < 20 then
                    (some ((t0.2.2.2.2.2.2.2.2.2.2.2.2 + 1) : Int32)).bind fun z10 =>
                      (f_X8_find t0.2.2.2.2.2.2.1 a0 a1 a2).bind fun u11 =>
                        if (bI u11.1) = 0 then
                          some ((-1), (t0.1, t0.2.1, t0.2.2.1, t0.2.2.2.1, t0.2.2.2.2.1, t0.2.2.2.2.2.1, u11.2, t0.2.2.2.2.2.2.2.1, t0.2.2.2.2.2.2.2.2.1, t0.2.2.2.2.2.2.2.2.2.1, t0.2.2.2.2.2.2.2.2.2.2.1, t0.2.2.2.2.2.2.2.2.2.2.2.1, z10))
                        else
                          some (u11.2.1.2.1, (t0.1, t0.2.1, t0.2.2.1, t0.2.2.2.1, t0.2.2.2.2.1, t0.2.2.2.2.2.1, u11.2, t0.2.2.2.2.2.2.2.1, t0.2.2.2.2.2.2.2.2.1, t0.2.2.2.2.2.2.2.2.2.1, t0.2.2.2.2.2.2.2.2.2.2.1, t0.2.2.2.2.2.2.2.2.2.2.2.1, z10))
                  else
                    some ((-103), t0)
                else
                  some ((-102), t0)
              else
                if 5 ≤ (a3 - 10) then
                  if a3 = 0 then
                    if t0.2.2.2.2.2.2.2.2.2.2.2.2 < 20 then
                      (some ((t0.2.2.2.2.2.2.2.2.2.2.2.2 + 1) : Int32)).bind fun z18 =>
                        (f_X8_find t0.2.2.2.2.2.2.1 a0 a1 a2).bind fun u19 =>
                          if (bI u19.1) = 0 then
                            some ((-1), (t0.1, t0.2.1, t0.2.2.1, t0.2.2.2.1, t0.2.2.2.2.1, t0.2.2.2.2.2.1, u19.2, t0.2.2.2.2.2.2.2.1, t0.2.2.2.2.2.2.2.2.1, t0.2.2.2.2.2.2.2.2.2.1, t0.2.2.2.2.2.2.2.2.2.2.1, t0.2.2.2.2.2.2.2.2.2.2.2.1, z18))
                          else
                            some (u19.2.1.2.1, (t0.1, t0.2.1, t0.2.2.1, t0.2.2.2.1, t0.2.2.2.2.1, t0.2.2.2.2.2.1, u19.2, t0.2.2.2.2.2.2.2.1, t0.2.2.2.2.2.2.2.2.1, t0.2.2.2.2.2.2.2.2.2.1, t0.2.2.2.2.2.2.2.2.2.2.1, t0.2.2.2.2.2.2.2.2.2.2.2.1, z18))
                    else
                      some ((-103), t0)
                  else
                    some ((-102), t0)
                else
                  if a3 = 0 then
                    if t0.2.2.2.2.2.2.2.2.2.2.2.2 < 20 then
                      (some ((t0.2.2.2.2.2.2.2.2.2.2.2.2 + 1) : Int32)).bind fun z25 =>
                        (f_X8_find t0.2.2.2.2.2.2.1 a0 a1 a2).bind fun u26 =>
                          if (bI u26.1) = 0 then
                            some ((-1), (t0.1, t0.2.1, t0.2.2.1, t0.2.2.2.1, t0.2.2.2.2.1, t0.2.2.2.2.2.1, u26.2, t0.2.2.2.2.2.2.2.1, t0.2.2.2.2.2.2.2.2.1, t0.2.2.2.2.2.2.2.2.2.1, t0.2.2.2.2.2.2.2.2.2.2.1, t0.2.2.2.2.2.2.2.2.2.2.2.1, z25))
                          else
                            (f_X3_wordAt u26.2.1 (a3 - 10)).bind fun u29 =>
                              some (u29, (t0.1, t0.2.1, t0.2.2.1, t0.2.2.2.1, t0.2.2.2.2.1, t0.2.2.2.2.2.1, u26.2, t0.2.2.2.2.2.2.2.1, t0.2.2.2.2.2.2.2.2.1, t0.2.2.2.2.2.2.2.2.2.1, t0.2.2.2.2.2.2.2.2.2.2.1, t0.2.2.2.2.2.2.2.2.2.2.2.1, z25))
                    else
                      some ((-103), t0)
                  else
                    if t0.2.2.2.2.2.2.2.2.2.2.2.2 < 20 then
                      (some ((t0.2.2.2.2.2.2.2.2.2.2.2.2 + 1) : Int32)).bind fun z32 =>
                        (f_X8_find t0.2.2.2.2.2.2.1 a0 a1 a2).bind fun u33 =>
                          if (bI u33.1) = 0 then
                            some ((-1), (t0.1, t0.2.1, t0.2.2.1, t0.2.2.2.1, t0.2.2.2.2.1, t0.2.2.2.2.2.1, u33.2, t0.2.2.2.2.2.2.2.1, t0.2.2.2.2.2.2.2.2.1, t0.2.2.2.2.2.2.2.2.2.1, t0.2.2.2.2.2.2.2.2.2.2.1, t0.2.2.2.2.2.2.2.2.2.2.2.1, z32))
                          else
                            (f_X3_wordAt u33.2.1 (a3 - 10)).bind fun u36 =>
                              some (u36, (t0.1, t0.2.1, t0.2.2.1, t0.2.2.2.1, t0.2.2.2.2.1, t0.2.2.2.2.2.1, u33.2, t0.2.2.2.2.2.2.2.1, t0.2.2.2.2.2.2.2.2.1, t0.2.2.2.2.2.2.2.2.2.1, t0.2.2.2.2.2.2.2.2.2.2.1, t0.2.2.2.2.2.2.2.2.2.2.2.1, z32))
                    else
                      some ((-103), t0)

def f_X9_rest (t0 : zXS) (a0 : Int32) (a1 : Int32) (a2 : Int32) : Option (Int32 × zXS) :=
  if a0 < 0 then
    some ((-102), t0)
  else
    if a0 ≤ t0.2.1.2.1 then
      if a1 < 1 then
        some ((-102), t0)
      else
        if a1 < a0 then
          some ((-102), t0)
        else
          if a1 ≤ (a0 + 5) then
            if a2 < (-20) then
              some ((-102), t0)
            else
              if a2 ≤ 20 then
                (f_X9_noLetter t0).bind fun u8 =>
                  if (bI u8) = 0 then
                    (f_X1_howMany t0.2.2.2.2.2.2.2.1 t0.2.1 a0 a1 a2).bind fun u10 =>
                      some (u10.1, (t0.1, t0.2.1, t0.2.2.1, t0.2.2.2.1, t0.2.2.2.2.1, t0.2.2.2.2.2.1, t0.2.2.2.2.2.2.1, u10.2, t0.2.2.2.2.2.2.2.2))
                  else
                    some ((-103), t0)
              else
                some ((-102), t0)
          else
            some ((-102), t0)
    else
      some ((-102), t0)

def lp_X9_kindsThatHear_5 (v1 : Int32) (v2 : Bool) (s0_1 : zLT) (K : Int32 → Int32 → zRD → Option (Int32 × zXS)) : Nat → Int32 → Int32 → zRD → Option (Int32 × zXS)
  | 0, _, _, _ => none
  | n + 1, v3, v4, s0_5 =>
    if 5 ≤ v4 then
      K v3 v4 s0_5
    else
      (f_X6_readTo v4 s0_1 v2).bind fun u2 =>
        if u2.2.2.2.2.1 = v1 then
          lp_X9_kindsThatHear_5 v1 v2 s0_1 K n (v3 ||| (1 <<< (v4 &&& 31))) (v4 + 1) u2
        else
          lp_X9_kindsThatHear_5 v1 v2 s0_1 K n v3 (v4 + 1) u2
def f_X9_kindsThatHear (t0 : zXS) (a0 : Int32) (a1 : Bool) : Option (Int32 × zXS) :=
  lp_X9_kindsThatHear_5 a0 a1 t0.2.1 (fun w4_v3 w4_v4 w4_s0_5 =>
    some (w4_v3, (t0.1, t0.2.1, t0.2.2.1, t0.2.2.2.1, t0.2.2.2.2.1, w4_s0_5, t0.2.2.2.2.2.2))) FU 0 0 t0.2.2.2.2.2.1

def f_X9_tell (t0 : zXS) (a0 : Int32) (a1 : Bool) : Option (Int32 × zXS) :=
  if a0 < 0 then
    some ((-102), t0)
  else
    if a0 ≤ 9 then
      (f_X9_noLetter t0).bind fun u3 =>
        if (bI u3) = 0 then
          if t0.2.2.2.1.2 < 6 then
            (f_X9_kindsThatHear t0 a0 a1).bind fun u6 =>
              (f_X7_add u6.2.2.2.2.1 u6.1).bind fun u7 =>
                some (u7.2, (u6.2.1, u6.2.2.1, u6.2.2.2.1, u7, u6.2.2.2.2.2))
          else
            some ((-104), t0)
        else
          some ((-103), t0)
    else
      some ((-102), t0)

def f_X9_forget (t0 : zXS) : Option (Int32 × zXS) :=
  (f_X7_clear t0.2.2.2.1).bind fun u1 =>
    some (t0.2.2.2.1.2, (t0.1, t0.2.1, t0.2.2.1, u1, t0.2.2.2.2))

def f_X9_which (t0 : zXS) : Option (Int32) :=
  (f_X7_possibleKinds t0.2.2.2.1).bind fun u1 =>
    some u1

def lp_X9_mostAlike_13 (v1 : Int32) (v2 : Bool) (s0_1 : zLT) (K : Int32 → Int32 → zRD → (Nat → Int32) → Option (Int32 × zXS)) : Nat → Int32 → Int32 → zRD → (Nat → Int32) → Option (Int32 × zXS)
  | 0, _, _, _, _ => none
  | n + 1, v3, v4, s0_5, s0_9 =>
    if 5 ≤ v4 then
      K v3 v4 s0_5 s0_9
    else
      if (v1 &&& (1 <<< (v4 &&& 31))) = 0 then
        lp_X9_mostAlike_13 v1 v2 s0_1 K n v3 (v4 + 1) s0_5 s0_9
      else
        (f_X6_readTo v4 s0_1 v2).bind fun u4 =>
          if u4.2.2.2.2.1 < 0 then
            lp_X9_mostAlike_13 v1 v2 s0_1 K n v3 (v4 + 1) u4 s0_9
          else
            if u4.2.2.2.2.1 < (Int32.ofNat 10) then
              if u4.2.2.2.2.1 < 0 ∨ 10 ≤ Int32.toNatClampNeg u4.2.2.2.2.1 then none
              else
                if u4.2.2.2.2.1 < 0 ∨ 10 ≤ Int32.toNatClampNeg u4.2.2.2.2.1 then none
                else
                  (some (upd s0_9 (Int32.toNatClampNeg u4.2.2.2.2.1) ((s0_9 (Int32.toNatClampNeg u4.2.2.2.2.1)) + 1))).bind fun z8 =>
                    if u4.2.2.2.2.1 < 0 ∨ 10 ≤ Int32.toNatClampNeg u4.2.2.2.2.1 then none
                    else
                      lp_X9_mostAlike_13 v1 v2 s0_1 K n (if v3 < (z8 (Int32.toNatClampNeg u4.2.2.2.2.1)) then (z8 (Int32.toNatClampNeg u4.2.2.2.2.1)) else v3) (v4 + 1) u4 z8
            else
              lp_X9_mostAlike_13 v1 v2 s0_1 K n v3 (v4 + 1) u4 s0_9
def f_X9_mostAlike (t0 : zXS) (a0 : Int32) (a1 : Bool) : Option (Int32 × zXS) :=
  (f_J7_fill_53178 10 t0.2.2.2.2.2.2.2.2.2.1 0).bind fun u1 =>
    lp_X9_mostAlike_13 a0 a1 t0.2.1 (fun w11_v3 w11_v4 w11_s0_5 w11_s0_9 =>
      some (w11_v3, (t0.1, t0.2.1, t0.2.2.1, t0.2.2.2.1, t0.2.2.2.2.1, w11_s0_5, t0.2.2.2.2.2.2.1, t0.2.2.2.2.2.2.2.1, t0.2.2.2.2.2.2.2.2.1, w11_s0_9, t0.2.2.2.2.2.2.2.2.2.2))) FU 0 0 t0.2.2.2.2.2.1 u1

def f_X9_ask (t0 : zXS) : Option (Int32 × zXS) :=
  (f_X9_noLetter t0).bind fun u1 =>
    if (bI u1) = 0 then
      (f_X7_possibleKinds t0.2.2.2.1).bind fun u3 =>
        if u3 = 0 then
          some ((-1), t0)
        else
          (f_X9_mostAlike t0 u3 true).bind fun u5 =>
            (f_X9_mostAlike u5.2 u3 false).bind fun u6 =>
              if u6.1 ≤ u5.1 then
                some (0, u6.2)
              else
                some (1, u6.2)
    else
      some ((-103), t0)

def f_X9_days (t0 : zXS) (a0 : Int32) (a1 : Int32) (a2 : Int32) : Option (Int32 × zXS) :=
  if a0 < 1 then
    some ((-102), t0)
  else
    if 40 < a0 then
      some ((-102), t0)
    else
      if a1 < 0 then
        some ((-102), t0)
      else
        if a2 < 0 then
          some ((-102), t0)
        else
          if a2 ≤ 2 then
            if t0.2.2.1.2 = 0 then
              some ((-103), t0)
            else
              (f_X0_pass t0.2.2.2.2.2.2.2.2.1 a0 a1 t0.2.2.1 t0.2.1.2.2).bind fun u7 =>
                if a2 = 0 then
                  some (u7.2.2.2.1, (t0.1, t0.2.1, t0.2.2.1, t0.2.2.2.1, t0.2.2.2.2.1, t0.2.2.2.2.2.1, t0.2.2.2.2.2.2.1, t0.2.2.2.2.2.2.2.1, u7, t0.2.2.2.2.2.2.2.2.2))
                else
                  if a2 = 1 then
                    some ((u7.2.2.2.2 + 1000), (t0.1, t0.2.1, t0.2.2.1, t0.2.2.2.1, t0.2.2.2.2.1, t0.2.2.2.2.2.1, t0.2.2.2.2.2.2.1, t0.2.2.2.2.2.2.2.1, u7, t0.2.2.2.2.2.2.2.2.2))
                  else
                    some (u7.2.2.1, (t0.1, t0.2.1, t0.2.2.1, t0.2.2.2.1, t0.2.2.2.2.1, t0.2.2.2.2.2.1, t0.2.2.2.2.2.2.1, t0.2.2.2.2.2.2.2.1, u7, t0.2.2.2.2.2.2.2.2.2))
          else
            some ((-102), t0)

def f_X9_image (t0 : zXS) : Option (Int32 × zXS) :=
  (f_X9_noLetter t0).bind fun u1 =>
    if (bI u1) = 0 then
      (f_X3_copy t0.2.2.2.2.1.1 t0.2.1).bind fun u3 =>
        (f_X7_copy t0.2.2.2.2.1.2.1 t0.2.2.2.1).bind fun u4 =>
          some (t0.2.1.2.1, (t0.1, t0.2.1, t0.2.2.1, t0.2.2.2.1, (u3, u4, t0.2.2.1.2, t0.2.2.2.2.2.2.2.2.2.2.1, true), t0.2.2.2.2.2))
    else
      some ((-103), t0)

def f_X9_restore (t0 : zXS) : Option (Int32 × zXS) :=
  if (bI t0.2.2.2.2.1.2.2.2.2) = 0 then
    some ((-103), t0)
  else
    (f_X3_copy t0.2.1 t0.2.2.2.2.1.1).bind fun u2 =>
      (f_X7_copy t0.2.2.2.1 t0.2.2.2.2.1.2.1).bind fun u3 =>
        some (u2.2.1, (t0.1, u2, (t0.2.2.1.1, t0.2.2.2.2.1.2.2.1), u3, t0.2.2.2.2.1, t0.2.2.2.2.2.1, t0.2.2.2.2.2.2.1, t0.2.2.2.2.2.2.2.1, t0.2.2.2.2.2.2.2.2.1, t0.2.2.2.2.2.2.2.2.2.1, t0.2.2.2.2.1.2.2.2.1, t0.2.2.2.2.2.2.2.2.2.2.2))

def lp_X9_howManyShut_4 (s0_1 : zLT) (s0_2 : zLS) (K : Int32 → Int32 → zRD → Option (Int32 × zXS)) : Nat → Int32 → Int32 → zRD → Option (Int32 × zXS)
  | 0, _, _, _ => none
  | n + 1, v1, v2, s0_5 =>
    if s0_2.2 ≤ v2 then
      K v1 v2 s0_5
    else
      (f_X4_kindOf s0_2 v2).bind fun u2 =>
        (f_X6_readTo u2 s0_1 false).bind fun u3 =>
          if (bI u3.2.2.2.2.2) = 0 then
            lp_X9_howManyShut_4 s0_1 s0_2 K n v1 (v2 + 1) u3
          else
            lp_X9_howManyShut_4 s0_1 s0_2 K n (v1 + 1) (v2 + 1) u3
def f_X9_howManyShut (t0 : zXS) : Option (Int32 × zXS) :=
  lp_X9_howManyShut_4 t0.2.1 t0.2.2.1 (fun w5_v1 w5_v2 w5_s0_5 =>
    some (w5_v1, (t0.1, t0.2.1, t0.2.2.1, t0.2.2.2.1, t0.2.2.2.2.1, w5_s0_5, t0.2.2.2.2.2.2))) FU 0 0 t0.2.2.2.2.2.1

def f_X9_count (t0 : zXS) (a0 : Int32) : Option (Int32 × zXS) :=
  if a0 = 0 then
    some (t0.2.1.2.1, t0)
  else
    if a0 = 1 then
      some (t0.2.1.2.2, t0)
    else
      if a0 = 2 then
        some (t0.2.2.1.2, t0)
      else
        if a0 = 3 then
          (f_X9_howManyShut t0).bind fun u5 =>
            some u5
        else
          if a0 = 4 then
            some (t0.2.2.2.2.2.2.2.2.2.2.1, t0)
          else
            if a0 = 5 then
              some (t0.2.2.2.1.2, t0)
            else
              if a0 = 6 then
                some (t0.1.2, t0)
              else
                if a0 = 7 then
                  some (t0.2.2.2.2.2.2.2.2.2.2.2.1, t0)
                else
                  if a0 = 8 then
                    some (t0.2.2.2.2.2.2.2.2.2.2.2.2, t0)
                  else
                    some ((-102), t0)

def lp_X9_digest_20 (v3 : Int32) (K : Int64 → Int32 → zPG → zLT → zLS → zTD → zIM → zRD → zWR → zEN → zDY → (Nat → Int32) → Int32 → Int32 → Int32 → Option (Int64 × zXS)) : Nat → Int64 → Int32 → zPG → zLT → zLS → zTD → zIM → zRD → zWR → zEN → zDY → (Nat → Int32) → Int32 → Int32 → Int32 → Option (Int64 × zXS)
  | 0, _, _, _, _, _, _, _, _, _, _, _, _, _, _, _ => none
  | n + 1, v1, v4, s0_0, s0_1, s0_2, s0_3, s0_4, s0_5, s0_6, s0_7, s0_8, s0_9, s0_10, s0_11, s0_12 =>
    if 2 < v4 then
      K v1 v4 s0_0 s0_1 s0_2 s0_3 s0_4 s0_5 s0_6 s0_7 s0_8 s0_9 s0_10 s0_11 s0_12
    else
      (f_X9_word (s0_0, s0_1, s0_2, s0_3, s0_4, s0_5, s0_6, s0_7, s0_8, s0_9, s0_10, s0_11, s0_12) v3 v4).bind fun u3 =>
        lp_X9_digest_20 v3 K n ((31 * v1) + (Int32.toInt64 u3.1)) (v4 + 1) u3.2.1 u3.2.2.1 u3.2.2.2.1 u3.2.2.2.2.1 u3.2.2.2.2.2.1 u3.2.2.2.2.2.2.1 u3.2.2.2.2.2.2.2.1 u3.2.2.2.2.2.2.2.2.1 u3.2.2.2.2.2.2.2.2.2.1 u3.2.2.2.2.2.2.2.2.2.2.1 u3.2.2.2.2.2.2.2.2.2.2.2.1 u3.2.2.2.2.2.2.2.2.2.2.2.2.1 u3.2.2.2.2.2.2.2.2.2.2.2.2.2
def lp_X9_digest_6 (K : Int64 → Int32 → zPG → zLT → zLS → zTD → zIM → zRD → zWR → zEN → zDY → (Nat → Int32) → Int32 → Int32 → Int32 → Option (Int64 × zXS)) : Nat → Int64 → Int32 → zPG → zLT → zLS → zTD → zIM → zRD → zWR → zEN → zDY → (Nat → Int32) → Int32 → Int32 → Int32 → Option (Int64 × zXS)
  | 0, _, _, _, _, _, _, _, _, _, _, _, _, _, _, _ => none
  | n + 1, v1, v3, s0_0, s0_1, s0_2, s0_3, s0_4, s0_5, s0_6, s0_7, s0_8, s0_9, s0_10, s0_11, s0_12 =>
    if s0_1.2.1 ≤ v3 then
      K v1 v3 s0_0 s0_1 s0_2 s0_3 s0_4 s0_5 s0_6 s0_7 s0_8 s0_9 s0_10 s0_11 s0_12
    else
      lp_X9_digest_20 v3 (fun w4_v1 w4_v4 w4_s0_0 w4_s0_1 w4_s0_2 w4_s0_3 w4_s0_4 w4_s0_5 w4_s0_6 w4_s0_7 w4_s0_8 w4_s0_9 w4_s0_10 w4_s0_11 w4_s0_12 =>
        lp_X9_digest_6  K n w4_v1 (v3 + 1) w4_s0_0 w4_s0_1 w4_s0_2 w4_s0_3 w4_s0_4 w4_s0_5 w4_s0_6 w4_s0_7 w4_s0_8 w4_s0_9 w4_s0_10 w4_s0_11 w4_s0_12) FU v1 0 s0_0 s0_1 s0_2 s0_3 s0_4 s0_5 s0_6 s0_7 s0_8 s0_9 s0_10 s0_11 s0_12
def lp_X9_digest_69 (v3 : Int32) (K : Int64 → Int32 → zPG → zLT → zLS → zTD → zIM → zRD → zWR → zEN → zDY → (Nat → Int32) → Int32 → Int32 → Int32 → Option (Int64 × zXS)) : Nat → Int64 → Int32 → zPG → zLT → zLS → zTD → zIM → zRD → zWR → zEN → zDY → (Nat → Int32) → Int32 → Int32 → Int32 → Option (Int64 × zXS)
  | 0, _, _, _, _, _, _, _, _, _, _, _, _, _, _, _ => none
  | n + 1, v1, v4, s0_0, s0_1, s0_2, s0_3, s0_4, s0_5, s0_6, s0_7, s0_8, s0_9, s0_10, s0_11, s0_12 =>
    if 6 < v4 then
      K v1 v4 s0_0 s0_1 s0_2 s0_3 s0_4 s0_5 s0_6 s0_7 s0_8 s0_9 s0_10 s0_11 s0_12
    else
      (f_X9_about (s0_0, s0_1, s0_2, s0_3, s0_4, s0_5, s0_6, s0_7, s0_8, s0_9, s0_10, s0_11, s0_12) v3 v4).bind fun u8 =>
        lp_X9_digest_69 v3 K n ((31 * v1) + (Int32.toInt64 u8.1)) (v4 + 1) u8.2.1 u8.2.2.1 u8.2.2.2.1 u8.2.2.2.2.1 u8.2.2.2.2.2.1 u8.2.2.2.2.2.2.1 u8.2.2.2.2.2.2.2.1 u8.2.2.2.2.2.2.2.2.1 u8.2.2.2.2.2.2.2.2.2.1 u8.2.2.2.2.2.2.2.2.2.2.1 u8.2.2.2.2.2.2.2.2.2.2.2.1 u8.2.2.2.2.2.2.2.2.2.2.2.2.1 u8.2.2.2.2.2.2.2.2.2.2.2.2.2
def lp_X9_digest_55 (K : Int64 → Int32 → zPG → zLT → zLS → zTD → zIM → zRD → zWR → zEN → zDY → (Nat → Int32) → Int32 → Int32 → Int32 → Option (Int64 × zXS)) : Nat → Int64 → Int32 → zPG → zLT → zLS → zTD → zIM → zRD → zWR → zEN → zDY → (Nat → Int32) → Int32 → Int32 → Int32 → Option (Int64 × zXS)
  | 0, _, _, _, _, _, _, _, _, _, _, _, _, _, _, _ => none
  | n + 1, v1, v3, s0_0, s0_1, s0_2, s0_3, s0_4, s0_5, s0_6, s0_7, s0_8, s0_9, s0_10, s0_11, s0_12 =>
    if s0_2.2 ≤ v3 then
      K v1 v3 s0_0 s0_1 s0_2 s0_3 s0_4 s0_5 s0_6 s0_7 s0_8 s0_9 s0_10 s0_11 s0_12
    else
      lp_X9_digest_69 v3 (fun w9_v1 w9_v4 w9_s0_0 w9_s0_1 w9_s0_2 w9_s0_3 w9_s0_4 w9_s0_5 w9_s0_6 w9_s0_7 w9_s0_8 w9_s0_9 w9_s0_10 w9_s0_11 w9_s0_12 =>
        lp_X9_digest_55  K n w9_v1 (v3 + 1) w9_s0_0 w9_s0_1 w9_s0_2 w9_s0_3 w9_s0_4 w9_s0_5 w9_s0_6 w9_s0_7 w9_s0_8 w9_s0_9 w9_s0_10 w9_s0_11 w9_s0_12) FU v1 0 s0_0 s0_1 s0_2 s0_3 s0_4 s0_5 s0_6 s0_7 s0_8 s0_9 s0_10 s0_11 s0_12
def lp_X9_digest_151 (s0_0 : zPG) (K : Int64 → Int32 → Option (Int64 × zXS)) : Nat → Int64 → Int32 → Option (Int64 × zXS)
  | 0, _, _ => none
  | n + 1, v1, v3 =>
    if s0_0.2 ≤ v3 then
      K v1 v3
    else
      (f_X5_signAt s0_0 v3).bind fun u15 =>
        lp_X9_digest_151 s0_0 K n ((31 * v1) + (Int32.toInt64 u15)) (v3 + 1)
def lp_X9_digest_186 (K : Int64 → Int32 → zPG → zLT → zLS → zTD → zIM → zRD → zWR → zEN → zDY → (Nat → Int32) → Int32 → Int32 → Int32 → Option (Int64 × zXS)) : Nat → Int64 → Int32 → zPG → zLT → zLS → zTD → zIM → zRD → zWR → zEN → zDY → (Nat → Int32) → Int32 → Int32 → Int32 → Option (Int64 × zXS)
  | 0, _, _, _, _, _, _, _, _, _, _, _, _, _, _, _ => none
  | n + 1, v1, v3, s0_0, s0_1, s0_2, s0_3, s0_4, s0_5, s0_6, s0_7, s0_8, s0_9, s0_10, s0_11, s0_12 =>
    if 8 < v3 then
      K v1 v3 s0_0 s0_1 s0_2 s0_3 s0_4 s0_5 s0_6 s0_7 s0_8 s0_9 s0_10 s0_11 s0_12
    else
      (f_X9_count (s0_0, s0_1, s0_2, s0_3, s0_4, s0_5, s0_6, s0_7, s0_8, s0_9, s0_10, s0_11, s0_12) v3).bind fun u18 =>
        lp_X9_digest_186  K n ((31 * v1) + (Int32.toInt64 u18.1)) (v3 + 1) u18.2.1 u18.2.2.1 u18.2.2.2.1 u18.2.2.2.2.1 u18.2.2.2.2.2.1 u18.2.2.2.2.2.2.1 u18.2.2.2.2.2.2.2.1 u18.2.2.2.2.2.2.2.2.1 u18.2.2.2.2.2.2.2.2.2.1 u18.2.2.2.2.2.2.2.2.2.2.1 u18.2.2.2.2.2.2.2.2.2.2.2.1 u18.2.2.2.2.2.2.2.2.2.2.2.2.1 u18.2.2.2.2.2.2.2.2.2.2.2.2.2
def f_X9_digest (t0 : zXS) : Option (Int64 × zXS) :=
  lp_X9_digest_6  (fun w5_v1 w5_v3 w5_s0_0 w5_s0_1 w5_s0_2 w5_s0_3 w5_s0_4 w5_s0_5 w5_s0_6 w5_s0_7 w5_s0_8 w5_s0_9 w5_s0_10 w5_s0_11 w5_s0_12 =>
    lp_X9_digest_55  (fun w10_v1 w10_v3 w10_s0_0 w10_s0_1 w10_s0_2 w10_s0_3 w10_s0_4 w10_s0_5 w10_s0_6 w10_s0_7 w10_s0_8 w10_s0_9 w10_s0_10 w10_s0_11 w10_s0_12 =>
      (f_X9_which (w10_s0_0, w10_s0_1, w10_s0_2, w10_s0_3, w10_s0_4, w10_s0_5, w10_s0_6, w10_s0_7, w10_s0_8, w10_s0_9, w10_s0_10, w10_s0_11, w10_s0_12)).bind fun u11 =>
        (f_X9_noLetter (w10_s0_0, w10_s0_1, w10_s0_2, w10_s0_3, w10_s0_4, w10_s0_5, w10_s0_6, w10_s0_7, w10_s0_8, w10_s0_9, w10_s0_10, w10_s0_11, w10_s0_12)).bind fun u12 =>
          if (bI u12) = 0 then
            (f_X9_ask (w10_s0_0, w10_s0_1, w10_s0_2, w10_s0_3, w10_s0_4, w10_s0_5, w10_s0_6, w10_s0_7, w10_s0_8, w10_s0_9, w10_s0_10, w10_s0_11, w10_s0_12)).bind fun u20 =>
              (f_X9_rest u20.2 0 3 1).bind fun u21 =>
                lp_X9_digest_151 u21.2.1 (fun w22_v1 w22_v3 =>
                  lp_X9_digest_186  (fun w23_v1 w23_v3 w23_s0_0 w23_s0_1 w23_s0_2 w23_s0_3 w23_s0_4 w23_s0_5 w23_s0_6 w23_s0_7 w23_s0_8 w23_s0_9 w23_s0_10 w23_s0_11 w23_s0_12 =>
                    some (w23_v1, (w23_s0_0, w23_s0_1, w23_s0_2, w23_s0_3, w23_s0_4, w23_s0_5, w23_s0_6, w23_s0_7, w23_s0_8, w23_s0_9, w23_s0_10, w23_s0_11, w23_s0_12))) FU w22_v1 0 u21.2.1 u21.2.2.1 u21.2.2.2.1 u21.2.2.2.2.1 u21.2.2.2.2.2.1 u21.2.2.2.2.2.2.1 u21.2.2.2.2.2.2.2.1 u21.2.2.2.2.2.2.2.2.1 u21.2.2.2.2.2.2.2.2.2.1 u21.2.2.2.2.2.2.2.2.2.2.1 u21.2.2.2.2.2.2.2.2.2.2.2.1 u21.2.2.2.2.2.2.2.2.2.2.2.2.1 u21.2.2.2.2.2.2.2.2.2.2.2.2.2) FU ((31 * ((31 * ((31 * w10_v1) + (Int32.toInt64 u11))) + (Int32.toInt64 u20.1))) + (Int32.toInt64 u21.1)) 0
          else
            lp_X9_digest_151 w10_s0_0 (fun w16_v1 w16_v3 =>
              lp_X9_digest_186  (fun w19_v1 w19_v3 w19_s0_0 w19_s0_1 w19_s0_2 w19_s0_3 w19_s0_4 w19_s0_5 w19_s0_6 w19_s0_7 w19_s0_8 w19_s0_9 w19_s0_10 w19_s0_11 w19_s0_12 =>
                some (w19_v1, (w19_s0_0, w19_s0_1, w19_s0_2, w19_s0_3, w19_s0_4, w19_s0_5, w19_s0_6, w19_s0_7, w19_s0_8, w19_s0_9, w19_s0_10, w19_s0_11, w19_s0_12))) FU w16_v1 0 w10_s0_0 w10_s0_1 w10_s0_2 w10_s0_3 w10_s0_4 w10_s0_5 w10_s0_6 w10_s0_7 w10_s0_8 w10_s0_9 w10_s0_10 w10_s0_11 w10_s0_12) FU ((31 * w10_v1) + (Int32.toInt64 u11)) 0) FU w5_v1 0 w5_s0_0 w5_s0_1 w5_s0_2 w5_s0_3 w5_s0_4 w5_s0_5 w5_s0_6 w5_s0_7 w5_s0_8 w5_s0_9 w5_s0_10 w5_s0_11 w5_s0_12) FU 953 0 t0.1 t0.2.1 t0.2.2.1 t0.2.2.2.1 t0.2.2.2.2.1 t0.2.2.2.2.2.1 t0.2.2.2.2.2.2.1 t0.2.2.2.2.2.2.2.1 t0.2.2.2.2.2.2.2.2.1 t0.2.2.2.2.2.2.2.2.2.1 t0.2.2.2.2.2.2.2.2.2.2.1 t0.2.2.2.2.2.2.2.2.2.2.2.1 t0.2.2.2.2.2.2.2.2.2.2.2.2

def f_X10_in (a0 : Int64) (a1 : Int64) (a2 : Int64) : Option (Bool) :=
  if (lg_cmp a0 a1) < 0 then
    some false
  else
    if 0 < (lg_cmp a0 a2) then
      some false
    else
      some true

def lp_X10_copy_2 (s0 : (Nat → Int32)) (n0 : Nat) (n1 : Nat) (K : Int32 → (Nat → Int32) → Option ((Nat → Int32))) : Nat → Int32 → (Nat → Int32) → Option ((Nat → Int32))
  | 0, _, _ => none
  | n + 1, v2, s1 =>
    if (Int32.ofNat n0) ≤ v2 then
      K v2 s1
    else
      if v2 < 0 ∨ n0 ≤ Int32.toNatClampNeg v2 then none
      else
        if v2 < 0 ∨ n1 ≤ Int32.toNatClampNeg v2 then none
        else
          (some (upd s1 (Int32.toNatClampNeg v2) (s0 (Int32.toNatClampNeg v2)))).bind fun z3 =>
            lp_X10_copy_2 s0 n0 n1 K n (v2 + 1) z3
def f_X10_copy (n0 : Nat) (f0 : (Nat → Int32)) (n1 : Nat) (f1 : (Nat → Int32)) : Option ((Nat → Int32)) :=
  lp_X10_copy_2 f0 n0 n1 (fun w5_v2 w5_s1 =>
    some w5_s1) FU 0 f1

def f_X10_letter (m0 : (Nat → Int32)) (m1 : Int32) (a0 : Int32) : Option (Int32 × (Nat → Int32) × Int32) :=
  (f_X10_in (Int32.toInt64 a0) 1 126).bind fun u1 =>
    if (bI u1) = 0 then
      some ((-102), m0, m1)
    else
      if m1 = 12 then
        some ((-104), m0, m1)
      else
        if m1 < 0 ∨ 12 ≤ Int32.toNatClampNeg m1 then none
        else
          (some (upd m0 (Int32.toNatClampNeg m1) a0)).bind fun z4 =>
            (some ((m1 + 1) : Int32)).bind fun z6 =>
              some (z6, z4, z6)

def f_X10_blank (m1 : Int32) : Option (Int32 × Int32) :=
  some (m1, 0)

def f_X10_wordBy (a0 : Int32) : Option (Int32) :=
  if a0 = 121 then
    some 0
  else
    if a0 = 110 then
      some 1
    else
      if a0 = 116 then
        some 2
      else
        if a0 = 117 then
          some 3
        else
          if a0 = 100 then
            some 4
          else
            if a0 = 46 then
              some 5
            else
              some (-1)

def f_X10_go (m2 : Int32) (m3 : Int32) (a0 : Int32) : Option (Bool × Int32 × Int32) :=
  if m2 = 0 then
    if a0 = 59 then
      if m3 ≤ 0 then
        if m2 = 0 then
          (some ((m3 + 1) : Int32)).bind fun z24 =>
            if 10 ≤ z24 then
              some (false, m2, z24)
            else
              (f_X10_wordBy a0).bind fun u26 =>
                if u26 = (-1) then
                  some (false, m2, z24)
                else
                  some (true, m2, z24)
        else
          if m2 = 1 then
            (f_X10_in (Int32.toInt64 a0) 49 57).bind fun u22 =>
              if (bI u22) = 0 then
                some (false, 2, m3)
              else
                some (true, 2, m3)
          else
            some (false, 2, m3)
      else
        some (true, 1, m3)
    else
      if m2 = 0 then
        (some ((m3 + 1) : Int32)).bind fun z15 =>
          if 10 ≤ z15 then
            some (false, m2, z15)
          else
            (f_X10_wordBy a0).bind fun u17 =>
              if u17 = (-1) then
                some (false, m2, z15)
              else
                some (true, m2, z15)
      else
        if m2 = 1 then
          (f_X10_in (Int32.toInt64 a0) 49 57).bind fun u13 =>
            if (bI u13) = 0 then
              some (false, 2, m3)
            else
              some (true, 2, m3)
        else
          some (false, 2, m3)
  else
    if m2 = 0 then
      (some ((m3 + 1) : Int32)).bind fun z6 =>
        if 10 ≤ z6 then
          some (false, m2, z6)
        else
          (f_X10_wordBy a0).bind fun u8 =>
            if u8 = (-1) then
              some (false, m2, z6)
            else
              some (true, m2, z6)
    else
      if m2 = 1 then
        (f_X10_in (Int32.toInt64 a0) 49 57).bind fun u4 =>
          if (bI u4) = 0 then
            some (false, 2, m3)
          else
            some (true, 2, m3)
      else
        some (false, 2, m3)

def lp_X10_faultOf_12 (s0_0 : (Nat → Int32)) (s0_1 : Int32) (K : Int32 → Int32 → Int32 → Option (Int32 × Int32 × Int32)) : Nat → Int32 → Int32 → Int32 → Option (Int32 × Int32 × Int32)
  | 0, _, _, _ => none
  | n + 1, v1, s0_2, s0_3 =>
    if s0_1 ≤ v1 then
      K v1 s0_2 s0_3
    else
      if v1 < 0 ∨ 12 ≤ Int32.toNatClampNeg v1 then none
      else
        (f_X10_go s0_2 s0_3 (s0_0 (Int32.toNatClampNeg v1))).bind fun u3 =>
          if (bI u3.1) = 0 then
            K v1 u3.2.1 u3.2.2
          else
            lp_X10_faultOf_12 s0_0 s0_1 K n (v1 + 1) u3.2.1 u3.2.2
def f_X10_faultOf (m0 : (Nat → Int32)) (m1 : Int32) : Option (Int32 × Int32 × Int32) :=
  lp_X10_faultOf_12 m0 m1 (fun w5_v1 w5_s0_2 w5_s0_3 =>
    some (w5_v1, w5_s0_2, w5_s0_3)) FU 0 0 0

def f_X10_fault (m0 : (Nat → Int32)) (m1 : Int32) : Option (Int32 × Int32 × Int32) :=
  (f_X10_faultOf m0 m1).bind fun u1 =>
    some u1

def lp_X10_take_32 (s0_0 : (Nat → Int32)) (s0_4 : Int32) (K : Int32 → (Nat → Int32) → Option (Int32 × Int32 × Int32 × Int32 × Int32 × Int32 × Int32 × Int32 × (Nat → Int32) × Int32 × Int32)) : Nat → Int32 → (Nat → Int32) → Option (Int32 × Int32 × Int32 × Int32 × Int32 × Int32 × Int32 × Int32 × (Nat → Int32) × Int32 × Int32)
  | 0, _, _ => none
  | n + 1, v1, s0_8 =>
    if s0_4 ≤ v1 then
      K v1 s0_8
    else
      if v1 < 0 ∨ 12 ≤ Int32.toNatClampNeg v1 then none
      else
        (f_X10_wordBy (s0_0 (Int32.toNatClampNeg v1))).bind fun u6 =>
          if v1 < 0 ∨ 9 ≤ Int32.toNatClampNeg v1 then none
          else
            (some (upd s0_8 (Int32.toNatClampNeg v1) u6)).bind fun z7 =>
              lp_X10_take_32 s0_0 s0_4 K n (v1 + 1) z7
def f_X10_take (m0 : (Nat → Int32)) (m1 : Int32) (m4 : Int32) (m5 : Int32) (m6 : Int32) (m7 : Int32) (m8 : (Nat → Int32)) (m9 : Int32) (m18 : Int32) : Option (Int32 × Int32 × Int32 × Int32 × Int32 × Int32 × Int32 × Int32 × (Nat → Int32) × Int32 × Int32) :=
  (f_X10_faultOf m0 m1).bind fun u1 =>
    if u1.1 < m1 then
      some ((-103), m1, u1.2.1, u1.2.2, m4, m5, m6, m7, m8, m9, m18)
    else
      if u1.2.1 = 2 then
        lp_X10_take_32 m0 u1.2.2 (fun w9_v1 w9_s0_8 =>
          if (m1 - 1) < 0 ∨ 12 ≤ Int32.toNatClampNeg (m1 - 1) then none
          else
            (some (((m0 (Int32.toNatClampNeg (m1 - 1))) - 48) : Int32)).bind fun z11 =>
              (some ((m7 + 1) : Int32)).bind fun z12 =>
                some (u1.2.2, 0, u1.2.1, u1.2.2, u1.2.2, z11, 0, z12, w9_s0_8, 0, 0)) FU 0 m8
      else
        some ((-103), m1, u1.2.1, u1.2.2, m4, m5, m6, m7, m8, m9, m18)

def f_X10_isWord (m4 : Int32) (a0 : Int32) : Option (Bool) :=
  (f_X10_in (Int32.toInt64 a0) 0 (Int32.toInt64 (m4 - 1))).bind fun u1 =>
    some u1

def f_X10_isListener (m9 : Int32) (a0 : Int32) : Option (Bool) :=
  (f_X10_in (Int32.toInt64 a0) 0 (Int32.toInt64 (m9 - 1))).bind fun u1 =>
    some u1

def f_X10_begin : Option (Int32 × Bool × Int32 × Int32 × Bool) :=
  some (0, false, 0, 0, false)

def f_X10_readWord (m11 : Int32) (m12 : Bool) (m13 : Int32) (m14 : Int32) (a0 : Int32) : Option (Int32 × Bool × Int32 × Int32) :=
  if a0 = 0 then
    if (bI m12) = 0 then
      (some ((m11 + 1) : Int32)).bind fun z3 =>
        (some ((m14 + 1) : Int32)).bind fun z4 =>
          some (z3, false, m13, z4)
    else
      (some ((m11 + (-1)) : Int32)).bind fun z5 =>
        (some ((m14 + 1) : Int32)).bind fun z6 =>
          some (z5, false, m13, z6)
  else
    if a0 = 1 then
      if (bI m12) = 0 then
        (some ((m11 + (-1)) : Int32)).bind fun z9 =>
          (some ((m14 + 1) : Int32)).bind fun z10 =>
            some (z9, false, m13, z10)
      else
        (some ((m11 + 1) : Int32)).bind fun z11 =>
          (some ((m14 + 1) : Int32)).bind fun z12 =>
            some (z11, false, m13, z12)
    else
      if a0 = 2 then
        if (bI m12) = 0 then
          (some ((m14 + 1) : Int32)).bind fun z16 =>
            some (m11, true, m13, z16)
        else
          (some ((m14 + 1) : Int32)).bind fun z15 =>
            some (m11, false, m13, z15)
      else
        if a0 = 3 then
          (some ((-m11) : Int32)).bind fun z18 =>
            (some ((m14 + 1) : Int32)).bind fun z19 =>
              some (z18, m12, m13, z19)
        else
          if a0 = 4 then
            (some ((m11 + 1) : Int32)).bind fun z21 =>
              (some ((m14 + 1) : Int32)).bind fun z22 =>
                some (z21, m12, m13, z22)
          else
            (some ((m13 + 1) : Int32)).bind fun z23 =>
              (some ((m14 + 1) : Int32)).bind fun z24 =>
                some (m11, m12, z23, z24)

def f_X10_shutsAt (m11 : Int32) (m13 : Int32) (a0 : Int32) (a1 : Int32) : Option (Bool) :=
  if a0 = 1 then
    if m11 < (-1) then
      if a0 = 2 then
        some false
      else
        some true
    else
      if a1 = 4 then
        if a0 = 2 then
          some false
        else
          some true
      else
        if a0 = 3 then
          if a1 = 5 then
            if m13 = 2 then
              if a0 = 2 then
                some false
              else
                some true
            else
              if a0 = 4 then
                if m11 ≤ 1 then
                  some false
                else
                  if a0 = 2 then
                    some false
                  else
                    some true
              else
                some false
          else
            if a0 = 4 then
              if m11 ≤ 1 then
                some false
              else
                if a0 = 2 then
                  some false
                else
                  some true
            else
              some false
        else
          if a0 = 4 then
            if m11 ≤ 1 then
              some false
            else
              if a0 = 2 then
                some false
              else
                some true
          else
            some false
  else
    if a0 = 4 then
      if m11 < (-1) then
        if a0 = 2 then
          some false
        else
          some true
      else
        if a1 = 4 then
          if a0 = 2 then
            some false
          else
            some true
        else
          if a0 = 3 then
            if a1 = 5 then
              if m13 = 2 then
                if a0 = 2 then
                  some false
                else
                  some true
              else
                if a0 = 4 then
                  if m11 ≤ 1 then
                    some false
                  else
                    if a0 = 2 then
                      some false
                    else
                      some true
                else
                  some false
            else
              if a0 = 4 then
                if m11 ≤ 1 then
                  some false
                else
                  if a0 = 2 then
                    some false
                  else
                    some true
              else
                some false
          else
            if a0 = 4 then
              if m11 ≤ 1 then
                some false
              else
                if a0 = 2 then
                  some false
                else
                  some true
            else
              some false
    else
      if m11 < (-1) then
        if a0 = 2 then
          some false
        else
          some true
      else
        if a0 = 3 then
          if a1 = 5 then
            if m13 = 2 then
              if a0 = 2 then
                some false
              else
                some true
            else
              if a0 = 4 then
                if m11 ≤ 1 then
                  some false
                else
                  if a0 = 2 then
                    some false
                  else
                    some true
              else
                some false
          else
            if a0 = 4 then
              if m11 ≤ 1 then
                some false
              else
                if a0 = 2 then
                  some false
                else
                  some true
            else
              some false
        else
          if a0 = 4 then
            if m11 ≤ 1 then
              some false
            else
              if a0 = 2 then
                some false
              else
                some true
          else
            some false

def lp_X10_read_43 (v2 : Int32) (v3 : Int32) (v6 : Int32) (v7 : Int32) (s1 : (Nat → Int32)) (n0 : Nat) (K : Int32 → Int32 → Bool → Int32 → Int32 → Bool → Option (Int32 × Bool × Int32 × Int32 × Bool)) : Nat → Int32 → Int32 → Bool → Int32 → Int32 → Bool → Option (Int32 × Bool × Int32 × Int32 × Bool)
  | 0, _, _, _, _, _, _ => none
  | n + 1, v8, s0_11, s0_12, s0_13, s0_14, s0_15 =>
    if v7 ≤ v8 then
      K v8 s0_11 s0_12 s0_13 s0_14 s0_15
    else
      if (bI s0_15) = 0 then
        if v6 = 0 then
          if ((v2 - 1) - v8) < 0 ∨ n0 ≤ Int32.toNatClampNeg ((v2 - 1) - v8) then none
          else
            (f_X10_readWord s0_11 s0_12 s0_13 s0_14 (s1 (Int32.toNatClampNeg ((v2 - 1) - v8)))).bind fun u8 =>
              (f_X10_shutsAt u8.1 u8.2.2.1 v3 (s1 (Int32.toNatClampNeg ((v2 - 1) - v8)))).bind fun u9 =>
                lp_X10_read_43 v2 v3 v6 v7 s1 n0 K n (v8 + 1) u8.1 u8.2.1 u8.2.2.1 u8.2.2.2 u9
        else
          if v8 < 0 ∨ n0 ≤ Int32.toNatClampNeg v8 then none
          else
            (f_X10_readWord s0_11 s0_12 s0_13 s0_14 (s1 (Int32.toNatClampNeg v8))).bind fun u11 =>
              (f_X10_shutsAt u11.1 u11.2.2.1 v3 (s1 (Int32.toNatClampNeg v8))).bind fun u12 =>
                lp_X10_read_43 v2 v3 v6 v7 s1 n0 K n (v8 + 1) u11.1 u11.2.1 u11.2.2.1 u11.2.2.2 u12
      else
        K v8 s0_11 s0_12 s0_13 s0_14 s0_15
def f_X10_read (n0 : Nat) (f0 : (Nat → Int32)) (a1 : Int32) (a2 : Int32) (a3 : Bool) (a4 : Int32) : Option (Int32 × Bool × Int32 × Int32 × Bool) :=
  (f_X10_begin ).bind fun u1 =>
    if (bI a3) = 0 then
      if a2 = 2 then
        if a2 = 2 then
          lp_X10_read_43 a1 a2 1 a1 f0 n0 (fun w24_v8 w24_s0_11 w24_s0_12 w24_s0_13 w24_s0_14 w24_s0_15 =>
            some (w24_s0_11, w24_s0_12, w24_s0_13, w24_s0_14, w24_s0_15)) FU 0 u1.1 u1.2.1 u1.2.2.1 u1.2.2.2.1 u1.2.2.2.2
        else
          if a4 ≤ a1 then
            lp_X10_read_43 a1 a2 1 a4 f0 n0 (fun w26_v8 w26_s0_11 w26_s0_12 w26_s0_13 w26_s0_14 w26_s0_15 =>
              some (w26_s0_11, w26_s0_12, w26_s0_13, w26_s0_14, w26_s0_15)) FU 0 u1.1 u1.2.1 u1.2.2.1 u1.2.2.2.1 u1.2.2.2.2
          else
            lp_X10_read_43 a1 a2 1 a1 f0 n0 (fun w27_v8 w27_s0_11 w27_s0_12 w27_s0_13 w27_s0_14 w27_s0_15 =>
              some (w27_s0_11, w27_s0_12, w27_s0_13, w27_s0_14, w27_s0_15)) FU 0 u1.1 u1.2.1 u1.2.2.1 u1.2.2.2.1 u1.2.2.2.2
      else
        if a2 = 2 then
          lp_X10_read_43 a1 a2 0 a1 f0 n0 (fun w19_v8 w19_s0_11 w19_s0_12 w19_s0_13 w19_s0_14 w19_s0_15 =>
            some (w19_s0_11, w19_s0_12, w19_s0_13, w19_s0_14, w19_s0_15)) FU 0 u1.1 u1.2.1 u1.2.2.1 u1.2.2.2.1 u1.2.2.2.2
        else
          if a4 ≤ a1 then
            lp_X10_read_43 a1 a2 0 a4 f0 n0 (fun w21_v8 w21_s0_11 w21_s0_12 w21_s0_13 w21_s0_14 w21_s0_15 =>
              some (w21_s0_11, w21_s0_12, w21_s0_13, w21_s0_14, w21_s0_15)) FU 0 u1.1 u1.2.1 u1.2.2.1 u1.2.2.2.1 u1.2.2.2.2
          else
            lp_X10_read_43 a1 a2 0 a1 f0 n0 (fun w22_v8 w22_s0_11 w22_s0_12 w22_s0_13 w22_s0_14 w22_s0_15 =>
              some (w22_s0_11, w22_s0_12, w22_s0_13, w22_s0_14, w22_s0_15)) FU 0 u1.1 u1.2.1 u1.2.2.1 u1.2.2.2.1 u1.2.2.2.2
    else
      if a2 = 2 then
        lp_X10_read_43 a1 a2 1 a1 f0 n0 (fun w13_v8 w13_s0_11 w13_s0_12 w13_s0_13 w13_s0_14 w13_s0_15 =>
          some (w13_s0_11, w13_s0_12, w13_s0_13, w13_s0_14, w13_s0_15)) FU 0 u1.1 u1.2.1 u1.2.2.1 u1.2.2.2.1 u1.2.2.2.2
      else
        if a4 ≤ a1 then
          lp_X10_read_43 a1 a2 1 a4 f0 n0 (fun w15_v8 w15_s0_11 w15_s0_12 w15_s0_13 w15_s0_14 w15_s0_15 =>
            some (w15_s0_11, w15_s0_12, w15_s0_13, w15_s0_14, w15_s0_15)) FU 0 u1.1 u1.2.1 u1.2.2.1 u1.2.2.2.1 u1.2.2.2.2
        else
          lp_X10_read_43 a1 a2 1 a1 f0 n0 (fun w16_v8 w16_s0_11 w16_s0_12 w16_s0_13 w16_s0_14 w16_s0_15 =>
            some (w16_s0_11, w16_s0_12, w16_s0_13, w16_s0_14, w16_s0_15)) FU 0 u1.1 u1.2.1 u1.2.2.1 u1.2.2.2.1 u1.2.2.2.2

def lp_X10_valueBehind_41 (v1 : Int32) (s0_8 : (Nat → Int32)) (K : Int32 → Int32 → Bool → Int32 → Int32 → Option (Int32 × Int32 × Bool × Int32 × Int32 × Bool)) : Nat → Int32 → Int32 → Bool → Int32 → Int32 → Option (Int32 × Int32 × Bool × Int32 × Int32 × Bool)
  | 0, _, _, _, _, _ => none
  | n + 1, v3, s0_11, s0_12, s0_13, s0_14 =>
    if v3 < v1 then
      K v3 s0_11 s0_12 s0_13 s0_14
    else
      if v3 < 0 ∨ 9 ≤ Int32.toNatClampNeg v3 then none
      else
        (f_X10_readWord s0_11 s0_12 s0_13 s0_14 (s0_8 (Int32.toNatClampNeg v3))).bind fun u5 =>
          lp_X10_valueBehind_41 v1 s0_8 K n (v3 + (-1)) u5.1 u5.2.1 u5.2.2.1 u5.2.2.2
def lp_X10_valueBehind_10 (v1 : Int32) (s0_8 : (Nat → Int32)) (K : Int32 → Int32 → Bool → Int32 → Int32 → Option (Int32 × Int32 × Bool × Int32 × Int32 × Bool)) : Nat → Int32 → Int32 → Bool → Int32 → Int32 → Option (Int32 × Int32 × Bool × Int32 × Int32 × Bool)
  | 0, _, _, _, _, _ => none
  | n + 1, v3, s0_11, s0_12, s0_13, s0_14 =>
    if v1 < v3 then
      K v3 s0_11 s0_12 s0_13 s0_14
    else
      if v3 < 0 ∨ 9 ≤ Int32.toNatClampNeg v3 then none
      else
        (f_X10_readWord s0_11 s0_12 s0_13 s0_14 (s0_8 (Int32.toNatClampNeg v3))).bind fun u9 =>
          lp_X10_valueBehind_10 v1 s0_8 K n (v3 + 1) u9.1 u9.2.1 u9.2.2.1 u9.2.2.2
def f_X10_valueBehind (m4 : Int32) (m8 : (Nat → Int32)) (a0 : Int32) (a1 : Bool) : Option (Int32 × Int32 × Bool × Int32 × Int32 × Bool) :=
  (f_X10_begin ).bind fun u1 =>
    if (bI a1) = 0 then
      lp_X10_valueBehind_41 a0 m8 (fun w6_v3 w6_s0_11 w6_s0_12 w6_s0_13 w6_s0_14 =>
        some (w6_s0_11, w6_s0_11, w6_s0_12, w6_s0_13, w6_s0_14, u1.2.2.2.2)) FU (m4 - 1) u1.1 u1.2.1 u1.2.2.1 u1.2.2.2.1
    else
      lp_X10_valueBehind_10 a0 m8 (fun w10_v3 w10_s0_11 w10_s0_12 w10_s0_13 w10_s0_14 =>
        some (w10_s0_11, w10_s0_11, w10_s0_12, w10_s0_13, w10_s0_14, u1.2.2.2.2)) FU 0 u1.1 u1.2.1 u1.2.2.1 u1.2.2.2.1

def f_X10_tellWord (m4 : Int32) (m8 : (Nat → Int32)) (m11 : Int32) (m12 : Bool) (m13 : Int32) (m14 : Int32) (m15 : Bool) (a0 : Int32) (a1 : Int32) : Option (Int32 × Int32 × Bool × Int32 × Int32 × Bool) :=
  if a1 = 0 then
    if a0 < 0 ∨ 9 ≤ Int32.toNatClampNeg a0 then none
    else
      some ((m8 (Int32.toNatClampNeg a0)), m11, m12, m13, m14, m15)
  else
    if a1 = 1 then
      if a1 = 2 then
        (f_X10_valueBehind m4 m8 a0 true).bind fun u5 =>
          some ((100 + u5.1), u5.2)
      else
        (f_X10_valueBehind m4 m8 a0 false).bind fun u4 =>
          some ((100 + u4.1), u4.2)
    else
      if a1 = 2 then
        if a1 = 2 then
          (f_X10_valueBehind m4 m8 a0 true).bind fun u9 =>
            some ((100 + u9.1), u9.2)
        else
          (f_X10_valueBehind m4 m8 a0 false).bind fun u8 =>
            some ((100 + u8.1), u8.2)
      else
        some ((-102), m11, m12, m13, m14, m15)

def f_X10_word (m4 : Int32) (m8 : (Nat → Int32)) (m11 : Int32) (m12 : Bool) (m13 : Int32) (m14 : Int32) (m15 : Bool) (a0 : Int32) (a1 : Int32) : Option (Int32 × Int32 × Bool × Int32 × Int32 × Bool) :=
  (f_X10_isWord m4 a0).bind fun u1 =>
    if (bI u1) = 0 then
      some ((-101), m11, m12, m13, m14, m15)
    else
      (f_X10_tellWord m4 m8 m11 m12 m13 m14 m15 a0 a1).bind fun u3 =>
        some u3

def f_X10_change (m4 : Int32) (m6 : Int32) (m8 : (Nat → Int32)) (a0 : Int32) (a1 : Int32) : Option (Int32 × Int32 × (Nat → Int32)) :=
  (f_X10_isWord m4 a0).bind fun u1 =>
    if (bI u1) = 0 then
      some ((-101), m6, m8)
    else
      (f_X10_in (Int32.toInt64 a1) 0 5).bind fun u3 =>
        if (bI u3) = 0 then
          some ((-102), m6, m8)
        else
          if a0 < 0 ∨ 9 ≤ Int32.toNatClampNeg a0 then none
          else
            if a0 < 0 ∨ 9 ≤ Int32.toNatClampNeg a0 then none
            else
              (some (upd m8 (Int32.toNatClampNeg a0) a1)).bind fun z6 =>
                (some ((m6 + 1) : Int32)).bind fun z8 =>
                  some ((m8 (Int32.toNatClampNeg a0)), z8, z6)

def f_X10_snow (m4 : Int32) (m5 : Int32) (a0 : Int32) : Option (Int32 × Int32) :=
  (f_X10_in (Int32.toInt64 a0) 1 9).bind fun u1 =>
    if (bI u1) = 0 then
      some ((-102), m5)
    else
      if m4 = 0 then
        some ((-103), m5)
      else
        some (m5, a0)

def f_X10_listener (m4 : Int32) (m9 : Int32) (m10 : (Nat → Int32)) (a0 : Int32) : Option (Int32 × Int32 × (Nat → Int32)) :=
  (f_X10_in (Int32.toInt64 a0) 0 4).bind fun u1 =>
    if (bI u1) = 0 then
      some ((-102), m9, m10)
    else
      if m4 = 0 then
        some ((-103), m9, m10)
      else
        if m9 = 4 then
          some ((-104), m9, m10)
        else
          if m9 < 0 ∨ 4 ≤ Int32.toNatClampNeg m9 then none
          else
            (some (upd m10 (Int32.toNatClampNeg m9) a0)).bind fun z5 =>
              (some ((m9 + 1) : Int32)).bind fun z7 =>
                some ((z7 - 1), z7, z5)

def f_X10_listenerOf (m4 : Int32) (m5 : Int32) (m8 : (Nat → Int32)) (m10 : (Nat → Int32)) (m11 : Int32) (m12 : Bool) (m13 : Int32) (m14 : Int32) (m15 : Bool) (a0 : Int32) (a1 : Int32) : Option (Int32 × Int32 × Bool × Int32 × Int32 × Bool) :=
  if a1 = 0 then
    if a0 < 0 ∨ 4 ≤ Int32.toNatClampNeg a0 then none
    else
      some ((m10 (Int32.toNatClampNeg a0)), m11, m12, m13, m14, m15)
  else
    (f_X10_in (Int32.toInt64 a1) 1 6).bind fun u2 =>
      if (bI u2) = 0 then
        some ((-102), m11, m12, m13, m14, m15)
      else
        if a0 < 0 ∨ 4 ≤ Int32.toNatClampNeg a0 then none
        else
          if a1 ≤ 3 then
            (f_X10_read 9 m8 m4 (m10 (Int32.toNatClampNeg a0)) false m5).bind fun u6 =>
              if a1 ≤ 3 then
                if a1 = 1 then
                  some (u6.2.2.2.1, u6)
                else
                  if a1 = 2 then
                    some ((100 + u6.1), u6)
                  else
                    if (bI u6.2.2.2.2) = 0 then
                      some (0, u6)
                    else
                      some (1, u6)
              else
                if (a1 - 3) = 1 then
                  some (u6.2.2.2.1, u6)
                else
                  if (a1 - 3) = 2 then
                    some ((100 + u6.1), u6)
                  else
                    if (bI u6.2.2.2.2) = 0 then
                      some (0, u6)
                    else
                      some (1, u6)
          else
            (f_X10_read 9 m8 m4 (m10 (Int32.toNatClampNeg a0)) true m5).bind fun u14 =>
              if a1 ≤ 3 then
                if a1 = 1 then
                  some (u14.2.2.2.1, u14)
                else
                  if a1 = 2 then
                    some ((100 + u14.1), u14)
                  else
                    if (bI u14.2.2.2.2) = 0 then
                      some (0, u14)
                    else
                      some (1, u14)
              else
                if (a1 - 3) = 1 then
                  some (u14.2.2.2.1, u14)
                else
                  if (a1 - 3) = 2 then
                    some ((100 + u14.1), u14)
                  else
                    if (bI u14.2.2.2.2) = 0 then
                      some (0, u14)
                    else
                      some (1, u14)

def f_X10_about (m4 : Int32) (m5 : Int32) (m8 : (Nat → Int32)) (m9 : Int32) (m10 : (Nat → Int32)) (m11 : Int32) (m12 : Bool) (m13 : Int32) (m14 : Int32) (m15 : Bool) (a0 : Int32) (a1 : Int32) : Option (Int32 × Int32 × Bool × Int32 × Int32 × Bool) :=
  (f_X10_isListener m9 a0).bind fun u1 =>
    if (bI u1) = 0 then
      some ((-101), m11, m12, m13, m14, m15)
    else
      (f_X10_listenerOf m4 m5 m8 m10 m11 m12 m13 m14 m15 a0 a1).bind fun u3 =>
        some u3

def f_X10_as (m9 : Int32) (m10 : (Nat → Int32)) (a0 : Int32) (a1 : Int32) : Option (Int32) :=
  (f_X10_isListener m9 a0).bind fun u1 =>
    if (bI u1) = 0 then
      some (-101)
    else
      (f_X10_in (Int32.toInt64 a1) 0 4).bind fun u3 =>
        if (bI u3) = 0 then
          some (-102)
        else
          if a0 < 0 ∨ 4 ≤ Int32.toNatClampNeg a0 then none
          else
            if a1 = 0 then
              some a0
            else
              if a1 = (m10 (Int32.toNatClampNeg a0)) then
                some a0
              else
                if a1 = 1 then
                  if (m10 (Int32.toNatClampNeg a0)) = 4 then
                    some a0
                  else
                    some (-1)
                else
                  some (-1)

def lp_X10_layRow_7 (K : Int32 → Int32 → (Nat → Int32) → Option ((Nat → Int32))) : Nat → Int32 → Int32 → (Nat → Int32) → Option ((Nat → Int32))
  | 0, _, _, _ => none
  | n + 1, v3, v4, s0_17 =>
    if v4 < 0 then
      K v3 v4 s0_17
    else
      if v4 < 0 ∨ 10 ≤ Int32.toNatClampNeg v4 then none
      else
        (some (upd s0_17 (Int32.toNatClampNeg v4) (v3 - v3 / 6 * 6))).bind fun z2 =>
          lp_X10_layRow_7  K n (v3 / 6) (v4 + (-1)) z2
def f_X10_layRow (m17 : (Nat → Int32)) (a0 : Int32) (a1 : Int32) : Option ((Nat → Int32)) :=
  lp_X10_layRow_7  (fun w4_v3 w4_v4 w4_s0_17 =>
    some w4_s0_17) FU a1 (a0 - 1) m17

def f_X10_isAs (m17 : (Nat → Int32)) (a0 : Int32) (a1 : Int32) (a2 : Int32) (a3 : Int32) : Option (Bool × Int32 × Bool × Int32 × Int32 × Bool) :=
  (f_X10_read 10 m17 a1 a0 false a1).bind fun u1 =>
    if (bI u1.2.2.2.2) = 0 then
      if u1.1 = a2 then
        (f_X10_read 10 m17 a1 a0 true a1).bind fun u8 =>
          if (bI u8.2.2.2.2) = 0 then
            if u8.1 = a3 then
              some (true, u8)
            else
              some (false, u8)
          else
            some (false, u8)
      else
        (f_X10_read 10 m17 a1 a0 true a1).bind fun u6 =>
          some (false, u6)
    else
      (f_X10_read 10 m17 a1 a0 true a1).bind fun u3 =>
        some (false, u3)

def lp_X10_write_108 (v1 : Int32) (v2 : Int32) (v3 : Int32) (v4 : Int32) (v5 : Int32) (v6 : Int32) (s0_16 : Int32) (K : Int32 → Int32 → Bool → Int32 → Int32 → Bool → (Nat → Int32) → Option (Int32 × Int32 × Bool × Int32 × Int32 × Bool × Int32 × (Nat → Int32))) : Nat → Int32 → Int32 → Bool → Int32 → Int32 → Bool → (Nat → Int32) → Option (Int32 × Int32 × Bool × Int32 × Int32 × Bool × Int32 × (Nat → Int32))
  | 0, _, _, _, _, _, _, _ => none
  | n + 1, v7, s0_11, s0_12, s0_13, s0_14, s0_15, s0_17 =>
    if v5 ≤ v7 then
      K v7 s0_11 s0_12 s0_13 s0_14 s0_15 s0_17
    else
      (f_X10_layRow s0_17 v6 v7).bind fun u12 =>
        (f_X10_isAs u12 v1 v6 v2 v3).bind fun u13 =>
          if (bI u13.1) = 0 then
            lp_X10_write_108 v1 v2 v3 v4 v5 v6 s0_16 K n (v7 + 1) u13.2.1 u13.2.2.1 u13.2.2.2.1 u13.2.2.2.2.1 u13.2.2.2.2.2 u12
          else
            if v4 = 0 then
              some (v6, u13.2.1, u13.2.2.1, u13.2.2.2.1, u13.2.2.2.2.1, u13.2.2.2.2.2, s0_16, u12)
            else
              if v6 ≤ (v4 - 10) then
                some ((-1), u13.2.1, u13.2.2.1, u13.2.2.2.1, u13.2.2.2.2.1, u13.2.2.2.2.2, s0_16, u12)
              else
                if (v4 - 10) < 0 ∨ 10 ≤ Int32.toNatClampNeg (v4 - 10) then none
                else
                  some ((u12 (Int32.toNatClampNeg (v4 - 10))), u13.2.1, u13.2.2.1, u13.2.2.2.1, u13.2.2.2.2.1, u13.2.2.2.2.2, s0_16, u12)
def lp_X10_write_91 (v1 : Int32) (v2 : Int32) (v3 : Int32) (v4 : Int32) (s0_16 : Int32) (K : Int32 → Int32 → Int32 → Bool → Int32 → Int32 → Bool → (Nat → Int32) → Option (Int32 × Int32 × Bool × Int32 × Int32 × Bool × Int32 × (Nat → Int32))) : Nat → Int32 → Int32 → Int32 → Bool → Int32 → Int32 → Bool → (Nat → Int32) → Option (Int32 × Int32 × Bool × Int32 × Int32 × Bool × Int32 × (Nat → Int32))
  | 0, _, _, _, _, _, _, _, _ => none
  | n + 1, v5, v6, s0_11, s0_12, s0_13, s0_14, s0_15, s0_17 =>
    if 6 ≤ v6 then
      K v5 v6 s0_11 s0_12 s0_13 s0_14 s0_15 s0_17
    else
      lp_X10_write_108 v1 v2 v3 v4 (v5 * 6) v6 s0_16 (fun w18_v7 w18_s0_11 w18_s0_12 w18_s0_13 w18_s0_14 w18_s0_15 w18_s0_17 =>
        lp_X10_write_91 v1 v2 v3 v4 s0_16 K n (v5 * 6) (v6 + 1) w18_s0_11 w18_s0_12 w18_s0_13 w18_s0_14 w18_s0_15 w18_s0_17) FU 0 s0_11 s0_12 s0_13 s0_14 s0_15 s0_17
def f_X10_write (m11 : Int32) (m12 : Bool) (m13 : Int32) (m14 : Int32) (m15 : Bool) (m16 : Int32) (m17 : (Nat → Int32)) (a0 : Int32) (a1 : Int32) (a2 : Int32) (a3 : Int32) : Option (Int32 × Int32 × Bool × Int32 × Int32 × Bool × Int32 × (Nat → Int32)) :=
  (f_X10_in (Int32.toInt64 a0) 0 4).bind fun u1 =>
    if (bI u1) = 0 then
      some ((-102), m11, m12, m13, m14, m15, m16, m17)
    else
      (f_X10_in (Int32.toInt64 a1) (-3) 3).bind fun u3 =>
        if (bI u3) = 0 then
          some ((-102), m11, m12, m13, m14, m15, m16, m17)
        else
          (f_X10_in (Int32.toInt64 a2) (-3) 3).bind fun u5 =>
            if (bI u5) = 0 then
              some ((-102), m11, m12, m13, m14, m15, m16, m17)
            else
              if a3 = 0 then
                if m16 = 20 then
                  some ((-103), m11, m12, m13, m14, m15, m16, m17)
                else
                  (some ((m16 + 1) : Int32)).bind fun z9 =>
                    lp_X10_write_91 a0 a1 a2 a3 z9 (fun w19_v5 w19_v6 w19_s0_11 w19_s0_12 w19_s0_13 w19_s0_14 w19_s0_15 w19_s0_17 =>
                      some ((-1), w19_s0_11, w19_s0_12, w19_s0_13, w19_s0_14, w19_s0_15, z9, w19_s0_17)) FU 1 1 m11 m12 m13 m14 m15 m17
              else
                (f_X10_in (Int32.toInt64 a3) 10 14).bind fun u20 =>
                  if (bI u20) = 0 then
                    some ((-102), m11, m12, m13, m14, m15, m16, m17)
                  else
                    if m16 = 20 then
                      some ((-103), m11, m12, m13, m14, m15, m16, m17)
                    else
                      (some ((m16 + 1) : Int32)).bind fun z23 =>
                        lp_X10_write_91 a0 a1 a2 a3 z23 (fun w24_v5 w24_v6 w24_s0_11 w24_s0_12 w24_s0_13 w24_s0_14 w24_s0_15 w24_s0_17 =>
                          some ((-1), w24_s0_11, w24_s0_12, w24_s0_13, w24_s0_14, w24_s0_15, z23, w24_s0_17)) FU 1 1 m11 m12 m13 m14 m15 m17

def lp_X10_restOf_11 (v4 : Int32) (K : Int32 → Int32 → Option (Int32 × Int32 × Bool × Int32 × Int32 × Bool × (Nat → Int32))) : Nat → Int32 → Int32 → Option (Int32 × Int32 × Bool × Int32 × Int32 × Bool × (Nat → Int32))
  | 0, _, _ => none
  | n + 1, v5, v6 =>
    if v4 ≤ v6 then
      K v5 v6
    else
      lp_X10_restOf_11 v4 K n (v5 * 6) (v6 + 1)
def lp_X10_restOf_59 (v2 : Int32) (v4 : Int32) (s0_4 : Int32) (s0_8 : (Nat → Int32)) (s0_17 : (Nat → Int32)) (K : Int32 → Int32 → Bool → Int32 → Int32 → Option (Int32 × Int32 × Bool × Int32 × Int32 × Bool × (Nat → Int32))) : Nat → Int32 → Int32 → Bool → Int32 → Int32 → Option (Int32 × Int32 × Bool × Int32 × Int32 × Bool × (Nat → Int32))
  | 0, _, _, _, _, _ => none
  | n + 1, v8, s0_11, s0_12, s0_13, s0_14 =>
    if v2 ≤ v8 then
      K v8 s0_11 s0_12 s0_13 s0_14
    else
      if v4 ≤ v8 then
        if ((s0_4 - v2) + v8) < 0 ∨ 9 ≤ Int32.toNatClampNeg ((s0_4 - v2) + v8) then none
        else
          (f_X10_readWord s0_11 s0_12 s0_13 s0_14 (s0_8 (Int32.toNatClampNeg ((s0_4 - v2) + v8)))).bind fun u9 =>
            lp_X10_restOf_59 v2 v4 s0_4 s0_8 s0_17 K n (v8 + 1) u9.1 u9.2.1 u9.2.2.1 u9.2.2.2
      else
        if v8 < 0 ∨ 10 ≤ Int32.toNatClampNeg v8 then none
        else
          (f_X10_readWord s0_11 s0_12 s0_13 s0_14 (s0_17 (Int32.toNatClampNeg v8))).bind fun u11 =>
            lp_X10_restOf_59 v2 v4 s0_4 s0_8 s0_17 K n (v8 + 1) u11.1 u11.2.1 u11.2.2.1 u11.2.2.2
def lp_X10_restOf_37 (v2 : Int32) (v3 : Int32) (v4 : Int32) (v5 : Int32) (s0_4 : Int32) (s0_8 : (Nat → Int32)) (K : Int32 → Int32 → Int32 → Bool → Int32 → Int32 → Bool → (Nat → Int32) → Option (Int32 × Int32 × Bool × Int32 × Int32 × Bool × (Nat → Int32))) : Nat → Int32 → Int32 → Int32 → Bool → Int32 → Int32 → Bool → (Nat → Int32) → Option (Int32 × Int32 × Bool × Int32 × Int32 × Bool × (Nat → Int32))
  | 0, _, _, _, _, _, _, _, _ => none
  | n + 1, v6, v7, s0_11, s0_12, s0_13, s0_14, s0_15, s0_17 =>
    if v5 ≤ v7 then
      K v6 v7 s0_11 s0_12 s0_13 s0_14 s0_15 s0_17
    else
      (f_X10_layRow s0_17 v4 v7).bind fun u4 =>
        (f_X10_begin ).bind fun u5 =>
          lp_X10_restOf_59 v2 v4 s0_4 s0_8 u4 (fun w12_v8 w12_s0_11 w12_s0_12 w12_s0_13 w12_s0_14 =>
            if w12_s0_11 = v3 then
              lp_X10_restOf_37 v2 v3 v4 v5 s0_4 s0_8 K n (v6 + 1) (v7 + 1) w12_s0_11 w12_s0_12 w12_s0_13 w12_s0_14 u5.2.2.2.2 u4
            else
              lp_X10_restOf_37 v2 v3 v4 v5 s0_4 s0_8 K n (v6 + 0) (v7 + 1) w12_s0_11 w12_s0_12 w12_s0_13 w12_s0_14 u5.2.2.2.2 u4) FU 0 u5.1 u5.2.1 u5.2.2.1 u5.2.2.2.1
def f_X10_restOf (m4 : Int32) (m8 : (Nat → Int32)) (m11 : Int32) (m12 : Bool) (m13 : Int32) (m14 : Int32) (m15 : Bool) (m17 : (Nat → Int32)) (a0 : Int32) (a1 : Int32) (a2 : Int32) : Option (Int32 × Int32 × Bool × Int32 × Int32 × Bool × (Nat → Int32)) :=
  lp_X10_restOf_11 (a1 - a0) (fun w2_v5 w2_v6 =>
    lp_X10_restOf_37 a1 a2 (a1 - a0) w2_v5 m4 m8 (fun w14_v6 w14_v7 w14_s0_11 w14_s0_12 w14_s0_13 w14_s0_14 w14_s0_15 w14_s0_17 =>
      some (w14_v6, w14_s0_11, w14_s0_12, w14_s0_13, w14_s0_14, w14_s0_15, w14_s0_17)) FU 0 0 m11 m12 m13 m14 m15 m17) FU 1 0

def f_X10_rest (m4 : Int32) (m8 : (Nat → Int32)) (m11 : Int32) (m12 : Bool) (m13 : Int32) (m14 : Int32) (m15 : Bool) (m17 : (Nat → Int32)) (a0 : Int32) (a1 : Int32) (a2 : Int32) : Option (Int32 × Int32 × Bool × Int32 × Int32 × Bool × (Nat → Int32)) :=
  (f_X10_in (Int32.toInt64 a0) 0 (Int32.toInt64 m4)).bind fun u1 =>
    if (bI u1) = 0 then
      some ((-102), m11, m12, m13, m14, m15, m17)
    else
      if a0 = 0 then
        (f_X10_in (Int32.toInt64 a1) 1 (Int32.toInt64 (a0 + 5))).bind fun u10 =>
          if (bI u10) = 0 then
            some ((-102), m11, m12, m13, m14, m15, m17)
          else
            (f_X10_in (Int32.toInt64 a2) (-20) 20).bind fun u12 =>
              if (bI u12) = 0 then
                some ((-102), m11, m12, m13, m14, m15, m17)
              else
                if m4 = 0 then
                  some ((-103), m11, m12, m13, m14, m15, m17)
                else
                  (f_X10_restOf m4 m8 m11 m12 m13 m14 m15 m17 a0 a1 a2).bind fun u15 =>
                    some u15
      else
        (f_X10_in (Int32.toInt64 a1) (Int32.toInt64 a0) (Int32.toInt64 (a0 + 5))).bind fun u4 =>
          if (bI u4) = 0 then
            some ((-102), m11, m12, m13, m14, m15, m17)
          else
            (f_X10_in (Int32.toInt64 a2) (-20) 20).bind fun u6 =>
              if (bI u6) = 0 then
                some ((-102), m11, m12, m13, m14, m15, m17)
              else
                if m4 = 0 then
                  some ((-103), m11, m12, m13, m14, m15, m17)
                else
                  (f_X10_restOf m4 m8 m11 m12 m13 m14 m15 m17 a0 a1 a2).bind fun u9 =>
                    some u9

def lp_X10_kindsBy_5 (v1 : Int32) (v2 : Bool) (s0_4 : Int32) (s0_5 : Int32) (s0_8 : (Nat → Int32)) (K : Int32 → Int32 → Int32 → Bool → Int32 → Int32 → Bool → Option (Int32 × Int32 × Bool × Int32 × Int32 × Bool)) : Nat → Int32 → Int32 → Int32 → Bool → Int32 → Int32 → Bool → Option (Int32 × Int32 × Bool × Int32 × Int32 × Bool)
  | 0, _, _, _, _, _, _, _ => none
  | n + 1, v3, v4, s0_11, s0_12, s0_13, s0_14, s0_15 =>
    if 5 ≤ v4 then
      K v3 v4 s0_11 s0_12 s0_13 s0_14 s0_15
    else
      (f_X10_read 9 s0_8 s0_4 v4 v2 s0_5).bind fun u2 =>
        if u2.2.2.2.1 = v1 then
          lp_X10_kindsBy_5 v1 v2 s0_4 s0_5 s0_8 K n (v3 ||| (1 <<< (v4 &&& 31))) (v4 + 1) u2.1 u2.2.1 u2.2.2.1 u2.2.2.2.1 u2.2.2.2.2
        else
          lp_X10_kindsBy_5 v1 v2 s0_4 s0_5 s0_8 K n (v3 ||| 0) (v4 + 1) u2.1 u2.2.1 u2.2.2.1 u2.2.2.2.1 u2.2.2.2.2
def f_X10_kindsBy (m4 : Int32) (m5 : Int32) (m8 : (Nat → Int32)) (m11 : Int32) (m12 : Bool) (m13 : Int32) (m14 : Int32) (m15 : Bool) (a0 : Int32) (a1 : Bool) : Option (Int32 × Int32 × Bool × Int32 × Int32 × Bool) :=
  lp_X10_kindsBy_5 a0 a1 m4 m5 m8 (fun w4_v3 w4_v4 w4_s0_11 w4_s0_12 w4_s0_13 w4_s0_14 w4_s0_15 =>
    some (w4_v3, w4_s0_11, w4_s0_12, w4_s0_13, w4_s0_14, w4_s0_15)) FU 0 0 m11 m12 m13 m14 m15

def f_X10_tell (m4 : Int32) (m5 : Int32) (m8 : (Nat → Int32)) (m11 : Int32) (m12 : Bool) (m13 : Int32) (m14 : Int32) (m15 : Bool) (m18 : Int32) (m19 : (Nat → Int32)) (a0 : Int32) (a1 : Bool) : Option (Int32 × Int32 × Bool × Int32 × Int32 × Bool × Int32 × (Nat → Int32)) :=
  (f_X10_in (Int32.toInt64 a0) 0 9).bind fun u1 =>
    if (bI u1) = 0 then
      some ((-102), m11, m12, m13, m14, m15, m18, m19)
    else
      if m4 = 0 then
        some ((-103), m11, m12, m13, m14, m15, m18, m19)
      else
        if m18 = 6 then
          some ((-104), m11, m12, m13, m14, m15, m18, m19)
        else
          (f_X10_kindsBy m4 m5 m8 m11 m12 m13 m14 m15 a0 a1).bind fun u5 =>
            if m18 < 0 ∨ 6 ≤ Int32.toNatClampNeg m18 then none
            else
              (some (upd m19 (Int32.toNatClampNeg m18) u5.1)).bind fun z6 =>
                (some ((m18 + 1) : Int32)).bind fun z8 =>
                  some (z8, u5.2.1, u5.2.2.1, u5.2.2.2.1, u5.2.2.2.2.1, u5.2.2.2.2.2, z8, z6)

def f_X10_forget (m18 : Int32) : Option (Int32 × Int32) :=
  some (m18, 0)

def lp_X10_whichOf_5 (s0_18 : Int32) (s0_19 : (Nat → Int32)) (K : Int32 → Int32 → Option (Int32)) : Nat → Int32 → Int32 → Option (Int32)
  | 0, _, _ => none
  | n + 1, v1, v2 =>
    if s0_18 ≤ v2 then
      K v1 v2
    else
      if v2 < 0 ∨ 6 ≤ Int32.toNatClampNeg v2 then none
      else
        lp_X10_whichOf_5 s0_18 s0_19 K n (v1 &&& (s0_19 (Int32.toNatClampNeg v2))) (v2 + 1)
def f_X10_whichOf (m18 : Int32) (m19 : (Nat → Int32)) : Option (Int32) :=
  lp_X10_whichOf_5 m18 m19 (fun w3_v1 w3_v2 =>
    some w3_v1) FU 31 0

def f_X10_which (m18 : Int32) (m19 : (Nat → Int32)) : Option (Int32) :=
  (f_X10_whichOf m18 m19).bind fun u1 =>
    some u1

def lp_X10_worstBy_2 (K : Int32 → (Nat → Int32) → Option (Int32 × Int32 × Bool × Int32 × Int32 × Bool × (Nat → Int32))) : Nat → Int32 → (Nat → Int32) → Option (Int32 × Int32 × Bool × Int32 × Int32 × Bool × (Nat → Int32))
  | 0, _, _ => none
  | n + 1, v3, s0_20 =>
    if 10 ≤ v3 then
      K v3 s0_20
    else
      if v3 < 0 ∨ 10 ≤ Int32.toNatClampNeg v3 then none
      else
        (some (upd s0_20 (Int32.toNatClampNeg v3) 0)).bind fun z2 =>
          lp_X10_worstBy_2  K n (v3 + 1) z2
def lp_X10_worstBy_26 (v1 : Int32) (v2 : Bool) (s0_4 : Int32) (s0_5 : Int32) (s0_8 : (Nat → Int32)) (K : Int32 → Int32 → Int32 → Bool → Int32 → Int32 → Bool → (Nat → Int32) → Option (Int32 × Int32 × Bool × Int32 × Int32 × Bool × (Nat → Int32))) : Nat → Int32 → Int32 → Int32 → Bool → Int32 → Int32 → Bool → (Nat → Int32) → Option (Int32 × Int32 × Bool × Int32 × Int32 × Bool × (Nat → Int32))
  | 0, _, _, _, _, _, _, _, _ => none
  | n + 1, v3, v4, s0_11, s0_12, s0_13, s0_14, s0_15, s0_20 =>
    if 5 ≤ v4 then
      K v3 v4 s0_11 s0_12 s0_13 s0_14 s0_15 s0_20
    else
      if ((v1 >>> (v4 &&& 31)) &&& 1) = 1 then
        (f_X10_read 9 s0_8 s0_4 v4 v2 s0_5).bind fun u7 =>
          if u7.2.2.2.1 < 0 ∨ 10 ≤ Int32.toNatClampNeg u7.2.2.2.1 then none
          else
            if u7.2.2.2.1 < 0 ∨ 10 ≤ Int32.toNatClampNeg u7.2.2.2.1 then none
            else
              (some (upd s0_20 (Int32.toNatClampNeg u7.2.2.2.1) ((s0_20 (Int32.toNatClampNeg u7.2.2.2.1)) + 1))).bind fun z9 =>
                if u7.2.2.2.1 < 0 ∨ 10 ≤ Int32.toNatClampNeg u7.2.2.2.1 then none
                else
                  if (z9 (Int32.toNatClampNeg u7.2.2.2.1)) ≤ v3 then
                    lp_X10_worstBy_26 v1 v2 s0_4 s0_5 s0_8 K n v3 (v4 + 1) u7.1 u7.2.1 u7.2.2.1 u7.2.2.2.1 u7.2.2.2.2 z9
                  else
                    if u7.2.2.2.1 < 0 ∨ 10 ≤ Int32.toNatClampNeg u7.2.2.2.1 then none
                    else
                      lp_X10_worstBy_26 v1 v2 s0_4 s0_5 s0_8 K n (z9 (Int32.toNatClampNeg u7.2.2.2.1)) (v4 + 1) u7.1 u7.2.1 u7.2.2.1 u7.2.2.2.1 u7.2.2.2.2 z9
      else
        lp_X10_worstBy_26 v1 v2 s0_4 s0_5 s0_8 K n v3 (v4 + 1) s0_11 s0_12 s0_13 s0_14 s0_15 s0_20
def f_X10_worstBy (m4 : Int32) (m5 : Int32) (m8 : (Nat → Int32)) (m11 : Int32) (m12 : Bool) (m13 : Int32) (m14 : Int32) (m15 : Bool) (m20 : (Nat → Int32)) (a0 : Int32) (a1 : Bool) : Option (Int32 × Int32 × Bool × Int32 × Int32 × Bool × (Nat → Int32)) :=
  lp_X10_worstBy_2  (fun w4_v3 w4_s0_20 =>
    lp_X10_worstBy_26 a0 a1 m4 m5 m8 (fun w14_v3 w14_v4 w14_s0_11 w14_s0_12 w14_s0_13 w14_s0_14 w14_s0_15 w14_s0_20 =>
      some (w14_v3, w14_s0_11, w14_s0_12, w14_s0_13, w14_s0_14, w14_s0_15, w14_s0_20)) FU 0 0 m11 m12 m13 m14 m15 w4_s0_20) FU 0 m20

def f_X10_askOf (m4 : Int32) (m5 : Int32) (m8 : (Nat → Int32)) (m11 : Int32) (m12 : Bool) (m13 : Int32) (m14 : Int32) (m15 : Bool) (m18 : Int32) (m19 : (Nat → Int32)) (m20 : (Nat → Int32)) : Option (Int32 × Int32 × Bool × Int32 × Int32 × Bool × (Nat → Int32)) :=
  (f_X10_whichOf m18 m19).bind fun u1 =>
    if u1 = 0 then
      some ((-1), m11, m12, m13, m14, m15, m20)
    else
      (f_X10_worstBy m4 m5 m8 m11 m12 m13 m14 m15 m20 u1 true).bind fun u3 =>
        (f_X10_worstBy m4 m5 m8 u3.2.1 u3.2.2.1 u3.2.2.2.1 u3.2.2.2.2.1 u3.2.2.2.2.2.1 u3.2.2.2.2.2.2 u1 false).bind fun u4 =>
          if u4.1 ≤ u3.1 then
            some (0, u4.2)
          else
            some (1, u4.2)

def f_X10_ask (m4 : Int32) (m5 : Int32) (m8 : (Nat → Int32)) (m11 : Int32) (m12 : Bool) (m13 : Int32) (m14 : Int32) (m15 : Bool) (m18 : Int32) (m19 : (Nat → Int32)) (m20 : (Nat → Int32)) : Option (Int32 × Int32 × Bool × Int32 × Int32 × Bool × (Nat → Int32)) :=
  if m4 = 0 then
    some ((-103), m11, m12, m13, m14, m15, m20)
  else
    (f_X10_askOf m4 m5 m8 m11 m12 m13 m14 m15 m18 m19 m20).bind fun u2 =>
      some u2

def f_X10_draw (m21 : Int32) (a0 : Int32) : Option (Int32 × Int32) :=
  (some ((Int64.toInt32 (((1103515245 * (Int32.toInt64 m21)) + 12345) &&& 2147483647)) : Int32)).bind fun z1 =>
    if a0 = 0 then none
    else
      some (((z1 / 65536) - (z1 / 65536) / a0 * a0), z1)

def lp_X10_days_74 (v7 : Int32) (K : Int32 → (Nat → Int32) → Int32 → Option (Int32 × Int32 × Bool × Int32 × Int32 × Bool × (Nat → Int32) × Int32)) : Nat → Int32 → (Nat → Int32) → Int32 → Option (Int32 × Int32 × Bool × Int32 × Int32 × Bool × (Nat → Int32) × Int32)
  | 0, _, _, _ => none
  | n + 1, v8, s0_17, s0_21 =>
    if v7 ≤ v8 then
      K v8 s0_17 s0_21
    else
      (f_X10_draw s0_21 6).bind fun u10 =>
        if v8 < 0 ∨ 10 ≤ Int32.toNatClampNeg v8 then none
        else
          (some (upd s0_17 (Int32.toNatClampNeg v8) u10.1)).bind fun z11 =>
            lp_X10_days_74 v7 K n (v8 + 1) z11 u10.2
def lp_X10_days_55 (v1 : Int32) (s0_5 : Int32) (s0_9 : Int32) (s0_10 : (Nat → Int32)) (K : Int32 → Int32 → Int32 → Int32 → Bool → Int32 → Int32 → Bool → (Nat → Int32) → Int32 → Option (Int32 × Int32 × Bool × Int32 × Int32 × Bool × (Nat → Int32) × Int32)) : Nat → Int32 → Int32 → Int32 → Int32 → Bool → Int32 → Int32 → Bool → (Nat → Int32) → Int32 → Option (Int32 × Int32 × Bool × Int32 × Int32 × Bool × (Nat → Int32) × Int32)
  | 0, _, _, _, _, _, _, _, _, _, _ => none
  | n + 1, v4, v5, v6, s0_11, s0_12, s0_13, s0_14, s0_15, s0_17, s0_21 =>
    if v1 ≤ v6 then
      K v4 v5 v6 s0_11 s0_12 s0_13 s0_14 s0_15 s0_17 s0_21
    else
      (f_X10_draw s0_21 9).bind fun u8 =>
        lp_X10_days_74 (u8.1 + 1) (fun w13_v8 w13_s0_17 w13_s0_21 =>
          (f_X10_draw w13_s0_21 s0_9).bind fun u14 =>
            if u14.1 < 0 ∨ 4 ≤ Int32.toNatClampNeg u14.1 then none
            else
              (f_X10_read 10 w13_s0_17 (u8.1 + 1) (s0_10 (Int32.toNatClampNeg u14.1)) false s0_5).bind fun u16 =>
                if (bI u16.2.2.2.2) = 0 then
                  lp_X10_days_55 v1 s0_5 s0_9 s0_10 K n (v4 + 0) (v5 + u16.1) (v6 + 1) u16.1 u16.2.1 u16.2.2.1 u16.2.2.2.1 u16.2.2.2.2 w13_s0_17 u14.2
                else
                  lp_X10_days_55 v1 s0_5 s0_9 s0_10 K n (v4 + 1) (v5 + u16.1) (v6 + 1) u16.1 u16.2.1 u16.2.2.1 u16.2.2.2.1 u16.2.2.2.2 w13_s0_17 u14.2) FU 0 s0_17 u8.2
def f_X10_days (m5 : Int32) (m9 : Int32) (m10 : (Nat → Int32)) (m11 : Int32) (m12 : Bool) (m13 : Int32) (m14 : Int32) (m15 : Bool) (m17 : (Nat → Int32)) (m21 : Int32) (a0 : Int32) (a1 : Int32) (a2 : Int32) : Option (Int32 × Int32 × Bool × Int32 × Int32 × Bool × (Nat → Int32) × Int32) :=
  (f_X10_in (Int32.toInt64 a0) 1 40).bind fun u1 =>
    if (bI u1) = 0 then
      some ((-102), m11, m12, m13, m14, m15, m17, m21)
    else
      if a1 < 0 then
        some ((-102), m11, m12, m13, m14, m15, m17, m21)
      else
        (f_X10_in (Int32.toInt64 a2) 0 2).bind fun u4 =>
          if (bI u4) = 0 then
            some ((-102), m11, m12, m13, m14, m15, m17, m21)
          else
            if m9 = 0 then
              some ((-103), m11, m12, m13, m14, m15, m17, m21)
            else
              lp_X10_days_55 a0 m5 m9 m10 (fun w18_v4 w18_v5 w18_v6 w18_s0_11 w18_s0_12 w18_s0_13 w18_s0_14 w18_s0_15 w18_s0_17 w18_s0_21 =>
                if a2 = 0 then
                  some (w18_v4, w18_s0_11, w18_s0_12, w18_s0_13, w18_s0_14, w18_s0_15, w18_s0_17, w18_s0_21)
                else
                  if a2 = 1 then
                    some ((1000 + w18_v5), w18_s0_11, w18_s0_12, w18_s0_13, w18_s0_14, w18_s0_15, w18_s0_17, w18_s0_21)
                  else
                    some (w18_s0_21, w18_s0_11, w18_s0_12, w18_s0_13, w18_s0_14, w18_s0_15, w18_s0_17, w18_s0_21)) FU 0 0 0 m11 m12 m13 m14 m15 m17 a1

def f_X10_image (m4 : Int32) (m5 : Int32) (m6 : Int32) (m7 : Int32) (m8 : (Nat → Int32)) (m9 : Int32) (m18 : Int32) (m19 : (Nat → Int32)) (m22 : Int32) (m23 : Int32) (m24 : Int32) (m25 : Int32) (m26 : Int32) (m27 : (Nat → Int32)) (m28 : (Nat → Int32)) : Option (Int32 × Int32 × Int32 × Int32 × Int32 × Int32 × (Nat → Int32) × (Nat → Int32)) :=
  if m4 = 0 then
    some ((-103), m22, m23, m24, m25, m26, m27, m28)
  else
    (f_X10_copy 9 m8 9 m27).bind fun u2 =>
      (f_X10_copy 6 m19 6 m28).bind fun u3 =>
        some (m4, m7, m5, m6, m9, m18, u2, u3)

def f_X10_restore (m4 : Int32) (m5 : Int32) (m6 : Int32) (m7 : Int32) (m8 : (Nat → Int32)) (m9 : Int32) (m18 : Int32) (m19 : (Nat → Int32)) (m22 : Int32) (m23 : Int32) (m24 : Int32) (m25 : Int32) (m26 : Int32) (m27 : (Nat → Int32)) (m28 : (Nat → Int32)) : Option (Int32 × Int32 × Int32 × (Nat → Int32) × Int32 × Int32 × (Nat → Int32)) :=
  if m22 = m7 then
    (f_X10_copy 9 m27 9 m8).bind fun u2 =>
      (f_X10_copy 6 m28 6 m19).bind fun u3 =>
        some (m4, m23, m24, u2, m25, m26, u3)
  else
    some ((-103), m5, m6, m8, m9, m18, m19)

def lp_X10_shutMany_4 (s0_4 : Int32) (s0_5 : Int32) (s0_8 : (Nat → Int32)) (s0_9 : Int32) (s0_10 : (Nat → Int32)) (K : Int32 → Int32 → Int32 → Bool → Int32 → Int32 → Bool → Option (Int32 × Int32 × Bool × Int32 × Int32 × Bool)) : Nat → Int32 → Int32 → Int32 → Bool → Int32 → Int32 → Bool → Option (Int32 × Int32 × Bool × Int32 × Int32 × Bool)
  | 0, _, _, _, _, _, _, _ => none
  | n + 1, v1, v2, s0_11, s0_12, s0_13, s0_14, s0_15 =>
    if s0_9 ≤ v2 then
      K v1 v2 s0_11 s0_12 s0_13 s0_14 s0_15
    else
      (f_X10_listenerOf s0_4 s0_5 s0_8 s0_10 s0_11 s0_12 s0_13 s0_14 s0_15 v2 3).bind fun u2 =>
        lp_X10_shutMany_4 s0_4 s0_5 s0_8 s0_9 s0_10 K n (v1 + u2.1) (v2 + 1) u2.2.1 u2.2.2.1 u2.2.2.2.1 u2.2.2.2.2.1 u2.2.2.2.2.2
def f_X10_shutMany (m4 : Int32) (m5 : Int32) (m8 : (Nat → Int32)) (m9 : Int32) (m10 : (Nat → Int32)) (m11 : Int32) (m12 : Bool) (m13 : Int32) (m14 : Int32) (m15 : Bool) : Option (Int32 × Int32 × Bool × Int32 × Int32 × Bool) :=
  lp_X10_shutMany_4 m4 m5 m8 m9 m10 (fun w3_v1 w3_v2 w3_s0_11 w3_s0_12 w3_s0_13 w3_s0_14 w3_s0_15 =>
    some (w3_v1, w3_s0_11, w3_s0_12, w3_s0_13, w3_s0_14, w3_s0_15)) FU 0 0 m11 m12 m13 m14 m15

def f_X10_countOf (m1 : Int32) (m4 : Int32) (m5 : Int32) (m6 : Int32) (m7 : Int32) (m8 : (Nat → Int32)) (m9 : Int32) (m10 : (Nat → Int32)) (m11 : Int32) (m12 : Bool) (m13 : Int32) (m14 : Int32) (m15 : Bool) (m16 : Int32) (m18 : Int32) (a0 : Int32) : Option (Int32 × Int32 × Bool × Int32 × Int32 × Bool) :=
  if a0 = 0 then
    some (m4, m11, m12, m13, m14, m15)
  else
    if a0 = 1 then
      some (m5, m11, m12, m13, m14, m15)
    else
      if a0 = 2 then
        some (m9, m11, m12, m13, m14, m15)
      else
        if a0 = 3 then
          (f_X10_shutMany m4 m5 m8 m9 m10 m11 m12 m13 m14 m15).bind fun u5 =>
            some u5
        else
          if a0 = 4 then
            some (m6, m11, m12, m13, m14, m15)
          else
            if a0 = 5 then
              some (m18, m11, m12, m13, m14, m15)
            else
              if a0 = 6 then
                some (m1, m11, m12, m13, m14, m15)
              else
                if a0 = 7 then
                  some (m7, m11, m12, m13, m14, m15)
                else
                  if a0 = 8 then
                    some (m16, m11, m12, m13, m14, m15)
                  else
                    some ((-102), m11, m12, m13, m14, m15)

def f_X10_count (m1 : Int32) (m4 : Int32) (m5 : Int32) (m6 : Int32) (m7 : Int32) (m8 : (Nat → Int32)) (m9 : Int32) (m10 : (Nat → Int32)) (m11 : Int32) (m12 : Bool) (m13 : Int32) (m14 : Int32) (m15 : Bool) (m16 : Int32) (m18 : Int32) (a0 : Int32) : Option (Int32 × Int32 × Bool × Int32 × Int32 × Bool) :=
  (f_X10_countOf m1 m4 m5 m6 m7 m8 m9 m10 m11 m12 m13 m14 m15 m16 m18 a0).bind fun u1 =>
    some u1

def f_X10_say (m29 : Int64) (a0 : Int64) : Option (Int64) :=
  (some (((31 * m29) + a0) : Int64)).bind fun z1 =>
    some z1

def lp_X10_digest_19 (v1 : Int32) (s0_4 : Int32) (s0_8 : (Nat → Int32)) (K : Int32 → Int32 → Bool → Int32 → Int32 → Bool → Int64 → Option (Int64 × Int32 × Bool × Int32 × Int32 × Bool × (Nat → Int32) × (Nat → Int32) × Int64)) : Nat → Int32 → Int32 → Bool → Int32 → Int32 → Bool → Int64 → Option (Int64 × Int32 × Bool × Int32 × Int32 × Bool × (Nat → Int32) × (Nat → Int32) × Int64)
  | 0, _, _, _, _, _, _, _ => none
  | n + 1, v2, s0_11, s0_12, s0_13, s0_14, s0_15, s0_29 =>
    if 3 ≤ v2 then
      K v2 s0_11 s0_12 s0_13 s0_14 s0_15 s0_29
    else
      (f_X10_tellWord s0_4 s0_8 s0_11 s0_12 s0_13 s0_14 s0_15 v1 v2).bind fun u3 =>
        (f_X10_say s0_29 (Int32.toInt64 u3.1)).bind fun u4 =>
          lp_X10_digest_19 v1 s0_4 s0_8 K n (v2 + 1) u3.2.1 u3.2.2.1 u3.2.2.2.1 u3.2.2.2.2.1 u3.2.2.2.2.2 u4
def lp_X10_digest_9 (s0_4 : Int32) (s0_8 : (Nat → Int32)) (K : Int32 → Int32 → Bool → Int32 → Int32 → Bool → Int64 → Option (Int64 × Int32 × Bool × Int32 × Int32 × Bool × (Nat → Int32) × (Nat → Int32) × Int64)) : Nat → Int32 → Int32 → Bool → Int32 → Int32 → Bool → Int64 → Option (Int64 × Int32 × Bool × Int32 × Int32 × Bool × (Nat → Int32) × (Nat → Int32) × Int64)
  | 0, _, _, _, _, _, _, _ => none
  | n + 1, v1, s0_11, s0_12, s0_13, s0_14, s0_15, s0_29 =>
    if s0_4 ≤ v1 then
      K v1 s0_11 s0_12 s0_13 s0_14 s0_15 s0_29
    else
      lp_X10_digest_19 v1 s0_4 s0_8 (fun w5_v2 w5_s0_11 w5_s0_12 w5_s0_13 w5_s0_14 w5_s0_15 w5_s0_29 =>
        lp_X10_digest_9 s0_4 s0_8 K n (v1 + 1) w5_s0_11 w5_s0_12 w5_s0_13 w5_s0_14 w5_s0_15 w5_s0_29) FU 0 s0_11 s0_12 s0_13 s0_14 s0_15 s0_29
def lp_X10_digest_59 (v1 : Int32) (s0_4 : Int32) (s0_5 : Int32) (s0_8 : (Nat → Int32)) (s0_10 : (Nat → Int32)) (K : Int32 → Int32 → Bool → Int32 → Int32 → Bool → Int64 → Option (Int64 × Int32 × Bool × Int32 × Int32 × Bool × (Nat → Int32) × (Nat → Int32) × Int64)) : Nat → Int32 → Int32 → Bool → Int32 → Int32 → Bool → Int64 → Option (Int64 × Int32 × Bool × Int32 × Int32 × Bool × (Nat → Int32) × (Nat → Int32) × Int64)
  | 0, _, _, _, _, _, _, _ => none
  | n + 1, v2, s0_11, s0_12, s0_13, s0_14, s0_15, s0_29 =>
    if 7 ≤ v2 then
      K v2 s0_11 s0_12 s0_13 s0_14 s0_15 s0_29
    else
      (f_X10_listenerOf s0_4 s0_5 s0_8 s0_10 s0_11 s0_12 s0_13 s0_14 s0_15 v1 v2).bind fun u9 =>
        (f_X10_say s0_29 (Int32.toInt64 u9.1)).bind fun u10 =>
          lp_X10_digest_59 v1 s0_4 s0_5 s0_8 s0_10 K n (v2 + 1) u9.2.1 u9.2.2.1 u9.2.2.2.1 u9.2.2.2.2.1 u9.2.2.2.2.2 u10
def lp_X10_digest_49 (s0_4 : Int32) (s0_5 : Int32) (s0_8 : (Nat → Int32)) (s0_9 : Int32) (s0_10 : (Nat → Int32)) (K : Int32 → Int32 → Bool → Int32 → Int32 → Bool → Int64 → Option (Int64 × Int32 × Bool × Int32 × Int32 × Bool × (Nat → Int32) × (Nat → Int32) × Int64)) : Nat → Int32 → Int32 → Bool → Int32 → Int32 → Bool → Int64 → Option (Int64 × Int32 × Bool × Int32 × Int32 × Bool × (Nat → Int32) × (Nat → Int32) × Int64)
  | 0, _, _, _, _, _, _, _ => none
  | n + 1, v1, s0_11, s0_12, s0_13, s0_14, s0_15, s0_29 =>
    if s0_9 ≤ v1 then
      K v1 s0_11 s0_12 s0_13 s0_14 s0_15 s0_29
    else
      lp_X10_digest_59 v1 s0_4 s0_5 s0_8 s0_10 (fun w11_v2 w11_s0_11 w11_s0_12 w11_s0_13 w11_s0_14 w11_s0_15 w11_s0_29 =>
        lp_X10_digest_49 s0_4 s0_5 s0_8 s0_9 s0_10 K n (v1 + 1) w11_s0_11 w11_s0_12 w11_s0_13 w11_s0_14 w11_s0_15 w11_s0_29) FU 0 s0_11 s0_12 s0_13 s0_14 s0_15 s0_29
def lp_X10_digest_127 (s0_0 : (Nat → Int32)) (s0_1 : Int32) (K : Int32 → Int64 → Option (Int64 × Int32 × Bool × Int32 × Int32 × Bool × (Nat → Int32) × (Nat → Int32) × Int64)) : Nat → Int32 → Int64 → Option (Int64 × Int32 × Bool × Int32 × Int32 × Bool × (Nat → Int32) × (Nat → Int32) × Int64)
  | 0, _, _ => none
  | n + 1, v1, s0_29 =>
    if s0_1 ≤ v1 then
      K v1 s0_29
    else
      if v1 < 0 ∨ 12 ≤ Int32.toNatClampNeg v1 then none
      else
        (f_X10_say s0_29 (Int32.toInt64 (s0_0 (Int32.toNatClampNeg v1)))).bind fun u18 =>
          lp_X10_digest_127 s0_0 s0_1 K n (v1 + 1) u18
def lp_X10_digest_154 (s0_1 : Int32) (s0_4 : Int32) (s0_5 : Int32) (s0_6 : Int32) (s0_7 : Int32) (s0_8 : (Nat → Int32)) (s0_9 : Int32) (s0_10 : (Nat → Int32)) (s0_16 : Int32) (s0_18 : Int32) (K : Int32 → Int32 → Bool → Int32 → Int32 → Bool → Int64 → Option (Int64 × Int32 × Bool × Int32 × Int32 × Bool × (Nat → Int32) × (Nat → Int32) × Int64)) : Nat → Int32 → Int32 → Bool → Int32 → Int32 → Bool → Int64 → Option (Int64 × Int32 × Bool × Int32 × Int32 × Bool × (Nat → Int32) × (Nat → Int32) × Int64)
  | 0, _, _, _, _, _, _, _ => none
  | n + 1, v1, s0_11, s0_12, s0_13, s0_14, s0_15, s0_29 =>
    if 9 ≤ v1 then
      K v1 s0_11 s0_12 s0_13 s0_14 s0_15 s0_29
    else
      (f_X10_countOf s0_1 s0_4 s0_5 s0_6 s0_7 s0_8 s0_9 s0_10 s0_11 s0_12 s0_13 s0_14 s0_15 s0_16 s0_18 v1).bind fun u21 =>
        (f_X10_say s0_29 (Int32.toInt64 u21.1)).bind fun u22 =>
          lp_X10_digest_154 s0_1 s0_4 s0_5 s0_6 s0_7 s0_8 s0_9 s0_10 s0_16 s0_18 K n (v1 + 1) u21.2.1 u21.2.2.1 u21.2.2.2.1 u21.2.2.2.2.1 u21.2.2.2.2.2 u22
def f_X10_digest (m0 : (Nat → Int32)) (m1 : Int32) (m4 : Int32) (m5 : Int32) (m6 : Int32) (m7 : Int32) (m8 : (Nat → Int32)) (m9 : Int32) (m10 : (Nat → Int32)) (m11 : Int32) (m12 : Bool) (m13 : Int32) (m14 : Int32) (m15 : Bool) (m16 : Int32) (m17 : (Nat → Int32)) (m18 : Int32) (m19 : (Nat → Int32)) (m20 : (Nat → Int32)) : Option (Int64 × Int32 × Bool × Int32 × Int32 × Bool × (Nat → Int32) × (Nat → Int32) × Int64) :=
  lp_X10_digest_9 m4 m8 (fun w6_v1 w6_s0_11 w6_s0_12 w6_s0_13 w6_s0_14 w6_s0_15 w6_s0_29 =>
    lp_X10_digest_49 m4 m5 m8 m9 m10 (fun w12_v1 w12_s0_11 w12_s0_12 w12_s0_13 w12_s0_14 w12_s0_15 w12_s0_29 =>
      (f_X10_whichOf m18 m19).bind fun u13 =>
        (f_X10_say w12_s0_29 (Int32.toInt64 u13)).bind fun u14 =>
          if m4 ≤ 0 then
            lp_X10_digest_127 m0 m1 (fun w19_v1 w19_s0_29 =>
              lp_X10_digest_154 m1 m4 m5 m6 m7 m8 m9 m10 m16 m18 (fun w23_v1 w23_s0_11 w23_s0_12 w23_s0_13 w23_s0_14 w23_s0_15 w23_s0_29 =>
                some (w23_s0_29, w23_s0_11, w23_s0_12, w23_s0_13, w23_s0_14, w23_s0_15, m17, m20, w23_s0_29)) FU 0 w12_s0_11 w12_s0_12 w12_s0_13 w12_s0_14 w12_s0_15 w19_s0_29) FU 0 u14
          else
            (f_X10_askOf m4 m5 m8 w12_s0_11 w12_s0_12 w12_s0_13 w12_s0_14 w12_s0_15 m18 m19 m20).bind fun u24 =>
              (f_X10_say u14 (Int32.toInt64 u24.1)).bind fun u25 =>
                (f_X10_restOf m4 m8 u24.2.1 u24.2.2.1 u24.2.2.2.1 u24.2.2.2.2.1 u24.2.2.2.2.2.1 m17 0 3 1).bind fun u26 =>
                  (f_X10_say u25 (Int32.toInt64 u26.1)).bind fun u27 =>
                    lp_X10_digest_127 m0 m1 (fun w28_v1 w28_s0_29 =>
                      lp_X10_digest_154 m1 m4 m5 m6 m7 m8 m9 m10 m16 m18 (fun w29_v1 w29_s0_11 w29_s0_12 w29_s0_13 w29_s0_14 w29_s0_15 w29_s0_29 =>
                        some (w29_s0_29, w29_s0_11, w29_s0_12, w29_s0_13, w29_s0_14, w29_s0_15, u26.2.2.2.2.2.2, u24.2.2.2.2.2.2, w29_s0_29)) FU 0 u26.2.1 u26.2.2.1 u26.2.2.2.1 u26.2.2.2.2.1 u26.2.2.2.2.2.1 w28_s0_29) FU 0 u27) FU 0 w6_s0_11 w6_s0_12 w6_s0_13 w6_s0_14 w6_s0_15 w6_s0_29) FU 0 m11 m12 m13 m14 m15 953
