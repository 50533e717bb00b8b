theorem X_say (d' : Nat → Int32) (m c : Nat) (sn a : Int32) (hm : m ≤ 5) (ha : 10 ≤ a ∧ a ≤ 14) (hd : ∀ j, j < m → d' j = dig m c j) : f_X3_wordAt (d', nI m, sn) (a - 10) = some (wsay m c a) := by
  have h0 : ¬ a = 0 := by intro h; rw [h] at ha; exact absurd ha.1 (by decide)
  obtain ⟨j, hj, ej⟩ := w_idx a ha.1 ha.2
  unfold wsay
  rw [if_neg h0, ej]
  by_cases h : m ≤ j
  · have hl : nI m ≤ nI j := (nI_leI (by omega) (by omega)).mpr h
    rw [if_pos hl]
    unfold f_X3_wordAt
    rw [if_neg (nI_pos (by omega)), if_pos hl]
  · have hl : ¬ nI m ≤ nI j := by rw [nI_leI (by omega) (by omega)]; exact h
    rw [if_neg hl, X_wordAt d' m j sn (by omega) (by omega), nI_clamp (by omega), hd j (by omega)]
theorem fndL_le (k e t : Int32) : ∀ (a n m c : Nat), fndL k e t a n = some (m, c) → m < n + a := by
  intro a
  induction a with
  | zero => intro n m c h; cases h
  | succ a ih =>
    intro n m c h
    simp only [fndL] at h
    cases hfs : fstc (gd k e t n) (6 ^ n) 0 with
    | some c1 => rw [hfs] at h; cases h; omega
    | none => rw [hfs] at h; have := ih (n + 1) m c h; omega
theorem out14 (d : Int32) (h10 : ¬ d < 10) (h : ¬ (10 ≤ d ∧ d ≤ 14)) : 5 ≤ d - 10 := by
  have h1 : 10 ≤ d := Int32.not_lt.mp h10
  have h2 : ¬ d ≤ 14 := fun g => h ⟨h1, g⟩
  obtain ⟨j, hj, e⟩ := nI_of (x := d) (Int32.not_lt.mpr (Int32.le_trans (by decide) h1))
  subst e
  have g1 : 10 ≤ j := (nI_leI (a := 10) (b := j) (by omega) hj).mp h1
  have g2 : ¬ j ≤ 14 := fun g => h2 ((nI_leI (a := j) (b := 14) hj (by omega)).mpr g)
  rw [show (10 : Int32) = nI 10 from rfl, pk_sub (by omega), show (5 : Int32) = nI 5 from rfl, nI_leI (by omega) (by omega)]
  omega
theorem in14 (d : Int32) (h : 10 ≤ d ∧ d ≤ 14) : ¬ d < 10 ∧ ¬ 5 ≤ d - 10 ∧ ¬ d = 0 := by
  obtain ⟨j, hj, ej⟩ := w_idx d h.1 h.2
  refine ⟨Int32.not_lt.mpr h.1, ?_, ?_⟩
  · rw [ej, show (5 : Int32) = nI 5 from rfl, nI_leI (by omega) (by omega)]; omega
  · intro h'; rw [h'] at h; exact absurd h.1 (by decide)
/-- WRITE's answer -/
def wans (k e t d : Int32) : Int32 := match fndL k e t 5 1 with | some (m, c) => wsay m c d | none => -1
section Write
variable {i : Nat} {p : zPG} {lt : zLT} {ls : zLS} {td : zTD} {im : zIM} {rd : zRD} {wr : zWR} {en : zEN} {dy : zDY} {hr : Nat → Int32} {ch tk wn : Int32} {m0 : Nat → Int32} {m1 m4 m5 m6 m7 : Int32} {m8 : Nat → Int32} {m9 : Int32} {m10 : Nat → Int32} {m16 m18 : Int32} {m19 : Nat → Int32} {m22 m23 m24 m25 m26 : Int32} {m27 m28 : Nat → Int32} {m11 m13 m14 : Int32} {m12 m15 : Bool} {m17 : Nat → Int32}
theorem X_writeOk (a b c d : Int32) (ha : 0 ≤ a ∧ a ≤ 4) (hb : (-3) ≤ b ∧ b ≤ 3) (hc : (-3) ≤ c ∧ c ≤ 3) (hd : d = 0 ∨ (10 ≤ d ∧ d ≤ 14)) (hw : wn < 20) : ∃ wr', f_X9_write (p, lt, ls, td, im, rd, wr, en, dy, hr, ch, tk, wn) a b c d = some (wans a b c d, (p, lt, ls, td, im, rd, wr', en, dy, hr, ch, tk, wn + 1)) := by
  obtain ⟨d', m', rd', ft', ex, h1, h2⟩ := X_find wr a b c (iv_of c hc.1 hc.2)
  refine ⟨((d', nI m', 0), rd', ft', a, b, c), ?_⟩
  unfold f_X9_write
  rw [isKind_in, Option.bind_some, if_neg (by simp [bI_0, ha]), isWritten_in, Option.bind_some, if_neg (by simp [bI_0, hb]), isWritten_in, Option.bind_some, if_neg (by simp [bI_0, hc])]
  dsimp only
  rcases hd with hd | hd
  · rw [if_pos (by rw [hd]; decide), if_pos hd, if_pos hw, Option.bind_some, ex, Option.bind_some]
    unfold wans
    cases hf : fndL a b c 5 1 with
    | none => rw [if_pos (by simp [bI_0])]
    | some mc =>
      obtain ⟨m, c'⟩ := mc
      obtain ⟨g1, g2⟩ := h2 m c' hf
      rw [if_neg (by simp [bI_0])]
      simp [wsay, hd, g1]
  · obtain ⟨i1, i2, i3⟩ := in14 d hd
    rw [if_neg i1, if_neg i2, if_neg i3, if_pos hw, Option.bind_some, ex, Option.bind_some]
    unfold wans
    cases hf : fndL a b c 5 1 with
    | none => rw [if_pos (by simp [bI_0])]
    | some mc =>
      obtain ⟨m, c'⟩ := mc
      obtain ⟨g1, g2⟩ := h2 m c' hf
      subst g1
      rw [if_neg (by simp [bI_0])]
      dsimp only
      rw [X_say d' m' c' 0 d h1 hd g2, Option.bind_some]
theorem M_writeOk (a b c d : Int32) (ha : 0 ≤ a ∧ a ≤ 4) (hb : (-3) ≤ b ∧ b ≤ 3) (hc : (-3) ≤ c ∧ c ≤ 3) (hd : d = 0 ∨ (10 ≤ d ∧ d ≤ 14)) (hw : ¬ m16 = 20) : ∃ u1 u2 u3 u4 u5 u7, f_X10_write m11 m12 m13 m14 m15 m16 m17 a b c d = some (wans a b c d, u1, u2, u3, u4, u5, m16 + 1, u7) := by
  have inA : f_X10_in a.toInt64 0 4 = some (decide (0 ≤ a ∧ a ≤ 4)) := M_in a 0 4
  have inB : f_X10_in b.toInt64 (-3) 3 = some (decide ((-3) ≤ b ∧ b ≤ 3)) := M_in b (-3) 3
  have inC : f_X10_in c.toInt64 (-3) 3 = some (decide ((-3) ≤ c ∧ c ≤ 3)) := M_in c (-3) 3
  have inD : f_X10_in d.toInt64 10 14 = some (decide (10 ≤ d ∧ d ≤ 14)) := M_in d 10 14
  obtain ⟨u1, u2, u3, u4, u5, u7, eq⟩ := M_w91 a b c d (isk_of ha) hd (m16 + 1) (fun _ _ a b c d e f => some ((-1), a, b, c, d, e, m16 + 1, f)) FU 0 m11 m12 m13 m14 m15 m17 (by omega) (FU_lt (by omega))
  have eq' : lp_X10_write_91 a b c d (m16 + 1) (fun _ _ a b c d e f => some ((-1), a, b, c, d, e, m16 + 1, f)) FU 1 1 m11 m12 m13 m14 m15 m17 = some (wans a b c d, u1, u2, u3, u4, u5, m16 + 1, u7) := by
    rw [show (nI (6 ^ 0)) = 1 from rfl] at eq
    rw [eq]
    unfold wans
    cases hf : fndL a b c (5 - 0) (0 + 1) with
    | none => rfl
    | some mc => obtain ⟨m, c'⟩ := mc; rfl
  refine ⟨u1, u2, u3, u4, u5, u7, ?_⟩
  unfold f_X10_write
  rw [inA, Option.bind_some, if_neg (by simp [bI_0, ha]), inB, Option.bind_some, if_neg (by simp [bI_0, hb]), inC, Option.bind_some, if_neg (by simp [bI_0, hc])]
  by_cases h0 : d = 0
  · rw [if_pos h0, if_neg hw, Option.bind_some]
    exact eq'
  · have hd' := hd.resolve_left h0
    rw [if_neg h0, inD, Option.bind_some, if_neg (by simp [bI_0, hd']), if_neg hw, Option.bind_some]
    exact eq'
theorem op_write (h : Rel i p lt ls td im ch tk wn m0 m1 m4 m5 m6 m7 m8 m9 m10 m16 m18 m19 m22 m23 m24 m25 m26 m27 m28) (a b c d : Int32) : ∃ r x' u1 u2 u3 u4 u5 n16 u7, f_X9_write (p, lt, ls, td, im, rd, wr, en, dy, hr, ch, tk, wn) a b c d = some (r, x') ∧ f_X10_write m11 m12 m13 m14 m15 m16 m17 a b c d = some (r, u1, u2, u3, u4, u5, n16, u7) ∧ RelX (i + 1) x' m0 m1 m4 m5 m6 m7 m8 m9 m10 n16 m18 m19 m22 m23 m24 m25 m26 m27 m28 := by
  have hu := h.up
  have inA : f_X10_in a.toInt64 0 4 = some (decide (0 ≤ a ∧ a ≤ 4)) := M_in a 0 4
  have inB : f_X10_in b.toInt64 (-3) 3 = some (decide ((-3) ≤ b ∧ b ≤ 3)) := M_in b (-3) 3
  have inC : f_X10_in c.toInt64 (-3) 3 = some (decide ((-3) ≤ c ∧ c ≤ 3)) := M_in c (-3) 3
  have inD : f_X10_in d.toInt64 10 14 = some (decide (10 ≤ d ∧ d ≤ 14)) := M_in d 10 14
  obtain ⟨pn, n, sn, ln, tn, wc, tc, hpg, hL, hK, hT, hC, ⟨ew, e16, hwc⟩, hI⟩ := h
  by_cases ha : 0 ≤ a ∧ a ≤ 4
  · by_cases hb : (-3) ≤ b ∧ b ≤ 3
    · by_cases hc : (-3) ≤ c ∧ c ≤ 3
      · by_cases hd : d = 0 ∨ (10 ≤ d ∧ d ≤ 14)
        · have hw : (wn < 20) ↔ wc < 20 := by rw [ew]; exact nI_ltI (a := wc) (b := 20) (by omega) (by omega)
          have hm : (m16 = 20) ↔ wc = 20 := by rw [e16]; exact nI_eq (a := wc) (b := 20) (by omega) (by omega)
          by_cases hlt : wc < 20
          · obtain ⟨wr', ex⟩ := X_writeOk (p := p) (lt := lt) (ls := ls) (td := td) (im := im) (rd := rd) (wr := wr) (en := en) (dy := dy) (hr := hr) (ch := ch) (tk := tk) a b c d ha hb hc hd (hw.mpr hlt)
            obtain ⟨u1, u2, u3, u4, u5, u7, em⟩ := M_writeOk (m11 := m11) (m12 := m12) (m13 := m13) (m14 := m14) (m15 := m15) (m17 := m17) a b c d ha hb hc hd (mt hm.mp (by omega))
            refine ⟨_, _, u1, u2, u3, u4, u5, m16 + 1, u7, ex, em, ?_⟩
            obtain ⟨c1, c2, c3, c4⟩ := hC
            exact ⟨pn, n, sn, ln, tn, wc + 1, tc, hpg, hL, hK, hT, ⟨c1, c2, c3, by omega⟩, ⟨by dsimp only; rw [ew, nI_1], by rw [e16, nI_1], by omega⟩, hI⟩
          · have hw' := mt hw.mp hlt
            have hm' : m16 = 20 := hm.mpr (by omega)
            refine ⟨-103, (p, lt, ls, td, im, rd, wr, en, dy, hr, ch, tk, wn), m11, m12, m13, m14, m15, m16, m17, ?_, ?_, hu⟩
            · rcases hd with hd | hd
              · simp (decide := true) [f_X9_write, isKind_in, isWritten_in, bI_0, ha, hb, hc, hd, hw']
              · obtain ⟨i1, i2, i3⟩ := in14 d hd
                simp [f_X9_write, isKind_in, isWritten_in, bI_0, ha, hb, hc, i1, i2, i3, hw']
            · rcases hd with hd | hd
              · simp [f_X10_write, inA, inB, inC, bI_0, ha, hb, hc, hd, hm']
              · obtain ⟨i1, i2, i3⟩ := in14 d hd
                simp [f_X10_write, inA, inB, inC, inD, bI_0, ha, hb, hc, i3, hd, hm']
        · refine ⟨-102, (p, lt, ls, td, im, rd, wr, en, dy, hr, ch, tk, wn), m11, m12, m13, m14, m15, m16, m17, ?_, ?_, hu⟩
          · have h0 : ¬ d = 0 := fun h => hd (Or.inl h)
            by_cases h10 : d < 10
            · simp [f_X9_write, isKind_in, isWritten_in, bI_0, ha, hb, hc, h0, h10]
            · have := out14 d h10 (fun h => hd (Or.inr h))
              simp [f_X9_write, isKind_in, isWritten_in, bI_0, ha, hb, hc, h0, h10, this]
          · have h0 : ¬ d = 0 := fun h => hd (Or.inl h)
            have h1 : ¬ (10 ≤ d ∧ d ≤ 14) := fun h => hd (Or.inr h)
            simp only [f_X10_write, inA, inB, inC, inD, Option.bind_some, ha, hb, hc, h1, h0, and_self, decide_true, decide_false, bI_t, bI_f, if_true, if_false]
            simp (decide := true)
      · refine ⟨-102, (p, lt, ls, td, im, rd, wr, en, dy, hr, ch, tk, wn), m11, m12, m13, m14, m15, m16, m17, ?_, ?_, hu⟩
        · simp only [f_X9_write, isKind_in, isWritten_in, Option.bind_some, ha, hb, hc, and_self, decide_true, decide_false, bI_t, bI_f]
          simp (decide := true)
        · simp only [f_X10_write, inA, inB, inC, Option.bind_some, ha, hb, hc, and_self, decide_true, decide_false, bI_t, bI_f]
          simp (decide := true)
    · refine ⟨-102, (p, lt, ls, td, im, rd, wr, en, dy, hr, ch, tk, wn), m11, m12, m13, m14, m15, m16, m17, ?_, ?_, hu⟩
      · simp only [f_X9_write, isKind_in, isWritten_in, Option.bind_some, ha, hb, and_self, decide_true, decide_false, bI_t, bI_f]
        simp (decide := true)
      · simp only [f_X10_write, inA, inB, Option.bind_some, ha, hb, and_self, decide_true, decide_false, bI_t, bI_f]
        simp (decide := true)
  · refine ⟨-102, (p, lt, ls, td, im, rd, wr, en, dy, hr, ch, tk, wn), m11, m12, m13, m14, m15, m16, m17, ?_, ?_, hu⟩
    · simp only [f_X9_write, isKind_in, Option.bind_some, ha, decide_false, bI_f]
      simp (decide := true)
    · simp only [f_X10_write, inA, Option.bind_some, ha, decide_false, bI_f]
      simp (decide := true)
end Write
