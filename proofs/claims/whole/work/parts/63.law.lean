theorem law_guard (L i : Nat) (hL : L ≤ 320) (hi : i ≤ 64) : ((Int32.ofNat L) - 5 < nI (5 * i)) ↔ L < 5 * i + 5 := by
  by_cases h : 5 ≤ L
  · rw [show Int32.ofNat L - 5 = nI (L - 5) from by rw [show (5 : Int32) = nI 5 from rfl]; exact pk_sub h, nI_ltI (by omega) (by omega)]
    omega
  · constructor
    · intro _; omega
    · intro _
      refine Int32.lt_of_lt_of_le (b := 0) ?_ (nI_ge0 (by omega))
      have : L = 0 ∨ L = 1 ∨ L = 2 ∨ L = 3 ∨ L = 4 := by omega
      rcases this with rfl | rfl | rfl | rfl | rfl <;> decide
theorem nI_k (a k : Nat) : nI a + nI k = nI (a + k) := nI_add a k
theorem lg_self (x : Int64) : lg_cmp x x = 0 := by
  simp [lg_cmp]
theorem law_ind (L : Nat) (xs : Nat → Int32) (hL : L ≤ 320) : ∀ (fu i : Nat) {p : zPG} {lt : zLT} {ls : zLS} {td : zTD} {im : zIM} {rd : zRD} {wr : zWR} {en : zEN} {dy : zDY} {hr : Nat → Int32} {ch tk wn : Int32} {m0 : Nat → Int32} {m1 : Int32} {m2 : Int32} {m3 : Int32} {m4 : Int32} {m5 : Int32} {m6 : Int32} {m7 : Int32} {m8 : Nat → Int32} {m9 : Int32} {m10 : Nat → Int32} {m11 : Int32} {m12 : Bool} {m13 : Int32} {m14 : Int32} {m15 : Bool} {m16 : Int32} {m17 : Nat → Int32} {m18 : Int32} {m19 : Nat → Int32} {m20 : Nat → Int32} {m21 : Int32} {m22 : Int32} {m23 : Int32} {m24 : Int32} {m25 : Int32} {m26 : Int32} {m27 : Nat → Int32} {m28 : Nat → Int32} {m29 : Int64}, i ≤ 64 → 64 - i < fu → Rel i p lt ls td im ch tk wn m0 m1 m4 m5 m6 m7 m8 m9 m10 m16 m18 m19 m22 m23 m24 m25 m26 m27 m28 → lp_L_law L xs fu (nI (5 * i)) p lt ls td im rd wr en dy hr ch tk wn m0 m1 m2 m3 m4 m5 m6 m7 m8 m9 m10 m11 m12 m13 m14 m15 m16 m17 m18 m19 m20 m21 m22 m23 m24 m25 m26 m27 m28 m29 = some true := by
  intro fu
  induction fu with
  | zero => intro i p lt ls td im rd wr en dy hr ch tk wn m0 m1 m2 m3 m4 m5 m6 m7 m8 m9 m10 m11 m12 m13 m14 m15 m16 m17 m18 m19 m20 m21 m22 m23 m24 m25 m26 m27 m28 m29 _ hh; omega
  | succ fu ih =>
    intro i p lt ls td im rd wr en dy hr ch tk wn m0 m1 m2 m3 m4 m5 m6 m7 m8 m9 m10 m11 m12 m13 m14 m15 m16 m17 m18 m19 m20 m21 m22 m23 m24 m25 m26 m27 m28 m29 hi hf h
    rw [lp_L_law]
    by_cases hend : L < 5 * i + 5
    · rw [if_pos ((law_guard L i hL hi).mpr hend)]
    rw [if_neg (mt (law_guard L i hL hi).mp hend)]
    have g0 : ¬ (nI (5 * i) < 0 ∨ L ≤ Int32.toNatClampNeg (nI (5 * i))) := gok (by omega) (by omega)
    have g1 : ¬ (nI (5 * i) + 1 < 0 ∨ L ≤ Int32.toNatClampNeg (nI (5 * i) + 1)) := by rw [show nI (5 * i) + 1 = nI (5 * i + 1) from nI_k _ 1]; exact gok (by omega) (by omega)
    have g2 : ¬ (nI (5 * i) + 2 < 0 ∨ L ≤ Int32.toNatClampNeg (nI (5 * i) + 2)) := by rw [show nI (5 * i) + 2 = nI (5 * i + 2) from nI_k _ 2]; exact gok (by omega) (by omega)
    have g3 : ¬ (nI (5 * i) + 3 < 0 ∨ L ≤ Int32.toNatClampNeg (nI (5 * i) + 3)) := by rw [show nI (5 * i) + 3 = nI (5 * i + 3) from nI_k _ 3]; exact gok (by omega) (by omega)
    have g4 : ¬ (nI (5 * i) + 4 < 0 ∨ L ≤ Int32.toNatClampNeg (nI (5 * i) + 4)) := by rw [show nI (5 * i) + 4 = nI (5 * i + 4) from nI_k _ 4]; exact gok (by omega) (by omega)
    have e5 : nI (5 * i) + 5 = nI (5 * (i + 1)) := by rw [show nI (5 * i) + 5 = nI (5 * i + 5) from nI_k _ 5, show 5 * i + 5 = 5 * (i + 1) by omega]
    have hi1 : i + 1 ≤ 64 := by omega
    have hf1 : 64 - (i + 1) < fu := by omega
    have hu := h.up
    obtain ⟨pn, n, sn, ln, tn, wc, tc, hpg, hLL, hK, hT, hC, hW, hI⟩ := id h
    rw [if_neg g0]
    by_cases h0 : (xs (Int32.toNatClampNeg (nI (5 * i)))) &&& 31 = 0
    · rw [if_pos h0]
      obtain ⟨r, x', k0, k1, e1, e2, hR⟩ := op_letter (rd := rd) (wr := wr) (en := en) (dy := dy) (hr := hr) h (xs (Int32.toNatClampNeg (nI (5 * i) + 1)))
      rw [if_neg g1, e1, Option.bind_some, if_neg g1, e2, Option.bind_some, if_pos rfl, e5]
      exact ih (i + 1) hi1 hf1 hR
    rw [if_neg h0]
    by_cases h1 : (xs (Int32.toNatClampNeg (nI (5 * i)))) &&& 31 = 1
    · rw [if_pos h1]
      obtain ⟨r, x', k1, e1, e2, hR⟩ := op_blank (rd := rd) (wr := wr) (en := en) (dy := dy) (hr := hr) h
      rw [e1, Option.bind_some, e2, Option.bind_some, if_pos rfl, e5]
      exact ih (i + 1) hi1 hf1 hR
    rw [if_neg h1]
    by_cases h2 : (xs (Int32.toNatClampNeg (nI (5 * i)))) &&& 31 = 2
    · rw [if_pos h2]
      obtain ⟨r, o1, o2, e1, e2⟩ := op_fault (rd := rd) (wr := wr) (en := en) (dy := dy) (hr := hr) h
      rw [e1, Option.bind_some, e2, Option.bind_some, if_pos rfl, e5]
      exact ih (i + 1) hi1 hf1 hu
    rw [if_neg h2]
    by_cases h3 : (xs (Int32.toNatClampNeg (nI (5 * i)))) &&& 31 = 3
    · rw [if_pos h3]
      obtain ⟨r, x', k1, k2, k3, k4, k5, k6, k7, k8, k9, k18, e1, e2, hR⟩ := op_take (rd := rd) (wr := wr) (en := en) (dy := dy) (hr := hr) h (by omega)
      rw [e1, Option.bind_some, e2, Option.bind_some, if_pos rfl, e5]
      exact ih (i + 1) hi1 hf1 hR
    rw [if_neg h3]
    by_cases h4 : (xs (Int32.toNatClampNeg (nI (5 * i)))) &&& 31 = 4
    · rw [if_pos h4]
      obtain ⟨r, rd', o, e1, e2⟩ := B_word (p := p) (lt := lt) (ls := ls) (td := td) (im := im) (rd := rd) (wr := wr) (en := en) (dy := dy) (hr := hr) (ch := ch) (tk := tk) (wn := wn) (m11 := m11) (m12 := m12) (m13 := m13) (m14 := m14) (m15 := m15) hLL (xs (Int32.toNatClampNeg (nI (5 * i) + 1))) (xs (Int32.toNatClampNeg (nI (5 * i) + 2)))
      rw [if_neg g1, if_neg g2, e1, Option.bind_some, if_neg g1, if_neg g2, e2, Option.bind_some, if_pos rfl, e5]
      exact ih (i + 1) hi1 hf1 hu
    rw [if_neg h4]
    by_cases h5 : (xs (Int32.toNatClampNeg (nI (5 * i)))) &&& 31 = 5
    · rw [if_pos h5]
      obtain ⟨r, x', k6, k8, e1, e2, hR⟩ := op_change (rd := rd) (wr := wr) (en := en) (dy := dy) (hr := hr) h (xs (Int32.toNatClampNeg (nI (5 * i) + 1))) (xs (Int32.toNatClampNeg (nI (5 * i) + 2)))
      rw [if_neg g1, if_neg g2, e1, Option.bind_some, if_neg g1, if_neg g2, e2, Option.bind_some, if_pos rfl, e5]
      exact ih (i + 1) hi1 hf1 hR
    rw [if_neg h5]
    by_cases h6 : (xs (Int32.toNatClampNeg (nI (5 * i)))) &&& 31 = 6
    · rw [if_pos h6]
      obtain ⟨r, x', k5, e1, e2, hR⟩ := op_snow (rd := rd) (wr := wr) (en := en) (dy := dy) (hr := hr) h (xs (Int32.toNatClampNeg (nI (5 * i) + 1)))
      rw [if_neg g1, e1, Option.bind_some, if_neg g1, e2, Option.bind_some, if_pos rfl, e5]
      exact ih (i + 1) hi1 hf1 hR
    rw [if_neg h6]
    by_cases h7 : (xs (Int32.toNatClampNeg (nI (5 * i)))) &&& 31 = 7
    · rw [if_pos h7]
      obtain ⟨r, x', k9, k10, e1, e2, hR⟩ := op_listener (rd := rd) (wr := wr) (en := en) (dy := dy) (hr := hr) h (xs (Int32.toNatClampNeg (nI (5 * i) + 1)))
      rw [if_neg g1, e1, Option.bind_some, if_neg g1, e2, Option.bind_some, if_pos rfl, e5]
      exact ih (i + 1) hi1 hf1 hR
    rw [if_neg h7]
    by_cases h8 : (xs (Int32.toNatClampNeg (nI (5 * i)))) &&& 31 = 8
    · rw [if_pos h8]
      obtain ⟨r, rd', o, e1, e2⟩ := B_about (p := p) (lt := lt) (ls := ls) (td := td) (im := im) (rd := rd) (wr := wr) (en := en) (dy := dy) (hr := hr) (ch := ch) (tk := tk) (wn := wn) (m11 := m11) (m12 := m12) (m13 := m13) (m14 := m14) (m15 := m15) hLL hK (xs (Int32.toNatClampNeg (nI (5 * i) + 1))) (xs (Int32.toNatClampNeg (nI (5 * i) + 2)))
      rw [if_neg g1, if_neg g2, e1, Option.bind_some, if_neg g1, if_neg g2, e2, Option.bind_some, if_pos rfl, e5]
      exact ih (i + 1) hi1 hf1 hu
    rw [if_neg h8]
    by_cases h9 : (xs (Int32.toNatClampNeg (nI (5 * i)))) &&& 31 = 9
    · rw [if_pos h9]
      obtain ⟨r, e1, e2⟩ := B_as (p := p) (lt := lt) (ls := ls) (td := td) (im := im) (rd := rd) (wr := wr) (en := en) (dy := dy) (hr := hr) (ch := ch) (tk := tk) (wn := wn) hK (xs (Int32.toNatClampNeg (nI (5 * i) + 1))) (xs (Int32.toNatClampNeg (nI (5 * i) + 2)))
      rw [if_neg g1, if_neg g2, e1, Option.bind_some, if_neg g1, if_neg g2, e2, Option.bind_some, if_pos rfl, e5]
      exact ih (i + 1) hi1 hf1 hu
    rw [if_neg h9]
    by_cases h10 : (xs (Int32.toNatClampNeg (nI (5 * i)))) &&& 31 = 10
    · rw [if_pos h10]
      obtain ⟨r, x', u1, u2, u3, u4, u5, k16, u7, e1, e2, hR⟩ := op_write (rd := rd) (wr := wr) (en := en) (dy := dy) (hr := hr) (m11 := m11) (m12 := m12) (m13 := m13) (m14 := m14) (m15 := m15) (m17 := m17) h (xs (Int32.toNatClampNeg (nI (5 * i) + 1))) (xs (Int32.toNatClampNeg (nI (5 * i) + 2))) (xs (Int32.toNatClampNeg (nI (5 * i) + 3))) (xs (Int32.toNatClampNeg (nI (5 * i) + 4)))
      rw [if_neg g1, if_neg g2, if_neg g3, if_neg g4, e1, Option.bind_some, if_neg g1, if_neg g2, if_neg g3, if_neg g4, e2, Option.bind_some, if_pos rfl, e5]
      exact ih (i + 1) hi1 hf1 hR
    rw [if_neg h10]
    by_cases h11 : (xs (Int32.toNatClampNeg (nI (5 * i)))) &&& 31 = 11
    · rw [if_pos h11]
      obtain ⟨r, en', o, e1, e2⟩ := B_rest (p := p) (lt := lt) (ls := ls) (td := td) (im := im) (rd := rd) (wr := wr) (en := en) (dy := dy) (hr := hr) (ch := ch) (tk := tk) (wn := wn) (m11 := m11) (m12 := m12) (m13 := m13) (m14 := m14) (m15 := m15) (m17 := m17) hLL (xs (Int32.toNatClampNeg (nI (5 * i) + 1))) (xs (Int32.toNatClampNeg (nI (5 * i) + 2))) (xs (Int32.toNatClampNeg (nI (5 * i) + 3)))
      rw [if_neg g1, if_neg g2, if_neg g3, e1, Option.bind_some, if_neg g1, if_neg g2, if_neg g3, e2, Option.bind_some, if_pos rfl, e5]
      exact ih (i + 1) hi1 hf1 hu
    rw [if_neg h11]
    by_cases h12 : (xs (Int32.toNatClampNeg (nI (5 * i)))) &&& 31 = 12
    · rw [if_pos h12]
      by_cases hz : (xs (Int32.toNatClampNeg (nI (5 * i) + 2))) = 0
      · obtain ⟨r, x', k11, k12, k13, k14, k15, k18, k19, e1, e2, hR⟩ := op_tell (rd := rd) (wr := wr) (en := en) (dy := dy) (hr := hr) (m11 := m11) (m12 := m12) (m13 := m13) (m14 := m14) (m15 := m15) h (xs (Int32.toNatClampNeg (nI (5 * i) + 1))) false
        rw [if_neg g1, if_neg g2, if_pos hz, e1, Option.bind_some, if_neg g1, if_neg g2, if_pos hz, e2, Option.bind_some, if_pos rfl, e5]
        exact ih (i + 1) hi1 hf1 hR
      · obtain ⟨r, x', k11, k12, k13, k14, k15, k18, k19, e1, e2, hR⟩ := op_tell (rd := rd) (wr := wr) (en := en) (dy := dy) (hr := hr) (m11 := m11) (m12 := m12) (m13 := m13) (m14 := m14) (m15 := m15) h (xs (Int32.toNatClampNeg (nI (5 * i) + 1))) true
        rw [if_neg g1, if_neg g2, if_neg hz, e1, Option.bind_some, if_neg g1, if_neg g2, if_neg hz, e2, Option.bind_some, if_pos rfl, e5]
        exact ih (i + 1) hi1 hf1 hR
    rw [if_neg h12]
    by_cases h13 : (xs (Int32.toNatClampNeg (nI (5 * i)))) &&& 31 = 13
    · rw [if_pos h13]
      obtain ⟨r, x', k18, e1, e2, hR⟩ := op_forget (rd := rd) (wr := wr) (en := en) (dy := dy) (hr := hr) h
      rw [e1, Option.bind_some, e2, Option.bind_some, if_pos rfl, e5]
      exact ih (i + 1) hi1 hf1 hR
    rw [if_neg h13]
    by_cases h14 : (xs (Int32.toNatClampNeg (nI (5 * i)))) &&& 31 = 14
    · rw [if_pos h14]
      obtain ⟨r, e1, e2⟩ := op_which (rd := rd) (wr := wr) (en := en) (dy := dy) (hr := hr) h
      rw [e1, Option.bind_some, e2, Option.bind_some, if_pos rfl, e5]
      exact ih (i + 1) hi1 hf1 hu
    rw [if_neg h14]
    by_cases h15 : (xs (Int32.toNatClampNeg (nI (5 * i)))) &&& 31 = 15
    · rw [if_pos h15]
      obtain ⟨r, rd', hr', o, e1, e2⟩ := B_ask (p := p) (lt := lt) (ls := ls) (td := td) (im := im) (rd := rd) (wr := wr) (en := en) (dy := dy) (hr := hr) (ch := ch) (tk := tk) (wn := wn) (m11 := m11) (m12 := m12) (m13 := m13) (m14 := m14) (m15 := m15) (m20 := m20) hLL hT
      rw [e1, Option.bind_some, e2, Option.bind_some, if_pos rfl, e5]
      exact ih (i + 1) hi1 hf1 hu
    rw [if_neg h15]
    by_cases h16 : (xs (Int32.toNatClampNeg (nI (5 * i)))) &&& 31 = 16
    · rw [if_pos h16]
      obtain ⟨r, dy', o, e1, e2⟩ := B_days (p := p) (lt := lt) (ls := ls) (td := td) (im := im) (rd := rd) (wr := wr) (en := en) (dy := dy) (hr := hr) (ch := ch) (tk := tk) (wn := wn) (m11 := m11) (m12 := m12) (m13 := m13) (m14 := m14) (m15 := m15) (m17 := m17) (m21 := m21) hLL hK (xs (Int32.toNatClampNeg (nI (5 * i) + 1))) (xs (Int32.toNatClampNeg (nI (5 * i) + 2))) (xs (Int32.toNatClampNeg (nI (5 * i) + 3)))
      rw [if_neg g1, if_neg g2, if_neg g3, e1, Option.bind_some, if_neg g1, if_neg g2, if_neg g3, e2, Option.bind_some, if_pos rfl, e5]
      exact ih (i + 1) hi1 hf1 hu
    rw [if_neg h16]
    by_cases h17 : (xs (Int32.toNatClampNeg (nI (5 * i)))) &&& 31 = 17
    · rw [if_pos h17]
      obtain ⟨r, x', k22, k23, k24, k25, k26, k27, k28, e1, e2, hR⟩ := op_image (rd := rd) (wr := wr) (en := en) (dy := dy) (hr := hr) h
      rw [e1, Option.bind_some, e2, Option.bind_some, if_pos rfl, e5]
      exact ih (i + 1) hi1 hf1 hR
    rw [if_neg h17]
    by_cases h18 : (xs (Int32.toNatClampNeg (nI (5 * i)))) &&& 31 = 18
    · rw [if_pos h18]
      obtain ⟨r, x', k5, k6, k8, k9, k18, k19, e1, e2, hR⟩ := op_restore (rd := rd) (wr := wr) (en := en) (dy := dy) (hr := hr) h (by omega)
      rw [e1, Option.bind_some, e2, Option.bind_some, if_pos rfl, e5]
      exact ih (i + 1) hi1 hf1 hR
    rw [if_neg h18]
    by_cases h19 : (xs (Int32.toNatClampNeg (nI (5 * i)))) &&& 31 = 19
    · rw [if_pos h19]
      obtain ⟨r, rd', o, e1, e2'⟩ := B_count (p := p) (lt := lt) (ls := ls) (td := td) (im := im) (rd := rd) (wr := wr) (en := en) (dy := dy) (hr := hr) (ch := ch) (tk := tk) (wn := wn) (m11 := m11) (m12 := m12) (m13 := m13) (m14 := m14) (m15 := m15) (m1 := m1) (m18 := m18) (m16 := m16) hLL hK (by rw [hpg.1, hpg.2.1]) (by rw [hT.1, hT.2.1]) hC.1 hC.2.1 (by rw [hW.1, hW.2.1]) (xs (Int32.toNatClampNeg (nI (5 * i) + 1)))
      have e2 : f_X10_count m1 m4 m5 m6 m7 m8 m9 m10 m11 m12 m13 m14 m15 m16 m18 (xs (Int32.toNatClampNeg (nI (5 * i) + 1))) = some (r, o) := by rw [f_X10_count, e2', Option.bind_some]
      rw [if_neg g1, e1, Option.bind_some, if_neg g1, e2, Option.bind_some, if_pos rfl, e5]
      exact ih (i + 1) hi1 hf1 hu
    rw [if_neg h19]
    by_cases h20 : (xs (Int32.toNatClampNeg (nI (5 * i)))) &&& 31 = 20
    · rw [if_pos h20]
      obtain ⟨r, rd', en', hr', o, e1, e2⟩ := op_digest (rd := rd) (wr := wr) (en := en) (dy := dy) (hr := hr) (m11 := m11) (m12 := m12) (m13 := m13) (m14 := m14) (m15 := m15) (m17 := m17) (m20 := m20) h
      rw [e1, Option.bind_some, e2, Option.bind_some, if_pos (lg_self _), e5]
      exact ih (i + 1) hi1 hf1 hu
    rw [if_neg h20]
    rw [e5]
    exact ih (i + 1) hi1 hf1 hu
