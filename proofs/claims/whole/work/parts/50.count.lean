section Cnt
variable {p : zPG} {lt : zLT} {ls : zLS} {td : zTD} {im : zIM} {rd : zRD} {wr : zWR} {en : zEN} {dy : zDY} {hr : Nat → Int32} {ch tk wn : Int32} {m1 m4 m5 m6 m7 m9 m16 m18 m11 m13 m14 m21 : Int32} {m12 m15 : Bool} {m8 m10 m17 : Nat → Int32} {n sn ln : Nat}
theorem B_days (hL : HL lt m4 m5 m8 n sn) (hK : HK ls m9 m10 ln) (a b c : Int32) : ∃ r dy' o, f_X9_days (p, lt, ls, td, im, rd, wr, en, dy, hr, ch, tk, wn) a b c = some (r, (p, lt, ls, td, im, rd, wr, en, dy', hr, ch, tk, wn)) ∧ f_X10_days m5 m9 m10 m11 m12 m13 m14 m15 m17 m21 a b c = some (r, o) := by
  have in40 : f_X10_in a.toInt64 1 40 = some (decide (1 ≤ a ∧ a ≤ 40)) := M_in a 1 40
  have in2 : f_X10_in c.toInt64 0 2 = some (decide (0 ≤ c ∧ c ≤ 2)) := M_in c 0 2
  have hs := hL.2.2.2.2.2.1
  have e5 := hL.2.2.2.1
  have el2 := hL.2.1
  obtain ⟨rfl, rfl, hln, hk⟩ := hK
  by_cases ha : 1 ≤ a ∧ a ≤ 40
  · have a1 : ¬ a < 1 := Int32.not_lt.mpr ha.1
    have a2 : ¬ 40 < a := Int32.not_lt.mpr ha.2
    by_cases hb : b < 0
    · refine ⟨-102, dy, (m11, m12, m13, m14, m15, m17, m21), ?_, ?_⟩
      · simp [f_X9_days, a1, a2, hb]
      · simp [f_X10_days, in40, ha, bI_0, hb]
    · by_cases hc : 0 ≤ c ∧ c ≤ 2
      · have c1 : ¬ c < 0 := Int32.not_lt.mpr hc.1
        by_cases hz : ln = 0
        · refine ⟨-103, dy, (m11, m12, m13, m14, m15, m17, m21), ?_, ?_⟩
          · simp [f_X9_days, a1, a2, hb, c1, hc.2, (nI_z (show ln < 2 ^ 31 by omega)).mpr hz]
          · simp [f_X10_days, in40, in2, ha, hc, bI_0, hb, (nI_z (show ln < 2 ^ 31 by omega)).mpr hz]
        · have hz' : ¬ nI ln = 0 := mt (nI_z (show ln < 2 ^ 31 by omega)).mp hz
          obtain ⟨L, hL40, eL⟩ := nI_of2 (x := a) (n := 40) (by decide) (fun h => absurd ha.1 (Int32.not_le.mpr (Int32.lt_of_lt_of_le h (by decide)))) ha.2
          obtain ⟨s, hs31, es⟩ := nI_of hb
          obtain ⟨l', rd', s', sh', vl', u1, u2, u3, u4, u5, row', e1, e2⟩ := B_days1 L hL40 sn ln hs (by omega) hln m10 hk (fun _ x0 x1 x2 x3 x4 => some (x0, x1, x2, x3, x4)) (fun w4 w5 _ o1 o2 o3 o4 o5 o17 o21 => if c = 0 then some (w4, o1, o2, o3, o4, o5, o17, o21) else if c = 1 then some ((1000 + w5), o1, o2, o3, o4, o5, o17, o21) else some (o21, o1, o2, o3, o4, o5, o17, o21)) FU 0 dy.1 dy.2.1 s 0 0 m11 m12 m13 m14 m15 m17 (by omega) (FU_lt (by omega)) hs31
          rw [nI_0, ← eL, ← es] at e1 e2
          have eP : f_X0_pass dy a b (m10, nI ln) lt.2.2 = some (l', rd', nI s', sh', vl') := by
            rw [f_X0_pass, el2]
            exact e1
          have eD : f_X10_days m5 (nI ln) m10 m11 m12 m13 m14 m15 m17 m21 a b c = if c = 0 then some (sh', u1, u2, u3, u4, u5, row', nI s') else if c = 1 then some ((1000 + vl'), u1, u2, u3, u4, u5, row', nI s') else some (nI s', u1, u2, u3, u4, u5, row', nI s') := by
            rw [f_X10_days, in40, Option.bind_some, in2]
            simp only [ha, hc, and_self, decide_true]
            rw [if_neg (by decide), if_neg hb, Option.bind_some, if_neg (by decide), if_neg hz', e5]
            exact e2
          have eXd : f_X9_days (p, lt, (m10, nI ln), td, im, rd, wr, en, dy, hr, ch, tk, wn) a b c = if c = 0 then some (sh', (p, lt, (m10, nI ln), td, im, rd, wr, en, (l', rd', nI s', sh', vl'), hr, ch, tk, wn)) else if c = 1 then some (vl' + 1000, (p, lt, (m10, nI ln), td, im, rd, wr, en, (l', rd', nI s', sh', vl'), hr, ch, tk, wn)) else some (nI s', (p, lt, (m10, nI ln), td, im, rd, wr, en, (l', rd', nI s', sh', vl'), hr, ch, tk, wn)) := by
            simp [f_X9_days, a1, a2, hb, c1, hc.2, hz', eP]
          rw [eD, eXd]
          by_cases h0 : c = 0
          · rw [if_pos h0, if_pos h0]; exact ⟨_, _, _, rfl, rfl⟩
          · by_cases h1 : c = 1
            · rw [if_neg h0, if_neg h0, if_pos h1, if_pos h1, Int32.add_comm]; exact ⟨_, _, _, rfl, rfl⟩
            · rw [if_neg h0, if_neg h0, if_neg h1, if_neg h1]; exact ⟨_, _, _, rfl, rfl⟩
      · refine ⟨-102, dy, (m11, m12, m13, m14, m15, m17, m21), ?_, ?_⟩
        · by_cases c1 : c < 0
          · simp [f_X9_days, a1, a2, hb, c1]
          · have c2 : ¬ c ≤ 2 := fun h => hc ⟨Int32.not_lt.mp c1, h⟩
            simp [f_X9_days, a1, a2, hb, c1, c2]
        · simp [f_X10_days, in40, in2, ha, hc, bI_0, hb]
  · refine ⟨-102, dy, (m11, m12, m13, m14, m15, m17, m21), ?_, ?_⟩
    · by_cases a1 : a < 1
      · simp [f_X9_days, a1]
      · have a2 : 40 < a := Int32.not_le.mp (fun h => ha ⟨Int32.not_lt.mp a1, h⟩)
        simp [f_X9_days, a1, a2]
    · simp [f_X10_days, in40, ha, bI_0]
theorem M_lof3 (hL : HL lt m4 m5 m8 n sn) (hK : HK ls m9 m10 ln) (j : Nat) (hj : j < ln) : f_X10_listenerOf m4 m5 m8 m10 m11 m12 m13 m14 m15 (nI j) 3 = some (bI (rdL (m10 j) m8 n sn false).2.2.2.2, rdL (m10 j) m8 n sn false) := by
  have hln := hK.2.2.1
  have e4 := fun ft => HL_mread hL (m10 j) (hK.2.2.2 j hj) ft
  have cl : (nI j).toNatClampNeg = j := nI_clamp (by omega)
  have hj0 : ¬ nI j < 0 := nI_pos (by omega)
  have hj4 : ¬ 4 ≤ j := by omega
  cases hq : (rdL (m10 j) m8 n sn false).2.2.2.2 <;> simp (decide := true) [f_X10_listenerOf, show f_X10_in 3 1 6 = some true from by decide, cl, hj0, hj4, e4, bI_0, bI_t, bI_f, hq]
theorem B_shut1 (hL : HL lt m4 m5 m8 n sn) (hK : HK ls m9 m10 ln) (K : Int32 → Int32 → zRD → Option (Int32 × zXS)) (K' : Int32 → Int32 → Int32 → Bool → Int32 → Int32 → Bool → Option (Int32 × Int32 × Bool × Int32 × Int32 × Bool)) : ∀ (fu i : Nat) (w : Int32) (rd : zRD) (o1 : Int32) (o2 : Bool) (o3 o4 : Int32) (o5 : Bool), i ≤ ln → ln - i < fu →
    ∃ w' rd' u1 u2 u3 u4 u5, lp_X9_howManyShut_4 lt ls K fu w (nI i) rd = K w' (nI ln) rd' ∧ lp_X10_shutMany_4 m4 m5 m8 m9 m10 K' fu w (nI i) o1 o2 o3 o4 o5 = K' w' (nI ln) u1 u2 u3 u4 u5 := by
  have hln := hK.2.2.1
  intro fu
  induction fu with
  | zero => intro i w rd o1 o2 o3 o4 o5 _ hh; omega
  | succ fu ih =>
    intro i w rd o1 o2 o3 o4 o5 hi hf
    rw [lp_X9_howManyShut_4, lp_X10_shutMany_4]
    have e2 : ls.2 = nI ln := by rw [hK.1]
    have e9 : m9 = nI ln := hK.2.1
    rw [e2, e9]
    by_cases hc : ln ≤ i
    · have e : i = ln := by omega
      subst e
      rw [if_pos ((nI_leI (by omega) (by omega)).mpr hc), if_pos ((nI_leI (by omega) (by omega)).mpr hc)]
      exact ⟨w, rd, o1, o2, o3, o4, o5, rfl, rfl⟩
    · have hc' : ¬ nI ln ≤ nI i := by rw [nI_leI (by omega) (by omega)]; exact hc
      have ek : f_X4_kindOf ls (nI i) = some (m10 i) := by rw [hK.1]; exact X_kindOf m10 ln i hln (by omega)
      rw [if_neg hc', if_neg hc', ek, M_lof3 hL hK i (by omega)]
      simp only [Option.bind_some]
      rw [HL_read hL (m10 i) false]
      simp only [Option.bind_some]
      rw [nI_1]
      rw [e9] at ih
      cases hq : (rdL (m10 i) m8 n sn false).2.2.2.2 with
      | false =>
        simp only [bI_0, if_true, bI_f]
        rw [Int32.add_zero]
        exact ih (i + 1) _ _ _ _ _ _ _ (by omega) (by omega)
      | true =>
        simp only [bI_0, bI_t]
        exact ih (i + 1) _ _ _ _ _ _ _ (by omega) (by omega)
theorem B_count (hL : HL lt m4 m5 m8 n sn) (hK : HK ls m9 m10 ln) (e1 : p.2 = m1) (e5 : td.2 = m18) (e6 : ch = m6) (e7 : tk = m7) (e16 : wn = m16) (a : Int32) : ∃ r rd' o, f_X9_count (p, lt, ls, td, im, rd, wr, en, dy, hr, ch, tk, wn) a = some (r, (p, lt, ls, td, im, rd', wr, en, dy, hr, ch, tk, wn)) ∧ f_X10_countOf m1 m4 m5 m6 m7 m8 m9 m10 m11 m12 m13 m14 m15 m16 m18 a = some (r, o) := by
  have f0 : lt.2.1 = m4 := hL.1.trans hL.2.2.1.symm
  have f1 : lt.2.2 = m5 := hL.2.1.trans hL.2.2.2.1.symm
  have f2 : ls.2 = m9 := by rw [hK.1]; exact hK.2.1.symm
  unfold f_X9_count f_X10_countOf
  dsimp only
  rw [f0, f1, f2, e1, e5, e6, e7, e16]
  by_cases h0 : a = 0
  · rw [if_pos h0, if_pos h0]; exact ⟨_, _, _, rfl, rfl⟩
  · rw [if_neg h0, if_neg h0]
    by_cases h1 : a = 1
    · rw [if_pos h1, if_pos h1]; exact ⟨_, _, _, rfl, rfl⟩
    · rw [if_neg h1, if_neg h1]
      by_cases h2 : a = 2
      · rw [if_pos h2, if_pos h2]; exact ⟨_, _, _, rfl, rfl⟩
      · rw [if_neg h2, if_neg h2]
        by_cases h3 : a = 3
        · rw [if_pos h3, if_pos h3]
          obtain ⟨w', rd', u1, u2, u3, u4, u5, x1, x2⟩ := B_shut1 hL hK (fun v1 _ s => some (v1, (p, lt, ls, td, im, s, wr, en, dy, hr, m6, m7, m16))) (fun v1 _ o1 o2 o3 o4 o5 => some (v1, o1, o2, o3, o4, o5)) FU 0 0 rd m11 m12 m13 m14 m15 (by omega) (FU_lt (by have := hK.2.2.1; omega))
          rw [nI_0] at x1 x2
          have y1 : f_X9_howManyShut (p, lt, ls, td, im, rd, wr, en, dy, hr, m6, m7, m16) = some (w', (p, lt, ls, td, im, rd', wr, en, dy, hr, m6, m7, m16)) := x1
          have y2 : f_X10_shutMany m4 m5 m8 m9 m10 m11 m12 m13 m14 m15 = some (w', u1, u2, u3, u4, u5) := x2
          rw [y1, y2]
          exact ⟨_, _, _, rfl, rfl⟩
        · rw [if_neg h3, if_neg h3]
          by_cases h4 : a = 4
          · rw [if_pos h4, if_pos h4]; exact ⟨_, _, _, rfl, rfl⟩
          · rw [if_neg h4, if_neg h4]
            by_cases h5 : a = 5
            · rw [if_pos h5, if_pos h5]; exact ⟨_, _, _, rfl, rfl⟩
            · rw [if_neg h5, if_neg h5]
              by_cases h6 : a = 6
              · rw [if_pos h6, if_pos h6]; exact ⟨_, _, _, rfl, rfl⟩
              · rw [if_neg h6, if_neg h6]
                by_cases h7 : a = 7
                · rw [if_pos h7, if_pos h7]; exact ⟨_, _, _, rfl, rfl⟩
                · rw [if_neg h7, if_neg h7]
                  by_cases h8 : a = 8
                  · rw [if_pos h8, if_pos h8]; exact ⟨_, _, _, rfl, rfl⟩
                  · rw [if_neg h8, if_neg h8]; exact ⟨_, _, _, rfl, rfl⟩
end Cnt
