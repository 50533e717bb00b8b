theorem X_put3 (f : Nat → Int32) (n j : Nat) (sn a : Int32) (hn : n ≤ 9) (hj : j < n) : f_X3_put (f, nI n, sn) (nI j) a = some (upd f j a, nI n, sn) := by
  have e1 : f_X3_has (f, nI n, sn) (nI j) = some true := by rw [X_has f n j _ hn (by omega)]; simp [hj]
  simp [f_X3_put, e1, bI_0, nI_pos (show j < 2 ^ 31 by omega), nI_clamp (show j < 2 ^ 31 by omega), show ¬ 9 ≤ j by omega]
theorem upd_at (f : Nat → Int32) (k j : Nat) (x : Int32) : upd f k x j = if j = k then x else f j := rfl
theorem M_isW (m4 : Int32) (n : Nat) (hn : n ≤ 9) (e : m4 = nI n) (j : Nat) (hj : j < n) : f_X10_isWord m4 (nI j) = some true := by
  unfold f_X10_isWord
  rw [M_in0, e]
  simp only [ix_in (by omega : n ≤ 100) hj, and_self, decide_true, Option.bind_some]
theorem M_isWN (m4 : Int32) (n : Nat) (a : Int32) (e : m4 = nI n) (h : ¬ (0 ≤ a ∧ a ≤ nI n - 1)) : f_X10_isWord m4 a = some false := by
  unfold f_X10_isWord
  rw [M_in0, e]
  simp only [h, decide_false, Option.bind_some]
theorem X_hasN (lt : zLT) (n : Nat) (a : Int32) (e : lt.2.1 = nI n) (h2 : a < 0 ∨ nI n ≤ a) : f_X3_has lt a = some false := by
  unfold f_X3_has
  rcases h2 with h2 | h2
  · rw [if_pos h2]
  · by_cases h3 : a < 0
    · rw [if_pos h3]
    · rw [if_neg h3, if_pos (by rw [e]; exact h2)]
theorem nI_z {n : Nat} (h : n < 2 ^ 31) : (nI n = 0) ↔ n = 0 := nI_eq (a := n) (b := 0) h (by omega)
section RelOps2
variable {i : Nat} {p : zPG} {lt : zLT} {ls : zLS} {td : zTD} {im : zIM} {rd : zRD} {wr : zWR} {en : zEN} {dy : zDY} {hr : Nat → Int32} {ch tk wn : Int32} {m0 : Nat → Int32} {m1 m4 m5 m6 m7 : Int32} {m8 : Nat → Int32} {m9 : Int32} {m10 : Nat → Int32} {m16 m18 : Int32} {m19 : Nat → Int32} {m22 m23 m24 m25 m26 : Int32} {m27 m28 : Nat → Int32} {m11 m13 m14 : Int32} {m12 m15 : Bool}
theorem op_change (h : Rel i p lt ls td im ch tk wn m0 m1 m4 m5 m6 m7 m8 m9 m10 m16 m18 m19 m22 m23 m24 m25 m26 m27 m28) (a b : Int32) : ∃ r x' n6 n8, f_X9_change (p, lt, ls, td, im, rd, wr, en, dy, hr, ch, tk, wn) a b = some (r, x') ∧ f_X10_change m4 m6 m8 a b = some (r, n6, n8) ∧ RelX (i + 1) x' m0 m1 m4 m5 n6 m7 n8 m9 m10 m16 m18 m19 m22 m23 m24 m25 m26 m27 m28 := by
  have hu := h.up
  obtain ⟨pn, n, sn, ln, tn, wc, tc, hpg, hL, hK, hT, ⟨hch, htk, htc, hti⟩, hrest⟩ := h
  have hn := hL.2.2.2.2.1
  rcases ixc a n (by omega) with ⟨h1, h2⟩ | ⟨j, hj, rfl⟩
  · refine ⟨-101, (p, lt, ls, td, im, rd, wr, en, dy, hr, ch, tk, wn), m6, m8, ?_, ?_, hu⟩
    · simp [f_X9_change, X_hasN lt n a hL.1 h2, bI_0]
    · simp [f_X10_change, M_isWN m4 n a hL.2.2.1 h1, bI_0]
  · obtain ⟨lf, l1, l2⟩ := lt
    obtain ⟨rfl, rfl, e4, e5, hn, hs, hw⟩ := hL
    dsimp only at hw
    have e1 : f_X3_has (lf, nI n, nI sn) (nI j) = some true := by rw [X_has lf n j _ hn (by omega)]; simp [hj]
    by_cases hb : 0 ≤ b ∧ b ≤ 5
    · refine ⟨m8 j, (p, (upd lf j b, nI n, nI sn), ls, td, im, rd, wr, en, dy, hr, ch + 1, tk, wn), m6 + 1, upd m8 j b, ?_, ?_, ⟨pn, n, sn, ln, tn, wc, tc, hpg, ⟨rfl, rfl, e4, e5, hn, hs, fun k hk => ?_⟩, hK, hT, ⟨by rw [hch], htk, htc, by omega⟩, hrest⟩⟩
      · simp [f_X9_change, e1, bI_0, isWord_in, hb, X_wordAt lf n j _ hn hj, (hw j hj).1, X_put3 lf n j _ b hn hj]
      · simp [f_X10_change, M_isW m4 n hn e4 j hj, bI_0, M_in05, hb, nI_pos (show j < 2 ^ 31 by omega), nI_clamp (show j < 2 ^ 31 by omega), show ¬ 9 ≤ j by omega]
      · dsimp only
        rw [upd_at, upd_at]
        by_cases hkj : k = j
        · simp only [hkj, if_true]; exact ⟨trivial, isw_of hb⟩
        · simp only [hkj, if_false]; exact hw k hk
    · refine ⟨-102, (p, (lf, nI n, nI sn), ls, td, im, rd, wr, en, dy, hr, ch, tk, wn), m6, m8, ?_, ?_, hu⟩
      · simp [f_X9_change, e1, bI_0, isWord_in, hb]
      · simp [f_X10_change, M_isW m4 n hn e4 j hj, bI_0, M_in05, hb]
theorem op_snow (h : Rel i p lt ls td im ch tk wn m0 m1 m4 m5 m6 m7 m8 m9 m10 m16 m18 m19 m22 m23 m24 m25 m26 m27 m28) (a : Int32) : ∃ r x' n5, f_X9_snow (p, lt, ls, td, im, rd, wr, en, dy, hr, ch, tk, wn) a = some (r, x') ∧ f_X10_snow m4 m5 a = some (r, n5) ∧ RelX (i + 1) x' m0 m1 m4 n5 m6 m7 m8 m9 m10 m16 m18 m19 m22 m23 m24 m25 m26 m27 m28 := by
  have hu := h.up
  obtain ⟨pn, n, sn, ln, tn, wc, tc, hpg, hL, hK, hT, hq, hrest⟩ := h
  obtain ⟨lf, l1, l2⟩ := lt
  obtain ⟨rfl, rfl, rfl, rfl, hn, hs, hw⟩ := hL
  by_cases ha : 1 ≤ a ∧ a ≤ 9
  · have h1 : ¬ a < 1 := Int32.not_lt.mpr ha.1
    by_cases hz : n = 0
    · refine ⟨-103, (p, (lf, nI n, nI sn), ls, td, im, rd, wr, en, dy, hr, ch, tk, wn), nI sn, ?_, ?_, hu⟩
      · simp [f_X9_snow, h1, ha.2, f_X9_noLetter, (nI_z (show n < 2 ^ 31 by omega)).mpr hz, bI_0]
      · simp [f_X10_snow, M_in19, ha, bI_0, (nI_z (show n < 2 ^ 31 by omega)).mpr hz]
    · obtain ⟨s, hs9, es⟩ := nI_of2 (x := a) (n := 9) (by decide) (fun h => absurd ha.1 (Int32.not_le.mpr (Int32.lt_of_lt_of_le h (by decide)))) ha.2
      have hz' : ¬ nI n = 0 := mt (nI_z (show n < 2 ^ 31 by omega)).mp hz
      refine ⟨nI sn, (p, (lf, nI n, a), ls, td, im, rd, wr, en, dy, hr, ch, tk, wn), a, ?_, ?_, ⟨pn, n, s, ln, tn, wc, tc, hpg, ⟨rfl, es, rfl, es, hn, hs9, hw⟩, hK, hT, ⟨hq.1, hq.2.1, hq.2.2.1, by have := hq.2.2.2; omega⟩, hrest⟩⟩
      · simp [f_X9_snow, h1, ha.2, f_X9_noLetter, hz', bI_0]
      · simp [f_X10_snow, M_in19, ha, bI_0, hz']
  · refine ⟨-102, (p, (lf, nI n, nI sn), ls, td, im, rd, wr, en, dy, hr, ch, tk, wn), nI sn, ?_, ?_, hu⟩
    · by_cases h1 : a < 1
      · simp [f_X9_snow, h1]
      · have h2 : ¬ a ≤ 9 := fun h => ha ⟨Int32.not_lt.mp h1, h⟩
        simp [f_X9_snow, h1, h2]
    · simp [f_X10_snow, M_in19, ha, bI_0]
theorem op_listener (h : Rel i p lt ls td im ch tk wn m0 m1 m4 m5 m6 m7 m8 m9 m10 m16 m18 m19 m22 m23 m24 m25 m26 m27 m28) (a : Int32) : ∃ r x' n9 n10, f_X9_listener (p, lt, ls, td, im, rd, wr, en, dy, hr, ch, tk, wn) a = some (r, x') ∧ f_X10_listener m4 m9 m10 a = some (r, n9, n10) ∧ RelX (i + 1) x' m0 m1 m4 m5 m6 m7 m8 n9 n10 m16 m18 m19 m22 m23 m24 m25 m26 m27 m28 := by
  have hu := h.up
  obtain ⟨pn, n, sn, ln, tn, wc, tc, hpg, hL, ⟨rfl, rfl, hln, hk⟩, hT, hq, hwc, hk1, hk2⟩ := h
  have hn := hL.2.2.2.2.1
  have e0 : (lt.2.1 = 0) ↔ n = 0 := by rw [hL.1]; exact nI_z (by omega)
  have e0' : (m4 = 0) ↔ n = 0 := by rw [hL.2.2.1]; exact nI_z (by omega)
  by_cases ha : 0 ≤ a ∧ a ≤ 4
  · by_cases hz : n = 0
    · refine ⟨-103, (p, lt, (m10, nI ln), td, im, rd, wr, en, dy, hr, ch, tk, wn), nI ln, m10, ?_, ?_, hu⟩
      · simp [f_X9_listener, isKind_in, ha, f_X9_noLetter, e0.mpr hz, bI_0]
      · simp [f_X10_listener, M_in04, ha, bI_0, e0'.mpr hz]
    · have h4 : (nI ln < 4) ↔ ln < 4 := nI_ltI (a := ln) (b := 4) (by omega) (by omega)
      have e4 : (nI ln = 4) ↔ ln = 4 := nI_eq (a := ln) (b := 4) (by omega) (by omega)
      by_cases hf : ln < 4
      · refine ⟨nI ln, (p, lt, (upd m10 ln a, nI (ln + 1)), td, im, rd, wr, en, dy, hr, ch, tk, wn), nI (ln + 1), upd m10 ln a, ?_, ?_, ⟨pn, n, sn, ln + 1, tn, wc, tc, hpg, hL, ⟨rfl, rfl, by omega, fun j hj => ?_⟩, hT, ⟨hq.1, hq.2.1, hq.2.2.1, by have := hq.2.2.2; omega⟩, hwc, fun hb => ?_, hk2⟩⟩
        · simp [f_X9_listener, isKind_in, ha, f_X9_noLetter, mt e0.mp hz, bI_0, h4.mpr hf, X_add4 m10 ln a hf, nI_pred]
        · simp [f_X10_listener, M_in04, ha, bI_0, mt e0'.mp hz, mt e4.mp (by omega), nI_pos (show ln < 2 ^ 31 by omega), nI_clamp (show ln < 2 ^ 31 by omega), hf, nI_1, nI_pred]
        · rw [upd_at]
          by_cases hjl : j = ln
          · simp only [hjl, if_true]; exact isk_of ha
          · simp only [hjl, if_false]; exact hk j (by omega)
        · obtain ⟨b1, b2, b3, ⟨kl, b4, b5⟩, b6⟩ := hk1 hb
          exact ⟨b1, b2, b3, ⟨kl, by omega, b5⟩, b6⟩
      · refine ⟨-104, (p, lt, (m10, nI ln), td, im, rd, wr, en, dy, hr, ch, tk, wn), nI ln, m10, ?_, ?_, hu⟩
        · simp [f_X9_listener, isKind_in, ha, f_X9_noLetter, mt e0.mp hz, bI_0, mt h4.mp hf]
        · simp [f_X10_listener, M_in04, ha, bI_0, mt e0'.mp hz, e4.mpr (by omega)]
  · refine ⟨-102, (p, lt, (m10, nI ln), td, im, rd, wr, en, dy, hr, ch, tk, wn), nI ln, m10, ?_, ?_, hu⟩
    · simp [f_X9_listener, isKind_in, ha, bI_0]
    · simp [f_X10_listener, M_in04, ha, bI_0]
theorem B_kinds {n sn : Nat} (hL : HL lt m4 m5 m8 n sn) (a : Int32) (ft : Bool) : ∃ b rd' o, f_X9_kindsThatHear (p, lt, ls, td, im, rd, wr, en, dy, hr, ch, tk, wn) a ft = some (b, (p, lt, ls, td, im, rd', wr, en, dy, hr, ch, tk, wn)) ∧ f_X10_kindsBy m4 m5 m8 m11 m12 m13 m14 m15 a ft = some (b, o) := by
  obtain ⟨b, rd', u1, u2, u3, u4, u5, e1, e2⟩ := B_kinds1 hL a ft (fun v3 _ s => some (v3, (p, lt, ls, td, im, s, wr, en, dy, hr, ch, tk, wn))) (fun v3 _ o1 o2 o3 o4 o5 => some (v3, o1, o2, o3, o4, o5)) FU 0 0 rd m11 m12 m13 m14 m15 (by omega) (FU_lt (by omega))
  rw [nI_0] at e1 e2
  exact ⟨b, rd', (u1, u2, u3, u4, u5), e1, e2⟩
theorem op_tell (h : Rel i p lt ls td im ch tk wn m0 m1 m4 m5 m6 m7 m8 m9 m10 m16 m18 m19 m22 m23 m24 m25 m26 m27 m28) (a : Int32) (ft : Bool) : ∃ r x' n11 n12 n13 n14 n15 n18 n19, f_X9_tell (p, lt, ls, td, im, rd, wr, en, dy, hr, ch, tk, wn) a ft = some (r, x') ∧ f_X10_tell m4 m5 m8 m11 m12 m13 m14 m15 m18 m19 a ft = some (r, n11, n12, n13, n14, n15, n18, n19) ∧ RelX (i + 1) x' m0 m1 m4 m5 m6 m7 m8 m9 m10 m16 n18 n19 m22 m23 m24 m25 m26 m27 m28 := by
  have hu := h.up
  obtain ⟨pn, n, sn, ln, tn, wc, tc, hpg, hL, hK, hT, hq, hrest⟩ := h
  have hn := hL.2.2.2.2.1
  have e0 : (lt.2.1 = 0) ↔ n = 0 := by rw [hL.1]; exact nI_z (by omega)
  have e0' : (m4 = 0) ↔ n = 0 := by rw [hL.2.2.1]; exact nI_z (by omega)
  by_cases ha : 0 ≤ a ∧ a ≤ 9
  · have h1 : ¬ a < 0 := Int32.not_lt.mpr ha.1
    by_cases hz : n = 0
    · refine ⟨-103, (p, lt, ls, td, im, rd, wr, en, dy, hr, ch, tk, wn), m11, m12, m13, m14, m15, m18, m19, ?_, ?_, hu⟩
      · simp [f_X9_tell, h1, ha.2, f_X9_noLetter, e0.mpr hz, bI_0]
      · simp [f_X10_tell, M_in09, ha, bI_0, e0'.mpr hz]
    · obtain ⟨tf, t2⟩ := td
      obtain ⟨rfl, rfl, htn, hte⟩ := hT
      have h4 : (nI tn < 6) ↔ tn < 6 := nI_ltI (a := tn) (b := 6) (by omega) (by omega)
      have e4 : (nI tn = 6) ↔ tn = 6 := nI_eq (a := tn) (b := 6) (by omega) (by omega)
      by_cases hf : tn < 6
      · obtain ⟨b, rd', ⟨o1, o2, o3, o4, o5⟩, ex, em⟩ := B_kinds (p := p) (ls := ls) (td := (tf, nI tn)) (im := im) (rd := rd) (wr := wr) (en := en) (dy := dy) (hr := hr) (ch := ch) (tk := tk) (wn := wn) (m11 := m11) (m12 := m12) (m13 := m13) (m14 := m14) (m15 := m15) hL a ft
        refine ⟨nI (tn + 1), (p, lt, ls, (upd tf tn b, nI (tn + 1)), im, rd', wr, en, dy, hr, ch, tk, wn), o1, o2, o3, o4, o5, nI (tn + 1), upd m19 tn b, ?_, ?_, ⟨pn, n, sn, ln, tn + 1, wc, tc, hpg, hL, hK, ⟨rfl, rfl, by omega, fun j hj => ?_⟩, ⟨hq.1, hq.2.1, hq.2.2.1, by have := hq.2.2.2; omega⟩, hrest⟩⟩
        · simp [f_X9_tell, h1, ha.2, f_X9_noLetter, mt e0.mp hz, bI_0, h4.mpr hf, ex, X_add7 tf tn b hf]
        · simp [f_X10_tell, M_in09, ha, bI_0, mt e0'.mp hz, mt e4.mp (by omega), em, nI_pos (show tn < 2 ^ 31 by omega), nI_clamp (show tn < 2 ^ 31 by omega), hf, nI_1]
        · dsimp only
          rw [upd_at, upd_at]
          by_cases hjt : j = tn
          · simp only [hjt, if_true]
          · simp only [hjt, if_false]; exact hte j (by omega)
      · refine ⟨-104, (p, lt, ls, (tf, nI tn), im, rd, wr, en, dy, hr, ch, tk, wn), m11, m12, m13, m14, m15, nI tn, m19, ?_, ?_, hu⟩
        · simp [f_X9_tell, h1, ha.2, f_X9_noLetter, mt e0.mp hz, bI_0, mt h4.mp hf]
        · simp [f_X10_tell, M_in09, ha, bI_0, mt e0'.mp hz, e4.mpr (by omega)]
  · refine ⟨-102, (p, lt, ls, td, im, rd, wr, en, dy, hr, ch, tk, wn), m11, m12, m13, m14, m15, m18, m19, ?_, ?_, hu⟩
    · by_cases h1 : a < 0
      · simp [f_X9_tell, h1]
      · have h2 : ¬ a ≤ 9 := fun h => ha ⟨Int32.not_lt.mp h1, h⟩
        simp [f_X9_tell, h1, h2]
    · simp [f_X10_tell, M_in09, ha, bI_0]
theorem op_forget (h : Rel i p lt ls td im ch tk wn m0 m1 m4 m5 m6 m7 m8 m9 m10 m16 m18 m19 m22 m23 m24 m25 m26 m27 m28) : ∃ r x' n18, f_X9_forget (p, lt, ls, td, im, rd, wr, en, dy, hr, ch, tk, wn) = some (r, x') ∧ f_X10_forget m18 = some (r, n18) ∧ RelX (i + 1) x' m0 m1 m4 m5 m6 m7 m8 m9 m10 m16 n18 m19 m22 m23 m24 m25 m26 m27 m28 := by
  have hu := h.up
  obtain ⟨pn, n, sn, ln, tn, wc, tc, hpg, hL, hK, ⟨e1, e2, h3, h4⟩, hrest⟩ := hu
  refine ⟨nI tn, (p, lt, ls, (td.1, 0), im, rd, wr, en, dy, hr, ch, tk, wn), 0, ?_, ?_, ⟨pn, n, sn, ln, 0, wc, tc, hpg, hL, hK, ⟨rfl, rfl, by omega, fun j hj => by omega⟩, hrest⟩⟩
  · simp [f_X9_forget, f_X7_clear, e1]
  · simp [f_X10_forget, e2]
theorem op_which (h : Rel i p lt ls td im ch tk wn m0 m1 m4 m5 m6 m7 m8 m9 m10 m16 m18 m19 m22 m23 m24 m25 m26 m27 m28) : ∃ r, f_X9_which (p, lt, ls, td, im, rd, wr, en, dy, hr, ch, tk, wn) = some r ∧ f_X10_which m18 m19 = some r := by
  obtain ⟨pn, n, sn, ln, tn, wc, tc, hpg, hL, hK, hT, hrest⟩ := h
  obtain ⟨r, e1, e2⟩ := B_which hT
  exact ⟨r, by simp [f_X9_which, e1], by simp [f_X10_which, e2]⟩
theorem op_image (h : Rel i p lt ls td im ch tk wn m0 m1 m4 m5 m6 m7 m8 m9 m10 m16 m18 m19 m22 m23 m24 m25 m26 m27 m28) : ∃ r x' n22 n23 n24 n25 n26 n27 n28, f_X9_image (p, lt, ls, td, im, rd, wr, en, dy, hr, ch, tk, wn) = some (r, x') ∧ f_X10_image m4 m5 m6 m7 m8 m9 m18 m19 m22 m23 m24 m25 m26 m27 m28 = some (r, n22, n23, n24, n25, n26, n27, n28) ∧ RelX (i + 1) x' m0 m1 m4 m5 m6 m7 m8 m9 m10 m16 m18 m19 n22 n23 n24 n25 n26 n27 n28 := by
  have hu := h.up
  obtain ⟨pn, n, sn, ln, tn, wc, tc, hpg, hL, hK, hT, hq, hwc, hk1, hk2⟩ := h
  have hn := hL.2.2.2.2.1
  have e0 : (lt.2.1 = 0) ↔ n = 0 := by rw [hL.1]; exact nI_z (by omega)
  have e0' : (m4 = 0) ↔ n = 0 := by rw [hL.2.2.1]; exact nI_z (by omega)
  by_cases hz : n = 0
  · refine ⟨-103, (p, lt, ls, td, im, rd, wr, en, dy, hr, ch, tk, wn), m22, m23, m24, m25, m26, m27, m28, ?_, ?_, hu⟩
    · simp [f_X9_image, f_X9_noLetter, e0.mpr hz, bI_0]
    · simp [f_X10_image, e0'.mpr hz]
  · obtain ⟨lf, l1, l2⟩ := lt
    obtain ⟨rfl, rfl, rfl, rfl, hn, hs, hw⟩ := hL
    obtain ⟨tf, t2⟩ := td
    obtain ⟨rfl, rfl, htn, hte⟩ := hT
    obtain ⟨g3, eg3, hg3⟩ := X_copy3 im.1 lf n (nI sn) hn
    obtain ⟨g7, eg7, hg7⟩ := X_copy7 im.2.1 tf tn htn
    obtain ⟨c8, ec8, hc8⟩ := M_copy m8 m27 9 (by omega)
    obtain ⟨c19, ec19, hc19⟩ := M_copy m19 m28 6 (by omega)
    have hzz : ¬ nI n = 0 := mt (nI_z (show n < 2 ^ 31 by omega)).mp hz
    refine ⟨nI n, (p, (lf, nI n, nI sn), ls, (tf, nI tn), ((g3, nI n, nI sn), (g7, nI tn), ls.2, ch, true), rd, wr, en, dy, hr, ch, tk, wn), m7, nI sn, m6, m9, nI tn, c8, c19, ?_, ?_, ⟨pn, n, sn, ln, tn, wc, tc, hpg, ⟨rfl, rfl, rfl, rfl, hn, hs, hw⟩, hK, ⟨rfl, rfl, htn, hte⟩, ⟨hq.1, hq.2.1, hq.2.2.1, by have := hq.2.2.2; omega⟩, hwc, fun _ => ⟨rfl, ⟨sn, rfl, rfl, rfl, rfl, hn, hs, fun j hj => ?_⟩, ⟨tn, rfl, rfl, htn, fun j hj => ?_⟩, ⟨ln, by omega, by rw [hK.1], hK.2.1⟩, hq.1⟩, fun hb => absurd (show true = false from hb) (by decide)⟩⟩
    · simp [f_X9_image, f_X9_noLetter, hzz, bI_0, eg3, eg7]
    · simp [f_X10_image, hzz, ec8, ec19]
    · dsimp only
      rw [hg3 j hj, hc8 j (by omega)]
      exact hw j hj
    · dsimp only
      rw [hg7 j hj, hc19 j (by omega)]
      exact hte j hj
theorem op_restore (h : Rel i p lt ls td im ch tk wn m0 m1 m4 m5 m6 m7 m8 m9 m10 m16 m18 m19 m22 m23 m24 m25 m26 m27 m28) (hi : i < 1000) : ∃ r x' n5 n6 n8 n9 n18 n19, f_X9_restore (p, lt, ls, td, im, rd, wr, en, dy, hr, ch, tk, wn) = some (r, x') ∧ f_X10_restore m4 m5 m6 m7 m8 m9 m18 m19 m22 m23 m24 m25 m26 m27 m28 = some (r, n5, n6, n8, n9, n18, n19) ∧ RelX (i + 1) x' m0 m1 m4 n5 n6 m7 n8 n9 m10 m16 n18 n19 m22 m23 m24 m25 m26 m27 m28 := by
  have hu := h.up
  obtain ⟨pn, n, sn, ln, tn, wc, tc, hpg, hL, hK, hT, hq, hwc, hk1, hk2⟩ := h
  obtain ⟨⟨kf, k1, k2⟩, ⟨tf, t1⟩, kl0, kc0, hb⟩ := im
  cases hb with
  | false =>
    have hne : ¬ m22 = m7 := by
      rw [hq.2.2.1]
      rcases hk2 rfl with e | ⟨t', ht', e⟩
      · rw [e]; exact fun e => nI_m1 (show tc < 2 ^ 31 by have := hq.2.2.2; omega) e.symm
      · rw [e, nI_eq (by have := hq.2.2.2; omega) (by have := hq.2.2.2; omega)]; omega
    refine ⟨-103, (p, lt, ls, td, ((kf, k1, k2), (tf, t1), kl0, kc0, false), rd, wr, en, dy, hr, ch, tk, wn), m5, m6, m8, m9, m18, m19, ?_, ?_, hu⟩
    · simp [f_X9_restore, bI_0]
    · simp [f_X10_restore, hne]
  | true =>
    have hk1' := hk1 rfl
    obtain ⟨b1, ⟨ks, c1, c2, c3, c4, c5, c6, c7⟩, ⟨kt, d1, d2, d3, d4⟩, ⟨kl, e1, e2, e3⟩, b6⟩ := hk1 rfl
    dsimp only at c1 c2 c7 d1 d4 e2 b6
    subst c1 c2 d1 e2 b6
    obtain ⟨g3, eg3, hg3⟩ := X_copy3 lt kf n (nI ks) c5
    obtain ⟨g7, eg7, hg7⟩ := X_copy7 td tf kt d3
    obtain ⟨c8, ec8, hc8⟩ := M_copy m27 m8 9 (by omega)
    obtain ⟨c19, ec19, hc19⟩ := M_copy m28 m19 6 (by omega)
    refine ⟨nI n, (p, (g3, nI n, nI ks), (ls.1, nI kl), (g7, nI kt), ((kf, nI n, nI ks), (tf, nI kt), nI kl, kc0, true), rd, wr, en, dy, hr, kc0, tk, wn), m23, kc0, c8, m25, m26, c19, ?_, ?_, ⟨pn, n, ks, kl, kt, wc, tc, hpg, ⟨rfl, rfl, c3, c4, c5, c6, fun j hj => ?_⟩, ⟨by rw [hK.1], e3, by have := hK.2.2.1; omega, fun j hj => hK.2.2.2 j (by omega)⟩, ⟨rfl, d2, d3, fun j hj => ?_⟩, ⟨rfl, hq.2.1, hq.2.2.1, by have := hq.2.2.2; omega⟩, hwc, fun _ => ⟨b1, ⟨ks, rfl, rfl, c3, c4, c5, c6, c7⟩, ⟨kt, rfl, d2, d3, d4⟩, ⟨kl, by omega, rfl, e3⟩, rfl⟩, fun hb => absurd (show true = false from hb) (by decide)⟩⟩
    · simp [f_X9_restore, bI_0, eg3, eg7]
    · simp [f_X10_restore, b1, ec8, ec19, c3]
    · dsimp only
      rw [hg3 j hj, hc8 j (by omega)]
      exact c7 j hj
    · dsimp only
      rw [hg7 j hj, hc19 j (by omega)]
      exact d4 j hj
end RelOps2
