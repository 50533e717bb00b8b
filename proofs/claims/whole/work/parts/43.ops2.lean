theorem rng (b : Int32) (m : Nat) (hm : m < 2 ^ 31) : (b < 0 ∨ ¬ b ≤ nI m) ∨ ∃ j, j ≤ m ∧ b = nI j := by
  by_cases h : b < 0
  · exact Or.inl (Or.inl h)
  · obtain ⟨j, hj, rfl⟩ := nI_of h
    by_cases hjm : j ≤ m
    · exact Or.inr ⟨j, hjm, rfl⟩
    · exact Or.inl (Or.inr (by rw [nI_leI hj hm]; exact hjm))
theorem X_has4 (f : Nat → Int32) (n i : Nat) (hn : n ≤ 4) (hi : i < 2 ^ 31) : f_X4_has (f, nI n) (nI i) = some (decide (i < n)) := by
  unfold f_X4_has
  rw [if_neg (nI_pos hi)]
  by_cases h : i < n
  · rw [if_neg (by rw [nI_leI (by omega) hi]; omega), if_neg (by rw [show Int32.ofNat 4 = nI 4 from rfl, nI_leI (by omega) hi]; omega)]
    simp [h]
  · rw [if_pos (by rw [nI_leI (by omega) hi]; omega)]
    simp [h]
theorem X_hasN4 (f : Nat → Int32) (n : Nat) (a : Int32) (h2 : a < 0 ∨ nI n ≤ a) : f_X4_has (f, nI n) a = some false := by
  unfold f_X4_has
  rcases h2 with h2 | h2
  · rw [if_pos h2]
  · by_cases h3 : a < 0
    · rw [if_pos h3]
    · rw [if_neg h3, if_pos h2]
theorem X_kindOf (f : Nat → Int32) (n i : Nat) (hn : n ≤ 4) (hi : i < n) : f_X4_kindOf (f, nI n) (nI i) = some (f i) := by
  unfold f_X4_kindOf
  rw [X_has4 f n i hn (by omega)]
  simp only [hi, decide_true, Option.bind_some, bI_0]
  rw [if_neg (by decide), if_neg (gok (by omega) (by omega)), nI_clamp (by omega)]
theorem M_isL (m9 : Int32) (n : Nat) (hn : n ≤ 4) (e : m9 = nI n) (j : Nat) (hj : j < n) : f_X10_isListener m9 (nI j) = some true := by
  unfold f_X10_isListener
  rw [M_in0, e]
  simp only [ix_in (by omega : n ≤ 100) hj, and_self, decide_true, Option.bind_some]
theorem M_isLN (m9 : Int32) (n : Nat) (a : Int32) (e : m9 = nI n) (h : ¬ (0 ≤ a ∧ a ≤ nI n - 1)) : f_X10_isListener m9 a = some false := by
  unfold f_X10_isListener
  rw [M_in0, e]
  simp only [h, decide_false, Option.bind_some]
section Ops2
variable {p : zPG} {lt : zLT} {ls : zLS} {td : zTD} {im : zIM} {rd : zRD} {wr : zWR} {en : zEN} {dy : zDY} {hr : Nat → Int32} {ch tk wn : Int32} {m4 m5 m9 m11 m13 m14 : Int32} {m12 m15 : Bool} {m8 m10 : Nat → Int32} {n sn ln : Nat}
theorem HL_read (hL : HL lt m4 m5 m8 n sn) (k : Int32) (ft : Bool) : f_X6_readTo k lt ft = some (k, rdL k m8 n sn ft) := by
  obtain ⟨lf, l1, l2⟩ := lt
  obtain ⟨rfl, rfl, rfl, rfl, hn, hs, hw⟩ := hL
  dsimp only at hw ⊢
  rw [X_readTo k lf n sn ft hn hs (fun j h => by rw [(hw j h).1]; exact (hw j h).2), rdL_congr k lf m8 n sn ft (fun j h => (hw j h).1)]
theorem HL_mread (hL : HL lt m4 m5 m8 n sn) (k : Int32) (hk : isk k) (ft : Bool) : f_X10_read 9 m8 m4 k ft m5 = some (rdL k m8 n sn ft) := by
  obtain ⟨e1, e2, rfl, rfl, hn, hs, hw⟩ := hL
  exact M_read 9 n sn m8 k ft hk (by omega) (by omega) (by omega) (fun j h => (hw j h).2)
theorem B_lof (hL : HL lt m4 m5 m8 n sn) (hK : HK ls m9 m10 ln) (j : Nat) (hj : j < ln) (b : Int32) : ∃ r rd' o, f_X9_about (p, lt, ls, td, im, rd, wr, en, dy, hr, ch, tk, wn) (nI j) b = some (r, (p, lt, ls, td, im, rd', wr, en, dy, hr, ch, tk, wn)) ∧ f_X10_listenerOf m4 m5 m8 m10 m11 m12 m13 m14 m15 (nI j) b = some (r, o) := by
  obtain ⟨rfl, rfl, hln, hkk⟩ := hK
  have e1 : f_X4_has (m10, nI ln) (nI j) = some true := by rw [X_has4 m10 ln j hln (by omega)]; simp [hj]
  have e2 : f_X4_kindOf (m10, nI ln) (nI j) = some (m10 j) := X_kindOf m10 ln j hln hj
  have e3 := fun ft => HL_read hL (m10 j) ft
  have e4 := fun ft => HL_mread hL (m10 j) (hkk j hj) ft
  have g1 : ¬ (nI j < 0 ∨ 4 ≤ (nI j).toNatClampNeg) := gok (by omega) (by omega)
  have cl : (nI j).toNatClampNeg = j := nI_clamp (by omega)
  have hj0 : ¬ nI j < 0 := nI_pos (by omega)
  have hj4 : ¬ 4 ≤ j := by omega
  rcases rng b 6 (by omega) with h | ⟨jj, hjj, rfl⟩
  · refine ⟨-102, rd, (m11, m12, m13, m14, m15), ?_, ?_⟩
    · rcases h with h | h
      · simp [f_X9_about, e1, bI_0, h]
      · by_cases h0 : b < 0
        · simp [f_X9_about, e1, bI_0, h0]
        · have h : ¬ b ≤ 6 := h
          simp [f_X9_about, e1, bI_0, h0, h]
    · have h0 : ¬ b = 0 := by
        rintro rfl
        rcases h with h | h
        · exact absurd h (by decide)
        · exact h (by decide)
      have h1 : ¬ (1 ≤ b ∧ b ≤ 6) := by
        rintro ⟨h1, h2⟩
        rcases h with h | h
        · exact absurd h1 (Int32.not_le.mpr (Int32.lt_of_lt_of_le h (by decide)))
        · exact h h2
      simp [f_X10_listenerOf, h0, M_in16, h1, bI_0]
  · rcases (show jj = 0 ∨ jj = 1 ∨ jj = 2 ∨ jj = 3 ∨ jj = 4 ∨ jj = 5 ∨ jj = 6 by omega) with rfl | rfl | rfl | rfl | rfl | rfl | rfl
    · refine ⟨m10 j, rd, (m11, m12, m13, m14, m15), ?_, ?_⟩
      · simp (decide := true) [f_X9_about, e1, e2, bI_0, nI_0]
      · simp [f_X10_listenerOf, nI_0, cl, hj0, hj4]
    · refine ⟨(rdL (m10 j) m8 n sn false).2.2.2.1, (m10 j, (rdL (m10 j) m8 n sn false)), (rdL (m10 j) m8 n sn false), ?_, ?_⟩
      · simp (decide := true) [f_X9_about, e1, e2, e3, bI_0, bI_t, bI_f, show nI 1 = (1 : Int32) from rfl]
      · simp (decide := true) [f_X10_listenerOf, show f_X10_in 1 1 6 = some true from by decide, cl, hj0, hj4, e4, bI_0, bI_t, bI_f, show nI 1 = (1 : Int32) from rfl]
    · refine ⟨(rdL (m10 j) m8 n sn false).1 + 100, (m10 j, (rdL (m10 j) m8 n sn false)), (rdL (m10 j) m8 n sn false), ?_, ?_⟩
      · simp (decide := true) [f_X9_about, e1, e2, e3, bI_0, bI_t, bI_f, show nI 2 = (2 : Int32) from rfl]
      · simp (decide := true) [f_X10_listenerOf, show f_X10_in 2 1 6 = some true from by decide, cl, hj0, hj4, e4, bI_0, bI_t, bI_f, show nI 2 = (2 : Int32) from rfl, Int32.add_comm]
    · refine ⟨bI (rdL (m10 j) m8 n sn false).2.2.2.2, (m10 j, (rdL (m10 j) m8 n sn false)), (rdL (m10 j) m8 n sn false), ?_, ?_⟩
      · cases hq : (rdL (m10 j) m8 n sn false).2.2.2.2 <;> simp (decide := true) [f_X9_about, e1, e2, e3, bI_0, bI_t, bI_f, show nI 3 = (3 : Int32) from rfl, hq]
      · cases hq : (rdL (m10 j) m8 n sn false).2.2.2.2 <;> simp (decide := true) [f_X10_listenerOf, show f_X10_in 3 1 6 = some true from by decide, cl, hj0, hj4, e4, bI_0, bI_t, bI_f, show nI 3 = (3 : Int32) from rfl, hq]
    · refine ⟨(rdL (m10 j) m8 n sn true).2.2.2.1, (m10 j, (rdL (m10 j) m8 n sn true)), (rdL (m10 j) m8 n sn true), ?_, ?_⟩
      · simp (decide := true) [f_X9_about, e1, e2, e3, bI_0, bI_t, bI_f, show nI 4 = (4 : Int32) from rfl]
      · simp (decide := true) [f_X10_listenerOf, show f_X10_in 4 1 6 = some true from by decide, cl, hj0, hj4, e4, bI_0, bI_t, bI_f, show nI 4 = (4 : Int32) from rfl]
    · refine ⟨(rdL (m10 j) m8 n sn true).1 + 100, (m10 j, (rdL (m10 j) m8 n sn true)), (rdL (m10 j) m8 n sn true), ?_, ?_⟩
      · simp (decide := true) [f_X9_about, e1, e2, e3, bI_0, bI_t, bI_f, show nI 5 = (5 : Int32) from rfl]
      · simp (decide := true) [f_X10_listenerOf, show f_X10_in 5 1 6 = some true from by decide, cl, hj0, hj4, e4, bI_0, bI_t, bI_f, show nI 5 = (5 : Int32) from rfl, Int32.add_comm]
    · refine ⟨bI (rdL (m10 j) m8 n sn true).2.2.2.2, (m10 j, (rdL (m10 j) m8 n sn true)), (rdL (m10 j) m8 n sn true), ?_, ?_⟩
      · cases hq : (rdL (m10 j) m8 n sn true).2.2.2.2 <;> simp (decide := true) [f_X9_about, e1, e2, e3, bI_0, bI_t, bI_f, show nI 6 = (6 : Int32) from rfl, hq]
      · cases hq : (rdL (m10 j) m8 n sn true).2.2.2.2 <;> simp (decide := true) [f_X10_listenerOf, show f_X10_in 6 1 6 = some true from by decide, cl, hj0, hj4, e4, bI_0, bI_t, bI_f, show nI 6 = (6 : Int32) from rfl, hq]
theorem B_about (hL : HL lt m4 m5 m8 n sn) (hK : HK ls m9 m10 ln) (a b : Int32) : ∃ r rd' o, f_X9_about (p, lt, ls, td, im, rd, wr, en, dy, hr, ch, tk, wn) a b = some (r, (p, lt, ls, td, im, rd', wr, en, dy, hr, ch, tk, wn)) ∧ f_X10_about m4 m5 m8 m9 m10 m11 m12 m13 m14 m15 a b = some (r, o) := by
  have hln := hK.2.2.1
  rcases ixc a ln (by omega) with ⟨h1, h2⟩ | ⟨j, hj, rfl⟩
  · refine ⟨-101, rd, (m11, m12, m13, m14, m15), ?_, ?_⟩
    · have : f_X4_has ls a = some false := by rw [hK.1]; exact X_hasN4 m10 ln a h2
      simp [f_X9_about, this, bI_0]
    · simp [f_X10_about, M_isLN m9 ln a hK.2.1 h1, bI_0]
  · obtain ⟨r, rd', o, e1, e2⟩ := B_lof (p := p) (td := td) (im := im) (rd := rd) (wr := wr) (en := en) (dy := dy) (hr := hr) (ch := ch) (tk := tk) (wn := wn) (m11 := m11) (m12 := m12) (m13 := m13) (m14 := m14) (m15 := m15) hL hK j hj b
    refine ⟨r, rd', o, e1, ?_⟩
    simp [f_X10_about, M_isL m9 ln hln hK.2.1 j hj, bI_0, e2]
theorem isKind_in (b : Int32) : f_X9_isKind b = some (decide (0 ≤ b ∧ b ≤ 4)) := by
  unfold f_X9_isKind
  rcases rng b 4 (by omega) with h | ⟨jj, hjj, rfl⟩
  · by_cases h0 : b < 0
    · have h1 : ¬ (0 ≤ b ∧ b ≤ 4) := fun h => absurd h.1 (Int32.not_le.mpr h0)
      simp [h0, h1]
    · have h2 : ¬ b ≤ 4 := h.resolve_left h0
      have h3 : 5 ≤ b := by
        obtain ⟨j, hj, rfl⟩ := nI_of h0
        have h2 : ¬ nI j ≤ nI 4 := h2
        rw [nI_leI hj (by omega)] at h2
        exact (nI_leI (a := 5) (by omega) hj).mpr (by omega)
      have h1 : ¬ (0 ≤ b ∧ b ≤ 4) := fun h => h2 h.2
      simp [h0, h1, h3]
  · rcases (show jj = 0 ∨ jj = 1 ∨ jj = 2 ∨ jj = 3 ∨ jj = 4 by omega) with rfl | rfl | rfl | rfl | rfl <;> decide
theorem isWord_in (b : Int32) : f_X9_isWord b = some (decide (0 ≤ b ∧ b ≤ 5)) := by
  unfold f_X9_isWord
  rcases rng b 5 (by omega) with h | ⟨jj, hjj, rfl⟩
  · by_cases h0 : b < 0
    · have h1 : ¬ (0 ≤ b ∧ b ≤ 5) := fun h => absurd h.1 (Int32.not_le.mpr h0)
      simp [h0, h1]
    · have h2 : ¬ b ≤ 5 := h.resolve_left h0
      have h3 : 6 ≤ b := by
        obtain ⟨j, hj, rfl⟩ := nI_of h0
        have h2 : ¬ nI j ≤ nI 5 := h2
        rw [nI_leI hj (by omega)] at h2
        exact (nI_leI (a := 6) (by omega) hj).mpr (by omega)
      have h1 : ¬ (0 ≤ b ∧ b ≤ 5) := fun h => h2 h.2
      simp [h0, h1, h3]
  · rcases (show jj = 0 ∨ jj = 1 ∨ jj = 2 ∨ jj = 3 ∨ jj = 4 ∨ jj = 5 by omega) with rfl | rfl | rfl | rfl | rfl | rfl <;> decide
theorem isk_of {b : Int32} (h : 0 ≤ b ∧ b ≤ 4) : isk b := by
  obtain ⟨j, hj, rfl⟩ := nI_of2 (n := 4) (by decide) (Int32.not_lt.mpr h.1) h.2
  rcases (show j = 0 ∨ j = 1 ∨ j = 2 ∨ j = 3 ∨ j = 4 by omega) with rfl | rfl | rfl | rfl | rfl <;> (unfold isk; decide)
theorem isw_of {b : Int32} (h : 0 ≤ b ∧ b ≤ 5) : isw b := by
  obtain ⟨j, hj, rfl⟩ := nI_of2 (n := 5) (by decide) (Int32.not_lt.mpr h.1) h.2
  rcases (show j = 0 ∨ j = 1 ∨ j = 2 ∨ j = 3 ∨ j = 4 ∨ j = 5 by omega) with rfl | rfl | rfl | rfl | rfl | rfl <;> (unfold isw; decide)
theorem B_as (hK : HK ls m9 m10 ln) (a b : Int32) : ∃ r, f_X9_as (p, lt, ls, td, im, rd, wr, en, dy, hr, ch, tk, wn) a b = some r ∧ f_X10_as m9 m10 a b = some r := by
  have hln := hK.2.2.1
  rcases ixc a ln (by omega) with ⟨h1, h2⟩ | ⟨j, hj, rfl⟩
  · refine ⟨-101, ?_, ?_⟩
    · have : f_X4_has ls a = some false := by rw [hK.1]; exact X_hasN4 m10 ln a h2
      simp [f_X9_as, this, bI_0]
    · simp [f_X10_as, M_isLN m9 ln a hK.2.1 h1, bI_0]
  · have e1 : f_X4_has ls (nI j) = some true := by rw [hK.1, X_has4 m10 ln j hln (by omega)]; simp [hj]
    have e2 : f_X4_kindOf ls (nI j) = some (m10 j) := by rw [hK.1]; exact X_kindOf m10 ln j hln hj
    have g1 : ¬ (nI j < 0 ∨ 4 ≤ (nI j).toNatClampNeg) := gok (by omega) (by omega)
    have cl : (nI j).toNatClampNeg = j := nI_clamp (by omega)
    by_cases hb : 0 ≤ b ∧ b ≤ 4
    · have hm : f_X10_as m9 m10 (nI j) b = (if b = 0 then some (nI j) else if b = m10 j then some (nI j) else if b = 1 then (if m10 j = 4 then some (nI j) else some (-1)) else some (-1)) := by
        have hj0 : ¬ nI j < 0 := nI_pos (by omega)
        have hj4 : ¬ 4 ≤ j := by omega
        simp [f_X10_as, M_isL m9 ln hln hK.2.1 j hj, M_in04, hb, bI_0, cl, hj0, hj4]
      have hx : f_X9_as (p, lt, ls, td, im, rd, wr, en, dy, hr, ch, tk, wn) (nI j) b = (if b = 0 then some (nI j) else if b = m10 j then some (nI j) else if b = 1 then (if m10 j = 4 then some (nI j) else some (-1)) else some (-1)) := by
        have h2' : (m10 j = b) = (b = m10 j) := propext eq_comm
        simp only [f_X9_as, e1, e2, isKind_in, hb, and_self, decide_true, Option.bind_some, bI_0, f_X9_isSuch, h2']
        by_cases h0 : b = 0
        · by_cases h2 : b = m10 j <;> simp [h0, h2]
        · by_cases h2 : b = m10 j
          · simp [h0, h2]
          · simp only [h0, h2, if_false]
            by_cases h3 : b = 1 <;> by_cases h4 : m10 j = 4 <;> simp [h3, h4]
      rw [hx, hm]
      split
      · exact ⟨_, rfl, rfl⟩
      · split
        · exact ⟨_, rfl, rfl⟩
        · split
          · split
            · exact ⟨_, rfl, rfl⟩
            · exact ⟨_, rfl, rfl⟩
          · exact ⟨_, rfl, rfl⟩
    · refine ⟨-102, ?_, ?_⟩
      · simp [f_X9_as, e1, isKind_in, hb, bI_0]
      · simp [f_X10_as, M_isL m9 ln hln hK.2.1 j hj, M_in04, hb, bI_0]
end Ops2
