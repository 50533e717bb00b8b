section Rest
variable {p : zPG} {lt : zLT} {ls : zLS} {td : zTD} {im : zIM} {rd : zRD} {wr : zWR} {en : zEN} {dy : zDY} {hr : Nat → Int32} {ch tk wn : Int32} {m4 m5 m11 m13 m14 : Int32} {m12 m15 : Bool} {m8 m17 : Nat → Int32} {n sn : Nat}
theorem psi_congr (f g : Nat → Int32) (n kn : Nat) (goal : Int32) (i : Nat) (hkn : kn ≤ n) (h : ∀ j, j < n → f j = g j) : psi f n kn goal i = psi g n kn goal i := by
  unfold psi
  rw [foldP_congr f g kn (n - kn) _ _ (fun j h1 h2 => h j (by omega))]
theorem B_restOk (hL : HL lt m4 m5 m8 n sn) (hz : ¬ n = 0) (kn fr : Nat) (c : Int32) (hkn : kn ≤ n) (hfr : fr ≤ 5) (h1 : 1 ≤ kn + fr) (hc : (-20 : Int32) ≤ c ∧ c ≤ 20) : ∃ r en' o, f_X9_rest (p, lt, ls, td, im, rd, wr, en, dy, hr, ch, tk, wn) (nI kn) (nI (kn + fr)) c = some (r, (p, lt, ls, td, im, rd, wr, en', dy, hr, ch, tk, wn)) ∧ f_X10_restOf m4 m8 m11 m12 m13 m14 m15 m17 (nI kn) (nI (kn + fr)) c = some (r, o) := by
  obtain ⟨lf, l1, l2⟩ := lt
  obtain ⟨rfl, rfl, rfl, rfl, hn, hs, hw⟩ := hL
  dsimp only at hw
  obtain ⟨en', ex⟩ := X_howMany en lf n kn fr (nI sn) c hn hkn hfr (fun j h => by rw [(hw j h).1]; exact (hw j h).2)
  obtain ⟨o, em⟩ := M_restOf m8 m17 n kn fr c hn hkn hfr (fun j h => (hw j h).2) m11 m12 m13 m14 m15
  have es : tN (fun c' => psi lf n kn c (rI fr c')) (6 ^ fr) 0 = tN (fun c' => psi m8 n kn c (rI fr c')) (6 ^ fr) 0 := tN_congr _ _ (fun c' _ _ => psi_congr lf m8 n kn c _ hkn (fun j h => (hw j h).1))
  refine ⟨_, en', o, ?_, em⟩
  have a1 : ¬ nI kn < 0 := nI_pos (by omega)
  have a2 : nI kn ≤ nI n := (nI_leI (by omega) (by omega)).mpr hkn
  have a3 : ¬ nI (kn + fr) < 1 := by rw [show (1 : Int32) = nI 1 from rfl, nI_ltI (by omega) (by omega)]; omega
  have a4 : ¬ nI (kn + fr) < nI kn := by rw [nI_ltI (by omega) (by omega)]; omega
  have a5 : nI (kn + fr) ≤ nI kn + 5 := by rw [show (5 : Int32) = nI 5 from rfl, nI_add, nI_leI (by omega) (by omega)]; omega
  have a6 : ¬ c < -20 := Int32.not_lt.mpr hc.1
  have hz' : ¬ nI n = 0 := mt (nI_z (show n < 2 ^ 31 by omega)).mp hz
  simp [f_X9_rest, a1, a2, a3, a4, a5, a6, hc.2, f_X9_noLetter, hz', bI_0, ex, es]
theorem B_rest (hL : HL lt m4 m5 m8 n sn) (a b c : Int32) : ∃ r en' o, f_X9_rest (p, lt, ls, td, im, rd, wr, en, dy, hr, ch, tk, wn) a b c = some (r, (p, lt, ls, td, im, rd, wr, en', dy, hr, ch, tk, wn)) ∧ f_X10_rest m4 m8 m11 m12 m13 m14 m15 m17 a b c = some (r, o) := by
  have hn := hL.2.2.2.2.1
  have el := hL.1
  have e4 := hL.2.2.1
  have inA : f_X10_in a.toInt64 0 m4.toInt64 = some (decide (0 ≤ a ∧ a ≤ m4)) := M_in a 0 m4
  have inC : f_X10_in c.toInt64 (-20) 20 = some (decide ((-20) ≤ c ∧ c ≤ 20)) := M_in c (-20) 20
  have inB : f_X10_in b.toInt64 1 (a + 5).toInt64 = some (decide (1 ≤ b ∧ b ≤ a + 5)) := M_in b 1 (a + 5)
  have inB' : f_X10_in b.toInt64 a.toInt64 (a + 5).toInt64 = some (decide (a ≤ b ∧ b ≤ a + 5)) := M_in b a (a + 5)
  have e0 : (lt.2.1 = 0) ↔ n = 0 := by rw [el]; exact nI_z (by omega)
  have e0' : (m4 = 0) ↔ n = 0 := by rw [e4]; exact nI_z (by omega)
  by_cases ha : 0 ≤ a ∧ a ≤ m4
  · have a1 : ¬ a < 0 := Int32.not_lt.mpr ha.1
    have a2 : a ≤ lt.2.1 := by rw [el, ← e4]; exact ha.2
    obtain ⟨kn, hkl, ek⟩ := nI_of a1
    have hkn : kn ≤ n := by
      have := ha.2
      rw [e4, ek, nI_leI hkl (by omega)] at this
      exact this
    have e5 : a + 5 = nI (kn + 5) := by rw [ek, show (5 : Int32) = nI 5 from rfl, nI_add]
    by_cases hb : 1 ≤ b ∧ a ≤ b ∧ b ≤ a + 5
    · have b1 : ¬ b < 1 := Int32.not_lt.mpr hb.1
      have b2 : ¬ b < a := Int32.not_lt.mpr hb.2.1
      by_cases hc : (-20 : Int32) ≤ c ∧ c ≤ 20
      · have c1 : ¬ c < -20 := Int32.not_lt.mpr hc.1
        by_cases hz : n = 0
        · refine ⟨-103, en, (m11, m12, m13, m14, m15, m17), ?_, ?_⟩
          · have a2' : a ≤ 0 := by rw [← e0.mpr hz]; exact a2
            simp [f_X9_rest, a1, a2', b1, b2, hb.2.2, c1, hc.2, f_X9_noLetter, e0.mpr hz, bI_0]
          · have hka : a = 0 := by rw [ek, show kn = 0 by omega]; rfl
            simp only [f_X10_rest, inA, inB, inC, ha, hb, hc, and_self, decide_true, Option.bind_some, bI_0, if_pos hka, if_pos (e0'.mpr hz)]
            simp
        · obtain ⟨l, hll, elb⟩ := nI_of (x := b) (fun h => absurd hb.1 (Int32.not_le.mpr (Int32.lt_of_lt_of_le h (by decide))))
          have h1l : 1 ≤ l := by
            have := hb.1
            rw [elb] at this
            exact (nI_leI (a := 1) (b := l) (by omega) (by omega)).mp this
          have h2l : kn ≤ l := by
            have := hb.2.1
            rw [ek, elb, nI_leI hkl hll] at this
            exact this
          have h3l : l ≤ kn + 5 := by
            have := hb.2.2
            rw [e5, elb, nI_leI hll (by omega)] at this
            exact this
          have eb : b = nI (kn + (l - kn)) := by rw [elb]; congr 1; omega
          obtain ⟨r, en', o, ex, em⟩ := B_restOk (p := p) (ls := ls) (td := td) (im := im) (rd := rd) (wr := wr) (en := en) (dy := dy) (hr := hr) (ch := ch) (tk := tk) (wn := wn) (m11 := m11) (m12 := m12) (m13 := m13) (m14 := m14) (m15 := m15) (m17 := m17) hL hz kn (l - kn) c hkn (by omega) (by omega) hc
          rw [← ek, ← eb] at ex em
          refine ⟨r, en', o, ex, ?_⟩
          have hz' := mt e0'.mp hz
          by_cases hka : a = 0
          · simp only [f_X10_rest, inA, inB, inC, ha, hb, hc, and_self, decide_true, Option.bind_some, bI_0, if_pos hka, if_neg hz', em]
            simp
          · simp only [f_X10_rest, inA, inB', inC, ha, hb, hc, and_self, decide_true, Option.bind_some, bI_0, if_neg hka, if_neg hz', em]
            simp
      · refine ⟨-102, en, (m11, m12, m13, m14, m15, m17), ?_, ?_⟩
        · by_cases c1 : c < -20
          · simp [f_X9_rest, a1, a2, b1, b2, hb.2.2, c1]
          · have c2 : ¬ c ≤ 20 := fun h => hc ⟨Int32.not_lt.mp c1, h⟩
            simp [f_X9_rest, a1, a2, b1, b2, hb.2.2, c1, c2]
        · by_cases hka : a = 0
          · simp only [f_X10_rest, inA, inB, inC, ha, hb, hc, and_self, decide_true, decide_false, Option.bind_some, bI_0, if_pos hka]
            simp
          · simp only [f_X10_rest, inA, inB', inC, ha, hb, hc, and_self, decide_true, decide_false, Option.bind_some, bI_0, if_neg hka]
            simp
    · refine ⟨-102, en, (m11, m12, m13, m14, m15, m17), ?_, ?_⟩
      · by_cases b1 : b < 1
        · simp [f_X9_rest, a1, a2, b1]
        · by_cases b2 : b < a
          · simp [f_X9_rest, a1, a2, b1, b2]
          · have b3 : ¬ b ≤ a + 5 := fun h => hb ⟨Int32.not_lt.mp b1, Int32.not_lt.mp b2, h⟩
            simp [f_X9_rest, a1, a2, b1, b2, b3]
      · by_cases hka : a = 0
        · have hb' : ¬ (1 ≤ b ∧ b ≤ a + 5) := fun h => hb ⟨h.1, by rw [hka]; exact Int32.le_trans (by decide) h.1, h.2⟩
          simp only [f_X10_rest, inA, inB, ha, hb', and_self, decide_true, decide_false, Option.bind_some, bI_0, if_pos hka]
          simp
        · have hb' : ¬ (a ≤ b ∧ b ≤ a + 5) := fun h => hb ⟨Int32.le_trans (by
            rw [ek]
            have : kn ≠ 0 := fun hk0 => hka (by rw [ek, hk0]; rfl)
            exact (nI_leI (a := 1) (b := kn) (by omega) (by omega)).mpr (by omega)) h.1, h.1, h.2⟩
          simp only [f_X10_rest, inA, inB', ha, hb', and_self, decide_true, decide_false, Option.bind_some, bI_0, if_neg hka]
          simp
  · refine ⟨-102, en, (m11, m12, m13, m14, m15, m17), ?_, ?_⟩
    · by_cases a1 : a < 0
      · simp [f_X9_rest, a1]
      · have a2 : ¬ a ≤ lt.2.1 := fun h => ha ⟨Int32.not_lt.mp a1, by rw [e4, ← el]; exact h⟩
        simp [f_X9_rest, a1, a2]
    · simp only [f_X10_rest, inA, ha, decide_false, Option.bind_some, bI_0]
      simp
end Rest
