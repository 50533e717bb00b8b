theorem X_copyTo1 (g : Nat → Int32) (k : Nat) (hk : k ≤ 9) (K : Int32 → (Nat → Int32) → Int32 → Int32 → Option zLT) : ∀ (fu i : Nat) (s : Nat → Int32) (y : Int32), i ≤ k → k - i < fu → (∀ j, j < i → s j = wv (g j)) → ∃ f, lp_X5_copyTo_6 g (nI (k + 2)) K fu (nI i) s (nI i) y = K (nI k) f (nI k) y ∧ ∀ j, j < k → f j = wv (g j) := by
  intro fu
  induction fu with
  | zero => intro i s y _ hh; omega
  | succ fu ih =>
    intro i s y hi hf hs
    rw [lp_X5_copyTo_6]
    have e2 : nI (k + 2) - 2 = nI k := by rw [show (2 : Int32) = nI 2 from rfl, pk_sub (by omega)]; congr 1
    rw [e2]
    by_cases hc : k ≤ i
    · rw [if_pos ((nI_leI (by omega) (by omega)).mpr hc)]
      have e : i = k := by omega
      subst e
      exact ⟨s, rfl, hs⟩
    · rw [if_neg (by rw [nI_leI (by omega) (by omega)]; exact hc), X_sign g (k + 2) i (by omega) (by omega)]
      simp only [Option.bind_some]
      rw [X_wv]
      simp only [Option.bind_some]
      rw [X_add3 s i y _ (by omega)]
      simp only [Option.bind_some]
      rw [nI_1]
      refine ih (i + 1) _ y (by omega) (by omega) (fun j hj => ?_)
      unfold upd
      by_cases hji : j = i
      · simp [hji]
      · simp only [hji, if_false]; exact hs j (by omega)
theorem X_copyTo (g : Nat → Int32) (k : Nat) (hk : k ≤ 9) (lt : zLT) : ∃ f, f_X5_copyTo (g, nI (k + 2)) lt = some (f, nI k, g (k + 1) - 48) ∧ ∀ j, j < k → f j = wv (g j) := by
  obtain ⟨f, hg, hj⟩ := X_copyTo1 g k hk (fun _ a b _ => (f_X5_signAt (g, nI (k + 2)) (nI (k + 2) - 1)).bind fun u7 => (some ((u7 - 48) : Int32)).bind fun z8 => some (a, b, z8)) FU 0 lt.1 0 (by omega) (FU_lt (by omega)) (fun j hj => by omega)
  refine ⟨f, ?_, hj⟩
  rw [f_X5_copyTo, f_X3_clear, Option.bind_some]
  rw [nI_0] at hg
  refine hg.trans ?_
  rw [nI_sub1 (by omega), show k + 2 - 1 = k + 1 by omega, X_sign g (k + 2) (k + 1) (by omega) (by omega)]
  rfl
theorem M_take1 (g : Nat → Int32) (k : Nat) (hk : k ≤ 9) (K : Int32 → (Nat → Int32) → Option (Int32 × Int32 × Int32 × Int32 × Int32 × Int32 × Int32 × Int32 × (Nat → Int32) × Int32 × Int32)) : ∀ (fu i : Nat) (s : Nat → Int32), i ≤ k → k - i < fu → (∀ j, j < i → s j = wv (g j)) → ∃ f, lp_X10_take_32 g (nI k) K fu (nI i) s = K (nI k) f ∧ ∀ j, j < k → f j = wv (g j) := by
  intro fu
  induction fu with
  | zero => intro i s _ hh; omega
  | succ fu ih =>
    intro i s hi hf hs
    rw [lp_X10_take_32]
    by_cases hc : k ≤ i
    · rw [if_pos ((nI_leI (by omega) (by omega)).mpr hc)]
      have e : i = k := by omega
      subst e
      exact ⟨s, rfl, hs⟩
    · rw [if_neg (by rw [nI_leI (by omega) (by omega)]; exact hc), if_neg (gok (by omega) (by omega)), nI_clamp (by omega), M_wv]
      simp only [Option.bind_some]
      rw [if_neg (by rintro (h | h); exact nI_pos (by omega) h; omega), nI_1]
      refine ih (i + 1) _ (by omega) (by omega) (fun j hj => ?_)
      unfold upd
      by_cases hji : j = i
      · simp [hji]
      · simp only [hji, if_false]; exact hs j (by omega)
/-- the class's state and the reference's, behind i calls -/
def Rel (i : Nat) (p : zPG) (lt : zLT) (ls : zLS) (td : zTD) (im : zIM) (ch tk wn : Int32) (m0 : Nat → Int32) (m1 m4 m5 m6 m7 : Int32) (m8 : Nat → Int32) (m9 : Int32) (m10 : Nat → Int32) (m16 m18 : Int32) (m19 : Nat → Int32) (m22 m23 m24 m25 m26 : Int32) (m27 m28 : Nat → Int32) : Prop :=
  ∃ (pn n sn ln tn wc tc : Nat), (p = (m0, nI pn) ∧ m1 = nI pn ∧ pn ≤ 12) ∧ HL lt m4 m5 m8 n sn ∧ HK ls m9 m10 ln ∧ HT td m18 m19 tn ∧ (ch = m6 ∧ tk = m7 ∧ m7 = nI tc ∧ tc ≤ i) ∧ (wn = nI wc ∧ m16 = nI wc ∧ wc ≤ 20) ∧
    (im.2.2.2.2 = true → m22 = m7 ∧ (∃ ks, HL im.1 m4 m23 m27 n ks) ∧ (∃ kt, HT im.2.1 m26 m28 kt) ∧ (∃ kl, kl ≤ ln ∧ im.2.2.1 = nI kl ∧ m25 = nI kl) ∧ im.2.2.2.1 = m24) ∧
    (im.2.2.2.2 = false → m22 = -1 ∨ ∃ t', t' < tc ∧ m22 = nI t')
def RelX (i : Nat) (x : zXS) (m0 : Nat → Int32) (m1 m4 m5 m6 m7 : Int32) (m8 : Nat → Int32) (m9 : Int32) (m10 : Nat → Int32) (m16 m18 : Int32) (m19 : Nat → Int32) (m22 m23 m24 m25 m26 : Int32) (m27 m28 : Nat → Int32) : Prop :=
  Rel i x.1 x.2.1 x.2.2.1 x.2.2.2.1 x.2.2.2.2.1 x.2.2.2.2.2.2.2.2.2.2.1 x.2.2.2.2.2.2.2.2.2.2.2.1 x.2.2.2.2.2.2.2.2.2.2.2.2 m0 m1 m4 m5 m6 m7 m8 m9 m10 m16 m18 m19 m22 m23 m24 m25 m26 m27 m28
section RelOps
variable {i : Nat} {p : zPG} {lt : zLT} {ls : zLS} {td : zTD} {im : zIM} {rd : zRD} {wr : zWR} {en : zEN} {dy : zDY} {hr : Nat → Int32} {ch tk wn : Int32} {m0 : Nat → Int32} {m1 m4 m5 m6 m7 : Int32} {m8 : Nat → Int32} {m9 : Int32} {m10 : Nat → Int32} {m16 m18 : Int32} {m19 : Nat → Int32} {m22 m23 m24 m25 m26 : Int32} {m27 m28 : Nat → Int32} {m11 m13 m14 : Int32} {m12 m15 : Bool}
theorem Rel.up (h : Rel i p lt ls td im ch tk wn m0 m1 m4 m5 m6 m7 m8 m9 m10 m16 m18 m19 m22 m23 m24 m25 m26 m27 m28) : Rel (i + 1) p lt ls td im ch tk wn m0 m1 m4 m5 m6 m7 m8 m9 m10 m16 m18 m19 m22 m23 m24 m25 m26 m27 m28 := by
  obtain ⟨pn, n, sn, ln, tn, wc, tc, h1, h2, h3, h4, ⟨h5, h6, h7, h8⟩, h9⟩ := h
  exact ⟨pn, n, sn, ln, tn, wc, tc, h1, h2, h3, h4, ⟨h5, h6, h7, by omega⟩, h9⟩
theorem op_letter (h : Rel i p lt ls td im ch tk wn m0 m1 m4 m5 m6 m7 m8 m9 m10 m16 m18 m19 m22 m23 m24 m25 m26 m27 m28) (a : Int32) : ∃ r x' m0' m1', f_X9_letter (p, lt, ls, td, im, rd, wr, en, dy, hr, ch, tk, wn) a = some (r, x') ∧ f_X10_letter m0 m1 a = some (r, m0', m1') ∧ RelX (i + 1) x' m0' m1' m4 m5 m6 m7 m8 m9 m10 m16 m18 m19 m22 m23 m24 m25 m26 m27 m28 := by
  have hu := h.up
  obtain ⟨pn, n, sn, ln, tn, wc, tc, ⟨rfl, rfl, hpn⟩, hrest⟩ := hu
  by_cases ha : 1 ≤ a ∧ a ≤ 126
  · have h1 : ¬ a < 1 := Int32.not_lt.mpr ha.1
    have h12 : (nI pn < 12) ↔ pn < 12 := nI_ltI (a := pn) (b := 12) (by omega) (by omega)
    have e12 : (nI pn = 12) ↔ pn = 12 := nI_eq (a := pn) (b := 12) (by omega) (by omega)
    by_cases hf : pn < 12
    · have hj0 : ¬ nI pn < 0 := nI_pos (by omega)
      have cl : (nI pn).toNatClampNeg = pn := nI_clamp (by omega)
      refine ⟨nI (pn + 1), ((upd m0 pn a, nI (pn + 1)), lt, ls, td, im, rd, wr, en, dy, hr, ch, tk, wn), upd m0 pn a, nI (pn + 1), ?_, ?_, ⟨pn + 1, n, sn, ln, tn, wc, tc, ⟨rfl, rfl, by omega⟩, hrest⟩⟩
      · simp [f_X9_letter, h1, ha.2, h12.mpr hf, X_add5 m0 pn a hf]
      · simp [f_X10_letter, M_in126, ha, bI_0, mt e12.mp (by omega), hj0, cl, show ¬ 12 ≤ pn by omega, nI_1]
    · refine ⟨-104, ((m0, nI pn), lt, ls, td, im, rd, wr, en, dy, hr, ch, tk, wn), m0, nI pn, ?_, ?_, ⟨pn, n, sn, ln, tn, wc, tc, ⟨rfl, rfl, hpn⟩, hrest⟩⟩
      · simp [f_X9_letter, h1, ha.2, mt h12.mp hf]
      · simp [f_X10_letter, M_in126, ha, bI_0, e12.mpr (by omega)]
  · refine ⟨-102, ((m0, nI pn), lt, ls, td, im, rd, wr, en, dy, hr, ch, tk, wn), m0, nI pn, ?_, ?_, ⟨pn, n, sn, ln, tn, wc, tc, ⟨rfl, rfl, hpn⟩, hrest⟩⟩
    · by_cases h1 : a < 1
      · simp [f_X9_letter, h1]
      · have h2 : ¬ a ≤ 126 := fun h => ha ⟨Int32.not_lt.mp h1, h⟩
        simp [f_X9_letter, h1, h2]
    · simp [f_X10_letter, M_in126, ha, bI_0]
theorem op_blank (h : Rel i p lt ls td im ch tk wn m0 m1 m4 m5 m6 m7 m8 m9 m10 m16 m18 m19 m22 m23 m24 m25 m26 m27 m28) : ∃ r x' m1', f_X9_blank (p, lt, ls, td, im, rd, wr, en, dy, hr, ch, tk, wn) = some (r, x') ∧ f_X10_blank m1 = some (r, m1') ∧ RelX (i + 1) x' m0 m1' m4 m5 m6 m7 m8 m9 m10 m16 m18 m19 m22 m23 m24 m25 m26 m27 m28 := by
  have hu := h.up
  obtain ⟨pn, n, sn, ln, tn, wc, tc, ⟨rfl, rfl, hpn⟩, hrest⟩ := hu
  exact ⟨nI pn, ((m0, 0), lt, ls, td, im, rd, wr, en, dy, hr, ch, tk, wn), 0, rfl, rfl, ⟨0, n, sn, ln, tn, wc, tc, ⟨rfl, rfl, by omega⟩, hrest⟩⟩
theorem op_fault (h : Rel i p lt ls td im ch tk wn m0 m1 m4 m5 m6 m7 m8 m9 m10 m16 m18 m19 m22 m23 m24 m25 m26 m27 m28) : ∃ r o1 o2, f_X9_fault (p, lt, ls, td, im, rd, wr, en, dy, hr, ch, tk, wn) = some r ∧ f_X10_fault m0 m1 = some (r, o1, o2) := by
  obtain ⟨pn, n, sn, ln, tn, wc, tc, ⟨rfl, rfl, hpn⟩, hrest⟩ := h
  obtain ⟨r, mk, st, rm, hr', e1, e2, hP⟩ := B_faultOf m0 pn hpn
  exact ⟨nI r, st, rm, by simp [f_X9_fault, e1], by simp [f_X10_fault, e2]⟩
theorem op_take (h : Rel i p lt ls td im ch tk wn m0 m1 m4 m5 m6 m7 m8 m9 m10 m16 m18 m19 m22 m23 m24 m25 m26 m27 m28) (hi : i < 1000) : ∃ r x' n1 n2 n3 n4 n5 n6 n7 n8 n9 n18, f_X9_take (p, lt, ls, td, im, rd, wr, en, dy, hr, ch, tk, wn) = some (r, x') ∧ f_X10_take m0 m1 m4 m5 m6 m7 m8 m9 m18 = some (r, n1, n2, n3, n4, n5, n6, n7, n8, n9, n18) ∧ RelX (i + 1) x' m0 n1 n4 n5 n6 n7 n8 n9 m10 m16 n18 m19 m22 m23 m24 m25 m26 m27 m28 := by
  obtain ⟨pn, n, sn, ln, tn, wc, tc, ⟨rfl, rfl, hpn⟩, hrest⟩ := h
  obtain ⟨r, mk, st, rm, hr', e1, e2, hP⟩ := B_faultOf m0 pn hpn
  have bad : f_X5_isLetter (m0, nI pn) = some false → f_X10_take m0 (nI pn) m4 m5 m6 m7 m8 m9 m18 = some (-103, nI pn, st, rm, m4, m5, m6, m7, m8, m9, m18) → ∃ r x' n1 n2 n3 n4 n5 n6 n7 n8 n9 n18, f_X9_take ((m0, nI pn), lt, ls, td, im, rd, wr, en, dy, hr, ch, tk, wn) = some (r, x') ∧ f_X10_take m0 (nI pn) m4 m5 m6 m7 m8 m9 m18 = some (r, n1, n2, n3, n4, n5, n6, n7, n8, n9, n18) ∧ RelX (i + 1) x' m0 n1 n4 n5 n6 n7 n8 n9 m10 m16 n18 m19 m22 m23 m24 m25 m26 m27 m28 := by
    intro f1 f2
    exact ⟨-103, ((m0, nI pn), lt, ls, td, im, rd, wr, en, dy, hr, ch, tk, wn), nI pn, st, rm, m4, m5, m6, m7, m8, m9, m18, by simp [f_X9_take, f1, bI_0], f2, Rel.up ⟨pn, n, sn, ln, tn, wc, tc, ⟨rfl, rfl, hpn⟩, hrest⟩⟩
  have h2 : (nI pn ≤ 2) ↔ pn ≤ 2 := nI_leI (a := pn) (b := 2) (by omega) (by omega)
  have es : ¬ pn ≤ 2 → nI pn - 2 = nI (pn - 2) := fun h => by rw [show (2 : Int32) = nI 2 from rfl, pk_sub (by omega)]
  by_cases hrp : r = pn
  · subst hrp
    have hnl : ¬ nI r < nI r := by rw [nI_ltI (by omega) (by omega)]; omega
    rcases hP rfl with ⟨-, rfl, -, h9, hw⟩ | ⟨k, hk, hk0, hk9, -, rfl, rfl, h59, hw⟩ | ⟨k, rfl, hk0, hk9, -, rfl, rfl, h59, hd, hw⟩
    · refine bad ?_ ?_
      · unfold f_X5_isLetter
        by_cases hp2 : r ≤ 2
        · rw [if_pos (h2.mpr hp2)]
        · rw [if_neg (mt h2.mp hp2)]
          dsimp only
          rw [es hp2, X_sign m0 r (r - 2) hpn (by omega)]
          simp only [Option.bind_some]
          rw [if_neg (fun h => hw (r - 2) (by omega) (by rw [h]; exact wv_59))]
      · simp (decide := true) [f_X10_take, e2, hnl]
    · refine bad ?_ ?_
      · unfold f_X5_isLetter
        by_cases hp2 : r ≤ 2
        · rw [if_pos (h2.mpr hp2)]
        · rw [if_neg (mt h2.mp hp2)]
          dsimp only
          rw [es hp2, X_sign m0 r (r - 2) hpn (by omega)]
          simp only [Option.bind_some]
          rw [if_neg (fun h => hw (r - 2) (by omega) (by rw [h]; exact wv_59))]
      · simp (decide := true) [f_X10_take, e2, hnl]
    · obtain ⟨hHL, hHK, hHT, ⟨hch, htk, htc, hti⟩, hwc, hk1, hk2⟩ := hrest
      subst htc
      obtain ⟨f, ef, hfj⟩ := X_copyTo m0 k hk9 lt
      obtain ⟨f', ef', hfj'⟩ := M_take1 m0 k hk9 (fun _ s => if (nI (k + 2) - 1) < 0 ∨ 12 ≤ Int32.toNatClampNeg (nI (k + 2) - 1) then none else (some (((m0 (Int32.toNatClampNeg (nI (k + 2) - 1))) - 48) : Int32)).bind fun z11 => (some ((nI tc + 1) : Int32)).bind fun z12 => some (nI k, 0, 2, nI k, nI k, z11, 0, z12, s, 0, 0)) FU 0 m8 (by omega) (FU_lt (by omega)) (fun j hj => by omega)
      obtain ⟨sg, hsg, esg⟩ : ∃ sg, sg ≤ 9 ∧ m0 (k + 1) - 48 = nI sg := by
        obtain ⟨j, hj, ej⟩ := nI_of2 (x := m0 (k + 1)) (n := 57) (by decide) (fun h => absurd hd.1 (Int32.not_le.mpr (Int32.lt_of_lt_of_le h (by decide)))) hd.2
        have h49 : 49 ≤ j := by
          have := hd.1
          rw [ej] at this
          exact (nI_leI (a := 49) (b := j) (by omega) (by omega)).mp this
        refine ⟨j - 48, by omega, ?_⟩
        rw [ej, show (48 : Int32) = nI 48 from rfl, pk_sub (by omega)]
      have e3 : f_X5_isLetter (m0, nI (k + 2)) = some true := by
        unfold f_X5_isLetter
        rw [if_neg (mt h2.mp (by omega))]
        dsimp only
        rw [es (by omega), X_sign m0 (k + 2) (k + 2 - 2) hpn (by omega), show k + 2 - 2 = k by omega]
        simp only [Option.bind_some]
        rw [if_pos h59, e1]
        simp
      refine ⟨nI k, ((m0, 0), (f, nI k, nI sg), (ls.1, 0), (td.1, 0), (im.1, im.2.1, im.2.2.1, im.2.2.2.1, false), rd, wr, en, dy, hr, 0, tk + 1, wn), 0, 2, nI k, nI k, nI sg, 0, nI tc + 1, f', 0, 0, ?_, ?_, ?_⟩
      · simp [f_X9_take, e3, bI_0, ef, f_X5_clear, f_X7_clear, esg]
      · rw [f_X10_take, e2, Option.bind_some]
        dsimp only
        rw [if_neg hnl, if_pos rfl]
        rw [nI_0] at ef'
        refine ef'.trans ?_
        rw [nI_sub1 (by omega), show k + 2 - 1 = k + 1 by omega, if_neg (gok (by omega) (by omega)), nI_clamp (by omega), esg]
        rfl
      · refine ⟨0, k, sg, 0, 0, wc, tc + 1, ⟨rfl, rfl, by omega⟩, ⟨rfl, rfl, rfl, rfl, hk9, hsg, fun j hj => ⟨?_, ?_⟩⟩, ⟨?_, rfl, by omega, fun j hj => by omega⟩, ⟨rfl, rfl, by omega, fun j hj => by omega⟩, ⟨rfl, ?_, nI_1 tc, by omega⟩, hwc, fun h => absurd (show false = true from h) (by decide), fun _ => ?_⟩
        · exact (hfj j hj).trans (hfj' j hj).symm
        · rw [hfj' j hj]; exact wv_isw (hw j hj)
        · rw [hHK.1]; rfl
        · exact congrArg (· + 1) htk
        · cases hb : im.2.2.2.2 with
          | true => exact Or.inr ⟨tc, by omega, (hk1 hb).1⟩
          | false =>
            rcases hk2 hb with h | ⟨t', ht', h⟩
            · exact Or.inl h
            · exact Or.inr ⟨t', by omega, h⟩
  · have hlt : nI r < nI pn := (nI_ltI (by omega) (by omega)).mpr (by omega)
    refine bad ?_ ?_
    · unfold f_X5_isLetter
      by_cases hp2 : pn ≤ 2
      · rw [if_pos (h2.mpr hp2)]
      · rw [if_neg (mt h2.mp hp2)]
        dsimp only
        rw [es hp2, X_sign m0 pn (pn - 2) hpn (by omega)]
        simp only [Option.bind_some]
        have hne : ¬ nI r = nI pn := by rw [nI_eq (by omega) (by omega)]; exact hrp
        by_cases h59 : m0 (pn - 2) = 59
        · rw [if_pos h59, e1]
          simp [hne]
        · rw [if_neg h59]
    · simp [f_X10_take, e2, hlt]
end RelOps
