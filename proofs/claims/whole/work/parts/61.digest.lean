section Digest
variable {p : zPG} {lt : zLT} {ls : zLS} {td : zTD} {im : zIM} {wr : zWR} {dy : zDY} {ch tk wn : Int32} {m1 m4 m5 m6 m7 m9 m16 m18 : Int32} {m0 m8 m10 m19 : Nat → Int32} {n sn ln tn : Nat}
theorem M_say (h x : Int64) : f_X10_say h x = some (31 * h + x) := rfl
theorem D_word (hL : HL lt m4 m5 m8 n sn) (j : Nat) (hj : j < n) (en : zEN) (hr : Nat → Int32) (K : Int64 → Int32 → zPG → zLT → zLS → zTD → zIM → zRD → zWR → zEN → zDY → (Nat → Int32) → Int32 → Int32 → Int32 → Option (Int64 × zXS)) (K' : Int32 → Int32 → Bool → Int32 → Int32 → Bool → Int64 → Option (Int64 × Int32 × Bool × Int32 × Int32 × Bool × (Nat → Int32) × (Nat → Int32) × Int64)) : ∀ (fu b : Nat) (h : Int64) (rd : zRD) (o1 : Int32) (o2 : Bool) (o3 o4 : Int32) (o5 : Bool), b ≤ 3 → 3 - b < fu → ∃ h' rd' u1 u2 u3 u4 u5, lp_X9_digest_20 (nI j) K fu h (nI b) p lt ls td im rd wr en dy hr ch tk wn = K h' (nI 3) p lt ls td im rd' wr en dy hr ch tk wn ∧ lp_X10_digest_19 (nI j) m4 m8 K' fu (nI b) o1 o2 o3 o4 o5 h = K' (nI 3) u1 u2 u3 u4 u5 h' := by
  intro fu
  induction fu with
  | zero => intro b h rd o1 o2 o3 o4 o5 _ hh; omega
  | succ fu ih =>
    intro b h rd o1 o2 o3 o4 o5 hb hf
    rw [lp_X9_digest_20, lp_X10_digest_19]
    have c1 : ((2 : Int32) < nI b) ↔ 2 < b := nI_ltI (a := 2) (b := b) (by omega) (by omega)
    have c2 : ((3 : Int32) ≤ nI b) ↔ 3 ≤ b := nI_leI (a := 3) (b := b) (by omega) (by omega)
    by_cases hc : 3 ≤ b
    · have e : b = 3 := by omega
      subst e
      rw [if_pos (c1.mpr (by omega)), if_pos (c2.mpr hc)]
      exact ⟨h, rd, o1, o2, o3, o4, o5, rfl, rfl⟩
    · rw [if_neg (mt c1.mp (by omega)), if_neg (mt c2.mp hc)]
      obtain ⟨r, rd', o, e1, e2⟩ := B_tell (p := p) (lt := lt) (ls := ls) (td := td) (im := im) (rd := rd) (wr := wr) (en := en) (dy := dy) (hr := hr) (ch := ch) (tk := tk) (wn := wn) (m11 := o1) (m12 := o2) (m13 := o3) (m14 := o4) (m15 := o5) hL j hj (nI b)
      rw [e1, e2, Option.bind_some, Option.bind_some, M_say, Option.bind_some, nI_1 b]
      exact ih (b + 1) (31 * h + Int32.toInt64 r) rd' o.1 o.2.1 o.2.2.1 o.2.2.2.1 o.2.2.2.2 (by omega) (by omega)
theorem D_lis (hL : HL lt m4 m5 m8 n sn) (hK : HK ls m9 m10 ln) (j : Nat) (hj : j < ln) (en : zEN) (hr : Nat → Int32) (K : Int64 → Int32 → zPG → zLT → zLS → zTD → zIM → zRD → zWR → zEN → zDY → (Nat → Int32) → Int32 → Int32 → Int32 → Option (Int64 × zXS)) (K' : Int32 → Int32 → Bool → Int32 → Int32 → Bool → Int64 → Option (Int64 × Int32 × Bool × Int32 × Int32 × Bool × (Nat → Int32) × (Nat → Int32) × Int64)) : ∀ (fu b : Nat) (h : Int64) (rd : zRD) (o1 : Int32) (o2 : Bool) (o3 o4 : Int32) (o5 : Bool), b ≤ 7 → 7 - b < fu → ∃ h' rd' u1 u2 u3 u4 u5, lp_X9_digest_69 (nI j) K fu h (nI b) p lt ls td im rd wr en dy hr ch tk wn = K h' (nI 7) p lt ls td im rd' wr en dy hr ch tk wn ∧ lp_X10_digest_59 (nI j) m4 m5 m8 m10 K' fu (nI b) o1 o2 o3 o4 o5 h = K' (nI 7) u1 u2 u3 u4 u5 h' := by
  intro fu
  induction fu with
  | zero => intro b h rd o1 o2 o3 o4 o5 _ hh; omega
  | succ fu ih =>
    intro b h rd o1 o2 o3 o4 o5 hb hf
    rw [lp_X9_digest_69, lp_X10_digest_59]
    have c1 : ((6 : Int32) < nI b) ↔ 6 < b := nI_ltI (a := 6) (b := b) (by omega) (by omega)
    have c2 : ((7 : Int32) ≤ nI b) ↔ 7 ≤ b := nI_leI (a := 7) (b := b) (by omega) (by omega)
    by_cases hc : 7 ≤ b
    · have e : b = 7 := by omega
      subst e
      rw [if_pos (c1.mpr (by omega)), if_pos (c2.mpr hc)]
      exact ⟨h, rd, o1, o2, o3, o4, o5, rfl, rfl⟩
    · rw [if_neg (mt c1.mp (by omega)), if_neg (mt c2.mp hc)]
      obtain ⟨r, rd', o, e1, e2⟩ := B_lof (p := p) (lt := lt) (ls := ls) (td := td) (im := im) (rd := rd) (wr := wr) (en := en) (dy := dy) (hr := hr) (ch := ch) (tk := tk) (wn := wn) (m11 := o1) (m12 := o2) (m13 := o3) (m14 := o4) (m15 := o5) hL hK j hj (nI b)
      rw [e1, e2, Option.bind_some, Option.bind_some, M_say, Option.bind_some, nI_1 b]
      exact ih (b + 1) (31 * h + Int32.toInt64 r) rd' o.1 o.2.1 o.2.2.1 o.2.2.2.1 o.2.2.2.2 (by omega) (by omega)
theorem D_cnt (hL : HL lt m4 m5 m8 n sn) (hK : HK ls m9 m10 ln) (e1 : p.2 = m1) (e5 : td.2 = m18) (e6 : ch = m6) (e7 : tk = m7) (e16 : wn = m16) (en : zEN) (hr : Nat → Int32) (K : Int64 → Int32 → zPG → zLT → zLS → zTD → zIM → zRD → zWR → zEN → zDY → (Nat → Int32) → Int32 → Int32 → Int32 → Option (Int64 × zXS)) (K' : Int32 → Int32 → Bool → Int32 → Int32 → Bool → Int64 → Option (Int64 × Int32 × Bool × Int32 × Int32 × Bool × (Nat → Int32) × (Nat → Int32) × Int64)) : ∀ (fu b : Nat) (h : Int64) (rd : zRD) (o1 : Int32) (o2 : Bool) (o3 o4 : Int32) (o5 : Bool), b ≤ 9 → 9 - b < fu → ∃ h' rd' u1 u2 u3 u4 u5, lp_X9_digest_186 K fu h (nI b) p lt ls td im rd wr en dy hr ch tk wn = K h' (nI 9) p lt ls td im rd' wr en dy hr ch tk wn ∧ lp_X10_digest_154 m1 m4 m5 m6 m7 m8 m9 m10 m16 m18 K' fu (nI b) o1 o2 o3 o4 o5 h = K' (nI 9) u1 u2 u3 u4 u5 h' := by
  intro fu
  induction fu with
  | zero => intro b h rd o1 o2 o3 o4 o5 _ hh; omega
  | succ fu ih =>
    intro b h rd o1 o2 o3 o4 o5 hb hf
    rw [lp_X9_digest_186, lp_X10_digest_154]
    have c1 : ((8 : Int32) < nI b) ↔ 8 < b := nI_ltI (a := 8) (b := b) (by omega) (by omega)
    have c2 : ((9 : Int32) ≤ nI b) ↔ 9 ≤ b := nI_leI (a := 9) (b := b) (by omega) (by omega)
    by_cases hc : 9 ≤ b
    · have e : b = 9 := by omega
      subst e
      rw [if_pos (c1.mpr (by omega)), if_pos (c2.mpr hc)]
      exact ⟨h, rd, o1, o2, o3, o4, o5, rfl, rfl⟩
    · rw [if_neg (mt c1.mp (by omega)), if_neg (mt c2.mp hc)]
      obtain ⟨r, rd', o, e1, e2⟩ := B_count (p := p) (lt := lt) (ls := ls) (td := td) (im := im) (rd := rd) (wr := wr) (en := en) (dy := dy) (hr := hr) (ch := ch) (tk := tk) (wn := wn) (m11 := o1) (m12 := o2) (m13 := o3) (m14 := o4) (m15 := o5) hL hK e1 e5 e6 e7 e16 (nI b)
      rw [e1, e2, Option.bind_some, Option.bind_some, M_say, Option.bind_some, nI_1 b]
      exact ih (b + 1) (31 * h + Int32.toInt64 r) rd' o.1 o.2.1 o.2.2.1 o.2.2.2.1 o.2.2.2.2 (by omega) (by omega)
theorem D_words (hL : HL lt m4 m5 m8 n sn) (en : zEN) (hr : Nat → Int32) (K : Int64 → Int32 → zPG → zLT → zLS → zTD → zIM → zRD → zWR → zEN → zDY → (Nat → Int32) → Int32 → Int32 → Int32 → Option (Int64 × zXS)) (K' : Int32 → Int32 → Bool → Int32 → Int32 → Bool → Int64 → Option (Int64 × Int32 × Bool × Int32 × Int32 × Bool × (Nat → Int32) × (Nat → Int32) × Int64)) : ∀ (fu j : Nat) (h : Int64) (rd : zRD) (o1 : Int32) (o2 : Bool) (o3 o4 : Int32) (o5 : Bool), j ≤ n → n - j < fu → ∃ h' rd' u1 u2 u3 u4 u5, lp_X9_digest_6 K fu h (nI j) p lt ls td im rd wr en dy hr ch tk wn = K h' (nI n) p lt ls td im rd' wr en dy hr ch tk wn ∧ lp_X10_digest_9 m4 m8 K' fu (nI j) o1 o2 o3 o4 o5 h = K' (nI n) u1 u2 u3 u4 u5 h' := by
  intro fu
  have hN : n ≤ 9 := hL.2.2.2.2.1
  have ex : lt.2.1 = nI n := hL.1
  have em : m4 = nI n := hL.2.2.1
  induction fu with
  | zero => intro j h rd o1 o2 o3 o4 o5 _ hh; omega
  | succ fu ih =>
    intro j h rd o1 o2 o3 o4 o5 hj hf
    rw [lp_X9_digest_6, lp_X10_digest_9]
    by_cases hc : n ≤ j
    · have e : j = n := by omega
      subst e
      rw [if_pos (by rw [ex]; exact (nI_leI (by omega) (by omega)).mpr (Nat.le_refl _)), if_pos (by rw [em]; exact (nI_leI (by omega) (by omega)).mpr (Nat.le_refl _))]
      exact ⟨h, rd, o1, o2, o3, o4, o5, rfl, rfl⟩
    · rw [if_neg (by rw [ex, nI_leI (by omega) (by omega)]; exact hc), if_neg (by rw [em, nI_leI (by omega) (by omega)]; exact hc), nI_1 j]
      obtain ⟨h1, rd1, u1, u2, u3, u4, u5, q1, q2⟩ := D_word hL j (by omega) en hr (fun a _ s0 s1 s2 s3 s4 s5 s6 s7 s8 s9 s10 s11 s12 => lp_X9_digest_6 K fu a (nI (j + 1)) s0 s1 s2 s3 s4 s5 s6 s7 s8 s9 s10 s11 s12) (fun _ a1 a2 a3 a4 a5 a6 => lp_X10_digest_9 m4 m8 K' fu (nI (j + 1)) a1 a2 a3 a4 a5 a6) FU 0 h rd o1 o2 o3 o4 o5 (by omega) (FU_lt (by omega))
      rw [nI_0] at q1 q2
      obtain ⟨h2, rd2, v1, v2, v3, v4, v5, r1, r2⟩ := ih (j + 1) h1 rd1 u1 u2 u3 u4 u5 (by omega) (by omega)
      refine ⟨h2, rd2, v1, v2, v3, v4, v5, ?_, ?_⟩
      · refine Eq.trans ?_ r1
        rw [show lp_X9_digest_20 (nI j) _ FU h 0 p lt ls td im rd wr en dy hr ch tk wn = _ from q1]
      · refine Eq.trans ?_ r2
        rw [show lp_X10_digest_19 (nI j) m4 m8 _ FU 0 o1 o2 o3 o4 o5 h = _ from q2]
theorem D_liss (hL : HL lt m4 m5 m8 n sn) (hK : HK ls m9 m10 ln) (en : zEN) (hr : Nat → Int32) (K : Int64 → Int32 → zPG → zLT → zLS → zTD → zIM → zRD → zWR → zEN → zDY → (Nat → Int32) → Int32 → Int32 → Int32 → Option (Int64 × zXS)) (K' : Int32 → Int32 → Bool → Int32 → Int32 → Bool → Int64 → Option (Int64 × Int32 × Bool × Int32 × Int32 × Bool × (Nat → Int32) × (Nat → Int32) × Int64)) : ∀ (fu j : Nat) (h : Int64) (rd : zRD) (o1 : Int32) (o2 : Bool) (o3 o4 : Int32) (o5 : Bool), j ≤ ln → ln - j < fu → ∃ h' rd' u1 u2 u3 u4 u5, lp_X9_digest_55 K fu h (nI j) p lt ls td im rd wr en dy hr ch tk wn = K h' (nI ln) p lt ls td im rd' wr en dy hr ch tk wn ∧ lp_X10_digest_49 m4 m5 m8 m9 m10 K' fu (nI j) o1 o2 o3 o4 o5 h = K' (nI ln) u1 u2 u3 u4 u5 h' := by
  intro fu
  have hN : ln ≤ 9 := by have := hK.2.2.1; omega
  have ex : ls.2 = nI ln := by rw [hK.1]
  have em : m9 = nI ln := hK.2.1
  induction fu with
  | zero => intro j h rd o1 o2 o3 o4 o5 _ hh; omega
  | succ fu ih =>
    intro j h rd o1 o2 o3 o4 o5 hj hf
    rw [lp_X9_digest_55, lp_X10_digest_49]
    by_cases hc : ln ≤ j
    · have e : j = ln := by omega
      subst e
      rw [if_pos (by rw [ex]; exact (nI_leI (by omega) (by omega)).mpr (Nat.le_refl _)), if_pos (by rw [em]; exact (nI_leI (by omega) (by omega)).mpr (Nat.le_refl _))]
      exact ⟨h, rd, o1, o2, o3, o4, o5, rfl, rfl⟩
    · rw [if_neg (by rw [ex, nI_leI (by omega) (by omega)]; exact hc), if_neg (by rw [em, nI_leI (by omega) (by omega)]; exact hc), nI_1 j]
      obtain ⟨h1, rd1, u1, u2, u3, u4, u5, q1, q2⟩ := D_lis hL hK j (by omega) en hr (fun a _ s0 s1 s2 s3 s4 s5 s6 s7 s8 s9 s10 s11 s12 => lp_X9_digest_55 K fu a (nI (j + 1)) s0 s1 s2 s3 s4 s5 s6 s7 s8 s9 s10 s11 s12) (fun _ a1 a2 a3 a4 a5 a6 => lp_X10_digest_49 m4 m5 m8 m9 m10 K' fu (nI (j + 1)) a1 a2 a3 a4 a5 a6) FU 0 h rd o1 o2 o3 o4 o5 (by omega) (FU_lt (by omega))
      rw [nI_0] at q1 q2
      obtain ⟨h2, rd2, v1, v2, v3, v4, v5, r1, r2⟩ := ih (j + 1) h1 rd1 u1 u2 u3 u4 u5 (by omega) (by omega)
      refine ⟨h2, rd2, v1, v2, v3, v4, v5, ?_, ?_⟩
      · refine Eq.trans ?_ r1
        rw [show lp_X9_digest_69 (nI j) _ FU h 0 p lt ls td im rd wr en dy hr ch tk wn = _ from q1]
      · refine Eq.trans ?_ r2
        rw [show lp_X10_digest_59 (nI j) m4 m5 m8 m10 _ FU 0 o1 o2 o3 o4 o5 h = _ from q2]
theorem D_page (g : Nat → Int32) (pn : Nat) (hp : pn ≤ 12) (K : Int64 → Int32 → Option (Int64 × zXS)) (K' : Int32 → Int64 → Option (Int64 × Int32 × Bool × Int32 × Int32 × Bool × (Nat → Int32) × (Nat → Int32) × Int64)) : ∀ (fu j : Nat) (h : Int64), j ≤ pn → pn - j < fu → ∃ h', lp_X9_digest_151 (g, nI pn) K fu h (nI j) = K h' (nI pn) ∧ lp_X10_digest_127 g (nI pn) K' fu (nI j) h = K' (nI pn) h' := by
  intro fu
  induction fu with
  | zero => intro j h _ hh; omega
  | succ fu ih =>
    intro j h hj hf
    rw [lp_X9_digest_151, lp_X10_digest_127]
    dsimp only
    by_cases hc : pn ≤ j
    · have e : j = pn := by omega
      subst e
      rw [if_pos ((nI_leI (by omega) (by omega)).mpr hc), if_pos ((nI_leI (by omega) (by omega)).mpr hc)]
      exact ⟨h, rfl, rfl⟩
    · have hl : ¬ nI pn ≤ nI j := by rw [nI_leI (by omega) (by omega)]; exact hc
      rw [if_neg hl, if_neg hl, if_neg (gok (by omega) (by omega)), X_sign g pn j hp (by omega), nI_clamp (by omega), Option.bind_some, M_say, Option.bind_some, nI_1 j]
      exact ih (j + 1) _ (by omega) (by omega)
end Digest
