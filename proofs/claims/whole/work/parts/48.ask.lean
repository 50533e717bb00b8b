def bt (x : Int32) (i : Nat) : Bool := x.toBitVec.getLsbD i
theorem b_ext {x y : Int32} (h : ∀ i, i < 32 → bt x i = bt y i) : x = y := Int32.toBitVec_inj.mp (BitVec.eq_of_getLsbD_eq (fun i hi => h i hi))
theorem b_and (x y : Int32) (i : Nat) : bt (x &&& y) i = (bt x i && bt y i) := by unfold bt; rw [Int32.toBitVec_and, BitVec.getLsbD_and]
theorem b_0 (i : Nat) : bt 0 i = false := BitVec.getLsbD_zero
theorem s_l : ∀ n, n < 32 → ((nI n &&& 31).toBitVec.smod 32).toNat = n := by decide +kernel
theorem b_shl (n : Nat) (hn : n < 32) (x : Int32) {i : Nat} (hi : i < 32) : bt (x <<< (nI n &&& 31)) i = (decide (n ≤ i) && bt x (i - n)) := by
  unfold bt
  rw [Int32.toBitVec_shiftLeft]
  show (x.toBitVec <<< ((nI n &&& 31).toBitVec.smod 32).toNat).getLsbD i = _
  rw [s_l n hn, BitVec.getLsbD_shiftLeft]
  rcases Nat.lt_or_ge i n with h | h
  · simp [h, Nat.not_le.mpr h]
  · simp [hi, h, Nat.not_lt.mpr h]
theorem b_sshr (n : Nat) (hn : n < 32) (x : Int32) {i : Nat} (hi : i < 32) : bt (x >>> (nI n &&& 31)) i = if n + i < 32 then bt x (n + i) else bt x 31 := by
  unfold bt
  rw [Int32.toBitVec_shiftRight]
  show (x.toBitVec.sshiftRight ((nI n &&& 31).toBitVec.smod 32).toNat).getLsbD i = _
  rw [s_l n hn, BitVec.getLsbD_sshiftRight, BitVec.msb_eq_getLsbD_last]
  simp [hi]
theorem b_one : ∀ i, i < 32 → bt 1 i = decide (i = 0) := by decide +kernel
theorem bit_and (v : Int32) (n : Nat) (hn : n < 31) : ((v &&& (1 <<< (nI n &&& 31))) = 0) ↔ bt v n = false := by
  constructor
  · intro h
    have h1 := congrArg (fun x => bt x n) h
    simpa [b_and, b_shl n (by omega) 1 (show n < 32 by omega), b_0, b_one 0 (by omega)] using h1
  · intro h
    refine b_ext (fun i hi => ?_)
    rw [b_and, b_shl n (by omega) 1 hi, b_0]
    by_cases hin : i = n
    · subst hin; simp [h]
    · by_cases hle : n ≤ i
      · rw [b_one (i - n) (by omega), decide_eq_false (by omega : ¬ i - n = 0)]; simp
      · simp [hle]
theorem bit_shr (v : Int32) (n : Nat) (hn : n < 31) : (((v >>> (nI n &&& 31)) &&& 1) = 1) ↔ bt v n = true := by
  constructor
  · intro h
    have h1 := congrArg (fun x => bt x 0) h
    simpa [b_and, b_sshr n (by omega) v (show 0 < 32 by omega), b_one 0 (by omega), show n < 32 by omega] using h1
  · intro h
    refine b_ext (fun i hi => ?_)
    rw [b_and, b_one i hi]
    by_cases hi0 : i = 0
    · subst hi0
      simp [b_sshr n (by omega) v (show 0 < 32 by omega), show n < 32 by omega, h]
    · simp [hi0]
theorem rdn_heard (k : Int32) (g : Nat → Int32) : ∀ (c i : Nat) (q : zQ) (a : Nat), q.2.2.2.1 = nI a → ∃ b, b ≤ a + c ∧ (rdn k g c i q).2.2.2.1 = nI b := by
  intro c
  induction c with
  | zero => intro i q a h; exact ⟨a, by omega, h⟩
  | succ c ih =>
    intro i q a h
    simp only [rdn]
    split
    · exact ⟨a, by omega, h⟩
    · obtain ⟨b, hb, e⟩ := ih (i + 1) (stp k (g i) q) (a + 1) (by simp only [stp]; rw [h, nI_1])
      exact ⟨b, by omega, e⟩
theorem rdL_heard (k : Int32) (f : Nat → Int32) (n sn : Nat) (ft : Bool) (hn : n ≤ 9) : ∃ b, b ≤ 9 ∧ (rdL k f n sn ft).2.2.2.1 = nI b := by
  unfold rdL
  obtain ⟨b, hb, e⟩ := rdn_heard k (gw f n (ft || decide (k = 2))) (if k = 2 then n else min n sn) 0 q0 0 rfl
  refine ⟨b, ?_, e⟩
  split at hb <;> omega
theorem X_fill1 (v : Int32) (N : Nat) (hN : N ≤ 30) : ∀ (fu i : Nat) (s : Nat → Int32), i ≤ N → N - i < fu → (∀ j, j < i → s j = v) → ∃ g, lp_J7_fill_53178_5 v (Int32.ofNat N) N (fun _ s => some s) fu (nI i) s = some g ∧ ∀ j, j < N → g j = v := by
  intro fu
  induction fu with
  | zero => intro i s _ hh; omega
  | succ fu ih =>
    intro i s hi hf hs
    rw [lp_J7_fill_53178_5]
    by_cases hc : N ≤ i
    · rw [if_pos ((le_lit (by omega) (by omega)).mpr hc)]
      exact ⟨s, rfl, fun j hj => hs j (by omega)⟩
    · rw [if_neg (by rw [le_lit (by omega) (by omega)]; exact hc), if_neg (gok (by omega) (by omega)), nI_clamp (by omega)]
      simp only [Option.bind_some]
      rw [nI_1]
      refine ih (i + 1) _ (by omega) (by omega) (fun j hj => ?_)
      rw [upd_at]
      by_cases hji : j = i
      · simp [hji]
      · simp only [hji, if_false]; exact hs j (by omega)
theorem X_fill (f : Nat → Int32) (v : Int32) (N : Nat) (hN : N ≤ 30) : ∃ g, f_J7_fill_53178 N f v = some g ∧ ∀ j, j < N → g j = v := X_fill1 v N hN FU 0 f (by omega) (FU_lt (by omega)) (fun j hj => by omega)
theorem M_zero1 (K : Int32 → (Nat → Int32) → Option (Int32 × Int32 × Bool × Int32 × Int32 × Bool × (Nat → Int32))) : ∀ (fu i : Nat) (s : Nat → Int32), i ≤ 10 → 10 - i < fu → (∀ j, j < i → s j = 0) → ∃ g, lp_X10_worstBy_2 K fu (nI i) s = K (nI 10) g ∧ ∀ j, j < 10 → g j = 0 := by
  intro fu
  induction fu with
  | zero => intro i s _ hh; omega
  | succ fu ih =>
    intro i s hi hf hs
    rw [lp_X10_worstBy_2]
    have h10 : ((10 : Int32) ≤ nI i) ↔ 10 ≤ i := nI_leI (a := 10) (b := i) (by omega) (by omega)
    by_cases hc : 10 ≤ i
    · rw [if_pos (h10.mpr hc)]
      have e : i = 10 := by omega
      subst e
      exact ⟨s, rfl, hs⟩
    · rw [if_neg (mt h10.mp hc), if_neg (gok (by omega) (by omega)), nI_clamp (by omega)]
      simp only [Option.bind_some]
      rw [nI_1]
      refine ih (i + 1) _ (by omega) (by omega) (fun j hj => ?_)
      rw [upd_at]
      by_cases hji : j = i
      · simp [hji]
      · simp only [hji, if_false]; exact hs j (by omega)
theorem B_most1 {lt : zLT} {m4 m5 : Int32} {m8 : Nat → Int32} {n sn : Nat} (hL : HL lt m4 m5 m8 n sn) (bits : Int32) (ft : Bool) (K : Int32 → Int32 → zRD → (Nat → Int32) → Option (Int32 × zXS)) (K' : Int32 → Int32 → Int32 → Bool → Int32 → Int32 → Bool → (Nat → Int32) → Option (Int32 × Int32 × Bool × Int32 × Int32 × Bool × (Nat → Int32))) : ∀ (fu i : Nat) (w : Int32) (rd : zRD) (hx : Nat → Int32) (o1 : Int32) (o2 : Bool) (o3 o4 : Int32) (o5 : Bool) (hm : Nat → Int32), i ≤ 5 → 5 - i < fu → (∀ j, j < 10 → hx j = hm j) →
    ∃ w' rd' hx' u1 u2 u3 u4 u5 hm', lp_X9_mostAlike_13 bits ft lt K fu w (nI i) rd hx = K w' (nI 5) rd' hx' ∧ lp_X10_worstBy_26 bits ft m4 m5 m8 K' fu w (nI i) o1 o2 o3 o4 o5 hm = K' w' (nI 5) u1 u2 u3 u4 u5 hm' := by
  intro fu
  induction fu with
  | zero => intro i w rd hx o1 o2 o3 o4 o5 hm _ hh; omega
  | succ fu ih =>
    intro i w rd hx o1 o2 o3 o4 o5 hm hi hf he
    rw [lp_X9_mostAlike_13, lp_X10_worstBy_26]
    have h5 : ((5 : Int32) ≤ nI i) ↔ 5 ≤ i := nI_leI (a := 5) (b := i) (by omega) (by omega)
    by_cases hc : 5 ≤ i
    · rw [if_pos (h5.mpr hc), if_pos (h5.mpr hc)]
      have e : i = 5 := by omega
      subst e
      exact ⟨w, rd, hx, o1, o2, o3, o4, o5, hm, rfl, rfl⟩
    · rw [if_neg (mt h5.mp hc), if_neg (mt h5.mp hc), nI_1]
      cases hb : bt bits i with
      | false =>
        rw [if_pos ((bit_and bits i (by omega)).mpr hb), if_neg (by rw [bit_shr bits i (by omega), hb]; decide)]
        exact ih (i + 1) _ _ _ _ _ _ _ _ _ (by omega) (by omega) he
      | true =>
        rw [if_neg (by rw [bit_and bits i (by omega), hb]; decide), if_pos ((bit_shr bits i (by omega)).mpr hb), HL_read hL (nI i) ft, HL_mread hL (nI i) (isk_nI (by omega)) ft]
        simp only [Option.bind_some]
        obtain ⟨b, hb9, eb⟩ := rdL_heard (nI i) m8 n sn ft hL.2.2.2.2.1
        rw [eb]
        have g1 : ¬ (nI b < 0 ∨ 10 ≤ Int32.toNatClampNeg (nI b)) := gok (by omega) (by omega)
        rw [if_neg (nI_pos (by omega)), if_pos ((lt_lit (by omega) (by omega)).mpr (by omega)), if_neg g1, if_neg g1, if_neg g1, if_neg g1, if_neg g1, if_neg g1, nI_clamp (by omega)]
        rw [he b (by omega)]
        have he' : ∀ j, j < 10 → upd hx b (hm b + 1) j = upd hm b (hm b + 1) j := fun j hj => by
          rw [upd_at, upd_at, he j hj]
        rw [he' b (by omega)]
        by_cases hlt : w < upd hm b (hm b + 1) b
        · rw [if_pos hlt, if_neg (Int32.not_le.mpr hlt), if_neg (by rintro (h | h); exact nI_pos (by omega) h; omega)]
          exact ih (i + 1) _ _ _ _ _ _ _ _ _ (by omega) (by omega) he'
        · rw [if_neg hlt, if_pos (Int32.not_lt.mp hlt)]
          exact ih (i + 1) _ _ _ _ _ _ _ _ _ (by omega) (by omega) he'
section Ask
variable {p : zPG} {lt : zLT} {ls : zLS} {td : zTD} {im : zIM} {rd : zRD} {wr : zWR} {en : zEN} {dy : zDY} {hr : Nat → Int32} {ch tk wn : Int32} {m4 m5 m18 m11 m13 m14 : Int32} {m12 m15 : Bool} {m8 m19 m20 : Nat → Int32} {n sn tn : Nat}
theorem B_most (hL : HL lt m4 m5 m8 n sn) (bits : Int32) (ft : Bool) : ∃ w rd' hr' o, f_X9_mostAlike (p, lt, ls, td, im, rd, wr, en, dy, hr, ch, tk, wn) bits ft = some (w, (p, lt, ls, td, im, rd', wr, en, dy, hr', ch, tk, wn)) ∧ f_X10_worstBy m4 m5 m8 m11 m12 m13 m14 m15 m20 bits ft = some (w, o) := by
  obtain ⟨g, eg, hg⟩ := X_fill hr 0 10 (by omega)
  obtain ⟨g', eg', hg'⟩ := M_zero1 (fun _ s => lp_X10_worstBy_26 bits ft m4 m5 m8 (fun v3 _ o1 o2 o3 o4 o5 hm => some (v3, o1, o2, o3, o4, o5, hm)) FU 0 0 m11 m12 m13 m14 m15 s) FU 0 m20 (by omega) (FU_lt (by omega)) (fun j hj => by omega)
  obtain ⟨w', rd', hx', u1, u2, u3, u4, u5, hm', e1, e2⟩ := B_most1 hL bits ft (fun v3 _ s5 s9 => some (v3, (p, lt, ls, td, im, s5, wr, en, dy, s9, ch, tk, wn))) (fun v3 _ o1 o2 o3 o4 o5 hm => some (v3, o1, o2, o3, o4, o5, hm)) FU 0 0 rd g m11 m12 m13 m14 m15 g' (by omega) (FU_lt (by omega)) (fun j hj => by rw [hg j hj, hg' j hj])
  rw [nI_0] at e1 e2 eg'
  refine ⟨w', rd', hx', (u1, u2, u3, u4, u5, hm'), ?_, ?_⟩
  · rw [f_X9_mostAlike]
    dsimp only
    rw [eg, Option.bind_some]
    exact e1
  · rw [f_X10_worstBy]
    exact eg'.trans e2
theorem B_askOf (hL : HL lt m4 m5 m8 n sn) (hT : HT td m18 m19 tn) (hz : ¬ n = 0) : ∃ r rd' hr' o, f_X9_ask (p, lt, ls, td, im, rd, wr, en, dy, hr, ch, tk, wn) = some (r, (p, lt, ls, td, im, rd', wr, en, dy, hr', ch, tk, wn)) ∧ f_X10_askOf m4 m5 m8 m11 m12 m13 m14 m15 m18 m19 m20 = some (r, o) := by
  have hn := hL.2.2.2.2.1
  have e0 : (lt.2.1 = 0) ↔ n = 0 := by rw [hL.1]; exact nI_z (by omega)
  obtain ⟨b, e1, e2⟩ := B_which hT
  by_cases hb : b = 0
  · refine ⟨-1, rd, hr, (m11, m12, m13, m14, m15, m20), ?_, ?_⟩
    · simp [f_X9_ask, f_X9_noLetter, mt e0.mp hz, bI_0, e1, hb]
    · simp [f_X10_askOf, e2, hb]
  · obtain ⟨w1, rd1, hr1, ⟨o1, o2, o3, o4, o5, o6⟩, ex1, em1⟩ := B_most (p := p) (ls := ls) (td := td) (im := im) (rd := rd) (wr := wr) (en := en) (dy := dy) (hr := hr) (ch := ch) (tk := tk) (wn := wn) (m11 := m11) (m12 := m12) (m13 := m13) (m14 := m14) (m15 := m15) (m20 := m20) hL b true
    obtain ⟨w2, rd2, hr2, o, ex2, em2⟩ := B_most (p := p) (ls := ls) (td := td) (im := im) (rd := rd1) (wr := wr) (en := en) (dy := dy) (hr := hr1) (ch := ch) (tk := tk) (wn := wn) (m11 := o1) (m12 := o2) (m13 := o3) (m14 := o4) (m15 := o5) (m20 := o6) hL b false
    by_cases hw : w2 ≤ w1
    · refine ⟨0, rd2, hr2, o, ?_, ?_⟩
      · simp [f_X9_ask, f_X9_noLetter, mt e0.mp hz, bI_0, e1, hb, ex1, ex2, hw]
      · simp [f_X10_askOf, e2, hb, em1, em2, hw]
    · refine ⟨1, rd2, hr2, o, ?_, ?_⟩
      · simp [f_X9_ask, f_X9_noLetter, mt e0.mp hz, bI_0, e1, hb, ex1, ex2, hw]
      · simp [f_X10_askOf, e2, hb, em1, em2, hw]
theorem B_ask (hL : HL lt m4 m5 m8 n sn) (hT : HT td m18 m19 tn) : ∃ r rd' hr' o, f_X9_ask (p, lt, ls, td, im, rd, wr, en, dy, hr, ch, tk, wn) = some (r, (p, lt, ls, td, im, rd', wr, en, dy, hr', ch, tk, wn)) ∧ f_X10_ask m4 m5 m8 m11 m12 m13 m14 m15 m18 m19 m20 = some (r, o) := by
  have hn := hL.2.2.2.2.1
  have e0 : (lt.2.1 = 0) ↔ n = 0 := by rw [hL.1]; exact nI_z (by omega)
  have e0' : (m4 = 0) ↔ n = 0 := by rw [hL.2.2.1]; exact nI_z (by omega)
  by_cases hz : n = 0
  · refine ⟨-103, rd, hr, (m11, m12, m13, m14, m15, m20), ?_, ?_⟩
    · simp [f_X9_ask, f_X9_noLetter, e0.mpr hz, bI_0]
    · simp [f_X10_ask, e0'.mpr hz]
  · obtain ⟨r, rd', hr', o, e1, e2⟩ := B_askOf (p := p) (ls := ls) (im := im) (rd := rd) (wr := wr) (en := en) (dy := dy) (hr := hr) (ch := ch) (tk := tk) (wn := wn) (m11 := m11) (m12 := m12) (m13 := m13) (m14 := m14) (m15 := m15) (m20 := m20) hL hT hz
    exact ⟨r, rd', hr', o, e1, by simp [f_X10_ask, mt e0'.mp hz, e2]⟩
end Ask
