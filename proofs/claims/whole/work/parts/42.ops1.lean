theorem t64_lt (a b : Int32) : (a.toInt64 < b.toInt64) ↔ a < b := by
  simp [Int64.lt_iff_toInt_lt, Int32.lt_iff_toInt_lt]
theorem M_in (a lo hi : Int32) : f_X10_in a.toInt64 lo.toInt64 hi.toInt64 = some (decide (lo ≤ a ∧ a ≤ hi)) := by
  unfold f_X10_in
  simp only [lg_cmp_lt, lg_cmp_gt, t64_lt]
  by_cases h1 : a < lo
  · have : ¬ lo ≤ a := Int32.not_le.mpr h1
    simp [h1, this]
  · have h1' : lo ≤ a := Int32.not_lt.mp h1
    by_cases h2 : hi < a
    · have : ¬ a ≤ hi := Int32.not_le.mpr h2
      simp [h1, h2, this]
    · have h2' : a ≤ hi := Int32.not_lt.mp h2
      simp [h1, h2, h1', h2']
theorem M_in0 (a : Int32) (hi : Int32) : f_X10_in a.toInt64 0 hi.toInt64 = some (decide (0 ≤ a ∧ a ≤ hi)) := M_in a 0 hi
theorem M_in05 (a : Int32) : f_X10_in a.toInt64 0 5 = some (decide (0 ≤ a ∧ a ≤ 5)) := M_in a 0 5
theorem M_in04 (a : Int32) : f_X10_in a.toInt64 0 4 = some (decide (0 ≤ a ∧ a ≤ 4)) := M_in a 0 4
theorem M_in09 (a : Int32) : f_X10_in a.toInt64 0 9 = some (decide (0 ≤ a ∧ a ≤ 9)) := M_in a 0 9
theorem M_in19 (a : Int32) : f_X10_in a.toInt64 1 9 = some (decide (1 ≤ a ∧ a ≤ 9)) := M_in a 1 9
theorem M_in16 (a : Int32) : f_X10_in a.toInt64 1 6 = some (decide (1 ≤ a ∧ a ≤ 6)) := M_in a 1 6
theorem M_in126 (a : Int32) : f_X10_in a.toInt64 1 126 = some (decide (1 ≤ a ∧ a ≤ 126)) := M_in a 1 126
theorem nI_ge0 {n : Nat} (h : n < 2 ^ 31) : (0 : Int32) ≤ nI n := nI_pos' h
/-- an index: outside a row of n, or a place of it -/
theorem ixc (a : Int32) (n : Nat) (hn : n ≤ 100) : (¬ (0 ≤ a ∧ a ≤ nI n - 1) ∧ (a < 0 ∨ nI n ≤ a)) ∨ ∃ j, j < n ∧ a = nI j := by
  by_cases h0 : a < 0
  · exact Or.inl ⟨fun h => absurd h.1 (Int32.not_le.mpr h0), Or.inl h0⟩
  · obtain ⟨j, hj, rfl⟩ := nI_of h0
    by_cases hjn : j < n
    · exact Or.inr ⟨j, hjn, rfl⟩
    · refine Or.inl ⟨fun h => ?_, Or.inr ((nI_leI (by omega) hj).mpr (by omega))⟩
      have h2 := h.2
      by_cases hn0 : n = 0
      · subst hn0
        have e : nI 0 - 1 = -1 := by decide
        rw [e] at h2
        exact absurd h2 (by rw [Int32.not_le]; exact Int32.lt_of_lt_of_le (by decide) (nI_ge0 hj))
      · rw [nI_sub1 (by omega), nI_leI hj (by omega)] at h2
        omega
theorem ix_in {n j : Nat} (hn : n ≤ 100) (hj : j < n) : (0 ≤ nI j ∧ nI j ≤ nI n - 1) := ⟨nI_ge0 (by omega), by rw [nI_sub1 (by omega), nI_leI (by omega) (by omega)]; omega⟩
theorem gok {j N : Nat} (h : j < N) (hN : N < 2 ^ 31) : ¬ (nI j < 0 ∨ N ≤ Int32.toNatClampNeg (nI j)) := by
  rw [nI_clamp (by omega)]
  rintro (h1 | h1)
  · exact nI_pos (by omega) h1
  · omega
theorem zs_m1 (w v p : Int32) : zs (-1) w v p = false := by simp (decide := true) [zs]
theorem M_vbT (f : Nat → Int32) (n at' : Nat) (hn : n ≤ 9) (ha : at' < n) (hw : ∀ j, j < n → isw (f j)) (K : Int32 → Int32 → Bool → Int32 → Int32 → Option (Int32 × Int32 × Bool × Int32 × Int32 × Bool)) (g : Int32 → Bool → Int32 → Int32 → Option (Int32 × Int32 × Bool × Int32 × Int32 × Bool)) (hK : ∀ a b c d e, K a b c d e = g b c d e) : ∀ (fu i : Nat) (v : Int32) (t : Bool) (p h : Int32), i ≤ at' + 1 → at' + 1 - i < fu →
    lp_X10_valueBehind_10 (nI at') f K fu (nI i) v t p h = g (rdn (-1) (gw f n true) (at' + 1 - i) i (v, t, p, h, false)).1 (rdn (-1) (gw f n true) (at' + 1 - i) i (v, t, p, h, false)).2.1 (rdn (-1) (gw f n true) (at' + 1 - i) i (v, t, p, h, false)).2.2.1 (rdn (-1) (gw f n true) (at' + 1 - i) i (v, t, p, h, false)).2.2.2.1 := by
  intro fu
  induction fu with
  | zero => intro i v t p h _ hh; omega
  | succ fu ih =>
    intro i v t p h hi hf
    rw [lp_X10_valueBehind_10]
    by_cases hc : at' < i
    · rw [if_pos ((nI_ltI (by omega) (by omega)).mpr hc), show at' + 1 - i = 0 by omega, hK]
      rfl
    · rw [if_neg (by rw [nI_ltI (by omega) (by omega)]; exact hc), if_neg (gok (by omega) (by omega)), nI_clamp (by omega), M_word _ _ _ _ _ (hw i (by omega))]
      simp only [Option.bind_some]
      rw [nI_1, ih (i + 1) _ _ _ _ (by omega) (by omega), show at' + 1 - i = (at' + 1 - (i + 1)) + 1 by omega]
      simp [rdn, stp, zs_m1, gw]
theorem M_vbE (f : Nat → Int32) (n at' : Nat) (hn : n ≤ 9) (ha : at' < n) (hw : ∀ j, j < n → isw (f j)) (K : Int32 → Int32 → Bool → Int32 → Int32 → Option (Int32 × Int32 × Bool × Int32 × Int32 × Bool)) (g : Int32 → Bool → Int32 → Int32 → Option (Int32 × Int32 × Bool × Int32 × Int32 × Bool)) (hK : ∀ a b c d e, K a b c d e = g b c d e) : ∀ (fu i : Nat) (v : Int32) (t : Bool) (p h : Int32), i ≤ n - at' → n - at' - i < fu →
    lp_X10_valueBehind_41 (nI at') f K fu (nI (n - i) + (-1)) v t p h = g (rdn (-1) (gw f n false) (n - at' - i) i (v, t, p, h, false)).1 (rdn (-1) (gw f n false) (n - at' - i) i (v, t, p, h, false)).2.1 (rdn (-1) (gw f n false) (n - at' - i) i (v, t, p, h, false)).2.2.1 (rdn (-1) (gw f n false) (n - at' - i) i (v, t, p, h, false)).2.2.2.1 := by
  intro fu
  induction fu with
  | zero => intro i v t p h _ hh; omega
  | succ fu ih =>
    intro i v t p h hi hf
    rw [lp_X10_valueBehind_41]
    by_cases hc : n - at' ≤ i
    · have e : n - i = at' := by omega
      have hlt : nI (n - i) + (-1) < nI at' := by
        rw [e]
        by_cases h0 : at' = 0
        · subst h0; decide
        · rw [sb_m1 (by omega), nI_ltI (by omega) (by omega)]; omega
      rw [if_pos hlt, show n - at' - i = 0 by omega, hK]
      rfl
    · have e : nI (n - i) + (-1) = nI (n - i - 1) := sb_m1 (by omega)
      rw [e, if_neg (by rw [nI_ltI (by omega) (by omega)]; omega), if_neg (gok (by omega) (by omega)), nI_clamp (by omega), M_word _ _ _ _ _ (hw _ (by omega))]
      simp only [Option.bind_some]
      rw [show n - i - 1 = n - (i + 1) by omega, ih (i + 1) _ _ _ _ (by omega) (by omega), show n - at' - i = (n - at' - (i + 1)) + 1 by omega]
      simp [rdn, stp, zs_m1, gw, show n - 1 - i = n - (i + 1) by omega]
theorem sub_neg1 (x : Int32) : x - 1 = x + (-1) := by rw [Int32.sub_eq_add_neg]
theorem M_vb (f : Nat → Int32) (n j : Nat) (ft : Bool) (hn : n ≤ 9) (hj : j < n) (hw : ∀ j, j < n → isw (f j)) : ∃ t p h s, f_X10_valueBehind (nI n) f (nI j) ft = some ((rdn (-1) (gw f n ft) (if ft then j + 1 else n - j) 0 q0).1, (rdn (-1) (gw f n ft) (if ft then j + 1 else n - j) 0 q0).1, t, p, h, s) := by
  unfold f_X10_valueBehind f_X10_begin
  simp only [Option.bind_some]
  cases ft
  · rw [if_pos (by decide)]
    have := M_vbE f n j hn hj hw (fun _ b c d e => some (b, b, c, d, e, false)) (fun b c d e => some (b, b, c, d, e, false)) (fun _ _ _ _ _ => rfl) FU 0 0 false 0 0 (by omega) (FU_lt (by omega))
    rw [Nat.sub_zero, ← sub_neg1, Nat.sub_zero] at this
    exact ⟨_, _, _, _, this⟩
  · rw [if_neg (by decide)]
    have := M_vbT f n j hn hj hw (fun _ b c d e => some (b, b, c, d, e, false)) (fun b c d e => some (b, b, c, d, e, false)) (fun _ _ _ _ _ => rfl) FU 0 0 false 0 0 (by omega) (FU_lt (by omega))
    rw [Nat.sub_zero] at this
    exact ⟨_, _, _, _, this⟩
def HL (lt : zLT) (m4 m5 : Int32) (m8 : Nat → Int32) (n sn : Nat) : Prop := lt.2.1 = nI n ∧ lt.2.2 = nI sn ∧ m4 = nI n ∧ m5 = nI sn ∧ n ≤ 9 ∧ sn ≤ 9 ∧ ∀ j, j < n → lt.1 j = m8 j ∧ isw (m8 j)
def HK (ls : zLS) (m9 : Int32) (m10 : Nat → Int32) (ln : Nat) : Prop := ls = (m10, nI ln) ∧ m9 = nI ln ∧ ln ≤ 4 ∧ ∀ j, j < ln → isk (m10 j)
section Ops
variable {p : zPG} {lt : zLT} {ls : zLS} {td : zTD} {im : zIM} {rd : zRD} {wr : zWR} {en : zEN} {dy : zDY} {hr : Nat → Int32} {ch tk wn : Int32} {m4 m5 m9 m11 m13 m14 : Int32} {m12 m15 : Bool} {m8 m10 : Nat → Int32} {n sn ln : Nat}
theorem rdn_f (k : Int32) (f g : Nat → Int32) (n c : Nat) (ft : Bool) (q : zQ) (hc : c ≤ n) (h : ∀ j, j < n → f j = g j) : rdn k (gw f n ft) c 0 q = rdn k (gw g n ft) c 0 q := by
  refine rdn_congr k _ _ _ _ _ (fun j _ h2 => ?_)
  unfold gw
  split
  · exact h j (by omega)
  · exact h _ (by omega)
theorem B_tell (hL : HL lt m4 m5 m8 n sn) (j : Nat) (hj : j < n) (b : Int32) : ∃ r rd' o, f_X9_word (p, lt, ls, td, im, rd, wr, en, dy, hr, ch, tk, wn) (nI j) b = some (r, (p, lt, ls, td, im, rd', wr, en, dy, hr, ch, tk, wn)) ∧ f_X10_tellWord m4 m8 m11 m12 m13 m14 m15 (nI j) b = some (r, o) := by
  obtain ⟨lf, l1, l2⟩ := lt
  obtain ⟨rfl, rfl, rfl, rfl, hn, hs, hw⟩ := hL
  dsimp only at hw ⊢
  have hwl : ∀ j, j < n → isw (lf j) := fun j h => by rw [(hw j h).1]; exact (hw j h).2
  have hwm : ∀ j, j < n → isw (m8 j) := fun j h => (hw j h).2
  have e1 : f_X3_has (lf, nI n, nI sn) (nI j) = some true := by rw [X_has lf n j _ hn (by omega)]; simp [hj]
  have e2 : f_X3_wordAt (lf, nI n, nI sn) (nI j) = some (m8 j) := by rw [X_wordAt lf n j _ hn hj, (hw j hj).1]
  have g1 : ¬ (nI j < 0 ∨ 9 ≤ (nI j).toNatClampNeg) := gok (by omega) (by omega)
  have cl : (nI j).toNatClampNeg = j := nI_clamp (by omega)
  by_cases h0 : b = 0
  · subst h0
    refine ⟨m8 j, rd, (m11, m12, m13, m14, m15), ?_, ?_⟩
    · simp (decide := true) [f_X9_word, e1, e2, bI_0]
    · simp only [f_X10_tellWord, if_true]
      rw [if_neg g1, cl]
  · by_cases h1 : b = 1
    · subst h1
      obtain ⟨t, p', h, s, e⟩ := M_vb m8 n j false hn hj hwm
      have e3 : f_X6_hearSome (-1, 0, false, 0, 0, false) (lf, nI n, nI sn) (nI n - nI j) false = some (-1, rdn (-1) (gw m8 n false) (n - j) 0 q0) := by
        rw [pk_sub (by omega), show ((-1, 0, false, 0, 0, false) : zRD) = (-1, q0) from rfl, X_hearSome lf n (n - j) (nI sn) false (-1) q0 hn (by omega) hwl, rdn_f (-1) lf m8 n (n - j) false q0 (by omega) (fun j h => (hw j h).1)]
      refine ⟨(rdn (-1) (gw m8 n false) (n - j) 0 q0).1 + 100, (-1, rdn (-1) (gw m8 n false) (n - j) 0 q0), ((rdn (-1) (gw m8 n false) (n - j) 0 q0).1, t, p', h, s), ?_, ?_⟩
      · simp (decide := true) [f_X9_word, e1, e3, bI_0, f_X6_begin]
      · simp (decide := true) [f_X10_tellWord, e, Int32.add_comm]
    · by_cases h2 : b = 2
      · subst h2
        obtain ⟨t, p', h, s, e⟩ := M_vb m8 n j true hn hj hwm
        have e3 : f_X6_hearSome (-1, 0, false, 0, 0, false) (lf, nI n, nI sn) (nI j + 1) true = some (-1, rdn (-1) (gw m8 n true) (j + 1) 0 q0) := by
          rw [nI_1, show ((-1, 0, false, 0, 0, false) : zRD) = (-1, q0) from rfl, X_hearSome lf n (j + 1) (nI sn) true (-1) q0 hn (by omega) hwl, rdn_f (-1) lf m8 n (j + 1) true q0 (by omega) (fun j h => (hw j h).1)]
        refine ⟨(rdn (-1) (gw m8 n true) (j + 1) 0 q0).1 + 100, (-1, rdn (-1) (gw m8 n true) (j + 1) 0 q0), ((rdn (-1) (gw m8 n true) (j + 1) 0 q0).1, t, p', h, s), ?_, ?_⟩
        · simp (decide := true) [f_X9_word, e1, e3, bI_0, f_X6_begin]
        · simp (decide := true) [f_X10_tellWord, e, Int32.add_comm]
      · refine ⟨-102, rd, (m11, m12, m13, m14, m15), ?_, ?_⟩
        · have h4 : b < 0 ∨ (¬ b < 0 ∧ ¬ b ≤ 2) := by
            by_cases h3 : b < 0
            · exact Or.inl h3
            · refine Or.inr ⟨h3, fun h4 => ?_⟩
              obtain ⟨jj, hjj, e⟩ := nI_of2 (n := 2) (by decide) h3 h4
              rcases (show jj = 0 ∨ jj = 1 ∨ jj = 2 by omega) with rfl | rfl | rfl
              · exact h0 e
              · exact h1 e
              · exact h2 e
          rcases h4 with h4 | ⟨h4, h5⟩
          · simp [f_X9_word, e1, bI_0, h4]
          · simp [f_X9_word, e1, bI_0, h4, h5]
        · simp [f_X10_tellWord, h0, h1, h2]
theorem B_word (hL : HL lt m4 m5 m8 n sn) (a b : Int32) : ∃ r rd' o, f_X9_word (p, lt, ls, td, im, rd, wr, en, dy, hr, ch, tk, wn) a b = some (r, (p, lt, ls, td, im, rd', wr, en, dy, hr, ch, tk, wn)) ∧ f_X10_word m4 m8 m11 m12 m13 m14 m15 a b = some (r, o) := by
  have hn := hL.2.2.2.2.1
  have e4 := hL.2.2.1
  rcases ixc a n (by omega) with ⟨h1, h2⟩ | ⟨j, hj, rfl⟩
  · have e1 : f_X3_has lt a = some false := by
      unfold f_X3_has
      rcases h2 with h2 | h2
      · rw [if_pos h2]
      · by_cases h3 : a < 0
        · rw [if_pos h3]
        · rw [if_neg h3, if_pos (by rw [hL.1]; exact h2)]
    have e2 : f_X10_isWord m4 a = some false := by
      unfold f_X10_isWord
      rw [M_in0, e4]
      simp only [h1, decide_false, Option.bind_some]
    refine ⟨-101, rd, (m11, m12, m13, m14, m15), ?_, ?_⟩
    · simp [f_X9_word, e1, bI_0]
    · simp [f_X10_word, e2, bI_0]
  · obtain ⟨r, rd', o, e1, e2⟩ := B_tell (p := p) (ls := ls) (td := td) (im := im) (rd := rd) (wr := wr) (en := en) (dy := dy) (hr := hr) (ch := ch) (tk := tk) (wn := wn) (m11 := m11) (m12 := m12) (m13 := m13) (m14 := m14) (m15 := m15) hL j hj b
    refine ⟨r, rd', o, e1, ?_⟩
    have e3 : f_X10_isWord m4 (nI j) = some true := by
      unfold f_X10_isWord
      rw [M_in0, e4]
      simp only [ix_in (by omega : n ≤ 100) hj, and_self, decide_true, Option.bind_some]
    simp [f_X10_word, e3, bI_0, e2]
end Ops
