theorem X_find1 (k e t : Int32) (sn : Int32) (ht : ∃ it, it ≤ 20 ∧ t = iv it) : ∀ (fu n : Nat) (d : Nat → Int32) (rd : zRD) (ft : Nat → zRD), n ≤ 5 → 5 - n < fu → (∀ j, j < n → isw (d j)) → ∃ d' m' rd' ft', lp_X8_find_25 (fun _ a b c d e f => some (false, (a, b, c, d, e, f))) fu (nI (n + 1)) (d, nI n, sn) rd ft k e t = some ((fndL k e t (5 - n) (n + 1)).isSome, ((d', nI m', sn), rd', ft', k, e, t)) ∧ m' ≤ 5 ∧ ∀ m c, fndL k e t (5 - n) (n + 1) = some (m, c) → m' = m ∧ ∀ j, j < m → d' j = dig m c j := by
  intro fu
  induction fu with
  | zero => intro n d rd ft _ hh; omega
  | succ fu ih =>
    intro n d rd ft hn hfu hw
    rw [lp_X8_find_25]
    have h6 : ((5 : Int32) < nI (n + 1)) ↔ 5 < n + 1 := nI_ltI (a := 5) (b := n + 1) (by omega) (by omega)
    by_cases hc : 5 < n + 1
    · have e1 : n = 5 := by omega
      subst e1
      rw [if_pos (h6.mpr hc)]
      refine ⟨d, 5, rd, ft, rfl, by omega, ?_⟩
      intro m c h
      cases h
    · rw [if_neg (mt h6.mp hc), X_add3 d n sn 0 (by omega), Option.bind_some]
      unfold f_X6_begin
      rw [Option.bind_some]
      have hw' : ∀ j, j < n + 1 → isw (upd d n 0 j) := by
        intro j hj
        rw [upd_at]
        split
        · exact Or.inl rfl
        · exact hw j (by omega)
      obtain ⟨rd1, ft1, d1, ex, g1, g2, g3, g4⟩ := X_fillF0 k e t (n + 1) 0 sn (upd d n 0) rd (va_up ft 0 (k, 0, false, 0, 0, false)) (by omega) (by omega) hw' (fun j hj => by omega) (by rw [va_up_self]; rfl) rfl ht
      rw [Nat.sub_zero, Nat.zero_mul] at ex g4
      rw [show f_X8_fillFrom_0 _ = _ from ex, Option.bind_some, show 5 - n = (5 - (n + 1)) + 1 by omega]
      simp only [fndL]
      cases hfs : fstc (gd k e t (n + 1)) (6 ^ (n + 1)) 0 with
      | some c1 =>
        rw [if_neg (by simp [bI_0])]
        refine ⟨d1, n + 1, rd1, ft1, rfl, by omega, ?_⟩
        intro m c h
        cases h
        exact ⟨rfl, g4 c1 hfs⟩
      | none =>
        rw [if_pos (by simp [bI_0]), nI_1 (n + 1)]
        exact ih (n + 1) d1 rd1 ft1 (by omega) (by omega) g2
theorem X_find (wr : zWR) (k e t : Int32) (ht : ∃ it, it ≤ 20 ∧ t = iv it) : ∃ d' m' rd' ft', f_X8_find wr k e t = some ((fndL k e t 5 1).isSome, ((d', nI m', 0), rd', ft', k, e, t)) ∧ m' ≤ 5 ∧ ∀ m c, fndL k e t 5 1 = some (m, c) → m' = m ∧ ∀ j, j < m → d' j = dig m c j := by
  obtain ⟨d', m', rd', ft', ex, h1, h2⟩ := X_find1 k e t 0 ht FU 0 wr.1.1 wr.2.1 wr.2.2.1 (by omega) (FU_lt (by omega)) (fun j hj => by omega)
  refine ⟨d', m', rd', ft', ?_, h1, h2⟩
  rw [f_X8_find, f_X3_clear, Option.bind_some]
  exact ex
theorem isWritten_in (a : Int32) : f_X9_isWrittenValue a = some (decide ((-3) ≤ a ∧ a ≤ 3)) := by
  unfold f_X9_isWrittenValue
  by_cases h1 : a < -3
  · have : ¬ (-3) ≤ a := Int32.not_le.mpr h1
    simp [h1, this]
  · have h1' : (-3) ≤ a := Int32.not_lt.mp h1
    by_cases h2 : 3 < a
    · have : ¬ a ≤ 3 := Int32.not_le.mpr h2
      simp [h1, h2, this]
    · have : a ≤ 3 := Int32.not_lt.mp h2
      simp [h1, h2, this, h1']
theorem iv_of (t : Int32) (h1 : (-3) ≤ t) (h2 : t ≤ 3) : ∃ it, it ≤ 20 ∧ t = iv it := by
  rw [Int32.le_iff_toInt_le] at h1 h2
  have e1 : (-3 : Int32).toInt = -3 := by decide
  have e2 : (3 : Int32).toInt = 3 := by decide
  rw [e1] at h1
  rw [e2] at h2
  have hx : t.toInt = -3 ∨ t.toInt = -2 ∨ t.toInt = -1 ∨ t.toInt = 0 ∨ t.toInt = 1 ∨ t.toInt = 2 ∨ t.toInt = 3 := by omega
  rcases hx with h | h | h | h | h | h | h
  · exact ⟨7, by omega, Int32.toInt_inj.mp (by rw [h]; decide)⟩
  · exact ⟨8, by omega, Int32.toInt_inj.mp (by rw [h]; decide)⟩
  · exact ⟨9, by omega, Int32.toInt_inj.mp (by rw [h]; decide)⟩
  · exact ⟨10, by omega, Int32.toInt_inj.mp (by rw [h]; decide)⟩
  · exact ⟨11, by omega, Int32.toInt_inj.mp (by rw [h]; decide)⟩
  · exact ⟨12, by omega, Int32.toInt_inj.mp (by rw [h]; decide)⟩
  · exact ⟨13, by omega, Int32.toInt_inj.mp (by rw [h]; decide)⟩
