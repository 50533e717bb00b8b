def wv (s : Int32) : Int32 := if s = 46 then 5 else if s = 100 then 4 else if s = 110 then 1 else if s = 116 then 2 else if s = 117 then 3 else if s = 121 then 0 else -1
theorem X_wv (s : Int32) : f_X5_wordOf s = some (wv s) := by
  unfold f_X5_wordOf wv
  repeat' split
  all_goals rfl
theorem M_wv (s : Int32) : f_X10_wordBy s = some (wv s) := by
  unfold f_X10_wordBy wv
  by_cases h1 : s = 121
  · subst h1; decide
  · by_cases h2 : s = 110
    · subst h2; decide
    · by_cases h3 : s = 116
      · subst h3; decide
      · by_cases h4 : s = 117
        · subst h4; decide
        · by_cases h5 : s = 100
          · subst h5; decide
          · by_cases h6 : s = 46
            · subst h6; decide
            · simp [h1, h2, h3, h4, h5, h6]
theorem wv_59 : wv 59 = -1 := by decide
theorem wv_isw {s : Int32} (h : ¬ wv s = -1) : isw (wv s) := by
  unfold wv at h ⊢
  unfold isw
  repeat' split
  all_goals simp_all (decide := true)
theorem X_sign (f : Nat → Int32) (n i : Nat) (hn : n ≤ 12) (hi : i < n) : f_X5_signAt (f, nI n) (nI i) = some (f i) := by
  unfold f_X5_signAt
  dsimp only
  rw [if_neg (nI_pos (by omega)), if_neg (by rw [nI_leI (by omega) (by omega)]; omega), if_neg (by rw [le_lit (by omega) (by omega)]; omega), if_neg (gok (by omega) (by omega)), nI_clamp (by omega)]
theorem nI_lit_eq {a b : Nat} (ha : a < 2 ^ 31) (hb : b < 2 ^ 31) : (nI a = nI b) = (a = b) := propext (nI_eq ha hb)
theorem nI_m1 {a : Nat} (ha : a < 2 ^ 31) : ¬ nI a = -1 := fun h => nI_pos ha (by rw [h]; decide)
/-- how far the page is read: words alone; the mark; the digit behind it -/
def Ph (g : Nat → Int32) (i : Nat) (mk st rm : Int32) : Prop :=
  (mk = -1 ∧ st = 0 ∧ rm = nI i ∧ i ≤ 9 ∧ ∀ j, j < i → ¬ wv (g j) = -1) ∨
  (∃ k, i = k + 1 ∧ 0 < k ∧ k ≤ 9 ∧ mk = nI k ∧ st = 1 ∧ rm = nI k ∧ g k = 59 ∧ ∀ j, j < k → ¬ wv (g j) = -1) ∨
  (∃ k, i = k + 2 ∧ 0 < k ∧ k ≤ 9 ∧ mk = nI k ∧ st = 2 ∧ rm = nI k ∧ g k = 59 ∧ (49 ≤ g (k + 1) ∧ g (k + 1) ≤ 57) ∧ ∀ j, j < k → ¬ wv (g j) = -1)
theorem B_fault1 (g : Nat → Int32) (n : Nat) (hn : n ≤ 12) : ∀ (fu i : Nat) (mk st rm : Int32), i ≤ n → n - i < fu → Ph g i mk st rm →
    ∃ r mk' st' rm', r ≤ n ∧ lp_X5_firstFault_4 g (nI n) (fun _ _ => some (nI n)) fu mk (nI i) = some (nI r) ∧ lp_X10_faultOf_12 g (nI n) (fun a b c => some (a, b, c)) fu (nI i) st rm = some (nI r, st', rm') ∧ (r = n → Ph g n mk' st' rm') := by
  intro fu
  induction fu with
  | zero => intro i mk st rm _ hh; omega
  | succ fu ih =>
    intro i mk st rm hi hf hP
    rw [lp_X5_firstFault_4, lp_X10_faultOf_12]
    by_cases hc : n ≤ i
    · have e : i = n := by omega
      subst e
      rw [if_pos ((nI_leI (by omega) (by omega)).mpr hc), if_pos ((nI_leI (by omega) (by omega)).mpr hc)]
      exact ⟨i, mk, st, rm, by omega, rfl, rfl, fun _ => hP⟩
    · have hc' : ¬ nI n ≤ nI i := by rw [nI_leI (by omega) (by omega)]; exact hc
      rw [if_neg hc', if_neg hc', X_sign g n i hn (by omega), if_neg (gok (by omega) (by omega)), nI_clamp (by omega)]
      simp only [Option.bind_some]
      -- one step of both
      have step : (∃ st' rm', f_X5_fits (g i) (nI i) mk = some false ∧ f_X10_go st rm (g i) = some (false, st', rm')) ∨ (∃ st' rm', f_X5_fits (g i) (nI i) mk = some true ∧ f_X10_go st rm (g i) = some (true, st', rm') ∧ Ph g (i + 1) (if g i = 59 then nI i else mk) st' rm') := by
        rcases hP with ⟨rfl, rfl, rfl, h9, hw⟩ | ⟨k, rfl, hk0, hk9, rfl, rfl, rfl, h59, hw⟩ | ⟨k, rfl, hk0, hk9, rfl, rfl, rfl, h59, hd, hw⟩
        · by_cases hs : g i = 59
          · by_cases h0 : i = 0
            · subst h0
              refine Or.inl ⟨0, nI 0 + 1, ?_, ?_⟩
              · rw [hs]; decide
              · rw [hs]; decide
            · have hle : ¬ nI i ≤ 0 := by
                rw [← nI_0, nI_leI (by omega) (by omega)]; omega
              refine Or.inr ⟨1, nI i, ?_, ?_, Or.inr (Or.inl ⟨i, rfl, by omega, h9, by rw [if_pos hs], rfl, rfl, hs, hw⟩)⟩
              · simp [f_X5_fits, hs, hle]
              · simp [f_X10_go, hs, hle]
          · have h10 : ((10 : Int32) ≤ nI i + 1) ↔ 10 ≤ i + 1 := by rw [nI_1]; exact nI_leI (a := 10) (b := i + 1) (by omega) (by omega)
            have h9' : ((9 : Int32) ≤ nI i) ↔ 9 ≤ i := nI_leI (a := 9) (b := i) (by omega) (by omega)
            by_cases hi9 : 9 ≤ i
            · refine Or.inl ⟨0, nI i + 1, ?_, ?_⟩
              · simp [f_X5_fits, hs, h9'.mpr hi9]
              · simp [f_X10_go, hs, h10.mpr (by omega)]
            · by_cases hww : wv (g i) = -1
              · refine Or.inl ⟨0, nI i + 1, ?_, ?_⟩
                · simp [f_X5_fits, hs, mt h9'.mp hi9, X_wv, hww]
                · simp [f_X10_go, hs, mt h10.mp (by omega), M_wv, hww]
              · refine Or.inr ⟨0, nI i + 1, ?_, ?_, Or.inl ⟨by rw [if_neg hs], rfl, nI_1 i, by omega, fun j hj => ?_⟩⟩
                · simp [f_X5_fits, hs, mt h9'.mp hi9, X_wv, hww]
                · simp [f_X10_go, hs, mt h10.mp (by omega), M_wv, hww]
                · by_cases hji : j = i
                  · rw [hji]; exact hww
                  · exact hw j (by omega)
        · have hm : ¬ nI k = -1 := nI_m1 (by omega)
          have e1 : nI (k + 1) = nI k + 1 := (nI_1 k).symm
          have hin : f_X10_in (g (k + 1)).toInt64 49 57 = some (decide (49 ≤ g (k + 1) ∧ g (k + 1) ≤ 57)) := M_in (g (k + 1)) 49 57
          by_cases hd : 49 ≤ g (k + 1) ∧ g (k + 1) ≤ 57
          · have h1 : ¬ g (k + 1) < 49 := Int32.not_lt.mpr hd.1
            have h2 : ¬ 57 < g (k + 1) := Int32.not_lt.mpr hd.2
            have h3 : ¬ g (k + 1) = 59 := by
              intro h3; rw [h3] at hd; exact absurd hd.2 (by decide)
            refine Or.inr ⟨2, nI k, ?_, ?_, Or.inr (Or.inr ⟨k, rfl, hk0, hk9, by rw [if_neg h3], rfl, rfl, h59, hd, hw⟩)⟩
            · simp [f_X5_fits, hm, e1, h1, h2]
            · simp (decide := true) [f_X10_go, hin, hd, bI_0]
          · refine Or.inl ⟨2, nI k, ?_, ?_⟩
            · by_cases h1 : g (k + 1) < 49
              · simp [f_X5_fits, hm, e1, h1]
              · have h2 : 57 < g (k + 1) := Int32.not_le.mp (fun h => hd ⟨Int32.not_lt.mp h1, h⟩)
                simp [f_X5_fits, hm, e1, h1, h2]
            · simp (decide := true) [f_X10_go, hin, hd, bI_0]
        · have hm : ¬ nI k = -1 := nI_m1 (by omega)
          have e1 : ¬ nI (k + 2) = nI k + 1 := by rw [nI_1, nI_eq (by omega) (by omega)]; omega
          refine Or.inl ⟨2, nI k, ?_, ?_⟩
          · simp [f_X5_fits, hm, e1]
          · simp (decide := true) [f_X10_go]
      rcases step with ⟨st', rm', e1, e2⟩ | ⟨st', rm', e1, e2, hP'⟩
      · rw [e1, e2]
        simp only [Option.bind_some, bI_0, if_true]
        exact ⟨i, mk, st', rm', by omega, rfl, rfl, fun h => by omega⟩
      · rw [e1, e2]
        simp only [Option.bind_some, bI_0]
        rw [nI_1]
        have := ih (i + 1) _ _ _ (by omega) (by omega) hP'
        by_cases hs : g i = 59
        · rw [if_pos hs] at this
          simpa [hs] using this
        · rw [if_neg hs] at this
          simpa [hs] using this
theorem B_faultOf (g : Nat → Int32) (n : Nat) (hn : n ≤ 12) : ∃ r mk' st' rm', r ≤ n ∧ f_X5_firstFault (g, nI n) = some (nI r) ∧ f_X10_faultOf g (nI n) = some (nI r, st', rm') ∧ (r = n → Ph g n mk' st' rm') :=
  B_fault1 g n hn FU 0 (-1) 0 0 (by omega) (FU_lt (by omega)) (Or.inl ⟨rfl, rfl, rfl, by omega, fun j hj => by omega⟩)
