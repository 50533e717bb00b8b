def HT (td : zTD) (m18 : Int32) (m19 : Nat → Int32) (tn : Nat) : Prop := td.2 = nI tn ∧ m18 = nI tn ∧ tn ≤ 6 ∧ ∀ j, j < tn → td.1 j = m19 j
theorem le_lit {a b : Nat} (ha : a < 2 ^ 31) (hb : b < 2 ^ 31) : (Int32.ofNat a ≤ nI b) ↔ a ≤ b := nI_leI ha hb
theorem lt_lit {a b : Nat} (ha : a < 2 ^ 31) (hb : b < 2 ^ 31) : (nI a < Int32.ofNat b) ↔ a < b := nI_ltI ha hb
theorem X_add7 (f : Nat → Int32) (n : Nat) (a : Int32) (hn : n < 6) : f_X7_add (f, nI n) a = some (upd f n a, nI (n + 1)) := by
  unfold f_X7_add
  dsimp only
  rw [if_neg (nI_pos (by omega)), if_pos ((lt_lit (by omega) (by omega)).mpr hn), if_neg (gok hn (by omega)), nI_clamp (by omega), nI_1]
  rfl
theorem X_add3 (f : Nat → Int32) (n : Nat) (sn a : Int32) (hn : n < 9) : f_X3_add (f, nI n, sn) a = some (upd f n a, nI (n + 1), sn) := by
  unfold f_X3_add
  dsimp only
  rw [if_neg (nI_pos (by omega)), if_pos ((lt_lit (by omega) (by omega)).mpr hn), if_neg (gok hn (by omega)), nI_clamp (by omega), nI_1]
  rfl
theorem X_add4 (f : Nat → Int32) (n : Nat) (a : Int32) (hn : n < 4) : f_X4_add (f, nI n) a = some (upd f n a, nI (n + 1)) := by
  unfold f_X4_add
  dsimp only
  rw [if_neg (nI_pos (by omega)), if_pos ((lt_lit (by omega) (by omega)).mpr hn), if_neg (gok hn (by omega)), nI_clamp (by omega), nI_1]
  rfl
theorem X_add5 (f : Nat → Int32) (n : Nat) (a : Int32) (hn : n < 12) : f_X5_add (f, nI n) a = some (upd f n a, nI (n + 1)) := by
  unfold f_X5_add
  dsimp only
  rw [if_neg (nI_pos (by omega)), if_pos ((lt_lit (by omega) (by omega)).mpr hn), if_neg (gok hn (by omega)), nI_clamp (by omega), nI_1]
  rfl
theorem X_kindsAt (f : Nat → Int32) (n i : Nat) (hn : n ≤ 6) (hi : i < n) : f_X7_kindsAt (f, nI n) (nI i) = some (f i) := by
  unfold f_X7_kindsAt
  dsimp only
  rw [if_neg (nI_pos (by omega)), if_neg (by rw [nI_leI (by omega) (by omega)]; omega), if_neg (by rw [le_lit (by omega) (by omega)]; omega), if_neg (gok (by omega) (by omega)), nI_clamp (by omega)]
theorem B_which1 (f g : Nat → Int32) (n : Nat) (hn : n ≤ 6) (h : ∀ j, j < n → f j = g j) : ∀ (fu i : Nat) (v : Int32), i ≤ n → n - i < fu → ∃ r, lp_X7_possibleKinds_5 f (nI n) (fun a _ => some a) fu v (nI i) = some r ∧ lp_X10_whichOf_5 (nI n) g (fun a _ => some a) fu v (nI i) = some r := by
  intro fu
  induction fu with
  | zero => intro i v _ hh; omega
  | succ fu ih =>
    intro i v hi hf
    rw [lp_X7_possibleKinds_5, lp_X10_whichOf_5]
    by_cases hc : n ≤ i
    · rw [if_pos ((nI_leI (by omega) (by omega)).mpr hc), if_pos ((nI_leI (by omega) (by omega)).mpr hc)]
      exact ⟨_, rfl, rfl⟩
    · have hc' : ¬ nI n ≤ nI i := by rw [nI_leI (by omega) (by omega)]; exact hc
      rw [if_neg hc', if_neg hc', X_kindsAt f n i hn (by omega), if_neg (gok (by omega) (by omega)), nI_clamp (by omega), h i (by omega), nI_1]
      exact ih (i + 1) _ (by omega) (by omega)
theorem B_which {td : zTD} {m18 : Int32} {m19 : Nat → Int32} {tn : Nat} (hT : HT td m18 m19 tn) : ∃ r, f_X7_possibleKinds td = some r ∧ f_X10_whichOf m18 m19 = some r := by
  obtain ⟨f, c⟩ := td
  obtain ⟨rfl, rfl, hn, h⟩ := hT
  exact B_which1 f m19 tn hn h FU 0 31 (by omega) (FU_lt (by omega))
theorem M_copy1 (f : Nat → Int32) (N : Nat) (hN : N ≤ 12) : ∀ (fu i : Nat) (s : Nat → Int32), i ≤ N → N - i < fu → (∀ j, j < i → s j = f j) → ∃ g, lp_X10_copy_2 f N N (fun _ s => some s) fu (nI i) s = some g ∧ ∀ j, j < N → g j = f j := by
  intro fu
  induction fu with
  | zero => intro i s _ hh; omega
  | succ fu ih =>
    intro i s hi hf hs
    rw [lp_X10_copy_2]
    by_cases hc : N ≤ i
    · rw [if_pos ((le_lit (by omega) (by omega)).mpr hc)]
      exact ⟨s, rfl, fun j hj => hs j (by omega)⟩
    · rw [if_neg (by rw [le_lit (by omega) (by omega)]; exact hc), if_neg (gok (by omega) (by omega)), if_neg (gok (by omega) (by omega)), nI_clamp (by omega)]
      simp only [Option.bind_some]
      rw [nI_1]
      refine ih (i + 1) _ (by omega) (by omega) (fun j hj => ?_)
      unfold upd
      by_cases hji : j = i
      · simp [hji]
      · simp only [hji, if_false]; exact hs j (by omega)
theorem M_copy (f g : Nat → Int32) (N : Nat) (hN : N ≤ 12) : ∃ h, f_X10_copy N f N g = some h ∧ ∀ j, j < N → h j = f j := M_copy1 f N hN FU 0 g (by omega) (FU_lt (by omega)) (fun j hj => by omega)
theorem X_copy31 (f : Nat → Int32) (n : Nat) (sn : Int32) (hn : n ≤ 9) (x : Int32) : ∀ (fu i : Nat) (s : Nat → Int32) (y : Int32), i ≤ n → n - i < fu → (∀ j, j < i → s j = f j) → ∃ g, lp_X3_copy_6 f (nI n) sn (fun _ a b _ => some (a, b, x)) fu (nI i) s (nI i) y = some (g, nI n, x) ∧ ∀ j, j < n → g j = f j := by
  intro fu
  induction fu with
  | zero => intro i s y _ hh; omega
  | succ fu ih =>
    intro i s y hi hf hs
    rw [lp_X3_copy_6]
    by_cases hc : n ≤ i
    · rw [if_pos ((nI_leI (by omega) (by omega)).mpr hc)]
      have e : i = n := by omega
      subst e
      exact ⟨s, rfl, hs⟩
    · rw [if_neg (by rw [nI_leI (by omega) (by omega)]; exact hc), X_wordAt f n i sn hn (by omega)]
      simp only [Option.bind_some]
      rw [X_add3 s i y (f i) (by omega)]
      simp only [Option.bind_some]
      rw [nI_1]
      refine ih (i + 1) _ y (by omega) (by omega) (fun j hj => ?_)
      unfold upd
      by_cases hji : j = i
      · simp [hji]
      · simp only [hji, if_false]; exact hs j (by omega)
theorem X_copy3 (t : zLT) (f : Nat → Int32) (n : Nat) (sn : Int32) (hn : n ≤ 9) : ∃ g, f_X3_copy t (f, nI n, sn) = some (g, nI n, sn) ∧ ∀ j, j < n → g j = f j := by
  obtain ⟨g, hg, hj⟩ := X_copy31 f n sn hn sn FU 0 t.1 0 (by omega) (FU_lt (by omega)) (fun j hj => by omega)
  refine ⟨g, ?_, hj⟩
  rw [f_X3_copy, f_X3_clear, Option.bind_some]
  rw [nI_0] at hg
  exact hg
theorem X_copy71 (f : Nat → Int32) (n : Nat) (hn : n ≤ 6) : ∀ (fu i : Nat) (s : Nat → Int32), i ≤ n → n - i < fu → (∀ j, j < i → s j = f j) → ∃ g, lp_X7_copy_6 f (nI n) (fun _ a b => some (a, b)) fu (nI i) s (nI i) = some (g, nI n) ∧ ∀ j, j < n → g j = f j := by
  intro fu
  induction fu with
  | zero => intro i s _ hh; omega
  | succ fu ih =>
    intro i s hi hf hs
    rw [lp_X7_copy_6]
    by_cases hc : n ≤ i
    · rw [if_pos ((nI_leI (by omega) (by omega)).mpr hc)]
      have e : i = n := by omega
      subst e
      exact ⟨s, rfl, hs⟩
    · rw [if_neg (by rw [nI_leI (by omega) (by omega)]; exact hc), X_kindsAt f n i hn (by omega)]
      simp only [Option.bind_some]
      rw [X_add7 s i (f i) (by omega)]
      simp only [Option.bind_some]
      rw [nI_1]
      refine ih (i + 1) _ (by omega) (by omega) (fun j hj => ?_)
      unfold upd
      by_cases hji : j = i
      · simp [hji]
      · simp only [hji, if_false]; exact hs j (by omega)
theorem X_copy7 (t : zTD) (f : Nat → Int32) (n : Nat) (hn : n ≤ 6) : ∃ g, f_X7_copy t (f, nI n) = some (g, nI n) ∧ ∀ j, j < n → g j = f j := by
  obtain ⟨g, hg, hj⟩ := X_copy71 f n hn FU 0 t.1 (by omega) (FU_lt (by omega)) (fun j hj => by omega)
  refine ⟨g, ?_, hj⟩
  rw [f_X7_copy, f_X7_clear, Option.bind_some]
  rw [nI_0] at hg
  exact hg
theorem or0 (x : Int32) : x ||| 0 = x := by simp
theorem isk_nI {i : Nat} (h : i < 5) : isk (nI i) := isk_of ⟨nI_ge0 (by omega), (nI_leI (b := 4) (by omega) (by omega)).mpr (by omega)⟩
theorem B_kinds1 {lt : zLT} {m4 m5 : Int32} {m8 : Nat → Int32} {n sn : Nat} (hL : HL lt m4 m5 m8 n sn) (a : Int32) (ft : Bool) (K : Int32 → Int32 → zRD → Option (Int32 × zXS)) (K' : Int32 → Int32 → Int32 → Bool → Int32 → Int32 → Bool → Option (Int32 × Int32 × Bool × Int32 × Int32 × Bool)) : ∀ (fu i : Nat) (v : Int32) (rd : zRD) (o1 : Int32) (o2 : Bool) (o3 o4 : Int32) (o5 : Bool), i ≤ 5 → 5 - i < fu → ∃ b rd' u1 u2 u3 u4 u5, lp_X9_kindsThatHear_5 a ft lt K fu v (nI i) rd = K b (nI 5) rd' ∧ lp_X10_kindsBy_5 a ft m4 m5 m8 K' fu v (nI i) o1 o2 o3 o4 o5 = K' b (nI 5) u1 u2 u3 u4 u5 := by
  intro fu
  induction fu with
  | zero => intro i v rd o1 o2 o3 o4 o5 _ hh; omega
  | succ fu ih =>
    intro i v rd o1 o2 o3 o4 o5 hi hf
    rw [lp_X9_kindsThatHear_5, lp_X10_kindsBy_5]
    have h5 : ((5 : Int32) ≤ nI i) ↔ 5 ≤ i := nI_leI (a := 5) (b := i) (by omega) (by omega)
    by_cases hc : 5 ≤ i
    · rw [if_pos (h5.mpr hc), if_pos (h5.mpr hc)]
      have e : i = 5 := by omega
      subst e
      exact ⟨v, rd, o1, o2, o3, o4, o5, rfl, rfl⟩
    · rw [if_neg (fun z => hc (h5.mp z)), if_neg (fun z => hc (h5.mp z)), HL_read hL (nI i) ft, HL_mread hL (nI i) (isk_nI (by omega)) ft]
      simp only [Option.bind_some]
      rw [nI_1]
      by_cases hq : (rdL (nI i) m8 n sn ft).2.2.2.1 = a
      · rw [if_pos hq, if_pos hq]
        exact ih (i + 1) _ _ _ _ _ _ _ (by omega) (by omega)
      · rw [if_neg hq, if_neg hq, or0]
        exact ih (i + 1) _ _ _ _ _ _ _ (by omega) (by omega)
