/-! WRITE: the least code of the least length -/
def fstc (P : Nat → Bool) : Nat → Nat → Option Nat
  | 0, _ => none
  | m + 1, c => if P c = true then some c else fstc P m (c + 1)
theorem fstc_none (P : Nat → Bool) : ∀ (m c : Nat), (∀ j, c ≤ j → j < c + m → P j = false) → fstc P m c = none := by
  intro m
  induction m with
  | zero => intro c _; rfl
  | succ m ih => intro c h; simp only [fstc]; rw [h c (by omega) (by omega), ih (c + 1) (fun j h1 h2 => h j (by omega) (by omega))]; rfl
theorem fstc_split (P : Nat → Bool) : ∀ (a b c : Nat), fstc P (a + b) c = (match fstc P a c with | some x => some x | none => fstc P b (c + a)) := by
  intro a
  induction a with
  | zero => intro b c; simp [fstc]
  | succ a ih =>
    intro b c
    rw [show a + 1 + b = (a + b) + 1 by omega]
    simp only [fstc]
    by_cases h : P c = true
    · simp [h]
    · simp only [h]
      rw [ih, show c + 1 + a = c + (a + 1) by omega]
      rfl
def dig (n c j : Nat) : Int32 := nI (pc6 n c (j + 1) % 6)
theorem dig_isw (n c j : Nat) : isw (dig n c j) := isw_nI (Nat.mod_lt _ (by omega))
/-- the word-row f of n words is heard so -/
def gdf (k e t : Int32) (n : Nat) (f : Nat → Int32) : Bool := !(rdn k (gw f n (decide (k = 2))) n 0 q0).2.2.2.2 && decide ((rdn k (gw f n (decide (k = 2))) n 0 q0).1 = e) && !(rdn k f n 0 q0).2.2.2.2 && decide ((rdn k f n 0 q0).1 = t)
theorem gw_true (f : Nat → Int32) (n : Nat) : gw f n true = f := by funext j; simp [gw]
theorem gw_congr (f g : Nat → Int32) (n : Nat) (b : Bool) (h : ∀ j, j < n → f j = g j) (i : Nat) (hi : i < n) : gw f n b i = gw g n b i := by
  unfold gw
  split
  · exact h i hi
  · exact h _ (by omega)
theorem gdf_congr (k e t : Int32) (n : Nat) (f g : Nat → Int32) (h : ∀ j, j < n → f j = g j) : gdf k e t n f = gdf k e t n g := by
  unfold gdf
  rw [rdn_congr k f g n 0 q0 (fun j _ h2 => h j (by omega)), rdn_congr k _ (gw g n (decide (k = 2))) n 0 q0 (fun j _ h2 => gw_congr f g n _ h j (by omega))]
def gd (k e t : Int32) (n c : Nat) : Bool := gdf k e t n (dig n c)
theorem rdL_all (k : Int32) (f : Nat → Int32) (n : Nat) (ft : Bool) : rdL k f n n ft = rdn k (gw f n (ft || decide (k = 2))) n 0 q0 := by
  unfold rdL
  rw [Nat.min_self]
  simp
theorem M_isAs (row : Nat → Int32) (n : Nat) (k e t : Int32) (hk : isk k) (hn : n ≤ 9) (hw : ∀ j, j < n → isw (row j)) : ∃ o, f_X10_isAs row k (nI n) e t = some (gdf k e t n row, o) := by
  have r1 := M_read 10 n n row k false hk (by omega) (by omega) (by omega) hw
  have r2 := M_read 10 n n row k true hk (by omega) (by omega) (by omega) hw
  rw [rdL_all] at r1 r2
  rw [Bool.true_or, gw_true] at r2
  rw [Bool.false_or] at r1
  unfold f_X10_isAs
  rw [r1, Option.bind_some, r2]
  simp only [Option.bind_some, bI_0]
  refine ⟨rdn k row n 0 q0, ?_⟩
  unfold gdf
  by_cases h1 : (rdn k (gw row n (decide (k = 2))) n 0 q0).2.2.2.2 = false
  · by_cases h2 : (rdn k (gw row n (decide (k = 2))) n 0 q0).1 = e
    · by_cases h3 : (rdn k row n 0 q0).2.2.2.2 = false
      · by_cases h4 : (rdn k row n 0 q0).1 = t <;> simp [h1, h2, h3, h4]
      · simp [h1, h2, h3]
    · simp [h1, h2]
  · simp [h1]
theorem w_idx (a : Int32) (h1 : 10 ≤ a) (h2 : a ≤ 14) : ∃ j, j < 5 ∧ a - 10 = nI j := by
  obtain ⟨j, hj, e⟩ := nI_of (x := a) (Int32.not_lt.mpr (Int32.le_trans (by decide) h1))
  subst e
  have g1 : 10 ≤ j := (nI_leI (a := 10) (b := j) (by omega) hj).mp h1
  have g2 : j ≤ 14 := (nI_leI (a := j) (b := 14) hj (by omega)).mp h2
  refine ⟨j - 10, by omega, ?_⟩
  rw [show (10 : Int32) = nI 10 from rfl, pk_sub (by omega)]
/-- what WRITE says of a row -/
def wsay (n c : Nat) (a : Int32) : Int32 := if a = 0 then nI n else if nI n ≤ a - 10 then -1 else dig n c (Int32.toNatClampNeg (a - 10))
theorem M_w108 (k e t a : Int32) (n : Nat) (hk : isk k) (hn1 : n ≤ 5) (ha : a = 0 ∨ (10 ≤ a ∧ a ≤ 14)) (s16 : Int32) (K : Int32 → Int32 → Bool → Int32 → Int32 → Bool → (Nat → Int32) → Option (Int32 × Int32 × Bool × Int32 × Int32 × Bool × Int32 × (Nat → Int32))) : ∀ (fu c : Nat) (o1 : Int32) (o2 : Bool) (o3 o4 : Int32) (o5 : Bool) (row : Nat → Int32), c ≤ 6 ^ n → 6 ^ n - c < fu → ∃ u1 u2 u3 u4 u5 row', lp_X10_write_108 k e t a (nI (6 ^ n)) (nI n) s16 K fu (nI c) o1 o2 o3 o4 o5 row = (match fstc (gd k e t n) (6 ^ n - c) c with | some c' => some (wsay n c' a, u1, u2, u3, u4, u5, s16, row') | none => K (nI (6 ^ n)) u1 u2 u3 u4 u5 row') := by
  intro fu
  have p6 := pw6 n hn1
  induction fu with
  | zero => intro c o1 o2 o3 o4 o5 row _ hh; omega
  | succ fu ih =>
    intro c o1 o2 o3 o4 o5 row hc hf
    rw [lp_X10_write_108]
    by_cases hcc : 6 ^ n ≤ c
    · have e1 : c = 6 ^ n := by omega
      subst e1
      rw [if_pos ((nI_leI (by omega) (by omega)).mpr hcc), Nat.sub_self]
      exact ⟨o1, o2, o3, o4, o5, row, rfl⟩
    · rw [if_neg (by rw [nI_leI (by omega) (by omega)]; exact hcc)]
      obtain ⟨r1, el, hl⟩ := M_lay row n c (by omega) (by omega)
      rw [el]
      simp only [Option.bind_some]
      have hrw : ∀ j, j < n → isw (r1 j) := fun j hj => by rw [hl j hj]; exact dig_isw n c j
      obtain ⟨o, eo⟩ := M_isAs r1 n k e t hk (by omega) hrw
      rw [eo]
      simp only [Option.bind_some, bI_0]
      have eg : gdf k e t n r1 = gd k e t n c := gdf_congr k e t n r1 (dig n c) (fun j hj => hl j hj)
      rw [eg, show 6 ^ n - c = (6 ^ n - (c + 1)) + 1 by omega]
      simp only [fstc]
      by_cases hg : gd k e t n c = true
      · rw [if_pos hg, if_neg (by rw [hg]; decide)]
        refine ⟨o.1, o.2.1, o.2.2.1, o.2.2.2.1, o.2.2.2.2, r1, ?_⟩
        simp only [wsay]
        rcases ha with ha | ha
        · rw [if_pos ha, if_pos ha]
        · have h0 : ¬ a = 0 := by intro h; rw [h] at ha; exact absurd ha.1 (by decide)
          obtain ⟨j, hj, ej⟩ : ∃ j, j < 5 ∧ a - 10 = nI j := w_idx a ha.1 ha.2
          rw [if_neg h0, if_neg h0, ej]
          by_cases hnj : n ≤ j
          · rw [if_pos ((nI_leI (by omega) (by omega)).mpr hnj), if_pos ((nI_leI (by omega) (by omega)).mpr hnj)]
          · have hne : ¬ nI n ≤ nI j := by rw [nI_leI (by omega) (by omega)]; exact hnj
            rw [if_neg hne, if_neg (gok (by omega) (by omega)), if_neg hne, nI_clamp (by omega), hl j (by omega)]
            rfl
      · rw [if_neg hg, if_pos (by simpa using hg), nI_1]
        exact ih (c + 1) _ _ _ _ _ _ (by omega) (by omega)
