/-! REST: codes one by one, and ways by VALUE and TURNED, count alike -/
def tN (F : Nat → Nat) : Nat → Nat → Nat
  | 0, _ => 0
  | m + 1, i => F i + tN F m (i + 1)
theorem tN_congr {F G : Nat → Nat} : ∀ (m i : Nat), (∀ j, i ≤ j → j < i + m → F j = G j) → tN F m i = tN G m i := by
  intro m
  induction m with
  | zero => intro i _; rfl
  | succ m ih => intro i h; simp only [tN]; rw [h i (by omega) (by omega), ih (i + 1) (fun j h1 h2 => h j (by omega) (by omega))]
theorem tN_split (F : Nat → Nat) : ∀ (a b i : Nat), tN F (a + b) i = tN F a i + tN F b (i + a) := by
  intro a
  induction a with
  | zero => intro b i; simp [tN]
  | succ a ih => intro b i; rw [show a + 1 + b = (a + b) + 1 by omega]; simp only [tN]; rw [ih, show i + 1 + a = i + (a + 1) by omega]; omega
theorem tN_add (F G : Nat → Nat) : ∀ (m i : Nat), tN (fun j => F j + G j) m i = tN F m i + tN G m i := by
  intro m
  induction m with
  | zero => intro i; rfl
  | succ m ih => intro i; simp only [tN]; rw [ih]; omega
theorem tN_mul (F : Nat → Nat) (k : Nat) : ∀ (m i : Nat), tN (fun j => k * F j) m i = k * tN F m i := by
  intro m
  induction m with
  | zero => intro i; rfl
  | succ m ih => intro i; simp only [tN]; rw [ih, Nat.mul_add]
theorem tN_zero : ∀ (m i : Nat), tN (fun _ => 0) m i = 0 := by
  intro m
  induction m with
  | zero => intro i; rfl
  | succ m ih => intro i; simp only [tN]; rw [ih]
theorem tN_swap (F : Nat → Nat → Nat) : ∀ (m i n k : Nat), tN (fun a => tN (fun b => F a b) n k) m i = tN (fun b => tN (fun a => F a b) m i) n k := by
  intro m
  induction m with
  | zero => intro i n k; simp only [tN]; exact (tN_zero n k).symm
  | succ m ih => intro i n k; simp only [tN]; rw [ih, ← tN_add]
theorem tN_one (x : Nat) (ψ : Nat → Nat) : ∀ (m i : Nat), i ≤ x → x < i + m → tN (fun j => (if x = j then 1 else 0) * ψ j) m i = ψ x := by
  intro m
  induction m with
  | zero => intro i _ _; omega
  | succ m ih =>
    intro i h1 h2
    simp only [tN]
    by_cases h : x = i
    · subst h
      have : tN (fun j => (if x = j then 1 else 0) * ψ j) m (x + 1) = tN (fun _ => 0) m (x + 1) := tN_congr m (x + 1) (fun j h1 h2 => by rw [if_neg (by omega)]; omega)
      rw [this, tN_zero]; simp
    · rw [if_neg h, ih (i + 1) (by omega) (by omega)]; omega
theorem tN_six (G : Nat → Nat) : ∀ (m i : Nat), tN G (6 * m) (6 * i) = tN (fun c => tN (fun w => G (6 * c + w)) 6 0) m i := by
  intro m
  induction m with
  | zero => intro i; rfl
  | succ m ih =>
    intro i
    rw [show 6 * (m + 1) = 6 + 6 * m by omega, tN_split, show 6 * i + 6 = 6 * (i + 1) by omega, ih]
    simp [tN, Nat.add_assoc]
/-- the states by their numbers: 2 (VALUE and 5), TURNED 1 more -/
def nxN (i w : Nat) : Nat := if w = 0 then (if i % 2 = 0 then i + 2 else i - 3) else if w = 1 then (if i % 2 = 0 then i - 2 else i + 1) else if w = 2 then (if i % 2 = 0 then i + 1 else i - 1) else if w = 3 then 20 - 2 * (i / 2) + i % 2 else if w = 4 then i + 2 else i
def rI : Nat → Nat → Nat
  | 0, _ => 10
  | m + 1, c => nxN (rI m (c / 6)) (c % 6)
theorem nxN_in {i w j : Nat} (hj : j ≤ 4) (h1 : 10 - 2 * j ≤ i) (h2 : i ≤ 11 + 2 * j) : 8 - 2 * j ≤ nxN i w ∧ nxN i w ≤ 13 + 2 * j := by
  unfold nxN
  repeat' split
  all_goals omega
theorem rI_in : ∀ (j c : Nat), j ≤ 5 → 10 - 2 * j ≤ rI j c ∧ rI j c ≤ 11 + 2 * j := by
  intro j
  induction j with
  | zero => intro c _; simp [rI]
  | succ j ih =>
    intro c hj
    obtain ⟨h1, h2⟩ := ih (c / 6) (by omega)
    have := nxN_in (w := c % 6) (show j ≤ 4 by omega) h1 h2
    simp only [rI]
    omega
def cn (i j : Nat) : Nat := tN (fun w => if nxN i w = j then 1 else 0) 6 0
def Wn : Nat → Nat → Nat
  | 0, i => if i = 10 then 1 else 0
  | k + 1, j => tN (fun i => Wn k i * cn i j) 22 0
theorem cn_sum (i : Nat) (ψ : Nat → Nat) (h : ∀ w, w < 6 → nxN i w < 22) : tN (fun j => cn i j * ψ j) 22 0 = tN (fun w => ψ (nxN i w)) 6 0 := by
  have e1 : tN (fun j => cn i j * ψ j) 22 0 = tN (fun j => tN (fun w => (if nxN i w = j then 1 else 0) * ψ j) 6 0) 22 0 := by
    refine tN_congr 22 0 (fun j _ _ => ?_)
    simp only [cn, tN]
    simp only [Nat.add_mul, Nat.zero_mul, Nat.add_zero]
  rw [e1, tN_swap]
  exact tN_congr 6 0 (fun w _ hw => tN_one (nxN i w) ψ 22 0 (by omega) (by have := h w (by omega); omega))
theorem Wn_out : ∀ (k i : Nat), k ≤ 5 → (i < 10 - 2 * k ∨ 11 + 2 * k < i) → Wn k i = 0 := by
  intro k
  induction k with
  | zero => intro i _ h; simp only [Wn]; rw [if_neg (by omega)]
  | succ k ih =>
    intro j hk h
    simp only [Wn]
    have : tN (fun i => Wn k i * cn i j) 22 0 = tN (fun _ => 0) 22 0 := by
      refine tN_congr 22 0 (fun i _ _ => ?_)
      by_cases hi : i < 10 - 2 * k ∨ 11 + 2 * k < i
      · rw [ih i (by omega) hi, Nat.zero_mul]
      · have hc : cn i j = 0 := by
          have : cn i j = tN (fun _ => 0) 6 0 := by
            refine tN_congr 6 0 (fun w _ _ => ?_)
            have := nxN_in (w := w) (show k ≤ 4 by omega) (show 10 - 2 * k ≤ i by omega) (show i ≤ 11 + 2 * k by omega)
            rw [if_neg (by omega)]
          rw [this, tN_zero]
        rw [hc, Nat.mul_zero]
    rw [this, tN_zero]
theorem codes_ways : ∀ (k : Nat) (ψ : Nat → Nat), k ≤ 5 → tN (fun c => ψ (rI k c)) (6 ^ k) 0 = tN (fun i => Wn k i * ψ i) 22 0 := by
  intro k
  induction k with
  | zero =>
    intro ψ _
    have : tN (fun i => Wn 0 i * ψ i) 22 0 = tN (fun i => (if 10 = i then 1 else 0) * ψ i) 22 0 := tN_congr 22 0 (fun i _ _ => by simp only [Wn]; by_cases h : i = 10 <;> simp [h, eq_comm])
    rw [this, tN_one 10 ψ 22 0 (by omega) (by omega)]
    simp [tN, rI]
  | succ k ih =>
    intro ψ hk
    have e1 : tN (fun c => ψ (rI (k + 1) c)) (6 ^ (k + 1)) 0 = tN (fun c => tN (fun w => ψ (nxN (rI k c) w)) 6 0) (6 ^ k) 0 := by
      rw [show 6 ^ (k + 1) = 6 * 6 ^ k by rw [Nat.pow_succ, Nat.mul_comm]]
      rw [show (0 : Nat) = 6 * 0 by rfl, tN_six]
      refine tN_congr _ _ (fun c _ _ => tN_congr 6 0 (fun w _ hw => ?_))
      simp only [rI]
      rw [show (6 * c + w) / 6 = c by omega, show (6 * c + w) % 6 = w by omega]
    rw [e1, ih (fun i => tN (fun w => ψ (nxN i w)) 6 0) (by omega)]
    simp only [Wn]
    have e2 : tN (fun j => tN (fun i => Wn k i * cn i j) 22 0 * ψ j) 22 0 = tN (fun j => tN (fun i => Wn k i * (cn i j * ψ j)) 22 0) 22 0 := by
      refine tN_congr 22 0 (fun j _ _ => ?_)
      rw [Nat.mul_comm, ← tN_mul]
      exact tN_congr 22 0 (fun i _ _ => by rw [Nat.mul_comm (ψ j), Nat.mul_assoc])
    rw [e2, tN_swap]
    refine tN_congr 22 0 (fun i _ _ => ?_)
    rw [tN_mul]
    by_cases hi : i < 10 - 2 * k ∨ 11 + 2 * k < i
    · rw [Wn_out k i (by omega) hi, Nat.zero_mul, Nat.zero_mul]
    · rw [cn_sum i ψ (fun w _ => by have := nxN_in (w := w) (show k ≤ 4 by omega) (show 10 - 2 * k ≤ i by omega) (show i ≤ 11 + 2 * k by omega); omega)]
/-- the state that a number means -/
def sV (i : Nat) : Int32 := nI (i / 2) - 5
def sT (i : Nat) : Bool := decide (i % 2 = 1)
theorem s_step : ∀ i, i < 20 → 2 ≤ i → ∀ w, w < 6 → zv (nI w) (sV i) (sT i) = sV (nxN i w) ∧ zt (nI w) (sT i) = sT (nxN i w) := by decide +kernel
theorem s_num : ∀ i, i < 22 → (if sT i = false then (2 * (sV i + 5)) + 0 else (2 * (sV i + 5)) + 1) = nI i := by decide +kernel
theorem s_beg : ∀ i, i < 22 → (nI i / 2 - 5 = sV i) ∧ ((nI i - nI i / 2 * 2 = 1) ↔ sT i = true) := by decide +kernel
