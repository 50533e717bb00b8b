theorem bI_t : bI true = 1 := rfl
theorem bI_f : bI false = 0 := rfl
theorem bI_0 (b : Bool) : (bI b = 0) = (b = false) := by cases b <;> simp (decide := true) [bI]
theorem nI_lit9 : (Int32.ofNat 9) = nI 9 := rfl
theorem nI_sub1 {n : Nat} (h : 0 < n) : nI n - 1 = nI (n - 1) := by
  obtain ⟨m, rfl⟩ : ∃ m, n = m + 1 := ⟨n - 1, by omega⟩
  exact nI_pred m
theorem X_has (f : Nat → Int32) (n i : Nat) (sn : Int32) (hn : n ≤ 9) (hi : i < 2 ^ 31) : f_X3_has (f, nI n, sn) (nI i) = some (decide (i < n)) := by
  unfold f_X3_has
  rw [if_neg (nI_pos hi)]
  by_cases h : i < n
  · rw [if_neg (by rw [nI_leI (by omega) hi]; omega), if_neg (by rw [nI_lit9, nI_leI (by omega) hi]; omega)]
    simp [h]
  · rw [if_pos (by rw [nI_leI (by omega) hi]; omega)]
    simp [h]
theorem X_wordAt (f : Nat → Int32) (n i : Nat) (sn : Int32) (hn : n ≤ 9) (hi : i < n) : f_X3_wordAt (f, nI n, sn) (nI i) = some (f i) := by
  unfold f_X3_wordAt
  rw [if_neg (nI_pos (by omega)), if_neg (by rw [nI_leI (by omega) (by omega)]; omega), if_neg (by rw [nI_lit9, nI_leI (by omega) (by omega)]; omega), if_neg (by rw [nI_clamp (by omega)]; rintro (h | h); exact nI_pos (by omega) h; omega), nI_clamp (by omega)]
/-- the word that is read as the i-th -/
def gw (f : Nat → Int32) (n : Nat) (ft : Bool) (i : Nat) : Int32 := if ft then f i else f (n - 1 - i)
def rdn (k : Int32) (g : Nat → Int32) : Nat → Nat → zQ → zQ
  | 0, _, q => q
  | n + 1, i, q => if q.2.2.2.2 = true then q else rdn k g n (i + 1) (stp k (g i) q)
theorem rdn_shut (k : Int32) (g : Nat → Int32) (n i : Nat) (q : zQ) (h : q.2.2.2.2 = true) : rdn k g n i q = q := by
  cases n with
  | zero => rfl
  | succ n => simp [rdn, h]
theorem rdn_congr (k : Int32) (g g' : Nat → Int32) : ∀ (n i : Nat) (q : zQ), (∀ j, i ≤ j → j < i + n → g j = g' j) → rdn k g n i q = rdn k g' n i q := by
  intro n
  induction n with
  | zero => intro i q _; rfl
  | succ n ih =>
    intro i q h
    simp only [rdn]
    rw [h i (by omega) (by omega), ih (i + 1) _ (fun j h1 h2 => h j (by omega) (by omega))]
theorem gw_isw (f : Nat → Int32) (n : Nat) (ft : Bool) (hw : ∀ j, j < n → isw (f j)) (i : Nat) (hi : i < n) : isw (gw f n ft i) := by
  unfold gw
  split
  · exact hw i hi
  · exact hw _ (by omega)
theorem X_loop (f : Nat → Int32) (n : Nat) (sn : Int32) (ft : Bool) (k : Int32) (hn : n ≤ 9) (c : Nat) (hc : c ≤ n) (hw : ∀ j, j < n → isw (f j)) : ∀ (fu i : Nat) (q : zQ), i ≤ c → c - i < fu →
    lp_X6_hearSome_3 (nI c) ft f (nI n) sn (fun _ a0 a1 a2 a3 a4 a5 => some (a0, a1, a2, a3, a4, a5)) fu (nI i) k q.1 q.2.1 q.2.2.1 q.2.2.2.1 q.2.2.2.2 = some (k, rdn k (gw f n ft) (c - i) i q) := by
  intro fu
  induction fu with
  | zero => intro i q _ h; omega
  | succ fu ih =>
    intro i q hi hf
    rw [lp_X6_hearSome_3]
    by_cases hci : c ≤ i
    · rw [if_pos ((nI_leI (by omega) (by omega)).mpr hci), show c - i = 0 by omega]
      rfl
    · rw [if_neg (by rw [nI_leI (by omega) (by omega)]; exact hci)]
      by_cases hs : q.2.2.2.2 = true
      · rw [if_neg (by rw [bI_0, hs]; decide), rdn_shut _ _ _ _ _ hs]
      · rw [if_pos (by rw [bI_0]; simpa using hs)]
        have e1 : c - i = (c - (i + 1)) + 1 := by omega
        have key : ∀ w, w = gw f n ft i → (f_X6_hear (k, q.1, q.2.1, q.2.2.1, q.2.2.2.1, q.2.2.2.2) w).bind (fun u5 => lp_X6_hearSome_3 (nI c) ft f (nI n) sn (fun _ a0 a1 a2 a3 a4 a5 => some (a0, a1, a2, a3, a4, a5)) fu (nI i + 1) u5.1 u5.2.1 u5.2.2.1 u5.2.2.2.1 u5.2.2.2.2.1 u5.2.2.2.2.2) = some (k, rdn k (gw f n ft) (c - i) i q) := by
          intro w e
          subst e
          rw [show (k, q.1, q.2.1, q.2.2.1, q.2.2.2.1, q.2.2.2.2) = (k, q) from rfl, X_hear k _ q (gw_isw f n ft hw i (by omega))]
          simp only [Option.bind_some]
          rw [nI_1, ih (i + 1) (stp k (gw f n ft i) q) (by omega) (by omega), e1]
          simp [rdn, hs]
        by_cases hft : ft = true
        · subst hft
          rw [if_neg (by decide), X_wordAt f n i sn hn (by omega)]
          exact key _ rfl
        · have hft : ft = false := by simpa using hft
          subst hft
          rw [if_pos (by decide), nI_sub1 (by omega), pk_sub (by omega), X_wordAt f n _ sn hn (by omega)]
          exact key _ rfl
def q0 : zQ := (0, false, 0, 0, false)
theorem FU_lt {n : Nat} (h : n < 10000) : n < FU := h
theorem X_hearSome (f : Nat → Int32) (n c : Nat) (sn : Int32) (ft : Bool) (k : Int32) (q : zQ) (hn : n ≤ 9) (hc : c ≤ n) (hw : ∀ j, j < n → isw (f j)) : f_X6_hearSome (k, q) (f, nI n, sn) (nI c) ft = some (k, rdn k (gw f n ft) c 0 q) := by
  have h := X_loop f n sn ft k hn c hc hw FU 0 q (by omega) (FU_lt (by omega))
  rw [Nat.sub_zero] at h
  exact h
/-- what one of kind k has heard of a letter -/
def rdL (k : Int32) (f : Nat → Int32) (n sn : Nat) (ft : Bool) : zQ := rdn k (gw f n (ft || decide (k = 2))) (if k = 2 then n else min n sn) 0 q0
theorem rdL_congr (k : Int32) (f g : Nat → Int32) (n sn : Nat) (ft : Bool) (h : ∀ j, j < n → f j = g j) : rdL k f n sn ft = rdL k g n sn ft := by
  unfold rdL
  refine rdn_congr k _ _ _ _ _ (fun j h1 h2 => ?_)
  have hj : j < n := by
    split at h2 <;> omega
  unfold gw
  split
  · exact h j hj
  · exact h _ (by omega)
theorem nI_min (n sn : Nat) (hn : n < 2 ^ 31) (hs : sn < 2 ^ 31) : (if nI sn < nI n then nI sn else nI n) = nI (min n sn) := by
  by_cases h : sn < n
  · rw [if_pos ((nI_ltI hs hn).mpr h), Nat.min_eq_right (by omega)]
  · rw [if_neg (by rw [nI_ltI hs hn]; exact h), Nat.min_eq_left (by omega)]
theorem X_readTo (k : Int32) (f : Nat → Int32) (n sn : Nat) (ft : Bool) (hn : n ≤ 9) (hs : sn ≤ 9) (hw : ∀ j, j < n → isw (f j)) : f_X6_readTo k (f, nI n, nI sn) ft = some (k, rdL k f n sn ft) := by
  unfold f_X6_readTo f_X6_begin
  simp only [Option.bind_some]
  rw [show ((k, 0, false, 0, 0, false) : zRD) = (k, q0) from rfl]
  by_cases h : k = 2
  · rw [if_pos h, X_hearSome f n n (nI sn) true k q0 hn (by omega) hw]
    simp [rdL, h]
  · rw [if_neg h, nI_min n sn (by omega) (by omega), X_hearSome f n _ (nI sn) ft k q0 hn (Nat.min_le_left _ _) hw]
    simp [rdL, h]
def Inv3 (k : Int32) (q : zQ) : Prop := k = 3 → q.2.2.2.2 = false → q.2.2.1 = 0 ∨ q.2.2.1 = 1
theorem Inv3_stp (k w : Int32) (q : zQ) (h : Inv3 k q) (hs : ¬ q.2.2.2.2 = true) : Inv3 k (stp k w q) := by
  intro hk h1
  subst hk
  have h0 := h rfl (by simpa using hs)
  simp only [stp, zs] at h1 ⊢
  unfold zp at h1 ⊢
  by_cases h5 : w = 5
  · rcases h0 with h0 | h0
    · rw [if_pos h5, h0]; right; decide
    · rw [if_pos h5, h0] at h1
      revert h1
      simp (decide := true)
  · rw [if_neg h5]; exact h0
theorem Inv3_3 (k w : Int32) (q : zQ) (h : Inv3 k q) (hs : ¬ q.2.2.2.2 = true) : k = 3 → (w = 5 ∧ zp w q.2.2.1 = 2 ↔ ¬ zp w q.2.2.1 < 2) := by
  intro hk
  have h0 := h hk (by simpa using hs)
  unfold zp
  by_cases h5 : w = 5 <;> rcases h0 with h0 | h0 <;> simp (decide := true) [h5, h0]
theorem M_loop (f : Nat → Int32) (n N : Nat) (ft : Bool) (k : Int32) (hk : isk k) (hn : n ≤ N) (hN : N ≤ 10) (c : Nat) (hc : c ≤ n) (hw : ∀ j, j < n → isw (f j)) : ∀ (fu i : Nat) (q : zQ), i ≤ c → c - i < fu → Inv3 k q →
    lp_X10_read_43 (nI n) k (bI ft) (nI c) f N (fun _ a1 a2 a3 a4 a5 => some (a1, a2, a3, a4, a5)) fu (nI i) q.1 q.2.1 q.2.2.1 q.2.2.2.1 q.2.2.2.2 = some (rdn k (gw f n ft) (c - i) i q) := by
  intro fu
  induction fu with
  | zero => intro i q _ h; omega
  | succ fu ih =>
    intro i q hi hf hI
    rw [lp_X10_read_43]
    by_cases hci : c ≤ i
    · rw [if_pos ((nI_leI (by omega) (by omega)).mpr hci), show c - i = 0 by omega]
      rfl
    · rw [if_neg (by rw [nI_leI (by omega) (by omega)]; exact hci)]
      by_cases hs : q.2.2.2.2 = true
      · rw [if_neg (by rw [bI_0, hs]; decide), rdn_shut _ _ _ _ _ hs]
      · rw [if_pos (by rw [bI_0]; simpa using hs)]
        have e1 : c - i = (c - (i + 1)) + 1 := by omega
        have key : ∀ w, w = gw f n ft i → (f_X10_readWord q.1 q.2.1 q.2.2.1 q.2.2.2.1 w).bind (fun u8 => (f_X10_shutsAt u8.1 u8.2.2.1 k w).bind fun u9 => lp_X10_read_43 (nI n) k (bI ft) (nI c) f N (fun _ a1 a2 a3 a4 a5 => some (a1, a2, a3, a4, a5)) fu (nI i + 1) u8.1 u8.2.1 u8.2.2.1 u8.2.2.2 u9) = some (rdn k (gw f n ft) (c - i) i q) := by
          intro w e
          have hww : isw w := by rw [e]; exact gw_isw f n ft hw i (by omega)
          rw [M_word _ _ _ _ _ hww]
          simp only [Option.bind_some]
          rw [M_shuts k w _ _ hk (Inv3_3 k w q hI hs)]
          simp only [Option.bind_some]
          rw [nI_1]
          have := ih (i + 1) (stp k w q) (by omega) (by omega) (Inv3_stp k w q hI hs)
          simp only [stp] at this
          rw [this, e1]
          simp [rdn, hs, stp, e]
        by_cases hft : ft = true
        · subst hft
          rw [if_neg (by decide), if_neg (by rw [nI_clamp (by omega)]; rintro (h | h); exact nI_pos (by omega) h; omega), nI_clamp (by omega)]
          exact key _ rfl
        · have hft : ft = false := by simpa using hft
          subst hft
          rw [if_pos (by decide), nI_sub1 (by omega), pk_sub (by omega), if_neg (by rw [nI_clamp (by omega)]; rintro (h | h); exact nI_pos (by omega) h; omega), nI_clamp (by omega)]
          exact key _ rfl
theorem Inv3_q0 (k : Int32) : Inv3 k q0 := fun _ _ => Or.inl rfl
theorem M_read (N n sn : Nat) (f : Nat → Int32) (k : Int32) (ft : Bool) (hk : isk k) (hn : n ≤ N) (hN : N ≤ 10) (hs : sn ≤ 10) (hw : ∀ j, j < n → isw (f j)) : f_X10_read N f (nI n) k ft (nI sn) = some (rdL k f n sn ft) := by
  have L := fun (fb : Bool) (c : Nat) (hc : c ≤ n) => M_loop f n N fb k hk hn hN c hc hw FU 0 q0 (by omega) (FU_lt (by omega)) (Inv3_q0 k)
  simp only [Nat.sub_zero] at L
  have L1 := L true
  have L0 := L false
  rw [bI_t] at L1
  rw [bI_f] at L0
  unfold f_X10_read f_X10_begin
  simp only [Option.bind_some]
  have hle : (nI sn ≤ nI n) ↔ sn ≤ n := nI_leI (by omega) (by omega)
  by_cases h : k = 2
  · simp only [h, if_true] at L1 ⊢
    have := L1 n (by omega)
    cases ft
    · simp only [bI_f, if_true]
      simp [rdL]
      exact this
    · simp (decide := true) only [bI_t, if_false]
      simp [rdL]
      exact this
  · by_cases hm : sn ≤ n
    · have e : min n sn = sn := Nat.min_eq_right hm
      cases ft
      · simp only [bI_f, if_true, if_neg h, if_pos (hle.mpr hm)]
        simp [rdL, h, e]
        exact L0 sn hm
      · simp (decide := true) only [bI_t, if_false, if_neg h, if_pos (hle.mpr hm)]
        simp [rdL, h, e]
        exact L1 sn hm
    · have e : min n sn = n := Nat.min_eq_left (by omega)
      cases ft
      · simp only [bI_f, if_true, if_neg h, if_neg (fun z => hm (hle.mp z))]
        simp [rdL, h, e]
        exact L0 n (by omega)
      · simp (decide := true) only [bI_t, if_false, if_neg h, if_neg (fun z => hm (hle.mp z))]
        simp [rdL, h, e]
        exact L1 n (by omega)
