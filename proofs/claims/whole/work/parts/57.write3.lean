theorem can_abs : ∀ i, i < 21 → ∀ j, j < 21 → (if 0 ≤ ((if 0 ≤ iv j then iv j else 0 - iv j) - (if 0 ≤ iv i then iv i else 0 - iv i)) then ((if 0 ≤ iv j then iv j else 0 - iv j) - (if 0 ≤ iv i then iv i else 0 - iv i)) else 0 - ((if 0 ≤ iv j then iv j else 0 - iv j) - (if 0 ≤ iv i then iv i else 0 - iv i))) = nI ((aN j - aN i) + (aN i - aN j)) := by decide +kernel
theorem X_can (d : Nat → Int32) (n p it iq : Nat) (sn : Int32) (rd : zRD) (ft : Nat → zRD) (k e : Int32) (hp : p ≤ n) (hn : n ≤ 5) (h1 : it ≤ 20) (h2 : iq ≤ 20) : f_X8_canReachTop ((d, nI n, sn), rd, ft, k, e, iv it) (iv iq) (nI p) = some (!decide (n - p < (aN it - aN iq) + (aN iq - aN it))) := by
  have hb : (aN it - aN iq) + (aN iq - aN it) < 2 ^ 31 := by unfold aN; omega
  unfold f_X8_canReachTop
  dsimp only
  rw [can_abs iq (by omega) it (by omega), pk_sub (by omega)]
  by_cases h : n - p < (aN it - aN iq) + (aN iq - aN it)
  · rw [if_pos ((nI_ltI (by omega) hb).mpr h)]; simp [h]
  · rw [if_neg (by rw [nI_ltI (by omega) hb]; exact h)]; simp [h]
theorem X_fits1 (d : Nat → Int32) (n : Nat) (sn : Int32) (k e : Int32) (hn : n ≤ 5) (hw : ∀ j, j < n → isw (d j)) (b : Bool) : ∃ q, f_X6_hearSome (k, 0, false, 0, 0, false) (d, nI n, sn) (nI n) b = some (k, q) ∧ q = rdn k (gw d n b) n 0 q0 := ⟨_, X_hearSome d n n sn b k q0 (by omega) (by omega) hw, rfl⟩
theorem X_fits (d : Nat → Int32) (n : Nat) (sn : Int32) (rd : zRD) (ft : Nat → zRD) (k e t : Int32) (hn : n ≤ 5) (hw : ∀ j, j < n → isw (d j)) (hf : ft n = (k, rdn k d n 0 q0)) (hs : (rdn k d n 0 q0).2.2.2.2 = false) : ∃ rd', f_X8_fits ((d, nI n, sn), rd, ft, k, e, t) = some (gdf k e t n d, ((d, nI n, sn), rd', ft, k, e, t)) := by
  have hT := X_fits1 d n sn k e hn hw true
  have hF := X_fits1 d n sn k e hn hw false
  have hv : (ft n).2.1 = (rdn k d n 0 q0).1 := by rw [hf]
  have main : ∃ rd', (if (ft n).2.1 = t then (f_X6_begin k).bind fun u6 => (if k = 2 then (f_X6_hearSome u6 (d, nI n, sn) (nI n) true).bind fun u11 => (if (bI u11.2.2.2.2.2) = 0 then (if u11.2.1 = e then some (true, ((d, nI n, sn), u11, ft, k, e, t)) else some (false, ((d, nI n, sn), u11, ft, k, e, t))) else some (false, ((d, nI n, sn), u11, ft, k, e, t))) else (f_X6_hearSome u6 (d, nI n, sn) (nI n) false).bind fun u8 => (if (bI u8.2.2.2.2.2) = 0 then (if u8.2.1 = e then some (true, ((d, nI n, sn), u8, ft, k, e, t)) else some (false, ((d, nI n, sn), u8, ft, k, e, t))) else some (false, ((d, nI n, sn), u8, ft, k, e, t)))) else some (false, ((d, nI n, sn), rd, ft, k, e, t))) = (some (gdf k e t n d, ((d, nI n, sn), rd', ft, k, e, t)) : Option (Bool × zWR)) := by
    rw [hv]
    unfold gdf
    by_cases h4 : (rdn k d n 0 q0).1 = t
    · rw [if_pos h4]
      unfold f_X6_begin
      rw [Option.bind_some]
      by_cases hk : k = 2
      · rw [if_pos hk]
        obtain ⟨q, e1, e2⟩ := hT
        rw [e1, Option.bind_some, hs, h4]
        simp only [bI_0, hk, decide_true]
        rw [hk] at e2
        rw [← e2]
        refine ⟨(2, q), ?_⟩
        by_cases h1 : q.2.2.2.2 = false
        · by_cases h2 : q.1 = e <;> simp [h1, h2]
        · simp [h1]
      · rw [if_neg hk]
        obtain ⟨q, e1, e2⟩ := hF
        rw [e1, Option.bind_some, hs, h4]
        simp only [bI_0, hk, decide_false]
        rw [← e2]
        refine ⟨(k, q), ?_⟩
        by_cases h1 : q.2.2.2.2 = false
        · by_cases h2 : q.1 = e <;> simp [h1, h2]
        · simp [h1]
    · rw [if_neg h4]
      exact ⟨rd, by simp [h4]⟩
  obtain ⟨rd', em⟩ := main
  refine ⟨rd', ?_⟩
  rw [← em]
  unfold f_X8_fits
  dsimp only
  rw [if_neg (nI_pos (by omega)), if_pos (show nI n < Int32.ofNat 6 from (nI_ltI (b := 6) (by omega) (by omega)).mpr (by omega)), if_neg (gok (by omega) (by omega))]
  have h5 : n = 0 ∨ n = 1 ∨ n = 2 ∨ n = 3 ∨ n = 4 ∨ n = 5 := by omega
  clear em hv hT hF hf hs
  rcases h5 with rfl | rfl | rfl | rfl | rfl | rfl
  · rw [if_pos (by decide)]
  · rw [if_neg (by decide), if_pos (by decide)]
  · rw [if_neg (by decide), if_neg (by decide), if_pos (by decide)]
  · rw [if_neg (by decide), if_neg (by decide), if_neg (by decide), if_pos (by decide)]
  · rw [if_neg (by decide), if_neg (by decide), if_neg (by decide), if_neg (by decide), if_pos (by decide)]
  · rw [if_neg (by decide), if_neg (by decide), if_neg (by decide), if_neg (by decide), if_neg (by decide), if_pos (by decide)]
/-- what filling from place p comes to -/
def FillOk (k e t : Int32) (n p c : Nat) (sn : Int32) (d : Nat → Int32) (ft : Nat → zRD) (x : Option (Bool × zWR)) : Prop :=
  ∃ rd' ft' d', x = some ((fstc (gd k e t n) (6 ^ (n - p)) (c * 6 ^ (n - p))).isSome, ((d', nI n, sn), rd', ft', k, e, t)) ∧ (∀ j, j ≤ p → ft' j = ft j) ∧ (∀ j, j < n → isw (d' j)) ∧ (∀ j, j < p → d' j = d j) ∧ ∀ c', fstc (gd k e t n) (6 ^ (n - p)) (c * 6 ^ (n - p)) = some c' → ∀ j, j < n → d' j = dig n c' j
theorem X_fitsOk (k e t : Int32) (n c : Nat) (sn : Int32) (d : Nat → Int32) (rd : zRD) (ft : Nat → zRD) (hn : n ≤ 5) (hw : ∀ j, j < n → isw (d j)) (hd : ∀ j, j < n → d j = dig n c j) (hf : ft n = (k, rdn k d n 0 q0)) (hs : (rdn k d n 0 q0).2.2.2.2 = false) : FillOk k e t n n c sn d ft ((f_X8_fits ((d, nI n, sn), rd, ft, k, e, t)).bind fun u => some u) := by
  obtain ⟨rd', ef⟩ := X_fits d n sn rd ft k e t hn hw hf hs
  rw [ef, Option.bind_some]
  have eg : gdf k e t n d = gd k e t n c := gdf_congr k e t n d (dig n c) hd
  refine ⟨rd', ft, d, ?_, fun _ _ => rfl, hw, fun _ _ => rfl, ?_⟩
  · rw [eg, Nat.sub_self, Nat.pow_zero, Nat.mul_one]
    simp only [fstc]
    cases gd k e t n c <;> rfl
  · intro c' h j hj
    rw [Nat.sub_self, Nat.pow_zero, Nat.mul_one] at h
    simp only [fstc] at h
    by_cases hg : gd k e t n c = true
    · rw [if_pos hg] at h
      rw [hd j hj]
      cases h
      rfl
    · rw [if_neg hg] at h
      cases h
theorem dig_cat (p c w j : Nat) (hw : w < 6) (hj : j < p) : dig (p + 1) (c * 6 + w) j = dig p c j := by
  unfold dig pc6
  rw [show p + 1 - (j + 1) = (p - (j + 1)) + 1 by omega, Nat.pow_succ, Nat.mul_comm (6 ^ _) 6, ← Nat.div_div_eq_div_mul, show (c * 6 + w) / 6 = c by omega]
theorem dig_last (p c w : Nat) (hw : w < 6) : dig (p + 1) (c * 6 + w) p = nI w := by
  unfold dig pc6
  rw [Nat.sub_self, Nat.pow_zero, Nat.div_one, show (c * 6 + w) % 6 = w by omega]
theorem rdn_snoc (k : Int32) (g : Nat → Int32) (p : Nat) (q : zQ) (hs : (rdn k g p 0 q).2.2.2.2 = false) : rdn k g (p + 1) 0 q = stp k (g p) (rdn k g p 0 q) := by
  rw [rdn_split, Nat.zero_add]
  simp [rdn, hs]
theorem X_fillF5 (k e t : Int32) (n c : Nat) (sn : Int32) (d : Nat → Int32) (rd : zRD) (ft : Nat → zRD) (hn : n ≤ 5) (hp : 5 ≤ n) (hw : ∀ j, j < n → isw (d j)) (hd : ∀ j, j < 5 → d j = dig 5 c j) (hf : ft 5 = (k, rdn k d 5 0 q0)) (hs : (rdn k d 5 0 q0).2.2.2.2 = false) (_ht : ∃ it, it ≤ 20 ∧ t = iv it) : FillOk k e t n 5 c sn d ft (f_X8_fillFrom_5 ((d, nI n, sn), rd, ft, k, e, t)) := by
  have e5 : n = 5 := by omega
  subst e5
  unfold f_X8_fillFrom_5
  dsimp only
  rw [if_neg (by decide)]
  exact X_fitsOk k e t 5 c sn d rd ft hn hw hd hf hs
