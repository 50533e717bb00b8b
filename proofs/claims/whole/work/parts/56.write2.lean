/-- the least length, and its least code -/
def fndL (k e t : Int32) : Nat → Nat → Option (Nat × Nat)
  | 0, _ => none
  | a + 1, n => match fstc (gd k e t n) (6 ^ n) 0 with
    | some c => some (n, c)
    | none => fndL k e t a (n + 1)
theorem M_w91 (k e t a : Int32) (hk : isk k) (ha : a = 0 ∨ (10 ≤ a ∧ a ≤ 14)) (s16 : Int32) (K : Int32 → Int32 → Int32 → Bool → Int32 → Int32 → Bool → (Nat → Int32) → Option (Int32 × Int32 × Bool × Int32 × Int32 × Bool × Int32 × (Nat → Int32))) : ∀ (fu n : Nat) (o1 : Int32) (o2 : Bool) (o3 o4 : Int32) (o5 : Bool) (row : Nat → Int32), n ≤ 5 → 5 - n < fu → ∃ u1 u2 u3 u4 u5 row', lp_X10_write_91 k e t a s16 K fu (nI (6 ^ n)) (nI (n + 1)) o1 o2 o3 o4 o5 row = (match fndL k e t (5 - n) (n + 1) with | some (m, c') => some (wsay m c' a, u1, u2, u3, u4, u5, s16, row') | none => K (nI (6 ^ 5)) (nI 6) u1 u2 u3 u4 u5 row') := by
  intro fu
  induction fu with
  | zero => intro n o1 o2 o3 o4 o5 row _ hh; omega
  | succ fu ih =>
    intro n o1 o2 o3 o4 o5 row hn hf
    rw [lp_X10_write_91]
    have h6 : ((6 : Int32) ≤ nI (n + 1)) ↔ 6 ≤ n + 1 := nI_leI (a := 6) (b := n + 1) (by omega) (by omega)
    by_cases hc : 6 ≤ n + 1
    · have e1 : n = 5 := by omega
      subst e1
      rw [if_pos (h6.mpr hc)]
      exact ⟨o1, o2, o3, o4, o5, row, rfl⟩
    · rw [if_neg (mt h6.mp hc)]
      have e6 : nI (6 ^ n) * 6 = nI (6 ^ (n + 1)) := by rw [show (6 : Int32) = nI 6 from rfl, pk_mul, Nat.pow_succ]
      have p6 := pw6 (n + 1) (by omega)
      rw [e6]
      obtain ⟨u1, u2, u3, u4, u5, row', eq⟩ := M_w108 k e t a (n + 1) hk (by omega) ha s16 (fun _ a1 a2 a3 a4 a5 a6 => lp_X10_write_91 k e t a s16 K fu (nI (6 ^ (n + 1))) (nI (n + 1) + 1) a1 a2 a3 a4 a5 a6) FU 0 o1 o2 o3 o4 o5 row (Nat.zero_le _) (FU_lt (by omega))
      rw [nI_0, Nat.sub_zero] at eq
      rw [show lp_X10_write_108 k e t a (nI (6 ^ (n + 1))) (nI (n + 1)) s16 _ FU 0 o1 o2 o3 o4 o5 row = _ from eq, show 5 - n = (5 - (n + 1)) + 1 by omega]
      simp only [fndL]
      cases hfs : fstc (gd k e t (n + 1)) (6 ^ (n + 1)) 0 with
      | some c' => exact ⟨u1, u2, u3, u4, u5, row', rfl⟩
      | none =>
        simp only []
        rw [nI_1 (n + 1)]
        exact ih (n + 1) _ _ _ _ _ _ (by omega) (by omega)
/-! numbers from -10 to 10 -/
def iv (i : Nat) : Int32 := nI i - 10
def aN (i : Nat) : Nat := (i - 10) + (10 - i)
def nv (i w : Nat) (t : Bool) : Nat := if w = 0 then (if t then i - 1 else i + 1) else if w = 1 then (if t then i + 1 else i - 1) else if w = 3 then 20 - i else if w = 4 then i + 1 else i
theorem zv_iv : ∀ i, i < 20 → 1 ≤ i → ∀ w, w < 6 → ∀ t, zv (nI w) (iv i) t = iv (nv i w t) := by decide +kernel
theorem iv_inj : ∀ i, i < 21 → ∀ j, j < 21 → iv i = iv j → i = j := by decide +kernel
theorem nv_in (i w : Nat) (t : Bool) (h : i ≤ 20) : aN (nv i w t) ≤ aN i + 1 ∧ aN i ≤ aN (nv i w t) + 1 ∧ nv i w t ≤ 21 := by
  unfold nv aN
  repeat' split
  all_goals omega
theorem isw_ex {w : Int32} (h : isw w) : ∃ j, j < 6 ∧ w = nI j := by
  rcases h with h | h | h | h | h | h
  · exact ⟨0, by omega, h⟩
  · exact ⟨1, by omega, h⟩
  · exact ⟨2, by omega, h⟩
  · exact ⟨3, by omega, h⟩
  · exact ⟨4, by omega, h⟩
  · exact ⟨5, by omega, h⟩
theorem rdn_iv (k : Int32) (g : Nat → Int32) : ∀ (m i0 : Nat) (q : zQ) (i : Nat), q.1 = iv i → i ≤ 20 → aN i + m ≤ 10 → (∀ j, i0 ≤ j → j < i0 + m → isw (g j)) → ∃ i', (rdn k g m i0 q).1 = iv i' ∧ i' ≤ 20 ∧ aN i' ≤ aN i + m ∧ aN i ≤ aN i' + m := by
  intro m
  induction m with
  | zero => intro i0 q i e h1 h2 _; exact ⟨i, e, h1, by omega, by omega⟩
  | succ m ih =>
    intro i0 q i e h1 h2 hw
    simp only [rdn]
    by_cases hs : q.2.2.2.2 = true
    · rw [if_pos hs]
      exact ⟨i, e, h1, by omega, by omega⟩
    · rw [if_neg hs]
      obtain ⟨w, hw6, ew⟩ := isw_ex (hw i0 (by omega) (by omega))
      have hi : i < 20 ∧ 1 ≤ i := by unfold aN at h2; omega
      obtain ⟨b1, b2, b3⟩ := nv_in i w q.2.1 (by omega)
      have b4 : nv i w q.2.1 ≤ 20 := by
        unfold aN at h2 b1; omega
      obtain ⟨i', e', c1, c2, c3⟩ := ih (i0 + 1) (stp k (g i0) q) (nv i w q.2.1) (by
        simp only [stp]
        rw [ew, e]
        exact zv_iv i hi.1 hi.2 w hw6 q.2.1) b4 (by omega) (fun j h1 h2 => hw j (by omega) (by omega))
      exact ⟨i', e', c1, by omega, by omega⟩
theorem rdn_split (k : Int32) (g : Nat → Int32) : ∀ (a b i : Nat) (q : zQ), rdn k g (a + b) i q = rdn k g b (i + a) (rdn k g a i q) := by
  intro a
  induction a with
  | zero => intro b i q; simp [rdn]
  | succ a ih =>
    intro b i q
    by_cases hs : q.2.2.2.2 = true
    · rw [rdn_shut _ _ _ _ _ hs, rdn_shut k g (a + 1) _ _ hs, rdn_shut _ _ _ _ _ hs]
    · rw [show a + 1 + b = (a + b) + 1 by omega]
      simp only [rdn, if_neg hs]
      rw [ih, show i + 1 + a = i + (a + 1) by omega]
/-- a beginning that nothing good follows -/
theorem prune (k e t : Int32) (n p c1 : Nat) (q : zQ) (it iq : Nat) (hp : p ≤ n) (hn : n ≤ 5) (hq : q = rdn k (dig p c1) p 0 q0) (ht : t = iv it) (hit : it ≤ 20) (hiq : q.1 = iv iq) (hiq2 : iq ≤ 20) (hbad : q.2.2.2.2 = true ∨ n - p < (aN it - aN iq) + (aN iq - aN it)) : fstc (gd k e t n) (6 ^ (n - p)) (c1 * 6 ^ (n - p)) = none := by
  refine fstc_none _ _ _ (fun c h1 h2 => ?_)
  have hpre : ∀ j, j < p → dig n c j = dig p c1 j := by
    intro j hj
    unfold dig pc6
    have ec : c / 6 ^ (n - p) = c1 := by
      have pp : 0 < 6 ^ (n - p) := Nat.pow_pos (by omega)
      refine Nat.div_eq_of_lt_le h1 ?_
      rw [Nat.add_mul, Nat.one_mul]
      exact h2
    rw [← ec, Nat.div_div_eq_div_mul, ← Nat.pow_add, show n - p + (p - (j + 1)) = n - (j + 1) by omega]
  have hs : rdn k (dig n c) n 0 q0 = rdn k (dig n c) (n - p) p q := by
    have := rdn_split k (dig n c) p (n - p) 0 q0
    rw [show p + (n - p) = n by omega, Nat.zero_add] at this
    rw [this, hq, rdn_congr k (dig n c) (dig p c1) p 0 q0 (fun j _ h => hpre j (by omega))]
  unfold gd gdf
  rw [hs]
  by_cases hsh : q.2.2.2.2 = true
  · rw [rdn_shut _ _ _ _ _ hsh, hsh]
    simp
  · have hb := hbad.resolve_left hsh
    obtain ⟨iq', e0, c0, c1', c2⟩ := rdn_iv k (dig p c1) p 0 q0 10 (by decide) (by omega) (by unfold aN; omega) (fun j _ _ => dig_isw p c1 j)
    rw [← hq, hiq] at e0
    have e1 := iv_inj iq (by omega) iq' (by omega) e0
    subst e1
    have a10 : aN 10 = 0 := by decide
    obtain ⟨i', e', d1, d2, d3⟩ := rdn_iv k (dig n c) (n - p) p q iq hiq hiq2 (by omega) (fun j _ _ => dig_isw n c j)
    have hne : ¬ (rdn k (dig n c) (n - p) p q).1 = t := by
      intro h
      rw [e', ht] at h
      have := iv_inj i' (by omega) it (by omega) h
      subst this
      omega
    simp [hne]
