def pc6 (fr c j : Nat) : Nat := c / 6 ^ (fr - j)
theorem pc6_div (fr c j : Nat) (h : j < fr) : pc6 fr c (j + 1) / 6 = pc6 fr c j := by
  unfold pc6
  rw [Nat.div_div_eq_div_mul, ← Nat.pow_succ, show (fr - (j + 1)).succ = fr - j by omega]
theorem pc6_le (fr c j : Nat) : pc6 fr c j ≤ c := Nat.div_le_self _ _
theorem M_lay1 (fr c : Nat) (hfr : fr ≤ 9) (hc : c < 100000) : ∀ (fu k : Nat) (row : Nat → Int32), k ≤ fr → k < fu → (∀ j, k ≤ j → j < fr → row j = nI (pc6 fr c (j + 1) % 6)) → ∃ row', lp_X10_layRow_7 (fun _ _ s => some s) fu (nI (pc6 fr c k)) (nI k + (-1)) row = some row' ∧ ∀ j, j < fr → row' j = nI (pc6 fr c (j + 1) % 6) := by
  intro fu
  induction fu with
  | zero => intro k row _ hh; omega
  | succ fu ih =>
    intro k row hk hf hr
    rw [lp_X10_layRow_7]
    by_cases h0 : k = 0
    · subst h0
      rw [if_pos (by decide)]
      exact ⟨row, rfl, fun j hj => hr j (by omega) hj⟩
    · obtain ⟨k', rfl⟩ : ∃ k', k = k' + 1 := ⟨k - 1, by omega⟩
      have hp := pc6_le fr c (k' + 1)
      rw [pk_m1, if_neg (nI_pos (by omega)), if_neg (gok (by omega) (by omega)), nI_clamp (by omega), show (6 : Int32) = nI 6 from rfl, pk_rem (by omega) (by omega) (by omega), pk_div (by omega) (by omega) (by omega), pc6_div fr c k' (by omega)]
      simp only [Option.bind_some]
      refine ih k' _ (by omega) (by omega) (fun j h1 h2 => ?_)
      rw [upd_at]
      by_cases hj : j = k'
      · rw [if_pos hj, hj]
      · rw [if_neg hj]; exact hr j (by omega) h2
theorem M_lay (m17 : Nat → Int32) (fr c : Nat) (hfr : fr ≤ 9) (hc : c < 100000) : ∃ row', f_X10_layRow m17 (nI fr) (nI c) = some row' ∧ ∀ j, j < fr → row' j = nI (pc6 fr c (j + 1) % 6) := by
  obtain ⟨row', e, h⟩ := M_lay1 fr c hfr hc FU fr m17 (by omega) (FU_lt (by omega)) (fun j h1 h2 => by omega)
  refine ⟨row', ?_, h⟩
  rw [f_X10_layRow, sub_neg1]
  rw [show pc6 fr c fr = c by unfold pc6; simp] at e
  exact e
theorem sub_add' (a b c : Int32) : a - b + c = a + c - b := by
  rw [Int32.sub_eq_add_neg, Int32.sub_eq_add_neg, Int32.add_assoc, Int32.add_assoc, Int32.add_comm (-b)]
theorem M_l59b (f row : Nat → Int32) (n kn fr : Nat) (hn : n ≤ 9) (hkn : kn ≤ n) (hfr : fr ≤ 5) (hw : ∀ j, j < n → isw (f j)) (K : Int32 → Int32 → Bool → Int32 → Int32 → Option (Int32 × Int32 × Bool × Int32 × Int32 × Bool × (Nat → Int32))) : ∀ (fu i : Nat) (v : Int32) (t : Bool) (p h : Int32), i ≤ kn → kn - i < fu → ∃ t' p' h', lp_X10_restOf_59 (nI (kn + fr)) (nI fr) (nI n) f row K fu (nI (fr + i)) v t p h = K (nI (kn + fr)) (foldP f (kn - i) (n - kn + i) v t).1 t' p' h' := by
  intro fu
  induction fu with
  | zero => intro i v t p h _ hh; omega
  | succ fu ih =>
    intro i v t p h hi hf
    rw [lp_X10_restOf_59]
    by_cases hc : kn ≤ i
    · have e : i = kn := by omega
      subst e
      rw [if_pos ((nI_leI (by omega) (by omega)).mpr (by omega)), show i - i = 0 by omega, Nat.add_comm fr i]
      exact ⟨t, p, h, rfl⟩
    · have ei : nI n - nI (kn + fr) + nI (fr + i) = nI (n - kn + i) := by
        rw [sub_add', nI_add, pk_sub (by omega)]; congr 1; omega
      rw [if_neg (by rw [nI_leI (by omega) (by omega)]; omega), if_pos ((nI_leI (by omega) (by omega)).mpr (by omega)), ei, if_neg (gok (by omega) (by omega)), nI_clamp (by omega), M_word _ _ _ _ _ (hw _ (by omega))]
      simp only [Option.bind_some]
      rw [nI_1, show fr + i + 1 = fr + (i + 1) by omega]
      obtain ⟨t', p', h', e⟩ := ih (i + 1) (zv (f (n - kn + i)) v t) (zt (f (n - kn + i)) t) _ _ (by omega) (by omega)
      refine ⟨t', p', h', e.trans ?_⟩
      rw [show kn - i = (kn - (i + 1)) + 1 by omega]
      rfl
theorem M_l59a (f row : Nat → Int32) (n kn fr c : Nat) (hn : n ≤ 9) (hkn : kn ≤ n) (hfr : fr ≤ 5) (hw : ∀ j, j < n → isw (f j)) (hr : ∀ j, j < fr → row j = nI (pc6 fr c (j + 1) % 6)) (K : Int32 → Int32 → Bool → Int32 → Int32 → Option (Int32 × Int32 × Bool × Int32 × Int32 × Bool × (Nat → Int32))) : ∀ (fu i : Nat) (p h : Int32), i ≤ fr → kn + fr - i < fu → ∃ t' p' h', lp_X10_restOf_59 (nI (kn + fr)) (nI fr) (nI n) f row K fu (nI i) (sV (rI i (pc6 fr c i))) (sT (rI i (pc6 fr c i))) p h = K (nI (kn + fr)) (foldP f kn (n - kn) (sV (rI fr c)) (sT (rI fr c))).1 t' p' h' := by
  intro fu
  induction fu with
  | zero => intro i p h _ hh; omega
  | succ fu ih =>
    intro i p h hi hf
    by_cases hc : fr ≤ i
    · have e : i = fr := by omega
      subst e
      have := M_l59b f row n kn i hn hkn hfr hw K (fu + 1) 0 (sV (rI i (pc6 i c i))) (sT (rI i (pc6 i c i))) p h (by omega) (by omega)
      rw [Nat.add_zero, Nat.sub_zero, Nat.add_zero, show pc6 i c i = c by unfold pc6; simp] at this
      rw [show pc6 i c i = c by unfold pc6; simp]
      exact this
    · rw [lp_X10_restOf_59]
      have hm : pc6 fr c (i + 1) % 6 < 6 := Nat.mod_lt _ (by omega)
      rw [if_neg (by rw [nI_leI (by omega) (by omega)]; omega), if_neg (by rw [nI_leI (by omega) (by omega)]; omega), if_neg (gok (by omega) (by omega)), nI_clamp (by omega), hr i (by omega), M_word _ _ _ _ _ (isw_nI hm)]
      simp only [Option.bind_some]
      obtain ⟨b1, b2⟩ := rI_in i (pc6 fr c i) (by omega)
      obtain ⟨s1, s2⟩ := s_step (rI i (pc6 fr c i)) (by omega) (by omega) (pc6 fr c (i + 1) % 6) hm
      have er : nxN (rI i (pc6 fr c i)) (pc6 fr c (i + 1) % 6) = rI (i + 1) (pc6 fr c (i + 1)) := by
        simp only [rI]
        rw [pc6_div fr c i (by omega)]
      rw [s1, s2, er, nI_1]
      exact ih (i + 1) _ _ (by omega) (by omega)
theorem pw6 (k : Nat) (h : k ≤ 5) : 6 ^ k ≤ 7776 := by
  have : 6 ^ k ≤ 6 ^ 5 := Nat.pow_le_pow_right (by omega) h
  simpa using this
theorem M_l37 (f : Nat → Int32) (n kn fr : Nat) (goal : Int32) (hn : n ≤ 9) (hkn : kn ≤ n) (hfr : fr ≤ 5) (hw : ∀ j, j < n → isw (f j)) (K : Int32 → Int32 → Int32 → Bool → Int32 → Int32 → Bool → (Nat → Int32) → Option (Int32 × Int32 × Bool × Int32 × Int32 × Bool × (Nat → Int32))) : ∀ (fu c : Nat) (v : Int32) (o1 : Int32) (o2 : Bool) (o3 o4 : Int32) (o5 : Bool) (row : Nat → Int32), c ≤ 6 ^ fr → 6 ^ fr - c < fu → ∃ u1 u2 u3 u4 u5 row', lp_X10_restOf_37 (nI (kn + fr)) goal (nI fr) (nI (6 ^ fr)) (nI n) f K fu v (nI c) o1 o2 o3 o4 o5 row = K (v + nI (tN (fun c => psi f n kn goal (rI fr c)) (6 ^ fr - c) c)) (nI (6 ^ fr)) u1 u2 u3 u4 u5 row' := by
  have hp := pw6 fr hfr
  intro fu
  induction fu with
  | zero => intro c v o1 o2 o3 o4 o5 row _ hh; omega
  | succ fu ih =>
    intro c v o1 o2 o3 o4 o5 row hc hf
    rw [lp_X10_restOf_37]
    by_cases hcc : 6 ^ fr ≤ c
    · have e : c = 6 ^ fr := by omega
      rw [if_pos ((nI_leI (by omega) (by omega)).mpr hcc), e]
      refine ⟨o1, o2, o3, o4, o5, row, ?_⟩
      simp only [Nat.sub_self, tN]
      rw [nI_0, Int32.add_zero]
    · rw [if_neg (by rw [nI_leI (by omega) (by omega)]; exact hcc)]
      obtain ⟨row1, e1, hr1⟩ := M_lay row fr c (by omega) (by omega)
      rw [e1, Option.bind_some, f_X10_begin, Option.bind_some]
      dsimp only
      rw [nI_1]
      obtain ⟨t', p', h', e2⟩ := M_l59a f row1 n kn fr c hn hkn hfr hw hr1 (fun _ a b d e => if a = goal then lp_X10_restOf_37 (nI (kn + fr)) goal (nI fr) (nI (6 ^ fr)) (nI n) f K fu (v + 1) (nI (c + 1)) a b d e false row1 else lp_X10_restOf_37 (nI (kn + fr)) goal (nI fr) (nI (6 ^ fr)) (nI n) f K fu (v + 0) (nI (c + 1)) a b d e false row1) FU 0 0 0 (by omega) (FU_lt (by omega))
      rw [show sV (rI 0 (pc6 fr c 0)) = 0 from by simp only [rI]; decide, show sT (rI 0 (pc6 fr c 0)) = false from by simp only [rI]; decide, nI_0] at e2
      rw [show lp_X10_restOf_59 (nI (kn + fr)) (nI fr) (nI n) f row1 _ FU 0 0 false 0 0 = _ from e2]
      have es : 6 ^ fr - c = (6 ^ fr - (c + 1)) + 1 := by omega
      by_cases hg : (foldP f kn (n - kn) (sV (rI fr c)) (sT (rI fr c))).1 = goal
      · rw [if_pos hg]
        obtain ⟨u1, u2, u3, u4, u5, row', e⟩ := ih (c + 1) (v + 1) (foldP f kn (n - kn) (sV (rI fr c)) (sT (rI fr c))).1 t' p' h' false row1 (by omega) (by omega)
        refine ⟨u1, u2, u3, u4, u5, row', e.trans ?_⟩
        rw [es]
        simp only [tN]
        rw [show psi f n kn goal (rI fr c) = 1 by unfold psi; rw [if_pos hg], ← nI_add 1, show nI 1 = (1 : Int32) from rfl, Int32.add_assoc]
      · rw [if_neg hg, Int32.add_zero]
        obtain ⟨u1, u2, u3, u4, u5, row', e⟩ := ih (c + 1) v (foldP f kn (n - kn) (sV (rI fr c)) (sT (rI fr c))).1 t' p' h' false row1 (by omega) (by omega)
        refine ⟨u1, u2, u3, u4, u5, row', e.trans ?_⟩
        rw [es]
        simp only [tN]
        rw [show psi f n kn goal (rI fr c) = 0 by unfold psi; rw [if_neg hg], Nat.zero_add]
theorem M_l11 (fr : Nat) (hfr : fr ≤ 5) (K : Int32 → Int32 → Option (Int32 × Int32 × Bool × Int32 × Int32 × Bool × (Nat → Int32))) : ∀ (fu k : Nat), k ≤ fr → fr - k < fu → lp_X10_restOf_11 (nI fr) K fu (nI (6 ^ k)) (nI k) = K (nI (6 ^ fr)) (nI fr) := by
  intro fu
  induction fu with
  | zero => intro k _ hh; omega
  | succ fu ih =>
    intro k hk hf
    rw [lp_X10_restOf_11]
    by_cases hc : fr ≤ k
    · have e : k = fr := by omega
      rw [if_pos ((nI_leI (by omega) (by omega)).mpr hc), e]
    · rw [if_neg (by rw [nI_leI (by omega) (by omega)]; exact hc), show (6 : Int32) = nI 6 from rfl, pk_mul, nI_1, ← Nat.pow_succ]
      exact ih (k + 1) (by omega) (by omega)
theorem M_restOf (f m17 : Nat → Int32) (n kn fr : Nat) (goal : Int32) (hn : n ≤ 9) (hkn : kn ≤ n) (hfr : fr ≤ 5) (hw : ∀ j, j < n → isw (f j)) (m11 : Int32) (m12 : Bool) (m13 m14 : Int32) (m15 : Bool) : ∃ o, f_X10_restOf (nI n) f m11 m12 m13 m14 m15 m17 (nI kn) (nI (kn + fr)) goal = some (nI (tN (fun c => psi f n kn goal (rI fr c)) (6 ^ fr) 0), o) := by
  have hp := pw6 fr hfr
  obtain ⟨u1, u2, u3, u4, u5, row', e⟩ := M_l37 f n kn fr goal hn hkn hfr hw (fun v6 _ o1 o2 o3 o4 o5 o17 => some (v6, o1, o2, o3, o4, o5, o17)) FU 0 0 m11 m12 m13 m14 m15 m17 (Nat.zero_le _) (FU_lt (by omega))
  have e1 := M_l11 fr hfr (fun v5 _ => lp_X10_restOf_37 (nI (kn + fr)) goal (nI fr) v5 (nI n) f (fun v6 _ o1 o2 o3 o4 o5 o17 => some (v6, o1, o2, o3, o4, o5, o17)) FU 0 0 m11 m12 m13 m14 m15 m17) FU 0 (by omega) (FU_lt (by omega))
  refine ⟨(u1, u2, u3, u4, u5, row'), ?_⟩
  rw [f_X10_restOf, pk_sub (by omega), show kn + fr - kn = fr by omega]
  rw [nI_0] at e1 e
  refine Eq.trans ?_ (e1.trans (e.trans ?_))
  · rfl
  · rw [Int32.zero_add, Nat.sub_zero]
