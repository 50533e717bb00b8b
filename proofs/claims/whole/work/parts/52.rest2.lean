def foldP (g : Nat → Int32) : Nat → Nat → Int32 → Bool → Int32 × Bool
  | 0, _, v, t => (v, t)
  | m + 1, i, v, t => foldP g m (i + 1) (zv (g i) v t) (zt (g i) t)
theorem foldP_congr (g g' : Nat → Int32) : ∀ (m i : Nat) (v : Int32) (t : Bool), (∀ j, i ≤ j → j < i + m → g j = g' j) → foldP g m i v t = foldP g' m i v t := by
  intro m
  induction m with
  | zero => intro i v t _; rfl
  | succ m ih => intro i v t h; simp only [foldP]; rw [h i (by omega) (by omega), ih (i + 1) _ _ (fun j h1 h2 => h j (by omega) (by omega))]
theorem X_beginAt (ways next : Nat → Int32) (rd : zRD) (i : Nat) (hi : i < 22) : f_X1_beginAt (ways, next, rd) (nI i) = some (ways, next, (-1, sV i, sT i, 0, 0, false)) := by
  obtain ⟨e1, e2⟩ := s_beg i hi
  unfold f_X1_beginAt f_X6_begin
  simp only [Option.bind_some]
  rw [e1]
  cases ht : sT i with
  | true => rw [if_pos (e2.mpr ht)]
  | false => rw [if_neg (by rw [e2, ht]; decide)]
theorem X_stateOf (i : Nat) (hi : i < 22) (k p h : Int32) (s : Bool) : f_X1_stateOf (k, sV i, sT i, p, h, s) = some (nI i) := by
  have e := s_num i hi
  unfold f_X1_stateOf
  simp only [bI_0]
  by_cases ht : sT i = false
  · rw [if_pos ht] at e ⊢; rw [e]
  · rw [if_neg ht] at e ⊢; rw [e]
theorem isw_nI {w : Nat} (h : w < 6) : isw (nI w) := isw_of ⟨nI_ge0 (by omega), (nI_leI (b := 5) (by omega) (by omega)).mpr (by omega)⟩
theorem i_1a (c : Nat) (a x : Int32) : x + a + nI c * a = x + nI (1 + c) * a := by
  rw [← nI_add, Int32.add_mul, show nI 1 = (1 : Int32) from rfl, Int32.one_mul, Int32.add_assoc]
theorem X_l30 (i : Nat) (h2 : 2 ≤ i) (h20 : i < 20) (ways : Nat → Int32) (K : Int32 → (Nat → Int32) → (Nat → Int32) → zRD → Option zEN) : ∀ (fu w : Nat) (next : Nat → Int32) (rd : zRD), w ≤ 6 → 6 - w < fu → ∃ next' rd', lp_X1_readUnknownWord_30 (nI i) K fu (nI w) ways next rd = K (nI 6) ways next' rd' ∧ ∀ j, j < 22 → next' j = next j + nI (tN (fun w => if nxN i w = j then 1 else 0) (6 - w) w) * ways i := by
  intro fu
  induction fu with
  | zero => intro w next rd _ hh; omega
  | succ fu ih =>
    intro w next rd hw hf
    rw [lp_X1_readUnknownWord_30]
    have h6 : ((6 : Int32) ≤ nI w) ↔ 6 ≤ w := nI_leI (a := 6) (b := w) (by omega) (by omega)
    by_cases hc : 6 ≤ w
    · rw [if_pos (h6.mpr hc)]
      have e : w = 6 := by omega
      subst e
      refine ⟨next, rd, rfl, fun j _ => ?_⟩
      simp only [Nat.sub_self, tN]
      rw [nI_0, Int32.zero_mul, Int32.add_zero]
    · rw [if_neg (mt h6.mp hc), X_beginAt ways next rd i (by omega)]
      simp only [Option.bind_some]
      rw [X_hear (-1) (nI w) (sV i, sT i, 0, 0, false) (isw_nI (by omega))]
      simp only [Option.bind_some, stp]
      obtain ⟨s1, s2⟩ := s_step i h20 h2 w (by omega)
      have hin := nxN_in (i := i) (w := w) (j := 4) (by omega) (by omega) (by omega)
      rw [s1, s2, X_stateOf (nxN i w) (by omega)]
      simp only [Option.bind_some]
      have h22 : ¬ ((22 : Int32) ≤ nI (nxN i w)) := by
        rw [show (22 : Int32) = nI 22 from rfl, nI_leI (by omega) (by omega)]; omega
      have g1 : ¬ (nI (nxN i w) < 0 ∨ 22 ≤ Int32.toNatClampNeg (nI (nxN i w))) := gok (by omega) (by omega)
      rw [if_neg (nI_pos (by omega)), if_neg h22, if_neg g1, if_neg (gok (by omega) (by omega)), if_neg g1, nI_clamp (by omega), nI_clamp (by omega), nI_1]
      obtain ⟨next', rd', e, hn⟩ := ih (w + 1) (upd next (nxN i w) (next (nxN i w) + ways i)) _ (by omega) (by omega)
      refine ⟨next', rd', e, fun j hj => ?_⟩
      rw [hn j hj, show 6 - w = (6 - (w + 1)) + 1 by omega]
      simp only [tN]
      rw [upd_at]
      by_cases hjn : j = nxN i w
      · subst hjn
        rw [if_pos rfl, if_pos rfl, i_1a]
      · rw [if_neg hjn, if_neg (fun h => hjn h.symm), Nat.zero_add]
theorem X_l10 (k : Nat) (hk : k ≤ 4) (ways : Nat → Int32) (hw : ∀ i, i < 22 → ways i = nI (Wn k i)) (K : Int32 → (Nat → Int32) → (Nat → Int32) → zRD → Option zEN) : ∀ (fu i : Nat) (next : Nat → Int32) (rd : zRD), i ≤ 22 → 22 - i < fu → ∃ next' rd', lp_X1_readUnknownWord_10 K fu (nI i) ways next rd = K (nI 22) ways next' rd' ∧ ∀ j, j < 22 → next' j = next j + nI (tN (fun i => Wn k i * cn i j) (22 - i) i) := by
  intro fu
  induction fu with
  | zero => intro i next rd _ hh; omega
  | succ fu ih =>
    intro i next rd hi hf
    rw [lp_X1_readUnknownWord_10]
    have h22 : ((22 : Int32) ≤ nI i) ↔ 22 ≤ i := nI_leI (a := 22) (b := i) (by omega) (by omega)
    by_cases hc : 22 ≤ i
    · rw [if_pos (h22.mpr hc)]
      have e : i = 22 := by omega
      subst e
      refine ⟨next, rd, rfl, fun j _ => ?_⟩
      simp only [Nat.sub_self, tN]
      rw [nI_0, Int32.add_zero]
    · rw [if_neg (mt h22.mp hc), if_neg (gok (by omega) (by omega)), nI_clamp (by omega), nI_1]
      by_cases hz : ways i = 0
      · rw [if_pos hz]
        obtain ⟨next', rd', e, hn⟩ := ih (i + 1) next rd (by omega) (by omega)
        refine ⟨next', rd', e, fun j hj => ?_⟩
        rw [hn j hj, show 22 - i = (22 - (i + 1)) + 1 by omega]
        simp only [tN]
        rw [← nI_add, ← pk_mul, ← hw i (by omega), hz, Int32.zero_mul, Int32.zero_add]
      · rw [if_neg hz]
        have hb : ¬ (i < 10 - 2 * k ∨ 11 + 2 * k < i) := fun h => hz (by rw [hw i (by omega), Wn_out k i (by omega) h]; rfl)
        obtain ⟨n1, rd1, e1, hn1⟩ := X_l30 i (by omega) (by omega) ways (fun _ a b c => lp_X1_readUnknownWord_10 K fu (nI (i + 1)) a b c) FU 0 next rd (by omega) (FU_lt (by omega))
        rw [nI_0] at e1
        rw [show lp_X1_readUnknownWord_30 (nI i) _ FU 0 ways next rd = _ from e1]
        obtain ⟨next', rd', e, hn⟩ := ih (i + 1) n1 rd1 (by omega) (by omega)
        refine ⟨next', rd', e, fun j hj => ?_⟩
        rw [hn j hj, hn1 j hj, show 22 - i = (22 - (i + 1)) + 1 by omega]
        simp only [tN]
        rw [← nI_add (Wn k i * cn i j), ← pk_mul, hw i (by omega), Int32.add_assoc, Int32.mul_comm (nI (Wn k i))]
        rfl
theorem X_unknown (k : Nat) (hk : k ≤ 4) (ways next : Nat → Int32) (rd : zRD) (hw : ∀ i, i < 22 → ways i = nI (Wn k i)) : ∃ ways' next' rd', f_X1_readUnknownWord (ways, next, rd) = some (ways', next', rd') ∧ ∀ i, i < 22 → ways' i = nI (Wn (k + 1) i) := by
  obtain ⟨g, eg, hg⟩ := X_fill next 0 22 (by omega)
  obtain ⟨n1, rd1, e1, hn1⟩ := X_l10 k hk ways hw (fun _ a b c => (some (va_cpy b a 0 0 (Int32.toNatClampNeg 22))).bind fun z => some (z, b, c)) FU 0 g rd (by omega) (FU_lt (by omega))
  rw [nI_0] at e1
  refine ⟨va_cpy n1 ways 0 0 (Int32.toNatClampNeg 22), n1, rd1, ?_, fun j hj => ?_⟩
  · rw [f_X1_readUnknownWord]
    dsimp only
    rw [eg, Option.bind_some]
    exact e1
  · rw [pk_cpy_in (by omega) (by rw [show Int32.toNatClampNeg 22 = 22 from by decide]; omega), Nat.zero_add, Nat.sub_zero, hn1 j hj, hg j hj, Int32.zero_add]
    rfl
theorem X_l48 (kn fr : Nat) (hkn : kn ≤ 9) (hfr : fr ≤ 5) (K : Int32 → (Nat → Int32) → (Nat → Int32) → zRD → Option (Int32 × zEN)) : ∀ (fu k : Nat) (ways next : Nat → Int32) (rd : zRD), k ≤ fr → fr - k < fu → (∀ i, i < 22 → ways i = nI (Wn k i)) → ∃ ways' next' rd', lp_X1_howMany_48 (nI (kn + fr)) K fu (nI (kn + k)) ways next rd = K (nI (kn + fr)) ways' next' rd' ∧ ∀ i, i < 22 → ways' i = nI (Wn fr i) := by
  intro fu
  induction fu with
  | zero => intro k ways next rd _ hh; omega
  | succ fu ih =>
    intro k ways next rd hk hf hw
    rw [lp_X1_howMany_48]
    by_cases hc : fr ≤ k
    · have e : k = fr := by omega
      subst e
      rw [if_pos ((nI_leI (by omega) (by omega)).mpr (by omega))]
      exact ⟨ways, next, rd, rfl, hw⟩
    · rw [if_neg (by rw [nI_leI (by omega) (by omega)]; omega)]
      obtain ⟨w1, n1, rd1, e1, hw1⟩ := X_unknown k (by omega) ways next rd hw
      rw [e1]
      simp only [Option.bind_some]
      rw [nI_1, show kn + k + 1 = kn + (k + 1) by omega]
      exact ih (k + 1) w1 n1 rd1 (by omega) (by omega) hw1
theorem X_l104 (f : Nat → Int32) (n : Nat) (sn : Int32) (hn : n ≤ 9) (hw : ∀ j, j < n → isw (f j)) (K : Int32 → zRD → Option (Int32 × zEN)) : ∀ (fu i : Nat) (q : zQ), i ≤ n → n - i < fu → ∃ rd', lp_X1_howMany_104 f (nI n) sn K fu (nI i) (-1, q) = K (nI n) rd' ∧ rd'.2.1 = (foldP f (n - i) i q.1 q.2.1).1 := by
  intro fu
  induction fu with
  | zero => intro i q _ hh; omega
  | succ fu ih =>
    intro i q hi hf
    rw [lp_X1_howMany_104]
    by_cases hc : n ≤ i
    · have e : i = n := by omega
      subst e
      rw [if_pos ((nI_leI (by omega) (by omega)).mpr hc)]
      refine ⟨(-1, q), rfl, ?_⟩
      simp [foldP]
    · rw [if_neg (by rw [nI_leI (by omega) (by omega)]; exact hc), X_wordAt f n i sn hn (by omega)]
      simp only [Option.bind_some]
      rw [X_hear (-1) (f i) q (hw i (by omega))]
      simp only [Option.bind_some]
      rw [nI_1]
      obtain ⟨rd', e, h⟩ := ih (i + 1) (stp (-1) (f i) q) (by omega) (by omega)
      refine ⟨rd', e, ?_⟩
      rw [h, show n - i = (n - (i + 1)) + 1 by omega]
      simp [foldP, stp]
def psi (f : Nat → Int32) (n kn : Nat) (goal : Int32) (i : Nat) : Nat := if (foldP f kn (n - kn) (sV i) (sT i)).1 = goal then 1 else 0
theorem X_l70 (f : Nat → Int32) (n kn fr : Nat) (sn goal : Int32) (hn : n ≤ 9) (hkn : kn ≤ n) (hw : ∀ j, j < n → isw (f j)) (ways : Nat → Int32) (hW : ∀ i, i < 22 → ways i = nI (Wn fr i)) (K : Int32 → Int32 → (Nat → Int32) → (Nat → Int32) → zRD → Option (Int32 × zEN)) : ∀ (fu i : Nat) (v : Int32) (next : Nat → Int32) (rd : zRD), i ≤ 22 → 22 - i < fu → ∃ rd', lp_X1_howMany_70 (nI kn) goal f (nI n) sn K fu v (nI i) ways next rd = K (v + nI (tN (fun i => Wn fr i * psi f n kn goal i) (22 - i) i)) (nI 22) ways next rd' := by
  intro fu
  induction fu with
  | zero => intro i v next rd _ hh; omega
  | succ fu ih =>
    intro i v next rd hi hf
    rw [lp_X1_howMany_70]
    have h22 : ((22 : Int32) ≤ nI i) ↔ 22 ≤ i := nI_leI (a := 22) (b := i) (by omega) (by omega)
    by_cases hc : 22 ≤ i
    · rw [if_pos (h22.mpr hc)]
      have e : i = 22 := by omega
      subst e
      refine ⟨rd, ?_⟩
      simp only [Nat.sub_self, tN]
      rw [nI_0, Int32.add_zero]
    · have gi : ¬ (nI i < 0 ∨ 22 ≤ Int32.toNatClampNeg (nI i)) := gok (by omega) (by omega)
      rw [if_neg (mt h22.mp hc), if_neg gi, nI_clamp (by omega), nI_1]
      have es : 22 - i = (22 - (i + 1)) + 1 := by omega
      by_cases hz : ways i = 0
      · rw [if_pos hz]
        obtain ⟨rd', e⟩ := ih (i + 1) v next rd (by omega) (by omega)
        refine ⟨rd', e.trans ?_⟩
        rw [es]
        simp only [tN]
        rw [← nI_add (Wn fr i * psi f n kn goal i), ← pk_mul, ← hW i (by omega), hz, Int32.zero_mul, Int32.zero_add]
      · rw [if_neg hz, X_beginAt ways next rd i (by omega)]
        simp only [Option.bind_some]
        rw [pk_sub hkn]
        obtain ⟨rd1, e1, hv1⟩ := X_l104 f n sn hn hw (fun _ s => if s.2.1 = goal then (if nI i < 0 ∨ 22 ≤ i then none else lp_X1_howMany_70 (nI kn) goal f (nI n) sn K fu (v + ways i) (nI (i + 1)) ways next s) else lp_X1_howMany_70 (nI kn) goal f (nI n) sn K fu v (nI (i + 1)) ways next s) FU (n - kn) (sV i, sT i, 0, 0, false) (by omega) (FU_lt (by omega))
        rw [show lp_X1_howMany_104 f (nI n) sn _ FU (nI (n - kn)) (-1, sV i, sT i, 0, 0, false) = _ from e1]
        rw [show n - (n - kn) = kn by omega] at hv1
        by_cases hg : rd1.2.1 = goal
        · rw [if_pos hg, if_neg (by rintro (h | h); exact nI_pos (by omega) h; omega)]
          obtain ⟨rd', e⟩ := ih (i + 1) (v + ways i) next rd1 (by omega) (by omega)
          refine ⟨rd', e.trans ?_⟩
          have hp : psi f n kn goal i = 1 := by unfold psi; rw [if_pos (by rw [← hv1]; exact hg)]
          rw [es]
          simp only [tN]
          rw [← nI_add (Wn fr i * psi f n kn goal i), hp, Nat.mul_one, ← hW i (by omega), Int32.add_assoc]
        · rw [if_neg hg]
          obtain ⟨rd', e⟩ := ih (i + 1) v next rd1 (by omega) (by omega)
          refine ⟨rd', e.trans ?_⟩
          have hp : psi f n kn goal i = 0 := by unfold psi; rw [if_neg (by rw [← hv1]; exact hg)]
          rw [es]
          simp only [tN]
          rw [hp, Nat.mul_zero, Nat.zero_add]
theorem X_howMany (en : zEN) (f : Nat → Int32) (n kn fr : Nat) (sn goal : Int32) (hn : n ≤ 9) (hkn : kn ≤ n) (hfr : fr ≤ 5) (hw : ∀ j, j < n → isw (f j)) : ∃ en', f_X1_howMany en (f, nI n, sn) (nI kn) (nI (kn + fr)) goal = some (nI (tN (fun c => psi f n kn goal (rI fr c)) (6 ^ fr) 0), en') := by
  obtain ⟨g, eg, hg⟩ := X_fill en.1 0 22 (by omega)
  have hst : f_X1_stateOf (-1, 0, false, 0, 0, false) = some 10 := by decide
  obtain ⟨w1, n1, rd1, e1, hw1⟩ := X_l48 kn fr (by omega) hfr (fun _ a b c => lp_X1_howMany_70 (nI kn) goal f (nI n) sn (fun v6 _ x0 x1 x2 => some (v6, (x0, x1, x2))) FU 0 0 a b c) FU 0 (upd g (Int32.toNatClampNeg 10) 1) en.2.1 (-1, 0, false, 0, 0, false) (by omega) (FU_lt (by omega)) (fun i hi => by
    rw [upd_at, show Int32.toNatClampNeg 10 = 10 from by decide, hg i hi]
    simp only [Wn]
    by_cases h : i = 10 <;> simp [h] <;> rfl)
  obtain ⟨rd2, e2⟩ := X_l70 f n kn fr sn goal hn hkn hw w1 hw1 (fun v6 _ x0 x1 x2 => some (v6, (x0, x1, x2))) FU 0 0 n1 rd1 (by omega) (FU_lt (by omega))
  refine ⟨(w1, n1, rd2), ?_⟩
  rw [f_X1_howMany]
  dsimp only
  rw [eg, Option.bind_some, f_X6_begin, Option.bind_some, hst, Option.bind_some, if_neg (by decide), if_neg (by decide), if_neg (by decide), Option.bind_some]
  rw [Nat.add_zero] at e1
  refine e1.trans ?_
  rw [nI_0] at e2
  refine e2.trans ?_
  rw [codes_ways fr (psi f n kn goal) hfr, Int32.zero_add]
