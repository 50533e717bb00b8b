theorem X_fl4 (k e t : Int32) (n c : Nat) (sn : Int32) (d0 : Nat → Int32) (ft0 : Nat → zRD) (hn : n ≤ 5) (hp : 4 < n) (hd0 : ∀ j, j < 4 → d0 j = dig 4 c j) (hf0 : ft0 4 = (k, rdn k d0 4 0 q0)) (hs0 : (rdn k d0 4 0 q0).2.2.2.2 = false) (ht : ∃ it, it ≤ 20 ∧ t = iv it) : ∀ (fu w : Nat) (d : Nat → Int32) (rd : zRD) (ft : Nat → zRD), w ≤ 6 → 6 - w < fu → (∀ j, j < n → isw (d j)) → (∀ j, j < 4 → d j = d0 j) → (∀ j, j ≤ 4 → ft j = ft0 j) → ∃ rd' ft' d', lp_X8_fillFrom_4_62 (fun _ a b c d e f => some (false, (a, b, c, d, e, f))) fu (nI w) (d, nI n, sn) rd ft k e t = some ((fstc (gd k e t n) ((6 - w) * 6 ^ (n - (4 + 1))) ((c * 6 + w) * 6 ^ (n - (4 + 1)))).isSome, ((d', nI n, sn), rd', ft', k, e, t)) ∧ (∀ j, j ≤ 4 → ft' j = ft0 j) ∧ (∀ j, j < n → isw (d' j)) ∧ (∀ j, j < 4 → d' j = d0 j) ∧ ∀ c', fstc (gd k e t n) ((6 - w) * 6 ^ (n - (4 + 1))) ((c * 6 + w) * 6 ^ (n - (4 + 1))) = some c' → ∀ j, j < n → d' j = dig n c' j := by
  intro fu
  induction fu with
  | zero => intro w d rd ft _ hh; omega
  | succ fu ih =>
    intro w d rd ft hw6 hfu hw hd hft
    rw [lp_X8_fillFrom_4_62]
    have h6 : ((6 : Int32) ≤ nI w) ↔ 6 ≤ w := nI_leI (a := 6) (b := w) (by omega) (by omega)
    by_cases hc : 6 ≤ w
    · have e1 : w = 6 := by omega
      subst e1
      rw [if_pos (h6.mpr hc), Nat.sub_self, Nat.zero_mul]
      refine ⟨rd, ft, d, rfl, hft, hw, hd, ?_⟩
      intro c' h
      cases h
    · rw [if_neg (mt h6.mp hc), hft 4 (Nat.le_refl _), hf0]
      unfold f_X6_copy
      rw [Option.bind_some, X_hear k (nI w) _ (isw_nI (by omega)), Option.bind_some]
      -- the prefix with w
      have hdg : ∀ j, j < 4 + 1 → upd d 4 (nI w) j = dig (4 + 1) (c * 6 + w) j := by
        intro j hj
        rw [upd_at]
        by_cases hjp : j = 4
        · rw [if_pos hjp, hjp, dig_last _ _ _ (by omega)]
        · rw [if_neg hjp, dig_cat _ _ _ _ (by omega) (by omega), hd j (by omega), hd0 j (by omega)]
      have e0 : rdn k d0 4 0 q0 = rdn k (dig (4 + 1) (c * 6 + w)) 4 0 q0 := rdn_congr k _ _ _ _ _ (fun j _ hj => by rw [dig_cat _ _ _ _ (by omega) (by omega), hd0 j (by omega)])
      have eq1 : stp k (nI w) (rdn k d0 4 0 q0) = rdn k (dig (4 + 1) (c * 6 + w)) (4 + 1) 0 q0 := by
        rw [rdn_snoc k (dig (4 + 1) (c * 6 + w)) 4 q0 (by rw [← e0]; exact hs0), ← e0, dig_last _ _ _ (by omega)]
      rw [eq1]
      generalize hQ : rdn k (dig (4 + 1) (c * 6 + w)) (4 + 1) 0 q0 = q
      obtain ⟨it, hit, eit⟩ := ht
      obtain ⟨iq, hiq, hiq2, _, _⟩ := rdn_iv k (dig (4 + 1) (c * 6 + w)) (4 + 1) 0 q0 10 (by decide) (by omega) (by decide) (fun j _ _ => dig_isw _ _ j)
      rw [hQ] at hiq
      have hup : ∀ j, j ≤ 4 → va_up ft (4 + 1) (k, q) j = ft0 j := fun j hj => by rw [va_up_ne _ _ (by omega), hft j hj]
      have esp : (6 - w) * 6 ^ (n - (4 + 1)) = 6 ^ (n - (4 + 1)) + (6 - (w + 1)) * 6 ^ (n - (4 + 1)) := by
        rw [show 6 - w = 1 + (6 - (w + 1)) by omega, Nat.add_mul, Nat.one_mul]
      have esn : (c * 6 + w) * 6 ^ (n - (4 + 1)) + 6 ^ (n - (4 + 1)) = (c * 6 + (w + 1)) * 6 ^ (n - (4 + 1)) := by
        rw [show c * 6 + (w + 1) = (c * 6 + w) + 1 by omega, Nat.add_mul (c * 6 + w), Nat.one_mul]
      have skip : (q.2.2.2.2 = true ∨ n - (4 + 1) < (aN it - aN iq) + (aN iq - aN it)) → fstc (gd k e t n) ((6 - w) * 6 ^ (n - (4 + 1))) ((c * 6 + w) * 6 ^ (n - (4 + 1))) = fstc (gd k e t n) ((6 - (w + 1)) * 6 ^ (n - (4 + 1))) ((c * 6 + (w + 1)) * 6 ^ (n - (4 + 1))) := by
        intro hbad
        rw [esp, fstc_split, prune k e t n (4 + 1) (c * 6 + w) q it iq (by omega) hn hQ.symm eit hit hiq hiq2 hbad, esn]
      simp only [bI_0]
      by_cases hsh : q.2.2.2.2 = false
      · rw [if_pos hsh]
        have ec := X_can d n (4 + 1) it iq sn rd (va_up ft (4 + 1) (k, q)) k e (by omega) hn hit hiq2
        rw [← eit, ← hiq, show nI (4 + 1) = 5 from rfl] at ec
        rw [show f_X8_canReachTop _ q.1 5 = _ from ec, Option.bind_some]
        by_cases hb : n - (4 + 1) < (aN it - aN iq) + (aN iq - aN it)
        · rw [if_pos (by simp [hb]), nI_1 w, skip (Or.inr hb)]
          exact ih (w + 1) d rd _ (by omega) (by omega) hw hd hup
        · rw [if_neg (by simp [hb])]
          have epu := X_put3 d n 4 sn (nI w) (by omega) hp
          rw [show nI 4 = 4 from rfl] at epu
          rw [epu, Option.bind_some]
          have hw' : ∀ j, j < n → isw (upd d 4 (nI w) j) := by
            intro j hj
            rw [upd_at]
            split
            · exact isw_nI (by omega)
            · exact hw j hj
          have erd : rdn k (upd d 4 (nI w)) (4 + 1) 0 q0 = q := by
            rw [← hQ]
            exact rdn_congr k _ _ _ _ _ (fun j _ hj => hdg j (by omega))
          obtain ⟨rd1, ft1, d1, ex, g1, g2, g3, g4⟩ := X_fillF5 k e t n (c * 6 + w) sn (upd d 4 (nI w)) rd (va_up ft (4 + 1) (k, q)) hn (by omega) hw' hdg (by rw [va_up_self, erd]) (by rw [erd]; exact hsh) ⟨it, hit, eit⟩
          rw [show f_X8_fillFrom_5 _ = _ from ex, Option.bind_some]
          have g1' : ∀ j, j ≤ 4 → ft1 j = ft0 j := fun j hj => by rw [g1 j (by omega), hup j hj]
          have g3' : ∀ j, j < 4 → d1 j = d0 j := fun j hj => by rw [g3 j (by omega), upd_at, if_neg (by omega), hd j hj]
          rw [esp, fstc_split, esn]
          cases hfs : fstc (gd k e t n) (6 ^ (n - (4 + 1))) ((c * 6 + w) * 6 ^ (n - (4 + 1))) with
          | some c1 =>
            rw [if_neg (by simp)]
            refine ⟨rd1, ft1, d1, rfl, g1', g2, g3', ?_⟩
            intro c' h
            cases h
            exact g4 c1 hfs
          | none =>
            rw [if_pos (by simp), nI_1 w]
            exact ih (w + 1) d1 rd1 ft1 (by omega) (by omega) g2 g3' g1'
      · rw [if_neg hsh, nI_1 w, skip (Or.inl (by simpa using hsh))]
        exact ih (w + 1) d rd _ (by omega) (by omega) hw hd hup
theorem X_fillF4 (k e t : Int32) (n c : Nat) (sn : Int32) (d : Nat → Int32) (rd : zRD) (ft : Nat → zRD) (hn : n ≤ 5) (hp : 4 ≤ n) (hw : ∀ j, j < n → isw (d j)) (hd : ∀ j, j < 4 → d j = dig 4 c j) (hf : ft 4 = (k, rdn k d 4 0 q0)) (hs : (rdn k d 4 0 q0).2.2.2.2 = false) (ht : ∃ it, it ≤ 20 ∧ t = iv it) : FillOk k e t n 4 c sn d ft (f_X8_fillFrom_4 ((d, nI n, sn), rd, ft, k, e, t)) := by
  unfold f_X8_fillFrom_4
  dsimp only
  have h6 : ((4 : Int32) < nI n) ↔ 4 < n := nI_ltI (a := 4) (b := n) (by omega) (by omega)
  by_cases hc : 4 < n
  · rw [if_pos (h6.mpr hc)]
    obtain ⟨rd', ft', d', ex, g1, g2, g3, g4⟩ := X_fl4 k e t n c sn d ft hn hc hd hf hs ht FU 0 d rd ft (by omega) (FU_lt (by omega)) hw (fun _ _ => rfl) (fun _ _ => rfl)
    rw [nI_0] at ex
    have ep : (6 - 0) * 6 ^ (n - (4 + 1)) = 6 ^ (n - 4) := by
      rw [show n - 4 = (n - (4 + 1)) + 1 by omega, Nat.pow_succ, Nat.mul_comm]
    have es : (c * 6 + 0) * 6 ^ (n - (4 + 1)) = c * 6 ^ (n - 4) := by
      rw [show n - 4 = (n - (4 + 1)) + 1 by omega, Nat.pow_succ, Nat.add_zero, Nat.mul_assoc, Nat.mul_comm 6]
    rw [ep, es] at ex g4
    exact ⟨rd', ft', d', ex, g1, g2, g3, g4⟩
  · have e5 : n = 4 := by omega
    subst e5
    rw [if_neg (by decide)]
    exact X_fitsOk k e t 4 c sn d rd ft hn hw hd hf hs
theorem X_fl3 (k e t : Int32) (n c : Nat) (sn : Int32) (d0 : Nat → Int32) (ft0 : Nat → zRD) (hn : n ≤ 5) (hp : 3 < n) (hd0 : ∀ j, j < 3 → d0 j = dig 3 c j) (hf0 : ft0 3 = (k, rdn k d0 3 0 q0)) (hs0 : (rdn k d0 3 0 q0).2.2.2.2 = false) (ht : ∃ it, it ≤ 20 ∧ t = iv it) : ∀ (fu w : Nat) (d : Nat → Int32) (rd : zRD) (ft : Nat → zRD), w ≤ 6 → 6 - w < fu → (∀ j, j < n → isw (d j)) → (∀ j, j < 3 → d j = d0 j) → (∀ j, j ≤ 3 → ft j = ft0 j) → ∃ rd' ft' d', lp_X8_fillFrom_3_62 (fun _ a b c d e f => some (false, (a, b, c, d, e, f))) fu (nI w) (d, nI n, sn) rd ft k e t = some ((fstc (gd k e t n) ((6 - w) * 6 ^ (n - (3 + 1))) ((c * 6 + w) * 6 ^ (n - (3 + 1)))).isSome, ((d', nI n, sn), rd', ft', k, e, t)) ∧ (∀ j, j ≤ 3 → ft' j = ft0 j) ∧ (∀ j, j < n → isw (d' j)) ∧ (∀ j, j < 3 → d' j = d0 j) ∧ ∀ c', fstc (gd k e t n) ((6 - w) * 6 ^ (n - (3 + 1))) ((c * 6 + w) * 6 ^ (n - (3 + 1))) = some c' → ∀ j, j < n → d' j = dig n c' j := by
  intro fu
  induction fu with
  | zero => intro w d rd ft _ hh; omega
  | succ fu ih =>
    intro w d rd ft hw6 hfu hw hd hft
    rw [lp_X8_fillFrom_3_62]
    have h6 : ((6 : Int32) ≤ nI w) ↔ 6 ≤ w := nI_leI (a := 6) (b := w) (by omega) (by omega)
    by_cases hc : 6 ≤ w
    · have e1 : w = 6 := by omega
      subst e1
      rw [if_pos (h6.mpr hc), Nat.sub_self, Nat.zero_mul]
      refine ⟨rd, ft, d, rfl, hft, hw, hd, ?_⟩
      intro c' h
      cases h
    · rw [if_neg (mt h6.mp hc), hft 3 (Nat.le_refl _), hf0]
      unfold f_X6_copy
      rw [Option.bind_some, X_hear k (nI w) _ (isw_nI (by omega)), Option.bind_some]
      -- the prefix with w
      have hdg : ∀ j, j < 3 + 1 → upd d 3 (nI w) j = dig (3 + 1) (c * 6 + w) j := by
        intro j hj
        rw [upd_at]
        by_cases hjp : j = 3
        · rw [if_pos hjp, hjp, dig_last _ _ _ (by omega)]
        · rw [if_neg hjp, dig_cat _ _ _ _ (by omega) (by omega), hd j (by omega), hd0 j (by omega)]
      have e0 : rdn k d0 3 0 q0 = rdn k (dig (3 + 1) (c * 6 + w)) 3 0 q0 := rdn_congr k _ _ _ _ _ (fun j _ hj => by rw [dig_cat _ _ _ _ (by omega) (by omega), hd0 j (by omega)])
      have eq1 : stp k (nI w) (rdn k d0 3 0 q0) = rdn k (dig (3 + 1) (c * 6 + w)) (3 + 1) 0 q0 := by
        rw [rdn_snoc k (dig (3 + 1) (c * 6 + w)) 3 q0 (by rw [← e0]; exact hs0), ← e0, dig_last _ _ _ (by omega)]
      rw [eq1]
      generalize hQ : rdn k (dig (3 + 1) (c * 6 + w)) (3 + 1) 0 q0 = q
      obtain ⟨it, hit, eit⟩ := ht
      obtain ⟨iq, hiq, hiq2, _, _⟩ := rdn_iv k (dig (3 + 1) (c * 6 + w)) (3 + 1) 0 q0 10 (by decide) (by omega) (by decide) (fun j _ _ => dig_isw _ _ j)
      rw [hQ] at hiq
      have hup : ∀ j, j ≤ 3 → va_up ft (3 + 1) (k, q) j = ft0 j := fun j hj => by rw [va_up_ne _ _ (by omega), hft j hj]
      have esp : (6 - w) * 6 ^ (n - (3 + 1)) = 6 ^ (n - (3 + 1)) + (6 - (w + 1)) * 6 ^ (n - (3 + 1)) := by
        rw [show 6 - w = 1 + (6 - (w + 1)) by omega, Nat.add_mul, Nat.one_mul]
      have esn : (c * 6 + w) * 6 ^ (n - (3 + 1)) + 6 ^ (n - (3 + 1)) = (c * 6 + (w + 1)) * 6 ^ (n - (3 + 1)) := by
        rw [show c * 6 + (w + 1) = (c * 6 + w) + 1 by omega, Nat.add_mul (c * 6 + w), Nat.one_mul]
      have skip : (q.2.2.2.2 = true ∨ n - (3 + 1) < (aN it - aN iq) + (aN iq - aN it)) → fstc (gd k e t n) ((6 - w) * 6 ^ (n - (3 + 1))) ((c * 6 + w) * 6 ^ (n - (3 + 1))) = fstc (gd k e t n) ((6 - (w + 1)) * 6 ^ (n - (3 + 1))) ((c * 6 + (w + 1)) * 6 ^ (n - (3 + 1))) := by
        intro hbad
        rw [esp, fstc_split, prune k e t n (3 + 1) (c * 6 + w) q it iq (by omega) hn hQ.symm eit hit hiq hiq2 hbad, esn]
      simp only [bI_0]
      by_cases hsh : q.2.2.2.2 = false
      · rw [if_pos hsh]
        have ec := X_can d n (3 + 1) it iq sn rd (va_up ft (3 + 1) (k, q)) k e (by omega) hn hit hiq2
        rw [← eit, ← hiq, show nI (3 + 1) = 4 from rfl] at ec
        rw [show f_X8_canReachTop _ q.1 4 = _ from ec, Option.bind_some]
        by_cases hb : n - (3 + 1) < (aN it - aN iq) + (aN iq - aN it)
        · rw [if_pos (by simp [hb]), nI_1 w, skip (Or.inr hb)]
          exact ih (w + 1) d rd _ (by omega) (by omega) hw hd hup
        · rw [if_neg (by simp [hb])]
          have epu := X_put3 d n 3 sn (nI w) (by omega) hp
          rw [show nI 3 = 3 from rfl] at epu
          rw [epu, Option.bind_some]
          have hw' : ∀ j, j < n → isw (upd d 3 (nI w) j) := by
            intro j hj
            rw [upd_at]
            split
            · exact isw_nI (by omega)
            · exact hw j hj
          have erd : rdn k (upd d 3 (nI w)) (3 + 1) 0 q0 = q := by
            rw [← hQ]
            exact rdn_congr k _ _ _ _ _ (fun j _ hj => hdg j (by omega))
          obtain ⟨rd1, ft1, d1, ex, g1, g2, g3, g4⟩ := X_fillF4 k e t n (c * 6 + w) sn (upd d 3 (nI w)) rd (va_up ft (3 + 1) (k, q)) hn (by omega) hw' hdg (by rw [va_up_self, erd]) (by rw [erd]; exact hsh) ⟨it, hit, eit⟩
          rw [show f_X8_fillFrom_4 _ = _ from ex, Option.bind_some]
          have g1' : ∀ j, j ≤ 3 → ft1 j = ft0 j := fun j hj => by rw [g1 j (by omega), hup j hj]
          have g3' : ∀ j, j < 3 → d1 j = d0 j := fun j hj => by rw [g3 j (by omega), upd_at, if_neg (by omega), hd j hj]
          rw [esp, fstc_split, esn]
          cases hfs : fstc (gd k e t n) (6 ^ (n - (3 + 1))) ((c * 6 + w) * 6 ^ (n - (3 + 1))) with
          | some c1 =>
            rw [if_neg (by simp)]
            refine ⟨rd1, ft1, d1, rfl, g1', g2, g3', ?_⟩
            intro c' h
            cases h
            exact g4 c1 hfs
          | none =>
            rw [if_pos (by simp), nI_1 w]
            exact ih (w + 1) d1 rd1 ft1 (by omega) (by omega) g2 g3' g1'
      · rw [if_neg hsh, nI_1 w, skip (Or.inl (by simpa using hsh))]
        exact ih (w + 1) d rd _ (by omega) (by omega) hw hd hup
theorem X_fillF3 (k e t : Int32) (n c : Nat) (sn : Int32) (d : Nat → Int32) (rd : zRD) (ft : Nat → zRD) (hn : n ≤ 5) (hp : 3 ≤ n) (hw : ∀ j, j < n → isw (d j)) (hd : ∀ j, j < 3 → d j = dig 3 c j) (hf : ft 3 = (k, rdn k d 3 0 q0)) (hs : (rdn k d 3 0 q0).2.2.2.2 = false) (ht : ∃ it, it ≤ 20 ∧ t = iv it) : FillOk k e t n 3 c sn d ft (f_X8_fillFrom_3 ((d, nI n, sn), rd, ft, k, e, t)) := by
  unfold f_X8_fillFrom_3
  dsimp only
  have h6 : ((3 : Int32) < nI n) ↔ 3 < n := nI_ltI (a := 3) (b := n) (by omega) (by omega)
  by_cases hc : 3 < n
  · rw [if_pos (h6.mpr hc)]
    obtain ⟨rd', ft', d', ex, g1, g2, g3, g4⟩ := X_fl3 k e t n c sn d ft hn hc hd hf hs ht FU 0 d rd ft (by omega) (FU_lt (by omega)) hw (fun _ _ => rfl) (fun _ _ => rfl)
    rw [nI_0] at ex
    have ep : (6 - 0) * 6 ^ (n - (3 + 1)) = 6 ^ (n - 3) := by
      rw [show n - 3 = (n - (3 + 1)) + 1 by omega, Nat.pow_succ, Nat.mul_comm]
    have es : (c * 6 + 0) * 6 ^ (n - (3 + 1)) = c * 6 ^ (n - 3) := by
      rw [show n - 3 = (n - (3 + 1)) + 1 by omega, Nat.pow_succ, Nat.add_zero, Nat.mul_assoc, Nat.mul_comm 6]
    rw [ep, es] at ex g4
    exact ⟨rd', ft', d', ex, g1, g2, g3, g4⟩
  · have e5 : n = 3 := by omega
    subst e5
    rw [if_neg (by decide)]
    exact X_fitsOk k e t 3 c sn d rd ft hn hw hd hf hs
theorem X_fl2 (k e t : Int32) (n c : Nat) (sn : Int32) (d0 : Nat → Int32) (ft0 : Nat → zRD) (hn : n ≤ 5) (hp : 2 < n) (hd0 : ∀ j, j < 2 → d0 j = dig 2 c j) (hf0 : ft0 2 = (k, rdn k d0 2 0 q0)) (hs0 : (rdn k d0 2 0 q0).2.2.2.2 = false) (ht : ∃ it, it ≤ 20 ∧ t = iv it) : ∀ (fu w : Nat) (d : Nat → Int32) (rd : zRD) (ft : Nat → zRD), w ≤ 6 → 6 - w < fu → (∀ j, j < n → isw (d j)) → (∀ j, j < 2 → d j = d0 j) → (∀ j, j ≤ 2 → ft j = ft0 j) → ∃ rd' ft' d', lp_X8_fillFrom_2_62 (fun _ a b c d e f => some (false, (a, b, c, d, e, f))) fu (nI w) (d, nI n, sn) rd ft k e t = some ((fstc (gd k e t n) ((6 - w) * 6 ^ (n - (2 + 1))) ((c * 6 + w) * 6 ^ (n - (2 + 1)))).isSome, ((d', nI n, sn), rd', ft', k, e, t)) ∧ (∀ j, j ≤ 2 → ft' j = ft0 j) ∧ (∀ j, j < n → isw (d' j)) ∧ (∀ j, j < 2 → d' j = d0 j) ∧ ∀ c', fstc (gd k e t n) ((6 - w) * 6 ^ (n - (2 + 1))) ((c * 6 + w) * 6 ^ (n - (2 + 1))) = some c' → ∀ j, j < n → d' j = dig n c' j := by
  intro fu
  induction fu with
  | zero => intro w d rd ft _ hh; omega
  | succ fu ih =>
    intro w d rd ft hw6 hfu hw hd hft
    rw [lp_X8_fillFrom_2_62]
    have h6 : ((6 : Int32) ≤ nI w) ↔ 6 ≤ w := nI_leI (a := 6) (b := w) (by omega) (by omega)
    by_cases hc : 6 ≤ w
    · have e1 : w = 6 := by omega
      subst e1
      rw [if_pos (h6.mpr hc), Nat.sub_self, Nat.zero_mul]
      refine ⟨rd, ft, d, rfl, hft, hw, hd, ?_⟩
      intro c' h
      cases h
    · rw [if_neg (mt h6.mp hc), hft 2 (Nat.le_refl _), hf0]
      unfold f_X6_copy
      rw [Option.bind_some, X_hear k (nI w) _ (isw_nI (by omega)), Option.bind_some]
      -- the prefix with w
      have hdg : ∀ j, j < 2 + 1 → upd d 2 (nI w) j = dig (2 + 1) (c * 6 + w) j := by
        intro j hj
        rw [upd_at]
        by_cases hjp : j = 2
        · rw [if_pos hjp, hjp, dig_last _ _ _ (by omega)]
        · rw [if_neg hjp, dig_cat _ _ _ _ (by omega) (by omega), hd j (by omega), hd0 j (by omega)]
      have e0 : rdn k d0 2 0 q0 = rdn k (dig (2 + 1) (c * 6 + w)) 2 0 q0 := rdn_congr k _ _ _ _ _ (fun j _ hj => by rw [dig_cat _ _ _ _ (by omega) (by omega), hd0 j (by omega)])
      have eq1 : stp k (nI w) (rdn k d0 2 0 q0) = rdn k (dig (2 + 1) (c * 6 + w)) (2 + 1) 0 q0 := by
        rw [rdn_snoc k (dig (2 + 1) (c * 6 + w)) 2 q0 (by rw [← e0]; exact hs0), ← e0, dig_last _ _ _ (by omega)]
      rw [eq1]
      generalize hQ : rdn k (dig (2 + 1) (c * 6 + w)) (2 + 1) 0 q0 = q
      obtain ⟨it, hit, eit⟩ := ht
      obtain ⟨iq, hiq, hiq2, _, _⟩ := rdn_iv k (dig (2 + 1) (c * 6 + w)) (2 + 1) 0 q0 10 (by decide) (by omega) (by decide) (fun j _ _ => dig_isw _ _ j)
      rw [hQ] at hiq
      have hup : ∀ j, j ≤ 2 → va_up ft (2 + 1) (k, q) j = ft0 j := fun j hj => by rw [va_up_ne _ _ (by omega), hft j hj]
      have esp : (6 - w) * 6 ^ (n - (2 + 1)) = 6 ^ (n - (2 + 1)) + (6 - (w + 1)) * 6 ^ (n - (2 + 1)) := by
        rw [show 6 - w = 1 + (6 - (w + 1)) by omega, Nat.add_mul, Nat.one_mul]
      have esn : (c * 6 + w) * 6 ^ (n - (2 + 1)) + 6 ^ (n - (2 + 1)) = (c * 6 + (w + 1)) * 6 ^ (n - (2 + 1)) := by
        rw [show c * 6 + (w + 1) = (c * 6 + w) + 1 by omega, Nat.add_mul (c * 6 + w), Nat.one_mul]
      have skip : (q.2.2.2.2 = true ∨ n - (2 + 1) < (aN it - aN iq) + (aN iq - aN it)) → fstc (gd k e t n) ((6 - w) * 6 ^ (n - (2 + 1))) ((c * 6 + w) * 6 ^ (n - (2 + 1))) = fstc (gd k e t n) ((6 - (w + 1)) * 6 ^ (n - (2 + 1))) ((c * 6 + (w + 1)) * 6 ^ (n - (2 + 1))) := by
        intro hbad
        rw [esp, fstc_split, prune k e t n (2 + 1) (c * 6 + w) q it iq (by omega) hn hQ.symm eit hit hiq hiq2 hbad, esn]
      simp only [bI_0]
      by_cases hsh : q.2.2.2.2 = false
      · rw [if_pos hsh]
        have ec := X_can d n (2 + 1) it iq sn rd (va_up ft (2 + 1) (k, q)) k e (by omega) hn hit hiq2
        rw [← eit, ← hiq, show nI (2 + 1) = 3 from rfl] at ec
        rw [show f_X8_canReachTop _ q.1 3 = _ from ec, Option.bind_some]
        by_cases hb : n - (2 + 1) < (aN it - aN iq) + (aN iq - aN it)
        · rw [if_pos (by simp [hb]), nI_1 w, skip (Or.inr hb)]
          exact ih (w + 1) d rd _ (by omega) (by omega) hw hd hup
        · rw [if_neg (by simp [hb])]
          have epu := X_put3 d n 2 sn (nI w) (by omega) hp
          rw [show nI 2 = 2 from rfl] at epu
          rw [epu, Option.bind_some]
          have hw' : ∀ j, j < n → isw (upd d 2 (nI w) j) := by
            intro j hj
            rw [upd_at]
            split
            · exact isw_nI (by omega)
            · exact hw j hj
          have erd : rdn k (upd d 2 (nI w)) (2 + 1) 0 q0 = q := by
            rw [← hQ]
            exact rdn_congr k _ _ _ _ _ (fun j _ hj => hdg j (by omega))
          obtain ⟨rd1, ft1, d1, ex, g1, g2, g3, g4⟩ := X_fillF3 k e t n (c * 6 + w) sn (upd d 2 (nI w)) rd (va_up ft (2 + 1) (k, q)) hn (by omega) hw' hdg (by rw [va_up_self, erd]) (by rw [erd]; exact hsh) ⟨it, hit, eit⟩
          rw [show f_X8_fillFrom_3 _ = _ from ex, Option.bind_some]
          have g1' : ∀ j, j ≤ 2 → ft1 j = ft0 j := fun j hj => by rw [g1 j (by omega), hup j hj]
          have g3' : ∀ j, j < 2 → d1 j = d0 j := fun j hj => by rw [g3 j (by omega), upd_at, if_neg (by omega), hd j hj]
          rw [esp, fstc_split, esn]
          cases hfs : fstc (gd k e t n) (6 ^ (n - (2 + 1))) ((c * 6 + w) * 6 ^ (n - (2 + 1))) with
          | some c1 =>
            rw [if_neg (by simp)]
            refine ⟨rd1, ft1, d1, rfl, g1', g2, g3', ?_⟩
            intro c' h
            cases h
            exact g4 c1 hfs
          | none =>
            rw [if_pos (by simp), nI_1 w]
            exact ih (w + 1) d1 rd1 ft1 (by omega) (by omega) g2 g3' g1'
      · rw [if_neg hsh, nI_1 w, skip (Or.inl (by simpa using hsh))]
        exact ih (w + 1) d rd _ (by omega) (by omega) hw hd hup
theorem X_fillF2 (k e t : Int32) (n c : Nat) (sn : Int32) (d : Nat → Int32) (rd : zRD) (ft : Nat → zRD) (hn : n ≤ 5) (hp : 2 ≤ n) (hw : ∀ j, j < n → isw (d j)) (hd : ∀ j, j < 2 → d j = dig 2 c j) (hf : ft 2 = (k, rdn k d 2 0 q0)) (hs : (rdn k d 2 0 q0).2.2.2.2 = false) (ht : ∃ it, it ≤ 20 ∧ t = iv it) : FillOk k e t n 2 c sn d ft (f_X8_fillFrom_2 ((d, nI n, sn), rd, ft, k, e, t)) := by
  unfold f_X8_fillFrom_2
  dsimp only
  have h6 : ((2 : Int32) < nI n) ↔ 2 < n := nI_ltI (a := 2) (b := n) (by omega) (by omega)
  by_cases hc : 2 < n
  · rw [if_pos (h6.mpr hc)]
    obtain ⟨rd', ft', d', ex, g1, g2, g3, g4⟩ := X_fl2 k e t n c sn d ft hn hc hd hf hs ht FU 0 d rd ft (by omega) (FU_lt (by omega)) hw (fun _ _ => rfl) (fun _ _ => rfl)
    rw [nI_0] at ex
    have ep : (6 - 0) * 6 ^ (n - (2 + 1)) = 6 ^ (n - 2) := by
      rw [show n - 2 = (n - (2 + 1)) + 1 by omega, Nat.pow_succ, Nat.mul_comm]
    have es : (c * 6 + 0) * 6 ^ (n - (2 + 1)) = c * 6 ^ (n - 2) := by
      rw [show n - 2 = (n - (2 + 1)) + 1 by omega, Nat.pow_succ, Nat.add_zero, Nat.mul_assoc, Nat.mul_comm 6]
    rw [ep, es] at ex g4
    exact ⟨rd', ft', d', ex, g1, g2, g3, g4⟩
  · have e5 : n = 2 := by omega
    subst e5
    rw [if_neg (by decide)]
    exact X_fitsOk k e t 2 c sn d rd ft hn hw hd hf hs
theorem X_fl1 (k e t : Int32) (n c : Nat) (sn : Int32) (d0 : Nat → Int32) (ft0 : Nat → zRD) (hn : n ≤ 5) (hp : 1 < n) (hd0 : ∀ j, j < 1 → d0 j = dig 1 c j) (hf0 : ft0 1 = (k, rdn k d0 1 0 q0)) (hs0 : (rdn k d0 1 0 q0).2.2.2.2 = false) (ht : ∃ it, it ≤ 20 ∧ t = iv it) : ∀ (fu w : Nat) (d : Nat → Int32) (rd : zRD) (ft : Nat → zRD), w ≤ 6 → 6 - w < fu → (∀ j, j < n → isw (d j)) → (∀ j, j < 1 → d j = d0 j) → (∀ j, j ≤ 1 → ft j = ft0 j) → ∃ rd' ft' d', lp_X8_fillFrom_1_62 (fun _ a b c d e f => some (false, (a, b, c, d, e, f))) fu (nI w) (d, nI n, sn) rd ft k e t = some ((fstc (gd k e t n) ((6 - w) * 6 ^ (n - (1 + 1))) ((c * 6 + w) * 6 ^ (n - (1 + 1)))).isSome, ((d', nI n, sn), rd', ft', k, e, t)) ∧ (∀ j, j ≤ 1 → ft' j = ft0 j) ∧ (∀ j, j < n → isw (d' j)) ∧ (∀ j, j < 1 → d' j = d0 j) ∧ ∀ c', fstc (gd k e t n) ((6 - w) * 6 ^ (n - (1 + 1))) ((c * 6 + w) * 6 ^ (n - (1 + 1))) = some c' → ∀ j, j < n → d' j = dig n c' j := by
  intro fu
  induction fu with
  | zero => intro w d rd ft _ hh; omega
  | succ fu ih =>
    intro w d rd ft hw6 hfu hw hd hft
    rw [lp_X8_fillFrom_1_62]
    have h6 : ((6 : Int32) ≤ nI w) ↔ 6 ≤ w := nI_leI (a := 6) (b := w) (by omega) (by omega)
    by_cases hc : 6 ≤ w
    · have e1 : w = 6 := by omega
      subst e1
      rw [if_pos (h6.mpr hc), Nat.sub_self, Nat.zero_mul]
      refine ⟨rd, ft, d, rfl, hft, hw, hd, ?_⟩
      intro c' h
      cases h
    · rw [if_neg (mt h6.mp hc), hft 1 (Nat.le_refl _), hf0]
      unfold f_X6_copy
      rw [Option.bind_some, X_hear k (nI w) _ (isw_nI (by omega)), Option.bind_some]
      -- the prefix with w
      have hdg : ∀ j, j < 1 + 1 → upd d 1 (nI w) j = dig (1 + 1) (c * 6 + w) j := by
        intro j hj
        rw [upd_at]
        by_cases hjp : j = 1
        · rw [if_pos hjp, hjp, dig_last _ _ _ (by omega)]
        · rw [if_neg hjp, dig_cat _ _ _ _ (by omega) (by omega), hd j (by omega), hd0 j (by omega)]
      have e0 : rdn k d0 1 0 q0 = rdn k (dig (1 + 1) (c * 6 + w)) 1 0 q0 := rdn_congr k _ _ _ _ _ (fun j _ hj => by rw [dig_cat _ _ _ _ (by omega) (by omega), hd0 j (by omega)])
      have eq1 : stp k (nI w) (rdn k d0 1 0 q0) = rdn k (dig (1 + 1) (c * 6 + w)) (1 + 1) 0 q0 := by
        rw [rdn_snoc k (dig (1 + 1) (c * 6 + w)) 1 q0 (by rw [← e0]; exact hs0), ← e0, dig_last _ _ _ (by omega)]
      rw [eq1]
      generalize hQ : rdn k (dig (1 + 1) (c * 6 + w)) (1 + 1) 0 q0 = q
      obtain ⟨it, hit, eit⟩ := ht
      obtain ⟨iq, hiq, hiq2, _, _⟩ := rdn_iv k (dig (1 + 1) (c * 6 + w)) (1 + 1) 0 q0 10 (by decide) (by omega) (by decide) (fun j _ _ => dig_isw _ _ j)
      rw [hQ] at hiq
      have hup : ∀ j, j ≤ 1 → va_up ft (1 + 1) (k, q) j = ft0 j := fun j hj => by rw [va_up_ne _ _ (by omega), hft j hj]
      have esp : (6 - w) * 6 ^ (n - (1 + 1)) = 6 ^ (n - (1 + 1)) + (6 - (w + 1)) * 6 ^ (n - (1 + 1)) := by
        rw [show 6 - w = 1 + (6 - (w + 1)) by omega, Nat.add_mul, Nat.one_mul]
      have esn : (c * 6 + w) * 6 ^ (n - (1 + 1)) + 6 ^ (n - (1 + 1)) = (c * 6 + (w + 1)) * 6 ^ (n - (1 + 1)) := by
        rw [show c * 6 + (w + 1) = (c * 6 + w) + 1 by omega, Nat.add_mul (c * 6 + w), Nat.one_mul]
      have skip : (q.2.2.2.2 = true ∨ n - (1 + 1) < (aN it - aN iq) + (aN iq - aN it)) → fstc (gd k e t n) ((6 - w) * 6 ^ (n - (1 + 1))) ((c * 6 + w) * 6 ^ (n - (1 + 1))) = fstc (gd k e t n) ((6 - (w + 1)) * 6 ^ (n - (1 + 1))) ((c * 6 + (w + 1)) * 6 ^ (n - (1 + 1))) := by
        intro hbad
        rw [esp, fstc_split, prune k e t n (1 + 1) (c * 6 + w) q it iq (by omega) hn hQ.symm eit hit hiq hiq2 hbad, esn]
      simp only [bI_0]
      by_cases hsh : q.2.2.2.2 = false
      · rw [if_pos hsh]
        have ec := X_can d n (1 + 1) it iq sn rd (va_up ft (1 + 1) (k, q)) k e (by omega) hn hit hiq2
        rw [← eit, ← hiq, show nI (1 + 1) = 2 from rfl] at ec
        rw [show f_X8_canReachTop _ q.1 2 = _ from ec, Option.bind_some]
        by_cases hb : n - (1 + 1) < (aN it - aN iq) + (aN iq - aN it)
        · rw [if_pos (by simp [hb]), nI_1 w, skip (Or.inr hb)]
          exact ih (w + 1) d rd _ (by omega) (by omega) hw hd hup
        · rw [if_neg (by simp [hb])]
          have epu := X_put3 d n 1 sn (nI w) (by omega) hp
          rw [show nI 1 = 1 from rfl] at epu
          rw [epu, Option.bind_some]
          have hw' : ∀ j, j < n → isw (upd d 1 (nI w) j) := by
            intro j hj
            rw [upd_at]
            split
            · exact isw_nI (by omega)
            · exact hw j hj
          have erd : rdn k (upd d 1 (nI w)) (1 + 1) 0 q0 = q := by
            rw [← hQ]
            exact rdn_congr k _ _ _ _ _ (fun j _ hj => hdg j (by omega))
          obtain ⟨rd1, ft1, d1, ex, g1, g2, g3, g4⟩ := X_fillF2 k e t n (c * 6 + w) sn (upd d 1 (nI w)) rd (va_up ft (1 + 1) (k, q)) hn (by omega) hw' hdg (by rw [va_up_self, erd]) (by rw [erd]; exact hsh) ⟨it, hit, eit⟩
          rw [show f_X8_fillFrom_2 _ = _ from ex, Option.bind_some]
          have g1' : ∀ j, j ≤ 1 → ft1 j = ft0 j := fun j hj => by rw [g1 j (by omega), hup j hj]
          have g3' : ∀ j, j < 1 → d1 j = d0 j := fun j hj => by rw [g3 j (by omega), upd_at, if_neg (by omega), hd j hj]
          rw [esp, fstc_split, esn]
          cases hfs : fstc (gd k e t n) (6 ^ (n - (1 + 1))) ((c * 6 + w) * 6 ^ (n - (1 + 1))) with
          | some c1 =>
            rw [if_neg (by simp)]
            refine ⟨rd1, ft1, d1, rfl, g1', g2, g3', ?_⟩
            intro c' h
            cases h
            exact g4 c1 hfs
          | none =>
            rw [if_pos (by simp), nI_1 w]
            exact ih (w + 1) d1 rd1 ft1 (by omega) (by omega) g2 g3' g1'
      · rw [if_neg hsh, nI_1 w, skip (Or.inl (by simpa using hsh))]
        exact ih (w + 1) d rd _ (by omega) (by omega) hw hd hup
theorem X_fillF1 (k e t : Int32) (n c : Nat) (sn : Int32) (d : Nat → Int32) (rd : zRD) (ft : Nat → zRD) (hn : n ≤ 5) (hp : 1 ≤ n) (hw : ∀ j, j < n → isw (d j)) (hd : ∀ j, j < 1 → d j = dig 1 c j) (hf : ft 1 = (k, rdn k d 1 0 q0)) (hs : (rdn k d 1 0 q0).2.2.2.2 = false) (ht : ∃ it, it ≤ 20 ∧ t = iv it) : FillOk k e t n 1 c sn d ft (f_X8_fillFrom_1 ((d, nI n, sn), rd, ft, k, e, t)) := by
  unfold f_X8_fillFrom_1
  dsimp only
  have h6 : ((1 : Int32) < nI n) ↔ 1 < n := nI_ltI (a := 1) (b := n) (by omega) (by omega)
  by_cases hc : 1 < n
  · rw [if_pos (h6.mpr hc)]
    obtain ⟨rd', ft', d', ex, g1, g2, g3, g4⟩ := X_fl1 k e t n c sn d ft hn hc hd hf hs ht FU 0 d rd ft (by omega) (FU_lt (by omega)) hw (fun _ _ => rfl) (fun _ _ => rfl)
    rw [nI_0] at ex
    have ep : (6 - 0) * 6 ^ (n - (1 + 1)) = 6 ^ (n - 1) := by
      rw [show n - 1 = (n - (1 + 1)) + 1 by omega, Nat.pow_succ, Nat.mul_comm]
    have es : (c * 6 + 0) * 6 ^ (n - (1 + 1)) = c * 6 ^ (n - 1) := by
      rw [show n - 1 = (n - (1 + 1)) + 1 by omega, Nat.pow_succ, Nat.add_zero, Nat.mul_assoc, Nat.mul_comm 6]
    rw [ep, es] at ex g4
    exact ⟨rd', ft', d', ex, g1, g2, g3, g4⟩
  · have e5 : n = 1 := by omega
    subst e5
    rw [if_neg (by decide)]
    exact X_fitsOk k e t 1 c sn d rd ft hn hw hd hf hs
theorem X_fl0 (k e t : Int32) (n c : Nat) (sn : Int32) (d0 : Nat → Int32) (ft0 : Nat → zRD) (hn : n ≤ 5) (hp : 0 < n) (hd0 : ∀ j, j < 0 → d0 j = dig 0 c j) (hf0 : ft0 0 = (k, rdn k d0 0 0 q0)) (hs0 : (rdn k d0 0 0 q0).2.2.2.2 = false) (ht : ∃ it, it ≤ 20 ∧ t = iv it) : ∀ (fu w : Nat) (d : Nat → Int32) (rd : zRD) (ft : Nat → zRD), w ≤ 6 → 6 - w < fu → (∀ j, j < n → isw (d j)) → (∀ j, j < 0 → d j = d0 j) → (∀ j, j ≤ 0 → ft j = ft0 j) → ∃ rd' ft' d', lp_X8_fillFrom_0_62 (fun _ a b c d e f => some (false, (a, b, c, d, e, f))) fu (nI w) (d, nI n, sn) rd ft k e t = some ((fstc (gd k e t n) ((6 - w) * 6 ^ (n - (0 + 1))) ((c * 6 + w) * 6 ^ (n - (0 + 1)))).isSome, ((d', nI n, sn), rd', ft', k, e, t)) ∧ (∀ j, j ≤ 0 → ft' j = ft0 j) ∧ (∀ j, j < n → isw (d' j)) ∧ (∀ j, j < 0 → d' j = d0 j) ∧ ∀ c', fstc (gd k e t n) ((6 - w) * 6 ^ (n - (0 + 1))) ((c * 6 + w) * 6 ^ (n - (0 + 1))) = some c' → ∀ j, j < n → d' j = dig n c' j := by
  intro fu
  induction fu with
  | zero => intro w d rd ft _ hh; omega
  | succ fu ih =>
    intro w d rd ft hw6 hfu hw hd hft
    rw [lp_X8_fillFrom_0_62]
    have h6 : ((6 : Int32) ≤ nI w) ↔ 6 ≤ w := nI_leI (a := 6) (b := w) (by omega) (by omega)
    by_cases hc : 6 ≤ w
    · have e1 : w = 6 := by omega
      subst e1
      rw [if_pos (h6.mpr hc), Nat.sub_self, Nat.zero_mul]
      refine ⟨rd, ft, d, rfl, hft, hw, hd, ?_⟩
      intro c' h
      cases h
    · rw [if_neg (mt h6.mp hc), hft 0 (Nat.le_refl _), hf0]
      unfold f_X6_copy
      rw [Option.bind_some, X_hear k (nI w) _ (isw_nI (by omega)), Option.bind_some]
      -- the prefix with w
      have hdg : ∀ j, j < 0 + 1 → upd d 0 (nI w) j = dig (0 + 1) (c * 6 + w) j := by
        intro j hj
        rw [upd_at]
        by_cases hjp : j = 0
        · rw [if_pos hjp, hjp, dig_last _ _ _ (by omega)]
        · rw [if_neg hjp, dig_cat _ _ _ _ (by omega) (by omega), hd j (by omega), hd0 j (by omega)]
      have e0 : rdn k d0 0 0 q0 = rdn k (dig (0 + 1) (c * 6 + w)) 0 0 q0 := rdn_congr k _ _ _ _ _ (fun j _ hj => by rw [dig_cat _ _ _ _ (by omega) (by omega), hd0 j (by omega)])
      have eq1 : stp k (nI w) (rdn k d0 0 0 q0) = rdn k (dig (0 + 1) (c * 6 + w)) (0 + 1) 0 q0 := by
        rw [rdn_snoc k (dig (0 + 1) (c * 6 + w)) 0 q0 (by rw [← e0]; exact hs0), ← e0, dig_last _ _ _ (by omega)]
      rw [eq1]
      generalize hQ : rdn k (dig (0 + 1) (c * 6 + w)) (0 + 1) 0 q0 = q
      obtain ⟨it, hit, eit⟩ := ht
      obtain ⟨iq, hiq, hiq2, _, _⟩ := rdn_iv k (dig (0 + 1) (c * 6 + w)) (0 + 1) 0 q0 10 (by decide) (by omega) (by decide) (fun j _ _ => dig_isw _ _ j)
      rw [hQ] at hiq
      have hup : ∀ j, j ≤ 0 → va_up ft (0 + 1) (k, q) j = ft0 j := fun j hj => by rw [va_up_ne _ _ (by omega), hft j hj]
      have esp : (6 - w) * 6 ^ (n - (0 + 1)) = 6 ^ (n - (0 + 1)) + (6 - (w + 1)) * 6 ^ (n - (0 + 1)) := by
        rw [show 6 - w = 1 + (6 - (w + 1)) by omega, Nat.add_mul, Nat.one_mul]
      have esn : (c * 6 + w) * 6 ^ (n - (0 + 1)) + 6 ^ (n - (0 + 1)) = (c * 6 + (w + 1)) * 6 ^ (n - (0 + 1)) := by
        rw [show c * 6 + (w + 1) = (c * 6 + w) + 1 by omega, Nat.add_mul (c * 6 + w), Nat.one_mul]
      have skip : (q.2.2.2.2 = true ∨ n - (0 + 1) < (aN it - aN iq) + (aN iq - aN it)) → fstc (gd k e t n) ((6 - w) * 6 ^ (n - (0 + 1))) ((c * 6 + w) * 6 ^ (n - (0 + 1))) = fstc (gd k e t n) ((6 - (w + 1)) * 6 ^ (n - (0 + 1))) ((c * 6 + (w + 1)) * 6 ^ (n - (0 + 1))) := by
        intro hbad
        rw [esp, fstc_split, prune k e t n (0 + 1) (c * 6 + w) q it iq (by omega) hn hQ.symm eit hit hiq hiq2 hbad, esn]
      simp only [bI_0]
      by_cases hsh : q.2.2.2.2 = false
      · rw [if_pos hsh]
        have ec := X_can d n (0 + 1) it iq sn rd (va_up ft (0 + 1) (k, q)) k e (by omega) hn hit hiq2
        rw [← eit, ← hiq, show nI (0 + 1) = 1 from rfl] at ec
        rw [show f_X8_canReachTop _ q.1 1 = _ from ec, Option.bind_some]
        by_cases hb : n - (0 + 1) < (aN it - aN iq) + (aN iq - aN it)
        · rw [if_pos (by simp [hb]), nI_1 w, skip (Or.inr hb)]
          exact ih (w + 1) d rd _ (by omega) (by omega) hw hd hup
        · rw [if_neg (by simp [hb])]
          have epu := X_put3 d n 0 sn (nI w) (by omega) hp
          rw [show nI 0 = 0 from rfl] at epu
          rw [epu, Option.bind_some]
          have hw' : ∀ j, j < n → isw (upd d 0 (nI w) j) := by
            intro j hj
            rw [upd_at]
            split
            · exact isw_nI (by omega)
            · exact hw j hj
          have erd : rdn k (upd d 0 (nI w)) (0 + 1) 0 q0 = q := by
            rw [← hQ]
            exact rdn_congr k _ _ _ _ _ (fun j _ hj => hdg j (by omega))
          obtain ⟨rd1, ft1, d1, ex, g1, g2, g3, g4⟩ := X_fillF1 k e t n (c * 6 + w) sn (upd d 0 (nI w)) rd (va_up ft (0 + 1) (k, q)) hn (by omega) hw' hdg (by rw [va_up_self, erd]) (by rw [erd]; exact hsh) ⟨it, hit, eit⟩
          rw [show f_X8_fillFrom_1 _ = _ from ex, Option.bind_some]
          have g1' : ∀ j, j ≤ 0 → ft1 j = ft0 j := fun j hj => by rw [g1 j (by omega), hup j hj]
          have g3' : ∀ j, j < 0 → d1 j = d0 j := fun j hj => by rw [g3 j (by omega), upd_at, if_neg (by omega), hd j hj]
          rw [esp, fstc_split, esn]
          cases hfs : fstc (gd k e t n) (6 ^ (n - (0 + 1))) ((c * 6 + w) * 6 ^ (n - (0 + 1))) with
          | some c1 =>
            rw [if_neg (by simp)]
            refine ⟨rd1, ft1, d1, rfl, g1', g2, g3', ?_⟩
            intro c' h
            cases h
            exact g4 c1 hfs
          | none =>
            rw [if_pos (by simp), nI_1 w]
            exact ih (w + 1) d1 rd1 ft1 (by omega) (by omega) g2 g3' g1'
      · rw [if_neg hsh, nI_1 w, skip (Or.inl (by simpa using hsh))]
        exact ih (w + 1) d rd _ (by omega) (by omega) hw hd hup
theorem X_fillF0 (k e t : Int32) (n c : Nat) (sn : Int32) (d : Nat → Int32) (rd : zRD) (ft : Nat → zRD) (hn : n ≤ 5) (hp : 0 ≤ n) (hw : ∀ j, j < n → isw (d j)) (hd : ∀ j, j < 0 → d j = dig 0 c j) (hf : ft 0 = (k, rdn k d 0 0 q0)) (hs : (rdn k d 0 0 q0).2.2.2.2 = false) (ht : ∃ it, it ≤ 20 ∧ t = iv it) : FillOk k e t n 0 c sn d ft (f_X8_fillFrom_0 ((d, nI n, sn), rd, ft, k, e, t)) := by
  unfold f_X8_fillFrom_0
  dsimp only
  have h6 : ((0 : Int32) < nI n) ↔ 0 < n := nI_ltI (a := 0) (b := n) (by omega) (by omega)
  by_cases hc : 0 < n
  · rw [if_pos (h6.mpr hc)]
    obtain ⟨rd', ft', d', ex, g1, g2, g3, g4⟩ := X_fl0 k e t n c sn d ft hn hc hd hf hs ht FU 0 d rd ft (by omega) (FU_lt (by omega)) hw (fun _ _ => rfl) (fun _ _ => rfl)
    rw [nI_0] at ex
    have ep : (6 - 0) * 6 ^ (n - (0 + 1)) = 6 ^ (n - 0) := by
      rw [show n - 0 = (n - (0 + 1)) + 1 by omega, Nat.pow_succ, Nat.mul_comm]
    have es : (c * 6 + 0) * 6 ^ (n - (0 + 1)) = c * 6 ^ (n - 0) := by
      rw [show n - 0 = (n - (0 + 1)) + 1 by omega, Nat.pow_succ, Nat.add_zero, Nat.mul_assoc, Nat.mul_comm 6]
    rw [ep, es] at ex g4
    exact ⟨rd', ft', d', ex, g1, g2, g3, g4⟩
  · have e5 : n = 0 := by omega
    subst e5
    rw [if_neg (by decide)]
    exact X_fitsOk k e t 0 c sn d rd ft hn hw hd hf hs
