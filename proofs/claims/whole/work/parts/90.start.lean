set_option maxHeartbeats 8000000 in
set_option maxRecDepth 100000 in
theorem whole_start {p : Program} {e : Env} {s : State} {m : MethodId} {below : List Frame} {meth : Method} {c : Code} (l : Launch) {b L : Nat} {xs : Nat → Int32} (hL : L ≤ 320) (C0 : lw_At p s m meth c b L xs) : W p l e room_1 s m #[Value.ref b] below meth c s.heap [] 0 0 (lw_Z below #[Value.ref b] s) (entryFrame m ([Value.ref b] : List Value).toArray 4) := by
  obtain ⟨hx, hb, hr, hml, hown, hts0, hX, hbl, hlocks, hgv⟩ := id C0
  have hts : ∀ w ∈ WL, w.before #[Value.ref b] s = true := fun w h => hts0 w (wl_in w h)
  obtain ⟨c0, i0, k0⟩ := u_known (C := RX0) (T := TX0) (N := 5) (n := 5) hts iwX0 (hts _ knX0)
  obtain ⟨c1, i1, k1⟩ := u_known (C := RX1) (T := TX1) (N := 3) (n := 3) hts iwX1 (hts _ knX1)
  obtain ⟨c2, i2, k2⟩ := u_known (C := RX2) (T := TX2) (N := 5) (n := 5) hts iwX2 (hts _ knX2)
  obtain ⟨c3, i3, k3⟩ := u_known (C := RX3) (T := TX3) (N := 3) (n := 3) hts iwX3 (hts _ knX3)
  obtain ⟨c4, i4, k4⟩ := u_known (C := RX4) (T := TX4) (N := 2) (n := 2) hts iwX4 (hts _ knX4)
  obtain ⟨c5, i5, k5⟩ := u_known (C := RX5) (T := TX5) (N := 2) (n := 2) hts iwX5 (hts _ knX5)
  obtain ⟨c6, i6, k6⟩ := u_known (C := RX6) (T := TX6) (N := 6) (n := 6) hts iwX6 (hts _ knX6)
  obtain ⟨c7, i7, k7⟩ := u_known (C := RX7) (T := TX7) (N := 2) (n := 2) hts iwX7 (hts _ knX7)
  obtain ⟨c8, i8, k8⟩ := u_known (C := RX8) (T := TX8) (N := 6) (n := 6) hts iwX8 (hts _ knX8)
  obtain ⟨c9, i9, k9⟩ := u_known (C := RX9) (T := TX9) (N := 13) (n := 13) hts iwX9 (hts _ knX9)
  obtain ⟨c10, i10, k10⟩ := u_known (C := RX10) (T := TX10) (N := 30) (n := 30) hts iwX10 (hts _ knX10)
  obtain ⟨dC, dI, hKc⟩ : ∃ (dC : Nat → ClassId) (dI : Nat → Nat → Nat), ∀ (k : Nat) (q : vw_C), vwCl[k]? = some q → u_Kn s q.1 q.2.1 q.2.2 (dC k) (dI k) := by
    refine ⟨fun k => match k with | 0 => c0 | 1 => c1 | 2 => c2 | 3 => c3 | 4 => c4 | 5 => c5 | 6 => c6 | 7 => c7 | 8 => c8 | 9 => c9 | _ => c10, fun k => match k with | 0 => i0 | 1 => i1 | 2 => i2 | 3 => i3 | 4 => i4 | 5 => i5 | 6 => i6 | 7 => i7 | 8 => i8 | 9 => i9 | _ => i10, ?_⟩
    intro k q hq
    match k, hq with
    | 0, hq => cases hq; exact k0
    | 1, hq => cases hq; exact k1
    | 2, hq => cases hq; exact k2
    | 3, hq => cases hq; exact k3
    | 4, hq => cases hq; exact k4
    | 5, hq => cases hq; exact k5
    | 6, hq => cases hq; exact k6
    | 7, hq => cases hq; exact k7
    | 8, hq => cases hq; exact k8
    | 9, hq => cases hq; exact k9
    | 10, hq => cases hq; exact k10
    | k + 11, hq => exact absurd hq (by simp [vwCl])
  obtain ⟨cI, kI, compI, a1, a2, a3⟩ := Cond.arrayClass_spec (hts _ ka_i)
  have hao : va_AO RX6 s := va_AO.of (hts0 _ ao_in)
  obtain ⟨compR, cR, kR, r1, r2, r3, r4, r5⟩ := Cond.arrayOver_spec (va_AO.use (A := #[]) hao)
  have hNA : NA s := ⟨fun x hx => va_Nw.of rfl (hts0 _ (nF_in x hx)), fun x hx => va_Nw.of rfl (hts0 _ (nM_in x hx)), hao⟩
  obtain ⟨G, hG⟩ : ∃ G : GG, G = ((dC, dI), cI, cR) := ⟨_, rfl⟩
  have hK : va_K G.1 vwCl (tys0 G) s := by
    subst hG
    refine ⟨hKc, fun k q h => ?_⟩
    match k, h with
    | 0, h => cases h; exact ⟨fun n z => ⟨fun k h => (by cases h), kI, a2, compI, a3⟩, a1⟩
    | 1, h => cases h; exact ⟨fun n z => ⟨fun k h => (by cases h), kR, r3, compR, r4⟩, ⟨kR, compR, r3, r4, r1, r5⟩⟩
    | k + 2, h => exact absurd h (by simp [tys0])
  have hW : KW G (fun q => s.heap.size ≤ q) s [] s.heap [] := ⟨hK, fun k q h => by simp at h, ⟨fun i j p q h => by simp at h, fun k q h => by simp at h⟩, va_S.rf, fun _ h => h, hNA⟩
  have C : CX p s m #[Value.ref b] meth c cL_law 4 RL ret meth.name := ⟨hx, hb, hml, hown, hts, hr, hlocks, rfl⟩
  have hl := lv_entry ([.ref b]) (n := 4) (Nat.le_of_ble_eq_true rfl)
  rw [lg_entry_eq]
  generalize (lg_sl ([.ref b]) ++ List.replicate (4 - (lg_sl ([.ref b])).length) Slot.unset).toArray = ls at hl ⊢
  have hl : lv_has ls 4 [(0, .ref b)] := hl
  refine zk_new C hW mkL_7 (Nat.le_of_ble_eq_true rfl) (Nat.le_of_ble_eq_true rfl) dL_law_0 (fun q1 H hW => ?_)
  have hW : KW G (fun q => s.heap.size ≤ q) s [(q1, .inr (9, [.null, .null, .null, .null, .null, .null, .null, .null, .null, .null, .int 0, .int 0, .int 0]))] H _ := hW
  refine lv_dup hx hb dL_law_3 rfl ?_
  refine zk_callN (As := []) (rest := [.ref q1]) (Wn := fun u1 => wX9 G (zq q1 u1) zX5 zX3 zX4 zX7 zX2 zX6 zX8 zX1 zX0 (fun _ => 0) 0 0 0) C hW hl mnL_9 (c_X9_init l G q1) ⟨(Nat.le_of_ble_eq_true rfl), (Nat.le_of_ble_eq_true rfl)⟩ ⟨rfl, rfl⟩ [0] rfl rfl rfl (Nat.le_of_ble_eq_true rfl) (fun _ => (Nat.le_of_ble_eq_true rfl)) (fun _ => rfl) dL_law_4 ⟨(Nat.le_of_ble_eq_true rfl), (Nat.le_of_ble_eq_true rfl)⟩ (fun u1 H locs hW => ?_)
  have hW : KW G (fun q => s.heap.size ≤ q) s (wX9 G (zq q1 u1) zX5 zX3 zX4 zX7 zX2 zX6 zX8 zX1 zX0 (fun _ => 0) 0 0 0) H locs := hW
  refine lv_astore_n (lv' := [(1, .ref q1), (0, .ref b)]) hx hb dL_law_7 rfl hl (by decide) rfl (fun ls hl => ?_)
  refine zk_new C hW mkL_10 (Nat.le_of_ble_eq_true rfl) (Nat.le_of_ble_eq_true rfl) dL_law_8 (fun q2 H hW => ?_)
  refine lv_dup hx hb dL_law_11 rfl ?_
  refine zk_callN (As := []) (rest := [.ref q2]) (Wn := fun u2 => wX9 G (zq q1 u1) zX5 zX3 zX4 zX7 zX2 zX6 zX8 zX1 zX0 (fun _ => 0) 0 0 0 ++ wX10 G (zq q2 u2) (fun _ => 0) 0 0 0 0 0 0 0 (fun _ => 0) 0 (fun _ => 0) 0 false 0 0 false 0 (fun _ => 0) 0 (fun _ => 0) (fun _ => 0) 0 (-1) 0 0 0 0 (fun _ => 0) (fun _ => 0) 0) C hW hl mnL_12 (c_X10_init l G q2) ⟨(Nat.le_of_ble_eq_true rfl), (Nat.le_of_ble_eq_true rfl)⟩ ⟨rfl, rfl⟩ [35] rfl rfl rfl (Nat.le_of_ble_eq_true rfl) (fun _ => (Nat.le_of_ble_eq_true rfl)) (fun _ => rfl) dL_law_12 ⟨(Nat.le_of_ble_eq_true rfl), (Nat.le_of_ble_eq_true rfl)⟩ (fun u2 H locs hW => ?_)
  have hW : KW G (fun q => s.heap.size ≤ q) s (wX9 G (zq q1 u1) zX5 zX3 zX4 zX7 zX2 zX6 zX8 zX1 zX0 (fun _ => 0) 0 0 0 ++ wX10 G (zq q2 u2) (fun _ => 0) 0 0 0 0 0 0 0 (fun _ => 0) 0 (fun _ => 0) 0 false 0 0 false 0 (fun _ => 0) 0 (fun _ => 0) (fun _ => 0) 0 (-1) 0 0 0 0 (fun _ => 0) (fun _ => 0) 0) H locs := hW
  refine lv_astore_n (lv' := [(2, .ref q2), (1, .ref q1), (0, .ref b)]) hx hb dL_law_15 rfl hl (by decide) rfl (fun ls hl => ?_)
  refine lv_iconst (v := 0) hx hb dL_law_16 (by decide) ?_
  refine lv_istore_n (lv' := [(3, .int 0), (2, .ref q2), (1, .ref q1), (0, .ref b)]) hx hb dL_law_17 rfl hl (by decide) rfl (fun ls hl => ?_)
  refine W.widen (k := 622860) (n := 7233669) (Nat.le_of_ble_eq_true rfl) (Nat.le_of_ble_eq_true rfl) ?_
  exact w_L_law C0 G (zq q1 u1) (zq q2 u2) FU 0 zX5 zX3 zX4 zX7 zX2 zX6 zX8 zX1 zX0 (fun _ => 0) 0 0 0 (fun _ => 0) 0 0 0 0 0 0 0 (fun _ => 0) 0 (fun _ => 0) 0 false 0 0 false 0 (fun _ => 0) 0 (fun _ => 0) (fun _ => 0) 0 (-1) 0 0 0 0 (fun _ => 0) (fun _ => 0) 0 (law_true L xs hL) _ _ _ hW (lv_sub hl [3, 2, 1, 0] rfl)
