set_option maxHeartbeats 8000000 in
set_option maxRecDepth 100000 in
theorem w_L_law {p : Program} {l : Launch} {e : Env} {s : State} {m : MethodId} {below : List Frame} {meth : Method} {c : Code} {b L : Nat} {xs : Nat → Int32} (C0 : lw_At p s m meth c b L xs) (G : GG) (q qm : Nat → Nat) :
    ∀ (n : Nat) (v3 : Int32) (s0_0 : zPG) (s0_1 : zLT) (s0_2 : zLS) (s0_3 : zTD) (s0_4 : zIM) (s0_5 : zRD) (s0_6 : zWR) (s0_7 : zEN) (s0_8 : zDY) (s0_9 : (Nat → Int32)) (s0_10 : Int32) (s0_11 : Int32) (s0_12 : Int32) (s1_0 : (Nat → Int32)) (s1_1 : Int32) (s1_2 : Int32) (s1_3 : Int32) (s1_4 : Int32) (s1_5 : Int32) (s1_6 : Int32) (s1_7 : Int32) (s1_8 : (Nat → Int32)) (s1_9 : Int32) (s1_10 : (Nat → Int32)) (s1_11 : Int32) (s1_12 : Bool) (s1_13 : Int32) (s1_14 : Int32) (s1_15 : Bool) (s1_16 : Int32) (s1_17 : (Nat → Int32)) (s1_18 : Int32) (s1_19 : (Nat → Int32)) (s1_20 : (Nat → Int32)) (s1_21 : Int32) (s1_22 : Int32) (s1_23 : Int32) (s1_24 : Int32) (s1_25 : Int32) (s1_26 : Int32) (s1_27 : (Nat → Int32)) (s1_28 : (Nat → Int32)) (s1_29 : Int64), lp_L_law L xs n v3 s0_0 s0_1 s0_2 s0_3 s0_4 s0_5 s0_6 s0_7 s0_8 s0_9 s0_10 s0_11 s0_12 s1_0 s1_1 s1_2 s1_3 s1_4 s1_5 s1_6 s1_7 s1_8 s1_9 s1_10 s1_11 s1_12 s1_13 s1_14 s1_15 s1_16 s1_17 s1_18 s1_19 s1_20 s1_21 s1_22 s1_23 s1_24 s1_25 s1_26 s1_27 s1_28 s1_29 = some true → ∀ (H : Heap) (locs : List Loc) (ls : Array Slot), KW G (fun q => s.heap.size ≤ q) s (wX9 G q s0_0 s0_1 s0_2 s0_3 s0_4 s0_5 s0_6 s0_7 s0_8 s0_9 s0_10 s0_11 s0_12 ++ wX10 G qm s1_0 s1_1 s1_2 s1_3 s1_4 s1_5 s1_6 s1_7 s1_8 s1_9 s1_10 s1_11 s1_12 s1_13 s1_14 s1_15 s1_16 s1_17 s1_18 s1_19 s1_20 s1_21 s1_22 s1_23 s1_24 s1_25 s1_26 s1_27 s1_28 s1_29) H locs → lv_has ls 4 [(0, .ref b), (1, .ref (q 0)), (2, .ref (qm 0)), (3, .int v3)] → W p l e room_1 s m #[Value.ref b] below meth c H locs 622860 7233669 (lw_Z below #[Value.ref b] s) (F0 m 18 ls []) := by
  obtain ⟨hx, hb, hr, hml, hown, hts, hX, hbl, hlocks, hgv⟩ := C0
  have C : CX p s m #[Value.ref b] meth c cL_law 4 RL ret meth.name := ⟨hx, hb, hml, hown, fun w h => hts w (wl_in w h), hr, hlocks, rfl⟩
  have hbA : ¬ (fun q : Nat => s.heap.size ≤ q) b := Nat.not_le.mpr hbl
  intro n
  induction n with
  | zero => intro v3 s0_0 s0_1 s0_2 s0_3 s0_4 s0_5 s0_6 s0_7 s0_8 s0_9 s0_10 s0_11 s0_12 s1_0 s1_1 s1_2 s1_3 s1_4 s1_5 s1_6 s1_7 s1_8 s1_9 s1_10 s1_11 s1_12 s1_13 s1_14 s1_15 s1_16 s1_17 s1_18 s1_19 s1_20 s1_21 s1_22 s1_23 s1_24 s1_25 s1_26 s1_27 s1_28 s1_29 hf; exact nomatch (show (none : Option Bool) = some true from hf)
  | succ n ih =>
    intro v3 s0_0 s0_1 s0_2 s0_3 s0_4 s0_5 s0_6 s0_7 s0_8 s0_9 s0_10 s0_11 s0_12 s1_0 s1_1 s1_2 s1_3 s1_4 s1_5 s1_6 s1_7 s1_8 s1_9 s1_10 s1_11 s1_12 s1_13 s1_14 s1_15 s1_16 s1_17 s1_18 s1_19 s1_20 s1_21 s1_22 s1_23 s1_24 s1_25 s1_26 s1_27 s1_28 s1_29 hf H locs ls hW hl
    rw [lp_L_law] at hf
    refine lv_iload_n hx hb dL_law_18 rfl (lv_at hl 3 rfl) ?_
    refine lv_aload_n hx hb dL_law_19 rfl (lv_at hl 0 rfl) ?_
    refine va_slen hx hb hX hbl hbA hW.2.2.2.1 dL_law_20 ?_
    refine lv_iconst (v := 5) hx hb dL_law_21 (by decide) ?_
    refine lv_isub hx hb dL_law_22 ?_
    refine lv_icmp_gt (tgt := 668) hx hb dL_law_23 (by decide) (fun c1 => ?_) (fun c1 => ?_)
    · have hf := ipos c1 hf
      refine lv_iconst (v := 1) hx hb dL_law_668 (by decide) ?_
      refine va_forget (fun q hq => hW.2.2.2.1.2.2 q hq) ?_
      exact lw_ret hx hb hr hlocks dL_law_669
    · have hf := ineg c1 hf
      refine lv_aload_n hx hb dL_law_26 rfl (lv_at hl 0 rfl) ?_
      refine lv_iload_n hx hb dL_law_27 rfl (lv_at hl 3 rfl) ?_
      obtain ⟨g2, hf⟩ := grd hf
      refine va_sld hx hb hX hbl hbA hW.2.2.2.1 g2 dL_law_28 ?_
      refine lv_bipush (v := 31) hx hb dL_law_29 (by decide) ?_
      refine lv_iand hx hb dL_law_31 ?_
      by_cases e3 : ((xs (Int32.toNatClampNeg v3)) &&& 31) = 0
      · have hf := ipos e3 hf
        refine lv_tableIn (tgt := 132) (off := 100) hx hb dL_law_32 (by rw [e3]; decide) (by rw [e3]; decide) (by rw [e3]; rfl) (by decide) ?_
        refine lv_aload_n hx hb dL_law_132 rfl (lv_at hl 1 rfl) ?_
        refine lv_aload_n hx hb dL_law_133 rfl (lv_at hl 0 rfl) ?_
        refine lv_iload_n hx hb dL_law_134 rfl (lv_at hl 3 rfl) ?_
        refine lv_iconst (v := 1) hx hb dL_law_135 (by decide) ?_
        refine lv_iadd hx hb dL_law_136 ?_
        obtain ⟨g4, hf⟩ := grd hf
        refine va_sld hx hb hX hbl hbA hW.2.2.2.1 g4 dL_law_137 ?_
        obtain ⟨u5, eu5, hf⟩ := bnd hf
        refine zk_callBI (As := [.int (xs (Int32.toNatClampNeg (v3 + 1)))]) (rest := []) (W1 := wX9 G q u5.2.1 u5.2.2.1 u5.2.2.2.1 u5.2.2.2.2.1 u5.2.2.2.2.2.1 u5.2.2.2.2.2.2.1 u5.2.2.2.2.2.2.2.1 u5.2.2.2.2.2.2.2.2.1 u5.2.2.2.2.2.2.2.2.2.1 u5.2.2.2.2.2.2.2.2.2.2.1 u5.2.2.2.2.2.2.2.2.2.2.2.1 u5.2.2.2.2.2.2.2.2.2.2.2.2.1 u5.2.2.2.2.2.2.2.2.2.2.2.2.2 ++ wX10 G qm s1_0 s1_1 s1_2 s1_3 s1_4 s1_5 s1_6 s1_7 s1_8 s1_9 s1_10 s1_11 s1_12 s1_13 s1_14 s1_15 s1_16 s1_17 s1_18 s1_19 s1_20 s1_21 s1_22 s1_23 s1_24 s1_25 s1_26 s1_27 s1_28 s1_29) C hW hl mvL_13 (c_X9_letter l G q (s0_0, s0_1, s0_2, s0_3, s0_4, s0_5, s0_6, s0_7, s0_8, s0_9, s0_10, s0_11, s0_12) (xs (Int32.toNatClampNeg (v3 + 1))) u5 eu5) ⟨(Nat.le_of_ble_eq_true rfl), (Nat.le_of_ble_eq_true rfl)⟩ ⟨rfl, rfl⟩ ([]) (wX10 G qm s1_0 s1_1 s1_2 s1_3 s1_4 s1_5 s1_6 s1_7 s1_8 s1_9 s1_10 s1_11 s1_12 s1_13 s1_14 s1_15 s1_16 s1_17 s1_18 s1_19 s1_20 s1_21 s1_22 s1_23 s1_24 s1_25 s1_26 s1_27 s1_28 s1_29) zE2 rfl rfl (Nat.le_of_ble_eq_true rfl) zE2r dL_law_138 ⟨(Nat.le_of_ble_eq_true rfl), (Nat.le_of_ble_eq_true rfl)⟩ (fun H locs hW => ?_)
        refine lv_aload_n hx hb dL_law_141 rfl (lv_at hl 2 rfl) ?_
        refine lv_aload_n hx hb dL_law_142 rfl (lv_at hl 0 rfl) ?_
        refine lv_iload_n hx hb dL_law_143 rfl (lv_at hl 3 rfl) ?_
        refine lv_iconst (v := 1) hx hb dL_law_144 (by decide) ?_
        refine lv_iadd hx hb dL_law_145 ?_
        obtain ⟨g6, hf⟩ := grd hf
        refine va_sld hx hb hX hbl hbA hW.2.2.2.1 g6 dL_law_146 ?_
        obtain ⟨u7, eu7, hf⟩ := bnd hf
        refine zk_callBI (As := [.int (xs (Int32.toNatClampNeg (v3 + 1)))]) (rest := [.int u5.1]) (W1 := wX9 G q u5.2.1 u5.2.2.1 u5.2.2.2.1 u5.2.2.2.2.1 u5.2.2.2.2.2.1 u5.2.2.2.2.2.2.1 u5.2.2.2.2.2.2.2.1 u5.2.2.2.2.2.2.2.2.1 u5.2.2.2.2.2.2.2.2.2.1 u5.2.2.2.2.2.2.2.2.2.2.1 u5.2.2.2.2.2.2.2.2.2.2.2.1 u5.2.2.2.2.2.2.2.2.2.2.2.2.1 u5.2.2.2.2.2.2.2.2.2.2.2.2.2 ++ wX10 G qm u7.2.1 u7.2.2 s1_2 s1_3 s1_4 s1_5 s1_6 s1_7 s1_8 s1_9 s1_10 s1_11 s1_12 s1_13 s1_14 s1_15 s1_16 s1_17 s1_18 s1_19 s1_20 s1_21 s1_22 s1_23 s1_24 s1_25 s1_26 s1_27 s1_28 s1_29) C hW hl mvL_17 (c_X10_letter l G qm s1_0 s1_1 s1_2 s1_3 s1_4 s1_5 s1_6 s1_7 s1_8 s1_9 s1_10 s1_11 s1_12 s1_13 s1_14 s1_15 s1_16 s1_17 s1_18 s1_19 s1_20 s1_21 s1_22 s1_23 s1_24 s1_25 s1_26 s1_27 s1_28 s1_29 (xs (Int32.toNatClampNeg (v3 + 1))) u7 eu7) ⟨(Nat.le_of_ble_eq_true rfl), (Nat.le_of_ble_eq_true rfl)⟩ ⟨rfl, rfl⟩ (wX9 G q u5.2.1 u5.2.2.1 u5.2.2.2.1 u5.2.2.2.2.1 u5.2.2.2.2.2.1 u5.2.2.2.2.2.2.1 u5.2.2.2.2.2.2.2.1 u5.2.2.2.2.2.2.2.2.1 u5.2.2.2.2.2.2.2.2.2.1 u5.2.2.2.2.2.2.2.2.2.2.1 u5.2.2.2.2.2.2.2.2.2.2.2.1 u5.2.2.2.2.2.2.2.2.2.2.2.2.1 u5.2.2.2.2.2.2.2.2.2.2.2.2.2) ([]) zE3 rfl rfl (Nat.le_of_ble_eq_true rfl) zE3r dL_law_147 ⟨(Nat.le_of_ble_eq_true rfl), (Nat.le_of_ble_eq_true rfl)⟩ (fun H locs hW => ?_)
        refine lv_icmp_eq (tgt := 662) hx hb dL_law_150 (by decide) (fun c8 => ?_) (fun c8 => ?_)
        · have hf := ipos c8 hf
          refine lv_iinc (v := (v3 + 5)) (lv' := [(3, .int (v3 + 5)), (0, .ref b), (1, .ref (q 0)), (2, .ref (qm 0))]) hx hb dL_law_662 hl (k := 3) rfl rfl (by decide) rfl (fun ls hl => ?_)
          refine lv_goto (tgt := 18) hx hb dL_law_665 (by decide) ?_
          exact ih (v3 + 5) u5.2.1 u5.2.2.1 u5.2.2.2.1 u5.2.2.2.2.1 u5.2.2.2.2.2.1 u5.2.2.2.2.2.2.1 u5.2.2.2.2.2.2.2.1 u5.2.2.2.2.2.2.2.2.1 u5.2.2.2.2.2.2.2.2.2.1 u5.2.2.2.2.2.2.2.2.2.2.1 u5.2.2.2.2.2.2.2.2.2.2.2.1 u5.2.2.2.2.2.2.2.2.2.2.2.2.1 u5.2.2.2.2.2.2.2.2.2.2.2.2.2 u7.2.1 u7.2.2 s1_2 s1_3 s1_4 s1_5 s1_6 s1_7 s1_8 s1_9 s1_10 s1_11 s1_12 s1_13 s1_14 s1_15 s1_16 s1_17 s1_18 s1_19 s1_20 s1_21 s1_22 s1_23 s1_24 s1_25 s1_26 s1_27 s1_28 s1_29 hf _ _ _ hW (lv_sub hl [1, 2, 3, 0] rfl)
        · have hf := ineg c8 hf
          refine lv_iconst (v := 0) hx hb dL_law_153 (by decide) ?_
          exact absurd (Option.some.inj hf) (by decide)
      have hf := ineg e3 hf
      by_cases e9 : ((xs (Int32.toNatClampNeg v3)) &&& 31) = 1
      · have hf := ipos e9 hf
        refine lv_tableIn (tgt := 155) (off := 123) hx hb dL_law_32 (by rw [e9]; decide) (by rw [e9]; decide) (by rw [e9]; rfl) (by decide) ?_
        refine lv_aload_n hx hb dL_law_155 rfl (lv_at hl 1 rfl) ?_
        obtain ⟨u10, eu10, hf⟩ := bnd hf
        refine zk_callBI (As := []) (rest := []) (W1 := wX9 G q u10.2.1 u10.2.2.1 u10.2.2.2.1 u10.2.2.2.2.1 u10.2.2.2.2.2.1 u10.2.2.2.2.2.2.1 u10.2.2.2.2.2.2.2.1 u10.2.2.2.2.2.2.2.2.1 u10.2.2.2.2.2.2.2.2.2.1 u10.2.2.2.2.2.2.2.2.2.2.1 u10.2.2.2.2.2.2.2.2.2.2.2.1 u10.2.2.2.2.2.2.2.2.2.2.2.2.1 u10.2.2.2.2.2.2.2.2.2.2.2.2.2 ++ wX10 G qm s1_0 s1_1 s1_2 s1_3 s1_4 s1_5 s1_6 s1_7 s1_8 s1_9 s1_10 s1_11 s1_12 s1_13 s1_14 s1_15 s1_16 s1_17 s1_18 s1_19 s1_20 s1_21 s1_22 s1_23 s1_24 s1_25 s1_26 s1_27 s1_28 s1_29) C hW hl mvL_18 (c_X9_blank l G q (s0_0, s0_1, s0_2, s0_3, s0_4, s0_5, s0_6, s0_7, s0_8, s0_9, s0_10, s0_11, s0_12) u10 eu10) ⟨(Nat.le_of_ble_eq_true rfl), (Nat.le_of_ble_eq_true rfl)⟩ ⟨rfl, rfl⟩ ([]) (wX10 G qm s1_0 s1_1 s1_2 s1_3 s1_4 s1_5 s1_6 s1_7 s1_8 s1_9 s1_10 s1_11 s1_12 s1_13 s1_14 s1_15 s1_16 s1_17 s1_18 s1_19 s1_20 s1_21 s1_22 s1_23 s1_24 s1_25 s1_26 s1_27 s1_28 s1_29) zE2 rfl rfl (Nat.le_of_ble_eq_true rfl) zE2r dL_law_156 ⟨(Nat.le_of_ble_eq_true rfl), (Nat.le_of_ble_eq_true rfl)⟩ (fun H locs hW => ?_)
        refine lv_aload_n hx hb dL_law_159 rfl (lv_at hl 2 rfl) ?_
        obtain ⟨u11, eu11, hf⟩ := bnd hf
        refine zk_callBI (As := []) (rest := [.int u10.1]) (W1 := wX9 G q u10.2.1 u10.2.2.1 u10.2.2.2.1 u10.2.2.2.2.1 u10.2.2.2.2.2.1 u10.2.2.2.2.2.2.1 u10.2.2.2.2.2.2.2.1 u10.2.2.2.2.2.2.2.2.1 u10.2.2.2.2.2.2.2.2.2.1 u10.2.2.2.2.2.2.2.2.2.2.1 u10.2.2.2.2.2.2.2.2.2.2.2.1 u10.2.2.2.2.2.2.2.2.2.2.2.2.1 u10.2.2.2.2.2.2.2.2.2.2.2.2.2 ++ wX10 G qm s1_0 u11.2 s1_2 s1_3 s1_4 s1_5 s1_6 s1_7 s1_8 s1_9 s1_10 s1_11 s1_12 s1_13 s1_14 s1_15 s1_16 s1_17 s1_18 s1_19 s1_20 s1_21 s1_22 s1_23 s1_24 s1_25 s1_26 s1_27 s1_28 s1_29) C hW hl mvL_22 (c_X10_blank l G qm s1_0 s1_1 s1_2 s1_3 s1_4 s1_5 s1_6 s1_7 s1_8 s1_9 s1_10 s1_11 s1_12 s1_13 s1_14 s1_15 s1_16 s1_17 s1_18 s1_19 s1_20 s1_21 s1_22 s1_23 s1_24 s1_25 s1_26 s1_27 s1_28 s1_29 u11 eu11) ⟨(Nat.le_of_ble_eq_true rfl), (Nat.le_of_ble_eq_true rfl)⟩ ⟨rfl, rfl⟩ (wX9 G q u10.2.1 u10.2.2.1 u10.2.2.2.1 u10.2.2.2.2.1 u10.2.2.2.2.2.1 u10.2.2.2.2.2.2.1 u10.2.2.2.2.2.2.2.1 u10.2.2.2.2.2.2.2.2.1 u10.2.2.2.2.2.2.2.2.2.1 u10.2.2.2.2.2.2.2.2.2.2.1 u10.2.2.2.2.2.2.2.2.2.2.2.1 u10.2.2.2.2.2.2.2.2.2.2.2.2.1 u10.2.2.2.2.2.2.2.2.2.2.2.2.2) ([]) zE3 rfl rfl (Nat.le_of_ble_eq_true rfl) zE3r dL_law_160 ⟨(Nat.le_of_ble_eq_true rfl), (Nat.le_of_ble_eq_true rfl)⟩ (fun H locs hW => ?_)
        refine lv_icmp_eq (tgt := 662) hx hb dL_law_163 (by decide) (fun c12 => ?_) (fun c12 => ?_)
        · have hf := ipos c12 hf
          refine lv_iinc (v := (v3 + 5)) (lv' := [(3, .int (v3 + 5)), (0, .ref b), (1, .ref (q 0)), (2, .ref (qm 0))]) hx hb dL_law_662 hl (k := 3) rfl rfl (by decide) rfl (fun ls hl => ?_)
          refine lv_goto (tgt := 18) hx hb dL_law_665 (by decide) ?_
          exact ih (v3 + 5) u10.2.1 u10.2.2.1 u10.2.2.2.1 u10.2.2.2.2.1 u10.2.2.2.2.2.1 u10.2.2.2.2.2.2.1 u10.2.2.2.2.2.2.2.1 u10.2.2.2.2.2.2.2.2.1 u10.2.2.2.2.2.2.2.2.2.1 u10.2.2.2.2.2.2.2.2.2.2.1 u10.2.2.2.2.2.2.2.2.2.2.2.1 u10.2.2.2.2.2.2.2.2.2.2.2.2.1 u10.2.2.2.2.2.2.2.2.2.2.2.2.2 s1_0 u11.2 s1_2 s1_3 s1_4 s1_5 s1_6 s1_7 s1_8 s1_9 s1_10 s1_11 s1_12 s1_13 s1_14 s1_15 s1_16 s1_17 s1_18 s1_19 s1_20 s1_21 s1_22 s1_23 s1_24 s1_25 s1_26 s1_27 s1_28 s1_29 hf _ _ _ hW (lv_sub hl [1, 2, 3, 0] rfl)
        · have hf := ineg c12 hf
          refine lv_iconst (v := 0) hx hb dL_law_166 (by decide) ?_
          exact absurd (Option.some.inj hf) (by decide)
      have hf := ineg e9 hf
      by_cases e13 : ((xs (Int32.toNatClampNeg v3)) &&& 31) = 2
      · have hf := ipos e13 hf
        refine lv_tableIn (tgt := 168) (off := 136) hx hb dL_law_32 (by rw [e13]; decide) (by rw [e13]; decide) (by rw [e13]; rfl) (by decide) ?_
        refine lv_aload_n hx hb dL_law_168 rfl (lv_at hl 1 rfl) ?_
        obtain ⟨u14, eu14, hf⟩ := bnd hf
        refine zk_callBI (As := []) (rest := []) (W1 := wX9 G q s0_0 s0_1 s0_2 s0_3 s0_4 s0_5 s0_6 s0_7 s0_8 s0_9 s0_10 s0_11 s0_12 ++ wX10 G qm s1_0 s1_1 s1_2 s1_3 s1_4 s1_5 s1_6 s1_7 s1_8 s1_9 s1_10 s1_11 s1_12 s1_13 s1_14 s1_15 s1_16 s1_17 s1_18 s1_19 s1_20 s1_21 s1_22 s1_23 s1_24 s1_25 s1_26 s1_27 s1_28 s1_29) C hW hl mvL_23 (c_X9_fault l G q (s0_0, s0_1, s0_2, s0_3, s0_4, s0_5, s0_6, s0_7, s0_8, s0_9, s0_10, s0_11, s0_12) u14 eu14) ⟨(Nat.le_of_ble_eq_true rfl), (Nat.le_of_ble_eq_true rfl)⟩ ⟨rfl, rfl⟩ ([]) (wX10 G qm s1_0 s1_1 s1_2 s1_3 s1_4 s1_5 s1_6 s1_7 s1_8 s1_9 s1_10 s1_11 s1_12 s1_13 s1_14 s1_15 s1_16 s1_17 s1_18 s1_19 s1_20 s1_21 s1_22 s1_23 s1_24 s1_25 s1_26 s1_27 s1_28 s1_29) zE2 rfl rfl (Nat.le_of_ble_eq_true rfl) zE2r dL_law_169 ⟨(Nat.le_of_ble_eq_true rfl), (Nat.le_of_ble_eq_true rfl)⟩ (fun H locs hW => ?_)
        refine lv_aload_n hx hb dL_law_172 rfl (lv_at hl 2 rfl) ?_
        obtain ⟨u15, eu15, hf⟩ := bnd hf
        refine zk_callBI (As := []) (rest := [.int u14]) (W1 := wX9 G q s0_0 s0_1 s0_2 s0_3 s0_4 s0_5 s0_6 s0_7 s0_8 s0_9 s0_10 s0_11 s0_12 ++ wX10 G qm s1_0 s1_1 u15.2.1 u15.2.2 s1_4 s1_5 s1_6 s1_7 s1_8 s1_9 s1_10 s1_11 s1_12 s1_13 s1_14 s1_15 s1_16 s1_17 s1_18 s1_19 s1_20 s1_21 s1_22 s1_23 s1_24 s1_25 s1_26 s1_27 s1_28 s1_29) C hW hl mvL_26 (c_X10_fault l G qm s1_0 s1_1 s1_2 s1_3 s1_4 s1_5 s1_6 s1_7 s1_8 s1_9 s1_10 s1_11 s1_12 s1_13 s1_14 s1_15 s1_16 s1_17 s1_18 s1_19 s1_20 s1_21 s1_22 s1_23 s1_24 s1_25 s1_26 s1_27 s1_28 s1_29 u15 eu15) ⟨(Nat.le_of_ble_eq_true rfl), (Nat.le_of_ble_eq_true rfl)⟩ ⟨rfl, rfl⟩ (wX9 G q s0_0 s0_1 s0_2 s0_3 s0_4 s0_5 s0_6 s0_7 s0_8 s0_9 s0_10 s0_11 s0_12) ([]) zE3 rfl rfl (Nat.le_of_ble_eq_true rfl) zE3r dL_law_173 ⟨(Nat.le_of_ble_eq_true rfl), (Nat.le_of_ble_eq_true rfl)⟩ (fun H locs hW => ?_)
        refine lv_icmp_eq (tgt := 662) hx hb dL_law_176 (by decide) (fun c16 => ?_) (fun c16 => ?_)
        · have hf := ipos c16 hf
          refine lv_iinc (v := (v3 + 5)) (lv' := [(3, .int (v3 + 5)), (0, .ref b), (1, .ref (q 0)), (2, .ref (qm 0))]) hx hb dL_law_662 hl (k := 3) rfl rfl (by decide) rfl (fun ls hl => ?_)
          refine lv_goto (tgt := 18) hx hb dL_law_665 (by decide) ?_
          exact ih (v3 + 5) s0_0 s0_1 s0_2 s0_3 s0_4 s0_5 s0_6 s0_7 s0_8 s0_9 s0_10 s0_11 s0_12 s1_0 s1_1 u15.2.1 u15.2.2 s1_4 s1_5 s1_6 s1_7 s1_8 s1_9 s1_10 s1_11 s1_12 s1_13 s1_14 s1_15 s1_16 s1_17 s1_18 s1_19 s1_20 s1_21 s1_22 s1_23 s1_24 s1_25 s1_26 s1_27 s1_28 s1_29 hf _ _ _ hW (lv_sub hl [1, 2, 3, 0] rfl)
        · have hf := ineg c16 hf
          refine lv_iconst (v := 0) hx hb dL_law_179 (by decide) ?_
          exact absurd (Option.some.inj hf) (by decide)
      have hf := ineg e13 hf
      by_cases e17 : ((xs (Int32.toNatClampNeg v3)) &&& 31) = 3
      · have hf := ipos e17 hf
        refine lv_tableIn (tgt := 181) (off := 149) hx hb dL_law_32 (by rw [e17]; decide) (by rw [e17]; decide) (by rw [e17]; rfl) (by decide) ?_
        refine lv_aload_n hx hb dL_law_181 rfl (lv_at hl 1 rfl) ?_
        obtain ⟨u18, eu18, hf⟩ := bnd hf
        refine zk_callBI (As := []) (rest := []) (W1 := wX9 G q u18.2.1 u18.2.2.1 u18.2.2.2.1 u18.2.2.2.2.1 u18.2.2.2.2.2.1 u18.2.2.2.2.2.2.1 u18.2.2.2.2.2.2.2.1 u18.2.2.2.2.2.2.2.2.1 u18.2.2.2.2.2.2.2.2.2.1 u18.2.2.2.2.2.2.2.2.2.2.1 u18.2.2.2.2.2.2.2.2.2.2.2.1 u18.2.2.2.2.2.2.2.2.2.2.2.2.1 u18.2.2.2.2.2.2.2.2.2.2.2.2.2 ++ wX10 G qm s1_0 s1_1 s1_2 s1_3 s1_4 s1_5 s1_6 s1_7 s1_8 s1_9 s1_10 s1_11 s1_12 s1_13 s1_14 s1_15 s1_16 s1_17 s1_18 s1_19 s1_20 s1_21 s1_22 s1_23 s1_24 s1_25 s1_26 s1_27 s1_28 s1_29) C hW hl mvL_27 (c_X9_take l G q (s0_0, s0_1, s0_2, s0_3, s0_4, s0_5, s0_6, s0_7, s0_8, s0_9, s0_10, s0_11, s0_12) u18 eu18) ⟨(Nat.le_of_ble_eq_true rfl), (Nat.le_of_ble_eq_true rfl)⟩ ⟨rfl, rfl⟩ ([]) (wX10 G qm s1_0 s1_1 s1_2 s1_3 s1_4 s1_5 s1_6 s1_7 s1_8 s1_9 s1_10 s1_11 s1_12 s1_13 s1_14 s1_15 s1_16 s1_17 s1_18 s1_19 s1_20 s1_21 s1_22 s1_23 s1_24 s1_25 s1_26 s1_27 s1_28 s1_29) zE2 rfl rfl (Nat.le_of_ble_eq_true rfl) zE2r dL_law_182 ⟨(Nat.le_of_ble_eq_true rfl), (Nat.le_of_ble_eq_true rfl)⟩ (fun H locs hW => ?_)
        refine lv_aload_n hx hb dL_law_185 rfl (lv_at hl 2 rfl) ?_
        obtain ⟨u19, eu19, hf⟩ := bnd hf
        refine zk_callBI (As := []) (rest := [.int u18.1]) (W1 := wX9 G q u18.2.1 u18.2.2.1 u18.2.2.2.1 u18.2.2.2.2.1 u18.2.2.2.2.2.1 u18.2.2.2.2.2.2.1 u18.2.2.2.2.2.2.2.1 u18.2.2.2.2.2.2.2.2.1 u18.2.2.2.2.2.2.2.2.2.1 u18.2.2.2.2.2.2.2.2.2.2.1 u18.2.2.2.2.2.2.2.2.2.2.2.1 u18.2.2.2.2.2.2.2.2.2.2.2.2.1 u18.2.2.2.2.2.2.2.2.2.2.2.2.2 ++ wX10 G qm s1_0 u19.2.1 u19.2.2.1 u19.2.2.2.1 u19.2.2.2.2.1 u19.2.2.2.2.2.1 u19.2.2.2.2.2.2.1 u19.2.2.2.2.2.2.2.1 u19.2.2.2.2.2.2.2.2.1 u19.2.2.2.2.2.2.2.2.2.1 s1_10 s1_11 s1_12 s1_13 s1_14 s1_15 s1_16 s1_17 u19.2.2.2.2.2.2.2.2.2.2 s1_19 s1_20 s1_21 s1_22 s1_23 s1_24 s1_25 s1_26 s1_27 s1_28 s1_29) C hW hl mvL_30 (c_X10_take l G qm s1_0 s1_1 s1_2 s1_3 s1_4 s1_5 s1_6 s1_7 s1_8 s1_9 s1_10 s1_11 s1_12 s1_13 s1_14 s1_15 s1_16 s1_17 s1_18 s1_19 s1_20 s1_21 s1_22 s1_23 s1_24 s1_25 s1_26 s1_27 s1_28 s1_29 u19 eu19) ⟨(Nat.le_of_ble_eq_true rfl), (Nat.le_of_ble_eq_true rfl)⟩ ⟨rfl, rfl⟩ (wX9 G q u18.2.1 u18.2.2.1 u18.2.2.2.1 u18.2.2.2.2.1 u18.2.2.2.2.2.1 u18.2.2.2.2.2.2.1 u18.2.2.2.2.2.2.2.1 u18.2.2.2.2.2.2.2.2.1 u18.2.2.2.2.2.2.2.2.2.1 u18.2.2.2.2.2.2.2.2.2.2.1 u18.2.2.2.2.2.2.2.2.2.2.2.1 u18.2.2.2.2.2.2.2.2.2.2.2.2.1 u18.2.2.2.2.2.2.2.2.2.2.2.2.2) ([]) zE3 rfl rfl (Nat.le_of_ble_eq_true rfl) zE3r dL_law_186 ⟨(Nat.le_of_ble_eq_true rfl), (Nat.le_of_ble_eq_true rfl)⟩ (fun H locs hW => ?_)
        refine lv_icmp_eq (tgt := 662) hx hb dL_law_189 (by decide) (fun c20 => ?_) (fun c20 => ?_)
        · have hf := ipos c20 hf
          refine lv_iinc (v := (v3 + 5)) (lv' := [(3, .int (v3 + 5)), (0, .ref b), (1, .ref (q 0)), (2, .ref (qm 0))]) hx hb dL_law_662 hl (k := 3) rfl rfl (by decide) rfl (fun ls hl => ?_)
          refine lv_goto (tgt := 18) hx hb dL_law_665 (by decide) ?_
          exact ih (v3 + 5) u18.2.1 u18.2.2.1 u18.2.2.2.1 u18.2.2.2.2.1 u18.2.2.2.2.2.1 u18.2.2.2.2.2.2.1 u18.2.2.2.2.2.2.2.1 u18.2.2.2.2.2.2.2.2.1 u18.2.2.2.2.2.2.2.2.2.1 u18.2.2.2.2.2.2.2.2.2.2.1 u18.2.2.2.2.2.2.2.2.2.2.2.1 u18.2.2.2.2.2.2.2.2.2.2.2.2.1 u18.2.2.2.2.2.2.2.2.2.2.2.2.2 s1_0 u19.2.1 u19.2.2.1 u19.2.2.2.1 u19.2.2.2.2.1 u19.2.2.2.2.2.1 u19.2.2.2.2.2.2.1 u19.2.2.2.2.2.2.2.1 u19.2.2.2.2.2.2.2.2.1 u19.2.2.2.2.2.2.2.2.2.1 s1_10 s1_11 s1_12 s1_13 s1_14 s1_15 s1_16 s1_17 u19.2.2.2.2.2.2.2.2.2.2 s1_19 s1_20 s1_21 s1_22 s1_23 s1_24 s1_25 s1_26 s1_27 s1_28 s1_29 hf _ _ _ hW (lv_sub hl [1, 2, 3, 0] rfl)
        · have hf := ineg c20 hf
          refine lv_iconst (v := 0) hx hb dL_law_192 (by decide) ?_
          exact absurd (Option.some.inj hf) (by decide)
      have hf := ineg e17 hf
      by_cases e21 : ((xs (Int32.toNatClampNeg v3)) &&& 31) = 4
      · have hf := ipos e21 hf
        refine lv_tableIn (tgt := 194) (off := 162) hx hb dL_law_32 (by rw [e21]; decide) (by rw [e21]; decide) (by rw [e21]; rfl) (by decide) ?_
        refine lv_aload_n hx hb dL_law_194 rfl (lv_at hl 1 rfl) ?_
        refine lv_aload_n hx hb dL_law_195 rfl (lv_at hl 0 rfl) ?_
        refine lv_iload_n hx hb dL_law_196 rfl (lv_at hl 3 rfl) ?_
        refine lv_iconst (v := 1) hx hb dL_law_197 (by decide) ?_
        refine lv_iadd hx hb dL_law_198 ?_
        obtain ⟨g22, hf⟩ := grd hf
        refine va_sld hx hb hX hbl hbA hW.2.2.2.1 g22 dL_law_199 ?_
        refine lv_aload_n hx hb dL_law_200 rfl (lv_at hl 0 rfl) ?_
        refine lv_iload_n hx hb dL_law_201 rfl (lv_at hl 3 rfl) ?_
        refine lv_iconst (v := 2) hx hb dL_law_202 (by decide) ?_
        refine lv_iadd hx hb dL_law_203 ?_
        obtain ⟨g23, hf⟩ := grd hf
        refine va_sld hx hb hX hbl hbA hW.2.2.2.1 g23 dL_law_204 ?_
        obtain ⟨u24, eu24, hf⟩ := bnd hf
        refine zk_callBI (As := [.int (xs (Int32.toNatClampNeg (v3 + 1))), .int (xs (Int32.toNatClampNeg (v3 + 2)))]) (rest := []) (W1 := wX9 G q u24.2.1 u24.2.2.1 u24.2.2.2.1 u24.2.2.2.2.1 u24.2.2.2.2.2.1 u24.2.2.2.2.2.2.1 u24.2.2.2.2.2.2.2.1 u24.2.2.2.2.2.2.2.2.1 u24.2.2.2.2.2.2.2.2.2.1 u24.2.2.2.2.2.2.2.2.2.2.1 u24.2.2.2.2.2.2.2.2.2.2.2.1 u24.2.2.2.2.2.2.2.2.2.2.2.2.1 u24.2.2.2.2.2.2.2.2.2.2.2.2.2 ++ wX10 G qm s1_0 s1_1 s1_2 s1_3 s1_4 s1_5 s1_6 s1_7 s1_8 s1_9 s1_10 s1_11 s1_12 s1_13 s1_14 s1_15 s1_16 s1_17 s1_18 s1_19 s1_20 s1_21 s1_22 s1_23 s1_24 s1_25 s1_26 s1_27 s1_28 s1_29) C hW hl mvL_31 (c_X9_word l G q (s0_0, s0_1, s0_2, s0_3, s0_4, s0_5, s0_6, s0_7, s0_8, s0_9, s0_10, s0_11, s0_12) (xs (Int32.toNatClampNeg (v3 + 1))) (xs (Int32.toNatClampNeg (v3 + 2))) u24 eu24) ⟨(Nat.le_of_ble_eq_true rfl), (Nat.le_of_ble_eq_true rfl)⟩ ⟨rfl, rfl⟩ ([]) (wX10 G qm s1_0 s1_1 s1_2 s1_3 s1_4 s1_5 s1_6 s1_7 s1_8 s1_9 s1_10 s1_11 s1_12 s1_13 s1_14 s1_15 s1_16 s1_17 s1_18 s1_19 s1_20 s1_21 s1_22 s1_23 s1_24 s1_25 s1_26 s1_27 s1_28 s1_29) zE2 rfl rfl (Nat.le_of_ble_eq_true rfl) zE2r dL_law_205 ⟨(Nat.le_of_ble_eq_true rfl), (Nat.le_of_ble_eq_true rfl)⟩ (fun H locs hW => ?_)
        refine lv_aload_n hx hb dL_law_208 rfl (lv_at hl 2 rfl) ?_
        refine lv_aload_n hx hb dL_law_209 rfl (lv_at hl 0 rfl) ?_
        refine lv_iload_n hx hb dL_law_210 rfl (lv_at hl 3 rfl) ?_
        refine lv_iconst (v := 1) hx hb dL_law_211 (by decide) ?_
        refine lv_iadd hx hb dL_law_212 ?_
        obtain ⟨g25, hf⟩ := grd hf
        refine va_sld hx hb hX hbl hbA hW.2.2.2.1 g25 dL_law_213 ?_
        refine lv_aload_n hx hb dL_law_214 rfl (lv_at hl 0 rfl) ?_
        refine lv_iload_n hx hb dL_law_215 rfl (lv_at hl 3 rfl) ?_
        refine lv_iconst (v := 2) hx hb dL_law_216 (by decide) ?_
        refine lv_iadd hx hb dL_law_217 ?_
        obtain ⟨g26, hf⟩ := grd hf
        refine va_sld hx hb hX hbl hbA hW.2.2.2.1 g26 dL_law_218 ?_
        obtain ⟨u27, eu27, hf⟩ := bnd hf
        refine zk_callBI (As := [.int (xs (Int32.toNatClampNeg (v3 + 1))), .int (xs (Int32.toNatClampNeg (v3 + 2)))]) (rest := [.int u24.1]) (W1 := wX9 G q u24.2.1 u24.2.2.1 u24.2.2.2.1 u24.2.2.2.2.1 u24.2.2.2.2.2.1 u24.2.2.2.2.2.2.1 u24.2.2.2.2.2.2.2.1 u24.2.2.2.2.2.2.2.2.1 u24.2.2.2.2.2.2.2.2.2.1 u24.2.2.2.2.2.2.2.2.2.2.1 u24.2.2.2.2.2.2.2.2.2.2.2.1 u24.2.2.2.2.2.2.2.2.2.2.2.2.1 u24.2.2.2.2.2.2.2.2.2.2.2.2.2 ++ wX10 G qm s1_0 s1_1 s1_2 s1_3 s1_4 s1_5 s1_6 s1_7 s1_8 s1_9 s1_10 u27.2.1 u27.2.2.1 u27.2.2.2.1 u27.2.2.2.2.1 u27.2.2.2.2.2 s1_16 s1_17 s1_18 s1_19 s1_20 s1_21 s1_22 s1_23 s1_24 s1_25 s1_26 s1_27 s1_28 s1_29) C hW hl mvL_35 (c_X10_word l G qm s1_0 s1_1 s1_2 s1_3 s1_4 s1_5 s1_6 s1_7 s1_8 s1_9 s1_10 s1_11 s1_12 s1_13 s1_14 s1_15 s1_16 s1_17 s1_18 s1_19 s1_20 s1_21 s1_22 s1_23 s1_24 s1_25 s1_26 s1_27 s1_28 s1_29 (xs (Int32.toNatClampNeg (v3 + 1))) (xs (Int32.toNatClampNeg (v3 + 2))) u27 eu27) ⟨(Nat.le_of_ble_eq_true rfl), (Nat.le_of_ble_eq_true rfl)⟩ ⟨rfl, rfl⟩ (wX9 G q u24.2.1 u24.2.2.1 u24.2.2.2.1 u24.2.2.2.2.1 u24.2.2.2.2.2.1 u24.2.2.2.2.2.2.1 u24.2.2.2.2.2.2.2.1 u24.2.2.2.2.2.2.2.2.1 u24.2.2.2.2.2.2.2.2.2.1 u24.2.2.2.2.2.2.2.2.2.2.1 u24.2.2.2.2.2.2.2.2.2.2.2.1 u24.2.2.2.2.2.2.2.2.2.2.2.2.1 u24.2.2.2.2.2.2.2.2.2.2.2.2.2) ([]) zE3 rfl rfl (Nat.le_of_ble_eq_true rfl) zE3r dL_law_219 ⟨(Nat.le_of_ble_eq_true rfl), (Nat.le_of_ble_eq_true rfl)⟩ (fun H locs hW => ?_)
        refine lv_icmp_eq (tgt := 662) hx hb dL_law_222 (by decide) (fun c28 => ?_) (fun c28 => ?_)
        · have hf := ipos c28 hf
          refine lv_iinc (v := (v3 + 5)) (lv' := [(3, .int (v3 + 5)), (0, .ref b), (1, .ref (q 0)), (2, .ref (qm 0))]) hx hb dL_law_662 hl (k := 3) rfl rfl (by decide) rfl (fun ls hl => ?_)
          refine lv_goto (tgt := 18) hx hb dL_law_665 (by decide) ?_
          exact ih (v3 + 5) u24.2.1 u24.2.2.1 u24.2.2.2.1 u24.2.2.2.2.1 u24.2.2.2.2.2.1 u24.2.2.2.2.2.2.1 u24.2.2.2.2.2.2.2.1 u24.2.2.2.2.2.2.2.2.1 u24.2.2.2.2.2.2.2.2.2.1 u24.2.2.2.2.2.2.2.2.2.2.1 u24.2.2.2.2.2.2.2.2.2.2.2.1 u24.2.2.2.2.2.2.2.2.2.2.2.2.1 u24.2.2.2.2.2.2.2.2.2.2.2.2.2 s1_0 s1_1 s1_2 s1_3 s1_4 s1_5 s1_6 s1_7 s1_8 s1_9 s1_10 u27.2.1 u27.2.2.1 u27.2.2.2.1 u27.2.2.2.2.1 u27.2.2.2.2.2 s1_16 s1_17 s1_18 s1_19 s1_20 s1_21 s1_22 s1_23 s1_24 s1_25 s1_26 s1_27 s1_28 s1_29 hf _ _ _ hW (lv_sub hl [1, 2, 3, 0] rfl)
        · have hf := ineg c28 hf
          refine lv_iconst (v := 0) hx hb dL_law_225 (by decide) ?_
          exact absurd (Option.some.inj hf) (by decide)
      have hf := ineg e21 hf
      by_cases e29 : ((xs (Int32.toNatClampNeg v3)) &&& 31) = 5
      · have hf := ipos e29 hf
        refine lv_tableIn (tgt := 227) (off := 195) hx hb dL_law_32 (by rw [e29]; decide) (by rw [e29]; decide) (by rw [e29]; rfl) (by decide) ?_
        refine lv_aload_n hx hb dL_law_227 rfl (lv_at hl 1 rfl) ?_
        refine lv_aload_n hx hb dL_law_228 rfl (lv_at hl 0 rfl) ?_
        refine lv_iload_n hx hb dL_law_229 rfl (lv_at hl 3 rfl) ?_
        refine lv_iconst (v := 1) hx hb dL_law_230 (by decide) ?_
        refine lv_iadd hx hb dL_law_231 ?_
        obtain ⟨g30, hf⟩ := grd hf
        refine va_sld hx hb hX hbl hbA hW.2.2.2.1 g30 dL_law_232 ?_
        refine lv_aload_n hx hb dL_law_233 rfl (lv_at hl 0 rfl) ?_
        refine lv_iload_n hx hb dL_law_234 rfl (lv_at hl 3 rfl) ?_
        refine lv_iconst (v := 2) hx hb dL_law_235 (by decide) ?_
        refine lv_iadd hx hb dL_law_236 ?_
        obtain ⟨g31, hf⟩ := grd hf
        refine va_sld hx hb hX hbl hbA hW.2.2.2.1 g31 dL_law_237 ?_
        obtain ⟨u32, eu32, hf⟩ := bnd hf
        refine zk_callBI (As := [.int (xs (Int32.toNatClampNeg (v3 + 1))), .int (xs (Int32.toNatClampNeg (v3 + 2)))]) (rest := []) (W1 := wX9 G q u32.2.1 u32.2.2.1 u32.2.2.2.1 u32.2.2.2.2.1 u32.2.2.2.2.2.1 u32.2.2.2.2.2.2.1 u32.2.2.2.2.2.2.2.1 u32.2.2.2.2.2.2.2.2.1 u32.2.2.2.2.2.2.2.2.2.1 u32.2.2.2.2.2.2.2.2.2.2.1 u32.2.2.2.2.2.2.2.2.2.2.2.1 u32.2.2.2.2.2.2.2.2.2.2.2.2.1 u32.2.2.2.2.2.2.2.2.2.2.2.2.2 ++ wX10 G qm s1_0 s1_1 s1_2 s1_3 s1_4 s1_5 s1_6 s1_7 s1_8 s1_9 s1_10 s1_11 s1_12 s1_13 s1_14 s1_15 s1_16 s1_17 s1_18 s1_19 s1_20 s1_21 s1_22 s1_23 s1_24 s1_25 s1_26 s1_27 s1_28 s1_29) C hW hl mvL_36 (c_X9_change l G q (s0_0, s0_1, s0_2, s0_3, s0_4, s0_5, s0_6, s0_7, s0_8, s0_9, s0_10, s0_11, s0_12) (xs (Int32.toNatClampNeg (v3 + 1))) (xs (Int32.toNatClampNeg (v3 + 2))) u32 eu32) ⟨(Nat.le_of_ble_eq_true rfl), (Nat.le_of_ble_eq_true rfl)⟩ ⟨rfl, rfl⟩ ([]) (wX10 G qm s1_0 s1_1 s1_2 s1_3 s1_4 s1_5 s1_6 s1_7 s1_8 s1_9 s1_10 s1_11 s1_12 s1_13 s1_14 s1_15 s1_16 s1_17 s1_18 s1_19 s1_20 s1_21 s1_22 s1_23 s1_24 s1_25 s1_26 s1_27 s1_28 s1_29) zE2 rfl rfl (Nat.le_of_ble_eq_true rfl) zE2r dL_law_238 ⟨(Nat.le_of_ble_eq_true rfl), (Nat.le_of_ble_eq_true rfl)⟩ (fun H locs hW => ?_)
        refine lv_aload_n hx hb dL_law_241 rfl (lv_at hl 2 rfl) ?_
        refine lv_aload_n hx hb dL_law_242 rfl (lv_at hl 0 rfl) ?_
        refine lv_iload_n hx hb dL_law_243 rfl (lv_at hl 3 rfl) ?_
        refine lv_iconst (v := 1) hx hb dL_law_244 (by decide) ?_
        refine lv_iadd hx hb dL_law_245 ?_
        obtain ⟨g33, hf⟩ := grd hf
        refine va_sld hx hb hX hbl hbA hW.2.2.2.1 g33 dL_law_246 ?_
        refine lv_aload_n hx hb dL_law_247 rfl (lv_at hl 0 rfl) ?_
        refine lv_iload_n hx hb dL_law_248 rfl (lv_at hl 3 rfl) ?_
        refine lv_iconst (v := 2) hx hb dL_law_249 (by decide) ?_
        refine lv_iadd hx hb dL_law_250 ?_
        obtain ⟨g34, hf⟩ := grd hf
        refine va_sld hx hb hX hbl hbA hW.2.2.2.1 g34 dL_law_251 ?_
        obtain ⟨u35, eu35, hf⟩ := bnd hf
        refine zk_callBI (As := [.int (xs (Int32.toNatClampNeg (v3 + 1))), .int (xs (Int32.toNatClampNeg (v3 + 2)))]) (rest := [.int u32.1]) (W1 := wX9 G q u32.2.1 u32.2.2.1 u32.2.2.2.1 u32.2.2.2.2.1 u32.2.2.2.2.2.1 u32.2.2.2.2.2.2.1 u32.2.2.2.2.2.2.2.1 u32.2.2.2.2.2.2.2.2.1 u32.2.2.2.2.2.2.2.2.2.1 u32.2.2.2.2.2.2.2.2.2.2.1 u32.2.2.2.2.2.2.2.2.2.2.2.1 u32.2.2.2.2.2.2.2.2.2.2.2.2.1 u32.2.2.2.2.2.2.2.2.2.2.2.2.2 ++ wX10 G qm s1_0 s1_1 s1_2 s1_3 s1_4 s1_5 u35.2.1 s1_7 u35.2.2 s1_9 s1_10 s1_11 s1_12 s1_13 s1_14 s1_15 s1_16 s1_17 s1_18 s1_19 s1_20 s1_21 s1_22 s1_23 s1_24 s1_25 s1_26 s1_27 s1_28 s1_29) C hW hl mvL_39 (c_X10_change l G qm s1_0 s1_1 s1_2 s1_3 s1_4 s1_5 s1_6 s1_7 s1_8 s1_9 s1_10 s1_11 s1_12 s1_13 s1_14 s1_15 s1_16 s1_17 s1_18 s1_19 s1_20 s1_21 s1_22 s1_23 s1_24 s1_25 s1_26 s1_27 s1_28 s1_29 (xs (Int32.toNatClampNeg (v3 + 1))) (xs (Int32.toNatClampNeg (v3 + 2))) u35 eu35) ⟨(Nat.le_of_ble_eq_true rfl), (Nat.le_of_ble_eq_true rfl)⟩ ⟨rfl, rfl⟩ (wX9 G q u32.2.1 u32.2.2.1 u32.2.2.2.1 u32.2.2.2.2.1 u32.2.2.2.2.2.1 u32.2.2.2.2.2.2.1 u32.2.2.2.2.2.2.2.1 u32.2.2.2.2.2.2.2.2.1 u32.2.2.2.2.2.2.2.2.2.1 u32.2.2.2.2.2.2.2.2.2.2.1 u32.2.2.2.2.2.2.2.2.2.2.2.1 u32.2.2.2.2.2.2.2.2.2.2.2.2.1 u32.2.2.2.2.2.2.2.2.2.2.2.2.2) ([]) zE3 rfl rfl (Nat.le_of_ble_eq_true rfl) zE3r dL_law_252 ⟨(Nat.le_of_ble_eq_true rfl), (Nat.le_of_ble_eq_true rfl)⟩ (fun H locs hW => ?_)
        refine lv_icmp_eq (tgt := 662) hx hb dL_law_255 (by decide) (fun c36 => ?_) (fun c36 => ?_)
        · have hf := ipos c36 hf
          refine lv_iinc (v := (v3 + 5)) (lv' := [(3, .int (v3 + 5)), (0, .ref b), (1, .ref (q 0)), (2, .ref (qm 0))]) hx hb dL_law_662 hl (k := 3) rfl rfl (by decide) rfl (fun ls hl => ?_)
          refine lv_goto (tgt := 18) hx hb dL_law_665 (by decide) ?_
          exact ih (v3 + 5) u32.2.1 u32.2.2.1 u32.2.2.2.1 u32.2.2.2.2.1 u32.2.2.2.2.2.1 u32.2.2.2.2.2.2.1 u32.2.2.2.2.2.2.2.1 u32.2.2.2.2.2.2.2.2.1 u32.2.2.2.2.2.2.2.2.2.1 u32.2.2.2.2.2.2.2.2.2.2.1 u32.2.2.2.2.2.2.2.2.2.2.2.1 u32.2.2.2.2.2.2.2.2.2.2.2.2.1 u32.2.2.2.2.2.2.2.2.2.2.2.2.2 s1_0 s1_1 s1_2 s1_3 s1_4 s1_5 u35.2.1 s1_7 u35.2.2 s1_9 s1_10 s1_11 s1_12 s1_13 s1_14 s1_15 s1_16 s1_17 s1_18 s1_19 s1_20 s1_21 s1_22 s1_23 s1_24 s1_25 s1_26 s1_27 s1_28 s1_29 hf _ _ _ hW (lv_sub hl [1, 2, 3, 0] rfl)
        · have hf := ineg c36 hf
          refine lv_iconst (v := 0) hx hb dL_law_258 (by decide) ?_
          exact absurd (Option.some.inj hf) (by decide)
      have hf := ineg e29 hf
      by_cases e37 : ((xs (Int32.toNatClampNeg v3)) &&& 31) = 6
      · have hf := ipos e37 hf
        refine lv_tableIn (tgt := 260) (off := 228) hx hb dL_law_32 (by rw [e37]; decide) (by rw [e37]; decide) (by rw [e37]; rfl) (by decide) ?_
        refine lv_aload_n hx hb dL_law_260 rfl (lv_at hl 1 rfl) ?_
        refine lv_aload_n hx hb dL_law_261 rfl (lv_at hl 0 rfl) ?_
        refine lv_iload_n hx hb dL_law_262 rfl (lv_at hl 3 rfl) ?_
        refine lv_iconst (v := 1) hx hb dL_law_263 (by decide) ?_
        refine lv_iadd hx hb dL_law_264 ?_
        obtain ⟨g38, hf⟩ := grd hf
        refine va_sld hx hb hX hbl hbA hW.2.2.2.1 g38 dL_law_265 ?_
        obtain ⟨u39, eu39, hf⟩ := bnd hf
        refine zk_callBI (As := [.int (xs (Int32.toNatClampNeg (v3 + 1)))]) (rest := []) (W1 := wX9 G q u39.2.1 u39.2.2.1 u39.2.2.2.1 u39.2.2.2.2.1 u39.2.2.2.2.2.1 u39.2.2.2.2.2.2.1 u39.2.2.2.2.2.2.2.1 u39.2.2.2.2.2.2.2.2.1 u39.2.2.2.2.2.2.2.2.2.1 u39.2.2.2.2.2.2.2.2.2.2.1 u39.2.2.2.2.2.2.2.2.2.2.2.1 u39.2.2.2.2.2.2.2.2.2.2.2.2.1 u39.2.2.2.2.2.2.2.2.2.2.2.2.2 ++ wX10 G qm s1_0 s1_1 s1_2 s1_3 s1_4 s1_5 s1_6 s1_7 s1_8 s1_9 s1_10 s1_11 s1_12 s1_13 s1_14 s1_15 s1_16 s1_17 s1_18 s1_19 s1_20 s1_21 s1_22 s1_23 s1_24 s1_25 s1_26 s1_27 s1_28 s1_29) C hW hl mvL_40 (c_X9_snow l G q (s0_0, s0_1, s0_2, s0_3, s0_4, s0_5, s0_6, s0_7, s0_8, s0_9, s0_10, s0_11, s0_12) (xs (Int32.toNatClampNeg (v3 + 1))) u39 eu39) ⟨(Nat.le_of_ble_eq_true rfl), (Nat.le_of_ble_eq_true rfl)⟩ ⟨rfl, rfl⟩ ([]) (wX10 G qm s1_0 s1_1 s1_2 s1_3 s1_4 s1_5 s1_6 s1_7 s1_8 s1_9 s1_10 s1_11 s1_12 s1_13 s1_14 s1_15 s1_16 s1_17 s1_18 s1_19 s1_20 s1_21 s1_22 s1_23 s1_24 s1_25 s1_26 s1_27 s1_28 s1_29) zE2 rfl rfl (Nat.le_of_ble_eq_true rfl) zE2r dL_law_266 ⟨(Nat.le_of_ble_eq_true rfl), (Nat.le_of_ble_eq_true rfl)⟩ (fun H locs hW => ?_)
        refine lv_aload_n hx hb dL_law_269 rfl (lv_at hl 2 rfl) ?_
        refine lv_aload_n hx hb dL_law_270 rfl (lv_at hl 0 rfl) ?_
        refine lv_iload_n hx hb dL_law_271 rfl (lv_at hl 3 rfl) ?_
        refine lv_iconst (v := 1) hx hb dL_law_272 (by decide) ?_
        refine lv_iadd hx hb dL_law_273 ?_
        obtain ⟨g40, hf⟩ := grd hf
        refine va_sld hx hb hX hbl hbA hW.2.2.2.1 g40 dL_law_274 ?_
        obtain ⟨u41, eu41, hf⟩ := bnd hf
        refine zk_callBI (As := [.int (xs (Int32.toNatClampNeg (v3 + 1)))]) (rest := [.int u39.1]) (W1 := wX9 G q u39.2.1 u39.2.2.1 u39.2.2.2.1 u39.2.2.2.2.1 u39.2.2.2.2.2.1 u39.2.2.2.2.2.2.1 u39.2.2.2.2.2.2.2.1 u39.2.2.2.2.2.2.2.2.1 u39.2.2.2.2.2.2.2.2.2.1 u39.2.2.2.2.2.2.2.2.2.2.1 u39.2.2.2.2.2.2.2.2.2.2.2.1 u39.2.2.2.2.2.2.2.2.2.2.2.2.1 u39.2.2.2.2.2.2.2.2.2.2.2.2.2 ++ wX10 G qm s1_0 s1_1 s1_2 s1_3 s1_4 u41.2 s1_6 s1_7 s1_8 s1_9 s1_10 s1_11 s1_12 s1_13 s1_14 s1_15 s1_16 s1_17 s1_18 s1_19 s1_20 s1_21 s1_22 s1_23 s1_24 s1_25 s1_26 s1_27 s1_28 s1_29) C hW hl mvL_43 (c_X10_snow l G qm s1_0 s1_1 s1_2 s1_3 s1_4 s1_5 s1_6 s1_7 s1_8 s1_9 s1_10 s1_11 s1_12 s1_13 s1_14 s1_15 s1_16 s1_17 s1_18 s1_19 s1_20 s1_21 s1_22 s1_23 s1_24 s1_25 s1_26 s1_27 s1_28 s1_29 (xs (Int32.toNatClampNeg (v3 + 1))) u41 eu41) ⟨(Nat.le_of_ble_eq_true rfl), (Nat.le_of_ble_eq_true rfl)⟩ ⟨rfl, rfl⟩ (wX9 G q u39.2.1 u39.2.2.1 u39.2.2.2.1 u39.2.2.2.2.1 u39.2.2.2.2.2.1 u39.2.2.2.2.2.2.1 u39.2.2.2.2.2.2.2.1 u39.2.2.2.2.2.2.2.2.1 u39.2.2.2.2.2.2.2.2.2.1 u39.2.2.2.2.2.2.2.2.2.2.1 u39.2.2.2.2.2.2.2.2.2.2.2.1 u39.2.2.2.2.2.2.2.2.2.2.2.2.1 u39.2.2.2.2.2.2.2.2.2.2.2.2.2) ([]) zE3 rfl rfl (Nat.le_of_ble_eq_true rfl) zE3r dL_law_275 ⟨(Nat.le_of_ble_eq_true rfl), (Nat.le_of_ble_eq_true rfl)⟩ (fun H locs hW => ?_)
        refine lv_icmp_eq (tgt := 662) hx hb dL_law_278 (by decide) (fun c42 => ?_) (fun c42 => ?_)
        · have hf := ipos c42 hf
          refine lv_iinc (v := (v3 + 5)) (lv' := [(3, .int (v3 + 5)), (0, .ref b), (1, .ref (q 0)), (2, .ref (qm 0))]) hx hb dL_law_662 hl (k := 3) rfl rfl (by decide) rfl (fun ls hl => ?_)
          refine lv_goto (tgt := 18) hx hb dL_law_665 (by decide) ?_
          exact ih (v3 + 5) u39.2.1 u39.2.2.1 u39.2.2.2.1 u39.2.2.2.2.1 u39.2.2.2.2.2.1 u39.2.2.2.2.2.2.1 u39.2.2.2.2.2.2.2.1 u39.2.2.2.2.2.2.2.2.1 u39.2.2.2.2.2.2.2.2.2.1 u39.2.2.2.2.2.2.2.2.2.2.1 u39.2.2.2.2.2.2.2.2.2.2.2.1 u39.2.2.2.2.2.2.2.2.2.2.2.2.1 u39.2.2.2.2.2.2.2.2.2.2.2.2.2 s1_0 s1_1 s1_2 s1_3 s1_4 u41.2 s1_6 s1_7 s1_8 s1_9 s1_10 s1_11 s1_12 s1_13 s1_14 s1_15 s1_16 s1_17 s1_18 s1_19 s1_20 s1_21 s1_22 s1_23 s1_24 s1_25 s1_26 s1_27 s1_28 s1_29 hf _ _ _ hW (lv_sub hl [1, 2, 3, 0] rfl)
        · have hf := ineg c42 hf
          refine lv_iconst (v := 0) hx hb dL_law_281 (by decide) ?_
          exact absurd (Option.some.inj hf) (by decide)
      have hf := ineg e37 hf
      by_cases e43 : ((xs (Int32.toNatClampNeg v3)) &&& 31) = 7
      · have hf := ipos e43 hf
        refine lv_tableIn (tgt := 283) (off := 251) hx hb dL_law_32 (by rw [e43]; decide) (by rw [e43]; decide) (by rw [e43]; rfl) (by decide) ?_
        refine lv_aload_n hx hb dL_law_283 rfl (lv_at hl 1 rfl) ?_
        refine lv_aload_n hx hb dL_law_284 rfl (lv_at hl 0 rfl) ?_
        refine lv_iload_n hx hb dL_law_285 rfl (lv_at hl 3 rfl) ?_
        refine lv_iconst (v := 1) hx hb dL_law_286 (by decide) ?_
        refine lv_iadd hx hb dL_law_287 ?_
        obtain ⟨g44, hf⟩ := grd hf
        refine va_sld hx hb hX hbl hbA hW.2.2.2.1 g44 dL_law_288 ?_
        obtain ⟨u45, eu45, hf⟩ := bnd hf
        refine zk_callBI (As := [.int (xs (Int32.toNatClampNeg (v3 + 1)))]) (rest := []) (W1 := wX9 G q u45.2.1 u45.2.2.1 u45.2.2.2.1 u45.2.2.2.2.1 u45.2.2.2.2.2.1 u45.2.2.2.2.2.2.1 u45.2.2.2.2.2.2.2.1 u45.2.2.2.2.2.2.2.2.1 u45.2.2.2.2.2.2.2.2.2.1 u45.2.2.2.2.2.2.2.2.2.2.1 u45.2.2.2.2.2.2.2.2.2.2.2.1 u45.2.2.2.2.2.2.2.2.2.2.2.2.1 u45.2.2.2.2.2.2.2.2.2.2.2.2.2 ++ wX10 G qm s1_0 s1_1 s1_2 s1_3 s1_4 s1_5 s1_6 s1_7 s1_8 s1_9 s1_10 s1_11 s1_12 s1_13 s1_14 s1_15 s1_16 s1_17 s1_18 s1_19 s1_20 s1_21 s1_22 s1_23 s1_24 s1_25 s1_26 s1_27 s1_28 s1_29) C hW hl mvL_44 (c_X9_listener l G q (s0_0, s0_1, s0_2, s0_3, s0_4, s0_5, s0_6, s0_7, s0_8, s0_9, s0_10, s0_11, s0_12) (xs (Int32.toNatClampNeg (v3 + 1))) u45 eu45) ⟨(Nat.le_of_ble_eq_true rfl), (Nat.le_of_ble_eq_true rfl)⟩ ⟨rfl, rfl⟩ ([]) (wX10 G qm s1_0 s1_1 s1_2 s1_3 s1_4 s1_5 s1_6 s1_7 s1_8 s1_9 s1_10 s1_11 s1_12 s1_13 s1_14 s1_15 s1_16 s1_17 s1_18 s1_19 s1_20 s1_21 s1_22 s1_23 s1_24 s1_25 s1_26 s1_27 s1_28 s1_29) zE2 rfl rfl (Nat.le_of_ble_eq_true rfl) zE2r dL_law_289 ⟨(Nat.le_of_ble_eq_true rfl), (Nat.le_of_ble_eq_true rfl)⟩ (fun H locs hW => ?_)
        refine lv_aload_n hx hb dL_law_292 rfl (lv_at hl 2 rfl) ?_
        refine lv_aload_n hx hb dL_law_293 rfl (lv_at hl 0 rfl) ?_
        refine lv_iload_n hx hb dL_law_294 rfl (lv_at hl 3 rfl) ?_
        refine lv_iconst (v := 1) hx hb dL_law_295 (by decide) ?_
        refine lv_iadd hx hb dL_law_296 ?_
        obtain ⟨g46, hf⟩ := grd hf
        refine va_sld hx hb hX hbl hbA hW.2.2.2.1 g46 dL_law_297 ?_
        obtain ⟨u47, eu47, hf⟩ := bnd hf
        refine zk_callBI (As := [.int (xs (Int32.toNatClampNeg (v3 + 1)))]) (rest := [.int u45.1]) (W1 := wX9 G q u45.2.1 u45.2.2.1 u45.2.2.2.1 u45.2.2.2.2.1 u45.2.2.2.2.2.1 u45.2.2.2.2.2.2.1 u45.2.2.2.2.2.2.2.1 u45.2.2.2.2.2.2.2.2.1 u45.2.2.2.2.2.2.2.2.2.1 u45.2.2.2.2.2.2.2.2.2.2.1 u45.2.2.2.2.2.2.2.2.2.2.2.1 u45.2.2.2.2.2.2.2.2.2.2.2.2.1 u45.2.2.2.2.2.2.2.2.2.2.2.2.2 ++ wX10 G qm s1_0 s1_1 s1_2 s1_3 s1_4 s1_5 s1_6 s1_7 s1_8 u47.2.1 u47.2.2 s1_11 s1_12 s1_13 s1_14 s1_15 s1_16 s1_17 s1_18 s1_19 s1_20 s1_21 s1_22 s1_23 s1_24 s1_25 s1_26 s1_27 s1_28 s1_29) C hW hl mvL_47 (c_X10_listener l G qm s1_0 s1_1 s1_2 s1_3 s1_4 s1_5 s1_6 s1_7 s1_8 s1_9 s1_10 s1_11 s1_12 s1_13 s1_14 s1_15 s1_16 s1_17 s1_18 s1_19 s1_20 s1_21 s1_22 s1_23 s1_24 s1_25 s1_26 s1_27 s1_28 s1_29 (xs (Int32.toNatClampNeg (v3 + 1))) u47 eu47) ⟨(Nat.le_of_ble_eq_true rfl), (Nat.le_of_ble_eq_true rfl)⟩ ⟨rfl, rfl⟩ (wX9 G q u45.2.1 u45.2.2.1 u45.2.2.2.1 u45.2.2.2.2.1 u45.2.2.2.2.2.1 u45.2.2.2.2.2.2.1 u45.2.2.2.2.2.2.2.1 u45.2.2.2.2.2.2.2.2.1 u45.2.2.2.2.2.2.2.2.2.1 u45.2.2.2.2.2.2.2.2.2.2.1 u45.2.2.2.2.2.2.2.2.2.2.2.1 u45.2.2.2.2.2.2.2.2.2.2.2.2.1 u45.2.2.2.2.2.2.2.2.2.2.2.2.2) ([]) zE3 rfl rfl (Nat.le_of_ble_eq_true rfl) zE3r dL_law_298 ⟨(Nat.le_of_ble_eq_true rfl), (Nat.le_of_ble_eq_true rfl)⟩ (fun H locs hW => ?_)
        refine lv_icmp_eq (tgt := 662) hx hb dL_law_301 (by decide) (fun c48 => ?_) (fun c48 => ?_)
        · have hf := ipos c48 hf
          refine lv_iinc (v := (v3 + 5)) (lv' := [(3, .int (v3 + 5)), (0, .ref b), (1, .ref (q 0)), (2, .ref (qm 0))]) hx hb dL_law_662 hl (k := 3) rfl rfl (by decide) rfl (fun ls hl => ?_)
          refine lv_goto (tgt := 18) hx hb dL_law_665 (by decide) ?_
          exact ih (v3 + 5) u45.2.1 u45.2.2.1 u45.2.2.2.1 u45.2.2.2.2.1 u45.2.2.2.2.2.1 u45.2.2.2.2.2.2.1 u45.2.2.2.2.2.2.2.1 u45.2.2.2.2.2.2.2.2.1 u45.2.2.2.2.2.2.2.2.2.1 u45.2.2.2.2.2.2.2.2.2.2.1 u45.2.2.2.2.2.2.2.2.2.2.2.1 u45.2.2.2.2.2.2.2.2.2.2.2.2.1 u45.2.2.2.2.2.2.2.2.2.2.2.2.2 s1_0 s1_1 s1_2 s1_3 s1_4 s1_5 s1_6 s1_7 s1_8 u47.2.1 u47.2.2 s1_11 s1_12 s1_13 s1_14 s1_15 s1_16 s1_17 s1_18 s1_19 s1_20 s1_21 s1_22 s1_23 s1_24 s1_25 s1_26 s1_27 s1_28 s1_29 hf _ _ _ hW (lv_sub hl [1, 2, 3, 0] rfl)
        · have hf := ineg c48 hf
          refine lv_iconst (v := 0) hx hb dL_law_304 (by decide) ?_
          exact absurd (Option.some.inj hf) (by decide)
      have hf := ineg e43 hf
      by_cases e49 : ((xs (Int32.toNatClampNeg v3)) &&& 31) = 8
      · have hf := ipos e49 hf
        refine lv_tableIn (tgt := 306) (off := 274) hx hb dL_law_32 (by rw [e49]; decide) (by rw [e49]; decide) (by rw [e49]; rfl) (by decide) ?_
        refine lv_aload_n hx hb dL_law_306 rfl (lv_at hl 1 rfl) ?_
        refine lv_aload_n hx hb dL_law_307 rfl (lv_at hl 0 rfl) ?_
        refine lv_iload_n hx hb dL_law_308 rfl (lv_at hl 3 rfl) ?_
        refine lv_iconst (v := 1) hx hb dL_law_309 (by decide) ?_
        refine lv_iadd hx hb dL_law_310 ?_
        obtain ⟨g50, hf⟩ := grd hf
        refine va_sld hx hb hX hbl hbA hW.2.2.2.1 g50 dL_law_311 ?_
        refine lv_aload_n hx hb dL_law_312 rfl (lv_at hl 0 rfl) ?_
        refine lv_iload_n hx hb dL_law_313 rfl (lv_at hl 3 rfl) ?_
        refine lv_iconst (v := 2) hx hb dL_law_314 (by decide) ?_
        refine lv_iadd hx hb dL_law_315 ?_
        obtain ⟨g51, hf⟩ := grd hf
        refine va_sld hx hb hX hbl hbA hW.2.2.2.1 g51 dL_law_316 ?_
        obtain ⟨u52, eu52, hf⟩ := bnd hf
        refine zk_callBI (As := [.int (xs (Int32.toNatClampNeg (v3 + 1))), .int (xs (Int32.toNatClampNeg (v3 + 2)))]) (rest := []) (W1 := wX9 G q u52.2.1 u52.2.2.1 u52.2.2.2.1 u52.2.2.2.2.1 u52.2.2.2.2.2.1 u52.2.2.2.2.2.2.1 u52.2.2.2.2.2.2.2.1 u52.2.2.2.2.2.2.2.2.1 u52.2.2.2.2.2.2.2.2.2.1 u52.2.2.2.2.2.2.2.2.2.2.1 u52.2.2.2.2.2.2.2.2.2.2.2.1 u52.2.2.2.2.2.2.2.2.2.2.2.2.1 u52.2.2.2.2.2.2.2.2.2.2.2.2.2 ++ wX10 G qm s1_0 s1_1 s1_2 s1_3 s1_4 s1_5 s1_6 s1_7 s1_8 s1_9 s1_10 s1_11 s1_12 s1_13 s1_14 s1_15 s1_16 s1_17 s1_18 s1_19 s1_20 s1_21 s1_22 s1_23 s1_24 s1_25 s1_26 s1_27 s1_28 s1_29) C hW hl mvL_48 (c_X9_about l G q (s0_0, s0_1, s0_2, s0_3, s0_4, s0_5, s0_6, s0_7, s0_8, s0_9, s0_10, s0_11, s0_12) (xs (Int32.toNatClampNeg (v3 + 1))) (xs (Int32.toNatClampNeg (v3 + 2))) u52 eu52) ⟨(Nat.le_of_ble_eq_true rfl), (Nat.le_of_ble_eq_true rfl)⟩ ⟨rfl, rfl⟩ ([]) (wX10 G qm s1_0 s1_1 s1_2 s1_3 s1_4 s1_5 s1_6 s1_7 s1_8 s1_9 s1_10 s1_11 s1_12 s1_13 s1_14 s1_15 s1_16 s1_17 s1_18 s1_19 s1_20 s1_21 s1_22 s1_23 s1_24 s1_25 s1_26 s1_27 s1_28 s1_29) zE2 rfl rfl (Nat.le_of_ble_eq_true rfl) zE2r dL_law_317 ⟨(Nat.le_of_ble_eq_true rfl), (Nat.le_of_ble_eq_true rfl)⟩ (fun H locs hW => ?_)
        refine lv_aload_n hx hb dL_law_320 rfl (lv_at hl 2 rfl) ?_
        refine lv_aload_n hx hb dL_law_321 rfl (lv_at hl 0 rfl) ?_
        refine lv_iload_n hx hb dL_law_322 rfl (lv_at hl 3 rfl) ?_
        refine lv_iconst (v := 1) hx hb dL_law_323 (by decide) ?_
        refine lv_iadd hx hb dL_law_324 ?_
        obtain ⟨g53, hf⟩ := grd hf
        refine va_sld hx hb hX hbl hbA hW.2.2.2.1 g53 dL_law_325 ?_
        refine lv_aload_n hx hb dL_law_326 rfl (lv_at hl 0 rfl) ?_
        refine lv_iload_n hx hb dL_law_327 rfl (lv_at hl 3 rfl) ?_
        refine lv_iconst (v := 2) hx hb dL_law_328 (by decide) ?_
        refine lv_iadd hx hb dL_law_329 ?_
        obtain ⟨g54, hf⟩ := grd hf
        refine va_sld hx hb hX hbl hbA hW.2.2.2.1 g54 dL_law_330 ?_
        obtain ⟨u55, eu55, hf⟩ := bnd hf
        refine zk_callBI (As := [.int (xs (Int32.toNatClampNeg (v3 + 1))), .int (xs (Int32.toNatClampNeg (v3 + 2)))]) (rest := [.int u52.1]) (W1 := wX9 G q u52.2.1 u52.2.2.1 u52.2.2.2.1 u52.2.2.2.2.1 u52.2.2.2.2.2.1 u52.2.2.2.2.2.2.1 u52.2.2.2.2.2.2.2.1 u52.2.2.2.2.2.2.2.2.1 u52.2.2.2.2.2.2.2.2.2.1 u52.2.2.2.2.2.2.2.2.2.2.1 u52.2.2.2.2.2.2.2.2.2.2.2.1 u52.2.2.2.2.2.2.2.2.2.2.2.2.1 u52.2.2.2.2.2.2.2.2.2.2.2.2.2 ++ wX10 G qm s1_0 s1_1 s1_2 s1_3 s1_4 s1_5 s1_6 s1_7 s1_8 s1_9 s1_10 u55.2.1 u55.2.2.1 u55.2.2.2.1 u55.2.2.2.2.1 u55.2.2.2.2.2 s1_16 s1_17 s1_18 s1_19 s1_20 s1_21 s1_22 s1_23 s1_24 s1_25 s1_26 s1_27 s1_28 s1_29) C hW hl mvL_51 (c_X10_about l G qm s1_0 s1_1 s1_2 s1_3 s1_4 s1_5 s1_6 s1_7 s1_8 s1_9 s1_10 s1_11 s1_12 s1_13 s1_14 s1_15 s1_16 s1_17 s1_18 s1_19 s1_20 s1_21 s1_22 s1_23 s1_24 s1_25 s1_26 s1_27 s1_28 s1_29 (xs (Int32.toNatClampNeg (v3 + 1))) (xs (Int32.toNatClampNeg (v3 + 2))) u55 eu55) ⟨(Nat.le_of_ble_eq_true rfl), (Nat.le_of_ble_eq_true rfl)⟩ ⟨rfl, rfl⟩ (wX9 G q u52.2.1 u52.2.2.1 u52.2.2.2.1 u52.2.2.2.2.1 u52.2.2.2.2.2.1 u52.2.2.2.2.2.2.1 u52.2.2.2.2.2.2.2.1 u52.2.2.2.2.2.2.2.2.1 u52.2.2.2.2.2.2.2.2.2.1 u52.2.2.2.2.2.2.2.2.2.2.1 u52.2.2.2.2.2.2.2.2.2.2.2.1 u52.2.2.2.2.2.2.2.2.2.2.2.2.1 u52.2.2.2.2.2.2.2.2.2.2.2.2.2) ([]) zE3 rfl rfl (Nat.le_of_ble_eq_true rfl) zE3r dL_law_331 ⟨(Nat.le_of_ble_eq_true rfl), (Nat.le_of_ble_eq_true rfl)⟩ (fun H locs hW => ?_)
        refine lv_icmp_eq (tgt := 662) hx hb dL_law_334 (by decide) (fun c56 => ?_) (fun c56 => ?_)
        · have hf := ipos c56 hf
          refine lv_iinc (v := (v3 + 5)) (lv' := [(3, .int (v3 + 5)), (0, .ref b), (1, .ref (q 0)), (2, .ref (qm 0))]) hx hb dL_law_662 hl (k := 3) rfl rfl (by decide) rfl (fun ls hl => ?_)
          refine lv_goto (tgt := 18) hx hb dL_law_665 (by decide) ?_
          exact ih (v3 + 5) u52.2.1 u52.2.2.1 u52.2.2.2.1 u52.2.2.2.2.1 u52.2.2.2.2.2.1 u52.2.2.2.2.2.2.1 u52.2.2.2.2.2.2.2.1 u52.2.2.2.2.2.2.2.2.1 u52.2.2.2.2.2.2.2.2.2.1 u52.2.2.2.2.2.2.2.2.2.2.1 u52.2.2.2.2.2.2.2.2.2.2.2.1 u52.2.2.2.2.2.2.2.2.2.2.2.2.1 u52.2.2.2.2.2.2.2.2.2.2.2.2.2 s1_0 s1_1 s1_2 s1_3 s1_4 s1_5 s1_6 s1_7 s1_8 s1_9 s1_10 u55.2.1 u55.2.2.1 u55.2.2.2.1 u55.2.2.2.2.1 u55.2.2.2.2.2 s1_16 s1_17 s1_18 s1_19 s1_20 s1_21 s1_22 s1_23 s1_24 s1_25 s1_26 s1_27 s1_28 s1_29 hf _ _ _ hW (lv_sub hl [1, 2, 3, 0] rfl)
        · have hf := ineg c56 hf
          refine lv_iconst (v := 0) hx hb dL_law_337 (by decide) ?_
          exact absurd (Option.some.inj hf) (by decide)
      have hf := ineg e49 hf
      by_cases e57 : ((xs (Int32.toNatClampNeg v3)) &&& 31) = 9
      · have hf := ipos e57 hf
        refine lv_tableIn (tgt := 339) (off := 307) hx hb dL_law_32 (by rw [e57]; decide) (by rw [e57]; decide) (by rw [e57]; rfl) (by decide) ?_
        refine lv_aload_n hx hb dL_law_339 rfl (lv_at hl 1 rfl) ?_
        refine lv_aload_n hx hb dL_law_340 rfl (lv_at hl 0 rfl) ?_
        refine lv_iload_n hx hb dL_law_341 rfl (lv_at hl 3 rfl) ?_
        refine lv_iconst (v := 1) hx hb dL_law_342 (by decide) ?_
        refine lv_iadd hx hb dL_law_343 ?_
        obtain ⟨g58, hf⟩ := grd hf
        refine va_sld hx hb hX hbl hbA hW.2.2.2.1 g58 dL_law_344 ?_
        refine lv_aload_n hx hb dL_law_345 rfl (lv_at hl 0 rfl) ?_
        refine lv_iload_n hx hb dL_law_346 rfl (lv_at hl 3 rfl) ?_
        refine lv_iconst (v := 2) hx hb dL_law_347 (by decide) ?_
        refine lv_iadd hx hb dL_law_348 ?_
        obtain ⟨g59, hf⟩ := grd hf
        refine va_sld hx hb hX hbl hbA hW.2.2.2.1 g59 dL_law_349 ?_
        obtain ⟨u60, eu60, hf⟩ := bnd hf
        refine zk_callBI (As := [.int (xs (Int32.toNatClampNeg (v3 + 1))), .int (xs (Int32.toNatClampNeg (v3 + 2)))]) (rest := []) (W1 := wX9 G q s0_0 s0_1 s0_2 s0_3 s0_4 s0_5 s0_6 s0_7 s0_8 s0_9 s0_10 s0_11 s0_12 ++ wX10 G qm s1_0 s1_1 s1_2 s1_3 s1_4 s1_5 s1_6 s1_7 s1_8 s1_9 s1_10 s1_11 s1_12 s1_13 s1_14 s1_15 s1_16 s1_17 s1_18 s1_19 s1_20 s1_21 s1_22 s1_23 s1_24 s1_25 s1_26 s1_27 s1_28 s1_29) C hW hl mvL_52 (c_X9_as l G q (s0_0, s0_1, s0_2, s0_3, s0_4, s0_5, s0_6, s0_7, s0_8, s0_9, s0_10, s0_11, s0_12) (xs (Int32.toNatClampNeg (v3 + 1))) (xs (Int32.toNatClampNeg (v3 + 2))) u60 eu60) ⟨(Nat.le_of_ble_eq_true rfl), (Nat.le_of_ble_eq_true rfl)⟩ ⟨rfl, rfl⟩ ([]) (wX10 G qm s1_0 s1_1 s1_2 s1_3 s1_4 s1_5 s1_6 s1_7 s1_8 s1_9 s1_10 s1_11 s1_12 s1_13 s1_14 s1_15 s1_16 s1_17 s1_18 s1_19 s1_20 s1_21 s1_22 s1_23 s1_24 s1_25 s1_26 s1_27 s1_28 s1_29) zE2 rfl rfl (Nat.le_of_ble_eq_true rfl) zE2r dL_law_350 ⟨(Nat.le_of_ble_eq_true rfl), (Nat.le_of_ble_eq_true rfl)⟩ (fun H locs hW => ?_)
        refine lv_aload_n hx hb dL_law_353 rfl (lv_at hl 2 rfl) ?_
        refine lv_aload_n hx hb dL_law_354 rfl (lv_at hl 0 rfl) ?_
        refine lv_iload_n hx hb dL_law_355 rfl (lv_at hl 3 rfl) ?_
        refine lv_iconst (v := 1) hx hb dL_law_356 (by decide) ?_
        refine lv_iadd hx hb dL_law_357 ?_
        obtain ⟨g61, hf⟩ := grd hf
        refine va_sld hx hb hX hbl hbA hW.2.2.2.1 g61 dL_law_358 ?_
        refine lv_aload_n hx hb dL_law_359 rfl (lv_at hl 0 rfl) ?_
        refine lv_iload_n hx hb dL_law_360 rfl (lv_at hl 3 rfl) ?_
        refine lv_iconst (v := 2) hx hb dL_law_361 (by decide) ?_
        refine lv_iadd hx hb dL_law_362 ?_
        obtain ⟨g62, hf⟩ := grd hf
        refine va_sld hx hb hX hbl hbA hW.2.2.2.1 g62 dL_law_363 ?_
        obtain ⟨u63, eu63, hf⟩ := bnd hf
        refine zk_callBI (As := [.int (xs (Int32.toNatClampNeg (v3 + 1))), .int (xs (Int32.toNatClampNeg (v3 + 2)))]) (rest := [.int u60]) (W1 := wX9 G q s0_0 s0_1 s0_2 s0_3 s0_4 s0_5 s0_6 s0_7 s0_8 s0_9 s0_10 s0_11 s0_12 ++ wX10 G qm s1_0 s1_1 s1_2 s1_3 s1_4 s1_5 s1_6 s1_7 s1_8 s1_9 s1_10 s1_11 s1_12 s1_13 s1_14 s1_15 s1_16 s1_17 s1_18 s1_19 s1_20 s1_21 s1_22 s1_23 s1_24 s1_25 s1_26 s1_27 s1_28 s1_29) C hW hl mvL_55 (c_X10_as l G qm s1_0 s1_1 s1_2 s1_3 s1_4 s1_5 s1_6 s1_7 s1_8 s1_9 s1_10 s1_11 s1_12 s1_13 s1_14 s1_15 s1_16 s1_17 s1_18 s1_19 s1_20 s1_21 s1_22 s1_23 s1_24 s1_25 s1_26 s1_27 s1_28 s1_29 (xs (Int32.toNatClampNeg (v3 + 1))) (xs (Int32.toNatClampNeg (v3 + 2))) u63 eu63) ⟨(Nat.le_of_ble_eq_true rfl), (Nat.le_of_ble_eq_true rfl)⟩ ⟨rfl, rfl⟩ (wX9 G q s0_0 s0_1 s0_2 s0_3 s0_4 s0_5 s0_6 s0_7 s0_8 s0_9 s0_10 s0_11 s0_12) ([]) zE3 rfl rfl (Nat.le_of_ble_eq_true rfl) zE3r dL_law_364 ⟨(Nat.le_of_ble_eq_true rfl), (Nat.le_of_ble_eq_true rfl)⟩ (fun H locs hW => ?_)
        refine lv_icmp_eq (tgt := 662) hx hb dL_law_367 (by decide) (fun c64 => ?_) (fun c64 => ?_)
        · have hf := ipos c64 hf
          refine lv_iinc (v := (v3 + 5)) (lv' := [(3, .int (v3 + 5)), (0, .ref b), (1, .ref (q 0)), (2, .ref (qm 0))]) hx hb dL_law_662 hl (k := 3) rfl rfl (by decide) rfl (fun ls hl => ?_)
          refine lv_goto (tgt := 18) hx hb dL_law_665 (by decide) ?_
          exact ih (v3 + 5) s0_0 s0_1 s0_2 s0_3 s0_4 s0_5 s0_6 s0_7 s0_8 s0_9 s0_10 s0_11 s0_12 s1_0 s1_1 s1_2 s1_3 s1_4 s1_5 s1_6 s1_7 s1_8 s1_9 s1_10 s1_11 s1_12 s1_13 s1_14 s1_15 s1_16 s1_17 s1_18 s1_19 s1_20 s1_21 s1_22 s1_23 s1_24 s1_25 s1_26 s1_27 s1_28 s1_29 hf _ _ _ hW (lv_sub hl [1, 2, 3, 0] rfl)
        · have hf := ineg c64 hf
          refine lv_iconst (v := 0) hx hb dL_law_370 (by decide) ?_
          exact absurd (Option.some.inj hf) (by decide)
      have hf := ineg e57 hf
      by_cases e65 : ((xs (Int32.toNatClampNeg v3)) &&& 31) = 10
      · have hf := ipos e65 hf
        refine lv_tableIn (tgt := 372) (off := 340) hx hb dL_law_32 (by rw [e65]; decide) (by rw [e65]; decide) (by rw [e65]; rfl) (by decide) ?_
        refine lv_aload_n hx hb dL_law_372 rfl (lv_at hl 1 rfl) ?_
        refine lv_aload_n hx hb dL_law_373 rfl (lv_at hl 0 rfl) ?_
        refine lv_iload_n hx hb dL_law_374 rfl (lv_at hl 3 rfl) ?_
        refine lv_iconst (v := 1) hx hb dL_law_375 (by decide) ?_
        refine lv_iadd hx hb dL_law_376 ?_
        obtain ⟨g66, hf⟩ := grd hf
        refine va_sld hx hb hX hbl hbA hW.2.2.2.1 g66 dL_law_377 ?_
        refine lv_aload_n hx hb dL_law_378 rfl (lv_at hl 0 rfl) ?_
        refine lv_iload_n hx hb dL_law_379 rfl (lv_at hl 3 rfl) ?_
        refine lv_iconst (v := 2) hx hb dL_law_380 (by decide) ?_
        refine lv_iadd hx hb dL_law_381 ?_
        obtain ⟨g67, hf⟩ := grd hf
        refine va_sld hx hb hX hbl hbA hW.2.2.2.1 g67 dL_law_382 ?_
        refine lv_aload_n hx hb dL_law_383 rfl (lv_at hl 0 rfl) ?_
        refine lv_iload_n hx hb dL_law_384 rfl (lv_at hl 3 rfl) ?_
        refine lv_iconst (v := 3) hx hb dL_law_385 (by decide) ?_
        refine lv_iadd hx hb dL_law_386 ?_
        obtain ⟨g68, hf⟩ := grd hf
        refine va_sld hx hb hX hbl hbA hW.2.2.2.1 g68 dL_law_387 ?_
        refine lv_aload_n hx hb dL_law_388 rfl (lv_at hl 0 rfl) ?_
        refine lv_iload_n hx hb dL_law_389 rfl (lv_at hl 3 rfl) ?_
        refine lv_iconst (v := 4) hx hb dL_law_390 (by decide) ?_
        refine lv_iadd hx hb dL_law_391 ?_
        obtain ⟨g69, hf⟩ := grd hf
        refine va_sld hx hb hX hbl hbA hW.2.2.2.1 g69 dL_law_392 ?_
        obtain ⟨u70, eu70, hf⟩ := bnd hf
        refine zk_callBI (As := [.int (xs (Int32.toNatClampNeg (v3 + 1))), .int (xs (Int32.toNatClampNeg (v3 + 2))), .int (xs (Int32.toNatClampNeg (v3 + 3))), .int (xs (Int32.toNatClampNeg (v3 + 4)))]) (rest := []) (W1 := wX9 G q u70.2.1 u70.2.2.1 u70.2.2.2.1 u70.2.2.2.2.1 u70.2.2.2.2.2.1 u70.2.2.2.2.2.2.1 u70.2.2.2.2.2.2.2.1 u70.2.2.2.2.2.2.2.2.1 u70.2.2.2.2.2.2.2.2.2.1 u70.2.2.2.2.2.2.2.2.2.2.1 u70.2.2.2.2.2.2.2.2.2.2.2.1 u70.2.2.2.2.2.2.2.2.2.2.2.2.1 u70.2.2.2.2.2.2.2.2.2.2.2.2.2 ++ wX10 G qm s1_0 s1_1 s1_2 s1_3 s1_4 s1_5 s1_6 s1_7 s1_8 s1_9 s1_10 s1_11 s1_12 s1_13 s1_14 s1_15 s1_16 s1_17 s1_18 s1_19 s1_20 s1_21 s1_22 s1_23 s1_24 s1_25 s1_26 s1_27 s1_28 s1_29) C hW hl mvL_56 (c_X9_write l G q (s0_0, s0_1, s0_2, s0_3, s0_4, s0_5, s0_6, s0_7, s0_8, s0_9, s0_10, s0_11, s0_12) (xs (Int32.toNatClampNeg (v3 + 1))) (xs (Int32.toNatClampNeg (v3 + 2))) (xs (Int32.toNatClampNeg (v3 + 3))) (xs (Int32.toNatClampNeg (v3 + 4))) u70 eu70) ⟨(Nat.le_of_ble_eq_true rfl), (Nat.le_of_ble_eq_true rfl)⟩ ⟨rfl, rfl⟩ ([]) (wX10 G qm s1_0 s1_1 s1_2 s1_3 s1_4 s1_5 s1_6 s1_7 s1_8 s1_9 s1_10 s1_11 s1_12 s1_13 s1_14 s1_15 s1_16 s1_17 s1_18 s1_19 s1_20 s1_21 s1_22 s1_23 s1_24 s1_25 s1_26 s1_27 s1_28 s1_29) zE2 rfl rfl (Nat.le_of_ble_eq_true rfl) zE2r dL_law_393 ⟨(Nat.le_of_ble_eq_true rfl), (Nat.le_of_ble_eq_true rfl)⟩ (fun H locs hW => ?_)
        refine lv_aload_n hx hb dL_law_396 rfl (lv_at hl 2 rfl) ?_
        refine lv_aload_n hx hb dL_law_397 rfl (lv_at hl 0 rfl) ?_
        refine lv_iload_n hx hb dL_law_398 rfl (lv_at hl 3 rfl) ?_
        refine lv_iconst (v := 1) hx hb dL_law_399 (by decide) ?_
        refine lv_iadd hx hb dL_law_400 ?_
        obtain ⟨g71, hf⟩ := grd hf
        refine va_sld hx hb hX hbl hbA hW.2.2.2.1 g71 dL_law_401 ?_
        refine lv_aload_n hx hb dL_law_402 rfl (lv_at hl 0 rfl) ?_
        refine lv_iload_n hx hb dL_law_403 rfl (lv_at hl 3 rfl) ?_
        refine lv_iconst (v := 2) hx hb dL_law_404 (by decide) ?_
        refine lv_iadd hx hb dL_law_405 ?_
        obtain ⟨g72, hf⟩ := grd hf
        refine va_sld hx hb hX hbl hbA hW.2.2.2.1 g72 dL_law_406 ?_
        refine lv_aload_n hx hb dL_law_407 rfl (lv_at hl 0 rfl) ?_
        refine lv_iload_n hx hb dL_law_408 rfl (lv_at hl 3 rfl) ?_
        refine lv_iconst (v := 3) hx hb dL_law_409 (by decide) ?_
        refine lv_iadd hx hb dL_law_410 ?_
        obtain ⟨g73, hf⟩ := grd hf
        refine va_sld hx hb hX hbl hbA hW.2.2.2.1 g73 dL_law_411 ?_
        refine lv_aload_n hx hb dL_law_412 rfl (lv_at hl 0 rfl) ?_
        refine lv_iload_n hx hb dL_law_413 rfl (lv_at hl 3 rfl) ?_
        refine lv_iconst (v := 4) hx hb dL_law_414 (by decide) ?_
        refine lv_iadd hx hb dL_law_415 ?_
        obtain ⟨g74, hf⟩ := grd hf
        refine va_sld hx hb hX hbl hbA hW.2.2.2.1 g74 dL_law_416 ?_
        obtain ⟨u75, eu75, hf⟩ := bnd hf
        refine zk_callBI (As := [.int (xs (Int32.toNatClampNeg (v3 + 1))), .int (xs (Int32.toNatClampNeg (v3 + 2))), .int (xs (Int32.toNatClampNeg (v3 + 3))), .int (xs (Int32.toNatClampNeg (v3 + 4)))]) (rest := [.int u70.1]) (W1 := wX9 G q u70.2.1 u70.2.2.1 u70.2.2.2.1 u70.2.2.2.2.1 u70.2.2.2.2.2.1 u70.2.2.2.2.2.2.1 u70.2.2.2.2.2.2.2.1 u70.2.2.2.2.2.2.2.2.1 u70.2.2.2.2.2.2.2.2.2.1 u70.2.2.2.2.2.2.2.2.2.2.1 u70.2.2.2.2.2.2.2.2.2.2.2.1 u70.2.2.2.2.2.2.2.2.2.2.2.2.1 u70.2.2.2.2.2.2.2.2.2.2.2.2.2 ++ wX10 G qm s1_0 s1_1 s1_2 s1_3 s1_4 s1_5 s1_6 s1_7 s1_8 s1_9 s1_10 u75.2.1 u75.2.2.1 u75.2.2.2.1 u75.2.2.2.2.1 u75.2.2.2.2.2.1 u75.2.2.2.2.2.2.1 u75.2.2.2.2.2.2.2 s1_18 s1_19 s1_20 s1_21 s1_22 s1_23 s1_24 s1_25 s1_26 s1_27 s1_28 s1_29) C hW hl mvL_60 (c_X10_write l G qm s1_0 s1_1 s1_2 s1_3 s1_4 s1_5 s1_6 s1_7 s1_8 s1_9 s1_10 s1_11 s1_12 s1_13 s1_14 s1_15 s1_16 s1_17 s1_18 s1_19 s1_20 s1_21 s1_22 s1_23 s1_24 s1_25 s1_26 s1_27 s1_28 s1_29 (xs (Int32.toNatClampNeg (v3 + 1))) (xs (Int32.toNatClampNeg (v3 + 2))) (xs (Int32.toNatClampNeg (v3 + 3))) (xs (Int32.toNatClampNeg (v3 + 4))) u75 eu75) ⟨(Nat.le_of_ble_eq_true rfl), (Nat.le_of_ble_eq_true rfl)⟩ ⟨rfl, rfl⟩ (wX9 G q u70.2.1 u70.2.2.1 u70.2.2.2.1 u70.2.2.2.2.1 u70.2.2.2.2.2.1 u70.2.2.2.2.2.2.1 u70.2.2.2.2.2.2.2.1 u70.2.2.2.2.2.2.2.2.1 u70.2.2.2.2.2.2.2.2.2.1 u70.2.2.2.2.2.2.2.2.2.2.1 u70.2.2.2.2.2.2.2.2.2.2.2.1 u70.2.2.2.2.2.2.2.2.2.2.2.2.1 u70.2.2.2.2.2.2.2.2.2.2.2.2.2) ([]) zE3 rfl rfl (Nat.le_of_ble_eq_true rfl) zE3r dL_law_417 ⟨(Nat.le_of_ble_eq_true rfl), (Nat.le_of_ble_eq_true rfl)⟩ (fun H locs hW => ?_)
        refine lv_icmp_eq (tgt := 662) hx hb dL_law_420 (by decide) (fun c76 => ?_) (fun c76 => ?_)
        · have hf := ipos c76 hf
          refine lv_iinc (v := (v3 + 5)) (lv' := [(3, .int (v3 + 5)), (0, .ref b), (1, .ref (q 0)), (2, .ref (qm 0))]) hx hb dL_law_662 hl (k := 3) rfl rfl (by decide) rfl (fun ls hl => ?_)
          refine lv_goto (tgt := 18) hx hb dL_law_665 (by decide) ?_
          exact ih (v3 + 5) u70.2.1 u70.2.2.1 u70.2.2.2.1 u70.2.2.2.2.1 u70.2.2.2.2.2.1 u70.2.2.2.2.2.2.1 u70.2.2.2.2.2.2.2.1 u70.2.2.2.2.2.2.2.2.1 u70.2.2.2.2.2.2.2.2.2.1 u70.2.2.2.2.2.2.2.2.2.2.1 u70.2.2.2.2.2.2.2.2.2.2.2.1 u70.2.2.2.2.2.2.2.2.2.2.2.2.1 u70.2.2.2.2.2.2.2.2.2.2.2.2.2 s1_0 s1_1 s1_2 s1_3 s1_4 s1_5 s1_6 s1_7 s1_8 s1_9 s1_10 u75.2.1 u75.2.2.1 u75.2.2.2.1 u75.2.2.2.2.1 u75.2.2.2.2.2.1 u75.2.2.2.2.2.2.1 u75.2.2.2.2.2.2.2 s1_18 s1_19 s1_20 s1_21 s1_22 s1_23 s1_24 s1_25 s1_26 s1_27 s1_28 s1_29 hf _ _ _ hW (lv_sub hl [1, 2, 3, 0] rfl)
        · have hf := ineg c76 hf
          refine lv_iconst (v := 0) hx hb dL_law_423 (by decide) ?_
          exact absurd (Option.some.inj hf) (by decide)
      have hf := ineg e65 hf
      by_cases e77 : ((xs (Int32.toNatClampNeg v3)) &&& 31) = 11
      · have hf := ipos e77 hf
        refine lv_tableIn (tgt := 425) (off := 393) hx hb dL_law_32 (by rw [e77]; decide) (by rw [e77]; decide) (by rw [e77]; rfl) (by decide) ?_
        refine lv_aload_n hx hb dL_law_425 rfl (lv_at hl 1 rfl) ?_
        refine lv_aload_n hx hb dL_law_426 rfl (lv_at hl 0 rfl) ?_
        refine lv_iload_n hx hb dL_law_427 rfl (lv_at hl 3 rfl) ?_
        refine lv_iconst (v := 1) hx hb dL_law_428 (by decide) ?_
        refine lv_iadd hx hb dL_law_429 ?_
        obtain ⟨g78, hf⟩ := grd hf
        refine va_sld hx hb hX hbl hbA hW.2.2.2.1 g78 dL_law_430 ?_
        refine lv_aload_n hx hb dL_law_431 rfl (lv_at hl 0 rfl) ?_
        refine lv_iload_n hx hb dL_law_432 rfl (lv_at hl 3 rfl) ?_
        refine lv_iconst (v := 2) hx hb dL_law_433 (by decide) ?_
        refine lv_iadd hx hb dL_law_434 ?_
        obtain ⟨g79, hf⟩ := grd hf
        refine va_sld hx hb hX hbl hbA hW.2.2.2.1 g79 dL_law_435 ?_
        refine lv_aload_n hx hb dL_law_436 rfl (lv_at hl 0 rfl) ?_
        refine lv_iload_n hx hb dL_law_437 rfl (lv_at hl 3 rfl) ?_
        refine lv_iconst (v := 3) hx hb dL_law_438 (by decide) ?_
        refine lv_iadd hx hb dL_law_439 ?_
        obtain ⟨g80, hf⟩ := grd hf
        refine va_sld hx hb hX hbl hbA hW.2.2.2.1 g80 dL_law_440 ?_
        obtain ⟨u81, eu81, hf⟩ := bnd hf
        refine zk_callBI (As := [.int (xs (Int32.toNatClampNeg (v3 + 1))), .int (xs (Int32.toNatClampNeg (v3 + 2))), .int (xs (Int32.toNatClampNeg (v3 + 3)))]) (rest := []) (W1 := wX9 G q u81.2.1 u81.2.2.1 u81.2.2.2.1 u81.2.2.2.2.1 u81.2.2.2.2.2.1 u81.2.2.2.2.2.2.1 u81.2.2.2.2.2.2.2.1 u81.2.2.2.2.2.2.2.2.1 u81.2.2.2.2.2.2.2.2.2.1 u81.2.2.2.2.2.2.2.2.2.2.1 u81.2.2.2.2.2.2.2.2.2.2.2.1 u81.2.2.2.2.2.2.2.2.2.2.2.2.1 u81.2.2.2.2.2.2.2.2.2.2.2.2.2 ++ wX10 G qm s1_0 s1_1 s1_2 s1_3 s1_4 s1_5 s1_6 s1_7 s1_8 s1_9 s1_10 s1_11 s1_12 s1_13 s1_14 s1_15 s1_16 s1_17 s1_18 s1_19 s1_20 s1_21 s1_22 s1_23 s1_24 s1_25 s1_26 s1_27 s1_28 s1_29) C hW hl mvL_61 (c_X9_rest l G q (s0_0, s0_1, s0_2, s0_3, s0_4, s0_5, s0_6, s0_7, s0_8, s0_9, s0_10, s0_11, s0_12) (xs (Int32.toNatClampNeg (v3 + 1))) (xs (Int32.toNatClampNeg (v3 + 2))) (xs (Int32.toNatClampNeg (v3 + 3))) u81 eu81) ⟨(Nat.le_of_ble_eq_true rfl), (Nat.le_of_ble_eq_true rfl)⟩ ⟨rfl, rfl⟩ ([]) (wX10 G qm s1_0 s1_1 s1_2 s1_3 s1_4 s1_5 s1_6 s1_7 s1_8 s1_9 s1_10 s1_11 s1_12 s1_13 s1_14 s1_15 s1_16 s1_17 s1_18 s1_19 s1_20 s1_21 s1_22 s1_23 s1_24 s1_25 s1_26 s1_27 s1_28 s1_29) zE2 rfl rfl (Nat.le_of_ble_eq_true rfl) zE2r dL_law_441 ⟨(Nat.le_of_ble_eq_true rfl), (Nat.le_of_ble_eq_true rfl)⟩ (fun H locs hW => ?_)
        refine lv_aload_n hx hb dL_law_444 rfl (lv_at hl 2 rfl) ?_
        refine lv_aload_n hx hb dL_law_445 rfl (lv_at hl 0 rfl) ?_
        refine lv_iload_n hx hb dL_law_446 rfl (lv_at hl 3 rfl) ?_
        refine lv_iconst (v := 1) hx hb dL_law_447 (by decide) ?_
        refine lv_iadd hx hb dL_law_448 ?_
        obtain ⟨g82, hf⟩ := grd hf
        refine va_sld hx hb hX hbl hbA hW.2.2.2.1 g82 dL_law_449 ?_
        refine lv_aload_n hx hb dL_law_450 rfl (lv_at hl 0 rfl) ?_
        refine lv_iload_n hx hb dL_law_451 rfl (lv_at hl 3 rfl) ?_
        refine lv_iconst (v := 2) hx hb dL_law_452 (by decide) ?_
        refine lv_iadd hx hb dL_law_453 ?_
        obtain ⟨g83, hf⟩ := grd hf
        refine va_sld hx hb hX hbl hbA hW.2.2.2.1 g83 dL_law_454 ?_
        refine lv_aload_n hx hb dL_law_455 rfl (lv_at hl 0 rfl) ?_
        refine lv_iload_n hx hb dL_law_456 rfl (lv_at hl 3 rfl) ?_
        refine lv_iconst (v := 3) hx hb dL_law_457 (by decide) ?_
        refine lv_iadd hx hb dL_law_458 ?_
        obtain ⟨g84, hf⟩ := grd hf
        refine va_sld hx hb hX hbl hbA hW.2.2.2.1 g84 dL_law_459 ?_
        obtain ⟨u85, eu85, hf⟩ := bnd hf
        refine zk_callBI (As := [.int (xs (Int32.toNatClampNeg (v3 + 1))), .int (xs (Int32.toNatClampNeg (v3 + 2))), .int (xs (Int32.toNatClampNeg (v3 + 3)))]) (rest := [.int u81.1]) (W1 := wX9 G q u81.2.1 u81.2.2.1 u81.2.2.2.1 u81.2.2.2.2.1 u81.2.2.2.2.2.1 u81.2.2.2.2.2.2.1 u81.2.2.2.2.2.2.2.1 u81.2.2.2.2.2.2.2.2.1 u81.2.2.2.2.2.2.2.2.2.1 u81.2.2.2.2.2.2.2.2.2.2.1 u81.2.2.2.2.2.2.2.2.2.2.2.1 u81.2.2.2.2.2.2.2.2.2.2.2.2.1 u81.2.2.2.2.2.2.2.2.2.2.2.2.2 ++ wX10 G qm s1_0 s1_1 s1_2 s1_3 s1_4 s1_5 s1_6 s1_7 s1_8 s1_9 s1_10 u85.2.1 u85.2.2.1 u85.2.2.2.1 u85.2.2.2.2.1 u85.2.2.2.2.2.1 s1_16 u85.2.2.2.2.2.2 s1_18 s1_19 s1_20 s1_21 s1_22 s1_23 s1_24 s1_25 s1_26 s1_27 s1_28 s1_29) C hW hl mvL_65 (c_X10_rest l G qm s1_0 s1_1 s1_2 s1_3 s1_4 s1_5 s1_6 s1_7 s1_8 s1_9 s1_10 s1_11 s1_12 s1_13 s1_14 s1_15 s1_16 s1_17 s1_18 s1_19 s1_20 s1_21 s1_22 s1_23 s1_24 s1_25 s1_26 s1_27 s1_28 s1_29 (xs (Int32.toNatClampNeg (v3 + 1))) (xs (Int32.toNatClampNeg (v3 + 2))) (xs (Int32.toNatClampNeg (v3 + 3))) u85 eu85) ⟨(Nat.le_of_ble_eq_true rfl), (Nat.le_of_ble_eq_true rfl)⟩ ⟨rfl, rfl⟩ (wX9 G q u81.2.1 u81.2.2.1 u81.2.2.2.1 u81.2.2.2.2.1 u81.2.2.2.2.2.1 u81.2.2.2.2.2.2.1 u81.2.2.2.2.2.2.2.1 u81.2.2.2.2.2.2.2.2.1 u81.2.2.2.2.2.2.2.2.2.1 u81.2.2.2.2.2.2.2.2.2.2.1 u81.2.2.2.2.2.2.2.2.2.2.2.1 u81.2.2.2.2.2.2.2.2.2.2.2.2.1 u81.2.2.2.2.2.2.2.2.2.2.2.2.2) ([]) zE3 rfl rfl (Nat.le_of_ble_eq_true rfl) zE3r dL_law_460 ⟨(Nat.le_of_ble_eq_true rfl), (Nat.le_of_ble_eq_true rfl)⟩ (fun H locs hW => ?_)
        refine lv_icmp_eq (tgt := 662) hx hb dL_law_463 (by decide) (fun c86 => ?_) (fun c86 => ?_)
        · have hf := ipos c86 hf
          refine lv_iinc (v := (v3 + 5)) (lv' := [(3, .int (v3 + 5)), (0, .ref b), (1, .ref (q 0)), (2, .ref (qm 0))]) hx hb dL_law_662 hl (k := 3) rfl rfl (by decide) rfl (fun ls hl => ?_)
          refine lv_goto (tgt := 18) hx hb dL_law_665 (by decide) ?_
          exact ih (v3 + 5) u81.2.1 u81.2.2.1 u81.2.2.2.1 u81.2.2.2.2.1 u81.2.2.2.2.2.1 u81.2.2.2.2.2.2.1 u81.2.2.2.2.2.2.2.1 u81.2.2.2.2.2.2.2.2.1 u81.2.2.2.2.2.2.2.2.2.1 u81.2.2.2.2.2.2.2.2.2.2.1 u81.2.2.2.2.2.2.2.2.2.2.2.1 u81.2.2.2.2.2.2.2.2.2.2.2.2.1 u81.2.2.2.2.2.2.2.2.2.2.2.2.2 s1_0 s1_1 s1_2 s1_3 s1_4 s1_5 s1_6 s1_7 s1_8 s1_9 s1_10 u85.2.1 u85.2.2.1 u85.2.2.2.1 u85.2.2.2.2.1 u85.2.2.2.2.2.1 s1_16 u85.2.2.2.2.2.2 s1_18 s1_19 s1_20 s1_21 s1_22 s1_23 s1_24 s1_25 s1_26 s1_27 s1_28 s1_29 hf _ _ _ hW (lv_sub hl [1, 2, 3, 0] rfl)
        · have hf := ineg c86 hf
          refine lv_iconst (v := 0) hx hb dL_law_466 (by decide) ?_
          exact absurd (Option.some.inj hf) (by decide)
      have hf := ineg e77 hf
      by_cases e87 : ((xs (Int32.toNatClampNeg v3)) &&& 31) = 12
      · have hf := ipos e87 hf
        refine lv_tableIn (tgt := 468) (off := 436) hx hb dL_law_32 (by rw [e87]; decide) (by rw [e87]; decide) (by rw [e87]; rfl) (by decide) ?_
        refine lv_aload_n hx hb dL_law_468 rfl (lv_at hl 1 rfl) ?_
        refine lv_aload_n hx hb dL_law_469 rfl (lv_at hl 0 rfl) ?_
        refine lv_iload_n hx hb dL_law_470 rfl (lv_at hl 3 rfl) ?_
        refine lv_iconst (v := 1) hx hb dL_law_471 (by decide) ?_
        refine lv_iadd hx hb dL_law_472 ?_
        obtain ⟨g88, hf⟩ := grd hf
        refine va_sld hx hb hX hbl hbA hW.2.2.2.1 g88 dL_law_473 ?_
        refine lv_aload_n hx hb dL_law_474 rfl (lv_at hl 0 rfl) ?_
        refine lv_iload_n hx hb dL_law_475 rfl (lv_at hl 3 rfl) ?_
        refine lv_iconst (v := 2) hx hb dL_law_476 (by decide) ?_
        refine lv_iadd hx hb dL_law_477 ?_
        obtain ⟨g89, hf⟩ := grd hf
        refine va_sld hx hb hX hbl hbA hW.2.2.2.1 g89 dL_law_478 ?_
        refine lv_if_eq (tgt := 486) hx hb dL_law_479 (by decide) (fun c90 => ?_) (fun c90 => ?_)
        · have hf := ipos c90 hf
          refine lv_iconst (v := 0) hx hb dL_law_486 (by decide) ?_
          obtain ⟨u91, eu91, hf⟩ := bnd hf
          refine zk_callBI (As := [.int (xs (Int32.toNatClampNeg (v3 + 1))), .int (bI false)]) (rest := []) (W1 := wX9 G q u91.2.1 u91.2.2.1 u91.2.2.2.1 u91.2.2.2.2.1 u91.2.2.2.2.2.1 u91.2.2.2.2.2.2.1 u91.2.2.2.2.2.2.2.1 u91.2.2.2.2.2.2.2.2.1 u91.2.2.2.2.2.2.2.2.2.1 u91.2.2.2.2.2.2.2.2.2.2.1 u91.2.2.2.2.2.2.2.2.2.2.2.1 u91.2.2.2.2.2.2.2.2.2.2.2.2.1 u91.2.2.2.2.2.2.2.2.2.2.2.2.2 ++ wX10 G qm s1_0 s1_1 s1_2 s1_3 s1_4 s1_5 s1_6 s1_7 s1_8 s1_9 s1_10 s1_11 s1_12 s1_13 s1_14 s1_15 s1_16 s1_17 s1_18 s1_19 s1_20 s1_21 s1_22 s1_23 s1_24 s1_25 s1_26 s1_27 s1_28 s1_29) C hW hl mvL_66 (c_X9_tell l G q (s0_0, s0_1, s0_2, s0_3, s0_4, s0_5, s0_6, s0_7, s0_8, s0_9, s0_10, s0_11, s0_12) (xs (Int32.toNatClampNeg (v3 + 1))) false u91 eu91) ⟨(Nat.le_of_ble_eq_true rfl), (Nat.le_of_ble_eq_true rfl)⟩ ⟨rfl, rfl⟩ ([]) (wX10 G qm s1_0 s1_1 s1_2 s1_3 s1_4 s1_5 s1_6 s1_7 s1_8 s1_9 s1_10 s1_11 s1_12 s1_13 s1_14 s1_15 s1_16 s1_17 s1_18 s1_19 s1_20 s1_21 s1_22 s1_23 s1_24 s1_25 s1_26 s1_27 s1_28 s1_29) zE2 rfl rfl (Nat.le_of_ble_eq_true rfl) zE2r dL_law_487 ⟨(Nat.le_of_ble_eq_true rfl), (Nat.le_of_ble_eq_true rfl)⟩ (fun H locs hW => ?_)
          refine lv_aload_n hx hb dL_law_490 rfl (lv_at hl 2 rfl) ?_
          refine lv_aload_n hx hb dL_law_491 rfl (lv_at hl 0 rfl) ?_
          refine lv_iload_n hx hb dL_law_492 rfl (lv_at hl 3 rfl) ?_
          refine lv_iconst (v := 1) hx hb dL_law_493 (by decide) ?_
          refine lv_iadd hx hb dL_law_494 ?_
          obtain ⟨g92, hf⟩ := grd hf
          refine va_sld hx hb hX hbl hbA hW.2.2.2.1 g92 dL_law_495 ?_
          refine lv_aload_n hx hb dL_law_496 rfl (lv_at hl 0 rfl) ?_
          refine lv_iload_n hx hb dL_law_497 rfl (lv_at hl 3 rfl) ?_
          refine lv_iconst (v := 2) hx hb dL_law_498 (by decide) ?_
          refine lv_iadd hx hb dL_law_499 ?_
          obtain ⟨g93, hf⟩ := grd hf
          refine va_sld hx hb hX hbl hbA hW.2.2.2.1 g93 dL_law_500 ?_
          refine lv_if_eq (tgt := 508) hx hb dL_law_501 (by decide) (fun c94 => ?_) (fun c94 => ?_)
          · have hf := ipos c94 hf
            refine lv_iconst (v := 0) hx hb dL_law_508 (by decide) ?_
            obtain ⟨u95, eu95, hf⟩ := bnd hf
            refine zk_callBI (As := [.int (xs (Int32.toNatClampNeg (v3 + 1))), .int (bI false)]) (rest := [.int u91.1]) (W1 := wX9 G q u91.2.1 u91.2.2.1 u91.2.2.2.1 u91.2.2.2.2.1 u91.2.2.2.2.2.1 u91.2.2.2.2.2.2.1 u91.2.2.2.2.2.2.2.1 u91.2.2.2.2.2.2.2.2.1 u91.2.2.2.2.2.2.2.2.2.1 u91.2.2.2.2.2.2.2.2.2.2.1 u91.2.2.2.2.2.2.2.2.2.2.2.1 u91.2.2.2.2.2.2.2.2.2.2.2.2.1 u91.2.2.2.2.2.2.2.2.2.2.2.2.2 ++ wX10 G qm s1_0 s1_1 s1_2 s1_3 s1_4 s1_5 s1_6 s1_7 s1_8 s1_9 s1_10 u95.2.1 u95.2.2.1 u95.2.2.2.1 u95.2.2.2.2.1 u95.2.2.2.2.2.1 s1_16 s1_17 u95.2.2.2.2.2.2.1 u95.2.2.2.2.2.2.2 s1_20 s1_21 s1_22 s1_23 s1_24 s1_25 s1_26 s1_27 s1_28 s1_29) C hW hl mvL_70 (c_X10_tell l G qm s1_0 s1_1 s1_2 s1_3 s1_4 s1_5 s1_6 s1_7 s1_8 s1_9 s1_10 s1_11 s1_12 s1_13 s1_14 s1_15 s1_16 s1_17 s1_18 s1_19 s1_20 s1_21 s1_22 s1_23 s1_24 s1_25 s1_26 s1_27 s1_28 s1_29 (xs (Int32.toNatClampNeg (v3 + 1))) false u95 eu95) ⟨(Nat.le_of_ble_eq_true rfl), (Nat.le_of_ble_eq_true rfl)⟩ ⟨rfl, rfl⟩ (wX9 G q u91.2.1 u91.2.2.1 u91.2.2.2.1 u91.2.2.2.2.1 u91.2.2.2.2.2.1 u91.2.2.2.2.2.2.1 u91.2.2.2.2.2.2.2.1 u91.2.2.2.2.2.2.2.2.1 u91.2.2.2.2.2.2.2.2.2.1 u91.2.2.2.2.2.2.2.2.2.2.1 u91.2.2.2.2.2.2.2.2.2.2.2.1 u91.2.2.2.2.2.2.2.2.2.2.2.2.1 u91.2.2.2.2.2.2.2.2.2.2.2.2.2) ([]) zE3 rfl rfl (Nat.le_of_ble_eq_true rfl) zE3r dL_law_509 ⟨(Nat.le_of_ble_eq_true rfl), (Nat.le_of_ble_eq_true rfl)⟩ (fun H locs hW => ?_)
            refine lv_icmp_eq (tgt := 662) hx hb dL_law_512 (by decide) (fun c96 => ?_) (fun c96 => ?_)
            · have hf := ipos c96 hf
              refine lv_iinc (v := (v3 + 5)) (lv' := [(3, .int (v3 + 5)), (0, .ref b), (1, .ref (q 0)), (2, .ref (qm 0))]) hx hb dL_law_662 hl (k := 3) rfl rfl (by decide) rfl (fun ls hl => ?_)
              refine lv_goto (tgt := 18) hx hb dL_law_665 (by decide) ?_
              exact ih (v3 + 5) u91.2.1 u91.2.2.1 u91.2.2.2.1 u91.2.2.2.2.1 u91.2.2.2.2.2.1 u91.2.2.2.2.2.2.1 u91.2.2.2.2.2.2.2.1 u91.2.2.2.2.2.2.2.2.1 u91.2.2.2.2.2.2.2.2.2.1 u91.2.2.2.2.2.2.2.2.2.2.1 u91.2.2.2.2.2.2.2.2.2.2.2.1 u91.2.2.2.2.2.2.2.2.2.2.2.2.1 u91.2.2.2.2.2.2.2.2.2.2.2.2.2 s1_0 s1_1 s1_2 s1_3 s1_4 s1_5 s1_6 s1_7 s1_8 s1_9 s1_10 u95.2.1 u95.2.2.1 u95.2.2.2.1 u95.2.2.2.2.1 u95.2.2.2.2.2.1 s1_16 s1_17 u95.2.2.2.2.2.2.1 u95.2.2.2.2.2.2.2 s1_20 s1_21 s1_22 s1_23 s1_24 s1_25 s1_26 s1_27 s1_28 s1_29 hf _ _ _ hW (lv_sub hl [1, 2, 3, 0] rfl)
            · have hf := ineg c96 hf
              refine lv_iconst (v := 0) hx hb dL_law_515 (by decide) ?_
              exact absurd (Option.some.inj hf) (by decide)
          · have hf := ineg c94 hf
            refine lv_iconst (v := 1) hx hb dL_law_504 (by decide) ?_
            refine lv_goto (tgt := 509) hx hb dL_law_505 (by decide) ?_
            obtain ⟨u97, eu97, hf⟩ := bnd hf
            refine zk_callBI (As := [.int (xs (Int32.toNatClampNeg (v3 + 1))), .int (bI true)]) (rest := [.int u91.1]) (W1 := wX9 G q u91.2.1 u91.2.2.1 u91.2.2.2.1 u91.2.2.2.2.1 u91.2.2.2.2.2.1 u91.2.2.2.2.2.2.1 u91.2.2.2.2.2.2.2.1 u91.2.2.2.2.2.2.2.2.1 u91.2.2.2.2.2.2.2.2.2.1 u91.2.2.2.2.2.2.2.2.2.2.1 u91.2.2.2.2.2.2.2.2.2.2.2.1 u91.2.2.2.2.2.2.2.2.2.2.2.2.1 u91.2.2.2.2.2.2.2.2.2.2.2.2.2 ++ wX10 G qm s1_0 s1_1 s1_2 s1_3 s1_4 s1_5 s1_6 s1_7 s1_8 s1_9 s1_10 u97.2.1 u97.2.2.1 u97.2.2.2.1 u97.2.2.2.2.1 u97.2.2.2.2.2.1 s1_16 s1_17 u97.2.2.2.2.2.2.1 u97.2.2.2.2.2.2.2 s1_20 s1_21 s1_22 s1_23 s1_24 s1_25 s1_26 s1_27 s1_28 s1_29) C hW hl mvL_70 (c_X10_tell l G qm s1_0 s1_1 s1_2 s1_3 s1_4 s1_5 s1_6 s1_7 s1_8 s1_9 s1_10 s1_11 s1_12 s1_13 s1_14 s1_15 s1_16 s1_17 s1_18 s1_19 s1_20 s1_21 s1_22 s1_23 s1_24 s1_25 s1_26 s1_27 s1_28 s1_29 (xs (Int32.toNatClampNeg (v3 + 1))) true u97 eu97) ⟨(Nat.le_of_ble_eq_true rfl), (Nat.le_of_ble_eq_true rfl)⟩ ⟨rfl, rfl⟩ (wX9 G q u91.2.1 u91.2.2.1 u91.2.2.2.1 u91.2.2.2.2.1 u91.2.2.2.2.2.1 u91.2.2.2.2.2.2.1 u91.2.2.2.2.2.2.2.1 u91.2.2.2.2.2.2.2.2.1 u91.2.2.2.2.2.2.2.2.2.1 u91.2.2.2.2.2.2.2.2.2.2.1 u91.2.2.2.2.2.2.2.2.2.2.2.1 u91.2.2.2.2.2.2.2.2.2.2.2.2.1 u91.2.2.2.2.2.2.2.2.2.2.2.2.2) ([]) zE3 rfl rfl (Nat.le_of_ble_eq_true rfl) zE3r dL_law_509 ⟨(Nat.le_of_ble_eq_true rfl), (Nat.le_of_ble_eq_true rfl)⟩ (fun H locs hW => ?_)
            refine lv_icmp_eq (tgt := 662) hx hb dL_law_512 (by decide) (fun c98 => ?_) (fun c98 => ?_)
            · have hf := ipos c98 hf
              refine lv_iinc (v := (v3 + 5)) (lv' := [(3, .int (v3 + 5)), (0, .ref b), (1, .ref (q 0)), (2, .ref (qm 0))]) hx hb dL_law_662 hl (k := 3) rfl rfl (by decide) rfl (fun ls hl => ?_)
              refine lv_goto (tgt := 18) hx hb dL_law_665 (by decide) ?_
              exact ih (v3 + 5) u91.2.1 u91.2.2.1 u91.2.2.2.1 u91.2.2.2.2.1 u91.2.2.2.2.2.1 u91.2.2.2.2.2.2.1 u91.2.2.2.2.2.2.2.1 u91.2.2.2.2.2.2.2.2.1 u91.2.2.2.2.2.2.2.2.2.1 u91.2.2.2.2.2.2.2.2.2.2.1 u91.2.2.2.2.2.2.2.2.2.2.2.1 u91.2.2.2.2.2.2.2.2.2.2.2.2.1 u91.2.2.2.2.2.2.2.2.2.2.2.2.2 s1_0 s1_1 s1_2 s1_3 s1_4 s1_5 s1_6 s1_7 s1_8 s1_9 s1_10 u97.2.1 u97.2.2.1 u97.2.2.2.1 u97.2.2.2.2.1 u97.2.2.2.2.2.1 s1_16 s1_17 u97.2.2.2.2.2.2.1 u97.2.2.2.2.2.2.2 s1_20 s1_21 s1_22 s1_23 s1_24 s1_25 s1_26 s1_27 s1_28 s1_29 hf _ _ _ hW (lv_sub hl [1, 2, 3, 0] rfl)
            · have hf := ineg c98 hf
              refine lv_iconst (v := 0) hx hb dL_law_515 (by decide) ?_
              exact absurd (Option.some.inj hf) (by decide)
        · have hf := ineg c90 hf
          refine lv_iconst (v := 1) hx hb dL_law_482 (by decide) ?_
          refine lv_goto (tgt := 487) hx hb dL_law_483 (by decide) ?_
          obtain ⟨u99, eu99, hf⟩ := bnd hf
          refine zk_callBI (As := [.int (xs (Int32.toNatClampNeg (v3 + 1))), .int (bI true)]) (rest := []) (W1 := wX9 G q u99.2.1 u99.2.2.1 u99.2.2.2.1 u99.2.2.2.2.1 u99.2.2.2.2.2.1 u99.2.2.2.2.2.2.1 u99.2.2.2.2.2.2.2.1 u99.2.2.2.2.2.2.2.2.1 u99.2.2.2.2.2.2.2.2.2.1 u99.2.2.2.2.2.2.2.2.2.2.1 u99.2.2.2.2.2.2.2.2.2.2.2.1 u99.2.2.2.2.2.2.2.2.2.2.2.2.1 u99.2.2.2.2.2.2.2.2.2.2.2.2.2 ++ wX10 G qm s1_0 s1_1 s1_2 s1_3 s1_4 s1_5 s1_6 s1_7 s1_8 s1_9 s1_10 s1_11 s1_12 s1_13 s1_14 s1_15 s1_16 s1_17 s1_18 s1_19 s1_20 s1_21 s1_22 s1_23 s1_24 s1_25 s1_26 s1_27 s1_28 s1_29) C hW hl mvL_66 (c_X9_tell l G q (s0_0, s0_1, s0_2, s0_3, s0_4, s0_5, s0_6, s0_7, s0_8, s0_9, s0_10, s0_11, s0_12) (xs (Int32.toNatClampNeg (v3 + 1))) true u99 eu99) ⟨(Nat.le_of_ble_eq_true rfl), (Nat.le_of_ble_eq_true rfl)⟩ ⟨rfl, rfl⟩ ([]) (wX10 G qm s1_0 s1_1 s1_2 s1_3 s1_4 s1_5 s1_6 s1_7 s1_8 s1_9 s1_10 s1_11 s1_12 s1_13 s1_14 s1_15 s1_16 s1_17 s1_18 s1_19 s1_20 s1_21 s1_22 s1_23 s1_24 s1_25 s1_26 s1_27 s1_28 s1_29) zE2 rfl rfl (Nat.le_of_ble_eq_true rfl) zE2r dL_law_487 ⟨(Nat.le_of_ble_eq_true rfl), (Nat.le_of_ble_eq_true rfl)⟩ (fun H locs hW => ?_)
          refine lv_aload_n hx hb dL_law_490 rfl (lv_at hl 2 rfl) ?_
          refine lv_aload_n hx hb dL_law_491 rfl (lv_at hl 0 rfl) ?_
          refine lv_iload_n hx hb dL_law_492 rfl (lv_at hl 3 rfl) ?_
          refine lv_iconst (v := 1) hx hb dL_law_493 (by decide) ?_
          refine lv_iadd hx hb dL_law_494 ?_
          obtain ⟨g100, hf⟩ := grd hf
          refine va_sld hx hb hX hbl hbA hW.2.2.2.1 g100 dL_law_495 ?_
          refine lv_aload_n hx hb dL_law_496 rfl (lv_at hl 0 rfl) ?_
          refine lv_iload_n hx hb dL_law_497 rfl (lv_at hl 3 rfl) ?_
          refine lv_iconst (v := 2) hx hb dL_law_498 (by decide) ?_
          refine lv_iadd hx hb dL_law_499 ?_
          obtain ⟨g101, hf⟩ := grd hf
          refine va_sld hx hb hX hbl hbA hW.2.2.2.1 g101 dL_law_500 ?_
          refine lv_if_eq (tgt := 508) hx hb dL_law_501 (by decide) (fun c102 => ?_) (fun c102 => ?_)
          · have hf := ipos c102 hf
            refine lv_iconst (v := 0) hx hb dL_law_508 (by decide) ?_
            obtain ⟨u103, eu103, hf⟩ := bnd hf
            refine zk_callBI (As := [.int (xs (Int32.toNatClampNeg (v3 + 1))), .int (bI false)]) (rest := [.int u99.1]) (W1 := wX9 G q u99.2.1 u99.2.2.1 u99.2.2.2.1 u99.2.2.2.2.1 u99.2.2.2.2.2.1 u99.2.2.2.2.2.2.1 u99.2.2.2.2.2.2.2.1 u99.2.2.2.2.2.2.2.2.1 u99.2.2.2.2.2.2.2.2.2.1 u99.2.2.2.2.2.2.2.2.2.2.1 u99.2.2.2.2.2.2.2.2.2.2.2.1 u99.2.2.2.2.2.2.2.2.2.2.2.2.1 u99.2.2.2.2.2.2.2.2.2.2.2.2.2 ++ wX10 G qm s1_0 s1_1 s1_2 s1_3 s1_4 s1_5 s1_6 s1_7 s1_8 s1_9 s1_10 u103.2.1 u103.2.2.1 u103.2.2.2.1 u103.2.2.2.2.1 u103.2.2.2.2.2.1 s1_16 s1_17 u103.2.2.2.2.2.2.1 u103.2.2.2.2.2.2.2 s1_20 s1_21 s1_22 s1_23 s1_24 s1_25 s1_26 s1_27 s1_28 s1_29) C hW hl mvL_70 (c_X10_tell l G qm s1_0 s1_1 s1_2 s1_3 s1_4 s1_5 s1_6 s1_7 s1_8 s1_9 s1_10 s1_11 s1_12 s1_13 s1_14 s1_15 s1_16 s1_17 s1_18 s1_19 s1_20 s1_21 s1_22 s1_23 s1_24 s1_25 s1_26 s1_27 s1_28 s1_29 (xs (Int32.toNatClampNeg (v3 + 1))) false u103 eu103) ⟨(Nat.le_of_ble_eq_true rfl), (Nat.le_of_ble_eq_true rfl)⟩ ⟨rfl, rfl⟩ (wX9 G q u99.2.1 u99.2.2.1 u99.2.2.2.1 u99.2.2.2.2.1 u99.2.2.2.2.2.1 u99.2.2.2.2.2.2.1 u99.2.2.2.2.2.2.2.1 u99.2.2.2.2.2.2.2.2.1 u99.2.2.2.2.2.2.2.2.2.1 u99.2.2.2.2.2.2.2.2.2.2.1 u99.2.2.2.2.2.2.2.2.2.2.2.1 u99.2.2.2.2.2.2.2.2.2.2.2.2.1 u99.2.2.2.2.2.2.2.2.2.2.2.2.2) ([]) zE3 rfl rfl (Nat.le_of_ble_eq_true rfl) zE3r dL_law_509 ⟨(Nat.le_of_ble_eq_true rfl), (Nat.le_of_ble_eq_true rfl)⟩ (fun H locs hW => ?_)
            refine lv_icmp_eq (tgt := 662) hx hb dL_law_512 (by decide) (fun c104 => ?_) (fun c104 => ?_)
            · have hf := ipos c104 hf
              refine lv_iinc (v := (v3 + 5)) (lv' := [(3, .int (v3 + 5)), (0, .ref b), (1, .ref (q 0)), (2, .ref (qm 0))]) hx hb dL_law_662 hl (k := 3) rfl rfl (by decide) rfl (fun ls hl => ?_)
              refine lv_goto (tgt := 18) hx hb dL_law_665 (by decide) ?_
              exact ih (v3 + 5) u99.2.1 u99.2.2.1 u99.2.2.2.1 u99.2.2.2.2.1 u99.2.2.2.2.2.1 u99.2.2.2.2.2.2.1 u99.2.2.2.2.2.2.2.1 u99.2.2.2.2.2.2.2.2.1 u99.2.2.2.2.2.2.2.2.2.1 u99.2.2.2.2.2.2.2.2.2.2.1 u99.2.2.2.2.2.2.2.2.2.2.2.1 u99.2.2.2.2.2.2.2.2.2.2.2.2.1 u99.2.2.2.2.2.2.2.2.2.2.2.2.2 s1_0 s1_1 s1_2 s1_3 s1_4 s1_5 s1_6 s1_7 s1_8 s1_9 s1_10 u103.2.1 u103.2.2.1 u103.2.2.2.1 u103.2.2.2.2.1 u103.2.2.2.2.2.1 s1_16 s1_17 u103.2.2.2.2.2.2.1 u103.2.2.2.2.2.2.2 s1_20 s1_21 s1_22 s1_23 s1_24 s1_25 s1_26 s1_27 s1_28 s1_29 hf _ _ _ hW (lv_sub hl [1, 2, 3, 0] rfl)
            · have hf := ineg c104 hf
              refine lv_iconst (v := 0) hx hb dL_law_515 (by decide) ?_
              exact absurd (Option.some.inj hf) (by decide)
          · have hf := ineg c102 hf
            refine lv_iconst (v := 1) hx hb dL_law_504 (by decide) ?_
            refine lv_goto (tgt := 509) hx hb dL_law_505 (by decide) ?_
            obtain ⟨u105, eu105, hf⟩ := bnd hf
            refine zk_callBI (As := [.int (xs (Int32.toNatClampNeg (v3 + 1))), .int (bI true)]) (rest := [.int u99.1]) (W1 := wX9 G q u99.2.1 u99.2.2.1 u99.2.2.2.1 u99.2.2.2.2.1 u99.2.2.2.2.2.1 u99.2.2.2.2.2.2.1 u99.2.2.2.2.2.2.2.1 u99.2.2.2.2.2.2.2.2.1 u99.2.2.2.2.2.2.2.2.2.1 u99.2.2.2.2.2.2.2.2.2.2.1 u99.2.2.2.2.2.2.2.2.2.2.2.1 u99.2.2.2.2.2.2.2.2.2.2.2.2.1 u99.2.2.2.2.2.2.2.2.2.2.2.2.2 ++ wX10 G qm s1_0 s1_1 s1_2 s1_3 s1_4 s1_5 s1_6 s1_7 s1_8 s1_9 s1_10 u105.2.1 u105.2.2.1 u105.2.2.2.1 u105.2.2.2.2.1 u105.2.2.2.2.2.1 s1_16 s1_17 u105.2.2.2.2.2.2.1 u105.2.2.2.2.2.2.2 s1_20 s1_21 s1_22 s1_23 s1_24 s1_25 s1_26 s1_27 s1_28 s1_29) C hW hl mvL_70 (c_X10_tell l G qm s1_0 s1_1 s1_2 s1_3 s1_4 s1_5 s1_6 s1_7 s1_8 s1_9 s1_10 s1_11 s1_12 s1_13 s1_14 s1_15 s1_16 s1_17 s1_18 s1_19 s1_20 s1_21 s1_22 s1_23 s1_24 s1_25 s1_26 s1_27 s1_28 s1_29 (xs (Int32.toNatClampNeg (v3 + 1))) true u105 eu105) ⟨(Nat.le_of_ble_eq_true rfl), (Nat.le_of_ble_eq_true rfl)⟩ ⟨rfl, rfl⟩ (wX9 G q u99.2.1 u99.2.2.1 u99.2.2.2.1 u99.2.2.2.2.1 u99.2.2.2.2.2.1 u99.2.2.2.2.2.2.1 u99.2.2.2.2.2.2.2.1 u99.2.2.2.2.2.2.2.2.1 u99.2.2.2.2.2.2.2.2.2.1 u99.2.2.2.2.2.2.2.2.2.2.1 u99.2.2.2.2.2.2.2.2.2.2.2.1 u99.2.2.2.2.2.2.2.2.2.2.2.2.1 u99.2.2.2.2.2.2.2.2.2.2.2.2.2) ([]) zE3 rfl rfl (Nat.le_of_ble_eq_true rfl) zE3r dL_law_509 ⟨(Nat.le_of_ble_eq_true rfl), (Nat.le_of_ble_eq_true rfl)⟩ (fun H locs hW => ?_)
            refine lv_icmp_eq (tgt := 662) hx hb dL_law_512 (by decide) (fun c106 => ?_) (fun c106 => ?_)
            · have hf := ipos c106 hf
              refine lv_iinc (v := (v3 + 5)) (lv' := [(3, .int (v3 + 5)), (0, .ref b), (1, .ref (q 0)), (2, .ref (qm 0))]) hx hb dL_law_662 hl (k := 3) rfl rfl (by decide) rfl (fun ls hl => ?_)
              refine lv_goto (tgt := 18) hx hb dL_law_665 (by decide) ?_
              exact ih (v3 + 5) u99.2.1 u99.2.2.1 u99.2.2.2.1 u99.2.2.2.2.1 u99.2.2.2.2.2.1 u99.2.2.2.2.2.2.1 u99.2.2.2.2.2.2.2.1 u99.2.2.2.2.2.2.2.2.1 u99.2.2.2.2.2.2.2.2.2.1 u99.2.2.2.2.2.2.2.2.2.2.1 u99.2.2.2.2.2.2.2.2.2.2.2.1 u99.2.2.2.2.2.2.2.2.2.2.2.2.1 u99.2.2.2.2.2.2.2.2.2.2.2.2.2 s1_0 s1_1 s1_2 s1_3 s1_4 s1_5 s1_6 s1_7 s1_8 s1_9 s1_10 u105.2.1 u105.2.2.1 u105.2.2.2.1 u105.2.2.2.2.1 u105.2.2.2.2.2.1 s1_16 s1_17 u105.2.2.2.2.2.2.1 u105.2.2.2.2.2.2.2 s1_20 s1_21 s1_22 s1_23 s1_24 s1_25 s1_26 s1_27 s1_28 s1_29 hf _ _ _ hW (lv_sub hl [1, 2, 3, 0] rfl)
            · have hf := ineg c106 hf
              refine lv_iconst (v := 0) hx hb dL_law_515 (by decide) ?_
              exact absurd (Option.some.inj hf) (by decide)
      have hf := ineg e87 hf
      by_cases e107 : ((xs (Int32.toNatClampNeg v3)) &&& 31) = 13
      · have hf := ipos e107 hf
        refine lv_tableIn (tgt := 517) (off := 485) hx hb dL_law_32 (by rw [e107]; decide) (by rw [e107]; decide) (by rw [e107]; rfl) (by decide) ?_
        refine lv_aload_n hx hb dL_law_517 rfl (lv_at hl 1 rfl) ?_
        obtain ⟨u108, eu108, hf⟩ := bnd hf
        refine zk_callBI (As := []) (rest := []) (W1 := wX9 G q u108.2.1 u108.2.2.1 u108.2.2.2.1 u108.2.2.2.2.1 u108.2.2.2.2.2.1 u108.2.2.2.2.2.2.1 u108.2.2.2.2.2.2.2.1 u108.2.2.2.2.2.2.2.2.1 u108.2.2.2.2.2.2.2.2.2.1 u108.2.2.2.2.2.2.2.2.2.2.1 u108.2.2.2.2.2.2.2.2.2.2.2.1 u108.2.2.2.2.2.2.2.2.2.2.2.2.1 u108.2.2.2.2.2.2.2.2.2.2.2.2.2 ++ wX10 G qm s1_0 s1_1 s1_2 s1_3 s1_4 s1_5 s1_6 s1_7 s1_8 s1_9 s1_10 s1_11 s1_12 s1_13 s1_14 s1_15 s1_16 s1_17 s1_18 s1_19 s1_20 s1_21 s1_22 s1_23 s1_24 s1_25 s1_26 s1_27 s1_28 s1_29) C hW hl mvL_71 (c_X9_forget l G q (s0_0, s0_1, s0_2, s0_3, s0_4, s0_5, s0_6, s0_7, s0_8, s0_9, s0_10, s0_11, s0_12) u108 eu108) ⟨(Nat.le_of_ble_eq_true rfl), (Nat.le_of_ble_eq_true rfl)⟩ ⟨rfl, rfl⟩ ([]) (wX10 G qm s1_0 s1_1 s1_2 s1_3 s1_4 s1_5 s1_6 s1_7 s1_8 s1_9 s1_10 s1_11 s1_12 s1_13 s1_14 s1_15 s1_16 s1_17 s1_18 s1_19 s1_20 s1_21 s1_22 s1_23 s1_24 s1_25 s1_26 s1_27 s1_28 s1_29) zE2 rfl rfl (Nat.le_of_ble_eq_true rfl) zE2r dL_law_518 ⟨(Nat.le_of_ble_eq_true rfl), (Nat.le_of_ble_eq_true rfl)⟩ (fun H locs hW => ?_)
        refine lv_aload_n hx hb dL_law_521 rfl (lv_at hl 2 rfl) ?_
        obtain ⟨u109, eu109, hf⟩ := bnd hf
        refine zk_callBI (As := []) (rest := [.int u108.1]) (W1 := wX9 G q u108.2.1 u108.2.2.1 u108.2.2.2.1 u108.2.2.2.2.1 u108.2.2.2.2.2.1 u108.2.2.2.2.2.2.1 u108.2.2.2.2.2.2.2.1 u108.2.2.2.2.2.2.2.2.1 u108.2.2.2.2.2.2.2.2.2.1 u108.2.2.2.2.2.2.2.2.2.2.1 u108.2.2.2.2.2.2.2.2.2.2.2.1 u108.2.2.2.2.2.2.2.2.2.2.2.2.1 u108.2.2.2.2.2.2.2.2.2.2.2.2.2 ++ wX10 G qm s1_0 s1_1 s1_2 s1_3 s1_4 s1_5 s1_6 s1_7 s1_8 s1_9 s1_10 s1_11 s1_12 s1_13 s1_14 s1_15 s1_16 s1_17 u109.2 s1_19 s1_20 s1_21 s1_22 s1_23 s1_24 s1_25 s1_26 s1_27 s1_28 s1_29) C hW hl mvL_74 (c_X10_forget l G qm s1_0 s1_1 s1_2 s1_3 s1_4 s1_5 s1_6 s1_7 s1_8 s1_9 s1_10 s1_11 s1_12 s1_13 s1_14 s1_15 s1_16 s1_17 s1_18 s1_19 s1_20 s1_21 s1_22 s1_23 s1_24 s1_25 s1_26 s1_27 s1_28 s1_29 u109 eu109) ⟨(Nat.le_of_ble_eq_true rfl), (Nat.le_of_ble_eq_true rfl)⟩ ⟨rfl, rfl⟩ (wX9 G q u108.2.1 u108.2.2.1 u108.2.2.2.1 u108.2.2.2.2.1 u108.2.2.2.2.2.1 u108.2.2.2.2.2.2.1 u108.2.2.2.2.2.2.2.1 u108.2.2.2.2.2.2.2.2.1 u108.2.2.2.2.2.2.2.2.2.1 u108.2.2.2.2.2.2.2.2.2.2.1 u108.2.2.2.2.2.2.2.2.2.2.2.1 u108.2.2.2.2.2.2.2.2.2.2.2.2.1 u108.2.2.2.2.2.2.2.2.2.2.2.2.2) ([]) zE3 rfl rfl (Nat.le_of_ble_eq_true rfl) zE3r dL_law_522 ⟨(Nat.le_of_ble_eq_true rfl), (Nat.le_of_ble_eq_true rfl)⟩ (fun H locs hW => ?_)
        refine lv_icmp_eq (tgt := 662) hx hb dL_law_525 (by decide) (fun c110 => ?_) (fun c110 => ?_)
        · have hf := ipos c110 hf
          refine lv_iinc (v := (v3 + 5)) (lv' := [(3, .int (v3 + 5)), (0, .ref b), (1, .ref (q 0)), (2, .ref (qm 0))]) hx hb dL_law_662 hl (k := 3) rfl rfl (by decide) rfl (fun ls hl => ?_)
          refine lv_goto (tgt := 18) hx hb dL_law_665 (by decide) ?_
          exact ih (v3 + 5) u108.2.1 u108.2.2.1 u108.2.2.2.1 u108.2.2.2.2.1 u108.2.2.2.2.2.1 u108.2.2.2.2.2.2.1 u108.2.2.2.2.2.2.2.1 u108.2.2.2.2.2.2.2.2.1 u108.2.2.2.2.2.2.2.2.2.1 u108.2.2.2.2.2.2.2.2.2.2.1 u108.2.2.2.2.2.2.2.2.2.2.2.1 u108.2.2.2.2.2.2.2.2.2.2.2.2.1 u108.2.2.2.2.2.2.2.2.2.2.2.2.2 s1_0 s1_1 s1_2 s1_3 s1_4 s1_5 s1_6 s1_7 s1_8 s1_9 s1_10 s1_11 s1_12 s1_13 s1_14 s1_15 s1_16 s1_17 u109.2 s1_19 s1_20 s1_21 s1_22 s1_23 s1_24 s1_25 s1_26 s1_27 s1_28 s1_29 hf _ _ _ hW (lv_sub hl [1, 2, 3, 0] rfl)
        · have hf := ineg c110 hf
          refine lv_iconst (v := 0) hx hb dL_law_528 (by decide) ?_
          exact absurd (Option.some.inj hf) (by decide)
      have hf := ineg e107 hf
      by_cases e111 : ((xs (Int32.toNatClampNeg v3)) &&& 31) = 14
      · have hf := ipos e111 hf
        refine lv_tableIn (tgt := 530) (off := 498) hx hb dL_law_32 (by rw [e111]; decide) (by rw [e111]; decide) (by rw [e111]; rfl) (by decide) ?_
        refine lv_aload_n hx hb dL_law_530 rfl (lv_at hl 1 rfl) ?_
        obtain ⟨u112, eu112, hf⟩ := bnd hf
        refine zk_callBI (As := []) (rest := []) (W1 := wX9 G q s0_0 s0_1 s0_2 s0_3 s0_4 s0_5 s0_6 s0_7 s0_8 s0_9 s0_10 s0_11 s0_12 ++ wX10 G qm s1_0 s1_1 s1_2 s1_3 s1_4 s1_5 s1_6 s1_7 s1_8 s1_9 s1_10 s1_11 s1_12 s1_13 s1_14 s1_15 s1_16 s1_17 s1_18 s1_19 s1_20 s1_21 s1_22 s1_23 s1_24 s1_25 s1_26 s1_27 s1_28 s1_29) C hW hl mvL_75 (c_X9_which l G q (s0_0, s0_1, s0_2, s0_3, s0_4, s0_5, s0_6, s0_7, s0_8, s0_9, s0_10, s0_11, s0_12) u112 eu112) ⟨(Nat.le_of_ble_eq_true rfl), (Nat.le_of_ble_eq_true rfl)⟩ ⟨rfl, rfl⟩ ([]) (wX10 G qm s1_0 s1_1 s1_2 s1_3 s1_4 s1_5 s1_6 s1_7 s1_8 s1_9 s1_10 s1_11 s1_12 s1_13 s1_14 s1_15 s1_16 s1_17 s1_18 s1_19 s1_20 s1_21 s1_22 s1_23 s1_24 s1_25 s1_26 s1_27 s1_28 s1_29) zE2 rfl rfl (Nat.le_of_ble_eq_true rfl) zE2r dL_law_531 ⟨(Nat.le_of_ble_eq_true rfl), (Nat.le_of_ble_eq_true rfl)⟩ (fun H locs hW => ?_)
        refine lv_aload_n hx hb dL_law_534 rfl (lv_at hl 2 rfl) ?_
        obtain ⟨u113, eu113, hf⟩ := bnd hf
        refine zk_callBI (As := []) (rest := [.int u112]) (W1 := wX9 G q s0_0 s0_1 s0_2 s0_3 s0_4 s0_5 s0_6 s0_7 s0_8 s0_9 s0_10 s0_11 s0_12 ++ wX10 G qm s1_0 s1_1 s1_2 s1_3 s1_4 s1_5 s1_6 s1_7 s1_8 s1_9 s1_10 s1_11 s1_12 s1_13 s1_14 s1_15 s1_16 s1_17 s1_18 s1_19 s1_20 s1_21 s1_22 s1_23 s1_24 s1_25 s1_26 s1_27 s1_28 s1_29) C hW hl mvL_78 (c_X10_which l G qm s1_0 s1_1 s1_2 s1_3 s1_4 s1_5 s1_6 s1_7 s1_8 s1_9 s1_10 s1_11 s1_12 s1_13 s1_14 s1_15 s1_16 s1_17 s1_18 s1_19 s1_20 s1_21 s1_22 s1_23 s1_24 s1_25 s1_26 s1_27 s1_28 s1_29 u113 eu113) ⟨(Nat.le_of_ble_eq_true rfl), (Nat.le_of_ble_eq_true rfl)⟩ ⟨rfl, rfl⟩ (wX9 G q s0_0 s0_1 s0_2 s0_3 s0_4 s0_5 s0_6 s0_7 s0_8 s0_9 s0_10 s0_11 s0_12) ([]) zE3 rfl rfl (Nat.le_of_ble_eq_true rfl) zE3r dL_law_535 ⟨(Nat.le_of_ble_eq_true rfl), (Nat.le_of_ble_eq_true rfl)⟩ (fun H locs hW => ?_)
        refine lv_icmp_eq (tgt := 662) hx hb dL_law_538 (by decide) (fun c114 => ?_) (fun c114 => ?_)
        · have hf := ipos c114 hf
          refine lv_iinc (v := (v3 + 5)) (lv' := [(3, .int (v3 + 5)), (0, .ref b), (1, .ref (q 0)), (2, .ref (qm 0))]) hx hb dL_law_662 hl (k := 3) rfl rfl (by decide) rfl (fun ls hl => ?_)
          refine lv_goto (tgt := 18) hx hb dL_law_665 (by decide) ?_
          exact ih (v3 + 5) s0_0 s0_1 s0_2 s0_3 s0_4 s0_5 s0_6 s0_7 s0_8 s0_9 s0_10 s0_11 s0_12 s1_0 s1_1 s1_2 s1_3 s1_4 s1_5 s1_6 s1_7 s1_8 s1_9 s1_10 s1_11 s1_12 s1_13 s1_14 s1_15 s1_16 s1_17 s1_18 s1_19 s1_20 s1_21 s1_22 s1_23 s1_24 s1_25 s1_26 s1_27 s1_28 s1_29 hf _ _ _ hW (lv_sub hl [1, 2, 3, 0] rfl)
        · have hf := ineg c114 hf
          refine lv_iconst (v := 0) hx hb dL_law_541 (by decide) ?_
          exact absurd (Option.some.inj hf) (by decide)
      have hf := ineg e111 hf
      by_cases e115 : ((xs (Int32.toNatClampNeg v3)) &&& 31) = 15
      · have hf := ipos e115 hf
        refine lv_tableIn (tgt := 543) (off := 511) hx hb dL_law_32 (by rw [e115]; decide) (by rw [e115]; decide) (by rw [e115]; rfl) (by decide) ?_
        refine lv_aload_n hx hb dL_law_543 rfl (lv_at hl 1 rfl) ?_
        obtain ⟨u116, eu116, hf⟩ := bnd hf
        refine zk_callBI (As := []) (rest := []) (W1 := wX9 G q u116.2.1 u116.2.2.1 u116.2.2.2.1 u116.2.2.2.2.1 u116.2.2.2.2.2.1 u116.2.2.2.2.2.2.1 u116.2.2.2.2.2.2.2.1 u116.2.2.2.2.2.2.2.2.1 u116.2.2.2.2.2.2.2.2.2.1 u116.2.2.2.2.2.2.2.2.2.2.1 u116.2.2.2.2.2.2.2.2.2.2.2.1 u116.2.2.2.2.2.2.2.2.2.2.2.2.1 u116.2.2.2.2.2.2.2.2.2.2.2.2.2 ++ wX10 G qm s1_0 s1_1 s1_2 s1_3 s1_4 s1_5 s1_6 s1_7 s1_8 s1_9 s1_10 s1_11 s1_12 s1_13 s1_14 s1_15 s1_16 s1_17 s1_18 s1_19 s1_20 s1_21 s1_22 s1_23 s1_24 s1_25 s1_26 s1_27 s1_28 s1_29) C hW hl mvL_79 (c_X9_ask l G q (s0_0, s0_1, s0_2, s0_3, s0_4, s0_5, s0_6, s0_7, s0_8, s0_9, s0_10, s0_11, s0_12) u116 eu116) ⟨(Nat.le_of_ble_eq_true rfl), (Nat.le_of_ble_eq_true rfl)⟩ ⟨rfl, rfl⟩ ([]) (wX10 G qm s1_0 s1_1 s1_2 s1_3 s1_4 s1_5 s1_6 s1_7 s1_8 s1_9 s1_10 s1_11 s1_12 s1_13 s1_14 s1_15 s1_16 s1_17 s1_18 s1_19 s1_20 s1_21 s1_22 s1_23 s1_24 s1_25 s1_26 s1_27 s1_28 s1_29) zE2 rfl rfl (Nat.le_of_ble_eq_true rfl) zE2r dL_law_544 ⟨(Nat.le_of_ble_eq_true rfl), (Nat.le_of_ble_eq_true rfl)⟩ (fun H locs hW => ?_)
        refine lv_aload_n hx hb dL_law_547 rfl (lv_at hl 2 rfl) ?_
        obtain ⟨u117, eu117, hf⟩ := bnd hf
        refine zk_callBI (As := []) (rest := [.int u116.1]) (W1 := wX9 G q u116.2.1 u116.2.2.1 u116.2.2.2.1 u116.2.2.2.2.1 u116.2.2.2.2.2.1 u116.2.2.2.2.2.2.1 u116.2.2.2.2.2.2.2.1 u116.2.2.2.2.2.2.2.2.1 u116.2.2.2.2.2.2.2.2.2.1 u116.2.2.2.2.2.2.2.2.2.2.1 u116.2.2.2.2.2.2.2.2.2.2.2.1 u116.2.2.2.2.2.2.2.2.2.2.2.2.1 u116.2.2.2.2.2.2.2.2.2.2.2.2.2 ++ wX10 G qm s1_0 s1_1 s1_2 s1_3 s1_4 s1_5 s1_6 s1_7 s1_8 s1_9 s1_10 u117.2.1 u117.2.2.1 u117.2.2.2.1 u117.2.2.2.2.1 u117.2.2.2.2.2.1 s1_16 s1_17 s1_18 s1_19 u117.2.2.2.2.2.2 s1_21 s1_22 s1_23 s1_24 s1_25 s1_26 s1_27 s1_28 s1_29) C hW hl mvL_82 (c_X10_ask l G qm s1_0 s1_1 s1_2 s1_3 s1_4 s1_5 s1_6 s1_7 s1_8 s1_9 s1_10 s1_11 s1_12 s1_13 s1_14 s1_15 s1_16 s1_17 s1_18 s1_19 s1_20 s1_21 s1_22 s1_23 s1_24 s1_25 s1_26 s1_27 s1_28 s1_29 u117 eu117) ⟨(Nat.le_of_ble_eq_true rfl), (Nat.le_of_ble_eq_true rfl)⟩ ⟨rfl, rfl⟩ (wX9 G q u116.2.1 u116.2.2.1 u116.2.2.2.1 u116.2.2.2.2.1 u116.2.2.2.2.2.1 u116.2.2.2.2.2.2.1 u116.2.2.2.2.2.2.2.1 u116.2.2.2.2.2.2.2.2.1 u116.2.2.2.2.2.2.2.2.2.1 u116.2.2.2.2.2.2.2.2.2.2.1 u116.2.2.2.2.2.2.2.2.2.2.2.1 u116.2.2.2.2.2.2.2.2.2.2.2.2.1 u116.2.2.2.2.2.2.2.2.2.2.2.2.2) ([]) zE3 rfl rfl (Nat.le_of_ble_eq_true rfl) zE3r dL_law_548 ⟨(Nat.le_of_ble_eq_true rfl), (Nat.le_of_ble_eq_true rfl)⟩ (fun H locs hW => ?_)
        refine lv_icmp_eq (tgt := 662) hx hb dL_law_551 (by decide) (fun c118 => ?_) (fun c118 => ?_)
        · have hf := ipos c118 hf
          refine lv_iinc (v := (v3 + 5)) (lv' := [(3, .int (v3 + 5)), (0, .ref b), (1, .ref (q 0)), (2, .ref (qm 0))]) hx hb dL_law_662 hl (k := 3) rfl rfl (by decide) rfl (fun ls hl => ?_)
          refine lv_goto (tgt := 18) hx hb dL_law_665 (by decide) ?_
          exact ih (v3 + 5) u116.2.1 u116.2.2.1 u116.2.2.2.1 u116.2.2.2.2.1 u116.2.2.2.2.2.1 u116.2.2.2.2.2.2.1 u116.2.2.2.2.2.2.2.1 u116.2.2.2.2.2.2.2.2.1 u116.2.2.2.2.2.2.2.2.2.1 u116.2.2.2.2.2.2.2.2.2.2.1 u116.2.2.2.2.2.2.2.2.2.2.2.1 u116.2.2.2.2.2.2.2.2.2.2.2.2.1 u116.2.2.2.2.2.2.2.2.2.2.2.2.2 s1_0 s1_1 s1_2 s1_3 s1_4 s1_5 s1_6 s1_7 s1_8 s1_9 s1_10 u117.2.1 u117.2.2.1 u117.2.2.2.1 u117.2.2.2.2.1 u117.2.2.2.2.2.1 s1_16 s1_17 s1_18 s1_19 u117.2.2.2.2.2.2 s1_21 s1_22 s1_23 s1_24 s1_25 s1_26 s1_27 s1_28 s1_29 hf _ _ _ hW (lv_sub hl [1, 2, 3, 0] rfl)
        · have hf := ineg c118 hf
          refine lv_iconst (v := 0) hx hb dL_law_554 (by decide) ?_
          exact absurd (Option.some.inj hf) (by decide)
      have hf := ineg e115 hf
      by_cases e119 : ((xs (Int32.toNatClampNeg v3)) &&& 31) = 16
      · have hf := ipos e119 hf
        refine lv_tableIn (tgt := 556) (off := 524) hx hb dL_law_32 (by rw [e119]; decide) (by rw [e119]; decide) (by rw [e119]; rfl) (by decide) ?_
        refine lv_aload_n hx hb dL_law_556 rfl (lv_at hl 1 rfl) ?_
        refine lv_aload_n hx hb dL_law_557 rfl (lv_at hl 0 rfl) ?_
        refine lv_iload_n hx hb dL_law_558 rfl (lv_at hl 3 rfl) ?_
        refine lv_iconst (v := 1) hx hb dL_law_559 (by decide) ?_
        refine lv_iadd hx hb dL_law_560 ?_
        obtain ⟨g120, hf⟩ := grd hf
        refine va_sld hx hb hX hbl hbA hW.2.2.2.1 g120 dL_law_561 ?_
        refine lv_aload_n hx hb dL_law_562 rfl (lv_at hl 0 rfl) ?_
        refine lv_iload_n hx hb dL_law_563 rfl (lv_at hl 3 rfl) ?_
        refine lv_iconst (v := 2) hx hb dL_law_564 (by decide) ?_
        refine lv_iadd hx hb dL_law_565 ?_
        obtain ⟨g121, hf⟩ := grd hf
        refine va_sld hx hb hX hbl hbA hW.2.2.2.1 g121 dL_law_566 ?_
        refine lv_aload_n hx hb dL_law_567 rfl (lv_at hl 0 rfl) ?_
        refine lv_iload_n hx hb dL_law_568 rfl (lv_at hl 3 rfl) ?_
        refine lv_iconst (v := 3) hx hb dL_law_569 (by decide) ?_
        refine lv_iadd hx hb dL_law_570 ?_
        obtain ⟨g122, hf⟩ := grd hf
        refine va_sld hx hb hX hbl hbA hW.2.2.2.1 g122 dL_law_571 ?_
        obtain ⟨u123, eu123, hf⟩ := bnd hf
        refine zk_callBI (As := [.int (xs (Int32.toNatClampNeg (v3 + 1))), .int (xs (Int32.toNatClampNeg (v3 + 2))), .int (xs (Int32.toNatClampNeg (v3 + 3)))]) (rest := []) (W1 := wX9 G q u123.2.1 u123.2.2.1 u123.2.2.2.1 u123.2.2.2.2.1 u123.2.2.2.2.2.1 u123.2.2.2.2.2.2.1 u123.2.2.2.2.2.2.2.1 u123.2.2.2.2.2.2.2.2.1 u123.2.2.2.2.2.2.2.2.2.1 u123.2.2.2.2.2.2.2.2.2.2.1 u123.2.2.2.2.2.2.2.2.2.2.2.1 u123.2.2.2.2.2.2.2.2.2.2.2.2.1 u123.2.2.2.2.2.2.2.2.2.2.2.2.2 ++ wX10 G qm s1_0 s1_1 s1_2 s1_3 s1_4 s1_5 s1_6 s1_7 s1_8 s1_9 s1_10 s1_11 s1_12 s1_13 s1_14 s1_15 s1_16 s1_17 s1_18 s1_19 s1_20 s1_21 s1_22 s1_23 s1_24 s1_25 s1_26 s1_27 s1_28 s1_29) C hW hl mvL_83 (c_X9_days l G q (s0_0, s0_1, s0_2, s0_3, s0_4, s0_5, s0_6, s0_7, s0_8, s0_9, s0_10, s0_11, s0_12) (xs (Int32.toNatClampNeg (v3 + 1))) (xs (Int32.toNatClampNeg (v3 + 2))) (xs (Int32.toNatClampNeg (v3 + 3))) u123 eu123) ⟨(Nat.le_of_ble_eq_true rfl), (Nat.le_of_ble_eq_true rfl)⟩ ⟨rfl, rfl⟩ ([]) (wX10 G qm s1_0 s1_1 s1_2 s1_3 s1_4 s1_5 s1_6 s1_7 s1_8 s1_9 s1_10 s1_11 s1_12 s1_13 s1_14 s1_15 s1_16 s1_17 s1_18 s1_19 s1_20 s1_21 s1_22 s1_23 s1_24 s1_25 s1_26 s1_27 s1_28 s1_29) zE2 rfl rfl (Nat.le_of_ble_eq_true rfl) zE2r dL_law_572 ⟨(Nat.le_of_ble_eq_true rfl), (Nat.le_of_ble_eq_true rfl)⟩ (fun H locs hW => ?_)
        refine lv_aload_n hx hb dL_law_575 rfl (lv_at hl 2 rfl) ?_
        refine lv_aload_n hx hb dL_law_576 rfl (lv_at hl 0 rfl) ?_
        refine lv_iload_n hx hb dL_law_577 rfl (lv_at hl 3 rfl) ?_
        refine lv_iconst (v := 1) hx hb dL_law_578 (by decide) ?_
        refine lv_iadd hx hb dL_law_579 ?_
        obtain ⟨g124, hf⟩ := grd hf
        refine va_sld hx hb hX hbl hbA hW.2.2.2.1 g124 dL_law_580 ?_
        refine lv_aload_n hx hb dL_law_581 rfl (lv_at hl 0 rfl) ?_
        refine lv_iload_n hx hb dL_law_582 rfl (lv_at hl 3 rfl) ?_
        refine lv_iconst (v := 2) hx hb dL_law_583 (by decide) ?_
        refine lv_iadd hx hb dL_law_584 ?_
        obtain ⟨g125, hf⟩ := grd hf
        refine va_sld hx hb hX hbl hbA hW.2.2.2.1 g125 dL_law_585 ?_
        refine lv_aload_n hx hb dL_law_586 rfl (lv_at hl 0 rfl) ?_
        refine lv_iload_n hx hb dL_law_587 rfl (lv_at hl 3 rfl) ?_
        refine lv_iconst (v := 3) hx hb dL_law_588 (by decide) ?_
        refine lv_iadd hx hb dL_law_589 ?_
        obtain ⟨g126, hf⟩ := grd hf
        refine va_sld hx hb hX hbl hbA hW.2.2.2.1 g126 dL_law_590 ?_
        obtain ⟨u127, eu127, hf⟩ := bnd hf
        refine zk_callBI (As := [.int (xs (Int32.toNatClampNeg (v3 + 1))), .int (xs (Int32.toNatClampNeg (v3 + 2))), .int (xs (Int32.toNatClampNeg (v3 + 3)))]) (rest := [.int u123.1]) (W1 := wX9 G q u123.2.1 u123.2.2.1 u123.2.2.2.1 u123.2.2.2.2.1 u123.2.2.2.2.2.1 u123.2.2.2.2.2.2.1 u123.2.2.2.2.2.2.2.1 u123.2.2.2.2.2.2.2.2.1 u123.2.2.2.2.2.2.2.2.2.1 u123.2.2.2.2.2.2.2.2.2.2.1 u123.2.2.2.2.2.2.2.2.2.2.2.1 u123.2.2.2.2.2.2.2.2.2.2.2.2.1 u123.2.2.2.2.2.2.2.2.2.2.2.2.2 ++ wX10 G qm s1_0 s1_1 s1_2 s1_3 s1_4 s1_5 s1_6 s1_7 s1_8 s1_9 s1_10 u127.2.1 u127.2.2.1 u127.2.2.2.1 u127.2.2.2.2.1 u127.2.2.2.2.2.1 s1_16 u127.2.2.2.2.2.2.1 s1_18 s1_19 s1_20 u127.2.2.2.2.2.2.2 s1_22 s1_23 s1_24 s1_25 s1_26 s1_27 s1_28 s1_29) C hW hl mvL_86 (c_X10_days l G qm s1_0 s1_1 s1_2 s1_3 s1_4 s1_5 s1_6 s1_7 s1_8 s1_9 s1_10 s1_11 s1_12 s1_13 s1_14 s1_15 s1_16 s1_17 s1_18 s1_19 s1_20 s1_21 s1_22 s1_23 s1_24 s1_25 s1_26 s1_27 s1_28 s1_29 (xs (Int32.toNatClampNeg (v3 + 1))) (xs (Int32.toNatClampNeg (v3 + 2))) (xs (Int32.toNatClampNeg (v3 + 3))) u127 eu127) ⟨(Nat.le_of_ble_eq_true rfl), (Nat.le_of_ble_eq_true rfl)⟩ ⟨rfl, rfl⟩ (wX9 G q u123.2.1 u123.2.2.1 u123.2.2.2.1 u123.2.2.2.2.1 u123.2.2.2.2.2.1 u123.2.2.2.2.2.2.1 u123.2.2.2.2.2.2.2.1 u123.2.2.2.2.2.2.2.2.1 u123.2.2.2.2.2.2.2.2.2.1 u123.2.2.2.2.2.2.2.2.2.2.1 u123.2.2.2.2.2.2.2.2.2.2.2.1 u123.2.2.2.2.2.2.2.2.2.2.2.2.1 u123.2.2.2.2.2.2.2.2.2.2.2.2.2) ([]) zE3 rfl rfl (Nat.le_of_ble_eq_true rfl) zE3r dL_law_591 ⟨(Nat.le_of_ble_eq_true rfl), (Nat.le_of_ble_eq_true rfl)⟩ (fun H locs hW => ?_)
        refine lv_icmp_eq (tgt := 662) hx hb dL_law_594 (by decide) (fun c128 => ?_) (fun c128 => ?_)
        · have hf := ipos c128 hf
          refine lv_iinc (v := (v3 + 5)) (lv' := [(3, .int (v3 + 5)), (0, .ref b), (1, .ref (q 0)), (2, .ref (qm 0))]) hx hb dL_law_662 hl (k := 3) rfl rfl (by decide) rfl (fun ls hl => ?_)
          refine lv_goto (tgt := 18) hx hb dL_law_665 (by decide) ?_
          exact ih (v3 + 5) u123.2.1 u123.2.2.1 u123.2.2.2.1 u123.2.2.2.2.1 u123.2.2.2.2.2.1 u123.2.2.2.2.2.2.1 u123.2.2.2.2.2.2.2.1 u123.2.2.2.2.2.2.2.2.1 u123.2.2.2.2.2.2.2.2.2.1 u123.2.2.2.2.2.2.2.2.2.2.1 u123.2.2.2.2.2.2.2.2.2.2.2.1 u123.2.2.2.2.2.2.2.2.2.2.2.2.1 u123.2.2.2.2.2.2.2.2.2.2.2.2.2 s1_0 s1_1 s1_2 s1_3 s1_4 s1_5 s1_6 s1_7 s1_8 s1_9 s1_10 u127.2.1 u127.2.2.1 u127.2.2.2.1 u127.2.2.2.2.1 u127.2.2.2.2.2.1 s1_16 u127.2.2.2.2.2.2.1 s1_18 s1_19 s1_20 u127.2.2.2.2.2.2.2 s1_22 s1_23 s1_24 s1_25 s1_26 s1_27 s1_28 s1_29 hf _ _ _ hW (lv_sub hl [1, 2, 3, 0] rfl)
        · have hf := ineg c128 hf
          refine lv_iconst (v := 0) hx hb dL_law_597 (by decide) ?_
          exact absurd (Option.some.inj hf) (by decide)
      have hf := ineg e119 hf
      by_cases e129 : ((xs (Int32.toNatClampNeg v3)) &&& 31) = 17
      · have hf := ipos e129 hf
        refine lv_tableIn (tgt := 599) (off := 567) hx hb dL_law_32 (by rw [e129]; decide) (by rw [e129]; decide) (by rw [e129]; rfl) (by decide) ?_
        refine lv_aload_n hx hb dL_law_599 rfl (lv_at hl 1 rfl) ?_
        obtain ⟨u130, eu130, hf⟩ := bnd hf
        refine zk_callBI (As := []) (rest := []) (W1 := wX9 G q u130.2.1 u130.2.2.1 u130.2.2.2.1 u130.2.2.2.2.1 u130.2.2.2.2.2.1 u130.2.2.2.2.2.2.1 u130.2.2.2.2.2.2.2.1 u130.2.2.2.2.2.2.2.2.1 u130.2.2.2.2.2.2.2.2.2.1 u130.2.2.2.2.2.2.2.2.2.2.1 u130.2.2.2.2.2.2.2.2.2.2.2.1 u130.2.2.2.2.2.2.2.2.2.2.2.2.1 u130.2.2.2.2.2.2.2.2.2.2.2.2.2 ++ wX10 G qm s1_0 s1_1 s1_2 s1_3 s1_4 s1_5 s1_6 s1_7 s1_8 s1_9 s1_10 s1_11 s1_12 s1_13 s1_14 s1_15 s1_16 s1_17 s1_18 s1_19 s1_20 s1_21 s1_22 s1_23 s1_24 s1_25 s1_26 s1_27 s1_28 s1_29) C hW hl mvL_87 (c_X9_image l G q (s0_0, s0_1, s0_2, s0_3, s0_4, s0_5, s0_6, s0_7, s0_8, s0_9, s0_10, s0_11, s0_12) u130 eu130) ⟨(Nat.le_of_ble_eq_true rfl), (Nat.le_of_ble_eq_true rfl)⟩ ⟨rfl, rfl⟩ ([]) (wX10 G qm s1_0 s1_1 s1_2 s1_3 s1_4 s1_5 s1_6 s1_7 s1_8 s1_9 s1_10 s1_11 s1_12 s1_13 s1_14 s1_15 s1_16 s1_17 s1_18 s1_19 s1_20 s1_21 s1_22 s1_23 s1_24 s1_25 s1_26 s1_27 s1_28 s1_29) zE2 rfl rfl (Nat.le_of_ble_eq_true rfl) zE2r dL_law_600 ⟨(Nat.le_of_ble_eq_true rfl), (Nat.le_of_ble_eq_true rfl)⟩ (fun H locs hW => ?_)
        refine lv_aload_n hx hb dL_law_603 rfl (lv_at hl 2 rfl) ?_
        obtain ⟨u131, eu131, hf⟩ := bnd hf
        refine zk_callBI (As := []) (rest := [.int u130.1]) (W1 := wX9 G q u130.2.1 u130.2.2.1 u130.2.2.2.1 u130.2.2.2.2.1 u130.2.2.2.2.2.1 u130.2.2.2.2.2.2.1 u130.2.2.2.2.2.2.2.1 u130.2.2.2.2.2.2.2.2.1 u130.2.2.2.2.2.2.2.2.2.1 u130.2.2.2.2.2.2.2.2.2.2.1 u130.2.2.2.2.2.2.2.2.2.2.2.1 u130.2.2.2.2.2.2.2.2.2.2.2.2.1 u130.2.2.2.2.2.2.2.2.2.2.2.2.2 ++ wX10 G qm s1_0 s1_1 s1_2 s1_3 s1_4 s1_5 s1_6 s1_7 s1_8 s1_9 s1_10 s1_11 s1_12 s1_13 s1_14 s1_15 s1_16 s1_17 s1_18 s1_19 s1_20 s1_21 u131.2.1 u131.2.2.1 u131.2.2.2.1 u131.2.2.2.2.1 u131.2.2.2.2.2.1 u131.2.2.2.2.2.2.1 u131.2.2.2.2.2.2.2 s1_29) C hW hl mvL_90 (c_X10_image l G qm s1_0 s1_1 s1_2 s1_3 s1_4 s1_5 s1_6 s1_7 s1_8 s1_9 s1_10 s1_11 s1_12 s1_13 s1_14 s1_15 s1_16 s1_17 s1_18 s1_19 s1_20 s1_21 s1_22 s1_23 s1_24 s1_25 s1_26 s1_27 s1_28 s1_29 u131 eu131) ⟨(Nat.le_of_ble_eq_true rfl), (Nat.le_of_ble_eq_true rfl)⟩ ⟨rfl, rfl⟩ (wX9 G q u130.2.1 u130.2.2.1 u130.2.2.2.1 u130.2.2.2.2.1 u130.2.2.2.2.2.1 u130.2.2.2.2.2.2.1 u130.2.2.2.2.2.2.2.1 u130.2.2.2.2.2.2.2.2.1 u130.2.2.2.2.2.2.2.2.2.1 u130.2.2.2.2.2.2.2.2.2.2.1 u130.2.2.2.2.2.2.2.2.2.2.2.1 u130.2.2.2.2.2.2.2.2.2.2.2.2.1 u130.2.2.2.2.2.2.2.2.2.2.2.2.2) ([]) zE3 rfl rfl (Nat.le_of_ble_eq_true rfl) zE3r dL_law_604 ⟨(Nat.le_of_ble_eq_true rfl), (Nat.le_of_ble_eq_true rfl)⟩ (fun H locs hW => ?_)
        refine lv_icmp_eq (tgt := 662) hx hb dL_law_607 (by decide) (fun c132 => ?_) (fun c132 => ?_)
        · have hf := ipos c132 hf
          refine lv_iinc (v := (v3 + 5)) (lv' := [(3, .int (v3 + 5)), (0, .ref b), (1, .ref (q 0)), (2, .ref (qm 0))]) hx hb dL_law_662 hl (k := 3) rfl rfl (by decide) rfl (fun ls hl => ?_)
          refine lv_goto (tgt := 18) hx hb dL_law_665 (by decide) ?_
          exact ih (v3 + 5) u130.2.1 u130.2.2.1 u130.2.2.2.1 u130.2.2.2.2.1 u130.2.2.2.2.2.1 u130.2.2.2.2.2.2.1 u130.2.2.2.2.2.2.2.1 u130.2.2.2.2.2.2.2.2.1 u130.2.2.2.2.2.2.2.2.2.1 u130.2.2.2.2.2.2.2.2.2.2.1 u130.2.2.2.2.2.2.2.2.2.2.2.1 u130.2.2.2.2.2.2.2.2.2.2.2.2.1 u130.2.2.2.2.2.2.2.2.2.2.2.2.2 s1_0 s1_1 s1_2 s1_3 s1_4 s1_5 s1_6 s1_7 s1_8 s1_9 s1_10 s1_11 s1_12 s1_13 s1_14 s1_15 s1_16 s1_17 s1_18 s1_19 s1_20 s1_21 u131.2.1 u131.2.2.1 u131.2.2.2.1 u131.2.2.2.2.1 u131.2.2.2.2.2.1 u131.2.2.2.2.2.2.1 u131.2.2.2.2.2.2.2 s1_29 hf _ _ _ hW (lv_sub hl [1, 2, 3, 0] rfl)
        · have hf := ineg c132 hf
          refine lv_iconst (v := 0) hx hb dL_law_610 (by decide) ?_
          exact absurd (Option.some.inj hf) (by decide)
      have hf := ineg e129 hf
      by_cases e133 : ((xs (Int32.toNatClampNeg v3)) &&& 31) = 18
      · have hf := ipos e133 hf
        refine lv_tableIn (tgt := 612) (off := 580) hx hb dL_law_32 (by rw [e133]; decide) (by rw [e133]; decide) (by rw [e133]; rfl) (by decide) ?_
        refine lv_aload_n hx hb dL_law_612 rfl (lv_at hl 1 rfl) ?_
        obtain ⟨u134, eu134, hf⟩ := bnd hf
        refine zk_callBI (As := []) (rest := []) (W1 := wX9 G q u134.2.1 u134.2.2.1 u134.2.2.2.1 u134.2.2.2.2.1 u134.2.2.2.2.2.1 u134.2.2.2.2.2.2.1 u134.2.2.2.2.2.2.2.1 u134.2.2.2.2.2.2.2.2.1 u134.2.2.2.2.2.2.2.2.2.1 u134.2.2.2.2.2.2.2.2.2.2.1 u134.2.2.2.2.2.2.2.2.2.2.2.1 u134.2.2.2.2.2.2.2.2.2.2.2.2.1 u134.2.2.2.2.2.2.2.2.2.2.2.2.2 ++ wX10 G qm s1_0 s1_1 s1_2 s1_3 s1_4 s1_5 s1_6 s1_7 s1_8 s1_9 s1_10 s1_11 s1_12 s1_13 s1_14 s1_15 s1_16 s1_17 s1_18 s1_19 s1_20 s1_21 s1_22 s1_23 s1_24 s1_25 s1_26 s1_27 s1_28 s1_29) C hW hl mvL_91 (c_X9_restore l G q (s0_0, s0_1, s0_2, s0_3, s0_4, s0_5, s0_6, s0_7, s0_8, s0_9, s0_10, s0_11, s0_12) u134 eu134) ⟨(Nat.le_of_ble_eq_true rfl), (Nat.le_of_ble_eq_true rfl)⟩ ⟨rfl, rfl⟩ ([]) (wX10 G qm s1_0 s1_1 s1_2 s1_3 s1_4 s1_5 s1_6 s1_7 s1_8 s1_9 s1_10 s1_11 s1_12 s1_13 s1_14 s1_15 s1_16 s1_17 s1_18 s1_19 s1_20 s1_21 s1_22 s1_23 s1_24 s1_25 s1_26 s1_27 s1_28 s1_29) zE2 rfl rfl (Nat.le_of_ble_eq_true rfl) zE2r dL_law_613 ⟨(Nat.le_of_ble_eq_true rfl), (Nat.le_of_ble_eq_true rfl)⟩ (fun H locs hW => ?_)
        refine lv_aload_n hx hb dL_law_616 rfl (lv_at hl 2 rfl) ?_
        obtain ⟨u135, eu135, hf⟩ := bnd hf
        refine zk_callBI (As := []) (rest := [.int u134.1]) (W1 := wX9 G q u134.2.1 u134.2.2.1 u134.2.2.2.1 u134.2.2.2.2.1 u134.2.2.2.2.2.1 u134.2.2.2.2.2.2.1 u134.2.2.2.2.2.2.2.1 u134.2.2.2.2.2.2.2.2.1 u134.2.2.2.2.2.2.2.2.2.1 u134.2.2.2.2.2.2.2.2.2.2.1 u134.2.2.2.2.2.2.2.2.2.2.2.1 u134.2.2.2.2.2.2.2.2.2.2.2.2.1 u134.2.2.2.2.2.2.2.2.2.2.2.2.2 ++ wX10 G qm s1_0 s1_1 s1_2 s1_3 s1_4 u135.2.1 u135.2.2.1 s1_7 u135.2.2.2.1 u135.2.2.2.2.1 s1_10 s1_11 s1_12 s1_13 s1_14 s1_15 s1_16 s1_17 u135.2.2.2.2.2.1 u135.2.2.2.2.2.2 s1_20 s1_21 s1_22 s1_23 s1_24 s1_25 s1_26 s1_27 s1_28 s1_29) C hW hl mvL_94 (c_X10_restore l G qm s1_0 s1_1 s1_2 s1_3 s1_4 s1_5 s1_6 s1_7 s1_8 s1_9 s1_10 s1_11 s1_12 s1_13 s1_14 s1_15 s1_16 s1_17 s1_18 s1_19 s1_20 s1_21 s1_22 s1_23 s1_24 s1_25 s1_26 s1_27 s1_28 s1_29 u135 eu135) ⟨(Nat.le_of_ble_eq_true rfl), (Nat.le_of_ble_eq_true rfl)⟩ ⟨rfl, rfl⟩ (wX9 G q u134.2.1 u134.2.2.1 u134.2.2.2.1 u134.2.2.2.2.1 u134.2.2.2.2.2.1 u134.2.2.2.2.2.2.1 u134.2.2.2.2.2.2.2.1 u134.2.2.2.2.2.2.2.2.1 u134.2.2.2.2.2.2.2.2.2.1 u134.2.2.2.2.2.2.2.2.2.2.1 u134.2.2.2.2.2.2.2.2.2.2.2.1 u134.2.2.2.2.2.2.2.2.2.2.2.2.1 u134.2.2.2.2.2.2.2.2.2.2.2.2.2) ([]) zE3 rfl rfl (Nat.le_of_ble_eq_true rfl) zE3r dL_law_617 ⟨(Nat.le_of_ble_eq_true rfl), (Nat.le_of_ble_eq_true rfl)⟩ (fun H locs hW => ?_)
        refine lv_icmp_eq (tgt := 662) hx hb dL_law_620 (by decide) (fun c136 => ?_) (fun c136 => ?_)
        · have hf := ipos c136 hf
          refine lv_iinc (v := (v3 + 5)) (lv' := [(3, .int (v3 + 5)), (0, .ref b), (1, .ref (q 0)), (2, .ref (qm 0))]) hx hb dL_law_662 hl (k := 3) rfl rfl (by decide) rfl (fun ls hl => ?_)
          refine lv_goto (tgt := 18) hx hb dL_law_665 (by decide) ?_
          exact ih (v3 + 5) u134.2.1 u134.2.2.1 u134.2.2.2.1 u134.2.2.2.2.1 u134.2.2.2.2.2.1 u134.2.2.2.2.2.2.1 u134.2.2.2.2.2.2.2.1 u134.2.2.2.2.2.2.2.2.1 u134.2.2.2.2.2.2.2.2.2.1 u134.2.2.2.2.2.2.2.2.2.2.1 u134.2.2.2.2.2.2.2.2.2.2.2.1 u134.2.2.2.2.2.2.2.2.2.2.2.2.1 u134.2.2.2.2.2.2.2.2.2.2.2.2.2 s1_0 s1_1 s1_2 s1_3 s1_4 u135.2.1 u135.2.2.1 s1_7 u135.2.2.2.1 u135.2.2.2.2.1 s1_10 s1_11 s1_12 s1_13 s1_14 s1_15 s1_16 s1_17 u135.2.2.2.2.2.1 u135.2.2.2.2.2.2 s1_20 s1_21 s1_22 s1_23 s1_24 s1_25 s1_26 s1_27 s1_28 s1_29 hf _ _ _ hW (lv_sub hl [1, 2, 3, 0] rfl)
        · have hf := ineg c136 hf
          refine lv_iconst (v := 0) hx hb dL_law_623 (by decide) ?_
          exact absurd (Option.some.inj hf) (by decide)
      have hf := ineg e133 hf
      by_cases e137 : ((xs (Int32.toNatClampNeg v3)) &&& 31) = 19
      · have hf := ipos e137 hf
        refine lv_tableIn (tgt := 625) (off := 593) hx hb dL_law_32 (by rw [e137]; decide) (by rw [e137]; decide) (by rw [e137]; rfl) (by decide) ?_
        refine lv_aload_n hx hb dL_law_625 rfl (lv_at hl 1 rfl) ?_
        refine lv_aload_n hx hb dL_law_626 rfl (lv_at hl 0 rfl) ?_
        refine lv_iload_n hx hb dL_law_627 rfl (lv_at hl 3 rfl) ?_
        refine lv_iconst (v := 1) hx hb dL_law_628 (by decide) ?_
        refine lv_iadd hx hb dL_law_629 ?_
        obtain ⟨g138, hf⟩ := grd hf
        refine va_sld hx hb hX hbl hbA hW.2.2.2.1 g138 dL_law_630 ?_
        obtain ⟨u139, eu139, hf⟩ := bnd hf
        refine zk_callBI (As := [.int (xs (Int32.toNatClampNeg (v3 + 1)))]) (rest := []) (W1 := wX9 G q u139.2.1 u139.2.2.1 u139.2.2.2.1 u139.2.2.2.2.1 u139.2.2.2.2.2.1 u139.2.2.2.2.2.2.1 u139.2.2.2.2.2.2.2.1 u139.2.2.2.2.2.2.2.2.1 u139.2.2.2.2.2.2.2.2.2.1 u139.2.2.2.2.2.2.2.2.2.2.1 u139.2.2.2.2.2.2.2.2.2.2.2.1 u139.2.2.2.2.2.2.2.2.2.2.2.2.1 u139.2.2.2.2.2.2.2.2.2.2.2.2.2 ++ wX10 G qm s1_0 s1_1 s1_2 s1_3 s1_4 s1_5 s1_6 s1_7 s1_8 s1_9 s1_10 s1_11 s1_12 s1_13 s1_14 s1_15 s1_16 s1_17 s1_18 s1_19 s1_20 s1_21 s1_22 s1_23 s1_24 s1_25 s1_26 s1_27 s1_28 s1_29) C hW hl mvL_95 (c_X9_count l G q (s0_0, s0_1, s0_2, s0_3, s0_4, s0_5, s0_6, s0_7, s0_8, s0_9, s0_10, s0_11, s0_12) (xs (Int32.toNatClampNeg (v3 + 1))) u139 eu139) ⟨(Nat.le_of_ble_eq_true rfl), (Nat.le_of_ble_eq_true rfl)⟩ ⟨rfl, rfl⟩ ([]) (wX10 G qm s1_0 s1_1 s1_2 s1_3 s1_4 s1_5 s1_6 s1_7 s1_8 s1_9 s1_10 s1_11 s1_12 s1_13 s1_14 s1_15 s1_16 s1_17 s1_18 s1_19 s1_20 s1_21 s1_22 s1_23 s1_24 s1_25 s1_26 s1_27 s1_28 s1_29) zE2 rfl rfl (Nat.le_of_ble_eq_true rfl) zE2r dL_law_631 ⟨(Nat.le_of_ble_eq_true rfl), (Nat.le_of_ble_eq_true rfl)⟩ (fun H locs hW => ?_)
        refine lv_aload_n hx hb dL_law_634 rfl (lv_at hl 2 rfl) ?_
        refine lv_aload_n hx hb dL_law_635 rfl (lv_at hl 0 rfl) ?_
        refine lv_iload_n hx hb dL_law_636 rfl (lv_at hl 3 rfl) ?_
        refine lv_iconst (v := 1) hx hb dL_law_637 (by decide) ?_
        refine lv_iadd hx hb dL_law_638 ?_
        obtain ⟨g140, hf⟩ := grd hf
        refine va_sld hx hb hX hbl hbA hW.2.2.2.1 g140 dL_law_639 ?_
        obtain ⟨u141, eu141, hf⟩ := bnd hf
        refine zk_callBI (As := [.int (xs (Int32.toNatClampNeg (v3 + 1)))]) (rest := [.int u139.1]) (W1 := wX9 G q u139.2.1 u139.2.2.1 u139.2.2.2.1 u139.2.2.2.2.1 u139.2.2.2.2.2.1 u139.2.2.2.2.2.2.1 u139.2.2.2.2.2.2.2.1 u139.2.2.2.2.2.2.2.2.1 u139.2.2.2.2.2.2.2.2.2.1 u139.2.2.2.2.2.2.2.2.2.2.1 u139.2.2.2.2.2.2.2.2.2.2.2.1 u139.2.2.2.2.2.2.2.2.2.2.2.2.1 u139.2.2.2.2.2.2.2.2.2.2.2.2.2 ++ wX10 G qm s1_0 s1_1 s1_2 s1_3 s1_4 s1_5 s1_6 s1_7 s1_8 s1_9 s1_10 u141.2.1 u141.2.2.1 u141.2.2.2.1 u141.2.2.2.2.1 u141.2.2.2.2.2 s1_16 s1_17 s1_18 s1_19 s1_20 s1_21 s1_22 s1_23 s1_24 s1_25 s1_26 s1_27 s1_28 s1_29) C hW hl mvL_98 (c_X10_count l G qm s1_0 s1_1 s1_2 s1_3 s1_4 s1_5 s1_6 s1_7 s1_8 s1_9 s1_10 s1_11 s1_12 s1_13 s1_14 s1_15 s1_16 s1_17 s1_18 s1_19 s1_20 s1_21 s1_22 s1_23 s1_24 s1_25 s1_26 s1_27 s1_28 s1_29 (xs (Int32.toNatClampNeg (v3 + 1))) u141 eu141) ⟨(Nat.le_of_ble_eq_true rfl), (Nat.le_of_ble_eq_true rfl)⟩ ⟨rfl, rfl⟩ (wX9 G q u139.2.1 u139.2.2.1 u139.2.2.2.1 u139.2.2.2.2.1 u139.2.2.2.2.2.1 u139.2.2.2.2.2.2.1 u139.2.2.2.2.2.2.2.1 u139.2.2.2.2.2.2.2.2.1 u139.2.2.2.2.2.2.2.2.2.1 u139.2.2.2.2.2.2.2.2.2.2.1 u139.2.2.2.2.2.2.2.2.2.2.2.1 u139.2.2.2.2.2.2.2.2.2.2.2.2.1 u139.2.2.2.2.2.2.2.2.2.2.2.2.2) ([]) zE3 rfl rfl (Nat.le_of_ble_eq_true rfl) zE3r dL_law_640 ⟨(Nat.le_of_ble_eq_true rfl), (Nat.le_of_ble_eq_true rfl)⟩ (fun H locs hW => ?_)
        refine lv_icmp_eq (tgt := 662) hx hb dL_law_643 (by decide) (fun c142 => ?_) (fun c142 => ?_)
        · have hf := ipos c142 hf
          refine lv_iinc (v := (v3 + 5)) (lv' := [(3, .int (v3 + 5)), (0, .ref b), (1, .ref (q 0)), (2, .ref (qm 0))]) hx hb dL_law_662 hl (k := 3) rfl rfl (by decide) rfl (fun ls hl => ?_)
          refine lv_goto (tgt := 18) hx hb dL_law_665 (by decide) ?_
          exact ih (v3 + 5) u139.2.1 u139.2.2.1 u139.2.2.2.1 u139.2.2.2.2.1 u139.2.2.2.2.2.1 u139.2.2.2.2.2.2.1 u139.2.2.2.2.2.2.2.1 u139.2.2.2.2.2.2.2.2.1 u139.2.2.2.2.2.2.2.2.2.1 u139.2.2.2.2.2.2.2.2.2.2.1 u139.2.2.2.2.2.2.2.2.2.2.2.1 u139.2.2.2.2.2.2.2.2.2.2.2.2.1 u139.2.2.2.2.2.2.2.2.2.2.2.2.2 s1_0 s1_1 s1_2 s1_3 s1_4 s1_5 s1_6 s1_7 s1_8 s1_9 s1_10 u141.2.1 u141.2.2.1 u141.2.2.2.1 u141.2.2.2.2.1 u141.2.2.2.2.2 s1_16 s1_17 s1_18 s1_19 s1_20 s1_21 s1_22 s1_23 s1_24 s1_25 s1_26 s1_27 s1_28 s1_29 hf _ _ _ hW (lv_sub hl [1, 2, 3, 0] rfl)
        · have hf := ineg c142 hf
          refine lv_iconst (v := 0) hx hb dL_law_646 (by decide) ?_
          exact absurd (Option.some.inj hf) (by decide)
      have hf := ineg e137 hf
      by_cases e143 : ((xs (Int32.toNatClampNeg v3)) &&& 31) = 20
      · have hf := ipos e143 hf
        refine lv_tableIn (tgt := 648) (off := 616) hx hb dL_law_32 (by rw [e143]; decide) (by rw [e143]; decide) (by rw [e143]; rfl) (by decide) ?_
        refine lv_aload_n hx hb dL_law_648 rfl (lv_at hl 1 rfl) ?_
        obtain ⟨u144, eu144, hf⟩ := bnd hf
        refine zk_callBL (As := []) (rest := []) (W1 := wX9 G q u144.2.1 u144.2.2.1 u144.2.2.2.1 u144.2.2.2.2.1 u144.2.2.2.2.2.1 u144.2.2.2.2.2.2.1 u144.2.2.2.2.2.2.2.1 u144.2.2.2.2.2.2.2.2.1 u144.2.2.2.2.2.2.2.2.2.1 u144.2.2.2.2.2.2.2.2.2.2.1 u144.2.2.2.2.2.2.2.2.2.2.2.1 u144.2.2.2.2.2.2.2.2.2.2.2.2.1 u144.2.2.2.2.2.2.2.2.2.2.2.2.2 ++ wX10 G qm s1_0 s1_1 s1_2 s1_3 s1_4 s1_5 s1_6 s1_7 s1_8 s1_9 s1_10 s1_11 s1_12 s1_13 s1_14 s1_15 s1_16 s1_17 s1_18 s1_19 s1_20 s1_21 s1_22 s1_23 s1_24 s1_25 s1_26 s1_27 s1_28 s1_29) C hW hl mvL_99 (c_X9_digest l G q (s0_0, s0_1, s0_2, s0_3, s0_4, s0_5, s0_6, s0_7, s0_8, s0_9, s0_10, s0_11, s0_12) u144 eu144) ⟨(Nat.le_of_ble_eq_true rfl), (Nat.le_of_ble_eq_true rfl)⟩ ⟨rfl, rfl⟩ ([]) (wX10 G qm s1_0 s1_1 s1_2 s1_3 s1_4 s1_5 s1_6 s1_7 s1_8 s1_9 s1_10 s1_11 s1_12 s1_13 s1_14 s1_15 s1_16 s1_17 s1_18 s1_19 s1_20 s1_21 s1_22 s1_23 s1_24 s1_25 s1_26 s1_27 s1_28 s1_29) zE2 rfl rfl (Nat.le_of_ble_eq_true rfl) zE2r dL_law_649 ⟨(Nat.le_of_ble_eq_true rfl), (Nat.le_of_ble_eq_true rfl)⟩ (fun H locs hW => ?_)
        refine lv_aload_n hx hb dL_law_652 rfl (lv_at hl 2 rfl) ?_
        obtain ⟨u145, eu145, hf⟩ := bnd hf
        refine zk_callBL (As := []) (rest := [.long u144.1]) (W1 := wX9 G q u144.2.1 u144.2.2.1 u144.2.2.2.1 u144.2.2.2.2.1 u144.2.2.2.2.2.1 u144.2.2.2.2.2.2.1 u144.2.2.2.2.2.2.2.1 u144.2.2.2.2.2.2.2.2.1 u144.2.2.2.2.2.2.2.2.2.1 u144.2.2.2.2.2.2.2.2.2.2.1 u144.2.2.2.2.2.2.2.2.2.2.2.1 u144.2.2.2.2.2.2.2.2.2.2.2.2.1 u144.2.2.2.2.2.2.2.2.2.2.2.2.2 ++ wX10 G qm s1_0 s1_1 s1_2 s1_3 s1_4 s1_5 s1_6 s1_7 s1_8 s1_9 s1_10 u145.2.1 u145.2.2.1 u145.2.2.2.1 u145.2.2.2.2.1 u145.2.2.2.2.2.1 s1_16 u145.2.2.2.2.2.2.1 s1_18 s1_19 u145.2.2.2.2.2.2.2.1 s1_21 s1_22 s1_23 s1_24 s1_25 s1_26 s1_27 s1_28 u145.2.2.2.2.2.2.2.2) C hW hl mvL_103 (c_X10_digest l G qm s1_0 s1_1 s1_2 s1_3 s1_4 s1_5 s1_6 s1_7 s1_8 s1_9 s1_10 s1_11 s1_12 s1_13 s1_14 s1_15 s1_16 s1_17 s1_18 s1_19 s1_20 s1_21 s1_22 s1_23 s1_24 s1_25 s1_26 s1_27 s1_28 s1_29 u145 eu145) ⟨(Nat.le_of_ble_eq_true rfl), (Nat.le_of_ble_eq_true rfl)⟩ ⟨rfl, rfl⟩ (wX9 G q u144.2.1 u144.2.2.1 u144.2.2.2.1 u144.2.2.2.2.1 u144.2.2.2.2.2.1 u144.2.2.2.2.2.2.1 u144.2.2.2.2.2.2.2.1 u144.2.2.2.2.2.2.2.2.1 u144.2.2.2.2.2.2.2.2.2.1 u144.2.2.2.2.2.2.2.2.2.2.1 u144.2.2.2.2.2.2.2.2.2.2.2.1 u144.2.2.2.2.2.2.2.2.2.2.2.2.1 u144.2.2.2.2.2.2.2.2.2.2.2.2.2) ([]) zE3 rfl rfl (Nat.le_of_ble_eq_true rfl) zE3r dL_law_653 ⟨(Nat.le_of_ble_eq_true rfl), (Nat.le_of_ble_eq_true rfl)⟩ (fun H locs hW => ?_)
        refine W.lcmp hx hb dL_law_656 ?_
        refine lv_if_eq (tgt := 662) hx hb dL_law_657 (by decide) (fun c146 => ?_) (fun c146 => ?_)
        · have hf := ipos c146 hf
          refine lv_iinc (v := (v3 + 5)) (lv' := [(3, .int (v3 + 5)), (0, .ref b), (1, .ref (q 0)), (2, .ref (qm 0))]) hx hb dL_law_662 hl (k := 3) rfl rfl (by decide) rfl (fun ls hl => ?_)
          refine lv_goto (tgt := 18) hx hb dL_law_665 (by decide) ?_
          exact ih (v3 + 5) u144.2.1 u144.2.2.1 u144.2.2.2.1 u144.2.2.2.2.1 u144.2.2.2.2.2.1 u144.2.2.2.2.2.2.1 u144.2.2.2.2.2.2.2.1 u144.2.2.2.2.2.2.2.2.1 u144.2.2.2.2.2.2.2.2.2.1 u144.2.2.2.2.2.2.2.2.2.2.1 u144.2.2.2.2.2.2.2.2.2.2.2.1 u144.2.2.2.2.2.2.2.2.2.2.2.2.1 u144.2.2.2.2.2.2.2.2.2.2.2.2.2 s1_0 s1_1 s1_2 s1_3 s1_4 s1_5 s1_6 s1_7 s1_8 s1_9 s1_10 u145.2.1 u145.2.2.1 u145.2.2.2.1 u145.2.2.2.2.1 u145.2.2.2.2.2.1 s1_16 u145.2.2.2.2.2.2.1 s1_18 s1_19 u145.2.2.2.2.2.2.2.1 s1_21 s1_22 s1_23 s1_24 s1_25 s1_26 s1_27 s1_28 u145.2.2.2.2.2.2.2.2 hf _ _ _ hW (lv_sub hl [1, 2, 3, 0] rfl)
        · have hf := ineg c146 hf
          refine lv_iconst (v := 0) hx hb dL_law_660 (by decide) ?_
          exact absurd (Option.some.inj hf) (by decide)
      have hf := ineg e143 hf
      refine lv_tableOut (tgt := 662) hx hb dL_law_32 (by have he3 := lv_neT e3 (a := 0) rfl; have he9 := lv_neT e9 (a := 1) rfl; have he13 := lv_neT e13 (a := 2) rfl; have he17 := lv_neT e17 (a := 3) rfl; have he21 := lv_neT e21 (a := 4) rfl; have he29 := lv_neT e29 (a := 5) rfl; have he37 := lv_neT e37 (a := 6) rfl; have he43 := lv_neT e43 (a := 7) rfl; have he49 := lv_neT e49 (a := 8) rfl; have he57 := lv_neT e57 (a := 9) rfl; have he65 := lv_neT e65 (a := 10) rfl; have he77 := lv_neT e77 (a := 11) rfl; have he87 := lv_neT e87 (a := 12) rfl; have he107 := lv_neT e107 (a := 13) rfl; have he111 := lv_neT e111 (a := 14) rfl; have he115 := lv_neT e115 (a := 15) rfl; have he119 := lv_neT e119 (a := 16) rfl; have he129 := lv_neT e129 (a := 17) rfl; have he133 := lv_neT e133 (a := 18) rfl; have he137 := lv_neT e137 (a := 19) rfl; have he143 := lv_neT e143 (a := 20) rfl; omega) (by decide) ?_
      refine lv_iinc (v := (v3 + 5)) (lv' := [(3, .int (v3 + 5)), (0, .ref b), (1, .ref (q 0)), (2, .ref (qm 0))]) hx hb dL_law_662 hl (k := 3) rfl rfl (by decide) rfl (fun ls hl => ?_)
      refine lv_goto (tgt := 18) hx hb dL_law_665 (by decide) ?_
      exact ih (v3 + 5) s0_0 s0_1 s0_2 s0_3 s0_4 s0_5 s0_6 s0_7 s0_8 s0_9 s0_10 s0_11 s0_12 s1_0 s1_1 s1_2 s1_3 s1_4 s1_5 s1_6 s1_7 s1_8 s1_9 s1_10 s1_11 s1_12 s1_13 s1_14 s1_15 s1_16 s1_17 s1_18 s1_19 s1_20 s1_21 s1_22 s1_23 s1_24 s1_25 s1_26 s1_27 s1_28 s1_29 hf _ _ _ hW (lv_sub hl [1, 2, 3, 0] rfl)
