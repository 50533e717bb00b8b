set_option maxHeartbeats 4000000 in
set_option maxRecDepth 100000 in
theorem c_X10_draw (l : Launch) (G : GG) (q : Nat → Nat) (m0 : (Nat → Int32)) (m1 : Int32) (m2 : Int32) (m3 : Int32) (m4 : Int32) (m5 : Int32) (m6 : Int32) (m7 : Int32) (m8 : (Nat → Int32)) (m9 : Int32) (m10 : (Nat → Int32)) (m11 : Int32) (m12 : Bool) (m13 : Int32) (m14 : Int32) (m15 : Bool) (m16 : Int32) (m17 : (Nat → Int32)) (m18 : Int32) (m19 : (Nat → Int32)) (m20 : (Nat → Int32)) (m21 : Int32) (m22 : Int32) (m23 : Int32) (m24 : Int32) (m25 : Int32) (m26 : Int32) (m27 : (Nat → Int32)) (m28 : (Nat → Int32)) (m29 : Int64) (a0 : Int32) (out : Int32 × Int32) (hf : f_X10_draw m21 a0 = some out) : CtI G l yX10_draw (Cond.code yX10_draw cX10_draw 2 (some .int) :: WL) (zR 0 0) [.ref (q 0), .int a0] (wX10 G q m0 m1 m2 m3 m4 m5 m6 m7 m8 m9 m10 m11 m12 m13 m14 m15 m16 m17 m18 m19 m20 m21 m22 m23 m24 m25 m26 m27 m28 m29) out.1 (wX10 G q m0 m1 m2 m3 m4 m5 m6 m7 m8 m9 m10 m11 m12 m13 m14 m15 m16 m17 m18 m19 m20 out.2 m22 m23 m24 m25 m26 m27 m28 m29) := by
  refine CtI.mk (cc := cX10_draw) (nL := 2) (rt := (some .int)) (own := RX10) (nm := "draw") (by decide) rfl rfl (Nat.le_of_ble_eq_true rfl) ?_
  intro p e s m below meth c A ls C hW hl
  have hx := C.1
  have hb := C.2.1
  have hl : lv_has ls 2 [(0, .ref (q 0)), (1, .int a0)] := hl
  unfold f_X10_draw at hf
  refine lv_aload_n hx hb dX10_draw_0 rfl (lv_at hl 0 rfl) ?_
  refine lv_ldc2 hx hb C.2.2.2.1 (C.2.2.2.2.1 _ klX10_182) dX10_draw_1 ?_
  refine lv_aload_n hx hb dX10_draw_4 rfl (lv_at hl 0 rfl) ?_
  refine zk_get C hW fgX10_184 0 rfl rfl dX10_draw_5 ?_
  refine lv_i2l (v := (Int32.toInt64 m21)) hx hb dX10_draw_8 rfl ?_
  refine lv_lmul hx hb dX10_draw_9 ?_
  refine lv_ldc2 hx hb C.2.2.2.1 (C.2.2.2.2.1 _ klX10_187) dX10_draw_10 ?_
  refine lv_ladd hx hb dX10_draw_13 ?_
  refine lv_ldc2 hx hb C.2.2.2.1 (C.2.2.2.2.1 _ klX10_189) dX10_draw_14 ?_
  refine lv_land hx hb dX10_draw_17 ?_
  refine lv_l2i (v := (Int64.toInt32 (((1103515245 * (Int32.toInt64 m21)) + 12345) &&& 2147483647))) hx hb dX10_draw_18 rfl ?_
  obtain ⟨z1, ez1, hf⟩ := bnd hf
  refine zk_putI (W1 := wX10 G q m0 m1 m2 m3 m4 m5 m6 m7 m8 m9 m10 m11 m12 m13 m14 m15 m16 m17 m18 m19 m20 z1 m22 m23 m24 m25 m26 m27 m28 m29) C hW fpX10_184 0 (Option.some.inj ez1) rfl (Nat.le_of_ble_eq_true rfl) rfl dX10_draw_19 (fun H locs hW => ?_)
  refine lv_aload_n hx hb dX10_draw_22 rfl (lv_at hl 0 rfl) ?_
  refine zk_get C hW fgX10_184 0 rfl rfl dX10_draw_23 ?_
  refine lv_ldc hx hb C.2.2.2.1 (C.2.2.2.2.1 _ kiX10_191) dX10_draw_26 ?_
  refine lv_idiv hx hb dX10_draw_28 (by decide) ?_
  refine lv_iload_n hx hb dX10_draw_29 rfl (lv_at hl 1 rfl) ?_
  obtain ⟨g2, hf⟩ := grd hf
  refine lv_irem hx hb dX10_draw_30 g2 ?_
  obtain rfl := Option.some.inj hf
  exact zk_iret C hW rfl dX10_draw_31

set_option maxHeartbeats 4000000 in
set_option maxRecDepth 100000 in
theorem w_X10_days_74 {p : Program} {e : Env} {s : State} {m : MethodId} {args : Array Value} {below : List Frame} {meth : Method} {c : Code} {A : Nat → Prop} (l : Launch) (G : GG) (q : Nat → Nat) (v1 : Int32) (v3 : Int32) (v4 : Int32) (v5 : Int32) (v6 : Int32) (v7 : Int32) (s0_0 : (Nat → Int32)) (s0_1 : Int32) (s0_2 : Int32) (s0_3 : Int32) (s0_4 : Int32) (s0_5 : Int32) (s0_6 : Int32) (s0_7 : Int32) (s0_8 : (Nat → Int32)) (s0_9 : Int32) (s0_10 : (Nat → Int32)) (s0_11 : Int32) (s0_12 : Bool) (s0_13 : Int32) (s0_14 : Int32) (s0_15 : Bool) (s0_16 : Int32) (s0_18 : Int32) (s0_19 : (Nat → Int32)) (s0_20 : (Nat → Int32)) (s0_22 : Int32) (s0_23 : Int32) (s0_24 : Int32) (s0_25 : Int32) (s0_26 : Int32) (s0_27 : (Nat → Int32)) (s0_28 : (Nat → Int32)) (s0_29 : Int64) (out : Int32 × Int32 × Bool × Int32 × Int32 × Bool × (Nat → Int32) × Int32) (C : CX p s m args meth c cX10_days 9 RX10 (some .int) "days") {K : Int32 → (Nat → Int32) → Int32 → Option (Int32 × Int32 × Bool × Int32 × Int32 × Bool × (Nat → Int32) × Int32)} (hK : ∀ (v8 : Int32) (s0_17 : (Nat → Int32)) (s0_21 : Int32) , K v8 s0_17 s0_21 = some out → ∀ (H : Heap) (locs : List Loc) (ls : Array Slot), KW G A s (wX10 G q s0_0 s0_1 s0_2 s0_3 s0_4 s0_5 s0_6 s0_7 s0_8 s0_9 s0_10 s0_11 s0_12 s0_13 s0_14 s0_15 s0_16 s0_17 s0_18 s0_19 s0_20 s0_21 s0_22 s0_23 s0_24 s0_25 s0_26 s0_27 s0_28 s0_29) H locs → lv_has ls 9 [(0, .ref (q 0)), (1, .int v1), (3, .int v3), (4, .int v4), (5, .int v5), (6, .int v6), (7, .int v7)] → W p l e (zR 2 53) s m args below meth c H locs 0 0 (QI G A out.1 (wX10 G q s0_0 s0_1 s0_2 s0_3 s0_4 s0_5 s0_6 s0_7 s0_8 s0_9 s0_10 out.2.1 out.2.2.1 out.2.2.2.1 out.2.2.2.2.1 out.2.2.2.2.2.1 s0_16 out.2.2.2.2.2.2.1 s0_18 s0_19 s0_20 out.2.2.2.2.2.2.2 s0_22 s0_23 s0_24 s0_25 s0_26 s0_27 s0_28 s0_29) below args s) (F0 m 100 ls [])) :
    ∀ (n : Nat) (v8 : Int32) (s0_17 : (Nat → Int32)) (s0_21 : Int32) , lp_X10_days_74 v7 K n v8 s0_17 s0_21 = some out → ∀ (H : Heap) (locs : List Loc) (ls : Array Slot), KW G A s (wX10 G q s0_0 s0_1 s0_2 s0_3 s0_4 s0_5 s0_6 s0_7 s0_8 s0_9 s0_10 s0_11 s0_12 s0_13 s0_14 s0_15 s0_16 s0_17 s0_18 s0_19 s0_20 s0_21 s0_22 s0_23 s0_24 s0_25 s0_26 s0_27 s0_28 s0_29) H locs → lv_has ls 9 [(0, .ref (q 0)), (1, .int v1), (3, .int v3), (4, .int v4), (5, .int v5), (6, .int v6), (7, .int v7), (8, .int v8)] → W p l e (zR 2 53) s m args below meth c H locs 0 0 (QI G A out.1 (wX10 G q s0_0 s0_1 s0_2 s0_3 s0_4 s0_5 s0_6 s0_7 s0_8 s0_9 s0_10 out.2.1 out.2.2.1 out.2.2.2.1 out.2.2.2.2.1 out.2.2.2.2.2.1 s0_16 out.2.2.2.2.2.2.1 s0_18 s0_19 s0_20 out.2.2.2.2.2.2.2 s0_22 s0_23 s0_24 s0_25 s0_26 s0_27 s0_28 s0_29) below args s) (F0 m 74 ls []) := by
  have hx := C.1
  have hb := C.2.1
  intro n
  induction n with
  | zero => intro v8 s0_17 s0_21 hf; exact nomatch (show (none : Option (Int32 × Int32 × Bool × Int32 × Int32 × Bool × (Nat → Int32) × Int32)) = some out from hf)
  | succ n ih =>
    intro v8 s0_17 s0_21 hf H locs ls hW hl
    rw [lp_X10_days_74] at hf
    refine lv_iload hx hb dX10_days_74 (lv_at hl 7 rfl) ?_
    refine lv_iload hx hb dX10_days_76 (lv_at hl 6 rfl) ?_
    refine lv_icmp_ge (tgt := 100) hx hb dX10_days_78 (by decide) (fun c9 => ?_) (fun c9 => ?_)
    · have hf := ipos c9 hf
      exact hK v8 s0_17 s0_21 hf _ _ _ hW (lv_sub hl [0, 1, 2, 3, 4, 5, 6] rfl)
    · have hf := ineg c9 hf
      refine lv_aload_n hx hb dX10_days_81 rfl (lv_at hl 0 rfl) ?_
      refine zk_get C hW fgX10_19 0 rfl rfl dX10_days_82 ?_
      refine lv_iload hx hb dX10_days_85 (lv_at hl 7 rfl) ?_
      refine lv_aload_n hx hb dX10_days_87 rfl (lv_at hl 0 rfl) ?_
      refine lv_bipush (v := 6) hx hb dX10_days_88 (by decide) ?_
      obtain ⟨u10, eu10, hf⟩ := bnd hf
      refine zk_callBI (As := [.int 6]) (rest := [.int v8, .ref (q 4)]) (W1 := wX10 G q s0_0 s0_1 s0_2 s0_3 s0_4 s0_5 s0_6 s0_7 s0_8 s0_9 s0_10 s0_11 s0_12 s0_13 s0_14 s0_15 s0_16 s0_17 s0_18 s0_19 s0_20 u10.2 s0_22 s0_23 s0_24 s0_25 s0_26 s0_27 s0_28 s0_29) C hW hl mvX10_196 (c_X10_draw l G q s0_0 s0_1 s0_2 s0_3 s0_4 s0_5 s0_6 s0_7 s0_8 s0_9 s0_10 s0_11 s0_12 s0_13 s0_14 s0_15 s0_16 s0_17 s0_18 s0_19 s0_20 s0_21 s0_22 s0_23 s0_24 s0_25 s0_26 s0_27 s0_28 s0_29 6 u10 eu10) ⟨(Nat.le_of_ble_eq_true rfl), (Nat.le_of_ble_eq_true rfl)⟩ ⟨rfl, rfl⟩ ([]) ([]) zE1 rfl rfl (Nat.le_of_ble_eq_true rfl) zE1r dX10_days_90 ⟨Nat.zero_le _, Nat.zero_le _⟩ (fun H locs hW => ?_)
      obtain ⟨g12, hf⟩ := grd hf
      obtain ⟨z11, ez11, hf⟩ := bnd hf
      refine zk_iast (W1 := wX10 G q s0_0 s0_1 s0_2 s0_3 s0_4 s0_5 s0_6 s0_7 s0_8 s0_9 s0_10 s0_11 s0_12 s0_13 s0_14 s0_15 s0_16 z11 s0_18 s0_19 s0_20 u10.2 s0_22 s0_23 s0_24 s0_25 s0_26 s0_27 s0_28 s0_29) C hW 4 g12 (Option.some.inj ez11) rfl rfl dX10_days_93 (fun H locs hW => ?_)
      refine lv_iinc (v := (v8 + 1)) (lv' := [(8, .int (v8 + 1)), (0, .ref (q 0)), (1, .int v1), (3, .int v3), (4, .int v4), (5, .int v5), (6, .int v6), (7, .int v7)]) hx hb dX10_days_94 hl (k := 7) rfl rfl (by decide) rfl (fun ls hl => ?_)
      refine lv_goto (tgt := 74) hx hb dX10_days_97 (by decide) ?_
      exact ih (v8 + 1) z11 u10.2 hf _ _ _ hW (lv_sub hl [1, 2, 3, 4, 5, 6, 7, 0] rfl)
set_option maxHeartbeats 4000000 in
set_option maxRecDepth 100000 in
theorem w_X10_days_55 {p : Program} {e : Env} {s : State} {m : MethodId} {args : Array Value} {below : List Frame} {meth : Method} {c : Code} {A : Nat → Prop} (l : Launch) (G : GG) (q : Nat → Nat) (v1 : Int32) (v3 : Int32) (s0_0 : (Nat → Int32)) (s0_1 : Int32) (s0_2 : Int32) (s0_3 : Int32) (s0_4 : Int32) (s0_5 : Int32) (s0_6 : Int32) (s0_7 : Int32) (s0_8 : (Nat → Int32)) (s0_9 : Int32) (s0_10 : (Nat → Int32)) (s0_16 : Int32) (s0_18 : Int32) (s0_19 : (Nat → Int32)) (s0_20 : (Nat → Int32)) (s0_22 : Int32) (s0_23 : Int32) (s0_24 : Int32) (s0_25 : Int32) (s0_26 : Int32) (s0_27 : (Nat → Int32)) (s0_28 : (Nat → Int32)) (s0_29 : Int64) (out : Int32 × Int32 × Bool × Int32 × Int32 × Bool × (Nat → Int32) × Int32) (C : CX p s m args meth c cX10_days 9 RX10 (some .int) "days") {K : Int32 → Int32 → Int32 → Int32 → Bool → Int32 → Int32 → Bool → (Nat → Int32) → Int32 → Option (Int32 × Int32 × Bool × Int32 × Int32 × Bool × (Nat → Int32) × Int32)} (hK : ∀ (v4 : Int32) (v5 : Int32) (v6 : Int32) (s0_11 : Int32) (s0_12 : Bool) (s0_13 : Int32) (s0_14 : Int32) (s0_15 : Bool) (s0_17 : (Nat → Int32)) (s0_21 : Int32) , K v4 v5 v6 s0_11 s0_12 s0_13 s0_14 s0_15 s0_17 s0_21 = some out → ∀ (H : Heap) (locs : List Loc) (ls : Array Slot), KW G A s (wX10 G q s0_0 s0_1 s0_2 s0_3 s0_4 s0_5 s0_6 s0_7 s0_8 s0_9 s0_10 s0_11 s0_12 s0_13 s0_14 s0_15 s0_16 s0_17 s0_18 s0_19 s0_20 s0_21 s0_22 s0_23 s0_24 s0_25 s0_26 s0_27 s0_28 s0_29) H locs → lv_has ls 9 [(0, .ref (q 0)), (3, .int v3), (4, .int v4), (5, .int v5)] → W p l e (zR 2 53) s m args below meth c H locs 0 0 (QI G A out.1 (wX10 G q s0_0 s0_1 s0_2 s0_3 s0_4 s0_5 s0_6 s0_7 s0_8 s0_9 s0_10 out.2.1 out.2.2.1 out.2.2.2.1 out.2.2.2.2.1 out.2.2.2.2.2.1 s0_16 out.2.2.2.2.2.2.1 s0_18 s0_19 s0_20 out.2.2.2.2.2.2.2 s0_22 s0_23 s0_24 s0_25 s0_26 s0_27 s0_28 s0_29) below args s) (F0 m 160 ls [])) :
    ∀ (n : Nat) (v4 : Int32) (v5 : Int32) (v6 : Int32) (s0_11 : Int32) (s0_12 : Bool) (s0_13 : Int32) (s0_14 : Int32) (s0_15 : Bool) (s0_17 : (Nat → Int32)) (s0_21 : Int32) , lp_X10_days_55 v1 s0_5 s0_9 s0_10 K n v4 v5 v6 s0_11 s0_12 s0_13 s0_14 s0_15 s0_17 s0_21 = some out → ∀ (H : Heap) (locs : List Loc) (ls : Array Slot), KW G A s (wX10 G q s0_0 s0_1 s0_2 s0_3 s0_4 s0_5 s0_6 s0_7 s0_8 s0_9 s0_10 s0_11 s0_12 s0_13 s0_14 s0_15 s0_16 s0_17 s0_18 s0_19 s0_20 s0_21 s0_22 s0_23 s0_24 s0_25 s0_26 s0_27 s0_28 s0_29) H locs → lv_has ls 9 [(0, .ref (q 0)), (1, .int v1), (3, .int v3), (4, .int v4), (5, .int v5), (6, .int v6)] → W p l e (zR 2 53) s m args below meth c H locs 0 0 (QI G A out.1 (wX10 G q s0_0 s0_1 s0_2 s0_3 s0_4 s0_5 s0_6 s0_7 s0_8 s0_9 s0_10 out.2.1 out.2.2.1 out.2.2.2.1 out.2.2.2.2.1 out.2.2.2.2.2.1 s0_16 out.2.2.2.2.2.2.1 s0_18 s0_19 s0_20 out.2.2.2.2.2.2.2 s0_22 s0_23 s0_24 s0_25 s0_26 s0_27 s0_28 s0_29) below args s) (F0 m 55 ls []) := by
  have hx := C.1
  have hb := C.2.1
  intro n
  induction n with
  | zero => intro v4 v5 v6 s0_11 s0_12 s0_13 s0_14 s0_15 s0_17 s0_21 hf; exact nomatch (show (none : Option (Int32 × Int32 × Bool × Int32 × Int32 × Bool × (Nat → Int32) × Int32)) = some out from hf)
  | succ n ih =>
    intro v4 v5 v6 s0_11 s0_12 s0_13 s0_14 s0_15 s0_17 s0_21 hf H locs ls hW hl
    rw [lp_X10_days_55] at hf
    refine lv_iload hx hb dX10_days_55 (lv_at hl 5 rfl) ?_
    refine lv_iload_n hx hb dX10_days_57 rfl (lv_at hl 1 rfl) ?_
    refine lv_icmp_ge (tgt := 160) hx hb dX10_days_58 (by decide) (fun c7 => ?_) (fun c7 => ?_)
    · have hf := ipos c7 hf
      exact hK v4 v5 v6 s0_11 s0_12 s0_13 s0_14 s0_15 s0_17 s0_21 hf _ _ _ hW (lv_sub hl [0, 2, 3, 4] rfl)
    · have hf := ineg c7 hf
      refine lv_aload_n hx hb dX10_days_61 rfl (lv_at hl 0 rfl) ?_
      refine lv_bipush (v := 9) hx hb dX10_days_62 (by decide) ?_
      obtain ⟨u8, eu8, hf⟩ := bnd hf
      refine zk_callBI (As := [.int 9]) (rest := []) (W1 := wX10 G q s0_0 s0_1 s0_2 s0_3 s0_4 s0_5 s0_6 s0_7 s0_8 s0_9 s0_10 s0_11 s0_12 s0_13 s0_14 s0_15 s0_16 s0_17 s0_18 s0_19 s0_20 u8.2 s0_22 s0_23 s0_24 s0_25 s0_26 s0_27 s0_28 s0_29) C hW hl mvX10_196 (c_X10_draw l G q s0_0 s0_1 s0_2 s0_3 s0_4 s0_5 s0_6 s0_7 s0_8 s0_9 s0_10 s0_11 s0_12 s0_13 s0_14 s0_15 s0_16 s0_17 s0_18 s0_19 s0_20 s0_21 s0_22 s0_23 s0_24 s0_25 s0_26 s0_27 s0_28 s0_29 9 u8 eu8) ⟨(Nat.le_of_ble_eq_true rfl), (Nat.le_of_ble_eq_true rfl)⟩ ⟨rfl, rfl⟩ ([]) ([]) zE1 rfl rfl (Nat.le_of_ble_eq_true rfl) zE1r dX10_days_64 ⟨Nat.zero_le _, Nat.zero_le _⟩ (fun H locs hW => ?_)
      refine lv_iconst (v := 1) hx hb dX10_days_67 (by decide) ?_
      refine lv_iadd hx hb dX10_days_68 ?_
      refine lv_istore (lv' := [(7, .int (u8.1 + 1)), (0, .ref (q 0)), (1, .int v1), (3, .int v3), (4, .int v4), (5, .int v5), (6, .int v6)]) hx hb dX10_days_69 hl (by decide) rfl (fun ls hl => ?_)
      refine lv_iconst (v := 0) hx hb dX10_days_71 (by decide) ?_
      refine lv_istore (lv' := [(8, .int 0), (7, .int (u8.1 + 1)), (0, .ref (q 0)), (1, .int v1), (3, .int v3), (4, .int v4), (5, .int v5), (6, .int v6)]) hx hb dX10_days_72 hl (by decide) rfl (fun ls hl => ?_)
      refine w_X10_days_74 l G q v1 v3 v4 v5 v6 (u8.1 + 1) s0_0 s0_1 s0_2 s0_3 s0_4 s0_5 s0_6 s0_7 s0_8 s0_9 s0_10 s0_11 s0_12 s0_13 s0_14 s0_15 s0_16 s0_18 s0_19 s0_20 s0_22 s0_23 s0_24 s0_25 s0_26 s0_27 s0_28 s0_29 out C (fun w13_v8 w13_s0_17 w13_s0_21 hf H locs ls hW hl => ?_) FU 0 s0_17 u8.2 hf _ _ _ hW (lv_sub hl [2, 3, 4, 5, 6, 7, 1, 0] rfl)
      refine lv_aload_n hx hb dX10_days_100 rfl (lv_at hl 0 rfl) ?_
      refine lv_aload_n hx hb dX10_days_101 rfl (lv_at hl 0 rfl) ?_
      refine zk_get C hW fgX10_19 0 rfl rfl dX10_days_102 ?_
      refine lv_iload hx hb dX10_days_105 (lv_at hl 6 rfl) ?_
      refine lv_aload_n hx hb dX10_days_107 rfl (lv_at hl 0 rfl) ?_
      refine zk_get C hW fgX10_16 0 rfl rfl dX10_days_108 ?_
      refine lv_aload_n hx hb dX10_days_111 rfl (lv_at hl 0 rfl) ?_
      refine lv_aload_n hx hb dX10_days_112 rfl (lv_at hl 0 rfl) ?_
      refine zk_get C hW fgX10_78 0 rfl rfl dX10_days_113 ?_
      obtain ⟨u14, eu14, hf⟩ := bnd hf
      refine zk_callBI (As := [.int s0_9]) (rest := [.ref (q 3), .int (u8.1 + 1), .ref (q 4), .ref (q 0)]) (W1 := wX10 G q s0_0 s0_1 s0_2 s0_3 s0_4 s0_5 s0_6 s0_7 s0_8 s0_9 s0_10 s0_11 s0_12 s0_13 s0_14 s0_15 s0_16 w13_s0_17 s0_18 s0_19 s0_20 u14.2 s0_22 s0_23 s0_24 s0_25 s0_26 s0_27 s0_28 s0_29) C hW hl mvX10_196 (c_X10_draw l G q s0_0 s0_1 s0_2 s0_3 s0_4 s0_5 s0_6 s0_7 s0_8 s0_9 s0_10 s0_11 s0_12 s0_13 s0_14 s0_15 s0_16 w13_s0_17 s0_18 s0_19 s0_20 w13_s0_21 s0_22 s0_23 s0_24 s0_25 s0_26 s0_27 s0_28 s0_29 s0_9 u14 eu14) ⟨(Nat.le_of_ble_eq_true rfl), (Nat.le_of_ble_eq_true rfl)⟩ ⟨rfl, rfl⟩ ([]) ([]) zE1 rfl rfl (Nat.le_of_ble_eq_true rfl) zE1r dX10_days_116 ⟨Nat.zero_le _, Nat.zero_le _⟩ (fun H locs hW => ?_)
      obtain ⟨g15, hf⟩ := grd hf
      refine zk_iald C hW 3 g15 rfl dX10_days_119 ?_
      refine lv_iconst (v := 0) hx hb dX10_days_120 (by decide) ?_
      refine lv_aload_n hx hb dX10_days_121 rfl (lv_at hl 0 rfl) ?_
      refine zk_get C hW fgX10_72 0 rfl rfl dX10_days_122 ?_
      obtain ⟨u16, eu16, hf⟩ := bnd hf
      refine zk_callV (As := [.ref (q 4), .int (u8.1 + 1), .int (s0_10 (Int32.toNatClampNeg u14.1)), .int (bI false), .int s0_5]) (rest := []) (W1 := wX10 G q s0_0 s0_1 s0_2 s0_3 s0_4 s0_5 s0_6 s0_7 s0_8 s0_9 s0_10 u16.1 u16.2.1 u16.2.2.1 u16.2.2.2.1 u16.2.2.2.2 s0_16 w13_s0_17 s0_18 s0_19 s0_20 u14.2 s0_22 s0_23 s0_24 s0_25 s0_26 s0_27 s0_28 s0_29) C hW hl mvX10_133 (c_X10_read l G q (q 4) s0_1 s0_2 s0_3 s0_4 s0_5 s0_6 s0_7 s0_9 s0_11 s0_12 s0_13 s0_14 s0_15 s0_16 s0_18 u14.2 s0_22 s0_23 s0_24 s0_25 s0_26 s0_29 10 w13_s0_17 (u8.1 + 1) (s0_10 (Int32.toNatClampNeg u14.1)) false s0_5 u16 eu16) ⟨(Nat.le_of_ble_eq_true rfl), (Nat.le_of_ble_eq_true rfl)⟩ ⟨rfl, rfl⟩ [0, 4] rfl rfl rfl rfl (Nat.le_of_ble_eq_true rfl) (Nat.le_of_ble_eq_true rfl) rfl dX10_days_125 ⟨Nat.zero_le _, Nat.zero_le _⟩ (fun H locs hW => ?_)
      refine lv_iload hx hb dX10_days_128 (lv_at hl 3 rfl) ?_
      refine lv_aload_n hx hb dX10_days_130 rfl (lv_at hl 0 rfl) ?_
      refine zk_get C hW fgX10_100 0 rfl rfl dX10_days_131 ?_
      refine lv_if_eq (tgt := 141) hx hb dX10_days_134 (by decide) (fun c17 => ?_) (fun c17 => ?_)
      · have hf := ipos c17 hf
        refine lv_iconst (v := 0) hx hb dX10_days_141 (by decide) ?_
        refine lv_iadd hx hb dX10_days_142 ?_
        refine lv_istore (lv' := [(4, .int (v4 + 0)), (0, .ref (q 0)), (1, .int v1), (3, .int v3), (5, .int v5), (6, .int v6), (7, .int (u8.1 + 1))]) hx hb dX10_days_143 hl (by decide) rfl (fun ls hl => ?_)
        refine lv_iload hx hb dX10_days_145 (lv_at hl 4 rfl) ?_
        refine lv_aload_n hx hb dX10_days_147 rfl (lv_at hl 1 rfl) ?_
        refine zk_get C hW fgX10_87 0 rfl rfl dX10_days_148 ?_
        refine lv_iadd hx hb dX10_days_151 ?_
        refine lv_istore (lv' := [(5, .int (v5 + u16.1)), (4, .int (v4 + 0)), (0, .ref (q 0)), (1, .int v1), (3, .int v3), (6, .int v6), (7, .int (u8.1 + 1))]) hx hb dX10_days_152 hl (by decide) rfl (fun ls hl => ?_)
        refine lv_iinc (v := (v6 + 1)) (lv' := [(6, .int (v6 + 1)), (5, .int (v5 + u16.1)), (4, .int (v4 + 0)), (0, .ref (q 0)), (1, .int v1), (3, .int v3), (7, .int (u8.1 + 1))]) hx hb dX10_days_154 hl (k := 5) rfl rfl (by decide) rfl (fun ls hl => ?_)
        refine lv_goto (tgt := 55) hx hb dX10_days_157 (by decide) ?_
        exact ih (v4 + 0) (v5 + u16.1) (v6 + 1) u16.1 u16.2.1 u16.2.2.1 u16.2.2.2.1 u16.2.2.2.2 w13_s0_17 u14.2 hf _ _ _ hW (lv_sub hl [3, 4, 5, 2, 1, 0] rfl)
      · have hf := ineg c17 hf
        refine lv_iconst (v := 1) hx hb dX10_days_137 (by decide) ?_
        refine lv_goto (tgt := 142) hx hb dX10_days_138 (by decide) ?_
        refine lv_iadd hx hb dX10_days_142 ?_
        refine lv_istore (lv' := [(4, .int (v4 + 1)), (0, .ref (q 0)), (1, .int v1), (3, .int v3), (5, .int v5), (6, .int v6), (7, .int (u8.1 + 1))]) hx hb dX10_days_143 hl (by decide) rfl (fun ls hl => ?_)
        refine lv_iload hx hb dX10_days_145 (lv_at hl 4 rfl) ?_
        refine lv_aload_n hx hb dX10_days_147 rfl (lv_at hl 1 rfl) ?_
        refine zk_get C hW fgX10_87 0 rfl rfl dX10_days_148 ?_
        refine lv_iadd hx hb dX10_days_151 ?_
        refine lv_istore (lv' := [(5, .int (v5 + u16.1)), (4, .int (v4 + 1)), (0, .ref (q 0)), (1, .int v1), (3, .int v3), (6, .int v6), (7, .int (u8.1 + 1))]) hx hb dX10_days_152 hl (by decide) rfl (fun ls hl => ?_)
        refine lv_iinc (v := (v6 + 1)) (lv' := [(6, .int (v6 + 1)), (5, .int (v5 + u16.1)), (4, .int (v4 + 1)), (0, .ref (q 0)), (1, .int v1), (3, .int v3), (7, .int (u8.1 + 1))]) hx hb dX10_days_154 hl (k := 5) rfl rfl (by decide) rfl (fun ls hl => ?_)
        refine lv_goto (tgt := 55) hx hb dX10_days_157 (by decide) ?_
        exact ih (v4 + 1) (v5 + u16.1) (v6 + 1) u16.1 u16.2.1 u16.2.2.1 u16.2.2.2.1 u16.2.2.2.2 w13_s0_17 u14.2 hf _ _ _ hW (lv_sub hl [3, 4, 5, 2, 1, 0] rfl)
set_option maxHeartbeats 4000000 in
set_option maxRecDepth 100000 in
theorem c_X10_days (l : Launch) (G : GG) (q : Nat → Nat) (m0 : (Nat → Int32)) (m1 : Int32) (m2 : Int32) (m3 : Int32) (m4 : Int32) (m5 : Int32) (m6 : Int32) (m7 : Int32) (m8 : (Nat → Int32)) (m9 : Int32) (m10 : (Nat → Int32)) (m11 : Int32) (m12 : Bool) (m13 : Int32) (m14 : Int32) (m15 : Bool) (m16 : Int32) (m17 : (Nat → Int32)) (m18 : Int32) (m19 : (Nat → Int32)) (m20 : (Nat → Int32)) (m21 : Int32) (m22 : Int32) (m23 : Int32) (m24 : Int32) (m25 : Int32) (m26 : Int32) (m27 : (Nat → Int32)) (m28 : (Nat → Int32)) (m29 : Int64) (a0 : Int32) (a1 : Int32) (a2 : Int32) (out : Int32 × Int32 × Bool × Int32 × Int32 × Bool × (Nat → Int32) × Int32) (hf : f_X10_days m5 m9 m10 m11 m12 m13 m14 m15 m17 m21 a0 a1 a2 = some out) : CtI G l yX10_days (Cond.code yX10_days cX10_days 9 (some .int) :: WL) (zR 2 53) [.ref (q 0), .int a0, .int a1, .int a2] (wX10 G q m0 m1 m2 m3 m4 m5 m6 m7 m8 m9 m10 m11 m12 m13 m14 m15 m16 m17 m18 m19 m20 m21 m22 m23 m24 m25 m26 m27 m28 m29) out.1 (wX10 G q m0 m1 m2 m3 m4 m5 m6 m7 m8 m9 m10 out.2.1 out.2.2.1 out.2.2.2.1 out.2.2.2.2.1 out.2.2.2.2.2.1 m16 out.2.2.2.2.2.2.1 m18 m19 m20 out.2.2.2.2.2.2.2 m22 m23 m24 m25 m26 m27 m28 m29) := by
  refine CtI.mk (cc := cX10_days) (nL := 9) (rt := (some .int)) (own := RX10) (nm := "days") (by decide) rfl rfl (Nat.le_of_ble_eq_true rfl) ?_
  intro p e s m below meth c A ls C hW hl
  have hx := C.1
  have hb := C.2.1
  have hl : lv_has ls 9 [(0, .ref (q 0)), (1, .int a0), (2, .int a1), (3, .int a2)] := hl
  unfold f_X10_days at hf
  refine lv_iload_n hx hb dX10_days_0 rfl (lv_at hl 1 rfl) ?_
  refine lv_i2l (v := (Int32.toInt64 a0)) hx hb dX10_days_1 rfl ?_
  refine lv_lconst (v := 1) hx hb dX10_days_2 (by decide) ?_
  refine lv_ldc2 hx hb C.2.2.2.1 (C.2.2.2.2.1 _ klX10_192) dX10_days_3 ?_
  obtain ⟨u1, eu1, hf⟩ := bnd hf
  refine zk_callSI (As := [.long (Int32.toInt64 a0), .long 1, .long 40]) (rest := []) (W1 := wX10 G q m0 m1 m2 m3 m4 m5 m6 m7 m8 m9 m10 m11 m12 m13 m14 m15 m16 m17 m18 m19 m20 m21 m22 m23 m24 m25 m26 m27 m28 m29) C hW hl msX10_40 (c_X10_in l G (Int32.toInt64 a0) 1 40 u1 eu1) ⟨(Nat.le_of_ble_eq_true rfl), (Nat.le_of_ble_eq_true rfl)⟩ ⟨rfl, rfl⟩ [] rfl rfl rfl (Nat.le_of_ble_eq_true rfl) (Nat.le_of_ble_eq_true rfl) rfl dX10_days_6 ⟨Nat.zero_le _, Nat.zero_le _⟩ (fun H locs hW => ?_)
  refine lv_if_eq (tgt := 28) hx hb dX10_days_9 (by decide) (fun c2 => ?_) (fun c2 => ?_)
  · have hf := ipos c2 hf
    refine lv_bipush (v := (-102)) hx hb dX10_days_28 (by decide) ?_
    obtain rfl := Option.some.inj hf
    exact zk_iret C hW rfl dX10_days_30
  · have hf := ineg c2 hf
    refine lv_iload_n hx hb dX10_days_12 rfl (lv_at hl 2 rfl) ?_
    refine lv_if_lt (tgt := 28) hx hb dX10_days_13 (by decide) (fun c3 => ?_) (fun c3 => ?_)
    · have hf := ipos c3 hf
      refine lv_bipush (v := (-102)) hx hb dX10_days_28 (by decide) ?_
      obtain rfl := Option.some.inj hf
      exact zk_iret C hW rfl dX10_days_30
    · have hf := ineg c3 hf
      refine lv_iload_n hx hb dX10_days_16 rfl (lv_at hl 3 rfl) ?_
      refine lv_i2l (v := (Int32.toInt64 a2)) hx hb dX10_days_17 rfl ?_
      refine lv_lconst (v := 0) hx hb dX10_days_18 (by decide) ?_
      refine lv_ldc2 hx hb C.2.2.2.1 (C.2.2.2.2.1 _ klX10_194) dX10_days_19 ?_
      obtain ⟨u4, eu4, hf⟩ := bnd hf
      refine zk_callSI (As := [.long (Int32.toInt64 a2), .long 0, .long 2]) (rest := []) (W1 := wX10 G q m0 m1 m2 m3 m4 m5 m6 m7 m8 m9 m10 m11 m12 m13 m14 m15 m16 m17 m18 m19 m20 m21 m22 m23 m24 m25 m26 m27 m28 m29) C hW hl msX10_40 (c_X10_in l G (Int32.toInt64 a2) 0 2 u4 eu4) ⟨(Nat.le_of_ble_eq_true rfl), (Nat.le_of_ble_eq_true rfl)⟩ ⟨rfl, rfl⟩ [] rfl rfl rfl (Nat.le_of_ble_eq_true rfl) (Nat.le_of_ble_eq_true rfl) rfl dX10_days_22 ⟨Nat.zero_le _, Nat.zero_le _⟩ (fun H locs hW => ?_)
      refine lv_if_ne (tgt := 31) hx hb dX10_days_25 (by decide) (fun c5 => ?_) (fun c5 => ?_)
      · have hf := ineg c5 hf
        refine lv_aload_n hx hb dX10_days_31 rfl (lv_at hl 0 rfl) ?_
        refine zk_get C hW fgX10_78 0 rfl rfl dX10_days_32 ?_
        refine lv_if_ne (tgt := 41) hx hb dX10_days_35 (by decide) (fun c6 => ?_) (fun c6 => ?_)
        · have hf := ineg c6 hf
          refine lv_aload_n hx hb dX10_days_41 rfl (lv_at hl 0 rfl) ?_
          refine lv_iload_n hx hb dX10_days_42 rfl (lv_at hl 2 rfl) ?_
          refine zk_putI (W1 := wX10 G q m0 m1 m2 m3 m4 m5 m6 m7 m8 m9 m10 m11 m12 m13 m14 m15 m16 m17 m18 m19 m20 a1 m22 m23 m24 m25 m26 m27 m28 m29) C hW fpX10_184 0 rfl rfl (Nat.le_of_ble_eq_true rfl) rfl dX10_days_43 (fun H locs hW => ?_)
          refine lv_iconst (v := 0) hx hb dX10_days_46 (by decide) ?_
          refine lv_istore (lv' := [(4, .int 0), (0, .ref (q 0)), (1, .int a0), (2, .int a1), (3, .int a2)]) hx hb dX10_days_47 hl (by decide) rfl (fun ls hl => ?_)
          refine lv_iconst (v := 0) hx hb dX10_days_49 (by decide) ?_
          refine lv_istore (lv' := [(5, .int 0), (4, .int 0), (0, .ref (q 0)), (1, .int a0), (2, .int a1), (3, .int a2)]) hx hb dX10_days_50 hl (by decide) rfl (fun ls hl => ?_)
          refine lv_iconst (v := 0) hx hb dX10_days_52 (by decide) ?_
          refine lv_istore (lv' := [(6, .int 0), (5, .int 0), (4, .int 0), (0, .ref (q 0)), (1, .int a0), (2, .int a1), (3, .int a2)]) hx hb dX10_days_53 hl (by decide) rfl (fun ls hl => ?_)
          refine w_X10_days_55 l G q a0 a2 m0 m1 m2 m3 m4 m5 m6 m7 m8 m9 m10 m16 m18 m19 m20 m22 m23 m24 m25 m26 m27 m28 m29 out C (fun w18_v4 w18_v5 w18_v6 w18_s0_11 w18_s0_12 w18_s0_13 w18_s0_14 w18_s0_15 w18_s0_17 w18_s0_21 hf H locs ls hW hl => ?_) FU 0 0 0 m11 m12 m13 m14 m15 m17 a1 hf _ _ _ hW (lv_sub hl [3, 4, 6, 2, 1, 0] rfl)
          refine lv_iload_n hx hb dX10_days_160 rfl (lv_at hl 1 rfl) ?_
          refine lv_if_ne (tgt := 169) hx hb dX10_days_161 (by decide) (fun c19 => ?_) (fun c19 => ?_)
          · have hf := ineg c19 hf
            refine lv_iload_n hx hb dX10_days_169 rfl (lv_at hl 1 rfl) ?_
            refine lv_iconst (v := 1) hx hb dX10_days_170 (by decide) ?_
            refine lv_icmp_ne (tgt := 183) hx hb dX10_days_171 (by decide) (fun c20 => ?_) (fun c20 => ?_)
            · have hf := ineg c20 hf
              refine lv_aload_n hx hb dX10_days_183 rfl (lv_at hl 0 rfl) ?_
              refine zk_get C hW fgX10_184 0 rfl rfl dX10_days_184 ?_
              obtain rfl := Option.some.inj hf
              exact zk_iret C hW rfl dX10_days_187
            · have hf := ipos c20 hf
              refine lv_sipush (v := 1000) hx hb dX10_days_174 (by decide) ?_
              refine lv_iload hx hb dX10_days_177 (lv_at hl 3 rfl) ?_
              refine lv_iadd hx hb dX10_days_179 ?_
              refine lv_goto (tgt := 187) hx hb dX10_days_180 (by decide) ?_
              obtain rfl := Option.some.inj hf
              exact zk_iret C hW rfl dX10_days_187
          · have hf := ipos c19 hf
            refine lv_iload hx hb dX10_days_164 (lv_at hl 2 rfl) ?_
            refine lv_goto (tgt := 187) hx hb dX10_days_166 (by decide) ?_
            obtain rfl := Option.some.inj hf
            exact zk_iret C hW rfl dX10_days_187
        · have hf := ipos c6 hf
          refine lv_bipush (v := (-103)) hx hb dX10_days_38 (by decide) ?_
          obtain rfl := Option.some.inj hf
          exact zk_iret C hW rfl dX10_days_40
      · have hf := ipos c5 hf
        refine lv_bipush (v := (-102)) hx hb dX10_days_28 (by decide) ?_
        obtain rfl := Option.some.inj hf
        exact zk_iret C hW rfl dX10_days_30

set_option maxHeartbeats 4000000 in
set_option maxRecDepth 100000 in
theorem c_X10_image (l : Launch) (G : GG) (q : Nat → Nat) (m0 : (Nat → Int32)) (m1 : Int32) (m2 : Int32) (m3 : Int32) (m4 : Int32) (m5 : Int32) (m6 : Int32) (m7 : Int32) (m8 : (Nat → Int32)) (m9 : Int32) (m10 : (Nat → Int32)) (m11 : Int32) (m12 : Bool) (m13 : Int32) (m14 : Int32) (m15 : Bool) (m16 : Int32) (m17 : (Nat → Int32)) (m18 : Int32) (m19 : (Nat → Int32)) (m20 : (Nat → Int32)) (m21 : Int32) (m22 : Int32) (m23 : Int32) (m24 : Int32) (m25 : Int32) (m26 : Int32) (m27 : (Nat → Int32)) (m28 : (Nat → Int32)) (m29 : Int64) (out : Int32 × Int32 × Int32 × Int32 × Int32 × Int32 × (Nat → Int32) × (Nat → Int32)) (hf : f_X10_image m4 m5 m6 m7 m8 m9 m18 m19 m22 m23 m24 m25 m26 m27 m28 = some out) : CtI G l yX10_image (Cond.code yX10_image cX10_image 1 (some .int) :: WL) (zR 1 22) [.ref (q 0)] (wX10 G q m0 m1 m2 m3 m4 m5 m6 m7 m8 m9 m10 m11 m12 m13 m14 m15 m16 m17 m18 m19 m20 m21 m22 m23 m24 m25 m26 m27 m28 m29) out.1 (wX10 G q m0 m1 m2 m3 m4 m5 m6 m7 m8 m9 m10 m11 m12 m13 m14 m15 m16 m17 m18 m19 m20 m21 out.2.1 out.2.2.1 out.2.2.2.1 out.2.2.2.2.1 out.2.2.2.2.2.1 out.2.2.2.2.2.2.1 out.2.2.2.2.2.2.2 m29) := by
  refine CtI.mk (cc := cX10_image) (nL := 1) (rt := (some .int)) (own := RX10) (nm := "image") (by decide) rfl rfl (Nat.le_of_ble_eq_true rfl) ?_
  intro p e s m below meth c A ls C hW hl
  have hx := C.1
  have hb := C.2.1
  have hl : lv_has ls 1 [(0, .ref (q 0))] := hl
  unfold f_X10_image at hf
  refine lv_aload_n hx hb dX10_image_0 rfl (lv_at hl 0 rfl) ?_
  refine zk_get C hW fgX10_69 0 rfl rfl dX10_image_1 ?_
  refine lv_if_ne (tgt := 10) hx hb dX10_image_4 (by decide) (fun c1 => ?_) (fun c1 => ?_)
  · have hf := ineg c1 hf
    refine lv_aload_n hx hb dX10_image_10 rfl (lv_at hl 0 rfl) ?_
    refine zk_get C hW fgX10_13 0 rfl rfl dX10_image_11 ?_
    refine lv_aload_n hx hb dX10_image_14 rfl (lv_at hl 0 rfl) ?_
    refine zk_get C hW fgX10_28 0 rfl rfl dX10_image_15 ?_
    obtain ⟨u2, eu2, hf⟩ := bnd hf
    refine zk_callSV (As := [.ref (q 2), .ref (q 7)]) (rest := []) (W1 := wX10 G q m0 m1 m2 m3 m4 m5 m6 m7 m8 m9 m10 m11 m12 m13 m14 m15 m16 m17 m18 m19 m20 m21 m22 m23 m24 m25 m26 u2 m28 m29) C hW hl msX10_199 (c_X10_copy l G (q 2) (q 7) 9 m8 9 m27 u2 eu2) ⟨(Nat.le_of_ble_eq_true rfl), (Nat.le_of_ble_eq_true rfl)⟩ ⟨rfl, rfl⟩ [2, 7] rfl rfl rfl (Nat.le_of_ble_eq_true rfl) (Nat.le_of_ble_eq_true rfl) rfl dX10_image_18 ⟨Nat.zero_le _, Nat.zero_le _⟩ (fun H locs hW => ?_)
    refine lv_aload_n hx hb dX10_image_21 rfl (lv_at hl 0 rfl) ?_
    refine zk_get C hW fgX10_22 0 rfl rfl dX10_image_22 ?_
    refine lv_aload_n hx hb dX10_image_25 rfl (lv_at hl 0 rfl) ?_
    refine zk_get C hW fgX10_31 0 rfl rfl dX10_image_26 ?_
    obtain ⟨u3, eu3, hf⟩ := bnd hf
    refine zk_callSV (As := [.ref (q 5), .ref (q 8)]) (rest := []) (W1 := wX10 G q m0 m1 m2 m3 m4 m5 m6 m7 m8 m9 m10 m11 m12 m13 m14 m15 m16 m17 m18 m19 m20 m21 m22 m23 m24 m25 m26 u2 u3 m29) C hW hl msX10_199 (c_X10_copy l G (q 5) (q 8) 6 m19 6 m28 u3 eu3) ⟨(Nat.le_of_ble_eq_true rfl), (Nat.le_of_ble_eq_true rfl)⟩ ⟨rfl, rfl⟩ [5, 8] rfl rfl rfl (Nat.le_of_ble_eq_true rfl) (Nat.le_of_ble_eq_true rfl) rfl dX10_image_29 ⟨Nat.zero_le _, Nat.zero_le _⟩ (fun H locs hW => ?_)
    refine lv_aload_n hx hb dX10_image_32 rfl (lv_at hl 0 rfl) ?_
    refine lv_aload_n hx hb dX10_image_33 rfl (lv_at hl 0 rfl) ?_
    refine zk_get C hW fgX10_72 0 rfl rfl dX10_image_34 ?_
    refine zk_putI (W1 := wX10 G q m0 m1 m2 m3 m4 m5 m6 m7 m8 m9 m10 m11 m12 m13 m14 m15 m16 m17 m18 m19 m20 m21 m22 m5 m24 m25 m26 u2 u3 m29) C hW fpX10_203 0 rfl rfl (Nat.le_of_ble_eq_true rfl) rfl dX10_image_37 (fun H locs hW => ?_)
    refine lv_aload_n hx hb dX10_image_40 rfl (lv_at hl 0 rfl) ?_
    refine lv_aload_n hx hb dX10_image_41 rfl (lv_at hl 0 rfl) ?_
    refine zk_get C hW fgX10_75 0 rfl rfl dX10_image_42 ?_
    refine zk_putI (W1 := wX10 G q m0 m1 m2 m3 m4 m5 m6 m7 m8 m9 m10 m11 m12 m13 m14 m15 m16 m17 m18 m19 m20 m21 m22 m5 m6 m25 m26 u2 u3 m29) C hW fpX10_206 0 rfl rfl (Nat.le_of_ble_eq_true rfl) rfl dX10_image_45 (fun H locs hW => ?_)
    refine lv_aload_n hx hb dX10_image_48 rfl (lv_at hl 0 rfl) ?_
    refine lv_aload_n hx hb dX10_image_49 rfl (lv_at hl 0 rfl) ?_
    refine zk_get C hW fgX10_78 0 rfl rfl dX10_image_50 ?_
    refine zk_putI (W1 := wX10 G q m0 m1 m2 m3 m4 m5 m6 m7 m8 m9 m10 m11 m12 m13 m14 m15 m16 m17 m18 m19 m20 m21 m22 m5 m6 m9 m26 u2 u3 m29) C hW fpX10_209 0 rfl rfl (Nat.le_of_ble_eq_true rfl) rfl dX10_image_53 (fun H locs hW => ?_)
    refine lv_aload_n hx hb dX10_image_56 rfl (lv_at hl 0 rfl) ?_
    refine lv_aload_n hx hb dX10_image_57 rfl (lv_at hl 0 rfl) ?_
    refine zk_get C hW fgX10_81 0 rfl rfl dX10_image_58 ?_
    refine zk_putI (W1 := wX10 G q m0 m1 m2 m3 m4 m5 m6 m7 m8 m9 m10 m11 m12 m13 m14 m15 m16 m17 m18 m19 m20 m21 m22 m5 m6 m9 m18 u2 u3 m29) C hW fpX10_212 0 rfl rfl (Nat.le_of_ble_eq_true rfl) rfl dX10_image_61 (fun H locs hW => ?_)
    refine lv_aload_n hx hb dX10_image_64 rfl (lv_at hl 0 rfl) ?_
    refine lv_aload_n hx hb dX10_image_65 rfl (lv_at hl 0 rfl) ?_
    refine zk_get C hW fgX10_84 0 rfl rfl dX10_image_66 ?_
    refine zk_putI (W1 := wX10 G q m0 m1 m2 m3 m4 m5 m6 m7 m8 m9 m10 m11 m12 m13 m14 m15 m16 m17 m18 m19 m20 m21 m7 m5 m6 m9 m18 u2 u3 m29) C hW fpX10_34 0 rfl rfl (Nat.le_of_ble_eq_true rfl) rfl dX10_image_69 (fun H locs hW => ?_)
    refine lv_aload_n hx hb dX10_image_72 rfl (lv_at hl 0 rfl) ?_
    refine zk_get C hW fgX10_69 0 rfl rfl dX10_image_73 ?_
    obtain rfl := Option.some.inj hf
    exact zk_iret C hW rfl dX10_image_76
  · have hf := ipos c1 hf
    refine lv_bipush (v := (-103)) hx hb dX10_image_7 (by decide) ?_
    obtain rfl := Option.some.inj hf
    exact zk_iret C hW rfl dX10_image_9

set_option maxHeartbeats 4000000 in
set_option maxRecDepth 100000 in
theorem c_X10_restore (l : Launch) (G : GG) (q : Nat → Nat) (m0 : (Nat → Int32)) (m1 : Int32) (m2 : Int32) (m3 : Int32) (m4 : Int32) (m5 : Int32) (m6 : Int32) (m7 : Int32) (m8 : (Nat → Int32)) (m9 : Int32) (m10 : (Nat → Int32)) (m11 : Int32) (m12 : Bool) (m13 : Int32) (m14 : Int32) (m15 : Bool) (m16 : Int32) (m17 : (Nat → Int32)) (m18 : Int32) (m19 : (Nat → Int32)) (m20 : (Nat → Int32)) (m21 : Int32) (m22 : Int32) (m23 : Int32) (m24 : Int32) (m25 : Int32) (m26 : Int32) (m27 : (Nat → Int32)) (m28 : (Nat → Int32)) (m29 : Int64) (out : Int32 × Int32 × Int32 × (Nat → Int32) × Int32 × Int32 × (Nat → Int32)) (hf : f_X10_restore m4 m5 m6 m7 m8 m9 m18 m19 m22 m23 m24 m25 m26 m27 m28 = some out) : CtI G l yX10_restore (Cond.code yX10_restore cX10_restore 1 (some .int) :: WL) (zR 1 22) [.ref (q 0)] (wX10 G q m0 m1 m2 m3 m4 m5 m6 m7 m8 m9 m10 m11 m12 m13 m14 m15 m16 m17 m18 m19 m20 m21 m22 m23 m24 m25 m26 m27 m28 m29) out.1 (wX10 G q m0 m1 m2 m3 m4 out.2.1 out.2.2.1 m7 out.2.2.2.1 out.2.2.2.2.1 m10 m11 m12 m13 m14 m15 m16 m17 out.2.2.2.2.2.1 out.2.2.2.2.2.2 m20 m21 m22 m23 m24 m25 m26 m27 m28 m29) := by
  refine CtI.mk (cc := cX10_restore) (nL := 1) (rt := (some .int)) (own := RX10) (nm := "restore") (by decide) rfl rfl (Nat.le_of_ble_eq_true rfl) ?_
  intro p e s m below meth c A ls C hW hl
  have hx := C.1
  have hb := C.2.1
  have hl : lv_has ls 1 [(0, .ref (q 0))] := hl
  unfold f_X10_restore at hf
  refine lv_aload_n hx hb dX10_restore_0 rfl (lv_at hl 0 rfl) ?_
  refine zk_get C hW fgX10_34 0 rfl rfl dX10_restore_1 ?_
  refine lv_aload_n hx hb dX10_restore_4 rfl (lv_at hl 0 rfl) ?_
  refine zk_get C hW fgX10_84 0 rfl rfl dX10_restore_5 ?_
  refine lv_icmp_eq (tgt := 14) hx hb dX10_restore_8 (by decide) (fun c1 => ?_) (fun c1 => ?_)
  · have hf := ipos c1 hf
    refine lv_aload_n hx hb dX10_restore_14 rfl (lv_at hl 0 rfl) ?_
    refine zk_get C hW fgX10_28 0 rfl rfl dX10_restore_15 ?_
    refine lv_aload_n hx hb dX10_restore_18 rfl (lv_at hl 0 rfl) ?_
    refine zk_get C hW fgX10_13 0 rfl rfl dX10_restore_19 ?_
    obtain ⟨u2, eu2, hf⟩ := bnd hf
    refine zk_callSV (As := [.ref (q 7), .ref (q 2)]) (rest := []) (W1 := wX10 G q m0 m1 m2 m3 m4 m5 m6 m7 u2 m9 m10 m11 m12 m13 m14 m15 m16 m17 m18 m19 m20 m21 m22 m23 m24 m25 m26 m27 m28 m29) C hW hl msX10_199 (c_X10_copy l G (q 7) (q 2) 9 m27 9 m8 u2 eu2) ⟨(Nat.le_of_ble_eq_true rfl), (Nat.le_of_ble_eq_true rfl)⟩ ⟨rfl, rfl⟩ [7, 2] rfl rfl rfl (Nat.le_of_ble_eq_true rfl) (Nat.le_of_ble_eq_true rfl) rfl dX10_restore_22 ⟨Nat.zero_le _, Nat.zero_le _⟩ (fun H locs hW => ?_)
    refine lv_aload_n hx hb dX10_restore_25 rfl (lv_at hl 0 rfl) ?_
    refine zk_get C hW fgX10_31 0 rfl rfl dX10_restore_26 ?_
    refine lv_aload_n hx hb dX10_restore_29 rfl (lv_at hl 0 rfl) ?_
    refine zk_get C hW fgX10_22 0 rfl rfl dX10_restore_30 ?_
    obtain ⟨u3, eu3, hf⟩ := bnd hf
    refine zk_callSV (As := [.ref (q 8), .ref (q 5)]) (rest := []) (W1 := wX10 G q m0 m1 m2 m3 m4 m5 m6 m7 u2 m9 m10 m11 m12 m13 m14 m15 m16 m17 m18 u3 m20 m21 m22 m23 m24 m25 m26 m27 m28 m29) C hW hl msX10_199 (c_X10_copy l G (q 8) (q 5) 6 m28 6 m19 u3 eu3) ⟨(Nat.le_of_ble_eq_true rfl), (Nat.le_of_ble_eq_true rfl)⟩ ⟨rfl, rfl⟩ [8, 5] rfl rfl rfl (Nat.le_of_ble_eq_true rfl) (Nat.le_of_ble_eq_true rfl) rfl dX10_restore_33 ⟨Nat.zero_le _, Nat.zero_le _⟩ (fun H locs hW => ?_)
    refine lv_aload_n hx hb dX10_restore_36 rfl (lv_at hl 0 rfl) ?_
    refine lv_aload_n hx hb dX10_restore_37 rfl (lv_at hl 0 rfl) ?_
    refine zk_get C hW fgX10_203 0 rfl rfl dX10_restore_38 ?_
    refine zk_putI (W1 := wX10 G q m0 m1 m2 m3 m4 m23 m6 m7 u2 m9 m10 m11 m12 m13 m14 m15 m16 m17 m18 u3 m20 m21 m22 m23 m24 m25 m26 m27 m28 m29) C hW fpX10_72 0 rfl rfl (Nat.le_of_ble_eq_true rfl) rfl dX10_restore_41 (fun H locs hW => ?_)
    refine lv_aload_n hx hb dX10_restore_44 rfl (lv_at hl 0 rfl) ?_
    refine lv_aload_n hx hb dX10_restore_45 rfl (lv_at hl 0 rfl) ?_
    refine zk_get C hW fgX10_206 0 rfl rfl dX10_restore_46 ?_
    refine zk_putI (W1 := wX10 G q m0 m1 m2 m3 m4 m23 m24 m7 u2 m9 m10 m11 m12 m13 m14 m15 m16 m17 m18 u3 m20 m21 m22 m23 m24 m25 m26 m27 m28 m29) C hW fpX10_75 0 rfl rfl (Nat.le_of_ble_eq_true rfl) rfl dX10_restore_49 (fun H locs hW => ?_)
    refine lv_aload_n hx hb dX10_restore_52 rfl (lv_at hl 0 rfl) ?_
    refine lv_aload_n hx hb dX10_restore_53 rfl (lv_at hl 0 rfl) ?_
    refine zk_get C hW fgX10_209 0 rfl rfl dX10_restore_54 ?_
    refine zk_putI (W1 := wX10 G q m0 m1 m2 m3 m4 m23 m24 m7 u2 m25 m10 m11 m12 m13 m14 m15 m16 m17 m18 u3 m20 m21 m22 m23 m24 m25 m26 m27 m28 m29) C hW fpX10_78 0 rfl rfl (Nat.le_of_ble_eq_true rfl) rfl dX10_restore_57 (fun H locs hW => ?_)
    refine lv_aload_n hx hb dX10_restore_60 rfl (lv_at hl 0 rfl) ?_
    refine lv_aload_n hx hb dX10_restore_61 rfl (lv_at hl 0 rfl) ?_
    refine zk_get C hW fgX10_212 0 rfl rfl dX10_restore_62 ?_
    refine zk_putI (W1 := wX10 G q m0 m1 m2 m3 m4 m23 m24 m7 u2 m25 m10 m11 m12 m13 m14 m15 m16 m17 m26 u3 m20 m21 m22 m23 m24 m25 m26 m27 m28 m29) C hW fpX10_81 0 rfl rfl (Nat.le_of_ble_eq_true rfl) rfl dX10_restore_65 (fun H locs hW => ?_)
    refine lv_aload_n hx hb dX10_restore_68 rfl (lv_at hl 0 rfl) ?_
    refine zk_get C hW fgX10_69 0 rfl rfl dX10_restore_69 ?_
    obtain rfl := Option.some.inj hf
    exact zk_iret C hW rfl dX10_restore_72
  · have hf := ineg c1 hf
    refine lv_bipush (v := (-103)) hx hb dX10_restore_11 (by decide) ?_
    obtain rfl := Option.some.inj hf
    exact zk_iret C hW rfl dX10_restore_13

set_option maxHeartbeats 4000000 in
set_option maxRecDepth 100000 in
theorem w_X10_shutMany_4 {p : Program} {e : Env} {s : State} {m : MethodId} {args : Array Value} {below : List Frame} {meth : Method} {c : Code} {A : Nat → Prop} (l : Launch) (G : GG) (q : Nat → Nat) (s0_0 : (Nat → Int32)) (s0_1 : Int32) (s0_2 : Int32) (s0_3 : Int32) (s0_4 : Int32) (s0_5 : Int32) (s0_6 : Int32) (s0_7 : Int32) (s0_8 : (Nat → Int32)) (s0_9 : Int32) (s0_10 : (Nat → Int32)) (s0_16 : Int32) (s0_17 : (Nat → Int32)) (s0_18 : Int32) (s0_19 : (Nat → Int32)) (s0_20 : (Nat → Int32)) (s0_21 : Int32) (s0_22 : Int32) (s0_23 : Int32) (s0_24 : Int32) (s0_25 : Int32) (s0_26 : Int32) (s0_27 : (Nat → Int32)) (s0_28 : (Nat → Int32)) (s0_29 : Int64) (out : Int32 × Int32 × Bool × Int32 × Int32 × Bool) (C : CX p s m args meth c cX10_shutMany 3 RX10 (some .int) "shutMany") {K : Int32 → Int32 → Int32 → Bool → Int32 → Int32 → Bool → Option (Int32 × Int32 × Bool × Int32 × Int32 × Bool)} (hK : ∀ (v1 : Int32) (v2 : Int32) (s0_11 : Int32) (s0_12 : Bool) (s0_13 : Int32) (s0_14 : Int32) (s0_15 : Bool) , K v1 v2 s0_11 s0_12 s0_13 s0_14 s0_15 = some out → ∀ (H : Heap) (locs : List Loc) (ls : Array Slot), KW G A s (wX10 G q s0_0 s0_1 s0_2 s0_3 s0_4 s0_5 s0_6 s0_7 s0_8 s0_9 s0_10 s0_11 s0_12 s0_13 s0_14 s0_15 s0_16 s0_17 s0_18 s0_19 s0_20 s0_21 s0_22 s0_23 s0_24 s0_25 s0_26 s0_27 s0_28 s0_29) H locs → lv_has ls 3 [(1, .int v1)] → W p l e (zR 3 76) s m args below meth c H locs 0 0 (QI G A out.1 (wX10 G q s0_0 s0_1 s0_2 s0_3 s0_4 s0_5 s0_6 s0_7 s0_8 s0_9 s0_10 out.2.1 out.2.2.1 out.2.2.2.1 out.2.2.2.2.1 out.2.2.2.2.2 s0_16 s0_17 s0_18 s0_19 s0_20 s0_21 s0_22 s0_23 s0_24 s0_25 s0_26 s0_27 s0_28 s0_29) below args s) (F0 m 27 ls [])) :
    ∀ (n : Nat) (v1 : Int32) (v2 : Int32) (s0_11 : Int32) (s0_12 : Bool) (s0_13 : Int32) (s0_14 : Int32) (s0_15 : Bool) , lp_X10_shutMany_4 s0_4 s0_5 s0_8 s0_9 s0_10 K n v1 v2 s0_11 s0_12 s0_13 s0_14 s0_15 = some out → ∀ (H : Heap) (locs : List Loc) (ls : Array Slot), KW G A s (wX10 G q s0_0 s0_1 s0_2 s0_3 s0_4 s0_5 s0_6 s0_7 s0_8 s0_9 s0_10 s0_11 s0_12 s0_13 s0_14 s0_15 s0_16 s0_17 s0_18 s0_19 s0_20 s0_21 s0_22 s0_23 s0_24 s0_25 s0_26 s0_27 s0_28 s0_29) H locs → lv_has ls 3 [(0, .ref (q 0)), (1, .int v1), (2, .int v2)] → W p l e (zR 3 76) s m args below meth c H locs 0 0 (QI G A out.1 (wX10 G q s0_0 s0_1 s0_2 s0_3 s0_4 s0_5 s0_6 s0_7 s0_8 s0_9 s0_10 out.2.1 out.2.2.1 out.2.2.2.1 out.2.2.2.2.1 out.2.2.2.2.2 s0_16 s0_17 s0_18 s0_19 s0_20 s0_21 s0_22 s0_23 s0_24 s0_25 s0_26 s0_27 s0_28 s0_29) below args s) (F0 m 4 ls []) := by
  have hx := C.1
  have hb := C.2.1
  intro n
  induction n with
  | zero => intro v1 v2 s0_11 s0_12 s0_13 s0_14 s0_15 hf; exact nomatch (show (none : Option (Int32 × Int32 × Bool × Int32 × Int32 × Bool)) = some out from hf)
  | succ n ih =>
    intro v1 v2 s0_11 s0_12 s0_13 s0_14 s0_15 hf H locs ls hW hl
    rw [lp_X10_shutMany_4] at hf
    refine lv_iload_n hx hb dX10_shutMany_4 rfl (lv_at hl 2 rfl) ?_
    refine lv_aload_n hx hb dX10_shutMany_5 rfl (lv_at hl 0 rfl) ?_
    refine zk_get C hW fgX10_78 0 rfl rfl dX10_shutMany_6 ?_
    refine lv_icmp_ge (tgt := 27) hx hb dX10_shutMany_9 (by decide) (fun c1 => ?_) (fun c1 => ?_)
    · have hf := ipos c1 hf
      exact hK v1 v2 s0_11 s0_12 s0_13 s0_14 s0_15 hf _ _ _ hW (lv_sub hl [1] rfl)
    · have hf := ineg c1 hf
      refine lv_iload_n hx hb dX10_shutMany_12 rfl (lv_at hl 1 rfl) ?_
      refine lv_aload_n hx hb dX10_shutMany_13 rfl (lv_at hl 0 rfl) ?_
      refine lv_iload_n hx hb dX10_shutMany_14 rfl (lv_at hl 2 rfl) ?_
      refine lv_iconst (v := 3) hx hb dX10_shutMany_15 (by decide) ?_
      obtain ⟨u2, eu2, hf⟩ := bnd hf
      refine zk_callBI (As := [.int v2, .int 3]) (rest := [.int v1]) (W1 := wX10 G q s0_0 s0_1 s0_2 s0_3 s0_4 s0_5 s0_6 s0_7 s0_8 s0_9 s0_10 u2.2.1 u2.2.2.1 u2.2.2.2.1 u2.2.2.2.2.1 u2.2.2.2.2.2 s0_16 s0_17 s0_18 s0_19 s0_20 s0_21 s0_22 s0_23 s0_24 s0_25 s0_26 s0_27 s0_28 s0_29) C hW hl mvX10_140 (c_X10_listenerOf l G q s0_0 s0_1 s0_2 s0_3 s0_4 s0_5 s0_6 s0_7 s0_8 s0_9 s0_10 s0_11 s0_12 s0_13 s0_14 s0_15 s0_16 s0_17 s0_18 s0_19 s0_20 s0_21 s0_22 s0_23 s0_24 s0_25 s0_26 s0_27 s0_28 s0_29 v2 3 u2 eu2) ⟨(Nat.le_of_ble_eq_true rfl), (Nat.le_of_ble_eq_true rfl)⟩ ⟨rfl, rfl⟩ ([]) ([]) zE1 rfl rfl (Nat.le_of_ble_eq_true rfl) zE1r dX10_shutMany_16 ⟨Nat.zero_le _, Nat.zero_le _⟩ (fun H locs hW => ?_)
      refine lv_iadd hx hb dX10_shutMany_19 ?_
      refine lv_istore_n (lv' := [(1, .int (v1 + u2.1)), (0, .ref (q 0)), (2, .int v2)]) hx hb dX10_shutMany_20 rfl hl (by decide) rfl (fun ls hl => ?_)
      refine lv_iinc (v := (v2 + 1)) (lv' := [(2, .int (v2 + 1)), (1, .int (v1 + u2.1)), (0, .ref (q 0))]) hx hb dX10_shutMany_21 hl (k := 2) rfl rfl (by decide) rfl (fun ls hl => ?_)
      refine lv_goto (tgt := 4) hx hb dX10_shutMany_24 (by decide) ?_
      exact ih (v1 + u2.1) (v2 + 1) u2.2.1 u2.2.2.1 u2.2.2.2.1 u2.2.2.2.2.1 u2.2.2.2.2.2 hf _ _ _ hW (lv_sub hl [2, 1, 0] rfl)
set_option maxHeartbeats 4000000 in
set_option maxRecDepth 100000 in
theorem c_X10_shutMany (l : Launch) (G : GG) (q : Nat → Nat) (m0 : (Nat → Int32)) (m1 : Int32) (m2 : Int32) (m3 : Int32) (m4 : Int32) (m5 : Int32) (m6 : Int32) (m7 : Int32) (m8 : (Nat → Int32)) (m9 : Int32) (m10 : (Nat → Int32)) (m11 : Int32) (m12 : Bool) (m13 : Int32) (m14 : Int32) (m15 : Bool) (m16 : Int32) (m17 : (Nat → Int32)) (m18 : Int32) (m19 : (Nat → Int32)) (m20 : (Nat → Int32)) (m21 : Int32) (m22 : Int32) (m23 : Int32) (m24 : Int32) (m25 : Int32) (m26 : Int32) (m27 : (Nat → Int32)) (m28 : (Nat → Int32)) (m29 : Int64) (out : Int32 × Int32 × Bool × Int32 × Int32 × Bool) (hf : f_X10_shutMany m4 m5 m8 m9 m10 m11 m12 m13 m14 m15 = some out) : CtI G l yX10_shutMany (Cond.code yX10_shutMany cX10_shutMany 3 (some .int) :: WL) (zR 3 76) [.ref (q 0)] (wX10 G q m0 m1 m2 m3 m4 m5 m6 m7 m8 m9 m10 m11 m12 m13 m14 m15 m16 m17 m18 m19 m20 m21 m22 m23 m24 m25 m26 m27 m28 m29) out.1 (wX10 G q m0 m1 m2 m3 m4 m5 m6 m7 m8 m9 m10 out.2.1 out.2.2.1 out.2.2.2.1 out.2.2.2.2.1 out.2.2.2.2.2 m16 m17 m18 m19 m20 m21 m22 m23 m24 m25 m26 m27 m28 m29) := by
  refine CtI.mk (cc := cX10_shutMany) (nL := 3) (rt := (some .int)) (own := RX10) (nm := "shutMany") (by decide) rfl rfl (Nat.le_of_ble_eq_true rfl) ?_
  intro p e s m below meth c A ls C hW hl
  have hx := C.1
  have hb := C.2.1
  have hl : lv_has ls 3 [(0, .ref (q 0))] := hl
  unfold f_X10_shutMany at hf
  refine lv_iconst (v := 0) hx hb dX10_shutMany_0 (by decide) ?_
  refine lv_istore_n (lv' := [(1, .int 0), (0, .ref (q 0))]) hx hb dX10_shutMany_1 rfl hl (by decide) rfl (fun ls hl => ?_)
  refine lv_iconst (v := 0) hx hb dX10_shutMany_2 (by decide) ?_
  refine lv_istore_n (lv' := [(2, .int 0), (1, .int 0), (0, .ref (q 0))]) hx hb dX10_shutMany_3 rfl hl (by decide) rfl (fun ls hl => ?_)
  refine w_X10_shutMany_4 l G q m0 m1 m2 m3 m4 m5 m6 m7 m8 m9 m10 m16 m17 m18 m19 m20 m21 m22 m23 m24 m25 m26 m27 m28 m29 out C (fun w3_v1 w3_v2 w3_s0_11 w3_s0_12 w3_s0_13 w3_s0_14 w3_s0_15 hf H locs ls hW hl => ?_) FU 0 0 m11 m12 m13 m14 m15 hf _ _ _ hW (lv_sub hl [2, 1, 0] rfl)
  refine lv_iload_n hx hb dX10_shutMany_27 rfl (lv_at hl 0 rfl) ?_
  obtain rfl := Option.some.inj hf
  exact zk_iret C hW rfl dX10_shutMany_28

set_option maxHeartbeats 4000000 in
set_option maxRecDepth 100000 in
theorem c_X10_countOf (l : Launch) (G : GG) (q : Nat → Nat) (m0 : (Nat → Int32)) (m1 : Int32) (m2 : Int32) (m3 : Int32) (m4 : Int32) (m5 : Int32) (m6 : Int32) (m7 : Int32) (m8 : (Nat → Int32)) (m9 : Int32) (m10 : (Nat → Int32)) (m11 : Int32) (m12 : Bool) (m13 : Int32) (m14 : Int32) (m15 : Bool) (m16 : Int32) (m17 : (Nat → Int32)) (m18 : Int32) (m19 : (Nat → Int32)) (m20 : (Nat → Int32)) (m21 : Int32) (m22 : Int32) (m23 : Int32) (m24 : Int32) (m25 : Int32) (m26 : Int32) (m27 : (Nat → Int32)) (m28 : (Nat → Int32)) (m29 : Int64) (a0 : Int32) (out : Int32 × Int32 × Bool × Int32 × Int32 × Bool) (hf : f_X10_countOf m1 m4 m5 m6 m7 m8 m9 m10 m11 m12 m13 m14 m15 m16 m18 a0 = some out) : CtI G l yX10_countOf (Cond.code yX10_countOf cX10_countOf 2 (some .int) :: WL) (zR 4 98) [.ref (q 0), .int a0] (wX10 G q m0 m1 m2 m3 m4 m5 m6 m7 m8 m9 m10 m11 m12 m13 m14 m15 m16 m17 m18 m19 m20 m21 m22 m23 m24 m25 m26 m27 m28 m29) out.1 (wX10 G q m0 m1 m2 m3 m4 m5 m6 m7 m8 m9 m10 out.2.1 out.2.2.1 out.2.2.2.1 out.2.2.2.2.1 out.2.2.2.2.2 m16 m17 m18 m19 m20 m21 m22 m23 m24 m25 m26 m27 m28 m29) := by
  refine CtI.mk (cc := cX10_countOf) (nL := 2) (rt := (some .int)) (own := RX10) (nm := "countOf") (by decide) rfl rfl (Nat.le_of_ble_eq_true rfl) ?_
  intro p e s m below meth c A ls C hW hl
  have hx := C.1
  have hb := C.2.1
  have hl : lv_has ls 2 [(0, .ref (q 0)), (1, .int a0)] := hl
  unfold f_X10_countOf at hf
  refine lv_iload_n hx hb dX10_countOf_0 rfl (lv_at hl 1 rfl) ?_
  by_cases e1 : a0 = 0
  · have hf := ipos e1 hf
    refine lv_tableIn (tgt := 52) (off := 51) hx hb dX10_countOf_1 (by rw [e1]; decide) (by rw [e1]; decide) (by rw [e1]; rfl) (by decide) ?_
    refine lv_aload_n hx hb dX10_countOf_52 rfl (lv_at hl 0 rfl) ?_
    refine zk_get C hW fgX10_69 0 rfl rfl dX10_countOf_53 ?_
    obtain rfl := Option.some.inj hf
    exact zk_iret C hW rfl dX10_countOf_56
  have hf := ineg e1 hf
  by_cases e2 : a0 = 1
  · have hf := ipos e2 hf
    refine lv_tableIn (tgt := 57) (off := 56) hx hb dX10_countOf_1 (by rw [e2]; decide) (by rw [e2]; decide) (by rw [e2]; rfl) (by decide) ?_
    refine lv_aload_n hx hb dX10_countOf_57 rfl (lv_at hl 0 rfl) ?_
    refine zk_get C hW fgX10_72 0 rfl rfl dX10_countOf_58 ?_
    obtain rfl := Option.some.inj hf
    exact zk_iret C hW rfl dX10_countOf_61
  have hf := ineg e2 hf
  by_cases e3 : a0 = 2
  · have hf := ipos e3 hf
    refine lv_tableIn (tgt := 62) (off := 61) hx hb dX10_countOf_1 (by rw [e3]; decide) (by rw [e3]; decide) (by rw [e3]; rfl) (by decide) ?_
    refine lv_aload_n hx hb dX10_countOf_62 rfl (lv_at hl 0 rfl) ?_
    refine zk_get C hW fgX10_78 0 rfl rfl dX10_countOf_63 ?_
    obtain rfl := Option.some.inj hf
    exact zk_iret C hW rfl dX10_countOf_66
  have hf := ineg e3 hf
  by_cases e4 : a0 = 3
  · have hf := ipos e4 hf
    refine lv_tableIn (tgt := 67) (off := 66) hx hb dX10_countOf_1 (by rw [e4]; decide) (by rw [e4]; decide) (by rw [e4]; rfl) (by decide) ?_
    refine lv_aload_n hx hb dX10_countOf_67 rfl (lv_at hl 0 rfl) ?_
    obtain ⟨u5, eu5, hf⟩ := bnd hf
    refine zk_callBI (As := []) (rest := []) (W1 := wX10 G q m0 m1 m2 m3 m4 m5 m6 m7 m8 m9 m10 u5.2.1 u5.2.2.1 u5.2.2.2.1 u5.2.2.2.2.1 u5.2.2.2.2.2 m16 m17 m18 m19 m20 m21 m22 m23 m24 m25 m26 m27 m28 m29) C hW hl mvX10_215 (c_X10_shutMany l G q m0 m1 m2 m3 m4 m5 m6 m7 m8 m9 m10 m11 m12 m13 m14 m15 m16 m17 m18 m19 m20 m21 m22 m23 m24 m25 m26 m27 m28 m29 u5 eu5) ⟨(Nat.le_of_ble_eq_true rfl), (Nat.le_of_ble_eq_true rfl)⟩ ⟨rfl, rfl⟩ ([]) ([]) zE1 rfl rfl (Nat.le_of_ble_eq_true rfl) zE1r dX10_countOf_68 ⟨Nat.zero_le _, Nat.zero_le _⟩ (fun H locs hW => ?_)
    obtain rfl := Option.some.inj hf
    exact zk_iret C hW rfl dX10_countOf_71
  have hf := ineg e4 hf
  by_cases e6 : a0 = 4
  · have hf := ipos e6 hf
    refine lv_tableIn (tgt := 72) (off := 71) hx hb dX10_countOf_1 (by rw [e6]; decide) (by rw [e6]; decide) (by rw [e6]; rfl) (by decide) ?_
    refine lv_aload_n hx hb dX10_countOf_72 rfl (lv_at hl 0 rfl) ?_
    refine zk_get C hW fgX10_75 0 rfl rfl dX10_countOf_73 ?_
    obtain rfl := Option.some.inj hf
    exact zk_iret C hW rfl dX10_countOf_76
  have hf := ineg e6 hf
  by_cases e7 : a0 = 5
  · have hf := ipos e7 hf
    refine lv_tableIn (tgt := 77) (off := 76) hx hb dX10_countOf_1 (by rw [e7]; decide) (by rw [e7]; decide) (by rw [e7]; rfl) (by decide) ?_
    refine lv_aload_n hx hb dX10_countOf_77 rfl (lv_at hl 0 rfl) ?_
    refine zk_get C hW fgX10_81 0 rfl rfl dX10_countOf_78 ?_
    obtain rfl := Option.some.inj hf
    exact zk_iret C hW rfl dX10_countOf_81
  have hf := ineg e7 hf
  by_cases e8 : a0 = 6
  · have hf := ipos e8 hf
    refine lv_tableIn (tgt := 82) (off := 81) hx hb dX10_countOf_1 (by rw [e8]; decide) (by rw [e8]; decide) (by rw [e8]; rfl) (by decide) ?_
    refine lv_aload_n hx hb dX10_countOf_82 rfl (lv_at hl 0 rfl) ?_
    refine zk_get C hW fgX10_44 0 rfl rfl dX10_countOf_83 ?_
    obtain rfl := Option.some.inj hf
    exact zk_iret C hW rfl dX10_countOf_86
  have hf := ineg e8 hf
  by_cases e9 : a0 = 7
  · have hf := ipos e9 hf
    refine lv_tableIn (tgt := 87) (off := 86) hx hb dX10_countOf_1 (by rw [e9]; decide) (by rw [e9]; decide) (by rw [e9]; rfl) (by decide) ?_
    refine lv_aload_n hx hb dX10_countOf_87 rfl (lv_at hl 0 rfl) ?_
    refine zk_get C hW fgX10_84 0 rfl rfl dX10_countOf_88 ?_
    obtain rfl := Option.some.inj hf
    exact zk_iret C hW rfl dX10_countOf_91
  have hf := ineg e9 hf
  by_cases e10 : a0 = 8
  · have hf := ipos e10 hf
    refine lv_tableIn (tgt := 92) (off := 91) hx hb dX10_countOf_1 (by rw [e10]; decide) (by rw [e10]; decide) (by rw [e10]; rfl) (by decide) ?_
    refine lv_aload_n hx hb dX10_countOf_92 rfl (lv_at hl 0 rfl) ?_
    refine zk_get C hW fgX10_151 0 rfl rfl dX10_countOf_93 ?_
    obtain rfl := Option.some.inj hf
    exact zk_iret C hW rfl dX10_countOf_96
  have hf := ineg e10 hf
  refine lv_tableOut (tgt := 97) hx hb dX10_countOf_1 (by have he1 := lv_neT e1 (a := 0) rfl; have he2 := lv_neT e2 (a := 1) rfl; have he3 := lv_neT e3 (a := 2) rfl; have he4 := lv_neT e4 (a := 3) rfl; have he6 := lv_neT e6 (a := 4) rfl; have he7 := lv_neT e7 (a := 5) rfl; have he8 := lv_neT e8 (a := 6) rfl; have he9 := lv_neT e9 (a := 7) rfl; have he10 := lv_neT e10 (a := 8) rfl; omega) (by decide) ?_
  refine lv_bipush (v := (-102)) hx hb dX10_countOf_97 (by decide) ?_
  obtain rfl := Option.some.inj hf
  exact zk_iret C hW rfl dX10_countOf_99

set_option maxHeartbeats 4000000 in
set_option maxRecDepth 100000 in
theorem c_X10_count (l : Launch) (G : GG) (q : Nat → Nat) (m0 : (Nat → Int32)) (m1 : Int32) (m2 : Int32) (m3 : Int32) (m4 : Int32) (m5 : Int32) (m6 : Int32) (m7 : Int32) (m8 : (Nat → Int32)) (m9 : Int32) (m10 : (Nat → Int32)) (m11 : Int32) (m12 : Bool) (m13 : Int32) (m14 : Int32) (m15 : Bool) (m16 : Int32) (m17 : (Nat → Int32)) (m18 : Int32) (m19 : (Nat → Int32)) (m20 : (Nat → Int32)) (m21 : Int32) (m22 : Int32) (m23 : Int32) (m24 : Int32) (m25 : Int32) (m26 : Int32) (m27 : (Nat → Int32)) (m28 : (Nat → Int32)) (m29 : Int64) (a0 : Int32) (out : Int32 × Int32 × Bool × Int32 × Int32 × Bool) (hf : f_X10_count m1 m4 m5 m6 m7 m8 m9 m10 m11 m12 m13 m14 m15 m16 m18 a0 = some out) : CtI G l yX10_count (Cond.code yX10_count cX10_count 2 (some .int) :: WL) (zR 5 119) [.ref (q 0), .int a0] (wX10 G q m0 m1 m2 m3 m4 m5 m6 m7 m8 m9 m10 m11 m12 m13 m14 m15 m16 m17 m18 m19 m20 m21 m22 m23 m24 m25 m26 m27 m28 m29) out.1 (wX10 G q m0 m1 m2 m3 m4 m5 m6 m7 m8 m9 m10 out.2.1 out.2.2.1 out.2.2.2.1 out.2.2.2.2.1 out.2.2.2.2.2 m16 m17 m18 m19 m20 m21 m22 m23 m24 m25 m26 m27 m28 m29) := by
  refine CtI.mk (cc := cX10_count) (nL := 2) (rt := (some .int)) (own := RX10) (nm := "count") (by decide) rfl rfl (Nat.le_of_ble_eq_true rfl) ?_
  intro p e s m below meth c A ls C hW hl
  have hx := C.1
  have hb := C.2.1
  have hl : lv_has ls 2 [(0, .ref (q 0)), (1, .int a0)] := hl
  unfold f_X10_count at hf
  refine lv_aload_n hx hb dX10_count_0 rfl (lv_at hl 0 rfl) ?_
  refine lv_iload_n hx hb dX10_count_1 rfl (lv_at hl 1 rfl) ?_
  obtain ⟨u1, eu1, hf⟩ := bnd hf
  refine zk_callBI (As := [.int a0]) (rest := []) (W1 := wX10 G q m0 m1 m2 m3 m4 m5 m6 m7 m8 m9 m10 u1.2.1 u1.2.2.1 u1.2.2.2.1 u1.2.2.2.2.1 u1.2.2.2.2.2 m16 m17 m18 m19 m20 m21 m22 m23 m24 m25 m26 m27 m28 m29) C hW hl mvX10_218 (c_X10_countOf l G q m0 m1 m2 m3 m4 m5 m6 m7 m8 m9 m10 m11 m12 m13 m14 m15 m16 m17 m18 m19 m20 m21 m22 m23 m24 m25 m26 m27 m28 m29 a0 u1 eu1) ⟨(Nat.le_of_ble_eq_true rfl), (Nat.le_of_ble_eq_true rfl)⟩ ⟨rfl, rfl⟩ ([]) ([]) zE1 rfl rfl (Nat.le_of_ble_eq_true rfl) zE1r dX10_count_2 ⟨Nat.zero_le _, Nat.zero_le _⟩ (fun H locs hW => ?_)
  obtain rfl := Option.some.inj hf
  exact zk_iret C hW rfl dX10_count_5

set_option maxHeartbeats 4000000 in
set_option maxRecDepth 100000 in
theorem c_X10_say (l : Launch) (G : GG) (q : Nat → Nat) (m0 : (Nat → Int32)) (m1 : Int32) (m2 : Int32) (m3 : Int32) (m4 : Int32) (m5 : Int32) (m6 : Int32) (m7 : Int32) (m8 : (Nat → Int32)) (m9 : Int32) (m10 : (Nat → Int32)) (m11 : Int32) (m12 : Bool) (m13 : Int32) (m14 : Int32) (m15 : Bool) (m16 : Int32) (m17 : (Nat → Int32)) (m18 : Int32) (m19 : (Nat → Int32)) (m20 : (Nat → Int32)) (m21 : Int32) (m22 : Int32) (m23 : Int32) (m24 : Int32) (m25 : Int32) (m26 : Int32) (m27 : (Nat → Int32)) (m28 : (Nat → Int32)) (m29 : Int64) (a0 : Int64) (out : Int64) (hf : f_X10_say m29 a0 = some out) : CtV G l yX10_say (Cond.code yX10_say cX10_say 3 none :: WL) (zR 0 0) [.ref (q 0), .long a0] (wX10 G q m0 m1 m2 m3 m4 m5 m6 m7 m8 m9 m10 m11 m12 m13 m14 m15 m16 m17 m18 m19 m20 m21 m22 m23 m24 m25 m26 m27 m28 m29) (wX10 G q m0 m1 m2 m3 m4 m5 m6 m7 m8 m9 m10 m11 m12 m13 m14 m15 m16 m17 m18 m19 m20 m21 m22 m23 m24 m25 m26 m27 m28 out) := by
  refine CtV.mk (cc := cX10_say) (nL := 3) (rt := none) (own := RX10) (nm := "say") (by decide) rfl rfl (Nat.le_of_ble_eq_true rfl) ?_
  intro p e s m below meth c A ls C hW hl
  have hx := C.1
  have hb := C.2.1
  have hl : lv_has ls 3 [(0, .ref (q 0)), (1, .long a0)] := hl
  unfold f_X10_say at hf
  refine lv_aload_n hx hb dX10_say_0 rfl (lv_at hl 0 rfl) ?_
  refine lv_ldc2 hx hb C.2.2.2.1 (C.2.2.2.2.1 _ klX10_221) dX10_say_1 ?_
  refine lv_aload_n hx hb dX10_say_4 rfl (lv_at hl 0 rfl) ?_
  refine zk_get C hW fgX10_223 0 rfl rfl dX10_say_5 ?_
  refine lv_lmul hx hb dX10_say_8 ?_
  refine lv_lload_n hx hb dX10_say_9 rfl (lv_at hl 1 rfl) ?_
  refine lv_ladd hx hb dX10_say_10 ?_
  obtain ⟨z1, ez1, hf⟩ := bnd hf
  refine zk_putL (W1 := wX10 G q m0 m1 m2 m3 m4 m5 m6 m7 m8 m9 m10 m11 m12 m13 m14 m15 m16 m17 m18 m19 m20 m21 m22 m23 m24 m25 m26 m27 m28 z1) C hW fpX10_223 0 (Option.some.inj ez1) rfl (Nat.le_of_ble_eq_true rfl) rfl dX10_say_11 (fun H locs hW => ?_)
  obtain rfl := Option.some.inj hf
  exact zk_vret C hW dX10_say_14

set_option maxHeartbeats 4000000 in
set_option maxRecDepth 100000 in
theorem w_X10_digest_19 {p : Program} {e : Env} {s : State} {m : MethodId} {args : Array Value} {below : List Frame} {meth : Method} {c : Code} {A : Nat → Prop} (l : Launch) (G : GG) (q : Nat → Nat) (v1 : Int32) (s0_0 : (Nat → Int32)) (s0_1 : Int32) (s0_2 : Int32) (s0_3 : Int32) (s0_4 : Int32) (s0_5 : Int32) (s0_6 : Int32) (s0_7 : Int32) (s0_8 : (Nat → Int32)) (s0_9 : Int32) (s0_10 : (Nat → Int32)) (s0_16 : Int32) (s0_17 : (Nat → Int32)) (s0_18 : Int32) (s0_19 : (Nat → Int32)) (s0_20 : (Nat → Int32)) (s0_21 : Int32) (s0_22 : Int32) (s0_23 : Int32) (s0_24 : Int32) (s0_25 : Int32) (s0_26 : Int32) (s0_27 : (Nat → Int32)) (s0_28 : (Nat → Int32)) (out : Int64 × Int32 × Bool × Int32 × Int32 × Bool × (Nat → Int32) × (Nat → Int32) × Int64) (C : CX p s m args meth c cX10_digest 3 RX10 (some .long) "digest") {K : Int32 → Int32 → Bool → Int32 → Int32 → Bool → Int64 → Option (Int64 × Int32 × Bool × Int32 × Int32 × Bool × (Nat → Int32) × (Nat → Int32) × Int64)} (hK : ∀ (v2 : Int32) (s0_11 : Int32) (s0_12 : Bool) (s0_13 : Int32) (s0_14 : Int32) (s0_15 : Bool) (s0_29 : Int64) , K v2 s0_11 s0_12 s0_13 s0_14 s0_15 s0_29 = some out → ∀ (H : Heap) (locs : List Loc) (ls : Array Slot), KW G A s (wX10 G q s0_0 s0_1 s0_2 s0_3 s0_4 s0_5 s0_6 s0_7 s0_8 s0_9 s0_10 s0_11 s0_12 s0_13 s0_14 s0_15 s0_16 s0_17 s0_18 s0_19 s0_20 s0_21 s0_22 s0_23 s0_24 s0_25 s0_26 s0_27 s0_28 s0_29) H locs → lv_has ls 3 [(0, .ref (q 0)), (1, .int v1)] → W p l e (zR 5 119) s m args below meth c H locs 0 0 (QL G A out.1 (wX10 G q s0_0 s0_1 s0_2 s0_3 s0_4 s0_5 s0_6 s0_7 s0_8 s0_9 s0_10 out.2.1 out.2.2.1 out.2.2.2.1 out.2.2.2.2.1 out.2.2.2.2.2.1 s0_16 out.2.2.2.2.2.2.1 s0_18 s0_19 out.2.2.2.2.2.2.2.1 s0_21 s0_22 s0_23 s0_24 s0_25 s0_26 s0_27 s0_28 out.2.2.2.2.2.2.2.2) below args s) (F0 m 41 ls [])) :
    ∀ (n : Nat) (v2 : Int32) (s0_11 : Int32) (s0_12 : Bool) (s0_13 : Int32) (s0_14 : Int32) (s0_15 : Bool) (s0_29 : Int64) , lp_X10_digest_19 v1 s0_4 s0_8 K n v2 s0_11 s0_12 s0_13 s0_14 s0_15 s0_29 = some out → ∀ (H : Heap) (locs : List Loc) (ls : Array Slot), KW G A s (wX10 G q s0_0 s0_1 s0_2 s0_3 s0_4 s0_5 s0_6 s0_7 s0_8 s0_9 s0_10 s0_11 s0_12 s0_13 s0_14 s0_15 s0_16 s0_17 s0_18 s0_19 s0_20 s0_21 s0_22 s0_23 s0_24 s0_25 s0_26 s0_27 s0_28 s0_29) H locs → lv_has ls 3 [(0, .ref (q 0)), (1, .int v1), (2, .int v2)] → W p l e (zR 5 119) s m args below meth c H locs 0 0 (QL G A out.1 (wX10 G q s0_0 s0_1 s0_2 s0_3 s0_4 s0_5 s0_6 s0_7 s0_8 s0_9 s0_10 out.2.1 out.2.2.1 out.2.2.2.1 out.2.2.2.2.1 out.2.2.2.2.2.1 s0_16 out.2.2.2.2.2.2.1 s0_18 s0_19 out.2.2.2.2.2.2.2.1 s0_21 s0_22 s0_23 s0_24 s0_25 s0_26 s0_27 s0_28 out.2.2.2.2.2.2.2.2) below args s) (F0 m 19 ls []) := by
  have hx := C.1
  have hb := C.2.1
  intro n
  induction n with
  | zero => intro v2 s0_11 s0_12 s0_13 s0_14 s0_15 s0_29 hf; exact nomatch (show (none : Option (Int64 × Int32 × Bool × Int32 × Int32 × Bool × (Nat → Int32) × (Nat → Int32) × Int64)) = some out from hf)
  | succ n ih =>
    intro v2 s0_11 s0_12 s0_13 s0_14 s0_15 s0_29 hf H locs ls hW hl
    rw [lp_X10_digest_19] at hf
    refine lv_iload_n hx hb dX10_digest_19 rfl (lv_at hl 2 rfl) ?_
    refine lv_iconst (v := 3) hx hb dX10_digest_20 (by decide) ?_
    refine lv_icmp_ge (tgt := 41) hx hb dX10_digest_21 (by decide) (fun c2 => ?_) (fun c2 => ?_)
    · have hf := ipos c2 hf
      exact hK v2 s0_11 s0_12 s0_13 s0_14 s0_15 s0_29 hf _ _ _ hW (lv_sub hl [0, 1] rfl)
    · have hf := ineg c2 hf
      refine lv_aload_n hx hb dX10_digest_24 rfl (lv_at hl 0 rfl) ?_
      refine lv_aload_n hx hb dX10_digest_25 rfl (lv_at hl 0 rfl) ?_
      refine lv_iload_n hx hb dX10_digest_26 rfl (lv_at hl 1 rfl) ?_
      refine lv_iload_n hx hb dX10_digest_27 rfl (lv_at hl 2 rfl) ?_
      obtain ⟨u3, eu3, hf⟩ := bnd hf
      refine zk_callBI (As := [.int v1, .int v2]) (rest := [.ref (q 0)]) (W1 := wX10 G q s0_0 s0_1 s0_2 s0_3 s0_4 s0_5 s0_6 s0_7 s0_8 s0_9 s0_10 u3.2.1 u3.2.2.1 u3.2.2.2.1 u3.2.2.2.2.1 u3.2.2.2.2.2 s0_16 s0_17 s0_18 s0_19 s0_20 s0_21 s0_22 s0_23 s0_24 s0_25 s0_26 s0_27 s0_28 s0_29) C hW hl mvX10_121 (c_X10_tellWord l G q s0_0 s0_1 s0_2 s0_3 s0_4 s0_5 s0_6 s0_7 s0_8 s0_9 s0_10 s0_11 s0_12 s0_13 s0_14 s0_15 s0_16 s0_17 s0_18 s0_19 s0_20 s0_21 s0_22 s0_23 s0_24 s0_25 s0_26 s0_27 s0_28 s0_29 v1 v2 u3 eu3) ⟨(Nat.le_of_ble_eq_true rfl), (Nat.le_of_ble_eq_true rfl)⟩ ⟨rfl, rfl⟩ ([]) ([]) zE1 rfl rfl (Nat.le_of_ble_eq_true rfl) zE1r dX10_digest_28 ⟨Nat.zero_le _, Nat.zero_le _⟩ (fun H locs hW => ?_)
      refine lv_i2l (v := (Int32.toInt64 u3.1)) hx hb dX10_digest_31 rfl ?_
      obtain ⟨u4, eu4, hf⟩ := bnd hf
      refine zk_callBV (As := [.long (Int32.toInt64 u3.1)]) (rest := []) (W1 := wX10 G q s0_0 s0_1 s0_2 s0_3 s0_4 s0_5 s0_6 s0_7 s0_8 s0_9 s0_10 u3.2.1 u3.2.2.1 u3.2.2.2.1 u3.2.2.2.2.1 u3.2.2.2.2.2 s0_16 s0_17 s0_18 s0_19 s0_20 s0_21 s0_22 s0_23 s0_24 s0_25 s0_26 s0_27 s0_28 u4) C hW hl mvX10_229 (c_X10_say l G q s0_0 s0_1 s0_2 s0_3 s0_4 s0_5 s0_6 s0_7 s0_8 s0_9 s0_10 u3.2.1 u3.2.2.1 u3.2.2.2.1 u3.2.2.2.2.1 u3.2.2.2.2.2 s0_16 s0_17 s0_18 s0_19 s0_20 s0_21 s0_22 s0_23 s0_24 s0_25 s0_26 s0_27 s0_28 s0_29 (Int32.toInt64 u3.1) u4 eu4) ⟨(Nat.le_of_ble_eq_true rfl), (Nat.le_of_ble_eq_true rfl)⟩ ⟨rfl, rfl⟩ ([]) ([]) zE1 rfl rfl (Nat.le_of_ble_eq_true rfl) zE1r dX10_digest_32 ⟨Nat.zero_le _, Nat.zero_le _⟩ (fun H locs hW => ?_)
      refine lv_iinc (v := (v2 + 1)) (lv' := [(2, .int (v2 + 1)), (0, .ref (q 0)), (1, .int v1)]) hx hb dX10_digest_35 hl (k := 2) rfl rfl (by decide) rfl (fun ls hl => ?_)
      refine lv_goto (tgt := 19) hx hb dX10_digest_38 (by decide) ?_
      exact ih (v2 + 1) u3.2.1 u3.2.2.1 u3.2.2.2.1 u3.2.2.2.2.1 u3.2.2.2.2.2 u4 hf _ _ _ hW (lv_sub hl [1, 2, 0] rfl)
set_option maxHeartbeats 4000000 in
set_option maxRecDepth 100000 in
theorem w_X10_digest_9 {p : Program} {e : Env} {s : State} {m : MethodId} {args : Array Value} {below : List Frame} {meth : Method} {c : Code} {A : Nat → Prop} (l : Launch) (G : GG) (q : Nat → Nat) (s0_0 : (Nat → Int32)) (s0_1 : Int32) (s0_2 : Int32) (s0_3 : Int32) (s0_4 : Int32) (s0_5 : Int32) (s0_6 : Int32) (s0_7 : Int32) (s0_8 : (Nat → Int32)) (s0_9 : Int32) (s0_10 : (Nat → Int32)) (s0_16 : Int32) (s0_17 : (Nat → Int32)) (s0_18 : Int32) (s0_19 : (Nat → Int32)) (s0_20 : (Nat → Int32)) (s0_21 : Int32) (s0_22 : Int32) (s0_23 : Int32) (s0_24 : Int32) (s0_25 : Int32) (s0_26 : Int32) (s0_27 : (Nat → Int32)) (s0_28 : (Nat → Int32)) (out : Int64 × Int32 × Bool × Int32 × Int32 × Bool × (Nat → Int32) × (Nat → Int32) × Int64) (C : CX p s m args meth c cX10_digest 3 RX10 (some .long) "digest") {K : Int32 → Int32 → Bool → Int32 → Int32 → Bool → Int64 → Option (Int64 × Int32 × Bool × Int32 × Int32 × Bool × (Nat → Int32) × (Nat → Int32) × Int64)} (hK : ∀ (v1 : Int32) (s0_11 : Int32) (s0_12 : Bool) (s0_13 : Int32) (s0_14 : Int32) (s0_15 : Bool) (s0_29 : Int64) , K v1 s0_11 s0_12 s0_13 s0_14 s0_15 s0_29 = some out → ∀ (H : Heap) (locs : List Loc) (ls : Array Slot), KW G A s (wX10 G q s0_0 s0_1 s0_2 s0_3 s0_4 s0_5 s0_6 s0_7 s0_8 s0_9 s0_10 s0_11 s0_12 s0_13 s0_14 s0_15 s0_16 s0_17 s0_18 s0_19 s0_20 s0_21 s0_22 s0_23 s0_24 s0_25 s0_26 s0_27 s0_28 s0_29) H locs → lv_has ls 3 [(0, .ref (q 0))] → W p l e (zR 5 119) s m args below meth c H locs 0 0 (QL G A out.1 (wX10 G q s0_0 s0_1 s0_2 s0_3 s0_4 s0_5 s0_6 s0_7 s0_8 s0_9 s0_10 out.2.1 out.2.2.1 out.2.2.2.1 out.2.2.2.2.1 out.2.2.2.2.2.1 s0_16 out.2.2.2.2.2.2.1 s0_18 s0_19 out.2.2.2.2.2.2.2.1 s0_21 s0_22 s0_23 s0_24 s0_25 s0_26 s0_27 s0_28 out.2.2.2.2.2.2.2.2) below args s) (F0 m 47 ls [])) :
    ∀ (n : Nat) (v1 : Int32) (s0_11 : Int32) (s0_12 : Bool) (s0_13 : Int32) (s0_14 : Int32) (s0_15 : Bool) (s0_29 : Int64) , lp_X10_digest_9 s0_4 s0_8 K n v1 s0_11 s0_12 s0_13 s0_14 s0_15 s0_29 = some out → ∀ (H : Heap) (locs : List Loc) (ls : Array Slot), KW G A s (wX10 G q s0_0 s0_1 s0_2 s0_3 s0_4 s0_5 s0_6 s0_7 s0_8 s0_9 s0_10 s0_11 s0_12 s0_13 s0_14 s0_15 s0_16 s0_17 s0_18 s0_19 s0_20 s0_21 s0_22 s0_23 s0_24 s0_25 s0_26 s0_27 s0_28 s0_29) H locs → lv_has ls 3 [(0, .ref (q 0)), (1, .int v1)] → W p l e (zR 5 119) s m args below meth c H locs 0 0 (QL G A out.1 (wX10 G q s0_0 s0_1 s0_2 s0_3 s0_4 s0_5 s0_6 s0_7 s0_8 s0_9 s0_10 out.2.1 out.2.2.1 out.2.2.2.1 out.2.2.2.2.1 out.2.2.2.2.2.1 s0_16 out.2.2.2.2.2.2.1 s0_18 s0_19 out.2.2.2.2.2.2.2.1 s0_21 s0_22 s0_23 s0_24 s0_25 s0_26 s0_27 s0_28 out.2.2.2.2.2.2.2.2) below args s) (F0 m 9 ls []) := by
  have hx := C.1
  have hb := C.2.1
  intro n
  induction n with
  | zero => intro v1 s0_11 s0_12 s0_13 s0_14 s0_15 s0_29 hf; exact nomatch (show (none : Option (Int64 × Int32 × Bool × Int32 × Int32 × Bool × (Nat → Int32) × (Nat → Int32) × Int64)) = some out from hf)
  | succ n ih =>
    intro v1 s0_11 s0_12 s0_13 s0_14 s0_15 s0_29 hf H locs ls hW hl
    rw [lp_X10_digest_9] at hf
    refine lv_iload_n hx hb dX10_digest_9 rfl (lv_at hl 1 rfl) ?_
    refine lv_aload_n hx hb dX10_digest_10 rfl (lv_at hl 0 rfl) ?_
    refine zk_get C hW fgX10_69 0 rfl rfl dX10_digest_11 ?_
    refine lv_icmp_ge (tgt := 47) hx hb dX10_digest_14 (by decide) (fun c1 => ?_) (fun c1 => ?_)
    · have hf := ipos c1 hf
      exact hK v1 s0_11 s0_12 s0_13 s0_14 s0_15 s0_29 hf _ _ _ hW (lv_sub hl [0] rfl)
    · have hf := ineg c1 hf
      refine lv_iconst (v := 0) hx hb dX10_digest_17 (by decide) ?_
      refine lv_istore_n (lv' := [(2, .int 0), (0, .ref (q 0)), (1, .int v1)]) hx hb dX10_digest_18 rfl hl (by decide) rfl (fun ls hl => ?_)
      refine w_X10_digest_19 l G q v1 s0_0 s0_1 s0_2 s0_3 s0_4 s0_5 s0_6 s0_7 s0_8 s0_9 s0_10 s0_16 s0_17 s0_18 s0_19 s0_20 s0_21 s0_22 s0_23 s0_24 s0_25 s0_26 s0_27 s0_28 out C (fun w5_v2 w5_s0_11 w5_s0_12 w5_s0_13 w5_s0_14 w5_s0_15 w5_s0_29 hf H locs ls hW hl => ?_) FU 0 s0_11 s0_12 s0_13 s0_14 s0_15 s0_29 hf _ _ _ hW (lv_sub hl [1, 2, 0] rfl)
      refine lv_iinc (v := (v1 + 1)) (lv' := [(1, .int (v1 + 1)), (0, .ref (q 0))]) hx hb dX10_digest_41 hl (k := 1) rfl rfl (by decide) rfl (fun ls hl => ?_)
      refine lv_goto (tgt := 9) hx hb dX10_digest_44 (by decide) ?_
      exact ih (v1 + 1) w5_s0_11 w5_s0_12 w5_s0_13 w5_s0_14 w5_s0_15 w5_s0_29 hf _ _ _ hW (lv_sub hl [1, 0] rfl)
set_option maxHeartbeats 4000000 in
set_option maxRecDepth 100000 in
theorem w_X10_digest_59 {p : Program} {e : Env} {s : State} {m : MethodId} {args : Array Value} {below : List Frame} {meth : Method} {c : Code} {A : Nat → Prop} (l : Launch) (G : GG) (q : Nat → Nat) (v1 : Int32) (s0_0 : (Nat → Int32)) (s0_1 : Int32) (s0_2 : Int32) (s0_3 : Int32) (s0_4 : Int32) (s0_5 : Int32) (s0_6 : Int32) (s0_7 : Int32) (s0_8 : (Nat → Int32)) (s0_9 : Int32) (s0_10 : (Nat → Int32)) (s0_16 : Int32) (s0_17 : (Nat → Int32)) (s0_18 : Int32) (s0_19 : (Nat → Int32)) (s0_20 : (Nat → Int32)) (s0_21 : Int32) (s0_22 : Int32) (s0_23 : Int32) (s0_24 : Int32) (s0_25 : Int32) (s0_26 : Int32) (s0_27 : (Nat → Int32)) (s0_28 : (Nat → Int32)) (out : Int64 × Int32 × Bool × Int32 × Int32 × Bool × (Nat → Int32) × (Nat → Int32) × Int64) (C : CX p s m args meth c cX10_digest 3 RX10 (some .long) "digest") {K : Int32 → Int32 → Bool → Int32 → Int32 → Bool → Int64 → Option (Int64 × Int32 × Bool × Int32 × Int32 × Bool × (Nat → Int32) × (Nat → Int32) × Int64)} (hK : ∀ (v2 : Int32) (s0_11 : Int32) (s0_12 : Bool) (s0_13 : Int32) (s0_14 : Int32) (s0_15 : Bool) (s0_29 : Int64) , K v2 s0_11 s0_12 s0_13 s0_14 s0_15 s0_29 = some out → ∀ (H : Heap) (locs : List Loc) (ls : Array Slot), KW G A s (wX10 G q s0_0 s0_1 s0_2 s0_3 s0_4 s0_5 s0_6 s0_7 s0_8 s0_9 s0_10 s0_11 s0_12 s0_13 s0_14 s0_15 s0_16 s0_17 s0_18 s0_19 s0_20 s0_21 s0_22 s0_23 s0_24 s0_25 s0_26 s0_27 s0_28 s0_29) H locs → lv_has ls 3 [(0, .ref (q 0)), (1, .int v1)] → W p l e (zR 5 119) s m args below meth c H locs 0 0 (QL G A out.1 (wX10 G q s0_0 s0_1 s0_2 s0_3 s0_4 s0_5 s0_6 s0_7 s0_8 s0_9 s0_10 out.2.1 out.2.2.1 out.2.2.2.1 out.2.2.2.2.1 out.2.2.2.2.2.1 s0_16 out.2.2.2.2.2.2.1 s0_18 s0_19 out.2.2.2.2.2.2.2.1 s0_21 s0_22 s0_23 s0_24 s0_25 s0_26 s0_27 s0_28 out.2.2.2.2.2.2.2.2) below args s) (F0 m 82 ls [])) :
    ∀ (n : Nat) (v2 : Int32) (s0_11 : Int32) (s0_12 : Bool) (s0_13 : Int32) (s0_14 : Int32) (s0_15 : Bool) (s0_29 : Int64) , lp_X10_digest_59 v1 s0_4 s0_5 s0_8 s0_10 K n v2 s0_11 s0_12 s0_13 s0_14 s0_15 s0_29 = some out → ∀ (H : Heap) (locs : List Loc) (ls : Array Slot), KW G A s (wX10 G q s0_0 s0_1 s0_2 s0_3 s0_4 s0_5 s0_6 s0_7 s0_8 s0_9 s0_10 s0_11 s0_12 s0_13 s0_14 s0_15 s0_16 s0_17 s0_18 s0_19 s0_20 s0_21 s0_22 s0_23 s0_24 s0_25 s0_26 s0_27 s0_28 s0_29) H locs → lv_has ls 3 [(0, .ref (q 0)), (1, .int v1), (2, .int v2)] → W p l e (zR 5 119) s m args below meth c H locs 0 0 (QL G A out.1 (wX10 G q s0_0 s0_1 s0_2 s0_3 s0_4 s0_5 s0_6 s0_7 s0_8 s0_9 s0_10 out.2.1 out.2.2.1 out.2.2.2.1 out.2.2.2.2.1 out.2.2.2.2.2.1 s0_16 out.2.2.2.2.2.2.1 s0_18 s0_19 out.2.2.2.2.2.2.2.1 s0_21 s0_22 s0_23 s0_24 s0_25 s0_26 s0_27 s0_28 out.2.2.2.2.2.2.2.2) below args s) (F0 m 59 ls []) := by
  have hx := C.1
  have hb := C.2.1
  intro n
  induction n with
  | zero => intro v2 s0_11 s0_12 s0_13 s0_14 s0_15 s0_29 hf; exact nomatch (show (none : Option (Int64 × Int32 × Bool × Int32 × Int32 × Bool × (Nat → Int32) × (Nat → Int32) × Int64)) = some out from hf)
  | succ n ih =>
    intro v2 s0_11 s0_12 s0_13 s0_14 s0_15 s0_29 hf H locs ls hW hl
    rw [lp_X10_digest_59] at hf
    refine lv_iload_n hx hb dX10_digest_59 rfl (lv_at hl 2 rfl) ?_
    refine lv_bipush (v := 7) hx hb dX10_digest_60 (by decide) ?_
    refine lv_icmp_ge (tgt := 82) hx hb dX10_digest_62 (by decide) (fun c8 => ?_) (fun c8 => ?_)
    · have hf := ipos c8 hf
      exact hK v2 s0_11 s0_12 s0_13 s0_14 s0_15 s0_29 hf _ _ _ hW (lv_sub hl [0, 1] rfl)
    · have hf := ineg c8 hf
      refine lv_aload_n hx hb dX10_digest_65 rfl (lv_at hl 0 rfl) ?_
      refine lv_aload_n hx hb dX10_digest_66 rfl (lv_at hl 0 rfl) ?_
      refine lv_iload_n hx hb dX10_digest_67 rfl (lv_at hl 1 rfl) ?_
      refine lv_iload_n hx hb dX10_digest_68 rfl (lv_at hl 2 rfl) ?_
      obtain ⟨u9, eu9, hf⟩ := bnd hf
      refine zk_callBI (As := [.int v1, .int v2]) (rest := [.ref (q 0)]) (W1 := wX10 G q s0_0 s0_1 s0_2 s0_3 s0_4 s0_5 s0_6 s0_7 s0_8 s0_9 s0_10 u9.2.1 u9.2.2.1 u9.2.2.2.1 u9.2.2.2.2.1 u9.2.2.2.2.2 s0_16 s0_17 s0_18 s0_19 s0_20 s0_21 s0_22 s0_23 s0_24 s0_25 s0_26 s0_27 s0_28 s0_29) C hW hl mvX10_140 (c_X10_listenerOf l G q s0_0 s0_1 s0_2 s0_3 s0_4 s0_5 s0_6 s0_7 s0_8 s0_9 s0_10 s0_11 s0_12 s0_13 s0_14 s0_15 s0_16 s0_17 s0_18 s0_19 s0_20 s0_21 s0_22 s0_23 s0_24 s0_25 s0_26 s0_27 s0_28 s0_29 v1 v2 u9 eu9) ⟨(Nat.le_of_ble_eq_true rfl), (Nat.le_of_ble_eq_true rfl)⟩ ⟨rfl, rfl⟩ ([]) ([]) zE1 rfl rfl (Nat.le_of_ble_eq_true rfl) zE1r dX10_digest_69 ⟨Nat.zero_le _, Nat.zero_le _⟩ (fun H locs hW => ?_)
      refine lv_i2l (v := (Int32.toInt64 u9.1)) hx hb dX10_digest_72 rfl ?_
      obtain ⟨u10, eu10, hf⟩ := bnd hf
      refine zk_callBV (As := [.long (Int32.toInt64 u9.1)]) (rest := []) (W1 := wX10 G q s0_0 s0_1 s0_2 s0_3 s0_4 s0_5 s0_6 s0_7 s0_8 s0_9 s0_10 u9.2.1 u9.2.2.1 u9.2.2.2.1 u9.2.2.2.2.1 u9.2.2.2.2.2 s0_16 s0_17 s0_18 s0_19 s0_20 s0_21 s0_22 s0_23 s0_24 s0_25 s0_26 s0_27 s0_28 u10) C hW hl mvX10_229 (c_X10_say l G q s0_0 s0_1 s0_2 s0_3 s0_4 s0_5 s0_6 s0_7 s0_8 s0_9 s0_10 u9.2.1 u9.2.2.1 u9.2.2.2.1 u9.2.2.2.2.1 u9.2.2.2.2.2 s0_16 s0_17 s0_18 s0_19 s0_20 s0_21 s0_22 s0_23 s0_24 s0_25 s0_26 s0_27 s0_28 s0_29 (Int32.toInt64 u9.1) u10 eu10) ⟨(Nat.le_of_ble_eq_true rfl), (Nat.le_of_ble_eq_true rfl)⟩ ⟨rfl, rfl⟩ ([]) ([]) zE1 rfl rfl (Nat.le_of_ble_eq_true rfl) zE1r dX10_digest_73 ⟨Nat.zero_le _, Nat.zero_le _⟩ (fun H locs hW => ?_)
      refine lv_iinc (v := (v2 + 1)) (lv' := [(2, .int (v2 + 1)), (0, .ref (q 0)), (1, .int v1)]) hx hb dX10_digest_76 hl (k := 2) rfl rfl (by decide) rfl (fun ls hl => ?_)
      refine lv_goto (tgt := 59) hx hb dX10_digest_79 (by decide) ?_
      exact ih (v2 + 1) u9.2.1 u9.2.2.1 u9.2.2.2.1 u9.2.2.2.2.1 u9.2.2.2.2.2 u10 hf _ _ _ hW (lv_sub hl [1, 2, 0] rfl)
set_option maxHeartbeats 4000000 in
set_option maxRecDepth 100000 in
theorem w_X10_digest_49 {p : Program} {e : Env} {s : State} {m : MethodId} {args : Array Value} {below : List Frame} {meth : Method} {c : Code} {A : Nat → Prop} (l : Launch) (G : GG) (q : Nat → Nat) (s0_0 : (Nat → Int32)) (s0_1 : Int32) (s0_2 : Int32) (s0_3 : Int32) (s0_4 : Int32) (s0_5 : Int32) (s0_6 : Int32) (s0_7 : Int32) (s0_8 : (Nat → Int32)) (s0_9 : Int32) (s0_10 : (Nat → Int32)) (s0_16 : Int32) (s0_17 : (Nat → Int32)) (s0_18 : Int32) (s0_19 : (Nat → Int32)) (s0_20 : (Nat → Int32)) (s0_21 : Int32) (s0_22 : Int32) (s0_23 : Int32) (s0_24 : Int32) (s0_25 : Int32) (s0_26 : Int32) (s0_27 : (Nat → Int32)) (s0_28 : (Nat → Int32)) (out : Int64 × Int32 × Bool × Int32 × Int32 × Bool × (Nat → Int32) × (Nat → Int32) × Int64) (C : CX p s m args meth c cX10_digest 3 RX10 (some .long) "digest") {K : Int32 → Int32 → Bool → Int32 → Int32 → Bool → Int64 → Option (Int64 × Int32 × Bool × Int32 × Int32 × Bool × (Nat → Int32) × (Nat → Int32) × Int64)} (hK : ∀ (v1 : Int32) (s0_11 : Int32) (s0_12 : Bool) (s0_13 : Int32) (s0_14 : Int32) (s0_15 : Bool) (s0_29 : Int64) , K v1 s0_11 s0_12 s0_13 s0_14 s0_15 s0_29 = some out → ∀ (H : Heap) (locs : List Loc) (ls : Array Slot), KW G A s (wX10 G q s0_0 s0_1 s0_2 s0_3 s0_4 s0_5 s0_6 s0_7 s0_8 s0_9 s0_10 s0_11 s0_12 s0_13 s0_14 s0_15 s0_16 s0_17 s0_18 s0_19 s0_20 s0_21 s0_22 s0_23 s0_24 s0_25 s0_26 s0_27 s0_28 s0_29) H locs → lv_has ls 3 [(0, .ref (q 0))] → W p l e (zR 5 119) s m args below meth c H locs 0 0 (QL G A out.1 (wX10 G q s0_0 s0_1 s0_2 s0_3 s0_4 s0_5 s0_6 s0_7 s0_8 s0_9 s0_10 out.2.1 out.2.2.1 out.2.2.2.1 out.2.2.2.2.1 out.2.2.2.2.2.1 s0_16 out.2.2.2.2.2.2.1 s0_18 s0_19 out.2.2.2.2.2.2.2.1 s0_21 s0_22 s0_23 s0_24 s0_25 s0_26 s0_27 s0_28 out.2.2.2.2.2.2.2.2) below args s) (F0 m 88 ls [])) :
    ∀ (n : Nat) (v1 : Int32) (s0_11 : Int32) (s0_12 : Bool) (s0_13 : Int32) (s0_14 : Int32) (s0_15 : Bool) (s0_29 : Int64) , lp_X10_digest_49 s0_4 s0_5 s0_8 s0_9 s0_10 K n v1 s0_11 s0_12 s0_13 s0_14 s0_15 s0_29 = some out → ∀ (H : Heap) (locs : List Loc) (ls : Array Slot), KW G A s (wX10 G q s0_0 s0_1 s0_2 s0_3 s0_4 s0_5 s0_6 s0_7 s0_8 s0_9 s0_10 s0_11 s0_12 s0_13 s0_14 s0_15 s0_16 s0_17 s0_18 s0_19 s0_20 s0_21 s0_22 s0_23 s0_24 s0_25 s0_26 s0_27 s0_28 s0_29) H locs → lv_has ls 3 [(0, .ref (q 0)), (1, .int v1)] → W p l e (zR 5 119) s m args below meth c H locs 0 0 (QL G A out.1 (wX10 G q s0_0 s0_1 s0_2 s0_3 s0_4 s0_5 s0_6 s0_7 s0_8 s0_9 s0_10 out.2.1 out.2.2.1 out.2.2.2.1 out.2.2.2.2.1 out.2.2.2.2.2.1 s0_16 out.2.2.2.2.2.2.1 s0_18 s0_19 out.2.2.2.2.2.2.2.1 s0_21 s0_22 s0_23 s0_24 s0_25 s0_26 s0_27 s0_28 out.2.2.2.2.2.2.2.2) below args s) (F0 m 49 ls []) := by
  have hx := C.1
  have hb := C.2.1
  intro n
  induction n with
  | zero => intro v1 s0_11 s0_12 s0_13 s0_14 s0_15 s0_29 hf; exact nomatch (show (none : Option (Int64 × Int32 × Bool × Int32 × Int32 × Bool × (Nat → Int32) × (Nat → Int32) × Int64)) = some out from hf)
  | succ n ih =>
    intro v1 s0_11 s0_12 s0_13 s0_14 s0_15 s0_29 hf H locs ls hW hl
    rw [lp_X10_digest_49] at hf
    refine lv_iload_n hx hb dX10_digest_49 rfl (lv_at hl 1 rfl) ?_
    refine lv_aload_n hx hb dX10_digest_50 rfl (lv_at hl 0 rfl) ?_
    refine zk_get C hW fgX10_78 0 rfl rfl dX10_digest_51 ?_
    refine lv_icmp_ge (tgt := 88) hx hb dX10_digest_54 (by decide) (fun c7 => ?_) (fun c7 => ?_)
    · have hf := ipos c7 hf
      exact hK v1 s0_11 s0_12 s0_13 s0_14 s0_15 s0_29 hf _ _ _ hW (lv_sub hl [0] rfl)
    · have hf := ineg c7 hf
      refine lv_iconst (v := 0) hx hb dX10_digest_57 (by decide) ?_
      refine lv_istore_n (lv' := [(2, .int 0), (0, .ref (q 0)), (1, .int v1)]) hx hb dX10_digest_58 rfl hl (by decide) rfl (fun ls hl => ?_)
      refine w_X10_digest_59 l G q v1 s0_0 s0_1 s0_2 s0_3 s0_4 s0_5 s0_6 s0_7 s0_8 s0_9 s0_10 s0_16 s0_17 s0_18 s0_19 s0_20 s0_21 s0_22 s0_23 s0_24 s0_25 s0_26 s0_27 s0_28 out C (fun w11_v2 w11_s0_11 w11_s0_12 w11_s0_13 w11_s0_14 w11_s0_15 w11_s0_29 hf H locs ls hW hl => ?_) FU 0 s0_11 s0_12 s0_13 s0_14 s0_15 s0_29 hf _ _ _ hW (lv_sub hl [1, 2, 0] rfl)
      refine lv_iinc (v := (v1 + 1)) (lv' := [(1, .int (v1 + 1)), (0, .ref (q 0))]) hx hb dX10_digest_82 hl (k := 1) rfl rfl (by decide) rfl (fun ls hl => ?_)
      refine lv_goto (tgt := 49) hx hb dX10_digest_85 (by decide) ?_
      exact ih (v1 + 1) w11_s0_11 w11_s0_12 w11_s0_13 w11_s0_14 w11_s0_15 w11_s0_29 hf _ _ _ hW (lv_sub hl [1, 0] rfl)
set_option maxHeartbeats 4000000 in
set_option maxRecDepth 100000 in
theorem w_X10_digest_127 {p : Program} {e : Env} {s : State} {m : MethodId} {args : Array Value} {below : List Frame} {meth : Method} {c : Code} {A : Nat → Prop} (l : Launch) (G : GG) (q : Nat → Nat) (s0_0 : (Nat → Int32)) (s0_1 : Int32) (s0_2 : Int32) (s0_3 : Int32) (s0_4 : Int32) (s0_5 : Int32) (s0_6 : Int32) (s0_7 : Int32) (s0_8 : (Nat → Int32)) (s0_9 : Int32) (s0_10 : (Nat → Int32)) (s0_11 : Int32) (s0_12 : Bool) (s0_13 : Int32) (s0_14 : Int32) (s0_15 : Bool) (s0_16 : Int32) (s0_17 : (Nat → Int32)) (s0_18 : Int32) (s0_19 : (Nat → Int32)) (s0_20 : (Nat → Int32)) (s0_21 : Int32) (s0_22 : Int32) (s0_23 : Int32) (s0_24 : Int32) (s0_25 : Int32) (s0_26 : Int32) (s0_27 : (Nat → Int32)) (s0_28 : (Nat → Int32)) (out : Int64 × Int32 × Bool × Int32 × Int32 × Bool × (Nat → Int32) × (Nat → Int32) × Int64) (C : CX p s m args meth c cX10_digest 3 RX10 (some .long) "digest") {K : Int32 → Int64 → Option (Int64 × Int32 × Bool × Int32 × Int32 × Bool × (Nat → Int32) × (Nat → Int32) × Int64)} (hK : ∀ (v1 : Int32) (s0_29 : Int64) , K v1 s0_29 = some out → ∀ (H : Heap) (locs : List Loc) (ls : Array Slot), KW G A s (wX10 G q s0_0 s0_1 s0_2 s0_3 s0_4 s0_5 s0_6 s0_7 s0_8 s0_9 s0_10 s0_11 s0_12 s0_13 s0_14 s0_15 s0_16 s0_17 s0_18 s0_19 s0_20 s0_21 s0_22 s0_23 s0_24 s0_25 s0_26 s0_27 s0_28 s0_29) H locs → lv_has ls 3 [(0, .ref (q 0))] → W p l e (zR 5 119) s m args below meth c H locs 0 0 (QL G A out.1 (wX10 G q s0_0 s0_1 s0_2 s0_3 s0_4 s0_5 s0_6 s0_7 s0_8 s0_9 s0_10 out.2.1 out.2.2.1 out.2.2.2.1 out.2.2.2.2.1 out.2.2.2.2.2.1 s0_16 out.2.2.2.2.2.2.1 s0_18 s0_19 out.2.2.2.2.2.2.2.1 s0_21 s0_22 s0_23 s0_24 s0_25 s0_26 s0_27 s0_28 out.2.2.2.2.2.2.2.2) below args s) (F0 m 152 ls [])) :
    ∀ (n : Nat) (v1 : Int32) (s0_29 : Int64) , lp_X10_digest_127 s0_0 s0_1 K n v1 s0_29 = some out → ∀ (H : Heap) (locs : List Loc) (ls : Array Slot), KW G A s (wX10 G q s0_0 s0_1 s0_2 s0_3 s0_4 s0_5 s0_6 s0_7 s0_8 s0_9 s0_10 s0_11 s0_12 s0_13 s0_14 s0_15 s0_16 s0_17 s0_18 s0_19 s0_20 s0_21 s0_22 s0_23 s0_24 s0_25 s0_26 s0_27 s0_28 s0_29) H locs → lv_has ls 3 [(0, .ref (q 0)), (1, .int v1)] → W p l e (zR 5 119) s m args below meth c H locs 0 0 (QL G A out.1 (wX10 G q s0_0 s0_1 s0_2 s0_3 s0_4 s0_5 s0_6 s0_7 s0_8 s0_9 s0_10 out.2.1 out.2.2.1 out.2.2.2.1 out.2.2.2.2.1 out.2.2.2.2.2.1 s0_16 out.2.2.2.2.2.2.1 s0_18 s0_19 out.2.2.2.2.2.2.2.1 s0_21 s0_22 s0_23 s0_24 s0_25 s0_26 s0_27 s0_28 out.2.2.2.2.2.2.2.2) below args s) (F0 m 127 ls []) := by
  have hx := C.1
  have hb := C.2.1
  intro n
  induction n with
  | zero => intro v1 s0_29 hf; exact nomatch (show (none : Option (Int64 × Int32 × Bool × Int32 × Int32 × Bool × (Nat → Int32) × (Nat → Int32) × Int64)) = some out from hf)
  | succ n ih =>
    intro v1 s0_29 hf H locs ls hW hl
    rw [lp_X10_digest_127] at hf
    refine lv_iload_n hx hb dX10_digest_127 rfl (lv_at hl 1 rfl) ?_
    refine lv_aload_n hx hb dX10_digest_128 rfl (lv_at hl 0 rfl) ?_
    refine zk_get C hW fgX10_44 0 rfl rfl dX10_digest_129 ?_
    refine lv_icmp_ge (tgt := 152) hx hb dX10_digest_132 (by decide) (fun c16 => ?_) (fun c16 => ?_)
    · have hf := ipos c16 hf
      exact hK v1 s0_29 hf _ _ _ hW (lv_sub hl [0] rfl)
    · have hf := ineg c16 hf
      refine lv_aload_n hx hb dX10_digest_135 rfl (lv_at hl 0 rfl) ?_
      refine lv_aload_n hx hb dX10_digest_136 rfl (lv_at hl 0 rfl) ?_
      refine zk_get C hW fgX10_7 0 rfl rfl dX10_digest_137 ?_
      refine lv_iload_n hx hb dX10_digest_140 rfl (lv_at hl 1 rfl) ?_
      obtain ⟨g17, hf⟩ := grd hf
      refine zk_iald C hW 1 g17 rfl dX10_digest_141 ?_
      refine lv_i2l (v := (Int32.toInt64 (s0_0 (Int32.toNatClampNeg v1)))) hx hb dX10_digest_142 rfl ?_
      obtain ⟨u18, eu18, hf⟩ := bnd hf
      refine zk_callBV (As := [.long (Int32.toInt64 (s0_0 (Int32.toNatClampNeg v1)))]) (rest := []) (W1 := wX10 G q s0_0 s0_1 s0_2 s0_3 s0_4 s0_5 s0_6 s0_7 s0_8 s0_9 s0_10 s0_11 s0_12 s0_13 s0_14 s0_15 s0_16 s0_17 s0_18 s0_19 s0_20 s0_21 s0_22 s0_23 s0_24 s0_25 s0_26 s0_27 s0_28 u18) C hW hl mvX10_229 (c_X10_say l G q s0_0 s0_1 s0_2 s0_3 s0_4 s0_5 s0_6 s0_7 s0_8 s0_9 s0_10 s0_11 s0_12 s0_13 s0_14 s0_15 s0_16 s0_17 s0_18 s0_19 s0_20 s0_21 s0_22 s0_23 s0_24 s0_25 s0_26 s0_27 s0_28 s0_29 (Int32.toInt64 (s0_0 (Int32.toNatClampNeg v1))) u18 eu18) ⟨(Nat.le_of_ble_eq_true rfl), (Nat.le_of_ble_eq_true rfl)⟩ ⟨rfl, rfl⟩ ([]) ([]) zE1 rfl rfl (Nat.le_of_ble_eq_true rfl) zE1r dX10_digest_143 ⟨Nat.zero_le _, Nat.zero_le _⟩ (fun H locs hW => ?_)
      refine lv_iinc (v := (v1 + 1)) (lv' := [(1, .int (v1 + 1)), (0, .ref (q 0))]) hx hb dX10_digest_146 hl (k := 1) rfl rfl (by decide) rfl (fun ls hl => ?_)
      refine lv_goto (tgt := 127) hx hb dX10_digest_149 (by decide) ?_
      exact ih (v1 + 1) u18 hf _ _ _ hW (lv_sub hl [1, 0] rfl)
set_option maxHeartbeats 4000000 in
set_option maxRecDepth 100000 in
theorem w_X10_digest_154 {p : Program} {e : Env} {s : State} {m : MethodId} {args : Array Value} {below : List Frame} {meth : Method} {c : Code} {A : Nat → Prop} (l : Launch) (G : GG) (q : Nat → Nat) (s0_0 : (Nat → Int32)) (s0_1 : Int32) (s0_2 : Int32) (s0_3 : Int32) (s0_4 : Int32) (s0_5 : Int32) (s0_6 : Int32) (s0_7 : Int32) (s0_8 : (Nat → Int32)) (s0_9 : Int32) (s0_10 : (Nat → Int32)) (s0_16 : Int32) (s0_17 : (Nat → Int32)) (s0_18 : Int32) (s0_19 : (Nat → Int32)) (s0_20 : (Nat → Int32)) (s0_21 : Int32) (s0_22 : Int32) (s0_23 : Int32) (s0_24 : Int32) (s0_25 : Int32) (s0_26 : Int32) (s0_27 : (Nat → Int32)) (s0_28 : (Nat → Int32)) (out : Int64 × Int32 × Bool × Int32 × Int32 × Bool × (Nat → Int32) × (Nat → Int32) × Int64) (C : CX p s m args meth c cX10_digest 3 RX10 (some .long) "digest") {K : Int32 → Int32 → Bool → Int32 → Int32 → Bool → Int64 → Option (Int64 × Int32 × Bool × Int32 × Int32 × Bool × (Nat → Int32) × (Nat → Int32) × Int64)} (hK : ∀ (v1 : Int32) (s0_11 : Int32) (s0_12 : Bool) (s0_13 : Int32) (s0_14 : Int32) (s0_15 : Bool) (s0_29 : Int64) , K v1 s0_11 s0_12 s0_13 s0_14 s0_15 s0_29 = some out → ∀ (H : Heap) (locs : List Loc) (ls : Array Slot), KW G A s (wX10 G q s0_0 s0_1 s0_2 s0_3 s0_4 s0_5 s0_6 s0_7 s0_8 s0_9 s0_10 s0_11 s0_12 s0_13 s0_14 s0_15 s0_16 s0_17 s0_18 s0_19 s0_20 s0_21 s0_22 s0_23 s0_24 s0_25 s0_26 s0_27 s0_28 s0_29) H locs → lv_has ls 3 [(0, .ref (q 0))] → W p l e (zR 5 119) s m args below meth c H locs 0 0 (QL G A out.1 (wX10 G q s0_0 s0_1 s0_2 s0_3 s0_4 s0_5 s0_6 s0_7 s0_8 s0_9 s0_10 out.2.1 out.2.2.1 out.2.2.2.1 out.2.2.2.2.1 out.2.2.2.2.2.1 s0_16 out.2.2.2.2.2.2.1 s0_18 s0_19 out.2.2.2.2.2.2.2.1 s0_21 s0_22 s0_23 s0_24 s0_25 s0_26 s0_27 s0_28 out.2.2.2.2.2.2.2.2) below args s) (F0 m 176 ls [])) :
    ∀ (n : Nat) (v1 : Int32) (s0_11 : Int32) (s0_12 : Bool) (s0_13 : Int32) (s0_14 : Int32) (s0_15 : Bool) (s0_29 : Int64) , lp_X10_digest_154 s0_1 s0_4 s0_5 s0_6 s0_7 s0_8 s0_9 s0_10 s0_16 s0_18 K n v1 s0_11 s0_12 s0_13 s0_14 s0_15 s0_29 = some out → ∀ (H : Heap) (locs : List Loc) (ls : Array Slot), KW G A s (wX10 G q s0_0 s0_1 s0_2 s0_3 s0_4 s0_5 s0_6 s0_7 s0_8 s0_9 s0_10 s0_11 s0_12 s0_13 s0_14 s0_15 s0_16 s0_17 s0_18 s0_19 s0_20 s0_21 s0_22 s0_23 s0_24 s0_25 s0_26 s0_27 s0_28 s0_29) H locs → lv_has ls 3 [(0, .ref (q 0)), (1, .int v1)] → W p l e (zR 5 119) s m args below meth c H locs 0 0 (QL G A out.1 (wX10 G q s0_0 s0_1 s0_2 s0_3 s0_4 s0_5 s0_6 s0_7 s0_8 s0_9 s0_10 out.2.1 out.2.2.1 out.2.2.2.1 out.2.2.2.2.1 out.2.2.2.2.2.1 s0_16 out.2.2.2.2.2.2.1 s0_18 s0_19 out.2.2.2.2.2.2.2.1 s0_21 s0_22 s0_23 s0_24 s0_25 s0_26 s0_27 s0_28 out.2.2.2.2.2.2.2.2) below args s) (F0 m 154 ls []) := by
  have hx := C.1
  have hb := C.2.1
  intro n
  induction n with
  | zero => intro v1 s0_11 s0_12 s0_13 s0_14 s0_15 s0_29 hf; exact nomatch (show (none : Option (Int64 × Int32 × Bool × Int32 × Int32 × Bool × (Nat → Int32) × (Nat → Int32) × Int64)) = some out from hf)
  | succ n ih =>
    intro v1 s0_11 s0_12 s0_13 s0_14 s0_15 s0_29 hf H locs ls hW hl
    rw [lp_X10_digest_154] at hf
    refine lv_iload_n hx hb dX10_digest_154 rfl (lv_at hl 1 rfl) ?_
    refine lv_bipush (v := 9) hx hb dX10_digest_155 (by decide) ?_
    refine lv_icmp_ge (tgt := 176) hx hb dX10_digest_157 (by decide) (fun c20 => ?_) (fun c20 => ?_)
    · have hf := ipos c20 hf
      exact hK v1 s0_11 s0_12 s0_13 s0_14 s0_15 s0_29 hf _ _ _ hW (lv_sub hl [0] rfl)
    · have hf := ineg c20 hf
      refine lv_aload_n hx hb dX10_digest_160 rfl (lv_at hl 0 rfl) ?_
      refine lv_aload_n hx hb dX10_digest_161 rfl (lv_at hl 0 rfl) ?_
      refine lv_iload_n hx hb dX10_digest_162 rfl (lv_at hl 1 rfl) ?_
      obtain ⟨u21, eu21, hf⟩ := bnd hf
      refine zk_callBI (As := [.int v1]) (rest := [.ref (q 0)]) (W1 := wX10 G q s0_0 s0_1 s0_2 s0_3 s0_4 s0_5 s0_6 s0_7 s0_8 s0_9 s0_10 u21.2.1 u21.2.2.1 u21.2.2.2.1 u21.2.2.2.2.1 u21.2.2.2.2.2 s0_16 s0_17 s0_18 s0_19 s0_20 s0_21 s0_22 s0_23 s0_24 s0_25 s0_26 s0_27 s0_28 s0_29) C hW hl mvX10_218 (c_X10_countOf l G q s0_0 s0_1 s0_2 s0_3 s0_4 s0_5 s0_6 s0_7 s0_8 s0_9 s0_10 s0_11 s0_12 s0_13 s0_14 s0_15 s0_16 s0_17 s0_18 s0_19 s0_20 s0_21 s0_22 s0_23 s0_24 s0_25 s0_26 s0_27 s0_28 s0_29 v1 u21 eu21) ⟨(Nat.le_of_ble_eq_true rfl), (Nat.le_of_ble_eq_true rfl)⟩ ⟨rfl, rfl⟩ ([]) ([]) zE1 rfl rfl (Nat.le_of_ble_eq_true rfl) zE1r dX10_digest_163 ⟨Nat.zero_le _, Nat.zero_le _⟩ (fun H locs hW => ?_)
      refine lv_i2l (v := (Int32.toInt64 u21.1)) hx hb dX10_digest_166 rfl ?_
      obtain ⟨u22, eu22, hf⟩ := bnd hf
      refine zk_callBV (As := [.long (Int32.toInt64 u21.1)]) (rest := []) (W1 := wX10 G q s0_0 s0_1 s0_2 s0_3 s0_4 s0_5 s0_6 s0_7 s0_8 s0_9 s0_10 u21.2.1 u21.2.2.1 u21.2.2.2.1 u21.2.2.2.2.1 u21.2.2.2.2.2 s0_16 s0_17 s0_18 s0_19 s0_20 s0_21 s0_22 s0_23 s0_24 s0_25 s0_26 s0_27 s0_28 u22) C hW hl mvX10_229 (c_X10_say l G q s0_0 s0_1 s0_2 s0_3 s0_4 s0_5 s0_6 s0_7 s0_8 s0_9 s0_10 u21.2.1 u21.2.2.1 u21.2.2.2.1 u21.2.2.2.2.1 u21.2.2.2.2.2 s0_16 s0_17 s0_18 s0_19 s0_20 s0_21 s0_22 s0_23 s0_24 s0_25 s0_26 s0_27 s0_28 s0_29 (Int32.toInt64 u21.1) u22 eu22) ⟨(Nat.le_of_ble_eq_true rfl), (Nat.le_of_ble_eq_true rfl)⟩ ⟨rfl, rfl⟩ ([]) ([]) zE1 rfl rfl (Nat.le_of_ble_eq_true rfl) zE1r dX10_digest_167 ⟨Nat.zero_le _, Nat.zero_le _⟩ (fun H locs hW => ?_)
      refine lv_iinc (v := (v1 + 1)) (lv' := [(1, .int (v1 + 1)), (0, .ref (q 0))]) hx hb dX10_digest_170 hl (k := 1) rfl rfl (by decide) rfl (fun ls hl => ?_)
      refine lv_goto (tgt := 154) hx hb dX10_digest_173 (by decide) ?_
      exact ih (v1 + 1) u21.2.1 u21.2.2.1 u21.2.2.2.1 u21.2.2.2.2.1 u21.2.2.2.2.2 u22 hf _ _ _ hW (lv_sub hl [1, 0] rfl)
set_option maxHeartbeats 4000000 in
set_option maxRecDepth 100000 in
theorem c_X10_digest (l : Launch) (G : GG) (q : Nat → Nat) (m0 : (Nat → Int32)) (m1 : Int32) (m2 : Int32) (m3 : Int32) (m4 : Int32) (m5 : Int32) (m6 : Int32) (m7 : Int32) (m8 : (Nat → Int32)) (m9 : Int32) (m10 : (Nat → Int32)) (m11 : Int32) (m12 : Bool) (m13 : Int32) (m14 : Int32) (m15 : Bool) (m16 : Int32) (m17 : (Nat → Int32)) (m18 : Int32) (m19 : (Nat → Int32)) (m20 : (Nat → Int32)) (m21 : Int32) (m22 : Int32) (m23 : Int32) (m24 : Int32) (m25 : Int32) (m26 : Int32) (m27 : (Nat → Int32)) (m28 : (Nat → Int32)) (m29 : Int64) (out : Int64 × Int32 × Bool × Int32 × Int32 × Bool × (Nat → Int32) × (Nat → Int32) × Int64) (hf : f_X10_digest m0 m1 m4 m5 m6 m7 m8 m9 m10 m11 m12 m13 m14 m15 m16 m17 m18 m19 m20 = some out) : CtL G l yX10_digest (Cond.code yX10_digest cX10_digest 3 (some .long) :: WL) (zR 5 119) [.ref (q 0)] (wX10 G q m0 m1 m2 m3 m4 m5 m6 m7 m8 m9 m10 m11 m12 m13 m14 m15 m16 m17 m18 m19 m20 m21 m22 m23 m24 m25 m26 m27 m28 m29) out.1 (wX10 G q m0 m1 m2 m3 m4 m5 m6 m7 m8 m9 m10 out.2.1 out.2.2.1 out.2.2.2.1 out.2.2.2.2.1 out.2.2.2.2.2.1 m16 out.2.2.2.2.2.2.1 m18 m19 out.2.2.2.2.2.2.2.1 m21 m22 m23 m24 m25 m26 m27 m28 out.2.2.2.2.2.2.2.2) := by
  refine CtL.mk (cc := cX10_digest) (nL := 3) (rt := (some .long)) (own := RX10) (nm := "digest") (by decide) rfl rfl (Nat.le_of_ble_eq_true rfl) ?_
  intro p e s m below meth c A ls C hW hl
  have hx := C.1
  have hb := C.2.1
  have hl : lv_has ls 3 [(0, .ref (q 0))] := hl
  unfold f_X10_digest at hf
  refine lv_aload_n hx hb dX10_digest_0 rfl (lv_at hl 0 rfl) ?_
  refine lv_ldc2 hx hb C.2.2.2.1 (C.2.2.2.2.1 _ klX10_227) dX10_digest_1 ?_
  refine zk_putL (W1 := wX10 G q m0 m1 m2 m3 m4 m5 m6 m7 m8 m9 m10 m11 m12 m13 m14 m15 m16 m17 m18 m19 m20 m21 m22 m23 m24 m25 m26 m27 m28 953) C hW fpX10_223 0 rfl rfl (Nat.le_of_ble_eq_true rfl) rfl dX10_digest_4 (fun H locs hW => ?_)
  refine lv_iconst (v := 0) hx hb dX10_digest_7 (by decide) ?_
  refine lv_istore_n (lv' := [(1, .int 0), (0, .ref (q 0))]) hx hb dX10_digest_8 rfl hl (by decide) rfl (fun ls hl => ?_)
  refine w_X10_digest_9 l G q m0 m1 m2 m3 m4 m5 m6 m7 m8 m9 m10 m16 m17 m18 m19 m20 m21 m22 m23 m24 m25 m26 m27 m28 out C (fun w6_v1 w6_s0_11 w6_s0_12 w6_s0_13 w6_s0_14 w6_s0_15 w6_s0_29 hf H locs ls hW hl => ?_) FU 0 m11 m12 m13 m14 m15 953 hf _ _ _ hW (lv_sub hl [1, 0] rfl)
  refine lv_iconst (v := 0) hx hb dX10_digest_47 (by decide) ?_
  refine lv_istore_n (lv' := [(1, .int 0), (0, .ref (q 0))]) hx hb dX10_digest_48 rfl hl (by decide) rfl (fun ls hl => ?_)
  refine w_X10_digest_49 l G q m0 m1 m2 m3 m4 m5 m6 m7 m8 m9 m10 m16 m17 m18 m19 m20 m21 m22 m23 m24 m25 m26 m27 m28 out C (fun w12_v1 w12_s0_11 w12_s0_12 w12_s0_13 w12_s0_14 w12_s0_15 w12_s0_29 hf H locs ls hW hl => ?_) FU 0 w6_s0_11 w6_s0_12 w6_s0_13 w6_s0_14 w6_s0_15 w6_s0_29 hf _ _ _ hW (lv_sub hl [1, 0] rfl)
  refine lv_aload_n hx hb dX10_digest_88 rfl (lv_at hl 0 rfl) ?_
  refine lv_aload_n hx hb dX10_digest_89 rfl (lv_at hl 0 rfl) ?_
  obtain ⟨u13, eu13, hf⟩ := bnd hf
  refine zk_callBI (As := []) (rest := [.ref (q 0)]) (W1 := wX10 G q m0 m1 m2 m3 m4 m5 m6 m7 m8 m9 m10 w12_s0_11 w12_s0_12 w12_s0_13 w12_s0_14 w12_s0_15 m16 m17 m18 m19 m20 m21 m22 m23 m24 m25 m26 m27 m28 w12_s0_29) C hW hl mvX10_173 (c_X10_whichOf l G q m0 m1 m2 m3 m4 m5 m6 m7 m8 m9 m10 w12_s0_11 w12_s0_12 w12_s0_13 w12_s0_14 w12_s0_15 m16 m17 m18 m19 m20 m21 m22 m23 m24 m25 m26 m27 m28 w12_s0_29 u13 eu13) ⟨(Nat.le_of_ble_eq_true rfl), (Nat.le_of_ble_eq_true rfl)⟩ ⟨rfl, rfl⟩ ([]) ([]) zE1 rfl rfl (Nat.le_of_ble_eq_true rfl) zE1r dX10_digest_90 ⟨Nat.zero_le _, Nat.zero_le _⟩ (fun H locs hW => ?_)
  refine lv_i2l (v := (Int32.toInt64 u13)) hx hb dX10_digest_93 rfl ?_
  obtain ⟨u14, eu14, hf⟩ := bnd hf
  refine zk_callBV (As := [.long (Int32.toInt64 u13)]) (rest := []) (W1 := wX10 G q m0 m1 m2 m3 m4 m5 m6 m7 m8 m9 m10 w12_s0_11 w12_s0_12 w12_s0_13 w12_s0_14 w12_s0_15 m16 m17 m18 m19 m20 m21 m22 m23 m24 m25 m26 m27 m28 u14) C hW hl mvX10_229 (c_X10_say l G q m0 m1 m2 m3 m4 m5 m6 m7 m8 m9 m10 w12_s0_11 w12_s0_12 w12_s0_13 w12_s0_14 w12_s0_15 m16 m17 m18 m19 m20 m21 m22 m23 m24 m25 m26 m27 m28 w12_s0_29 (Int32.toInt64 u13) u14 eu14) ⟨(Nat.le_of_ble_eq_true rfl), (Nat.le_of_ble_eq_true rfl)⟩ ⟨rfl, rfl⟩ ([]) ([]) zE1 rfl rfl (Nat.le_of_ble_eq_true rfl) zE1r dX10_digest_94 ⟨Nat.zero_le _, Nat.zero_le _⟩ (fun H locs hW => ?_)
  refine lv_aload_n hx hb dX10_digest_97 rfl (lv_at hl 0 rfl) ?_
  refine zk_get C hW fgX10_69 0 rfl rfl dX10_digest_98 ?_
  refine lv_if_le (tgt := 125) hx hb dX10_digest_101 (by decide) (fun c15 => ?_) (fun c15 => ?_)
  · have hf := ipos c15 hf
    refine lv_iconst (v := 0) hx hb dX10_digest_125 (by decide) ?_
    refine lv_istore_n (lv' := [(1, .int 0), (0, .ref (q 0))]) hx hb dX10_digest_126 rfl hl (by decide) rfl (fun ls hl => ?_)
    refine w_X10_digest_127 l G q m0 m1 m2 m3 m4 m5 m6 m7 m8 m9 m10 w12_s0_11 w12_s0_12 w12_s0_13 w12_s0_14 w12_s0_15 m16 m17 m18 m19 m20 m21 m22 m23 m24 m25 m26 m27 m28 out C (fun w19_v1 w19_s0_29 hf H locs ls hW hl => ?_) FU 0 u14 hf _ _ _ hW (lv_sub hl [1, 0] rfl)
    refine lv_iconst (v := 0) hx hb dX10_digest_152 (by decide) ?_
    refine lv_istore_n (lv' := [(1, .int 0), (0, .ref (q 0))]) hx hb dX10_digest_153 rfl hl (by decide) rfl (fun ls hl => ?_)
    refine w_X10_digest_154 l G q m0 m1 m2 m3 m4 m5 m6 m7 m8 m9 m10 m16 m17 m18 m19 m20 m21 m22 m23 m24 m25 m26 m27 m28 out C (fun w23_v1 w23_s0_11 w23_s0_12 w23_s0_13 w23_s0_14 w23_s0_15 w23_s0_29 hf H locs ls hW hl => ?_) FU 0 w12_s0_11 w12_s0_12 w12_s0_13 w12_s0_14 w12_s0_15 w19_s0_29 hf _ _ _ hW (lv_sub hl [1, 0] rfl)
    refine lv_aload_n hx hb dX10_digest_176 rfl (lv_at hl 0 rfl) ?_
    refine zk_get C hW fgX10_223 0 rfl rfl dX10_digest_177 ?_
    obtain rfl := Option.some.inj hf
    exact zk_lret C hW rfl dX10_digest_180
  · have hf := ineg c15 hf
    refine lv_aload_n hx hb dX10_digest_104 rfl (lv_at hl 0 rfl) ?_
    refine lv_aload_n hx hb dX10_digest_105 rfl (lv_at hl 0 rfl) ?_
    obtain ⟨u24, eu24, hf⟩ := bnd hf
    refine zk_callBI (As := []) (rest := [.ref (q 0)]) (W1 := wX10 G q m0 m1 m2 m3 m4 m5 m6 m7 m8 m9 m10 u24.2.1 u24.2.2.1 u24.2.2.2.1 u24.2.2.2.2.1 u24.2.2.2.2.2.1 m16 m17 m18 m19 u24.2.2.2.2.2.2 m21 m22 m23 m24 m25 m26 m27 m28 u14) C hW hl mvX10_179 (c_X10_askOf l G q m0 m1 m2 m3 m4 m5 m6 m7 m8 m9 m10 w12_s0_11 w12_s0_12 w12_s0_13 w12_s0_14 w12_s0_15 m16 m17 m18 m19 m20 m21 m22 m23 m24 m25 m26 m27 m28 u14 u24 eu24) ⟨(Nat.le_of_ble_eq_true rfl), (Nat.le_of_ble_eq_true rfl)⟩ ⟨rfl, rfl⟩ ([]) ([]) zE1 rfl rfl (Nat.le_of_ble_eq_true rfl) zE1r dX10_digest_106 ⟨Nat.zero_le _, Nat.zero_le _⟩ (fun H locs hW => ?_)
    refine lv_i2l (v := (Int32.toInt64 u24.1)) hx hb dX10_digest_109 rfl ?_
    obtain ⟨u25, eu25, hf⟩ := bnd hf
    refine zk_callBV (As := [.long (Int32.toInt64 u24.1)]) (rest := []) (W1 := wX10 G q m0 m1 m2 m3 m4 m5 m6 m7 m8 m9 m10 u24.2.1 u24.2.2.1 u24.2.2.2.1 u24.2.2.2.2.1 u24.2.2.2.2.2.1 m16 m17 m18 m19 u24.2.2.2.2.2.2 m21 m22 m23 m24 m25 m26 m27 m28 u25) C hW hl mvX10_229 (c_X10_say l G q m0 m1 m2 m3 m4 m5 m6 m7 m8 m9 m10 u24.2.1 u24.2.2.1 u24.2.2.2.1 u24.2.2.2.2.1 u24.2.2.2.2.2.1 m16 m17 m18 m19 u24.2.2.2.2.2.2 m21 m22 m23 m24 m25 m26 m27 m28 u14 (Int32.toInt64 u24.1) u25 eu25) ⟨(Nat.le_of_ble_eq_true rfl), (Nat.le_of_ble_eq_true rfl)⟩ ⟨rfl, rfl⟩ ([]) ([]) zE1 rfl rfl (Nat.le_of_ble_eq_true rfl) zE1r dX10_digest_110 ⟨Nat.zero_le _, Nat.zero_le _⟩ (fun H locs hW => ?_)
    refine lv_aload_n hx hb dX10_digest_113 rfl (lv_at hl 0 rfl) ?_
    refine lv_aload_n hx hb dX10_digest_114 rfl (lv_at hl 0 rfl) ?_
    refine lv_iconst (v := 0) hx hb dX10_digest_115 (by decide) ?_
    refine lv_iconst (v := 3) hx hb dX10_digest_116 (by decide) ?_
    refine lv_iconst (v := 1) hx hb dX10_digest_117 (by decide) ?_
    obtain ⟨u26, eu26, hf⟩ := bnd hf
    refine zk_callBI (As := [.int 0, .int 3, .int 1]) (rest := [.ref (q 0)]) (W1 := wX10 G q m0 m1 m2 m3 m4 m5 m6 m7 m8 m9 m10 u26.2.1 u26.2.2.1 u26.2.2.2.1 u26.2.2.2.2.1 u26.2.2.2.2.2.1 m16 u26.2.2.2.2.2.2 m18 m19 u24.2.2.2.2.2.2 m21 m22 m23 m24 m25 m26 m27 m28 u25) C hW hl mvX10_166 (c_X10_restOf l G q m0 m1 m2 m3 m4 m5 m6 m7 m8 m9 m10 u24.2.1 u24.2.2.1 u24.2.2.2.1 u24.2.2.2.2.1 u24.2.2.2.2.2.1 m16 m17 m18 m19 u24.2.2.2.2.2.2 m21 m22 m23 m24 m25 m26 m27 m28 u25 0 3 1 u26 eu26) ⟨(Nat.le_of_ble_eq_true rfl), (Nat.le_of_ble_eq_true rfl)⟩ ⟨rfl, rfl⟩ ([]) ([]) zE1 rfl rfl (Nat.le_of_ble_eq_true rfl) zE1r dX10_digest_118 ⟨Nat.zero_le _, Nat.zero_le _⟩ (fun H locs hW => ?_)
    refine lv_i2l (v := (Int32.toInt64 u26.1)) hx hb dX10_digest_121 rfl ?_
    obtain ⟨u27, eu27, hf⟩ := bnd hf
    refine zk_callBV (As := [.long (Int32.toInt64 u26.1)]) (rest := []) (W1 := wX10 G q m0 m1 m2 m3 m4 m5 m6 m7 m8 m9 m10 u26.2.1 u26.2.2.1 u26.2.2.2.1 u26.2.2.2.2.1 u26.2.2.2.2.2.1 m16 u26.2.2.2.2.2.2 m18 m19 u24.2.2.2.2.2.2 m21 m22 m23 m24 m25 m26 m27 m28 u27) C hW hl mvX10_229 (c_X10_say l G q m0 m1 m2 m3 m4 m5 m6 m7 m8 m9 m10 u26.2.1 u26.2.2.1 u26.2.2.2.1 u26.2.2.2.2.1 u26.2.2.2.2.2.1 m16 u26.2.2.2.2.2.2 m18 m19 u24.2.2.2.2.2.2 m21 m22 m23 m24 m25 m26 m27 m28 u25 (Int32.toInt64 u26.1) u27 eu27) ⟨(Nat.le_of_ble_eq_true rfl), (Nat.le_of_ble_eq_true rfl)⟩ ⟨rfl, rfl⟩ ([]) ([]) zE1 rfl rfl (Nat.le_of_ble_eq_true rfl) zE1r dX10_digest_122 ⟨Nat.zero_le _, Nat.zero_le _⟩ (fun H locs hW => ?_)
    refine lv_iconst (v := 0) hx hb dX10_digest_125 (by decide) ?_
    refine lv_istore_n (lv' := [(1, .int 0), (0, .ref (q 0))]) hx hb dX10_digest_126 rfl hl (by decide) rfl (fun ls hl => ?_)
    refine w_X10_digest_127 l G q m0 m1 m2 m3 m4 m5 m6 m7 m8 m9 m10 u26.2.1 u26.2.2.1 u26.2.2.2.1 u26.2.2.2.2.1 u26.2.2.2.2.2.1 m16 u26.2.2.2.2.2.2 m18 m19 u24.2.2.2.2.2.2 m21 m22 m23 m24 m25 m26 m27 m28 out C (fun w28_v1 w28_s0_29 hf H locs ls hW hl => ?_) FU 0 u27 hf _ _ _ hW (lv_sub hl [1, 0] rfl)
    refine lv_iconst (v := 0) hx hb dX10_digest_152 (by decide) ?_
    refine lv_istore_n (lv' := [(1, .int 0), (0, .ref (q 0))]) hx hb dX10_digest_153 rfl hl (by decide) rfl (fun ls hl => ?_)
    refine w_X10_digest_154 l G q m0 m1 m2 m3 m4 m5 m6 m7 m8 m9 m10 m16 u26.2.2.2.2.2.2 m18 m19 u24.2.2.2.2.2.2 m21 m22 m23 m24 m25 m26 m27 m28 out C (fun w29_v1 w29_s0_11 w29_s0_12 w29_s0_13 w29_s0_14 w29_s0_15 w29_s0_29 hf H locs ls hW hl => ?_) FU 0 u26.2.1 u26.2.2.1 u26.2.2.2.1 u26.2.2.2.2.1 u26.2.2.2.2.2.1 w28_s0_29 hf _ _ _ hW (lv_sub hl [1, 0] rfl)
    refine lv_aload_n hx hb dX10_digest_176 rfl (lv_at hl 0 rfl) ?_
    refine zk_get C hW fgX10_223 0 rfl rfl dX10_digest_177 ?_
    obtain rfl := Option.some.inj hf
    exact zk_lret C hW rfl dX10_digest_180
