set_option maxHeartbeats 4000000 in
set_option maxRecDepth 100000 in
theorem c_X0_draw (l : Launch) (G : GG) (q : Nat → Nat) (t0 : zDY) (a0 : Int32) (out : Int32 × zDY) (hf : f_X0_draw t0 a0 = some out) : CtI G l yX0_draw (Cond.code yX0_draw cX0_draw 2 (some .int) :: WL) (zR 0 0) [.ref (q 0), .int a0] (wX0 G q t0.1 t0.2.1 t0.2.2.1 t0.2.2.2.1 t0.2.2.2.2) out.1 (wX0 G q out.2.1 out.2.2.1 out.2.2.2.1 out.2.2.2.2.1 out.2.2.2.2.2) := by
  refine CtI.mk (cc := cX0_draw) (nL := 2) (rt := (some .int)) (own := RX0) (nm := "draw") (by decide) rfl rfl (Nat.le_of_ble_eq_true rfl) ?_
  intro p e s m below meth c A ls C hW hl
  have hx := C.1
  have hb := C.2.1
  have hl : lv_has ls 2 [(0, .ref (q 0)), (1, .int a0)] := hl
  unfold f_X0_draw at hf
  refine lv_aload_n hx hb dX0_draw_0 rfl (lv_at hl 0 rfl) ?_
  refine lv_ldc2 hx hb C.2.2.2.1 (C.2.2.2.2.1 _ klX0_70) dX0_draw_1 ?_
  refine lv_aload_n hx hb dX0_draw_4 rfl (lv_at hl 0 rfl) ?_
  refine zk_get C hW fgX0_25 0 rfl rfl dX0_draw_5 ?_
  refine lv_i2l (v := (Int32.toInt64 t0.2.2.1)) hx hb dX0_draw_8 rfl ?_
  refine lv_lmul hx hb dX0_draw_9 ?_
  refine lv_ldc2 hx hb C.2.2.2.1 (C.2.2.2.2.1 _ klX0_72) dX0_draw_10 ?_
  refine lv_ladd hx hb dX0_draw_13 ?_
  refine lv_ldc2 hx hb C.2.2.2.1 (C.2.2.2.2.1 _ klX0_74) dX0_draw_14 ?_
  refine lv_lrem hx hb dX0_draw_17 (by decide) ?_
  refine lv_l2i (v := (Int64.toInt32 (((1103515245 * (Int32.toInt64 t0.2.2.1)) + 12345) - ((1103515245 * (Int32.toInt64 t0.2.2.1)) + 12345) / 2147483648 * 2147483648))) hx hb dX0_draw_18 rfl ?_
  obtain ⟨z1, ez1, hf⟩ := bnd hf
  refine zk_putI (W1 := wX0 G q t0.1 t0.2.1 z1 t0.2.2.2.1 t0.2.2.2.2) C hW fpX0_25 0 (Option.some.inj ez1) rfl (Nat.le_of_ble_eq_true rfl) rfl dX0_draw_19 (fun H locs hW => ?_)
  refine lv_iload_n hx hb dX0_draw_22 rfl (lv_at hl 1 rfl) ?_
  refine lv_if_le (tgt := 38) hx hb dX0_draw_23 (by decide) (fun c2 => ?_) (fun c2 => ?_)
  · have hf := ipos c2 hf
    refine lv_iconst (v := 0) hx hb dX0_draw_38 (by decide) ?_
    obtain rfl := Option.some.inj hf
    exact zk_iret C hW rfl dX0_draw_39
  · have hf := ineg c2 hf
    refine lv_aload_n hx hb dX0_draw_26 rfl (lv_at hl 0 rfl) ?_
    refine zk_get C hW fgX0_25 0 rfl rfl dX0_draw_27 ?_
    refine lv_ldc hx hb C.2.2.2.1 (C.2.2.2.2.1 _ kiX0_76) dX0_draw_30 ?_
    refine lv_idiv hx hb dX0_draw_32 (by decide) ?_
    refine lv_iload_n hx hb dX0_draw_33 rfl (lv_at hl 1 rfl) ?_
    obtain ⟨g3, hf⟩ := grd hf
    refine lv_irem hx hb dX0_draw_34 g3 ?_
    refine lv_goto (tgt := 39) hx hb dX0_draw_35 (by decide) ?_
    obtain rfl := Option.some.inj hf
    exact zk_iret C hW rfl dX0_draw_39

set_option maxHeartbeats 4000000 in
set_option maxRecDepth 100000 in
theorem w_X0_drawLetter_26 {p : Program} {e : Env} {s : State} {m : MethodId} {args : Array Value} {below : List Frame} {meth : Method} {c : Code} {A : Nat → Prop} (l : Launch) (G : GG) (q : Nat → Nat) (v2 : Int32) (out : zDY) (C : CX p s m args meth c cX0_drawLetter 4 RX0 none "drawLetter") {K : Int32 → zLT → zRD → Int32 → Int32 → Int32 → Option (zDY)} (hK : ∀ (v3 : Int32) (s0_0 : zLT) (s0_1 : zRD) (s0_2 : Int32) (s0_3 : Int32) (s0_4 : Int32) , K v3 s0_0 s0_1 s0_2 s0_3 s0_4 = some out → ∀ (H : Heap) (locs : List Loc) (ls : Array Slot), KW G A s (wX0 G q s0_0 s0_1 s0_2 s0_3 s0_4) H locs → lv_has ls 4 [] → W p l e (zR 1 21) s m args below meth c H locs 0 0 (QV G A (wX0 G q out.1 out.2.1 out.2.2.1 out.2.2.2.1 out.2.2.2.2) below args s) (F0 m 50 ls [])) :
    ∀ (n : Nat) (v3 : Int32) (s0_0 : zLT) (s0_1 : zRD) (s0_2 : Int32) (s0_3 : Int32) (s0_4 : Int32) , lp_X0_drawLetter_26 v2 K n v3 s0_0 s0_1 s0_2 s0_3 s0_4 = some out → ∀ (H : Heap) (locs : List Loc) (ls : Array Slot), KW G A s (wX0 G q s0_0 s0_1 s0_2 s0_3 s0_4) H locs → lv_has ls 4 [(0, .ref (q 0)), (2, .int v2), (3, .int v3)] → W p l e (zR 1 21) s m args below meth c H locs 0 0 (QV G A (wX0 G q out.1 out.2.1 out.2.2.1 out.2.2.2.1 out.2.2.2.2) below args s) (F0 m 26 ls []) := by
  have hx := C.1
  have hb := C.2.1
  intro n
  induction n with
  | zero => intro v3 s0_0 s0_1 s0_2 s0_3 s0_4 hf; exact nomatch (show (none : Option (zDY)) = some out from hf)
  | succ n ih =>
    intro v3 s0_0 s0_1 s0_2 s0_3 s0_4 hf H locs ls hW hl
    rw [lp_X0_drawLetter_26] at hf
    refine lv_iload_n hx hb dX0_drawLetter_26 rfl (lv_at hl 2 rfl) ?_
    refine lv_iload_n hx hb dX0_drawLetter_27 rfl (lv_at hl 1 rfl) ?_
    refine lv_icmp_ge (tgt := 50) hx hb dX0_drawLetter_28 (by decide) (fun c3 => ?_) (fun c3 => ?_)
    · have hf := ipos c3 hf
      exact hK v3 s0_0 s0_1 s0_2 s0_3 s0_4 hf _ _ _ hW (lv_sub hl [] rfl)
    · have hf := ineg c3 hf
      refine lv_aload_n hx hb dX0_drawLetter_31 rfl (lv_at hl 0 rfl) ?_
      refine zk_get C hW fgX0_12 0 rfl rfl dX0_drawLetter_32 ?_
      refine lv_aload_n hx hb dX0_drawLetter_35 rfl (lv_at hl 0 rfl) ?_
      refine lv_bipush (v := 6) hx hb dX0_drawLetter_36 (by decide) ?_
      obtain ⟨u4, eu4, hf⟩ := bnd hf
      refine zk_callBI (As := [.int 6]) (rest := [.ref (q 1)]) (W1 := wX0 G q u4.2.1 u4.2.2.1 u4.2.2.2.1 u4.2.2.2.2.1 u4.2.2.2.2.2) C hW hl mvX0_44 (c_X0_draw l G q (s0_0, s0_1, s0_2, s0_3, s0_4) 6 u4 eu4) ⟨(Nat.le_of_ble_eq_true rfl), (Nat.le_of_ble_eq_true rfl)⟩ ⟨rfl, rfl⟩ ([]) ([]) zE1 rfl rfl (Nat.le_of_ble_eq_true rfl) zE1r dX0_drawLetter_38 ⟨Nat.zero_le _, Nat.zero_le _⟩ (fun H locs hW => ?_)
      obtain ⟨u5, eu5, hf⟩ := bnd hf
      refine zk_callV (As := [.int u4.1]) (rest := []) (W1 := wX0 G q u5 u4.2.2.1 u4.2.2.2.1 u4.2.2.2.2.1 u4.2.2.2.2.2) C hW hl mvX0_67 (c_X3_add l G (fun k => q (k + 1)) u4.2.1 u4.1 u5 eu5) ⟨(Nat.le_of_ble_eq_true rfl), (Nat.le_of_ble_eq_true rfl)⟩ ⟨rfl, rfl⟩ [1, 2] rfl rfl rfl rfl (Nat.le_of_ble_eq_true rfl) (Nat.le_of_ble_eq_true rfl) rfl dX0_drawLetter_41 ⟨Nat.zero_le _, Nat.zero_le _⟩ (fun H locs hW => ?_)
      refine lv_iinc (v := (v3 + 1)) (lv' := [(3, .int (v3 + 1)), (0, .ref (q 0)), (2, .int v2)]) hx hb dX0_drawLetter_44 hl (k := 2) rfl rfl (by decide) rfl (fun ls hl => ?_)
      refine lv_goto (tgt := 26) hx hb dX0_drawLetter_47 (by decide) ?_
      exact ih (v3 + 1) u5 u4.2.2.1 u4.2.2.2.1 u4.2.2.2.2.1 u4.2.2.2.2.2 hf _ _ _ hW (lv_sub hl [1, 2, 0] rfl)
set_option maxHeartbeats 4000000 in
set_option maxRecDepth 100000 in
theorem c_X0_drawLetter (l : Launch) (G : GG) (q : Nat → Nat) (t0 : zDY) (a0 : Int32) (out : zDY) (hf : f_X0_drawLetter t0 a0 = some out) : CtV G l yX0_drawLetter (Cond.code yX0_drawLetter cX0_drawLetter 4 none :: WL) (zR 1 21) [.ref (q 0), .int a0] (wX0 G q t0.1 t0.2.1 t0.2.2.1 t0.2.2.2.1 t0.2.2.2.2) (wX0 G q out.1 out.2.1 out.2.2.1 out.2.2.2.1 out.2.2.2.2) := by
  refine CtV.mk (cc := cX0_drawLetter) (nL := 4) (rt := none) (own := RX0) (nm := "drawLetter") (by decide) rfl rfl (Nat.le_of_ble_eq_true rfl) ?_
  intro p e s m below meth c A ls C hW hl
  have hx := C.1
  have hb := C.2.1
  have hl : lv_has ls 4 [(0, .ref (q 0)), (1, .int a0)] := hl
  unfold f_X0_drawLetter at hf
  refine lv_aload_n hx hb dX0_drawLetter_0 rfl (lv_at hl 0 rfl) ?_
  refine zk_get C hW fgX0_12 0 rfl rfl dX0_drawLetter_1 ?_
  obtain ⟨u1, eu1, hf⟩ := bnd hf
  refine zk_callV (As := []) (rest := []) (W1 := wX0 G q u1 t0.2.1 t0.2.2.1 t0.2.2.2.1 t0.2.2.2.2) C hW hl mvX0_61 (c_X3_clear l G (fun k => q (k + 1)) t0.1 u1 eu1) ⟨(Nat.le_of_ble_eq_true rfl), (Nat.le_of_ble_eq_true rfl)⟩ ⟨rfl, rfl⟩ [1, 2] rfl rfl rfl rfl (Nat.le_of_ble_eq_true rfl) (Nat.le_of_ble_eq_true rfl) rfl dX0_drawLetter_4 ⟨Nat.zero_le _, Nat.zero_le _⟩ (fun H locs hW => ?_)
  refine lv_aload_n hx hb dX0_drawLetter_7 rfl (lv_at hl 0 rfl) ?_
  refine zk_get C hW fgX0_12 0 rfl rfl dX0_drawLetter_8 ?_
  refine lv_iload_n hx hb dX0_drawLetter_11 rfl (lv_at hl 1 rfl) ?_
  refine zk_putI (W1 := wX0 G q (u1.1, u1.2.1, a0) t0.2.1 t0.2.2.1 t0.2.2.2.1 t0.2.2.2.2) C hW fpX0_64 1 rfl rfl (Nat.le_of_ble_eq_true rfl) rfl dX0_drawLetter_12 (fun H locs hW => ?_)
  refine lv_iconst (v := 1) hx hb dX0_drawLetter_15 (by decide) ?_
  refine lv_aload_n hx hb dX0_drawLetter_16 rfl (lv_at hl 0 rfl) ?_
  refine lv_bipush (v := 9) hx hb dX0_drawLetter_17 (by decide) ?_
  obtain ⟨u2, eu2, hf⟩ := bnd hf
  refine zk_callBI (As := [.int 9]) (rest := [.int 1]) (W1 := wX0 G q u2.2.1 u2.2.2.1 u2.2.2.2.1 u2.2.2.2.2.1 u2.2.2.2.2.2) C hW hl mvX0_44 (c_X0_draw l G q ((u1.1, u1.2.1, a0), t0.2) 9 u2 eu2) ⟨(Nat.le_of_ble_eq_true rfl), (Nat.le_of_ble_eq_true rfl)⟩ ⟨rfl, rfl⟩ ([]) ([]) zE1 rfl rfl (Nat.le_of_ble_eq_true rfl) zE1r dX0_drawLetter_19 ⟨Nat.zero_le _, Nat.zero_le _⟩ (fun H locs hW => ?_)
  refine lv_iadd hx hb dX0_drawLetter_22 ?_
  refine lv_istore_n (lv' := [(2, .int (1 + u2.1)), (0, .ref (q 0)), (1, .int a0)]) hx hb dX0_drawLetter_23 rfl hl (by decide) rfl (fun ls hl => ?_)
  refine lv_iconst (v := 0) hx hb dX0_drawLetter_24 (by decide) ?_
  refine lv_istore_n (lv' := [(3, .int 0), (2, .int (1 + u2.1)), (0, .ref (q 0)), (1, .int a0)]) hx hb dX0_drawLetter_25 rfl hl (by decide) rfl (fun ls hl => ?_)
  refine w_X0_drawLetter_26 l G q (1 + u2.1) out C (fun w6_v3 w6_s0_0 w6_s0_1 w6_s0_2 w6_s0_3 w6_s0_4 hf H locs ls hW hl => ?_) FU 0 u2.2.1 u2.2.2.1 u2.2.2.2.1 u2.2.2.2.2.1 u2.2.2.2.2.2 hf _ _ _ hW (lv_sub hl [2, 1, 0] rfl)
  obtain rfl := Option.some.inj hf
  exact zk_vret C hW dX0_drawLetter_50

set_option maxHeartbeats 4000000 in
set_option maxRecDepth 100000 in
theorem w_X0_pass_18 {p : Program} {e : Env} {s : State} {m : MethodId} {args : Array Value} {below : List Frame} {meth : Method} {c : Code} {A : Nat → Prop} (l : Launch) (G : GG) (q : Nat → Nat) (q1 : Nat → Nat) (v1 : Int32) (v4 : Int32) (s1_0 : (Nat → Int32)) (s1_1 : Int32) (out : zDY) (C : CX p s m args meth c cX0_pass 6 RX0 none "pass") {K : Int32 → zLT → zRD → Int32 → Int32 → Int32 → Option (zDY)} (hK : ∀ (v5 : Int32) (s0_0 : zLT) (s0_1 : zRD) (s0_2 : Int32) (s0_3 : Int32) (s0_4 : Int32) , K v5 s0_0 s0_1 s0_2 s0_3 s0_4 = some out → ∀ (H : Heap) (locs : List Loc) (ls : Array Slot), KW G A s (wX0 G q s0_0 s0_1 s0_2 s0_3 s0_4 ++ wX4 G q1 s1_0 s1_1) H locs → lv_has ls 6 [] → W p l e (zR 4 89) s m args below meth c H locs 0 0 (QV G A (wX0 G q out.1 out.2.1 out.2.2.1 out.2.2.2.1 out.2.2.2.2 ++ wX4 G q1 ((s1_0, s1_1).1) ((s1_0, s1_1).2)) below args s) (F0 m 96 ls [])) :
    ∀ (n : Nat) (v5 : Int32) (s0_0 : zLT) (s0_1 : zRD) (s0_2 : Int32) (s0_3 : Int32) (s0_4 : Int32) , lp_X0_pass_18 v1 v4 s1_0 s1_1 K n v5 s0_0 s0_1 s0_2 s0_3 s0_4 = some out → ∀ (H : Heap) (locs : List Loc) (ls : Array Slot), KW G A s (wX0 G q s0_0 s0_1 s0_2 s0_3 s0_4 ++ wX4 G q1 s1_0 s1_1) H locs → lv_has ls 6 [(0, .ref (q 0)), (1, .int v1), (3, .ref (q1 0)), (4, .int v4), (5, .int v5)] → W p l e (zR 4 89) s m args below meth c H locs 0 0 (QV G A (wX0 G q out.1 out.2.1 out.2.2.1 out.2.2.2.1 out.2.2.2.2 ++ wX4 G q1 ((s1_0, s1_1).1) ((s1_0, s1_1).2)) below args s) (F0 m 18 ls []) := by
  have hx := C.1
  have hb := C.2.1
  intro n
  induction n with
  | zero => intro v5 s0_0 s0_1 s0_2 s0_3 s0_4 hf; exact nomatch (show (none : Option (zDY)) = some out from hf)
  | succ n ih =>
    intro v5 s0_0 s0_1 s0_2 s0_3 s0_4 hf H locs ls hW hl
    rw [lp_X0_pass_18] at hf
    refine lv_iload hx hb dX0_pass_18 (lv_at hl 4 rfl) ?_
    refine lv_iload_n hx hb dX0_pass_20 rfl (lv_at hl 1 rfl) ?_
    refine lv_icmp_ge (tgt := 96) hx hb dX0_pass_21 (by decide) (fun c1 => ?_) (fun c1 => ?_)
    · have hf := ipos c1 hf
      exact hK v5 s0_0 s0_1 s0_2 s0_3 s0_4 hf _ _ _ hW (lv_sub hl [] rfl)
    · have hf := ineg c1 hf
      refine lv_aload_n hx hb dX0_pass_24 rfl (lv_at hl 0 rfl) ?_
      refine lv_iload hx hb dX0_pass_25 (lv_at hl 3 rfl) ?_
      obtain ⟨u2, eu2, hf⟩ := bnd hf
      refine zk_callBV (As := [.int v4]) (rest := []) (W1 := wX0 G q u2.1 u2.2.1 u2.2.2.1 u2.2.2.2.1 u2.2.2.2.2 ++ wX4 G q1 s1_0 s1_1) C hW hl mvX0_35 (c_X0_drawLetter l G q (s0_0, s0_1, s0_2, s0_3, s0_4) v4 u2 eu2) ⟨(Nat.le_of_ble_eq_true rfl), (Nat.le_of_ble_eq_true rfl)⟩ ⟨rfl, rfl⟩ ([]) (wX4 G q1 s1_0 s1_1) zE2 rfl rfl (Nat.le_of_ble_eq_true rfl) zE2r dX0_pass_27 ⟨Nat.zero_le _, Nat.zero_le _⟩ (fun H locs hW => ?_)
      refine lv_aload_n hx hb dX0_pass_30 rfl (lv_at hl 0 rfl) ?_
      refine zk_get C hW fgX0_21 0 rfl rfl dX0_pass_31 ?_
      refine lv_aload_n hx hb dX0_pass_34 rfl (lv_at hl 2 rfl) ?_
      refine lv_aload_n hx hb dX0_pass_35 rfl (lv_at hl 0 rfl) ?_
      refine lv_aload_n hx hb dX0_pass_36 rfl (lv_at hl 2 rfl) ?_
      refine zk_get C hW fgX0_39 4 rfl rfl dX0_pass_37 ?_
      obtain ⟨u3, eu3, hf⟩ := bnd hf
      refine zk_callBI (As := [.int s1_1]) (rest := [.ref (q1 0), .ref (q 3)]) (W1 := wX0 G q u3.2.1 u3.2.2.1 u3.2.2.2.1 u3.2.2.2.2.1 u3.2.2.2.2.2 ++ wX4 G q1 s1_0 s1_1) C hW hl mvX0_44 (c_X0_draw l G q u2 s1_1 u3 eu3) ⟨(Nat.le_of_ble_eq_true rfl), (Nat.le_of_ble_eq_true rfl)⟩ ⟨rfl, rfl⟩ ([]) (wX4 G q1 s1_0 s1_1) zE2 rfl rfl (Nat.le_of_ble_eq_true rfl) zE2r dX0_pass_40 ⟨Nat.zero_le _, Nat.zero_le _⟩ (fun H locs hW => ?_)
      obtain ⟨u4, eu4, hf⟩ := bnd hf
      refine zk_callBI (As := [.int u3.1]) (rest := [.ref (q 3)]) (W1 := wX0 G q u3.2.1 u3.2.2.1 u3.2.2.2.1 u3.2.2.2.2.1 u3.2.2.2.2.2 ++ wX4 G q1 s1_0 s1_1) C hW hl mvX0_48 (c_X4_kindOf l G q1 (s1_0, s1_1) u3.1 u4 eu4) ⟨(Nat.le_of_ble_eq_true rfl), (Nat.le_of_ble_eq_true rfl)⟩ ⟨rfl, rfl⟩ (wX0 G q u3.2.1 u3.2.2.1 u3.2.2.2.1 u3.2.2.2.2.1 u3.2.2.2.2.2) ([]) zE3 rfl rfl (Nat.le_of_ble_eq_true rfl) zE3r dX0_pass_43 ⟨Nat.zero_le _, Nat.zero_le _⟩ (fun H locs hW => ?_)
      refine lv_aload_n hx hb dX0_pass_46 rfl (lv_at hl 0 rfl) ?_
      refine zk_get C hW fgX0_12 0 rfl rfl dX0_pass_47 ?_
      refine lv_iconst (v := 0) hx hb dX0_pass_50 (by decide) ?_
      obtain ⟨u5, eu5, hf⟩ := bnd hf
      refine zk_callV (As := [.int u4, .ref (q 1), .int (bI false)]) (rest := []) (W1 := wX0 G q u3.2.1 u5 u3.2.2.2.1 u3.2.2.2.2.1 u3.2.2.2.2.2 ++ wX4 G q1 s1_0 s1_1) C hW hl mvX0_51 (c_X6_readTo l G (fun k => q (k + 3)) (fun k => q (k + 1)) u3.2.2.1 u4 u3.2.1 false u5 eu5) ⟨(Nat.le_of_ble_eq_true rfl), (Nat.le_of_ble_eq_true rfl)⟩ ⟨rfl, rfl⟩ [3, 1, 2] rfl rfl rfl rfl (Nat.le_of_ble_eq_true rfl) (Nat.le_of_ble_eq_true rfl) rfl dX0_pass_51 ⟨Nat.zero_le _, Nat.zero_le _⟩ (fun H locs hW => ?_)
      refine lv_aload_n hx hb dX0_pass_54 rfl (lv_at hl 0 rfl) ?_
      refine zk_get C hW fgX0_21 0 rfl rfl dX0_pass_55 ?_
      refine zk_get C hW fgX0_55 3 rfl rfl dX0_pass_58 ?_
      refine lv_if_eq (tgt := 74) hx hb dX0_pass_61 (by decide) (fun c6 => ?_) (fun c6 => ?_)
      · have hf := ipos c6 hf
        refine lv_aload_n hx hb dX0_pass_74 rfl (lv_at hl 0 rfl) ?_
        refine lv_dup hx hb dX0_pass_75 rfl ?_
        refine zk_get C hW fgX0_32 0 rfl rfl dX0_pass_76 ?_
        refine lv_aload_n hx hb dX0_pass_79 rfl (lv_at hl 0 rfl) ?_
        refine zk_get C hW fgX0_21 0 rfl rfl dX0_pass_80 ?_
        refine zk_get C hW fgX0_58 3 rfl rfl dX0_pass_83 ?_
        refine lv_iadd hx hb dX0_pass_86 ?_
        obtain ⟨z7, ez7, hf⟩ := bnd hf
        refine zk_putI (W1 := wX0 G q u3.2.1 u5 u3.2.2.2.1 u3.2.2.2.2.1 z7 ++ wX4 G q1 s1_0 s1_1) C hW fpX0_32 0 (Option.some.inj ez7) rfl (Nat.le_of_ble_eq_true rfl) rfl dX0_pass_87 (fun H locs hW => ?_)
        refine lv_iinc (v := (v5 + 1)) (lv' := [(5, .int (v5 + 1)), (0, .ref (q 0)), (1, .int v1), (3, .ref (q1 0)), (4, .int v4)]) hx hb dX0_pass_90 hl (k := 4) rfl rfl (by decide) rfl (fun ls hl => ?_)
        refine lv_goto (tgt := 18) hx hb dX0_pass_93 (by decide) ?_
        exact ih (v5 + 1) u3.2.1 u5 u3.2.2.2.1 u3.2.2.2.2.1 z7 hf _ _ _ hW (lv_sub hl [1, 2, 3, 4, 0] rfl)
      · have hf := ineg c6 hf
        refine lv_aload_n hx hb dX0_pass_64 rfl (lv_at hl 0 rfl) ?_
        refine lv_dup hx hb dX0_pass_65 rfl ?_
        refine zk_get C hW fgX0_29 0 rfl rfl dX0_pass_66 ?_
        refine lv_iconst (v := 1) hx hb dX0_pass_69 (by decide) ?_
        refine lv_iadd hx hb dX0_pass_70 ?_
        obtain ⟨z8, ez8, hf⟩ := bnd hf
        refine zk_putI (W1 := wX0 G q u3.2.1 u5 u3.2.2.2.1 z8 u3.2.2.2.2.2 ++ wX4 G q1 s1_0 s1_1) C hW fpX0_29 0 (Option.some.inj ez8) rfl (Nat.le_of_ble_eq_true rfl) rfl dX0_pass_71 (fun H locs hW => ?_)
        refine lv_aload_n hx hb dX0_pass_74 rfl (lv_at hl 0 rfl) ?_
        refine lv_dup hx hb dX0_pass_75 rfl ?_
        refine zk_get C hW fgX0_32 0 rfl rfl dX0_pass_76 ?_
        refine lv_aload_n hx hb dX0_pass_79 rfl (lv_at hl 0 rfl) ?_
        refine zk_get C hW fgX0_21 0 rfl rfl dX0_pass_80 ?_
        refine zk_get C hW fgX0_58 3 rfl rfl dX0_pass_83 ?_
        refine lv_iadd hx hb dX0_pass_86 ?_
        obtain ⟨z9, ez9, hf⟩ := bnd hf
        refine zk_putI (W1 := wX0 G q u3.2.1 u5 u3.2.2.2.1 z8 z9 ++ wX4 G q1 s1_0 s1_1) C hW fpX0_32 0 (Option.some.inj ez9) rfl (Nat.le_of_ble_eq_true rfl) rfl dX0_pass_87 (fun H locs hW => ?_)
        refine lv_iinc (v := (v5 + 1)) (lv' := [(5, .int (v5 + 1)), (0, .ref (q 0)), (1, .int v1), (3, .ref (q1 0)), (4, .int v4)]) hx hb dX0_pass_90 hl (k := 4) rfl rfl (by decide) rfl (fun ls hl => ?_)
        refine lv_goto (tgt := 18) hx hb dX0_pass_93 (by decide) ?_
        exact ih (v5 + 1) u3.2.1 u5 u3.2.2.2.1 z8 z9 hf _ _ _ hW (lv_sub hl [1, 2, 3, 4, 0] rfl)
set_option maxHeartbeats 4000000 in
set_option maxRecDepth 100000 in
theorem c_X0_pass (l : Launch) (G : GG) (q : Nat → Nat) (q1 : Nat → Nat) (t0 : zDY) (a0 : Int32) (a1 : Int32) (t1 : zLS) (a3 : Int32) (out : zDY) (hf : f_X0_pass t0 a0 a1 t1 a3 = some out) : CtV G l yX0_pass (Cond.code yX0_pass cX0_pass 6 none :: WL) (zR 4 89) [.ref (q 0), .int a0, .int a1, .ref (q1 0), .int a3] (wX0 G q t0.1 t0.2.1 t0.2.2.1 t0.2.2.2.1 t0.2.2.2.2 ++ wX4 G q1 t1.1 t1.2) (wX0 G q out.1 out.2.1 out.2.2.1 out.2.2.2.1 out.2.2.2.2 ++ wX4 G q1 t1.1 t1.2) := by
  refine CtV.mk (cc := cX0_pass) (nL := 6) (rt := none) (own := RX0) (nm := "pass") (by decide) rfl rfl (Nat.le_of_ble_eq_true rfl) ?_
  intro p e s m below meth c A ls C hW hl
  have hx := C.1
  have hb := C.2.1
  have hl : lv_has ls 6 [(0, .ref (q 0)), (1, .int a0), (2, .int a1), (3, .ref (q1 0)), (4, .int a3)] := hl
  unfold f_X0_pass at hf
  refine lv_aload_n hx hb dX0_pass_0 rfl (lv_at hl 0 rfl) ?_
  refine lv_iload_n hx hb dX0_pass_1 rfl (lv_at hl 2 rfl) ?_
  refine zk_putI (W1 := wX0 G q t0.1 t0.2.1 a1 t0.2.2.2.1 t0.2.2.2.2 ++ wX4 G q1 t1.1 t1.2) C hW fpX0_25 0 rfl rfl (Nat.le_of_ble_eq_true rfl) rfl dX0_pass_2 (fun H locs hW => ?_)
  refine lv_aload_n hx hb dX0_pass_5 rfl (lv_at hl 0 rfl) ?_
  refine lv_iconst (v := 0) hx hb dX0_pass_6 (by decide) ?_
  refine zk_putI (W1 := wX0 G q t0.1 t0.2.1 a1 0 t0.2.2.2.2 ++ wX4 G q1 t1.1 t1.2) C hW fpX0_29 0 rfl rfl (Nat.le_of_ble_eq_true rfl) rfl dX0_pass_7 (fun H locs hW => ?_)
  refine lv_aload_n hx hb dX0_pass_10 rfl (lv_at hl 0 rfl) ?_
  refine lv_iconst (v := 0) hx hb dX0_pass_11 (by decide) ?_
  refine zk_putI (W1 := wX0 G q t0.1 t0.2.1 a1 0 0 ++ wX4 G q1 t1.1 t1.2) C hW fpX0_32 0 rfl rfl (Nat.le_of_ble_eq_true rfl) rfl dX0_pass_12 (fun H locs hW => ?_)
  refine lv_iconst (v := 0) hx hb dX0_pass_15 (by decide) ?_
  refine lv_istore (lv' := [(5, .int 0), (0, .ref (q 0)), (1, .int a0), (2, .int a1), (3, .ref (q1 0)), (4, .int a3)]) hx hb dX0_pass_16 hl (by decide) rfl (fun ls hl => ?_)
  refine w_X0_pass_18 l G q q1 a0 a3 t1.1 t1.2 out C (fun w10_v5 w10_s0_0 w10_s0_1 w10_s0_2 w10_s0_3 w10_s0_4 hf H locs ls hW hl => ?_) FU 0 t0.1 t0.2.1 a1 0 0 hf _ _ _ hW (lv_sub hl [1, 2, 4, 5, 0] rfl)
  obtain rfl := Option.some.inj hf
  exact zk_vret C hW dX0_pass_96

set_option maxHeartbeats 4000000 in
set_option maxRecDepth 100000 in
theorem w_J7_fill_53178_5 {p : Program} {e : Env} {s : State} {m : MethodId} {args : Array Value} {below : List Frame} {meth : Method} {c : Code} {A : Nat → Prop} (l : Launch) (G : GG) (aa0 : Nat) (v1 : Int32) (v3 : Int32) (n0 : Nat) (out : (Nat → Int32)) (C : CX p s m args meth c cJ7_fill_53178 4 RJ7 none "fill") {K : Int32 → (Nat → Int32) → Option ((Nat → Int32))} (hK : ∀ (v2 : Int32) (s0 : (Nat → Int32)) , K v2 s0 = some out → ∀ (H : Heap) (locs : List Loc) (ls : Array Slot), KW G A s ([iA G aa0 n0 s0]) H locs → lv_has ls 4 [] → W p l e (zR 0 0) s m args below meth c H locs 0 0 (QV G A ([iA G aa0 n0 out]) below args s) (F0 m 20 ls [])) :
    ∀ (n : Nat) (v2 : Int32) (s0 : (Nat → Int32)) , lp_J7_fill_53178_5 v1 v3 n0 K n v2 s0 = some out → ∀ (H : Heap) (locs : List Loc) (ls : Array Slot), KW G A s ([iA G aa0 n0 s0]) H locs → lv_has ls 4 [(0, .ref aa0), (1, .int v1), (2, .int v2), (3, .int v3)] → W p l e (zR 0 0) s m args below meth c H locs 0 0 (QV G A ([iA G aa0 n0 out]) below args s) (F0 m 5 ls []) := by
  have hx := C.1
  have hb := C.2.1
  intro n
  induction n with
  | zero => intro v2 s0 hf; exact nomatch (show (none : Option ((Nat → Int32))) = some out from hf)
  | succ n ih =>
    intro v2 s0 hf H locs ls hW hl
    rw [lp_J7_fill_53178_5] at hf
    refine lv_iload_n hx hb dJ7_fill_53178_5 rfl (lv_at hl 2 rfl) ?_
    refine lv_iload_n hx hb dJ7_fill_53178_6 rfl (lv_at hl 3 rfl) ?_
    refine lv_icmp_ge (tgt := 20) hx hb dJ7_fill_53178_7 (by decide) (fun c1 => ?_) (fun c1 => ?_)
    · have hf := ipos c1 hf
      exact hK v2 s0 hf _ _ _ hW (lv_sub hl [] rfl)
    · have hf := ineg c1 hf
      refine lv_aload_n hx hb dJ7_fill_53178_10 rfl (lv_at hl 0 rfl) ?_
      refine lv_iload_n hx hb dJ7_fill_53178_11 rfl (lv_at hl 2 rfl) ?_
      refine lv_iload_n hx hb dJ7_fill_53178_12 rfl (lv_at hl 1 rfl) ?_
      obtain ⟨g3, hf⟩ := grd hf
      obtain ⟨z2, ez2, hf⟩ := bnd hf
      refine zk_iast (W1 := [iA G aa0 n0 z2]) C hW 0 g3 (Option.some.inj ez2) rfl rfl dJ7_fill_53178_13 (fun H locs hW => ?_)
      refine lv_iinc (v := (v2 + 1)) (lv' := [(2, .int (v2 + 1)), (0, .ref aa0), (1, .int v1), (3, .int v3)]) hx hb dJ7_fill_53178_14 hl (k := 2) rfl rfl (by decide) rfl (fun ls hl => ?_)
      refine lv_goto (tgt := 5) hx hb dJ7_fill_53178_17 (by decide) ?_
      exact ih (v2 + 1) z2 hf _ _ _ hW (lv_sub hl [1, 2, 0, 3] rfl)
set_option maxHeartbeats 4000000 in
set_option maxRecDepth 100000 in
theorem c_J7_fill_53178 (l : Launch) (G : GG) (aa0 : Nat) (n0 : Nat) (f0 : (Nat → Int32)) (a1 : Int32) (out : (Nat → Int32)) (hf : f_J7_fill_53178 n0 f0 a1 = some out) : CtV G l yJ7_fill_53178 (Cond.code yJ7_fill_53178 cJ7_fill_53178 4 none :: WL) (zR 0 0) [.ref aa0, .int a1] ([iA G aa0 n0 f0]) ([iA G aa0 n0 out]) := by
  refine CtV.mk (cc := cJ7_fill_53178) (nL := 4) (rt := none) (own := RJ7) (nm := "fill") (by decide) rfl rfl (Nat.le_of_ble_eq_true rfl) ?_
  intro p e s m below meth c A ls C hW hl
  have hx := C.1
  have hb := C.2.1
  have hl : lv_has ls 4 [(0, .ref aa0), (1, .int a1)] := hl
  unfold f_J7_fill_53178 at hf
  refine lv_iconst (v := 0) hx hb dJ7_fill_53178_0 (by decide) ?_
  refine lv_istore_n (lv' := [(2, .int 0), (0, .ref aa0), (1, .int a1)]) hx hb dJ7_fill_53178_1 rfl hl (by decide) rfl (fun ls hl => ?_)
  refine lv_aload_n hx hb dJ7_fill_53178_2 rfl (lv_at hl 1 rfl) ?_
  refine zk_alen C hW 0 rfl dJ7_fill_53178_3 ?_
  refine lv_istore_n (lv' := [(3, .int (Int32.ofNat n0)), (2, .int 0), (0, .ref aa0), (1, .int a1)]) hx hb dJ7_fill_53178_4 rfl hl (by decide) rfl (fun ls hl => ?_)
  refine w_J7_fill_53178_5 l G aa0 a1 (Int32.ofNat n0) n0 out C (fun w4_v2 w4_s0 hf H locs ls hW hl => ?_) FU 0 f0 hf _ _ _ hW (lv_sub hl [2, 3, 1, 0] rfl)
  obtain rfl := Option.some.inj hf
  exact zk_vret C hW dJ7_fill_53178_20

set_option maxHeartbeats 4000000 in
set_option maxRecDepth 100000 in
theorem c_X1_stateOf (l : Launch) (G : GG) (q : Nat → Nat) (t0 : zRD) (out : Int32) (hf : f_X1_stateOf t0 = some out) : CtI G l yX1_stateOf (Cond.code yX1_stateOf cX1_stateOf 1 (some .int) :: WL) (zR 0 0) [.ref (q 0)] (wX6 G q t0.1 t0.2.1 t0.2.2.1 t0.2.2.2.1 t0.2.2.2.2.1 t0.2.2.2.2.2) out (wX6 G q t0.1 t0.2.1 t0.2.2.1 t0.2.2.2.1 t0.2.2.2.2.1 t0.2.2.2.2.2) := by
  refine CtI.mk (cc := cX1_stateOf) (nL := 1) (rt := (some .int)) (own := RX1) (nm := "stateOf") (by decide) rfl rfl (Nat.le_of_ble_eq_true rfl) ?_
  intro p e s m below meth c A ls C hW hl
  have hx := C.1
  have hb := C.2.1
  have hl : lv_has ls 1 [(0, .ref (q 0))] := hl
  unfold f_X1_stateOf at hf
  refine lv_iconst (v := 2) hx hb dX1_stateOf_0 (by decide) ?_
  refine lv_aload_n hx hb dX1_stateOf_1 rfl (lv_at hl 0 rfl) ?_
  refine zk_get C hW fgX1_58 0 rfl rfl dX1_stateOf_2 ?_
  refine lv_iconst (v := 5) hx hb dX1_stateOf_5 (by decide) ?_
  refine lv_iadd hx hb dX1_stateOf_6 ?_
  refine lv_imul hx hb dX1_stateOf_7 ?_
  refine lv_aload_n hx hb dX1_stateOf_8 rfl (lv_at hl 0 rfl) ?_
  refine zk_get C hW fgX1_67 0 rfl rfl dX1_stateOf_9 ?_
  refine lv_if_eq (tgt := 19) hx hb dX1_stateOf_12 (by decide) (fun c1 => ?_) (fun c1 => ?_)
  · have hf := ipos c1 hf
    refine lv_iconst (v := 0) hx hb dX1_stateOf_19 (by decide) ?_
    refine lv_iadd hx hb dX1_stateOf_20 ?_
    obtain rfl := Option.some.inj hf
    exact zk_iret C hW rfl dX1_stateOf_21
  · have hf := ineg c1 hf
    refine lv_iconst (v := 1) hx hb dX1_stateOf_15 (by decide) ?_
    refine lv_goto (tgt := 20) hx hb dX1_stateOf_16 (by decide) ?_
    refine lv_iadd hx hb dX1_stateOf_20 ?_
    obtain rfl := Option.some.inj hf
    exact zk_iret C hW rfl dX1_stateOf_21

set_option maxHeartbeats 4000000 in
set_option maxRecDepth 100000 in
theorem c_X1_beginAt (l : Launch) (G : GG) (q : Nat → Nat) (t0 : zEN) (a0 : Int32) (out : zEN) (hf : f_X1_beginAt t0 a0 = some out) : CtV G l yX1_beginAt (Cond.code yX1_beginAt cX1_beginAt 2 none :: WL) (zR 1 21) [.ref (q 0), .int a0] (wX1 G q t0.1 t0.2.1 t0.2.2) (wX1 G q out.1 out.2.1 out.2.2) := by
  refine CtV.mk (cc := cX1_beginAt) (nL := 2) (rt := none) (own := RX1) (nm := "beginAt") (by decide) rfl rfl (Nat.le_of_ble_eq_true rfl) ?_
  intro p e s m below meth c A ls C hW hl
  have hx := C.1
  have hb := C.2.1
  have hl : lv_has ls 2 [(0, .ref (q 0)), (1, .int a0)] := hl
  unfold f_X1_beginAt at hf
  refine lv_aload_n hx hb dX1_beginAt_0 rfl (lv_at hl 0 rfl) ?_
  refine zk_get C hW fgX1_21 0 rfl rfl dX1_beginAt_1 ?_
  refine lv_iconst (v := (-1)) hx hb dX1_beginAt_4 (by decide) ?_
  obtain ⟨u1, eu1, hf⟩ := bnd hf
  refine zk_callV (As := [.int (-1)]) (rest := []) (W1 := wX1 G q t0.1 t0.2.1 u1) C hW hl mvX1_31 (c_X6_begin l G (fun k => q (k + 3)) t0.2.2 (-1) u1 eu1) ⟨(Nat.le_of_ble_eq_true rfl), (Nat.le_of_ble_eq_true rfl)⟩ ⟨rfl, rfl⟩ [3] rfl rfl rfl rfl (Nat.le_of_ble_eq_true rfl) (Nat.le_of_ble_eq_true rfl) rfl dX1_beginAt_5 ⟨Nat.zero_le _, Nat.zero_le _⟩ (fun H locs hW => ?_)
  refine lv_aload_n hx hb dX1_beginAt_8 rfl (lv_at hl 0 rfl) ?_
  refine zk_get C hW fgX1_21 0 rfl rfl dX1_beginAt_9 ?_
  refine lv_iload_n hx hb dX1_beginAt_12 rfl (lv_at hl 1 rfl) ?_
  refine lv_iconst (v := 2) hx hb dX1_beginAt_13 (by decide) ?_
  refine lv_idiv hx hb dX1_beginAt_14 (by decide) ?_
  refine lv_iconst (v := 5) hx hb dX1_beginAt_15 (by decide) ?_
  refine lv_isub hx hb dX1_beginAt_16 ?_
  obtain ⟨z2, ez2, hf⟩ := bnd hf
  refine zk_putI (W1 := wX1 G q t0.1 t0.2.1 (u1.1, z2, u1.2.2)) C hW fpX1_58 3 (Option.some.inj ez2) rfl (Nat.le_of_ble_eq_true rfl) rfl dX1_beginAt_17 (fun H locs hW => ?_)
  refine lv_aload_n hx hb dX1_beginAt_20 rfl (lv_at hl 0 rfl) ?_
  refine zk_get C hW fgX1_21 0 rfl rfl dX1_beginAt_21 ?_
  refine lv_iload_n hx hb dX1_beginAt_24 rfl (lv_at hl 1 rfl) ?_
  refine lv_iconst (v := 2) hx hb dX1_beginAt_25 (by decide) ?_
  refine lv_irem hx hb dX1_beginAt_26 (by decide) ?_
  refine lv_iconst (v := 1) hx hb dX1_beginAt_27 (by decide) ?_
  refine lv_icmp_ne (tgt := 35) hx hb dX1_beginAt_28 (by decide) (fun c3 => ?_) (fun c3 => ?_)
  · have hf := ineg c3 hf
    refine lv_iconst (v := 0) hx hb dX1_beginAt_35 (by decide) ?_
    refine zk_putZ (W1 := wX1 G q t0.1 t0.2.1 (u1.1, z2, false, u1.2.2.2)) C hW fpX1_67 3 false rfl rfl (Nat.le_of_ble_eq_true rfl) rfl dX1_beginAt_36 (fun H locs hW => ?_)
    obtain rfl := Option.some.inj hf
    exact zk_vret C hW dX1_beginAt_39
  · have hf := ipos c3 hf
    refine lv_iconst (v := 1) hx hb dX1_beginAt_31 (by decide) ?_
    refine lv_goto (tgt := 36) hx hb dX1_beginAt_32 (by decide) ?_
    refine zk_putZ (W1 := wX1 G q t0.1 t0.2.1 (u1.1, z2, true, u1.2.2.2)) C hW fpX1_67 3 true rfl rfl (Nat.le_of_ble_eq_true rfl) rfl dX1_beginAt_36 (fun H locs hW => ?_)
    obtain rfl := Option.some.inj hf
    exact zk_vret C hW dX1_beginAt_39

set_option maxHeartbeats 4000000 in
set_option maxRecDepth 100000 in
theorem w_X1_readUnknownWord_30 {p : Program} {e : Env} {s : State} {m : MethodId} {args : Array Value} {below : List Frame} {meth : Method} {c : Code} {A : Nat → Prop} (l : Launch) (G : GG) (q : Nat → Nat) (v1 : Int32) (out : zEN) (C : CX p s m args meth c cX1_readUnknownWord 4 RX1 none "readUnknownWord") {K : Int32 → (Nat → Int32) → (Nat → Int32) → zRD → Option (zEN)} (hK : ∀ (v2 : Int32) (s0_0 : (Nat → Int32)) (s0_1 : (Nat → Int32)) (s0_2 : zRD) , K v2 s0_0 s0_1 s0_2 = some out → ∀ (H : Heap) (locs : List Loc) (ls : Array Slot), KW G A s (wX1 G q s0_0 s0_1 s0_2) H locs → lv_has ls 4 [(0, .ref (q 0)), (1, .int v1)] → W p l e (zR 2 60) s m args below meth c H locs 0 0 (QV G A (wX1 G q out.1 out.2.1 out.2.2) below args s) (F0 m 88 ls [])) :
    ∀ (n : Nat) (v2 : Int32) (s0_0 : (Nat → Int32)) (s0_1 : (Nat → Int32)) (s0_2 : zRD) , lp_X1_readUnknownWord_30 v1 K n v2 s0_0 s0_1 s0_2 = some out → ∀ (H : Heap) (locs : List Loc) (ls : Array Slot), KW G A s (wX1 G q s0_0 s0_1 s0_2) H locs → lv_has ls 4 [(0, .ref (q 0)), (1, .int v1), (2, .int v2)] → W p l e (zR 2 60) s m args below meth c H locs 0 0 (QV G A (wX1 G q out.1 out.2.1 out.2.2) below args s) (F0 m 30 ls []) := by
  have hx := C.1
  have hb := C.2.1
  intro n
  induction n with
  | zero => intro v2 s0_0 s0_1 s0_2 hf; exact nomatch (show (none : Option (zEN)) = some out from hf)
  | succ n ih =>
    intro v2 s0_0 s0_1 s0_2 hf H locs ls hW hl
    rw [lp_X1_readUnknownWord_30] at hf
    refine lv_iload_n hx hb dX1_readUnknownWord_30 rfl (lv_at hl 2 rfl) ?_
    refine lv_bipush (v := 6) hx hb dX1_readUnknownWord_31 (by decide) ?_
    refine lv_icmp_ge (tgt := 88) hx hb dX1_readUnknownWord_33 (by decide) (fun c5 => ?_) (fun c5 => ?_)
    · have hf := ipos c5 hf
      exact hK v2 s0_0 s0_1 s0_2 hf _ _ _ hW (lv_sub hl [0, 1] rfl)
    · have hf := ineg c5 hf
      refine lv_aload_n hx hb dX1_readUnknownWord_36 rfl (lv_at hl 0 rfl) ?_
      refine lv_iload_n hx hb dX1_readUnknownWord_37 rfl (lv_at hl 1 rfl) ?_
      obtain ⟨u6, eu6, hf⟩ := bnd hf
      refine zk_callBV (As := [.int v1]) (rest := []) (W1 := wX1 G q u6.1 u6.2.1 u6.2.2) C hW hl mvX1_42 (c_X1_beginAt l G q (s0_0, s0_1, s0_2) v1 u6 eu6) ⟨(Nat.le_of_ble_eq_true rfl), (Nat.le_of_ble_eq_true rfl)⟩ ⟨rfl, rfl⟩ ([]) ([]) zE1 rfl rfl (Nat.le_of_ble_eq_true rfl) zE1r dX1_readUnknownWord_38 ⟨Nat.zero_le _, Nat.zero_le _⟩ (fun H locs hW => ?_)
      refine lv_aload_n hx hb dX1_readUnknownWord_41 rfl (lv_at hl 0 rfl) ?_
      refine zk_get C hW fgX1_21 0 rfl rfl dX1_readUnknownWord_42 ?_
      refine lv_iload_n hx hb dX1_readUnknownWord_45 rfl (lv_at hl 2 rfl) ?_
      obtain ⟨u7, eu7, hf⟩ := bnd hf
      refine zk_callV (As := [.int v2]) (rest := []) (W1 := wX1 G q u6.1 u6.2.1 u7) C hW hl mvX1_55 (c_X6_hear l G (fun k => q (k + 3)) u6.2.2 v2 u7 eu7) ⟨(Nat.le_of_ble_eq_true rfl), (Nat.le_of_ble_eq_true rfl)⟩ ⟨rfl, rfl⟩ [3] rfl rfl rfl rfl (Nat.le_of_ble_eq_true rfl) (Nat.le_of_ble_eq_true rfl) rfl dX1_readUnknownWord_46 ⟨Nat.zero_le _, Nat.zero_le _⟩ (fun H locs hW => ?_)
      refine lv_aload_n hx hb dX1_readUnknownWord_49 rfl (lv_at hl 0 rfl) ?_
      refine zk_get C hW fgX1_21 0 rfl rfl dX1_readUnknownWord_50 ?_
      obtain ⟨u8, eu8, hf⟩ := bnd hf
      refine zk_callSI (As := [.ref (q 3)]) (rest := []) (W1 := wX1 G q u6.1 u6.2.1 u7) C hW hl msX1_35 (c_X1_stateOf l G (fun k => q (k + 3)) u7 u8 eu8) ⟨(Nat.le_of_ble_eq_true rfl), (Nat.le_of_ble_eq_true rfl)⟩ ⟨rfl, rfl⟩ [3] rfl rfl rfl (Nat.le_of_ble_eq_true rfl) (Nat.le_of_ble_eq_true rfl) rfl dX1_readUnknownWord_53 ⟨Nat.zero_le _, Nat.zero_le _⟩ (fun H locs hW => ?_)
      refine lv_istore_n (lv' := [(3, .int u8), (0, .ref (q 0)), (1, .int v1), (2, .int v2)]) hx hb dX1_readUnknownWord_56 rfl hl (by decide) rfl (fun ls hl => ?_)
      refine lv_iload_n hx hb dX1_readUnknownWord_57 rfl (lv_at hl 0 rfl) ?_
      refine lv_if_lt (tgt := 82) hx hb dX1_readUnknownWord_58 (by decide) (fun c9 => ?_) (fun c9 => ?_)
      · have hf := ipos c9 hf
        refine lv_iinc (v := (v2 + 1)) (lv' := [(2, .int (v2 + 1)), (3, .int u8), (0, .ref (q 0)), (1, .int v1)]) hx hb dX1_readUnknownWord_82 hl (k := 3) rfl rfl (by decide) rfl (fun ls hl => ?_)
        refine lv_goto (tgt := 30) hx hb dX1_readUnknownWord_85 (by decide) ?_
        exact ih (v2 + 1) u6.1 u6.2.1 u7 hf _ _ _ hW (lv_sub hl [2, 3, 0] rfl)
      · have hf := ineg c9 hf
        refine lv_iload_n hx hb dX1_readUnknownWord_61 rfl (lv_at hl 0 rfl) ?_
        refine lv_bipush (v := 22) hx hb dX1_readUnknownWord_62 (by decide) ?_
        refine lv_icmp_ge (tgt := 82) hx hb dX1_readUnknownWord_64 (by decide) (fun c10 => ?_) (fun c10 => ?_)
        · have hf := ipos c10 hf
          refine lv_iinc (v := (v2 + 1)) (lv' := [(2, .int (v2 + 1)), (3, .int u8), (0, .ref (q 0)), (1, .int v1)]) hx hb dX1_readUnknownWord_82 hl (k := 3) rfl rfl (by decide) rfl (fun ls hl => ?_)
          refine lv_goto (tgt := 30) hx hb dX1_readUnknownWord_85 (by decide) ?_
          exact ih (v2 + 1) u6.1 u6.2.1 u7 hf _ _ _ hW (lv_sub hl [2, 3, 0] rfl)
        · have hf := ineg c10 hf
          refine lv_aload_n hx hb dX1_readUnknownWord_67 rfl (lv_at hl 1 rfl) ?_
          refine zk_get C hW fgX1_15 0 rfl rfl dX1_readUnknownWord_68 ?_
          refine lv_iload_n hx hb dX1_readUnknownWord_71 rfl (lv_at hl 0 rfl) ?_
          refine lv_dup2_11 hx hb dX1_readUnknownWord_72 rfl rfl ?_
          obtain ⟨g11, hf⟩ := grd hf
          refine zk_iald C hW 2 g11 rfl dX1_readUnknownWord_73 ?_
          refine lv_aload_n hx hb dX1_readUnknownWord_74 rfl (lv_at hl 1 rfl) ?_
          refine zk_get C hW fgX1_11 0 rfl rfl dX1_readUnknownWord_75 ?_
          refine lv_iload_n hx hb dX1_readUnknownWord_78 rfl (lv_at hl 2 rfl) ?_
          obtain ⟨g12, hf⟩ := grd hf
          refine zk_iald C hW 1 g12 rfl dX1_readUnknownWord_79 ?_
          refine lv_iadd hx hb dX1_readUnknownWord_80 ?_
          obtain ⟨g14, hf⟩ := grd hf
          obtain ⟨z13, ez13, hf⟩ := bnd hf
          refine zk_iast (W1 := wX1 G q u6.1 z13 u7) C hW 2 g14 (Option.some.inj ez13) rfl rfl dX1_readUnknownWord_81 (fun H locs hW => ?_)
          refine lv_iinc (v := (v2 + 1)) (lv' := [(2, .int (v2 + 1)), (3, .int u8), (0, .ref (q 0)), (1, .int v1)]) hx hb dX1_readUnknownWord_82 hl (k := 3) rfl rfl (by decide) rfl (fun ls hl => ?_)
          refine lv_goto (tgt := 30) hx hb dX1_readUnknownWord_85 (by decide) ?_
          exact ih (v2 + 1) u6.1 z13 u7 hf _ _ _ hW (lv_sub hl [2, 3, 0] rfl)
set_option maxHeartbeats 4000000 in
set_option maxRecDepth 100000 in
theorem w_X1_readUnknownWord_10 {p : Program} {e : Env} {s : State} {m : MethodId} {args : Array Value} {below : List Frame} {meth : Method} {c : Code} {A : Nat → Prop} (l : Launch) (G : GG) (q : Nat → Nat) (out : zEN) (C : CX p s m args meth c cX1_readUnknownWord 4 RX1 none "readUnknownWord") {K : Int32 → (Nat → Int32) → (Nat → Int32) → zRD → Option (zEN)} (hK : ∀ (v1 : Int32) (s0_0 : (Nat → Int32)) (s0_1 : (Nat → Int32)) (s0_2 : zRD) , K v1 s0_0 s0_1 s0_2 = some out → ∀ (H : Heap) (locs : List Loc) (ls : Array Slot), KW G A s (wX1 G q s0_0 s0_1 s0_2) H locs → lv_has ls 4 [(0, .ref (q 0))] → W p l e (zR 2 60) s m args below meth c H locs 0 0 (QV G A (wX1 G q out.1 out.2.1 out.2.2) below args s) (F0 m 94 ls [])) :
    ∀ (n : Nat) (v1 : Int32) (s0_0 : (Nat → Int32)) (s0_1 : (Nat → Int32)) (s0_2 : zRD) , lp_X1_readUnknownWord_10  K n v1 s0_0 s0_1 s0_2 = some out → ∀ (H : Heap) (locs : List Loc) (ls : Array Slot), KW G A s (wX1 G q s0_0 s0_1 s0_2) H locs → lv_has ls 4 [(0, .ref (q 0)), (1, .int v1)] → W p l e (zR 2 60) s m args below meth c H locs 0 0 (QV G A (wX1 G q out.1 out.2.1 out.2.2) below args s) (F0 m 10 ls []) := by
  have hx := C.1
  have hb := C.2.1
  intro n
  induction n with
  | zero => intro v1 s0_0 s0_1 s0_2 hf; exact nomatch (show (none : Option (zEN)) = some out from hf)
  | succ n ih =>
    intro v1 s0_0 s0_1 s0_2 hf H locs ls hW hl
    rw [lp_X1_readUnknownWord_10] at hf
    refine lv_iload_n hx hb dX1_readUnknownWord_10 rfl (lv_at hl 1 rfl) ?_
    refine lv_bipush (v := 22) hx hb dX1_readUnknownWord_11 (by decide) ?_
    refine lv_icmp_ge (tgt := 94) hx hb dX1_readUnknownWord_13 (by decide) (fun c2 => ?_) (fun c2 => ?_)
    · have hf := ipos c2 hf
      exact hK v1 s0_0 s0_1 s0_2 hf _ _ _ hW (lv_sub hl [0] rfl)
    · have hf := ineg c2 hf
      refine lv_aload_n hx hb dX1_readUnknownWord_16 rfl (lv_at hl 0 rfl) ?_
      refine zk_get C hW fgX1_11 0 rfl rfl dX1_readUnknownWord_17 ?_
      refine lv_iload_n hx hb dX1_readUnknownWord_20 rfl (lv_at hl 1 rfl) ?_
      obtain ⟨g3, hf⟩ := grd hf
      refine zk_iald C hW 1 g3 rfl dX1_readUnknownWord_21 ?_
      refine lv_if_ne (tgt := 28) hx hb dX1_readUnknownWord_22 (by decide) (fun c4 => ?_) (fun c4 => ?_)
      · have hf := ineg c4 hf
        refine lv_iconst (v := 0) hx hb dX1_readUnknownWord_28 (by decide) ?_
        refine lv_istore_n (lv' := [(2, .int 0), (0, .ref (q 0)), (1, .int v1)]) hx hb dX1_readUnknownWord_29 rfl hl (by decide) rfl (fun ls hl => ?_)
        refine w_X1_readUnknownWord_30 l G q v1 out C (fun w15_v2 w15_s0_0 w15_s0_1 w15_s0_2 hf H locs ls hW hl => ?_) FU 0 s0_0 s0_1 s0_2 hf _ _ _ hW (lv_sub hl [1, 2, 0] rfl)
        refine lv_iinc (v := (v1 + 1)) (lv' := [(1, .int (v1 + 1)), (0, .ref (q 0))]) hx hb dX1_readUnknownWord_88 hl (k := 1) rfl rfl (by decide) rfl (fun ls hl => ?_)
        refine lv_goto (tgt := 10) hx hb dX1_readUnknownWord_91 (by decide) ?_
        exact ih (v1 + 1) w15_s0_0 w15_s0_1 w15_s0_2 hf _ _ _ hW (lv_sub hl [1, 0] rfl)
      · have hf := ipos c4 hf
        refine lv_goto (tgt := 88) hx hb dX1_readUnknownWord_25 (by decide) ?_
        refine lv_iinc (v := (v1 + 1)) (lv' := [(1, .int (v1 + 1)), (0, .ref (q 0))]) hx hb dX1_readUnknownWord_88 hl (k := 1) rfl rfl (by decide) rfl (fun ls hl => ?_)
        refine lv_goto (tgt := 10) hx hb dX1_readUnknownWord_91 (by decide) ?_
        exact ih (v1 + 1) s0_0 s0_1 s0_2 hf _ _ _ hW (lv_sub hl [1, 0] rfl)
set_option maxHeartbeats 4000000 in
set_option maxRecDepth 100000 in
theorem c_X1_readUnknownWord (l : Launch) (G : GG) (q : Nat → Nat) (t0 : zEN) (out : zEN) (hf : f_X1_readUnknownWord t0 = some out) : CtV G l yX1_readUnknownWord (Cond.code yX1_readUnknownWord cX1_readUnknownWord 4 none :: WL) (zR 2 60) [.ref (q 0)] (wX1 G q t0.1 t0.2.1 t0.2.2) (wX1 G q out.1 out.2.1 out.2.2) := by
  refine CtV.mk (cc := cX1_readUnknownWord) (nL := 4) (rt := none) (own := RX1) (nm := "readUnknownWord") (by decide) rfl rfl (Nat.le_of_ble_eq_true rfl) ?_
  intro p e s m below meth c A ls C hW hl
  have hx := C.1
  have hb := C.2.1
  have hl : lv_has ls 4 [(0, .ref (q 0))] := hl
  unfold f_X1_readUnknownWord at hf
  refine lv_aload_n hx hb dX1_readUnknownWord_0 rfl (lv_at hl 0 rfl) ?_
  refine zk_get C hW fgX1_15 0 rfl rfl dX1_readUnknownWord_1 ?_
  refine lv_iconst (v := 0) hx hb dX1_readUnknownWord_4 (by decide) ?_
  obtain ⟨u1, eu1, hf⟩ := bnd hf
  refine zk_callSV (As := [.ref (q 2), .int 0]) (rest := []) (W1 := wX1 G q t0.1 u1 t0.2.2) C hW hl msX1_25 (c_J7_fill_53178 l G (q 2) 22 t0.2.1 0 u1 eu1) ⟨(Nat.le_of_ble_eq_true rfl), (Nat.le_of_ble_eq_true rfl)⟩ ⟨rfl, rfl⟩ [2] rfl rfl rfl (Nat.le_of_ble_eq_true rfl) (Nat.le_of_ble_eq_true rfl) rfl dX1_readUnknownWord_5 ⟨Nat.zero_le _, Nat.zero_le _⟩ (fun H locs hW => ?_)
  refine lv_iconst (v := 0) hx hb dX1_readUnknownWord_8 (by decide) ?_
  refine lv_istore_n (lv' := [(1, .int 0), (0, .ref (q 0))]) hx hb dX1_readUnknownWord_9 rfl hl (by decide) rfl (fun ls hl => ?_)
  refine w_X1_readUnknownWord_10 l G q  out C (fun w16_v1 w16_s0_0 w16_s0_1 w16_s0_2 hf H locs ls hW hl => ?_) FU 0 t0.1 u1 t0.2.2 hf _ _ _ hW (lv_sub hl [1, 0] rfl)
  refine lv_aload_n hx hb dX1_readUnknownWord_94 rfl (lv_at hl 0 rfl) ?_
  refine zk_get C hW fgX1_15 0 rfl rfl dX1_readUnknownWord_95 ?_
  refine lv_iconst (v := 0) hx hb dX1_readUnknownWord_98 (by decide) ?_
  refine lv_aload_n hx hb dX1_readUnknownWord_99 rfl (lv_at hl 0 rfl) ?_
  refine zk_get C hW fgX1_11 0 rfl rfl dX1_readUnknownWord_100 ?_
  refine lv_iconst (v := 0) hx hb dX1_readUnknownWord_103 (by decide) ?_
  refine lv_bipush (v := 22) hx hb dX1_readUnknownWord_104 (by decide) ?_
  obtain ⟨z17, ez17, hf⟩ := bnd hf
  refine zk_copy (W1 := wX1 G q z17 w16_s0_1 w16_s0_2) C hW hl 2 1 (by decide) (by decide) (by decide) (Option.some.inj ez17) ksX1_61 ks_n ks_s ks_i (Nat.le_of_ble_eq_true rfl) (Nat.le_of_ble_eq_true rfl) rfl rfl rfl dX1_readUnknownWord_106 (fun H locs hW => ?_)
  obtain rfl := Option.some.inj hf
  exact zk_vret C hW dX1_readUnknownWord_109

set_option maxHeartbeats 4000000 in
set_option maxRecDepth 100000 in
theorem w_X1_howMany_48 {p : Program} {e : Env} {s : State} {m : MethodId} {args : Array Value} {below : List Frame} {meth : Method} {c : Code} {A : Nat → Prop} (l : Launch) (G : GG) (q : Nat → Nat) (q1 : Nat → Nat) (v2 : Int32) (v3 : Int32) (v4 : Int32) (s1_0 : (Nat → Int32)) (s1_1 : Int32) (s1_2 : Int32) (out : Int32 × zEN) (C : CX p s m args meth c cX1_howMany 9 RX1 (some .int) "howMany") {K : Int32 → (Nat → Int32) → (Nat → Int32) → zRD → Option (Int32 × zEN)} (hK : ∀ (v6 : Int32) (s0_0 : (Nat → Int32)) (s0_1 : (Nat → Int32)) (s0_2 : zRD) , K v6 s0_0 s0_1 s0_2 = some out → ∀ (H : Heap) (locs : List Loc) (ls : Array Slot), KW G A s (wX1 G q s0_0 s0_1 s0_2 ++ wX3 G q1 s1_0 s1_1 s1_2) H locs → lv_has ls 9 [(0, .ref (q 0)), (1, .ref (q1 0)), (2, .int v2), (4, .int v4)] → W p l e (zR 3 83) s m args below meth c H locs 0 0 (QI G A out.1 (wX1 G q out.2.1 out.2.2.1 out.2.2.2 ++ wX3 G q1 ((s1_0, s1_1, s1_2).1) ((s1_0, s1_1, s1_2).2.1) ((s1_0, s1_1, s1_2).2.2)) below args s) (F0 m 64 ls [])) :
    ∀ (n : Nat) (v6 : Int32) (s0_0 : (Nat → Int32)) (s0_1 : (Nat → Int32)) (s0_2 : zRD) , lp_X1_howMany_48 v3 K n v6 s0_0 s0_1 s0_2 = some out → ∀ (H : Heap) (locs : List Loc) (ls : Array Slot), KW G A s (wX1 G q s0_0 s0_1 s0_2 ++ wX3 G q1 s1_0 s1_1 s1_2) H locs → lv_has ls 9 [(0, .ref (q 0)), (1, .ref (q1 0)), (2, .int v2), (3, .int v3), (4, .int v4), (6, .int v6)] → W p l e (zR 3 83) s m args below meth c H locs 0 0 (QI G A out.1 (wX1 G q out.2.1 out.2.2.1 out.2.2.2 ++ wX3 G q1 ((s1_0, s1_1, s1_2).1) ((s1_0, s1_1, s1_2).2.1) ((s1_0, s1_1, s1_2).2.2)) below args s) (F0 m 48 ls []) := by
  have hx := C.1
  have hb := C.2.1
  intro n
  induction n with
  | zero => intro v6 s0_0 s0_1 s0_2 hf; exact nomatch (show (none : Option (Int32 × zEN)) = some out from hf)
  | succ n ih =>
    intro v6 s0_0 s0_1 s0_2 hf H locs ls hW hl
    rw [lp_X1_howMany_48] at hf
    refine lv_iload hx hb dX1_howMany_48 (lv_at hl 5 rfl) ?_
    refine lv_iload_n hx hb dX1_howMany_50 rfl (lv_at hl 3 rfl) ?_
    refine lv_icmp_ge (tgt := 64) hx hb dX1_howMany_51 (by decide) (fun c5 => ?_) (fun c5 => ?_)
    · have hf := ipos c5 hf
      exact hK v6 s0_0 s0_1 s0_2 hf _ _ _ hW (lv_sub hl [0, 1, 2, 4] rfl)
    · have hf := ineg c5 hf
      refine lv_aload_n hx hb dX1_howMany_54 rfl (lv_at hl 0 rfl) ?_
      obtain ⟨u6, eu6, hf⟩ := bnd hf
      refine zk_callBV (As := []) (rest := []) (W1 := wX1 G q u6.1 u6.2.1 u6.2.2 ++ wX3 G q1 s1_0 s1_1 s1_2) C hW hl mvX1_39 (c_X1_readUnknownWord l G q (s0_0, s0_1, s0_2) u6 eu6) ⟨(Nat.le_of_ble_eq_true rfl), (Nat.le_of_ble_eq_true rfl)⟩ ⟨rfl, rfl⟩ ([]) (wX3 G q1 s1_0 s1_1 s1_2) zE2 rfl rfl (Nat.le_of_ble_eq_true rfl) zE2r dX1_howMany_55 ⟨Nat.zero_le _, Nat.zero_le _⟩ (fun H locs hW => ?_)
      refine lv_iinc (v := (v6 + 1)) (lv' := [(6, .int (v6 + 1)), (0, .ref (q 0)), (1, .ref (q1 0)), (2, .int v2), (3, .int v3), (4, .int v4)]) hx hb dX1_howMany_58 hl (k := 5) rfl rfl (by decide) rfl (fun ls hl => ?_)
      refine lv_goto (tgt := 48) hx hb dX1_howMany_61 (by decide) ?_
      exact ih (v6 + 1) u6.1 u6.2.1 u6.2.2 hf _ _ _ hW (lv_sub hl [1, 2, 3, 4, 5, 0] rfl)
set_option maxHeartbeats 4000000 in
set_option maxRecDepth 100000 in
theorem w_X1_howMany_104 {p : Program} {e : Env} {s : State} {m : MethodId} {args : Array Value} {below : List Frame} {meth : Method} {c : Code} {A : Nat → Prop} (l : Launch) (G : GG) (q : Nat → Nat) (q1 : Nat → Nat) (v2 : Int32) (v4 : Int32) (v6 : Int32) (v7 : Int32) (s0_0 : (Nat → Int32)) (s0_1 : (Nat → Int32)) (s1_0 : (Nat → Int32)) (s1_1 : Int32) (s1_2 : Int32) (out : Int32 × zEN) (C : CX p s m args meth c cX1_howMany 9 RX1 (some .int) "howMany") {K : Int32 → zRD → Option (Int32 × zEN)} (hK : ∀ (v8 : Int32) (s0_2 : zRD) , K v8 s0_2 = some out → ∀ (H : Heap) (locs : List Loc) (ls : Array Slot), KW G A s (wX1 G q s0_0 s0_1 s0_2 ++ wX3 G q1 s1_0 s1_1 s1_2) H locs → lv_has ls 9 [(0, .ref (q 0)), (1, .ref (q1 0)), (2, .int v2), (4, .int v4), (6, .int v6), (7, .int v7)] → W p l e (zR 3 83) s m args below meth c H locs 0 0 (QI G A out.1 (wX1 G q out.2.1 out.2.2.1 out.2.2.2 ++ wX3 G q1 ((s1_0, s1_1, s1_2).1) ((s1_0, s1_1, s1_2).2.1) ((s1_0, s1_1, s1_2).2.2)) below args s) (F0 m 132 ls [])) :
    ∀ (n : Nat) (v8 : Int32) (s0_2 : zRD) , lp_X1_howMany_104 s1_0 s1_1 s1_2 K n v8 s0_2 = some out → ∀ (H : Heap) (locs : List Loc) (ls : Array Slot), KW G A s (wX1 G q s0_0 s0_1 s0_2 ++ wX3 G q1 s1_0 s1_1 s1_2) H locs → lv_has ls 9 [(0, .ref (q 0)), (1, .ref (q1 0)), (2, .int v2), (4, .int v4), (6, .int v6), (7, .int v7), (8, .int v8)] → W p l e (zR 3 83) s m args below meth c H locs 0 0 (QI G A out.1 (wX1 G q out.2.1 out.2.2.1 out.2.2.2 ++ wX3 G q1 ((s1_0, s1_1, s1_2).1) ((s1_0, s1_1, s1_2).2.1) ((s1_0, s1_1, s1_2).2.2)) below args s) (F0 m 104 ls []) := by
  have hx := C.1
  have hb := C.2.1
  intro n
  induction n with
  | zero => intro v8 s0_2 hf; exact nomatch (show (none : Option (Int32 × zEN)) = some out from hf)
  | succ n ih =>
    intro v8 s0_2 hf H locs ls hW hl
    rw [lp_X1_howMany_104] at hf
    refine lv_iload hx hb dX1_howMany_104 (lv_at hl 6 rfl) ?_
    refine lv_aload_n hx hb dX1_howMany_106 rfl (lv_at hl 1 rfl) ?_
    refine zk_get C hW fgX1_45 4 rfl rfl dX1_howMany_107 ?_
    refine lv_icmp_ge (tgt := 132) hx hb dX1_howMany_110 (by decide) (fun c12 => ?_) (fun c12 => ?_)
    · have hf := ipos c12 hf
      exact hK v8 s0_2 hf _ _ _ hW (lv_sub hl [0, 1, 2, 3, 4, 5] rfl)
    · have hf := ineg c12 hf
      refine lv_aload_n hx hb dX1_howMany_113 rfl (lv_at hl 0 rfl) ?_
      refine zk_get C hW fgX1_21 0 rfl rfl dX1_howMany_114 ?_
      refine lv_aload_n hx hb dX1_howMany_117 rfl (lv_at hl 1 rfl) ?_
      refine lv_iload hx hb dX1_howMany_118 (lv_at hl 6 rfl) ?_
      obtain ⟨u13, eu13, hf⟩ := bnd hf
      refine zk_callBI (As := [.int v8]) (rest := [.ref (q 3)]) (W1 := wX1 G q s0_0 s0_1 s0_2 ++ wX3 G q1 s1_0 s1_1 s1_2) C hW hl mvX1_51 (c_X3_wordAt l G q1 (s1_0, s1_1, s1_2) v8 u13 eu13) ⟨(Nat.le_of_ble_eq_true rfl), (Nat.le_of_ble_eq_true rfl)⟩ ⟨rfl, rfl⟩ (wX1 G q s0_0 s0_1 s0_2) ([]) zE3 rfl rfl (Nat.le_of_ble_eq_true rfl) zE3r dX1_howMany_120 ⟨Nat.zero_le _, Nat.zero_le _⟩ (fun H locs hW => ?_)
      obtain ⟨u14, eu14, hf⟩ := bnd hf
      refine zk_callV (As := [.int u13]) (rest := []) (W1 := wX1 G q s0_0 s0_1 u14 ++ wX3 G q1 s1_0 s1_1 s1_2) C hW hl mvX1_55 (c_X6_hear l G (fun k => q (k + 3)) s0_2 u13 u14 eu14) ⟨(Nat.le_of_ble_eq_true rfl), (Nat.le_of_ble_eq_true rfl)⟩ ⟨rfl, rfl⟩ [3] rfl rfl rfl rfl (Nat.le_of_ble_eq_true rfl) (Nat.le_of_ble_eq_true rfl) rfl dX1_howMany_123 ⟨Nat.zero_le _, Nat.zero_le _⟩ (fun H locs hW => ?_)
      refine lv_iinc (v := (v8 + 1)) (lv' := [(8, .int (v8 + 1)), (0, .ref (q 0)), (1, .ref (q1 0)), (2, .int v2), (4, .int v4), (6, .int v6), (7, .int v7)]) hx hb dX1_howMany_126 hl (k := 6) rfl rfl (by decide) rfl (fun ls hl => ?_)
      refine lv_goto (tgt := 104) hx hb dX1_howMany_129 (by decide) ?_
      exact ih (v8 + 1) u14 hf _ _ _ hW (lv_sub hl [1, 2, 3, 4, 5, 6, 0] rfl)
set_option maxHeartbeats 4000000 in
set_option maxRecDepth 100000 in
theorem w_X1_howMany_70 {p : Program} {e : Env} {s : State} {m : MethodId} {args : Array Value} {below : List Frame} {meth : Method} {c : Code} {A : Nat → Prop} (l : Launch) (G : GG) (q : Nat → Nat) (q1 : Nat → Nat) (v2 : Int32) (v4 : Int32) (s1_0 : (Nat → Int32)) (s1_1 : Int32) (s1_2 : Int32) (out : Int32 × zEN) (C : CX p s m args meth c cX1_howMany 9 RX1 (some .int) "howMany") {K : Int32 → Int32 → (Nat → Int32) → (Nat → Int32) → zRD → Option (Int32 × zEN)} (hK : ∀ (v6 : Int32) (v7 : Int32) (s0_0 : (Nat → Int32)) (s0_1 : (Nat → Int32)) (s0_2 : zRD) , K v6 v7 s0_0 s0_1 s0_2 = some out → ∀ (H : Heap) (locs : List Loc) (ls : Array Slot), KW G A s (wX1 G q s0_0 s0_1 s0_2 ++ wX3 G q1 s1_0 s1_1 s1_2) H locs → lv_has ls 9 [(6, .int v6)] → W p l e (zR 3 83) s m args below meth c H locs 0 0 (QI G A out.1 (wX1 G q out.2.1 out.2.2.1 out.2.2.2 ++ wX3 G q1 ((s1_0, s1_1, s1_2).1) ((s1_0, s1_1, s1_2).2.1) ((s1_0, s1_1, s1_2).2.2)) below args s) (F0 m 162 ls [])) :
    ∀ (n : Nat) (v6 : Int32) (v7 : Int32) (s0_0 : (Nat → Int32)) (s0_1 : (Nat → Int32)) (s0_2 : zRD) , lp_X1_howMany_70 v2 v4 s1_0 s1_1 s1_2 K n v6 v7 s0_0 s0_1 s0_2 = some out → ∀ (H : Heap) (locs : List Loc) (ls : Array Slot), KW G A s (wX1 G q s0_0 s0_1 s0_2 ++ wX3 G q1 s1_0 s1_1 s1_2) H locs → lv_has ls 9 [(0, .ref (q 0)), (1, .ref (q1 0)), (2, .int v2), (4, .int v4), (6, .int v6), (7, .int v7)] → W p l e (zR 3 83) s m args below meth c H locs 0 0 (QI G A out.1 (wX1 G q out.2.1 out.2.2.1 out.2.2.2 ++ wX3 G q1 ((s1_0, s1_1, s1_2).1) ((s1_0, s1_1, s1_2).2.1) ((s1_0, s1_1, s1_2).2.2)) below args s) (F0 m 70 ls []) := by
  have hx := C.1
  have hb := C.2.1
  intro n
  induction n with
  | zero => intro v6 v7 s0_0 s0_1 s0_2 hf; exact nomatch (show (none : Option (Int32 × zEN)) = some out from hf)
  | succ n ih =>
    intro v6 v7 s0_0 s0_1 s0_2 hf H locs ls hW hl
    rw [lp_X1_howMany_70] at hf
    refine lv_iload hx hb dX1_howMany_70 (lv_at hl 5 rfl) ?_
    refine lv_bipush (v := 22) hx hb dX1_howMany_72 (by decide) ?_
    refine lv_icmp_ge (tgt := 162) hx hb dX1_howMany_74 (by decide) (fun c8 => ?_) (fun c8 => ?_)
    · have hf := ipos c8 hf
      exact hK v6 v7 s0_0 s0_1 s0_2 hf _ _ _ hW (lv_sub hl [4] rfl)
    · have hf := ineg c8 hf
      refine lv_aload_n hx hb dX1_howMany_77 rfl (lv_at hl 0 rfl) ?_
      refine zk_get C hW fgX1_11 0 rfl rfl dX1_howMany_78 ?_
      refine lv_iload hx hb dX1_howMany_81 (lv_at hl 5 rfl) ?_
      obtain ⟨g9, hf⟩ := grd hf
      refine zk_iald C hW 1 g9 rfl dX1_howMany_83 ?_
      refine lv_if_ne (tgt := 90) hx hb dX1_howMany_84 (by decide) (fun c10 => ?_) (fun c10 => ?_)
      · have hf := ineg c10 hf
        refine lv_aload_n hx hb dX1_howMany_90 rfl (lv_at hl 0 rfl) ?_
        refine lv_iload hx hb dX1_howMany_91 (lv_at hl 5 rfl) ?_
        obtain ⟨u11, eu11, hf⟩ := bnd hf
        refine zk_callBV (As := [.int v7]) (rest := []) (W1 := wX1 G q u11.1 u11.2.1 u11.2.2 ++ wX3 G q1 s1_0 s1_1 s1_2) C hW hl mvX1_42 (c_X1_beginAt l G q (s0_0, s0_1, s0_2) v7 u11 eu11) ⟨(Nat.le_of_ble_eq_true rfl), (Nat.le_of_ble_eq_true rfl)⟩ ⟨rfl, rfl⟩ ([]) (wX3 G q1 s1_0 s1_1 s1_2) zE2 rfl rfl (Nat.le_of_ble_eq_true rfl) zE2r dX1_howMany_93 ⟨Nat.zero_le _, Nat.zero_le _⟩ (fun H locs hW => ?_)
        refine lv_aload_n hx hb dX1_howMany_96 rfl (lv_at hl 1 rfl) ?_
        refine zk_get C hW fgX1_45 4 rfl rfl dX1_howMany_97 ?_
        refine lv_iload_n hx hb dX1_howMany_100 rfl (lv_at hl 2 rfl) ?_
        refine lv_isub hx hb dX1_howMany_101 ?_
        refine lv_istore (lv' := [(8, .int (s1_1 - v2)), (0, .ref (q 0)), (1, .ref (q1 0)), (2, .int v2), (4, .int v4), (6, .int v6), (7, .int v7)]) hx hb dX1_howMany_102 hl (by decide) rfl (fun ls hl => ?_)
        refine w_X1_howMany_104 l G q q1 v2 v4 v6 v7 u11.1 u11.2.1 s1_0 s1_1 s1_2 out C (fun w15_v8 w15_s0_2 hf H locs ls hW hl => ?_) FU (s1_1 - v2) u11.2.2 hf _ _ _ hW (lv_sub hl [1, 2, 3, 4, 5, 6, 0] rfl)
        refine lv_aload_n hx hb dX1_howMany_132 rfl (lv_at hl 0 rfl) ?_
        refine zk_get C hW fgX1_21 0 rfl rfl dX1_howMany_133 ?_
        refine zk_get C hW fgX1_58 3 rfl rfl dX1_howMany_136 ?_
        refine lv_iload hx hb dX1_howMany_139 (lv_at hl 3 rfl) ?_
        refine lv_icmp_ne (tgt := 156) hx hb dX1_howMany_141 (by decide) (fun c16 => ?_) (fun c16 => ?_)
        · have hf := ineg c16 hf
          refine lv_iinc (v := (v7 + 1)) (lv' := [(7, .int (v7 + 1)), (0, .ref (q 0)), (1, .ref (q1 0)), (2, .int v2), (4, .int v4), (6, .int v6)]) hx hb dX1_howMany_156 hl (k := 5) rfl rfl (by decide) rfl (fun ls hl => ?_)
          refine lv_goto (tgt := 70) hx hb dX1_howMany_159 (by decide) ?_
          exact ih v6 (v7 + 1) u11.1 u11.2.1 w15_s0_2 hf _ _ _ hW (lv_sub hl [1, 2, 3, 4, 5, 0] rfl)
        · have hf := ipos c16 hf
          refine lv_iload hx hb dX1_howMany_144 (lv_at hl 4 rfl) ?_
          refine lv_aload_n hx hb dX1_howMany_146 rfl (lv_at hl 0 rfl) ?_
          refine zk_get C hW fgX1_11 0 rfl rfl dX1_howMany_147 ?_
          refine lv_iload hx hb dX1_howMany_150 (lv_at hl 5 rfl) ?_
          obtain ⟨g17, hf⟩ := grd hf
          refine zk_iald C hW 1 g17 rfl dX1_howMany_152 ?_
          refine lv_iadd hx hb dX1_howMany_153 ?_
          refine lv_istore (lv' := [(6, .int (v6 + (u11.1 (Int32.toNatClampNeg v7)))), (0, .ref (q 0)), (1, .ref (q1 0)), (2, .int v2), (4, .int v4), (7, .int v7)]) hx hb dX1_howMany_154 hl (by decide) rfl (fun ls hl => ?_)
          refine lv_iinc (v := (v7 + 1)) (lv' := [(7, .int (v7 + 1)), (6, .int (v6 + (u11.1 (Int32.toNatClampNeg v7)))), (0, .ref (q 0)), (1, .ref (q1 0)), (2, .int v2), (4, .int v4)]) hx hb dX1_howMany_156 hl (k := 5) rfl rfl (by decide) rfl (fun ls hl => ?_)
          refine lv_goto (tgt := 70) hx hb dX1_howMany_159 (by decide) ?_
          exact ih (v6 + (u11.1 (Int32.toNatClampNeg v7))) (v7 + 1) u11.1 u11.2.1 w15_s0_2 hf _ _ _ hW (lv_sub hl [2, 3, 4, 5, 1, 0] rfl)
      · have hf := ipos c10 hf
        refine lv_goto (tgt := 156) hx hb dX1_howMany_87 (by decide) ?_
        refine lv_iinc (v := (v7 + 1)) (lv' := [(7, .int (v7 + 1)), (0, .ref (q 0)), (1, .ref (q1 0)), (2, .int v2), (4, .int v4), (6, .int v6)]) hx hb dX1_howMany_156 hl (k := 5) rfl rfl (by decide) rfl (fun ls hl => ?_)
        refine lv_goto (tgt := 70) hx hb dX1_howMany_159 (by decide) ?_
        exact ih v6 (v7 + 1) s0_0 s0_1 s0_2 hf _ _ _ hW (lv_sub hl [1, 2, 3, 4, 5, 0] rfl)
set_option maxHeartbeats 4000000 in
set_option maxRecDepth 100000 in
theorem c_X1_howMany (l : Launch) (G : GG) (q : Nat → Nat) (q1 : Nat → Nat) (t0 : zEN) (t1 : zLT) (a1 : Int32) (a2 : Int32) (a3 : Int32) (out : Int32 × zEN) (hf : f_X1_howMany t0 t1 a1 a2 a3 = some out) : CtI G l yX1_howMany (Cond.code yX1_howMany cX1_howMany 9 (some .int) :: WL) (zR 3 83) [.ref (q 0), .ref (q1 0), .int a1, .int a2, .int a3] (wX1 G q t0.1 t0.2.1 t0.2.2 ++ wX3 G q1 t1.1 t1.2.1 t1.2.2) out.1 (wX1 G q out.2.1 out.2.2.1 out.2.2.2 ++ wX3 G q1 t1.1 t1.2.1 t1.2.2) := by
  refine CtI.mk (cc := cX1_howMany) (nL := 9) (rt := (some .int)) (own := RX1) (nm := "howMany") (by decide) rfl rfl (Nat.le_of_ble_eq_true rfl) ?_
  intro p e s m below meth c A ls C hW hl
  have hx := C.1
  have hb := C.2.1
  have hl : lv_has ls 9 [(0, .ref (q 0)), (1, .ref (q1 0)), (2, .int a1), (3, .int a2), (4, .int a3)] := hl
  unfold f_X1_howMany at hf
  refine lv_aload_n hx hb dX1_howMany_0 rfl (lv_at hl 0 rfl) ?_
  refine zk_get C hW fgX1_11 0 rfl rfl dX1_howMany_1 ?_
  refine lv_iconst (v := 0) hx hb dX1_howMany_4 (by decide) ?_
  obtain ⟨u1, eu1, hf⟩ := bnd hf
  refine zk_callSV (As := [.ref (q 1), .int 0]) (rest := []) (W1 := wX1 G q u1 t0.2.1 t0.2.2 ++ wX3 G q1 t1.1 t1.2.1 t1.2.2) C hW hl msX1_25 (c_J7_fill_53178 l G (q 1) 22 t0.1 0 u1 eu1) ⟨(Nat.le_of_ble_eq_true rfl), (Nat.le_of_ble_eq_true rfl)⟩ ⟨rfl, rfl⟩ [1] rfl rfl rfl (Nat.le_of_ble_eq_true rfl) (Nat.le_of_ble_eq_true rfl) rfl dX1_howMany_5 ⟨Nat.zero_le _, Nat.zero_le _⟩ (fun H locs hW => ?_)
  refine lv_aload_n hx hb dX1_howMany_8 rfl (lv_at hl 0 rfl) ?_
  refine zk_get C hW fgX1_21 0 rfl rfl dX1_howMany_9 ?_
  refine lv_iconst (v := (-1)) hx hb dX1_howMany_12 (by decide) ?_
  obtain ⟨u2, eu2, hf⟩ := bnd hf
  refine zk_callV (As := [.int (-1)]) (rest := []) (W1 := wX1 G q u1 t0.2.1 u2 ++ wX3 G q1 t1.1 t1.2.1 t1.2.2) C hW hl mvX1_31 (c_X6_begin l G (fun k => q (k + 3)) t0.2.2 (-1) u2 eu2) ⟨(Nat.le_of_ble_eq_true rfl), (Nat.le_of_ble_eq_true rfl)⟩ ⟨rfl, rfl⟩ [3] rfl rfl rfl rfl (Nat.le_of_ble_eq_true rfl) (Nat.le_of_ble_eq_true rfl) rfl dX1_howMany_13 ⟨Nat.zero_le _, Nat.zero_le _⟩ (fun H locs hW => ?_)
  refine lv_aload_n hx hb dX1_howMany_16 rfl (lv_at hl 0 rfl) ?_
  refine zk_get C hW fgX1_21 0 rfl rfl dX1_howMany_17 ?_
  obtain ⟨u3, eu3, hf⟩ := bnd hf
  refine zk_callSI (As := [.ref (q 3)]) (rest := []) (W1 := wX1 G q u1 t0.2.1 u2 ++ wX3 G q1 t1.1 t1.2.1 t1.2.2) C hW hl msX1_35 (c_X1_stateOf l G (fun k => q (k + 3)) u2 u3 eu3) ⟨(Nat.le_of_ble_eq_true rfl), (Nat.le_of_ble_eq_true rfl)⟩ ⟨rfl, rfl⟩ [3] rfl rfl rfl (Nat.le_of_ble_eq_true rfl) (Nat.le_of_ble_eq_true rfl) rfl dX1_howMany_20 ⟨Nat.zero_le _, Nat.zero_le _⟩ (fun H locs hW => ?_)
  refine lv_istore (lv' := [(5, .int u3), (0, .ref (q 0)), (1, .ref (q1 0)), (2, .int a1), (3, .int a2), (4, .int a3)]) hx hb dX1_howMany_23 hl (by decide) rfl (fun ls hl => ?_)
  refine lv_iload hx hb dX1_howMany_25 (lv_at hl 0 rfl) ?_
  refine lv_if_lt (tgt := 45) hx hb dX1_howMany_27 (by decide) (fun c4 => ?_) (fun c4 => ?_)
  · have hf := ipos c4 hf
    refine lv_iload_n hx hb dX1_howMany_45 rfl (lv_at hl 3 rfl) ?_
    refine lv_istore (lv' := [(6, .int a1), (5, .int u3), (0, .ref (q 0)), (1, .ref (q1 0)), (2, .int a1), (3, .int a2), (4, .int a3)]) hx hb dX1_howMany_46 hl (by decide) rfl (fun ls hl => ?_)
    refine w_X1_howMany_48 l G q q1 a1 a2 a3 t1.1 t1.2.1 t1.2.2 out C (fun w7_v6 w7_s0_0 w7_s0_1 w7_s0_2 hf H locs ls hW hl => ?_) FU a1 u1 t0.2.1 u2 hf _ _ _ hW (lv_sub hl [2, 3, 4, 5, 6, 0] rfl)
    refine lv_iconst (v := 0) hx hb dX1_howMany_64 (by decide) ?_
    refine lv_istore (lv' := [(6, .int 0), (0, .ref (q 0)), (1, .ref (q1 0)), (2, .int a1), (4, .int a3)]) hx hb dX1_howMany_65 hl (by decide) rfl (fun ls hl => ?_)
    refine lv_iconst (v := 0) hx hb dX1_howMany_67 (by decide) ?_
    refine lv_istore (lv' := [(7, .int 0), (6, .int 0), (0, .ref (q 0)), (1, .ref (q1 0)), (2, .int a1), (4, .int a3)]) hx hb dX1_howMany_68 hl (by decide) rfl (fun ls hl => ?_)
    refine w_X1_howMany_70 l G q q1 a1 a3 t1.1 t1.2.1 t1.2.2 out C (fun w18_v6 w18_v7 w18_s0_0 w18_s0_1 w18_s0_2 hf H locs ls hW hl => ?_) FU 0 0 w7_s0_0 w7_s0_1 w7_s0_2 hf _ _ _ hW (lv_sub hl [2, 3, 4, 5, 1, 0] rfl)
    refine lv_iload hx hb dX1_howMany_162 (lv_at hl 0 rfl) ?_
    obtain rfl := Option.some.inj hf
    exact zk_iret C hW rfl dX1_howMany_164
  · have hf := ineg c4 hf
    refine lv_iload hx hb dX1_howMany_30 (lv_at hl 0 rfl) ?_
    refine lv_bipush (v := 22) hx hb dX1_howMany_32 (by decide) ?_
    refine lv_icmp_ge (tgt := 45) hx hb dX1_howMany_34 (by decide) (fun c19 => ?_) (fun c19 => ?_)
    · have hf := ipos c19 hf
      refine lv_iload_n hx hb dX1_howMany_45 rfl (lv_at hl 3 rfl) ?_
      refine lv_istore (lv' := [(6, .int a1), (5, .int u3), (0, .ref (q 0)), (1, .ref (q1 0)), (2, .int a1), (3, .int a2), (4, .int a3)]) hx hb dX1_howMany_46 hl (by decide) rfl (fun ls hl => ?_)
      refine w_X1_howMany_48 l G q q1 a1 a2 a3 t1.1 t1.2.1 t1.2.2 out C (fun w20_v6 w20_s0_0 w20_s0_1 w20_s0_2 hf H locs ls hW hl => ?_) FU a1 u1 t0.2.1 u2 hf _ _ _ hW (lv_sub hl [2, 3, 4, 5, 6, 0] rfl)
      refine lv_iconst (v := 0) hx hb dX1_howMany_64 (by decide) ?_
      refine lv_istore (lv' := [(6, .int 0), (0, .ref (q 0)), (1, .ref (q1 0)), (2, .int a1), (4, .int a3)]) hx hb dX1_howMany_65 hl (by decide) rfl (fun ls hl => ?_)
      refine lv_iconst (v := 0) hx hb dX1_howMany_67 (by decide) ?_
      refine lv_istore (lv' := [(7, .int 0), (6, .int 0), (0, .ref (q 0)), (1, .ref (q1 0)), (2, .int a1), (4, .int a3)]) hx hb dX1_howMany_68 hl (by decide) rfl (fun ls hl => ?_)
      refine w_X1_howMany_70 l G q q1 a1 a3 t1.1 t1.2.1 t1.2.2 out C (fun w21_v6 w21_v7 w21_s0_0 w21_s0_1 w21_s0_2 hf H locs ls hW hl => ?_) FU 0 0 w20_s0_0 w20_s0_1 w20_s0_2 hf _ _ _ hW (lv_sub hl [2, 3, 4, 5, 1, 0] rfl)
      refine lv_iload hx hb dX1_howMany_162 (lv_at hl 0 rfl) ?_
      obtain rfl := Option.some.inj hf
      exact zk_iret C hW rfl dX1_howMany_164
    · have hf := ineg c19 hf
      refine lv_aload_n hx hb dX1_howMany_37 rfl (lv_at hl 1 rfl) ?_
      refine zk_get C hW fgX1_11 0 rfl rfl dX1_howMany_38 ?_
      refine lv_iload hx hb dX1_howMany_41 (lv_at hl 0 rfl) ?_
      refine lv_iconst (v := 1) hx hb dX1_howMany_43 (by decide) ?_
      obtain ⟨g23, hf⟩ := grd hf
      obtain ⟨z22, ez22, hf⟩ := bnd hf
      refine zk_iast (W1 := wX1 G q z22 t0.2.1 u2 ++ wX3 G q1 t1.1 t1.2.1 t1.2.2) C hW 1 g23 (Option.some.inj ez22) rfl rfl dX1_howMany_44 (fun H locs hW => ?_)
      refine lv_iload_n hx hb dX1_howMany_45 rfl (lv_at hl 3 rfl) ?_
      refine lv_istore (lv' := [(6, .int a1), (5, .int u3), (0, .ref (q 0)), (1, .ref (q1 0)), (2, .int a1), (3, .int a2), (4, .int a3)]) hx hb dX1_howMany_46 hl (by decide) rfl (fun ls hl => ?_)
      refine w_X1_howMany_48 l G q q1 a1 a2 a3 t1.1 t1.2.1 t1.2.2 out C (fun w24_v6 w24_s0_0 w24_s0_1 w24_s0_2 hf H locs ls hW hl => ?_) FU a1 z22 t0.2.1 u2 hf _ _ _ hW (lv_sub hl [2, 3, 4, 5, 6, 0] rfl)
      refine lv_iconst (v := 0) hx hb dX1_howMany_64 (by decide) ?_
      refine lv_istore (lv' := [(6, .int 0), (0, .ref (q 0)), (1, .ref (q1 0)), (2, .int a1), (4, .int a3)]) hx hb dX1_howMany_65 hl (by decide) rfl (fun ls hl => ?_)
      refine lv_iconst (v := 0) hx hb dX1_howMany_67 (by decide) ?_
      refine lv_istore (lv' := [(7, .int 0), (6, .int 0), (0, .ref (q 0)), (1, .ref (q1 0)), (2, .int a1), (4, .int a3)]) hx hb dX1_howMany_68 hl (by decide) rfl (fun ls hl => ?_)
      refine w_X1_howMany_70 l G q q1 a1 a3 t1.1 t1.2.1 t1.2.2 out C (fun w25_v6 w25_v7 w25_s0_0 w25_s0_1 w25_s0_2 hf H locs ls hW hl => ?_) FU 0 0 w24_s0_0 w24_s0_1 w24_s0_2 hf _ _ _ hW (lv_sub hl [2, 3, 4, 5, 1, 0] rfl)
      refine lv_iload hx hb dX1_howMany_162 (lv_at hl 0 rfl) ?_
      obtain rfl := Option.some.inj hf
      exact zk_iret C hW rfl dX1_howMany_164
