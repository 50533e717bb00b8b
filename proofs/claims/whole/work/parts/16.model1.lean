set_option maxHeartbeats 4000000 in
set_option maxRecDepth 100000 in
theorem c_X10_in (l : Launch) (G : GG) (a0 : Int64) (a1 : Int64) (a2 : Int64) (out : Bool) (hf : f_X10_in a0 a1 a2 = some out) : CtI G l yX10_in (Cond.code yX10_in cX10_in 6 (some .boolean) :: WL) (zR 0 0) [.long a0, .long a1, .long a2] ([]) (bI out) ([]) := by
  refine CtI.mk (cc := cX10_in) (nL := 6) (rt := (some .boolean)) (own := RX10) (nm := "in") (by decide) rfl rfl (Nat.le_of_ble_eq_true rfl) ?_
  intro p e s m below meth c A ls C hW hl
  have hx := C.1
  have hb := C.2.1
  have hl : lv_has ls 6 [(0, .long a0), (2, .long a1), (4, .long a2)] := hl
  unfold f_X10_in at hf
  refine lv_lload_n hx hb dX10_in_0 rfl (lv_at hl 0 rfl) ?_
  refine lv_lload_n hx hb dX10_in_1 rfl (lv_at hl 1 rfl) ?_
  refine W.lcmp hx hb dX10_in_2 ?_
  refine lv_if_lt (tgt := 17) hx hb dX10_in_3 (by decide) (fun c1 => ?_) (fun c1 => ?_)
  · have hf := ipos c1 hf
    refine lv_iconst (v := 0) hx hb dX10_in_17 (by decide) ?_
    obtain rfl := Option.some.inj hf
    exact zk_zret false C hW rfl dX10_in_18
  · have hf := ineg c1 hf
    refine lv_lload_n hx hb dX10_in_6 rfl (lv_at hl 0 rfl) ?_
    refine lv_lload hx hb dX10_in_7 (lv_at hl 2 rfl) ?_
    refine W.lcmp hx hb dX10_in_9 ?_
    refine lv_if_gt (tgt := 17) hx hb dX10_in_10 (by decide) (fun c2 => ?_) (fun c2 => ?_)
    · have hf := ipos c2 hf
      refine lv_iconst (v := 0) hx hb dX10_in_17 (by decide) ?_
      obtain rfl := Option.some.inj hf
      exact zk_zret false C hW rfl dX10_in_18
    · have hf := ineg c2 hf
      refine lv_iconst (v := 1) hx hb dX10_in_13 (by decide) ?_
      refine lv_goto (tgt := 18) hx hb dX10_in_14 (by decide) ?_
      obtain rfl := Option.some.inj hf
      exact zk_zret true C hW rfl dX10_in_18

set_option maxHeartbeats 4000000 in
set_option maxRecDepth 100000 in
theorem w_X10_copy_2 {p : Program} {e : Env} {s : State} {m : MethodId} {args : Array Value} {below : List Frame} {meth : Method} {c : Code} {A : Nat → Prop} (l : Launch) (G : GG) (aa0 : Nat) (aa1 : Nat) (s0 : (Nat → Int32)) (n0 : Nat) (n1 : Nat) (out : (Nat → Int32)) (C : CX p s m args meth c cX10_copy 3 RX10 none "copy") {K : Int32 → (Nat → Int32) → Option ((Nat → Int32))} (hK : ∀ (v2 : Int32) (s1 : (Nat → Int32)) , K v2 s1 = some out → ∀ (H : Heap) (locs : List Loc) (ls : Array Slot), KW G A s ([iA G aa0 n0 s0] ++ [iA G aa1 n1 s1]) H locs → lv_has ls 3 [] → W p l e (zR 0 0) s m args below meth c H locs 0 0 (QV G A ([iA G aa0 n0 s0] ++ [iA G aa1 n1 out]) below args s) (F0 m 20 ls [])) :
    ∀ (n : Nat) (v2 : Int32) (s1 : (Nat → Int32)) , lp_X10_copy_2 s0 n0 n1 K n v2 s1 = some out → ∀ (H : Heap) (locs : List Loc) (ls : Array Slot), KW G A s ([iA G aa0 n0 s0] ++ [iA G aa1 n1 s1]) H locs → lv_has ls 3 [(0, .ref aa0), (1, .ref aa1), (2, .int v2)] → W p l e (zR 0 0) s m args below meth c H locs 0 0 (QV G A ([iA G aa0 n0 s0] ++ [iA G aa1 n1 out]) below args s) (F0 m 2 ls []) := by
  have hx := C.1
  have hb := C.2.1
  intro n
  induction n with
  | zero => intro v2 s1 hf; exact nomatch (show (none : Option ((Nat → Int32))) = some out from hf)
  | succ n ih =>
    intro v2 s1 hf H locs ls hW hl
    rw [lp_X10_copy_2] at hf
    refine lv_iload_n hx hb dX10_copy_2 rfl (lv_at hl 2 rfl) ?_
    refine lv_aload_n hx hb dX10_copy_3 rfl (lv_at hl 0 rfl) ?_
    refine zk_alen C hW 0 rfl dX10_copy_4 ?_
    refine lv_icmp_ge (tgt := 20) hx hb dX10_copy_5 (by decide) (fun c1 => ?_) (fun c1 => ?_)
    · have hf := ipos c1 hf
      exact hK v2 s1 hf _ _ _ hW (lv_sub hl [] rfl)
    · have hf := ineg c1 hf
      refine lv_aload_n hx hb dX10_copy_8 rfl (lv_at hl 1 rfl) ?_
      refine lv_iload_n hx hb dX10_copy_9 rfl (lv_at hl 2 rfl) ?_
      refine lv_aload_n hx hb dX10_copy_10 rfl (lv_at hl 0 rfl) ?_
      refine lv_iload_n hx hb dX10_copy_11 rfl (lv_at hl 2 rfl) ?_
      obtain ⟨g2, hf⟩ := grd hf
      refine zk_iald C hW 0 g2 rfl dX10_copy_12 ?_
      obtain ⟨g4, hf⟩ := grd hf
      obtain ⟨z3, ez3, hf⟩ := bnd hf
      refine zk_iast (W1 := [iA G aa0 n0 s0] ++ [iA G aa1 n1 z3]) C hW 1 g4 (Option.some.inj ez3) rfl rfl dX10_copy_13 (fun H locs hW => ?_)
      refine lv_iinc (v := (v2 + 1)) (lv' := [(2, .int (v2 + 1)), (0, .ref aa0), (1, .ref aa1)]) hx hb dX10_copy_14 hl (k := 2) rfl rfl (by decide) rfl (fun ls hl => ?_)
      refine lv_goto (tgt := 2) hx hb dX10_copy_17 (by decide) ?_
      exact ih (v2 + 1) z3 hf _ _ _ hW (lv_sub hl [1, 2, 0] rfl)
set_option maxHeartbeats 4000000 in
set_option maxRecDepth 100000 in
theorem c_X10_copy (l : Launch) (G : GG) (aa0 : Nat) (aa1 : Nat) (n0 : Nat) (f0 : (Nat → Int32)) (n1 : Nat) (f1 : (Nat → Int32)) (out : (Nat → Int32)) (hf : f_X10_copy n0 f0 n1 f1 = some out) : CtV G l yX10_copy (Cond.code yX10_copy cX10_copy 3 none :: WL) (zR 0 0) [.ref aa0, .ref aa1] ([iA G aa0 n0 f0] ++ [iA G aa1 n1 f1]) ([iA G aa0 n0 f0] ++ [iA G aa1 n1 out]) := by
  refine CtV.mk (cc := cX10_copy) (nL := 3) (rt := none) (own := RX10) (nm := "copy") (by decide) rfl rfl (Nat.le_of_ble_eq_true rfl) ?_
  intro p e s m below meth c A ls C hW hl
  have hx := C.1
  have hb := C.2.1
  have hl : lv_has ls 3 [(0, .ref aa0), (1, .ref aa1)] := hl
  unfold f_X10_copy at hf
  refine lv_iconst (v := 0) hx hb dX10_copy_0 (by decide) ?_
  refine lv_istore_n (lv' := [(2, .int 0), (0, .ref aa0), (1, .ref aa1)]) hx hb dX10_copy_1 rfl hl (by decide) rfl (fun ls hl => ?_)
  refine w_X10_copy_2 l G aa0 aa1 f0 n0 n1 out C (fun w5_v2 w5_s1 hf H locs ls hW hl => ?_) FU 0 f1 hf _ _ _ hW (lv_sub hl [1, 2, 0] rfl)
  obtain rfl := Option.some.inj hf
  exact zk_vret C hW dX10_copy_20

set_option maxHeartbeats 4000000 in
set_option maxRecDepth 100000 in
theorem c_X10_letter (l : Launch) (G : GG) (q : Nat → Nat) (m0 : (Nat → Int32)) (m1 : Int32) (m2 : Int32) (m3 : Int32) (m4 : Int32) (m5 : Int32) (m6 : Int32) (m7 : Int32) (m8 : (Nat → Int32)) (m9 : Int32) (m10 : (Nat → Int32)) (m11 : Int32) (m12 : Bool) (m13 : Int32) (m14 : Int32) (m15 : Bool) (m16 : Int32) (m17 : (Nat → Int32)) (m18 : Int32) (m19 : (Nat → Int32)) (m20 : (Nat → Int32)) (m21 : Int32) (m22 : Int32) (m23 : Int32) (m24 : Int32) (m25 : Int32) (m26 : Int32) (m27 : (Nat → Int32)) (m28 : (Nat → Int32)) (m29 : Int64) (a0 : Int32) (out : Int32 × (Nat → Int32) × Int32) (hf : f_X10_letter m0 m1 a0 = some out) : CtI G l yX10_letter (Cond.code yX10_letter cX10_letter 2 (some .int) :: WL) (zR 1 25) [.ref (q 0), .int a0] (wX10 G q m0 m1 m2 m3 m4 m5 m6 m7 m8 m9 m10 m11 m12 m13 m14 m15 m16 m17 m18 m19 m20 m21 m22 m23 m24 m25 m26 m27 m28 m29) out.1 (wX10 G q out.2.1 out.2.2 m2 m3 m4 m5 m6 m7 m8 m9 m10 m11 m12 m13 m14 m15 m16 m17 m18 m19 m20 m21 m22 m23 m24 m25 m26 m27 m28 m29) := by
  refine CtI.mk (cc := cX10_letter) (nL := 2) (rt := (some .int)) (own := RX10) (nm := "letter") (by decide) rfl rfl (Nat.le_of_ble_eq_true rfl) ?_
  intro p e s m below meth c A ls C hW hl
  have hx := C.1
  have hb := C.2.1
  have hl : lv_has ls 2 [(0, .ref (q 0)), (1, .int a0)] := hl
  unfold f_X10_letter at hf
  refine lv_iload_n hx hb dX10_letter_0 rfl (lv_at hl 1 rfl) ?_
  refine lv_i2l (v := (Int32.toInt64 a0)) hx hb dX10_letter_1 rfl ?_
  refine lv_lconst (v := 1) hx hb dX10_letter_2 (by decide) ?_
  refine lv_ldc2 hx hb C.2.2.2.1 (C.2.2.2.2.1 _ klX10_38) dX10_letter_3 ?_
  obtain ⟨u1, eu1, hf⟩ := bnd hf
  refine zk_callSI (As := [.long (Int32.toInt64 a0), .long 1, .long 126]) (rest := []) (W1 := wX10 G q m0 m1 m2 m3 m4 m5 m6 m7 m8 m9 m10 m11 m12 m13 m14 m15 m16 m17 m18 m19 m20 m21 m22 m23 m24 m25 m26 m27 m28 m29) C hW hl msX10_40 (c_X10_in l G (Int32.toInt64 a0) 1 126 u1 eu1) ⟨(Nat.le_of_ble_eq_true rfl), (Nat.le_of_ble_eq_true rfl)⟩ ⟨rfl, rfl⟩ [] rfl rfl rfl (Nat.le_of_ble_eq_true rfl) (Nat.le_of_ble_eq_true rfl) rfl dX10_letter_6 ⟨Nat.zero_le _, Nat.zero_le _⟩ (fun H locs hW => ?_)
  refine lv_if_ne (tgt := 15) hx hb dX10_letter_9 (by decide) (fun c2 => ?_) (fun c2 => ?_)
  · have hf := ineg c2 hf
    refine lv_aload_n hx hb dX10_letter_15 rfl (lv_at hl 0 rfl) ?_
    refine zk_get C hW fgX10_44 0 rfl rfl dX10_letter_16 ?_
    refine lv_bipush (v := 12) hx hb dX10_letter_19 (by decide) ?_
    refine lv_icmp_ne (tgt := 27) hx hb dX10_letter_21 (by decide) (fun c3 => ?_) (fun c3 => ?_)
    · have hf := ineg c3 hf
      refine lv_aload_n hx hb dX10_letter_27 rfl (lv_at hl 0 rfl) ?_
      refine zk_get C hW fgX10_7 0 rfl rfl dX10_letter_28 ?_
      refine lv_aload_n hx hb dX10_letter_31 rfl (lv_at hl 0 rfl) ?_
      refine zk_get C hW fgX10_44 0 rfl rfl dX10_letter_32 ?_
      refine lv_iload_n hx hb dX10_letter_35 rfl (lv_at hl 1 rfl) ?_
      obtain ⟨g5, hf⟩ := grd hf
      obtain ⟨z4, ez4, hf⟩ := bnd hf
      refine zk_iast (W1 := wX10 G q z4 m1 m2 m3 m4 m5 m6 m7 m8 m9 m10 m11 m12 m13 m14 m15 m16 m17 m18 m19 m20 m21 m22 m23 m24 m25 m26 m27 m28 m29) C hW 1 g5 (Option.some.inj ez4) rfl rfl dX10_letter_36 (fun H locs hW => ?_)
      refine lv_aload_n hx hb dX10_letter_37 rfl (lv_at hl 0 rfl) ?_
      refine lv_dup hx hb dX10_letter_38 rfl ?_
      refine zk_get C hW fgX10_44 0 rfl rfl dX10_letter_39 ?_
      refine lv_iconst (v := 1) hx hb dX10_letter_42 (by decide) ?_
      refine lv_iadd hx hb dX10_letter_43 ?_
      obtain ⟨z6, ez6, hf⟩ := bnd hf
      refine zk_putI (W1 := wX10 G q z4 z6 m2 m3 m4 m5 m6 m7 m8 m9 m10 m11 m12 m13 m14 m15 m16 m17 m18 m19 m20 m21 m22 m23 m24 m25 m26 m27 m28 m29) C hW fpX10_44 0 (Option.some.inj ez6) rfl (Nat.le_of_ble_eq_true rfl) rfl dX10_letter_44 (fun H locs hW => ?_)
      refine lv_aload_n hx hb dX10_letter_47 rfl (lv_at hl 0 rfl) ?_
      refine zk_get C hW fgX10_44 0 rfl rfl dX10_letter_48 ?_
      obtain rfl := Option.some.inj hf
      exact zk_iret C hW rfl dX10_letter_51
    · have hf := ipos c3 hf
      refine lv_bipush (v := (-104)) hx hb dX10_letter_24 (by decide) ?_
      obtain rfl := Option.some.inj hf
      exact zk_iret C hW rfl dX10_letter_26
  · have hf := ipos c2 hf
    refine lv_bipush (v := (-102)) hx hb dX10_letter_12 (by decide) ?_
    obtain rfl := Option.some.inj hf
    exact zk_iret C hW rfl dX10_letter_14

set_option maxHeartbeats 4000000 in
set_option maxRecDepth 100000 in
theorem c_X10_blank (l : Launch) (G : GG) (q : Nat → Nat) (m0 : (Nat → Int32)) (m1 : Int32) (m2 : Int32) (m3 : Int32) (m4 : Int32) (m5 : Int32) (m6 : Int32) (m7 : Int32) (m8 : (Nat → Int32)) (m9 : Int32) (m10 : (Nat → Int32)) (m11 : Int32) (m12 : Bool) (m13 : Int32) (m14 : Int32) (m15 : Bool) (m16 : Int32) (m17 : (Nat → Int32)) (m18 : Int32) (m19 : (Nat → Int32)) (m20 : (Nat → Int32)) (m21 : Int32) (m22 : Int32) (m23 : Int32) (m24 : Int32) (m25 : Int32) (m26 : Int32) (m27 : (Nat → Int32)) (m28 : (Nat → Int32)) (m29 : Int64) (out : Int32 × Int32) (hf : f_X10_blank m1 = some out) : CtI G l yX10_blank (Cond.code yX10_blank cX10_blank 2 (some .int) :: WL) (zR 0 0) [.ref (q 0)] (wX10 G q m0 m1 m2 m3 m4 m5 m6 m7 m8 m9 m10 m11 m12 m13 m14 m15 m16 m17 m18 m19 m20 m21 m22 m23 m24 m25 m26 m27 m28 m29) out.1 (wX10 G q m0 out.2 m2 m3 m4 m5 m6 m7 m8 m9 m10 m11 m12 m13 m14 m15 m16 m17 m18 m19 m20 m21 m22 m23 m24 m25 m26 m27 m28 m29) := by
  refine CtI.mk (cc := cX10_blank) (nL := 2) (rt := (some .int)) (own := RX10) (nm := "blank") (by decide) rfl rfl (Nat.le_of_ble_eq_true rfl) ?_
  intro p e s m below meth c A ls C hW hl
  have hx := C.1
  have hb := C.2.1
  have hl : lv_has ls 2 [(0, .ref (q 0))] := hl
  unfold f_X10_blank at hf
  refine lv_aload_n hx hb dX10_blank_0 rfl (lv_at hl 0 rfl) ?_
  refine zk_get C hW fgX10_44 0 rfl rfl dX10_blank_1 ?_
  refine lv_istore_n (lv' := [(1, .int m1), (0, .ref (q 0))]) hx hb dX10_blank_4 rfl hl (by decide) rfl (fun ls hl => ?_)
  refine lv_aload_n hx hb dX10_blank_5 rfl (lv_at hl 1 rfl) ?_
  refine lv_iconst (v := 0) hx hb dX10_blank_6 (by decide) ?_
  refine zk_putI (W1 := wX10 G q m0 0 m2 m3 m4 m5 m6 m7 m8 m9 m10 m11 m12 m13 m14 m15 m16 m17 m18 m19 m20 m21 m22 m23 m24 m25 m26 m27 m28 m29) C hW fpX10_44 0 rfl rfl (Nat.le_of_ble_eq_true rfl) rfl dX10_blank_7 (fun H locs hW => ?_)
  refine lv_iload_n hx hb dX10_blank_10 rfl (lv_at hl 0 rfl) ?_
  obtain rfl := Option.some.inj hf
  exact zk_iret C hW rfl dX10_blank_11

set_option maxHeartbeats 4000000 in
set_option maxRecDepth 100000 in
theorem c_X10_wordBy (l : Launch) (G : GG) (a0 : Int32) (out : Int32) (hf : f_X10_wordBy a0 = some out) : CtI G l yX10_wordBy (Cond.code yX10_wordBy cX10_wordBy 1 (some .int) :: WL) (zR 0 0) [.int a0] ([]) out ([]) := by
  refine CtI.mk (cc := cX10_wordBy) (nL := 1) (rt := (some .int)) (own := RX10) (nm := "wordBy") (by decide) rfl rfl (Nat.le_of_ble_eq_true rfl) ?_
  intro p e s m below meth c A ls C hW hl
  have hx := C.1
  have hb := C.2.1
  have hl : lv_has ls 1 [(0, .int a0)] := hl
  unfold f_X10_wordBy at hf
  refine lv_iload_n hx hb dX10_wordBy_0 rfl (lv_at hl 0 rfl) ?_
  refine lv_bipush (v := 121) hx hb dX10_wordBy_1 (by decide) ?_
  refine lv_icmp_ne (tgt := 10) hx hb dX10_wordBy_3 (by decide) (fun c1 => ?_) (fun c1 => ?_)
  · have hf := ineg c1 hf
    refine lv_iload_n hx hb dX10_wordBy_10 rfl (lv_at hl 0 rfl) ?_
    refine lv_bipush (v := 110) hx hb dX10_wordBy_11 (by decide) ?_
    refine lv_icmp_ne (tgt := 20) hx hb dX10_wordBy_13 (by decide) (fun c2 => ?_) (fun c2 => ?_)
    · have hf := ineg c2 hf
      refine lv_iload_n hx hb dX10_wordBy_20 rfl (lv_at hl 0 rfl) ?_
      refine lv_bipush (v := 116) hx hb dX10_wordBy_21 (by decide) ?_
      refine lv_icmp_ne (tgt := 30) hx hb dX10_wordBy_23 (by decide) (fun c3 => ?_) (fun c3 => ?_)
      · have hf := ineg c3 hf
        refine lv_iload_n hx hb dX10_wordBy_30 rfl (lv_at hl 0 rfl) ?_
        refine lv_bipush (v := 117) hx hb dX10_wordBy_31 (by decide) ?_
        refine lv_icmp_ne (tgt := 40) hx hb dX10_wordBy_33 (by decide) (fun c4 => ?_) (fun c4 => ?_)
        · have hf := ineg c4 hf
          refine lv_iload_n hx hb dX10_wordBy_40 rfl (lv_at hl 0 rfl) ?_
          refine lv_bipush (v := 100) hx hb dX10_wordBy_41 (by decide) ?_
          refine lv_icmp_ne (tgt := 50) hx hb dX10_wordBy_43 (by decide) (fun c5 => ?_) (fun c5 => ?_)
          · have hf := ineg c5 hf
            refine lv_iload_n hx hb dX10_wordBy_50 rfl (lv_at hl 0 rfl) ?_
            refine lv_bipush (v := 46) hx hb dX10_wordBy_51 (by decide) ?_
            refine lv_icmp_ne (tgt := 60) hx hb dX10_wordBy_53 (by decide) (fun c6 => ?_) (fun c6 => ?_)
            · have hf := ineg c6 hf
              refine lv_iconst (v := (-1)) hx hb dX10_wordBy_60 (by decide) ?_
              obtain rfl := Option.some.inj hf
              exact zk_iret C hW rfl dX10_wordBy_61
            · have hf := ipos c6 hf
              refine lv_iconst (v := 5) hx hb dX10_wordBy_56 (by decide) ?_
              refine lv_goto (tgt := 61) hx hb dX10_wordBy_57 (by decide) ?_
              obtain rfl := Option.some.inj hf
              exact zk_iret C hW rfl dX10_wordBy_61
          · have hf := ipos c5 hf
            refine lv_iconst (v := 4) hx hb dX10_wordBy_46 (by decide) ?_
            refine lv_goto (tgt := 61) hx hb dX10_wordBy_47 (by decide) ?_
            obtain rfl := Option.some.inj hf
            exact zk_iret C hW rfl dX10_wordBy_61
        · have hf := ipos c4 hf
          refine lv_iconst (v := 3) hx hb dX10_wordBy_36 (by decide) ?_
          refine lv_goto (tgt := 61) hx hb dX10_wordBy_37 (by decide) ?_
          obtain rfl := Option.some.inj hf
          exact zk_iret C hW rfl dX10_wordBy_61
      · have hf := ipos c3 hf
        refine lv_iconst (v := 2) hx hb dX10_wordBy_26 (by decide) ?_
        refine lv_goto (tgt := 61) hx hb dX10_wordBy_27 (by decide) ?_
        obtain rfl := Option.some.inj hf
        exact zk_iret C hW rfl dX10_wordBy_61
    · have hf := ipos c2 hf
      refine lv_iconst (v := 1) hx hb dX10_wordBy_16 (by decide) ?_
      refine lv_goto (tgt := 61) hx hb dX10_wordBy_17 (by decide) ?_
      obtain rfl := Option.some.inj hf
      exact zk_iret C hW rfl dX10_wordBy_61
  · have hf := ipos c1 hf
    refine lv_iconst (v := 0) hx hb dX10_wordBy_6 (by decide) ?_
    refine lv_goto (tgt := 61) hx hb dX10_wordBy_7 (by decide) ?_
    obtain rfl := Option.some.inj hf
    exact zk_iret C hW rfl dX10_wordBy_61

set_option maxHeartbeats 4000000 in
set_option maxRecDepth 100000 in
theorem c_X10_go (l : Launch) (G : GG) (q : Nat → Nat) (m0 : (Nat → Int32)) (m1 : Int32) (m2 : Int32) (m3 : Int32) (m4 : Int32) (m5 : Int32) (m6 : Int32) (m7 : Int32) (m8 : (Nat → Int32)) (m9 : Int32) (m10 : (Nat → Int32)) (m11 : Int32) (m12 : Bool) (m13 : Int32) (m14 : Int32) (m15 : Bool) (m16 : Int32) (m17 : (Nat → Int32)) (m18 : Int32) (m19 : (Nat → Int32)) (m20 : (Nat → Int32)) (m21 : Int32) (m22 : Int32) (m23 : Int32) (m24 : Int32) (m25 : Int32) (m26 : Int32) (m27 : (Nat → Int32)) (m28 : (Nat → Int32)) (m29 : Int64) (a0 : Int32) (out : Bool × Int32 × Int32) (hf : f_X10_go m2 m3 a0 = some out) : CtI G l yX10_go (Cond.code yX10_go cX10_go 3 (some .boolean) :: WL) (zR 1 25) [.ref (q 0), .int a0] (wX10 G q m0 m1 m2 m3 m4 m5 m6 m7 m8 m9 m10 m11 m12 m13 m14 m15 m16 m17 m18 m19 m20 m21 m22 m23 m24 m25 m26 m27 m28 m29) (bI out.1) (wX10 G q m0 m1 out.2.1 out.2.2 m4 m5 m6 m7 m8 m9 m10 m11 m12 m13 m14 m15 m16 m17 m18 m19 m20 m21 m22 m23 m24 m25 m26 m27 m28 m29) := by
  refine CtI.mk (cc := cX10_go) (nL := 3) (rt := (some .boolean)) (own := RX10) (nm := "go") (by decide) rfl rfl (Nat.le_of_ble_eq_true rfl) ?_
  intro p e s m below meth c A ls C hW hl
  have hx := C.1
  have hb := C.2.1
  have hl : lv_has ls 3 [(0, .ref (q 0)), (1, .int a0)] := hl
  unfold f_X10_go at hf
  refine lv_aload_n hx hb dX10_go_0 rfl (lv_at hl 0 rfl) ?_
  refine zk_get C hW fgX10_47 0 rfl rfl dX10_go_1 ?_
  refine lv_if_ne (tgt := 27) hx hb dX10_go_4 (by decide) (fun c1 => ?_) (fun c1 => ?_)
  · have hf := ineg c1 hf
    refine lv_aload_n hx hb dX10_go_27 rfl (lv_at hl 0 rfl) ?_
    refine zk_get C hW fgX10_47 0 rfl rfl dX10_go_28 ?_
    refine lv_if_ne (tgt := 67) hx hb dX10_go_31 (by decide) (fun c2 => ?_) (fun c2 => ?_)
    · have hf := ineg c2 hf
      refine lv_aload_n hx hb dX10_go_67 rfl (lv_at hl 0 rfl) ?_
      refine zk_get C hW fgX10_47 0 rfl rfl dX10_go_68 ?_
      refine lv_istore_n (lv' := [(2, .int m2), (0, .ref (q 0)), (1, .int a0)]) hx hb dX10_go_71 rfl hl (by decide) rfl (fun ls hl => ?_)
      refine lv_aload_n hx hb dX10_go_72 rfl (lv_at hl 1 rfl) ?_
      refine lv_iconst (v := 2) hx hb dX10_go_73 (by decide) ?_
      refine zk_putI (W1 := wX10 G q m0 m1 2 m3 m4 m5 m6 m7 m8 m9 m10 m11 m12 m13 m14 m15 m16 m17 m18 m19 m20 m21 m22 m23 m24 m25 m26 m27 m28 m29) C hW fpX10_47 0 rfl rfl (Nat.le_of_ble_eq_true rfl) rfl dX10_go_74 (fun H locs hW => ?_)
      refine lv_iload_n hx hb dX10_go_77 rfl (lv_at hl 0 rfl) ?_
      refine lv_iconst (v := 1) hx hb dX10_go_78 (by decide) ?_
      refine lv_icmp_ne (tgt := 100) hx hb dX10_go_79 (by decide) (fun c3 => ?_) (fun c3 => ?_)
      · have hf := ineg c3 hf
        refine lv_iconst (v := 0) hx hb dX10_go_100 (by decide) ?_
        obtain rfl := Option.some.inj hf
        exact zk_zret false C hW rfl dX10_go_101
      · have hf := ipos c3 hf
        refine lv_iload_n hx hb dX10_go_82 rfl (lv_at hl 2 rfl) ?_
        refine lv_i2l (v := (Int32.toInt64 a0)) hx hb dX10_go_83 rfl ?_
        refine lv_ldc2 hx hb C.2.2.2.1 (C.2.2.2.2.1 _ klX10_57) dX10_go_84 ?_
        refine lv_ldc2 hx hb C.2.2.2.1 (C.2.2.2.2.1 _ klX10_59) dX10_go_87 ?_
        obtain ⟨u4, eu4, hf⟩ := bnd hf
        refine zk_callSI (As := [.long (Int32.toInt64 a0), .long 49, .long 57]) (rest := []) (W1 := wX10 G q m0 m1 2 m3 m4 m5 m6 m7 m8 m9 m10 m11 m12 m13 m14 m15 m16 m17 m18 m19 m20 m21 m22 m23 m24 m25 m26 m27 m28 m29) C hW hl msX10_40 (c_X10_in l G (Int32.toInt64 a0) 49 57 u4 eu4) ⟨(Nat.le_of_ble_eq_true rfl), (Nat.le_of_ble_eq_true rfl)⟩ ⟨rfl, rfl⟩ [] rfl rfl rfl (Nat.le_of_ble_eq_true rfl) (Nat.le_of_ble_eq_true rfl) rfl dX10_go_90 ⟨Nat.zero_le _, Nat.zero_le _⟩ (fun H locs hW => ?_)
        refine lv_if_eq (tgt := 100) hx hb dX10_go_93 (by decide) (fun c5 => ?_) (fun c5 => ?_)
        · have hf := ipos c5 hf
          refine lv_iconst (v := 0) hx hb dX10_go_100 (by decide) ?_
          obtain rfl := Option.some.inj hf
          exact zk_zret false C hW rfl dX10_go_101
        · have hf := ineg c5 hf
          refine lv_iconst (v := 1) hx hb dX10_go_96 (by decide) ?_
          refine lv_goto (tgt := 101) hx hb dX10_go_97 (by decide) ?_
          obtain rfl := Option.some.inj hf
          exact zk_zret true C hW rfl dX10_go_101
    · have hf := ipos c2 hf
      refine lv_aload_n hx hb dX10_go_34 rfl (lv_at hl 0 rfl) ?_
      refine lv_dup hx hb dX10_go_35 rfl ?_
      refine zk_get C hW fgX10_50 0 rfl rfl dX10_go_36 ?_
      refine lv_iconst (v := 1) hx hb dX10_go_39 (by decide) ?_
      refine lv_iadd hx hb dX10_go_40 ?_
      obtain ⟨z6, ez6, hf⟩ := bnd hf
      refine zk_putI (W1 := wX10 G q m0 m1 m2 z6 m4 m5 m6 m7 m8 m9 m10 m11 m12 m13 m14 m15 m16 m17 m18 m19 m20 m21 m22 m23 m24 m25 m26 m27 m28 m29) C hW fpX10_50 0 (Option.some.inj ez6) rfl (Nat.le_of_ble_eq_true rfl) rfl dX10_go_41 (fun H locs hW => ?_)
      refine lv_aload_n hx hb dX10_go_44 rfl (lv_at hl 0 rfl) ?_
      refine zk_get C hW fgX10_50 0 rfl rfl dX10_go_45 ?_
      refine lv_bipush (v := 10) hx hb dX10_go_48 (by decide) ?_
      refine lv_icmp_ge (tgt := 65) hx hb dX10_go_50 (by decide) (fun c7 => ?_) (fun c7 => ?_)
      · have hf := ipos c7 hf
        refine lv_iconst (v := 0) hx hb dX10_go_65 (by decide) ?_
        obtain rfl := Option.some.inj hf
        exact zk_zret false C hW rfl dX10_go_66
      · have hf := ineg c7 hf
        refine lv_iload_n hx hb dX10_go_53 rfl (lv_at hl 1 rfl) ?_
        obtain ⟨u8, eu8, hf⟩ := bnd hf
        refine zk_callSI (As := [.int a0]) (rest := []) (W1 := wX10 G q m0 m1 m2 z6 m4 m5 m6 m7 m8 m9 m10 m11 m12 m13 m14 m15 m16 m17 m18 m19 m20 m21 m22 m23 m24 m25 m26 m27 m28 m29) C hW hl msX10_53 (c_X10_wordBy l G a0 u8 eu8) ⟨(Nat.le_of_ble_eq_true rfl), (Nat.le_of_ble_eq_true rfl)⟩ ⟨rfl, rfl⟩ [] rfl rfl rfl (Nat.le_of_ble_eq_true rfl) (Nat.le_of_ble_eq_true rfl) rfl dX10_go_54 ⟨Nat.zero_le _, Nat.zero_le _⟩ (fun H locs hW => ?_)
        refine lv_iconst (v := (-1)) hx hb dX10_go_57 (by decide) ?_
        refine lv_icmp_eq (tgt := 65) hx hb dX10_go_58 (by decide) (fun c9 => ?_) (fun c9 => ?_)
        · have hf := ipos c9 hf
          refine lv_iconst (v := 0) hx hb dX10_go_65 (by decide) ?_
          obtain rfl := Option.some.inj hf
          exact zk_zret false C hW rfl dX10_go_66
        · have hf := ineg c9 hf
          refine lv_iconst (v := 1) hx hb dX10_go_61 (by decide) ?_
          refine lv_goto (tgt := 66) hx hb dX10_go_62 (by decide) ?_
          obtain rfl := Option.some.inj hf
          exact zk_zret true C hW rfl dX10_go_66
  · have hf := ipos c1 hf
    refine lv_iload_n hx hb dX10_go_7 rfl (lv_at hl 1 rfl) ?_
    refine lv_bipush (v := 59) hx hb dX10_go_8 (by decide) ?_
    refine lv_icmp_ne (tgt := 27) hx hb dX10_go_10 (by decide) (fun c10 => ?_) (fun c10 => ?_)
    · have hf := ineg c10 hf
      refine lv_aload_n hx hb dX10_go_27 rfl (lv_at hl 0 rfl) ?_
      refine zk_get C hW fgX10_47 0 rfl rfl dX10_go_28 ?_
      refine lv_if_ne (tgt := 67) hx hb dX10_go_31 (by decide) (fun c11 => ?_) (fun c11 => ?_)
      · have hf := ineg c11 hf
        refine lv_aload_n hx hb dX10_go_67 rfl (lv_at hl 0 rfl) ?_
        refine zk_get C hW fgX10_47 0 rfl rfl dX10_go_68 ?_
        refine lv_istore_n (lv' := [(2, .int m2), (0, .ref (q 0)), (1, .int a0)]) hx hb dX10_go_71 rfl hl (by decide) rfl (fun ls hl => ?_)
        refine lv_aload_n hx hb dX10_go_72 rfl (lv_at hl 1 rfl) ?_
        refine lv_iconst (v := 2) hx hb dX10_go_73 (by decide) ?_
        refine zk_putI (W1 := wX10 G q m0 m1 2 m3 m4 m5 m6 m7 m8 m9 m10 m11 m12 m13 m14 m15 m16 m17 m18 m19 m20 m21 m22 m23 m24 m25 m26 m27 m28 m29) C hW fpX10_47 0 rfl rfl (Nat.le_of_ble_eq_true rfl) rfl dX10_go_74 (fun H locs hW => ?_)
        refine lv_iload_n hx hb dX10_go_77 rfl (lv_at hl 0 rfl) ?_
        refine lv_iconst (v := 1) hx hb dX10_go_78 (by decide) ?_
        refine lv_icmp_ne (tgt := 100) hx hb dX10_go_79 (by decide) (fun c12 => ?_) (fun c12 => ?_)
        · have hf := ineg c12 hf
          refine lv_iconst (v := 0) hx hb dX10_go_100 (by decide) ?_
          obtain rfl := Option.some.inj hf
          exact zk_zret false C hW rfl dX10_go_101
        · have hf := ipos c12 hf
          refine lv_iload_n hx hb dX10_go_82 rfl (lv_at hl 2 rfl) ?_
          refine lv_i2l (v := (Int32.toInt64 a0)) hx hb dX10_go_83 rfl ?_
          refine lv_ldc2 hx hb C.2.2.2.1 (C.2.2.2.2.1 _ klX10_57) dX10_go_84 ?_
          refine lv_ldc2 hx hb C.2.2.2.1 (C.2.2.2.2.1 _ klX10_59) dX10_go_87 ?_
          obtain ⟨u13, eu13, hf⟩ := bnd hf
          refine zk_callSI (As := [.long (Int32.toInt64 a0), .long 49, .long 57]) (rest := []) (W1 := wX10 G q m0 m1 2 m3 m4 m5 m6 m7 m8 m9 m10 m11 m12 m13 m14 m15 m16 m17 m18 m19 m20 m21 m22 m23 m24 m25 m26 m27 m28 m29) C hW hl msX10_40 (c_X10_in l G (Int32.toInt64 a0) 49 57 u13 eu13) ⟨(Nat.le_of_ble_eq_true rfl), (Nat.le_of_ble_eq_true rfl)⟩ ⟨rfl, rfl⟩ [] rfl rfl rfl (Nat.le_of_ble_eq_true rfl) (Nat.le_of_ble_eq_true rfl) rfl dX10_go_90 ⟨Nat.zero_le _, Nat.zero_le _⟩ (fun H locs hW => ?_)
          refine lv_if_eq (tgt := 100) hx hb dX10_go_93 (by decide) (fun c14 => ?_) (fun c14 => ?_)
          · have hf := ipos c14 hf
            refine lv_iconst (v := 0) hx hb dX10_go_100 (by decide) ?_
            obtain rfl := Option.some.inj hf
            exact zk_zret false C hW rfl dX10_go_101
          · have hf := ineg c14 hf
            refine lv_iconst (v := 1) hx hb dX10_go_96 (by decide) ?_
            refine lv_goto (tgt := 101) hx hb dX10_go_97 (by decide) ?_
            obtain rfl := Option.some.inj hf
            exact zk_zret true C hW rfl dX10_go_101
      · have hf := ipos c11 hf
        refine lv_aload_n hx hb dX10_go_34 rfl (lv_at hl 0 rfl) ?_
        refine lv_dup hx hb dX10_go_35 rfl ?_
        refine zk_get C hW fgX10_50 0 rfl rfl dX10_go_36 ?_
        refine lv_iconst (v := 1) hx hb dX10_go_39 (by decide) ?_
        refine lv_iadd hx hb dX10_go_40 ?_
        obtain ⟨z15, ez15, hf⟩ := bnd hf
        refine zk_putI (W1 := wX10 G q m0 m1 m2 z15 m4 m5 m6 m7 m8 m9 m10 m11 m12 m13 m14 m15 m16 m17 m18 m19 m20 m21 m22 m23 m24 m25 m26 m27 m28 m29) C hW fpX10_50 0 (Option.some.inj ez15) rfl (Nat.le_of_ble_eq_true rfl) rfl dX10_go_41 (fun H locs hW => ?_)
        refine lv_aload_n hx hb dX10_go_44 rfl (lv_at hl 0 rfl) ?_
        refine zk_get C hW fgX10_50 0 rfl rfl dX10_go_45 ?_
        refine lv_bipush (v := 10) hx hb dX10_go_48 (by decide) ?_
        refine lv_icmp_ge (tgt := 65) hx hb dX10_go_50 (by decide) (fun c16 => ?_) (fun c16 => ?_)
        · have hf := ipos c16 hf
          refine lv_iconst (v := 0) hx hb dX10_go_65 (by decide) ?_
          obtain rfl := Option.some.inj hf
          exact zk_zret false C hW rfl dX10_go_66
        · have hf := ineg c16 hf
          refine lv_iload_n hx hb dX10_go_53 rfl (lv_at hl 1 rfl) ?_
          obtain ⟨u17, eu17, hf⟩ := bnd hf
          refine zk_callSI (As := [.int a0]) (rest := []) (W1 := wX10 G q m0 m1 m2 z15 m4 m5 m6 m7 m8 m9 m10 m11 m12 m13 m14 m15 m16 m17 m18 m19 m20 m21 m22 m23 m24 m25 m26 m27 m28 m29) C hW hl msX10_53 (c_X10_wordBy l G a0 u17 eu17) ⟨(Nat.le_of_ble_eq_true rfl), (Nat.le_of_ble_eq_true rfl)⟩ ⟨rfl, rfl⟩ [] rfl rfl rfl (Nat.le_of_ble_eq_true rfl) (Nat.le_of_ble_eq_true rfl) rfl dX10_go_54 ⟨Nat.zero_le _, Nat.zero_le _⟩ (fun H locs hW => ?_)
          refine lv_iconst (v := (-1)) hx hb dX10_go_57 (by decide) ?_
          refine lv_icmp_eq (tgt := 65) hx hb dX10_go_58 (by decide) (fun c18 => ?_) (fun c18 => ?_)
          · have hf := ipos c18 hf
            refine lv_iconst (v := 0) hx hb dX10_go_65 (by decide) ?_
            obtain rfl := Option.some.inj hf
            exact zk_zret false C hW rfl dX10_go_66
          · have hf := ineg c18 hf
            refine lv_iconst (v := 1) hx hb dX10_go_61 (by decide) ?_
            refine lv_goto (tgt := 66) hx hb dX10_go_62 (by decide) ?_
            obtain rfl := Option.some.inj hf
            exact zk_zret true C hW rfl dX10_go_66
    · have hf := ipos c10 hf
      refine lv_aload_n hx hb dX10_go_13 rfl (lv_at hl 0 rfl) ?_
      refine zk_get C hW fgX10_50 0 rfl rfl dX10_go_14 ?_
      refine lv_if_le (tgt := 27) hx hb dX10_go_17 (by decide) (fun c19 => ?_) (fun c19 => ?_)
      · have hf := ipos c19 hf
        refine lv_aload_n hx hb dX10_go_27 rfl (lv_at hl 0 rfl) ?_
        refine zk_get C hW fgX10_47 0 rfl rfl dX10_go_28 ?_
        refine lv_if_ne (tgt := 67) hx hb dX10_go_31 (by decide) (fun c20 => ?_) (fun c20 => ?_)
        · have hf := ineg c20 hf
          refine lv_aload_n hx hb dX10_go_67 rfl (lv_at hl 0 rfl) ?_
          refine zk_get C hW fgX10_47 0 rfl rfl dX10_go_68 ?_
          refine lv_istore_n (lv' := [(2, .int m2), (0, .ref (q 0)), (1, .int a0)]) hx hb dX10_go_71 rfl hl (by decide) rfl (fun ls hl => ?_)
          refine lv_aload_n hx hb dX10_go_72 rfl (lv_at hl 1 rfl) ?_
          refine lv_iconst (v := 2) hx hb dX10_go_73 (by decide) ?_
          refine zk_putI (W1 := wX10 G q m0 m1 2 m3 m4 m5 m6 m7 m8 m9 m10 m11 m12 m13 m14 m15 m16 m17 m18 m19 m20 m21 m22 m23 m24 m25 m26 m27 m28 m29) C hW fpX10_47 0 rfl rfl (Nat.le_of_ble_eq_true rfl) rfl dX10_go_74 (fun H locs hW => ?_)
          refine lv_iload_n hx hb dX10_go_77 rfl (lv_at hl 0 rfl) ?_
          refine lv_iconst (v := 1) hx hb dX10_go_78 (by decide) ?_
          refine lv_icmp_ne (tgt := 100) hx hb dX10_go_79 (by decide) (fun c21 => ?_) (fun c21 => ?_)
          · have hf := ineg c21 hf
            refine lv_iconst (v := 0) hx hb dX10_go_100 (by decide) ?_
            obtain rfl := Option.some.inj hf
            exact zk_zret false C hW rfl dX10_go_101
          · have hf := ipos c21 hf
            refine lv_iload_n hx hb dX10_go_82 rfl (lv_at hl 2 rfl) ?_
            refine lv_i2l (v := (Int32.toInt64 a0)) hx hb dX10_go_83 rfl ?_
            refine lv_ldc2 hx hb C.2.2.2.1 (C.2.2.2.2.1 _ klX10_57) dX10_go_84 ?_
            refine lv_ldc2 hx hb C.2.2.2.1 (C.2.2.2.2.1 _ klX10_59) dX10_go_87 ?_
            obtain ⟨u22, eu22, hf⟩ := bnd hf
            refine zk_callSI (As := [.long (Int32.toInt64 a0), .long 49, .long 57]) (rest := []) (W1 := wX10 G q m0 m1 2 m3 m4 m5 m6 m7 m8 m9 m10 m11 m12 m13 m14 m15 m16 m17 m18 m19 m20 m21 m22 m23 m24 m25 m26 m27 m28 m29) C hW hl msX10_40 (c_X10_in l G (Int32.toInt64 a0) 49 57 u22 eu22) ⟨(Nat.le_of_ble_eq_true rfl), (Nat.le_of_ble_eq_true rfl)⟩ ⟨rfl, rfl⟩ [] rfl rfl rfl (Nat.le_of_ble_eq_true rfl) (Nat.le_of_ble_eq_true rfl) rfl dX10_go_90 ⟨Nat.zero_le _, Nat.zero_le _⟩ (fun H locs hW => ?_)
            refine lv_if_eq (tgt := 100) hx hb dX10_go_93 (by decide) (fun c23 => ?_) (fun c23 => ?_)
            · have hf := ipos c23 hf
              refine lv_iconst (v := 0) hx hb dX10_go_100 (by decide) ?_
              obtain rfl := Option.some.inj hf
              exact zk_zret false C hW rfl dX10_go_101
            · have hf := ineg c23 hf
              refine lv_iconst (v := 1) hx hb dX10_go_96 (by decide) ?_
              refine lv_goto (tgt := 101) hx hb dX10_go_97 (by decide) ?_
              obtain rfl := Option.some.inj hf
              exact zk_zret true C hW rfl dX10_go_101
        · have hf := ipos c20 hf
          refine lv_aload_n hx hb dX10_go_34 rfl (lv_at hl 0 rfl) ?_
          refine lv_dup hx hb dX10_go_35 rfl ?_
          refine zk_get C hW fgX10_50 0 rfl rfl dX10_go_36 ?_
          refine lv_iconst (v := 1) hx hb dX10_go_39 (by decide) ?_
          refine lv_iadd hx hb dX10_go_40 ?_
          obtain ⟨z24, ez24, hf⟩ := bnd hf
          refine zk_putI (W1 := wX10 G q m0 m1 m2 z24 m4 m5 m6 m7 m8 m9 m10 m11 m12 m13 m14 m15 m16 m17 m18 m19 m20 m21 m22 m23 m24 m25 m26 m27 m28 m29) C hW fpX10_50 0 (Option.some.inj ez24) rfl (Nat.le_of_ble_eq_true rfl) rfl dX10_go_41 (fun H locs hW => ?_)
          refine lv_aload_n hx hb dX10_go_44 rfl (lv_at hl 0 rfl) ?_
          refine zk_get C hW fgX10_50 0 rfl rfl dX10_go_45 ?_
          refine lv_bipush (v := 10) hx hb dX10_go_48 (by decide) ?_
          refine lv_icmp_ge (tgt := 65) hx hb dX10_go_50 (by decide) (fun c25 => ?_) (fun c25 => ?_)
          · have hf := ipos c25 hf
            refine lv_iconst (v := 0) hx hb dX10_go_65 (by decide) ?_
            obtain rfl := Option.some.inj hf
            exact zk_zret false C hW rfl dX10_go_66
          · have hf := ineg c25 hf
            refine lv_iload_n hx hb dX10_go_53 rfl (lv_at hl 1 rfl) ?_
            obtain ⟨u26, eu26, hf⟩ := bnd hf
            refine zk_callSI (As := [.int a0]) (rest := []) (W1 := wX10 G q m0 m1 m2 z24 m4 m5 m6 m7 m8 m9 m10 m11 m12 m13 m14 m15 m16 m17 m18 m19 m20 m21 m22 m23 m24 m25 m26 m27 m28 m29) C hW hl msX10_53 (c_X10_wordBy l G a0 u26 eu26) ⟨(Nat.le_of_ble_eq_true rfl), (Nat.le_of_ble_eq_true rfl)⟩ ⟨rfl, rfl⟩ [] rfl rfl rfl (Nat.le_of_ble_eq_true rfl) (Nat.le_of_ble_eq_true rfl) rfl dX10_go_54 ⟨Nat.zero_le _, Nat.zero_le _⟩ (fun H locs hW => ?_)
            refine lv_iconst (v := (-1)) hx hb dX10_go_57 (by decide) ?_
            refine lv_icmp_eq (tgt := 65) hx hb dX10_go_58 (by decide) (fun c27 => ?_) (fun c27 => ?_)
            · have hf := ipos c27 hf
              refine lv_iconst (v := 0) hx hb dX10_go_65 (by decide) ?_
              obtain rfl := Option.some.inj hf
              exact zk_zret false C hW rfl dX10_go_66
            · have hf := ineg c27 hf
              refine lv_iconst (v := 1) hx hb dX10_go_61 (by decide) ?_
              refine lv_goto (tgt := 66) hx hb dX10_go_62 (by decide) ?_
              obtain rfl := Option.some.inj hf
              exact zk_zret true C hW rfl dX10_go_66
      · have hf := ineg c19 hf
        refine lv_aload_n hx hb dX10_go_20 rfl (lv_at hl 0 rfl) ?_
        refine lv_iconst (v := 1) hx hb dX10_go_21 (by decide) ?_
        refine zk_putI (W1 := wX10 G q m0 m1 1 m3 m4 m5 m6 m7 m8 m9 m10 m11 m12 m13 m14 m15 m16 m17 m18 m19 m20 m21 m22 m23 m24 m25 m26 m27 m28 m29) C hW fpX10_47 0 rfl rfl (Nat.le_of_ble_eq_true rfl) rfl dX10_go_22 (fun H locs hW => ?_)
        refine lv_iconst (v := 1) hx hb dX10_go_25 (by decide) ?_
        obtain rfl := Option.some.inj hf
        exact zk_zret true C hW rfl dX10_go_26

set_option maxHeartbeats 4000000 in
set_option maxRecDepth 100000 in
theorem w_X10_faultOf_12 {p : Program} {e : Env} {s : State} {m : MethodId} {args : Array Value} {below : List Frame} {meth : Method} {c : Code} {A : Nat → Prop} (l : Launch) (G : GG) (q : Nat → Nat) (s0_0 : (Nat → Int32)) (s0_1 : Int32) (s0_4 : Int32) (s0_5 : Int32) (s0_6 : Int32) (s0_7 : Int32) (s0_8 : (Nat → Int32)) (s0_9 : Int32) (s0_10 : (Nat → Int32)) (s0_11 : Int32) (s0_12 : Bool) (s0_13 : Int32) (s0_14 : Int32) (s0_15 : Bool) (s0_16 : Int32) (s0_17 : (Nat → Int32)) (s0_18 : Int32) (s0_19 : (Nat → Int32)) (s0_20 : (Nat → Int32)) (s0_21 : Int32) (s0_22 : Int32) (s0_23 : Int32) (s0_24 : Int32) (s0_25 : Int32) (s0_26 : Int32) (s0_27 : (Nat → Int32)) (s0_28 : (Nat → Int32)) (s0_29 : Int64) (out : Int32 × Int32 × Int32) (C : CX p s m args meth c cX10_faultOf 2 RX10 (some .int) "faultOf") {K : Int32 → Int32 → Int32 → Option (Int32 × Int32 × Int32)} (hK : ∀ (v1 : Int32) (s0_2 : Int32) (s0_3 : Int32) , K v1 s0_2 s0_3 = some out → ∀ (H : Heap) (locs : List Loc) (ls : Array Slot), KW G A s (wX10 G q s0_0 s0_1 s0_2 s0_3 s0_4 s0_5 s0_6 s0_7 s0_8 s0_9 s0_10 s0_11 s0_12 s0_13 s0_14 s0_15 s0_16 s0_17 s0_18 s0_19 s0_20 s0_21 s0_22 s0_23 s0_24 s0_25 s0_26 s0_27 s0_28 s0_29) H locs → lv_has ls 2 [(1, .int v1)] → W p l e (zR 2 47) s m args below meth c H locs 0 0 (QI G A out.1 (wX10 G q s0_0 s0_1 out.2.1 out.2.2 s0_4 s0_5 s0_6 s0_7 s0_8 s0_9 s0_10 s0_11 s0_12 s0_13 s0_14 s0_15 s0_16 s0_17 s0_18 s0_19 s0_20 s0_21 s0_22 s0_23 s0_24 s0_25 s0_26 s0_27 s0_28 s0_29) below args s) (F0 m 39 ls [])) :
    ∀ (n : Nat) (v1 : Int32) (s0_2 : Int32) (s0_3 : Int32) , lp_X10_faultOf_12 s0_0 s0_1 K n v1 s0_2 s0_3 = some out → ∀ (H : Heap) (locs : List Loc) (ls : Array Slot), KW G A s (wX10 G q s0_0 s0_1 s0_2 s0_3 s0_4 s0_5 s0_6 s0_7 s0_8 s0_9 s0_10 s0_11 s0_12 s0_13 s0_14 s0_15 s0_16 s0_17 s0_18 s0_19 s0_20 s0_21 s0_22 s0_23 s0_24 s0_25 s0_26 s0_27 s0_28 s0_29) H locs → lv_has ls 2 [(0, .ref (q 0)), (1, .int v1)] → W p l e (zR 2 47) s m args below meth c H locs 0 0 (QI G A out.1 (wX10 G q s0_0 s0_1 out.2.1 out.2.2 s0_4 s0_5 s0_6 s0_7 s0_8 s0_9 s0_10 s0_11 s0_12 s0_13 s0_14 s0_15 s0_16 s0_17 s0_18 s0_19 s0_20 s0_21 s0_22 s0_23 s0_24 s0_25 s0_26 s0_27 s0_28 s0_29) below args s) (F0 m 12 ls []) := by
  have hx := C.1
  have hb := C.2.1
  intro n
  induction n with
  | zero => intro v1 s0_2 s0_3 hf; exact nomatch (show (none : Option (Int32 × Int32 × Int32)) = some out from hf)
  | succ n ih =>
    intro v1 s0_2 s0_3 hf H locs ls hW hl
    rw [lp_X10_faultOf_12] at hf
    refine lv_iload_n hx hb dX10_faultOf_12 rfl (lv_at hl 1 rfl) ?_
    refine lv_aload_n hx hb dX10_faultOf_13 rfl (lv_at hl 0 rfl) ?_
    refine zk_get C hW fgX10_44 0 rfl rfl dX10_faultOf_14 ?_
    refine lv_icmp_ge (tgt := 39) hx hb dX10_faultOf_17 (by decide) (fun c1 => ?_) (fun c1 => ?_)
    · have hf := ipos c1 hf
      exact hK v1 s0_2 s0_3 hf _ _ _ hW (lv_sub hl [1] rfl)
    · have hf := ineg c1 hf
      refine lv_aload_n hx hb dX10_faultOf_20 rfl (lv_at hl 0 rfl) ?_
      refine lv_aload_n hx hb dX10_faultOf_21 rfl (lv_at hl 0 rfl) ?_
      refine zk_get C hW fgX10_7 0 rfl rfl dX10_faultOf_22 ?_
      refine lv_iload_n hx hb dX10_faultOf_25 rfl (lv_at hl 1 rfl) ?_
      obtain ⟨g2, hf⟩ := grd hf
      refine zk_iald C hW 1 g2 rfl dX10_faultOf_26 ?_
      obtain ⟨u3, eu3, hf⟩ := bnd hf
      refine zk_callBI (As := [.int (s0_0 (Int32.toNatClampNeg v1))]) (rest := []) (W1 := wX10 G q s0_0 s0_1 u3.2.1 u3.2.2 s0_4 s0_5 s0_6 s0_7 s0_8 s0_9 s0_10 s0_11 s0_12 s0_13 s0_14 s0_15 s0_16 s0_17 s0_18 s0_19 s0_20 s0_21 s0_22 s0_23 s0_24 s0_25 s0_26 s0_27 s0_28 s0_29) C hW hl mvX10_61 (c_X10_go l G q s0_0 s0_1 s0_2 s0_3 s0_4 s0_5 s0_6 s0_7 s0_8 s0_9 s0_10 s0_11 s0_12 s0_13 s0_14 s0_15 s0_16 s0_17 s0_18 s0_19 s0_20 s0_21 s0_22 s0_23 s0_24 s0_25 s0_26 s0_27 s0_28 s0_29 (s0_0 (Int32.toNatClampNeg v1)) u3 eu3) ⟨(Nat.le_of_ble_eq_true rfl), (Nat.le_of_ble_eq_true rfl)⟩ ⟨rfl, rfl⟩ ([]) ([]) zE1 rfl rfl (Nat.le_of_ble_eq_true rfl) zE1r dX10_faultOf_27 ⟨Nat.zero_le _, Nat.zero_le _⟩ (fun H locs hW => ?_)
      refine lv_if_eq (tgt := 39) hx hb dX10_faultOf_30 (by decide) (fun c4 => ?_) (fun c4 => ?_)
      · have hf := ipos c4 hf
        exact hK v1 u3.2.1 u3.2.2 hf _ _ _ hW (lv_sub hl [1] rfl)
      · have hf := ineg c4 hf
        refine lv_iinc (v := (v1 + 1)) (lv' := [(1, .int (v1 + 1)), (0, .ref (q 0))]) hx hb dX10_faultOf_33 hl (k := 1) rfl rfl (by decide) rfl (fun ls hl => ?_)
        refine lv_goto (tgt := 12) hx hb dX10_faultOf_36 (by decide) ?_
        exact ih (v1 + 1) u3.2.1 u3.2.2 hf _ _ _ hW (lv_sub hl [1, 0] rfl)
set_option maxHeartbeats 4000000 in
set_option maxRecDepth 100000 in
theorem c_X10_faultOf (l : Launch) (G : GG) (q : Nat → Nat) (m0 : (Nat → Int32)) (m1 : Int32) (m2 : Int32) (m3 : Int32) (m4 : Int32) (m5 : Int32) (m6 : Int32) (m7 : Int32) (m8 : (Nat → Int32)) (m9 : Int32) (m10 : (Nat → Int32)) (m11 : Int32) (m12 : Bool) (m13 : Int32) (m14 : Int32) (m15 : Bool) (m16 : Int32) (m17 : (Nat → Int32)) (m18 : Int32) (m19 : (Nat → Int32)) (m20 : (Nat → Int32)) (m21 : Int32) (m22 : Int32) (m23 : Int32) (m24 : Int32) (m25 : Int32) (m26 : Int32) (m27 : (Nat → Int32)) (m28 : (Nat → Int32)) (m29 : Int64) (out : Int32 × Int32 × Int32) (hf : f_X10_faultOf m0 m1 = some out) : CtI G l yX10_faultOf (Cond.code yX10_faultOf cX10_faultOf 2 (some .int) :: WL) (zR 2 47) [.ref (q 0)] (wX10 G q m0 m1 m2 m3 m4 m5 m6 m7 m8 m9 m10 m11 m12 m13 m14 m15 m16 m17 m18 m19 m20 m21 m22 m23 m24 m25 m26 m27 m28 m29) out.1 (wX10 G q m0 m1 out.2.1 out.2.2 m4 m5 m6 m7 m8 m9 m10 m11 m12 m13 m14 m15 m16 m17 m18 m19 m20 m21 m22 m23 m24 m25 m26 m27 m28 m29) := by
  refine CtI.mk (cc := cX10_faultOf) (nL := 2) (rt := (some .int)) (own := RX10) (nm := "faultOf") (by decide) rfl rfl (Nat.le_of_ble_eq_true rfl) ?_
  intro p e s m below meth c A ls C hW hl
  have hx := C.1
  have hb := C.2.1
  have hl : lv_has ls 2 [(0, .ref (q 0))] := hl
  unfold f_X10_faultOf at hf
  refine lv_aload_n hx hb dX10_faultOf_0 rfl (lv_at hl 0 rfl) ?_
  refine lv_iconst (v := 0) hx hb dX10_faultOf_1 (by decide) ?_
  refine zk_putI (W1 := wX10 G q m0 m1 0 m3 m4 m5 m6 m7 m8 m9 m10 m11 m12 m13 m14 m15 m16 m17 m18 m19 m20 m21 m22 m23 m24 m25 m26 m27 m28 m29) C hW fpX10_47 0 rfl rfl (Nat.le_of_ble_eq_true rfl) rfl dX10_faultOf_2 (fun H locs hW => ?_)
  refine lv_aload_n hx hb dX10_faultOf_5 rfl (lv_at hl 0 rfl) ?_
  refine lv_iconst (v := 0) hx hb dX10_faultOf_6 (by decide) ?_
  refine zk_putI (W1 := wX10 G q m0 m1 0 0 m4 m5 m6 m7 m8 m9 m10 m11 m12 m13 m14 m15 m16 m17 m18 m19 m20 m21 m22 m23 m24 m25 m26 m27 m28 m29) C hW fpX10_50 0 rfl rfl (Nat.le_of_ble_eq_true rfl) rfl dX10_faultOf_7 (fun H locs hW => ?_)
  refine lv_iconst (v := 0) hx hb dX10_faultOf_10 (by decide) ?_
  refine lv_istore_n (lv' := [(1, .int 0), (0, .ref (q 0))]) hx hb dX10_faultOf_11 rfl hl (by decide) rfl (fun ls hl => ?_)
  refine w_X10_faultOf_12 l G q m0 m1 m4 m5 m6 m7 m8 m9 m10 m11 m12 m13 m14 m15 m16 m17 m18 m19 m20 m21 m22 m23 m24 m25 m26 m27 m28 m29 out C (fun w5_v1 w5_s0_2 w5_s0_3 hf H locs ls hW hl => ?_) FU 0 0 0 hf _ _ _ hW (lv_sub hl [1, 0] rfl)
  refine lv_iload_n hx hb dX10_faultOf_39 rfl (lv_at hl 0 rfl) ?_
  obtain rfl := Option.some.inj hf
  exact zk_iret C hW rfl dX10_faultOf_40

set_option maxHeartbeats 4000000 in
set_option maxRecDepth 100000 in
theorem c_X10_fault (l : Launch) (G : GG) (q : Nat → Nat) (m0 : (Nat → Int32)) (m1 : Int32) (m2 : Int32) (m3 : Int32) (m4 : Int32) (m5 : Int32) (m6 : Int32) (m7 : Int32) (m8 : (Nat → Int32)) (m9 : Int32) (m10 : (Nat → Int32)) (m11 : Int32) (m12 : Bool) (m13 : Int32) (m14 : Int32) (m15 : Bool) (m16 : Int32) (m17 : (Nat → Int32)) (m18 : Int32) (m19 : (Nat → Int32)) (m20 : (Nat → Int32)) (m21 : Int32) (m22 : Int32) (m23 : Int32) (m24 : Int32) (m25 : Int32) (m26 : Int32) (m27 : (Nat → Int32)) (m28 : (Nat → Int32)) (m29 : Int64) (out : Int32 × Int32 × Int32) (hf : f_X10_fault m0 m1 = some out) : CtI G l yX10_fault (Cond.code yX10_fault cX10_fault 1 (some .int) :: WL) (zR 3 68) [.ref (q 0)] (wX10 G q m0 m1 m2 m3 m4 m5 m6 m7 m8 m9 m10 m11 m12 m13 m14 m15 m16 m17 m18 m19 m20 m21 m22 m23 m24 m25 m26 m27 m28 m29) out.1 (wX10 G q m0 m1 out.2.1 out.2.2 m4 m5 m6 m7 m8 m9 m10 m11 m12 m13 m14 m15 m16 m17 m18 m19 m20 m21 m22 m23 m24 m25 m26 m27 m28 m29) := by
  refine CtI.mk (cc := cX10_fault) (nL := 1) (rt := (some .int)) (own := RX10) (nm := "fault") (by decide) rfl rfl (Nat.le_of_ble_eq_true rfl) ?_
  intro p e s m below meth c A ls C hW hl
  have hx := C.1
  have hb := C.2.1
  have hl : lv_has ls 1 [(0, .ref (q 0))] := hl
  unfold f_X10_fault at hf
  refine lv_aload_n hx hb dX10_fault_0 rfl (lv_at hl 0 rfl) ?_
  obtain ⟨u1, eu1, hf⟩ := bnd hf
  refine zk_callBI (As := []) (rest := []) (W1 := wX10 G q m0 m1 u1.2.1 u1.2.2 m4 m5 m6 m7 m8 m9 m10 m11 m12 m13 m14 m15 m16 m17 m18 m19 m20 m21 m22 m23 m24 m25 m26 m27 m28 m29) C hW hl mvX10_65 (c_X10_faultOf l G q m0 m1 m2 m3 m4 m5 m6 m7 m8 m9 m10 m11 m12 m13 m14 m15 m16 m17 m18 m19 m20 m21 m22 m23 m24 m25 m26 m27 m28 m29 u1 eu1) ⟨(Nat.le_of_ble_eq_true rfl), (Nat.le_of_ble_eq_true rfl)⟩ ⟨rfl, rfl⟩ ([]) ([]) zE1 rfl rfl (Nat.le_of_ble_eq_true rfl) zE1r dX10_fault_1 ⟨Nat.zero_le _, Nat.zero_le _⟩ (fun H locs hW => ?_)
  obtain rfl := Option.some.inj hf
  exact zk_iret C hW rfl dX10_fault_4

set_option maxHeartbeats 4000000 in
set_option maxRecDepth 100000 in
theorem w_X10_take_32 {p : Program} {e : Env} {s : State} {m : MethodId} {args : Array Value} {below : List Frame} {meth : Method} {c : Code} {A : Nat → Prop} (l : Launch) (G : GG) (q : Nat → Nat) (s0_0 : (Nat → Int32)) (s0_1 : Int32) (s0_2 : Int32) (s0_3 : Int32) (s0_4 : Int32) (s0_5 : Int32) (s0_6 : Int32) (s0_7 : Int32) (s0_9 : Int32) (s0_10 : (Nat → Int32)) (s0_11 : Int32) (s0_12 : Bool) (s0_13 : Int32) (s0_14 : Int32) (s0_15 : Bool) (s0_16 : Int32) (s0_17 : (Nat → Int32)) (s0_18 : Int32) (s0_19 : (Nat → Int32)) (s0_20 : (Nat → Int32)) (s0_21 : Int32) (s0_22 : Int32) (s0_23 : Int32) (s0_24 : Int32) (s0_25 : Int32) (s0_26 : Int32) (s0_27 : (Nat → Int32)) (s0_28 : (Nat → Int32)) (s0_29 : Int64) (out : Int32 × Int32 × Int32 × Int32 × Int32 × Int32 × Int32 × Int32 × (Nat → Int32) × Int32 × Int32) (C : CX p s m args meth c cX10_take 2 RX10 (some .int) "take") {K : Int32 → (Nat → Int32) → Option (Int32 × Int32 × Int32 × Int32 × Int32 × Int32 × Int32 × Int32 × (Nat → Int32) × Int32 × Int32)} (hK : ∀ (v1 : Int32) (s0_8 : (Nat → Int32)) , K v1 s0_8 = some out → ∀ (H : Heap) (locs : List Loc) (ls : Array Slot), KW G A s (wX10 G q s0_0 s0_1 s0_2 s0_3 s0_4 s0_5 s0_6 s0_7 s0_8 s0_9 s0_10 s0_11 s0_12 s0_13 s0_14 s0_15 s0_16 s0_17 s0_18 s0_19 s0_20 s0_21 s0_22 s0_23 s0_24 s0_25 s0_26 s0_27 s0_28 s0_29) H locs → lv_has ls 2 [(0, .ref (q 0))] → W p l e (zR 3 68) s m args below meth c H locs 0 0 (QI G A out.1 (wX10 G q s0_0 out.2.1 out.2.2.1 out.2.2.2.1 out.2.2.2.2.1 out.2.2.2.2.2.1 out.2.2.2.2.2.2.1 out.2.2.2.2.2.2.2.1 out.2.2.2.2.2.2.2.2.1 out.2.2.2.2.2.2.2.2.2.1 s0_10 s0_11 s0_12 s0_13 s0_14 s0_15 s0_16 s0_17 out.2.2.2.2.2.2.2.2.2.2 s0_19 s0_20 s0_21 s0_22 s0_23 s0_24 s0_25 s0_26 s0_27 s0_28 s0_29) below args s) (F0 m 61 ls [])) :
    ∀ (n : Nat) (v1 : Int32) (s0_8 : (Nat → Int32)) , lp_X10_take_32 s0_0 s0_4 K n v1 s0_8 = some out → ∀ (H : Heap) (locs : List Loc) (ls : Array Slot), KW G A s (wX10 G q s0_0 s0_1 s0_2 s0_3 s0_4 s0_5 s0_6 s0_7 s0_8 s0_9 s0_10 s0_11 s0_12 s0_13 s0_14 s0_15 s0_16 s0_17 s0_18 s0_19 s0_20 s0_21 s0_22 s0_23 s0_24 s0_25 s0_26 s0_27 s0_28 s0_29) H locs → lv_has ls 2 [(0, .ref (q 0)), (1, .int v1)] → W p l e (zR 3 68) s m args below meth c H locs 0 0 (QI G A out.1 (wX10 G q s0_0 out.2.1 out.2.2.1 out.2.2.2.1 out.2.2.2.2.1 out.2.2.2.2.2.1 out.2.2.2.2.2.2.1 out.2.2.2.2.2.2.2.1 out.2.2.2.2.2.2.2.2.1 out.2.2.2.2.2.2.2.2.2.1 s0_10 s0_11 s0_12 s0_13 s0_14 s0_15 s0_16 s0_17 out.2.2.2.2.2.2.2.2.2.2 s0_19 s0_20 s0_21 s0_22 s0_23 s0_24 s0_25 s0_26 s0_27 s0_28 s0_29) below args s) (F0 m 32 ls []) := by
  have hx := C.1
  have hb := C.2.1
  intro n
  induction n with
  | zero => intro v1 s0_8 hf; exact nomatch (show (none : Option (Int32 × Int32 × Int32 × Int32 × Int32 × Int32 × Int32 × Int32 × (Nat → Int32) × Int32 × Int32)) = some out from hf)
  | succ n ih =>
    intro v1 s0_8 hf H locs ls hW hl
    rw [lp_X10_take_32] at hf
    refine lv_iload_n hx hb dX10_take_32 rfl (lv_at hl 1 rfl) ?_
    refine lv_aload_n hx hb dX10_take_33 rfl (lv_at hl 0 rfl) ?_
    refine zk_get C hW fgX10_69 0 rfl rfl dX10_take_34 ?_
    refine lv_icmp_ge (tgt := 61) hx hb dX10_take_37 (by decide) (fun c4 => ?_) (fun c4 => ?_)
    · have hf := ipos c4 hf
      exact hK v1 s0_8 hf _ _ _ hW (lv_sub hl [0] rfl)
    · have hf := ineg c4 hf
      refine lv_aload_n hx hb dX10_take_40 rfl (lv_at hl 0 rfl) ?_
      refine zk_get C hW fgX10_13 0 rfl rfl dX10_take_41 ?_
      refine lv_iload_n hx hb dX10_take_44 rfl (lv_at hl 1 rfl) ?_
      refine lv_aload_n hx hb dX10_take_45 rfl (lv_at hl 0 rfl) ?_
      refine zk_get C hW fgX10_7 0 rfl rfl dX10_take_46 ?_
      refine lv_iload_n hx hb dX10_take_49 rfl (lv_at hl 1 rfl) ?_
      obtain ⟨g5, hf⟩ := grd hf
      refine zk_iald C hW 1 g5 rfl dX10_take_50 ?_
      obtain ⟨u6, eu6, hf⟩ := bnd hf
      refine zk_callSI (As := [.int (s0_0 (Int32.toNatClampNeg v1))]) (rest := [.int v1, .ref (q 2)]) (W1 := wX10 G q s0_0 s0_1 s0_2 s0_3 s0_4 s0_5 s0_6 s0_7 s0_8 s0_9 s0_10 s0_11 s0_12 s0_13 s0_14 s0_15 s0_16 s0_17 s0_18 s0_19 s0_20 s0_21 s0_22 s0_23 s0_24 s0_25 s0_26 s0_27 s0_28 s0_29) C hW hl msX10_53 (c_X10_wordBy l G (s0_0 (Int32.toNatClampNeg v1)) u6 eu6) ⟨(Nat.le_of_ble_eq_true rfl), (Nat.le_of_ble_eq_true rfl)⟩ ⟨rfl, rfl⟩ [] rfl rfl rfl (Nat.le_of_ble_eq_true rfl) (Nat.le_of_ble_eq_true rfl) rfl dX10_take_51 ⟨Nat.zero_le _, Nat.zero_le _⟩ (fun H locs hW => ?_)
      obtain ⟨g8, hf⟩ := grd hf
      obtain ⟨z7, ez7, hf⟩ := bnd hf
      refine zk_iast (W1 := wX10 G q s0_0 s0_1 s0_2 s0_3 s0_4 s0_5 s0_6 s0_7 z7 s0_9 s0_10 s0_11 s0_12 s0_13 s0_14 s0_15 s0_16 s0_17 s0_18 s0_19 s0_20 s0_21 s0_22 s0_23 s0_24 s0_25 s0_26 s0_27 s0_28 s0_29) C hW 2 g8 (Option.some.inj ez7) rfl rfl dX10_take_54 (fun H locs hW => ?_)
      refine lv_iinc (v := (v1 + 1)) (lv' := [(1, .int (v1 + 1)), (0, .ref (q 0))]) hx hb dX10_take_55 hl (k := 1) rfl rfl (by decide) rfl (fun ls hl => ?_)
      refine lv_goto (tgt := 32) hx hb dX10_take_58 (by decide) ?_
      exact ih (v1 + 1) z7 hf _ _ _ hW (lv_sub hl [1, 0] rfl)
set_option maxHeartbeats 4000000 in
set_option maxRecDepth 100000 in
theorem c_X10_take (l : Launch) (G : GG) (q : Nat → Nat) (m0 : (Nat → Int32)) (m1 : Int32) (m2 : Int32) (m3 : Int32) (m4 : Int32) (m5 : Int32) (m6 : Int32) (m7 : Int32) (m8 : (Nat → Int32)) (m9 : Int32) (m10 : (Nat → Int32)) (m11 : Int32) (m12 : Bool) (m13 : Int32) (m14 : Int32) (m15 : Bool) (m16 : Int32) (m17 : (Nat → Int32)) (m18 : Int32) (m19 : (Nat → Int32)) (m20 : (Nat → Int32)) (m21 : Int32) (m22 : Int32) (m23 : Int32) (m24 : Int32) (m25 : Int32) (m26 : Int32) (m27 : (Nat → Int32)) (m28 : (Nat → Int32)) (m29 : Int64) (out : Int32 × Int32 × Int32 × Int32 × Int32 × Int32 × Int32 × Int32 × (Nat → Int32) × Int32 × Int32) (hf : f_X10_take m0 m1 m4 m5 m6 m7 m8 m9 m18 = some out) : CtI G l yX10_take (Cond.code yX10_take cX10_take 2 (some .int) :: WL) (zR 3 68) [.ref (q 0)] (wX10 G q m0 m1 m2 m3 m4 m5 m6 m7 m8 m9 m10 m11 m12 m13 m14 m15 m16 m17 m18 m19 m20 m21 m22 m23 m24 m25 m26 m27 m28 m29) out.1 (wX10 G q m0 out.2.1 out.2.2.1 out.2.2.2.1 out.2.2.2.2.1 out.2.2.2.2.2.1 out.2.2.2.2.2.2.1 out.2.2.2.2.2.2.2.1 out.2.2.2.2.2.2.2.2.1 out.2.2.2.2.2.2.2.2.2.1 m10 m11 m12 m13 m14 m15 m16 m17 out.2.2.2.2.2.2.2.2.2.2 m19 m20 m21 m22 m23 m24 m25 m26 m27 m28 m29) := by
  refine CtI.mk (cc := cX10_take) (nL := 2) (rt := (some .int)) (own := RX10) (nm := "take") (by decide) rfl rfl (Nat.le_of_ble_eq_true rfl) ?_
  intro p e s m below meth c A ls C hW hl
  have hx := C.1
  have hb := C.2.1
  have hl : lv_has ls 2 [(0, .ref (q 0))] := hl
  unfold f_X10_take at hf
  refine lv_aload_n hx hb dX10_take_0 rfl (lv_at hl 0 rfl) ?_
  obtain ⟨u1, eu1, hf⟩ := bnd hf
  refine zk_callBI (As := []) (rest := []) (W1 := wX10 G q m0 m1 u1.2.1 u1.2.2 m4 m5 m6 m7 m8 m9 m10 m11 m12 m13 m14 m15 m16 m17 m18 m19 m20 m21 m22 m23 m24 m25 m26 m27 m28 m29) C hW hl mvX10_65 (c_X10_faultOf l G q m0 m1 m2 m3 m4 m5 m6 m7 m8 m9 m10 m11 m12 m13 m14 m15 m16 m17 m18 m19 m20 m21 m22 m23 m24 m25 m26 m27 m28 m29 u1 eu1) ⟨(Nat.le_of_ble_eq_true rfl), (Nat.le_of_ble_eq_true rfl)⟩ ⟨rfl, rfl⟩ ([]) ([]) zE1 rfl rfl (Nat.le_of_ble_eq_true rfl) zE1r dX10_take_1 ⟨Nat.zero_le _, Nat.zero_le _⟩ (fun H locs hW => ?_)
  refine lv_aload_n hx hb dX10_take_4 rfl (lv_at hl 0 rfl) ?_
  refine zk_get C hW fgX10_44 0 rfl rfl dX10_take_5 ?_
  refine lv_icmp_lt (tgt := 19) hx hb dX10_take_8 (by decide) (fun c2 => ?_) (fun c2 => ?_)
  · have hf := ipos c2 hf
    refine lv_bipush (v := (-103)) hx hb dX10_take_19 (by decide) ?_
    obtain rfl := Option.some.inj hf
    exact zk_iret C hW rfl dX10_take_21
  · have hf := ineg c2 hf
    refine lv_aload_n hx hb dX10_take_11 rfl (lv_at hl 0 rfl) ?_
    refine zk_get C hW fgX10_47 0 rfl rfl dX10_take_12 ?_
    refine lv_iconst (v := 2) hx hb dX10_take_15 (by decide) ?_
    refine lv_icmp_eq (tgt := 22) hx hb dX10_take_16 (by decide) (fun c3 => ?_) (fun c3 => ?_)
    · have hf := ipos c3 hf
      refine lv_aload_n hx hb dX10_take_22 rfl (lv_at hl 0 rfl) ?_
      refine lv_aload_n hx hb dX10_take_23 rfl (lv_at hl 0 rfl) ?_
      refine zk_get C hW fgX10_50 0 rfl rfl dX10_take_24 ?_
      refine zk_putI (W1 := wX10 G q m0 m1 u1.2.1 u1.2.2 u1.2.2 m5 m6 m7 m8 m9 m10 m11 m12 m13 m14 m15 m16 m17 m18 m19 m20 m21 m22 m23 m24 m25 m26 m27 m28 m29) C hW fpX10_69 0 rfl rfl (Nat.le_of_ble_eq_true rfl) rfl dX10_take_27 (fun H locs hW => ?_)
      refine lv_iconst (v := 0) hx hb dX10_take_30 (by decide) ?_
      refine lv_istore_n (lv' := [(1, .int 0), (0, .ref (q 0))]) hx hb dX10_take_31 rfl hl (by decide) rfl (fun ls hl => ?_)
      refine w_X10_take_32 l G q m0 m1 u1.2.1 u1.2.2 u1.2.2 m5 m6 m7 m9 m10 m11 m12 m13 m14 m15 m16 m17 m18 m19 m20 m21 m22 m23 m24 m25 m26 m27 m28 m29 out C (fun w9_v1 w9_s0_8 hf H locs ls hW hl => ?_) FU 0 m8 hf _ _ _ hW (lv_sub hl [1, 0] rfl)
      refine lv_aload_n hx hb dX10_take_61 rfl (lv_at hl 0 rfl) ?_
      refine lv_aload_n hx hb dX10_take_62 rfl (lv_at hl 0 rfl) ?_
      refine zk_get C hW fgX10_7 0 rfl rfl dX10_take_63 ?_
      refine lv_aload_n hx hb dX10_take_66 rfl (lv_at hl 0 rfl) ?_
      refine zk_get C hW fgX10_44 0 rfl rfl dX10_take_67 ?_
      refine lv_iconst (v := 1) hx hb dX10_take_70 (by decide) ?_
      refine lv_isub hx hb dX10_take_71 ?_
      obtain ⟨g10, hf⟩ := grd hf
      refine zk_iald C hW 1 g10 rfl dX10_take_72 ?_
      refine lv_bipush (v := 48) hx hb dX10_take_73 (by decide) ?_
      refine lv_isub hx hb dX10_take_75 ?_
      obtain ⟨z11, ez11, hf⟩ := bnd hf
      refine zk_putI (W1 := wX10 G q m0 m1 u1.2.1 u1.2.2 u1.2.2 z11 m6 m7 w9_s0_8 m9 m10 m11 m12 m13 m14 m15 m16 m17 m18 m19 m20 m21 m22 m23 m24 m25 m26 m27 m28 m29) C hW fpX10_72 0 (Option.some.inj ez11) rfl (Nat.le_of_ble_eq_true rfl) rfl dX10_take_76 (fun H locs hW => ?_)
      refine lv_aload_n hx hb dX10_take_79 rfl (lv_at hl 0 rfl) ?_
      refine lv_iconst (v := 0) hx hb dX10_take_80 (by decide) ?_
      refine zk_putI (W1 := wX10 G q m0 m1 u1.2.1 u1.2.2 u1.2.2 z11 0 m7 w9_s0_8 m9 m10 m11 m12 m13 m14 m15 m16 m17 m18 m19 m20 m21 m22 m23 m24 m25 m26 m27 m28 m29) C hW fpX10_75 0 rfl rfl (Nat.le_of_ble_eq_true rfl) rfl dX10_take_81 (fun H locs hW => ?_)
      refine lv_aload_n hx hb dX10_take_84 rfl (lv_at hl 0 rfl) ?_
      refine lv_iconst (v := 0) hx hb dX10_take_85 (by decide) ?_
      refine zk_putI (W1 := wX10 G q m0 m1 u1.2.1 u1.2.2 u1.2.2 z11 0 m7 w9_s0_8 0 m10 m11 m12 m13 m14 m15 m16 m17 m18 m19 m20 m21 m22 m23 m24 m25 m26 m27 m28 m29) C hW fpX10_78 0 rfl rfl (Nat.le_of_ble_eq_true rfl) rfl dX10_take_86 (fun H locs hW => ?_)
      refine lv_aload_n hx hb dX10_take_89 rfl (lv_at hl 0 rfl) ?_
      refine lv_iconst (v := 0) hx hb dX10_take_90 (by decide) ?_
      refine zk_putI (W1 := wX10 G q m0 m1 u1.2.1 u1.2.2 u1.2.2 z11 0 m7 w9_s0_8 0 m10 m11 m12 m13 m14 m15 m16 m17 0 m19 m20 m21 m22 m23 m24 m25 m26 m27 m28 m29) C hW fpX10_81 0 rfl rfl (Nat.le_of_ble_eq_true rfl) rfl dX10_take_91 (fun H locs hW => ?_)
      refine lv_aload_n hx hb dX10_take_94 rfl (lv_at hl 0 rfl) ?_
      refine lv_dup hx hb dX10_take_95 rfl ?_
      refine zk_get C hW fgX10_84 0 rfl rfl dX10_take_96 ?_
      refine lv_iconst (v := 1) hx hb dX10_take_99 (by decide) ?_
      refine lv_iadd hx hb dX10_take_100 ?_
      obtain ⟨z12, ez12, hf⟩ := bnd hf
      refine zk_putI (W1 := wX10 G q m0 m1 u1.2.1 u1.2.2 u1.2.2 z11 0 z12 w9_s0_8 0 m10 m11 m12 m13 m14 m15 m16 m17 0 m19 m20 m21 m22 m23 m24 m25 m26 m27 m28 m29) C hW fpX10_84 0 (Option.some.inj ez12) rfl (Nat.le_of_ble_eq_true rfl) rfl dX10_take_101 (fun H locs hW => ?_)
      refine lv_aload_n hx hb dX10_take_104 rfl (lv_at hl 0 rfl) ?_
      refine lv_iconst (v := 0) hx hb dX10_take_105 (by decide) ?_
      refine zk_putI (W1 := wX10 G q m0 0 u1.2.1 u1.2.2 u1.2.2 z11 0 z12 w9_s0_8 0 m10 m11 m12 m13 m14 m15 m16 m17 0 m19 m20 m21 m22 m23 m24 m25 m26 m27 m28 m29) C hW fpX10_44 0 rfl rfl (Nat.le_of_ble_eq_true rfl) rfl dX10_take_106 (fun H locs hW => ?_)
      refine lv_aload_n hx hb dX10_take_109 rfl (lv_at hl 0 rfl) ?_
      refine zk_get C hW fgX10_69 0 rfl rfl dX10_take_110 ?_
      obtain rfl := Option.some.inj hf
      exact zk_iret C hW rfl dX10_take_113
    · have hf := ineg c3 hf
      refine lv_bipush (v := (-103)) hx hb dX10_take_19 (by decide) ?_
      obtain rfl := Option.some.inj hf
      exact zk_iret C hW rfl dX10_take_21

set_option maxHeartbeats 4000000 in
set_option maxRecDepth 100000 in
theorem c_X10_isWord (l : Launch) (G : GG) (q : Nat → Nat) (m0 : (Nat → Int32)) (m1 : Int32) (m2 : Int32) (m3 : Int32) (m4 : Int32) (m5 : Int32) (m6 : Int32) (m7 : Int32) (m8 : (Nat → Int32)) (m9 : Int32) (m10 : (Nat → Int32)) (m11 : Int32) (m12 : Bool) (m13 : Int32) (m14 : Int32) (m15 : Bool) (m16 : Int32) (m17 : (Nat → Int32)) (m18 : Int32) (m19 : (Nat → Int32)) (m20 : (Nat → Int32)) (m21 : Int32) (m22 : Int32) (m23 : Int32) (m24 : Int32) (m25 : Int32) (m26 : Int32) (m27 : (Nat → Int32)) (m28 : (Nat → Int32)) (m29 : Int64) (a0 : Int32) (out : Bool) (hf : f_X10_isWord m4 a0 = some out) : CtI G l yX10_isWord (Cond.code yX10_isWord cX10_isWord 2 (some .boolean) :: WL) (zR 1 25) [.ref (q 0), .int a0] (wX10 G q m0 m1 m2 m3 m4 m5 m6 m7 m8 m9 m10 m11 m12 m13 m14 m15 m16 m17 m18 m19 m20 m21 m22 m23 m24 m25 m26 m27 m28 m29) (bI out) (wX10 G q m0 m1 m2 m3 m4 m5 m6 m7 m8 m9 m10 m11 m12 m13 m14 m15 m16 m17 m18 m19 m20 m21 m22 m23 m24 m25 m26 m27 m28 m29) := by
  refine CtI.mk (cc := cX10_isWord) (nL := 2) (rt := (some .boolean)) (own := RX10) (nm := "isWord") (by decide) rfl rfl (Nat.le_of_ble_eq_true rfl) ?_
  intro p e s m below meth c A ls C hW hl
  have hx := C.1
  have hb := C.2.1
  have hl : lv_has ls 2 [(0, .ref (q 0)), (1, .int a0)] := hl
  unfold f_X10_isWord at hf
  refine lv_iload_n hx hb dX10_isWord_0 rfl (lv_at hl 1 rfl) ?_
  refine lv_i2l (v := (Int32.toInt64 a0)) hx hb dX10_isWord_1 rfl ?_
  refine lv_lconst (v := 0) hx hb dX10_isWord_2 (by decide) ?_
  refine lv_aload_n hx hb dX10_isWord_3 rfl (lv_at hl 0 rfl) ?_
  refine zk_get C hW fgX10_69 0 rfl rfl dX10_isWord_4 ?_
  refine lv_iconst (v := 1) hx hb dX10_isWord_7 (by decide) ?_
  refine lv_isub hx hb dX10_isWord_8 ?_
  refine lv_i2l (v := (Int32.toInt64 (m4 - 1))) hx hb dX10_isWord_9 rfl ?_
  obtain ⟨u1, eu1, hf⟩ := bnd hf
  refine zk_callSI (As := [.long (Int32.toInt64 a0), .long 0, .long (Int32.toInt64 (m4 - 1))]) (rest := []) (W1 := wX10 G q m0 m1 m2 m3 m4 m5 m6 m7 m8 m9 m10 m11 m12 m13 m14 m15 m16 m17 m18 m19 m20 m21 m22 m23 m24 m25 m26 m27 m28 m29) C hW hl msX10_40 (c_X10_in l G (Int32.toInt64 a0) 0 (Int32.toInt64 (m4 - 1)) u1 eu1) ⟨(Nat.le_of_ble_eq_true rfl), (Nat.le_of_ble_eq_true rfl)⟩ ⟨rfl, rfl⟩ [] rfl rfl rfl (Nat.le_of_ble_eq_true rfl) (Nat.le_of_ble_eq_true rfl) rfl dX10_isWord_10 ⟨Nat.zero_le _, Nat.zero_le _⟩ (fun H locs hW => ?_)
  obtain rfl := Option.some.inj hf
  exact zk_zret u1 C hW rfl dX10_isWord_13

set_option maxHeartbeats 4000000 in
set_option maxRecDepth 100000 in
theorem c_X10_isListener (l : Launch) (G : GG) (q : Nat → Nat) (m0 : (Nat → Int32)) (m1 : Int32) (m2 : Int32) (m3 : Int32) (m4 : Int32) (m5 : Int32) (m6 : Int32) (m7 : Int32) (m8 : (Nat → Int32)) (m9 : Int32) (m10 : (Nat → Int32)) (m11 : Int32) (m12 : Bool) (m13 : Int32) (m14 : Int32) (m15 : Bool) (m16 : Int32) (m17 : (Nat → Int32)) (m18 : Int32) (m19 : (Nat → Int32)) (m20 : (Nat → Int32)) (m21 : Int32) (m22 : Int32) (m23 : Int32) (m24 : Int32) (m25 : Int32) (m26 : Int32) (m27 : (Nat → Int32)) (m28 : (Nat → Int32)) (m29 : Int64) (a0 : Int32) (out : Bool) (hf : f_X10_isListener m9 a0 = some out) : CtI G l yX10_isListener (Cond.code yX10_isListener cX10_isListener 2 (some .boolean) :: WL) (zR 1 25) [.ref (q 0), .int a0] (wX10 G q m0 m1 m2 m3 m4 m5 m6 m7 m8 m9 m10 m11 m12 m13 m14 m15 m16 m17 m18 m19 m20 m21 m22 m23 m24 m25 m26 m27 m28 m29) (bI out) (wX10 G q m0 m1 m2 m3 m4 m5 m6 m7 m8 m9 m10 m11 m12 m13 m14 m15 m16 m17 m18 m19 m20 m21 m22 m23 m24 m25 m26 m27 m28 m29) := by
  refine CtI.mk (cc := cX10_isListener) (nL := 2) (rt := (some .boolean)) (own := RX10) (nm := "isListener") (by decide) rfl rfl (Nat.le_of_ble_eq_true rfl) ?_
  intro p e s m below meth c A ls C hW hl
  have hx := C.1
  have hb := C.2.1
  have hl : lv_has ls 2 [(0, .ref (q 0)), (1, .int a0)] := hl
  unfold f_X10_isListener at hf
  refine lv_iload_n hx hb dX10_isListener_0 rfl (lv_at hl 1 rfl) ?_
  refine lv_i2l (v := (Int32.toInt64 a0)) hx hb dX10_isListener_1 rfl ?_
  refine lv_lconst (v := 0) hx hb dX10_isListener_2 (by decide) ?_
  refine lv_aload_n hx hb dX10_isListener_3 rfl (lv_at hl 0 rfl) ?_
  refine zk_get C hW fgX10_78 0 rfl rfl dX10_isListener_4 ?_
  refine lv_iconst (v := 1) hx hb dX10_isListener_7 (by decide) ?_
  refine lv_isub hx hb dX10_isListener_8 ?_
  refine lv_i2l (v := (Int32.toInt64 (m9 - 1))) hx hb dX10_isListener_9 rfl ?_
  obtain ⟨u1, eu1, hf⟩ := bnd hf
  refine zk_callSI (As := [.long (Int32.toInt64 a0), .long 0, .long (Int32.toInt64 (m9 - 1))]) (rest := []) (W1 := wX10 G q m0 m1 m2 m3 m4 m5 m6 m7 m8 m9 m10 m11 m12 m13 m14 m15 m16 m17 m18 m19 m20 m21 m22 m23 m24 m25 m26 m27 m28 m29) C hW hl msX10_40 (c_X10_in l G (Int32.toInt64 a0) 0 (Int32.toInt64 (m9 - 1)) u1 eu1) ⟨(Nat.le_of_ble_eq_true rfl), (Nat.le_of_ble_eq_true rfl)⟩ ⟨rfl, rfl⟩ [] rfl rfl rfl (Nat.le_of_ble_eq_true rfl) (Nat.le_of_ble_eq_true rfl) rfl dX10_isListener_10 ⟨Nat.zero_le _, Nat.zero_le _⟩ (fun H locs hW => ?_)
  obtain rfl := Option.some.inj hf
  exact zk_zret u1 C hW rfl dX10_isListener_13

set_option maxHeartbeats 4000000 in
set_option maxRecDepth 100000 in
theorem c_X10_begin (l : Launch) (G : GG) (q : Nat → Nat) (m1 : Int32) (m2 : Int32) (m3 : Int32) (m4 : Int32) (m5 : Int32) (m6 : Int32) (m7 : Int32) (m9 : Int32) (m11 : Int32) (m12 : Bool) (m13 : Int32) (m14 : Int32) (m15 : Bool) (m16 : Int32) (m18 : Int32) (m21 : Int32) (m22 : Int32) (m23 : Int32) (m24 : Int32) (m25 : Int32) (m26 : Int32) (m29 : Int64) (out : Int32 × Bool × Int32 × Int32 × Bool) (hf : f_X10_begin  = some out) : CtV G l yX10_begin (Cond.code yX10_begin cX10_begin 1 none :: WL) (zR 0 0) [.ref (q 0)] (wO10 G q m1 m2 m3 m4 m5 m6 m7 m9 m11 m12 m13 m14 m15 m16 m18 m21 m22 m23 m24 m25 m26 m29) (wO10 G q m1 m2 m3 m4 m5 m6 m7 m9 out.1 out.2.1 out.2.2.1 out.2.2.2.1 out.2.2.2.2 m16 m18 m21 m22 m23 m24 m25 m26 m29) := by
  refine CtV.mk (cc := cX10_begin) (nL := 1) (rt := none) (own := RX10) (nm := "begin") (by decide) rfl rfl (Nat.le_of_ble_eq_true rfl) ?_
  intro p e s m below meth c A ls C hW hl
  have hx := C.1
  have hb := C.2.1
  have hl : lv_has ls 1 [(0, .ref (q 0))] := hl
  unfold f_X10_begin at hf
  refine lv_aload_n hx hb dX10_begin_0 rfl (lv_at hl 0 rfl) ?_
  refine lv_iconst (v := 0) hx hb dX10_begin_1 (by decide) ?_
  refine zk_putI (W1 := wO10 G q m1 m2 m3 m4 m5 m6 m7 m9 0 m12 m13 m14 m15 m16 m18 m21 m22 m23 m24 m25 m26 m29) C hW fpX10_87 0 rfl rfl (Nat.le_of_ble_eq_true rfl) rfl dX10_begin_2 (fun H locs hW => ?_)
  refine lv_aload_n hx hb dX10_begin_5 rfl (lv_at hl 0 rfl) ?_
  refine lv_iconst (v := 0) hx hb dX10_begin_6 (by decide) ?_
  refine zk_putZ (W1 := wO10 G q m1 m2 m3 m4 m5 m6 m7 m9 0 false m13 m14 m15 m16 m18 m21 m22 m23 m24 m25 m26 m29) C hW fpX10_90 0 false rfl rfl (Nat.le_of_ble_eq_true rfl) rfl dX10_begin_7 (fun H locs hW => ?_)
  refine lv_aload_n hx hb dX10_begin_10 rfl (lv_at hl 0 rfl) ?_
  refine lv_iconst (v := 0) hx hb dX10_begin_11 (by decide) ?_
  refine zk_putI (W1 := wO10 G q m1 m2 m3 m4 m5 m6 m7 m9 0 false 0 m14 m15 m16 m18 m21 m22 m23 m24 m25 m26 m29) C hW fpX10_94 0 rfl rfl (Nat.le_of_ble_eq_true rfl) rfl dX10_begin_12 (fun H locs hW => ?_)
  refine lv_aload_n hx hb dX10_begin_15 rfl (lv_at hl 0 rfl) ?_
  refine lv_iconst (v := 0) hx hb dX10_begin_16 (by decide) ?_
  refine zk_putI (W1 := wO10 G q m1 m2 m3 m4 m5 m6 m7 m9 0 false 0 0 m15 m16 m18 m21 m22 m23 m24 m25 m26 m29) C hW fpX10_97 0 rfl rfl (Nat.le_of_ble_eq_true rfl) rfl dX10_begin_17 (fun H locs hW => ?_)
  refine lv_aload_n hx hb dX10_begin_20 rfl (lv_at hl 0 rfl) ?_
  refine lv_iconst (v := 0) hx hb dX10_begin_21 (by decide) ?_
  refine zk_putZ (W1 := wO10 G q m1 m2 m3 m4 m5 m6 m7 m9 0 false 0 0 false m16 m18 m21 m22 m23 m24 m25 m26 m29) C hW fpX10_100 0 false rfl rfl (Nat.le_of_ble_eq_true rfl) rfl dX10_begin_22 (fun H locs hW => ?_)
  obtain rfl := Option.some.inj hf
  exact zk_vret C hW dX10_begin_25

set_option maxHeartbeats 4000000 in
set_option maxRecDepth 100000 in
theorem c_X10_readWord (l : Launch) (G : GG) (q : Nat → Nat) (m1 : Int32) (m2 : Int32) (m3 : Int32) (m4 : Int32) (m5 : Int32) (m6 : Int32) (m7 : Int32) (m9 : Int32) (m11 : Int32) (m12 : Bool) (m13 : Int32) (m14 : Int32) (m15 : Bool) (m16 : Int32) (m18 : Int32) (m21 : Int32) (m22 : Int32) (m23 : Int32) (m24 : Int32) (m25 : Int32) (m26 : Int32) (m29 : Int64) (a0 : Int32) (out : Int32 × Bool × Int32 × Int32) (hf : f_X10_readWord m11 m12 m13 m14 a0 = some out) : CtV G l yX10_readWord (Cond.code yX10_readWord cX10_readWord 2 none :: WL) (zR 0 0) [.ref (q 0), .int a0] (wO10 G q m1 m2 m3 m4 m5 m6 m7 m9 m11 m12 m13 m14 m15 m16 m18 m21 m22 m23 m24 m25 m26 m29) (wO10 G q m1 m2 m3 m4 m5 m6 m7 m9 out.1 out.2.1 out.2.2.1 out.2.2.2 m15 m16 m18 m21 m22 m23 m24 m25 m26 m29) := by
  refine CtV.mk (cc := cX10_readWord) (nL := 2) (rt := none) (own := RX10) (nm := "readWord") (by decide) rfl rfl (Nat.le_of_ble_eq_true rfl) ?_
  intro p e s m below meth c A ls C hW hl
  have hx := C.1
  have hb := C.2.1
  have hl : lv_has ls 2 [(0, .ref (q 0)), (1, .int a0)] := hl
  unfold f_X10_readWord at hf
  refine lv_iload_n hx hb dX10_readWord_0 rfl (lv_at hl 1 rfl) ?_
  by_cases e1 : a0 = 0
  · have hf := ipos e1 hf
    refine lv_tableIn (tgt := 36) (off := 35) hx hb dX10_readWord_1 (by rw [e1]; decide) (by rw [e1]; decide) (by rw [e1]; rfl) (by decide) ?_
    refine lv_aload_n hx hb dX10_readWord_36 rfl (lv_at hl 0 rfl) ?_
    refine lv_dup hx hb dX10_readWord_37 rfl ?_
    refine zk_get C hW fgX10_87 0 rfl rfl dX10_readWord_38 ?_
    refine lv_aload_n hx hb dX10_readWord_41 rfl (lv_at hl 0 rfl) ?_
    refine zk_get C hW fgX10_90 0 rfl rfl dX10_readWord_42 ?_
    refine lv_if_eq (tgt := 52) hx hb dX10_readWord_45 (by decide) (fun c2 => ?_) (fun c2 => ?_)
    · have hf := ipos c2 hf
      refine lv_iconst (v := 1) hx hb dX10_readWord_52 (by decide) ?_
      refine lv_iadd hx hb dX10_readWord_53 ?_
      obtain ⟨z3, ez3, hf⟩ := bnd hf
      refine zk_putI (W1 := wO10 G q m1 m2 m3 m4 m5 m6 m7 m9 z3 m12 m13 m14 m15 m16 m18 m21 m22 m23 m24 m25 m26 m29) C hW fpX10_87 0 (Option.some.inj ez3) rfl (Nat.le_of_ble_eq_true rfl) rfl dX10_readWord_54 (fun H locs hW => ?_)
      refine lv_aload_n hx hb dX10_readWord_57 rfl (lv_at hl 0 rfl) ?_
      refine lv_iconst (v := 0) hx hb dX10_readWord_58 (by decide) ?_
      refine zk_putZ (W1 := wO10 G q m1 m2 m3 m4 m5 m6 m7 m9 z3 false m13 m14 m15 m16 m18 m21 m22 m23 m24 m25 m26 m29) C hW fpX10_90 0 false rfl rfl (Nat.le_of_ble_eq_true rfl) rfl dX10_readWord_59 (fun H locs hW => ?_)
      refine lv_goto (tgt := 148) hx hb dX10_readWord_62 (by decide) ?_
      refine lv_aload_n hx hb dX10_readWord_148 rfl (lv_at hl 0 rfl) ?_
      refine lv_dup hx hb dX10_readWord_149 rfl ?_
      refine zk_get C hW fgX10_97 0 rfl rfl dX10_readWord_150 ?_
      refine lv_iconst (v := 1) hx hb dX10_readWord_153 (by decide) ?_
      refine lv_iadd hx hb dX10_readWord_154 ?_
      obtain ⟨z4, ez4, hf⟩ := bnd hf
      refine zk_putI (W1 := wO10 G q m1 m2 m3 m4 m5 m6 m7 m9 z3 false m13 z4 m15 m16 m18 m21 m22 m23 m24 m25 m26 m29) C hW fpX10_97 0 (Option.some.inj ez4) rfl (Nat.le_of_ble_eq_true rfl) rfl dX10_readWord_155 (fun H locs hW => ?_)
      obtain rfl := Option.some.inj hf
      exact zk_vret C hW dX10_readWord_158
    · have hf := ineg c2 hf
      refine lv_iconst (v := (-1)) hx hb dX10_readWord_48 (by decide) ?_
      refine lv_goto (tgt := 53) hx hb dX10_readWord_49 (by decide) ?_
      refine lv_iadd hx hb dX10_readWord_53 ?_
      obtain ⟨z5, ez5, hf⟩ := bnd hf
      refine zk_putI (W1 := wO10 G q m1 m2 m3 m4 m5 m6 m7 m9 z5 m12 m13 m14 m15 m16 m18 m21 m22 m23 m24 m25 m26 m29) C hW fpX10_87 0 (Option.some.inj ez5) rfl (Nat.le_of_ble_eq_true rfl) rfl dX10_readWord_54 (fun H locs hW => ?_)
      refine lv_aload_n hx hb dX10_readWord_57 rfl (lv_at hl 0 rfl) ?_
      refine lv_iconst (v := 0) hx hb dX10_readWord_58 (by decide) ?_
      refine zk_putZ (W1 := wO10 G q m1 m2 m3 m4 m5 m6 m7 m9 z5 false m13 m14 m15 m16 m18 m21 m22 m23 m24 m25 m26 m29) C hW fpX10_90 0 false rfl rfl (Nat.le_of_ble_eq_true rfl) rfl dX10_readWord_59 (fun H locs hW => ?_)
      refine lv_goto (tgt := 148) hx hb dX10_readWord_62 (by decide) ?_
      refine lv_aload_n hx hb dX10_readWord_148 rfl (lv_at hl 0 rfl) ?_
      refine lv_dup hx hb dX10_readWord_149 rfl ?_
      refine zk_get C hW fgX10_97 0 rfl rfl dX10_readWord_150 ?_
      refine lv_iconst (v := 1) hx hb dX10_readWord_153 (by decide) ?_
      refine lv_iadd hx hb dX10_readWord_154 ?_
      obtain ⟨z6, ez6, hf⟩ := bnd hf
      refine zk_putI (W1 := wO10 G q m1 m2 m3 m4 m5 m6 m7 m9 z5 false m13 z6 m15 m16 m18 m21 m22 m23 m24 m25 m26 m29) C hW fpX10_97 0 (Option.some.inj ez6) rfl (Nat.le_of_ble_eq_true rfl) rfl dX10_readWord_155 (fun H locs hW => ?_)
      obtain rfl := Option.some.inj hf
      exact zk_vret C hW dX10_readWord_158
  have hf := ineg e1 hf
  by_cases e7 : a0 = 1
  · have hf := ipos e7 hf
    refine lv_tableIn (tgt := 65) (off := 64) hx hb dX10_readWord_1 (by rw [e7]; decide) (by rw [e7]; decide) (by rw [e7]; rfl) (by decide) ?_
    refine lv_aload_n hx hb dX10_readWord_65 rfl (lv_at hl 0 rfl) ?_
    refine lv_dup hx hb dX10_readWord_66 rfl ?_
    refine zk_get C hW fgX10_87 0 rfl rfl dX10_readWord_67 ?_
    refine lv_aload_n hx hb dX10_readWord_70 rfl (lv_at hl 0 rfl) ?_
    refine zk_get C hW fgX10_90 0 rfl rfl dX10_readWord_71 ?_
    refine lv_if_eq (tgt := 81) hx hb dX10_readWord_74 (by decide) (fun c8 => ?_) (fun c8 => ?_)
    · have hf := ipos c8 hf
      refine lv_iconst (v := (-1)) hx hb dX10_readWord_81 (by decide) ?_
      refine lv_iadd hx hb dX10_readWord_82 ?_
      obtain ⟨z9, ez9, hf⟩ := bnd hf
      refine zk_putI (W1 := wO10 G q m1 m2 m3 m4 m5 m6 m7 m9 z9 m12 m13 m14 m15 m16 m18 m21 m22 m23 m24 m25 m26 m29) C hW fpX10_87 0 (Option.some.inj ez9) rfl (Nat.le_of_ble_eq_true rfl) rfl dX10_readWord_83 (fun H locs hW => ?_)
      refine lv_aload_n hx hb dX10_readWord_86 rfl (lv_at hl 0 rfl) ?_
      refine lv_iconst (v := 0) hx hb dX10_readWord_87 (by decide) ?_
      refine zk_putZ (W1 := wO10 G q m1 m2 m3 m4 m5 m6 m7 m9 z9 false m13 m14 m15 m16 m18 m21 m22 m23 m24 m25 m26 m29) C hW fpX10_90 0 false rfl rfl (Nat.le_of_ble_eq_true rfl) rfl dX10_readWord_88 (fun H locs hW => ?_)
      refine lv_goto (tgt := 148) hx hb dX10_readWord_91 (by decide) ?_
      refine lv_aload_n hx hb dX10_readWord_148 rfl (lv_at hl 0 rfl) ?_
      refine lv_dup hx hb dX10_readWord_149 rfl ?_
      refine zk_get C hW fgX10_97 0 rfl rfl dX10_readWord_150 ?_
      refine lv_iconst (v := 1) hx hb dX10_readWord_153 (by decide) ?_
      refine lv_iadd hx hb dX10_readWord_154 ?_
      obtain ⟨z10, ez10, hf⟩ := bnd hf
      refine zk_putI (W1 := wO10 G q m1 m2 m3 m4 m5 m6 m7 m9 z9 false m13 z10 m15 m16 m18 m21 m22 m23 m24 m25 m26 m29) C hW fpX10_97 0 (Option.some.inj ez10) rfl (Nat.le_of_ble_eq_true rfl) rfl dX10_readWord_155 (fun H locs hW => ?_)
      obtain rfl := Option.some.inj hf
      exact zk_vret C hW dX10_readWord_158
    · have hf := ineg c8 hf
      refine lv_iconst (v := 1) hx hb dX10_readWord_77 (by decide) ?_
      refine lv_goto (tgt := 82) hx hb dX10_readWord_78 (by decide) ?_
      refine lv_iadd hx hb dX10_readWord_82 ?_
      obtain ⟨z11, ez11, hf⟩ := bnd hf
      refine zk_putI (W1 := wO10 G q m1 m2 m3 m4 m5 m6 m7 m9 z11 m12 m13 m14 m15 m16 m18 m21 m22 m23 m24 m25 m26 m29) C hW fpX10_87 0 (Option.some.inj ez11) rfl (Nat.le_of_ble_eq_true rfl) rfl dX10_readWord_83 (fun H locs hW => ?_)
      refine lv_aload_n hx hb dX10_readWord_86 rfl (lv_at hl 0 rfl) ?_
      refine lv_iconst (v := 0) hx hb dX10_readWord_87 (by decide) ?_
      refine zk_putZ (W1 := wO10 G q m1 m2 m3 m4 m5 m6 m7 m9 z11 false m13 m14 m15 m16 m18 m21 m22 m23 m24 m25 m26 m29) C hW fpX10_90 0 false rfl rfl (Nat.le_of_ble_eq_true rfl) rfl dX10_readWord_88 (fun H locs hW => ?_)
      refine lv_goto (tgt := 148) hx hb dX10_readWord_91 (by decide) ?_
      refine lv_aload_n hx hb dX10_readWord_148 rfl (lv_at hl 0 rfl) ?_
      refine lv_dup hx hb dX10_readWord_149 rfl ?_
      refine zk_get C hW fgX10_97 0 rfl rfl dX10_readWord_150 ?_
      refine lv_iconst (v := 1) hx hb dX10_readWord_153 (by decide) ?_
      refine lv_iadd hx hb dX10_readWord_154 ?_
      obtain ⟨z12, ez12, hf⟩ := bnd hf
      refine zk_putI (W1 := wO10 G q m1 m2 m3 m4 m5 m6 m7 m9 z11 false m13 z12 m15 m16 m18 m21 m22 m23 m24 m25 m26 m29) C hW fpX10_97 0 (Option.some.inj ez12) rfl (Nat.le_of_ble_eq_true rfl) rfl dX10_readWord_155 (fun H locs hW => ?_)
      obtain rfl := Option.some.inj hf
      exact zk_vret C hW dX10_readWord_158
  have hf := ineg e7 hf
  by_cases e13 : a0 = 2
  · have hf := ipos e13 hf
    refine lv_tableIn (tgt := 94) (off := 93) hx hb dX10_readWord_1 (by rw [e13]; decide) (by rw [e13]; decide) (by rw [e13]; rfl) (by decide) ?_
    refine lv_aload_n hx hb dX10_readWord_94 rfl (lv_at hl 0 rfl) ?_
    refine lv_aload_n hx hb dX10_readWord_95 rfl (lv_at hl 0 rfl) ?_
    refine zk_get C hW fgX10_90 0 rfl rfl dX10_readWord_96 ?_
    refine lv_if_ne (tgt := 106) hx hb dX10_readWord_99 (by decide) (fun c14 => ?_) (fun c14 => ?_)
    · have hf := ineg c14 hf
      refine lv_iconst (v := 0) hx hb dX10_readWord_106 (by decide) ?_
      refine zk_putZ (W1 := wO10 G q m1 m2 m3 m4 m5 m6 m7 m9 m11 false m13 m14 m15 m16 m18 m21 m22 m23 m24 m25 m26 m29) C hW fpX10_90 0 false rfl rfl (Nat.le_of_ble_eq_true rfl) rfl dX10_readWord_107 (fun H locs hW => ?_)
      refine lv_goto (tgt := 148) hx hb dX10_readWord_110 (by decide) ?_
      refine lv_aload_n hx hb dX10_readWord_148 rfl (lv_at hl 0 rfl) ?_
      refine lv_dup hx hb dX10_readWord_149 rfl ?_
      refine zk_get C hW fgX10_97 0 rfl rfl dX10_readWord_150 ?_
      refine lv_iconst (v := 1) hx hb dX10_readWord_153 (by decide) ?_
      refine lv_iadd hx hb dX10_readWord_154 ?_
      obtain ⟨z15, ez15, hf⟩ := bnd hf
      refine zk_putI (W1 := wO10 G q m1 m2 m3 m4 m5 m6 m7 m9 m11 false m13 z15 m15 m16 m18 m21 m22 m23 m24 m25 m26 m29) C hW fpX10_97 0 (Option.some.inj ez15) rfl (Nat.le_of_ble_eq_true rfl) rfl dX10_readWord_155 (fun H locs hW => ?_)
      obtain rfl := Option.some.inj hf
      exact zk_vret C hW dX10_readWord_158
    · have hf := ipos c14 hf
      refine lv_iconst (v := 1) hx hb dX10_readWord_102 (by decide) ?_
      refine lv_goto (tgt := 107) hx hb dX10_readWord_103 (by decide) ?_
      refine zk_putZ (W1 := wO10 G q m1 m2 m3 m4 m5 m6 m7 m9 m11 true m13 m14 m15 m16 m18 m21 m22 m23 m24 m25 m26 m29) C hW fpX10_90 0 true rfl rfl (Nat.le_of_ble_eq_true rfl) rfl dX10_readWord_107 (fun H locs hW => ?_)
      refine lv_goto (tgt := 148) hx hb dX10_readWord_110 (by decide) ?_
      refine lv_aload_n hx hb dX10_readWord_148 rfl (lv_at hl 0 rfl) ?_
      refine lv_dup hx hb dX10_readWord_149 rfl ?_
      refine zk_get C hW fgX10_97 0 rfl rfl dX10_readWord_150 ?_
      refine lv_iconst (v := 1) hx hb dX10_readWord_153 (by decide) ?_
      refine lv_iadd hx hb dX10_readWord_154 ?_
      obtain ⟨z16, ez16, hf⟩ := bnd hf
      refine zk_putI (W1 := wO10 G q m1 m2 m3 m4 m5 m6 m7 m9 m11 true m13 z16 m15 m16 m18 m21 m22 m23 m24 m25 m26 m29) C hW fpX10_97 0 (Option.some.inj ez16) rfl (Nat.le_of_ble_eq_true rfl) rfl dX10_readWord_155 (fun H locs hW => ?_)
      obtain rfl := Option.some.inj hf
      exact zk_vret C hW dX10_readWord_158
  have hf := ineg e13 hf
  by_cases e17 : a0 = 3
  · have hf := ipos e17 hf
    refine lv_tableIn (tgt := 113) (off := 112) hx hb dX10_readWord_1 (by rw [e17]; decide) (by rw [e17]; decide) (by rw [e17]; rfl) (by decide) ?_
    refine lv_aload_n hx hb dX10_readWord_113 rfl (lv_at hl 0 rfl) ?_
    refine lv_aload_n hx hb dX10_readWord_114 rfl (lv_at hl 0 rfl) ?_
    refine zk_get C hW fgX10_87 0 rfl rfl dX10_readWord_115 ?_
    refine lv_ineg hx hb dX10_readWord_118 ?_
    obtain ⟨z18, ez18, hf⟩ := bnd hf
    refine zk_putI (W1 := wO10 G q m1 m2 m3 m4 m5 m6 m7 m9 z18 m12 m13 m14 m15 m16 m18 m21 m22 m23 m24 m25 m26 m29) C hW fpX10_87 0 (Option.some.inj ez18) rfl (Nat.le_of_ble_eq_true rfl) rfl dX10_readWord_119 (fun H locs hW => ?_)
    refine lv_goto (tgt := 148) hx hb dX10_readWord_122 (by decide) ?_
    refine lv_aload_n hx hb dX10_readWord_148 rfl (lv_at hl 0 rfl) ?_
    refine lv_dup hx hb dX10_readWord_149 rfl ?_
    refine zk_get C hW fgX10_97 0 rfl rfl dX10_readWord_150 ?_
    refine lv_iconst (v := 1) hx hb dX10_readWord_153 (by decide) ?_
    refine lv_iadd hx hb dX10_readWord_154 ?_
    obtain ⟨z19, ez19, hf⟩ := bnd hf
    refine zk_putI (W1 := wO10 G q m1 m2 m3 m4 m5 m6 m7 m9 z18 m12 m13 z19 m15 m16 m18 m21 m22 m23 m24 m25 m26 m29) C hW fpX10_97 0 (Option.some.inj ez19) rfl (Nat.le_of_ble_eq_true rfl) rfl dX10_readWord_155 (fun H locs hW => ?_)
    obtain rfl := Option.some.inj hf
    exact zk_vret C hW dX10_readWord_158
  have hf := ineg e17 hf
  by_cases e20 : a0 = 4
  · have hf := ipos e20 hf
    refine lv_tableIn (tgt := 125) (off := 124) hx hb dX10_readWord_1 (by rw [e20]; decide) (by rw [e20]; decide) (by rw [e20]; rfl) (by decide) ?_
    refine lv_aload_n hx hb dX10_readWord_125 rfl (lv_at hl 0 rfl) ?_
    refine lv_dup hx hb dX10_readWord_126 rfl ?_
    refine zk_get C hW fgX10_87 0 rfl rfl dX10_readWord_127 ?_
    refine lv_iconst (v := 1) hx hb dX10_readWord_130 (by decide) ?_
    refine lv_iadd hx hb dX10_readWord_131 ?_
    obtain ⟨z21, ez21, hf⟩ := bnd hf
    refine zk_putI (W1 := wO10 G q m1 m2 m3 m4 m5 m6 m7 m9 z21 m12 m13 m14 m15 m16 m18 m21 m22 m23 m24 m25 m26 m29) C hW fpX10_87 0 (Option.some.inj ez21) rfl (Nat.le_of_ble_eq_true rfl) rfl dX10_readWord_132 (fun H locs hW => ?_)
    refine lv_goto (tgt := 148) hx hb dX10_readWord_135 (by decide) ?_
    refine lv_aload_n hx hb dX10_readWord_148 rfl (lv_at hl 0 rfl) ?_
    refine lv_dup hx hb dX10_readWord_149 rfl ?_
    refine zk_get C hW fgX10_97 0 rfl rfl dX10_readWord_150 ?_
    refine lv_iconst (v := 1) hx hb dX10_readWord_153 (by decide) ?_
    refine lv_iadd hx hb dX10_readWord_154 ?_
    obtain ⟨z22, ez22, hf⟩ := bnd hf
    refine zk_putI (W1 := wO10 G q m1 m2 m3 m4 m5 m6 m7 m9 z21 m12 m13 z22 m15 m16 m18 m21 m22 m23 m24 m25 m26 m29) C hW fpX10_97 0 (Option.some.inj ez22) rfl (Nat.le_of_ble_eq_true rfl) rfl dX10_readWord_155 (fun H locs hW => ?_)
    obtain rfl := Option.some.inj hf
    exact zk_vret C hW dX10_readWord_158
  have hf := ineg e20 hf
  refine lv_tableOut (tgt := 138) hx hb dX10_readWord_1 (by have he1 := lv_neT e1 (a := 0) rfl; have he7 := lv_neT e7 (a := 1) rfl; have he13 := lv_neT e13 (a := 2) rfl; have he17 := lv_neT e17 (a := 3) rfl; have he20 := lv_neT e20 (a := 4) rfl; omega) (by decide) ?_
  refine lv_aload_n hx hb dX10_readWord_138 rfl (lv_at hl 0 rfl) ?_
  refine lv_dup hx hb dX10_readWord_139 rfl ?_
  refine zk_get C hW fgX10_94 0 rfl rfl dX10_readWord_140 ?_
  refine lv_iconst (v := 1) hx hb dX10_readWord_143 (by decide) ?_
  refine lv_iadd hx hb dX10_readWord_144 ?_
  obtain ⟨z23, ez23, hf⟩ := bnd hf
  refine zk_putI (W1 := wO10 G q m1 m2 m3 m4 m5 m6 m7 m9 m11 m12 z23 m14 m15 m16 m18 m21 m22 m23 m24 m25 m26 m29) C hW fpX10_94 0 (Option.some.inj ez23) rfl (Nat.le_of_ble_eq_true rfl) rfl dX10_readWord_145 (fun H locs hW => ?_)
  refine lv_aload_n hx hb dX10_readWord_148 rfl (lv_at hl 0 rfl) ?_
  refine lv_dup hx hb dX10_readWord_149 rfl ?_
  refine zk_get C hW fgX10_97 0 rfl rfl dX10_readWord_150 ?_
  refine lv_iconst (v := 1) hx hb dX10_readWord_153 (by decide) ?_
  refine lv_iadd hx hb dX10_readWord_154 ?_
  obtain ⟨z24, ez24, hf⟩ := bnd hf
  refine zk_putI (W1 := wO10 G q m1 m2 m3 m4 m5 m6 m7 m9 m11 m12 z23 z24 m15 m16 m18 m21 m22 m23 m24 m25 m26 m29) C hW fpX10_97 0 (Option.some.inj ez24) rfl (Nat.le_of_ble_eq_true rfl) rfl dX10_readWord_155 (fun H locs hW => ?_)
  obtain rfl := Option.some.inj hf
  exact zk_vret C hW dX10_readWord_158

set_option maxHeartbeats 4000000 in
set_option maxRecDepth 100000 in
theorem c_X10_shutsAt (l : Launch) (G : GG) (q : Nat → Nat) (m1 : Int32) (m2 : Int32) (m3 : Int32) (m4 : Int32) (m5 : Int32) (m6 : Int32) (m7 : Int32) (m9 : Int32) (m11 : Int32) (m12 : Bool) (m13 : Int32) (m14 : Int32) (m15 : Bool) (m16 : Int32) (m18 : Int32) (m21 : Int32) (m22 : Int32) (m23 : Int32) (m24 : Int32) (m25 : Int32) (m26 : Int32) (m29 : Int64) (a0 : Int32) (a1 : Int32) (out : Bool) (hf : f_X10_shutsAt m11 m13 a0 a1 = some out) : CtI G l yX10_shutsAt (Cond.code yX10_shutsAt cX10_shutsAt 5 (some .boolean) :: WL) (zR 0 0) [.ref (q 0), .int a0, .int a1] (wO10 G q m1 m2 m3 m4 m5 m6 m7 m9 m11 m12 m13 m14 m15 m16 m18 m21 m22 m23 m24 m25 m26 m29) (bI out) (wO10 G q m1 m2 m3 m4 m5 m6 m7 m9 m11 m12 m13 m14 m15 m16 m18 m21 m22 m23 m24 m25 m26 m29) := by
  refine CtI.mk (cc := cX10_shutsAt) (nL := 5) (rt := (some .boolean)) (own := RX10) (nm := "shutsAt") (by decide) rfl rfl (Nat.le_of_ble_eq_true rfl) ?_
  intro p e s m below meth c A ls C hW hl
  have hx := C.1
  have hb := C.2.1
  have hl : lv_has ls 5 [(0, .ref (q 0)), (1, .int a0), (2, .int a1)] := hl
  unfold f_X10_shutsAt at hf
  refine lv_iload_n hx hb dX10_shutsAt_0 rfl (lv_at hl 1 rfl) ?_
  refine lv_iconst (v := 1) hx hb dX10_shutsAt_1 (by decide) ?_
  refine lv_icmp_eq (tgt := 10) hx hb dX10_shutsAt_2 (by decide) (fun c1 => ?_) (fun c1 => ?_)
  · have hf := ipos c1 hf
    refine lv_iconst (v := 1) hx hb dX10_shutsAt_10 (by decide) ?_
    refine lv_goto (tgt := 15) hx hb dX10_shutsAt_11 (by decide) ?_
    refine lv_istore_n (lv' := [(3, .int 1), (0, .ref (q 0)), (1, .int a0), (2, .int a1)]) hx hb dX10_shutsAt_15 rfl hl (by decide) rfl (fun ls hl => ?_)
    refine lv_aload_n hx hb dX10_shutsAt_16 rfl (lv_at hl 1 rfl) ?_
    refine zk_get C hW fgX10_87 0 rfl rfl dX10_shutsAt_17 ?_
    refine lv_iconst (v := (-1)) hx hb dX10_shutsAt_20 (by decide) ?_
    refine lv_icmp_lt (tgt := 64) hx hb dX10_shutsAt_21 (by decide) (fun c2 => ?_) (fun c2 => ?_)
    · have hf := ipos c2 hf
      refine lv_iconst (v := 1) hx hb dX10_shutsAt_64 (by decide) ?_
      refine lv_goto (tgt := 69) hx hb dX10_shutsAt_65 (by decide) ?_
      refine lv_istore (lv' := [(4, .int 1), (3, .int 1), (0, .ref (q 0)), (1, .int a0), (2, .int a1)]) hx hb dX10_shutsAt_69 hl (by decide) rfl (fun ls hl => ?_)
      refine lv_iload hx hb dX10_shutsAt_71 (lv_at hl 0 rfl) ?_
      refine lv_if_eq (tgt := 85) hx hb dX10_shutsAt_73 (by decide) (fun c3 => ?_) (fun c3 => ?_)
      · exact absurd c3 (by decide)
      · refine lv_iload_n hx hb dX10_shutsAt_76 rfl (lv_at hl 3 rfl) ?_
        refine lv_iconst (v := 2) hx hb dX10_shutsAt_77 (by decide) ?_
        refine lv_icmp_eq (tgt := 85) hx hb dX10_shutsAt_78 (by decide) (fun c4 => ?_) (fun c4 => ?_)
        · have hf := ipos c4 hf
          refine lv_iconst (v := 0) hx hb dX10_shutsAt_85 (by decide) ?_
          obtain rfl := Option.some.inj hf
          exact zk_zret false C hW rfl dX10_shutsAt_86
        · have hf := ineg c4 hf
          refine lv_iconst (v := 1) hx hb dX10_shutsAt_81 (by decide) ?_
          refine lv_goto (tgt := 86) hx hb dX10_shutsAt_82 (by decide) ?_
          obtain rfl := Option.some.inj hf
          exact zk_zret true C hW rfl dX10_shutsAt_86
    · have hf := ineg c2 hf
      refine lv_iload_n hx hb dX10_shutsAt_24 rfl (lv_at hl 0 rfl) ?_
      refine lv_if_eq (tgt := 33) hx hb dX10_shutsAt_25 (by decide) (fun c5 => ?_) (fun c5 => ?_)
      · exact absurd c5 (by decide)
      · refine lv_iload_n hx hb dX10_shutsAt_28 rfl (lv_at hl 3 rfl) ?_
        refine lv_iconst (v := 4) hx hb dX10_shutsAt_29 (by decide) ?_
        refine lv_icmp_eq (tgt := 64) hx hb dX10_shutsAt_30 (by decide) (fun c6 => ?_) (fun c6 => ?_)
        · have hf := ipos c6 hf
          refine lv_iconst (v := 1) hx hb dX10_shutsAt_64 (by decide) ?_
          refine lv_goto (tgt := 69) hx hb dX10_shutsAt_65 (by decide) ?_
          refine lv_istore (lv' := [(4, .int 1), (3, .int 1), (0, .ref (q 0)), (1, .int a0), (2, .int a1)]) hx hb dX10_shutsAt_69 hl (by decide) rfl (fun ls hl => ?_)
          refine lv_iload hx hb dX10_shutsAt_71 (lv_at hl 0 rfl) ?_
          refine lv_if_eq (tgt := 85) hx hb dX10_shutsAt_73 (by decide) (fun c7 => ?_) (fun c7 => ?_)
          · exact absurd c7 (by decide)
          · refine lv_iload_n hx hb dX10_shutsAt_76 rfl (lv_at hl 3 rfl) ?_
            refine lv_iconst (v := 2) hx hb dX10_shutsAt_77 (by decide) ?_
            refine lv_icmp_eq (tgt := 85) hx hb dX10_shutsAt_78 (by decide) (fun c8 => ?_) (fun c8 => ?_)
            · have hf := ipos c8 hf
              refine lv_iconst (v := 0) hx hb dX10_shutsAt_85 (by decide) ?_
              obtain rfl := Option.some.inj hf
              exact zk_zret false C hW rfl dX10_shutsAt_86
            · have hf := ineg c8 hf
              refine lv_iconst (v := 1) hx hb dX10_shutsAt_81 (by decide) ?_
              refine lv_goto (tgt := 86) hx hb dX10_shutsAt_82 (by decide) ?_
              obtain rfl := Option.some.inj hf
              exact zk_zret true C hW rfl dX10_shutsAt_86
        · have hf := ineg c6 hf
          refine lv_iload_n hx hb dX10_shutsAt_33 rfl (lv_at hl 2 rfl) ?_
          refine lv_iconst (v := 3) hx hb dX10_shutsAt_34 (by decide) ?_
          refine lv_icmp_ne (tgt := 51) hx hb dX10_shutsAt_35 (by decide) (fun c9 => ?_) (fun c9 => ?_)
          · have hf := ineg c9 hf
            refine lv_iload_n hx hb dX10_shutsAt_51 rfl (lv_at hl 2 rfl) ?_
            refine lv_iconst (v := 4) hx hb dX10_shutsAt_52 (by decide) ?_
            refine lv_icmp_ne (tgt := 68) hx hb dX10_shutsAt_53 (by decide) (fun c10 => ?_) (fun c10 => ?_)
            · have hf := ineg c10 hf
              refine lv_iconst (v := 0) hx hb dX10_shutsAt_68 (by decide) ?_
              refine lv_istore (lv' := [(4, .int 0), (3, .int 1), (0, .ref (q 0)), (1, .int a0), (2, .int a1)]) hx hb dX10_shutsAt_69 hl (by decide) rfl (fun ls hl => ?_)
              refine lv_iload hx hb dX10_shutsAt_71 (lv_at hl 0 rfl) ?_
              refine lv_if_eq (tgt := 85) hx hb dX10_shutsAt_73 (by decide) (fun c11 => ?_) (fun c11 => ?_)
              · refine lv_iconst (v := 0) hx hb dX10_shutsAt_85 (by decide) ?_
                obtain rfl := Option.some.inj hf
                exact zk_zret false C hW rfl dX10_shutsAt_86
              · exact absurd c11 (by decide)
            · have hf := ipos c10 hf
              refine lv_aload_n hx hb dX10_shutsAt_56 rfl (lv_at hl 1 rfl) ?_
              refine zk_get C hW fgX10_87 0 rfl rfl dX10_shutsAt_57 ?_
              refine lv_iconst (v := 1) hx hb dX10_shutsAt_60 (by decide) ?_
              refine lv_icmp_le (tgt := 68) hx hb dX10_shutsAt_61 (by decide) (fun c12 => ?_) (fun c12 => ?_)
              · have hf := ipos c12 hf
                refine lv_iconst (v := 0) hx hb dX10_shutsAt_68 (by decide) ?_
                refine lv_istore (lv' := [(4, .int 0), (3, .int 1), (0, .ref (q 0)), (1, .int a0), (2, .int a1)]) hx hb dX10_shutsAt_69 hl (by decide) rfl (fun ls hl => ?_)
                refine lv_iload hx hb dX10_shutsAt_71 (lv_at hl 0 rfl) ?_
                refine lv_if_eq (tgt := 85) hx hb dX10_shutsAt_73 (by decide) (fun c13 => ?_) (fun c13 => ?_)
                · refine lv_iconst (v := 0) hx hb dX10_shutsAt_85 (by decide) ?_
                  obtain rfl := Option.some.inj hf
                  exact zk_zret false C hW rfl dX10_shutsAt_86
                · exact absurd c13 (by decide)
              · have hf := ineg c12 hf
                refine lv_iconst (v := 1) hx hb dX10_shutsAt_64 (by decide) ?_
                refine lv_goto (tgt := 69) hx hb dX10_shutsAt_65 (by decide) ?_
                refine lv_istore (lv' := [(4, .int 1), (3, .int 1), (0, .ref (q 0)), (1, .int a0), (2, .int a1)]) hx hb dX10_shutsAt_69 hl (by decide) rfl (fun ls hl => ?_)
                refine lv_iload hx hb dX10_shutsAt_71 (lv_at hl 0 rfl) ?_
                refine lv_if_eq (tgt := 85) hx hb dX10_shutsAt_73 (by decide) (fun c14 => ?_) (fun c14 => ?_)
                · exact absurd c14 (by decide)
                · refine lv_iload_n hx hb dX10_shutsAt_76 rfl (lv_at hl 3 rfl) ?_
                  refine lv_iconst (v := 2) hx hb dX10_shutsAt_77 (by decide) ?_
                  refine lv_icmp_eq (tgt := 85) hx hb dX10_shutsAt_78 (by decide) (fun c15 => ?_) (fun c15 => ?_)
                  · have hf := ipos c15 hf
                    refine lv_iconst (v := 0) hx hb dX10_shutsAt_85 (by decide) ?_
                    obtain rfl := Option.some.inj hf
                    exact zk_zret false C hW rfl dX10_shutsAt_86
                  · have hf := ineg c15 hf
                    refine lv_iconst (v := 1) hx hb dX10_shutsAt_81 (by decide) ?_
                    refine lv_goto (tgt := 86) hx hb dX10_shutsAt_82 (by decide) ?_
                    obtain rfl := Option.some.inj hf
                    exact zk_zret true C hW rfl dX10_shutsAt_86
          · have hf := ipos c9 hf
            refine lv_iload_n hx hb dX10_shutsAt_38 rfl (lv_at hl 3 rfl) ?_
            refine lv_iconst (v := 5) hx hb dX10_shutsAt_39 (by decide) ?_
            refine lv_icmp_ne (tgt := 51) hx hb dX10_shutsAt_40 (by decide) (fun c16 => ?_) (fun c16 => ?_)
            · have hf := ineg c16 hf
              refine lv_iload_n hx hb dX10_shutsAt_51 rfl (lv_at hl 2 rfl) ?_
              refine lv_iconst (v := 4) hx hb dX10_shutsAt_52 (by decide) ?_
              refine lv_icmp_ne (tgt := 68) hx hb dX10_shutsAt_53 (by decide) (fun c17 => ?_) (fun c17 => ?_)
              · have hf := ineg c17 hf
                refine lv_iconst (v := 0) hx hb dX10_shutsAt_68 (by decide) ?_
                refine lv_istore (lv' := [(4, .int 0), (3, .int 1), (0, .ref (q 0)), (1, .int a0), (2, .int a1)]) hx hb dX10_shutsAt_69 hl (by decide) rfl (fun ls hl => ?_)
                refine lv_iload hx hb dX10_shutsAt_71 (lv_at hl 0 rfl) ?_
                refine lv_if_eq (tgt := 85) hx hb dX10_shutsAt_73 (by decide) (fun c18 => ?_) (fun c18 => ?_)
                · refine lv_iconst (v := 0) hx hb dX10_shutsAt_85 (by decide) ?_
                  obtain rfl := Option.some.inj hf
                  exact zk_zret false C hW rfl dX10_shutsAt_86
                · exact absurd c18 (by decide)
              · have hf := ipos c17 hf
                refine lv_aload_n hx hb dX10_shutsAt_56 rfl (lv_at hl 1 rfl) ?_
                refine zk_get C hW fgX10_87 0 rfl rfl dX10_shutsAt_57 ?_
                refine lv_iconst (v := 1) hx hb dX10_shutsAt_60 (by decide) ?_
                refine lv_icmp_le (tgt := 68) hx hb dX10_shutsAt_61 (by decide) (fun c19 => ?_) (fun c19 => ?_)
                · have hf := ipos c19 hf
                  refine lv_iconst (v := 0) hx hb dX10_shutsAt_68 (by decide) ?_
                  refine lv_istore (lv' := [(4, .int 0), (3, .int 1), (0, .ref (q 0)), (1, .int a0), (2, .int a1)]) hx hb dX10_shutsAt_69 hl (by decide) rfl (fun ls hl => ?_)
                  refine lv_iload hx hb dX10_shutsAt_71 (lv_at hl 0 rfl) ?_
                  refine lv_if_eq (tgt := 85) hx hb dX10_shutsAt_73 (by decide) (fun c20 => ?_) (fun c20 => ?_)
                  · refine lv_iconst (v := 0) hx hb dX10_shutsAt_85 (by decide) ?_
                    obtain rfl := Option.some.inj hf
                    exact zk_zret false C hW rfl dX10_shutsAt_86
                  · exact absurd c20 (by decide)
                · have hf := ineg c19 hf
                  refine lv_iconst (v := 1) hx hb dX10_shutsAt_64 (by decide) ?_
                  refine lv_goto (tgt := 69) hx hb dX10_shutsAt_65 (by decide) ?_
                  refine lv_istore (lv' := [(4, .int 1), (3, .int 1), (0, .ref (q 0)), (1, .int a0), (2, .int a1)]) hx hb dX10_shutsAt_69 hl (by decide) rfl (fun ls hl => ?_)
                  refine lv_iload hx hb dX10_shutsAt_71 (lv_at hl 0 rfl) ?_
                  refine lv_if_eq (tgt := 85) hx hb dX10_shutsAt_73 (by decide) (fun c21 => ?_) (fun c21 => ?_)
                  · exact absurd c21 (by decide)
                  · refine lv_iload_n hx hb dX10_shutsAt_76 rfl (lv_at hl 3 rfl) ?_
                    refine lv_iconst (v := 2) hx hb dX10_shutsAt_77 (by decide) ?_
                    refine lv_icmp_eq (tgt := 85) hx hb dX10_shutsAt_78 (by decide) (fun c22 => ?_) (fun c22 => ?_)
                    · have hf := ipos c22 hf
                      refine lv_iconst (v := 0) hx hb dX10_shutsAt_85 (by decide) ?_
                      obtain rfl := Option.some.inj hf
                      exact zk_zret false C hW rfl dX10_shutsAt_86
                    · have hf := ineg c22 hf
                      refine lv_iconst (v := 1) hx hb dX10_shutsAt_81 (by decide) ?_
                      refine lv_goto (tgt := 86) hx hb dX10_shutsAt_82 (by decide) ?_
                      obtain rfl := Option.some.inj hf
                      exact zk_zret true C hW rfl dX10_shutsAt_86
            · have hf := ipos c16 hf
              refine lv_aload_n hx hb dX10_shutsAt_43 rfl (lv_at hl 1 rfl) ?_
              refine zk_get C hW fgX10_94 0 rfl rfl dX10_shutsAt_44 ?_
              refine lv_iconst (v := 2) hx hb dX10_shutsAt_47 (by decide) ?_
              refine lv_icmp_eq (tgt := 64) hx hb dX10_shutsAt_48 (by decide) (fun c23 => ?_) (fun c23 => ?_)
              · have hf := ipos c23 hf
                refine lv_iconst (v := 1) hx hb dX10_shutsAt_64 (by decide) ?_
                refine lv_goto (tgt := 69) hx hb dX10_shutsAt_65 (by decide) ?_
                refine lv_istore (lv' := [(4, .int 1), (3, .int 1), (0, .ref (q 0)), (1, .int a0), (2, .int a1)]) hx hb dX10_shutsAt_69 hl (by decide) rfl (fun ls hl => ?_)
                refine lv_iload hx hb dX10_shutsAt_71 (lv_at hl 0 rfl) ?_
                refine lv_if_eq (tgt := 85) hx hb dX10_shutsAt_73 (by decide) (fun c24 => ?_) (fun c24 => ?_)
                · exact absurd c24 (by decide)
                · refine lv_iload_n hx hb dX10_shutsAt_76 rfl (lv_at hl 3 rfl) ?_
                  refine lv_iconst (v := 2) hx hb dX10_shutsAt_77 (by decide) ?_
                  refine lv_icmp_eq (tgt := 85) hx hb dX10_shutsAt_78 (by decide) (fun c25 => ?_) (fun c25 => ?_)
                  · have hf := ipos c25 hf
                    refine lv_iconst (v := 0) hx hb dX10_shutsAt_85 (by decide) ?_
                    obtain rfl := Option.some.inj hf
                    exact zk_zret false C hW rfl dX10_shutsAt_86
                  · have hf := ineg c25 hf
                    refine lv_iconst (v := 1) hx hb dX10_shutsAt_81 (by decide) ?_
                    refine lv_goto (tgt := 86) hx hb dX10_shutsAt_82 (by decide) ?_
                    obtain rfl := Option.some.inj hf
                    exact zk_zret true C hW rfl dX10_shutsAt_86
              · have hf := ineg c23 hf
                refine lv_iload_n hx hb dX10_shutsAt_51 rfl (lv_at hl 2 rfl) ?_
                refine lv_iconst (v := 4) hx hb dX10_shutsAt_52 (by decide) ?_
                refine lv_icmp_ne (tgt := 68) hx hb dX10_shutsAt_53 (by decide) (fun c26 => ?_) (fun c26 => ?_)
                · have hf := ineg c26 hf
                  refine lv_iconst (v := 0) hx hb dX10_shutsAt_68 (by decide) ?_
                  refine lv_istore (lv' := [(4, .int 0), (3, .int 1), (0, .ref (q 0)), (1, .int a0), (2, .int a1)]) hx hb dX10_shutsAt_69 hl (by decide) rfl (fun ls hl => ?_)
                  refine lv_iload hx hb dX10_shutsAt_71 (lv_at hl 0 rfl) ?_
                  refine lv_if_eq (tgt := 85) hx hb dX10_shutsAt_73 (by decide) (fun c27 => ?_) (fun c27 => ?_)
                  · refine lv_iconst (v := 0) hx hb dX10_shutsAt_85 (by decide) ?_
                    obtain rfl := Option.some.inj hf
                    exact zk_zret false C hW rfl dX10_shutsAt_86
                  · exact absurd c27 (by decide)
                · have hf := ipos c26 hf
                  refine lv_aload_n hx hb dX10_shutsAt_56 rfl (lv_at hl 1 rfl) ?_
                  refine zk_get C hW fgX10_87 0 rfl rfl dX10_shutsAt_57 ?_
                  refine lv_iconst (v := 1) hx hb dX10_shutsAt_60 (by decide) ?_
                  refine lv_icmp_le (tgt := 68) hx hb dX10_shutsAt_61 (by decide) (fun c28 => ?_) (fun c28 => ?_)
                  · have hf := ipos c28 hf
                    refine lv_iconst (v := 0) hx hb dX10_shutsAt_68 (by decide) ?_
                    refine lv_istore (lv' := [(4, .int 0), (3, .int 1), (0, .ref (q 0)), (1, .int a0), (2, .int a1)]) hx hb dX10_shutsAt_69 hl (by decide) rfl (fun ls hl => ?_)
                    refine lv_iload hx hb dX10_shutsAt_71 (lv_at hl 0 rfl) ?_
                    refine lv_if_eq (tgt := 85) hx hb dX10_shutsAt_73 (by decide) (fun c29 => ?_) (fun c29 => ?_)
                    · refine lv_iconst (v := 0) hx hb dX10_shutsAt_85 (by decide) ?_
                      obtain rfl := Option.some.inj hf
                      exact zk_zret false C hW rfl dX10_shutsAt_86
                    · exact absurd c29 (by decide)
                  · have hf := ineg c28 hf
                    refine lv_iconst (v := 1) hx hb dX10_shutsAt_64 (by decide) ?_
                    refine lv_goto (tgt := 69) hx hb dX10_shutsAt_65 (by decide) ?_
                    refine lv_istore (lv' := [(4, .int 1), (3, .int 1), (0, .ref (q 0)), (1, .int a0), (2, .int a1)]) hx hb dX10_shutsAt_69 hl (by decide) rfl (fun ls hl => ?_)
                    refine lv_iload hx hb dX10_shutsAt_71 (lv_at hl 0 rfl) ?_
                    refine lv_if_eq (tgt := 85) hx hb dX10_shutsAt_73 (by decide) (fun c30 => ?_) (fun c30 => ?_)
                    · exact absurd c30 (by decide)
                    · refine lv_iload_n hx hb dX10_shutsAt_76 rfl (lv_at hl 3 rfl) ?_
                      refine lv_iconst (v := 2) hx hb dX10_shutsAt_77 (by decide) ?_
                      refine lv_icmp_eq (tgt := 85) hx hb dX10_shutsAt_78 (by decide) (fun c31 => ?_) (fun c31 => ?_)
                      · have hf := ipos c31 hf
                        refine lv_iconst (v := 0) hx hb dX10_shutsAt_85 (by decide) ?_
                        obtain rfl := Option.some.inj hf
                        exact zk_zret false C hW rfl dX10_shutsAt_86
                      · have hf := ineg c31 hf
                        refine lv_iconst (v := 1) hx hb dX10_shutsAt_81 (by decide) ?_
                        refine lv_goto (tgt := 86) hx hb dX10_shutsAt_82 (by decide) ?_
                        obtain rfl := Option.some.inj hf
                        exact zk_zret true C hW rfl dX10_shutsAt_86
  · have hf := ineg c1 hf
    refine lv_iload_n hx hb dX10_shutsAt_5 rfl (lv_at hl 1 rfl) ?_
    refine lv_iconst (v := 4) hx hb dX10_shutsAt_6 (by decide) ?_
    refine lv_icmp_ne (tgt := 14) hx hb dX10_shutsAt_7 (by decide) (fun c32 => ?_) (fun c32 => ?_)
    · have hf := ineg c32 hf
      refine lv_iconst (v := 0) hx hb dX10_shutsAt_14 (by decide) ?_
      refine lv_istore_n (lv' := [(3, .int 0), (0, .ref (q 0)), (1, .int a0), (2, .int a1)]) hx hb dX10_shutsAt_15 rfl hl (by decide) rfl (fun ls hl => ?_)
      refine lv_aload_n hx hb dX10_shutsAt_16 rfl (lv_at hl 1 rfl) ?_
      refine zk_get C hW fgX10_87 0 rfl rfl dX10_shutsAt_17 ?_
      refine lv_iconst (v := (-1)) hx hb dX10_shutsAt_20 (by decide) ?_
      refine lv_icmp_lt (tgt := 64) hx hb dX10_shutsAt_21 (by decide) (fun c33 => ?_) (fun c33 => ?_)
      · have hf := ipos c33 hf
        refine lv_iconst (v := 1) hx hb dX10_shutsAt_64 (by decide) ?_
        refine lv_goto (tgt := 69) hx hb dX10_shutsAt_65 (by decide) ?_
        refine lv_istore (lv' := [(4, .int 1), (3, .int 0), (0, .ref (q 0)), (1, .int a0), (2, .int a1)]) hx hb dX10_shutsAt_69 hl (by decide) rfl (fun ls hl => ?_)
        refine lv_iload hx hb dX10_shutsAt_71 (lv_at hl 0 rfl) ?_
        refine lv_if_eq (tgt := 85) hx hb dX10_shutsAt_73 (by decide) (fun c34 => ?_) (fun c34 => ?_)
        · exact absurd c34 (by decide)
        · refine lv_iload_n hx hb dX10_shutsAt_76 rfl (lv_at hl 3 rfl) ?_
          refine lv_iconst (v := 2) hx hb dX10_shutsAt_77 (by decide) ?_
          refine lv_icmp_eq (tgt := 85) hx hb dX10_shutsAt_78 (by decide) (fun c35 => ?_) (fun c35 => ?_)
          · have hf := ipos c35 hf
            refine lv_iconst (v := 0) hx hb dX10_shutsAt_85 (by decide) ?_
            obtain rfl := Option.some.inj hf
            exact zk_zret false C hW rfl dX10_shutsAt_86
          · have hf := ineg c35 hf
            refine lv_iconst (v := 1) hx hb dX10_shutsAt_81 (by decide) ?_
            refine lv_goto (tgt := 86) hx hb dX10_shutsAt_82 (by decide) ?_
            obtain rfl := Option.some.inj hf
            exact zk_zret true C hW rfl dX10_shutsAt_86
      · have hf := ineg c33 hf
        refine lv_iload_n hx hb dX10_shutsAt_24 rfl (lv_at hl 0 rfl) ?_
        refine lv_if_eq (tgt := 33) hx hb dX10_shutsAt_25 (by decide) (fun c36 => ?_) (fun c36 => ?_)
        · refine lv_iload_n hx hb dX10_shutsAt_33 rfl (lv_at hl 2 rfl) ?_
          refine lv_iconst (v := 3) hx hb dX10_shutsAt_34 (by decide) ?_
          refine lv_icmp_ne (tgt := 51) hx hb dX10_shutsAt_35 (by decide) (fun c37 => ?_) (fun c37 => ?_)
          · have hf := ineg c37 hf
            refine lv_iload_n hx hb dX10_shutsAt_51 rfl (lv_at hl 2 rfl) ?_
            refine lv_iconst (v := 4) hx hb dX10_shutsAt_52 (by decide) ?_
            refine lv_icmp_ne (tgt := 68) hx hb dX10_shutsAt_53 (by decide) (fun c38 => ?_) (fun c38 => ?_)
            · have hf := ineg c38 hf
              refine lv_iconst (v := 0) hx hb dX10_shutsAt_68 (by decide) ?_
              refine lv_istore (lv' := [(4, .int 0), (3, .int 0), (0, .ref (q 0)), (1, .int a0), (2, .int a1)]) hx hb dX10_shutsAt_69 hl (by decide) rfl (fun ls hl => ?_)
              refine lv_iload hx hb dX10_shutsAt_71 (lv_at hl 0 rfl) ?_
              refine lv_if_eq (tgt := 85) hx hb dX10_shutsAt_73 (by decide) (fun c39 => ?_) (fun c39 => ?_)
              · refine lv_iconst (v := 0) hx hb dX10_shutsAt_85 (by decide) ?_
                obtain rfl := Option.some.inj hf
                exact zk_zret false C hW rfl dX10_shutsAt_86
              · exact absurd c39 (by decide)
            · have hf := ipos c38 hf
              refine lv_aload_n hx hb dX10_shutsAt_56 rfl (lv_at hl 1 rfl) ?_
              refine zk_get C hW fgX10_87 0 rfl rfl dX10_shutsAt_57 ?_
              refine lv_iconst (v := 1) hx hb dX10_shutsAt_60 (by decide) ?_
              refine lv_icmp_le (tgt := 68) hx hb dX10_shutsAt_61 (by decide) (fun c40 => ?_) (fun c40 => ?_)
              · have hf := ipos c40 hf
                refine lv_iconst (v := 0) hx hb dX10_shutsAt_68 (by decide) ?_
                refine lv_istore (lv' := [(4, .int 0), (3, .int 0), (0, .ref (q 0)), (1, .int a0), (2, .int a1)]) hx hb dX10_shutsAt_69 hl (by decide) rfl (fun ls hl => ?_)
                refine lv_iload hx hb dX10_shutsAt_71 (lv_at hl 0 rfl) ?_
                refine lv_if_eq (tgt := 85) hx hb dX10_shutsAt_73 (by decide) (fun c41 => ?_) (fun c41 => ?_)
                · refine lv_iconst (v := 0) hx hb dX10_shutsAt_85 (by decide) ?_
                  obtain rfl := Option.some.inj hf
                  exact zk_zret false C hW rfl dX10_shutsAt_86
                · exact absurd c41 (by decide)
              · have hf := ineg c40 hf
                refine lv_iconst (v := 1) hx hb dX10_shutsAt_64 (by decide) ?_
                refine lv_goto (tgt := 69) hx hb dX10_shutsAt_65 (by decide) ?_
                refine lv_istore (lv' := [(4, .int 1), (3, .int 0), (0, .ref (q 0)), (1, .int a0), (2, .int a1)]) hx hb dX10_shutsAt_69 hl (by decide) rfl (fun ls hl => ?_)
                refine lv_iload hx hb dX10_shutsAt_71 (lv_at hl 0 rfl) ?_
                refine lv_if_eq (tgt := 85) hx hb dX10_shutsAt_73 (by decide) (fun c42 => ?_) (fun c42 => ?_)
                · exact absurd c42 (by decide)
                · refine lv_iload_n hx hb dX10_shutsAt_76 rfl (lv_at hl 3 rfl) ?_
                  refine lv_iconst (v := 2) hx hb dX10_shutsAt_77 (by decide) ?_
                  refine lv_icmp_eq (tgt := 85) hx hb dX10_shutsAt_78 (by decide) (fun c43 => ?_) (fun c43 => ?_)
                  · have hf := ipos c43 hf
                    refine lv_iconst (v := 0) hx hb dX10_shutsAt_85 (by decide) ?_
                    obtain rfl := Option.some.inj hf
                    exact zk_zret false C hW rfl dX10_shutsAt_86
                  · have hf := ineg c43 hf
                    refine lv_iconst (v := 1) hx hb dX10_shutsAt_81 (by decide) ?_
                    refine lv_goto (tgt := 86) hx hb dX10_shutsAt_82 (by decide) ?_
                    obtain rfl := Option.some.inj hf
                    exact zk_zret true C hW rfl dX10_shutsAt_86
          · have hf := ipos c37 hf
            refine lv_iload_n hx hb dX10_shutsAt_38 rfl (lv_at hl 3 rfl) ?_
            refine lv_iconst (v := 5) hx hb dX10_shutsAt_39 (by decide) ?_
            refine lv_icmp_ne (tgt := 51) hx hb dX10_shutsAt_40 (by decide) (fun c44 => ?_) (fun c44 => ?_)
            · have hf := ineg c44 hf
              refine lv_iload_n hx hb dX10_shutsAt_51 rfl (lv_at hl 2 rfl) ?_
              refine lv_iconst (v := 4) hx hb dX10_shutsAt_52 (by decide) ?_
              refine lv_icmp_ne (tgt := 68) hx hb dX10_shutsAt_53 (by decide) (fun c45 => ?_) (fun c45 => ?_)
              · have hf := ineg c45 hf
                refine lv_iconst (v := 0) hx hb dX10_shutsAt_68 (by decide) ?_
                refine lv_istore (lv' := [(4, .int 0), (3, .int 0), (0, .ref (q 0)), (1, .int a0), (2, .int a1)]) hx hb dX10_shutsAt_69 hl (by decide) rfl (fun ls hl => ?_)
                refine lv_iload hx hb dX10_shutsAt_71 (lv_at hl 0 rfl) ?_
                refine lv_if_eq (tgt := 85) hx hb dX10_shutsAt_73 (by decide) (fun c46 => ?_) (fun c46 => ?_)
                · refine lv_iconst (v := 0) hx hb dX10_shutsAt_85 (by decide) ?_
                  obtain rfl := Option.some.inj hf
                  exact zk_zret false C hW rfl dX10_shutsAt_86
                · exact absurd c46 (by decide)
              · have hf := ipos c45 hf
                refine lv_aload_n hx hb dX10_shutsAt_56 rfl (lv_at hl 1 rfl) ?_
                refine zk_get C hW fgX10_87 0 rfl rfl dX10_shutsAt_57 ?_
                refine lv_iconst (v := 1) hx hb dX10_shutsAt_60 (by decide) ?_
                refine lv_icmp_le (tgt := 68) hx hb dX10_shutsAt_61 (by decide) (fun c47 => ?_) (fun c47 => ?_)
                · have hf := ipos c47 hf
                  refine lv_iconst (v := 0) hx hb dX10_shutsAt_68 (by decide) ?_
                  refine lv_istore (lv' := [(4, .int 0), (3, .int 0), (0, .ref (q 0)), (1, .int a0), (2, .int a1)]) hx hb dX10_shutsAt_69 hl (by decide) rfl (fun ls hl => ?_)
                  refine lv_iload hx hb dX10_shutsAt_71 (lv_at hl 0 rfl) ?_
                  refine lv_if_eq (tgt := 85) hx hb dX10_shutsAt_73 (by decide) (fun c48 => ?_) (fun c48 => ?_)
                  · refine lv_iconst (v := 0) hx hb dX10_shutsAt_85 (by decide) ?_
                    obtain rfl := Option.some.inj hf
                    exact zk_zret false C hW rfl dX10_shutsAt_86
                  · exact absurd c48 (by decide)
                · have hf := ineg c47 hf
                  refine lv_iconst (v := 1) hx hb dX10_shutsAt_64 (by decide) ?_
                  refine lv_goto (tgt := 69) hx hb dX10_shutsAt_65 (by decide) ?_
                  refine lv_istore (lv' := [(4, .int 1), (3, .int 0), (0, .ref (q 0)), (1, .int a0), (2, .int a1)]) hx hb dX10_shutsAt_69 hl (by decide) rfl (fun ls hl => ?_)
                  refine lv_iload hx hb dX10_shutsAt_71 (lv_at hl 0 rfl) ?_
                  refine lv_if_eq (tgt := 85) hx hb dX10_shutsAt_73 (by decide) (fun c49 => ?_) (fun c49 => ?_)
                  · exact absurd c49 (by decide)
                  · refine lv_iload_n hx hb dX10_shutsAt_76 rfl (lv_at hl 3 rfl) ?_
                    refine lv_iconst (v := 2) hx hb dX10_shutsAt_77 (by decide) ?_
                    refine lv_icmp_eq (tgt := 85) hx hb dX10_shutsAt_78 (by decide) (fun c50 => ?_) (fun c50 => ?_)
                    · have hf := ipos c50 hf
                      refine lv_iconst (v := 0) hx hb dX10_shutsAt_85 (by decide) ?_
                      obtain rfl := Option.some.inj hf
                      exact zk_zret false C hW rfl dX10_shutsAt_86
                    · have hf := ineg c50 hf
                      refine lv_iconst (v := 1) hx hb dX10_shutsAt_81 (by decide) ?_
                      refine lv_goto (tgt := 86) hx hb dX10_shutsAt_82 (by decide) ?_
                      obtain rfl := Option.some.inj hf
                      exact zk_zret true C hW rfl dX10_shutsAt_86
            · have hf := ipos c44 hf
              refine lv_aload_n hx hb dX10_shutsAt_43 rfl (lv_at hl 1 rfl) ?_
              refine zk_get C hW fgX10_94 0 rfl rfl dX10_shutsAt_44 ?_
              refine lv_iconst (v := 2) hx hb dX10_shutsAt_47 (by decide) ?_
              refine lv_icmp_eq (tgt := 64) hx hb dX10_shutsAt_48 (by decide) (fun c51 => ?_) (fun c51 => ?_)
              · have hf := ipos c51 hf
                refine lv_iconst (v := 1) hx hb dX10_shutsAt_64 (by decide) ?_
                refine lv_goto (tgt := 69) hx hb dX10_shutsAt_65 (by decide) ?_
                refine lv_istore (lv' := [(4, .int 1), (3, .int 0), (0, .ref (q 0)), (1, .int a0), (2, .int a1)]) hx hb dX10_shutsAt_69 hl (by decide) rfl (fun ls hl => ?_)
                refine lv_iload hx hb dX10_shutsAt_71 (lv_at hl 0 rfl) ?_
                refine lv_if_eq (tgt := 85) hx hb dX10_shutsAt_73 (by decide) (fun c52 => ?_) (fun c52 => ?_)
                · exact absurd c52 (by decide)
                · refine lv_iload_n hx hb dX10_shutsAt_76 rfl (lv_at hl 3 rfl) ?_
                  refine lv_iconst (v := 2) hx hb dX10_shutsAt_77 (by decide) ?_
                  refine lv_icmp_eq (tgt := 85) hx hb dX10_shutsAt_78 (by decide) (fun c53 => ?_) (fun c53 => ?_)
                  · have hf := ipos c53 hf
                    refine lv_iconst (v := 0) hx hb dX10_shutsAt_85 (by decide) ?_
                    obtain rfl := Option.some.inj hf
                    exact zk_zret false C hW rfl dX10_shutsAt_86
                  · have hf := ineg c53 hf
                    refine lv_iconst (v := 1) hx hb dX10_shutsAt_81 (by decide) ?_
                    refine lv_goto (tgt := 86) hx hb dX10_shutsAt_82 (by decide) ?_
                    obtain rfl := Option.some.inj hf
                    exact zk_zret true C hW rfl dX10_shutsAt_86
              · have hf := ineg c51 hf
                refine lv_iload_n hx hb dX10_shutsAt_51 rfl (lv_at hl 2 rfl) ?_
                refine lv_iconst (v := 4) hx hb dX10_shutsAt_52 (by decide) ?_
                refine lv_icmp_ne (tgt := 68) hx hb dX10_shutsAt_53 (by decide) (fun c54 => ?_) (fun c54 => ?_)
                · have hf := ineg c54 hf
                  refine lv_iconst (v := 0) hx hb dX10_shutsAt_68 (by decide) ?_
                  refine lv_istore (lv' := [(4, .int 0), (3, .int 0), (0, .ref (q 0)), (1, .int a0), (2, .int a1)]) hx hb dX10_shutsAt_69 hl (by decide) rfl (fun ls hl => ?_)
                  refine lv_iload hx hb dX10_shutsAt_71 (lv_at hl 0 rfl) ?_
                  refine lv_if_eq (tgt := 85) hx hb dX10_shutsAt_73 (by decide) (fun c55 => ?_) (fun c55 => ?_)
                  · refine lv_iconst (v := 0) hx hb dX10_shutsAt_85 (by decide) ?_
                    obtain rfl := Option.some.inj hf
                    exact zk_zret false C hW rfl dX10_shutsAt_86
                  · exact absurd c55 (by decide)
                · have hf := ipos c54 hf
                  refine lv_aload_n hx hb dX10_shutsAt_56 rfl (lv_at hl 1 rfl) ?_
                  refine zk_get C hW fgX10_87 0 rfl rfl dX10_shutsAt_57 ?_
                  refine lv_iconst (v := 1) hx hb dX10_shutsAt_60 (by decide) ?_
                  refine lv_icmp_le (tgt := 68) hx hb dX10_shutsAt_61 (by decide) (fun c56 => ?_) (fun c56 => ?_)
                  · have hf := ipos c56 hf
                    refine lv_iconst (v := 0) hx hb dX10_shutsAt_68 (by decide) ?_
                    refine lv_istore (lv' := [(4, .int 0), (3, .int 0), (0, .ref (q 0)), (1, .int a0), (2, .int a1)]) hx hb dX10_shutsAt_69 hl (by decide) rfl (fun ls hl => ?_)
                    refine lv_iload hx hb dX10_shutsAt_71 (lv_at hl 0 rfl) ?_
                    refine lv_if_eq (tgt := 85) hx hb dX10_shutsAt_73 (by decide) (fun c57 => ?_) (fun c57 => ?_)
                    · refine lv_iconst (v := 0) hx hb dX10_shutsAt_85 (by decide) ?_
                      obtain rfl := Option.some.inj hf
                      exact zk_zret false C hW rfl dX10_shutsAt_86
                    · exact absurd c57 (by decide)
                  · have hf := ineg c56 hf
                    refine lv_iconst (v := 1) hx hb dX10_shutsAt_64 (by decide) ?_
                    refine lv_goto (tgt := 69) hx hb dX10_shutsAt_65 (by decide) ?_
                    refine lv_istore (lv' := [(4, .int 1), (3, .int 0), (0, .ref (q 0)), (1, .int a0), (2, .int a1)]) hx hb dX10_shutsAt_69 hl (by decide) rfl (fun ls hl => ?_)
                    refine lv_iload hx hb dX10_shutsAt_71 (lv_at hl 0 rfl) ?_
                    refine lv_if_eq (tgt := 85) hx hb dX10_shutsAt_73 (by decide) (fun c58 => ?_) (fun c58 => ?_)
                    · exact absurd c58 (by decide)
                    · refine lv_iload_n hx hb dX10_shutsAt_76 rfl (lv_at hl 3 rfl) ?_
                      refine lv_iconst (v := 2) hx hb dX10_shutsAt_77 (by decide) ?_
                      refine lv_icmp_eq (tgt := 85) hx hb dX10_shutsAt_78 (by decide) (fun c59 => ?_) (fun c59 => ?_)
                      · have hf := ipos c59 hf
                        refine lv_iconst (v := 0) hx hb dX10_shutsAt_85 (by decide) ?_
                        obtain rfl := Option.some.inj hf
                        exact zk_zret false C hW rfl dX10_shutsAt_86
                      · have hf := ineg c59 hf
                        refine lv_iconst (v := 1) hx hb dX10_shutsAt_81 (by decide) ?_
                        refine lv_goto (tgt := 86) hx hb dX10_shutsAt_82 (by decide) ?_
                        obtain rfl := Option.some.inj hf
                        exact zk_zret true C hW rfl dX10_shutsAt_86
        · exact absurd c36 (by decide)
    · have hf := ipos c32 hf
      refine lv_iconst (v := 1) hx hb dX10_shutsAt_10 (by decide) ?_
      refine lv_goto (tgt := 15) hx hb dX10_shutsAt_11 (by decide) ?_
      refine lv_istore_n (lv' := [(3, .int 1), (0, .ref (q 0)), (1, .int a0), (2, .int a1)]) hx hb dX10_shutsAt_15 rfl hl (by decide) rfl (fun ls hl => ?_)
      refine lv_aload_n hx hb dX10_shutsAt_16 rfl (lv_at hl 1 rfl) ?_
      refine zk_get C hW fgX10_87 0 rfl rfl dX10_shutsAt_17 ?_
      refine lv_iconst (v := (-1)) hx hb dX10_shutsAt_20 (by decide) ?_
      refine lv_icmp_lt (tgt := 64) hx hb dX10_shutsAt_21 (by decide) (fun c60 => ?_) (fun c60 => ?_)
      · have hf := ipos c60 hf
        refine lv_iconst (v := 1) hx hb dX10_shutsAt_64 (by decide) ?_
        refine lv_goto (tgt := 69) hx hb dX10_shutsAt_65 (by decide) ?_
        refine lv_istore (lv' := [(4, .int 1), (3, .int 1), (0, .ref (q 0)), (1, .int a0), (2, .int a1)]) hx hb dX10_shutsAt_69 hl (by decide) rfl (fun ls hl => ?_)
        refine lv_iload hx hb dX10_shutsAt_71 (lv_at hl 0 rfl) ?_
        refine lv_if_eq (tgt := 85) hx hb dX10_shutsAt_73 (by decide) (fun c61 => ?_) (fun c61 => ?_)
        · exact absurd c61 (by decide)
        · refine lv_iload_n hx hb dX10_shutsAt_76 rfl (lv_at hl 3 rfl) ?_
          refine lv_iconst (v := 2) hx hb dX10_shutsAt_77 (by decide) ?_
          refine lv_icmp_eq (tgt := 85) hx hb dX10_shutsAt_78 (by decide) (fun c62 => ?_) (fun c62 => ?_)
          · have hf := ipos c62 hf
            refine lv_iconst (v := 0) hx hb dX10_shutsAt_85 (by decide) ?_
            obtain rfl := Option.some.inj hf
            exact zk_zret false C hW rfl dX10_shutsAt_86
          · have hf := ineg c62 hf
            refine lv_iconst (v := 1) hx hb dX10_shutsAt_81 (by decide) ?_
            refine lv_goto (tgt := 86) hx hb dX10_shutsAt_82 (by decide) ?_
            obtain rfl := Option.some.inj hf
            exact zk_zret true C hW rfl dX10_shutsAt_86
      · have hf := ineg c60 hf
        refine lv_iload_n hx hb dX10_shutsAt_24 rfl (lv_at hl 0 rfl) ?_
        refine lv_if_eq (tgt := 33) hx hb dX10_shutsAt_25 (by decide) (fun c63 => ?_) (fun c63 => ?_)
        · exact absurd c63 (by decide)
        · refine lv_iload_n hx hb dX10_shutsAt_28 rfl (lv_at hl 3 rfl) ?_
          refine lv_iconst (v := 4) hx hb dX10_shutsAt_29 (by decide) ?_
          refine lv_icmp_eq (tgt := 64) hx hb dX10_shutsAt_30 (by decide) (fun c64 => ?_) (fun c64 => ?_)
          · have hf := ipos c64 hf
            refine lv_iconst (v := 1) hx hb dX10_shutsAt_64 (by decide) ?_
            refine lv_goto (tgt := 69) hx hb dX10_shutsAt_65 (by decide) ?_
            refine lv_istore (lv' := [(4, .int 1), (3, .int 1), (0, .ref (q 0)), (1, .int a0), (2, .int a1)]) hx hb dX10_shutsAt_69 hl (by decide) rfl (fun ls hl => ?_)
            refine lv_iload hx hb dX10_shutsAt_71 (lv_at hl 0 rfl) ?_
            refine lv_if_eq (tgt := 85) hx hb dX10_shutsAt_73 (by decide) (fun c65 => ?_) (fun c65 => ?_)
            · exact absurd c65 (by decide)
            · refine lv_iload_n hx hb dX10_shutsAt_76 rfl (lv_at hl 3 rfl) ?_
              refine lv_iconst (v := 2) hx hb dX10_shutsAt_77 (by decide) ?_
              refine lv_icmp_eq (tgt := 85) hx hb dX10_shutsAt_78 (by decide) (fun c66 => ?_) (fun c66 => ?_)
              · have hf := ipos c66 hf
                refine lv_iconst (v := 0) hx hb dX10_shutsAt_85 (by decide) ?_
                obtain rfl := Option.some.inj hf
                exact zk_zret false C hW rfl dX10_shutsAt_86
              · have hf := ineg c66 hf
                refine lv_iconst (v := 1) hx hb dX10_shutsAt_81 (by decide) ?_
                refine lv_goto (tgt := 86) hx hb dX10_shutsAt_82 (by decide) ?_
                obtain rfl := Option.some.inj hf
                exact zk_zret true C hW rfl dX10_shutsAt_86
          · have hf := ineg c64 hf
            refine lv_iload_n hx hb dX10_shutsAt_33 rfl (lv_at hl 2 rfl) ?_
            refine lv_iconst (v := 3) hx hb dX10_shutsAt_34 (by decide) ?_
            refine lv_icmp_ne (tgt := 51) hx hb dX10_shutsAt_35 (by decide) (fun c67 => ?_) (fun c67 => ?_)
            · have hf := ineg c67 hf
              refine lv_iload_n hx hb dX10_shutsAt_51 rfl (lv_at hl 2 rfl) ?_
              refine lv_iconst (v := 4) hx hb dX10_shutsAt_52 (by decide) ?_
              refine lv_icmp_ne (tgt := 68) hx hb dX10_shutsAt_53 (by decide) (fun c68 => ?_) (fun c68 => ?_)
              · have hf := ineg c68 hf
                refine lv_iconst (v := 0) hx hb dX10_shutsAt_68 (by decide) ?_
                refine lv_istore (lv' := [(4, .int 0), (3, .int 1), (0, .ref (q 0)), (1, .int a0), (2, .int a1)]) hx hb dX10_shutsAt_69 hl (by decide) rfl (fun ls hl => ?_)
                refine lv_iload hx hb dX10_shutsAt_71 (lv_at hl 0 rfl) ?_
                refine lv_if_eq (tgt := 85) hx hb dX10_shutsAt_73 (by decide) (fun c69 => ?_) (fun c69 => ?_)
                · refine lv_iconst (v := 0) hx hb dX10_shutsAt_85 (by decide) ?_
                  obtain rfl := Option.some.inj hf
                  exact zk_zret false C hW rfl dX10_shutsAt_86
                · exact absurd c69 (by decide)
              · have hf := ipos c68 hf
                refine lv_aload_n hx hb dX10_shutsAt_56 rfl (lv_at hl 1 rfl) ?_
                refine zk_get C hW fgX10_87 0 rfl rfl dX10_shutsAt_57 ?_
                refine lv_iconst (v := 1) hx hb dX10_shutsAt_60 (by decide) ?_
                refine lv_icmp_le (tgt := 68) hx hb dX10_shutsAt_61 (by decide) (fun c70 => ?_) (fun c70 => ?_)
                · have hf := ipos c70 hf
                  refine lv_iconst (v := 0) hx hb dX10_shutsAt_68 (by decide) ?_
                  refine lv_istore (lv' := [(4, .int 0), (3, .int 1), (0, .ref (q 0)), (1, .int a0), (2, .int a1)]) hx hb dX10_shutsAt_69 hl (by decide) rfl (fun ls hl => ?_)
                  refine lv_iload hx hb dX10_shutsAt_71 (lv_at hl 0 rfl) ?_
                  refine lv_if_eq (tgt := 85) hx hb dX10_shutsAt_73 (by decide) (fun c71 => ?_) (fun c71 => ?_)
                  · refine lv_iconst (v := 0) hx hb dX10_shutsAt_85 (by decide) ?_
                    obtain rfl := Option.some.inj hf
                    exact zk_zret false C hW rfl dX10_shutsAt_86
                  · exact absurd c71 (by decide)
                · have hf := ineg c70 hf
                  refine lv_iconst (v := 1) hx hb dX10_shutsAt_64 (by decide) ?_
                  refine lv_goto (tgt := 69) hx hb dX10_shutsAt_65 (by decide) ?_
                  refine lv_istore (lv' := [(4, .int 1), (3, .int 1), (0, .ref (q 0)), (1, .int a0), (2, .int a1)]) hx hb dX10_shutsAt_69 hl (by decide) rfl (fun ls hl => ?_)
                  refine lv_iload hx hb dX10_shutsAt_71 (lv_at hl 0 rfl) ?_
                  refine lv_if_eq (tgt := 85) hx hb dX10_shutsAt_73 (by decide) (fun c72 => ?_) (fun c72 => ?_)
                  · exact absurd c72 (by decide)
                  · refine lv_iload_n hx hb dX10_shutsAt_76 rfl (lv_at hl 3 rfl) ?_
                    refine lv_iconst (v := 2) hx hb dX10_shutsAt_77 (by decide) ?_
                    refine lv_icmp_eq (tgt := 85) hx hb dX10_shutsAt_78 (by decide) (fun c73 => ?_) (fun c73 => ?_)
                    · have hf := ipos c73 hf
                      refine lv_iconst (v := 0) hx hb dX10_shutsAt_85 (by decide) ?_
                      obtain rfl := Option.some.inj hf
                      exact zk_zret false C hW rfl dX10_shutsAt_86
                    · have hf := ineg c73 hf
                      refine lv_iconst (v := 1) hx hb dX10_shutsAt_81 (by decide) ?_
                      refine lv_goto (tgt := 86) hx hb dX10_shutsAt_82 (by decide) ?_
                      obtain rfl := Option.some.inj hf
                      exact zk_zret true C hW rfl dX10_shutsAt_86
            · have hf := ipos c67 hf
              refine lv_iload_n hx hb dX10_shutsAt_38 rfl (lv_at hl 3 rfl) ?_
              refine lv_iconst (v := 5) hx hb dX10_shutsAt_39 (by decide) ?_
              refine lv_icmp_ne (tgt := 51) hx hb dX10_shutsAt_40 (by decide) (fun c74 => ?_) (fun c74 => ?_)
              · have hf := ineg c74 hf
                refine lv_iload_n hx hb dX10_shutsAt_51 rfl (lv_at hl 2 rfl) ?_
                refine lv_iconst (v := 4) hx hb dX10_shutsAt_52 (by decide) ?_
                refine lv_icmp_ne (tgt := 68) hx hb dX10_shutsAt_53 (by decide) (fun c75 => ?_) (fun c75 => ?_)
                · have hf := ineg c75 hf
                  refine lv_iconst (v := 0) hx hb dX10_shutsAt_68 (by decide) ?_
                  refine lv_istore (lv' := [(4, .int 0), (3, .int 1), (0, .ref (q 0)), (1, .int a0), (2, .int a1)]) hx hb dX10_shutsAt_69 hl (by decide) rfl (fun ls hl => ?_)
                  refine lv_iload hx hb dX10_shutsAt_71 (lv_at hl 0 rfl) ?_
                  refine lv_if_eq (tgt := 85) hx hb dX10_shutsAt_73 (by decide) (fun c76 => ?_) (fun c76 => ?_)
                  · refine lv_iconst (v := 0) hx hb dX10_shutsAt_85 (by decide) ?_
                    obtain rfl := Option.some.inj hf
                    exact zk_zret false C hW rfl dX10_shutsAt_86
                  · exact absurd c76 (by decide)
                · have hf := ipos c75 hf
                  refine lv_aload_n hx hb dX10_shutsAt_56 rfl (lv_at hl 1 rfl) ?_
                  refine zk_get C hW fgX10_87 0 rfl rfl dX10_shutsAt_57 ?_
                  refine lv_iconst (v := 1) hx hb dX10_shutsAt_60 (by decide) ?_
                  refine lv_icmp_le (tgt := 68) hx hb dX10_shutsAt_61 (by decide) (fun c77 => ?_) (fun c77 => ?_)
                  · have hf := ipos c77 hf
                    refine lv_iconst (v := 0) hx hb dX10_shutsAt_68 (by decide) ?_
                    refine lv_istore (lv' := [(4, .int 0), (3, .int 1), (0, .ref (q 0)), (1, .int a0), (2, .int a1)]) hx hb dX10_shutsAt_69 hl (by decide) rfl (fun ls hl => ?_)
                    refine lv_iload hx hb dX10_shutsAt_71 (lv_at hl 0 rfl) ?_
                    refine lv_if_eq (tgt := 85) hx hb dX10_shutsAt_73 (by decide) (fun c78 => ?_) (fun c78 => ?_)
                    · refine lv_iconst (v := 0) hx hb dX10_shutsAt_85 (by decide) ?_
                      obtain rfl := Option.some.inj hf
                      exact zk_zret false C hW rfl dX10_shutsAt_86
                    · exact absurd c78 (by decide)
                  · have hf := ineg c77 hf
                    refine lv_iconst (v := 1) hx hb dX10_shutsAt_64 (by decide) ?_
                    refine lv_goto (tgt := 69) hx hb dX10_shutsAt_65 (by decide) ?_
                    refine lv_istore (lv' := [(4, .int 1), (3, .int 1), (0, .ref (q 0)), (1, .int a0), (2, .int a1)]) hx hb dX10_shutsAt_69 hl (by decide) rfl (fun ls hl => ?_)
                    refine lv_iload hx hb dX10_shutsAt_71 (lv_at hl 0 rfl) ?_
                    refine lv_if_eq (tgt := 85) hx hb dX10_shutsAt_73 (by decide) (fun c79 => ?_) (fun c79 => ?_)
                    · exact absurd c79 (by decide)
                    · refine lv_iload_n hx hb dX10_shutsAt_76 rfl (lv_at hl 3 rfl) ?_
                      refine lv_iconst (v := 2) hx hb dX10_shutsAt_77 (by decide) ?_
                      refine lv_icmp_eq (tgt := 85) hx hb dX10_shutsAt_78 (by decide) (fun c80 => ?_) (fun c80 => ?_)
                      · have hf := ipos c80 hf
                        refine lv_iconst (v := 0) hx hb dX10_shutsAt_85 (by decide) ?_
                        obtain rfl := Option.some.inj hf
                        exact zk_zret false C hW rfl dX10_shutsAt_86
                      · have hf := ineg c80 hf
                        refine lv_iconst (v := 1) hx hb dX10_shutsAt_81 (by decide) ?_
                        refine lv_goto (tgt := 86) hx hb dX10_shutsAt_82 (by decide) ?_
                        obtain rfl := Option.some.inj hf
                        exact zk_zret true C hW rfl dX10_shutsAt_86
              · have hf := ipos c74 hf
                refine lv_aload_n hx hb dX10_shutsAt_43 rfl (lv_at hl 1 rfl) ?_
                refine zk_get C hW fgX10_94 0 rfl rfl dX10_shutsAt_44 ?_
                refine lv_iconst (v := 2) hx hb dX10_shutsAt_47 (by decide) ?_
                refine lv_icmp_eq (tgt := 64) hx hb dX10_shutsAt_48 (by decide) (fun c81 => ?_) (fun c81 => ?_)
                · have hf := ipos c81 hf
                  refine lv_iconst (v := 1) hx hb dX10_shutsAt_64 (by decide) ?_
                  refine lv_goto (tgt := 69) hx hb dX10_shutsAt_65 (by decide) ?_
                  refine lv_istore (lv' := [(4, .int 1), (3, .int 1), (0, .ref (q 0)), (1, .int a0), (2, .int a1)]) hx hb dX10_shutsAt_69 hl (by decide) rfl (fun ls hl => ?_)
                  refine lv_iload hx hb dX10_shutsAt_71 (lv_at hl 0 rfl) ?_
                  refine lv_if_eq (tgt := 85) hx hb dX10_shutsAt_73 (by decide) (fun c82 => ?_) (fun c82 => ?_)
                  · exact absurd c82 (by decide)
                  · refine lv_iload_n hx hb dX10_shutsAt_76 rfl (lv_at hl 3 rfl) ?_
                    refine lv_iconst (v := 2) hx hb dX10_shutsAt_77 (by decide) ?_
                    refine lv_icmp_eq (tgt := 85) hx hb dX10_shutsAt_78 (by decide) (fun c83 => ?_) (fun c83 => ?_)
                    · have hf := ipos c83 hf
                      refine lv_iconst (v := 0) hx hb dX10_shutsAt_85 (by decide) ?_
                      obtain rfl := Option.some.inj hf
                      exact zk_zret false C hW rfl dX10_shutsAt_86
                    · have hf := ineg c83 hf
                      refine lv_iconst (v := 1) hx hb dX10_shutsAt_81 (by decide) ?_
                      refine lv_goto (tgt := 86) hx hb dX10_shutsAt_82 (by decide) ?_
                      obtain rfl := Option.some.inj hf
                      exact zk_zret true C hW rfl dX10_shutsAt_86
                · have hf := ineg c81 hf
                  refine lv_iload_n hx hb dX10_shutsAt_51 rfl (lv_at hl 2 rfl) ?_
                  refine lv_iconst (v := 4) hx hb dX10_shutsAt_52 (by decide) ?_
                  refine lv_icmp_ne (tgt := 68) hx hb dX10_shutsAt_53 (by decide) (fun c84 => ?_) (fun c84 => ?_)
                  · have hf := ineg c84 hf
                    refine lv_iconst (v := 0) hx hb dX10_shutsAt_68 (by decide) ?_
                    refine lv_istore (lv' := [(4, .int 0), (3, .int 1), (0, .ref (q 0)), (1, .int a0), (2, .int a1)]) hx hb dX10_shutsAt_69 hl (by decide) rfl (fun ls hl => ?_)
                    refine lv_iload hx hb dX10_shutsAt_71 (lv_at hl 0 rfl) ?_
                    refine lv_if_eq (tgt := 85) hx hb dX10_shutsAt_73 (by decide) (fun c85 => ?_) (fun c85 => ?_)
                    · refine lv_iconst (v := 0) hx hb dX10_shutsAt_85 (by decide) ?_
                      obtain rfl := Option.some.inj hf
                      exact zk_zret false C hW rfl dX10_shutsAt_86
                    · exact absurd c85 (by decide)
                  · have hf := ipos c84 hf
                    refine lv_aload_n hx hb dX10_shutsAt_56 rfl (lv_at hl 1 rfl) ?_
                    refine zk_get C hW fgX10_87 0 rfl rfl dX10_shutsAt_57 ?_
                    refine lv_iconst (v := 1) hx hb dX10_shutsAt_60 (by decide) ?_
                    refine lv_icmp_le (tgt := 68) hx hb dX10_shutsAt_61 (by decide) (fun c86 => ?_) (fun c86 => ?_)
                    · have hf := ipos c86 hf
                      refine lv_iconst (v := 0) hx hb dX10_shutsAt_68 (by decide) ?_
                      refine lv_istore (lv' := [(4, .int 0), (3, .int 1), (0, .ref (q 0)), (1, .int a0), (2, .int a1)]) hx hb dX10_shutsAt_69 hl (by decide) rfl (fun ls hl => ?_)
                      refine lv_iload hx hb dX10_shutsAt_71 (lv_at hl 0 rfl) ?_
                      refine lv_if_eq (tgt := 85) hx hb dX10_shutsAt_73 (by decide) (fun c87 => ?_) (fun c87 => ?_)
                      · refine lv_iconst (v := 0) hx hb dX10_shutsAt_85 (by decide) ?_
                        obtain rfl := Option.some.inj hf
                        exact zk_zret false C hW rfl dX10_shutsAt_86
                      · exact absurd c87 (by decide)
                    · have hf := ineg c86 hf
                      refine lv_iconst (v := 1) hx hb dX10_shutsAt_64 (by decide) ?_
                      refine lv_goto (tgt := 69) hx hb dX10_shutsAt_65 (by decide) ?_
                      refine lv_istore (lv' := [(4, .int 1), (3, .int 1), (0, .ref (q 0)), (1, .int a0), (2, .int a1)]) hx hb dX10_shutsAt_69 hl (by decide) rfl (fun ls hl => ?_)
                      refine lv_iload hx hb dX10_shutsAt_71 (lv_at hl 0 rfl) ?_
                      refine lv_if_eq (tgt := 85) hx hb dX10_shutsAt_73 (by decide) (fun c88 => ?_) (fun c88 => ?_)
                      · exact absurd c88 (by decide)
                      · refine lv_iload_n hx hb dX10_shutsAt_76 rfl (lv_at hl 3 rfl) ?_
                        refine lv_iconst (v := 2) hx hb dX10_shutsAt_77 (by decide) ?_
                        refine lv_icmp_eq (tgt := 85) hx hb dX10_shutsAt_78 (by decide) (fun c89 => ?_) (fun c89 => ?_)
                        · have hf := ipos c89 hf
                          refine lv_iconst (v := 0) hx hb dX10_shutsAt_85 (by decide) ?_
                          obtain rfl := Option.some.inj hf
                          exact zk_zret false C hW rfl dX10_shutsAt_86
                        · have hf := ineg c89 hf
                          refine lv_iconst (v := 1) hx hb dX10_shutsAt_81 (by decide) ?_
                          refine lv_goto (tgt := 86) hx hb dX10_shutsAt_82 (by decide) ?_
                          obtain rfl := Option.some.inj hf
                          exact zk_zret true C hW rfl dX10_shutsAt_86

set_option maxHeartbeats 4000000 in
set_option maxRecDepth 100000 in
theorem w_X10_read_43 {p : Program} {e : Env} {s : State} {m : MethodId} {args : Array Value} {below : List Frame} {meth : Method} {c : Code} {A : Nat → Prop} (l : Launch) (G : GG) (q : Nat → Nat) (aa0 : Nat) (v2 : Int32) (v3 : Int32) (v6 : Int32) (v7 : Int32) (s0_1 : Int32) (s0_2 : Int32) (s0_3 : Int32) (s0_4 : Int32) (s0_5 : Int32) (s0_6 : Int32) (s0_7 : Int32) (s0_9 : Int32) (s0_16 : Int32) (s0_18 : Int32) (s0_21 : Int32) (s0_22 : Int32) (s0_23 : Int32) (s0_24 : Int32) (s0_25 : Int32) (s0_26 : Int32) (s0_29 : Int64) (s1 : (Nat → Int32)) (n0 : Nat) (out : Int32 × Bool × Int32 × Int32 × Bool) (C : CX p s m args meth c cX10_read 10 RX10 none "read") {K : Int32 → Int32 → Bool → Int32 → Int32 → Bool → Option (Int32 × Bool × Int32 × Int32 × Bool)} (hK : ∀ (v8 : Int32) (s0_11 : Int32) (s0_12 : Bool) (s0_13 : Int32) (s0_14 : Int32) (s0_15 : Bool) , K v8 s0_11 s0_12 s0_13 s0_14 s0_15 = some out → ∀ (H : Heap) (locs : List Loc) (ls : Array Slot), KW G A s (wO10 G q s0_1 s0_2 s0_3 s0_4 s0_5 s0_6 s0_7 s0_9 s0_11 s0_12 s0_13 s0_14 s0_15 s0_16 s0_18 s0_21 s0_22 s0_23 s0_24 s0_25 s0_26 s0_29 ++ [iA G aa0 n0 s1]) H locs → lv_has ls 10 [] → W p l e (zR 1 24) s m args below meth c H locs 0 0 (QV G A (wO10 G q s0_1 s0_2 s0_3 s0_4 s0_5 s0_6 s0_7 s0_9 out.1 out.2.1 out.2.2.1 out.2.2.2.1 out.2.2.2.2 s0_16 s0_18 s0_21 s0_22 s0_23 s0_24 s0_25 s0_26 s0_29 ++ [iA G aa0 n0 s1]) below args s) (F0 m 100 ls [])) :
    ∀ (n : Nat) (v8 : Int32) (s0_11 : Int32) (s0_12 : Bool) (s0_13 : Int32) (s0_14 : Int32) (s0_15 : Bool) , lp_X10_read_43 v2 v3 v6 v7 s1 n0 K n v8 s0_11 s0_12 s0_13 s0_14 s0_15 = some out → ∀ (H : Heap) (locs : List Loc) (ls : Array Slot), KW G A s (wO10 G q s0_1 s0_2 s0_3 s0_4 s0_5 s0_6 s0_7 s0_9 s0_11 s0_12 s0_13 s0_14 s0_15 s0_16 s0_18 s0_21 s0_22 s0_23 s0_24 s0_25 s0_26 s0_29 ++ [iA G aa0 n0 s1]) H locs → lv_has ls 10 [(0, .ref (q 0)), (1, .ref aa0), (2, .int v2), (3, .int v3), (6, .int v6), (7, .int v7), (8, .int v8)] → W p l e (zR 1 24) s m args below meth c H locs 0 0 (QV G A (wO10 G q s0_1 s0_2 s0_3 s0_4 s0_5 s0_6 s0_7 s0_9 out.1 out.2.1 out.2.2.1 out.2.2.2.1 out.2.2.2.2 s0_16 s0_18 s0_21 s0_22 s0_23 s0_24 s0_25 s0_26 s0_29 ++ [iA G aa0 n0 s1]) below args s) (F0 m 43 ls []) := by
  have hx := C.1
  have hb := C.2.1
  intro n
  induction n with
  | zero => intro v8 s0_11 s0_12 s0_13 s0_14 s0_15 hf; exact nomatch (show (none : Option (Int32 × Bool × Int32 × Int32 × Bool)) = some out from hf)
  | succ n ih =>
    intro v8 s0_11 s0_12 s0_13 s0_14 s0_15 hf H locs ls hW hl
    rw [lp_X10_read_43] at hf
    refine lv_iload hx hb dX10_read_43 (lv_at hl 6 rfl) ?_
    refine lv_iload hx hb dX10_read_45 (lv_at hl 5 rfl) ?_
    refine lv_icmp_ge (tgt := 100) hx hb dX10_read_47 (by decide) (fun c4 => ?_) (fun c4 => ?_)
    · have hf := ipos c4 hf
      exact hK v8 s0_11 s0_12 s0_13 s0_14 s0_15 hf _ _ _ hW (lv_sub hl [] rfl)
    · have hf := ineg c4 hf
      refine lv_aload_n hx hb dX10_read_50 rfl (lv_at hl 0 rfl) ?_
      refine zk_get C hW fgX10_100 0 rfl rfl dX10_read_51 ?_
      refine lv_if_ne (tgt := 100) hx hb dX10_read_54 (by decide) (fun c5 => ?_) (fun c5 => ?_)
      · have hf := ineg c5 hf
        exact hK v8 s0_11 s0_12 s0_13 s0_14 s0_15 hf _ _ _ hW (lv_sub hl [] rfl)
      · have hf := ipos c5 hf
        refine lv_aload_n hx hb dX10_read_57 rfl (lv_at hl 1 rfl) ?_
        refine lv_iload hx hb dX10_read_58 (lv_at hl 4 rfl) ?_
        refine lv_if_eq (tgt := 68) hx hb dX10_read_60 (by decide) (fun c6 => ?_) (fun c6 => ?_)
        · have hf := ipos c6 hf
          refine lv_iload_n hx hb dX10_read_68 rfl (lv_at hl 2 rfl) ?_
          refine lv_iconst (v := 1) hx hb dX10_read_69 (by decide) ?_
          refine lv_isub hx hb dX10_read_70 ?_
          refine lv_iload hx hb dX10_read_71 (lv_at hl 6 rfl) ?_
          refine lv_isub hx hb dX10_read_73 ?_
          obtain ⟨g7, hf⟩ := grd hf
          refine zk_iald C hW 1 g7 rfl dX10_read_74 ?_
          refine lv_istore (lv' := [(9, .int (s1 (Int32.toNatClampNeg ((v2 - 1) - v8)))), (0, .ref (q 0)), (1, .ref aa0), (2, .int v2), (3, .int v3), (6, .int v6), (7, .int v7), (8, .int v8)]) hx hb dX10_read_75 hl (by decide) rfl (fun ls hl => ?_)
          refine lv_aload_n hx hb dX10_read_77 rfl (lv_at hl 1 rfl) ?_
          refine lv_iload hx hb dX10_read_78 (lv_at hl 0 rfl) ?_
          obtain ⟨u8, eu8, hf⟩ := bnd hf
          refine zk_callBV (As := [.int (s1 (Int32.toNatClampNeg ((v2 - 1) - v8)))]) (rest := []) (W1 := wO10 G q s0_1 s0_2 s0_3 s0_4 s0_5 s0_6 s0_7 s0_9 u8.1 u8.2.1 u8.2.2.1 u8.2.2.2 s0_15 s0_16 s0_18 s0_21 s0_22 s0_23 s0_24 s0_25 s0_26 s0_29 ++ [iA G aa0 n0 s1]) C hW hl mvX10_106 (c_X10_readWord l G q s0_1 s0_2 s0_3 s0_4 s0_5 s0_6 s0_7 s0_9 s0_11 s0_12 s0_13 s0_14 s0_15 s0_16 s0_18 s0_21 s0_22 s0_23 s0_24 s0_25 s0_26 s0_29 (s1 (Int32.toNatClampNeg ((v2 - 1) - v8))) u8 eu8) ⟨(Nat.le_of_ble_eq_true rfl), (Nat.le_of_ble_eq_true rfl)⟩ ⟨rfl, rfl⟩ ([]) ([iA G aa0 n0 s1]) zE2 rfl rfl (Nat.le_of_ble_eq_true rfl) zE2r dX10_read_80 ⟨Nat.zero_le _, Nat.zero_le _⟩ (fun H locs hW => ?_)
          refine lv_aload_n hx hb dX10_read_83 rfl (lv_at hl 1 rfl) ?_
          refine lv_aload_n hx hb dX10_read_84 rfl (lv_at hl 1 rfl) ?_
          refine lv_iload_n hx hb dX10_read_85 rfl (lv_at hl 4 rfl) ?_
          refine lv_iload hx hb dX10_read_86 (lv_at hl 0 rfl) ?_
          obtain ⟨u9, eu9, hf⟩ := bnd hf
          refine zk_callBI (As := [.int v3, .int (s1 (Int32.toNatClampNeg ((v2 - 1) - v8)))]) (rest := [.ref (q 0)]) (W1 := wO10 G q s0_1 s0_2 s0_3 s0_4 s0_5 s0_6 s0_7 s0_9 u8.1 u8.2.1 u8.2.2.1 u8.2.2.2 s0_15 s0_16 s0_18 s0_21 s0_22 s0_23 s0_24 s0_25 s0_26 s0_29 ++ [iA G aa0 n0 s1]) C hW hl mvX10_110 (c_X10_shutsAt l G q s0_1 s0_2 s0_3 s0_4 s0_5 s0_6 s0_7 s0_9 u8.1 u8.2.1 u8.2.2.1 u8.2.2.2 s0_15 s0_16 s0_18 s0_21 s0_22 s0_23 s0_24 s0_25 s0_26 s0_29 v3 (s1 (Int32.toNatClampNeg ((v2 - 1) - v8))) u9 eu9) ⟨(Nat.le_of_ble_eq_true rfl), (Nat.le_of_ble_eq_true rfl)⟩ ⟨rfl, rfl⟩ ([]) ([iA G aa0 n0 s1]) zE2 rfl rfl (Nat.le_of_ble_eq_true rfl) zE2r dX10_read_88 ⟨Nat.zero_le _, Nat.zero_le _⟩ (fun H locs hW => ?_)
          refine zk_putZ (W1 := wO10 G q s0_1 s0_2 s0_3 s0_4 s0_5 s0_6 s0_7 s0_9 u8.1 u8.2.1 u8.2.2.1 u8.2.2.2 u9 s0_16 s0_18 s0_21 s0_22 s0_23 s0_24 s0_25 s0_26 s0_29 ++ [iA G aa0 n0 s1]) C hW fpX10_100 0 u9 rfl rfl (Nat.le_of_ble_eq_true rfl) rfl dX10_read_91 (fun H locs hW => ?_)
          refine lv_iinc (v := (v8 + 1)) (lv' := [(8, .int (v8 + 1)), (9, .int (s1 (Int32.toNatClampNeg ((v2 - 1) - v8)))), (0, .ref (q 0)), (1, .ref aa0), (2, .int v2), (3, .int v3), (6, .int v6), (7, .int v7)]) hx hb dX10_read_94 hl (k := 7) rfl rfl (by decide) rfl (fun ls hl => ?_)
          refine lv_goto (tgt := 43) hx hb dX10_read_97 (by decide) ?_
          exact ih (v8 + 1) u8.1 u8.2.1 u8.2.2.1 u8.2.2.2 u9 hf _ _ _ hW (lv_sub hl [2, 3, 4, 5, 6, 7, 0] rfl)
        · have hf := ineg c6 hf
          refine lv_iload hx hb dX10_read_63 (lv_at hl 6 rfl) ?_
          refine lv_goto (tgt := 74) hx hb dX10_read_65 (by decide) ?_
          obtain ⟨g10, hf⟩ := grd hf
          refine zk_iald C hW 1 g10 rfl dX10_read_74 ?_
          refine lv_istore (lv' := [(9, .int (s1 (Int32.toNatClampNeg v8))), (0, .ref (q 0)), (1, .ref aa0), (2, .int v2), (3, .int v3), (6, .int v6), (7, .int v7), (8, .int v8)]) hx hb dX10_read_75 hl (by decide) rfl (fun ls hl => ?_)
          refine lv_aload_n hx hb dX10_read_77 rfl (lv_at hl 1 rfl) ?_
          refine lv_iload hx hb dX10_read_78 (lv_at hl 0 rfl) ?_
          obtain ⟨u11, eu11, hf⟩ := bnd hf
          refine zk_callBV (As := [.int (s1 (Int32.toNatClampNeg v8))]) (rest := []) (W1 := wO10 G q s0_1 s0_2 s0_3 s0_4 s0_5 s0_6 s0_7 s0_9 u11.1 u11.2.1 u11.2.2.1 u11.2.2.2 s0_15 s0_16 s0_18 s0_21 s0_22 s0_23 s0_24 s0_25 s0_26 s0_29 ++ [iA G aa0 n0 s1]) C hW hl mvX10_106 (c_X10_readWord l G q s0_1 s0_2 s0_3 s0_4 s0_5 s0_6 s0_7 s0_9 s0_11 s0_12 s0_13 s0_14 s0_15 s0_16 s0_18 s0_21 s0_22 s0_23 s0_24 s0_25 s0_26 s0_29 (s1 (Int32.toNatClampNeg v8)) u11 eu11) ⟨(Nat.le_of_ble_eq_true rfl), (Nat.le_of_ble_eq_true rfl)⟩ ⟨rfl, rfl⟩ ([]) ([iA G aa0 n0 s1]) zE2 rfl rfl (Nat.le_of_ble_eq_true rfl) zE2r dX10_read_80 ⟨Nat.zero_le _, Nat.zero_le _⟩ (fun H locs hW => ?_)
          refine lv_aload_n hx hb dX10_read_83 rfl (lv_at hl 1 rfl) ?_
          refine lv_aload_n hx hb dX10_read_84 rfl (lv_at hl 1 rfl) ?_
          refine lv_iload_n hx hb dX10_read_85 rfl (lv_at hl 4 rfl) ?_
          refine lv_iload hx hb dX10_read_86 (lv_at hl 0 rfl) ?_
          obtain ⟨u12, eu12, hf⟩ := bnd hf
          refine zk_callBI (As := [.int v3, .int (s1 (Int32.toNatClampNeg v8))]) (rest := [.ref (q 0)]) (W1 := wO10 G q s0_1 s0_2 s0_3 s0_4 s0_5 s0_6 s0_7 s0_9 u11.1 u11.2.1 u11.2.2.1 u11.2.2.2 s0_15 s0_16 s0_18 s0_21 s0_22 s0_23 s0_24 s0_25 s0_26 s0_29 ++ [iA G aa0 n0 s1]) C hW hl mvX10_110 (c_X10_shutsAt l G q s0_1 s0_2 s0_3 s0_4 s0_5 s0_6 s0_7 s0_9 u11.1 u11.2.1 u11.2.2.1 u11.2.2.2 s0_15 s0_16 s0_18 s0_21 s0_22 s0_23 s0_24 s0_25 s0_26 s0_29 v3 (s1 (Int32.toNatClampNeg v8)) u12 eu12) ⟨(Nat.le_of_ble_eq_true rfl), (Nat.le_of_ble_eq_true rfl)⟩ ⟨rfl, rfl⟩ ([]) ([iA G aa0 n0 s1]) zE2 rfl rfl (Nat.le_of_ble_eq_true rfl) zE2r dX10_read_88 ⟨Nat.zero_le _, Nat.zero_le _⟩ (fun H locs hW => ?_)
          refine zk_putZ (W1 := wO10 G q s0_1 s0_2 s0_3 s0_4 s0_5 s0_6 s0_7 s0_9 u11.1 u11.2.1 u11.2.2.1 u11.2.2.2 u12 s0_16 s0_18 s0_21 s0_22 s0_23 s0_24 s0_25 s0_26 s0_29 ++ [iA G aa0 n0 s1]) C hW fpX10_100 0 u12 rfl rfl (Nat.le_of_ble_eq_true rfl) rfl dX10_read_91 (fun H locs hW => ?_)
          refine lv_iinc (v := (v8 + 1)) (lv' := [(8, .int (v8 + 1)), (9, .int (s1 (Int32.toNatClampNeg v8))), (0, .ref (q 0)), (1, .ref aa0), (2, .int v2), (3, .int v3), (6, .int v6), (7, .int v7)]) hx hb dX10_read_94 hl (k := 7) rfl rfl (by decide) rfl (fun ls hl => ?_)
          refine lv_goto (tgt := 43) hx hb dX10_read_97 (by decide) ?_
          exact ih (v8 + 1) u11.1 u11.2.1 u11.2.2.1 u11.2.2.2 u12 hf _ _ _ hW (lv_sub hl [2, 3, 4, 5, 6, 7, 0] rfl)
set_option maxHeartbeats 4000000 in
set_option maxRecDepth 100000 in
theorem c_X10_read (l : Launch) (G : GG) (q : Nat → Nat) (aa0 : Nat) (m1 : Int32) (m2 : Int32) (m3 : Int32) (m4 : Int32) (m5 : Int32) (m6 : Int32) (m7 : Int32) (m9 : Int32) (m11 : Int32) (m12 : Bool) (m13 : Int32) (m14 : Int32) (m15 : Bool) (m16 : Int32) (m18 : Int32) (m21 : Int32) (m22 : Int32) (m23 : Int32) (m24 : Int32) (m25 : Int32) (m26 : Int32) (m29 : Int64) (n0 : Nat) (f0 : (Nat → Int32)) (a1 : Int32) (a2 : Int32) (a3 : Bool) (a4 : Int32) (out : Int32 × Bool × Int32 × Int32 × Bool) (hf : f_X10_read n0 f0 a1 a2 a3 a4 = some out) : CtV G l yX10_read (Cond.code yX10_read cX10_read 10 none :: WL) (zR 1 24) [.ref (q 0), .ref aa0, .int a1, .int a2, .int (bI a3), .int a4] (wO10 G q m1 m2 m3 m4 m5 m6 m7 m9 m11 m12 m13 m14 m15 m16 m18 m21 m22 m23 m24 m25 m26 m29 ++ [iA G aa0 n0 f0]) (wO10 G q m1 m2 m3 m4 m5 m6 m7 m9 out.1 out.2.1 out.2.2.1 out.2.2.2.1 out.2.2.2.2 m16 m18 m21 m22 m23 m24 m25 m26 m29 ++ [iA G aa0 n0 f0]) := by
  refine CtV.mk (cc := cX10_read) (nL := 10) (rt := none) (own := RX10) (nm := "read") (by decide) rfl rfl (Nat.le_of_ble_eq_true rfl) ?_
  intro p e s m below meth c A ls C hW hl
  have hx := C.1
  have hb := C.2.1
  have hl : lv_has ls 10 [(0, .ref (q 0)), (1, .ref aa0), (2, .int a1), (3, .int a2), (4, .int (bI a3)), (5, .int a4)] := hl
  unfold f_X10_read at hf
  refine lv_aload_n hx hb dX10_read_0 rfl (lv_at hl 0 rfl) ?_
  obtain ⟨u1, eu1, hf⟩ := bnd hf
  refine zk_callBV (As := []) (rest := []) (W1 := wO10 G q m1 m2 m3 m4 m5 m6 m7 m9 u1.1 u1.2.1 u1.2.2.1 u1.2.2.2.1 u1.2.2.2.2 m16 m18 m21 m22 m23 m24 m25 m26 m29 ++ [iA G aa0 n0 f0]) C hW hl mvX10_103 (c_X10_begin l G q m1 m2 m3 m4 m5 m6 m7 m9 m11 m12 m13 m14 m15 m16 m18 m21 m22 m23 m24 m25 m26 m29 u1 eu1) ⟨(Nat.le_of_ble_eq_true rfl), (Nat.le_of_ble_eq_true rfl)⟩ ⟨rfl, rfl⟩ ([]) ([iA G aa0 n0 f0]) zE2 rfl rfl (Nat.le_of_ble_eq_true rfl) zE2r dX10_read_1 ⟨Nat.zero_le _, Nat.zero_le _⟩ (fun H locs hW => ?_)
  refine lv_iload hx hb dX10_read_4 (lv_at hl 4 rfl) ?_
  refine lv_if_ne (tgt := 14) hx hb dX10_read_6 (by decide) (fun c2 => ?_) (fun c2 => ?_)
  · have hf := ineg c2 hf
    refine lv_iconst (v := 1) hx hb dX10_read_14 (by decide) ?_
    refine lv_goto (tgt := 19) hx hb dX10_read_15 (by decide) ?_
    refine lv_istore (lv' := [(6, .int 1), (0, .ref (q 0)), (1, .ref aa0), (2, .int a1), (3, .int a2), (4, .int (bI a3)), (5, .int a4)]) hx hb dX10_read_19 hl (by decide) rfl (fun ls hl => ?_)
    refine lv_iload_n hx hb dX10_read_21 rfl (lv_at hl 4 rfl) ?_
    refine lv_iconst (v := 2) hx hb dX10_read_22 (by decide) ?_
    refine lv_icmp_eq (tgt := 32) hx hb dX10_read_23 (by decide) (fun c3 => ?_) (fun c3 => ?_)
    · have hf := ipos c3 hf
      refine lv_iload_n hx hb dX10_read_32 rfl (lv_at hl 3 rfl) ?_
      refine lv_goto (tgt := 38) hx hb dX10_read_33 (by decide) ?_
      refine lv_istore (lv' := [(7, .int a1), (6, .int 1), (0, .ref (q 0)), (1, .ref aa0), (2, .int a1), (3, .int a2), (4, .int (bI a3)), (5, .int a4)]) hx hb dX10_read_38 hl (by decide) rfl (fun ls hl => ?_)
      refine lv_iconst (v := 0) hx hb dX10_read_40 (by decide) ?_
      refine lv_istore (lv' := [(8, .int 0), (7, .int a1), (6, .int 1), (0, .ref (q 0)), (1, .ref aa0), (2, .int a1), (3, .int a2), (4, .int (bI a3)), (5, .int a4)]) hx hb dX10_read_41 hl (by decide) rfl (fun ls hl => ?_)
      refine w_X10_read_43 l G q aa0 a1 a2 1 a1 m1 m2 m3 m4 m5 m6 m7 m9 m16 m18 m21 m22 m23 m24 m25 m26 m29 f0 n0 out C (fun w13_v8 w13_s0_11 w13_s0_12 w13_s0_13 w13_s0_14 w13_s0_15 hf H locs ls hW hl => ?_) FU 0 u1.1 u1.2.1 u1.2.2.1 u1.2.2.2.1 u1.2.2.2.2 hf _ _ _ hW (lv_sub hl [3, 4, 5, 6, 2, 1, 0] rfl)
      obtain rfl := Option.some.inj hf
      exact zk_vret C hW dX10_read_100
    · have hf := ineg c3 hf
      refine lv_iload hx hb dX10_read_26 (lv_at hl 6 rfl) ?_
      refine lv_iload_n hx hb dX10_read_28 rfl (lv_at hl 3 rfl) ?_
      refine lv_icmp_le (tgt := 36) hx hb dX10_read_29 (by decide) (fun c14 => ?_) (fun c14 => ?_)
      · have hf := ipos c14 hf
        refine lv_iload hx hb dX10_read_36 (lv_at hl 6 rfl) ?_
        refine lv_istore (lv' := [(7, .int a4), (6, .int 1), (0, .ref (q 0)), (1, .ref aa0), (2, .int a1), (3, .int a2), (4, .int (bI a3)), (5, .int a4)]) hx hb dX10_read_38 hl (by decide) rfl (fun ls hl => ?_)
        refine lv_iconst (v := 0) hx hb dX10_read_40 (by decide) ?_
        refine lv_istore (lv' := [(8, .int 0), (7, .int a4), (6, .int 1), (0, .ref (q 0)), (1, .ref aa0), (2, .int a1), (3, .int a2), (4, .int (bI a3)), (5, .int a4)]) hx hb dX10_read_41 hl (by decide) rfl (fun ls hl => ?_)
        refine w_X10_read_43 l G q aa0 a1 a2 1 a4 m1 m2 m3 m4 m5 m6 m7 m9 m16 m18 m21 m22 m23 m24 m25 m26 m29 f0 n0 out C (fun w15_v8 w15_s0_11 w15_s0_12 w15_s0_13 w15_s0_14 w15_s0_15 hf H locs ls hW hl => ?_) FU 0 u1.1 u1.2.1 u1.2.2.1 u1.2.2.2.1 u1.2.2.2.2 hf _ _ _ hW (lv_sub hl [3, 4, 5, 6, 2, 1, 0] rfl)
        obtain rfl := Option.some.inj hf
        exact zk_vret C hW dX10_read_100
      · have hf := ineg c14 hf
        refine lv_iload_n hx hb dX10_read_32 rfl (lv_at hl 3 rfl) ?_
        refine lv_goto (tgt := 38) hx hb dX10_read_33 (by decide) ?_
        refine lv_istore (lv' := [(7, .int a1), (6, .int 1), (0, .ref (q 0)), (1, .ref aa0), (2, .int a1), (3, .int a2), (4, .int (bI a3)), (5, .int a4)]) hx hb dX10_read_38 hl (by decide) rfl (fun ls hl => ?_)
        refine lv_iconst (v := 0) hx hb dX10_read_40 (by decide) ?_
        refine lv_istore (lv' := [(8, .int 0), (7, .int a1), (6, .int 1), (0, .ref (q 0)), (1, .ref aa0), (2, .int a1), (3, .int a2), (4, .int (bI a3)), (5, .int a4)]) hx hb dX10_read_41 hl (by decide) rfl (fun ls hl => ?_)
        refine w_X10_read_43 l G q aa0 a1 a2 1 a1 m1 m2 m3 m4 m5 m6 m7 m9 m16 m18 m21 m22 m23 m24 m25 m26 m29 f0 n0 out C (fun w16_v8 w16_s0_11 w16_s0_12 w16_s0_13 w16_s0_14 w16_s0_15 hf H locs ls hW hl => ?_) FU 0 u1.1 u1.2.1 u1.2.2.1 u1.2.2.2.1 u1.2.2.2.2 hf _ _ _ hW (lv_sub hl [3, 4, 5, 6, 2, 1, 0] rfl)
        obtain rfl := Option.some.inj hf
        exact zk_vret C hW dX10_read_100
  · have hf := ipos c2 hf
    refine lv_iload_n hx hb dX10_read_9 rfl (lv_at hl 3 rfl) ?_
    refine lv_iconst (v := 2) hx hb dX10_read_10 (by decide) ?_
    refine lv_icmp_ne (tgt := 18) hx hb dX10_read_11 (by decide) (fun c17 => ?_) (fun c17 => ?_)
    · have hf := ineg c17 hf
      refine lv_iconst (v := 0) hx hb dX10_read_18 (by decide) ?_
      refine lv_istore (lv' := [(6, .int 0), (0, .ref (q 0)), (1, .ref aa0), (2, .int a1), (3, .int a2), (4, .int (bI a3)), (5, .int a4)]) hx hb dX10_read_19 hl (by decide) rfl (fun ls hl => ?_)
      refine lv_iload_n hx hb dX10_read_21 rfl (lv_at hl 4 rfl) ?_
      refine lv_iconst (v := 2) hx hb dX10_read_22 (by decide) ?_
      refine lv_icmp_eq (tgt := 32) hx hb dX10_read_23 (by decide) (fun c18 => ?_) (fun c18 => ?_)
      · have hf := ipos c18 hf
        refine lv_iload_n hx hb dX10_read_32 rfl (lv_at hl 3 rfl) ?_
        refine lv_goto (tgt := 38) hx hb dX10_read_33 (by decide) ?_
        refine lv_istore (lv' := [(7, .int a1), (6, .int 0), (0, .ref (q 0)), (1, .ref aa0), (2, .int a1), (3, .int a2), (4, .int (bI a3)), (5, .int a4)]) hx hb dX10_read_38 hl (by decide) rfl (fun ls hl => ?_)
        refine lv_iconst (v := 0) hx hb dX10_read_40 (by decide) ?_
        refine lv_istore (lv' := [(8, .int 0), (7, .int a1), (6, .int 0), (0, .ref (q 0)), (1, .ref aa0), (2, .int a1), (3, .int a2), (4, .int (bI a3)), (5, .int a4)]) hx hb dX10_read_41 hl (by decide) rfl (fun ls hl => ?_)
        refine w_X10_read_43 l G q aa0 a1 a2 0 a1 m1 m2 m3 m4 m5 m6 m7 m9 m16 m18 m21 m22 m23 m24 m25 m26 m29 f0 n0 out C (fun w19_v8 w19_s0_11 w19_s0_12 w19_s0_13 w19_s0_14 w19_s0_15 hf H locs ls hW hl => ?_) FU 0 u1.1 u1.2.1 u1.2.2.1 u1.2.2.2.1 u1.2.2.2.2 hf _ _ _ hW (lv_sub hl [3, 4, 5, 6, 2, 1, 0] rfl)
        obtain rfl := Option.some.inj hf
        exact zk_vret C hW dX10_read_100
      · have hf := ineg c18 hf
        refine lv_iload hx hb dX10_read_26 (lv_at hl 6 rfl) ?_
        refine lv_iload_n hx hb dX10_read_28 rfl (lv_at hl 3 rfl) ?_
        refine lv_icmp_le (tgt := 36) hx hb dX10_read_29 (by decide) (fun c20 => ?_) (fun c20 => ?_)
        · have hf := ipos c20 hf
          refine lv_iload hx hb dX10_read_36 (lv_at hl 6 rfl) ?_
          refine lv_istore (lv' := [(7, .int a4), (6, .int 0), (0, .ref (q 0)), (1, .ref aa0), (2, .int a1), (3, .int a2), (4, .int (bI a3)), (5, .int a4)]) hx hb dX10_read_38 hl (by decide) rfl (fun ls hl => ?_)
          refine lv_iconst (v := 0) hx hb dX10_read_40 (by decide) ?_
          refine lv_istore (lv' := [(8, .int 0), (7, .int a4), (6, .int 0), (0, .ref (q 0)), (1, .ref aa0), (2, .int a1), (3, .int a2), (4, .int (bI a3)), (5, .int a4)]) hx hb dX10_read_41 hl (by decide) rfl (fun ls hl => ?_)
          refine w_X10_read_43 l G q aa0 a1 a2 0 a4 m1 m2 m3 m4 m5 m6 m7 m9 m16 m18 m21 m22 m23 m24 m25 m26 m29 f0 n0 out C (fun w21_v8 w21_s0_11 w21_s0_12 w21_s0_13 w21_s0_14 w21_s0_15 hf H locs ls hW hl => ?_) FU 0 u1.1 u1.2.1 u1.2.2.1 u1.2.2.2.1 u1.2.2.2.2 hf _ _ _ hW (lv_sub hl [3, 4, 5, 6, 2, 1, 0] rfl)
          obtain rfl := Option.some.inj hf
          exact zk_vret C hW dX10_read_100
        · have hf := ineg c20 hf
          refine lv_iload_n hx hb dX10_read_32 rfl (lv_at hl 3 rfl) ?_
          refine lv_goto (tgt := 38) hx hb dX10_read_33 (by decide) ?_
          refine lv_istore (lv' := [(7, .int a1), (6, .int 0), (0, .ref (q 0)), (1, .ref aa0), (2, .int a1), (3, .int a2), (4, .int (bI a3)), (5, .int a4)]) hx hb dX10_read_38 hl (by decide) rfl (fun ls hl => ?_)
          refine lv_iconst (v := 0) hx hb dX10_read_40 (by decide) ?_
          refine lv_istore (lv' := [(8, .int 0), (7, .int a1), (6, .int 0), (0, .ref (q 0)), (1, .ref aa0), (2, .int a1), (3, .int a2), (4, .int (bI a3)), (5, .int a4)]) hx hb dX10_read_41 hl (by decide) rfl (fun ls hl => ?_)
          refine w_X10_read_43 l G q aa0 a1 a2 0 a1 m1 m2 m3 m4 m5 m6 m7 m9 m16 m18 m21 m22 m23 m24 m25 m26 m29 f0 n0 out C (fun w22_v8 w22_s0_11 w22_s0_12 w22_s0_13 w22_s0_14 w22_s0_15 hf H locs ls hW hl => ?_) FU 0 u1.1 u1.2.1 u1.2.2.1 u1.2.2.2.1 u1.2.2.2.2 hf _ _ _ hW (lv_sub hl [3, 4, 5, 6, 2, 1, 0] rfl)
          obtain rfl := Option.some.inj hf
          exact zk_vret C hW dX10_read_100
    · have hf := ipos c17 hf
      refine lv_iconst (v := 1) hx hb dX10_read_14 (by decide) ?_
      refine lv_goto (tgt := 19) hx hb dX10_read_15 (by decide) ?_
      refine lv_istore (lv' := [(6, .int 1), (0, .ref (q 0)), (1, .ref aa0), (2, .int a1), (3, .int a2), (4, .int (bI a3)), (5, .int a4)]) hx hb dX10_read_19 hl (by decide) rfl (fun ls hl => ?_)
      refine lv_iload_n hx hb dX10_read_21 rfl (lv_at hl 4 rfl) ?_
      refine lv_iconst (v := 2) hx hb dX10_read_22 (by decide) ?_
      refine lv_icmp_eq (tgt := 32) hx hb dX10_read_23 (by decide) (fun c23 => ?_) (fun c23 => ?_)
      · have hf := ipos c23 hf
        refine lv_iload_n hx hb dX10_read_32 rfl (lv_at hl 3 rfl) ?_
        refine lv_goto (tgt := 38) hx hb dX10_read_33 (by decide) ?_
        refine lv_istore (lv' := [(7, .int a1), (6, .int 1), (0, .ref (q 0)), (1, .ref aa0), (2, .int a1), (3, .int a2), (4, .int (bI a3)), (5, .int a4)]) hx hb dX10_read_38 hl (by decide) rfl (fun ls hl => ?_)
        refine lv_iconst (v := 0) hx hb dX10_read_40 (by decide) ?_
        refine lv_istore (lv' := [(8, .int 0), (7, .int a1), (6, .int 1), (0, .ref (q 0)), (1, .ref aa0), (2, .int a1), (3, .int a2), (4, .int (bI a3)), (5, .int a4)]) hx hb dX10_read_41 hl (by decide) rfl (fun ls hl => ?_)
        refine w_X10_read_43 l G q aa0 a1 a2 1 a1 m1 m2 m3 m4 m5 m6 m7 m9 m16 m18 m21 m22 m23 m24 m25 m26 m29 f0 n0 out C (fun w24_v8 w24_s0_11 w24_s0_12 w24_s0_13 w24_s0_14 w24_s0_15 hf H locs ls hW hl => ?_) FU 0 u1.1 u1.2.1 u1.2.2.1 u1.2.2.2.1 u1.2.2.2.2 hf _ _ _ hW (lv_sub hl [3, 4, 5, 6, 2, 1, 0] rfl)
        obtain rfl := Option.some.inj hf
        exact zk_vret C hW dX10_read_100
      · have hf := ineg c23 hf
        refine lv_iload hx hb dX10_read_26 (lv_at hl 6 rfl) ?_
        refine lv_iload_n hx hb dX10_read_28 rfl (lv_at hl 3 rfl) ?_
        refine lv_icmp_le (tgt := 36) hx hb dX10_read_29 (by decide) (fun c25 => ?_) (fun c25 => ?_)
        · have hf := ipos c25 hf
          refine lv_iload hx hb dX10_read_36 (lv_at hl 6 rfl) ?_
          refine lv_istore (lv' := [(7, .int a4), (6, .int 1), (0, .ref (q 0)), (1, .ref aa0), (2, .int a1), (3, .int a2), (4, .int (bI a3)), (5, .int a4)]) hx hb dX10_read_38 hl (by decide) rfl (fun ls hl => ?_)
          refine lv_iconst (v := 0) hx hb dX10_read_40 (by decide) ?_
          refine lv_istore (lv' := [(8, .int 0), (7, .int a4), (6, .int 1), (0, .ref (q 0)), (1, .ref aa0), (2, .int a1), (3, .int a2), (4, .int (bI a3)), (5, .int a4)]) hx hb dX10_read_41 hl (by decide) rfl (fun ls hl => ?_)
          refine w_X10_read_43 l G q aa0 a1 a2 1 a4 m1 m2 m3 m4 m5 m6 m7 m9 m16 m18 m21 m22 m23 m24 m25 m26 m29 f0 n0 out C (fun w26_v8 w26_s0_11 w26_s0_12 w26_s0_13 w26_s0_14 w26_s0_15 hf H locs ls hW hl => ?_) FU 0 u1.1 u1.2.1 u1.2.2.1 u1.2.2.2.1 u1.2.2.2.2 hf _ _ _ hW (lv_sub hl [3, 4, 5, 6, 2, 1, 0] rfl)
          obtain rfl := Option.some.inj hf
          exact zk_vret C hW dX10_read_100
        · have hf := ineg c25 hf
          refine lv_iload_n hx hb dX10_read_32 rfl (lv_at hl 3 rfl) ?_
          refine lv_goto (tgt := 38) hx hb dX10_read_33 (by decide) ?_
          refine lv_istore (lv' := [(7, .int a1), (6, .int 1), (0, .ref (q 0)), (1, .ref aa0), (2, .int a1), (3, .int a2), (4, .int (bI a3)), (5, .int a4)]) hx hb dX10_read_38 hl (by decide) rfl (fun ls hl => ?_)
          refine lv_iconst (v := 0) hx hb dX10_read_40 (by decide) ?_
          refine lv_istore (lv' := [(8, .int 0), (7, .int a1), (6, .int 1), (0, .ref (q 0)), (1, .ref aa0), (2, .int a1), (3, .int a2), (4, .int (bI a3)), (5, .int a4)]) hx hb dX10_read_41 hl (by decide) rfl (fun ls hl => ?_)
          refine w_X10_read_43 l G q aa0 a1 a2 1 a1 m1 m2 m3 m4 m5 m6 m7 m9 m16 m18 m21 m22 m23 m24 m25 m26 m29 f0 n0 out C (fun w27_v8 w27_s0_11 w27_s0_12 w27_s0_13 w27_s0_14 w27_s0_15 hf H locs ls hW hl => ?_) FU 0 u1.1 u1.2.1 u1.2.2.1 u1.2.2.2.1 u1.2.2.2.2 hf _ _ _ hW (lv_sub hl [3, 4, 5, 6, 2, 1, 0] rfl)
          obtain rfl := Option.some.inj hf
          exact zk_vret C hW dX10_read_100

set_option maxHeartbeats 4000000 in
set_option maxRecDepth 100000 in
theorem w_X10_valueBehind_41 {p : Program} {e : Env} {s : State} {m : MethodId} {args : Array Value} {below : List Frame} {meth : Method} {c : Code} {A : Nat → Prop} (l : Launch) (G : GG) (q : Nat → Nat) (v1 : Int32) (s0_0 : (Nat → Int32)) (s0_1 : Int32) (s0_2 : Int32) (s0_3 : Int32) (s0_4 : Int32) (s0_5 : Int32) (s0_6 : Int32) (s0_7 : Int32) (s0_8 : (Nat → Int32)) (s0_9 : Int32) (s0_10 : (Nat → Int32)) (s0_15 : Bool) (s0_16 : Int32) (s0_17 : (Nat → Int32)) (s0_18 : Int32) (s0_19 : (Nat → Int32)) (s0_20 : (Nat → Int32)) (s0_21 : Int32) (s0_22 : Int32) (s0_23 : Int32) (s0_24 : Int32) (s0_25 : Int32) (s0_26 : Int32) (s0_27 : (Nat → Int32)) (s0_28 : (Nat → Int32)) (s0_29 : Int64) (out : Int32 × Int32 × Bool × Int32 × Int32 × Bool) (C : CX p s m args meth c cX10_valueBehind 4 RX10 (some .int) "valueBehind") {K : Int32 → Int32 → Bool → Int32 → Int32 → Option (Int32 × Int32 × Bool × Int32 × Int32 × Bool)} (hK : ∀ (v3 : Int32) (s0_11 : Int32) (s0_12 : Bool) (s0_13 : Int32) (s0_14 : Int32) , K v3 s0_11 s0_12 s0_13 s0_14 = some out → ∀ (H : Heap) (locs : List Loc) (ls : Array Slot), KW G A s (wX10 G q s0_0 s0_1 s0_2 s0_3 s0_4 s0_5 s0_6 s0_7 s0_8 s0_9 s0_10 s0_11 s0_12 s0_13 s0_14 s0_15 s0_16 s0_17 s0_18 s0_19 s0_20 s0_21 s0_22 s0_23 s0_24 s0_25 s0_26 s0_27 s0_28 s0_29) H locs → lv_has ls 4 [(0, .ref (q 0))] → W p l e (zR 1 21) s m args below meth c H locs 0 0 (QI G A out.1 (wX10 G q s0_0 s0_1 s0_2 s0_3 s0_4 s0_5 s0_6 s0_7 s0_8 s0_9 s0_10 out.2.1 out.2.2.1 out.2.2.2.1 out.2.2.2.2.1 out.2.2.2.2.2 s0_16 s0_17 s0_18 s0_19 s0_20 s0_21 s0_22 s0_23 s0_24 s0_25 s0_26 s0_27 s0_28 s0_29) below args s) (F0 m 62 ls [])) :
    ∀ (n : Nat) (v3 : Int32) (s0_11 : Int32) (s0_12 : Bool) (s0_13 : Int32) (s0_14 : Int32) , lp_X10_valueBehind_41 v1 s0_8 K n v3 s0_11 s0_12 s0_13 s0_14 = some out → ∀ (H : Heap) (locs : List Loc) (ls : Array Slot), KW G A s (wX10 G q s0_0 s0_1 s0_2 s0_3 s0_4 s0_5 s0_6 s0_7 s0_8 s0_9 s0_10 s0_11 s0_12 s0_13 s0_14 s0_15 s0_16 s0_17 s0_18 s0_19 s0_20 s0_21 s0_22 s0_23 s0_24 s0_25 s0_26 s0_27 s0_28 s0_29) H locs → lv_has ls 4 [(0, .ref (q 0)), (1, .int v1), (3, .int v3)] → W p l e (zR 1 21) s m args below meth c H locs 0 0 (QI G A out.1 (wX10 G q s0_0 s0_1 s0_2 s0_3 s0_4 s0_5 s0_6 s0_7 s0_8 s0_9 s0_10 out.2.1 out.2.2.1 out.2.2.2.1 out.2.2.2.2.1 out.2.2.2.2.2 s0_16 s0_17 s0_18 s0_19 s0_20 s0_21 s0_22 s0_23 s0_24 s0_25 s0_26 s0_27 s0_28 s0_29) below args s) (F0 m 41 ls []) := by
  have hx := C.1
  have hb := C.2.1
  intro n
  induction n with
  | zero => intro v3 s0_11 s0_12 s0_13 s0_14 hf; exact nomatch (show (none : Option (Int32 × Int32 × Bool × Int32 × Int32 × Bool)) = some out from hf)
  | succ n ih =>
    intro v3 s0_11 s0_12 s0_13 s0_14 hf H locs ls hW hl
    rw [lp_X10_valueBehind_41] at hf
    refine lv_iload_n hx hb dX10_valueBehind_41 rfl (lv_at hl 2 rfl) ?_
    refine lv_iload_n hx hb dX10_valueBehind_42 rfl (lv_at hl 1 rfl) ?_
    refine lv_icmp_lt (tgt := 62) hx hb dX10_valueBehind_43 (by decide) (fun c3 => ?_) (fun c3 => ?_)
    · have hf := ipos c3 hf
      exact hK v3 s0_11 s0_12 s0_13 s0_14 hf _ _ _ hW (lv_sub hl [0] rfl)
    · have hf := ineg c3 hf
      refine lv_aload_n hx hb dX10_valueBehind_46 rfl (lv_at hl 0 rfl) ?_
      refine lv_aload_n hx hb dX10_valueBehind_47 rfl (lv_at hl 0 rfl) ?_
      refine zk_get C hW fgX10_13 0 rfl rfl dX10_valueBehind_48 ?_
      refine lv_iload_n hx hb dX10_valueBehind_51 rfl (lv_at hl 2 rfl) ?_
      obtain ⟨g4, hf⟩ := grd hf
      refine zk_iald C hW 2 g4 rfl dX10_valueBehind_52 ?_
      obtain ⟨u5, eu5, hf⟩ := bnd hf
      refine zk_callV (As := [.int (s0_8 (Int32.toNatClampNeg v3))]) (rest := []) (W1 := wX10 G q s0_0 s0_1 s0_2 s0_3 s0_4 s0_5 s0_6 s0_7 s0_8 s0_9 s0_10 u5.1 u5.2.1 u5.2.2.1 u5.2.2.2 s0_15 s0_16 s0_17 s0_18 s0_19 s0_20 s0_21 s0_22 s0_23 s0_24 s0_25 s0_26 s0_27 s0_28 s0_29) C hW hl mvX10_106 (c_X10_readWord l G q s0_1 s0_2 s0_3 s0_4 s0_5 s0_6 s0_7 s0_9 s0_11 s0_12 s0_13 s0_14 s0_15 s0_16 s0_18 s0_21 s0_22 s0_23 s0_24 s0_25 s0_26 s0_29 (s0_8 (Int32.toNatClampNeg v3)) u5 eu5) ⟨(Nat.le_of_ble_eq_true rfl), (Nat.le_of_ble_eq_true rfl)⟩ ⟨rfl, rfl⟩ [0] rfl rfl rfl rfl (Nat.le_of_ble_eq_true rfl) (Nat.le_of_ble_eq_true rfl) rfl dX10_valueBehind_53 ⟨Nat.zero_le _, Nat.zero_le _⟩ (fun H locs hW => ?_)
      refine lv_iinc (v := (v3 + (-1))) (lv' := [(3, .int (v3 + (-1))), (0, .ref (q 0)), (1, .int v1)]) hx hb dX10_valueBehind_56 hl (k := 2) rfl rfl (by decide) rfl (fun ls hl => ?_)
      refine lv_goto (tgt := 41) hx hb dX10_valueBehind_59 (by decide) ?_
      exact ih (v3 + (-1)) u5.1 u5.2.1 u5.2.2.1 u5.2.2.2 hf _ _ _ hW (lv_sub hl [1, 2, 0] rfl)
set_option maxHeartbeats 4000000 in
set_option maxRecDepth 100000 in
theorem w_X10_valueBehind_10 {p : Program} {e : Env} {s : State} {m : MethodId} {args : Array Value} {below : List Frame} {meth : Method} {c : Code} {A : Nat → Prop} (l : Launch) (G : GG) (q : Nat → Nat) (v1 : Int32) (s0_0 : (Nat → Int32)) (s0_1 : Int32) (s0_2 : Int32) (s0_3 : Int32) (s0_4 : Int32) (s0_5 : Int32) (s0_6 : Int32) (s0_7 : Int32) (s0_8 : (Nat → Int32)) (s0_9 : Int32) (s0_10 : (Nat → Int32)) (s0_15 : Bool) (s0_16 : Int32) (s0_17 : (Nat → Int32)) (s0_18 : Int32) (s0_19 : (Nat → Int32)) (s0_20 : (Nat → Int32)) (s0_21 : Int32) (s0_22 : Int32) (s0_23 : Int32) (s0_24 : Int32) (s0_25 : Int32) (s0_26 : Int32) (s0_27 : (Nat → Int32)) (s0_28 : (Nat → Int32)) (s0_29 : Int64) (out : Int32 × Int32 × Bool × Int32 × Int32 × Bool) (C : CX p s m args meth c cX10_valueBehind 4 RX10 (some .int) "valueBehind") {K : Int32 → Int32 → Bool → Int32 → Int32 → Option (Int32 × Int32 × Bool × Int32 × Int32 × Bool)} (hK : ∀ (v3 : Int32) (s0_11 : Int32) (s0_12 : Bool) (s0_13 : Int32) (s0_14 : Int32) , K v3 s0_11 s0_12 s0_13 s0_14 = some out → ∀ (H : Heap) (locs : List Loc) (ls : Array Slot), KW G A s (wX10 G q s0_0 s0_1 s0_2 s0_3 s0_4 s0_5 s0_6 s0_7 s0_8 s0_9 s0_10 s0_11 s0_12 s0_13 s0_14 s0_15 s0_16 s0_17 s0_18 s0_19 s0_20 s0_21 s0_22 s0_23 s0_24 s0_25 s0_26 s0_27 s0_28 s0_29) H locs → lv_has ls 4 [(0, .ref (q 0))] → W p l e (zR 1 21) s m args below meth c H locs 0 0 (QI G A out.1 (wX10 G q s0_0 s0_1 s0_2 s0_3 s0_4 s0_5 s0_6 s0_7 s0_8 s0_9 s0_10 out.2.1 out.2.2.1 out.2.2.2.1 out.2.2.2.2.1 out.2.2.2.2.2 s0_16 s0_17 s0_18 s0_19 s0_20 s0_21 s0_22 s0_23 s0_24 s0_25 s0_26 s0_27 s0_28 s0_29) below args s) (F0 m 31 ls [])) :
    ∀ (n : Nat) (v3 : Int32) (s0_11 : Int32) (s0_12 : Bool) (s0_13 : Int32) (s0_14 : Int32) , lp_X10_valueBehind_10 v1 s0_8 K n v3 s0_11 s0_12 s0_13 s0_14 = some out → ∀ (H : Heap) (locs : List Loc) (ls : Array Slot), KW G A s (wX10 G q s0_0 s0_1 s0_2 s0_3 s0_4 s0_5 s0_6 s0_7 s0_8 s0_9 s0_10 s0_11 s0_12 s0_13 s0_14 s0_15 s0_16 s0_17 s0_18 s0_19 s0_20 s0_21 s0_22 s0_23 s0_24 s0_25 s0_26 s0_27 s0_28 s0_29) H locs → lv_has ls 4 [(0, .ref (q 0)), (1, .int v1), (3, .int v3)] → W p l e (zR 1 21) s m args below meth c H locs 0 0 (QI G A out.1 (wX10 G q s0_0 s0_1 s0_2 s0_3 s0_4 s0_5 s0_6 s0_7 s0_8 s0_9 s0_10 out.2.1 out.2.2.1 out.2.2.2.1 out.2.2.2.2.1 out.2.2.2.2.2 s0_16 s0_17 s0_18 s0_19 s0_20 s0_21 s0_22 s0_23 s0_24 s0_25 s0_26 s0_27 s0_28 s0_29) below args s) (F0 m 10 ls []) := by
  have hx := C.1
  have hb := C.2.1
  intro n
  induction n with
  | zero => intro v3 s0_11 s0_12 s0_13 s0_14 hf; exact nomatch (show (none : Option (Int32 × Int32 × Bool × Int32 × Int32 × Bool)) = some out from hf)
  | succ n ih =>
    intro v3 s0_11 s0_12 s0_13 s0_14 hf H locs ls hW hl
    rw [lp_X10_valueBehind_10] at hf
    refine lv_iload_n hx hb dX10_valueBehind_10 rfl (lv_at hl 2 rfl) ?_
    refine lv_iload_n hx hb dX10_valueBehind_11 rfl (lv_at hl 1 rfl) ?_
    refine lv_icmp_gt (tgt := 31) hx hb dX10_valueBehind_12 (by decide) (fun c7 => ?_) (fun c7 => ?_)
    · have hf := ipos c7 hf
      exact hK v3 s0_11 s0_12 s0_13 s0_14 hf _ _ _ hW (lv_sub hl [0] rfl)
    · have hf := ineg c7 hf
      refine lv_aload_n hx hb dX10_valueBehind_15 rfl (lv_at hl 0 rfl) ?_
      refine lv_aload_n hx hb dX10_valueBehind_16 rfl (lv_at hl 0 rfl) ?_
      refine zk_get C hW fgX10_13 0 rfl rfl dX10_valueBehind_17 ?_
      refine lv_iload_n hx hb dX10_valueBehind_20 rfl (lv_at hl 2 rfl) ?_
      obtain ⟨g8, hf⟩ := grd hf
      refine zk_iald C hW 2 g8 rfl dX10_valueBehind_21 ?_
      obtain ⟨u9, eu9, hf⟩ := bnd hf
      refine zk_callV (As := [.int (s0_8 (Int32.toNatClampNeg v3))]) (rest := []) (W1 := wX10 G q s0_0 s0_1 s0_2 s0_3 s0_4 s0_5 s0_6 s0_7 s0_8 s0_9 s0_10 u9.1 u9.2.1 u9.2.2.1 u9.2.2.2 s0_15 s0_16 s0_17 s0_18 s0_19 s0_20 s0_21 s0_22 s0_23 s0_24 s0_25 s0_26 s0_27 s0_28 s0_29) C hW hl mvX10_106 (c_X10_readWord l G q s0_1 s0_2 s0_3 s0_4 s0_5 s0_6 s0_7 s0_9 s0_11 s0_12 s0_13 s0_14 s0_15 s0_16 s0_18 s0_21 s0_22 s0_23 s0_24 s0_25 s0_26 s0_29 (s0_8 (Int32.toNatClampNeg v3)) u9 eu9) ⟨(Nat.le_of_ble_eq_true rfl), (Nat.le_of_ble_eq_true rfl)⟩ ⟨rfl, rfl⟩ [0] rfl rfl rfl rfl (Nat.le_of_ble_eq_true rfl) (Nat.le_of_ble_eq_true rfl) rfl dX10_valueBehind_22 ⟨Nat.zero_le _, Nat.zero_le _⟩ (fun H locs hW => ?_)
      refine lv_iinc (v := (v3 + 1)) (lv' := [(3, .int (v3 + 1)), (0, .ref (q 0)), (1, .int v1)]) hx hb dX10_valueBehind_25 hl (k := 2) rfl rfl (by decide) rfl (fun ls hl => ?_)
      refine lv_goto (tgt := 10) hx hb dX10_valueBehind_28 (by decide) ?_
      exact ih (v3 + 1) u9.1 u9.2.1 u9.2.2.1 u9.2.2.2 hf _ _ _ hW (lv_sub hl [1, 2, 0] rfl)
set_option maxHeartbeats 4000000 in
set_option maxRecDepth 100000 in
theorem c_X10_valueBehind (l : Launch) (G : GG) (q : Nat → Nat) (m0 : (Nat → Int32)) (m1 : Int32) (m2 : Int32) (m3 : Int32) (m4 : Int32) (m5 : Int32) (m6 : Int32) (m7 : Int32) (m8 : (Nat → Int32)) (m9 : Int32) (m10 : (Nat → Int32)) (m11 : Int32) (m12 : Bool) (m13 : Int32) (m14 : Int32) (m15 : Bool) (m16 : Int32) (m17 : (Nat → Int32)) (m18 : Int32) (m19 : (Nat → Int32)) (m20 : (Nat → Int32)) (m21 : Int32) (m22 : Int32) (m23 : Int32) (m24 : Int32) (m25 : Int32) (m26 : Int32) (m27 : (Nat → Int32)) (m28 : (Nat → Int32)) (m29 : Int64) (a0 : Int32) (a1 : Bool) (out : Int32 × Int32 × Bool × Int32 × Int32 × Bool) (hf : f_X10_valueBehind m4 m8 a0 a1 = some out) : CtI G l yX10_valueBehind (Cond.code yX10_valueBehind cX10_valueBehind 4 (some .int) :: WL) (zR 1 21) [.ref (q 0), .int a0, .int (bI a1)] (wX10 G q m0 m1 m2 m3 m4 m5 m6 m7 m8 m9 m10 m11 m12 m13 m14 m15 m16 m17 m18 m19 m20 m21 m22 m23 m24 m25 m26 m27 m28 m29) out.1 (wX10 G q m0 m1 m2 m3 m4 m5 m6 m7 m8 m9 m10 out.2.1 out.2.2.1 out.2.2.2.1 out.2.2.2.2.1 out.2.2.2.2.2 m16 m17 m18 m19 m20 m21 m22 m23 m24 m25 m26 m27 m28 m29) := by
  refine CtI.mk (cc := cX10_valueBehind) (nL := 4) (rt := (some .int)) (own := RX10) (nm := "valueBehind") (by decide) rfl rfl (Nat.le_of_ble_eq_true rfl) ?_
  intro p e s m below meth c A ls C hW hl
  have hx := C.1
  have hb := C.2.1
  have hl : lv_has ls 4 [(0, .ref (q 0)), (1, .int a0), (2, .int (bI a1))] := hl
  unfold f_X10_valueBehind at hf
  refine lv_aload_n hx hb dX10_valueBehind_0 rfl (lv_at hl 0 rfl) ?_
  obtain ⟨u1, eu1, hf⟩ := bnd hf
  refine zk_callV (As := []) (rest := []) (W1 := wX10 G q m0 m1 m2 m3 m4 m5 m6 m7 m8 m9 m10 u1.1 u1.2.1 u1.2.2.1 u1.2.2.2.1 u1.2.2.2.2 m16 m17 m18 m19 m20 m21 m22 m23 m24 m25 m26 m27 m28 m29) C hW hl mvX10_103 (c_X10_begin l G q m1 m2 m3 m4 m5 m6 m7 m9 m11 m12 m13 m14 m15 m16 m18 m21 m22 m23 m24 m25 m26 m29 u1 eu1) ⟨(Nat.le_of_ble_eq_true rfl), (Nat.le_of_ble_eq_true rfl)⟩ ⟨rfl, rfl⟩ [0] rfl rfl rfl rfl (Nat.le_of_ble_eq_true rfl) (Nat.le_of_ble_eq_true rfl) rfl dX10_valueBehind_1 ⟨Nat.zero_le _, Nat.zero_le _⟩ (fun H locs hW => ?_)
  refine lv_iload_n hx hb dX10_valueBehind_4 rfl (lv_at hl 2 rfl) ?_
  refine lv_if_eq (tgt := 34) hx hb dX10_valueBehind_5 (by decide) (fun c2 => ?_) (fun c2 => ?_)
  · have hf := ipos c2 hf
    refine lv_aload_n hx hb dX10_valueBehind_34 rfl (lv_at hl 0 rfl) ?_
    refine zk_get C hW fgX10_69 0 rfl rfl dX10_valueBehind_35 ?_
    refine lv_iconst (v := 1) hx hb dX10_valueBehind_38 (by decide) ?_
    refine lv_isub hx hb dX10_valueBehind_39 ?_
    refine lv_istore_n (lv' := [(3, .int (m4 - 1)), (0, .ref (q 0)), (1, .int a0), (2, .int (bI a1))]) hx hb dX10_valueBehind_40 rfl hl (by decide) rfl (fun ls hl => ?_)
    refine w_X10_valueBehind_41 l G q a0 m0 m1 m2 m3 m4 m5 m6 m7 m8 m9 m10 u1.2.2.2.2 m16 m17 m18 m19 m20 m21 m22 m23 m24 m25 m26 m27 m28 m29 out C (fun w6_v3 w6_s0_11 w6_s0_12 w6_s0_13 w6_s0_14 hf H locs ls hW hl => ?_) FU (m4 - 1) u1.1 u1.2.1 u1.2.2.1 u1.2.2.2.1 hf _ _ _ hW (lv_sub hl [1, 2, 0] rfl)
    refine lv_aload_n hx hb dX10_valueBehind_62 rfl (lv_at hl 0 rfl) ?_
    refine zk_get C hW fgX10_87 0 rfl rfl dX10_valueBehind_63 ?_
    obtain rfl := Option.some.inj hf
    exact zk_iret C hW rfl dX10_valueBehind_66
  · have hf := ineg c2 hf
    refine lv_iconst (v := 0) hx hb dX10_valueBehind_8 (by decide) ?_
    refine lv_istore_n (lv' := [(3, .int 0), (0, .ref (q 0)), (1, .int a0), (2, .int (bI a1))]) hx hb dX10_valueBehind_9 rfl hl (by decide) rfl (fun ls hl => ?_)
    refine w_X10_valueBehind_10 l G q a0 m0 m1 m2 m3 m4 m5 m6 m7 m8 m9 m10 u1.2.2.2.2 m16 m17 m18 m19 m20 m21 m22 m23 m24 m25 m26 m27 m28 m29 out C (fun w10_v3 w10_s0_11 w10_s0_12 w10_s0_13 w10_s0_14 hf H locs ls hW hl => ?_) FU 0 u1.1 u1.2.1 u1.2.2.1 u1.2.2.2.1 hf _ _ _ hW (lv_sub hl [1, 2, 0] rfl)
    refine lv_goto (tgt := 62) hx hb dX10_valueBehind_31 (by decide) ?_
    refine lv_aload_n hx hb dX10_valueBehind_62 rfl (lv_at hl 0 rfl) ?_
    refine zk_get C hW fgX10_87 0 rfl rfl dX10_valueBehind_63 ?_
    obtain rfl := Option.some.inj hf
    exact zk_iret C hW rfl dX10_valueBehind_66

set_option maxHeartbeats 4000000 in
set_option maxRecDepth 100000 in
theorem c_X10_tellWord (l : Launch) (G : GG) (q : Nat → Nat) (m0 : (Nat → Int32)) (m1 : Int32) (m2 : Int32) (m3 : Int32) (m4 : Int32) (m5 : Int32) (m6 : Int32) (m7 : Int32) (m8 : (Nat → Int32)) (m9 : Int32) (m10 : (Nat → Int32)) (m11 : Int32) (m12 : Bool) (m13 : Int32) (m14 : Int32) (m15 : Bool) (m16 : Int32) (m17 : (Nat → Int32)) (m18 : Int32) (m19 : (Nat → Int32)) (m20 : (Nat → Int32)) (m21 : Int32) (m22 : Int32) (m23 : Int32) (m24 : Int32) (m25 : Int32) (m26 : Int32) (m27 : (Nat → Int32)) (m28 : (Nat → Int32)) (m29 : Int64) (a0 : Int32) (a1 : Int32) (out : Int32 × Int32 × Bool × Int32 × Int32 × Bool) (hf : f_X10_tellWord m4 m8 m11 m12 m13 m14 m15 a0 a1 = some out) : CtI G l yX10_tellWord (Cond.code yX10_tellWord cX10_tellWord 3 (some .int) :: WL) (zR 2 44) [.ref (q 0), .int a0, .int a1] (wX10 G q m0 m1 m2 m3 m4 m5 m6 m7 m8 m9 m10 m11 m12 m13 m14 m15 m16 m17 m18 m19 m20 m21 m22 m23 m24 m25 m26 m27 m28 m29) out.1 (wX10 G q m0 m1 m2 m3 m4 m5 m6 m7 m8 m9 m10 out.2.1 out.2.2.1 out.2.2.2.1 out.2.2.2.2.1 out.2.2.2.2.2 m16 m17 m18 m19 m20 m21 m22 m23 m24 m25 m26 m27 m28 m29) := by
  refine CtI.mk (cc := cX10_tellWord) (nL := 3) (rt := (some .int)) (own := RX10) (nm := "tellWord") (by decide) rfl rfl (Nat.le_of_ble_eq_true rfl) ?_
  intro p e s m below meth c A ls C hW hl
  have hx := C.1
  have hb := C.2.1
  have hl : lv_has ls 3 [(0, .ref (q 0)), (1, .int a0), (2, .int a1)] := hl
  unfold f_X10_tellWord at hf
  refine lv_iload_n hx hb dX10_tellWord_0 rfl (lv_at hl 2 rfl) ?_
  refine lv_if_ne (tgt := 13) hx hb dX10_tellWord_1 (by decide) (fun c1 => ?_) (fun c1 => ?_)
  · have hf := ineg c1 hf
    refine lv_iload_n hx hb dX10_tellWord_13 rfl (lv_at hl 2 rfl) ?_
    refine lv_iconst (v := 1) hx hb dX10_tellWord_14 (by decide) ?_
    refine lv_icmp_eq (tgt := 23) hx hb dX10_tellWord_15 (by decide) (fun c2 => ?_) (fun c2 => ?_)
    · have hf := ipos c2 hf
      refine lv_bipush (v := 100) hx hb dX10_tellWord_23 (by decide) ?_
      refine lv_aload_n hx hb dX10_tellWord_25 rfl (lv_at hl 0 rfl) ?_
      refine lv_iload_n hx hb dX10_tellWord_26 rfl (lv_at hl 1 rfl) ?_
      refine lv_iload_n hx hb dX10_tellWord_27 rfl (lv_at hl 2 rfl) ?_
      refine lv_iconst (v := 2) hx hb dX10_tellWord_28 (by decide) ?_
      refine lv_icmp_ne (tgt := 36) hx hb dX10_tellWord_29 (by decide) (fun c3 => ?_) (fun c3 => ?_)
      · have hf := ineg c3 hf
        refine lv_iconst (v := 0) hx hb dX10_tellWord_36 (by decide) ?_
        obtain ⟨u4, eu4, hf⟩ := bnd hf
        refine zk_callBI (As := [.int a0, .int (bI false)]) (rest := [.int 100]) (W1 := wX10 G q m0 m1 m2 m3 m4 m5 m6 m7 m8 m9 m10 u4.2.1 u4.2.2.1 u4.2.2.2.1 u4.2.2.2.2.1 u4.2.2.2.2.2 m16 m17 m18 m19 m20 m21 m22 m23 m24 m25 m26 m27 m28 m29) C hW hl mvX10_114 (c_X10_valueBehind l G q m0 m1 m2 m3 m4 m5 m6 m7 m8 m9 m10 m11 m12 m13 m14 m15 m16 m17 m18 m19 m20 m21 m22 m23 m24 m25 m26 m27 m28 m29 a0 false u4 eu4) ⟨(Nat.le_of_ble_eq_true rfl), (Nat.le_of_ble_eq_true rfl)⟩ ⟨rfl, rfl⟩ ([]) ([]) zE1 rfl rfl (Nat.le_of_ble_eq_true rfl) zE1r dX10_tellWord_37 ⟨Nat.zero_le _, Nat.zero_le _⟩ (fun H locs hW => ?_)
        refine lv_iadd hx hb dX10_tellWord_40 ?_
        refine lv_goto (tgt := 46) hx hb dX10_tellWord_41 (by decide) ?_
        obtain rfl := Option.some.inj hf
        exact zk_iret C hW rfl dX10_tellWord_46
      · have hf := ipos c3 hf
        refine lv_iconst (v := 1) hx hb dX10_tellWord_32 (by decide) ?_
        refine lv_goto (tgt := 37) hx hb dX10_tellWord_33 (by decide) ?_
        obtain ⟨u5, eu5, hf⟩ := bnd hf
        refine zk_callBI (As := [.int a0, .int (bI true)]) (rest := [.int 100]) (W1 := wX10 G q m0 m1 m2 m3 m4 m5 m6 m7 m8 m9 m10 u5.2.1 u5.2.2.1 u5.2.2.2.1 u5.2.2.2.2.1 u5.2.2.2.2.2 m16 m17 m18 m19 m20 m21 m22 m23 m24 m25 m26 m27 m28 m29) C hW hl mvX10_114 (c_X10_valueBehind l G q m0 m1 m2 m3 m4 m5 m6 m7 m8 m9 m10 m11 m12 m13 m14 m15 m16 m17 m18 m19 m20 m21 m22 m23 m24 m25 m26 m27 m28 m29 a0 true u5 eu5) ⟨(Nat.le_of_ble_eq_true rfl), (Nat.le_of_ble_eq_true rfl)⟩ ⟨rfl, rfl⟩ ([]) ([]) zE1 rfl rfl (Nat.le_of_ble_eq_true rfl) zE1r dX10_tellWord_37 ⟨Nat.zero_le _, Nat.zero_le _⟩ (fun H locs hW => ?_)
        refine lv_iadd hx hb dX10_tellWord_40 ?_
        refine lv_goto (tgt := 46) hx hb dX10_tellWord_41 (by decide) ?_
        obtain rfl := Option.some.inj hf
        exact zk_iret C hW rfl dX10_tellWord_46
    · have hf := ineg c2 hf
      refine lv_iload_n hx hb dX10_tellWord_18 rfl (lv_at hl 2 rfl) ?_
      refine lv_iconst (v := 2) hx hb dX10_tellWord_19 (by decide) ?_
      refine lv_icmp_ne (tgt := 44) hx hb dX10_tellWord_20 (by decide) (fun c6 => ?_) (fun c6 => ?_)
      · have hf := ineg c6 hf
        refine lv_bipush (v := (-102)) hx hb dX10_tellWord_44 (by decide) ?_
        obtain rfl := Option.some.inj hf
        exact zk_iret C hW rfl dX10_tellWord_46
      · have hf := ipos c6 hf
        refine lv_bipush (v := 100) hx hb dX10_tellWord_23 (by decide) ?_
        refine lv_aload_n hx hb dX10_tellWord_25 rfl (lv_at hl 0 rfl) ?_
        refine lv_iload_n hx hb dX10_tellWord_26 rfl (lv_at hl 1 rfl) ?_
        refine lv_iload_n hx hb dX10_tellWord_27 rfl (lv_at hl 2 rfl) ?_
        refine lv_iconst (v := 2) hx hb dX10_tellWord_28 (by decide) ?_
        refine lv_icmp_ne (tgt := 36) hx hb dX10_tellWord_29 (by decide) (fun c7 => ?_) (fun c7 => ?_)
        · have hf := ineg c7 hf
          refine lv_iconst (v := 0) hx hb dX10_tellWord_36 (by decide) ?_
          obtain ⟨u8, eu8, hf⟩ := bnd hf
          refine zk_callBI (As := [.int a0, .int (bI false)]) (rest := [.int 100]) (W1 := wX10 G q m0 m1 m2 m3 m4 m5 m6 m7 m8 m9 m10 u8.2.1 u8.2.2.1 u8.2.2.2.1 u8.2.2.2.2.1 u8.2.2.2.2.2 m16 m17 m18 m19 m20 m21 m22 m23 m24 m25 m26 m27 m28 m29) C hW hl mvX10_114 (c_X10_valueBehind l G q m0 m1 m2 m3 m4 m5 m6 m7 m8 m9 m10 m11 m12 m13 m14 m15 m16 m17 m18 m19 m20 m21 m22 m23 m24 m25 m26 m27 m28 m29 a0 false u8 eu8) ⟨(Nat.le_of_ble_eq_true rfl), (Nat.le_of_ble_eq_true rfl)⟩ ⟨rfl, rfl⟩ ([]) ([]) zE1 rfl rfl (Nat.le_of_ble_eq_true rfl) zE1r dX10_tellWord_37 ⟨Nat.zero_le _, Nat.zero_le _⟩ (fun H locs hW => ?_)
          refine lv_iadd hx hb dX10_tellWord_40 ?_
          refine lv_goto (tgt := 46) hx hb dX10_tellWord_41 (by decide) ?_
          obtain rfl := Option.some.inj hf
          exact zk_iret C hW rfl dX10_tellWord_46
        · have hf := ipos c7 hf
          refine lv_iconst (v := 1) hx hb dX10_tellWord_32 (by decide) ?_
          refine lv_goto (tgt := 37) hx hb dX10_tellWord_33 (by decide) ?_
          obtain ⟨u9, eu9, hf⟩ := bnd hf
          refine zk_callBI (As := [.int a0, .int (bI true)]) (rest := [.int 100]) (W1 := wX10 G q m0 m1 m2 m3 m4 m5 m6 m7 m8 m9 m10 u9.2.1 u9.2.2.1 u9.2.2.2.1 u9.2.2.2.2.1 u9.2.2.2.2.2 m16 m17 m18 m19 m20 m21 m22 m23 m24 m25 m26 m27 m28 m29) C hW hl mvX10_114 (c_X10_valueBehind l G q m0 m1 m2 m3 m4 m5 m6 m7 m8 m9 m10 m11 m12 m13 m14 m15 m16 m17 m18 m19 m20 m21 m22 m23 m24 m25 m26 m27 m28 m29 a0 true u9 eu9) ⟨(Nat.le_of_ble_eq_true rfl), (Nat.le_of_ble_eq_true rfl)⟩ ⟨rfl, rfl⟩ ([]) ([]) zE1 rfl rfl (Nat.le_of_ble_eq_true rfl) zE1r dX10_tellWord_37 ⟨Nat.zero_le _, Nat.zero_le _⟩ (fun H locs hW => ?_)
          refine lv_iadd hx hb dX10_tellWord_40 ?_
          refine lv_goto (tgt := 46) hx hb dX10_tellWord_41 (by decide) ?_
          obtain rfl := Option.some.inj hf
          exact zk_iret C hW rfl dX10_tellWord_46
  · have hf := ipos c1 hf
    refine lv_aload_n hx hb dX10_tellWord_4 rfl (lv_at hl 0 rfl) ?_
    refine zk_get C hW fgX10_13 0 rfl rfl dX10_tellWord_5 ?_
    refine lv_iload_n hx hb dX10_tellWord_8 rfl (lv_at hl 1 rfl) ?_
    obtain ⟨g10, hf⟩ := grd hf
    refine zk_iald C hW 2 g10 rfl dX10_tellWord_9 ?_
    refine lv_goto (tgt := 46) hx hb dX10_tellWord_10 (by decide) ?_
    obtain rfl := Option.some.inj hf
    exact zk_iret C hW rfl dX10_tellWord_46

set_option maxHeartbeats 4000000 in
set_option maxRecDepth 100000 in
theorem c_X10_word (l : Launch) (G : GG) (q : Nat → Nat) (m0 : (Nat → Int32)) (m1 : Int32) (m2 : Int32) (m3 : Int32) (m4 : Int32) (m5 : Int32) (m6 : Int32) (m7 : Int32) (m8 : (Nat → Int32)) (m9 : Int32) (m10 : (Nat → Int32)) (m11 : Int32) (m12 : Bool) (m13 : Int32) (m14 : Int32) (m15 : Bool) (m16 : Int32) (m17 : (Nat → Int32)) (m18 : Int32) (m19 : (Nat → Int32)) (m20 : (Nat → Int32)) (m21 : Int32) (m22 : Int32) (m23 : Int32) (m24 : Int32) (m25 : Int32) (m26 : Int32) (m27 : (Nat → Int32)) (m28 : (Nat → Int32)) (m29 : Int64) (a0 : Int32) (a1 : Int32) (out : Int32 × Int32 × Bool × Int32 × Int32 × Bool) (hf : f_X10_word m4 m8 m11 m12 m13 m14 m15 a0 a1 = some out) : CtI G l yX10_word (Cond.code yX10_word cX10_word 3 (some .int) :: WL) (zR 3 66) [.ref (q 0), .int a0, .int a1] (wX10 G q m0 m1 m2 m3 m4 m5 m6 m7 m8 m9 m10 m11 m12 m13 m14 m15 m16 m17 m18 m19 m20 m21 m22 m23 m24 m25 m26 m27 m28 m29) out.1 (wX10 G q m0 m1 m2 m3 m4 m5 m6 m7 m8 m9 m10 out.2.1 out.2.2.1 out.2.2.2.1 out.2.2.2.2.1 out.2.2.2.2.2 m16 m17 m18 m19 m20 m21 m22 m23 m24 m25 m26 m27 m28 m29) := by
  refine CtI.mk (cc := cX10_word) (nL := 3) (rt := (some .int)) (own := RX10) (nm := "word") (by decide) rfl rfl (Nat.le_of_ble_eq_true rfl) ?_
  intro p e s m below meth c A ls C hW hl
  have hx := C.1
  have hb := C.2.1
  have hl : lv_has ls 3 [(0, .ref (q 0)), (1, .int a0), (2, .int a1)] := hl
  unfold f_X10_word at hf
  refine lv_aload_n hx hb dX10_word_0 rfl (lv_at hl 0 rfl) ?_
  refine lv_iload_n hx hb dX10_word_1 rfl (lv_at hl 1 rfl) ?_
  obtain ⟨u1, eu1, hf⟩ := bnd hf
  refine zk_callBI (As := [.int a0]) (rest := []) (W1 := wX10 G q m0 m1 m2 m3 m4 m5 m6 m7 m8 m9 m10 m11 m12 m13 m14 m15 m16 m17 m18 m19 m20 m21 m22 m23 m24 m25 m26 m27 m28 m29) C hW hl mvX10_118 (c_X10_isWord l G q m0 m1 m2 m3 m4 m5 m6 m7 m8 m9 m10 m11 m12 m13 m14 m15 m16 m17 m18 m19 m20 m21 m22 m23 m24 m25 m26 m27 m28 m29 a0 u1 eu1) ⟨(Nat.le_of_ble_eq_true rfl), (Nat.le_of_ble_eq_true rfl)⟩ ⟨rfl, rfl⟩ ([]) ([]) zE1 rfl rfl (Nat.le_of_ble_eq_true rfl) zE1r dX10_word_2 ⟨Nat.zero_le _, Nat.zero_le _⟩ (fun H locs hW => ?_)
  refine lv_if_eq (tgt := 17) hx hb dX10_word_5 (by decide) (fun c2 => ?_) (fun c2 => ?_)
  · have hf := ipos c2 hf
    refine lv_bipush (v := (-101)) hx hb dX10_word_17 (by decide) ?_
    obtain rfl := Option.some.inj hf
    exact zk_iret C hW rfl dX10_word_19
  · have hf := ineg c2 hf
    refine lv_aload_n hx hb dX10_word_8 rfl (lv_at hl 0 rfl) ?_
    refine lv_iload_n hx hb dX10_word_9 rfl (lv_at hl 1 rfl) ?_
    refine lv_iload_n hx hb dX10_word_10 rfl (lv_at hl 2 rfl) ?_
    obtain ⟨u3, eu3, hf⟩ := bnd hf
    refine zk_callBI (As := [.int a0, .int a1]) (rest := []) (W1 := wX10 G q m0 m1 m2 m3 m4 m5 m6 m7 m8 m9 m10 u3.2.1 u3.2.2.1 u3.2.2.2.1 u3.2.2.2.2.1 u3.2.2.2.2.2 m16 m17 m18 m19 m20 m21 m22 m23 m24 m25 m26 m27 m28 m29) C hW hl mvX10_121 (c_X10_tellWord l G q m0 m1 m2 m3 m4 m5 m6 m7 m8 m9 m10 m11 m12 m13 m14 m15 m16 m17 m18 m19 m20 m21 m22 m23 m24 m25 m26 m27 m28 m29 a0 a1 u3 eu3) ⟨(Nat.le_of_ble_eq_true rfl), (Nat.le_of_ble_eq_true rfl)⟩ ⟨rfl, rfl⟩ ([]) ([]) zE1 rfl rfl (Nat.le_of_ble_eq_true rfl) zE1r dX10_word_11 ⟨Nat.zero_le _, Nat.zero_le _⟩ (fun H locs hW => ?_)
    refine lv_goto (tgt := 19) hx hb dX10_word_14 (by decide) ?_
    obtain rfl := Option.some.inj hf
    exact zk_iret C hW rfl dX10_word_19

set_option maxHeartbeats 4000000 in
set_option maxRecDepth 100000 in
theorem c_X10_change (l : Launch) (G : GG) (q : Nat → Nat) (m0 : (Nat → Int32)) (m1 : Int32) (m2 : Int32) (m3 : Int32) (m4 : Int32) (m5 : Int32) (m6 : Int32) (m7 : Int32) (m8 : (Nat → Int32)) (m9 : Int32) (m10 : (Nat → Int32)) (m11 : Int32) (m12 : Bool) (m13 : Int32) (m14 : Int32) (m15 : Bool) (m16 : Int32) (m17 : (Nat → Int32)) (m18 : Int32) (m19 : (Nat → Int32)) (m20 : (Nat → Int32)) (m21 : Int32) (m22 : Int32) (m23 : Int32) (m24 : Int32) (m25 : Int32) (m26 : Int32) (m27 : (Nat → Int32)) (m28 : (Nat → Int32)) (m29 : Int64) (a0 : Int32) (a1 : Int32) (out : Int32 × Int32 × (Nat → Int32)) (hf : f_X10_change m4 m6 m8 a0 a1 = some out) : CtI G l yX10_change (Cond.code yX10_change cX10_change 4 (some .int) :: WL) (zR 2 46) [.ref (q 0), .int a0, .int a1] (wX10 G q m0 m1 m2 m3 m4 m5 m6 m7 m8 m9 m10 m11 m12 m13 m14 m15 m16 m17 m18 m19 m20 m21 m22 m23 m24 m25 m26 m27 m28 m29) out.1 (wX10 G q m0 m1 m2 m3 m4 m5 out.2.1 m7 out.2.2 m9 m10 m11 m12 m13 m14 m15 m16 m17 m18 m19 m20 m21 m22 m23 m24 m25 m26 m27 m28 m29) := by
  refine CtI.mk (cc := cX10_change) (nL := 4) (rt := (some .int)) (own := RX10) (nm := "change") (by decide) rfl rfl (Nat.le_of_ble_eq_true rfl) ?_
  intro p e s m below meth c A ls C hW hl
  have hx := C.1
  have hb := C.2.1
  have hl : lv_has ls 4 [(0, .ref (q 0)), (1, .int a0), (2, .int a1)] := hl
  unfold f_X10_change at hf
  refine lv_aload_n hx hb dX10_change_0 rfl (lv_at hl 0 rfl) ?_
  refine lv_iload_n hx hb dX10_change_1 rfl (lv_at hl 1 rfl) ?_
  obtain ⟨u1, eu1, hf⟩ := bnd hf
  refine zk_callBI (As := [.int a0]) (rest := []) (W1 := wX10 G q m0 m1 m2 m3 m4 m5 m6 m7 m8 m9 m10 m11 m12 m13 m14 m15 m16 m17 m18 m19 m20 m21 m22 m23 m24 m25 m26 m27 m28 m29) C hW hl mvX10_118 (c_X10_isWord l G q m0 m1 m2 m3 m4 m5 m6 m7 m8 m9 m10 m11 m12 m13 m14 m15 m16 m17 m18 m19 m20 m21 m22 m23 m24 m25 m26 m27 m28 m29 a0 u1 eu1) ⟨(Nat.le_of_ble_eq_true rfl), (Nat.le_of_ble_eq_true rfl)⟩ ⟨rfl, rfl⟩ ([]) ([]) zE1 rfl rfl (Nat.le_of_ble_eq_true rfl) zE1r dX10_change_2 ⟨Nat.zero_le _, Nat.zero_le _⟩ (fun H locs hW => ?_)
  refine lv_if_ne (tgt := 11) hx hb dX10_change_5 (by decide) (fun c2 => ?_) (fun c2 => ?_)
  · have hf := ineg c2 hf
    refine lv_iload_n hx hb dX10_change_11 rfl (lv_at hl 2 rfl) ?_
    refine lv_i2l (v := (Int32.toInt64 a1)) hx hb dX10_change_12 rfl ?_
    refine lv_lconst (v := 0) hx hb dX10_change_13 (by decide) ?_
    refine lv_ldc2 hx hb C.2.2.2.1 (C.2.2.2.2.1 _ klX10_125) dX10_change_14 ?_
    obtain ⟨u3, eu3, hf⟩ := bnd hf
    refine zk_callSI (As := [.long (Int32.toInt64 a1), .long 0, .long 5]) (rest := []) (W1 := wX10 G q m0 m1 m2 m3 m4 m5 m6 m7 m8 m9 m10 m11 m12 m13 m14 m15 m16 m17 m18 m19 m20 m21 m22 m23 m24 m25 m26 m27 m28 m29) C hW hl msX10_40 (c_X10_in l G (Int32.toInt64 a1) 0 5 u3 eu3) ⟨(Nat.le_of_ble_eq_true rfl), (Nat.le_of_ble_eq_true rfl)⟩ ⟨rfl, rfl⟩ [] rfl rfl rfl (Nat.le_of_ble_eq_true rfl) (Nat.le_of_ble_eq_true rfl) rfl dX10_change_17 ⟨Nat.zero_le _, Nat.zero_le _⟩ (fun H locs hW => ?_)
    refine lv_if_ne (tgt := 26) hx hb dX10_change_20 (by decide) (fun c4 => ?_) (fun c4 => ?_)
    · have hf := ineg c4 hf
      refine lv_aload_n hx hb dX10_change_26 rfl (lv_at hl 0 rfl) ?_
      refine zk_get C hW fgX10_13 0 rfl rfl dX10_change_27 ?_
      refine lv_iload_n hx hb dX10_change_30 rfl (lv_at hl 1 rfl) ?_
      obtain ⟨g5, hf⟩ := grd hf
      refine zk_iald C hW 2 g5 rfl dX10_change_31 ?_
      refine lv_istore_n (lv' := [(3, .int (m8 (Int32.toNatClampNeg a0))), (0, .ref (q 0)), (1, .int a0), (2, .int a1)]) hx hb dX10_change_32 rfl hl (by decide) rfl (fun ls hl => ?_)
      refine lv_aload_n hx hb dX10_change_33 rfl (lv_at hl 1 rfl) ?_
      refine zk_get C hW fgX10_13 0 rfl rfl dX10_change_34 ?_
      refine lv_iload_n hx hb dX10_change_37 rfl (lv_at hl 2 rfl) ?_
      refine lv_iload_n hx hb dX10_change_38 rfl (lv_at hl 3 rfl) ?_
      obtain ⟨g7, hf⟩ := grd hf
      obtain ⟨z6, ez6, hf⟩ := bnd hf
      refine zk_iast (W1 := wX10 G q m0 m1 m2 m3 m4 m5 m6 m7 z6 m9 m10 m11 m12 m13 m14 m15 m16 m17 m18 m19 m20 m21 m22 m23 m24 m25 m26 m27 m28 m29) C hW 2 g7 (Option.some.inj ez6) rfl rfl dX10_change_39 (fun H locs hW => ?_)
      refine lv_aload_n hx hb dX10_change_40 rfl (lv_at hl 1 rfl) ?_
      refine lv_dup hx hb dX10_change_41 rfl ?_
      refine zk_get C hW fgX10_75 0 rfl rfl dX10_change_42 ?_
      refine lv_iconst (v := 1) hx hb dX10_change_45 (by decide) ?_
      refine lv_iadd hx hb dX10_change_46 ?_
      obtain ⟨z8, ez8, hf⟩ := bnd hf
      refine zk_putI (W1 := wX10 G q m0 m1 m2 m3 m4 m5 z8 m7 z6 m9 m10 m11 m12 m13 m14 m15 m16 m17 m18 m19 m20 m21 m22 m23 m24 m25 m26 m27 m28 m29) C hW fpX10_75 0 (Option.some.inj ez8) rfl (Nat.le_of_ble_eq_true rfl) rfl dX10_change_47 (fun H locs hW => ?_)
      refine lv_iload_n hx hb dX10_change_50 rfl (lv_at hl 0 rfl) ?_
      obtain rfl := Option.some.inj hf
      exact zk_iret C hW rfl dX10_change_51
    · have hf := ipos c4 hf
      refine lv_bipush (v := (-102)) hx hb dX10_change_23 (by decide) ?_
      obtain rfl := Option.some.inj hf
      exact zk_iret C hW rfl dX10_change_25
  · have hf := ipos c2 hf
    refine lv_bipush (v := (-101)) hx hb dX10_change_8 (by decide) ?_
    obtain rfl := Option.some.inj hf
    exact zk_iret C hW rfl dX10_change_10

set_option maxHeartbeats 4000000 in
set_option maxRecDepth 100000 in
theorem c_X10_snow (l : Launch) (G : GG) (q : Nat → Nat) (m0 : (Nat → Int32)) (m1 : Int32) (m2 : Int32) (m3 : Int32) (m4 : Int32) (m5 : Int32) (m6 : Int32) (m7 : Int32) (m8 : (Nat → Int32)) (m9 : Int32) (m10 : (Nat → Int32)) (m11 : Int32) (m12 : Bool) (m13 : Int32) (m14 : Int32) (m15 : Bool) (m16 : Int32) (m17 : (Nat → Int32)) (m18 : Int32) (m19 : (Nat → Int32)) (m20 : (Nat → Int32)) (m21 : Int32) (m22 : Int32) (m23 : Int32) (m24 : Int32) (m25 : Int32) (m26 : Int32) (m27 : (Nat → Int32)) (m28 : (Nat → Int32)) (m29 : Int64) (a0 : Int32) (out : Int32 × Int32) (hf : f_X10_snow m4 m5 a0 = some out) : CtI G l yX10_snow (Cond.code yX10_snow cX10_snow 3 (some .int) :: WL) (zR 1 25) [.ref (q 0), .int a0] (wX10 G q m0 m1 m2 m3 m4 m5 m6 m7 m8 m9 m10 m11 m12 m13 m14 m15 m16 m17 m18 m19 m20 m21 m22 m23 m24 m25 m26 m27 m28 m29) out.1 (wX10 G q m0 m1 m2 m3 m4 out.2 m6 m7 m8 m9 m10 m11 m12 m13 m14 m15 m16 m17 m18 m19 m20 m21 m22 m23 m24 m25 m26 m27 m28 m29) := by
  refine CtI.mk (cc := cX10_snow) (nL := 3) (rt := (some .int)) (own := RX10) (nm := "snow") (by decide) rfl rfl (Nat.le_of_ble_eq_true rfl) ?_
  intro p e s m below meth c A ls C hW hl
  have hx := C.1
  have hb := C.2.1
  have hl : lv_has ls 3 [(0, .ref (q 0)), (1, .int a0)] := hl
  unfold f_X10_snow at hf
  refine lv_iload_n hx hb dX10_snow_0 rfl (lv_at hl 1 rfl) ?_
  refine lv_i2l (v := (Int32.toInt64 a0)) hx hb dX10_snow_1 rfl ?_
  refine lv_lconst (v := 1) hx hb dX10_snow_2 (by decide) ?_
  refine lv_ldc2 hx hb C.2.2.2.1 (C.2.2.2.2.1 _ klX10_127) dX10_snow_3 ?_
  obtain ⟨u1, eu1, hf⟩ := bnd hf
  refine zk_callSI (As := [.long (Int32.toInt64 a0), .long 1, .long 9]) (rest := []) (W1 := wX10 G q m0 m1 m2 m3 m4 m5 m6 m7 m8 m9 m10 m11 m12 m13 m14 m15 m16 m17 m18 m19 m20 m21 m22 m23 m24 m25 m26 m27 m28 m29) C hW hl msX10_40 (c_X10_in l G (Int32.toInt64 a0) 1 9 u1 eu1) ⟨(Nat.le_of_ble_eq_true rfl), (Nat.le_of_ble_eq_true rfl)⟩ ⟨rfl, rfl⟩ [] rfl rfl rfl (Nat.le_of_ble_eq_true rfl) (Nat.le_of_ble_eq_true rfl) rfl dX10_snow_6 ⟨Nat.zero_le _, Nat.zero_le _⟩ (fun H locs hW => ?_)
  refine lv_if_ne (tgt := 15) hx hb dX10_snow_9 (by decide) (fun c2 => ?_) (fun c2 => ?_)
  · have hf := ineg c2 hf
    refine lv_aload_n hx hb dX10_snow_15 rfl (lv_at hl 0 rfl) ?_
    refine zk_get C hW fgX10_69 0 rfl rfl dX10_snow_16 ?_
    refine lv_if_ne (tgt := 25) hx hb dX10_snow_19 (by decide) (fun c3 => ?_) (fun c3 => ?_)
    · have hf := ineg c3 hf
      refine lv_aload_n hx hb dX10_snow_25 rfl (lv_at hl 0 rfl) ?_
      refine zk_get C hW fgX10_72 0 rfl rfl dX10_snow_26 ?_
      refine lv_istore_n (lv' := [(2, .int m5), (0, .ref (q 0)), (1, .int a0)]) hx hb dX10_snow_29 rfl hl (by decide) rfl (fun ls hl => ?_)
      refine lv_aload_n hx hb dX10_snow_30 rfl (lv_at hl 1 rfl) ?_
      refine lv_iload_n hx hb dX10_snow_31 rfl (lv_at hl 2 rfl) ?_
      refine zk_putI (W1 := wX10 G q m0 m1 m2 m3 m4 a0 m6 m7 m8 m9 m10 m11 m12 m13 m14 m15 m16 m17 m18 m19 m20 m21 m22 m23 m24 m25 m26 m27 m28 m29) C hW fpX10_72 0 rfl rfl (Nat.le_of_ble_eq_true rfl) rfl dX10_snow_32 (fun H locs hW => ?_)
      refine lv_iload_n hx hb dX10_snow_35 rfl (lv_at hl 0 rfl) ?_
      obtain rfl := Option.some.inj hf
      exact zk_iret C hW rfl dX10_snow_36
    · have hf := ipos c3 hf
      refine lv_bipush (v := (-103)) hx hb dX10_snow_22 (by decide) ?_
      obtain rfl := Option.some.inj hf
      exact zk_iret C hW rfl dX10_snow_24
  · have hf := ipos c2 hf
    refine lv_bipush (v := (-102)) hx hb dX10_snow_12 (by decide) ?_
    obtain rfl := Option.some.inj hf
    exact zk_iret C hW rfl dX10_snow_14

set_option maxHeartbeats 4000000 in
set_option maxRecDepth 100000 in
theorem c_X10_listener (l : Launch) (G : GG) (q : Nat → Nat) (m0 : (Nat → Int32)) (m1 : Int32) (m2 : Int32) (m3 : Int32) (m4 : Int32) (m5 : Int32) (m6 : Int32) (m7 : Int32) (m8 : (Nat → Int32)) (m9 : Int32) (m10 : (Nat → Int32)) (m11 : Int32) (m12 : Bool) (m13 : Int32) (m14 : Int32) (m15 : Bool) (m16 : Int32) (m17 : (Nat → Int32)) (m18 : Int32) (m19 : (Nat → Int32)) (m20 : (Nat → Int32)) (m21 : Int32) (m22 : Int32) (m23 : Int32) (m24 : Int32) (m25 : Int32) (m26 : Int32) (m27 : (Nat → Int32)) (m28 : (Nat → Int32)) (m29 : Int64) (a0 : Int32) (out : Int32 × Int32 × (Nat → Int32)) (hf : f_X10_listener m4 m9 m10 a0 = some out) : CtI G l yX10_listener (Cond.code yX10_listener cX10_listener 2 (some .int) :: WL) (zR 1 25) [.ref (q 0), .int a0] (wX10 G q m0 m1 m2 m3 m4 m5 m6 m7 m8 m9 m10 m11 m12 m13 m14 m15 m16 m17 m18 m19 m20 m21 m22 m23 m24 m25 m26 m27 m28 m29) out.1 (wX10 G q m0 m1 m2 m3 m4 m5 m6 m7 m8 out.2.1 out.2.2 m11 m12 m13 m14 m15 m16 m17 m18 m19 m20 m21 m22 m23 m24 m25 m26 m27 m28 m29) := by
  refine CtI.mk (cc := cX10_listener) (nL := 2) (rt := (some .int)) (own := RX10) (nm := "listener") (by decide) rfl rfl (Nat.le_of_ble_eq_true rfl) ?_
  intro p e s m below meth c A ls C hW hl
  have hx := C.1
  have hb := C.2.1
  have hl : lv_has ls 2 [(0, .ref (q 0)), (1, .int a0)] := hl
  unfold f_X10_listener at hf
  refine lv_iload_n hx hb dX10_listener_0 rfl (lv_at hl 1 rfl) ?_
  refine lv_i2l (v := (Int32.toInt64 a0)) hx hb dX10_listener_1 rfl ?_
  refine lv_lconst (v := 0) hx hb dX10_listener_2 (by decide) ?_
  refine lv_ldc2 hx hb C.2.2.2.1 (C.2.2.2.2.1 _ klX10_129) dX10_listener_3 ?_
  obtain ⟨u1, eu1, hf⟩ := bnd hf
  refine zk_callSI (As := [.long (Int32.toInt64 a0), .long 0, .long 4]) (rest := []) (W1 := wX10 G q m0 m1 m2 m3 m4 m5 m6 m7 m8 m9 m10 m11 m12 m13 m14 m15 m16 m17 m18 m19 m20 m21 m22 m23 m24 m25 m26 m27 m28 m29) C hW hl msX10_40 (c_X10_in l G (Int32.toInt64 a0) 0 4 u1 eu1) ⟨(Nat.le_of_ble_eq_true rfl), (Nat.le_of_ble_eq_true rfl)⟩ ⟨rfl, rfl⟩ [] rfl rfl rfl (Nat.le_of_ble_eq_true rfl) (Nat.le_of_ble_eq_true rfl) rfl dX10_listener_6 ⟨Nat.zero_le _, Nat.zero_le _⟩ (fun H locs hW => ?_)
  refine lv_if_ne (tgt := 15) hx hb dX10_listener_9 (by decide) (fun c2 => ?_) (fun c2 => ?_)
  · have hf := ineg c2 hf
    refine lv_aload_n hx hb dX10_listener_15 rfl (lv_at hl 0 rfl) ?_
    refine zk_get C hW fgX10_69 0 rfl rfl dX10_listener_16 ?_
    refine lv_if_ne (tgt := 25) hx hb dX10_listener_19 (by decide) (fun c3 => ?_) (fun c3 => ?_)
    · have hf := ineg c3 hf
      refine lv_aload_n hx hb dX10_listener_25 rfl (lv_at hl 0 rfl) ?_
      refine zk_get C hW fgX10_78 0 rfl rfl dX10_listener_26 ?_
      refine lv_iconst (v := 4) hx hb dX10_listener_29 (by decide) ?_
      refine lv_icmp_ne (tgt := 36) hx hb dX10_listener_30 (by decide) (fun c4 => ?_) (fun c4 => ?_)
      · have hf := ineg c4 hf
        refine lv_aload_n hx hb dX10_listener_36 rfl (lv_at hl 0 rfl) ?_
        refine zk_get C hW fgX10_16 0 rfl rfl dX10_listener_37 ?_
        refine lv_aload_n hx hb dX10_listener_40 rfl (lv_at hl 0 rfl) ?_
        refine zk_get C hW fgX10_78 0 rfl rfl dX10_listener_41 ?_
        refine lv_iload_n hx hb dX10_listener_44 rfl (lv_at hl 1 rfl) ?_
        obtain ⟨g6, hf⟩ := grd hf
        obtain ⟨z5, ez5, hf⟩ := bnd hf
        refine zk_iast (W1 := wX10 G q m0 m1 m2 m3 m4 m5 m6 m7 m8 m9 z5 m11 m12 m13 m14 m15 m16 m17 m18 m19 m20 m21 m22 m23 m24 m25 m26 m27 m28 m29) C hW 3 g6 (Option.some.inj ez5) rfl rfl dX10_listener_45 (fun H locs hW => ?_)
        refine lv_aload_n hx hb dX10_listener_46 rfl (lv_at hl 0 rfl) ?_
        refine lv_dup hx hb dX10_listener_47 rfl ?_
        refine zk_get C hW fgX10_78 0 rfl rfl dX10_listener_48 ?_
        refine lv_iconst (v := 1) hx hb dX10_listener_51 (by decide) ?_
        refine lv_iadd hx hb dX10_listener_52 ?_
        obtain ⟨z7, ez7, hf⟩ := bnd hf
        refine zk_putI (W1 := wX10 G q m0 m1 m2 m3 m4 m5 m6 m7 m8 z7 z5 m11 m12 m13 m14 m15 m16 m17 m18 m19 m20 m21 m22 m23 m24 m25 m26 m27 m28 m29) C hW fpX10_78 0 (Option.some.inj ez7) rfl (Nat.le_of_ble_eq_true rfl) rfl dX10_listener_53 (fun H locs hW => ?_)
        refine lv_aload_n hx hb dX10_listener_56 rfl (lv_at hl 0 rfl) ?_
        refine zk_get C hW fgX10_78 0 rfl rfl dX10_listener_57 ?_
        refine lv_iconst (v := 1) hx hb dX10_listener_60 (by decide) ?_
        refine lv_isub hx hb dX10_listener_61 ?_
        obtain rfl := Option.some.inj hf
        exact zk_iret C hW rfl dX10_listener_62
      · have hf := ipos c4 hf
        refine lv_bipush (v := (-104)) hx hb dX10_listener_33 (by decide) ?_
        obtain rfl := Option.some.inj hf
        exact zk_iret C hW rfl dX10_listener_35
    · have hf := ipos c3 hf
      refine lv_bipush (v := (-103)) hx hb dX10_listener_22 (by decide) ?_
      obtain rfl := Option.some.inj hf
      exact zk_iret C hW rfl dX10_listener_24
  · have hf := ipos c2 hf
    refine lv_bipush (v := (-102)) hx hb dX10_listener_12 (by decide) ?_
    obtain rfl := Option.some.inj hf
    exact zk_iret C hW rfl dX10_listener_14
