set_option maxHeartbeats 4000000 in
set_option maxRecDepth 100000 in
theorem c_X9_isWord (l : Launch) (G : GG) (a0 : Int32) (out : Bool) (hf : f_X9_isWord a0 = some out) : CtI G l yX9_isWord (Cond.code yX9_isWord cX9_isWord 1 (some .boolean) :: WL) (zR 0 0) [.int a0] ([]) (bI out) ([]) := by
  refine CtI.mk (cc := cX9_isWord) (nL := 1) (rt := (some .boolean)) (own := RX9) (nm := "isWord") (by decide) rfl rfl (Nat.le_of_ble_eq_true rfl) ?_
  intro p e s m below meth c A ls C hW hl
  have hx := C.1
  have hb := C.2.1
  have hl : lv_has ls 1 [(0, .int a0)] := hl
  unfold f_X9_isWord at hf
  refine lv_iload_n hx hb dX9_isWord_0 rfl (lv_at hl 0 rfl) ?_
  refine lv_if_lt (tgt := 14) hx hb dX9_isWord_1 (by decide) (fun c1 => ?_) (fun c1 => ?_)
  · have hf := ipos c1 hf
    refine lv_iconst (v := 0) hx hb dX9_isWord_14 (by decide) ?_
    obtain rfl := Option.some.inj hf
    exact zk_zret false C hW rfl dX9_isWord_15
  · have hf := ineg c1 hf
    refine lv_iload_n hx hb dX9_isWord_4 rfl (lv_at hl 0 rfl) ?_
    refine lv_bipush (v := 6) hx hb dX9_isWord_5 (by decide) ?_
    refine lv_icmp_ge (tgt := 14) hx hb dX9_isWord_7 (by decide) (fun c2 => ?_) (fun c2 => ?_)
    · have hf := ipos c2 hf
      refine lv_iconst (v := 0) hx hb dX9_isWord_14 (by decide) ?_
      obtain rfl := Option.some.inj hf
      exact zk_zret false C hW rfl dX9_isWord_15
    · have hf := ineg c2 hf
      refine lv_iconst (v := 1) hx hb dX9_isWord_10 (by decide) ?_
      refine lv_goto (tgt := 15) hx hb dX9_isWord_11 (by decide) ?_
      obtain rfl := Option.some.inj hf
      exact zk_zret true C hW rfl dX9_isWord_15

set_option maxHeartbeats 4000000 in
set_option maxRecDepth 100000 in
theorem c_X9_isKind (l : Launch) (G : GG) (a0 : Int32) (out : Bool) (hf : f_X9_isKind a0 = some out) : CtI G l yX9_isKind (Cond.code yX9_isKind cX9_isKind 1 (some .boolean) :: WL) (zR 0 0) [.int a0] ([]) (bI out) ([]) := by
  refine CtI.mk (cc := cX9_isKind) (nL := 1) (rt := (some .boolean)) (own := RX9) (nm := "isKind") (by decide) rfl rfl (Nat.le_of_ble_eq_true rfl) ?_
  intro p e s m below meth c A ls C hW hl
  have hx := C.1
  have hb := C.2.1
  have hl : lv_has ls 1 [(0, .int a0)] := hl
  unfold f_X9_isKind at hf
  refine lv_iload_n hx hb dX9_isKind_0 rfl (lv_at hl 0 rfl) ?_
  refine lv_if_lt (tgt := 13) hx hb dX9_isKind_1 (by decide) (fun c1 => ?_) (fun c1 => ?_)
  · have hf := ipos c1 hf
    refine lv_iconst (v := 0) hx hb dX9_isKind_13 (by decide) ?_
    obtain rfl := Option.some.inj hf
    exact zk_zret false C hW rfl dX9_isKind_14
  · have hf := ineg c1 hf
    refine lv_iload_n hx hb dX9_isKind_4 rfl (lv_at hl 0 rfl) ?_
    refine lv_iconst (v := 5) hx hb dX9_isKind_5 (by decide) ?_
    refine lv_icmp_ge (tgt := 13) hx hb dX9_isKind_6 (by decide) (fun c2 => ?_) (fun c2 => ?_)
    · have hf := ipos c2 hf
      refine lv_iconst (v := 0) hx hb dX9_isKind_13 (by decide) ?_
      obtain rfl := Option.some.inj hf
      exact zk_zret false C hW rfl dX9_isKind_14
    · have hf := ineg c2 hf
      refine lv_iconst (v := 1) hx hb dX9_isKind_9 (by decide) ?_
      refine lv_goto (tgt := 14) hx hb dX9_isKind_10 (by decide) ?_
      obtain rfl := Option.some.inj hf
      exact zk_zret true C hW rfl dX9_isKind_14

set_option maxHeartbeats 4000000 in
set_option maxRecDepth 100000 in
theorem c_X9_isWrittenValue (l : Launch) (G : GG) (a0 : Int32) (out : Bool) (hf : f_X9_isWrittenValue a0 = some out) : CtI G l yX9_isWrittenValue (Cond.code yX9_isWrittenValue cX9_isWrittenValue 1 (some .boolean) :: WL) (zR 0 0) [.int a0] ([]) (bI out) ([]) := by
  refine CtI.mk (cc := cX9_isWrittenValue) (nL := 1) (rt := (some .boolean)) (own := RX9) (nm := "isWrittenValue") (by decide) rfl rfl (Nat.le_of_ble_eq_true rfl) ?_
  intro p e s m below meth c A ls C hW hl
  have hx := C.1
  have hb := C.2.1
  have hl : lv_has ls 1 [(0, .int a0)] := hl
  unfold f_X9_isWrittenValue at hf
  refine lv_iload_n hx hb dX9_isWrittenValue_0 rfl (lv_at hl 0 rfl) ?_
  refine lv_bipush (v := (-3)) hx hb dX9_isWrittenValue_1 (by decide) ?_
  refine lv_icmp_lt (tgt := 15) hx hb dX9_isWrittenValue_3 (by decide) (fun c1 => ?_) (fun c1 => ?_)
  · have hf := ipos c1 hf
    refine lv_iconst (v := 0) hx hb dX9_isWrittenValue_15 (by decide) ?_
    obtain rfl := Option.some.inj hf
    exact zk_zret false C hW rfl dX9_isWrittenValue_16
  · have hf := ineg c1 hf
    refine lv_iload_n hx hb dX9_isWrittenValue_6 rfl (lv_at hl 0 rfl) ?_
    refine lv_iconst (v := 3) hx hb dX9_isWrittenValue_7 (by decide) ?_
    refine lv_icmp_gt (tgt := 15) hx hb dX9_isWrittenValue_8 (by decide) (fun c2 => ?_) (fun c2 => ?_)
    · have hf := ipos c2 hf
      refine lv_iconst (v := 0) hx hb dX9_isWrittenValue_15 (by decide) ?_
      obtain rfl := Option.some.inj hf
      exact zk_zret false C hW rfl dX9_isWrittenValue_16
    · have hf := ineg c2 hf
      refine lv_iconst (v := 1) hx hb dX9_isWrittenValue_11 (by decide) ?_
      refine lv_goto (tgt := 16) hx hb dX9_isWrittenValue_12 (by decide) ?_
      obtain rfl := Option.some.inj hf
      exact zk_zret true C hW rfl dX9_isWrittenValue_16

set_option maxHeartbeats 4000000 in
set_option maxRecDepth 100000 in
theorem c_X9_isSuch (l : Launch) (G : GG) (a0 : Int32) (a1 : Int32) (out : Bool) (hf : f_X9_isSuch a0 a1 = some out) : CtI G l yX9_isSuch (Cond.code yX9_isSuch cX9_isSuch 2 (some .boolean) :: WL) (zR 0 0) [.int a0, .int a1] ([]) (bI out) ([]) := by
  refine CtI.mk (cc := cX9_isSuch) (nL := 2) (rt := (some .boolean)) (own := RX9) (nm := "isSuch") (by decide) rfl rfl (Nat.le_of_ble_eq_true rfl) ?_
  intro p e s m below meth c A ls C hW hl
  have hx := C.1
  have hb := C.2.1
  have hl : lv_has ls 2 [(0, .int a0), (1, .int a1)] := hl
  unfold f_X9_isSuch at hf
  refine lv_iload_n hx hb dX9_isSuch_0 rfl (lv_at hl 0 rfl) ?_
  refine lv_iload_n hx hb dX9_isSuch_1 rfl (lv_at hl 1 rfl) ?_
  refine lv_icmp_eq (tgt := 19) hx hb dX9_isSuch_2 (by decide) (fun c1 => ?_) (fun c1 => ?_)
  · have hf := ipos c1 hf
    refine lv_iconst (v := 1) hx hb dX9_isSuch_19 (by decide) ?_
    refine lv_goto (tgt := 24) hx hb dX9_isSuch_20 (by decide) ?_
    obtain rfl := Option.some.inj hf
    exact zk_zret true C hW rfl dX9_isSuch_24
  · have hf := ineg c1 hf
    refine lv_iload_n hx hb dX9_isSuch_5 rfl (lv_at hl 1 rfl) ?_
    refine lv_if_eq (tgt := 19) hx hb dX9_isSuch_6 (by decide) (fun c2 => ?_) (fun c2 => ?_)
    · have hf := ipos c2 hf
      refine lv_iconst (v := 1) hx hb dX9_isSuch_19 (by decide) ?_
      refine lv_goto (tgt := 24) hx hb dX9_isSuch_20 (by decide) ?_
      obtain rfl := Option.some.inj hf
      exact zk_zret true C hW rfl dX9_isSuch_24
    · have hf := ineg c2 hf
      refine lv_iload_n hx hb dX9_isSuch_9 rfl (lv_at hl 0 rfl) ?_
      refine lv_iconst (v := 4) hx hb dX9_isSuch_10 (by decide) ?_
      refine lv_icmp_ne (tgt := 23) hx hb dX9_isSuch_11 (by decide) (fun c3 => ?_) (fun c3 => ?_)
      · have hf := ineg c3 hf
        refine lv_iconst (v := 0) hx hb dX9_isSuch_23 (by decide) ?_
        obtain rfl := Option.some.inj hf
        exact zk_zret false C hW rfl dX9_isSuch_24
      · have hf := ipos c3 hf
        refine lv_iload_n hx hb dX9_isSuch_14 rfl (lv_at hl 1 rfl) ?_
        refine lv_iconst (v := 1) hx hb dX9_isSuch_15 (by decide) ?_
        refine lv_icmp_ne (tgt := 23) hx hb dX9_isSuch_16 (by decide) (fun c4 => ?_) (fun c4 => ?_)
        · have hf := ineg c4 hf
          refine lv_iconst (v := 0) hx hb dX9_isSuch_23 (by decide) ?_
          obtain rfl := Option.some.inj hf
          exact zk_zret false C hW rfl dX9_isSuch_24
        · have hf := ipos c4 hf
          refine lv_iconst (v := 1) hx hb dX9_isSuch_19 (by decide) ?_
          refine lv_goto (tgt := 24) hx hb dX9_isSuch_20 (by decide) ?_
          obtain rfl := Option.some.inj hf
          exact zk_zret true C hW rfl dX9_isSuch_24

set_option maxHeartbeats 4000000 in
set_option maxRecDepth 100000 in
theorem c_X9_noLetter (l : Launch) (G : GG) (q : Nat → Nat) (t0 : zXS) (out : Bool) (hf : f_X9_noLetter t0 = some out) : CtI G l yX9_noLetter (Cond.code yX9_noLetter cX9_noLetter 1 (some .boolean) :: WL) (zR 0 0) [.ref (q 0)] (wX9 G q t0.1 t0.2.1 t0.2.2.1 t0.2.2.2.1 t0.2.2.2.2.1 t0.2.2.2.2.2.1 t0.2.2.2.2.2.2.1 t0.2.2.2.2.2.2.2.1 t0.2.2.2.2.2.2.2.2.1 t0.2.2.2.2.2.2.2.2.2.1 t0.2.2.2.2.2.2.2.2.2.2.1 t0.2.2.2.2.2.2.2.2.2.2.2.1 t0.2.2.2.2.2.2.2.2.2.2.2.2) (bI out) (wX9 G q t0.1 t0.2.1 t0.2.2.1 t0.2.2.2.1 t0.2.2.2.2.1 t0.2.2.2.2.2.1 t0.2.2.2.2.2.2.1 t0.2.2.2.2.2.2.2.1 t0.2.2.2.2.2.2.2.2.1 t0.2.2.2.2.2.2.2.2.2.1 t0.2.2.2.2.2.2.2.2.2.2.1 t0.2.2.2.2.2.2.2.2.2.2.2.1 t0.2.2.2.2.2.2.2.2.2.2.2.2) := by
  refine CtI.mk (cc := cX9_noLetter) (nL := 1) (rt := (some .boolean)) (own := RX9) (nm := "noLetter") (by decide) rfl rfl (Nat.le_of_ble_eq_true rfl) ?_
  intro p e s m below meth c A ls C hW hl
  have hx := C.1
  have hb := C.2.1
  have hl : lv_has ls 1 [(0, .ref (q 0))] := hl
  unfold f_X9_noLetter at hf
  refine lv_aload_n hx hb dX9_noLetter_0 rfl (lv_at hl 0 rfl) ?_
  refine zk_get C hW fgX9_19 0 rfl rfl dX9_noLetter_1 ?_
  refine zk_get C hW fgX9_111 3 rfl rfl dX9_noLetter_4 ?_
  refine lv_if_ne (tgt := 14) hx hb dX9_noLetter_7 (by decide) (fun c1 => ?_) (fun c1 => ?_)
  · have hf := ineg c1 hf
    refine lv_iconst (v := 0) hx hb dX9_noLetter_14 (by decide) ?_
    obtain rfl := Option.some.inj hf
    exact zk_zret false C hW rfl dX9_noLetter_15
  · have hf := ipos c1 hf
    refine lv_iconst (v := 1) hx hb dX9_noLetter_10 (by decide) ?_
    refine lv_goto (tgt := 15) hx hb dX9_noLetter_11 (by decide) ?_
    obtain rfl := Option.some.inj hf
    exact zk_zret true C hW rfl dX9_noLetter_15

set_option maxHeartbeats 4000000 in
set_option maxRecDepth 100000 in
theorem c_X9_letter (l : Launch) (G : GG) (q : Nat → Nat) (t0 : zXS) (a0 : Int32) (out : Int32 × zXS) (hf : f_X9_letter t0 a0 = some out) : CtI G l yX9_letter (Cond.code yX9_letter cX9_letter 2 (some .int) :: WL) (zR 1 21) [.ref (q 0), .int a0] (wX9 G q t0.1 t0.2.1 t0.2.2.1 t0.2.2.2.1 t0.2.2.2.2.1 t0.2.2.2.2.2.1 t0.2.2.2.2.2.2.1 t0.2.2.2.2.2.2.2.1 t0.2.2.2.2.2.2.2.2.1 t0.2.2.2.2.2.2.2.2.2.1 t0.2.2.2.2.2.2.2.2.2.2.1 t0.2.2.2.2.2.2.2.2.2.2.2.1 t0.2.2.2.2.2.2.2.2.2.2.2.2) out.1 (wX9 G q out.2.1 out.2.2.1 out.2.2.2.1 out.2.2.2.2.1 out.2.2.2.2.2.1 out.2.2.2.2.2.2.1 out.2.2.2.2.2.2.2.1 out.2.2.2.2.2.2.2.2.1 out.2.2.2.2.2.2.2.2.2.1 out.2.2.2.2.2.2.2.2.2.2.1 out.2.2.2.2.2.2.2.2.2.2.2.1 out.2.2.2.2.2.2.2.2.2.2.2.2.1 out.2.2.2.2.2.2.2.2.2.2.2.2.2) := by
  refine CtI.mk (cc := cX9_letter) (nL := 2) (rt := (some .int)) (own := RX9) (nm := "letter") (by decide) rfl rfl (Nat.le_of_ble_eq_true rfl) ?_
  intro p e s m below meth c A ls C hW hl
  have hx := C.1
  have hb := C.2.1
  have hl : lv_has ls 2 [(0, .ref (q 0)), (1, .int a0)] := hl
  unfold f_X9_letter at hf
  refine lv_iload_n hx hb dX9_letter_0 rfl (lv_at hl 1 rfl) ?_
  refine lv_iconst (v := 1) hx hb dX9_letter_1 (by decide) ?_
  refine lv_icmp_lt (tgt := 11) hx hb dX9_letter_2 (by decide) (fun c1 => ?_) (fun c1 => ?_)
  · have hf := ipos c1 hf
    refine lv_bipush (v := (-102)) hx hb dX9_letter_11 (by decide) ?_
    obtain rfl := Option.some.inj hf
    exact zk_iret C hW rfl dX9_letter_13
  · have hf := ineg c1 hf
    refine lv_iload_n hx hb dX9_letter_5 rfl (lv_at hl 1 rfl) ?_
    refine lv_bipush (v := 126) hx hb dX9_letter_6 (by decide) ?_
    refine lv_icmp_le (tgt := 14) hx hb dX9_letter_8 (by decide) (fun c2 => ?_) (fun c2 => ?_)
    · have hf := ipos c2 hf
      refine lv_aload_n hx hb dX9_letter_14 rfl (lv_at hl 0 rfl) ?_
      refine zk_get C hW fgX9_10 0 rfl rfl dX9_letter_15 ?_
      refine zk_get C hW fgX9_76 1 rfl rfl dX9_letter_18 ?_
      refine lv_bipush (v := 12) hx hb dX9_letter_21 (by decide) ?_
      refine lv_icmp_lt (tgt := 29) hx hb dX9_letter_23 (by decide) (fun c3 => ?_) (fun c3 => ?_)
      · have hf := ipos c3 hf
        refine lv_aload_n hx hb dX9_letter_29 rfl (lv_at hl 0 rfl) ?_
        refine zk_get C hW fgX9_10 0 rfl rfl dX9_letter_30 ?_
        refine lv_iload_n hx hb dX9_letter_33 rfl (lv_at hl 1 rfl) ?_
        obtain ⟨u4, eu4, hf⟩ := bnd hf
        refine zk_callV (As := [.int a0]) (rest := []) (W1 := wX9 G q u4 t0.2.1 t0.2.2.1 t0.2.2.2.1 t0.2.2.2.2.1 t0.2.2.2.2.2.1 t0.2.2.2.2.2.2.1 t0.2.2.2.2.2.2.2.1 t0.2.2.2.2.2.2.2.2.1 t0.2.2.2.2.2.2.2.2.2.1 t0.2.2.2.2.2.2.2.2.2.2.1 t0.2.2.2.2.2.2.2.2.2.2.2.1 t0.2.2.2.2.2.2.2.2.2.2.2.2) C hW hl mvX9_80 (c_X5_add l G (fun k => q (k + 1)) t0.1 a0 u4 eu4) ⟨(Nat.le_of_ble_eq_true rfl), (Nat.le_of_ble_eq_true rfl)⟩ ⟨rfl, rfl⟩ [1, 2] rfl rfl rfl rfl (Nat.le_of_ble_eq_true rfl) (Nat.le_of_ble_eq_true rfl) rfl dX9_letter_34 ⟨Nat.zero_le _, Nat.zero_le _⟩ (fun H locs hW => ?_)
        refine lv_aload_n hx hb dX9_letter_37 rfl (lv_at hl 0 rfl) ?_
        refine zk_get C hW fgX9_10 0 rfl rfl dX9_letter_38 ?_
        refine zk_get C hW fgX9_76 1 rfl rfl dX9_letter_41 ?_
        obtain rfl := Option.some.inj hf
        exact zk_iret C hW rfl dX9_letter_44
      · have hf := ineg c3 hf
        refine lv_bipush (v := (-104)) hx hb dX9_letter_26 (by decide) ?_
        obtain rfl := Option.some.inj hf
        exact zk_iret C hW rfl dX9_letter_28
    · have hf := ineg c2 hf
      refine lv_bipush (v := (-102)) hx hb dX9_letter_11 (by decide) ?_
      obtain rfl := Option.some.inj hf
      exact zk_iret C hW rfl dX9_letter_13

set_option maxHeartbeats 4000000 in
set_option maxRecDepth 100000 in
theorem c_X9_blank (l : Launch) (G : GG) (q : Nat → Nat) (t0 : zXS) (out : Int32 × zXS) (hf : f_X9_blank t0 = some out) : CtI G l yX9_blank (Cond.code yX9_blank cX9_blank 2 (some .int) :: WL) (zR 1 20) [.ref (q 0)] (wX9 G q t0.1 t0.2.1 t0.2.2.1 t0.2.2.2.1 t0.2.2.2.2.1 t0.2.2.2.2.2.1 t0.2.2.2.2.2.2.1 t0.2.2.2.2.2.2.2.1 t0.2.2.2.2.2.2.2.2.1 t0.2.2.2.2.2.2.2.2.2.1 t0.2.2.2.2.2.2.2.2.2.2.1 t0.2.2.2.2.2.2.2.2.2.2.2.1 t0.2.2.2.2.2.2.2.2.2.2.2.2) out.1 (wX9 G q out.2.1 out.2.2.1 out.2.2.2.1 out.2.2.2.2.1 out.2.2.2.2.2.1 out.2.2.2.2.2.2.1 out.2.2.2.2.2.2.2.1 out.2.2.2.2.2.2.2.2.1 out.2.2.2.2.2.2.2.2.2.1 out.2.2.2.2.2.2.2.2.2.2.1 out.2.2.2.2.2.2.2.2.2.2.2.1 out.2.2.2.2.2.2.2.2.2.2.2.2.1 out.2.2.2.2.2.2.2.2.2.2.2.2.2) := by
  refine CtI.mk (cc := cX9_blank) (nL := 2) (rt := (some .int)) (own := RX9) (nm := "blank") (by decide) rfl rfl (Nat.le_of_ble_eq_true rfl) ?_
  intro p e s m below meth c A ls C hW hl
  have hx := C.1
  have hb := C.2.1
  have hl : lv_has ls 2 [(0, .ref (q 0))] := hl
  unfold f_X9_blank at hf
  refine lv_aload_n hx hb dX9_blank_0 rfl (lv_at hl 0 rfl) ?_
  refine zk_get C hW fgX9_10 0 rfl rfl dX9_blank_1 ?_
  refine zk_get C hW fgX9_76 1 rfl rfl dX9_blank_4 ?_
  refine lv_istore_n (lv' := [(1, .int t0.1.2), (0, .ref (q 0))]) hx hb dX9_blank_7 rfl hl (by decide) rfl (fun ls hl => ?_)
  refine lv_aload_n hx hb dX9_blank_8 rfl (lv_at hl 1 rfl) ?_
  refine zk_get C hW fgX9_10 0 rfl rfl dX9_blank_9 ?_
  obtain ⟨u1, eu1, hf⟩ := bnd hf
  refine zk_callV (As := []) (rest := []) (W1 := wX9 G q u1 t0.2.1 t0.2.2.1 t0.2.2.2.1 t0.2.2.2.2.1 t0.2.2.2.2.2.1 t0.2.2.2.2.2.2.1 t0.2.2.2.2.2.2.2.1 t0.2.2.2.2.2.2.2.2.1 t0.2.2.2.2.2.2.2.2.2.1 t0.2.2.2.2.2.2.2.2.2.2.1 t0.2.2.2.2.2.2.2.2.2.2.2.1 t0.2.2.2.2.2.2.2.2.2.2.2.2) C hW hl mvX9_84 (c_X5_clear l G (fun k => q (k + 1)) t0.1 u1 eu1) ⟨(Nat.le_of_ble_eq_true rfl), (Nat.le_of_ble_eq_true rfl)⟩ ⟨rfl, rfl⟩ [1, 2] rfl rfl rfl rfl (Nat.le_of_ble_eq_true rfl) (Nat.le_of_ble_eq_true rfl) rfl dX9_blank_12 ⟨Nat.zero_le _, Nat.zero_le _⟩ (fun H locs hW => ?_)
  refine lv_iload_n hx hb dX9_blank_15 rfl (lv_at hl 0 rfl) ?_
  obtain rfl := Option.some.inj hf
  exact zk_iret C hW rfl dX9_blank_16

set_option maxHeartbeats 4000000 in
set_option maxRecDepth 100000 in
theorem c_X9_fault (l : Launch) (G : GG) (q : Nat → Nat) (t0 : zXS) (out : Int32) (hf : f_X9_fault t0 = some out) : CtI G l yX9_fault (Cond.code yX9_fault cX9_fault 1 (some .int) :: WL) (zR 3 65) [.ref (q 0)] (wX9 G q t0.1 t0.2.1 t0.2.2.1 t0.2.2.2.1 t0.2.2.2.2.1 t0.2.2.2.2.2.1 t0.2.2.2.2.2.2.1 t0.2.2.2.2.2.2.2.1 t0.2.2.2.2.2.2.2.2.1 t0.2.2.2.2.2.2.2.2.2.1 t0.2.2.2.2.2.2.2.2.2.2.1 t0.2.2.2.2.2.2.2.2.2.2.2.1 t0.2.2.2.2.2.2.2.2.2.2.2.2) out (wX9 G q t0.1 t0.2.1 t0.2.2.1 t0.2.2.2.1 t0.2.2.2.2.1 t0.2.2.2.2.2.1 t0.2.2.2.2.2.2.1 t0.2.2.2.2.2.2.2.1 t0.2.2.2.2.2.2.2.2.1 t0.2.2.2.2.2.2.2.2.2.1 t0.2.2.2.2.2.2.2.2.2.2.1 t0.2.2.2.2.2.2.2.2.2.2.2.1 t0.2.2.2.2.2.2.2.2.2.2.2.2) := by
  refine CtI.mk (cc := cX9_fault) (nL := 1) (rt := (some .int)) (own := RX9) (nm := "fault") (by decide) rfl rfl (Nat.le_of_ble_eq_true rfl) ?_
  intro p e s m below meth c A ls C hW hl
  have hx := C.1
  have hb := C.2.1
  have hl : lv_has ls 1 [(0, .ref (q 0))] := hl
  unfold f_X9_fault at hf
  refine lv_aload_n hx hb dX9_fault_0 rfl (lv_at hl 0 rfl) ?_
  refine zk_get C hW fgX9_10 0 rfl rfl dX9_fault_1 ?_
  obtain ⟨u1, eu1, hf⟩ := bnd hf
  refine zk_callI (As := []) (rest := []) (W1 := wX9 G q t0.1 t0.2.1 t0.2.2.1 t0.2.2.2.1 t0.2.2.2.2.1 t0.2.2.2.2.2.1 t0.2.2.2.2.2.2.1 t0.2.2.2.2.2.2.2.1 t0.2.2.2.2.2.2.2.2.1 t0.2.2.2.2.2.2.2.2.2.1 t0.2.2.2.2.2.2.2.2.2.2.1 t0.2.2.2.2.2.2.2.2.2.2.2.1 t0.2.2.2.2.2.2.2.2.2.2.2.2) C hW hl mvX9_87 (c_X5_firstFault l G (fun k => q (k + 1)) t0.1 u1 eu1) ⟨(Nat.le_of_ble_eq_true rfl), (Nat.le_of_ble_eq_true rfl)⟩ ⟨rfl, rfl⟩ [1, 2] rfl rfl rfl rfl (Nat.le_of_ble_eq_true rfl) (Nat.le_of_ble_eq_true rfl) rfl dX9_fault_4 ⟨Nat.zero_le _, Nat.zero_le _⟩ (fun H locs hW => ?_)
  obtain rfl := Option.some.inj hf
  exact zk_iret C hW rfl dX9_fault_7

set_option maxHeartbeats 4000000 in
set_option maxRecDepth 100000 in
theorem c_X9_take (l : Launch) (G : GG) (q : Nat → Nat) (t0 : zXS) (out : Int32 × zXS) (hf : f_X9_take t0 = some out) : CtI G l yX9_take (Cond.code yX9_take cX9_take 1 (some .int) :: WL) (zR 4 85) [.ref (q 0)] (wX9 G q t0.1 t0.2.1 t0.2.2.1 t0.2.2.2.1 t0.2.2.2.2.1 t0.2.2.2.2.2.1 t0.2.2.2.2.2.2.1 t0.2.2.2.2.2.2.2.1 t0.2.2.2.2.2.2.2.2.1 t0.2.2.2.2.2.2.2.2.2.1 t0.2.2.2.2.2.2.2.2.2.2.1 t0.2.2.2.2.2.2.2.2.2.2.2.1 t0.2.2.2.2.2.2.2.2.2.2.2.2) out.1 (wX9 G q out.2.1 out.2.2.1 out.2.2.2.1 out.2.2.2.2.1 out.2.2.2.2.2.1 out.2.2.2.2.2.2.1 out.2.2.2.2.2.2.2.1 out.2.2.2.2.2.2.2.2.1 out.2.2.2.2.2.2.2.2.2.1 out.2.2.2.2.2.2.2.2.2.2.1 out.2.2.2.2.2.2.2.2.2.2.2.1 out.2.2.2.2.2.2.2.2.2.2.2.2.1 out.2.2.2.2.2.2.2.2.2.2.2.2.2) := by
  refine CtI.mk (cc := cX9_take) (nL := 1) (rt := (some .int)) (own := RX9) (nm := "take") (by decide) rfl rfl (Nat.le_of_ble_eq_true rfl) ?_
  intro p e s m below meth c A ls C hW hl
  have hx := C.1
  have hb := C.2.1
  have hl : lv_has ls 1 [(0, .ref (q 0))] := hl
  unfold f_X9_take at hf
  refine lv_aload_n hx hb dX9_take_0 rfl (lv_at hl 0 rfl) ?_
  refine zk_get C hW fgX9_10 0 rfl rfl dX9_take_1 ?_
  obtain ⟨u1, eu1, hf⟩ := bnd hf
  refine zk_callI (As := []) (rest := []) (W1 := wX9 G q t0.1 t0.2.1 t0.2.2.1 t0.2.2.2.1 t0.2.2.2.2.1 t0.2.2.2.2.2.1 t0.2.2.2.2.2.2.1 t0.2.2.2.2.2.2.2.1 t0.2.2.2.2.2.2.2.2.1 t0.2.2.2.2.2.2.2.2.2.1 t0.2.2.2.2.2.2.2.2.2.2.1 t0.2.2.2.2.2.2.2.2.2.2.2.1 t0.2.2.2.2.2.2.2.2.2.2.2.2) C hW hl mvX9_91 (c_X5_isLetter l G (fun k => q (k + 1)) t0.1 u1 eu1) ⟨(Nat.le_of_ble_eq_true rfl), (Nat.le_of_ble_eq_true rfl)⟩ ⟨rfl, rfl⟩ [1, 2] rfl rfl rfl rfl (Nat.le_of_ble_eq_true rfl) (Nat.le_of_ble_eq_true rfl) rfl dX9_take_4 ⟨Nat.zero_le _, Nat.zero_le _⟩ (fun H locs hW => ?_)
  refine lv_if_ne (tgt := 13) hx hb dX9_take_7 (by decide) (fun c2 => ?_) (fun c2 => ?_)
  · have hf := ineg c2 hf
    refine lv_aload_n hx hb dX9_take_13 rfl (lv_at hl 0 rfl) ?_
    refine zk_get C hW fgX9_10 0 rfl rfl dX9_take_14 ?_
    refine lv_aload_n hx hb dX9_take_17 rfl (lv_at hl 0 rfl) ?_
    refine zk_get C hW fgX9_19 0 rfl rfl dX9_take_18 ?_
    obtain ⟨u3, eu3, hf⟩ := bnd hf
    refine zk_callV (As := [.ref (q 3)]) (rest := []) (W1 := wX9 G q t0.1 u3 t0.2.2.1 t0.2.2.2.1 t0.2.2.2.2.1 t0.2.2.2.2.2.1 t0.2.2.2.2.2.2.1 t0.2.2.2.2.2.2.2.1 t0.2.2.2.2.2.2.2.2.1 t0.2.2.2.2.2.2.2.2.2.1 t0.2.2.2.2.2.2.2.2.2.2.1 t0.2.2.2.2.2.2.2.2.2.2.2.1 t0.2.2.2.2.2.2.2.2.2.2.2.2) C hW hl mvX9_95 (c_X5_copyTo l G (fun k => q (k + 1)) (fun k => q (k + 3)) t0.1 t0.2.1 u3 eu3) ⟨(Nat.le_of_ble_eq_true rfl), (Nat.le_of_ble_eq_true rfl)⟩ ⟨rfl, rfl⟩ [1, 2, 3, 4] rfl rfl rfl rfl (Nat.le_of_ble_eq_true rfl) (Nat.le_of_ble_eq_true rfl) rfl dX9_take_21 ⟨Nat.zero_le _, Nat.zero_le _⟩ (fun H locs hW => ?_)
    refine lv_aload_n hx hb dX9_take_24 rfl (lv_at hl 0 rfl) ?_
    refine zk_get C hW fgX9_10 0 rfl rfl dX9_take_25 ?_
    obtain ⟨u4, eu4, hf⟩ := bnd hf
    refine zk_callV (As := []) (rest := []) (W1 := wX9 G q u4 u3 t0.2.2.1 t0.2.2.2.1 t0.2.2.2.2.1 t0.2.2.2.2.2.1 t0.2.2.2.2.2.2.1 t0.2.2.2.2.2.2.2.1 t0.2.2.2.2.2.2.2.2.1 t0.2.2.2.2.2.2.2.2.2.1 t0.2.2.2.2.2.2.2.2.2.2.1 t0.2.2.2.2.2.2.2.2.2.2.2.1 t0.2.2.2.2.2.2.2.2.2.2.2.2) C hW hl mvX9_84 (c_X5_clear l G (fun k => q (k + 1)) t0.1 u4 eu4) ⟨(Nat.le_of_ble_eq_true rfl), (Nat.le_of_ble_eq_true rfl)⟩ ⟨rfl, rfl⟩ [1, 2] rfl rfl rfl rfl (Nat.le_of_ble_eq_true rfl) (Nat.le_of_ble_eq_true rfl) rfl dX9_take_28 ⟨Nat.zero_le _, Nat.zero_le _⟩ (fun H locs hW => ?_)
    refine lv_aload_n hx hb dX9_take_31 rfl (lv_at hl 0 rfl) ?_
    refine zk_get C hW fgX9_26 0 rfl rfl dX9_take_32 ?_
    refine lv_iconst (v := 0) hx hb dX9_take_35 (by decide) ?_
    refine zk_putI (W1 := wX9 G q u4 u3 (t0.2.2.1.1, 0) t0.2.2.2.1 t0.2.2.2.2.1 t0.2.2.2.2.2.1 t0.2.2.2.2.2.2.1 t0.2.2.2.2.2.2.2.1 t0.2.2.2.2.2.2.2.2.1 t0.2.2.2.2.2.2.2.2.2.1 t0.2.2.2.2.2.2.2.2.2.2.1 t0.2.2.2.2.2.2.2.2.2.2.2.1 t0.2.2.2.2.2.2.2.2.2.2.2.2) C hW fpX9_99 5 rfl rfl (Nat.le_of_ble_eq_true rfl) rfl dX9_take_36 (fun H locs hW => ?_)
    refine lv_aload_n hx hb dX9_take_39 rfl (lv_at hl 0 rfl) ?_
    refine zk_get C hW fgX9_33 0 rfl rfl dX9_take_40 ?_
    obtain ⟨u5, eu5, hf⟩ := bnd hf
    refine zk_callV (As := []) (rest := []) (W1 := wX9 G q u4 u3 (t0.2.2.1.1, 0) u5 t0.2.2.2.2.1 t0.2.2.2.2.2.1 t0.2.2.2.2.2.2.1 t0.2.2.2.2.2.2.2.1 t0.2.2.2.2.2.2.2.2.1 t0.2.2.2.2.2.2.2.2.2.1 t0.2.2.2.2.2.2.2.2.2.2.1 t0.2.2.2.2.2.2.2.2.2.2.2.1 t0.2.2.2.2.2.2.2.2.2.2.2.2) C hW hl mvX9_100 (c_X7_clear l G (fun k => q (k + 7)) t0.2.2.2.1 u5 eu5) ⟨(Nat.le_of_ble_eq_true rfl), (Nat.le_of_ble_eq_true rfl)⟩ ⟨rfl, rfl⟩ [7, 8] rfl rfl rfl rfl (Nat.le_of_ble_eq_true rfl) (Nat.le_of_ble_eq_true rfl) rfl dX9_take_43 ⟨Nat.zero_le _, Nat.zero_le _⟩ (fun H locs hW => ?_)
    refine lv_aload_n hx hb dX9_take_46 rfl (lv_at hl 0 rfl) ?_
    refine lv_iconst (v := 0) hx hb dX9_take_47 (by decide) ?_
    refine zk_putI (W1 := wX9 G q u4 u3 (t0.2.2.1.1, 0) u5 t0.2.2.2.2.1 t0.2.2.2.2.2.1 t0.2.2.2.2.2.2.1 t0.2.2.2.2.2.2.2.1 t0.2.2.2.2.2.2.2.2.1 t0.2.2.2.2.2.2.2.2.2.1 0 t0.2.2.2.2.2.2.2.2.2.2.2.1 t0.2.2.2.2.2.2.2.2.2.2.2.2) C hW fpX9_101 0 rfl rfl (Nat.le_of_ble_eq_true rfl) rfl dX9_take_48 (fun H locs hW => ?_)
    refine lv_aload_n hx hb dX9_take_51 rfl (lv_at hl 0 rfl) ?_
    refine zk_get C hW fgX9_40 0 rfl rfl dX9_take_52 ?_
    refine lv_iconst (v := 0) hx hb dX9_take_55 (by decide) ?_
    refine zk_putZ (W1 := wX9 G q u4 u3 (t0.2.2.1.1, 0) u5 (t0.2.2.2.2.1.1, t0.2.2.2.2.1.2.1, t0.2.2.2.2.1.2.2.1, t0.2.2.2.2.1.2.2.2.1, false) t0.2.2.2.2.2.1 t0.2.2.2.2.2.2.1 t0.2.2.2.2.2.2.2.1 t0.2.2.2.2.2.2.2.2.1 t0.2.2.2.2.2.2.2.2.2.1 0 t0.2.2.2.2.2.2.2.2.2.2.2.1 t0.2.2.2.2.2.2.2.2.2.2.2.2) C hW fpX9_104 9 false rfl rfl (Nat.le_of_ble_eq_true rfl) rfl dX9_take_56 (fun H locs hW => ?_)
    refine lv_aload_n hx hb dX9_take_59 rfl (lv_at hl 0 rfl) ?_
    refine lv_dup hx hb dX9_take_60 rfl ?_
    refine zk_get C hW fgX9_108 0 rfl rfl dX9_take_61 ?_
    refine lv_iconst (v := 1) hx hb dX9_take_64 (by decide) ?_
    refine lv_iadd hx hb dX9_take_65 ?_
    obtain ⟨z6, ez6, hf⟩ := bnd hf
    refine zk_putI (W1 := wX9 G q u4 u3 (t0.2.2.1.1, 0) u5 (t0.2.2.2.2.1.1, t0.2.2.2.2.1.2.1, t0.2.2.2.2.1.2.2.1, t0.2.2.2.2.1.2.2.2.1, false) t0.2.2.2.2.2.1 t0.2.2.2.2.2.2.1 t0.2.2.2.2.2.2.2.1 t0.2.2.2.2.2.2.2.2.1 t0.2.2.2.2.2.2.2.2.2.1 0 z6 t0.2.2.2.2.2.2.2.2.2.2.2.2) C hW fpX9_108 0 (Option.some.inj ez6) rfl (Nat.le_of_ble_eq_true rfl) rfl dX9_take_66 (fun H locs hW => ?_)
    refine lv_aload_n hx hb dX9_take_69 rfl (lv_at hl 0 rfl) ?_
    refine zk_get C hW fgX9_19 0 rfl rfl dX9_take_70 ?_
    refine zk_get C hW fgX9_111 3 rfl rfl dX9_take_73 ?_
    obtain rfl := Option.some.inj hf
    exact zk_iret C hW rfl dX9_take_76
  · have hf := ipos c2 hf
    refine lv_bipush (v := (-103)) hx hb dX9_take_10 (by decide) ?_
    obtain rfl := Option.some.inj hf
    exact zk_iret C hW rfl dX9_take_12

set_option maxHeartbeats 4000000 in
set_option maxRecDepth 100000 in
theorem c_X9_word (l : Launch) (G : GG) (q : Nat → Nat) (t0 : zXS) (a0 : Int32) (a1 : Int32) (out : Int32 × zXS) (hf : f_X9_word t0 a0 a1 = some out) : CtI G l yX9_word (Cond.code yX9_word cX9_word 4 (some .int) :: WL) (zR 3 66) [.ref (q 0), .int a0, .int a1] (wX9 G q t0.1 t0.2.1 t0.2.2.1 t0.2.2.2.1 t0.2.2.2.2.1 t0.2.2.2.2.2.1 t0.2.2.2.2.2.2.1 t0.2.2.2.2.2.2.2.1 t0.2.2.2.2.2.2.2.2.1 t0.2.2.2.2.2.2.2.2.2.1 t0.2.2.2.2.2.2.2.2.2.2.1 t0.2.2.2.2.2.2.2.2.2.2.2.1 t0.2.2.2.2.2.2.2.2.2.2.2.2) out.1 (wX9 G q out.2.1 out.2.2.1 out.2.2.2.1 out.2.2.2.2.1 out.2.2.2.2.2.1 out.2.2.2.2.2.2.1 out.2.2.2.2.2.2.2.1 out.2.2.2.2.2.2.2.2.1 out.2.2.2.2.2.2.2.2.2.1 out.2.2.2.2.2.2.2.2.2.2.1 out.2.2.2.2.2.2.2.2.2.2.2.1 out.2.2.2.2.2.2.2.2.2.2.2.2.1 out.2.2.2.2.2.2.2.2.2.2.2.2.2) := by
  refine CtI.mk (cc := cX9_word) (nL := 4) (rt := (some .int)) (own := RX9) (nm := "word") (by decide) rfl rfl (Nat.le_of_ble_eq_true rfl) ?_
  intro p e s m below meth c A ls C hW hl
  have hx := C.1
  have hb := C.2.1
  have hl : lv_has ls 4 [(0, .ref (q 0)), (1, .int a0), (2, .int a1)] := hl
  unfold f_X9_word at hf
  refine lv_aload_n hx hb dX9_word_0 rfl (lv_at hl 0 rfl) ?_
  refine zk_get C hW fgX9_19 0 rfl rfl dX9_word_1 ?_
  refine lv_iload_n hx hb dX9_word_4 rfl (lv_at hl 1 rfl) ?_
  obtain ⟨u1, eu1, hf⟩ := bnd hf
  refine zk_callI (As := [.int a0]) (rest := []) (W1 := wX9 G q t0.1 t0.2.1 t0.2.2.1 t0.2.2.2.1 t0.2.2.2.2.1 t0.2.2.2.2.2.1 t0.2.2.2.2.2.2.1 t0.2.2.2.2.2.2.2.1 t0.2.2.2.2.2.2.2.2.1 t0.2.2.2.2.2.2.2.2.2.1 t0.2.2.2.2.2.2.2.2.2.2.1 t0.2.2.2.2.2.2.2.2.2.2.2.1 t0.2.2.2.2.2.2.2.2.2.2.2.2) C hW hl mvX9_112 (c_X3_has l G (fun k => q (k + 3)) t0.2.1 a0 u1 eu1) ⟨(Nat.le_of_ble_eq_true rfl), (Nat.le_of_ble_eq_true rfl)⟩ ⟨rfl, rfl⟩ [3, 4] rfl rfl rfl rfl (Nat.le_of_ble_eq_true rfl) (Nat.le_of_ble_eq_true rfl) rfl dX9_word_5 ⟨Nat.zero_le _, Nat.zero_le _⟩ (fun H locs hW => ?_)
  refine lv_if_ne (tgt := 14) hx hb dX9_word_8 (by decide) (fun c2 => ?_) (fun c2 => ?_)
  · have hf := ineg c2 hf
    refine lv_iload_n hx hb dX9_word_14 rfl (lv_at hl 2 rfl) ?_
    refine lv_if_lt (tgt := 23) hx hb dX9_word_15 (by decide) (fun c3 => ?_) (fun c3 => ?_)
    · have hf := ipos c3 hf
      refine lv_bipush (v := (-102)) hx hb dX9_word_23 (by decide) ?_
      obtain rfl := Option.some.inj hf
      exact zk_iret C hW rfl dX9_word_25
    · have hf := ineg c3 hf
      refine lv_iload_n hx hb dX9_word_18 rfl (lv_at hl 2 rfl) ?_
      refine lv_iconst (v := 2) hx hb dX9_word_19 (by decide) ?_
      refine lv_icmp_le (tgt := 26) hx hb dX9_word_20 (by decide) (fun c4 => ?_) (fun c4 => ?_)
      · have hf := ipos c4 hf
        refine lv_iload_n hx hb dX9_word_26 rfl (lv_at hl 2 rfl) ?_
        refine lv_if_ne (tgt := 39) hx hb dX9_word_27 (by decide) (fun c5 => ?_) (fun c5 => ?_)
        · have hf := ineg c5 hf
          refine lv_iload_n hx hb dX9_word_39 rfl (lv_at hl 2 rfl) ?_
          refine lv_iconst (v := 2) hx hb dX9_word_40 (by decide) ?_
          refine lv_icmp_ne (tgt := 48) hx hb dX9_word_41 (by decide) (fun c6 => ?_) (fun c6 => ?_)
          · have hf := ineg c6 hf
            refine lv_iconst (v := 0) hx hb dX9_word_48 (by decide) ?_
            refine lv_istore_n (lv' := [(3, .int 0), (0, .ref (q 0)), (1, .int a0), (2, .int a1)]) hx hb dX9_word_49 rfl hl (by decide) rfl (fun ls hl => ?_)
            refine lv_aload_n hx hb dX9_word_50 rfl (lv_at hl 1 rfl) ?_
            refine zk_get C hW fgX9_47 0 rfl rfl dX9_word_51 ?_
            refine lv_iconst (v := (-1)) hx hb dX9_word_54 (by decide) ?_
            obtain ⟨u7, eu7, hf⟩ := bnd hf
            refine zk_callV (As := [.int (-1)]) (rest := []) (W1 := wX9 G q t0.1 t0.2.1 t0.2.2.1 t0.2.2.2.1 t0.2.2.2.2.1 u7 t0.2.2.2.2.2.2.1 t0.2.2.2.2.2.2.2.1 t0.2.2.2.2.2.2.2.2.1 t0.2.2.2.2.2.2.2.2.2.1 t0.2.2.2.2.2.2.2.2.2.2.1 t0.2.2.2.2.2.2.2.2.2.2.2.1 t0.2.2.2.2.2.2.2.2.2.2.2.2) C hW hl mvX9_120 (c_X6_begin l G (fun k => q (k + 14)) t0.2.2.2.2.2.1 (-1) u7 eu7) ⟨(Nat.le_of_ble_eq_true rfl), (Nat.le_of_ble_eq_true rfl)⟩ ⟨rfl, rfl⟩ [14] rfl rfl rfl rfl (Nat.le_of_ble_eq_true rfl) (Nat.le_of_ble_eq_true rfl) rfl dX9_word_55 ⟨Nat.zero_le _, Nat.zero_le _⟩ (fun H locs hW => ?_)
            refine lv_aload_n hx hb dX9_word_58 rfl (lv_at hl 1 rfl) ?_
            refine zk_get C hW fgX9_47 0 rfl rfl dX9_word_59 ?_
            refine lv_aload_n hx hb dX9_word_62 rfl (lv_at hl 1 rfl) ?_
            refine zk_get C hW fgX9_19 0 rfl rfl dX9_word_63 ?_
            refine lv_iload_n hx hb dX9_word_66 rfl (lv_at hl 0 rfl) ?_
            refine lv_if_eq (tgt := 76) hx hb dX9_word_67 (by decide) (fun c8 => ?_) (fun c8 => ?_)
            · refine lv_aload_n hx hb dX9_word_76 rfl (lv_at hl 1 rfl) ?_
              refine zk_get C hW fgX9_19 0 rfl rfl dX9_word_77 ?_
              refine zk_get C hW fgX9_111 3 rfl rfl dX9_word_80 ?_
              refine lv_iload_n hx hb dX9_word_83 rfl (lv_at hl 2 rfl) ?_
              refine lv_isub hx hb dX9_word_84 ?_
              refine lv_iload_n hx hb dX9_word_85 rfl (lv_at hl 0 rfl) ?_
              obtain ⟨u9, eu9, hf⟩ := bnd hf
              refine zk_callV (As := [.ref (q 3), .int (t0.2.1.2.1 - a0), .int (bI false)]) (rest := []) (W1 := wX9 G q t0.1 t0.2.1 t0.2.2.1 t0.2.2.2.1 t0.2.2.2.2.1 u9 t0.2.2.2.2.2.2.1 t0.2.2.2.2.2.2.2.1 t0.2.2.2.2.2.2.2.2.1 t0.2.2.2.2.2.2.2.2.2.1 t0.2.2.2.2.2.2.2.2.2.2.1 t0.2.2.2.2.2.2.2.2.2.2.2.1 t0.2.2.2.2.2.2.2.2.2.2.2.2) C hW hl mvX9_123 (c_X6_hearSome l G (fun k => q (k + 14)) (fun k => q (k + 3)) u7 t0.2.1 (t0.2.1.2.1 - a0) false u9 eu9) ⟨(Nat.le_of_ble_eq_true rfl), (Nat.le_of_ble_eq_true rfl)⟩ ⟨rfl, rfl⟩ [14, 3, 4] rfl rfl rfl rfl (Nat.le_of_ble_eq_true rfl) (Nat.le_of_ble_eq_true rfl) rfl dX9_word_86 ⟨Nat.zero_le _, Nat.zero_le _⟩ (fun H locs hW => ?_)
              refine lv_aload_n hx hb dX9_word_89 rfl (lv_at hl 1 rfl) ?_
              refine zk_get C hW fgX9_47 0 rfl rfl dX9_word_90 ?_
              refine zk_get C hW fgX9_127 14 rfl rfl dX9_word_93 ?_
              refine lv_bipush (v := 100) hx hb dX9_word_96 (by decide) ?_
              refine lv_iadd hx hb dX9_word_98 ?_
              obtain rfl := Option.some.inj hf
              exact zk_iret C hW rfl dX9_word_99
            · exact absurd c8 (by decide)
          · have hf := ipos c6 hf
            refine lv_iconst (v := 1) hx hb dX9_word_44 (by decide) ?_
            refine lv_goto (tgt := 49) hx hb dX9_word_45 (by decide) ?_
            refine lv_istore_n (lv' := [(3, .int 1), (0, .ref (q 0)), (1, .int a0), (2, .int a1)]) hx hb dX9_word_49 rfl hl (by decide) rfl (fun ls hl => ?_)
            refine lv_aload_n hx hb dX9_word_50 rfl (lv_at hl 1 rfl) ?_
            refine zk_get C hW fgX9_47 0 rfl rfl dX9_word_51 ?_
            refine lv_iconst (v := (-1)) hx hb dX9_word_54 (by decide) ?_
            obtain ⟨u10, eu10, hf⟩ := bnd hf
            refine zk_callV (As := [.int (-1)]) (rest := []) (W1 := wX9 G q t0.1 t0.2.1 t0.2.2.1 t0.2.2.2.1 t0.2.2.2.2.1 u10 t0.2.2.2.2.2.2.1 t0.2.2.2.2.2.2.2.1 t0.2.2.2.2.2.2.2.2.1 t0.2.2.2.2.2.2.2.2.2.1 t0.2.2.2.2.2.2.2.2.2.2.1 t0.2.2.2.2.2.2.2.2.2.2.2.1 t0.2.2.2.2.2.2.2.2.2.2.2.2) C hW hl mvX9_120 (c_X6_begin l G (fun k => q (k + 14)) t0.2.2.2.2.2.1 (-1) u10 eu10) ⟨(Nat.le_of_ble_eq_true rfl), (Nat.le_of_ble_eq_true rfl)⟩ ⟨rfl, rfl⟩ [14] rfl rfl rfl rfl (Nat.le_of_ble_eq_true rfl) (Nat.le_of_ble_eq_true rfl) rfl dX9_word_55 ⟨Nat.zero_le _, Nat.zero_le _⟩ (fun H locs hW => ?_)
            refine lv_aload_n hx hb dX9_word_58 rfl (lv_at hl 1 rfl) ?_
            refine zk_get C hW fgX9_47 0 rfl rfl dX9_word_59 ?_
            refine lv_aload_n hx hb dX9_word_62 rfl (lv_at hl 1 rfl) ?_
            refine zk_get C hW fgX9_19 0 rfl rfl dX9_word_63 ?_
            refine lv_iload_n hx hb dX9_word_66 rfl (lv_at hl 0 rfl) ?_
            refine lv_if_eq (tgt := 76) hx hb dX9_word_67 (by decide) (fun c11 => ?_) (fun c11 => ?_)
            · exact absurd c11 (by decide)
            · refine lv_iload_n hx hb dX9_word_70 rfl (lv_at hl 2 rfl) ?_
              refine lv_iconst (v := 1) hx hb dX9_word_71 (by decide) ?_
              refine lv_iadd hx hb dX9_word_72 ?_
              refine lv_goto (tgt := 85) hx hb dX9_word_73 (by decide) ?_
              refine lv_iload_n hx hb dX9_word_85 rfl (lv_at hl 0 rfl) ?_
              obtain ⟨u12, eu12, hf⟩ := bnd hf
              refine zk_callV (As := [.ref (q 3), .int (a0 + 1), .int (bI true)]) (rest := []) (W1 := wX9 G q t0.1 t0.2.1 t0.2.2.1 t0.2.2.2.1 t0.2.2.2.2.1 u12 t0.2.2.2.2.2.2.1 t0.2.2.2.2.2.2.2.1 t0.2.2.2.2.2.2.2.2.1 t0.2.2.2.2.2.2.2.2.2.1 t0.2.2.2.2.2.2.2.2.2.2.1 t0.2.2.2.2.2.2.2.2.2.2.2.1 t0.2.2.2.2.2.2.2.2.2.2.2.2) C hW hl mvX9_123 (c_X6_hearSome l G (fun k => q (k + 14)) (fun k => q (k + 3)) u10 t0.2.1 (a0 + 1) true u12 eu12) ⟨(Nat.le_of_ble_eq_true rfl), (Nat.le_of_ble_eq_true rfl)⟩ ⟨rfl, rfl⟩ [14, 3, 4] rfl rfl rfl rfl (Nat.le_of_ble_eq_true rfl) (Nat.le_of_ble_eq_true rfl) rfl dX9_word_86 ⟨Nat.zero_le _, Nat.zero_le _⟩ (fun H locs hW => ?_)
              refine lv_aload_n hx hb dX9_word_89 rfl (lv_at hl 1 rfl) ?_
              refine zk_get C hW fgX9_47 0 rfl rfl dX9_word_90 ?_
              refine zk_get C hW fgX9_127 14 rfl rfl dX9_word_93 ?_
              refine lv_bipush (v := 100) hx hb dX9_word_96 (by decide) ?_
              refine lv_iadd hx hb dX9_word_98 ?_
              obtain rfl := Option.some.inj hf
              exact zk_iret C hW rfl dX9_word_99
        · have hf := ipos c5 hf
          refine lv_aload_n hx hb dX9_word_30 rfl (lv_at hl 0 rfl) ?_
          refine zk_get C hW fgX9_19 0 rfl rfl dX9_word_31 ?_
          refine lv_iload_n hx hb dX9_word_34 rfl (lv_at hl 1 rfl) ?_
          obtain ⟨u13, eu13, hf⟩ := bnd hf
          refine zk_callI (As := [.int a0]) (rest := []) (W1 := wX9 G q t0.1 t0.2.1 t0.2.2.1 t0.2.2.2.1 t0.2.2.2.2.1 t0.2.2.2.2.2.1 t0.2.2.2.2.2.2.1 t0.2.2.2.2.2.2.2.1 t0.2.2.2.2.2.2.2.2.1 t0.2.2.2.2.2.2.2.2.2.1 t0.2.2.2.2.2.2.2.2.2.2.1 t0.2.2.2.2.2.2.2.2.2.2.2.1 t0.2.2.2.2.2.2.2.2.2.2.2.2) C hW hl mvX9_116 (c_X3_wordAt l G (fun k => q (k + 3)) t0.2.1 a0 u13 eu13) ⟨(Nat.le_of_ble_eq_true rfl), (Nat.le_of_ble_eq_true rfl)⟩ ⟨rfl, rfl⟩ [3, 4] rfl rfl rfl rfl (Nat.le_of_ble_eq_true rfl) (Nat.le_of_ble_eq_true rfl) rfl dX9_word_35 ⟨Nat.zero_le _, Nat.zero_le _⟩ (fun H locs hW => ?_)
          obtain rfl := Option.some.inj hf
          exact zk_iret C hW rfl dX9_word_38
      · have hf := ineg c4 hf
        refine lv_bipush (v := (-102)) hx hb dX9_word_23 (by decide) ?_
        obtain rfl := Option.some.inj hf
        exact zk_iret C hW rfl dX9_word_25
  · have hf := ipos c2 hf
    refine lv_bipush (v := (-101)) hx hb dX9_word_11 (by decide) ?_
    obtain rfl := Option.some.inj hf
    exact zk_iret C hW rfl dX9_word_13

set_option maxHeartbeats 4000000 in
set_option maxRecDepth 100000 in
theorem c_X9_change (l : Launch) (G : GG) (q : Nat → Nat) (t0 : zXS) (a0 : Int32) (a1 : Int32) (out : Int32 × zXS) (hf : f_X9_change t0 a0 a1 = some out) : CtI G l yX9_change (Cond.code yX9_change cX9_change 4 (some .int) :: WL) (zR 2 43) [.ref (q 0), .int a0, .int a1] (wX9 G q t0.1 t0.2.1 t0.2.2.1 t0.2.2.2.1 t0.2.2.2.2.1 t0.2.2.2.2.2.1 t0.2.2.2.2.2.2.1 t0.2.2.2.2.2.2.2.1 t0.2.2.2.2.2.2.2.2.1 t0.2.2.2.2.2.2.2.2.2.1 t0.2.2.2.2.2.2.2.2.2.2.1 t0.2.2.2.2.2.2.2.2.2.2.2.1 t0.2.2.2.2.2.2.2.2.2.2.2.2) out.1 (wX9 G q out.2.1 out.2.2.1 out.2.2.2.1 out.2.2.2.2.1 out.2.2.2.2.2.1 out.2.2.2.2.2.2.1 out.2.2.2.2.2.2.2.1 out.2.2.2.2.2.2.2.2.1 out.2.2.2.2.2.2.2.2.2.1 out.2.2.2.2.2.2.2.2.2.2.1 out.2.2.2.2.2.2.2.2.2.2.2.1 out.2.2.2.2.2.2.2.2.2.2.2.2.1 out.2.2.2.2.2.2.2.2.2.2.2.2.2) := by
  refine CtI.mk (cc := cX9_change) (nL := 4) (rt := (some .int)) (own := RX9) (nm := "change") (by decide) rfl rfl (Nat.le_of_ble_eq_true rfl) ?_
  intro p e s m below meth c A ls C hW hl
  have hx := C.1
  have hb := C.2.1
  have hl : lv_has ls 4 [(0, .ref (q 0)), (1, .int a0), (2, .int a1)] := hl
  unfold f_X9_change at hf
  refine lv_aload_n hx hb dX9_change_0 rfl (lv_at hl 0 rfl) ?_
  refine zk_get C hW fgX9_19 0 rfl rfl dX9_change_1 ?_
  refine lv_iload_n hx hb dX9_change_4 rfl (lv_at hl 1 rfl) ?_
  obtain ⟨u1, eu1, hf⟩ := bnd hf
  refine zk_callI (As := [.int a0]) (rest := []) (W1 := wX9 G q t0.1 t0.2.1 t0.2.2.1 t0.2.2.2.1 t0.2.2.2.2.1 t0.2.2.2.2.2.1 t0.2.2.2.2.2.2.1 t0.2.2.2.2.2.2.2.1 t0.2.2.2.2.2.2.2.2.1 t0.2.2.2.2.2.2.2.2.2.1 t0.2.2.2.2.2.2.2.2.2.2.1 t0.2.2.2.2.2.2.2.2.2.2.2.1 t0.2.2.2.2.2.2.2.2.2.2.2.2) C hW hl mvX9_112 (c_X3_has l G (fun k => q (k + 3)) t0.2.1 a0 u1 eu1) ⟨(Nat.le_of_ble_eq_true rfl), (Nat.le_of_ble_eq_true rfl)⟩ ⟨rfl, rfl⟩ [3, 4] rfl rfl rfl rfl (Nat.le_of_ble_eq_true rfl) (Nat.le_of_ble_eq_true rfl) rfl dX9_change_5 ⟨Nat.zero_le _, Nat.zero_le _⟩ (fun H locs hW => ?_)
  refine lv_if_ne (tgt := 14) hx hb dX9_change_8 (by decide) (fun c2 => ?_) (fun c2 => ?_)
  · have hf := ineg c2 hf
    refine lv_iload_n hx hb dX9_change_14 rfl (lv_at hl 2 rfl) ?_
    obtain ⟨u3, eu3, hf⟩ := bnd hf
    refine zk_callSI (As := [.int a1]) (rest := []) (W1 := wX9 G q t0.1 t0.2.1 t0.2.2.1 t0.2.2.2.1 t0.2.2.2.2.1 t0.2.2.2.2.2.1 t0.2.2.2.2.2.2.1 t0.2.2.2.2.2.2.2.1 t0.2.2.2.2.2.2.2.2.1 t0.2.2.2.2.2.2.2.2.2.1 t0.2.2.2.2.2.2.2.2.2.2.1 t0.2.2.2.2.2.2.2.2.2.2.2.1 t0.2.2.2.2.2.2.2.2.2.2.2.2) C hW hl msX9_130 (c_X9_isWord l G a1 u3 eu3) ⟨(Nat.le_of_ble_eq_true rfl), (Nat.le_of_ble_eq_true rfl)⟩ ⟨rfl, rfl⟩ [] rfl rfl rfl (Nat.le_of_ble_eq_true rfl) (Nat.le_of_ble_eq_true rfl) rfl dX9_change_15 ⟨Nat.zero_le _, Nat.zero_le _⟩ (fun H locs hW => ?_)
    refine lv_if_ne (tgt := 24) hx hb dX9_change_18 (by decide) (fun c4 => ?_) (fun c4 => ?_)
    · have hf := ineg c4 hf
      refine lv_aload_n hx hb dX9_change_24 rfl (lv_at hl 0 rfl) ?_
      refine zk_get C hW fgX9_19 0 rfl rfl dX9_change_25 ?_
      refine lv_iload_n hx hb dX9_change_28 rfl (lv_at hl 1 rfl) ?_
      obtain ⟨u5, eu5, hf⟩ := bnd hf
      refine zk_callI (As := [.int a0]) (rest := []) (W1 := wX9 G q t0.1 t0.2.1 t0.2.2.1 t0.2.2.2.1 t0.2.2.2.2.1 t0.2.2.2.2.2.1 t0.2.2.2.2.2.2.1 t0.2.2.2.2.2.2.2.1 t0.2.2.2.2.2.2.2.2.1 t0.2.2.2.2.2.2.2.2.2.1 t0.2.2.2.2.2.2.2.2.2.2.1 t0.2.2.2.2.2.2.2.2.2.2.2.1 t0.2.2.2.2.2.2.2.2.2.2.2.2) C hW hl mvX9_116 (c_X3_wordAt l G (fun k => q (k + 3)) t0.2.1 a0 u5 eu5) ⟨(Nat.le_of_ble_eq_true rfl), (Nat.le_of_ble_eq_true rfl)⟩ ⟨rfl, rfl⟩ [3, 4] rfl rfl rfl rfl (Nat.le_of_ble_eq_true rfl) (Nat.le_of_ble_eq_true rfl) rfl dX9_change_29 ⟨Nat.zero_le _, Nat.zero_le _⟩ (fun H locs hW => ?_)
      refine lv_istore_n (lv' := [(3, .int u5), (0, .ref (q 0)), (1, .int a0), (2, .int a1)]) hx hb dX9_change_32 rfl hl (by decide) rfl (fun ls hl => ?_)
      refine lv_aload_n hx hb dX9_change_33 rfl (lv_at hl 1 rfl) ?_
      refine zk_get C hW fgX9_19 0 rfl rfl dX9_change_34 ?_
      refine lv_iload_n hx hb dX9_change_37 rfl (lv_at hl 2 rfl) ?_
      refine lv_iload_n hx hb dX9_change_38 rfl (lv_at hl 3 rfl) ?_
      obtain ⟨u6, eu6, hf⟩ := bnd hf
      refine zk_callV (As := [.int a0, .int a1]) (rest := []) (W1 := wX9 G q t0.1 u6 t0.2.2.1 t0.2.2.2.1 t0.2.2.2.2.1 t0.2.2.2.2.2.1 t0.2.2.2.2.2.2.1 t0.2.2.2.2.2.2.2.1 t0.2.2.2.2.2.2.2.2.1 t0.2.2.2.2.2.2.2.2.2.1 t0.2.2.2.2.2.2.2.2.2.2.1 t0.2.2.2.2.2.2.2.2.2.2.2.1 t0.2.2.2.2.2.2.2.2.2.2.2.2) C hW hl mvX9_133 (c_X3_put l G (fun k => q (k + 3)) t0.2.1 a0 a1 u6 eu6) ⟨(Nat.le_of_ble_eq_true rfl), (Nat.le_of_ble_eq_true rfl)⟩ ⟨rfl, rfl⟩ [3, 4] rfl rfl rfl rfl (Nat.le_of_ble_eq_true rfl) (Nat.le_of_ble_eq_true rfl) rfl dX9_change_39 ⟨Nat.zero_le _, Nat.zero_le _⟩ (fun H locs hW => ?_)
      refine lv_aload_n hx hb dX9_change_42 rfl (lv_at hl 1 rfl) ?_
      refine lv_dup hx hb dX9_change_43 rfl ?_
      refine zk_get C hW fgX9_101 0 rfl rfl dX9_change_44 ?_
      refine lv_iconst (v := 1) hx hb dX9_change_47 (by decide) ?_
      refine lv_iadd hx hb dX9_change_48 ?_
      obtain ⟨z7, ez7, hf⟩ := bnd hf
      refine zk_putI (W1 := wX9 G q t0.1 u6 t0.2.2.1 t0.2.2.2.1 t0.2.2.2.2.1 t0.2.2.2.2.2.1 t0.2.2.2.2.2.2.1 t0.2.2.2.2.2.2.2.1 t0.2.2.2.2.2.2.2.2.1 t0.2.2.2.2.2.2.2.2.2.1 z7 t0.2.2.2.2.2.2.2.2.2.2.2.1 t0.2.2.2.2.2.2.2.2.2.2.2.2) C hW fpX9_101 0 (Option.some.inj ez7) rfl (Nat.le_of_ble_eq_true rfl) rfl dX9_change_49 (fun H locs hW => ?_)
      refine lv_iload_n hx hb dX9_change_52 rfl (lv_at hl 0 rfl) ?_
      obtain rfl := Option.some.inj hf
      exact zk_iret C hW rfl dX9_change_53
    · have hf := ipos c4 hf
      refine lv_bipush (v := (-102)) hx hb dX9_change_21 (by decide) ?_
      obtain rfl := Option.some.inj hf
      exact zk_iret C hW rfl dX9_change_23
  · have hf := ipos c2 hf
    refine lv_bipush (v := (-101)) hx hb dX9_change_11 (by decide) ?_
    obtain rfl := Option.some.inj hf
    exact zk_iret C hW rfl dX9_change_13

set_option maxHeartbeats 4000000 in
set_option maxRecDepth 100000 in
theorem c_X9_snow (l : Launch) (G : GG) (q : Nat → Nat) (t0 : zXS) (a0 : Int32) (out : Int32 × zXS) (hf : f_X9_snow t0 a0 = some out) : CtI G l yX9_snow (Cond.code yX9_snow cX9_snow 3 (some .int) :: WL) (zR 1 20) [.ref (q 0), .int a0] (wX9 G q t0.1 t0.2.1 t0.2.2.1 t0.2.2.2.1 t0.2.2.2.2.1 t0.2.2.2.2.2.1 t0.2.2.2.2.2.2.1 t0.2.2.2.2.2.2.2.1 t0.2.2.2.2.2.2.2.2.1 t0.2.2.2.2.2.2.2.2.2.1 t0.2.2.2.2.2.2.2.2.2.2.1 t0.2.2.2.2.2.2.2.2.2.2.2.1 t0.2.2.2.2.2.2.2.2.2.2.2.2) out.1 (wX9 G q out.2.1 out.2.2.1 out.2.2.2.1 out.2.2.2.2.1 out.2.2.2.2.2.1 out.2.2.2.2.2.2.1 out.2.2.2.2.2.2.2.1 out.2.2.2.2.2.2.2.2.1 out.2.2.2.2.2.2.2.2.2.1 out.2.2.2.2.2.2.2.2.2.2.1 out.2.2.2.2.2.2.2.2.2.2.2.1 out.2.2.2.2.2.2.2.2.2.2.2.2.1 out.2.2.2.2.2.2.2.2.2.2.2.2.2) := by
  refine CtI.mk (cc := cX9_snow) (nL := 3) (rt := (some .int)) (own := RX9) (nm := "snow") (by decide) rfl rfl (Nat.le_of_ble_eq_true rfl) ?_
  intro p e s m below meth c A ls C hW hl
  have hx := C.1
  have hb := C.2.1
  have hl : lv_has ls 3 [(0, .ref (q 0)), (1, .int a0)] := hl
  unfold f_X9_snow at hf
  refine lv_iload_n hx hb dX9_snow_0 rfl (lv_at hl 1 rfl) ?_
  refine lv_iconst (v := 1) hx hb dX9_snow_1 (by decide) ?_
  refine lv_icmp_lt (tgt := 11) hx hb dX9_snow_2 (by decide) (fun c1 => ?_) (fun c1 => ?_)
  · have hf := ipos c1 hf
    refine lv_bipush (v := (-102)) hx hb dX9_snow_11 (by decide) ?_
    obtain rfl := Option.some.inj hf
    exact zk_iret C hW rfl dX9_snow_13
  · have hf := ineg c1 hf
    refine lv_iload_n hx hb dX9_snow_5 rfl (lv_at hl 1 rfl) ?_
    refine lv_bipush (v := 9) hx hb dX9_snow_6 (by decide) ?_
    refine lv_icmp_le (tgt := 14) hx hb dX9_snow_8 (by decide) (fun c2 => ?_) (fun c2 => ?_)
    · have hf := ipos c2 hf
      refine lv_aload_n hx hb dX9_snow_14 rfl (lv_at hl 0 rfl) ?_
      obtain ⟨u3, eu3, hf⟩ := bnd hf
      refine zk_callBI (As := []) (rest := []) (W1 := wX9 G q t0.1 t0.2.1 t0.2.2.1 t0.2.2.2.1 t0.2.2.2.2.1 t0.2.2.2.2.2.1 t0.2.2.2.2.2.2.1 t0.2.2.2.2.2.2.2.1 t0.2.2.2.2.2.2.2.2.1 t0.2.2.2.2.2.2.2.2.2.1 t0.2.2.2.2.2.2.2.2.2.2.1 t0.2.2.2.2.2.2.2.2.2.2.2.1 t0.2.2.2.2.2.2.2.2.2.2.2.2) C hW hl mvX9_137 (c_X9_noLetter l G q t0 u3 eu3) ⟨(Nat.le_of_ble_eq_true rfl), (Nat.le_of_ble_eq_true rfl)⟩ ⟨rfl, rfl⟩ ([]) ([]) zE1 rfl rfl (Nat.le_of_ble_eq_true rfl) zE1r dX9_snow_15 ⟨Nat.zero_le _, Nat.zero_le _⟩ (fun H locs hW => ?_)
      refine lv_if_eq (tgt := 24) hx hb dX9_snow_18 (by decide) (fun c4 => ?_) (fun c4 => ?_)
      · have hf := ipos c4 hf
        refine lv_aload_n hx hb dX9_snow_24 rfl (lv_at hl 0 rfl) ?_
        refine zk_get C hW fgX9_19 0 rfl rfl dX9_snow_25 ?_
        refine zk_get C hW fgX9_140 3 rfl rfl dX9_snow_28 ?_
        refine lv_istore_n (lv' := [(2, .int t0.2.1.2.2), (0, .ref (q 0)), (1, .int a0)]) hx hb dX9_snow_31 rfl hl (by decide) rfl (fun ls hl => ?_)
        refine lv_aload_n hx hb dX9_snow_32 rfl (lv_at hl 1 rfl) ?_
        refine zk_get C hW fgX9_19 0 rfl rfl dX9_snow_33 ?_
        refine lv_iload_n hx hb dX9_snow_36 rfl (lv_at hl 2 rfl) ?_
        refine zk_putI (W1 := wX9 G q t0.1 (t0.2.1.1, t0.2.1.2.1, a0) t0.2.2.1 t0.2.2.2.1 t0.2.2.2.2.1 t0.2.2.2.2.2.1 t0.2.2.2.2.2.2.1 t0.2.2.2.2.2.2.2.1 t0.2.2.2.2.2.2.2.2.1 t0.2.2.2.2.2.2.2.2.2.1 t0.2.2.2.2.2.2.2.2.2.2.1 t0.2.2.2.2.2.2.2.2.2.2.2.1 t0.2.2.2.2.2.2.2.2.2.2.2.2) C hW fpX9_140 3 rfl rfl (Nat.le_of_ble_eq_true rfl) rfl dX9_snow_37 (fun H locs hW => ?_)
        refine lv_iload_n hx hb dX9_snow_40 rfl (lv_at hl 0 rfl) ?_
        obtain rfl := Option.some.inj hf
        exact zk_iret C hW rfl dX9_snow_41
      · have hf := ineg c4 hf
        refine lv_bipush (v := (-103)) hx hb dX9_snow_21 (by decide) ?_
        obtain rfl := Option.some.inj hf
        exact zk_iret C hW rfl dX9_snow_23
    · have hf := ineg c2 hf
      refine lv_bipush (v := (-102)) hx hb dX9_snow_11 (by decide) ?_
      obtain rfl := Option.some.inj hf
      exact zk_iret C hW rfl dX9_snow_13

set_option maxHeartbeats 4000000 in
set_option maxRecDepth 100000 in
theorem c_X9_listener (l : Launch) (G : GG) (q : Nat → Nat) (t0 : zXS) (a0 : Int32) (out : Int32 × zXS) (hf : f_X9_listener t0 a0 = some out) : CtI G l yX9_listener (Cond.code yX9_listener cX9_listener 2 (some .int) :: WL) (zR 1 21) [.ref (q 0), .int a0] (wX9 G q t0.1 t0.2.1 t0.2.2.1 t0.2.2.2.1 t0.2.2.2.2.1 t0.2.2.2.2.2.1 t0.2.2.2.2.2.2.1 t0.2.2.2.2.2.2.2.1 t0.2.2.2.2.2.2.2.2.1 t0.2.2.2.2.2.2.2.2.2.1 t0.2.2.2.2.2.2.2.2.2.2.1 t0.2.2.2.2.2.2.2.2.2.2.2.1 t0.2.2.2.2.2.2.2.2.2.2.2.2) out.1 (wX9 G q out.2.1 out.2.2.1 out.2.2.2.1 out.2.2.2.2.1 out.2.2.2.2.2.1 out.2.2.2.2.2.2.1 out.2.2.2.2.2.2.2.1 out.2.2.2.2.2.2.2.2.1 out.2.2.2.2.2.2.2.2.2.1 out.2.2.2.2.2.2.2.2.2.2.1 out.2.2.2.2.2.2.2.2.2.2.2.1 out.2.2.2.2.2.2.2.2.2.2.2.2.1 out.2.2.2.2.2.2.2.2.2.2.2.2.2) := by
  refine CtI.mk (cc := cX9_listener) (nL := 2) (rt := (some .int)) (own := RX9) (nm := "listener") (by decide) rfl rfl (Nat.le_of_ble_eq_true rfl) ?_
  intro p e s m below meth c A ls C hW hl
  have hx := C.1
  have hb := C.2.1
  have hl : lv_has ls 2 [(0, .ref (q 0)), (1, .int a0)] := hl
  unfold f_X9_listener at hf
  refine lv_iload_n hx hb dX9_listener_0 rfl (lv_at hl 1 rfl) ?_
  obtain ⟨u1, eu1, hf⟩ := bnd hf
  refine zk_callSI (As := [.int a0]) (rest := []) (W1 := wX9 G q t0.1 t0.2.1 t0.2.2.1 t0.2.2.2.1 t0.2.2.2.2.1 t0.2.2.2.2.2.1 t0.2.2.2.2.2.2.1 t0.2.2.2.2.2.2.2.1 t0.2.2.2.2.2.2.2.2.1 t0.2.2.2.2.2.2.2.2.2.1 t0.2.2.2.2.2.2.2.2.2.2.1 t0.2.2.2.2.2.2.2.2.2.2.2.1 t0.2.2.2.2.2.2.2.2.2.2.2.2) C hW hl msX9_143 (c_X9_isKind l G a0 u1 eu1) ⟨(Nat.le_of_ble_eq_true rfl), (Nat.le_of_ble_eq_true rfl)⟩ ⟨rfl, rfl⟩ [] rfl rfl rfl (Nat.le_of_ble_eq_true rfl) (Nat.le_of_ble_eq_true rfl) rfl dX9_listener_1 ⟨Nat.zero_le _, Nat.zero_le _⟩ (fun H locs hW => ?_)
  refine lv_if_ne (tgt := 10) hx hb dX9_listener_4 (by decide) (fun c2 => ?_) (fun c2 => ?_)
  · have hf := ineg c2 hf
    refine lv_aload_n hx hb dX9_listener_10 rfl (lv_at hl 0 rfl) ?_
    obtain ⟨u3, eu3, hf⟩ := bnd hf
    refine zk_callBI (As := []) (rest := []) (W1 := wX9 G q t0.1 t0.2.1 t0.2.2.1 t0.2.2.2.1 t0.2.2.2.2.1 t0.2.2.2.2.2.1 t0.2.2.2.2.2.2.1 t0.2.2.2.2.2.2.2.1 t0.2.2.2.2.2.2.2.2.1 t0.2.2.2.2.2.2.2.2.2.1 t0.2.2.2.2.2.2.2.2.2.2.1 t0.2.2.2.2.2.2.2.2.2.2.2.1 t0.2.2.2.2.2.2.2.2.2.2.2.2) C hW hl mvX9_137 (c_X9_noLetter l G q t0 u3 eu3) ⟨(Nat.le_of_ble_eq_true rfl), (Nat.le_of_ble_eq_true rfl)⟩ ⟨rfl, rfl⟩ ([]) ([]) zE1 rfl rfl (Nat.le_of_ble_eq_true rfl) zE1r dX9_listener_11 ⟨Nat.zero_le _, Nat.zero_le _⟩ (fun H locs hW => ?_)
    refine lv_if_eq (tgt := 20) hx hb dX9_listener_14 (by decide) (fun c4 => ?_) (fun c4 => ?_)
    · have hf := ipos c4 hf
      refine lv_aload_n hx hb dX9_listener_20 rfl (lv_at hl 0 rfl) ?_
      refine zk_get C hW fgX9_26 0 rfl rfl dX9_listener_21 ?_
      refine zk_get C hW fgX9_99 5 rfl rfl dX9_listener_24 ?_
      refine lv_iconst (v := 4) hx hb dX9_listener_27 (by decide) ?_
      refine lv_icmp_lt (tgt := 34) hx hb dX9_listener_28 (by decide) (fun c5 => ?_) (fun c5 => ?_)
      · have hf := ipos c5 hf
        refine lv_aload_n hx hb dX9_listener_34 rfl (lv_at hl 0 rfl) ?_
        refine zk_get C hW fgX9_26 0 rfl rfl dX9_listener_35 ?_
        refine lv_iload_n hx hb dX9_listener_38 rfl (lv_at hl 1 rfl) ?_
        obtain ⟨u6, eu6, hf⟩ := bnd hf
        refine zk_callV (As := [.int a0]) (rest := []) (W1 := wX9 G q t0.1 t0.2.1 u6 t0.2.2.2.1 t0.2.2.2.2.1 t0.2.2.2.2.2.1 t0.2.2.2.2.2.2.1 t0.2.2.2.2.2.2.2.1 t0.2.2.2.2.2.2.2.2.1 t0.2.2.2.2.2.2.2.2.2.1 t0.2.2.2.2.2.2.2.2.2.2.1 t0.2.2.2.2.2.2.2.2.2.2.2.1 t0.2.2.2.2.2.2.2.2.2.2.2.2) C hW hl mvX9_146 (c_X4_add l G (fun k => q (k + 5)) t0.2.2.1 a0 u6 eu6) ⟨(Nat.le_of_ble_eq_true rfl), (Nat.le_of_ble_eq_true rfl)⟩ ⟨rfl, rfl⟩ [5, 6] rfl rfl rfl rfl (Nat.le_of_ble_eq_true rfl) (Nat.le_of_ble_eq_true rfl) rfl dX9_listener_39 ⟨Nat.zero_le _, Nat.zero_le _⟩ (fun H locs hW => ?_)
        refine lv_aload_n hx hb dX9_listener_42 rfl (lv_at hl 0 rfl) ?_
        refine zk_get C hW fgX9_26 0 rfl rfl dX9_listener_43 ?_
        refine zk_get C hW fgX9_99 5 rfl rfl dX9_listener_46 ?_
        refine lv_iconst (v := 1) hx hb dX9_listener_49 (by decide) ?_
        refine lv_isub hx hb dX9_listener_50 ?_
        obtain rfl := Option.some.inj hf
        exact zk_iret C hW rfl dX9_listener_51
      · have hf := ineg c5 hf
        refine lv_bipush (v := (-104)) hx hb dX9_listener_31 (by decide) ?_
        obtain rfl := Option.some.inj hf
        exact zk_iret C hW rfl dX9_listener_33
    · have hf := ineg c4 hf
      refine lv_bipush (v := (-103)) hx hb dX9_listener_17 (by decide) ?_
      obtain rfl := Option.some.inj hf
      exact zk_iret C hW rfl dX9_listener_19
  · have hf := ipos c2 hf
    refine lv_bipush (v := (-102)) hx hb dX9_listener_7 (by decide) ?_
    obtain rfl := Option.some.inj hf
    exact zk_iret C hW rfl dX9_listener_9

set_option maxHeartbeats 4000000 in
set_option maxRecDepth 100000 in
theorem c_X9_about (l : Launch) (G : GG) (q : Nat → Nat) (t0 : zXS) (a0 : Int32) (a1 : Int32) (out : Int32 × zXS) (hf : f_X9_about t0 a0 a1 = some out) : CtI G l yX9_about (Cond.code yX9_about cX9_about 6 (some .int) :: WL) (zR 4 89) [.ref (q 0), .int a0, .int a1] (wX9 G q t0.1 t0.2.1 t0.2.2.1 t0.2.2.2.1 t0.2.2.2.2.1 t0.2.2.2.2.2.1 t0.2.2.2.2.2.2.1 t0.2.2.2.2.2.2.2.1 t0.2.2.2.2.2.2.2.2.1 t0.2.2.2.2.2.2.2.2.2.1 t0.2.2.2.2.2.2.2.2.2.2.1 t0.2.2.2.2.2.2.2.2.2.2.2.1 t0.2.2.2.2.2.2.2.2.2.2.2.2) out.1 (wX9 G q out.2.1 out.2.2.1 out.2.2.2.1 out.2.2.2.2.1 out.2.2.2.2.2.1 out.2.2.2.2.2.2.1 out.2.2.2.2.2.2.2.1 out.2.2.2.2.2.2.2.2.1 out.2.2.2.2.2.2.2.2.2.1 out.2.2.2.2.2.2.2.2.2.2.1 out.2.2.2.2.2.2.2.2.2.2.2.1 out.2.2.2.2.2.2.2.2.2.2.2.2.1 out.2.2.2.2.2.2.2.2.2.2.2.2.2) := by
  refine CtI.mk (cc := cX9_about) (nL := 6) (rt := (some .int)) (own := RX9) (nm := "about") (by decide) rfl rfl (Nat.le_of_ble_eq_true rfl) ?_
  intro p e s m below meth c A ls C hW hl
  have hx := C.1
  have hb := C.2.1
  have hl : lv_has ls 6 [(0, .ref (q 0)), (1, .int a0), (2, .int a1)] := hl
  unfold f_X9_about at hf
  refine lv_aload_n hx hb dX9_about_0 rfl (lv_at hl 0 rfl) ?_
  refine zk_get C hW fgX9_26 0 rfl rfl dX9_about_1 ?_
  refine lv_iload_n hx hb dX9_about_4 rfl (lv_at hl 1 rfl) ?_
  obtain ⟨u1, eu1, hf⟩ := bnd hf
  refine zk_callI (As := [.int a0]) (rest := []) (W1 := wX9 G q t0.1 t0.2.1 t0.2.2.1 t0.2.2.2.1 t0.2.2.2.2.1 t0.2.2.2.2.2.1 t0.2.2.2.2.2.2.1 t0.2.2.2.2.2.2.2.1 t0.2.2.2.2.2.2.2.2.1 t0.2.2.2.2.2.2.2.2.2.1 t0.2.2.2.2.2.2.2.2.2.2.1 t0.2.2.2.2.2.2.2.2.2.2.2.1 t0.2.2.2.2.2.2.2.2.2.2.2.2) C hW hl mvX9_147 (c_X4_has l G (fun k => q (k + 5)) t0.2.2.1 a0 u1 eu1) ⟨(Nat.le_of_ble_eq_true rfl), (Nat.le_of_ble_eq_true rfl)⟩ ⟨rfl, rfl⟩ [5, 6] rfl rfl rfl rfl (Nat.le_of_ble_eq_true rfl) (Nat.le_of_ble_eq_true rfl) rfl dX9_about_5 ⟨Nat.zero_le _, Nat.zero_le _⟩ (fun H locs hW => ?_)
  refine lv_if_ne (tgt := 14) hx hb dX9_about_8 (by decide) (fun c2 => ?_) (fun c2 => ?_)
  · have hf := ineg c2 hf
    refine lv_iload_n hx hb dX9_about_14 rfl (lv_at hl 2 rfl) ?_
    refine lv_if_lt (tgt := 24) hx hb dX9_about_15 (by decide) (fun c3 => ?_) (fun c3 => ?_)
    · have hf := ipos c3 hf
      refine lv_bipush (v := (-102)) hx hb dX9_about_24 (by decide) ?_
      obtain rfl := Option.some.inj hf
      exact zk_iret C hW rfl dX9_about_26
    · have hf := ineg c3 hf
      refine lv_iload_n hx hb dX9_about_18 rfl (lv_at hl 2 rfl) ?_
      refine lv_bipush (v := 6) hx hb dX9_about_19 (by decide) ?_
      refine lv_icmp_le (tgt := 27) hx hb dX9_about_21 (by decide) (fun c4 => ?_) (fun c4 => ?_)
      · have hf := ipos c4 hf
        refine lv_aload_n hx hb dX9_about_27 rfl (lv_at hl 0 rfl) ?_
        refine zk_get C hW fgX9_26 0 rfl rfl dX9_about_28 ?_
        refine lv_iload_n hx hb dX9_about_31 rfl (lv_at hl 1 rfl) ?_
        obtain ⟨u5, eu5, hf⟩ := bnd hf
        refine zk_callI (As := [.int a0]) (rest := []) (W1 := wX9 G q t0.1 t0.2.1 t0.2.2.1 t0.2.2.2.1 t0.2.2.2.2.1 t0.2.2.2.2.2.1 t0.2.2.2.2.2.2.1 t0.2.2.2.2.2.2.2.1 t0.2.2.2.2.2.2.2.2.1 t0.2.2.2.2.2.2.2.2.2.1 t0.2.2.2.2.2.2.2.2.2.2.1 t0.2.2.2.2.2.2.2.2.2.2.2.1 t0.2.2.2.2.2.2.2.2.2.2.2.2) C hW hl mvX9_148 (c_X4_kindOf l G (fun k => q (k + 5)) t0.2.2.1 a0 u5 eu5) ⟨(Nat.le_of_ble_eq_true rfl), (Nat.le_of_ble_eq_true rfl)⟩ ⟨rfl, rfl⟩ [5, 6] rfl rfl rfl rfl (Nat.le_of_ble_eq_true rfl) (Nat.le_of_ble_eq_true rfl) rfl dX9_about_32 ⟨Nat.zero_le _, Nat.zero_le _⟩ (fun H locs hW => ?_)
        refine lv_istore_n (lv' := [(3, .int u5), (0, .ref (q 0)), (1, .int a0), (2, .int a1)]) hx hb dX9_about_35 rfl hl (by decide) rfl (fun ls hl => ?_)
        refine lv_iload_n hx hb dX9_about_36 rfl (lv_at hl 3 rfl) ?_
        refine lv_if_ne (tgt := 42) hx hb dX9_about_37 (by decide) (fun c6 => ?_) (fun c6 => ?_)
        · have hf := ineg c6 hf
          refine lv_iload_n hx hb dX9_about_42 rfl (lv_at hl 3 rfl) ?_
          refine lv_iconst (v := 3) hx hb dX9_about_43 (by decide) ?_
          refine lv_icmp_le (tgt := 51) hx hb dX9_about_44 (by decide) (fun c7 => ?_) (fun c7 => ?_)
          · have hf := ipos c7 hf
            refine lv_iconst (v := 0) hx hb dX9_about_51 (by decide) ?_
            refine lv_istore (lv' := [(4, .int 0), (3, .int u5), (0, .ref (q 0)), (1, .int a0), (2, .int a1)]) hx hb dX9_about_52 hl (by decide) rfl (fun ls hl => ?_)
            refine lv_aload_n hx hb dX9_about_54 rfl (lv_at hl 2 rfl) ?_
            refine zk_get C hW fgX9_47 0 rfl rfl dX9_about_55 ?_
            refine lv_iload_n hx hb dX9_about_58 rfl (lv_at hl 1 rfl) ?_
            refine lv_aload_n hx hb dX9_about_59 rfl (lv_at hl 2 rfl) ?_
            refine zk_get C hW fgX9_19 0 rfl rfl dX9_about_60 ?_
            refine lv_iload hx hb dX9_about_63 (lv_at hl 0 rfl) ?_
            obtain ⟨u8, eu8, hf⟩ := bnd hf
            refine zk_callV (As := [.int u5, .ref (q 3), .int (bI false)]) (rest := []) (W1 := wX9 G q t0.1 t0.2.1 t0.2.2.1 t0.2.2.2.1 t0.2.2.2.2.1 u8 t0.2.2.2.2.2.2.1 t0.2.2.2.2.2.2.2.1 t0.2.2.2.2.2.2.2.2.1 t0.2.2.2.2.2.2.2.2.2.1 t0.2.2.2.2.2.2.2.2.2.2.1 t0.2.2.2.2.2.2.2.2.2.2.2.1 t0.2.2.2.2.2.2.2.2.2.2.2.2) C hW hl mvX9_151 (c_X6_readTo l G (fun k => q (k + 14)) (fun k => q (k + 3)) t0.2.2.2.2.2.1 u5 t0.2.1 false u8 eu8) ⟨(Nat.le_of_ble_eq_true rfl), (Nat.le_of_ble_eq_true rfl)⟩ ⟨rfl, rfl⟩ [14, 3, 4] rfl rfl rfl rfl (Nat.le_of_ble_eq_true rfl) (Nat.le_of_ble_eq_true rfl) rfl dX9_about_65 ⟨Nat.zero_le _, Nat.zero_le _⟩ (fun H locs hW => ?_)
            refine lv_iload hx hb dX9_about_68 (lv_at hl 0 rfl) ?_
            refine lv_if_eq (tgt := 79) hx hb dX9_about_70 (by decide) (fun c9 => ?_) (fun c9 => ?_)
            · refine lv_iload_n hx hb dX9_about_79 rfl (lv_at hl 4 rfl) ?_
              refine lv_istore (lv' := [(5, .int a1), (4, .int 0), (3, .int u5), (0, .ref (q 0)), (1, .int a0), (2, .int a1)]) hx hb dX9_about_80 hl (by decide) rfl (fun ls hl => ?_)
              refine lv_iload hx hb dX9_about_82 (lv_at hl 0 rfl) ?_
              refine lv_iconst (v := 1) hx hb dX9_about_84 (by decide) ?_
              refine lv_icmp_ne (tgt := 96) hx hb dX9_about_85 (by decide) (fun c10 => ?_) (fun c10 => ?_)
              · have hf := ineg c10 hf
                refine lv_iload hx hb dX9_about_96 (lv_at hl 0 rfl) ?_
                refine lv_iconst (v := 2) hx hb dX9_about_98 (by decide) ?_
                refine lv_icmp_ne (tgt := 113) hx hb dX9_about_99 (by decide) (fun c11 => ?_) (fun c11 => ?_)
                · have hf := ineg c11 hf
                  refine lv_aload_n hx hb dX9_about_113 rfl (lv_at hl 3 rfl) ?_
                  refine zk_get C hW fgX9_47 0 rfl rfl dX9_about_114 ?_
                  refine zk_get C hW fgX9_158 14 rfl rfl dX9_about_117 ?_
                  refine lv_if_eq (tgt := 127) hx hb dX9_about_120 (by decide) (fun c12 => ?_) (fun c12 => ?_)
                  · have hf := ipos c12 hf
                    refine lv_iconst (v := 0) hx hb dX9_about_127 (by decide) ?_
                    obtain rfl := Option.some.inj hf
                    exact zk_iret C hW rfl dX9_about_128
                  · have hf := ineg c12 hf
                    refine lv_iconst (v := 1) hx hb dX9_about_123 (by decide) ?_
                    refine lv_goto (tgt := 128) hx hb dX9_about_124 (by decide) ?_
                    obtain rfl := Option.some.inj hf
                    exact zk_iret C hW rfl dX9_about_128
                · have hf := ipos c11 hf
                  refine lv_aload_n hx hb dX9_about_102 rfl (lv_at hl 3 rfl) ?_
                  refine zk_get C hW fgX9_47 0 rfl rfl dX9_about_103 ?_
                  refine zk_get C hW fgX9_127 14 rfl rfl dX9_about_106 ?_
                  refine lv_bipush (v := 100) hx hb dX9_about_109 (by decide) ?_
                  refine lv_iadd hx hb dX9_about_111 ?_
                  obtain rfl := Option.some.inj hf
                  exact zk_iret C hW rfl dX9_about_112
              · have hf := ipos c10 hf
                refine lv_aload_n hx hb dX9_about_88 rfl (lv_at hl 3 rfl) ?_
                refine zk_get C hW fgX9_47 0 rfl rfl dX9_about_89 ?_
                refine zk_get C hW fgX9_155 14 rfl rfl dX9_about_92 ?_
                obtain rfl := Option.some.inj hf
                exact zk_iret C hW rfl dX9_about_95
            · exact absurd c9 (by decide)
          · have hf := ineg c7 hf
            refine lv_iconst (v := 1) hx hb dX9_about_47 (by decide) ?_
            refine lv_goto (tgt := 52) hx hb dX9_about_48 (by decide) ?_
            refine lv_istore (lv' := [(4, .int 1), (3, .int u5), (0, .ref (q 0)), (1, .int a0), (2, .int a1)]) hx hb dX9_about_52 hl (by decide) rfl (fun ls hl => ?_)
            refine lv_aload_n hx hb dX9_about_54 rfl (lv_at hl 2 rfl) ?_
            refine zk_get C hW fgX9_47 0 rfl rfl dX9_about_55 ?_
            refine lv_iload_n hx hb dX9_about_58 rfl (lv_at hl 1 rfl) ?_
            refine lv_aload_n hx hb dX9_about_59 rfl (lv_at hl 2 rfl) ?_
            refine zk_get C hW fgX9_19 0 rfl rfl dX9_about_60 ?_
            refine lv_iload hx hb dX9_about_63 (lv_at hl 0 rfl) ?_
            obtain ⟨u13, eu13, hf⟩ := bnd hf
            refine zk_callV (As := [.int u5, .ref (q 3), .int (bI true)]) (rest := []) (W1 := wX9 G q t0.1 t0.2.1 t0.2.2.1 t0.2.2.2.1 t0.2.2.2.2.1 u13 t0.2.2.2.2.2.2.1 t0.2.2.2.2.2.2.2.1 t0.2.2.2.2.2.2.2.2.1 t0.2.2.2.2.2.2.2.2.2.1 t0.2.2.2.2.2.2.2.2.2.2.1 t0.2.2.2.2.2.2.2.2.2.2.2.1 t0.2.2.2.2.2.2.2.2.2.2.2.2) C hW hl mvX9_151 (c_X6_readTo l G (fun k => q (k + 14)) (fun k => q (k + 3)) t0.2.2.2.2.2.1 u5 t0.2.1 true u13 eu13) ⟨(Nat.le_of_ble_eq_true rfl), (Nat.le_of_ble_eq_true rfl)⟩ ⟨rfl, rfl⟩ [14, 3, 4] rfl rfl rfl rfl (Nat.le_of_ble_eq_true rfl) (Nat.le_of_ble_eq_true rfl) rfl dX9_about_65 ⟨Nat.zero_le _, Nat.zero_le _⟩ (fun H locs hW => ?_)
            refine lv_iload hx hb dX9_about_68 (lv_at hl 0 rfl) ?_
            refine lv_if_eq (tgt := 79) hx hb dX9_about_70 (by decide) (fun c14 => ?_) (fun c14 => ?_)
            · exact absurd c14 (by decide)
            · refine lv_iload_n hx hb dX9_about_73 rfl (lv_at hl 4 rfl) ?_
              refine lv_iconst (v := 3) hx hb dX9_about_74 (by decide) ?_
              refine lv_isub hx hb dX9_about_75 ?_
              refine lv_goto (tgt := 80) hx hb dX9_about_76 (by decide) ?_
              refine lv_istore (lv' := [(5, .int (a1 - 3)), (4, .int 1), (3, .int u5), (0, .ref (q 0)), (1, .int a0), (2, .int a1)]) hx hb dX9_about_80 hl (by decide) rfl (fun ls hl => ?_)
              refine lv_iload hx hb dX9_about_82 (lv_at hl 0 rfl) ?_
              refine lv_iconst (v := 1) hx hb dX9_about_84 (by decide) ?_
              refine lv_icmp_ne (tgt := 96) hx hb dX9_about_85 (by decide) (fun c15 => ?_) (fun c15 => ?_)
              · have hf := ineg c15 hf
                refine lv_iload hx hb dX9_about_96 (lv_at hl 0 rfl) ?_
                refine lv_iconst (v := 2) hx hb dX9_about_98 (by decide) ?_
                refine lv_icmp_ne (tgt := 113) hx hb dX9_about_99 (by decide) (fun c16 => ?_) (fun c16 => ?_)
                · have hf := ineg c16 hf
                  refine lv_aload_n hx hb dX9_about_113 rfl (lv_at hl 3 rfl) ?_
                  refine zk_get C hW fgX9_47 0 rfl rfl dX9_about_114 ?_
                  refine zk_get C hW fgX9_158 14 rfl rfl dX9_about_117 ?_
                  refine lv_if_eq (tgt := 127) hx hb dX9_about_120 (by decide) (fun c17 => ?_) (fun c17 => ?_)
                  · have hf := ipos c17 hf
                    refine lv_iconst (v := 0) hx hb dX9_about_127 (by decide) ?_
                    obtain rfl := Option.some.inj hf
                    exact zk_iret C hW rfl dX9_about_128
                  · have hf := ineg c17 hf
                    refine lv_iconst (v := 1) hx hb dX9_about_123 (by decide) ?_
                    refine lv_goto (tgt := 128) hx hb dX9_about_124 (by decide) ?_
                    obtain rfl := Option.some.inj hf
                    exact zk_iret C hW rfl dX9_about_128
                · have hf := ipos c16 hf
                  refine lv_aload_n hx hb dX9_about_102 rfl (lv_at hl 3 rfl) ?_
                  refine zk_get C hW fgX9_47 0 rfl rfl dX9_about_103 ?_
                  refine zk_get C hW fgX9_127 14 rfl rfl dX9_about_106 ?_
                  refine lv_bipush (v := 100) hx hb dX9_about_109 (by decide) ?_
                  refine lv_iadd hx hb dX9_about_111 ?_
                  obtain rfl := Option.some.inj hf
                  exact zk_iret C hW rfl dX9_about_112
              · have hf := ipos c15 hf
                refine lv_aload_n hx hb dX9_about_88 rfl (lv_at hl 3 rfl) ?_
                refine zk_get C hW fgX9_47 0 rfl rfl dX9_about_89 ?_
                refine zk_get C hW fgX9_155 14 rfl rfl dX9_about_92 ?_
                obtain rfl := Option.some.inj hf
                exact zk_iret C hW rfl dX9_about_95
        · have hf := ipos c6 hf
          refine lv_iload_n hx hb dX9_about_40 rfl (lv_at hl 0 rfl) ?_
          obtain rfl := Option.some.inj hf
          exact zk_iret C hW rfl dX9_about_41
      · have hf := ineg c4 hf
        refine lv_bipush (v := (-102)) hx hb dX9_about_24 (by decide) ?_
        obtain rfl := Option.some.inj hf
        exact zk_iret C hW rfl dX9_about_26
  · have hf := ipos c2 hf
    refine lv_bipush (v := (-101)) hx hb dX9_about_11 (by decide) ?_
    obtain rfl := Option.some.inj hf
    exact zk_iret C hW rfl dX9_about_13

set_option maxHeartbeats 4000000 in
set_option maxRecDepth 100000 in
theorem c_X9_as (l : Launch) (G : GG) (q : Nat → Nat) (t0 : zXS) (a0 : Int32) (a1 : Int32) (out : Int32) (hf : f_X9_as t0 a0 a1 = some out) : CtI G l yX9_as (Cond.code yX9_as cX9_as 3 (some .int) :: WL) (zR 2 42) [.ref (q 0), .int a0, .int a1] (wX9 G q t0.1 t0.2.1 t0.2.2.1 t0.2.2.2.1 t0.2.2.2.2.1 t0.2.2.2.2.2.1 t0.2.2.2.2.2.2.1 t0.2.2.2.2.2.2.2.1 t0.2.2.2.2.2.2.2.2.1 t0.2.2.2.2.2.2.2.2.2.1 t0.2.2.2.2.2.2.2.2.2.2.1 t0.2.2.2.2.2.2.2.2.2.2.2.1 t0.2.2.2.2.2.2.2.2.2.2.2.2) out (wX9 G q t0.1 t0.2.1 t0.2.2.1 t0.2.2.2.1 t0.2.2.2.2.1 t0.2.2.2.2.2.1 t0.2.2.2.2.2.2.1 t0.2.2.2.2.2.2.2.1 t0.2.2.2.2.2.2.2.2.1 t0.2.2.2.2.2.2.2.2.2.1 t0.2.2.2.2.2.2.2.2.2.2.1 t0.2.2.2.2.2.2.2.2.2.2.2.1 t0.2.2.2.2.2.2.2.2.2.2.2.2) := by
  refine CtI.mk (cc := cX9_as) (nL := 3) (rt := (some .int)) (own := RX9) (nm := "as") (by decide) rfl rfl (Nat.le_of_ble_eq_true rfl) ?_
  intro p e s m below meth c A ls C hW hl
  have hx := C.1
  have hb := C.2.1
  have hl : lv_has ls 3 [(0, .ref (q 0)), (1, .int a0), (2, .int a1)] := hl
  unfold f_X9_as at hf
  refine lv_aload_n hx hb dX9_as_0 rfl (lv_at hl 0 rfl) ?_
  refine zk_get C hW fgX9_26 0 rfl rfl dX9_as_1 ?_
  refine lv_iload_n hx hb dX9_as_4 rfl (lv_at hl 1 rfl) ?_
  obtain ⟨u1, eu1, hf⟩ := bnd hf
  refine zk_callI (As := [.int a0]) (rest := []) (W1 := wX9 G q t0.1 t0.2.1 t0.2.2.1 t0.2.2.2.1 t0.2.2.2.2.1 t0.2.2.2.2.2.1 t0.2.2.2.2.2.2.1 t0.2.2.2.2.2.2.2.1 t0.2.2.2.2.2.2.2.2.1 t0.2.2.2.2.2.2.2.2.2.1 t0.2.2.2.2.2.2.2.2.2.2.1 t0.2.2.2.2.2.2.2.2.2.2.2.1 t0.2.2.2.2.2.2.2.2.2.2.2.2) C hW hl mvX9_147 (c_X4_has l G (fun k => q (k + 5)) t0.2.2.1 a0 u1 eu1) ⟨(Nat.le_of_ble_eq_true rfl), (Nat.le_of_ble_eq_true rfl)⟩ ⟨rfl, rfl⟩ [5, 6] rfl rfl rfl rfl (Nat.le_of_ble_eq_true rfl) (Nat.le_of_ble_eq_true rfl) rfl dX9_as_5 ⟨Nat.zero_le _, Nat.zero_le _⟩ (fun H locs hW => ?_)
  refine lv_if_ne (tgt := 14) hx hb dX9_as_8 (by decide) (fun c2 => ?_) (fun c2 => ?_)
  · have hf := ineg c2 hf
    refine lv_iload_n hx hb dX9_as_14 rfl (lv_at hl 2 rfl) ?_
    obtain ⟨u3, eu3, hf⟩ := bnd hf
    refine zk_callSI (As := [.int a1]) (rest := []) (W1 := wX9 G q t0.1 t0.2.1 t0.2.2.1 t0.2.2.2.1 t0.2.2.2.2.1 t0.2.2.2.2.2.1 t0.2.2.2.2.2.2.1 t0.2.2.2.2.2.2.2.1 t0.2.2.2.2.2.2.2.2.1 t0.2.2.2.2.2.2.2.2.2.1 t0.2.2.2.2.2.2.2.2.2.2.1 t0.2.2.2.2.2.2.2.2.2.2.2.1 t0.2.2.2.2.2.2.2.2.2.2.2.2) C hW hl msX9_143 (c_X9_isKind l G a1 u3 eu3) ⟨(Nat.le_of_ble_eq_true rfl), (Nat.le_of_ble_eq_true rfl)⟩ ⟨rfl, rfl⟩ [] rfl rfl rfl (Nat.le_of_ble_eq_true rfl) (Nat.le_of_ble_eq_true rfl) rfl dX9_as_15 ⟨Nat.zero_le _, Nat.zero_le _⟩ (fun H locs hW => ?_)
    refine lv_if_ne (tgt := 24) hx hb dX9_as_18 (by decide) (fun c4 => ?_) (fun c4 => ?_)
    · have hf := ineg c4 hf
      refine lv_aload_n hx hb dX9_as_24 rfl (lv_at hl 0 rfl) ?_
      refine zk_get C hW fgX9_26 0 rfl rfl dX9_as_25 ?_
      refine lv_iload_n hx hb dX9_as_28 rfl (lv_at hl 1 rfl) ?_
      obtain ⟨u5, eu5, hf⟩ := bnd hf
      refine zk_callI (As := [.int a0]) (rest := []) (W1 := wX9 G q t0.1 t0.2.1 t0.2.2.1 t0.2.2.2.1 t0.2.2.2.2.1 t0.2.2.2.2.2.1 t0.2.2.2.2.2.2.1 t0.2.2.2.2.2.2.2.1 t0.2.2.2.2.2.2.2.2.1 t0.2.2.2.2.2.2.2.2.2.1 t0.2.2.2.2.2.2.2.2.2.2.1 t0.2.2.2.2.2.2.2.2.2.2.2.1 t0.2.2.2.2.2.2.2.2.2.2.2.2) C hW hl mvX9_148 (c_X4_kindOf l G (fun k => q (k + 5)) t0.2.2.1 a0 u5 eu5) ⟨(Nat.le_of_ble_eq_true rfl), (Nat.le_of_ble_eq_true rfl)⟩ ⟨rfl, rfl⟩ [5, 6] rfl rfl rfl rfl (Nat.le_of_ble_eq_true rfl) (Nat.le_of_ble_eq_true rfl) rfl dX9_as_29 ⟨Nat.zero_le _, Nat.zero_le _⟩ (fun H locs hW => ?_)
      refine lv_iload_n hx hb dX9_as_32 rfl (lv_at hl 2 rfl) ?_
      obtain ⟨u6, eu6, hf⟩ := bnd hf
      refine zk_callSI (As := [.int u5, .int a1]) (rest := []) (W1 := wX9 G q t0.1 t0.2.1 t0.2.2.1 t0.2.2.2.1 t0.2.2.2.2.1 t0.2.2.2.2.2.1 t0.2.2.2.2.2.2.1 t0.2.2.2.2.2.2.2.1 t0.2.2.2.2.2.2.2.2.1 t0.2.2.2.2.2.2.2.2.2.1 t0.2.2.2.2.2.2.2.2.2.2.1 t0.2.2.2.2.2.2.2.2.2.2.2.1 t0.2.2.2.2.2.2.2.2.2.2.2.2) C hW hl msX9_161 (c_X9_isSuch l G u5 a1 u6 eu6) ⟨(Nat.le_of_ble_eq_true rfl), (Nat.le_of_ble_eq_true rfl)⟩ ⟨rfl, rfl⟩ [] rfl rfl rfl (Nat.le_of_ble_eq_true rfl) (Nat.le_of_ble_eq_true rfl) rfl dX9_as_33 ⟨Nat.zero_le _, Nat.zero_le _⟩ (fun H locs hW => ?_)
      refine lv_if_eq (tgt := 43) hx hb dX9_as_36 (by decide) (fun c7 => ?_) (fun c7 => ?_)
      · have hf := ipos c7 hf
        refine lv_iconst (v := (-1)) hx hb dX9_as_43 (by decide) ?_
        obtain rfl := Option.some.inj hf
        exact zk_iret C hW rfl dX9_as_44
      · have hf := ineg c7 hf
        refine lv_iload_n hx hb dX9_as_39 rfl (lv_at hl 1 rfl) ?_
        refine lv_goto (tgt := 44) hx hb dX9_as_40 (by decide) ?_
        obtain rfl := Option.some.inj hf
        exact zk_iret C hW rfl dX9_as_44
    · have hf := ipos c4 hf
      refine lv_bipush (v := (-102)) hx hb dX9_as_21 (by decide) ?_
      obtain rfl := Option.some.inj hf
      exact zk_iret C hW rfl dX9_as_23
  · have hf := ipos c2 hf
    refine lv_bipush (v := (-101)) hx hb dX9_as_11 (by decide) ?_
    obtain rfl := Option.some.inj hf
    exact zk_iret C hW rfl dX9_as_13
