set_option maxHeartbeats 4000000 in
set_option maxRecDepth 100000 in
theorem c_X3_has (l : Launch) (G : GG) (q : Nat → Nat) (t0 : zLT) (a0 : Int32) (out : Bool) (hf : f_X3_has t0 a0 = some out) : CtI G l yX3_has (Cond.code yX3_has cX3_has 2 (some .boolean) :: WL) (zR 0 0) [.ref (q 0), .int a0] (wX3 G q t0.1 t0.2.1 t0.2.2) (bI out) (wX3 G q t0.1 t0.2.1 t0.2.2) := by
  refine CtI.mk (cc := cX3_has) (nL := 2) (rt := (some .boolean)) (own := RX3) (nm := "has") (by decide) rfl rfl (Nat.le_of_ble_eq_true rfl) ?_
  intro p e s m below meth c A ls C hW hl
  have hx := C.1
  have hb := C.2.1
  have hl : lv_has ls 2 [(0, .ref (q 0)), (1, .int a0)] := hl
  unfold f_X3_has at hf
  refine lv_iload_n hx hb dX3_has_0 rfl (lv_at hl 1 rfl) ?_
  refine lv_if_lt (tgt := 25) hx hb dX3_has_1 (by decide) (fun c1 => ?_) (fun c1 => ?_)
  · have hf := ipos c1 hf
    refine lv_iconst (v := 0) hx hb dX3_has_25 (by decide) ?_
    obtain rfl := Option.some.inj hf
    exact zk_zret false C hW rfl dX3_has_26
  · have hf := ineg c1 hf
    refine lv_iload_n hx hb dX3_has_4 rfl (lv_at hl 1 rfl) ?_
    refine lv_aload_n hx hb dX3_has_5 rfl (lv_at hl 0 rfl) ?_
    refine zk_get C hW fgX3_15 0 rfl rfl dX3_has_6 ?_
    refine lv_icmp_ge (tgt := 25) hx hb dX3_has_9 (by decide) (fun c2 => ?_) (fun c2 => ?_)
    · have hf := ipos c2 hf
      refine lv_iconst (v := 0) hx hb dX3_has_25 (by decide) ?_
      obtain rfl := Option.some.inj hf
      exact zk_zret false C hW rfl dX3_has_26
    · have hf := ineg c2 hf
      refine lv_iload_n hx hb dX3_has_12 rfl (lv_at hl 1 rfl) ?_
      refine lv_aload_n hx hb dX3_has_13 rfl (lv_at hl 0 rfl) ?_
      refine zk_get C hW fgX3_9 0 rfl rfl dX3_has_14 ?_
      refine zk_alen C hW 1 rfl dX3_has_17 ?_
      refine lv_icmp_ge (tgt := 25) hx hb dX3_has_18 (by decide) (fun c3 => ?_) (fun c3 => ?_)
      · have hf := ipos c3 hf
        refine lv_iconst (v := 0) hx hb dX3_has_25 (by decide) ?_
        obtain rfl := Option.some.inj hf
        exact zk_zret false C hW rfl dX3_has_26
      · have hf := ineg c3 hf
        refine lv_iconst (v := 1) hx hb dX3_has_21 (by decide) ?_
        refine lv_goto (tgt := 26) hx hb dX3_has_22 (by decide) ?_
        obtain rfl := Option.some.inj hf
        exact zk_zret true C hW rfl dX3_has_26

set_option maxHeartbeats 4000000 in
set_option maxRecDepth 100000 in
theorem c_X3_wordAt (l : Launch) (G : GG) (q : Nat → Nat) (t0 : zLT) (a0 : Int32) (out : Int32) (hf : f_X3_wordAt t0 a0 = some out) : CtI G l yX3_wordAt (Cond.code yX3_wordAt cX3_wordAt 2 (some .int) :: WL) (zR 0 0) [.ref (q 0), .int a0] (wX3 G q t0.1 t0.2.1 t0.2.2) out (wX3 G q t0.1 t0.2.1 t0.2.2) := by
  refine CtI.mk (cc := cX3_wordAt) (nL := 2) (rt := (some .int)) (own := RX3) (nm := "wordAt") (by decide) rfl rfl (Nat.le_of_ble_eq_true rfl) ?_
  intro p e s m below meth c A ls C hW hl
  have hx := C.1
  have hb := C.2.1
  have hl : lv_has ls 2 [(0, .ref (q 0)), (1, .int a0)] := hl
  unfold f_X3_wordAt at hf
  refine lv_iload_n hx hb dX3_wordAt_0 rfl (lv_at hl 1 rfl) ?_
  refine lv_if_lt (tgt := 30) hx hb dX3_wordAt_1 (by decide) (fun c1 => ?_) (fun c1 => ?_)
  · have hf := ipos c1 hf
    refine lv_iconst (v := (-1)) hx hb dX3_wordAt_30 (by decide) ?_
    obtain rfl := Option.some.inj hf
    exact zk_iret C hW rfl dX3_wordAt_31
  · have hf := ineg c1 hf
    refine lv_iload_n hx hb dX3_wordAt_4 rfl (lv_at hl 1 rfl) ?_
    refine lv_aload_n hx hb dX3_wordAt_5 rfl (lv_at hl 0 rfl) ?_
    refine zk_get C hW fgX3_15 0 rfl rfl dX3_wordAt_6 ?_
    refine lv_icmp_ge (tgt := 30) hx hb dX3_wordAt_9 (by decide) (fun c2 => ?_) (fun c2 => ?_)
    · have hf := ipos c2 hf
      refine lv_iconst (v := (-1)) hx hb dX3_wordAt_30 (by decide) ?_
      obtain rfl := Option.some.inj hf
      exact zk_iret C hW rfl dX3_wordAt_31
    · have hf := ineg c2 hf
      refine lv_iload_n hx hb dX3_wordAt_12 rfl (lv_at hl 1 rfl) ?_
      refine lv_aload_n hx hb dX3_wordAt_13 rfl (lv_at hl 0 rfl) ?_
      refine zk_get C hW fgX3_9 0 rfl rfl dX3_wordAt_14 ?_
      refine zk_alen C hW 1 rfl dX3_wordAt_17 ?_
      refine lv_icmp_ge (tgt := 30) hx hb dX3_wordAt_18 (by decide) (fun c3 => ?_) (fun c3 => ?_)
      · have hf := ipos c3 hf
        refine lv_iconst (v := (-1)) hx hb dX3_wordAt_30 (by decide) ?_
        obtain rfl := Option.some.inj hf
        exact zk_iret C hW rfl dX3_wordAt_31
      · have hf := ineg c3 hf
        refine lv_aload_n hx hb dX3_wordAt_21 rfl (lv_at hl 0 rfl) ?_
        refine zk_get C hW fgX3_9 0 rfl rfl dX3_wordAt_22 ?_
        refine lv_iload_n hx hb dX3_wordAt_25 rfl (lv_at hl 1 rfl) ?_
        obtain ⟨g4, hf⟩ := grd hf
        refine zk_iald C hW 1 g4 rfl dX3_wordAt_26 ?_
        refine lv_goto (tgt := 31) hx hb dX3_wordAt_27 (by decide) ?_
        obtain rfl := Option.some.inj hf
        exact zk_iret C hW rfl dX3_wordAt_31

set_option maxHeartbeats 4000000 in
set_option maxRecDepth 100000 in
theorem c_X3_put (l : Launch) (G : GG) (q : Nat → Nat) (t0 : zLT) (a0 : Int32) (a1 : Int32) (out : zLT) (hf : f_X3_put t0 a0 a1 = some out) : CtV G l yX3_put (Cond.code yX3_put cX3_put 3 none :: WL) (zR 1 21) [.ref (q 0), .int a0, .int a1] (wX3 G q t0.1 t0.2.1 t0.2.2) (wX3 G q out.1 out.2.1 out.2.2) := by
  refine CtV.mk (cc := cX3_put) (nL := 3) (rt := none) (own := RX3) (nm := "put") (by decide) rfl rfl (Nat.le_of_ble_eq_true rfl) ?_
  intro p e s m below meth c A ls C hW hl
  have hx := C.1
  have hb := C.2.1
  have hl : lv_has ls 3 [(0, .ref (q 0)), (1, .int a0), (2, .int a1)] := hl
  unfold f_X3_put at hf
  refine lv_aload_n hx hb dX3_put_0 rfl (lv_at hl 0 rfl) ?_
  refine lv_iload_n hx hb dX3_put_1 rfl (lv_at hl 1 rfl) ?_
  obtain ⟨u1, eu1, hf⟩ := bnd hf
  refine zk_callBI (As := [.int a0]) (rest := []) (W1 := wX3 G q t0.1 t0.2.1 t0.2.2) C hW hl mvX3_19 (c_X3_has l G q t0 a0 u1 eu1) ⟨(Nat.le_of_ble_eq_true rfl), (Nat.le_of_ble_eq_true rfl)⟩ ⟨rfl, rfl⟩ ([]) ([]) zE1 rfl rfl (Nat.le_of_ble_eq_true rfl) zE1r dX3_put_2 ⟨Nat.zero_le _, Nat.zero_le _⟩ (fun H locs hW => ?_)
  refine lv_if_eq (tgt := 15) hx hb dX3_put_5 (by decide) (fun c2 => ?_) (fun c2 => ?_)
  · have hf := ipos c2 hf
    obtain rfl := Option.some.inj hf
    exact zk_vret C hW dX3_put_15
  · have hf := ineg c2 hf
    refine lv_aload_n hx hb dX3_put_8 rfl (lv_at hl 0 rfl) ?_
    refine zk_get C hW fgX3_9 0 rfl rfl dX3_put_9 ?_
    refine lv_iload_n hx hb dX3_put_12 rfl (lv_at hl 1 rfl) ?_
    refine lv_iload_n hx hb dX3_put_13 rfl (lv_at hl 2 rfl) ?_
    obtain ⟨g4, hf⟩ := grd hf
    obtain ⟨z3, ez3, hf⟩ := bnd hf
    refine zk_iast (W1 := wX3 G q z3 t0.2.1 t0.2.2) C hW 1 g4 (Option.some.inj ez3) rfl rfl dX3_put_14 (fun H locs hW => ?_)
    obtain rfl := Option.some.inj hf
    exact zk_vret C hW dX3_put_15

set_option maxHeartbeats 4000000 in
set_option maxRecDepth 100000 in
theorem c_X3_add (l : Launch) (G : GG) (q : Nat → Nat) (t0 : zLT) (a0 : Int32) (out : zLT) (hf : f_X3_add t0 a0 = some out) : CtV G l yX3_add (Cond.code yX3_add cX3_add 2 none :: WL) (zR 0 0) [.ref (q 0), .int a0] (wX3 G q t0.1 t0.2.1 t0.2.2) (wX3 G q out.1 out.2.1 out.2.2) := by
  refine CtV.mk (cc := cX3_add) (nL := 2) (rt := none) (own := RX3) (nm := "add") (by decide) rfl rfl (Nat.le_of_ble_eq_true rfl) ?_
  intro p e s m below meth c A ls C hW hl
  have hx := C.1
  have hb := C.2.1
  have hl : lv_has ls 2 [(0, .ref (q 0)), (1, .int a0)] := hl
  unfold f_X3_add at hf
  refine lv_aload_n hx hb dX3_add_0 rfl (lv_at hl 0 rfl) ?_
  refine zk_get C hW fgX3_15 0 rfl rfl dX3_add_1 ?_
  refine lv_if_lt (tgt := 19) hx hb dX3_add_4 (by decide) (fun c1 => ?_) (fun c1 => ?_)
  · have hf := ipos c1 hf
    obtain rfl := Option.some.inj hf
    exact zk_vret C hW dX3_add_19
  · have hf := ineg c1 hf
    refine lv_aload_n hx hb dX3_add_7 rfl (lv_at hl 0 rfl) ?_
    refine zk_get C hW fgX3_15 0 rfl rfl dX3_add_8 ?_
    refine lv_aload_n hx hb dX3_add_11 rfl (lv_at hl 0 rfl) ?_
    refine zk_get C hW fgX3_9 0 rfl rfl dX3_add_12 ?_
    refine zk_alen C hW 1 rfl dX3_add_15 ?_
    refine lv_icmp_lt (tgt := 20) hx hb dX3_add_16 (by decide) (fun c2 => ?_) (fun c2 => ?_)
    · have hf := ipos c2 hf
      refine lv_aload_n hx hb dX3_add_20 rfl (lv_at hl 0 rfl) ?_
      refine zk_get C hW fgX3_9 0 rfl rfl dX3_add_21 ?_
      refine lv_aload_n hx hb dX3_add_24 rfl (lv_at hl 0 rfl) ?_
      refine zk_get C hW fgX3_15 0 rfl rfl dX3_add_25 ?_
      refine lv_iload_n hx hb dX3_add_28 rfl (lv_at hl 1 rfl) ?_
      obtain ⟨g4, hf⟩ := grd hf
      obtain ⟨z3, ez3, hf⟩ := bnd hf
      refine zk_iast (W1 := wX3 G q z3 t0.2.1 t0.2.2) C hW 1 g4 (Option.some.inj ez3) rfl rfl dX3_add_29 (fun H locs hW => ?_)
      refine lv_aload_n hx hb dX3_add_30 rfl (lv_at hl 0 rfl) ?_
      refine lv_dup hx hb dX3_add_31 rfl ?_
      refine zk_get C hW fgX3_15 0 rfl rfl dX3_add_32 ?_
      refine lv_iconst (v := 1) hx hb dX3_add_35 (by decide) ?_
      refine lv_iadd hx hb dX3_add_36 ?_
      obtain ⟨z5, ez5, hf⟩ := bnd hf
      refine zk_putI (W1 := wX3 G q z3 z5 t0.2.2) C hW fpX3_15 0 (Option.some.inj ez5) rfl (Nat.le_of_ble_eq_true rfl) rfl dX3_add_37 (fun H locs hW => ?_)
      obtain rfl := Option.some.inj hf
      exact zk_vret C hW dX3_add_40
    · have hf := ineg c2 hf
      obtain rfl := Option.some.inj hf
      exact zk_vret C hW dX3_add_19

set_option maxHeartbeats 4000000 in
set_option maxRecDepth 100000 in
theorem c_X3_clear (l : Launch) (G : GG) (q : Nat → Nat) (t0 : zLT) (out : zLT) (hf : f_X3_clear t0 = some out) : CtV G l yX3_clear (Cond.code yX3_clear cX3_clear 1 none :: WL) (zR 0 0) [.ref (q 0)] (wX3 G q t0.1 t0.2.1 t0.2.2) (wX3 G q out.1 out.2.1 out.2.2) := by
  refine CtV.mk (cc := cX3_clear) (nL := 1) (rt := none) (own := RX3) (nm := "clear") (by decide) rfl rfl (Nat.le_of_ble_eq_true rfl) ?_
  intro p e s m below meth c A ls C hW hl
  have hx := C.1
  have hb := C.2.1
  have hl : lv_has ls 1 [(0, .ref (q 0))] := hl
  unfold f_X3_clear at hf
  refine lv_aload_n hx hb dX3_clear_0 rfl (lv_at hl 0 rfl) ?_
  refine lv_iconst (v := 0) hx hb dX3_clear_1 (by decide) ?_
  refine zk_putI (W1 := wX3 G q t0.1 0 t0.2.2) C hW fpX3_15 0 rfl rfl (Nat.le_of_ble_eq_true rfl) rfl dX3_clear_2 (fun H locs hW => ?_)
  refine lv_aload_n hx hb dX3_clear_5 rfl (lv_at hl 0 rfl) ?_
  refine lv_iconst (v := 0) hx hb dX3_clear_6 (by decide) ?_
  refine zk_putI (W1 := wX3 G q t0.1 0 0) C hW fpX3_23 0 rfl rfl (Nat.le_of_ble_eq_true rfl) rfl dX3_clear_7 (fun H locs hW => ?_)
  obtain rfl := Option.some.inj hf
  exact zk_vret C hW dX3_clear_10

set_option maxHeartbeats 4000000 in
set_option maxRecDepth 100000 in
theorem w_X3_copy_6 {p : Program} {e : Env} {s : State} {m : MethodId} {args : Array Value} {below : List Frame} {meth : Method} {c : Code} {A : Nat → Prop} (l : Launch) (G : GG) (q : Nat → Nat) (q1 : Nat → Nat) (s1_0 : (Nat → Int32)) (s1_1 : Int32) (s1_2 : Int32) (out : zLT) (C : CX p s m args meth c cX3_copy 3 RX3 none "copy") {K : Int32 → (Nat → Int32) → Int32 → Int32 → Option (zLT)} (hK : ∀ (v2 : Int32) (s0_0 : (Nat → Int32)) (s0_1 : Int32) (s0_2 : Int32) , K v2 s0_0 s0_1 s0_2 = some out → ∀ (H : Heap) (locs : List Loc) (ls : Array Slot), KW G A s (wX3 G q s0_0 s0_1 s0_2 ++ wX3 G q1 s1_0 s1_1 s1_2) H locs → lv_has ls 3 [(0, .ref (q 0)), (1, .ref (q1 0))] → W p l e (zR 1 21) s m args below meth c H locs 0 0 (QV G A (wX3 G q out.1 out.2.1 out.2.2 ++ wX3 G q1 ((s1_0, s1_1, s1_2).1) ((s1_0, s1_1, s1_2).2.1) ((s1_0, s1_1, s1_2).2.2)) below args s) (F0 m 29 ls [])) :
    ∀ (n : Nat) (v2 : Int32) (s0_0 : (Nat → Int32)) (s0_1 : Int32) (s0_2 : Int32) , lp_X3_copy_6 s1_0 s1_1 s1_2 K n v2 s0_0 s0_1 s0_2 = some out → ∀ (H : Heap) (locs : List Loc) (ls : Array Slot), KW G A s (wX3 G q s0_0 s0_1 s0_2 ++ wX3 G q1 s1_0 s1_1 s1_2) H locs → lv_has ls 3 [(0, .ref (q 0)), (1, .ref (q1 0)), (2, .int v2)] → W p l e (zR 1 21) s m args below meth c H locs 0 0 (QV G A (wX3 G q out.1 out.2.1 out.2.2 ++ wX3 G q1 ((s1_0, s1_1, s1_2).1) ((s1_0, s1_1, s1_2).2.1) ((s1_0, s1_1, s1_2).2.2)) below args s) (F0 m 6 ls []) := by
  have hx := C.1
  have hb := C.2.1
  intro n
  induction n with
  | zero => intro v2 s0_0 s0_1 s0_2 hf; exact nomatch (show (none : Option (zLT)) = some out from hf)
  | succ n ih =>
    intro v2 s0_0 s0_1 s0_2 hf H locs ls hW hl
    rw [lp_X3_copy_6] at hf
    refine lv_iload_n hx hb dX3_copy_6 rfl (lv_at hl 2 rfl) ?_
    refine lv_aload_n hx hb dX3_copy_7 rfl (lv_at hl 1 rfl) ?_
    refine zk_get C hW fgX3_15 2 rfl rfl dX3_copy_8 ?_
    refine lv_icmp_ge (tgt := 29) hx hb dX3_copy_11 (by decide) (fun c2 => ?_) (fun c2 => ?_)
    · have hf := ipos c2 hf
      exact hK v2 s0_0 s0_1 s0_2 hf _ _ _ hW (lv_sub hl [0, 1] rfl)
    · have hf := ineg c2 hf
      refine lv_aload_n hx hb dX3_copy_14 rfl (lv_at hl 0 rfl) ?_
      refine lv_aload_n hx hb dX3_copy_15 rfl (lv_at hl 1 rfl) ?_
      refine lv_iload_n hx hb dX3_copy_16 rfl (lv_at hl 2 rfl) ?_
      obtain ⟨u3, eu3, hf⟩ := bnd hf
      refine zk_callBI (As := [.int v2]) (rest := [.ref (q 0)]) (W1 := wX3 G q s0_0 s0_1 s0_2 ++ wX3 G q1 s1_0 s1_1 s1_2) C hW hl mvX3_29 (c_X3_wordAt l G q1 (s1_0, s1_1, s1_2) v2 u3 eu3) ⟨(Nat.le_of_ble_eq_true rfl), (Nat.le_of_ble_eq_true rfl)⟩ ⟨rfl, rfl⟩ (wX3 G q s0_0 s0_1 s0_2) ([]) zE3 rfl rfl (Nat.le_of_ble_eq_true rfl) zE3r dX3_copy_17 ⟨Nat.zero_le _, Nat.zero_le _⟩ (fun H locs hW => ?_)
      obtain ⟨u4, eu4, hf⟩ := bnd hf
      refine zk_callBV (As := [.int u3]) (rest := []) (W1 := wX3 G q u4.1 u4.2.1 u4.2.2 ++ wX3 G q1 s1_0 s1_1 s1_2) C hW hl mvX3_33 (c_X3_add l G q (s0_0, s0_1, s0_2) u3 u4 eu4) ⟨(Nat.le_of_ble_eq_true rfl), (Nat.le_of_ble_eq_true rfl)⟩ ⟨rfl, rfl⟩ ([]) (wX3 G q1 s1_0 s1_1 s1_2) zE2 rfl rfl (Nat.le_of_ble_eq_true rfl) zE2r dX3_copy_20 ⟨Nat.zero_le _, Nat.zero_le _⟩ (fun H locs hW => ?_)
      refine lv_iinc (v := (v2 + 1)) (lv' := [(2, .int (v2 + 1)), (0, .ref (q 0)), (1, .ref (q1 0))]) hx hb dX3_copy_23 hl (k := 2) rfl rfl (by decide) rfl (fun ls hl => ?_)
      refine lv_goto (tgt := 6) hx hb dX3_copy_26 (by decide) ?_
      exact ih (v2 + 1) u4.1 u4.2.1 u4.2.2 hf _ _ _ hW (lv_sub hl [1, 2, 0] rfl)
set_option maxHeartbeats 4000000 in
set_option maxRecDepth 100000 in
theorem c_X3_copy (l : Launch) (G : GG) (q : Nat → Nat) (q1 : Nat → Nat) (t0 : zLT) (t1 : zLT) (out : zLT) (hf : f_X3_copy t0 t1 = some out) : CtV G l yX3_copy (Cond.code yX3_copy cX3_copy 3 none :: WL) (zR 1 21) [.ref (q 0), .ref (q1 0)] (wX3 G q t0.1 t0.2.1 t0.2.2 ++ wX3 G q1 t1.1 t1.2.1 t1.2.2) (wX3 G q out.1 out.2.1 out.2.2 ++ wX3 G q1 t1.1 t1.2.1 t1.2.2) := by
  refine CtV.mk (cc := cX3_copy) (nL := 3) (rt := none) (own := RX3) (nm := "copy") (by decide) rfl rfl (Nat.le_of_ble_eq_true rfl) ?_
  intro p e s m below meth c A ls C hW hl
  have hx := C.1
  have hb := C.2.1
  have hl : lv_has ls 3 [(0, .ref (q 0)), (1, .ref (q1 0))] := hl
  unfold f_X3_copy at hf
  refine lv_aload_n hx hb dX3_copy_0 rfl (lv_at hl 0 rfl) ?_
  obtain ⟨u1, eu1, hf⟩ := bnd hf
  refine zk_callBV (As := []) (rest := []) (W1 := wX3 G q u1.1 u1.2.1 u1.2.2 ++ wX3 G q1 t1.1 t1.2.1 t1.2.2) C hW hl mvX3_26 (c_X3_clear l G q t0 u1 eu1) ⟨(Nat.le_of_ble_eq_true rfl), (Nat.le_of_ble_eq_true rfl)⟩ ⟨rfl, rfl⟩ ([]) (wX3 G q1 t1.1 t1.2.1 t1.2.2) zE2 rfl rfl (Nat.le_of_ble_eq_true rfl) zE2r dX3_copy_1 ⟨Nat.zero_le _, Nat.zero_le _⟩ (fun H locs hW => ?_)
  refine lv_iconst (v := 0) hx hb dX3_copy_4 (by decide) ?_
  refine lv_istore_n (lv' := [(2, .int 0), (0, .ref (q 0)), (1, .ref (q1 0))]) hx hb dX3_copy_5 rfl hl (by decide) rfl (fun ls hl => ?_)
  refine w_X3_copy_6 l G q q1 t1.1 t1.2.1 t1.2.2 out C (fun w5_v2 w5_s0_0 w5_s0_1 w5_s0_2 hf H locs ls hW hl => ?_) FU 0 u1.1 u1.2.1 u1.2.2 hf _ _ _ hW (lv_sub hl [1, 2, 0] rfl)
  refine lv_aload_n hx hb dX3_copy_29 rfl (lv_at hl 0 rfl) ?_
  refine lv_aload_n hx hb dX3_copy_30 rfl (lv_at hl 1 rfl) ?_
  refine zk_get C hW fgX3_23 2 rfl rfl dX3_copy_31 ?_
  refine zk_putI (W1 := wX3 G q w5_s0_0 w5_s0_1 t1.2.2 ++ wX3 G q1 t1.1 t1.2.1 t1.2.2) C hW fpX3_23 0 rfl rfl (Nat.le_of_ble_eq_true rfl) rfl dX3_copy_34 (fun H locs hW => ?_)
  obtain rfl := Option.some.inj hf
  exact zk_vret C hW dX3_copy_37

set_option maxHeartbeats 4000000 in
set_option maxRecDepth 100000 in
theorem c_X6_begin (l : Launch) (G : GG) (q : Nat → Nat) (t0 : zRD) (a0 : Int32) (out : zRD) (hf : f_X6_begin a0 = some out) : CtV G l yX6_begin (Cond.code yX6_begin cX6_begin 2 none :: WL) (zR 0 0) [.ref (q 0), .int a0] (wX6 G q t0.1 t0.2.1 t0.2.2.1 t0.2.2.2.1 t0.2.2.2.2.1 t0.2.2.2.2.2) (wX6 G q out.1 out.2.1 out.2.2.1 out.2.2.2.1 out.2.2.2.2.1 out.2.2.2.2.2) := by
  refine CtV.mk (cc := cX6_begin) (nL := 2) (rt := none) (own := RX6) (nm := "begin") (by decide) rfl rfl (Nat.le_of_ble_eq_true rfl) ?_
  intro p e s m below meth c A ls C hW hl
  have hx := C.1
  have hb := C.2.1
  have hl : lv_has ls 2 [(0, .ref (q 0)), (1, .int a0)] := hl
  unfold f_X6_begin at hf
  refine lv_aload_n hx hb dX6_begin_0 rfl (lv_at hl 0 rfl) ?_
  refine lv_iload_n hx hb dX6_begin_1 rfl (lv_at hl 1 rfl) ?_
  refine zk_putI (W1 := wX6 G q a0 t0.2.1 t0.2.2.1 t0.2.2.2.1 t0.2.2.2.2.1 t0.2.2.2.2.2) C hW fpX6_9 0 rfl rfl (Nat.le_of_ble_eq_true rfl) rfl dX6_begin_2 (fun H locs hW => ?_)
  refine lv_aload_n hx hb dX6_begin_5 rfl (lv_at hl 0 rfl) ?_
  refine lv_iconst (v := 0) hx hb dX6_begin_6 (by decide) ?_
  refine zk_putI (W1 := wX6 G q a0 0 t0.2.2.1 t0.2.2.2.1 t0.2.2.2.2.1 t0.2.2.2.2.2) C hW fpX6_15 0 rfl rfl (Nat.le_of_ble_eq_true rfl) rfl dX6_begin_7 (fun H locs hW => ?_)
  refine lv_aload_n hx hb dX6_begin_10 rfl (lv_at hl 0 rfl) ?_
  refine lv_iconst (v := 0) hx hb dX6_begin_11 (by decide) ?_
  refine zk_putZ (W1 := wX6 G q a0 0 false t0.2.2.2.1 t0.2.2.2.2.1 t0.2.2.2.2.2) C hW fpX6_18 0 false rfl rfl (Nat.le_of_ble_eq_true rfl) rfl dX6_begin_12 (fun H locs hW => ?_)
  refine lv_aload_n hx hb dX6_begin_15 rfl (lv_at hl 0 rfl) ?_
  refine lv_iconst (v := 0) hx hb dX6_begin_16 (by decide) ?_
  refine zk_putI (W1 := wX6 G q a0 0 false 0 t0.2.2.2.2.1 t0.2.2.2.2.2) C hW fpX6_22 0 rfl rfl (Nat.le_of_ble_eq_true rfl) rfl dX6_begin_17 (fun H locs hW => ?_)
  refine lv_aload_n hx hb dX6_begin_20 rfl (lv_at hl 0 rfl) ?_
  refine lv_iconst (v := 0) hx hb dX6_begin_21 (by decide) ?_
  refine zk_putI (W1 := wX6 G q a0 0 false 0 0 t0.2.2.2.2.2) C hW fpX6_25 0 rfl rfl (Nat.le_of_ble_eq_true rfl) rfl dX6_begin_22 (fun H locs hW => ?_)
  refine lv_aload_n hx hb dX6_begin_25 rfl (lv_at hl 0 rfl) ?_
  refine lv_iconst (v := 0) hx hb dX6_begin_26 (by decide) ?_
  refine zk_putZ (W1 := wX6 G q a0 0 false 0 0 false) C hW fpX6_28 0 false rfl rfl (Nat.le_of_ble_eq_true rfl) rfl dX6_begin_27 (fun H locs hW => ?_)
  obtain rfl := Option.some.inj hf
  exact zk_vret C hW dX6_begin_30

set_option maxHeartbeats 4000000 in
set_option maxRecDepth 100000 in
theorem c_X6_copy (l : Launch) (G : GG) (q : Nat → Nat) (q1 : Nat → Nat) (t0 : zRD) (t1 : zRD) (out : zRD) (hf : f_X6_copy t1 = some out) : CtV G l yX6_copy (Cond.code yX6_copy cX6_copy 2 none :: WL) (zR 0 0) [.ref (q 0), .ref (q1 0)] (wX6 G q t0.1 t0.2.1 t0.2.2.1 t0.2.2.2.1 t0.2.2.2.2.1 t0.2.2.2.2.2 ++ wX6 G q1 t1.1 t1.2.1 t1.2.2.1 t1.2.2.2.1 t1.2.2.2.2.1 t1.2.2.2.2.2) (wX6 G q out.1 out.2.1 out.2.2.1 out.2.2.2.1 out.2.2.2.2.1 out.2.2.2.2.2 ++ wX6 G q1 t1.1 t1.2.1 t1.2.2.1 t1.2.2.2.1 t1.2.2.2.2.1 t1.2.2.2.2.2) := by
  refine CtV.mk (cc := cX6_copy) (nL := 2) (rt := none) (own := RX6) (nm := "copy") (by decide) rfl rfl (Nat.le_of_ble_eq_true rfl) ?_
  intro p e s m below meth c A ls C hW hl
  have hx := C.1
  have hb := C.2.1
  have hl : lv_has ls 2 [(0, .ref (q 0)), (1, .ref (q1 0))] := hl
  unfold f_X6_copy at hf
  refine lv_aload_n hx hb dX6_copy_0 rfl (lv_at hl 0 rfl) ?_
  refine lv_aload_n hx hb dX6_copy_1 rfl (lv_at hl 1 rfl) ?_
  refine zk_get C hW fgX6_9 1 rfl rfl dX6_copy_2 ?_
  refine zk_putI (W1 := wX6 G q t1.1 t0.2.1 t0.2.2.1 t0.2.2.2.1 t0.2.2.2.2.1 t0.2.2.2.2.2 ++ wX6 G q1 t1.1 t1.2.1 t1.2.2.1 t1.2.2.2.1 t1.2.2.2.2.1 t1.2.2.2.2.2) C hW fpX6_9 0 rfl rfl (Nat.le_of_ble_eq_true rfl) rfl dX6_copy_5 (fun H locs hW => ?_)
  refine lv_aload_n hx hb dX6_copy_8 rfl (lv_at hl 0 rfl) ?_
  refine lv_aload_n hx hb dX6_copy_9 rfl (lv_at hl 1 rfl) ?_
  refine zk_get C hW fgX6_15 1 rfl rfl dX6_copy_10 ?_
  refine zk_putI (W1 := wX6 G q t1.1 t1.2.1 t0.2.2.1 t0.2.2.2.1 t0.2.2.2.2.1 t0.2.2.2.2.2 ++ wX6 G q1 t1.1 t1.2.1 t1.2.2.1 t1.2.2.2.1 t1.2.2.2.2.1 t1.2.2.2.2.2) C hW fpX6_15 0 rfl rfl (Nat.le_of_ble_eq_true rfl) rfl dX6_copy_13 (fun H locs hW => ?_)
  refine lv_aload_n hx hb dX6_copy_16 rfl (lv_at hl 0 rfl) ?_
  refine lv_aload_n hx hb dX6_copy_17 rfl (lv_at hl 1 rfl) ?_
  refine zk_get C hW fgX6_18 1 rfl rfl dX6_copy_18 ?_
  refine zk_putZ (W1 := wX6 G q t1.1 t1.2.1 t1.2.2.1 t0.2.2.2.1 t0.2.2.2.2.1 t0.2.2.2.2.2 ++ wX6 G q1 t1.1 t1.2.1 t1.2.2.1 t1.2.2.2.1 t1.2.2.2.2.1 t1.2.2.2.2.2) C hW fpX6_18 0 t1.2.2.1 rfl rfl (Nat.le_of_ble_eq_true rfl) rfl dX6_copy_21 (fun H locs hW => ?_)
  refine lv_aload_n hx hb dX6_copy_24 rfl (lv_at hl 0 rfl) ?_
  refine lv_aload_n hx hb dX6_copy_25 rfl (lv_at hl 1 rfl) ?_
  refine zk_get C hW fgX6_22 1 rfl rfl dX6_copy_26 ?_
  refine zk_putI (W1 := wX6 G q t1.1 t1.2.1 t1.2.2.1 t1.2.2.2.1 t0.2.2.2.2.1 t0.2.2.2.2.2 ++ wX6 G q1 t1.1 t1.2.1 t1.2.2.1 t1.2.2.2.1 t1.2.2.2.2.1 t1.2.2.2.2.2) C hW fpX6_22 0 rfl rfl (Nat.le_of_ble_eq_true rfl) rfl dX6_copy_29 (fun H locs hW => ?_)
  refine lv_aload_n hx hb dX6_copy_32 rfl (lv_at hl 0 rfl) ?_
  refine lv_aload_n hx hb dX6_copy_33 rfl (lv_at hl 1 rfl) ?_
  refine zk_get C hW fgX6_25 1 rfl rfl dX6_copy_34 ?_
  refine zk_putI (W1 := wX6 G q t1.1 t1.2.1 t1.2.2.1 t1.2.2.2.1 t1.2.2.2.2.1 t0.2.2.2.2.2 ++ wX6 G q1 t1.1 t1.2.1 t1.2.2.1 t1.2.2.2.1 t1.2.2.2.2.1 t1.2.2.2.2.2) C hW fpX6_25 0 rfl rfl (Nat.le_of_ble_eq_true rfl) rfl dX6_copy_37 (fun H locs hW => ?_)
  refine lv_aload_n hx hb dX6_copy_40 rfl (lv_at hl 0 rfl) ?_
  refine lv_aload_n hx hb dX6_copy_41 rfl (lv_at hl 1 rfl) ?_
  refine zk_get C hW fgX6_28 1 rfl rfl dX6_copy_42 ?_
  refine zk_putZ (W1 := wX6 G q t1.1 t1.2.1 t1.2.2.1 t1.2.2.2.1 t1.2.2.2.2.1 t1.2.2.2.2.2 ++ wX6 G q1 t1.1 t1.2.1 t1.2.2.1 t1.2.2.2.1 t1.2.2.2.2.1 t1.2.2.2.2.2) C hW fpX6_28 0 t1.2.2.2.2.2 rfl rfl (Nat.le_of_ble_eq_true rfl) rfl dX6_copy_45 (fun H locs hW => ?_)
  obtain rfl := Option.some.inj hf
  exact zk_vret C hW dX6_copy_48

set_option maxHeartbeats 4000000 in
set_option maxRecDepth 100000 in
theorem c_X6_shutsBehind (l : Launch) (G : GG) (q : Nat → Nat) (t0 : zRD) (a0 : Int32) (out : Bool) (hf : f_X6_shutsBehind t0 a0 = some out) : CtI G l yX6_shutsBehind (Cond.code yX6_shutsBehind cX6_shutsBehind 2 (some .boolean) :: WL) (zR 0 0) [.ref (q 0), .int a0] (wX6 G q t0.1 t0.2.1 t0.2.2.1 t0.2.2.2.1 t0.2.2.2.2.1 t0.2.2.2.2.2) (bI out) (wX6 G q t0.1 t0.2.1 t0.2.2.1 t0.2.2.2.1 t0.2.2.2.2.1 t0.2.2.2.2.2) := by
  refine CtI.mk (cc := cX6_shutsBehind) (nL := 2) (rt := (some .boolean)) (own := RX6) (nm := "shutsBehind") (by decide) rfl rfl (Nat.le_of_ble_eq_true rfl) ?_
  intro p e s m below meth c A ls C hW hl
  have hx := C.1
  have hb := C.2.1
  have hl : lv_has ls 2 [(0, .ref (q 0)), (1, .int a0)] := hl
  unfold f_X6_shutsBehind at hf
  refine lv_aload_n hx hb dX6_shutsBehind_0 rfl (lv_at hl 0 rfl) ?_
  refine zk_get C hW fgX6_9 0 rfl rfl dX6_shutsBehind_1 ?_
  refine lv_iconst (v := 2) hx hb dX6_shutsBehind_4 (by decide) ?_
  refine lv_icmp_eq (tgt := 16) hx hb dX6_shutsBehind_5 (by decide) (fun c1 => ?_) (fun c1 => ?_)
  · have hf := ipos c1 hf
    refine lv_iconst (v := 0) hx hb dX6_shutsBehind_16 (by decide) ?_
    obtain rfl := Option.some.inj hf
    exact zk_zret false C hW rfl dX6_shutsBehind_17
  · have hf := ineg c1 hf
    refine lv_aload_n hx hb dX6_shutsBehind_8 rfl (lv_at hl 0 rfl) ?_
    refine zk_get C hW fgX6_9 0 rfl rfl dX6_shutsBehind_9 ?_
    refine lv_iconst (v := (-1)) hx hb dX6_shutsBehind_12 (by decide) ?_
    refine lv_icmp_ne (tgt := 18) hx hb dX6_shutsBehind_13 (by decide) (fun c2 => ?_) (fun c2 => ?_)
    · have hf := ineg c2 hf
      refine lv_aload_n hx hb dX6_shutsBehind_18 rfl (lv_at hl 0 rfl) ?_
      refine zk_get C hW fgX6_15 0 rfl rfl dX6_shutsBehind_19 ?_
      refine lv_iconst (v := (-1)) hx hb dX6_shutsBehind_22 (by decide) ?_
      refine lv_icmp_ge (tgt := 28) hx hb dX6_shutsBehind_23 (by decide) (fun c3 => ?_) (fun c3 => ?_)
      · have hf := ipos c3 hf
        refine lv_iload_n hx hb dX6_shutsBehind_28 rfl (lv_at hl 1 rfl) ?_
        refine lv_iconst (v := 4) hx hb dX6_shutsBehind_29 (by decide) ?_
        refine lv_icmp_ne (tgt := 51) hx hb dX6_shutsBehind_30 (by decide) (fun c4 => ?_) (fun c4 => ?_)
        · have hf := ineg c4 hf
          refine lv_aload_n hx hb dX6_shutsBehind_51 rfl (lv_at hl 0 rfl) ?_
          refine zk_get C hW fgX6_22 0 rfl rfl dX6_shutsBehind_52 ?_
          refine lv_iconst (v := 2) hx hb dX6_shutsBehind_55 (by decide) ?_
          refine lv_icmp_lt (tgt := 69) hx hb dX6_shutsBehind_56 (by decide) (fun c5 => ?_) (fun c5 => ?_)
          · have hf := ipos c5 hf
            refine lv_aload_n hx hb dX6_shutsBehind_69 rfl (lv_at hl 0 rfl) ?_
            refine zk_get C hW fgX6_15 0 rfl rfl dX6_shutsBehind_70 ?_
            refine lv_iconst (v := 1) hx hb dX6_shutsBehind_73 (by decide) ?_
            refine lv_icmp_le (tgt := 89) hx hb dX6_shutsBehind_74 (by decide) (fun c6 => ?_) (fun c6 => ?_)
            · have hf := ipos c6 hf
              refine lv_iconst (v := 0) hx hb dX6_shutsBehind_89 (by decide) ?_
              obtain rfl := Option.some.inj hf
              exact zk_zret false C hW rfl dX6_shutsBehind_90
            · have hf := ineg c6 hf
              refine lv_aload_n hx hb dX6_shutsBehind_77 rfl (lv_at hl 0 rfl) ?_
              refine zk_get C hW fgX6_9 0 rfl rfl dX6_shutsBehind_78 ?_
              refine lv_iconst (v := 4) hx hb dX6_shutsBehind_81 (by decide) ?_
              refine lv_icmp_ne (tgt := 89) hx hb dX6_shutsBehind_82 (by decide) (fun c7 => ?_) (fun c7 => ?_)
              · have hf := ineg c7 hf
                refine lv_iconst (v := 0) hx hb dX6_shutsBehind_89 (by decide) ?_
                obtain rfl := Option.some.inj hf
                exact zk_zret false C hW rfl dX6_shutsBehind_90
              · have hf := ipos c7 hf
                refine lv_iconst (v := 1) hx hb dX6_shutsBehind_85 (by decide) ?_
                refine lv_goto (tgt := 90) hx hb dX6_shutsBehind_86 (by decide) ?_
                obtain rfl := Option.some.inj hf
                exact zk_zret true C hW rfl dX6_shutsBehind_90
          · have hf := ineg c5 hf
            refine lv_aload_n hx hb dX6_shutsBehind_59 rfl (lv_at hl 0 rfl) ?_
            refine zk_get C hW fgX6_9 0 rfl rfl dX6_shutsBehind_60 ?_
            refine lv_iconst (v := 3) hx hb dX6_shutsBehind_63 (by decide) ?_
            refine lv_icmp_ne (tgt := 69) hx hb dX6_shutsBehind_64 (by decide) (fun c8 => ?_) (fun c8 => ?_)
            · have hf := ineg c8 hf
              refine lv_aload_n hx hb dX6_shutsBehind_69 rfl (lv_at hl 0 rfl) ?_
              refine zk_get C hW fgX6_15 0 rfl rfl dX6_shutsBehind_70 ?_
              refine lv_iconst (v := 1) hx hb dX6_shutsBehind_73 (by decide) ?_
              refine lv_icmp_le (tgt := 89) hx hb dX6_shutsBehind_74 (by decide) (fun c9 => ?_) (fun c9 => ?_)
              · have hf := ipos c9 hf
                refine lv_iconst (v := 0) hx hb dX6_shutsBehind_89 (by decide) ?_
                obtain rfl := Option.some.inj hf
                exact zk_zret false C hW rfl dX6_shutsBehind_90
              · have hf := ineg c9 hf
                refine lv_aload_n hx hb dX6_shutsBehind_77 rfl (lv_at hl 0 rfl) ?_
                refine zk_get C hW fgX6_9 0 rfl rfl dX6_shutsBehind_78 ?_
                refine lv_iconst (v := 4) hx hb dX6_shutsBehind_81 (by decide) ?_
                refine lv_icmp_ne (tgt := 89) hx hb dX6_shutsBehind_82 (by decide) (fun c10 => ?_) (fun c10 => ?_)
                · have hf := ineg c10 hf
                  refine lv_iconst (v := 0) hx hb dX6_shutsBehind_89 (by decide) ?_
                  obtain rfl := Option.some.inj hf
                  exact zk_zret false C hW rfl dX6_shutsBehind_90
                · have hf := ipos c10 hf
                  refine lv_iconst (v := 1) hx hb dX6_shutsBehind_85 (by decide) ?_
                  refine lv_goto (tgt := 90) hx hb dX6_shutsBehind_86 (by decide) ?_
                  obtain rfl := Option.some.inj hf
                  exact zk_zret true C hW rfl dX6_shutsBehind_90
            · have hf := ipos c8 hf
              refine lv_iconst (v := 1) hx hb dX6_shutsBehind_67 (by decide) ?_
              obtain rfl := Option.some.inj hf
              exact zk_zret true C hW rfl dX6_shutsBehind_68
        · have hf := ipos c4 hf
          refine lv_aload_n hx hb dX6_shutsBehind_33 rfl (lv_at hl 0 rfl) ?_
          refine zk_get C hW fgX6_9 0 rfl rfl dX6_shutsBehind_34 ?_
          refine lv_iconst (v := 1) hx hb dX6_shutsBehind_37 (by decide) ?_
          refine lv_icmp_eq (tgt := 49) hx hb dX6_shutsBehind_38 (by decide) (fun c11 => ?_) (fun c11 => ?_)
          · have hf := ipos c11 hf
            refine lv_iconst (v := 1) hx hb dX6_shutsBehind_49 (by decide) ?_
            obtain rfl := Option.some.inj hf
            exact zk_zret true C hW rfl dX6_shutsBehind_50
          · have hf := ineg c11 hf
            refine lv_aload_n hx hb dX6_shutsBehind_41 rfl (lv_at hl 0 rfl) ?_
            refine zk_get C hW fgX6_9 0 rfl rfl dX6_shutsBehind_42 ?_
            refine lv_iconst (v := 4) hx hb dX6_shutsBehind_45 (by decide) ?_
            refine lv_icmp_ne (tgt := 51) hx hb dX6_shutsBehind_46 (by decide) (fun c12 => ?_) (fun c12 => ?_)
            · have hf := ineg c12 hf
              refine lv_aload_n hx hb dX6_shutsBehind_51 rfl (lv_at hl 0 rfl) ?_
              refine zk_get C hW fgX6_22 0 rfl rfl dX6_shutsBehind_52 ?_
              refine lv_iconst (v := 2) hx hb dX6_shutsBehind_55 (by decide) ?_
              refine lv_icmp_lt (tgt := 69) hx hb dX6_shutsBehind_56 (by decide) (fun c13 => ?_) (fun c13 => ?_)
              · have hf := ipos c13 hf
                refine lv_aload_n hx hb dX6_shutsBehind_69 rfl (lv_at hl 0 rfl) ?_
                refine zk_get C hW fgX6_15 0 rfl rfl dX6_shutsBehind_70 ?_
                refine lv_iconst (v := 1) hx hb dX6_shutsBehind_73 (by decide) ?_
                refine lv_icmp_le (tgt := 89) hx hb dX6_shutsBehind_74 (by decide) (fun c14 => ?_) (fun c14 => ?_)
                · have hf := ipos c14 hf
                  refine lv_iconst (v := 0) hx hb dX6_shutsBehind_89 (by decide) ?_
                  obtain rfl := Option.some.inj hf
                  exact zk_zret false C hW rfl dX6_shutsBehind_90
                · have hf := ineg c14 hf
                  refine lv_aload_n hx hb dX6_shutsBehind_77 rfl (lv_at hl 0 rfl) ?_
                  refine zk_get C hW fgX6_9 0 rfl rfl dX6_shutsBehind_78 ?_
                  refine lv_iconst (v := 4) hx hb dX6_shutsBehind_81 (by decide) ?_
                  refine lv_icmp_ne (tgt := 89) hx hb dX6_shutsBehind_82 (by decide) (fun c15 => ?_) (fun c15 => ?_)
                  · have hf := ineg c15 hf
                    refine lv_iconst (v := 0) hx hb dX6_shutsBehind_89 (by decide) ?_
                    obtain rfl := Option.some.inj hf
                    exact zk_zret false C hW rfl dX6_shutsBehind_90
                  · have hf := ipos c15 hf
                    refine lv_iconst (v := 1) hx hb dX6_shutsBehind_85 (by decide) ?_
                    refine lv_goto (tgt := 90) hx hb dX6_shutsBehind_86 (by decide) ?_
                    obtain rfl := Option.some.inj hf
                    exact zk_zret true C hW rfl dX6_shutsBehind_90
              · have hf := ineg c13 hf
                refine lv_aload_n hx hb dX6_shutsBehind_59 rfl (lv_at hl 0 rfl) ?_
                refine zk_get C hW fgX6_9 0 rfl rfl dX6_shutsBehind_60 ?_
                refine lv_iconst (v := 3) hx hb dX6_shutsBehind_63 (by decide) ?_
                refine lv_icmp_ne (tgt := 69) hx hb dX6_shutsBehind_64 (by decide) (fun c16 => ?_) (fun c16 => ?_)
                · have hf := ineg c16 hf
                  refine lv_aload_n hx hb dX6_shutsBehind_69 rfl (lv_at hl 0 rfl) ?_
                  refine zk_get C hW fgX6_15 0 rfl rfl dX6_shutsBehind_70 ?_
                  refine lv_iconst (v := 1) hx hb dX6_shutsBehind_73 (by decide) ?_
                  refine lv_icmp_le (tgt := 89) hx hb dX6_shutsBehind_74 (by decide) (fun c17 => ?_) (fun c17 => ?_)
                  · have hf := ipos c17 hf
                    refine lv_iconst (v := 0) hx hb dX6_shutsBehind_89 (by decide) ?_
                    obtain rfl := Option.some.inj hf
                    exact zk_zret false C hW rfl dX6_shutsBehind_90
                  · have hf := ineg c17 hf
                    refine lv_aload_n hx hb dX6_shutsBehind_77 rfl (lv_at hl 0 rfl) ?_
                    refine zk_get C hW fgX6_9 0 rfl rfl dX6_shutsBehind_78 ?_
                    refine lv_iconst (v := 4) hx hb dX6_shutsBehind_81 (by decide) ?_
                    refine lv_icmp_ne (tgt := 89) hx hb dX6_shutsBehind_82 (by decide) (fun c18 => ?_) (fun c18 => ?_)
                    · have hf := ineg c18 hf
                      refine lv_iconst (v := 0) hx hb dX6_shutsBehind_89 (by decide) ?_
                      obtain rfl := Option.some.inj hf
                      exact zk_zret false C hW rfl dX6_shutsBehind_90
                    · have hf := ipos c18 hf
                      refine lv_iconst (v := 1) hx hb dX6_shutsBehind_85 (by decide) ?_
                      refine lv_goto (tgt := 90) hx hb dX6_shutsBehind_86 (by decide) ?_
                      obtain rfl := Option.some.inj hf
                      exact zk_zret true C hW rfl dX6_shutsBehind_90
                · have hf := ipos c16 hf
                  refine lv_iconst (v := 1) hx hb dX6_shutsBehind_67 (by decide) ?_
                  obtain rfl := Option.some.inj hf
                  exact zk_zret true C hW rfl dX6_shutsBehind_68
            · have hf := ipos c12 hf
              refine lv_iconst (v := 1) hx hb dX6_shutsBehind_49 (by decide) ?_
              obtain rfl := Option.some.inj hf
              exact zk_zret true C hW rfl dX6_shutsBehind_50
      · have hf := ineg c3 hf
        refine lv_iconst (v := 1) hx hb dX6_shutsBehind_26 (by decide) ?_
        obtain rfl := Option.some.inj hf
        exact zk_zret true C hW rfl dX6_shutsBehind_27
    · have hf := ipos c2 hf
      refine lv_iconst (v := 0) hx hb dX6_shutsBehind_16 (by decide) ?_
      obtain rfl := Option.some.inj hf
      exact zk_zret false C hW rfl dX6_shutsBehind_17

set_option maxHeartbeats 4000000 in
set_option maxRecDepth 100000 in
theorem c_X6_hear (l : Launch) (G : GG) (q : Nat → Nat) (t0 : zRD) (a0 : Int32) (out : zRD) (hf : f_X6_hear t0 a0 = some out) : CtV G l yX6_hear (Cond.code yX6_hear cX6_hear 2 none :: WL) (zR 1 21) [.ref (q 0), .int a0] (wX6 G q t0.1 t0.2.1 t0.2.2.1 t0.2.2.2.1 t0.2.2.2.2.1 t0.2.2.2.2.2) (wX6 G q out.1 out.2.1 out.2.2.1 out.2.2.2.1 out.2.2.2.2.1 out.2.2.2.2.2) := by
  refine CtV.mk (cc := cX6_hear) (nL := 2) (rt := none) (own := RX6) (nm := "hear") (by decide) rfl rfl (Nat.le_of_ble_eq_true rfl) ?_
  intro p e s m below meth c A ls C hW hl
  have hx := C.1
  have hb := C.2.1
  have hl : lv_has ls 2 [(0, .ref (q 0)), (1, .int a0)] := hl
  unfold f_X6_hear at hf
  refine lv_iload_n hx hb dX6_hear_0 rfl (lv_at hl 1 rfl) ?_
  by_cases e1 : a0 = 0
  · have hf := ipos e1 hf
    refine lv_tableIn (tgt := 40) (off := 39) hx hb dX6_hear_1 (by rw [e1]; decide) (by rw [e1]; decide) (by rw [e1]; rfl) (by decide) ?_
    refine lv_aload_n hx hb dX6_hear_40 rfl (lv_at hl 0 rfl) ?_
    refine lv_dup hx hb dX6_hear_41 rfl ?_
    refine zk_get C hW fgX6_15 0 rfl rfl dX6_hear_42 ?_
    refine lv_aload_n hx hb dX6_hear_45 rfl (lv_at hl 0 rfl) ?_
    refine zk_get C hW fgX6_18 0 rfl rfl dX6_hear_46 ?_
    refine lv_if_eq (tgt := 56) hx hb dX6_hear_49 (by decide) (fun c2 => ?_) (fun c2 => ?_)
    · have hf := ipos c2 hf
      refine lv_iconst (v := 1) hx hb dX6_hear_56 (by decide) ?_
      refine lv_iadd hx hb dX6_hear_57 ?_
      obtain ⟨z3, ez3, hf⟩ := bnd hf
      refine zk_putI (W1 := wX6 G q t0.1 z3 t0.2.2.1 t0.2.2.2.1 t0.2.2.2.2.1 t0.2.2.2.2.2) C hW fpX6_15 0 (Option.some.inj ez3) rfl (Nat.le_of_ble_eq_true rfl) rfl dX6_hear_58 (fun H locs hW => ?_)
      refine lv_aload_n hx hb dX6_hear_61 rfl (lv_at hl 0 rfl) ?_
      refine lv_iconst (v := 0) hx hb dX6_hear_62 (by decide) ?_
      refine zk_putZ (W1 := wX6 G q t0.1 z3 false t0.2.2.2.1 t0.2.2.2.2.1 t0.2.2.2.2.2) C hW fpX6_18 0 false rfl rfl (Nat.le_of_ble_eq_true rfl) rfl dX6_hear_63 (fun H locs hW => ?_)
      refine lv_goto (tgt := 155) hx hb dX6_hear_66 (by decide) ?_
      refine lv_aload_n hx hb dX6_hear_155 rfl (lv_at hl 0 rfl) ?_
      refine lv_dup hx hb dX6_hear_156 rfl ?_
      refine zk_get C hW fgX6_25 0 rfl rfl dX6_hear_157 ?_
      refine lv_iconst (v := 1) hx hb dX6_hear_160 (by decide) ?_
      refine lv_iadd hx hb dX6_hear_161 ?_
      obtain ⟨z4, ez4, hf⟩ := bnd hf
      refine zk_putI (W1 := wX6 G q t0.1 z3 false t0.2.2.2.1 z4 t0.2.2.2.2.2) C hW fpX6_25 0 (Option.some.inj ez4) rfl (Nat.le_of_ble_eq_true rfl) rfl dX6_hear_162 (fun H locs hW => ?_)
      refine lv_aload_n hx hb dX6_hear_165 rfl (lv_at hl 0 rfl) ?_
      refine lv_aload_n hx hb dX6_hear_166 rfl (lv_at hl 0 rfl) ?_
      refine lv_iload_n hx hb dX6_hear_167 rfl (lv_at hl 1 rfl) ?_
      obtain ⟨u5, eu5, hf⟩ := bnd hf
      refine zk_callBI (As := [.int a0]) (rest := [.ref (q 0)]) (W1 := wX6 G q t0.1 z3 false t0.2.2.2.1 z4 t0.2.2.2.2.2) C hW hl mvX6_60 (c_X6_shutsBehind l G q (t0.1, z3, false, t0.2.2.2.1, z4, t0.2.2.2.2.2) a0 u5 eu5) ⟨(Nat.le_of_ble_eq_true rfl), (Nat.le_of_ble_eq_true rfl)⟩ ⟨rfl, rfl⟩ ([]) ([]) zE1 rfl rfl (Nat.le_of_ble_eq_true rfl) zE1r dX6_hear_168 ⟨Nat.zero_le _, Nat.zero_le _⟩ (fun H locs hW => ?_)
      refine zk_putZ (W1 := wX6 G q t0.1 z3 false t0.2.2.2.1 z4 u5) C hW fpX6_28 0 u5 rfl rfl (Nat.le_of_ble_eq_true rfl) rfl dX6_hear_171 (fun H locs hW => ?_)
      obtain rfl := Option.some.inj hf
      exact zk_vret C hW dX6_hear_174
    · have hf := ineg c2 hf
      refine lv_iconst (v := (-1)) hx hb dX6_hear_52 (by decide) ?_
      refine lv_goto (tgt := 57) hx hb dX6_hear_53 (by decide) ?_
      refine lv_iadd hx hb dX6_hear_57 ?_
      obtain ⟨z6, ez6, hf⟩ := bnd hf
      refine zk_putI (W1 := wX6 G q t0.1 z6 t0.2.2.1 t0.2.2.2.1 t0.2.2.2.2.1 t0.2.2.2.2.2) C hW fpX6_15 0 (Option.some.inj ez6) rfl (Nat.le_of_ble_eq_true rfl) rfl dX6_hear_58 (fun H locs hW => ?_)
      refine lv_aload_n hx hb dX6_hear_61 rfl (lv_at hl 0 rfl) ?_
      refine lv_iconst (v := 0) hx hb dX6_hear_62 (by decide) ?_
      refine zk_putZ (W1 := wX6 G q t0.1 z6 false t0.2.2.2.1 t0.2.2.2.2.1 t0.2.2.2.2.2) C hW fpX6_18 0 false rfl rfl (Nat.le_of_ble_eq_true rfl) rfl dX6_hear_63 (fun H locs hW => ?_)
      refine lv_goto (tgt := 155) hx hb dX6_hear_66 (by decide) ?_
      refine lv_aload_n hx hb dX6_hear_155 rfl (lv_at hl 0 rfl) ?_
      refine lv_dup hx hb dX6_hear_156 rfl ?_
      refine zk_get C hW fgX6_25 0 rfl rfl dX6_hear_157 ?_
      refine lv_iconst (v := 1) hx hb dX6_hear_160 (by decide) ?_
      refine lv_iadd hx hb dX6_hear_161 ?_
      obtain ⟨z7, ez7, hf⟩ := bnd hf
      refine zk_putI (W1 := wX6 G q t0.1 z6 false t0.2.2.2.1 z7 t0.2.2.2.2.2) C hW fpX6_25 0 (Option.some.inj ez7) rfl (Nat.le_of_ble_eq_true rfl) rfl dX6_hear_162 (fun H locs hW => ?_)
      refine lv_aload_n hx hb dX6_hear_165 rfl (lv_at hl 0 rfl) ?_
      refine lv_aload_n hx hb dX6_hear_166 rfl (lv_at hl 0 rfl) ?_
      refine lv_iload_n hx hb dX6_hear_167 rfl (lv_at hl 1 rfl) ?_
      obtain ⟨u8, eu8, hf⟩ := bnd hf
      refine zk_callBI (As := [.int a0]) (rest := [.ref (q 0)]) (W1 := wX6 G q t0.1 z6 false t0.2.2.2.1 z7 t0.2.2.2.2.2) C hW hl mvX6_60 (c_X6_shutsBehind l G q (t0.1, z6, false, t0.2.2.2.1, z7, t0.2.2.2.2.2) a0 u8 eu8) ⟨(Nat.le_of_ble_eq_true rfl), (Nat.le_of_ble_eq_true rfl)⟩ ⟨rfl, rfl⟩ ([]) ([]) zE1 rfl rfl (Nat.le_of_ble_eq_true rfl) zE1r dX6_hear_168 ⟨Nat.zero_le _, Nat.zero_le _⟩ (fun H locs hW => ?_)
      refine zk_putZ (W1 := wX6 G q t0.1 z6 false t0.2.2.2.1 z7 u8) C hW fpX6_28 0 u8 rfl rfl (Nat.le_of_ble_eq_true rfl) rfl dX6_hear_171 (fun H locs hW => ?_)
      obtain rfl := Option.some.inj hf
      exact zk_vret C hW dX6_hear_174
  have hf := ineg e1 hf
  by_cases e9 : a0 = 1
  · have hf := ipos e9 hf
    refine lv_tableIn (tgt := 69) (off := 68) hx hb dX6_hear_1 (by rw [e9]; decide) (by rw [e9]; decide) (by rw [e9]; rfl) (by decide) ?_
    refine lv_aload_n hx hb dX6_hear_69 rfl (lv_at hl 0 rfl) ?_
    refine lv_dup hx hb dX6_hear_70 rfl ?_
    refine zk_get C hW fgX6_15 0 rfl rfl dX6_hear_71 ?_
    refine lv_aload_n hx hb dX6_hear_74 rfl (lv_at hl 0 rfl) ?_
    refine zk_get C hW fgX6_18 0 rfl rfl dX6_hear_75 ?_
    refine lv_if_eq (tgt := 85) hx hb dX6_hear_78 (by decide) (fun c10 => ?_) (fun c10 => ?_)
    · have hf := ipos c10 hf
      refine lv_iconst (v := (-1)) hx hb dX6_hear_85 (by decide) ?_
      refine lv_iadd hx hb dX6_hear_86 ?_
      obtain ⟨z11, ez11, hf⟩ := bnd hf
      refine zk_putI (W1 := wX6 G q t0.1 z11 t0.2.2.1 t0.2.2.2.1 t0.2.2.2.2.1 t0.2.2.2.2.2) C hW fpX6_15 0 (Option.some.inj ez11) rfl (Nat.le_of_ble_eq_true rfl) rfl dX6_hear_87 (fun H locs hW => ?_)
      refine lv_aload_n hx hb dX6_hear_90 rfl (lv_at hl 0 rfl) ?_
      refine lv_iconst (v := 0) hx hb dX6_hear_91 (by decide) ?_
      refine zk_putZ (W1 := wX6 G q t0.1 z11 false t0.2.2.2.1 t0.2.2.2.2.1 t0.2.2.2.2.2) C hW fpX6_18 0 false rfl rfl (Nat.le_of_ble_eq_true rfl) rfl dX6_hear_92 (fun H locs hW => ?_)
      refine lv_goto (tgt := 155) hx hb dX6_hear_95 (by decide) ?_
      refine lv_aload_n hx hb dX6_hear_155 rfl (lv_at hl 0 rfl) ?_
      refine lv_dup hx hb dX6_hear_156 rfl ?_
      refine zk_get C hW fgX6_25 0 rfl rfl dX6_hear_157 ?_
      refine lv_iconst (v := 1) hx hb dX6_hear_160 (by decide) ?_
      refine lv_iadd hx hb dX6_hear_161 ?_
      obtain ⟨z12, ez12, hf⟩ := bnd hf
      refine zk_putI (W1 := wX6 G q t0.1 z11 false t0.2.2.2.1 z12 t0.2.2.2.2.2) C hW fpX6_25 0 (Option.some.inj ez12) rfl (Nat.le_of_ble_eq_true rfl) rfl dX6_hear_162 (fun H locs hW => ?_)
      refine lv_aload_n hx hb dX6_hear_165 rfl (lv_at hl 0 rfl) ?_
      refine lv_aload_n hx hb dX6_hear_166 rfl (lv_at hl 0 rfl) ?_
      refine lv_iload_n hx hb dX6_hear_167 rfl (lv_at hl 1 rfl) ?_
      obtain ⟨u13, eu13, hf⟩ := bnd hf
      refine zk_callBI (As := [.int a0]) (rest := [.ref (q 0)]) (W1 := wX6 G q t0.1 z11 false t0.2.2.2.1 z12 t0.2.2.2.2.2) C hW hl mvX6_60 (c_X6_shutsBehind l G q (t0.1, z11, false, t0.2.2.2.1, z12, t0.2.2.2.2.2) a0 u13 eu13) ⟨(Nat.le_of_ble_eq_true rfl), (Nat.le_of_ble_eq_true rfl)⟩ ⟨rfl, rfl⟩ ([]) ([]) zE1 rfl rfl (Nat.le_of_ble_eq_true rfl) zE1r dX6_hear_168 ⟨Nat.zero_le _, Nat.zero_le _⟩ (fun H locs hW => ?_)
      refine zk_putZ (W1 := wX6 G q t0.1 z11 false t0.2.2.2.1 z12 u13) C hW fpX6_28 0 u13 rfl rfl (Nat.le_of_ble_eq_true rfl) rfl dX6_hear_171 (fun H locs hW => ?_)
      obtain rfl := Option.some.inj hf
      exact zk_vret C hW dX6_hear_174
    · have hf := ineg c10 hf
      refine lv_iconst (v := 1) hx hb dX6_hear_81 (by decide) ?_
      refine lv_goto (tgt := 86) hx hb dX6_hear_82 (by decide) ?_
      refine lv_iadd hx hb dX6_hear_86 ?_
      obtain ⟨z14, ez14, hf⟩ := bnd hf
      refine zk_putI (W1 := wX6 G q t0.1 z14 t0.2.2.1 t0.2.2.2.1 t0.2.2.2.2.1 t0.2.2.2.2.2) C hW fpX6_15 0 (Option.some.inj ez14) rfl (Nat.le_of_ble_eq_true rfl) rfl dX6_hear_87 (fun H locs hW => ?_)
      refine lv_aload_n hx hb dX6_hear_90 rfl (lv_at hl 0 rfl) ?_
      refine lv_iconst (v := 0) hx hb dX6_hear_91 (by decide) ?_
      refine zk_putZ (W1 := wX6 G q t0.1 z14 false t0.2.2.2.1 t0.2.2.2.2.1 t0.2.2.2.2.2) C hW fpX6_18 0 false rfl rfl (Nat.le_of_ble_eq_true rfl) rfl dX6_hear_92 (fun H locs hW => ?_)
      refine lv_goto (tgt := 155) hx hb dX6_hear_95 (by decide) ?_
      refine lv_aload_n hx hb dX6_hear_155 rfl (lv_at hl 0 rfl) ?_
      refine lv_dup hx hb dX6_hear_156 rfl ?_
      refine zk_get C hW fgX6_25 0 rfl rfl dX6_hear_157 ?_
      refine lv_iconst (v := 1) hx hb dX6_hear_160 (by decide) ?_
      refine lv_iadd hx hb dX6_hear_161 ?_
      obtain ⟨z15, ez15, hf⟩ := bnd hf
      refine zk_putI (W1 := wX6 G q t0.1 z14 false t0.2.2.2.1 z15 t0.2.2.2.2.2) C hW fpX6_25 0 (Option.some.inj ez15) rfl (Nat.le_of_ble_eq_true rfl) rfl dX6_hear_162 (fun H locs hW => ?_)
      refine lv_aload_n hx hb dX6_hear_165 rfl (lv_at hl 0 rfl) ?_
      refine lv_aload_n hx hb dX6_hear_166 rfl (lv_at hl 0 rfl) ?_
      refine lv_iload_n hx hb dX6_hear_167 rfl (lv_at hl 1 rfl) ?_
      obtain ⟨u16, eu16, hf⟩ := bnd hf
      refine zk_callBI (As := [.int a0]) (rest := [.ref (q 0)]) (W1 := wX6 G q t0.1 z14 false t0.2.2.2.1 z15 t0.2.2.2.2.2) C hW hl mvX6_60 (c_X6_shutsBehind l G q (t0.1, z14, false, t0.2.2.2.1, z15, t0.2.2.2.2.2) a0 u16 eu16) ⟨(Nat.le_of_ble_eq_true rfl), (Nat.le_of_ble_eq_true rfl)⟩ ⟨rfl, rfl⟩ ([]) ([]) zE1 rfl rfl (Nat.le_of_ble_eq_true rfl) zE1r dX6_hear_168 ⟨Nat.zero_le _, Nat.zero_le _⟩ (fun H locs hW => ?_)
      refine zk_putZ (W1 := wX6 G q t0.1 z14 false t0.2.2.2.1 z15 u16) C hW fpX6_28 0 u16 rfl rfl (Nat.le_of_ble_eq_true rfl) rfl dX6_hear_171 (fun H locs hW => ?_)
      obtain rfl := Option.some.inj hf
      exact zk_vret C hW dX6_hear_174
  have hf := ineg e9 hf
  by_cases e17 : a0 = 2
  · have hf := ipos e17 hf
    refine lv_tableIn (tgt := 98) (off := 97) hx hb dX6_hear_1 (by rw [e17]; decide) (by rw [e17]; decide) (by rw [e17]; rfl) (by decide) ?_
    refine lv_aload_n hx hb dX6_hear_98 rfl (lv_at hl 0 rfl) ?_
    refine lv_aload_n hx hb dX6_hear_99 rfl (lv_at hl 0 rfl) ?_
    refine zk_get C hW fgX6_18 0 rfl rfl dX6_hear_100 ?_
    refine lv_if_ne (tgt := 110) hx hb dX6_hear_103 (by decide) (fun c18 => ?_) (fun c18 => ?_)
    · have hf := ineg c18 hf
      refine lv_iconst (v := 0) hx hb dX6_hear_110 (by decide) ?_
      refine zk_putZ (W1 := wX6 G q t0.1 t0.2.1 false t0.2.2.2.1 t0.2.2.2.2.1 t0.2.2.2.2.2) C hW fpX6_18 0 false rfl rfl (Nat.le_of_ble_eq_true rfl) rfl dX6_hear_111 (fun H locs hW => ?_)
      refine lv_goto (tgt := 155) hx hb dX6_hear_114 (by decide) ?_
      refine lv_aload_n hx hb dX6_hear_155 rfl (lv_at hl 0 rfl) ?_
      refine lv_dup hx hb dX6_hear_156 rfl ?_
      refine zk_get C hW fgX6_25 0 rfl rfl dX6_hear_157 ?_
      refine lv_iconst (v := 1) hx hb dX6_hear_160 (by decide) ?_
      refine lv_iadd hx hb dX6_hear_161 ?_
      obtain ⟨z19, ez19, hf⟩ := bnd hf
      refine zk_putI (W1 := wX6 G q t0.1 t0.2.1 false t0.2.2.2.1 z19 t0.2.2.2.2.2) C hW fpX6_25 0 (Option.some.inj ez19) rfl (Nat.le_of_ble_eq_true rfl) rfl dX6_hear_162 (fun H locs hW => ?_)
      refine lv_aload_n hx hb dX6_hear_165 rfl (lv_at hl 0 rfl) ?_
      refine lv_aload_n hx hb dX6_hear_166 rfl (lv_at hl 0 rfl) ?_
      refine lv_iload_n hx hb dX6_hear_167 rfl (lv_at hl 1 rfl) ?_
      obtain ⟨u20, eu20, hf⟩ := bnd hf
      refine zk_callBI (As := [.int a0]) (rest := [.ref (q 0)]) (W1 := wX6 G q t0.1 t0.2.1 false t0.2.2.2.1 z19 t0.2.2.2.2.2) C hW hl mvX6_60 (c_X6_shutsBehind l G q (t0.1, t0.2.1, false, t0.2.2.2.1, z19, t0.2.2.2.2.2) a0 u20 eu20) ⟨(Nat.le_of_ble_eq_true rfl), (Nat.le_of_ble_eq_true rfl)⟩ ⟨rfl, rfl⟩ ([]) ([]) zE1 rfl rfl (Nat.le_of_ble_eq_true rfl) zE1r dX6_hear_168 ⟨Nat.zero_le _, Nat.zero_le _⟩ (fun H locs hW => ?_)
      refine zk_putZ (W1 := wX6 G q t0.1 t0.2.1 false t0.2.2.2.1 z19 u20) C hW fpX6_28 0 u20 rfl rfl (Nat.le_of_ble_eq_true rfl) rfl dX6_hear_171 (fun H locs hW => ?_)
      obtain rfl := Option.some.inj hf
      exact zk_vret C hW dX6_hear_174
    · have hf := ipos c18 hf
      refine lv_iconst (v := 1) hx hb dX6_hear_106 (by decide) ?_
      refine lv_goto (tgt := 111) hx hb dX6_hear_107 (by decide) ?_
      refine zk_putZ (W1 := wX6 G q t0.1 t0.2.1 true t0.2.2.2.1 t0.2.2.2.2.1 t0.2.2.2.2.2) C hW fpX6_18 0 true rfl rfl (Nat.le_of_ble_eq_true rfl) rfl dX6_hear_111 (fun H locs hW => ?_)
      refine lv_goto (tgt := 155) hx hb dX6_hear_114 (by decide) ?_
      refine lv_aload_n hx hb dX6_hear_155 rfl (lv_at hl 0 rfl) ?_
      refine lv_dup hx hb dX6_hear_156 rfl ?_
      refine zk_get C hW fgX6_25 0 rfl rfl dX6_hear_157 ?_
      refine lv_iconst (v := 1) hx hb dX6_hear_160 (by decide) ?_
      refine lv_iadd hx hb dX6_hear_161 ?_
      obtain ⟨z21, ez21, hf⟩ := bnd hf
      refine zk_putI (W1 := wX6 G q t0.1 t0.2.1 true t0.2.2.2.1 z21 t0.2.2.2.2.2) C hW fpX6_25 0 (Option.some.inj ez21) rfl (Nat.le_of_ble_eq_true rfl) rfl dX6_hear_162 (fun H locs hW => ?_)
      refine lv_aload_n hx hb dX6_hear_165 rfl (lv_at hl 0 rfl) ?_
      refine lv_aload_n hx hb dX6_hear_166 rfl (lv_at hl 0 rfl) ?_
      refine lv_iload_n hx hb dX6_hear_167 rfl (lv_at hl 1 rfl) ?_
      obtain ⟨u22, eu22, hf⟩ := bnd hf
      refine zk_callBI (As := [.int a0]) (rest := [.ref (q 0)]) (W1 := wX6 G q t0.1 t0.2.1 true t0.2.2.2.1 z21 t0.2.2.2.2.2) C hW hl mvX6_60 (c_X6_shutsBehind l G q (t0.1, t0.2.1, true, t0.2.2.2.1, z21, t0.2.2.2.2.2) a0 u22 eu22) ⟨(Nat.le_of_ble_eq_true rfl), (Nat.le_of_ble_eq_true rfl)⟩ ⟨rfl, rfl⟩ ([]) ([]) zE1 rfl rfl (Nat.le_of_ble_eq_true rfl) zE1r dX6_hear_168 ⟨Nat.zero_le _, Nat.zero_le _⟩ (fun H locs hW => ?_)
      refine zk_putZ (W1 := wX6 G q t0.1 t0.2.1 true t0.2.2.2.1 z21 u22) C hW fpX6_28 0 u22 rfl rfl (Nat.le_of_ble_eq_true rfl) rfl dX6_hear_171 (fun H locs hW => ?_)
      obtain rfl := Option.some.inj hf
      exact zk_vret C hW dX6_hear_174
  have hf := ineg e17 hf
  by_cases e23 : a0 = 3
  · have hf := ipos e23 hf
    refine lv_tableIn (tgt := 117) (off := 116) hx hb dX6_hear_1 (by rw [e23]; decide) (by rw [e23]; decide) (by rw [e23]; rfl) (by decide) ?_
    refine lv_aload_n hx hb dX6_hear_117 rfl (lv_at hl 0 rfl) ?_
    refine lv_aload_n hx hb dX6_hear_118 rfl (lv_at hl 0 rfl) ?_
    refine zk_get C hW fgX6_15 0 rfl rfl dX6_hear_119 ?_
    refine lv_ineg hx hb dX6_hear_122 ?_
    obtain ⟨z24, ez24, hf⟩ := bnd hf
    refine zk_putI (W1 := wX6 G q t0.1 z24 t0.2.2.1 t0.2.2.2.1 t0.2.2.2.2.1 t0.2.2.2.2.2) C hW fpX6_15 0 (Option.some.inj ez24) rfl (Nat.le_of_ble_eq_true rfl) rfl dX6_hear_123 (fun H locs hW => ?_)
    refine lv_goto (tgt := 155) hx hb dX6_hear_126 (by decide) ?_
    refine lv_aload_n hx hb dX6_hear_155 rfl (lv_at hl 0 rfl) ?_
    refine lv_dup hx hb dX6_hear_156 rfl ?_
    refine zk_get C hW fgX6_25 0 rfl rfl dX6_hear_157 ?_
    refine lv_iconst (v := 1) hx hb dX6_hear_160 (by decide) ?_
    refine lv_iadd hx hb dX6_hear_161 ?_
    obtain ⟨z25, ez25, hf⟩ := bnd hf
    refine zk_putI (W1 := wX6 G q t0.1 z24 t0.2.2.1 t0.2.2.2.1 z25 t0.2.2.2.2.2) C hW fpX6_25 0 (Option.some.inj ez25) rfl (Nat.le_of_ble_eq_true rfl) rfl dX6_hear_162 (fun H locs hW => ?_)
    refine lv_aload_n hx hb dX6_hear_165 rfl (lv_at hl 0 rfl) ?_
    refine lv_aload_n hx hb dX6_hear_166 rfl (lv_at hl 0 rfl) ?_
    refine lv_iload_n hx hb dX6_hear_167 rfl (lv_at hl 1 rfl) ?_
    obtain ⟨u26, eu26, hf⟩ := bnd hf
    refine zk_callBI (As := [.int a0]) (rest := [.ref (q 0)]) (W1 := wX6 G q t0.1 z24 t0.2.2.1 t0.2.2.2.1 z25 t0.2.2.2.2.2) C hW hl mvX6_60 (c_X6_shutsBehind l G q (t0.1, z24, t0.2.2.1, t0.2.2.2.1, z25, t0.2.2.2.2.2) a0 u26 eu26) ⟨(Nat.le_of_ble_eq_true rfl), (Nat.le_of_ble_eq_true rfl)⟩ ⟨rfl, rfl⟩ ([]) ([]) zE1 rfl rfl (Nat.le_of_ble_eq_true rfl) zE1r dX6_hear_168 ⟨Nat.zero_le _, Nat.zero_le _⟩ (fun H locs hW => ?_)
    refine zk_putZ (W1 := wX6 G q t0.1 z24 t0.2.2.1 t0.2.2.2.1 z25 u26) C hW fpX6_28 0 u26 rfl rfl (Nat.le_of_ble_eq_true rfl) rfl dX6_hear_171 (fun H locs hW => ?_)
    obtain rfl := Option.some.inj hf
    exact zk_vret C hW dX6_hear_174
  have hf := ineg e23 hf
  by_cases e27 : a0 = 4
  · have hf := ipos e27 hf
    refine lv_tableIn (tgt := 129) (off := 128) hx hb dX6_hear_1 (by rw [e27]; decide) (by rw [e27]; decide) (by rw [e27]; rfl) (by decide) ?_
    refine lv_aload_n hx hb dX6_hear_129 rfl (lv_at hl 0 rfl) ?_
    refine lv_dup hx hb dX6_hear_130 rfl ?_
    refine zk_get C hW fgX6_15 0 rfl rfl dX6_hear_131 ?_
    refine lv_iconst (v := 1) hx hb dX6_hear_134 (by decide) ?_
    refine lv_iadd hx hb dX6_hear_135 ?_
    obtain ⟨z28, ez28, hf⟩ := bnd hf
    refine zk_putI (W1 := wX6 G q t0.1 z28 t0.2.2.1 t0.2.2.2.1 t0.2.2.2.2.1 t0.2.2.2.2.2) C hW fpX6_15 0 (Option.some.inj ez28) rfl (Nat.le_of_ble_eq_true rfl) rfl dX6_hear_136 (fun H locs hW => ?_)
    refine lv_goto (tgt := 155) hx hb dX6_hear_139 (by decide) ?_
    refine lv_aload_n hx hb dX6_hear_155 rfl (lv_at hl 0 rfl) ?_
    refine lv_dup hx hb dX6_hear_156 rfl ?_
    refine zk_get C hW fgX6_25 0 rfl rfl dX6_hear_157 ?_
    refine lv_iconst (v := 1) hx hb dX6_hear_160 (by decide) ?_
    refine lv_iadd hx hb dX6_hear_161 ?_
    obtain ⟨z29, ez29, hf⟩ := bnd hf
    refine zk_putI (W1 := wX6 G q t0.1 z28 t0.2.2.1 t0.2.2.2.1 z29 t0.2.2.2.2.2) C hW fpX6_25 0 (Option.some.inj ez29) rfl (Nat.le_of_ble_eq_true rfl) rfl dX6_hear_162 (fun H locs hW => ?_)
    refine lv_aload_n hx hb dX6_hear_165 rfl (lv_at hl 0 rfl) ?_
    refine lv_aload_n hx hb dX6_hear_166 rfl (lv_at hl 0 rfl) ?_
    refine lv_iload_n hx hb dX6_hear_167 rfl (lv_at hl 1 rfl) ?_
    obtain ⟨u30, eu30, hf⟩ := bnd hf
    refine zk_callBI (As := [.int a0]) (rest := [.ref (q 0)]) (W1 := wX6 G q t0.1 z28 t0.2.2.1 t0.2.2.2.1 z29 t0.2.2.2.2.2) C hW hl mvX6_60 (c_X6_shutsBehind l G q (t0.1, z28, t0.2.2.1, t0.2.2.2.1, z29, t0.2.2.2.2.2) a0 u30 eu30) ⟨(Nat.le_of_ble_eq_true rfl), (Nat.le_of_ble_eq_true rfl)⟩ ⟨rfl, rfl⟩ ([]) ([]) zE1 rfl rfl (Nat.le_of_ble_eq_true rfl) zE1r dX6_hear_168 ⟨Nat.zero_le _, Nat.zero_le _⟩ (fun H locs hW => ?_)
    refine zk_putZ (W1 := wX6 G q t0.1 z28 t0.2.2.1 t0.2.2.2.1 z29 u30) C hW fpX6_28 0 u30 rfl rfl (Nat.le_of_ble_eq_true rfl) rfl dX6_hear_171 (fun H locs hW => ?_)
    obtain rfl := Option.some.inj hf
    exact zk_vret C hW dX6_hear_174
  have hf := ineg e27 hf
  by_cases e31 : a0 = 5
  · have hf := ipos e31 hf
    refine lv_tableIn (tgt := 142) (off := 141) hx hb dX6_hear_1 (by rw [e31]; decide) (by rw [e31]; decide) (by rw [e31]; rfl) (by decide) ?_
    refine lv_aload_n hx hb dX6_hear_142 rfl (lv_at hl 0 rfl) ?_
    refine lv_dup hx hb dX6_hear_143 rfl ?_
    refine zk_get C hW fgX6_22 0 rfl rfl dX6_hear_144 ?_
    refine lv_iconst (v := 1) hx hb dX6_hear_147 (by decide) ?_
    refine lv_iadd hx hb dX6_hear_148 ?_
    obtain ⟨z32, ez32, hf⟩ := bnd hf
    refine zk_putI (W1 := wX6 G q t0.1 t0.2.1 t0.2.2.1 z32 t0.2.2.2.2.1 t0.2.2.2.2.2) C hW fpX6_22 0 (Option.some.inj ez32) rfl (Nat.le_of_ble_eq_true rfl) rfl dX6_hear_149 (fun H locs hW => ?_)
    refine lv_goto (tgt := 155) hx hb dX6_hear_152 (by decide) ?_
    refine lv_aload_n hx hb dX6_hear_155 rfl (lv_at hl 0 rfl) ?_
    refine lv_dup hx hb dX6_hear_156 rfl ?_
    refine zk_get C hW fgX6_25 0 rfl rfl dX6_hear_157 ?_
    refine lv_iconst (v := 1) hx hb dX6_hear_160 (by decide) ?_
    refine lv_iadd hx hb dX6_hear_161 ?_
    obtain ⟨z33, ez33, hf⟩ := bnd hf
    refine zk_putI (W1 := wX6 G q t0.1 t0.2.1 t0.2.2.1 z32 z33 t0.2.2.2.2.2) C hW fpX6_25 0 (Option.some.inj ez33) rfl (Nat.le_of_ble_eq_true rfl) rfl dX6_hear_162 (fun H locs hW => ?_)
    refine lv_aload_n hx hb dX6_hear_165 rfl (lv_at hl 0 rfl) ?_
    refine lv_aload_n hx hb dX6_hear_166 rfl (lv_at hl 0 rfl) ?_
    refine lv_iload_n hx hb dX6_hear_167 rfl (lv_at hl 1 rfl) ?_
    obtain ⟨u34, eu34, hf⟩ := bnd hf
    refine zk_callBI (As := [.int a0]) (rest := [.ref (q 0)]) (W1 := wX6 G q t0.1 t0.2.1 t0.2.2.1 z32 z33 t0.2.2.2.2.2) C hW hl mvX6_60 (c_X6_shutsBehind l G q (t0.1, t0.2.1, t0.2.2.1, z32, z33, t0.2.2.2.2.2) a0 u34 eu34) ⟨(Nat.le_of_ble_eq_true rfl), (Nat.le_of_ble_eq_true rfl)⟩ ⟨rfl, rfl⟩ ([]) ([]) zE1 rfl rfl (Nat.le_of_ble_eq_true rfl) zE1r dX6_hear_168 ⟨Nat.zero_le _, Nat.zero_le _⟩ (fun H locs hW => ?_)
    refine zk_putZ (W1 := wX6 G q t0.1 t0.2.1 t0.2.2.1 z32 z33 u34) C hW fpX6_28 0 u34 rfl rfl (Nat.le_of_ble_eq_true rfl) rfl dX6_hear_171 (fun H locs hW => ?_)
    obtain rfl := Option.some.inj hf
    exact zk_vret C hW dX6_hear_174
  have hf := ineg e31 hf
  refine lv_tableOut (tgt := 155) hx hb dX6_hear_1 (by have he1 := lv_neT e1 (a := 0) rfl; have he9 := lv_neT e9 (a := 1) rfl; have he17 := lv_neT e17 (a := 2) rfl; have he23 := lv_neT e23 (a := 3) rfl; have he27 := lv_neT e27 (a := 4) rfl; have he31 := lv_neT e31 (a := 5) rfl; omega) (by decide) ?_
  refine lv_aload_n hx hb dX6_hear_155 rfl (lv_at hl 0 rfl) ?_
  refine lv_dup hx hb dX6_hear_156 rfl ?_
  refine zk_get C hW fgX6_25 0 rfl rfl dX6_hear_157 ?_
  refine lv_iconst (v := 1) hx hb dX6_hear_160 (by decide) ?_
  refine lv_iadd hx hb dX6_hear_161 ?_
  obtain ⟨z35, ez35, hf⟩ := bnd hf
  refine zk_putI (W1 := wX6 G q t0.1 t0.2.1 t0.2.2.1 t0.2.2.2.1 z35 t0.2.2.2.2.2) C hW fpX6_25 0 (Option.some.inj ez35) rfl (Nat.le_of_ble_eq_true rfl) rfl dX6_hear_162 (fun H locs hW => ?_)
  refine lv_aload_n hx hb dX6_hear_165 rfl (lv_at hl 0 rfl) ?_
  refine lv_aload_n hx hb dX6_hear_166 rfl (lv_at hl 0 rfl) ?_
  refine lv_iload_n hx hb dX6_hear_167 rfl (lv_at hl 1 rfl) ?_
  obtain ⟨u36, eu36, hf⟩ := bnd hf
  refine zk_callBI (As := [.int a0]) (rest := [.ref (q 0)]) (W1 := wX6 G q t0.1 t0.2.1 t0.2.2.1 t0.2.2.2.1 z35 t0.2.2.2.2.2) C hW hl mvX6_60 (c_X6_shutsBehind l G q (t0.1, t0.2.1, t0.2.2.1, t0.2.2.2.1, z35, t0.2.2.2.2.2) a0 u36 eu36) ⟨(Nat.le_of_ble_eq_true rfl), (Nat.le_of_ble_eq_true rfl)⟩ ⟨rfl, rfl⟩ ([]) ([]) zE1 rfl rfl (Nat.le_of_ble_eq_true rfl) zE1r dX6_hear_168 ⟨Nat.zero_le _, Nat.zero_le _⟩ (fun H locs hW => ?_)
  refine zk_putZ (W1 := wX6 G q t0.1 t0.2.1 t0.2.2.1 t0.2.2.2.1 z35 u36) C hW fpX6_28 0 u36 rfl rfl (Nat.le_of_ble_eq_true rfl) rfl dX6_hear_171 (fun H locs hW => ?_)
  obtain rfl := Option.some.inj hf
  exact zk_vret C hW dX6_hear_174

set_option maxHeartbeats 4000000 in
set_option maxRecDepth 100000 in
theorem w_X6_hearSome_3 {p : Program} {e : Env} {s : State} {m : MethodId} {args : Array Value} {below : List Frame} {meth : Method} {c : Code} {A : Nat → Prop} (l : Launch) (G : GG) (q : Nat → Nat) (q1 : Nat → Nat) (v2 : Int32) (v3 : Bool) (s1_0 : (Nat → Int32)) (s1_1 : Int32) (s1_2 : Int32) (out : zRD) (C : CX p s m args meth c cX6_hearSome 5 RX6 none "hearSome") {K : Int32 → Int32 → Int32 → Bool → Int32 → Int32 → Bool → Option (zRD)} (hK : ∀ (v4 : Int32) (s0_0 : Int32) (s0_1 : Int32) (s0_2 : Bool) (s0_3 : Int32) (s0_4 : Int32) (s0_5 : Bool) , K v4 s0_0 s0_1 s0_2 s0_3 s0_4 s0_5 = some out → ∀ (H : Heap) (locs : List Loc) (ls : Array Slot), KW G A s (wX6 G q s0_0 s0_1 s0_2 s0_3 s0_4 s0_5 ++ wX3 G q1 s1_0 s1_1 s1_2) H locs → lv_has ls 5 [] → W p l e (zR 2 42) s m args below meth c H locs 0 0 (QV G A (wX6 G q out.1 out.2.1 out.2.2.1 out.2.2.2.1 out.2.2.2.2.1 out.2.2.2.2.2 ++ wX3 G q1 ((s1_0, s1_1, s1_2).1) ((s1_0, s1_1, s1_2).2.1) ((s1_0, s1_1, s1_2).2.2)) below args s) (F0 m 48 ls [])) :
    ∀ (n : Nat) (v4 : Int32) (s0_0 : Int32) (s0_1 : Int32) (s0_2 : Bool) (s0_3 : Int32) (s0_4 : Int32) (s0_5 : Bool) , lp_X6_hearSome_3 v2 v3 s1_0 s1_1 s1_2 K n v4 s0_0 s0_1 s0_2 s0_3 s0_4 s0_5 = some out → ∀ (H : Heap) (locs : List Loc) (ls : Array Slot), KW G A s (wX6 G q s0_0 s0_1 s0_2 s0_3 s0_4 s0_5 ++ wX3 G q1 s1_0 s1_1 s1_2) H locs → lv_has ls 5 [(0, .ref (q 0)), (1, .ref (q1 0)), (2, .int v2), (3, .int (bI v3)), (4, .int v4)] → W p l e (zR 2 42) s m args below meth c H locs 0 0 (QV G A (wX6 G q out.1 out.2.1 out.2.2.1 out.2.2.2.1 out.2.2.2.2.1 out.2.2.2.2.2 ++ wX3 G q1 ((s1_0, s1_1, s1_2).1) ((s1_0, s1_1, s1_2).2.1) ((s1_0, s1_1, s1_2).2.2)) below args s) (F0 m 3 ls []) := by
  have hx := C.1
  have hb := C.2.1
  intro n
  induction n with
  | zero => intro v4 s0_0 s0_1 s0_2 s0_3 s0_4 s0_5 hf; exact nomatch (show (none : Option (zRD)) = some out from hf)
  | succ n ih =>
    intro v4 s0_0 s0_1 s0_2 s0_3 s0_4 s0_5 hf H locs ls hW hl
    rw [lp_X6_hearSome_3] at hf
    refine lv_iload hx hb dX6_hearSome_3 (lv_at hl 4 rfl) ?_
    refine lv_iload_n hx hb dX6_hearSome_5 rfl (lv_at hl 2 rfl) ?_
    refine lv_icmp_ge (tgt := 48) hx hb dX6_hearSome_6 (by decide) (fun c1 => ?_) (fun c1 => ?_)
    · have hf := ipos c1 hf
      exact hK v4 s0_0 s0_1 s0_2 s0_3 s0_4 s0_5 hf _ _ _ hW (lv_sub hl [] rfl)
    · have hf := ineg c1 hf
      refine lv_aload_n hx hb dX6_hearSome_9 rfl (lv_at hl 0 rfl) ?_
      refine zk_get C hW fgX6_28 0 rfl rfl dX6_hearSome_10 ?_
      refine lv_if_ne (tgt := 48) hx hb dX6_hearSome_13 (by decide) (fun c2 => ?_) (fun c2 => ?_)
      · have hf := ineg c2 hf
        exact hK v4 s0_0 s0_1 s0_2 s0_3 s0_4 s0_5 hf _ _ _ hW (lv_sub hl [] rfl)
      · have hf := ipos c2 hf
        refine lv_aload_n hx hb dX6_hearSome_16 rfl (lv_at hl 0 rfl) ?_
        refine lv_aload_n hx hb dX6_hearSome_17 rfl (lv_at hl 1 rfl) ?_
        refine lv_iload_n hx hb dX6_hearSome_18 rfl (lv_at hl 3 rfl) ?_
        refine lv_if_eq (tgt := 27) hx hb dX6_hearSome_19 (by decide) (fun c3 => ?_) (fun c3 => ?_)
        · have hf := ipos c3 hf
          refine lv_aload_n hx hb dX6_hearSome_27 rfl (lv_at hl 1 rfl) ?_
          refine zk_get C hW fgX6_35 1 rfl rfl dX6_hearSome_28 ?_
          refine lv_iconst (v := 1) hx hb dX6_hearSome_31 (by decide) ?_
          refine lv_isub hx hb dX6_hearSome_32 ?_
          refine lv_iload hx hb dX6_hearSome_33 (lv_at hl 4 rfl) ?_
          refine lv_isub hx hb dX6_hearSome_35 ?_
          obtain ⟨u4, eu4, hf⟩ := bnd hf
          refine zk_callBI (As := [.int ((s1_1 - 1) - v4)]) (rest := [.ref (q 0)]) (W1 := wX6 G q s0_0 s0_1 s0_2 s0_3 s0_4 s0_5 ++ wX3 G q1 s1_0 s1_1 s1_2) C hW hl mvX6_53 (c_X3_wordAt l G q1 (s1_0, s1_1, s1_2) ((s1_1 - 1) - v4) u4 eu4) ⟨(Nat.le_of_ble_eq_true rfl), (Nat.le_of_ble_eq_true rfl)⟩ ⟨rfl, rfl⟩ (wX6 G q s0_0 s0_1 s0_2 s0_3 s0_4 s0_5) ([]) zE3 rfl rfl (Nat.le_of_ble_eq_true rfl) zE3r dX6_hearSome_36 ⟨Nat.zero_le _, Nat.zero_le _⟩ (fun H locs hW => ?_)
          obtain ⟨u5, eu5, hf⟩ := bnd hf
          refine zk_callBV (As := [.int u4]) (rest := []) (W1 := wX6 G q u5.1 u5.2.1 u5.2.2.1 u5.2.2.2.1 u5.2.2.2.2.1 u5.2.2.2.2.2 ++ wX3 G q1 s1_0 s1_1 s1_2) C hW hl mvX6_57 (c_X6_hear l G q (s0_0, s0_1, s0_2, s0_3, s0_4, s0_5) u4 u5 eu5) ⟨(Nat.le_of_ble_eq_true rfl), (Nat.le_of_ble_eq_true rfl)⟩ ⟨rfl, rfl⟩ ([]) (wX3 G q1 s1_0 s1_1 s1_2) zE2 rfl rfl (Nat.le_of_ble_eq_true rfl) zE2r dX6_hearSome_39 ⟨Nat.zero_le _, Nat.zero_le _⟩ (fun H locs hW => ?_)
          refine lv_iinc (v := (v4 + 1)) (lv' := [(4, .int (v4 + 1)), (0, .ref (q 0)), (1, .ref (q1 0)), (2, .int v2), (3, .int (bI v3))]) hx hb dX6_hearSome_42 hl (k := 4) rfl rfl (by decide) rfl (fun ls hl => ?_)
          refine lv_goto (tgt := 3) hx hb dX6_hearSome_45 (by decide) ?_
          exact ih (v4 + 1) u5.1 u5.2.1 u5.2.2.1 u5.2.2.2.1 u5.2.2.2.2.1 u5.2.2.2.2.2 hf _ _ _ hW (lv_sub hl [1, 2, 3, 4, 0] rfl)
        · have hf := ineg c3 hf
          refine lv_iload hx hb dX6_hearSome_22 (lv_at hl 4 rfl) ?_
          refine lv_goto (tgt := 36) hx hb dX6_hearSome_24 (by decide) ?_
          obtain ⟨u6, eu6, hf⟩ := bnd hf
          refine zk_callBI (As := [.int v4]) (rest := [.ref (q 0)]) (W1 := wX6 G q s0_0 s0_1 s0_2 s0_3 s0_4 s0_5 ++ wX3 G q1 s1_0 s1_1 s1_2) C hW hl mvX6_53 (c_X3_wordAt l G q1 (s1_0, s1_1, s1_2) v4 u6 eu6) ⟨(Nat.le_of_ble_eq_true rfl), (Nat.le_of_ble_eq_true rfl)⟩ ⟨rfl, rfl⟩ (wX6 G q s0_0 s0_1 s0_2 s0_3 s0_4 s0_5) ([]) zE3 rfl rfl (Nat.le_of_ble_eq_true rfl) zE3r dX6_hearSome_36 ⟨Nat.zero_le _, Nat.zero_le _⟩ (fun H locs hW => ?_)
          obtain ⟨u7, eu7, hf⟩ := bnd hf
          refine zk_callBV (As := [.int u6]) (rest := []) (W1 := wX6 G q u7.1 u7.2.1 u7.2.2.1 u7.2.2.2.1 u7.2.2.2.2.1 u7.2.2.2.2.2 ++ wX3 G q1 s1_0 s1_1 s1_2) C hW hl mvX6_57 (c_X6_hear l G q (s0_0, s0_1, s0_2, s0_3, s0_4, s0_5) u6 u7 eu7) ⟨(Nat.le_of_ble_eq_true rfl), (Nat.le_of_ble_eq_true rfl)⟩ ⟨rfl, rfl⟩ ([]) (wX3 G q1 s1_0 s1_1 s1_2) zE2 rfl rfl (Nat.le_of_ble_eq_true rfl) zE2r dX6_hearSome_39 ⟨Nat.zero_le _, Nat.zero_le _⟩ (fun H locs hW => ?_)
          refine lv_iinc (v := (v4 + 1)) (lv' := [(4, .int (v4 + 1)), (0, .ref (q 0)), (1, .ref (q1 0)), (2, .int v2), (3, .int (bI v3))]) hx hb dX6_hearSome_42 hl (k := 4) rfl rfl (by decide) rfl (fun ls hl => ?_)
          refine lv_goto (tgt := 3) hx hb dX6_hearSome_45 (by decide) ?_
          exact ih (v4 + 1) u7.1 u7.2.1 u7.2.2.1 u7.2.2.2.1 u7.2.2.2.2.1 u7.2.2.2.2.2 hf _ _ _ hW (lv_sub hl [1, 2, 3, 4, 0] rfl)
set_option maxHeartbeats 4000000 in
set_option maxRecDepth 100000 in
theorem c_X6_hearSome (l : Launch) (G : GG) (q : Nat → Nat) (q1 : Nat → Nat) (t0 : zRD) (t1 : zLT) (a1 : Int32) (a2 : Bool) (out : zRD) (hf : f_X6_hearSome t0 t1 a1 a2 = some out) : CtV G l yX6_hearSome (Cond.code yX6_hearSome cX6_hearSome 5 none :: WL) (zR 2 42) [.ref (q 0), .ref (q1 0), .int a1, .int (bI a2)] (wX6 G q t0.1 t0.2.1 t0.2.2.1 t0.2.2.2.1 t0.2.2.2.2.1 t0.2.2.2.2.2 ++ wX3 G q1 t1.1 t1.2.1 t1.2.2) (wX6 G q out.1 out.2.1 out.2.2.1 out.2.2.2.1 out.2.2.2.2.1 out.2.2.2.2.2 ++ wX3 G q1 t1.1 t1.2.1 t1.2.2) := by
  refine CtV.mk (cc := cX6_hearSome) (nL := 5) (rt := none) (own := RX6) (nm := "hearSome") (by decide) rfl rfl (Nat.le_of_ble_eq_true rfl) ?_
  intro p e s m below meth c A ls C hW hl
  have hx := C.1
  have hb := C.2.1
  have hl : lv_has ls 5 [(0, .ref (q 0)), (1, .ref (q1 0)), (2, .int a1), (3, .int (bI a2))] := hl
  unfold f_X6_hearSome at hf
  refine lv_iconst (v := 0) hx hb dX6_hearSome_0 (by decide) ?_
  refine lv_istore (lv' := [(4, .int 0), (0, .ref (q 0)), (1, .ref (q1 0)), (2, .int a1), (3, .int (bI a2))]) hx hb dX6_hearSome_1 hl (by decide) rfl (fun ls hl => ?_)
  refine w_X6_hearSome_3 l G q q1 a1 a2 t1.1 t1.2.1 t1.2.2 out C (fun w8_v4 w8_s0_0 w8_s0_1 w8_s0_2 w8_s0_3 w8_s0_4 w8_s0_5 hf H locs ls hW hl => ?_) FU 0 t0.1 t0.2.1 t0.2.2.1 t0.2.2.2.1 t0.2.2.2.2.1 t0.2.2.2.2.2 hf _ _ _ hW (lv_sub hl [1, 2, 3, 4, 0] rfl)
  obtain rfl := Option.some.inj hf
  exact zk_vret C hW dX6_hearSome_48

set_option maxHeartbeats 4000000 in
set_option maxRecDepth 100000 in
theorem c_X6_readTo (l : Launch) (G : GG) (q : Nat → Nat) (q1 : Nat → Nat) (t0 : zRD) (a0 : Int32) (t1 : zLT) (a2 : Bool) (out : zRD) (hf : f_X6_readTo a0 t1 a2 = some out) : CtV G l yX6_readTo (Cond.code yX6_readTo cX6_readTo 4 none :: WL) (zR 3 66) [.ref (q 0), .int a0, .ref (q1 0), .int (bI a2)] (wX6 G q t0.1 t0.2.1 t0.2.2.1 t0.2.2.2.1 t0.2.2.2.2.1 t0.2.2.2.2.2 ++ wX3 G q1 t1.1 t1.2.1 t1.2.2) (wX6 G q out.1 out.2.1 out.2.2.1 out.2.2.2.1 out.2.2.2.2.1 out.2.2.2.2.2 ++ wX3 G q1 t1.1 t1.2.1 t1.2.2) := by
  refine CtV.mk (cc := cX6_readTo) (nL := 4) (rt := none) (own := RX6) (nm := "readTo") (by decide) rfl rfl (Nat.le_of_ble_eq_true rfl) ?_
  intro p e s m below meth c A ls C hW hl
  have hx := C.1
  have hb := C.2.1
  have hl : lv_has ls 4 [(0, .ref (q 0)), (1, .int a0), (2, .ref (q1 0)), (3, .int (bI a2))] := hl
  unfold f_X6_readTo at hf
  refine lv_aload_n hx hb dX6_readTo_0 rfl (lv_at hl 0 rfl) ?_
  refine lv_iload_n hx hb dX6_readTo_1 rfl (lv_at hl 1 rfl) ?_
  obtain ⟨u1, eu1, hf⟩ := bnd hf
  refine zk_callBV (As := [.int a0]) (rest := []) (W1 := wX6 G q u1.1 u1.2.1 u1.2.2.1 u1.2.2.2.1 u1.2.2.2.2.1 u1.2.2.2.2.2 ++ wX3 G q1 t1.1 t1.2.1 t1.2.2) C hW hl mvX6_31 (c_X6_begin l G q t0 a0 u1 eu1) ⟨(Nat.le_of_ble_eq_true rfl), (Nat.le_of_ble_eq_true rfl)⟩ ⟨rfl, rfl⟩ ([]) (wX3 G q1 t1.1 t1.2.1 t1.2.2) zE2 rfl rfl (Nat.le_of_ble_eq_true rfl) zE2r dX6_readTo_2 ⟨Nat.zero_le _, Nat.zero_le _⟩ (fun H locs hW => ?_)
  refine lv_iload_n hx hb dX6_readTo_5 rfl (lv_at hl 1 rfl) ?_
  refine lv_iconst (v := 2) hx hb dX6_readTo_6 (by decide) ?_
  refine lv_icmp_ne (tgt := 23) hx hb dX6_readTo_7 (by decide) (fun c2 => ?_) (fun c2 => ?_)
  · have hf := ineg c2 hf
    refine lv_aload_n hx hb dX6_readTo_23 rfl (lv_at hl 0 rfl) ?_
    refine lv_aload_n hx hb dX6_readTo_24 rfl (lv_at hl 2 rfl) ?_
    refine lv_aload_n hx hb dX6_readTo_25 rfl (lv_at hl 2 rfl) ?_
    refine zk_get C hW fgX6_35 1 rfl rfl dX6_readTo_26 ?_
    refine lv_aload_n hx hb dX6_readTo_29 rfl (lv_at hl 2 rfl) ?_
    refine zk_get C hW fgX6_44 1 rfl rfl dX6_readTo_30 ?_
    refine va_mmin hx hb (C.2.2.1.trans hl.1.symm) C.2.2.2.1 (C.2.2.2.2.1 _ kmlX6_47) (C.2.2.2.2.1 _ km_min_s) (C.2.2.2.2.1 _ km_i) (C.2.2.2.2.1 _ km_min_c) (Nat.le_of_ble_eq_true rfl) (Nat.le_of_ble_eq_true rfl) (Nat.zero_le _) (Nat.zero_le _) dX6_readTo_33 ?_
    refine lv_iload_n hx hb dX6_readTo_36 rfl (lv_at hl 3 rfl) ?_
    obtain ⟨u3, eu3, hf⟩ := bnd hf
    refine zk_callV (As := [.ref (q1 0), .int (if t1.2.2 < t1.2.1 then t1.2.2 else t1.2.1), .int (bI a2)]) (rest := []) (W1 := wX6 G q u3.1 u3.2.1 u3.2.2.1 u3.2.2.2.1 u3.2.2.2.2.1 u3.2.2.2.2.2 ++ wX3 G q1 t1.1 t1.2.1 t1.2.2) C hW hl mvX6_40 (c_X6_hearSome l G q q1 u1 t1 (if t1.2.2 < t1.2.1 then t1.2.2 else t1.2.1) a2 u3 eu3) ⟨(Nat.le_of_ble_eq_true rfl), (Nat.le_of_ble_eq_true rfl)⟩ ⟨rfl, rfl⟩ [0, 1, 2] rfl rfl rfl rfl (Nat.le_of_ble_eq_true rfl) (Nat.le_of_ble_eq_true rfl) rfl dX6_readTo_37 ⟨Nat.zero_le _, Nat.zero_le _⟩ (fun H locs hW => ?_)
    obtain rfl := Option.some.inj hf
    exact zk_vret C hW dX6_readTo_40
  · have hf := ipos c2 hf
    refine lv_aload_n hx hb dX6_readTo_10 rfl (lv_at hl 0 rfl) ?_
    refine lv_aload_n hx hb dX6_readTo_11 rfl (lv_at hl 2 rfl) ?_
    refine lv_aload_n hx hb dX6_readTo_12 rfl (lv_at hl 2 rfl) ?_
    refine zk_get C hW fgX6_35 1 rfl rfl dX6_readTo_13 ?_
    refine lv_iconst (v := 1) hx hb dX6_readTo_16 (by decide) ?_
    obtain ⟨u4, eu4, hf⟩ := bnd hf
    refine zk_callV (As := [.ref (q1 0), .int t1.2.1, .int (bI true)]) (rest := []) (W1 := wX6 G q u4.1 u4.2.1 u4.2.2.1 u4.2.2.2.1 u4.2.2.2.2.1 u4.2.2.2.2.2 ++ wX3 G q1 t1.1 t1.2.1 t1.2.2) C hW hl mvX6_40 (c_X6_hearSome l G q q1 u1 t1 t1.2.1 true u4 eu4) ⟨(Nat.le_of_ble_eq_true rfl), (Nat.le_of_ble_eq_true rfl)⟩ ⟨rfl, rfl⟩ [0, 1, 2] rfl rfl rfl rfl (Nat.le_of_ble_eq_true rfl) (Nat.le_of_ble_eq_true rfl) rfl dX6_readTo_17 ⟨Nat.zero_le _, Nat.zero_le _⟩ (fun H locs hW => ?_)
    refine lv_goto (tgt := 40) hx hb dX6_readTo_20 (by decide) ?_
    obtain rfl := Option.some.inj hf
    exact zk_vret C hW dX6_readTo_40
