set_option maxHeartbeats 4000000 in
set_option maxRecDepth 100000 in
theorem c_X4_has (l : Launch) (G : GG) (q : Nat → Nat) (t0 : zLS) (a0 : Int32) (out : Bool) (hf : f_X4_has t0 a0 = some out) : CtI G l yX4_has (Cond.code yX4_has cX4_has 2 (some .boolean) :: WL) (zR 0 0) [.ref (q 0), .int a0] (wX4 G q t0.1 t0.2) (bI out) (wX4 G q t0.1 t0.2) := by
  refine CtI.mk (cc := cX4_has) (nL := 2) (rt := (some .boolean)) (own := RX4) (nm := "has") (by decide) rfl rfl (Nat.le_of_ble_eq_true rfl) ?_
  intro p e s m below meth c A ls C hW hl
  have hx := C.1
  have hb := C.2.1
  have hl : lv_has ls 2 [(0, .ref (q 0)), (1, .int a0)] := hl
  unfold f_X4_has at hf
  refine lv_iload_n hx hb dX4_has_0 rfl (lv_at hl 1 rfl) ?_
  refine lv_if_lt (tgt := 25) hx hb dX4_has_1 (by decide) (fun c1 => ?_) (fun c1 => ?_)
  · have hf := ipos c1 hf
    refine lv_iconst (v := 0) hx hb dX4_has_25 (by decide) ?_
    obtain rfl := Option.some.inj hf
    exact zk_zret false C hW rfl dX4_has_26
  · have hf := ineg c1 hf
    refine lv_iload_n hx hb dX4_has_4 rfl (lv_at hl 1 rfl) ?_
    refine lv_aload_n hx hb dX4_has_5 rfl (lv_at hl 0 rfl) ?_
    refine zk_get C hW fgX4_15 0 rfl rfl dX4_has_6 ?_
    refine lv_icmp_ge (tgt := 25) hx hb dX4_has_9 (by decide) (fun c2 => ?_) (fun c2 => ?_)
    · have hf := ipos c2 hf
      refine lv_iconst (v := 0) hx hb dX4_has_25 (by decide) ?_
      obtain rfl := Option.some.inj hf
      exact zk_zret false C hW rfl dX4_has_26
    · have hf := ineg c2 hf
      refine lv_iload_n hx hb dX4_has_12 rfl (lv_at hl 1 rfl) ?_
      refine lv_aload_n hx hb dX4_has_13 rfl (lv_at hl 0 rfl) ?_
      refine zk_get C hW fgX4_9 0 rfl rfl dX4_has_14 ?_
      refine zk_alen C hW 1 rfl dX4_has_17 ?_
      refine lv_icmp_ge (tgt := 25) hx hb dX4_has_18 (by decide) (fun c3 => ?_) (fun c3 => ?_)
      · have hf := ipos c3 hf
        refine lv_iconst (v := 0) hx hb dX4_has_25 (by decide) ?_
        obtain rfl := Option.some.inj hf
        exact zk_zret false C hW rfl dX4_has_26
      · have hf := ineg c3 hf
        refine lv_iconst (v := 1) hx hb dX4_has_21 (by decide) ?_
        refine lv_goto (tgt := 26) hx hb dX4_has_22 (by decide) ?_
        obtain rfl := Option.some.inj hf
        exact zk_zret true C hW rfl dX4_has_26

set_option maxHeartbeats 4000000 in
set_option maxRecDepth 100000 in
theorem c_X4_kindOf (l : Launch) (G : GG) (q : Nat → Nat) (t0 : zLS) (a0 : Int32) (out : Int32) (hf : f_X4_kindOf t0 a0 = some out) : CtI G l yX4_kindOf (Cond.code yX4_kindOf cX4_kindOf 2 (some .int) :: WL) (zR 1 21) [.ref (q 0), .int a0] (wX4 G q t0.1 t0.2) out (wX4 G q t0.1 t0.2) := by
  refine CtI.mk (cc := cX4_kindOf) (nL := 2) (rt := (some .int)) (own := RX4) (nm := "kindOf") (by decide) rfl rfl (Nat.le_of_ble_eq_true rfl) ?_
  intro p e s m below meth c A ls C hW hl
  have hx := C.1
  have hb := C.2.1
  have hl : lv_has ls 2 [(0, .ref (q 0)), (1, .int a0)] := hl
  unfold f_X4_kindOf at hf
  refine lv_aload_n hx hb dX4_kindOf_0 rfl (lv_at hl 0 rfl) ?_
  refine lv_iload_n hx hb dX4_kindOf_1 rfl (lv_at hl 1 rfl) ?_
  obtain ⟨u1, eu1, hf⟩ := bnd hf
  refine zk_callBI (As := [.int a0]) (rest := []) (W1 := wX4 G q t0.1 t0.2) C hW hl mvX4_19 (c_X4_has l G q t0 a0 u1 eu1) ⟨(Nat.le_of_ble_eq_true rfl), (Nat.le_of_ble_eq_true rfl)⟩ ⟨rfl, rfl⟩ ([]) ([]) zE1 rfl rfl (Nat.le_of_ble_eq_true rfl) zE1r dX4_kindOf_2 ⟨Nat.zero_le _, Nat.zero_le _⟩ (fun H locs hW => ?_)
  refine lv_if_eq (tgt := 17) hx hb dX4_kindOf_5 (by decide) (fun c2 => ?_) (fun c2 => ?_)
  · have hf := ipos c2 hf
    refine lv_iconst (v := 0) hx hb dX4_kindOf_17 (by decide) ?_
    obtain rfl := Option.some.inj hf
    exact zk_iret C hW rfl dX4_kindOf_18
  · have hf := ineg c2 hf
    refine lv_aload_n hx hb dX4_kindOf_8 rfl (lv_at hl 0 rfl) ?_
    refine zk_get C hW fgX4_9 0 rfl rfl dX4_kindOf_9 ?_
    refine lv_iload_n hx hb dX4_kindOf_12 rfl (lv_at hl 1 rfl) ?_
    obtain ⟨g3, hf⟩ := grd hf
    refine zk_iald C hW 1 g3 rfl dX4_kindOf_13 ?_
    refine lv_goto (tgt := 18) hx hb dX4_kindOf_14 (by decide) ?_
    obtain rfl := Option.some.inj hf
    exact zk_iret C hW rfl dX4_kindOf_18

set_option maxHeartbeats 4000000 in
set_option maxRecDepth 100000 in
theorem c_X4_add (l : Launch) (G : GG) (q : Nat → Nat) (t0 : zLS) (a0 : Int32) (out : zLS) (hf : f_X4_add t0 a0 = some out) : CtV G l yX4_add (Cond.code yX4_add cX4_add 2 none :: WL) (zR 0 0) [.ref (q 0), .int a0] (wX4 G q t0.1 t0.2) (wX4 G q out.1 out.2) := by
  refine CtV.mk (cc := cX4_add) (nL := 2) (rt := none) (own := RX4) (nm := "add") (by decide) rfl rfl (Nat.le_of_ble_eq_true rfl) ?_
  intro p e s m below meth c A ls C hW hl
  have hx := C.1
  have hb := C.2.1
  have hl : lv_has ls 2 [(0, .ref (q 0)), (1, .int a0)] := hl
  unfold f_X4_add at hf
  refine lv_aload_n hx hb dX4_add_0 rfl (lv_at hl 0 rfl) ?_
  refine zk_get C hW fgX4_15 0 rfl rfl dX4_add_1 ?_
  refine lv_if_lt (tgt := 19) hx hb dX4_add_4 (by decide) (fun c1 => ?_) (fun c1 => ?_)
  · have hf := ipos c1 hf
    obtain rfl := Option.some.inj hf
    exact zk_vret C hW dX4_add_19
  · have hf := ineg c1 hf
    refine lv_aload_n hx hb dX4_add_7 rfl (lv_at hl 0 rfl) ?_
    refine zk_get C hW fgX4_15 0 rfl rfl dX4_add_8 ?_
    refine lv_aload_n hx hb dX4_add_11 rfl (lv_at hl 0 rfl) ?_
    refine zk_get C hW fgX4_9 0 rfl rfl dX4_add_12 ?_
    refine zk_alen C hW 1 rfl dX4_add_15 ?_
    refine lv_icmp_lt (tgt := 20) hx hb dX4_add_16 (by decide) (fun c2 => ?_) (fun c2 => ?_)
    · have hf := ipos c2 hf
      refine lv_aload_n hx hb dX4_add_20 rfl (lv_at hl 0 rfl) ?_
      refine zk_get C hW fgX4_9 0 rfl rfl dX4_add_21 ?_
      refine lv_aload_n hx hb dX4_add_24 rfl (lv_at hl 0 rfl) ?_
      refine zk_get C hW fgX4_15 0 rfl rfl dX4_add_25 ?_
      refine lv_iload_n hx hb dX4_add_28 rfl (lv_at hl 1 rfl) ?_
      obtain ⟨g4, hf⟩ := grd hf
      obtain ⟨z3, ez3, hf⟩ := bnd hf
      refine zk_iast (W1 := wX4 G q z3 t0.2) C hW 1 g4 (Option.some.inj ez3) rfl rfl dX4_add_29 (fun H locs hW => ?_)
      refine lv_aload_n hx hb dX4_add_30 rfl (lv_at hl 0 rfl) ?_
      refine lv_dup hx hb dX4_add_31 rfl ?_
      refine zk_get C hW fgX4_15 0 rfl rfl dX4_add_32 ?_
      refine lv_iconst (v := 1) hx hb dX4_add_35 (by decide) ?_
      refine lv_iadd hx hb dX4_add_36 ?_
      obtain ⟨z5, ez5, hf⟩ := bnd hf
      refine zk_putI (W1 := wX4 G q z3 z5) C hW fpX4_15 0 (Option.some.inj ez5) rfl (Nat.le_of_ble_eq_true rfl) rfl dX4_add_37 (fun H locs hW => ?_)
      obtain rfl := Option.some.inj hf
      exact zk_vret C hW dX4_add_40
    · have hf := ineg c2 hf
      obtain rfl := Option.some.inj hf
      exact zk_vret C hW dX4_add_19

set_option maxHeartbeats 4000000 in
set_option maxRecDepth 100000 in
theorem c_X7_add (l : Launch) (G : GG) (q : Nat → Nat) (t0 : zTD) (a0 : Int32) (out : zTD) (hf : f_X7_add t0 a0 = some out) : CtV G l yX7_add (Cond.code yX7_add cX7_add 2 none :: WL) (zR 0 0) [.ref (q 0), .int a0] (wX7 G q t0.1 t0.2) (wX7 G q out.1 out.2) := by
  refine CtV.mk (cc := cX7_add) (nL := 2) (rt := none) (own := RX7) (nm := "add") (by decide) rfl rfl (Nat.le_of_ble_eq_true rfl) ?_
  intro p e s m below meth c A ls C hW hl
  have hx := C.1
  have hb := C.2.1
  have hl : lv_has ls 2 [(0, .ref (q 0)), (1, .int a0)] := hl
  unfold f_X7_add at hf
  refine lv_aload_n hx hb dX7_add_0 rfl (lv_at hl 0 rfl) ?_
  refine zk_get C hW fgX7_15 0 rfl rfl dX7_add_1 ?_
  refine lv_if_lt (tgt := 19) hx hb dX7_add_4 (by decide) (fun c1 => ?_) (fun c1 => ?_)
  · have hf := ipos c1 hf
    obtain rfl := Option.some.inj hf
    exact zk_vret C hW dX7_add_19
  · have hf := ineg c1 hf
    refine lv_aload_n hx hb dX7_add_7 rfl (lv_at hl 0 rfl) ?_
    refine zk_get C hW fgX7_15 0 rfl rfl dX7_add_8 ?_
    refine lv_aload_n hx hb dX7_add_11 rfl (lv_at hl 0 rfl) ?_
    refine zk_get C hW fgX7_9 0 rfl rfl dX7_add_12 ?_
    refine zk_alen C hW 1 rfl dX7_add_15 ?_
    refine lv_icmp_lt (tgt := 20) hx hb dX7_add_16 (by decide) (fun c2 => ?_) (fun c2 => ?_)
    · have hf := ipos c2 hf
      refine lv_aload_n hx hb dX7_add_20 rfl (lv_at hl 0 rfl) ?_
      refine zk_get C hW fgX7_9 0 rfl rfl dX7_add_21 ?_
      refine lv_aload_n hx hb dX7_add_24 rfl (lv_at hl 0 rfl) ?_
      refine zk_get C hW fgX7_15 0 rfl rfl dX7_add_25 ?_
      refine lv_iload_n hx hb dX7_add_28 rfl (lv_at hl 1 rfl) ?_
      obtain ⟨g4, hf⟩ := grd hf
      obtain ⟨z3, ez3, hf⟩ := bnd hf
      refine zk_iast (W1 := wX7 G q z3 t0.2) C hW 1 g4 (Option.some.inj ez3) rfl rfl dX7_add_29 (fun H locs hW => ?_)
      refine lv_aload_n hx hb dX7_add_30 rfl (lv_at hl 0 rfl) ?_
      refine lv_dup hx hb dX7_add_31 rfl ?_
      refine zk_get C hW fgX7_15 0 rfl rfl dX7_add_32 ?_
      refine lv_iconst (v := 1) hx hb dX7_add_35 (by decide) ?_
      refine lv_iadd hx hb dX7_add_36 ?_
      obtain ⟨z5, ez5, hf⟩ := bnd hf
      refine zk_putI (W1 := wX7 G q z3 z5) C hW fpX7_15 0 (Option.some.inj ez5) rfl (Nat.le_of_ble_eq_true rfl) rfl dX7_add_37 (fun H locs hW => ?_)
      obtain rfl := Option.some.inj hf
      exact zk_vret C hW dX7_add_40
    · have hf := ineg c2 hf
      obtain rfl := Option.some.inj hf
      exact zk_vret C hW dX7_add_19

set_option maxHeartbeats 4000000 in
set_option maxRecDepth 100000 in
theorem c_X7_clear (l : Launch) (G : GG) (q : Nat → Nat) (t0 : zTD) (out : zTD) (hf : f_X7_clear t0 = some out) : CtV G l yX7_clear (Cond.code yX7_clear cX7_clear 1 none :: WL) (zR 0 0) [.ref (q 0)] (wX7 G q t0.1 t0.2) (wX7 G q out.1 out.2) := by
  refine CtV.mk (cc := cX7_clear) (nL := 1) (rt := none) (own := RX7) (nm := "clear") (by decide) rfl rfl (Nat.le_of_ble_eq_true rfl) ?_
  intro p e s m below meth c A ls C hW hl
  have hx := C.1
  have hb := C.2.1
  have hl : lv_has ls 1 [(0, .ref (q 0))] := hl
  unfold f_X7_clear at hf
  refine lv_aload_n hx hb dX7_clear_0 rfl (lv_at hl 0 rfl) ?_
  refine lv_iconst (v := 0) hx hb dX7_clear_1 (by decide) ?_
  refine zk_putI (W1 := wX7 G q t0.1 0) C hW fpX7_15 0 rfl rfl (Nat.le_of_ble_eq_true rfl) rfl dX7_clear_2 (fun H locs hW => ?_)
  obtain rfl := Option.some.inj hf
  exact zk_vret C hW dX7_clear_5

set_option maxHeartbeats 4000000 in
set_option maxRecDepth 100000 in
theorem c_X7_kindsAt (l : Launch) (G : GG) (q : Nat → Nat) (t0 : zTD) (a0 : Int32) (out : Int32) (hf : f_X7_kindsAt t0 a0 = some out) : CtI G l yX7_kindsAt (Cond.code yX7_kindsAt cX7_kindsAt 2 (some .int) :: WL) (zR 0 0) [.ref (q 0), .int a0] (wX7 G q t0.1 t0.2) out (wX7 G q t0.1 t0.2) := by
  refine CtI.mk (cc := cX7_kindsAt) (nL := 2) (rt := (some .int)) (own := RX7) (nm := "kindsAt") (by decide) rfl rfl (Nat.le_of_ble_eq_true rfl) ?_
  intro p e s m below meth c A ls C hW hl
  have hx := C.1
  have hb := C.2.1
  have hl : lv_has ls 2 [(0, .ref (q 0)), (1, .int a0)] := hl
  unfold f_X7_kindsAt at hf
  refine lv_iload_n hx hb dX7_kindsAt_0 rfl (lv_at hl 1 rfl) ?_
  refine lv_if_lt (tgt := 30) hx hb dX7_kindsAt_1 (by decide) (fun c1 => ?_) (fun c1 => ?_)
  · have hf := ipos c1 hf
    refine lv_bipush (v := 31) hx hb dX7_kindsAt_30 (by decide) ?_
    obtain rfl := Option.some.inj hf
    exact zk_iret C hW rfl dX7_kindsAt_32
  · have hf := ineg c1 hf
    refine lv_iload_n hx hb dX7_kindsAt_4 rfl (lv_at hl 1 rfl) ?_
    refine lv_aload_n hx hb dX7_kindsAt_5 rfl (lv_at hl 0 rfl) ?_
    refine zk_get C hW fgX7_15 0 rfl rfl dX7_kindsAt_6 ?_
    refine lv_icmp_ge (tgt := 30) hx hb dX7_kindsAt_9 (by decide) (fun c2 => ?_) (fun c2 => ?_)
    · have hf := ipos c2 hf
      refine lv_bipush (v := 31) hx hb dX7_kindsAt_30 (by decide) ?_
      obtain rfl := Option.some.inj hf
      exact zk_iret C hW rfl dX7_kindsAt_32
    · have hf := ineg c2 hf
      refine lv_iload_n hx hb dX7_kindsAt_12 rfl (lv_at hl 1 rfl) ?_
      refine lv_aload_n hx hb dX7_kindsAt_13 rfl (lv_at hl 0 rfl) ?_
      refine zk_get C hW fgX7_9 0 rfl rfl dX7_kindsAt_14 ?_
      refine zk_alen C hW 1 rfl dX7_kindsAt_17 ?_
      refine lv_icmp_ge (tgt := 30) hx hb dX7_kindsAt_18 (by decide) (fun c3 => ?_) (fun c3 => ?_)
      · have hf := ipos c3 hf
        refine lv_bipush (v := 31) hx hb dX7_kindsAt_30 (by decide) ?_
        obtain rfl := Option.some.inj hf
        exact zk_iret C hW rfl dX7_kindsAt_32
      · have hf := ineg c3 hf
        refine lv_aload_n hx hb dX7_kindsAt_21 rfl (lv_at hl 0 rfl) ?_
        refine zk_get C hW fgX7_9 0 rfl rfl dX7_kindsAt_22 ?_
        refine lv_iload_n hx hb dX7_kindsAt_25 rfl (lv_at hl 1 rfl) ?_
        obtain ⟨g4, hf⟩ := grd hf
        refine zk_iald C hW 1 g4 rfl dX7_kindsAt_26 ?_
        refine lv_goto (tgt := 32) hx hb dX7_kindsAt_27 (by decide) ?_
        obtain rfl := Option.some.inj hf
        exact zk_iret C hW rfl dX7_kindsAt_32

set_option maxHeartbeats 4000000 in
set_option maxRecDepth 100000 in
theorem w_X7_possibleKinds_5 {p : Program} {e : Env} {s : State} {m : MethodId} {args : Array Value} {below : List Frame} {meth : Method} {c : Code} {A : Nat → Prop} (l : Launch) (G : GG) (q : Nat → Nat) (s0_0 : (Nat → Int32)) (s0_1 : Int32) (out : Int32) (C : CX p s m args meth c cX7_possibleKinds 3 RX7 (some .int) "possibleKinds") {K : Int32 → Int32 → Option (Int32)} (hK : ∀ (v1 : Int32) (v2 : Int32) , K v1 v2 = some out → ∀ (H : Heap) (locs : List Loc) (ls : Array Slot), KW G A s (wX7 G q s0_0 s0_1) H locs → lv_has ls 3 [(1, .int v1)] → W p l e (zR 1 21) s m args below meth c H locs 0 0 (QI G A out (wX7 G q ((s0_0, s0_1).1) ((s0_0, s0_1).2)) below args s) (F0 m 27 ls [])) :
    ∀ (n : Nat) (v1 : Int32) (v2 : Int32) , lp_X7_possibleKinds_5 s0_0 s0_1 K n v1 v2 = some out → ∀ (H : Heap) (locs : List Loc) (ls : Array Slot), KW G A s (wX7 G q s0_0 s0_1) H locs → lv_has ls 3 [(0, .ref (q 0)), (1, .int v1), (2, .int v2)] → W p l e (zR 1 21) s m args below meth c H locs 0 0 (QI G A out (wX7 G q ((s0_0, s0_1).1) ((s0_0, s0_1).2)) below args s) (F0 m 5 ls []) := by
  have hx := C.1
  have hb := C.2.1
  intro n
  induction n with
  | zero => intro v1 v2 hf; exact nomatch (show (none : Option (Int32)) = some out from hf)
  | succ n ih =>
    intro v1 v2 hf H locs ls hW hl
    rw [lp_X7_possibleKinds_5] at hf
    refine lv_iload_n hx hb dX7_possibleKinds_5 rfl (lv_at hl 2 rfl) ?_
    refine lv_aload_n hx hb dX7_possibleKinds_6 rfl (lv_at hl 0 rfl) ?_
    refine zk_get C hW fgX7_15 0 rfl rfl dX7_possibleKinds_7 ?_
    refine lv_icmp_ge (tgt := 27) hx hb dX7_possibleKinds_10 (by decide) (fun c1 => ?_) (fun c1 => ?_)
    · have hf := ipos c1 hf
      exact hK v1 v2 hf _ _ _ hW (lv_sub hl [1] rfl)
    · have hf := ineg c1 hf
      refine lv_iload_n hx hb dX7_possibleKinds_13 rfl (lv_at hl 1 rfl) ?_
      refine lv_aload_n hx hb dX7_possibleKinds_14 rfl (lv_at hl 0 rfl) ?_
      refine lv_iload_n hx hb dX7_possibleKinds_15 rfl (lv_at hl 2 rfl) ?_
      obtain ⟨u2, eu2, hf⟩ := bnd hf
      refine zk_callBI (As := [.int v2]) (rest := [.int v1]) (W1 := wX7 G q s0_0 s0_1) C hW hl mvX7_19 (c_X7_kindsAt l G q (s0_0, s0_1) v2 u2 eu2) ⟨(Nat.le_of_ble_eq_true rfl), (Nat.le_of_ble_eq_true rfl)⟩ ⟨rfl, rfl⟩ ([]) ([]) zE1 rfl rfl (Nat.le_of_ble_eq_true rfl) zE1r dX7_possibleKinds_16 ⟨Nat.zero_le _, Nat.zero_le _⟩ (fun H locs hW => ?_)
      refine lv_iand hx hb dX7_possibleKinds_19 ?_
      refine lv_istore_n (lv' := [(1, .int (v1 &&& u2)), (0, .ref (q 0)), (2, .int v2)]) hx hb dX7_possibleKinds_20 rfl hl (by decide) rfl (fun ls hl => ?_)
      refine lv_iinc (v := (v2 + 1)) (lv' := [(2, .int (v2 + 1)), (1, .int (v1 &&& u2)), (0, .ref (q 0))]) hx hb dX7_possibleKinds_21 hl (k := 2) rfl rfl (by decide) rfl (fun ls hl => ?_)
      refine lv_goto (tgt := 5) hx hb dX7_possibleKinds_24 (by decide) ?_
      exact ih (v1 &&& u2) (v2 + 1) hf _ _ _ hW (lv_sub hl [2, 1, 0] rfl)
set_option maxHeartbeats 4000000 in
set_option maxRecDepth 100000 in
theorem c_X7_possibleKinds (l : Launch) (G : GG) (q : Nat → Nat) (t0 : zTD) (out : Int32) (hf : f_X7_possibleKinds t0 = some out) : CtI G l yX7_possibleKinds (Cond.code yX7_possibleKinds cX7_possibleKinds 3 (some .int) :: WL) (zR 1 21) [.ref (q 0)] (wX7 G q t0.1 t0.2) out (wX7 G q t0.1 t0.2) := by
  refine CtI.mk (cc := cX7_possibleKinds) (nL := 3) (rt := (some .int)) (own := RX7) (nm := "possibleKinds") (by decide) rfl rfl (Nat.le_of_ble_eq_true rfl) ?_
  intro p e s m below meth c A ls C hW hl
  have hx := C.1
  have hb := C.2.1
  have hl : lv_has ls 3 [(0, .ref (q 0))] := hl
  unfold f_X7_possibleKinds at hf
  refine lv_bipush (v := 31) hx hb dX7_possibleKinds_0 (by decide) ?_
  refine lv_istore_n (lv' := [(1, .int 31), (0, .ref (q 0))]) hx hb dX7_possibleKinds_2 rfl hl (by decide) rfl (fun ls hl => ?_)
  refine lv_iconst (v := 0) hx hb dX7_possibleKinds_3 (by decide) ?_
  refine lv_istore_n (lv' := [(2, .int 0), (1, .int 31), (0, .ref (q 0))]) hx hb dX7_possibleKinds_4 rfl hl (by decide) rfl (fun ls hl => ?_)
  refine w_X7_possibleKinds_5 l G q t0.1 t0.2 out C (fun w3_v1 w3_v2 hf H locs ls hW hl => ?_) FU 31 0 hf _ _ _ hW (lv_sub hl [2, 1, 0] rfl)
  refine lv_iload_n hx hb dX7_possibleKinds_27 rfl (lv_at hl 0 rfl) ?_
  obtain rfl := Option.some.inj hf
  exact zk_iret C hW rfl dX7_possibleKinds_28

set_option maxHeartbeats 4000000 in
set_option maxRecDepth 100000 in
theorem w_X7_copy_6 {p : Program} {e : Env} {s : State} {m : MethodId} {args : Array Value} {below : List Frame} {meth : Method} {c : Code} {A : Nat → Prop} (l : Launch) (G : GG) (q : Nat → Nat) (q1 : Nat → Nat) (s1_0 : (Nat → Int32)) (s1_1 : Int32) (out : zTD) (C : CX p s m args meth c cX7_copy 3 RX7 none "copy") {K : Int32 → (Nat → Int32) → Int32 → Option (zTD)} (hK : ∀ (v2 : Int32) (s0_0 : (Nat → Int32)) (s0_1 : Int32) , K v2 s0_0 s0_1 = some out → ∀ (H : Heap) (locs : List Loc) (ls : Array Slot), KW G A s (wX7 G q s0_0 s0_1 ++ wX7 G q1 s1_0 s1_1) H locs → lv_has ls 3 [] → W p l e (zR 1 21) s m args below meth c H locs 0 0 (QV G A (wX7 G q out.1 out.2 ++ wX7 G q1 ((s1_0, s1_1).1) ((s1_0, s1_1).2)) below args s) (F0 m 29 ls [])) :
    ∀ (n : Nat) (v2 : Int32) (s0_0 : (Nat → Int32)) (s0_1 : Int32) , lp_X7_copy_6 s1_0 s1_1 K n v2 s0_0 s0_1 = some out → ∀ (H : Heap) (locs : List Loc) (ls : Array Slot), KW G A s (wX7 G q s0_0 s0_1 ++ wX7 G q1 s1_0 s1_1) H locs → lv_has ls 3 [(0, .ref (q 0)), (1, .ref (q1 0)), (2, .int v2)] → W p l e (zR 1 21) s m args below meth c H locs 0 0 (QV G A (wX7 G q out.1 out.2 ++ wX7 G q1 ((s1_0, s1_1).1) ((s1_0, s1_1).2)) below args s) (F0 m 6 ls []) := by
  have hx := C.1
  have hb := C.2.1
  intro n
  induction n with
  | zero => intro v2 s0_0 s0_1 hf; exact nomatch (show (none : Option (zTD)) = some out from hf)
  | succ n ih =>
    intro v2 s0_0 s0_1 hf H locs ls hW hl
    rw [lp_X7_copy_6] at hf
    refine lv_iload_n hx hb dX7_copy_6 rfl (lv_at hl 2 rfl) ?_
    refine lv_aload_n hx hb dX7_copy_7 rfl (lv_at hl 1 rfl) ?_
    refine zk_get C hW fgX7_15 2 rfl rfl dX7_copy_8 ?_
    refine lv_icmp_ge (tgt := 29) hx hb dX7_copy_11 (by decide) (fun c2 => ?_) (fun c2 => ?_)
    · have hf := ipos c2 hf
      exact hK v2 s0_0 s0_1 hf _ _ _ hW (lv_sub hl [] rfl)
    · have hf := ineg c2 hf
      refine lv_aload_n hx hb dX7_copy_14 rfl (lv_at hl 0 rfl) ?_
      refine lv_aload_n hx hb dX7_copy_15 rfl (lv_at hl 1 rfl) ?_
      refine lv_iload_n hx hb dX7_copy_16 rfl (lv_at hl 2 rfl) ?_
      obtain ⟨u3, eu3, hf⟩ := bnd hf
      refine zk_callBI (As := [.int v2]) (rest := [.ref (q 0)]) (W1 := wX7 G q s0_0 s0_1 ++ wX7 G q1 s1_0 s1_1) C hW hl mvX7_19 (c_X7_kindsAt l G q1 (s1_0, s1_1) v2 u3 eu3) ⟨(Nat.le_of_ble_eq_true rfl), (Nat.le_of_ble_eq_true rfl)⟩ ⟨rfl, rfl⟩ (wX7 G q s0_0 s0_1) ([]) zE3 rfl rfl (Nat.le_of_ble_eq_true rfl) zE3r dX7_copy_17 ⟨Nat.zero_le _, Nat.zero_le _⟩ (fun H locs hW => ?_)
      obtain ⟨u4, eu4, hf⟩ := bnd hf
      refine zk_callBV (As := [.int u3]) (rest := []) (W1 := wX7 G q u4.1 u4.2 ++ wX7 G q1 s1_0 s1_1) C hW hl mvX7_26 (c_X7_add l G q (s0_0, s0_1) u3 u4 eu4) ⟨(Nat.le_of_ble_eq_true rfl), (Nat.le_of_ble_eq_true rfl)⟩ ⟨rfl, rfl⟩ ([]) (wX7 G q1 s1_0 s1_1) zE2 rfl rfl (Nat.le_of_ble_eq_true rfl) zE2r dX7_copy_20 ⟨Nat.zero_le _, Nat.zero_le _⟩ (fun H locs hW => ?_)
      refine lv_iinc (v := (v2 + 1)) (lv' := [(2, .int (v2 + 1)), (0, .ref (q 0)), (1, .ref (q1 0))]) hx hb dX7_copy_23 hl (k := 2) rfl rfl (by decide) rfl (fun ls hl => ?_)
      refine lv_goto (tgt := 6) hx hb dX7_copy_26 (by decide) ?_
      exact ih (v2 + 1) u4.1 u4.2 hf _ _ _ hW (lv_sub hl [1, 2, 0] rfl)
set_option maxHeartbeats 4000000 in
set_option maxRecDepth 100000 in
theorem c_X7_copy (l : Launch) (G : GG) (q : Nat → Nat) (q1 : Nat → Nat) (t0 : zTD) (t1 : zTD) (out : zTD) (hf : f_X7_copy t0 t1 = some out) : CtV G l yX7_copy (Cond.code yX7_copy cX7_copy 3 none :: WL) (zR 1 21) [.ref (q 0), .ref (q1 0)] (wX7 G q t0.1 t0.2 ++ wX7 G q1 t1.1 t1.2) (wX7 G q out.1 out.2 ++ wX7 G q1 t1.1 t1.2) := by
  refine CtV.mk (cc := cX7_copy) (nL := 3) (rt := none) (own := RX7) (nm := "copy") (by decide) rfl rfl (Nat.le_of_ble_eq_true rfl) ?_
  intro p e s m below meth c A ls C hW hl
  have hx := C.1
  have hb := C.2.1
  have hl : lv_has ls 3 [(0, .ref (q 0)), (1, .ref (q1 0))] := hl
  unfold f_X7_copy at hf
  refine lv_aload_n hx hb dX7_copy_0 rfl (lv_at hl 0 rfl) ?_
  obtain ⟨u1, eu1, hf⟩ := bnd hf
  refine zk_callBV (As := []) (rest := []) (W1 := wX7 G q u1.1 u1.2 ++ wX7 G q1 t1.1 t1.2) C hW hl mvX7_23 (c_X7_clear l G q t0 u1 eu1) ⟨(Nat.le_of_ble_eq_true rfl), (Nat.le_of_ble_eq_true rfl)⟩ ⟨rfl, rfl⟩ ([]) (wX7 G q1 t1.1 t1.2) zE2 rfl rfl (Nat.le_of_ble_eq_true rfl) zE2r dX7_copy_1 ⟨Nat.zero_le _, Nat.zero_le _⟩ (fun H locs hW => ?_)
  refine lv_iconst (v := 0) hx hb dX7_copy_4 (by decide) ?_
  refine lv_istore_n (lv' := [(2, .int 0), (0, .ref (q 0)), (1, .ref (q1 0))]) hx hb dX7_copy_5 rfl hl (by decide) rfl (fun ls hl => ?_)
  refine w_X7_copy_6 l G q q1 t1.1 t1.2 out C (fun w5_v2 w5_s0_0 w5_s0_1 hf H locs ls hW hl => ?_) FU 0 u1.1 u1.2 hf _ _ _ hW (lv_sub hl [1, 2, 0] rfl)
  obtain rfl := Option.some.inj hf
  exact zk_vret C hW dX7_copy_29

set_option maxHeartbeats 4000000 in
set_option maxRecDepth 100000 in
theorem c_X5_add (l : Launch) (G : GG) (q : Nat → Nat) (t0 : zPG) (a0 : Int32) (out : zPG) (hf : f_X5_add t0 a0 = some out) : CtV G l yX5_add (Cond.code yX5_add cX5_add 2 none :: WL) (zR 0 0) [.ref (q 0), .int a0] (wX5 G q t0.1 t0.2) (wX5 G q out.1 out.2) := by
  refine CtV.mk (cc := cX5_add) (nL := 2) (rt := none) (own := RX5) (nm := "add") (by decide) rfl rfl (Nat.le_of_ble_eq_true rfl) ?_
  intro p e s m below meth c A ls C hW hl
  have hx := C.1
  have hb := C.2.1
  have hl : lv_has ls 2 [(0, .ref (q 0)), (1, .int a0)] := hl
  unfold f_X5_add at hf
  refine lv_aload_n hx hb dX5_add_0 rfl (lv_at hl 0 rfl) ?_
  refine zk_get C hW fgX5_15 0 rfl rfl dX5_add_1 ?_
  refine lv_if_lt (tgt := 19) hx hb dX5_add_4 (by decide) (fun c1 => ?_) (fun c1 => ?_)
  · have hf := ipos c1 hf
    obtain rfl := Option.some.inj hf
    exact zk_vret C hW dX5_add_19
  · have hf := ineg c1 hf
    refine lv_aload_n hx hb dX5_add_7 rfl (lv_at hl 0 rfl) ?_
    refine zk_get C hW fgX5_15 0 rfl rfl dX5_add_8 ?_
    refine lv_aload_n hx hb dX5_add_11 rfl (lv_at hl 0 rfl) ?_
    refine zk_get C hW fgX5_9 0 rfl rfl dX5_add_12 ?_
    refine zk_alen C hW 1 rfl dX5_add_15 ?_
    refine lv_icmp_lt (tgt := 20) hx hb dX5_add_16 (by decide) (fun c2 => ?_) (fun c2 => ?_)
    · have hf := ipos c2 hf
      refine lv_aload_n hx hb dX5_add_20 rfl (lv_at hl 0 rfl) ?_
      refine zk_get C hW fgX5_9 0 rfl rfl dX5_add_21 ?_
      refine lv_aload_n hx hb dX5_add_24 rfl (lv_at hl 0 rfl) ?_
      refine zk_get C hW fgX5_15 0 rfl rfl dX5_add_25 ?_
      refine lv_iload_n hx hb dX5_add_28 rfl (lv_at hl 1 rfl) ?_
      obtain ⟨g4, hf⟩ := grd hf
      obtain ⟨z3, ez3, hf⟩ := bnd hf
      refine zk_iast (W1 := wX5 G q z3 t0.2) C hW 1 g4 (Option.some.inj ez3) rfl rfl dX5_add_29 (fun H locs hW => ?_)
      refine lv_aload_n hx hb dX5_add_30 rfl (lv_at hl 0 rfl) ?_
      refine lv_dup hx hb dX5_add_31 rfl ?_
      refine zk_get C hW fgX5_15 0 rfl rfl dX5_add_32 ?_
      refine lv_iconst (v := 1) hx hb dX5_add_35 (by decide) ?_
      refine lv_iadd hx hb dX5_add_36 ?_
      obtain ⟨z5, ez5, hf⟩ := bnd hf
      refine zk_putI (W1 := wX5 G q z3 z5) C hW fpX5_15 0 (Option.some.inj ez5) rfl (Nat.le_of_ble_eq_true rfl) rfl dX5_add_37 (fun H locs hW => ?_)
      obtain rfl := Option.some.inj hf
      exact zk_vret C hW dX5_add_40
    · have hf := ineg c2 hf
      obtain rfl := Option.some.inj hf
      exact zk_vret C hW dX5_add_19

set_option maxHeartbeats 4000000 in
set_option maxRecDepth 100000 in
theorem c_X5_clear (l : Launch) (G : GG) (q : Nat → Nat) (t0 : zPG) (out : zPG) (hf : f_X5_clear t0 = some out) : CtV G l yX5_clear (Cond.code yX5_clear cX5_clear 1 none :: WL) (zR 0 0) [.ref (q 0)] (wX5 G q t0.1 t0.2) (wX5 G q out.1 out.2) := by
  refine CtV.mk (cc := cX5_clear) (nL := 1) (rt := none) (own := RX5) (nm := "clear") (by decide) rfl rfl (Nat.le_of_ble_eq_true rfl) ?_
  intro p e s m below meth c A ls C hW hl
  have hx := C.1
  have hb := C.2.1
  have hl : lv_has ls 1 [(0, .ref (q 0))] := hl
  unfold f_X5_clear at hf
  refine lv_aload_n hx hb dX5_clear_0 rfl (lv_at hl 0 rfl) ?_
  refine lv_iconst (v := 0) hx hb dX5_clear_1 (by decide) ?_
  refine zk_putI (W1 := wX5 G q t0.1 0) C hW fpX5_15 0 rfl rfl (Nat.le_of_ble_eq_true rfl) rfl dX5_clear_2 (fun H locs hW => ?_)
  obtain rfl := Option.some.inj hf
  exact zk_vret C hW dX5_clear_5

set_option maxHeartbeats 4000000 in
set_option maxRecDepth 100000 in
theorem c_X5_signAt (l : Launch) (G : GG) (q : Nat → Nat) (t0 : zPG) (a0 : Int32) (out : Int32) (hf : f_X5_signAt t0 a0 = some out) : CtI G l yX5_signAt (Cond.code yX5_signAt cX5_signAt 2 (some .int) :: WL) (zR 0 0) [.ref (q 0), .int a0] (wX5 G q t0.1 t0.2) out (wX5 G q t0.1 t0.2) := by
  refine CtI.mk (cc := cX5_signAt) (nL := 2) (rt := (some .int)) (own := RX5) (nm := "signAt") (by decide) rfl rfl (Nat.le_of_ble_eq_true rfl) ?_
  intro p e s m below meth c A ls C hW hl
  have hx := C.1
  have hb := C.2.1
  have hl : lv_has ls 2 [(0, .ref (q 0)), (1, .int a0)] := hl
  unfold f_X5_signAt at hf
  refine lv_iload_n hx hb dX5_signAt_0 rfl (lv_at hl 1 rfl) ?_
  refine lv_if_lt (tgt := 30) hx hb dX5_signAt_1 (by decide) (fun c1 => ?_) (fun c1 => ?_)
  · have hf := ipos c1 hf
    refine lv_iconst (v := 0) hx hb dX5_signAt_30 (by decide) ?_
    obtain rfl := Option.some.inj hf
    exact zk_iret C hW rfl dX5_signAt_31
  · have hf := ineg c1 hf
    refine lv_iload_n hx hb dX5_signAt_4 rfl (lv_at hl 1 rfl) ?_
    refine lv_aload_n hx hb dX5_signAt_5 rfl (lv_at hl 0 rfl) ?_
    refine zk_get C hW fgX5_15 0 rfl rfl dX5_signAt_6 ?_
    refine lv_icmp_ge (tgt := 30) hx hb dX5_signAt_9 (by decide) (fun c2 => ?_) (fun c2 => ?_)
    · have hf := ipos c2 hf
      refine lv_iconst (v := 0) hx hb dX5_signAt_30 (by decide) ?_
      obtain rfl := Option.some.inj hf
      exact zk_iret C hW rfl dX5_signAt_31
    · have hf := ineg c2 hf
      refine lv_iload_n hx hb dX5_signAt_12 rfl (lv_at hl 1 rfl) ?_
      refine lv_aload_n hx hb dX5_signAt_13 rfl (lv_at hl 0 rfl) ?_
      refine zk_get C hW fgX5_9 0 rfl rfl dX5_signAt_14 ?_
      refine zk_alen C hW 1 rfl dX5_signAt_17 ?_
      refine lv_icmp_ge (tgt := 30) hx hb dX5_signAt_18 (by decide) (fun c3 => ?_) (fun c3 => ?_)
      · have hf := ipos c3 hf
        refine lv_iconst (v := 0) hx hb dX5_signAt_30 (by decide) ?_
        obtain rfl := Option.some.inj hf
        exact zk_iret C hW rfl dX5_signAt_31
      · have hf := ineg c3 hf
        refine lv_aload_n hx hb dX5_signAt_21 rfl (lv_at hl 0 rfl) ?_
        refine zk_get C hW fgX5_9 0 rfl rfl dX5_signAt_22 ?_
        refine lv_iload_n hx hb dX5_signAt_25 rfl (lv_at hl 1 rfl) ?_
        obtain ⟨g4, hf⟩ := grd hf
        refine zk_iald C hW 1 g4 rfl dX5_signAt_26 ?_
        refine lv_goto (tgt := 31) hx hb dX5_signAt_27 (by decide) ?_
        obtain rfl := Option.some.inj hf
        exact zk_iret C hW rfl dX5_signAt_31

set_option maxHeartbeats 4000000 in
set_option maxRecDepth 100000 in
theorem c_X5_wordOf (l : Launch) (G : GG) (a0 : Int32) (out : Int32) (hf : f_X5_wordOf a0 = some out) : CtI G l yX5_wordOf (Cond.code yX5_wordOf cX5_wordOf 1 (some .int) :: WL) (zR 0 0) [.int a0] ([]) out ([]) := by
  refine CtI.mk (cc := cX5_wordOf) (nL := 1) (rt := (some .int)) (own := RX5) (nm := "wordOf") (by decide) rfl rfl (Nat.le_of_ble_eq_true rfl) ?_
  intro p e s m below meth c A ls C hW hl
  have hx := C.1
  have hb := C.2.1
  have hl : lv_has ls 1 [(0, .int a0)] := hl
  unfold f_X5_wordOf at hf
  refine lv_iload_n hx hb dX5_wordOf_0 rfl (lv_at hl 0 rfl) ?_
  by_cases e1 : a0 = 46
  · have hf := ipos e1 hf
    refine lv_lookup (tgt := 70) (off := 69) hx hb dX5_wordOf_1 (by decide) (by rw [e1]; rfl) (by decide) ?_
    refine lv_iconst (v := 5) hx hb dX5_wordOf_70 (by decide) ?_
    obtain rfl := Option.some.inj hf
    exact zk_iret C hW rfl dX5_wordOf_71
  have hf := ineg e1 hf
  by_cases e2 : a0 = 100
  · have hf := ipos e2 hf
    refine lv_lookup (tgt := 68) (off := 67) hx hb dX5_wordOf_1 (by decide) (by rw [e2]; rfl) (by decide) ?_
    refine lv_iconst (v := 4) hx hb dX5_wordOf_68 (by decide) ?_
    obtain rfl := Option.some.inj hf
    exact zk_iret C hW rfl dX5_wordOf_69
  have hf := ineg e2 hf
  by_cases e3 : a0 = 110
  · have hf := ipos e3 hf
    refine lv_lookup (tgt := 62) (off := 61) hx hb dX5_wordOf_1 (by decide) (by rw [e3]; rfl) (by decide) ?_
    refine lv_iconst (v := 1) hx hb dX5_wordOf_62 (by decide) ?_
    obtain rfl := Option.some.inj hf
    exact zk_iret C hW rfl dX5_wordOf_63
  have hf := ineg e3 hf
  by_cases e4 : a0 = 116
  · have hf := ipos e4 hf
    refine lv_lookup (tgt := 64) (off := 63) hx hb dX5_wordOf_1 (by decide) (by rw [e4]; rfl) (by decide) ?_
    refine lv_iconst (v := 2) hx hb dX5_wordOf_64 (by decide) ?_
    obtain rfl := Option.some.inj hf
    exact zk_iret C hW rfl dX5_wordOf_65
  have hf := ineg e4 hf
  by_cases e5 : a0 = 117
  · have hf := ipos e5 hf
    refine lv_lookup (tgt := 66) (off := 65) hx hb dX5_wordOf_1 (by decide) (by rw [e5]; rfl) (by decide) ?_
    refine lv_iconst (v := 3) hx hb dX5_wordOf_66 (by decide) ?_
    obtain rfl := Option.some.inj hf
    exact zk_iret C hW rfl dX5_wordOf_67
  have hf := ineg e5 hf
  by_cases e6 : a0 = 121
  · have hf := ipos e6 hf
    refine lv_lookup (tgt := 60) (off := 59) hx hb dX5_wordOf_1 (by decide) (by rw [e6]; rfl) (by decide) ?_
    refine lv_iconst (v := 0) hx hb dX5_wordOf_60 (by decide) ?_
    obtain rfl := Option.some.inj hf
    exact zk_iret C hW rfl dX5_wordOf_61
  have hf := ineg e6 hf
  refine lv_lookup (tgt := 72) (off := 71) hx hb dX5_wordOf_1 (by decide) ((lv_osw e1 rfl).trans ((lv_osw e2 rfl).trans ((lv_osw e3 rfl).trans ((lv_osw e4 rfl).trans ((lv_osw e5 rfl).trans ((lv_osw e6 rfl).trans (rfl))))))) (by decide) ?_
  refine lv_iconst (v := (-1)) hx hb dX5_wordOf_72 (by decide) ?_
  obtain rfl := Option.some.inj hf
  exact zk_iret C hW rfl dX5_wordOf_73

set_option maxHeartbeats 4000000 in
set_option maxRecDepth 100000 in
theorem c_X5_fits (l : Launch) (G : GG) (a0 : Int32) (a1 : Int32) (a2 : Int32) (out : Bool) (hf : f_X5_fits a0 a1 a2 = some out) : CtI G l yX5_fits (Cond.code yX5_fits cX5_fits 3 (some .boolean) :: WL) (zR 1 20) [.int a0, .int a1, .int a2] ([]) (bI out) ([]) := by
  refine CtI.mk (cc := cX5_fits) (nL := 3) (rt := (some .boolean)) (own := RX5) (nm := "fits") (by decide) rfl rfl (Nat.le_of_ble_eq_true rfl) ?_
  intro p e s m below meth c A ls C hW hl
  have hx := C.1
  have hb := C.2.1
  have hl : lv_has ls 3 [(0, .int a0), (1, .int a1), (2, .int a2)] := hl
  unfold f_X5_fits at hf
  refine lv_iload_n hx hb dX5_fits_0 rfl (lv_at hl 2 rfl) ?_
  refine lv_iconst (v := (-1)) hx hb dX5_fits_1 (by decide) ?_
  refine lv_icmp_eq (tgt := 30) hx hb dX5_fits_2 (by decide) (fun c1 => ?_) (fun c1 => ?_)
  · have hf := ipos c1 hf
    refine lv_iload_n hx hb dX5_fits_30 rfl (lv_at hl 0 rfl) ?_
    refine lv_bipush (v := 59) hx hb dX5_fits_31 (by decide) ?_
    refine lv_icmp_ne (tgt := 46) hx hb dX5_fits_33 (by decide) (fun c2 => ?_) (fun c2 => ?_)
    · have hf := ineg c2 hf
      refine lv_iload_n hx hb dX5_fits_46 rfl (lv_at hl 1 rfl) ?_
      refine lv_bipush (v := 9) hx hb dX5_fits_47 (by decide) ?_
      refine lv_icmp_ge (tgt := 64) hx hb dX5_fits_49 (by decide) (fun c3 => ?_) (fun c3 => ?_)
      · have hf := ipos c3 hf
        refine lv_iconst (v := 0) hx hb dX5_fits_64 (by decide) ?_
        obtain rfl := Option.some.inj hf
        exact zk_zret false C hW rfl dX5_fits_65
      · have hf := ineg c3 hf
        refine lv_iload_n hx hb dX5_fits_52 rfl (lv_at hl 0 rfl) ?_
        obtain ⟨u4, eu4, hf⟩ := bnd hf
        refine zk_callSI (As := [.int a0]) (rest := []) (W1 := []) C hW hl msX5_36 (c_X5_wordOf l G a0 u4 eu4) ⟨(Nat.le_of_ble_eq_true rfl), (Nat.le_of_ble_eq_true rfl)⟩ ⟨rfl, rfl⟩ [] rfl rfl rfl (Nat.le_of_ble_eq_true rfl) (Nat.le_of_ble_eq_true rfl) rfl dX5_fits_53 ⟨Nat.zero_le _, Nat.zero_le _⟩ (fun H locs hW => ?_)
        refine lv_iconst (v := (-1)) hx hb dX5_fits_56 (by decide) ?_
        refine lv_icmp_eq (tgt := 64) hx hb dX5_fits_57 (by decide) (fun c5 => ?_) (fun c5 => ?_)
        · have hf := ipos c5 hf
          refine lv_iconst (v := 0) hx hb dX5_fits_64 (by decide) ?_
          obtain rfl := Option.some.inj hf
          exact zk_zret false C hW rfl dX5_fits_65
        · have hf := ineg c5 hf
          refine lv_iconst (v := 1) hx hb dX5_fits_60 (by decide) ?_
          refine lv_goto (tgt := 65) hx hb dX5_fits_61 (by decide) ?_
          obtain rfl := Option.some.inj hf
          exact zk_zret true C hW rfl dX5_fits_65
    · have hf := ipos c2 hf
      refine lv_iload_n hx hb dX5_fits_36 rfl (lv_at hl 1 rfl) ?_
      refine lv_if_le (tgt := 44) hx hb dX5_fits_37 (by decide) (fun c6 => ?_) (fun c6 => ?_)
      · have hf := ipos c6 hf
        refine lv_iconst (v := 0) hx hb dX5_fits_44 (by decide) ?_
        obtain rfl := Option.some.inj hf
        exact zk_zret false C hW rfl dX5_fits_45
      · have hf := ineg c6 hf
        refine lv_iconst (v := 1) hx hb dX5_fits_40 (by decide) ?_
        refine lv_goto (tgt := 45) hx hb dX5_fits_41 (by decide) ?_
        obtain rfl := Option.some.inj hf
        exact zk_zret true C hW rfl dX5_fits_45
  · have hf := ineg c1 hf
    refine lv_iload_n hx hb dX5_fits_5 rfl (lv_at hl 1 rfl) ?_
    refine lv_iload_n hx hb dX5_fits_6 rfl (lv_at hl 2 rfl) ?_
    refine lv_iconst (v := 1) hx hb dX5_fits_7 (by decide) ?_
    refine lv_iadd hx hb dX5_fits_8 ?_
    refine lv_icmp_ne (tgt := 28) hx hb dX5_fits_9 (by decide) (fun c7 => ?_) (fun c7 => ?_)
    · have hf := ineg c7 hf
      refine lv_iconst (v := 0) hx hb dX5_fits_28 (by decide) ?_
      obtain rfl := Option.some.inj hf
      exact zk_zret false C hW rfl dX5_fits_29
    · have hf := ipos c7 hf
      refine lv_iload_n hx hb dX5_fits_12 rfl (lv_at hl 0 rfl) ?_
      refine lv_bipush (v := 49) hx hb dX5_fits_13 (by decide) ?_
      refine lv_icmp_lt (tgt := 28) hx hb dX5_fits_15 (by decide) (fun c8 => ?_) (fun c8 => ?_)
      · have hf := ipos c8 hf
        refine lv_iconst (v := 0) hx hb dX5_fits_28 (by decide) ?_
        obtain rfl := Option.some.inj hf
        exact zk_zret false C hW rfl dX5_fits_29
      · have hf := ineg c8 hf
        refine lv_iload_n hx hb dX5_fits_18 rfl (lv_at hl 0 rfl) ?_
        refine lv_bipush (v := 57) hx hb dX5_fits_19 (by decide) ?_
        refine lv_icmp_gt (tgt := 28) hx hb dX5_fits_21 (by decide) (fun c9 => ?_) (fun c9 => ?_)
        · have hf := ipos c9 hf
          refine lv_iconst (v := 0) hx hb dX5_fits_28 (by decide) ?_
          obtain rfl := Option.some.inj hf
          exact zk_zret false C hW rfl dX5_fits_29
        · have hf := ineg c9 hf
          refine lv_iconst (v := 1) hx hb dX5_fits_24 (by decide) ?_
          refine lv_goto (tgt := 29) hx hb dX5_fits_25 (by decide) ?_
          obtain rfl := Option.some.inj hf
          exact zk_zret true C hW rfl dX5_fits_29

set_option maxHeartbeats 4000000 in
set_option maxRecDepth 100000 in
theorem w_X5_firstFault_4 {p : Program} {e : Env} {s : State} {m : MethodId} {args : Array Value} {below : List Frame} {meth : Method} {c : Code} {A : Nat → Prop} (l : Launch) (G : GG) (q : Nat → Nat) (s0_0 : (Nat → Int32)) (s0_1 : Int32) (out : Int32) (C : CX p s m args meth c cX5_firstFault 4 RX5 (some .int) "firstFault") {K : Int32 → Int32 → Option (Int32)} (hK : ∀ (v1 : Int32) (v2 : Int32) , K v1 v2 = some out → ∀ (H : Heap) (locs : List Loc) (ls : Array Slot), KW G A s (wX5 G q s0_0 s0_1) H locs → lv_has ls 4 [(0, .ref (q 0))] → W p l e (zR 2 42) s m args below meth c H locs 0 0 (QI G A out (wX5 G q ((s0_0, s0_1).1) ((s0_0, s0_1).2)) below args s) (F0 m 43 ls [])) :
    ∀ (n : Nat) (v1 : Int32) (v2 : Int32) , lp_X5_firstFault_4 s0_0 s0_1 K n v1 v2 = some out → ∀ (H : Heap) (locs : List Loc) (ls : Array Slot), KW G A s (wX5 G q s0_0 s0_1) H locs → lv_has ls 4 [(0, .ref (q 0)), (1, .int v1), (2, .int v2)] → W p l e (zR 2 42) s m args below meth c H locs 0 0 (QI G A out (wX5 G q ((s0_0, s0_1).1) ((s0_0, s0_1).2)) below args s) (F0 m 4 ls []) := by
  have hx := C.1
  have hb := C.2.1
  intro n
  induction n with
  | zero => intro v1 v2 hf; exact nomatch (show (none : Option (Int32)) = some out from hf)
  | succ n ih =>
    intro v1 v2 hf H locs ls hW hl
    rw [lp_X5_firstFault_4] at hf
    refine lv_iload_n hx hb dX5_firstFault_4 rfl (lv_at hl 2 rfl) ?_
    refine lv_aload_n hx hb dX5_firstFault_5 rfl (lv_at hl 0 rfl) ?_
    refine zk_get C hW fgX5_15 0 rfl rfl dX5_firstFault_6 ?_
    refine lv_icmp_ge (tgt := 43) hx hb dX5_firstFault_9 (by decide) (fun c1 => ?_) (fun c1 => ?_)
    · have hf := ipos c1 hf
      exact hK v1 v2 hf _ _ _ hW (lv_sub hl [0] rfl)
    · have hf := ineg c1 hf
      refine lv_aload_n hx hb dX5_firstFault_12 rfl (lv_at hl 0 rfl) ?_
      refine lv_iload_n hx hb dX5_firstFault_13 rfl (lv_at hl 2 rfl) ?_
      obtain ⟨u2, eu2, hf⟩ := bnd hf
      refine zk_callBI (As := [.int v2]) (rest := []) (W1 := wX5 G q s0_0 s0_1) C hW hl mvX5_19 (c_X5_signAt l G q (s0_0, s0_1) v2 u2 eu2) ⟨(Nat.le_of_ble_eq_true rfl), (Nat.le_of_ble_eq_true rfl)⟩ ⟨rfl, rfl⟩ ([]) ([]) zE1 rfl rfl (Nat.le_of_ble_eq_true rfl) zE1r dX5_firstFault_14 ⟨Nat.zero_le _, Nat.zero_le _⟩ (fun H locs hW => ?_)
      refine lv_istore_n (lv' := [(3, .int u2), (0, .ref (q 0)), (1, .int v1), (2, .int v2)]) hx hb dX5_firstFault_17 rfl hl (by decide) rfl (fun ls hl => ?_)
      refine lv_iload_n hx hb dX5_firstFault_18 rfl (lv_at hl 0 rfl) ?_
      refine lv_iload_n hx hb dX5_firstFault_19 rfl (lv_at hl 3 rfl) ?_
      refine lv_iload_n hx hb dX5_firstFault_20 rfl (lv_at hl 2 rfl) ?_
      obtain ⟨u3, eu3, hf⟩ := bnd hf
      refine zk_callSI (As := [.int u2, .int v2, .int v1]) (rest := []) (W1 := wX5 G q s0_0 s0_1) C hW hl msX5_23 (c_X5_fits l G u2 v2 v1 u3 eu3) ⟨(Nat.le_of_ble_eq_true rfl), (Nat.le_of_ble_eq_true rfl)⟩ ⟨rfl, rfl⟩ [] rfl rfl rfl (Nat.le_of_ble_eq_true rfl) (Nat.le_of_ble_eq_true rfl) rfl dX5_firstFault_21 ⟨Nat.zero_le _, Nat.zero_le _⟩ (fun H locs hW => ?_)
      refine lv_if_ne (tgt := 29) hx hb dX5_firstFault_24 (by decide) (fun c4 => ?_) (fun c4 => ?_)
      · have hf := ineg c4 hf
        refine lv_iload_n hx hb dX5_firstFault_29 rfl (lv_at hl 0 rfl) ?_
        refine lv_bipush (v := 59) hx hb dX5_firstFault_30 (by decide) ?_
        refine lv_icmp_ne (tgt := 37) hx hb dX5_firstFault_32 (by decide) (fun c5 => ?_) (fun c5 => ?_)
        · have hf := ineg c5 hf
          refine lv_iinc (v := (v2 + 1)) (lv' := [(2, .int (v2 + 1)), (3, .int u2), (0, .ref (q 0)), (1, .int v1)]) hx hb dX5_firstFault_37 hl (k := 3) rfl rfl (by decide) rfl (fun ls hl => ?_)
          refine lv_goto (tgt := 4) hx hb dX5_firstFault_40 (by decide) ?_
          exact ih v1 (v2 + 1) hf _ _ _ hW (lv_sub hl [2, 3, 0] rfl)
        · have hf := ipos c5 hf
          refine lv_iload_n hx hb dX5_firstFault_35 rfl (lv_at hl 3 rfl) ?_
          refine lv_istore_n (lv' := [(1, .int v2), (3, .int u2), (0, .ref (q 0)), (2, .int v2)]) hx hb dX5_firstFault_36 rfl hl (by decide) rfl (fun ls hl => ?_)
          refine lv_iinc (v := (v2 + 1)) (lv' := [(2, .int (v2 + 1)), (1, .int v2), (3, .int u2), (0, .ref (q 0))]) hx hb dX5_firstFault_37 hl (k := 3) rfl rfl (by decide) rfl (fun ls hl => ?_)
          refine lv_goto (tgt := 4) hx hb dX5_firstFault_40 (by decide) ?_
          exact ih v2 (v2 + 1) hf _ _ _ hW (lv_sub hl [3, 1, 0] rfl)
      · have hf := ipos c4 hf
        refine lv_iload_n hx hb dX5_firstFault_27 rfl (lv_at hl 3 rfl) ?_
        obtain rfl := Option.some.inj hf
        exact zk_iret C hW rfl dX5_firstFault_28
set_option maxHeartbeats 4000000 in
set_option maxRecDepth 100000 in
theorem c_X5_firstFault (l : Launch) (G : GG) (q : Nat → Nat) (t0 : zPG) (out : Int32) (hf : f_X5_firstFault t0 = some out) : CtI G l yX5_firstFault (Cond.code yX5_firstFault cX5_firstFault 4 (some .int) :: WL) (zR 2 42) [.ref (q 0)] (wX5 G q t0.1 t0.2) out (wX5 G q t0.1 t0.2) := by
  refine CtI.mk (cc := cX5_firstFault) (nL := 4) (rt := (some .int)) (own := RX5) (nm := "firstFault") (by decide) rfl rfl (Nat.le_of_ble_eq_true rfl) ?_
  intro p e s m below meth c A ls C hW hl
  have hx := C.1
  have hb := C.2.1
  have hl : lv_has ls 4 [(0, .ref (q 0))] := hl
  unfold f_X5_firstFault at hf
  refine lv_iconst (v := (-1)) hx hb dX5_firstFault_0 (by decide) ?_
  refine lv_istore_n (lv' := [(1, .int (-1)), (0, .ref (q 0))]) hx hb dX5_firstFault_1 rfl hl (by decide) rfl (fun ls hl => ?_)
  refine lv_iconst (v := 0) hx hb dX5_firstFault_2 (by decide) ?_
  refine lv_istore_n (lv' := [(2, .int 0), (1, .int (-1)), (0, .ref (q 0))]) hx hb dX5_firstFault_3 rfl hl (by decide) rfl (fun ls hl => ?_)
  refine w_X5_firstFault_4 l G q t0.1 t0.2 out C (fun w6_v1 w6_v2 hf H locs ls hW hl => ?_) FU (-1) 0 hf _ _ _ hW (lv_sub hl [2, 1, 0] rfl)
  refine lv_aload_n hx hb dX5_firstFault_43 rfl (lv_at hl 0 rfl) ?_
  refine zk_get C hW fgX5_15 0 rfl rfl dX5_firstFault_44 ?_
  obtain rfl := Option.some.inj hf
  exact zk_iret C hW rfl dX5_firstFault_47

set_option maxHeartbeats 4000000 in
set_option maxRecDepth 100000 in
theorem c_X5_isLetter (l : Launch) (G : GG) (q : Nat → Nat) (t0 : zPG) (out : Bool) (hf : f_X5_isLetter t0 = some out) : CtI G l yX5_isLetter (Cond.code yX5_isLetter cX5_isLetter 1 (some .boolean) :: WL) (zR 3 65) [.ref (q 0)] (wX5 G q t0.1 t0.2) (bI out) (wX5 G q t0.1 t0.2) := by
  refine CtI.mk (cc := cX5_isLetter) (nL := 1) (rt := (some .boolean)) (own := RX5) (nm := "isLetter") (by decide) rfl rfl (Nat.le_of_ble_eq_true rfl) ?_
  intro p e s m below meth c A ls C hW hl
  have hx := C.1
  have hb := C.2.1
  have hl : lv_has ls 1 [(0, .ref (q 0))] := hl
  unfold f_X5_isLetter at hf
  refine lv_aload_n hx hb dX5_isLetter_0 rfl (lv_at hl 0 rfl) ?_
  refine zk_get C hW fgX5_15 0 rfl rfl dX5_isLetter_1 ?_
  refine lv_iconst (v := 2) hx hb dX5_isLetter_4 (by decide) ?_
  refine lv_icmp_le (tgt := 38) hx hb dX5_isLetter_5 (by decide) (fun c1 => ?_) (fun c1 => ?_)
  · have hf := ipos c1 hf
    refine lv_iconst (v := 0) hx hb dX5_isLetter_38 (by decide) ?_
    obtain rfl := Option.some.inj hf
    exact zk_zret false C hW rfl dX5_isLetter_39
  · have hf := ineg c1 hf
    refine lv_aload_n hx hb dX5_isLetter_8 rfl (lv_at hl 0 rfl) ?_
    refine lv_aload_n hx hb dX5_isLetter_9 rfl (lv_at hl 0 rfl) ?_
    refine zk_get C hW fgX5_15 0 rfl rfl dX5_isLetter_10 ?_
    refine lv_iconst (v := 2) hx hb dX5_isLetter_13 (by decide) ?_
    refine lv_isub hx hb dX5_isLetter_14 ?_
    obtain ⟨u2, eu2, hf⟩ := bnd hf
    refine zk_callBI (As := [.int (t0.2 - 2)]) (rest := []) (W1 := wX5 G q t0.1 t0.2) C hW hl mvX5_19 (c_X5_signAt l G q t0 (t0.2 - 2) u2 eu2) ⟨(Nat.le_of_ble_eq_true rfl), (Nat.le_of_ble_eq_true rfl)⟩ ⟨rfl, rfl⟩ ([]) ([]) zE1 rfl rfl (Nat.le_of_ble_eq_true rfl) zE1r dX5_isLetter_15 ⟨Nat.zero_le _, Nat.zero_le _⟩ (fun H locs hW => ?_)
    refine lv_bipush (v := 59) hx hb dX5_isLetter_18 (by decide) ?_
    refine lv_icmp_ne (tgt := 38) hx hb dX5_isLetter_20 (by decide) (fun c3 => ?_) (fun c3 => ?_)
    · have hf := ineg c3 hf
      refine lv_iconst (v := 0) hx hb dX5_isLetter_38 (by decide) ?_
      obtain rfl := Option.some.inj hf
      exact zk_zret false C hW rfl dX5_isLetter_39
    · have hf := ipos c3 hf
      refine lv_aload_n hx hb dX5_isLetter_23 rfl (lv_at hl 0 rfl) ?_
      obtain ⟨u4, eu4, hf⟩ := bnd hf
      refine zk_callBI (As := []) (rest := []) (W1 := wX5 G q t0.1 t0.2) C hW hl mvX5_27 (c_X5_firstFault l G q t0 u4 eu4) ⟨(Nat.le_of_ble_eq_true rfl), (Nat.le_of_ble_eq_true rfl)⟩ ⟨rfl, rfl⟩ ([]) ([]) zE1 rfl rfl (Nat.le_of_ble_eq_true rfl) zE1r dX5_isLetter_24 ⟨Nat.zero_le _, Nat.zero_le _⟩ (fun H locs hW => ?_)
      refine lv_aload_n hx hb dX5_isLetter_27 rfl (lv_at hl 0 rfl) ?_
      refine zk_get C hW fgX5_15 0 rfl rfl dX5_isLetter_28 ?_
      refine lv_icmp_ne (tgt := 38) hx hb dX5_isLetter_31 (by decide) (fun c5 => ?_) (fun c5 => ?_)
      · have hf := ineg c5 hf
        refine lv_iconst (v := 0) hx hb dX5_isLetter_38 (by decide) ?_
        obtain rfl := Option.some.inj hf
        exact zk_zret false C hW rfl dX5_isLetter_39
      · have hf := ipos c5 hf
        refine lv_iconst (v := 1) hx hb dX5_isLetter_34 (by decide) ?_
        refine lv_goto (tgt := 39) hx hb dX5_isLetter_35 (by decide) ?_
        obtain rfl := Option.some.inj hf
        exact zk_zret true C hW rfl dX5_isLetter_39

set_option maxHeartbeats 4000000 in
set_option maxRecDepth 100000 in
theorem w_X5_copyTo_6 {p : Program} {e : Env} {s : State} {m : MethodId} {args : Array Value} {below : List Frame} {meth : Method} {c : Code} {A : Nat → Prop} (l : Launch) (G : GG) (q : Nat → Nat) (q1 : Nat → Nat) (s0_0 : (Nat → Int32)) (s0_1 : Int32) (out : zLT) (C : CX p s m args meth c cX5_copyTo 3 RX5 none "copyTo") {K : Int32 → (Nat → Int32) → Int32 → Int32 → Option (zLT)} (hK : ∀ (v2 : Int32) (s1_0 : (Nat → Int32)) (s1_1 : Int32) (s1_2 : Int32) , K v2 s1_0 s1_1 s1_2 = some out → ∀ (H : Heap) (locs : List Loc) (ls : Array Slot), KW G A s (wX5 G q s0_0 s0_1 ++ wX3 G q1 s1_0 s1_1 s1_2) H locs → lv_has ls 3 [(0, .ref (q 0)), (1, .ref (q1 0))] → W p l e (zR 1 21) s m args below meth c H locs 0 0 (QV G A (wX5 G q ((s0_0, s0_1).1) ((s0_0, s0_1).2) ++ wX3 G q1 out.1 out.2.1 out.2.2) below args s) (F0 m 34 ls [])) :
    ∀ (n : Nat) (v2 : Int32) (s1_0 : (Nat → Int32)) (s1_1 : Int32) (s1_2 : Int32) , lp_X5_copyTo_6 s0_0 s0_1 K n v2 s1_0 s1_1 s1_2 = some out → ∀ (H : Heap) (locs : List Loc) (ls : Array Slot), KW G A s (wX5 G q s0_0 s0_1 ++ wX3 G q1 s1_0 s1_1 s1_2) H locs → lv_has ls 3 [(0, .ref (q 0)), (1, .ref (q1 0)), (2, .int v2)] → W p l e (zR 1 21) s m args below meth c H locs 0 0 (QV G A (wX5 G q ((s0_0, s0_1).1) ((s0_0, s0_1).2) ++ wX3 G q1 out.1 out.2.1 out.2.2) below args s) (F0 m 6 ls []) := by
  have hx := C.1
  have hb := C.2.1
  intro n
  induction n with
  | zero => intro v2 s1_0 s1_1 s1_2 hf; exact nomatch (show (none : Option (zLT)) = some out from hf)
  | succ n ih =>
    intro v2 s1_0 s1_1 s1_2 hf H locs ls hW hl
    rw [lp_X5_copyTo_6] at hf
    refine lv_iload_n hx hb dX5_copyTo_6 rfl (lv_at hl 2 rfl) ?_
    refine lv_aload_n hx hb dX5_copyTo_7 rfl (lv_at hl 0 rfl) ?_
    refine zk_get C hW fgX5_15 0 rfl rfl dX5_copyTo_8 ?_
    refine lv_iconst (v := 2) hx hb dX5_copyTo_11 (by decide) ?_
    refine lv_isub hx hb dX5_copyTo_12 ?_
    refine lv_icmp_ge (tgt := 34) hx hb dX5_copyTo_13 (by decide) (fun c2 => ?_) (fun c2 => ?_)
    · have hf := ipos c2 hf
      exact hK v2 s1_0 s1_1 s1_2 hf _ _ _ hW (lv_sub hl [0, 1] rfl)
    · have hf := ineg c2 hf
      refine lv_aload_n hx hb dX5_copyTo_16 rfl (lv_at hl 1 rfl) ?_
      refine lv_aload_n hx hb dX5_copyTo_17 rfl (lv_at hl 0 rfl) ?_
      refine lv_iload_n hx hb dX5_copyTo_18 rfl (lv_at hl 2 rfl) ?_
      obtain ⟨u3, eu3, hf⟩ := bnd hf
      refine zk_callBI (As := [.int v2]) (rest := [.ref (q1 0)]) (W1 := wX5 G q s0_0 s0_1 ++ wX3 G q1 s1_0 s1_1 s1_2) C hW hl mvX5_19 (c_X5_signAt l G q (s0_0, s0_1) v2 u3 eu3) ⟨(Nat.le_of_ble_eq_true rfl), (Nat.le_of_ble_eq_true rfl)⟩ ⟨rfl, rfl⟩ ([]) (wX3 G q1 s1_0 s1_1 s1_2) zE2 rfl rfl (Nat.le_of_ble_eq_true rfl) zE2r dX5_copyTo_19 ⟨Nat.zero_le _, Nat.zero_le _⟩ (fun H locs hW => ?_)
      obtain ⟨u4, eu4, hf⟩ := bnd hf
      refine zk_callSI (As := [.int u3]) (rest := [.ref (q1 0)]) (W1 := wX5 G q s0_0 s0_1 ++ wX3 G q1 s1_0 s1_1 s1_2) C hW hl msX5_36 (c_X5_wordOf l G u3 u4 eu4) ⟨(Nat.le_of_ble_eq_true rfl), (Nat.le_of_ble_eq_true rfl)⟩ ⟨rfl, rfl⟩ [] rfl rfl rfl (Nat.le_of_ble_eq_true rfl) (Nat.le_of_ble_eq_true rfl) rfl dX5_copyTo_22 ⟨Nat.zero_le _, Nat.zero_le _⟩ (fun H locs hW => ?_)
      obtain ⟨u5, eu5, hf⟩ := bnd hf
      refine zk_callBV (As := [.int u4]) (rest := []) (W1 := wX5 G q s0_0 s0_1 ++ wX3 G q1 u5.1 u5.2.1 u5.2.2) C hW hl mvX5_39 (c_X3_add l G q1 (s1_0, s1_1, s1_2) u4 u5 eu5) ⟨(Nat.le_of_ble_eq_true rfl), (Nat.le_of_ble_eq_true rfl)⟩ ⟨rfl, rfl⟩ (wX5 G q s0_0 s0_1) ([]) zE3 rfl rfl (Nat.le_of_ble_eq_true rfl) zE3r dX5_copyTo_25 ⟨Nat.zero_le _, Nat.zero_le _⟩ (fun H locs hW => ?_)
      refine lv_iinc (v := (v2 + 1)) (lv' := [(2, .int (v2 + 1)), (0, .ref (q 0)), (1, .ref (q1 0))]) hx hb dX5_copyTo_28 hl (k := 2) rfl rfl (by decide) rfl (fun ls hl => ?_)
      refine lv_goto (tgt := 6) hx hb dX5_copyTo_31 (by decide) ?_
      exact ih (v2 + 1) u5.1 u5.2.1 u5.2.2 hf _ _ _ hW (lv_sub hl [1, 2, 0] rfl)
set_option maxHeartbeats 4000000 in
set_option maxRecDepth 100000 in
theorem c_X5_copyTo (l : Launch) (G : GG) (q : Nat → Nat) (q1 : Nat → Nat) (t0 : zPG) (t1 : zLT) (out : zLT) (hf : f_X5_copyTo t0 t1 = some out) : CtV G l yX5_copyTo (Cond.code yX5_copyTo cX5_copyTo 3 none :: WL) (zR 1 21) [.ref (q 0), .ref (q1 0)] (wX5 G q t0.1 t0.2 ++ wX3 G q1 t1.1 t1.2.1 t1.2.2) (wX5 G q t0.1 t0.2 ++ wX3 G q1 out.1 out.2.1 out.2.2) := by
  refine CtV.mk (cc := cX5_copyTo) (nL := 3) (rt := none) (own := RX5) (nm := "copyTo") (by decide) rfl rfl (Nat.le_of_ble_eq_true rfl) ?_
  intro p e s m below meth c A ls C hW hl
  have hx := C.1
  have hb := C.2.1
  have hl : lv_has ls 3 [(0, .ref (q 0)), (1, .ref (q1 0))] := hl
  unfold f_X5_copyTo at hf
  refine lv_aload_n hx hb dX5_copyTo_0 rfl (lv_at hl 1 rfl) ?_
  obtain ⟨u1, eu1, hf⟩ := bnd hf
  refine zk_callBV (As := []) (rest := []) (W1 := wX5 G q t0.1 t0.2 ++ wX3 G q1 u1.1 u1.2.1 u1.2.2) C hW hl mvX5_31 (c_X3_clear l G q1 t1 u1 eu1) ⟨(Nat.le_of_ble_eq_true rfl), (Nat.le_of_ble_eq_true rfl)⟩ ⟨rfl, rfl⟩ (wX5 G q t0.1 t0.2) ([]) zE3 rfl rfl (Nat.le_of_ble_eq_true rfl) zE3r dX5_copyTo_1 ⟨Nat.zero_le _, Nat.zero_le _⟩ (fun H locs hW => ?_)
  refine lv_iconst (v := 0) hx hb dX5_copyTo_4 (by decide) ?_
  refine lv_istore_n (lv' := [(2, .int 0), (0, .ref (q 0)), (1, .ref (q1 0))]) hx hb dX5_copyTo_5 rfl hl (by decide) rfl (fun ls hl => ?_)
  refine w_X5_copyTo_6 l G q q1 t0.1 t0.2 out C (fun w6_v2 w6_s1_0 w6_s1_1 w6_s1_2 hf H locs ls hW hl => ?_) FU 0 u1.1 u1.2.1 u1.2.2 hf _ _ _ hW (lv_sub hl [1, 2, 0] rfl)
  refine lv_aload_n hx hb dX5_copyTo_34 rfl (lv_at hl 1 rfl) ?_
  refine lv_aload_n hx hb dX5_copyTo_35 rfl (lv_at hl 0 rfl) ?_
  refine lv_aload_n hx hb dX5_copyTo_36 rfl (lv_at hl 0 rfl) ?_
  refine zk_get C hW fgX5_15 0 rfl rfl dX5_copyTo_37 ?_
  refine lv_iconst (v := 1) hx hb dX5_copyTo_40 (by decide) ?_
  refine lv_isub hx hb dX5_copyTo_41 ?_
  obtain ⟨u7, eu7, hf⟩ := bnd hf
  refine zk_callBI (As := [.int (t0.2 - 1)]) (rest := [.ref (q1 0)]) (W1 := wX5 G q t0.1 t0.2 ++ wX3 G q1 w6_s1_0 w6_s1_1 w6_s1_2) C hW hl mvX5_19 (c_X5_signAt l G q t0 (t0.2 - 1) u7 eu7) ⟨(Nat.le_of_ble_eq_true rfl), (Nat.le_of_ble_eq_true rfl)⟩ ⟨rfl, rfl⟩ ([]) (wX3 G q1 w6_s1_0 w6_s1_1 w6_s1_2) zE2 rfl rfl (Nat.le_of_ble_eq_true rfl) zE2r dX5_copyTo_42 ⟨Nat.zero_le _, Nat.zero_le _⟩ (fun H locs hW => ?_)
  refine lv_bipush (v := 48) hx hb dX5_copyTo_45 (by decide) ?_
  refine lv_isub hx hb dX5_copyTo_47 ?_
  obtain ⟨z8, ez8, hf⟩ := bnd hf
  refine zk_putI (W1 := wX5 G q t0.1 t0.2 ++ wX3 G q1 w6_s1_0 w6_s1_1 z8) C hW fpX5_43 2 (Option.some.inj ez8) rfl (Nat.le_of_ble_eq_true rfl) rfl dX5_copyTo_48 (fun H locs hW => ?_)
  obtain rfl := Option.some.inj hf
  exact zk_vret C hW dX5_copyTo_51
