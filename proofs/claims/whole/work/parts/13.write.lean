set_option maxHeartbeats 4000000 in
set_option maxRecDepth 100000 in
theorem c_X8_canReachTop (l : Launch) (G : GG) (q : Nat → Nat) (t0 : zWR) (a0 : Int32) (a1 : Int32) (out : Bool) (hf : f_X8_canReachTop t0 a0 a1 = some out) : CtI G l yX8_canReachTop (Cond.code yX8_canReachTop cX8_canReachTop 3 (some .boolean) :: WL) (zR 1 14) [.ref (q 0), .int a0, .int a1] (wX8 G q t0.1 t0.2.1 t0.2.2.1 t0.2.2.2.1 t0.2.2.2.2.1 t0.2.2.2.2.2) (bI out) (wX8 G q t0.1 t0.2.1 t0.2.2.1 t0.2.2.2.1 t0.2.2.2.2.1 t0.2.2.2.2.2) := by
  refine CtI.mk (cc := cX8_canReachTop) (nL := 3) (rt := (some .boolean)) (own := RX8) (nm := "canReachTop") (by decide) rfl rfl (Nat.le_of_ble_eq_true rfl) ?_
  intro p e s m below meth c A ls C hW hl
  have hx := C.1
  have hb := C.2.1
  have hl : lv_has ls 3 [(0, .ref (q 0)), (1, .int a0), (2, .int a1)] := hl
  unfold f_X8_canReachTop at hf
  refine lv_aload_n hx hb dX8_canReachTop_0 rfl (lv_at hl 0 rfl) ?_
  refine zk_get C hW fgX8_36 0 rfl rfl dX8_canReachTop_1 ?_
  refine va_mabs hx hb (C.2.2.1.trans hl.1.symm) C.2.2.2.1 (C.2.2.2.2.1 _ kmlX8_82) (C.2.2.2.2.1 _ km_abs_s) (C.2.2.2.2.1 _ km_i) (C.2.2.2.2.1 _ km_abs_c) (Nat.le_of_ble_eq_true rfl) (Nat.le_of_ble_eq_true rfl) (Nat.zero_le _) (Nat.zero_le _) dX8_canReachTop_4 ?_
  refine lv_iload_n hx hb dX8_canReachTop_7 rfl (lv_at hl 1 rfl) ?_
  refine va_mabs hx hb (C.2.2.1.trans hl.1.symm) C.2.2.2.1 (C.2.2.2.2.1 _ kmlX8_82) (C.2.2.2.2.1 _ km_abs_s) (C.2.2.2.2.1 _ km_i) (C.2.2.2.2.1 _ km_abs_c) (Nat.le_of_ble_eq_true rfl) (Nat.le_of_ble_eq_true rfl) (Nat.zero_le _) (Nat.zero_le _) dX8_canReachTop_8 ?_
  refine lv_isub hx hb dX8_canReachTop_11 ?_
  refine va_mabs hx hb (C.2.2.1.trans hl.1.symm) C.2.2.2.1 (C.2.2.2.2.1 _ kmlX8_82) (C.2.2.2.2.1 _ km_abs_s) (C.2.2.2.2.1 _ km_i) (C.2.2.2.2.1 _ km_abs_c) (Nat.le_of_ble_eq_true rfl) (Nat.le_of_ble_eq_true rfl) (Nat.zero_le _) (Nat.zero_le _) dX8_canReachTop_12 ?_
  refine lv_aload_n hx hb dX8_canReachTop_15 rfl (lv_at hl 0 rfl) ?_
  refine zk_get C hW fgX8_12 0 rfl rfl dX8_canReachTop_16 ?_
  refine zk_get C hW fgX8_53 1 rfl rfl dX8_canReachTop_19 ?_
  refine lv_iload_n hx hb dX8_canReachTop_22 rfl (lv_at hl 2 rfl) ?_
  refine lv_isub hx hb dX8_canReachTop_23 ?_
  refine lv_icmp_gt (tgt := 31) hx hb dX8_canReachTop_24 (by decide) (fun c1 => ?_) (fun c1 => ?_)
  · have hf := ipos c1 hf
    refine lv_iconst (v := 0) hx hb dX8_canReachTop_31 (by decide) ?_
    obtain rfl := Option.some.inj hf
    exact zk_zret false C hW rfl dX8_canReachTop_32
  · have hf := ineg c1 hf
    refine lv_iconst (v := 1) hx hb dX8_canReachTop_27 (by decide) ?_
    refine lv_goto (tgt := 32) hx hb dX8_canReachTop_28 (by decide) ?_
    obtain rfl := Option.some.inj hf
    exact zk_zret true C hW rfl dX8_canReachTop_32

set_option maxHeartbeats 4000000 in
set_option maxRecDepth 100000 in
theorem c_X8_fits (l : Launch) (G : GG) (q : Nat → Nat) (t0 : zWR) (out : Bool × zWR) (hf : f_X8_fits t0 = some out) : CtI G l yX8_fits (Cond.code yX8_fits cX8_fits 3 (some .boolean) :: WL) (zR 3 66) [.ref (q 0)] (wX8 G q t0.1 t0.2.1 t0.2.2.1 t0.2.2.2.1 t0.2.2.2.2.1 t0.2.2.2.2.2) (bI out.1) (wX8 G q out.2.1 out.2.2.1 out.2.2.2.1 out.2.2.2.2.1 out.2.2.2.2.2.1 out.2.2.2.2.2.2) := by
  refine CtI.mk (cc := cX8_fits) (nL := 3) (rt := (some .boolean)) (own := RX8) (nm := "fits") (by decide) rfl rfl (Nat.le_of_ble_eq_true rfl) ?_
  intro p e s m below meth c A ls C hW hl
  have hx := C.1
  have hb := C.2.1
  have hl : lv_has ls 3 [(0, .ref (q 0))] := hl
  unfold f_X8_fits at hf
  refine lv_aload_n hx hb dX8_fits_0 rfl (lv_at hl 0 rfl) ?_
  refine zk_get C hW fgX8_12 0 rfl rfl dX8_fits_1 ?_
  refine zk_get C hW fgX8_53 1 rfl rfl dX8_fits_4 ?_
  refine lv_istore_n (lv' := [(1, .int t0.1.2.1), (0, .ref (q 0))]) hx hb dX8_fits_7 rfl hl (by decide) rfl (fun ls hl => ?_)
  refine lv_iload_n hx hb dX8_fits_8 rfl (lv_at hl 0 rfl) ?_
  refine lv_if_lt (tgt := 21) hx hb dX8_fits_9 (by decide) (fun c1 => ?_) (fun c1 => ?_)
  · have hf := ipos c1 hf
    refine lv_iconst (v := 0) hx hb dX8_fits_21 (by decide) ?_
    obtain rfl := Option.some.inj hf
    exact zk_zret false C hW rfl dX8_fits_22
  · have hf := ineg c1 hf
    refine lv_iload_n hx hb dX8_fits_12 rfl (lv_at hl 0 rfl) ?_
    refine lv_aload_n hx hb dX8_fits_13 rfl (lv_at hl 1 rfl) ?_
    refine zk_get C hW fgX8_25 0 rfl rfl dX8_fits_14 ?_
    refine zk_alenR C hW 4 rfl dX8_fits_17 ?_
    refine lv_icmp_lt (tgt := 23) hx hb dX8_fits_18 (by decide) (fun c2 => ?_) (fun c2 => ?_)
    · have hf := ipos c2 hf
      refine lv_aload_n hx hb dX8_fits_23 rfl (lv_at hl 1 rfl) ?_
      refine zk_get C hW fgX8_25 0 rfl rfl dX8_fits_24 ?_
      refine lv_iload_n hx hb dX8_fits_27 rfl (lv_at hl 0 rfl) ?_
      obtain ⟨g3, hf⟩ := grd hf
      by_cases e4 : t0.1.2.1 = 0
      · have hf := ipos e4 hf
        refine zk_aald (b := (q 5)) C hW 4 g3 (by rw [e4]; rfl) rfl dX8_fits_28 ?_
        refine lv_astore_n (lv' := [(2, .ref (q 5)), (1, .int t0.1.2.1), (0, .ref (q 0))]) hx hb dX8_fits_29 rfl hl (by decide) rfl (fun ls hl => ?_)
        refine lv_aload_n hx hb dX8_fits_30 rfl (lv_at hl 0 rfl) ?_
        refine lv_ifnull hx hb dX8_fits_31 ?_
        refine lv_aload_n hx hb dX8_fits_34 rfl (lv_at hl 0 rfl) ?_
        refine zk_get C hW fgX8_71 5 rfl rfl dX8_fits_35 ?_
        refine lv_aload_n hx hb dX8_fits_38 rfl (lv_at hl 2 rfl) ?_
        refine zk_get C hW fgX8_36 0 rfl rfl dX8_fits_39 ?_
        refine lv_icmp_eq (tgt := 47) hx hb dX8_fits_42 (by decide) (fun c5 => ?_) (fun c5 => ?_)
        · have hf := ipos c5 hf
          refine lv_aload_n hx hb dX8_fits_47 rfl (lv_at hl 2 rfl) ?_
          refine zk_get C hW fgX8_21 0 rfl rfl dX8_fits_48 ?_
          refine lv_aload_n hx hb dX8_fits_51 rfl (lv_at hl 2 rfl) ?_
          refine zk_get C hW fgX8_29 0 rfl rfl dX8_fits_52 ?_
          obtain ⟨u6, eu6, hf⟩ := bnd hf
          refine zk_callV (As := [.int t0.2.2.2.1]) (rest := []) (W1 := wX8 G q t0.1 u6 t0.2.2.1 t0.2.2.2.1 t0.2.2.2.2.1 t0.2.2.2.2.2) C hW hl mvX8_46 (c_X6_begin l G (fun k => q (k + 3)) t0.2.1 t0.2.2.2.1 u6 eu6) ⟨(Nat.le_of_ble_eq_true rfl), (Nat.le_of_ble_eq_true rfl)⟩ ⟨rfl, rfl⟩ [3] rfl rfl rfl rfl (Nat.le_of_ble_eq_true rfl) (Nat.le_of_ble_eq_true rfl) rfl dX8_fits_55 ⟨Nat.zero_le _, Nat.zero_le _⟩ (fun H locs hW => ?_)
          refine lv_aload_n hx hb dX8_fits_58 rfl (lv_at hl 2 rfl) ?_
          refine zk_get C hW fgX8_21 0 rfl rfl dX8_fits_59 ?_
          refine lv_aload_n hx hb dX8_fits_62 rfl (lv_at hl 2 rfl) ?_
          refine zk_get C hW fgX8_12 0 rfl rfl dX8_fits_63 ?_
          refine lv_aload_n hx hb dX8_fits_66 rfl (lv_at hl 2 rfl) ?_
          refine zk_get C hW fgX8_12 0 rfl rfl dX8_fits_67 ?_
          refine zk_get C hW fgX8_53 1 rfl rfl dX8_fits_70 ?_
          refine lv_aload_n hx hb dX8_fits_73 rfl (lv_at hl 2 rfl) ?_
          refine zk_get C hW fgX8_29 0 rfl rfl dX8_fits_74 ?_
          refine lv_iconst (v := 2) hx hb dX8_fits_77 (by decide) ?_
          refine lv_icmp_ne (tgt := 85) hx hb dX8_fits_78 (by decide) (fun c7 => ?_) (fun c7 => ?_)
          · have hf := ineg c7 hf
            refine lv_iconst (v := 0) hx hb dX8_fits_85 (by decide) ?_
            obtain ⟨u8, eu8, hf⟩ := bnd hf
            refine zk_callV (As := [.ref (q 1), .int t0.1.2.1, .int (bI false)]) (rest := []) (W1 := wX8 G q t0.1 u8 t0.2.2.1 t0.2.2.2.1 t0.2.2.2.2.1 t0.2.2.2.2.2) C hW hl mvX8_88 (c_X6_hearSome l G (fun k => q (k + 3)) (fun k => q (k + 1)) u6 t0.1 t0.1.2.1 false u8 eu8) ⟨(Nat.le_of_ble_eq_true rfl), (Nat.le_of_ble_eq_true rfl)⟩ ⟨rfl, rfl⟩ [3, 1, 2] rfl rfl rfl rfl (Nat.le_of_ble_eq_true rfl) (Nat.le_of_ble_eq_true rfl) rfl dX8_fits_86 ⟨Nat.zero_le _, Nat.zero_le _⟩ (fun H locs hW => ?_)
            refine lv_aload_n hx hb dX8_fits_89 rfl (lv_at hl 2 rfl) ?_
            refine zk_get C hW fgX8_21 0 rfl rfl dX8_fits_90 ?_
            refine zk_get C hW fgX8_67 3 rfl rfl dX8_fits_93 ?_
            refine lv_if_ne (tgt := 117) hx hb dX8_fits_96 (by decide) (fun c9 => ?_) (fun c9 => ?_)
            · have hf := ineg c9 hf
              refine lv_iconst (v := 0) hx hb dX8_fits_117 (by decide) ?_
              obtain rfl := Option.some.inj hf
              exact zk_zret false C hW rfl dX8_fits_118
            · have hf := ipos c9 hf
              refine lv_aload_n hx hb dX8_fits_99 rfl (lv_at hl 2 rfl) ?_
              refine zk_get C hW fgX8_21 0 rfl rfl dX8_fits_100 ?_
              refine zk_get C hW fgX8_71 3 rfl rfl dX8_fits_103 ?_
              refine lv_aload_n hx hb dX8_fits_106 rfl (lv_at hl 2 rfl) ?_
              refine zk_get C hW fgX8_33 0 rfl rfl dX8_fits_107 ?_
              refine lv_icmp_ne (tgt := 117) hx hb dX8_fits_110 (by decide) (fun c10 => ?_) (fun c10 => ?_)
              · have hf := ineg c10 hf
                refine lv_iconst (v := 0) hx hb dX8_fits_117 (by decide) ?_
                obtain rfl := Option.some.inj hf
                exact zk_zret false C hW rfl dX8_fits_118
              · have hf := ipos c10 hf
                refine lv_iconst (v := 1) hx hb dX8_fits_113 (by decide) ?_
                refine lv_goto (tgt := 118) hx hb dX8_fits_114 (by decide) ?_
                obtain rfl := Option.some.inj hf
                exact zk_zret true C hW rfl dX8_fits_118
          · have hf := ipos c7 hf
            refine lv_iconst (v := 1) hx hb dX8_fits_81 (by decide) ?_
            refine lv_goto (tgt := 86) hx hb dX8_fits_82 (by decide) ?_
            obtain ⟨u11, eu11, hf⟩ := bnd hf
            refine zk_callV (As := [.ref (q 1), .int t0.1.2.1, .int (bI true)]) (rest := []) (W1 := wX8 G q t0.1 u11 t0.2.2.1 t0.2.2.2.1 t0.2.2.2.2.1 t0.2.2.2.2.2) C hW hl mvX8_88 (c_X6_hearSome l G (fun k => q (k + 3)) (fun k => q (k + 1)) u6 t0.1 t0.1.2.1 true u11 eu11) ⟨(Nat.le_of_ble_eq_true rfl), (Nat.le_of_ble_eq_true rfl)⟩ ⟨rfl, rfl⟩ [3, 1, 2] rfl rfl rfl rfl (Nat.le_of_ble_eq_true rfl) (Nat.le_of_ble_eq_true rfl) rfl dX8_fits_86 ⟨Nat.zero_le _, Nat.zero_le _⟩ (fun H locs hW => ?_)
            refine lv_aload_n hx hb dX8_fits_89 rfl (lv_at hl 2 rfl) ?_
            refine zk_get C hW fgX8_21 0 rfl rfl dX8_fits_90 ?_
            refine zk_get C hW fgX8_67 3 rfl rfl dX8_fits_93 ?_
            refine lv_if_ne (tgt := 117) hx hb dX8_fits_96 (by decide) (fun c12 => ?_) (fun c12 => ?_)
            · have hf := ineg c12 hf
              refine lv_iconst (v := 0) hx hb dX8_fits_117 (by decide) ?_
              obtain rfl := Option.some.inj hf
              exact zk_zret false C hW rfl dX8_fits_118
            · have hf := ipos c12 hf
              refine lv_aload_n hx hb dX8_fits_99 rfl (lv_at hl 2 rfl) ?_
              refine zk_get C hW fgX8_21 0 rfl rfl dX8_fits_100 ?_
              refine zk_get C hW fgX8_71 3 rfl rfl dX8_fits_103 ?_
              refine lv_aload_n hx hb dX8_fits_106 rfl (lv_at hl 2 rfl) ?_
              refine zk_get C hW fgX8_33 0 rfl rfl dX8_fits_107 ?_
              refine lv_icmp_ne (tgt := 117) hx hb dX8_fits_110 (by decide) (fun c13 => ?_) (fun c13 => ?_)
              · have hf := ineg c13 hf
                refine lv_iconst (v := 0) hx hb dX8_fits_117 (by decide) ?_
                obtain rfl := Option.some.inj hf
                exact zk_zret false C hW rfl dX8_fits_118
              · have hf := ipos c13 hf
                refine lv_iconst (v := 1) hx hb dX8_fits_113 (by decide) ?_
                refine lv_goto (tgt := 118) hx hb dX8_fits_114 (by decide) ?_
                obtain rfl := Option.some.inj hf
                exact zk_zret true C hW rfl dX8_fits_118
        · have hf := ineg c5 hf
          refine lv_iconst (v := 0) hx hb dX8_fits_45 (by decide) ?_
          obtain rfl := Option.some.inj hf
          exact zk_zret false C hW rfl dX8_fits_46
      have hf := ineg e4 hf
      by_cases e14 : t0.1.2.1 = 1
      · have hf := ipos e14 hf
        refine zk_aald (b := (q 6)) C hW 4 g3 (by rw [e14]; rfl) rfl dX8_fits_28 ?_
        refine lv_astore_n (lv' := [(2, .ref (q 6)), (1, .int t0.1.2.1), (0, .ref (q 0))]) hx hb dX8_fits_29 rfl hl (by decide) rfl (fun ls hl => ?_)
        refine lv_aload_n hx hb dX8_fits_30 rfl (lv_at hl 0 rfl) ?_
        refine lv_ifnull hx hb dX8_fits_31 ?_
        refine lv_aload_n hx hb dX8_fits_34 rfl (lv_at hl 0 rfl) ?_
        refine zk_get C hW fgX8_71 6 rfl rfl dX8_fits_35 ?_
        refine lv_aload_n hx hb dX8_fits_38 rfl (lv_at hl 2 rfl) ?_
        refine zk_get C hW fgX8_36 0 rfl rfl dX8_fits_39 ?_
        refine lv_icmp_eq (tgt := 47) hx hb dX8_fits_42 (by decide) (fun c15 => ?_) (fun c15 => ?_)
        · have hf := ipos c15 hf
          refine lv_aload_n hx hb dX8_fits_47 rfl (lv_at hl 2 rfl) ?_
          refine zk_get C hW fgX8_21 0 rfl rfl dX8_fits_48 ?_
          refine lv_aload_n hx hb dX8_fits_51 rfl (lv_at hl 2 rfl) ?_
          refine zk_get C hW fgX8_29 0 rfl rfl dX8_fits_52 ?_
          obtain ⟨u16, eu16, hf⟩ := bnd hf
          refine zk_callV (As := [.int t0.2.2.2.1]) (rest := []) (W1 := wX8 G q t0.1 u16 t0.2.2.1 t0.2.2.2.1 t0.2.2.2.2.1 t0.2.2.2.2.2) C hW hl mvX8_46 (c_X6_begin l G (fun k => q (k + 3)) t0.2.1 t0.2.2.2.1 u16 eu16) ⟨(Nat.le_of_ble_eq_true rfl), (Nat.le_of_ble_eq_true rfl)⟩ ⟨rfl, rfl⟩ [3] rfl rfl rfl rfl (Nat.le_of_ble_eq_true rfl) (Nat.le_of_ble_eq_true rfl) rfl dX8_fits_55 ⟨Nat.zero_le _, Nat.zero_le _⟩ (fun H locs hW => ?_)
          refine lv_aload_n hx hb dX8_fits_58 rfl (lv_at hl 2 rfl) ?_
          refine zk_get C hW fgX8_21 0 rfl rfl dX8_fits_59 ?_
          refine lv_aload_n hx hb dX8_fits_62 rfl (lv_at hl 2 rfl) ?_
          refine zk_get C hW fgX8_12 0 rfl rfl dX8_fits_63 ?_
          refine lv_aload_n hx hb dX8_fits_66 rfl (lv_at hl 2 rfl) ?_
          refine zk_get C hW fgX8_12 0 rfl rfl dX8_fits_67 ?_
          refine zk_get C hW fgX8_53 1 rfl rfl dX8_fits_70 ?_
          refine lv_aload_n hx hb dX8_fits_73 rfl (lv_at hl 2 rfl) ?_
          refine zk_get C hW fgX8_29 0 rfl rfl dX8_fits_74 ?_
          refine lv_iconst (v := 2) hx hb dX8_fits_77 (by decide) ?_
          refine lv_icmp_ne (tgt := 85) hx hb dX8_fits_78 (by decide) (fun c17 => ?_) (fun c17 => ?_)
          · have hf := ineg c17 hf
            refine lv_iconst (v := 0) hx hb dX8_fits_85 (by decide) ?_
            obtain ⟨u18, eu18, hf⟩ := bnd hf
            refine zk_callV (As := [.ref (q 1), .int t0.1.2.1, .int (bI false)]) (rest := []) (W1 := wX8 G q t0.1 u18 t0.2.2.1 t0.2.2.2.1 t0.2.2.2.2.1 t0.2.2.2.2.2) C hW hl mvX8_88 (c_X6_hearSome l G (fun k => q (k + 3)) (fun k => q (k + 1)) u16 t0.1 t0.1.2.1 false u18 eu18) ⟨(Nat.le_of_ble_eq_true rfl), (Nat.le_of_ble_eq_true rfl)⟩ ⟨rfl, rfl⟩ [3, 1, 2] rfl rfl rfl rfl (Nat.le_of_ble_eq_true rfl) (Nat.le_of_ble_eq_true rfl) rfl dX8_fits_86 ⟨Nat.zero_le _, Nat.zero_le _⟩ (fun H locs hW => ?_)
            refine lv_aload_n hx hb dX8_fits_89 rfl (lv_at hl 2 rfl) ?_
            refine zk_get C hW fgX8_21 0 rfl rfl dX8_fits_90 ?_
            refine zk_get C hW fgX8_67 3 rfl rfl dX8_fits_93 ?_
            refine lv_if_ne (tgt := 117) hx hb dX8_fits_96 (by decide) (fun c19 => ?_) (fun c19 => ?_)
            · have hf := ineg c19 hf
              refine lv_iconst (v := 0) hx hb dX8_fits_117 (by decide) ?_
              obtain rfl := Option.some.inj hf
              exact zk_zret false C hW rfl dX8_fits_118
            · have hf := ipos c19 hf
              refine lv_aload_n hx hb dX8_fits_99 rfl (lv_at hl 2 rfl) ?_
              refine zk_get C hW fgX8_21 0 rfl rfl dX8_fits_100 ?_
              refine zk_get C hW fgX8_71 3 rfl rfl dX8_fits_103 ?_
              refine lv_aload_n hx hb dX8_fits_106 rfl (lv_at hl 2 rfl) ?_
              refine zk_get C hW fgX8_33 0 rfl rfl dX8_fits_107 ?_
              refine lv_icmp_ne (tgt := 117) hx hb dX8_fits_110 (by decide) (fun c20 => ?_) (fun c20 => ?_)
              · have hf := ineg c20 hf
                refine lv_iconst (v := 0) hx hb dX8_fits_117 (by decide) ?_
                obtain rfl := Option.some.inj hf
                exact zk_zret false C hW rfl dX8_fits_118
              · have hf := ipos c20 hf
                refine lv_iconst (v := 1) hx hb dX8_fits_113 (by decide) ?_
                refine lv_goto (tgt := 118) hx hb dX8_fits_114 (by decide) ?_
                obtain rfl := Option.some.inj hf
                exact zk_zret true C hW rfl dX8_fits_118
          · have hf := ipos c17 hf
            refine lv_iconst (v := 1) hx hb dX8_fits_81 (by decide) ?_
            refine lv_goto (tgt := 86) hx hb dX8_fits_82 (by decide) ?_
            obtain ⟨u21, eu21, hf⟩ := bnd hf
            refine zk_callV (As := [.ref (q 1), .int t0.1.2.1, .int (bI true)]) (rest := []) (W1 := wX8 G q t0.1 u21 t0.2.2.1 t0.2.2.2.1 t0.2.2.2.2.1 t0.2.2.2.2.2) C hW hl mvX8_88 (c_X6_hearSome l G (fun k => q (k + 3)) (fun k => q (k + 1)) u16 t0.1 t0.1.2.1 true u21 eu21) ⟨(Nat.le_of_ble_eq_true rfl), (Nat.le_of_ble_eq_true rfl)⟩ ⟨rfl, rfl⟩ [3, 1, 2] rfl rfl rfl rfl (Nat.le_of_ble_eq_true rfl) (Nat.le_of_ble_eq_true rfl) rfl dX8_fits_86 ⟨Nat.zero_le _, Nat.zero_le _⟩ (fun H locs hW => ?_)
            refine lv_aload_n hx hb dX8_fits_89 rfl (lv_at hl 2 rfl) ?_
            refine zk_get C hW fgX8_21 0 rfl rfl dX8_fits_90 ?_
            refine zk_get C hW fgX8_67 3 rfl rfl dX8_fits_93 ?_
            refine lv_if_ne (tgt := 117) hx hb dX8_fits_96 (by decide) (fun c22 => ?_) (fun c22 => ?_)
            · have hf := ineg c22 hf
              refine lv_iconst (v := 0) hx hb dX8_fits_117 (by decide) ?_
              obtain rfl := Option.some.inj hf
              exact zk_zret false C hW rfl dX8_fits_118
            · have hf := ipos c22 hf
              refine lv_aload_n hx hb dX8_fits_99 rfl (lv_at hl 2 rfl) ?_
              refine zk_get C hW fgX8_21 0 rfl rfl dX8_fits_100 ?_
              refine zk_get C hW fgX8_71 3 rfl rfl dX8_fits_103 ?_
              refine lv_aload_n hx hb dX8_fits_106 rfl (lv_at hl 2 rfl) ?_
              refine zk_get C hW fgX8_33 0 rfl rfl dX8_fits_107 ?_
              refine lv_icmp_ne (tgt := 117) hx hb dX8_fits_110 (by decide) (fun c23 => ?_) (fun c23 => ?_)
              · have hf := ineg c23 hf
                refine lv_iconst (v := 0) hx hb dX8_fits_117 (by decide) ?_
                obtain rfl := Option.some.inj hf
                exact zk_zret false C hW rfl dX8_fits_118
              · have hf := ipos c23 hf
                refine lv_iconst (v := 1) hx hb dX8_fits_113 (by decide) ?_
                refine lv_goto (tgt := 118) hx hb dX8_fits_114 (by decide) ?_
                obtain rfl := Option.some.inj hf
                exact zk_zret true C hW rfl dX8_fits_118
        · have hf := ineg c15 hf
          refine lv_iconst (v := 0) hx hb dX8_fits_45 (by decide) ?_
          obtain rfl := Option.some.inj hf
          exact zk_zret false C hW rfl dX8_fits_46
      have hf := ineg e14 hf
      by_cases e24 : t0.1.2.1 = 2
      · have hf := ipos e24 hf
        refine zk_aald (b := (q 7)) C hW 4 g3 (by rw [e24]; rfl) rfl dX8_fits_28 ?_
        refine lv_astore_n (lv' := [(2, .ref (q 7)), (1, .int t0.1.2.1), (0, .ref (q 0))]) hx hb dX8_fits_29 rfl hl (by decide) rfl (fun ls hl => ?_)
        refine lv_aload_n hx hb dX8_fits_30 rfl (lv_at hl 0 rfl) ?_
        refine lv_ifnull hx hb dX8_fits_31 ?_
        refine lv_aload_n hx hb dX8_fits_34 rfl (lv_at hl 0 rfl) ?_
        refine zk_get C hW fgX8_71 7 rfl rfl dX8_fits_35 ?_
        refine lv_aload_n hx hb dX8_fits_38 rfl (lv_at hl 2 rfl) ?_
        refine zk_get C hW fgX8_36 0 rfl rfl dX8_fits_39 ?_
        refine lv_icmp_eq (tgt := 47) hx hb dX8_fits_42 (by decide) (fun c25 => ?_) (fun c25 => ?_)
        · have hf := ipos c25 hf
          refine lv_aload_n hx hb dX8_fits_47 rfl (lv_at hl 2 rfl) ?_
          refine zk_get C hW fgX8_21 0 rfl rfl dX8_fits_48 ?_
          refine lv_aload_n hx hb dX8_fits_51 rfl (lv_at hl 2 rfl) ?_
          refine zk_get C hW fgX8_29 0 rfl rfl dX8_fits_52 ?_
          obtain ⟨u26, eu26, hf⟩ := bnd hf
          refine zk_callV (As := [.int t0.2.2.2.1]) (rest := []) (W1 := wX8 G q t0.1 u26 t0.2.2.1 t0.2.2.2.1 t0.2.2.2.2.1 t0.2.2.2.2.2) C hW hl mvX8_46 (c_X6_begin l G (fun k => q (k + 3)) t0.2.1 t0.2.2.2.1 u26 eu26) ⟨(Nat.le_of_ble_eq_true rfl), (Nat.le_of_ble_eq_true rfl)⟩ ⟨rfl, rfl⟩ [3] rfl rfl rfl rfl (Nat.le_of_ble_eq_true rfl) (Nat.le_of_ble_eq_true rfl) rfl dX8_fits_55 ⟨Nat.zero_le _, Nat.zero_le _⟩ (fun H locs hW => ?_)
          refine lv_aload_n hx hb dX8_fits_58 rfl (lv_at hl 2 rfl) ?_
          refine zk_get C hW fgX8_21 0 rfl rfl dX8_fits_59 ?_
          refine lv_aload_n hx hb dX8_fits_62 rfl (lv_at hl 2 rfl) ?_
          refine zk_get C hW fgX8_12 0 rfl rfl dX8_fits_63 ?_
          refine lv_aload_n hx hb dX8_fits_66 rfl (lv_at hl 2 rfl) ?_
          refine zk_get C hW fgX8_12 0 rfl rfl dX8_fits_67 ?_
          refine zk_get C hW fgX8_53 1 rfl rfl dX8_fits_70 ?_
          refine lv_aload_n hx hb dX8_fits_73 rfl (lv_at hl 2 rfl) ?_
          refine zk_get C hW fgX8_29 0 rfl rfl dX8_fits_74 ?_
          refine lv_iconst (v := 2) hx hb dX8_fits_77 (by decide) ?_
          refine lv_icmp_ne (tgt := 85) hx hb dX8_fits_78 (by decide) (fun c27 => ?_) (fun c27 => ?_)
          · have hf := ineg c27 hf
            refine lv_iconst (v := 0) hx hb dX8_fits_85 (by decide) ?_
            obtain ⟨u28, eu28, hf⟩ := bnd hf
            refine zk_callV (As := [.ref (q 1), .int t0.1.2.1, .int (bI false)]) (rest := []) (W1 := wX8 G q t0.1 u28 t0.2.2.1 t0.2.2.2.1 t0.2.2.2.2.1 t0.2.2.2.2.2) C hW hl mvX8_88 (c_X6_hearSome l G (fun k => q (k + 3)) (fun k => q (k + 1)) u26 t0.1 t0.1.2.1 false u28 eu28) ⟨(Nat.le_of_ble_eq_true rfl), (Nat.le_of_ble_eq_true rfl)⟩ ⟨rfl, rfl⟩ [3, 1, 2] rfl rfl rfl rfl (Nat.le_of_ble_eq_true rfl) (Nat.le_of_ble_eq_true rfl) rfl dX8_fits_86 ⟨Nat.zero_le _, Nat.zero_le _⟩ (fun H locs hW => ?_)
            refine lv_aload_n hx hb dX8_fits_89 rfl (lv_at hl 2 rfl) ?_
            refine zk_get C hW fgX8_21 0 rfl rfl dX8_fits_90 ?_
            refine zk_get C hW fgX8_67 3 rfl rfl dX8_fits_93 ?_
            refine lv_if_ne (tgt := 117) hx hb dX8_fits_96 (by decide) (fun c29 => ?_) (fun c29 => ?_)
            · have hf := ineg c29 hf
              refine lv_iconst (v := 0) hx hb dX8_fits_117 (by decide) ?_
              obtain rfl := Option.some.inj hf
              exact zk_zret false C hW rfl dX8_fits_118
            · have hf := ipos c29 hf
              refine lv_aload_n hx hb dX8_fits_99 rfl (lv_at hl 2 rfl) ?_
              refine zk_get C hW fgX8_21 0 rfl rfl dX8_fits_100 ?_
              refine zk_get C hW fgX8_71 3 rfl rfl dX8_fits_103 ?_
              refine lv_aload_n hx hb dX8_fits_106 rfl (lv_at hl 2 rfl) ?_
              refine zk_get C hW fgX8_33 0 rfl rfl dX8_fits_107 ?_
              refine lv_icmp_ne (tgt := 117) hx hb dX8_fits_110 (by decide) (fun c30 => ?_) (fun c30 => ?_)
              · have hf := ineg c30 hf
                refine lv_iconst (v := 0) hx hb dX8_fits_117 (by decide) ?_
                obtain rfl := Option.some.inj hf
                exact zk_zret false C hW rfl dX8_fits_118
              · have hf := ipos c30 hf
                refine lv_iconst (v := 1) hx hb dX8_fits_113 (by decide) ?_
                refine lv_goto (tgt := 118) hx hb dX8_fits_114 (by decide) ?_
                obtain rfl := Option.some.inj hf
                exact zk_zret true C hW rfl dX8_fits_118
          · have hf := ipos c27 hf
            refine lv_iconst (v := 1) hx hb dX8_fits_81 (by decide) ?_
            refine lv_goto (tgt := 86) hx hb dX8_fits_82 (by decide) ?_
            obtain ⟨u31, eu31, hf⟩ := bnd hf
            refine zk_callV (As := [.ref (q 1), .int t0.1.2.1, .int (bI true)]) (rest := []) (W1 := wX8 G q t0.1 u31 t0.2.2.1 t0.2.2.2.1 t0.2.2.2.2.1 t0.2.2.2.2.2) C hW hl mvX8_88 (c_X6_hearSome l G (fun k => q (k + 3)) (fun k => q (k + 1)) u26 t0.1 t0.1.2.1 true u31 eu31) ⟨(Nat.le_of_ble_eq_true rfl), (Nat.le_of_ble_eq_true rfl)⟩ ⟨rfl, rfl⟩ [3, 1, 2] rfl rfl rfl rfl (Nat.le_of_ble_eq_true rfl) (Nat.le_of_ble_eq_true rfl) rfl dX8_fits_86 ⟨Nat.zero_le _, Nat.zero_le _⟩ (fun H locs hW => ?_)
            refine lv_aload_n hx hb dX8_fits_89 rfl (lv_at hl 2 rfl) ?_
            refine zk_get C hW fgX8_21 0 rfl rfl dX8_fits_90 ?_
            refine zk_get C hW fgX8_67 3 rfl rfl dX8_fits_93 ?_
            refine lv_if_ne (tgt := 117) hx hb dX8_fits_96 (by decide) (fun c32 => ?_) (fun c32 => ?_)
            · have hf := ineg c32 hf
              refine lv_iconst (v := 0) hx hb dX8_fits_117 (by decide) ?_
              obtain rfl := Option.some.inj hf
              exact zk_zret false C hW rfl dX8_fits_118
            · have hf := ipos c32 hf
              refine lv_aload_n hx hb dX8_fits_99 rfl (lv_at hl 2 rfl) ?_
              refine zk_get C hW fgX8_21 0 rfl rfl dX8_fits_100 ?_
              refine zk_get C hW fgX8_71 3 rfl rfl dX8_fits_103 ?_
              refine lv_aload_n hx hb dX8_fits_106 rfl (lv_at hl 2 rfl) ?_
              refine zk_get C hW fgX8_33 0 rfl rfl dX8_fits_107 ?_
              refine lv_icmp_ne (tgt := 117) hx hb dX8_fits_110 (by decide) (fun c33 => ?_) (fun c33 => ?_)
              · have hf := ineg c33 hf
                refine lv_iconst (v := 0) hx hb dX8_fits_117 (by decide) ?_
                obtain rfl := Option.some.inj hf
                exact zk_zret false C hW rfl dX8_fits_118
              · have hf := ipos c33 hf
                refine lv_iconst (v := 1) hx hb dX8_fits_113 (by decide) ?_
                refine lv_goto (tgt := 118) hx hb dX8_fits_114 (by decide) ?_
                obtain rfl := Option.some.inj hf
                exact zk_zret true C hW rfl dX8_fits_118
        · have hf := ineg c25 hf
          refine lv_iconst (v := 0) hx hb dX8_fits_45 (by decide) ?_
          obtain rfl := Option.some.inj hf
          exact zk_zret false C hW rfl dX8_fits_46
      have hf := ineg e24 hf
      by_cases e34 : t0.1.2.1 = 3
      · have hf := ipos e34 hf
        refine zk_aald (b := (q 8)) C hW 4 g3 (by rw [e34]; rfl) rfl dX8_fits_28 ?_
        refine lv_astore_n (lv' := [(2, .ref (q 8)), (1, .int t0.1.2.1), (0, .ref (q 0))]) hx hb dX8_fits_29 rfl hl (by decide) rfl (fun ls hl => ?_)
        refine lv_aload_n hx hb dX8_fits_30 rfl (lv_at hl 0 rfl) ?_
        refine lv_ifnull hx hb dX8_fits_31 ?_
        refine lv_aload_n hx hb dX8_fits_34 rfl (lv_at hl 0 rfl) ?_
        refine zk_get C hW fgX8_71 8 rfl rfl dX8_fits_35 ?_
        refine lv_aload_n hx hb dX8_fits_38 rfl (lv_at hl 2 rfl) ?_
        refine zk_get C hW fgX8_36 0 rfl rfl dX8_fits_39 ?_
        refine lv_icmp_eq (tgt := 47) hx hb dX8_fits_42 (by decide) (fun c35 => ?_) (fun c35 => ?_)
        · have hf := ipos c35 hf
          refine lv_aload_n hx hb dX8_fits_47 rfl (lv_at hl 2 rfl) ?_
          refine zk_get C hW fgX8_21 0 rfl rfl dX8_fits_48 ?_
          refine lv_aload_n hx hb dX8_fits_51 rfl (lv_at hl 2 rfl) ?_
          refine zk_get C hW fgX8_29 0 rfl rfl dX8_fits_52 ?_
          obtain ⟨u36, eu36, hf⟩ := bnd hf
          refine zk_callV (As := [.int t0.2.2.2.1]) (rest := []) (W1 := wX8 G q t0.1 u36 t0.2.2.1 t0.2.2.2.1 t0.2.2.2.2.1 t0.2.2.2.2.2) C hW hl mvX8_46 (c_X6_begin l G (fun k => q (k + 3)) t0.2.1 t0.2.2.2.1 u36 eu36) ⟨(Nat.le_of_ble_eq_true rfl), (Nat.le_of_ble_eq_true rfl)⟩ ⟨rfl, rfl⟩ [3] rfl rfl rfl rfl (Nat.le_of_ble_eq_true rfl) (Nat.le_of_ble_eq_true rfl) rfl dX8_fits_55 ⟨Nat.zero_le _, Nat.zero_le _⟩ (fun H locs hW => ?_)
          refine lv_aload_n hx hb dX8_fits_58 rfl (lv_at hl 2 rfl) ?_
          refine zk_get C hW fgX8_21 0 rfl rfl dX8_fits_59 ?_
          refine lv_aload_n hx hb dX8_fits_62 rfl (lv_at hl 2 rfl) ?_
          refine zk_get C hW fgX8_12 0 rfl rfl dX8_fits_63 ?_
          refine lv_aload_n hx hb dX8_fits_66 rfl (lv_at hl 2 rfl) ?_
          refine zk_get C hW fgX8_12 0 rfl rfl dX8_fits_67 ?_
          refine zk_get C hW fgX8_53 1 rfl rfl dX8_fits_70 ?_
          refine lv_aload_n hx hb dX8_fits_73 rfl (lv_at hl 2 rfl) ?_
          refine zk_get C hW fgX8_29 0 rfl rfl dX8_fits_74 ?_
          refine lv_iconst (v := 2) hx hb dX8_fits_77 (by decide) ?_
          refine lv_icmp_ne (tgt := 85) hx hb dX8_fits_78 (by decide) (fun c37 => ?_) (fun c37 => ?_)
          · have hf := ineg c37 hf
            refine lv_iconst (v := 0) hx hb dX8_fits_85 (by decide) ?_
            obtain ⟨u38, eu38, hf⟩ := bnd hf
            refine zk_callV (As := [.ref (q 1), .int t0.1.2.1, .int (bI false)]) (rest := []) (W1 := wX8 G q t0.1 u38 t0.2.2.1 t0.2.2.2.1 t0.2.2.2.2.1 t0.2.2.2.2.2) C hW hl mvX8_88 (c_X6_hearSome l G (fun k => q (k + 3)) (fun k => q (k + 1)) u36 t0.1 t0.1.2.1 false u38 eu38) ⟨(Nat.le_of_ble_eq_true rfl), (Nat.le_of_ble_eq_true rfl)⟩ ⟨rfl, rfl⟩ [3, 1, 2] rfl rfl rfl rfl (Nat.le_of_ble_eq_true rfl) (Nat.le_of_ble_eq_true rfl) rfl dX8_fits_86 ⟨Nat.zero_le _, Nat.zero_le _⟩ (fun H locs hW => ?_)
            refine lv_aload_n hx hb dX8_fits_89 rfl (lv_at hl 2 rfl) ?_
            refine zk_get C hW fgX8_21 0 rfl rfl dX8_fits_90 ?_
            refine zk_get C hW fgX8_67 3 rfl rfl dX8_fits_93 ?_
            refine lv_if_ne (tgt := 117) hx hb dX8_fits_96 (by decide) (fun c39 => ?_) (fun c39 => ?_)
            · have hf := ineg c39 hf
              refine lv_iconst (v := 0) hx hb dX8_fits_117 (by decide) ?_
              obtain rfl := Option.some.inj hf
              exact zk_zret false C hW rfl dX8_fits_118
            · have hf := ipos c39 hf
              refine lv_aload_n hx hb dX8_fits_99 rfl (lv_at hl 2 rfl) ?_
              refine zk_get C hW fgX8_21 0 rfl rfl dX8_fits_100 ?_
              refine zk_get C hW fgX8_71 3 rfl rfl dX8_fits_103 ?_
              refine lv_aload_n hx hb dX8_fits_106 rfl (lv_at hl 2 rfl) ?_
              refine zk_get C hW fgX8_33 0 rfl rfl dX8_fits_107 ?_
              refine lv_icmp_ne (tgt := 117) hx hb dX8_fits_110 (by decide) (fun c40 => ?_) (fun c40 => ?_)
              · have hf := ineg c40 hf
                refine lv_iconst (v := 0) hx hb dX8_fits_117 (by decide) ?_
                obtain rfl := Option.some.inj hf
                exact zk_zret false C hW rfl dX8_fits_118
              · have hf := ipos c40 hf
                refine lv_iconst (v := 1) hx hb dX8_fits_113 (by decide) ?_
                refine lv_goto (tgt := 118) hx hb dX8_fits_114 (by decide) ?_
                obtain rfl := Option.some.inj hf
                exact zk_zret true C hW rfl dX8_fits_118
          · have hf := ipos c37 hf
            refine lv_iconst (v := 1) hx hb dX8_fits_81 (by decide) ?_
            refine lv_goto (tgt := 86) hx hb dX8_fits_82 (by decide) ?_
            obtain ⟨u41, eu41, hf⟩ := bnd hf
            refine zk_callV (As := [.ref (q 1), .int t0.1.2.1, .int (bI true)]) (rest := []) (W1 := wX8 G q t0.1 u41 t0.2.2.1 t0.2.2.2.1 t0.2.2.2.2.1 t0.2.2.2.2.2) C hW hl mvX8_88 (c_X6_hearSome l G (fun k => q (k + 3)) (fun k => q (k + 1)) u36 t0.1 t0.1.2.1 true u41 eu41) ⟨(Nat.le_of_ble_eq_true rfl), (Nat.le_of_ble_eq_true rfl)⟩ ⟨rfl, rfl⟩ [3, 1, 2] rfl rfl rfl rfl (Nat.le_of_ble_eq_true rfl) (Nat.le_of_ble_eq_true rfl) rfl dX8_fits_86 ⟨Nat.zero_le _, Nat.zero_le _⟩ (fun H locs hW => ?_)
            refine lv_aload_n hx hb dX8_fits_89 rfl (lv_at hl 2 rfl) ?_
            refine zk_get C hW fgX8_21 0 rfl rfl dX8_fits_90 ?_
            refine zk_get C hW fgX8_67 3 rfl rfl dX8_fits_93 ?_
            refine lv_if_ne (tgt := 117) hx hb dX8_fits_96 (by decide) (fun c42 => ?_) (fun c42 => ?_)
            · have hf := ineg c42 hf
              refine lv_iconst (v := 0) hx hb dX8_fits_117 (by decide) ?_
              obtain rfl := Option.some.inj hf
              exact zk_zret false C hW rfl dX8_fits_118
            · have hf := ipos c42 hf
              refine lv_aload_n hx hb dX8_fits_99 rfl (lv_at hl 2 rfl) ?_
              refine zk_get C hW fgX8_21 0 rfl rfl dX8_fits_100 ?_
              refine zk_get C hW fgX8_71 3 rfl rfl dX8_fits_103 ?_
              refine lv_aload_n hx hb dX8_fits_106 rfl (lv_at hl 2 rfl) ?_
              refine zk_get C hW fgX8_33 0 rfl rfl dX8_fits_107 ?_
              refine lv_icmp_ne (tgt := 117) hx hb dX8_fits_110 (by decide) (fun c43 => ?_) (fun c43 => ?_)
              · have hf := ineg c43 hf
                refine lv_iconst (v := 0) hx hb dX8_fits_117 (by decide) ?_
                obtain rfl := Option.some.inj hf
                exact zk_zret false C hW rfl dX8_fits_118
              · have hf := ipos c43 hf
                refine lv_iconst (v := 1) hx hb dX8_fits_113 (by decide) ?_
                refine lv_goto (tgt := 118) hx hb dX8_fits_114 (by decide) ?_
                obtain rfl := Option.some.inj hf
                exact zk_zret true C hW rfl dX8_fits_118
        · have hf := ineg c35 hf
          refine lv_iconst (v := 0) hx hb dX8_fits_45 (by decide) ?_
          obtain rfl := Option.some.inj hf
          exact zk_zret false C hW rfl dX8_fits_46
      have hf := ineg e34 hf
      by_cases e44 : t0.1.2.1 = 4
      · have hf := ipos e44 hf
        refine zk_aald (b := (q 9)) C hW 4 g3 (by rw [e44]; rfl) rfl dX8_fits_28 ?_
        refine lv_astore_n (lv' := [(2, .ref (q 9)), (1, .int t0.1.2.1), (0, .ref (q 0))]) hx hb dX8_fits_29 rfl hl (by decide) rfl (fun ls hl => ?_)
        refine lv_aload_n hx hb dX8_fits_30 rfl (lv_at hl 0 rfl) ?_
        refine lv_ifnull hx hb dX8_fits_31 ?_
        refine lv_aload_n hx hb dX8_fits_34 rfl (lv_at hl 0 rfl) ?_
        refine zk_get C hW fgX8_71 9 rfl rfl dX8_fits_35 ?_
        refine lv_aload_n hx hb dX8_fits_38 rfl (lv_at hl 2 rfl) ?_
        refine zk_get C hW fgX8_36 0 rfl rfl dX8_fits_39 ?_
        refine lv_icmp_eq (tgt := 47) hx hb dX8_fits_42 (by decide) (fun c45 => ?_) (fun c45 => ?_)
        · have hf := ipos c45 hf
          refine lv_aload_n hx hb dX8_fits_47 rfl (lv_at hl 2 rfl) ?_
          refine zk_get C hW fgX8_21 0 rfl rfl dX8_fits_48 ?_
          refine lv_aload_n hx hb dX8_fits_51 rfl (lv_at hl 2 rfl) ?_
          refine zk_get C hW fgX8_29 0 rfl rfl dX8_fits_52 ?_
          obtain ⟨u46, eu46, hf⟩ := bnd hf
          refine zk_callV (As := [.int t0.2.2.2.1]) (rest := []) (W1 := wX8 G q t0.1 u46 t0.2.2.1 t0.2.2.2.1 t0.2.2.2.2.1 t0.2.2.2.2.2) C hW hl mvX8_46 (c_X6_begin l G (fun k => q (k + 3)) t0.2.1 t0.2.2.2.1 u46 eu46) ⟨(Nat.le_of_ble_eq_true rfl), (Nat.le_of_ble_eq_true rfl)⟩ ⟨rfl, rfl⟩ [3] rfl rfl rfl rfl (Nat.le_of_ble_eq_true rfl) (Nat.le_of_ble_eq_true rfl) rfl dX8_fits_55 ⟨Nat.zero_le _, Nat.zero_le _⟩ (fun H locs hW => ?_)
          refine lv_aload_n hx hb dX8_fits_58 rfl (lv_at hl 2 rfl) ?_
          refine zk_get C hW fgX8_21 0 rfl rfl dX8_fits_59 ?_
          refine lv_aload_n hx hb dX8_fits_62 rfl (lv_at hl 2 rfl) ?_
          refine zk_get C hW fgX8_12 0 rfl rfl dX8_fits_63 ?_
          refine lv_aload_n hx hb dX8_fits_66 rfl (lv_at hl 2 rfl) ?_
          refine zk_get C hW fgX8_12 0 rfl rfl dX8_fits_67 ?_
          refine zk_get C hW fgX8_53 1 rfl rfl dX8_fits_70 ?_
          refine lv_aload_n hx hb dX8_fits_73 rfl (lv_at hl 2 rfl) ?_
          refine zk_get C hW fgX8_29 0 rfl rfl dX8_fits_74 ?_
          refine lv_iconst (v := 2) hx hb dX8_fits_77 (by decide) ?_
          refine lv_icmp_ne (tgt := 85) hx hb dX8_fits_78 (by decide) (fun c47 => ?_) (fun c47 => ?_)
          · have hf := ineg c47 hf
            refine lv_iconst (v := 0) hx hb dX8_fits_85 (by decide) ?_
            obtain ⟨u48, eu48, hf⟩ := bnd hf
            refine zk_callV (As := [.ref (q 1), .int t0.1.2.1, .int (bI false)]) (rest := []) (W1 := wX8 G q t0.1 u48 t0.2.2.1 t0.2.2.2.1 t0.2.2.2.2.1 t0.2.2.2.2.2) C hW hl mvX8_88 (c_X6_hearSome l G (fun k => q (k + 3)) (fun k => q (k + 1)) u46 t0.1 t0.1.2.1 false u48 eu48) ⟨(Nat.le_of_ble_eq_true rfl), (Nat.le_of_ble_eq_true rfl)⟩ ⟨rfl, rfl⟩ [3, 1, 2] rfl rfl rfl rfl (Nat.le_of_ble_eq_true rfl) (Nat.le_of_ble_eq_true rfl) rfl dX8_fits_86 ⟨Nat.zero_le _, Nat.zero_le _⟩ (fun H locs hW => ?_)
            refine lv_aload_n hx hb dX8_fits_89 rfl (lv_at hl 2 rfl) ?_
            refine zk_get C hW fgX8_21 0 rfl rfl dX8_fits_90 ?_
            refine zk_get C hW fgX8_67 3 rfl rfl dX8_fits_93 ?_
            refine lv_if_ne (tgt := 117) hx hb dX8_fits_96 (by decide) (fun c49 => ?_) (fun c49 => ?_)
            · have hf := ineg c49 hf
              refine lv_iconst (v := 0) hx hb dX8_fits_117 (by decide) ?_
              obtain rfl := Option.some.inj hf
              exact zk_zret false C hW rfl dX8_fits_118
            · have hf := ipos c49 hf
              refine lv_aload_n hx hb dX8_fits_99 rfl (lv_at hl 2 rfl) ?_
              refine zk_get C hW fgX8_21 0 rfl rfl dX8_fits_100 ?_
              refine zk_get C hW fgX8_71 3 rfl rfl dX8_fits_103 ?_
              refine lv_aload_n hx hb dX8_fits_106 rfl (lv_at hl 2 rfl) ?_
              refine zk_get C hW fgX8_33 0 rfl rfl dX8_fits_107 ?_
              refine lv_icmp_ne (tgt := 117) hx hb dX8_fits_110 (by decide) (fun c50 => ?_) (fun c50 => ?_)
              · have hf := ineg c50 hf
                refine lv_iconst (v := 0) hx hb dX8_fits_117 (by decide) ?_
                obtain rfl := Option.some.inj hf
                exact zk_zret false C hW rfl dX8_fits_118
              · have hf := ipos c50 hf
                refine lv_iconst (v := 1) hx hb dX8_fits_113 (by decide) ?_
                refine lv_goto (tgt := 118) hx hb dX8_fits_114 (by decide) ?_
                obtain rfl := Option.some.inj hf
                exact zk_zret true C hW rfl dX8_fits_118
          · have hf := ipos c47 hf
            refine lv_iconst (v := 1) hx hb dX8_fits_81 (by decide) ?_
            refine lv_goto (tgt := 86) hx hb dX8_fits_82 (by decide) ?_
            obtain ⟨u51, eu51, hf⟩ := bnd hf
            refine zk_callV (As := [.ref (q 1), .int t0.1.2.1, .int (bI true)]) (rest := []) (W1 := wX8 G q t0.1 u51 t0.2.2.1 t0.2.2.2.1 t0.2.2.2.2.1 t0.2.2.2.2.2) C hW hl mvX8_88 (c_X6_hearSome l G (fun k => q (k + 3)) (fun k => q (k + 1)) u46 t0.1 t0.1.2.1 true u51 eu51) ⟨(Nat.le_of_ble_eq_true rfl), (Nat.le_of_ble_eq_true rfl)⟩ ⟨rfl, rfl⟩ [3, 1, 2] rfl rfl rfl rfl (Nat.le_of_ble_eq_true rfl) (Nat.le_of_ble_eq_true rfl) rfl dX8_fits_86 ⟨Nat.zero_le _, Nat.zero_le _⟩ (fun H locs hW => ?_)
            refine lv_aload_n hx hb dX8_fits_89 rfl (lv_at hl 2 rfl) ?_
            refine zk_get C hW fgX8_21 0 rfl rfl dX8_fits_90 ?_
            refine zk_get C hW fgX8_67 3 rfl rfl dX8_fits_93 ?_
            refine lv_if_ne (tgt := 117) hx hb dX8_fits_96 (by decide) (fun c52 => ?_) (fun c52 => ?_)
            · have hf := ineg c52 hf
              refine lv_iconst (v := 0) hx hb dX8_fits_117 (by decide) ?_
              obtain rfl := Option.some.inj hf
              exact zk_zret false C hW rfl dX8_fits_118
            · have hf := ipos c52 hf
              refine lv_aload_n hx hb dX8_fits_99 rfl (lv_at hl 2 rfl) ?_
              refine zk_get C hW fgX8_21 0 rfl rfl dX8_fits_100 ?_
              refine zk_get C hW fgX8_71 3 rfl rfl dX8_fits_103 ?_
              refine lv_aload_n hx hb dX8_fits_106 rfl (lv_at hl 2 rfl) ?_
              refine zk_get C hW fgX8_33 0 rfl rfl dX8_fits_107 ?_
              refine lv_icmp_ne (tgt := 117) hx hb dX8_fits_110 (by decide) (fun c53 => ?_) (fun c53 => ?_)
              · have hf := ineg c53 hf
                refine lv_iconst (v := 0) hx hb dX8_fits_117 (by decide) ?_
                obtain rfl := Option.some.inj hf
                exact zk_zret false C hW rfl dX8_fits_118
              · have hf := ipos c53 hf
                refine lv_iconst (v := 1) hx hb dX8_fits_113 (by decide) ?_
                refine lv_goto (tgt := 118) hx hb dX8_fits_114 (by decide) ?_
                obtain rfl := Option.some.inj hf
                exact zk_zret true C hW rfl dX8_fits_118
        · have hf := ineg c45 hf
          refine lv_iconst (v := 0) hx hb dX8_fits_45 (by decide) ?_
          obtain rfl := Option.some.inj hf
          exact zk_zret false C hW rfl dX8_fits_46
      have hf := ineg e44 hf
      by_cases e54 : t0.1.2.1 = 5
      · have hf := ipos e54 hf
        refine zk_aald (b := (q 10)) C hW 4 g3 (by rw [e54]; rfl) rfl dX8_fits_28 ?_
        refine lv_astore_n (lv' := [(2, .ref (q 10)), (1, .int t0.1.2.1), (0, .ref (q 0))]) hx hb dX8_fits_29 rfl hl (by decide) rfl (fun ls hl => ?_)
        refine lv_aload_n hx hb dX8_fits_30 rfl (lv_at hl 0 rfl) ?_
        refine lv_ifnull hx hb dX8_fits_31 ?_
        refine lv_aload_n hx hb dX8_fits_34 rfl (lv_at hl 0 rfl) ?_
        refine zk_get C hW fgX8_71 10 rfl rfl dX8_fits_35 ?_
        refine lv_aload_n hx hb dX8_fits_38 rfl (lv_at hl 2 rfl) ?_
        refine zk_get C hW fgX8_36 0 rfl rfl dX8_fits_39 ?_
        refine lv_icmp_eq (tgt := 47) hx hb dX8_fits_42 (by decide) (fun c55 => ?_) (fun c55 => ?_)
        · have hf := ipos c55 hf
          refine lv_aload_n hx hb dX8_fits_47 rfl (lv_at hl 2 rfl) ?_
          refine zk_get C hW fgX8_21 0 rfl rfl dX8_fits_48 ?_
          refine lv_aload_n hx hb dX8_fits_51 rfl (lv_at hl 2 rfl) ?_
          refine zk_get C hW fgX8_29 0 rfl rfl dX8_fits_52 ?_
          obtain ⟨u56, eu56, hf⟩ := bnd hf
          refine zk_callV (As := [.int t0.2.2.2.1]) (rest := []) (W1 := wX8 G q t0.1 u56 t0.2.2.1 t0.2.2.2.1 t0.2.2.2.2.1 t0.2.2.2.2.2) C hW hl mvX8_46 (c_X6_begin l G (fun k => q (k + 3)) t0.2.1 t0.2.2.2.1 u56 eu56) ⟨(Nat.le_of_ble_eq_true rfl), (Nat.le_of_ble_eq_true rfl)⟩ ⟨rfl, rfl⟩ [3] rfl rfl rfl rfl (Nat.le_of_ble_eq_true rfl) (Nat.le_of_ble_eq_true rfl) rfl dX8_fits_55 ⟨Nat.zero_le _, Nat.zero_le _⟩ (fun H locs hW => ?_)
          refine lv_aload_n hx hb dX8_fits_58 rfl (lv_at hl 2 rfl) ?_
          refine zk_get C hW fgX8_21 0 rfl rfl dX8_fits_59 ?_
          refine lv_aload_n hx hb dX8_fits_62 rfl (lv_at hl 2 rfl) ?_
          refine zk_get C hW fgX8_12 0 rfl rfl dX8_fits_63 ?_
          refine lv_aload_n hx hb dX8_fits_66 rfl (lv_at hl 2 rfl) ?_
          refine zk_get C hW fgX8_12 0 rfl rfl dX8_fits_67 ?_
          refine zk_get C hW fgX8_53 1 rfl rfl dX8_fits_70 ?_
          refine lv_aload_n hx hb dX8_fits_73 rfl (lv_at hl 2 rfl) ?_
          refine zk_get C hW fgX8_29 0 rfl rfl dX8_fits_74 ?_
          refine lv_iconst (v := 2) hx hb dX8_fits_77 (by decide) ?_
          refine lv_icmp_ne (tgt := 85) hx hb dX8_fits_78 (by decide) (fun c57 => ?_) (fun c57 => ?_)
          · have hf := ineg c57 hf
            refine lv_iconst (v := 0) hx hb dX8_fits_85 (by decide) ?_
            obtain ⟨u58, eu58, hf⟩ := bnd hf
            refine zk_callV (As := [.ref (q 1), .int t0.1.2.1, .int (bI false)]) (rest := []) (W1 := wX8 G q t0.1 u58 t0.2.2.1 t0.2.2.2.1 t0.2.2.2.2.1 t0.2.2.2.2.2) C hW hl mvX8_88 (c_X6_hearSome l G (fun k => q (k + 3)) (fun k => q (k + 1)) u56 t0.1 t0.1.2.1 false u58 eu58) ⟨(Nat.le_of_ble_eq_true rfl), (Nat.le_of_ble_eq_true rfl)⟩ ⟨rfl, rfl⟩ [3, 1, 2] rfl rfl rfl rfl (Nat.le_of_ble_eq_true rfl) (Nat.le_of_ble_eq_true rfl) rfl dX8_fits_86 ⟨Nat.zero_le _, Nat.zero_le _⟩ (fun H locs hW => ?_)
            refine lv_aload_n hx hb dX8_fits_89 rfl (lv_at hl 2 rfl) ?_
            refine zk_get C hW fgX8_21 0 rfl rfl dX8_fits_90 ?_
            refine zk_get C hW fgX8_67 3 rfl rfl dX8_fits_93 ?_
            refine lv_if_ne (tgt := 117) hx hb dX8_fits_96 (by decide) (fun c59 => ?_) (fun c59 => ?_)
            · have hf := ineg c59 hf
              refine lv_iconst (v := 0) hx hb dX8_fits_117 (by decide) ?_
              obtain rfl := Option.some.inj hf
              exact zk_zret false C hW rfl dX8_fits_118
            · have hf := ipos c59 hf
              refine lv_aload_n hx hb dX8_fits_99 rfl (lv_at hl 2 rfl) ?_
              refine zk_get C hW fgX8_21 0 rfl rfl dX8_fits_100 ?_
              refine zk_get C hW fgX8_71 3 rfl rfl dX8_fits_103 ?_
              refine lv_aload_n hx hb dX8_fits_106 rfl (lv_at hl 2 rfl) ?_
              refine zk_get C hW fgX8_33 0 rfl rfl dX8_fits_107 ?_
              refine lv_icmp_ne (tgt := 117) hx hb dX8_fits_110 (by decide) (fun c60 => ?_) (fun c60 => ?_)
              · have hf := ineg c60 hf
                refine lv_iconst (v := 0) hx hb dX8_fits_117 (by decide) ?_
                obtain rfl := Option.some.inj hf
                exact zk_zret false C hW rfl dX8_fits_118
              · have hf := ipos c60 hf
                refine lv_iconst (v := 1) hx hb dX8_fits_113 (by decide) ?_
                refine lv_goto (tgt := 118) hx hb dX8_fits_114 (by decide) ?_
                obtain rfl := Option.some.inj hf
                exact zk_zret true C hW rfl dX8_fits_118
          · have hf := ipos c57 hf
            refine lv_iconst (v := 1) hx hb dX8_fits_81 (by decide) ?_
            refine lv_goto (tgt := 86) hx hb dX8_fits_82 (by decide) ?_
            obtain ⟨u61, eu61, hf⟩ := bnd hf
            refine zk_callV (As := [.ref (q 1), .int t0.1.2.1, .int (bI true)]) (rest := []) (W1 := wX8 G q t0.1 u61 t0.2.2.1 t0.2.2.2.1 t0.2.2.2.2.1 t0.2.2.2.2.2) C hW hl mvX8_88 (c_X6_hearSome l G (fun k => q (k + 3)) (fun k => q (k + 1)) u56 t0.1 t0.1.2.1 true u61 eu61) ⟨(Nat.le_of_ble_eq_true rfl), (Nat.le_of_ble_eq_true rfl)⟩ ⟨rfl, rfl⟩ [3, 1, 2] rfl rfl rfl rfl (Nat.le_of_ble_eq_true rfl) (Nat.le_of_ble_eq_true rfl) rfl dX8_fits_86 ⟨Nat.zero_le _, Nat.zero_le _⟩ (fun H locs hW => ?_)
            refine lv_aload_n hx hb dX8_fits_89 rfl (lv_at hl 2 rfl) ?_
            refine zk_get C hW fgX8_21 0 rfl rfl dX8_fits_90 ?_
            refine zk_get C hW fgX8_67 3 rfl rfl dX8_fits_93 ?_
            refine lv_if_ne (tgt := 117) hx hb dX8_fits_96 (by decide) (fun c62 => ?_) (fun c62 => ?_)
            · have hf := ineg c62 hf
              refine lv_iconst (v := 0) hx hb dX8_fits_117 (by decide) ?_
              obtain rfl := Option.some.inj hf
              exact zk_zret false C hW rfl dX8_fits_118
            · have hf := ipos c62 hf
              refine lv_aload_n hx hb dX8_fits_99 rfl (lv_at hl 2 rfl) ?_
              refine zk_get C hW fgX8_21 0 rfl rfl dX8_fits_100 ?_
              refine zk_get C hW fgX8_71 3 rfl rfl dX8_fits_103 ?_
              refine lv_aload_n hx hb dX8_fits_106 rfl (lv_at hl 2 rfl) ?_
              refine zk_get C hW fgX8_33 0 rfl rfl dX8_fits_107 ?_
              refine lv_icmp_ne (tgt := 117) hx hb dX8_fits_110 (by decide) (fun c63 => ?_) (fun c63 => ?_)
              · have hf := ineg c63 hf
                refine lv_iconst (v := 0) hx hb dX8_fits_117 (by decide) ?_
                obtain rfl := Option.some.inj hf
                exact zk_zret false C hW rfl dX8_fits_118
              · have hf := ipos c63 hf
                refine lv_iconst (v := 1) hx hb dX8_fits_113 (by decide) ?_
                refine lv_goto (tgt := 118) hx hb dX8_fits_114 (by decide) ?_
                obtain rfl := Option.some.inj hf
                exact zk_zret true C hW rfl dX8_fits_118
        · have hf := ineg c55 hf
          refine lv_iconst (v := 0) hx hb dX8_fits_45 (by decide) ?_
          obtain rfl := Option.some.inj hf
          exact zk_zret false C hW rfl dX8_fits_46
      have hf := ineg e54 hf
      exact nomatch hf
    · have hf := ineg c2 hf
      refine lv_iconst (v := 0) hx hb dX8_fits_21 (by decide) ?_
      obtain rfl := Option.some.inj hf
      exact zk_zret false C hW rfl dX8_fits_22

set_option maxHeartbeats 4000000 in
set_option maxRecDepth 100000 in
theorem c_X8_fillFrom_5 (l : Launch) (G : GG) (q : Nat → Nat) (t0 : zWR) (out : Bool × zWR) (hf : f_X8_fillFrom_5 t0 = some out) : CtI G l yX8_fillFrom (Cond.code yX8_fillFrom cX8_fillFrom 5 (some .boolean) :: WL) (zR 4 88) [.ref (q 0), .int 5] (wX8 G q t0.1 t0.2.1 t0.2.2.1 t0.2.2.2.1 t0.2.2.2.2.1 t0.2.2.2.2.2) (bI out.1) (wX8 G q out.2.1 out.2.2.1 out.2.2.2.1 out.2.2.2.2.1 out.2.2.2.2.2.1 out.2.2.2.2.2.2) := by
  refine CtI.mk (cc := cX8_fillFrom) (nL := 5) (rt := (some .boolean)) (own := RX8) (nm := "fillFrom") (by decide) rfl rfl (Nat.le_of_ble_eq_true rfl) ?_
  intro p e s m below meth c A ls C hW hl
  have hx := C.1
  have hb := C.2.1
  have hl : lv_has ls 5 [(0, .ref (q 0)), (1, .int 5)] := hl
  unfold f_X8_fillFrom_5 at hf
  refine lv_iload_n hx hb dX8_fillFrom_0 rfl (lv_at hl 1 rfl) ?_
  refine lv_aload_n hx hb dX8_fillFrom_1 rfl (lv_at hl 0 rfl) ?_
  refine zk_get C hW fgX8_12 0 rfl rfl dX8_fillFrom_2 ?_
  refine zk_get C hW fgX8_53 1 rfl rfl dX8_fillFrom_5 ?_
  refine lv_icmp_lt (tgt := 16) hx hb dX8_fillFrom_8 (by decide) (fun c1 => ?_) (fun c1 => ?_)
  · have hf := ipos c1 hf
    refine lv_iload_n hx hb dX8_fillFrom_16 rfl (lv_at hl 1 rfl) ?_
    refine lv_if_lt (tgt := 31) hx hb dX8_fillFrom_17 (by decide) (fun c2 => ?_) (fun c2 => ?_)
    · exact absurd c2 (by decide)
    · refine lv_iload_n hx hb dX8_fillFrom_20 rfl (lv_at hl 1 rfl) ?_
      refine lv_iconst (v := 1) hx hb dX8_fillFrom_21 (by decide) ?_
      refine lv_iadd hx hb dX8_fillFrom_22 ?_
      refine lv_topi (fun z3 ez3 => ?_)
      obtain rfl : z3 = 6 := ez3.trans (by decide)
      refine lv_aload_n hx hb dX8_fillFrom_23 rfl (lv_at hl 0 rfl) ?_
      refine zk_get C hW fgX8_25 0 rfl rfl dX8_fillFrom_24 ?_
      refine zk_alenR C hW 4 rfl dX8_fillFrom_27 ?_
      refine lv_icmp_lt (tgt := 33) hx hb dX8_fillFrom_28 (by decide) (fun c4 => ?_) (fun c4 => ?_)
      · exact absurd c4 (by decide)
      · refine lv_iconst (v := 0) hx hb dX8_fillFrom_31 (by decide) ?_
        obtain rfl := Option.some.inj hf
        exact zk_zret false C hW rfl dX8_fillFrom_32
  · have hf := ineg c1 hf
    refine lv_aload_n hx hb dX8_fillFrom_11 rfl (lv_at hl 0 rfl) ?_
    obtain ⟨u5, eu5, hf⟩ := bnd hf
    refine zk_callBI (As := []) (rest := []) (W1 := wX8 G q u5.2.1 u5.2.2.1 u5.2.2.2.1 u5.2.2.2.2.1 u5.2.2.2.2.2.1 u5.2.2.2.2.2.2) C hW hl mvX8_56 (c_X8_fits l G q t0 u5 eu5) ⟨(Nat.le_of_ble_eq_true rfl), (Nat.le_of_ble_eq_true rfl)⟩ ⟨rfl, rfl⟩ ([]) ([]) zE1 rfl rfl (Nat.le_of_ble_eq_true rfl) zE1r dX8_fillFrom_12 ⟨Nat.zero_le _, Nat.zero_le _⟩ (fun H locs hW => ?_)
    obtain rfl := Option.some.inj hf
    exact zk_zret u5.1 C hW rfl dX8_fillFrom_15

set_option maxHeartbeats 4000000 in
set_option maxRecDepth 100000 in
theorem w_X8_fillFrom_4_62 {p : Program} {e : Env} {s : State} {m : MethodId} {args : Array Value} {below : List Frame} {meth : Method} {c : Code} {A : Nat → Prop} (l : Launch) (G : GG) (q : Nat → Nat) (out : Bool × zWR) (C : CX p s m args meth c cX8_fillFrom 5 RX8 (some .boolean) "fillFrom") {K : Int32 → zLT → zRD → (Nat → zRD) → Int32 → Int32 → Int32 → Option (Bool × zWR)} (hK : ∀ (v4 : Int32) (s0_0 : zLT) (s0_1 : zRD) (s0_2 : (Nat → zRD)) (s0_3 : Int32) (s0_4 : Int32) (s0_5 : Int32) , K v4 s0_0 s0_1 s0_2 s0_3 s0_4 s0_5 = some out → ∀ (H : Heap) (locs : List Loc) (ls : Array Slot), KW G A s (wX8 G q s0_0 s0_1 s0_2 s0_3 s0_4 s0_5) H locs → lv_has ls 5 [] → W p l e (zR 5 112) s m args below meth c H locs 0 0 (QI G A (bI out.1) (wX8 G q out.2.1 out.2.2.1 out.2.2.2.1 out.2.2.2.2.1 out.2.2.2.2.2.1 out.2.2.2.2.2.2) below args s) (F0 m 132 ls [])) :
    ∀ (n : Nat) (v4 : Int32) (s0_0 : zLT) (s0_1 : zRD) (s0_2 : (Nat → zRD)) (s0_3 : Int32) (s0_4 : Int32) (s0_5 : Int32) , lp_X8_fillFrom_4_62  K n v4 s0_0 s0_1 s0_2 s0_3 s0_4 s0_5 = some out → ∀ (H : Heap) (locs : List Loc) (ls : Array Slot), KW G A s (wX8 G q s0_0 s0_1 s0_2 s0_3 s0_4 s0_5) H locs → lv_has ls 5 [(0, .ref (q 0)), (1, .int 4), (2, .ref (q 9)), (3, .ref (q 10)), (4, .int v4)] → W p l e (zR 5 112) s m args below meth c H locs 0 0 (QI G A (bI out.1) (wX8 G q out.2.1 out.2.2.1 out.2.2.2.1 out.2.2.2.2.1 out.2.2.2.2.2.1 out.2.2.2.2.2.2) below args s) (F0 m 62 ls []) := by
  have hx := C.1
  have hb := C.2.1
  intro n
  induction n with
  | zero => intro v4 s0_0 s0_1 s0_2 s0_3 s0_4 s0_5 hf; exact nomatch (show (none : Option (Bool × zWR)) = some out from hf)
  | succ n ih =>
    intro v4 s0_0 s0_1 s0_2 s0_3 s0_4 s0_5 hf H locs ls hW hl
    rw [lp_X8_fillFrom_4_62] at hf
    refine lv_iload hx hb dX8_fillFrom_62 (lv_at hl 4 rfl) ?_
    refine lv_bipush (v := 6) hx hb dX8_fillFrom_64 (by decide) ?_
    refine lv_icmp_ge (tgt := 132) hx hb dX8_fillFrom_66 (by decide) (fun c6 => ?_) (fun c6 => ?_)
    · have hf := ipos c6 hf
      exact hK v4 s0_0 s0_1 s0_2 s0_3 s0_4 s0_5 hf _ _ _ hW (lv_sub hl [] rfl)
    · have hf := ineg c6 hf
      refine lv_aload_n hx hb dX8_fillFrom_69 rfl (lv_at hl 3 rfl) ?_
      refine lv_aload_n hx hb dX8_fillFrom_70 rfl (lv_at hl 2 rfl) ?_
      obtain ⟨u7, eu7, hf⟩ := bnd hf
      refine zk_callV (As := [.ref (q 9)]) (rest := []) (W1 := wX8 G q s0_0 s0_1 (va_up s0_2 5 u7) s0_3 s0_4 s0_5) C hW hl mvX8_60 (c_X6_copy l G (fun k => q (k + 10)) (fun k => q (k + 9)) (s0_2 5) (s0_2 4) u7 eu7) ⟨(Nat.le_of_ble_eq_true rfl), (Nat.le_of_ble_eq_true rfl)⟩ ⟨rfl, rfl⟩ [10, 9] rfl rfl rfl rfl (Nat.le_of_ble_eq_true rfl) (Nat.le_of_ble_eq_true rfl) rfl dX8_fillFrom_71 ⟨Nat.zero_le _, Nat.zero_le _⟩ (fun H locs hW => ?_)
      refine lv_aload_n hx hb dX8_fillFrom_74 rfl (lv_at hl 3 rfl) ?_
      refine lv_iload hx hb dX8_fillFrom_75 (lv_at hl 4 rfl) ?_
      obtain ⟨u8, eu8, hf⟩ := bnd hf
      refine zk_callV (As := [.int v4]) (rest := []) (W1 := wX8 G q s0_0 s0_1 (va_up s0_2 5 u8) s0_3 s0_4 s0_5) C hW hl mvX8_64 (c_X6_hear l G (fun k => q (k + 10)) u7 v4 u8 eu8) ⟨(Nat.le_of_ble_eq_true rfl), (Nat.le_of_ble_eq_true rfl)⟩ ⟨rfl, rfl⟩ [10] rfl rfl rfl rfl (Nat.le_of_ble_eq_true rfl) (Nat.le_of_ble_eq_true rfl) rfl dX8_fillFrom_77 ⟨Nat.zero_le _, Nat.zero_le _⟩ (fun H locs hW => ?_)
      refine lv_aload_n hx hb dX8_fillFrom_80 rfl (lv_at hl 3 rfl) ?_
      refine zk_get C hW fgX8_67 10 rfl rfl dX8_fillFrom_81 ?_
      refine lv_if_ne (tgt := 126) hx hb dX8_fillFrom_84 (by decide) (fun c9 => ?_) (fun c9 => ?_)
      · have hf := ineg c9 hf
        refine lv_iinc (v := (v4 + 1)) (lv' := [(4, .int (v4 + 1)), (0, .ref (q 0)), (1, .int 4), (2, .ref (q 9)), (3, .ref (q 10))]) hx hb dX8_fillFrom_126 hl (k := 4) rfl rfl (by decide) rfl (fun ls hl => ?_)
        refine lv_goto (tgt := 62) hx hb dX8_fillFrom_129 (by decide) ?_
        exact ih (v4 + 1) s0_0 s0_1 (va_up s0_2 5 u8) s0_3 s0_4 s0_5 hf _ _ _ hW (lv_sub hl [1, 2, 3, 4, 0] rfl)
      · have hf := ipos c9 hf
        refine lv_aload_n hx hb dX8_fillFrom_87 rfl (lv_at hl 0 rfl) ?_
        refine lv_aload_n hx hb dX8_fillFrom_88 rfl (lv_at hl 3 rfl) ?_
        refine zk_get C hW fgX8_71 10 rfl rfl dX8_fillFrom_89 ?_
        refine lv_iload_n hx hb dX8_fillFrom_92 rfl (lv_at hl 1 rfl) ?_
        refine lv_iconst (v := 1) hx hb dX8_fillFrom_93 (by decide) ?_
        refine lv_iadd hx hb dX8_fillFrom_94 ?_
        refine lv_topi (fun z10 ez10 => ?_)
        obtain rfl : z10 = 5 := ez10.trans (by decide)
        obtain ⟨u11, eu11, hf⟩ := bnd hf
        refine zk_callBI (As := [.int u8.2.1, .int 5]) (rest := []) (W1 := wX8 G q s0_0 s0_1 (va_up s0_2 5 u8) s0_3 s0_4 s0_5) C hW hl mvX8_74 (c_X8_canReachTop l G q (s0_0, s0_1, (va_up s0_2 5 u8), s0_3, s0_4, s0_5) u8.2.1 5 u11 eu11) ⟨(Nat.le_of_ble_eq_true rfl), (Nat.le_of_ble_eq_true rfl)⟩ ⟨rfl, rfl⟩ ([]) ([]) zE1 rfl rfl (Nat.le_of_ble_eq_true rfl) zE1r dX8_fillFrom_95 ⟨Nat.zero_le _, Nat.zero_le _⟩ (fun H locs hW => ?_)
        refine lv_if_ne (tgt := 104) hx hb dX8_fillFrom_98 (by decide) (fun c12 => ?_) (fun c12 => ?_)
        · have hf := ineg c12 hf
          refine lv_aload_n hx hb dX8_fillFrom_104 rfl (lv_at hl 0 rfl) ?_
          refine zk_get C hW fgX8_12 0 rfl rfl dX8_fillFrom_105 ?_
          refine lv_iload_n hx hb dX8_fillFrom_108 rfl (lv_at hl 1 rfl) ?_
          refine lv_iload hx hb dX8_fillFrom_109 (lv_at hl 4 rfl) ?_
          obtain ⟨u13, eu13, hf⟩ := bnd hf
          refine zk_callV (As := [.int 4, .int v4]) (rest := []) (W1 := wX8 G q u13 s0_1 (va_up s0_2 5 u8) s0_3 s0_4 s0_5) C hW hl mvX8_78 (c_X3_put l G (fun k => q (k + 1)) s0_0 4 v4 u13 eu13) ⟨(Nat.le_of_ble_eq_true rfl), (Nat.le_of_ble_eq_true rfl)⟩ ⟨rfl, rfl⟩ [1, 2] rfl rfl rfl rfl (Nat.le_of_ble_eq_true rfl) (Nat.le_of_ble_eq_true rfl) rfl dX8_fillFrom_111 ⟨Nat.zero_le _, Nat.zero_le _⟩ (fun H locs hW => ?_)
          refine lv_aload_n hx hb dX8_fillFrom_114 rfl (lv_at hl 0 rfl) ?_
          refine lv_iload_n hx hb dX8_fillFrom_115 rfl (lv_at hl 1 rfl) ?_
          refine lv_iconst (v := 1) hx hb dX8_fillFrom_116 (by decide) ?_
          refine lv_iadd hx hb dX8_fillFrom_117 ?_
          refine lv_topi (fun z14 ez14 => ?_)
          obtain rfl : z14 = 5 := ez14.trans (by decide)
          obtain ⟨u15, eu15, hf⟩ := bnd hf
          refine zk_callSI (As := [.ref (q 0), .int 5]) (rest := []) (W1 := wX8 G q u15.2.1 u15.2.2.1 u15.2.2.2.1 u15.2.2.2.2.1 u15.2.2.2.2.2.1 u15.2.2.2.2.2.2) C hW hl msX8_49 (c_X8_fillFrom_5 l G q (u13, s0_1, (va_up s0_2 5 u8), s0_3, s0_4, s0_5) u15 eu15) ⟨(Nat.le_of_ble_eq_true rfl), (Nat.le_of_ble_eq_true rfl)⟩ ⟨rfl, rfl⟩ [0, 1, 2, 3, 4, 5, 6, 7, 8, 9, 10] rfl rfl rfl (Nat.le_of_ble_eq_true rfl) (Nat.le_of_ble_eq_true rfl) rfl dX8_fillFrom_118 ⟨Nat.zero_le _, Nat.zero_le _⟩ (fun H locs hW => ?_)
          refine lv_if_eq (tgt := 126) hx hb dX8_fillFrom_121 (by decide) (fun c16 => ?_) (fun c16 => ?_)
          · have hf := ipos c16 hf
            refine lv_iinc (v := (v4 + 1)) (lv' := [(4, .int (v4 + 1)), (0, .ref (q 0)), (1, .int 4), (2, .ref (q 9)), (3, .ref (q 10))]) hx hb dX8_fillFrom_126 hl (k := 4) rfl rfl (by decide) rfl (fun ls hl => ?_)
            refine lv_goto (tgt := 62) hx hb dX8_fillFrom_129 (by decide) ?_
            exact ih (v4 + 1) u15.2.1 u15.2.2.1 u15.2.2.2.1 u15.2.2.2.2.1 u15.2.2.2.2.2.1 u15.2.2.2.2.2.2 hf _ _ _ hW (lv_sub hl [1, 2, 3, 4, 0] rfl)
          · have hf := ineg c16 hf
            refine lv_iconst (v := 1) hx hb dX8_fillFrom_124 (by decide) ?_
            obtain rfl := Option.some.inj hf
            exact zk_zret true C hW rfl dX8_fillFrom_125
        · have hf := ipos c12 hf
          refine lv_goto (tgt := 126) hx hb dX8_fillFrom_101 (by decide) ?_
          refine lv_iinc (v := (v4 + 1)) (lv' := [(4, .int (v4 + 1)), (0, .ref (q 0)), (1, .int 4), (2, .ref (q 9)), (3, .ref (q 10))]) hx hb dX8_fillFrom_126 hl (k := 4) rfl rfl (by decide) rfl (fun ls hl => ?_)
          refine lv_goto (tgt := 62) hx hb dX8_fillFrom_129 (by decide) ?_
          exact ih (v4 + 1) s0_0 s0_1 (va_up s0_2 5 u8) s0_3 s0_4 s0_5 hf _ _ _ hW (lv_sub hl [1, 2, 3, 4, 0] rfl)
set_option maxHeartbeats 4000000 in
set_option maxRecDepth 100000 in
theorem c_X8_fillFrom_4 (l : Launch) (G : GG) (q : Nat → Nat) (t0 : zWR) (out : Bool × zWR) (hf : f_X8_fillFrom_4 t0 = some out) : CtI G l yX8_fillFrom (Cond.code yX8_fillFrom cX8_fillFrom 5 (some .boolean) :: WL) (zR 5 112) [.ref (q 0), .int 4] (wX8 G q t0.1 t0.2.1 t0.2.2.1 t0.2.2.2.1 t0.2.2.2.2.1 t0.2.2.2.2.2) (bI out.1) (wX8 G q out.2.1 out.2.2.1 out.2.2.2.1 out.2.2.2.2.1 out.2.2.2.2.2.1 out.2.2.2.2.2.2) := by
  refine CtI.mk (cc := cX8_fillFrom) (nL := 5) (rt := (some .boolean)) (own := RX8) (nm := "fillFrom") (by decide) rfl rfl (Nat.le_of_ble_eq_true rfl) ?_
  intro p e s m below meth c A ls C hW hl
  have hx := C.1
  have hb := C.2.1
  have hl : lv_has ls 5 [(0, .ref (q 0)), (1, .int 4)] := hl
  unfold f_X8_fillFrom_4 at hf
  refine lv_iload_n hx hb dX8_fillFrom_0 rfl (lv_at hl 1 rfl) ?_
  refine lv_aload_n hx hb dX8_fillFrom_1 rfl (lv_at hl 0 rfl) ?_
  refine zk_get C hW fgX8_12 0 rfl rfl dX8_fillFrom_2 ?_
  refine zk_get C hW fgX8_53 1 rfl rfl dX8_fillFrom_5 ?_
  refine lv_icmp_lt (tgt := 16) hx hb dX8_fillFrom_8 (by decide) (fun c1 => ?_) (fun c1 => ?_)
  · have hf := ipos c1 hf
    refine lv_iload_n hx hb dX8_fillFrom_16 rfl (lv_at hl 1 rfl) ?_
    refine lv_if_lt (tgt := 31) hx hb dX8_fillFrom_17 (by decide) (fun c2 => ?_) (fun c2 => ?_)
    · exact absurd c2 (by decide)
    · refine lv_iload_n hx hb dX8_fillFrom_20 rfl (lv_at hl 1 rfl) ?_
      refine lv_iconst (v := 1) hx hb dX8_fillFrom_21 (by decide) ?_
      refine lv_iadd hx hb dX8_fillFrom_22 ?_
      refine lv_topi (fun z3 ez3 => ?_)
      obtain rfl : z3 = 5 := ez3.trans (by decide)
      refine lv_aload_n hx hb dX8_fillFrom_23 rfl (lv_at hl 0 rfl) ?_
      refine zk_get C hW fgX8_25 0 rfl rfl dX8_fillFrom_24 ?_
      refine zk_alenR C hW 4 rfl dX8_fillFrom_27 ?_
      refine lv_icmp_lt (tgt := 33) hx hb dX8_fillFrom_28 (by decide) (fun c4 => ?_) (fun c4 => ?_)
      · refine lv_aload_n hx hb dX8_fillFrom_33 rfl (lv_at hl 0 rfl) ?_
        refine zk_get C hW fgX8_25 0 rfl rfl dX8_fillFrom_34 ?_
        refine lv_iload_n hx hb dX8_fillFrom_37 rfl (lv_at hl 1 rfl) ?_
        refine zk_aald (b := (q 9)) C hW 4 (by decide) rfl rfl dX8_fillFrom_38 ?_
        refine lv_astore_n (lv' := [(2, .ref (q 9)), (0, .ref (q 0)), (1, .int 4)]) hx hb dX8_fillFrom_39 rfl hl (by decide) rfl (fun ls hl => ?_)
        refine lv_aload_n hx hb dX8_fillFrom_40 rfl (lv_at hl 1 rfl) ?_
        refine zk_get C hW fgX8_25 0 rfl rfl dX8_fillFrom_41 ?_
        refine lv_iload_n hx hb dX8_fillFrom_44 rfl (lv_at hl 2 rfl) ?_
        refine lv_iconst (v := 1) hx hb dX8_fillFrom_45 (by decide) ?_
        refine lv_iadd hx hb dX8_fillFrom_46 ?_
        refine lv_topi (fun z5 ez5 => ?_)
        obtain rfl : z5 = 5 := ez5.trans (by decide)
        refine zk_aald (b := (q 10)) C hW 4 (by decide) rfl rfl dX8_fillFrom_47 ?_
        refine lv_astore_n (lv' := [(3, .ref (q 10)), (2, .ref (q 9)), (0, .ref (q 0)), (1, .int 4)]) hx hb dX8_fillFrom_48 rfl hl (by decide) rfl (fun ls hl => ?_)
        refine lv_aload_n hx hb dX8_fillFrom_49 rfl (lv_at hl 1 rfl) ?_
        refine lv_ifnull hx hb dX8_fillFrom_50 ?_
        refine lv_aload_n hx hb dX8_fillFrom_53 rfl (lv_at hl 0 rfl) ?_
        refine lv_ifnonnull (tgt := 59) hx hb dX8_fillFrom_54 (by decide) ?_
        refine lv_iconst (v := 0) hx hb dX8_fillFrom_59 (by decide) ?_
        refine lv_istore (lv' := [(4, .int 0), (3, .ref (q 10)), (2, .ref (q 9)), (0, .ref (q 0)), (1, .int 4)]) hx hb dX8_fillFrom_60 hl (by decide) rfl (fun ls hl => ?_)
        refine w_X8_fillFrom_4_62 l G q  out C (fun w17_v4 w17_s0_0 w17_s0_1 w17_s0_2 w17_s0_3 w17_s0_4 w17_s0_5 hf H locs ls hW hl => ?_) FU 0 t0.1 t0.2.1 t0.2.2.1 t0.2.2.2.1 t0.2.2.2.2.1 t0.2.2.2.2.2 hf _ _ _ hW (lv_sub hl [3, 4, 2, 1, 0] rfl)
        refine lv_iconst (v := 0) hx hb dX8_fillFrom_132 (by decide) ?_
        obtain rfl := Option.some.inj hf
        exact zk_zret false C hW rfl dX8_fillFrom_133
      · exact absurd c4 (by decide)
  · have hf := ineg c1 hf
    refine lv_aload_n hx hb dX8_fillFrom_11 rfl (lv_at hl 0 rfl) ?_
    obtain ⟨u18, eu18, hf⟩ := bnd hf
    refine zk_callBI (As := []) (rest := []) (W1 := wX8 G q u18.2.1 u18.2.2.1 u18.2.2.2.1 u18.2.2.2.2.1 u18.2.2.2.2.2.1 u18.2.2.2.2.2.2) C hW hl mvX8_56 (c_X8_fits l G q t0 u18 eu18) ⟨(Nat.le_of_ble_eq_true rfl), (Nat.le_of_ble_eq_true rfl)⟩ ⟨rfl, rfl⟩ ([]) ([]) zE1 rfl rfl (Nat.le_of_ble_eq_true rfl) zE1r dX8_fillFrom_12 ⟨Nat.zero_le _, Nat.zero_le _⟩ (fun H locs hW => ?_)
    obtain rfl := Option.some.inj hf
    exact zk_zret u18.1 C hW rfl dX8_fillFrom_15

set_option maxHeartbeats 4000000 in
set_option maxRecDepth 100000 in
theorem w_X8_fillFrom_3_62 {p : Program} {e : Env} {s : State} {m : MethodId} {args : Array Value} {below : List Frame} {meth : Method} {c : Code} {A : Nat → Prop} (l : Launch) (G : GG) (q : Nat → Nat) (out : Bool × zWR) (C : CX p s m args meth c cX8_fillFrom 5 RX8 (some .boolean) "fillFrom") {K : Int32 → zLT → zRD → (Nat → zRD) → Int32 → Int32 → Int32 → Option (Bool × zWR)} (hK : ∀ (v4 : Int32) (s0_0 : zLT) (s0_1 : zRD) (s0_2 : (Nat → zRD)) (s0_3 : Int32) (s0_4 : Int32) (s0_5 : Int32) , K v4 s0_0 s0_1 s0_2 s0_3 s0_4 s0_5 = some out → ∀ (H : Heap) (locs : List Loc) (ls : Array Slot), KW G A s (wX8 G q s0_0 s0_1 s0_2 s0_3 s0_4 s0_5) H locs → lv_has ls 5 [] → W p l e (zR 6 136) s m args below meth c H locs 0 0 (QI G A (bI out.1) (wX8 G q out.2.1 out.2.2.1 out.2.2.2.1 out.2.2.2.2.1 out.2.2.2.2.2.1 out.2.2.2.2.2.2) below args s) (F0 m 132 ls [])) :
    ∀ (n : Nat) (v4 : Int32) (s0_0 : zLT) (s0_1 : zRD) (s0_2 : (Nat → zRD)) (s0_3 : Int32) (s0_4 : Int32) (s0_5 : Int32) , lp_X8_fillFrom_3_62  K n v4 s0_0 s0_1 s0_2 s0_3 s0_4 s0_5 = some out → ∀ (H : Heap) (locs : List Loc) (ls : Array Slot), KW G A s (wX8 G q s0_0 s0_1 s0_2 s0_3 s0_4 s0_5) H locs → lv_has ls 5 [(0, .ref (q 0)), (1, .int 3), (2, .ref (q 8)), (3, .ref (q 9)), (4, .int v4)] → W p l e (zR 6 136) s m args below meth c H locs 0 0 (QI G A (bI out.1) (wX8 G q out.2.1 out.2.2.1 out.2.2.2.1 out.2.2.2.2.1 out.2.2.2.2.2.1 out.2.2.2.2.2.2) below args s) (F0 m 62 ls []) := by
  have hx := C.1
  have hb := C.2.1
  intro n
  induction n with
  | zero => intro v4 s0_0 s0_1 s0_2 s0_3 s0_4 s0_5 hf; exact nomatch (show (none : Option (Bool × zWR)) = some out from hf)
  | succ n ih =>
    intro v4 s0_0 s0_1 s0_2 s0_3 s0_4 s0_5 hf H locs ls hW hl
    rw [lp_X8_fillFrom_3_62] at hf
    refine lv_iload hx hb dX8_fillFrom_62 (lv_at hl 4 rfl) ?_
    refine lv_bipush (v := 6) hx hb dX8_fillFrom_64 (by decide) ?_
    refine lv_icmp_ge (tgt := 132) hx hb dX8_fillFrom_66 (by decide) (fun c6 => ?_) (fun c6 => ?_)
    · have hf := ipos c6 hf
      exact hK v4 s0_0 s0_1 s0_2 s0_3 s0_4 s0_5 hf _ _ _ hW (lv_sub hl [] rfl)
    · have hf := ineg c6 hf
      refine lv_aload_n hx hb dX8_fillFrom_69 rfl (lv_at hl 3 rfl) ?_
      refine lv_aload_n hx hb dX8_fillFrom_70 rfl (lv_at hl 2 rfl) ?_
      obtain ⟨u7, eu7, hf⟩ := bnd hf
      refine zk_callV (As := [.ref (q 8)]) (rest := []) (W1 := wX8 G q s0_0 s0_1 (va_up s0_2 4 u7) s0_3 s0_4 s0_5) C hW hl mvX8_60 (c_X6_copy l G (fun k => q (k + 9)) (fun k => q (k + 8)) (s0_2 4) (s0_2 3) u7 eu7) ⟨(Nat.le_of_ble_eq_true rfl), (Nat.le_of_ble_eq_true rfl)⟩ ⟨rfl, rfl⟩ [9, 8] rfl rfl rfl rfl (Nat.le_of_ble_eq_true rfl) (Nat.le_of_ble_eq_true rfl) rfl dX8_fillFrom_71 ⟨Nat.zero_le _, Nat.zero_le _⟩ (fun H locs hW => ?_)
      refine lv_aload_n hx hb dX8_fillFrom_74 rfl (lv_at hl 3 rfl) ?_
      refine lv_iload hx hb dX8_fillFrom_75 (lv_at hl 4 rfl) ?_
      obtain ⟨u8, eu8, hf⟩ := bnd hf
      refine zk_callV (As := [.int v4]) (rest := []) (W1 := wX8 G q s0_0 s0_1 (va_up s0_2 4 u8) s0_3 s0_4 s0_5) C hW hl mvX8_64 (c_X6_hear l G (fun k => q (k + 9)) u7 v4 u8 eu8) ⟨(Nat.le_of_ble_eq_true rfl), (Nat.le_of_ble_eq_true rfl)⟩ ⟨rfl, rfl⟩ [9] rfl rfl rfl rfl (Nat.le_of_ble_eq_true rfl) (Nat.le_of_ble_eq_true rfl) rfl dX8_fillFrom_77 ⟨Nat.zero_le _, Nat.zero_le _⟩ (fun H locs hW => ?_)
      refine lv_aload_n hx hb dX8_fillFrom_80 rfl (lv_at hl 3 rfl) ?_
      refine zk_get C hW fgX8_67 9 rfl rfl dX8_fillFrom_81 ?_
      refine lv_if_ne (tgt := 126) hx hb dX8_fillFrom_84 (by decide) (fun c9 => ?_) (fun c9 => ?_)
      · have hf := ineg c9 hf
        refine lv_iinc (v := (v4 + 1)) (lv' := [(4, .int (v4 + 1)), (0, .ref (q 0)), (1, .int 3), (2, .ref (q 8)), (3, .ref (q 9))]) hx hb dX8_fillFrom_126 hl (k := 4) rfl rfl (by decide) rfl (fun ls hl => ?_)
        refine lv_goto (tgt := 62) hx hb dX8_fillFrom_129 (by decide) ?_
        exact ih (v4 + 1) s0_0 s0_1 (va_up s0_2 4 u8) s0_3 s0_4 s0_5 hf _ _ _ hW (lv_sub hl [1, 2, 3, 4, 0] rfl)
      · have hf := ipos c9 hf
        refine lv_aload_n hx hb dX8_fillFrom_87 rfl (lv_at hl 0 rfl) ?_
        refine lv_aload_n hx hb dX8_fillFrom_88 rfl (lv_at hl 3 rfl) ?_
        refine zk_get C hW fgX8_71 9 rfl rfl dX8_fillFrom_89 ?_
        refine lv_iload_n hx hb dX8_fillFrom_92 rfl (lv_at hl 1 rfl) ?_
        refine lv_iconst (v := 1) hx hb dX8_fillFrom_93 (by decide) ?_
        refine lv_iadd hx hb dX8_fillFrom_94 ?_
        refine lv_topi (fun z10 ez10 => ?_)
        obtain rfl : z10 = 4 := ez10.trans (by decide)
        obtain ⟨u11, eu11, hf⟩ := bnd hf
        refine zk_callBI (As := [.int u8.2.1, .int 4]) (rest := []) (W1 := wX8 G q s0_0 s0_1 (va_up s0_2 4 u8) s0_3 s0_4 s0_5) C hW hl mvX8_74 (c_X8_canReachTop l G q (s0_0, s0_1, (va_up s0_2 4 u8), s0_3, s0_4, s0_5) u8.2.1 4 u11 eu11) ⟨(Nat.le_of_ble_eq_true rfl), (Nat.le_of_ble_eq_true rfl)⟩ ⟨rfl, rfl⟩ ([]) ([]) zE1 rfl rfl (Nat.le_of_ble_eq_true rfl) zE1r dX8_fillFrom_95 ⟨Nat.zero_le _, Nat.zero_le _⟩ (fun H locs hW => ?_)
        refine lv_if_ne (tgt := 104) hx hb dX8_fillFrom_98 (by decide) (fun c12 => ?_) (fun c12 => ?_)
        · have hf := ineg c12 hf
          refine lv_aload_n hx hb dX8_fillFrom_104 rfl (lv_at hl 0 rfl) ?_
          refine zk_get C hW fgX8_12 0 rfl rfl dX8_fillFrom_105 ?_
          refine lv_iload_n hx hb dX8_fillFrom_108 rfl (lv_at hl 1 rfl) ?_
          refine lv_iload hx hb dX8_fillFrom_109 (lv_at hl 4 rfl) ?_
          obtain ⟨u13, eu13, hf⟩ := bnd hf
          refine zk_callV (As := [.int 3, .int v4]) (rest := []) (W1 := wX8 G q u13 s0_1 (va_up s0_2 4 u8) s0_3 s0_4 s0_5) C hW hl mvX8_78 (c_X3_put l G (fun k => q (k + 1)) s0_0 3 v4 u13 eu13) ⟨(Nat.le_of_ble_eq_true rfl), (Nat.le_of_ble_eq_true rfl)⟩ ⟨rfl, rfl⟩ [1, 2] rfl rfl rfl rfl (Nat.le_of_ble_eq_true rfl) (Nat.le_of_ble_eq_true rfl) rfl dX8_fillFrom_111 ⟨Nat.zero_le _, Nat.zero_le _⟩ (fun H locs hW => ?_)
          refine lv_aload_n hx hb dX8_fillFrom_114 rfl (lv_at hl 0 rfl) ?_
          refine lv_iload_n hx hb dX8_fillFrom_115 rfl (lv_at hl 1 rfl) ?_
          refine lv_iconst (v := 1) hx hb dX8_fillFrom_116 (by decide) ?_
          refine lv_iadd hx hb dX8_fillFrom_117 ?_
          refine lv_topi (fun z14 ez14 => ?_)
          obtain rfl : z14 = 4 := ez14.trans (by decide)
          obtain ⟨u15, eu15, hf⟩ := bnd hf
          refine zk_callSI (As := [.ref (q 0), .int 4]) (rest := []) (W1 := wX8 G q u15.2.1 u15.2.2.1 u15.2.2.2.1 u15.2.2.2.2.1 u15.2.2.2.2.2.1 u15.2.2.2.2.2.2) C hW hl msX8_49 (c_X8_fillFrom_4 l G q (u13, s0_1, (va_up s0_2 4 u8), s0_3, s0_4, s0_5) u15 eu15) ⟨(Nat.le_of_ble_eq_true rfl), (Nat.le_of_ble_eq_true rfl)⟩ ⟨rfl, rfl⟩ [0, 1, 2, 3, 4, 5, 6, 7, 8, 9, 10] rfl rfl rfl (Nat.le_of_ble_eq_true rfl) (Nat.le_of_ble_eq_true rfl) rfl dX8_fillFrom_118 ⟨Nat.zero_le _, Nat.zero_le _⟩ (fun H locs hW => ?_)
          refine lv_if_eq (tgt := 126) hx hb dX8_fillFrom_121 (by decide) (fun c16 => ?_) (fun c16 => ?_)
          · have hf := ipos c16 hf
            refine lv_iinc (v := (v4 + 1)) (lv' := [(4, .int (v4 + 1)), (0, .ref (q 0)), (1, .int 3), (2, .ref (q 8)), (3, .ref (q 9))]) hx hb dX8_fillFrom_126 hl (k := 4) rfl rfl (by decide) rfl (fun ls hl => ?_)
            refine lv_goto (tgt := 62) hx hb dX8_fillFrom_129 (by decide) ?_
            exact ih (v4 + 1) u15.2.1 u15.2.2.1 u15.2.2.2.1 u15.2.2.2.2.1 u15.2.2.2.2.2.1 u15.2.2.2.2.2.2 hf _ _ _ hW (lv_sub hl [1, 2, 3, 4, 0] rfl)
          · have hf := ineg c16 hf
            refine lv_iconst (v := 1) hx hb dX8_fillFrom_124 (by decide) ?_
            obtain rfl := Option.some.inj hf
            exact zk_zret true C hW rfl dX8_fillFrom_125
        · have hf := ipos c12 hf
          refine lv_goto (tgt := 126) hx hb dX8_fillFrom_101 (by decide) ?_
          refine lv_iinc (v := (v4 + 1)) (lv' := [(4, .int (v4 + 1)), (0, .ref (q 0)), (1, .int 3), (2, .ref (q 8)), (3, .ref (q 9))]) hx hb dX8_fillFrom_126 hl (k := 4) rfl rfl (by decide) rfl (fun ls hl => ?_)
          refine lv_goto (tgt := 62) hx hb dX8_fillFrom_129 (by decide) ?_
          exact ih (v4 + 1) s0_0 s0_1 (va_up s0_2 4 u8) s0_3 s0_4 s0_5 hf _ _ _ hW (lv_sub hl [1, 2, 3, 4, 0] rfl)
set_option maxHeartbeats 4000000 in
set_option maxRecDepth 100000 in
theorem c_X8_fillFrom_3 (l : Launch) (G : GG) (q : Nat → Nat) (t0 : zWR) (out : Bool × zWR) (hf : f_X8_fillFrom_3 t0 = some out) : CtI G l yX8_fillFrom (Cond.code yX8_fillFrom cX8_fillFrom 5 (some .boolean) :: WL) (zR 6 136) [.ref (q 0), .int 3] (wX8 G q t0.1 t0.2.1 t0.2.2.1 t0.2.2.2.1 t0.2.2.2.2.1 t0.2.2.2.2.2) (bI out.1) (wX8 G q out.2.1 out.2.2.1 out.2.2.2.1 out.2.2.2.2.1 out.2.2.2.2.2.1 out.2.2.2.2.2.2) := by
  refine CtI.mk (cc := cX8_fillFrom) (nL := 5) (rt := (some .boolean)) (own := RX8) (nm := "fillFrom") (by decide) rfl rfl (Nat.le_of_ble_eq_true rfl) ?_
  intro p e s m below meth c A ls C hW hl
  have hx := C.1
  have hb := C.2.1
  have hl : lv_has ls 5 [(0, .ref (q 0)), (1, .int 3)] := hl
  unfold f_X8_fillFrom_3 at hf
  refine lv_iload_n hx hb dX8_fillFrom_0 rfl (lv_at hl 1 rfl) ?_
  refine lv_aload_n hx hb dX8_fillFrom_1 rfl (lv_at hl 0 rfl) ?_
  refine zk_get C hW fgX8_12 0 rfl rfl dX8_fillFrom_2 ?_
  refine zk_get C hW fgX8_53 1 rfl rfl dX8_fillFrom_5 ?_
  refine lv_icmp_lt (tgt := 16) hx hb dX8_fillFrom_8 (by decide) (fun c1 => ?_) (fun c1 => ?_)
  · have hf := ipos c1 hf
    refine lv_iload_n hx hb dX8_fillFrom_16 rfl (lv_at hl 1 rfl) ?_
    refine lv_if_lt (tgt := 31) hx hb dX8_fillFrom_17 (by decide) (fun c2 => ?_) (fun c2 => ?_)
    · exact absurd c2 (by decide)
    · refine lv_iload_n hx hb dX8_fillFrom_20 rfl (lv_at hl 1 rfl) ?_
      refine lv_iconst (v := 1) hx hb dX8_fillFrom_21 (by decide) ?_
      refine lv_iadd hx hb dX8_fillFrom_22 ?_
      refine lv_topi (fun z3 ez3 => ?_)
      obtain rfl : z3 = 4 := ez3.trans (by decide)
      refine lv_aload_n hx hb dX8_fillFrom_23 rfl (lv_at hl 0 rfl) ?_
      refine zk_get C hW fgX8_25 0 rfl rfl dX8_fillFrom_24 ?_
      refine zk_alenR C hW 4 rfl dX8_fillFrom_27 ?_
      refine lv_icmp_lt (tgt := 33) hx hb dX8_fillFrom_28 (by decide) (fun c4 => ?_) (fun c4 => ?_)
      · refine lv_aload_n hx hb dX8_fillFrom_33 rfl (lv_at hl 0 rfl) ?_
        refine zk_get C hW fgX8_25 0 rfl rfl dX8_fillFrom_34 ?_
        refine lv_iload_n hx hb dX8_fillFrom_37 rfl (lv_at hl 1 rfl) ?_
        refine zk_aald (b := (q 8)) C hW 4 (by decide) rfl rfl dX8_fillFrom_38 ?_
        refine lv_astore_n (lv' := [(2, .ref (q 8)), (0, .ref (q 0)), (1, .int 3)]) hx hb dX8_fillFrom_39 rfl hl (by decide) rfl (fun ls hl => ?_)
        refine lv_aload_n hx hb dX8_fillFrom_40 rfl (lv_at hl 1 rfl) ?_
        refine zk_get C hW fgX8_25 0 rfl rfl dX8_fillFrom_41 ?_
        refine lv_iload_n hx hb dX8_fillFrom_44 rfl (lv_at hl 2 rfl) ?_
        refine lv_iconst (v := 1) hx hb dX8_fillFrom_45 (by decide) ?_
        refine lv_iadd hx hb dX8_fillFrom_46 ?_
        refine lv_topi (fun z5 ez5 => ?_)
        obtain rfl : z5 = 4 := ez5.trans (by decide)
        refine zk_aald (b := (q 9)) C hW 4 (by decide) rfl rfl dX8_fillFrom_47 ?_
        refine lv_astore_n (lv' := [(3, .ref (q 9)), (2, .ref (q 8)), (0, .ref (q 0)), (1, .int 3)]) hx hb dX8_fillFrom_48 rfl hl (by decide) rfl (fun ls hl => ?_)
        refine lv_aload_n hx hb dX8_fillFrom_49 rfl (lv_at hl 1 rfl) ?_
        refine lv_ifnull hx hb dX8_fillFrom_50 ?_
        refine lv_aload_n hx hb dX8_fillFrom_53 rfl (lv_at hl 0 rfl) ?_
        refine lv_ifnonnull (tgt := 59) hx hb dX8_fillFrom_54 (by decide) ?_
        refine lv_iconst (v := 0) hx hb dX8_fillFrom_59 (by decide) ?_
        refine lv_istore (lv' := [(4, .int 0), (3, .ref (q 9)), (2, .ref (q 8)), (0, .ref (q 0)), (1, .int 3)]) hx hb dX8_fillFrom_60 hl (by decide) rfl (fun ls hl => ?_)
        refine w_X8_fillFrom_3_62 l G q  out C (fun w17_v4 w17_s0_0 w17_s0_1 w17_s0_2 w17_s0_3 w17_s0_4 w17_s0_5 hf H locs ls hW hl => ?_) FU 0 t0.1 t0.2.1 t0.2.2.1 t0.2.2.2.1 t0.2.2.2.2.1 t0.2.2.2.2.2 hf _ _ _ hW (lv_sub hl [3, 4, 2, 1, 0] rfl)
        refine lv_iconst (v := 0) hx hb dX8_fillFrom_132 (by decide) ?_
        obtain rfl := Option.some.inj hf
        exact zk_zret false C hW rfl dX8_fillFrom_133
      · exact absurd c4 (by decide)
  · have hf := ineg c1 hf
    refine lv_aload_n hx hb dX8_fillFrom_11 rfl (lv_at hl 0 rfl) ?_
    obtain ⟨u18, eu18, hf⟩ := bnd hf
    refine zk_callBI (As := []) (rest := []) (W1 := wX8 G q u18.2.1 u18.2.2.1 u18.2.2.2.1 u18.2.2.2.2.1 u18.2.2.2.2.2.1 u18.2.2.2.2.2.2) C hW hl mvX8_56 (c_X8_fits l G q t0 u18 eu18) ⟨(Nat.le_of_ble_eq_true rfl), (Nat.le_of_ble_eq_true rfl)⟩ ⟨rfl, rfl⟩ ([]) ([]) zE1 rfl rfl (Nat.le_of_ble_eq_true rfl) zE1r dX8_fillFrom_12 ⟨Nat.zero_le _, Nat.zero_le _⟩ (fun H locs hW => ?_)
    obtain rfl := Option.some.inj hf
    exact zk_zret u18.1 C hW rfl dX8_fillFrom_15

set_option maxHeartbeats 4000000 in
set_option maxRecDepth 100000 in
theorem w_X8_fillFrom_2_62 {p : Program} {e : Env} {s : State} {m : MethodId} {args : Array Value} {below : List Frame} {meth : Method} {c : Code} {A : Nat → Prop} (l : Launch) (G : GG) (q : Nat → Nat) (out : Bool × zWR) (C : CX p s m args meth c cX8_fillFrom 5 RX8 (some .boolean) "fillFrom") {K : Int32 → zLT → zRD → (Nat → zRD) → Int32 → Int32 → Int32 → Option (Bool × zWR)} (hK : ∀ (v4 : Int32) (s0_0 : zLT) (s0_1 : zRD) (s0_2 : (Nat → zRD)) (s0_3 : Int32) (s0_4 : Int32) (s0_5 : Int32) , K v4 s0_0 s0_1 s0_2 s0_3 s0_4 s0_5 = some out → ∀ (H : Heap) (locs : List Loc) (ls : Array Slot), KW G A s (wX8 G q s0_0 s0_1 s0_2 s0_3 s0_4 s0_5) H locs → lv_has ls 5 [] → W p l e (zR 7 160) s m args below meth c H locs 0 0 (QI G A (bI out.1) (wX8 G q out.2.1 out.2.2.1 out.2.2.2.1 out.2.2.2.2.1 out.2.2.2.2.2.1 out.2.2.2.2.2.2) below args s) (F0 m 132 ls [])) :
    ∀ (n : Nat) (v4 : Int32) (s0_0 : zLT) (s0_1 : zRD) (s0_2 : (Nat → zRD)) (s0_3 : Int32) (s0_4 : Int32) (s0_5 : Int32) , lp_X8_fillFrom_2_62  K n v4 s0_0 s0_1 s0_2 s0_3 s0_4 s0_5 = some out → ∀ (H : Heap) (locs : List Loc) (ls : Array Slot), KW G A s (wX8 G q s0_0 s0_1 s0_2 s0_3 s0_4 s0_5) H locs → lv_has ls 5 [(0, .ref (q 0)), (1, .int 2), (2, .ref (q 7)), (3, .ref (q 8)), (4, .int v4)] → W p l e (zR 7 160) s m args below meth c H locs 0 0 (QI G A (bI out.1) (wX8 G q out.2.1 out.2.2.1 out.2.2.2.1 out.2.2.2.2.1 out.2.2.2.2.2.1 out.2.2.2.2.2.2) below args s) (F0 m 62 ls []) := by
  have hx := C.1
  have hb := C.2.1
  intro n
  induction n with
  | zero => intro v4 s0_0 s0_1 s0_2 s0_3 s0_4 s0_5 hf; exact nomatch (show (none : Option (Bool × zWR)) = some out from hf)
  | succ n ih =>
    intro v4 s0_0 s0_1 s0_2 s0_3 s0_4 s0_5 hf H locs ls hW hl
    rw [lp_X8_fillFrom_2_62] at hf
    refine lv_iload hx hb dX8_fillFrom_62 (lv_at hl 4 rfl) ?_
    refine lv_bipush (v := 6) hx hb dX8_fillFrom_64 (by decide) ?_
    refine lv_icmp_ge (tgt := 132) hx hb dX8_fillFrom_66 (by decide) (fun c6 => ?_) (fun c6 => ?_)
    · have hf := ipos c6 hf
      exact hK v4 s0_0 s0_1 s0_2 s0_3 s0_4 s0_5 hf _ _ _ hW (lv_sub hl [] rfl)
    · have hf := ineg c6 hf
      refine lv_aload_n hx hb dX8_fillFrom_69 rfl (lv_at hl 3 rfl) ?_
      refine lv_aload_n hx hb dX8_fillFrom_70 rfl (lv_at hl 2 rfl) ?_
      obtain ⟨u7, eu7, hf⟩ := bnd hf
      refine zk_callV (As := [.ref (q 7)]) (rest := []) (W1 := wX8 G q s0_0 s0_1 (va_up s0_2 3 u7) s0_3 s0_4 s0_5) C hW hl mvX8_60 (c_X6_copy l G (fun k => q (k + 8)) (fun k => q (k + 7)) (s0_2 3) (s0_2 2) u7 eu7) ⟨(Nat.le_of_ble_eq_true rfl), (Nat.le_of_ble_eq_true rfl)⟩ ⟨rfl, rfl⟩ [8, 7] rfl rfl rfl rfl (Nat.le_of_ble_eq_true rfl) (Nat.le_of_ble_eq_true rfl) rfl dX8_fillFrom_71 ⟨Nat.zero_le _, Nat.zero_le _⟩ (fun H locs hW => ?_)
      refine lv_aload_n hx hb dX8_fillFrom_74 rfl (lv_at hl 3 rfl) ?_
      refine lv_iload hx hb dX8_fillFrom_75 (lv_at hl 4 rfl) ?_
      obtain ⟨u8, eu8, hf⟩ := bnd hf
      refine zk_callV (As := [.int v4]) (rest := []) (W1 := wX8 G q s0_0 s0_1 (va_up s0_2 3 u8) s0_3 s0_4 s0_5) C hW hl mvX8_64 (c_X6_hear l G (fun k => q (k + 8)) u7 v4 u8 eu8) ⟨(Nat.le_of_ble_eq_true rfl), (Nat.le_of_ble_eq_true rfl)⟩ ⟨rfl, rfl⟩ [8] rfl rfl rfl rfl (Nat.le_of_ble_eq_true rfl) (Nat.le_of_ble_eq_true rfl) rfl dX8_fillFrom_77 ⟨Nat.zero_le _, Nat.zero_le _⟩ (fun H locs hW => ?_)
      refine lv_aload_n hx hb dX8_fillFrom_80 rfl (lv_at hl 3 rfl) ?_
      refine zk_get C hW fgX8_67 8 rfl rfl dX8_fillFrom_81 ?_
      refine lv_if_ne (tgt := 126) hx hb dX8_fillFrom_84 (by decide) (fun c9 => ?_) (fun c9 => ?_)
      · have hf := ineg c9 hf
        refine lv_iinc (v := (v4 + 1)) (lv' := [(4, .int (v4 + 1)), (0, .ref (q 0)), (1, .int 2), (2, .ref (q 7)), (3, .ref (q 8))]) hx hb dX8_fillFrom_126 hl (k := 4) rfl rfl (by decide) rfl (fun ls hl => ?_)
        refine lv_goto (tgt := 62) hx hb dX8_fillFrom_129 (by decide) ?_
        exact ih (v4 + 1) s0_0 s0_1 (va_up s0_2 3 u8) s0_3 s0_4 s0_5 hf _ _ _ hW (lv_sub hl [1, 2, 3, 4, 0] rfl)
      · have hf := ipos c9 hf
        refine lv_aload_n hx hb dX8_fillFrom_87 rfl (lv_at hl 0 rfl) ?_
        refine lv_aload_n hx hb dX8_fillFrom_88 rfl (lv_at hl 3 rfl) ?_
        refine zk_get C hW fgX8_71 8 rfl rfl dX8_fillFrom_89 ?_
        refine lv_iload_n hx hb dX8_fillFrom_92 rfl (lv_at hl 1 rfl) ?_
        refine lv_iconst (v := 1) hx hb dX8_fillFrom_93 (by decide) ?_
        refine lv_iadd hx hb dX8_fillFrom_94 ?_
        refine lv_topi (fun z10 ez10 => ?_)
        obtain rfl : z10 = 3 := ez10.trans (by decide)
        obtain ⟨u11, eu11, hf⟩ := bnd hf
        refine zk_callBI (As := [.int u8.2.1, .int 3]) (rest := []) (W1 := wX8 G q s0_0 s0_1 (va_up s0_2 3 u8) s0_3 s0_4 s0_5) C hW hl mvX8_74 (c_X8_canReachTop l G q (s0_0, s0_1, (va_up s0_2 3 u8), s0_3, s0_4, s0_5) u8.2.1 3 u11 eu11) ⟨(Nat.le_of_ble_eq_true rfl), (Nat.le_of_ble_eq_true rfl)⟩ ⟨rfl, rfl⟩ ([]) ([]) zE1 rfl rfl (Nat.le_of_ble_eq_true rfl) zE1r dX8_fillFrom_95 ⟨Nat.zero_le _, Nat.zero_le _⟩ (fun H locs hW => ?_)
        refine lv_if_ne (tgt := 104) hx hb dX8_fillFrom_98 (by decide) (fun c12 => ?_) (fun c12 => ?_)
        · have hf := ineg c12 hf
          refine lv_aload_n hx hb dX8_fillFrom_104 rfl (lv_at hl 0 rfl) ?_
          refine zk_get C hW fgX8_12 0 rfl rfl dX8_fillFrom_105 ?_
          refine lv_iload_n hx hb dX8_fillFrom_108 rfl (lv_at hl 1 rfl) ?_
          refine lv_iload hx hb dX8_fillFrom_109 (lv_at hl 4 rfl) ?_
          obtain ⟨u13, eu13, hf⟩ := bnd hf
          refine zk_callV (As := [.int 2, .int v4]) (rest := []) (W1 := wX8 G q u13 s0_1 (va_up s0_2 3 u8) s0_3 s0_4 s0_5) C hW hl mvX8_78 (c_X3_put l G (fun k => q (k + 1)) s0_0 2 v4 u13 eu13) ⟨(Nat.le_of_ble_eq_true rfl), (Nat.le_of_ble_eq_true rfl)⟩ ⟨rfl, rfl⟩ [1, 2] rfl rfl rfl rfl (Nat.le_of_ble_eq_true rfl) (Nat.le_of_ble_eq_true rfl) rfl dX8_fillFrom_111 ⟨Nat.zero_le _, Nat.zero_le _⟩ (fun H locs hW => ?_)
          refine lv_aload_n hx hb dX8_fillFrom_114 rfl (lv_at hl 0 rfl) ?_
          refine lv_iload_n hx hb dX8_fillFrom_115 rfl (lv_at hl 1 rfl) ?_
          refine lv_iconst (v := 1) hx hb dX8_fillFrom_116 (by decide) ?_
          refine lv_iadd hx hb dX8_fillFrom_117 ?_
          refine lv_topi (fun z14 ez14 => ?_)
          obtain rfl : z14 = 3 := ez14.trans (by decide)
          obtain ⟨u15, eu15, hf⟩ := bnd hf
          refine zk_callSI (As := [.ref (q 0), .int 3]) (rest := []) (W1 := wX8 G q u15.2.1 u15.2.2.1 u15.2.2.2.1 u15.2.2.2.2.1 u15.2.2.2.2.2.1 u15.2.2.2.2.2.2) C hW hl msX8_49 (c_X8_fillFrom_3 l G q (u13, s0_1, (va_up s0_2 3 u8), s0_3, s0_4, s0_5) u15 eu15) ⟨(Nat.le_of_ble_eq_true rfl), (Nat.le_of_ble_eq_true rfl)⟩ ⟨rfl, rfl⟩ [0, 1, 2, 3, 4, 5, 6, 7, 8, 9, 10] rfl rfl rfl (Nat.le_of_ble_eq_true rfl) (Nat.le_of_ble_eq_true rfl) rfl dX8_fillFrom_118 ⟨Nat.zero_le _, Nat.zero_le _⟩ (fun H locs hW => ?_)
          refine lv_if_eq (tgt := 126) hx hb dX8_fillFrom_121 (by decide) (fun c16 => ?_) (fun c16 => ?_)
          · have hf := ipos c16 hf
            refine lv_iinc (v := (v4 + 1)) (lv' := [(4, .int (v4 + 1)), (0, .ref (q 0)), (1, .int 2), (2, .ref (q 7)), (3, .ref (q 8))]) hx hb dX8_fillFrom_126 hl (k := 4) rfl rfl (by decide) rfl (fun ls hl => ?_)
            refine lv_goto (tgt := 62) hx hb dX8_fillFrom_129 (by decide) ?_
            exact ih (v4 + 1) u15.2.1 u15.2.2.1 u15.2.2.2.1 u15.2.2.2.2.1 u15.2.2.2.2.2.1 u15.2.2.2.2.2.2 hf _ _ _ hW (lv_sub hl [1, 2, 3, 4, 0] rfl)
          · have hf := ineg c16 hf
            refine lv_iconst (v := 1) hx hb dX8_fillFrom_124 (by decide) ?_
            obtain rfl := Option.some.inj hf
            exact zk_zret true C hW rfl dX8_fillFrom_125
        · have hf := ipos c12 hf
          refine lv_goto (tgt := 126) hx hb dX8_fillFrom_101 (by decide) ?_
          refine lv_iinc (v := (v4 + 1)) (lv' := [(4, .int (v4 + 1)), (0, .ref (q 0)), (1, .int 2), (2, .ref (q 7)), (3, .ref (q 8))]) hx hb dX8_fillFrom_126 hl (k := 4) rfl rfl (by decide) rfl (fun ls hl => ?_)
          refine lv_goto (tgt := 62) hx hb dX8_fillFrom_129 (by decide) ?_
          exact ih (v4 + 1) s0_0 s0_1 (va_up s0_2 3 u8) s0_3 s0_4 s0_5 hf _ _ _ hW (lv_sub hl [1, 2, 3, 4, 0] rfl)
set_option maxHeartbeats 4000000 in
set_option maxRecDepth 100000 in
theorem c_X8_fillFrom_2 (l : Launch) (G : GG) (q : Nat → Nat) (t0 : zWR) (out : Bool × zWR) (hf : f_X8_fillFrom_2 t0 = some out) : CtI G l yX8_fillFrom (Cond.code yX8_fillFrom cX8_fillFrom 5 (some .boolean) :: WL) (zR 7 160) [.ref (q 0), .int 2] (wX8 G q t0.1 t0.2.1 t0.2.2.1 t0.2.2.2.1 t0.2.2.2.2.1 t0.2.2.2.2.2) (bI out.1) (wX8 G q out.2.1 out.2.2.1 out.2.2.2.1 out.2.2.2.2.1 out.2.2.2.2.2.1 out.2.2.2.2.2.2) := by
  refine CtI.mk (cc := cX8_fillFrom) (nL := 5) (rt := (some .boolean)) (own := RX8) (nm := "fillFrom") (by decide) rfl rfl (Nat.le_of_ble_eq_true rfl) ?_
  intro p e s m below meth c A ls C hW hl
  have hx := C.1
  have hb := C.2.1
  have hl : lv_has ls 5 [(0, .ref (q 0)), (1, .int 2)] := hl
  unfold f_X8_fillFrom_2 at hf
  refine lv_iload_n hx hb dX8_fillFrom_0 rfl (lv_at hl 1 rfl) ?_
  refine lv_aload_n hx hb dX8_fillFrom_1 rfl (lv_at hl 0 rfl) ?_
  refine zk_get C hW fgX8_12 0 rfl rfl dX8_fillFrom_2 ?_
  refine zk_get C hW fgX8_53 1 rfl rfl dX8_fillFrom_5 ?_
  refine lv_icmp_lt (tgt := 16) hx hb dX8_fillFrom_8 (by decide) (fun c1 => ?_) (fun c1 => ?_)
  · have hf := ipos c1 hf
    refine lv_iload_n hx hb dX8_fillFrom_16 rfl (lv_at hl 1 rfl) ?_
    refine lv_if_lt (tgt := 31) hx hb dX8_fillFrom_17 (by decide) (fun c2 => ?_) (fun c2 => ?_)
    · exact absurd c2 (by decide)
    · refine lv_iload_n hx hb dX8_fillFrom_20 rfl (lv_at hl 1 rfl) ?_
      refine lv_iconst (v := 1) hx hb dX8_fillFrom_21 (by decide) ?_
      refine lv_iadd hx hb dX8_fillFrom_22 ?_
      refine lv_topi (fun z3 ez3 => ?_)
      obtain rfl : z3 = 3 := ez3.trans (by decide)
      refine lv_aload_n hx hb dX8_fillFrom_23 rfl (lv_at hl 0 rfl) ?_
      refine zk_get C hW fgX8_25 0 rfl rfl dX8_fillFrom_24 ?_
      refine zk_alenR C hW 4 rfl dX8_fillFrom_27 ?_
      refine lv_icmp_lt (tgt := 33) hx hb dX8_fillFrom_28 (by decide) (fun c4 => ?_) (fun c4 => ?_)
      · refine lv_aload_n hx hb dX8_fillFrom_33 rfl (lv_at hl 0 rfl) ?_
        refine zk_get C hW fgX8_25 0 rfl rfl dX8_fillFrom_34 ?_
        refine lv_iload_n hx hb dX8_fillFrom_37 rfl (lv_at hl 1 rfl) ?_
        refine zk_aald (b := (q 7)) C hW 4 (by decide) rfl rfl dX8_fillFrom_38 ?_
        refine lv_astore_n (lv' := [(2, .ref (q 7)), (0, .ref (q 0)), (1, .int 2)]) hx hb dX8_fillFrom_39 rfl hl (by decide) rfl (fun ls hl => ?_)
        refine lv_aload_n hx hb dX8_fillFrom_40 rfl (lv_at hl 1 rfl) ?_
        refine zk_get C hW fgX8_25 0 rfl rfl dX8_fillFrom_41 ?_
        refine lv_iload_n hx hb dX8_fillFrom_44 rfl (lv_at hl 2 rfl) ?_
        refine lv_iconst (v := 1) hx hb dX8_fillFrom_45 (by decide) ?_
        refine lv_iadd hx hb dX8_fillFrom_46 ?_
        refine lv_topi (fun z5 ez5 => ?_)
        obtain rfl : z5 = 3 := ez5.trans (by decide)
        refine zk_aald (b := (q 8)) C hW 4 (by decide) rfl rfl dX8_fillFrom_47 ?_
        refine lv_astore_n (lv' := [(3, .ref (q 8)), (2, .ref (q 7)), (0, .ref (q 0)), (1, .int 2)]) hx hb dX8_fillFrom_48 rfl hl (by decide) rfl (fun ls hl => ?_)
        refine lv_aload_n hx hb dX8_fillFrom_49 rfl (lv_at hl 1 rfl) ?_
        refine lv_ifnull hx hb dX8_fillFrom_50 ?_
        refine lv_aload_n hx hb dX8_fillFrom_53 rfl (lv_at hl 0 rfl) ?_
        refine lv_ifnonnull (tgt := 59) hx hb dX8_fillFrom_54 (by decide) ?_
        refine lv_iconst (v := 0) hx hb dX8_fillFrom_59 (by decide) ?_
        refine lv_istore (lv' := [(4, .int 0), (3, .ref (q 8)), (2, .ref (q 7)), (0, .ref (q 0)), (1, .int 2)]) hx hb dX8_fillFrom_60 hl (by decide) rfl (fun ls hl => ?_)
        refine w_X8_fillFrom_2_62 l G q  out C (fun w17_v4 w17_s0_0 w17_s0_1 w17_s0_2 w17_s0_3 w17_s0_4 w17_s0_5 hf H locs ls hW hl => ?_) FU 0 t0.1 t0.2.1 t0.2.2.1 t0.2.2.2.1 t0.2.2.2.2.1 t0.2.2.2.2.2 hf _ _ _ hW (lv_sub hl [3, 4, 2, 1, 0] rfl)
        refine lv_iconst (v := 0) hx hb dX8_fillFrom_132 (by decide) ?_
        obtain rfl := Option.some.inj hf
        exact zk_zret false C hW rfl dX8_fillFrom_133
      · exact absurd c4 (by decide)
  · have hf := ineg c1 hf
    refine lv_aload_n hx hb dX8_fillFrom_11 rfl (lv_at hl 0 rfl) ?_
    obtain ⟨u18, eu18, hf⟩ := bnd hf
    refine zk_callBI (As := []) (rest := []) (W1 := wX8 G q u18.2.1 u18.2.2.1 u18.2.2.2.1 u18.2.2.2.2.1 u18.2.2.2.2.2.1 u18.2.2.2.2.2.2) C hW hl mvX8_56 (c_X8_fits l G q t0 u18 eu18) ⟨(Nat.le_of_ble_eq_true rfl), (Nat.le_of_ble_eq_true rfl)⟩ ⟨rfl, rfl⟩ ([]) ([]) zE1 rfl rfl (Nat.le_of_ble_eq_true rfl) zE1r dX8_fillFrom_12 ⟨Nat.zero_le _, Nat.zero_le _⟩ (fun H locs hW => ?_)
    obtain rfl := Option.some.inj hf
    exact zk_zret u18.1 C hW rfl dX8_fillFrom_15

set_option maxHeartbeats 4000000 in
set_option maxRecDepth 100000 in
theorem w_X8_fillFrom_1_62 {p : Program} {e : Env} {s : State} {m : MethodId} {args : Array Value} {below : List Frame} {meth : Method} {c : Code} {A : Nat → Prop} (l : Launch) (G : GG) (q : Nat → Nat) (out : Bool × zWR) (C : CX p s m args meth c cX8_fillFrom 5 RX8 (some .boolean) "fillFrom") {K : Int32 → zLT → zRD → (Nat → zRD) → Int32 → Int32 → Int32 → Option (Bool × zWR)} (hK : ∀ (v4 : Int32) (s0_0 : zLT) (s0_1 : zRD) (s0_2 : (Nat → zRD)) (s0_3 : Int32) (s0_4 : Int32) (s0_5 : Int32) , K v4 s0_0 s0_1 s0_2 s0_3 s0_4 s0_5 = some out → ∀ (H : Heap) (locs : List Loc) (ls : Array Slot), KW G A s (wX8 G q s0_0 s0_1 s0_2 s0_3 s0_4 s0_5) H locs → lv_has ls 5 [] → W p l e (zR 8 184) s m args below meth c H locs 0 0 (QI G A (bI out.1) (wX8 G q out.2.1 out.2.2.1 out.2.2.2.1 out.2.2.2.2.1 out.2.2.2.2.2.1 out.2.2.2.2.2.2) below args s) (F0 m 132 ls [])) :
    ∀ (n : Nat) (v4 : Int32) (s0_0 : zLT) (s0_1 : zRD) (s0_2 : (Nat → zRD)) (s0_3 : Int32) (s0_4 : Int32) (s0_5 : Int32) , lp_X8_fillFrom_1_62  K n v4 s0_0 s0_1 s0_2 s0_3 s0_4 s0_5 = some out → ∀ (H : Heap) (locs : List Loc) (ls : Array Slot), KW G A s (wX8 G q s0_0 s0_1 s0_2 s0_3 s0_4 s0_5) H locs → lv_has ls 5 [(0, .ref (q 0)), (1, .int 1), (2, .ref (q 6)), (3, .ref (q 7)), (4, .int v4)] → W p l e (zR 8 184) s m args below meth c H locs 0 0 (QI G A (bI out.1) (wX8 G q out.2.1 out.2.2.1 out.2.2.2.1 out.2.2.2.2.1 out.2.2.2.2.2.1 out.2.2.2.2.2.2) below args s) (F0 m 62 ls []) := by
  have hx := C.1
  have hb := C.2.1
  intro n
  induction n with
  | zero => intro v4 s0_0 s0_1 s0_2 s0_3 s0_4 s0_5 hf; exact nomatch (show (none : Option (Bool × zWR)) = some out from hf)
  | succ n ih =>
    intro v4 s0_0 s0_1 s0_2 s0_3 s0_4 s0_5 hf H locs ls hW hl
    rw [lp_X8_fillFrom_1_62] at hf
    refine lv_iload hx hb dX8_fillFrom_62 (lv_at hl 4 rfl) ?_
    refine lv_bipush (v := 6) hx hb dX8_fillFrom_64 (by decide) ?_
    refine lv_icmp_ge (tgt := 132) hx hb dX8_fillFrom_66 (by decide) (fun c6 => ?_) (fun c6 => ?_)
    · have hf := ipos c6 hf
      exact hK v4 s0_0 s0_1 s0_2 s0_3 s0_4 s0_5 hf _ _ _ hW (lv_sub hl [] rfl)
    · have hf := ineg c6 hf
      refine lv_aload_n hx hb dX8_fillFrom_69 rfl (lv_at hl 3 rfl) ?_
      refine lv_aload_n hx hb dX8_fillFrom_70 rfl (lv_at hl 2 rfl) ?_
      obtain ⟨u7, eu7, hf⟩ := bnd hf
      refine zk_callV (As := [.ref (q 6)]) (rest := []) (W1 := wX8 G q s0_0 s0_1 (va_up s0_2 2 u7) s0_3 s0_4 s0_5) C hW hl mvX8_60 (c_X6_copy l G (fun k => q (k + 7)) (fun k => q (k + 6)) (s0_2 2) (s0_2 1) u7 eu7) ⟨(Nat.le_of_ble_eq_true rfl), (Nat.le_of_ble_eq_true rfl)⟩ ⟨rfl, rfl⟩ [7, 6] rfl rfl rfl rfl (Nat.le_of_ble_eq_true rfl) (Nat.le_of_ble_eq_true rfl) rfl dX8_fillFrom_71 ⟨Nat.zero_le _, Nat.zero_le _⟩ (fun H locs hW => ?_)
      refine lv_aload_n hx hb dX8_fillFrom_74 rfl (lv_at hl 3 rfl) ?_
      refine lv_iload hx hb dX8_fillFrom_75 (lv_at hl 4 rfl) ?_
      obtain ⟨u8, eu8, hf⟩ := bnd hf
      refine zk_callV (As := [.int v4]) (rest := []) (W1 := wX8 G q s0_0 s0_1 (va_up s0_2 2 u8) s0_3 s0_4 s0_5) C hW hl mvX8_64 (c_X6_hear l G (fun k => q (k + 7)) u7 v4 u8 eu8) ⟨(Nat.le_of_ble_eq_true rfl), (Nat.le_of_ble_eq_true rfl)⟩ ⟨rfl, rfl⟩ [7] rfl rfl rfl rfl (Nat.le_of_ble_eq_true rfl) (Nat.le_of_ble_eq_true rfl) rfl dX8_fillFrom_77 ⟨Nat.zero_le _, Nat.zero_le _⟩ (fun H locs hW => ?_)
      refine lv_aload_n hx hb dX8_fillFrom_80 rfl (lv_at hl 3 rfl) ?_
      refine zk_get C hW fgX8_67 7 rfl rfl dX8_fillFrom_81 ?_
      refine lv_if_ne (tgt := 126) hx hb dX8_fillFrom_84 (by decide) (fun c9 => ?_) (fun c9 => ?_)
      · have hf := ineg c9 hf
        refine lv_iinc (v := (v4 + 1)) (lv' := [(4, .int (v4 + 1)), (0, .ref (q 0)), (1, .int 1), (2, .ref (q 6)), (3, .ref (q 7))]) hx hb dX8_fillFrom_126 hl (k := 4) rfl rfl (by decide) rfl (fun ls hl => ?_)
        refine lv_goto (tgt := 62) hx hb dX8_fillFrom_129 (by decide) ?_
        exact ih (v4 + 1) s0_0 s0_1 (va_up s0_2 2 u8) s0_3 s0_4 s0_5 hf _ _ _ hW (lv_sub hl [1, 2, 3, 4, 0] rfl)
      · have hf := ipos c9 hf
        refine lv_aload_n hx hb dX8_fillFrom_87 rfl (lv_at hl 0 rfl) ?_
        refine lv_aload_n hx hb dX8_fillFrom_88 rfl (lv_at hl 3 rfl) ?_
        refine zk_get C hW fgX8_71 7 rfl rfl dX8_fillFrom_89 ?_
        refine lv_iload_n hx hb dX8_fillFrom_92 rfl (lv_at hl 1 rfl) ?_
        refine lv_iconst (v := 1) hx hb dX8_fillFrom_93 (by decide) ?_
        refine lv_iadd hx hb dX8_fillFrom_94 ?_
        refine lv_topi (fun z10 ez10 => ?_)
        obtain rfl : z10 = 2 := ez10.trans (by decide)
        obtain ⟨u11, eu11, hf⟩ := bnd hf
        refine zk_callBI (As := [.int u8.2.1, .int 2]) (rest := []) (W1 := wX8 G q s0_0 s0_1 (va_up s0_2 2 u8) s0_3 s0_4 s0_5) C hW hl mvX8_74 (c_X8_canReachTop l G q (s0_0, s0_1, (va_up s0_2 2 u8), s0_3, s0_4, s0_5) u8.2.1 2 u11 eu11) ⟨(Nat.le_of_ble_eq_true rfl), (Nat.le_of_ble_eq_true rfl)⟩ ⟨rfl, rfl⟩ ([]) ([]) zE1 rfl rfl (Nat.le_of_ble_eq_true rfl) zE1r dX8_fillFrom_95 ⟨Nat.zero_le _, Nat.zero_le _⟩ (fun H locs hW => ?_)
        refine lv_if_ne (tgt := 104) hx hb dX8_fillFrom_98 (by decide) (fun c12 => ?_) (fun c12 => ?_)
        · have hf := ineg c12 hf
          refine lv_aload_n hx hb dX8_fillFrom_104 rfl (lv_at hl 0 rfl) ?_
          refine zk_get C hW fgX8_12 0 rfl rfl dX8_fillFrom_105 ?_
          refine lv_iload_n hx hb dX8_fillFrom_108 rfl (lv_at hl 1 rfl) ?_
          refine lv_iload hx hb dX8_fillFrom_109 (lv_at hl 4 rfl) ?_
          obtain ⟨u13, eu13, hf⟩ := bnd hf
          refine zk_callV (As := [.int 1, .int v4]) (rest := []) (W1 := wX8 G q u13 s0_1 (va_up s0_2 2 u8) s0_3 s0_4 s0_5) C hW hl mvX8_78 (c_X3_put l G (fun k => q (k + 1)) s0_0 1 v4 u13 eu13) ⟨(Nat.le_of_ble_eq_true rfl), (Nat.le_of_ble_eq_true rfl)⟩ ⟨rfl, rfl⟩ [1, 2] rfl rfl rfl rfl (Nat.le_of_ble_eq_true rfl) (Nat.le_of_ble_eq_true rfl) rfl dX8_fillFrom_111 ⟨Nat.zero_le _, Nat.zero_le _⟩ (fun H locs hW => ?_)
          refine lv_aload_n hx hb dX8_fillFrom_114 rfl (lv_at hl 0 rfl) ?_
          refine lv_iload_n hx hb dX8_fillFrom_115 rfl (lv_at hl 1 rfl) ?_
          refine lv_iconst (v := 1) hx hb dX8_fillFrom_116 (by decide) ?_
          refine lv_iadd hx hb dX8_fillFrom_117 ?_
          refine lv_topi (fun z14 ez14 => ?_)
          obtain rfl : z14 = 2 := ez14.trans (by decide)
          obtain ⟨u15, eu15, hf⟩ := bnd hf
          refine zk_callSI (As := [.ref (q 0), .int 2]) (rest := []) (W1 := wX8 G q u15.2.1 u15.2.2.1 u15.2.2.2.1 u15.2.2.2.2.1 u15.2.2.2.2.2.1 u15.2.2.2.2.2.2) C hW hl msX8_49 (c_X8_fillFrom_2 l G q (u13, s0_1, (va_up s0_2 2 u8), s0_3, s0_4, s0_5) u15 eu15) ⟨(Nat.le_of_ble_eq_true rfl), (Nat.le_of_ble_eq_true rfl)⟩ ⟨rfl, rfl⟩ [0, 1, 2, 3, 4, 5, 6, 7, 8, 9, 10] rfl rfl rfl (Nat.le_of_ble_eq_true rfl) (Nat.le_of_ble_eq_true rfl) rfl dX8_fillFrom_118 ⟨Nat.zero_le _, Nat.zero_le _⟩ (fun H locs hW => ?_)
          refine lv_if_eq (tgt := 126) hx hb dX8_fillFrom_121 (by decide) (fun c16 => ?_) (fun c16 => ?_)
          · have hf := ipos c16 hf
            refine lv_iinc (v := (v4 + 1)) (lv' := [(4, .int (v4 + 1)), (0, .ref (q 0)), (1, .int 1), (2, .ref (q 6)), (3, .ref (q 7))]) hx hb dX8_fillFrom_126 hl (k := 4) rfl rfl (by decide) rfl (fun ls hl => ?_)
            refine lv_goto (tgt := 62) hx hb dX8_fillFrom_129 (by decide) ?_
            exact ih (v4 + 1) u15.2.1 u15.2.2.1 u15.2.2.2.1 u15.2.2.2.2.1 u15.2.2.2.2.2.1 u15.2.2.2.2.2.2 hf _ _ _ hW (lv_sub hl [1, 2, 3, 4, 0] rfl)
          · have hf := ineg c16 hf
            refine lv_iconst (v := 1) hx hb dX8_fillFrom_124 (by decide) ?_
            obtain rfl := Option.some.inj hf
            exact zk_zret true C hW rfl dX8_fillFrom_125
        · have hf := ipos c12 hf
          refine lv_goto (tgt := 126) hx hb dX8_fillFrom_101 (by decide) ?_
          refine lv_iinc (v := (v4 + 1)) (lv' := [(4, .int (v4 + 1)), (0, .ref (q 0)), (1, .int 1), (2, .ref (q 6)), (3, .ref (q 7))]) hx hb dX8_fillFrom_126 hl (k := 4) rfl rfl (by decide) rfl (fun ls hl => ?_)
          refine lv_goto (tgt := 62) hx hb dX8_fillFrom_129 (by decide) ?_
          exact ih (v4 + 1) s0_0 s0_1 (va_up s0_2 2 u8) s0_3 s0_4 s0_5 hf _ _ _ hW (lv_sub hl [1, 2, 3, 4, 0] rfl)
set_option maxHeartbeats 4000000 in
set_option maxRecDepth 100000 in
theorem c_X8_fillFrom_1 (l : Launch) (G : GG) (q : Nat → Nat) (t0 : zWR) (out : Bool × zWR) (hf : f_X8_fillFrom_1 t0 = some out) : CtI G l yX8_fillFrom (Cond.code yX8_fillFrom cX8_fillFrom 5 (some .boolean) :: WL) (zR 8 184) [.ref (q 0), .int 1] (wX8 G q t0.1 t0.2.1 t0.2.2.1 t0.2.2.2.1 t0.2.2.2.2.1 t0.2.2.2.2.2) (bI out.1) (wX8 G q out.2.1 out.2.2.1 out.2.2.2.1 out.2.2.2.2.1 out.2.2.2.2.2.1 out.2.2.2.2.2.2) := by
  refine CtI.mk (cc := cX8_fillFrom) (nL := 5) (rt := (some .boolean)) (own := RX8) (nm := "fillFrom") (by decide) rfl rfl (Nat.le_of_ble_eq_true rfl) ?_
  intro p e s m below meth c A ls C hW hl
  have hx := C.1
  have hb := C.2.1
  have hl : lv_has ls 5 [(0, .ref (q 0)), (1, .int 1)] := hl
  unfold f_X8_fillFrom_1 at hf
  refine lv_iload_n hx hb dX8_fillFrom_0 rfl (lv_at hl 1 rfl) ?_
  refine lv_aload_n hx hb dX8_fillFrom_1 rfl (lv_at hl 0 rfl) ?_
  refine zk_get C hW fgX8_12 0 rfl rfl dX8_fillFrom_2 ?_
  refine zk_get C hW fgX8_53 1 rfl rfl dX8_fillFrom_5 ?_
  refine lv_icmp_lt (tgt := 16) hx hb dX8_fillFrom_8 (by decide) (fun c1 => ?_) (fun c1 => ?_)
  · have hf := ipos c1 hf
    refine lv_iload_n hx hb dX8_fillFrom_16 rfl (lv_at hl 1 rfl) ?_
    refine lv_if_lt (tgt := 31) hx hb dX8_fillFrom_17 (by decide) (fun c2 => ?_) (fun c2 => ?_)
    · exact absurd c2 (by decide)
    · refine lv_iload_n hx hb dX8_fillFrom_20 rfl (lv_at hl 1 rfl) ?_
      refine lv_iconst (v := 1) hx hb dX8_fillFrom_21 (by decide) ?_
      refine lv_iadd hx hb dX8_fillFrom_22 ?_
      refine lv_topi (fun z3 ez3 => ?_)
      obtain rfl : z3 = 2 := ez3.trans (by decide)
      refine lv_aload_n hx hb dX8_fillFrom_23 rfl (lv_at hl 0 rfl) ?_
      refine zk_get C hW fgX8_25 0 rfl rfl dX8_fillFrom_24 ?_
      refine zk_alenR C hW 4 rfl dX8_fillFrom_27 ?_
      refine lv_icmp_lt (tgt := 33) hx hb dX8_fillFrom_28 (by decide) (fun c4 => ?_) (fun c4 => ?_)
      · refine lv_aload_n hx hb dX8_fillFrom_33 rfl (lv_at hl 0 rfl) ?_
        refine zk_get C hW fgX8_25 0 rfl rfl dX8_fillFrom_34 ?_
        refine lv_iload_n hx hb dX8_fillFrom_37 rfl (lv_at hl 1 rfl) ?_
        refine zk_aald (b := (q 6)) C hW 4 (by decide) rfl rfl dX8_fillFrom_38 ?_
        refine lv_astore_n (lv' := [(2, .ref (q 6)), (0, .ref (q 0)), (1, .int 1)]) hx hb dX8_fillFrom_39 rfl hl (by decide) rfl (fun ls hl => ?_)
        refine lv_aload_n hx hb dX8_fillFrom_40 rfl (lv_at hl 1 rfl) ?_
        refine zk_get C hW fgX8_25 0 rfl rfl dX8_fillFrom_41 ?_
        refine lv_iload_n hx hb dX8_fillFrom_44 rfl (lv_at hl 2 rfl) ?_
        refine lv_iconst (v := 1) hx hb dX8_fillFrom_45 (by decide) ?_
        refine lv_iadd hx hb dX8_fillFrom_46 ?_
        refine lv_topi (fun z5 ez5 => ?_)
        obtain rfl : z5 = 2 := ez5.trans (by decide)
        refine zk_aald (b := (q 7)) C hW 4 (by decide) rfl rfl dX8_fillFrom_47 ?_
        refine lv_astore_n (lv' := [(3, .ref (q 7)), (2, .ref (q 6)), (0, .ref (q 0)), (1, .int 1)]) hx hb dX8_fillFrom_48 rfl hl (by decide) rfl (fun ls hl => ?_)
        refine lv_aload_n hx hb dX8_fillFrom_49 rfl (lv_at hl 1 rfl) ?_
        refine lv_ifnull hx hb dX8_fillFrom_50 ?_
        refine lv_aload_n hx hb dX8_fillFrom_53 rfl (lv_at hl 0 rfl) ?_
        refine lv_ifnonnull (tgt := 59) hx hb dX8_fillFrom_54 (by decide) ?_
        refine lv_iconst (v := 0) hx hb dX8_fillFrom_59 (by decide) ?_
        refine lv_istore (lv' := [(4, .int 0), (3, .ref (q 7)), (2, .ref (q 6)), (0, .ref (q 0)), (1, .int 1)]) hx hb dX8_fillFrom_60 hl (by decide) rfl (fun ls hl => ?_)
        refine w_X8_fillFrom_1_62 l G q  out C (fun w17_v4 w17_s0_0 w17_s0_1 w17_s0_2 w17_s0_3 w17_s0_4 w17_s0_5 hf H locs ls hW hl => ?_) FU 0 t0.1 t0.2.1 t0.2.2.1 t0.2.2.2.1 t0.2.2.2.2.1 t0.2.2.2.2.2 hf _ _ _ hW (lv_sub hl [3, 4, 2, 1, 0] rfl)
        refine lv_iconst (v := 0) hx hb dX8_fillFrom_132 (by decide) ?_
        obtain rfl := Option.some.inj hf
        exact zk_zret false C hW rfl dX8_fillFrom_133
      · exact absurd c4 (by decide)
  · have hf := ineg c1 hf
    refine lv_aload_n hx hb dX8_fillFrom_11 rfl (lv_at hl 0 rfl) ?_
    obtain ⟨u18, eu18, hf⟩ := bnd hf
    refine zk_callBI (As := []) (rest := []) (W1 := wX8 G q u18.2.1 u18.2.2.1 u18.2.2.2.1 u18.2.2.2.2.1 u18.2.2.2.2.2.1 u18.2.2.2.2.2.2) C hW hl mvX8_56 (c_X8_fits l G q t0 u18 eu18) ⟨(Nat.le_of_ble_eq_true rfl), (Nat.le_of_ble_eq_true rfl)⟩ ⟨rfl, rfl⟩ ([]) ([]) zE1 rfl rfl (Nat.le_of_ble_eq_true rfl) zE1r dX8_fillFrom_12 ⟨Nat.zero_le _, Nat.zero_le _⟩ (fun H locs hW => ?_)
    obtain rfl := Option.some.inj hf
    exact zk_zret u18.1 C hW rfl dX8_fillFrom_15

set_option maxHeartbeats 4000000 in
set_option maxRecDepth 100000 in
theorem w_X8_fillFrom_0_62 {p : Program} {e : Env} {s : State} {m : MethodId} {args : Array Value} {below : List Frame} {meth : Method} {c : Code} {A : Nat → Prop} (l : Launch) (G : GG) (q : Nat → Nat) (out : Bool × zWR) (C : CX p s m args meth c cX8_fillFrom 5 RX8 (some .boolean) "fillFrom") {K : Int32 → zLT → zRD → (Nat → zRD) → Int32 → Int32 → Int32 → Option (Bool × zWR)} (hK : ∀ (v4 : Int32) (s0_0 : zLT) (s0_1 : zRD) (s0_2 : (Nat → zRD)) (s0_3 : Int32) (s0_4 : Int32) (s0_5 : Int32) , K v4 s0_0 s0_1 s0_2 s0_3 s0_4 s0_5 = some out → ∀ (H : Heap) (locs : List Loc) (ls : Array Slot), KW G A s (wX8 G q s0_0 s0_1 s0_2 s0_3 s0_4 s0_5) H locs → lv_has ls 5 [] → W p l e (zR 9 208) s m args below meth c H locs 0 0 (QI G A (bI out.1) (wX8 G q out.2.1 out.2.2.1 out.2.2.2.1 out.2.2.2.2.1 out.2.2.2.2.2.1 out.2.2.2.2.2.2) below args s) (F0 m 132 ls [])) :
    ∀ (n : Nat) (v4 : Int32) (s0_0 : zLT) (s0_1 : zRD) (s0_2 : (Nat → zRD)) (s0_3 : Int32) (s0_4 : Int32) (s0_5 : Int32) , lp_X8_fillFrom_0_62  K n v4 s0_0 s0_1 s0_2 s0_3 s0_4 s0_5 = some out → ∀ (H : Heap) (locs : List Loc) (ls : Array Slot), KW G A s (wX8 G q s0_0 s0_1 s0_2 s0_3 s0_4 s0_5) H locs → lv_has ls 5 [(0, .ref (q 0)), (1, .int 0), (2, .ref (q 5)), (3, .ref (q 6)), (4, .int v4)] → W p l e (zR 9 208) s m args below meth c H locs 0 0 (QI G A (bI out.1) (wX8 G q out.2.1 out.2.2.1 out.2.2.2.1 out.2.2.2.2.1 out.2.2.2.2.2.1 out.2.2.2.2.2.2) below args s) (F0 m 62 ls []) := by
  have hx := C.1
  have hb := C.2.1
  intro n
  induction n with
  | zero => intro v4 s0_0 s0_1 s0_2 s0_3 s0_4 s0_5 hf; exact nomatch (show (none : Option (Bool × zWR)) = some out from hf)
  | succ n ih =>
    intro v4 s0_0 s0_1 s0_2 s0_3 s0_4 s0_5 hf H locs ls hW hl
    rw [lp_X8_fillFrom_0_62] at hf
    refine lv_iload hx hb dX8_fillFrom_62 (lv_at hl 4 rfl) ?_
    refine lv_bipush (v := 6) hx hb dX8_fillFrom_64 (by decide) ?_
    refine lv_icmp_ge (tgt := 132) hx hb dX8_fillFrom_66 (by decide) (fun c6 => ?_) (fun c6 => ?_)
    · have hf := ipos c6 hf
      exact hK v4 s0_0 s0_1 s0_2 s0_3 s0_4 s0_5 hf _ _ _ hW (lv_sub hl [] rfl)
    · have hf := ineg c6 hf
      refine lv_aload_n hx hb dX8_fillFrom_69 rfl (lv_at hl 3 rfl) ?_
      refine lv_aload_n hx hb dX8_fillFrom_70 rfl (lv_at hl 2 rfl) ?_
      obtain ⟨u7, eu7, hf⟩ := bnd hf
      refine zk_callV (As := [.ref (q 5)]) (rest := []) (W1 := wX8 G q s0_0 s0_1 (va_up s0_2 1 u7) s0_3 s0_4 s0_5) C hW hl mvX8_60 (c_X6_copy l G (fun k => q (k + 6)) (fun k => q (k + 5)) (s0_2 1) (s0_2 0) u7 eu7) ⟨(Nat.le_of_ble_eq_true rfl), (Nat.le_of_ble_eq_true rfl)⟩ ⟨rfl, rfl⟩ [6, 5] rfl rfl rfl rfl (Nat.le_of_ble_eq_true rfl) (Nat.le_of_ble_eq_true rfl) rfl dX8_fillFrom_71 ⟨Nat.zero_le _, Nat.zero_le _⟩ (fun H locs hW => ?_)
      refine lv_aload_n hx hb dX8_fillFrom_74 rfl (lv_at hl 3 rfl) ?_
      refine lv_iload hx hb dX8_fillFrom_75 (lv_at hl 4 rfl) ?_
      obtain ⟨u8, eu8, hf⟩ := bnd hf
      refine zk_callV (As := [.int v4]) (rest := []) (W1 := wX8 G q s0_0 s0_1 (va_up s0_2 1 u8) s0_3 s0_4 s0_5) C hW hl mvX8_64 (c_X6_hear l G (fun k => q (k + 6)) u7 v4 u8 eu8) ⟨(Nat.le_of_ble_eq_true rfl), (Nat.le_of_ble_eq_true rfl)⟩ ⟨rfl, rfl⟩ [6] rfl rfl rfl rfl (Nat.le_of_ble_eq_true rfl) (Nat.le_of_ble_eq_true rfl) rfl dX8_fillFrom_77 ⟨Nat.zero_le _, Nat.zero_le _⟩ (fun H locs hW => ?_)
      refine lv_aload_n hx hb dX8_fillFrom_80 rfl (lv_at hl 3 rfl) ?_
      refine zk_get C hW fgX8_67 6 rfl rfl dX8_fillFrom_81 ?_
      refine lv_if_ne (tgt := 126) hx hb dX8_fillFrom_84 (by decide) (fun c9 => ?_) (fun c9 => ?_)
      · have hf := ineg c9 hf
        refine lv_iinc (v := (v4 + 1)) (lv' := [(4, .int (v4 + 1)), (0, .ref (q 0)), (1, .int 0), (2, .ref (q 5)), (3, .ref (q 6))]) hx hb dX8_fillFrom_126 hl (k := 4) rfl rfl (by decide) rfl (fun ls hl => ?_)
        refine lv_goto (tgt := 62) hx hb dX8_fillFrom_129 (by decide) ?_
        exact ih (v4 + 1) s0_0 s0_1 (va_up s0_2 1 u8) s0_3 s0_4 s0_5 hf _ _ _ hW (lv_sub hl [1, 2, 3, 4, 0] rfl)
      · have hf := ipos c9 hf
        refine lv_aload_n hx hb dX8_fillFrom_87 rfl (lv_at hl 0 rfl) ?_
        refine lv_aload_n hx hb dX8_fillFrom_88 rfl (lv_at hl 3 rfl) ?_
        refine zk_get C hW fgX8_71 6 rfl rfl dX8_fillFrom_89 ?_
        refine lv_iload_n hx hb dX8_fillFrom_92 rfl (lv_at hl 1 rfl) ?_
        refine lv_iconst (v := 1) hx hb dX8_fillFrom_93 (by decide) ?_
        refine lv_iadd hx hb dX8_fillFrom_94 ?_
        refine lv_topi (fun z10 ez10 => ?_)
        obtain rfl : z10 = 1 := ez10.trans (by decide)
        obtain ⟨u11, eu11, hf⟩ := bnd hf
        refine zk_callBI (As := [.int u8.2.1, .int 1]) (rest := []) (W1 := wX8 G q s0_0 s0_1 (va_up s0_2 1 u8) s0_3 s0_4 s0_5) C hW hl mvX8_74 (c_X8_canReachTop l G q (s0_0, s0_1, (va_up s0_2 1 u8), s0_3, s0_4, s0_5) u8.2.1 1 u11 eu11) ⟨(Nat.le_of_ble_eq_true rfl), (Nat.le_of_ble_eq_true rfl)⟩ ⟨rfl, rfl⟩ ([]) ([]) zE1 rfl rfl (Nat.le_of_ble_eq_true rfl) zE1r dX8_fillFrom_95 ⟨Nat.zero_le _, Nat.zero_le _⟩ (fun H locs hW => ?_)
        refine lv_if_ne (tgt := 104) hx hb dX8_fillFrom_98 (by decide) (fun c12 => ?_) (fun c12 => ?_)
        · have hf := ineg c12 hf
          refine lv_aload_n hx hb dX8_fillFrom_104 rfl (lv_at hl 0 rfl) ?_
          refine zk_get C hW fgX8_12 0 rfl rfl dX8_fillFrom_105 ?_
          refine lv_iload_n hx hb dX8_fillFrom_108 rfl (lv_at hl 1 rfl) ?_
          refine lv_iload hx hb dX8_fillFrom_109 (lv_at hl 4 rfl) ?_
          obtain ⟨u13, eu13, hf⟩ := bnd hf
          refine zk_callV (As := [.int 0, .int v4]) (rest := []) (W1 := wX8 G q u13 s0_1 (va_up s0_2 1 u8) s0_3 s0_4 s0_5) C hW hl mvX8_78 (c_X3_put l G (fun k => q (k + 1)) s0_0 0 v4 u13 eu13) ⟨(Nat.le_of_ble_eq_true rfl), (Nat.le_of_ble_eq_true rfl)⟩ ⟨rfl, rfl⟩ [1, 2] rfl rfl rfl rfl (Nat.le_of_ble_eq_true rfl) (Nat.le_of_ble_eq_true rfl) rfl dX8_fillFrom_111 ⟨Nat.zero_le _, Nat.zero_le _⟩ (fun H locs hW => ?_)
          refine lv_aload_n hx hb dX8_fillFrom_114 rfl (lv_at hl 0 rfl) ?_
          refine lv_iload_n hx hb dX8_fillFrom_115 rfl (lv_at hl 1 rfl) ?_
          refine lv_iconst (v := 1) hx hb dX8_fillFrom_116 (by decide) ?_
          refine lv_iadd hx hb dX8_fillFrom_117 ?_
          refine lv_topi (fun z14 ez14 => ?_)
          obtain rfl : z14 = 1 := ez14.trans (by decide)
          obtain ⟨u15, eu15, hf⟩ := bnd hf
          refine zk_callSI (As := [.ref (q 0), .int 1]) (rest := []) (W1 := wX8 G q u15.2.1 u15.2.2.1 u15.2.2.2.1 u15.2.2.2.2.1 u15.2.2.2.2.2.1 u15.2.2.2.2.2.2) C hW hl msX8_49 (c_X8_fillFrom_1 l G q (u13, s0_1, (va_up s0_2 1 u8), s0_3, s0_4, s0_5) u15 eu15) ⟨(Nat.le_of_ble_eq_true rfl), (Nat.le_of_ble_eq_true rfl)⟩ ⟨rfl, rfl⟩ [0, 1, 2, 3, 4, 5, 6, 7, 8, 9, 10] rfl rfl rfl (Nat.le_of_ble_eq_true rfl) (Nat.le_of_ble_eq_true rfl) rfl dX8_fillFrom_118 ⟨Nat.zero_le _, Nat.zero_le _⟩ (fun H locs hW => ?_)
          refine lv_if_eq (tgt := 126) hx hb dX8_fillFrom_121 (by decide) (fun c16 => ?_) (fun c16 => ?_)
          · have hf := ipos c16 hf
            refine lv_iinc (v := (v4 + 1)) (lv' := [(4, .int (v4 + 1)), (0, .ref (q 0)), (1, .int 0), (2, .ref (q 5)), (3, .ref (q 6))]) hx hb dX8_fillFrom_126 hl (k := 4) rfl rfl (by decide) rfl (fun ls hl => ?_)
            refine lv_goto (tgt := 62) hx hb dX8_fillFrom_129 (by decide) ?_
            exact ih (v4 + 1) u15.2.1 u15.2.2.1 u15.2.2.2.1 u15.2.2.2.2.1 u15.2.2.2.2.2.1 u15.2.2.2.2.2.2 hf _ _ _ hW (lv_sub hl [1, 2, 3, 4, 0] rfl)
          · have hf := ineg c16 hf
            refine lv_iconst (v := 1) hx hb dX8_fillFrom_124 (by decide) ?_
            obtain rfl := Option.some.inj hf
            exact zk_zret true C hW rfl dX8_fillFrom_125
        · have hf := ipos c12 hf
          refine lv_goto (tgt := 126) hx hb dX8_fillFrom_101 (by decide) ?_
          refine lv_iinc (v := (v4 + 1)) (lv' := [(4, .int (v4 + 1)), (0, .ref (q 0)), (1, .int 0), (2, .ref (q 5)), (3, .ref (q 6))]) hx hb dX8_fillFrom_126 hl (k := 4) rfl rfl (by decide) rfl (fun ls hl => ?_)
          refine lv_goto (tgt := 62) hx hb dX8_fillFrom_129 (by decide) ?_
          exact ih (v4 + 1) s0_0 s0_1 (va_up s0_2 1 u8) s0_3 s0_4 s0_5 hf _ _ _ hW (lv_sub hl [1, 2, 3, 4, 0] rfl)
set_option maxHeartbeats 4000000 in
set_option maxRecDepth 100000 in
theorem c_X8_fillFrom_0 (l : Launch) (G : GG) (q : Nat → Nat) (t0 : zWR) (out : Bool × zWR) (hf : f_X8_fillFrom_0 t0 = some out) : CtI G l yX8_fillFrom (Cond.code yX8_fillFrom cX8_fillFrom 5 (some .boolean) :: WL) (zR 9 208) [.ref (q 0), .int 0] (wX8 G q t0.1 t0.2.1 t0.2.2.1 t0.2.2.2.1 t0.2.2.2.2.1 t0.2.2.2.2.2) (bI out.1) (wX8 G q out.2.1 out.2.2.1 out.2.2.2.1 out.2.2.2.2.1 out.2.2.2.2.2.1 out.2.2.2.2.2.2) := by
  refine CtI.mk (cc := cX8_fillFrom) (nL := 5) (rt := (some .boolean)) (own := RX8) (nm := "fillFrom") (by decide) rfl rfl (Nat.le_of_ble_eq_true rfl) ?_
  intro p e s m below meth c A ls C hW hl
  have hx := C.1
  have hb := C.2.1
  have hl : lv_has ls 5 [(0, .ref (q 0)), (1, .int 0)] := hl
  unfold f_X8_fillFrom_0 at hf
  refine lv_iload_n hx hb dX8_fillFrom_0 rfl (lv_at hl 1 rfl) ?_
  refine lv_aload_n hx hb dX8_fillFrom_1 rfl (lv_at hl 0 rfl) ?_
  refine zk_get C hW fgX8_12 0 rfl rfl dX8_fillFrom_2 ?_
  refine zk_get C hW fgX8_53 1 rfl rfl dX8_fillFrom_5 ?_
  refine lv_icmp_lt (tgt := 16) hx hb dX8_fillFrom_8 (by decide) (fun c1 => ?_) (fun c1 => ?_)
  · have hf := ipos c1 hf
    refine lv_iload_n hx hb dX8_fillFrom_16 rfl (lv_at hl 1 rfl) ?_
    refine lv_if_lt (tgt := 31) hx hb dX8_fillFrom_17 (by decide) (fun c2 => ?_) (fun c2 => ?_)
    · exact absurd c2 (by decide)
    · refine lv_iload_n hx hb dX8_fillFrom_20 rfl (lv_at hl 1 rfl) ?_
      refine lv_iconst (v := 1) hx hb dX8_fillFrom_21 (by decide) ?_
      refine lv_iadd hx hb dX8_fillFrom_22 ?_
      refine lv_topi (fun z3 ez3 => ?_)
      obtain rfl : z3 = 1 := ez3.trans (by decide)
      refine lv_aload_n hx hb dX8_fillFrom_23 rfl (lv_at hl 0 rfl) ?_
      refine zk_get C hW fgX8_25 0 rfl rfl dX8_fillFrom_24 ?_
      refine zk_alenR C hW 4 rfl dX8_fillFrom_27 ?_
      refine lv_icmp_lt (tgt := 33) hx hb dX8_fillFrom_28 (by decide) (fun c4 => ?_) (fun c4 => ?_)
      · refine lv_aload_n hx hb dX8_fillFrom_33 rfl (lv_at hl 0 rfl) ?_
        refine zk_get C hW fgX8_25 0 rfl rfl dX8_fillFrom_34 ?_
        refine lv_iload_n hx hb dX8_fillFrom_37 rfl (lv_at hl 1 rfl) ?_
        refine zk_aald (b := (q 5)) C hW 4 (by decide) rfl rfl dX8_fillFrom_38 ?_
        refine lv_astore_n (lv' := [(2, .ref (q 5)), (0, .ref (q 0)), (1, .int 0)]) hx hb dX8_fillFrom_39 rfl hl (by decide) rfl (fun ls hl => ?_)
        refine lv_aload_n hx hb dX8_fillFrom_40 rfl (lv_at hl 1 rfl) ?_
        refine zk_get C hW fgX8_25 0 rfl rfl dX8_fillFrom_41 ?_
        refine lv_iload_n hx hb dX8_fillFrom_44 rfl (lv_at hl 2 rfl) ?_
        refine lv_iconst (v := 1) hx hb dX8_fillFrom_45 (by decide) ?_
        refine lv_iadd hx hb dX8_fillFrom_46 ?_
        refine lv_topi (fun z5 ez5 => ?_)
        obtain rfl : z5 = 1 := ez5.trans (by decide)
        refine zk_aald (b := (q 6)) C hW 4 (by decide) rfl rfl dX8_fillFrom_47 ?_
        refine lv_astore_n (lv' := [(3, .ref (q 6)), (2, .ref (q 5)), (0, .ref (q 0)), (1, .int 0)]) hx hb dX8_fillFrom_48 rfl hl (by decide) rfl (fun ls hl => ?_)
        refine lv_aload_n hx hb dX8_fillFrom_49 rfl (lv_at hl 1 rfl) ?_
        refine lv_ifnull hx hb dX8_fillFrom_50 ?_
        refine lv_aload_n hx hb dX8_fillFrom_53 rfl (lv_at hl 0 rfl) ?_
        refine lv_ifnonnull (tgt := 59) hx hb dX8_fillFrom_54 (by decide) ?_
        refine lv_iconst (v := 0) hx hb dX8_fillFrom_59 (by decide) ?_
        refine lv_istore (lv' := [(4, .int 0), (3, .ref (q 6)), (2, .ref (q 5)), (0, .ref (q 0)), (1, .int 0)]) hx hb dX8_fillFrom_60 hl (by decide) rfl (fun ls hl => ?_)
        refine w_X8_fillFrom_0_62 l G q  out C (fun w17_v4 w17_s0_0 w17_s0_1 w17_s0_2 w17_s0_3 w17_s0_4 w17_s0_5 hf H locs ls hW hl => ?_) FU 0 t0.1 t0.2.1 t0.2.2.1 t0.2.2.2.1 t0.2.2.2.2.1 t0.2.2.2.2.2 hf _ _ _ hW (lv_sub hl [3, 4, 2, 1, 0] rfl)
        refine lv_iconst (v := 0) hx hb dX8_fillFrom_132 (by decide) ?_
        obtain rfl := Option.some.inj hf
        exact zk_zret false C hW rfl dX8_fillFrom_133
      · exact absurd c4 (by decide)
  · have hf := ineg c1 hf
    refine lv_aload_n hx hb dX8_fillFrom_11 rfl (lv_at hl 0 rfl) ?_
    obtain ⟨u18, eu18, hf⟩ := bnd hf
    refine zk_callBI (As := []) (rest := []) (W1 := wX8 G q u18.2.1 u18.2.2.1 u18.2.2.2.1 u18.2.2.2.2.1 u18.2.2.2.2.2.1 u18.2.2.2.2.2.2) C hW hl mvX8_56 (c_X8_fits l G q t0 u18 eu18) ⟨(Nat.le_of_ble_eq_true rfl), (Nat.le_of_ble_eq_true rfl)⟩ ⟨rfl, rfl⟩ ([]) ([]) zE1 rfl rfl (Nat.le_of_ble_eq_true rfl) zE1r dX8_fillFrom_12 ⟨Nat.zero_le _, Nat.zero_le _⟩ (fun H locs hW => ?_)
    obtain rfl := Option.some.inj hf
    exact zk_zret u18.1 C hW rfl dX8_fillFrom_15

set_option maxHeartbeats 4000000 in
set_option maxRecDepth 100000 in
theorem w_X8_find_25 {p : Program} {e : Env} {s : State} {m : MethodId} {args : Array Value} {below : List Frame} {meth : Method} {c : Code} {A : Nat → Prop} (l : Launch) (G : GG) (q : Nat → Nat) (out : Bool × zWR) (C : CX p s m args meth c cX8_find 5 RX8 (some .boolean) "find") {K : Int32 → zLT → zRD → (Nat → zRD) → Int32 → Int32 → Int32 → Option (Bool × zWR)} (hK : ∀ (v4 : Int32) (s0_0 : zLT) (s0_1 : zRD) (s0_2 : (Nat → zRD)) (s0_3 : Int32) (s0_4 : Int32) (s0_5 : Int32) , K v4 s0_0 s0_1 s0_2 s0_3 s0_4 s0_5 = some out → ∀ (H : Heap) (locs : List Loc) (ls : Array Slot), KW G A s (wX8 G q s0_0 s0_1 s0_2 s0_3 s0_4 s0_5) H locs → lv_has ls 5 [] → W p l e (zR 10 232) s m args below meth c H locs 0 0 (QI G A (bI out.1) (wX8 G q out.2.1 out.2.2.1 out.2.2.2.1 out.2.2.2.2.1 out.2.2.2.2.2.1 out.2.2.2.2.2.2) below args s) (F0 m 77 ls [])) :
    ∀ (n : Nat) (v4 : Int32) (s0_0 : zLT) (s0_1 : zRD) (s0_2 : (Nat → zRD)) (s0_3 : Int32) (s0_4 : Int32) (s0_5 : Int32) , lp_X8_find_25  K n v4 s0_0 s0_1 s0_2 s0_3 s0_4 s0_5 = some out → ∀ (H : Heap) (locs : List Loc) (ls : Array Slot), KW G A s (wX8 G q s0_0 s0_1 s0_2 s0_3 s0_4 s0_5) H locs → lv_has ls 5 [(0, .ref (q 0)), (4, .int v4)] → W p l e (zR 10 232) s m args below meth c H locs 0 0 (QI G A (bI out.1) (wX8 G q out.2.1 out.2.2.1 out.2.2.2.1 out.2.2.2.2.1 out.2.2.2.2.2.1 out.2.2.2.2.2.2) below args s) (F0 m 25 ls []) := by
  have hx := C.1
  have hb := C.2.1
  intro n
  induction n with
  | zero => intro v4 s0_0 s0_1 s0_2 s0_3 s0_4 s0_5 hf; exact nomatch (show (none : Option (Bool × zWR)) = some out from hf)
  | succ n ih =>
    intro v4 s0_0 s0_1 s0_2 s0_3 s0_4 s0_5 hf H locs ls hW hl
    rw [lp_X8_find_25] at hf
    refine lv_iload hx hb dX8_find_25 (lv_at hl 1 rfl) ?_
    refine lv_iconst (v := 5) hx hb dX8_find_27 (by decide) ?_
    refine lv_icmp_gt (tgt := 77) hx hb dX8_find_28 (by decide) (fun c2 => ?_) (fun c2 => ?_)
    · have hf := ipos c2 hf
      exact hK v4 s0_0 s0_1 s0_2 s0_3 s0_4 s0_5 hf _ _ _ hW (lv_sub hl [] rfl)
    · have hf := ineg c2 hf
      refine lv_aload_n hx hb dX8_find_31 rfl (lv_at hl 0 rfl) ?_
      refine zk_get C hW fgX8_12 0 rfl rfl dX8_find_32 ?_
      refine lv_iconst (v := 0) hx hb dX8_find_35 (by decide) ?_
      obtain ⟨u3, eu3, hf⟩ := bnd hf
      refine zk_callV (As := [.int 0]) (rest := []) (W1 := wX8 G q u3 s0_1 s0_2 s0_3 s0_4 s0_5) C hW hl mvX8_42 (c_X3_add l G (fun k => q (k + 1)) s0_0 0 u3 eu3) ⟨(Nat.le_of_ble_eq_true rfl), (Nat.le_of_ble_eq_true rfl)⟩ ⟨rfl, rfl⟩ [1, 2] rfl rfl rfl rfl (Nat.le_of_ble_eq_true rfl) (Nat.le_of_ble_eq_true rfl) rfl dX8_find_36 ⟨Nat.zero_le _, Nat.zero_le _⟩ (fun H locs hW => ?_)
      refine lv_aload_n hx hb dX8_find_39 rfl (lv_at hl 0 rfl) ?_
      refine zk_get C hW fgX8_25 0 rfl rfl dX8_find_40 ?_
      refine lv_iconst (v := 0) hx hb dX8_find_43 (by decide) ?_
      refine zk_aald (b := (q 5)) C hW 4 (by decide) rfl rfl dX8_find_44 ?_
      refine lv_ifnull hx hb dX8_find_45 ?_
      refine lv_aload_n hx hb dX8_find_48 rfl (lv_at hl 0 rfl) ?_
      refine zk_get C hW fgX8_25 0 rfl rfl dX8_find_49 ?_
      refine lv_iconst (v := 0) hx hb dX8_find_52 (by decide) ?_
      refine zk_aald (b := (q 5)) C hW 4 (by decide) rfl rfl dX8_find_53 ?_
      refine lv_aload_n hx hb dX8_find_54 rfl (lv_at hl 0 rfl) ?_
      refine zk_get C hW fgX8_29 0 rfl rfl dX8_find_55 ?_
      obtain ⟨u4, eu4, hf⟩ := bnd hf
      refine zk_callV (As := [.int s0_3]) (rest := []) (W1 := wX8 G q u3 s0_1 (va_up s0_2 0 u4) s0_3 s0_4 s0_5) C hW hl mvX8_46 (c_X6_begin l G (fun k => q (k + 5)) (s0_2 0) s0_3 u4 eu4) ⟨(Nat.le_of_ble_eq_true rfl), (Nat.le_of_ble_eq_true rfl)⟩ ⟨rfl, rfl⟩ [5] rfl rfl rfl rfl (Nat.le_of_ble_eq_true rfl) (Nat.le_of_ble_eq_true rfl) rfl dX8_find_58 ⟨Nat.zero_le _, Nat.zero_le _⟩ (fun H locs hW => ?_)
      refine lv_aload_n hx hb dX8_find_61 rfl (lv_at hl 0 rfl) ?_
      refine lv_iconst (v := 0) hx hb dX8_find_62 (by decide) ?_
      obtain ⟨u5, eu5, hf⟩ := bnd hf
      refine zk_callSI (As := [.ref (q 0), .int 0]) (rest := []) (W1 := wX8 G q u5.2.1 u5.2.2.1 u5.2.2.2.1 u5.2.2.2.2.1 u5.2.2.2.2.2.1 u5.2.2.2.2.2.2) C hW hl msX8_49 (c_X8_fillFrom_0 l G q (u3, s0_1, (va_up s0_2 0 u4), s0_3, s0_4, s0_5) u5 eu5) ⟨(Nat.le_of_ble_eq_true rfl), (Nat.le_of_ble_eq_true rfl)⟩ ⟨rfl, rfl⟩ [0, 1, 2, 3, 4, 5, 6, 7, 8, 9, 10] rfl rfl rfl (Nat.le_of_ble_eq_true rfl) (Nat.le_of_ble_eq_true rfl) rfl dX8_find_63 ⟨Nat.zero_le _, Nat.zero_le _⟩ (fun H locs hW => ?_)
      refine lv_if_eq (tgt := 71) hx hb dX8_find_66 (by decide) (fun c6 => ?_) (fun c6 => ?_)
      · have hf := ipos c6 hf
        refine lv_iinc (v := (v4 + 1)) (lv' := [(4, .int (v4 + 1)), (0, .ref (q 0))]) hx hb dX8_find_71 hl (k := 1) rfl rfl (by decide) rfl (fun ls hl => ?_)
        refine lv_goto (tgt := 25) hx hb dX8_find_74 (by decide) ?_
        exact ih (v4 + 1) u5.2.1 u5.2.2.1 u5.2.2.2.1 u5.2.2.2.2.1 u5.2.2.2.2.2.1 u5.2.2.2.2.2.2 hf _ _ _ hW (lv_sub hl [1, 0] rfl)
      · have hf := ineg c6 hf
        refine lv_iconst (v := 1) hx hb dX8_find_69 (by decide) ?_
        obtain rfl := Option.some.inj hf
        exact zk_zret true C hW rfl dX8_find_70
set_option maxHeartbeats 4000000 in
set_option maxRecDepth 100000 in
theorem c_X8_find (l : Launch) (G : GG) (q : Nat → Nat) (t0 : zWR) (a0 : Int32) (a1 : Int32) (a2 : Int32) (out : Bool × zWR) (hf : f_X8_find t0 a0 a1 a2 = some out) : CtI G l yX8_find (Cond.code yX8_find cX8_find 5 (some .boolean) :: WL) (zR 10 232) [.ref (q 0), .int a0, .int a1, .int a2] (wX8 G q t0.1 t0.2.1 t0.2.2.1 t0.2.2.2.1 t0.2.2.2.2.1 t0.2.2.2.2.2) (bI out.1) (wX8 G q out.2.1 out.2.2.1 out.2.2.2.1 out.2.2.2.2.1 out.2.2.2.2.2.1 out.2.2.2.2.2.2) := by
  refine CtI.mk (cc := cX8_find) (nL := 5) (rt := (some .boolean)) (own := RX8) (nm := "find") (by decide) rfl rfl (Nat.le_of_ble_eq_true rfl) ?_
  intro p e s m below meth c A ls C hW hl
  have hx := C.1
  have hb := C.2.1
  have hl : lv_has ls 5 [(0, .ref (q 0)), (1, .int a0), (2, .int a1), (3, .int a2)] := hl
  unfold f_X8_find at hf
  refine lv_aload_n hx hb dX8_find_0 rfl (lv_at hl 0 rfl) ?_
  refine lv_iload_n hx hb dX8_find_1 rfl (lv_at hl 1 rfl) ?_
  refine zk_putI (W1 := wX8 G q t0.1 t0.2.1 t0.2.2.1 a0 t0.2.2.2.2.1 t0.2.2.2.2.2) C hW fpX8_29 0 rfl rfl (Nat.le_of_ble_eq_true rfl) rfl dX8_find_2 (fun H locs hW => ?_)
  refine lv_aload_n hx hb dX8_find_5 rfl (lv_at hl 0 rfl) ?_
  refine lv_iload_n hx hb dX8_find_6 rfl (lv_at hl 2 rfl) ?_
  refine zk_putI (W1 := wX8 G q t0.1 t0.2.1 t0.2.2.1 a0 a1 t0.2.2.2.2.2) C hW fpX8_33 0 rfl rfl (Nat.le_of_ble_eq_true rfl) rfl dX8_find_7 (fun H locs hW => ?_)
  refine lv_aload_n hx hb dX8_find_10 rfl (lv_at hl 0 rfl) ?_
  refine lv_iload_n hx hb dX8_find_11 rfl (lv_at hl 3 rfl) ?_
  refine zk_putI (W1 := wX8 G q t0.1 t0.2.1 t0.2.2.1 a0 a1 a2) C hW fpX8_36 0 rfl rfl (Nat.le_of_ble_eq_true rfl) rfl dX8_find_12 (fun H locs hW => ?_)
  refine lv_aload_n hx hb dX8_find_15 rfl (lv_at hl 0 rfl) ?_
  refine zk_get C hW fgX8_12 0 rfl rfl dX8_find_16 ?_
  obtain ⟨u1, eu1, hf⟩ := bnd hf
  refine zk_callV (As := []) (rest := []) (W1 := wX8 G q u1 t0.2.1 t0.2.2.1 a0 a1 a2) C hW hl mvX8_39 (c_X3_clear l G (fun k => q (k + 1)) t0.1 u1 eu1) ⟨(Nat.le_of_ble_eq_true rfl), (Nat.le_of_ble_eq_true rfl)⟩ ⟨rfl, rfl⟩ [1, 2] rfl rfl rfl rfl (Nat.le_of_ble_eq_true rfl) (Nat.le_of_ble_eq_true rfl) rfl dX8_find_19 ⟨Nat.zero_le _, Nat.zero_le _⟩ (fun H locs hW => ?_)
  refine lv_iconst (v := 1) hx hb dX8_find_22 (by decide) ?_
  refine lv_istore (lv' := [(4, .int 1), (0, .ref (q 0)), (1, .int a0), (2, .int a1), (3, .int a2)]) hx hb dX8_find_23 hl (by decide) rfl (fun ls hl => ?_)
  refine w_X8_find_25 l G q  out C (fun w7_v4 w7_s0_0 w7_s0_1 w7_s0_2 w7_s0_3 w7_s0_4 w7_s0_5 hf H locs ls hW hl => ?_) FU 1 u1 t0.2.1 t0.2.2.1 a0 a1 a2 hf _ _ _ hW (lv_sub hl [1, 0] rfl)
  refine lv_iconst (v := 0) hx hb dX8_find_77 (by decide) ?_
  obtain rfl := Option.some.inj hf
  exact zk_zret false C hW rfl dX8_find_78
