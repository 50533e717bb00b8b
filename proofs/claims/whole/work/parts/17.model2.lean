set_option maxHeartbeats 4000000 in
set_option maxRecDepth 100000 in
theorem c_X10_listenerOf (l : Launch) (G : GG) (q : Nat → Nat) (m0 : (Nat → Int32)) (m1 : Int32) (m2 : Int32) (m3 : Int32) (m4 : Int32) (m5 : Int32) (m6 : Int32) (m7 : Int32) (m8 : (Nat → Int32)) (m9 : Int32) (m10 : (Nat → Int32)) (m11 : Int32) (m12 : Bool) (m13 : Int32) (m14 : Int32) (m15 : Bool) (m16 : Int32) (m17 : (Nat → Int32)) (m18 : Int32) (m19 : (Nat → Int32)) (m20 : (Nat → Int32)) (m21 : Int32) (m22 : Int32) (m23 : Int32) (m24 : Int32) (m25 : Int32) (m26 : Int32) (m27 : (Nat → Int32)) (m28 : (Nat → Int32)) (m29 : Int64) (a0 : Int32) (a1 : Int32) (out : Int32 × Int32 × Bool × Int32 × Int32 × Bool) (hf : f_X10_listenerOf m4 m5 m8 m10 m11 m12 m13 m14 m15 a0 a1 = some out) : CtI G l yX10_listenerOf (Cond.code yX10_listenerOf cX10_listenerOf 4 (some .int) :: WL) (zR 2 53) [.ref (q 0), .int a0, .int a1] (wX10 G q m0 m1 m2 m3 m4 m5 m6 m7 m8 m9 m10 m11 m12 m13 m14 m15 m16 m17 m18 m19 m20 m21 m22 m23 m24 m25 m26 m27 m28 m29) out.1 (wX10 G q m0 m1 m2 m3 m4 m5 m6 m7 m8 m9 m10 out.2.1 out.2.2.1 out.2.2.2.1 out.2.2.2.2.1 out.2.2.2.2.2 m16 m17 m18 m19 m20 m21 m22 m23 m24 m25 m26 m27 m28 m29) := by
  refine CtI.mk (cc := cX10_listenerOf) (nL := 4) (rt := (some .int)) (own := RX10) (nm := "listenerOf") (by decide) rfl rfl (Nat.le_of_ble_eq_true rfl) ?_
  intro p e s m below meth c A ls C hW hl
  have hx := C.1
  have hb := C.2.1
  have hl : lv_has ls 4 [(0, .ref (q 0)), (1, .int a0), (2, .int a1)] := hl
  unfold f_X10_listenerOf at hf
  refine lv_iload_n hx hb dX10_listenerOf_0 rfl (lv_at hl 2 rfl) ?_
  refine lv_if_ne (tgt := 11) hx hb dX10_listenerOf_1 (by decide) (fun c1 => ?_) (fun c1 => ?_)
  · have hf := ineg c1 hf
    refine lv_iload_n hx hb dX10_listenerOf_11 rfl (lv_at hl 2 rfl) ?_
    refine lv_i2l (v := (Int32.toInt64 a1)) hx hb dX10_listenerOf_12 rfl ?_
    refine lv_lconst (v := 1) hx hb dX10_listenerOf_13 (by decide) ?_
    refine lv_ldc2 hx hb C.2.2.2.1 (C.2.2.2.2.1 _ klX10_131) dX10_listenerOf_14 ?_
    obtain ⟨u2, eu2, hf⟩ := bnd hf
    refine zk_callSI (As := [.long (Int32.toInt64 a1), .long 1, .long 6]) (rest := []) (W1 := wX10 G q m0 m1 m2 m3 m4 m5 m6 m7 m8 m9 m10 m11 m12 m13 m14 m15 m16 m17 m18 m19 m20 m21 m22 m23 m24 m25 m26 m27 m28 m29) C hW hl msX10_40 (c_X10_in l G (Int32.toInt64 a1) 1 6 u2 eu2) ⟨(Nat.le_of_ble_eq_true rfl), (Nat.le_of_ble_eq_true rfl)⟩ ⟨rfl, rfl⟩ [] rfl rfl rfl (Nat.le_of_ble_eq_true rfl) (Nat.le_of_ble_eq_true rfl) rfl dX10_listenerOf_17 ⟨Nat.zero_le _, Nat.zero_le _⟩ (fun H locs hW => ?_)
    refine lv_if_ne (tgt := 26) hx hb dX10_listenerOf_20 (by decide) (fun c3 => ?_) (fun c3 => ?_)
    · have hf := ineg c3 hf
      refine lv_aload_n hx hb dX10_listenerOf_26 rfl (lv_at hl 0 rfl) ?_
      refine lv_aload_n hx hb dX10_listenerOf_27 rfl (lv_at hl 0 rfl) ?_
      refine zk_get C hW fgX10_13 0 rfl rfl dX10_listenerOf_28 ?_
      refine lv_aload_n hx hb dX10_listenerOf_31 rfl (lv_at hl 0 rfl) ?_
      refine zk_get C hW fgX10_69 0 rfl rfl dX10_listenerOf_32 ?_
      refine lv_aload_n hx hb dX10_listenerOf_35 rfl (lv_at hl 0 rfl) ?_
      refine zk_get C hW fgX10_16 0 rfl rfl dX10_listenerOf_36 ?_
      refine lv_iload_n hx hb dX10_listenerOf_39 rfl (lv_at hl 1 rfl) ?_
      obtain ⟨g4, hf⟩ := grd hf
      refine zk_iald C hW 3 g4 rfl dX10_listenerOf_40 ?_
      refine lv_iload_n hx hb dX10_listenerOf_41 rfl (lv_at hl 2 rfl) ?_
      refine lv_iconst (v := 3) hx hb dX10_listenerOf_42 (by decide) ?_
      refine lv_icmp_le (tgt := 50) hx hb dX10_listenerOf_43 (by decide) (fun c5 => ?_) (fun c5 => ?_)
      · have hf := ipos c5 hf
        refine lv_iconst (v := 0) hx hb dX10_listenerOf_50 (by decide) ?_
        refine lv_aload_n hx hb dX10_listenerOf_51 rfl (lv_at hl 0 rfl) ?_
        refine zk_get C hW fgX10_72 0 rfl rfl dX10_listenerOf_52 ?_
        obtain ⟨u6, eu6, hf⟩ := bnd hf
        refine zk_callV (As := [.ref (q 2), .int m4, .int (m10 (Int32.toNatClampNeg a0)), .int (bI false), .int m5]) (rest := []) (W1 := wX10 G q m0 m1 m2 m3 m4 m5 m6 m7 m8 m9 m10 u6.1 u6.2.1 u6.2.2.1 u6.2.2.2.1 u6.2.2.2.2 m16 m17 m18 m19 m20 m21 m22 m23 m24 m25 m26 m27 m28 m29) C hW hl mvX10_133 (c_X10_read l G q (q 2) m1 m2 m3 m4 m5 m6 m7 m9 m11 m12 m13 m14 m15 m16 m18 m21 m22 m23 m24 m25 m26 m29 9 m8 m4 (m10 (Int32.toNatClampNeg a0)) false m5 u6 eu6) ⟨(Nat.le_of_ble_eq_true rfl), (Nat.le_of_ble_eq_true rfl)⟩ ⟨rfl, rfl⟩ [0, 2] rfl rfl rfl rfl (Nat.le_of_ble_eq_true rfl) (Nat.le_of_ble_eq_true rfl) rfl dX10_listenerOf_55 ⟨Nat.zero_le _, Nat.zero_le _⟩ (fun H locs hW => ?_)
        refine lv_iload_n hx hb dX10_listenerOf_58 rfl (lv_at hl 2 rfl) ?_
        refine lv_iconst (v := 3) hx hb dX10_listenerOf_59 (by decide) ?_
        refine lv_icmp_le (tgt := 69) hx hb dX10_listenerOf_60 (by decide) (fun c7 => ?_) (fun c7 => ?_)
        · have hf := ipos c7 hf
          refine lv_iload_n hx hb dX10_listenerOf_69 rfl (lv_at hl 2 rfl) ?_
          refine lv_istore_n (lv' := [(3, .int a1), (0, .ref (q 0)), (1, .int a0), (2, .int a1)]) hx hb dX10_listenerOf_70 rfl hl (by decide) rfl (fun ls hl => ?_)
          refine lv_iload_n hx hb dX10_listenerOf_71 rfl (lv_at hl 0 rfl) ?_
          refine lv_iconst (v := 1) hx hb dX10_listenerOf_72 (by decide) ?_
          refine lv_icmp_ne (tgt := 83) hx hb dX10_listenerOf_73 (by decide) (fun c8 => ?_) (fun c8 => ?_)
          · have hf := ineg c8 hf
            refine lv_iload_n hx hb dX10_listenerOf_83 rfl (lv_at hl 0 rfl) ?_
            refine lv_iconst (v := 2) hx hb dX10_listenerOf_84 (by decide) ?_
            refine lv_icmp_ne (tgt := 98) hx hb dX10_listenerOf_85 (by decide) (fun c9 => ?_) (fun c9 => ?_)
            · have hf := ineg c9 hf
              refine lv_aload_n hx hb dX10_listenerOf_98 rfl (lv_at hl 1 rfl) ?_
              refine zk_get C hW fgX10_100 0 rfl rfl dX10_listenerOf_99 ?_
              refine lv_if_eq (tgt := 109) hx hb dX10_listenerOf_102 (by decide) (fun c10 => ?_) (fun c10 => ?_)
              · have hf := ipos c10 hf
                refine lv_iconst (v := 0) hx hb dX10_listenerOf_109 (by decide) ?_
                obtain rfl := Option.some.inj hf
                exact zk_iret C hW rfl dX10_listenerOf_110
              · have hf := ineg c10 hf
                refine lv_iconst (v := 1) hx hb dX10_listenerOf_105 (by decide) ?_
                refine lv_goto (tgt := 110) hx hb dX10_listenerOf_106 (by decide) ?_
                obtain rfl := Option.some.inj hf
                exact zk_iret C hW rfl dX10_listenerOf_110
            · have hf := ipos c9 hf
              refine lv_bipush (v := 100) hx hb dX10_listenerOf_88 (by decide) ?_
              refine lv_aload_n hx hb dX10_listenerOf_90 rfl (lv_at hl 1 rfl) ?_
              refine zk_get C hW fgX10_87 0 rfl rfl dX10_listenerOf_91 ?_
              refine lv_iadd hx hb dX10_listenerOf_94 ?_
              refine lv_goto (tgt := 110) hx hb dX10_listenerOf_95 (by decide) ?_
              obtain rfl := Option.some.inj hf
              exact zk_iret C hW rfl dX10_listenerOf_110
          · have hf := ipos c8 hf
            refine lv_aload_n hx hb dX10_listenerOf_76 rfl (lv_at hl 1 rfl) ?_
            refine zk_get C hW fgX10_97 0 rfl rfl dX10_listenerOf_77 ?_
            refine lv_goto (tgt := 110) hx hb dX10_listenerOf_80 (by decide) ?_
            obtain rfl := Option.some.inj hf
            exact zk_iret C hW rfl dX10_listenerOf_110
        · have hf := ineg c7 hf
          refine lv_iload_n hx hb dX10_listenerOf_63 rfl (lv_at hl 2 rfl) ?_
          refine lv_iconst (v := 3) hx hb dX10_listenerOf_64 (by decide) ?_
          refine lv_isub hx hb dX10_listenerOf_65 ?_
          refine lv_goto (tgt := 70) hx hb dX10_listenerOf_66 (by decide) ?_
          refine lv_istore_n (lv' := [(3, .int (a1 - 3)), (0, .ref (q 0)), (1, .int a0), (2, .int a1)]) hx hb dX10_listenerOf_70 rfl hl (by decide) rfl (fun ls hl => ?_)
          refine lv_iload_n hx hb dX10_listenerOf_71 rfl (lv_at hl 0 rfl) ?_
          refine lv_iconst (v := 1) hx hb dX10_listenerOf_72 (by decide) ?_
          refine lv_icmp_ne (tgt := 83) hx hb dX10_listenerOf_73 (by decide) (fun c11 => ?_) (fun c11 => ?_)
          · have hf := ineg c11 hf
            refine lv_iload_n hx hb dX10_listenerOf_83 rfl (lv_at hl 0 rfl) ?_
            refine lv_iconst (v := 2) hx hb dX10_listenerOf_84 (by decide) ?_
            refine lv_icmp_ne (tgt := 98) hx hb dX10_listenerOf_85 (by decide) (fun c12 => ?_) (fun c12 => ?_)
            · have hf := ineg c12 hf
              refine lv_aload_n hx hb dX10_listenerOf_98 rfl (lv_at hl 1 rfl) ?_
              refine zk_get C hW fgX10_100 0 rfl rfl dX10_listenerOf_99 ?_
              refine lv_if_eq (tgt := 109) hx hb dX10_listenerOf_102 (by decide) (fun c13 => ?_) (fun c13 => ?_)
              · have hf := ipos c13 hf
                refine lv_iconst (v := 0) hx hb dX10_listenerOf_109 (by decide) ?_
                obtain rfl := Option.some.inj hf
                exact zk_iret C hW rfl dX10_listenerOf_110
              · have hf := ineg c13 hf
                refine lv_iconst (v := 1) hx hb dX10_listenerOf_105 (by decide) ?_
                refine lv_goto (tgt := 110) hx hb dX10_listenerOf_106 (by decide) ?_
                obtain rfl := Option.some.inj hf
                exact zk_iret C hW rfl dX10_listenerOf_110
            · have hf := ipos c12 hf
              refine lv_bipush (v := 100) hx hb dX10_listenerOf_88 (by decide) ?_
              refine lv_aload_n hx hb dX10_listenerOf_90 rfl (lv_at hl 1 rfl) ?_
              refine zk_get C hW fgX10_87 0 rfl rfl dX10_listenerOf_91 ?_
              refine lv_iadd hx hb dX10_listenerOf_94 ?_
              refine lv_goto (tgt := 110) hx hb dX10_listenerOf_95 (by decide) ?_
              obtain rfl := Option.some.inj hf
              exact zk_iret C hW rfl dX10_listenerOf_110
          · have hf := ipos c11 hf
            refine lv_aload_n hx hb dX10_listenerOf_76 rfl (lv_at hl 1 rfl) ?_
            refine zk_get C hW fgX10_97 0 rfl rfl dX10_listenerOf_77 ?_
            refine lv_goto (tgt := 110) hx hb dX10_listenerOf_80 (by decide) ?_
            obtain rfl := Option.some.inj hf
            exact zk_iret C hW rfl dX10_listenerOf_110
      · have hf := ineg c5 hf
        refine lv_iconst (v := 1) hx hb dX10_listenerOf_46 (by decide) ?_
        refine lv_goto (tgt := 51) hx hb dX10_listenerOf_47 (by decide) ?_
        refine lv_aload_n hx hb dX10_listenerOf_51 rfl (lv_at hl 0 rfl) ?_
        refine zk_get C hW fgX10_72 0 rfl rfl dX10_listenerOf_52 ?_
        obtain ⟨u14, eu14, hf⟩ := bnd hf
        refine zk_callV (As := [.ref (q 2), .int m4, .int (m10 (Int32.toNatClampNeg a0)), .int (bI true), .int m5]) (rest := []) (W1 := wX10 G q m0 m1 m2 m3 m4 m5 m6 m7 m8 m9 m10 u14.1 u14.2.1 u14.2.2.1 u14.2.2.2.1 u14.2.2.2.2 m16 m17 m18 m19 m20 m21 m22 m23 m24 m25 m26 m27 m28 m29) C hW hl mvX10_133 (c_X10_read l G q (q 2) m1 m2 m3 m4 m5 m6 m7 m9 m11 m12 m13 m14 m15 m16 m18 m21 m22 m23 m24 m25 m26 m29 9 m8 m4 (m10 (Int32.toNatClampNeg a0)) true m5 u14 eu14) ⟨(Nat.le_of_ble_eq_true rfl), (Nat.le_of_ble_eq_true rfl)⟩ ⟨rfl, rfl⟩ [0, 2] rfl rfl rfl rfl (Nat.le_of_ble_eq_true rfl) (Nat.le_of_ble_eq_true rfl) rfl dX10_listenerOf_55 ⟨Nat.zero_le _, Nat.zero_le _⟩ (fun H locs hW => ?_)
        refine lv_iload_n hx hb dX10_listenerOf_58 rfl (lv_at hl 2 rfl) ?_
        refine lv_iconst (v := 3) hx hb dX10_listenerOf_59 (by decide) ?_
        refine lv_icmp_le (tgt := 69) hx hb dX10_listenerOf_60 (by decide) (fun c15 => ?_) (fun c15 => ?_)
        · have hf := ipos c15 hf
          refine lv_iload_n hx hb dX10_listenerOf_69 rfl (lv_at hl 2 rfl) ?_
          refine lv_istore_n (lv' := [(3, .int a1), (0, .ref (q 0)), (1, .int a0), (2, .int a1)]) hx hb dX10_listenerOf_70 rfl hl (by decide) rfl (fun ls hl => ?_)
          refine lv_iload_n hx hb dX10_listenerOf_71 rfl (lv_at hl 0 rfl) ?_
          refine lv_iconst (v := 1) hx hb dX10_listenerOf_72 (by decide) ?_
          refine lv_icmp_ne (tgt := 83) hx hb dX10_listenerOf_73 (by decide) (fun c16 => ?_) (fun c16 => ?_)
          · have hf := ineg c16 hf
            refine lv_iload_n hx hb dX10_listenerOf_83 rfl (lv_at hl 0 rfl) ?_
            refine lv_iconst (v := 2) hx hb dX10_listenerOf_84 (by decide) ?_
            refine lv_icmp_ne (tgt := 98) hx hb dX10_listenerOf_85 (by decide) (fun c17 => ?_) (fun c17 => ?_)
            · have hf := ineg c17 hf
              refine lv_aload_n hx hb dX10_listenerOf_98 rfl (lv_at hl 1 rfl) ?_
              refine zk_get C hW fgX10_100 0 rfl rfl dX10_listenerOf_99 ?_
              refine lv_if_eq (tgt := 109) hx hb dX10_listenerOf_102 (by decide) (fun c18 => ?_) (fun c18 => ?_)
              · have hf := ipos c18 hf
                refine lv_iconst (v := 0) hx hb dX10_listenerOf_109 (by decide) ?_
                obtain rfl := Option.some.inj hf
                exact zk_iret C hW rfl dX10_listenerOf_110
              · have hf := ineg c18 hf
                refine lv_iconst (v := 1) hx hb dX10_listenerOf_105 (by decide) ?_
                refine lv_goto (tgt := 110) hx hb dX10_listenerOf_106 (by decide) ?_
                obtain rfl := Option.some.inj hf
                exact zk_iret C hW rfl dX10_listenerOf_110
            · have hf := ipos c17 hf
              refine lv_bipush (v := 100) hx hb dX10_listenerOf_88 (by decide) ?_
              refine lv_aload_n hx hb dX10_listenerOf_90 rfl (lv_at hl 1 rfl) ?_
              refine zk_get C hW fgX10_87 0 rfl rfl dX10_listenerOf_91 ?_
              refine lv_iadd hx hb dX10_listenerOf_94 ?_
              refine lv_goto (tgt := 110) hx hb dX10_listenerOf_95 (by decide) ?_
              obtain rfl := Option.some.inj hf
              exact zk_iret C hW rfl dX10_listenerOf_110
          · have hf := ipos c16 hf
            refine lv_aload_n hx hb dX10_listenerOf_76 rfl (lv_at hl 1 rfl) ?_
            refine zk_get C hW fgX10_97 0 rfl rfl dX10_listenerOf_77 ?_
            refine lv_goto (tgt := 110) hx hb dX10_listenerOf_80 (by decide) ?_
            obtain rfl := Option.some.inj hf
            exact zk_iret C hW rfl dX10_listenerOf_110
        · have hf := ineg c15 hf
          refine lv_iload_n hx hb dX10_listenerOf_63 rfl (lv_at hl 2 rfl) ?_
          refine lv_iconst (v := 3) hx hb dX10_listenerOf_64 (by decide) ?_
          refine lv_isub hx hb dX10_listenerOf_65 ?_
          refine lv_goto (tgt := 70) hx hb dX10_listenerOf_66 (by decide) ?_
          refine lv_istore_n (lv' := [(3, .int (a1 - 3)), (0, .ref (q 0)), (1, .int a0), (2, .int a1)]) hx hb dX10_listenerOf_70 rfl hl (by decide) rfl (fun ls hl => ?_)
          refine lv_iload_n hx hb dX10_listenerOf_71 rfl (lv_at hl 0 rfl) ?_
          refine lv_iconst (v := 1) hx hb dX10_listenerOf_72 (by decide) ?_
          refine lv_icmp_ne (tgt := 83) hx hb dX10_listenerOf_73 (by decide) (fun c19 => ?_) (fun c19 => ?_)
          · have hf := ineg c19 hf
            refine lv_iload_n hx hb dX10_listenerOf_83 rfl (lv_at hl 0 rfl) ?_
            refine lv_iconst (v := 2) hx hb dX10_listenerOf_84 (by decide) ?_
            refine lv_icmp_ne (tgt := 98) hx hb dX10_listenerOf_85 (by decide) (fun c20 => ?_) (fun c20 => ?_)
            · have hf := ineg c20 hf
              refine lv_aload_n hx hb dX10_listenerOf_98 rfl (lv_at hl 1 rfl) ?_
              refine zk_get C hW fgX10_100 0 rfl rfl dX10_listenerOf_99 ?_
              refine lv_if_eq (tgt := 109) hx hb dX10_listenerOf_102 (by decide) (fun c21 => ?_) (fun c21 => ?_)
              · have hf := ipos c21 hf
                refine lv_iconst (v := 0) hx hb dX10_listenerOf_109 (by decide) ?_
                obtain rfl := Option.some.inj hf
                exact zk_iret C hW rfl dX10_listenerOf_110
              · have hf := ineg c21 hf
                refine lv_iconst (v := 1) hx hb dX10_listenerOf_105 (by decide) ?_
                refine lv_goto (tgt := 110) hx hb dX10_listenerOf_106 (by decide) ?_
                obtain rfl := Option.some.inj hf
                exact zk_iret C hW rfl dX10_listenerOf_110
            · have hf := ipos c20 hf
              refine lv_bipush (v := 100) hx hb dX10_listenerOf_88 (by decide) ?_
              refine lv_aload_n hx hb dX10_listenerOf_90 rfl (lv_at hl 1 rfl) ?_
              refine zk_get C hW fgX10_87 0 rfl rfl dX10_listenerOf_91 ?_
              refine lv_iadd hx hb dX10_listenerOf_94 ?_
              refine lv_goto (tgt := 110) hx hb dX10_listenerOf_95 (by decide) ?_
              obtain rfl := Option.some.inj hf
              exact zk_iret C hW rfl dX10_listenerOf_110
          · have hf := ipos c19 hf
            refine lv_aload_n hx hb dX10_listenerOf_76 rfl (lv_at hl 1 rfl) ?_
            refine zk_get C hW fgX10_97 0 rfl rfl dX10_listenerOf_77 ?_
            refine lv_goto (tgt := 110) hx hb dX10_listenerOf_80 (by decide) ?_
            obtain rfl := Option.some.inj hf
            exact zk_iret C hW rfl dX10_listenerOf_110
    · have hf := ipos c3 hf
      refine lv_bipush (v := (-102)) hx hb dX10_listenerOf_23 (by decide) ?_
      obtain rfl := Option.some.inj hf
      exact zk_iret C hW rfl dX10_listenerOf_25
  · have hf := ipos c1 hf
    refine lv_aload_n hx hb dX10_listenerOf_4 rfl (lv_at hl 0 rfl) ?_
    refine zk_get C hW fgX10_16 0 rfl rfl dX10_listenerOf_5 ?_
    refine lv_iload_n hx hb dX10_listenerOf_8 rfl (lv_at hl 1 rfl) ?_
    obtain ⟨g22, hf⟩ := grd hf
    refine zk_iald C hW 3 g22 rfl dX10_listenerOf_9 ?_
    obtain rfl := Option.some.inj hf
    exact zk_iret C hW rfl dX10_listenerOf_10

set_option maxHeartbeats 4000000 in
set_option maxRecDepth 100000 in
theorem c_X10_about (l : Launch) (G : GG) (q : Nat → Nat) (m0 : (Nat → Int32)) (m1 : Int32) (m2 : Int32) (m3 : Int32) (m4 : Int32) (m5 : Int32) (m6 : Int32) (m7 : Int32) (m8 : (Nat → Int32)) (m9 : Int32) (m10 : (Nat → Int32)) (m11 : Int32) (m12 : Bool) (m13 : Int32) (m14 : Int32) (m15 : Bool) (m16 : Int32) (m17 : (Nat → Int32)) (m18 : Int32) (m19 : (Nat → Int32)) (m20 : (Nat → Int32)) (m21 : Int32) (m22 : Int32) (m23 : Int32) (m24 : Int32) (m25 : Int32) (m26 : Int32) (m27 : (Nat → Int32)) (m28 : (Nat → Int32)) (m29 : Int64) (a0 : Int32) (a1 : Int32) (out : Int32 × Int32 × Bool × Int32 × Int32 × Bool) (hf : f_X10_about m4 m5 m8 m9 m10 m11 m12 m13 m14 m15 a0 a1 = some out) : CtI G l yX10_about (Cond.code yX10_about cX10_about 3 (some .int) :: WL) (zR 3 76) [.ref (q 0), .int a0, .int a1] (wX10 G q m0 m1 m2 m3 m4 m5 m6 m7 m8 m9 m10 m11 m12 m13 m14 m15 m16 m17 m18 m19 m20 m21 m22 m23 m24 m25 m26 m27 m28 m29) out.1 (wX10 G q m0 m1 m2 m3 m4 m5 m6 m7 m8 m9 m10 out.2.1 out.2.2.1 out.2.2.2.1 out.2.2.2.2.1 out.2.2.2.2.2 m16 m17 m18 m19 m20 m21 m22 m23 m24 m25 m26 m27 m28 m29) := by
  refine CtI.mk (cc := cX10_about) (nL := 3) (rt := (some .int)) (own := RX10) (nm := "about") (by decide) rfl rfl (Nat.le_of_ble_eq_true rfl) ?_
  intro p e s m below meth c A ls C hW hl
  have hx := C.1
  have hb := C.2.1
  have hl : lv_has ls 3 [(0, .ref (q 0)), (1, .int a0), (2, .int a1)] := hl
  unfold f_X10_about at hf
  refine lv_aload_n hx hb dX10_about_0 rfl (lv_at hl 0 rfl) ?_
  refine lv_iload_n hx hb dX10_about_1 rfl (lv_at hl 1 rfl) ?_
  obtain ⟨u1, eu1, hf⟩ := bnd hf
  refine zk_callBI (As := [.int a0]) (rest := []) (W1 := wX10 G q m0 m1 m2 m3 m4 m5 m6 m7 m8 m9 m10 m11 m12 m13 m14 m15 m16 m17 m18 m19 m20 m21 m22 m23 m24 m25 m26 m27 m28 m29) C hW hl mvX10_137 (c_X10_isListener l G q m0 m1 m2 m3 m4 m5 m6 m7 m8 m9 m10 m11 m12 m13 m14 m15 m16 m17 m18 m19 m20 m21 m22 m23 m24 m25 m26 m27 m28 m29 a0 u1 eu1) ⟨(Nat.le_of_ble_eq_true rfl), (Nat.le_of_ble_eq_true rfl)⟩ ⟨rfl, rfl⟩ ([]) ([]) zE1 rfl rfl (Nat.le_of_ble_eq_true rfl) zE1r dX10_about_2 ⟨Nat.zero_le _, Nat.zero_le _⟩ (fun H locs hW => ?_)
  refine lv_if_eq (tgt := 17) hx hb dX10_about_5 (by decide) (fun c2 => ?_) (fun c2 => ?_)
  · have hf := ipos c2 hf
    refine lv_bipush (v := (-101)) hx hb dX10_about_17 (by decide) ?_
    obtain rfl := Option.some.inj hf
    exact zk_iret C hW rfl dX10_about_19
  · have hf := ineg c2 hf
    refine lv_aload_n hx hb dX10_about_8 rfl (lv_at hl 0 rfl) ?_
    refine lv_iload_n hx hb dX10_about_9 rfl (lv_at hl 1 rfl) ?_
    refine lv_iload_n hx hb dX10_about_10 rfl (lv_at hl 2 rfl) ?_
    obtain ⟨u3, eu3, hf⟩ := bnd hf
    refine zk_callBI (As := [.int a0, .int a1]) (rest := []) (W1 := wX10 G q m0 m1 m2 m3 m4 m5 m6 m7 m8 m9 m10 u3.2.1 u3.2.2.1 u3.2.2.2.1 u3.2.2.2.2.1 u3.2.2.2.2.2 m16 m17 m18 m19 m20 m21 m22 m23 m24 m25 m26 m27 m28 m29) C hW hl mvX10_140 (c_X10_listenerOf l G q m0 m1 m2 m3 m4 m5 m6 m7 m8 m9 m10 m11 m12 m13 m14 m15 m16 m17 m18 m19 m20 m21 m22 m23 m24 m25 m26 m27 m28 m29 a0 a1 u3 eu3) ⟨(Nat.le_of_ble_eq_true rfl), (Nat.le_of_ble_eq_true rfl)⟩ ⟨rfl, rfl⟩ ([]) ([]) zE1 rfl rfl (Nat.le_of_ble_eq_true rfl) zE1r dX10_about_11 ⟨Nat.zero_le _, Nat.zero_le _⟩ (fun H locs hW => ?_)
    refine lv_goto (tgt := 19) hx hb dX10_about_14 (by decide) ?_
    obtain rfl := Option.some.inj hf
    exact zk_iret C hW rfl dX10_about_19

set_option maxHeartbeats 4000000 in
set_option maxRecDepth 100000 in
theorem c_X10_as (l : Launch) (G : GG) (q : Nat → Nat) (m0 : (Nat → Int32)) (m1 : Int32) (m2 : Int32) (m3 : Int32) (m4 : Int32) (m5 : Int32) (m6 : Int32) (m7 : Int32) (m8 : (Nat → Int32)) (m9 : Int32) (m10 : (Nat → Int32)) (m11 : Int32) (m12 : Bool) (m13 : Int32) (m14 : Int32) (m15 : Bool) (m16 : Int32) (m17 : (Nat → Int32)) (m18 : Int32) (m19 : (Nat → Int32)) (m20 : (Nat → Int32)) (m21 : Int32) (m22 : Int32) (m23 : Int32) (m24 : Int32) (m25 : Int32) (m26 : Int32) (m27 : (Nat → Int32)) (m28 : (Nat → Int32)) (m29 : Int64) (a0 : Int32) (a1 : Int32) (out : Int32) (hf : f_X10_as m9 m10 a0 a1 = some out) : CtI G l yX10_as (Cond.code yX10_as cX10_as 5 (some .int) :: WL) (zR 2 46) [.ref (q 0), .int a0, .int a1] (wX10 G q m0 m1 m2 m3 m4 m5 m6 m7 m8 m9 m10 m11 m12 m13 m14 m15 m16 m17 m18 m19 m20 m21 m22 m23 m24 m25 m26 m27 m28 m29) out (wX10 G q m0 m1 m2 m3 m4 m5 m6 m7 m8 m9 m10 m11 m12 m13 m14 m15 m16 m17 m18 m19 m20 m21 m22 m23 m24 m25 m26 m27 m28 m29) := by
  refine CtI.mk (cc := cX10_as) (nL := 5) (rt := (some .int)) (own := RX10) (nm := "as") (by decide) rfl rfl (Nat.le_of_ble_eq_true rfl) ?_
  intro p e s m below meth c A ls C hW hl
  have hx := C.1
  have hb := C.2.1
  have hl : lv_has ls 5 [(0, .ref (q 0)), (1, .int a0), (2, .int a1)] := hl
  unfold f_X10_as at hf
  refine lv_aload_n hx hb dX10_as_0 rfl (lv_at hl 0 rfl) ?_
  refine lv_iload_n hx hb dX10_as_1 rfl (lv_at hl 1 rfl) ?_
  obtain ⟨u1, eu1, hf⟩ := bnd hf
  refine zk_callBI (As := [.int a0]) (rest := []) (W1 := wX10 G q m0 m1 m2 m3 m4 m5 m6 m7 m8 m9 m10 m11 m12 m13 m14 m15 m16 m17 m18 m19 m20 m21 m22 m23 m24 m25 m26 m27 m28 m29) C hW hl mvX10_137 (c_X10_isListener l G q m0 m1 m2 m3 m4 m5 m6 m7 m8 m9 m10 m11 m12 m13 m14 m15 m16 m17 m18 m19 m20 m21 m22 m23 m24 m25 m26 m27 m28 m29 a0 u1 eu1) ⟨(Nat.le_of_ble_eq_true rfl), (Nat.le_of_ble_eq_true rfl)⟩ ⟨rfl, rfl⟩ ([]) ([]) zE1 rfl rfl (Nat.le_of_ble_eq_true rfl) zE1r dX10_as_2 ⟨Nat.zero_le _, Nat.zero_le _⟩ (fun H locs hW => ?_)
  refine lv_if_ne (tgt := 11) hx hb dX10_as_5 (by decide) (fun c2 => ?_) (fun c2 => ?_)
  · have hf := ineg c2 hf
    refine lv_iload_n hx hb dX10_as_11 rfl (lv_at hl 2 rfl) ?_
    refine lv_i2l (v := (Int32.toInt64 a1)) hx hb dX10_as_12 rfl ?_
    refine lv_lconst (v := 0) hx hb dX10_as_13 (by decide) ?_
    refine lv_ldc2 hx hb C.2.2.2.1 (C.2.2.2.2.1 _ klX10_129) dX10_as_14 ?_
    obtain ⟨u3, eu3, hf⟩ := bnd hf
    refine zk_callSI (As := [.long (Int32.toInt64 a1), .long 0, .long 4]) (rest := []) (W1 := wX10 G q m0 m1 m2 m3 m4 m5 m6 m7 m8 m9 m10 m11 m12 m13 m14 m15 m16 m17 m18 m19 m20 m21 m22 m23 m24 m25 m26 m27 m28 m29) C hW hl msX10_40 (c_X10_in l G (Int32.toInt64 a1) 0 4 u3 eu3) ⟨(Nat.le_of_ble_eq_true rfl), (Nat.le_of_ble_eq_true rfl)⟩ ⟨rfl, rfl⟩ [] rfl rfl rfl (Nat.le_of_ble_eq_true rfl) (Nat.le_of_ble_eq_true rfl) rfl dX10_as_17 ⟨Nat.zero_le _, Nat.zero_le _⟩ (fun H locs hW => ?_)
    refine lv_if_ne (tgt := 26) hx hb dX10_as_20 (by decide) (fun c4 => ?_) (fun c4 => ?_)
    · have hf := ineg c4 hf
      refine lv_aload_n hx hb dX10_as_26 rfl (lv_at hl 0 rfl) ?_
      refine zk_get C hW fgX10_16 0 rfl rfl dX10_as_27 ?_
      refine lv_iload_n hx hb dX10_as_30 rfl (lv_at hl 1 rfl) ?_
      obtain ⟨g5, hf⟩ := grd hf
      refine zk_iald C hW 3 g5 rfl dX10_as_31 ?_
      refine lv_istore_n (lv' := [(3, .int (m10 (Int32.toNatClampNeg a0))), (0, .ref (q 0)), (1, .int a0), (2, .int a1)]) hx hb dX10_as_32 rfl hl (by decide) rfl (fun ls hl => ?_)
      refine lv_iload_n hx hb dX10_as_33 rfl (lv_at hl 3 rfl) ?_
      refine lv_if_eq (tgt := 52) hx hb dX10_as_34 (by decide) (fun c6 => ?_) (fun c6 => ?_)
      · have hf := ipos c6 hf
        refine lv_iconst (v := 1) hx hb dX10_as_52 (by decide) ?_
        refine lv_goto (tgt := 57) hx hb dX10_as_53 (by decide) ?_
        refine lv_istore (lv' := [(4, .int 1), (3, .int (m10 (Int32.toNatClampNeg a0))), (0, .ref (q 0)), (1, .int a0), (2, .int a1)]) hx hb dX10_as_57 hl (by decide) rfl (fun ls hl => ?_)
        refine lv_iload hx hb dX10_as_59 (lv_at hl 0 rfl) ?_
        refine lv_if_eq (tgt := 68) hx hb dX10_as_61 (by decide) (fun c7 => ?_) (fun c7 => ?_)
        · exact absurd c7 (by decide)
        · refine lv_iload_n hx hb dX10_as_64 rfl (lv_at hl 3 rfl) ?_
          refine lv_goto (tgt := 69) hx hb dX10_as_65 (by decide) ?_
          obtain rfl := Option.some.inj hf
          exact zk_iret C hW rfl dX10_as_69
      · have hf := ineg c6 hf
        refine lv_iload_n hx hb dX10_as_37 rfl (lv_at hl 3 rfl) ?_
        refine lv_iload_n hx hb dX10_as_38 rfl (lv_at hl 0 rfl) ?_
        refine lv_icmp_eq (tgt := 52) hx hb dX10_as_39 (by decide) (fun c8 => ?_) (fun c8 => ?_)
        · have hf := ipos c8 hf
          refine lv_iconst (v := 1) hx hb dX10_as_52 (by decide) ?_
          refine lv_goto (tgt := 57) hx hb dX10_as_53 (by decide) ?_
          refine lv_istore (lv' := [(4, .int 1), (3, .int (m10 (Int32.toNatClampNeg a0))), (0, .ref (q 0)), (1, .int a0), (2, .int a1)]) hx hb dX10_as_57 hl (by decide) rfl (fun ls hl => ?_)
          refine lv_iload hx hb dX10_as_59 (lv_at hl 0 rfl) ?_
          refine lv_if_eq (tgt := 68) hx hb dX10_as_61 (by decide) (fun c9 => ?_) (fun c9 => ?_)
          · exact absurd c9 (by decide)
          · refine lv_iload_n hx hb dX10_as_64 rfl (lv_at hl 3 rfl) ?_
            refine lv_goto (tgt := 69) hx hb dX10_as_65 (by decide) ?_
            obtain rfl := Option.some.inj hf
            exact zk_iret C hW rfl dX10_as_69
        · have hf := ineg c8 hf
          refine lv_iload_n hx hb dX10_as_42 rfl (lv_at hl 3 rfl) ?_
          refine lv_iconst (v := 1) hx hb dX10_as_43 (by decide) ?_
          refine lv_icmp_ne (tgt := 56) hx hb dX10_as_44 (by decide) (fun c10 => ?_) (fun c10 => ?_)
          · have hf := ineg c10 hf
            refine lv_iconst (v := 0) hx hb dX10_as_56 (by decide) ?_
            refine lv_istore (lv' := [(4, .int 0), (3, .int (m10 (Int32.toNatClampNeg a0))), (0, .ref (q 0)), (1, .int a0), (2, .int a1)]) hx hb dX10_as_57 hl (by decide) rfl (fun ls hl => ?_)
            refine lv_iload hx hb dX10_as_59 (lv_at hl 0 rfl) ?_
            refine lv_if_eq (tgt := 68) hx hb dX10_as_61 (by decide) (fun c11 => ?_) (fun c11 => ?_)
            · refine lv_iconst (v := (-1)) hx hb dX10_as_68 (by decide) ?_
              obtain rfl := Option.some.inj hf
              exact zk_iret C hW rfl dX10_as_69
            · exact absurd c11 (by decide)
          · have hf := ipos c10 hf
            refine lv_iload_n hx hb dX10_as_47 rfl (lv_at hl 0 rfl) ?_
            refine lv_iconst (v := 4) hx hb dX10_as_48 (by decide) ?_
            refine lv_icmp_ne (tgt := 56) hx hb dX10_as_49 (by decide) (fun c12 => ?_) (fun c12 => ?_)
            · have hf := ineg c12 hf
              refine lv_iconst (v := 0) hx hb dX10_as_56 (by decide) ?_
              refine lv_istore (lv' := [(4, .int 0), (3, .int (m10 (Int32.toNatClampNeg a0))), (0, .ref (q 0)), (1, .int a0), (2, .int a1)]) hx hb dX10_as_57 hl (by decide) rfl (fun ls hl => ?_)
              refine lv_iload hx hb dX10_as_59 (lv_at hl 0 rfl) ?_
              refine lv_if_eq (tgt := 68) hx hb dX10_as_61 (by decide) (fun c13 => ?_) (fun c13 => ?_)
              · refine lv_iconst (v := (-1)) hx hb dX10_as_68 (by decide) ?_
                obtain rfl := Option.some.inj hf
                exact zk_iret C hW rfl dX10_as_69
              · exact absurd c13 (by decide)
            · have hf := ipos c12 hf
              refine lv_iconst (v := 1) hx hb dX10_as_52 (by decide) ?_
              refine lv_goto (tgt := 57) hx hb dX10_as_53 (by decide) ?_
              refine lv_istore (lv' := [(4, .int 1), (3, .int (m10 (Int32.toNatClampNeg a0))), (0, .ref (q 0)), (1, .int a0), (2, .int a1)]) hx hb dX10_as_57 hl (by decide) rfl (fun ls hl => ?_)
              refine lv_iload hx hb dX10_as_59 (lv_at hl 0 rfl) ?_
              refine lv_if_eq (tgt := 68) hx hb dX10_as_61 (by decide) (fun c14 => ?_) (fun c14 => ?_)
              · exact absurd c14 (by decide)
              · refine lv_iload_n hx hb dX10_as_64 rfl (lv_at hl 3 rfl) ?_
                refine lv_goto (tgt := 69) hx hb dX10_as_65 (by decide) ?_
                obtain rfl := Option.some.inj hf
                exact zk_iret C hW rfl dX10_as_69
    · have hf := ipos c4 hf
      refine lv_bipush (v := (-102)) hx hb dX10_as_23 (by decide) ?_
      obtain rfl := Option.some.inj hf
      exact zk_iret C hW rfl dX10_as_25
  · have hf := ipos c2 hf
    refine lv_bipush (v := (-101)) hx hb dX10_as_8 (by decide) ?_
    obtain rfl := Option.some.inj hf
    exact zk_iret C hW rfl dX10_as_10

set_option maxHeartbeats 4000000 in
set_option maxRecDepth 100000 in
theorem w_X10_layRow_7 {p : Program} {e : Env} {s : State} {m : MethodId} {args : Array Value} {below : List Frame} {meth : Method} {c : Code} {A : Nat → Prop} (l : Launch) (G : GG) (q : Nat → Nat) (s0_0 : (Nat → Int32)) (s0_1 : Int32) (s0_2 : Int32) (s0_3 : Int32) (s0_4 : Int32) (s0_5 : Int32) (s0_6 : Int32) (s0_7 : Int32) (s0_8 : (Nat → Int32)) (s0_9 : Int32) (s0_10 : (Nat → Int32)) (s0_11 : Int32) (s0_12 : Bool) (s0_13 : Int32) (s0_14 : Int32) (s0_15 : Bool) (s0_16 : Int32) (s0_18 : Int32) (s0_19 : (Nat → Int32)) (s0_20 : (Nat → Int32)) (s0_21 : Int32) (s0_22 : Int32) (s0_23 : Int32) (s0_24 : Int32) (s0_25 : Int32) (s0_26 : Int32) (s0_27 : (Nat → Int32)) (s0_28 : (Nat → Int32)) (s0_29 : Int64) (out : (Nat → Int32)) (C : CX p s m args meth c cX10_layRow 5 RX10 none "layRow") {K : Int32 → Int32 → (Nat → Int32) → Option ((Nat → Int32))} (hK : ∀ (v3 : Int32) (v4 : Int32) (s0_17 : (Nat → Int32)) , K v3 v4 s0_17 = some out → ∀ (H : Heap) (locs : List Loc) (ls : Array Slot), KW G A s (wX10 G q s0_0 s0_1 s0_2 s0_3 s0_4 s0_5 s0_6 s0_7 s0_8 s0_9 s0_10 s0_11 s0_12 s0_13 s0_14 s0_15 s0_16 s0_17 s0_18 s0_19 s0_20 s0_21 s0_22 s0_23 s0_24 s0_25 s0_26 s0_27 s0_28 s0_29) H locs → lv_has ls 5 [] → W p l e (zR 0 0) s m args below meth c H locs 0 0 (QV G A (wX10 G q s0_0 s0_1 s0_2 s0_3 s0_4 s0_5 s0_6 s0_7 s0_8 s0_9 s0_10 s0_11 s0_12 s0_13 s0_14 s0_15 s0_16 out s0_18 s0_19 s0_20 s0_21 s0_22 s0_23 s0_24 s0_25 s0_26 s0_27 s0_28 s0_29) below args s) (F0 m 34 ls [])) :
    ∀ (n : Nat) (v3 : Int32) (v4 : Int32) (s0_17 : (Nat → Int32)) , lp_X10_layRow_7  K n v3 v4 s0_17 = some out → ∀ (H : Heap) (locs : List Loc) (ls : Array Slot), KW G A s (wX10 G q s0_0 s0_1 s0_2 s0_3 s0_4 s0_5 s0_6 s0_7 s0_8 s0_9 s0_10 s0_11 s0_12 s0_13 s0_14 s0_15 s0_16 s0_17 s0_18 s0_19 s0_20 s0_21 s0_22 s0_23 s0_24 s0_25 s0_26 s0_27 s0_28 s0_29) H locs → lv_has ls 5 [(0, .ref (q 0)), (3, .int v3), (4, .int v4)] → W p l e (zR 0 0) s m args below meth c H locs 0 0 (QV G A (wX10 G q s0_0 s0_1 s0_2 s0_3 s0_4 s0_5 s0_6 s0_7 s0_8 s0_9 s0_10 s0_11 s0_12 s0_13 s0_14 s0_15 s0_16 out s0_18 s0_19 s0_20 s0_21 s0_22 s0_23 s0_24 s0_25 s0_26 s0_27 s0_28 s0_29) below args s) (F0 m 7 ls []) := by
  have hx := C.1
  have hb := C.2.1
  intro n
  induction n with
  | zero => intro v3 v4 s0_17 hf; exact nomatch (show (none : Option ((Nat → Int32))) = some out from hf)
  | succ n ih =>
    intro v3 v4 s0_17 hf H locs ls hW hl
    rw [lp_X10_layRow_7] at hf
    refine lv_iload hx hb dX10_layRow_7 (lv_at hl 2 rfl) ?_
    refine lv_if_lt (tgt := 34) hx hb dX10_layRow_9 (by decide) (fun c1 => ?_) (fun c1 => ?_)
    · have hf := ipos c1 hf
      exact hK v3 v4 s0_17 hf _ _ _ hW (lv_sub hl [] rfl)
    · have hf := ineg c1 hf
      refine lv_aload_n hx hb dX10_layRow_12 rfl (lv_at hl 0 rfl) ?_
      refine zk_get C hW fgX10_19 0 rfl rfl dX10_layRow_13 ?_
      refine lv_iload hx hb dX10_layRow_16 (lv_at hl 2 rfl) ?_
      refine lv_iload_n hx hb dX10_layRow_18 rfl (lv_at hl 1 rfl) ?_
      refine lv_bipush (v := 6) hx hb dX10_layRow_19 (by decide) ?_
      refine lv_irem hx hb dX10_layRow_21 (by decide) ?_
      obtain ⟨g3, hf⟩ := grd hf
      obtain ⟨z2, ez2, hf⟩ := bnd hf
      refine zk_iast (W1 := wX10 G q s0_0 s0_1 s0_2 s0_3 s0_4 s0_5 s0_6 s0_7 s0_8 s0_9 s0_10 s0_11 s0_12 s0_13 s0_14 s0_15 s0_16 z2 s0_18 s0_19 s0_20 s0_21 s0_22 s0_23 s0_24 s0_25 s0_26 s0_27 s0_28 s0_29) C hW 4 g3 (Option.some.inj ez2) rfl rfl dX10_layRow_22 (fun H locs hW => ?_)
      refine lv_iload_n hx hb dX10_layRow_23 rfl (lv_at hl 1 rfl) ?_
      refine lv_bipush (v := 6) hx hb dX10_layRow_24 (by decide) ?_
      refine lv_idiv hx hb dX10_layRow_26 (by decide) ?_
      refine lv_istore_n (lv' := [(3, .int (v3 / 6)), (0, .ref (q 0)), (4, .int v4)]) hx hb dX10_layRow_27 rfl hl (by decide) rfl (fun ls hl => ?_)
      refine lv_iinc (v := (v4 + (-1))) (lv' := [(4, .int (v4 + (-1))), (3, .int (v3 / 6)), (0, .ref (q 0))]) hx hb dX10_layRow_28 hl (k := 2) rfl rfl (by decide) rfl (fun ls hl => ?_)
      refine lv_goto (tgt := 7) hx hb dX10_layRow_31 (by decide) ?_
      exact ih (v3 / 6) (v4 + (-1)) z2 hf _ _ _ hW (lv_sub hl [2, 1, 0] rfl)
set_option maxHeartbeats 4000000 in
set_option maxRecDepth 100000 in
theorem c_X10_layRow (l : Launch) (G : GG) (q : Nat → Nat) (m0 : (Nat → Int32)) (m1 : Int32) (m2 : Int32) (m3 : Int32) (m4 : Int32) (m5 : Int32) (m6 : Int32) (m7 : Int32) (m8 : (Nat → Int32)) (m9 : Int32) (m10 : (Nat → Int32)) (m11 : Int32) (m12 : Bool) (m13 : Int32) (m14 : Int32) (m15 : Bool) (m16 : Int32) (m17 : (Nat → Int32)) (m18 : Int32) (m19 : (Nat → Int32)) (m20 : (Nat → Int32)) (m21 : Int32) (m22 : Int32) (m23 : Int32) (m24 : Int32) (m25 : Int32) (m26 : Int32) (m27 : (Nat → Int32)) (m28 : (Nat → Int32)) (m29 : Int64) (a0 : Int32) (a1 : Int32) (out : (Nat → Int32)) (hf : f_X10_layRow m17 a0 a1 = some out) : CtV G l yX10_layRow (Cond.code yX10_layRow cX10_layRow 5 none :: WL) (zR 0 0) [.ref (q 0), .int a0, .int a1] (wX10 G q m0 m1 m2 m3 m4 m5 m6 m7 m8 m9 m10 m11 m12 m13 m14 m15 m16 m17 m18 m19 m20 m21 m22 m23 m24 m25 m26 m27 m28 m29) (wX10 G q m0 m1 m2 m3 m4 m5 m6 m7 m8 m9 m10 m11 m12 m13 m14 m15 m16 out m18 m19 m20 m21 m22 m23 m24 m25 m26 m27 m28 m29) := by
  refine CtV.mk (cc := cX10_layRow) (nL := 5) (rt := none) (own := RX10) (nm := "layRow") (by decide) rfl rfl (Nat.le_of_ble_eq_true rfl) ?_
  intro p e s m below meth c A ls C hW hl
  have hx := C.1
  have hb := C.2.1
  have hl : lv_has ls 5 [(0, .ref (q 0)), (1, .int a0), (2, .int a1)] := hl
  unfold f_X10_layRow at hf
  refine lv_iload_n hx hb dX10_layRow_0 rfl (lv_at hl 2 rfl) ?_
  refine lv_istore_n (lv' := [(3, .int a1), (0, .ref (q 0)), (1, .int a0), (2, .int a1)]) hx hb dX10_layRow_1 rfl hl (by decide) rfl (fun ls hl => ?_)
  refine lv_iload_n hx hb dX10_layRow_2 rfl (lv_at hl 2 rfl) ?_
  refine lv_iconst (v := 1) hx hb dX10_layRow_3 (by decide) ?_
  refine lv_isub hx hb dX10_layRow_4 ?_
  refine lv_istore (lv' := [(4, .int (a0 - 1)), (3, .int a1), (0, .ref (q 0)), (1, .int a0), (2, .int a1)]) hx hb dX10_layRow_5 hl (by decide) rfl (fun ls hl => ?_)
  refine w_X10_layRow_7 l G q m0 m1 m2 m3 m4 m5 m6 m7 m8 m9 m10 m11 m12 m13 m14 m15 m16 m18 m19 m20 m21 m22 m23 m24 m25 m26 m27 m28 m29 out C (fun w4_v3 w4_v4 w4_s0_17 hf H locs ls hW hl => ?_) FU a1 (a0 - 1) m17 hf _ _ _ hW (lv_sub hl [2, 1, 0] rfl)
  obtain rfl := Option.some.inj hf
  exact zk_vret C hW dX10_layRow_34

set_option maxHeartbeats 4000000 in
set_option maxRecDepth 100000 in
theorem c_X10_isAs (l : Launch) (G : GG) (q : Nat → Nat) (m0 : (Nat → Int32)) (m1 : Int32) (m2 : Int32) (m3 : Int32) (m4 : Int32) (m5 : Int32) (m6 : Int32) (m7 : Int32) (m8 : (Nat → Int32)) (m9 : Int32) (m10 : (Nat → Int32)) (m11 : Int32) (m12 : Bool) (m13 : Int32) (m14 : Int32) (m15 : Bool) (m16 : Int32) (m17 : (Nat → Int32)) (m18 : Int32) (m19 : (Nat → Int32)) (m20 : (Nat → Int32)) (m21 : Int32) (m22 : Int32) (m23 : Int32) (m24 : Int32) (m25 : Int32) (m26 : Int32) (m27 : (Nat → Int32)) (m28 : (Nat → Int32)) (m29 : Int64) (a0 : Int32) (a1 : Int32) (a2 : Int32) (a3 : Int32) (out : Bool × Int32 × Bool × Int32 × Int32 × Bool) (hf : f_X10_isAs m17 a0 a1 a2 a3 = some out) : CtI G l yX10_isAs (Cond.code yX10_isAs cX10_isAs 6 (some .boolean) :: WL) (zR 2 53) [.ref (q 0), .int a0, .int a1, .int a2, .int a3] (wX10 G q m0 m1 m2 m3 m4 m5 m6 m7 m8 m9 m10 m11 m12 m13 m14 m15 m16 m17 m18 m19 m20 m21 m22 m23 m24 m25 m26 m27 m28 m29) (bI out.1) (wX10 G q m0 m1 m2 m3 m4 m5 m6 m7 m8 m9 m10 out.2.1 out.2.2.1 out.2.2.2.1 out.2.2.2.2.1 out.2.2.2.2.2 m16 m17 m18 m19 m20 m21 m22 m23 m24 m25 m26 m27 m28 m29) := by
  refine CtI.mk (cc := cX10_isAs) (nL := 6) (rt := (some .boolean)) (own := RX10) (nm := "isAs") (by decide) rfl rfl (Nat.le_of_ble_eq_true rfl) ?_
  intro p e s m below meth c A ls C hW hl
  have hx := C.1
  have hb := C.2.1
  have hl : lv_has ls 6 [(0, .ref (q 0)), (1, .int a0), (2, .int a1), (3, .int a2), (4, .int a3)] := hl
  unfold f_X10_isAs at hf
  refine lv_aload_n hx hb dX10_isAs_0 rfl (lv_at hl 0 rfl) ?_
  refine lv_aload_n hx hb dX10_isAs_1 rfl (lv_at hl 0 rfl) ?_
  refine zk_get C hW fgX10_19 0 rfl rfl dX10_isAs_2 ?_
  refine lv_iload_n hx hb dX10_isAs_5 rfl (lv_at hl 2 rfl) ?_
  refine lv_iload_n hx hb dX10_isAs_6 rfl (lv_at hl 1 rfl) ?_
  refine lv_iconst (v := 0) hx hb dX10_isAs_7 (by decide) ?_
  refine lv_iload_n hx hb dX10_isAs_8 rfl (lv_at hl 2 rfl) ?_
  obtain ⟨u1, eu1, hf⟩ := bnd hf
  refine zk_callV (As := [.ref (q 4), .int a1, .int a0, .int (bI false), .int a1]) (rest := []) (W1 := wX10 G q m0 m1 m2 m3 m4 m5 m6 m7 m8 m9 m10 u1.1 u1.2.1 u1.2.2.1 u1.2.2.2.1 u1.2.2.2.2 m16 m17 m18 m19 m20 m21 m22 m23 m24 m25 m26 m27 m28 m29) C hW hl mvX10_133 (c_X10_read l G q (q 4) m1 m2 m3 m4 m5 m6 m7 m9 m11 m12 m13 m14 m15 m16 m18 m21 m22 m23 m24 m25 m26 m29 10 m17 a1 a0 false a1 u1 eu1) ⟨(Nat.le_of_ble_eq_true rfl), (Nat.le_of_ble_eq_true rfl)⟩ ⟨rfl, rfl⟩ [0, 4] rfl rfl rfl rfl (Nat.le_of_ble_eq_true rfl) (Nat.le_of_ble_eq_true rfl) rfl dX10_isAs_9 ⟨Nat.zero_le _, Nat.zero_le _⟩ (fun H locs hW => ?_)
  refine lv_aload_n hx hb dX10_isAs_12 rfl (lv_at hl 0 rfl) ?_
  refine zk_get C hW fgX10_100 0 rfl rfl dX10_isAs_13 ?_
  refine lv_if_ne (tgt := 31) hx hb dX10_isAs_16 (by decide) (fun c2 => ?_) (fun c2 => ?_)
  · have hf := ineg c2 hf
    refine lv_iconst (v := 0) hx hb dX10_isAs_31 (by decide) ?_
    refine lv_istore (lv' := [(5, .int 0), (0, .ref (q 0)), (1, .int a0), (2, .int a1), (3, .int a2), (4, .int a3)]) hx hb dX10_isAs_32 hl (by decide) rfl (fun ls hl => ?_)
    refine lv_aload_n hx hb dX10_isAs_34 rfl (lv_at hl 1 rfl) ?_
    refine lv_aload_n hx hb dX10_isAs_35 rfl (lv_at hl 1 rfl) ?_
    refine zk_get C hW fgX10_19 0 rfl rfl dX10_isAs_36 ?_
    refine lv_iload_n hx hb dX10_isAs_39 rfl (lv_at hl 3 rfl) ?_
    refine lv_iload_n hx hb dX10_isAs_40 rfl (lv_at hl 2 rfl) ?_
    refine lv_iconst (v := 1) hx hb dX10_isAs_41 (by decide) ?_
    refine lv_iload_n hx hb dX10_isAs_42 rfl (lv_at hl 3 rfl) ?_
    obtain ⟨u3, eu3, hf⟩ := bnd hf
    refine zk_callV (As := [.ref (q 4), .int a1, .int a0, .int (bI true), .int a1]) (rest := []) (W1 := wX10 G q m0 m1 m2 m3 m4 m5 m6 m7 m8 m9 m10 u3.1 u3.2.1 u3.2.2.1 u3.2.2.2.1 u3.2.2.2.2 m16 m17 m18 m19 m20 m21 m22 m23 m24 m25 m26 m27 m28 m29) C hW hl mvX10_133 (c_X10_read l G q (q 4) m1 m2 m3 m4 m5 m6 m7 m9 u1.1 u1.2.1 u1.2.2.1 u1.2.2.2.1 u1.2.2.2.2 m16 m18 m21 m22 m23 m24 m25 m26 m29 10 m17 a1 a0 true a1 u3 eu3) ⟨(Nat.le_of_ble_eq_true rfl), (Nat.le_of_ble_eq_true rfl)⟩ ⟨rfl, rfl⟩ [0, 4] rfl rfl rfl rfl (Nat.le_of_ble_eq_true rfl) (Nat.le_of_ble_eq_true rfl) rfl dX10_isAs_43 ⟨Nat.zero_le _, Nat.zero_le _⟩ (fun H locs hW => ?_)
    refine lv_iload hx hb dX10_isAs_46 (lv_at hl 0 rfl) ?_
    refine lv_if_eq (tgt := 71) hx hb dX10_isAs_48 (by decide) (fun c4 => ?_) (fun c4 => ?_)
    · refine lv_iconst (v := 0) hx hb dX10_isAs_71 (by decide) ?_
      obtain rfl := Option.some.inj hf
      exact zk_zret false C hW rfl dX10_isAs_72
    · exact absurd c4 (by decide)
  · have hf := ipos c2 hf
    refine lv_aload_n hx hb dX10_isAs_19 rfl (lv_at hl 0 rfl) ?_
    refine zk_get C hW fgX10_87 0 rfl rfl dX10_isAs_20 ?_
    refine lv_iload_n hx hb dX10_isAs_23 rfl (lv_at hl 3 rfl) ?_
    refine lv_icmp_ne (tgt := 31) hx hb dX10_isAs_24 (by decide) (fun c5 => ?_) (fun c5 => ?_)
    · have hf := ineg c5 hf
      refine lv_iconst (v := 0) hx hb dX10_isAs_31 (by decide) ?_
      refine lv_istore (lv' := [(5, .int 0), (0, .ref (q 0)), (1, .int a0), (2, .int a1), (3, .int a2), (4, .int a3)]) hx hb dX10_isAs_32 hl (by decide) rfl (fun ls hl => ?_)
      refine lv_aload_n hx hb dX10_isAs_34 rfl (lv_at hl 1 rfl) ?_
      refine lv_aload_n hx hb dX10_isAs_35 rfl (lv_at hl 1 rfl) ?_
      refine zk_get C hW fgX10_19 0 rfl rfl dX10_isAs_36 ?_
      refine lv_iload_n hx hb dX10_isAs_39 rfl (lv_at hl 3 rfl) ?_
      refine lv_iload_n hx hb dX10_isAs_40 rfl (lv_at hl 2 rfl) ?_
      refine lv_iconst (v := 1) hx hb dX10_isAs_41 (by decide) ?_
      refine lv_iload_n hx hb dX10_isAs_42 rfl (lv_at hl 3 rfl) ?_
      obtain ⟨u6, eu6, hf⟩ := bnd hf
      refine zk_callV (As := [.ref (q 4), .int a1, .int a0, .int (bI true), .int a1]) (rest := []) (W1 := wX10 G q m0 m1 m2 m3 m4 m5 m6 m7 m8 m9 m10 u6.1 u6.2.1 u6.2.2.1 u6.2.2.2.1 u6.2.2.2.2 m16 m17 m18 m19 m20 m21 m22 m23 m24 m25 m26 m27 m28 m29) C hW hl mvX10_133 (c_X10_read l G q (q 4) m1 m2 m3 m4 m5 m6 m7 m9 u1.1 u1.2.1 u1.2.2.1 u1.2.2.2.1 u1.2.2.2.2 m16 m18 m21 m22 m23 m24 m25 m26 m29 10 m17 a1 a0 true a1 u6 eu6) ⟨(Nat.le_of_ble_eq_true rfl), (Nat.le_of_ble_eq_true rfl)⟩ ⟨rfl, rfl⟩ [0, 4] rfl rfl rfl rfl (Nat.le_of_ble_eq_true rfl) (Nat.le_of_ble_eq_true rfl) rfl dX10_isAs_43 ⟨Nat.zero_le _, Nat.zero_le _⟩ (fun H locs hW => ?_)
      refine lv_iload hx hb dX10_isAs_46 (lv_at hl 0 rfl) ?_
      refine lv_if_eq (tgt := 71) hx hb dX10_isAs_48 (by decide) (fun c7 => ?_) (fun c7 => ?_)
      · refine lv_iconst (v := 0) hx hb dX10_isAs_71 (by decide) ?_
        obtain rfl := Option.some.inj hf
        exact zk_zret false C hW rfl dX10_isAs_72
      · exact absurd c7 (by decide)
    · have hf := ipos c5 hf
      refine lv_iconst (v := 1) hx hb dX10_isAs_27 (by decide) ?_
      refine lv_goto (tgt := 32) hx hb dX10_isAs_28 (by decide) ?_
      refine lv_istore (lv' := [(5, .int 1), (0, .ref (q 0)), (1, .int a0), (2, .int a1), (3, .int a2), (4, .int a3)]) hx hb dX10_isAs_32 hl (by decide) rfl (fun ls hl => ?_)
      refine lv_aload_n hx hb dX10_isAs_34 rfl (lv_at hl 1 rfl) ?_
      refine lv_aload_n hx hb dX10_isAs_35 rfl (lv_at hl 1 rfl) ?_
      refine zk_get C hW fgX10_19 0 rfl rfl dX10_isAs_36 ?_
      refine lv_iload_n hx hb dX10_isAs_39 rfl (lv_at hl 3 rfl) ?_
      refine lv_iload_n hx hb dX10_isAs_40 rfl (lv_at hl 2 rfl) ?_
      refine lv_iconst (v := 1) hx hb dX10_isAs_41 (by decide) ?_
      refine lv_iload_n hx hb dX10_isAs_42 rfl (lv_at hl 3 rfl) ?_
      obtain ⟨u8, eu8, hf⟩ := bnd hf
      refine zk_callV (As := [.ref (q 4), .int a1, .int a0, .int (bI true), .int a1]) (rest := []) (W1 := wX10 G q m0 m1 m2 m3 m4 m5 m6 m7 m8 m9 m10 u8.1 u8.2.1 u8.2.2.1 u8.2.2.2.1 u8.2.2.2.2 m16 m17 m18 m19 m20 m21 m22 m23 m24 m25 m26 m27 m28 m29) C hW hl mvX10_133 (c_X10_read l G q (q 4) m1 m2 m3 m4 m5 m6 m7 m9 u1.1 u1.2.1 u1.2.2.1 u1.2.2.2.1 u1.2.2.2.2 m16 m18 m21 m22 m23 m24 m25 m26 m29 10 m17 a1 a0 true a1 u8 eu8) ⟨(Nat.le_of_ble_eq_true rfl), (Nat.le_of_ble_eq_true rfl)⟩ ⟨rfl, rfl⟩ [0, 4] rfl rfl rfl rfl (Nat.le_of_ble_eq_true rfl) (Nat.le_of_ble_eq_true rfl) rfl dX10_isAs_43 ⟨Nat.zero_le _, Nat.zero_le _⟩ (fun H locs hW => ?_)
      refine lv_iload hx hb dX10_isAs_46 (lv_at hl 0 rfl) ?_
      refine lv_if_eq (tgt := 71) hx hb dX10_isAs_48 (by decide) (fun c9 => ?_) (fun c9 => ?_)
      · exact absurd c9 (by decide)
      · refine lv_aload_n hx hb dX10_isAs_51 rfl (lv_at hl 1 rfl) ?_
        refine zk_get C hW fgX10_100 0 rfl rfl dX10_isAs_52 ?_
        refine lv_if_ne (tgt := 71) hx hb dX10_isAs_55 (by decide) (fun c10 => ?_) (fun c10 => ?_)
        · have hf := ineg c10 hf
          refine lv_iconst (v := 0) hx hb dX10_isAs_71 (by decide) ?_
          obtain rfl := Option.some.inj hf
          exact zk_zret false C hW rfl dX10_isAs_72
        · have hf := ipos c10 hf
          refine lv_aload_n hx hb dX10_isAs_58 rfl (lv_at hl 1 rfl) ?_
          refine zk_get C hW fgX10_87 0 rfl rfl dX10_isAs_59 ?_
          refine lv_iload hx hb dX10_isAs_62 (lv_at hl 5 rfl) ?_
          refine lv_icmp_ne (tgt := 71) hx hb dX10_isAs_64 (by decide) (fun c11 => ?_) (fun c11 => ?_)
          · have hf := ineg c11 hf
            refine lv_iconst (v := 0) hx hb dX10_isAs_71 (by decide) ?_
            obtain rfl := Option.some.inj hf
            exact zk_zret false C hW rfl dX10_isAs_72
          · have hf := ipos c11 hf
            refine lv_iconst (v := 1) hx hb dX10_isAs_67 (by decide) ?_
            refine lv_goto (tgt := 72) hx hb dX10_isAs_68 (by decide) ?_
            obtain rfl := Option.some.inj hf
            exact zk_zret true C hW rfl dX10_isAs_72

set_option maxHeartbeats 4000000 in
set_option maxRecDepth 100000 in
theorem w_X10_write_108 {p : Program} {e : Env} {s : State} {m : MethodId} {args : Array Value} {below : List Frame} {meth : Method} {c : Code} {A : Nat → Prop} (l : Launch) (G : GG) (q : Nat → Nat) (v1 : Int32) (v2 : Int32) (v3 : Int32) (v4 : Int32) (v5 : Int32) (v6 : Int32) (s0_0 : (Nat → Int32)) (s0_1 : Int32) (s0_2 : Int32) (s0_3 : Int32) (s0_4 : Int32) (s0_5 : Int32) (s0_6 : Int32) (s0_7 : Int32) (s0_8 : (Nat → Int32)) (s0_9 : Int32) (s0_10 : (Nat → Int32)) (s0_16 : Int32) (s0_18 : Int32) (s0_19 : (Nat → Int32)) (s0_20 : (Nat → Int32)) (s0_21 : Int32) (s0_22 : Int32) (s0_23 : Int32) (s0_24 : Int32) (s0_25 : Int32) (s0_26 : Int32) (s0_27 : (Nat → Int32)) (s0_28 : (Nat → Int32)) (s0_29 : Int64) (out : Int32 × Int32 × Bool × Int32 × Int32 × Bool × Int32 × (Nat → Int32)) (C : CX p s m args meth c cX10_write 8 RX10 (some .int) "write") {K : Int32 → Int32 → Bool → Int32 → Int32 → Bool → (Nat → Int32) → Option (Int32 × Int32 × Bool × Int32 × Int32 × Bool × Int32 × (Nat → Int32))} (hK : ∀ (v7 : Int32) (s0_11 : Int32) (s0_12 : Bool) (s0_13 : Int32) (s0_14 : Int32) (s0_15 : Bool) (s0_17 : (Nat → Int32)) , K v7 s0_11 s0_12 s0_13 s0_14 s0_15 s0_17 = some out → ∀ (H : Heap) (locs : List Loc) (ls : Array Slot), KW G A s (wX10 G q s0_0 s0_1 s0_2 s0_3 s0_4 s0_5 s0_6 s0_7 s0_8 s0_9 s0_10 s0_11 s0_12 s0_13 s0_14 s0_15 s0_16 s0_17 s0_18 s0_19 s0_20 s0_21 s0_22 s0_23 s0_24 s0_25 s0_26 s0_27 s0_28 s0_29) H locs → lv_has ls 8 [(0, .ref (q 0)), (1, .int v1), (2, .int v2), (3, .int v3), (4, .int v4), (5, .int v5), (6, .int v6)] → W p l e (zR 3 78) s m args below meth c H locs 0 0 (QI G A out.1 (wX10 G q s0_0 s0_1 s0_2 s0_3 s0_4 s0_5 s0_6 s0_7 s0_8 s0_9 s0_10 out.2.1 out.2.2.1 out.2.2.2.1 out.2.2.2.2.1 out.2.2.2.2.2.1 out.2.2.2.2.2.2.1 out.2.2.2.2.2.2.2 s0_18 s0_19 s0_20 s0_21 s0_22 s0_23 s0_24 s0_25 s0_26 s0_27 s0_28 s0_29) below args s) (F0 m 176 ls [])) :
    ∀ (n : Nat) (v7 : Int32) (s0_11 : Int32) (s0_12 : Bool) (s0_13 : Int32) (s0_14 : Int32) (s0_15 : Bool) (s0_17 : (Nat → Int32)) , lp_X10_write_108 v1 v2 v3 v4 v5 v6 s0_16 K n v7 s0_11 s0_12 s0_13 s0_14 s0_15 s0_17 = some out → ∀ (H : Heap) (locs : List Loc) (ls : Array Slot), KW G A s (wX10 G q s0_0 s0_1 s0_2 s0_3 s0_4 s0_5 s0_6 s0_7 s0_8 s0_9 s0_10 s0_11 s0_12 s0_13 s0_14 s0_15 s0_16 s0_17 s0_18 s0_19 s0_20 s0_21 s0_22 s0_23 s0_24 s0_25 s0_26 s0_27 s0_28 s0_29) H locs → lv_has ls 8 [(0, .ref (q 0)), (1, .int v1), (2, .int v2), (3, .int v3), (4, .int v4), (5, .int v5), (6, .int v6), (7, .int v7)] → W p l e (zR 3 78) s m args below meth c H locs 0 0 (QI G A out.1 (wX10 G q s0_0 s0_1 s0_2 s0_3 s0_4 s0_5 s0_6 s0_7 s0_8 s0_9 s0_10 out.2.1 out.2.2.1 out.2.2.2.1 out.2.2.2.2.1 out.2.2.2.2.2.1 out.2.2.2.2.2.2.1 out.2.2.2.2.2.2.2 s0_18 s0_19 s0_20 s0_21 s0_22 s0_23 s0_24 s0_25 s0_26 s0_27 s0_28 s0_29) below args s) (F0 m 108 ls []) := by
  have hx := C.1
  have hb := C.2.1
  intro n
  induction n with
  | zero => intro v7 s0_11 s0_12 s0_13 s0_14 s0_15 s0_17 hf; exact nomatch (show (none : Option (Int32 × Int32 × Bool × Int32 × Int32 × Bool × Int32 × (Nat → Int32))) = some out from hf)
  | succ n ih =>
    intro v7 s0_11 s0_12 s0_13 s0_14 s0_15 s0_17 hf H locs ls hW hl
    rw [lp_X10_write_108] at hf
    refine lv_iload hx hb dX10_write_108 (lv_at hl 7 rfl) ?_
    refine lv_iload hx hb dX10_write_110 (lv_at hl 5 rfl) ?_
    refine lv_icmp_ge (tgt := 176) hx hb dX10_write_112 (by decide) (fun c11 => ?_) (fun c11 => ?_)
    · have hf := ipos c11 hf
      exact hK v7 s0_11 s0_12 s0_13 s0_14 s0_15 s0_17 hf _ _ _ hW (lv_sub hl [0, 1, 2, 3, 4, 5, 6] rfl)
    · have hf := ineg c11 hf
      refine lv_aload_n hx hb dX10_write_115 rfl (lv_at hl 0 rfl) ?_
      refine lv_iload hx hb dX10_write_116 (lv_at hl 6 rfl) ?_
      refine lv_iload hx hb dX10_write_118 (lv_at hl 7 rfl) ?_
      obtain ⟨u12, eu12, hf⟩ := bnd hf
      refine zk_callBV (As := [.int v6, .int v7]) (rest := []) (W1 := wX10 G q s0_0 s0_1 s0_2 s0_3 s0_4 s0_5 s0_6 s0_7 s0_8 s0_9 s0_10 s0_11 s0_12 s0_13 s0_14 s0_15 s0_16 u12 s0_18 s0_19 s0_20 s0_21 s0_22 s0_23 s0_24 s0_25 s0_26 s0_27 s0_28 s0_29) C hW hl mvX10_154 (c_X10_layRow l G q s0_0 s0_1 s0_2 s0_3 s0_4 s0_5 s0_6 s0_7 s0_8 s0_9 s0_10 s0_11 s0_12 s0_13 s0_14 s0_15 s0_16 s0_17 s0_18 s0_19 s0_20 s0_21 s0_22 s0_23 s0_24 s0_25 s0_26 s0_27 s0_28 s0_29 v6 v7 u12 eu12) ⟨(Nat.le_of_ble_eq_true rfl), (Nat.le_of_ble_eq_true rfl)⟩ ⟨rfl, rfl⟩ ([]) ([]) zE1 rfl rfl (Nat.le_of_ble_eq_true rfl) zE1r dX10_write_120 ⟨Nat.zero_le _, Nat.zero_le _⟩ (fun H locs hW => ?_)
      refine lv_aload_n hx hb dX10_write_123 rfl (lv_at hl 0 rfl) ?_
      refine lv_iload_n hx hb dX10_write_124 rfl (lv_at hl 1 rfl) ?_
      refine lv_iload hx hb dX10_write_125 (lv_at hl 6 rfl) ?_
      refine lv_iload_n hx hb dX10_write_127 rfl (lv_at hl 2 rfl) ?_
      refine lv_iload_n hx hb dX10_write_128 rfl (lv_at hl 3 rfl) ?_
      obtain ⟨u13, eu13, hf⟩ := bnd hf
      refine zk_callBI (As := [.int v1, .int v6, .int v2, .int v3]) (rest := []) (W1 := wX10 G q s0_0 s0_1 s0_2 s0_3 s0_4 s0_5 s0_6 s0_7 s0_8 s0_9 s0_10 u13.2.1 u13.2.2.1 u13.2.2.2.1 u13.2.2.2.2.1 u13.2.2.2.2.2 s0_16 u12 s0_18 s0_19 s0_20 s0_21 s0_22 s0_23 s0_24 s0_25 s0_26 s0_27 s0_28 s0_29) C hW hl mvX10_158 (c_X10_isAs l G q s0_0 s0_1 s0_2 s0_3 s0_4 s0_5 s0_6 s0_7 s0_8 s0_9 s0_10 s0_11 s0_12 s0_13 s0_14 s0_15 s0_16 u12 s0_18 s0_19 s0_20 s0_21 s0_22 s0_23 s0_24 s0_25 s0_26 s0_27 s0_28 s0_29 v1 v6 v2 v3 u13 eu13) ⟨(Nat.le_of_ble_eq_true rfl), (Nat.le_of_ble_eq_true rfl)⟩ ⟨rfl, rfl⟩ ([]) ([]) zE1 rfl rfl (Nat.le_of_ble_eq_true rfl) zE1r dX10_write_129 ⟨Nat.zero_le _, Nat.zero_le _⟩ (fun H locs hW => ?_)
      refine lv_if_eq (tgt := 170) hx hb dX10_write_132 (by decide) (fun c14 => ?_) (fun c14 => ?_)
      · have hf := ipos c14 hf
        refine lv_iinc (v := (v7 + 1)) (lv' := [(7, .int (v7 + 1)), (0, .ref (q 0)), (1, .int v1), (2, .int v2), (3, .int v3), (4, .int v4), (5, .int v5), (6, .int v6)]) hx hb dX10_write_170 hl (k := 7) rfl rfl (by decide) rfl (fun ls hl => ?_)
        refine lv_goto (tgt := 108) hx hb dX10_write_173 (by decide) ?_
        exact ih (v7 + 1) u13.2.1 u13.2.2.1 u13.2.2.2.1 u13.2.2.2.2.1 u13.2.2.2.2.2 u12 hf _ _ _ hW (lv_sub hl [1, 2, 3, 4, 5, 6, 7, 0] rfl)
      · have hf := ineg c14 hf
        refine lv_iload hx hb dX10_write_135 (lv_at hl 4 rfl) ?_
        refine lv_if_ne (tgt := 145) hx hb dX10_write_137 (by decide) (fun c15 => ?_) (fun c15 => ?_)
        · have hf := ineg c15 hf
          refine lv_iload hx hb dX10_write_145 (lv_at hl 4 rfl) ?_
          refine lv_bipush (v := 10) hx hb dX10_write_147 (by decide) ?_
          refine lv_isub hx hb dX10_write_149 ?_
          refine lv_iload hx hb dX10_write_150 (lv_at hl 6 rfl) ?_
          refine lv_icmp_ge (tgt := 168) hx hb dX10_write_152 (by decide) (fun c16 => ?_) (fun c16 => ?_)
          · have hf := ipos c16 hf
            refine lv_iconst (v := (-1)) hx hb dX10_write_168 (by decide) ?_
            obtain rfl := Option.some.inj hf
            exact zk_iret C hW rfl dX10_write_169
          · have hf := ineg c16 hf
            refine lv_aload_n hx hb dX10_write_155 rfl (lv_at hl 0 rfl) ?_
            refine zk_get C hW fgX10_19 0 rfl rfl dX10_write_156 ?_
            refine lv_iload hx hb dX10_write_159 (lv_at hl 4 rfl) ?_
            refine lv_bipush (v := 10) hx hb dX10_write_161 (by decide) ?_
            refine lv_isub hx hb dX10_write_163 ?_
            obtain ⟨g17, hf⟩ := grd hf
            refine zk_iald C hW 4 g17 rfl dX10_write_164 ?_
            refine lv_goto (tgt := 169) hx hb dX10_write_165 (by decide) ?_
            obtain rfl := Option.some.inj hf
            exact zk_iret C hW rfl dX10_write_169
        · have hf := ipos c15 hf
          refine lv_iload hx hb dX10_write_140 (lv_at hl 6 rfl) ?_
          refine lv_goto (tgt := 169) hx hb dX10_write_142 (by decide) ?_
          obtain rfl := Option.some.inj hf
          exact zk_iret C hW rfl dX10_write_169
set_option maxHeartbeats 4000000 in
set_option maxRecDepth 100000 in
theorem w_X10_write_91 {p : Program} {e : Env} {s : State} {m : MethodId} {args : Array Value} {below : List Frame} {meth : Method} {c : Code} {A : Nat → Prop} (l : Launch) (G : GG) (q : Nat → Nat) (v1 : Int32) (v2 : Int32) (v3 : Int32) (v4 : Int32) (s0_0 : (Nat → Int32)) (s0_1 : Int32) (s0_2 : Int32) (s0_3 : Int32) (s0_4 : Int32) (s0_5 : Int32) (s0_6 : Int32) (s0_7 : Int32) (s0_8 : (Nat → Int32)) (s0_9 : Int32) (s0_10 : (Nat → Int32)) (s0_16 : Int32) (s0_18 : Int32) (s0_19 : (Nat → Int32)) (s0_20 : (Nat → Int32)) (s0_21 : Int32) (s0_22 : Int32) (s0_23 : Int32) (s0_24 : Int32) (s0_25 : Int32) (s0_26 : Int32) (s0_27 : (Nat → Int32)) (s0_28 : (Nat → Int32)) (s0_29 : Int64) (out : Int32 × Int32 × Bool × Int32 × Int32 × Bool × Int32 × (Nat → Int32)) (C : CX p s m args meth c cX10_write 8 RX10 (some .int) "write") {K : Int32 → Int32 → Int32 → Bool → Int32 → Int32 → Bool → (Nat → Int32) → Option (Int32 × Int32 × Bool × Int32 × Int32 × Bool × Int32 × (Nat → Int32))} (hK : ∀ (v5 : Int32) (v6 : Int32) (s0_11 : Int32) (s0_12 : Bool) (s0_13 : Int32) (s0_14 : Int32) (s0_15 : Bool) (s0_17 : (Nat → Int32)) , K v5 v6 s0_11 s0_12 s0_13 s0_14 s0_15 s0_17 = some out → ∀ (H : Heap) (locs : List Loc) (ls : Array Slot), KW G A s (wX10 G q s0_0 s0_1 s0_2 s0_3 s0_4 s0_5 s0_6 s0_7 s0_8 s0_9 s0_10 s0_11 s0_12 s0_13 s0_14 s0_15 s0_16 s0_17 s0_18 s0_19 s0_20 s0_21 s0_22 s0_23 s0_24 s0_25 s0_26 s0_27 s0_28 s0_29) H locs → lv_has ls 8 [] → W p l e (zR 3 78) s m args below meth c H locs 0 0 (QI G A out.1 (wX10 G q s0_0 s0_1 s0_2 s0_3 s0_4 s0_5 s0_6 s0_7 s0_8 s0_9 s0_10 out.2.1 out.2.2.1 out.2.2.2.1 out.2.2.2.2.1 out.2.2.2.2.2.1 out.2.2.2.2.2.2.1 out.2.2.2.2.2.2.2 s0_18 s0_19 s0_20 s0_21 s0_22 s0_23 s0_24 s0_25 s0_26 s0_27 s0_28 s0_29) below args s) (F0 m 182 ls [])) :
    ∀ (n : Nat) (v5 : Int32) (v6 : Int32) (s0_11 : Int32) (s0_12 : Bool) (s0_13 : Int32) (s0_14 : Int32) (s0_15 : Bool) (s0_17 : (Nat → Int32)) , lp_X10_write_91 v1 v2 v3 v4 s0_16 K n v5 v6 s0_11 s0_12 s0_13 s0_14 s0_15 s0_17 = some out → ∀ (H : Heap) (locs : List Loc) (ls : Array Slot), KW G A s (wX10 G q s0_0 s0_1 s0_2 s0_3 s0_4 s0_5 s0_6 s0_7 s0_8 s0_9 s0_10 s0_11 s0_12 s0_13 s0_14 s0_15 s0_16 s0_17 s0_18 s0_19 s0_20 s0_21 s0_22 s0_23 s0_24 s0_25 s0_26 s0_27 s0_28 s0_29) H locs → lv_has ls 8 [(0, .ref (q 0)), (1, .int v1), (2, .int v2), (3, .int v3), (4, .int v4), (5, .int v5), (6, .int v6)] → W p l e (zR 3 78) s m args below meth c H locs 0 0 (QI G A out.1 (wX10 G q s0_0 s0_1 s0_2 s0_3 s0_4 s0_5 s0_6 s0_7 s0_8 s0_9 s0_10 out.2.1 out.2.2.1 out.2.2.2.1 out.2.2.2.2.1 out.2.2.2.2.2.1 out.2.2.2.2.2.2.1 out.2.2.2.2.2.2.2 s0_18 s0_19 s0_20 s0_21 s0_22 s0_23 s0_24 s0_25 s0_26 s0_27 s0_28 s0_29) below args s) (F0 m 91 ls []) := by
  have hx := C.1
  have hb := C.2.1
  intro n
  induction n with
  | zero => intro v5 v6 s0_11 s0_12 s0_13 s0_14 s0_15 s0_17 hf; exact nomatch (show (none : Option (Int32 × Int32 × Bool × Int32 × Int32 × Bool × Int32 × (Nat → Int32))) = some out from hf)
  | succ n ih =>
    intro v5 v6 s0_11 s0_12 s0_13 s0_14 s0_15 s0_17 hf H locs ls hW hl
    rw [lp_X10_write_91] at hf
    refine lv_iload hx hb dX10_write_91 (lv_at hl 6 rfl) ?_
    refine lv_bipush (v := 6) hx hb dX10_write_93 (by decide) ?_
    refine lv_icmp_ge (tgt := 182) hx hb dX10_write_95 (by decide) (fun c10 => ?_) (fun c10 => ?_)
    · have hf := ipos c10 hf
      exact hK v5 v6 s0_11 s0_12 s0_13 s0_14 s0_15 s0_17 hf _ _ _ hW (lv_sub hl [] rfl)
    · have hf := ineg c10 hf
      refine lv_iload hx hb dX10_write_98 (lv_at hl 5 rfl) ?_
      refine lv_bipush (v := 6) hx hb dX10_write_100 (by decide) ?_
      refine lv_imul hx hb dX10_write_102 ?_
      refine lv_istore (lv' := [(5, .int (v5 * 6)), (0, .ref (q 0)), (1, .int v1), (2, .int v2), (3, .int v3), (4, .int v4), (6, .int v6)]) hx hb dX10_write_103 hl (by decide) rfl (fun ls hl => ?_)
      refine lv_iconst (v := 0) hx hb dX10_write_105 (by decide) ?_
      refine lv_istore (lv' := [(7, .int 0), (5, .int (v5 * 6)), (0, .ref (q 0)), (1, .int v1), (2, .int v2), (3, .int v3), (4, .int v4), (6, .int v6)]) hx hb dX10_write_106 hl (by decide) rfl (fun ls hl => ?_)
      refine w_X10_write_108 l G q v1 v2 v3 v4 (v5 * 6) v6 s0_0 s0_1 s0_2 s0_3 s0_4 s0_5 s0_6 s0_7 s0_8 s0_9 s0_10 s0_16 s0_18 s0_19 s0_20 s0_21 s0_22 s0_23 s0_24 s0_25 s0_26 s0_27 s0_28 s0_29 out C (fun w18_v7 w18_s0_11 w18_s0_12 w18_s0_13 w18_s0_14 w18_s0_15 w18_s0_17 hf H locs ls hW hl => ?_) FU 0 s0_11 s0_12 s0_13 s0_14 s0_15 s0_17 hf _ _ _ hW (lv_sub hl [2, 3, 4, 5, 6, 1, 7, 0] rfl)
      refine lv_iinc (v := (v6 + 1)) (lv' := [(6, .int (v6 + 1)), (0, .ref (q 0)), (1, .int v1), (2, .int v2), (3, .int v3), (4, .int v4), (5, .int (v5 * 6))]) hx hb dX10_write_176 hl (k := 6) rfl rfl (by decide) rfl (fun ls hl => ?_)
      refine lv_goto (tgt := 91) hx hb dX10_write_179 (by decide) ?_
      exact ih (v5 * 6) (v6 + 1) w18_s0_11 w18_s0_12 w18_s0_13 w18_s0_14 w18_s0_15 w18_s0_17 hf _ _ _ hW (lv_sub hl [1, 2, 3, 4, 5, 6, 0] rfl)
set_option maxHeartbeats 4000000 in
set_option maxRecDepth 100000 in
theorem c_X10_write (l : Launch) (G : GG) (q : Nat → Nat) (m0 : (Nat → Int32)) (m1 : Int32) (m2 : Int32) (m3 : Int32) (m4 : Int32) (m5 : Int32) (m6 : Int32) (m7 : Int32) (m8 : (Nat → Int32)) (m9 : Int32) (m10 : (Nat → Int32)) (m11 : Int32) (m12 : Bool) (m13 : Int32) (m14 : Int32) (m15 : Bool) (m16 : Int32) (m17 : (Nat → Int32)) (m18 : Int32) (m19 : (Nat → Int32)) (m20 : (Nat → Int32)) (m21 : Int32) (m22 : Int32) (m23 : Int32) (m24 : Int32) (m25 : Int32) (m26 : Int32) (m27 : (Nat → Int32)) (m28 : (Nat → Int32)) (m29 : Int64) (a0 : Int32) (a1 : Int32) (a2 : Int32) (a3 : Int32) (out : Int32 × Int32 × Bool × Int32 × Int32 × Bool × Int32 × (Nat → Int32)) (hf : f_X10_write m11 m12 m13 m14 m15 m16 m17 a0 a1 a2 a3 = some out) : CtI G l yX10_write (Cond.code yX10_write cX10_write 8 (some .int) :: WL) (zR 3 78) [.ref (q 0), .int a0, .int a1, .int a2, .int a3] (wX10 G q m0 m1 m2 m3 m4 m5 m6 m7 m8 m9 m10 m11 m12 m13 m14 m15 m16 m17 m18 m19 m20 m21 m22 m23 m24 m25 m26 m27 m28 m29) out.1 (wX10 G q m0 m1 m2 m3 m4 m5 m6 m7 m8 m9 m10 out.2.1 out.2.2.1 out.2.2.2.1 out.2.2.2.2.1 out.2.2.2.2.2.1 out.2.2.2.2.2.2.1 out.2.2.2.2.2.2.2 m18 m19 m20 m21 m22 m23 m24 m25 m26 m27 m28 m29) := by
  refine CtI.mk (cc := cX10_write) (nL := 8) (rt := (some .int)) (own := RX10) (nm := "write") (by decide) rfl rfl (Nat.le_of_ble_eq_true rfl) ?_
  intro p e s m below meth c A ls C hW hl
  have hx := C.1
  have hb := C.2.1
  have hl : lv_has ls 8 [(0, .ref (q 0)), (1, .int a0), (2, .int a1), (3, .int a2), (4, .int a3)] := hl
  unfold f_X10_write at hf
  refine lv_iload_n hx hb dX10_write_0 rfl (lv_at hl 1 rfl) ?_
  refine lv_i2l (v := (Int32.toInt64 a0)) hx hb dX10_write_1 rfl ?_
  refine lv_lconst (v := 0) hx hb dX10_write_2 (by decide) ?_
  refine lv_ldc2 hx hb C.2.2.2.1 (C.2.2.2.2.1 _ klX10_129) dX10_write_3 ?_
  obtain ⟨u1, eu1, hf⟩ := bnd hf
  refine zk_callSI (As := [.long (Int32.toInt64 a0), .long 0, .long 4]) (rest := []) (W1 := wX10 G q m0 m1 m2 m3 m4 m5 m6 m7 m8 m9 m10 m11 m12 m13 m14 m15 m16 m17 m18 m19 m20 m21 m22 m23 m24 m25 m26 m27 m28 m29) C hW hl msX10_40 (c_X10_in l G (Int32.toInt64 a0) 0 4 u1 eu1) ⟨(Nat.le_of_ble_eq_true rfl), (Nat.le_of_ble_eq_true rfl)⟩ ⟨rfl, rfl⟩ [] rfl rfl rfl (Nat.le_of_ble_eq_true rfl) (Nat.le_of_ble_eq_true rfl) rfl dX10_write_6 ⟨Nat.zero_le _, Nat.zero_le _⟩ (fun H locs hW => ?_)
  refine lv_if_eq (tgt := 60) hx hb dX10_write_9 (by decide) (fun c2 => ?_) (fun c2 => ?_)
  · have hf := ipos c2 hf
    refine lv_bipush (v := (-102)) hx hb dX10_write_60 (by decide) ?_
    obtain rfl := Option.some.inj hf
    exact zk_iret C hW rfl dX10_write_62
  · have hf := ineg c2 hf
    refine lv_iload_n hx hb dX10_write_12 rfl (lv_at hl 2 rfl) ?_
    refine lv_i2l (v := (Int32.toInt64 a1)) hx hb dX10_write_13 rfl ?_
    refine lv_ldc2 hx hb C.2.2.2.1 (C.2.2.2.2.1 _ klX10_143) dX10_write_14 ?_
    refine lv_ldc2 hx hb C.2.2.2.1 (C.2.2.2.2.1 _ klX10_145) dX10_write_17 ?_
    obtain ⟨u3, eu3, hf⟩ := bnd hf
    refine zk_callSI (As := [.long (Int32.toInt64 a1), .long (-3), .long 3]) (rest := []) (W1 := wX10 G q m0 m1 m2 m3 m4 m5 m6 m7 m8 m9 m10 m11 m12 m13 m14 m15 m16 m17 m18 m19 m20 m21 m22 m23 m24 m25 m26 m27 m28 m29) C hW hl msX10_40 (c_X10_in l G (Int32.toInt64 a1) (-3) 3 u3 eu3) ⟨(Nat.le_of_ble_eq_true rfl), (Nat.le_of_ble_eq_true rfl)⟩ ⟨rfl, rfl⟩ [] rfl rfl rfl (Nat.le_of_ble_eq_true rfl) (Nat.le_of_ble_eq_true rfl) rfl dX10_write_20 ⟨Nat.zero_le _, Nat.zero_le _⟩ (fun H locs hW => ?_)
    refine lv_if_eq (tgt := 60) hx hb dX10_write_23 (by decide) (fun c4 => ?_) (fun c4 => ?_)
    · have hf := ipos c4 hf
      refine lv_bipush (v := (-102)) hx hb dX10_write_60 (by decide) ?_
      obtain rfl := Option.some.inj hf
      exact zk_iret C hW rfl dX10_write_62
    · have hf := ineg c4 hf
      refine lv_iload_n hx hb dX10_write_26 rfl (lv_at hl 3 rfl) ?_
      refine lv_i2l (v := (Int32.toInt64 a2)) hx hb dX10_write_27 rfl ?_
      refine lv_ldc2 hx hb C.2.2.2.1 (C.2.2.2.2.1 _ klX10_143) dX10_write_28 ?_
      refine lv_ldc2 hx hb C.2.2.2.1 (C.2.2.2.2.1 _ klX10_145) dX10_write_31 ?_
      obtain ⟨u5, eu5, hf⟩ := bnd hf
      refine zk_callSI (As := [.long (Int32.toInt64 a2), .long (-3), .long 3]) (rest := []) (W1 := wX10 G q m0 m1 m2 m3 m4 m5 m6 m7 m8 m9 m10 m11 m12 m13 m14 m15 m16 m17 m18 m19 m20 m21 m22 m23 m24 m25 m26 m27 m28 m29) C hW hl msX10_40 (c_X10_in l G (Int32.toInt64 a2) (-3) 3 u5 eu5) ⟨(Nat.le_of_ble_eq_true rfl), (Nat.le_of_ble_eq_true rfl)⟩ ⟨rfl, rfl⟩ [] rfl rfl rfl (Nat.le_of_ble_eq_true rfl) (Nat.le_of_ble_eq_true rfl) rfl dX10_write_34 ⟨Nat.zero_le _, Nat.zero_le _⟩ (fun H locs hW => ?_)
      refine lv_if_eq (tgt := 60) hx hb dX10_write_37 (by decide) (fun c6 => ?_) (fun c6 => ?_)
      · have hf := ipos c6 hf
        refine lv_bipush (v := (-102)) hx hb dX10_write_60 (by decide) ?_
        obtain rfl := Option.some.inj hf
        exact zk_iret C hW rfl dX10_write_62
      · have hf := ineg c6 hf
        refine lv_iload hx hb dX10_write_40 (lv_at hl 4 rfl) ?_
        refine lv_if_eq (tgt := 63) hx hb dX10_write_42 (by decide) (fun c7 => ?_) (fun c7 => ?_)
        · have hf := ipos c7 hf
          refine lv_aload_n hx hb dX10_write_63 rfl (lv_at hl 0 rfl) ?_
          refine zk_get C hW fgX10_151 0 rfl rfl dX10_write_64 ?_
          refine lv_bipush (v := 20) hx hb dX10_write_67 (by decide) ?_
          refine lv_icmp_ne (tgt := 75) hx hb dX10_write_69 (by decide) (fun c8 => ?_) (fun c8 => ?_)
          · have hf := ineg c8 hf
            refine lv_aload_n hx hb dX10_write_75 rfl (lv_at hl 0 rfl) ?_
            refine lv_dup hx hb dX10_write_76 rfl ?_
            refine zk_get C hW fgX10_151 0 rfl rfl dX10_write_77 ?_
            refine lv_iconst (v := 1) hx hb dX10_write_80 (by decide) ?_
            refine lv_iadd hx hb dX10_write_81 ?_
            obtain ⟨z9, ez9, hf⟩ := bnd hf
            refine zk_putI (W1 := wX10 G q m0 m1 m2 m3 m4 m5 m6 m7 m8 m9 m10 m11 m12 m13 m14 m15 z9 m17 m18 m19 m20 m21 m22 m23 m24 m25 m26 m27 m28 m29) C hW fpX10_151 0 (Option.some.inj ez9) rfl (Nat.le_of_ble_eq_true rfl) rfl dX10_write_82 (fun H locs hW => ?_)
            refine lv_iconst (v := 1) hx hb dX10_write_85 (by decide) ?_
            refine lv_istore (lv' := [(5, .int 1), (0, .ref (q 0)), (1, .int a0), (2, .int a1), (3, .int a2), (4, .int a3)]) hx hb dX10_write_86 hl (by decide) rfl (fun ls hl => ?_)
            refine lv_iconst (v := 1) hx hb dX10_write_88 (by decide) ?_
            refine lv_istore (lv' := [(6, .int 1), (5, .int 1), (0, .ref (q 0)), (1, .int a0), (2, .int a1), (3, .int a2), (4, .int a3)]) hx hb dX10_write_89 hl (by decide) rfl (fun ls hl => ?_)
            refine w_X10_write_91 l G q a0 a1 a2 a3 m0 m1 m2 m3 m4 m5 m6 m7 m8 m9 m10 z9 m18 m19 m20 m21 m22 m23 m24 m25 m26 m27 m28 m29 out C (fun w19_v5 w19_v6 w19_s0_11 w19_s0_12 w19_s0_13 w19_s0_14 w19_s0_15 w19_s0_17 hf H locs ls hW hl => ?_) FU 1 1 m11 m12 m13 m14 m15 m17 hf _ _ _ hW (lv_sub hl [2, 3, 4, 5, 6, 1, 0] rfl)
            refine lv_iconst (v := (-1)) hx hb dX10_write_182 (by decide) ?_
            obtain rfl := Option.some.inj hf
            exact zk_iret C hW rfl dX10_write_183
          · have hf := ipos c8 hf
            refine lv_bipush (v := (-103)) hx hb dX10_write_72 (by decide) ?_
            obtain rfl := Option.some.inj hf
            exact zk_iret C hW rfl dX10_write_74
        · have hf := ineg c7 hf
          refine lv_iload hx hb dX10_write_45 (lv_at hl 4 rfl) ?_
          refine lv_i2l (v := (Int32.toInt64 a3)) hx hb dX10_write_47 rfl ?_
          refine lv_ldc2 hx hb C.2.2.2.1 (C.2.2.2.2.1 _ klX10_147) dX10_write_48 ?_
          refine lv_ldc2 hx hb C.2.2.2.1 (C.2.2.2.2.1 _ klX10_149) dX10_write_51 ?_
          obtain ⟨u20, eu20, hf⟩ := bnd hf
          refine zk_callSI (As := [.long (Int32.toInt64 a3), .long 10, .long 14]) (rest := []) (W1 := wX10 G q m0 m1 m2 m3 m4 m5 m6 m7 m8 m9 m10 m11 m12 m13 m14 m15 m16 m17 m18 m19 m20 m21 m22 m23 m24 m25 m26 m27 m28 m29) C hW hl msX10_40 (c_X10_in l G (Int32.toInt64 a3) 10 14 u20 eu20) ⟨(Nat.le_of_ble_eq_true rfl), (Nat.le_of_ble_eq_true rfl)⟩ ⟨rfl, rfl⟩ [] rfl rfl rfl (Nat.le_of_ble_eq_true rfl) (Nat.le_of_ble_eq_true rfl) rfl dX10_write_54 ⟨Nat.zero_le _, Nat.zero_le _⟩ (fun H locs hW => ?_)
          refine lv_if_ne (tgt := 63) hx hb dX10_write_57 (by decide) (fun c21 => ?_) (fun c21 => ?_)
          · have hf := ineg c21 hf
            refine lv_aload_n hx hb dX10_write_63 rfl (lv_at hl 0 rfl) ?_
            refine zk_get C hW fgX10_151 0 rfl rfl dX10_write_64 ?_
            refine lv_bipush (v := 20) hx hb dX10_write_67 (by decide) ?_
            refine lv_icmp_ne (tgt := 75) hx hb dX10_write_69 (by decide) (fun c22 => ?_) (fun c22 => ?_)
            · have hf := ineg c22 hf
              refine lv_aload_n hx hb dX10_write_75 rfl (lv_at hl 0 rfl) ?_
              refine lv_dup hx hb dX10_write_76 rfl ?_
              refine zk_get C hW fgX10_151 0 rfl rfl dX10_write_77 ?_
              refine lv_iconst (v := 1) hx hb dX10_write_80 (by decide) ?_
              refine lv_iadd hx hb dX10_write_81 ?_
              obtain ⟨z23, ez23, hf⟩ := bnd hf
              refine zk_putI (W1 := wX10 G q m0 m1 m2 m3 m4 m5 m6 m7 m8 m9 m10 m11 m12 m13 m14 m15 z23 m17 m18 m19 m20 m21 m22 m23 m24 m25 m26 m27 m28 m29) C hW fpX10_151 0 (Option.some.inj ez23) rfl (Nat.le_of_ble_eq_true rfl) rfl dX10_write_82 (fun H locs hW => ?_)
              refine lv_iconst (v := 1) hx hb dX10_write_85 (by decide) ?_
              refine lv_istore (lv' := [(5, .int 1), (0, .ref (q 0)), (1, .int a0), (2, .int a1), (3, .int a2), (4, .int a3)]) hx hb dX10_write_86 hl (by decide) rfl (fun ls hl => ?_)
              refine lv_iconst (v := 1) hx hb dX10_write_88 (by decide) ?_
              refine lv_istore (lv' := [(6, .int 1), (5, .int 1), (0, .ref (q 0)), (1, .int a0), (2, .int a1), (3, .int a2), (4, .int a3)]) hx hb dX10_write_89 hl (by decide) rfl (fun ls hl => ?_)
              refine w_X10_write_91 l G q a0 a1 a2 a3 m0 m1 m2 m3 m4 m5 m6 m7 m8 m9 m10 z23 m18 m19 m20 m21 m22 m23 m24 m25 m26 m27 m28 m29 out C (fun w24_v5 w24_v6 w24_s0_11 w24_s0_12 w24_s0_13 w24_s0_14 w24_s0_15 w24_s0_17 hf H locs ls hW hl => ?_) FU 1 1 m11 m12 m13 m14 m15 m17 hf _ _ _ hW (lv_sub hl [2, 3, 4, 5, 6, 1, 0] rfl)
              refine lv_iconst (v := (-1)) hx hb dX10_write_182 (by decide) ?_
              obtain rfl := Option.some.inj hf
              exact zk_iret C hW rfl dX10_write_183
            · have hf := ipos c22 hf
              refine lv_bipush (v := (-103)) hx hb dX10_write_72 (by decide) ?_
              obtain rfl := Option.some.inj hf
              exact zk_iret C hW rfl dX10_write_74
          · have hf := ipos c21 hf
            refine lv_bipush (v := (-102)) hx hb dX10_write_60 (by decide) ?_
            obtain rfl := Option.some.inj hf
            exact zk_iret C hW rfl dX10_write_62

set_option maxHeartbeats 4000000 in
set_option maxRecDepth 100000 in
theorem w_X10_restOf_11 {p : Program} {e : Env} {s : State} {m : MethodId} {args : Array Value} {below : List Frame} {meth : Method} {c : Code} {A : Nat → Prop} (l : Launch) (G : GG) (q : Nat → Nat) (v2 : Int32) (v3 : Int32) (v4 : Int32) (s0_0 : (Nat → Int32)) (s0_1 : Int32) (s0_2 : Int32) (s0_3 : Int32) (s0_4 : Int32) (s0_5 : Int32) (s0_6 : Int32) (s0_7 : Int32) (s0_8 : (Nat → Int32)) (s0_9 : Int32) (s0_10 : (Nat → Int32)) (s0_11 : Int32) (s0_12 : Bool) (s0_13 : Int32) (s0_14 : Int32) (s0_15 : Bool) (s0_16 : Int32) (s0_17 : (Nat → Int32)) (s0_18 : Int32) (s0_19 : (Nat → Int32)) (s0_20 : (Nat → Int32)) (s0_21 : Int32) (s0_22 : Int32) (s0_23 : Int32) (s0_24 : Int32) (s0_25 : Int32) (s0_26 : Int32) (s0_27 : (Nat → Int32)) (s0_28 : (Nat → Int32)) (s0_29 : Int64) (out : Int32 × Int32 × Bool × Int32 × Int32 × Bool × (Nat → Int32)) (C : CX p s m args meth c cX10_restOf 9 RX10 (some .int) "restOf") {K : Int32 → Int32 → Option (Int32 × Int32 × Bool × Int32 × Int32 × Bool × (Nat → Int32))} (hK : ∀ (v5 : Int32) (v6 : Int32) , K v5 v6 = some out → ∀ (H : Heap) (locs : List Loc) (ls : Array Slot), KW G A s (wX10 G q s0_0 s0_1 s0_2 s0_3 s0_4 s0_5 s0_6 s0_7 s0_8 s0_9 s0_10 s0_11 s0_12 s0_13 s0_14 s0_15 s0_16 s0_17 s0_18 s0_19 s0_20 s0_21 s0_22 s0_23 s0_24 s0_25 s0_26 s0_27 s0_28 s0_29) H locs → lv_has ls 9 [(0, .ref (q 0)), (2, .int v2), (3, .int v3), (4, .int v4), (5, .int v5)] → W p l e (zR 1 24) s m args below meth c H locs 0 0 (QI G A out.1 (wX10 G q s0_0 s0_1 s0_2 s0_3 s0_4 s0_5 s0_6 s0_7 s0_8 s0_9 s0_10 out.2.1 out.2.2.1 out.2.2.2.1 out.2.2.2.2.1 out.2.2.2.2.2.1 s0_16 out.2.2.2.2.2.2 s0_18 s0_19 s0_20 s0_21 s0_22 s0_23 s0_24 s0_25 s0_26 s0_27 s0_28 s0_29) below args s) (F0 m 31 ls [])) :
    ∀ (n : Nat) (v5 : Int32) (v6 : Int32) , lp_X10_restOf_11 v4 K n v5 v6 = some out → ∀ (H : Heap) (locs : List Loc) (ls : Array Slot), KW G A s (wX10 G q s0_0 s0_1 s0_2 s0_3 s0_4 s0_5 s0_6 s0_7 s0_8 s0_9 s0_10 s0_11 s0_12 s0_13 s0_14 s0_15 s0_16 s0_17 s0_18 s0_19 s0_20 s0_21 s0_22 s0_23 s0_24 s0_25 s0_26 s0_27 s0_28 s0_29) H locs → lv_has ls 9 [(0, .ref (q 0)), (2, .int v2), (3, .int v3), (4, .int v4), (5, .int v5), (6, .int v6)] → W p l e (zR 1 24) s m args below meth c H locs 0 0 (QI G A out.1 (wX10 G q s0_0 s0_1 s0_2 s0_3 s0_4 s0_5 s0_6 s0_7 s0_8 s0_9 s0_10 out.2.1 out.2.2.1 out.2.2.2.1 out.2.2.2.2.1 out.2.2.2.2.2.1 s0_16 out.2.2.2.2.2.2 s0_18 s0_19 s0_20 s0_21 s0_22 s0_23 s0_24 s0_25 s0_26 s0_27 s0_28 s0_29) below args s) (F0 m 11 ls []) := by
  have hx := C.1
  have hb := C.2.1
  intro n
  induction n with
  | zero => intro v5 v6 hf; exact nomatch (show (none : Option (Int32 × Int32 × Bool × Int32 × Int32 × Bool × (Nat → Int32))) = some out from hf)
  | succ n ih =>
    intro v5 v6 hf H locs ls hW hl
    rw [lp_X10_restOf_11] at hf
    refine lv_iload hx hb dX10_restOf_11 (lv_at hl 5 rfl) ?_
    refine lv_iload hx hb dX10_restOf_13 (lv_at hl 3 rfl) ?_
    refine lv_icmp_ge (tgt := 31) hx hb dX10_restOf_15 (by decide) (fun c1 => ?_) (fun c1 => ?_)
    · have hf := ipos c1 hf
      exact hK v5 v6 hf _ _ _ hW (lv_sub hl [0, 1, 2, 3, 4] rfl)
    · have hf := ineg c1 hf
      refine lv_iload hx hb dX10_restOf_18 (lv_at hl 4 rfl) ?_
      refine lv_bipush (v := 6) hx hb dX10_restOf_20 (by decide) ?_
      refine lv_imul hx hb dX10_restOf_22 ?_
      refine lv_istore (lv' := [(5, .int (v5 * 6)), (0, .ref (q 0)), (2, .int v2), (3, .int v3), (4, .int v4), (6, .int v6)]) hx hb dX10_restOf_23 hl (by decide) rfl (fun ls hl => ?_)
      refine lv_iinc (v := (v6 + 1)) (lv' := [(6, .int (v6 + 1)), (5, .int (v5 * 6)), (0, .ref (q 0)), (2, .int v2), (3, .int v3), (4, .int v4)]) hx hb dX10_restOf_25 hl (k := 5) rfl rfl (by decide) rfl (fun ls hl => ?_)
      refine lv_goto (tgt := 11) hx hb dX10_restOf_28 (by decide) ?_
      exact ih (v5 * 6) (v6 + 1) hf _ _ _ hW (lv_sub hl [2, 3, 4, 5, 1, 0] rfl)
set_option maxHeartbeats 4000000 in
set_option maxRecDepth 100000 in
theorem w_X10_restOf_59 {p : Program} {e : Env} {s : State} {m : MethodId} {args : Array Value} {below : List Frame} {meth : Method} {c : Code} {A : Nat → Prop} (l : Launch) (G : GG) (q : Nat → Nat) (v2 : Int32) (v3 : Int32) (v4 : Int32) (v5 : Int32) (v6 : Int32) (v7 : Int32) (s0_0 : (Nat → Int32)) (s0_1 : Int32) (s0_2 : Int32) (s0_3 : Int32) (s0_4 : Int32) (s0_5 : Int32) (s0_6 : Int32) (s0_7 : Int32) (s0_8 : (Nat → Int32)) (s0_9 : Int32) (s0_10 : (Nat → Int32)) (s0_15 : Bool) (s0_16 : Int32) (s0_17 : (Nat → Int32)) (s0_18 : Int32) (s0_19 : (Nat → Int32)) (s0_20 : (Nat → Int32)) (s0_21 : Int32) (s0_22 : Int32) (s0_23 : Int32) (s0_24 : Int32) (s0_25 : Int32) (s0_26 : Int32) (s0_27 : (Nat → Int32)) (s0_28 : (Nat → Int32)) (s0_29 : Int64) (out : Int32 × Int32 × Bool × Int32 × Int32 × Bool × (Nat → Int32)) (C : CX p s m args meth c cX10_restOf 9 RX10 (some .int) "restOf") {K : Int32 → Int32 → Bool → Int32 → Int32 → Option (Int32 × Int32 × Bool × Int32 × Int32 × Bool × (Nat → Int32))} (hK : ∀ (v8 : Int32) (s0_11 : Int32) (s0_12 : Bool) (s0_13 : Int32) (s0_14 : Int32) , K v8 s0_11 s0_12 s0_13 s0_14 = some out → ∀ (H : Heap) (locs : List Loc) (ls : Array Slot), KW G A s (wX10 G q s0_0 s0_1 s0_2 s0_3 s0_4 s0_5 s0_6 s0_7 s0_8 s0_9 s0_10 s0_11 s0_12 s0_13 s0_14 s0_15 s0_16 s0_17 s0_18 s0_19 s0_20 s0_21 s0_22 s0_23 s0_24 s0_25 s0_26 s0_27 s0_28 s0_29) H locs → lv_has ls 9 [(0, .ref (q 0)), (2, .int v2), (3, .int v3), (4, .int v4), (5, .int v5), (6, .int v6), (7, .int v7)] → W p l e (zR 1 24) s m args below meth c H locs 0 0 (QI G A out.1 (wX10 G q s0_0 s0_1 s0_2 s0_3 s0_4 s0_5 s0_6 s0_7 s0_8 s0_9 s0_10 out.2.1 out.2.2.1 out.2.2.2.1 out.2.2.2.2.1 out.2.2.2.2.2.1 s0_16 out.2.2.2.2.2.2 s0_18 s0_19 s0_20 s0_21 s0_22 s0_23 s0_24 s0_25 s0_26 s0_27 s0_28 s0_29) below args s) (F0 m 106 ls [])) :
    ∀ (n : Nat) (v8 : Int32) (s0_11 : Int32) (s0_12 : Bool) (s0_13 : Int32) (s0_14 : Int32) , lp_X10_restOf_59 v2 v4 s0_4 s0_8 s0_17 K n v8 s0_11 s0_12 s0_13 s0_14 = some out → ∀ (H : Heap) (locs : List Loc) (ls : Array Slot), KW G A s (wX10 G q s0_0 s0_1 s0_2 s0_3 s0_4 s0_5 s0_6 s0_7 s0_8 s0_9 s0_10 s0_11 s0_12 s0_13 s0_14 s0_15 s0_16 s0_17 s0_18 s0_19 s0_20 s0_21 s0_22 s0_23 s0_24 s0_25 s0_26 s0_27 s0_28 s0_29) H locs → lv_has ls 9 [(0, .ref (q 0)), (2, .int v2), (3, .int v3), (4, .int v4), (5, .int v5), (6, .int v6), (7, .int v7), (8, .int v8)] → W p l e (zR 1 24) s m args below meth c H locs 0 0 (QI G A out.1 (wX10 G q s0_0 s0_1 s0_2 s0_3 s0_4 s0_5 s0_6 s0_7 s0_8 s0_9 s0_10 out.2.1 out.2.2.1 out.2.2.2.1 out.2.2.2.2.1 out.2.2.2.2.2.1 s0_16 out.2.2.2.2.2.2 s0_18 s0_19 s0_20 s0_21 s0_22 s0_23 s0_24 s0_25 s0_26 s0_27 s0_28 s0_29) below args s) (F0 m 59 ls []) := by
  have hx := C.1
  have hb := C.2.1
  intro n
  induction n with
  | zero => intro v8 s0_11 s0_12 s0_13 s0_14 hf; exact nomatch (show (none : Option (Int32 × Int32 × Bool × Int32 × Int32 × Bool × (Nat → Int32))) = some out from hf)
  | succ n ih =>
    intro v8 s0_11 s0_12 s0_13 s0_14 hf H locs ls hW hl
    rw [lp_X10_restOf_59] at hf
    refine lv_iload hx hb dX10_restOf_59 (lv_at hl 7 rfl) ?_
    refine lv_iload_n hx hb dX10_restOf_61 rfl (lv_at hl 1 rfl) ?_
    refine lv_icmp_ge (tgt := 106) hx hb dX10_restOf_62 (by decide) (fun c6 => ?_) (fun c6 => ?_)
    · have hf := ipos c6 hf
      exact hK v8 s0_11 s0_12 s0_13 s0_14 hf _ _ _ hW (lv_sub hl [0, 1, 2, 3, 4, 5, 6] rfl)
    · have hf := ineg c6 hf
      refine lv_aload_n hx hb dX10_restOf_65 rfl (lv_at hl 0 rfl) ?_
      refine lv_iload hx hb dX10_restOf_66 (lv_at hl 7 rfl) ?_
      refine lv_iload hx hb dX10_restOf_68 (lv_at hl 3 rfl) ?_
      refine lv_icmp_ge (tgt := 83) hx hb dX10_restOf_70 (by decide) (fun c7 => ?_) (fun c7 => ?_)
      · have hf := ipos c7 hf
        refine lv_aload_n hx hb dX10_restOf_83 rfl (lv_at hl 0 rfl) ?_
        refine zk_get C hW fgX10_13 0 rfl rfl dX10_restOf_84 ?_
        refine lv_aload_n hx hb dX10_restOf_87 rfl (lv_at hl 0 rfl) ?_
        refine zk_get C hW fgX10_69 0 rfl rfl dX10_restOf_88 ?_
        refine lv_iload_n hx hb dX10_restOf_91 rfl (lv_at hl 1 rfl) ?_
        refine lv_isub hx hb dX10_restOf_92 ?_
        refine lv_iload hx hb dX10_restOf_93 (lv_at hl 7 rfl) ?_
        refine lv_iadd hx hb dX10_restOf_95 ?_
        obtain ⟨g8, hf⟩ := grd hf
        refine zk_iald C hW 2 g8 rfl dX10_restOf_96 ?_
        obtain ⟨u9, eu9, hf⟩ := bnd hf
        refine zk_callV (As := [.int (s0_8 (Int32.toNatClampNeg ((s0_4 - v2) + v8)))]) (rest := []) (W1 := wX10 G q s0_0 s0_1 s0_2 s0_3 s0_4 s0_5 s0_6 s0_7 s0_8 s0_9 s0_10 u9.1 u9.2.1 u9.2.2.1 u9.2.2.2 s0_15 s0_16 s0_17 s0_18 s0_19 s0_20 s0_21 s0_22 s0_23 s0_24 s0_25 s0_26 s0_27 s0_28 s0_29) C hW hl mvX10_106 (c_X10_readWord l G q s0_1 s0_2 s0_3 s0_4 s0_5 s0_6 s0_7 s0_9 s0_11 s0_12 s0_13 s0_14 s0_15 s0_16 s0_18 s0_21 s0_22 s0_23 s0_24 s0_25 s0_26 s0_29 (s0_8 (Int32.toNatClampNeg ((s0_4 - v2) + v8))) u9 eu9) ⟨(Nat.le_of_ble_eq_true rfl), (Nat.le_of_ble_eq_true rfl)⟩ ⟨rfl, rfl⟩ [0] rfl rfl rfl rfl (Nat.le_of_ble_eq_true rfl) (Nat.le_of_ble_eq_true rfl) rfl dX10_restOf_97 ⟨Nat.zero_le _, Nat.zero_le _⟩ (fun H locs hW => ?_)
        refine lv_iinc (v := (v8 + 1)) (lv' := [(8, .int (v8 + 1)), (0, .ref (q 0)), (2, .int v2), (3, .int v3), (4, .int v4), (5, .int v5), (6, .int v6), (7, .int v7)]) hx hb dX10_restOf_100 hl (k := 7) rfl rfl (by decide) rfl (fun ls hl => ?_)
        refine lv_goto (tgt := 59) hx hb dX10_restOf_103 (by decide) ?_
        exact ih (v8 + 1) u9.1 u9.2.1 u9.2.2.1 u9.2.2.2 hf _ _ _ hW (lv_sub hl [1, 2, 3, 4, 5, 6, 7, 0] rfl)
      · have hf := ineg c7 hf
        refine lv_aload_n hx hb dX10_restOf_73 rfl (lv_at hl 0 rfl) ?_
        refine zk_get C hW fgX10_19 0 rfl rfl dX10_restOf_74 ?_
        refine lv_iload hx hb dX10_restOf_77 (lv_at hl 7 rfl) ?_
        obtain ⟨g10, hf⟩ := grd hf
        refine zk_iald C hW 4 g10 rfl dX10_restOf_79 ?_
        refine lv_goto (tgt := 97) hx hb dX10_restOf_80 (by decide) ?_
        obtain ⟨u11, eu11, hf⟩ := bnd hf
        refine zk_callV (As := [.int (s0_17 (Int32.toNatClampNeg v8))]) (rest := []) (W1 := wX10 G q s0_0 s0_1 s0_2 s0_3 s0_4 s0_5 s0_6 s0_7 s0_8 s0_9 s0_10 u11.1 u11.2.1 u11.2.2.1 u11.2.2.2 s0_15 s0_16 s0_17 s0_18 s0_19 s0_20 s0_21 s0_22 s0_23 s0_24 s0_25 s0_26 s0_27 s0_28 s0_29) C hW hl mvX10_106 (c_X10_readWord l G q s0_1 s0_2 s0_3 s0_4 s0_5 s0_6 s0_7 s0_9 s0_11 s0_12 s0_13 s0_14 s0_15 s0_16 s0_18 s0_21 s0_22 s0_23 s0_24 s0_25 s0_26 s0_29 (s0_17 (Int32.toNatClampNeg v8)) u11 eu11) ⟨(Nat.le_of_ble_eq_true rfl), (Nat.le_of_ble_eq_true rfl)⟩ ⟨rfl, rfl⟩ [0] rfl rfl rfl rfl (Nat.le_of_ble_eq_true rfl) (Nat.le_of_ble_eq_true rfl) rfl dX10_restOf_97 ⟨Nat.zero_le _, Nat.zero_le _⟩ (fun H locs hW => ?_)
        refine lv_iinc (v := (v8 + 1)) (lv' := [(8, .int (v8 + 1)), (0, .ref (q 0)), (2, .int v2), (3, .int v3), (4, .int v4), (5, .int v5), (6, .int v6), (7, .int v7)]) hx hb dX10_restOf_100 hl (k := 7) rfl rfl (by decide) rfl (fun ls hl => ?_)
        refine lv_goto (tgt := 59) hx hb dX10_restOf_103 (by decide) ?_
        exact ih (v8 + 1) u11.1 u11.2.1 u11.2.2.1 u11.2.2.2 hf _ _ _ hW (lv_sub hl [1, 2, 3, 4, 5, 6, 7, 0] rfl)
set_option maxHeartbeats 4000000 in
set_option maxRecDepth 100000 in
theorem w_X10_restOf_37 {p : Program} {e : Env} {s : State} {m : MethodId} {args : Array Value} {below : List Frame} {meth : Method} {c : Code} {A : Nat → Prop} (l : Launch) (G : GG) (q : Nat → Nat) (v2 : Int32) (v3 : Int32) (v4 : Int32) (v5 : Int32) (s0_0 : (Nat → Int32)) (s0_1 : Int32) (s0_2 : Int32) (s0_3 : Int32) (s0_4 : Int32) (s0_5 : Int32) (s0_6 : Int32) (s0_7 : Int32) (s0_8 : (Nat → Int32)) (s0_9 : Int32) (s0_10 : (Nat → Int32)) (s0_16 : Int32) (s0_18 : Int32) (s0_19 : (Nat → Int32)) (s0_20 : (Nat → Int32)) (s0_21 : Int32) (s0_22 : Int32) (s0_23 : Int32) (s0_24 : Int32) (s0_25 : Int32) (s0_26 : Int32) (s0_27 : (Nat → Int32)) (s0_28 : (Nat → Int32)) (s0_29 : Int64) (out : Int32 × Int32 × Bool × Int32 × Int32 × Bool × (Nat → Int32)) (C : CX p s m args meth c cX10_restOf 9 RX10 (some .int) "restOf") {K : Int32 → Int32 → Int32 → Bool → Int32 → Int32 → Bool → (Nat → Int32) → Option (Int32 × Int32 × Bool × Int32 × Int32 × Bool × (Nat → Int32))} (hK : ∀ (v6 : Int32) (v7 : Int32) (s0_11 : Int32) (s0_12 : Bool) (s0_13 : Int32) (s0_14 : Int32) (s0_15 : Bool) (s0_17 : (Nat → Int32)) , K v6 v7 s0_11 s0_12 s0_13 s0_14 s0_15 s0_17 = some out → ∀ (H : Heap) (locs : List Loc) (ls : Array Slot), KW G A s (wX10 G q s0_0 s0_1 s0_2 s0_3 s0_4 s0_5 s0_6 s0_7 s0_8 s0_9 s0_10 s0_11 s0_12 s0_13 s0_14 s0_15 s0_16 s0_17 s0_18 s0_19 s0_20 s0_21 s0_22 s0_23 s0_24 s0_25 s0_26 s0_27 s0_28 s0_29) H locs → lv_has ls 9 [(6, .int v6)] → W p l e (zR 1 24) s m args below meth c H locs 0 0 (QI G A out.1 (wX10 G q s0_0 s0_1 s0_2 s0_3 s0_4 s0_5 s0_6 s0_7 s0_8 s0_9 s0_10 out.2.1 out.2.2.1 out.2.2.2.1 out.2.2.2.2.1 out.2.2.2.2.2.1 s0_16 out.2.2.2.2.2.2 s0_18 s0_19 s0_20 s0_21 s0_22 s0_23 s0_24 s0_25 s0_26 s0_27 s0_28 s0_29) below args s) (F0 m 130 ls [])) :
    ∀ (n : Nat) (v6 : Int32) (v7 : Int32) (s0_11 : Int32) (s0_12 : Bool) (s0_13 : Int32) (s0_14 : Int32) (s0_15 : Bool) (s0_17 : (Nat → Int32)) , lp_X10_restOf_37 v2 v3 v4 v5 s0_4 s0_8 K n v6 v7 s0_11 s0_12 s0_13 s0_14 s0_15 s0_17 = some out → ∀ (H : Heap) (locs : List Loc) (ls : Array Slot), KW G A s (wX10 G q s0_0 s0_1 s0_2 s0_3 s0_4 s0_5 s0_6 s0_7 s0_8 s0_9 s0_10 s0_11 s0_12 s0_13 s0_14 s0_15 s0_16 s0_17 s0_18 s0_19 s0_20 s0_21 s0_22 s0_23 s0_24 s0_25 s0_26 s0_27 s0_28 s0_29) H locs → lv_has ls 9 [(0, .ref (q 0)), (2, .int v2), (3, .int v3), (4, .int v4), (5, .int v5), (6, .int v6), (7, .int v7)] → W p l e (zR 1 24) s m args below meth c H locs 0 0 (QI G A out.1 (wX10 G q s0_0 s0_1 s0_2 s0_3 s0_4 s0_5 s0_6 s0_7 s0_8 s0_9 s0_10 out.2.1 out.2.2.1 out.2.2.2.1 out.2.2.2.2.1 out.2.2.2.2.2.1 s0_16 out.2.2.2.2.2.2 s0_18 s0_19 s0_20 s0_21 s0_22 s0_23 s0_24 s0_25 s0_26 s0_27 s0_28 s0_29) below args s) (F0 m 37 ls []) := by
  have hx := C.1
  have hb := C.2.1
  intro n
  induction n with
  | zero => intro v6 v7 s0_11 s0_12 s0_13 s0_14 s0_15 s0_17 hf; exact nomatch (show (none : Option (Int32 × Int32 × Bool × Int32 × Int32 × Bool × (Nat → Int32))) = some out from hf)
  | succ n ih =>
    intro v6 v7 s0_11 s0_12 s0_13 s0_14 s0_15 s0_17 hf H locs ls hW hl
    rw [lp_X10_restOf_37] at hf
    refine lv_iload hx hb dX10_restOf_37 (lv_at hl 6 rfl) ?_
    refine lv_iload hx hb dX10_restOf_39 (lv_at hl 4 rfl) ?_
    refine lv_icmp_ge (tgt := 130) hx hb dX10_restOf_41 (by decide) (fun c3 => ?_) (fun c3 => ?_)
    · have hf := ipos c3 hf
      exact hK v6 v7 s0_11 s0_12 s0_13 s0_14 s0_15 s0_17 hf _ _ _ hW (lv_sub hl [5] rfl)
    · have hf := ineg c3 hf
      refine lv_aload_n hx hb dX10_restOf_44 rfl (lv_at hl 0 rfl) ?_
      refine lv_iload hx hb dX10_restOf_45 (lv_at hl 3 rfl) ?_
      refine lv_iload hx hb dX10_restOf_47 (lv_at hl 6 rfl) ?_
      obtain ⟨u4, eu4, hf⟩ := bnd hf
      refine zk_callBV (As := [.int v4, .int v7]) (rest := []) (W1 := wX10 G q s0_0 s0_1 s0_2 s0_3 s0_4 s0_5 s0_6 s0_7 s0_8 s0_9 s0_10 s0_11 s0_12 s0_13 s0_14 s0_15 s0_16 u4 s0_18 s0_19 s0_20 s0_21 s0_22 s0_23 s0_24 s0_25 s0_26 s0_27 s0_28 s0_29) C hW hl mvX10_154 (c_X10_layRow l G q s0_0 s0_1 s0_2 s0_3 s0_4 s0_5 s0_6 s0_7 s0_8 s0_9 s0_10 s0_11 s0_12 s0_13 s0_14 s0_15 s0_16 s0_17 s0_18 s0_19 s0_20 s0_21 s0_22 s0_23 s0_24 s0_25 s0_26 s0_27 s0_28 s0_29 v4 v7 u4 eu4) ⟨(Nat.le_of_ble_eq_true rfl), (Nat.le_of_ble_eq_true rfl)⟩ ⟨rfl, rfl⟩ ([]) ([]) zE1 rfl rfl (Nat.le_of_ble_eq_true rfl) zE1r dX10_restOf_49 ⟨Nat.zero_le _, Nat.zero_le _⟩ (fun H locs hW => ?_)
      refine lv_aload_n hx hb dX10_restOf_52 rfl (lv_at hl 0 rfl) ?_
      obtain ⟨u5, eu5, hf⟩ := bnd hf
      refine zk_callV (As := []) (rest := []) (W1 := wX10 G q s0_0 s0_1 s0_2 s0_3 s0_4 s0_5 s0_6 s0_7 s0_8 s0_9 s0_10 u5.1 u5.2.1 u5.2.2.1 u5.2.2.2.1 u5.2.2.2.2 s0_16 u4 s0_18 s0_19 s0_20 s0_21 s0_22 s0_23 s0_24 s0_25 s0_26 s0_27 s0_28 s0_29) C hW hl mvX10_103 (c_X10_begin l G q s0_1 s0_2 s0_3 s0_4 s0_5 s0_6 s0_7 s0_9 s0_11 s0_12 s0_13 s0_14 s0_15 s0_16 s0_18 s0_21 s0_22 s0_23 s0_24 s0_25 s0_26 s0_29 u5 eu5) ⟨(Nat.le_of_ble_eq_true rfl), (Nat.le_of_ble_eq_true rfl)⟩ ⟨rfl, rfl⟩ [0] rfl rfl rfl rfl (Nat.le_of_ble_eq_true rfl) (Nat.le_of_ble_eq_true rfl) rfl dX10_restOf_53 ⟨Nat.zero_le _, Nat.zero_le _⟩ (fun H locs hW => ?_)
      refine lv_iconst (v := 0) hx hb dX10_restOf_56 (by decide) ?_
      refine lv_istore (lv' := [(8, .int 0), (0, .ref (q 0)), (2, .int v2), (3, .int v3), (4, .int v4), (5, .int v5), (6, .int v6), (7, .int v7)]) hx hb dX10_restOf_57 hl (by decide) rfl (fun ls hl => ?_)
      refine w_X10_restOf_59 l G q v2 v3 v4 v5 v6 v7 s0_0 s0_1 s0_2 s0_3 s0_4 s0_5 s0_6 s0_7 s0_8 s0_9 s0_10 u5.2.2.2.2 s0_16 u4 s0_18 s0_19 s0_20 s0_21 s0_22 s0_23 s0_24 s0_25 s0_26 s0_27 s0_28 s0_29 out C (fun w12_v8 w12_s0_11 w12_s0_12 w12_s0_13 w12_s0_14 hf H locs ls hW hl => ?_) FU 0 u5.1 u5.2.1 u5.2.2.1 u5.2.2.2.1 hf _ _ _ hW (lv_sub hl [1, 2, 3, 4, 5, 6, 7, 0] rfl)
      refine lv_iload hx hb dX10_restOf_106 (lv_at hl 5 rfl) ?_
      refine lv_aload_n hx hb dX10_restOf_108 rfl (lv_at hl 0 rfl) ?_
      refine zk_get C hW fgX10_87 0 rfl rfl dX10_restOf_109 ?_
      refine lv_iload_n hx hb dX10_restOf_112 rfl (lv_at hl 2 rfl) ?_
      refine lv_icmp_ne (tgt := 120) hx hb dX10_restOf_113 (by decide) (fun c13 => ?_) (fun c13 => ?_)
      · have hf := ineg c13 hf
        refine lv_iconst (v := 0) hx hb dX10_restOf_120 (by decide) ?_
        refine lv_iadd hx hb dX10_restOf_121 ?_
        refine lv_istore (lv' := [(6, .int (v6 + 0)), (0, .ref (q 0)), (2, .int v2), (3, .int v3), (4, .int v4), (5, .int v5), (7, .int v7)]) hx hb dX10_restOf_122 hl (by decide) rfl (fun ls hl => ?_)
        refine lv_iinc (v := (v7 + 1)) (lv' := [(7, .int (v7 + 1)), (6, .int (v6 + 0)), (0, .ref (q 0)), (2, .int v2), (3, .int v3), (4, .int v4), (5, .int v5)]) hx hb dX10_restOf_124 hl (k := 6) rfl rfl (by decide) rfl (fun ls hl => ?_)
        refine lv_goto (tgt := 37) hx hb dX10_restOf_127 (by decide) ?_
        exact ih (v6 + 0) (v7 + 1) w12_s0_11 w12_s0_12 w12_s0_13 w12_s0_14 u5.2.2.2.2 u4 hf _ _ _ hW (lv_sub hl [2, 3, 4, 5, 6, 1, 0] rfl)
      · have hf := ipos c13 hf
        refine lv_iconst (v := 1) hx hb dX10_restOf_116 (by decide) ?_
        refine lv_goto (tgt := 121) hx hb dX10_restOf_117 (by decide) ?_
        refine lv_iadd hx hb dX10_restOf_121 ?_
        refine lv_istore (lv' := [(6, .int (v6 + 1)), (0, .ref (q 0)), (2, .int v2), (3, .int v3), (4, .int v4), (5, .int v5), (7, .int v7)]) hx hb dX10_restOf_122 hl (by decide) rfl (fun ls hl => ?_)
        refine lv_iinc (v := (v7 + 1)) (lv' := [(7, .int (v7 + 1)), (6, .int (v6 + 1)), (0, .ref (q 0)), (2, .int v2), (3, .int v3), (4, .int v4), (5, .int v5)]) hx hb dX10_restOf_124 hl (k := 6) rfl rfl (by decide) rfl (fun ls hl => ?_)
        refine lv_goto (tgt := 37) hx hb dX10_restOf_127 (by decide) ?_
        exact ih (v6 + 1) (v7 + 1) w12_s0_11 w12_s0_12 w12_s0_13 w12_s0_14 u5.2.2.2.2 u4 hf _ _ _ hW (lv_sub hl [2, 3, 4, 5, 6, 1, 0] rfl)
set_option maxHeartbeats 4000000 in
set_option maxRecDepth 100000 in
theorem c_X10_restOf (l : Launch) (G : GG) (q : Nat → Nat) (m0 : (Nat → Int32)) (m1 : Int32) (m2 : Int32) (m3 : Int32) (m4 : Int32) (m5 : Int32) (m6 : Int32) (m7 : Int32) (m8 : (Nat → Int32)) (m9 : Int32) (m10 : (Nat → Int32)) (m11 : Int32) (m12 : Bool) (m13 : Int32) (m14 : Int32) (m15 : Bool) (m16 : Int32) (m17 : (Nat → Int32)) (m18 : Int32) (m19 : (Nat → Int32)) (m20 : (Nat → Int32)) (m21 : Int32) (m22 : Int32) (m23 : Int32) (m24 : Int32) (m25 : Int32) (m26 : Int32) (m27 : (Nat → Int32)) (m28 : (Nat → Int32)) (m29 : Int64) (a0 : Int32) (a1 : Int32) (a2 : Int32) (out : Int32 × Int32 × Bool × Int32 × Int32 × Bool × (Nat → Int32)) (hf : f_X10_restOf m4 m8 m11 m12 m13 m14 m15 m17 a0 a1 a2 = some out) : CtI G l yX10_restOf (Cond.code yX10_restOf cX10_restOf 9 (some .int) :: WL) (zR 1 24) [.ref (q 0), .int a0, .int a1, .int a2] (wX10 G q m0 m1 m2 m3 m4 m5 m6 m7 m8 m9 m10 m11 m12 m13 m14 m15 m16 m17 m18 m19 m20 m21 m22 m23 m24 m25 m26 m27 m28 m29) out.1 (wX10 G q m0 m1 m2 m3 m4 m5 m6 m7 m8 m9 m10 out.2.1 out.2.2.1 out.2.2.2.1 out.2.2.2.2.1 out.2.2.2.2.2.1 m16 out.2.2.2.2.2.2 m18 m19 m20 m21 m22 m23 m24 m25 m26 m27 m28 m29) := by
  refine CtI.mk (cc := cX10_restOf) (nL := 9) (rt := (some .int)) (own := RX10) (nm := "restOf") (by decide) rfl rfl (Nat.le_of_ble_eq_true rfl) ?_
  intro p e s m below meth c A ls C hW hl
  have hx := C.1
  have hb := C.2.1
  have hl : lv_has ls 9 [(0, .ref (q 0)), (1, .int a0), (2, .int a1), (3, .int a2)] := hl
  unfold f_X10_restOf at hf
  refine lv_iload_n hx hb dX10_restOf_0 rfl (lv_at hl 2 rfl) ?_
  refine lv_iload_n hx hb dX10_restOf_1 rfl (lv_at hl 1 rfl) ?_
  refine lv_isub hx hb dX10_restOf_2 ?_
  refine lv_istore (lv' := [(4, .int (a1 - a0)), (0, .ref (q 0)), (1, .int a0), (2, .int a1), (3, .int a2)]) hx hb dX10_restOf_3 hl (by decide) rfl (fun ls hl => ?_)
  refine lv_iconst (v := 1) hx hb dX10_restOf_5 (by decide) ?_
  refine lv_istore (lv' := [(5, .int 1), (4, .int (a1 - a0)), (0, .ref (q 0)), (1, .int a0), (2, .int a1), (3, .int a2)]) hx hb dX10_restOf_6 hl (by decide) rfl (fun ls hl => ?_)
  refine lv_iconst (v := 0) hx hb dX10_restOf_8 (by decide) ?_
  refine lv_istore (lv' := [(6, .int 0), (5, .int 1), (4, .int (a1 - a0)), (0, .ref (q 0)), (1, .int a0), (2, .int a1), (3, .int a2)]) hx hb dX10_restOf_9 hl (by decide) rfl (fun ls hl => ?_)
  refine w_X10_restOf_11 l G q a1 a2 (a1 - a0) m0 m1 m2 m3 m4 m5 m6 m7 m8 m9 m10 m11 m12 m13 m14 m15 m16 m17 m18 m19 m20 m21 m22 m23 m24 m25 m26 m27 m28 m29 out C (fun w2_v5 w2_v6 hf H locs ls hW hl => ?_) FU 1 0 hf _ _ _ hW (lv_sub hl [3, 5, 6, 2, 1, 0] rfl)
  refine lv_iconst (v := 0) hx hb dX10_restOf_31 (by decide) ?_
  refine lv_istore (lv' := [(6, .int 0), (0, .ref (q 0)), (2, .int a1), (3, .int a2), (4, .int (a1 - a0)), (5, .int w2_v5)]) hx hb dX10_restOf_32 hl (by decide) rfl (fun ls hl => ?_)
  refine lv_iconst (v := 0) hx hb dX10_restOf_34 (by decide) ?_
  refine lv_istore (lv' := [(7, .int 0), (6, .int 0), (0, .ref (q 0)), (2, .int a1), (3, .int a2), (4, .int (a1 - a0)), (5, .int w2_v5)]) hx hb dX10_restOf_35 hl (by decide) rfl (fun ls hl => ?_)
  refine w_X10_restOf_37 l G q a1 a2 (a1 - a0) w2_v5 m0 m1 m2 m3 m4 m5 m6 m7 m8 m9 m10 m16 m18 m19 m20 m21 m22 m23 m24 m25 m26 m27 m28 m29 out C (fun w14_v6 w14_v7 w14_s0_11 w14_s0_12 w14_s0_13 w14_s0_14 w14_s0_15 w14_s0_17 hf H locs ls hW hl => ?_) FU 0 0 m11 m12 m13 m14 m15 m17 hf _ _ _ hW (lv_sub hl [2, 3, 4, 5, 6, 1, 0] rfl)
  refine lv_iload hx hb dX10_restOf_130 (lv_at hl 0 rfl) ?_
  obtain rfl := Option.some.inj hf
  exact zk_iret C hW rfl dX10_restOf_132

set_option maxHeartbeats 4000000 in
set_option maxRecDepth 100000 in
theorem c_X10_rest (l : Launch) (G : GG) (q : Nat → Nat) (m0 : (Nat → Int32)) (m1 : Int32) (m2 : Int32) (m3 : Int32) (m4 : Int32) (m5 : Int32) (m6 : Int32) (m7 : Int32) (m8 : (Nat → Int32)) (m9 : Int32) (m10 : (Nat → Int32)) (m11 : Int32) (m12 : Bool) (m13 : Int32) (m14 : Int32) (m15 : Bool) (m16 : Int32) (m17 : (Nat → Int32)) (m18 : Int32) (m19 : (Nat → Int32)) (m20 : (Nat → Int32)) (m21 : Int32) (m22 : Int32) (m23 : Int32) (m24 : Int32) (m25 : Int32) (m26 : Int32) (m27 : (Nat → Int32)) (m28 : (Nat → Int32)) (m29 : Int64) (a0 : Int32) (a1 : Int32) (a2 : Int32) (out : Int32 × Int32 × Bool × Int32 × Int32 × Bool × (Nat → Int32)) (hf : f_X10_rest m4 m8 m11 m12 m13 m14 m15 m17 a0 a1 a2 = some out) : CtI G l yX10_rest (Cond.code yX10_rest cX10_rest 4 (some .int) :: WL) (zR 2 52) [.ref (q 0), .int a0, .int a1, .int a2] (wX10 G q m0 m1 m2 m3 m4 m5 m6 m7 m8 m9 m10 m11 m12 m13 m14 m15 m16 m17 m18 m19 m20 m21 m22 m23 m24 m25 m26 m27 m28 m29) out.1 (wX10 G q m0 m1 m2 m3 m4 m5 m6 m7 m8 m9 m10 out.2.1 out.2.2.1 out.2.2.2.1 out.2.2.2.2.1 out.2.2.2.2.2.1 m16 out.2.2.2.2.2.2 m18 m19 m20 m21 m22 m23 m24 m25 m26 m27 m28 m29) := by
  refine CtI.mk (cc := cX10_rest) (nL := 4) (rt := (some .int)) (own := RX10) (nm := "rest") (by decide) rfl rfl (Nat.le_of_ble_eq_true rfl) ?_
  intro p e s m below meth c A ls C hW hl
  have hx := C.1
  have hb := C.2.1
  have hl : lv_has ls 4 [(0, .ref (q 0)), (1, .int a0), (2, .int a1), (3, .int a2)] := hl
  unfold f_X10_rest at hf
  refine lv_iload_n hx hb dX10_rest_0 rfl (lv_at hl 1 rfl) ?_
  refine lv_i2l (v := (Int32.toInt64 a0)) hx hb dX10_rest_1 rfl ?_
  refine lv_lconst (v := 0) hx hb dX10_rest_2 (by decide) ?_
  refine lv_aload_n hx hb dX10_rest_3 rfl (lv_at hl 0 rfl) ?_
  refine zk_get C hW fgX10_69 0 rfl rfl dX10_rest_4 ?_
  refine lv_i2l (v := (Int32.toInt64 m4)) hx hb dX10_rest_7 rfl ?_
  obtain ⟨u1, eu1, hf⟩ := bnd hf
  refine zk_callSI (As := [.long (Int32.toInt64 a0), .long 0, .long (Int32.toInt64 m4)]) (rest := []) (W1 := wX10 G q m0 m1 m2 m3 m4 m5 m6 m7 m8 m9 m10 m11 m12 m13 m14 m15 m16 m17 m18 m19 m20 m21 m22 m23 m24 m25 m26 m27 m28 m29) C hW hl msX10_40 (c_X10_in l G (Int32.toInt64 a0) 0 (Int32.toInt64 m4) u1 eu1) ⟨(Nat.le_of_ble_eq_true rfl), (Nat.le_of_ble_eq_true rfl)⟩ ⟨rfl, rfl⟩ [] rfl rfl rfl (Nat.le_of_ble_eq_true rfl) (Nat.le_of_ble_eq_true rfl) rfl dX10_rest_8 ⟨Nat.zero_le _, Nat.zero_le _⟩ (fun H locs hW => ?_)
  refine lv_if_eq (tgt := 50) hx hb dX10_rest_11 (by decide) (fun c2 => ?_) (fun c2 => ?_)
  · have hf := ipos c2 hf
    refine lv_bipush (v := (-102)) hx hb dX10_rest_50 (by decide) ?_
    obtain rfl := Option.some.inj hf
    exact zk_iret C hW rfl dX10_rest_52
  · have hf := ineg c2 hf
    refine lv_iload_n hx hb dX10_rest_14 rfl (lv_at hl 2 rfl) ?_
    refine lv_i2l (v := (Int32.toInt64 a1)) hx hb dX10_rest_15 rfl ?_
    refine lv_iload_n hx hb dX10_rest_16 rfl (lv_at hl 1 rfl) ?_
    refine lv_if_ne (tgt := 24) hx hb dX10_rest_17 (by decide) (fun c3 => ?_) (fun c3 => ?_)
    · have hf := ineg c3 hf
      refine lv_iload_n hx hb dX10_rest_24 rfl (lv_at hl 1 rfl) ?_
      refine lv_i2l (v := (Int32.toInt64 a0)) hx hb dX10_rest_25 rfl ?_
      refine lv_iload_n hx hb dX10_rest_26 rfl (lv_at hl 1 rfl) ?_
      refine lv_iconst (v := 5) hx hb dX10_rest_27 (by decide) ?_
      refine lv_iadd hx hb dX10_rest_28 ?_
      refine lv_i2l (v := (Int32.toInt64 (a0 + 5))) hx hb dX10_rest_29 rfl ?_
      obtain ⟨u4, eu4, hf⟩ := bnd hf
      refine zk_callSI (As := [.long (Int32.toInt64 a1), .long (Int32.toInt64 a0), .long (Int32.toInt64 (a0 + 5))]) (rest := []) (W1 := wX10 G q m0 m1 m2 m3 m4 m5 m6 m7 m8 m9 m10 m11 m12 m13 m14 m15 m16 m17 m18 m19 m20 m21 m22 m23 m24 m25 m26 m27 m28 m29) C hW hl msX10_40 (c_X10_in l G (Int32.toInt64 a1) (Int32.toInt64 a0) (Int32.toInt64 (a0 + 5)) u4 eu4) ⟨(Nat.le_of_ble_eq_true rfl), (Nat.le_of_ble_eq_true rfl)⟩ ⟨rfl, rfl⟩ [] rfl rfl rfl (Nat.le_of_ble_eq_true rfl) (Nat.le_of_ble_eq_true rfl) rfl dX10_rest_30 ⟨Nat.zero_le _, Nat.zero_le _⟩ (fun H locs hW => ?_)
      refine lv_if_eq (tgt := 50) hx hb dX10_rest_33 (by decide) (fun c5 => ?_) (fun c5 => ?_)
      · have hf := ipos c5 hf
        refine lv_bipush (v := (-102)) hx hb dX10_rest_50 (by decide) ?_
        obtain rfl := Option.some.inj hf
        exact zk_iret C hW rfl dX10_rest_52
      · have hf := ineg c5 hf
        refine lv_iload_n hx hb dX10_rest_36 rfl (lv_at hl 3 rfl) ?_
        refine lv_i2l (v := (Int32.toInt64 a2)) hx hb dX10_rest_37 rfl ?_
        refine lv_ldc2 hx hb C.2.2.2.1 (C.2.2.2.2.1 _ klX10_162) dX10_rest_38 ?_
        refine lv_ldc2 hx hb C.2.2.2.1 (C.2.2.2.2.1 _ klX10_164) dX10_rest_41 ?_
        obtain ⟨u6, eu6, hf⟩ := bnd hf
        refine zk_callSI (As := [.long (Int32.toInt64 a2), .long (-20), .long 20]) (rest := []) (W1 := wX10 G q m0 m1 m2 m3 m4 m5 m6 m7 m8 m9 m10 m11 m12 m13 m14 m15 m16 m17 m18 m19 m20 m21 m22 m23 m24 m25 m26 m27 m28 m29) C hW hl msX10_40 (c_X10_in l G (Int32.toInt64 a2) (-20) 20 u6 eu6) ⟨(Nat.le_of_ble_eq_true rfl), (Nat.le_of_ble_eq_true rfl)⟩ ⟨rfl, rfl⟩ [] rfl rfl rfl (Nat.le_of_ble_eq_true rfl) (Nat.le_of_ble_eq_true rfl) rfl dX10_rest_44 ⟨Nat.zero_le _, Nat.zero_le _⟩ (fun H locs hW => ?_)
        refine lv_if_ne (tgt := 53) hx hb dX10_rest_47 (by decide) (fun c7 => ?_) (fun c7 => ?_)
        · have hf := ineg c7 hf
          refine lv_aload_n hx hb dX10_rest_53 rfl (lv_at hl 0 rfl) ?_
          refine zk_get C hW fgX10_69 0 rfl rfl dX10_rest_54 ?_
          refine lv_if_ne (tgt := 65) hx hb dX10_rest_57 (by decide) (fun c8 => ?_) (fun c8 => ?_)
          · have hf := ineg c8 hf
            refine lv_aload_n hx hb dX10_rest_65 rfl (lv_at hl 0 rfl) ?_
            refine lv_iload_n hx hb dX10_rest_66 rfl (lv_at hl 1 rfl) ?_
            refine lv_iload_n hx hb dX10_rest_67 rfl (lv_at hl 2 rfl) ?_
            refine lv_iload_n hx hb dX10_rest_68 rfl (lv_at hl 3 rfl) ?_
            obtain ⟨u9, eu9, hf⟩ := bnd hf
            refine zk_callBI (As := [.int a0, .int a1, .int a2]) (rest := []) (W1 := wX10 G q m0 m1 m2 m3 m4 m5 m6 m7 m8 m9 m10 u9.2.1 u9.2.2.1 u9.2.2.2.1 u9.2.2.2.2.1 u9.2.2.2.2.2.1 m16 u9.2.2.2.2.2.2 m18 m19 m20 m21 m22 m23 m24 m25 m26 m27 m28 m29) C hW hl mvX10_166 (c_X10_restOf l G q m0 m1 m2 m3 m4 m5 m6 m7 m8 m9 m10 m11 m12 m13 m14 m15 m16 m17 m18 m19 m20 m21 m22 m23 m24 m25 m26 m27 m28 m29 a0 a1 a2 u9 eu9) ⟨(Nat.le_of_ble_eq_true rfl), (Nat.le_of_ble_eq_true rfl)⟩ ⟨rfl, rfl⟩ ([]) ([]) zE1 rfl rfl (Nat.le_of_ble_eq_true rfl) zE1r dX10_rest_69 ⟨Nat.zero_le _, Nat.zero_le _⟩ (fun H locs hW => ?_)
            obtain rfl := Option.some.inj hf
            exact zk_iret C hW rfl dX10_rest_72
          · have hf := ipos c8 hf
            refine lv_bipush (v := (-103)) hx hb dX10_rest_60 (by decide) ?_
            refine lv_goto (tgt := 72) hx hb dX10_rest_62 (by decide) ?_
            obtain rfl := Option.some.inj hf
            exact zk_iret C hW rfl dX10_rest_72
        · have hf := ipos c7 hf
          refine lv_bipush (v := (-102)) hx hb dX10_rest_50 (by decide) ?_
          obtain rfl := Option.some.inj hf
          exact zk_iret C hW rfl dX10_rest_52
    · have hf := ipos c3 hf
      refine lv_lconst (v := 1) hx hb dX10_rest_20 (by decide) ?_
      refine lv_goto (tgt := 26) hx hb dX10_rest_21 (by decide) ?_
      refine lv_iload_n hx hb dX10_rest_26 rfl (lv_at hl 1 rfl) ?_
      refine lv_iconst (v := 5) hx hb dX10_rest_27 (by decide) ?_
      refine lv_iadd hx hb dX10_rest_28 ?_
      refine lv_i2l (v := (Int32.toInt64 (a0 + 5))) hx hb dX10_rest_29 rfl ?_
      obtain ⟨u10, eu10, hf⟩ := bnd hf
      refine zk_callSI (As := [.long (Int32.toInt64 a1), .long 1, .long (Int32.toInt64 (a0 + 5))]) (rest := []) (W1 := wX10 G q m0 m1 m2 m3 m4 m5 m6 m7 m8 m9 m10 m11 m12 m13 m14 m15 m16 m17 m18 m19 m20 m21 m22 m23 m24 m25 m26 m27 m28 m29) C hW hl msX10_40 (c_X10_in l G (Int32.toInt64 a1) 1 (Int32.toInt64 (a0 + 5)) u10 eu10) ⟨(Nat.le_of_ble_eq_true rfl), (Nat.le_of_ble_eq_true rfl)⟩ ⟨rfl, rfl⟩ [] rfl rfl rfl (Nat.le_of_ble_eq_true rfl) (Nat.le_of_ble_eq_true rfl) rfl dX10_rest_30 ⟨Nat.zero_le _, Nat.zero_le _⟩ (fun H locs hW => ?_)
      refine lv_if_eq (tgt := 50) hx hb dX10_rest_33 (by decide) (fun c11 => ?_) (fun c11 => ?_)
      · have hf := ipos c11 hf
        refine lv_bipush (v := (-102)) hx hb dX10_rest_50 (by decide) ?_
        obtain rfl := Option.some.inj hf
        exact zk_iret C hW rfl dX10_rest_52
      · have hf := ineg c11 hf
        refine lv_iload_n hx hb dX10_rest_36 rfl (lv_at hl 3 rfl) ?_
        refine lv_i2l (v := (Int32.toInt64 a2)) hx hb dX10_rest_37 rfl ?_
        refine lv_ldc2 hx hb C.2.2.2.1 (C.2.2.2.2.1 _ klX10_162) dX10_rest_38 ?_
        refine lv_ldc2 hx hb C.2.2.2.1 (C.2.2.2.2.1 _ klX10_164) dX10_rest_41 ?_
        obtain ⟨u12, eu12, hf⟩ := bnd hf
        refine zk_callSI (As := [.long (Int32.toInt64 a2), .long (-20), .long 20]) (rest := []) (W1 := wX10 G q m0 m1 m2 m3 m4 m5 m6 m7 m8 m9 m10 m11 m12 m13 m14 m15 m16 m17 m18 m19 m20 m21 m22 m23 m24 m25 m26 m27 m28 m29) C hW hl msX10_40 (c_X10_in l G (Int32.toInt64 a2) (-20) 20 u12 eu12) ⟨(Nat.le_of_ble_eq_true rfl), (Nat.le_of_ble_eq_true rfl)⟩ ⟨rfl, rfl⟩ [] rfl rfl rfl (Nat.le_of_ble_eq_true rfl) (Nat.le_of_ble_eq_true rfl) rfl dX10_rest_44 ⟨Nat.zero_le _, Nat.zero_le _⟩ (fun H locs hW => ?_)
        refine lv_if_ne (tgt := 53) hx hb dX10_rest_47 (by decide) (fun c13 => ?_) (fun c13 => ?_)
        · have hf := ineg c13 hf
          refine lv_aload_n hx hb dX10_rest_53 rfl (lv_at hl 0 rfl) ?_
          refine zk_get C hW fgX10_69 0 rfl rfl dX10_rest_54 ?_
          refine lv_if_ne (tgt := 65) hx hb dX10_rest_57 (by decide) (fun c14 => ?_) (fun c14 => ?_)
          · have hf := ineg c14 hf
            refine lv_aload_n hx hb dX10_rest_65 rfl (lv_at hl 0 rfl) ?_
            refine lv_iload_n hx hb dX10_rest_66 rfl (lv_at hl 1 rfl) ?_
            refine lv_iload_n hx hb dX10_rest_67 rfl (lv_at hl 2 rfl) ?_
            refine lv_iload_n hx hb dX10_rest_68 rfl (lv_at hl 3 rfl) ?_
            obtain ⟨u15, eu15, hf⟩ := bnd hf
            refine zk_callBI (As := [.int a0, .int a1, .int a2]) (rest := []) (W1 := wX10 G q m0 m1 m2 m3 m4 m5 m6 m7 m8 m9 m10 u15.2.1 u15.2.2.1 u15.2.2.2.1 u15.2.2.2.2.1 u15.2.2.2.2.2.1 m16 u15.2.2.2.2.2.2 m18 m19 m20 m21 m22 m23 m24 m25 m26 m27 m28 m29) C hW hl mvX10_166 (c_X10_restOf l G q m0 m1 m2 m3 m4 m5 m6 m7 m8 m9 m10 m11 m12 m13 m14 m15 m16 m17 m18 m19 m20 m21 m22 m23 m24 m25 m26 m27 m28 m29 a0 a1 a2 u15 eu15) ⟨(Nat.le_of_ble_eq_true rfl), (Nat.le_of_ble_eq_true rfl)⟩ ⟨rfl, rfl⟩ ([]) ([]) zE1 rfl rfl (Nat.le_of_ble_eq_true rfl) zE1r dX10_rest_69 ⟨Nat.zero_le _, Nat.zero_le _⟩ (fun H locs hW => ?_)
            obtain rfl := Option.some.inj hf
            exact zk_iret C hW rfl dX10_rest_72
          · have hf := ipos c14 hf
            refine lv_bipush (v := (-103)) hx hb dX10_rest_60 (by decide) ?_
            refine lv_goto (tgt := 72) hx hb dX10_rest_62 (by decide) ?_
            obtain rfl := Option.some.inj hf
            exact zk_iret C hW rfl dX10_rest_72
        · have hf := ipos c13 hf
          refine lv_bipush (v := (-102)) hx hb dX10_rest_50 (by decide) ?_
          obtain rfl := Option.some.inj hf
          exact zk_iret C hW rfl dX10_rest_52

set_option maxHeartbeats 4000000 in
set_option maxRecDepth 100000 in
theorem w_X10_kindsBy_5 {p : Program} {e : Env} {s : State} {m : MethodId} {args : Array Value} {below : List Frame} {meth : Method} {c : Code} {A : Nat → Prop} (l : Launch) (G : GG) (q : Nat → Nat) (v1 : Int32) (v2 : Bool) (s0_0 : (Nat → Int32)) (s0_1 : Int32) (s0_2 : Int32) (s0_3 : Int32) (s0_4 : Int32) (s0_5 : Int32) (s0_6 : Int32) (s0_7 : Int32) (s0_8 : (Nat → Int32)) (s0_9 : Int32) (s0_10 : (Nat → Int32)) (s0_16 : Int32) (s0_17 : (Nat → Int32)) (s0_18 : Int32) (s0_19 : (Nat → Int32)) (s0_20 : (Nat → Int32)) (s0_21 : Int32) (s0_22 : Int32) (s0_23 : Int32) (s0_24 : Int32) (s0_25 : Int32) (s0_26 : Int32) (s0_27 : (Nat → Int32)) (s0_28 : (Nat → Int32)) (s0_29 : Int64) (out : Int32 × Int32 × Bool × Int32 × Int32 × Bool) (C : CX p s m args meth c cX10_kindsBy 5 RX10 (some .int) "kindsBy") {K : Int32 → Int32 → Int32 → Bool → Int32 → Int32 → Bool → Option (Int32 × Int32 × Bool × Int32 × Int32 × Bool)} (hK : ∀ (v3 : Int32) (v4 : Int32) (s0_11 : Int32) (s0_12 : Bool) (s0_13 : Int32) (s0_14 : Int32) (s0_15 : Bool) , K v3 v4 s0_11 s0_12 s0_13 s0_14 s0_15 = some out → ∀ (H : Heap) (locs : List Loc) (ls : Array Slot), KW G A s (wX10 G q s0_0 s0_1 s0_2 s0_3 s0_4 s0_5 s0_6 s0_7 s0_8 s0_9 s0_10 s0_11 s0_12 s0_13 s0_14 s0_15 s0_16 s0_17 s0_18 s0_19 s0_20 s0_21 s0_22 s0_23 s0_24 s0_25 s0_26 s0_27 s0_28 s0_29) H locs → lv_has ls 5 [(3, .int v3)] → W p l e (zR 2 53) s m args below meth c H locs 0 0 (QI G A out.1 (wX10 G q s0_0 s0_1 s0_2 s0_3 s0_4 s0_5 s0_6 s0_7 s0_8 s0_9 s0_10 out.2.1 out.2.2.1 out.2.2.2.1 out.2.2.2.2.1 out.2.2.2.2.2 s0_16 s0_17 s0_18 s0_19 s0_20 s0_21 s0_22 s0_23 s0_24 s0_25 s0_26 s0_27 s0_28 s0_29) below args s) (F0 m 55 ls [])) :
    ∀ (n : Nat) (v3 : Int32) (v4 : Int32) (s0_11 : Int32) (s0_12 : Bool) (s0_13 : Int32) (s0_14 : Int32) (s0_15 : Bool) , lp_X10_kindsBy_5 v1 v2 s0_4 s0_5 s0_8 K n v3 v4 s0_11 s0_12 s0_13 s0_14 s0_15 = some out → ∀ (H : Heap) (locs : List Loc) (ls : Array Slot), KW G A s (wX10 G q s0_0 s0_1 s0_2 s0_3 s0_4 s0_5 s0_6 s0_7 s0_8 s0_9 s0_10 s0_11 s0_12 s0_13 s0_14 s0_15 s0_16 s0_17 s0_18 s0_19 s0_20 s0_21 s0_22 s0_23 s0_24 s0_25 s0_26 s0_27 s0_28 s0_29) H locs → lv_has ls 5 [(0, .ref (q 0)), (1, .int v1), (2, .int (bI v2)), (3, .int v3), (4, .int v4)] → W p l e (zR 2 53) s m args below meth c H locs 0 0 (QI G A out.1 (wX10 G q s0_0 s0_1 s0_2 s0_3 s0_4 s0_5 s0_6 s0_7 s0_8 s0_9 s0_10 out.2.1 out.2.2.1 out.2.2.2.1 out.2.2.2.2.1 out.2.2.2.2.2 s0_16 s0_17 s0_18 s0_19 s0_20 s0_21 s0_22 s0_23 s0_24 s0_25 s0_26 s0_27 s0_28 s0_29) below args s) (F0 m 5 ls []) := by
  have hx := C.1
  have hb := C.2.1
  intro n
  induction n with
  | zero => intro v3 v4 s0_11 s0_12 s0_13 s0_14 s0_15 hf; exact nomatch (show (none : Option (Int32 × Int32 × Bool × Int32 × Int32 × Bool)) = some out from hf)
  | succ n ih =>
    intro v3 v4 s0_11 s0_12 s0_13 s0_14 s0_15 hf H locs ls hW hl
    rw [lp_X10_kindsBy_5] at hf
    refine lv_iload hx hb dX10_kindsBy_5 (lv_at hl 4 rfl) ?_
    refine lv_iconst (v := 5) hx hb dX10_kindsBy_7 (by decide) ?_
    refine lv_icmp_ge (tgt := 55) hx hb dX10_kindsBy_8 (by decide) (fun c1 => ?_) (fun c1 => ?_)
    · have hf := ipos c1 hf
      exact hK v3 v4 s0_11 s0_12 s0_13 s0_14 s0_15 hf _ _ _ hW (lv_sub hl [3] rfl)
    · have hf := ineg c1 hf
      refine lv_aload_n hx hb dX10_kindsBy_11 rfl (lv_at hl 0 rfl) ?_
      refine lv_aload_n hx hb dX10_kindsBy_12 rfl (lv_at hl 0 rfl) ?_
      refine zk_get C hW fgX10_13 0 rfl rfl dX10_kindsBy_13 ?_
      refine lv_aload_n hx hb dX10_kindsBy_16 rfl (lv_at hl 0 rfl) ?_
      refine zk_get C hW fgX10_69 0 rfl rfl dX10_kindsBy_17 ?_
      refine lv_iload hx hb dX10_kindsBy_20 (lv_at hl 4 rfl) ?_
      refine lv_iload_n hx hb dX10_kindsBy_22 rfl (lv_at hl 2 rfl) ?_
      refine lv_aload_n hx hb dX10_kindsBy_23 rfl (lv_at hl 0 rfl) ?_
      refine zk_get C hW fgX10_72 0 rfl rfl dX10_kindsBy_24 ?_
      obtain ⟨u2, eu2, hf⟩ := bnd hf
      refine zk_callV (As := [.ref (q 2), .int s0_4, .int v4, .int (bI v2), .int s0_5]) (rest := []) (W1 := wX10 G q s0_0 s0_1 s0_2 s0_3 s0_4 s0_5 s0_6 s0_7 s0_8 s0_9 s0_10 u2.1 u2.2.1 u2.2.2.1 u2.2.2.2.1 u2.2.2.2.2 s0_16 s0_17 s0_18 s0_19 s0_20 s0_21 s0_22 s0_23 s0_24 s0_25 s0_26 s0_27 s0_28 s0_29) C hW hl mvX10_133 (c_X10_read l G q (q 2) s0_1 s0_2 s0_3 s0_4 s0_5 s0_6 s0_7 s0_9 s0_11 s0_12 s0_13 s0_14 s0_15 s0_16 s0_18 s0_21 s0_22 s0_23 s0_24 s0_25 s0_26 s0_29 9 s0_8 s0_4 v4 v2 s0_5 u2 eu2) ⟨(Nat.le_of_ble_eq_true rfl), (Nat.le_of_ble_eq_true rfl)⟩ ⟨rfl, rfl⟩ [0, 2] rfl rfl rfl rfl (Nat.le_of_ble_eq_true rfl) (Nat.le_of_ble_eq_true rfl) rfl dX10_kindsBy_27 ⟨Nat.zero_le _, Nat.zero_le _⟩ (fun H locs hW => ?_)
      refine lv_iload_n hx hb dX10_kindsBy_30 rfl (lv_at hl 3 rfl) ?_
      refine lv_aload_n hx hb dX10_kindsBy_31 rfl (lv_at hl 0 rfl) ?_
      refine zk_get C hW fgX10_97 0 rfl rfl dX10_kindsBy_32 ?_
      refine lv_iload_n hx hb dX10_kindsBy_35 rfl (lv_at hl 1 rfl) ?_
      refine lv_icmp_ne (tgt := 46) hx hb dX10_kindsBy_36 (by decide) (fun c3 => ?_) (fun c3 => ?_)
      · have hf := ineg c3 hf
        refine lv_iconst (v := 0) hx hb dX10_kindsBy_46 (by decide) ?_
        refine lv_ior hx hb dX10_kindsBy_47 ?_
        refine lv_istore_n (lv' := [(3, .int (v3 ||| 0)), (0, .ref (q 0)), (1, .int v1), (2, .int (bI v2)), (4, .int v4)]) hx hb dX10_kindsBy_48 rfl hl (by decide) rfl (fun ls hl => ?_)
        refine lv_iinc (v := (v4 + 1)) (lv' := [(4, .int (v4 + 1)), (3, .int (v3 ||| 0)), (0, .ref (q 0)), (1, .int v1), (2, .int (bI v2))]) hx hb dX10_kindsBy_49 hl (k := 4) rfl rfl (by decide) rfl (fun ls hl => ?_)
        refine lv_goto (tgt := 5) hx hb dX10_kindsBy_52 (by decide) ?_
        exact ih (v3 ||| 0) (v4 + 1) u2.1 u2.2.1 u2.2.2.1 u2.2.2.2.1 u2.2.2.2.2 hf _ _ _ hW (lv_sub hl [2, 3, 4, 1, 0] rfl)
      · have hf := ipos c3 hf
        refine lv_iconst (v := 1) hx hb dX10_kindsBy_39 (by decide) ?_
        refine lv_iload hx hb dX10_kindsBy_40 (lv_at hl 4 rfl) ?_
        refine lv_ishl hx hb dX10_kindsBy_42 ?_
        refine lv_goto (tgt := 47) hx hb dX10_kindsBy_43 (by decide) ?_
        refine lv_ior hx hb dX10_kindsBy_47 ?_
        refine lv_istore_n (lv' := [(3, .int (v3 ||| (1 <<< (v4 &&& 31)))), (0, .ref (q 0)), (1, .int v1), (2, .int (bI v2)), (4, .int v4)]) hx hb dX10_kindsBy_48 rfl hl (by decide) rfl (fun ls hl => ?_)
        refine lv_iinc (v := (v4 + 1)) (lv' := [(4, .int (v4 + 1)), (3, .int (v3 ||| (1 <<< (v4 &&& 31)))), (0, .ref (q 0)), (1, .int v1), (2, .int (bI v2))]) hx hb dX10_kindsBy_49 hl (k := 4) rfl rfl (by decide) rfl (fun ls hl => ?_)
        refine lv_goto (tgt := 5) hx hb dX10_kindsBy_52 (by decide) ?_
        exact ih (v3 ||| (1 <<< (v4 &&& 31))) (v4 + 1) u2.1 u2.2.1 u2.2.2.1 u2.2.2.2.1 u2.2.2.2.2 hf _ _ _ hW (lv_sub hl [2, 3, 4, 1, 0] rfl)
set_option maxHeartbeats 4000000 in
set_option maxRecDepth 100000 in
theorem c_X10_kindsBy (l : Launch) (G : GG) (q : Nat → Nat) (m0 : (Nat → Int32)) (m1 : Int32) (m2 : Int32) (m3 : Int32) (m4 : Int32) (m5 : Int32) (m6 : Int32) (m7 : Int32) (m8 : (Nat → Int32)) (m9 : Int32) (m10 : (Nat → Int32)) (m11 : Int32) (m12 : Bool) (m13 : Int32) (m14 : Int32) (m15 : Bool) (m16 : Int32) (m17 : (Nat → Int32)) (m18 : Int32) (m19 : (Nat → Int32)) (m20 : (Nat → Int32)) (m21 : Int32) (m22 : Int32) (m23 : Int32) (m24 : Int32) (m25 : Int32) (m26 : Int32) (m27 : (Nat → Int32)) (m28 : (Nat → Int32)) (m29 : Int64) (a0 : Int32) (a1 : Bool) (out : Int32 × Int32 × Bool × Int32 × Int32 × Bool) (hf : f_X10_kindsBy m4 m5 m8 m11 m12 m13 m14 m15 a0 a1 = some out) : CtI G l yX10_kindsBy (Cond.code yX10_kindsBy cX10_kindsBy 5 (some .int) :: WL) (zR 2 53) [.ref (q 0), .int a0, .int (bI a1)] (wX10 G q m0 m1 m2 m3 m4 m5 m6 m7 m8 m9 m10 m11 m12 m13 m14 m15 m16 m17 m18 m19 m20 m21 m22 m23 m24 m25 m26 m27 m28 m29) out.1 (wX10 G q m0 m1 m2 m3 m4 m5 m6 m7 m8 m9 m10 out.2.1 out.2.2.1 out.2.2.2.1 out.2.2.2.2.1 out.2.2.2.2.2 m16 m17 m18 m19 m20 m21 m22 m23 m24 m25 m26 m27 m28 m29) := by
  refine CtI.mk (cc := cX10_kindsBy) (nL := 5) (rt := (some .int)) (own := RX10) (nm := "kindsBy") (by decide) rfl rfl (Nat.le_of_ble_eq_true rfl) ?_
  intro p e s m below meth c A ls C hW hl
  have hx := C.1
  have hb := C.2.1
  have hl : lv_has ls 5 [(0, .ref (q 0)), (1, .int a0), (2, .int (bI a1))] := hl
  unfold f_X10_kindsBy at hf
  refine lv_iconst (v := 0) hx hb dX10_kindsBy_0 (by decide) ?_
  refine lv_istore_n (lv' := [(3, .int 0), (0, .ref (q 0)), (1, .int a0), (2, .int (bI a1))]) hx hb dX10_kindsBy_1 rfl hl (by decide) rfl (fun ls hl => ?_)
  refine lv_iconst (v := 0) hx hb dX10_kindsBy_2 (by decide) ?_
  refine lv_istore (lv' := [(4, .int 0), (3, .int 0), (0, .ref (q 0)), (1, .int a0), (2, .int (bI a1))]) hx hb dX10_kindsBy_3 hl (by decide) rfl (fun ls hl => ?_)
  refine w_X10_kindsBy_5 l G q a0 a1 m0 m1 m2 m3 m4 m5 m6 m7 m8 m9 m10 m16 m17 m18 m19 m20 m21 m22 m23 m24 m25 m26 m27 m28 m29 out C (fun w4_v3 w4_v4 w4_s0_11 w4_s0_12 w4_s0_13 w4_s0_14 w4_s0_15 hf H locs ls hW hl => ?_) FU 0 0 m11 m12 m13 m14 m15 hf _ _ _ hW (lv_sub hl [2, 3, 4, 1, 0] rfl)
  refine lv_iload_n hx hb dX10_kindsBy_55 rfl (lv_at hl 0 rfl) ?_
  obtain rfl := Option.some.inj hf
  exact zk_iret C hW rfl dX10_kindsBy_56

set_option maxHeartbeats 4000000 in
set_option maxRecDepth 100000 in
theorem c_X10_tell (l : Launch) (G : GG) (q : Nat → Nat) (m0 : (Nat → Int32)) (m1 : Int32) (m2 : Int32) (m3 : Int32) (m4 : Int32) (m5 : Int32) (m6 : Int32) (m7 : Int32) (m8 : (Nat → Int32)) (m9 : Int32) (m10 : (Nat → Int32)) (m11 : Int32) (m12 : Bool) (m13 : Int32) (m14 : Int32) (m15 : Bool) (m16 : Int32) (m17 : (Nat → Int32)) (m18 : Int32) (m19 : (Nat → Int32)) (m20 : (Nat → Int32)) (m21 : Int32) (m22 : Int32) (m23 : Int32) (m24 : Int32) (m25 : Int32) (m26 : Int32) (m27 : (Nat → Int32)) (m28 : (Nat → Int32)) (m29 : Int64) (a0 : Int32) (a1 : Bool) (out : Int32 × Int32 × Bool × Int32 × Int32 × Bool × Int32 × (Nat → Int32)) (hf : f_X10_tell m4 m5 m8 m11 m12 m13 m14 m15 m18 m19 a0 a1 = some out) : CtI G l yX10_tell (Cond.code yX10_tell cX10_tell 3 (some .int) :: WL) (zR 3 77) [.ref (q 0), .int a0, .int (bI a1)] (wX10 G q m0 m1 m2 m3 m4 m5 m6 m7 m8 m9 m10 m11 m12 m13 m14 m15 m16 m17 m18 m19 m20 m21 m22 m23 m24 m25 m26 m27 m28 m29) out.1 (wX10 G q m0 m1 m2 m3 m4 m5 m6 m7 m8 m9 m10 out.2.1 out.2.2.1 out.2.2.2.1 out.2.2.2.2.1 out.2.2.2.2.2.1 m16 m17 out.2.2.2.2.2.2.1 out.2.2.2.2.2.2.2 m20 m21 m22 m23 m24 m25 m26 m27 m28 m29) := by
  refine CtI.mk (cc := cX10_tell) (nL := 3) (rt := (some .int)) (own := RX10) (nm := "tell") (by decide) rfl rfl (Nat.le_of_ble_eq_true rfl) ?_
  intro p e s m below meth c A ls C hW hl
  have hx := C.1
  have hb := C.2.1
  have hl : lv_has ls 3 [(0, .ref (q 0)), (1, .int a0), (2, .int (bI a1))] := hl
  unfold f_X10_tell at hf
  refine lv_iload_n hx hb dX10_tell_0 rfl (lv_at hl 1 rfl) ?_
  refine lv_i2l (v := (Int32.toInt64 a0)) hx hb dX10_tell_1 rfl ?_
  refine lv_lconst (v := 0) hx hb dX10_tell_2 (by decide) ?_
  refine lv_ldc2 hx hb C.2.2.2.1 (C.2.2.2.2.1 _ klX10_127) dX10_tell_3 ?_
  obtain ⟨u1, eu1, hf⟩ := bnd hf
  refine zk_callSI (As := [.long (Int32.toInt64 a0), .long 0, .long 9]) (rest := []) (W1 := wX10 G q m0 m1 m2 m3 m4 m5 m6 m7 m8 m9 m10 m11 m12 m13 m14 m15 m16 m17 m18 m19 m20 m21 m22 m23 m24 m25 m26 m27 m28 m29) C hW hl msX10_40 (c_X10_in l G (Int32.toInt64 a0) 0 9 u1 eu1) ⟨(Nat.le_of_ble_eq_true rfl), (Nat.le_of_ble_eq_true rfl)⟩ ⟨rfl, rfl⟩ [] rfl rfl rfl (Nat.le_of_ble_eq_true rfl) (Nat.le_of_ble_eq_true rfl) rfl dX10_tell_6 ⟨Nat.zero_le _, Nat.zero_le _⟩ (fun H locs hW => ?_)
  refine lv_if_ne (tgt := 15) hx hb dX10_tell_9 (by decide) (fun c2 => ?_) (fun c2 => ?_)
  · have hf := ineg c2 hf
    refine lv_aload_n hx hb dX10_tell_15 rfl (lv_at hl 0 rfl) ?_
    refine zk_get C hW fgX10_69 0 rfl rfl dX10_tell_16 ?_
    refine lv_if_ne (tgt := 25) hx hb dX10_tell_19 (by decide) (fun c3 => ?_) (fun c3 => ?_)
    · have hf := ineg c3 hf
      refine lv_aload_n hx hb dX10_tell_25 rfl (lv_at hl 0 rfl) ?_
      refine zk_get C hW fgX10_81 0 rfl rfl dX10_tell_26 ?_
      refine lv_bipush (v := 6) hx hb dX10_tell_29 (by decide) ?_
      refine lv_icmp_ne (tgt := 37) hx hb dX10_tell_31 (by decide) (fun c4 => ?_) (fun c4 => ?_)
      · have hf := ineg c4 hf
        refine lv_aload_n hx hb dX10_tell_37 rfl (lv_at hl 0 rfl) ?_
        refine zk_get C hW fgX10_22 0 rfl rfl dX10_tell_38 ?_
        refine lv_aload_n hx hb dX10_tell_41 rfl (lv_at hl 0 rfl) ?_
        refine zk_get C hW fgX10_81 0 rfl rfl dX10_tell_42 ?_
        refine lv_aload_n hx hb dX10_tell_45 rfl (lv_at hl 0 rfl) ?_
        refine lv_iload_n hx hb dX10_tell_46 rfl (lv_at hl 1 rfl) ?_
        refine lv_iload_n hx hb dX10_tell_47 rfl (lv_at hl 2 rfl) ?_
        obtain ⟨u5, eu5, hf⟩ := bnd hf
        refine zk_callBI (As := [.int a0, .int (bI a1)]) (rest := [.int m18, .ref (q 5)]) (W1 := wX10 G q m0 m1 m2 m3 m4 m5 m6 m7 m8 m9 m10 u5.2.1 u5.2.2.1 u5.2.2.2.1 u5.2.2.2.2.1 u5.2.2.2.2.2 m16 m17 m18 m19 m20 m21 m22 m23 m24 m25 m26 m27 m28 m29) C hW hl mvX10_170 (c_X10_kindsBy l G q m0 m1 m2 m3 m4 m5 m6 m7 m8 m9 m10 m11 m12 m13 m14 m15 m16 m17 m18 m19 m20 m21 m22 m23 m24 m25 m26 m27 m28 m29 a0 a1 u5 eu5) ⟨(Nat.le_of_ble_eq_true rfl), (Nat.le_of_ble_eq_true rfl)⟩ ⟨rfl, rfl⟩ ([]) ([]) zE1 rfl rfl (Nat.le_of_ble_eq_true rfl) zE1r dX10_tell_48 ⟨Nat.zero_le _, Nat.zero_le _⟩ (fun H locs hW => ?_)
        obtain ⟨g7, hf⟩ := grd hf
        obtain ⟨z6, ez6, hf⟩ := bnd hf
        refine zk_iast (W1 := wX10 G q m0 m1 m2 m3 m4 m5 m6 m7 m8 m9 m10 u5.2.1 u5.2.2.1 u5.2.2.2.1 u5.2.2.2.2.1 u5.2.2.2.2.2 m16 m17 m18 z6 m20 m21 m22 m23 m24 m25 m26 m27 m28 m29) C hW 5 g7 (Option.some.inj ez6) rfl rfl dX10_tell_51 (fun H locs hW => ?_)
        refine lv_aload_n hx hb dX10_tell_52 rfl (lv_at hl 0 rfl) ?_
        refine lv_dup hx hb dX10_tell_53 rfl ?_
        refine zk_get C hW fgX10_81 0 rfl rfl dX10_tell_54 ?_
        refine lv_iconst (v := 1) hx hb dX10_tell_57 (by decide) ?_
        refine lv_iadd hx hb dX10_tell_58 ?_
        obtain ⟨z8, ez8, hf⟩ := bnd hf
        refine zk_putI (W1 := wX10 G q m0 m1 m2 m3 m4 m5 m6 m7 m8 m9 m10 u5.2.1 u5.2.2.1 u5.2.2.2.1 u5.2.2.2.2.1 u5.2.2.2.2.2 m16 m17 z8 z6 m20 m21 m22 m23 m24 m25 m26 m27 m28 m29) C hW fpX10_81 0 (Option.some.inj ez8) rfl (Nat.le_of_ble_eq_true rfl) rfl dX10_tell_59 (fun H locs hW => ?_)
        refine lv_aload_n hx hb dX10_tell_62 rfl (lv_at hl 0 rfl) ?_
        refine zk_get C hW fgX10_81 0 rfl rfl dX10_tell_63 ?_
        obtain rfl := Option.some.inj hf
        exact zk_iret C hW rfl dX10_tell_66
      · have hf := ipos c4 hf
        refine lv_bipush (v := (-104)) hx hb dX10_tell_34 (by decide) ?_
        obtain rfl := Option.some.inj hf
        exact zk_iret C hW rfl dX10_tell_36
    · have hf := ipos c3 hf
      refine lv_bipush (v := (-103)) hx hb dX10_tell_22 (by decide) ?_
      obtain rfl := Option.some.inj hf
      exact zk_iret C hW rfl dX10_tell_24
  · have hf := ipos c2 hf
    refine lv_bipush (v := (-102)) hx hb dX10_tell_12 (by decide) ?_
    obtain rfl := Option.some.inj hf
    exact zk_iret C hW rfl dX10_tell_14

set_option maxHeartbeats 4000000 in
set_option maxRecDepth 100000 in
theorem c_X10_forget (l : Launch) (G : GG) (q : Nat → Nat) (m0 : (Nat → Int32)) (m1 : Int32) (m2 : Int32) (m3 : Int32) (m4 : Int32) (m5 : Int32) (m6 : Int32) (m7 : Int32) (m8 : (Nat → Int32)) (m9 : Int32) (m10 : (Nat → Int32)) (m11 : Int32) (m12 : Bool) (m13 : Int32) (m14 : Int32) (m15 : Bool) (m16 : Int32) (m17 : (Nat → Int32)) (m18 : Int32) (m19 : (Nat → Int32)) (m20 : (Nat → Int32)) (m21 : Int32) (m22 : Int32) (m23 : Int32) (m24 : Int32) (m25 : Int32) (m26 : Int32) (m27 : (Nat → Int32)) (m28 : (Nat → Int32)) (m29 : Int64) (out : Int32 × Int32) (hf : f_X10_forget m18 = some out) : CtI G l yX10_forget (Cond.code yX10_forget cX10_forget 2 (some .int) :: WL) (zR 0 0) [.ref (q 0)] (wX10 G q m0 m1 m2 m3 m4 m5 m6 m7 m8 m9 m10 m11 m12 m13 m14 m15 m16 m17 m18 m19 m20 m21 m22 m23 m24 m25 m26 m27 m28 m29) out.1 (wX10 G q m0 m1 m2 m3 m4 m5 m6 m7 m8 m9 m10 m11 m12 m13 m14 m15 m16 m17 out.2 m19 m20 m21 m22 m23 m24 m25 m26 m27 m28 m29) := by
  refine CtI.mk (cc := cX10_forget) (nL := 2) (rt := (some .int)) (own := RX10) (nm := "forget") (by decide) rfl rfl (Nat.le_of_ble_eq_true rfl) ?_
  intro p e s m below meth c A ls C hW hl
  have hx := C.1
  have hb := C.2.1
  have hl : lv_has ls 2 [(0, .ref (q 0))] := hl
  unfold f_X10_forget at hf
  refine lv_aload_n hx hb dX10_forget_0 rfl (lv_at hl 0 rfl) ?_
  refine zk_get C hW fgX10_81 0 rfl rfl dX10_forget_1 ?_
  refine lv_istore_n (lv' := [(1, .int m18), (0, .ref (q 0))]) hx hb dX10_forget_4 rfl hl (by decide) rfl (fun ls hl => ?_)
  refine lv_aload_n hx hb dX10_forget_5 rfl (lv_at hl 1 rfl) ?_
  refine lv_iconst (v := 0) hx hb dX10_forget_6 (by decide) ?_
  refine zk_putI (W1 := wX10 G q m0 m1 m2 m3 m4 m5 m6 m7 m8 m9 m10 m11 m12 m13 m14 m15 m16 m17 0 m19 m20 m21 m22 m23 m24 m25 m26 m27 m28 m29) C hW fpX10_81 0 rfl rfl (Nat.le_of_ble_eq_true rfl) rfl dX10_forget_7 (fun H locs hW => ?_)
  refine lv_iload_n hx hb dX10_forget_10 rfl (lv_at hl 0 rfl) ?_
  obtain rfl := Option.some.inj hf
  exact zk_iret C hW rfl dX10_forget_11

set_option maxHeartbeats 4000000 in
set_option maxRecDepth 100000 in
theorem w_X10_whichOf_5 {p : Program} {e : Env} {s : State} {m : MethodId} {args : Array Value} {below : List Frame} {meth : Method} {c : Code} {A : Nat → Prop} (l : Launch) (G : GG) (q : Nat → Nat) (s0_0 : (Nat → Int32)) (s0_1 : Int32) (s0_2 : Int32) (s0_3 : Int32) (s0_4 : Int32) (s0_5 : Int32) (s0_6 : Int32) (s0_7 : Int32) (s0_8 : (Nat → Int32)) (s0_9 : Int32) (s0_10 : (Nat → Int32)) (s0_11 : Int32) (s0_12 : Bool) (s0_13 : Int32) (s0_14 : Int32) (s0_15 : Bool) (s0_16 : Int32) (s0_17 : (Nat → Int32)) (s0_18 : Int32) (s0_19 : (Nat → Int32)) (s0_20 : (Nat → Int32)) (s0_21 : Int32) (s0_22 : Int32) (s0_23 : Int32) (s0_24 : Int32) (s0_25 : Int32) (s0_26 : Int32) (s0_27 : (Nat → Int32)) (s0_28 : (Nat → Int32)) (s0_29 : Int64) (out : Int32) (C : CX p s m args meth c cX10_whichOf 3 RX10 (some .int) "whichOf") {K : Int32 → Int32 → Option (Int32)} (hK : ∀ (v1 : Int32) (v2 : Int32) , K v1 v2 = some out → ∀ (H : Heap) (locs : List Loc) (ls : Array Slot), KW G A s (wX10 G q s0_0 s0_1 s0_2 s0_3 s0_4 s0_5 s0_6 s0_7 s0_8 s0_9 s0_10 s0_11 s0_12 s0_13 s0_14 s0_15 s0_16 s0_17 s0_18 s0_19 s0_20 s0_21 s0_22 s0_23 s0_24 s0_25 s0_26 s0_27 s0_28 s0_29) H locs → lv_has ls 3 [(1, .int v1)] → W p l e (zR 0 0) s m args below meth c H locs 0 0 (QI G A out (wX10 G q s0_0 s0_1 s0_2 s0_3 s0_4 s0_5 s0_6 s0_7 s0_8 s0_9 s0_10 s0_11 s0_12 s0_13 s0_14 s0_15 s0_16 s0_17 s0_18 s0_19 s0_20 s0_21 s0_22 s0_23 s0_24 s0_25 s0_26 s0_27 s0_28 s0_29) below args s) (F0 m 28 ls [])) :
    ∀ (n : Nat) (v1 : Int32) (v2 : Int32) , lp_X10_whichOf_5 s0_18 s0_19 K n v1 v2 = some out → ∀ (H : Heap) (locs : List Loc) (ls : Array Slot), KW G A s (wX10 G q s0_0 s0_1 s0_2 s0_3 s0_4 s0_5 s0_6 s0_7 s0_8 s0_9 s0_10 s0_11 s0_12 s0_13 s0_14 s0_15 s0_16 s0_17 s0_18 s0_19 s0_20 s0_21 s0_22 s0_23 s0_24 s0_25 s0_26 s0_27 s0_28 s0_29) H locs → lv_has ls 3 [(0, .ref (q 0)), (1, .int v1), (2, .int v2)] → W p l e (zR 0 0) s m args below meth c H locs 0 0 (QI G A out (wX10 G q s0_0 s0_1 s0_2 s0_3 s0_4 s0_5 s0_6 s0_7 s0_8 s0_9 s0_10 s0_11 s0_12 s0_13 s0_14 s0_15 s0_16 s0_17 s0_18 s0_19 s0_20 s0_21 s0_22 s0_23 s0_24 s0_25 s0_26 s0_27 s0_28 s0_29) below args s) (F0 m 5 ls []) := by
  have hx := C.1
  have hb := C.2.1
  intro n
  induction n with
  | zero => intro v1 v2 hf; exact nomatch (show (none : Option (Int32)) = some out from hf)
  | succ n ih =>
    intro v1 v2 hf H locs ls hW hl
    rw [lp_X10_whichOf_5] at hf
    refine lv_iload_n hx hb dX10_whichOf_5 rfl (lv_at hl 2 rfl) ?_
    refine lv_aload_n hx hb dX10_whichOf_6 rfl (lv_at hl 0 rfl) ?_
    refine zk_get C hW fgX10_81 0 rfl rfl dX10_whichOf_7 ?_
    refine lv_icmp_ge (tgt := 28) hx hb dX10_whichOf_10 (by decide) (fun c1 => ?_) (fun c1 => ?_)
    · have hf := ipos c1 hf
      exact hK v1 v2 hf _ _ _ hW (lv_sub hl [1] rfl)
    · have hf := ineg c1 hf
      refine lv_iload_n hx hb dX10_whichOf_13 rfl (lv_at hl 1 rfl) ?_
      refine lv_aload_n hx hb dX10_whichOf_14 rfl (lv_at hl 0 rfl) ?_
      refine zk_get C hW fgX10_22 0 rfl rfl dX10_whichOf_15 ?_
      refine lv_iload_n hx hb dX10_whichOf_18 rfl (lv_at hl 2 rfl) ?_
      obtain ⟨g2, hf⟩ := grd hf
      refine zk_iald C hW 5 g2 rfl dX10_whichOf_19 ?_
      refine lv_iand hx hb dX10_whichOf_20 ?_
      refine lv_istore_n (lv' := [(1, .int (v1 &&& (s0_19 (Int32.toNatClampNeg v2)))), (0, .ref (q 0)), (2, .int v2)]) hx hb dX10_whichOf_21 rfl hl (by decide) rfl (fun ls hl => ?_)
      refine lv_iinc (v := (v2 + 1)) (lv' := [(2, .int (v2 + 1)), (1, .int (v1 &&& (s0_19 (Int32.toNatClampNeg v2)))), (0, .ref (q 0))]) hx hb dX10_whichOf_22 hl (k := 2) rfl rfl (by decide) rfl (fun ls hl => ?_)
      refine lv_goto (tgt := 5) hx hb dX10_whichOf_25 (by decide) ?_
      exact ih (v1 &&& (s0_19 (Int32.toNatClampNeg v2))) (v2 + 1) hf _ _ _ hW (lv_sub hl [2, 1, 0] rfl)
set_option maxHeartbeats 4000000 in
set_option maxRecDepth 100000 in
theorem c_X10_whichOf (l : Launch) (G : GG) (q : Nat → Nat) (m0 : (Nat → Int32)) (m1 : Int32) (m2 : Int32) (m3 : Int32) (m4 : Int32) (m5 : Int32) (m6 : Int32) (m7 : Int32) (m8 : (Nat → Int32)) (m9 : Int32) (m10 : (Nat → Int32)) (m11 : Int32) (m12 : Bool) (m13 : Int32) (m14 : Int32) (m15 : Bool) (m16 : Int32) (m17 : (Nat → Int32)) (m18 : Int32) (m19 : (Nat → Int32)) (m20 : (Nat → Int32)) (m21 : Int32) (m22 : Int32) (m23 : Int32) (m24 : Int32) (m25 : Int32) (m26 : Int32) (m27 : (Nat → Int32)) (m28 : (Nat → Int32)) (m29 : Int64) (out : Int32) (hf : f_X10_whichOf m18 m19 = some out) : CtI G l yX10_whichOf (Cond.code yX10_whichOf cX10_whichOf 3 (some .int) :: WL) (zR 0 0) [.ref (q 0)] (wX10 G q m0 m1 m2 m3 m4 m5 m6 m7 m8 m9 m10 m11 m12 m13 m14 m15 m16 m17 m18 m19 m20 m21 m22 m23 m24 m25 m26 m27 m28 m29) out (wX10 G q m0 m1 m2 m3 m4 m5 m6 m7 m8 m9 m10 m11 m12 m13 m14 m15 m16 m17 m18 m19 m20 m21 m22 m23 m24 m25 m26 m27 m28 m29) := by
  refine CtI.mk (cc := cX10_whichOf) (nL := 3) (rt := (some .int)) (own := RX10) (nm := "whichOf") (by decide) rfl rfl (Nat.le_of_ble_eq_true rfl) ?_
  intro p e s m below meth c A ls C hW hl
  have hx := C.1
  have hb := C.2.1
  have hl : lv_has ls 3 [(0, .ref (q 0))] := hl
  unfold f_X10_whichOf at hf
  refine lv_bipush (v := 31) hx hb dX10_whichOf_0 (by decide) ?_
  refine lv_istore_n (lv' := [(1, .int 31), (0, .ref (q 0))]) hx hb dX10_whichOf_2 rfl hl (by decide) rfl (fun ls hl => ?_)
  refine lv_iconst (v := 0) hx hb dX10_whichOf_3 (by decide) ?_
  refine lv_istore_n (lv' := [(2, .int 0), (1, .int 31), (0, .ref (q 0))]) hx hb dX10_whichOf_4 rfl hl (by decide) rfl (fun ls hl => ?_)
  refine w_X10_whichOf_5 l G q m0 m1 m2 m3 m4 m5 m6 m7 m8 m9 m10 m11 m12 m13 m14 m15 m16 m17 m18 m19 m20 m21 m22 m23 m24 m25 m26 m27 m28 m29 out C (fun w3_v1 w3_v2 hf H locs ls hW hl => ?_) FU 31 0 hf _ _ _ hW (lv_sub hl [2, 1, 0] rfl)
  refine lv_iload_n hx hb dX10_whichOf_28 rfl (lv_at hl 0 rfl) ?_
  obtain rfl := Option.some.inj hf
  exact zk_iret C hW rfl dX10_whichOf_29

set_option maxHeartbeats 4000000 in
set_option maxRecDepth 100000 in
theorem c_X10_which (l : Launch) (G : GG) (q : Nat → Nat) (m0 : (Nat → Int32)) (m1 : Int32) (m2 : Int32) (m3 : Int32) (m4 : Int32) (m5 : Int32) (m6 : Int32) (m7 : Int32) (m8 : (Nat → Int32)) (m9 : Int32) (m10 : (Nat → Int32)) (m11 : Int32) (m12 : Bool) (m13 : Int32) (m14 : Int32) (m15 : Bool) (m16 : Int32) (m17 : (Nat → Int32)) (m18 : Int32) (m19 : (Nat → Int32)) (m20 : (Nat → Int32)) (m21 : Int32) (m22 : Int32) (m23 : Int32) (m24 : Int32) (m25 : Int32) (m26 : Int32) (m27 : (Nat → Int32)) (m28 : (Nat → Int32)) (m29 : Int64) (out : Int32) (hf : f_X10_which m18 m19 = some out) : CtI G l yX10_which (Cond.code yX10_which cX10_which 1 (some .int) :: WL) (zR 1 22) [.ref (q 0)] (wX10 G q m0 m1 m2 m3 m4 m5 m6 m7 m8 m9 m10 m11 m12 m13 m14 m15 m16 m17 m18 m19 m20 m21 m22 m23 m24 m25 m26 m27 m28 m29) out (wX10 G q m0 m1 m2 m3 m4 m5 m6 m7 m8 m9 m10 m11 m12 m13 m14 m15 m16 m17 m18 m19 m20 m21 m22 m23 m24 m25 m26 m27 m28 m29) := by
  refine CtI.mk (cc := cX10_which) (nL := 1) (rt := (some .int)) (own := RX10) (nm := "which") (by decide) rfl rfl (Nat.le_of_ble_eq_true rfl) ?_
  intro p e s m below meth c A ls C hW hl
  have hx := C.1
  have hb := C.2.1
  have hl : lv_has ls 1 [(0, .ref (q 0))] := hl
  unfold f_X10_which at hf
  refine lv_aload_n hx hb dX10_which_0 rfl (lv_at hl 0 rfl) ?_
  obtain ⟨u1, eu1, hf⟩ := bnd hf
  refine zk_callBI (As := []) (rest := []) (W1 := wX10 G q m0 m1 m2 m3 m4 m5 m6 m7 m8 m9 m10 m11 m12 m13 m14 m15 m16 m17 m18 m19 m20 m21 m22 m23 m24 m25 m26 m27 m28 m29) C hW hl mvX10_173 (c_X10_whichOf l G q m0 m1 m2 m3 m4 m5 m6 m7 m8 m9 m10 m11 m12 m13 m14 m15 m16 m17 m18 m19 m20 m21 m22 m23 m24 m25 m26 m27 m28 m29 u1 eu1) ⟨(Nat.le_of_ble_eq_true rfl), (Nat.le_of_ble_eq_true rfl)⟩ ⟨rfl, rfl⟩ ([]) ([]) zE1 rfl rfl (Nat.le_of_ble_eq_true rfl) zE1r dX10_which_1 ⟨Nat.zero_le _, Nat.zero_le _⟩ (fun H locs hW => ?_)
  obtain rfl := Option.some.inj hf
  exact zk_iret C hW rfl dX10_which_4

set_option maxHeartbeats 4000000 in
set_option maxRecDepth 100000 in
theorem w_X10_worstBy_2 {p : Program} {e : Env} {s : State} {m : MethodId} {args : Array Value} {below : List Frame} {meth : Method} {c : Code} {A : Nat → Prop} (l : Launch) (G : GG) (q : Nat → Nat) (v1 : Int32) (v2 : Bool) (s0_0 : (Nat → Int32)) (s0_1 : Int32) (s0_2 : Int32) (s0_3 : Int32) (s0_4 : Int32) (s0_5 : Int32) (s0_6 : Int32) (s0_7 : Int32) (s0_8 : (Nat → Int32)) (s0_9 : Int32) (s0_10 : (Nat → Int32)) (s0_11 : Int32) (s0_12 : Bool) (s0_13 : Int32) (s0_14 : Int32) (s0_15 : Bool) (s0_16 : Int32) (s0_17 : (Nat → Int32)) (s0_18 : Int32) (s0_19 : (Nat → Int32)) (s0_21 : Int32) (s0_22 : Int32) (s0_23 : Int32) (s0_24 : Int32) (s0_25 : Int32) (s0_26 : Int32) (s0_27 : (Nat → Int32)) (s0_28 : (Nat → Int32)) (s0_29 : Int64) (out : Int32 × Int32 × Bool × Int32 × Int32 × Bool × (Nat → Int32)) (C : CX p s m args meth c cX10_worstBy 5 RX10 (some .int) "worstBy") {K : Int32 → (Nat → Int32) → Option (Int32 × Int32 × Bool × Int32 × Int32 × Bool × (Nat → Int32))} (hK : ∀ (v3 : Int32) (s0_20 : (Nat → Int32)) , K v3 s0_20 = some out → ∀ (H : Heap) (locs : List Loc) (ls : Array Slot), KW G A s (wX10 G q s0_0 s0_1 s0_2 s0_3 s0_4 s0_5 s0_6 s0_7 s0_8 s0_9 s0_10 s0_11 s0_12 s0_13 s0_14 s0_15 s0_16 s0_17 s0_18 s0_19 s0_20 s0_21 s0_22 s0_23 s0_24 s0_25 s0_26 s0_27 s0_28 s0_29) H locs → lv_has ls 5 [(0, .ref (q 0)), (1, .int v1), (2, .int (bI v2))] → W p l e (zR 2 53) s m args below meth c H locs 0 0 (QI G A out.1 (wX10 G q s0_0 s0_1 s0_2 s0_3 s0_4 s0_5 s0_6 s0_7 s0_8 s0_9 s0_10 out.2.1 out.2.2.1 out.2.2.2.1 out.2.2.2.2.1 out.2.2.2.2.2.1 s0_16 s0_17 s0_18 s0_19 out.2.2.2.2.2.2 s0_21 s0_22 s0_23 s0_24 s0_25 s0_26 s0_27 s0_28 s0_29) below args s) (F0 m 21 ls [])) :
    ∀ (n : Nat) (v3 : Int32) (s0_20 : (Nat → Int32)) , lp_X10_worstBy_2  K n v3 s0_20 = some out → ∀ (H : Heap) (locs : List Loc) (ls : Array Slot), KW G A s (wX10 G q s0_0 s0_1 s0_2 s0_3 s0_4 s0_5 s0_6 s0_7 s0_8 s0_9 s0_10 s0_11 s0_12 s0_13 s0_14 s0_15 s0_16 s0_17 s0_18 s0_19 s0_20 s0_21 s0_22 s0_23 s0_24 s0_25 s0_26 s0_27 s0_28 s0_29) H locs → lv_has ls 5 [(0, .ref (q 0)), (1, .int v1), (2, .int (bI v2)), (3, .int v3)] → W p l e (zR 2 53) s m args below meth c H locs 0 0 (QI G A out.1 (wX10 G q s0_0 s0_1 s0_2 s0_3 s0_4 s0_5 s0_6 s0_7 s0_8 s0_9 s0_10 out.2.1 out.2.2.1 out.2.2.2.1 out.2.2.2.2.1 out.2.2.2.2.2.1 s0_16 s0_17 s0_18 s0_19 out.2.2.2.2.2.2 s0_21 s0_22 s0_23 s0_24 s0_25 s0_26 s0_27 s0_28 s0_29) below args s) (F0 m 2 ls []) := by
  have hx := C.1
  have hb := C.2.1
  intro n
  induction n with
  | zero => intro v3 s0_20 hf; exact nomatch (show (none : Option (Int32 × Int32 × Bool × Int32 × Int32 × Bool × (Nat → Int32))) = some out from hf)
  | succ n ih =>
    intro v3 s0_20 hf H locs ls hW hl
    rw [lp_X10_worstBy_2] at hf
    refine lv_iload_n hx hb dX10_worstBy_2 rfl (lv_at hl 3 rfl) ?_
    refine lv_bipush (v := 10) hx hb dX10_worstBy_3 (by decide) ?_
    refine lv_icmp_ge (tgt := 21) hx hb dX10_worstBy_5 (by decide) (fun c1 => ?_) (fun c1 => ?_)
    · have hf := ipos c1 hf
      exact hK v3 s0_20 hf _ _ _ hW (lv_sub hl [0, 1, 2] rfl)
    · have hf := ineg c1 hf
      refine lv_aload_n hx hb dX10_worstBy_8 rfl (lv_at hl 0 rfl) ?_
      refine zk_get C hW fgX10_25 0 rfl rfl dX10_worstBy_9 ?_
      refine lv_iload_n hx hb dX10_worstBy_12 rfl (lv_at hl 3 rfl) ?_
      refine lv_iconst (v := 0) hx hb dX10_worstBy_13 (by decide) ?_
      obtain ⟨g3, hf⟩ := grd hf
      obtain ⟨z2, ez2, hf⟩ := bnd hf
      refine zk_iast (W1 := wX10 G q s0_0 s0_1 s0_2 s0_3 s0_4 s0_5 s0_6 s0_7 s0_8 s0_9 s0_10 s0_11 s0_12 s0_13 s0_14 s0_15 s0_16 s0_17 s0_18 s0_19 z2 s0_21 s0_22 s0_23 s0_24 s0_25 s0_26 s0_27 s0_28 s0_29) C hW 6 g3 (Option.some.inj ez2) rfl rfl dX10_worstBy_14 (fun H locs hW => ?_)
      refine lv_iinc (v := (v3 + 1)) (lv' := [(3, .int (v3 + 1)), (0, .ref (q 0)), (1, .int v1), (2, .int (bI v2))]) hx hb dX10_worstBy_15 hl (k := 3) rfl rfl (by decide) rfl (fun ls hl => ?_)
      refine lv_goto (tgt := 2) hx hb dX10_worstBy_18 (by decide) ?_
      exact ih (v3 + 1) z2 hf _ _ _ hW (lv_sub hl [1, 2, 3, 0] rfl)
set_option maxHeartbeats 4000000 in
set_option maxRecDepth 100000 in
theorem w_X10_worstBy_26 {p : Program} {e : Env} {s : State} {m : MethodId} {args : Array Value} {below : List Frame} {meth : Method} {c : Code} {A : Nat → Prop} (l : Launch) (G : GG) (q : Nat → Nat) (v1 : Int32) (v2 : Bool) (s0_0 : (Nat → Int32)) (s0_1 : Int32) (s0_2 : Int32) (s0_3 : Int32) (s0_4 : Int32) (s0_5 : Int32) (s0_6 : Int32) (s0_7 : Int32) (s0_8 : (Nat → Int32)) (s0_9 : Int32) (s0_10 : (Nat → Int32)) (s0_16 : Int32) (s0_17 : (Nat → Int32)) (s0_18 : Int32) (s0_19 : (Nat → Int32)) (s0_21 : Int32) (s0_22 : Int32) (s0_23 : Int32) (s0_24 : Int32) (s0_25 : Int32) (s0_26 : Int32) (s0_27 : (Nat → Int32)) (s0_28 : (Nat → Int32)) (s0_29 : Int64) (out : Int32 × Int32 × Bool × Int32 × Int32 × Bool × (Nat → Int32)) (C : CX p s m args meth c cX10_worstBy 5 RX10 (some .int) "worstBy") {K : Int32 → Int32 → Int32 → Bool → Int32 → Int32 → Bool → (Nat → Int32) → Option (Int32 × Int32 × Bool × Int32 × Int32 × Bool × (Nat → Int32))} (hK : ∀ (v3 : Int32) (v4 : Int32) (s0_11 : Int32) (s0_12 : Bool) (s0_13 : Int32) (s0_14 : Int32) (s0_15 : Bool) (s0_20 : (Nat → Int32)) , K v3 v4 s0_11 s0_12 s0_13 s0_14 s0_15 s0_20 = some out → ∀ (H : Heap) (locs : List Loc) (ls : Array Slot), KW G A s (wX10 G q s0_0 s0_1 s0_2 s0_3 s0_4 s0_5 s0_6 s0_7 s0_8 s0_9 s0_10 s0_11 s0_12 s0_13 s0_14 s0_15 s0_16 s0_17 s0_18 s0_19 s0_20 s0_21 s0_22 s0_23 s0_24 s0_25 s0_26 s0_27 s0_28 s0_29) H locs → lv_has ls 5 [(3, .int v3)] → W p l e (zR 2 53) s m args below meth c H locs 0 0 (QI G A out.1 (wX10 G q s0_0 s0_1 s0_2 s0_3 s0_4 s0_5 s0_6 s0_7 s0_8 s0_9 s0_10 out.2.1 out.2.2.1 out.2.2.2.1 out.2.2.2.2.1 out.2.2.2.2.2.1 s0_16 s0_17 s0_18 s0_19 out.2.2.2.2.2.2 s0_21 s0_22 s0_23 s0_24 s0_25 s0_26 s0_27 s0_28 s0_29) below args s) (F0 m 107 ls [])) :
    ∀ (n : Nat) (v3 : Int32) (v4 : Int32) (s0_11 : Int32) (s0_12 : Bool) (s0_13 : Int32) (s0_14 : Int32) (s0_15 : Bool) (s0_20 : (Nat → Int32)) , lp_X10_worstBy_26 v1 v2 s0_4 s0_5 s0_8 K n v3 v4 s0_11 s0_12 s0_13 s0_14 s0_15 s0_20 = some out → ∀ (H : Heap) (locs : List Loc) (ls : Array Slot), KW G A s (wX10 G q s0_0 s0_1 s0_2 s0_3 s0_4 s0_5 s0_6 s0_7 s0_8 s0_9 s0_10 s0_11 s0_12 s0_13 s0_14 s0_15 s0_16 s0_17 s0_18 s0_19 s0_20 s0_21 s0_22 s0_23 s0_24 s0_25 s0_26 s0_27 s0_28 s0_29) H locs → lv_has ls 5 [(0, .ref (q 0)), (1, .int v1), (2, .int (bI v2)), (3, .int v3), (4, .int v4)] → W p l e (zR 2 53) s m args below meth c H locs 0 0 (QI G A out.1 (wX10 G q s0_0 s0_1 s0_2 s0_3 s0_4 s0_5 s0_6 s0_7 s0_8 s0_9 s0_10 out.2.1 out.2.2.1 out.2.2.2.1 out.2.2.2.2.1 out.2.2.2.2.2.1 s0_16 s0_17 s0_18 s0_19 out.2.2.2.2.2.2 s0_21 s0_22 s0_23 s0_24 s0_25 s0_26 s0_27 s0_28 s0_29) below args s) (F0 m 26 ls []) := by
  have hx := C.1
  have hb := C.2.1
  intro n
  induction n with
  | zero => intro v3 v4 s0_11 s0_12 s0_13 s0_14 s0_15 s0_20 hf; exact nomatch (show (none : Option (Int32 × Int32 × Bool × Int32 × Int32 × Bool × (Nat → Int32))) = some out from hf)
  | succ n ih =>
    intro v3 v4 s0_11 s0_12 s0_13 s0_14 s0_15 s0_20 hf H locs ls hW hl
    rw [lp_X10_worstBy_26] at hf
    refine lv_iload hx hb dX10_worstBy_26 (lv_at hl 4 rfl) ?_
    refine lv_iconst (v := 5) hx hb dX10_worstBy_28 (by decide) ?_
    refine lv_icmp_ge (tgt := 107) hx hb dX10_worstBy_29 (by decide) (fun c5 => ?_) (fun c5 => ?_)
    · have hf := ipos c5 hf
      exact hK v3 v4 s0_11 s0_12 s0_13 s0_14 s0_15 s0_20 hf _ _ _ hW (lv_sub hl [3] rfl)
    · have hf := ineg c5 hf
      refine lv_iload_n hx hb dX10_worstBy_32 rfl (lv_at hl 1 rfl) ?_
      refine lv_iload hx hb dX10_worstBy_33 (lv_at hl 4 rfl) ?_
      refine lv_ishr hx hb dX10_worstBy_35 ?_
      refine lv_iconst (v := 1) hx hb dX10_worstBy_36 (by decide) ?_
      refine lv_iand hx hb dX10_worstBy_37 ?_
      refine lv_iconst (v := 1) hx hb dX10_worstBy_38 (by decide) ?_
      refine lv_icmp_ne (tgt := 101) hx hb dX10_worstBy_39 (by decide) (fun c6 => ?_) (fun c6 => ?_)
      · have hf := ineg c6 hf
        refine lv_iinc (v := (v4 + 1)) (lv' := [(4, .int (v4 + 1)), (0, .ref (q 0)), (1, .int v1), (2, .int (bI v2)), (3, .int v3)]) hx hb dX10_worstBy_101 hl (k := 4) rfl rfl (by decide) rfl (fun ls hl => ?_)
        refine lv_goto (tgt := 26) hx hb dX10_worstBy_104 (by decide) ?_
        exact ih v3 (v4 + 1) s0_11 s0_12 s0_13 s0_14 s0_15 s0_20 hf _ _ _ hW (lv_sub hl [1, 2, 3, 4, 0] rfl)
      · have hf := ipos c6 hf
        refine lv_aload_n hx hb dX10_worstBy_42 rfl (lv_at hl 0 rfl) ?_
        refine lv_aload_n hx hb dX10_worstBy_43 rfl (lv_at hl 0 rfl) ?_
        refine zk_get C hW fgX10_13 0 rfl rfl dX10_worstBy_44 ?_
        refine lv_aload_n hx hb dX10_worstBy_47 rfl (lv_at hl 0 rfl) ?_
        refine zk_get C hW fgX10_69 0 rfl rfl dX10_worstBy_48 ?_
        refine lv_iload hx hb dX10_worstBy_51 (lv_at hl 4 rfl) ?_
        refine lv_iload_n hx hb dX10_worstBy_53 rfl (lv_at hl 2 rfl) ?_
        refine lv_aload_n hx hb dX10_worstBy_54 rfl (lv_at hl 0 rfl) ?_
        refine zk_get C hW fgX10_72 0 rfl rfl dX10_worstBy_55 ?_
        obtain ⟨u7, eu7, hf⟩ := bnd hf
        refine zk_callV (As := [.ref (q 2), .int s0_4, .int v4, .int (bI v2), .int s0_5]) (rest := []) (W1 := wX10 G q s0_0 s0_1 s0_2 s0_3 s0_4 s0_5 s0_6 s0_7 s0_8 s0_9 s0_10 u7.1 u7.2.1 u7.2.2.1 u7.2.2.2.1 u7.2.2.2.2 s0_16 s0_17 s0_18 s0_19 s0_20 s0_21 s0_22 s0_23 s0_24 s0_25 s0_26 s0_27 s0_28 s0_29) C hW hl mvX10_133 (c_X10_read l G q (q 2) s0_1 s0_2 s0_3 s0_4 s0_5 s0_6 s0_7 s0_9 s0_11 s0_12 s0_13 s0_14 s0_15 s0_16 s0_18 s0_21 s0_22 s0_23 s0_24 s0_25 s0_26 s0_29 9 s0_8 s0_4 v4 v2 s0_5 u7 eu7) ⟨(Nat.le_of_ble_eq_true rfl), (Nat.le_of_ble_eq_true rfl)⟩ ⟨rfl, rfl⟩ [0, 2] rfl rfl rfl rfl (Nat.le_of_ble_eq_true rfl) (Nat.le_of_ble_eq_true rfl) rfl dX10_worstBy_58 ⟨Nat.zero_le _, Nat.zero_le _⟩ (fun H locs hW => ?_)
        refine lv_aload_n hx hb dX10_worstBy_61 rfl (lv_at hl 0 rfl) ?_
        refine zk_get C hW fgX10_25 0 rfl rfl dX10_worstBy_62 ?_
        refine lv_aload_n hx hb dX10_worstBy_65 rfl (lv_at hl 0 rfl) ?_
        refine zk_get C hW fgX10_97 0 rfl rfl dX10_worstBy_66 ?_
        refine lv_dup2_11 hx hb dX10_worstBy_69 rfl rfl ?_
        obtain ⟨g8, hf⟩ := grd hf
        refine zk_iald C hW 6 g8 rfl dX10_worstBy_70 ?_
        refine lv_iconst (v := 1) hx hb dX10_worstBy_71 (by decide) ?_
        refine lv_iadd hx hb dX10_worstBy_72 ?_
        obtain ⟨g10, hf⟩ := grd hf
        obtain ⟨z9, ez9, hf⟩ := bnd hf
        refine zk_iast (W1 := wX10 G q s0_0 s0_1 s0_2 s0_3 s0_4 s0_5 s0_6 s0_7 s0_8 s0_9 s0_10 u7.1 u7.2.1 u7.2.2.1 u7.2.2.2.1 u7.2.2.2.2 s0_16 s0_17 s0_18 s0_19 z9 s0_21 s0_22 s0_23 s0_24 s0_25 s0_26 s0_27 s0_28 s0_29) C hW 6 g10 (Option.some.inj ez9) rfl rfl dX10_worstBy_73 (fun H locs hW => ?_)
        refine lv_aload_n hx hb dX10_worstBy_74 rfl (lv_at hl 0 rfl) ?_
        refine zk_get C hW fgX10_25 0 rfl rfl dX10_worstBy_75 ?_
        refine lv_aload_n hx hb dX10_worstBy_78 rfl (lv_at hl 0 rfl) ?_
        refine zk_get C hW fgX10_97 0 rfl rfl dX10_worstBy_79 ?_
        obtain ⟨g11, hf⟩ := grd hf
        refine zk_iald C hW 6 g11 rfl dX10_worstBy_82 ?_
        refine lv_iload_n hx hb dX10_worstBy_83 rfl (lv_at hl 3 rfl) ?_
        refine lv_icmp_le (tgt := 99) hx hb dX10_worstBy_84 (by decide) (fun c12 => ?_) (fun c12 => ?_)
        · have hf := ipos c12 hf
          refine lv_iload_n hx hb dX10_worstBy_99 rfl (lv_at hl 3 rfl) ?_
          refine lv_istore_n (lv' := [(3, .int v3), (0, .ref (q 0)), (1, .int v1), (2, .int (bI v2)), (4, .int v4)]) hx hb dX10_worstBy_100 rfl hl (by decide) rfl (fun ls hl => ?_)
          refine lv_iinc (v := (v4 + 1)) (lv' := [(4, .int (v4 + 1)), (3, .int v3), (0, .ref (q 0)), (1, .int v1), (2, .int (bI v2))]) hx hb dX10_worstBy_101 hl (k := 4) rfl rfl (by decide) rfl (fun ls hl => ?_)
          refine lv_goto (tgt := 26) hx hb dX10_worstBy_104 (by decide) ?_
          exact ih v3 (v4 + 1) u7.1 u7.2.1 u7.2.2.1 u7.2.2.2.1 u7.2.2.2.2 z9 hf _ _ _ hW (lv_sub hl [2, 3, 4, 1, 0] rfl)
        · have hf := ineg c12 hf
          refine lv_aload_n hx hb dX10_worstBy_87 rfl (lv_at hl 0 rfl) ?_
          refine zk_get C hW fgX10_25 0 rfl rfl dX10_worstBy_88 ?_
          refine lv_aload_n hx hb dX10_worstBy_91 rfl (lv_at hl 0 rfl) ?_
          refine zk_get C hW fgX10_97 0 rfl rfl dX10_worstBy_92 ?_
          obtain ⟨g13, hf⟩ := grd hf
          refine zk_iald C hW 6 g13 rfl dX10_worstBy_95 ?_
          refine lv_goto (tgt := 100) hx hb dX10_worstBy_96 (by decide) ?_
          refine lv_istore_n (lv' := [(3, .int (z9 (Int32.toNatClampNeg u7.2.2.2.1))), (0, .ref (q 0)), (1, .int v1), (2, .int (bI v2)), (4, .int v4)]) hx hb dX10_worstBy_100 rfl hl (by decide) rfl (fun ls hl => ?_)
          refine lv_iinc (v := (v4 + 1)) (lv' := [(4, .int (v4 + 1)), (3, .int (z9 (Int32.toNatClampNeg u7.2.2.2.1))), (0, .ref (q 0)), (1, .int v1), (2, .int (bI v2))]) hx hb dX10_worstBy_101 hl (k := 4) rfl rfl (by decide) rfl (fun ls hl => ?_)
          refine lv_goto (tgt := 26) hx hb dX10_worstBy_104 (by decide) ?_
          exact ih (z9 (Int32.toNatClampNeg u7.2.2.2.1)) (v4 + 1) u7.1 u7.2.1 u7.2.2.1 u7.2.2.2.1 u7.2.2.2.2 z9 hf _ _ _ hW (lv_sub hl [2, 3, 4, 1, 0] rfl)
set_option maxHeartbeats 4000000 in
set_option maxRecDepth 100000 in
theorem c_X10_worstBy (l : Launch) (G : GG) (q : Nat → Nat) (m0 : (Nat → Int32)) (m1 : Int32) (m2 : Int32) (m3 : Int32) (m4 : Int32) (m5 : Int32) (m6 : Int32) (m7 : Int32) (m8 : (Nat → Int32)) (m9 : Int32) (m10 : (Nat → Int32)) (m11 : Int32) (m12 : Bool) (m13 : Int32) (m14 : Int32) (m15 : Bool) (m16 : Int32) (m17 : (Nat → Int32)) (m18 : Int32) (m19 : (Nat → Int32)) (m20 : (Nat → Int32)) (m21 : Int32) (m22 : Int32) (m23 : Int32) (m24 : Int32) (m25 : Int32) (m26 : Int32) (m27 : (Nat → Int32)) (m28 : (Nat → Int32)) (m29 : Int64) (a0 : Int32) (a1 : Bool) (out : Int32 × Int32 × Bool × Int32 × Int32 × Bool × (Nat → Int32)) (hf : f_X10_worstBy m4 m5 m8 m11 m12 m13 m14 m15 m20 a0 a1 = some out) : CtI G l yX10_worstBy (Cond.code yX10_worstBy cX10_worstBy 5 (some .int) :: WL) (zR 2 53) [.ref (q 0), .int a0, .int (bI a1)] (wX10 G q m0 m1 m2 m3 m4 m5 m6 m7 m8 m9 m10 m11 m12 m13 m14 m15 m16 m17 m18 m19 m20 m21 m22 m23 m24 m25 m26 m27 m28 m29) out.1 (wX10 G q m0 m1 m2 m3 m4 m5 m6 m7 m8 m9 m10 out.2.1 out.2.2.1 out.2.2.2.1 out.2.2.2.2.1 out.2.2.2.2.2.1 m16 m17 m18 m19 out.2.2.2.2.2.2 m21 m22 m23 m24 m25 m26 m27 m28 m29) := by
  refine CtI.mk (cc := cX10_worstBy) (nL := 5) (rt := (some .int)) (own := RX10) (nm := "worstBy") (by decide) rfl rfl (Nat.le_of_ble_eq_true rfl) ?_
  intro p e s m below meth c A ls C hW hl
  have hx := C.1
  have hb := C.2.1
  have hl : lv_has ls 5 [(0, .ref (q 0)), (1, .int a0), (2, .int (bI a1))] := hl
  unfold f_X10_worstBy at hf
  refine lv_iconst (v := 0) hx hb dX10_worstBy_0 (by decide) ?_
  refine lv_istore_n (lv' := [(3, .int 0), (0, .ref (q 0)), (1, .int a0), (2, .int (bI a1))]) hx hb dX10_worstBy_1 rfl hl (by decide) rfl (fun ls hl => ?_)
  refine w_X10_worstBy_2 l G q a0 a1 m0 m1 m2 m3 m4 m5 m6 m7 m8 m9 m10 m11 m12 m13 m14 m15 m16 m17 m18 m19 m21 m22 m23 m24 m25 m26 m27 m28 m29 out C (fun w4_v3 w4_s0_20 hf H locs ls hW hl => ?_) FU 0 m20 hf _ _ _ hW (lv_sub hl [1, 2, 3, 0] rfl)
  refine lv_iconst (v := 0) hx hb dX10_worstBy_21 (by decide) ?_
  refine lv_istore_n (lv' := [(3, .int 0), (0, .ref (q 0)), (1, .int a0), (2, .int (bI a1))]) hx hb dX10_worstBy_22 rfl hl (by decide) rfl (fun ls hl => ?_)
  refine lv_iconst (v := 0) hx hb dX10_worstBy_23 (by decide) ?_
  refine lv_istore (lv' := [(4, .int 0), (3, .int 0), (0, .ref (q 0)), (1, .int a0), (2, .int (bI a1))]) hx hb dX10_worstBy_24 hl (by decide) rfl (fun ls hl => ?_)
  refine w_X10_worstBy_26 l G q a0 a1 m0 m1 m2 m3 m4 m5 m6 m7 m8 m9 m10 m16 m17 m18 m19 m21 m22 m23 m24 m25 m26 m27 m28 m29 out C (fun w14_v3 w14_v4 w14_s0_11 w14_s0_12 w14_s0_13 w14_s0_14 w14_s0_15 w14_s0_20 hf H locs ls hW hl => ?_) FU 0 0 m11 m12 m13 m14 m15 w4_s0_20 hf _ _ _ hW (lv_sub hl [2, 3, 4, 1, 0] rfl)
  refine lv_iload_n hx hb dX10_worstBy_107 rfl (lv_at hl 0 rfl) ?_
  obtain rfl := Option.some.inj hf
  exact zk_iret C hW rfl dX10_worstBy_108

set_option maxHeartbeats 4000000 in
set_option maxRecDepth 100000 in
theorem c_X10_askOf (l : Launch) (G : GG) (q : Nat → Nat) (m0 : (Nat → Int32)) (m1 : Int32) (m2 : Int32) (m3 : Int32) (m4 : Int32) (m5 : Int32) (m6 : Int32) (m7 : Int32) (m8 : (Nat → Int32)) (m9 : Int32) (m10 : (Nat → Int32)) (m11 : Int32) (m12 : Bool) (m13 : Int32) (m14 : Int32) (m15 : Bool) (m16 : Int32) (m17 : (Nat → Int32)) (m18 : Int32) (m19 : (Nat → Int32)) (m20 : (Nat → Int32)) (m21 : Int32) (m22 : Int32) (m23 : Int32) (m24 : Int32) (m25 : Int32) (m26 : Int32) (m27 : (Nat → Int32)) (m28 : (Nat → Int32)) (m29 : Int64) (out : Int32 × Int32 × Bool × Int32 × Int32 × Bool × (Nat → Int32)) (hf : f_X10_askOf m4 m5 m8 m11 m12 m13 m14 m15 m18 m19 m20 = some out) : CtI G l yX10_askOf (Cond.code yX10_askOf cX10_askOf 2 (some .int) :: WL) (zR 3 77) [.ref (q 0)] (wX10 G q m0 m1 m2 m3 m4 m5 m6 m7 m8 m9 m10 m11 m12 m13 m14 m15 m16 m17 m18 m19 m20 m21 m22 m23 m24 m25 m26 m27 m28 m29) out.1 (wX10 G q m0 m1 m2 m3 m4 m5 m6 m7 m8 m9 m10 out.2.1 out.2.2.1 out.2.2.2.1 out.2.2.2.2.1 out.2.2.2.2.2.1 m16 m17 m18 m19 out.2.2.2.2.2.2 m21 m22 m23 m24 m25 m26 m27 m28 m29) := by
  refine CtI.mk (cc := cX10_askOf) (nL := 2) (rt := (some .int)) (own := RX10) (nm := "askOf") (by decide) rfl rfl (Nat.le_of_ble_eq_true rfl) ?_
  intro p e s m below meth c A ls C hW hl
  have hx := C.1
  have hb := C.2.1
  have hl : lv_has ls 2 [(0, .ref (q 0))] := hl
  unfold f_X10_askOf at hf
  refine lv_aload_n hx hb dX10_askOf_0 rfl (lv_at hl 0 rfl) ?_
  obtain ⟨u1, eu1, hf⟩ := bnd hf
  refine zk_callBI (As := []) (rest := []) (W1 := wX10 G q m0 m1 m2 m3 m4 m5 m6 m7 m8 m9 m10 m11 m12 m13 m14 m15 m16 m17 m18 m19 m20 m21 m22 m23 m24 m25 m26 m27 m28 m29) C hW hl mvX10_173 (c_X10_whichOf l G q m0 m1 m2 m3 m4 m5 m6 m7 m8 m9 m10 m11 m12 m13 m14 m15 m16 m17 m18 m19 m20 m21 m22 m23 m24 m25 m26 m27 m28 m29 u1 eu1) ⟨(Nat.le_of_ble_eq_true rfl), (Nat.le_of_ble_eq_true rfl)⟩ ⟨rfl, rfl⟩ ([]) ([]) zE1 rfl rfl (Nat.le_of_ble_eq_true rfl) zE1r dX10_askOf_1 ⟨Nat.zero_le _, Nat.zero_le _⟩ (fun H locs hW => ?_)
  refine lv_istore_n (lv' := [(1, .int u1), (0, .ref (q 0))]) hx hb dX10_askOf_4 rfl hl (by decide) rfl (fun ls hl => ?_)
  refine lv_iload_n hx hb dX10_askOf_5 rfl (lv_at hl 0 rfl) ?_
  refine lv_if_ne (tgt := 11) hx hb dX10_askOf_6 (by decide) (fun c2 => ?_) (fun c2 => ?_)
  · have hf := ineg c2 hf
    refine lv_aload_n hx hb dX10_askOf_11 rfl (lv_at hl 1 rfl) ?_
    refine lv_iload_n hx hb dX10_askOf_12 rfl (lv_at hl 0 rfl) ?_
    refine lv_iconst (v := 1) hx hb dX10_askOf_13 (by decide) ?_
    obtain ⟨u3, eu3, hf⟩ := bnd hf
    refine zk_callBI (As := [.int u1, .int (bI true)]) (rest := []) (W1 := wX10 G q m0 m1 m2 m3 m4 m5 m6 m7 m8 m9 m10 u3.2.1 u3.2.2.1 u3.2.2.2.1 u3.2.2.2.2.1 u3.2.2.2.2.2.1 m16 m17 m18 m19 u3.2.2.2.2.2.2 m21 m22 m23 m24 m25 m26 m27 m28 m29) C hW hl mvX10_176 (c_X10_worstBy l G q m0 m1 m2 m3 m4 m5 m6 m7 m8 m9 m10 m11 m12 m13 m14 m15 m16 m17 m18 m19 m20 m21 m22 m23 m24 m25 m26 m27 m28 m29 u1 true u3 eu3) ⟨(Nat.le_of_ble_eq_true rfl), (Nat.le_of_ble_eq_true rfl)⟩ ⟨rfl, rfl⟩ ([]) ([]) zE1 rfl rfl (Nat.le_of_ble_eq_true rfl) zE1r dX10_askOf_14 ⟨Nat.zero_le _, Nat.zero_le _⟩ (fun H locs hW => ?_)
    refine lv_aload_n hx hb dX10_askOf_17 rfl (lv_at hl 1 rfl) ?_
    refine lv_iload_n hx hb dX10_askOf_18 rfl (lv_at hl 0 rfl) ?_
    refine lv_iconst (v := 0) hx hb dX10_askOf_19 (by decide) ?_
    obtain ⟨u4, eu4, hf⟩ := bnd hf
    refine zk_callBI (As := [.int u1, .int (bI false)]) (rest := [.int u3.1]) (W1 := wX10 G q m0 m1 m2 m3 m4 m5 m6 m7 m8 m9 m10 u4.2.1 u4.2.2.1 u4.2.2.2.1 u4.2.2.2.2.1 u4.2.2.2.2.2.1 m16 m17 m18 m19 u4.2.2.2.2.2.2 m21 m22 m23 m24 m25 m26 m27 m28 m29) C hW hl mvX10_176 (c_X10_worstBy l G q m0 m1 m2 m3 m4 m5 m6 m7 m8 m9 m10 u3.2.1 u3.2.2.1 u3.2.2.2.1 u3.2.2.2.2.1 u3.2.2.2.2.2.1 m16 m17 m18 m19 u3.2.2.2.2.2.2 m21 m22 m23 m24 m25 m26 m27 m28 m29 u1 false u4 eu4) ⟨(Nat.le_of_ble_eq_true rfl), (Nat.le_of_ble_eq_true rfl)⟩ ⟨rfl, rfl⟩ ([]) ([]) zE1 rfl rfl (Nat.le_of_ble_eq_true rfl) zE1r dX10_askOf_20 ⟨Nat.zero_le _, Nat.zero_le _⟩ (fun H locs hW => ?_)
    refine lv_icmp_ge (tgt := 30) hx hb dX10_askOf_23 (by decide) (fun c5 => ?_) (fun c5 => ?_)
    · have hf := ipos c5 hf
      refine lv_iconst (v := 0) hx hb dX10_askOf_30 (by decide) ?_
      obtain rfl := Option.some.inj hf
      exact zk_iret C hW rfl dX10_askOf_31
    · have hf := ineg c5 hf
      refine lv_iconst (v := 1) hx hb dX10_askOf_26 (by decide) ?_
      refine lv_goto (tgt := 31) hx hb dX10_askOf_27 (by decide) ?_
      obtain rfl := Option.some.inj hf
      exact zk_iret C hW rfl dX10_askOf_31
  · have hf := ipos c2 hf
    refine lv_iconst (v := (-1)) hx hb dX10_askOf_9 (by decide) ?_
    obtain rfl := Option.some.inj hf
    exact zk_iret C hW rfl dX10_askOf_10

set_option maxHeartbeats 4000000 in
set_option maxRecDepth 100000 in
theorem c_X10_ask (l : Launch) (G : GG) (q : Nat → Nat) (m0 : (Nat → Int32)) (m1 : Int32) (m2 : Int32) (m3 : Int32) (m4 : Int32) (m5 : Int32) (m6 : Int32) (m7 : Int32) (m8 : (Nat → Int32)) (m9 : Int32) (m10 : (Nat → Int32)) (m11 : Int32) (m12 : Bool) (m13 : Int32) (m14 : Int32) (m15 : Bool) (m16 : Int32) (m17 : (Nat → Int32)) (m18 : Int32) (m19 : (Nat → Int32)) (m20 : (Nat → Int32)) (m21 : Int32) (m22 : Int32) (m23 : Int32) (m24 : Int32) (m25 : Int32) (m26 : Int32) (m27 : (Nat → Int32)) (m28 : (Nat → Int32)) (m29 : Int64) (out : Int32 × Int32 × Bool × Int32 × Int32 × Bool × (Nat → Int32)) (hf : f_X10_ask m4 m5 m8 m11 m12 m13 m14 m15 m18 m19 m20 = some out) : CtI G l yX10_ask (Cond.code yX10_ask cX10_ask 1 (some .int) :: WL) (zR 4 98) [.ref (q 0)] (wX10 G q m0 m1 m2 m3 m4 m5 m6 m7 m8 m9 m10 m11 m12 m13 m14 m15 m16 m17 m18 m19 m20 m21 m22 m23 m24 m25 m26 m27 m28 m29) out.1 (wX10 G q m0 m1 m2 m3 m4 m5 m6 m7 m8 m9 m10 out.2.1 out.2.2.1 out.2.2.2.1 out.2.2.2.2.1 out.2.2.2.2.2.1 m16 m17 m18 m19 out.2.2.2.2.2.2 m21 m22 m23 m24 m25 m26 m27 m28 m29) := by
  refine CtI.mk (cc := cX10_ask) (nL := 1) (rt := (some .int)) (own := RX10) (nm := "ask") (by decide) rfl rfl (Nat.le_of_ble_eq_true rfl) ?_
  intro p e s m below meth c A ls C hW hl
  have hx := C.1
  have hb := C.2.1
  have hl : lv_has ls 1 [(0, .ref (q 0))] := hl
  unfold f_X10_ask at hf
  refine lv_aload_n hx hb dX10_ask_0 rfl (lv_at hl 0 rfl) ?_
  refine zk_get C hW fgX10_69 0 rfl rfl dX10_ask_1 ?_
  refine lv_if_ne (tgt := 12) hx hb dX10_ask_4 (by decide) (fun c1 => ?_) (fun c1 => ?_)
  · have hf := ineg c1 hf
    refine lv_aload_n hx hb dX10_ask_12 rfl (lv_at hl 0 rfl) ?_
    obtain ⟨u2, eu2, hf⟩ := bnd hf
    refine zk_callBI (As := []) (rest := []) (W1 := wX10 G q m0 m1 m2 m3 m4 m5 m6 m7 m8 m9 m10 u2.2.1 u2.2.2.1 u2.2.2.2.1 u2.2.2.2.2.1 u2.2.2.2.2.2.1 m16 m17 m18 m19 u2.2.2.2.2.2.2 m21 m22 m23 m24 m25 m26 m27 m28 m29) C hW hl mvX10_179 (c_X10_askOf l G q m0 m1 m2 m3 m4 m5 m6 m7 m8 m9 m10 m11 m12 m13 m14 m15 m16 m17 m18 m19 m20 m21 m22 m23 m24 m25 m26 m27 m28 m29 u2 eu2) ⟨(Nat.le_of_ble_eq_true rfl), (Nat.le_of_ble_eq_true rfl)⟩ ⟨rfl, rfl⟩ ([]) ([]) zE1 rfl rfl (Nat.le_of_ble_eq_true rfl) zE1r dX10_ask_13 ⟨Nat.zero_le _, Nat.zero_le _⟩ (fun H locs hW => ?_)
    obtain rfl := Option.some.inj hf
    exact zk_iret C hW rfl dX10_ask_16
  · have hf := ipos c1 hf
    refine lv_bipush (v := (-103)) hx hb dX10_ask_7 (by decide) ?_
    refine lv_goto (tgt := 16) hx hb dX10_ask_9 (by decide) ?_
    obtain rfl := Option.some.inj hf
    exact zk_iret C hW rfl dX10_ask_16
