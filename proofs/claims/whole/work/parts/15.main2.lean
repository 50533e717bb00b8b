set_option maxHeartbeats 4000000 in
set_option maxRecDepth 100000 in
theorem c_X9_write (l : Launch) (G : GG) (q : Nat → Nat) (t0 : zXS) (a0 : Int32) (a1 : Int32) (a2 : Int32) (a3 : Int32) (out : Int32 × zXS) (hf : f_X9_write t0 a0 a1 a2 a3 = some out) : CtI G l yX9_write (Cond.code yX9_write cX9_write 7 (some .int) :: WL) (zR 11 256) [.ref (q 0), .int a0, .int a1, .int a2, .int a3] (wX9 G q t0.1 t0.2.1 t0.2.2.1 t0.2.2.2.1 t0.2.2.2.2.1 t0.2.2.2.2.2.1 t0.2.2.2.2.2.2.1 t0.2.2.2.2.2.2.2.1 t0.2.2.2.2.2.2.2.2.1 t0.2.2.2.2.2.2.2.2.2.1 t0.2.2.2.2.2.2.2.2.2.2.1 t0.2.2.2.2.2.2.2.2.2.2.2.1 t0.2.2.2.2.2.2.2.2.2.2.2.2) out.1 (wX9 G q out.2.1 out.2.2.1 out.2.2.2.1 out.2.2.2.2.1 out.2.2.2.2.2.1 out.2.2.2.2.2.2.1 out.2.2.2.2.2.2.2.1 out.2.2.2.2.2.2.2.2.1 out.2.2.2.2.2.2.2.2.2.1 out.2.2.2.2.2.2.2.2.2.2.1 out.2.2.2.2.2.2.2.2.2.2.2.1 out.2.2.2.2.2.2.2.2.2.2.2.2.1 out.2.2.2.2.2.2.2.2.2.2.2.2.2) := by
  refine CtI.mk (cc := cX9_write) (nL := 7) (rt := (some .int)) (own := RX9) (nm := "write") (by decide) rfl rfl (Nat.le_of_ble_eq_true rfl) ?_
  intro p e s m below meth c A ls C hW hl
  have hx := C.1
  have hb := C.2.1
  have hl : lv_has ls 7 [(0, .ref (q 0)), (1, .int a0), (2, .int a1), (3, .int a2), (4, .int a3)] := hl
  unfold f_X9_write at hf
  refine lv_iload_n hx hb dX9_write_0 rfl (lv_at hl 1 rfl) ?_
  obtain ⟨u1, eu1, hf⟩ := bnd hf
  refine zk_callSI (As := [.int a0]) (rest := []) (W1 := wX9 G q t0.1 t0.2.1 t0.2.2.1 t0.2.2.2.1 t0.2.2.2.2.1 t0.2.2.2.2.2.1 t0.2.2.2.2.2.2.1 t0.2.2.2.2.2.2.2.1 t0.2.2.2.2.2.2.2.2.1 t0.2.2.2.2.2.2.2.2.2.1 t0.2.2.2.2.2.2.2.2.2.2.1 t0.2.2.2.2.2.2.2.2.2.2.2.1 t0.2.2.2.2.2.2.2.2.2.2.2.2) C hW hl msX9_143 (c_X9_isKind l G a0 u1 eu1) ⟨(Nat.le_of_ble_eq_true rfl), (Nat.le_of_ble_eq_true rfl)⟩ ⟨rfl, rfl⟩ [] rfl rfl rfl (Nat.le_of_ble_eq_true rfl) (Nat.le_of_ble_eq_true rfl) rfl dX9_write_1 ⟨Nat.zero_le _, Nat.zero_le _⟩ (fun H locs hW => ?_)
  refine lv_if_eq (tgt := 21) hx hb dX9_write_4 (by decide) (fun c2 => ?_) (fun c2 => ?_)
  · have hf := ipos c2 hf
    refine lv_bipush (v := (-102)) hx hb dX9_write_21 (by decide) ?_
    obtain rfl := Option.some.inj hf
    exact zk_iret C hW rfl dX9_write_23
  · have hf := ineg c2 hf
    refine lv_iload_n hx hb dX9_write_7 rfl (lv_at hl 2 rfl) ?_
    obtain ⟨u3, eu3, hf⟩ := bnd hf
    refine zk_callSI (As := [.int a1]) (rest := []) (W1 := wX9 G q t0.1 t0.2.1 t0.2.2.1 t0.2.2.2.1 t0.2.2.2.2.1 t0.2.2.2.2.2.1 t0.2.2.2.2.2.2.1 t0.2.2.2.2.2.2.2.1 t0.2.2.2.2.2.2.2.2.1 t0.2.2.2.2.2.2.2.2.2.1 t0.2.2.2.2.2.2.2.2.2.2.1 t0.2.2.2.2.2.2.2.2.2.2.2.1 t0.2.2.2.2.2.2.2.2.2.2.2.2) C hW hl msX9_165 (c_X9_isWrittenValue l G a1 u3 eu3) ⟨(Nat.le_of_ble_eq_true rfl), (Nat.le_of_ble_eq_true rfl)⟩ ⟨rfl, rfl⟩ [] rfl rfl rfl (Nat.le_of_ble_eq_true rfl) (Nat.le_of_ble_eq_true rfl) rfl dX9_write_8 ⟨Nat.zero_le _, Nat.zero_le _⟩ (fun H locs hW => ?_)
    refine lv_if_eq (tgt := 21) hx hb dX9_write_11 (by decide) (fun c4 => ?_) (fun c4 => ?_)
    · have hf := ipos c4 hf
      refine lv_bipush (v := (-102)) hx hb dX9_write_21 (by decide) ?_
      obtain rfl := Option.some.inj hf
      exact zk_iret C hW rfl dX9_write_23
    · have hf := ineg c4 hf
      refine lv_iload_n hx hb dX9_write_14 rfl (lv_at hl 3 rfl) ?_
      obtain ⟨u5, eu5, hf⟩ := bnd hf
      refine zk_callSI (As := [.int a2]) (rest := []) (W1 := wX9 G q t0.1 t0.2.1 t0.2.2.1 t0.2.2.2.1 t0.2.2.2.2.1 t0.2.2.2.2.2.1 t0.2.2.2.2.2.2.1 t0.2.2.2.2.2.2.2.1 t0.2.2.2.2.2.2.2.2.1 t0.2.2.2.2.2.2.2.2.2.1 t0.2.2.2.2.2.2.2.2.2.2.1 t0.2.2.2.2.2.2.2.2.2.2.2.1 t0.2.2.2.2.2.2.2.2.2.2.2.2) C hW hl msX9_165 (c_X9_isWrittenValue l G a2 u5 eu5) ⟨(Nat.le_of_ble_eq_true rfl), (Nat.le_of_ble_eq_true rfl)⟩ ⟨rfl, rfl⟩ [] rfl rfl rfl (Nat.le_of_ble_eq_true rfl) (Nat.le_of_ble_eq_true rfl) rfl dX9_write_15 ⟨Nat.zero_le _, Nat.zero_le _⟩ (fun H locs hW => ?_)
      refine lv_if_ne (tgt := 24) hx hb dX9_write_18 (by decide) (fun c6 => ?_) (fun c6 => ?_)
      · have hf := ineg c6 hf
        refine lv_iload hx hb dX9_write_24 (lv_at hl 4 rfl) ?_
        refine lv_bipush (v := 10) hx hb dX9_write_26 (by decide) ?_
        refine lv_isub hx hb dX9_write_28 ?_
        refine lv_istore (lv' := [(5, .int (a3 - 10)), (0, .ref (q 0)), (1, .int a0), (2, .int a1), (3, .int a2), (4, .int a3)]) hx hb dX9_write_29 hl (by decide) rfl (fun ls hl => ?_)
        refine lv_iload hx hb dX9_write_31 (lv_at hl 5 rfl) ?_
        refine lv_bipush (v := 10) hx hb dX9_write_33 (by decide) ?_
        refine lv_icmp_lt (tgt := 48) hx hb dX9_write_35 (by decide) (fun c7 => ?_) (fun c7 => ?_)
        · have hf := ipos c7 hf
          refine lv_iconst (v := 0) hx hb dX9_write_48 (by decide) ?_
          refine lv_istore (lv' := [(6, .int 0), (5, .int (a3 - 10)), (0, .ref (q 0)), (1, .int a0), (2, .int a1), (3, .int a2), (4, .int a3)]) hx hb dX9_write_49 hl (by decide) rfl (fun ls hl => ?_)
          refine lv_iload hx hb dX9_write_51 (lv_at hl 6 rfl) ?_
          refine lv_if_eq (tgt := 64) hx hb dX9_write_53 (by decide) (fun c8 => ?_) (fun c8 => ?_)
          · have hf := ipos c8 hf
            refine lv_aload_n hx hb dX9_write_64 rfl (lv_at hl 2 rfl) ?_
            refine zk_get C hW fgX9_168 0 rfl rfl dX9_write_65 ?_
            refine lv_bipush (v := 20) hx hb dX9_write_68 (by decide) ?_
            refine lv_icmp_lt (tgt := 76) hx hb dX9_write_70 (by decide) (fun c9 => ?_) (fun c9 => ?_)
            · have hf := ipos c9 hf
              refine lv_aload_n hx hb dX9_write_76 rfl (lv_at hl 2 rfl) ?_
              refine lv_dup hx hb dX9_write_77 rfl ?_
              refine zk_get C hW fgX9_168 0 rfl rfl dX9_write_78 ?_
              refine lv_iconst (v := 1) hx hb dX9_write_81 (by decide) ?_
              refine lv_iadd hx hb dX9_write_82 ?_
              obtain ⟨z10, ez10, hf⟩ := bnd hf
              refine zk_putI (W1 := wX9 G q t0.1 t0.2.1 t0.2.2.1 t0.2.2.2.1 t0.2.2.2.2.1 t0.2.2.2.2.2.1 t0.2.2.2.2.2.2.1 t0.2.2.2.2.2.2.2.1 t0.2.2.2.2.2.2.2.2.1 t0.2.2.2.2.2.2.2.2.2.1 t0.2.2.2.2.2.2.2.2.2.2.1 t0.2.2.2.2.2.2.2.2.2.2.2.1 z10) C hW fpX9_168 0 (Option.some.inj ez10) rfl (Nat.le_of_ble_eq_true rfl) rfl dX9_write_83 (fun H locs hW => ?_)
              refine lv_aload_n hx hb dX9_write_86 rfl (lv_at hl 2 rfl) ?_
              refine zk_get C hW fgX9_54 0 rfl rfl dX9_write_87 ?_
              refine lv_iload_n hx hb dX9_write_90 rfl (lv_at hl 3 rfl) ?_
              refine lv_iload_n hx hb dX9_write_91 rfl (lv_at hl 4 rfl) ?_
              refine lv_iload_n hx hb dX9_write_92 rfl (lv_at hl 5 rfl) ?_
              obtain ⟨u11, eu11, hf⟩ := bnd hf
              refine zk_callI (As := [.int a0, .int a1, .int a2]) (rest := []) (W1 := wX9 G q t0.1 t0.2.1 t0.2.2.1 t0.2.2.2.1 t0.2.2.2.2.1 t0.2.2.2.2.2.1 u11.2 t0.2.2.2.2.2.2.2.1 t0.2.2.2.2.2.2.2.2.1 t0.2.2.2.2.2.2.2.2.2.1 t0.2.2.2.2.2.2.2.2.2.2.1 t0.2.2.2.2.2.2.2.2.2.2.2.1 z10) C hW hl mvX9_171 (c_X8_find l G (fun k => q (k + 15)) t0.2.2.2.2.2.2.1 a0 a1 a2 u11 eu11) ⟨(Nat.le_of_ble_eq_true rfl), (Nat.le_of_ble_eq_true rfl)⟩ ⟨rfl, rfl⟩ [15, 16, 17, 18, 19, 20, 21, 22, 23, 24, 25] rfl rfl rfl rfl (Nat.le_of_ble_eq_true rfl) (Nat.le_of_ble_eq_true rfl) rfl dX9_write_93 ⟨Nat.zero_le _, Nat.zero_le _⟩ (fun H locs hW => ?_)
              refine lv_if_ne (tgt := 101) hx hb dX9_write_96 (by decide) (fun c12 => ?_) (fun c12 => ?_)
              · have hf := ineg c12 hf
                refine lv_iload hx hb dX9_write_101 (lv_at hl 0 rfl) ?_
                refine lv_if_eq (tgt := 121) hx hb dX9_write_103 (by decide) (fun c13 => ?_) (fun c13 => ?_)
                · refine lv_aload_n hx hb dX9_write_121 rfl (lv_at hl 2 rfl) ?_
                  refine zk_get C hW fgX9_54 0 rfl rfl dX9_write_122 ?_
                  refine zk_get C hW fgX9_175 15 rfl rfl dX9_write_125 ?_
                  refine zk_get C hW fgX9_111 16 rfl rfl dX9_write_128 ?_
                  obtain rfl := Option.some.inj hf
                  exact zk_iret C hW rfl dX9_write_131
                · exact absurd c13 (by decide)
              · have hf := ipos c12 hf
                refine lv_iconst (v := (-1)) hx hb dX9_write_99 (by decide) ?_
                obtain rfl := Option.some.inj hf
                exact zk_iret C hW rfl dX9_write_100
            · have hf := ineg c9 hf
              refine lv_bipush (v := (-103)) hx hb dX9_write_73 (by decide) ?_
              obtain rfl := Option.some.inj hf
              exact zk_iret C hW rfl dX9_write_75
          · have hf := ineg c8 hf
            refine lv_iload hx hb dX9_write_56 (lv_at hl 0 rfl) ?_
            refine lv_if_ne (tgt := 64) hx hb dX9_write_58 (by decide) (fun c14 => ?_) (fun c14 => ?_)
            · exact absurd c14 (by decide)
            · refine lv_bipush (v := (-102)) hx hb dX9_write_61 (by decide) ?_
              obtain rfl := Option.some.inj hf
              exact zk_iret C hW rfl dX9_write_63
        · have hf := ineg c7 hf
          refine lv_iload hx hb dX9_write_38 (lv_at hl 0 rfl) ?_
          refine lv_iconst (v := 5) hx hb dX9_write_40 (by decide) ?_
          refine lv_icmp_ge (tgt := 48) hx hb dX9_write_41 (by decide) (fun c15 => ?_) (fun c15 => ?_)
          · have hf := ipos c15 hf
            refine lv_iconst (v := 0) hx hb dX9_write_48 (by decide) ?_
            refine lv_istore (lv' := [(6, .int 0), (5, .int (a3 - 10)), (0, .ref (q 0)), (1, .int a0), (2, .int a1), (3, .int a2), (4, .int a3)]) hx hb dX9_write_49 hl (by decide) rfl (fun ls hl => ?_)
            refine lv_iload hx hb dX9_write_51 (lv_at hl 6 rfl) ?_
            refine lv_if_eq (tgt := 64) hx hb dX9_write_53 (by decide) (fun c16 => ?_) (fun c16 => ?_)
            · have hf := ipos c16 hf
              refine lv_aload_n hx hb dX9_write_64 rfl (lv_at hl 2 rfl) ?_
              refine zk_get C hW fgX9_168 0 rfl rfl dX9_write_65 ?_
              refine lv_bipush (v := 20) hx hb dX9_write_68 (by decide) ?_
              refine lv_icmp_lt (tgt := 76) hx hb dX9_write_70 (by decide) (fun c17 => ?_) (fun c17 => ?_)
              · have hf := ipos c17 hf
                refine lv_aload_n hx hb dX9_write_76 rfl (lv_at hl 2 rfl) ?_
                refine lv_dup hx hb dX9_write_77 rfl ?_
                refine zk_get C hW fgX9_168 0 rfl rfl dX9_write_78 ?_
                refine lv_iconst (v := 1) hx hb dX9_write_81 (by decide) ?_
                refine lv_iadd hx hb dX9_write_82 ?_
                obtain ⟨z18, ez18, hf⟩ := bnd hf
                refine zk_putI (W1 := wX9 G q t0.1 t0.2.1 t0.2.2.1 t0.2.2.2.1 t0.2.2.2.2.1 t0.2.2.2.2.2.1 t0.2.2.2.2.2.2.1 t0.2.2.2.2.2.2.2.1 t0.2.2.2.2.2.2.2.2.1 t0.2.2.2.2.2.2.2.2.2.1 t0.2.2.2.2.2.2.2.2.2.2.1 t0.2.2.2.2.2.2.2.2.2.2.2.1 z18) C hW fpX9_168 0 (Option.some.inj ez18) rfl (Nat.le_of_ble_eq_true rfl) rfl dX9_write_83 (fun H locs hW => ?_)
                refine lv_aload_n hx hb dX9_write_86 rfl (lv_at hl 2 rfl) ?_
                refine zk_get C hW fgX9_54 0 rfl rfl dX9_write_87 ?_
                refine lv_iload_n hx hb dX9_write_90 rfl (lv_at hl 3 rfl) ?_
                refine lv_iload_n hx hb dX9_write_91 rfl (lv_at hl 4 rfl) ?_
                refine lv_iload_n hx hb dX9_write_92 rfl (lv_at hl 5 rfl) ?_
                obtain ⟨u19, eu19, hf⟩ := bnd hf
                refine zk_callI (As := [.int a0, .int a1, .int a2]) (rest := []) (W1 := wX9 G q t0.1 t0.2.1 t0.2.2.1 t0.2.2.2.1 t0.2.2.2.2.1 t0.2.2.2.2.2.1 u19.2 t0.2.2.2.2.2.2.2.1 t0.2.2.2.2.2.2.2.2.1 t0.2.2.2.2.2.2.2.2.2.1 t0.2.2.2.2.2.2.2.2.2.2.1 t0.2.2.2.2.2.2.2.2.2.2.2.1 z18) C hW hl mvX9_171 (c_X8_find l G (fun k => q (k + 15)) t0.2.2.2.2.2.2.1 a0 a1 a2 u19 eu19) ⟨(Nat.le_of_ble_eq_true rfl), (Nat.le_of_ble_eq_true rfl)⟩ ⟨rfl, rfl⟩ [15, 16, 17, 18, 19, 20, 21, 22, 23, 24, 25] rfl rfl rfl rfl (Nat.le_of_ble_eq_true rfl) (Nat.le_of_ble_eq_true rfl) rfl dX9_write_93 ⟨Nat.zero_le _, Nat.zero_le _⟩ (fun H locs hW => ?_)
                refine lv_if_ne (tgt := 101) hx hb dX9_write_96 (by decide) (fun c20 => ?_) (fun c20 => ?_)
                · have hf := ineg c20 hf
                  refine lv_iload hx hb dX9_write_101 (lv_at hl 0 rfl) ?_
                  refine lv_if_eq (tgt := 121) hx hb dX9_write_103 (by decide) (fun c21 => ?_) (fun c21 => ?_)
                  · refine lv_aload_n hx hb dX9_write_121 rfl (lv_at hl 2 rfl) ?_
                    refine zk_get C hW fgX9_54 0 rfl rfl dX9_write_122 ?_
                    refine zk_get C hW fgX9_175 15 rfl rfl dX9_write_125 ?_
                    refine zk_get C hW fgX9_111 16 rfl rfl dX9_write_128 ?_
                    obtain rfl := Option.some.inj hf
                    exact zk_iret C hW rfl dX9_write_131
                  · exact absurd c21 (by decide)
                · have hf := ipos c20 hf
                  refine lv_iconst (v := (-1)) hx hb dX9_write_99 (by decide) ?_
                  obtain rfl := Option.some.inj hf
                  exact zk_iret C hW rfl dX9_write_100
              · have hf := ineg c17 hf
                refine lv_bipush (v := (-103)) hx hb dX9_write_73 (by decide) ?_
                obtain rfl := Option.some.inj hf
                exact zk_iret C hW rfl dX9_write_75
            · have hf := ineg c16 hf
              refine lv_iload hx hb dX9_write_56 (lv_at hl 0 rfl) ?_
              refine lv_if_ne (tgt := 64) hx hb dX9_write_58 (by decide) (fun c22 => ?_) (fun c22 => ?_)
              · exact absurd c22 (by decide)
              · refine lv_bipush (v := (-102)) hx hb dX9_write_61 (by decide) ?_
                obtain rfl := Option.some.inj hf
                exact zk_iret C hW rfl dX9_write_63
          · have hf := ineg c15 hf
            refine lv_iconst (v := 1) hx hb dX9_write_44 (by decide) ?_
            refine lv_goto (tgt := 49) hx hb dX9_write_45 (by decide) ?_
            refine lv_istore (lv' := [(6, .int 1), (5, .int (a3 - 10)), (0, .ref (q 0)), (1, .int a0), (2, .int a1), (3, .int a2), (4, .int a3)]) hx hb dX9_write_49 hl (by decide) rfl (fun ls hl => ?_)
            refine lv_iload hx hb dX9_write_51 (lv_at hl 6 rfl) ?_
            refine lv_if_eq (tgt := 64) hx hb dX9_write_53 (by decide) (fun c23 => ?_) (fun c23 => ?_)
            · have hf := ipos c23 hf
              refine lv_aload_n hx hb dX9_write_64 rfl (lv_at hl 2 rfl) ?_
              refine zk_get C hW fgX9_168 0 rfl rfl dX9_write_65 ?_
              refine lv_bipush (v := 20) hx hb dX9_write_68 (by decide) ?_
              refine lv_icmp_lt (tgt := 76) hx hb dX9_write_70 (by decide) (fun c24 => ?_) (fun c24 => ?_)
              · have hf := ipos c24 hf
                refine lv_aload_n hx hb dX9_write_76 rfl (lv_at hl 2 rfl) ?_
                refine lv_dup hx hb dX9_write_77 rfl ?_
                refine zk_get C hW fgX9_168 0 rfl rfl dX9_write_78 ?_
                refine lv_iconst (v := 1) hx hb dX9_write_81 (by decide) ?_
                refine lv_iadd hx hb dX9_write_82 ?_
                obtain ⟨z25, ez25, hf⟩ := bnd hf
                refine zk_putI (W1 := wX9 G q t0.1 t0.2.1 t0.2.2.1 t0.2.2.2.1 t0.2.2.2.2.1 t0.2.2.2.2.2.1 t0.2.2.2.2.2.2.1 t0.2.2.2.2.2.2.2.1 t0.2.2.2.2.2.2.2.2.1 t0.2.2.2.2.2.2.2.2.2.1 t0.2.2.2.2.2.2.2.2.2.2.1 t0.2.2.2.2.2.2.2.2.2.2.2.1 z25) C hW fpX9_168 0 (Option.some.inj ez25) rfl (Nat.le_of_ble_eq_true rfl) rfl dX9_write_83 (fun H locs hW => ?_)
                refine lv_aload_n hx hb dX9_write_86 rfl (lv_at hl 2 rfl) ?_
                refine zk_get C hW fgX9_54 0 rfl rfl dX9_write_87 ?_
                refine lv_iload_n hx hb dX9_write_90 rfl (lv_at hl 3 rfl) ?_
                refine lv_iload_n hx hb dX9_write_91 rfl (lv_at hl 4 rfl) ?_
                refine lv_iload_n hx hb dX9_write_92 rfl (lv_at hl 5 rfl) ?_
                obtain ⟨u26, eu26, hf⟩ := bnd hf
                refine zk_callI (As := [.int a0, .int a1, .int a2]) (rest := []) (W1 := wX9 G q t0.1 t0.2.1 t0.2.2.1 t0.2.2.2.1 t0.2.2.2.2.1 t0.2.2.2.2.2.1 u26.2 t0.2.2.2.2.2.2.2.1 t0.2.2.2.2.2.2.2.2.1 t0.2.2.2.2.2.2.2.2.2.1 t0.2.2.2.2.2.2.2.2.2.2.1 t0.2.2.2.2.2.2.2.2.2.2.2.1 z25) C hW hl mvX9_171 (c_X8_find l G (fun k => q (k + 15)) t0.2.2.2.2.2.2.1 a0 a1 a2 u26 eu26) ⟨(Nat.le_of_ble_eq_true rfl), (Nat.le_of_ble_eq_true rfl)⟩ ⟨rfl, rfl⟩ [15, 16, 17, 18, 19, 20, 21, 22, 23, 24, 25] rfl rfl rfl rfl (Nat.le_of_ble_eq_true rfl) (Nat.le_of_ble_eq_true rfl) rfl dX9_write_93 ⟨Nat.zero_le _, Nat.zero_le _⟩ (fun H locs hW => ?_)
                refine lv_if_ne (tgt := 101) hx hb dX9_write_96 (by decide) (fun c27 => ?_) (fun c27 => ?_)
                · have hf := ineg c27 hf
                  refine lv_iload hx hb dX9_write_101 (lv_at hl 0 rfl) ?_
                  refine lv_if_eq (tgt := 121) hx hb dX9_write_103 (by decide) (fun c28 => ?_) (fun c28 => ?_)
                  · exact absurd c28 (by decide)
                  · refine lv_aload_n hx hb dX9_write_106 rfl (lv_at hl 2 rfl) ?_
                    refine zk_get C hW fgX9_54 0 rfl rfl dX9_write_107 ?_
                    refine zk_get C hW fgX9_175 15 rfl rfl dX9_write_110 ?_
                    refine lv_iload hx hb dX9_write_113 (lv_at hl 1 rfl) ?_
                    obtain ⟨u29, eu29, hf⟩ := bnd hf
                    refine zk_callI (As := [.int (a3 - 10)]) (rest := []) (W1 := wX9 G q t0.1 t0.2.1 t0.2.2.1 t0.2.2.2.1 t0.2.2.2.2.1 t0.2.2.2.2.2.1 u26.2 t0.2.2.2.2.2.2.2.1 t0.2.2.2.2.2.2.2.2.1 t0.2.2.2.2.2.2.2.2.2.1 t0.2.2.2.2.2.2.2.2.2.2.1 t0.2.2.2.2.2.2.2.2.2.2.2.1 z25) C hW hl mvX9_116 (c_X3_wordAt l G (fun k => q (k + 16)) u26.2.1 (a3 - 10) u29 eu29) ⟨(Nat.le_of_ble_eq_true rfl), (Nat.le_of_ble_eq_true rfl)⟩ ⟨rfl, rfl⟩ [16, 17] rfl rfl rfl rfl (Nat.le_of_ble_eq_true rfl) (Nat.le_of_ble_eq_true rfl) rfl dX9_write_115 ⟨Nat.zero_le _, Nat.zero_le _⟩ (fun H locs hW => ?_)
                    refine lv_goto (tgt := 131) hx hb dX9_write_118 (by decide) ?_
                    obtain rfl := Option.some.inj hf
                    exact zk_iret C hW rfl dX9_write_131
                · have hf := ipos c27 hf
                  refine lv_iconst (v := (-1)) hx hb dX9_write_99 (by decide) ?_
                  obtain rfl := Option.some.inj hf
                  exact zk_iret C hW rfl dX9_write_100
              · have hf := ineg c24 hf
                refine lv_bipush (v := (-103)) hx hb dX9_write_73 (by decide) ?_
                obtain rfl := Option.some.inj hf
                exact zk_iret C hW rfl dX9_write_75
            · have hf := ineg c23 hf
              refine lv_iload hx hb dX9_write_56 (lv_at hl 0 rfl) ?_
              refine lv_if_ne (tgt := 64) hx hb dX9_write_58 (by decide) (fun c30 => ?_) (fun c30 => ?_)
              · refine lv_aload_n hx hb dX9_write_64 rfl (lv_at hl 2 rfl) ?_
                refine zk_get C hW fgX9_168 0 rfl rfl dX9_write_65 ?_
                refine lv_bipush (v := 20) hx hb dX9_write_68 (by decide) ?_
                refine lv_icmp_lt (tgt := 76) hx hb dX9_write_70 (by decide) (fun c31 => ?_) (fun c31 => ?_)
                · have hf := ipos c31 hf
                  refine lv_aload_n hx hb dX9_write_76 rfl (lv_at hl 2 rfl) ?_
                  refine lv_dup hx hb dX9_write_77 rfl ?_
                  refine zk_get C hW fgX9_168 0 rfl rfl dX9_write_78 ?_
                  refine lv_iconst (v := 1) hx hb dX9_write_81 (by decide) ?_
                  refine lv_iadd hx hb dX9_write_82 ?_
                  obtain ⟨z32, ez32, hf⟩ := bnd hf
                  refine zk_putI (W1 := wX9 G q t0.1 t0.2.1 t0.2.2.1 t0.2.2.2.1 t0.2.2.2.2.1 t0.2.2.2.2.2.1 t0.2.2.2.2.2.2.1 t0.2.2.2.2.2.2.2.1 t0.2.2.2.2.2.2.2.2.1 t0.2.2.2.2.2.2.2.2.2.1 t0.2.2.2.2.2.2.2.2.2.2.1 t0.2.2.2.2.2.2.2.2.2.2.2.1 z32) C hW fpX9_168 0 (Option.some.inj ez32) rfl (Nat.le_of_ble_eq_true rfl) rfl dX9_write_83 (fun H locs hW => ?_)
                  refine lv_aload_n hx hb dX9_write_86 rfl (lv_at hl 2 rfl) ?_
                  refine zk_get C hW fgX9_54 0 rfl rfl dX9_write_87 ?_
                  refine lv_iload_n hx hb dX9_write_90 rfl (lv_at hl 3 rfl) ?_
                  refine lv_iload_n hx hb dX9_write_91 rfl (lv_at hl 4 rfl) ?_
                  refine lv_iload_n hx hb dX9_write_92 rfl (lv_at hl 5 rfl) ?_
                  obtain ⟨u33, eu33, hf⟩ := bnd hf
                  refine zk_callI (As := [.int a0, .int a1, .int a2]) (rest := []) (W1 := wX9 G q t0.1 t0.2.1 t0.2.2.1 t0.2.2.2.1 t0.2.2.2.2.1 t0.2.2.2.2.2.1 u33.2 t0.2.2.2.2.2.2.2.1 t0.2.2.2.2.2.2.2.2.1 t0.2.2.2.2.2.2.2.2.2.1 t0.2.2.2.2.2.2.2.2.2.2.1 t0.2.2.2.2.2.2.2.2.2.2.2.1 z32) C hW hl mvX9_171 (c_X8_find l G (fun k => q (k + 15)) t0.2.2.2.2.2.2.1 a0 a1 a2 u33 eu33) ⟨(Nat.le_of_ble_eq_true rfl), (Nat.le_of_ble_eq_true rfl)⟩ ⟨rfl, rfl⟩ [15, 16, 17, 18, 19, 20, 21, 22, 23, 24, 25] rfl rfl rfl rfl (Nat.le_of_ble_eq_true rfl) (Nat.le_of_ble_eq_true rfl) rfl dX9_write_93 ⟨Nat.zero_le _, Nat.zero_le _⟩ (fun H locs hW => ?_)
                  refine lv_if_ne (tgt := 101) hx hb dX9_write_96 (by decide) (fun c34 => ?_) (fun c34 => ?_)
                  · have hf := ineg c34 hf
                    refine lv_iload hx hb dX9_write_101 (lv_at hl 0 rfl) ?_
                    refine lv_if_eq (tgt := 121) hx hb dX9_write_103 (by decide) (fun c35 => ?_) (fun c35 => ?_)
                    · exact absurd c35 (by decide)
                    · refine lv_aload_n hx hb dX9_write_106 rfl (lv_at hl 2 rfl) ?_
                      refine zk_get C hW fgX9_54 0 rfl rfl dX9_write_107 ?_
                      refine zk_get C hW fgX9_175 15 rfl rfl dX9_write_110 ?_
                      refine lv_iload hx hb dX9_write_113 (lv_at hl 1 rfl) ?_
                      obtain ⟨u36, eu36, hf⟩ := bnd hf
                      refine zk_callI (As := [.int (a3 - 10)]) (rest := []) (W1 := wX9 G q t0.1 t0.2.1 t0.2.2.1 t0.2.2.2.1 t0.2.2.2.2.1 t0.2.2.2.2.2.1 u33.2 t0.2.2.2.2.2.2.2.1 t0.2.2.2.2.2.2.2.2.1 t0.2.2.2.2.2.2.2.2.2.1 t0.2.2.2.2.2.2.2.2.2.2.1 t0.2.2.2.2.2.2.2.2.2.2.2.1 z32) C hW hl mvX9_116 (c_X3_wordAt l G (fun k => q (k + 16)) u33.2.1 (a3 - 10) u36 eu36) ⟨(Nat.le_of_ble_eq_true rfl), (Nat.le_of_ble_eq_true rfl)⟩ ⟨rfl, rfl⟩ [16, 17] rfl rfl rfl rfl (Nat.le_of_ble_eq_true rfl) (Nat.le_of_ble_eq_true rfl) rfl dX9_write_115 ⟨Nat.zero_le _, Nat.zero_le _⟩ (fun H locs hW => ?_)
                      refine lv_goto (tgt := 131) hx hb dX9_write_118 (by decide) ?_
                      obtain rfl := Option.some.inj hf
                      exact zk_iret C hW rfl dX9_write_131
                  · have hf := ipos c34 hf
                    refine lv_iconst (v := (-1)) hx hb dX9_write_99 (by decide) ?_
                    obtain rfl := Option.some.inj hf
                    exact zk_iret C hW rfl dX9_write_100
                · have hf := ineg c31 hf
                  refine lv_bipush (v := (-103)) hx hb dX9_write_73 (by decide) ?_
                  obtain rfl := Option.some.inj hf
                  exact zk_iret C hW rfl dX9_write_75
              · exact absurd c30 (by decide)
      · have hf := ipos c6 hf
        refine lv_bipush (v := (-102)) hx hb dX9_write_21 (by decide) ?_
        obtain rfl := Option.some.inj hf
        exact zk_iret C hW rfl dX9_write_23

set_option maxHeartbeats 4000000 in
set_option maxRecDepth 100000 in
theorem c_X9_rest (l : Launch) (G : GG) (q : Nat → Nat) (t0 : zXS) (a0 : Int32) (a1 : Int32) (a2 : Int32) (out : Int32 × zXS) (hf : f_X9_rest t0 a0 a1 a2 = some out) : CtI G l yX9_rest (Cond.code yX9_rest cX9_rest 4 (some .int) :: WL) (zR 4 111) [.ref (q 0), .int a0, .int a1, .int a2] (wX9 G q t0.1 t0.2.1 t0.2.2.1 t0.2.2.2.1 t0.2.2.2.2.1 t0.2.2.2.2.2.1 t0.2.2.2.2.2.2.1 t0.2.2.2.2.2.2.2.1 t0.2.2.2.2.2.2.2.2.1 t0.2.2.2.2.2.2.2.2.2.1 t0.2.2.2.2.2.2.2.2.2.2.1 t0.2.2.2.2.2.2.2.2.2.2.2.1 t0.2.2.2.2.2.2.2.2.2.2.2.2) out.1 (wX9 G q out.2.1 out.2.2.1 out.2.2.2.1 out.2.2.2.2.1 out.2.2.2.2.2.1 out.2.2.2.2.2.2.1 out.2.2.2.2.2.2.2.1 out.2.2.2.2.2.2.2.2.1 out.2.2.2.2.2.2.2.2.2.1 out.2.2.2.2.2.2.2.2.2.2.1 out.2.2.2.2.2.2.2.2.2.2.2.1 out.2.2.2.2.2.2.2.2.2.2.2.2.1 out.2.2.2.2.2.2.2.2.2.2.2.2.2) := by
  refine CtI.mk (cc := cX9_rest) (nL := 4) (rt := (some .int)) (own := RX9) (nm := "rest") (by decide) rfl rfl (Nat.le_of_ble_eq_true rfl) ?_
  intro p e s m below meth c A ls C hW hl
  have hx := C.1
  have hb := C.2.1
  have hl : lv_has ls 4 [(0, .ref (q 0)), (1, .int a0), (2, .int a1), (3, .int a2)] := hl
  unfold f_X9_rest at hf
  refine lv_iload_n hx hb dX9_rest_0 rfl (lv_at hl 1 rfl) ?_
  refine lv_if_lt (tgt := 15) hx hb dX9_rest_1 (by decide) (fun c1 => ?_) (fun c1 => ?_)
  · have hf := ipos c1 hf
    refine lv_bipush (v := (-102)) hx hb dX9_rest_15 (by decide) ?_
    obtain rfl := Option.some.inj hf
    exact zk_iret C hW rfl dX9_rest_17
  · have hf := ineg c1 hf
    refine lv_iload_n hx hb dX9_rest_4 rfl (lv_at hl 1 rfl) ?_
    refine lv_aload_n hx hb dX9_rest_5 rfl (lv_at hl 0 rfl) ?_
    refine zk_get C hW fgX9_19 0 rfl rfl dX9_rest_6 ?_
    refine zk_get C hW fgX9_111 3 rfl rfl dX9_rest_9 ?_
    refine lv_icmp_le (tgt := 18) hx hb dX9_rest_12 (by decide) (fun c2 => ?_) (fun c2 => ?_)
    · have hf := ipos c2 hf
      refine lv_iload_n hx hb dX9_rest_18 rfl (lv_at hl 2 rfl) ?_
      refine lv_iconst (v := 1) hx hb dX9_rest_19 (by decide) ?_
      refine lv_icmp_lt (tgt := 35) hx hb dX9_rest_20 (by decide) (fun c3 => ?_) (fun c3 => ?_)
      · have hf := ipos c3 hf
        refine lv_bipush (v := (-102)) hx hb dX9_rest_35 (by decide) ?_
        obtain rfl := Option.some.inj hf
        exact zk_iret C hW rfl dX9_rest_37
      · have hf := ineg c3 hf
        refine lv_iload_n hx hb dX9_rest_23 rfl (lv_at hl 2 rfl) ?_
        refine lv_iload_n hx hb dX9_rest_24 rfl (lv_at hl 1 rfl) ?_
        refine lv_icmp_lt (tgt := 35) hx hb dX9_rest_25 (by decide) (fun c4 => ?_) (fun c4 => ?_)
        · have hf := ipos c4 hf
          refine lv_bipush (v := (-102)) hx hb dX9_rest_35 (by decide) ?_
          obtain rfl := Option.some.inj hf
          exact zk_iret C hW rfl dX9_rest_37
        · have hf := ineg c4 hf
          refine lv_iload_n hx hb dX9_rest_28 rfl (lv_at hl 2 rfl) ?_
          refine lv_iload_n hx hb dX9_rest_29 rfl (lv_at hl 1 rfl) ?_
          refine lv_iconst (v := 5) hx hb dX9_rest_30 (by decide) ?_
          refine lv_iadd hx hb dX9_rest_31 ?_
          refine lv_icmp_le (tgt := 38) hx hb dX9_rest_32 (by decide) (fun c5 => ?_) (fun c5 => ?_)
          · have hf := ipos c5 hf
            refine lv_iload_n hx hb dX9_rest_38 rfl (lv_at hl 3 rfl) ?_
            refine lv_bipush (v := (-20)) hx hb dX9_rest_39 (by decide) ?_
            refine lv_icmp_lt (tgt := 50) hx hb dX9_rest_41 (by decide) (fun c6 => ?_) (fun c6 => ?_)
            · have hf := ipos c6 hf
              refine lv_bipush (v := (-102)) hx hb dX9_rest_50 (by decide) ?_
              obtain rfl := Option.some.inj hf
              exact zk_iret C hW rfl dX9_rest_52
            · have hf := ineg c6 hf
              refine lv_iload_n hx hb dX9_rest_44 rfl (lv_at hl 3 rfl) ?_
              refine lv_bipush (v := 20) hx hb dX9_rest_45 (by decide) ?_
              refine lv_icmp_le (tgt := 53) hx hb dX9_rest_47 (by decide) (fun c7 => ?_) (fun c7 => ?_)
              · have hf := ipos c7 hf
                refine lv_aload_n hx hb dX9_rest_53 rfl (lv_at hl 0 rfl) ?_
                obtain ⟨u8, eu8, hf⟩ := bnd hf
                refine zk_callBI (As := []) (rest := []) (W1 := wX9 G q t0.1 t0.2.1 t0.2.2.1 t0.2.2.2.1 t0.2.2.2.2.1 t0.2.2.2.2.2.1 t0.2.2.2.2.2.2.1 t0.2.2.2.2.2.2.2.1 t0.2.2.2.2.2.2.2.2.1 t0.2.2.2.2.2.2.2.2.2.1 t0.2.2.2.2.2.2.2.2.2.2.1 t0.2.2.2.2.2.2.2.2.2.2.2.1 t0.2.2.2.2.2.2.2.2.2.2.2.2) C hW hl mvX9_137 (c_X9_noLetter l G q t0 u8 eu8) ⟨(Nat.le_of_ble_eq_true rfl), (Nat.le_of_ble_eq_true rfl)⟩ ⟨rfl, rfl⟩ ([]) ([]) zE1 rfl rfl (Nat.le_of_ble_eq_true rfl) zE1r dX9_rest_54 ⟨Nat.zero_le _, Nat.zero_le _⟩ (fun H locs hW => ?_)
                refine lv_if_eq (tgt := 63) hx hb dX9_rest_57 (by decide) (fun c9 => ?_) (fun c9 => ?_)
                · have hf := ipos c9 hf
                  refine lv_aload_n hx hb dX9_rest_63 rfl (lv_at hl 0 rfl) ?_
                  refine zk_get C hW fgX9_61 0 rfl rfl dX9_rest_64 ?_
                  refine lv_aload_n hx hb dX9_rest_67 rfl (lv_at hl 0 rfl) ?_
                  refine zk_get C hW fgX9_19 0 rfl rfl dX9_rest_68 ?_
                  refine lv_iload_n hx hb dX9_rest_71 rfl (lv_at hl 1 rfl) ?_
                  refine lv_iload_n hx hb dX9_rest_72 rfl (lv_at hl 2 rfl) ?_
                  refine lv_iload_n hx hb dX9_rest_73 rfl (lv_at hl 3 rfl) ?_
                  obtain ⟨u10, eu10, hf⟩ := bnd hf
                  refine zk_callI (As := [.ref (q 3), .int a0, .int a1, .int a2]) (rest := []) (W1 := wX9 G q t0.1 t0.2.1 t0.2.2.1 t0.2.2.2.1 t0.2.2.2.2.1 t0.2.2.2.2.2.1 t0.2.2.2.2.2.2.1 u10.2 t0.2.2.2.2.2.2.2.2.1 t0.2.2.2.2.2.2.2.2.2.1 t0.2.2.2.2.2.2.2.2.2.2.1 t0.2.2.2.2.2.2.2.2.2.2.2.1 t0.2.2.2.2.2.2.2.2.2.2.2.2) C hW hl mvX9_178 (c_X1_howMany l G (fun k => q (k + 26)) (fun k => q (k + 3)) t0.2.2.2.2.2.2.2.1 t0.2.1 a0 a1 a2 u10 eu10) ⟨(Nat.le_of_ble_eq_true rfl), (Nat.le_of_ble_eq_true rfl)⟩ ⟨rfl, rfl⟩ [26, 27, 28, 29, 3, 4] rfl rfl rfl rfl (Nat.le_of_ble_eq_true rfl) (Nat.le_of_ble_eq_true rfl) rfl dX9_rest_74 ⟨Nat.zero_le _, Nat.zero_le _⟩ (fun H locs hW => ?_)
                  obtain rfl := Option.some.inj hf
                  exact zk_iret C hW rfl dX9_rest_77
                · have hf := ineg c9 hf
                  refine lv_bipush (v := (-103)) hx hb dX9_rest_60 (by decide) ?_
                  obtain rfl := Option.some.inj hf
                  exact zk_iret C hW rfl dX9_rest_62
              · have hf := ineg c7 hf
                refine lv_bipush (v := (-102)) hx hb dX9_rest_50 (by decide) ?_
                obtain rfl := Option.some.inj hf
                exact zk_iret C hW rfl dX9_rest_52
          · have hf := ineg c5 hf
            refine lv_bipush (v := (-102)) hx hb dX9_rest_35 (by decide) ?_
            obtain rfl := Option.some.inj hf
            exact zk_iret C hW rfl dX9_rest_37
    · have hf := ineg c2 hf
      refine lv_bipush (v := (-102)) hx hb dX9_rest_15 (by decide) ?_
      obtain rfl := Option.some.inj hf
      exact zk_iret C hW rfl dX9_rest_17

set_option maxHeartbeats 4000000 in
set_option maxRecDepth 100000 in
theorem w_X9_kindsThatHear_5 {p : Program} {e : Env} {s : State} {m : MethodId} {args : Array Value} {below : List Frame} {meth : Method} {c : Code} {A : Nat → Prop} (l : Launch) (G : GG) (q : Nat → Nat) (v1 : Int32) (v2 : Bool) (s0_0 : zPG) (s0_1 : zLT) (s0_2 : zLS) (s0_3 : zTD) (s0_4 : zIM) (s0_6 : zWR) (s0_7 : zEN) (s0_8 : zDY) (s0_9 : (Nat → Int32)) (s0_10 : Int32) (s0_11 : Int32) (s0_12 : Int32) (out : Int32 × zXS) (C : CX p s m args meth c cX9_kindsThatHear 5 RX9 (some .int) "kindsThatHear") {K : Int32 → Int32 → zRD → Option (Int32 × zXS)} (hK : ∀ (v3 : Int32) (v4 : Int32) (s0_5 : zRD) , K v3 v4 s0_5 = some out → ∀ (H : Heap) (locs : List Loc) (ls : Array Slot), KW G A s (wX9 G q s0_0 s0_1 s0_2 s0_3 s0_4 s0_5 s0_6 s0_7 s0_8 s0_9 s0_10 s0_11 s0_12) H locs → lv_has ls 5 [(3, .int v3)] → W p l e (zR 4 89) s m args below meth c H locs 0 0 (QI G A out.1 (wX9 G q out.2.1 out.2.2.1 out.2.2.2.1 out.2.2.2.2.1 out.2.2.2.2.2.1 out.2.2.2.2.2.2.1 out.2.2.2.2.2.2.2.1 out.2.2.2.2.2.2.2.2.1 out.2.2.2.2.2.2.2.2.2.1 out.2.2.2.2.2.2.2.2.2.2.1 out.2.2.2.2.2.2.2.2.2.2.2.1 out.2.2.2.2.2.2.2.2.2.2.2.2.1 out.2.2.2.2.2.2.2.2.2.2.2.2.2) below args s) (F0 m 49 ls [])) :
    ∀ (n : Nat) (v3 : Int32) (v4 : Int32) (s0_5 : zRD) , lp_X9_kindsThatHear_5 v1 v2 s0_1 K n v3 v4 s0_5 = some out → ∀ (H : Heap) (locs : List Loc) (ls : Array Slot), KW G A s (wX9 G q s0_0 s0_1 s0_2 s0_3 s0_4 s0_5 s0_6 s0_7 s0_8 s0_9 s0_10 s0_11 s0_12) H locs → lv_has ls 5 [(0, .ref (q 0)), (1, .int v1), (2, .int (bI v2)), (3, .int v3), (4, .int v4)] → W p l e (zR 4 89) s m args below meth c H locs 0 0 (QI G A out.1 (wX9 G q out.2.1 out.2.2.1 out.2.2.2.1 out.2.2.2.2.1 out.2.2.2.2.2.1 out.2.2.2.2.2.2.1 out.2.2.2.2.2.2.2.1 out.2.2.2.2.2.2.2.2.1 out.2.2.2.2.2.2.2.2.2.1 out.2.2.2.2.2.2.2.2.2.2.1 out.2.2.2.2.2.2.2.2.2.2.2.1 out.2.2.2.2.2.2.2.2.2.2.2.2.1 out.2.2.2.2.2.2.2.2.2.2.2.2.2) below args s) (F0 m 5 ls []) := by
  have hx := C.1
  have hb := C.2.1
  intro n
  induction n with
  | zero => intro v3 v4 s0_5 hf; exact nomatch (show (none : Option (Int32 × zXS)) = some out from hf)
  | succ n ih =>
    intro v3 v4 s0_5 hf H locs ls hW hl
    rw [lp_X9_kindsThatHear_5] at hf
    refine lv_iload hx hb dX9_kindsThatHear_5 (lv_at hl 4 rfl) ?_
    refine lv_iconst (v := 5) hx hb dX9_kindsThatHear_7 (by decide) ?_
    refine lv_icmp_ge (tgt := 49) hx hb dX9_kindsThatHear_8 (by decide) (fun c1 => ?_) (fun c1 => ?_)
    · have hf := ipos c1 hf
      exact hK v3 v4 s0_5 hf _ _ _ hW (lv_sub hl [3] rfl)
    · have hf := ineg c1 hf
      refine lv_aload_n hx hb dX9_kindsThatHear_11 rfl (lv_at hl 0 rfl) ?_
      refine zk_get C hW fgX9_47 0 rfl rfl dX9_kindsThatHear_12 ?_
      refine lv_iload hx hb dX9_kindsThatHear_15 (lv_at hl 4 rfl) ?_
      refine lv_aload_n hx hb dX9_kindsThatHear_17 rfl (lv_at hl 0 rfl) ?_
      refine zk_get C hW fgX9_19 0 rfl rfl dX9_kindsThatHear_18 ?_
      refine lv_iload_n hx hb dX9_kindsThatHear_21 rfl (lv_at hl 2 rfl) ?_
      obtain ⟨u2, eu2, hf⟩ := bnd hf
      refine zk_callV (As := [.int v4, .ref (q 3), .int (bI v2)]) (rest := []) (W1 := wX9 G q s0_0 s0_1 s0_2 s0_3 s0_4 u2 s0_6 s0_7 s0_8 s0_9 s0_10 s0_11 s0_12) C hW hl mvX9_151 (c_X6_readTo l G (fun k => q (k + 14)) (fun k => q (k + 3)) s0_5 v4 s0_1 v2 u2 eu2) ⟨(Nat.le_of_ble_eq_true rfl), (Nat.le_of_ble_eq_true rfl)⟩ ⟨rfl, rfl⟩ [14, 3, 4] rfl rfl rfl rfl (Nat.le_of_ble_eq_true rfl) (Nat.le_of_ble_eq_true rfl) rfl dX9_kindsThatHear_22 ⟨Nat.zero_le _, Nat.zero_le _⟩ (fun H locs hW => ?_)
      refine lv_aload_n hx hb dX9_kindsThatHear_25 rfl (lv_at hl 0 rfl) ?_
      refine zk_get C hW fgX9_47 0 rfl rfl dX9_kindsThatHear_26 ?_
      refine zk_get C hW fgX9_155 14 rfl rfl dX9_kindsThatHear_29 ?_
      refine lv_iload_n hx hb dX9_kindsThatHear_32 rfl (lv_at hl 1 rfl) ?_
      refine lv_icmp_ne (tgt := 43) hx hb dX9_kindsThatHear_33 (by decide) (fun c3 => ?_) (fun c3 => ?_)
      · have hf := ineg c3 hf
        refine lv_iinc (v := (v4 + 1)) (lv' := [(4, .int (v4 + 1)), (0, .ref (q 0)), (1, .int v1), (2, .int (bI v2)), (3, .int v3)]) hx hb dX9_kindsThatHear_43 hl (k := 4) rfl rfl (by decide) rfl (fun ls hl => ?_)
        refine lv_goto (tgt := 5) hx hb dX9_kindsThatHear_46 (by decide) ?_
        exact ih v3 (v4 + 1) u2 hf _ _ _ hW (lv_sub hl [1, 2, 3, 4, 0] rfl)
      · have hf := ipos c3 hf
        refine lv_iload_n hx hb dX9_kindsThatHear_36 rfl (lv_at hl 3 rfl) ?_
        refine lv_iconst (v := 1) hx hb dX9_kindsThatHear_37 (by decide) ?_
        refine lv_iload hx hb dX9_kindsThatHear_38 (lv_at hl 4 rfl) ?_
        refine lv_ishl hx hb dX9_kindsThatHear_40 ?_
        refine lv_ior hx hb dX9_kindsThatHear_41 ?_
        refine lv_istore_n (lv' := [(3, .int (v3 ||| (1 <<< (v4 &&& 31)))), (0, .ref (q 0)), (1, .int v1), (2, .int (bI v2)), (4, .int v4)]) hx hb dX9_kindsThatHear_42 rfl hl (by decide) rfl (fun ls hl => ?_)
        refine lv_iinc (v := (v4 + 1)) (lv' := [(4, .int (v4 + 1)), (3, .int (v3 ||| (1 <<< (v4 &&& 31)))), (0, .ref (q 0)), (1, .int v1), (2, .int (bI v2))]) hx hb dX9_kindsThatHear_43 hl (k := 4) rfl rfl (by decide) rfl (fun ls hl => ?_)
        refine lv_goto (tgt := 5) hx hb dX9_kindsThatHear_46 (by decide) ?_
        exact ih (v3 ||| (1 <<< (v4 &&& 31))) (v4 + 1) u2 hf _ _ _ hW (lv_sub hl [2, 3, 4, 1, 0] rfl)
set_option maxHeartbeats 4000000 in
set_option maxRecDepth 100000 in
theorem c_X9_kindsThatHear (l : Launch) (G : GG) (q : Nat → Nat) (t0 : zXS) (a0 : Int32) (a1 : Bool) (out : Int32 × zXS) (hf : f_X9_kindsThatHear t0 a0 a1 = some out) : CtI G l yX9_kindsThatHear (Cond.code yX9_kindsThatHear cX9_kindsThatHear 5 (some .int) :: WL) (zR 4 89) [.ref (q 0), .int a0, .int (bI a1)] (wX9 G q t0.1 t0.2.1 t0.2.2.1 t0.2.2.2.1 t0.2.2.2.2.1 t0.2.2.2.2.2.1 t0.2.2.2.2.2.2.1 t0.2.2.2.2.2.2.2.1 t0.2.2.2.2.2.2.2.2.1 t0.2.2.2.2.2.2.2.2.2.1 t0.2.2.2.2.2.2.2.2.2.2.1 t0.2.2.2.2.2.2.2.2.2.2.2.1 t0.2.2.2.2.2.2.2.2.2.2.2.2) out.1 (wX9 G q out.2.1 out.2.2.1 out.2.2.2.1 out.2.2.2.2.1 out.2.2.2.2.2.1 out.2.2.2.2.2.2.1 out.2.2.2.2.2.2.2.1 out.2.2.2.2.2.2.2.2.1 out.2.2.2.2.2.2.2.2.2.1 out.2.2.2.2.2.2.2.2.2.2.1 out.2.2.2.2.2.2.2.2.2.2.2.1 out.2.2.2.2.2.2.2.2.2.2.2.2.1 out.2.2.2.2.2.2.2.2.2.2.2.2.2) := by
  refine CtI.mk (cc := cX9_kindsThatHear) (nL := 5) (rt := (some .int)) (own := RX9) (nm := "kindsThatHear") (by decide) rfl rfl (Nat.le_of_ble_eq_true rfl) ?_
  intro p e s m below meth c A ls C hW hl
  have hx := C.1
  have hb := C.2.1
  have hl : lv_has ls 5 [(0, .ref (q 0)), (1, .int a0), (2, .int (bI a1))] := hl
  unfold f_X9_kindsThatHear at hf
  refine lv_iconst (v := 0) hx hb dX9_kindsThatHear_0 (by decide) ?_
  refine lv_istore_n (lv' := [(3, .int 0), (0, .ref (q 0)), (1, .int a0), (2, .int (bI a1))]) hx hb dX9_kindsThatHear_1 rfl hl (by decide) rfl (fun ls hl => ?_)
  refine lv_iconst (v := 0) hx hb dX9_kindsThatHear_2 (by decide) ?_
  refine lv_istore (lv' := [(4, .int 0), (3, .int 0), (0, .ref (q 0)), (1, .int a0), (2, .int (bI a1))]) hx hb dX9_kindsThatHear_3 hl (by decide) rfl (fun ls hl => ?_)
  refine w_X9_kindsThatHear_5 l G q a0 a1 t0.1 t0.2.1 t0.2.2.1 t0.2.2.2.1 t0.2.2.2.2.1 t0.2.2.2.2.2.2.1 t0.2.2.2.2.2.2.2.1 t0.2.2.2.2.2.2.2.2.1 t0.2.2.2.2.2.2.2.2.2.1 t0.2.2.2.2.2.2.2.2.2.2.1 t0.2.2.2.2.2.2.2.2.2.2.2.1 t0.2.2.2.2.2.2.2.2.2.2.2.2 out C (fun w4_v3 w4_v4 w4_s0_5 hf H locs ls hW hl => ?_) FU 0 0 t0.2.2.2.2.2.1 hf _ _ _ hW (lv_sub hl [2, 3, 4, 1, 0] rfl)
  refine lv_iload_n hx hb dX9_kindsThatHear_49 rfl (lv_at hl 0 rfl) ?_
  obtain rfl := Option.some.inj hf
  exact zk_iret C hW rfl dX9_kindsThatHear_50

set_option maxHeartbeats 4000000 in
set_option maxRecDepth 100000 in
theorem c_X9_tell (l : Launch) (G : GG) (q : Nat → Nat) (t0 : zXS) (a0 : Int32) (a1 : Bool) (out : Int32 × zXS) (hf : f_X9_tell t0 a0 a1 = some out) : CtI G l yX9_tell (Cond.code yX9_tell cX9_tell 3 (some .int) :: WL) (zR 5 113) [.ref (q 0), .int a0, .int (bI a1)] (wX9 G q t0.1 t0.2.1 t0.2.2.1 t0.2.2.2.1 t0.2.2.2.2.1 t0.2.2.2.2.2.1 t0.2.2.2.2.2.2.1 t0.2.2.2.2.2.2.2.1 t0.2.2.2.2.2.2.2.2.1 t0.2.2.2.2.2.2.2.2.2.1 t0.2.2.2.2.2.2.2.2.2.2.1 t0.2.2.2.2.2.2.2.2.2.2.2.1 t0.2.2.2.2.2.2.2.2.2.2.2.2) out.1 (wX9 G q out.2.1 out.2.2.1 out.2.2.2.1 out.2.2.2.2.1 out.2.2.2.2.2.1 out.2.2.2.2.2.2.1 out.2.2.2.2.2.2.2.1 out.2.2.2.2.2.2.2.2.1 out.2.2.2.2.2.2.2.2.2.1 out.2.2.2.2.2.2.2.2.2.2.1 out.2.2.2.2.2.2.2.2.2.2.2.1 out.2.2.2.2.2.2.2.2.2.2.2.2.1 out.2.2.2.2.2.2.2.2.2.2.2.2.2) := by
  refine CtI.mk (cc := cX9_tell) (nL := 3) (rt := (some .int)) (own := RX9) (nm := "tell") (by decide) rfl rfl (Nat.le_of_ble_eq_true rfl) ?_
  intro p e s m below meth c A ls C hW hl
  have hx := C.1
  have hb := C.2.1
  have hl : lv_has ls 3 [(0, .ref (q 0)), (1, .int a0), (2, .int (bI a1))] := hl
  unfold f_X9_tell at hf
  refine lv_iload_n hx hb dX9_tell_0 rfl (lv_at hl 1 rfl) ?_
  refine lv_if_lt (tgt := 10) hx hb dX9_tell_1 (by decide) (fun c1 => ?_) (fun c1 => ?_)
  · have hf := ipos c1 hf
    refine lv_bipush (v := (-102)) hx hb dX9_tell_10 (by decide) ?_
    obtain rfl := Option.some.inj hf
    exact zk_iret C hW rfl dX9_tell_12
  · have hf := ineg c1 hf
    refine lv_iload_n hx hb dX9_tell_4 rfl (lv_at hl 1 rfl) ?_
    refine lv_bipush (v := 9) hx hb dX9_tell_5 (by decide) ?_
    refine lv_icmp_le (tgt := 13) hx hb dX9_tell_7 (by decide) (fun c2 => ?_) (fun c2 => ?_)
    · have hf := ipos c2 hf
      refine lv_aload_n hx hb dX9_tell_13 rfl (lv_at hl 0 rfl) ?_
      obtain ⟨u3, eu3, hf⟩ := bnd hf
      refine zk_callBI (As := []) (rest := []) (W1 := wX9 G q t0.1 t0.2.1 t0.2.2.1 t0.2.2.2.1 t0.2.2.2.2.1 t0.2.2.2.2.2.1 t0.2.2.2.2.2.2.1 t0.2.2.2.2.2.2.2.1 t0.2.2.2.2.2.2.2.2.1 t0.2.2.2.2.2.2.2.2.2.1 t0.2.2.2.2.2.2.2.2.2.2.1 t0.2.2.2.2.2.2.2.2.2.2.2.1 t0.2.2.2.2.2.2.2.2.2.2.2.2) C hW hl mvX9_137 (c_X9_noLetter l G q t0 u3 eu3) ⟨(Nat.le_of_ble_eq_true rfl), (Nat.le_of_ble_eq_true rfl)⟩ ⟨rfl, rfl⟩ ([]) ([]) zE1 rfl rfl (Nat.le_of_ble_eq_true rfl) zE1r dX9_tell_14 ⟨Nat.zero_le _, Nat.zero_le _⟩ (fun H locs hW => ?_)
      refine lv_if_eq (tgt := 23) hx hb dX9_tell_17 (by decide) (fun c4 => ?_) (fun c4 => ?_)
      · have hf := ipos c4 hf
        refine lv_aload_n hx hb dX9_tell_23 rfl (lv_at hl 0 rfl) ?_
        refine zk_get C hW fgX9_33 0 rfl rfl dX9_tell_24 ?_
        refine zk_get C hW fgX9_182 7 rfl rfl dX9_tell_27 ?_
        refine lv_bipush (v := 6) hx hb dX9_tell_30 (by decide) ?_
        refine lv_icmp_lt (tgt := 38) hx hb dX9_tell_32 (by decide) (fun c5 => ?_) (fun c5 => ?_)
        · have hf := ipos c5 hf
          refine lv_aload_n hx hb dX9_tell_38 rfl (lv_at hl 0 rfl) ?_
          refine zk_get C hW fgX9_33 0 rfl rfl dX9_tell_39 ?_
          refine lv_aload_n hx hb dX9_tell_42 rfl (lv_at hl 0 rfl) ?_
          refine lv_iload_n hx hb dX9_tell_43 rfl (lv_at hl 1 rfl) ?_
          refine lv_iload_n hx hb dX9_tell_44 rfl (lv_at hl 2 rfl) ?_
          obtain ⟨u6, eu6, hf⟩ := bnd hf
          refine zk_callBI (As := [.int a0, .int (bI a1)]) (rest := [.ref (q 7)]) (W1 := wX9 G q u6.2.1 u6.2.2.1 u6.2.2.2.1 u6.2.2.2.2.1 u6.2.2.2.2.2.1 u6.2.2.2.2.2.2.1 u6.2.2.2.2.2.2.2.1 u6.2.2.2.2.2.2.2.2.1 u6.2.2.2.2.2.2.2.2.2.1 u6.2.2.2.2.2.2.2.2.2.2.1 u6.2.2.2.2.2.2.2.2.2.2.2.1 u6.2.2.2.2.2.2.2.2.2.2.2.2.1 u6.2.2.2.2.2.2.2.2.2.2.2.2.2) C hW hl mvX9_183 (c_X9_kindsThatHear l G q t0 a0 a1 u6 eu6) ⟨(Nat.le_of_ble_eq_true rfl), (Nat.le_of_ble_eq_true rfl)⟩ ⟨rfl, rfl⟩ ([]) ([]) zE1 rfl rfl (Nat.le_of_ble_eq_true rfl) zE1r dX9_tell_45 ⟨Nat.zero_le _, Nat.zero_le _⟩ (fun H locs hW => ?_)
          obtain ⟨u7, eu7, hf⟩ := bnd hf
          refine zk_callV (As := [.int u6.1]) (rest := []) (W1 := wX9 G q u6.2.1 u6.2.2.1 u6.2.2.2.1 u7 u6.2.2.2.2.2.1 u6.2.2.2.2.2.2.1 u6.2.2.2.2.2.2.2.1 u6.2.2.2.2.2.2.2.2.1 u6.2.2.2.2.2.2.2.2.2.1 u6.2.2.2.2.2.2.2.2.2.2.1 u6.2.2.2.2.2.2.2.2.2.2.2.1 u6.2.2.2.2.2.2.2.2.2.2.2.2.1 u6.2.2.2.2.2.2.2.2.2.2.2.2.2) C hW hl mvX9_187 (c_X7_add l G (fun k => q (k + 7)) u6.2.2.2.2.1 u6.1 u7 eu7) ⟨(Nat.le_of_ble_eq_true rfl), (Nat.le_of_ble_eq_true rfl)⟩ ⟨rfl, rfl⟩ [7, 8] rfl rfl rfl rfl (Nat.le_of_ble_eq_true rfl) (Nat.le_of_ble_eq_true rfl) rfl dX9_tell_48 ⟨Nat.zero_le _, Nat.zero_le _⟩ (fun H locs hW => ?_)
          refine lv_aload_n hx hb dX9_tell_51 rfl (lv_at hl 0 rfl) ?_
          refine zk_get C hW fgX9_33 0 rfl rfl dX9_tell_52 ?_
          refine zk_get C hW fgX9_182 7 rfl rfl dX9_tell_55 ?_
          obtain rfl := Option.some.inj hf
          exact zk_iret C hW rfl dX9_tell_58
        · have hf := ineg c5 hf
          refine lv_bipush (v := (-104)) hx hb dX9_tell_35 (by decide) ?_
          obtain rfl := Option.some.inj hf
          exact zk_iret C hW rfl dX9_tell_37
      · have hf := ineg c4 hf
        refine lv_bipush (v := (-103)) hx hb dX9_tell_20 (by decide) ?_
        obtain rfl := Option.some.inj hf
        exact zk_iret C hW rfl dX9_tell_22
    · have hf := ineg c2 hf
      refine lv_bipush (v := (-102)) hx hb dX9_tell_10 (by decide) ?_
      obtain rfl := Option.some.inj hf
      exact zk_iret C hW rfl dX9_tell_12

set_option maxHeartbeats 4000000 in
set_option maxRecDepth 100000 in
theorem c_X9_forget (l : Launch) (G : GG) (q : Nat → Nat) (t0 : zXS) (out : Int32 × zXS) (hf : f_X9_forget t0 = some out) : CtI G l yX9_forget (Cond.code yX9_forget cX9_forget 2 (some .int) :: WL) (zR 1 20) [.ref (q 0)] (wX9 G q t0.1 t0.2.1 t0.2.2.1 t0.2.2.2.1 t0.2.2.2.2.1 t0.2.2.2.2.2.1 t0.2.2.2.2.2.2.1 t0.2.2.2.2.2.2.2.1 t0.2.2.2.2.2.2.2.2.1 t0.2.2.2.2.2.2.2.2.2.1 t0.2.2.2.2.2.2.2.2.2.2.1 t0.2.2.2.2.2.2.2.2.2.2.2.1 t0.2.2.2.2.2.2.2.2.2.2.2.2) out.1 (wX9 G q out.2.1 out.2.2.1 out.2.2.2.1 out.2.2.2.2.1 out.2.2.2.2.2.1 out.2.2.2.2.2.2.1 out.2.2.2.2.2.2.2.1 out.2.2.2.2.2.2.2.2.1 out.2.2.2.2.2.2.2.2.2.1 out.2.2.2.2.2.2.2.2.2.2.1 out.2.2.2.2.2.2.2.2.2.2.2.1 out.2.2.2.2.2.2.2.2.2.2.2.2.1 out.2.2.2.2.2.2.2.2.2.2.2.2.2) := by
  refine CtI.mk (cc := cX9_forget) (nL := 2) (rt := (some .int)) (own := RX9) (nm := "forget") (by decide) rfl rfl (Nat.le_of_ble_eq_true rfl) ?_
  intro p e s m below meth c A ls C hW hl
  have hx := C.1
  have hb := C.2.1
  have hl : lv_has ls 2 [(0, .ref (q 0))] := hl
  unfold f_X9_forget at hf
  refine lv_aload_n hx hb dX9_forget_0 rfl (lv_at hl 0 rfl) ?_
  refine zk_get C hW fgX9_33 0 rfl rfl dX9_forget_1 ?_
  refine zk_get C hW fgX9_182 7 rfl rfl dX9_forget_4 ?_
  refine lv_istore_n (lv' := [(1, .int t0.2.2.2.1.2), (0, .ref (q 0))]) hx hb dX9_forget_7 rfl hl (by decide) rfl (fun ls hl => ?_)
  refine lv_aload_n hx hb dX9_forget_8 rfl (lv_at hl 1 rfl) ?_
  refine zk_get C hW fgX9_33 0 rfl rfl dX9_forget_9 ?_
  obtain ⟨u1, eu1, hf⟩ := bnd hf
  refine zk_callV (As := []) (rest := []) (W1 := wX9 G q t0.1 t0.2.1 t0.2.2.1 u1 t0.2.2.2.2.1 t0.2.2.2.2.2.1 t0.2.2.2.2.2.2.1 t0.2.2.2.2.2.2.2.1 t0.2.2.2.2.2.2.2.2.1 t0.2.2.2.2.2.2.2.2.2.1 t0.2.2.2.2.2.2.2.2.2.2.1 t0.2.2.2.2.2.2.2.2.2.2.2.1 t0.2.2.2.2.2.2.2.2.2.2.2.2) C hW hl mvX9_100 (c_X7_clear l G (fun k => q (k + 7)) t0.2.2.2.1 u1 eu1) ⟨(Nat.le_of_ble_eq_true rfl), (Nat.le_of_ble_eq_true rfl)⟩ ⟨rfl, rfl⟩ [7, 8] rfl rfl rfl rfl (Nat.le_of_ble_eq_true rfl) (Nat.le_of_ble_eq_true rfl) rfl dX9_forget_12 ⟨Nat.zero_le _, Nat.zero_le _⟩ (fun H locs hW => ?_)
  refine lv_iload_n hx hb dX9_forget_15 rfl (lv_at hl 0 rfl) ?_
  obtain rfl := Option.some.inj hf
  exact zk_iret C hW rfl dX9_forget_16

set_option maxHeartbeats 4000000 in
set_option maxRecDepth 100000 in
theorem c_X9_which (l : Launch) (G : GG) (q : Nat → Nat) (t0 : zXS) (out : Int32) (hf : f_X9_which t0 = some out) : CtI G l yX9_which (Cond.code yX9_which cX9_which 1 (some .int) :: WL) (zR 2 43) [.ref (q 0)] (wX9 G q t0.1 t0.2.1 t0.2.2.1 t0.2.2.2.1 t0.2.2.2.2.1 t0.2.2.2.2.2.1 t0.2.2.2.2.2.2.1 t0.2.2.2.2.2.2.2.1 t0.2.2.2.2.2.2.2.2.1 t0.2.2.2.2.2.2.2.2.2.1 t0.2.2.2.2.2.2.2.2.2.2.1 t0.2.2.2.2.2.2.2.2.2.2.2.1 t0.2.2.2.2.2.2.2.2.2.2.2.2) out (wX9 G q t0.1 t0.2.1 t0.2.2.1 t0.2.2.2.1 t0.2.2.2.2.1 t0.2.2.2.2.2.1 t0.2.2.2.2.2.2.1 t0.2.2.2.2.2.2.2.1 t0.2.2.2.2.2.2.2.2.1 t0.2.2.2.2.2.2.2.2.2.1 t0.2.2.2.2.2.2.2.2.2.2.1 t0.2.2.2.2.2.2.2.2.2.2.2.1 t0.2.2.2.2.2.2.2.2.2.2.2.2) := by
  refine CtI.mk (cc := cX9_which) (nL := 1) (rt := (some .int)) (own := RX9) (nm := "which") (by decide) rfl rfl (Nat.le_of_ble_eq_true rfl) ?_
  intro p e s m below meth c A ls C hW hl
  have hx := C.1
  have hb := C.2.1
  have hl : lv_has ls 1 [(0, .ref (q 0))] := hl
  unfold f_X9_which at hf
  refine lv_aload_n hx hb dX9_which_0 rfl (lv_at hl 0 rfl) ?_
  refine zk_get C hW fgX9_33 0 rfl rfl dX9_which_1 ?_
  obtain ⟨u1, eu1, hf⟩ := bnd hf
  refine zk_callI (As := []) (rest := []) (W1 := wX9 G q t0.1 t0.2.1 t0.2.2.1 t0.2.2.2.1 t0.2.2.2.2.1 t0.2.2.2.2.2.1 t0.2.2.2.2.2.2.1 t0.2.2.2.2.2.2.2.1 t0.2.2.2.2.2.2.2.2.1 t0.2.2.2.2.2.2.2.2.2.1 t0.2.2.2.2.2.2.2.2.2.2.1 t0.2.2.2.2.2.2.2.2.2.2.2.1 t0.2.2.2.2.2.2.2.2.2.2.2.2) C hW hl mvX9_188 (c_X7_possibleKinds l G (fun k => q (k + 7)) t0.2.2.2.1 u1 eu1) ⟨(Nat.le_of_ble_eq_true rfl), (Nat.le_of_ble_eq_true rfl)⟩ ⟨rfl, rfl⟩ [7, 8] rfl rfl rfl rfl (Nat.le_of_ble_eq_true rfl) (Nat.le_of_ble_eq_true rfl) rfl dX9_which_4 ⟨Nat.zero_le _, Nat.zero_le _⟩ (fun H locs hW => ?_)
  obtain rfl := Option.some.inj hf
  exact zk_iret C hW rfl dX9_which_7

set_option maxHeartbeats 4000000 in
set_option maxRecDepth 100000 in
theorem w_X9_mostAlike_13 {p : Program} {e : Env} {s : State} {m : MethodId} {args : Array Value} {below : List Frame} {meth : Method} {c : Code} {A : Nat → Prop} (l : Launch) (G : GG) (q : Nat → Nat) (v1 : Int32) (v2 : Bool) (s0_0 : zPG) (s0_1 : zLT) (s0_2 : zLS) (s0_3 : zTD) (s0_4 : zIM) (s0_6 : zWR) (s0_7 : zEN) (s0_8 : zDY) (s0_10 : Int32) (s0_11 : Int32) (s0_12 : Int32) (out : Int32 × zXS) (C : CX p s m args meth c cX9_mostAlike 6 RX9 (some .int) "mostAlike") {K : Int32 → Int32 → zRD → (Nat → Int32) → Option (Int32 × zXS)} (hK : ∀ (v3 : Int32) (v4 : Int32) (s0_5 : zRD) (s0_9 : (Nat → Int32)) , K v3 v4 s0_5 s0_9 = some out → ∀ (H : Heap) (locs : List Loc) (ls : Array Slot), KW G A s (wX9 G q s0_0 s0_1 s0_2 s0_3 s0_4 s0_5 s0_6 s0_7 s0_8 s0_9 s0_10 s0_11 s0_12) H locs → lv_has ls 6 [(3, .int v3)] → W p l e (zR 4 89) s m args below meth c H locs 0 0 (QI G A out.1 (wX9 G q out.2.1 out.2.2.1 out.2.2.2.1 out.2.2.2.2.1 out.2.2.2.2.2.1 out.2.2.2.2.2.2.1 out.2.2.2.2.2.2.2.1 out.2.2.2.2.2.2.2.2.1 out.2.2.2.2.2.2.2.2.2.1 out.2.2.2.2.2.2.2.2.2.2.1 out.2.2.2.2.2.2.2.2.2.2.2.1 out.2.2.2.2.2.2.2.2.2.2.2.2.1 out.2.2.2.2.2.2.2.2.2.2.2.2.2) below args s) (F0 m 101 ls [])) :
    ∀ (n : Nat) (v3 : Int32) (v4 : Int32) (s0_5 : zRD) (s0_9 : (Nat → Int32)) , lp_X9_mostAlike_13 v1 v2 s0_1 K n v3 v4 s0_5 s0_9 = some out → ∀ (H : Heap) (locs : List Loc) (ls : Array Slot), KW G A s (wX9 G q s0_0 s0_1 s0_2 s0_3 s0_4 s0_5 s0_6 s0_7 s0_8 s0_9 s0_10 s0_11 s0_12) H locs → lv_has ls 6 [(0, .ref (q 0)), (1, .int v1), (2, .int (bI v2)), (3, .int v3), (4, .int v4)] → W p l e (zR 4 89) s m args below meth c H locs 0 0 (QI G A out.1 (wX9 G q out.2.1 out.2.2.1 out.2.2.2.1 out.2.2.2.2.1 out.2.2.2.2.2.1 out.2.2.2.2.2.2.1 out.2.2.2.2.2.2.2.1 out.2.2.2.2.2.2.2.2.1 out.2.2.2.2.2.2.2.2.2.1 out.2.2.2.2.2.2.2.2.2.2.1 out.2.2.2.2.2.2.2.2.2.2.2.1 out.2.2.2.2.2.2.2.2.2.2.2.2.1 out.2.2.2.2.2.2.2.2.2.2.2.2.2) below args s) (F0 m 13 ls []) := by
  have hx := C.1
  have hb := C.2.1
  intro n
  induction n with
  | zero => intro v3 v4 s0_5 s0_9 hf; exact nomatch (show (none : Option (Int32 × zXS)) = some out from hf)
  | succ n ih =>
    intro v3 v4 s0_5 s0_9 hf H locs ls hW hl
    rw [lp_X9_mostAlike_13] at hf
    refine lv_iload hx hb dX9_mostAlike_13 (lv_at hl 4 rfl) ?_
    refine lv_iconst (v := 5) hx hb dX9_mostAlike_15 (by decide) ?_
    refine lv_icmp_ge (tgt := 101) hx hb dX9_mostAlike_16 (by decide) (fun c2 => ?_) (fun c2 => ?_)
    · have hf := ipos c2 hf
      exact hK v3 v4 s0_5 s0_9 hf _ _ _ hW (lv_sub hl [3] rfl)
    · have hf := ineg c2 hf
      refine lv_iload_n hx hb dX9_mostAlike_19 rfl (lv_at hl 1 rfl) ?_
      refine lv_iconst (v := 1) hx hb dX9_mostAlike_20 (by decide) ?_
      refine lv_iload hx hb dX9_mostAlike_21 (lv_at hl 4 rfl) ?_
      refine lv_ishl hx hb dX9_mostAlike_23 ?_
      refine lv_iand hx hb dX9_mostAlike_24 ?_
      refine lv_if_ne (tgt := 31) hx hb dX9_mostAlike_25 (by decide) (fun c3 => ?_) (fun c3 => ?_)
      · have hf := ineg c3 hf
        refine lv_aload_n hx hb dX9_mostAlike_31 rfl (lv_at hl 0 rfl) ?_
        refine zk_get C hW fgX9_47 0 rfl rfl dX9_mostAlike_32 ?_
        refine lv_iload hx hb dX9_mostAlike_35 (lv_at hl 4 rfl) ?_
        refine lv_aload_n hx hb dX9_mostAlike_37 rfl (lv_at hl 0 rfl) ?_
        refine zk_get C hW fgX9_19 0 rfl rfl dX9_mostAlike_38 ?_
        refine lv_iload_n hx hb dX9_mostAlike_41 rfl (lv_at hl 2 rfl) ?_
        obtain ⟨u4, eu4, hf⟩ := bnd hf
        refine zk_callV (As := [.int v4, .ref (q 3), .int (bI v2)]) (rest := []) (W1 := wX9 G q s0_0 s0_1 s0_2 s0_3 s0_4 u4 s0_6 s0_7 s0_8 s0_9 s0_10 s0_11 s0_12) C hW hl mvX9_151 (c_X6_readTo l G (fun k => q (k + 14)) (fun k => q (k + 3)) s0_5 v4 s0_1 v2 u4 eu4) ⟨(Nat.le_of_ble_eq_true rfl), (Nat.le_of_ble_eq_true rfl)⟩ ⟨rfl, rfl⟩ [14, 3, 4] rfl rfl rfl rfl (Nat.le_of_ble_eq_true rfl) (Nat.le_of_ble_eq_true rfl) rfl dX9_mostAlike_42 ⟨Nat.zero_le _, Nat.zero_le _⟩ (fun H locs hW => ?_)
        refine lv_aload_n hx hb dX9_mostAlike_45 rfl (lv_at hl 0 rfl) ?_
        refine zk_get C hW fgX9_47 0 rfl rfl dX9_mostAlike_46 ?_
        refine zk_get C hW fgX9_155 14 rfl rfl dX9_mostAlike_49 ?_
        refine lv_istore (lv' := [(5, .int u4.2.2.2.2.1), (0, .ref (q 0)), (1, .int v1), (2, .int (bI v2)), (3, .int v3), (4, .int v4)]) hx hb dX9_mostAlike_52 hl (by decide) rfl (fun ls hl => ?_)
        refine lv_iload hx hb dX9_mostAlike_54 (lv_at hl 0 rfl) ?_
        refine lv_if_lt (tgt := 95) hx hb dX9_mostAlike_56 (by decide) (fun c5 => ?_) (fun c5 => ?_)
        · have hf := ipos c5 hf
          refine lv_iinc (v := (v4 + 1)) (lv' := [(4, .int (v4 + 1)), (5, .int u4.2.2.2.2.1), (0, .ref (q 0)), (1, .int v1), (2, .int (bI v2)), (3, .int v3)]) hx hb dX9_mostAlike_95 hl (k := 5) rfl rfl (by decide) rfl (fun ls hl => ?_)
          refine lv_goto (tgt := 13) hx hb dX9_mostAlike_98 (by decide) ?_
          exact ih v3 (v4 + 1) u4 s0_9 hf _ _ _ hW (lv_sub hl [2, 3, 4, 5, 0] rfl)
        · have hf := ineg c5 hf
          refine lv_iload hx hb dX9_mostAlike_59 (lv_at hl 0 rfl) ?_
          refine lv_aload_n hx hb dX9_mostAlike_61 rfl (lv_at hl 1 rfl) ?_
          refine zk_get C hW fgX9_72 0 rfl rfl dX9_mostAlike_62 ?_
          refine zk_alen C hW 34 rfl dX9_mostAlike_65 ?_
          refine lv_icmp_lt (tgt := 72) hx hb dX9_mostAlike_66 (by decide) (fun c6 => ?_) (fun c6 => ?_)
          · have hf := ipos c6 hf
            refine lv_aload_n hx hb dX9_mostAlike_72 rfl (lv_at hl 1 rfl) ?_
            refine zk_get C hW fgX9_72 0 rfl rfl dX9_mostAlike_73 ?_
            refine lv_iload hx hb dX9_mostAlike_76 (lv_at hl 0 rfl) ?_
            refine lv_dup2_11 hx hb dX9_mostAlike_78 rfl rfl ?_
            obtain ⟨g7, hf⟩ := grd hf
            refine zk_iald C hW 34 g7 rfl dX9_mostAlike_79 ?_
            refine lv_iconst (v := 1) hx hb dX9_mostAlike_80 (by decide) ?_
            refine lv_iadd hx hb dX9_mostAlike_81 ?_
            obtain ⟨g9, hf⟩ := grd hf
            obtain ⟨z8, ez8, hf⟩ := bnd hf
            refine zk_iast (W1 := wX9 G q s0_0 s0_1 s0_2 s0_3 s0_4 u4 s0_6 s0_7 s0_8 z8 s0_10 s0_11 s0_12) C hW 34 g9 (Option.some.inj ez8) rfl rfl dX9_mostAlike_82 (fun H locs hW => ?_)
            refine lv_iload_n hx hb dX9_mostAlike_83 rfl (lv_at hl 4 rfl) ?_
            refine lv_aload_n hx hb dX9_mostAlike_84 rfl (lv_at hl 1 rfl) ?_
            refine zk_get C hW fgX9_72 0 rfl rfl dX9_mostAlike_85 ?_
            refine lv_iload hx hb dX9_mostAlike_88 (lv_at hl 0 rfl) ?_
            obtain ⟨g10, hf⟩ := grd hf
            refine zk_iald C hW 34 g10 rfl dX9_mostAlike_90 ?_
            refine va_mmax hx hb (C.2.2.1.trans hl.1.symm) C.2.2.2.1 (C.2.2.2.2.1 _ kmlX9_256) (C.2.2.2.2.1 _ km_max_s) (C.2.2.2.2.1 _ km_i) (C.2.2.2.2.1 _ km_max_c) (Nat.le_of_ble_eq_true rfl) (Nat.le_of_ble_eq_true rfl) (Nat.zero_le _) (Nat.zero_le _) dX9_mostAlike_91 ?_
            refine lv_istore_n (lv' := [(3, .int (if v3 < (z8 (Int32.toNatClampNeg u4.2.2.2.2.1)) then (z8 (Int32.toNatClampNeg u4.2.2.2.2.1)) else v3)), (5, .int u4.2.2.2.2.1), (0, .ref (q 0)), (1, .int v1), (2, .int (bI v2)), (4, .int v4)]) hx hb dX9_mostAlike_94 rfl hl (by decide) rfl (fun ls hl => ?_)
            refine lv_iinc (v := (v4 + 1)) (lv' := [(4, .int (v4 + 1)), (3, .int (if v3 < (z8 (Int32.toNatClampNeg u4.2.2.2.2.1)) then (z8 (Int32.toNatClampNeg u4.2.2.2.2.1)) else v3)), (5, .int u4.2.2.2.2.1), (0, .ref (q 0)), (1, .int v1), (2, .int (bI v2))]) hx hb dX9_mostAlike_95 hl (k := 5) rfl rfl (by decide) rfl (fun ls hl => ?_)
            refine lv_goto (tgt := 13) hx hb dX9_mostAlike_98 (by decide) ?_
            exact ih (if v3 < (z8 (Int32.toNatClampNeg u4.2.2.2.2.1)) then (z8 (Int32.toNatClampNeg u4.2.2.2.2.1)) else v3) (v4 + 1) u4 z8 hf _ _ _ hW (lv_sub hl [3, 4, 5, 1, 0] rfl)
          · have hf := ineg c6 hf
            refine lv_goto (tgt := 95) hx hb dX9_mostAlike_69 (by decide) ?_
            refine lv_iinc (v := (v4 + 1)) (lv' := [(4, .int (v4 + 1)), (5, .int u4.2.2.2.2.1), (0, .ref (q 0)), (1, .int v1), (2, .int (bI v2)), (3, .int v3)]) hx hb dX9_mostAlike_95 hl (k := 5) rfl rfl (by decide) rfl (fun ls hl => ?_)
            refine lv_goto (tgt := 13) hx hb dX9_mostAlike_98 (by decide) ?_
            exact ih v3 (v4 + 1) u4 s0_9 hf _ _ _ hW (lv_sub hl [2, 3, 4, 5, 0] rfl)
      · have hf := ipos c3 hf
        refine lv_goto (tgt := 95) hx hb dX9_mostAlike_28 (by decide) ?_
        refine lv_iinc (v := (v4 + 1)) (lv' := [(4, .int (v4 + 1)), (0, .ref (q 0)), (1, .int v1), (2, .int (bI v2)), (3, .int v3)]) hx hb dX9_mostAlike_95 hl (k := 4) rfl rfl (by decide) rfl (fun ls hl => ?_)
        refine lv_goto (tgt := 13) hx hb dX9_mostAlike_98 (by decide) ?_
        exact ih v3 (v4 + 1) s0_5 s0_9 hf _ _ _ hW (lv_sub hl [1, 2, 3, 4, 0] rfl)
set_option maxHeartbeats 4000000 in
set_option maxRecDepth 100000 in
theorem c_X9_mostAlike (l : Launch) (G : GG) (q : Nat → Nat) (t0 : zXS) (a0 : Int32) (a1 : Bool) (out : Int32 × zXS) (hf : f_X9_mostAlike t0 a0 a1 = some out) : CtI G l yX9_mostAlike (Cond.code yX9_mostAlike cX9_mostAlike 6 (some .int) :: WL) (zR 4 89) [.ref (q 0), .int a0, .int (bI a1)] (wX9 G q t0.1 t0.2.1 t0.2.2.1 t0.2.2.2.1 t0.2.2.2.2.1 t0.2.2.2.2.2.1 t0.2.2.2.2.2.2.1 t0.2.2.2.2.2.2.2.1 t0.2.2.2.2.2.2.2.2.1 t0.2.2.2.2.2.2.2.2.2.1 t0.2.2.2.2.2.2.2.2.2.2.1 t0.2.2.2.2.2.2.2.2.2.2.2.1 t0.2.2.2.2.2.2.2.2.2.2.2.2) out.1 (wX9 G q out.2.1 out.2.2.1 out.2.2.2.1 out.2.2.2.2.1 out.2.2.2.2.2.1 out.2.2.2.2.2.2.1 out.2.2.2.2.2.2.2.1 out.2.2.2.2.2.2.2.2.1 out.2.2.2.2.2.2.2.2.2.1 out.2.2.2.2.2.2.2.2.2.2.1 out.2.2.2.2.2.2.2.2.2.2.2.1 out.2.2.2.2.2.2.2.2.2.2.2.2.1 out.2.2.2.2.2.2.2.2.2.2.2.2.2) := by
  refine CtI.mk (cc := cX9_mostAlike) (nL := 6) (rt := (some .int)) (own := RX9) (nm := "mostAlike") (by decide) rfl rfl (Nat.le_of_ble_eq_true rfl) ?_
  intro p e s m below meth c A ls C hW hl
  have hx := C.1
  have hb := C.2.1
  have hl : lv_has ls 6 [(0, .ref (q 0)), (1, .int a0), (2, .int (bI a1))] := hl
  unfold f_X9_mostAlike at hf
  refine lv_aload_n hx hb dX9_mostAlike_0 rfl (lv_at hl 0 rfl) ?_
  refine zk_get C hW fgX9_72 0 rfl rfl dX9_mostAlike_1 ?_
  refine lv_iconst (v := 0) hx hb dX9_mostAlike_4 (by decide) ?_
  obtain ⟨u1, eu1, hf⟩ := bnd hf
  refine zk_callSV (As := [.ref (q 34), .int 0]) (rest := []) (W1 := wX9 G q t0.1 t0.2.1 t0.2.2.1 t0.2.2.2.1 t0.2.2.2.2.1 t0.2.2.2.2.2.1 t0.2.2.2.2.2.2.1 t0.2.2.2.2.2.2.2.1 t0.2.2.2.2.2.2.2.2.1 u1 t0.2.2.2.2.2.2.2.2.2.2.1 t0.2.2.2.2.2.2.2.2.2.2.2.1 t0.2.2.2.2.2.2.2.2.2.2.2.2) C hW hl msX9_250 (c_J7_fill_53178 l G (q 34) 10 t0.2.2.2.2.2.2.2.2.2.1 0 u1 eu1) ⟨(Nat.le_of_ble_eq_true rfl), (Nat.le_of_ble_eq_true rfl)⟩ ⟨rfl, rfl⟩ [34] rfl rfl rfl (Nat.le_of_ble_eq_true rfl) (Nat.le_of_ble_eq_true rfl) rfl dX9_mostAlike_5 ⟨Nat.zero_le _, Nat.zero_le _⟩ (fun H locs hW => ?_)
  refine lv_iconst (v := 0) hx hb dX9_mostAlike_8 (by decide) ?_
  refine lv_istore_n (lv' := [(3, .int 0), (0, .ref (q 0)), (1, .int a0), (2, .int (bI a1))]) hx hb dX9_mostAlike_9 rfl hl (by decide) rfl (fun ls hl => ?_)
  refine lv_iconst (v := 0) hx hb dX9_mostAlike_10 (by decide) ?_
  refine lv_istore (lv' := [(4, .int 0), (3, .int 0), (0, .ref (q 0)), (1, .int a0), (2, .int (bI a1))]) hx hb dX9_mostAlike_11 hl (by decide) rfl (fun ls hl => ?_)
  refine w_X9_mostAlike_13 l G q a0 a1 t0.1 t0.2.1 t0.2.2.1 t0.2.2.2.1 t0.2.2.2.2.1 t0.2.2.2.2.2.2.1 t0.2.2.2.2.2.2.2.1 t0.2.2.2.2.2.2.2.2.1 t0.2.2.2.2.2.2.2.2.2.2.1 t0.2.2.2.2.2.2.2.2.2.2.2.1 t0.2.2.2.2.2.2.2.2.2.2.2.2 out C (fun w11_v3 w11_v4 w11_s0_5 w11_s0_9 hf H locs ls hW hl => ?_) FU 0 0 t0.2.2.2.2.2.1 u1 hf _ _ _ hW (lv_sub hl [2, 3, 4, 1, 0] rfl)
  refine lv_iload_n hx hb dX9_mostAlike_101 rfl (lv_at hl 0 rfl) ?_
  obtain rfl := Option.some.inj hf
  exact zk_iret C hW rfl dX9_mostAlike_102

set_option maxHeartbeats 4000000 in
set_option maxRecDepth 100000 in
theorem c_X9_ask (l : Launch) (G : GG) (q : Nat → Nat) (t0 : zXS) (out : Int32 × zXS) (hf : f_X9_ask t0 = some out) : CtI G l yX9_ask (Cond.code yX9_ask cX9_ask 2 (some .int) :: WL) (zR 5 114) [.ref (q 0)] (wX9 G q t0.1 t0.2.1 t0.2.2.1 t0.2.2.2.1 t0.2.2.2.2.1 t0.2.2.2.2.2.1 t0.2.2.2.2.2.2.1 t0.2.2.2.2.2.2.2.1 t0.2.2.2.2.2.2.2.2.1 t0.2.2.2.2.2.2.2.2.2.1 t0.2.2.2.2.2.2.2.2.2.2.1 t0.2.2.2.2.2.2.2.2.2.2.2.1 t0.2.2.2.2.2.2.2.2.2.2.2.2) out.1 (wX9 G q out.2.1 out.2.2.1 out.2.2.2.1 out.2.2.2.2.1 out.2.2.2.2.2.1 out.2.2.2.2.2.2.1 out.2.2.2.2.2.2.2.1 out.2.2.2.2.2.2.2.2.1 out.2.2.2.2.2.2.2.2.2.1 out.2.2.2.2.2.2.2.2.2.2.1 out.2.2.2.2.2.2.2.2.2.2.2.1 out.2.2.2.2.2.2.2.2.2.2.2.2.1 out.2.2.2.2.2.2.2.2.2.2.2.2.2) := by
  refine CtI.mk (cc := cX9_ask) (nL := 2) (rt := (some .int)) (own := RX9) (nm := "ask") (by decide) rfl rfl (Nat.le_of_ble_eq_true rfl) ?_
  intro p e s m below meth c A ls C hW hl
  have hx := C.1
  have hb := C.2.1
  have hl : lv_has ls 2 [(0, .ref (q 0))] := hl
  unfold f_X9_ask at hf
  refine lv_aload_n hx hb dX9_ask_0 rfl (lv_at hl 0 rfl) ?_
  obtain ⟨u1, eu1, hf⟩ := bnd hf
  refine zk_callBI (As := []) (rest := []) (W1 := wX9 G q t0.1 t0.2.1 t0.2.2.1 t0.2.2.2.1 t0.2.2.2.2.1 t0.2.2.2.2.2.1 t0.2.2.2.2.2.2.1 t0.2.2.2.2.2.2.2.1 t0.2.2.2.2.2.2.2.2.1 t0.2.2.2.2.2.2.2.2.2.1 t0.2.2.2.2.2.2.2.2.2.2.1 t0.2.2.2.2.2.2.2.2.2.2.2.1 t0.2.2.2.2.2.2.2.2.2.2.2.2) C hW hl mvX9_137 (c_X9_noLetter l G q t0 u1 eu1) ⟨(Nat.le_of_ble_eq_true rfl), (Nat.le_of_ble_eq_true rfl)⟩ ⟨rfl, rfl⟩ ([]) ([]) zE1 rfl rfl (Nat.le_of_ble_eq_true rfl) zE1r dX9_ask_1 ⟨Nat.zero_le _, Nat.zero_le _⟩ (fun H locs hW => ?_)
  refine lv_if_eq (tgt := 10) hx hb dX9_ask_4 (by decide) (fun c2 => ?_) (fun c2 => ?_)
  · have hf := ipos c2 hf
    refine lv_aload_n hx hb dX9_ask_10 rfl (lv_at hl 0 rfl) ?_
    refine zk_get C hW fgX9_33 0 rfl rfl dX9_ask_11 ?_
    obtain ⟨u3, eu3, hf⟩ := bnd hf
    refine zk_callI (As := []) (rest := []) (W1 := wX9 G q t0.1 t0.2.1 t0.2.2.1 t0.2.2.2.1 t0.2.2.2.2.1 t0.2.2.2.2.2.1 t0.2.2.2.2.2.2.1 t0.2.2.2.2.2.2.2.1 t0.2.2.2.2.2.2.2.2.1 t0.2.2.2.2.2.2.2.2.2.1 t0.2.2.2.2.2.2.2.2.2.2.1 t0.2.2.2.2.2.2.2.2.2.2.2.1 t0.2.2.2.2.2.2.2.2.2.2.2.2) C hW hl mvX9_188 (c_X7_possibleKinds l G (fun k => q (k + 7)) t0.2.2.2.1 u3 eu3) ⟨(Nat.le_of_ble_eq_true rfl), (Nat.le_of_ble_eq_true rfl)⟩ ⟨rfl, rfl⟩ [7, 8] rfl rfl rfl rfl (Nat.le_of_ble_eq_true rfl) (Nat.le_of_ble_eq_true rfl) rfl dX9_ask_14 ⟨Nat.zero_le _, Nat.zero_le _⟩ (fun H locs hW => ?_)
    refine lv_istore_n (lv' := [(1, .int u3), (0, .ref (q 0))]) hx hb dX9_ask_17 rfl hl (by decide) rfl (fun ls hl => ?_)
    refine lv_iload_n hx hb dX9_ask_18 rfl (lv_at hl 0 rfl) ?_
    refine lv_if_ne (tgt := 24) hx hb dX9_ask_19 (by decide) (fun c4 => ?_) (fun c4 => ?_)
    · have hf := ineg c4 hf
      refine lv_aload_n hx hb dX9_ask_24 rfl (lv_at hl 1 rfl) ?_
      refine lv_iload_n hx hb dX9_ask_25 rfl (lv_at hl 0 rfl) ?_
      refine lv_iconst (v := 1) hx hb dX9_ask_26 (by decide) ?_
      obtain ⟨u5, eu5, hf⟩ := bnd hf
      refine zk_callBI (As := [.int u3, .int (bI true)]) (rest := []) (W1 := wX9 G q u5.2.1 u5.2.2.1 u5.2.2.2.1 u5.2.2.2.2.1 u5.2.2.2.2.2.1 u5.2.2.2.2.2.2.1 u5.2.2.2.2.2.2.2.1 u5.2.2.2.2.2.2.2.2.1 u5.2.2.2.2.2.2.2.2.2.1 u5.2.2.2.2.2.2.2.2.2.2.1 u5.2.2.2.2.2.2.2.2.2.2.2.1 u5.2.2.2.2.2.2.2.2.2.2.2.2.1 u5.2.2.2.2.2.2.2.2.2.2.2.2.2) C hW hl mvX9_191 (c_X9_mostAlike l G q t0 u3 true u5 eu5) ⟨(Nat.le_of_ble_eq_true rfl), (Nat.le_of_ble_eq_true rfl)⟩ ⟨rfl, rfl⟩ ([]) ([]) zE1 rfl rfl (Nat.le_of_ble_eq_true rfl) zE1r dX9_ask_27 ⟨Nat.zero_le _, Nat.zero_le _⟩ (fun H locs hW => ?_)
      refine lv_aload_n hx hb dX9_ask_30 rfl (lv_at hl 1 rfl) ?_
      refine lv_iload_n hx hb dX9_ask_31 rfl (lv_at hl 0 rfl) ?_
      refine lv_iconst (v := 0) hx hb dX9_ask_32 (by decide) ?_
      obtain ⟨u6, eu6, hf⟩ := bnd hf
      refine zk_callBI (As := [.int u3, .int (bI false)]) (rest := [.int u5.1]) (W1 := wX9 G q u6.2.1 u6.2.2.1 u6.2.2.2.1 u6.2.2.2.2.1 u6.2.2.2.2.2.1 u6.2.2.2.2.2.2.1 u6.2.2.2.2.2.2.2.1 u6.2.2.2.2.2.2.2.2.1 u6.2.2.2.2.2.2.2.2.2.1 u6.2.2.2.2.2.2.2.2.2.2.1 u6.2.2.2.2.2.2.2.2.2.2.2.1 u6.2.2.2.2.2.2.2.2.2.2.2.2.1 u6.2.2.2.2.2.2.2.2.2.2.2.2.2) C hW hl mvX9_191 (c_X9_mostAlike l G q u5.2 u3 false u6 eu6) ⟨(Nat.le_of_ble_eq_true rfl), (Nat.le_of_ble_eq_true rfl)⟩ ⟨rfl, rfl⟩ ([]) ([]) zE1 rfl rfl (Nat.le_of_ble_eq_true rfl) zE1r dX9_ask_33 ⟨Nat.zero_le _, Nat.zero_le _⟩ (fun H locs hW => ?_)
      refine lv_icmp_ge (tgt := 43) hx hb dX9_ask_36 (by decide) (fun c7 => ?_) (fun c7 => ?_)
      · have hf := ipos c7 hf
        refine lv_iconst (v := 0) hx hb dX9_ask_43 (by decide) ?_
        obtain rfl := Option.some.inj hf
        exact zk_iret C hW rfl dX9_ask_44
      · have hf := ineg c7 hf
        refine lv_iconst (v := 1) hx hb dX9_ask_39 (by decide) ?_
        refine lv_goto (tgt := 44) hx hb dX9_ask_40 (by decide) ?_
        obtain rfl := Option.some.inj hf
        exact zk_iret C hW rfl dX9_ask_44
    · have hf := ipos c4 hf
      refine lv_iconst (v := (-1)) hx hb dX9_ask_22 (by decide) ?_
      obtain rfl := Option.some.inj hf
      exact zk_iret C hW rfl dX9_ask_23
  · have hf := ineg c2 hf
    refine lv_bipush (v := (-103)) hx hb dX9_ask_7 (by decide) ?_
    obtain rfl := Option.some.inj hf
    exact zk_iret C hW rfl dX9_ask_9

set_option maxHeartbeats 4000000 in
set_option maxRecDepth 100000 in
theorem c_X9_days (l : Launch) (G : GG) (q : Nat → Nat) (t0 : zXS) (a0 : Int32) (a1 : Int32) (a2 : Int32) (out : Int32 × zXS) (hf : f_X9_days t0 a0 a1 a2 = some out) : CtI G l yX9_days (Cond.code yX9_days cX9_days 4 (some .int) :: WL) (zR 5 114) [.ref (q 0), .int a0, .int a1, .int a2] (wX9 G q t0.1 t0.2.1 t0.2.2.1 t0.2.2.2.1 t0.2.2.2.2.1 t0.2.2.2.2.2.1 t0.2.2.2.2.2.2.1 t0.2.2.2.2.2.2.2.1 t0.2.2.2.2.2.2.2.2.1 t0.2.2.2.2.2.2.2.2.2.1 t0.2.2.2.2.2.2.2.2.2.2.1 t0.2.2.2.2.2.2.2.2.2.2.2.1 t0.2.2.2.2.2.2.2.2.2.2.2.2) out.1 (wX9 G q out.2.1 out.2.2.1 out.2.2.2.1 out.2.2.2.2.1 out.2.2.2.2.2.1 out.2.2.2.2.2.2.1 out.2.2.2.2.2.2.2.1 out.2.2.2.2.2.2.2.2.1 out.2.2.2.2.2.2.2.2.2.1 out.2.2.2.2.2.2.2.2.2.2.1 out.2.2.2.2.2.2.2.2.2.2.2.1 out.2.2.2.2.2.2.2.2.2.2.2.2.1 out.2.2.2.2.2.2.2.2.2.2.2.2.2) := by
  refine CtI.mk (cc := cX9_days) (nL := 4) (rt := (some .int)) (own := RX9) (nm := "days") (by decide) rfl rfl (Nat.le_of_ble_eq_true rfl) ?_
  intro p e s m below meth c A ls C hW hl
  have hx := C.1
  have hb := C.2.1
  have hl : lv_has ls 4 [(0, .ref (q 0)), (1, .int a0), (2, .int a1), (3, .int a2)] := hl
  unfold f_X9_days at hf
  refine lv_iload_n hx hb dX9_days_0 rfl (lv_at hl 1 rfl) ?_
  refine lv_iconst (v := 1) hx hb dX9_days_1 (by decide) ?_
  refine lv_icmp_lt (tgt := 24) hx hb dX9_days_2 (by decide) (fun c1 => ?_) (fun c1 => ?_)
  · have hf := ipos c1 hf
    refine lv_bipush (v := (-102)) hx hb dX9_days_24 (by decide) ?_
    obtain rfl := Option.some.inj hf
    exact zk_iret C hW rfl dX9_days_26
  · have hf := ineg c1 hf
    refine lv_iload_n hx hb dX9_days_5 rfl (lv_at hl 1 rfl) ?_
    refine lv_bipush (v := 40) hx hb dX9_days_6 (by decide) ?_
    refine lv_icmp_gt (tgt := 24) hx hb dX9_days_8 (by decide) (fun c2 => ?_) (fun c2 => ?_)
    · have hf := ipos c2 hf
      refine lv_bipush (v := (-102)) hx hb dX9_days_24 (by decide) ?_
      obtain rfl := Option.some.inj hf
      exact zk_iret C hW rfl dX9_days_26
    · have hf := ineg c2 hf
      refine lv_iload_n hx hb dX9_days_11 rfl (lv_at hl 2 rfl) ?_
      refine lv_if_lt (tgt := 24) hx hb dX9_days_12 (by decide) (fun c3 => ?_) (fun c3 => ?_)
      · have hf := ipos c3 hf
        refine lv_bipush (v := (-102)) hx hb dX9_days_24 (by decide) ?_
        obtain rfl := Option.some.inj hf
        exact zk_iret C hW rfl dX9_days_26
      · have hf := ineg c3 hf
        refine lv_iload_n hx hb dX9_days_15 rfl (lv_at hl 3 rfl) ?_
        refine lv_if_lt (tgt := 24) hx hb dX9_days_16 (by decide) (fun c4 => ?_) (fun c4 => ?_)
        · have hf := ipos c4 hf
          refine lv_bipush (v := (-102)) hx hb dX9_days_24 (by decide) ?_
          obtain rfl := Option.some.inj hf
          exact zk_iret C hW rfl dX9_days_26
        · have hf := ineg c4 hf
          refine lv_iload_n hx hb dX9_days_19 rfl (lv_at hl 3 rfl) ?_
          refine lv_iconst (v := 2) hx hb dX9_days_20 (by decide) ?_
          refine lv_icmp_le (tgt := 27) hx hb dX9_days_21 (by decide) (fun c5 => ?_) (fun c5 => ?_)
          · have hf := ipos c5 hf
            refine lv_aload_n hx hb dX9_days_27 rfl (lv_at hl 0 rfl) ?_
            refine zk_get C hW fgX9_26 0 rfl rfl dX9_days_28 ?_
            refine zk_get C hW fgX9_99 5 rfl rfl dX9_days_31 ?_
            refine lv_if_ne (tgt := 40) hx hb dX9_days_34 (by decide) (fun c6 => ?_) (fun c6 => ?_)
            · have hf := ineg c6 hf
              refine lv_aload_n hx hb dX9_days_40 rfl (lv_at hl 0 rfl) ?_
              refine zk_get C hW fgX9_68 0 rfl rfl dX9_days_41 ?_
              refine lv_iload_n hx hb dX9_days_44 rfl (lv_at hl 1 rfl) ?_
              refine lv_iload_n hx hb dX9_days_45 rfl (lv_at hl 2 rfl) ?_
              refine lv_aload_n hx hb dX9_days_46 rfl (lv_at hl 0 rfl) ?_
              refine zk_get C hW fgX9_26 0 rfl rfl dX9_days_47 ?_
              refine lv_aload_n hx hb dX9_days_50 rfl (lv_at hl 0 rfl) ?_
              refine zk_get C hW fgX9_19 0 rfl rfl dX9_days_51 ?_
              refine zk_get C hW fgX9_140 3 rfl rfl dX9_days_54 ?_
              obtain ⟨u7, eu7, hf⟩ := bnd hf
              refine zk_callV (As := [.int a0, .int a1, .ref (q 5), .int t0.2.1.2.2]) (rest := []) (W1 := wX9 G q t0.1 t0.2.1 t0.2.2.1 t0.2.2.2.1 t0.2.2.2.2.1 t0.2.2.2.2.2.1 t0.2.2.2.2.2.2.1 t0.2.2.2.2.2.2.2.1 u7 t0.2.2.2.2.2.2.2.2.2.1 t0.2.2.2.2.2.2.2.2.2.2.1 t0.2.2.2.2.2.2.2.2.2.2.2.1 t0.2.2.2.2.2.2.2.2.2.2.2.2) C hW hl mvX9_194 (c_X0_pass l G (fun k => q (k + 30)) (fun k => q (k + 5)) t0.2.2.2.2.2.2.2.2.1 a0 a1 t0.2.2.1 t0.2.1.2.2 u7 eu7) ⟨(Nat.le_of_ble_eq_true rfl), (Nat.le_of_ble_eq_true rfl)⟩ ⟨rfl, rfl⟩ [30, 31, 32, 33, 5, 6] rfl rfl rfl rfl (Nat.le_of_ble_eq_true rfl) (Nat.le_of_ble_eq_true rfl) rfl dX9_days_57 ⟨Nat.zero_le _, Nat.zero_le _⟩ (fun H locs hW => ?_)
              refine lv_iload_n hx hb dX9_days_60 rfl (lv_at hl 3 rfl) ?_
              refine lv_if_ne (tgt := 72) hx hb dX9_days_61 (by decide) (fun c8 => ?_) (fun c8 => ?_)
              · have hf := ineg c8 hf
                refine lv_iload_n hx hb dX9_days_72 rfl (lv_at hl 3 rfl) ?_
                refine lv_iconst (v := 1) hx hb dX9_days_73 (by decide) ?_
                refine lv_icmp_ne (tgt := 89) hx hb dX9_days_74 (by decide) (fun c9 => ?_) (fun c9 => ?_)
                · have hf := ineg c9 hf
                  refine lv_aload_n hx hb dX9_days_89 rfl (lv_at hl 0 rfl) ?_
                  refine zk_get C hW fgX9_68 0 rfl rfl dX9_days_90 ?_
                  refine zk_get C hW fgX9_203 30 rfl rfl dX9_days_93 ?_
                  obtain rfl := Option.some.inj hf
                  exact zk_iret C hW rfl dX9_days_96
                · have hf := ipos c9 hf
                  refine lv_aload_n hx hb dX9_days_77 rfl (lv_at hl 0 rfl) ?_
                  refine zk_get C hW fgX9_68 0 rfl rfl dX9_days_78 ?_
                  refine zk_get C hW fgX9_200 30 rfl rfl dX9_days_81 ?_
                  refine lv_sipush (v := 1000) hx hb dX9_days_84 (by decide) ?_
                  refine lv_iadd hx hb dX9_days_87 ?_
                  obtain rfl := Option.some.inj hf
                  exact zk_iret C hW rfl dX9_days_88
              · have hf := ipos c8 hf
                refine lv_aload_n hx hb dX9_days_64 rfl (lv_at hl 0 rfl) ?_
                refine zk_get C hW fgX9_68 0 rfl rfl dX9_days_65 ?_
                refine zk_get C hW fgX9_198 30 rfl rfl dX9_days_68 ?_
                obtain rfl := Option.some.inj hf
                exact zk_iret C hW rfl dX9_days_71
            · have hf := ipos c6 hf
              refine lv_bipush (v := (-103)) hx hb dX9_days_37 (by decide) ?_
              obtain rfl := Option.some.inj hf
              exact zk_iret C hW rfl dX9_days_39
          · have hf := ineg c5 hf
            refine lv_bipush (v := (-102)) hx hb dX9_days_24 (by decide) ?_
            obtain rfl := Option.some.inj hf
            exact zk_iret C hW rfl dX9_days_26

set_option maxHeartbeats 4000000 in
set_option maxRecDepth 100000 in
theorem c_X9_image (l : Launch) (G : GG) (q : Nat → Nat) (t0 : zXS) (out : Int32 × zXS) (hf : f_X9_image t0 = some out) : CtI G l yX9_image (Cond.code yX9_image cX9_image 1 (some .int) :: WL) (zR 2 43) [.ref (q 0)] (wX9 G q t0.1 t0.2.1 t0.2.2.1 t0.2.2.2.1 t0.2.2.2.2.1 t0.2.2.2.2.2.1 t0.2.2.2.2.2.2.1 t0.2.2.2.2.2.2.2.1 t0.2.2.2.2.2.2.2.2.1 t0.2.2.2.2.2.2.2.2.2.1 t0.2.2.2.2.2.2.2.2.2.2.1 t0.2.2.2.2.2.2.2.2.2.2.2.1 t0.2.2.2.2.2.2.2.2.2.2.2.2) out.1 (wX9 G q out.2.1 out.2.2.1 out.2.2.2.1 out.2.2.2.2.1 out.2.2.2.2.2.1 out.2.2.2.2.2.2.1 out.2.2.2.2.2.2.2.1 out.2.2.2.2.2.2.2.2.1 out.2.2.2.2.2.2.2.2.2.1 out.2.2.2.2.2.2.2.2.2.2.1 out.2.2.2.2.2.2.2.2.2.2.2.1 out.2.2.2.2.2.2.2.2.2.2.2.2.1 out.2.2.2.2.2.2.2.2.2.2.2.2.2) := by
  refine CtI.mk (cc := cX9_image) (nL := 1) (rt := (some .int)) (own := RX9) (nm := "image") (by decide) rfl rfl (Nat.le_of_ble_eq_true rfl) ?_
  intro p e s m below meth c A ls C hW hl
  have hx := C.1
  have hb := C.2.1
  have hl : lv_has ls 1 [(0, .ref (q 0))] := hl
  unfold f_X9_image at hf
  refine lv_aload_n hx hb dX9_image_0 rfl (lv_at hl 0 rfl) ?_
  obtain ⟨u1, eu1, hf⟩ := bnd hf
  refine zk_callBI (As := []) (rest := []) (W1 := wX9 G q t0.1 t0.2.1 t0.2.2.1 t0.2.2.2.1 t0.2.2.2.2.1 t0.2.2.2.2.2.1 t0.2.2.2.2.2.2.1 t0.2.2.2.2.2.2.2.1 t0.2.2.2.2.2.2.2.2.1 t0.2.2.2.2.2.2.2.2.2.1 t0.2.2.2.2.2.2.2.2.2.2.1 t0.2.2.2.2.2.2.2.2.2.2.2.1 t0.2.2.2.2.2.2.2.2.2.2.2.2) C hW hl mvX9_137 (c_X9_noLetter l G q t0 u1 eu1) ⟨(Nat.le_of_ble_eq_true rfl), (Nat.le_of_ble_eq_true rfl)⟩ ⟨rfl, rfl⟩ ([]) ([]) zE1 rfl rfl (Nat.le_of_ble_eq_true rfl) zE1r dX9_image_1 ⟨Nat.zero_le _, Nat.zero_le _⟩ (fun H locs hW => ?_)
  refine lv_if_eq (tgt := 10) hx hb dX9_image_4 (by decide) (fun c2 => ?_) (fun c2 => ?_)
  · have hf := ipos c2 hf
    refine lv_aload_n hx hb dX9_image_10 rfl (lv_at hl 0 rfl) ?_
    refine zk_get C hW fgX9_40 0 rfl rfl dX9_image_11 ?_
    refine zk_get C hW fgX9_206 9 rfl rfl dX9_image_14 ?_
    refine lv_aload_n hx hb dX9_image_17 rfl (lv_at hl 0 rfl) ?_
    refine zk_get C hW fgX9_19 0 rfl rfl dX9_image_18 ?_
    obtain ⟨u3, eu3, hf⟩ := bnd hf
    refine zk_callV (As := [.ref (q 3)]) (rest := []) (W1 := wX9 G q t0.1 t0.2.1 t0.2.2.1 t0.2.2.2.1 (u3, t0.2.2.2.2.1.2) t0.2.2.2.2.2.1 t0.2.2.2.2.2.2.1 t0.2.2.2.2.2.2.2.1 t0.2.2.2.2.2.2.2.2.1 t0.2.2.2.2.2.2.2.2.2.1 t0.2.2.2.2.2.2.2.2.2.2.1 t0.2.2.2.2.2.2.2.2.2.2.2.1 t0.2.2.2.2.2.2.2.2.2.2.2.2) C hW hl mvX9_209 (c_X3_copy l G (fun k => q (k + 10)) (fun k => q (k + 3)) t0.2.2.2.2.1.1 t0.2.1 u3 eu3) ⟨(Nat.le_of_ble_eq_true rfl), (Nat.le_of_ble_eq_true rfl)⟩ ⟨rfl, rfl⟩ [10, 11, 3, 4] rfl rfl rfl rfl (Nat.le_of_ble_eq_true rfl) (Nat.le_of_ble_eq_true rfl) rfl dX9_image_21 ⟨Nat.zero_le _, Nat.zero_le _⟩ (fun H locs hW => ?_)
    refine lv_aload_n hx hb dX9_image_24 rfl (lv_at hl 0 rfl) ?_
    refine zk_get C hW fgX9_40 0 rfl rfl dX9_image_25 ?_
    refine zk_get C hW fgX9_212 9 rfl rfl dX9_image_28 ?_
    refine lv_aload_n hx hb dX9_image_31 rfl (lv_at hl 0 rfl) ?_
    refine zk_get C hW fgX9_33 0 rfl rfl dX9_image_32 ?_
    obtain ⟨u4, eu4, hf⟩ := bnd hf
    refine zk_callV (As := [.ref (q 7)]) (rest := []) (W1 := wX9 G q t0.1 t0.2.1 t0.2.2.1 t0.2.2.2.1 (u3, u4, t0.2.2.2.2.1.2.2) t0.2.2.2.2.2.1 t0.2.2.2.2.2.2.1 t0.2.2.2.2.2.2.2.1 t0.2.2.2.2.2.2.2.2.1 t0.2.2.2.2.2.2.2.2.2.1 t0.2.2.2.2.2.2.2.2.2.2.1 t0.2.2.2.2.2.2.2.2.2.2.2.1 t0.2.2.2.2.2.2.2.2.2.2.2.2) C hW hl mvX9_213 (c_X7_copy l G (fun k => q (k + 12)) (fun k => q (k + 7)) t0.2.2.2.2.1.2.1 t0.2.2.2.1 u4 eu4) ⟨(Nat.le_of_ble_eq_true rfl), (Nat.le_of_ble_eq_true rfl)⟩ ⟨rfl, rfl⟩ [12, 13, 7, 8] rfl rfl rfl rfl (Nat.le_of_ble_eq_true rfl) (Nat.le_of_ble_eq_true rfl) rfl dX9_image_35 ⟨Nat.zero_le _, Nat.zero_le _⟩ (fun H locs hW => ?_)
    refine lv_aload_n hx hb dX9_image_38 rfl (lv_at hl 0 rfl) ?_
    refine zk_get C hW fgX9_40 0 rfl rfl dX9_image_39 ?_
    refine lv_aload_n hx hb dX9_image_42 rfl (lv_at hl 0 rfl) ?_
    refine zk_get C hW fgX9_26 0 rfl rfl dX9_image_43 ?_
    refine zk_get C hW fgX9_99 5 rfl rfl dX9_image_46 ?_
    refine zk_putI (W1 := wX9 G q t0.1 t0.2.1 t0.2.2.1 t0.2.2.2.1 (u3, u4, t0.2.2.1.2, t0.2.2.2.2.1.2.2.2) t0.2.2.2.2.2.1 t0.2.2.2.2.2.2.1 t0.2.2.2.2.2.2.2.1 t0.2.2.2.2.2.2.2.2.1 t0.2.2.2.2.2.2.2.2.2.1 t0.2.2.2.2.2.2.2.2.2.2.1 t0.2.2.2.2.2.2.2.2.2.2.2.1 t0.2.2.2.2.2.2.2.2.2.2.2.2) C hW fpX9_216 9 rfl rfl (Nat.le_of_ble_eq_true rfl) rfl dX9_image_49 (fun H locs hW => ?_)
    refine lv_aload_n hx hb dX9_image_52 rfl (lv_at hl 0 rfl) ?_
    refine zk_get C hW fgX9_40 0 rfl rfl dX9_image_53 ?_
    refine lv_aload_n hx hb dX9_image_56 rfl (lv_at hl 0 rfl) ?_
    refine zk_get C hW fgX9_101 0 rfl rfl dX9_image_57 ?_
    refine zk_putI (W1 := wX9 G q t0.1 t0.2.1 t0.2.2.1 t0.2.2.2.1 (u3, u4, t0.2.2.1.2, t0.2.2.2.2.2.2.2.2.2.2.1, t0.2.2.2.2.1.2.2.2.2) t0.2.2.2.2.2.1 t0.2.2.2.2.2.2.1 t0.2.2.2.2.2.2.2.1 t0.2.2.2.2.2.2.2.2.1 t0.2.2.2.2.2.2.2.2.2.1 t0.2.2.2.2.2.2.2.2.2.2.1 t0.2.2.2.2.2.2.2.2.2.2.2.1 t0.2.2.2.2.2.2.2.2.2.2.2.2) C hW fpX9_219 9 rfl rfl (Nat.le_of_ble_eq_true rfl) rfl dX9_image_60 (fun H locs hW => ?_)
    refine lv_aload_n hx hb dX9_image_63 rfl (lv_at hl 0 rfl) ?_
    refine zk_get C hW fgX9_40 0 rfl rfl dX9_image_64 ?_
    refine lv_iconst (v := 1) hx hb dX9_image_67 (by decide) ?_
    refine zk_putZ (W1 := wX9 G q t0.1 t0.2.1 t0.2.2.1 t0.2.2.2.1 (u3, u4, t0.2.2.1.2, t0.2.2.2.2.2.2.2.2.2.2.1, true) t0.2.2.2.2.2.1 t0.2.2.2.2.2.2.1 t0.2.2.2.2.2.2.2.1 t0.2.2.2.2.2.2.2.2.1 t0.2.2.2.2.2.2.2.2.2.1 t0.2.2.2.2.2.2.2.2.2.2.1 t0.2.2.2.2.2.2.2.2.2.2.2.1 t0.2.2.2.2.2.2.2.2.2.2.2.2) C hW fpX9_104 9 true rfl rfl (Nat.le_of_ble_eq_true rfl) rfl dX9_image_68 (fun H locs hW => ?_)
    refine lv_aload_n hx hb dX9_image_71 rfl (lv_at hl 0 rfl) ?_
    refine zk_get C hW fgX9_19 0 rfl rfl dX9_image_72 ?_
    refine zk_get C hW fgX9_111 3 rfl rfl dX9_image_75 ?_
    obtain rfl := Option.some.inj hf
    exact zk_iret C hW rfl dX9_image_78
  · have hf := ineg c2 hf
    refine lv_bipush (v := (-103)) hx hb dX9_image_7 (by decide) ?_
    obtain rfl := Option.some.inj hf
    exact zk_iret C hW rfl dX9_image_9

set_option maxHeartbeats 4000000 in
set_option maxRecDepth 100000 in
theorem c_X9_restore (l : Launch) (G : GG) (q : Nat → Nat) (t0 : zXS) (out : Int32 × zXS) (hf : f_X9_restore t0 = some out) : CtI G l yX9_restore (Cond.code yX9_restore cX9_restore 1 (some .int) :: WL) (zR 2 43) [.ref (q 0)] (wX9 G q t0.1 t0.2.1 t0.2.2.1 t0.2.2.2.1 t0.2.2.2.2.1 t0.2.2.2.2.2.1 t0.2.2.2.2.2.2.1 t0.2.2.2.2.2.2.2.1 t0.2.2.2.2.2.2.2.2.1 t0.2.2.2.2.2.2.2.2.2.1 t0.2.2.2.2.2.2.2.2.2.2.1 t0.2.2.2.2.2.2.2.2.2.2.2.1 t0.2.2.2.2.2.2.2.2.2.2.2.2) out.1 (wX9 G q out.2.1 out.2.2.1 out.2.2.2.1 out.2.2.2.2.1 out.2.2.2.2.2.1 out.2.2.2.2.2.2.1 out.2.2.2.2.2.2.2.1 out.2.2.2.2.2.2.2.2.1 out.2.2.2.2.2.2.2.2.2.1 out.2.2.2.2.2.2.2.2.2.2.1 out.2.2.2.2.2.2.2.2.2.2.2.1 out.2.2.2.2.2.2.2.2.2.2.2.2.1 out.2.2.2.2.2.2.2.2.2.2.2.2.2) := by
  refine CtI.mk (cc := cX9_restore) (nL := 1) (rt := (some .int)) (own := RX9) (nm := "restore") (by decide) rfl rfl (Nat.le_of_ble_eq_true rfl) ?_
  intro p e s m below meth c A ls C hW hl
  have hx := C.1
  have hb := C.2.1
  have hl : lv_has ls 1 [(0, .ref (q 0))] := hl
  unfold f_X9_restore at hf
  refine lv_aload_n hx hb dX9_restore_0 rfl (lv_at hl 0 rfl) ?_
  refine zk_get C hW fgX9_40 0 rfl rfl dX9_restore_1 ?_
  refine zk_get C hW fgX9_104 9 rfl rfl dX9_restore_4 ?_
  refine lv_if_ne (tgt := 13) hx hb dX9_restore_7 (by decide) (fun c1 => ?_) (fun c1 => ?_)
  · have hf := ineg c1 hf
    refine lv_aload_n hx hb dX9_restore_13 rfl (lv_at hl 0 rfl) ?_
    refine zk_get C hW fgX9_19 0 rfl rfl dX9_restore_14 ?_
    refine lv_aload_n hx hb dX9_restore_17 rfl (lv_at hl 0 rfl) ?_
    refine zk_get C hW fgX9_40 0 rfl rfl dX9_restore_18 ?_
    refine zk_get C hW fgX9_206 9 rfl rfl dX9_restore_21 ?_
    obtain ⟨u2, eu2, hf⟩ := bnd hf
    refine zk_callV (As := [.ref (q 10)]) (rest := []) (W1 := wX9 G q t0.1 u2 t0.2.2.1 t0.2.2.2.1 t0.2.2.2.2.1 t0.2.2.2.2.2.1 t0.2.2.2.2.2.2.1 t0.2.2.2.2.2.2.2.1 t0.2.2.2.2.2.2.2.2.1 t0.2.2.2.2.2.2.2.2.2.1 t0.2.2.2.2.2.2.2.2.2.2.1 t0.2.2.2.2.2.2.2.2.2.2.2.1 t0.2.2.2.2.2.2.2.2.2.2.2.2) C hW hl mvX9_209 (c_X3_copy l G (fun k => q (k + 3)) (fun k => q (k + 10)) t0.2.1 t0.2.2.2.2.1.1 u2 eu2) ⟨(Nat.le_of_ble_eq_true rfl), (Nat.le_of_ble_eq_true rfl)⟩ ⟨rfl, rfl⟩ [3, 4, 10, 11] rfl rfl rfl rfl (Nat.le_of_ble_eq_true rfl) (Nat.le_of_ble_eq_true rfl) rfl dX9_restore_24 ⟨Nat.zero_le _, Nat.zero_le _⟩ (fun H locs hW => ?_)
    refine lv_aload_n hx hb dX9_restore_27 rfl (lv_at hl 0 rfl) ?_
    refine zk_get C hW fgX9_33 0 rfl rfl dX9_restore_28 ?_
    refine lv_aload_n hx hb dX9_restore_31 rfl (lv_at hl 0 rfl) ?_
    refine zk_get C hW fgX9_40 0 rfl rfl dX9_restore_32 ?_
    refine zk_get C hW fgX9_212 9 rfl rfl dX9_restore_35 ?_
    obtain ⟨u3, eu3, hf⟩ := bnd hf
    refine zk_callV (As := [.ref (q 12)]) (rest := []) (W1 := wX9 G q t0.1 u2 t0.2.2.1 u3 t0.2.2.2.2.1 t0.2.2.2.2.2.1 t0.2.2.2.2.2.2.1 t0.2.2.2.2.2.2.2.1 t0.2.2.2.2.2.2.2.2.1 t0.2.2.2.2.2.2.2.2.2.1 t0.2.2.2.2.2.2.2.2.2.2.1 t0.2.2.2.2.2.2.2.2.2.2.2.1 t0.2.2.2.2.2.2.2.2.2.2.2.2) C hW hl mvX9_213 (c_X7_copy l G (fun k => q (k + 7)) (fun k => q (k + 12)) t0.2.2.2.1 t0.2.2.2.2.1.2.1 u3 eu3) ⟨(Nat.le_of_ble_eq_true rfl), (Nat.le_of_ble_eq_true rfl)⟩ ⟨rfl, rfl⟩ [7, 8, 12, 13] rfl rfl rfl rfl (Nat.le_of_ble_eq_true rfl) (Nat.le_of_ble_eq_true rfl) rfl dX9_restore_38 ⟨Nat.zero_le _, Nat.zero_le _⟩ (fun H locs hW => ?_)
    refine lv_aload_n hx hb dX9_restore_41 rfl (lv_at hl 0 rfl) ?_
    refine zk_get C hW fgX9_26 0 rfl rfl dX9_restore_42 ?_
    refine lv_aload_n hx hb dX9_restore_45 rfl (lv_at hl 0 rfl) ?_
    refine zk_get C hW fgX9_40 0 rfl rfl dX9_restore_46 ?_
    refine zk_get C hW fgX9_216 9 rfl rfl dX9_restore_49 ?_
    refine zk_putI (W1 := wX9 G q t0.1 u2 (t0.2.2.1.1, t0.2.2.2.2.1.2.2.1) u3 t0.2.2.2.2.1 t0.2.2.2.2.2.1 t0.2.2.2.2.2.2.1 t0.2.2.2.2.2.2.2.1 t0.2.2.2.2.2.2.2.2.1 t0.2.2.2.2.2.2.2.2.2.1 t0.2.2.2.2.2.2.2.2.2.2.1 t0.2.2.2.2.2.2.2.2.2.2.2.1 t0.2.2.2.2.2.2.2.2.2.2.2.2) C hW fpX9_99 5 rfl rfl (Nat.le_of_ble_eq_true rfl) rfl dX9_restore_52 (fun H locs hW => ?_)
    refine lv_aload_n hx hb dX9_restore_55 rfl (lv_at hl 0 rfl) ?_
    refine lv_aload_n hx hb dX9_restore_56 rfl (lv_at hl 0 rfl) ?_
    refine zk_get C hW fgX9_40 0 rfl rfl dX9_restore_57 ?_
    refine zk_get C hW fgX9_219 9 rfl rfl dX9_restore_60 ?_
    refine zk_putI (W1 := wX9 G q t0.1 u2 (t0.2.2.1.1, t0.2.2.2.2.1.2.2.1) u3 t0.2.2.2.2.1 t0.2.2.2.2.2.1 t0.2.2.2.2.2.2.1 t0.2.2.2.2.2.2.2.1 t0.2.2.2.2.2.2.2.2.1 t0.2.2.2.2.2.2.2.2.2.1 t0.2.2.2.2.1.2.2.2.1 t0.2.2.2.2.2.2.2.2.2.2.2.1 t0.2.2.2.2.2.2.2.2.2.2.2.2) C hW fpX9_101 0 rfl rfl (Nat.le_of_ble_eq_true rfl) rfl dX9_restore_63 (fun H locs hW => ?_)
    refine lv_aload_n hx hb dX9_restore_66 rfl (lv_at hl 0 rfl) ?_
    refine zk_get C hW fgX9_19 0 rfl rfl dX9_restore_67 ?_
    refine zk_get C hW fgX9_111 3 rfl rfl dX9_restore_70 ?_
    obtain rfl := Option.some.inj hf
    exact zk_iret C hW rfl dX9_restore_73
  · have hf := ipos c1 hf
    refine lv_bipush (v := (-103)) hx hb dX9_restore_10 (by decide) ?_
    obtain rfl := Option.some.inj hf
    exact zk_iret C hW rfl dX9_restore_12

set_option maxHeartbeats 4000000 in
set_option maxRecDepth 100000 in
theorem w_X9_howManyShut_4 {p : Program} {e : Env} {s : State} {m : MethodId} {args : Array Value} {below : List Frame} {meth : Method} {c : Code} {A : Nat → Prop} (l : Launch) (G : GG) (q : Nat → Nat) (s0_0 : zPG) (s0_1 : zLT) (s0_2 : zLS) (s0_3 : zTD) (s0_4 : zIM) (s0_6 : zWR) (s0_7 : zEN) (s0_8 : zDY) (s0_9 : (Nat → Int32)) (s0_10 : Int32) (s0_11 : Int32) (s0_12 : Int32) (out : Int32 × zXS) (C : CX p s m args meth c cX9_howManyShut 3 RX9 (some .int) "howManyShut") {K : Int32 → Int32 → zRD → Option (Int32 × zXS)} (hK : ∀ (v1 : Int32) (v2 : Int32) (s0_5 : zRD) , K v1 v2 s0_5 = some out → ∀ (H : Heap) (locs : List Loc) (ls : Array Slot), KW G A s (wX9 G q s0_0 s0_1 s0_2 s0_3 s0_4 s0_5 s0_6 s0_7 s0_8 s0_9 s0_10 s0_11 s0_12) H locs → lv_has ls 3 [(1, .int v1)] → W p l e (zR 4 89) s m args below meth c H locs 0 0 (QI G A out.1 (wX9 G q out.2.1 out.2.2.1 out.2.2.2.1 out.2.2.2.2.1 out.2.2.2.2.2.1 out.2.2.2.2.2.2.1 out.2.2.2.2.2.2.2.1 out.2.2.2.2.2.2.2.2.1 out.2.2.2.2.2.2.2.2.2.1 out.2.2.2.2.2.2.2.2.2.2.1 out.2.2.2.2.2.2.2.2.2.2.2.1 out.2.2.2.2.2.2.2.2.2.2.2.2.1 out.2.2.2.2.2.2.2.2.2.2.2.2.2) below args s) (F0 m 54 ls [])) :
    ∀ (n : Nat) (v1 : Int32) (v2 : Int32) (s0_5 : zRD) , lp_X9_howManyShut_4 s0_1 s0_2 K n v1 v2 s0_5 = some out → ∀ (H : Heap) (locs : List Loc) (ls : Array Slot), KW G A s (wX9 G q s0_0 s0_1 s0_2 s0_3 s0_4 s0_5 s0_6 s0_7 s0_8 s0_9 s0_10 s0_11 s0_12) H locs → lv_has ls 3 [(0, .ref (q 0)), (1, .int v1), (2, .int v2)] → W p l e (zR 4 89) s m args below meth c H locs 0 0 (QI G A out.1 (wX9 G q out.2.1 out.2.2.1 out.2.2.2.1 out.2.2.2.2.1 out.2.2.2.2.2.1 out.2.2.2.2.2.2.1 out.2.2.2.2.2.2.2.1 out.2.2.2.2.2.2.2.2.1 out.2.2.2.2.2.2.2.2.2.1 out.2.2.2.2.2.2.2.2.2.2.1 out.2.2.2.2.2.2.2.2.2.2.2.1 out.2.2.2.2.2.2.2.2.2.2.2.2.1 out.2.2.2.2.2.2.2.2.2.2.2.2.2) below args s) (F0 m 4 ls []) := by
  have hx := C.1
  have hb := C.2.1
  intro n
  induction n with
  | zero => intro v1 v2 s0_5 hf; exact nomatch (show (none : Option (Int32 × zXS)) = some out from hf)
  | succ n ih =>
    intro v1 v2 s0_5 hf H locs ls hW hl
    rw [lp_X9_howManyShut_4] at hf
    refine lv_iload_n hx hb dX9_howManyShut_4 rfl (lv_at hl 2 rfl) ?_
    refine lv_aload_n hx hb dX9_howManyShut_5 rfl (lv_at hl 0 rfl) ?_
    refine zk_get C hW fgX9_26 0 rfl rfl dX9_howManyShut_6 ?_
    refine zk_get C hW fgX9_99 5 rfl rfl dX9_howManyShut_9 ?_
    refine lv_icmp_ge (tgt := 54) hx hb dX9_howManyShut_12 (by decide) (fun c1 => ?_) (fun c1 => ?_)
    · have hf := ipos c1 hf
      exact hK v1 v2 s0_5 hf _ _ _ hW (lv_sub hl [1] rfl)
    · have hf := ineg c1 hf
      refine lv_aload_n hx hb dX9_howManyShut_15 rfl (lv_at hl 0 rfl) ?_
      refine zk_get C hW fgX9_47 0 rfl rfl dX9_howManyShut_16 ?_
      refine lv_aload_n hx hb dX9_howManyShut_19 rfl (lv_at hl 0 rfl) ?_
      refine zk_get C hW fgX9_26 0 rfl rfl dX9_howManyShut_20 ?_
      refine lv_iload_n hx hb dX9_howManyShut_23 rfl (lv_at hl 2 rfl) ?_
      obtain ⟨u2, eu2, hf⟩ := bnd hf
      refine zk_callI (As := [.int v2]) (rest := [.ref (q 14)]) (W1 := wX9 G q s0_0 s0_1 s0_2 s0_3 s0_4 s0_5 s0_6 s0_7 s0_8 s0_9 s0_10 s0_11 s0_12) C hW hl mvX9_148 (c_X4_kindOf l G (fun k => q (k + 5)) s0_2 v2 u2 eu2) ⟨(Nat.le_of_ble_eq_true rfl), (Nat.le_of_ble_eq_true rfl)⟩ ⟨rfl, rfl⟩ [5, 6] rfl rfl rfl rfl (Nat.le_of_ble_eq_true rfl) (Nat.le_of_ble_eq_true rfl) rfl dX9_howManyShut_24 ⟨Nat.zero_le _, Nat.zero_le _⟩ (fun H locs hW => ?_)
      refine lv_aload_n hx hb dX9_howManyShut_27 rfl (lv_at hl 0 rfl) ?_
      refine zk_get C hW fgX9_19 0 rfl rfl dX9_howManyShut_28 ?_
      refine lv_iconst (v := 0) hx hb dX9_howManyShut_31 (by decide) ?_
      obtain ⟨u3, eu3, hf⟩ := bnd hf
      refine zk_callV (As := [.int u2, .ref (q 3), .int (bI false)]) (rest := []) (W1 := wX9 G q s0_0 s0_1 s0_2 s0_3 s0_4 u3 s0_6 s0_7 s0_8 s0_9 s0_10 s0_11 s0_12) C hW hl mvX9_151 (c_X6_readTo l G (fun k => q (k + 14)) (fun k => q (k + 3)) s0_5 u2 s0_1 false u3 eu3) ⟨(Nat.le_of_ble_eq_true rfl), (Nat.le_of_ble_eq_true rfl)⟩ ⟨rfl, rfl⟩ [14, 3, 4] rfl rfl rfl rfl (Nat.le_of_ble_eq_true rfl) (Nat.le_of_ble_eq_true rfl) rfl dX9_howManyShut_32 ⟨Nat.zero_le _, Nat.zero_le _⟩ (fun H locs hW => ?_)
      refine lv_aload_n hx hb dX9_howManyShut_35 rfl (lv_at hl 0 rfl) ?_
      refine zk_get C hW fgX9_47 0 rfl rfl dX9_howManyShut_36 ?_
      refine zk_get C hW fgX9_158 14 rfl rfl dX9_howManyShut_39 ?_
      refine lv_if_eq (tgt := 48) hx hb dX9_howManyShut_42 (by decide) (fun c4 => ?_) (fun c4 => ?_)
      · have hf := ipos c4 hf
        refine lv_iinc (v := (v2 + 1)) (lv' := [(2, .int (v2 + 1)), (0, .ref (q 0)), (1, .int v1)]) hx hb dX9_howManyShut_48 hl (k := 2) rfl rfl (by decide) rfl (fun ls hl => ?_)
        refine lv_goto (tgt := 4) hx hb dX9_howManyShut_51 (by decide) ?_
        exact ih v1 (v2 + 1) u3 hf _ _ _ hW (lv_sub hl [1, 2, 0] rfl)
      · have hf := ineg c4 hf
        refine lv_iinc (v := (v1 + 1)) (lv' := [(1, .int (v1 + 1)), (0, .ref (q 0)), (2, .int v2)]) hx hb dX9_howManyShut_45 hl (k := 1) rfl rfl (by decide) rfl (fun ls hl => ?_)
        refine lv_iinc (v := (v2 + 1)) (lv' := [(2, .int (v2 + 1)), (1, .int (v1 + 1)), (0, .ref (q 0))]) hx hb dX9_howManyShut_48 hl (k := 2) rfl rfl (by decide) rfl (fun ls hl => ?_)
        refine lv_goto (tgt := 4) hx hb dX9_howManyShut_51 (by decide) ?_
        exact ih (v1 + 1) (v2 + 1) u3 hf _ _ _ hW (lv_sub hl [2, 1, 0] rfl)
set_option maxHeartbeats 4000000 in
set_option maxRecDepth 100000 in
theorem c_X9_howManyShut (l : Launch) (G : GG) (q : Nat → Nat) (t0 : zXS) (out : Int32 × zXS) (hf : f_X9_howManyShut t0 = some out) : CtI G l yX9_howManyShut (Cond.code yX9_howManyShut cX9_howManyShut 3 (some .int) :: WL) (zR 4 89) [.ref (q 0)] (wX9 G q t0.1 t0.2.1 t0.2.2.1 t0.2.2.2.1 t0.2.2.2.2.1 t0.2.2.2.2.2.1 t0.2.2.2.2.2.2.1 t0.2.2.2.2.2.2.2.1 t0.2.2.2.2.2.2.2.2.1 t0.2.2.2.2.2.2.2.2.2.1 t0.2.2.2.2.2.2.2.2.2.2.1 t0.2.2.2.2.2.2.2.2.2.2.2.1 t0.2.2.2.2.2.2.2.2.2.2.2.2) out.1 (wX9 G q out.2.1 out.2.2.1 out.2.2.2.1 out.2.2.2.2.1 out.2.2.2.2.2.1 out.2.2.2.2.2.2.1 out.2.2.2.2.2.2.2.1 out.2.2.2.2.2.2.2.2.1 out.2.2.2.2.2.2.2.2.2.1 out.2.2.2.2.2.2.2.2.2.2.1 out.2.2.2.2.2.2.2.2.2.2.2.1 out.2.2.2.2.2.2.2.2.2.2.2.2.1 out.2.2.2.2.2.2.2.2.2.2.2.2.2) := by
  refine CtI.mk (cc := cX9_howManyShut) (nL := 3) (rt := (some .int)) (own := RX9) (nm := "howManyShut") (by decide) rfl rfl (Nat.le_of_ble_eq_true rfl) ?_
  intro p e s m below meth c A ls C hW hl
  have hx := C.1
  have hb := C.2.1
  have hl : lv_has ls 3 [(0, .ref (q 0))] := hl
  unfold f_X9_howManyShut at hf
  refine lv_iconst (v := 0) hx hb dX9_howManyShut_0 (by decide) ?_
  refine lv_istore_n (lv' := [(1, .int 0), (0, .ref (q 0))]) hx hb dX9_howManyShut_1 rfl hl (by decide) rfl (fun ls hl => ?_)
  refine lv_iconst (v := 0) hx hb dX9_howManyShut_2 (by decide) ?_
  refine lv_istore_n (lv' := [(2, .int 0), (1, .int 0), (0, .ref (q 0))]) hx hb dX9_howManyShut_3 rfl hl (by decide) rfl (fun ls hl => ?_)
  refine w_X9_howManyShut_4 l G q t0.1 t0.2.1 t0.2.2.1 t0.2.2.2.1 t0.2.2.2.2.1 t0.2.2.2.2.2.2.1 t0.2.2.2.2.2.2.2.1 t0.2.2.2.2.2.2.2.2.1 t0.2.2.2.2.2.2.2.2.2.1 t0.2.2.2.2.2.2.2.2.2.2.1 t0.2.2.2.2.2.2.2.2.2.2.2.1 t0.2.2.2.2.2.2.2.2.2.2.2.2 out C (fun w5_v1 w5_v2 w5_s0_5 hf H locs ls hW hl => ?_) FU 0 0 t0.2.2.2.2.2.1 hf _ _ _ hW (lv_sub hl [2, 1, 0] rfl)
  refine lv_iload_n hx hb dX9_howManyShut_54 rfl (lv_at hl 0 rfl) ?_
  obtain rfl := Option.some.inj hf
  exact zk_iret C hW rfl dX9_howManyShut_55

set_option maxHeartbeats 4000000 in
set_option maxRecDepth 100000 in
theorem c_X9_count (l : Launch) (G : GG) (q : Nat → Nat) (t0 : zXS) (a0 : Int32) (out : Int32 × zXS) (hf : f_X9_count t0 a0 = some out) : CtI G l yX9_count (Cond.code yX9_count cX9_count 2 (some .int) :: WL) (zR 5 111) [.ref (q 0), .int a0] (wX9 G q t0.1 t0.2.1 t0.2.2.1 t0.2.2.2.1 t0.2.2.2.2.1 t0.2.2.2.2.2.1 t0.2.2.2.2.2.2.1 t0.2.2.2.2.2.2.2.1 t0.2.2.2.2.2.2.2.2.1 t0.2.2.2.2.2.2.2.2.2.1 t0.2.2.2.2.2.2.2.2.2.2.1 t0.2.2.2.2.2.2.2.2.2.2.2.1 t0.2.2.2.2.2.2.2.2.2.2.2.2) out.1 (wX9 G q out.2.1 out.2.2.1 out.2.2.2.1 out.2.2.2.2.1 out.2.2.2.2.2.1 out.2.2.2.2.2.2.1 out.2.2.2.2.2.2.2.1 out.2.2.2.2.2.2.2.2.1 out.2.2.2.2.2.2.2.2.2.1 out.2.2.2.2.2.2.2.2.2.2.1 out.2.2.2.2.2.2.2.2.2.2.2.1 out.2.2.2.2.2.2.2.2.2.2.2.2.1 out.2.2.2.2.2.2.2.2.2.2.2.2.2) := by
  refine CtI.mk (cc := cX9_count) (nL := 2) (rt := (some .int)) (own := RX9) (nm := "count") (by decide) rfl rfl (Nat.le_of_ble_eq_true rfl) ?_
  intro p e s m below meth c A ls C hW hl
  have hx := C.1
  have hb := C.2.1
  have hl : lv_has ls 2 [(0, .ref (q 0)), (1, .int a0)] := hl
  unfold f_X9_count at hf
  refine lv_iload_n hx hb dX9_count_0 rfl (lv_at hl 1 rfl) ?_
  by_cases e1 : a0 = 0
  · have hf := ipos e1 hf
    refine lv_tableIn (tgt := 52) (off := 51) hx hb dX9_count_1 (by rw [e1]; decide) (by rw [e1]; decide) (by rw [e1]; rfl) (by decide) ?_
    refine lv_aload_n hx hb dX9_count_52 rfl (lv_at hl 0 rfl) ?_
    refine zk_get C hW fgX9_19 0 rfl rfl dX9_count_53 ?_
    refine zk_get C hW fgX9_111 3 rfl rfl dX9_count_56 ?_
    obtain rfl := Option.some.inj hf
    exact zk_iret C hW rfl dX9_count_59
  have hf := ineg e1 hf
  by_cases e2 : a0 = 1
  · have hf := ipos e2 hf
    refine lv_tableIn (tgt := 60) (off := 59) hx hb dX9_count_1 (by rw [e2]; decide) (by rw [e2]; decide) (by rw [e2]; rfl) (by decide) ?_
    refine lv_aload_n hx hb dX9_count_60 rfl (lv_at hl 0 rfl) ?_
    refine zk_get C hW fgX9_19 0 rfl rfl dX9_count_61 ?_
    refine zk_get C hW fgX9_140 3 rfl rfl dX9_count_64 ?_
    obtain rfl := Option.some.inj hf
    exact zk_iret C hW rfl dX9_count_67
  have hf := ineg e2 hf
  by_cases e3 : a0 = 2
  · have hf := ipos e3 hf
    refine lv_tableIn (tgt := 68) (off := 67) hx hb dX9_count_1 (by rw [e3]; decide) (by rw [e3]; decide) (by rw [e3]; rfl) (by decide) ?_
    refine lv_aload_n hx hb dX9_count_68 rfl (lv_at hl 0 rfl) ?_
    refine zk_get C hW fgX9_26 0 rfl rfl dX9_count_69 ?_
    refine zk_get C hW fgX9_99 5 rfl rfl dX9_count_72 ?_
    obtain rfl := Option.some.inj hf
    exact zk_iret C hW rfl dX9_count_75
  have hf := ineg e3 hf
  by_cases e4 : a0 = 3
  · have hf := ipos e4 hf
    refine lv_tableIn (tgt := 76) (off := 75) hx hb dX9_count_1 (by rw [e4]; decide) (by rw [e4]; decide) (by rw [e4]; rfl) (by decide) ?_
    refine lv_aload_n hx hb dX9_count_76 rfl (lv_at hl 0 rfl) ?_
    obtain ⟨u5, eu5, hf⟩ := bnd hf
    refine zk_callBI (As := []) (rest := []) (W1 := wX9 G q u5.2.1 u5.2.2.1 u5.2.2.2.1 u5.2.2.2.2.1 u5.2.2.2.2.2.1 u5.2.2.2.2.2.2.1 u5.2.2.2.2.2.2.2.1 u5.2.2.2.2.2.2.2.2.1 u5.2.2.2.2.2.2.2.2.2.1 u5.2.2.2.2.2.2.2.2.2.2.1 u5.2.2.2.2.2.2.2.2.2.2.2.1 u5.2.2.2.2.2.2.2.2.2.2.2.2.1 u5.2.2.2.2.2.2.2.2.2.2.2.2.2) C hW hl mvX9_220 (c_X9_howManyShut l G q t0 u5 eu5) ⟨(Nat.le_of_ble_eq_true rfl), (Nat.le_of_ble_eq_true rfl)⟩ ⟨rfl, rfl⟩ ([]) ([]) zE1 rfl rfl (Nat.le_of_ble_eq_true rfl) zE1r dX9_count_77 ⟨Nat.zero_le _, Nat.zero_le _⟩ (fun H locs hW => ?_)
    obtain rfl := Option.some.inj hf
    exact zk_iret C hW rfl dX9_count_80
  have hf := ineg e4 hf
  by_cases e6 : a0 = 4
  · have hf := ipos e6 hf
    refine lv_tableIn (tgt := 81) (off := 80) hx hb dX9_count_1 (by rw [e6]; decide) (by rw [e6]; decide) (by rw [e6]; rfl) (by decide) ?_
    refine lv_aload_n hx hb dX9_count_81 rfl (lv_at hl 0 rfl) ?_
    refine zk_get C hW fgX9_101 0 rfl rfl dX9_count_82 ?_
    obtain rfl := Option.some.inj hf
    exact zk_iret C hW rfl dX9_count_85
  have hf := ineg e6 hf
  by_cases e7 : a0 = 5
  · have hf := ipos e7 hf
    refine lv_tableIn (tgt := 86) (off := 85) hx hb dX9_count_1 (by rw [e7]; decide) (by rw [e7]; decide) (by rw [e7]; rfl) (by decide) ?_
    refine lv_aload_n hx hb dX9_count_86 rfl (lv_at hl 0 rfl) ?_
    refine zk_get C hW fgX9_33 0 rfl rfl dX9_count_87 ?_
    refine zk_get C hW fgX9_182 7 rfl rfl dX9_count_90 ?_
    obtain rfl := Option.some.inj hf
    exact zk_iret C hW rfl dX9_count_93
  have hf := ineg e7 hf
  by_cases e8 : a0 = 6
  · have hf := ipos e8 hf
    refine lv_tableIn (tgt := 94) (off := 93) hx hb dX9_count_1 (by rw [e8]; decide) (by rw [e8]; decide) (by rw [e8]; rfl) (by decide) ?_
    refine lv_aload_n hx hb dX9_count_94 rfl (lv_at hl 0 rfl) ?_
    refine zk_get C hW fgX9_10 0 rfl rfl dX9_count_95 ?_
    refine zk_get C hW fgX9_76 1 rfl rfl dX9_count_98 ?_
    obtain rfl := Option.some.inj hf
    exact zk_iret C hW rfl dX9_count_101
  have hf := ineg e8 hf
  by_cases e9 : a0 = 7
  · have hf := ipos e9 hf
    refine lv_tableIn (tgt := 102) (off := 101) hx hb dX9_count_1 (by rw [e9]; decide) (by rw [e9]; decide) (by rw [e9]; rfl) (by decide) ?_
    refine lv_aload_n hx hb dX9_count_102 rfl (lv_at hl 0 rfl) ?_
    refine zk_get C hW fgX9_108 0 rfl rfl dX9_count_103 ?_
    obtain rfl := Option.some.inj hf
    exact zk_iret C hW rfl dX9_count_106
  have hf := ineg e9 hf
  by_cases e10 : a0 = 8
  · have hf := ipos e10 hf
    refine lv_tableIn (tgt := 107) (off := 106) hx hb dX9_count_1 (by rw [e10]; decide) (by rw [e10]; decide) (by rw [e10]; rfl) (by decide) ?_
    refine lv_aload_n hx hb dX9_count_107 rfl (lv_at hl 0 rfl) ?_
    refine zk_get C hW fgX9_168 0 rfl rfl dX9_count_108 ?_
    obtain rfl := Option.some.inj hf
    exact zk_iret C hW rfl dX9_count_111
  have hf := ineg e10 hf
  refine lv_tableOut (tgt := 112) hx hb dX9_count_1 (by have he1 := lv_neT e1 (a := 0) rfl; have he2 := lv_neT e2 (a := 1) rfl; have he3 := lv_neT e3 (a := 2) rfl; have he4 := lv_neT e4 (a := 3) rfl; have he6 := lv_neT e6 (a := 4) rfl; have he7 := lv_neT e7 (a := 5) rfl; have he8 := lv_neT e8 (a := 6) rfl; have he9 := lv_neT e9 (a := 7) rfl; have he10 := lv_neT e10 (a := 8) rfl; omega) (by decide) ?_
  refine lv_bipush (v := (-102)) hx hb dX9_count_112 (by decide) ?_
  obtain rfl := Option.some.inj hf
  exact zk_iret C hW rfl dX9_count_114

set_option maxHeartbeats 4000000 in
set_option maxRecDepth 100000 in
theorem w_X9_digest_20 {p : Program} {e : Env} {s : State} {m : MethodId} {args : Array Value} {below : List Frame} {meth : Method} {c : Code} {A : Nat → Prop} (l : Launch) (G : GG) (q : Nat → Nat) (v3 : Int32) (out : Int64 × zXS) (C : CX p s m args meth c cX9_digest 5 RX9 (some .long) "digest") {K : Int64 → Int32 → zPG → zLT → zLS → zTD → zIM → zRD → zWR → zEN → zDY → (Nat → Int32) → Int32 → Int32 → Int32 → Option (Int64 × zXS)} (hK : ∀ (v1 : Int64) (v4 : Int32) (s0_0 : zPG) (s0_1 : zLT) (s0_2 : zLS) (s0_3 : zTD) (s0_4 : zIM) (s0_5 : zRD) (s0_6 : zWR) (s0_7 : zEN) (s0_8 : zDY) (s0_9 : (Nat → Int32)) (s0_10 : Int32) (s0_11 : Int32) (s0_12 : Int32) , K v1 v4 s0_0 s0_1 s0_2 s0_3 s0_4 s0_5 s0_6 s0_7 s0_8 s0_9 s0_10 s0_11 s0_12 = some out → ∀ (H : Heap) (locs : List Loc) (ls : Array Slot), KW G A s (wX9 G q s0_0 s0_1 s0_2 s0_3 s0_4 s0_5 s0_6 s0_7 s0_8 s0_9 s0_10 s0_11 s0_12) H locs → lv_has ls 5 [(0, .ref (q 0)), (1, .long v1), (3, .int v3)] → W p l e (zR 6 135) s m args below meth c H locs 0 0 (QL G A out.1 (wX9 G q out.2.1 out.2.2.1 out.2.2.2.1 out.2.2.2.2.1 out.2.2.2.2.2.1 out.2.2.2.2.2.2.1 out.2.2.2.2.2.2.2.1 out.2.2.2.2.2.2.2.2.1 out.2.2.2.2.2.2.2.2.2.1 out.2.2.2.2.2.2.2.2.2.2.1 out.2.2.2.2.2.2.2.2.2.2.2.1 out.2.2.2.2.2.2.2.2.2.2.2.2.1 out.2.2.2.2.2.2.2.2.2.2.2.2.2) below args s) (F0 m 47 ls [])) :
    ∀ (n : Nat) (v1 : Int64) (v4 : Int32) (s0_0 : zPG) (s0_1 : zLT) (s0_2 : zLS) (s0_3 : zTD) (s0_4 : zIM) (s0_5 : zRD) (s0_6 : zWR) (s0_7 : zEN) (s0_8 : zDY) (s0_9 : (Nat → Int32)) (s0_10 : Int32) (s0_11 : Int32) (s0_12 : Int32) , lp_X9_digest_20 v3 K n v1 v4 s0_0 s0_1 s0_2 s0_3 s0_4 s0_5 s0_6 s0_7 s0_8 s0_9 s0_10 s0_11 s0_12 = some out → ∀ (H : Heap) (locs : List Loc) (ls : Array Slot), KW G A s (wX9 G q s0_0 s0_1 s0_2 s0_3 s0_4 s0_5 s0_6 s0_7 s0_8 s0_9 s0_10 s0_11 s0_12) H locs → lv_has ls 5 [(0, .ref (q 0)), (1, .long v1), (3, .int v3), (4, .int v4)] → W p l e (zR 6 135) s m args below meth c H locs 0 0 (QL G A out.1 (wX9 G q out.2.1 out.2.2.1 out.2.2.2.1 out.2.2.2.2.1 out.2.2.2.2.2.1 out.2.2.2.2.2.2.1 out.2.2.2.2.2.2.2.1 out.2.2.2.2.2.2.2.2.1 out.2.2.2.2.2.2.2.2.2.1 out.2.2.2.2.2.2.2.2.2.2.1 out.2.2.2.2.2.2.2.2.2.2.2.1 out.2.2.2.2.2.2.2.2.2.2.2.2.1 out.2.2.2.2.2.2.2.2.2.2.2.2.2) below args s) (F0 m 20 ls []) := by
  have hx := C.1
  have hb := C.2.1
  intro n
  induction n with
  | zero => intro v1 v4 s0_0 s0_1 s0_2 s0_3 s0_4 s0_5 s0_6 s0_7 s0_8 s0_9 s0_10 s0_11 s0_12 hf; exact nomatch (show (none : Option (Int64 × zXS)) = some out from hf)
  | succ n ih =>
    intro v1 v4 s0_0 s0_1 s0_2 s0_3 s0_4 s0_5 s0_6 s0_7 s0_8 s0_9 s0_10 s0_11 s0_12 hf H locs ls hW hl
    rw [lp_X9_digest_20] at hf
    refine lv_iload hx hb dX9_digest_20 (lv_at hl 3 rfl) ?_
    refine lv_iconst (v := 2) hx hb dX9_digest_22 (by decide) ?_
    refine lv_icmp_gt (tgt := 47) hx hb dX9_digest_23 (by decide) (fun c2 => ?_) (fun c2 => ?_)
    · have hf := ipos c2 hf
      exact hK v1 v4 s0_0 s0_1 s0_2 s0_3 s0_4 s0_5 s0_6 s0_7 s0_8 s0_9 s0_10 s0_11 s0_12 hf _ _ _ hW (lv_sub hl [0, 1, 2] rfl)
    · have hf := ineg c2 hf
      refine lv_ldc2 hx hb C.2.2.2.1 (C.2.2.2.2.1 _ klX9_225) dX9_digest_26 ?_
      refine lv_lload_n hx hb dX9_digest_29 rfl (lv_at hl 1 rfl) ?_
      refine lv_lmul hx hb dX9_digest_30 ?_
      refine lv_aload_n hx hb dX9_digest_31 rfl (lv_at hl 0 rfl) ?_
      refine lv_iload_n hx hb dX9_digest_32 rfl (lv_at hl 2 rfl) ?_
      refine lv_iload hx hb dX9_digest_33 (lv_at hl 3 rfl) ?_
      obtain ⟨u3, eu3, hf⟩ := bnd hf
      refine zk_callBI (As := [.int v3, .int v4]) (rest := [.long (31 * v1)]) (W1 := wX9 G q u3.2.1 u3.2.2.1 u3.2.2.2.1 u3.2.2.2.2.1 u3.2.2.2.2.2.1 u3.2.2.2.2.2.2.1 u3.2.2.2.2.2.2.2.1 u3.2.2.2.2.2.2.2.2.1 u3.2.2.2.2.2.2.2.2.2.1 u3.2.2.2.2.2.2.2.2.2.2.1 u3.2.2.2.2.2.2.2.2.2.2.2.1 u3.2.2.2.2.2.2.2.2.2.2.2.2.1 u3.2.2.2.2.2.2.2.2.2.2.2.2.2) C hW hl mvX9_227 (c_X9_word l G q (s0_0, s0_1, s0_2, s0_3, s0_4, s0_5, s0_6, s0_7, s0_8, s0_9, s0_10, s0_11, s0_12) v3 v4 u3 eu3) ⟨(Nat.le_of_ble_eq_true rfl), (Nat.le_of_ble_eq_true rfl)⟩ ⟨rfl, rfl⟩ ([]) ([]) zE1 rfl rfl (Nat.le_of_ble_eq_true rfl) zE1r dX9_digest_35 ⟨Nat.zero_le _, Nat.zero_le _⟩ (fun H locs hW => ?_)
      refine lv_i2l (v := (Int32.toInt64 u3.1)) hx hb dX9_digest_38 rfl ?_
      refine lv_ladd hx hb dX9_digest_39 ?_
      refine lv_lstore_n (lv' := [(1, .long ((31 * v1) + (Int32.toInt64 u3.1))), (0, .ref (q 0)), (3, .int v3), (4, .int v4)]) hx hb dX9_digest_40 rfl hl (by decide) rfl (fun ls hl => ?_)
      refine lv_iinc (v := (v4 + 1)) (lv' := [(4, .int (v4 + 1)), (1, .long ((31 * v1) + (Int32.toInt64 u3.1))), (0, .ref (q 0)), (3, .int v3)]) hx hb dX9_digest_41 hl (k := 3) rfl rfl (by decide) rfl (fun ls hl => ?_)
      refine lv_goto (tgt := 20) hx hb dX9_digest_44 (by decide) ?_
      exact ih ((31 * v1) + (Int32.toInt64 u3.1)) (v4 + 1) u3.2.1 u3.2.2.1 u3.2.2.2.1 u3.2.2.2.2.1 u3.2.2.2.2.2.1 u3.2.2.2.2.2.2.1 u3.2.2.2.2.2.2.2.1 u3.2.2.2.2.2.2.2.2.1 u3.2.2.2.2.2.2.2.2.2.1 u3.2.2.2.2.2.2.2.2.2.2.1 u3.2.2.2.2.2.2.2.2.2.2.2.1 u3.2.2.2.2.2.2.2.2.2.2.2.2.1 u3.2.2.2.2.2.2.2.2.2.2.2.2.2 hf _ _ _ hW (lv_sub hl [2, 1, 3, 0] rfl)
set_option maxHeartbeats 4000000 in
set_option maxRecDepth 100000 in
theorem w_X9_digest_6 {p : Program} {e : Env} {s : State} {m : MethodId} {args : Array Value} {below : List Frame} {meth : Method} {c : Code} {A : Nat → Prop} (l : Launch) (G : GG) (q : Nat → Nat) (out : Int64 × zXS) (C : CX p s m args meth c cX9_digest 5 RX9 (some .long) "digest") {K : Int64 → Int32 → zPG → zLT → zLS → zTD → zIM → zRD → zWR → zEN → zDY → (Nat → Int32) → Int32 → Int32 → Int32 → Option (Int64 × zXS)} (hK : ∀ (v1 : Int64) (v3 : Int32) (s0_0 : zPG) (s0_1 : zLT) (s0_2 : zLS) (s0_3 : zTD) (s0_4 : zIM) (s0_5 : zRD) (s0_6 : zWR) (s0_7 : zEN) (s0_8 : zDY) (s0_9 : (Nat → Int32)) (s0_10 : Int32) (s0_11 : Int32) (s0_12 : Int32) , K v1 v3 s0_0 s0_1 s0_2 s0_3 s0_4 s0_5 s0_6 s0_7 s0_8 s0_9 s0_10 s0_11 s0_12 = some out → ∀ (H : Heap) (locs : List Loc) (ls : Array Slot), KW G A s (wX9 G q s0_0 s0_1 s0_2 s0_3 s0_4 s0_5 s0_6 s0_7 s0_8 s0_9 s0_10 s0_11 s0_12) H locs → lv_has ls 5 [(0, .ref (q 0)), (1, .long v1)] → W p l e (zR 6 135) s m args below meth c H locs 0 0 (QL G A out.1 (wX9 G q out.2.1 out.2.2.1 out.2.2.2.1 out.2.2.2.2.1 out.2.2.2.2.2.1 out.2.2.2.2.2.2.1 out.2.2.2.2.2.2.2.1 out.2.2.2.2.2.2.2.2.1 out.2.2.2.2.2.2.2.2.2.1 out.2.2.2.2.2.2.2.2.2.2.1 out.2.2.2.2.2.2.2.2.2.2.2.1 out.2.2.2.2.2.2.2.2.2.2.2.2.1 out.2.2.2.2.2.2.2.2.2.2.2.2.2) below args s) (F0 m 53 ls [])) :
    ∀ (n : Nat) (v1 : Int64) (v3 : Int32) (s0_0 : zPG) (s0_1 : zLT) (s0_2 : zLS) (s0_3 : zTD) (s0_4 : zIM) (s0_5 : zRD) (s0_6 : zWR) (s0_7 : zEN) (s0_8 : zDY) (s0_9 : (Nat → Int32)) (s0_10 : Int32) (s0_11 : Int32) (s0_12 : Int32) , lp_X9_digest_6  K n v1 v3 s0_0 s0_1 s0_2 s0_3 s0_4 s0_5 s0_6 s0_7 s0_8 s0_9 s0_10 s0_11 s0_12 = some out → ∀ (H : Heap) (locs : List Loc) (ls : Array Slot), KW G A s (wX9 G q s0_0 s0_1 s0_2 s0_3 s0_4 s0_5 s0_6 s0_7 s0_8 s0_9 s0_10 s0_11 s0_12) H locs → lv_has ls 5 [(0, .ref (q 0)), (1, .long v1), (3, .int v3)] → W p l e (zR 6 135) s m args below meth c H locs 0 0 (QL G A out.1 (wX9 G q out.2.1 out.2.2.1 out.2.2.2.1 out.2.2.2.2.1 out.2.2.2.2.2.1 out.2.2.2.2.2.2.1 out.2.2.2.2.2.2.2.1 out.2.2.2.2.2.2.2.2.1 out.2.2.2.2.2.2.2.2.2.1 out.2.2.2.2.2.2.2.2.2.2.1 out.2.2.2.2.2.2.2.2.2.2.2.1 out.2.2.2.2.2.2.2.2.2.2.2.2.1 out.2.2.2.2.2.2.2.2.2.2.2.2.2) below args s) (F0 m 6 ls []) := by
  have hx := C.1
  have hb := C.2.1
  intro n
  induction n with
  | zero => intro v1 v3 s0_0 s0_1 s0_2 s0_3 s0_4 s0_5 s0_6 s0_7 s0_8 s0_9 s0_10 s0_11 s0_12 hf; exact nomatch (show (none : Option (Int64 × zXS)) = some out from hf)
  | succ n ih =>
    intro v1 v3 s0_0 s0_1 s0_2 s0_3 s0_4 s0_5 s0_6 s0_7 s0_8 s0_9 s0_10 s0_11 s0_12 hf H locs ls hW hl
    rw [lp_X9_digest_6] at hf
    refine lv_iload_n hx hb dX9_digest_6 rfl (lv_at hl 2 rfl) ?_
    refine lv_aload_n hx hb dX9_digest_7 rfl (lv_at hl 0 rfl) ?_
    refine zk_get C hW fgX9_19 0 rfl rfl dX9_digest_8 ?_
    refine zk_get C hW fgX9_111 3 rfl rfl dX9_digest_11 ?_
    refine lv_icmp_ge (tgt := 53) hx hb dX9_digest_14 (by decide) (fun c1 => ?_) (fun c1 => ?_)
    · have hf := ipos c1 hf
      exact hK v1 v3 s0_0 s0_1 s0_2 s0_3 s0_4 s0_5 s0_6 s0_7 s0_8 s0_9 s0_10 s0_11 s0_12 hf _ _ _ hW (lv_sub hl [0, 1] rfl)
    · have hf := ineg c1 hf
      refine lv_iconst (v := 0) hx hb dX9_digest_17 (by decide) ?_
      refine lv_istore (lv' := [(4, .int 0), (0, .ref (q 0)), (1, .long v1), (3, .int v3)]) hx hb dX9_digest_18 hl (by decide) rfl (fun ls hl => ?_)
      refine w_X9_digest_20 l G q v3 out C (fun w4_v1 w4_v4 w4_s0_0 w4_s0_1 w4_s0_2 w4_s0_3 w4_s0_4 w4_s0_5 w4_s0_6 w4_s0_7 w4_s0_8 w4_s0_9 w4_s0_10 w4_s0_11 w4_s0_12 hf H locs ls hW hl => ?_) FU v1 0 s0_0 s0_1 s0_2 s0_3 s0_4 s0_5 s0_6 s0_7 s0_8 s0_9 s0_10 s0_11 s0_12 hf _ _ _ hW (lv_sub hl [1, 2, 3, 0] rfl)
      refine lv_iinc (v := (v3 + 1)) (lv' := [(3, .int (v3 + 1)), (0, .ref (q 0)), (1, .long w4_v1)]) hx hb dX9_digest_47 hl (k := 2) rfl rfl (by decide) rfl (fun ls hl => ?_)
      refine lv_goto (tgt := 6) hx hb dX9_digest_50 (by decide) ?_
      exact ih w4_v1 (v3 + 1) w4_s0_0 w4_s0_1 w4_s0_2 w4_s0_3 w4_s0_4 w4_s0_5 w4_s0_6 w4_s0_7 w4_s0_8 w4_s0_9 w4_s0_10 w4_s0_11 w4_s0_12 hf _ _ _ hW (lv_sub hl [1, 2, 0] rfl)
set_option maxHeartbeats 4000000 in
set_option maxRecDepth 100000 in
theorem w_X9_digest_69 {p : Program} {e : Env} {s : State} {m : MethodId} {args : Array Value} {below : List Frame} {meth : Method} {c : Code} {A : Nat → Prop} (l : Launch) (G : GG) (q : Nat → Nat) (v3 : Int32) (out : Int64 × zXS) (C : CX p s m args meth c cX9_digest 5 RX9 (some .long) "digest") {K : Int64 → Int32 → zPG → zLT → zLS → zTD → zIM → zRD → zWR → zEN → zDY → (Nat → Int32) → Int32 → Int32 → Int32 → Option (Int64 × zXS)} (hK : ∀ (v1 : Int64) (v4 : Int32) (s0_0 : zPG) (s0_1 : zLT) (s0_2 : zLS) (s0_3 : zTD) (s0_4 : zIM) (s0_5 : zRD) (s0_6 : zWR) (s0_7 : zEN) (s0_8 : zDY) (s0_9 : (Nat → Int32)) (s0_10 : Int32) (s0_11 : Int32) (s0_12 : Int32) , K v1 v4 s0_0 s0_1 s0_2 s0_3 s0_4 s0_5 s0_6 s0_7 s0_8 s0_9 s0_10 s0_11 s0_12 = some out → ∀ (H : Heap) (locs : List Loc) (ls : Array Slot), KW G A s (wX9 G q s0_0 s0_1 s0_2 s0_3 s0_4 s0_5 s0_6 s0_7 s0_8 s0_9 s0_10 s0_11 s0_12) H locs → lv_has ls 5 [(0, .ref (q 0)), (1, .long v1), (3, .int v3)] → W p l e (zR 6 135) s m args below meth c H locs 0 0 (QL G A out.1 (wX9 G q out.2.1 out.2.2.1 out.2.2.2.1 out.2.2.2.2.1 out.2.2.2.2.2.1 out.2.2.2.2.2.2.1 out.2.2.2.2.2.2.2.1 out.2.2.2.2.2.2.2.2.1 out.2.2.2.2.2.2.2.2.2.1 out.2.2.2.2.2.2.2.2.2.2.1 out.2.2.2.2.2.2.2.2.2.2.2.1 out.2.2.2.2.2.2.2.2.2.2.2.2.1 out.2.2.2.2.2.2.2.2.2.2.2.2.2) below args s) (F0 m 97 ls [])) :
    ∀ (n : Nat) (v1 : Int64) (v4 : Int32) (s0_0 : zPG) (s0_1 : zLT) (s0_2 : zLS) (s0_3 : zTD) (s0_4 : zIM) (s0_5 : zRD) (s0_6 : zWR) (s0_7 : zEN) (s0_8 : zDY) (s0_9 : (Nat → Int32)) (s0_10 : Int32) (s0_11 : Int32) (s0_12 : Int32) , lp_X9_digest_69 v3 K n v1 v4 s0_0 s0_1 s0_2 s0_3 s0_4 s0_5 s0_6 s0_7 s0_8 s0_9 s0_10 s0_11 s0_12 = some out → ∀ (H : Heap) (locs : List Loc) (ls : Array Slot), KW G A s (wX9 G q s0_0 s0_1 s0_2 s0_3 s0_4 s0_5 s0_6 s0_7 s0_8 s0_9 s0_10 s0_11 s0_12) H locs → lv_has ls 5 [(0, .ref (q 0)), (1, .long v1), (3, .int v3), (4, .int v4)] → W p l e (zR 6 135) s m args below meth c H locs 0 0 (QL G A out.1 (wX9 G q out.2.1 out.2.2.1 out.2.2.2.1 out.2.2.2.2.1 out.2.2.2.2.2.1 out.2.2.2.2.2.2.1 out.2.2.2.2.2.2.2.1 out.2.2.2.2.2.2.2.2.1 out.2.2.2.2.2.2.2.2.2.1 out.2.2.2.2.2.2.2.2.2.2.1 out.2.2.2.2.2.2.2.2.2.2.2.1 out.2.2.2.2.2.2.2.2.2.2.2.2.1 out.2.2.2.2.2.2.2.2.2.2.2.2.2) below args s) (F0 m 69 ls []) := by
  have hx := C.1
  have hb := C.2.1
  intro n
  induction n with
  | zero => intro v1 v4 s0_0 s0_1 s0_2 s0_3 s0_4 s0_5 s0_6 s0_7 s0_8 s0_9 s0_10 s0_11 s0_12 hf; exact nomatch (show (none : Option (Int64 × zXS)) = some out from hf)
  | succ n ih =>
    intro v1 v4 s0_0 s0_1 s0_2 s0_3 s0_4 s0_5 s0_6 s0_7 s0_8 s0_9 s0_10 s0_11 s0_12 hf H locs ls hW hl
    rw [lp_X9_digest_69] at hf
    refine lv_iload hx hb dX9_digest_69 (lv_at hl 3 rfl) ?_
    refine lv_bipush (v := 6) hx hb dX9_digest_71 (by decide) ?_
    refine lv_icmp_gt (tgt := 97) hx hb dX9_digest_73 (by decide) (fun c7 => ?_) (fun c7 => ?_)
    · have hf := ipos c7 hf
      exact hK v1 v4 s0_0 s0_1 s0_2 s0_3 s0_4 s0_5 s0_6 s0_7 s0_8 s0_9 s0_10 s0_11 s0_12 hf _ _ _ hW (lv_sub hl [0, 1, 2] rfl)
    · have hf := ineg c7 hf
      refine lv_ldc2 hx hb C.2.2.2.1 (C.2.2.2.2.1 _ klX9_225) dX9_digest_76 ?_
      refine lv_lload_n hx hb dX9_digest_79 rfl (lv_at hl 1 rfl) ?_
      refine lv_lmul hx hb dX9_digest_80 ?_
      refine lv_aload_n hx hb dX9_digest_81 rfl (lv_at hl 0 rfl) ?_
      refine lv_iload_n hx hb dX9_digest_82 rfl (lv_at hl 2 rfl) ?_
      refine lv_iload hx hb dX9_digest_83 (lv_at hl 3 rfl) ?_
      obtain ⟨u8, eu8, hf⟩ := bnd hf
      refine zk_callBI (As := [.int v3, .int v4]) (rest := [.long (31 * v1)]) (W1 := wX9 G q u8.2.1 u8.2.2.1 u8.2.2.2.1 u8.2.2.2.2.1 u8.2.2.2.2.2.1 u8.2.2.2.2.2.2.1 u8.2.2.2.2.2.2.2.1 u8.2.2.2.2.2.2.2.2.1 u8.2.2.2.2.2.2.2.2.2.1 u8.2.2.2.2.2.2.2.2.2.2.1 u8.2.2.2.2.2.2.2.2.2.2.2.1 u8.2.2.2.2.2.2.2.2.2.2.2.2.1 u8.2.2.2.2.2.2.2.2.2.2.2.2.2) C hW hl mvX9_231 (c_X9_about l G q (s0_0, s0_1, s0_2, s0_3, s0_4, s0_5, s0_6, s0_7, s0_8, s0_9, s0_10, s0_11, s0_12) v3 v4 u8 eu8) ⟨(Nat.le_of_ble_eq_true rfl), (Nat.le_of_ble_eq_true rfl)⟩ ⟨rfl, rfl⟩ ([]) ([]) zE1 rfl rfl (Nat.le_of_ble_eq_true rfl) zE1r dX9_digest_85 ⟨Nat.zero_le _, Nat.zero_le _⟩ (fun H locs hW => ?_)
      refine lv_i2l (v := (Int32.toInt64 u8.1)) hx hb dX9_digest_88 rfl ?_
      refine lv_ladd hx hb dX9_digest_89 ?_
      refine lv_lstore_n (lv' := [(1, .long ((31 * v1) + (Int32.toInt64 u8.1))), (0, .ref (q 0)), (3, .int v3), (4, .int v4)]) hx hb dX9_digest_90 rfl hl (by decide) rfl (fun ls hl => ?_)
      refine lv_iinc (v := (v4 + 1)) (lv' := [(4, .int (v4 + 1)), (1, .long ((31 * v1) + (Int32.toInt64 u8.1))), (0, .ref (q 0)), (3, .int v3)]) hx hb dX9_digest_91 hl (k := 3) rfl rfl (by decide) rfl (fun ls hl => ?_)
      refine lv_goto (tgt := 69) hx hb dX9_digest_94 (by decide) ?_
      exact ih ((31 * v1) + (Int32.toInt64 u8.1)) (v4 + 1) u8.2.1 u8.2.2.1 u8.2.2.2.1 u8.2.2.2.2.1 u8.2.2.2.2.2.1 u8.2.2.2.2.2.2.1 u8.2.2.2.2.2.2.2.1 u8.2.2.2.2.2.2.2.2.1 u8.2.2.2.2.2.2.2.2.2.1 u8.2.2.2.2.2.2.2.2.2.2.1 u8.2.2.2.2.2.2.2.2.2.2.2.1 u8.2.2.2.2.2.2.2.2.2.2.2.2.1 u8.2.2.2.2.2.2.2.2.2.2.2.2.2 hf _ _ _ hW (lv_sub hl [2, 1, 3, 0] rfl)
set_option maxHeartbeats 4000000 in
set_option maxRecDepth 100000 in
theorem w_X9_digest_55 {p : Program} {e : Env} {s : State} {m : MethodId} {args : Array Value} {below : List Frame} {meth : Method} {c : Code} {A : Nat → Prop} (l : Launch) (G : GG) (q : Nat → Nat) (out : Int64 × zXS) (C : CX p s m args meth c cX9_digest 5 RX9 (some .long) "digest") {K : Int64 → Int32 → zPG → zLT → zLS → zTD → zIM → zRD → zWR → zEN → zDY → (Nat → Int32) → Int32 → Int32 → Int32 → Option (Int64 × zXS)} (hK : ∀ (v1 : Int64) (v3 : Int32) (s0_0 : zPG) (s0_1 : zLT) (s0_2 : zLS) (s0_3 : zTD) (s0_4 : zIM) (s0_5 : zRD) (s0_6 : zWR) (s0_7 : zEN) (s0_8 : zDY) (s0_9 : (Nat → Int32)) (s0_10 : Int32) (s0_11 : Int32) (s0_12 : Int32) , K v1 v3 s0_0 s0_1 s0_2 s0_3 s0_4 s0_5 s0_6 s0_7 s0_8 s0_9 s0_10 s0_11 s0_12 = some out → ∀ (H : Heap) (locs : List Loc) (ls : Array Slot), KW G A s (wX9 G q s0_0 s0_1 s0_2 s0_3 s0_4 s0_5 s0_6 s0_7 s0_8 s0_9 s0_10 s0_11 s0_12) H locs → lv_has ls 5 [(0, .ref (q 0)), (1, .long v1)] → W p l e (zR 6 135) s m args below meth c H locs 0 0 (QL G A out.1 (wX9 G q out.2.1 out.2.2.1 out.2.2.2.1 out.2.2.2.2.1 out.2.2.2.2.2.1 out.2.2.2.2.2.2.1 out.2.2.2.2.2.2.2.1 out.2.2.2.2.2.2.2.2.1 out.2.2.2.2.2.2.2.2.2.1 out.2.2.2.2.2.2.2.2.2.2.1 out.2.2.2.2.2.2.2.2.2.2.2.1 out.2.2.2.2.2.2.2.2.2.2.2.2.1 out.2.2.2.2.2.2.2.2.2.2.2.2.2) below args s) (F0 m 103 ls [])) :
    ∀ (n : Nat) (v1 : Int64) (v3 : Int32) (s0_0 : zPG) (s0_1 : zLT) (s0_2 : zLS) (s0_3 : zTD) (s0_4 : zIM) (s0_5 : zRD) (s0_6 : zWR) (s0_7 : zEN) (s0_8 : zDY) (s0_9 : (Nat → Int32)) (s0_10 : Int32) (s0_11 : Int32) (s0_12 : Int32) , lp_X9_digest_55  K n v1 v3 s0_0 s0_1 s0_2 s0_3 s0_4 s0_5 s0_6 s0_7 s0_8 s0_9 s0_10 s0_11 s0_12 = some out → ∀ (H : Heap) (locs : List Loc) (ls : Array Slot), KW G A s (wX9 G q s0_0 s0_1 s0_2 s0_3 s0_4 s0_5 s0_6 s0_7 s0_8 s0_9 s0_10 s0_11 s0_12) H locs → lv_has ls 5 [(0, .ref (q 0)), (1, .long v1), (3, .int v3)] → W p l e (zR 6 135) s m args below meth c H locs 0 0 (QL G A out.1 (wX9 G q out.2.1 out.2.2.1 out.2.2.2.1 out.2.2.2.2.1 out.2.2.2.2.2.1 out.2.2.2.2.2.2.1 out.2.2.2.2.2.2.2.1 out.2.2.2.2.2.2.2.2.1 out.2.2.2.2.2.2.2.2.2.1 out.2.2.2.2.2.2.2.2.2.2.1 out.2.2.2.2.2.2.2.2.2.2.2.1 out.2.2.2.2.2.2.2.2.2.2.2.2.1 out.2.2.2.2.2.2.2.2.2.2.2.2.2) below args s) (F0 m 55 ls []) := by
  have hx := C.1
  have hb := C.2.1
  intro n
  induction n with
  | zero => intro v1 v3 s0_0 s0_1 s0_2 s0_3 s0_4 s0_5 s0_6 s0_7 s0_8 s0_9 s0_10 s0_11 s0_12 hf; exact nomatch (show (none : Option (Int64 × zXS)) = some out from hf)
  | succ n ih =>
    intro v1 v3 s0_0 s0_1 s0_2 s0_3 s0_4 s0_5 s0_6 s0_7 s0_8 s0_9 s0_10 s0_11 s0_12 hf H locs ls hW hl
    rw [lp_X9_digest_55] at hf
    refine lv_iload_n hx hb dX9_digest_55 rfl (lv_at hl 2 rfl) ?_
    refine lv_aload_n hx hb dX9_digest_56 rfl (lv_at hl 0 rfl) ?_
    refine zk_get C hW fgX9_26 0 rfl rfl dX9_digest_57 ?_
    refine zk_get C hW fgX9_99 5 rfl rfl dX9_digest_60 ?_
    refine lv_icmp_ge (tgt := 103) hx hb dX9_digest_63 (by decide) (fun c6 => ?_) (fun c6 => ?_)
    · have hf := ipos c6 hf
      exact hK v1 v3 s0_0 s0_1 s0_2 s0_3 s0_4 s0_5 s0_6 s0_7 s0_8 s0_9 s0_10 s0_11 s0_12 hf _ _ _ hW (lv_sub hl [0, 1] rfl)
    · have hf := ineg c6 hf
      refine lv_iconst (v := 0) hx hb dX9_digest_66 (by decide) ?_
      refine lv_istore (lv' := [(4, .int 0), (0, .ref (q 0)), (1, .long v1), (3, .int v3)]) hx hb dX9_digest_67 hl (by decide) rfl (fun ls hl => ?_)
      refine w_X9_digest_69 l G q v3 out C (fun w9_v1 w9_v4 w9_s0_0 w9_s0_1 w9_s0_2 w9_s0_3 w9_s0_4 w9_s0_5 w9_s0_6 w9_s0_7 w9_s0_8 w9_s0_9 w9_s0_10 w9_s0_11 w9_s0_12 hf H locs ls hW hl => ?_) FU v1 0 s0_0 s0_1 s0_2 s0_3 s0_4 s0_5 s0_6 s0_7 s0_8 s0_9 s0_10 s0_11 s0_12 hf _ _ _ hW (lv_sub hl [1, 2, 3, 0] rfl)
      refine lv_iinc (v := (v3 + 1)) (lv' := [(3, .int (v3 + 1)), (0, .ref (q 0)), (1, .long w9_v1)]) hx hb dX9_digest_97 hl (k := 2) rfl rfl (by decide) rfl (fun ls hl => ?_)
      refine lv_goto (tgt := 55) hx hb dX9_digest_100 (by decide) ?_
      exact ih w9_v1 (v3 + 1) w9_s0_0 w9_s0_1 w9_s0_2 w9_s0_3 w9_s0_4 w9_s0_5 w9_s0_6 w9_s0_7 w9_s0_8 w9_s0_9 w9_s0_10 w9_s0_11 w9_s0_12 hf _ _ _ hW (lv_sub hl [1, 2, 0] rfl)
set_option maxHeartbeats 4000000 in
set_option maxRecDepth 100000 in
theorem w_X9_digest_151 {p : Program} {e : Env} {s : State} {m : MethodId} {args : Array Value} {below : List Frame} {meth : Method} {c : Code} {A : Nat → Prop} (l : Launch) (G : GG) (q : Nat → Nat) (s0_0 : zPG) (s0_1 : zLT) (s0_2 : zLS) (s0_3 : zTD) (s0_4 : zIM) (s0_5 : zRD) (s0_6 : zWR) (s0_7 : zEN) (s0_8 : zDY) (s0_9 : (Nat → Int32)) (s0_10 : Int32) (s0_11 : Int32) (s0_12 : Int32) (out : Int64 × zXS) (C : CX p s m args meth c cX9_digest 5 RX9 (some .long) "digest") {K : Int64 → Int32 → Option (Int64 × zXS)} (hK : ∀ (v1 : Int64) (v3 : Int32) , K v1 v3 = some out → ∀ (H : Heap) (locs : List Loc) (ls : Array Slot), KW G A s (wX9 G q s0_0 s0_1 s0_2 s0_3 s0_4 s0_5 s0_6 s0_7 s0_8 s0_9 s0_10 s0_11 s0_12) H locs → lv_has ls 5 [(0, .ref (q 0)), (1, .long v1)] → W p l e (zR 6 135) s m args below meth c H locs 0 0 (QL G A out.1 (wX9 G q out.2.1 out.2.2.1 out.2.2.2.1 out.2.2.2.2.1 out.2.2.2.2.2.1 out.2.2.2.2.2.2.1 out.2.2.2.2.2.2.2.1 out.2.2.2.2.2.2.2.2.1 out.2.2.2.2.2.2.2.2.2.1 out.2.2.2.2.2.2.2.2.2.2.1 out.2.2.2.2.2.2.2.2.2.2.2.1 out.2.2.2.2.2.2.2.2.2.2.2.2.1 out.2.2.2.2.2.2.2.2.2.2.2.2.2) below args s) (F0 m 184 ls [])) :
    ∀ (n : Nat) (v1 : Int64) (v3 : Int32) , lp_X9_digest_151 s0_0 K n v1 v3 = some out → ∀ (H : Heap) (locs : List Loc) (ls : Array Slot), KW G A s (wX9 G q s0_0 s0_1 s0_2 s0_3 s0_4 s0_5 s0_6 s0_7 s0_8 s0_9 s0_10 s0_11 s0_12) H locs → lv_has ls 5 [(0, .ref (q 0)), (1, .long v1), (3, .int v3)] → W p l e (zR 6 135) s m args below meth c H locs 0 0 (QL G A out.1 (wX9 G q out.2.1 out.2.2.1 out.2.2.2.1 out.2.2.2.2.1 out.2.2.2.2.2.1 out.2.2.2.2.2.2.1 out.2.2.2.2.2.2.2.1 out.2.2.2.2.2.2.2.2.1 out.2.2.2.2.2.2.2.2.2.1 out.2.2.2.2.2.2.2.2.2.2.1 out.2.2.2.2.2.2.2.2.2.2.2.1 out.2.2.2.2.2.2.2.2.2.2.2.2.1 out.2.2.2.2.2.2.2.2.2.2.2.2.2) below args s) (F0 m 151 ls []) := by
  have hx := C.1
  have hb := C.2.1
  intro n
  induction n with
  | zero => intro v1 v3 hf; exact nomatch (show (none : Option (Int64 × zXS)) = some out from hf)
  | succ n ih =>
    intro v1 v3 hf H locs ls hW hl
    rw [lp_X9_digest_151] at hf
    refine lv_iload_n hx hb dX9_digest_151 rfl (lv_at hl 2 rfl) ?_
    refine lv_aload_n hx hb dX9_digest_152 rfl (lv_at hl 0 rfl) ?_
    refine zk_get C hW fgX9_10 0 rfl rfl dX9_digest_153 ?_
    refine zk_get C hW fgX9_76 1 rfl rfl dX9_digest_156 ?_
    refine lv_icmp_ge (tgt := 184) hx hb dX9_digest_159 (by decide) (fun c14 => ?_) (fun c14 => ?_)
    · have hf := ipos c14 hf
      exact hK v1 v3 hf _ _ _ hW (lv_sub hl [0, 1] rfl)
    · have hf := ineg c14 hf
      refine lv_ldc2 hx hb C.2.2.2.1 (C.2.2.2.2.1 _ klX9_225) dX9_digest_162 ?_
      refine lv_lload_n hx hb dX9_digest_165 rfl (lv_at hl 1 rfl) ?_
      refine lv_lmul hx hb dX9_digest_166 ?_
      refine lv_aload_n hx hb dX9_digest_167 rfl (lv_at hl 0 rfl) ?_
      refine zk_get C hW fgX9_10 0 rfl rfl dX9_digest_168 ?_
      refine lv_iload_n hx hb dX9_digest_171 rfl (lv_at hl 2 rfl) ?_
      obtain ⟨u15, eu15, hf⟩ := bnd hf
      refine zk_callI (As := [.int v3]) (rest := [.long (31 * v1)]) (W1 := wX9 G q s0_0 s0_1 s0_2 s0_3 s0_4 s0_5 s0_6 s0_7 s0_8 s0_9 s0_10 s0_11 s0_12) C hW hl mvX9_244 (c_X5_signAt l G (fun k => q (k + 1)) s0_0 v3 u15 eu15) ⟨(Nat.le_of_ble_eq_true rfl), (Nat.le_of_ble_eq_true rfl)⟩ ⟨rfl, rfl⟩ [1, 2] rfl rfl rfl rfl (Nat.le_of_ble_eq_true rfl) (Nat.le_of_ble_eq_true rfl) rfl dX9_digest_172 ⟨Nat.zero_le _, Nat.zero_le _⟩ (fun H locs hW => ?_)
      refine lv_i2l (v := (Int32.toInt64 u15)) hx hb dX9_digest_175 rfl ?_
      refine lv_ladd hx hb dX9_digest_176 ?_
      refine lv_lstore_n (lv' := [(1, .long ((31 * v1) + (Int32.toInt64 u15))), (0, .ref (q 0)), (3, .int v3)]) hx hb dX9_digest_177 rfl hl (by decide) rfl (fun ls hl => ?_)
      refine lv_iinc (v := (v3 + 1)) (lv' := [(3, .int (v3 + 1)), (1, .long ((31 * v1) + (Int32.toInt64 u15))), (0, .ref (q 0))]) hx hb dX9_digest_178 hl (k := 2) rfl rfl (by decide) rfl (fun ls hl => ?_)
      refine lv_goto (tgt := 151) hx hb dX9_digest_181 (by decide) ?_
      exact ih ((31 * v1) + (Int32.toInt64 u15)) (v3 + 1) hf _ _ _ hW (lv_sub hl [2, 1, 0] rfl)
set_option maxHeartbeats 4000000 in
set_option maxRecDepth 100000 in
theorem w_X9_digest_186 {p : Program} {e : Env} {s : State} {m : MethodId} {args : Array Value} {below : List Frame} {meth : Method} {c : Code} {A : Nat → Prop} (l : Launch) (G : GG) (q : Nat → Nat) (out : Int64 × zXS) (C : CX p s m args meth c cX9_digest 5 RX9 (some .long) "digest") {K : Int64 → Int32 → zPG → zLT → zLS → zTD → zIM → zRD → zWR → zEN → zDY → (Nat → Int32) → Int32 → Int32 → Int32 → Option (Int64 × zXS)} (hK : ∀ (v1 : Int64) (v3 : Int32) (s0_0 : zPG) (s0_1 : zLT) (s0_2 : zLS) (s0_3 : zTD) (s0_4 : zIM) (s0_5 : zRD) (s0_6 : zWR) (s0_7 : zEN) (s0_8 : zDY) (s0_9 : (Nat → Int32)) (s0_10 : Int32) (s0_11 : Int32) (s0_12 : Int32) , K v1 v3 s0_0 s0_1 s0_2 s0_3 s0_4 s0_5 s0_6 s0_7 s0_8 s0_9 s0_10 s0_11 s0_12 = some out → ∀ (H : Heap) (locs : List Loc) (ls : Array Slot), KW G A s (wX9 G q s0_0 s0_1 s0_2 s0_3 s0_4 s0_5 s0_6 s0_7 s0_8 s0_9 s0_10 s0_11 s0_12) H locs → lv_has ls 5 [(1, .long v1)] → W p l e (zR 6 135) s m args below meth c H locs 0 0 (QL G A out.1 (wX9 G q out.2.1 out.2.2.1 out.2.2.2.1 out.2.2.2.2.1 out.2.2.2.2.2.1 out.2.2.2.2.2.2.1 out.2.2.2.2.2.2.2.1 out.2.2.2.2.2.2.2.2.1 out.2.2.2.2.2.2.2.2.2.1 out.2.2.2.2.2.2.2.2.2.2.1 out.2.2.2.2.2.2.2.2.2.2.2.1 out.2.2.2.2.2.2.2.2.2.2.2.2.1 out.2.2.2.2.2.2.2.2.2.2.2.2.2) below args s) (F0 m 211 ls [])) :
    ∀ (n : Nat) (v1 : Int64) (v3 : Int32) (s0_0 : zPG) (s0_1 : zLT) (s0_2 : zLS) (s0_3 : zTD) (s0_4 : zIM) (s0_5 : zRD) (s0_6 : zWR) (s0_7 : zEN) (s0_8 : zDY) (s0_9 : (Nat → Int32)) (s0_10 : Int32) (s0_11 : Int32) (s0_12 : Int32) , lp_X9_digest_186  K n v1 v3 s0_0 s0_1 s0_2 s0_3 s0_4 s0_5 s0_6 s0_7 s0_8 s0_9 s0_10 s0_11 s0_12 = some out → ∀ (H : Heap) (locs : List Loc) (ls : Array Slot), KW G A s (wX9 G q s0_0 s0_1 s0_2 s0_3 s0_4 s0_5 s0_6 s0_7 s0_8 s0_9 s0_10 s0_11 s0_12) H locs → lv_has ls 5 [(0, .ref (q 0)), (1, .long v1), (3, .int v3)] → W p l e (zR 6 135) s m args below meth c H locs 0 0 (QL G A out.1 (wX9 G q out.2.1 out.2.2.1 out.2.2.2.1 out.2.2.2.2.1 out.2.2.2.2.2.1 out.2.2.2.2.2.2.1 out.2.2.2.2.2.2.2.1 out.2.2.2.2.2.2.2.2.1 out.2.2.2.2.2.2.2.2.2.1 out.2.2.2.2.2.2.2.2.2.2.1 out.2.2.2.2.2.2.2.2.2.2.2.1 out.2.2.2.2.2.2.2.2.2.2.2.2.1 out.2.2.2.2.2.2.2.2.2.2.2.2.2) below args s) (F0 m 186 ls []) := by
  have hx := C.1
  have hb := C.2.1
  intro n
  induction n with
  | zero => intro v1 v3 s0_0 s0_1 s0_2 s0_3 s0_4 s0_5 s0_6 s0_7 s0_8 s0_9 s0_10 s0_11 s0_12 hf; exact nomatch (show (none : Option (Int64 × zXS)) = some out from hf)
  | succ n ih =>
    intro v1 v3 s0_0 s0_1 s0_2 s0_3 s0_4 s0_5 s0_6 s0_7 s0_8 s0_9 s0_10 s0_11 s0_12 hf H locs ls hW hl
    rw [lp_X9_digest_186] at hf
    refine lv_iload_n hx hb dX9_digest_186 rfl (lv_at hl 2 rfl) ?_
    refine lv_bipush (v := 8) hx hb dX9_digest_187 (by decide) ?_
    refine lv_icmp_gt (tgt := 211) hx hb dX9_digest_189 (by decide) (fun c17 => ?_) (fun c17 => ?_)
    · have hf := ipos c17 hf
      exact hK v1 v3 s0_0 s0_1 s0_2 s0_3 s0_4 s0_5 s0_6 s0_7 s0_8 s0_9 s0_10 s0_11 s0_12 hf _ _ _ hW (lv_sub hl [1] rfl)
    · have hf := ineg c17 hf
      refine lv_ldc2 hx hb C.2.2.2.1 (C.2.2.2.2.1 _ klX9_225) dX9_digest_192 ?_
      refine lv_lload_n hx hb dX9_digest_195 rfl (lv_at hl 1 rfl) ?_
      refine lv_lmul hx hb dX9_digest_196 ?_
      refine lv_aload_n hx hb dX9_digest_197 rfl (lv_at hl 0 rfl) ?_
      refine lv_iload_n hx hb dX9_digest_198 rfl (lv_at hl 2 rfl) ?_
      obtain ⟨u18, eu18, hf⟩ := bnd hf
      refine zk_callBI (As := [.int v3]) (rest := [.long (31 * v1)]) (W1 := wX9 G q u18.2.1 u18.2.2.1 u18.2.2.2.1 u18.2.2.2.2.1 u18.2.2.2.2.2.1 u18.2.2.2.2.2.2.1 u18.2.2.2.2.2.2.2.1 u18.2.2.2.2.2.2.2.2.1 u18.2.2.2.2.2.2.2.2.2.1 u18.2.2.2.2.2.2.2.2.2.2.1 u18.2.2.2.2.2.2.2.2.2.2.2.1 u18.2.2.2.2.2.2.2.2.2.2.2.2.1 u18.2.2.2.2.2.2.2.2.2.2.2.2.2) C hW hl mvX9_247 (c_X9_count l G q (s0_0, s0_1, s0_2, s0_3, s0_4, s0_5, s0_6, s0_7, s0_8, s0_9, s0_10, s0_11, s0_12) v3 u18 eu18) ⟨(Nat.le_of_ble_eq_true rfl), (Nat.le_of_ble_eq_true rfl)⟩ ⟨rfl, rfl⟩ ([]) ([]) zE1 rfl rfl (Nat.le_of_ble_eq_true rfl) zE1r dX9_digest_199 ⟨Nat.zero_le _, Nat.zero_le _⟩ (fun H locs hW => ?_)
      refine lv_i2l (v := (Int32.toInt64 u18.1)) hx hb dX9_digest_202 rfl ?_
      refine lv_ladd hx hb dX9_digest_203 ?_
      refine lv_lstore_n (lv' := [(1, .long ((31 * v1) + (Int32.toInt64 u18.1))), (0, .ref (q 0)), (3, .int v3)]) hx hb dX9_digest_204 rfl hl (by decide) rfl (fun ls hl => ?_)
      refine lv_iinc (v := (v3 + 1)) (lv' := [(3, .int (v3 + 1)), (1, .long ((31 * v1) + (Int32.toInt64 u18.1))), (0, .ref (q 0))]) hx hb dX9_digest_205 hl (k := 2) rfl rfl (by decide) rfl (fun ls hl => ?_)
      refine lv_goto (tgt := 186) hx hb dX9_digest_208 (by decide) ?_
      exact ih ((31 * v1) + (Int32.toInt64 u18.1)) (v3 + 1) u18.2.1 u18.2.2.1 u18.2.2.2.1 u18.2.2.2.2.1 u18.2.2.2.2.2.1 u18.2.2.2.2.2.2.1 u18.2.2.2.2.2.2.2.1 u18.2.2.2.2.2.2.2.2.1 u18.2.2.2.2.2.2.2.2.2.1 u18.2.2.2.2.2.2.2.2.2.2.1 u18.2.2.2.2.2.2.2.2.2.2.2.1 u18.2.2.2.2.2.2.2.2.2.2.2.2.1 u18.2.2.2.2.2.2.2.2.2.2.2.2.2 hf _ _ _ hW (lv_sub hl [2, 1, 0] rfl)
set_option maxHeartbeats 4000000 in
set_option maxRecDepth 100000 in
theorem c_X9_digest (l : Launch) (G : GG) (q : Nat → Nat) (t0 : zXS) (out : Int64 × zXS) (hf : f_X9_digest t0 = some out) : CtL G l yX9_digest (Cond.code yX9_digest cX9_digest 5 (some .long) :: WL) (zR 6 135) [.ref (q 0)] (wX9 G q t0.1 t0.2.1 t0.2.2.1 t0.2.2.2.1 t0.2.2.2.2.1 t0.2.2.2.2.2.1 t0.2.2.2.2.2.2.1 t0.2.2.2.2.2.2.2.1 t0.2.2.2.2.2.2.2.2.1 t0.2.2.2.2.2.2.2.2.2.1 t0.2.2.2.2.2.2.2.2.2.2.1 t0.2.2.2.2.2.2.2.2.2.2.2.1 t0.2.2.2.2.2.2.2.2.2.2.2.2) out.1 (wX9 G q out.2.1 out.2.2.1 out.2.2.2.1 out.2.2.2.2.1 out.2.2.2.2.2.1 out.2.2.2.2.2.2.1 out.2.2.2.2.2.2.2.1 out.2.2.2.2.2.2.2.2.1 out.2.2.2.2.2.2.2.2.2.1 out.2.2.2.2.2.2.2.2.2.2.1 out.2.2.2.2.2.2.2.2.2.2.2.1 out.2.2.2.2.2.2.2.2.2.2.2.2.1 out.2.2.2.2.2.2.2.2.2.2.2.2.2) := by
  refine CtL.mk (cc := cX9_digest) (nL := 5) (rt := (some .long)) (own := RX9) (nm := "digest") (by decide) rfl rfl (Nat.le_of_ble_eq_true rfl) ?_
  intro p e s m below meth c A ls C hW hl
  have hx := C.1
  have hb := C.2.1
  have hl : lv_has ls 5 [(0, .ref (q 0))] := hl
  unfold f_X9_digest at hf
  refine lv_ldc2 hx hb C.2.2.2.1 (C.2.2.2.2.1 _ klX9_223) dX9_digest_0 ?_
  refine lv_lstore_n (lv' := [(1, .long 953), (0, .ref (q 0))]) hx hb dX9_digest_3 rfl hl (by decide) rfl (fun ls hl => ?_)
  refine lv_iconst (v := 0) hx hb dX9_digest_4 (by decide) ?_
  refine lv_istore_n (lv' := [(3, .int 0), (1, .long 953), (0, .ref (q 0))]) hx hb dX9_digest_5 rfl hl (by decide) rfl (fun ls hl => ?_)
  refine w_X9_digest_6 l G q  out C (fun w5_v1 w5_v3 w5_s0_0 w5_s0_1 w5_s0_2 w5_s0_3 w5_s0_4 w5_s0_5 w5_s0_6 w5_s0_7 w5_s0_8 w5_s0_9 w5_s0_10 w5_s0_11 w5_s0_12 hf H locs ls hW hl => ?_) FU 953 0 t0.1 t0.2.1 t0.2.2.1 t0.2.2.2.1 t0.2.2.2.2.1 t0.2.2.2.2.2.1 t0.2.2.2.2.2.2.1 t0.2.2.2.2.2.2.2.1 t0.2.2.2.2.2.2.2.2.1 t0.2.2.2.2.2.2.2.2.2.1 t0.2.2.2.2.2.2.2.2.2.2.1 t0.2.2.2.2.2.2.2.2.2.2.2.1 t0.2.2.2.2.2.2.2.2.2.2.2.2 hf _ _ _ hW (lv_sub hl [2, 1, 0] rfl)
  refine lv_iconst (v := 0) hx hb dX9_digest_53 (by decide) ?_
  refine lv_istore_n (lv' := [(3, .int 0), (0, .ref (q 0)), (1, .long w5_v1)]) hx hb dX9_digest_54 rfl hl (by decide) rfl (fun ls hl => ?_)
  refine w_X9_digest_55 l G q  out C (fun w10_v1 w10_v3 w10_s0_0 w10_s0_1 w10_s0_2 w10_s0_3 w10_s0_4 w10_s0_5 w10_s0_6 w10_s0_7 w10_s0_8 w10_s0_9 w10_s0_10 w10_s0_11 w10_s0_12 hf H locs ls hW hl => ?_) FU w5_v1 0 w5_s0_0 w5_s0_1 w5_s0_2 w5_s0_3 w5_s0_4 w5_s0_5 w5_s0_6 w5_s0_7 w5_s0_8 w5_s0_9 w5_s0_10 w5_s0_11 w5_s0_12 hf _ _ _ hW (lv_sub hl [1, 2, 0] rfl)
  refine lv_ldc2 hx hb C.2.2.2.1 (C.2.2.2.2.1 _ klX9_225) dX9_digest_103 ?_
  refine lv_lload_n hx hb dX9_digest_106 rfl (lv_at hl 1 rfl) ?_
  refine lv_lmul hx hb dX9_digest_107 ?_
  refine lv_aload_n hx hb dX9_digest_108 rfl (lv_at hl 0 rfl) ?_
  obtain ⟨u11, eu11, hf⟩ := bnd hf
  refine zk_callBI (As := []) (rest := [.long (31 * w10_v1)]) (W1 := wX9 G q w10_s0_0 w10_s0_1 w10_s0_2 w10_s0_3 w10_s0_4 w10_s0_5 w10_s0_6 w10_s0_7 w10_s0_8 w10_s0_9 w10_s0_10 w10_s0_11 w10_s0_12) C hW hl mvX9_234 (c_X9_which l G q (w10_s0_0, w10_s0_1, w10_s0_2, w10_s0_3, w10_s0_4, w10_s0_5, w10_s0_6, w10_s0_7, w10_s0_8, w10_s0_9, w10_s0_10, w10_s0_11, w10_s0_12) u11 eu11) ⟨(Nat.le_of_ble_eq_true rfl), (Nat.le_of_ble_eq_true rfl)⟩ ⟨rfl, rfl⟩ ([]) ([]) zE1 rfl rfl (Nat.le_of_ble_eq_true rfl) zE1r dX9_digest_109 ⟨Nat.zero_le _, Nat.zero_le _⟩ (fun H locs hW => ?_)
  refine lv_i2l (v := (Int32.toInt64 u11)) hx hb dX9_digest_112 rfl ?_
  refine lv_ladd hx hb dX9_digest_113 ?_
  refine lv_lstore_n (lv' := [(1, .long ((31 * w10_v1) + (Int32.toInt64 u11))), (0, .ref (q 0))]) hx hb dX9_digest_114 rfl hl (by decide) rfl (fun ls hl => ?_)
  refine lv_aload_n hx hb dX9_digest_115 rfl (lv_at hl 1 rfl) ?_
  obtain ⟨u12, eu12, hf⟩ := bnd hf
  refine zk_callBI (As := []) (rest := []) (W1 := wX9 G q w10_s0_0 w10_s0_1 w10_s0_2 w10_s0_3 w10_s0_4 w10_s0_5 w10_s0_6 w10_s0_7 w10_s0_8 w10_s0_9 w10_s0_10 w10_s0_11 w10_s0_12) C hW hl mvX9_137 (c_X9_noLetter l G q (w10_s0_0, w10_s0_1, w10_s0_2, w10_s0_3, w10_s0_4, w10_s0_5, w10_s0_6, w10_s0_7, w10_s0_8, w10_s0_9, w10_s0_10, w10_s0_11, w10_s0_12) u12 eu12) ⟨(Nat.le_of_ble_eq_true rfl), (Nat.le_of_ble_eq_true rfl)⟩ ⟨rfl, rfl⟩ ([]) ([]) zE1 rfl rfl (Nat.le_of_ble_eq_true rfl) zE1r dX9_digest_116 ⟨Nat.zero_le _, Nat.zero_le _⟩ (fun H locs hW => ?_)
  refine lv_if_ne (tgt := 149) hx hb dX9_digest_119 (by decide) (fun c13 => ?_) (fun c13 => ?_)
  · have hf := ineg c13 hf
    refine lv_iconst (v := 0) hx hb dX9_digest_149 (by decide) ?_
    refine lv_istore_n (lv' := [(3, .int 0), (1, .long ((31 * w10_v1) + (Int32.toInt64 u11))), (0, .ref (q 0))]) hx hb dX9_digest_150 rfl hl (by decide) rfl (fun ls hl => ?_)
    refine w_X9_digest_151 l G q w10_s0_0 w10_s0_1 w10_s0_2 w10_s0_3 w10_s0_4 w10_s0_5 w10_s0_6 w10_s0_7 w10_s0_8 w10_s0_9 w10_s0_10 w10_s0_11 w10_s0_12 out C (fun w16_v1 w16_v3 hf H locs ls hW hl => ?_) FU ((31 * w10_v1) + (Int32.toInt64 u11)) 0 hf _ _ _ hW (lv_sub hl [2, 1, 0] rfl)
    refine lv_iconst (v := 0) hx hb dX9_digest_184 (by decide) ?_
    refine lv_istore_n (lv' := [(3, .int 0), (0, .ref (q 0)), (1, .long w16_v1)]) hx hb dX9_digest_185 rfl hl (by decide) rfl (fun ls hl => ?_)
    refine w_X9_digest_186 l G q  out C (fun w19_v1 w19_v3 w19_s0_0 w19_s0_1 w19_s0_2 w19_s0_3 w19_s0_4 w19_s0_5 w19_s0_6 w19_s0_7 w19_s0_8 w19_s0_9 w19_s0_10 w19_s0_11 w19_s0_12 hf H locs ls hW hl => ?_) FU w16_v1 0 w10_s0_0 w10_s0_1 w10_s0_2 w10_s0_3 w10_s0_4 w10_s0_5 w10_s0_6 w10_s0_7 w10_s0_8 w10_s0_9 w10_s0_10 w10_s0_11 w10_s0_12 hf _ _ _ hW (lv_sub hl [1, 2, 0] rfl)
    refine lv_lload_n hx hb dX9_digest_211 rfl (lv_at hl 0 rfl) ?_
    obtain rfl := Option.some.inj hf
    exact zk_lret C hW rfl dX9_digest_212
  · have hf := ipos c13 hf
    refine lv_ldc2 hx hb C.2.2.2.1 (C.2.2.2.2.1 _ klX9_225) dX9_digest_122 ?_
    refine lv_lload_n hx hb dX9_digest_125 rfl (lv_at hl 0 rfl) ?_
    refine lv_lmul hx hb dX9_digest_126 ?_
    refine lv_aload_n hx hb dX9_digest_127 rfl (lv_at hl 1 rfl) ?_
    obtain ⟨u20, eu20, hf⟩ := bnd hf
    refine zk_callBI (As := []) (rest := [.long (31 * ((31 * w10_v1) + (Int32.toInt64 u11)))]) (W1 := wX9 G q u20.2.1 u20.2.2.1 u20.2.2.2.1 u20.2.2.2.2.1 u20.2.2.2.2.2.1 u20.2.2.2.2.2.2.1 u20.2.2.2.2.2.2.2.1 u20.2.2.2.2.2.2.2.2.1 u20.2.2.2.2.2.2.2.2.2.1 u20.2.2.2.2.2.2.2.2.2.2.1 u20.2.2.2.2.2.2.2.2.2.2.2.1 u20.2.2.2.2.2.2.2.2.2.2.2.2.1 u20.2.2.2.2.2.2.2.2.2.2.2.2.2) C hW hl mvX9_237 (c_X9_ask l G q (w10_s0_0, w10_s0_1, w10_s0_2, w10_s0_3, w10_s0_4, w10_s0_5, w10_s0_6, w10_s0_7, w10_s0_8, w10_s0_9, w10_s0_10, w10_s0_11, w10_s0_12) u20 eu20) ⟨(Nat.le_of_ble_eq_true rfl), (Nat.le_of_ble_eq_true rfl)⟩ ⟨rfl, rfl⟩ ([]) ([]) zE1 rfl rfl (Nat.le_of_ble_eq_true rfl) zE1r dX9_digest_128 ⟨Nat.zero_le _, Nat.zero_le _⟩ (fun H locs hW => ?_)
    refine lv_i2l (v := (Int32.toInt64 u20.1)) hx hb dX9_digest_131 rfl ?_
    refine lv_ladd hx hb dX9_digest_132 ?_
    refine lv_lstore_n (lv' := [(1, .long ((31 * ((31 * w10_v1) + (Int32.toInt64 u11))) + (Int32.toInt64 u20.1))), (0, .ref (q 0))]) hx hb dX9_digest_133 rfl hl (by decide) rfl (fun ls hl => ?_)
    refine lv_ldc2 hx hb C.2.2.2.1 (C.2.2.2.2.1 _ klX9_225) dX9_digest_134 ?_
    refine lv_lload_n hx hb dX9_digest_137 rfl (lv_at hl 0 rfl) ?_
    refine lv_lmul hx hb dX9_digest_138 ?_
    refine lv_aload_n hx hb dX9_digest_139 rfl (lv_at hl 1 rfl) ?_
    refine lv_iconst (v := 0) hx hb dX9_digest_140 (by decide) ?_
    refine lv_iconst (v := 3) hx hb dX9_digest_141 (by decide) ?_
    refine lv_iconst (v := 1) hx hb dX9_digest_142 (by decide) ?_
    obtain ⟨u21, eu21, hf⟩ := bnd hf
    refine zk_callBI (As := [.int 0, .int 3, .int 1]) (rest := [.long (31 * ((31 * ((31 * w10_v1) + (Int32.toInt64 u11))) + (Int32.toInt64 u20.1)))]) (W1 := wX9 G q u21.2.1 u21.2.2.1 u21.2.2.2.1 u21.2.2.2.2.1 u21.2.2.2.2.2.1 u21.2.2.2.2.2.2.1 u21.2.2.2.2.2.2.2.1 u21.2.2.2.2.2.2.2.2.1 u21.2.2.2.2.2.2.2.2.2.1 u21.2.2.2.2.2.2.2.2.2.2.1 u21.2.2.2.2.2.2.2.2.2.2.2.1 u21.2.2.2.2.2.2.2.2.2.2.2.2.1 u21.2.2.2.2.2.2.2.2.2.2.2.2.2) C hW hl mvX9_240 (c_X9_rest l G q u20.2 0 3 1 u21 eu21) ⟨(Nat.le_of_ble_eq_true rfl), (Nat.le_of_ble_eq_true rfl)⟩ ⟨rfl, rfl⟩ ([]) ([]) zE1 rfl rfl (Nat.le_of_ble_eq_true rfl) zE1r dX9_digest_143 ⟨Nat.zero_le _, Nat.zero_le _⟩ (fun H locs hW => ?_)
    refine lv_i2l (v := (Int32.toInt64 u21.1)) hx hb dX9_digest_146 rfl ?_
    refine lv_ladd hx hb dX9_digest_147 ?_
    refine lv_lstore_n (lv' := [(1, .long ((31 * ((31 * ((31 * w10_v1) + (Int32.toInt64 u11))) + (Int32.toInt64 u20.1))) + (Int32.toInt64 u21.1))), (0, .ref (q 0))]) hx hb dX9_digest_148 rfl hl (by decide) rfl (fun ls hl => ?_)
    refine lv_iconst (v := 0) hx hb dX9_digest_149 (by decide) ?_
    refine lv_istore_n (lv' := [(3, .int 0), (1, .long ((31 * ((31 * ((31 * w10_v1) + (Int32.toInt64 u11))) + (Int32.toInt64 u20.1))) + (Int32.toInt64 u21.1))), (0, .ref (q 0))]) hx hb dX9_digest_150 rfl hl (by decide) rfl (fun ls hl => ?_)
    refine w_X9_digest_151 l G q u21.2.1 u21.2.2.1 u21.2.2.2.1 u21.2.2.2.2.1 u21.2.2.2.2.2.1 u21.2.2.2.2.2.2.1 u21.2.2.2.2.2.2.2.1 u21.2.2.2.2.2.2.2.2.1 u21.2.2.2.2.2.2.2.2.2.1 u21.2.2.2.2.2.2.2.2.2.2.1 u21.2.2.2.2.2.2.2.2.2.2.2.1 u21.2.2.2.2.2.2.2.2.2.2.2.2.1 u21.2.2.2.2.2.2.2.2.2.2.2.2.2 out C (fun w22_v1 w22_v3 hf H locs ls hW hl => ?_) FU ((31 * ((31 * ((31 * w10_v1) + (Int32.toInt64 u11))) + (Int32.toInt64 u20.1))) + (Int32.toInt64 u21.1)) 0 hf _ _ _ hW (lv_sub hl [2, 1, 0] rfl)
    refine lv_iconst (v := 0) hx hb dX9_digest_184 (by decide) ?_
    refine lv_istore_n (lv' := [(3, .int 0), (0, .ref (q 0)), (1, .long w22_v1)]) hx hb dX9_digest_185 rfl hl (by decide) rfl (fun ls hl => ?_)
    refine w_X9_digest_186 l G q  out C (fun w23_v1 w23_v3 w23_s0_0 w23_s0_1 w23_s0_2 w23_s0_3 w23_s0_4 w23_s0_5 w23_s0_6 w23_s0_7 w23_s0_8 w23_s0_9 w23_s0_10 w23_s0_11 w23_s0_12 hf H locs ls hW hl => ?_) FU w22_v1 0 u21.2.1 u21.2.2.1 u21.2.2.2.1 u21.2.2.2.2.1 u21.2.2.2.2.2.1 u21.2.2.2.2.2.2.1 u21.2.2.2.2.2.2.2.1 u21.2.2.2.2.2.2.2.2.1 u21.2.2.2.2.2.2.2.2.2.1 u21.2.2.2.2.2.2.2.2.2.2.1 u21.2.2.2.2.2.2.2.2.2.2.2.1 u21.2.2.2.2.2.2.2.2.2.2.2.2.1 u21.2.2.2.2.2.2.2.2.2.2.2.2.2 hf _ _ _ hW (lv_sub hl [1, 2, 0] rfl)
    refine lv_lload_n hx hb dX9_digest_211 rfl (lv_at hl 0 rfl) ?_
    obtain rfl := Option.some.inj hf
    exact zk_lret C hW rfl dX9_digest_212
