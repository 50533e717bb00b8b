/-! what is made: objects, int arrays, the array of readings; the addresses of an object and its parts -/
def zq (a : Nat) (u : Nat → Nat) : Nat → Nat := fun k => match k with
  | 0 => a
  | k + 1 => u k
abbrev zRn (f mc ms k : Nat) : Room := { frames := f, cells := mc, slots := ms, locals := k }
section Made
variable {p : Program} {l : Launch} {e : Env} {R : Room} {s : State} {m : MethodId} {args : Array Value} {below : List Frame} {meth : Method} {c : Code} {H : Heap} {locs : List Loc} {cells slots : Nat} {Q : State → Prop}
variable {cc : ByteArray} {nL : Nat} {own nm : String} {rt : Option FieldType} {G : GG} {A : Nat → Prop} {W0 W1 : va_W} {ls : Array Slot} {rest : List Value} {pc : Nat}
theorem zk_obj {lv : List (Nat × Value)} (C : CX p s m args meth c cc nL own rt nm) (hl : lv_has ls nL lv) {idx a : Nat} (hlk : Cond.methodLink own idx objectInit ∈ WL) (hdg : decode cc pc = .ok (.invokespecial idx, 3)) (hfr : 1 ≤ R.frames) (hlo : (rest.map fun v => v.category).sum + 12 ≤ R.locals)
    (kk : W p l e R s m args below meth c H locs cells slots Q (F0 m (pc + 3) ls rest)) : W p l e R s m args below meth c H locs cells slots Q (F0 m pc ls (.ref a :: rest)) := by
  refine W.objInit C.1 C.2.1 C.2.2.2.1 (C.2.2.2.2.1 _ hlk) (C.2.2.2.2.1 _ ko_i) (C.2.2.2.2.1 _ ko_c) rfl (by rw [C.2.2.1]; exact hl.1) rfl hdg hfr ?_ ?_
  · have h0 : (F0 m pc ls (.ref a :: rest)).monitorRoom = 0 := rfl
    rw [h0]; omega
  · exact kk
def MK (own : String) (idx ci N : Nat) (fs : List Value) : Prop := ∃ (Cn : String) (T : u_T) (ty0 : Nat → FieldType), vwCl[ci]? = some (Cn, T, N) ∧ (∀ w ∈ u_ws Cn T N, w ∈ WL) ∧ (∀ k, k < N → parseFieldDescriptor (T k).2.2.1 = some (ty0 k)) ∧ Cond.classLink own idx Cn ∈ WL ∧ Cond.instantiable Cn N ∈ WL ∧ Cond.initialized Cn ∈ WL ∧ ∀ j, j < N → defaultValue (ty0 j) = vp_V fs j
theorem zk_new (C : CX p s m args meth c cc nL own rt nm) (hW : KW G A s W0 H locs) {idx ci N : Nat} {fs : List Value} (hM : MK own idx ci N fs) (hcells : cells + 1 ≤ R.cells) (hslots : slots + N ≤ R.slots) (hdg : decode cc pc = .ok (.new idx, 3))
    (kk : ∀ (q : Nat) (H1 : Heap), KW G A s (W0 ++ [(q, .inr (ci, fs))]) H1 locs → W p l e R s m args below meth c H1 locs (cells + 1) (slots + N) Q (F0 m (pc + 3) ls (.ref q :: rest))) : W p l e R s m args below meth c H locs cells slots Q (F0 m pc ls rest) := by
  obtain ⟨Cn, T, ty0, hc, hin, hty, h1, h2, h3, hfs⟩ := hM
  obtain ⟨hx, hb, hml, hown, hts, hr, hlo, hnm⟩ := C
  obtain ⟨hK, hP, hD, hS, hA, hN⟩ := hW
  exact va_new hx hb hts hin ty0 hty hown (hts _ h1) (hts _ h2) (hts _ h3) hK hP hD hS hA hc hfs hcells hslots hdg (fun q H1 a1 a2 a3 => kk q H1 ⟨hK, a1, a2, a3, hA, hN⟩)
theorem zk_newa (C : CX p s m args meth c cc nL own rt nm) (hW : KW G A s W0 H locs) {n : Int32} (N' : Nat) (hn : ¬ n < 0) (hN' : n.toNatClampNeg = N') (hby : N' * componentBytes .int ≤ 536870912) (hcells : cells + 1 ≤ R.cells) (hslots : slots + N' ≤ R.slots) (hdg : decode cc pc = .ok (.newarray .int, 2))
    (kk : ∀ (q : Nat) (H1 : Heap), KW G A s (W0 ++ [(q, .inl (G.2.1, N', .inl (fun _ => 0)))]) H1 locs → W p l e R s m args below meth c H1 locs (cells + 1) (slots + N') Q (F0 m (pc + 2) ls (.ref q :: rest))) : W p l e R s m args below meth c H locs cells slots Q (F0 m pc ls (.int n :: rest)) := by
  obtain ⟨hx, hb, hml, hown, hts, hr, hlo, hnm⟩ := C
  obtain ⟨hK, hP, hD, hS, hA, hN⟩ := hW
  refine va_newa (atype := .int) (a0 := (N', .inl (fun _ => 0))) hx hb (hts _ ka_i) rfl hK hP hD hS hA (fun cA => rfl) hn hN' hby hcells hslots hdg (fun q cA H1 hK1 a1 a2 a3 => ?_)
  have e0 : s.vm.findClass ("[" ++ FieldType.int.toString) = some G.2.1 := (hK.2 0 (G.2.1, .int) rfl).2
  have e1 : s.vm.findClass ("[" ++ FieldType.int.toString) = some cA := (hK1.2 2 (cA, .int) rfl).2
  have e2 : cA = G.2.1 := Option.some.inj (e1.symm.trans e0)
  subst e2
  exact kk q H1 ⟨hK, a1, a2, a3, hA, hN⟩
theorem zk_newr (C : CX p s m args meth c cc nL own rt nm) (hW : KW G A s W0 H locs) {n : Int32} {idx : Nat} (N' : Nat) (hlk : Cond.classLink own idx RX6 ∈ WL) (hn : ¬ n < 0) (hN' : n.toNatClampNeg = N') (hby : N' * 4 ≤ 536870912) (hcells : cells + 1 ≤ R.cells) (hslots : slots + N' ≤ R.slots) (hdg : decode cc pc = .ok (.anewarray idx, 3))
    (kk : ∀ (q : Nat) (H1 : Heap), KW G A s (W0 ++ [(q, .inl (G.2.2, N', .inr (.inr (.inr (.inr (fun _ => none))))))]) H1 locs → W p l e R s m args below meth c H1 locs (cells + 1) (slots + N') Q (F0 m (pc + 3) ls (.ref q :: rest))) : W p l e R s m args below meth c H locs cells slots Q (F0 m pc ls (.int n :: rest)) := by
  obtain ⟨hx, hb, hml, hown, hts, hr, hlo, hnm⟩ := C
  obtain ⟨hK, hP, hD, hS, hA, hN⟩ := hW
  refine va_newq hx hb hown (hts _ hlk) hN.2.2 hK hP hD hS hA hn hN' hby hcells hslots hdg (fun q cA H1 hK1 a1 a2 a3 => ?_)
  obtain ⟨k0, c0, -, -, -, e0⟩ := (hK.2 1 (G.2.2, .object RX6) rfl).2
  obtain ⟨k1, c1, -, -, -, e1⟩ := (hK1.2 2 (cA, .object RX6) rfl).2
  have e2 : cA = G.2.2 := Option.some.inj (e1.symm.trans e0)
  subst e2
  exact kk q H1 ⟨hK, a1, a2, a3, hA, hN⟩
theorem zk_ast (C : CX p s m args meth c cc nL own rt nm) (hW : KW G A s W0 H locs) (q0 qk : Nat) {a n v : Nat} {vs : List Value} {f : Nat → Option Nat} {i : Int32} (hin : ¬ (i < 0 ∨ n ≤ i.toNatClampNeg)) (ha : W0[q0]? = some (a, .inl (G.2.2, n, .inr (.inr (.inr (.inr f)))))) (hv : W0[qk]? = some (v, .inr (6, vs))) (h1 : W0.set q0 (a, .inl (G.2.2, n, .inr (.inr (.inr (.inr (va_up f i.toNatClampNeg (some v))))))) = W1) (hdg : decode cc pc = .ok (.aastore, 1))
    (kk : ∀ (H1 : Heap) (locs1 : List Loc), KW G A s W1 H1 locs1 → W p l e R s m args below meth c H1 locs1 cells slots Q (F0 m (pc + 1) ls rest)) : W p l e R s m args below meth c H locs cells slots Q (F0 m pc ls (.ref v :: .int i :: .ref a :: rest)) := by
  subst h1
  exact va_astq (r := (RX6, TX6, 6)) (t0 := 1) (ci := 6) C.1 C.2.1 hW.1 hW.2.1 hW.2.2.1 hW.2.2.2.1 q0 qk ha rfl hv rfl hin hdg (fun H1 locs1 a1 a2 a3 => kk H1 locs1 ⟨hW.1, a1, a2, a3, hW.2.2.2.2⟩)
end Made
def zX6 : zRD := (0, 0, false, 0, 0, false)
def zX3 : zLT := ((fun _ => 0), 0, 0)
def zX4 : zLS := ((fun _ => 0), 0)
def zX5 : zPG := ((fun _ => 0), 0)
def zX7 : zTD := ((fun _ => 0), 0)
def zX2 : zIM := (zX3, zX7, 0, 0, false)
def zX1 : zEN := ((fun _ => 0), (fun _ => 0), zX6)
def zX0 : zDY := (zX3, zX6, 0, 0, 0)
def zX8 : zWR := (zX3, zX6, (fun _ => zX6), 0, 0, 0)
def zX9 : zXS := (zX5, zX3, zX4, zX7, zX2, zX6, zX8, zX1, zX0, (fun _ => 0), 0, 0, 0)
set_option maxHeartbeats 4000000 in
set_option maxRecDepth 100000 in
theorem c_X3_init (l : Launch) (G : GG) (a : Nat) : CtN G l yX3_init (Cond.code yX3_init cX3_init 1 none :: WL) (zRn 1 1 9 12) [.ref a] [(a, .inr (3, [.null, .int 0, .int 0]))] (fun u => wX3 G (zq a u) (fun _ => 0) 0 0) 1 9 := by
  refine CtN.mk (cc := cX3_init) (nL := 1) (rt := none) (own := RX3) (nm := "<init>") (by decide) rfl rfl (Nat.le_of_ble_eq_true rfl) ?_
  intro p e s m below meth c A ls C hW hl
  have hx := C.1
  have hb := C.2.1
  have hl : lv_has ls 1 [(0, .ref a)] := hl
  refine lv_aload_n hx hb dX3_init_0 rfl (lv_at hl 0 rfl) ?_
  refine zk_obj C hl koX3_3 dX3_init_1 (Nat.le_of_ble_eq_true rfl) (Nat.le_of_ble_eq_true rfl) ?_
  refine lv_aload_n hx hb dX3_init_4 rfl (lv_at hl 0 rfl) ?_
  refine lv_bipush (v := 9) hx hb dX3_init_5 (by decide) ?_
  refine zk_newa C hW 9 (by decide) (by decide) (by decide) (Nat.le_of_ble_eq_true rfl) (Nat.le_of_ble_eq_true rfl) dX3_init_7 (fun q1 H hW => ?_)
  have hW : KW G A s ([(a, .inr (3, [.null, .int 0, .int 0]))] ++ [(q1, .inl (G.2.1, 9, .inl (fun _ => 0)))]) H _ := hW
  refine zk_putF (W1 := [(a, .inr (3, [.ref q1, .int 0, .int 0]))] ++ [(q1, .inl (G.2.1, 9, .inl (fun _ => 0)))]) C hW ffX3_9 0 rfl rfl rfl (Nat.le_of_ble_eq_true rfl) rfl dX3_init_9 (fun H locs hW => ?_)
  exact zk_nret (fun k => ([q1] : List Nat).getD k 0) C hW dX3_init_12
set_option maxHeartbeats 4000000 in
set_option maxRecDepth 100000 in
theorem c_X4_init (l : Launch) (G : GG) (a : Nat) : CtN G l yX4_init (Cond.code yX4_init cX4_init 1 none :: WL) (zRn 1 1 4 12) [.ref a] [(a, .inr (4, [.null, .int 0]))] (fun u => wX4 G (zq a u) (fun _ => 0) 0) 1 4 := by
  refine CtN.mk (cc := cX4_init) (nL := 1) (rt := none) (own := RX4) (nm := "<init>") (by decide) rfl rfl (Nat.le_of_ble_eq_true rfl) ?_
  intro p e s m below meth c A ls C hW hl
  have hx := C.1
  have hb := C.2.1
  have hl : lv_has ls 1 [(0, .ref a)] := hl
  refine lv_aload_n hx hb dX4_init_0 rfl (lv_at hl 0 rfl) ?_
  refine zk_obj C hl koX4_3 dX4_init_1 (Nat.le_of_ble_eq_true rfl) (Nat.le_of_ble_eq_true rfl) ?_
  refine lv_aload_n hx hb dX4_init_4 rfl (lv_at hl 0 rfl) ?_
  refine lv_iconst (v := 4) hx hb dX4_init_5 (by decide) ?_
  refine zk_newa C hW 4 (by decide) (by decide) (by decide) (Nat.le_of_ble_eq_true rfl) (Nat.le_of_ble_eq_true rfl) dX4_init_6 (fun q1 H hW => ?_)
  have hW : KW G A s ([(a, .inr (4, [.null, .int 0]))] ++ [(q1, .inl (G.2.1, 4, .inl (fun _ => 0)))]) H _ := hW
  refine zk_putF (W1 := [(a, .inr (4, [.ref q1, .int 0]))] ++ [(q1, .inl (G.2.1, 4, .inl (fun _ => 0)))]) C hW ffX4_9 0 rfl rfl rfl (Nat.le_of_ble_eq_true rfl) rfl dX4_init_8 (fun H locs hW => ?_)
  exact zk_nret (fun k => ([q1] : List Nat).getD k 0) C hW dX4_init_11
set_option maxHeartbeats 4000000 in
set_option maxRecDepth 100000 in
theorem c_X5_init (l : Launch) (G : GG) (a : Nat) : CtN G l yX5_init (Cond.code yX5_init cX5_init 1 none :: WL) (zRn 1 1 12 12) [.ref a] [(a, .inr (5, [.null, .int 0]))] (fun u => wX5 G (zq a u) (fun _ => 0) 0) 1 12 := by
  refine CtN.mk (cc := cX5_init) (nL := 1) (rt := none) (own := RX5) (nm := "<init>") (by decide) rfl rfl (Nat.le_of_ble_eq_true rfl) ?_
  intro p e s m below meth c A ls C hW hl
  have hx := C.1
  have hb := C.2.1
  have hl : lv_has ls 1 [(0, .ref a)] := hl
  refine lv_aload_n hx hb dX5_init_0 rfl (lv_at hl 0 rfl) ?_
  refine zk_obj C hl koX5_3 dX5_init_1 (Nat.le_of_ble_eq_true rfl) (Nat.le_of_ble_eq_true rfl) ?_
  refine lv_aload_n hx hb dX5_init_4 rfl (lv_at hl 0 rfl) ?_
  refine lv_bipush (v := 12) hx hb dX5_init_5 (by decide) ?_
  refine zk_newa C hW 12 (by decide) (by decide) (by decide) (Nat.le_of_ble_eq_true rfl) (Nat.le_of_ble_eq_true rfl) dX5_init_7 (fun q1 H hW => ?_)
  have hW : KW G A s ([(a, .inr (5, [.null, .int 0]))] ++ [(q1, .inl (G.2.1, 12, .inl (fun _ => 0)))]) H _ := hW
  refine zk_putF (W1 := [(a, .inr (5, [.ref q1, .int 0]))] ++ [(q1, .inl (G.2.1, 12, .inl (fun _ => 0)))]) C hW ffX5_9 0 rfl rfl rfl (Nat.le_of_ble_eq_true rfl) rfl dX5_init_9 (fun H locs hW => ?_)
  exact zk_nret (fun k => ([q1] : List Nat).getD k 0) C hW dX5_init_12
set_option maxHeartbeats 4000000 in
set_option maxRecDepth 100000 in
theorem c_X7_init (l : Launch) (G : GG) (a : Nat) : CtN G l yX7_init (Cond.code yX7_init cX7_init 1 none :: WL) (zRn 1 1 6 12) [.ref a] [(a, .inr (7, [.null, .int 0]))] (fun u => wX7 G (zq a u) (fun _ => 0) 0) 1 6 := by
  refine CtN.mk (cc := cX7_init) (nL := 1) (rt := none) (own := RX7) (nm := "<init>") (by decide) rfl rfl (Nat.le_of_ble_eq_true rfl) ?_
  intro p e s m below meth c A ls C hW hl
  have hx := C.1
  have hb := C.2.1
  have hl : lv_has ls 1 [(0, .ref a)] := hl
  refine lv_aload_n hx hb dX7_init_0 rfl (lv_at hl 0 rfl) ?_
  refine zk_obj C hl koX7_3 dX7_init_1 (Nat.le_of_ble_eq_true rfl) (Nat.le_of_ble_eq_true rfl) ?_
  refine lv_aload_n hx hb dX7_init_4 rfl (lv_at hl 0 rfl) ?_
  refine lv_bipush (v := 6) hx hb dX7_init_5 (by decide) ?_
  refine zk_newa C hW 6 (by decide) (by decide) (by decide) (Nat.le_of_ble_eq_true rfl) (Nat.le_of_ble_eq_true rfl) dX7_init_7 (fun q1 H hW => ?_)
  have hW : KW G A s ([(a, .inr (7, [.null, .int 0]))] ++ [(q1, .inl (G.2.1, 6, .inl (fun _ => 0)))]) H _ := hW
  refine zk_putF (W1 := [(a, .inr (7, [.ref q1, .int 0]))] ++ [(q1, .inl (G.2.1, 6, .inl (fun _ => 0)))]) C hW ffX7_9 0 rfl rfl rfl (Nat.le_of_ble_eq_true rfl) rfl dX7_init_9 (fun H locs hW => ?_)
  exact zk_nret (fun k => ([q1] : List Nat).getD k 0) C hW dX7_init_12
set_option maxHeartbeats 4000000 in
set_option maxRecDepth 100000 in
theorem c_X6_init (l : Launch) (G : GG) (a : Nat) : CtN G l yX6_init (Cond.code yX6_init cX6_init 1 none :: WL) (zRn 1 0 0 12) [.ref a] [(a, .inr (6, [.int 0, .int 0, .int 0, .int 0, .int 0, .int 0]))] (fun u => wX6 G (zq a u) 0 0 false 0 0 false) 0 0 := by
  refine CtN.mk (cc := cX6_init) (nL := 1) (rt := none) (own := RX6) (nm := "<init>") (by decide) rfl rfl (Nat.le_of_ble_eq_true rfl) ?_
  intro p e s m below meth c A ls C hW hl
  have hx := C.1
  have hb := C.2.1
  have hl : lv_has ls 1 [(0, .ref a)] := hl
  refine lv_aload_n hx hb dX6_init_0 rfl (lv_at hl 0 rfl) ?_
  refine zk_obj C hl koX6_3 dX6_init_1 (Nat.le_of_ble_eq_true rfl) (Nat.le_of_ble_eq_true rfl) ?_
  exact zk_nret (fun k => ([] : List Nat).getD k 0) C hW dX6_init_4
theorem mkX2_7 : MK RX2 7 3 3 [.null, .int 0, .int 0] := ⟨RX3, TX3, tyX3, rfl, iwX3, tyX3_ok, kcX2_7, knX3, kzX3, fun j hj => by rcases (show j = 0 ∨ j = 1 ∨ j = 2 by omega) with rfl | rfl | rfl <;> rfl⟩
theorem mkX2_16 : MK RX2 16 7 2 [.null, .int 0] := ⟨RX7, TX7, tyX7, rfl, iwX7, tyX7_ok, kcX2_16, knX7, kzX7, fun j hj => by rcases (show j = 0 ∨ j = 1 by omega) with rfl | rfl <;> rfl⟩
set_option maxHeartbeats 4000000 in
set_option maxRecDepth 100000 in
theorem c_X2_init (l : Launch) (G : GG) (a : Nat) : CtN G l yX2_init (Cond.code yX2_init cX2_init 1 none :: WL) (zRn 2 4 20 32) [.ref a] [(a, .inr (2, [.null, .null, .int 0, .int 0, .int 0]))] (fun u => wX2 G (zq a u) zX3 zX7 0 0 false) 4 20 := by
  refine CtN.mk (cc := cX2_init) (nL := 1) (rt := none) (own := RX2) (nm := "<init>") (by decide) rfl rfl (Nat.le_of_ble_eq_true rfl) ?_
  intro p e s m below meth c A ls C hW hl
  have hx := C.1
  have hb := C.2.1
  have hl : lv_has ls 1 [(0, .ref a)] := hl
  refine lv_aload_n hx hb dX2_init_0 rfl (lv_at hl 0 rfl) ?_
  refine zk_obj C hl koX2_1 dX2_init_1 (Nat.le_of_ble_eq_true rfl) (Nat.le_of_ble_eq_true rfl) ?_
  refine lv_aload_n hx hb dX2_init_4 rfl (lv_at hl 0 rfl) ?_
  refine zk_new C hW mkX2_7 (Nat.le_of_ble_eq_true rfl) (Nat.le_of_ble_eq_true rfl) dX2_init_5 (fun q1 H hW => ?_)
  have hW : KW G A s ([(a, .inr (2, [.null, .null, .int 0, .int 0, .int 0]))] ++ [(q1, .inr (3, [.null, .int 0, .int 0]))]) H _ := hW
  refine lv_dup hx hb dX2_init_8 rfl ?_
  refine zk_callN (As := []) (rest := [.ref q1, .ref a]) (Wn := fun u2 => [(a, .inr (2, [.null, .null, .int 0, .int 0, .int 0]))] ++ wX3 G (zq q1 u2) (fun _ => 0) 0 0) C hW hl mnX2_9 (c_X3_init l G q1) ⟨(Nat.le_of_ble_eq_true rfl), (Nat.le_of_ble_eq_true rfl)⟩ ⟨rfl, rfl⟩ [1] rfl rfl rfl (Nat.le_of_ble_eq_true rfl) (fun _ => (Nat.le_of_ble_eq_true rfl)) (fun _ => rfl) dX2_init_9 ⟨(Nat.le_of_ble_eq_true rfl), (Nat.le_of_ble_eq_true rfl)⟩ (fun u2 H locs hW => ?_)
  have hW : KW G A s ([(a, .inr (2, [.null, .null, .int 0, .int 0, .int 0]))] ++ wX3 G (zq q1 u2) (fun _ => 0) 0 0) H locs := hW
  refine zk_putF (W1 := [(a, .inr (2, [.ref q1, .null, .int 0, .int 0, .int 0]))] ++ wX3 G (zq q1 u2) (fun _ => 0) 0 0) C hW ffX2_10 0 rfl rfl rfl (Nat.le_of_ble_eq_true rfl) rfl dX2_init_12 (fun H locs hW => ?_)
  refine lv_aload_n hx hb dX2_init_15 rfl (lv_at hl 0 rfl) ?_
  refine zk_new C hW mkX2_16 (Nat.le_of_ble_eq_true rfl) (Nat.le_of_ble_eq_true rfl) dX2_init_16 (fun q3 H hW => ?_)
  have hW : KW G A s ([(a, .inr (2, [.ref q1, .null, .int 0, .int 0, .int 0]))] ++ wX3 G (zq q1 u2) (fun _ => 0) 0 0 ++ [(q3, .inr (7, [.null, .int 0]))]) H _ := hW
  refine lv_dup hx hb dX2_init_19 rfl ?_
  refine zk_callN (As := []) (rest := [.ref q3, .ref a]) (Wn := fun u4 => [(a, .inr (2, [.ref q1, .null, .int 0, .int 0, .int 0]))] ++ wX3 G (zq q1 u2) (fun _ => 0) 0 0 ++ wX7 G (zq q3 u4) (fun _ => 0) 0) C hW hl mnX2_18 (c_X7_init l G q3) ⟨(Nat.le_of_ble_eq_true rfl), (Nat.le_of_ble_eq_true rfl)⟩ ⟨rfl, rfl⟩ [3] rfl rfl rfl (Nat.le_of_ble_eq_true rfl) (fun _ => (Nat.le_of_ble_eq_true rfl)) (fun _ => rfl) dX2_init_20 ⟨(Nat.le_of_ble_eq_true rfl), (Nat.le_of_ble_eq_true rfl)⟩ (fun u4 H locs hW => ?_)
  have hW : KW G A s ([(a, .inr (2, [.ref q1, .null, .int 0, .int 0, .int 0]))] ++ wX3 G (zq q1 u2) (fun _ => 0) 0 0 ++ wX7 G (zq q3 u4) (fun _ => 0) 0) H locs := hW
  refine zk_putF (W1 := [(a, .inr (2, [.ref q1, .ref q3, .int 0, .int 0, .int 0]))] ++ wX3 G (zq q1 u2) (fun _ => 0) 0 0 ++ wX7 G (zq q3 u4) (fun _ => 0) 0) C hW ffX2_19 0 rfl rfl rfl (Nat.le_of_ble_eq_true rfl) rfl dX2_init_23 (fun H locs hW => ?_)
  exact zk_nret (fun k => ([q1, (u2 0), q3, (u4 0)] : List Nat).getD k 0) C hW dX2_init_26
theorem mkX1_18 : MK RX1 18 6 6 [.int 0, .int 0, .int 0, .int 0, .int 0, .int 0] := ⟨RX6, TX6, tyX6, rfl, iwX6, tyX6_ok, kcX1_18, knX6, kzX6, fun j hj => by rcases (show j = 0 ∨ j = 1 ∨ j = 2 ∨ j = 3 ∨ j = 4 ∨ j = 5 by omega) with rfl | rfl | rfl | rfl | rfl | rfl <;> rfl⟩
set_option maxHeartbeats 4000000 in
set_option maxRecDepth 100000 in
theorem c_X1_init (l : Launch) (G : GG) (a : Nat) : CtN G l yX1_init (Cond.code yX1_init cX1_init 1 none :: WL) (zRn 2 3 50 32) [.ref a] [(a, .inr (1, [.null, .null, .null]))] (fun u => wX1 G (zq a u) (fun _ => 0) (fun _ => 0) zX6) 3 50 := by
  refine CtN.mk (cc := cX1_init) (nL := 1) (rt := none) (own := RX1) (nm := "<init>") (by decide) rfl rfl (Nat.le_of_ble_eq_true rfl) ?_
  intro p e s m below meth c A ls C hW hl
  have hx := C.1
  have hb := C.2.1
  have hl : lv_has ls 1 [(0, .ref a)] := hl
  refine lv_aload_n hx hb dX1_init_0 rfl (lv_at hl 0 rfl) ?_
  refine zk_obj C hl koX1_3 dX1_init_1 (Nat.le_of_ble_eq_true rfl) (Nat.le_of_ble_eq_true rfl) ?_
  refine lv_aload_n hx hb dX1_init_4 rfl (lv_at hl 0 rfl) ?_
  refine lv_bipush (v := 22) hx hb dX1_init_5 (by decide) ?_
  refine zk_newa C hW 22 (by decide) (by decide) (by decide) (Nat.le_of_ble_eq_true rfl) (Nat.le_of_ble_eq_true rfl) dX1_init_7 (fun q1 H hW => ?_)
  have hW : KW G A s ([(a, .inr (1, [.null, .null, .null]))] ++ [(q1, .inl (G.2.1, 22, .inl (fun _ => 0)))]) H _ := hW
  refine zk_putF (W1 := [(a, .inr (1, [.ref q1, .null, .null]))] ++ [(q1, .inl (G.2.1, 22, .inl (fun _ => 0)))]) C hW ffX1_11 0 rfl rfl rfl (Nat.le_of_ble_eq_true rfl) rfl dX1_init_9 (fun H locs hW => ?_)
  refine lv_aload_n hx hb dX1_init_12 rfl (lv_at hl 0 rfl) ?_
  refine lv_bipush (v := 22) hx hb dX1_init_13 (by decide) ?_
  refine zk_newa C hW 22 (by decide) (by decide) (by decide) (Nat.le_of_ble_eq_true rfl) (Nat.le_of_ble_eq_true rfl) dX1_init_15 (fun q2 H hW => ?_)
  have hW : KW G A s ([(a, .inr (1, [.ref q1, .null, .null]))] ++ [(q1, .inl (G.2.1, 22, .inl (fun _ => 0)))] ++ [(q2, .inl (G.2.1, 22, .inl (fun _ => 0)))]) H _ := hW
  refine zk_putF (W1 := [(a, .inr (1, [.ref q1, .ref q2, .null]))] ++ [(q1, .inl (G.2.1, 22, .inl (fun _ => 0)))] ++ [(q2, .inl (G.2.1, 22, .inl (fun _ => 0)))]) C hW ffX1_15 0 rfl rfl rfl (Nat.le_of_ble_eq_true rfl) rfl dX1_init_17 (fun H locs hW => ?_)
  refine lv_aload_n hx hb dX1_init_20 rfl (lv_at hl 0 rfl) ?_
  refine zk_new C hW mkX1_18 (Nat.le_of_ble_eq_true rfl) (Nat.le_of_ble_eq_true rfl) dX1_init_21 (fun q3 H hW => ?_)
  have hW : KW G A s ([(a, .inr (1, [.ref q1, .ref q2, .null]))] ++ [(q1, .inl (G.2.1, 22, .inl (fun _ => 0)))] ++ [(q2, .inl (G.2.1, 22, .inl (fun _ => 0)))] ++ [(q3, .inr (6, [.int 0, .int 0, .int 0, .int 0, .int 0, .int 0]))]) H _ := hW
  refine lv_dup hx hb dX1_init_24 rfl ?_
  refine zk_callN (As := []) (rest := [.ref q3, .ref a]) (Wn := fun u4 => [(a, .inr (1, [.ref q1, .ref q2, .null]))] ++ [(q1, .inl (G.2.1, 22, .inl (fun _ => 0)))] ++ [(q2, .inl (G.2.1, 22, .inl (fun _ => 0)))] ++ wX6 G (zq q3 u4) 0 0 false 0 0 false) C hW hl mnX1_20 (c_X6_init l G q3) ⟨(Nat.le_of_ble_eq_true rfl), (Nat.le_of_ble_eq_true rfl)⟩ ⟨rfl, rfl⟩ [3] rfl rfl rfl (Nat.le_of_ble_eq_true rfl) (fun _ => (Nat.le_of_ble_eq_true rfl)) (fun _ => rfl) dX1_init_25 ⟨(Nat.le_of_ble_eq_true rfl), (Nat.le_of_ble_eq_true rfl)⟩ (fun u4 H locs hW => ?_)
  have hW : KW G A s ([(a, .inr (1, [.ref q1, .ref q2, .null]))] ++ [(q1, .inl (G.2.1, 22, .inl (fun _ => 0)))] ++ [(q2, .inl (G.2.1, 22, .inl (fun _ => 0)))] ++ wX6 G (zq q3 u4) 0 0 false 0 0 false) H locs := hW
  refine zk_putF (W1 := [(a, .inr (1, [.ref q1, .ref q2, .ref q3]))] ++ [(q1, .inl (G.2.1, 22, .inl (fun _ => 0)))] ++ [(q2, .inl (G.2.1, 22, .inl (fun _ => 0)))] ++ wX6 G (zq q3 u4) 0 0 false 0 0 false) C hW ffX1_21 0 rfl rfl rfl (Nat.le_of_ble_eq_true rfl) rfl dX1_init_28 (fun H locs hW => ?_)
  exact zk_nret (fun k => ([q1, q2, q3] : List Nat).getD k 0) C hW dX1_init_31
theorem mkX0_9 : MK RX0 9 3 3 [.null, .int 0, .int 0] := ⟨RX3, TX3, tyX3, rfl, iwX3, tyX3_ok, kcX0_9, knX3, kzX3, fun j hj => by rcases (show j = 0 ∨ j = 1 ∨ j = 2 by omega) with rfl | rfl | rfl <;> rfl⟩
theorem mkX0_18 : MK RX0 18 6 6 [.int 0, .int 0, .int 0, .int 0, .int 0, .int 0] := ⟨RX6, TX6, tyX6, rfl, iwX6, tyX6_ok, kcX0_18, knX6, kzX6, fun j hj => by rcases (show j = 0 ∨ j = 1 ∨ j = 2 ∨ j = 3 ∨ j = 4 ∨ j = 5 by omega) with rfl | rfl | rfl | rfl | rfl | rfl <;> rfl⟩
set_option maxHeartbeats 4000000 in
set_option maxRecDepth 100000 in
theorem c_X0_init (l : Launch) (G : GG) (a : Nat) : CtN G l yX0_init (Cond.code yX0_init cX0_init 1 none :: WL) (zRn 2 3 18 32) [.ref a] [(a, .inr (0, [.null, .null, .int 0, .int 0, .int 0]))] (fun u => wX0 G (zq a u) zX3 zX6 0 0 0) 3 18 := by
  refine CtN.mk (cc := cX0_init) (nL := 1) (rt := none) (own := RX0) (nm := "<init>") (by decide) rfl rfl (Nat.le_of_ble_eq_true rfl) ?_
  intro p e s m below meth c A ls C hW hl
  have hx := C.1
  have hb := C.2.1
  have hl : lv_has ls 1 [(0, .ref a)] := hl
  refine lv_aload_n hx hb dX0_init_0 rfl (lv_at hl 0 rfl) ?_
  refine zk_obj C hl koX0_3 dX0_init_1 (Nat.le_of_ble_eq_true rfl) (Nat.le_of_ble_eq_true rfl) ?_
  refine lv_aload_n hx hb dX0_init_4 rfl (lv_at hl 0 rfl) ?_
  refine zk_new C hW mkX0_9 (Nat.le_of_ble_eq_true rfl) (Nat.le_of_ble_eq_true rfl) dX0_init_5 (fun q1 H hW => ?_)
  have hW : KW G A s ([(a, .inr (0, [.null, .null, .int 0, .int 0, .int 0]))] ++ [(q1, .inr (3, [.null, .int 0, .int 0]))]) H _ := hW
  refine lv_dup hx hb dX0_init_8 rfl ?_
  refine zk_callN (As := []) (rest := [.ref q1, .ref a]) (Wn := fun u2 => [(a, .inr (0, [.null, .null, .int 0, .int 0, .int 0]))] ++ wX3 G (zq q1 u2) (fun _ => 0) 0 0) C hW hl mnX0_11 (c_X3_init l G q1) ⟨(Nat.le_of_ble_eq_true rfl), (Nat.le_of_ble_eq_true rfl)⟩ ⟨rfl, rfl⟩ [1] rfl rfl rfl (Nat.le_of_ble_eq_true rfl) (fun _ => (Nat.le_of_ble_eq_true rfl)) (fun _ => rfl) dX0_init_9 ⟨(Nat.le_of_ble_eq_true rfl), (Nat.le_of_ble_eq_true rfl)⟩ (fun u2 H locs hW => ?_)
  have hW : KW G A s ([(a, .inr (0, [.null, .null, .int 0, .int 0, .int 0]))] ++ wX3 G (zq q1 u2) (fun _ => 0) 0 0) H locs := hW
  refine zk_putF (W1 := [(a, .inr (0, [.ref q1, .null, .int 0, .int 0, .int 0]))] ++ wX3 G (zq q1 u2) (fun _ => 0) 0 0) C hW ffX0_12 0 rfl rfl rfl (Nat.le_of_ble_eq_true rfl) rfl dX0_init_12 (fun H locs hW => ?_)
  refine lv_aload_n hx hb dX0_init_15 rfl (lv_at hl 0 rfl) ?_
  refine zk_new C hW mkX0_18 (Nat.le_of_ble_eq_true rfl) (Nat.le_of_ble_eq_true rfl) dX0_init_16 (fun q3 H hW => ?_)
  have hW : KW G A s ([(a, .inr (0, [.ref q1, .null, .int 0, .int 0, .int 0]))] ++ wX3 G (zq q1 u2) (fun _ => 0) 0 0 ++ [(q3, .inr (6, [.int 0, .int 0, .int 0, .int 0, .int 0, .int 0]))]) H _ := hW
  refine lv_dup hx hb dX0_init_19 rfl ?_
  refine zk_callN (As := []) (rest := [.ref q3, .ref a]) (Wn := fun u4 => [(a, .inr (0, [.ref q1, .null, .int 0, .int 0, .int 0]))] ++ wX3 G (zq q1 u2) (fun _ => 0) 0 0 ++ wX6 G (zq q3 u4) 0 0 false 0 0 false) C hW hl mnX0_20 (c_X6_init l G q3) ⟨(Nat.le_of_ble_eq_true rfl), (Nat.le_of_ble_eq_true rfl)⟩ ⟨rfl, rfl⟩ [3] rfl rfl rfl (Nat.le_of_ble_eq_true rfl) (fun _ => (Nat.le_of_ble_eq_true rfl)) (fun _ => rfl) dX0_init_20 ⟨(Nat.le_of_ble_eq_true rfl), (Nat.le_of_ble_eq_true rfl)⟩ (fun u4 H locs hW => ?_)
  have hW : KW G A s ([(a, .inr (0, [.ref q1, .null, .int 0, .int 0, .int 0]))] ++ wX3 G (zq q1 u2) (fun _ => 0) 0 0 ++ wX6 G (zq q3 u4) 0 0 false 0 0 false) H locs := hW
  refine zk_putF (W1 := [(a, .inr (0, [.ref q1, .ref q3, .int 0, .int 0, .int 0]))] ++ wX3 G (zq q1 u2) (fun _ => 0) 0 0 ++ wX6 G (zq q3 u4) 0 0 false 0 0 false) C hW ffX0_21 0 rfl rfl rfl (Nat.le_of_ble_eq_true rfl) rfl dX0_init_23 (fun H locs hW => ?_)
  exact zk_nret (fun k => ([q1, (u2 0), q3] : List Nat).getD k 0) C hW dX0_init_26
theorem mkX8_9 : MK RX8 9 3 3 [.null, .int 0, .int 0] := ⟨RX3, TX3, tyX3, rfl, iwX3, tyX3_ok, kcX8_9, knX3, kzX3, fun j hj => by rcases (show j = 0 ∨ j = 1 ∨ j = 2 by omega) with rfl | rfl | rfl <;> rfl⟩
theorem mkX8_18 : MK RX8 18 6 6 [.int 0, .int 0, .int 0, .int 0, .int 0, .int 0] := ⟨RX6, TX6, tyX6, rfl, iwX6, tyX6_ok, kcX8_18, knX6, kzX6, fun j hj => by rcases (show j = 0 ∨ j = 1 ∨ j = 2 ∨ j = 3 ∨ j = 4 ∨ j = 5 by omega) with rfl | rfl | rfl | rfl | rfl | rfl <;> rfl⟩
set_option maxHeartbeats 4000000 in
set_option maxRecDepth 100000 in
theorem c_X8_init (l : Launch) (G : GG) (a : Nat) : CtN G l yX8_init (Cond.code yX8_init cX8_init 2 none :: WL) (zRn 2 10 60 32) [.ref a] [(a, .inr (8, [.null, .null, .null, .int 0, .int 0, .int 0]))] (fun u => wX8 G (zq a u) zX3 zX6 (fun _ => zX6) 0 0 0) 10 60 := by
  refine CtN.mk (cc := cX8_init) (nL := 2) (rt := none) (own := RX8) (nm := "<init>") (by decide) rfl rfl (Nat.le_of_ble_eq_true rfl) ?_
  intro p e s m below meth c A ls C hW hl
  have hx := C.1
  have hb := C.2.1
  have hl : lv_has ls 2 [(0, .ref a)] := hl
  refine lv_aload_n hx hb dX8_init_0 rfl (lv_at hl 0 rfl) ?_
  refine zk_obj C hl koX8_3 dX8_init_1 (Nat.le_of_ble_eq_true rfl) (Nat.le_of_ble_eq_true rfl) ?_
  refine lv_aload_n hx hb dX8_init_4 rfl (lv_at hl 0 rfl) ?_
  refine zk_new C hW mkX8_9 (Nat.le_of_ble_eq_true rfl) (Nat.le_of_ble_eq_true rfl) dX8_init_5 (fun q1 H hW => ?_)
  have hW : KW G A s ([(a, .inr (8, [.null, .null, .null, .int 0, .int 0, .int 0]))] ++ [(q1, .inr (3, [.null, .int 0, .int 0]))]) H _ := hW
  refine lv_dup hx hb dX8_init_8 rfl ?_
  refine zk_callN (As := []) (rest := [.ref q1, .ref a]) (Wn := fun u2 => [(a, .inr (8, [.null, .null, .null, .int 0, .int 0, .int 0]))] ++ wX3 G (zq q1 u2) (fun _ => 0) 0 0) C hW hl mnX8_11 (c_X3_init l G q1) ⟨(Nat.le_of_ble_eq_true rfl), (Nat.le_of_ble_eq_true rfl)⟩ ⟨rfl, rfl⟩ [1] rfl rfl rfl (Nat.le_of_ble_eq_true rfl) (fun _ => (Nat.le_of_ble_eq_true rfl)) (fun _ => rfl) dX8_init_9 ⟨(Nat.le_of_ble_eq_true rfl), (Nat.le_of_ble_eq_true rfl)⟩ (fun u2 H locs hW => ?_)
  have hW : KW G A s ([(a, .inr (8, [.null, .null, .null, .int 0, .int 0, .int 0]))] ++ wX3 G (zq q1 u2) (fun _ => 0) 0 0) H locs := hW
  refine zk_putF (W1 := [(a, .inr (8, [.ref q1, .null, .null, .int 0, .int 0, .int 0]))] ++ wX3 G (zq q1 u2) (fun _ => 0) 0 0) C hW ffX8_12 0 rfl rfl rfl (Nat.le_of_ble_eq_true rfl) rfl dX8_init_12 (fun H locs hW => ?_)
  refine lv_aload_n hx hb dX8_init_15 rfl (lv_at hl 0 rfl) ?_
  refine zk_new C hW mkX8_18 (Nat.le_of_ble_eq_true rfl) (Nat.le_of_ble_eq_true rfl) dX8_init_16 (fun q3 H hW => ?_)
  have hW : KW G A s ([(a, .inr (8, [.ref q1, .null, .null, .int 0, .int 0, .int 0]))] ++ wX3 G (zq q1 u2) (fun _ => 0) 0 0 ++ [(q3, .inr (6, [.int 0, .int 0, .int 0, .int 0, .int 0, .int 0]))]) H _ := hW
  refine lv_dup hx hb dX8_init_19 rfl ?_
  refine zk_callN (As := []) (rest := [.ref q3, .ref a]) (Wn := fun u4 => [(a, .inr (8, [.ref q1, .null, .null, .int 0, .int 0, .int 0]))] ++ wX3 G (zq q1 u2) (fun _ => 0) 0 0 ++ wX6 G (zq q3 u4) 0 0 false 0 0 false) C hW hl mnX8_20 (c_X6_init l G q3) ⟨(Nat.le_of_ble_eq_true rfl), (Nat.le_of_ble_eq_true rfl)⟩ ⟨rfl, rfl⟩ [3] rfl rfl rfl (Nat.le_of_ble_eq_true rfl) (fun _ => (Nat.le_of_ble_eq_true rfl)) (fun _ => rfl) dX8_init_20 ⟨(Nat.le_of_ble_eq_true rfl), (Nat.le_of_ble_eq_true rfl)⟩ (fun u4 H locs hW => ?_)
  have hW : KW G A s ([(a, .inr (8, [.ref q1, .null, .null, .int 0, .int 0, .int 0]))] ++ wX3 G (zq q1 u2) (fun _ => 0) 0 0 ++ wX6 G (zq q3 u4) 0 0 false 0 0 false) H locs := hW
  refine zk_putF (W1 := [(a, .inr (8, [.ref q1, .ref q3, .null, .int 0, .int 0, .int 0]))] ++ wX3 G (zq q1 u2) (fun _ => 0) 0 0 ++ wX6 G (zq q3 u4) 0 0 false 0 0 false) C hW ffX8_21 0 rfl rfl rfl (Nat.le_of_ble_eq_true rfl) rfl dX8_init_23 (fun H locs hW => ?_)
  refine lv_aload_n hx hb dX8_init_26 rfl (lv_at hl 0 rfl) ?_
  refine lv_bipush (v := 6) hx hb dX8_init_27 (by decide) ?_
  refine zk_newr C hW 6 kcX8_18 (by decide) (by decide) (by decide) (Nat.le_of_ble_eq_true rfl) (Nat.le_of_ble_eq_true rfl) dX8_init_29 (fun q5 H hW => ?_)
  have hW : KW G A s ([(a, .inr (8, [.ref q1, .ref q3, .null, .int 0, .int 0, .int 0]))] ++ wX3 G (zq q1 u2) (fun _ => 0) 0 0 ++ wX6 G (zq q3 u4) 0 0 false 0 0 false ++ [(q5, .inl (G.2.2, 6, .inr (.inr (.inr (.inr (fun _ => none))))))]) H _ := hW
  refine zk_putF (W1 := [(a, .inr (8, [.ref q1, .ref q3, .ref q5, .int 0, .int 0, .int 0]))] ++ wX3 G (zq q1 u2) (fun _ => 0) 0 0 ++ wX6 G (zq q3 u4) 0 0 false 0 0 false ++ [(q5, .inl (G.2.2, 6, .inr (.inr (.inr (.inr (fun _ => none))))))]) C hW ffX8_25 0 rfl rfl rfl (Nat.le_of_ble_eq_true rfl) rfl dX8_init_32 (fun H locs hW => ?_)
  refine lv_iconst (v := 0) hx hb dX8_init_35 (by decide) ?_
  refine lv_istore_n (lv' := [(1, .int 0), (0, .ref a)]) hx hb dX8_init_36 rfl hl (by decide) rfl (fun ls hl => ?_)
  refine lv_iload_n hx hb dX8_init_37 rfl (lv_at hl 0 rfl) ?_
  refine lv_aload_n hx hb dX8_init_38 rfl (lv_at hl 1 rfl) ?_
  refine zk_get C hW fgX8_25 0 rfl rfl dX8_init_39 ?_
  refine zk_alenR C hW 4 rfl dX8_init_42 ?_
  refine lv_icmp_ge (tgt := 65) hx hb dX8_init_43 (by decide) (fun c1 => absurd c1 (by decide)) (fun c1 => ?_)
  refine lv_aload_n hx hb dX8_init_46 rfl (lv_at hl 1 rfl) ?_
  refine zk_get C hW fgX8_25 0 rfl rfl dX8_init_47 ?_
  refine lv_iload_n hx hb dX8_init_50 rfl (lv_at hl 0 rfl) ?_
  refine zk_new C hW mkX8_18 (Nat.le_of_ble_eq_true rfl) (Nat.le_of_ble_eq_true rfl) dX8_init_51 (fun q6 H hW => ?_)
  have hW : KW G A s ([(a, .inr (8, [.ref q1, .ref q3, .ref q5, .int 0, .int 0, .int 0]))] ++ wX3 G (zq q1 u2) (fun _ => 0) 0 0 ++ wX6 G (zq q3 u4) 0 0 false 0 0 false ++ [(q5, .inl (G.2.2, 6, .inr (.inr (.inr (.inr (fun _ => none))))))] ++ [(q6, .inr (6, [.int 0, .int 0, .int 0, .int 0, .int 0, .int 0]))]) H _ := hW
  refine lv_dup hx hb dX8_init_54 rfl ?_
  refine zk_callN (As := []) (rest := [.ref q6, .int 0, .ref q5]) (Wn := fun u7 => [(a, .inr (8, [.ref q1, .ref q3, .ref q5, .int 0, .int 0, .int 0]))] ++ wX3 G (zq q1 u2) (fun _ => 0) 0 0 ++ wX6 G (zq q3 u4) 0 0 false 0 0 false ++ [(q5, .inl (G.2.2, 6, .inr (.inr (.inr (.inr (fun _ => none))))))] ++ wX6 G (zq q6 u7) 0 0 false 0 0 false) C hW hl mnX8_20 (c_X6_init l G q6) ⟨(Nat.le_of_ble_eq_true rfl), (Nat.le_of_ble_eq_true rfl)⟩ ⟨rfl, rfl⟩ [5] rfl rfl rfl (Nat.le_of_ble_eq_true rfl) (fun _ => (Nat.le_of_ble_eq_true rfl)) (fun _ => rfl) dX8_init_55 ⟨(Nat.le_of_ble_eq_true rfl), (Nat.le_of_ble_eq_true rfl)⟩ (fun u7 H locs hW => ?_)
  have hW : KW G A s ([(a, .inr (8, [.ref q1, .ref q3, .ref q5, .int 0, .int 0, .int 0]))] ++ wX3 G (zq q1 u2) (fun _ => 0) 0 0 ++ wX6 G (zq q3 u4) 0 0 false 0 0 false ++ [(q5, .inl (G.2.2, 6, .inr (.inr (.inr (.inr (fun _ => none))))))] ++ wX6 G (zq q6 u7) 0 0 false 0 0 false) H locs := hW
  refine zk_ast (W1 := [(a, .inr (8, [.ref q1, .ref q3, .ref q5, .int 0, .int 0, .int 0]))] ++ wX3 G (zq q1 u2) (fun _ => 0) 0 0 ++ wX6 G (zq q3 u4) 0 0 false 0 0 false ++ [(q5, .inl (G.2.2, 6, .inr (.inr (.inr (.inr (va_up (fun _ => none) 0 (some q6)))))))] ++ wX6 G (zq q6 u7) 0 0 false 0 0 false) C hW 4 5 (by decide) rfl rfl rfl dX8_init_58 (fun H locs hW => ?_)
  refine lv_iinc (v := 1) (lv' := [(1, .int 1), (0, .ref a)]) hx hb dX8_init_59 hl (k := 0) rfl (by decide) (by decide) rfl (fun ls hl => ?_)
  refine lv_goto (tgt := 37) hx hb dX8_init_62 (by decide) ?_
  refine lv_iload_n hx hb dX8_init_37 rfl (lv_at hl 0 rfl) ?_
  refine lv_aload_n hx hb dX8_init_38 rfl (lv_at hl 1 rfl) ?_
  refine zk_get C hW fgX8_25 0 rfl rfl dX8_init_39 ?_
  refine zk_alenR C hW 4 rfl dX8_init_42 ?_
  refine lv_icmp_ge (tgt := 65) hx hb dX8_init_43 (by decide) (fun c1 => absurd c1 (by decide)) (fun c1 => ?_)
  refine lv_aload_n hx hb dX8_init_46 rfl (lv_at hl 1 rfl) ?_
  refine zk_get C hW fgX8_25 0 rfl rfl dX8_init_47 ?_
  refine lv_iload_n hx hb dX8_init_50 rfl (lv_at hl 0 rfl) ?_
  refine zk_new C hW mkX8_18 (Nat.le_of_ble_eq_true rfl) (Nat.le_of_ble_eq_true rfl) dX8_init_51 (fun q8 H hW => ?_)
  have hW : KW G A s ([(a, .inr (8, [.ref q1, .ref q3, .ref q5, .int 0, .int 0, .int 0]))] ++ wX3 G (zq q1 u2) (fun _ => 0) 0 0 ++ wX6 G (zq q3 u4) 0 0 false 0 0 false ++ [(q5, .inl (G.2.2, 6, .inr (.inr (.inr (.inr (va_up (fun _ => none) 0 (some q6)))))))] ++ wX6 G (zq q6 u7) 0 0 false 0 0 false ++ [(q8, .inr (6, [.int 0, .int 0, .int 0, .int 0, .int 0, .int 0]))]) H _ := hW
  refine lv_dup hx hb dX8_init_54 rfl ?_
  refine zk_callN (As := []) (rest := [.ref q8, .int 1, .ref q5]) (Wn := fun u9 => [(a, .inr (8, [.ref q1, .ref q3, .ref q5, .int 0, .int 0, .int 0]))] ++ wX3 G (zq q1 u2) (fun _ => 0) 0 0 ++ wX6 G (zq q3 u4) 0 0 false 0 0 false ++ [(q5, .inl (G.2.2, 6, .inr (.inr (.inr (.inr (va_up (fun _ => none) 0 (some q6)))))))] ++ wX6 G (zq q6 u7) 0 0 false 0 0 false ++ wX6 G (zq q8 u9) 0 0 false 0 0 false) C hW hl mnX8_20 (c_X6_init l G q8) ⟨(Nat.le_of_ble_eq_true rfl), (Nat.le_of_ble_eq_true rfl)⟩ ⟨rfl, rfl⟩ [6] rfl rfl rfl (Nat.le_of_ble_eq_true rfl) (fun _ => (Nat.le_of_ble_eq_true rfl)) (fun _ => rfl) dX8_init_55 ⟨(Nat.le_of_ble_eq_true rfl), (Nat.le_of_ble_eq_true rfl)⟩ (fun u9 H locs hW => ?_)
  have hW : KW G A s ([(a, .inr (8, [.ref q1, .ref q3, .ref q5, .int 0, .int 0, .int 0]))] ++ wX3 G (zq q1 u2) (fun _ => 0) 0 0 ++ wX6 G (zq q3 u4) 0 0 false 0 0 false ++ [(q5, .inl (G.2.2, 6, .inr (.inr (.inr (.inr (va_up (fun _ => none) 0 (some q6)))))))] ++ wX6 G (zq q6 u7) 0 0 false 0 0 false ++ wX6 G (zq q8 u9) 0 0 false 0 0 false) H locs := hW
  refine zk_ast (W1 := [(a, .inr (8, [.ref q1, .ref q3, .ref q5, .int 0, .int 0, .int 0]))] ++ wX3 G (zq q1 u2) (fun _ => 0) 0 0 ++ wX6 G (zq q3 u4) 0 0 false 0 0 false ++ [(q5, .inl (G.2.2, 6, .inr (.inr (.inr (.inr (va_up (va_up (fun _ => none) 0 (some q6)) 1 (some q8)))))))] ++ wX6 G (zq q6 u7) 0 0 false 0 0 false ++ wX6 G (zq q8 u9) 0 0 false 0 0 false) C hW 4 6 (by decide) rfl rfl rfl dX8_init_58 (fun H locs hW => ?_)
  refine lv_iinc (v := 2) (lv' := [(1, .int 2), (0, .ref a)]) hx hb dX8_init_59 hl (k := 0) rfl (by decide) (by decide) rfl (fun ls hl => ?_)
  refine lv_goto (tgt := 37) hx hb dX8_init_62 (by decide) ?_
  refine lv_iload_n hx hb dX8_init_37 rfl (lv_at hl 0 rfl) ?_
  refine lv_aload_n hx hb dX8_init_38 rfl (lv_at hl 1 rfl) ?_
  refine zk_get C hW fgX8_25 0 rfl rfl dX8_init_39 ?_
  refine zk_alenR C hW 4 rfl dX8_init_42 ?_
  refine lv_icmp_ge (tgt := 65) hx hb dX8_init_43 (by decide) (fun c1 => absurd c1 (by decide)) (fun c1 => ?_)
  refine lv_aload_n hx hb dX8_init_46 rfl (lv_at hl 1 rfl) ?_
  refine zk_get C hW fgX8_25 0 rfl rfl dX8_init_47 ?_
  refine lv_iload_n hx hb dX8_init_50 rfl (lv_at hl 0 rfl) ?_
  refine zk_new C hW mkX8_18 (Nat.le_of_ble_eq_true rfl) (Nat.le_of_ble_eq_true rfl) dX8_init_51 (fun q10 H hW => ?_)
  have hW : KW G A s ([(a, .inr (8, [.ref q1, .ref q3, .ref q5, .int 0, .int 0, .int 0]))] ++ wX3 G (zq q1 u2) (fun _ => 0) 0 0 ++ wX6 G (zq q3 u4) 0 0 false 0 0 false ++ [(q5, .inl (G.2.2, 6, .inr (.inr (.inr (.inr (va_up (va_up (fun _ => none) 0 (some q6)) 1 (some q8)))))))] ++ wX6 G (zq q6 u7) 0 0 false 0 0 false ++ wX6 G (zq q8 u9) 0 0 false 0 0 false ++ [(q10, .inr (6, [.int 0, .int 0, .int 0, .int 0, .int 0, .int 0]))]) H _ := hW
  refine lv_dup hx hb dX8_init_54 rfl ?_
  refine zk_callN (As := []) (rest := [.ref q10, .int 2, .ref q5]) (Wn := fun u11 => [(a, .inr (8, [.ref q1, .ref q3, .ref q5, .int 0, .int 0, .int 0]))] ++ wX3 G (zq q1 u2) (fun _ => 0) 0 0 ++ wX6 G (zq q3 u4) 0 0 false 0 0 false ++ [(q5, .inl (G.2.2, 6, .inr (.inr (.inr (.inr (va_up (va_up (fun _ => none) 0 (some q6)) 1 (some q8)))))))] ++ wX6 G (zq q6 u7) 0 0 false 0 0 false ++ wX6 G (zq q8 u9) 0 0 false 0 0 false ++ wX6 G (zq q10 u11) 0 0 false 0 0 false) C hW hl mnX8_20 (c_X6_init l G q10) ⟨(Nat.le_of_ble_eq_true rfl), (Nat.le_of_ble_eq_true rfl)⟩ ⟨rfl, rfl⟩ [7] rfl rfl rfl (Nat.le_of_ble_eq_true rfl) (fun _ => (Nat.le_of_ble_eq_true rfl)) (fun _ => rfl) dX8_init_55 ⟨(Nat.le_of_ble_eq_true rfl), (Nat.le_of_ble_eq_true rfl)⟩ (fun u11 H locs hW => ?_)
  have hW : KW G A s ([(a, .inr (8, [.ref q1, .ref q3, .ref q5, .int 0, .int 0, .int 0]))] ++ wX3 G (zq q1 u2) (fun _ => 0) 0 0 ++ wX6 G (zq q3 u4) 0 0 false 0 0 false ++ [(q5, .inl (G.2.2, 6, .inr (.inr (.inr (.inr (va_up (va_up (fun _ => none) 0 (some q6)) 1 (some q8)))))))] ++ wX6 G (zq q6 u7) 0 0 false 0 0 false ++ wX6 G (zq q8 u9) 0 0 false 0 0 false ++ wX6 G (zq q10 u11) 0 0 false 0 0 false) H locs := hW
  refine zk_ast (W1 := [(a, .inr (8, [.ref q1, .ref q3, .ref q5, .int 0, .int 0, .int 0]))] ++ wX3 G (zq q1 u2) (fun _ => 0) 0 0 ++ wX6 G (zq q3 u4) 0 0 false 0 0 false ++ [(q5, .inl (G.2.2, 6, .inr (.inr (.inr (.inr (va_up (va_up (va_up (fun _ => none) 0 (some q6)) 1 (some q8)) 2 (some q10)))))))] ++ wX6 G (zq q6 u7) 0 0 false 0 0 false ++ wX6 G (zq q8 u9) 0 0 false 0 0 false ++ wX6 G (zq q10 u11) 0 0 false 0 0 false) C hW 4 7 (by decide) rfl rfl rfl dX8_init_58 (fun H locs hW => ?_)
  refine lv_iinc (v := 3) (lv' := [(1, .int 3), (0, .ref a)]) hx hb dX8_init_59 hl (k := 0) rfl (by decide) (by decide) rfl (fun ls hl => ?_)
  refine lv_goto (tgt := 37) hx hb dX8_init_62 (by decide) ?_
  refine lv_iload_n hx hb dX8_init_37 rfl (lv_at hl 0 rfl) ?_
  refine lv_aload_n hx hb dX8_init_38 rfl (lv_at hl 1 rfl) ?_
  refine zk_get C hW fgX8_25 0 rfl rfl dX8_init_39 ?_
  refine zk_alenR C hW 4 rfl dX8_init_42 ?_
  refine lv_icmp_ge (tgt := 65) hx hb dX8_init_43 (by decide) (fun c1 => absurd c1 (by decide)) (fun c1 => ?_)
  refine lv_aload_n hx hb dX8_init_46 rfl (lv_at hl 1 rfl) ?_
  refine zk_get C hW fgX8_25 0 rfl rfl dX8_init_47 ?_
  refine lv_iload_n hx hb dX8_init_50 rfl (lv_at hl 0 rfl) ?_
  refine zk_new C hW mkX8_18 (Nat.le_of_ble_eq_true rfl) (Nat.le_of_ble_eq_true rfl) dX8_init_51 (fun q12 H hW => ?_)
  have hW : KW G A s ([(a, .inr (8, [.ref q1, .ref q3, .ref q5, .int 0, .int 0, .int 0]))] ++ wX3 G (zq q1 u2) (fun _ => 0) 0 0 ++ wX6 G (zq q3 u4) 0 0 false 0 0 false ++ [(q5, .inl (G.2.2, 6, .inr (.inr (.inr (.inr (va_up (va_up (va_up (fun _ => none) 0 (some q6)) 1 (some q8)) 2 (some q10)))))))] ++ wX6 G (zq q6 u7) 0 0 false 0 0 false ++ wX6 G (zq q8 u9) 0 0 false 0 0 false ++ wX6 G (zq q10 u11) 0 0 false 0 0 false ++ [(q12, .inr (6, [.int 0, .int 0, .int 0, .int 0, .int 0, .int 0]))]) H _ := hW
  refine lv_dup hx hb dX8_init_54 rfl ?_
  refine zk_callN (As := []) (rest := [.ref q12, .int 3, .ref q5]) (Wn := fun u13 => [(a, .inr (8, [.ref q1, .ref q3, .ref q5, .int 0, .int 0, .int 0]))] ++ wX3 G (zq q1 u2) (fun _ => 0) 0 0 ++ wX6 G (zq q3 u4) 0 0 false 0 0 false ++ [(q5, .inl (G.2.2, 6, .inr (.inr (.inr (.inr (va_up (va_up (va_up (fun _ => none) 0 (some q6)) 1 (some q8)) 2 (some q10)))))))] ++ wX6 G (zq q6 u7) 0 0 false 0 0 false ++ wX6 G (zq q8 u9) 0 0 false 0 0 false ++ wX6 G (zq q10 u11) 0 0 false 0 0 false ++ wX6 G (zq q12 u13) 0 0 false 0 0 false) C hW hl mnX8_20 (c_X6_init l G q12) ⟨(Nat.le_of_ble_eq_true rfl), (Nat.le_of_ble_eq_true rfl)⟩ ⟨rfl, rfl⟩ [8] rfl rfl rfl (Nat.le_of_ble_eq_true rfl) (fun _ => (Nat.le_of_ble_eq_true rfl)) (fun _ => rfl) dX8_init_55 ⟨(Nat.le_of_ble_eq_true rfl), (Nat.le_of_ble_eq_true rfl)⟩ (fun u13 H locs hW => ?_)
  have hW : KW G A s ([(a, .inr (8, [.ref q1, .ref q3, .ref q5, .int 0, .int 0, .int 0]))] ++ wX3 G (zq q1 u2) (fun _ => 0) 0 0 ++ wX6 G (zq q3 u4) 0 0 false 0 0 false ++ [(q5, .inl (G.2.2, 6, .inr (.inr (.inr (.inr (va_up (va_up (va_up (fun _ => none) 0 (some q6)) 1 (some q8)) 2 (some q10)))))))] ++ wX6 G (zq q6 u7) 0 0 false 0 0 false ++ wX6 G (zq q8 u9) 0 0 false 0 0 false ++ wX6 G (zq q10 u11) 0 0 false 0 0 false ++ wX6 G (zq q12 u13) 0 0 false 0 0 false) H locs := hW
  refine zk_ast (W1 := [(a, .inr (8, [.ref q1, .ref q3, .ref q5, .int 0, .int 0, .int 0]))] ++ wX3 G (zq q1 u2) (fun _ => 0) 0 0 ++ wX6 G (zq q3 u4) 0 0 false 0 0 false ++ [(q5, .inl (G.2.2, 6, .inr (.inr (.inr (.inr (va_up (va_up (va_up (va_up (fun _ => none) 0 (some q6)) 1 (some q8)) 2 (some q10)) 3 (some q12)))))))] ++ wX6 G (zq q6 u7) 0 0 false 0 0 false ++ wX6 G (zq q8 u9) 0 0 false 0 0 false ++ wX6 G (zq q10 u11) 0 0 false 0 0 false ++ wX6 G (zq q12 u13) 0 0 false 0 0 false) C hW 4 8 (by decide) rfl rfl rfl dX8_init_58 (fun H locs hW => ?_)
  refine lv_iinc (v := 4) (lv' := [(1, .int 4), (0, .ref a)]) hx hb dX8_init_59 hl (k := 0) rfl (by decide) (by decide) rfl (fun ls hl => ?_)
  refine lv_goto (tgt := 37) hx hb dX8_init_62 (by decide) ?_
  refine lv_iload_n hx hb dX8_init_37 rfl (lv_at hl 0 rfl) ?_
  refine lv_aload_n hx hb dX8_init_38 rfl (lv_at hl 1 rfl) ?_
  refine zk_get C hW fgX8_25 0 rfl rfl dX8_init_39 ?_
  refine zk_alenR C hW 4 rfl dX8_init_42 ?_
  refine lv_icmp_ge (tgt := 65) hx hb dX8_init_43 (by decide) (fun c1 => absurd c1 (by decide)) (fun c1 => ?_)
  refine lv_aload_n hx hb dX8_init_46 rfl (lv_at hl 1 rfl) ?_
  refine zk_get C hW fgX8_25 0 rfl rfl dX8_init_47 ?_
  refine lv_iload_n hx hb dX8_init_50 rfl (lv_at hl 0 rfl) ?_
  refine zk_new C hW mkX8_18 (Nat.le_of_ble_eq_true rfl) (Nat.le_of_ble_eq_true rfl) dX8_init_51 (fun q14 H hW => ?_)
  have hW : KW G A s ([(a, .inr (8, [.ref q1, .ref q3, .ref q5, .int 0, .int 0, .int 0]))] ++ wX3 G (zq q1 u2) (fun _ => 0) 0 0 ++ wX6 G (zq q3 u4) 0 0 false 0 0 false ++ [(q5, .inl (G.2.2, 6, .inr (.inr (.inr (.inr (va_up (va_up (va_up (va_up (fun _ => none) 0 (some q6)) 1 (some q8)) 2 (some q10)) 3 (some q12)))))))] ++ wX6 G (zq q6 u7) 0 0 false 0 0 false ++ wX6 G (zq q8 u9) 0 0 false 0 0 false ++ wX6 G (zq q10 u11) 0 0 false 0 0 false ++ wX6 G (zq q12 u13) 0 0 false 0 0 false ++ [(q14, .inr (6, [.int 0, .int 0, .int 0, .int 0, .int 0, .int 0]))]) H _ := hW
  refine lv_dup hx hb dX8_init_54 rfl ?_
  refine zk_callN (As := []) (rest := [.ref q14, .int 4, .ref q5]) (Wn := fun u15 => [(a, .inr (8, [.ref q1, .ref q3, .ref q5, .int 0, .int 0, .int 0]))] ++ wX3 G (zq q1 u2) (fun _ => 0) 0 0 ++ wX6 G (zq q3 u4) 0 0 false 0 0 false ++ [(q5, .inl (G.2.2, 6, .inr (.inr (.inr (.inr (va_up (va_up (va_up (va_up (fun _ => none) 0 (some q6)) 1 (some q8)) 2 (some q10)) 3 (some q12)))))))] ++ wX6 G (zq q6 u7) 0 0 false 0 0 false ++ wX6 G (zq q8 u9) 0 0 false 0 0 false ++ wX6 G (zq q10 u11) 0 0 false 0 0 false ++ wX6 G (zq q12 u13) 0 0 false 0 0 false ++ wX6 G (zq q14 u15) 0 0 false 0 0 false) C hW hl mnX8_20 (c_X6_init l G q14) ⟨(Nat.le_of_ble_eq_true rfl), (Nat.le_of_ble_eq_true rfl)⟩ ⟨rfl, rfl⟩ [9] rfl rfl rfl (Nat.le_of_ble_eq_true rfl) (fun _ => (Nat.le_of_ble_eq_true rfl)) (fun _ => rfl) dX8_init_55 ⟨(Nat.le_of_ble_eq_true rfl), (Nat.le_of_ble_eq_true rfl)⟩ (fun u15 H locs hW => ?_)
  have hW : KW G A s ([(a, .inr (8, [.ref q1, .ref q3, .ref q5, .int 0, .int 0, .int 0]))] ++ wX3 G (zq q1 u2) (fun _ => 0) 0 0 ++ wX6 G (zq q3 u4) 0 0 false 0 0 false ++ [(q5, .inl (G.2.2, 6, .inr (.inr (.inr (.inr (va_up (va_up (va_up (va_up (fun _ => none) 0 (some q6)) 1 (some q8)) 2 (some q10)) 3 (some q12)))))))] ++ wX6 G (zq q6 u7) 0 0 false 0 0 false ++ wX6 G (zq q8 u9) 0 0 false 0 0 false ++ wX6 G (zq q10 u11) 0 0 false 0 0 false ++ wX6 G (zq q12 u13) 0 0 false 0 0 false ++ wX6 G (zq q14 u15) 0 0 false 0 0 false) H locs := hW
  refine zk_ast (W1 := [(a, .inr (8, [.ref q1, .ref q3, .ref q5, .int 0, .int 0, .int 0]))] ++ wX3 G (zq q1 u2) (fun _ => 0) 0 0 ++ wX6 G (zq q3 u4) 0 0 false 0 0 false ++ [(q5, .inl (G.2.2, 6, .inr (.inr (.inr (.inr (va_up (va_up (va_up (va_up (va_up (fun _ => none) 0 (some q6)) 1 (some q8)) 2 (some q10)) 3 (some q12)) 4 (some q14)))))))] ++ wX6 G (zq q6 u7) 0 0 false 0 0 false ++ wX6 G (zq q8 u9) 0 0 false 0 0 false ++ wX6 G (zq q10 u11) 0 0 false 0 0 false ++ wX6 G (zq q12 u13) 0 0 false 0 0 false ++ wX6 G (zq q14 u15) 0 0 false 0 0 false) C hW 4 9 (by decide) rfl rfl rfl dX8_init_58 (fun H locs hW => ?_)
  refine lv_iinc (v := 5) (lv' := [(1, .int 5), (0, .ref a)]) hx hb dX8_init_59 hl (k := 0) rfl (by decide) (by decide) rfl (fun ls hl => ?_)
  refine lv_goto (tgt := 37) hx hb dX8_init_62 (by decide) ?_
  refine lv_iload_n hx hb dX8_init_37 rfl (lv_at hl 0 rfl) ?_
  refine lv_aload_n hx hb dX8_init_38 rfl (lv_at hl 1 rfl) ?_
  refine zk_get C hW fgX8_25 0 rfl rfl dX8_init_39 ?_
  refine zk_alenR C hW 4 rfl dX8_init_42 ?_
  refine lv_icmp_ge (tgt := 65) hx hb dX8_init_43 (by decide) (fun c1 => absurd c1 (by decide)) (fun c1 => ?_)
  refine lv_aload_n hx hb dX8_init_46 rfl (lv_at hl 1 rfl) ?_
  refine zk_get C hW fgX8_25 0 rfl rfl dX8_init_47 ?_
  refine lv_iload_n hx hb dX8_init_50 rfl (lv_at hl 0 rfl) ?_
  refine zk_new C hW mkX8_18 (Nat.le_of_ble_eq_true rfl) (Nat.le_of_ble_eq_true rfl) dX8_init_51 (fun q16 H hW => ?_)
  have hW : KW G A s ([(a, .inr (8, [.ref q1, .ref q3, .ref q5, .int 0, .int 0, .int 0]))] ++ wX3 G (zq q1 u2) (fun _ => 0) 0 0 ++ wX6 G (zq q3 u4) 0 0 false 0 0 false ++ [(q5, .inl (G.2.2, 6, .inr (.inr (.inr (.inr (va_up (va_up (va_up (va_up (va_up (fun _ => none) 0 (some q6)) 1 (some q8)) 2 (some q10)) 3 (some q12)) 4 (some q14)))))))] ++ wX6 G (zq q6 u7) 0 0 false 0 0 false ++ wX6 G (zq q8 u9) 0 0 false 0 0 false ++ wX6 G (zq q10 u11) 0 0 false 0 0 false ++ wX6 G (zq q12 u13) 0 0 false 0 0 false ++ wX6 G (zq q14 u15) 0 0 false 0 0 false ++ [(q16, .inr (6, [.int 0, .int 0, .int 0, .int 0, .int 0, .int 0]))]) H _ := hW
  refine lv_dup hx hb dX8_init_54 rfl ?_
  refine zk_callN (As := []) (rest := [.ref q16, .int 5, .ref q5]) (Wn := fun u17 => [(a, .inr (8, [.ref q1, .ref q3, .ref q5, .int 0, .int 0, .int 0]))] ++ wX3 G (zq q1 u2) (fun _ => 0) 0 0 ++ wX6 G (zq q3 u4) 0 0 false 0 0 false ++ [(q5, .inl (G.2.2, 6, .inr (.inr (.inr (.inr (va_up (va_up (va_up (va_up (va_up (fun _ => none) 0 (some q6)) 1 (some q8)) 2 (some q10)) 3 (some q12)) 4 (some q14)))))))] ++ wX6 G (zq q6 u7) 0 0 false 0 0 false ++ wX6 G (zq q8 u9) 0 0 false 0 0 false ++ wX6 G (zq q10 u11) 0 0 false 0 0 false ++ wX6 G (zq q12 u13) 0 0 false 0 0 false ++ wX6 G (zq q14 u15) 0 0 false 0 0 false ++ wX6 G (zq q16 u17) 0 0 false 0 0 false) C hW hl mnX8_20 (c_X6_init l G q16) ⟨(Nat.le_of_ble_eq_true rfl), (Nat.le_of_ble_eq_true rfl)⟩ ⟨rfl, rfl⟩ [10] rfl rfl rfl (Nat.le_of_ble_eq_true rfl) (fun _ => (Nat.le_of_ble_eq_true rfl)) (fun _ => rfl) dX8_init_55 ⟨(Nat.le_of_ble_eq_true rfl), (Nat.le_of_ble_eq_true rfl)⟩ (fun u17 H locs hW => ?_)
  have hW : KW G A s ([(a, .inr (8, [.ref q1, .ref q3, .ref q5, .int 0, .int 0, .int 0]))] ++ wX3 G (zq q1 u2) (fun _ => 0) 0 0 ++ wX6 G (zq q3 u4) 0 0 false 0 0 false ++ [(q5, .inl (G.2.2, 6, .inr (.inr (.inr (.inr (va_up (va_up (va_up (va_up (va_up (fun _ => none) 0 (some q6)) 1 (some q8)) 2 (some q10)) 3 (some q12)) 4 (some q14)))))))] ++ wX6 G (zq q6 u7) 0 0 false 0 0 false ++ wX6 G (zq q8 u9) 0 0 false 0 0 false ++ wX6 G (zq q10 u11) 0 0 false 0 0 false ++ wX6 G (zq q12 u13) 0 0 false 0 0 false ++ wX6 G (zq q14 u15) 0 0 false 0 0 false ++ wX6 G (zq q16 u17) 0 0 false 0 0 false) H locs := hW
  refine zk_ast (W1 := [(a, .inr (8, [.ref q1, .ref q3, .ref q5, .int 0, .int 0, .int 0]))] ++ wX3 G (zq q1 u2) (fun _ => 0) 0 0 ++ wX6 G (zq q3 u4) 0 0 false 0 0 false ++ [(q5, .inl (G.2.2, 6, .inr (.inr (.inr (.inr (va_up (va_up (va_up (va_up (va_up (va_up (fun _ => none) 0 (some q6)) 1 (some q8)) 2 (some q10)) 3 (some q12)) 4 (some q14)) 5 (some q16)))))))] ++ wX6 G (zq q6 u7) 0 0 false 0 0 false ++ wX6 G (zq q8 u9) 0 0 false 0 0 false ++ wX6 G (zq q10 u11) 0 0 false 0 0 false ++ wX6 G (zq q12 u13) 0 0 false 0 0 false ++ wX6 G (zq q14 u15) 0 0 false 0 0 false ++ wX6 G (zq q16 u17) 0 0 false 0 0 false) C hW 4 10 (by decide) rfl rfl rfl dX8_init_58 (fun H locs hW => ?_)
  refine lv_iinc (v := 6) (lv' := [(1, .int 6), (0, .ref a)]) hx hb dX8_init_59 hl (k := 0) rfl (by decide) (by decide) rfl (fun ls hl => ?_)
  refine lv_goto (tgt := 37) hx hb dX8_init_62 (by decide) ?_
  refine lv_iload_n hx hb dX8_init_37 rfl (lv_at hl 0 rfl) ?_
  refine lv_aload_n hx hb dX8_init_38 rfl (lv_at hl 1 rfl) ?_
  refine zk_get C hW fgX8_25 0 rfl rfl dX8_init_39 ?_
  refine zk_alenR C hW 4 rfl dX8_init_42 ?_
  refine lv_icmp_ge (tgt := 65) hx hb dX8_init_43 (by decide) (fun c1 => ?_) (fun c1 => absurd (by decide) c1)
  exact zk_nret (fun k => ([q1, (u2 0), q3, q5, q6, q8, q10, q12, q14, q16] : List Nat).getD k 0) C hW dX8_init_65
theorem mkX9_7 : MK RX9 7 5 2 [.null, .int 0] := ⟨RX5, TX5, tyX5, rfl, iwX5, tyX5_ok, kcX9_7, knX5, kzX5, fun j hj => by rcases (show j = 0 ∨ j = 1 by omega) with rfl | rfl <;> rfl⟩
theorem mkX9_16 : MK RX9 16 3 3 [.null, .int 0, .int 0] := ⟨RX3, TX3, tyX3, rfl, iwX3, tyX3_ok, kcX9_16, knX3, kzX3, fun j hj => by rcases (show j = 0 ∨ j = 1 ∨ j = 2 by omega) with rfl | rfl | rfl <;> rfl⟩
theorem mkX9_23 : MK RX9 23 4 2 [.null, .int 0] := ⟨RX4, TX4, tyX4, rfl, iwX4, tyX4_ok, kcX9_23, knX4, kzX4, fun j hj => by rcases (show j = 0 ∨ j = 1 by omega) with rfl | rfl <;> rfl⟩
theorem mkX9_30 : MK RX9 30 7 2 [.null, .int 0] := ⟨RX7, TX7, tyX7, rfl, iwX7, tyX7_ok, kcX9_30, knX7, kzX7, fun j hj => by rcases (show j = 0 ∨ j = 1 by omega) with rfl | rfl <;> rfl⟩
theorem mkX9_37 : MK RX9 37 2 5 [.null, .null, .int 0, .int 0, .int 0] := ⟨RX2, TX2, tyX2, rfl, iwX2, tyX2_ok, kcX9_37, knX2, kzX2, fun j hj => by rcases (show j = 0 ∨ j = 1 ∨ j = 2 ∨ j = 3 ∨ j = 4 by omega) with rfl | rfl | rfl | rfl | rfl <;> rfl⟩
theorem mkX9_44 : MK RX9 44 6 6 [.int 0, .int 0, .int 0, .int 0, .int 0, .int 0] := ⟨RX6, TX6, tyX6, rfl, iwX6, tyX6_ok, kcX9_44, knX6, kzX6, fun j hj => by rcases (show j = 0 ∨ j = 1 ∨ j = 2 ∨ j = 3 ∨ j = 4 ∨ j = 5 by omega) with rfl | rfl | rfl | rfl | rfl | rfl <;> rfl⟩
theorem mkX9_51 : MK RX9 51 8 6 [.null, .null, .null, .int 0, .int 0, .int 0] := ⟨RX8, TX8, tyX8, rfl, iwX8, tyX8_ok, kcX9_51, knX8, kzX8, fun j hj => by rcases (show j = 0 ∨ j = 1 ∨ j = 2 ∨ j = 3 ∨ j = 4 ∨ j = 5 by omega) with rfl | rfl | rfl | rfl | rfl | rfl <;> rfl⟩
theorem mkX9_58 : MK RX9 58 1 3 [.null, .null, .null] := ⟨RX1, TX1, tyX1, rfl, iwX1, tyX1_ok, kcX9_58, knX1, kzX1, fun j hj => by rcases (show j = 0 ∨ j = 1 ∨ j = 2 by omega) with rfl | rfl | rfl <;> rfl⟩
theorem mkX9_65 : MK RX9 65 0 5 [.null, .null, .int 0, .int 0, .int 0] := ⟨RX0, TX0, tyX0, rfl, iwX0, tyX0_ok, kcX9_65, knX0, kzX0, fun j hj => by rcases (show j = 0 ∨ j = 1 ∨ j = 2 ∨ j = 3 ∨ j = 4 by omega) with rfl | rfl | rfl | rfl | rfl <;> rfl⟩
set_option maxHeartbeats 4000000 in
set_option maxRecDepth 100000 in
theorem c_X9_init (l : Launch) (G : GG) (a : Nat) : CtN G l yX9_init (Cond.code yX9_init cX9_init 1 none :: WL) (zRn 3 34 223 53) [.ref a] [(a, .inr (9, [.null, .null, .null, .null, .null, .null, .null, .null, .null, .null, .int 0, .int 0, .int 0]))] (fun u => wX9 G (zq a u) zX5 zX3 zX4 zX7 zX2 zX6 zX8 zX1 zX0 (fun _ => 0) 0 0 0) 34 223 := by
  refine CtN.mk (cc := cX9_init) (nL := 1) (rt := none) (own := RX9) (nm := "<init>") (by decide) rfl rfl (Nat.le_of_ble_eq_true rfl) ?_
  intro p e s m below meth c A ls C hW hl
  have hx := C.1
  have hb := C.2.1
  have hl : lv_has ls 1 [(0, .ref a)] := hl
  refine lv_aload_n hx hb dX9_init_0 rfl (lv_at hl 0 rfl) ?_
  refine zk_obj C hl koX9_1 dX9_init_1 (Nat.le_of_ble_eq_true rfl) (Nat.le_of_ble_eq_true rfl) ?_
  refine lv_aload_n hx hb dX9_init_4 rfl (lv_at hl 0 rfl) ?_
  refine zk_new C hW mkX9_7 (Nat.le_of_ble_eq_true rfl) (Nat.le_of_ble_eq_true rfl) dX9_init_5 (fun q1 H hW => ?_)
  have hW : KW G A s ([(a, .inr (9, [.null, .null, .null, .null, .null, .null, .null, .null, .null, .null, .int 0, .int 0, .int 0]))] ++ [(q1, .inr (5, [.null, .int 0]))]) H _ := hW
  refine lv_dup hx hb dX9_init_8 rfl ?_
  refine zk_callN (As := []) (rest := [.ref q1, .ref a]) (Wn := fun u2 => [(a, .inr (9, [.null, .null, .null, .null, .null, .null, .null, .null, .null, .null, .int 0, .int 0, .int 0]))] ++ wX5 G (zq q1 u2) (fun _ => 0) 0) C hW hl mnX9_9 (c_X5_init l G q1) ⟨(Nat.le_of_ble_eq_true rfl), (Nat.le_of_ble_eq_true rfl)⟩ ⟨rfl, rfl⟩ [1] rfl rfl rfl (Nat.le_of_ble_eq_true rfl) (fun _ => (Nat.le_of_ble_eq_true rfl)) (fun _ => rfl) dX9_init_9 ⟨(Nat.le_of_ble_eq_true rfl), (Nat.le_of_ble_eq_true rfl)⟩ (fun u2 H locs hW => ?_)
  have hW : KW G A s ([(a, .inr (9, [.null, .null, .null, .null, .null, .null, .null, .null, .null, .null, .int 0, .int 0, .int 0]))] ++ wX5 G (zq q1 u2) (fun _ => 0) 0) H locs := hW
  refine zk_putF (W1 := [(a, .inr (9, [.ref q1, .null, .null, .null, .null, .null, .null, .null, .null, .null, .int 0, .int 0, .int 0]))] ++ wX5 G (zq q1 u2) (fun _ => 0) 0) C hW ffX9_10 0 rfl rfl rfl (Nat.le_of_ble_eq_true rfl) rfl dX9_init_12 (fun H locs hW => ?_)
  refine lv_aload_n hx hb dX9_init_15 rfl (lv_at hl 0 rfl) ?_
  refine zk_new C hW mkX9_16 (Nat.le_of_ble_eq_true rfl) (Nat.le_of_ble_eq_true rfl) dX9_init_16 (fun q3 H hW => ?_)
  have hW : KW G A s ([(a, .inr (9, [.ref q1, .null, .null, .null, .null, .null, .null, .null, .null, .null, .int 0, .int 0, .int 0]))] ++ wX5 G (zq q1 u2) (fun _ => 0) 0 ++ [(q3, .inr (3, [.null, .int 0, .int 0]))]) H _ := hW
  refine lv_dup hx hb dX9_init_19 rfl ?_
  refine zk_callN (As := []) (rest := [.ref q3, .ref a]) (Wn := fun u4 => [(a, .inr (9, [.ref q1, .null, .null, .null, .null, .null, .null, .null, .null, .null, .int 0, .int 0, .int 0]))] ++ wX5 G (zq q1 u2) (fun _ => 0) 0 ++ wX3 G (zq q3 u4) (fun _ => 0) 0 0) C hW hl mnX9_18 (c_X3_init l G q3) ⟨(Nat.le_of_ble_eq_true rfl), (Nat.le_of_ble_eq_true rfl)⟩ ⟨rfl, rfl⟩ [3] rfl rfl rfl (Nat.le_of_ble_eq_true rfl) (fun _ => (Nat.le_of_ble_eq_true rfl)) (fun _ => rfl) dX9_init_20 ⟨(Nat.le_of_ble_eq_true rfl), (Nat.le_of_ble_eq_true rfl)⟩ (fun u4 H locs hW => ?_)
  have hW : KW G A s ([(a, .inr (9, [.ref q1, .null, .null, .null, .null, .null, .null, .null, .null, .null, .int 0, .int 0, .int 0]))] ++ wX5 G (zq q1 u2) (fun _ => 0) 0 ++ wX3 G (zq q3 u4) (fun _ => 0) 0 0) H locs := hW
  refine zk_putF (W1 := [(a, .inr (9, [.ref q1, .ref q3, .null, .null, .null, .null, .null, .null, .null, .null, .int 0, .int 0, .int 0]))] ++ wX5 G (zq q1 u2) (fun _ => 0) 0 ++ wX3 G (zq q3 u4) (fun _ => 0) 0 0) C hW ffX9_19 0 rfl rfl rfl (Nat.le_of_ble_eq_true rfl) rfl dX9_init_23 (fun H locs hW => ?_)
  refine lv_aload_n hx hb dX9_init_26 rfl (lv_at hl 0 rfl) ?_
  refine zk_new C hW mkX9_23 (Nat.le_of_ble_eq_true rfl) (Nat.le_of_ble_eq_true rfl) dX9_init_27 (fun q5 H hW => ?_)
  have hW : KW G A s ([(a, .inr (9, [.ref q1, .ref q3, .null, .null, .null, .null, .null, .null, .null, .null, .int 0, .int 0, .int 0]))] ++ wX5 G (zq q1 u2) (fun _ => 0) 0 ++ wX3 G (zq q3 u4) (fun _ => 0) 0 0 ++ [(q5, .inr (4, [.null, .int 0]))]) H _ := hW
  refine lv_dup hx hb dX9_init_30 rfl ?_
  refine zk_callN (As := []) (rest := [.ref q5, .ref a]) (Wn := fun u6 => [(a, .inr (9, [.ref q1, .ref q3, .null, .null, .null, .null, .null, .null, .null, .null, .int 0, .int 0, .int 0]))] ++ wX5 G (zq q1 u2) (fun _ => 0) 0 ++ wX3 G (zq q3 u4) (fun _ => 0) 0 0 ++ wX4 G (zq q5 u6) (fun _ => 0) 0) C hW hl mnX9_25 (c_X4_init l G q5) ⟨(Nat.le_of_ble_eq_true rfl), (Nat.le_of_ble_eq_true rfl)⟩ ⟨rfl, rfl⟩ [5] rfl rfl rfl (Nat.le_of_ble_eq_true rfl) (fun _ => (Nat.le_of_ble_eq_true rfl)) (fun _ => rfl) dX9_init_31 ⟨(Nat.le_of_ble_eq_true rfl), (Nat.le_of_ble_eq_true rfl)⟩ (fun u6 H locs hW => ?_)
  have hW : KW G A s ([(a, .inr (9, [.ref q1, .ref q3, .null, .null, .null, .null, .null, .null, .null, .null, .int 0, .int 0, .int 0]))] ++ wX5 G (zq q1 u2) (fun _ => 0) 0 ++ wX3 G (zq q3 u4) (fun _ => 0) 0 0 ++ wX4 G (zq q5 u6) (fun _ => 0) 0) H locs := hW
  refine zk_putF (W1 := [(a, .inr (9, [.ref q1, .ref q3, .ref q5, .null, .null, .null, .null, .null, .null, .null, .int 0, .int 0, .int 0]))] ++ wX5 G (zq q1 u2) (fun _ => 0) 0 ++ wX3 G (zq q3 u4) (fun _ => 0) 0 0 ++ wX4 G (zq q5 u6) (fun _ => 0) 0) C hW ffX9_26 0 rfl rfl rfl (Nat.le_of_ble_eq_true rfl) rfl dX9_init_34 (fun H locs hW => ?_)
  refine lv_aload_n hx hb dX9_init_37 rfl (lv_at hl 0 rfl) ?_
  refine zk_new C hW mkX9_30 (Nat.le_of_ble_eq_true rfl) (Nat.le_of_ble_eq_true rfl) dX9_init_38 (fun q7 H hW => ?_)
  have hW : KW G A s ([(a, .inr (9, [.ref q1, .ref q3, .ref q5, .null, .null, .null, .null, .null, .null, .null, .int 0, .int 0, .int 0]))] ++ wX5 G (zq q1 u2) (fun _ => 0) 0 ++ wX3 G (zq q3 u4) (fun _ => 0) 0 0 ++ wX4 G (zq q5 u6) (fun _ => 0) 0 ++ [(q7, .inr (7, [.null, .int 0]))]) H _ := hW
  refine lv_dup hx hb dX9_init_41 rfl ?_
  refine zk_callN (As := []) (rest := [.ref q7, .ref a]) (Wn := fun u8 => [(a, .inr (9, [.ref q1, .ref q3, .ref q5, .null, .null, .null, .null, .null, .null, .null, .int 0, .int 0, .int 0]))] ++ wX5 G (zq q1 u2) (fun _ => 0) 0 ++ wX3 G (zq q3 u4) (fun _ => 0) 0 0 ++ wX4 G (zq q5 u6) (fun _ => 0) 0 ++ wX7 G (zq q7 u8) (fun _ => 0) 0) C hW hl mnX9_32 (c_X7_init l G q7) ⟨(Nat.le_of_ble_eq_true rfl), (Nat.le_of_ble_eq_true rfl)⟩ ⟨rfl, rfl⟩ [7] rfl rfl rfl (Nat.le_of_ble_eq_true rfl) (fun _ => (Nat.le_of_ble_eq_true rfl)) (fun _ => rfl) dX9_init_42 ⟨(Nat.le_of_ble_eq_true rfl), (Nat.le_of_ble_eq_true rfl)⟩ (fun u8 H locs hW => ?_)
  have hW : KW G A s ([(a, .inr (9, [.ref q1, .ref q3, .ref q5, .null, .null, .null, .null, .null, .null, .null, .int 0, .int 0, .int 0]))] ++ wX5 G (zq q1 u2) (fun _ => 0) 0 ++ wX3 G (zq q3 u4) (fun _ => 0) 0 0 ++ wX4 G (zq q5 u6) (fun _ => 0) 0 ++ wX7 G (zq q7 u8) (fun _ => 0) 0) H locs := hW
  refine zk_putF (W1 := [(a, .inr (9, [.ref q1, .ref q3, .ref q5, .ref q7, .null, .null, .null, .null, .null, .null, .int 0, .int 0, .int 0]))] ++ wX5 G (zq q1 u2) (fun _ => 0) 0 ++ wX3 G (zq q3 u4) (fun _ => 0) 0 0 ++ wX4 G (zq q5 u6) (fun _ => 0) 0 ++ wX7 G (zq q7 u8) (fun _ => 0) 0) C hW ffX9_33 0 rfl rfl rfl (Nat.le_of_ble_eq_true rfl) rfl dX9_init_45 (fun H locs hW => ?_)
  refine lv_aload_n hx hb dX9_init_48 rfl (lv_at hl 0 rfl) ?_
  refine zk_new C hW mkX9_37 (Nat.le_of_ble_eq_true rfl) (Nat.le_of_ble_eq_true rfl) dX9_init_49 (fun q9 H hW => ?_)
  have hW : KW G A s ([(a, .inr (9, [.ref q1, .ref q3, .ref q5, .ref q7, .null, .null, .null, .null, .null, .null, .int 0, .int 0, .int 0]))] ++ wX5 G (zq q1 u2) (fun _ => 0) 0 ++ wX3 G (zq q3 u4) (fun _ => 0) 0 0 ++ wX4 G (zq q5 u6) (fun _ => 0) 0 ++ wX7 G (zq q7 u8) (fun _ => 0) 0 ++ [(q9, .inr (2, [.null, .null, .int 0, .int 0, .int 0]))]) H _ := hW
  refine lv_dup hx hb dX9_init_52 rfl ?_
  refine zk_callN (As := []) (rest := [.ref q9, .ref a]) (Wn := fun u10 => [(a, .inr (9, [.ref q1, .ref q3, .ref q5, .ref q7, .null, .null, .null, .null, .null, .null, .int 0, .int 0, .int 0]))] ++ wX5 G (zq q1 u2) (fun _ => 0) 0 ++ wX3 G (zq q3 u4) (fun _ => 0) 0 0 ++ wX4 G (zq q5 u6) (fun _ => 0) 0 ++ wX7 G (zq q7 u8) (fun _ => 0) 0 ++ wX2 G (zq q9 u10) zX3 zX7 0 0 false) C hW hl mnX9_39 (c_X2_init l G q9) ⟨(Nat.le_of_ble_eq_true rfl), (Nat.le_of_ble_eq_true rfl)⟩ ⟨rfl, rfl⟩ [9] rfl rfl rfl (Nat.le_of_ble_eq_true rfl) (fun _ => (Nat.le_of_ble_eq_true rfl)) (fun _ => rfl) dX9_init_53 ⟨(Nat.le_of_ble_eq_true rfl), (Nat.le_of_ble_eq_true rfl)⟩ (fun u10 H locs hW => ?_)
  have hW : KW G A s ([(a, .inr (9, [.ref q1, .ref q3, .ref q5, .ref q7, .null, .null, .null, .null, .null, .null, .int 0, .int 0, .int 0]))] ++ wX5 G (zq q1 u2) (fun _ => 0) 0 ++ wX3 G (zq q3 u4) (fun _ => 0) 0 0 ++ wX4 G (zq q5 u6) (fun _ => 0) 0 ++ wX7 G (zq q7 u8) (fun _ => 0) 0 ++ wX2 G (zq q9 u10) zX3 zX7 0 0 false) H locs := hW
  refine zk_putF (W1 := [(a, .inr (9, [.ref q1, .ref q3, .ref q5, .ref q7, .ref q9, .null, .null, .null, .null, .null, .int 0, .int 0, .int 0]))] ++ wX5 G (zq q1 u2) (fun _ => 0) 0 ++ wX3 G (zq q3 u4) (fun _ => 0) 0 0 ++ wX4 G (zq q5 u6) (fun _ => 0) 0 ++ wX7 G (zq q7 u8) (fun _ => 0) 0 ++ wX2 G (zq q9 u10) zX3 zX7 0 0 false) C hW ffX9_40 0 rfl rfl rfl (Nat.le_of_ble_eq_true rfl) rfl dX9_init_56 (fun H locs hW => ?_)
  refine lv_aload_n hx hb dX9_init_59 rfl (lv_at hl 0 rfl) ?_
  refine zk_new C hW mkX9_44 (Nat.le_of_ble_eq_true rfl) (Nat.le_of_ble_eq_true rfl) dX9_init_60 (fun q11 H hW => ?_)
  have hW : KW G A s ([(a, .inr (9, [.ref q1, .ref q3, .ref q5, .ref q7, .ref q9, .null, .null, .null, .null, .null, .int 0, .int 0, .int 0]))] ++ wX5 G (zq q1 u2) (fun _ => 0) 0 ++ wX3 G (zq q3 u4) (fun _ => 0) 0 0 ++ wX4 G (zq q5 u6) (fun _ => 0) 0 ++ wX7 G (zq q7 u8) (fun _ => 0) 0 ++ wX2 G (zq q9 u10) zX3 zX7 0 0 false ++ [(q11, .inr (6, [.int 0, .int 0, .int 0, .int 0, .int 0, .int 0]))]) H _ := hW
  refine lv_dup hx hb dX9_init_63 rfl ?_
  refine zk_callN (As := []) (rest := [.ref q11, .ref a]) (Wn := fun u12 => [(a, .inr (9, [.ref q1, .ref q3, .ref q5, .ref q7, .ref q9, .null, .null, .null, .null, .null, .int 0, .int 0, .int 0]))] ++ wX5 G (zq q1 u2) (fun _ => 0) 0 ++ wX3 G (zq q3 u4) (fun _ => 0) 0 0 ++ wX4 G (zq q5 u6) (fun _ => 0) 0 ++ wX7 G (zq q7 u8) (fun _ => 0) 0 ++ wX2 G (zq q9 u10) zX3 zX7 0 0 false ++ wX6 G (zq q11 u12) 0 0 false 0 0 false) C hW hl mnX9_46 (c_X6_init l G q11) ⟨(Nat.le_of_ble_eq_true rfl), (Nat.le_of_ble_eq_true rfl)⟩ ⟨rfl, rfl⟩ [14] rfl rfl rfl (Nat.le_of_ble_eq_true rfl) (fun _ => (Nat.le_of_ble_eq_true rfl)) (fun _ => rfl) dX9_init_64 ⟨(Nat.le_of_ble_eq_true rfl), (Nat.le_of_ble_eq_true rfl)⟩ (fun u12 H locs hW => ?_)
  have hW : KW G A s ([(a, .inr (9, [.ref q1, .ref q3, .ref q5, .ref q7, .ref q9, .null, .null, .null, .null, .null, .int 0, .int 0, .int 0]))] ++ wX5 G (zq q1 u2) (fun _ => 0) 0 ++ wX3 G (zq q3 u4) (fun _ => 0) 0 0 ++ wX4 G (zq q5 u6) (fun _ => 0) 0 ++ wX7 G (zq q7 u8) (fun _ => 0) 0 ++ wX2 G (zq q9 u10) zX3 zX7 0 0 false ++ wX6 G (zq q11 u12) 0 0 false 0 0 false) H locs := hW
  refine zk_putF (W1 := [(a, .inr (9, [.ref q1, .ref q3, .ref q5, .ref q7, .ref q9, .ref q11, .null, .null, .null, .null, .int 0, .int 0, .int 0]))] ++ wX5 G (zq q1 u2) (fun _ => 0) 0 ++ wX3 G (zq q3 u4) (fun _ => 0) 0 0 ++ wX4 G (zq q5 u6) (fun _ => 0) 0 ++ wX7 G (zq q7 u8) (fun _ => 0) 0 ++ wX2 G (zq q9 u10) zX3 zX7 0 0 false ++ wX6 G (zq q11 u12) 0 0 false 0 0 false) C hW ffX9_47 0 rfl rfl rfl (Nat.le_of_ble_eq_true rfl) rfl dX9_init_67 (fun H locs hW => ?_)
  refine lv_aload_n hx hb dX9_init_70 rfl (lv_at hl 0 rfl) ?_
  refine zk_new C hW mkX9_51 (Nat.le_of_ble_eq_true rfl) (Nat.le_of_ble_eq_true rfl) dX9_init_71 (fun q13 H hW => ?_)
  have hW : KW G A s ([(a, .inr (9, [.ref q1, .ref q3, .ref q5, .ref q7, .ref q9, .ref q11, .null, .null, .null, .null, .int 0, .int 0, .int 0]))] ++ wX5 G (zq q1 u2) (fun _ => 0) 0 ++ wX3 G (zq q3 u4) (fun _ => 0) 0 0 ++ wX4 G (zq q5 u6) (fun _ => 0) 0 ++ wX7 G (zq q7 u8) (fun _ => 0) 0 ++ wX2 G (zq q9 u10) zX3 zX7 0 0 false ++ wX6 G (zq q11 u12) 0 0 false 0 0 false ++ [(q13, .inr (8, [.null, .null, .null, .int 0, .int 0, .int 0]))]) H _ := hW
  refine lv_dup hx hb dX9_init_74 rfl ?_
  refine zk_callN (As := []) (rest := [.ref q13, .ref a]) (Wn := fun u14 => [(a, .inr (9, [.ref q1, .ref q3, .ref q5, .ref q7, .ref q9, .ref q11, .null, .null, .null, .null, .int 0, .int 0, .int 0]))] ++ wX5 G (zq q1 u2) (fun _ => 0) 0 ++ wX3 G (zq q3 u4) (fun _ => 0) 0 0 ++ wX4 G (zq q5 u6) (fun _ => 0) 0 ++ wX7 G (zq q7 u8) (fun _ => 0) 0 ++ wX2 G (zq q9 u10) zX3 zX7 0 0 false ++ wX6 G (zq q11 u12) 0 0 false 0 0 false ++ wX8 G (zq q13 u14) zX3 zX6 (fun _ => zX6) 0 0 0) C hW hl mnX9_53 (c_X8_init l G q13) ⟨(Nat.le_of_ble_eq_true rfl), (Nat.le_of_ble_eq_true rfl)⟩ ⟨rfl, rfl⟩ [15] rfl rfl rfl (Nat.le_of_ble_eq_true rfl) (fun _ => (Nat.le_of_ble_eq_true rfl)) (fun _ => rfl) dX9_init_75 ⟨(Nat.le_of_ble_eq_true rfl), (Nat.le_of_ble_eq_true rfl)⟩ (fun u14 H locs hW => ?_)
  have hW : KW G A s ([(a, .inr (9, [.ref q1, .ref q3, .ref q5, .ref q7, .ref q9, .ref q11, .null, .null, .null, .null, .int 0, .int 0, .int 0]))] ++ wX5 G (zq q1 u2) (fun _ => 0) 0 ++ wX3 G (zq q3 u4) (fun _ => 0) 0 0 ++ wX4 G (zq q5 u6) (fun _ => 0) 0 ++ wX7 G (zq q7 u8) (fun _ => 0) 0 ++ wX2 G (zq q9 u10) zX3 zX7 0 0 false ++ wX6 G (zq q11 u12) 0 0 false 0 0 false ++ wX8 G (zq q13 u14) zX3 zX6 (fun _ => zX6) 0 0 0) H locs := hW
  refine zk_putF (W1 := [(a, .inr (9, [.ref q1, .ref q3, .ref q5, .ref q7, .ref q9, .ref q11, .ref q13, .null, .null, .null, .int 0, .int 0, .int 0]))] ++ wX5 G (zq q1 u2) (fun _ => 0) 0 ++ wX3 G (zq q3 u4) (fun _ => 0) 0 0 ++ wX4 G (zq q5 u6) (fun _ => 0) 0 ++ wX7 G (zq q7 u8) (fun _ => 0) 0 ++ wX2 G (zq q9 u10) zX3 zX7 0 0 false ++ wX6 G (zq q11 u12) 0 0 false 0 0 false ++ wX8 G (zq q13 u14) zX3 zX6 (fun _ => zX6) 0 0 0) C hW ffX9_54 0 rfl rfl rfl (Nat.le_of_ble_eq_true rfl) rfl dX9_init_78 (fun H locs hW => ?_)
  refine lv_aload_n hx hb dX9_init_81 rfl (lv_at hl 0 rfl) ?_
  refine zk_new C hW mkX9_58 (Nat.le_of_ble_eq_true rfl) (Nat.le_of_ble_eq_true rfl) dX9_init_82 (fun q15 H hW => ?_)
  have hW : KW G A s ([(a, .inr (9, [.ref q1, .ref q3, .ref q5, .ref q7, .ref q9, .ref q11, .ref q13, .null, .null, .null, .int 0, .int 0, .int 0]))] ++ wX5 G (zq q1 u2) (fun _ => 0) 0 ++ wX3 G (zq q3 u4) (fun _ => 0) 0 0 ++ wX4 G (zq q5 u6) (fun _ => 0) 0 ++ wX7 G (zq q7 u8) (fun _ => 0) 0 ++ wX2 G (zq q9 u10) zX3 zX7 0 0 false ++ wX6 G (zq q11 u12) 0 0 false 0 0 false ++ wX8 G (zq q13 u14) zX3 zX6 (fun _ => zX6) 0 0 0 ++ [(q15, .inr (1, [.null, .null, .null]))]) H _ := hW
  refine lv_dup hx hb dX9_init_85 rfl ?_
  refine zk_callN (As := []) (rest := [.ref q15, .ref a]) (Wn := fun u16 => [(a, .inr (9, [.ref q1, .ref q3, .ref q5, .ref q7, .ref q9, .ref q11, .ref q13, .null, .null, .null, .int 0, .int 0, .int 0]))] ++ wX5 G (zq q1 u2) (fun _ => 0) 0 ++ wX3 G (zq q3 u4) (fun _ => 0) 0 0 ++ wX4 G (zq q5 u6) (fun _ => 0) 0 ++ wX7 G (zq q7 u8) (fun _ => 0) 0 ++ wX2 G (zq q9 u10) zX3 zX7 0 0 false ++ wX6 G (zq q11 u12) 0 0 false 0 0 false ++ wX8 G (zq q13 u14) zX3 zX6 (fun _ => zX6) 0 0 0 ++ wX1 G (zq q15 u16) (fun _ => 0) (fun _ => 0) zX6) C hW hl mnX9_60 (c_X1_init l G q15) ⟨(Nat.le_of_ble_eq_true rfl), (Nat.le_of_ble_eq_true rfl)⟩ ⟨rfl, rfl⟩ [26] rfl rfl rfl (Nat.le_of_ble_eq_true rfl) (fun _ => (Nat.le_of_ble_eq_true rfl)) (fun _ => rfl) dX9_init_86 ⟨(Nat.le_of_ble_eq_true rfl), (Nat.le_of_ble_eq_true rfl)⟩ (fun u16 H locs hW => ?_)
  have hW : KW G A s ([(a, .inr (9, [.ref q1, .ref q3, .ref q5, .ref q7, .ref q9, .ref q11, .ref q13, .null, .null, .null, .int 0, .int 0, .int 0]))] ++ wX5 G (zq q1 u2) (fun _ => 0) 0 ++ wX3 G (zq q3 u4) (fun _ => 0) 0 0 ++ wX4 G (zq q5 u6) (fun _ => 0) 0 ++ wX7 G (zq q7 u8) (fun _ => 0) 0 ++ wX2 G (zq q9 u10) zX3 zX7 0 0 false ++ wX6 G (zq q11 u12) 0 0 false 0 0 false ++ wX8 G (zq q13 u14) zX3 zX6 (fun _ => zX6) 0 0 0 ++ wX1 G (zq q15 u16) (fun _ => 0) (fun _ => 0) zX6) H locs := hW
  refine zk_putF (W1 := [(a, .inr (9, [.ref q1, .ref q3, .ref q5, .ref q7, .ref q9, .ref q11, .ref q13, .ref q15, .null, .null, .int 0, .int 0, .int 0]))] ++ wX5 G (zq q1 u2) (fun _ => 0) 0 ++ wX3 G (zq q3 u4) (fun _ => 0) 0 0 ++ wX4 G (zq q5 u6) (fun _ => 0) 0 ++ wX7 G (zq q7 u8) (fun _ => 0) 0 ++ wX2 G (zq q9 u10) zX3 zX7 0 0 false ++ wX6 G (zq q11 u12) 0 0 false 0 0 false ++ wX8 G (zq q13 u14) zX3 zX6 (fun _ => zX6) 0 0 0 ++ wX1 G (zq q15 u16) (fun _ => 0) (fun _ => 0) zX6) C hW ffX9_61 0 rfl rfl rfl (Nat.le_of_ble_eq_true rfl) rfl dX9_init_89 (fun H locs hW => ?_)
  refine lv_aload_n hx hb dX9_init_92 rfl (lv_at hl 0 rfl) ?_
  refine zk_new C hW mkX9_65 (Nat.le_of_ble_eq_true rfl) (Nat.le_of_ble_eq_true rfl) dX9_init_93 (fun q17 H hW => ?_)
  have hW : KW G A s ([(a, .inr (9, [.ref q1, .ref q3, .ref q5, .ref q7, .ref q9, .ref q11, .ref q13, .ref q15, .null, .null, .int 0, .int 0, .int 0]))] ++ wX5 G (zq q1 u2) (fun _ => 0) 0 ++ wX3 G (zq q3 u4) (fun _ => 0) 0 0 ++ wX4 G (zq q5 u6) (fun _ => 0) 0 ++ wX7 G (zq q7 u8) (fun _ => 0) 0 ++ wX2 G (zq q9 u10) zX3 zX7 0 0 false ++ wX6 G (zq q11 u12) 0 0 false 0 0 false ++ wX8 G (zq q13 u14) zX3 zX6 (fun _ => zX6) 0 0 0 ++ wX1 G (zq q15 u16) (fun _ => 0) (fun _ => 0) zX6 ++ [(q17, .inr (0, [.null, .null, .int 0, .int 0, .int 0]))]) H _ := hW
  refine lv_dup hx hb dX9_init_96 rfl ?_
  refine zk_callN (As := []) (rest := [.ref q17, .ref a]) (Wn := fun u18 => [(a, .inr (9, [.ref q1, .ref q3, .ref q5, .ref q7, .ref q9, .ref q11, .ref q13, .ref q15, .null, .null, .int 0, .int 0, .int 0]))] ++ wX5 G (zq q1 u2) (fun _ => 0) 0 ++ wX3 G (zq q3 u4) (fun _ => 0) 0 0 ++ wX4 G (zq q5 u6) (fun _ => 0) 0 ++ wX7 G (zq q7 u8) (fun _ => 0) 0 ++ wX2 G (zq q9 u10) zX3 zX7 0 0 false ++ wX6 G (zq q11 u12) 0 0 false 0 0 false ++ wX8 G (zq q13 u14) zX3 zX6 (fun _ => zX6) 0 0 0 ++ wX1 G (zq q15 u16) (fun _ => 0) (fun _ => 0) zX6 ++ wX0 G (zq q17 u18) zX3 zX6 0 0 0) C hW hl mnX9_67 (c_X0_init l G q17) ⟨(Nat.le_of_ble_eq_true rfl), (Nat.le_of_ble_eq_true rfl)⟩ ⟨rfl, rfl⟩ [30] rfl rfl rfl (Nat.le_of_ble_eq_true rfl) (fun _ => (Nat.le_of_ble_eq_true rfl)) (fun _ => rfl) dX9_init_97 ⟨(Nat.le_of_ble_eq_true rfl), (Nat.le_of_ble_eq_true rfl)⟩ (fun u18 H locs hW => ?_)
  have hW : KW G A s ([(a, .inr (9, [.ref q1, .ref q3, .ref q5, .ref q7, .ref q9, .ref q11, .ref q13, .ref q15, .null, .null, .int 0, .int 0, .int 0]))] ++ wX5 G (zq q1 u2) (fun _ => 0) 0 ++ wX3 G (zq q3 u4) (fun _ => 0) 0 0 ++ wX4 G (zq q5 u6) (fun _ => 0) 0 ++ wX7 G (zq q7 u8) (fun _ => 0) 0 ++ wX2 G (zq q9 u10) zX3 zX7 0 0 false ++ wX6 G (zq q11 u12) 0 0 false 0 0 false ++ wX8 G (zq q13 u14) zX3 zX6 (fun _ => zX6) 0 0 0 ++ wX1 G (zq q15 u16) (fun _ => 0) (fun _ => 0) zX6 ++ wX0 G (zq q17 u18) zX3 zX6 0 0 0) H locs := hW
  refine zk_putF (W1 := [(a, .inr (9, [.ref q1, .ref q3, .ref q5, .ref q7, .ref q9, .ref q11, .ref q13, .ref q15, .ref q17, .null, .int 0, .int 0, .int 0]))] ++ wX5 G (zq q1 u2) (fun _ => 0) 0 ++ wX3 G (zq q3 u4) (fun _ => 0) 0 0 ++ wX4 G (zq q5 u6) (fun _ => 0) 0 ++ wX7 G (zq q7 u8) (fun _ => 0) 0 ++ wX2 G (zq q9 u10) zX3 zX7 0 0 false ++ wX6 G (zq q11 u12) 0 0 false 0 0 false ++ wX8 G (zq q13 u14) zX3 zX6 (fun _ => zX6) 0 0 0 ++ wX1 G (zq q15 u16) (fun _ => 0) (fun _ => 0) zX6 ++ wX0 G (zq q17 u18) zX3 zX6 0 0 0) C hW ffX9_68 0 rfl rfl rfl (Nat.le_of_ble_eq_true rfl) rfl dX9_init_100 (fun H locs hW => ?_)
  refine lv_aload_n hx hb dX9_init_103 rfl (lv_at hl 0 rfl) ?_
  refine lv_bipush (v := 10) hx hb dX9_init_104 (by decide) ?_
  refine zk_newa C hW 10 (by decide) (by decide) (by decide) (Nat.le_of_ble_eq_true rfl) (Nat.le_of_ble_eq_true rfl) dX9_init_106 (fun q19 H hW => ?_)
  have hW : KW G A s ([(a, .inr (9, [.ref q1, .ref q3, .ref q5, .ref q7, .ref q9, .ref q11, .ref q13, .ref q15, .ref q17, .null, .int 0, .int 0, .int 0]))] ++ wX5 G (zq q1 u2) (fun _ => 0) 0 ++ wX3 G (zq q3 u4) (fun _ => 0) 0 0 ++ wX4 G (zq q5 u6) (fun _ => 0) 0 ++ wX7 G (zq q7 u8) (fun _ => 0) 0 ++ wX2 G (zq q9 u10) zX3 zX7 0 0 false ++ wX6 G (zq q11 u12) 0 0 false 0 0 false ++ wX8 G (zq q13 u14) zX3 zX6 (fun _ => zX6) 0 0 0 ++ wX1 G (zq q15 u16) (fun _ => 0) (fun _ => 0) zX6 ++ wX0 G (zq q17 u18) zX3 zX6 0 0 0 ++ [(q19, .inl (G.2.1, 10, .inl (fun _ => 0)))]) H _ := hW
  refine zk_putF (W1 := [(a, .inr (9, [.ref q1, .ref q3, .ref q5, .ref q7, .ref q9, .ref q11, .ref q13, .ref q15, .ref q17, .ref q19, .int 0, .int 0, .int 0]))] ++ wX5 G (zq q1 u2) (fun _ => 0) 0 ++ wX3 G (zq q3 u4) (fun _ => 0) 0 0 ++ wX4 G (zq q5 u6) (fun _ => 0) 0 ++ wX7 G (zq q7 u8) (fun _ => 0) 0 ++ wX2 G (zq q9 u10) zX3 zX7 0 0 false ++ wX6 G (zq q11 u12) 0 0 false 0 0 false ++ wX8 G (zq q13 u14) zX3 zX6 (fun _ => zX6) 0 0 0 ++ wX1 G (zq q15 u16) (fun _ => 0) (fun _ => 0) zX6 ++ wX0 G (zq q17 u18) zX3 zX6 0 0 0 ++ [(q19, .inl (G.2.1, 10, .inl (fun _ => 0)))]) C hW ffX9_72 0 rfl rfl rfl (Nat.le_of_ble_eq_true rfl) rfl dX9_init_108 (fun H locs hW => ?_)
  exact zk_nret (fun k => ([q1, (u2 0), q3, (u4 0), q5, (u6 0), q7, (u8 0), q9, (u10 0), (u10 1), (u10 2), (u10 3), q11, q13, (u14 0), (u14 1), (u14 2), (u14 3), (u14 4), (u14 5), (u14 6), (u14 7), (u14 8), (u14 9), q15, (u16 0), (u16 1), (u16 2), q17, (u18 0), (u18 1), (u18 2), q19] : List Nat).getD k 0) C hW dX9_init_111
set_option maxHeartbeats 4000000 in
set_option maxRecDepth 100000 in
theorem c_X10_init (l : Launch) (G : GG) (a : Nat) : CtN G l yX10_init (Cond.code yX10_init cX10_init 1 none :: WL) (zRn 1 8 66 12) [.ref a] [(a, .inr (10, [.null, .int 0, .int 0, .int 0, .int 0, .int 0, .int 0, .int 0, .null, .int 0, .null, .int 0, .int 0, .int 0, .int 0, .int 0, .int 0, .null, .int 0, .null, .null, .int 0, .int 0, .int 0, .int 0, .int 0, .int 0, .null, .null, .long 0]))] (fun u => wX10 G (zq a u) (fun _ => 0) 0 0 0 0 0 0 0 (fun _ => 0) 0 (fun _ => 0) 0 false 0 0 false 0 (fun _ => 0) 0 (fun _ => 0) (fun _ => 0) 0 (-1) 0 0 0 0 (fun _ => 0) (fun _ => 0) 0) 8 66 := by
  refine CtN.mk (cc := cX10_init) (nL := 1) (rt := none) (own := RX10) (nm := "<init>") (by decide) rfl rfl (Nat.le_of_ble_eq_true rfl) ?_
  intro p e s m below meth c A ls C hW hl
  have hx := C.1
  have hb := C.2.1
  have hl : lv_has ls 1 [(0, .ref a)] := hl
  refine lv_aload_n hx hb dX10_init_0 rfl (lv_at hl 0 rfl) ?_
  refine zk_obj C hl koX10_1 dX10_init_1 (Nat.le_of_ble_eq_true rfl) (Nat.le_of_ble_eq_true rfl) ?_
  refine lv_aload_n hx hb dX10_init_4 rfl (lv_at hl 0 rfl) ?_
  refine lv_bipush (v := 12) hx hb dX10_init_5 (by decide) ?_
  refine zk_newa C hW 12 (by decide) (by decide) (by decide) (Nat.le_of_ble_eq_true rfl) (Nat.le_of_ble_eq_true rfl) dX10_init_7 (fun q1 H hW => ?_)
  have hW : KW G A s ([(a, .inr (10, [.null, .int 0, .int 0, .int 0, .int 0, .int 0, .int 0, .int 0, .null, .int 0, .null, .int 0, .int 0, .int 0, .int 0, .int 0, .int 0, .null, .int 0, .null, .null, .int 0, .int 0, .int 0, .int 0, .int 0, .int 0, .null, .null, .long 0]))] ++ [(q1, .inl (G.2.1, 12, .inl (fun _ => 0)))]) H _ := hW
  refine zk_putF (W1 := [(a, .inr (10, [.ref q1, .int 0, .int 0, .int 0, .int 0, .int 0, .int 0, .int 0, .null, .int 0, .null, .int 0, .int 0, .int 0, .int 0, .int 0, .int 0, .null, .int 0, .null, .null, .int 0, .int 0, .int 0, .int 0, .int 0, .int 0, .null, .null, .long 0]))] ++ [(q1, .inl (G.2.1, 12, .inl (fun _ => 0)))]) C hW ffX10_7 0 rfl rfl rfl (Nat.le_of_ble_eq_true rfl) rfl dX10_init_9 (fun H locs hW => ?_)
  refine lv_aload_n hx hb dX10_init_12 rfl (lv_at hl 0 rfl) ?_
  refine lv_bipush (v := 9) hx hb dX10_init_13 (by decide) ?_
  refine zk_newa C hW 9 (by decide) (by decide) (by decide) (Nat.le_of_ble_eq_true rfl) (Nat.le_of_ble_eq_true rfl) dX10_init_15 (fun q2 H hW => ?_)
  have hW : KW G A s ([(a, .inr (10, [.ref q1, .int 0, .int 0, .int 0, .int 0, .int 0, .int 0, .int 0, .null, .int 0, .null, .int 0, .int 0, .int 0, .int 0, .int 0, .int 0, .null, .int 0, .null, .null, .int 0, .int 0, .int 0, .int 0, .int 0, .int 0, .null, .null, .long 0]))] ++ [(q1, .inl (G.2.1, 12, .inl (fun _ => 0)))] ++ [(q2, .inl (G.2.1, 9, .inl (fun _ => 0)))]) H _ := hW
  refine zk_putF (W1 := [(a, .inr (10, [.ref q1, .int 0, .int 0, .int 0, .int 0, .int 0, .int 0, .int 0, .ref q2, .int 0, .null, .int 0, .int 0, .int 0, .int 0, .int 0, .int 0, .null, .int 0, .null, .null, .int 0, .int 0, .int 0, .int 0, .int 0, .int 0, .null, .null, .long 0]))] ++ [(q1, .inl (G.2.1, 12, .inl (fun _ => 0)))] ++ [(q2, .inl (G.2.1, 9, .inl (fun _ => 0)))]) C hW ffX10_13 0 rfl rfl rfl (Nat.le_of_ble_eq_true rfl) rfl dX10_init_17 (fun H locs hW => ?_)
  refine lv_aload_n hx hb dX10_init_20 rfl (lv_at hl 0 rfl) ?_
  refine lv_iconst (v := 4) hx hb dX10_init_21 (by decide) ?_
  refine zk_newa C hW 4 (by decide) (by decide) (by decide) (Nat.le_of_ble_eq_true rfl) (Nat.le_of_ble_eq_true rfl) dX10_init_22 (fun q3 H hW => ?_)
  have hW : KW G A s ([(a, .inr (10, [.ref q1, .int 0, .int 0, .int 0, .int 0, .int 0, .int 0, .int 0, .ref q2, .int 0, .null, .int 0, .int 0, .int 0, .int 0, .int 0, .int 0, .null, .int 0, .null, .null, .int 0, .int 0, .int 0, .int 0, .int 0, .int 0, .null, .null, .long 0]))] ++ [(q1, .inl (G.2.1, 12, .inl (fun _ => 0)))] ++ [(q2, .inl (G.2.1, 9, .inl (fun _ => 0)))] ++ [(q3, .inl (G.2.1, 4, .inl (fun _ => 0)))]) H _ := hW
  refine zk_putF (W1 := [(a, .inr (10, [.ref q1, .int 0, .int 0, .int 0, .int 0, .int 0, .int 0, .int 0, .ref q2, .int 0, .ref q3, .int 0, .int 0, .int 0, .int 0, .int 0, .int 0, .null, .int 0, .null, .null, .int 0, .int 0, .int 0, .int 0, .int 0, .int 0, .null, .null, .long 0]))] ++ [(q1, .inl (G.2.1, 12, .inl (fun _ => 0)))] ++ [(q2, .inl (G.2.1, 9, .inl (fun _ => 0)))] ++ [(q3, .inl (G.2.1, 4, .inl (fun _ => 0)))]) C hW ffX10_16 0 rfl rfl rfl (Nat.le_of_ble_eq_true rfl) rfl dX10_init_24 (fun H locs hW => ?_)
  refine lv_aload_n hx hb dX10_init_27 rfl (lv_at hl 0 rfl) ?_
  refine lv_bipush (v := 10) hx hb dX10_init_28 (by decide) ?_
  refine zk_newa C hW 10 (by decide) (by decide) (by decide) (Nat.le_of_ble_eq_true rfl) (Nat.le_of_ble_eq_true rfl) dX10_init_30 (fun q4 H hW => ?_)
  have hW : KW G A s ([(a, .inr (10, [.ref q1, .int 0, .int 0, .int 0, .int 0, .int 0, .int 0, .int 0, .ref q2, .int 0, .ref q3, .int 0, .int 0, .int 0, .int 0, .int 0, .int 0, .null, .int 0, .null, .null, .int 0, .int 0, .int 0, .int 0, .int 0, .int 0, .null, .null, .long 0]))] ++ [(q1, .inl (G.2.1, 12, .inl (fun _ => 0)))] ++ [(q2, .inl (G.2.1, 9, .inl (fun _ => 0)))] ++ [(q3, .inl (G.2.1, 4, .inl (fun _ => 0)))] ++ [(q4, .inl (G.2.1, 10, .inl (fun _ => 0)))]) H _ := hW
  refine zk_putF (W1 := [(a, .inr (10, [.ref q1, .int 0, .int 0, .int 0, .int 0, .int 0, .int 0, .int 0, .ref q2, .int 0, .ref q3, .int 0, .int 0, .int 0, .int 0, .int 0, .int 0, .ref q4, .int 0, .null, .null, .int 0, .int 0, .int 0, .int 0, .int 0, .int 0, .null, .null, .long 0]))] ++ [(q1, .inl (G.2.1, 12, .inl (fun _ => 0)))] ++ [(q2, .inl (G.2.1, 9, .inl (fun _ => 0)))] ++ [(q3, .inl (G.2.1, 4, .inl (fun _ => 0)))] ++ [(q4, .inl (G.2.1, 10, .inl (fun _ => 0)))]) C hW ffX10_19 0 rfl rfl rfl (Nat.le_of_ble_eq_true rfl) rfl dX10_init_32 (fun H locs hW => ?_)
  refine lv_aload_n hx hb dX10_init_35 rfl (lv_at hl 0 rfl) ?_
  refine lv_bipush (v := 6) hx hb dX10_init_36 (by decide) ?_
  refine zk_newa C hW 6 (by decide) (by decide) (by decide) (Nat.le_of_ble_eq_true rfl) (Nat.le_of_ble_eq_true rfl) dX10_init_38 (fun q5 H hW => ?_)
  have hW : KW G A s ([(a, .inr (10, [.ref q1, .int 0, .int 0, .int 0, .int 0, .int 0, .int 0, .int 0, .ref q2, .int 0, .ref q3, .int 0, .int 0, .int 0, .int 0, .int 0, .int 0, .ref q4, .int 0, .null, .null, .int 0, .int 0, .int 0, .int 0, .int 0, .int 0, .null, .null, .long 0]))] ++ [(q1, .inl (G.2.1, 12, .inl (fun _ => 0)))] ++ [(q2, .inl (G.2.1, 9, .inl (fun _ => 0)))] ++ [(q3, .inl (G.2.1, 4, .inl (fun _ => 0)))] ++ [(q4, .inl (G.2.1, 10, .inl (fun _ => 0)))] ++ [(q5, .inl (G.2.1, 6, .inl (fun _ => 0)))]) H _ := hW
  refine zk_putF (W1 := [(a, .inr (10, [.ref q1, .int 0, .int 0, .int 0, .int 0, .int 0, .int 0, .int 0, .ref q2, .int 0, .ref q3, .int 0, .int 0, .int 0, .int 0, .int 0, .int 0, .ref q4, .int 0, .ref q5, .null, .int 0, .int 0, .int 0, .int 0, .int 0, .int 0, .null, .null, .long 0]))] ++ [(q1, .inl (G.2.1, 12, .inl (fun _ => 0)))] ++ [(q2, .inl (G.2.1, 9, .inl (fun _ => 0)))] ++ [(q3, .inl (G.2.1, 4, .inl (fun _ => 0)))] ++ [(q4, .inl (G.2.1, 10, .inl (fun _ => 0)))] ++ [(q5, .inl (G.2.1, 6, .inl (fun _ => 0)))]) C hW ffX10_22 0 rfl rfl rfl (Nat.le_of_ble_eq_true rfl) rfl dX10_init_40 (fun H locs hW => ?_)
  refine lv_aload_n hx hb dX10_init_43 rfl (lv_at hl 0 rfl) ?_
  refine lv_bipush (v := 10) hx hb dX10_init_44 (by decide) ?_
  refine zk_newa C hW 10 (by decide) (by decide) (by decide) (Nat.le_of_ble_eq_true rfl) (Nat.le_of_ble_eq_true rfl) dX10_init_46 (fun q6 H hW => ?_)
  have hW : KW G A s ([(a, .inr (10, [.ref q1, .int 0, .int 0, .int 0, .int 0, .int 0, .int 0, .int 0, .ref q2, .int 0, .ref q3, .int 0, .int 0, .int 0, .int 0, .int 0, .int 0, .ref q4, .int 0, .ref q5, .null, .int 0, .int 0, .int 0, .int 0, .int 0, .int 0, .null, .null, .long 0]))] ++ [(q1, .inl (G.2.1, 12, .inl (fun _ => 0)))] ++ [(q2, .inl (G.2.1, 9, .inl (fun _ => 0)))] ++ [(q3, .inl (G.2.1, 4, .inl (fun _ => 0)))] ++ [(q4, .inl (G.2.1, 10, .inl (fun _ => 0)))] ++ [(q5, .inl (G.2.1, 6, .inl (fun _ => 0)))] ++ [(q6, .inl (G.2.1, 10, .inl (fun _ => 0)))]) H _ := hW
  refine zk_putF (W1 := [(a, .inr (10, [.ref q1, .int 0, .int 0, .int 0, .int 0, .int 0, .int 0, .int 0, .ref q2, .int 0, .ref q3, .int 0, .int 0, .int 0, .int 0, .int 0, .int 0, .ref q4, .int 0, .ref q5, .ref q6, .int 0, .int 0, .int 0, .int 0, .int 0, .int 0, .null, .null, .long 0]))] ++ [(q1, .inl (G.2.1, 12, .inl (fun _ => 0)))] ++ [(q2, .inl (G.2.1, 9, .inl (fun _ => 0)))] ++ [(q3, .inl (G.2.1, 4, .inl (fun _ => 0)))] ++ [(q4, .inl (G.2.1, 10, .inl (fun _ => 0)))] ++ [(q5, .inl (G.2.1, 6, .inl (fun _ => 0)))] ++ [(q6, .inl (G.2.1, 10, .inl (fun _ => 0)))]) C hW ffX10_25 0 rfl rfl rfl (Nat.le_of_ble_eq_true rfl) rfl dX10_init_48 (fun H locs hW => ?_)
  refine lv_aload_n hx hb dX10_init_51 rfl (lv_at hl 0 rfl) ?_
  refine lv_bipush (v := 9) hx hb dX10_init_52 (by decide) ?_
  refine zk_newa C hW 9 (by decide) (by decide) (by decide) (Nat.le_of_ble_eq_true rfl) (Nat.le_of_ble_eq_true rfl) dX10_init_54 (fun q7 H hW => ?_)
  have hW : KW G A s ([(a, .inr (10, [.ref q1, .int 0, .int 0, .int 0, .int 0, .int 0, .int 0, .int 0, .ref q2, .int 0, .ref q3, .int 0, .int 0, .int 0, .int 0, .int 0, .int 0, .ref q4, .int 0, .ref q5, .ref q6, .int 0, .int 0, .int 0, .int 0, .int 0, .int 0, .null, .null, .long 0]))] ++ [(q1, .inl (G.2.1, 12, .inl (fun _ => 0)))] ++ [(q2, .inl (G.2.1, 9, .inl (fun _ => 0)))] ++ [(q3, .inl (G.2.1, 4, .inl (fun _ => 0)))] ++ [(q4, .inl (G.2.1, 10, .inl (fun _ => 0)))] ++ [(q5, .inl (G.2.1, 6, .inl (fun _ => 0)))] ++ [(q6, .inl (G.2.1, 10, .inl (fun _ => 0)))] ++ [(q7, .inl (G.2.1, 9, .inl (fun _ => 0)))]) H _ := hW
  refine zk_putF (W1 := [(a, .inr (10, [.ref q1, .int 0, .int 0, .int 0, .int 0, .int 0, .int 0, .int 0, .ref q2, .int 0, .ref q3, .int 0, .int 0, .int 0, .int 0, .int 0, .int 0, .ref q4, .int 0, .ref q5, .ref q6, .int 0, .int 0, .int 0, .int 0, .int 0, .int 0, .ref q7, .null, .long 0]))] ++ [(q1, .inl (G.2.1, 12, .inl (fun _ => 0)))] ++ [(q2, .inl (G.2.1, 9, .inl (fun _ => 0)))] ++ [(q3, .inl (G.2.1, 4, .inl (fun _ => 0)))] ++ [(q4, .inl (G.2.1, 10, .inl (fun _ => 0)))] ++ [(q5, .inl (G.2.1, 6, .inl (fun _ => 0)))] ++ [(q6, .inl (G.2.1, 10, .inl (fun _ => 0)))] ++ [(q7, .inl (G.2.1, 9, .inl (fun _ => 0)))]) C hW ffX10_28 0 rfl rfl rfl (Nat.le_of_ble_eq_true rfl) rfl dX10_init_56 (fun H locs hW => ?_)
  refine lv_aload_n hx hb dX10_init_59 rfl (lv_at hl 0 rfl) ?_
  refine lv_bipush (v := 6) hx hb dX10_init_60 (by decide) ?_
  refine zk_newa C hW 6 (by decide) (by decide) (by decide) (Nat.le_of_ble_eq_true rfl) (Nat.le_of_ble_eq_true rfl) dX10_init_62 (fun q8 H hW => ?_)
  have hW : KW G A s ([(a, .inr (10, [.ref q1, .int 0, .int 0, .int 0, .int 0, .int 0, .int 0, .int 0, .ref q2, .int 0, .ref q3, .int 0, .int 0, .int 0, .int 0, .int 0, .int 0, .ref q4, .int 0, .ref q5, .ref q6, .int 0, .int 0, .int 0, .int 0, .int 0, .int 0, .ref q7, .null, .long 0]))] ++ [(q1, .inl (G.2.1, 12, .inl (fun _ => 0)))] ++ [(q2, .inl (G.2.1, 9, .inl (fun _ => 0)))] ++ [(q3, .inl (G.2.1, 4, .inl (fun _ => 0)))] ++ [(q4, .inl (G.2.1, 10, .inl (fun _ => 0)))] ++ [(q5, .inl (G.2.1, 6, .inl (fun _ => 0)))] ++ [(q6, .inl (G.2.1, 10, .inl (fun _ => 0)))] ++ [(q7, .inl (G.2.1, 9, .inl (fun _ => 0)))] ++ [(q8, .inl (G.2.1, 6, .inl (fun _ => 0)))]) H _ := hW
  refine zk_putF (W1 := [(a, .inr (10, [.ref q1, .int 0, .int 0, .int 0, .int 0, .int 0, .int 0, .int 0, .ref q2, .int 0, .ref q3, .int 0, .int 0, .int 0, .int 0, .int 0, .int 0, .ref q4, .int 0, .ref q5, .ref q6, .int 0, .int 0, .int 0, .int 0, .int 0, .int 0, .ref q7, .ref q8, .long 0]))] ++ [(q1, .inl (G.2.1, 12, .inl (fun _ => 0)))] ++ [(q2, .inl (G.2.1, 9, .inl (fun _ => 0)))] ++ [(q3, .inl (G.2.1, 4, .inl (fun _ => 0)))] ++ [(q4, .inl (G.2.1, 10, .inl (fun _ => 0)))] ++ [(q5, .inl (G.2.1, 6, .inl (fun _ => 0)))] ++ [(q6, .inl (G.2.1, 10, .inl (fun _ => 0)))] ++ [(q7, .inl (G.2.1, 9, .inl (fun _ => 0)))] ++ [(q8, .inl (G.2.1, 6, .inl (fun _ => 0)))]) C hW ffX10_31 0 rfl rfl rfl (Nat.le_of_ble_eq_true rfl) rfl dX10_init_64 (fun H locs hW => ?_)
  refine lv_aload_n hx hb dX10_init_67 rfl (lv_at hl 0 rfl) ?_
  refine lv_iconst (v := (-1)) hx hb dX10_init_68 (by decide) ?_
  refine zk_putI (W1 := [(a, .inr (10, [.ref q1, .int 0, .int 0, .int 0, .int 0, .int 0, .int 0, .int 0, .ref q2, .int 0, .ref q3, .int 0, .int 0, .int 0, .int 0, .int 0, .int 0, .ref q4, .int 0, .ref q5, .ref q6, .int 0, .int (-1), .int 0, .int 0, .int 0, .int 0, .ref q7, .ref q8, .long 0]))] ++ [(q1, .inl (G.2.1, 12, .inl (fun _ => 0)))] ++ [(q2, .inl (G.2.1, 9, .inl (fun _ => 0)))] ++ [(q3, .inl (G.2.1, 4, .inl (fun _ => 0)))] ++ [(q4, .inl (G.2.1, 10, .inl (fun _ => 0)))] ++ [(q5, .inl (G.2.1, 6, .inl (fun _ => 0)))] ++ [(q6, .inl (G.2.1, 10, .inl (fun _ => 0)))] ++ [(q7, .inl (G.2.1, 9, .inl (fun _ => 0)))] ++ [(q8, .inl (G.2.1, 6, .inl (fun _ => 0)))]) C hW fpX10_34 0 rfl rfl (Nat.le_of_ble_eq_true rfl) rfl dX10_init_69 (fun H locs hW => ?_)
  exact zk_nret (fun k => ([q1, q2, q3, q4, q5, q6, q7, q8] : List Nat).getD k 0) C hW dX10_init_72
