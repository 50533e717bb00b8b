/-- the tables' words that hold at every state that the run comes to -/
def WL : List Cond := lw_tbl.filter goodWord
theorem wl_in : ∀ w ∈ WL, w ∈ lw_tbl := fun w h => (List.mem_filter.mp h).1
theorem wl_0 {w : Cond} (i : Nat) (h : (k2_sels lw_privs)[i]? = some w) (hg : goodWord w = true) : w ∈ WL := List.mem_filter.mpr ⟨List.mem_append_left _ (List.mem_of_getElem? h), hg⟩
theorem wl_1 {w : Cond} (i : Nat) (h : tables_1_1[i]? = some w) (hg : goodWord w = true) : w ∈ WL := List.mem_filter.mpr ⟨List.mem_append_right _ (List.mem_append_left _ (List.mem_of_getElem? h)), hg⟩
theorem wl_2 {w : Cond} (i : Nat) (h : tables_1_2[i]? = some w) (hg : goodWord w = true) : w ∈ WL := List.mem_filter.mpr ⟨List.mem_append_right _ (List.mem_append_right _ (List.mem_append_left _ (List.mem_of_getElem? h))), hg⟩
theorem wl_3 {w : Cond} (i : Nat) (h : tables_1_3[i]? = some w) (hg : goodWord w = true) : w ∈ WL := List.mem_filter.mpr ⟨List.mem_append_right _ (List.mem_append_right _ (List.mem_append_right _ (List.mem_append_left _ (List.mem_of_getElem? h)))), hg⟩
theorem wl_4 {w : Cond} (i : Nat) (h : tables_1_4[i]? = some w) (hg : goodWord w = true) : w ∈ WL := List.mem_filter.mpr ⟨List.mem_append_right _ (List.mem_append_right _ (List.mem_append_right _ (List.mem_append_right _ (List.mem_of_getElem? h)))), hg⟩
/-! the core: one world predicate, contracts in one form, a row an instruction over them -/
def bI (b : Bool) : Int32 := if b then 1 else 0
theorem bI_nar (b : Bool) : narrow .boolean (.int (bI b)) = .int (bI b) := by cases b <;> rfl
theorem bI_fit (b : Bool) : fits .boolean (.int (bI b)) = true := by cases b <;> rfl
abbrev GG : Type := va_G × ClassId × ClassId
def tys0 (G : GG) : List (ClassId × FieldType) := [(G.2.1, .int), (G.2.2, .object RX6)]
def nF : List (String × Nat × String × String × String × String) := [("ReadBackwards", 76, "ReadBackwards$Page", "size", "I", "ReadBackwards"), ("ReadBackwards$Endings", 45, "ReadBackwards$Letter", "size", "I", "ReadBackwards"), ("ReadBackwards$Writing", 53, "ReadBackwards$Letter", "size", "I", "ReadBackwards"), ("ReadBackwards$Reading", 35, "ReadBackwards$Letter", "size", "I", "ReadBackwards"), ("ReadBackwards", 111, "ReadBackwards$Letter", "size", "I", "ReadBackwards"), ("ReadBackwards$Days", 64, "ReadBackwards$Letter", "snow", "I", "ReadBackwards"), ("ReadBackwards$Reading", 44, "ReadBackwards$Letter", "snow", "I", "ReadBackwards"), ("ReadBackwards$Page", 43, "ReadBackwards$Letter", "snow", "I", "ReadBackwards"), ("ReadBackwards", 140, "ReadBackwards$Letter", "snow", "I", "ReadBackwards"), ("ReadBackwards$Days", 39, "ReadBackwards$Listeners", "size", "I", "ReadBackwards"), ("ReadBackwards", 99, "ReadBackwards$Listeners", "size", "I", "ReadBackwards"), ("ReadBackwards", 182, "ReadBackwards$Told", "size", "I", "ReadBackwards"), ("ReadBackwards", 206, "ReadBackwards$Image", "words", "LReadBackwards$Letter;", "ReadBackwards"), ("ReadBackwards", 212, "ReadBackwards$Image", "told", "LReadBackwards$Told;", "ReadBackwards"), ("ReadBackwards", 216, "ReadBackwards$Image", "listeners", "I", "ReadBackwards"), ("ReadBackwards", 219, "ReadBackwards$Image", "changed", "I", "ReadBackwards"), ("ReadBackwards", 104, "ReadBackwards$Image", "holds", "Z", "ReadBackwards"), ("ReadBackwards$Days", 58, "ReadBackwards$Reading", "value", "I", "ReadBackwards"), ("ReadBackwards$Endings", 58, "ReadBackwards$Reading", "value", "I", "ReadBackwards"), ("ReadBackwards$Writing", 71, "ReadBackwards$Reading", "value", "I", "ReadBackwards"), ("ReadBackwards", 127, "ReadBackwards$Reading", "value", "I", "ReadBackwards"), ("ReadBackwards$Endings", 67, "ReadBackwards$Reading", "turned", "Z", "ReadBackwards"), ("ReadBackwards", 155, "ReadBackwards$Reading", "heard", "I", "ReadBackwards"), ("ReadBackwards$Days", 55, "ReadBackwards$Reading", "shut", "Z", "ReadBackwards"), ("ReadBackwards$Writing", 67, "ReadBackwards$Reading", "shut", "Z", "ReadBackwards"), ("ReadBackwards", 158, "ReadBackwards$Reading", "shut", "Z", "ReadBackwards"), ("ReadBackwards", 175, "ReadBackwards$Writing", "draft", "LReadBackwards$Letter;", "ReadBackwards"), ("ReadBackwards", 203, "ReadBackwards$Days", "seed", "I", "ReadBackwards"), ("ReadBackwards", 198, "ReadBackwards$Days", "shut", "I", "ReadBackwards"), ("ReadBackwards", 200, "ReadBackwards$Days", "values", "I", "ReadBackwards")]
def nM : List (String × Nat × MethodName × String) := [("ReadBackwards", 9, ⟨"ReadBackwards$Page", "<init>", "()V"⟩, "ReadBackwards"), ("ReadBackwards", 18, ⟨"ReadBackwards$Letter", "<init>", "()V"⟩, "ReadBackwards"), ("ReadBackwards", 25, ⟨"ReadBackwards$Listeners", "<init>", "()V"⟩, "ReadBackwards"), ("ReadBackwards", 32, ⟨"ReadBackwards$Told", "<init>", "()V"⟩, "ReadBackwards"), ("ReadBackwards", 39, ⟨"ReadBackwards$Image", "<init>", "()V"⟩, "ReadBackwards"), ("ReadBackwards$Image", 9, ⟨"ReadBackwards$Letter", "<init>", "()V"⟩, "ReadBackwards"), ("ReadBackwards$Image", 18, ⟨"ReadBackwards$Told", "<init>", "()V"⟩, "ReadBackwards"), ("ReadBackwards", 46, ⟨"ReadBackwards$Reading", "<init>", "()V"⟩, "ReadBackwards"), ("ReadBackwards$Writing", 11, ⟨"ReadBackwards$Letter", "<init>", "()V"⟩, "ReadBackwards"), ("ReadBackwards$Writing", 20, ⟨"ReadBackwards$Reading", "<init>", "()V"⟩, "ReadBackwards"), ("ReadBackwards", 60, ⟨"ReadBackwards$Endings", "<init>", "()V"⟩, "ReadBackwards"), ("ReadBackwards$Endings", 20, ⟨"ReadBackwards$Reading", "<init>", "()V"⟩, "ReadBackwards"), ("ReadBackwards", 67, ⟨"ReadBackwards$Days", "<init>", "()V"⟩, "ReadBackwards"), ("ReadBackwards$Days", 11, ⟨"ReadBackwards$Letter", "<init>", "()V"⟩, "ReadBackwards"), ("ReadBackwards$Days", 20, ⟨"ReadBackwards$Reading", "<init>", "()V"⟩, "ReadBackwards")]
def NA (U : State) : Prop := (∀ x ∈ nF, va_Nw (.fieldLinkNest x.1 x.2.1 x.2.2.1 x.2.2.2.1 x.2.2.2.2.1 x.2.2.2.2.2) U) ∧ (∀ x ∈ nM, va_Nw (.methodLinkNest x.1 x.2.1 x.2.2.1 x.2.2.2) U) ∧ va_AO RX6 U
theorem NA.same {u U : State} (h : u.vm = U.vm) (hN : NA u) : NA U := ⟨fun x hx => va_Nw.same rfl h (hN.1 x hx), fun x hx => va_Nw.same rfl h (hN.2.1 x hx), hN.2.2.moved (by rw [h]; exact Vm.Alike.refl _)⟩
theorem NA.warm {s U : State} (hW : s.WarmedH U.vm) (hN : NA s) : NA U := ⟨fun x hx => va_Nw.warmF hW (hN.1 x hx), fun x hx => va_Nw.warmM hW (hN.2.1 x hx), hN.2.2.moved hW.alike⟩
/-- the world of a frame -/
def KW (G : GG) (A : Nat → Prop) (s : State) (ws : va_W) (H : Heap) (locs : List Loc) : Prop :=
  va_K G.1 vwCl (tys0 G) s ∧ va_P G.1 vwCl ws H ∧ va_D A ws ∧ va_S A s.heap H locs ∧ (∀ q, s.heap.size ≤ q → A q) ∧ NA s
def CX (p : Program) (s : State) (m : MethodId) (args : Array Value) (meth : Method) (c : Code) (cc : ByteArray) (nL : Nat) (own : String) (rt : Option FieldType) (nm : String) : Prop :=
  p.tables.exec = Jvm.exec ∧ c.code = cc ∧ c.maxLocals = nL ∧ s.vm.findClass own = some m.cls ∧ (∀ w ∈ WL, w.before args s = true) ∧ meth.sig.returnType = rt ∧ meth.locks = false ∧ meth.name = nm
def PcG (G : GG) (av : List Value) (wi : va_W) (sz : Nat) : Array Value → State → Prop := va_Pc av (fun U => U.heap.size = sz ∧ va_P G.1 vwCl wi U.heap ∧ va_K G.1 vwCl (tys0 G) U ∧ va_D (fun _ => True) wi ∧ NA U)
def BoG (G : GG) (A : Nat → Prop) (wo : va_W) : Unit → State → Prop := fun _ t => va_P G.1 vwCl wo t.heap ∧ va_K G.1 vwCl (tys0 G) t ∧ va_D A wo
theorem PcG.blind {G : GG} {av : List Value} {wi : va_W} {sz : Nat} : FrameBlind (PcG G av wi sz) := by
  intro a U g mk q
  obtain ⟨q0, q1, qP, qK, qD, qN⟩ := q
  exact ⟨q0, q1, qP, va_K.moved (u := U) (U := U.calling g mk a) (Vm.Alike.refl U.vm) qK, qD, NA.same (u := U) (U := U.calling g mk a) rfl qN⟩
def CtI (G : GG) (l : Launch) (y : MethodName) (ws : List Cond) (rm : Room) (av : List Value) (wi : va_W) (res : Int32) (wo : va_W) : Prop :=
  ∀ sz, Met l y ws rm (PcG G av wi sz) (va_Qi (fun r (_ : Unit) => r = res) (BoG G (va_A wi sz) wo) (va_A wi sz)) 0 0 (va_A wi sz)
def CtL (G : GG) (l : Launch) (y : MethodName) (ws : List Cond) (rm : Room) (av : List Value) (wi : va_W) (res : Int64) (wo : va_W) : Prop :=
  ∀ sz, Met l y ws rm (PcG G av wi sz) (va_Ql (fun r (_ : Unit) => r = res) (BoG G (va_A wi sz) wo) (va_A wi sz)) 0 0 (va_A wi sz)
def CtV (G : GG) (l : Launch) (y : MethodName) (ws : List Cond) (rm : Room) (av : List Value) (wi : va_W) (wo : va_W) : Prop :=
  ∀ sz, Met l y ws rm (PcG G av wi sz) (va_Qv (fun (_ : Unit) => True) (BoG G (va_A wi sz) wo) (va_A wi sz)) 0 0 (va_A wi sz)
def CtN (G : GG) (l : Launch) (y : MethodName) (ws : List Cond) (rm : Room) (av : List Value) (wi : va_W) (wo : (Nat → Nat) → va_W) (mc ms : Nat) : Prop :=
  ∀ sz, Met l y ws rm (PcG G av wi sz) (va_Qv (fun (_ : Nat → Nat) => True) (fun u t => BoG G (va_A wi sz) (wo u) () t) (va_A wi sz)) mc ms (va_A wi sz)
abbrev QI (G : GG) (A : Nat → Prop) (res : Int32) (wo : va_W) (below : List Frame) (args : Array Value) (s : State) : State → Prop := MQ below (va_Qi (fun r (_ : Unit) => r = res) (BoG G A wo) A) args s 0 0 A
abbrev QL (G : GG) (A : Nat → Prop) (res : Int64) (wo : va_W) (below : List Frame) (args : Array Value) (s : State) : State → Prop := MQ below (va_Ql (fun r (_ : Unit) => r = res) (BoG G A wo) A) args s 0 0 A
abbrev QV (G : GG) (A : Nat → Prop) (wo : va_W) (below : List Frame) (args : Array Value) (s : State) : State → Prop := MQ below (va_Qv (fun (_ : Unit) => True) (BoG G A wo) A) args s 0 0 A
abbrev QN (G : GG) (A : Nat → Prop) (wo : (Nat → Nat) → va_W) (mc ms : Nat) (below : List Frame) (args : Array Value) (s : State) : State → Prop := MQ below (va_Qv (fun (_ : Nat → Nat) => True) (fun u t => BoG G A (wo u) () t) A) args s mc ms A
section Mk
variable {G : GG} {l : Launch} {y : MethodName} {rm : Room} {av : List Value} {wi wo : va_W} {cc : ByteArray} {nL : Nat} {own nm : String} {rt : Option FieldType}
theorem zk_enter {p : Program} {e : Env} {s : State} {m : MethodId} {args : Array Value} {below : List Frame} {meth : Method} {c : Code} {s₁ : State} {sz : Nat} {Q : State → Prop} (hown : y.cls = own) (hnm : y.name = nm) (hlen : (lg_sl av).length ≤ nL)
    (B : BodyLoose p l y (headSpec (Cond.code y cc nL rt :: WL) rm) cc nL rt e s m args below meth c s₁) (hml : c.maxLocals = nL) (hv : PcG G av wi sz args s)
    (body : ∀ {ls : Array Slot}, CX p s m av.toArray meth c cc nL own rt nm → KW G (va_A wi sz) s wi s.heap [] → lv_has ls nL (lv_args 0 av) → W p l e rm s m av.toArray below meth c s.heap [] 0 0 Q (F0 m 0 ls [])) :
    W p l e rm s m args below meth c s.heap [] 0 0 Q (entryFrame m args nL) := by
  obtain ⟨rfl, hsz, hP, hK, hD0, hN⟩ := hv
  subst hsz
  have hl := lv_entry av (n := nL) hlen
  rw [lg_entry_eq]
  have hts := atoms_spec (ws := Cond.code y cc nL rt :: WL) B.pre
  have hn1 := name_of_methodNamed B.named B.method
  exact body ⟨B.exec, B.bytes, hml, hown ▸ findClass_of_methodNamed B.named, fun w h => hts w (List.mem_cons_of_mem _ h), B.returns, B.notSynchronized, hn1.1.trans hnm⟩ ⟨hK, hP, hD0.self, va_S.rf, fun q h => Or.inr h, hN⟩ hl
theorem CtI.mk {res : Int32} (hy : plainName y.cls = true) (hown : y.cls = own) (hnm : y.name = nm) (hlen : (lg_sl av).length ≤ nL)
    (body : ∀ {p : Program} {e : Env} {s : State} {m : MethodId} {below : List Frame} {meth : Method} {c : Code} {A : Nat → Prop} {ls : Array Slot}, CX p s m av.toArray meth c cc nL own rt nm → KW G A s wi s.heap [] → lv_has ls nL (lv_args 0 av) → W p l e rm s m av.toArray below meth c s.heap [] 0 0 (QI G A res wo below av.toArray s) (F0 m 0 ls [])) :
    CtI G l y (Cond.code y cc nL rt :: WL) rm av wi res wo := by
  intro sz
  refine Met.ofW (cc := cc) (maxL := nL) (ret := rt) hy rfl ?_
  intro p e s m args below meth c s₁ B hml hv
  have ha : args = av.toArray := hv.1
  subst ha
  exact zk_enter hown hnm hlen B hml hv (fun C hW hl => body C hW hl)
theorem CtL.mk {res : Int64} (hy : plainName y.cls = true) (hown : y.cls = own) (hnm : y.name = nm) (hlen : (lg_sl av).length ≤ nL)
    (body : ∀ {p : Program} {e : Env} {s : State} {m : MethodId} {below : List Frame} {meth : Method} {c : Code} {A : Nat → Prop} {ls : Array Slot}, CX p s m av.toArray meth c cc nL own rt nm → KW G A s wi s.heap [] → lv_has ls nL (lv_args 0 av) → W p l e rm s m av.toArray below meth c s.heap [] 0 0 (QL G A res wo below av.toArray s) (F0 m 0 ls [])) :
    CtL G l y (Cond.code y cc nL rt :: WL) rm av wi res wo := by
  intro sz
  refine Met.ofW (cc := cc) (maxL := nL) (ret := rt) hy rfl ?_
  intro p e s m args below meth c s₁ B hml hv
  have ha : args = av.toArray := hv.1
  subst ha
  exact zk_enter hown hnm hlen B hml hv (fun C hW hl => body C hW hl)
theorem CtV.mk (hy : plainName y.cls = true) (hown : y.cls = own) (hnm : y.name = nm) (hlen : (lg_sl av).length ≤ nL)
    (body : ∀ {p : Program} {e : Env} {s : State} {m : MethodId} {below : List Frame} {meth : Method} {c : Code} {A : Nat → Prop} {ls : Array Slot}, CX p s m av.toArray meth c cc nL own rt nm → KW G A s wi s.heap [] → lv_has ls nL (lv_args 0 av) → W p l e rm s m av.toArray below meth c s.heap [] 0 0 (QV G A wo below av.toArray s) (F0 m 0 ls [])) :
    CtV G l y (Cond.code y cc nL rt :: WL) rm av wi wo := by
  intro sz
  refine Met.ofW (cc := cc) (maxL := nL) (ret := rt) hy rfl ?_
  intro p e s m args below meth c s₁ B hml hv
  have ha : args = av.toArray := hv.1
  subst ha
  exact zk_enter hown hnm hlen B hml hv (fun C hW hl => body C hW hl)
theorem CtN.mk {wn : (Nat → Nat) → va_W} {mc ms : Nat} (hy : plainName y.cls = true) (hown : y.cls = own) (hnm : y.name = nm) (hlen : (lg_sl av).length ≤ nL)
    (body : ∀ {p : Program} {e : Env} {s : State} {m : MethodId} {below : List Frame} {meth : Method} {c : Code} {A : Nat → Prop} {ls : Array Slot}, CX p s m av.toArray meth c cc nL own rt nm → KW G A s wi s.heap [] → lv_has ls nL (lv_args 0 av) → W p l e rm s m av.toArray below meth c s.heap [] 0 0 (QN G A wn mc ms below av.toArray s) (F0 m 0 ls [])) :
    CtN G l y (Cond.code y cc nL rt :: WL) rm av wi wn mc ms := by
  intro sz
  refine Met.ofW (cc := cc) (maxL := nL) (ret := rt) hy rfl ?_
  intro p e s m args below meth c s₁ B hml hv
  have ha : args = av.toArray := hv.1
  subst ha
  exact zk_enter hown hnm hlen B hml hv (fun C hW hl => body C hW hl)
end Mk
/-- a callee's cells put back in their places, its new ones behind -/
def rep : va_W → List Nat → va_W → va_W
  | w, [], cs => w ++ cs
  | w, _ :: _, [] => w
  | w, i :: is, k :: cs => rep (w.set i k) is cs
theorem rep_get : ∀ (is : List Nat) (w cs : va_W) (k : Nat) (e : Nat × va_E), va_nd is = true → (∀ i ∈ is, i < w.length) → is.length ≤ cs.length → (rep w is cs)[k]? = some e →
    (∃ j, cs[j]? = some e ∧ (is[j]? = some k ∨ (is.length ≤ j ∧ k = w.length + (j - is.length)))) ∨ (w[k]? = some e ∧ k ∉ is)
  | [], w, cs, k, e, _, _, _, h => by
    simp only [rep] at h
    by_cases hk : k < w.length
    · rw [List.getElem?_append_left hk] at h
      exact Or.inr ⟨h, by simp⟩
    · rw [List.getElem?_append_right (by omega)] at h
      exact Or.inl ⟨k - w.length, h, Or.inr ⟨by simp, by simp; omega⟩⟩
  | i :: is, w, [], k, e, _, _, hl, _ => by simp at hl
  | i :: is, w, c0 :: cs, k, e, hn, hi, hl, h => by
    simp only [rep] at h
    simp only [va_nd, Bool.and_eq_true, decide_eq_true_eq] at hn
    have ih := rep_get is (w.set i c0) cs k e hn.2 (fun j hj => by rw [List.length_set]; exact hi j (List.mem_cons_of_mem _ hj)) (by simpa using hl) h
    rcases ih with ⟨j, h1, h2⟩ | ⟨h1, h2⟩
    · refine Or.inl ⟨j + 1, by simpa using h1, ?_⟩
      rcases h2 with h2 | ⟨h2, h3⟩
      · exact Or.inl (by simpa using h2)
      · refine Or.inr ⟨by simp; omega, ?_⟩
        rw [List.length_set] at h3
        simp only [List.length_cons]
        omega
    · by_cases hk : k = i
      · subst hk
        rw [List.getElem?_set_self (hi k List.mem_cons_self)] at h1
        cases h1
        exact Or.inl ⟨0, by simp, Or.inl (by simp)⟩
      · rw [List.getElem?_set_ne (Ne.symm hk)] at h1
        exact Or.inr ⟨h1, by simp [hk, h2]⟩
theorem zk_join {G : GG} {A : Nat → Prop} {s t : State} {W0 wi wo W1 : va_W} {H H1 : Heap} {locs locs1 : List Loc} (hW : KW G A s W0 H locs) (isC : List Nat) (hC : isC.map (fun i => W0[i]?) = wi.map some) (hnd : va_nd isC = true) (hlen : isC.length ≤ wo.length) (hB : BoG G (va_A wi H.size) wo () t) (ht : t.heap = H1)
    (hk : ∀ q : Nat, q < H.size → ¬ va_A wi H.size q → H1[q]? = H[q]?) (hS1 : va_S A s.heap H1 locs1) (h1 : rep W0 isC wo = W1) : KW G A s W1 H1 locs1 := by
  obtain ⟨hK, hP, hD, hS, hA, hN⟩ := hW
  obtain ⟨hP1, -, hD1⟩ := hB
  rw [ht] at hP1
  have hF := va_free (wc := wi) hD hS hA isC hC
  have hidx : ∀ (j k : Nat), isC[j]? = some k → ∃ e, W0[k]? = some e ∧ wi[j]? = some e := by
    intro j k hj
    have h2 : (isC.map (fun i => W0[i]?))[j]? = some (W0[k]?) := by rw [List.getElem?_map, hj]; rfl
    rw [hC, List.getElem?_map] at h2
    cases hw : wi[j]? with
    | none => rw [hw] at h2; cases h2
    | some e => rw [hw] at h2; exact ⟨e, (Option.some.inj h2).symm, rfl⟩
  have hin : ∀ i ∈ isC, i < W0.length := by
    intro i hi
    obtain ⟨j, hj⟩ := List.getElem?_of_mem hi
    obtain ⟨e, h2, -⟩ := hidx j i hj
    exact (List.getElem?_eq_some_iff.mp h2).1
  have apart : ∀ (k : Nat) (q : Nat × va_E), W0[k]? = some q → k ∉ isC → q.1 < H.size ∧ ¬ va_A wi H.size q.1 := by
    intro k q hq hkn
    have hl := (hP k q hq).lt
    refine ⟨hl, fun h => ?_⟩
    rcases h with ⟨k2, e, h⟩ | h
    · have h3 : (isC.map (fun i => W0[i]?))[k2]? = some (some (q.1, e)) := by rw [hC, List.getElem?_map, h]; rfl
      rw [List.getElem?_map] at h3
      cases hj : isC[k2]? with
      | none => rw [hj] at h3; cases h3
      | some j =>
        rw [hj] at h3
        have h4 : W0[j]? = some (q.1, e) := Option.some.inj h3
        have hij := hD.1 k j q (q.1, e) hq h4 rfl
        subst hij
        exact hkn (List.mem_of_getElem? hj)
    · omega
  subst h1
  have key := fun k e h => rep_get isC W0 wo k e hnd hin hlen h
  refine ⟨hK, ?_, ⟨?_, ?_⟩, hS1, hA, hN⟩
  · intro k q hq
    rcases key k q hq with ⟨j, h2, -⟩ | ⟨h2, h3⟩
    · exact hP1 j q h2
    · obtain ⟨g1, g2⟩ := apart k q h2 h3
      exact (hP k q h2).kept (hk q.1 g1 g2)
  · intro i j p q hi hj hpq
    rcases key i p hi with ⟨a, h2, h3⟩ | ⟨h2, h3⟩ <;> rcases key j q hj with ⟨b, h4, h5⟩ | ⟨h4, h5⟩
    · have hab := hD1.1 a b p q h2 h4 hpq
      subst hab
      rcases h3 with h3 | ⟨h3, h3'⟩ <;> rcases h5 with h5 | ⟨h5, h5'⟩
      · exact Option.some.inj (h3.symm.trans h5)
      · have := (List.getElem?_eq_some_iff.mp h3).1; omega
      · have := (List.getElem?_eq_some_iff.mp h5).1; omega
      · omega
    · exact absurd (hD1.2 a p h2) (by rw [hpq]; exact (apart j q h4 h5).2)
    · exact absurd (hD1.2 b q h4) (by rw [← hpq]; exact (apart i p h2 h3).2)
    · exact hD.1 i j p q h2 h4 hpq
  · intro k q hq
    rcases key k q hq with ⟨j, h2, -⟩ | ⟨h2, h3⟩
    · exact hF q.1 (hD1.2 j q h2)
    · exact hD.2 k q h2
theorem bnd {α β : Type} {o : Option α} {f : α → Option β} {b : β} (h : o.bind f = some b) : ∃ a, o = some a ∧ f a = some b := Option.bind_eq_some_iff.mp h
theorem grd {c : Prop} [Decidable c] {α : Type} {a : Option α} {b : α} (h : (if c then none else a) = some b) : ¬ c ∧ a = some b := by
  by_cases hc : c
  · rw [if_pos hc] at h; cases h
  · rw [if_neg hc] at h; exact ⟨hc, h⟩
theorem ipos {c : Prop} {i : Decidable c} {α : Type} {a b : Option α} {x : Option α} (hc : c) (h : (@ite _ c i a b) = x) : a = x := (if_pos hc).symm.trans h
theorem ineg {c : Prop} {i : Decidable c} {α : Type} {a b : Option α} {x : Option α} (hc : ¬ c) (h : (@ite _ c i a b) = x) : b = x := (if_neg hc).symm.trans h
theorem goodAll : GoodIn WL WL := fun w h => ⟨h, good_of_word (List.mem_filter.mp h).2⟩
theorem goodY {w : Cond} (h : w ∈ WL) : GoodIn WL (w :: WL) := fun v hv => by
  rcases List.mem_cons.mp hv with rfl | hv
  · exact goodAll _ h
  · exact goodAll _ hv
/-- a field, as the pool of the class 'own' names it -/
def FG (own : String) (idx ci k : Nat) : Prop := ∃ (Cn : String) (T : u_T) (N : Nat), vwCl[ci]? = some (Cn, T, N) ∧ k < N ∧ (∀ w ∈ u_ws Cn T N, w ∈ WL) ∧ (Cond.fieldLink own idx (T k).1 (T k).2.1 (T k).2.2.1 ∈ WL ∨ ∃ host, (own, idx, (T k).1, (T k).2.1, (T k).2.2.1, host) ∈ nF)
def FP (own : String) (idx ci k : Nat) (ty : FieldType) : Prop := ∃ (Cn : String) (T : u_T) (N : Nat) (ty0 : Nat → FieldType), vwCl[ci]? = some (Cn, T, N) ∧ k < N ∧ (∀ w ∈ u_ws Cn T N, w ∈ WL) ∧ (Cond.fieldLink own idx (T k).1 (T k).2.1 (T k).2.2.1 ∈ WL ∨ ∃ host, (own, idx, (T k).1, (T k).2.1, (T k).2.2.1, host) ∈ nF) ∧
  (∀ k, k < N → parseFieldDescriptor (T k).2.2.1 = some (ty0 k)) ∧ (∀ a, a < N → ∀ b, b < N → a ≠ b → (T a).2.1 ≠ (T b).2.1) ∧ (T k).2.2.2 = false ∧ parseFieldDescriptor (T k).2.2.1 = some ty
def FF (own : String) (idx ci k : Nat) (ty : FieldType) : Prop := ∃ (Cn : String) (T : u_T) (N : Nat) (ty0 : Nat → FieldType), vwCl[ci]? = some (Cn, T, N) ∧ k < N ∧ (∀ w ∈ u_ws Cn T N, w ∈ WL) ∧ Cond.fieldLink own idx (T k).1 (T k).2.1 (T k).2.2.1 ∈ WL ∧
  (∀ k, k < N → parseFieldDescriptor (T k).2.2.1 = some (ty0 k)) ∧ (∀ a, a < N → ∀ b, b < N → a ≠ b → (T a).2.1 ≠ (T b).2.1) ∧ (T k).2.2.2 = true ∧ (T k).1 = own ∧ parseFieldDescriptor (T k).2.2.1 = some ty
/-- a method, as the pool of the class 'own' names it: called on an object of kind ci; static; made -/
def MV (own : String) (idx : Nat) (y : MethodName) (bytes : ByteArray) (maxL : Nat) (ret : Option FieldType) (n ci : Nat) : Prop := Cond.methodLink own idx y ∈ WL ∧ Cond.instanceMethod y ∈ WL ∧ Cond.selects y.cls y y ∈ WL ∧ Cond.initialized y.cls ∈ WL ∧ Cond.code y bytes maxL ret ∈ WL ∧ (y.cls ≠ "java/lang/invoke/MethodHandle" ∧ y.cls ≠ "java/lang/invoke/VarHandle" ∧ (parseMethodDescriptor y.desc).map (fun d => d.parameters.length) = some n) ∧ ∃ q, vwCl[ci]? = some q ∧ q.1 = y.cls
def MS (own : String) (idx : Nat) (y : MethodName) (bytes : ByteArray) (maxL : Nat) (ret : Option FieldType) (n : Nat) : Prop := Cond.methodLink own idx y ∈ WL ∧ Cond.static y ∈ WL ∧ Cond.initialized y.cls ∈ WL ∧ Cond.code y bytes maxL ret ∈ WL ∧ (y.cls ≠ "java/lang/invoke/MethodHandle" ∧ y.cls ≠ "java/lang/invoke/VarHandle" ∧ (parseMethodDescriptor y.desc).map (fun d => d.parameters.length) = some n)
def MN (own : String) (idx : Nat) (y : MethodName) (bytes : ByteArray) (maxL : Nat) (n : Nat) : Prop := (Cond.methodLink own idx y ∈ WL ∨ ∃ host, (own, idx, y, host) ∈ nM) ∧ Cond.instanceMethod y ∈ WL ∧ Cond.initialized y.cls ∈ WL ∧ Cond.code y bytes maxL none ∈ WL ∧ y.name = "<init>" ∧ (y.cls ≠ "java/lang/invoke/MethodHandle" ∧ y.cls ≠ "java/lang/invoke/VarHandle" ∧ (parseMethodDescriptor y.desc).map (fun d => d.parameters.length) = some n)
section Rows
variable {p : Program} {l : Launch} {e : Env} {R : Room} {s : State} {m : MethodId} {args : Array Value} {below : List Frame} {meth : Method} {c : Code} {H : Heap} {locs : List Loc} {cells slots : Nat} {Q : State → Prop}
variable {cc : ByteArray} {nL : Nat} {own nm : String} {rt : Option FieldType} {G : GG} {A : Nat → Prop} {W0 W1 : va_W} {ls : Array Slot} {rest : List Value} {pc : Nat}
theorem zk_get (C : CX p s m args meth c cc nL own rt nm) (hW : KW G A s W0 H locs) {idx ci k : Nat} (hF : FG own idx ci k) (q0 : Nat) {a : Nat} {fs : List Value} {v : Value} (he : W0[q0]? = some (a, .inr (ci, fs))) (hv : fs[k]? = some v) (hdg : decode cc pc = .ok (.getfield idx, 3))
    (kk : W p l e R s m args below meth c H locs cells slots Q (F0 m (pc + 3) ls (v :: rest))) : W p l e R s m args below meth c H locs cells slots Q (F0 m pc ls (.ref a :: rest)) := by
  obtain ⟨Cn, T, N, hc, hk, hin, hlk⟩ := hF
  obtain ⟨hx, hb, hml, hown, hts, hr, hlo, hnm⟩ := C
  obtain ⟨hK, hP, hD, hS, hA, hN⟩ := hW
  rcases hlk with hlk | ⟨host, hlk⟩
  · exact va_get hx hb hts hin hown hK hP q0 he hc k hk (hts _ hlk) (fun _ h => h) hv hdg kk
  · exact va_getN (host := host) hx hb hts hin hown hK hP q0 he hc k hk (va_Nw.use rfl (hN.1 _ hlk)) (fun _ h => h) hv hdg kk
theorem zk_put (C : CX p s m args meth c cc nL own rt nm) (hW : KW G A s W0 H locs) {idx ci k : Nat} {ty : FieldType} (hF : FP own idx ci k ty) (q0 : Nat) {a : Nat} {fs : List Value} {v : Value} (hn : narrow ty v = v) (hfit : fits ty v = true) (he : W0[q0]? = some (a, .inr (ci, fs))) (hl : k < fs.length) (h1 : W0.set q0 (a, .inr (ci, fs.set k v)) = W1) (hdg : decode cc pc = .ok (.putfield idx, 3))
    (kk : ∀ (H1 : Heap) (locs1 : List Loc), KW G A s W1 H1 locs1 → W p l e R s m args below meth c H1 locs1 cells slots Q (F0 m (pc + 3) ls rest)) : W p l e R s m args below meth c H locs cells slots Q (F0 m pc ls (v :: .ref a :: rest)) := by
  obtain ⟨Cn, T, N, ty0, hc, hk, hin, hlk, hty, hnm0, hfin, hd⟩ := hF
  obtain ⟨hx, hb, hml, hown, hts, hr, hlo, hnm⟩ := C
  obtain ⟨hK, hP, hD, hS, hA, hN⟩ := hW
  subst h1
  rcases hlk with hlk | ⟨host, hlk⟩
  · exact va_put hx hb hts hin ty0 hty hnm0 hown hK hP hD hS q0 he hc k hk (hts _ hlk) (fun _ h => h) hfin hd hn hfit hl hdg (fun H1 locs1 a1 a2 a3 => kk H1 locs1 ⟨hK, a1, a2, a3, hA, hN⟩)
  · exact va_putN (host := host) hx hb hts hin ty0 hty hnm0 hown hK hP hD hS q0 he hc k hk (va_Nw.use rfl (hN.1 _ hlk)) (fun _ h => h) hfin hd hn hfit hl hdg (fun H1 locs1 a1 a2 a3 => kk H1 locs1 ⟨hK, a1, a2, a3, hA, hN⟩)
theorem zk_putF (C : CX p s m args meth c cc nL own rt "<init>") (hW : KW G A s W0 H locs) {idx ci k : Nat} {ty : FieldType} (hF : FF own idx ci k ty) (q0 : Nat) {a : Nat} {fs : List Value} {v : Value} (hn : narrow ty v = v) (hfit : fits ty v = true) (he : W0[q0]? = some (a, .inr (ci, fs))) (hl : k < fs.length) (h1 : W0.set q0 (a, .inr (ci, fs.set k v)) = W1) (hdg : decode cc pc = .ok (.putfield idx, 3))
    (kk : ∀ (H1 : Heap) (locs1 : List Loc), KW G A s W1 H1 locs1 → W p l e R s m args below meth c H1 locs1 cells slots Q (F0 m (pc + 3) ls rest)) : W p l e R s m args below meth c H locs cells slots Q (F0 m pc ls (v :: .ref a :: rest)) := by
  obtain ⟨Cn, T, N, ty0, hc, hk, hin, hlk, hty, hnm0, hfin, hdecl, hd⟩ := hF
  obtain ⟨hx, hb, hml, hown, hts, hr, hlo, hnm⟩ := C
  obtain ⟨hK, hP, hD, hS, hA, hN⟩ := hW
  subst h1
  exact va_putF hx hb hts hin ty0 hty hnm0 hown hK hP hD hS q0 he hc k hk (hts _ hlk) (fun _ h => h) hfin hnm hdecl hd hn hfit hl hdg (fun H1 locs1 a1 a2 a3 => kk H1 locs1 ⟨hK, a1, a2, a3, hA, hN⟩)
theorem zk_putI (C : CX p s m args meth c cc nL own rt nm) (hW : KW G A s W0 H locs) {idx ci k : Nat} (hF : FP own idx ci k .int) (q0 : Nat) {a : Nat} {fs : List Value} {v z : Int32} (hz : v = z) (he : W0[q0]? = some (a, .inr (ci, fs))) (hl : k < fs.length) (h1 : W0.set q0 (a, .inr (ci, fs.set k (.int z))) = W1) (hdg : decode cc pc = .ok (.putfield idx, 3))
    (kk : ∀ (H1 : Heap) (locs1 : List Loc), KW G A s W1 H1 locs1 → W p l e R s m args below meth c H1 locs1 cells slots Q (F0 m (pc + 3) ls rest)) : W p l e R s m args below meth c H locs cells slots Q (F0 m pc ls (.int v :: .ref a :: rest)) := by
  subst hz
  exact zk_put C hW hF q0 rfl rfl he hl h1 hdg kk
theorem zk_putL (C : CX p s m args meth c cc nL own rt nm) (hW : KW G A s W0 H locs) {idx ci k : Nat} (hF : FP own idx ci k .long) (q0 : Nat) {a : Nat} {fs : List Value} {v z : Int64} (hz : v = z) (he : W0[q0]? = some (a, .inr (ci, fs))) (hl : k < fs.length) (h1 : W0.set q0 (a, .inr (ci, fs.set k (.long z))) = W1) (hdg : decode cc pc = .ok (.putfield idx, 3))
    (kk : ∀ (H1 : Heap) (locs1 : List Loc), KW G A s W1 H1 locs1 → W p l e R s m args below meth c H1 locs1 cells slots Q (F0 m (pc + 3) ls rest)) : W p l e R s m args below meth c H locs cells slots Q (F0 m pc ls (.long v :: .ref a :: rest)) := by
  subst hz
  exact zk_put C hW hF q0 rfl rfl he hl h1 hdg kk
theorem zk_putZ (C : CX p s m args meth c cc nL own rt nm) (hW : KW G A s W0 H locs) {idx ci k : Nat} (hF : FP own idx ci k .boolean) (q0 : Nat) {a : Nat} {fs : List Value} (v : Bool) {v0 : Int32} (hv0 : v0 = bI v) (he : W0[q0]? = some (a, .inr (ci, fs))) (hl : k < fs.length) (h1 : W0.set q0 (a, .inr (ci, fs.set k (.int (bI v)))) = W1) (hdg : decode cc pc = .ok (.putfield idx, 3))
    (kk : ∀ (H1 : Heap) (locs1 : List Loc), KW G A s W1 H1 locs1 → W p l e R s m args below meth c H1 locs1 cells slots Q (F0 m (pc + 3) ls rest)) : W p l e R s m args below meth c H locs cells slots Q (F0 m pc ls (.int v0 :: .ref a :: rest)) := by
  subst hv0
  exact zk_put C hW hF q0 (bI_nar v) (bI_fit v) he hl h1 hdg kk
theorem zk_iald (C : CX p s m args meth c cc nL own rt nm) (hW : KW G A s W0 H locs) (q0 : Nat) {a n : Nat} {f : Nat → Int32} {i : Int32} (hin : ¬ (i < 0 ∨ n ≤ i.toNatClampNeg)) (he : W0[q0]? = some (a, .inl (G.2.1, n, .inl f))) (hdg : decode cc pc = .ok (.iaload, 1))
    (kk : W p l e R s m args below meth c H locs cells slots Q (F0 m (pc + 1) ls (.int (f i.toNatClampNeg) :: rest))) : W p l e R s m args below meth c H locs cells slots Q (F0 m pc ls (.int i :: .ref a :: rest)) := va_iald (t0 := 0) C.1 C.2.1 hW.1 hW.2.1 q0 he rfl hin hdg kk
theorem zk_iast (C : CX p s m args meth c cc nL own rt nm) (hW : KW G A s W0 H locs) (q0 : Nat) {a n : Nat} {f z : Nat → Int32} {i v : Int32} (hin : ¬ (i < 0 ∨ n ≤ i.toNatClampNeg)) (hz : upd f i.toNatClampNeg v = z) (he : W0[q0]? = some (a, .inl (G.2.1, n, .inl f))) (h1 : W0.set q0 (a, .inl (G.2.1, n, .inl z)) = W1) (hdg : decode cc pc = .ok (.iastore, 1))
    (kk : ∀ (H1 : Heap) (locs1 : List Loc), KW G A s W1 H1 locs1 → W p l e R s m args below meth c H1 locs1 cells slots Q (F0 m (pc + 1) ls rest)) : W p l e R s m args below meth c H locs cells slots Q (F0 m pc ls (.int v :: .int i :: .ref a :: rest)) := by
  subst hz
  subst h1
  exact va_iast (t0 := 0) C.1 C.2.1 hW.1 hW.2.1 hW.2.2.1 hW.2.2.2.1 q0 he rfl hin hdg (fun H1 locs1 a1 a2 a3 => kk H1 locs1 ⟨hW.1, a1, a2, a3, hW.2.2.2.2⟩)
theorem zk_copy {idx : Nat} {lv : List (Nat × Value)} (C : CX p s m args meth c cc nL own rt nm) (hW : KW G A s W0 H locs) (hl : lv_has ls nL lv) (q0 q1 : Nat) {a a0 n0 n1 : Nat} {f g z : Nat → Int32} {n : Int32} (h3 : ¬ n < 0) (h4 : n.toNatClampNeg ≤ n0) (h5 : n.toNatClampNeg ≤ n1) (hz : va_cpy f g 0 0 n.toNatClampNeg = z) (hlk : Cond.methodLink own idx arraycopyName ∈ WL) (hnat : Cond.native arraycopyName ∈ WL) (hst : Cond.static arraycopyName ∈ WL) (hini : Cond.initialized "java/lang/System" ∈ WL) (hfr : 1 ≤ R.frames) (hlo : (rest.map fun v => v.category).sum + (nativeFrameWords "java/lang/System" "arraycopy" 5 + 11) ≤ R.locals)
    (ha0 : W0[q0]? = some (a0, .inl (G.2.1, n0, .inl f))) (ha1 : W0[q1]? = some (a, .inl (G.2.1, n1, .inl g))) (h1 : W0.set q1 (a, .inl (G.2.1, n1, .inl z)) = W1) (hdg : decode cc pc = .ok (.invokestatic idx, 3))
    (kk : ∀ (H1 : Heap) (locs1 : List Loc), KW G A s W1 H1 locs1 → W p l e R s m args below meth c H1 locs1 cells slots Q (F0 m (pc + 3) ls rest)) : W p l e R s m args below meth c H locs cells slots Q (F0 m pc ls (.int n :: .int 0 :: .ref a :: .int 0 :: .ref a0 :: rest)) := by
  subst hz
  subst h1
  have z0 : (0 : Int32).toNatClampNeg = 0 := rfl
  exact va_copyi (t0 := 0) (t1 := 0) (ty := .int) (sp := 0) (dp := 0) C.1 C.2.1 (C.2.2.1.trans hl.1.symm) C.2.2.2.1 (C.2.2.2.2.1 _ hlk) (C.2.2.2.2.1 _ hnat) (C.2.2.2.2.1 _ hst) (C.2.2.2.2.1 _ hini) hW.1 hW.2.1 hW.2.2.1 hW.2.2.2.1 q0 q1 ha0 ha1 rfl rfl rfl (by decide) (by decide) h3 (by rw [z0]; omega) (by rw [z0]; omega) (fun i _ => rfl) hfr hlo hdg (fun H1 locs1 a1 a2 a3 => kk H1 locs1 ⟨hW.1, a1, a2, a3, hW.2.2.2.2⟩)
theorem zk_alen (C : CX p s m args meth c cc nL own rt nm) (hW : KW G A s W0 H locs) (q0 : Nat) {a n : Nat} {f : Nat → Int32} (he : W0[q0]? = some (a, .inl (G.2.1, n, .inl f))) (hdg : decode cc pc = .ok (.arraylength, 1))
    (kk : W p l e R s m args below meth c H locs cells slots Q (F0 m (pc + 1) ls (.int (Int32.ofNat n) :: rest))) : W p l e R s m args below meth c H locs cells slots Q (F0 m pc ls (.ref a :: rest)) := va_alen (t0 := 0) C.1 C.2.1 hW.1 hW.2.1 q0 he rfl rfl hdg kk
theorem zk_alenR (C : CX p s m args meth c cc nL own rt nm) (hW : KW G A s W0 H locs) (q0 : Nat) {a n : Nat} {f : Nat → Option Nat} (he : W0[q0]? = some (a, .inl (G.2.2, n, .inr (.inr (.inr (.inr f)))))) (hdg : decode cc pc = .ok (.arraylength, 1))
    (kk : W p l e R s m args below meth c H locs cells slots Q (F0 m (pc + 1) ls (.int (Int32.ofNat n) :: rest))) : W p l e R s m args below meth c H locs cells slots Q (F0 m pc ls (.ref a :: rest)) := va_alen (t0 := 1) C.1 C.2.1 hW.1 hW.2.1 q0 he rfl rfl hdg kk
theorem zk_aald (C : CX p s m args meth c cc nL own rt nm) (hW : KW G A s W0 H locs) (q0 : Nat) {a n b : Nat} {f : Nat → Option Nat} {i : Int32} (hin : ¬ (i < 0 ∨ n ≤ i.toNatClampNeg)) (hv : f i.toNatClampNeg = some b) (he : W0[q0]? = some (a, .inl (G.2.2, n, .inr (.inr (.inr (.inr f)))))) (hdg : decode cc pc = .ok (.aaload, 1))
    (kk : W p l e R s m args below meth c H locs cells slots Q (F0 m (pc + 1) ls (.ref b :: rest))) : W p l e R s m args below meth c H locs cells slots Q (F0 m pc ls (.int i :: .ref a :: rest)) := va_aldq (t0 := 1) C.1 C.2.1 hW.1 hW.2.1 q0 he rfl hin hdg (by rw [hv]; exact kk)
theorem zk_iret {res v : Int32} {wo : va_W} (C : CX p s m args meth c cc nL own (some .int) nm) (hW : KW G A s wo H locs) (hv : v = res) (hdg : decode cc pc = .ok (.ireturn, 1)) : W p l e R s m args below meth c H locs 0 0 (QI G A res wo below args s) (F0 m pc ls [.int v]) := by
  subst hv
  obtain ⟨hx, hb, hml, hown, hts, hr, hlo, hnm⟩ := C
  obtain ⟨hK, hP, hD, hS, hA, hN⟩ := hW
  exact W.iret hx hb hr (fun t ht hW => ⟨⟨v, (), rfl, rfl, by rw [ht]; exact hP, va_K.moved hW.alike hK, hD⟩, hS.F ht⟩) hS.2.2 hdg hlo
theorem zk_zret {v : Int32} {wo : va_W} (b : Bool) (C : CX p s m args meth c cc nL own (some .boolean) nm) (hW : KW G A s wo H locs) (hv : v = bI b) (hdg : decode cc pc = .ok (.ireturn, 1)) : W p l e R s m args below meth c H locs 0 0 (QI G A (bI b) wo below args s) (F0 m pc ls [.int v]) := by
  subst hv
  obtain ⟨hx, hb, hml, hown, hts, hr, hlo, hnm⟩ := C
  obtain ⟨hK, hP, hD, hS, hA, hN⟩ := hW
  exact W.zret hx hb hr (bI_nar b) (fun t ht hW => ⟨⟨_, (), rfl, rfl, by rw [ht]; exact hP, va_K.moved hW.alike hK, hD⟩, hS.F ht⟩) hS.2.2 hdg hlo
theorem zk_lret {res v : Int64} {wo : va_W} (C : CX p s m args meth c cc nL own (some .long) nm) (hW : KW G A s wo H locs) (hv : v = res) (hdg : decode cc pc = .ok (.lreturn, 1)) : W p l e R s m args below meth c H locs 0 0 (QL G A res wo below args s) (F0 m pc ls [.long v]) := by
  subst hv
  obtain ⟨hx, hb, hml, hown, hts, hr, hlo, hnm⟩ := C
  obtain ⟨hK, hP, hD, hS, hA, hN⟩ := hW
  exact W.lret hx hb hr (fun t ht hW => ⟨⟨v, (), rfl, rfl, by rw [ht]; exact hP, va_K.moved hW.alike hK, hD⟩, hS.F ht⟩) hS.2.2 hdg hlo
theorem zk_vret {wo : va_W} (C : CX p s m args meth c cc nL own none nm) (hW : KW G A s wo H locs) (hdg : decode cc pc = .ok (.return_, 1)) : W p l e R s m args below meth c H locs 0 0 (QV G A wo below args s) (F0 m pc ls []) := by
  obtain ⟨hx, hb, hml, hown, hts, hr, hlo, hnm⟩ := C
  obtain ⟨hK, hP, hD, hS, hA, hN⟩ := hW
  exact W.vret hx hb hr (fun t ht hW => ⟨⟨(), rfl, trivial, by rw [ht]; exact hP, va_K.moved hW.alike hK, hD⟩, hS.F ht⟩) hS.2.2 hdg hlo
theorem zk_nret {wn : (Nat → Nat) → va_W} (u : Nat → Nat) (C : CX p s m args meth c cc nL own none nm) (hW : KW G A s (wn u) H locs) (hdg : decode cc pc = .ok (.return_, 1)) : W p l e R s m args below meth c H locs cells slots (QN G A wn cells slots below args s) (F0 m pc ls []) := by
  obtain ⟨hx, hb, hml, hown, hts, hr, hlo, hnm⟩ := C
  obtain ⟨hK, hP, hD, hS, hA, hN⟩ := hW
  exact W.vret hx hb hr (fun t ht hW => ⟨⟨u, rfl, trivial, by rw [ht]; exact hP, va_K.moved hW.alike hK, hD⟩, hS.F ht⟩) hS.2.2 hdg hlo
variable {y : MethodName} {bytes : ByteArray} {maxL n idx ci : Nat} {ret : Option FieldType} {rm : Room} {As : List Value} {wi wo : va_W} {b : Nat} {lv : List (Nat × Value)} {mc ms : Nat} {free : Addr → Prop} {Qc : Array Value → State → Outcome → State → Prop}
theorem zk_hpre (hW : KW G A s W0 H locs) (isC : List Nat) (hC : isC.map (fun i => W0[i]?) = wi.map some) (hnd : va_nd isC = true) {av : List Value} : ∀ U : State, U.heap = H → s.WarmedH U.vm → PcG G av wi H.size av.toArray U := by
  intro U hU hWm
  obtain ⟨hK, hP, hD, hS, hA, hN⟩ := hW
  have e1 : isC.filterMap (fun i => W0[i]?) = wi := by
    have h2 : (isC.map (fun i => W0[i]?)).filterMap id = (wi.map some).filterMap id := by rw [hC]
    simpa [List.filterMap_map, Function.comp_def] using h2
  exact ⟨rfl, by rw [hU], by rw [hU]; exact hP.sub isC e1, va_K.moved hWm.alike hK, (hD.sub isC hnd hC).weaken (fun _ _ _ _ => trivial), hN.warm hWm⟩
theorem zk_runV (C : CX p s m args meth c cc nL own rt nm) (hW : KW G A s W0 H locs) (hl : lv_has ls nL lv) (hy : MV own idx y bytes maxL ret n ci) (hM : Met l y (Cond.code y bytes maxL ret :: WL) rm (PcG G (.ref b :: As) wi H.size) Qc mc ms free) (hrm : rm.frames + 1 ≤ R.frames ∧ 8 + (maxL + 11) + rm.locals ≤ R.locals) (hrc : rm.cells = mc ∧ rm.slots = ms)
    (isC : List Nat) (hC : isC.map (fun i => W0[i]?) = wi.map some) (hnd : va_nd isC = true) {fs : List Value} (hb0 : wi[0]? = some (b, .inr (ci, fs))) (hn : As.length = n) (hroom : (rest.map fun v => v.category).sum ≤ 8) (hdg : decode cc pc = .ok (.invokevirtual idx, 3)) (hf : cells + mc ≤ R.cells ∧ slots + ms ≤ R.slots) :
    va_Run p l e R s m args below meth c H locs cells slots mc ms (F0 m pc ls (As.reverse ++ .ref b :: rest)) rest (Qc (Value.ref b :: As).toArray) free := by
  obtain ⟨hx, hb, hml, hown, hts, hr, hlo, hnm⟩ := C
  obtain ⟨m1, m2, m3, m4, m5, m6, q, m7, m8⟩ := hy
  have hpre := zk_hpre (av := .ref b :: As) hW isC hC hnd
  have hbP : ∃ k : Nat, W0[k]? = some (b, (Sum.inr (ci, fs) : va_E)) := by
    have h1 : (isC.map (fun i => W0[i]?))[0]? = some (some (b, .inr (ci, fs))) := by rw [hC, List.getElem?_map, hb0]; rfl
    rw [List.getElem?_map] at h1
    cases hi : isC[0]? with
    | none => rw [hi] at h1; cases h1
    | some i => rw [hi] at h1; exact ⟨i, Option.some.inj h1⟩
  obtain ⟨k0, hk0⟩ := hbP
  have hrecv := va_recv hW.1 hW.2.1 m7 hk0
  rw [m8] at hrecv
  exact va_runV (C := y.cls) ⟨hx, hb, hml, hown, hts⟩ hM ⟨callB_of n hts (goodY m5) rfl hrc.1 hrc.2 (hts _ m4) (hts _ m1) m6 hrm, hts _ m2, hts _ m3⟩ ⟨PcG.blind, hrecv, hpre⟩ rfl hn hl.1 rfl (lv_room hroom) hdg hf
theorem zk_runS (C : CX p s m args meth c cc nL own rt nm) (hW : KW G A s W0 H locs) (hl : lv_has ls nL lv) (hy : MS own idx y bytes maxL ret n) (hM : Met l y (Cond.code y bytes maxL ret :: WL) rm (PcG G As wi H.size) Qc mc ms free) (hrm : rm.frames + 1 ≤ R.frames ∧ 8 + (maxL + 11) + rm.locals ≤ R.locals) (hrc : rm.cells = mc ∧ rm.slots = ms)
    (isC : List Nat) (hC : isC.map (fun i => W0[i]?) = wi.map some) (hnd : va_nd isC = true) (hn : As.length = n) (hroom : (rest.map fun v => v.category).sum ≤ 8) (hdg : decode cc pc = .ok (.invokestatic idx, 3)) (hf : cells + mc ≤ R.cells ∧ slots + ms ≤ R.slots) :
    va_Run p l e R s m args below meth c H locs cells slots mc ms (F0 m pc ls (As.reverse ++ rest)) rest (Qc As.toArray) free := by
  obtain ⟨hx, hb, hml, hown, hts, hr, hlo, hnm⟩ := C
  obtain ⟨m1, m2, m4, m5, m6⟩ := hy
  exact va_runS ⟨hx, hb, hml, hown, hts⟩ hM ⟨callB_of n hts (goodY m5) rfl hrc.1 hrc.2 (hts _ m4) (hts _ m1) m6 hrm, hts _ m2⟩ ⟨PcG.blind, zk_hpre hW isC hC hnd⟩ rfl hn hl.1 rfl (lv_room hroom) hdg hf
theorem zk_runN (C : CX p s m args meth c cc nL own rt nm) (hW : KW G A s W0 H locs) (hl : lv_has ls nL lv) (hy : MN own idx y bytes maxL n) (hM : Met l y (Cond.code y bytes maxL none :: WL) rm (PcG G (.ref b :: As) wi H.size) Qc mc ms free) (hrm : rm.frames + 1 ≤ R.frames ∧ 8 + (maxL + 11) + rm.locals ≤ R.locals) (hrc : rm.cells = mc ∧ rm.slots = ms)
    (isC : List Nat) (hC : isC.map (fun i => W0[i]?) = wi.map some) (hnd : va_nd isC = true) (hn : As.length = n) (hroom : (rest.map fun v => v.category).sum ≤ 8) (hdg : decode cc pc = .ok (.invokespecial idx, 3)) (hf : cells + mc ≤ R.cells ∧ slots + ms ≤ R.slots) :
    va_Run p l e R s m args below meth c H locs cells slots mc ms (F0 m pc ls (As.reverse ++ .ref b :: rest)) rest (Qc (Value.ref b :: As).toArray) free := by
  obtain ⟨hx, hb, hml, hown, hts, hr, hlo, hnm⟩ := C
  obtain ⟨m1, m2, m4, m5, m3, m6⟩ := hy
  have hpre := zk_hpre (av := .ref b :: As) hW isC hC hnd
  rcases m1 with m1 | ⟨host, m1⟩
  · exact va_runI ⟨hx, hb, hml, hown, hts⟩ hM ⟨callB_of n hts (goodY m5) rfl hrc.1 hrc.2 (hts _ m4) (hts _ m1) m6 hrm, m3, hts _ m2⟩ ⟨PcG.blind, hpre⟩ rfl hn hl.1 rfl (lv_room hroom) hdg hf
  · exact va_runIN (host := host) ⟨hx, hb, hml, hown, hts⟩ hM ⟨va_cnB n hts (goodY m5) rfl hrc.1 hrc.2 (hW.2.2.2.2.2.2.1 _ m1) (hts _ m4) m6 hrm, m3, hts _ m2⟩ ⟨PcG.blind, hpre⟩ rfl hn hl.1 rfl (lv_room hroom) hdg hf
/-- calls on an object; static calls: the callee's cells are those of the places isC, its new ones come back there -/
theorem zk_callI {res : Int32} (C : CX p s m args meth c cc nL own rt nm) (hW : KW G A s W0 H locs) (hl : lv_has ls nL lv) (hy : MV own idx y bytes maxL ret n ci) (hM : CtI G l y (Cond.code y bytes maxL ret :: WL) rm (.ref b :: As) wi res wo) (hrm : rm.frames + 1 ≤ R.frames ∧ 8 + (maxL + 11) + rm.locals ≤ R.locals) (hrc : rm.cells = 0 ∧ rm.slots = 0)
    (isC : List Nat) (hC : isC.map (fun i => W0[i]?) = wi.map some) (hnd : va_nd isC = true) {fs : List Value} (hb0 : wi[0]? = some (b, .inr (ci, fs))) (hn : As.length = n) (hroom : (rest.map fun v => v.category).sum ≤ 8) (hlen : isC.length ≤ wo.length) (h1 : rep W0 isC wo = W1) (hdg : decode cc pc = .ok (.invokevirtual idx, 3)) (hf : cells ≤ R.cells ∧ slots ≤ R.slots)
    (kk : ∀ (H1 : Heap) (locs1 : List Loc), KW G A s W1 H1 locs1 → W p l e R s m args below meth c H1 locs1 cells slots Q (F0 m (pc + 3) ls (.int res :: rest))) : W p l e R s m args below meth c H locs cells slots Q (F0 m pc ls (As.reverse ++ .ref b :: rest)) := by
  have hF := va_free (wc := wi) hW.2.2.1 hW.2.2.2.1 hW.2.2.2.2.1 isC hC
  refine va_calli (zk_runV C hW hl hy (hM H.size) hrm hrc isC hC hnd hb0 hn hroom hdg hf) hW.2.2.2.1 (fun q _ h => hF q h) hF (fun r u t H1 locs ht hvm hw hB hz1 hk1 hS => ?_)
  subst hw
  exact kk H1 locs (zk_join hW isC hC hnd hlen hB ht hk1 hS h1)
theorem zk_callL {res : Int64} (C : CX p s m args meth c cc nL own rt nm) (hW : KW G A s W0 H locs) (hl : lv_has ls nL lv) (hy : MV own idx y bytes maxL ret n ci) (hM : CtL G l y (Cond.code y bytes maxL ret :: WL) rm (.ref b :: As) wi res wo) (hrm : rm.frames + 1 ≤ R.frames ∧ 8 + (maxL + 11) + rm.locals ≤ R.locals) (hrc : rm.cells = 0 ∧ rm.slots = 0)
    (isC : List Nat) (hC : isC.map (fun i => W0[i]?) = wi.map some) (hnd : va_nd isC = true) {fs : List Value} (hb0 : wi[0]? = some (b, .inr (ci, fs))) (hn : As.length = n) (hroom : (rest.map fun v => v.category).sum ≤ 8) (hlen : isC.length ≤ wo.length) (h1 : rep W0 isC wo = W1) (hdg : decode cc pc = .ok (.invokevirtual idx, 3)) (hf : cells ≤ R.cells ∧ slots ≤ R.slots)
    (kk : ∀ (H1 : Heap) (locs1 : List Loc), KW G A s W1 H1 locs1 → W p l e R s m args below meth c H1 locs1 cells slots Q (F0 m (pc + 3) ls (.long res :: rest))) : W p l e R s m args below meth c H locs cells slots Q (F0 m pc ls (As.reverse ++ .ref b :: rest)) := by
  have hF := va_free (wc := wi) hW.2.2.1 hW.2.2.2.1 hW.2.2.2.2.1 isC hC
  refine va_calll (zk_runV C hW hl hy (hM H.size) hrm hrc isC hC hnd hb0 hn hroom hdg hf) hW.2.2.2.1 (fun q _ h => hF q h) hF (fun r u t H1 locs ht hvm hw hB hz1 hk1 hS => ?_)
  subst hw
  exact kk H1 locs (zk_join hW isC hC hnd hlen hB ht hk1 hS h1)
theorem zk_callV (C : CX p s m args meth c cc nL own rt nm) (hW : KW G A s W0 H locs) (hl : lv_has ls nL lv) (hy : MV own idx y bytes maxL ret n ci) (hM : CtV G l y (Cond.code y bytes maxL ret :: WL) rm (.ref b :: As) wi wo) (hrm : rm.frames + 1 ≤ R.frames ∧ 8 + (maxL + 11) + rm.locals ≤ R.locals) (hrc : rm.cells = 0 ∧ rm.slots = 0)
    (isC : List Nat) (hC : isC.map (fun i => W0[i]?) = wi.map some) (hnd : va_nd isC = true) {fs : List Value} (hb0 : wi[0]? = some (b, .inr (ci, fs))) (hn : As.length = n) (hroom : (rest.map fun v => v.category).sum ≤ 8) (hlen : isC.length ≤ wo.length) (h1 : rep W0 isC wo = W1) (hdg : decode cc pc = .ok (.invokevirtual idx, 3)) (hf : cells ≤ R.cells ∧ slots ≤ R.slots)
    (kk : ∀ (H1 : Heap) (locs1 : List Loc), KW G A s W1 H1 locs1 → W p l e R s m args below meth c H1 locs1 cells slots Q (F0 m (pc + 3) ls rest)) : W p l e R s m args below meth c H locs cells slots Q (F0 m pc ls (As.reverse ++ .ref b :: rest)) := by
  have hF := va_free (wc := wi) hW.2.2.1 hW.2.2.2.1 hW.2.2.2.2.1 isC hC
  refine va_callv (zk_runV C hW hl hy (hM H.size) hrm hrc isC hC hnd hb0 hn hroom hdg hf) hW.2.2.2.1 (fun q _ h => hF q h) hF (fun u t H1 locs ht hvm hw hB hz1 hk1 hS => ?_)
  exact kk H1 locs (zk_join hW isC hC hnd hlen hB ht hk1 hS h1)
theorem zk_callSI {res : Int32} (C : CX p s m args meth c cc nL own rt nm) (hW : KW G A s W0 H locs) (hl : lv_has ls nL lv) (hy : MS own idx y bytes maxL ret n) (hM : CtI G l y (Cond.code y bytes maxL ret :: WL) rm As wi res wo) (hrm : rm.frames + 1 ≤ R.frames ∧ 8 + (maxL + 11) + rm.locals ≤ R.locals) (hrc : rm.cells = 0 ∧ rm.slots = 0)
    (isC : List Nat) (hC : isC.map (fun i => W0[i]?) = wi.map some) (hnd : va_nd isC = true) (hn : As.length = n) (hroom : (rest.map fun v => v.category).sum ≤ 8) (hlen : isC.length ≤ wo.length) (h1 : rep W0 isC wo = W1) (hdg : decode cc pc = .ok (.invokestatic idx, 3)) (hf : cells ≤ R.cells ∧ slots ≤ R.slots)
    (kk : ∀ (H1 : Heap) (locs1 : List Loc), KW G A s W1 H1 locs1 → W p l e R s m args below meth c H1 locs1 cells slots Q (F0 m (pc + 3) ls (.int res :: rest))) : W p l e R s m args below meth c H locs cells slots Q (F0 m pc ls (As.reverse ++ rest)) := by
  have hF := va_free (wc := wi) hW.2.2.1 hW.2.2.2.1 hW.2.2.2.2.1 isC hC
  refine va_calli (zk_runS C hW hl hy (hM H.size) hrm hrc isC hC hnd hn hroom hdg hf) hW.2.2.2.1 (fun q _ h => hF q h) hF (fun r u t H1 locs ht hvm hw hB hz1 hk1 hS => ?_)
  subst hw
  exact kk H1 locs (zk_join hW isC hC hnd hlen hB ht hk1 hS h1)
theorem zk_callSV (C : CX p s m args meth c cc nL own rt nm) (hW : KW G A s W0 H locs) (hl : lv_has ls nL lv) (hy : MS own idx y bytes maxL ret n) (hM : CtV G l y (Cond.code y bytes maxL ret :: WL) rm As wi wo) (hrm : rm.frames + 1 ≤ R.frames ∧ 8 + (maxL + 11) + rm.locals ≤ R.locals) (hrc : rm.cells = 0 ∧ rm.slots = 0)
    (isC : List Nat) (hC : isC.map (fun i => W0[i]?) = wi.map some) (hnd : va_nd isC = true) (hn : As.length = n) (hroom : (rest.map fun v => v.category).sum ≤ 8) (hlen : isC.length ≤ wo.length) (h1 : rep W0 isC wo = W1) (hdg : decode cc pc = .ok (.invokestatic idx, 3)) (hf : cells ≤ R.cells ∧ slots ≤ R.slots)
    (kk : ∀ (H1 : Heap) (locs1 : List Loc), KW G A s W1 H1 locs1 → W p l e R s m args below meth c H1 locs1 cells slots Q (F0 m (pc + 3) ls rest)) : W p l e R s m args below meth c H locs cells slots Q (F0 m pc ls (As.reverse ++ rest)) := by
  have hF := va_free (wc := wi) hW.2.2.1 hW.2.2.2.1 hW.2.2.2.2.1 isC hC
  refine va_callv (zk_runS C hW hl hy (hM H.size) hrm hrc isC hC hnd hn hroom hdg hf) hW.2.2.2.1 (fun q _ h => hF q h) hF (fun u t H1 locs ht hvm hw hB hz1 hk1 hS => ?_)
  exact kk H1 locs (zk_join hW isC hC hnd hlen hB ht hk1 hS h1)
/-- an object is made by its constructor: new cells come behind -/
theorem zk_callN {wn : (Nat → Nat) → va_W} {Wn : (Nat → Nat) → va_W} (C : CX p s m args meth c cc nL own rt nm) (hW : KW G A s W0 H locs) (hl : lv_has ls nL lv) (hy : MN own idx y bytes maxL n) (hM : CtN G l y (Cond.code y bytes maxL none :: WL) rm (.ref b :: As) wi wn mc ms) (hrm : rm.frames + 1 ≤ R.frames ∧ 8 + (maxL + 11) + rm.locals ≤ R.locals) (hrc : rm.cells = mc ∧ rm.slots = ms)
    (isC : List Nat) (hC : isC.map (fun i => W0[i]?) = wi.map some) (hnd : va_nd isC = true) (hn : As.length = n) (hroom : (rest.map fun v => v.category).sum ≤ 8) (hlen : ∀ u, isC.length ≤ (wn u).length) (h1 : ∀ u, rep W0 isC (wn u) = Wn u) (hdg : decode cc pc = .ok (.invokespecial idx, 3)) (hf : cells + mc ≤ R.cells ∧ slots + ms ≤ R.slots)
    (kk : ∀ (u : Nat → Nat) (H1 : Heap) (locs1 : List Loc), KW G A s (Wn u) H1 locs1 → W p l e R s m args below meth c H1 locs1 (cells + mc) (slots + ms) Q (F0 m (pc + 3) ls rest)) : W p l e R s m args below meth c H locs cells slots Q (F0 m pc ls (As.reverse ++ .ref b :: rest)) := by
  have hF := va_free (wc := wi) hW.2.2.1 hW.2.2.2.1 hW.2.2.2.2.1 isC hC
  refine va_callv (zk_runN C hW hl hy (hM H.size) hrm hrc isC hC hnd hn hroom hdg hf) hW.2.2.2.1 (fun q _ h => hF q h) hF (fun u t H1 locs ht hvm hw hB hz1 hk1 hS => ?_)
  exact kk u H1 locs (zk_join hW isC hC hnd (hlen u) hB ht hk1 hS (h1 u))
theorem va_D_split {A : Nat → Prop} {a b : va_W} (h : va_D A (a ++ b)) : va_D A a ∧ va_D A b ∧ ∀ (i j : Nat) (p q : Nat × va_E), a[i]? = some p → b[j]? = some q → p.1 ≠ q.1 := by
  have ka : ∀ (i : Nat) (p : Nat × va_E), a[i]? = some p → (a ++ b)[i]? = some p := fun i p hp => by
    rw [List.getElem?_append_left (List.getElem?_eq_some_iff.mp hp).1]; exact hp
  have kb : ∀ (j : Nat) (p : Nat × va_E), b[j]? = some p → (a ++ b)[a.length + j]? = some p := fun j p hp => by
    rw [List.getElem?_append_right (by omega), show a.length + j - a.length = j by omega]; exact hp
  refine ⟨⟨fun i j p q hi hj e => h.1 i j p q (ka i p hi) (ka j q hj) e, fun k q hk => h.2 k q (ka k q hk)⟩, ⟨fun i j p q hi hj e => by have := h.1 _ _ p q (kb i p hi) (kb j q hj) e; omega, fun k q hk => h.2 _ q (kb k q hk)⟩, fun i j p q hi hj e => ?_⟩
  have h1 := h.1 _ _ p q (ka i p hi) (kb j q hj) e
  have h2 := (List.getElem?_eq_some_iff.mp hi).1
  omega
theorem va_P_split {D : va_G} {cl : List vw_C} {a b : va_W} {H : Heap} (h : va_P D cl (a ++ b) H) : va_P D cl a H ∧ va_P D cl b H := by
  refine ⟨fun i p hp => h i p ?_, fun j p hp => h (a.length + j) p ?_⟩
  · rw [List.getElem?_append_left (List.getElem?_eq_some_iff.mp hp).1]; exact hp
  · rw [List.getElem?_append_right (by omega), show a.length + j - a.length = j by omega]; exact hp
theorem zk_preB {pre post : va_W} (hW : KW G A s (pre ++ (wi ++ post)) H locs) {av : List Value} : ∀ U : State, U.heap = H → s.WarmedH U.vm → PcG G av wi H.size av.toArray U := by
  intro U hU hWm
  obtain ⟨hK, hP, hD, hS, hA, hN⟩ := hW
  exact ⟨rfl, by rw [hU], by rw [hU]; exact (va_P_split (va_P_split hP).2).1, va_K.moved hWm.alike hK, (va_D_split (va_D_split hD).2.1).1.weaken (fun _ _ _ _ => trivial), hN.warm hWm⟩
theorem zk_freeB {pre post : va_W} (hW : KW G A s (pre ++ (wi ++ post)) H locs) : ∀ q, va_A wi H.size q → A q := by
  obtain ⟨hK, hP, hD, hS, hA, hN⟩ := hW
  intro q h
  rcases h with ⟨k, e, h⟩ | h
  · exact (va_D_split (va_D_split hD).2.1).1.2 k (q, e) h
  · exact hA q (Nat.le_trans hS.1 h)
theorem zk_joinB {pre post : va_W} {t : State} {H1 : Heap} {locs1 : List Loc} (hW : KW G A s (pre ++ (wi ++ post)) H locs) (hB : BoG G (va_A wi H.size) wo () t) (ht : t.heap = H1)
    (hk : ∀ q : Nat, q < H.size → ¬ va_A wi H.size q → H1[q]? = H[q]?) (hS1 : va_S A s.heap H1 locs1) : KW G A s (pre ++ (wo ++ post)) H1 locs1 := by
  have hF := zk_freeB hW
  obtain ⟨hK, hP, hD, hS, hA, hN⟩ := hW
  obtain ⟨hP1, -, hD1⟩ := hB
  rw [ht] at hP1
  obtain ⟨p1, p2⟩ := va_P_split hP
  obtain ⟨p2, p3⟩ := va_P_split p2
  obtain ⟨d1, d2, d3⟩ := va_D_split hD
  obtain ⟨d4, d5, d6⟩ := va_D_split d2
  have hpre : ∀ (k : Nat) (q : Nat × va_E), pre[k]? = some q → q.1 < H.size ∧ ¬ va_A wi H.size q.1 := fun k q hq => by
    have hl := (p1 k q hq).lt
    refine ⟨hl, fun h => ?_⟩
    rcases h with ⟨k2, e, h⟩ | h
    · exact d3 k k2 q (q.1, e) hq (by rw [List.getElem?_append_left (List.getElem?_eq_some_iff.mp h).1]; exact h) rfl
    · omega
  have hpost : ∀ (k : Nat) (q : Nat × va_E), post[k]? = some q → q.1 < H.size ∧ ¬ va_A wi H.size q.1 := fun k q hq => by
    have hl := (p3 k q hq).lt
    refine ⟨hl, fun h => ?_⟩
    rcases h with ⟨k2, e, h⟩ | h
    · exact d6 k2 k (q.1, e) q h hq rfl
    · omega
  refine ⟨hK, va_P.app (p1.kept fun k q hq => hk q.1 (hpre k q hq).1 (hpre k q hq).2) (va_P.app hP1 (p3.kept fun k q hq => hk q.1 (hpost k q hq).1 (hpost k q hq).2)), va_D.app d1 (va_D.app (hD1.weaken fun k q _ h => hF q.1 h) d5 fun i j x y hx hy e => ?_) fun i j x y hx hy e => ?_, hS1, hA, hN⟩
  · exact (hpost j y hy).2 (by rw [← e]; exact hD1.2 i x hx)
  · rcases List.mem_append.mp (List.mem_of_getElem? hy) with h | h
    · obtain ⟨j', hj'⟩ := List.getElem?_of_mem h
      exact (hpre i x hx).2 (by rw [e]; exact hD1.2 j' y hj')
    · obtain ⟨j', hj'⟩ := List.getElem?_of_mem h
      have h7 : (wi ++ post)[wi.length + j']? = some y := by rw [List.getElem?_append_right (by omega), show wi.length + j' - wi.length = j' by omega]; exact hj'
      exact d3 i _ x y hx h7 e
theorem zE1 {w : va_W} : w = [] ++ (w ++ []) := by simp
theorem zE1r {w : va_W} : [] ++ (w ++ []) = w := by simp
theorem zE2 {w v : va_W} : w ++ v = [] ++ (w ++ v) := rfl
theorem zE2r {w v : va_W} : [] ++ (w ++ v) = w ++ v := rfl
theorem zE3 {w v : va_W} : v ++ w = v ++ (w ++ []) := by simp
theorem zE3r {w v : va_W} : v ++ (w ++ []) = v ++ w := by simp
theorem zk_runB (C : CX p s m args meth c cc nL own rt nm) {pre post : va_W} (hW : KW G A s (pre ++ (wi ++ post)) H locs) (hl : lv_has ls nL lv) (hy : MV own idx y bytes maxL ret n ci) (hM : Met l y (Cond.code y bytes maxL ret :: WL) rm (PcG G (.ref b :: As) wi H.size) Qc mc ms free) (hrm : rm.frames + 1 ≤ R.frames ∧ 8 + (maxL + 11) + rm.locals ≤ R.locals) (hrc : rm.cells = mc ∧ rm.slots = ms)
    {fs : List Value} (hb0 : wi[0]? = some (b, .inr (ci, fs))) (hn : As.length = n) (hroom : (rest.map fun v => v.category).sum ≤ 8) (hdg : decode cc pc = .ok (.invokevirtual idx, 3)) (hf : cells + mc ≤ R.cells ∧ slots + ms ≤ R.slots) :
    va_Run p l e R s m args below meth c H locs cells slots mc ms (F0 m pc ls (As.reverse ++ .ref b :: rest)) rest (Qc (Value.ref b :: As).toArray) free := by
  obtain ⟨hx, hb, hml, hown, hts, hr, hlo, hnm⟩ := C
  obtain ⟨m1, m2, m3, m4, m5, m6, q, m7, m8⟩ := hy
  have hpre := zk_preB (av := .ref b :: As) hW
  have hrecv := va_recv hW.1 (va_P_split (va_P_split hW.2.1).2).1 m7 hb0
  rw [m8] at hrecv
  exact va_runV (C := y.cls) ⟨hx, hb, hml, hown, hts⟩ hM ⟨callB_of n hts (goodY m5) rfl hrc.1 hrc.2 (hts _ m4) (hts _ m1) m6 hrm, hts _ m2, hts _ m3⟩ ⟨PcG.blind, hrecv, hpre⟩ rfl hn hl.1 rfl (lv_room hroom) hdg hf
theorem zk_callBI {res : Int32} (C : CX p s m args meth c cc nL own rt nm) (hW : KW G A s W0 H locs) (hl : lv_has ls nL lv) (hy : MV own idx y bytes maxL ret n ci) (hM : CtI G l y (Cond.code y bytes maxL ret :: WL) rm (.ref b :: As) wi res wo) (hrm : rm.frames + 1 ≤ R.frames ∧ 8 + (maxL + 11) + rm.locals ≤ R.locals) (hrc : rm.cells = 0 ∧ rm.slots = 0)
    (pre post : va_W) (hE : W0 = pre ++ (wi ++ post)) {fs : List Value} (hb0 : wi[0]? = some (b, .inr (ci, fs))) (hn : As.length = n) (hroom : (rest.map fun v => v.category).sum ≤ 8) (h1 : pre ++ (wo ++ post) = W1) (hdg : decode cc pc = .ok (.invokevirtual idx, 3)) (hf : cells ≤ R.cells ∧ slots ≤ R.slots)
    (kk : ∀ (H1 : Heap) (locs1 : List Loc), KW G A s W1 H1 locs1 → W p l e R s m args below meth c H1 locs1 cells slots Q (F0 m (pc + 3) ls (.int res :: rest))) : W p l e R s m args below meth c H locs cells slots Q (F0 m pc ls (As.reverse ++ .ref b :: rest)) := by
  subst hE
  subst h1
  have hF := zk_freeB hW
  refine va_calli (zk_runB C hW hl hy (hM H.size) hrm hrc hb0 hn hroom hdg hf) hW.2.2.2.1 (fun q _ h => hF q h) hF (fun r u t H1 locs ht hvm hw hB hz1 hk1 hS => ?_)
  subst hw
  exact kk H1 locs (zk_joinB hW hB ht hk1 hS)
theorem zk_callBL {res : Int64} (C : CX p s m args meth c cc nL own rt nm) (hW : KW G A s W0 H locs) (hl : lv_has ls nL lv) (hy : MV own idx y bytes maxL ret n ci) (hM : CtL G l y (Cond.code y bytes maxL ret :: WL) rm (.ref b :: As) wi res wo) (hrm : rm.frames + 1 ≤ R.frames ∧ 8 + (maxL + 11) + rm.locals ≤ R.locals) (hrc : rm.cells = 0 ∧ rm.slots = 0)
    (pre post : va_W) (hE : W0 = pre ++ (wi ++ post)) {fs : List Value} (hb0 : wi[0]? = some (b, .inr (ci, fs))) (hn : As.length = n) (hroom : (rest.map fun v => v.category).sum ≤ 8) (h1 : pre ++ (wo ++ post) = W1) (hdg : decode cc pc = .ok (.invokevirtual idx, 3)) (hf : cells ≤ R.cells ∧ slots ≤ R.slots)
    (kk : ∀ (H1 : Heap) (locs1 : List Loc), KW G A s W1 H1 locs1 → W p l e R s m args below meth c H1 locs1 cells slots Q (F0 m (pc + 3) ls (.long res :: rest))) : W p l e R s m args below meth c H locs cells slots Q (F0 m pc ls (As.reverse ++ .ref b :: rest)) := by
  subst hE
  subst h1
  have hF := zk_freeB hW
  refine va_calll (zk_runB C hW hl hy (hM H.size) hrm hrc hb0 hn hroom hdg hf) hW.2.2.2.1 (fun q _ h => hF q h) hF (fun r u t H1 locs ht hvm hw hB hz1 hk1 hS => ?_)
  subst hw
  exact kk H1 locs (zk_joinB hW hB ht hk1 hS)
theorem zk_callBV (C : CX p s m args meth c cc nL own rt nm) (hW : KW G A s W0 H locs) (hl : lv_has ls nL lv) (hy : MV own idx y bytes maxL ret n ci) (hM : CtV G l y (Cond.code y bytes maxL ret :: WL) rm (.ref b :: As) wi  wo) (hrm : rm.frames + 1 ≤ R.frames ∧ 8 + (maxL + 11) + rm.locals ≤ R.locals) (hrc : rm.cells = 0 ∧ rm.slots = 0)
    (pre post : va_W) (hE : W0 = pre ++ (wi ++ post)) {fs : List Value} (hb0 : wi[0]? = some (b, .inr (ci, fs))) (hn : As.length = n) (hroom : (rest.map fun v => v.category).sum ≤ 8) (h1 : pre ++ (wo ++ post) = W1) (hdg : decode cc pc = .ok (.invokevirtual idx, 3)) (hf : cells ≤ R.cells ∧ slots ≤ R.slots)
    (kk : ∀ (H1 : Heap) (locs1 : List Loc), KW G A s W1 H1 locs1 → W p l e R s m args below meth c H1 locs1 cells slots Q (F0 m (pc + 3) ls rest)) : W p l e R s m args below meth c H locs cells slots Q (F0 m pc ls (As.reverse ++ .ref b :: rest)) := by
  subst hE
  subst h1
  have hF := zk_freeB hW
  refine va_callv (zk_runB C hW hl hy (hM H.size) hrm hrc hb0 hn hroom hdg hf) hW.2.2.2.1 (fun q _ h => hF q h) hF (fun u t H1 locs ht hvm hw hB hz1 hk1 hS => ?_)
  exact kk H1 locs (zk_joinB hW hB ht hk1 hS)
end Rows
