/-! the law's helpers: their contract (the heap's words, what can't be cast), out's cells, contracts widened, calls of a method that has a table -/
def NCP : List (String × String) := [("java/lang/IndexOutOfBoundsException", "java/lang/IllegalArgumentException"), ("java/lang/IllegalStateException", "java/lang/IllegalArgumentException"), ("java/lang/IndexOutOfBoundsException", "java/lang/IllegalStateException"), ("java/lang/UnsupportedOperationException", "java/lang/IllegalArgumentException"), ("java/lang/UnsupportedOperationException", "java/lang/IllegalStateException")]
def NCok (U : State) : Prop := ∀ q ∈ NCP, va_Nc q.1 q.2 U
theorem NCok.moved {u U : State} (hv : u.vm.Alike U.vm) (h : NCok u) : NCok U := fun q hq => (h q hq).moved hv
theorem NCok.at {U : State} (h : NCok U) (k : Nat) {q : String × String} (hk : NCP[k]? = some q) : va_Nc q.1 q.2 U := h q (List.mem_of_getElem? hk)
def cw_U (D : va_G) (cl : List vw_C) (tys : List (ClassId × FieldType)) (wc : va_W) (sz : Nat) (U : State) : Prop := cs_U D cl tys wc sz U ∧ XW U ∧ NCok U
theorem cw_blind {D : va_G} {cl : List vw_C} {tys : List (ClassId × FieldType)} {av : List Value} {wc : va_W} {sz : Nat} : FrameBlind (va_Pc av (cw_U D cl tys wc sz)) := fun a U g mk q =>
  ⟨q.1, (cs_blind (D := D) (cl := cl) (tys := tys) (av := av) (wc := wc) (sz := sz) a U g mk ⟨q.1, q.2.1⟩).2, q.2.2.1.calling, NCok.moved (u := U) (U := U.calling g mk a) (Vm.Alike.refl U.vm) q.2.2.2⟩
def CsX (l : Launch) (D : va_G) (cl : List vw_C) (tys : List (ClassId × FieldType)) (y : MethodName) (wy : List Cond) (rm : Room) (av : List Value) (wc : va_W) (post : Int32 → va_W → Prop) (mc ms : Nat) : Prop :=
  ∀ sz : Nat, Met l y wy rm (va_Pc av (cw_U D cl tys wc sz)) (va_Qi post (cs_B D cl tys (va_A wc sz)) (va_A wc sz)) mc ms (va_A wc sz)
theorem cs_room {s : State} {pl : Platform} {r1 r2 : Room} (hr : r1.frames ≤ r2.frames ∧ r1.cells ≤ r2.cells ∧ r1.slots ≤ r2.slots ∧ r1.locals ≤ r2.locals) (h : s.hasRoom pl r2 = true) : s.hasRoom pl r1 = true := by
  simp only [State.hasRoom, Bool.and_eq_true, decide_eq_true_eq] at h ⊢
  obtain ⟨⟨⟨⟨h1, h2, h3, h4, h5, h6⟩, h7⟩, h8⟩, h9⟩ := h
  exact ⟨⟨⟨⟨by omega, by omega, by omega, by omega, by omega, h6⟩, by omega⟩, by omega⟩, h9⟩
theorem cs_inA {ws wc : va_W} {sz : Nat} (isC : List Nat) (hC : isC.map (fun i => ws[i]?) = wc.map some) : ∀ q, va_A wc sz q → va_A ws sz q := by
  intro q h
  rcases h with ⟨k, e, h⟩ | h
  · have h1 : (isC.map (fun i => ws[i]?))[k]? = some (some (q, e)) := by rw [hC, List.getElem?_map, h]; rfl
    rw [List.getElem?_map] at h1
    cases hi : isC[k]? with
    | none => rw [hi] at h1; cases h1
    | some i => rw [hi] at h1; exact Or.inl ⟨i, e, Option.some.inj h1⟩
  · exact Or.inr h
theorem cs_extI {l : Launch} {D : va_G} {cl : List vw_C} {tys : List (ClassId × FieldType)} {y : MethodName} {wy : List Cond} {rm rm2 : Room} {av : List Value} {ws wc wr : va_W} {mc ms mc2 ms2 : Nat} {post post2 : Int32 → va_W → Prop} (h : CsI l D cl tys y wy rm av wc post mc ms) (isC isR : List Nat) (hC : isC.map (fun i => ws[i]?) = wc.map some) (hR : isR.map (fun i => ws[i]?) = wr.map some) (hn1 : va_nd isC = true) (hn2 : va_nd isR = true) (hdis : ∀ i ∈ isR, i ∉ isC)
    (hr : rm.frames ≤ rm2.frames ∧ rm.cells ≤ rm2.cells ∧ rm.slots ≤ rm2.slots ∧ rm.locals ≤ rm2.locals) (hm : mc ≤ mc2 ∧ ms ≤ ms2)
    (hp : ∀ (r : Int32) (w1 : va_W), post r w1 → ∃ (w2 : va_W) (isO : List Nat), isO.map (fun i => (wr ++ w1)[i]?) = w2.map some ∧ va_nd isO = true ∧ post2 r w2) : CsI l D cl tys y wy rm2 av ws post2 mc2 ms2 := by
  intro sz p e ha hc hk s m args below hfr happ hP hK
  obtain ⟨q0, q1, qP, qK, qD, qN⟩ := hP
  subst q1
  have hDs := qD.self (sz := s.heap.size)
  have hFc := cs_inA (sz := s.heap.size) isC hC
  have happ2 : (headSpec wy rm).appliesLoose y e.platform s = true := by
    rw [Spec.appliesLoose_iff hfr] at happ ⊢
    obtain ⟨a1, a2, a3, a4, a5, a6, a7, a8⟩ := happ
    exact ⟨a1, a2, a3, a4, a5, a6, cs_room hr a7, a8⟩
  obtain ⟨n, oc, b1, b2, b3, ⟨⟨r, u, hv, hpo, hP1, hK1, hD1⟩, hz, hkk⟩, L, hF, hL⟩ := h s.heap.size p e ha hc hk s m args below hfr happ2 ⟨q0, rfl, cs_sub qP isC hC, qK, qD.sub isC hn1 hC, qN⟩ trivial
  obtain ⟨w2, isO, hO, hnO, hp2⟩ := hp r u hpo
  obtain ⟨hP2, hD2⟩ := va_join (wr := wr) (w1 := u) qP hDs isC isR hC hR hn2 hdis hkk hFc hP1 hD1
  exact ⟨n, oc, b1, b2, b3, ⟨⟨r, w2, hv, hp2, cs_sub hP2 isO hO, hK1, hD2.sub isO hnO hO⟩, hz, fun q h1 h2 => hkk q h1 (fun z => h2 (hFc q z))⟩, L, ⟨hF.1, hF.2.1, hF.2.2.mono hm.1 hm.2⟩, fun q hq => hFc _ (hL q hq)⟩
theorem cs_extD {l : Launch} {D : va_G} {cl : List vw_C} {tys : List (ClassId × FieldType)} {y : MethodName} {wy : List Cond} {rm rm2 : Room} {av : List Value} {ws wc wr : va_W} {mc ms mc2 ms2 : Nat} {post post2 : UInt64 → va_W → Prop} (h : CsD l D cl tys y wy rm av wc post mc ms) (isC isR : List Nat) (hC : isC.map (fun i => ws[i]?) = wc.map some) (hR : isR.map (fun i => ws[i]?) = wr.map some) (hn1 : va_nd isC = true) (hn2 : va_nd isR = true) (hdis : ∀ i ∈ isR, i ∉ isC)
    (hr : rm.frames ≤ rm2.frames ∧ rm.cells ≤ rm2.cells ∧ rm.slots ≤ rm2.slots ∧ rm.locals ≤ rm2.locals) (hm : mc ≤ mc2 ∧ ms ≤ ms2)
    (hp : ∀ (r : UInt64) (w1 : va_W), post r w1 → ∃ (w2 : va_W) (isO : List Nat), isO.map (fun i => (wr ++ w1)[i]?) = w2.map some ∧ va_nd isO = true ∧ post2 r w2) : CsD l D cl tys y wy rm2 av ws post2 mc2 ms2 := by
  intro sz p e ha hc hk s m args below hfr happ hP hK
  obtain ⟨q0, q1, qP, qK, qD, qN⟩ := hP
  subst q1
  have hDs := qD.self (sz := s.heap.size)
  have hFc := cs_inA (sz := s.heap.size) isC hC
  have happ2 : (headSpec wy rm).appliesLoose y e.platform s = true := by
    rw [Spec.appliesLoose_iff hfr] at happ ⊢
    obtain ⟨a1, a2, a3, a4, a5, a6, a7, a8⟩ := happ
    exact ⟨a1, a2, a3, a4, a5, a6, cs_room hr a7, a8⟩
  obtain ⟨n, oc, b1, b2, b3, ⟨⟨r, u, hv, hpo, hP1, hK1, hD1⟩, hz, hkk⟩, L, hF, hL⟩ := h s.heap.size p e ha hc hk s m args below hfr happ2 ⟨q0, rfl, cs_sub qP isC hC, qK, qD.sub isC hn1 hC, qN⟩ trivial
  obtain ⟨w2, isO, hO, hnO, hp2⟩ := hp r u hpo
  obtain ⟨hP2, hD2⟩ := va_join (wr := wr) (w1 := u) qP hDs isC isR hC hR hn2 hdis hkk hFc hP1 hD1
  exact ⟨n, oc, b1, b2, b3, ⟨⟨r, w2, hv, hp2, cs_sub hP2 isO hO, hK1, hD2.sub isO hnO hO⟩, hz, fun q h1 h2 => hkk q h1 (fun z => h2 (hFc q z))⟩, L, ⟨hF.1, hF.2.1, hF.2.2.mono hm.1 hm.2⟩, fun q hq => hFc _ (hL q hq)⟩
theorem cs_extX {l : Launch} {D : va_G} {cl : List vw_C} {tys : List (ClassId × FieldType)} {y : MethodName} {wy : List Cond} {rm rm2 : Room} {av : List Value} {ws wc wr : va_W} {mc ms mc2 ms2 : Nat} {post post2 : Int32 → va_W → Prop} (h : CsX l D cl tys y wy rm av wc post mc ms) (isC isR : List Nat) (hC : isC.map (fun i => ws[i]?) = wc.map some) (hR : isR.map (fun i => ws[i]?) = wr.map some) (hn1 : va_nd isC = true) (hn2 : va_nd isR = true) (hdis : ∀ i ∈ isR, i ∉ isC)
    (hr : rm.frames ≤ rm2.frames ∧ rm.cells ≤ rm2.cells ∧ rm.slots ≤ rm2.slots ∧ rm.locals ≤ rm2.locals) (hm : mc ≤ mc2 ∧ ms ≤ ms2)
    (hp : ∀ (r : Int32) (w1 : va_W), post r w1 → ∃ (w2 : va_W) (isO : List Nat), isO.map (fun i => (wr ++ w1)[i]?) = w2.map some ∧ va_nd isO = true ∧ post2 r w2) : CsX l D cl tys y wy rm2 av ws post2 mc2 ms2 := by
  intro sz p e ha hc hk s m args below hfr happ hP hK
  obtain ⟨q0, ⟨q1, qP, qK, qD, qN⟩, qX⟩ := hP
  subst q1
  have hDs := qD.self (sz := s.heap.size)
  have hFc := cs_inA (sz := s.heap.size) isC hC
  have happ2 : (headSpec wy rm).appliesLoose y e.platform s = true := by
    rw [Spec.appliesLoose_iff hfr] at happ ⊢
    obtain ⟨a1, a2, a3, a4, a5, a6, a7, a8⟩ := happ
    exact ⟨a1, a2, a3, a4, a5, a6, cs_room hr a7, a8⟩
  obtain ⟨n, oc, b1, b2, b3, ⟨⟨r, u, hv, hpo, hP1, hK1, hD1⟩, hz, hkk⟩, L, hF, hL⟩ := h s.heap.size p e ha hc hk s m args below hfr happ2 ⟨q0, ⟨rfl, cs_sub qP isC hC, qK, qD.sub isC hn1 hC, qN⟩, qX⟩ trivial
  obtain ⟨w2, isO, hO, hnO, hp2⟩ := hp r u hpo
  obtain ⟨hP2, hD2⟩ := va_join (wr := wr) (w1 := u) qP hDs isC isR hC hR hn2 hdis hkk hFc hP1 hD1
  exact ⟨n, oc, b1, b2, b3, ⟨⟨r, w2, hv, hp2, cs_sub hP2 isO hO, hK1, hD2.sub isO hnO hO⟩, hz, fun q h1 h2 => hkk q h1 (fun z => h2 (hFc q z))⟩, L, ⟨hF.1, hF.2.1, hF.2.2.mono hm.1 hm.2⟩, fun q hq => hFc _ (hL q hq)⟩
section CSB
variable {p : Program} {l : Launch} {e : Env} {R : Room} {s : State} {m : MethodId} {args : Array Value} {below : List Frame} {meth : Method} {c : Code} {H : Heap} {locs : List Loc} {cells slots : Nat} {Q : State → Prop}
variable {cc : ByteArray} {pc : Nat} {ls : Array Slot} {rest st0 : List Value} {D : va_G} {cl : List vw_C} {A : Nat → Prop} {tys : List (ClassId × FieldType)} {ws wc wr : va_W} {H0 : Heap}
theorem cs_last (hexec : p.tables.exec = Jvm.exec) (hb : c.code = cc) (hK : va_K D cl tys s) {cA : ClassId} (ht : tys[1]? = some (cA, .long)) (hP : va_P D cl ws H) (hD : va_D A ws) (hS : va_S A H0 H locs) (q0 : Nat) {a : Nat} {f : Nat → Int64} (ha : ws[q0]? = some (a, .inl (cA, 1, .inr (.inl f)))) {x : Int64} (hdg : decode cc pc = .ok (.lastore, 1))
    (kk : ∀ (H1 : Heap) (locs1 : List Loc), va_P D cl (ws.set q0 (a, .inl (cA, 1, .inr (.inl (vp_updL f 0 x))))) H1 → va_D A (ws.set q0 (a, .inl (cA, 1, .inr (.inl (vp_updL f 0 x))))) → va_S A H0 H1 locs1 → W p l e R s m args below meth c H1 locs1 cells slots Q (F0 m (pc + 1) ls rest)) : W p l e R s m args below meth c H locs cells slots Q (F0 m pc ls (.long x :: .int 0 :: .ref a :: rest)) :=
  va_last (i := 0) hexec hb hK hP hD hS q0 1 ha ht (fun h => h.elim (fun q => absurd q (by decide)) (fun q => absurd q (by decide))) hdg kk
theorem cs_lald (hexec : p.tables.exec = Jvm.exec) (hb : c.code = cc) (hK : va_K D cl tys s) {cA : ClassId} (ht : tys[1]? = some (cA, .long)) (hP : va_P D cl ws H) (q0 : Nat) {a : Nat} {f : Nat → Int64} (ha : ws[q0]? = some (a, .inl (cA, 1, .inr (.inl f)))) (hdg : decode cc pc = .ok (.laload, 1))
    (kk : W p l e R s m args below meth c H locs cells slots Q (F0 m (pc + 1) ls (.long (f 0) :: rest))) : W p l e R s m args below meth c H locs cells slots Q (F0 m pc ls (.int 0 :: .ref a :: rest)) :=
  va_lald (i := 0) hexec hb hK hP q0 1 ha ht (fun h => h.elim (fun q => absurd q (by decide)) (fun q => absurd q (by decide))) hdg kk
theorem cs_dast (hexec : p.tables.exec = Jvm.exec) (hb : c.code = cc) (hK : va_K D cl tys s) {cA : ClassId} (ht : tys[2]? = some (cA, .double)) (hP : va_P D cl ws H) (hD : va_D A ws) (hS : va_S A H0 H locs) (q0 : Nat) {a : Nat} {f : Nat → UInt64} (ha : ws[q0]? = some (a, .inl (cA, 1, .inr (.inr (.inr (.inl f)))))) {x : UInt64} (hdg : decode cc pc = .ok (.dastore, 1))
    (kk : ∀ (H1 : Heap) (locs1 : List Loc), va_P D cl (ws.set q0 (a, .inl (cA, 1, .inr (.inr (.inr (.inl (vf_upd f 0 x))))))) H1 → va_D A (ws.set q0 (a, .inl (cA, 1, .inr (.inr (.inr (.inl (vf_upd f 0 x))))))) → va_S A H0 H1 locs1 → W p l e R s m args below meth c H1 locs1 cells slots Q (F0 m (pc + 1) ls rest)) : W p l e R s m args below meth c H locs cells slots Q (F0 m pc ls (.double x :: .int 0 :: .ref a :: rest)) :=
  va_dast (i := 0) hexec hb hK hP hD hS q0 2 ha ht (fun h => h.elim (fun q => absurd q (by decide)) (fun q => absurd q (by decide))) hdg kk
theorem cs_dald (hexec : p.tables.exec = Jvm.exec) (hb : c.code = cc) (hK : va_K D cl tys s) {cA : ClassId} (ht : tys[2]? = some (cA, .double)) (hP : va_P D cl ws H) (q0 : Nat) {a : Nat} {f : Nat → UInt64} (ha : ws[q0]? = some (a, .inl (cA, 1, .inr (.inr (.inr (.inl f)))))) (hdg : decode cc pc = .ok (.daload, 1))
    (kk : W p l e R s m args below meth c H locs cells slots Q (F0 m (pc + 1) ls (.double (f 0) :: rest))) : W p l e R s m args below meth c H locs cells slots Q (F0 m pc ls (.int 0 :: .ref a :: rest)) :=
  va_dald (i := 0) hexec hb hK hP q0 2 ha ht (fun h => h.elim (fun q => absurd q (by decide)) (fun q => absurd q (by decide))) hdg kk
def cs_WT (R : Room) (s : State) (args : Array Value) (own : String) (index : Nat) (y : MethodName) (bytes : ByteArray) (maxL : Nat) (ret : Option FieldType) (hh : List (Nat × Nat × Nat × Nat)) (wy : List Cond) (rm : Room) (mc ms n : Nat) : Prop := rm.cells = mc ∧ rm.slots = ms ∧ rm.frames + 1 ≤ R.frames ∧ 8 + (maxL + 11) + rm.locals ≤ R.locals ∧ (∀ w ∈ wy, ∀ (a' : Array Value) (U : State), s.WarmedH U.vm → w.before a' U = true) ∧ Cond.codeWith y bytes maxL ret hh ∈ wy ∧ (Cond.initialized y.cls).before args s = true ∧ (y.cls ≠ "java/lang/invoke/MethodHandle" ∧ y.cls ≠ "java/lang/invoke/VarHandle") ∧ (∀ sig, parseMethodDescriptor y.desc = some sig → n = sig.parameters.length) ∧ (Cond.methodLink own index y).before args s = true ∧ (Cond.static y).before args s = true
theorem cs_wt {own : String} {index maxL mc ms : Nat} {y : MethodName} {bytes : ByteArray} {ret : Option FieldType} {hh : List (Nat × Nat × Nat × Nat)} {d : Cond} {rm : Room} (n : Nat) (ht : ∀ w ∈ d :: GW, w.before args s = true) (h1 : Cond.methodLink own index y ∈ GW) (h2 : Cond.static y ∈ GW) (h3 : Cond.initialized y.cls ∈ GW) (h4 : Cond.codeWith y bytes maxL ret hh ∈ GW) (hrc : rm.cells = mc) (hrs : rm.slots = ms)
    (hd : y.cls ≠ "java/lang/invoke/MethodHandle" ∧ y.cls ≠ "java/lang/invoke/VarHandle" ∧ (parseMethodDescriptor y.desc).map (fun d => d.parameters.length) = some n) (hR : rm.frames + 1 ≤ R.frames ∧ 8 + (maxL + 11) + rm.locals ≤ R.locals) : cs_WT R s args own index y bytes maxL ret hh (Cond.codeWith y bytes maxL ret hh :: GW) rm mc ms n := by
  refine ⟨hrc, hrs, hR.1, hR.2, pay_in ht (cs_g h4), List.mem_cons_self .., ht _ (cs_m h3), ⟨hd.1, hd.2.1⟩, fun sig h => ?_, ht _ (cs_m h1), ht _ (cs_m h2)⟩
  have h5 := hd.2.2
  rw [h] at h5
  exact (Option.some.inj h5).symm
theorem cs_SX {own : String} {index maxL nL mc ms n : Nat} {y : MethodName} {bytes : ByteArray} {ret : Option FieldType} {hh : List (Nat × Nat × Nat × Nat)} {wy Ts : List Cond} {rm : Room} {As : List Value} {post : Int32 → va_W → Prop} (S : CallFix p m c cc nL s args Ts own) (hM : CsX l D cl tys y wy rm As wc post mc ms) (cw : cs_WT R s args own index y bytes maxL ret hh wy rm mc ms n)
    (hN : NWok s) (hK : va_K D cl tys s) (hX : XW s) (hNC : NCok s) (hH : ∀ (a : Nat) (cell : Cell), s.heap[a]? = some cell → cell.vm.isStatics = true → H[a]? = some cell) (hP : va_P D cl ws H) (hD : va_D A ws) (hS : va_S A H0 H locs) (hA : ∀ q, H0.size ≤ q → A q) (isC isR : List Nat) (hC : isC.map (fun i => ws[i]?) = wc.map some) (hR : isR.map (fun i => ws[i]?) = wr.map some) (hn1 : va_nd isC = true) (hn2 : va_nd isR = true) (hdis : ∀ i ∈ isR, i ∉ isC)
    (hst : st0 = As.reverse ++ rest) (hn : As.length = n) (hsz : ls.size = nL) (hW : (rest.map fun v => v.category).sum ≤ 8) (hdg : decode cc pc = .ok (.invokestatic index, 3)) (hf : cells + mc ≤ R.cells ∧ slots + ms ≤ R.slots)
    (kk : ∀ (r : Int32) (w1 : va_W) (H1 : Heap) (locs1 : List Loc), post r w1 → va_P D cl (wr ++ w1) H1 → va_D A (wr ++ w1) → va_S A H0 H1 locs1 → W p l e R s m args below meth c H1 locs1 (cells + mc) (slots + ms) Q (F0 m (pc + 3) ls (.int r :: rest))) : W p l e R s m args below meth c H locs cells slots Q (F0 m pc ls st0) := by
  have hPc : va_P D cl wc H := cs_sub hP isC hC
  have hDc : va_D A wc := hD.sub isC hn1 hC
  have hFc := va_free (wc := wc) hD hS hA isC hC
  have hrun : va_Run p l e R s m args below meth c H locs cells slots mc ms (F0 m pc ls st0) rest (va_Qi post (cs_B D cl tys (va_A wc H.size)) (va_A wc H.size) As.toArray) (va_A wc H.size) := by
    obtain ⟨hrc, hrs, hfr, hlo, hws, hcw, hini, hy, hlen, hl, hstt⟩ := cw
    obtain ⟨hx, hb, hml, ho, -⟩ := S
    have hK2 : Back l R p e below s args y 3 8 (PreOf R mc ms (va_Pc As (cw_U D cl tys wc H.size))) (PostOf (va_Qi post (cs_B D cl tys (va_A wc H.size)) (va_A wc H.size)) mc ms (va_A wc H.size)) :=
      va_backW (hh := hh) (bytes := bytes) (maxL := maxL) (ret := ret) (hM H.size) cw_blind hrc hrs hfr hlo hws hcw (fun a' U hW => word_at hW (Or.inl (by first | rfl | simp [Cond.onTables, Cond.keeps, Cond.steady])) hini)
    intro T hT X
    have hcode := hws _ hcw args s (State.WarmedH.refl s)
    obtain ⟨mk, methM, cM, hnamed, hmethM, -, -, -, -, -, -, hsigM⟩ := Cond.codeWith_spec hcode
    have hstatic : methM.isStatic = true := Cond.static_spec hnamed hmethM hstt
    obtain ⟨kP, hkP, -⟩ := className_of_methodNamed hnamed
    have hinitP : kP.init = .initialized := Cond.initialized_spec (findClass_of_methodNamed hnamed) hkP hini
    obtain ⟨vm₁, X₁, hstep₁⟩ := X.invokestatic hx ho hl hnamed hmethM hstatic hkP hinitP hy (g := F0 m pc ls st0) rfl (argsL := As) (rest := rest) (hn.trans (hlen _ hsigM)) hst (by rw [hb]; exact hdg)
    have hpre : va_Pc As (cw_U D cl tys wc H.size) As.toArray (T.setVm vm₁) := ⟨rfl, ⟨by show T.heap.size = H.size; rw [hT], by show va_P D cl wc T.heap; rw [hT]; exact hPc, va_K.moved X₁.warmed.alike hK, hDc.weaken (fun _ _ _ _ => trivial), hN.warm X₁.warmed⟩, XW.moved (u := s) X₁.warmed.alike (fun a cell g1 g2 => by show T.heap[a]? = some cell; rw [hT]; exact hH a cell g1 g2) hX, hNC.moved X₁.warmed.alike⟩
    obtain ⟨v, ⟨U', l2, c2, s2⟩, X', ⟨g', mk', t, L, e1, e2, hq, h1, hL, h2, h3⟩, hsteps⟩ := hK2 m meth c ⟨T.setVm vm₁, locs, cells, slots⟩ { F0 m pc ls st0 with stack := rest } (.invokestatic index) mk As.toArray X₁ rfl (hsz.trans hml.symm) (by rw [hb]; exact hdg) (lv_room hW) (X₁.named hnamed) ⟨hf.1, hf.2, hpre⟩
    dsimp only [Pt.U, Pt.locs, Pt.cells, Pt.slots] at X' e1 e2 h1 h2 h3 hsteps
    subst h1; subst h2; subst h3
    exact ⟨v, (T.setVm vm₁).calling g' mk' As.toArray, t, U', L, hT, X', hL, e1, e2, hq, fun target h => hstep₁ _ fun acts => by rw [doInvoke_state]; exact hsteps.trans h⟩
  refine va_calli hrun hS (fun q _ h => hFc q h) hFc (fun r u t H1 locs1 ht hvm hw hB hz1 hk1 hS1 => ?_)
  obtain ⟨hP1, hK1, hD1⟩ := hB
  rw [ht] at hP1
  obtain ⟨hP2, hD2⟩ := va_join (wr := wr) (w1 := u) hP hD isC isR hC hR hn2 hdis hk1 hFc hP1 hD1
  exact kk r u H1 locs1 hw hP2 hD2 hS1
end CSB
