/-! throws: the heap's words move; a walk taken anew at a later state; the throw from there; the contract's end -/
def XW (U : State) : Prop := ∀ w ∈ HW, w.before #[] U = true
theorem xw_lays {u U : State} (hv : u.vm.Alike U.vm) (hH : ∀ (a : Nat) (cell : Cell), u.heap[a]? = some cell → cell.vm.isStatics = true → U.heap[a]? = some cell) {o n d : String} (h : (Cond.laysStatic o n d).before #[] u = true) : (Cond.laysStatic o n d).before #[] U = true := by
  obtain ⟨c, k, i, f, a, cell, hc, hi, hst, ha, hcell, hs, hcls, hlt, hty⟩ := Cond.laysStatic_spec h
  obtain ⟨k', hi', hek⟩ := State.fieldFound?_setVm hv hi
  have hi2 : U.fieldFound? o n d = some (c, k', i, f) := hi'
  exact Cond.laysStatic_of (s := U) (by rw [hv.findClass]; exact hc) hi2 hst (by rw [hek]; exact ha) (hH a cell hcell hs) hs hcls hlt (by rw [hek]; exact hty)
theorem xw_ref {u U : State} (hv : u.vm.Alike U.vm) (hH : ∀ (a : Nat) (cell : Cell), u.heap[a]? = some cell → cell.vm.isStatics = true → U.heap[a]? = some cell) {o n d : String} (hl : (Cond.laysStatic o n d).before #[] u = true) (h : (Cond.isRef (.static o n d)).before #[] u = true) : (Cond.isRef (.static o n d)).before #[] U = true := by
  obtain ⟨c, k, i, f, a, cell, hc, hi, hst, ha, hcell, hs, hcls, hlt, hty⟩ := Cond.laysStatic_spec hl
  obtain ⟨v, hev, hr⟩ := Cond.isRef_spec h
  obtain ⟨-, a2, cell2, ha2, hc2, -, hv2⟩ := Term.static_spec hi hev
  cases ha.symm.trans ha2
  cases hcell.symm.trans hc2
  obtain ⟨k', hi', hek⟩ := State.fieldFound?_setVm hv hi
  have hi2 : U.fieldFound? o n d = some (c, k', i, f) := hi'
  have ha3 : k'.statics = some a := by rw [hek]; exact ha
  have h1 := hH a cell hcell hs
  have hev2 : (Term.static o n d).eval #[] U none [] U = some v := by
    simp [Term.eval, State.fieldNamed?, hi2, hst, ha3, h1, hs, hv2]
  cases v <;> first | (cases hr; done) | (simp [Cond.before, Cond.holds, Cond.value, hev2])
theorem xw_m (k : Nat) {w : Cond} (h : HW[k]? = some w) : w ∈ HW := List.mem_of_getElem? h
theorem XW.moved {u U : State} (hv : u.vm.Alike U.vm) (hH : ∀ (a : Nat) (cell : Cell), u.heap[a]? = some cell → cell.vm.isStatics = true → U.heap[a]? = some cell) (h : XW u) : XW U := by
  have td : ∀ y : MethodName, Cond.declares y ∈ HW → (Cond.declares y).before #[] U = true := fun y hy => va_tabs (A := #[]) rfl (rfl : (u.setVm U.vm).vm = U.vm) (by rw [Cond.declares_setVm hv]; exact h _ hy)
  have tc : ∀ a b : String, Cond.castable a b ∈ HW → (Cond.castable a b).before #[] U = true := fun a b hy => va_tabs (A := #[]) rfl (rfl : (u.setVm U.vm).vm = U.vm) (by rw [Cond.castable_setVm hv]; exact h _ hy)
  have tl : ∀ o n d : String, Cond.laysStatic o n d ∈ HW → (Cond.laysStatic o n d).before #[] U = true := fun o n d hm => xw_lays hv hH (h _ hm)
  have tr : ∀ o n d : String, Cond.laysStatic o n d ∈ HW → Cond.isRef (.static o n d) ∈ HW → (Cond.isRef (.static o n d)).before #[] U = true := fun o n d h1 h2 => xw_ref hv hH (h _ h1) (h _ h2)
  intro w hw
  have hw' := hw
  simp only [HW, List.mem_cons, List.not_mem_nil, or_false] at hw'
  rcases hw' with rfl | rfl | rfl | rfl | rfl | rfl | rfl | rfl | rfl | rfl | rfl
  · exact tl _ _ _ hw
  · exact tl _ _ _ hw
  · exact td _ hw
  · exact td _ hw
  · exact td _ hw
  · exact tc _ _ hw
  · exact tc _ _ hw
  · exact tc _ _ hw
  · exact tc _ _ hw
  · exact tr _ _ _ (xw_m 0 rfl) hw
  · exact tr _ _ _ (xw_m 1 rfl) hw
theorem XW.calling {U : State} {g : JFrame} {mk : MethodId} {a : Array Value} (h : XW U) : XW (U.calling g mk a) := XW.moved (u := U) (U := U.calling g mk a) (Vm.Alike.refl U.vm) (fun _ _ h _ => h) h
theorem xw_on : ∀ w ∈ HW, w.onTables = true ∨ (∃ o n d, w = .laysStatic o n d) ∨ ∃ o n d, w = .isRef (.static o n d) := by
  intro w hw
  simp only [HW, List.mem_cons, List.not_mem_nil, or_false] at hw
  rcases hw with rfl | rfl | rfl | rfl | rfl | rfl | rfl | rfl | rfl | rfl | rfl <;> first | exact Or.inl rfl | exact Or.inr (Or.inl ⟨_, _, _, rfl⟩) | exact Or.inr (Or.inr ⟨_, _, _, rfl⟩)
theorem XW.use {U : State} {args : Array Value} (h : XW U) : ∀ w ∈ HW, w.before args U = true := by
  intro w hw
  rcases xw_on w hw with h1 | ⟨o, n, d, rfl⟩ | ⟨o, n, d, rfl⟩
  · exact va_any h1 (h w hw)
  · exact h _ hw
  · exact h _ hw
theorem vp_ns (c : ClassId) (a : vp_A) : (vp_cell c a).vm.isStatics = false := by
  obtain ⟨n, a⟩ := a
  rcases a with f | f | f | f | f <;> rfl
theorem va_ns {D : va_G} {cl : List vw_C} {q : Nat × va_E} {H : Heap} {cell : Cell} (h : va_at D cl q H) (hc : H[q.1]? = some cell) : cell.vm.isStatics = false := by
  obtain ⟨p, e⟩ := q
  cases e with
  | inl a =>
    have h1 : H[p]? = some (vp_cell a.1 a.2) := h
    cases h1.symm.trans hc
    exact vp_ns _ _
  | inr o =>
    obtain ⟨r, -, c2, g1, -, g3, -⟩ := h
    cases g1.symm.trans hc
    rw [g3]; rfl
theorem xw_S {D : va_G} {cl : List vw_C} {wc : va_W} {H0 H : Heap} {locs : List Loc} (hP : va_P D cl wc H0) (hS : va_S (va_A wc H0.size) H0 H locs) (a : Nat) (cell : Cell) (h : H0[a]? = some cell) (hs : cell.vm.isStatics = true) : H[a]? = some cell := by
  have hlt : a < H0.size := (Array.getElem?_eq_some_iff.mp h).1
  rw [hS.2.1 a hlt (fun hA => ?_)]
  · exact h
  · rcases hA with ⟨k, e, hk⟩ | hA
    · have h2 := va_ns (hP k _ hk) h
      rw [hs] at h2
      cases h2
    · omega
def cx_U (D : va_G) (cl : List vw_C) (tys : List (ClassId × FieldType)) (wc : va_W) (sz : Nat) (U : State) : Prop := cs_U D cl tys wc sz U ∧ XW U
theorem cx_blind {D : va_G} {cl : List vw_C} {tys : List (ClassId × FieldType)} {av : List Value} {wc : va_W} {sz : Nat} : FrameBlind (va_Pc av (cx_U D cl tys wc sz)) := fun a U g mk q =>
  ⟨q.1, (cs_blind (D := D) (cl := cl) (tys := tys) (av := av) (wc := wc) (sz := sz) a U g mk ⟨q.1, q.2.1⟩).2, q.2.2.calling⟩
def cs_E (A : Nat → Prop) (D : va_G) (cl : List vw_C) (tys : List (ClassId × FieldType)) (post : va_W → Prop) (E : String) (mc ms : Nat) : Array Value → State → Outcome → State → Prop := fun _ st o t =>
  ∃ (a : Addr) (ce : Cell) (w1 : va_W), o = .threw a ∧ t.heap[a]? = some ce ∧ ce.vm = .none ∧ st.vm.findClass E = some ce.cls ∧ post w1 ∧ cs_B D cl tys A w1 t ∧ va_F A st t ∧ st.WarmedH t.vm ∧ ∃ L : List Loc, st.sameButNew ({ t with vm := st.vm } : State) L mc ms ∧ ∀ q ∈ L, A q.base
def CxE (l : Launch) (D : va_G) (cl : List vw_C) (tys : List (ClassId × FieldType)) (y : MethodName) (wy : List Cond) (rm : Room) (av : List Value) (wc : va_W) (post : va_W → Prop) (E : String) (mc ms : Nat) : Prop :=
  ∀ sz : Nat, MetFree l y (headSpec wy rm) (va_Pc av (cx_U D cl tys wc sz)) (fun _ _ _ _ _ => True) (cs_E (va_A wc sz) D cl tys post E mc ms)
section CXN
variable {p : Program} {l : Launch} {e : Env} {R : Room} {s : State} {m : MethodId} {args : Array Value} {below : List Frame} {meth : Method} {c : Code} {H : Heap} {locs : List Loc} {cells slots : Nat} {Q : State → Prop}
/-- the walk taken anew at T: its invocation as if it began here, with the room that is left -/
theorem cx_stand {T : State} {R2 : Room} (X : Stand p l e R s m args below meth c T locs cells slots) (h1 : R2.frames ≤ R.frames) (h2 : R2.locals ≤ R.locals) (h3 : cells + R2.cells ≤ R.cells) (h4 : slots + R2.slots ≤ R.slots) : Stand p l e R2 (T.setFrames (.invoking m args :: below)) m args below meth c T [] 0 0 := by
  obtain ⟨g₀, hg⟩ := Option.isSome_iff_exists.mp X.here.top
  obtain ⟨r, hr⟩ := State.topJava?_eq_some.mp hg
  obtain ⟨t, ht, -⟩ := State.frames_cons hr
  have hcur : T.cur < T.threads.size := State.cur_lt_of_top X.here.top
  have hF : (T.setFrames (.invoking m args :: below)).frames = .invoking m args :: below := State.frames_setFrames _ hcur
  obtain ⟨t2, ht2, -⟩ := State.frames_cons hF
  have hroom : (T.setFrames (.invoking m args :: below)).hasRoom e.platform R2 = true := by
    have h := X.room
    simp only [State.hasRoom, Bool.and_eq_true, decide_eq_true_eq, State.localsInUse_invoking X.frames X.method X.code, X.frames] at h
    have hh := X.heapSize
    have hu := X.used
    simp only [State.hasRoom, Bool.and_eq_true, decide_eq_true_eq, State.localsInUse_invoking hF (meth := meth) (c := c) X.method' X.code, hF, State.stackLimits_setFrames, State.stackBytes_setFrames, X.limits, X.bytes]
    refine ⟨⟨⟨⟨by omega, by omega, by omega, by omega, by omega, h.1.1.1.2.2.2.2.2⟩, ?_⟩, ?_⟩, X.book⟩
    · have := h.1.1.2
      show T.heap.size + R2.cells ≤ e.platform.maxCells
      omega
    · have := h.1.2
      show T.slotsUsed + R2.slots ≤ e.platform.maxSlots
      omega
  have hhears : (T.setFrames (.invoking m args :: below)).hears m below = true := by
    have hm : ∀ x, (T.setFrames (.invoking m args :: below)).vm.method? x = s.vm.method? x := fun x => by
      show T.vm.method? x = _
      rw [X.warmed.alike.method?]
    have h := X.hears
    unfold State.hears at h ⊢
    simp only [State.code?_eq, hm] at h ⊢
    exact h
  have hsame : (T.setFrames (.invoking m args :: below)).sameButNew (T.setVm (T.setFrames (.invoking m args :: below)).vm) [] 0 0 := by
    have h5 := (State.sameButNew.refl (T.setFrames (.invoking m args :: below)) ht2).setFrames T.frames (State.cur_lt_of_frames hF)
    rw [State.setFrames_setFrames, State.setFrames_self ht] at h5
    exact h5
  exact ⟨X.admits, X.cas, X.clock, hF, hroom, hhears, X.method', X.code, X.here, X.tail, State.WarmedH.refl _, by rw [State.stackLimits_setFrames], by rw [State.stackBytes_setFrames], hsame⟩
theorem cx_throw2 {cc : ByteArray} {pc : Nat} {ls : Array Slot} {rest : List Value} (hexec : p.tables.exec = Jvm.exec) (hb : c.code = cc) (hst : l.stackTraces = false) (hls : ls.size = c.maxLocals) {y : MethodName} {maxL : Nat} {ret : Option FieldType} (hnm : s.methodNamed? y = some m) (hcode : (Cond.code y cc maxL ret).before args s = true)
    {own E : String} {ix ic : Nat} {names : List String} (hown : s.vm.findClass own = some m.cls) (hfit : Bundle.fit E = true) (hnames : ∀ n ∈ names, Bundle.fit n = true)
    (hat : ∀ U : State, s.WarmedH U.vm → U.heap = H → ∀ a ∈ (.classLink own ix E :: .instantiable E 6 :: .initialized E :: Bundle.ownAtoms0 own ic E names : List Cond), a.before args U = true) (hcells : cells + 1 ≤ R.cells) (hslots : slots + 6 ≤ R.slots)
    (hd0 : decode cc pc = .ok (.new ix, 3)) (hd3 : decode cc (pc + 3) = .ok (.dup, 1)) (hd4 : decode cc (pc + 4) = .ok (.invokespecial ic, 3)) (hd7 : decode cc (pc + 7) = .ok (.athrow, 1)) (hRf : names.length + 3 < R.frames) (hRl : 1 + (rest.map fun v => v.category).sum + (13 * (names.length + 1) + 41) ≤ R.locals) (hlocks : meth.locks = false)
    (kk : ∀ (U : State) (a : Addr) (ce : Cell), U.status = .running → Ended U below (.threw a) → H.size ≤ a → U.heap[a]? = some ce → ce.vm = .none → s.vm.findClass E = some ce.cls → s.WarmedH U.vm → H.size ≤ U.heap.size → (∀ (q : Nat) (cell : Cell), H[q]? = some cell → U.heap[q]? = some cell) → s.sameButNew ({ U with vm := s.vm } : State) locs (cells + 1) (slots + 6) → Q U) :
    W p l e R s m args below meth c H locs cells slots Q (F0 m pc ls rest) := by
  intro T hT X
  have htr : e.platform.stackTraces = false := by rw [X.admits.platform]; exact hst
  have hnoh : ∀ x ∈ c.exceptionTable.toList, covers x (pc + 7) = false := by
    obtain ⟨meth', c', hm', hc', -, -, -, -, hempty, -⟩ := Cond.code_spec hnm hcode
    cases hm'.symm.trans X.method
    cases hc'.symm.trans X.code
    have h0 : c.exceptionTable.size = 0 := by simpa [Array.isEmpty] using hempty
    have h1 : c.exceptionTable.toList = [] := List.eq_nil_of_length_eq_zero (by simpa using h0)
    intro x hx
    rw [h1] at hx
    cases hx
  have X2 := cx_stand (R2 := { frames := R.frames, cells := 1, slots := 6, locals := R.locals }) X (Nat.le_refl _) (Nat.le_refl _) hcells hslots
  have hal := X.warmed.alike
  have hfc : ∀ n, (T.setFrames (.invoking m args :: below)).vm.findClass n = s.vm.findClass n := fun n => by
    show T.vm.findClass n = _
    rw [hal.findClass]
  have hw := hat (T.setFrames (.invoking m args :: below)) X.warmed hT
  refine cx_throw (s := T.setFrames (.invoking m args :: below)) (R := { frames := R.frames, cells := 1, slots := 6, locals := R.locals }) (H := H) (locs := []) (cells := 0) (slots := 0) (Q := Q) hexec hb htr hls ((hfc own).trans hown) (hw _ (List.mem_cons_self ..)) (hw _ (List.mem_cons_of_mem _ (List.mem_cons_self ..))) (hw _ (List.mem_cons_of_mem _ (List.mem_cons_of_mem _ (List.mem_cons_self ..)))) hfit hnames
    (fun a ha => hw a (List.mem_cons_of_mem _ (List.mem_cons_of_mem _ (List.mem_cons_of_mem _ ha)))) (fun x hx => absurd hx List.not_mem_nil) (by show T.heap.size ≤ H.size; rw [hT]; exact Nat.le_refl _) hnoh (Nat.le_refl _) (Nat.le_refl _) hd0 hd3 hd4 hd7 hRf hRl hlocks (fun U a ce r1 r2 r3 r4 rv r5 r6 r7 => ?_) T hT X2
  have hkeep : ∀ (q : Nat) (cell : Cell), H[q]? = some cell → U.heap[q]? = some cell := fun q cell hq => by
    obtain ⟨c', g1, g2, g3, g4⟩ := r7.2.2.2.2.2 q cell (by show T.heap[q]? = some cell; rw [hT]; exact hq)
    have hs : c'.slots = cell.slots := Array.ext_getElem? (fun i => g4 i List.not_mem_nil)
    rw [hs] at g2
    rw [g2] at g1
    exact g1
  have h8 : T.sameButNew (U.setVm T.vm) [] (0 + 1) (0 + 6) := by
    refine ⟨?_, r7.2⟩
    have h9 := r7.1
    rw [State.setFrames_setFrames] at h9
    exact h9
  have h10 := X.same.trans (h8.setVm s.vm)
  rw [List.append_nil] at h10
  exact kk U a ce r1 r2 (by have h11 : T.heap.size ≤ a := r3; rw [hT] at h11; exact h11) r4 rv ((hfc E).symm.trans r5) (State.WarmedH.trans X.warmed (State.WarmedH.of_rootvm (s := T.setFrames (.invoking m args :: below)) (u := T) rfl r6)) (by have h11 : T.heap.size ≤ U.heap.size := r7.2.1; rw [hT] at h11; exact h11) hkeep h10
theorem cx_hat {E : String} {ix ic : Nat} (hgw : ∀ w ∈ GW, w.before args s = true) (h1 : Cond.classLink "TileForge" ix E ∈ GW) (h2 : Cond.instantiable E 6 ∈ GW) (h3 : Cond.initialized E ∈ GW) (hoa : ∀ w ∈ Bundle.ownAtoms0 "TileForge" ic E exN, w ∈ GW ∨ w ∈ HW) {U : State} (hW : s.WarmedH U.vm) (hX : XW U) :
    ∀ a ∈ (.classLink "TileForge" ix E :: .instantiable E 6 :: .initialized E :: Bundle.ownAtoms0 "TileForge" ic E exN : List Cond), a.before args U = true := by
  have hg : ∀ w ∈ GW, w.before args U = true := fun w hw => word_at hW (good_of_word (GW_good hw)) (hgw w hw)
  intro a ha
  rcases List.mem_cons.mp ha with rfl | ha
  · exact hg _ h1
  rcases List.mem_cons.mp ha with rfl | ha
  · exact hg _ h2
  rcases List.mem_cons.mp ha with rfl | ha
  · exact hg _ h3
  exact (hoa a ha).elim (hg a) (hX.use a)
/-- the end of a way that throws -/
theorem cx_thr {D : va_G} {cl : List vw_C} {tys : List (ClassId × FieldType)} {ws wc : va_W} {A : Nat → Prop} {post : va_W → Prop} {cc : ByteArray} {pc : Nat} {ls : Array Slot} {rest : List Value} {y : MethodName} {maxL : Nat} {ret : Option FieldType} {E : String} {ix ic mc ms : Nat}
    (hexec : p.tables.exec = Jvm.exec) (hb : c.code = cc) (hst : l.stackTraces = false) (hls : ls.size = c.maxLocals) (hnm : s.methodNamed? y = some m) (hts : ∀ w ∈ (Cond.code y cc maxL ret :: GW), w.before args s = true) (hown : s.vm.findClass "TileForge" = some m.cls) (hX : XW s) (hP0 : va_P D cl wc s.heap) (hAe : va_A wc s.heap.size = A)
    (h1 : Cond.classLink "TileForge" ix E ∈ GW) (h2 : Cond.instantiable E 6 ∈ GW) (h3 : Cond.initialized E ∈ GW) (hoa : ∀ w ∈ Bundle.ownAtoms0 "TileForge" ic E exN, w ∈ GW ∨ w ∈ HW) (hfit : Bundle.fit E = true)
    (hK : va_K D cl tys s) (hP : va_P D cl ws H) (hD : va_D A ws) (hS : va_S A s.heap H locs) (hlocks : meth.locks = false) (hcells : cells + 1 ≤ R.cells) (hslots : slots + 6 ≤ R.slots) (hmc : cells + 1 ≤ mc) (hms : slots + 6 ≤ ms) (hRf : 5 < R.frames) (hRl : 1 + (rest.map fun v => v.category).sum + 80 ≤ R.locals)
    (hd0 : decode cc pc = .ok (.new ix, 3)) (hd3 : decode cc (pc + 3) = .ok (.dup, 1)) (hd4 : decode cc (pc + 4) = .ok (.invokespecial ic, 3)) (hd7 : decode cc (pc + 7) = .ok (.athrow, 1)) (hpost : post ws) :
    W p l e R s m args below meth c H locs cells slots (MX below (cs_E A D cl tys post E mc ms) args s) (F0 m pc ls rest) := by
  refine cx_throw2 (names := exN) hexec hb hst hls hnm (hts _ (List.mem_cons_self ..)) hown hfit fi_N (fun U hW hU => cx_hat (fun w hw => hts w (cs_m hw)) h1 h2 h3 hoa hW (XW.moved hW.alike (fun a cell g1 g2 => by rw [hU]; subst hAe; exact xw_S hP0 hS a cell g1 g2) hX)) hcells hslots hd0 hd3 hd4 hd7 hRf hRl hlocks (fun U a ce r1 r2 r3 r4 rv r5 r6 r7 r8 r9 => ?_)
  have hk : ∀ q : Nat, q < H.size → U.heap[q]? = H[q]? := fun q hq => by
    rw [Array.getElem?_eq_getElem hq]
    exact r8 q _ (Array.getElem?_eq_getElem hq)
  exact ⟨.threw a, r1, r2, a, ce, ws, rfl, r4, rv, r5, hpost, ⟨fun k q hq => (hP k q hq).kept (hk q.1 (hP k q hq).lt), va_K.moved r6.alike hK, hD⟩, ⟨Nat.le_trans hS.1 r7, fun q g1 g2 => (hk q (Nat.lt_of_lt_of_le g1 hS.1)).trans (hS.2.1 q g1 g2)⟩, r6, locs, r9.mono hmc hms, hS.2.2⟩
end CXN
