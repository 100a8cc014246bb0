/-! catches: the search through a method's own table, the catch types linked or not yet; a call that throws, caught by its caller -/
section CXR
variable {e : Env} {S : State} {f : JFrame} {a : Addr}
theorem cx_row {Q : Handler → Pre} {E : CtlPost} {d : Bool} {acts : List Action} {x : ExceptionTableEntry} {t : List ExceptionTableEntry} {c : ClassId} {cell : Cell} (hx : covers x f.pc = true) (h0 : x.catchType ≠ 0)
    (hl : S.vm.ClassLinks e.platform f.method.cls x.catchType c) (hcell : S.heap[a]? = some cell) (hobj : ∀ k, cell.vm ≠ .statics k) (hk : ∃ k, S.vm.classes[cell.cls]? = some k) (hc : ∃ k, S.vm.classes[c]? = some k) :
    wp (findHandler.go f a (x :: t)) Q E e d acts S ↔ if S.vm.assignable cell.cls c = true then Q (.found x.handlerPc) d acts (S.setVm (S.vm.noted f.method.cls x.catchType (.cls c))) else wp (findHandler.go f a t) Q E e d acts (S.setVm (S.vm.noted f.method.cls x.catchType (.cls c))) := by
  simp only [covers] at hx
  obtain ⟨ha, ht⟩ := (resolveClass_links e.toSetting hl).op (op := VmOp.resolveClass f.method.cls x.catchType) rfl
  have hal : S.vm.Alike (S.vm.noted f.method.cls x.catchType (.cls c)) := (Vm.Alike.refl S.vm).noted _ _ _
  obtain ⟨k1, hk1⟩ := hk
  obtain ⟨k2, hk2⟩ := hc
  obtain ⟨k3, hk3, -⟩ := hal.2.2 _ _ hk1
  obtain ⟨k4, hk4, -⟩ := hal.2.2 _ _ hk2
  cases hfit : S.vm.assignable cell.cls c
  · have h5 : (S.vm.noted f.method.cls x.catchType (.cls c)).assignable cell.cls c = false := by rw [hal.assignable]; exact hfit
    simp [findHandler.go, hx, h0, ha, ht, hcell, hobj, hk3, hk4, h5, VmOp.dirties, VmOp.acts]
  · have h5 : (S.vm.noted f.method.cls x.catchType (.cls c)).assignable cell.cls c = true := by rw [hal.assignable]; exact hfit
    simp [findHandler.go, hx, h0, ha, ht, hcell, hobj, hk3, hk4, h5, VmOp.dirties, VmOp.acts]
end CXR
abbrev cx_T (x : ExceptionTableEntry) : Nat × Nat × Nat × Nat := (x.startPc, x.endPc, x.handlerPc, x.catchType)
/-- where the search ends: the rows passed, the row that takes it -/
def cx_Go (pl : Platform) (s : State) (d : ClassId) (pc : Nat) (k : ClassId) (h : Nat) : List (Nat × Nat × Nat × Nat) → Prop
  | [] => False
  | x :: t => x.1 ≤ pc ∧ pc < x.2.1 ∧ x.2.2.2 ≠ 0 ∧ ∃ c, s.vm.ClassLinks pl d x.2.2.2 c ∧ ((s.vm.assignable k c = false ∧ cx_Go pl s d pc k h t) ∨ (s.vm.assignable k c = true ∧ x.2.2.1 = h))
theorem cx_go {e : Env} {s : State} {f : JFrame} {a : Addr} {cell : Cell} {h : Nat} (hobj : ∀ k, cell.vm ≠ .statics k) (hk0 : ∃ k, s.vm.classes[cell.cls]? = some k) : ∀ (es : List ExceptionTableEntry) (S : State), s.WarmedH S.vm → S.heap[a]? = some cell → cx_Go e.platform s f.method.cls f.pc cell.cls h (es.map cx_T) →
    ∃ vm' : Vm, s.WarmedH vm' ∧ ∀ (Q : Handler → Pre) (E : CtlPost) (d : Bool) (acts : List Action), wp (findHandler.go f a es) Q E e d acts S ↔ Q (.found h) d acts (S.setVm vm') := by
  obtain ⟨k0, hk0⟩ := hk0
  intro es
  induction es with
  | nil => intro S _ _ hg; exact hg.elim
  | cons x t ih =>
    intro S hW hcell hg
    obtain ⟨k1, hk1, -⟩ := hW.alike.2.2 _ _ hk0
    obtain ⟨g1, g2, h0, c, hl, hg⟩ := hg
    have hx : covers x f.pc = true := by simp only [covers, Bool.and_eq_true, decide_eq_true_eq]; exact ⟨g1, g2⟩
    obtain ⟨dk, _, _, kt, hd, _, _, _, _, hkt, _, hopen⟩ := hl.here
    obtain ⟨k2, hk2, -⟩ := hW.alike.2.2 _ _ hkt
    have hW1 := hW.noted hd hopen (State.rightAt_cls hl)
    have hro : ∀ (Q : Handler → Pre) (E : CtlPost) (d : Bool) (acts : List Action), _ := fun Q E d acts => cx_row (Q := Q) (E := E) (d := d) (acts := acts) (t := t) hx h0 (hW.classLinks hl) hcell hobj ⟨k1, hk1⟩ ⟨k2, hk2⟩
    rcases hg with ⟨hno, hg⟩ | ⟨hfit, rfl⟩
    · obtain ⟨vm', hW', hq⟩ := ih (S.setVm (S.vm.noted f.method.cls x.catchType (.cls c))) hW1 hcell hg
      refine ⟨vm', hW', fun Q E d acts => (hro Q E d acts).trans ?_⟩
      rw [if_neg (by rw [hW.alike.assignable, hno]; decide)]
      exact hq Q E d acts
    · refine ⟨_, hW1, fun Q E d acts => (hro Q E d acts).trans ?_⟩
      rw [if_pos (by rw [hW.alike.assignable]; exact hfit)]
theorem cx_step {e : Env} {S : State} {a : Addr} {f : JFrame} {r : List Frame} {pc : Nat} {vm' : Vm} (hf : ∀ (Q : Handler → Pre) (E : CtlPost) (d : Bool) (acts : List Action), wp (findHandler f a) Q E e d acts S ↔ Q (.found pc) d acts (S.setVm vm')) :
    (stepThrowing e S a (.java f :: r)).1 = (S.setVm vm').setFrames (.java { f with pc := pc, stack := [.ref a] } :: r) := by
  simp only [stepThrowing, searchFrame, vmDo]
  generalize hr : Sem.go _ e false [] S = res
  obtain ⟨as, rfl, -⟩ := Sem.eq_ok_of hr (a := Handler.found pc) (s' := S.setVm vm') (acts' := []) (by simp [hf _ _ _ _])
  rfl
theorem cx_fsf (u : State) (vm' : Vm) (F G : List Frame) : ((u.setFrames F).setVm vm').setFrames G = (u.setVm vm').setFrames G := by
  have h1 : (u.setFrames F).setVm vm' = (u.setVm vm').setFrames F := rfl
  rw [h1, State.setFrames_setFrames]
section CXC
variable {p : Program} {l : Launch} {e : Env} {R : Room} {s : State} {m : MethodId} {args : Array Value} {below : List Frame} {meth : Method} {c : Code} {H : Heap} {locs : List Loc} {cells slots : Nat} {Q : State → Prop}
theorem cx_caught {T : State} (X : Stand p l e R s m args below meth c T locs cells slots) (a : Addr) {g : JFrame} (hg : g.method = m) {cell : Cell} (hcell : T.heap[a]? = some cell) (hvm : cell.vm = .none) (hk0 : ∃ k, s.vm.classes[cell.cls]? = some k) {h : Nat}
    (hgo : cx_Go e.platform s m.cls g.pc cell.cls h (c.exceptionTable.toList.map cx_T)) :
    ∃ vm' : Vm, Stand p l e R s m args below meth c (T.setVm vm') locs cells slots ∧ ∀ target, Steps p.tables e below ((T.setVm vm').setTop { g with pc := h, stack := [.ref a] }) target → Steps p.tables e below ((T.setTop g).pushFrame (.throwing a)) target := by
  subst hg
  have hvm0 : ((T.setTop g).pushFrame (.throwing a)).vm = T.vm := rfl
  obtain ⟨vm', hW', hq⟩ := cx_go (e := e) (f := g) (a := a) (cell := cell) (h := h) (fun k hk => by rw [hvm] at hk; cases hk) hk0 c.exceptionTable.toList ((T.setTop g).pushFrame (.throwing a)) X.warmed hcell hgo
  refine ⟨vm', X.noted hW', fun target hrest => ?_⟩
  obtain ⟨hgo1, hw⟩ := X.here.throwing a
  refine Steps.head hgo1 hw ?_
  rw [stepThread_throwing (frames_entered X.here.top _), cx_step (S := (T.setTop g).pushFrame (.throwing a)) (pc := h) (vm' := vm') (fun Q E d acts => (Jvm.W.findHandler_eq (s := (T.setTop g).pushFrame (.throwing a)) X.method' X.code).trans (hq Q E d acts))]
  obtain ⟨g₀, hg0⟩ := Option.isSome_iff_exists.mp X.here.top
  obtain ⟨r, hr⟩ := State.topJava?_eq_some.mp hg0
  have hr2 : (T.setVm vm').frames = .java g₀ :: r := hr
  rw [State.setTop_of_frames _ hr2] at hrest
  rw [hr, List.tail_cons, State.pushFrame, cx_fsf, State.setTop_of_frames _ hr, cx_fsf]
  exact hrest
variable {cc : ByteArray} {pc : Nat} {ls : Array Slot} {rest st0 : List Value} {D : va_G} {cl : List vw_C} {A : Nat → Prop} {tys : List (ClassId × FieldType)} {ws wc wr : va_W} {H0 : Heap}
theorem cs_VT {own C : String} {index maxL nL mc ms n : Nat} {y y0 : MethodName} {bytes bytes0 : ByteArray} {maxL0 : Nat} {ret ret0 : Option FieldType} {hh : List (Nat × Nat × Nat × Nat)} {wy Ts : List Cond} {rm : Room} {As : List Value} {b : Nat} {post : va_W → Prop} {E : String} {h : Nat} (S : CallFix p m c cc nL s args Ts own)
    (hM : CxE l D cl tys y wy rm (.ref b :: As) wc post E mc ms) (cw : CallW R s args own C index y bytes maxL ret wy rm mc ms n)
    (hN : NWok s) (hK : va_K D cl tys s) (hX : XW s) (hP : va_P D cl ws H) (hD : va_D A ws) (hS : va_S A H0 H locs) (hH : ∀ (a : Nat) (cell : Cell), s.heap[a]? = some cell → cell.vm.isStatics = true → H[a]? = some cell) (hA : ∀ q, H0.size ≤ q → A q) (isC isR : List Nat) (hC : isC.map (fun i => ws[i]?) = wc.map some) (hR : isR.map (fun i => ws[i]?) = wr.map some) (hn1 : va_nd isC = true) (hn2 : va_nd isR = true) (hdis : ∀ i ∈ isR, i ∉ isC) {ci : Nat} {q : vw_C} {fs : List Value} (hq : cl[ci]? = some q) (hqC : q.1 = C) (he : wc[0]? = some (b, .inr (ci, fs)))
    (hst : st0 = As.reverse ++ .ref b :: rest) (hn : As.length = n) (hsz : ls.size = nL) (hW : (rest.map fun v => v.category).sum ≤ 8) (hdg : decode cc pc = .ok (.invokevirtual index, 3)) (hf : cells + mc ≤ R.cells ∧ slots + ms ≤ R.slots)
    (hnm : s.methodNamed? y0 = some m) (hcw0 : (Cond.codeWith y0 bytes0 maxL0 ret0 hh).before args s = true) (hgo : ∀ cE : ClassId, s.vm.findClass E = some cE → cx_Go e.platform s m.cls pc cE h hh)
    (kk : ∀ (a : Nat) (w1 : va_W) (H1 : Heap) (locs1 : List Loc), post w1 → va_P D cl (wr ++ w1) H1 → va_D A (wr ++ w1) → va_S A H0 H1 locs1 → W p l e R s m args below meth c H1 locs1 (cells + mc) (slots + ms) Q (F0 m h ls [.ref a])) :
    W p l e R s m args below meth c H locs cells slots Q (F0 m pc ls st0) := by
  have hPc : va_P D cl wc H := cs_sub hP isC hC
  have hDc : va_D A wc := hD.sub isC hn1 hC
  have hFc := va_free (wc := wc) hD hS hA isC hC
  subst hqC
  obtain ⟨⟨hrc, hrs, hfr, hlo, hws, hcm, hcode, hini, hy, hlen, hlk⟩, hin, hse⟩ := cw
  obtain ⟨hx, hb, hml, ho, -⟩ := S
  obtain ⟨cellB, hcB, hoB, hclB⟩ := va_recv hK hPc hq he
  intro T hT X
  obtain ⟨mk, methM, hnamed, hmethM, hstM, habM⟩ := Cond.instanceMethod_spec hin
  obtain ⟨methM2, cM, hmethM2, -, -, -, -, -, -, hsigM⟩ := Cond.code_spec hnamed hcode
  cases hmethM.symm.trans hmethM2
  obtain ⟨c2, r2, m2, q1, q2, q3, q4, kP, hkP, hkPi⟩ := Cond.selects_spec hse
  cases hclB.symm.trans q1
  cases (State.methodFound?_of_named hnamed hy).symm.trans q2
  cases hnamed.symm.trans q3
  have hselP : selectMethod e.platform s.vm cellB.cls mk = .method mk := by rw [Launch.admits_selectMethod X.admits]; exact q4
  obtain ⟨vm₁, X₁, hstep₁⟩ := X.invokevirtual hx ho hlk hnamed hmethM hstM hkP hkPi hy (a := b) (cell := cellB) (by rw [hT]; exact hcB)
    (fun z h => by rw [h] at hoB; cases hoB) hselP hmethM habM hkP hkPi (g := F0 m pc ls st0) rfl (argsL := As) (rest := rest) (hn.trans (hlen _ hsigM)) hst (by rw [hb]; exact hdg)
  have hnU := X₁.named hnamed
  have hcU := hws _ hcm (Value.ref b :: As).toArray (T.setVm vm₁) X₁.warmed
  obtain ⟨methY, cY, hmY, hcY, -, hlY, -, -, -, -⟩ := Cond.code_spec hnU hcU
  obtain ⟨kY, hkY, -⟩ := className_of_methodNamed hnU
  have hinitY : kY.init = .initialized := Cond.initialized_spec (args := (Value.ref b :: As).toArray) (findClass_of_methodNamed hnU) hkY (word_at X₁.warmed (Or.inl (by first | rfl | simp [Cond.onTables, Cond.keeps, Cond.steady])) hini)
  have hAt : At (T.setVm vm₁) (F0 m pc ls rest).method c below := X₁.here
  have happ : (headSpec wy rm).appliesLoose y e.platform ((T.setVm vm₁).calling (F0 m pc ls rest) mk (Value.ref b :: As).toArray) = true :=
    Spec.appliesLoose_calling (g := F0 m pc ls rest) hAt (by rw [hb]; exact hdg) hnU hkY hinitY
      (X₁.room_calling (g := F0 m pc ls rest) (R' := rm) (hsz.trans hml.symm) hmY hcY hfr (by rw [hlY]; show 2 * 0 + (rest.map fun v => v.category).sum + (maxL + 11) + rm.locals ≤ R.locals; omega) (by rw [hrc]; exact hf.1) (by rw [hrs]; exact hf.2))
      (atoms_intro fun w hw => hws w hw _ _ X₁.warmed)
  obtain ⟨mid, hmid⟩ := hAt.above
  have hfr2 : ((T.setVm vm₁).setTop (F0 m pc ls rest)).frames = (.java (F0 m pc ls rest) :: mid) ++ below := by rw [State.frames_setTop' _ hAt.top, hmid]; rfl
  have hpre : va_Pc (.ref b :: As) (cx_U D cl tys wc H.size) (Value.ref b :: As).toArray ((T.setVm vm₁).calling (F0 m pc ls rest) mk (Value.ref b :: As).toArray) :=
    cx_blind _ _ _ _ ⟨rfl, ⟨by show T.heap.size = H.size; rw [hT], by show va_P D cl wc T.heap; rw [hT]; exact hPc, va_K.moved X₁.warmed.alike hK, hDc.weaken (fun _ _ _ _ => trivial), hN.warm X₁.warmed⟩, XW.moved (u := s) X₁.warmed.alike (fun a cell g1 g2 => by show T.heap[a]? = some cell; rw [hT]; exact hH a cell g1 g2) hX⟩
  obtain ⟨o, s₂, hsteps, -, hend, hqq⟩ := Steps.callFree (hM H.size) p X₁.admits X₁.cas X₁.clock (acts := []) hfr2 happ hpre trivial
  have hqq : cs_E (va_A wc H.size) D cl tys post E mc ms (Value.ref b :: As).toArray ((T.setVm vm₁).calling (F0 m pc ls rest) mk (Value.ref b :: As).toArray) o s₂ := hqq
  obtain ⟨a, ce, w1, rfl, hca, hvm, hcls, hw, ⟨hP1, hK1, hD1⟩, ⟨hz, hk⟩, hW₂, L, hsame, hL⟩ := hqq
  rw [State.frames_setTop' _ hAt.top] at hend
  have hend2 : s₂.frames = .throwing a :: .java (F0 m pc ls rest) :: (T.setVm vm₁).frames.tail := hend
  obtain ⟨e2, q2', q3', q4', q5', q6'⟩ := hsame
  have e3 : s₂ = ({ ((T.setVm vm₁).calling (F0 m pc ls rest) mk (Value.ref b :: As).toArray).setFrames s₂.frames with heap := s₂.heap, slotsUsed := s₂.slotsUsed } : State).setVm s₂.vm := by
    have h9 : s₂ = ({ s₂ with vm := ((T.setVm vm₁).calling (F0 m pc ls rest) mk (Value.ref b :: As).toArray).vm } : State).setVm s₂.vm := rfl
    rw [e2] at h9
    exact h9
  obtain ⟨g₀, hg0⟩ := Option.isSome_iff_exists.mp hAt.top
  obtain ⟨r, hr⟩ := State.topJava?_eq_some.mp hg0
  have hWU : (T.setVm vm₁).WarmedH s₂.vm := hW₂
  have hr2 : (({ (T.setVm vm₁) with heap := s₂.heap, slotsUsed := s₂.slotsUsed } : State).setVm s₂.vm).frames = .java g₀ :: r := hr
  have hAt2 : At (({ (T.setVm vm₁) with heap := s₂.heap, slotsUsed := s₂.slotsUsed } : State).setVm s₂.vm) m c below := (X₁.here.setHeapUsed s₂.heap s₂.slotsUsed).setVm hWU.alike
  have hs₂ : s₂ = ((({ (T.setVm vm₁) with heap := s₂.heap, slotsUsed := s₂.slotsUsed } : State).setVm s₂.vm).setTop (F0 m pc ls rest)).pushFrame (.throwing a) := by
    rw [State.pushFrame, State.frames_setTop' _ hAt2.top, State.setTop_of_frames _ hr2, State.setFrames_setFrames, hr2]
    refine e3.trans ?_
    rw [hend2, State.calling_eq hAt.top, State.setFrames_setFrames, hr]
    rfl
  have hsm : (T.setVm vm₁).sameButNew ({ (T.setVm vm₁) with heap := s₂.heap, slotsUsed := s₂.slotsUsed } : State) L mc ms := by
    refine ⟨?_, q2', q3', q4', q5', q6'⟩
    obtain ⟨t, ht, -⟩ := State.frames_cons hr
    show ({ (T.setVm vm₁) with heap := s₂.heap, slotsUsed := s₂.slotsUsed } : State) = { (T.setVm vm₁).setFrames (T.setVm vm₁).frames with heap := s₂.heap, slotsUsed := s₂.slotsUsed }
    rw [State.setFrames_self ht]
  have X₂ : Stand p l e R s m args below meth c (({ (T.setVm vm₁) with heap := s₂.heap, slotsUsed := s₂.slotsUsed } : State).setVm s₂.vm) (locs ++ L) (cells + mc) (slots + ms) :=
    ⟨X₁.admits, X₁.cas, X₁.clock, X₁.frames, X₁.room, X₁.hears, X₁.method, X₁.code, hAt2, X₁.tail, State.WarmedH.trans X₁.warmed hWU, X₁.limits, X₁.bytes, X₁.same.trans (hsm.setVm s.vm)⟩
  have hclsS : s.vm.findClass E = some ce.cls := by
    have h9 : (T.setVm vm₁).vm.findClass E = some ce.cls := hcls
    rw [X₁.warmed.alike.findClass] at h9
    exact h9
  obtain ⟨m0, meth0, c0, w1', w2', w3', -, -, htab, -⟩ := Cond.codeWith_spec hcw0
  cases hnm.symm.trans w1'
  cases w2'.symm.trans X.method
  cases w3'.symm.trans X.code
  obtain ⟨vm', X₃, hst3⟩ := cx_caught X₂ a (g := F0 m pc ls rest) rfl hca hvm (Vm.classAt_of_findClass hclsS) (h := h) (by rw [show c.exceptionTable.toList.map cx_T = hh from htab]; exact hgo ce.cls hclsS)
  have hS1 : va_S A H0 s₂.heap (locs ++ L) := by
    have hzT : H.size ≤ s₂.heap.size := by have h9 : T.heap.size ≤ s₂.heap.size := hz; rw [hT] at h9; exact h9
    have hkT : ∀ q : Nat, q < H.size → ¬ va_A wc H.size q → s₂.heap[q]? = H[q]? := fun q h1 h2 => by
      have h9 : s₂.heap[q]? = T.heap[q]? := hk q (by show q < T.heap.size; rw [hT]; exact h1) h2
      rw [h9, hT]
    refine ⟨Nat.le_trans hS.1 hzT, fun q h1 h2 => ?_, fun q hq => ?_⟩
    · rw [hkT q (Nat.lt_of_lt_of_le h1 hS.1) (fun z => h2 (hFc q z))]
      exact hS.2.1 q h1 h2
    · rcases List.mem_append.mp hq with h | h
      · exact hS.2.2 q h
      · exact hFc _ (hL q h)
  have hk1 : ∀ q : Nat, q < H.size → ¬ va_A wc H.size q → s₂.heap[q]? = H[q]? := fun q h1 h2 => by
    have h9 : s₂.heap[q]? = T.heap[q]? := hk q (by show q < T.heap.size; rw [hT]; exact h1) h2
    rw [h9, hT]
  obtain ⟨hP2, hD2⟩ := va_join (wr := wr) (w1 := w1) hP hD isC isR hC hR hn2 hdis hk1 hFc hP1 hD1
  obtain ⟨t, a1, b1⟩ := kk a w1 s₂.heap (locs ++ L) hw hP2 hD2 hS1 ((({ (T.setVm vm₁) with heap := s₂.heap, slotsUsed := s₂.slotsUsed } : State).setVm s₂.vm).setVm vm') rfl X₃
  refine ⟨t, hstep₁ _ (fun acts => ?_), b1⟩
  rw [doInvoke_state]
  refine Steps.trans hsteps ?_
  have h12 := hst3 t a1
  rw [← hs₂] at h12
  exact h12
end CXC
/-- the rows of a table, by the words of the law -/
theorem cx_g1 {e : Env} {s : State} {l : Launch} (ha : l.admits e) {own : String} {d : ClassId} {args : Array Value} {pc : Nat} {E N : String} {k : ClassId} {st en h ct : Nat} {t : List (Nat × Nat × Nat × Nat)} (hown : s.vm.findClass own = some d) (h1 : st ≤ pc) (h2 : pc < en) (h0 : ct ≠ 0) (hl : (Cond.classLink own ct N).before args s = true) (hc : va_Nw (.castable E N) s) (hk : s.vm.findClass E = some k) :
    cx_Go e.platform s d pc k h ((st, en, h, ct) :: t) := by
  have hpl : e.platform.magicAccessors = ({} : Platform).magicAccessors := by rw [ha.platform]
  obtain ⟨c', hc', hcl⟩ := Cond.classLink_spec hown hl e.platform hpl
  exact ⟨h1, h2, h0, c', hcl, Or.inr ⟨vb_asgC hc c' k hc' hk, rfl⟩⟩
theorem cx_g0 {e : Env} {s : State} {l : Launch} (ha : l.admits e) {own : String} {d : ClassId} {args : Array Value} {pc : Nat} {E N : String} {k : ClassId} {st en h2 h ct : Nat} {t : List (Nat × Nat × Nat × Nat)} (hown : s.vm.findClass own = some d) (h1 : st ≤ pc) (h3 : pc < en) (h0 : ct ≠ 0) (hl : (Cond.classLink own ct N).before args s = true) (hc : va_Nc E N s) (hk : s.vm.findClass E = some k) (ht : cx_Go e.platform s d pc k h t) :
    cx_Go e.platform s d pc k h ((st, en, h2, ct) :: t) := by
  have hpl : e.platform.magicAccessors = ({} : Platform).magicAccessors := by rw [ha.platform]
  obtain ⟨c', hc', hcl⟩ := Cond.classLink_spec hown hl e.platform hpl
  obtain ⟨c1, t1, g1, g2, g3⟩ := hc
  cases g1.symm.trans hk
  cases g2.symm.trans hc'
  exact ⟨h1, h3, h0, c', hcl, Or.inl ⟨g3, ht⟩⟩
