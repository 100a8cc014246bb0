/-! a method that throws: its contract, its throw -/
def MX (below : List Frame) (Qc : Array Value → State → Outcome → State → Prop) (args : Array Value) (s : State) (t : State) : Prop := ∃ o : Outcome, t.status = .running ∧ Ended t below o ∧ Qc args s o t
theorem cx_ofW {l : Launch} {y : MethodName} {ws ws' : List Cond} {rm : Room} {Pc : Array Value → State → Prop} {Qc : Array Value → State → Outcome → State → Prop} {cc : ByteArray} {maxL : Nat} {ret : Option FieldType}
    (hy : plainFor y = true) (hw : ws = Cond.code y cc maxL ret :: ws')
    (body : ∀ p e s m args below meth c s₁, BodyLoose p l y (headSpec ws rm) cc maxL ret e s m args below meth c s₁ → c.maxLocals = maxL → Pc args s → W p l e (headSpec ws rm).room s m args below meth c s.heap [] 0 0 (MX below Qc args s) (entryFrame m args maxL)) :
    MetFree l y (headSpec ws rm) Pc (fun _ _ _ _ _ => True) Qc := by
  refine MetFree.of_bodySF (code := cc) (maxLocals := maxL) (ret := ret) hy (fun args s m h hn => ?_) (fun p e s m args below meth c s₁ B hml hP _ => ?_)
  · have hc := atoms_spec (ws := ws) h (Cond.code y cc maxL ret) (by rw [hw]; exact List.mem_cons_self)
    obtain ⟨meth, c, h1, h2, h3, h4, h5, h6, -, -⟩ := Cond.code_spec hn hc
    exact ⟨meth, c, h1, h2, h3, h4, h5, h6⟩
  · have hh : s₁.heap = s.heap := by rw [B.state]; rfl
    obtain ⟨t, st, o, r1, r2, r3⟩ := body p e s m args below meth c s₁ B hml hP s₁ hh (Stand.of_body B)
    exact ⟨t, o, st, r1, r2, r3⟩
section CXT
variable {p : Program} {l : Launch} {e : Env} {R : Room} {s : State} {m : MethodId} {args : Array Value} {below : List Frame} {meth : Method} {c : Code} {H : Heap} {cells slots : Nat} {Q : State → Prop}
theorem cx_throw {locs : List Loc} {cc : ByteArray} {pc : Nat} {ls : Array Slot} {rest : List Value} (hexec : p.tables.exec = Jvm.exec) (hb : c.code = cc) (htr : e.platform.stackTraces = false) (hls : ls.size = c.maxLocals) {own E : String} {ix ic : Nat} {names : List String} (hown : s.vm.findClass own = some m.cls)
    (hlink : (Cond.classLink own ix E).before args s = true) (hinst : (Cond.instantiable E 6).before args s = true) (hini : (Cond.initialized E).before args s = true) (hfit : Bundle.fit E = true) (hnames : ∀ n ∈ names, Bundle.fit n = true) (hat : ∀ a ∈ Bundle.ownAtoms0 own ic E names, a.before args s = true)
    (hlocs : ∀ x ∈ locs, ∀ cell, s.heap[x.base]? = some cell → cell.vm.isStatics = false) (hsz : s.heap.size ≤ H.size) (hnoh : ∀ x ∈ c.exceptionTable.toList, covers x (pc + 7) = false) (hcells : cells + 1 ≤ R.cells) (hslots : slots + 6 ≤ R.slots)
    (hd0 : decode cc pc = .ok (.new ix, 3)) (hd3 : decode cc (pc + 3) = .ok (.dup, 1)) (hd4 : decode cc (pc + 4) = .ok (.invokespecial ic, 3)) (hd7 : decode cc (pc + 7) = .ok (.athrow, 1)) (hRf : names.length + 3 < R.frames) (hRl : 1 + (rest.map fun v => v.category).sum + (13 * (names.length + 1) + 41) ≤ R.locals) (hlocks : meth.locks = false)
    (kk : ∀ (U : State) (a : Addr) (ce : Cell), U.status = .running → Ended U below (.threw a) → s.heap.size ≤ a → U.heap[a]? = some ce → ce.vm = .none → s.vm.findClass E = some ce.cls → s.WarmedH U.vm → s.sameButNew ({ U with vm := s.vm } : State) locs (cells + 1) (slots + 6) → Q U) :
    W p l e R s m args below meth c H locs cells slots Q (F0 m pc ls rest) := by
  refine W.newc hexec hb hown hlink hinst hini rfl hd0 hcells hslots (fun cC kC hcC hkC hord hn => ?_)
  refine lv_dup (va := .ref H.size) hexec hb hd3 rfl ?_
  intro T hT X
  have hcell : T.heap[H.size]? = some (freshCell cC kC) := by rw [hT]; simp [freshCell]
  obtain ⟨U, st, r1, r2, r3, r4, ce, r5, r6⟩ := X.ctorThrow0 hexec htr hown hfit hnames hat hlocs hcC hkC hcell hsz (g := F0 m (pc + 3 + 1) ls (.ref H.size :: .ref H.size :: rest)) rfl hls rfl rfl rfl (by rw [hb]; exact hd4) (by rw [hb]; exact hd7) hnoh hRf (by
    show 2 * 0 + (1 + (rest.map fun v => v.category).sum) + (13 * (names.length + 1) + 41) ≤ R.locals
    omega) hlocks
  exact ⟨U, st, kk U H.size ce r1 r2 hsz r5 r6.vm r6.cls r3 r4⟩
end CXT
