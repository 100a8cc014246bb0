def y_BitWriter_init : MethodName := ⟨"TileForge$BitWriter", "<init>", "()V"⟩
def ws_BitWriter_init : List Cond := .code y_BitWriter_init prog_2_method_1_code 1 none :: GW
theorem mw_112 : (.code ⟨"TileForge$BitWriter", "<init>", "()V"⟩ prog_2_method_1_code 1 none : Cond) ∈ GW := List.mem_filter.mpr ⟨(List.mem_append_right _ (List.mem_append_left _ (List.mem_of_getElem? (i := 99) rfl))), rfl⟩
theorem hd_BitWriter_init : y_BitWriter_init.cls ≠ "java/lang/invoke/MethodHandle" ∧ y_BitWriter_init.cls ≠ "java/lang/invoke/VarHandle" ∧ (parseMethodDescriptor y_BitWriter_init.desc).map (fun d => d.parameters.length) = some 0 := by decide +kernel
theorem d_BitWriter_init_0 : decode prog_2_method_1_code 0 = .ok (.aload_n 0, 1) := by decide +kernel
theorem d_BitWriter_init_1 : decode prog_2_method_1_code 1 = .ok (.invokespecial 3, 3) := by decide +kernel
theorem d_BitWriter_init_4 : decode prog_2_method_1_code 4 = .ok (.aload_n 0, 1) := by decide +kernel
theorem d_BitWriter_init_5 : decode prog_2_method_1_code 5 = .ok (.sipush 400, 3) := by decide +kernel
theorem d_BitWriter_init_8 : decode prog_2_method_1_code 8 = .ok (.newarray .int, 2) := by decide +kernel
theorem d_BitWriter_init_10 : decode prog_2_method_1_code 10 = .ok (.putfield 9, 3) := by decide +kernel
theorem d_BitWriter_init_13 : decode prog_2_method_1_code 13 = .ok (.return_, 1) := by decide +kernel
theorem mw_113 : (.methodLink "TileForge$BitWriter" 3 objectInit : Cond) ∈ GW := List.mem_filter.mpr ⟨(List.mem_append_right _ (List.mem_append_left _ (List.mem_of_getElem? (i := 100) rfl))), rfl⟩
theorem mw_114 : (.fieldLink "TileForge$BitWriter" 9 "TileForge$BitWriter" "bytes" "[I" : Cond) ∈ GW := List.mem_filter.mpr ⟨(List.mem_append_right _ (List.mem_append_left _ (List.mem_of_getElem? (i := 101) rfl))), rfl⟩
def q_bw_init (cI : ClassId) (x1 : Nat) : va_W → Prop := fun ww => ∃ (x2 : Nat), ww = [(x1, .inr (0, [.ref x2, .int 0])), (x2, .inl (cI, 400, .inl (fun _ => 0)))]
set_option maxHeartbeats 4000000 in
set_option maxRecDepth 100000 in
theorem c_bw_init (l : Launch) {D : va_G} {tys : List (ClassId × FieldType)} {cI : ClassId} (hcI : tys[0]? = some (cI, .int)) (x1 : Nat) : CsV l D vwCl tys y_BitWriter_init ws_BitWriter_init ({ frames := 1, cells := 1, slots := 400, locals := 12 } : Room) [.ref x1] [(x1, .inr (0, [.null, .int 0]))] (q_bw_init cI x1) 1 400 := by
  intro sz
  refine Met.ofW (cc := prog_2_method_1_code) (maxL := 1) (ret := none) (by decide) rfl ?_
  intro p e s m args below meth c s₁ B hml hv
  obtain ⟨rfl, hsz, hP, hK, hD0, hN⟩ := hv
  have hx := B.exec
  have hb := B.bytes
  have hr := B.returns
  have hts := atoms_spec (ws := ws_BitWriter_init) B.pre
  have hown : s.vm.findClass "TileForge$BitWriter" = some m.cls := findClass_of_methodNamed B.named
  have hlocks := B.notSynchronized
  have hin : meth.name = "<init>" := (name_of_methodNamed B.named B.method).1
  subst hsz
  have hD := hD0.self (sz := s.heap.size)
  generalize hAe : va_A [(x1, .inr (0, [.null, .int 0]))] s.heap.size = A at hD ⊢
  have hA : ∀ q : Nat, s.heap.size ≤ q → A q := fun q h => by rw [← hAe]; exact Or.inr h
  have hS : va_S A s.heap s.heap [] := va_S.rf
  have hP : va_P D vwCl [(x1, .inr (0, [.null, .int 0]))] s.heap := hP
  have hl := lv_entry ([.ref x1]) (n := 1) (Nat.le_of_ble_eq_true rfl)
  rw [lg_entry_eq]
  generalize (lg_sl ([.ref x1]) ++ List.replicate (1 - (lg_sl ([.ref x1])).length) Slot.unset).toArray = ls at hl ⊢
  have hl : lv_has ls 1 [(0, .ref x1)] := hl
  refine lv_aload_n hx hb d_BitWriter_init_0 rfl (lv_at hl 0 rfl) ?_
  refine W.objInit hx hb hown (hts _ (cs_m mw_113)) (hts _ (cs_m mw_81)) (hts _ (cs_m mw_82)) rfl (by rw [hml]; exact hl.1) rfl d_BitWriter_init_1 (Nat.le_of_ble_eq_true rfl) (Nat.le_of_ble_eq_true rfl) ?_
  refine W.eq (g2 := F0 m 4 ls []) rfl ?_
  refine lv_aload_n hx hb d_BitWriter_init_4 rfl (lv_at hl 0 rfl) ?_
  refine lv_sipush (v := 400) hx hb d_BitWriter_init_5 (by decide) ?_
  refine cs_newi (N := 400) hx hb (hts _ (cs_m mw_83)) hK hcI hP hD hS hA (by decide) rfl (by decide) (Nat.le_of_ble_eq_true rfl) (Nat.le_of_ble_eq_true rfl) d_BitWriter_init_8 (fun q1 H hP hD hS => ?_)
  have hP : va_P D vwCl [(x1, .inr (0, [.null, .int 0])), (q1, .inl (cI, 400, .inl (fun _ => 0)))] H := hP
  have hD : va_D A [(x1, .inr (0, [.null, .int 0])), (q1, .inl (cI, 400, .inl (fun _ => 0)))] := hD
  refine va_putF (D := D) (ci := 0) (v := .ref q1) (ty := .array .int) (C := "TileForge$BitWriter") (T := T_BitWriter) (N := 2) hx hb hts (cs_in in_BitWriter) ty_BitWriter tok_BitWriter nm_BitWriter hown hK hP hD hS 0 rfl rfl 0 (by decide) (hts _ (cs_m mw_114)) (fun _ h9 => h9) rfl hin rfl (by decide +kernel) rfl rfl (Nat.le_of_ble_eq_true rfl) d_BitWriter_init_10 (fun H locs hP hD hS => ?_)
  have hP : va_P D vwCl [(x1, .inr (0, [.ref q1, .int 0])), (q1, .inl (cI, 400, .inl (fun _ => 0)))] H := hP
  have hD : va_D A [(x1, .inr (0, [.ref q1, .int 0])), (q1, .inl (cI, 400, .inl (fun _ => 0)))] := hD
  refine W.widen (k := 1) (n := 400) (Nat.le_of_ble_eq_true rfl) (Nat.le_of_ble_eq_true rfl) ?_
  exact W.vret hx hb hr (fun t ht hW => ⟨⟨[(x1, .inr (0, [.ref q1, .int 0])), (q1, .inl (cI, 400, .inl (fun _ => 0)))], rfl, ⟨q1, (rfl)⟩, by rw [ht]; exact hP, va_K.moved hW.alike hK, hD⟩, hS.F ht⟩) hS.2.2 d_BitWriter_init_13
def y_BitWriter_begin : MethodName := ⟨"TileForge$BitWriter", "begin", "()V"⟩
def ws_BitWriter_begin : List Cond := .code y_BitWriter_begin prog_2_method_2_code 2 none :: GW
theorem mw_115 : (.code ⟨"TileForge$BitWriter", "begin", "()V"⟩ prog_2_method_2_code 2 none : Cond) ∈ GW := List.mem_filter.mpr ⟨(List.mem_append_right _ (List.mem_append_right _ (List.mem_append_left _ (List.mem_of_getElem? (i := 164) rfl)))), rfl⟩
theorem hd_BitWriter_begin : y_BitWriter_begin.cls ≠ "java/lang/invoke/MethodHandle" ∧ y_BitWriter_begin.cls ≠ "java/lang/invoke/VarHandle" ∧ (parseMethodDescriptor y_BitWriter_begin.desc).map (fun d => d.parameters.length) = some 0 := by decide +kernel
theorem d_BitWriter_begin_0 : decode prog_2_method_2_code 0 = .ok (.aload_n 0, 1) := by decide +kernel
theorem d_BitWriter_begin_1 : decode prog_2_method_2_code 1 = .ok (.iconst 0, 1) := by decide +kernel
theorem d_BitWriter_begin_2 : decode prog_2_method_2_code 2 = .ok (.putfield 15, 3) := by decide +kernel
theorem d_BitWriter_begin_5 : decode prog_2_method_2_code 5 = .ok (.iconst 0, 1) := by decide +kernel
theorem d_BitWriter_begin_6 : decode prog_2_method_2_code 6 = .ok (.istore_n 1, 1) := by decide +kernel
theorem d_BitWriter_begin_7 : decode prog_2_method_2_code 7 = .ok (.iload_n 1, 1) := by decide +kernel
theorem d_BitWriter_begin_8 : decode prog_2_method_2_code 8 = .ok (.sipush 400, 3) := by decide +kernel
theorem d_BitWriter_begin_11 : decode prog_2_method_2_code 11 = .ok (.if_icmp .ge 16, 3) := by decide +kernel
theorem d_BitWriter_begin_14 : decode prog_2_method_2_code 14 = .ok (.aload_n 0, 1) := by decide +kernel
theorem d_BitWriter_begin_15 : decode prog_2_method_2_code 15 = .ok (.getfield 9, 3) := by decide +kernel
theorem d_BitWriter_begin_18 : decode prog_2_method_2_code 18 = .ok (.iload_n 1, 1) := by decide +kernel
theorem d_BitWriter_begin_19 : decode prog_2_method_2_code 19 = .ok (.iconst 0, 1) := by decide +kernel
theorem d_BitWriter_begin_20 : decode prog_2_method_2_code 20 = .ok (.iastore, 1) := by decide +kernel
theorem d_BitWriter_begin_21 : decode prog_2_method_2_code 21 = .ok (.iinc 1 1, 3) := by decide +kernel
theorem d_BitWriter_begin_24 : decode prog_2_method_2_code 24 = .ok (.goto (-17), 3) := by decide +kernel
theorem d_BitWriter_begin_27 : decode prog_2_method_2_code 27 = .ok (.return_, 1) := by decide +kernel
theorem mw_116 : (.fieldLink "TileForge$BitWriter" 15 "TileForge$BitWriter" "bits" "I" : Cond) ∈ GW := List.mem_filter.mpr ⟨(List.mem_append_right _ (List.mem_append_left _ (List.mem_of_getElem? (i := 103) rfl))), rfl⟩
def q_bw_begin (cI : ClassId) (x1 : Nat) (x2 : Nat) (bt : Nat → Int32) (nb : Nat) : va_W → Prop := fun ww => ∃ (bt' : Nat → Int32), (∀ j, j < 400 → bt' j = 0) ∧ ww = [(x1, .inr (0, [.ref x2, .int 0])), (x2, .inl (cI, 400, .inl bt'))]
set_option maxHeartbeats 4000000 in
set_option maxRecDepth 100000 in
theorem c_bw_begin (l : Launch) {D : va_G} {tys : List (ClassId × FieldType)} {cI : ClassId} (hcI : tys[0]? = some (cI, .int)) (x1 : Nat) (x2 : Nat) (bt : Nat → Int32) (nb : Nat) : CsV l D vwCl tys y_BitWriter_begin ws_BitWriter_begin ({ frames := 0, cells := 0, slots := 0, locals := 0 } : Room) [.ref x1] [(x1, .inr (0, [.ref x2, .int (nI nb)])), (x2, .inl (cI, 400, .inl bt))] (q_bw_begin cI x1 x2 bt nb) 0 0 := by
  intro sz
  refine Met.ofW (cc := prog_2_method_2_code) (maxL := 2) (ret := none) (by decide) rfl ?_
  intro p e s m args below meth c s₁ B hml hv
  obtain ⟨rfl, hsz, hP, hK, hD0, hN⟩ := hv
  have hx := B.exec
  have hb := B.bytes
  have hr := B.returns
  have hts := atoms_spec (ws := ws_BitWriter_begin) B.pre
  have hown : s.vm.findClass "TileForge$BitWriter" = some m.cls := findClass_of_methodNamed B.named
  have hlocks := B.notSynchronized
  subst hsz
  have hD := hD0.self (sz := s.heap.size)
  generalize hAe : va_A [(x1, .inr (0, [.ref x2, .int (nI nb)])), (x2, .inl (cI, 400, .inl bt))] s.heap.size = A at hD ⊢
  have hA : ∀ q : Nat, s.heap.size ≤ q → A q := fun q h => by rw [← hAe]; exact Or.inr h
  have hS : va_S A s.heap s.heap [] := va_S.rf
  have hP : va_P D vwCl [(x1, .inr (0, [.ref x2, .int (nI nb)])), (x2, .inl (cI, 400, .inl bt))] s.heap := hP
  have hl := lv_entry ([.ref x1]) (n := 2) (Nat.le_of_ble_eq_true rfl)
  rw [lg_entry_eq]
  generalize (lg_sl ([.ref x1]) ++ List.replicate (2 - (lg_sl ([.ref x1])).length) Slot.unset).toArray = ls at hl ⊢
  have hl : lv_has ls 2 [(0, .ref x1)] := hl
  refine lv_aload_n hx hb d_BitWriter_begin_0 rfl (lv_at hl 0 rfl) ?_
  refine lv_iconst (v := 0) hx hb d_BitWriter_begin_1 (by decide) ?_
  refine va_put (D := D) (ci := 0) (v := .int 0) (ty := .int) (C := "TileForge$BitWriter") (T := T_BitWriter) (N := 2) hx hb hts (cs_in in_BitWriter) ty_BitWriter tok_BitWriter nm_BitWriter hown hK hP hD hS 0 rfl rfl 1 (by decide) (hts _ (cs_m mw_116)) (fun _ h9 => h9) rfl (by decide +kernel) rfl rfl (Nat.le_of_ble_eq_true rfl) d_BitWriter_begin_2 (fun H locs hP hD hS => ?_)
  have hP : va_P D vwCl [(x1, .inr (0, [.ref x2, .int 0])), (x2, .inl (cI, 400, .inl bt))] H := hP
  have hD : va_D A [(x1, .inr (0, [.ref x2, .int 0])), (x2, .inl (cI, 400, .inl bt))] := hD
  refine lv_iconst (v := 0) hx hb d_BitWriter_begin_5 (by decide) ?_
  refine lv_istore_n (lv' := [(1, .int 0), (0, .ref x1)]) hx hb d_BitWriter_begin_6 rfl hl (by decide) rfl (fun ls hl => ?_)
  have lp7 : ∀ (n : Nat) (k : Nat) (f : Nat → Int32), (401 ≤ k + n) → (k ≤ 400) → (∀ j, j < k → f j = 0) → ∀ (H : Heap) (locs : List Loc) (ls : Array Slot), va_P D vwCl [(x1, .inr (0, [.ref x2, .int 0])), (x2, .inl (cI, 400, .inl f))] H → va_D A [(x1, .inr (0, [.ref x2, .int 0])), (x2, .inl (cI, 400, .inl f))] → va_S A s.heap H locs → lv_has ls 2 [(0, .ref x1), (1, .int (nI k))] → W p l e ({ frames := 0, cells := 0, slots := 0, locals := 0 } : Room) s m ([.ref x1] : List Value).toArray below meth c H locs 0 0 (MQ below (va_Qv (q_bw_begin cI x1 x2 bt nb) (cs_B D vwCl tys A) A) ([.ref x1] : List Value).toArray s 0 0 A) (F0 m 7 ls []) := by
    intro n
    induction n with
    | zero =>
      intro k f hf hk hz
      exact absurd hf (by omega)
    | succ n ih7 =>
      intro k f hf hk hz H locs ls hP hD hS hl
      refine lv_iload_n hx hb d_BitWriter_begin_7 rfl (lv_at hl 1 rfl) ?_
      refine lv_sipush (v := 400) hx hb d_BitWriter_begin_8 (by decide) ?_
      refine lv_icmp_ge (tgt := 27) hx hb d_BitWriter_begin_11 (by decide) (fun c_11 => ?_) (fun c_11 => ?_)
      · have hk2 := (nI_leI (a := 400) (b := k) (by decide) (by omega)).mp c_11
        have hk3 : k = 400 := by omega
        subst hk3
        exact W.vret hx hb hr (fun t ht hW => ⟨⟨[(x1, .inr (0, [.ref x2, .int 0])), (x2, .inl (cI, 400, .inl f))], rfl, ⟨f, (hz), (rfl)⟩, by rw [ht]; exact hP, va_K.moved hW.alike hK, hD⟩, hS.F ht⟩) hS.2.2 d_BitWriter_begin_27
      · have hk2 : k < 400 := Nat.not_le.mp (fun h => c_11 ((nI_leI (a := 400) (b := k) (by decide) (by omega)).mpr h))
        refine lv_aload_n hx hb d_BitWriter_begin_14 rfl (lv_at hl 0 rfl) ?_
        refine va_get (D := D) (ci := 0) (v := .ref x2) (C := "TileForge$BitWriter") (T := T_BitWriter) (N := 2) hx hb hts (cs_in in_BitWriter) hown hK hP 0 rfl rfl 0 (by decide) (hts _ (cs_m mw_114)) (fun _ h9 => h9) rfl d_BitWriter_begin_15 ?_
        refine lv_iload_n hx hb d_BitWriter_begin_18 rfl (lv_at hl 1 rfl) ?_
        refine lv_iconst (v := 0) hx hb d_BitWriter_begin_19 (by decide) ?_
        refine cs_iast (j := k) hx hb hK hcI hP hD hS 1 rfl (rfl) (by omega) (by decide) d_BitWriter_begin_20 (fun H locs hP hD hS => ?_)
        have hP : va_P D vwCl [(x1, .inr (0, [.ref x2, .int 0])), (x2, .inl (cI, 400, .inl (upd f k 0)))] H := hP
        have hD : va_D A [(x1, .inr (0, [.ref x2, .int 0])), (x2, .inl (cI, 400, .inl (upd f k 0)))] := hD
        refine lv_iinc (v := nI (k + 1)) (lv' := [(1, .int (nI (k + 1))), (0, .ref x1)]) hx hb d_BitWriter_begin_21 hl (k := 1) rfl (nI_1 _) (by decide) rfl (fun ls hl => ?_)
        refine lv_goto (tgt := 7) hx hb d_BitWriter_begin_24 (by decide) ?_
        exact ih7 (k + 1) (upd f k 0) (by omega) (by omega) (cs_fill hz) _ _ _ (hP.sub (ws' := [(x1, .inr (0, [.ref x2, .int 0])), (x2, .inl (cI, 400, .inl (upd f k 0)))]) [0, 1] rfl) (hD.sub (ws' := [(x1, .inr (0, [.ref x2, .int 0])), (x2, .inl (cI, 400, .inl (upd f k 0)))]) [0, 1] (by decide) rfl) hS (lv_sub hl [1, 0] rfl)
  exact lp7 (401) 0 bt (by omega) (by omega) (fun j hj => absurd hj (by omega)) _ _ _ (hP.sub (ws' := [(x1, .inr (0, [.ref x2, .int 0])), (x2, .inl (cI, 400, .inl bt))]) [0, 1] rfl) (hD.sub (ws' := [(x1, .inr (0, [.ref x2, .int 0])), (x2, .inl (cI, 400, .inl bt))]) [0, 1] (by decide) rfl) hS (lv_sub hl [1, 0] rfl)
def y_BitWriter_write : MethodName := ⟨"TileForge$BitWriter", "write", "(II)V"⟩
def ws_BitWriter_write : List Cond := .code y_BitWriter_write prog_2_method_3_code 5 none :: GW
theorem mw_117 : (.code ⟨"TileForge$BitWriter", "write", "(II)V"⟩ prog_2_method_3_code 5 none : Cond) ∈ GW := List.mem_filter.mpr ⟨(List.mem_append_right _ (List.mem_append_right _ (List.mem_append_left _ (List.mem_of_getElem? (i := 168) rfl)))), rfl⟩
theorem hd_BitWriter_write : y_BitWriter_write.cls ≠ "java/lang/invoke/MethodHandle" ∧ y_BitWriter_write.cls ≠ "java/lang/invoke/VarHandle" ∧ (parseMethodDescriptor y_BitWriter_write.desc).map (fun d => d.parameters.length) = some 2 := by decide +kernel
theorem d_BitWriter_write_0 : decode prog_2_method_3_code 0 = .ok (.iload_n 2, 1) := by decide +kernel
theorem d_BitWriter_write_1 : decode prog_2_method_3_code 1 = .ok (.iconst 1, 1) := by decide +kernel
theorem d_BitWriter_write_2 : decode prog_2_method_3_code 2 = .ok (.isub, 1) := by decide +kernel
theorem d_BitWriter_write_3 : decode prog_2_method_3_code 3 = .ok (.istore_n 3, 1) := by decide +kernel
theorem d_BitWriter_write_4 : decode prog_2_method_3_code 4 = .ok (.iload_n 3, 1) := by decide +kernel
theorem d_BitWriter_write_5 : decode prog_2_method_3_code 5 = .ok (.ifCond .lt 62, 3) := by decide +kernel
theorem d_BitWriter_write_8 : decode prog_2_method_3_code 8 = .ok (.aload_n 0, 1) := by decide +kernel
theorem d_BitWriter_write_9 : decode prog_2_method_3_code 9 = .ok (.getfield 15, 3) := by decide +kernel
theorem d_BitWriter_write_12 : decode prog_2_method_3_code 12 = .ok (.bipush 8, 2) := by decide +kernel
theorem d_BitWriter_write_14 : decode prog_2_method_3_code 14 = .ok (.idiv, 1) := by decide +kernel
theorem d_BitWriter_write_15 : decode prog_2_method_3_code 15 = .ok (.istore 4, 2) := by decide +kernel
theorem d_BitWriter_write_17 : decode prog_2_method_3_code 17 = .ok (.iload 4, 2) := by decide +kernel
theorem d_BitWriter_write_19 : decode prog_2_method_3_code 19 = .ok (.sipush 400, 3) := by decide +kernel
theorem d_BitWriter_write_22 : decode prog_2_method_3_code 22 = .ok (.if_icmp .ge 29, 3) := by decide +kernel
theorem d_BitWriter_write_25 : decode prog_2_method_3_code 25 = .ok (.aload_n 0, 1) := by decide +kernel
theorem d_BitWriter_write_26 : decode prog_2_method_3_code 26 = .ok (.getfield 9, 3) := by decide +kernel
theorem d_BitWriter_write_29 : decode prog_2_method_3_code 29 = .ok (.iload 4, 2) := by decide +kernel
theorem d_BitWriter_write_31 : decode prog_2_method_3_code 31 = .ok (.dup2, 1) := by decide +kernel
theorem d_BitWriter_write_32 : decode prog_2_method_3_code 32 = .ok (.iaload, 1) := by decide +kernel
theorem d_BitWriter_write_33 : decode prog_2_method_3_code 33 = .ok (.iload_n 1, 1) := by decide +kernel
theorem d_BitWriter_write_34 : decode prog_2_method_3_code 34 = .ok (.iload_n 3, 1) := by decide +kernel
theorem d_BitWriter_write_35 : decode prog_2_method_3_code 35 = .ok (.ishr, 1) := by decide +kernel
theorem d_BitWriter_write_36 : decode prog_2_method_3_code 36 = .ok (.iconst 1, 1) := by decide +kernel
theorem d_BitWriter_write_37 : decode prog_2_method_3_code 37 = .ok (.iand, 1) := by decide +kernel
theorem d_BitWriter_write_38 : decode prog_2_method_3_code 38 = .ok (.bipush 7, 2) := by decide +kernel
theorem d_BitWriter_write_40 : decode prog_2_method_3_code 40 = .ok (.aload_n 0, 1) := by decide +kernel
theorem d_BitWriter_write_41 : decode prog_2_method_3_code 41 = .ok (.getfield 15, 3) := by decide +kernel
theorem d_BitWriter_write_44 : decode prog_2_method_3_code 44 = .ok (.bipush 8, 2) := by decide +kernel
theorem d_BitWriter_write_46 : decode prog_2_method_3_code 46 = .ok (.irem, 1) := by decide +kernel
theorem d_BitWriter_write_47 : decode prog_2_method_3_code 47 = .ok (.isub, 1) := by decide +kernel
theorem d_BitWriter_write_48 : decode prog_2_method_3_code 48 = .ok (.ishl, 1) := by decide +kernel
theorem d_BitWriter_write_49 : decode prog_2_method_3_code 49 = .ok (.ior, 1) := by decide +kernel
theorem d_BitWriter_write_50 : decode prog_2_method_3_code 50 = .ok (.iastore, 1) := by decide +kernel
theorem d_BitWriter_write_51 : decode prog_2_method_3_code 51 = .ok (.aload_n 0, 1) := by decide +kernel
theorem d_BitWriter_write_52 : decode prog_2_method_3_code 52 = .ok (.dup, 1) := by decide +kernel
theorem d_BitWriter_write_53 : decode prog_2_method_3_code 53 = .ok (.getfield 15, 3) := by decide +kernel
theorem d_BitWriter_write_56 : decode prog_2_method_3_code 56 = .ok (.iconst 1, 1) := by decide +kernel
theorem d_BitWriter_write_57 : decode prog_2_method_3_code 57 = .ok (.iadd, 1) := by decide +kernel
theorem d_BitWriter_write_58 : decode prog_2_method_3_code 58 = .ok (.putfield 15, 3) := by decide +kernel
theorem d_BitWriter_write_61 : decode prog_2_method_3_code 61 = .ok (.iinc 3 (-1), 3) := by decide +kernel
theorem d_BitWriter_write_64 : decode prog_2_method_3_code 64 = .ok (.goto (-60), 3) := by decide +kernel
theorem d_BitWriter_write_67 : decode prog_2_method_3_code 67 = .ok (.return_, 1) := by decide +kernel
def q_bw_write (cI : ClassId) (x1 : Nat) (x2 : Nat) (bt : Nat → Int32) (nb : Nat) (v : Int32) (cnt : Nat) : va_W → Prop := fun ww => ww = [(x1, .inr (0, [.ref x2, .int (nI (nb + cnt))])), (x2, .inl (cI, 400, .inl (wrF v cnt bt nb)))]
set_option maxHeartbeats 4000000 in
set_option maxRecDepth 100000 in
theorem c_bw_write (l : Launch) {D : va_G} {tys : List (ClassId × FieldType)} {cI : ClassId} (hcI : tys[0]? = some (cI, .int)) (x1 : Nat) (x2 : Nat) (bt : Nat → Int32) (nb : Nat) (v : Int32) (cnt : Nat) (hnb : nb + cnt < 1073741824) : CsV l D vwCl tys y_BitWriter_write ws_BitWriter_write ({ frames := 0, cells := 0, slots := 0, locals := 0 } : Room) [.ref x1, .int v, .int (nI cnt)] [(x1, .inr (0, [.ref x2, .int (nI nb)])), (x2, .inl (cI, 400, .inl bt))] (q_bw_write cI x1 x2 bt nb v cnt) 0 0 := by
  intro sz
  refine Met.ofW (cc := prog_2_method_3_code) (maxL := 5) (ret := none) (by decide) rfl ?_
  intro p e s m args below meth c s₁ B hml hv
  obtain ⟨rfl, hsz, hP, hK, hD0, hN⟩ := hv
  have hx := B.exec
  have hb := B.bytes
  have hr := B.returns
  have hts := atoms_spec (ws := ws_BitWriter_write) B.pre
  have hown : s.vm.findClass "TileForge$BitWriter" = some m.cls := findClass_of_methodNamed B.named
  have hlocks := B.notSynchronized
  subst hsz
  have hD := hD0.self (sz := s.heap.size)
  generalize hAe : va_A [(x1, .inr (0, [.ref x2, .int (nI nb)])), (x2, .inl (cI, 400, .inl bt))] s.heap.size = A at hD ⊢
  have hA : ∀ q : Nat, s.heap.size ≤ q → A q := fun q h => by rw [← hAe]; exact Or.inr h
  have hS : va_S A s.heap s.heap [] := va_S.rf
  have hP : va_P D vwCl [(x1, .inr (0, [.ref x2, .int (nI nb)])), (x2, .inl (cI, 400, .inl bt))] s.heap := hP
  have hl := lv_entry ([.ref x1, .int v, .int (nI cnt)]) (n := 5) (Nat.le_of_ble_eq_true rfl)
  rw [lg_entry_eq]
  generalize (lg_sl ([.ref x1, .int v, .int (nI cnt)]) ++ List.replicate (5 - (lg_sl ([.ref x1, .int v, .int (nI cnt)])).length) Slot.unset).toArray = ls at hl ⊢
  have hl : lv_has ls 5 [(0, .ref x1), (1, .int v), (2, .int (nI cnt))] := hl
  refine lv_iload_n hx hb d_BitWriter_write_0 rfl (lv_at hl 2 rfl) ?_
  refine lv_iconst (v := 1) hx hb d_BitWriter_write_1 (by decide) ?_
  refine lv_isub hx hb d_BitWriter_write_2 ?_
  refine lv_istore_n (lv' := [(3, .int ((nI cnt) - 1)), (0, .ref x1), (1, .int v), (2, .int (nI cnt))]) hx hb d_BitWriter_write_3 rfl hl (by decide) rfl (fun ls hl => ?_)
  have lp4 : ∀ (n : Nat) (i : Nat) (f : Nat → Int32) (n1 : Nat), (i + 1 ≤ n) → (n1 + i = nb + cnt) → (wrF v i f n1 = wrF v cnt bt nb) → ∀ (H : Heap) (locs : List Loc) (ls : Array Slot), va_P D vwCl [(x1, .inr (0, [.ref x2, .int (nI n1)])), (x2, .inl (cI, 400, .inl f))] H → va_D A [(x1, .inr (0, [.ref x2, .int (nI n1)])), (x2, .inl (cI, 400, .inl f))] → va_S A s.heap H locs → lv_has ls 5 [(0, .ref x1), (1, .int v), (2, .int (nI cnt)), (3, .int (nI i - 1))] → W p l e ({ frames := 0, cells := 0, slots := 0, locals := 0 } : Room) s m ([.ref x1, .int v, .int (nI cnt)] : List Value).toArray below meth c H locs 0 0 (MQ below (va_Qv (q_bw_write cI x1 x2 bt nb v cnt) (cs_B D vwCl tys A) A) ([.ref x1, .int v, .int (nI cnt)] : List Value).toArray s 0 0 A) (F0 m 4 ls []) := by
    intro n
    induction n with
    | zero =>
      intro i f n1 hf h1 h2
      exact absurd hf (by omega)
    | succ n ih4 =>
      intro i f n1 hf h1 h2 H locs ls hP hD hS hl
      refine lv_iload_n hx hb d_BitWriter_write_4 rfl (lv_at hl 3 rfl) ?_
      refine lv_if_lt (tgt := 67) hx hb d_BitWriter_write_5 (by decide) (fun c_5 => ?_) (fun c_5 => ?_)
      · have hi : i = 0 := cs_dec0 c_5 (by omega)
        subst hi
        have h3 : f = wrF v cnt bt nb := h2
        have h4 : n1 = nb + cnt := by omega
        exact W.vret hx hb hr (fun t ht hW => ⟨⟨[(x1, .inr (0, [.ref x2, .int (nI n1)])), (x2, .inl (cI, 400, .inl f))], rfl, (show _ = _ from (by rw [h3, h4])), by rw [ht]; exact hP, va_K.moved hW.alike hK, hD⟩, hS.F ht⟩) hS.2.2 d_BitWriter_write_67
      · obtain ⟨j, hj⟩ : ∃ j, i = j + 1 := ⟨i - 1, by have := cs_dec1 c_5; omega⟩
        subst hj
        refine lv_aload_n hx hb d_BitWriter_write_8 rfl (lv_at hl 0 rfl) ?_
        refine va_get (D := D) (ci := 0) (v := .int (nI n1)) (C := "TileForge$BitWriter") (T := T_BitWriter) (N := 2) hx hb hts (cs_in in_BitWriter) hown hK hP 0 rfl rfl 1 (by decide) (hts _ (cs_m mw_116)) (fun _ h9 => h9) rfl d_BitWriter_write_9 ?_
        refine lv_bipush (v := 8) hx hb d_BitWriter_write_12 (by decide) ?_
        refine lv_idiv hx hb d_BitWriter_write_14 (by decide) ?_
        refine cs_top (y := nI (n1 / 8)) (pk_div (a := n1) (d := 8) (by omega) (by decide) (by decide)) ?_
        refine lv_istore (lv' := [(4, .int (nI (n1 / 8))), (0, .ref x1), (1, .int v), (2, .int (nI cnt)), (3, .int (nI (j + 1) - 1))]) hx hb d_BitWriter_write_15 hl (by decide) rfl (fun ls hl => ?_)
        refine lv_iload hx hb d_BitWriter_write_17 (lv_at hl 0 rfl) ?_
        refine lv_sipush (v := 400) hx hb d_BitWriter_write_19 (by decide) ?_
        refine lv_icmp_ge (tgt := 51) hx hb d_BitWriter_write_22 (by decide) (fun c_22 => ?_) (fun c_22 => ?_)
        · have h8 : ¬ n1 / 8 < 400 := Nat.not_lt.mpr ((nI_leI (a := 400) (b := n1 / 8) (by decide) (by omega)).mp c_22)
          refine lv_aload_n hx hb d_BitWriter_write_51 rfl (lv_at hl 1 rfl) ?_
          refine lv_dup hx hb d_BitWriter_write_52 rfl ?_
          refine va_get (D := D) (ci := 0) (v := .int (nI n1)) (C := "TileForge$BitWriter") (T := T_BitWriter) (N := 2) hx hb hts (cs_in in_BitWriter) hown hK hP 0 rfl rfl 1 (by decide) (hts _ (cs_m mw_116)) (fun _ h9 => h9) rfl d_BitWriter_write_53 ?_
          refine lv_iconst (v := 1) hx hb d_BitWriter_write_56 (by decide) ?_
          refine lv_iadd hx hb d_BitWriter_write_57 ?_
          refine cs_top (y := nI (n1 + 1)) (nI_1 n1) ?_
          refine va_put (D := D) (ci := 0) (v := .int (nI (n1 + 1))) (ty := .int) (C := "TileForge$BitWriter") (T := T_BitWriter) (N := 2) hx hb hts (cs_in in_BitWriter) ty_BitWriter tok_BitWriter nm_BitWriter hown hK hP hD hS 0 rfl rfl 1 (by decide) (hts _ (cs_m mw_116)) (fun _ h9 => h9) rfl (by decide +kernel) rfl rfl (Nat.le_of_ble_eq_true rfl) d_BitWriter_write_58 (fun H locs hP hD hS => ?_)
          have hP : va_P D vwCl [(x1, .inr (0, [.ref x2, .int (nI (n1 + 1))])), (x2, .inl (cI, 400, .inl f))] H := hP
          have hD : va_D A [(x1, .inr (0, [.ref x2, .int (nI (n1 + 1))])), (x2, .inl (cI, 400, .inl f))] := hD
          refine lv_iinc (v := nI j - 1) (lv' := [(3, .int (nI j - 1)), (4, .int (nI (n1 / 8))), (0, .ref x1), (1, .int v), (2, .int (nI cnt))]) hx hb d_BitWriter_write_61 hl (k := 4) rfl (cs_dec j) (by decide) rfl (fun ls hl => ?_)
          refine lv_goto (tgt := 4) hx hb d_BitWriter_write_64 (by decide) ?_
          exact ih4 j f (n1 + 1) (by omega) (by omega) (by rw [← h2, wrF, wr1, if_neg h8]) _ _ _ (hP.sub (ws' := [(x1, .inr (0, [.ref x2, .int (nI (n1 + 1))])), (x2, .inl (cI, 400, .inl f))]) [0, 1] rfl) (hD.sub (ws' := [(x1, .inr (0, [.ref x2, .int (nI (n1 + 1))])), (x2, .inl (cI, 400, .inl f))]) [0, 1] (by decide) rfl) hS (lv_sub hl [2, 3, 4, 0] rfl)
        · have h8 : n1 / 8 < 400 := Nat.not_le.mp (fun h => c_22 ((nI_leI (a := 400) (b := n1 / 8) (by decide) (by omega)).mpr h))
          refine lv_aload_n hx hb d_BitWriter_write_25 rfl (lv_at hl 1 rfl) ?_
          refine va_get (D := D) (ci := 0) (v := .ref x2) (C := "TileForge$BitWriter") (T := T_BitWriter) (N := 2) hx hb hts (cs_in in_BitWriter) hown hK hP 0 rfl rfl 0 (by decide) (hts _ (cs_m mw_114)) (fun _ h9 => h9) rfl d_BitWriter_write_26 ?_
          refine lv_iload hx hb d_BitWriter_write_29 (lv_at hl 0 rfl) ?_
          refine lv_dup2_11 hx hb d_BitWriter_write_31 rfl rfl ?_
          refine cs_iald (j := (n1 / 8)) hx hb hK hcI hP 1 rfl (rfl) (h8) (by decide) d_BitWriter_write_32 ?_
          refine lv_iload_n hx hb d_BitWriter_write_33 rfl (lv_at hl 2 rfl) ?_
          refine lv_iload_n hx hb d_BitWriter_write_34 rfl (lv_at hl 4 rfl) ?_
          refine cs_top (y := nI j) (nI_pred j) ?_
          refine lv_ishr hx hb d_BitWriter_write_35 ?_
          refine lv_iconst (v := 1) hx hb d_BitWriter_write_36 (by decide) ?_
          refine lv_iand hx hb d_BitWriter_write_37 ?_
          refine lv_bipush (v := 7) hx hb d_BitWriter_write_38 (by decide) ?_
          refine lv_aload_n hx hb d_BitWriter_write_40 rfl (lv_at hl 1 rfl) ?_
          refine va_get (D := D) (ci := 0) (v := .int (nI n1)) (C := "TileForge$BitWriter") (T := T_BitWriter) (N := 2) hx hb hts (cs_in in_BitWriter) hown hK hP 0 rfl rfl 1 (by decide) (hts _ (cs_m mw_116)) (fun _ h9 => h9) rfl d_BitWriter_write_41 ?_
          refine lv_bipush (v := 8) hx hb d_BitWriter_write_44 (by decide) ?_
          refine lv_irem hx hb d_BitWriter_write_46 (by decide) ?_
          refine cs_top (y := nI (n1 % 8)) (pk_rem (a := n1) (d := 8) (by omega) (by decide) (by decide)) ?_
          refine lv_isub hx hb d_BitWriter_write_47 ?_
          refine lv_ishl hx hb d_BitWriter_write_48 ?_
          refine lv_ior hx hb d_BitWriter_write_49 ?_
          refine cs_iast (j := (n1 / 8)) hx hb hK hcI hP hD hS 1 rfl (rfl) (h8) (by decide) d_BitWriter_write_50 (fun H locs hP hD hS => ?_)
          have hP : va_P D vwCl [(x1, .inr (0, [.ref x2, .int (nI n1)])), (x2, .inl (cI, 400, .inl (upd f (n1 / 8) ((f (n1 / 8)) ||| (((v >>> ((nI j) &&& 31)) &&& 1) <<< ((7 - (nI (n1 % 8))) &&& 31))))))] H := hP
          have hD : va_D A [(x1, .inr (0, [.ref x2, .int (nI n1)])), (x2, .inl (cI, 400, .inl (upd f (n1 / 8) ((f (n1 / 8)) ||| (((v >>> ((nI j) &&& 31)) &&& 1) <<< ((7 - (nI (n1 % 8))) &&& 31))))))] := hD
          refine lv_aload_n hx hb d_BitWriter_write_51 rfl (lv_at hl 1 rfl) ?_
          refine lv_dup hx hb d_BitWriter_write_52 rfl ?_
          refine va_get (D := D) (ci := 0) (v := .int (nI n1)) (C := "TileForge$BitWriter") (T := T_BitWriter) (N := 2) hx hb hts (cs_in in_BitWriter) hown hK hP 0 rfl rfl 1 (by decide) (hts _ (cs_m mw_116)) (fun _ h9 => h9) rfl d_BitWriter_write_53 ?_
          refine lv_iconst (v := 1) hx hb d_BitWriter_write_56 (by decide) ?_
          refine lv_iadd hx hb d_BitWriter_write_57 ?_
          refine cs_top (y := nI (n1 + 1)) (nI_1 n1) ?_
          refine va_put (D := D) (ci := 0) (v := .int (nI (n1 + 1))) (ty := .int) (C := "TileForge$BitWriter") (T := T_BitWriter) (N := 2) hx hb hts (cs_in in_BitWriter) ty_BitWriter tok_BitWriter nm_BitWriter hown hK hP hD hS 0 rfl rfl 1 (by decide) (hts _ (cs_m mw_116)) (fun _ h9 => h9) rfl (by decide +kernel) rfl rfl (Nat.le_of_ble_eq_true rfl) d_BitWriter_write_58 (fun H locs hP hD hS => ?_)
          have hP : va_P D vwCl [(x1, .inr (0, [.ref x2, .int (nI (n1 + 1))])), (x2, .inl (cI, 400, .inl (upd f (n1 / 8) ((f (n1 / 8)) ||| (((v >>> ((nI j) &&& 31)) &&& 1) <<< ((7 - (nI (n1 % 8))) &&& 31))))))] H := hP
          have hD : va_D A [(x1, .inr (0, [.ref x2, .int (nI (n1 + 1))])), (x2, .inl (cI, 400, .inl (upd f (n1 / 8) ((f (n1 / 8)) ||| (((v >>> ((nI j) &&& 31)) &&& 1) <<< ((7 - (nI (n1 % 8))) &&& 31))))))] := hD
          refine lv_iinc (v := nI j - 1) (lv' := [(3, .int (nI j - 1)), (4, .int (nI (n1 / 8))), (0, .ref x1), (1, .int v), (2, .int (nI cnt))]) hx hb d_BitWriter_write_61 hl (k := 4) rfl (cs_dec j) (by decide) rfl (fun ls hl => ?_)
          refine lv_goto (tgt := 4) hx hb d_BitWriter_write_64 (by decide) ?_
          exact ih4 j (upd f (n1 / 8) ((f (n1 / 8)) ||| (((v >>> ((nI j) &&& 31)) &&& 1) <<< ((7 - (nI (n1 % 8))) &&& 31)))) (n1 + 1) (by omega) (by omega) (by rw [← h2, wrF, wr1, if_pos h8]) _ _ _ (hP.sub (ws' := [(x1, .inr (0, [.ref x2, .int (nI (n1 + 1))])), (x2, .inl (cI, 400, .inl (upd f (n1 / 8) ((f (n1 / 8)) ||| (((v >>> ((nI j) &&& 31)) &&& 1) <<< ((7 - (nI (n1 % 8))) &&& 31))))))]) [0, 1] rfl) (hD.sub (ws' := [(x1, .inr (0, [.ref x2, .int (nI (n1 + 1))])), (x2, .inl (cI, 400, .inl (upd f (n1 / 8) ((f (n1 / 8)) ||| (((v >>> ((nI j) &&& 31)) &&& 1) <<< ((7 - (nI (n1 % 8))) &&& 31))))))]) [0, 1] (by decide) rfl) hS (lv_sub hl [2, 3, 4, 0] rfl)
  exact lp4 (cnt + 1) cnt bt nb (by omega) (rfl) (rfl) _ _ _ (hP.sub (ws' := [(x1, .inr (0, [.ref x2, .int (nI nb)])), (x2, .inl (cI, 400, .inl bt))]) [0, 1] rfl) (hD.sub (ws' := [(x1, .inr (0, [.ref x2, .int (nI nb)])), (x2, .inl (cI, 400, .inl bt))]) [0, 1] (by decide) rfl) hS (lv_sub hl [1, 2, 3, 0] rfl)
def y_BitWriter_writeOnesAndZero : MethodName := ⟨"TileForge$BitWriter", "writeOnesAndZero", "(I)V"⟩
def ws_BitWriter_writeOnesAndZero : List Cond := .code y_BitWriter_writeOnesAndZero prog_2_method_4_code 2 none :: GW
theorem mw_118 : (.code ⟨"TileForge$BitWriter", "writeOnesAndZero", "(I)V"⟩ prog_2_method_4_code 2 none : Cond) ∈ GW := List.mem_filter.mpr ⟨(List.mem_append_right _ (List.mem_append_right _ (List.mem_append_left _ (List.mem_of_getElem? (i := 231) rfl)))), rfl⟩
theorem hd_BitWriter_writeOnesAndZero : y_BitWriter_writeOnesAndZero.cls ≠ "java/lang/invoke/MethodHandle" ∧ y_BitWriter_writeOnesAndZero.cls ≠ "java/lang/invoke/VarHandle" ∧ (parseMethodDescriptor y_BitWriter_writeOnesAndZero.desc).map (fun d => d.parameters.length) = some 1 := by decide +kernel
theorem d_BitWriter_writeOnesAndZero_0 : decode prog_2_method_4_code 0 = .ok (.aload_n 0, 1) := by decide +kernel
theorem d_BitWriter_writeOnesAndZero_1 : decode prog_2_method_4_code 1 = .ok (.iconst 2, 1) := by decide +kernel
theorem d_BitWriter_writeOnesAndZero_2 : decode prog_2_method_4_code 2 = .ok (.iload_n 1, 1) := by decide +kernel
theorem d_BitWriter_writeOnesAndZero_3 : decode prog_2_method_4_code 3 = .ok (.ishl, 1) := by decide +kernel
theorem d_BitWriter_writeOnesAndZero_4 : decode prog_2_method_4_code 4 = .ok (.iconst 2, 1) := by decide +kernel
theorem d_BitWriter_writeOnesAndZero_5 : decode prog_2_method_4_code 5 = .ok (.isub, 1) := by decide +kernel
theorem d_BitWriter_writeOnesAndZero_6 : decode prog_2_method_4_code 6 = .ok (.iload_n 1, 1) := by decide +kernel
theorem d_BitWriter_writeOnesAndZero_7 : decode prog_2_method_4_code 7 = .ok (.iconst 1, 1) := by decide +kernel
theorem d_BitWriter_writeOnesAndZero_8 : decode prog_2_method_4_code 8 = .ok (.iadd, 1) := by decide +kernel
theorem d_BitWriter_writeOnesAndZero_9 : decode prog_2_method_4_code 9 = .ok (.invokevirtual 19, 3) := by decide +kernel
theorem d_BitWriter_writeOnesAndZero_12 : decode prog_2_method_4_code 12 = .ok (.return_, 1) := by decide +kernel
theorem mw_119 : (.initialized "TileForge$BitWriter" : Cond) ∈ GW := List.mem_filter.mpr ⟨(List.mem_append_right _ (List.mem_append_left _ (List.mem_of_getElem? (i := 5) rfl))), rfl⟩
theorem mw_120 : (.methodLink "TileForge$BitWriter" 19 ⟨"TileForge$BitWriter", "write", "(II)V"⟩ : Cond) ∈ GW := List.mem_filter.mpr ⟨(List.mem_append_right _ (List.mem_append_right _ (List.mem_append_left _ (List.mem_of_getElem? (i := 232) rfl)))), rfl⟩
theorem mw_121 : (.instanceMethod ⟨"TileForge$BitWriter", "write", "(II)V"⟩ : Cond) ∈ GW := List.mem_filter.mpr ⟨(List.mem_append_right _ (List.mem_append_right _ (List.mem_append_left _ (List.mem_of_getElem? (i := 166) rfl)))), rfl⟩
theorem mw_122 : (.selects "TileForge$BitWriter" ⟨"TileForge$BitWriter", "write", "(II)V"⟩ ⟨"TileForge$BitWriter", "write", "(II)V"⟩ : Cond) ∈ GW := List.mem_filter.mpr ⟨(List.mem_append_right _ (List.mem_append_right _ (List.mem_append_left _ (List.mem_of_getElem? (i := 167) rfl)))), rfl⟩
def q_bw_ones (cI : ClassId) (x1 : Nat) (x2 : Nat) (bt : Nat → Int32) (nb : Nat) (o : Nat) : va_W → Prop := fun ww => ww = [(x1, .inr (0, [.ref x2, .int (nI (nb + (o + 1)))])), (x2, .inl (cI, 400, .inl (wrF ((2 <<< (nI o &&& 31)) - 2) (o + 1) bt nb)))]
set_option maxHeartbeats 4000000 in
set_option maxRecDepth 100000 in
theorem c_bw_ones (l : Launch) {D : va_G} {tys : List (ClassId × FieldType)} {cI : ClassId} (hcI : tys[0]? = some (cI, .int)) (x1 : Nat) (x2 : Nat) (bt : Nat → Int32) (nb : Nat) (o : Nat) (hnb : nb + (o + 1) < 1073741824) : CsV l D vwCl tys y_BitWriter_writeOnesAndZero ws_BitWriter_writeOnesAndZero ({ frames := 1, cells := 0, slots := 0, locals := 24 } : Room) [.ref x1, .int (nI o)] [(x1, .inr (0, [.ref x2, .int (nI nb)])), (x2, .inl (cI, 400, .inl bt))] (q_bw_ones cI x1 x2 bt nb o) 0 0 := by
  intro sz
  refine Met.ofW (cc := prog_2_method_4_code) (maxL := 2) (ret := none) (by decide) rfl ?_
  intro p e s m args below meth c s₁ B hml hv
  obtain ⟨rfl, hsz, hP, hK, hD0, hN⟩ := hv
  have hx := B.exec
  have hb := B.bytes
  have hr := B.returns
  have hts := atoms_spec (ws := ws_BitWriter_writeOnesAndZero) B.pre
  have hown : s.vm.findClass "TileForge$BitWriter" = some m.cls := findClass_of_methodNamed B.named
  have hlocks := B.notSynchronized
  subst hsz
  have hD := hD0.self (sz := s.heap.size)
  generalize hAe : va_A [(x1, .inr (0, [.ref x2, .int (nI nb)])), (x2, .inl (cI, 400, .inl bt))] s.heap.size = A at hD ⊢
  have hA : ∀ q : Nat, s.heap.size ≤ q → A q := fun q h => by rw [← hAe]; exact Or.inr h
  have hS : va_S A s.heap s.heap [] := va_S.rf
  have hP : va_P D vwCl [(x1, .inr (0, [.ref x2, .int (nI nb)])), (x2, .inl (cI, 400, .inl bt))] s.heap := hP
  have hl := lv_entry ([.ref x1, .int (nI o)]) (n := 2) (Nat.le_of_ble_eq_true rfl)
  rw [lg_entry_eq]
  generalize (lg_sl ([.ref x1, .int (nI o)]) ++ List.replicate (2 - (lg_sl ([.ref x1, .int (nI o)])).length) Slot.unset).toArray = ls at hl ⊢
  have hl : lv_has ls 2 [(0, .ref x1), (1, .int (nI o))] := hl
  refine lv_aload_n hx hb d_BitWriter_writeOnesAndZero_0 rfl (lv_at hl 0 rfl) ?_
  refine lv_iconst (v := 2) hx hb d_BitWriter_writeOnesAndZero_1 (by decide) ?_
  refine lv_iload_n hx hb d_BitWriter_writeOnesAndZero_2 rfl (lv_at hl 1 rfl) ?_
  refine lv_ishl hx hb d_BitWriter_writeOnesAndZero_3 ?_
  refine lv_iconst (v := 2) hx hb d_BitWriter_writeOnesAndZero_4 (by decide) ?_
  refine lv_isub hx hb d_BitWriter_writeOnesAndZero_5 ?_
  refine lv_iload_n hx hb d_BitWriter_writeOnesAndZero_6 rfl (lv_at hl 1 rfl) ?_
  refine lv_iconst (v := 1) hx hb d_BitWriter_writeOnesAndZero_7 (by decide) ?_
  refine lv_iadd hx hb d_BitWriter_writeOnesAndZero_8 ?_
  refine cs_top (y := nI (o + 1)) (nI_1 o) ?_
  refine cs_Vv (As := [.int ((2 <<< ((nI o) &&& 31)) - 2), .int (nI (o + 1))]) (rest := []) (wr := []) ⟨hx, hb, hml, hown, hts⟩ (c_bw_write l hcI x1 x2 bt nb ((2 <<< ((nI o) &&& 31)) - 2) (o + 1) (hnb)) (cwV 2 hts (cs_gV mw_120 mw_121 mw_122 mw_119 mw_117) rfl rfl rfl ⟨rfl, hd_BitWriter_write⟩ ⟨Nat.le_of_ble_eq_true rfl, Nat.le_of_ble_eq_true rfl⟩) hN hK hP hD hS hA [0, 1] [] rfl rfl rfl rfl (by decide) (ci := 0) rfl rfl rfl rfl rfl hl.1 (Nat.le_of_ble_eq_true rfl) d_BitWriter_writeOnesAndZero_9 ⟨Nat.le_of_ble_eq_true rfl, Nat.le_of_ble_eq_true rfl⟩ (fun w1 H locs hw hP hD hS => ?_)
  obtain rfl := hw
  have hP : va_P D vwCl [(x1, .inr (0, [.ref x2, .int (nI (nb + (o + 1)))])), (x2, .inl (cI, 400, .inl (wrF ((2 <<< ((nI o) &&& 31)) - 2) (o + 1) bt nb)))] H := hP
  have hD : va_D A [(x1, .inr (0, [.ref x2, .int (nI (nb + (o + 1)))])), (x2, .inl (cI, 400, .inl (wrF ((2 <<< ((nI o) &&& 31)) - 2) (o + 1) bt nb)))] := hD
  exact W.vret hx hb hr (fun t ht hW => ⟨⟨[(x1, .inr (0, [.ref x2, .int (nI (nb + (o + 1)))])), (x2, .inl (cI, 400, .inl (wrF ((2 <<< ((nI o) &&& 31)) - 2) (o + 1) bt nb)))], rfl, (show _ = _ from (rfl)), by rw [ht]; exact hP, va_K.moved hW.alike hK, hD⟩, hS.F ht⟩) hS.2.2 d_BitWriter_writeOnesAndZero_12
def y_BitWriter_bytesNeeded : MethodName := ⟨"TileForge$BitWriter", "bytesNeeded", "()I"⟩
def ws_BitWriter_bytesNeeded : List Cond := .code y_BitWriter_bytesNeeded prog_2_method_5_code 1 (some .int) :: GW
theorem mw_123 : (.code ⟨"TileForge$BitWriter", "bytesNeeded", "()I"⟩ prog_2_method_5_code 1 (some .int) : Cond) ∈ GW := List.mem_filter.mpr ⟨(List.mem_append_right _ (List.mem_append_right _ (List.mem_append_right _ (List.mem_append_left _ (List.mem_of_getElem? (i := 13) rfl))))), rfl⟩
theorem hd_BitWriter_bytesNeeded : y_BitWriter_bytesNeeded.cls ≠ "java/lang/invoke/MethodHandle" ∧ y_BitWriter_bytesNeeded.cls ≠ "java/lang/invoke/VarHandle" ∧ (parseMethodDescriptor y_BitWriter_bytesNeeded.desc).map (fun d => d.parameters.length) = some 0 := by decide +kernel
theorem d_BitWriter_bytesNeeded_0 : decode prog_2_method_5_code 0 = .ok (.aload_n 0, 1) := by decide +kernel
theorem d_BitWriter_bytesNeeded_1 : decode prog_2_method_5_code 1 = .ok (.getfield 15, 3) := by decide +kernel
theorem d_BitWriter_bytesNeeded_4 : decode prog_2_method_5_code 4 = .ok (.bipush 8, 2) := by decide +kernel
theorem d_BitWriter_bytesNeeded_6 : decode prog_2_method_5_code 6 = .ok (.iadd, 1) := by decide +kernel
theorem d_BitWriter_bytesNeeded_7 : decode prog_2_method_5_code 7 = .ok (.iconst 1, 1) := by decide +kernel
theorem d_BitWriter_bytesNeeded_8 : decode prog_2_method_5_code 8 = .ok (.isub, 1) := by decide +kernel
theorem d_BitWriter_bytesNeeded_9 : decode prog_2_method_5_code 9 = .ok (.bipush 8, 2) := by decide +kernel
theorem d_BitWriter_bytesNeeded_11 : decode prog_2_method_5_code 11 = .ok (.idiv, 1) := by decide +kernel
theorem d_BitWriter_bytesNeeded_12 : decode prog_2_method_5_code 12 = .ok (.ireturn, 1) := by decide +kernel
def q_bw_need (cI : ClassId) (x1 : Nat) (x2 : Nat) (bt : Nat → Int32) (nb : Nat) : Int32 → va_W → Prop := fun rr ww => rr = (nI ((nb + 7) / 8)) ∧ ww = [(x1, .inr (0, [.ref x2, .int (nI nb)])), (x2, .inl (cI, 400, .inl bt))]
set_option maxHeartbeats 4000000 in
set_option maxRecDepth 100000 in
theorem c_bw_need (l : Launch) {D : va_G} {tys : List (ClassId × FieldType)} {cI : ClassId} (hcI : tys[0]? = some (cI, .int)) (x1 : Nat) (x2 : Nat) (bt : Nat → Int32) (nb : Nat) (hnb : nb < 1073741824) : CsI l D vwCl tys y_BitWriter_bytesNeeded ws_BitWriter_bytesNeeded ({ frames := 0, cells := 0, slots := 0, locals := 0 } : Room) [.ref x1] [(x1, .inr (0, [.ref x2, .int (nI nb)])), (x2, .inl (cI, 400, .inl bt))] (q_bw_need cI x1 x2 bt nb) 0 0 := by
  intro sz
  refine Met.ofW (cc := prog_2_method_5_code) (maxL := 1) (ret := (some .int)) (by decide) rfl ?_
  intro p e s m args below meth c s₁ B hml hv
  obtain ⟨rfl, hsz, hP, hK, hD0, hN⟩ := hv
  have hx := B.exec
  have hb := B.bytes
  have hr := B.returns
  have hts := atoms_spec (ws := ws_BitWriter_bytesNeeded) B.pre
  have hown : s.vm.findClass "TileForge$BitWriter" = some m.cls := findClass_of_methodNamed B.named
  have hlocks := B.notSynchronized
  subst hsz
  have hD := hD0.self (sz := s.heap.size)
  generalize hAe : va_A [(x1, .inr (0, [.ref x2, .int (nI nb)])), (x2, .inl (cI, 400, .inl bt))] s.heap.size = A at hD ⊢
  have hA : ∀ q : Nat, s.heap.size ≤ q → A q := fun q h => by rw [← hAe]; exact Or.inr h
  have hS : va_S A s.heap s.heap [] := va_S.rf
  have hP : va_P D vwCl [(x1, .inr (0, [.ref x2, .int (nI nb)])), (x2, .inl (cI, 400, .inl bt))] s.heap := hP
  have hl := lv_entry ([.ref x1]) (n := 1) (Nat.le_of_ble_eq_true rfl)
  rw [lg_entry_eq]
  generalize (lg_sl ([.ref x1]) ++ List.replicate (1 - (lg_sl ([.ref x1])).length) Slot.unset).toArray = ls at hl ⊢
  have hl : lv_has ls 1 [(0, .ref x1)] := hl
  refine lv_aload_n hx hb d_BitWriter_bytesNeeded_0 rfl (lv_at hl 0 rfl) ?_
  refine va_get (D := D) (ci := 0) (v := .int (nI nb)) (C := "TileForge$BitWriter") (T := T_BitWriter) (N := 2) hx hb hts (cs_in in_BitWriter) hown hK hP 0 rfl rfl 1 (by decide) (hts _ (cs_m mw_116)) (fun _ h9 => h9) rfl d_BitWriter_bytesNeeded_1 ?_
  refine lv_bipush (v := 8) hx hb d_BitWriter_bytesNeeded_4 (by decide) ?_
  refine lv_iadd hx hb d_BitWriter_bytesNeeded_6 ?_
  refine lv_iconst (v := 1) hx hb d_BitWriter_bytesNeeded_7 (by decide) ?_
  refine lv_isub hx hb d_BitWriter_bytesNeeded_8 ?_
  refine lv_bipush (v := 8) hx hb d_BitWriter_bytesNeeded_9 (by decide) ?_
  refine lv_idiv hx hb d_BitWriter_bytesNeeded_11 (by decide) ?_
  refine cs_top (y := nI ((nb + 7) / 8)) (cs_need hnb) ?_
  exact W.iret (v := (nI ((nb + 7) / 8))) hx hb hr (fun t ht hW => ⟨⟨(nI ((nb + 7) / 8)), [(x1, .inr (0, [.ref x2, .int (nI nb)])), (x2, .inl (cI, 400, .inl bt))], rfl, ⟨(rfl), (rfl)⟩, by rw [ht]; exact hP, va_K.moved hW.alike hK, hD⟩, hS.F ht⟩) hS.2.2 d_BitWriter_bytesNeeded_12
