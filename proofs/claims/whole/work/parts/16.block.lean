def y_Block_init : MethodName := ⟨"TileForge$Block", "<init>", "()V"⟩
def ws_Block_init : List Cond := .code y_Block_init prog_3_method_1_code 1 none :: GW
theorem mw_183 : (.code ⟨"TileForge$Block", "<init>", "()V"⟩ prog_3_method_1_code 1 none : Cond) ∈ GW := List.mem_filter.mpr ⟨(List.mem_append_right _ (List.mem_append_left _ (List.mem_of_getElem? (i := 114) rfl))), rfl⟩
theorem hd_Block_init : y_Block_init.cls ≠ "java/lang/invoke/MethodHandle" ∧ y_Block_init.cls ≠ "java/lang/invoke/VarHandle" ∧ (parseMethodDescriptor y_Block_init.desc).map (fun d => d.parameters.length) = some 0 := by decide +kernel
theorem d_Block_init_0 : decode prog_3_method_1_code 0 = .ok (.aload_n 0, 1) := by decide +kernel
theorem d_Block_init_1 : decode prog_3_method_1_code 1 = .ok (.invokespecial 3, 3) := by decide +kernel
theorem d_Block_init_4 : decode prog_3_method_1_code 4 = .ok (.aload_n 0, 1) := by decide +kernel
theorem d_Block_init_5 : decode prog_3_method_1_code 5 = .ok (.iconst 4, 1) := by decide +kernel
theorem d_Block_init_6 : decode prog_3_method_1_code 6 = .ok (.newarray .int, 2) := by decide +kernel
theorem d_Block_init_8 : decode prog_3_method_1_code 8 = .ok (.putfield 9, 3) := by decide +kernel
theorem d_Block_init_11 : decode prog_3_method_1_code 11 = .ok (.aload_n 0, 1) := by decide +kernel
theorem d_Block_init_12 : decode prog_3_method_1_code 12 = .ok (.iconst 4, 1) := by decide +kernel
theorem d_Block_init_13 : decode prog_3_method_1_code 13 = .ok (.newarray .int, 2) := by decide +kernel
theorem d_Block_init_15 : decode prog_3_method_1_code 15 = .ok (.putfield 15, 3) := by decide +kernel
theorem d_Block_init_18 : decode prog_3_method_1_code 18 = .ok (.aload_n 0, 1) := by decide +kernel
theorem d_Block_init_19 : decode prog_3_method_1_code 19 = .ok (.bipush 16, 2) := by decide +kernel
theorem d_Block_init_21 : decode prog_3_method_1_code 21 = .ok (.newarray .int, 2) := by decide +kernel
theorem d_Block_init_23 : decode prog_3_method_1_code 23 = .ok (.putfield 18, 3) := by decide +kernel
theorem d_Block_init_26 : decode prog_3_method_1_code 26 = .ok (.aload_n 0, 1) := by decide +kernel
theorem d_Block_init_27 : decode prog_3_method_1_code 27 = .ok (.bipush 16, 2) := by decide +kernel
theorem d_Block_init_29 : decode prog_3_method_1_code 29 = .ok (.newarray .int, 2) := by decide +kernel
theorem d_Block_init_31 : decode prog_3_method_1_code 31 = .ok (.putfield 21, 3) := by decide +kernel
theorem d_Block_init_34 : decode prog_3_method_1_code 34 = .ok (.aload_n 0, 1) := by decide +kernel
theorem d_Block_init_35 : decode prog_3_method_1_code 35 = .ok (.bipush 16, 2) := by decide +kernel
theorem d_Block_init_37 : decode prog_3_method_1_code 37 = .ok (.newarray .int, 2) := by decide +kernel
theorem d_Block_init_39 : decode prog_3_method_1_code 39 = .ok (.putfield 24, 3) := by decide +kernel
theorem d_Block_init_42 : decode prog_3_method_1_code 42 = .ok (.return_, 1) := by decide +kernel
theorem mw_184 : (.methodLink "TileForge$Block" 3 objectInit : Cond) ∈ GW := List.mem_filter.mpr ⟨(List.mem_append_right _ (List.mem_append_left _ (List.mem_of_getElem? (i := 115) rfl))), rfl⟩
theorem mw_185 : (.fieldLink "TileForge$Block" 9 "TileForge$Block" "above" "[I" : Cond) ∈ GW := List.mem_filter.mpr ⟨(List.mem_append_right _ (List.mem_append_left _ (List.mem_of_getElem? (i := 116) rfl))), rfl⟩
theorem mw_186 : (.fieldLink "TileForge$Block" 15 "TileForge$Block" "left" "[I" : Cond) ∈ GW := List.mem_filter.mpr ⟨(List.mem_append_right _ (List.mem_append_left _ (List.mem_of_getElem? (i := 117) rfl))), rfl⟩
theorem mw_187 : (.fieldLink "TileForge$Block" 18 "TileForge$Block" "foretold" "[I" : Cond) ∈ GW := List.mem_filter.mpr ⟨(List.mem_append_right _ (List.mem_append_left _ (List.mem_of_getElem? (i := 118) rfl))), rfl⟩
theorem mw_188 : (.fieldLink "TileForge$Block" 21 "TileForge$Block" "levels" "[I" : Cond) ∈ GW := List.mem_filter.mpr ⟨(List.mem_append_right _ (List.mem_append_left _ (List.mem_of_getElem? (i := 119) rfl))), rfl⟩
theorem mw_189 : (.fieldLink "TileForge$Block" 24 "TileForge$Block" "work" "[I" : Cond) ∈ GW := List.mem_filter.mpr ⟨(List.mem_append_right _ (List.mem_append_left _ (List.mem_of_getElem? (i := 122) rfl))), rfl⟩
def q_bl_init (cI : ClassId) (b1 : Nat) : va_W → Prop := fun ww => ∃ (b2 : Nat) (b3 : Nat) (b4 : Nat) (b5 : Nat) (b6 : Nat), ww = [(b1, .inr (1, [.ref b2, .ref b3, .ref b4, .ref b5, .ref b6, .int 0, .int 0, .int 0])), (b2, .inl (cI, 4, .inl (fun _ => 0))), (b3, .inl (cI, 4, .inl (fun _ => 0))), (b4, .inl (cI, 16, .inl (fun _ => 0))), (b5, .inl (cI, 16, .inl (fun _ => 0))), (b6, .inl (cI, 16, .inl (fun _ => 0)))]
set_option maxHeartbeats 4000000 in
set_option maxRecDepth 100000 in
theorem c_bl_init (l : Launch) {D : va_G} {tys : List (ClassId × FieldType)} {cI : ClassId} (hcI : tys[0]? = some (cI, .int)) (b1 : Nat) : CsV l D vwCl tys y_Block_init ws_Block_init ({ frames := 1, cells := 5, slots := 56, locals := 12 } : Room) [.ref b1] [(b1, .inr (1, [.null, .null, .null, .null, .null, .int 0, .int 0, .int 0]))] (q_bl_init cI b1) 5 56 := by
  intro sz
  refine Met.ofW (cc := prog_3_method_1_code) (maxL := 1) (ret := none) (by decide) rfl ?_
  intro p e s m args below meth c s₁ B hml hv
  obtain ⟨rfl, hsz, hP, hK, hD0, hN⟩ := hv
  have hx := B.exec
  have hb := B.bytes
  have hr := B.returns
  have hts := atoms_spec (ws := ws_Block_init) B.pre
  have hown : s.vm.findClass "TileForge$Block" = some m.cls := findClass_of_methodNamed B.named
  have hlocks := B.notSynchronized
  have hin : meth.name = "<init>" := (name_of_methodNamed B.named B.method).1
  subst hsz
  have hD := hD0.self (sz := s.heap.size)
  generalize hAe : va_A [(b1, .inr (1, [.null, .null, .null, .null, .null, .int 0, .int 0, .int 0]))] s.heap.size = A at hD ⊢
  have hA : ∀ q : Nat, s.heap.size ≤ q → A q := fun q h => by rw [← hAe]; exact Or.inr h
  have hS : va_S A s.heap s.heap [] := va_S.rf
  have hP : va_P D vwCl [(b1, .inr (1, [.null, .null, .null, .null, .null, .int 0, .int 0, .int 0]))] s.heap := hP
  have hl := lv_entry ([.ref b1]) (n := 1) (Nat.le_of_ble_eq_true rfl)
  rw [lg_entry_eq]
  generalize (lg_sl ([.ref b1]) ++ List.replicate (1 - (lg_sl ([.ref b1])).length) Slot.unset).toArray = ls at hl ⊢
  have hl : lv_has ls 1 [(0, .ref b1)] := hl
  refine lv_aload_n hx hb d_Block_init_0 rfl (lv_at hl 0 rfl) ?_
  refine W.objInit hx hb hown (hts _ (cs_m mw_184)) (hts _ (cs_m mw_81)) (hts _ (cs_m mw_82)) rfl (by rw [hml]; exact hl.1) rfl d_Block_init_1 (Nat.le_of_ble_eq_true rfl) (Nat.le_of_ble_eq_true rfl) ?_
  refine W.eq (g2 := F0 m 4 ls []) rfl ?_
  refine lv_aload_n hx hb d_Block_init_4 rfl (lv_at hl 0 rfl) ?_
  refine lv_iconst (v := 4) hx hb d_Block_init_5 (by decide) ?_
  refine cs_newi (N := 4) hx hb (hts _ (cs_m mw_83)) hK hcI hP hD hS hA (by decide) rfl (by decide) (Nat.le_of_ble_eq_true rfl) (Nat.le_of_ble_eq_true rfl) d_Block_init_6 (fun q1 H hP hD hS => ?_)
  have hP : va_P D vwCl [(b1, .inr (1, [.null, .null, .null, .null, .null, .int 0, .int 0, .int 0])), (q1, .inl (cI, 4, .inl (fun _ => 0)))] H := hP
  have hD : va_D A [(b1, .inr (1, [.null, .null, .null, .null, .null, .int 0, .int 0, .int 0])), (q1, .inl (cI, 4, .inl (fun _ => 0)))] := hD
  refine va_putF (D := D) (ci := 1) (v := .ref q1) (ty := .array .int) (C := "TileForge$Block") (T := T_Block) (N := 8) hx hb hts (cs_in in_Block) ty_Block tok_Block nm_Block hown hK hP hD hS 0 rfl rfl 0 (by decide) (hts _ (cs_m mw_185)) (fun _ h9 => h9) rfl hin rfl (by decide +kernel) rfl rfl (Nat.le_of_ble_eq_true rfl) d_Block_init_8 (fun H locs hP hD hS => ?_)
  have hP : va_P D vwCl [(b1, .inr (1, [.ref q1, .null, .null, .null, .null, .int 0, .int 0, .int 0])), (q1, .inl (cI, 4, .inl (fun _ => 0)))] H := hP
  have hD : va_D A [(b1, .inr (1, [.ref q1, .null, .null, .null, .null, .int 0, .int 0, .int 0])), (q1, .inl (cI, 4, .inl (fun _ => 0)))] := hD
  refine lv_aload_n hx hb d_Block_init_11 rfl (lv_at hl 0 rfl) ?_
  refine lv_iconst (v := 4) hx hb d_Block_init_12 (by decide) ?_
  refine cs_newi (N := 4) hx hb (hts _ (cs_m mw_83)) hK hcI hP hD hS hA (by decide) rfl (by decide) (Nat.le_of_ble_eq_true rfl) (Nat.le_of_ble_eq_true rfl) d_Block_init_13 (fun q2 H hP hD hS => ?_)
  have hP : va_P D vwCl [(b1, .inr (1, [.ref q1, .null, .null, .null, .null, .int 0, .int 0, .int 0])), (q1, .inl (cI, 4, .inl (fun _ => 0))), (q2, .inl (cI, 4, .inl (fun _ => 0)))] H := hP
  have hD : va_D A [(b1, .inr (1, [.ref q1, .null, .null, .null, .null, .int 0, .int 0, .int 0])), (q1, .inl (cI, 4, .inl (fun _ => 0))), (q2, .inl (cI, 4, .inl (fun _ => 0)))] := hD
  refine va_putF (D := D) (ci := 1) (v := .ref q2) (ty := .array .int) (C := "TileForge$Block") (T := T_Block) (N := 8) hx hb hts (cs_in in_Block) ty_Block tok_Block nm_Block hown hK hP hD hS 0 rfl rfl 1 (by decide) (hts _ (cs_m mw_186)) (fun _ h9 => h9) rfl hin rfl (by decide +kernel) rfl rfl (Nat.le_of_ble_eq_true rfl) d_Block_init_15 (fun H locs hP hD hS => ?_)
  have hP : va_P D vwCl [(b1, .inr (1, [.ref q1, .ref q2, .null, .null, .null, .int 0, .int 0, .int 0])), (q1, .inl (cI, 4, .inl (fun _ => 0))), (q2, .inl (cI, 4, .inl (fun _ => 0)))] H := hP
  have hD : va_D A [(b1, .inr (1, [.ref q1, .ref q2, .null, .null, .null, .int 0, .int 0, .int 0])), (q1, .inl (cI, 4, .inl (fun _ => 0))), (q2, .inl (cI, 4, .inl (fun _ => 0)))] := hD
  refine lv_aload_n hx hb d_Block_init_18 rfl (lv_at hl 0 rfl) ?_
  refine lv_bipush (v := 16) hx hb d_Block_init_19 (by decide) ?_
  refine cs_newi (N := 16) hx hb (hts _ (cs_m mw_83)) hK hcI hP hD hS hA (by decide) rfl (by decide) (Nat.le_of_ble_eq_true rfl) (Nat.le_of_ble_eq_true rfl) d_Block_init_21 (fun q3 H hP hD hS => ?_)
  have hP : va_P D vwCl [(b1, .inr (1, [.ref q1, .ref q2, .null, .null, .null, .int 0, .int 0, .int 0])), (q1, .inl (cI, 4, .inl (fun _ => 0))), (q2, .inl (cI, 4, .inl (fun _ => 0))), (q3, .inl (cI, 16, .inl (fun _ => 0)))] H := hP
  have hD : va_D A [(b1, .inr (1, [.ref q1, .ref q2, .null, .null, .null, .int 0, .int 0, .int 0])), (q1, .inl (cI, 4, .inl (fun _ => 0))), (q2, .inl (cI, 4, .inl (fun _ => 0))), (q3, .inl (cI, 16, .inl (fun _ => 0)))] := hD
  refine va_putF (D := D) (ci := 1) (v := .ref q3) (ty := .array .int) (C := "TileForge$Block") (T := T_Block) (N := 8) hx hb hts (cs_in in_Block) ty_Block tok_Block nm_Block hown hK hP hD hS 0 rfl rfl 2 (by decide) (hts _ (cs_m mw_187)) (fun _ h9 => h9) rfl hin rfl (by decide +kernel) rfl rfl (Nat.le_of_ble_eq_true rfl) d_Block_init_23 (fun H locs hP hD hS => ?_)
  have hP : va_P D vwCl [(b1, .inr (1, [.ref q1, .ref q2, .ref q3, .null, .null, .int 0, .int 0, .int 0])), (q1, .inl (cI, 4, .inl (fun _ => 0))), (q2, .inl (cI, 4, .inl (fun _ => 0))), (q3, .inl (cI, 16, .inl (fun _ => 0)))] H := hP
  have hD : va_D A [(b1, .inr (1, [.ref q1, .ref q2, .ref q3, .null, .null, .int 0, .int 0, .int 0])), (q1, .inl (cI, 4, .inl (fun _ => 0))), (q2, .inl (cI, 4, .inl (fun _ => 0))), (q3, .inl (cI, 16, .inl (fun _ => 0)))] := hD
  refine lv_aload_n hx hb d_Block_init_26 rfl (lv_at hl 0 rfl) ?_
  refine lv_bipush (v := 16) hx hb d_Block_init_27 (by decide) ?_
  refine cs_newi (N := 16) hx hb (hts _ (cs_m mw_83)) hK hcI hP hD hS hA (by decide) rfl (by decide) (Nat.le_of_ble_eq_true rfl) (Nat.le_of_ble_eq_true rfl) d_Block_init_29 (fun q4 H hP hD hS => ?_)
  have hP : va_P D vwCl [(b1, .inr (1, [.ref q1, .ref q2, .ref q3, .null, .null, .int 0, .int 0, .int 0])), (q1, .inl (cI, 4, .inl (fun _ => 0))), (q2, .inl (cI, 4, .inl (fun _ => 0))), (q3, .inl (cI, 16, .inl (fun _ => 0))), (q4, .inl (cI, 16, .inl (fun _ => 0)))] H := hP
  have hD : va_D A [(b1, .inr (1, [.ref q1, .ref q2, .ref q3, .null, .null, .int 0, .int 0, .int 0])), (q1, .inl (cI, 4, .inl (fun _ => 0))), (q2, .inl (cI, 4, .inl (fun _ => 0))), (q3, .inl (cI, 16, .inl (fun _ => 0))), (q4, .inl (cI, 16, .inl (fun _ => 0)))] := hD
  refine va_putF (D := D) (ci := 1) (v := .ref q4) (ty := .array .int) (C := "TileForge$Block") (T := T_Block) (N := 8) hx hb hts (cs_in in_Block) ty_Block tok_Block nm_Block hown hK hP hD hS 0 rfl rfl 3 (by decide) (hts _ (cs_m mw_188)) (fun _ h9 => h9) rfl hin rfl (by decide +kernel) rfl rfl (Nat.le_of_ble_eq_true rfl) d_Block_init_31 (fun H locs hP hD hS => ?_)
  have hP : va_P D vwCl [(b1, .inr (1, [.ref q1, .ref q2, .ref q3, .ref q4, .null, .int 0, .int 0, .int 0])), (q1, .inl (cI, 4, .inl (fun _ => 0))), (q2, .inl (cI, 4, .inl (fun _ => 0))), (q3, .inl (cI, 16, .inl (fun _ => 0))), (q4, .inl (cI, 16, .inl (fun _ => 0)))] H := hP
  have hD : va_D A [(b1, .inr (1, [.ref q1, .ref q2, .ref q3, .ref q4, .null, .int 0, .int 0, .int 0])), (q1, .inl (cI, 4, .inl (fun _ => 0))), (q2, .inl (cI, 4, .inl (fun _ => 0))), (q3, .inl (cI, 16, .inl (fun _ => 0))), (q4, .inl (cI, 16, .inl (fun _ => 0)))] := hD
  refine lv_aload_n hx hb d_Block_init_34 rfl (lv_at hl 0 rfl) ?_
  refine lv_bipush (v := 16) hx hb d_Block_init_35 (by decide) ?_
  refine cs_newi (N := 16) hx hb (hts _ (cs_m mw_83)) hK hcI hP hD hS hA (by decide) rfl (by decide) (Nat.le_of_ble_eq_true rfl) (Nat.le_of_ble_eq_true rfl) d_Block_init_37 (fun q5 H hP hD hS => ?_)
  have hP : va_P D vwCl [(b1, .inr (1, [.ref q1, .ref q2, .ref q3, .ref q4, .null, .int 0, .int 0, .int 0])), (q1, .inl (cI, 4, .inl (fun _ => 0))), (q2, .inl (cI, 4, .inl (fun _ => 0))), (q3, .inl (cI, 16, .inl (fun _ => 0))), (q4, .inl (cI, 16, .inl (fun _ => 0))), (q5, .inl (cI, 16, .inl (fun _ => 0)))] H := hP
  have hD : va_D A [(b1, .inr (1, [.ref q1, .ref q2, .ref q3, .ref q4, .null, .int 0, .int 0, .int 0])), (q1, .inl (cI, 4, .inl (fun _ => 0))), (q2, .inl (cI, 4, .inl (fun _ => 0))), (q3, .inl (cI, 16, .inl (fun _ => 0))), (q4, .inl (cI, 16, .inl (fun _ => 0))), (q5, .inl (cI, 16, .inl (fun _ => 0)))] := hD
  refine va_putF (D := D) (ci := 1) (v := .ref q5) (ty := .array .int) (C := "TileForge$Block") (T := T_Block) (N := 8) hx hb hts (cs_in in_Block) ty_Block tok_Block nm_Block hown hK hP hD hS 0 rfl rfl 4 (by decide) (hts _ (cs_m mw_189)) (fun _ h9 => h9) rfl hin rfl (by decide +kernel) rfl rfl (Nat.le_of_ble_eq_true rfl) d_Block_init_39 (fun H locs hP hD hS => ?_)
  have hP : va_P D vwCl [(b1, .inr (1, [.ref q1, .ref q2, .ref q3, .ref q4, .ref q5, .int 0, .int 0, .int 0])), (q1, .inl (cI, 4, .inl (fun _ => 0))), (q2, .inl (cI, 4, .inl (fun _ => 0))), (q3, .inl (cI, 16, .inl (fun _ => 0))), (q4, .inl (cI, 16, .inl (fun _ => 0))), (q5, .inl (cI, 16, .inl (fun _ => 0)))] H := hP
  have hD : va_D A [(b1, .inr (1, [.ref q1, .ref q2, .ref q3, .ref q4, .ref q5, .int 0, .int 0, .int 0])), (q1, .inl (cI, 4, .inl (fun _ => 0))), (q2, .inl (cI, 4, .inl (fun _ => 0))), (q3, .inl (cI, 16, .inl (fun _ => 0))), (q4, .inl (cI, 16, .inl (fun _ => 0))), (q5, .inl (cI, 16, .inl (fun _ => 0)))] := hD
  refine W.widen (k := 5) (n := 56) (Nat.le_of_ble_eq_true rfl) (Nat.le_of_ble_eq_true rfl) ?_
  exact W.vret hx hb hr (fun t ht hW => ⟨⟨[(b1, .inr (1, [.ref q1, .ref q2, .ref q3, .ref q4, .ref q5, .int 0, .int 0, .int 0])), (q1, .inl (cI, 4, .inl (fun _ => 0))), (q2, .inl (cI, 4, .inl (fun _ => 0))), (q3, .inl (cI, 16, .inl (fun _ => 0))), (q4, .inl (cI, 16, .inl (fun _ => 0))), (q5, .inl (cI, 16, .inl (fun _ => 0)))], rfl, ⟨q1, q2, q3, q4, q5, (rfl)⟩, by rw [ht]; exact hP, va_K.moved hW.alike hK, hD⟩, hS.F ht⟩) hS.2.2 d_Block_init_42
def y_Block_lookAround : MethodName := ⟨"TileForge$Block", "lookAround", "(LTileForge$Picture;II)V"⟩
def ws_Block_lookAround : List Cond := .code y_Block_lookAround prog_3_method_2_code 5 none :: GW
theorem mw_190 : (.code ⟨"TileForge$Block", "lookAround", "(LTileForge$Picture;II)V"⟩ prog_3_method_2_code 5 none : Cond) ∈ GW := List.mem_filter.mpr ⟨(List.mem_append_right _ (List.mem_append_right _ (List.mem_append_left _ (List.mem_of_getElem? (i := 176) rfl)))), rfl⟩
theorem hd_Block_lookAround : y_Block_lookAround.cls ≠ "java/lang/invoke/MethodHandle" ∧ y_Block_lookAround.cls ≠ "java/lang/invoke/VarHandle" ∧ (parseMethodDescriptor y_Block_lookAround.desc).map (fun d => d.parameters.length) = some 3 := by decide +kernel
theorem d_Block_lookAround_0 : decode prog_3_method_2_code 0 = .ok (.aload_n 0, 1) := by decide +kernel
theorem d_Block_lookAround_1 : decode prog_3_method_2_code 1 = .ok (.iload_n 3, 1) := by decide +kernel
theorem d_Block_lookAround_2 : decode prog_3_method_2_code 2 = .ok (.ifCond .le 7, 3) := by decide +kernel
theorem d_Block_lookAround_5 : decode prog_3_method_2_code 5 = .ok (.iconst 1, 1) := by decide +kernel
theorem d_Block_lookAround_6 : decode prog_3_method_2_code 6 = .ok (.goto 4, 3) := by decide +kernel
theorem d_Block_lookAround_9 : decode prog_3_method_2_code 9 = .ok (.iconst 0, 1) := by decide +kernel
theorem d_Block_lookAround_10 : decode prog_3_method_2_code 10 = .ok (.putfield 27, 3) := by decide +kernel
theorem d_Block_lookAround_13 : decode prog_3_method_2_code 13 = .ok (.aload_n 0, 1) := by decide +kernel
theorem d_Block_lookAround_14 : decode prog_3_method_2_code 14 = .ok (.iload_n 2, 1) := by decide +kernel
theorem d_Block_lookAround_15 : decode prog_3_method_2_code 15 = .ok (.ifCond .le 7, 3) := by decide +kernel
theorem d_Block_lookAround_18 : decode prog_3_method_2_code 18 = .ok (.iconst 1, 1) := by decide +kernel
theorem d_Block_lookAround_19 : decode prog_3_method_2_code 19 = .ok (.goto 4, 3) := by decide +kernel
theorem d_Block_lookAround_22 : decode prog_3_method_2_code 22 = .ok (.iconst 0, 1) := by decide +kernel
theorem d_Block_lookAround_23 : decode prog_3_method_2_code 23 = .ok (.putfield 31, 3) := by decide +kernel
theorem d_Block_lookAround_26 : decode prog_3_method_2_code 26 = .ok (.iconst 0, 1) := by decide +kernel
theorem d_Block_lookAround_27 : decode prog_3_method_2_code 27 = .ok (.istore 4, 2) := by decide +kernel
theorem d_Block_lookAround_29 : decode prog_3_method_2_code 29 = .ok (.iload 4, 2) := by decide +kernel
theorem d_Block_lookAround_31 : decode prog_3_method_2_code 31 = .ok (.iconst 4, 1) := by decide +kernel
theorem d_Block_lookAround_32 : decode prog_3_method_2_code 32 = .ok (.if_icmp .ge 70, 3) := by decide +kernel
theorem d_Block_lookAround_35 : decode prog_3_method_2_code 35 = .ok (.aload_n 0, 1) := by decide +kernel
theorem d_Block_lookAround_36 : decode prog_3_method_2_code 36 = .ok (.getfield 9, 3) := by decide +kernel
theorem d_Block_lookAround_39 : decode prog_3_method_2_code 39 = .ok (.iload 4, 2) := by decide +kernel
theorem d_Block_lookAround_41 : decode prog_3_method_2_code 41 = .ok (.aload_n 0, 1) := by decide +kernel
theorem d_Block_lookAround_42 : decode prog_3_method_2_code 42 = .ok (.getfield 27, 3) := by decide +kernel
theorem d_Block_lookAround_45 : decode prog_3_method_2_code 45 = .ok (.ifCond .eq 17, 3) := by decide +kernel
theorem d_Block_lookAround_48 : decode prog_3_method_2_code 48 = .ok (.aload_n 1, 1) := by decide +kernel
theorem d_Block_lookAround_49 : decode prog_3_method_2_code 49 = .ok (.iload_n 2, 1) := by decide +kernel
theorem d_Block_lookAround_50 : decode prog_3_method_2_code 50 = .ok (.iload 4, 2) := by decide +kernel
theorem d_Block_lookAround_52 : decode prog_3_method_2_code 52 = .ok (.iadd, 1) := by decide +kernel
theorem d_Block_lookAround_53 : decode prog_3_method_2_code 53 = .ok (.iload_n 3, 1) := by decide +kernel
theorem d_Block_lookAround_54 : decode prog_3_method_2_code 54 = .ok (.iconst 1, 1) := by decide +kernel
theorem d_Block_lookAround_55 : decode prog_3_method_2_code 55 = .ok (.isub, 1) := by decide +kernel
theorem d_Block_lookAround_56 : decode prog_3_method_2_code 56 = .ok (.invokevirtual 34, 3) := by decide +kernel
theorem d_Block_lookAround_59 : decode prog_3_method_2_code 59 = .ok (.goto 5, 3) := by decide +kernel
theorem d_Block_lookAround_62 : decode prog_3_method_2_code 62 = .ok (.bipush 127, 2) := by decide +kernel
theorem d_Block_lookAround_64 : decode prog_3_method_2_code 64 = .ok (.iastore, 1) := by decide +kernel
theorem d_Block_lookAround_65 : decode prog_3_method_2_code 65 = .ok (.aload_n 0, 1) := by decide +kernel
theorem d_Block_lookAround_66 : decode prog_3_method_2_code 66 = .ok (.getfield 15, 3) := by decide +kernel
theorem d_Block_lookAround_69 : decode prog_3_method_2_code 69 = .ok (.iload 4, 2) := by decide +kernel
theorem d_Block_lookAround_71 : decode prog_3_method_2_code 71 = .ok (.aload_n 0, 1) := by decide +kernel
theorem d_Block_lookAround_72 : decode prog_3_method_2_code 72 = .ok (.getfield 31, 3) := by decide +kernel
theorem d_Block_lookAround_75 : decode prog_3_method_2_code 75 = .ok (.ifCond .eq 17, 3) := by decide +kernel
theorem d_Block_lookAround_78 : decode prog_3_method_2_code 78 = .ok (.aload_n 1, 1) := by decide +kernel
theorem d_Block_lookAround_79 : decode prog_3_method_2_code 79 = .ok (.iload_n 2, 1) := by decide +kernel
theorem d_Block_lookAround_80 : decode prog_3_method_2_code 80 = .ok (.iconst 1, 1) := by decide +kernel
theorem d_Block_lookAround_81 : decode prog_3_method_2_code 81 = .ok (.isub, 1) := by decide +kernel
theorem d_Block_lookAround_82 : decode prog_3_method_2_code 82 = .ok (.iload_n 3, 1) := by decide +kernel
theorem d_Block_lookAround_83 : decode prog_3_method_2_code 83 = .ok (.iload 4, 2) := by decide +kernel
theorem d_Block_lookAround_85 : decode prog_3_method_2_code 85 = .ok (.iadd, 1) := by decide +kernel
theorem d_Block_lookAround_86 : decode prog_3_method_2_code 86 = .ok (.invokevirtual 34, 3) := by decide +kernel
theorem d_Block_lookAround_89 : decode prog_3_method_2_code 89 = .ok (.goto 6, 3) := by decide +kernel
theorem d_Block_lookAround_92 : decode prog_3_method_2_code 92 = .ok (.sipush 129, 3) := by decide +kernel
theorem d_Block_lookAround_95 : decode prog_3_method_2_code 95 = .ok (.iastore, 1) := by decide +kernel
theorem d_Block_lookAround_96 : decode prog_3_method_2_code 96 = .ok (.iinc 4 1, 3) := by decide +kernel
theorem d_Block_lookAround_99 : decode prog_3_method_2_code 99 = .ok (.goto (-70), 3) := by decide +kernel
theorem d_Block_lookAround_102 : decode prog_3_method_2_code 102 = .ok (.aload_n 0, 1) := by decide +kernel
theorem d_Block_lookAround_103 : decode prog_3_method_2_code 103 = .ok (.bipush 127, 2) := by decide +kernel
theorem d_Block_lookAround_105 : decode prog_3_method_2_code 105 = .ok (.putfield 40, 3) := by decide +kernel
theorem d_Block_lookAround_108 : decode prog_3_method_2_code 108 = .ok (.aload_n 0, 1) := by decide +kernel
theorem d_Block_lookAround_109 : decode prog_3_method_2_code 109 = .ok (.getfield 27, 3) := by decide +kernel
theorem d_Block_lookAround_112 : decode prog_3_method_2_code 112 = .ok (.ifCond .eq 30, 3) := by decide +kernel
theorem d_Block_lookAround_115 : decode prog_3_method_2_code 115 = .ok (.aload_n 0, 1) := by decide +kernel
theorem d_Block_lookAround_116 : decode prog_3_method_2_code 116 = .ok (.aload_n 0, 1) := by decide +kernel
theorem d_Block_lookAround_117 : decode prog_3_method_2_code 117 = .ok (.getfield 31, 3) := by decide +kernel
theorem d_Block_lookAround_120 : decode prog_3_method_2_code 120 = .ok (.ifCond .eq 16, 3) := by decide +kernel
theorem d_Block_lookAround_123 : decode prog_3_method_2_code 123 = .ok (.aload_n 1, 1) := by decide +kernel
theorem d_Block_lookAround_124 : decode prog_3_method_2_code 124 = .ok (.iload_n 2, 1) := by decide +kernel
theorem d_Block_lookAround_125 : decode prog_3_method_2_code 125 = .ok (.iconst 1, 1) := by decide +kernel
theorem d_Block_lookAround_126 : decode prog_3_method_2_code 126 = .ok (.isub, 1) := by decide +kernel
theorem d_Block_lookAround_127 : decode prog_3_method_2_code 127 = .ok (.iload_n 3, 1) := by decide +kernel
theorem d_Block_lookAround_128 : decode prog_3_method_2_code 128 = .ok (.iconst 1, 1) := by decide +kernel
theorem d_Block_lookAround_129 : decode prog_3_method_2_code 129 = .ok (.isub, 1) := by decide +kernel
theorem d_Block_lookAround_130 : decode prog_3_method_2_code 130 = .ok (.invokevirtual 34, 3) := by decide +kernel
theorem d_Block_lookAround_133 : decode prog_3_method_2_code 133 = .ok (.goto 6, 3) := by decide +kernel
theorem d_Block_lookAround_136 : decode prog_3_method_2_code 136 = .ok (.sipush 129, 3) := by decide +kernel
theorem d_Block_lookAround_139 : decode prog_3_method_2_code 139 = .ok (.putfield 40, 3) := by decide +kernel
theorem d_Block_lookAround_142 : decode prog_3_method_2_code 142 = .ok (.return_, 1) := by decide +kernel
theorem mw_191 : (.fieldLink "TileForge$Block" 27 "TileForge$Block" "rowAbove" "Z" : Cond) ∈ GW := List.mem_filter.mpr ⟨(List.mem_append_right _ (List.mem_append_left _ (List.mem_of_getElem? (i := 123) rfl))), rfl⟩
theorem mw_192 : (.fieldLink "TileForge$Block" 31 "TileForge$Block" "columnBefore" "Z" : Cond) ∈ GW := List.mem_filter.mpr ⟨(List.mem_append_right _ (List.mem_append_left _ (List.mem_of_getElem? (i := 124) rfl))), rfl⟩
theorem mw_193 : (.fieldLink "TileForge$Block" 40 "TileForge$Block" "corner" "I" : Cond) ∈ GW := List.mem_filter.mpr ⟨(List.mem_append_right _ (List.mem_append_left _ (List.mem_of_getElem? (i := 125) rfl))), rfl⟩
theorem mw_194 : (.methodLink "TileForge$Block" 34 ⟨"TileForge$Picture", "look", "(II)I"⟩ : Cond) ∈ GW := List.mem_filter.mpr ⟨(List.mem_append_right _ (List.mem_append_right _ (List.mem_append_left _ (List.mem_of_getElem? (i := 177) rfl)))), rfl⟩
theorem mw_195 : (.instanceMethod ⟨"TileForge$Picture", "look", "(II)I"⟩ : Cond) ∈ GW := List.mem_filter.mpr ⟨(List.mem_append_right _ (List.mem_append_right _ (List.mem_append_left _ (List.mem_of_getElem? (i := 116) rfl)))), rfl⟩
theorem mw_196 : (.selects "TileForge$Picture" ⟨"TileForge$Picture", "look", "(II)I"⟩ ⟨"TileForge$Picture", "look", "(II)I"⟩ : Cond) ∈ GW := List.mem_filter.mpr ⟨(List.mem_append_right _ (List.mem_append_right _ (List.mem_append_left _ (List.mem_of_getElem? (i := 117) rfl)))), rfl⟩
def q_bl_look (cI : ClassId) (b1 : Nat) (b2 : Nat) (b3 : Nat) (b4 : Nat) (b5 : Nat) (b6 : Nat) (ab : Nat → Int32) (lf : Nat → Int32) (fo : Nat → Int32) (lv : Nat → Int32) (wk : Nat → Int32) (vr : Int32) (vc : Int32) (vcr : Int32) (a1 : Nat) (a2 : Nat) (a3 : Nat) (px : Nat → Int32) (md : Nat → Int32) (vz : Int32) (vk : Int32) (wn : Nat) (hn : Nat) (x : Nat) (y : Nat) : va_W → Prop := fun ww => ∃ (ab' : Nat → Int32) (lf' : Nat → Int32), (∀ j, j < 4 → ab' j = abv px x y j) ∧ (∀ j, j < 4 → lf' j = lft px x y j) ∧ ww = [(b1, .inr (1, [.ref b2, .ref b3, .ref b4, .ref b5, .ref b6, .int (b2i y), .int (b2i x), .int (crn px x y)])), (b2, .inl (cI, 4, .inl ab')), (b3, .inl (cI, 4, .inl lf')), (b4, .inl (cI, 16, .inl fo)), (b5, .inl (cI, 16, .inl lv)), (b6, .inl (cI, 16, .inl wk)), (a1, .inr (5, [.ref a2, .ref a3, .int vz, .int (nI wn), .int (nI hn), .int vk])), (a2, .inl (cI, 144, .inl px)), (a3, .inl (cI, 9, .inl md))]
set_option maxHeartbeats 4000000 in
set_option maxRecDepth 100000 in
theorem c_bl_look (l : Launch) {D : va_G} {tys : List (ClassId × FieldType)} {cI : ClassId} (hcI : tys[0]? = some (cI, .int)) (b1 : Nat) (b2 : Nat) (b3 : Nat) (b4 : Nat) (b5 : Nat) (b6 : Nat) (ab : Nat → Int32) (lf : Nat → Int32) (fo : Nat → Int32) (lv : Nat → Int32) (wk : Nat → Int32) (vr : Int32) (vc : Int32) (vcr : Int32) (a1 : Nat) (a2 : Nat) (a3 : Nat) (px : Nat → Int32) (md : Nat → Int32) (vz : Int32) (vk : Int32) (wn : Nat) (hn : Nat) (x : Nat) (y : Nat) (hx4 : x + 4 ≤ wn) (hwn : wn ≤ 12) (hy4 : y + 4 ≤ hn) (hhn : hn ≤ 12) : CsV l D vwCl tys y_Block_lookAround ws_Block_lookAround ({ frames := 2, cells := 0, slots := 0, locals := 44 } : Room) [.ref b1, .ref a1, .int (nI x), .int (nI y)] [(b1, .inr (1, [.ref b2, .ref b3, .ref b4, .ref b5, .ref b6, .int vr, .int vc, .int vcr])), (b2, .inl (cI, 4, .inl ab)), (b3, .inl (cI, 4, .inl lf)), (b4, .inl (cI, 16, .inl fo)), (b5, .inl (cI, 16, .inl lv)), (b6, .inl (cI, 16, .inl wk)), (a1, .inr (5, [.ref a2, .ref a3, .int vz, .int (nI wn), .int (nI hn), .int vk])), (a2, .inl (cI, 144, .inl px)), (a3, .inl (cI, 9, .inl md))] (q_bl_look cI b1 b2 b3 b4 b5 b6 ab lf fo lv wk vr vc vcr a1 a2 a3 px md vz vk wn hn x y) 0 0 := by
  intro sz
  refine Met.ofW (cc := prog_3_method_2_code) (maxL := 5) (ret := none) (by decide) rfl ?_
  intro p e s m args below meth c s₁ B hml hv
  obtain ⟨rfl, hsz, hP, hK, hD0, hN⟩ := hv
  have hx := B.exec
  have hb := B.bytes
  have hr := B.returns
  have hts := atoms_spec (ws := ws_Block_lookAround) B.pre
  have hown : s.vm.findClass "TileForge$Block" = some m.cls := findClass_of_methodNamed B.named
  have hlocks := B.notSynchronized
  subst hsz
  have hD := hD0.self (sz := s.heap.size)
  generalize hAe : va_A [(b1, .inr (1, [.ref b2, .ref b3, .ref b4, .ref b5, .ref b6, .int vr, .int vc, .int vcr])), (b2, .inl (cI, 4, .inl ab)), (b3, .inl (cI, 4, .inl lf)), (b4, .inl (cI, 16, .inl fo)), (b5, .inl (cI, 16, .inl lv)), (b6, .inl (cI, 16, .inl wk)), (a1, .inr (5, [.ref a2, .ref a3, .int vz, .int (nI wn), .int (nI hn), .int vk])), (a2, .inl (cI, 144, .inl px)), (a3, .inl (cI, 9, .inl md))] s.heap.size = A at hD ⊢
  have hA : ∀ q : Nat, s.heap.size ≤ q → A q := fun q h => by rw [← hAe]; exact Or.inr h
  have hS : va_S A s.heap s.heap [] := va_S.rf
  have hP : va_P D vwCl [(b1, .inr (1, [.ref b2, .ref b3, .ref b4, .ref b5, .ref b6, .int vr, .int vc, .int vcr])), (b2, .inl (cI, 4, .inl ab)), (b3, .inl (cI, 4, .inl lf)), (b4, .inl (cI, 16, .inl fo)), (b5, .inl (cI, 16, .inl lv)), (b6, .inl (cI, 16, .inl wk)), (a1, .inr (5, [.ref a2, .ref a3, .int vz, .int (nI wn), .int (nI hn), .int vk])), (a2, .inl (cI, 144, .inl px)), (a3, .inl (cI, 9, .inl md))] s.heap := hP
  have hl := lv_entry ([.ref b1, .ref a1, .int (nI x), .int (nI y)]) (n := 5) (Nat.le_of_ble_eq_true rfl)
  rw [lg_entry_eq]
  generalize (lg_sl ([.ref b1, .ref a1, .int (nI x), .int (nI y)]) ++ List.replicate (5 - (lg_sl ([.ref b1, .ref a1, .int (nI x), .int (nI y)])).length) Slot.unset).toArray = ls at hl ⊢
  have hl : lv_has ls 5 [(0, .ref b1), (1, .ref a1), (2, .int (nI x)), (3, .int (nI y))] := hl
  refine lv_aload_n hx hb d_Block_lookAround_0 rfl (lv_at hl 0 rfl) ?_
  refine lv_iload_n hx hb d_Block_lookAround_1 rfl (lv_at hl 3 rfl) ?_
  refine lv_if_le (tgt := 9) hx hb d_Block_lookAround_2 (by decide) (fun c_2 => ?_) (fun c_2 => ?_)
  · have hy0 : y = 0 := cs_le0 c_2 (by omega)
    refine lv_iconst (v := 0) hx hb d_Block_lookAround_9 (by decide) ?_
    refine va_put (D := D) (ci := 1) (v := .int 0) (ty := .boolean) (C := "TileForge$Block") (T := T_Block) (N := 8) hx hb hts (cs_in in_Block) ty_Block tok_Block nm_Block hown hK hP hD hS 0 rfl rfl 5 (by decide) (hts _ (cs_m mw_191)) (fun _ h9 => h9) rfl (by decide +kernel) rfl rfl (Nat.le_of_ble_eq_true rfl) d_Block_lookAround_10 (fun H locs hP hD hS => ?_)
    have hP : va_P D vwCl [(b1, .inr (1, [.ref b2, .ref b3, .ref b4, .ref b5, .ref b6, .int 0, .int vc, .int vcr])), (b2, .inl (cI, 4, .inl ab)), (b3, .inl (cI, 4, .inl lf)), (b4, .inl (cI, 16, .inl fo)), (b5, .inl (cI, 16, .inl lv)), (b6, .inl (cI, 16, .inl wk)), (a1, .inr (5, [.ref a2, .ref a3, .int vz, .int (nI wn), .int (nI hn), .int vk])), (a2, .inl (cI, 144, .inl px)), (a3, .inl (cI, 9, .inl md))] H := hP
    have hD : va_D A [(b1, .inr (1, [.ref b2, .ref b3, .ref b4, .ref b5, .ref b6, .int 0, .int vc, .int vcr])), (b2, .inl (cI, 4, .inl ab)), (b3, .inl (cI, 4, .inl lf)), (b4, .inl (cI, 16, .inl fo)), (b5, .inl (cI, 16, .inl lv)), (b6, .inl (cI, 16, .inl wk)), (a1, .inr (5, [.ref a2, .ref a3, .int vz, .int (nI wn), .int (nI hn), .int vk])), (a2, .inl (cI, 144, .inl px)), (a3, .inl (cI, 9, .inl md))] := hD
    refine lv_aload_n hx hb d_Block_lookAround_13 rfl (lv_at hl 0 rfl) ?_
    refine lv_iload_n hx hb d_Block_lookAround_14 rfl (lv_at hl 2 rfl) ?_
    refine lv_if_le (tgt := 22) hx hb d_Block_lookAround_15 (by decide) (fun c_15 => ?_) (fun c_15 => ?_)
    · have hx0 : x = 0 := cs_le0 c_15 (by omega)
      refine lv_iconst (v := 0) hx hb d_Block_lookAround_22 (by decide) ?_
      refine va_put (D := D) (ci := 1) (v := .int 0) (ty := .boolean) (C := "TileForge$Block") (T := T_Block) (N := 8) hx hb hts (cs_in in_Block) ty_Block tok_Block nm_Block hown hK hP hD hS 0 rfl rfl 6 (by decide) (hts _ (cs_m mw_192)) (fun _ h9 => h9) rfl (by decide +kernel) rfl rfl (Nat.le_of_ble_eq_true rfl) d_Block_lookAround_23 (fun H locs hP hD hS => ?_)
      have hP : va_P D vwCl [(b1, .inr (1, [.ref b2, .ref b3, .ref b4, .ref b5, .ref b6, .int 0, .int 0, .int vcr])), (b2, .inl (cI, 4, .inl ab)), (b3, .inl (cI, 4, .inl lf)), (b4, .inl (cI, 16, .inl fo)), (b5, .inl (cI, 16, .inl lv)), (b6, .inl (cI, 16, .inl wk)), (a1, .inr (5, [.ref a2, .ref a3, .int vz, .int (nI wn), .int (nI hn), .int vk])), (a2, .inl (cI, 144, .inl px)), (a3, .inl (cI, 9, .inl md))] H := hP
      have hD : va_D A [(b1, .inr (1, [.ref b2, .ref b3, .ref b4, .ref b5, .ref b6, .int 0, .int 0, .int vcr])), (b2, .inl (cI, 4, .inl ab)), (b3, .inl (cI, 4, .inl lf)), (b4, .inl (cI, 16, .inl fo)), (b5, .inl (cI, 16, .inl lv)), (b6, .inl (cI, 16, .inl wk)), (a1, .inr (5, [.ref a2, .ref a3, .int vz, .int (nI wn), .int (nI hn), .int vk])), (a2, .inl (cI, 144, .inl px)), (a3, .inl (cI, 9, .inl md))] := hD
      refine lv_iconst (v := 0) hx hb d_Block_lookAround_26 (by decide) ?_
      refine lv_istore (lv' := [(4, .int 0), (0, .ref b1), (1, .ref a1), (2, .int (nI x)), (3, .int (nI y))]) hx hb d_Block_lookAround_27 hl (by decide) rfl (fun ls hl => ?_)
      have lp29 : ∀ (n : Nat) (k : Nat) (f : Nat → Int32) (g : Nat → Int32), (5 ≤ k + n) → (k ≤ 4) → (∀ j, j < k → f j = abv px x y j) → (∀ j, j < k → g j = lft px x y j) → ∀ (H : Heap) (locs : List Loc) (ls : Array Slot), va_P D vwCl [(b1, .inr (1, [.ref b2, .ref b3, .ref b4, .ref b5, .ref b6, .int 0, .int 0, .int vcr])), (b2, .inl (cI, 4, .inl f)), (b3, .inl (cI, 4, .inl g)), (b4, .inl (cI, 16, .inl fo)), (b5, .inl (cI, 16, .inl lv)), (b6, .inl (cI, 16, .inl wk)), (a1, .inr (5, [.ref a2, .ref a3, .int vz, .int (nI wn), .int (nI hn), .int vk])), (a2, .inl (cI, 144, .inl px)), (a3, .inl (cI, 9, .inl md))] H → va_D A [(b1, .inr (1, [.ref b2, .ref b3, .ref b4, .ref b5, .ref b6, .int 0, .int 0, .int vcr])), (b2, .inl (cI, 4, .inl f)), (b3, .inl (cI, 4, .inl g)), (b4, .inl (cI, 16, .inl fo)), (b5, .inl (cI, 16, .inl lv)), (b6, .inl (cI, 16, .inl wk)), (a1, .inr (5, [.ref a2, .ref a3, .int vz, .int (nI wn), .int (nI hn), .int vk])), (a2, .inl (cI, 144, .inl px)), (a3, .inl (cI, 9, .inl md))] → va_S A s.heap H locs → lv_has ls 5 [(0, .ref b1), (1, .ref a1), (2, .int (nI x)), (3, .int (nI y)), (4, .int (nI k))] → W p l e ({ frames := 2, cells := 0, slots := 0, locals := 44 } : Room) s m ([.ref b1, .ref a1, .int (nI x), .int (nI y)] : List Value).toArray below meth c H locs 0 0 (MQ below (va_Qv (q_bl_look cI b1 b2 b3 b4 b5 b6 ab lf fo lv wk vr vc vcr a1 a2 a3 px md vz vk wn hn x y) (cs_B D vwCl tys A) A) ([.ref b1, .ref a1, .int (nI x), .int (nI y)] : List Value).toArray s 0 0 A) (F0 m 29 ls []) := by
        intro n
        induction n with
        | zero =>
          intro k f g hf hk h1 h2
          exact absurd hf (by omega)
        | succ n ih29 =>
          intro k f g hf hk h1 h2 H locs ls hP hD hS hl
          refine lv_iload hx hb d_Block_lookAround_29 (lv_at hl 4 rfl) ?_
          refine lv_iconst (v := 4) hx hb d_Block_lookAround_31 (by decide) ?_
          refine lv_icmp_ge (tgt := 102) hx hb d_Block_lookAround_32 (by decide) (fun c_32 => ?_) (fun c_32 => ?_)
          · have hk2 := (nI_leI (a := 4) (b := k) (by decide) (by omega)).mp c_32
            have hk3 : k = 4 := by omega
            subst hk3
            refine lv_aload_n hx hb d_Block_lookAround_102 rfl (lv_at hl 0 rfl) ?_
            refine lv_bipush (v := 127) hx hb d_Block_lookAround_103 (by decide) ?_
            refine va_put (D := D) (ci := 1) (v := .int 127) (ty := .int) (C := "TileForge$Block") (T := T_Block) (N := 8) hx hb hts (cs_in in_Block) ty_Block tok_Block nm_Block hown hK hP hD hS 0 rfl rfl 7 (by decide) (hts _ (cs_m mw_193)) (fun _ h9 => h9) rfl (by decide +kernel) rfl rfl (Nat.le_of_ble_eq_true rfl) d_Block_lookAround_105 (fun H locs hP hD hS => ?_)
            have hP : va_P D vwCl [(b1, .inr (1, [.ref b2, .ref b3, .ref b4, .ref b5, .ref b6, .int 0, .int 0, .int 127])), (b2, .inl (cI, 4, .inl f)), (b3, .inl (cI, 4, .inl g)), (b4, .inl (cI, 16, .inl fo)), (b5, .inl (cI, 16, .inl lv)), (b6, .inl (cI, 16, .inl wk)), (a1, .inr (5, [.ref a2, .ref a3, .int vz, .int (nI wn), .int (nI hn), .int vk])), (a2, .inl (cI, 144, .inl px)), (a3, .inl (cI, 9, .inl md))] H := hP
            have hD : va_D A [(b1, .inr (1, [.ref b2, .ref b3, .ref b4, .ref b5, .ref b6, .int 0, .int 0, .int 127])), (b2, .inl (cI, 4, .inl f)), (b3, .inl (cI, 4, .inl g)), (b4, .inl (cI, 16, .inl fo)), (b5, .inl (cI, 16, .inl lv)), (b6, .inl (cI, 16, .inl wk)), (a1, .inr (5, [.ref a2, .ref a3, .int vz, .int (nI wn), .int (nI hn), .int vk])), (a2, .inl (cI, 144, .inl px)), (a3, .inl (cI, 9, .inl md))] := hD
            refine lv_aload_n hx hb d_Block_lookAround_108 rfl (lv_at hl 0 rfl) ?_
            refine va_get (D := D) (ci := 1) (v := .int 0) (C := "TileForge$Block") (T := T_Block) (N := 8) hx hb hts (cs_in in_Block) hown hK hP 0 rfl rfl 5 (by decide) (hts _ (cs_m mw_191)) (fun _ h9 => h9) rfl d_Block_lookAround_109 ?_
            refine lv_if_eq (tgt := 142) hx hb d_Block_lookAround_112 (by decide) (fun c_112 => ?_) (fun c_112 => ?_)
            · exact W.vret hx hb hr (fun t ht hW => ⟨⟨[(b1, .inr (1, [.ref b2, .ref b3, .ref b4, .ref b5, .ref b6, .int 0, .int 0, .int 127])), (b2, .inl (cI, 4, .inl f)), (b3, .inl (cI, 4, .inl g)), (b4, .inl (cI, 16, .inl fo)), (b5, .inl (cI, 16, .inl lv)), (b6, .inl (cI, 16, .inl wk)), (a1, .inr (5, [.ref a2, .ref a3, .int vz, .int (nI wn), .int (nI hn), .int vk])), (a2, .inl (cI, 144, .inl px)), (a3, .inl (cI, 9, .inl md))], rfl, ⟨f, g, (h1), (h2), (by simp [b2i, crn, hy0, hx0])⟩, by rw [ht]; exact hP, va_K.moved hW.alike hK, hD⟩, hS.F ht⟩) hS.2.2 d_Block_lookAround_142
            · exact absurd c_112 (by decide)
          · have hk2 : k < 4 := Nat.not_le.mp (fun h => c_32 ((nI_leI (a := 4) (b := k) (by decide) (by omega)).mpr h))
            refine lv_aload_n hx hb d_Block_lookAround_35 rfl (lv_at hl 0 rfl) ?_
            refine va_get (D := D) (ci := 1) (v := .ref b2) (C := "TileForge$Block") (T := T_Block) (N := 8) hx hb hts (cs_in in_Block) hown hK hP 0 rfl rfl 0 (by decide) (hts _ (cs_m mw_185)) (fun _ h9 => h9) rfl d_Block_lookAround_36 ?_
            refine lv_iload hx hb d_Block_lookAround_39 (lv_at hl 4 rfl) ?_
            refine lv_aload_n hx hb d_Block_lookAround_41 rfl (lv_at hl 0 rfl) ?_
            refine va_get (D := D) (ci := 1) (v := .int 0) (C := "TileForge$Block") (T := T_Block) (N := 8) hx hb hts (cs_in in_Block) hown hK hP 0 rfl rfl 5 (by decide) (hts _ (cs_m mw_191)) (fun _ h9 => h9) rfl d_Block_lookAround_42 ?_
            refine lv_if_eq (tgt := 62) hx hb d_Block_lookAround_45 (by decide) (fun c_45 => ?_) (fun c_45 => ?_)
            · refine lv_bipush (v := 127) hx hb d_Block_lookAround_62 (by decide) ?_
              refine cs_iast (j := k) hx hb hK hcI hP hD hS 1 rfl (rfl) (by omega) (by decide) d_Block_lookAround_64 (fun H locs hP hD hS => ?_)
              have hP : va_P D vwCl [(b1, .inr (1, [.ref b2, .ref b3, .ref b4, .ref b5, .ref b6, .int 0, .int 0, .int vcr])), (b2, .inl (cI, 4, .inl (upd f k 127))), (b3, .inl (cI, 4, .inl g)), (b4, .inl (cI, 16, .inl fo)), (b5, .inl (cI, 16, .inl lv)), (b6, .inl (cI, 16, .inl wk)), (a1, .inr (5, [.ref a2, .ref a3, .int vz, .int (nI wn), .int (nI hn), .int vk])), (a2, .inl (cI, 144, .inl px)), (a3, .inl (cI, 9, .inl md))] H := hP
              have hD : va_D A [(b1, .inr (1, [.ref b2, .ref b3, .ref b4, .ref b5, .ref b6, .int 0, .int 0, .int vcr])), (b2, .inl (cI, 4, .inl (upd f k 127))), (b3, .inl (cI, 4, .inl g)), (b4, .inl (cI, 16, .inl fo)), (b5, .inl (cI, 16, .inl lv)), (b6, .inl (cI, 16, .inl wk)), (a1, .inr (5, [.ref a2, .ref a3, .int vz, .int (nI wn), .int (nI hn), .int vk])), (a2, .inl (cI, 144, .inl px)), (a3, .inl (cI, 9, .inl md))] := hD
              refine lv_aload_n hx hb d_Block_lookAround_65 rfl (lv_at hl 0 rfl) ?_
              refine va_get (D := D) (ci := 1) (v := .ref b3) (C := "TileForge$Block") (T := T_Block) (N := 8) hx hb hts (cs_in in_Block) hown hK hP 0 rfl rfl 1 (by decide) (hts _ (cs_m mw_186)) (fun _ h9 => h9) rfl d_Block_lookAround_66 ?_
              refine lv_iload hx hb d_Block_lookAround_69 (lv_at hl 4 rfl) ?_
              refine lv_aload_n hx hb d_Block_lookAround_71 rfl (lv_at hl 0 rfl) ?_
              refine va_get (D := D) (ci := 1) (v := .int 0) (C := "TileForge$Block") (T := T_Block) (N := 8) hx hb hts (cs_in in_Block) hown hK hP 0 rfl rfl 6 (by decide) (hts _ (cs_m mw_192)) (fun _ h9 => h9) rfl d_Block_lookAround_72 ?_
              refine lv_if_eq (tgt := 92) hx hb d_Block_lookAround_75 (by decide) (fun c_75 => ?_) (fun c_75 => ?_)
              · refine lv_sipush (v := 129) hx hb d_Block_lookAround_92 (by decide) ?_
                refine cs_iast (j := k) hx hb hK hcI hP hD hS 2 rfl (rfl) (by omega) (by decide) d_Block_lookAround_95 (fun H locs hP hD hS => ?_)
                have hP : va_P D vwCl [(b1, .inr (1, [.ref b2, .ref b3, .ref b4, .ref b5, .ref b6, .int 0, .int 0, .int vcr])), (b2, .inl (cI, 4, .inl (upd f k 127))), (b3, .inl (cI, 4, .inl (upd g k 129))), (b4, .inl (cI, 16, .inl fo)), (b5, .inl (cI, 16, .inl lv)), (b6, .inl (cI, 16, .inl wk)), (a1, .inr (5, [.ref a2, .ref a3, .int vz, .int (nI wn), .int (nI hn), .int vk])), (a2, .inl (cI, 144, .inl px)), (a3, .inl (cI, 9, .inl md))] H := hP
                have hD : va_D A [(b1, .inr (1, [.ref b2, .ref b3, .ref b4, .ref b5, .ref b6, .int 0, .int 0, .int vcr])), (b2, .inl (cI, 4, .inl (upd f k 127))), (b3, .inl (cI, 4, .inl (upd g k 129))), (b4, .inl (cI, 16, .inl fo)), (b5, .inl (cI, 16, .inl lv)), (b6, .inl (cI, 16, .inl wk)), (a1, .inr (5, [.ref a2, .ref a3, .int vz, .int (nI wn), .int (nI hn), .int vk])), (a2, .inl (cI, 144, .inl px)), (a3, .inl (cI, 9, .inl md))] := hD
                refine lv_iinc (v := nI (k + 1)) (lv' := [(4, .int (nI (k + 1))), (0, .ref b1), (1, .ref a1), (2, .int (nI x)), (3, .int (nI y))]) hx hb d_Block_lookAround_96 hl (k := 4) rfl (nI_1 _) (by decide) rfl (fun ls hl => ?_)
                refine lv_goto (tgt := 29) hx hb d_Block_lookAround_99 (by decide) ?_
                exact ih29 (k + 1) (upd f k 127) (upd g k 129) (by omega) (by omega) (cs_ext h1 (by rw [abv, if_pos hy0])) (cs_ext h2 (by rw [lft, if_pos hx0])) _ _ _ (hP.sub (ws' := [(b1, .inr (1, [.ref b2, .ref b3, .ref b4, .ref b5, .ref b6, .int 0, .int 0, .int vcr])), (b2, .inl (cI, 4, .inl (upd f k 127))), (b3, .inl (cI, 4, .inl (upd g k 129))), (b4, .inl (cI, 16, .inl fo)), (b5, .inl (cI, 16, .inl lv)), (b6, .inl (cI, 16, .inl wk)), (a1, .inr (5, [.ref a2, .ref a3, .int vz, .int (nI wn), .int (nI hn), .int vk])), (a2, .inl (cI, 144, .inl px)), (a3, .inl (cI, 9, .inl md))]) [0, 1, 2, 3, 4, 5, 6, 7, 8] rfl) (hD.sub (ws' := [(b1, .inr (1, [.ref b2, .ref b3, .ref b4, .ref b5, .ref b6, .int 0, .int 0, .int vcr])), (b2, .inl (cI, 4, .inl (upd f k 127))), (b3, .inl (cI, 4, .inl (upd g k 129))), (b4, .inl (cI, 16, .inl fo)), (b5, .inl (cI, 16, .inl lv)), (b6, .inl (cI, 16, .inl wk)), (a1, .inr (5, [.ref a2, .ref a3, .int vz, .int (nI wn), .int (nI hn), .int vk])), (a2, .inl (cI, 144, .inl px)), (a3, .inl (cI, 9, .inl md))]) [0, 1, 2, 3, 4, 5, 6, 7, 8] (by decide) rfl) hS (lv_sub hl [1, 2, 3, 4, 0] rfl)
              · exact absurd c_75 (by decide)
            · exact absurd c_45 (by decide)
      exact lp29 (5) 0 ab lf (by omega) (by omega) (fun j hj => absurd hj (by omega)) (fun j hj => absurd hj (by omega)) _ _ _ (hP.sub (ws' := [(b1, .inr (1, [.ref b2, .ref b3, .ref b4, .ref b5, .ref b6, .int 0, .int 0, .int vcr])), (b2, .inl (cI, 4, .inl ab)), (b3, .inl (cI, 4, .inl lf)), (b4, .inl (cI, 16, .inl fo)), (b5, .inl (cI, 16, .inl lv)), (b6, .inl (cI, 16, .inl wk)), (a1, .inr (5, [.ref a2, .ref a3, .int vz, .int (nI wn), .int (nI hn), .int vk])), (a2, .inl (cI, 144, .inl px)), (a3, .inl (cI, 9, .inl md))]) [0, 1, 2, 3, 4, 5, 6, 7, 8] rfl) (hD.sub (ws' := [(b1, .inr (1, [.ref b2, .ref b3, .ref b4, .ref b5, .ref b6, .int 0, .int 0, .int vcr])), (b2, .inl (cI, 4, .inl ab)), (b3, .inl (cI, 4, .inl lf)), (b4, .inl (cI, 16, .inl fo)), (b5, .inl (cI, 16, .inl lv)), (b6, .inl (cI, 16, .inl wk)), (a1, .inr (5, [.ref a2, .ref a3, .int vz, .int (nI wn), .int (nI hn), .int vk])), (a2, .inl (cI, 144, .inl px)), (a3, .inl (cI, 9, .inl md))]) [0, 1, 2, 3, 4, 5, 6, 7, 8] (by decide) rfl) hS (lv_sub hl [1, 2, 3, 4, 0] rfl)
    · have hx0 : 0 < x := cs_gt0 c_15
      refine lv_iconst (v := 1) hx hb d_Block_lookAround_18 (by decide) ?_
      refine lv_goto (tgt := 23) hx hb d_Block_lookAround_19 (by decide) ?_
      refine va_put (D := D) (ci := 1) (v := .int 1) (ty := .boolean) (C := "TileForge$Block") (T := T_Block) (N := 8) hx hb hts (cs_in in_Block) ty_Block tok_Block nm_Block hown hK hP hD hS 0 rfl rfl 6 (by decide) (hts _ (cs_m mw_192)) (fun _ h9 => h9) rfl (by decide +kernel) rfl rfl (Nat.le_of_ble_eq_true rfl) d_Block_lookAround_23 (fun H locs hP hD hS => ?_)
      have hP : va_P D vwCl [(b1, .inr (1, [.ref b2, .ref b3, .ref b4, .ref b5, .ref b6, .int 0, .int 1, .int vcr])), (b2, .inl (cI, 4, .inl ab)), (b3, .inl (cI, 4, .inl lf)), (b4, .inl (cI, 16, .inl fo)), (b5, .inl (cI, 16, .inl lv)), (b6, .inl (cI, 16, .inl wk)), (a1, .inr (5, [.ref a2, .ref a3, .int vz, .int (nI wn), .int (nI hn), .int vk])), (a2, .inl (cI, 144, .inl px)), (a3, .inl (cI, 9, .inl md))] H := hP
      have hD : va_D A [(b1, .inr (1, [.ref b2, .ref b3, .ref b4, .ref b5, .ref b6, .int 0, .int 1, .int vcr])), (b2, .inl (cI, 4, .inl ab)), (b3, .inl (cI, 4, .inl lf)), (b4, .inl (cI, 16, .inl fo)), (b5, .inl (cI, 16, .inl lv)), (b6, .inl (cI, 16, .inl wk)), (a1, .inr (5, [.ref a2, .ref a3, .int vz, .int (nI wn), .int (nI hn), .int vk])), (a2, .inl (cI, 144, .inl px)), (a3, .inl (cI, 9, .inl md))] := hD
      refine lv_iconst (v := 0) hx hb d_Block_lookAround_26 (by decide) ?_
      refine lv_istore (lv' := [(4, .int 0), (0, .ref b1), (1, .ref a1), (2, .int (nI x)), (3, .int (nI y))]) hx hb d_Block_lookAround_27 hl (by decide) rfl (fun ls hl => ?_)
      have lp29 : ∀ (n : Nat) (k : Nat) (f : Nat → Int32) (g : Nat → Int32), (5 ≤ k + n) → (k ≤ 4) → (∀ j, j < k → f j = abv px x y j) → (∀ j, j < k → g j = lft px x y j) → ∀ (H : Heap) (locs : List Loc) (ls : Array Slot), va_P D vwCl [(b1, .inr (1, [.ref b2, .ref b3, .ref b4, .ref b5, .ref b6, .int 0, .int 1, .int vcr])), (b2, .inl (cI, 4, .inl f)), (b3, .inl (cI, 4, .inl g)), (b4, .inl (cI, 16, .inl fo)), (b5, .inl (cI, 16, .inl lv)), (b6, .inl (cI, 16, .inl wk)), (a1, .inr (5, [.ref a2, .ref a3, .int vz, .int (nI wn), .int (nI hn), .int vk])), (a2, .inl (cI, 144, .inl px)), (a3, .inl (cI, 9, .inl md))] H → va_D A [(b1, .inr (1, [.ref b2, .ref b3, .ref b4, .ref b5, .ref b6, .int 0, .int 1, .int vcr])), (b2, .inl (cI, 4, .inl f)), (b3, .inl (cI, 4, .inl g)), (b4, .inl (cI, 16, .inl fo)), (b5, .inl (cI, 16, .inl lv)), (b6, .inl (cI, 16, .inl wk)), (a1, .inr (5, [.ref a2, .ref a3, .int vz, .int (nI wn), .int (nI hn), .int vk])), (a2, .inl (cI, 144, .inl px)), (a3, .inl (cI, 9, .inl md))] → va_S A s.heap H locs → lv_has ls 5 [(0, .ref b1), (1, .ref a1), (2, .int (nI x)), (3, .int (nI y)), (4, .int (nI k))] → W p l e ({ frames := 2, cells := 0, slots := 0, locals := 44 } : Room) s m ([.ref b1, .ref a1, .int (nI x), .int (nI y)] : List Value).toArray below meth c H locs 0 0 (MQ below (va_Qv (q_bl_look cI b1 b2 b3 b4 b5 b6 ab lf fo lv wk vr vc vcr a1 a2 a3 px md vz vk wn hn x y) (cs_B D vwCl tys A) A) ([.ref b1, .ref a1, .int (nI x), .int (nI y)] : List Value).toArray s 0 0 A) (F0 m 29 ls []) := by
        intro n
        induction n with
        | zero =>
          intro k f g hf hk h1 h2
          exact absurd hf (by omega)
        | succ n ih29 =>
          intro k f g hf hk h1 h2 H locs ls hP hD hS hl
          refine lv_iload hx hb d_Block_lookAround_29 (lv_at hl 4 rfl) ?_
          refine lv_iconst (v := 4) hx hb d_Block_lookAround_31 (by decide) ?_
          refine lv_icmp_ge (tgt := 102) hx hb d_Block_lookAround_32 (by decide) (fun c_32 => ?_) (fun c_32 => ?_)
          · have hk2 := (nI_leI (a := 4) (b := k) (by decide) (by omega)).mp c_32
            have hk3 : k = 4 := by omega
            subst hk3
            refine lv_aload_n hx hb d_Block_lookAround_102 rfl (lv_at hl 0 rfl) ?_
            refine lv_bipush (v := 127) hx hb d_Block_lookAround_103 (by decide) ?_
            refine va_put (D := D) (ci := 1) (v := .int 127) (ty := .int) (C := "TileForge$Block") (T := T_Block) (N := 8) hx hb hts (cs_in in_Block) ty_Block tok_Block nm_Block hown hK hP hD hS 0 rfl rfl 7 (by decide) (hts _ (cs_m mw_193)) (fun _ h9 => h9) rfl (by decide +kernel) rfl rfl (Nat.le_of_ble_eq_true rfl) d_Block_lookAround_105 (fun H locs hP hD hS => ?_)
            have hP : va_P D vwCl [(b1, .inr (1, [.ref b2, .ref b3, .ref b4, .ref b5, .ref b6, .int 0, .int 1, .int 127])), (b2, .inl (cI, 4, .inl f)), (b3, .inl (cI, 4, .inl g)), (b4, .inl (cI, 16, .inl fo)), (b5, .inl (cI, 16, .inl lv)), (b6, .inl (cI, 16, .inl wk)), (a1, .inr (5, [.ref a2, .ref a3, .int vz, .int (nI wn), .int (nI hn), .int vk])), (a2, .inl (cI, 144, .inl px)), (a3, .inl (cI, 9, .inl md))] H := hP
            have hD : va_D A [(b1, .inr (1, [.ref b2, .ref b3, .ref b4, .ref b5, .ref b6, .int 0, .int 1, .int 127])), (b2, .inl (cI, 4, .inl f)), (b3, .inl (cI, 4, .inl g)), (b4, .inl (cI, 16, .inl fo)), (b5, .inl (cI, 16, .inl lv)), (b6, .inl (cI, 16, .inl wk)), (a1, .inr (5, [.ref a2, .ref a3, .int vz, .int (nI wn), .int (nI hn), .int vk])), (a2, .inl (cI, 144, .inl px)), (a3, .inl (cI, 9, .inl md))] := hD
            refine lv_aload_n hx hb d_Block_lookAround_108 rfl (lv_at hl 0 rfl) ?_
            refine va_get (D := D) (ci := 1) (v := .int 0) (C := "TileForge$Block") (T := T_Block) (N := 8) hx hb hts (cs_in in_Block) hown hK hP 0 rfl rfl 5 (by decide) (hts _ (cs_m mw_191)) (fun _ h9 => h9) rfl d_Block_lookAround_109 ?_
            refine lv_if_eq (tgt := 142) hx hb d_Block_lookAround_112 (by decide) (fun c_112 => ?_) (fun c_112 => ?_)
            · exact W.vret hx hb hr (fun t ht hW => ⟨⟨[(b1, .inr (1, [.ref b2, .ref b3, .ref b4, .ref b5, .ref b6, .int 0, .int 1, .int 127])), (b2, .inl (cI, 4, .inl f)), (b3, .inl (cI, 4, .inl g)), (b4, .inl (cI, 16, .inl fo)), (b5, .inl (cI, 16, .inl lv)), (b6, .inl (cI, 16, .inl wk)), (a1, .inr (5, [.ref a2, .ref a3, .int vz, .int (nI wn), .int (nI hn), .int vk])), (a2, .inl (cI, 144, .inl px)), (a3, .inl (cI, 9, .inl md))], rfl, ⟨f, g, (h1), (h2), (by simp [b2i, crn, hy0, hx0, Nat.ne_of_gt hx0])⟩, by rw [ht]; exact hP, va_K.moved hW.alike hK, hD⟩, hS.F ht⟩) hS.2.2 d_Block_lookAround_142
            · exact absurd c_112 (by decide)
          · have hk2 : k < 4 := Nat.not_le.mp (fun h => c_32 ((nI_leI (a := 4) (b := k) (by decide) (by omega)).mpr h))
            refine lv_aload_n hx hb d_Block_lookAround_35 rfl (lv_at hl 0 rfl) ?_
            refine va_get (D := D) (ci := 1) (v := .ref b2) (C := "TileForge$Block") (T := T_Block) (N := 8) hx hb hts (cs_in in_Block) hown hK hP 0 rfl rfl 0 (by decide) (hts _ (cs_m mw_185)) (fun _ h9 => h9) rfl d_Block_lookAround_36 ?_
            refine lv_iload hx hb d_Block_lookAround_39 (lv_at hl 4 rfl) ?_
            refine lv_aload_n hx hb d_Block_lookAround_41 rfl (lv_at hl 0 rfl) ?_
            refine va_get (D := D) (ci := 1) (v := .int 0) (C := "TileForge$Block") (T := T_Block) (N := 8) hx hb hts (cs_in in_Block) hown hK hP 0 rfl rfl 5 (by decide) (hts _ (cs_m mw_191)) (fun _ h9 => h9) rfl d_Block_lookAround_42 ?_
            refine lv_if_eq (tgt := 62) hx hb d_Block_lookAround_45 (by decide) (fun c_45 => ?_) (fun c_45 => ?_)
            · refine lv_bipush (v := 127) hx hb d_Block_lookAround_62 (by decide) ?_
              refine cs_iast (j := k) hx hb hK hcI hP hD hS 1 rfl (rfl) (by omega) (by decide) d_Block_lookAround_64 (fun H locs hP hD hS => ?_)
              have hP : va_P D vwCl [(b1, .inr (1, [.ref b2, .ref b3, .ref b4, .ref b5, .ref b6, .int 0, .int 1, .int vcr])), (b2, .inl (cI, 4, .inl (upd f k 127))), (b3, .inl (cI, 4, .inl g)), (b4, .inl (cI, 16, .inl fo)), (b5, .inl (cI, 16, .inl lv)), (b6, .inl (cI, 16, .inl wk)), (a1, .inr (5, [.ref a2, .ref a3, .int vz, .int (nI wn), .int (nI hn), .int vk])), (a2, .inl (cI, 144, .inl px)), (a3, .inl (cI, 9, .inl md))] H := hP
              have hD : va_D A [(b1, .inr (1, [.ref b2, .ref b3, .ref b4, .ref b5, .ref b6, .int 0, .int 1, .int vcr])), (b2, .inl (cI, 4, .inl (upd f k 127))), (b3, .inl (cI, 4, .inl g)), (b4, .inl (cI, 16, .inl fo)), (b5, .inl (cI, 16, .inl lv)), (b6, .inl (cI, 16, .inl wk)), (a1, .inr (5, [.ref a2, .ref a3, .int vz, .int (nI wn), .int (nI hn), .int vk])), (a2, .inl (cI, 144, .inl px)), (a3, .inl (cI, 9, .inl md))] := hD
              refine lv_aload_n hx hb d_Block_lookAround_65 rfl (lv_at hl 0 rfl) ?_
              refine va_get (D := D) (ci := 1) (v := .ref b3) (C := "TileForge$Block") (T := T_Block) (N := 8) hx hb hts (cs_in in_Block) hown hK hP 0 rfl rfl 1 (by decide) (hts _ (cs_m mw_186)) (fun _ h9 => h9) rfl d_Block_lookAround_66 ?_
              refine lv_iload hx hb d_Block_lookAround_69 (lv_at hl 4 rfl) ?_
              refine lv_aload_n hx hb d_Block_lookAround_71 rfl (lv_at hl 0 rfl) ?_
              refine va_get (D := D) (ci := 1) (v := .int 1) (C := "TileForge$Block") (T := T_Block) (N := 8) hx hb hts (cs_in in_Block) hown hK hP 0 rfl rfl 6 (by decide) (hts _ (cs_m mw_192)) (fun _ h9 => h9) rfl d_Block_lookAround_72 ?_
              refine lv_if_eq (tgt := 92) hx hb d_Block_lookAround_75 (by decide) (fun c_75 => ?_) (fun c_75 => ?_)
              · exact absurd c_75 (by decide)
              · refine lv_aload_n hx hb d_Block_lookAround_78 rfl (lv_at hl 1 rfl) ?_
                refine lv_iload_n hx hb d_Block_lookAround_79 rfl (lv_at hl 2 rfl) ?_
                refine lv_iconst (v := 1) hx hb d_Block_lookAround_80 (by decide) ?_
                refine lv_isub hx hb d_Block_lookAround_81 ?_
                refine cs_top (y := nI (x - 1)) (cs_pred hx0) ?_
                refine lv_iload_n hx hb d_Block_lookAround_82 rfl (lv_at hl 3 rfl) ?_
                refine lv_iload hx hb d_Block_lookAround_83 (lv_at hl 4 rfl) ?_
                refine lv_iadd hx hb d_Block_lookAround_85 ?_
                refine cs_top (y := nI (y + k)) (nI_add y k) ?_
                refine cs_Vi (As := [.int (nI (x - 1)), .int (nI (y + k))]) (rest := [.int (nI k), .ref b3]) (wr := [(b1, .inr (1, [.ref b2, .ref b3, .ref b4, .ref b5, .ref b6, .int 0, .int 1, .int vcr])), (b2, .inl (cI, 4, .inl (upd f k 127))), (b3, .inl (cI, 4, .inl g)), (b4, .inl (cI, 16, .inl fo)), (b5, .inl (cI, 16, .inl lv)), (b6, .inl (cI, 16, .inl wk))]) ⟨hx, hb, hml, hown, hts⟩ (c_pic_look l hcI a1 a2 a3 px md vz (nI wn) (nI hn) vk (x - 1) (y + k) (by omega) (by omega) (nI_lt (by omega) (by omega)) (nI_lt (by omega) (by omega))) (cwV 2 hts (cs_gV mw_194 mw_195 mw_196 mw_93 mw_92) rfl rfl rfl ⟨rfl, hd_Picture_look⟩ ⟨Nat.le_of_ble_eq_true rfl, Nat.le_of_ble_eq_true rfl⟩) hN hK hP hD hS hA [6, 7, 8] [0, 1, 2, 3, 4, 5] rfl rfl rfl rfl (by decide) (ci := 5) rfl rfl rfl rfl rfl hl.1 (Nat.le_of_ble_eq_true rfl) d_Block_lookAround_86 ⟨Nat.le_of_ble_eq_true rfl, Nat.le_of_ble_eq_true rfl⟩ (fun r1 w1 H locs hw hP hD hS => ?_)
                obtain ⟨rfl, rfl⟩ := hw
                have hP : va_P D vwCl [(b1, .inr (1, [.ref b2, .ref b3, .ref b4, .ref b5, .ref b6, .int 0, .int 1, .int vcr])), (b2, .inl (cI, 4, .inl (upd f k 127))), (b3, .inl (cI, 4, .inl g)), (b4, .inl (cI, 16, .inl fo)), (b5, .inl (cI, 16, .inl lv)), (b6, .inl (cI, 16, .inl wk)), (a1, .inr (5, [.ref a2, .ref a3, .int vz, .int (nI wn), .int (nI hn), .int vk])), (a2, .inl (cI, 144, .inl px)), (a3, .inl (cI, 9, .inl md))] H := hP
                have hD : va_D A [(b1, .inr (1, [.ref b2, .ref b3, .ref b4, .ref b5, .ref b6, .int 0, .int 1, .int vcr])), (b2, .inl (cI, 4, .inl (upd f k 127))), (b3, .inl (cI, 4, .inl g)), (b4, .inl (cI, 16, .inl fo)), (b5, .inl (cI, 16, .inl lv)), (b6, .inl (cI, 16, .inl wk)), (a1, .inr (5, [.ref a2, .ref a3, .int vz, .int (nI wn), .int (nI hn), .int vk])), (a2, .inl (cI, 144, .inl px)), (a3, .inl (cI, 9, .inl md))] := hD
                refine lv_goto (tgt := 95) hx hb d_Block_lookAround_89 (by decide) ?_
                refine cs_iast (j := k) hx hb hK hcI hP hD hS 2 rfl (rfl) (by omega) (by decide) d_Block_lookAround_95 (fun H locs hP hD hS => ?_)
                have hP : va_P D vwCl [(b1, .inr (1, [.ref b2, .ref b3, .ref b4, .ref b5, .ref b6, .int 0, .int 1, .int vcr])), (b2, .inl (cI, 4, .inl (upd f k 127))), (b3, .inl (cI, 4, .inl (upd g k (px ((y + k) * 12 + (x - 1)))))), (b4, .inl (cI, 16, .inl fo)), (b5, .inl (cI, 16, .inl lv)), (b6, .inl (cI, 16, .inl wk)), (a1, .inr (5, [.ref a2, .ref a3, .int vz, .int (nI wn), .int (nI hn), .int vk])), (a2, .inl (cI, 144, .inl px)), (a3, .inl (cI, 9, .inl md))] H := hP
                have hD : va_D A [(b1, .inr (1, [.ref b2, .ref b3, .ref b4, .ref b5, .ref b6, .int 0, .int 1, .int vcr])), (b2, .inl (cI, 4, .inl (upd f k 127))), (b3, .inl (cI, 4, .inl (upd g k (px ((y + k) * 12 + (x - 1)))))), (b4, .inl (cI, 16, .inl fo)), (b5, .inl (cI, 16, .inl lv)), (b6, .inl (cI, 16, .inl wk)), (a1, .inr (5, [.ref a2, .ref a3, .int vz, .int (nI wn), .int (nI hn), .int vk])), (a2, .inl (cI, 144, .inl px)), (a3, .inl (cI, 9, .inl md))] := hD
                refine lv_iinc (v := nI (k + 1)) (lv' := [(4, .int (nI (k + 1))), (0, .ref b1), (1, .ref a1), (2, .int (nI x)), (3, .int (nI y))]) hx hb d_Block_lookAround_96 hl (k := 4) rfl (nI_1 _) (by decide) rfl (fun ls hl => ?_)
                refine lv_goto (tgt := 29) hx hb d_Block_lookAround_99 (by decide) ?_
                exact ih29 (k + 1) (upd f k 127) (upd g k (px ((y + k) * 12 + (x - 1)))) (by omega) (by omega) (cs_ext h1 (by rw [abv, if_pos hy0])) (cs_ext h2 (by rw [lft, if_neg (by omega)])) _ _ _ (hP.sub (ws' := [(b1, .inr (1, [.ref b2, .ref b3, .ref b4, .ref b5, .ref b6, .int 0, .int 1, .int vcr])), (b2, .inl (cI, 4, .inl (upd f k 127))), (b3, .inl (cI, 4, .inl (upd g k (px ((y + k) * 12 + (x - 1)))))), (b4, .inl (cI, 16, .inl fo)), (b5, .inl (cI, 16, .inl lv)), (b6, .inl (cI, 16, .inl wk)), (a1, .inr (5, [.ref a2, .ref a3, .int vz, .int (nI wn), .int (nI hn), .int vk])), (a2, .inl (cI, 144, .inl px)), (a3, .inl (cI, 9, .inl md))]) [0, 1, 2, 3, 4, 5, 6, 7, 8] rfl) (hD.sub (ws' := [(b1, .inr (1, [.ref b2, .ref b3, .ref b4, .ref b5, .ref b6, .int 0, .int 1, .int vcr])), (b2, .inl (cI, 4, .inl (upd f k 127))), (b3, .inl (cI, 4, .inl (upd g k (px ((y + k) * 12 + (x - 1)))))), (b4, .inl (cI, 16, .inl fo)), (b5, .inl (cI, 16, .inl lv)), (b6, .inl (cI, 16, .inl wk)), (a1, .inr (5, [.ref a2, .ref a3, .int vz, .int (nI wn), .int (nI hn), .int vk])), (a2, .inl (cI, 144, .inl px)), (a3, .inl (cI, 9, .inl md))]) [0, 1, 2, 3, 4, 5, 6, 7, 8] (by decide) rfl) hS (lv_sub hl [1, 2, 3, 4, 0] rfl)
            · exact absurd c_45 (by decide)
      exact lp29 (5) 0 ab lf (by omega) (by omega) (fun j hj => absurd hj (by omega)) (fun j hj => absurd hj (by omega)) _ _ _ (hP.sub (ws' := [(b1, .inr (1, [.ref b2, .ref b3, .ref b4, .ref b5, .ref b6, .int 0, .int 1, .int vcr])), (b2, .inl (cI, 4, .inl ab)), (b3, .inl (cI, 4, .inl lf)), (b4, .inl (cI, 16, .inl fo)), (b5, .inl (cI, 16, .inl lv)), (b6, .inl (cI, 16, .inl wk)), (a1, .inr (5, [.ref a2, .ref a3, .int vz, .int (nI wn), .int (nI hn), .int vk])), (a2, .inl (cI, 144, .inl px)), (a3, .inl (cI, 9, .inl md))]) [0, 1, 2, 3, 4, 5, 6, 7, 8] rfl) (hD.sub (ws' := [(b1, .inr (1, [.ref b2, .ref b3, .ref b4, .ref b5, .ref b6, .int 0, .int 1, .int vcr])), (b2, .inl (cI, 4, .inl ab)), (b3, .inl (cI, 4, .inl lf)), (b4, .inl (cI, 16, .inl fo)), (b5, .inl (cI, 16, .inl lv)), (b6, .inl (cI, 16, .inl wk)), (a1, .inr (5, [.ref a2, .ref a3, .int vz, .int (nI wn), .int (nI hn), .int vk])), (a2, .inl (cI, 144, .inl px)), (a3, .inl (cI, 9, .inl md))]) [0, 1, 2, 3, 4, 5, 6, 7, 8] (by decide) rfl) hS (lv_sub hl [1, 2, 3, 4, 0] rfl)
  · have hy0 : 0 < y := cs_gt0 c_2
    refine lv_iconst (v := 1) hx hb d_Block_lookAround_5 (by decide) ?_
    refine lv_goto (tgt := 10) hx hb d_Block_lookAround_6 (by decide) ?_
    refine va_put (D := D) (ci := 1) (v := .int 1) (ty := .boolean) (C := "TileForge$Block") (T := T_Block) (N := 8) hx hb hts (cs_in in_Block) ty_Block tok_Block nm_Block hown hK hP hD hS 0 rfl rfl 5 (by decide) (hts _ (cs_m mw_191)) (fun _ h9 => h9) rfl (by decide +kernel) rfl rfl (Nat.le_of_ble_eq_true rfl) d_Block_lookAround_10 (fun H locs hP hD hS => ?_)
    have hP : va_P D vwCl [(b1, .inr (1, [.ref b2, .ref b3, .ref b4, .ref b5, .ref b6, .int 1, .int vc, .int vcr])), (b2, .inl (cI, 4, .inl ab)), (b3, .inl (cI, 4, .inl lf)), (b4, .inl (cI, 16, .inl fo)), (b5, .inl (cI, 16, .inl lv)), (b6, .inl (cI, 16, .inl wk)), (a1, .inr (5, [.ref a2, .ref a3, .int vz, .int (nI wn), .int (nI hn), .int vk])), (a2, .inl (cI, 144, .inl px)), (a3, .inl (cI, 9, .inl md))] H := hP
    have hD : va_D A [(b1, .inr (1, [.ref b2, .ref b3, .ref b4, .ref b5, .ref b6, .int 1, .int vc, .int vcr])), (b2, .inl (cI, 4, .inl ab)), (b3, .inl (cI, 4, .inl lf)), (b4, .inl (cI, 16, .inl fo)), (b5, .inl (cI, 16, .inl lv)), (b6, .inl (cI, 16, .inl wk)), (a1, .inr (5, [.ref a2, .ref a3, .int vz, .int (nI wn), .int (nI hn), .int vk])), (a2, .inl (cI, 144, .inl px)), (a3, .inl (cI, 9, .inl md))] := hD
    refine lv_aload_n hx hb d_Block_lookAround_13 rfl (lv_at hl 0 rfl) ?_
    refine lv_iload_n hx hb d_Block_lookAround_14 rfl (lv_at hl 2 rfl) ?_
    refine lv_if_le (tgt := 22) hx hb d_Block_lookAround_15 (by decide) (fun c_15 => ?_) (fun c_15 => ?_)
    · have hx0 : x = 0 := cs_le0 c_15 (by omega)
      refine lv_iconst (v := 0) hx hb d_Block_lookAround_22 (by decide) ?_
      refine va_put (D := D) (ci := 1) (v := .int 0) (ty := .boolean) (C := "TileForge$Block") (T := T_Block) (N := 8) hx hb hts (cs_in in_Block) ty_Block tok_Block nm_Block hown hK hP hD hS 0 rfl rfl 6 (by decide) (hts _ (cs_m mw_192)) (fun _ h9 => h9) rfl (by decide +kernel) rfl rfl (Nat.le_of_ble_eq_true rfl) d_Block_lookAround_23 (fun H locs hP hD hS => ?_)
      have hP : va_P D vwCl [(b1, .inr (1, [.ref b2, .ref b3, .ref b4, .ref b5, .ref b6, .int 1, .int 0, .int vcr])), (b2, .inl (cI, 4, .inl ab)), (b3, .inl (cI, 4, .inl lf)), (b4, .inl (cI, 16, .inl fo)), (b5, .inl (cI, 16, .inl lv)), (b6, .inl (cI, 16, .inl wk)), (a1, .inr (5, [.ref a2, .ref a3, .int vz, .int (nI wn), .int (nI hn), .int vk])), (a2, .inl (cI, 144, .inl px)), (a3, .inl (cI, 9, .inl md))] H := hP
      have hD : va_D A [(b1, .inr (1, [.ref b2, .ref b3, .ref b4, .ref b5, .ref b6, .int 1, .int 0, .int vcr])), (b2, .inl (cI, 4, .inl ab)), (b3, .inl (cI, 4, .inl lf)), (b4, .inl (cI, 16, .inl fo)), (b5, .inl (cI, 16, .inl lv)), (b6, .inl (cI, 16, .inl wk)), (a1, .inr (5, [.ref a2, .ref a3, .int vz, .int (nI wn), .int (nI hn), .int vk])), (a2, .inl (cI, 144, .inl px)), (a3, .inl (cI, 9, .inl md))] := hD
      refine lv_iconst (v := 0) hx hb d_Block_lookAround_26 (by decide) ?_
      refine lv_istore (lv' := [(4, .int 0), (0, .ref b1), (1, .ref a1), (2, .int (nI x)), (3, .int (nI y))]) hx hb d_Block_lookAround_27 hl (by decide) rfl (fun ls hl => ?_)
      have lp29 : ∀ (n : Nat) (k : Nat) (f : Nat → Int32) (g : Nat → Int32), (5 ≤ k + n) → (k ≤ 4) → (∀ j, j < k → f j = abv px x y j) → (∀ j, j < k → g j = lft px x y j) → ∀ (H : Heap) (locs : List Loc) (ls : Array Slot), va_P D vwCl [(b1, .inr (1, [.ref b2, .ref b3, .ref b4, .ref b5, .ref b6, .int 1, .int 0, .int vcr])), (b2, .inl (cI, 4, .inl f)), (b3, .inl (cI, 4, .inl g)), (b4, .inl (cI, 16, .inl fo)), (b5, .inl (cI, 16, .inl lv)), (b6, .inl (cI, 16, .inl wk)), (a1, .inr (5, [.ref a2, .ref a3, .int vz, .int (nI wn), .int (nI hn), .int vk])), (a2, .inl (cI, 144, .inl px)), (a3, .inl (cI, 9, .inl md))] H → va_D A [(b1, .inr (1, [.ref b2, .ref b3, .ref b4, .ref b5, .ref b6, .int 1, .int 0, .int vcr])), (b2, .inl (cI, 4, .inl f)), (b3, .inl (cI, 4, .inl g)), (b4, .inl (cI, 16, .inl fo)), (b5, .inl (cI, 16, .inl lv)), (b6, .inl (cI, 16, .inl wk)), (a1, .inr (5, [.ref a2, .ref a3, .int vz, .int (nI wn), .int (nI hn), .int vk])), (a2, .inl (cI, 144, .inl px)), (a3, .inl (cI, 9, .inl md))] → va_S A s.heap H locs → lv_has ls 5 [(0, .ref b1), (1, .ref a1), (2, .int (nI x)), (3, .int (nI y)), (4, .int (nI k))] → W p l e ({ frames := 2, cells := 0, slots := 0, locals := 44 } : Room) s m ([.ref b1, .ref a1, .int (nI x), .int (nI y)] : List Value).toArray below meth c H locs 0 0 (MQ below (va_Qv (q_bl_look cI b1 b2 b3 b4 b5 b6 ab lf fo lv wk vr vc vcr a1 a2 a3 px md vz vk wn hn x y) (cs_B D vwCl tys A) A) ([.ref b1, .ref a1, .int (nI x), .int (nI y)] : List Value).toArray s 0 0 A) (F0 m 29 ls []) := by
        intro n
        induction n with
        | zero =>
          intro k f g hf hk h1 h2
          exact absurd hf (by omega)
        | succ n ih29 =>
          intro k f g hf hk h1 h2 H locs ls hP hD hS hl
          refine lv_iload hx hb d_Block_lookAround_29 (lv_at hl 4 rfl) ?_
          refine lv_iconst (v := 4) hx hb d_Block_lookAround_31 (by decide) ?_
          refine lv_icmp_ge (tgt := 102) hx hb d_Block_lookAround_32 (by decide) (fun c_32 => ?_) (fun c_32 => ?_)
          · have hk2 := (nI_leI (a := 4) (b := k) (by decide) (by omega)).mp c_32
            have hk3 : k = 4 := by omega
            subst hk3
            refine lv_aload_n hx hb d_Block_lookAround_102 rfl (lv_at hl 0 rfl) ?_
            refine lv_bipush (v := 127) hx hb d_Block_lookAround_103 (by decide) ?_
            refine va_put (D := D) (ci := 1) (v := .int 127) (ty := .int) (C := "TileForge$Block") (T := T_Block) (N := 8) hx hb hts (cs_in in_Block) ty_Block tok_Block nm_Block hown hK hP hD hS 0 rfl rfl 7 (by decide) (hts _ (cs_m mw_193)) (fun _ h9 => h9) rfl (by decide +kernel) rfl rfl (Nat.le_of_ble_eq_true rfl) d_Block_lookAround_105 (fun H locs hP hD hS => ?_)
            have hP : va_P D vwCl [(b1, .inr (1, [.ref b2, .ref b3, .ref b4, .ref b5, .ref b6, .int 1, .int 0, .int 127])), (b2, .inl (cI, 4, .inl f)), (b3, .inl (cI, 4, .inl g)), (b4, .inl (cI, 16, .inl fo)), (b5, .inl (cI, 16, .inl lv)), (b6, .inl (cI, 16, .inl wk)), (a1, .inr (5, [.ref a2, .ref a3, .int vz, .int (nI wn), .int (nI hn), .int vk])), (a2, .inl (cI, 144, .inl px)), (a3, .inl (cI, 9, .inl md))] H := hP
            have hD : va_D A [(b1, .inr (1, [.ref b2, .ref b3, .ref b4, .ref b5, .ref b6, .int 1, .int 0, .int 127])), (b2, .inl (cI, 4, .inl f)), (b3, .inl (cI, 4, .inl g)), (b4, .inl (cI, 16, .inl fo)), (b5, .inl (cI, 16, .inl lv)), (b6, .inl (cI, 16, .inl wk)), (a1, .inr (5, [.ref a2, .ref a3, .int vz, .int (nI wn), .int (nI hn), .int vk])), (a2, .inl (cI, 144, .inl px)), (a3, .inl (cI, 9, .inl md))] := hD
            refine lv_aload_n hx hb d_Block_lookAround_108 rfl (lv_at hl 0 rfl) ?_
            refine va_get (D := D) (ci := 1) (v := .int 1) (C := "TileForge$Block") (T := T_Block) (N := 8) hx hb hts (cs_in in_Block) hown hK hP 0 rfl rfl 5 (by decide) (hts _ (cs_m mw_191)) (fun _ h9 => h9) rfl d_Block_lookAround_109 ?_
            refine lv_if_eq (tgt := 142) hx hb d_Block_lookAround_112 (by decide) (fun c_112 => ?_) (fun c_112 => ?_)
            · exact absurd c_112 (by decide)
            · refine lv_aload_n hx hb d_Block_lookAround_115 rfl (lv_at hl 0 rfl) ?_
              refine lv_aload_n hx hb d_Block_lookAround_116 rfl (lv_at hl 0 rfl) ?_
              refine va_get (D := D) (ci := 1) (v := .int 0) (C := "TileForge$Block") (T := T_Block) (N := 8) hx hb hts (cs_in in_Block) hown hK hP 0 rfl rfl 6 (by decide) (hts _ (cs_m mw_192)) (fun _ h9 => h9) rfl d_Block_lookAround_117 ?_
              refine lv_if_eq (tgt := 136) hx hb d_Block_lookAround_120 (by decide) (fun c_120 => ?_) (fun c_120 => ?_)
              · refine lv_sipush (v := 129) hx hb d_Block_lookAround_136 (by decide) ?_
                refine va_put (D := D) (ci := 1) (v := .int 129) (ty := .int) (C := "TileForge$Block") (T := T_Block) (N := 8) hx hb hts (cs_in in_Block) ty_Block tok_Block nm_Block hown hK hP hD hS 0 rfl rfl 7 (by decide) (hts _ (cs_m mw_193)) (fun _ h9 => h9) rfl (by decide +kernel) rfl rfl (Nat.le_of_ble_eq_true rfl) d_Block_lookAround_139 (fun H locs hP hD hS => ?_)
                have hP : va_P D vwCl [(b1, .inr (1, [.ref b2, .ref b3, .ref b4, .ref b5, .ref b6, .int 1, .int 0, .int 129])), (b2, .inl (cI, 4, .inl f)), (b3, .inl (cI, 4, .inl g)), (b4, .inl (cI, 16, .inl fo)), (b5, .inl (cI, 16, .inl lv)), (b6, .inl (cI, 16, .inl wk)), (a1, .inr (5, [.ref a2, .ref a3, .int vz, .int (nI wn), .int (nI hn), .int vk])), (a2, .inl (cI, 144, .inl px)), (a3, .inl (cI, 9, .inl md))] H := hP
                have hD : va_D A [(b1, .inr (1, [.ref b2, .ref b3, .ref b4, .ref b5, .ref b6, .int 1, .int 0, .int 129])), (b2, .inl (cI, 4, .inl f)), (b3, .inl (cI, 4, .inl g)), (b4, .inl (cI, 16, .inl fo)), (b5, .inl (cI, 16, .inl lv)), (b6, .inl (cI, 16, .inl wk)), (a1, .inr (5, [.ref a2, .ref a3, .int vz, .int (nI wn), .int (nI hn), .int vk])), (a2, .inl (cI, 144, .inl px)), (a3, .inl (cI, 9, .inl md))] := hD
                exact W.vret hx hb hr (fun t ht hW => ⟨⟨[(b1, .inr (1, [.ref b2, .ref b3, .ref b4, .ref b5, .ref b6, .int 1, .int 0, .int 129])), (b2, .inl (cI, 4, .inl f)), (b3, .inl (cI, 4, .inl g)), (b4, .inl (cI, 16, .inl fo)), (b5, .inl (cI, 16, .inl lv)), (b6, .inl (cI, 16, .inl wk)), (a1, .inr (5, [.ref a2, .ref a3, .int vz, .int (nI wn), .int (nI hn), .int vk])), (a2, .inl (cI, 144, .inl px)), (a3, .inl (cI, 9, .inl md))], rfl, ⟨f, g, (h1), (h2), (by simp [b2i, crn, hy0, hx0, Nat.ne_of_gt hy0])⟩, by rw [ht]; exact hP, va_K.moved hW.alike hK, hD⟩, hS.F ht⟩) hS.2.2 d_Block_lookAround_142
              · exact absurd c_120 (by decide)
          · have hk2 : k < 4 := Nat.not_le.mp (fun h => c_32 ((nI_leI (a := 4) (b := k) (by decide) (by omega)).mpr h))
            refine lv_aload_n hx hb d_Block_lookAround_35 rfl (lv_at hl 0 rfl) ?_
            refine va_get (D := D) (ci := 1) (v := .ref b2) (C := "TileForge$Block") (T := T_Block) (N := 8) hx hb hts (cs_in in_Block) hown hK hP 0 rfl rfl 0 (by decide) (hts _ (cs_m mw_185)) (fun _ h9 => h9) rfl d_Block_lookAround_36 ?_
            refine lv_iload hx hb d_Block_lookAround_39 (lv_at hl 4 rfl) ?_
            refine lv_aload_n hx hb d_Block_lookAround_41 rfl (lv_at hl 0 rfl) ?_
            refine va_get (D := D) (ci := 1) (v := .int 1) (C := "TileForge$Block") (T := T_Block) (N := 8) hx hb hts (cs_in in_Block) hown hK hP 0 rfl rfl 5 (by decide) (hts _ (cs_m mw_191)) (fun _ h9 => h9) rfl d_Block_lookAround_42 ?_
            refine lv_if_eq (tgt := 62) hx hb d_Block_lookAround_45 (by decide) (fun c_45 => ?_) (fun c_45 => ?_)
            · exact absurd c_45 (by decide)
            · refine lv_aload_n hx hb d_Block_lookAround_48 rfl (lv_at hl 1 rfl) ?_
              refine lv_iload_n hx hb d_Block_lookAround_49 rfl (lv_at hl 2 rfl) ?_
              refine lv_iload hx hb d_Block_lookAround_50 (lv_at hl 4 rfl) ?_
              refine lv_iadd hx hb d_Block_lookAround_52 ?_
              refine cs_top (y := nI (x + k)) (nI_add x k) ?_
              refine lv_iload_n hx hb d_Block_lookAround_53 rfl (lv_at hl 3 rfl) ?_
              refine lv_iconst (v := 1) hx hb d_Block_lookAround_54 (by decide) ?_
              refine lv_isub hx hb d_Block_lookAround_55 ?_
              refine cs_top (y := nI (y - 1)) (cs_pred hy0) ?_
              refine cs_Vi (As := [.int (nI (x + k)), .int (nI (y - 1))]) (rest := [.int (nI k), .ref b2]) (wr := [(b1, .inr (1, [.ref b2, .ref b3, .ref b4, .ref b5, .ref b6, .int 1, .int 0, .int vcr])), (b2, .inl (cI, 4, .inl f)), (b3, .inl (cI, 4, .inl g)), (b4, .inl (cI, 16, .inl fo)), (b5, .inl (cI, 16, .inl lv)), (b6, .inl (cI, 16, .inl wk))]) ⟨hx, hb, hml, hown, hts⟩ (c_pic_look l hcI a1 a2 a3 px md vz (nI wn) (nI hn) vk (x + k) (y - 1) (by omega) (by omega) (nI_lt (by omega) (by omega)) (nI_lt (by omega) (by omega))) (cwV 2 hts (cs_gV mw_194 mw_195 mw_196 mw_93 mw_92) rfl rfl rfl ⟨rfl, hd_Picture_look⟩ ⟨Nat.le_of_ble_eq_true rfl, Nat.le_of_ble_eq_true rfl⟩) hN hK hP hD hS hA [6, 7, 8] [0, 1, 2, 3, 4, 5] rfl rfl rfl rfl (by decide) (ci := 5) rfl rfl rfl rfl rfl hl.1 (Nat.le_of_ble_eq_true rfl) d_Block_lookAround_56 ⟨Nat.le_of_ble_eq_true rfl, Nat.le_of_ble_eq_true rfl⟩ (fun r2 w1 H locs hw hP hD hS => ?_)
              obtain ⟨rfl, rfl⟩ := hw
              have hP : va_P D vwCl [(b1, .inr (1, [.ref b2, .ref b3, .ref b4, .ref b5, .ref b6, .int 1, .int 0, .int vcr])), (b2, .inl (cI, 4, .inl f)), (b3, .inl (cI, 4, .inl g)), (b4, .inl (cI, 16, .inl fo)), (b5, .inl (cI, 16, .inl lv)), (b6, .inl (cI, 16, .inl wk)), (a1, .inr (5, [.ref a2, .ref a3, .int vz, .int (nI wn), .int (nI hn), .int vk])), (a2, .inl (cI, 144, .inl px)), (a3, .inl (cI, 9, .inl md))] H := hP
              have hD : va_D A [(b1, .inr (1, [.ref b2, .ref b3, .ref b4, .ref b5, .ref b6, .int 1, .int 0, .int vcr])), (b2, .inl (cI, 4, .inl f)), (b3, .inl (cI, 4, .inl g)), (b4, .inl (cI, 16, .inl fo)), (b5, .inl (cI, 16, .inl lv)), (b6, .inl (cI, 16, .inl wk)), (a1, .inr (5, [.ref a2, .ref a3, .int vz, .int (nI wn), .int (nI hn), .int vk])), (a2, .inl (cI, 144, .inl px)), (a3, .inl (cI, 9, .inl md))] := hD
              refine lv_goto (tgt := 64) hx hb d_Block_lookAround_59 (by decide) ?_
              refine cs_iast (j := k) hx hb hK hcI hP hD hS 1 rfl (rfl) (by omega) (by decide) d_Block_lookAround_64 (fun H locs hP hD hS => ?_)
              have hP : va_P D vwCl [(b1, .inr (1, [.ref b2, .ref b3, .ref b4, .ref b5, .ref b6, .int 1, .int 0, .int vcr])), (b2, .inl (cI, 4, .inl (upd f k (px ((y - 1) * 12 + (x + k)))))), (b3, .inl (cI, 4, .inl g)), (b4, .inl (cI, 16, .inl fo)), (b5, .inl (cI, 16, .inl lv)), (b6, .inl (cI, 16, .inl wk)), (a1, .inr (5, [.ref a2, .ref a3, .int vz, .int (nI wn), .int (nI hn), .int vk])), (a2, .inl (cI, 144, .inl px)), (a3, .inl (cI, 9, .inl md))] H := hP
              have hD : va_D A [(b1, .inr (1, [.ref b2, .ref b3, .ref b4, .ref b5, .ref b6, .int 1, .int 0, .int vcr])), (b2, .inl (cI, 4, .inl (upd f k (px ((y - 1) * 12 + (x + k)))))), (b3, .inl (cI, 4, .inl g)), (b4, .inl (cI, 16, .inl fo)), (b5, .inl (cI, 16, .inl lv)), (b6, .inl (cI, 16, .inl wk)), (a1, .inr (5, [.ref a2, .ref a3, .int vz, .int (nI wn), .int (nI hn), .int vk])), (a2, .inl (cI, 144, .inl px)), (a3, .inl (cI, 9, .inl md))] := hD
              refine lv_aload_n hx hb d_Block_lookAround_65 rfl (lv_at hl 0 rfl) ?_
              refine va_get (D := D) (ci := 1) (v := .ref b3) (C := "TileForge$Block") (T := T_Block) (N := 8) hx hb hts (cs_in in_Block) hown hK hP 0 rfl rfl 1 (by decide) (hts _ (cs_m mw_186)) (fun _ h9 => h9) rfl d_Block_lookAround_66 ?_
              refine lv_iload hx hb d_Block_lookAround_69 (lv_at hl 4 rfl) ?_
              refine lv_aload_n hx hb d_Block_lookAround_71 rfl (lv_at hl 0 rfl) ?_
              refine va_get (D := D) (ci := 1) (v := .int 0) (C := "TileForge$Block") (T := T_Block) (N := 8) hx hb hts (cs_in in_Block) hown hK hP 0 rfl rfl 6 (by decide) (hts _ (cs_m mw_192)) (fun _ h9 => h9) rfl d_Block_lookAround_72 ?_
              refine lv_if_eq (tgt := 92) hx hb d_Block_lookAround_75 (by decide) (fun c_75 => ?_) (fun c_75 => ?_)
              · refine lv_sipush (v := 129) hx hb d_Block_lookAround_92 (by decide) ?_
                refine cs_iast (j := k) hx hb hK hcI hP hD hS 2 rfl (rfl) (by omega) (by decide) d_Block_lookAround_95 (fun H locs hP hD hS => ?_)
                have hP : va_P D vwCl [(b1, .inr (1, [.ref b2, .ref b3, .ref b4, .ref b5, .ref b6, .int 1, .int 0, .int vcr])), (b2, .inl (cI, 4, .inl (upd f k (px ((y - 1) * 12 + (x + k)))))), (b3, .inl (cI, 4, .inl (upd g k 129))), (b4, .inl (cI, 16, .inl fo)), (b5, .inl (cI, 16, .inl lv)), (b6, .inl (cI, 16, .inl wk)), (a1, .inr (5, [.ref a2, .ref a3, .int vz, .int (nI wn), .int (nI hn), .int vk])), (a2, .inl (cI, 144, .inl px)), (a3, .inl (cI, 9, .inl md))] H := hP
                have hD : va_D A [(b1, .inr (1, [.ref b2, .ref b3, .ref b4, .ref b5, .ref b6, .int 1, .int 0, .int vcr])), (b2, .inl (cI, 4, .inl (upd f k (px ((y - 1) * 12 + (x + k)))))), (b3, .inl (cI, 4, .inl (upd g k 129))), (b4, .inl (cI, 16, .inl fo)), (b5, .inl (cI, 16, .inl lv)), (b6, .inl (cI, 16, .inl wk)), (a1, .inr (5, [.ref a2, .ref a3, .int vz, .int (nI wn), .int (nI hn), .int vk])), (a2, .inl (cI, 144, .inl px)), (a3, .inl (cI, 9, .inl md))] := hD
                refine lv_iinc (v := nI (k + 1)) (lv' := [(4, .int (nI (k + 1))), (0, .ref b1), (1, .ref a1), (2, .int (nI x)), (3, .int (nI y))]) hx hb d_Block_lookAround_96 hl (k := 4) rfl (nI_1 _) (by decide) rfl (fun ls hl => ?_)
                refine lv_goto (tgt := 29) hx hb d_Block_lookAround_99 (by decide) ?_
                exact ih29 (k + 1) (upd f k (px ((y - 1) * 12 + (x + k)))) (upd g k 129) (by omega) (by omega) (cs_ext h1 (by rw [abv, if_neg (by omega)])) (cs_ext h2 (by rw [lft, if_pos hx0])) _ _ _ (hP.sub (ws' := [(b1, .inr (1, [.ref b2, .ref b3, .ref b4, .ref b5, .ref b6, .int 1, .int 0, .int vcr])), (b2, .inl (cI, 4, .inl (upd f k (px ((y - 1) * 12 + (x + k)))))), (b3, .inl (cI, 4, .inl (upd g k 129))), (b4, .inl (cI, 16, .inl fo)), (b5, .inl (cI, 16, .inl lv)), (b6, .inl (cI, 16, .inl wk)), (a1, .inr (5, [.ref a2, .ref a3, .int vz, .int (nI wn), .int (nI hn), .int vk])), (a2, .inl (cI, 144, .inl px)), (a3, .inl (cI, 9, .inl md))]) [0, 1, 2, 3, 4, 5, 6, 7, 8] rfl) (hD.sub (ws' := [(b1, .inr (1, [.ref b2, .ref b3, .ref b4, .ref b5, .ref b6, .int 1, .int 0, .int vcr])), (b2, .inl (cI, 4, .inl (upd f k (px ((y - 1) * 12 + (x + k)))))), (b3, .inl (cI, 4, .inl (upd g k 129))), (b4, .inl (cI, 16, .inl fo)), (b5, .inl (cI, 16, .inl lv)), (b6, .inl (cI, 16, .inl wk)), (a1, .inr (5, [.ref a2, .ref a3, .int vz, .int (nI wn), .int (nI hn), .int vk])), (a2, .inl (cI, 144, .inl px)), (a3, .inl (cI, 9, .inl md))]) [0, 1, 2, 3, 4, 5, 6, 7, 8] (by decide) rfl) hS (lv_sub hl [1, 2, 3, 4, 0] rfl)
              · exact absurd c_75 (by decide)
      exact lp29 (5) 0 ab lf (by omega) (by omega) (fun j hj => absurd hj (by omega)) (fun j hj => absurd hj (by omega)) _ _ _ (hP.sub (ws' := [(b1, .inr (1, [.ref b2, .ref b3, .ref b4, .ref b5, .ref b6, .int 1, .int 0, .int vcr])), (b2, .inl (cI, 4, .inl ab)), (b3, .inl (cI, 4, .inl lf)), (b4, .inl (cI, 16, .inl fo)), (b5, .inl (cI, 16, .inl lv)), (b6, .inl (cI, 16, .inl wk)), (a1, .inr (5, [.ref a2, .ref a3, .int vz, .int (nI wn), .int (nI hn), .int vk])), (a2, .inl (cI, 144, .inl px)), (a3, .inl (cI, 9, .inl md))]) [0, 1, 2, 3, 4, 5, 6, 7, 8] rfl) (hD.sub (ws' := [(b1, .inr (1, [.ref b2, .ref b3, .ref b4, .ref b5, .ref b6, .int 1, .int 0, .int vcr])), (b2, .inl (cI, 4, .inl ab)), (b3, .inl (cI, 4, .inl lf)), (b4, .inl (cI, 16, .inl fo)), (b5, .inl (cI, 16, .inl lv)), (b6, .inl (cI, 16, .inl wk)), (a1, .inr (5, [.ref a2, .ref a3, .int vz, .int (nI wn), .int (nI hn), .int vk])), (a2, .inl (cI, 144, .inl px)), (a3, .inl (cI, 9, .inl md))]) [0, 1, 2, 3, 4, 5, 6, 7, 8] (by decide) rfl) hS (lv_sub hl [1, 2, 3, 4, 0] rfl)
    · have hx0 : 0 < x := cs_gt0 c_15
      refine lv_iconst (v := 1) hx hb d_Block_lookAround_18 (by decide) ?_
      refine lv_goto (tgt := 23) hx hb d_Block_lookAround_19 (by decide) ?_
      refine va_put (D := D) (ci := 1) (v := .int 1) (ty := .boolean) (C := "TileForge$Block") (T := T_Block) (N := 8) hx hb hts (cs_in in_Block) ty_Block tok_Block nm_Block hown hK hP hD hS 0 rfl rfl 6 (by decide) (hts _ (cs_m mw_192)) (fun _ h9 => h9) rfl (by decide +kernel) rfl rfl (Nat.le_of_ble_eq_true rfl) d_Block_lookAround_23 (fun H locs hP hD hS => ?_)
      have hP : va_P D vwCl [(b1, .inr (1, [.ref b2, .ref b3, .ref b4, .ref b5, .ref b6, .int 1, .int 1, .int vcr])), (b2, .inl (cI, 4, .inl ab)), (b3, .inl (cI, 4, .inl lf)), (b4, .inl (cI, 16, .inl fo)), (b5, .inl (cI, 16, .inl lv)), (b6, .inl (cI, 16, .inl wk)), (a1, .inr (5, [.ref a2, .ref a3, .int vz, .int (nI wn), .int (nI hn), .int vk])), (a2, .inl (cI, 144, .inl px)), (a3, .inl (cI, 9, .inl md))] H := hP
      have hD : va_D A [(b1, .inr (1, [.ref b2, .ref b3, .ref b4, .ref b5, .ref b6, .int 1, .int 1, .int vcr])), (b2, .inl (cI, 4, .inl ab)), (b3, .inl (cI, 4, .inl lf)), (b4, .inl (cI, 16, .inl fo)), (b5, .inl (cI, 16, .inl lv)), (b6, .inl (cI, 16, .inl wk)), (a1, .inr (5, [.ref a2, .ref a3, .int vz, .int (nI wn), .int (nI hn), .int vk])), (a2, .inl (cI, 144, .inl px)), (a3, .inl (cI, 9, .inl md))] := hD
      refine lv_iconst (v := 0) hx hb d_Block_lookAround_26 (by decide) ?_
      refine lv_istore (lv' := [(4, .int 0), (0, .ref b1), (1, .ref a1), (2, .int (nI x)), (3, .int (nI y))]) hx hb d_Block_lookAround_27 hl (by decide) rfl (fun ls hl => ?_)
      have lp29 : ∀ (n : Nat) (k : Nat) (f : Nat → Int32) (g : Nat → Int32), (5 ≤ k + n) → (k ≤ 4) → (∀ j, j < k → f j = abv px x y j) → (∀ j, j < k → g j = lft px x y j) → ∀ (H : Heap) (locs : List Loc) (ls : Array Slot), va_P D vwCl [(b1, .inr (1, [.ref b2, .ref b3, .ref b4, .ref b5, .ref b6, .int 1, .int 1, .int vcr])), (b2, .inl (cI, 4, .inl f)), (b3, .inl (cI, 4, .inl g)), (b4, .inl (cI, 16, .inl fo)), (b5, .inl (cI, 16, .inl lv)), (b6, .inl (cI, 16, .inl wk)), (a1, .inr (5, [.ref a2, .ref a3, .int vz, .int (nI wn), .int (nI hn), .int vk])), (a2, .inl (cI, 144, .inl px)), (a3, .inl (cI, 9, .inl md))] H → va_D A [(b1, .inr (1, [.ref b2, .ref b3, .ref b4, .ref b5, .ref b6, .int 1, .int 1, .int vcr])), (b2, .inl (cI, 4, .inl f)), (b3, .inl (cI, 4, .inl g)), (b4, .inl (cI, 16, .inl fo)), (b5, .inl (cI, 16, .inl lv)), (b6, .inl (cI, 16, .inl wk)), (a1, .inr (5, [.ref a2, .ref a3, .int vz, .int (nI wn), .int (nI hn), .int vk])), (a2, .inl (cI, 144, .inl px)), (a3, .inl (cI, 9, .inl md))] → va_S A s.heap H locs → lv_has ls 5 [(0, .ref b1), (1, .ref a1), (2, .int (nI x)), (3, .int (nI y)), (4, .int (nI k))] → W p l e ({ frames := 2, cells := 0, slots := 0, locals := 44 } : Room) s m ([.ref b1, .ref a1, .int (nI x), .int (nI y)] : List Value).toArray below meth c H locs 0 0 (MQ below (va_Qv (q_bl_look cI b1 b2 b3 b4 b5 b6 ab lf fo lv wk vr vc vcr a1 a2 a3 px md vz vk wn hn x y) (cs_B D vwCl tys A) A) ([.ref b1, .ref a1, .int (nI x), .int (nI y)] : List Value).toArray s 0 0 A) (F0 m 29 ls []) := by
        intro n
        induction n with
        | zero =>
          intro k f g hf hk h1 h2
          exact absurd hf (by omega)
        | succ n ih29 =>
          intro k f g hf hk h1 h2 H locs ls hP hD hS hl
          refine lv_iload hx hb d_Block_lookAround_29 (lv_at hl 4 rfl) ?_
          refine lv_iconst (v := 4) hx hb d_Block_lookAround_31 (by decide) ?_
          refine lv_icmp_ge (tgt := 102) hx hb d_Block_lookAround_32 (by decide) (fun c_32 => ?_) (fun c_32 => ?_)
          · have hk2 := (nI_leI (a := 4) (b := k) (by decide) (by omega)).mp c_32
            have hk3 : k = 4 := by omega
            subst hk3
            refine lv_aload_n hx hb d_Block_lookAround_102 rfl (lv_at hl 0 rfl) ?_
            refine lv_bipush (v := 127) hx hb d_Block_lookAround_103 (by decide) ?_
            refine va_put (D := D) (ci := 1) (v := .int 127) (ty := .int) (C := "TileForge$Block") (T := T_Block) (N := 8) hx hb hts (cs_in in_Block) ty_Block tok_Block nm_Block hown hK hP hD hS 0 rfl rfl 7 (by decide) (hts _ (cs_m mw_193)) (fun _ h9 => h9) rfl (by decide +kernel) rfl rfl (Nat.le_of_ble_eq_true rfl) d_Block_lookAround_105 (fun H locs hP hD hS => ?_)
            have hP : va_P D vwCl [(b1, .inr (1, [.ref b2, .ref b3, .ref b4, .ref b5, .ref b6, .int 1, .int 1, .int 127])), (b2, .inl (cI, 4, .inl f)), (b3, .inl (cI, 4, .inl g)), (b4, .inl (cI, 16, .inl fo)), (b5, .inl (cI, 16, .inl lv)), (b6, .inl (cI, 16, .inl wk)), (a1, .inr (5, [.ref a2, .ref a3, .int vz, .int (nI wn), .int (nI hn), .int vk])), (a2, .inl (cI, 144, .inl px)), (a3, .inl (cI, 9, .inl md))] H := hP
            have hD : va_D A [(b1, .inr (1, [.ref b2, .ref b3, .ref b4, .ref b5, .ref b6, .int 1, .int 1, .int 127])), (b2, .inl (cI, 4, .inl f)), (b3, .inl (cI, 4, .inl g)), (b4, .inl (cI, 16, .inl fo)), (b5, .inl (cI, 16, .inl lv)), (b6, .inl (cI, 16, .inl wk)), (a1, .inr (5, [.ref a2, .ref a3, .int vz, .int (nI wn), .int (nI hn), .int vk])), (a2, .inl (cI, 144, .inl px)), (a3, .inl (cI, 9, .inl md))] := hD
            refine lv_aload_n hx hb d_Block_lookAround_108 rfl (lv_at hl 0 rfl) ?_
            refine va_get (D := D) (ci := 1) (v := .int 1) (C := "TileForge$Block") (T := T_Block) (N := 8) hx hb hts (cs_in in_Block) hown hK hP 0 rfl rfl 5 (by decide) (hts _ (cs_m mw_191)) (fun _ h9 => h9) rfl d_Block_lookAround_109 ?_
            refine lv_if_eq (tgt := 142) hx hb d_Block_lookAround_112 (by decide) (fun c_112 => ?_) (fun c_112 => ?_)
            · exact absurd c_112 (by decide)
            · refine lv_aload_n hx hb d_Block_lookAround_115 rfl (lv_at hl 0 rfl) ?_
              refine lv_aload_n hx hb d_Block_lookAround_116 rfl (lv_at hl 0 rfl) ?_
              refine va_get (D := D) (ci := 1) (v := .int 1) (C := "TileForge$Block") (T := T_Block) (N := 8) hx hb hts (cs_in in_Block) hown hK hP 0 rfl rfl 6 (by decide) (hts _ (cs_m mw_192)) (fun _ h9 => h9) rfl d_Block_lookAround_117 ?_
              refine lv_if_eq (tgt := 136) hx hb d_Block_lookAround_120 (by decide) (fun c_120 => ?_) (fun c_120 => ?_)
              · exact absurd c_120 (by decide)
              · refine lv_aload_n hx hb d_Block_lookAround_123 rfl (lv_at hl 1 rfl) ?_
                refine lv_iload_n hx hb d_Block_lookAround_124 rfl (lv_at hl 2 rfl) ?_
                refine lv_iconst (v := 1) hx hb d_Block_lookAround_125 (by decide) ?_
                refine lv_isub hx hb d_Block_lookAround_126 ?_
                refine cs_top (y := nI (x - 1)) (cs_pred hx0) ?_
                refine lv_iload_n hx hb d_Block_lookAround_127 rfl (lv_at hl 3 rfl) ?_
                refine lv_iconst (v := 1) hx hb d_Block_lookAround_128 (by decide) ?_
                refine lv_isub hx hb d_Block_lookAround_129 ?_
                refine cs_top (y := nI (y - 1)) (cs_pred hy0) ?_
                refine cs_Vi (As := [.int (nI (x - 1)), .int (nI (y - 1))]) (rest := [.ref b1]) (wr := [(b1, .inr (1, [.ref b2, .ref b3, .ref b4, .ref b5, .ref b6, .int 1, .int 1, .int 127])), (b2, .inl (cI, 4, .inl f)), (b3, .inl (cI, 4, .inl g)), (b4, .inl (cI, 16, .inl fo)), (b5, .inl (cI, 16, .inl lv)), (b6, .inl (cI, 16, .inl wk))]) ⟨hx, hb, hml, hown, hts⟩ (c_pic_look l hcI a1 a2 a3 px md vz (nI wn) (nI hn) vk (x - 1) (y - 1) (by omega) (by omega) (nI_lt (by omega) (by omega)) (nI_lt (by omega) (by omega))) (cwV 2 hts (cs_gV mw_194 mw_195 mw_196 mw_93 mw_92) rfl rfl rfl ⟨rfl, hd_Picture_look⟩ ⟨Nat.le_of_ble_eq_true rfl, Nat.le_of_ble_eq_true rfl⟩) hN hK hP hD hS hA [6, 7, 8] [0, 1, 2, 3, 4, 5] rfl rfl rfl rfl (by decide) (ci := 5) rfl rfl rfl rfl rfl hl.1 (Nat.le_of_ble_eq_true rfl) d_Block_lookAround_130 ⟨Nat.le_of_ble_eq_true rfl, Nat.le_of_ble_eq_true rfl⟩ (fun r3 w1 H locs hw hP hD hS => ?_)
                obtain ⟨rfl, rfl⟩ := hw
                have hP : va_P D vwCl [(b1, .inr (1, [.ref b2, .ref b3, .ref b4, .ref b5, .ref b6, .int 1, .int 1, .int 127])), (b2, .inl (cI, 4, .inl f)), (b3, .inl (cI, 4, .inl g)), (b4, .inl (cI, 16, .inl fo)), (b5, .inl (cI, 16, .inl lv)), (b6, .inl (cI, 16, .inl wk)), (a1, .inr (5, [.ref a2, .ref a3, .int vz, .int (nI wn), .int (nI hn), .int vk])), (a2, .inl (cI, 144, .inl px)), (a3, .inl (cI, 9, .inl md))] H := hP
                have hD : va_D A [(b1, .inr (1, [.ref b2, .ref b3, .ref b4, .ref b5, .ref b6, .int 1, .int 1, .int 127])), (b2, .inl (cI, 4, .inl f)), (b3, .inl (cI, 4, .inl g)), (b4, .inl (cI, 16, .inl fo)), (b5, .inl (cI, 16, .inl lv)), (b6, .inl (cI, 16, .inl wk)), (a1, .inr (5, [.ref a2, .ref a3, .int vz, .int (nI wn), .int (nI hn), .int vk])), (a2, .inl (cI, 144, .inl px)), (a3, .inl (cI, 9, .inl md))] := hD
                refine lv_goto (tgt := 139) hx hb d_Block_lookAround_133 (by decide) ?_
                refine va_put (D := D) (ci := 1) (v := .int (px ((y - 1) * 12 + (x - 1)))) (ty := .int) (C := "TileForge$Block") (T := T_Block) (N := 8) hx hb hts (cs_in in_Block) ty_Block tok_Block nm_Block hown hK hP hD hS 0 rfl rfl 7 (by decide) (hts _ (cs_m mw_193)) (fun _ h9 => h9) rfl (by decide +kernel) rfl rfl (Nat.le_of_ble_eq_true rfl) d_Block_lookAround_139 (fun H locs hP hD hS => ?_)
                have hP : va_P D vwCl [(b1, .inr (1, [.ref b2, .ref b3, .ref b4, .ref b5, .ref b6, .int 1, .int 1, .int (px ((y - 1) * 12 + (x - 1)))])), (b2, .inl (cI, 4, .inl f)), (b3, .inl (cI, 4, .inl g)), (b4, .inl (cI, 16, .inl fo)), (b5, .inl (cI, 16, .inl lv)), (b6, .inl (cI, 16, .inl wk)), (a1, .inr (5, [.ref a2, .ref a3, .int vz, .int (nI wn), .int (nI hn), .int vk])), (a2, .inl (cI, 144, .inl px)), (a3, .inl (cI, 9, .inl md))] H := hP
                have hD : va_D A [(b1, .inr (1, [.ref b2, .ref b3, .ref b4, .ref b5, .ref b6, .int 1, .int 1, .int (px ((y - 1) * 12 + (x - 1)))])), (b2, .inl (cI, 4, .inl f)), (b3, .inl (cI, 4, .inl g)), (b4, .inl (cI, 16, .inl fo)), (b5, .inl (cI, 16, .inl lv)), (b6, .inl (cI, 16, .inl wk)), (a1, .inr (5, [.ref a2, .ref a3, .int vz, .int (nI wn), .int (nI hn), .int vk])), (a2, .inl (cI, 144, .inl px)), (a3, .inl (cI, 9, .inl md))] := hD
                exact W.vret hx hb hr (fun t ht hW => ⟨⟨[(b1, .inr (1, [.ref b2, .ref b3, .ref b4, .ref b5, .ref b6, .int 1, .int 1, .int (px ((y - 1) * 12 + (x - 1)))])), (b2, .inl (cI, 4, .inl f)), (b3, .inl (cI, 4, .inl g)), (b4, .inl (cI, 16, .inl fo)), (b5, .inl (cI, 16, .inl lv)), (b6, .inl (cI, 16, .inl wk)), (a1, .inr (5, [.ref a2, .ref a3, .int vz, .int (nI wn), .int (nI hn), .int vk])), (a2, .inl (cI, 144, .inl px)), (a3, .inl (cI, 9, .inl md))], rfl, ⟨f, g, (h1), (h2), (by simp [b2i, crn, hy0, hx0, Nat.ne_of_gt hy0, Nat.ne_of_gt hx0])⟩, by rw [ht]; exact hP, va_K.moved hW.alike hK, hD⟩, hS.F ht⟩) hS.2.2 d_Block_lookAround_142
          · have hk2 : k < 4 := Nat.not_le.mp (fun h => c_32 ((nI_leI (a := 4) (b := k) (by decide) (by omega)).mpr h))
            refine lv_aload_n hx hb d_Block_lookAround_35 rfl (lv_at hl 0 rfl) ?_
            refine va_get (D := D) (ci := 1) (v := .ref b2) (C := "TileForge$Block") (T := T_Block) (N := 8) hx hb hts (cs_in in_Block) hown hK hP 0 rfl rfl 0 (by decide) (hts _ (cs_m mw_185)) (fun _ h9 => h9) rfl d_Block_lookAround_36 ?_
            refine lv_iload hx hb d_Block_lookAround_39 (lv_at hl 4 rfl) ?_
            refine lv_aload_n hx hb d_Block_lookAround_41 rfl (lv_at hl 0 rfl) ?_
            refine va_get (D := D) (ci := 1) (v := .int 1) (C := "TileForge$Block") (T := T_Block) (N := 8) hx hb hts (cs_in in_Block) hown hK hP 0 rfl rfl 5 (by decide) (hts _ (cs_m mw_191)) (fun _ h9 => h9) rfl d_Block_lookAround_42 ?_
            refine lv_if_eq (tgt := 62) hx hb d_Block_lookAround_45 (by decide) (fun c_45 => ?_) (fun c_45 => ?_)
            · exact absurd c_45 (by decide)
            · refine lv_aload_n hx hb d_Block_lookAround_48 rfl (lv_at hl 1 rfl) ?_
              refine lv_iload_n hx hb d_Block_lookAround_49 rfl (lv_at hl 2 rfl) ?_
              refine lv_iload hx hb d_Block_lookAround_50 (lv_at hl 4 rfl) ?_
              refine lv_iadd hx hb d_Block_lookAround_52 ?_
              refine cs_top (y := nI (x + k)) (nI_add x k) ?_
              refine lv_iload_n hx hb d_Block_lookAround_53 rfl (lv_at hl 3 rfl) ?_
              refine lv_iconst (v := 1) hx hb d_Block_lookAround_54 (by decide) ?_
              refine lv_isub hx hb d_Block_lookAround_55 ?_
              refine cs_top (y := nI (y - 1)) (cs_pred hy0) ?_
              refine cs_Vi (As := [.int (nI (x + k)), .int (nI (y - 1))]) (rest := [.int (nI k), .ref b2]) (wr := [(b1, .inr (1, [.ref b2, .ref b3, .ref b4, .ref b5, .ref b6, .int 1, .int 1, .int vcr])), (b2, .inl (cI, 4, .inl f)), (b3, .inl (cI, 4, .inl g)), (b4, .inl (cI, 16, .inl fo)), (b5, .inl (cI, 16, .inl lv)), (b6, .inl (cI, 16, .inl wk))]) ⟨hx, hb, hml, hown, hts⟩ (c_pic_look l hcI a1 a2 a3 px md vz (nI wn) (nI hn) vk (x + k) (y - 1) (by omega) (by omega) (nI_lt (by omega) (by omega)) (nI_lt (by omega) (by omega))) (cwV 2 hts (cs_gV mw_194 mw_195 mw_196 mw_93 mw_92) rfl rfl rfl ⟨rfl, hd_Picture_look⟩ ⟨Nat.le_of_ble_eq_true rfl, Nat.le_of_ble_eq_true rfl⟩) hN hK hP hD hS hA [6, 7, 8] [0, 1, 2, 3, 4, 5] rfl rfl rfl rfl (by decide) (ci := 5) rfl rfl rfl rfl rfl hl.1 (Nat.le_of_ble_eq_true rfl) d_Block_lookAround_56 ⟨Nat.le_of_ble_eq_true rfl, Nat.le_of_ble_eq_true rfl⟩ (fun r4 w1 H locs hw hP hD hS => ?_)
              obtain ⟨rfl, rfl⟩ := hw
              have hP : va_P D vwCl [(b1, .inr (1, [.ref b2, .ref b3, .ref b4, .ref b5, .ref b6, .int 1, .int 1, .int vcr])), (b2, .inl (cI, 4, .inl f)), (b3, .inl (cI, 4, .inl g)), (b4, .inl (cI, 16, .inl fo)), (b5, .inl (cI, 16, .inl lv)), (b6, .inl (cI, 16, .inl wk)), (a1, .inr (5, [.ref a2, .ref a3, .int vz, .int (nI wn), .int (nI hn), .int vk])), (a2, .inl (cI, 144, .inl px)), (a3, .inl (cI, 9, .inl md))] H := hP
              have hD : va_D A [(b1, .inr (1, [.ref b2, .ref b3, .ref b4, .ref b5, .ref b6, .int 1, .int 1, .int vcr])), (b2, .inl (cI, 4, .inl f)), (b3, .inl (cI, 4, .inl g)), (b4, .inl (cI, 16, .inl fo)), (b5, .inl (cI, 16, .inl lv)), (b6, .inl (cI, 16, .inl wk)), (a1, .inr (5, [.ref a2, .ref a3, .int vz, .int (nI wn), .int (nI hn), .int vk])), (a2, .inl (cI, 144, .inl px)), (a3, .inl (cI, 9, .inl md))] := hD
              refine lv_goto (tgt := 64) hx hb d_Block_lookAround_59 (by decide) ?_
              refine cs_iast (j := k) hx hb hK hcI hP hD hS 1 rfl (rfl) (by omega) (by decide) d_Block_lookAround_64 (fun H locs hP hD hS => ?_)
              have hP : va_P D vwCl [(b1, .inr (1, [.ref b2, .ref b3, .ref b4, .ref b5, .ref b6, .int 1, .int 1, .int vcr])), (b2, .inl (cI, 4, .inl (upd f k (px ((y - 1) * 12 + (x + k)))))), (b3, .inl (cI, 4, .inl g)), (b4, .inl (cI, 16, .inl fo)), (b5, .inl (cI, 16, .inl lv)), (b6, .inl (cI, 16, .inl wk)), (a1, .inr (5, [.ref a2, .ref a3, .int vz, .int (nI wn), .int (nI hn), .int vk])), (a2, .inl (cI, 144, .inl px)), (a3, .inl (cI, 9, .inl md))] H := hP
              have hD : va_D A [(b1, .inr (1, [.ref b2, .ref b3, .ref b4, .ref b5, .ref b6, .int 1, .int 1, .int vcr])), (b2, .inl (cI, 4, .inl (upd f k (px ((y - 1) * 12 + (x + k)))))), (b3, .inl (cI, 4, .inl g)), (b4, .inl (cI, 16, .inl fo)), (b5, .inl (cI, 16, .inl lv)), (b6, .inl (cI, 16, .inl wk)), (a1, .inr (5, [.ref a2, .ref a3, .int vz, .int (nI wn), .int (nI hn), .int vk])), (a2, .inl (cI, 144, .inl px)), (a3, .inl (cI, 9, .inl md))] := hD
              refine lv_aload_n hx hb d_Block_lookAround_65 rfl (lv_at hl 0 rfl) ?_
              refine va_get (D := D) (ci := 1) (v := .ref b3) (C := "TileForge$Block") (T := T_Block) (N := 8) hx hb hts (cs_in in_Block) hown hK hP 0 rfl rfl 1 (by decide) (hts _ (cs_m mw_186)) (fun _ h9 => h9) rfl d_Block_lookAround_66 ?_
              refine lv_iload hx hb d_Block_lookAround_69 (lv_at hl 4 rfl) ?_
              refine lv_aload_n hx hb d_Block_lookAround_71 rfl (lv_at hl 0 rfl) ?_
              refine va_get (D := D) (ci := 1) (v := .int 1) (C := "TileForge$Block") (T := T_Block) (N := 8) hx hb hts (cs_in in_Block) hown hK hP 0 rfl rfl 6 (by decide) (hts _ (cs_m mw_192)) (fun _ h9 => h9) rfl d_Block_lookAround_72 ?_
              refine lv_if_eq (tgt := 92) hx hb d_Block_lookAround_75 (by decide) (fun c_75 => ?_) (fun c_75 => ?_)
              · exact absurd c_75 (by decide)
              · refine lv_aload_n hx hb d_Block_lookAround_78 rfl (lv_at hl 1 rfl) ?_
                refine lv_iload_n hx hb d_Block_lookAround_79 rfl (lv_at hl 2 rfl) ?_
                refine lv_iconst (v := 1) hx hb d_Block_lookAround_80 (by decide) ?_
                refine lv_isub hx hb d_Block_lookAround_81 ?_
                refine cs_top (y := nI (x - 1)) (cs_pred hx0) ?_
                refine lv_iload_n hx hb d_Block_lookAround_82 rfl (lv_at hl 3 rfl) ?_
                refine lv_iload hx hb d_Block_lookAround_83 (lv_at hl 4 rfl) ?_
                refine lv_iadd hx hb d_Block_lookAround_85 ?_
                refine cs_top (y := nI (y + k)) (nI_add y k) ?_
                refine cs_Vi (As := [.int (nI (x - 1)), .int (nI (y + k))]) (rest := [.int (nI k), .ref b3]) (wr := [(b1, .inr (1, [.ref b2, .ref b3, .ref b4, .ref b5, .ref b6, .int 1, .int 1, .int vcr])), (b2, .inl (cI, 4, .inl (upd f k (px ((y - 1) * 12 + (x + k)))))), (b3, .inl (cI, 4, .inl g)), (b4, .inl (cI, 16, .inl fo)), (b5, .inl (cI, 16, .inl lv)), (b6, .inl (cI, 16, .inl wk))]) ⟨hx, hb, hml, hown, hts⟩ (c_pic_look l hcI a1 a2 a3 px md vz (nI wn) (nI hn) vk (x - 1) (y + k) (by omega) (by omega) (nI_lt (by omega) (by omega)) (nI_lt (by omega) (by omega))) (cwV 2 hts (cs_gV mw_194 mw_195 mw_196 mw_93 mw_92) rfl rfl rfl ⟨rfl, hd_Picture_look⟩ ⟨Nat.le_of_ble_eq_true rfl, Nat.le_of_ble_eq_true rfl⟩) hN hK hP hD hS hA [6, 7, 8] [0, 1, 2, 3, 4, 5] rfl rfl rfl rfl (by decide) (ci := 5) rfl rfl rfl rfl rfl hl.1 (Nat.le_of_ble_eq_true rfl) d_Block_lookAround_86 ⟨Nat.le_of_ble_eq_true rfl, Nat.le_of_ble_eq_true rfl⟩ (fun r5 w1 H locs hw hP hD hS => ?_)
                obtain ⟨rfl, rfl⟩ := hw
                have hP : va_P D vwCl [(b1, .inr (1, [.ref b2, .ref b3, .ref b4, .ref b5, .ref b6, .int 1, .int 1, .int vcr])), (b2, .inl (cI, 4, .inl (upd f k (px ((y - 1) * 12 + (x + k)))))), (b3, .inl (cI, 4, .inl g)), (b4, .inl (cI, 16, .inl fo)), (b5, .inl (cI, 16, .inl lv)), (b6, .inl (cI, 16, .inl wk)), (a1, .inr (5, [.ref a2, .ref a3, .int vz, .int (nI wn), .int (nI hn), .int vk])), (a2, .inl (cI, 144, .inl px)), (a3, .inl (cI, 9, .inl md))] H := hP
                have hD : va_D A [(b1, .inr (1, [.ref b2, .ref b3, .ref b4, .ref b5, .ref b6, .int 1, .int 1, .int vcr])), (b2, .inl (cI, 4, .inl (upd f k (px ((y - 1) * 12 + (x + k)))))), (b3, .inl (cI, 4, .inl g)), (b4, .inl (cI, 16, .inl fo)), (b5, .inl (cI, 16, .inl lv)), (b6, .inl (cI, 16, .inl wk)), (a1, .inr (5, [.ref a2, .ref a3, .int vz, .int (nI wn), .int (nI hn), .int vk])), (a2, .inl (cI, 144, .inl px)), (a3, .inl (cI, 9, .inl md))] := hD
                refine lv_goto (tgt := 95) hx hb d_Block_lookAround_89 (by decide) ?_
                refine cs_iast (j := k) hx hb hK hcI hP hD hS 2 rfl (rfl) (by omega) (by decide) d_Block_lookAround_95 (fun H locs hP hD hS => ?_)
                have hP : va_P D vwCl [(b1, .inr (1, [.ref b2, .ref b3, .ref b4, .ref b5, .ref b6, .int 1, .int 1, .int vcr])), (b2, .inl (cI, 4, .inl (upd f k (px ((y - 1) * 12 + (x + k)))))), (b3, .inl (cI, 4, .inl (upd g k (px ((y + k) * 12 + (x - 1)))))), (b4, .inl (cI, 16, .inl fo)), (b5, .inl (cI, 16, .inl lv)), (b6, .inl (cI, 16, .inl wk)), (a1, .inr (5, [.ref a2, .ref a3, .int vz, .int (nI wn), .int (nI hn), .int vk])), (a2, .inl (cI, 144, .inl px)), (a3, .inl (cI, 9, .inl md))] H := hP
                have hD : va_D A [(b1, .inr (1, [.ref b2, .ref b3, .ref b4, .ref b5, .ref b6, .int 1, .int 1, .int vcr])), (b2, .inl (cI, 4, .inl (upd f k (px ((y - 1) * 12 + (x + k)))))), (b3, .inl (cI, 4, .inl (upd g k (px ((y + k) * 12 + (x - 1)))))), (b4, .inl (cI, 16, .inl fo)), (b5, .inl (cI, 16, .inl lv)), (b6, .inl (cI, 16, .inl wk)), (a1, .inr (5, [.ref a2, .ref a3, .int vz, .int (nI wn), .int (nI hn), .int vk])), (a2, .inl (cI, 144, .inl px)), (a3, .inl (cI, 9, .inl md))] := hD
                refine lv_iinc (v := nI (k + 1)) (lv' := [(4, .int (nI (k + 1))), (0, .ref b1), (1, .ref a1), (2, .int (nI x)), (3, .int (nI y))]) hx hb d_Block_lookAround_96 hl (k := 4) rfl (nI_1 _) (by decide) rfl (fun ls hl => ?_)
                refine lv_goto (tgt := 29) hx hb d_Block_lookAround_99 (by decide) ?_
                exact ih29 (k + 1) (upd f k (px ((y - 1) * 12 + (x + k)))) (upd g k (px ((y + k) * 12 + (x - 1)))) (by omega) (by omega) (cs_ext h1 (by rw [abv, if_neg (by omega)])) (cs_ext h2 (by rw [lft, if_neg (by omega)])) _ _ _ (hP.sub (ws' := [(b1, .inr (1, [.ref b2, .ref b3, .ref b4, .ref b5, .ref b6, .int 1, .int 1, .int vcr])), (b2, .inl (cI, 4, .inl (upd f k (px ((y - 1) * 12 + (x + k)))))), (b3, .inl (cI, 4, .inl (upd g k (px ((y + k) * 12 + (x - 1)))))), (b4, .inl (cI, 16, .inl fo)), (b5, .inl (cI, 16, .inl lv)), (b6, .inl (cI, 16, .inl wk)), (a1, .inr (5, [.ref a2, .ref a3, .int vz, .int (nI wn), .int (nI hn), .int vk])), (a2, .inl (cI, 144, .inl px)), (a3, .inl (cI, 9, .inl md))]) [0, 1, 2, 3, 4, 5, 6, 7, 8] rfl) (hD.sub (ws' := [(b1, .inr (1, [.ref b2, .ref b3, .ref b4, .ref b5, .ref b6, .int 1, .int 1, .int vcr])), (b2, .inl (cI, 4, .inl (upd f k (px ((y - 1) * 12 + (x + k)))))), (b3, .inl (cI, 4, .inl (upd g k (px ((y + k) * 12 + (x - 1)))))), (b4, .inl (cI, 16, .inl fo)), (b5, .inl (cI, 16, .inl lv)), (b6, .inl (cI, 16, .inl wk)), (a1, .inr (5, [.ref a2, .ref a3, .int vz, .int (nI wn), .int (nI hn), .int vk])), (a2, .inl (cI, 144, .inl px)), (a3, .inl (cI, 9, .inl md))]) [0, 1, 2, 3, 4, 5, 6, 7, 8] (by decide) rfl) hS (lv_sub hl [1, 2, 3, 4, 0] rfl)
      exact lp29 (5) 0 ab lf (by omega) (by omega) (fun j hj => absurd hj (by omega)) (fun j hj => absurd hj (by omega)) _ _ _ (hP.sub (ws' := [(b1, .inr (1, [.ref b2, .ref b3, .ref b4, .ref b5, .ref b6, .int 1, .int 1, .int vcr])), (b2, .inl (cI, 4, .inl ab)), (b3, .inl (cI, 4, .inl lf)), (b4, .inl (cI, 16, .inl fo)), (b5, .inl (cI, 16, .inl lv)), (b6, .inl (cI, 16, .inl wk)), (a1, .inr (5, [.ref a2, .ref a3, .int vz, .int (nI wn), .int (nI hn), .int vk])), (a2, .inl (cI, 144, .inl px)), (a3, .inl (cI, 9, .inl md))]) [0, 1, 2, 3, 4, 5, 6, 7, 8] rfl) (hD.sub (ws' := [(b1, .inr (1, [.ref b2, .ref b3, .ref b4, .ref b5, .ref b6, .int 1, .int 1, .int vcr])), (b2, .inl (cI, 4, .inl ab)), (b3, .inl (cI, 4, .inl lf)), (b4, .inl (cI, 16, .inl fo)), (b5, .inl (cI, 16, .inl lv)), (b6, .inl (cI, 16, .inl wk)), (a1, .inr (5, [.ref a2, .ref a3, .int vz, .int (nI wn), .int (nI hn), .int vk])), (a2, .inl (cI, 144, .inl px)), (a3, .inl (cI, 9, .inl md))]) [0, 1, 2, 3, 4, 5, 6, 7, 8] (by decide) rfl) hS (lv_sub hl [1, 2, 3, 4, 0] rfl)
def y_Block_meanAround : MethodName := ⟨"TileForge$Block", "meanAround", "()I"⟩
def ws_Block_meanAround : List Cond := .code y_Block_meanAround prog_3_method_3_code 3 (some .int) :: GW
theorem mw_197 : (.code ⟨"TileForge$Block", "meanAround", "()I"⟩ prog_3_method_3_code 3 (some .int) : Cond) ∈ GW := List.mem_filter.mpr ⟨(List.mem_append_right _ (List.mem_append_right _ (List.mem_append_left _ (List.mem_of_getElem? (i := 189) rfl)))), rfl⟩
theorem hd_Block_meanAround : y_Block_meanAround.cls ≠ "java/lang/invoke/MethodHandle" ∧ y_Block_meanAround.cls ≠ "java/lang/invoke/VarHandle" ∧ (parseMethodDescriptor y_Block_meanAround.desc).map (fun d => d.parameters.length) = some 0 := by decide +kernel
theorem d_Block_meanAround_0 : decode prog_3_method_3_code 0 = .ok (.aload_n 0, 1) := by decide +kernel
theorem d_Block_meanAround_1 : decode prog_3_method_3_code 1 = .ok (.getfield 9, 3) := by decide +kernel
theorem d_Block_meanAround_4 : decode prog_3_method_3_code 4 = .ok (.iconst 0, 1) := by decide +kernel
theorem d_Block_meanAround_5 : decode prog_3_method_3_code 5 = .ok (.iaload, 1) := by decide +kernel
theorem d_Block_meanAround_6 : decode prog_3_method_3_code 6 = .ok (.aload_n 0, 1) := by decide +kernel
theorem d_Block_meanAround_7 : decode prog_3_method_3_code 7 = .ok (.getfield 9, 3) := by decide +kernel
theorem d_Block_meanAround_10 : decode prog_3_method_3_code 10 = .ok (.iconst 1, 1) := by decide +kernel
theorem d_Block_meanAround_11 : decode prog_3_method_3_code 11 = .ok (.iaload, 1) := by decide +kernel
theorem d_Block_meanAround_12 : decode prog_3_method_3_code 12 = .ok (.iadd, 1) := by decide +kernel
theorem d_Block_meanAround_13 : decode prog_3_method_3_code 13 = .ok (.aload_n 0, 1) := by decide +kernel
theorem d_Block_meanAround_14 : decode prog_3_method_3_code 14 = .ok (.getfield 9, 3) := by decide +kernel
theorem d_Block_meanAround_17 : decode prog_3_method_3_code 17 = .ok (.iconst 2, 1) := by decide +kernel
theorem d_Block_meanAround_18 : decode prog_3_method_3_code 18 = .ok (.iaload, 1) := by decide +kernel
theorem d_Block_meanAround_19 : decode prog_3_method_3_code 19 = .ok (.iadd, 1) := by decide +kernel
theorem d_Block_meanAround_20 : decode prog_3_method_3_code 20 = .ok (.aload_n 0, 1) := by decide +kernel
theorem d_Block_meanAround_21 : decode prog_3_method_3_code 21 = .ok (.getfield 9, 3) := by decide +kernel
theorem d_Block_meanAround_24 : decode prog_3_method_3_code 24 = .ok (.iconst 3, 1) := by decide +kernel
theorem d_Block_meanAround_25 : decode prog_3_method_3_code 25 = .ok (.iaload, 1) := by decide +kernel
theorem d_Block_meanAround_26 : decode prog_3_method_3_code 26 = .ok (.iadd, 1) := by decide +kernel
theorem d_Block_meanAround_27 : decode prog_3_method_3_code 27 = .ok (.istore_n 1, 1) := by decide +kernel
theorem d_Block_meanAround_28 : decode prog_3_method_3_code 28 = .ok (.aload_n 0, 1) := by decide +kernel
theorem d_Block_meanAround_29 : decode prog_3_method_3_code 29 = .ok (.getfield 15, 3) := by decide +kernel
theorem d_Block_meanAround_32 : decode prog_3_method_3_code 32 = .ok (.iconst 0, 1) := by decide +kernel
theorem d_Block_meanAround_33 : decode prog_3_method_3_code 33 = .ok (.iaload, 1) := by decide +kernel
theorem d_Block_meanAround_34 : decode prog_3_method_3_code 34 = .ok (.aload_n 0, 1) := by decide +kernel
theorem d_Block_meanAround_35 : decode prog_3_method_3_code 35 = .ok (.getfield 15, 3) := by decide +kernel
theorem d_Block_meanAround_38 : decode prog_3_method_3_code 38 = .ok (.iconst 1, 1) := by decide +kernel
theorem d_Block_meanAround_39 : decode prog_3_method_3_code 39 = .ok (.iaload, 1) := by decide +kernel
theorem d_Block_meanAround_40 : decode prog_3_method_3_code 40 = .ok (.iadd, 1) := by decide +kernel
theorem d_Block_meanAround_41 : decode prog_3_method_3_code 41 = .ok (.aload_n 0, 1) := by decide +kernel
theorem d_Block_meanAround_42 : decode prog_3_method_3_code 42 = .ok (.getfield 15, 3) := by decide +kernel
theorem d_Block_meanAround_45 : decode prog_3_method_3_code 45 = .ok (.iconst 2, 1) := by decide +kernel
theorem d_Block_meanAround_46 : decode prog_3_method_3_code 46 = .ok (.iaload, 1) := by decide +kernel
theorem d_Block_meanAround_47 : decode prog_3_method_3_code 47 = .ok (.iadd, 1) := by decide +kernel
theorem d_Block_meanAround_48 : decode prog_3_method_3_code 48 = .ok (.aload_n 0, 1) := by decide +kernel
theorem d_Block_meanAround_49 : decode prog_3_method_3_code 49 = .ok (.getfield 15, 3) := by decide +kernel
theorem d_Block_meanAround_52 : decode prog_3_method_3_code 52 = .ok (.iconst 3, 1) := by decide +kernel
theorem d_Block_meanAround_53 : decode prog_3_method_3_code 53 = .ok (.iaload, 1) := by decide +kernel
theorem d_Block_meanAround_54 : decode prog_3_method_3_code 54 = .ok (.iadd, 1) := by decide +kernel
theorem d_Block_meanAround_55 : decode prog_3_method_3_code 55 = .ok (.istore_n 2, 1) := by decide +kernel
theorem d_Block_meanAround_56 : decode prog_3_method_3_code 56 = .ok (.aload_n 0, 1) := by decide +kernel
theorem d_Block_meanAround_57 : decode prog_3_method_3_code 57 = .ok (.getfield 27, 3) := by decide +kernel
theorem d_Block_meanAround_60 : decode prog_3_method_3_code 60 = .ok (.ifCond .eq 19, 3) := by decide +kernel
theorem d_Block_meanAround_63 : decode prog_3_method_3_code 63 = .ok (.aload_n 0, 1) := by decide +kernel
theorem d_Block_meanAround_64 : decode prog_3_method_3_code 64 = .ok (.getfield 31, 3) := by decide +kernel
theorem d_Block_meanAround_67 : decode prog_3_method_3_code 67 = .ok (.ifCond .eq 12, 3) := by decide +kernel
theorem d_Block_meanAround_70 : decode prog_3_method_3_code 70 = .ok (.iload_n 1, 1) := by decide +kernel
theorem d_Block_meanAround_71 : decode prog_3_method_3_code 71 = .ok (.iload_n 2, 1) := by decide +kernel
theorem d_Block_meanAround_72 : decode prog_3_method_3_code 72 = .ok (.iadd, 1) := by decide +kernel
theorem d_Block_meanAround_73 : decode prog_3_method_3_code 73 = .ok (.iconst 4, 1) := by decide +kernel
theorem d_Block_meanAround_74 : decode prog_3_method_3_code 74 = .ok (.iadd, 1) := by decide +kernel
theorem d_Block_meanAround_75 : decode prog_3_method_3_code 75 = .ok (.bipush 8, 2) := by decide +kernel
theorem d_Block_meanAround_77 : decode prog_3_method_3_code 77 = .ok (.idiv, 1) := by decide +kernel
theorem d_Block_meanAround_78 : decode prog_3_method_3_code 78 = .ok (.ireturn, 1) := by decide +kernel
theorem d_Block_meanAround_79 : decode prog_3_method_3_code 79 = .ok (.aload_n 0, 1) := by decide +kernel
theorem d_Block_meanAround_80 : decode prog_3_method_3_code 80 = .ok (.getfield 27, 3) := by decide +kernel
theorem d_Block_meanAround_83 : decode prog_3_method_3_code 83 = .ok (.ifCond .eq 9, 3) := by decide +kernel
theorem d_Block_meanAround_86 : decode prog_3_method_3_code 86 = .ok (.iload_n 1, 1) := by decide +kernel
theorem d_Block_meanAround_87 : decode prog_3_method_3_code 87 = .ok (.iconst 2, 1) := by decide +kernel
theorem d_Block_meanAround_88 : decode prog_3_method_3_code 88 = .ok (.iadd, 1) := by decide +kernel
theorem d_Block_meanAround_89 : decode prog_3_method_3_code 89 = .ok (.iconst 4, 1) := by decide +kernel
theorem d_Block_meanAround_90 : decode prog_3_method_3_code 90 = .ok (.idiv, 1) := by decide +kernel
theorem d_Block_meanAround_91 : decode prog_3_method_3_code 91 = .ok (.ireturn, 1) := by decide +kernel
theorem d_Block_meanAround_92 : decode prog_3_method_3_code 92 = .ok (.aload_n 0, 1) := by decide +kernel
theorem d_Block_meanAround_93 : decode prog_3_method_3_code 93 = .ok (.getfield 31, 3) := by decide +kernel
theorem d_Block_meanAround_96 : decode prog_3_method_3_code 96 = .ok (.ifCond .eq 11, 3) := by decide +kernel
theorem d_Block_meanAround_99 : decode prog_3_method_3_code 99 = .ok (.iload_n 2, 1) := by decide +kernel
theorem d_Block_meanAround_100 : decode prog_3_method_3_code 100 = .ok (.iconst 2, 1) := by decide +kernel
theorem d_Block_meanAround_101 : decode prog_3_method_3_code 101 = .ok (.iadd, 1) := by decide +kernel
theorem d_Block_meanAround_102 : decode prog_3_method_3_code 102 = .ok (.iconst 4, 1) := by decide +kernel
theorem d_Block_meanAround_103 : decode prog_3_method_3_code 103 = .ok (.idiv, 1) := by decide +kernel
theorem d_Block_meanAround_104 : decode prog_3_method_3_code 104 = .ok (.goto 6, 3) := by decide +kernel
theorem d_Block_meanAround_107 : decode prog_3_method_3_code 107 = .ok (.sipush 128, 3) := by decide +kernel
theorem d_Block_meanAround_110 : decode prog_3_method_3_code 110 = .ok (.ireturn, 1) := by decide +kernel
def q_bl_mean (cI : ClassId) (b1 : Nat) (b2 : Nat) (b3 : Nat) (b4 : Nat) (b5 : Nat) (b6 : Nat) (ab : Nat → Int32) (lf : Nat → Int32) (fo : Nat → Int32) (lv : Nat → Int32) (wk : Nat → Int32) (vr : Int32) (vc : Int32) (vcr : Int32) : Int32 → va_W → Prop := fun rr ww => rr = (meanB vr vc ab lf) ∧ ww = [(b1, .inr (1, [.ref b2, .ref b3, .ref b4, .ref b5, .ref b6, .int vr, .int vc, .int vcr])), (b2, .inl (cI, 4, .inl ab)), (b3, .inl (cI, 4, .inl lf)), (b4, .inl (cI, 16, .inl fo)), (b5, .inl (cI, 16, .inl lv)), (b6, .inl (cI, 16, .inl wk))]
set_option maxHeartbeats 4000000 in
set_option maxRecDepth 100000 in
theorem c_bl_mean (l : Launch) {D : va_G} {tys : List (ClassId × FieldType)} {cI : ClassId} (hcI : tys[0]? = some (cI, .int)) (b1 : Nat) (b2 : Nat) (b3 : Nat) (b4 : Nat) (b5 : Nat) (b6 : Nat) (ab : Nat → Int32) (lf : Nat → Int32) (fo : Nat → Int32) (lv : Nat → Int32) (wk : Nat → Int32) (vr : Int32) (vc : Int32) (vcr : Int32) : CsI l D vwCl tys y_Block_meanAround ws_Block_meanAround ({ frames := 0, cells := 0, slots := 0, locals := 0 } : Room) [.ref b1] [(b1, .inr (1, [.ref b2, .ref b3, .ref b4, .ref b5, .ref b6, .int vr, .int vc, .int vcr])), (b2, .inl (cI, 4, .inl ab)), (b3, .inl (cI, 4, .inl lf)), (b4, .inl (cI, 16, .inl fo)), (b5, .inl (cI, 16, .inl lv)), (b6, .inl (cI, 16, .inl wk))] (q_bl_mean cI b1 b2 b3 b4 b5 b6 ab lf fo lv wk vr vc vcr) 0 0 := by
  intro sz
  refine Met.ofW (cc := prog_3_method_3_code) (maxL := 3) (ret := (some .int)) (by decide) rfl ?_
  intro p e s m args below meth c s₁ B hml hv
  obtain ⟨rfl, hsz, hP, hK, hD0, hN⟩ := hv
  have hx := B.exec
  have hb := B.bytes
  have hr := B.returns
  have hts := atoms_spec (ws := ws_Block_meanAround) B.pre
  have hown : s.vm.findClass "TileForge$Block" = some m.cls := findClass_of_methodNamed B.named
  have hlocks := B.notSynchronized
  subst hsz
  have hD := hD0.self (sz := s.heap.size)
  generalize hAe : va_A [(b1, .inr (1, [.ref b2, .ref b3, .ref b4, .ref b5, .ref b6, .int vr, .int vc, .int vcr])), (b2, .inl (cI, 4, .inl ab)), (b3, .inl (cI, 4, .inl lf)), (b4, .inl (cI, 16, .inl fo)), (b5, .inl (cI, 16, .inl lv)), (b6, .inl (cI, 16, .inl wk))] s.heap.size = A at hD ⊢
  have hA : ∀ q : Nat, s.heap.size ≤ q → A q := fun q h => by rw [← hAe]; exact Or.inr h
  have hS : va_S A s.heap s.heap [] := va_S.rf
  have hP : va_P D vwCl [(b1, .inr (1, [.ref b2, .ref b3, .ref b4, .ref b5, .ref b6, .int vr, .int vc, .int vcr])), (b2, .inl (cI, 4, .inl ab)), (b3, .inl (cI, 4, .inl lf)), (b4, .inl (cI, 16, .inl fo)), (b5, .inl (cI, 16, .inl lv)), (b6, .inl (cI, 16, .inl wk))] s.heap := hP
  have hl := lv_entry ([.ref b1]) (n := 3) (Nat.le_of_ble_eq_true rfl)
  rw [lg_entry_eq]
  generalize (lg_sl ([.ref b1]) ++ List.replicate (3 - (lg_sl ([.ref b1])).length) Slot.unset).toArray = ls at hl ⊢
  have hl : lv_has ls 3 [(0, .ref b1)] := hl
  refine lv_aload_n hx hb d_Block_meanAround_0 rfl (lv_at hl 0 rfl) ?_
  refine va_get (D := D) (ci := 1) (v := .ref b2) (C := "TileForge$Block") (T := T_Block) (N := 8) hx hb hts (cs_in in_Block) hown hK hP 0 rfl rfl 0 (by decide) (hts _ (cs_m mw_185)) (fun _ h9 => h9) rfl d_Block_meanAround_1 ?_
  refine lv_iconst (v := 0) hx hb d_Block_meanAround_4 (by decide) ?_
  refine cs_iald (j := 0) hx hb hK hcI hP 1 rfl (rfl) (by decide) (by decide) d_Block_meanAround_5 ?_
  refine lv_aload_n hx hb d_Block_meanAround_6 rfl (lv_at hl 0 rfl) ?_
  refine va_get (D := D) (ci := 1) (v := .ref b2) (C := "TileForge$Block") (T := T_Block) (N := 8) hx hb hts (cs_in in_Block) hown hK hP 0 rfl rfl 0 (by decide) (hts _ (cs_m mw_185)) (fun _ h9 => h9) rfl d_Block_meanAround_7 ?_
  refine lv_iconst (v := 1) hx hb d_Block_meanAround_10 (by decide) ?_
  refine cs_iald (j := 1) hx hb hK hcI hP 1 rfl (rfl) (by decide) (by decide) d_Block_meanAround_11 ?_
  refine lv_iadd hx hb d_Block_meanAround_12 ?_
  refine lv_aload_n hx hb d_Block_meanAround_13 rfl (lv_at hl 0 rfl) ?_
  refine va_get (D := D) (ci := 1) (v := .ref b2) (C := "TileForge$Block") (T := T_Block) (N := 8) hx hb hts (cs_in in_Block) hown hK hP 0 rfl rfl 0 (by decide) (hts _ (cs_m mw_185)) (fun _ h9 => h9) rfl d_Block_meanAround_14 ?_
  refine lv_iconst (v := 2) hx hb d_Block_meanAround_17 (by decide) ?_
  refine cs_iald (j := 2) hx hb hK hcI hP 1 rfl (rfl) (by decide) (by decide) d_Block_meanAround_18 ?_
  refine lv_iadd hx hb d_Block_meanAround_19 ?_
  refine lv_aload_n hx hb d_Block_meanAround_20 rfl (lv_at hl 0 rfl) ?_
  refine va_get (D := D) (ci := 1) (v := .ref b2) (C := "TileForge$Block") (T := T_Block) (N := 8) hx hb hts (cs_in in_Block) hown hK hP 0 rfl rfl 0 (by decide) (hts _ (cs_m mw_185)) (fun _ h9 => h9) rfl d_Block_meanAround_21 ?_
  refine lv_iconst (v := 3) hx hb d_Block_meanAround_24 (by decide) ?_
  refine cs_iald (j := 3) hx hb hK hcI hP 1 rfl (rfl) (by decide) (by decide) d_Block_meanAround_25 ?_
  refine lv_iadd hx hb d_Block_meanAround_26 ?_
  refine lv_istore_n (lv' := [(1, .int ((((ab 0) + (ab 1)) + (ab 2)) + (ab 3))), (0, .ref b1)]) hx hb d_Block_meanAround_27 rfl hl (by decide) rfl (fun ls hl => ?_)
  refine lv_aload_n hx hb d_Block_meanAround_28 rfl (lv_at hl 1 rfl) ?_
  refine va_get (D := D) (ci := 1) (v := .ref b3) (C := "TileForge$Block") (T := T_Block) (N := 8) hx hb hts (cs_in in_Block) hown hK hP 0 rfl rfl 1 (by decide) (hts _ (cs_m mw_186)) (fun _ h9 => h9) rfl d_Block_meanAround_29 ?_
  refine lv_iconst (v := 0) hx hb d_Block_meanAround_32 (by decide) ?_
  refine cs_iald (j := 0) hx hb hK hcI hP 2 rfl (rfl) (by decide) (by decide) d_Block_meanAround_33 ?_
  refine lv_aload_n hx hb d_Block_meanAround_34 rfl (lv_at hl 1 rfl) ?_
  refine va_get (D := D) (ci := 1) (v := .ref b3) (C := "TileForge$Block") (T := T_Block) (N := 8) hx hb hts (cs_in in_Block) hown hK hP 0 rfl rfl 1 (by decide) (hts _ (cs_m mw_186)) (fun _ h9 => h9) rfl d_Block_meanAround_35 ?_
  refine lv_iconst (v := 1) hx hb d_Block_meanAround_38 (by decide) ?_
  refine cs_iald (j := 1) hx hb hK hcI hP 2 rfl (rfl) (by decide) (by decide) d_Block_meanAround_39 ?_
  refine lv_iadd hx hb d_Block_meanAround_40 ?_
  refine lv_aload_n hx hb d_Block_meanAround_41 rfl (lv_at hl 1 rfl) ?_
  refine va_get (D := D) (ci := 1) (v := .ref b3) (C := "TileForge$Block") (T := T_Block) (N := 8) hx hb hts (cs_in in_Block) hown hK hP 0 rfl rfl 1 (by decide) (hts _ (cs_m mw_186)) (fun _ h9 => h9) rfl d_Block_meanAround_42 ?_
  refine lv_iconst (v := 2) hx hb d_Block_meanAround_45 (by decide) ?_
  refine cs_iald (j := 2) hx hb hK hcI hP 2 rfl (rfl) (by decide) (by decide) d_Block_meanAround_46 ?_
  refine lv_iadd hx hb d_Block_meanAround_47 ?_
  refine lv_aload_n hx hb d_Block_meanAround_48 rfl (lv_at hl 1 rfl) ?_
  refine va_get (D := D) (ci := 1) (v := .ref b3) (C := "TileForge$Block") (T := T_Block) (N := 8) hx hb hts (cs_in in_Block) hown hK hP 0 rfl rfl 1 (by decide) (hts _ (cs_m mw_186)) (fun _ h9 => h9) rfl d_Block_meanAround_49 ?_
  refine lv_iconst (v := 3) hx hb d_Block_meanAround_52 (by decide) ?_
  refine cs_iald (j := 3) hx hb hK hcI hP 2 rfl (rfl) (by decide) (by decide) d_Block_meanAround_53 ?_
  refine lv_iadd hx hb d_Block_meanAround_54 ?_
  refine lv_istore_n (lv' := [(2, .int ((((lf 0) + (lf 1)) + (lf 2)) + (lf 3))), (1, .int ((((ab 0) + (ab 1)) + (ab 2)) + (ab 3))), (0, .ref b1)]) hx hb d_Block_meanAround_55 rfl hl (by decide) rfl (fun ls hl => ?_)
  refine lv_aload_n hx hb d_Block_meanAround_56 rfl (lv_at hl 2 rfl) ?_
  refine va_get (D := D) (ci := 1) (v := .int vr) (C := "TileForge$Block") (T := T_Block) (N := 8) hx hb hts (cs_in in_Block) hown hK hP 0 rfl rfl 5 (by decide) (hts _ (cs_m mw_191)) (fun _ h9 => h9) rfl d_Block_meanAround_57 ?_
  refine lv_if_eq (tgt := 79) hx hb d_Block_meanAround_60 (by decide) (fun c_60 => ?_) (fun c_60 => ?_)
  · refine lv_aload_n hx hb d_Block_meanAround_79 rfl (lv_at hl 2 rfl) ?_
    refine va_get (D := D) (ci := 1) (v := .int vr) (C := "TileForge$Block") (T := T_Block) (N := 8) hx hb hts (cs_in in_Block) hown hK hP 0 rfl rfl 5 (by decide) (hts _ (cs_m mw_191)) (fun _ h9 => h9) rfl d_Block_meanAround_80 ?_
    refine lv_if_eq (tgt := 92) hx hb d_Block_meanAround_83 (by decide) (fun c_83 => ?_) (fun c_83 => ?_)
    · refine lv_aload_n hx hb d_Block_meanAround_92 rfl (lv_at hl 2 rfl) ?_
      refine va_get (D := D) (ci := 1) (v := .int vc) (C := "TileForge$Block") (T := T_Block) (N := 8) hx hb hts (cs_in in_Block) hown hK hP 0 rfl rfl 6 (by decide) (hts _ (cs_m mw_192)) (fun _ h9 => h9) rfl d_Block_meanAround_93 ?_
      refine lv_if_eq (tgt := 107) hx hb d_Block_meanAround_96 (by decide) (fun c_96 => ?_) (fun c_96 => ?_)
      · refine lv_sipush (v := 128) hx hb d_Block_meanAround_107 (by decide) ?_
        exact W.iret (v := 128) hx hb hr (fun t ht hW => ⟨⟨128, [(b1, .inr (1, [.ref b2, .ref b3, .ref b4, .ref b5, .ref b6, .int vr, .int vc, .int vcr])), (b2, .inl (cI, 4, .inl ab)), (b3, .inl (cI, 4, .inl lf)), (b4, .inl (cI, 16, .inl fo)), (b5, .inl (cI, 16, .inl lv)), (b6, .inl (cI, 16, .inl wk))], rfl, ⟨(by first | exact absurd c_83 c_60 | exact absurd c_60 c_83 | exact absurd c_96 c_67 | exact absurd c_67 c_96 | simp [c_60, c_83, c_96, meanB]), (rfl)⟩, by rw [ht]; exact hP, va_K.moved hW.alike hK, hD⟩, hS.F ht⟩) hS.2.2 d_Block_meanAround_110
      · refine lv_iload_n hx hb d_Block_meanAround_99 rfl (lv_at hl 0 rfl) ?_
        refine lv_iconst (v := 2) hx hb d_Block_meanAround_100 (by decide) ?_
        refine lv_iadd hx hb d_Block_meanAround_101 ?_
        refine lv_iconst (v := 4) hx hb d_Block_meanAround_102 (by decide) ?_
        refine lv_idiv hx hb d_Block_meanAround_103 (by decide) ?_
        refine lv_goto (tgt := 110) hx hb d_Block_meanAround_104 (by decide) ?_
        exact W.iret (v := ((((((lf 0) + (lf 1)) + (lf 2)) + (lf 3)) + 2) / 4)) hx hb hr (fun t ht hW => ⟨⟨((((((lf 0) + (lf 1)) + (lf 2)) + (lf 3)) + 2) / 4), [(b1, .inr (1, [.ref b2, .ref b3, .ref b4, .ref b5, .ref b6, .int vr, .int vc, .int vcr])), (b2, .inl (cI, 4, .inl ab)), (b3, .inl (cI, 4, .inl lf)), (b4, .inl (cI, 16, .inl fo)), (b5, .inl (cI, 16, .inl lv)), (b6, .inl (cI, 16, .inl wk))], rfl, ⟨(by first | exact absurd c_83 c_60 | exact absurd c_60 c_83 | exact absurd c_96 c_67 | exact absurd c_67 c_96 | simp [c_60, c_83, c_96, meanB]), (rfl)⟩, by rw [ht]; exact hP, va_K.moved hW.alike hK, hD⟩, hS.F ht⟩) hS.2.2 d_Block_meanAround_110
    · refine lv_iload_n hx hb d_Block_meanAround_86 rfl (lv_at hl 1 rfl) ?_
      refine lv_iconst (v := 2) hx hb d_Block_meanAround_87 (by decide) ?_
      refine lv_iadd hx hb d_Block_meanAround_88 ?_
      refine lv_iconst (v := 4) hx hb d_Block_meanAround_89 (by decide) ?_
      refine lv_idiv hx hb d_Block_meanAround_90 (by decide) ?_
      exact W.iret (v := ((((((ab 0) + (ab 1)) + (ab 2)) + (ab 3)) + 2) / 4)) hx hb hr (fun t ht hW => ⟨⟨((((((ab 0) + (ab 1)) + (ab 2)) + (ab 3)) + 2) / 4), [(b1, .inr (1, [.ref b2, .ref b3, .ref b4, .ref b5, .ref b6, .int vr, .int vc, .int vcr])), (b2, .inl (cI, 4, .inl ab)), (b3, .inl (cI, 4, .inl lf)), (b4, .inl (cI, 16, .inl fo)), (b5, .inl (cI, 16, .inl lv)), (b6, .inl (cI, 16, .inl wk))], rfl, ⟨(by first | exact absurd c_83 c_60 | exact absurd c_60 c_83 | exact absurd c_96 c_67 | exact absurd c_67 c_96 | simp [c_60, c_83, meanB]), (rfl)⟩, by rw [ht]; exact hP, va_K.moved hW.alike hK, hD⟩, hS.F ht⟩) hS.2.2 d_Block_meanAround_91
  · refine lv_aload_n hx hb d_Block_meanAround_63 rfl (lv_at hl 2 rfl) ?_
    refine va_get (D := D) (ci := 1) (v := .int vc) (C := "TileForge$Block") (T := T_Block) (N := 8) hx hb hts (cs_in in_Block) hown hK hP 0 rfl rfl 6 (by decide) (hts _ (cs_m mw_192)) (fun _ h9 => h9) rfl d_Block_meanAround_64 ?_
    refine lv_if_eq (tgt := 79) hx hb d_Block_meanAround_67 (by decide) (fun c_67 => ?_) (fun c_67 => ?_)
    · refine lv_aload_n hx hb d_Block_meanAround_79 rfl (lv_at hl 2 rfl) ?_
      refine va_get (D := D) (ci := 1) (v := .int vr) (C := "TileForge$Block") (T := T_Block) (N := 8) hx hb hts (cs_in in_Block) hown hK hP 0 rfl rfl 5 (by decide) (hts _ (cs_m mw_191)) (fun _ h9 => h9) rfl d_Block_meanAround_80 ?_
      refine lv_if_eq (tgt := 92) hx hb d_Block_meanAround_83 (by decide) (fun c_83 => ?_) (fun c_83 => ?_)
      · refine lv_aload_n hx hb d_Block_meanAround_92 rfl (lv_at hl 2 rfl) ?_
        refine va_get (D := D) (ci := 1) (v := .int vc) (C := "TileForge$Block") (T := T_Block) (N := 8) hx hb hts (cs_in in_Block) hown hK hP 0 rfl rfl 6 (by decide) (hts _ (cs_m mw_192)) (fun _ h9 => h9) rfl d_Block_meanAround_93 ?_
        refine lv_if_eq (tgt := 107) hx hb d_Block_meanAround_96 (by decide) (fun c_96 => ?_) (fun c_96 => ?_)
        · refine lv_sipush (v := 128) hx hb d_Block_meanAround_107 (by decide) ?_
          exact W.iret (v := 128) hx hb hr (fun t ht hW => ⟨⟨128, [(b1, .inr (1, [.ref b2, .ref b3, .ref b4, .ref b5, .ref b6, .int vr, .int vc, .int vcr])), (b2, .inl (cI, 4, .inl ab)), (b3, .inl (cI, 4, .inl lf)), (b4, .inl (cI, 16, .inl fo)), (b5, .inl (cI, 16, .inl lv)), (b6, .inl (cI, 16, .inl wk))], rfl, ⟨(by first | exact absurd c_83 c_60 | exact absurd c_60 c_83 | exact absurd c_96 c_67 | exact absurd c_67 c_96 | simp [c_60, c_67, c_83, c_96, meanB]), (rfl)⟩, by rw [ht]; exact hP, va_K.moved hW.alike hK, hD⟩, hS.F ht⟩) hS.2.2 d_Block_meanAround_110
        · refine lv_iload_n hx hb d_Block_meanAround_99 rfl (lv_at hl 0 rfl) ?_
          refine lv_iconst (v := 2) hx hb d_Block_meanAround_100 (by decide) ?_
          refine lv_iadd hx hb d_Block_meanAround_101 ?_
          refine lv_iconst (v := 4) hx hb d_Block_meanAround_102 (by decide) ?_
          refine lv_idiv hx hb d_Block_meanAround_103 (by decide) ?_
          refine lv_goto (tgt := 110) hx hb d_Block_meanAround_104 (by decide) ?_
          exact W.iret (v := ((((((lf 0) + (lf 1)) + (lf 2)) + (lf 3)) + 2) / 4)) hx hb hr (fun t ht hW => ⟨⟨((((((lf 0) + (lf 1)) + (lf 2)) + (lf 3)) + 2) / 4), [(b1, .inr (1, [.ref b2, .ref b3, .ref b4, .ref b5, .ref b6, .int vr, .int vc, .int vcr])), (b2, .inl (cI, 4, .inl ab)), (b3, .inl (cI, 4, .inl lf)), (b4, .inl (cI, 16, .inl fo)), (b5, .inl (cI, 16, .inl lv)), (b6, .inl (cI, 16, .inl wk))], rfl, ⟨(by first | exact absurd c_83 c_60 | exact absurd c_60 c_83 | exact absurd c_96 c_67 | exact absurd c_67 c_96 | simp [c_60, c_67, c_83, c_96, meanB]), (rfl)⟩, by rw [ht]; exact hP, va_K.moved hW.alike hK, hD⟩, hS.F ht⟩) hS.2.2 d_Block_meanAround_110
      · refine lv_iload_n hx hb d_Block_meanAround_86 rfl (lv_at hl 1 rfl) ?_
        refine lv_iconst (v := 2) hx hb d_Block_meanAround_87 (by decide) ?_
        refine lv_iadd hx hb d_Block_meanAround_88 ?_
        refine lv_iconst (v := 4) hx hb d_Block_meanAround_89 (by decide) ?_
        refine lv_idiv hx hb d_Block_meanAround_90 (by decide) ?_
        exact W.iret (v := ((((((ab 0) + (ab 1)) + (ab 2)) + (ab 3)) + 2) / 4)) hx hb hr (fun t ht hW => ⟨⟨((((((ab 0) + (ab 1)) + (ab 2)) + (ab 3)) + 2) / 4), [(b1, .inr (1, [.ref b2, .ref b3, .ref b4, .ref b5, .ref b6, .int vr, .int vc, .int vcr])), (b2, .inl (cI, 4, .inl ab)), (b3, .inl (cI, 4, .inl lf)), (b4, .inl (cI, 16, .inl fo)), (b5, .inl (cI, 16, .inl lv)), (b6, .inl (cI, 16, .inl wk))], rfl, ⟨(by first | exact absurd c_83 c_60 | exact absurd c_60 c_83 | exact absurd c_96 c_67 | exact absurd c_67 c_96 | simp [c_60, c_67, c_83, meanB]), (rfl)⟩, by rw [ht]; exact hP, va_K.moved hW.alike hK, hD⟩, hS.F ht⟩) hS.2.2 d_Block_meanAround_91
    · refine lv_iload_n hx hb d_Block_meanAround_70 rfl (lv_at hl 1 rfl) ?_
      refine lv_iload_n hx hb d_Block_meanAround_71 rfl (lv_at hl 0 rfl) ?_
      refine lv_iadd hx hb d_Block_meanAround_72 ?_
      refine lv_iconst (v := 4) hx hb d_Block_meanAround_73 (by decide) ?_
      refine lv_iadd hx hb d_Block_meanAround_74 ?_
      refine lv_bipush (v := 8) hx hb d_Block_meanAround_75 (by decide) ?_
      refine lv_idiv hx hb d_Block_meanAround_77 (by decide) ?_
      exact W.iret (v := (((((((ab 0) + (ab 1)) + (ab 2)) + (ab 3)) + ((((lf 0) + (lf 1)) + (lf 2)) + (lf 3))) + 4) / 8)) hx hb hr (fun t ht hW => ⟨⟨(((((((ab 0) + (ab 1)) + (ab 2)) + (ab 3)) + ((((lf 0) + (lf 1)) + (lf 2)) + (lf 3))) + 4) / 8), [(b1, .inr (1, [.ref b2, .ref b3, .ref b4, .ref b5, .ref b6, .int vr, .int vc, .int vcr])), (b2, .inl (cI, 4, .inl ab)), (b3, .inl (cI, 4, .inl lf)), (b4, .inl (cI, 16, .inl fo)), (b5, .inl (cI, 16, .inl lv)), (b6, .inl (cI, 16, .inl wk))], rfl, ⟨(by first | exact absurd c_83 c_60 | exact absurd c_60 c_83 | exact absurd c_96 c_67 | exact absurd c_67 c_96 | simp [c_60, c_67, meanB]), (rfl)⟩, by rw [ht]; exact hP, va_K.moved hW.alike hK, hD⟩, hS.F ht⟩) hS.2.2 d_Block_meanAround_78
def y_Block_foretell : MethodName := ⟨"TileForge$Block", "foretell", "(I)V"⟩
def ws_Block_foretell : List Cond := .code y_Block_foretell prog_3_method_4_code 6 none :: GW
theorem mw_198 : (.code ⟨"TileForge$Block", "foretell", "(I)V"⟩ prog_3_method_4_code 6 none : Cond) ∈ GW := List.mem_filter.mpr ⟨(List.mem_append_right _ (List.mem_append_right _ (List.mem_append_left _ (List.mem_of_getElem? (i := 185) rfl)))), rfl⟩
theorem hd_Block_foretell : y_Block_foretell.cls ≠ "java/lang/invoke/MethodHandle" ∧ y_Block_foretell.cls ≠ "java/lang/invoke/VarHandle" ∧ (parseMethodDescriptor y_Block_foretell.desc).map (fun d => d.parameters.length) = some 1 := by decide +kernel
theorem d_Block_foretell_0 : decode prog_3_method_4_code 0 = .ok (.aload_n 0, 1) := by decide +kernel
theorem d_Block_foretell_1 : decode prog_3_method_4_code 1 = .ok (.invokevirtual 44, 3) := by decide +kernel
theorem d_Block_foretell_4 : decode prog_3_method_4_code 4 = .ok (.istore_n 2, 1) := by decide +kernel
theorem d_Block_foretell_5 : decode prog_3_method_4_code 5 = .ok (.iconst 0, 1) := by decide +kernel
theorem d_Block_foretell_6 : decode prog_3_method_4_code 6 = .ok (.istore_n 3, 1) := by decide +kernel
theorem d_Block_foretell_7 : decode prog_3_method_4_code 7 = .ok (.iload_n 3, 1) := by decide +kernel
theorem d_Block_foretell_8 : decode prog_3_method_4_code 8 = .ok (.bipush 16, 2) := by decide +kernel
theorem d_Block_foretell_10 : decode prog_3_method_4_code 10 = .ok (.if_icmp .ge 107, 3) := by decide +kernel
theorem d_Block_foretell_13 : decode prog_3_method_4_code 13 = .ok (.aload_n 0, 1) := by decide +kernel
theorem d_Block_foretell_14 : decode prog_3_method_4_code 14 = .ok (.getfield 9, 3) := by decide +kernel
theorem d_Block_foretell_17 : decode prog_3_method_4_code 17 = .ok (.iload_n 3, 1) := by decide +kernel
theorem d_Block_foretell_18 : decode prog_3_method_4_code 18 = .ok (.iconst 4, 1) := by decide +kernel
theorem d_Block_foretell_19 : decode prog_3_method_4_code 19 = .ok (.irem, 1) := by decide +kernel
theorem d_Block_foretell_20 : decode prog_3_method_4_code 20 = .ok (.iaload, 1) := by decide +kernel
theorem d_Block_foretell_21 : decode prog_3_method_4_code 21 = .ok (.istore 4, 2) := by decide +kernel
theorem d_Block_foretell_23 : decode prog_3_method_4_code 23 = .ok (.aload_n 0, 1) := by decide +kernel
theorem d_Block_foretell_24 : decode prog_3_method_4_code 24 = .ok (.getfield 15, 3) := by decide +kernel
theorem d_Block_foretell_27 : decode prog_3_method_4_code 27 = .ok (.iload_n 3, 1) := by decide +kernel
theorem d_Block_foretell_28 : decode prog_3_method_4_code 28 = .ok (.iconst 4, 1) := by decide +kernel
theorem d_Block_foretell_29 : decode prog_3_method_4_code 29 = .ok (.idiv, 1) := by decide +kernel
theorem d_Block_foretell_30 : decode prog_3_method_4_code 30 = .ok (.iaload, 1) := by decide +kernel
theorem d_Block_foretell_31 : decode prog_3_method_4_code 31 = .ok (.istore 5, 2) := by decide +kernel
theorem d_Block_foretell_33 : decode prog_3_method_4_code 33 = .ok (.iload_n 1, 1) := by decide +kernel
theorem d_Block_foretell_34 : decode prog_3_method_4_code 34 = .ok (.tableswitch 58 0 2 #[26, 36, 47], 26) := by decide +kernel
theorem d_Block_foretell_60 : decode prog_3_method_4_code 60 = .ok (.aload_n 0, 1) := by decide +kernel
theorem d_Block_foretell_61 : decode prog_3_method_4_code 61 = .ok (.getfield 18, 3) := by decide +kernel
theorem d_Block_foretell_64 : decode prog_3_method_4_code 64 = .ok (.iload_n 3, 1) := by decide +kernel
theorem d_Block_foretell_65 : decode prog_3_method_4_code 65 = .ok (.iload_n 2, 1) := by decide +kernel
theorem d_Block_foretell_66 : decode prog_3_method_4_code 66 = .ok (.iastore, 1) := by decide +kernel
theorem d_Block_foretell_67 : decode prog_3_method_4_code 67 = .ok (.goto 44, 3) := by decide +kernel
theorem d_Block_foretell_70 : decode prog_3_method_4_code 70 = .ok (.aload_n 0, 1) := by decide +kernel
theorem d_Block_foretell_71 : decode prog_3_method_4_code 71 = .ok (.getfield 18, 3) := by decide +kernel
theorem d_Block_foretell_74 : decode prog_3_method_4_code 74 = .ok (.iload_n 3, 1) := by decide +kernel
theorem d_Block_foretell_75 : decode prog_3_method_4_code 75 = .ok (.iload 4, 2) := by decide +kernel
theorem d_Block_foretell_77 : decode prog_3_method_4_code 77 = .ok (.iastore, 1) := by decide +kernel
theorem d_Block_foretell_78 : decode prog_3_method_4_code 78 = .ok (.goto 33, 3) := by decide +kernel
theorem d_Block_foretell_81 : decode prog_3_method_4_code 81 = .ok (.aload_n 0, 1) := by decide +kernel
theorem d_Block_foretell_82 : decode prog_3_method_4_code 82 = .ok (.getfield 18, 3) := by decide +kernel
theorem d_Block_foretell_85 : decode prog_3_method_4_code 85 = .ok (.iload_n 3, 1) := by decide +kernel
theorem d_Block_foretell_86 : decode prog_3_method_4_code 86 = .ok (.iload 5, 2) := by decide +kernel
theorem d_Block_foretell_88 : decode prog_3_method_4_code 88 = .ok (.iastore, 1) := by decide +kernel
theorem d_Block_foretell_89 : decode prog_3_method_4_code 89 = .ok (.goto 22, 3) := by decide +kernel
theorem d_Block_foretell_92 : decode prog_3_method_4_code 92 = .ok (.aload_n 0, 1) := by decide +kernel
theorem d_Block_foretell_93 : decode prog_3_method_4_code 93 = .ok (.getfield 18, 3) := by decide +kernel
theorem d_Block_foretell_96 : decode prog_3_method_4_code 96 = .ok (.iload_n 3, 1) := by decide +kernel
theorem d_Block_foretell_97 : decode prog_3_method_4_code 97 = .ok (.iload 5, 2) := by decide +kernel
theorem d_Block_foretell_99 : decode prog_3_method_4_code 99 = .ok (.iload 4, 2) := by decide +kernel
theorem d_Block_foretell_101 : decode prog_3_method_4_code 101 = .ok (.iadd, 1) := by decide +kernel
theorem d_Block_foretell_102 : decode prog_3_method_4_code 102 = .ok (.aload_n 0, 1) := by decide +kernel
theorem d_Block_foretell_103 : decode prog_3_method_4_code 103 = .ok (.getfield 40, 3) := by decide +kernel
theorem d_Block_foretell_106 : decode prog_3_method_4_code 106 = .ok (.isub, 1) := by decide +kernel
theorem d_Block_foretell_107 : decode prog_3_method_4_code 107 = .ok (.invokestatic 48, 3) := by decide +kernel
theorem d_Block_foretell_110 : decode prog_3_method_4_code 110 = .ok (.iastore, 1) := by decide +kernel
theorem d_Block_foretell_111 : decode prog_3_method_4_code 111 = .ok (.iinc 3 1, 3) := by decide +kernel
theorem d_Block_foretell_114 : decode prog_3_method_4_code 114 = .ok (.goto (-107), 3) := by decide +kernel
theorem d_Block_foretell_117 : decode prog_3_method_4_code 117 = .ok (.return_, 1) := by decide +kernel
theorem mw_199 : (.initialized "TileForge$Block" : Cond) ∈ GW := List.mem_filter.mpr ⟨(List.mem_append_right _ (List.mem_append_left _ (List.mem_of_getElem? (i := 6) rfl))), rfl⟩
theorem mw_200 : (.methodLink "TileForge$Block" 44 ⟨"TileForge$Block", "meanAround", "()I"⟩ : Cond) ∈ GW := List.mem_filter.mpr ⟨(List.mem_append_right _ (List.mem_append_right _ (List.mem_append_left _ (List.mem_of_getElem? (i := 186) rfl)))), rfl⟩
theorem mw_201 : (.instanceMethod ⟨"TileForge$Block", "meanAround", "()I"⟩ : Cond) ∈ GW := List.mem_filter.mpr ⟨(List.mem_append_right _ (List.mem_append_right _ (List.mem_append_left _ (List.mem_of_getElem? (i := 187) rfl)))), rfl⟩
theorem mw_202 : (.selects "TileForge$Block" ⟨"TileForge$Block", "meanAround", "()I"⟩ ⟨"TileForge$Block", "meanAround", "()I"⟩ : Cond) ∈ GW := List.mem_filter.mpr ⟨(List.mem_append_right _ (List.mem_append_right _ (List.mem_append_left _ (List.mem_of_getElem? (i := 188) rfl)))), rfl⟩
theorem mw_203 : (.static ⟨"TileForge", "clipped", "(I)I"⟩ : Cond) ∈ GW := List.mem_filter.mpr ⟨(List.mem_append_right _ (List.mem_append_right _ (List.mem_append_left _ (List.mem_of_getElem? (i := 135) rfl)))), rfl⟩
def q_bl_fore (cI : ClassId) (b1 : Nat) (b2 : Nat) (b3 : Nat) (b4 : Nat) (b5 : Nat) (b6 : Nat) (ab : Nat → Int32) (lf : Nat → Int32) (fo : Nat → Int32) (lv : Nat → Int32) (wk : Nat → Int32) (vr : Int32) (vc : Int32) (vcr : Int32) (way : Int32) : va_W → Prop := fun ww => ∃ (fo' : Nat → Int32), (∀ j, j < 16 → fo' j = foreB vr vc ab lf vcr way j) ∧ ww = [(b1, .inr (1, [.ref b2, .ref b3, .ref b4, .ref b5, .ref b6, .int vr, .int vc, .int vcr])), (b2, .inl (cI, 4, .inl ab)), (b3, .inl (cI, 4, .inl lf)), (b4, .inl (cI, 16, .inl fo')), (b5, .inl (cI, 16, .inl lv)), (b6, .inl (cI, 16, .inl wk))]
set_option maxHeartbeats 4000000 in
set_option maxRecDepth 100000 in
theorem c_bl_fore (l : Launch) {D : va_G} {tys : List (ClassId × FieldType)} {cI : ClassId} (hcI : tys[0]? = some (cI, .int)) (b1 : Nat) (b2 : Nat) (b3 : Nat) (b4 : Nat) (b5 : Nat) (b6 : Nat) (ab : Nat → Int32) (lf : Nat → Int32) (fo : Nat → Int32) (lv : Nat → Int32) (wk : Nat → Int32) (vr : Int32) (vc : Int32) (vcr : Int32) (way : Int32) : CsV l D vwCl tys y_Block_foretell ws_Block_foretell ({ frames := 1, cells := 0, slots := 0, locals := 22 } : Room) [.ref b1, .int way] [(b1, .inr (1, [.ref b2, .ref b3, .ref b4, .ref b5, .ref b6, .int vr, .int vc, .int vcr])), (b2, .inl (cI, 4, .inl ab)), (b3, .inl (cI, 4, .inl lf)), (b4, .inl (cI, 16, .inl fo)), (b5, .inl (cI, 16, .inl lv)), (b6, .inl (cI, 16, .inl wk))] (q_bl_fore cI b1 b2 b3 b4 b5 b6 ab lf fo lv wk vr vc vcr way) 0 0 := by
  intro sz
  refine Met.ofW (cc := prog_3_method_4_code) (maxL := 6) (ret := none) (by decide) rfl ?_
  intro p e s m args below meth c s₁ B hml hv
  obtain ⟨rfl, hsz, hP, hK, hD0, hN⟩ := hv
  have hx := B.exec
  have hb := B.bytes
  have hr := B.returns
  have hts := atoms_spec (ws := ws_Block_foretell) B.pre
  have hown : s.vm.findClass "TileForge$Block" = some m.cls := findClass_of_methodNamed B.named
  have hlocks := B.notSynchronized
  subst hsz
  have hD := hD0.self (sz := s.heap.size)
  generalize hAe : va_A [(b1, .inr (1, [.ref b2, .ref b3, .ref b4, .ref b5, .ref b6, .int vr, .int vc, .int vcr])), (b2, .inl (cI, 4, .inl ab)), (b3, .inl (cI, 4, .inl lf)), (b4, .inl (cI, 16, .inl fo)), (b5, .inl (cI, 16, .inl lv)), (b6, .inl (cI, 16, .inl wk))] s.heap.size = A at hD ⊢
  have hA : ∀ q : Nat, s.heap.size ≤ q → A q := fun q h => by rw [← hAe]; exact Or.inr h
  have hS : va_S A s.heap s.heap [] := va_S.rf
  have hP : va_P D vwCl [(b1, .inr (1, [.ref b2, .ref b3, .ref b4, .ref b5, .ref b6, .int vr, .int vc, .int vcr])), (b2, .inl (cI, 4, .inl ab)), (b3, .inl (cI, 4, .inl lf)), (b4, .inl (cI, 16, .inl fo)), (b5, .inl (cI, 16, .inl lv)), (b6, .inl (cI, 16, .inl wk))] s.heap := hP
  have hl := lv_entry ([.ref b1, .int way]) (n := 6) (Nat.le_of_ble_eq_true rfl)
  rw [lg_entry_eq]
  generalize (lg_sl ([.ref b1, .int way]) ++ List.replicate (6 - (lg_sl ([.ref b1, .int way])).length) Slot.unset).toArray = ls at hl ⊢
  have hl : lv_has ls 6 [(0, .ref b1), (1, .int way)] := hl
  refine lv_aload_n hx hb d_Block_foretell_0 rfl (lv_at hl 0 rfl) ?_
  refine cs_Vi (As := []) (rest := []) (wr := []) ⟨hx, hb, hml, hown, hts⟩ (c_bl_mean l hcI b1 b2 b3 b4 b5 b6 ab lf fo lv wk vr vc vcr) (cwV 0 hts (cs_gV mw_200 mw_201 mw_202 mw_199 mw_197) rfl rfl rfl ⟨rfl, hd_Block_meanAround⟩ ⟨Nat.le_of_ble_eq_true rfl, Nat.le_of_ble_eq_true rfl⟩) hN hK hP hD hS hA [0, 1, 2, 3, 4, 5] [] rfl rfl rfl rfl (by decide) (ci := 1) rfl rfl rfl rfl rfl hl.1 (Nat.le_of_ble_eq_true rfl) d_Block_foretell_1 ⟨Nat.le_of_ble_eq_true rfl, Nat.le_of_ble_eq_true rfl⟩ (fun r1 w1 H locs hw hP hD hS => ?_)
  obtain ⟨rfl, rfl⟩ := hw
  have hP : va_P D vwCl [(b1, .inr (1, [.ref b2, .ref b3, .ref b4, .ref b5, .ref b6, .int vr, .int vc, .int vcr])), (b2, .inl (cI, 4, .inl ab)), (b3, .inl (cI, 4, .inl lf)), (b4, .inl (cI, 16, .inl fo)), (b5, .inl (cI, 16, .inl lv)), (b6, .inl (cI, 16, .inl wk))] H := hP
  have hD : va_D A [(b1, .inr (1, [.ref b2, .ref b3, .ref b4, .ref b5, .ref b6, .int vr, .int vc, .int vcr])), (b2, .inl (cI, 4, .inl ab)), (b3, .inl (cI, 4, .inl lf)), (b4, .inl (cI, 16, .inl fo)), (b5, .inl (cI, 16, .inl lv)), (b6, .inl (cI, 16, .inl wk))] := hD
  refine lv_istore_n (lv' := [(2, .int (meanB vr vc ab lf)), (0, .ref b1), (1, .int way)]) hx hb d_Block_foretell_4 rfl hl (by decide) rfl (fun ls hl => ?_)
  refine lv_iconst (v := 0) hx hb d_Block_foretell_5 (by decide) ?_
  refine lv_istore_n (lv' := [(3, .int 0), (2, .int (meanB vr vc ab lf)), (0, .ref b1), (1, .int way)]) hx hb d_Block_foretell_6 rfl hl (by decide) rfl (fun ls hl => ?_)
  have lp7 : ∀ (n : Nat) (k : Nat) (f : Nat → Int32), (17 ≤ k + n) → (k ≤ 16) → (∀ j, j < k → f j = foreB vr vc ab lf vcr way j) → ∀ (H : Heap) (locs : List Loc) (ls : Array Slot), va_P D vwCl [(b1, .inr (1, [.ref b2, .ref b3, .ref b4, .ref b5, .ref b6, .int vr, .int vc, .int vcr])), (b2, .inl (cI, 4, .inl ab)), (b3, .inl (cI, 4, .inl lf)), (b4, .inl (cI, 16, .inl f)), (b5, .inl (cI, 16, .inl lv)), (b6, .inl (cI, 16, .inl wk))] H → va_D A [(b1, .inr (1, [.ref b2, .ref b3, .ref b4, .ref b5, .ref b6, .int vr, .int vc, .int vcr])), (b2, .inl (cI, 4, .inl ab)), (b3, .inl (cI, 4, .inl lf)), (b4, .inl (cI, 16, .inl f)), (b5, .inl (cI, 16, .inl lv)), (b6, .inl (cI, 16, .inl wk))] → va_S A s.heap H locs → lv_has ls 6 [(0, .ref b1), (1, .int way), (2, .int (meanB vr vc ab lf)), (3, .int (nI k))] → W p l e ({ frames := 1, cells := 0, slots := 0, locals := 22 } : Room) s m ([.ref b1, .int way] : List Value).toArray below meth c H locs 0 0 (MQ below (va_Qv (q_bl_fore cI b1 b2 b3 b4 b5 b6 ab lf fo lv wk vr vc vcr way) (cs_B D vwCl tys A) A) ([.ref b1, .int way] : List Value).toArray s 0 0 A) (F0 m 7 ls []) := by
    intro n
    induction n with
    | zero =>
      intro k f hf hk h1
      exact absurd hf (by omega)
    | succ n ih7 =>
      intro k f hf hk h1 H locs ls hP hD hS hl
      refine lv_iload_n hx hb d_Block_foretell_7 rfl (lv_at hl 3 rfl) ?_
      refine lv_bipush (v := 16) hx hb d_Block_foretell_8 (by decide) ?_
      refine lv_icmp_ge (tgt := 117) hx hb d_Block_foretell_10 (by decide) (fun c_10 => ?_) (fun c_10 => ?_)
      · have hk2 := (nI_leI (a := 16) (b := k) (by decide) (by omega)).mp c_10
        have hk3 : k = 16 := by omega
        subst hk3
        exact W.vret hx hb hr (fun t ht hW => ⟨⟨[(b1, .inr (1, [.ref b2, .ref b3, .ref b4, .ref b5, .ref b6, .int vr, .int vc, .int vcr])), (b2, .inl (cI, 4, .inl ab)), (b3, .inl (cI, 4, .inl lf)), (b4, .inl (cI, 16, .inl f)), (b5, .inl (cI, 16, .inl lv)), (b6, .inl (cI, 16, .inl wk))], rfl, ⟨f, (h1), (rfl)⟩, by rw [ht]; exact hP, va_K.moved hW.alike hK, hD⟩, hS.F ht⟩) hS.2.2 d_Block_foretell_117
      · have hk2 : k < 16 := Nat.not_le.mp (fun h => c_10 ((nI_leI (a := 16) (b := k) (by decide) (by omega)).mpr h))
        refine lv_aload_n hx hb d_Block_foretell_13 rfl (lv_at hl 0 rfl) ?_
        refine va_get (D := D) (ci := 1) (v := .ref b2) (C := "TileForge$Block") (T := T_Block) (N := 8) hx hb hts (cs_in in_Block) hown hK hP 0 rfl rfl 0 (by decide) (hts _ (cs_m mw_185)) (fun _ h9 => h9) rfl d_Block_foretell_14 ?_
        refine lv_iload_n hx hb d_Block_foretell_17 rfl (lv_at hl 3 rfl) ?_
        refine lv_iconst (v := 4) hx hb d_Block_foretell_18 (by decide) ?_
        refine lv_irem hx hb d_Block_foretell_19 (by decide) ?_
        refine cs_iald (j := k % 4) hx hb hK hcI hP 1 rfl (pk_rem (a := k) (d := 4) (by omega) (by decide) (by decide)) (by omega) (by decide) d_Block_foretell_20 ?_
        refine lv_istore (lv' := [(4, .int (ab (k % 4))), (0, .ref b1), (1, .int way), (2, .int (meanB vr vc ab lf)), (3, .int (nI k))]) hx hb d_Block_foretell_21 hl (by decide) rfl (fun ls hl => ?_)
        refine lv_aload_n hx hb d_Block_foretell_23 rfl (lv_at hl 1 rfl) ?_
        refine va_get (D := D) (ci := 1) (v := .ref b3) (C := "TileForge$Block") (T := T_Block) (N := 8) hx hb hts (cs_in in_Block) hown hK hP 0 rfl rfl 1 (by decide) (hts _ (cs_m mw_186)) (fun _ h9 => h9) rfl d_Block_foretell_24 ?_
        refine lv_iload_n hx hb d_Block_foretell_27 rfl (lv_at hl 4 rfl) ?_
        refine lv_iconst (v := 4) hx hb d_Block_foretell_28 (by decide) ?_
        refine lv_idiv hx hb d_Block_foretell_29 (by decide) ?_
        refine cs_iald (j := k / 4) hx hb hK hcI hP 2 rfl (pk_div (a := k) (d := 4) (by omega) (by decide) (by decide)) (by omega) (by decide) d_Block_foretell_30 ?_
        refine lv_istore (lv' := [(5, .int (lf (k / 4))), (4, .int (ab (k % 4))), (0, .ref b1), (1, .int way), (2, .int (meanB vr vc ab lf)), (3, .int (nI k))]) hx hb d_Block_foretell_31 hl (by decide) rfl (fun ls hl => ?_)
        refine lv_iload_n hx hb d_Block_foretell_33 rfl (lv_at hl 3 rfl) ?_
        by_cases s_34_0 : way = 0
        · refine cs_tin (k := 0) (tgt := 60) hx hb d_Block_foretell_34 s_34_0 (by decide) (by decide) rfl (by decide) ?_
          refine lv_aload_n hx hb d_Block_foretell_60 rfl (lv_at hl 2 rfl) ?_
          refine va_get (D := D) (ci := 1) (v := .ref b4) (C := "TileForge$Block") (T := T_Block) (N := 8) hx hb hts (cs_in in_Block) hown hK hP 0 rfl rfl 2 (by decide) (hts _ (cs_m mw_187)) (fun _ h9 => h9) rfl d_Block_foretell_61 ?_
          refine lv_iload_n hx hb d_Block_foretell_64 rfl (lv_at hl 5 rfl) ?_
          refine lv_iload_n hx hb d_Block_foretell_65 rfl (lv_at hl 4 rfl) ?_
          refine cs_iast (j := k) hx hb hK hcI hP hD hS 3 rfl (rfl) (by omega) (by decide) d_Block_foretell_66 (fun H locs hP hD hS => ?_)
          have hP : va_P D vwCl [(b1, .inr (1, [.ref b2, .ref b3, .ref b4, .ref b5, .ref b6, .int vr, .int vc, .int vcr])), (b2, .inl (cI, 4, .inl ab)), (b3, .inl (cI, 4, .inl lf)), (b4, .inl (cI, 16, .inl (upd f k (meanB vr vc ab lf)))), (b5, .inl (cI, 16, .inl lv)), (b6, .inl (cI, 16, .inl wk))] H := hP
          have hD : va_D A [(b1, .inr (1, [.ref b2, .ref b3, .ref b4, .ref b5, .ref b6, .int vr, .int vc, .int vcr])), (b2, .inl (cI, 4, .inl ab)), (b3, .inl (cI, 4, .inl lf)), (b4, .inl (cI, 16, .inl (upd f k (meanB vr vc ab lf)))), (b5, .inl (cI, 16, .inl lv)), (b6, .inl (cI, 16, .inl wk))] := hD
          refine lv_goto (tgt := 111) hx hb d_Block_foretell_67 (by decide) ?_
          refine lv_iinc (v := nI (k + 1)) (lv' := [(3, .int (nI (k + 1))), (5, .int (lf (k / 4))), (4, .int (ab (k % 4))), (0, .ref b1), (1, .int way), (2, .int (meanB vr vc ab lf))]) hx hb d_Block_foretell_111 hl (k := 5) rfl (nI_1 _) (by decide) rfl (fun ls hl => ?_)
          refine lv_goto (tgt := 7) hx hb d_Block_foretell_114 (by decide) ?_
          exact ih7 (k + 1) (upd f k (meanB vr vc ab lf)) (by omega) (by omega) (cs_ext h1 (by simp [foreB, s_34_0])) _ _ _ (hP.sub (ws' := [(b1, .inr (1, [.ref b2, .ref b3, .ref b4, .ref b5, .ref b6, .int vr, .int vc, .int vcr])), (b2, .inl (cI, 4, .inl ab)), (b3, .inl (cI, 4, .inl lf)), (b4, .inl (cI, 16, .inl (upd f k (meanB vr vc ab lf)))), (b5, .inl (cI, 16, .inl lv)), (b6, .inl (cI, 16, .inl wk))]) [0, 1, 2, 3, 4, 5] rfl) (hD.sub (ws' := [(b1, .inr (1, [.ref b2, .ref b3, .ref b4, .ref b5, .ref b6, .int vr, .int vc, .int vcr])), (b2, .inl (cI, 4, .inl ab)), (b3, .inl (cI, 4, .inl lf)), (b4, .inl (cI, 16, .inl (upd f k (meanB vr vc ab lf)))), (b5, .inl (cI, 16, .inl lv)), (b6, .inl (cI, 16, .inl wk))]) [0, 1, 2, 3, 4, 5] (by decide) rfl) hS (lv_sub hl [3, 4, 5, 0] rfl)
        by_cases s_34_1 : way = 1
        · refine cs_tin (k := 1) (tgt := 70) hx hb d_Block_foretell_34 s_34_1 (by decide) (by decide) rfl (by decide) ?_
          refine lv_aload_n hx hb d_Block_foretell_70 rfl (lv_at hl 2 rfl) ?_
          refine va_get (D := D) (ci := 1) (v := .ref b4) (C := "TileForge$Block") (T := T_Block) (N := 8) hx hb hts (cs_in in_Block) hown hK hP 0 rfl rfl 2 (by decide) (hts _ (cs_m mw_187)) (fun _ h9 => h9) rfl d_Block_foretell_71 ?_
          refine lv_iload_n hx hb d_Block_foretell_74 rfl (lv_at hl 5 rfl) ?_
          refine lv_iload hx hb d_Block_foretell_75 (lv_at hl 1 rfl) ?_
          refine cs_iast (j := k) hx hb hK hcI hP hD hS 3 rfl (rfl) (by omega) (by decide) d_Block_foretell_77 (fun H locs hP hD hS => ?_)
          have hP : va_P D vwCl [(b1, .inr (1, [.ref b2, .ref b3, .ref b4, .ref b5, .ref b6, .int vr, .int vc, .int vcr])), (b2, .inl (cI, 4, .inl ab)), (b3, .inl (cI, 4, .inl lf)), (b4, .inl (cI, 16, .inl (upd f k (ab (k % 4))))), (b5, .inl (cI, 16, .inl lv)), (b6, .inl (cI, 16, .inl wk))] H := hP
          have hD : va_D A [(b1, .inr (1, [.ref b2, .ref b3, .ref b4, .ref b5, .ref b6, .int vr, .int vc, .int vcr])), (b2, .inl (cI, 4, .inl ab)), (b3, .inl (cI, 4, .inl lf)), (b4, .inl (cI, 16, .inl (upd f k (ab (k % 4))))), (b5, .inl (cI, 16, .inl lv)), (b6, .inl (cI, 16, .inl wk))] := hD
          refine lv_goto (tgt := 111) hx hb d_Block_foretell_78 (by decide) ?_
          refine lv_iinc (v := nI (k + 1)) (lv' := [(3, .int (nI (k + 1))), (5, .int (lf (k / 4))), (4, .int (ab (k % 4))), (0, .ref b1), (1, .int way), (2, .int (meanB vr vc ab lf))]) hx hb d_Block_foretell_111 hl (k := 5) rfl (nI_1 _) (by decide) rfl (fun ls hl => ?_)
          refine lv_goto (tgt := 7) hx hb d_Block_foretell_114 (by decide) ?_
          exact ih7 (k + 1) (upd f k (ab (k % 4))) (by omega) (by omega) (cs_ext h1 (by simp [foreB, s_34_0, s_34_1])) _ _ _ (hP.sub (ws' := [(b1, .inr (1, [.ref b2, .ref b3, .ref b4, .ref b5, .ref b6, .int vr, .int vc, .int vcr])), (b2, .inl (cI, 4, .inl ab)), (b3, .inl (cI, 4, .inl lf)), (b4, .inl (cI, 16, .inl (upd f k (ab (k % 4))))), (b5, .inl (cI, 16, .inl lv)), (b6, .inl (cI, 16, .inl wk))]) [0, 1, 2, 3, 4, 5] rfl) (hD.sub (ws' := [(b1, .inr (1, [.ref b2, .ref b3, .ref b4, .ref b5, .ref b6, .int vr, .int vc, .int vcr])), (b2, .inl (cI, 4, .inl ab)), (b3, .inl (cI, 4, .inl lf)), (b4, .inl (cI, 16, .inl (upd f k (ab (k % 4))))), (b5, .inl (cI, 16, .inl lv)), (b6, .inl (cI, 16, .inl wk))]) [0, 1, 2, 3, 4, 5] (by decide) rfl) hS (lv_sub hl [3, 4, 5, 0] rfl)
        by_cases s_34_2 : way = 2
        · refine cs_tin (k := 2) (tgt := 81) hx hb d_Block_foretell_34 s_34_2 (by decide) (by decide) rfl (by decide) ?_
          refine lv_aload_n hx hb d_Block_foretell_81 rfl (lv_at hl 2 rfl) ?_
          refine va_get (D := D) (ci := 1) (v := .ref b4) (C := "TileForge$Block") (T := T_Block) (N := 8) hx hb hts (cs_in in_Block) hown hK hP 0 rfl rfl 2 (by decide) (hts _ (cs_m mw_187)) (fun _ h9 => h9) rfl d_Block_foretell_82 ?_
          refine lv_iload_n hx hb d_Block_foretell_85 rfl (lv_at hl 5 rfl) ?_
          refine lv_iload hx hb d_Block_foretell_86 (lv_at hl 0 rfl) ?_
          refine cs_iast (j := k) hx hb hK hcI hP hD hS 3 rfl (rfl) (by omega) (by decide) d_Block_foretell_88 (fun H locs hP hD hS => ?_)
          have hP : va_P D vwCl [(b1, .inr (1, [.ref b2, .ref b3, .ref b4, .ref b5, .ref b6, .int vr, .int vc, .int vcr])), (b2, .inl (cI, 4, .inl ab)), (b3, .inl (cI, 4, .inl lf)), (b4, .inl (cI, 16, .inl (upd f k (lf (k / 4))))), (b5, .inl (cI, 16, .inl lv)), (b6, .inl (cI, 16, .inl wk))] H := hP
          have hD : va_D A [(b1, .inr (1, [.ref b2, .ref b3, .ref b4, .ref b5, .ref b6, .int vr, .int vc, .int vcr])), (b2, .inl (cI, 4, .inl ab)), (b3, .inl (cI, 4, .inl lf)), (b4, .inl (cI, 16, .inl (upd f k (lf (k / 4))))), (b5, .inl (cI, 16, .inl lv)), (b6, .inl (cI, 16, .inl wk))] := hD
          refine lv_goto (tgt := 111) hx hb d_Block_foretell_89 (by decide) ?_
          refine lv_iinc (v := nI (k + 1)) (lv' := [(3, .int (nI (k + 1))), (5, .int (lf (k / 4))), (4, .int (ab (k % 4))), (0, .ref b1), (1, .int way), (2, .int (meanB vr vc ab lf))]) hx hb d_Block_foretell_111 hl (k := 5) rfl (nI_1 _) (by decide) rfl (fun ls hl => ?_)
          refine lv_goto (tgt := 7) hx hb d_Block_foretell_114 (by decide) ?_
          exact ih7 (k + 1) (upd f k (lf (k / 4))) (by omega) (by omega) (cs_ext h1 (by simp [foreB, s_34_0, s_34_1, s_34_2])) _ _ _ (hP.sub (ws' := [(b1, .inr (1, [.ref b2, .ref b3, .ref b4, .ref b5, .ref b6, .int vr, .int vc, .int vcr])), (b2, .inl (cI, 4, .inl ab)), (b3, .inl (cI, 4, .inl lf)), (b4, .inl (cI, 16, .inl (upd f k (lf (k / 4))))), (b5, .inl (cI, 16, .inl lv)), (b6, .inl (cI, 16, .inl wk))]) [0, 1, 2, 3, 4, 5] rfl) (hD.sub (ws' := [(b1, .inr (1, [.ref b2, .ref b3, .ref b4, .ref b5, .ref b6, .int vr, .int vc, .int vcr])), (b2, .inl (cI, 4, .inl ab)), (b3, .inl (cI, 4, .inl lf)), (b4, .inl (cI, 16, .inl (upd f k (lf (k / 4))))), (b5, .inl (cI, 16, .inl lv)), (b6, .inl (cI, 16, .inl wk))]) [0, 1, 2, 3, 4, 5] (by decide) rfl) hS (lv_sub hl [3, 4, 5, 0] rfl)
        refine lv_tableOut (tgt := 92) hx hb d_Block_foretell_34 (by have h0 := lv_neT s_34_0 (a := 0) rfl; have h1 := lv_neT s_34_1 (a := 1) rfl; have h2 := lv_neT s_34_2 (a := 2) rfl; omega) (by decide) ?_
        refine lv_aload_n hx hb d_Block_foretell_92 rfl (lv_at hl 2 rfl) ?_
        refine va_get (D := D) (ci := 1) (v := .ref b4) (C := "TileForge$Block") (T := T_Block) (N := 8) hx hb hts (cs_in in_Block) hown hK hP 0 rfl rfl 2 (by decide) (hts _ (cs_m mw_187)) (fun _ h9 => h9) rfl d_Block_foretell_93 ?_
        refine lv_iload_n hx hb d_Block_foretell_96 rfl (lv_at hl 5 rfl) ?_
        refine lv_iload hx hb d_Block_foretell_97 (lv_at hl 0 rfl) ?_
        refine lv_iload hx hb d_Block_foretell_99 (lv_at hl 1 rfl) ?_
        refine lv_iadd hx hb d_Block_foretell_101 ?_
        refine lv_aload_n hx hb d_Block_foretell_102 rfl (lv_at hl 2 rfl) ?_
        refine va_get (D := D) (ci := 1) (v := .int vcr) (C := "TileForge$Block") (T := T_Block) (N := 8) hx hb hts (cs_in in_Block) hown hK hP 0 rfl rfl 7 (by decide) (hts _ (cs_m mw_193)) (fun _ h9 => h9) rfl d_Block_foretell_103 ?_
        refine lv_isub hx hb d_Block_foretell_106 ?_
        refine cs_SNi (As := [.int (((lf (k / 4)) + (ab (k % 4))) - vcr)]) (rest := [.int (nI k), .ref b4]) (wr := [(b1, .inr (1, [.ref b2, .ref b3, .ref b4, .ref b5, .ref b6, .int vr, .int vc, .int vcr])), (b2, .inl (cI, 4, .inl ab)), (b3, .inl (cI, 4, .inl lf)), (b4, .inl (cI, 16, .inl f)), (b5, .inl (cI, 16, .inl lv)), (b6, .inl (cI, 16, .inl wk))]) ⟨hx, hb, hml, hown, hts⟩ (c_clipped l hcI (((lf (k / 4)) + (ab (k % 4))) - vcr)) (⟨va_cnB 1 hts (cs_g mw_78) rfl rfl rfl (hN _ (List.mem_of_getElem? (i := 11) rfl)) (hts _ (cs_m mw_139)) hd_TileForge_clipped ⟨Nat.le_of_ble_eq_true rfl, Nat.le_of_ble_eq_true rfl⟩, hts _ (cs_m mw_203), trivial⟩) hN hK hP hD hS hA [] [0, 1, 2, 3, 4, 5] rfl rfl rfl rfl (by decide) rfl rfl hl.1 (Nat.le_of_ble_eq_true rfl) d_Block_foretell_107 ⟨Nat.le_of_ble_eq_true rfl, Nat.le_of_ble_eq_true rfl⟩ (fun r2 w1 H locs hw hP hD hS => ?_)
        obtain ⟨rfl, rfl⟩ := hw
        have hP : va_P D vwCl [(b1, .inr (1, [.ref b2, .ref b3, .ref b4, .ref b5, .ref b6, .int vr, .int vc, .int vcr])), (b2, .inl (cI, 4, .inl ab)), (b3, .inl (cI, 4, .inl lf)), (b4, .inl (cI, 16, .inl f)), (b5, .inl (cI, 16, .inl lv)), (b6, .inl (cI, 16, .inl wk))] H := hP
        have hD : va_D A [(b1, .inr (1, [.ref b2, .ref b3, .ref b4, .ref b5, .ref b6, .int vr, .int vc, .int vcr])), (b2, .inl (cI, 4, .inl ab)), (b3, .inl (cI, 4, .inl lf)), (b4, .inl (cI, 16, .inl f)), (b5, .inl (cI, 16, .inl lv)), (b6, .inl (cI, 16, .inl wk))] := hD
        refine cs_iast (j := k) hx hb hK hcI hP hD hS 3 rfl (rfl) (by omega) (by decide) d_Block_foretell_110 (fun H locs hP hD hS => ?_)
        have hP : va_P D vwCl [(b1, .inr (1, [.ref b2, .ref b3, .ref b4, .ref b5, .ref b6, .int vr, .int vc, .int vcr])), (b2, .inl (cI, 4, .inl ab)), (b3, .inl (cI, 4, .inl lf)), (b4, .inl (cI, 16, .inl (upd f k (clip (((lf (k / 4)) + (ab (k % 4))) - vcr))))), (b5, .inl (cI, 16, .inl lv)), (b6, .inl (cI, 16, .inl wk))] H := hP
        have hD : va_D A [(b1, .inr (1, [.ref b2, .ref b3, .ref b4, .ref b5, .ref b6, .int vr, .int vc, .int vcr])), (b2, .inl (cI, 4, .inl ab)), (b3, .inl (cI, 4, .inl lf)), (b4, .inl (cI, 16, .inl (upd f k (clip (((lf (k / 4)) + (ab (k % 4))) - vcr))))), (b5, .inl (cI, 16, .inl lv)), (b6, .inl (cI, 16, .inl wk))] := hD
        refine lv_iinc (v := nI (k + 1)) (lv' := [(3, .int (nI (k + 1))), (5, .int (lf (k / 4))), (4, .int (ab (k % 4))), (0, .ref b1), (1, .int way), (2, .int (meanB vr vc ab lf))]) hx hb d_Block_foretell_111 hl (k := 5) rfl (nI_1 _) (by decide) rfl (fun ls hl => ?_)
        refine lv_goto (tgt := 7) hx hb d_Block_foretell_114 (by decide) ?_
        exact ih7 (k + 1) (upd f k (clip (((lf (k / 4)) + (ab (k % 4))) - vcr))) (by omega) (by omega) (cs_ext h1 (by simp [foreB, s_34_0, s_34_1, s_34_2])) _ _ _ (hP.sub (ws' := [(b1, .inr (1, [.ref b2, .ref b3, .ref b4, .ref b5, .ref b6, .int vr, .int vc, .int vcr])), (b2, .inl (cI, 4, .inl ab)), (b3, .inl (cI, 4, .inl lf)), (b4, .inl (cI, 16, .inl (upd f k (clip (((lf (k / 4)) + (ab (k % 4))) - vcr))))), (b5, .inl (cI, 16, .inl lv)), (b6, .inl (cI, 16, .inl wk))]) [0, 1, 2, 3, 4, 5] rfl) (hD.sub (ws' := [(b1, .inr (1, [.ref b2, .ref b3, .ref b4, .ref b5, .ref b6, .int vr, .int vc, .int vcr])), (b2, .inl (cI, 4, .inl ab)), (b3, .inl (cI, 4, .inl lf)), (b4, .inl (cI, 16, .inl (upd f k (clip (((lf (k / 4)) + (ab (k % 4))) - vcr))))), (b5, .inl (cI, 16, .inl lv)), (b6, .inl (cI, 16, .inl wk))]) [0, 1, 2, 3, 4, 5] (by decide) rfl) hS (lv_sub hl [3, 4, 5, 0] rfl)
  exact lp7 (17) 0 fo (by omega) (by omega) (fun j hj => absurd hj (by omega)) _ _ _ (hP.sub (ws' := [(b1, .inr (1, [.ref b2, .ref b3, .ref b4, .ref b5, .ref b6, .int vr, .int vc, .int vcr])), (b2, .inl (cI, 4, .inl ab)), (b3, .inl (cI, 4, .inl lf)), (b4, .inl (cI, 16, .inl fo)), (b5, .inl (cI, 16, .inl lv)), (b6, .inl (cI, 16, .inl wk))]) [0, 1, 2, 3, 4, 5] rfl) (hD.sub (ws' := [(b1, .inr (1, [.ref b2, .ref b3, .ref b4, .ref b5, .ref b6, .int vr, .int vc, .int vcr])), (b2, .inl (cI, 4, .inl ab)), (b3, .inl (cI, 4, .inl lf)), (b4, .inl (cI, 16, .inl fo)), (b5, .inl (cI, 16, .inl lv)), (b6, .inl (cI, 16, .inl wk))]) [0, 1, 2, 3, 4, 5] (by decide) rfl) hS (lv_sub hl [2, 3, 1, 0] rfl)
def y_Block_sumOfMisses : MethodName := ⟨"TileForge$Block", "sumOfMisses", "(LTileForge$Picture;II)I"⟩
def ws_Block_sumOfMisses : List Cond := .code y_Block_sumOfMisses prog_3_method_6_code 6 (some .int) :: GW
theorem mw_204 : (.code ⟨"TileForge$Block", "sumOfMisses", "(LTileForge$Picture;II)I"⟩ prog_3_method_6_code 6 (some .int) : Cond) ∈ GW := List.mem_filter.mpr ⟨(List.mem_append_right _ (List.mem_append_right _ (List.mem_append_left _ (List.mem_of_getElem? (i := 194) rfl)))), rfl⟩
theorem hd_Block_sumOfMisses : y_Block_sumOfMisses.cls ≠ "java/lang/invoke/MethodHandle" ∧ y_Block_sumOfMisses.cls ≠ "java/lang/invoke/VarHandle" ∧ (parseMethodDescriptor y_Block_sumOfMisses.desc).map (fun d => d.parameters.length) = some 3 := by decide +kernel
theorem d_Block_sumOfMisses_0 : decode prog_3_method_6_code 0 = .ok (.iconst 0, 1) := by decide +kernel
theorem d_Block_sumOfMisses_1 : decode prog_3_method_6_code 1 = .ok (.istore 4, 2) := by decide +kernel
theorem d_Block_sumOfMisses_3 : decode prog_3_method_6_code 3 = .ok (.iconst 0, 1) := by decide +kernel
theorem d_Block_sumOfMisses_4 : decode prog_3_method_6_code 4 = .ok (.istore 5, 2) := by decide +kernel
theorem d_Block_sumOfMisses_6 : decode prog_3_method_6_code 6 = .ok (.iload 5, 2) := by decide +kernel
theorem d_Block_sumOfMisses_8 : decode prog_3_method_6_code 8 = .ok (.bipush 16, 2) := by decide +kernel
theorem d_Block_sumOfMisses_10 : decode prog_3_method_6_code 10 = .ok (.if_icmp .ge 41, 3) := by decide +kernel
theorem d_Block_sumOfMisses_13 : decode prog_3_method_6_code 13 = .ok (.iload 4, 2) := by decide +kernel
theorem d_Block_sumOfMisses_15 : decode prog_3_method_6_code 15 = .ok (.aload_n 1, 1) := by decide +kernel
theorem d_Block_sumOfMisses_16 : decode prog_3_method_6_code 16 = .ok (.iload_n 2, 1) := by decide +kernel
theorem d_Block_sumOfMisses_17 : decode prog_3_method_6_code 17 = .ok (.iload 5, 2) := by decide +kernel
theorem d_Block_sumOfMisses_19 : decode prog_3_method_6_code 19 = .ok (.iconst 4, 1) := by decide +kernel
theorem d_Block_sumOfMisses_20 : decode prog_3_method_6_code 20 = .ok (.irem, 1) := by decide +kernel
theorem d_Block_sumOfMisses_21 : decode prog_3_method_6_code 21 = .ok (.iadd, 1) := by decide +kernel
theorem d_Block_sumOfMisses_22 : decode prog_3_method_6_code 22 = .ok (.iload_n 3, 1) := by decide +kernel
theorem d_Block_sumOfMisses_23 : decode prog_3_method_6_code 23 = .ok (.iload 5, 2) := by decide +kernel
theorem d_Block_sumOfMisses_25 : decode prog_3_method_6_code 25 = .ok (.iconst 4, 1) := by decide +kernel
theorem d_Block_sumOfMisses_26 : decode prog_3_method_6_code 26 = .ok (.idiv, 1) := by decide +kernel
theorem d_Block_sumOfMisses_27 : decode prog_3_method_6_code 27 = .ok (.iadd, 1) := by decide +kernel
theorem d_Block_sumOfMisses_28 : decode prog_3_method_6_code 28 = .ok (.invokevirtual 34, 3) := by decide +kernel
theorem d_Block_sumOfMisses_31 : decode prog_3_method_6_code 31 = .ok (.aload_n 0, 1) := by decide +kernel
theorem d_Block_sumOfMisses_32 : decode prog_3_method_6_code 32 = .ok (.getfield 18, 3) := by decide +kernel
theorem d_Block_sumOfMisses_35 : decode prog_3_method_6_code 35 = .ok (.iload 5, 2) := by decide +kernel
theorem d_Block_sumOfMisses_37 : decode prog_3_method_6_code 37 = .ok (.iaload, 1) := by decide +kernel
theorem d_Block_sumOfMisses_38 : decode prog_3_method_6_code 38 = .ok (.isub, 1) := by decide +kernel
theorem d_Block_sumOfMisses_39 : decode prog_3_method_6_code 39 = .ok (.invokestatic 60, 3) := by decide +kernel
theorem d_Block_sumOfMisses_42 : decode prog_3_method_6_code 42 = .ok (.iadd, 1) := by decide +kernel
theorem d_Block_sumOfMisses_43 : decode prog_3_method_6_code 43 = .ok (.istore 4, 2) := by decide +kernel
theorem d_Block_sumOfMisses_45 : decode prog_3_method_6_code 45 = .ok (.iinc 5 1, 3) := by decide +kernel
theorem d_Block_sumOfMisses_48 : decode prog_3_method_6_code 48 = .ok (.goto (-42), 3) := by decide +kernel
theorem d_Block_sumOfMisses_51 : decode prog_3_method_6_code 51 = .ok (.iload 4, 2) := by decide +kernel
theorem d_Block_sumOfMisses_53 : decode prog_3_method_6_code 53 = .ok (.ireturn, 1) := by decide +kernel
theorem mw_205 : (.methodLink "TileForge$Block" 60 Lib.Math.abs.name : Cond) ∈ GW := List.mem_filter.mpr ⟨(List.mem_append_right _ (List.mem_append_right _ (List.mem_append_left _ (List.mem_of_getElem? (i := 195) rfl)))), rfl⟩
theorem mw_206 : (.static Lib.Math.abs.name : Cond) ∈ GW := List.mem_filter.mpr ⟨(List.mem_append_right _ (List.mem_append_right _ (List.mem_append_left _ (List.mem_of_getElem? (i := 196) rfl)))), rfl⟩
theorem mw_207 : (.code Lib.Math.abs.name Lib.Math.abs.code 1 (some .int) : Cond) ∈ GW := List.mem_filter.mpr ⟨(List.mem_append_right _ (List.mem_append_right _ (List.mem_append_left _ (List.mem_of_getElem? (i := 197) rfl)))), rfl⟩
def q_bl_miss (cI : ClassId) (b1 : Nat) (b2 : Nat) (b3 : Nat) (b4 : Nat) (b5 : Nat) (b6 : Nat) (ab : Nat → Int32) (lf : Nat → Int32) (fo : Nat → Int32) (lv : Nat → Int32) (wk : Nat → Int32) (vr : Int32) (vc : Int32) (vcr : Int32) (a1 : Nat) (a2 : Nat) (a3 : Nat) (px : Nat → Int32) (md : Nat → Int32) (vz : Int32) (vk : Int32) (wn : Nat) (hn : Nat) (x : Nat) (y : Nat) : Int32 → va_W → Prop := fun rr ww => rr = (missF px x y fo 16) ∧ ww = [(b1, .inr (1, [.ref b2, .ref b3, .ref b4, .ref b5, .ref b6, .int vr, .int vc, .int vcr])), (b2, .inl (cI, 4, .inl ab)), (b3, .inl (cI, 4, .inl lf)), (b4, .inl (cI, 16, .inl fo)), (b5, .inl (cI, 16, .inl lv)), (b6, .inl (cI, 16, .inl wk)), (a1, .inr (5, [.ref a2, .ref a3, .int vz, .int (nI wn), .int (nI hn), .int vk])), (a2, .inl (cI, 144, .inl px)), (a3, .inl (cI, 9, .inl md))]
set_option maxHeartbeats 4000000 in
set_option maxRecDepth 100000 in
theorem c_bl_miss (l : Launch) {D : va_G} {tys : List (ClassId × FieldType)} {cI : ClassId} (hcI : tys[0]? = some (cI, .int)) (b1 : Nat) (b2 : Nat) (b3 : Nat) (b4 : Nat) (b5 : Nat) (b6 : Nat) (ab : Nat → Int32) (lf : Nat → Int32) (fo : Nat → Int32) (lv : Nat → Int32) (wk : Nat → Int32) (vr : Int32) (vc : Int32) (vcr : Int32) (a1 : Nat) (a2 : Nat) (a3 : Nat) (px : Nat → Int32) (md : Nat → Int32) (vz : Int32) (vk : Int32) (wn : Nat) (hn : Nat) (x : Nat) (y : Nat) (hx4 : x + 4 ≤ wn) (hwn : wn ≤ 12) (hy4 : y + 4 ≤ hn) (hhn : hn ≤ 12) : CsI l D vwCl tys y_Block_sumOfMisses ws_Block_sumOfMisses ({ frames := 2, cells := 0, slots := 0, locals := 44 } : Room) [.ref b1, .ref a1, .int (nI x), .int (nI y)] [(b1, .inr (1, [.ref b2, .ref b3, .ref b4, .ref b5, .ref b6, .int vr, .int vc, .int vcr])), (b2, .inl (cI, 4, .inl ab)), (b3, .inl (cI, 4, .inl lf)), (b4, .inl (cI, 16, .inl fo)), (b5, .inl (cI, 16, .inl lv)), (b6, .inl (cI, 16, .inl wk)), (a1, .inr (5, [.ref a2, .ref a3, .int vz, .int (nI wn), .int (nI hn), .int vk])), (a2, .inl (cI, 144, .inl px)), (a3, .inl (cI, 9, .inl md))] (q_bl_miss cI b1 b2 b3 b4 b5 b6 ab lf fo lv wk vr vc vcr a1 a2 a3 px md vz vk wn hn x y) 0 0 := by
  intro sz
  refine Met.ofW (cc := prog_3_method_6_code) (maxL := 6) (ret := (some .int)) (by decide) rfl ?_
  intro p e s m args below meth c s₁ B hml hv
  obtain ⟨rfl, hsz, hP, hK, hD0, hN⟩ := hv
  have hx := B.exec
  have hb := B.bytes
  have hr := B.returns
  have hts := atoms_spec (ws := ws_Block_sumOfMisses) B.pre
  have hown : s.vm.findClass "TileForge$Block" = some m.cls := findClass_of_methodNamed B.named
  have hlocks := B.notSynchronized
  subst hsz
  have hD := hD0.self (sz := s.heap.size)
  generalize hAe : va_A [(b1, .inr (1, [.ref b2, .ref b3, .ref b4, .ref b5, .ref b6, .int vr, .int vc, .int vcr])), (b2, .inl (cI, 4, .inl ab)), (b3, .inl (cI, 4, .inl lf)), (b4, .inl (cI, 16, .inl fo)), (b5, .inl (cI, 16, .inl lv)), (b6, .inl (cI, 16, .inl wk)), (a1, .inr (5, [.ref a2, .ref a3, .int vz, .int (nI wn), .int (nI hn), .int vk])), (a2, .inl (cI, 144, .inl px)), (a3, .inl (cI, 9, .inl md))] s.heap.size = A at hD ⊢
  have hA : ∀ q : Nat, s.heap.size ≤ q → A q := fun q h => by rw [← hAe]; exact Or.inr h
  have hS : va_S A s.heap s.heap [] := va_S.rf
  have hP : va_P D vwCl [(b1, .inr (1, [.ref b2, .ref b3, .ref b4, .ref b5, .ref b6, .int vr, .int vc, .int vcr])), (b2, .inl (cI, 4, .inl ab)), (b3, .inl (cI, 4, .inl lf)), (b4, .inl (cI, 16, .inl fo)), (b5, .inl (cI, 16, .inl lv)), (b6, .inl (cI, 16, .inl wk)), (a1, .inr (5, [.ref a2, .ref a3, .int vz, .int (nI wn), .int (nI hn), .int vk])), (a2, .inl (cI, 144, .inl px)), (a3, .inl (cI, 9, .inl md))] s.heap := hP
  have hl := lv_entry ([.ref b1, .ref a1, .int (nI x), .int (nI y)]) (n := 6) (Nat.le_of_ble_eq_true rfl)
  rw [lg_entry_eq]
  generalize (lg_sl ([.ref b1, .ref a1, .int (nI x), .int (nI y)]) ++ List.replicate (6 - (lg_sl ([.ref b1, .ref a1, .int (nI x), .int (nI y)])).length) Slot.unset).toArray = ls at hl ⊢
  have hl : lv_has ls 6 [(0, .ref b1), (1, .ref a1), (2, .int (nI x)), (3, .int (nI y))] := hl
  refine lv_iconst (v := 0) hx hb d_Block_sumOfMisses_0 (by decide) ?_
  refine lv_istore (lv' := [(4, .int 0), (0, .ref b1), (1, .ref a1), (2, .int (nI x)), (3, .int (nI y))]) hx hb d_Block_sumOfMisses_1 hl (by decide) rfl (fun ls hl => ?_)
  refine lv_iconst (v := 0) hx hb d_Block_sumOfMisses_3 (by decide) ?_
  refine lv_istore (lv' := [(5, .int 0), (4, .int 0), (0, .ref b1), (1, .ref a1), (2, .int (nI x)), (3, .int (nI y))]) hx hb d_Block_sumOfMisses_4 hl (by decide) rfl (fun ls hl => ?_)
  have lp6 : ∀ (n : Nat) (k : Nat), (17 ≤ k + n) → (k ≤ 16) → ∀ (H : Heap) (locs : List Loc) (ls : Array Slot), va_P D vwCl [(b1, .inr (1, [.ref b2, .ref b3, .ref b4, .ref b5, .ref b6, .int vr, .int vc, .int vcr])), (b2, .inl (cI, 4, .inl ab)), (b3, .inl (cI, 4, .inl lf)), (b4, .inl (cI, 16, .inl fo)), (b5, .inl (cI, 16, .inl lv)), (b6, .inl (cI, 16, .inl wk)), (a1, .inr (5, [.ref a2, .ref a3, .int vz, .int (nI wn), .int (nI hn), .int vk])), (a2, .inl (cI, 144, .inl px)), (a3, .inl (cI, 9, .inl md))] H → va_D A [(b1, .inr (1, [.ref b2, .ref b3, .ref b4, .ref b5, .ref b6, .int vr, .int vc, .int vcr])), (b2, .inl (cI, 4, .inl ab)), (b3, .inl (cI, 4, .inl lf)), (b4, .inl (cI, 16, .inl fo)), (b5, .inl (cI, 16, .inl lv)), (b6, .inl (cI, 16, .inl wk)), (a1, .inr (5, [.ref a2, .ref a3, .int vz, .int (nI wn), .int (nI hn), .int vk])), (a2, .inl (cI, 144, .inl px)), (a3, .inl (cI, 9, .inl md))] → va_S A s.heap H locs → lv_has ls 6 [(0, .ref b1), (1, .ref a1), (2, .int (nI x)), (3, .int (nI y)), (4, .int (missF px x y fo k)), (5, .int (nI k))] → W p l e ({ frames := 2, cells := 0, slots := 0, locals := 44 } : Room) s m ([.ref b1, .ref a1, .int (nI x), .int (nI y)] : List Value).toArray below meth c H locs 0 0 (MQ below (va_Qi (q_bl_miss cI b1 b2 b3 b4 b5 b6 ab lf fo lv wk vr vc vcr a1 a2 a3 px md vz vk wn hn x y) (cs_B D vwCl tys A) A) ([.ref b1, .ref a1, .int (nI x), .int (nI y)] : List Value).toArray s 0 0 A) (F0 m 6 ls []) := by
    intro n
    induction n with
    | zero =>
      intro k hf hk
      exact absurd hf (by omega)
    | succ n ih6 =>
      intro k hf hk H locs ls hP hD hS hl
      refine lv_iload hx hb d_Block_sumOfMisses_6 (lv_at hl 5 rfl) ?_
      refine lv_bipush (v := 16) hx hb d_Block_sumOfMisses_8 (by decide) ?_
      refine lv_icmp_ge (tgt := 51) hx hb d_Block_sumOfMisses_10 (by decide) (fun c_10 => ?_) (fun c_10 => ?_)
      · have hk2 := (nI_leI (a := 16) (b := k) (by decide) (by omega)).mp c_10
        have hk3 : k = 16 := by omega
        subst hk3
        refine lv_iload hx hb d_Block_sumOfMisses_51 (lv_at hl 4 rfl) ?_
        exact W.iret (v := (missF px x y fo 16)) hx hb hr (fun t ht hW => ⟨⟨(missF px x y fo 16), [(b1, .inr (1, [.ref b2, .ref b3, .ref b4, .ref b5, .ref b6, .int vr, .int vc, .int vcr])), (b2, .inl (cI, 4, .inl ab)), (b3, .inl (cI, 4, .inl lf)), (b4, .inl (cI, 16, .inl fo)), (b5, .inl (cI, 16, .inl lv)), (b6, .inl (cI, 16, .inl wk)), (a1, .inr (5, [.ref a2, .ref a3, .int vz, .int (nI wn), .int (nI hn), .int vk])), (a2, .inl (cI, 144, .inl px)), (a3, .inl (cI, 9, .inl md))], rfl, ⟨(rfl), (rfl)⟩, by rw [ht]; exact hP, va_K.moved hW.alike hK, hD⟩, hS.F ht⟩) hS.2.2 d_Block_sumOfMisses_53
      · have hk2 : k < 16 := Nat.not_le.mp (fun h => c_10 ((nI_leI (a := 16) (b := k) (by decide) (by omega)).mpr h))
        refine lv_iload hx hb d_Block_sumOfMisses_13 (lv_at hl 4 rfl) ?_
        refine lv_aload_n hx hb d_Block_sumOfMisses_15 rfl (lv_at hl 1 rfl) ?_
        refine lv_iload_n hx hb d_Block_sumOfMisses_16 rfl (lv_at hl 2 rfl) ?_
        refine lv_iload hx hb d_Block_sumOfMisses_17 (lv_at hl 5 rfl) ?_
        refine lv_iconst (v := 4) hx hb d_Block_sumOfMisses_19 (by decide) ?_
        refine lv_irem hx hb d_Block_sumOfMisses_20 (by decide) ?_
        refine lv_iadd hx hb d_Block_sumOfMisses_21 ?_
        refine cs_top (y := nI (x + k % 4)) (cs_addr x k (by omega)) ?_
        refine lv_iload_n hx hb d_Block_sumOfMisses_22 rfl (lv_at hl 3 rfl) ?_
        refine lv_iload hx hb d_Block_sumOfMisses_23 (lv_at hl 5 rfl) ?_
        refine lv_iconst (v := 4) hx hb d_Block_sumOfMisses_25 (by decide) ?_
        refine lv_idiv hx hb d_Block_sumOfMisses_26 (by decide) ?_
        refine lv_iadd hx hb d_Block_sumOfMisses_27 ?_
        refine cs_top (y := nI (y + k / 4)) (cs_addq y k (by omega)) ?_
        refine cs_Vi (As := [.int (nI (x + k % 4)), .int (nI (y + k / 4))]) (rest := [.int (missF px x y fo k)]) (wr := [(b1, .inr (1, [.ref b2, .ref b3, .ref b4, .ref b5, .ref b6, .int vr, .int vc, .int vcr])), (b2, .inl (cI, 4, .inl ab)), (b3, .inl (cI, 4, .inl lf)), (b4, .inl (cI, 16, .inl fo)), (b5, .inl (cI, 16, .inl lv)), (b6, .inl (cI, 16, .inl wk))]) ⟨hx, hb, hml, hown, hts⟩ (c_pic_look l hcI a1 a2 a3 px md vz (nI wn) (nI hn) vk (x + k % 4) (y + k / 4) (by omega) (by omega) (nI_lt (by omega) (by omega)) (nI_lt (by omega) (by omega))) (cwV 2 hts (cs_gV mw_194 mw_195 mw_196 mw_93 mw_92) rfl rfl rfl ⟨rfl, hd_Picture_look⟩ ⟨Nat.le_of_ble_eq_true rfl, Nat.le_of_ble_eq_true rfl⟩) hN hK hP hD hS hA [6, 7, 8] [0, 1, 2, 3, 4, 5] rfl rfl rfl rfl (by decide) (ci := 5) rfl rfl rfl rfl rfl hl.1 (Nat.le_of_ble_eq_true rfl) d_Block_sumOfMisses_28 ⟨Nat.le_of_ble_eq_true rfl, Nat.le_of_ble_eq_true rfl⟩ (fun r1 w1 H locs hw hP hD hS => ?_)
        obtain ⟨rfl, rfl⟩ := hw
        have hP : va_P D vwCl [(b1, .inr (1, [.ref b2, .ref b3, .ref b4, .ref b5, .ref b6, .int vr, .int vc, .int vcr])), (b2, .inl (cI, 4, .inl ab)), (b3, .inl (cI, 4, .inl lf)), (b4, .inl (cI, 16, .inl fo)), (b5, .inl (cI, 16, .inl lv)), (b6, .inl (cI, 16, .inl wk)), (a1, .inr (5, [.ref a2, .ref a3, .int vz, .int (nI wn), .int (nI hn), .int vk])), (a2, .inl (cI, 144, .inl px)), (a3, .inl (cI, 9, .inl md))] H := hP
        have hD : va_D A [(b1, .inr (1, [.ref b2, .ref b3, .ref b4, .ref b5, .ref b6, .int vr, .int vc, .int vcr])), (b2, .inl (cI, 4, .inl ab)), (b3, .inl (cI, 4, .inl lf)), (b4, .inl (cI, 16, .inl fo)), (b5, .inl (cI, 16, .inl lv)), (b6, .inl (cI, 16, .inl wk)), (a1, .inr (5, [.ref a2, .ref a3, .int vz, .int (nI wn), .int (nI hn), .int vk])), (a2, .inl (cI, 144, .inl px)), (a3, .inl (cI, 9, .inl md))] := hD
        refine lv_aload_n hx hb d_Block_sumOfMisses_31 rfl (lv_at hl 0 rfl) ?_
        refine va_get (D := D) (ci := 1) (v := .ref b4) (C := "TileForge$Block") (T := T_Block) (N := 8) hx hb hts (cs_in in_Block) hown hK hP 0 rfl rfl 2 (by decide) (hts _ (cs_m mw_187)) (fun _ h9 => h9) rfl d_Block_sumOfMisses_32 ?_
        refine lv_iload hx hb d_Block_sumOfMisses_35 (lv_at hl 5 rfl) ?_
        refine cs_iald (j := k) hx hb hK hcI hP 3 rfl (rfl) (hk2) (by decide) d_Block_sumOfMisses_37 ?_
        refine lv_isub hx hb d_Block_sumOfMisses_38 ?_
        refine va_mabs hx hb (hml.trans hl.1.symm) hown (hts _ (cs_m mw_205)) (hts _ (cs_m mw_206)) (hts _ (cs_m mw_150)) (hts _ (cs_m mw_207)) (Nat.le_of_ble_eq_true rfl) (Nat.le_of_ble_eq_true rfl) (Nat.le_of_ble_eq_true rfl) (Nat.le_of_ble_eq_true rfl) d_Block_sumOfMisses_39 ?_
        refine lv_iadd hx hb d_Block_sumOfMisses_42 ?_
        refine lv_istore (lv' := [(4, .int ((missF px x y fo k) + (if 0 ≤ ((px ((y + k / 4) * 12 + (x + k % 4))) - (fo k)) then ((px ((y + k / 4) * 12 + (x + k % 4))) - (fo k)) else 0 - ((px ((y + k / 4) * 12 + (x + k % 4))) - (fo k))))), (0, .ref b1), (1, .ref a1), (2, .int (nI x)), (3, .int (nI y)), (5, .int (nI k))]) hx hb d_Block_sumOfMisses_43 hl (by decide) rfl (fun ls hl => ?_)
        refine lv_iinc (v := nI (k + 1)) (lv' := [(5, .int (nI (k + 1))), (4, .int ((missF px x y fo k) + (if 0 ≤ ((px ((y + k / 4) * 12 + (x + k % 4))) - (fo k)) then ((px ((y + k / 4) * 12 + (x + k % 4))) - (fo k)) else 0 - ((px ((y + k / 4) * 12 + (x + k % 4))) - (fo k))))), (0, .ref b1), (1, .ref a1), (2, .int (nI x)), (3, .int (nI y))]) hx hb d_Block_sumOfMisses_45 hl (k := 5) rfl (nI_1 _) (by decide) rfl (fun ls hl => ?_)
        refine lv_goto (tgt := 6) hx hb d_Block_sumOfMisses_48 (by decide) ?_
        exact ih6 (k + 1) (by omega) (by omega) _ _ _ (hP.sub (ws' := [(b1, .inr (1, [.ref b2, .ref b3, .ref b4, .ref b5, .ref b6, .int vr, .int vc, .int vcr])), (b2, .inl (cI, 4, .inl ab)), (b3, .inl (cI, 4, .inl lf)), (b4, .inl (cI, 16, .inl fo)), (b5, .inl (cI, 16, .inl lv)), (b6, .inl (cI, 16, .inl wk)), (a1, .inr (5, [.ref a2, .ref a3, .int vz, .int (nI wn), .int (nI hn), .int vk])), (a2, .inl (cI, 144, .inl px)), (a3, .inl (cI, 9, .inl md))]) [0, 1, 2, 3, 4, 5, 6, 7, 8] rfl) (hD.sub (ws' := [(b1, .inr (1, [.ref b2, .ref b3, .ref b4, .ref b5, .ref b6, .int vr, .int vc, .int vcr])), (b2, .inl (cI, 4, .inl ab)), (b3, .inl (cI, 4, .inl lf)), (b4, .inl (cI, 16, .inl fo)), (b5, .inl (cI, 16, .inl lv)), (b6, .inl (cI, 16, .inl wk)), (a1, .inr (5, [.ref a2, .ref a3, .int vz, .int (nI wn), .int (nI hn), .int vk])), (a2, .inl (cI, 144, .inl px)), (a3, .inl (cI, 9, .inl md))]) [0, 1, 2, 3, 4, 5, 6, 7, 8] (by decide) rfl) hS (lv_sub hl [2, 3, 4, 5, 1, 0] rfl)
  exact lp6 (17) 0 (by omega) (by omega) _ _ _ (hP.sub (ws' := [(b1, .inr (1, [.ref b2, .ref b3, .ref b4, .ref b5, .ref b6, .int vr, .int vc, .int vcr])), (b2, .inl (cI, 4, .inl ab)), (b3, .inl (cI, 4, .inl lf)), (b4, .inl (cI, 16, .inl fo)), (b5, .inl (cI, 16, .inl lv)), (b6, .inl (cI, 16, .inl wk)), (a1, .inr (5, [.ref a2, .ref a3, .int vz, .int (nI wn), .int (nI hn), .int vk])), (a2, .inl (cI, 144, .inl px)), (a3, .inl (cI, 9, .inl md))]) [0, 1, 2, 3, 4, 5, 6, 7, 8] rfl) (hD.sub (ws' := [(b1, .inr (1, [.ref b2, .ref b3, .ref b4, .ref b5, .ref b6, .int vr, .int vc, .int vcr])), (b2, .inl (cI, 4, .inl ab)), (b3, .inl (cI, 4, .inl lf)), (b4, .inl (cI, 16, .inl fo)), (b5, .inl (cI, 16, .inl lv)), (b6, .inl (cI, 16, .inl wk)), (a1, .inr (5, [.ref a2, .ref a3, .int vz, .int (nI wn), .int (nI hn), .int vk])), (a2, .inl (cI, 144, .inl px)), (a3, .inl (cI, 9, .inl md))]) [0, 1, 2, 3, 4, 5, 6, 7, 8] (by decide) rfl) hS (lv_sub hl [2, 3, 4, 5, 1, 0] rfl)
def y_Block_bestMode : MethodName := ⟨"TileForge$Block", "bestMode", "(LTileForge$Picture;II)I"⟩
def ws_Block_bestMode : List Cond := .code y_Block_bestMode prog_3_method_5_code 8 (some .int) :: GW
theorem mw_208 : (.code ⟨"TileForge$Block", "bestMode", "(LTileForge$Picture;II)I"⟩ prog_3_method_5_code 8 (some .int) : Cond) ∈ GW := List.mem_filter.mpr ⟨(List.mem_append_right _ (List.mem_append_right _ (List.mem_append_left _ (List.mem_of_getElem? (i := 181) rfl)))), rfl⟩
theorem hd_Block_bestMode : y_Block_bestMode.cls ≠ "java/lang/invoke/MethodHandle" ∧ y_Block_bestMode.cls ≠ "java/lang/invoke/VarHandle" ∧ (parseMethodDescriptor y_Block_bestMode.desc).map (fun d => d.parameters.length) = some 3 := by decide +kernel
theorem d_Block_bestMode_0 : decode prog_3_method_5_code 0 = .ok (.iconst 0, 1) := by decide +kernel
theorem d_Block_bestMode_1 : decode prog_3_method_5_code 1 = .ok (.istore 4, 2) := by decide +kernel
theorem d_Block_bestMode_3 : decode prog_3_method_5_code 3 = .ok (.sipush 4081, 3) := by decide +kernel
theorem d_Block_bestMode_6 : decode prog_3_method_5_code 6 = .ok (.istore 5, 2) := by decide +kernel
theorem d_Block_bestMode_8 : decode prog_3_method_5_code 8 = .ok (.iconst 0, 1) := by decide +kernel
theorem d_Block_bestMode_9 : decode prog_3_method_5_code 9 = .ok (.istore 6, 2) := by decide +kernel
theorem d_Block_bestMode_11 : decode prog_3_method_5_code 11 = .ok (.iload 6, 2) := by decide +kernel
theorem d_Block_bestMode_13 : decode prog_3_method_5_code 13 = .ok (.iconst 4, 1) := by decide +kernel
theorem d_Block_bestMode_14 : decode prog_3_method_5_code 14 = .ok (.if_icmp .ge 39, 3) := by decide +kernel
theorem d_Block_bestMode_17 : decode prog_3_method_5_code 17 = .ok (.aload_n 0, 1) := by decide +kernel
theorem d_Block_bestMode_18 : decode prog_3_method_5_code 18 = .ok (.iload 6, 2) := by decide +kernel
theorem d_Block_bestMode_20 : decode prog_3_method_5_code 20 = .ok (.invokevirtual 52, 3) := by decide +kernel
theorem d_Block_bestMode_23 : decode prog_3_method_5_code 23 = .ok (.aload_n 0, 1) := by decide +kernel
theorem d_Block_bestMode_24 : decode prog_3_method_5_code 24 = .ok (.aload_n 1, 1) := by decide +kernel
theorem d_Block_bestMode_25 : decode prog_3_method_5_code 25 = .ok (.iload_n 2, 1) := by decide +kernel
theorem d_Block_bestMode_26 : decode prog_3_method_5_code 26 = .ok (.iload_n 3, 1) := by decide +kernel
theorem d_Block_bestMode_27 : decode prog_3_method_5_code 27 = .ok (.invokevirtual 56, 3) := by decide +kernel
theorem d_Block_bestMode_30 : decode prog_3_method_5_code 30 = .ok (.istore 7, 2) := by decide +kernel
theorem d_Block_bestMode_32 : decode prog_3_method_5_code 32 = .ok (.iload 7, 2) := by decide +kernel
theorem d_Block_bestMode_34 : decode prog_3_method_5_code 34 = .ok (.iload 5, 2) := by decide +kernel
theorem d_Block_bestMode_36 : decode prog_3_method_5_code 36 = .ok (.if_icmp .ge 11, 3) := by decide +kernel
theorem d_Block_bestMode_39 : decode prog_3_method_5_code 39 = .ok (.iload 7, 2) := by decide +kernel
theorem d_Block_bestMode_41 : decode prog_3_method_5_code 41 = .ok (.istore 5, 2) := by decide +kernel
theorem d_Block_bestMode_43 : decode prog_3_method_5_code 43 = .ok (.iload 6, 2) := by decide +kernel
theorem d_Block_bestMode_45 : decode prog_3_method_5_code 45 = .ok (.istore 4, 2) := by decide +kernel
theorem d_Block_bestMode_47 : decode prog_3_method_5_code 47 = .ok (.iinc 6 1, 3) := by decide +kernel
theorem d_Block_bestMode_50 : decode prog_3_method_5_code 50 = .ok (.goto (-39), 3) := by decide +kernel
theorem d_Block_bestMode_53 : decode prog_3_method_5_code 53 = .ok (.iload 4, 2) := by decide +kernel
theorem d_Block_bestMode_55 : decode prog_3_method_5_code 55 = .ok (.ireturn, 1) := by decide +kernel
theorem mw_209 : (.methodLink "TileForge$Block" 52 ⟨"TileForge$Block", "foretell", "(I)V"⟩ : Cond) ∈ GW := List.mem_filter.mpr ⟨(List.mem_append_right _ (List.mem_append_right _ (List.mem_append_left _ (List.mem_of_getElem? (i := 182) rfl)))), rfl⟩
theorem mw_210 : (.instanceMethod ⟨"TileForge$Block", "foretell", "(I)V"⟩ : Cond) ∈ GW := List.mem_filter.mpr ⟨(List.mem_append_right _ (List.mem_append_right _ (List.mem_append_left _ (List.mem_of_getElem? (i := 183) rfl)))), rfl⟩
theorem mw_211 : (.selects "TileForge$Block" ⟨"TileForge$Block", "foretell", "(I)V"⟩ ⟨"TileForge$Block", "foretell", "(I)V"⟩ : Cond) ∈ GW := List.mem_filter.mpr ⟨(List.mem_append_right _ (List.mem_append_right _ (List.mem_append_left _ (List.mem_of_getElem? (i := 184) rfl)))), rfl⟩
theorem mw_212 : (.methodLink "TileForge$Block" 56 ⟨"TileForge$Block", "sumOfMisses", "(LTileForge$Picture;II)I"⟩ : Cond) ∈ GW := List.mem_filter.mpr ⟨(List.mem_append_right _ (List.mem_append_right _ (List.mem_append_left _ (List.mem_of_getElem? (i := 191) rfl)))), rfl⟩
theorem mw_213 : (.instanceMethod ⟨"TileForge$Block", "sumOfMisses", "(LTileForge$Picture;II)I"⟩ : Cond) ∈ GW := List.mem_filter.mpr ⟨(List.mem_append_right _ (List.mem_append_right _ (List.mem_append_left _ (List.mem_of_getElem? (i := 192) rfl)))), rfl⟩
theorem mw_214 : (.selects "TileForge$Block" ⟨"TileForge$Block", "sumOfMisses", "(LTileForge$Picture;II)I"⟩ ⟨"TileForge$Block", "sumOfMisses", "(LTileForge$Picture;II)I"⟩ : Cond) ∈ GW := List.mem_filter.mpr ⟨(List.mem_append_right _ (List.mem_append_right _ (List.mem_append_left _ (List.mem_of_getElem? (i := 193) rfl)))), rfl⟩
def q_bl_best (cI : ClassId) (b1 : Nat) (b2 : Nat) (b3 : Nat) (b4 : Nat) (b5 : Nat) (b6 : Nat) (ab : Nat → Int32) (lf : Nat → Int32) (fo : Nat → Int32) (lv : Nat → Int32) (wk : Nat → Int32) (vr : Int32) (vc : Int32) (vcr : Int32) (a1 : Nat) (a2 : Nat) (a3 : Nat) (px : Nat → Int32) (md : Nat → Int32) (vz : Int32) (vk : Int32) (wn : Nat) (hn : Nat) (x : Nat) (y : Nat) : Int32 → va_W → Prop := fun rr ww => ∃ (fo' : Nat → Int32), rr = (nI (bestF px x y vr vc ab lf vcr 4).1) ∧ ww = [(b1, .inr (1, [.ref b2, .ref b3, .ref b4, .ref b5, .ref b6, .int vr, .int vc, .int vcr])), (b2, .inl (cI, 4, .inl ab)), (b3, .inl (cI, 4, .inl lf)), (b4, .inl (cI, 16, .inl fo')), (b5, .inl (cI, 16, .inl lv)), (b6, .inl (cI, 16, .inl wk)), (a1, .inr (5, [.ref a2, .ref a3, .int vz, .int (nI wn), .int (nI hn), .int vk])), (a2, .inl (cI, 144, .inl px)), (a3, .inl (cI, 9, .inl md))]
set_option maxHeartbeats 4000000 in
set_option maxRecDepth 100000 in
theorem c_bl_best (l : Launch) {D : va_G} {tys : List (ClassId × FieldType)} {cI : ClassId} (hcI : tys[0]? = some (cI, .int)) (b1 : Nat) (b2 : Nat) (b3 : Nat) (b4 : Nat) (b5 : Nat) (b6 : Nat) (ab : Nat → Int32) (lf : Nat → Int32) (fo : Nat → Int32) (lv : Nat → Int32) (wk : Nat → Int32) (vr : Int32) (vc : Int32) (vcr : Int32) (a1 : Nat) (a2 : Nat) (a3 : Nat) (px : Nat → Int32) (md : Nat → Int32) (vz : Int32) (vk : Int32) (wn : Nat) (hn : Nat) (x : Nat) (y : Nat) (hx4 : x + 4 ≤ wn) (hwn : wn ≤ 12) (hy4 : y + 4 ≤ hn) (hhn : hn ≤ 12) : CsI l D vwCl tys y_Block_bestMode ws_Block_bestMode ({ frames := 3, cells := 0, slots := 0, locals := 69 } : Room) [.ref b1, .ref a1, .int (nI x), .int (nI y)] [(b1, .inr (1, [.ref b2, .ref b3, .ref b4, .ref b5, .ref b6, .int vr, .int vc, .int vcr])), (b2, .inl (cI, 4, .inl ab)), (b3, .inl (cI, 4, .inl lf)), (b4, .inl (cI, 16, .inl fo)), (b5, .inl (cI, 16, .inl lv)), (b6, .inl (cI, 16, .inl wk)), (a1, .inr (5, [.ref a2, .ref a3, .int vz, .int (nI wn), .int (nI hn), .int vk])), (a2, .inl (cI, 144, .inl px)), (a3, .inl (cI, 9, .inl md))] (q_bl_best cI b1 b2 b3 b4 b5 b6 ab lf fo lv wk vr vc vcr a1 a2 a3 px md vz vk wn hn x y) 0 0 := by
  intro sz
  refine Met.ofW (cc := prog_3_method_5_code) (maxL := 8) (ret := (some .int)) (by decide) rfl ?_
  intro p e s m args below meth c s₁ B hml hv
  obtain ⟨rfl, hsz, hP, hK, hD0, hN⟩ := hv
  have hx := B.exec
  have hb := B.bytes
  have hr := B.returns
  have hts := atoms_spec (ws := ws_Block_bestMode) B.pre
  have hown : s.vm.findClass "TileForge$Block" = some m.cls := findClass_of_methodNamed B.named
  have hlocks := B.notSynchronized
  subst hsz
  have hD := hD0.self (sz := s.heap.size)
  generalize hAe : va_A [(b1, .inr (1, [.ref b2, .ref b3, .ref b4, .ref b5, .ref b6, .int vr, .int vc, .int vcr])), (b2, .inl (cI, 4, .inl ab)), (b3, .inl (cI, 4, .inl lf)), (b4, .inl (cI, 16, .inl fo)), (b5, .inl (cI, 16, .inl lv)), (b6, .inl (cI, 16, .inl wk)), (a1, .inr (5, [.ref a2, .ref a3, .int vz, .int (nI wn), .int (nI hn), .int vk])), (a2, .inl (cI, 144, .inl px)), (a3, .inl (cI, 9, .inl md))] s.heap.size = A at hD ⊢
  have hA : ∀ q : Nat, s.heap.size ≤ q → A q := fun q h => by rw [← hAe]; exact Or.inr h
  have hS : va_S A s.heap s.heap [] := va_S.rf
  have hP : va_P D vwCl [(b1, .inr (1, [.ref b2, .ref b3, .ref b4, .ref b5, .ref b6, .int vr, .int vc, .int vcr])), (b2, .inl (cI, 4, .inl ab)), (b3, .inl (cI, 4, .inl lf)), (b4, .inl (cI, 16, .inl fo)), (b5, .inl (cI, 16, .inl lv)), (b6, .inl (cI, 16, .inl wk)), (a1, .inr (5, [.ref a2, .ref a3, .int vz, .int (nI wn), .int (nI hn), .int vk])), (a2, .inl (cI, 144, .inl px)), (a3, .inl (cI, 9, .inl md))] s.heap := hP
  have hl := lv_entry ([.ref b1, .ref a1, .int (nI x), .int (nI y)]) (n := 8) (Nat.le_of_ble_eq_true rfl)
  rw [lg_entry_eq]
  generalize (lg_sl ([.ref b1, .ref a1, .int (nI x), .int (nI y)]) ++ List.replicate (8 - (lg_sl ([.ref b1, .ref a1, .int (nI x), .int (nI y)])).length) Slot.unset).toArray = ls at hl ⊢
  have hl : lv_has ls 8 [(0, .ref b1), (1, .ref a1), (2, .int (nI x)), (3, .int (nI y))] := hl
  refine lv_iconst (v := 0) hx hb d_Block_bestMode_0 (by decide) ?_
  refine lv_istore (lv' := [(4, .int 0), (0, .ref b1), (1, .ref a1), (2, .int (nI x)), (3, .int (nI y))]) hx hb d_Block_bestMode_1 hl (by decide) rfl (fun ls hl => ?_)
  refine lv_sipush (v := 4081) hx hb d_Block_bestMode_3 (by decide) ?_
  refine lv_istore (lv' := [(5, .int 4081), (4, .int 0), (0, .ref b1), (1, .ref a1), (2, .int (nI x)), (3, .int (nI y))]) hx hb d_Block_bestMode_6 hl (by decide) rfl (fun ls hl => ?_)
  refine lv_iconst (v := 0) hx hb d_Block_bestMode_8 (by decide) ?_
  refine lv_istore (lv' := [(6, .int 0), (5, .int 4081), (4, .int 0), (0, .ref b1), (1, .ref a1), (2, .int (nI x)), (3, .int (nI y))]) hx hb d_Block_bestMode_9 hl (by decide) rfl (fun ls hl => ?_)
  have lp11 : ∀ (n : Nat) (k : Nat) (f : Nat → Int32) (bx : Nat) (lx : Int32), (5 ≤ k + n) → (k ≤ 4) → (bestF px x y vr vc ab lf vcr k = (bx, lx)) → ∀ (H : Heap) (locs : List Loc) (ls : Array Slot), va_P D vwCl [(b1, .inr (1, [.ref b2, .ref b3, .ref b4, .ref b5, .ref b6, .int vr, .int vc, .int vcr])), (b2, .inl (cI, 4, .inl ab)), (b3, .inl (cI, 4, .inl lf)), (b4, .inl (cI, 16, .inl f)), (b5, .inl (cI, 16, .inl lv)), (b6, .inl (cI, 16, .inl wk)), (a1, .inr (5, [.ref a2, .ref a3, .int vz, .int (nI wn), .int (nI hn), .int vk])), (a2, .inl (cI, 144, .inl px)), (a3, .inl (cI, 9, .inl md))] H → va_D A [(b1, .inr (1, [.ref b2, .ref b3, .ref b4, .ref b5, .ref b6, .int vr, .int vc, .int vcr])), (b2, .inl (cI, 4, .inl ab)), (b3, .inl (cI, 4, .inl lf)), (b4, .inl (cI, 16, .inl f)), (b5, .inl (cI, 16, .inl lv)), (b6, .inl (cI, 16, .inl wk)), (a1, .inr (5, [.ref a2, .ref a3, .int vz, .int (nI wn), .int (nI hn), .int vk])), (a2, .inl (cI, 144, .inl px)), (a3, .inl (cI, 9, .inl md))] → va_S A s.heap H locs → lv_has ls 8 [(0, .ref b1), (1, .ref a1), (2, .int (nI x)), (3, .int (nI y)), (4, .int (nI bx)), (5, .int lx), (6, .int (nI k))] → W p l e ({ frames := 3, cells := 0, slots := 0, locals := 69 } : Room) s m ([.ref b1, .ref a1, .int (nI x), .int (nI y)] : List Value).toArray below meth c H locs 0 0 (MQ below (va_Qi (q_bl_best cI b1 b2 b3 b4 b5 b6 ab lf fo lv wk vr vc vcr a1 a2 a3 px md vz vk wn hn x y) (cs_B D vwCl tys A) A) ([.ref b1, .ref a1, .int (nI x), .int (nI y)] : List Value).toArray s 0 0 A) (F0 m 11 ls []) := by
    intro n
    induction n with
    | zero =>
      intro k f bx lx hf hk hbe
      exact absurd hf (by omega)
    | succ n ih11 =>
      intro k f bx lx hf hk hbe H locs ls hP hD hS hl
      refine lv_iload hx hb d_Block_bestMode_11 (lv_at hl 6 rfl) ?_
      refine lv_iconst (v := 4) hx hb d_Block_bestMode_13 (by decide) ?_
      refine lv_icmp_ge (tgt := 53) hx hb d_Block_bestMode_14 (by decide) (fun c_14 => ?_) (fun c_14 => ?_)
      · have hk2 := (nI_leI (a := 4) (b := k) (by decide) (by omega)).mp c_14
        have hk3 : k = 4 := by omega
        subst hk3
        refine lv_iload hx hb d_Block_bestMode_53 (lv_at hl 4 rfl) ?_
        exact W.iret (v := (nI bx)) hx hb hr (fun t ht hW => ⟨⟨(nI bx), [(b1, .inr (1, [.ref b2, .ref b3, .ref b4, .ref b5, .ref b6, .int vr, .int vc, .int vcr])), (b2, .inl (cI, 4, .inl ab)), (b3, .inl (cI, 4, .inl lf)), (b4, .inl (cI, 16, .inl f)), (b5, .inl (cI, 16, .inl lv)), (b6, .inl (cI, 16, .inl wk)), (a1, .inr (5, [.ref a2, .ref a3, .int vz, .int (nI wn), .int (nI hn), .int vk])), (a2, .inl (cI, 144, .inl px)), (a3, .inl (cI, 9, .inl md))], rfl, ⟨f, (by rw [hbe]), (rfl)⟩, by rw [ht]; exact hP, va_K.moved hW.alike hK, hD⟩, hS.F ht⟩) hS.2.2 d_Block_bestMode_55
      · have hk2 : k < 4 := Nat.not_le.mp (fun h => c_14 ((nI_leI (a := 4) (b := k) (by decide) (by omega)).mpr h))
        refine lv_aload_n hx hb d_Block_bestMode_17 rfl (lv_at hl 0 rfl) ?_
        refine lv_iload hx hb d_Block_bestMode_18 (lv_at hl 6 rfl) ?_
        refine cs_Vv (As := [.int (nI k)]) (rest := []) (wr := [(a1, .inr (5, [.ref a2, .ref a3, .int vz, .int (nI wn), .int (nI hn), .int vk])), (a2, .inl (cI, 144, .inl px)), (a3, .inl (cI, 9, .inl md))]) ⟨hx, hb, hml, hown, hts⟩ (c_bl_fore l hcI b1 b2 b3 b4 b5 b6 ab lf f lv wk vr vc vcr (nI k)) (cwV 1 hts (cs_gV mw_209 mw_210 mw_211 mw_199 mw_198) rfl rfl rfl ⟨rfl, hd_Block_foretell⟩ ⟨Nat.le_of_ble_eq_true rfl, Nat.le_of_ble_eq_true rfl⟩) hN hK hP hD hS hA [0, 1, 2, 3, 4, 5] [6, 7, 8] rfl rfl rfl rfl (by decide) (ci := 1) rfl rfl rfl rfl rfl hl.1 (Nat.le_of_ble_eq_true rfl) d_Block_bestMode_20 ⟨Nat.le_of_ble_eq_true rfl, Nat.le_of_ble_eq_true rfl⟩ (fun w1 H locs hw hP hD hS => ?_)
        obtain ⟨fo'_2, hfo, rfl⟩ := hw
        have hP : va_P D vwCl [(a1, .inr (5, [.ref a2, .ref a3, .int vz, .int (nI wn), .int (nI hn), .int vk])), (a2, .inl (cI, 144, .inl px)), (a3, .inl (cI, 9, .inl md)), (b1, .inr (1, [.ref b2, .ref b3, .ref b4, .ref b5, .ref b6, .int vr, .int vc, .int vcr])), (b2, .inl (cI, 4, .inl ab)), (b3, .inl (cI, 4, .inl lf)), (b4, .inl (cI, 16, .inl fo'_2)), (b5, .inl (cI, 16, .inl lv)), (b6, .inl (cI, 16, .inl wk))] H := hP
        have hD : va_D A [(a1, .inr (5, [.ref a2, .ref a3, .int vz, .int (nI wn), .int (nI hn), .int vk])), (a2, .inl (cI, 144, .inl px)), (a3, .inl (cI, 9, .inl md)), (b1, .inr (1, [.ref b2, .ref b3, .ref b4, .ref b5, .ref b6, .int vr, .int vc, .int vcr])), (b2, .inl (cI, 4, .inl ab)), (b3, .inl (cI, 4, .inl lf)), (b4, .inl (cI, 16, .inl fo'_2)), (b5, .inl (cI, 16, .inl lv)), (b6, .inl (cI, 16, .inl wk))] := hD
        refine lv_aload_n hx hb d_Block_bestMode_23 rfl (lv_at hl 0 rfl) ?_
        refine lv_aload_n hx hb d_Block_bestMode_24 rfl (lv_at hl 1 rfl) ?_
        refine lv_iload_n hx hb d_Block_bestMode_25 rfl (lv_at hl 2 rfl) ?_
        refine lv_iload_n hx hb d_Block_bestMode_26 rfl (lv_at hl 3 rfl) ?_
        refine cs_Vi (As := [.ref a1, .int (nI x), .int (nI y)]) (rest := []) (wr := []) ⟨hx, hb, hml, hown, hts⟩ (c_bl_miss l hcI b1 b2 b3 b4 b5 b6 ab lf fo'_2 lv wk vr vc vcr a1 a2 a3 px md vz vk wn hn x y (hx4) (hwn) (hy4) (hhn)) (cwV 3 hts (cs_gV mw_212 mw_213 mw_214 mw_199 mw_204) rfl rfl rfl ⟨rfl, hd_Block_sumOfMisses⟩ ⟨Nat.le_of_ble_eq_true rfl, Nat.le_of_ble_eq_true rfl⟩) hN hK hP hD hS hA [3, 4, 5, 6, 7, 8, 0, 1, 2] [] rfl rfl rfl rfl (by decide) (ci := 1) rfl rfl rfl rfl rfl hl.1 (Nat.le_of_ble_eq_true rfl) d_Block_bestMode_27 ⟨Nat.le_of_ble_eq_true rfl, Nat.le_of_ble_eq_true rfl⟩ (fun r3 w1 H locs hw hP hD hS => ?_)
        obtain ⟨rfl, rfl⟩ := hw
        have hP : va_P D vwCl [(b1, .inr (1, [.ref b2, .ref b3, .ref b4, .ref b5, .ref b6, .int vr, .int vc, .int vcr])), (b2, .inl (cI, 4, .inl ab)), (b3, .inl (cI, 4, .inl lf)), (b4, .inl (cI, 16, .inl fo'_2)), (b5, .inl (cI, 16, .inl lv)), (b6, .inl (cI, 16, .inl wk)), (a1, .inr (5, [.ref a2, .ref a3, .int vz, .int (nI wn), .int (nI hn), .int vk])), (a2, .inl (cI, 144, .inl px)), (a3, .inl (cI, 9, .inl md))] H := hP
        have hD : va_D A [(b1, .inr (1, [.ref b2, .ref b3, .ref b4, .ref b5, .ref b6, .int vr, .int vc, .int vcr])), (b2, .inl (cI, 4, .inl ab)), (b3, .inl (cI, 4, .inl lf)), (b4, .inl (cI, 16, .inl fo'_2)), (b5, .inl (cI, 16, .inl lv)), (b6, .inl (cI, 16, .inl wk)), (a1, .inr (5, [.ref a2, .ref a3, .int vz, .int (nI wn), .int (nI hn), .int vk])), (a2, .inl (cI, 144, .inl px)), (a3, .inl (cI, 9, .inl md))] := hD
        refine cs_top (y := missF px x y (foreB vr vc ab lf vcr (nI k)) 16) (missF_congr hfo) ?_
        refine lv_istore (lv' := [(7, .int (missF px x y (foreB vr vc ab lf vcr (nI k)) 16)), (0, .ref b1), (1, .ref a1), (2, .int (nI x)), (3, .int (nI y)), (4, .int (nI bx)), (5, .int lx), (6, .int (nI k))]) hx hb d_Block_bestMode_30 hl (by decide) rfl (fun ls hl => ?_)
        refine lv_iload hx hb d_Block_bestMode_32 (lv_at hl 0 rfl) ?_
        refine lv_iload hx hb d_Block_bestMode_34 (lv_at hl 6 rfl) ?_
        refine lv_icmp_ge (tgt := 47) hx hb d_Block_bestMode_36 (by decide) (fun c_36 => ?_) (fun c_36 => ?_)
        · refine lv_iinc (v := nI (k + 1)) (lv' := [(6, .int (nI (k + 1))), (7, .int (missF px x y (foreB vr vc ab lf vcr (nI k)) 16)), (0, .ref b1), (1, .ref a1), (2, .int (nI x)), (3, .int (nI y)), (4, .int (nI bx)), (5, .int lx)]) hx hb d_Block_bestMode_47 hl (k := 7) rfl (nI_1 _) (by decide) rfl (fun ls hl => ?_)
          refine lv_goto (tgt := 11) hx hb d_Block_bestMode_50 (by decide) ?_
          exact ih11 (k + 1) fo'_2 bx lx (by omega) (by omega) (by rw [bestF, hbe, if_pos c_36]) _ _ _ (hP.sub (ws' := [(b1, .inr (1, [.ref b2, .ref b3, .ref b4, .ref b5, .ref b6, .int vr, .int vc, .int vcr])), (b2, .inl (cI, 4, .inl ab)), (b3, .inl (cI, 4, .inl lf)), (b4, .inl (cI, 16, .inl fo'_2)), (b5, .inl (cI, 16, .inl lv)), (b6, .inl (cI, 16, .inl wk)), (a1, .inr (5, [.ref a2, .ref a3, .int vz, .int (nI wn), .int (nI hn), .int vk])), (a2, .inl (cI, 144, .inl px)), (a3, .inl (cI, 9, .inl md))]) [0, 1, 2, 3, 4, 5, 6, 7, 8] rfl) (hD.sub (ws' := [(b1, .inr (1, [.ref b2, .ref b3, .ref b4, .ref b5, .ref b6, .int vr, .int vc, .int vcr])), (b2, .inl (cI, 4, .inl ab)), (b3, .inl (cI, 4, .inl lf)), (b4, .inl (cI, 16, .inl fo'_2)), (b5, .inl (cI, 16, .inl lv)), (b6, .inl (cI, 16, .inl wk)), (a1, .inr (5, [.ref a2, .ref a3, .int vz, .int (nI wn), .int (nI hn), .int vk])), (a2, .inl (cI, 144, .inl px)), (a3, .inl (cI, 9, .inl md))]) [0, 1, 2, 3, 4, 5, 6, 7, 8] (by decide) rfl) hS (lv_sub hl [2, 3, 4, 5, 6, 7, 0] rfl)
        · refine lv_iload hx hb d_Block_bestMode_39 (lv_at hl 0 rfl) ?_
          refine lv_istore (lv' := [(5, .int (missF px x y (foreB vr vc ab lf vcr (nI k)) 16)), (7, .int (missF px x y (foreB vr vc ab lf vcr (nI k)) 16)), (0, .ref b1), (1, .ref a1), (2, .int (nI x)), (3, .int (nI y)), (4, .int (nI bx)), (6, .int (nI k))]) hx hb d_Block_bestMode_41 hl (by decide) rfl (fun ls hl => ?_)
          refine lv_iload hx hb d_Block_bestMode_43 (lv_at hl 7 rfl) ?_
          refine lv_istore (lv' := [(4, .int (nI k)), (5, .int (missF px x y (foreB vr vc ab lf vcr (nI k)) 16)), (7, .int (missF px x y (foreB vr vc ab lf vcr (nI k)) 16)), (0, .ref b1), (1, .ref a1), (2, .int (nI x)), (3, .int (nI y)), (6, .int (nI k))]) hx hb d_Block_bestMode_45 hl (by decide) rfl (fun ls hl => ?_)
          refine lv_iinc (v := nI (k + 1)) (lv' := [(6, .int (nI (k + 1))), (4, .int (nI k)), (5, .int (missF px x y (foreB vr vc ab lf vcr (nI k)) 16)), (7, .int (missF px x y (foreB vr vc ab lf vcr (nI k)) 16)), (0, .ref b1), (1, .ref a1), (2, .int (nI x)), (3, .int (nI y))]) hx hb d_Block_bestMode_47 hl (k := 7) rfl (nI_1 _) (by decide) rfl (fun ls hl => ?_)
          refine lv_goto (tgt := 11) hx hb d_Block_bestMode_50 (by decide) ?_
          exact ih11 (k + 1) fo'_2 k (missF px x y (foreB vr vc ab lf vcr (nI k)) 16) (by omega) (by omega) (by rw [bestF, hbe, if_neg c_36]) _ _ _ (hP.sub (ws' := [(b1, .inr (1, [.ref b2, .ref b3, .ref b4, .ref b5, .ref b6, .int vr, .int vc, .int vcr])), (b2, .inl (cI, 4, .inl ab)), (b3, .inl (cI, 4, .inl lf)), (b4, .inl (cI, 16, .inl fo'_2)), (b5, .inl (cI, 16, .inl lv)), (b6, .inl (cI, 16, .inl wk)), (a1, .inr (5, [.ref a2, .ref a3, .int vz, .int (nI wn), .int (nI hn), .int vk])), (a2, .inl (cI, 144, .inl px)), (a3, .inl (cI, 9, .inl md))]) [0, 1, 2, 3, 4, 5, 6, 7, 8] rfl) (hD.sub (ws' := [(b1, .inr (1, [.ref b2, .ref b3, .ref b4, .ref b5, .ref b6, .int vr, .int vc, .int vcr])), (b2, .inl (cI, 4, .inl ab)), (b3, .inl (cI, 4, .inl lf)), (b4, .inl (cI, 16, .inl fo'_2)), (b5, .inl (cI, 16, .inl lv)), (b6, .inl (cI, 16, .inl wk)), (a1, .inr (5, [.ref a2, .ref a3, .int vz, .int (nI wn), .int (nI hn), .int vk])), (a2, .inl (cI, 144, .inl px)), (a3, .inl (cI, 9, .inl md))]) [0, 1, 2, 3, 4, 5, 6, 7, 8] (by decide) rfl) hS (lv_sub hl [4, 5, 6, 7, 1, 2, 0] rfl)
  exact lp11 (5) 0 fo 0 4081 (by omega) (by omega) (rfl) _ _ _ (hP.sub (ws' := [(b1, .inr (1, [.ref b2, .ref b3, .ref b4, .ref b5, .ref b6, .int vr, .int vc, .int vcr])), (b2, .inl (cI, 4, .inl ab)), (b3, .inl (cI, 4, .inl lf)), (b4, .inl (cI, 16, .inl fo)), (b5, .inl (cI, 16, .inl lv)), (b6, .inl (cI, 16, .inl wk)), (a1, .inr (5, [.ref a2, .ref a3, .int vz, .int (nI wn), .int (nI hn), .int vk])), (a2, .inl (cI, 144, .inl px)), (a3, .inl (cI, 9, .inl md))]) [0, 1, 2, 3, 4, 5, 6, 7, 8] rfl) (hD.sub (ws' := [(b1, .inr (1, [.ref b2, .ref b3, .ref b4, .ref b5, .ref b6, .int vr, .int vc, .int vcr])), (b2, .inl (cI, 4, .inl ab)), (b3, .inl (cI, 4, .inl lf)), (b4, .inl (cI, 16, .inl fo)), (b5, .inl (cI, 16, .inl lv)), (b6, .inl (cI, 16, .inl wk)), (a1, .inr (5, [.ref a2, .ref a3, .int vz, .int (nI wn), .int (nI hn), .int vk])), (a2, .inl (cI, 144, .inl px)), (a3, .inl (cI, 9, .inl md))]) [0, 1, 2, 3, 4, 5, 6, 7, 8] (by decide) rfl) hS (lv_sub hl [3, 4, 5, 6, 2, 1, 0] rfl)
def y_Block_transformLine : MethodName := ⟨"TileForge$Block", "transformLine", "(IIII)V"⟩
def ws_Block_transformLine : List Cond := .code y_Block_transformLine prog_3_method_11_code 9 none :: GW
theorem mw_215 : (.code ⟨"TileForge$Block", "transformLine", "(IIII)V"⟩ prog_3_method_11_code 9 none : Cond) ∈ GW := List.mem_filter.mpr ⟨(List.mem_append_right _ (List.mem_append_right _ (List.mem_append_left _ (List.mem_of_getElem? (i := 210) rfl)))), rfl⟩
theorem hd_Block_transformLine : y_Block_transformLine.cls ≠ "java/lang/invoke/MethodHandle" ∧ y_Block_transformLine.cls ≠ "java/lang/invoke/VarHandle" ∧ (parseMethodDescriptor y_Block_transformLine.desc).map (fun d => d.parameters.length) = some 4 := by decide +kernel
theorem d_Block_transformLine_0 : decode prog_3_method_11_code 0 = .ok (.aload_n 0, 1) := by decide +kernel
theorem d_Block_transformLine_1 : decode prog_3_method_11_code 1 = .ok (.getfield 24, 3) := by decide +kernel
theorem d_Block_transformLine_4 : decode prog_3_method_11_code 4 = .ok (.iload_n 1, 1) := by decide +kernel
theorem d_Block_transformLine_5 : decode prog_3_method_11_code 5 = .ok (.iaload, 1) := by decide +kernel
theorem d_Block_transformLine_6 : decode prog_3_method_11_code 6 = .ok (.istore 5, 2) := by decide +kernel
theorem d_Block_transformLine_8 : decode prog_3_method_11_code 8 = .ok (.aload_n 0, 1) := by decide +kernel
theorem d_Block_transformLine_9 : decode prog_3_method_11_code 9 = .ok (.getfield 24, 3) := by decide +kernel
theorem d_Block_transformLine_12 : decode prog_3_method_11_code 12 = .ok (.iload_n 2, 1) := by decide +kernel
theorem d_Block_transformLine_13 : decode prog_3_method_11_code 13 = .ok (.iaload, 1) := by decide +kernel
theorem d_Block_transformLine_14 : decode prog_3_method_11_code 14 = .ok (.istore 6, 2) := by decide +kernel
theorem d_Block_transformLine_16 : decode prog_3_method_11_code 16 = .ok (.aload_n 0, 1) := by decide +kernel
theorem d_Block_transformLine_17 : decode prog_3_method_11_code 17 = .ok (.getfield 24, 3) := by decide +kernel
theorem d_Block_transformLine_20 : decode prog_3_method_11_code 20 = .ok (.iload_n 3, 1) := by decide +kernel
theorem d_Block_transformLine_21 : decode prog_3_method_11_code 21 = .ok (.iaload, 1) := by decide +kernel
theorem d_Block_transformLine_22 : decode prog_3_method_11_code 22 = .ok (.istore 7, 2) := by decide +kernel
theorem d_Block_transformLine_24 : decode prog_3_method_11_code 24 = .ok (.aload_n 0, 1) := by decide +kernel
theorem d_Block_transformLine_25 : decode prog_3_method_11_code 25 = .ok (.getfield 24, 3) := by decide +kernel
theorem d_Block_transformLine_28 : decode prog_3_method_11_code 28 = .ok (.iload 4, 2) := by decide +kernel
theorem d_Block_transformLine_30 : decode prog_3_method_11_code 30 = .ok (.iaload, 1) := by decide +kernel
theorem d_Block_transformLine_31 : decode prog_3_method_11_code 31 = .ok (.istore 8, 2) := by decide +kernel
theorem d_Block_transformLine_33 : decode prog_3_method_11_code 33 = .ok (.aload_n 0, 1) := by decide +kernel
theorem d_Block_transformLine_34 : decode prog_3_method_11_code 34 = .ok (.getfield 24, 3) := by decide +kernel
theorem d_Block_transformLine_37 : decode prog_3_method_11_code 37 = .ok (.iload_n 1, 1) := by decide +kernel
theorem d_Block_transformLine_38 : decode prog_3_method_11_code 38 = .ok (.iload 5, 2) := by decide +kernel
theorem d_Block_transformLine_40 : decode prog_3_method_11_code 40 = .ok (.iload 6, 2) := by decide +kernel
theorem d_Block_transformLine_42 : decode prog_3_method_11_code 42 = .ok (.iadd, 1) := by decide +kernel
theorem d_Block_transformLine_43 : decode prog_3_method_11_code 43 = .ok (.iload 7, 2) := by decide +kernel
theorem d_Block_transformLine_45 : decode prog_3_method_11_code 45 = .ok (.iadd, 1) := by decide +kernel
theorem d_Block_transformLine_46 : decode prog_3_method_11_code 46 = .ok (.iload 8, 2) := by decide +kernel
theorem d_Block_transformLine_48 : decode prog_3_method_11_code 48 = .ok (.iadd, 1) := by decide +kernel
theorem d_Block_transformLine_49 : decode prog_3_method_11_code 49 = .ok (.iastore, 1) := by decide +kernel
theorem d_Block_transformLine_50 : decode prog_3_method_11_code 50 = .ok (.aload_n 0, 1) := by decide +kernel
theorem d_Block_transformLine_51 : decode prog_3_method_11_code 51 = .ok (.getfield 24, 3) := by decide +kernel
theorem d_Block_transformLine_54 : decode prog_3_method_11_code 54 = .ok (.iload_n 2, 1) := by decide +kernel
theorem d_Block_transformLine_55 : decode prog_3_method_11_code 55 = .ok (.iload 5, 2) := by decide +kernel
theorem d_Block_transformLine_57 : decode prog_3_method_11_code 57 = .ok (.iload 6, 2) := by decide +kernel
theorem d_Block_transformLine_59 : decode prog_3_method_11_code 59 = .ok (.iadd, 1) := by decide +kernel
theorem d_Block_transformLine_60 : decode prog_3_method_11_code 60 = .ok (.iload 7, 2) := by decide +kernel
theorem d_Block_transformLine_62 : decode prog_3_method_11_code 62 = .ok (.isub, 1) := by decide +kernel
theorem d_Block_transformLine_63 : decode prog_3_method_11_code 63 = .ok (.iload 8, 2) := by decide +kernel
theorem d_Block_transformLine_65 : decode prog_3_method_11_code 65 = .ok (.isub, 1) := by decide +kernel
theorem d_Block_transformLine_66 : decode prog_3_method_11_code 66 = .ok (.iastore, 1) := by decide +kernel
theorem d_Block_transformLine_67 : decode prog_3_method_11_code 67 = .ok (.aload_n 0, 1) := by decide +kernel
theorem d_Block_transformLine_68 : decode prog_3_method_11_code 68 = .ok (.getfield 24, 3) := by decide +kernel
theorem d_Block_transformLine_71 : decode prog_3_method_11_code 71 = .ok (.iload_n 3, 1) := by decide +kernel
theorem d_Block_transformLine_72 : decode prog_3_method_11_code 72 = .ok (.iload 5, 2) := by decide +kernel
theorem d_Block_transformLine_74 : decode prog_3_method_11_code 74 = .ok (.iload 6, 2) := by decide +kernel
theorem d_Block_transformLine_76 : decode prog_3_method_11_code 76 = .ok (.isub, 1) := by decide +kernel
theorem d_Block_transformLine_77 : decode prog_3_method_11_code 77 = .ok (.iload 7, 2) := by decide +kernel
theorem d_Block_transformLine_79 : decode prog_3_method_11_code 79 = .ok (.isub, 1) := by decide +kernel
theorem d_Block_transformLine_80 : decode prog_3_method_11_code 80 = .ok (.iload 8, 2) := by decide +kernel
theorem d_Block_transformLine_82 : decode prog_3_method_11_code 82 = .ok (.iadd, 1) := by decide +kernel
theorem d_Block_transformLine_83 : decode prog_3_method_11_code 83 = .ok (.iastore, 1) := by decide +kernel
theorem d_Block_transformLine_84 : decode prog_3_method_11_code 84 = .ok (.aload_n 0, 1) := by decide +kernel
theorem d_Block_transformLine_85 : decode prog_3_method_11_code 85 = .ok (.getfield 24, 3) := by decide +kernel
theorem d_Block_transformLine_88 : decode prog_3_method_11_code 88 = .ok (.iload 4, 2) := by decide +kernel
theorem d_Block_transformLine_90 : decode prog_3_method_11_code 90 = .ok (.iload 5, 2) := by decide +kernel
theorem d_Block_transformLine_92 : decode prog_3_method_11_code 92 = .ok (.iload 6, 2) := by decide +kernel
theorem d_Block_transformLine_94 : decode prog_3_method_11_code 94 = .ok (.isub, 1) := by decide +kernel
theorem d_Block_transformLine_95 : decode prog_3_method_11_code 95 = .ok (.iload 7, 2) := by decide +kernel
theorem d_Block_transformLine_97 : decode prog_3_method_11_code 97 = .ok (.iadd, 1) := by decide +kernel
theorem d_Block_transformLine_98 : decode prog_3_method_11_code 98 = .ok (.iload 8, 2) := by decide +kernel
theorem d_Block_transformLine_100 : decode prog_3_method_11_code 100 = .ok (.isub, 1) := by decide +kernel
theorem d_Block_transformLine_101 : decode prog_3_method_11_code 101 = .ok (.iastore, 1) := by decide +kernel
theorem d_Block_transformLine_102 : decode prog_3_method_11_code 102 = .ok (.return_, 1) := by decide +kernel
def q_bl_line (cI : ClassId) (b1 : Nat) (b2 : Nat) (b3 : Nat) (b4 : Nat) (b5 : Nat) (b6 : Nat) (ab : Nat → Int32) (lf : Nat → Int32) (fo : Nat → Int32) (lv : Nat → Int32) (wk : Nat → Int32) (vr : Int32) (vc : Int32) (vcr : Int32) (i1 : Nat) (i2 : Nat) (i3 : Nat) (i4 : Nat) : va_W → Prop := fun ww => ww = [(b1, .inr (1, [.ref b2, .ref b3, .ref b4, .ref b5, .ref b6, .int vr, .int vc, .int vcr])), (b2, .inl (cI, 4, .inl ab)), (b3, .inl (cI, 4, .inl lf)), (b4, .inl (cI, 16, .inl fo)), (b5, .inl (cI, 16, .inl lv)), (b6, .inl (cI, 16, .inl (trL wk i1 i2 i3 i4)))]
set_option maxHeartbeats 4000000 in
set_option maxRecDepth 100000 in
theorem c_bl_line (l : Launch) {D : va_G} {tys : List (ClassId × FieldType)} {cI : ClassId} (hcI : tys[0]? = some (cI, .int)) (b1 : Nat) (b2 : Nat) (b3 : Nat) (b4 : Nat) (b5 : Nat) (b6 : Nat) (ab : Nat → Int32) (lf : Nat → Int32) (fo : Nat → Int32) (lv : Nat → Int32) (wk : Nat → Int32) (vr : Int32) (vc : Int32) (vcr : Int32) (i1 : Nat) (i2 : Nat) (i3 : Nat) (i4 : Nat) (h1 : i1 < 16) (h2 : i2 < 16) (h3 : i3 < 16) (h4 : i4 < 16) : CsV l D vwCl tys y_Block_transformLine ws_Block_transformLine ({ frames := 0, cells := 0, slots := 0, locals := 0 } : Room) [.ref b1, .int (nI i1), .int (nI i2), .int (nI i3), .int (nI i4)] [(b1, .inr (1, [.ref b2, .ref b3, .ref b4, .ref b5, .ref b6, .int vr, .int vc, .int vcr])), (b2, .inl (cI, 4, .inl ab)), (b3, .inl (cI, 4, .inl lf)), (b4, .inl (cI, 16, .inl fo)), (b5, .inl (cI, 16, .inl lv)), (b6, .inl (cI, 16, .inl wk))] (q_bl_line cI b1 b2 b3 b4 b5 b6 ab lf fo lv wk vr vc vcr i1 i2 i3 i4) 0 0 := by
  intro sz
  refine Met.ofW (cc := prog_3_method_11_code) (maxL := 9) (ret := none) (by decide) rfl ?_
  intro p e s m args below meth c s₁ B hml hv
  obtain ⟨rfl, hsz, hP, hK, hD0, hN⟩ := hv
  have hx := B.exec
  have hb := B.bytes
  have hr := B.returns
  have hts := atoms_spec (ws := ws_Block_transformLine) B.pre
  have hown : s.vm.findClass "TileForge$Block" = some m.cls := findClass_of_methodNamed B.named
  have hlocks := B.notSynchronized
  subst hsz
  have hD := hD0.self (sz := s.heap.size)
  generalize hAe : va_A [(b1, .inr (1, [.ref b2, .ref b3, .ref b4, .ref b5, .ref b6, .int vr, .int vc, .int vcr])), (b2, .inl (cI, 4, .inl ab)), (b3, .inl (cI, 4, .inl lf)), (b4, .inl (cI, 16, .inl fo)), (b5, .inl (cI, 16, .inl lv)), (b6, .inl (cI, 16, .inl wk))] s.heap.size = A at hD ⊢
  have hA : ∀ q : Nat, s.heap.size ≤ q → A q := fun q h => by rw [← hAe]; exact Or.inr h
  have hS : va_S A s.heap s.heap [] := va_S.rf
  have hP : va_P D vwCl [(b1, .inr (1, [.ref b2, .ref b3, .ref b4, .ref b5, .ref b6, .int vr, .int vc, .int vcr])), (b2, .inl (cI, 4, .inl ab)), (b3, .inl (cI, 4, .inl lf)), (b4, .inl (cI, 16, .inl fo)), (b5, .inl (cI, 16, .inl lv)), (b6, .inl (cI, 16, .inl wk))] s.heap := hP
  have hl := lv_entry ([.ref b1, .int (nI i1), .int (nI i2), .int (nI i3), .int (nI i4)]) (n := 9) (Nat.le_of_ble_eq_true rfl)
  rw [lg_entry_eq]
  generalize (lg_sl ([.ref b1, .int (nI i1), .int (nI i2), .int (nI i3), .int (nI i4)]) ++ List.replicate (9 - (lg_sl ([.ref b1, .int (nI i1), .int (nI i2), .int (nI i3), .int (nI i4)])).length) Slot.unset).toArray = ls at hl ⊢
  have hl : lv_has ls 9 [(0, .ref b1), (1, .int (nI i1)), (2, .int (nI i2)), (3, .int (nI i3)), (4, .int (nI i4))] := hl
  refine lv_aload_n hx hb d_Block_transformLine_0 rfl (lv_at hl 0 rfl) ?_
  refine va_get (D := D) (ci := 1) (v := .ref b6) (C := "TileForge$Block") (T := T_Block) (N := 8) hx hb hts (cs_in in_Block) hown hK hP 0 rfl rfl 4 (by decide) (hts _ (cs_m mw_189)) (fun _ h9 => h9) rfl d_Block_transformLine_1 ?_
  refine lv_iload_n hx hb d_Block_transformLine_4 rfl (lv_at hl 1 rfl) ?_
  refine cs_iald (j := i1) hx hb hK hcI hP 5 rfl (rfl) (by omega) (by decide) d_Block_transformLine_5 ?_
  refine lv_istore (lv' := [(5, .int (wk i1)), (0, .ref b1), (1, .int (nI i1)), (2, .int (nI i2)), (3, .int (nI i3)), (4, .int (nI i4))]) hx hb d_Block_transformLine_6 hl (by decide) rfl (fun ls hl => ?_)
  refine lv_aload_n hx hb d_Block_transformLine_8 rfl (lv_at hl 1 rfl) ?_
  refine va_get (D := D) (ci := 1) (v := .ref b6) (C := "TileForge$Block") (T := T_Block) (N := 8) hx hb hts (cs_in in_Block) hown hK hP 0 rfl rfl 4 (by decide) (hts _ (cs_m mw_189)) (fun _ h9 => h9) rfl d_Block_transformLine_9 ?_
  refine lv_iload_n hx hb d_Block_transformLine_12 rfl (lv_at hl 3 rfl) ?_
  refine cs_iald (j := i2) hx hb hK hcI hP 5 rfl (rfl) (by omega) (by decide) d_Block_transformLine_13 ?_
  refine lv_istore (lv' := [(6, .int (wk i2)), (5, .int (wk i1)), (0, .ref b1), (1, .int (nI i1)), (2, .int (nI i2)), (3, .int (nI i3)), (4, .int (nI i4))]) hx hb d_Block_transformLine_14 hl (by decide) rfl (fun ls hl => ?_)
  refine lv_aload_n hx hb d_Block_transformLine_16 rfl (lv_at hl 2 rfl) ?_
  refine va_get (D := D) (ci := 1) (v := .ref b6) (C := "TileForge$Block") (T := T_Block) (N := 8) hx hb hts (cs_in in_Block) hown hK hP 0 rfl rfl 4 (by decide) (hts _ (cs_m mw_189)) (fun _ h9 => h9) rfl d_Block_transformLine_17 ?_
  refine lv_iload_n hx hb d_Block_transformLine_20 rfl (lv_at hl 5 rfl) ?_
  refine cs_iald (j := i3) hx hb hK hcI hP 5 rfl (rfl) (by omega) (by decide) d_Block_transformLine_21 ?_
  refine lv_istore (lv' := [(7, .int (wk i3)), (6, .int (wk i2)), (5, .int (wk i1)), (0, .ref b1), (1, .int (nI i1)), (2, .int (nI i2)), (3, .int (nI i3)), (4, .int (nI i4))]) hx hb d_Block_transformLine_22 hl (by decide) rfl (fun ls hl => ?_)
  refine lv_aload_n hx hb d_Block_transformLine_24 rfl (lv_at hl 3 rfl) ?_
  refine va_get (D := D) (ci := 1) (v := .ref b6) (C := "TileForge$Block") (T := T_Block) (N := 8) hx hb hts (cs_in in_Block) hown hK hP 0 rfl rfl 4 (by decide) (hts _ (cs_m mw_189)) (fun _ h9 => h9) rfl d_Block_transformLine_25 ?_
  refine lv_iload hx hb d_Block_transformLine_28 (lv_at hl 7 rfl) ?_
  refine cs_iald (j := i4) hx hb hK hcI hP 5 rfl (rfl) (by omega) (by decide) d_Block_transformLine_30 ?_
  refine lv_istore (lv' := [(8, .int (wk i4)), (7, .int (wk i3)), (6, .int (wk i2)), (5, .int (wk i1)), (0, .ref b1), (1, .int (nI i1)), (2, .int (nI i2)), (3, .int (nI i3)), (4, .int (nI i4))]) hx hb d_Block_transformLine_31 hl (by decide) rfl (fun ls hl => ?_)
  refine lv_aload_n hx hb d_Block_transformLine_33 rfl (lv_at hl 4 rfl) ?_
  refine va_get (D := D) (ci := 1) (v := .ref b6) (C := "TileForge$Block") (T := T_Block) (N := 8) hx hb hts (cs_in in_Block) hown hK hP 0 rfl rfl 4 (by decide) (hts _ (cs_m mw_189)) (fun _ h9 => h9) rfl d_Block_transformLine_34 ?_
  refine lv_iload_n hx hb d_Block_transformLine_37 rfl (lv_at hl 5 rfl) ?_
  refine lv_iload hx hb d_Block_transformLine_38 (lv_at hl 3 rfl) ?_
  refine lv_iload hx hb d_Block_transformLine_40 (lv_at hl 2 rfl) ?_
  refine lv_iadd hx hb d_Block_transformLine_42 ?_
  refine lv_iload hx hb d_Block_transformLine_43 (lv_at hl 1 rfl) ?_
  refine lv_iadd hx hb d_Block_transformLine_45 ?_
  refine lv_iload hx hb d_Block_transformLine_46 (lv_at hl 0 rfl) ?_
  refine lv_iadd hx hb d_Block_transformLine_48 ?_
  refine cs_iast (j := i1) hx hb hK hcI hP hD hS 5 rfl (rfl) (by omega) (by decide) d_Block_transformLine_49 (fun H locs hP hD hS => ?_)
  have hP : va_P D vwCl [(b1, .inr (1, [.ref b2, .ref b3, .ref b4, .ref b5, .ref b6, .int vr, .int vc, .int vcr])), (b2, .inl (cI, 4, .inl ab)), (b3, .inl (cI, 4, .inl lf)), (b4, .inl (cI, 16, .inl fo)), (b5, .inl (cI, 16, .inl lv)), (b6, .inl (cI, 16, .inl (upd wk i1 ((((wk i1) + (wk i2)) + (wk i3)) + (wk i4)))))] H := hP
  have hD : va_D A [(b1, .inr (1, [.ref b2, .ref b3, .ref b4, .ref b5, .ref b6, .int vr, .int vc, .int vcr])), (b2, .inl (cI, 4, .inl ab)), (b3, .inl (cI, 4, .inl lf)), (b4, .inl (cI, 16, .inl fo)), (b5, .inl (cI, 16, .inl lv)), (b6, .inl (cI, 16, .inl (upd wk i1 ((((wk i1) + (wk i2)) + (wk i3)) + (wk i4)))))] := hD
  refine lv_aload_n hx hb d_Block_transformLine_50 rfl (lv_at hl 4 rfl) ?_
  refine va_get (D := D) (ci := 1) (v := .ref b6) (C := "TileForge$Block") (T := T_Block) (N := 8) hx hb hts (cs_in in_Block) hown hK hP 0 rfl rfl 4 (by decide) (hts _ (cs_m mw_189)) (fun _ h9 => h9) rfl d_Block_transformLine_51 ?_
  refine lv_iload_n hx hb d_Block_transformLine_54 rfl (lv_at hl 6 rfl) ?_
  refine lv_iload hx hb d_Block_transformLine_55 (lv_at hl 3 rfl) ?_
  refine lv_iload hx hb d_Block_transformLine_57 (lv_at hl 2 rfl) ?_
  refine lv_iadd hx hb d_Block_transformLine_59 ?_
  refine lv_iload hx hb d_Block_transformLine_60 (lv_at hl 1 rfl) ?_
  refine lv_isub hx hb d_Block_transformLine_62 ?_
  refine lv_iload hx hb d_Block_transformLine_63 (lv_at hl 0 rfl) ?_
  refine lv_isub hx hb d_Block_transformLine_65 ?_
  refine cs_iast (j := i2) hx hb hK hcI hP hD hS 5 rfl (rfl) (by omega) (by decide) d_Block_transformLine_66 (fun H locs hP hD hS => ?_)
  have hP : va_P D vwCl [(b1, .inr (1, [.ref b2, .ref b3, .ref b4, .ref b5, .ref b6, .int vr, .int vc, .int vcr])), (b2, .inl (cI, 4, .inl ab)), (b3, .inl (cI, 4, .inl lf)), (b4, .inl (cI, 16, .inl fo)), (b5, .inl (cI, 16, .inl lv)), (b6, .inl (cI, 16, .inl (upd (upd wk i1 ((((wk i1) + (wk i2)) + (wk i3)) + (wk i4))) i2 ((((wk i1) + (wk i2)) - (wk i3)) - (wk i4)))))] H := hP
  have hD : va_D A [(b1, .inr (1, [.ref b2, .ref b3, .ref b4, .ref b5, .ref b6, .int vr, .int vc, .int vcr])), (b2, .inl (cI, 4, .inl ab)), (b3, .inl (cI, 4, .inl lf)), (b4, .inl (cI, 16, .inl fo)), (b5, .inl (cI, 16, .inl lv)), (b6, .inl (cI, 16, .inl (upd (upd wk i1 ((((wk i1) + (wk i2)) + (wk i3)) + (wk i4))) i2 ((((wk i1) + (wk i2)) - (wk i3)) - (wk i4)))))] := hD
  refine lv_aload_n hx hb d_Block_transformLine_67 rfl (lv_at hl 4 rfl) ?_
  refine va_get (D := D) (ci := 1) (v := .ref b6) (C := "TileForge$Block") (T := T_Block) (N := 8) hx hb hts (cs_in in_Block) hown hK hP 0 rfl rfl 4 (by decide) (hts _ (cs_m mw_189)) (fun _ h9 => h9) rfl d_Block_transformLine_68 ?_
  refine lv_iload_n hx hb d_Block_transformLine_71 rfl (lv_at hl 7 rfl) ?_
  refine lv_iload hx hb d_Block_transformLine_72 (lv_at hl 3 rfl) ?_
  refine lv_iload hx hb d_Block_transformLine_74 (lv_at hl 2 rfl) ?_
  refine lv_isub hx hb d_Block_transformLine_76 ?_
  refine lv_iload hx hb d_Block_transformLine_77 (lv_at hl 1 rfl) ?_
  refine lv_isub hx hb d_Block_transformLine_79 ?_
  refine lv_iload hx hb d_Block_transformLine_80 (lv_at hl 0 rfl) ?_
  refine lv_iadd hx hb d_Block_transformLine_82 ?_
  refine cs_iast (j := i3) hx hb hK hcI hP hD hS 5 rfl (rfl) (by omega) (by decide) d_Block_transformLine_83 (fun H locs hP hD hS => ?_)
  have hP : va_P D vwCl [(b1, .inr (1, [.ref b2, .ref b3, .ref b4, .ref b5, .ref b6, .int vr, .int vc, .int vcr])), (b2, .inl (cI, 4, .inl ab)), (b3, .inl (cI, 4, .inl lf)), (b4, .inl (cI, 16, .inl fo)), (b5, .inl (cI, 16, .inl lv)), (b6, .inl (cI, 16, .inl (upd (upd (upd wk i1 ((((wk i1) + (wk i2)) + (wk i3)) + (wk i4))) i2 ((((wk i1) + (wk i2)) - (wk i3)) - (wk i4))) i3 ((((wk i1) - (wk i2)) - (wk i3)) + (wk i4)))))] H := hP
  have hD : va_D A [(b1, .inr (1, [.ref b2, .ref b3, .ref b4, .ref b5, .ref b6, .int vr, .int vc, .int vcr])), (b2, .inl (cI, 4, .inl ab)), (b3, .inl (cI, 4, .inl lf)), (b4, .inl (cI, 16, .inl fo)), (b5, .inl (cI, 16, .inl lv)), (b6, .inl (cI, 16, .inl (upd (upd (upd wk i1 ((((wk i1) + (wk i2)) + (wk i3)) + (wk i4))) i2 ((((wk i1) + (wk i2)) - (wk i3)) - (wk i4))) i3 ((((wk i1) - (wk i2)) - (wk i3)) + (wk i4)))))] := hD
  refine lv_aload_n hx hb d_Block_transformLine_84 rfl (lv_at hl 4 rfl) ?_
  refine va_get (D := D) (ci := 1) (v := .ref b6) (C := "TileForge$Block") (T := T_Block) (N := 8) hx hb hts (cs_in in_Block) hown hK hP 0 rfl rfl 4 (by decide) (hts _ (cs_m mw_189)) (fun _ h9 => h9) rfl d_Block_transformLine_85 ?_
  refine lv_iload hx hb d_Block_transformLine_88 (lv_at hl 8 rfl) ?_
  refine lv_iload hx hb d_Block_transformLine_90 (lv_at hl 3 rfl) ?_
  refine lv_iload hx hb d_Block_transformLine_92 (lv_at hl 2 rfl) ?_
  refine lv_isub hx hb d_Block_transformLine_94 ?_
  refine lv_iload hx hb d_Block_transformLine_95 (lv_at hl 1 rfl) ?_
  refine lv_iadd hx hb d_Block_transformLine_97 ?_
  refine lv_iload hx hb d_Block_transformLine_98 (lv_at hl 0 rfl) ?_
  refine lv_isub hx hb d_Block_transformLine_100 ?_
  refine cs_iast (j := i4) hx hb hK hcI hP hD hS 5 rfl (rfl) (by omega) (by decide) d_Block_transformLine_101 (fun H locs hP hD hS => ?_)
  have hP : va_P D vwCl [(b1, .inr (1, [.ref b2, .ref b3, .ref b4, .ref b5, .ref b6, .int vr, .int vc, .int vcr])), (b2, .inl (cI, 4, .inl ab)), (b3, .inl (cI, 4, .inl lf)), (b4, .inl (cI, 16, .inl fo)), (b5, .inl (cI, 16, .inl lv)), (b6, .inl (cI, 16, .inl (upd (upd (upd (upd wk i1 ((((wk i1) + (wk i2)) + (wk i3)) + (wk i4))) i2 ((((wk i1) + (wk i2)) - (wk i3)) - (wk i4))) i3 ((((wk i1) - (wk i2)) - (wk i3)) + (wk i4))) i4 ((((wk i1) - (wk i2)) + (wk i3)) - (wk i4)))))] H := hP
  have hD : va_D A [(b1, .inr (1, [.ref b2, .ref b3, .ref b4, .ref b5, .ref b6, .int vr, .int vc, .int vcr])), (b2, .inl (cI, 4, .inl ab)), (b3, .inl (cI, 4, .inl lf)), (b4, .inl (cI, 16, .inl fo)), (b5, .inl (cI, 16, .inl lv)), (b6, .inl (cI, 16, .inl (upd (upd (upd (upd wk i1 ((((wk i1) + (wk i2)) + (wk i3)) + (wk i4))) i2 ((((wk i1) + (wk i2)) - (wk i3)) - (wk i4))) i3 ((((wk i1) - (wk i2)) - (wk i3)) + (wk i4))) i4 ((((wk i1) - (wk i2)) + (wk i3)) - (wk i4)))))] := hD
  exact W.vret hx hb hr (fun t ht hW => ⟨⟨[(b1, .inr (1, [.ref b2, .ref b3, .ref b4, .ref b5, .ref b6, .int vr, .int vc, .int vcr])), (b2, .inl (cI, 4, .inl ab)), (b3, .inl (cI, 4, .inl lf)), (b4, .inl (cI, 16, .inl fo)), (b5, .inl (cI, 16, .inl lv)), (b6, .inl (cI, 16, .inl (upd (upd (upd (upd wk i1 ((((wk i1) + (wk i2)) + (wk i3)) + (wk i4))) i2 ((((wk i1) + (wk i2)) - (wk i3)) - (wk i4))) i3 ((((wk i1) - (wk i2)) - (wk i3)) + (wk i4))) i4 ((((wk i1) - (wk i2)) + (wk i3)) - (wk i4)))))], rfl, (show _ = _ from (rfl)), by rw [ht]; exact hP, va_K.moved hW.alike hK, hD⟩, hS.F ht⟩) hS.2.2 d_Block_transformLine_102
def y_Block_transform : MethodName := ⟨"TileForge$Block", "transform", "()V"⟩
def ws_Block_transform : List Cond := .code y_Block_transform prog_3_method_10_code 3 none :: GW
theorem mw_216 : (.code ⟨"TileForge$Block", "transform", "()V"⟩ prog_3_method_10_code 3 none : Cond) ∈ GW := List.mem_filter.mpr ⟨(List.mem_append_right _ (List.mem_append_right _ (List.mem_append_left _ (List.mem_of_getElem? (i := 206) rfl)))), rfl⟩
theorem hd_Block_transform : y_Block_transform.cls ≠ "java/lang/invoke/MethodHandle" ∧ y_Block_transform.cls ≠ "java/lang/invoke/VarHandle" ∧ (parseMethodDescriptor y_Block_transform.desc).map (fun d => d.parameters.length) = some 0 := by decide +kernel
theorem d_Block_transform_0 : decode prog_3_method_10_code 0 = .ok (.iconst 0, 1) := by decide +kernel
theorem d_Block_transform_1 : decode prog_3_method_10_code 1 = .ok (.istore_n 1, 1) := by decide +kernel
theorem d_Block_transform_2 : decode prog_3_method_10_code 2 = .ok (.iload_n 1, 1) := by decide +kernel
theorem d_Block_transform_3 : decode prog_3_method_10_code 3 = .ok (.iconst 4, 1) := by decide +kernel
theorem d_Block_transform_4 : decode prog_3_method_10_code 4 = .ok (.if_icmp .ge 27, 3) := by decide +kernel
theorem d_Block_transform_7 : decode prog_3_method_10_code 7 = .ok (.iload_n 1, 1) := by decide +kernel
theorem d_Block_transform_8 : decode prog_3_method_10_code 8 = .ok (.iconst 4, 1) := by decide +kernel
theorem d_Block_transform_9 : decode prog_3_method_10_code 9 = .ok (.imul, 1) := by decide +kernel
theorem d_Block_transform_10 : decode prog_3_method_10_code 10 = .ok (.istore_n 2, 1) := by decide +kernel
theorem d_Block_transform_11 : decode prog_3_method_10_code 11 = .ok (.aload_n 0, 1) := by decide +kernel
theorem d_Block_transform_12 : decode prog_3_method_10_code 12 = .ok (.iload_n 2, 1) := by decide +kernel
theorem d_Block_transform_13 : decode prog_3_method_10_code 13 = .ok (.iload_n 2, 1) := by decide +kernel
theorem d_Block_transform_14 : decode prog_3_method_10_code 14 = .ok (.iconst 1, 1) := by decide +kernel
theorem d_Block_transform_15 : decode prog_3_method_10_code 15 = .ok (.iadd, 1) := by decide +kernel
theorem d_Block_transform_16 : decode prog_3_method_10_code 16 = .ok (.iload_n 2, 1) := by decide +kernel
theorem d_Block_transform_17 : decode prog_3_method_10_code 17 = .ok (.iconst 2, 1) := by decide +kernel
theorem d_Block_transform_18 : decode prog_3_method_10_code 18 = .ok (.iadd, 1) := by decide +kernel
theorem d_Block_transform_19 : decode prog_3_method_10_code 19 = .ok (.iload_n 2, 1) := by decide +kernel
theorem d_Block_transform_20 : decode prog_3_method_10_code 20 = .ok (.iconst 3, 1) := by decide +kernel
theorem d_Block_transform_21 : decode prog_3_method_10_code 21 = .ok (.iadd, 1) := by decide +kernel
theorem d_Block_transform_22 : decode prog_3_method_10_code 22 = .ok (.invokevirtual 72, 3) := by decide +kernel
theorem d_Block_transform_25 : decode prog_3_method_10_code 25 = .ok (.iinc 1 1, 3) := by decide +kernel
theorem d_Block_transform_28 : decode prog_3_method_10_code 28 = .ok (.goto (-26), 3) := by decide +kernel
theorem d_Block_transform_31 : decode prog_3_method_10_code 31 = .ok (.iconst 0, 1) := by decide +kernel
theorem d_Block_transform_32 : decode prog_3_method_10_code 32 = .ok (.istore_n 1, 1) := by decide +kernel
theorem d_Block_transform_33 : decode prog_3_method_10_code 33 = .ok (.iload_n 1, 1) := by decide +kernel
theorem d_Block_transform_34 : decode prog_3_method_10_code 34 = .ok (.iconst 4, 1) := by decide +kernel
theorem d_Block_transform_35 : decode prog_3_method_10_code 35 = .ok (.if_icmp .ge 25, 3) := by decide +kernel
theorem d_Block_transform_38 : decode prog_3_method_10_code 38 = .ok (.aload_n 0, 1) := by decide +kernel
theorem d_Block_transform_39 : decode prog_3_method_10_code 39 = .ok (.iload_n 1, 1) := by decide +kernel
theorem d_Block_transform_40 : decode prog_3_method_10_code 40 = .ok (.iload_n 1, 1) := by decide +kernel
theorem d_Block_transform_41 : decode prog_3_method_10_code 41 = .ok (.iconst 4, 1) := by decide +kernel
theorem d_Block_transform_42 : decode prog_3_method_10_code 42 = .ok (.iadd, 1) := by decide +kernel
theorem d_Block_transform_43 : decode prog_3_method_10_code 43 = .ok (.iload_n 1, 1) := by decide +kernel
theorem d_Block_transform_44 : decode prog_3_method_10_code 44 = .ok (.bipush 8, 2) := by decide +kernel
theorem d_Block_transform_46 : decode prog_3_method_10_code 46 = .ok (.iadd, 1) := by decide +kernel
theorem d_Block_transform_47 : decode prog_3_method_10_code 47 = .ok (.iload_n 1, 1) := by decide +kernel
theorem d_Block_transform_48 : decode prog_3_method_10_code 48 = .ok (.bipush 12, 2) := by decide +kernel
theorem d_Block_transform_50 : decode prog_3_method_10_code 50 = .ok (.iadd, 1) := by decide +kernel
theorem d_Block_transform_51 : decode prog_3_method_10_code 51 = .ok (.invokevirtual 72, 3) := by decide +kernel
theorem d_Block_transform_54 : decode prog_3_method_10_code 54 = .ok (.iinc 1 1, 3) := by decide +kernel
theorem d_Block_transform_57 : decode prog_3_method_10_code 57 = .ok (.goto (-24), 3) := by decide +kernel
theorem d_Block_transform_60 : decode prog_3_method_10_code 60 = .ok (.return_, 1) := by decide +kernel
theorem mw_217 : (.methodLink "TileForge$Block" 72 ⟨"TileForge$Block", "transformLine", "(IIII)V"⟩ : Cond) ∈ GW := List.mem_filter.mpr ⟨(List.mem_append_right _ (List.mem_append_right _ (List.mem_append_left _ (List.mem_of_getElem? (i := 207) rfl)))), rfl⟩
theorem mw_218 : (.instanceMethod ⟨"TileForge$Block", "transformLine", "(IIII)V"⟩ : Cond) ∈ GW := List.mem_filter.mpr ⟨(List.mem_append_right _ (List.mem_append_right _ (List.mem_append_left _ (List.mem_of_getElem? (i := 208) rfl)))), rfl⟩
theorem mw_219 : (.selects "TileForge$Block" ⟨"TileForge$Block", "transformLine", "(IIII)V"⟩ ⟨"TileForge$Block", "transformLine", "(IIII)V"⟩ : Cond) ∈ GW := List.mem_filter.mpr ⟨(List.mem_append_right _ (List.mem_append_right _ (List.mem_append_left _ (List.mem_of_getElem? (i := 209) rfl)))), rfl⟩
def q_bl_trans (cI : ClassId) (b1 : Nat) (b2 : Nat) (b3 : Nat) (b4 : Nat) (b5 : Nat) (b6 : Nat) (ab : Nat → Int32) (lf : Nat → Int32) (fo : Nat → Int32) (lv : Nat → Int32) (wk : Nat → Int32) (vr : Int32) (vc : Int32) (vcr : Int32) : va_W → Prop := fun ww => ww = [(b1, .inr (1, [.ref b2, .ref b3, .ref b4, .ref b5, .ref b6, .int vr, .int vc, .int vcr])), (b2, .inl (cI, 4, .inl ab)), (b3, .inl (cI, 4, .inl lf)), (b4, .inl (cI, 16, .inl fo)), (b5, .inl (cI, 16, .inl lv)), (b6, .inl (cI, 16, .inl (trC (trR wk 4) 4)))]
set_option maxHeartbeats 4000000 in
set_option maxRecDepth 100000 in
theorem c_bl_trans (l : Launch) {D : va_G} {tys : List (ClassId × FieldType)} {cI : ClassId} (hcI : tys[0]? = some (cI, .int)) (b1 : Nat) (b2 : Nat) (b3 : Nat) (b4 : Nat) (b5 : Nat) (b6 : Nat) (ab : Nat → Int32) (lf : Nat → Int32) (fo : Nat → Int32) (lv : Nat → Int32) (wk : Nat → Int32) (vr : Int32) (vc : Int32) (vcr : Int32) : CsV l D vwCl tys y_Block_transform ws_Block_transform ({ frames := 1, cells := 0, slots := 0, locals := 28 } : Room) [.ref b1] [(b1, .inr (1, [.ref b2, .ref b3, .ref b4, .ref b5, .ref b6, .int vr, .int vc, .int vcr])), (b2, .inl (cI, 4, .inl ab)), (b3, .inl (cI, 4, .inl lf)), (b4, .inl (cI, 16, .inl fo)), (b5, .inl (cI, 16, .inl lv)), (b6, .inl (cI, 16, .inl wk))] (q_bl_trans cI b1 b2 b3 b4 b5 b6 ab lf fo lv wk vr vc vcr) 0 0 := by
  intro sz
  refine Met.ofW (cc := prog_3_method_10_code) (maxL := 3) (ret := none) (by decide) rfl ?_
  intro p e s m args below meth c s₁ B hml hv
  obtain ⟨rfl, hsz, hP, hK, hD0, hN⟩ := hv
  have hx := B.exec
  have hb := B.bytes
  have hr := B.returns
  have hts := atoms_spec (ws := ws_Block_transform) B.pre
  have hown : s.vm.findClass "TileForge$Block" = some m.cls := findClass_of_methodNamed B.named
  have hlocks := B.notSynchronized
  subst hsz
  have hD := hD0.self (sz := s.heap.size)
  generalize hAe : va_A [(b1, .inr (1, [.ref b2, .ref b3, .ref b4, .ref b5, .ref b6, .int vr, .int vc, .int vcr])), (b2, .inl (cI, 4, .inl ab)), (b3, .inl (cI, 4, .inl lf)), (b4, .inl (cI, 16, .inl fo)), (b5, .inl (cI, 16, .inl lv)), (b6, .inl (cI, 16, .inl wk))] s.heap.size = A at hD ⊢
  have hA : ∀ q : Nat, s.heap.size ≤ q → A q := fun q h => by rw [← hAe]; exact Or.inr h
  have hS : va_S A s.heap s.heap [] := va_S.rf
  have hP : va_P D vwCl [(b1, .inr (1, [.ref b2, .ref b3, .ref b4, .ref b5, .ref b6, .int vr, .int vc, .int vcr])), (b2, .inl (cI, 4, .inl ab)), (b3, .inl (cI, 4, .inl lf)), (b4, .inl (cI, 16, .inl fo)), (b5, .inl (cI, 16, .inl lv)), (b6, .inl (cI, 16, .inl wk))] s.heap := hP
  have hl := lv_entry ([.ref b1]) (n := 3) (Nat.le_of_ble_eq_true rfl)
  rw [lg_entry_eq]
  generalize (lg_sl ([.ref b1]) ++ List.replicate (3 - (lg_sl ([.ref b1])).length) Slot.unset).toArray = ls at hl ⊢
  have hl : lv_has ls 3 [(0, .ref b1)] := hl
  refine lv_iconst (v := 0) hx hb d_Block_transform_0 (by decide) ?_
  refine lv_istore_n (lv' := [(1, .int 0), (0, .ref b1)]) hx hb d_Block_transform_1 rfl hl (by decide) rfl (fun ls hl => ?_)
  have lp2 : ∀ (n : Nat) (k : Nat), (5 ≤ k + n) → (k ≤ 4) → ∀ (H : Heap) (locs : List Loc) (ls : Array Slot), va_P D vwCl [(b1, .inr (1, [.ref b2, .ref b3, .ref b4, .ref b5, .ref b6, .int vr, .int vc, .int vcr])), (b2, .inl (cI, 4, .inl ab)), (b3, .inl (cI, 4, .inl lf)), (b4, .inl (cI, 16, .inl fo)), (b5, .inl (cI, 16, .inl lv)), (b6, .inl (cI, 16, .inl (trR wk k)))] H → va_D A [(b1, .inr (1, [.ref b2, .ref b3, .ref b4, .ref b5, .ref b6, .int vr, .int vc, .int vcr])), (b2, .inl (cI, 4, .inl ab)), (b3, .inl (cI, 4, .inl lf)), (b4, .inl (cI, 16, .inl fo)), (b5, .inl (cI, 16, .inl lv)), (b6, .inl (cI, 16, .inl (trR wk k)))] → va_S A s.heap H locs → lv_has ls 3 [(0, .ref b1), (1, .int (nI k))] → W p l e ({ frames := 1, cells := 0, slots := 0, locals := 28 } : Room) s m ([.ref b1] : List Value).toArray below meth c H locs 0 0 (MQ below (va_Qv (q_bl_trans cI b1 b2 b3 b4 b5 b6 ab lf fo lv wk vr vc vcr) (cs_B D vwCl tys A) A) ([.ref b1] : List Value).toArray s 0 0 A) (F0 m 2 ls []) := by
    intro n
    induction n with
    | zero =>
      intro k hf hk
      exact absurd hf (by omega)
    | succ n ih2 =>
      intro k hf hk H locs ls hP hD hS hl
      refine lv_iload_n hx hb d_Block_transform_2 rfl (lv_at hl 1 rfl) ?_
      refine lv_iconst (v := 4) hx hb d_Block_transform_3 (by decide) ?_
      refine lv_icmp_ge (tgt := 31) hx hb d_Block_transform_4 (by decide) (fun c_4 => ?_) (fun c_4 => ?_)
      · have hk2 := (nI_leI (a := 4) (b := k) (by decide) (by omega)).mp c_4
        have hk3 : k = 4 := by omega
        subst hk3
        refine lv_iconst (v := 0) hx hb d_Block_transform_31 (by decide) ?_
        refine lv_istore_n (lv' := [(1, .int 0), (0, .ref b1)]) hx hb d_Block_transform_32 rfl hl (by decide) rfl (fun ls hl => ?_)
        have lp33 : ∀ (n : Nat) (k : Nat), (5 ≤ k + n) → (k ≤ 4) → ∀ (H : Heap) (locs : List Loc) (ls : Array Slot), va_P D vwCl [(b1, .inr (1, [.ref b2, .ref b3, .ref b4, .ref b5, .ref b6, .int vr, .int vc, .int vcr])), (b2, .inl (cI, 4, .inl ab)), (b3, .inl (cI, 4, .inl lf)), (b4, .inl (cI, 16, .inl fo)), (b5, .inl (cI, 16, .inl lv)), (b6, .inl (cI, 16, .inl (trC (trR wk 4) k)))] H → va_D A [(b1, .inr (1, [.ref b2, .ref b3, .ref b4, .ref b5, .ref b6, .int vr, .int vc, .int vcr])), (b2, .inl (cI, 4, .inl ab)), (b3, .inl (cI, 4, .inl lf)), (b4, .inl (cI, 16, .inl fo)), (b5, .inl (cI, 16, .inl lv)), (b6, .inl (cI, 16, .inl (trC (trR wk 4) k)))] → va_S A s.heap H locs → lv_has ls 3 [(0, .ref b1), (1, .int (nI k))] → W p l e ({ frames := 1, cells := 0, slots := 0, locals := 28 } : Room) s m ([.ref b1] : List Value).toArray below meth c H locs 0 0 (MQ below (va_Qv (q_bl_trans cI b1 b2 b3 b4 b5 b6 ab lf fo lv wk vr vc vcr) (cs_B D vwCl tys A) A) ([.ref b1] : List Value).toArray s 0 0 A) (F0 m 33 ls []) := by
          intro n
          induction n with
          | zero =>
            intro k hf hk
            exact absurd hf (by omega)
          | succ n ih33 =>
            intro k hf hk H locs ls hP hD hS hl
            refine lv_iload_n hx hb d_Block_transform_33 rfl (lv_at hl 1 rfl) ?_
            refine lv_iconst (v := 4) hx hb d_Block_transform_34 (by decide) ?_
            refine lv_icmp_ge (tgt := 60) hx hb d_Block_transform_35 (by decide) (fun c_35 => ?_) (fun c_35 => ?_)
            · have hk2 := (nI_leI (a := 4) (b := k) (by decide) (by omega)).mp c_35
              have hk3 : k = 4 := by omega
              subst hk3
              exact W.vret hx hb hr (fun t ht hW => ⟨⟨[(b1, .inr (1, [.ref b2, .ref b3, .ref b4, .ref b5, .ref b6, .int vr, .int vc, .int vcr])), (b2, .inl (cI, 4, .inl ab)), (b3, .inl (cI, 4, .inl lf)), (b4, .inl (cI, 16, .inl fo)), (b5, .inl (cI, 16, .inl lv)), (b6, .inl (cI, 16, .inl (trC (trR wk 4) 4)))], rfl, (show _ = _ from (rfl)), by rw [ht]; exact hP, va_K.moved hW.alike hK, hD⟩, hS.F ht⟩) hS.2.2 d_Block_transform_60
            · have hk2 : k < 4 := Nat.not_le.mp (fun h => c_35 ((nI_leI (a := 4) (b := k) (by decide) (by omega)).mpr h))
              refine lv_aload_n hx hb d_Block_transform_38 rfl (lv_at hl 0 rfl) ?_
              refine lv_iload_n hx hb d_Block_transform_39 rfl (lv_at hl 1 rfl) ?_
              refine lv_iload_n hx hb d_Block_transform_40 rfl (lv_at hl 1 rfl) ?_
              refine lv_iconst (v := 4) hx hb d_Block_transform_41 (by decide) ?_
              refine lv_iadd hx hb d_Block_transform_42 ?_
              refine cs_top (y := nI (k + 4)) (nI_add k 4) ?_
              refine lv_iload_n hx hb d_Block_transform_43 rfl (lv_at hl 1 rfl) ?_
              refine lv_bipush (v := 8) hx hb d_Block_transform_44 (by decide) ?_
              refine lv_iadd hx hb d_Block_transform_46 ?_
              refine cs_top (y := nI (k + 8)) (nI_add k 8) ?_
              refine lv_iload_n hx hb d_Block_transform_47 rfl (lv_at hl 1 rfl) ?_
              refine lv_bipush (v := 12) hx hb d_Block_transform_48 (by decide) ?_
              refine lv_iadd hx hb d_Block_transform_50 ?_
              refine cs_top (y := nI (k + 12)) (nI_add k 12) ?_
              refine cs_Vv (As := [.int (nI k), .int (nI (k + 4)), .int (nI (k + 8)), .int (nI (k + 12))]) (rest := []) (wr := []) ⟨hx, hb, hml, hown, hts⟩ (c_bl_line l hcI b1 b2 b3 b4 b5 b6 ab lf fo lv (trC (trR wk 4) k) vr vc vcr k (k + 4) (k + 8) (k + 12) (by omega) (by omega) (by omega) (by omega)) (cwV 4 hts (cs_gV mw_217 mw_218 mw_219 mw_199 mw_215) rfl rfl rfl ⟨rfl, hd_Block_transformLine⟩ ⟨Nat.le_of_ble_eq_true rfl, Nat.le_of_ble_eq_true rfl⟩) hN hK hP hD hS hA [0, 1, 2, 3, 4, 5] [] rfl rfl rfl rfl (by decide) (ci := 1) rfl rfl rfl rfl rfl hl.1 (Nat.le_of_ble_eq_true rfl) d_Block_transform_51 ⟨Nat.le_of_ble_eq_true rfl, Nat.le_of_ble_eq_true rfl⟩ (fun w1 H locs hw hP hD hS => ?_)
              obtain rfl := hw
              have hP : va_P D vwCl [(b1, .inr (1, [.ref b2, .ref b3, .ref b4, .ref b5, .ref b6, .int vr, .int vc, .int vcr])), (b2, .inl (cI, 4, .inl ab)), (b3, .inl (cI, 4, .inl lf)), (b4, .inl (cI, 16, .inl fo)), (b5, .inl (cI, 16, .inl lv)), (b6, .inl (cI, 16, .inl (trL (trC (trR wk 4) k) k (k + 4) (k + 8) (k + 12))))] H := hP
              have hD : va_D A [(b1, .inr (1, [.ref b2, .ref b3, .ref b4, .ref b5, .ref b6, .int vr, .int vc, .int vcr])), (b2, .inl (cI, 4, .inl ab)), (b3, .inl (cI, 4, .inl lf)), (b4, .inl (cI, 16, .inl fo)), (b5, .inl (cI, 16, .inl lv)), (b6, .inl (cI, 16, .inl (trL (trC (trR wk 4) k) k (k + 4) (k + 8) (k + 12))))] := hD
              refine lv_iinc (v := nI (k + 1)) (lv' := [(1, .int (nI (k + 1))), (0, .ref b1)]) hx hb d_Block_transform_54 hl (k := 1) rfl (nI_1 _) (by decide) rfl (fun ls hl => ?_)
              refine lv_goto (tgt := 33) hx hb d_Block_transform_57 (by decide) ?_
              exact ih33 (k + 1) (by omega) (by omega) _ _ _ (hP.sub (ws' := [(b1, .inr (1, [.ref b2, .ref b3, .ref b4, .ref b5, .ref b6, .int vr, .int vc, .int vcr])), (b2, .inl (cI, 4, .inl ab)), (b3, .inl (cI, 4, .inl lf)), (b4, .inl (cI, 16, .inl fo)), (b5, .inl (cI, 16, .inl lv)), (b6, .inl (cI, 16, .inl (trC (trR wk 4) (k + 1))))]) [0, 1, 2, 3, 4, 5] rfl) (hD.sub (ws' := [(b1, .inr (1, [.ref b2, .ref b3, .ref b4, .ref b5, .ref b6, .int vr, .int vc, .int vcr])), (b2, .inl (cI, 4, .inl ab)), (b3, .inl (cI, 4, .inl lf)), (b4, .inl (cI, 16, .inl fo)), (b5, .inl (cI, 16, .inl lv)), (b6, .inl (cI, 16, .inl (trC (trR wk 4) (k + 1))))]) [0, 1, 2, 3, 4, 5] (by decide) rfl) hS (lv_sub hl [1, 0] rfl)
        exact lp33 (5) 0 (by omega) (by omega) _ _ _ (hP.sub (ws' := [(b1, .inr (1, [.ref b2, .ref b3, .ref b4, .ref b5, .ref b6, .int vr, .int vc, .int vcr])), (b2, .inl (cI, 4, .inl ab)), (b3, .inl (cI, 4, .inl lf)), (b4, .inl (cI, 16, .inl fo)), (b5, .inl (cI, 16, .inl lv)), (b6, .inl (cI, 16, .inl (trC (trR wk 4) 0)))]) [0, 1, 2, 3, 4, 5] rfl) (hD.sub (ws' := [(b1, .inr (1, [.ref b2, .ref b3, .ref b4, .ref b5, .ref b6, .int vr, .int vc, .int vcr])), (b2, .inl (cI, 4, .inl ab)), (b3, .inl (cI, 4, .inl lf)), (b4, .inl (cI, 16, .inl fo)), (b5, .inl (cI, 16, .inl lv)), (b6, .inl (cI, 16, .inl (trC (trR wk 4) 0)))]) [0, 1, 2, 3, 4, 5] (by decide) rfl) hS (lv_sub hl [1, 0] rfl)
      · have hk2 : k < 4 := Nat.not_le.mp (fun h => c_4 ((nI_leI (a := 4) (b := k) (by decide) (by omega)).mpr h))
        refine lv_iload_n hx hb d_Block_transform_7 rfl (lv_at hl 1 rfl) ?_
        refine lv_iconst (v := 4) hx hb d_Block_transform_8 (by decide) ?_
        refine lv_imul hx hb d_Block_transform_9 ?_
        refine cs_top (y := nI (k * 4)) (pk_mul k 4) ?_
        refine lv_istore_n (lv' := [(2, .int (nI (k * 4))), (0, .ref b1), (1, .int (nI k))]) hx hb d_Block_transform_10 rfl hl (by decide) rfl (fun ls hl => ?_)
        refine lv_aload_n hx hb d_Block_transform_11 rfl (lv_at hl 1 rfl) ?_
        refine lv_iload_n hx hb d_Block_transform_12 rfl (lv_at hl 0 rfl) ?_
        refine lv_iload_n hx hb d_Block_transform_13 rfl (lv_at hl 0 rfl) ?_
        refine lv_iconst (v := 1) hx hb d_Block_transform_14 (by decide) ?_
        refine lv_iadd hx hb d_Block_transform_15 ?_
        refine cs_top (y := nI (k * 4 + 1)) (nI_add (k * 4) 1) ?_
        refine lv_iload_n hx hb d_Block_transform_16 rfl (lv_at hl 0 rfl) ?_
        refine lv_iconst (v := 2) hx hb d_Block_transform_17 (by decide) ?_
        refine lv_iadd hx hb d_Block_transform_18 ?_
        refine cs_top (y := nI (k * 4 + 2)) (nI_add (k * 4) 2) ?_
        refine lv_iload_n hx hb d_Block_transform_19 rfl (lv_at hl 0 rfl) ?_
        refine lv_iconst (v := 3) hx hb d_Block_transform_20 (by decide) ?_
        refine lv_iadd hx hb d_Block_transform_21 ?_
        refine cs_top (y := nI (k * 4 + 3)) (nI_add (k * 4) 3) ?_
        refine cs_Vv (As := [.int (nI (k * 4)), .int (nI (k * 4 + 1)), .int (nI (k * 4 + 2)), .int (nI (k * 4 + 3))]) (rest := []) (wr := []) ⟨hx, hb, hml, hown, hts⟩ (c_bl_line l hcI b1 b2 b3 b4 b5 b6 ab lf fo lv (trR wk k) vr vc vcr (k * 4) (k * 4 + 1) (k * 4 + 2) (k * 4 + 3) (by omega) (by omega) (by omega) (by omega)) (cwV 4 hts (cs_gV mw_217 mw_218 mw_219 mw_199 mw_215) rfl rfl rfl ⟨rfl, hd_Block_transformLine⟩ ⟨Nat.le_of_ble_eq_true rfl, Nat.le_of_ble_eq_true rfl⟩) hN hK hP hD hS hA [0, 1, 2, 3, 4, 5] [] rfl rfl rfl rfl (by decide) (ci := 1) rfl rfl rfl rfl rfl hl.1 (Nat.le_of_ble_eq_true rfl) d_Block_transform_22 ⟨Nat.le_of_ble_eq_true rfl, Nat.le_of_ble_eq_true rfl⟩ (fun w1 H locs hw hP hD hS => ?_)
        obtain rfl := hw
        have hP : va_P D vwCl [(b1, .inr (1, [.ref b2, .ref b3, .ref b4, .ref b5, .ref b6, .int vr, .int vc, .int vcr])), (b2, .inl (cI, 4, .inl ab)), (b3, .inl (cI, 4, .inl lf)), (b4, .inl (cI, 16, .inl fo)), (b5, .inl (cI, 16, .inl lv)), (b6, .inl (cI, 16, .inl (trL (trR wk k) (k * 4) (k * 4 + 1) (k * 4 + 2) (k * 4 + 3))))] H := hP
        have hD : va_D A [(b1, .inr (1, [.ref b2, .ref b3, .ref b4, .ref b5, .ref b6, .int vr, .int vc, .int vcr])), (b2, .inl (cI, 4, .inl ab)), (b3, .inl (cI, 4, .inl lf)), (b4, .inl (cI, 16, .inl fo)), (b5, .inl (cI, 16, .inl lv)), (b6, .inl (cI, 16, .inl (trL (trR wk k) (k * 4) (k * 4 + 1) (k * 4 + 2) (k * 4 + 3))))] := hD
        refine lv_iinc (v := nI (k + 1)) (lv' := [(1, .int (nI (k + 1))), (2, .int (nI (k * 4))), (0, .ref b1)]) hx hb d_Block_transform_25 hl (k := 2) rfl (nI_1 _) (by decide) rfl (fun ls hl => ?_)
        refine lv_goto (tgt := 2) hx hb d_Block_transform_28 (by decide) ?_
        exact ih2 (k + 1) (by omega) (by omega) _ _ _ (hP.sub (ws' := [(b1, .inr (1, [.ref b2, .ref b3, .ref b4, .ref b5, .ref b6, .int vr, .int vc, .int vcr])), (b2, .inl (cI, 4, .inl ab)), (b3, .inl (cI, 4, .inl lf)), (b4, .inl (cI, 16, .inl fo)), (b5, .inl (cI, 16, .inl lv)), (b6, .inl (cI, 16, .inl (trR wk (k + 1))))]) [0, 1, 2, 3, 4, 5] rfl) (hD.sub (ws' := [(b1, .inr (1, [.ref b2, .ref b3, .ref b4, .ref b5, .ref b6, .int vr, .int vc, .int vcr])), (b2, .inl (cI, 4, .inl ab)), (b3, .inl (cI, 4, .inl lf)), (b4, .inl (cI, 16, .inl fo)), (b5, .inl (cI, 16, .inl lv)), (b6, .inl (cI, 16, .inl (trR wk (k + 1))))]) [0, 1, 2, 3, 4, 5] (by decide) rfl) hS (lv_sub hl [2, 0] rfl)
  exact lp2 (5) 0 (by omega) (by omega) _ _ _ (hP.sub (ws' := [(b1, .inr (1, [.ref b2, .ref b3, .ref b4, .ref b5, .ref b6, .int vr, .int vc, .int vcr])), (b2, .inl (cI, 4, .inl ab)), (b3, .inl (cI, 4, .inl lf)), (b4, .inl (cI, 16, .inl fo)), (b5, .inl (cI, 16, .inl lv)), (b6, .inl (cI, 16, .inl (trR wk 0)))]) [0, 1, 2, 3, 4, 5] rfl) (hD.sub (ws' := [(b1, .inr (1, [.ref b2, .ref b3, .ref b4, .ref b5, .ref b6, .int vr, .int vc, .int vcr])), (b2, .inl (cI, 4, .inl ab)), (b3, .inl (cI, 4, .inl lf)), (b4, .inl (cI, 16, .inl fo)), (b5, .inl (cI, 16, .inl lv)), (b6, .inl (cI, 16, .inl (trR wk 0)))]) [0, 1, 2, 3, 4, 5] (by decide) rfl) hS (lv_sub hl [1, 0] rfl)
def y_Block_levelsUpToLast : MethodName := ⟨"TileForge$Block", "levelsUpToLast", "()I"⟩
def ws_Block_levelsUpToLast : List Cond := .code y_Block_levelsUpToLast prog_3_method_9_code 3 (some .int) :: GW
theorem mw_220 : (.code ⟨"TileForge$Block", "levelsUpToLast", "()I"⟩ prog_3_method_9_code 3 (some .int) : Cond) ∈ GW := List.mem_filter.mpr ⟨(List.mem_append_right _ (List.mem_append_right _ (List.mem_append_left _ (List.mem_of_getElem? (i := 218) rfl)))), rfl⟩
theorem hd_Block_levelsUpToLast : y_Block_levelsUpToLast.cls ≠ "java/lang/invoke/MethodHandle" ∧ y_Block_levelsUpToLast.cls ≠ "java/lang/invoke/VarHandle" ∧ (parseMethodDescriptor y_Block_levelsUpToLast.desc).map (fun d => d.parameters.length) = some 0 := by decide +kernel
theorem d_Block_levelsUpToLast_0 : decode prog_3_method_9_code 0 = .ok (.iconst 0, 1) := by decide +kernel
theorem d_Block_levelsUpToLast_1 : decode prog_3_method_9_code 1 = .ok (.istore_n 1, 1) := by decide +kernel
theorem d_Block_levelsUpToLast_2 : decode prog_3_method_9_code 2 = .ok (.iconst 0, 1) := by decide +kernel
theorem d_Block_levelsUpToLast_3 : decode prog_3_method_9_code 3 = .ok (.istore_n 2, 1) := by decide +kernel
theorem d_Block_levelsUpToLast_4 : decode prog_3_method_9_code 4 = .ok (.iload_n 2, 1) := by decide +kernel
theorem d_Block_levelsUpToLast_5 : decode prog_3_method_9_code 5 = .ok (.bipush 16, 2) := by decide +kernel
theorem d_Block_levelsUpToLast_7 : decode prog_3_method_9_code 7 = .ok (.if_icmp .ge 22, 3) := by decide +kernel
theorem d_Block_levelsUpToLast_10 : decode prog_3_method_9_code 10 = .ok (.aload_n 0, 1) := by decide +kernel
theorem d_Block_levelsUpToLast_11 : decode prog_3_method_9_code 11 = .ok (.getfield 21, 3) := by decide +kernel
theorem d_Block_levelsUpToLast_14 : decode prog_3_method_9_code 14 = .ok (.iload_n 2, 1) := by decide +kernel
theorem d_Block_levelsUpToLast_15 : decode prog_3_method_9_code 15 = .ok (.iaload, 1) := by decide +kernel
theorem d_Block_levelsUpToLast_16 : decode prog_3_method_9_code 16 = .ok (.ifCond .eq 7, 3) := by decide +kernel
theorem d_Block_levelsUpToLast_19 : decode prog_3_method_9_code 19 = .ok (.iload_n 2, 1) := by decide +kernel
theorem d_Block_levelsUpToLast_20 : decode prog_3_method_9_code 20 = .ok (.iconst 1, 1) := by decide +kernel
theorem d_Block_levelsUpToLast_21 : decode prog_3_method_9_code 21 = .ok (.iadd, 1) := by decide +kernel
theorem d_Block_levelsUpToLast_22 : decode prog_3_method_9_code 22 = .ok (.istore_n 1, 1) := by decide +kernel
theorem d_Block_levelsUpToLast_23 : decode prog_3_method_9_code 23 = .ok (.iinc 2 1, 3) := by decide +kernel
theorem d_Block_levelsUpToLast_26 : decode prog_3_method_9_code 26 = .ok (.goto (-22), 3) := by decide +kernel
theorem d_Block_levelsUpToLast_29 : decode prog_3_method_9_code 29 = .ok (.iload_n 1, 1) := by decide +kernel
theorem d_Block_levelsUpToLast_30 : decode prog_3_method_9_code 30 = .ok (.ireturn, 1) := by decide +kernel
def q_bl_upto (cI : ClassId) (b1 : Nat) (b2 : Nat) (b3 : Nat) (b4 : Nat) (b5 : Nat) (b6 : Nat) (ab : Nat → Int32) (lf : Nat → Int32) (fo : Nat → Int32) (lv : Nat → Int32) (wk : Nat → Int32) (vr : Int32) (vc : Int32) (vcr : Int32) : Int32 → va_W → Prop := fun rr ww => rr = (nI (upTo lv 16)) ∧ ww = [(b1, .inr (1, [.ref b2, .ref b3, .ref b4, .ref b5, .ref b6, .int vr, .int vc, .int vcr])), (b2, .inl (cI, 4, .inl ab)), (b3, .inl (cI, 4, .inl lf)), (b4, .inl (cI, 16, .inl fo)), (b5, .inl (cI, 16, .inl lv)), (b6, .inl (cI, 16, .inl wk))]
set_option maxHeartbeats 4000000 in
set_option maxRecDepth 100000 in
theorem c_bl_upto (l : Launch) {D : va_G} {tys : List (ClassId × FieldType)} {cI : ClassId} (hcI : tys[0]? = some (cI, .int)) (b1 : Nat) (b2 : Nat) (b3 : Nat) (b4 : Nat) (b5 : Nat) (b6 : Nat) (ab : Nat → Int32) (lf : Nat → Int32) (fo : Nat → Int32) (lv : Nat → Int32) (wk : Nat → Int32) (vr : Int32) (vc : Int32) (vcr : Int32) : CsI l D vwCl tys y_Block_levelsUpToLast ws_Block_levelsUpToLast ({ frames := 0, cells := 0, slots := 0, locals := 0 } : Room) [.ref b1] [(b1, .inr (1, [.ref b2, .ref b3, .ref b4, .ref b5, .ref b6, .int vr, .int vc, .int vcr])), (b2, .inl (cI, 4, .inl ab)), (b3, .inl (cI, 4, .inl lf)), (b4, .inl (cI, 16, .inl fo)), (b5, .inl (cI, 16, .inl lv)), (b6, .inl (cI, 16, .inl wk))] (q_bl_upto cI b1 b2 b3 b4 b5 b6 ab lf fo lv wk vr vc vcr) 0 0 := by
  intro sz
  refine Met.ofW (cc := prog_3_method_9_code) (maxL := 3) (ret := (some .int)) (by decide) rfl ?_
  intro p e s m args below meth c s₁ B hml hv
  obtain ⟨rfl, hsz, hP, hK, hD0, hN⟩ := hv
  have hx := B.exec
  have hb := B.bytes
  have hr := B.returns
  have hts := atoms_spec (ws := ws_Block_levelsUpToLast) B.pre
  have hown : s.vm.findClass "TileForge$Block" = some m.cls := findClass_of_methodNamed B.named
  have hlocks := B.notSynchronized
  subst hsz
  have hD := hD0.self (sz := s.heap.size)
  generalize hAe : va_A [(b1, .inr (1, [.ref b2, .ref b3, .ref b4, .ref b5, .ref b6, .int vr, .int vc, .int vcr])), (b2, .inl (cI, 4, .inl ab)), (b3, .inl (cI, 4, .inl lf)), (b4, .inl (cI, 16, .inl fo)), (b5, .inl (cI, 16, .inl lv)), (b6, .inl (cI, 16, .inl wk))] s.heap.size = A at hD ⊢
  have hA : ∀ q : Nat, s.heap.size ≤ q → A q := fun q h => by rw [← hAe]; exact Or.inr h
  have hS : va_S A s.heap s.heap [] := va_S.rf
  have hP : va_P D vwCl [(b1, .inr (1, [.ref b2, .ref b3, .ref b4, .ref b5, .ref b6, .int vr, .int vc, .int vcr])), (b2, .inl (cI, 4, .inl ab)), (b3, .inl (cI, 4, .inl lf)), (b4, .inl (cI, 16, .inl fo)), (b5, .inl (cI, 16, .inl lv)), (b6, .inl (cI, 16, .inl wk))] s.heap := hP
  have hl := lv_entry ([.ref b1]) (n := 3) (Nat.le_of_ble_eq_true rfl)
  rw [lg_entry_eq]
  generalize (lg_sl ([.ref b1]) ++ List.replicate (3 - (lg_sl ([.ref b1])).length) Slot.unset).toArray = ls at hl ⊢
  have hl : lv_has ls 3 [(0, .ref b1)] := hl
  refine lv_iconst (v := 0) hx hb d_Block_levelsUpToLast_0 (by decide) ?_
  refine lv_istore_n (lv' := [(1, .int 0), (0, .ref b1)]) hx hb d_Block_levelsUpToLast_1 rfl hl (by decide) rfl (fun ls hl => ?_)
  refine lv_iconst (v := 0) hx hb d_Block_levelsUpToLast_2 (by decide) ?_
  refine lv_istore_n (lv' := [(2, .int 0), (1, .int 0), (0, .ref b1)]) hx hb d_Block_levelsUpToLast_3 rfl hl (by decide) rfl (fun ls hl => ?_)
  have lp4 : ∀ (n : Nat) (k : Nat) (z : Nat), (17 ≤ k + n) → (k ≤ 16) → (z = upTo lv k) → ∀ (H : Heap) (locs : List Loc) (ls : Array Slot), va_P D vwCl [(b1, .inr (1, [.ref b2, .ref b3, .ref b4, .ref b5, .ref b6, .int vr, .int vc, .int vcr])), (b2, .inl (cI, 4, .inl ab)), (b3, .inl (cI, 4, .inl lf)), (b4, .inl (cI, 16, .inl fo)), (b5, .inl (cI, 16, .inl lv)), (b6, .inl (cI, 16, .inl wk))] H → va_D A [(b1, .inr (1, [.ref b2, .ref b3, .ref b4, .ref b5, .ref b6, .int vr, .int vc, .int vcr])), (b2, .inl (cI, 4, .inl ab)), (b3, .inl (cI, 4, .inl lf)), (b4, .inl (cI, 16, .inl fo)), (b5, .inl (cI, 16, .inl lv)), (b6, .inl (cI, 16, .inl wk))] → va_S A s.heap H locs → lv_has ls 3 [(0, .ref b1), (1, .int (nI z)), (2, .int (nI k))] → W p l e ({ frames := 0, cells := 0, slots := 0, locals := 0 } : Room) s m ([.ref b1] : List Value).toArray below meth c H locs 0 0 (MQ below (va_Qi (q_bl_upto cI b1 b2 b3 b4 b5 b6 ab lf fo lv wk vr vc vcr) (cs_B D vwCl tys A) A) ([.ref b1] : List Value).toArray s 0 0 A) (F0 m 4 ls []) := by
    intro n
    induction n with
    | zero =>
      intro k z hf hk hz
      exact absurd hf (by omega)
    | succ n ih4 =>
      intro k z hf hk hz H locs ls hP hD hS hl
      refine lv_iload_n hx hb d_Block_levelsUpToLast_4 rfl (lv_at hl 2 rfl) ?_
      refine lv_bipush (v := 16) hx hb d_Block_levelsUpToLast_5 (by decide) ?_
      refine lv_icmp_ge (tgt := 29) hx hb d_Block_levelsUpToLast_7 (by decide) (fun c_7 => ?_) (fun c_7 => ?_)
      · have hk2 := (nI_leI (a := 16) (b := k) (by decide) (by omega)).mp c_7
        have hk3 : k = 16 := by omega
        subst hk3
        refine lv_iload_n hx hb d_Block_levelsUpToLast_29 rfl (lv_at hl 1 rfl) ?_
        exact W.iret (v := (nI z)) hx hb hr (fun t ht hW => ⟨⟨(nI z), [(b1, .inr (1, [.ref b2, .ref b3, .ref b4, .ref b5, .ref b6, .int vr, .int vc, .int vcr])), (b2, .inl (cI, 4, .inl ab)), (b3, .inl (cI, 4, .inl lf)), (b4, .inl (cI, 16, .inl fo)), (b5, .inl (cI, 16, .inl lv)), (b6, .inl (cI, 16, .inl wk))], rfl, ⟨(by rw [hz]), (rfl)⟩, by rw [ht]; exact hP, va_K.moved hW.alike hK, hD⟩, hS.F ht⟩) hS.2.2 d_Block_levelsUpToLast_30
      · have hk2 : k < 16 := Nat.not_le.mp (fun h => c_7 ((nI_leI (a := 16) (b := k) (by decide) (by omega)).mpr h))
        refine lv_aload_n hx hb d_Block_levelsUpToLast_10 rfl (lv_at hl 0 rfl) ?_
        refine va_get (D := D) (ci := 1) (v := .ref b5) (C := "TileForge$Block") (T := T_Block) (N := 8) hx hb hts (cs_in in_Block) hown hK hP 0 rfl rfl 3 (by decide) (hts _ (cs_m mw_188)) (fun _ h9 => h9) rfl d_Block_levelsUpToLast_11 ?_
        refine lv_iload_n hx hb d_Block_levelsUpToLast_14 rfl (lv_at hl 2 rfl) ?_
        refine cs_iald (j := k) hx hb hK hcI hP 4 rfl (rfl) (hk2) (by decide) d_Block_levelsUpToLast_15 ?_
        refine lv_if_eq (tgt := 23) hx hb d_Block_levelsUpToLast_16 (by decide) (fun c_16 => ?_) (fun c_16 => ?_)
        · refine lv_iinc (v := nI (k + 1)) (lv' := [(2, .int (nI (k + 1))), (0, .ref b1), (1, .int (nI z))]) hx hb d_Block_levelsUpToLast_23 hl (k := 2) rfl (nI_1 _) (by decide) rfl (fun ls hl => ?_)
          refine lv_goto (tgt := 4) hx hb d_Block_levelsUpToLast_26 (by decide) ?_
          exact ih4 (k + 1) z (by omega) (by omega) (by rw [upTo, if_pos c_16]; exact hz) _ _ _ (hP.sub (ws' := [(b1, .inr (1, [.ref b2, .ref b3, .ref b4, .ref b5, .ref b6, .int vr, .int vc, .int vcr])), (b2, .inl (cI, 4, .inl ab)), (b3, .inl (cI, 4, .inl lf)), (b4, .inl (cI, 16, .inl fo)), (b5, .inl (cI, 16, .inl lv)), (b6, .inl (cI, 16, .inl wk))]) [0, 1, 2, 3, 4, 5] rfl) (hD.sub (ws' := [(b1, .inr (1, [.ref b2, .ref b3, .ref b4, .ref b5, .ref b6, .int vr, .int vc, .int vcr])), (b2, .inl (cI, 4, .inl ab)), (b3, .inl (cI, 4, .inl lf)), (b4, .inl (cI, 16, .inl fo)), (b5, .inl (cI, 16, .inl lv)), (b6, .inl (cI, 16, .inl wk))]) [0, 1, 2, 3, 4, 5] (by decide) rfl) hS (lv_sub hl [1, 2, 0] rfl)
        · refine lv_iload_n hx hb d_Block_levelsUpToLast_19 rfl (lv_at hl 2 rfl) ?_
          refine lv_iconst (v := 1) hx hb d_Block_levelsUpToLast_20 (by decide) ?_
          refine lv_iadd hx hb d_Block_levelsUpToLast_21 ?_
          refine cs_top (y := nI (k + 1)) (nI_1 k) ?_
          refine lv_istore_n (lv' := [(1, .int (nI (k + 1))), (0, .ref b1), (2, .int (nI k))]) hx hb d_Block_levelsUpToLast_22 rfl hl (by decide) rfl (fun ls hl => ?_)
          refine lv_iinc (v := nI (k + 1)) (lv' := [(2, .int (nI (k + 1))), (1, .int (nI (k + 1))), (0, .ref b1)]) hx hb d_Block_levelsUpToLast_23 hl (k := 2) rfl (nI_1 _) (by decide) rfl (fun ls hl => ?_)
          refine lv_goto (tgt := 4) hx hb d_Block_levelsUpToLast_26 (by decide) ?_
          exact ih4 (k + 1) (k + 1) (by omega) (by omega) (by rw [upTo, if_neg c_16]) _ _ _ (hP.sub (ws' := [(b1, .inr (1, [.ref b2, .ref b3, .ref b4, .ref b5, .ref b6, .int vr, .int vc, .int vcr])), (b2, .inl (cI, 4, .inl ab)), (b3, .inl (cI, 4, .inl lf)), (b4, .inl (cI, 16, .inl fo)), (b5, .inl (cI, 16, .inl lv)), (b6, .inl (cI, 16, .inl wk))]) [0, 1, 2, 3, 4, 5] rfl) (hD.sub (ws' := [(b1, .inr (1, [.ref b2, .ref b3, .ref b4, .ref b5, .ref b6, .int vr, .int vc, .int vcr])), (b2, .inl (cI, 4, .inl ab)), (b3, .inl (cI, 4, .inl lf)), (b4, .inl (cI, 16, .inl fo)), (b5, .inl (cI, 16, .inl lv)), (b6, .inl (cI, 16, .inl wk))]) [0, 1, 2, 3, 4, 5] (by decide) rfl) hS (lv_sub hl [2, 1, 0] rfl)
  exact lp4 (17) 0 0 (by omega) (by omega) (rfl) _ _ _ (hP.sub (ws' := [(b1, .inr (1, [.ref b2, .ref b3, .ref b4, .ref b5, .ref b6, .int vr, .int vc, .int vcr])), (b2, .inl (cI, 4, .inl ab)), (b3, .inl (cI, 4, .inl lf)), (b4, .inl (cI, 16, .inl fo)), (b5, .inl (cI, 16, .inl lv)), (b6, .inl (cI, 16, .inl wk))]) [0, 1, 2, 3, 4, 5] rfl) (hD.sub (ws' := [(b1, .inr (1, [.ref b2, .ref b3, .ref b4, .ref b5, .ref b6, .int vr, .int vc, .int vcr])), (b2, .inl (cI, 4, .inl ab)), (b3, .inl (cI, 4, .inl lf)), (b4, .inl (cI, 16, .inl fo)), (b5, .inl (cI, 16, .inl lv)), (b6, .inl (cI, 16, .inl wk))]) [0, 1, 2, 3, 4, 5] (by decide) rfl) hS (lv_sub hl [2, 1, 0] rfl)
def y_Block_makeLevels : MethodName := ⟨"TileForge$Block", "makeLevels", "(LTileForge$Picture;III)V"⟩
def ws_Block_makeLevels : List Cond := .code y_Block_makeLevels prog_3_method_7_code 8 none :: GW
theorem mw_221 : (.code ⟨"TileForge$Block", "makeLevels", "(LTileForge$Picture;III)V"⟩ prog_3_method_7_code 8 none : Cond) ∈ GW := List.mem_filter.mpr ⟨(List.mem_append_right _ (List.mem_append_right _ (List.mem_append_left _ (List.mem_of_getElem? (i := 202) rfl)))), rfl⟩
theorem hd_Block_makeLevels : y_Block_makeLevels.cls ≠ "java/lang/invoke/MethodHandle" ∧ y_Block_makeLevels.cls ≠ "java/lang/invoke/VarHandle" ∧ (parseMethodDescriptor y_Block_makeLevels.desc).map (fun d => d.parameters.length) = some 4 := by decide +kernel
theorem d_Block_makeLevels_0 : decode prog_3_method_7_code 0 = .ok (.iconst 0, 1) := by decide +kernel
theorem d_Block_makeLevels_1 : decode prog_3_method_7_code 1 = .ok (.istore 5, 2) := by decide +kernel
theorem d_Block_makeLevels_3 : decode prog_3_method_7_code 3 = .ok (.iload 5, 2) := by decide +kernel
theorem d_Block_makeLevels_5 : decode prog_3_method_7_code 5 = .ok (.bipush 16, 2) := by decide +kernel
theorem d_Block_makeLevels_7 : decode prog_3_method_7_code 7 = .ok (.if_icmp .ge 40, 3) := by decide +kernel
theorem d_Block_makeLevels_10 : decode prog_3_method_7_code 10 = .ok (.aload_n 0, 1) := by decide +kernel
theorem d_Block_makeLevels_11 : decode prog_3_method_7_code 11 = .ok (.getfield 24, 3) := by decide +kernel
theorem d_Block_makeLevels_14 : decode prog_3_method_7_code 14 = .ok (.iload 5, 2) := by decide +kernel
theorem d_Block_makeLevels_16 : decode prog_3_method_7_code 16 = .ok (.aload_n 1, 1) := by decide +kernel
theorem d_Block_makeLevels_17 : decode prog_3_method_7_code 17 = .ok (.iload_n 2, 1) := by decide +kernel
theorem d_Block_makeLevels_18 : decode prog_3_method_7_code 18 = .ok (.iload 5, 2) := by decide +kernel
theorem d_Block_makeLevels_20 : decode prog_3_method_7_code 20 = .ok (.iconst 4, 1) := by decide +kernel
theorem d_Block_makeLevels_21 : decode prog_3_method_7_code 21 = .ok (.irem, 1) := by decide +kernel
theorem d_Block_makeLevels_22 : decode prog_3_method_7_code 22 = .ok (.iadd, 1) := by decide +kernel
theorem d_Block_makeLevels_23 : decode prog_3_method_7_code 23 = .ok (.iload_n 3, 1) := by decide +kernel
theorem d_Block_makeLevels_24 : decode prog_3_method_7_code 24 = .ok (.iload 5, 2) := by decide +kernel
theorem d_Block_makeLevels_26 : decode prog_3_method_7_code 26 = .ok (.iconst 4, 1) := by decide +kernel
theorem d_Block_makeLevels_27 : decode prog_3_method_7_code 27 = .ok (.idiv, 1) := by decide +kernel
theorem d_Block_makeLevels_28 : decode prog_3_method_7_code 28 = .ok (.iadd, 1) := by decide +kernel
theorem d_Block_makeLevels_29 : decode prog_3_method_7_code 29 = .ok (.invokevirtual 34, 3) := by decide +kernel
theorem d_Block_makeLevels_32 : decode prog_3_method_7_code 32 = .ok (.aload_n 0, 1) := by decide +kernel
theorem d_Block_makeLevels_33 : decode prog_3_method_7_code 33 = .ok (.getfield 18, 3) := by decide +kernel
theorem d_Block_makeLevels_36 : decode prog_3_method_7_code 36 = .ok (.iload 5, 2) := by decide +kernel
theorem d_Block_makeLevels_38 : decode prog_3_method_7_code 38 = .ok (.iaload, 1) := by decide +kernel
theorem d_Block_makeLevels_39 : decode prog_3_method_7_code 39 = .ok (.isub, 1) := by decide +kernel
theorem d_Block_makeLevels_40 : decode prog_3_method_7_code 40 = .ok (.iastore, 1) := by decide +kernel
theorem d_Block_makeLevels_41 : decode prog_3_method_7_code 41 = .ok (.iinc 5 1, 3) := by decide +kernel
theorem d_Block_makeLevels_44 : decode prog_3_method_7_code 44 = .ok (.goto (-41), 3) := by decide +kernel
theorem d_Block_makeLevels_47 : decode prog_3_method_7_code 47 = .ok (.aload_n 0, 1) := by decide +kernel
theorem d_Block_makeLevels_48 : decode prog_3_method_7_code 48 = .ok (.invokevirtual 65, 3) := by decide +kernel
theorem d_Block_makeLevels_51 : decode prog_3_method_7_code 51 = .ok (.iconst 1, 1) := by decide +kernel
theorem d_Block_makeLevels_52 : decode prog_3_method_7_code 52 = .ok (.iload 4, 2) := by decide +kernel
theorem d_Block_makeLevels_54 : decode prog_3_method_7_code 54 = .ok (.ishl, 1) := by decide +kernel
theorem d_Block_makeLevels_55 : decode prog_3_method_7_code 55 = .ok (.iconst 2, 1) := by decide +kernel
theorem d_Block_makeLevels_56 : decode prog_3_method_7_code 56 = .ok (.idiv, 1) := by decide +kernel
theorem d_Block_makeLevels_57 : decode prog_3_method_7_code 57 = .ok (.istore 5, 2) := by decide +kernel
theorem d_Block_makeLevels_59 : decode prog_3_method_7_code 59 = .ok (.iconst 0, 1) := by decide +kernel
theorem d_Block_makeLevels_60 : decode prog_3_method_7_code 60 = .ok (.istore 6, 2) := by decide +kernel
theorem d_Block_makeLevels_62 : decode prog_3_method_7_code 62 = .ok (.iload 6, 2) := by decide +kernel
theorem d_Block_makeLevels_64 : decode prog_3_method_7_code 64 = .ok (.bipush 16, 2) := by decide +kernel
theorem d_Block_makeLevels_66 : decode prog_3_method_7_code 66 = .ok (.if_icmp .ge 52, 3) := by decide +kernel
theorem d_Block_makeLevels_69 : decode prog_3_method_7_code 69 = .ok (.aload_n 0, 1) := by decide +kernel
theorem d_Block_makeLevels_70 : decode prog_3_method_7_code 70 = .ok (.getfield 24, 3) := by decide +kernel
theorem d_Block_makeLevels_73 : decode prog_3_method_7_code 73 = .ok (.iload 6, 2) := by decide +kernel
theorem d_Block_makeLevels_75 : decode prog_3_method_7_code 75 = .ok (.iaload, 1) := by decide +kernel
theorem d_Block_makeLevels_76 : decode prog_3_method_7_code 76 = .ok (.invokestatic 60, 3) := by decide +kernel
theorem d_Block_makeLevels_79 : decode prog_3_method_7_code 79 = .ok (.iload 5, 2) := by decide +kernel
theorem d_Block_makeLevels_81 : decode prog_3_method_7_code 81 = .ok (.iadd, 1) := by decide +kernel
theorem d_Block_makeLevels_82 : decode prog_3_method_7_code 82 = .ok (.iload 4, 2) := by decide +kernel
theorem d_Block_makeLevels_84 : decode prog_3_method_7_code 84 = .ok (.ishr, 1) := by decide +kernel
theorem d_Block_makeLevels_85 : decode prog_3_method_7_code 85 = .ok (.istore 7, 2) := by decide +kernel
theorem d_Block_makeLevels_87 : decode prog_3_method_7_code 87 = .ok (.aload_n 0, 1) := by decide +kernel
theorem d_Block_makeLevels_88 : decode prog_3_method_7_code 88 = .ok (.getfield 21, 3) := by decide +kernel
theorem d_Block_makeLevels_91 : decode prog_3_method_7_code 91 = .ok (.iload 6, 2) := by decide +kernel
theorem d_Block_makeLevels_93 : decode prog_3_method_7_code 93 = .ok (.aload_n 0, 1) := by decide +kernel
theorem d_Block_makeLevels_94 : decode prog_3_method_7_code 94 = .ok (.getfield 24, 3) := by decide +kernel
theorem d_Block_makeLevels_97 : decode prog_3_method_7_code 97 = .ok (.iload 6, 2) := by decide +kernel
theorem d_Block_makeLevels_99 : decode prog_3_method_7_code 99 = .ok (.iaload, 1) := by decide +kernel
theorem d_Block_makeLevels_100 : decode prog_3_method_7_code 100 = .ok (.ifCond .ge 9, 3) := by decide +kernel
theorem d_Block_makeLevels_103 : decode prog_3_method_7_code 103 = .ok (.iload 7, 2) := by decide +kernel
theorem d_Block_makeLevels_105 : decode prog_3_method_7_code 105 = .ok (.ineg, 1) := by decide +kernel
theorem d_Block_makeLevels_106 : decode prog_3_method_7_code 106 = .ok (.goto 5, 3) := by decide +kernel
theorem d_Block_makeLevels_109 : decode prog_3_method_7_code 109 = .ok (.iload 7, 2) := by decide +kernel
theorem d_Block_makeLevels_111 : decode prog_3_method_7_code 111 = .ok (.iastore, 1) := by decide +kernel
theorem d_Block_makeLevels_112 : decode prog_3_method_7_code 112 = .ok (.iinc 6 1, 3) := by decide +kernel
theorem d_Block_makeLevels_115 : decode prog_3_method_7_code 115 = .ok (.goto (-53), 3) := by decide +kernel
theorem d_Block_makeLevels_118 : decode prog_3_method_7_code 118 = .ok (.return_, 1) := by decide +kernel
theorem mw_222 : (.methodLink "TileForge$Block" 65 ⟨"TileForge$Block", "transform", "()V"⟩ : Cond) ∈ GW := List.mem_filter.mpr ⟨(List.mem_append_right _ (List.mem_append_right _ (List.mem_append_left _ (List.mem_of_getElem? (i := 203) rfl)))), rfl⟩
theorem mw_223 : (.instanceMethod ⟨"TileForge$Block", "transform", "()V"⟩ : Cond) ∈ GW := List.mem_filter.mpr ⟨(List.mem_append_right _ (List.mem_append_right _ (List.mem_append_left _ (List.mem_of_getElem? (i := 204) rfl)))), rfl⟩
theorem mw_224 : (.selects "TileForge$Block" ⟨"TileForge$Block", "transform", "()V"⟩ ⟨"TileForge$Block", "transform", "()V"⟩ : Cond) ∈ GW := List.mem_filter.mpr ⟨(List.mem_append_right _ (List.mem_append_right _ (List.mem_append_left _ (List.mem_of_getElem? (i := 205) rfl)))), rfl⟩
def q_bl_make (cI : ClassId) (b1 : Nat) (b2 : Nat) (b3 : Nat) (b4 : Nat) (b5 : Nat) (b6 : Nat) (ab : Nat → Int32) (lf : Nat → Int32) (fo : Nat → Int32) (lv : Nat → Int32) (wk : Nat → Int32) (vr : Int32) (vc : Int32) (vcr : Int32) (a1 : Nat) (a2 : Nat) (a3 : Nat) (px : Nat → Int32) (md : Nat → Int32) (vz : Int32) (vk : Int32) (wn : Nat) (hn : Nat) (x : Nat) (y : Nat) (q : Int32) : va_W → Prop := fun ww => ∃ (lv' : Nat → Int32) (wk' : Nat → Int32), (∀ j, j < 16 → lv' j = lvQ q (wk' j)) ∧ (∃ w0 : Nat → Int32, (∀ j, j < 16 → w0 j = px ((y + j / 4) * 12 + (x + j % 4)) - fo j) ∧ wk' = trC (trR w0 4) 4) ∧ ww = [(b1, .inr (1, [.ref b2, .ref b3, .ref b4, .ref b5, .ref b6, .int vr, .int vc, .int vcr])), (b2, .inl (cI, 4, .inl ab)), (b3, .inl (cI, 4, .inl lf)), (b4, .inl (cI, 16, .inl fo)), (b5, .inl (cI, 16, .inl lv')), (b6, .inl (cI, 16, .inl wk')), (a1, .inr (5, [.ref a2, .ref a3, .int vz, .int (nI wn), .int (nI hn), .int vk])), (a2, .inl (cI, 144, .inl px)), (a3, .inl (cI, 9, .inl md))]
set_option maxHeartbeats 4000000 in
set_option maxRecDepth 100000 in
theorem c_bl_make (l : Launch) {D : va_G} {tys : List (ClassId × FieldType)} {cI : ClassId} (hcI : tys[0]? = some (cI, .int)) (b1 : Nat) (b2 : Nat) (b3 : Nat) (b4 : Nat) (b5 : Nat) (b6 : Nat) (ab : Nat → Int32) (lf : Nat → Int32) (fo : Nat → Int32) (lv : Nat → Int32) (wk : Nat → Int32) (vr : Int32) (vc : Int32) (vcr : Int32) (a1 : Nat) (a2 : Nat) (a3 : Nat) (px : Nat → Int32) (md : Nat → Int32) (vz : Int32) (vk : Int32) (wn : Nat) (hn : Nat) (x : Nat) (y : Nat) (q : Int32) (hx4 : x + 4 ≤ wn) (hwn : wn ≤ 12) (hy4 : y + 4 ≤ hn) (hhn : hn ≤ 12) : CsV l D vwCl tys y_Block_makeLevels ws_Block_makeLevels ({ frames := 2, cells := 0, slots := 0, locals := 50 } : Room) [.ref b1, .ref a1, .int (nI x), .int (nI y), .int q] [(b1, .inr (1, [.ref b2, .ref b3, .ref b4, .ref b5, .ref b6, .int vr, .int vc, .int vcr])), (b2, .inl (cI, 4, .inl ab)), (b3, .inl (cI, 4, .inl lf)), (b4, .inl (cI, 16, .inl fo)), (b5, .inl (cI, 16, .inl lv)), (b6, .inl (cI, 16, .inl wk)), (a1, .inr (5, [.ref a2, .ref a3, .int vz, .int (nI wn), .int (nI hn), .int vk])), (a2, .inl (cI, 144, .inl px)), (a3, .inl (cI, 9, .inl md))] (q_bl_make cI b1 b2 b3 b4 b5 b6 ab lf fo lv wk vr vc vcr a1 a2 a3 px md vz vk wn hn x y q) 0 0 := by
  intro sz
  refine Met.ofW (cc := prog_3_method_7_code) (maxL := 8) (ret := none) (by decide) rfl ?_
  intro p e s m args below meth c s₁ B hml hv
  obtain ⟨rfl, hsz, hP, hK, hD0, hN⟩ := hv
  have hx := B.exec
  have hb := B.bytes
  have hr := B.returns
  have hts := atoms_spec (ws := ws_Block_makeLevels) B.pre
  have hown : s.vm.findClass "TileForge$Block" = some m.cls := findClass_of_methodNamed B.named
  have hlocks := B.notSynchronized
  subst hsz
  have hD := hD0.self (sz := s.heap.size)
  generalize hAe : va_A [(b1, .inr (1, [.ref b2, .ref b3, .ref b4, .ref b5, .ref b6, .int vr, .int vc, .int vcr])), (b2, .inl (cI, 4, .inl ab)), (b3, .inl (cI, 4, .inl lf)), (b4, .inl (cI, 16, .inl fo)), (b5, .inl (cI, 16, .inl lv)), (b6, .inl (cI, 16, .inl wk)), (a1, .inr (5, [.ref a2, .ref a3, .int vz, .int (nI wn), .int (nI hn), .int vk])), (a2, .inl (cI, 144, .inl px)), (a3, .inl (cI, 9, .inl md))] s.heap.size = A at hD ⊢
  have hA : ∀ q : Nat, s.heap.size ≤ q → A q := fun q h => by rw [← hAe]; exact Or.inr h
  have hS : va_S A s.heap s.heap [] := va_S.rf
  have hP : va_P D vwCl [(b1, .inr (1, [.ref b2, .ref b3, .ref b4, .ref b5, .ref b6, .int vr, .int vc, .int vcr])), (b2, .inl (cI, 4, .inl ab)), (b3, .inl (cI, 4, .inl lf)), (b4, .inl (cI, 16, .inl fo)), (b5, .inl (cI, 16, .inl lv)), (b6, .inl (cI, 16, .inl wk)), (a1, .inr (5, [.ref a2, .ref a3, .int vz, .int (nI wn), .int (nI hn), .int vk])), (a2, .inl (cI, 144, .inl px)), (a3, .inl (cI, 9, .inl md))] s.heap := hP
  have hl := lv_entry ([.ref b1, .ref a1, .int (nI x), .int (nI y), .int q]) (n := 8) (Nat.le_of_ble_eq_true rfl)
  rw [lg_entry_eq]
  generalize (lg_sl ([.ref b1, .ref a1, .int (nI x), .int (nI y), .int q]) ++ List.replicate (8 - (lg_sl ([.ref b1, .ref a1, .int (nI x), .int (nI y), .int q])).length) Slot.unset).toArray = ls at hl ⊢
  have hl : lv_has ls 8 [(0, .ref b1), (1, .ref a1), (2, .int (nI x)), (3, .int (nI y)), (4, .int q)] := hl
  refine lv_iconst (v := 0) hx hb d_Block_makeLevels_0 (by decide) ?_
  refine lv_istore (lv' := [(5, .int 0), (0, .ref b1), (1, .ref a1), (2, .int (nI x)), (3, .int (nI y)), (4, .int q)]) hx hb d_Block_makeLevels_1 hl (by decide) rfl (fun ls hl => ?_)
  have lp3 : ∀ (n : Nat) (k : Nat) (f : Nat → Int32), (17 ≤ k + n) → (k ≤ 16) → (∀ j, j < k → f j = px ((y + j / 4) * 12 + (x + j % 4)) - fo j) → ∀ (H : Heap) (locs : List Loc) (ls : Array Slot), va_P D vwCl [(b1, .inr (1, [.ref b2, .ref b3, .ref b4, .ref b5, .ref b6, .int vr, .int vc, .int vcr])), (b2, .inl (cI, 4, .inl ab)), (b3, .inl (cI, 4, .inl lf)), (b4, .inl (cI, 16, .inl fo)), (b5, .inl (cI, 16, .inl lv)), (b6, .inl (cI, 16, .inl f)), (a1, .inr (5, [.ref a2, .ref a3, .int vz, .int (nI wn), .int (nI hn), .int vk])), (a2, .inl (cI, 144, .inl px)), (a3, .inl (cI, 9, .inl md))] H → va_D A [(b1, .inr (1, [.ref b2, .ref b3, .ref b4, .ref b5, .ref b6, .int vr, .int vc, .int vcr])), (b2, .inl (cI, 4, .inl ab)), (b3, .inl (cI, 4, .inl lf)), (b4, .inl (cI, 16, .inl fo)), (b5, .inl (cI, 16, .inl lv)), (b6, .inl (cI, 16, .inl f)), (a1, .inr (5, [.ref a2, .ref a3, .int vz, .int (nI wn), .int (nI hn), .int vk])), (a2, .inl (cI, 144, .inl px)), (a3, .inl (cI, 9, .inl md))] → va_S A s.heap H locs → lv_has ls 8 [(0, .ref b1), (1, .ref a1), (2, .int (nI x)), (3, .int (nI y)), (4, .int q), (5, .int (nI k))] → W p l e ({ frames := 2, cells := 0, slots := 0, locals := 50 } : Room) s m ([.ref b1, .ref a1, .int (nI x), .int (nI y), .int q] : List Value).toArray below meth c H locs 0 0 (MQ below (va_Qv (q_bl_make cI b1 b2 b3 b4 b5 b6 ab lf fo lv wk vr vc vcr a1 a2 a3 px md vz vk wn hn x y q) (cs_B D vwCl tys A) A) ([.ref b1, .ref a1, .int (nI x), .int (nI y), .int q] : List Value).toArray s 0 0 A) (F0 m 3 ls []) := by
    intro n
    induction n with
    | zero =>
      intro k f hf hk h1
      exact absurd hf (by omega)
    | succ n ih3 =>
      intro k f hf hk h1 H locs ls hP hD hS hl
      refine lv_iload hx hb d_Block_makeLevels_3 (lv_at hl 5 rfl) ?_
      refine lv_bipush (v := 16) hx hb d_Block_makeLevels_5 (by decide) ?_
      refine lv_icmp_ge (tgt := 47) hx hb d_Block_makeLevels_7 (by decide) (fun c_7 => ?_) (fun c_7 => ?_)
      · have hk2 := (nI_leI (a := 16) (b := k) (by decide) (by omega)).mp c_7
        have hk3 : k = 16 := by omega
        subst hk3
        refine lv_aload_n hx hb d_Block_makeLevels_47 rfl (lv_at hl 0 rfl) ?_
        refine cs_Vv (As := []) (rest := []) (wr := [(a1, .inr (5, [.ref a2, .ref a3, .int vz, .int (nI wn), .int (nI hn), .int vk])), (a2, .inl (cI, 144, .inl px)), (a3, .inl (cI, 9, .inl md))]) ⟨hx, hb, hml, hown, hts⟩ (c_bl_trans l hcI b1 b2 b3 b4 b5 b6 ab lf fo lv f vr vc vcr) (cwV 0 hts (cs_gV mw_222 mw_223 mw_224 mw_199 mw_216) rfl rfl rfl ⟨rfl, hd_Block_transform⟩ ⟨Nat.le_of_ble_eq_true rfl, Nat.le_of_ble_eq_true rfl⟩) hN hK hP hD hS hA [0, 1, 2, 3, 4, 5] [6, 7, 8] rfl rfl rfl rfl (by decide) (ci := 1) rfl rfl rfl rfl rfl hl.1 (Nat.le_of_ble_eq_true rfl) d_Block_makeLevels_48 ⟨Nat.le_of_ble_eq_true rfl, Nat.le_of_ble_eq_true rfl⟩ (fun w1 H locs hw hP hD hS => ?_)
        obtain rfl := hw
        have hP : va_P D vwCl [(a1, .inr (5, [.ref a2, .ref a3, .int vz, .int (nI wn), .int (nI hn), .int vk])), (a2, .inl (cI, 144, .inl px)), (a3, .inl (cI, 9, .inl md)), (b1, .inr (1, [.ref b2, .ref b3, .ref b4, .ref b5, .ref b6, .int vr, .int vc, .int vcr])), (b2, .inl (cI, 4, .inl ab)), (b3, .inl (cI, 4, .inl lf)), (b4, .inl (cI, 16, .inl fo)), (b5, .inl (cI, 16, .inl lv)), (b6, .inl (cI, 16, .inl (trC (trR f 4) 4)))] H := hP
        have hD : va_D A [(a1, .inr (5, [.ref a2, .ref a3, .int vz, .int (nI wn), .int (nI hn), .int vk])), (a2, .inl (cI, 144, .inl px)), (a3, .inl (cI, 9, .inl md)), (b1, .inr (1, [.ref b2, .ref b3, .ref b4, .ref b5, .ref b6, .int vr, .int vc, .int vcr])), (b2, .inl (cI, 4, .inl ab)), (b3, .inl (cI, 4, .inl lf)), (b4, .inl (cI, 16, .inl fo)), (b5, .inl (cI, 16, .inl lv)), (b6, .inl (cI, 16, .inl (trC (trR f 4) 4)))] := hD
        refine lv_iconst (v := 1) hx hb d_Block_makeLevels_51 (by decide) ?_
        refine lv_iload hx hb d_Block_makeLevels_52 (lv_at hl 4 rfl) ?_
        refine lv_ishl hx hb d_Block_makeLevels_54 ?_
        refine lv_iconst (v := 2) hx hb d_Block_makeLevels_55 (by decide) ?_
        refine lv_idiv hx hb d_Block_makeLevels_56 (by decide) ?_
        refine lv_istore (lv' := [(5, .int ((1 <<< (q &&& 31)) / 2)), (0, .ref b1), (1, .ref a1), (2, .int (nI x)), (3, .int (nI y)), (4, .int q)]) hx hb d_Block_makeLevels_57 hl (by decide) rfl (fun ls hl => ?_)
        refine lv_iconst (v := 0) hx hb d_Block_makeLevels_59 (by decide) ?_
        refine lv_istore (lv' := [(6, .int 0), (5, .int ((1 <<< (q &&& 31)) / 2)), (0, .ref b1), (1, .ref a1), (2, .int (nI x)), (3, .int (nI y)), (4, .int q)]) hx hb d_Block_makeLevels_60 hl (by decide) rfl (fun ls hl => ?_)
        have lp62 : ∀ (n : Nat) (k : Nat) (g : Nat → Int32), (17 ≤ k + n) → (k ≤ 16) → (∀ j, j < k → g j = lvQ q (trC (trR f 4) 4 j)) → ∀ (H : Heap) (locs : List Loc) (ls : Array Slot), va_P D vwCl [(b1, .inr (1, [.ref b2, .ref b3, .ref b4, .ref b5, .ref b6, .int vr, .int vc, .int vcr])), (b2, .inl (cI, 4, .inl ab)), (b3, .inl (cI, 4, .inl lf)), (b4, .inl (cI, 16, .inl fo)), (b5, .inl (cI, 16, .inl g)), (b6, .inl (cI, 16, .inl (trC (trR f 4) 4))), (a1, .inr (5, [.ref a2, .ref a3, .int vz, .int (nI wn), .int (nI hn), .int vk])), (a2, .inl (cI, 144, .inl px)), (a3, .inl (cI, 9, .inl md))] H → va_D A [(b1, .inr (1, [.ref b2, .ref b3, .ref b4, .ref b5, .ref b6, .int vr, .int vc, .int vcr])), (b2, .inl (cI, 4, .inl ab)), (b3, .inl (cI, 4, .inl lf)), (b4, .inl (cI, 16, .inl fo)), (b5, .inl (cI, 16, .inl g)), (b6, .inl (cI, 16, .inl (trC (trR f 4) 4))), (a1, .inr (5, [.ref a2, .ref a3, .int vz, .int (nI wn), .int (nI hn), .int vk])), (a2, .inl (cI, 144, .inl px)), (a3, .inl (cI, 9, .inl md))] → va_S A s.heap H locs → lv_has ls 8 [(0, .ref b1), (1, .ref a1), (2, .int (nI x)), (3, .int (nI y)), (4, .int q), (5, .int ((1 <<< (q &&& 31)) / 2)), (6, .int (nI k))] → W p l e ({ frames := 2, cells := 0, slots := 0, locals := 50 } : Room) s m ([.ref b1, .ref a1, .int (nI x), .int (nI y), .int q] : List Value).toArray below meth c H locs 0 0 (MQ below (va_Qv (q_bl_make cI b1 b2 b3 b4 b5 b6 ab lf fo lv wk vr vc vcr a1 a2 a3 px md vz vk wn hn x y q) (cs_B D vwCl tys A) A) ([.ref b1, .ref a1, .int (nI x), .int (nI y), .int q] : List Value).toArray s 0 0 A) (F0 m 62 ls []) := by
          intro n
          induction n with
          | zero =>
            intro k g hf hk h2
            exact absurd hf (by omega)
          | succ n ih62 =>
            intro k g hf hk h2 H locs ls hP hD hS hl
            refine lv_iload hx hb d_Block_makeLevels_62 (lv_at hl 6 rfl) ?_
            refine lv_bipush (v := 16) hx hb d_Block_makeLevels_64 (by decide) ?_
            refine lv_icmp_ge (tgt := 118) hx hb d_Block_makeLevels_66 (by decide) (fun c_66 => ?_) (fun c_66 => ?_)
            · have hk2 := (nI_leI (a := 16) (b := k) (by decide) (by omega)).mp c_66
              have hk3 : k = 16 := by omega
              subst hk3
              exact W.vret hx hb hr (fun t ht hW => ⟨⟨[(b1, .inr (1, [.ref b2, .ref b3, .ref b4, .ref b5, .ref b6, .int vr, .int vc, .int vcr])), (b2, .inl (cI, 4, .inl ab)), (b3, .inl (cI, 4, .inl lf)), (b4, .inl (cI, 16, .inl fo)), (b5, .inl (cI, 16, .inl g)), (b6, .inl (cI, 16, .inl (trC (trR f 4) 4))), (a1, .inr (5, [.ref a2, .ref a3, .int vz, .int (nI wn), .int (nI hn), .int vk])), (a2, .inl (cI, 144, .inl px)), (a3, .inl (cI, 9, .inl md))], rfl, ⟨g, (trC (trR f 4) 4), (h2), (⟨f, h1, rfl⟩), (rfl)⟩, by rw [ht]; exact hP, va_K.moved hW.alike hK, hD⟩, hS.F ht⟩) hS.2.2 d_Block_makeLevels_118
            · have hk2 : k < 16 := Nat.not_le.mp (fun h => c_66 ((nI_leI (a := 16) (b := k) (by decide) (by omega)).mpr h))
              refine lv_aload_n hx hb d_Block_makeLevels_69 rfl (lv_at hl 0 rfl) ?_
              refine va_get (D := D) (ci := 1) (v := .ref b6) (C := "TileForge$Block") (T := T_Block) (N := 8) hx hb hts (cs_in in_Block) hown hK hP 0 rfl rfl 4 (by decide) (hts _ (cs_m mw_189)) (fun _ h9 => h9) rfl d_Block_makeLevels_70 ?_
              refine lv_iload hx hb d_Block_makeLevels_73 (lv_at hl 6 rfl) ?_
              refine cs_iald (j := k) hx hb hK hcI hP 5 rfl (rfl) (hk2) (by decide) d_Block_makeLevels_75 ?_
              refine va_mabs hx hb (hml.trans hl.1.symm) hown (hts _ (cs_m mw_205)) (hts _ (cs_m mw_206)) (hts _ (cs_m mw_150)) (hts _ (cs_m mw_207)) (Nat.le_of_ble_eq_true rfl) (Nat.le_of_ble_eq_true rfl) (Nat.le_of_ble_eq_true rfl) (Nat.le_of_ble_eq_true rfl) d_Block_makeLevels_76 ?_
              refine lv_iload hx hb d_Block_makeLevels_79 (lv_at hl 5 rfl) ?_
              refine lv_iadd hx hb d_Block_makeLevels_81 ?_
              refine lv_iload hx hb d_Block_makeLevels_82 (lv_at hl 4 rfl) ?_
              refine lv_ishr hx hb d_Block_makeLevels_84 ?_
              refine lv_istore (lv' := [(7, .int (((if 0 ≤ ((trC (trR f 4) 4) k) then ((trC (trR f 4) 4) k) else 0 - ((trC (trR f 4) 4) k)) + ((1 <<< (q &&& 31)) / 2)) >>> (q &&& 31))), (0, .ref b1), (1, .ref a1), (2, .int (nI x)), (3, .int (nI y)), (4, .int q), (5, .int ((1 <<< (q &&& 31)) / 2)), (6, .int (nI k))]) hx hb d_Block_makeLevels_85 hl (by decide) rfl (fun ls hl => ?_)
              refine lv_aload_n hx hb d_Block_makeLevels_87 rfl (lv_at hl 1 rfl) ?_
              refine va_get (D := D) (ci := 1) (v := .ref b5) (C := "TileForge$Block") (T := T_Block) (N := 8) hx hb hts (cs_in in_Block) hown hK hP 0 rfl rfl 3 (by decide) (hts _ (cs_m mw_188)) (fun _ h9 => h9) rfl d_Block_makeLevels_88 ?_
              refine lv_iload hx hb d_Block_makeLevels_91 (lv_at hl 7 rfl) ?_
              refine lv_aload_n hx hb d_Block_makeLevels_93 rfl (lv_at hl 1 rfl) ?_
              refine va_get (D := D) (ci := 1) (v := .ref b6) (C := "TileForge$Block") (T := T_Block) (N := 8) hx hb hts (cs_in in_Block) hown hK hP 0 rfl rfl 4 (by decide) (hts _ (cs_m mw_189)) (fun _ h9 => h9) rfl d_Block_makeLevels_94 ?_
              refine lv_iload hx hb d_Block_makeLevels_97 (lv_at hl 7 rfl) ?_
              refine cs_iald (j := k) hx hb hK hcI hP 5 rfl (rfl) (hk2) (by decide) d_Block_makeLevels_99 ?_
              refine lv_if_ge (tgt := 109) hx hb d_Block_makeLevels_100 (by decide) (fun c_100 => ?_) (fun c_100 => ?_)
              · refine lv_iload hx hb d_Block_makeLevels_109 (lv_at hl 0 rfl) ?_
                refine cs_iast (j := k) hx hb hK hcI hP hD hS 4 rfl (rfl) (hk2) (by decide) d_Block_makeLevels_111 (fun H locs hP hD hS => ?_)
                have hP : va_P D vwCl [(b1, .inr (1, [.ref b2, .ref b3, .ref b4, .ref b5, .ref b6, .int vr, .int vc, .int vcr])), (b2, .inl (cI, 4, .inl ab)), (b3, .inl (cI, 4, .inl lf)), (b4, .inl (cI, 16, .inl fo)), (b5, .inl (cI, 16, .inl (upd g k (((if 0 ≤ ((trC (trR f 4) 4) k) then ((trC (trR f 4) 4) k) else 0 - ((trC (trR f 4) 4) k)) + ((1 <<< (q &&& 31)) / 2)) >>> (q &&& 31))))), (b6, .inl (cI, 16, .inl (trC (trR f 4) 4))), (a1, .inr (5, [.ref a2, .ref a3, .int vz, .int (nI wn), .int (nI hn), .int vk])), (a2, .inl (cI, 144, .inl px)), (a3, .inl (cI, 9, .inl md))] H := hP
                have hD : va_D A [(b1, .inr (1, [.ref b2, .ref b3, .ref b4, .ref b5, .ref b6, .int vr, .int vc, .int vcr])), (b2, .inl (cI, 4, .inl ab)), (b3, .inl (cI, 4, .inl lf)), (b4, .inl (cI, 16, .inl fo)), (b5, .inl (cI, 16, .inl (upd g k (((if 0 ≤ ((trC (trR f 4) 4) k) then ((trC (trR f 4) 4) k) else 0 - ((trC (trR f 4) 4) k)) + ((1 <<< (q &&& 31)) / 2)) >>> (q &&& 31))))), (b6, .inl (cI, 16, .inl (trC (trR f 4) 4))), (a1, .inr (5, [.ref a2, .ref a3, .int vz, .int (nI wn), .int (nI hn), .int vk])), (a2, .inl (cI, 144, .inl px)), (a3, .inl (cI, 9, .inl md))] := hD
                refine lv_iinc (v := nI (k + 1)) (lv' := [(6, .int (nI (k + 1))), (7, .int (((if 0 ≤ ((trC (trR f 4) 4) k) then ((trC (trR f 4) 4) k) else 0 - ((trC (trR f 4) 4) k)) + ((1 <<< (q &&& 31)) / 2)) >>> (q &&& 31))), (0, .ref b1), (1, .ref a1), (2, .int (nI x)), (3, .int (nI y)), (4, .int q), (5, .int ((1 <<< (q &&& 31)) / 2))]) hx hb d_Block_makeLevels_112 hl (k := 7) rfl (nI_1 _) (by decide) rfl (fun ls hl => ?_)
                refine lv_goto (tgt := 62) hx hb d_Block_makeLevels_115 (by decide) ?_
                exact ih62 (k + 1) (upd g k (((if 0 ≤ ((trC (trR f 4) 4) k) then ((trC (trR f 4) 4) k) else 0 - ((trC (trR f 4) 4) k)) + ((1 <<< (q &&& 31)) / 2)) >>> (q &&& 31))) (by omega) (by omega) (cs_ext (g := fun j => lvQ q (trC (trR f 4) 4 j)) h2 (by simp [lvQ, c_100])) _ _ _ (hP.sub (ws' := [(b1, .inr (1, [.ref b2, .ref b3, .ref b4, .ref b5, .ref b6, .int vr, .int vc, .int vcr])), (b2, .inl (cI, 4, .inl ab)), (b3, .inl (cI, 4, .inl lf)), (b4, .inl (cI, 16, .inl fo)), (b5, .inl (cI, 16, .inl (upd g k (((if 0 ≤ ((trC (trR f 4) 4) k) then ((trC (trR f 4) 4) k) else 0 - ((trC (trR f 4) 4) k)) + ((1 <<< (q &&& 31)) / 2)) >>> (q &&& 31))))), (b6, .inl (cI, 16, .inl (trC (trR f 4) 4))), (a1, .inr (5, [.ref a2, .ref a3, .int vz, .int (nI wn), .int (nI hn), .int vk])), (a2, .inl (cI, 144, .inl px)), (a3, .inl (cI, 9, .inl md))]) [0, 1, 2, 3, 4, 5, 6, 7, 8] rfl) (hD.sub (ws' := [(b1, .inr (1, [.ref b2, .ref b3, .ref b4, .ref b5, .ref b6, .int vr, .int vc, .int vcr])), (b2, .inl (cI, 4, .inl ab)), (b3, .inl (cI, 4, .inl lf)), (b4, .inl (cI, 16, .inl fo)), (b5, .inl (cI, 16, .inl (upd g k (((if 0 ≤ ((trC (trR f 4) 4) k) then ((trC (trR f 4) 4) k) else 0 - ((trC (trR f 4) 4) k)) + ((1 <<< (q &&& 31)) / 2)) >>> (q &&& 31))))), (b6, .inl (cI, 16, .inl (trC (trR f 4) 4))), (a1, .inr (5, [.ref a2, .ref a3, .int vz, .int (nI wn), .int (nI hn), .int vk])), (a2, .inl (cI, 144, .inl px)), (a3, .inl (cI, 9, .inl md))]) [0, 1, 2, 3, 4, 5, 6, 7, 8] (by decide) rfl) hS (lv_sub hl [2, 3, 4, 5, 6, 7, 0] rfl)
              · refine lv_iload hx hb d_Block_makeLevels_103 (lv_at hl 0 rfl) ?_
                refine lv_ineg hx hb d_Block_makeLevels_105 ?_
                refine lv_goto (tgt := 111) hx hb d_Block_makeLevels_106 (by decide) ?_
                refine cs_iast (j := k) hx hb hK hcI hP hD hS 4 rfl (rfl) (hk2) (by decide) d_Block_makeLevels_111 (fun H locs hP hD hS => ?_)
                have hP : va_P D vwCl [(b1, .inr (1, [.ref b2, .ref b3, .ref b4, .ref b5, .ref b6, .int vr, .int vc, .int vcr])), (b2, .inl (cI, 4, .inl ab)), (b3, .inl (cI, 4, .inl lf)), (b4, .inl (cI, 16, .inl fo)), (b5, .inl (cI, 16, .inl (upd g k (-(((if 0 ≤ ((trC (trR f 4) 4) k) then ((trC (trR f 4) 4) k) else 0 - ((trC (trR f 4) 4) k)) + ((1 <<< (q &&& 31)) / 2)) >>> (q &&& 31)))))), (b6, .inl (cI, 16, .inl (trC (trR f 4) 4))), (a1, .inr (5, [.ref a2, .ref a3, .int vz, .int (nI wn), .int (nI hn), .int vk])), (a2, .inl (cI, 144, .inl px)), (a3, .inl (cI, 9, .inl md))] H := hP
                have hD : va_D A [(b1, .inr (1, [.ref b2, .ref b3, .ref b4, .ref b5, .ref b6, .int vr, .int vc, .int vcr])), (b2, .inl (cI, 4, .inl ab)), (b3, .inl (cI, 4, .inl lf)), (b4, .inl (cI, 16, .inl fo)), (b5, .inl (cI, 16, .inl (upd g k (-(((if 0 ≤ ((trC (trR f 4) 4) k) then ((trC (trR f 4) 4) k) else 0 - ((trC (trR f 4) 4) k)) + ((1 <<< (q &&& 31)) / 2)) >>> (q &&& 31)))))), (b6, .inl (cI, 16, .inl (trC (trR f 4) 4))), (a1, .inr (5, [.ref a2, .ref a3, .int vz, .int (nI wn), .int (nI hn), .int vk])), (a2, .inl (cI, 144, .inl px)), (a3, .inl (cI, 9, .inl md))] := hD
                refine lv_iinc (v := nI (k + 1)) (lv' := [(6, .int (nI (k + 1))), (7, .int (((if 0 ≤ ((trC (trR f 4) 4) k) then ((trC (trR f 4) 4) k) else 0 - ((trC (trR f 4) 4) k)) + ((1 <<< (q &&& 31)) / 2)) >>> (q &&& 31))), (0, .ref b1), (1, .ref a1), (2, .int (nI x)), (3, .int (nI y)), (4, .int q), (5, .int ((1 <<< (q &&& 31)) / 2))]) hx hb d_Block_makeLevels_112 hl (k := 7) rfl (nI_1 _) (by decide) rfl (fun ls hl => ?_)
                refine lv_goto (tgt := 62) hx hb d_Block_makeLevels_115 (by decide) ?_
                exact ih62 (k + 1) (upd g k (-(((if 0 ≤ ((trC (trR f 4) 4) k) then ((trC (trR f 4) 4) k) else 0 - ((trC (trR f 4) 4) k)) + ((1 <<< (q &&& 31)) / 2)) >>> (q &&& 31)))) (by omega) (by omega) (cs_ext (g := fun j => lvQ q (trC (trR f 4) 4 j)) h2 (by simp [lvQ, c_100])) _ _ _ (hP.sub (ws' := [(b1, .inr (1, [.ref b2, .ref b3, .ref b4, .ref b5, .ref b6, .int vr, .int vc, .int vcr])), (b2, .inl (cI, 4, .inl ab)), (b3, .inl (cI, 4, .inl lf)), (b4, .inl (cI, 16, .inl fo)), (b5, .inl (cI, 16, .inl (upd g k (-(((if 0 ≤ ((trC (trR f 4) 4) k) then ((trC (trR f 4) 4) k) else 0 - ((trC (trR f 4) 4) k)) + ((1 <<< (q &&& 31)) / 2)) >>> (q &&& 31)))))), (b6, .inl (cI, 16, .inl (trC (trR f 4) 4))), (a1, .inr (5, [.ref a2, .ref a3, .int vz, .int (nI wn), .int (nI hn), .int vk])), (a2, .inl (cI, 144, .inl px)), (a3, .inl (cI, 9, .inl md))]) [0, 1, 2, 3, 4, 5, 6, 7, 8] rfl) (hD.sub (ws' := [(b1, .inr (1, [.ref b2, .ref b3, .ref b4, .ref b5, .ref b6, .int vr, .int vc, .int vcr])), (b2, .inl (cI, 4, .inl ab)), (b3, .inl (cI, 4, .inl lf)), (b4, .inl (cI, 16, .inl fo)), (b5, .inl (cI, 16, .inl (upd g k (-(((if 0 ≤ ((trC (trR f 4) 4) k) then ((trC (trR f 4) 4) k) else 0 - ((trC (trR f 4) 4) k)) + ((1 <<< (q &&& 31)) / 2)) >>> (q &&& 31)))))), (b6, .inl (cI, 16, .inl (trC (trR f 4) 4))), (a1, .inr (5, [.ref a2, .ref a3, .int vz, .int (nI wn), .int (nI hn), .int vk])), (a2, .inl (cI, 144, .inl px)), (a3, .inl (cI, 9, .inl md))]) [0, 1, 2, 3, 4, 5, 6, 7, 8] (by decide) rfl) hS (lv_sub hl [2, 3, 4, 5, 6, 7, 0] rfl)
        exact lp62 (17) 0 lv (by omega) (by omega) (fun j hj => absurd hj (by omega)) _ _ _ (hP.sub (ws' := [(b1, .inr (1, [.ref b2, .ref b3, .ref b4, .ref b5, .ref b6, .int vr, .int vc, .int vcr])), (b2, .inl (cI, 4, .inl ab)), (b3, .inl (cI, 4, .inl lf)), (b4, .inl (cI, 16, .inl fo)), (b5, .inl (cI, 16, .inl lv)), (b6, .inl (cI, 16, .inl (trC (trR f 4) 4))), (a1, .inr (5, [.ref a2, .ref a3, .int vz, .int (nI wn), .int (nI hn), .int vk])), (a2, .inl (cI, 144, .inl px)), (a3, .inl (cI, 9, .inl md))]) [3, 4, 5, 6, 7, 8, 0, 1, 2] rfl) (hD.sub (ws' := [(b1, .inr (1, [.ref b2, .ref b3, .ref b4, .ref b5, .ref b6, .int vr, .int vc, .int vcr])), (b2, .inl (cI, 4, .inl ab)), (b3, .inl (cI, 4, .inl lf)), (b4, .inl (cI, 16, .inl fo)), (b5, .inl (cI, 16, .inl lv)), (b6, .inl (cI, 16, .inl (trC (trR f 4) 4))), (a1, .inr (5, [.ref a2, .ref a3, .int vz, .int (nI wn), .int (nI hn), .int vk])), (a2, .inl (cI, 144, .inl px)), (a3, .inl (cI, 9, .inl md))]) [3, 4, 5, 6, 7, 8, 0, 1, 2] (by decide) rfl) hS (lv_sub hl [2, 3, 4, 5, 6, 1, 0] rfl)
      · have hk2 : k < 16 := Nat.not_le.mp (fun h => c_7 ((nI_leI (a := 16) (b := k) (by decide) (by omega)).mpr h))
        refine lv_aload_n hx hb d_Block_makeLevels_10 rfl (lv_at hl 0 rfl) ?_
        refine va_get (D := D) (ci := 1) (v := .ref b6) (C := "TileForge$Block") (T := T_Block) (N := 8) hx hb hts (cs_in in_Block) hown hK hP 0 rfl rfl 4 (by decide) (hts _ (cs_m mw_189)) (fun _ h9 => h9) rfl d_Block_makeLevels_11 ?_
        refine lv_iload hx hb d_Block_makeLevels_14 (lv_at hl 5 rfl) ?_
        refine lv_aload_n hx hb d_Block_makeLevels_16 rfl (lv_at hl 1 rfl) ?_
        refine lv_iload_n hx hb d_Block_makeLevels_17 rfl (lv_at hl 2 rfl) ?_
        refine lv_iload hx hb d_Block_makeLevels_18 (lv_at hl 5 rfl) ?_
        refine lv_iconst (v := 4) hx hb d_Block_makeLevels_20 (by decide) ?_
        refine lv_irem hx hb d_Block_makeLevels_21 (by decide) ?_
        refine lv_iadd hx hb d_Block_makeLevels_22 ?_
        refine cs_top (y := nI (x + k % 4)) (cs_addr x k (by omega)) ?_
        refine lv_iload_n hx hb d_Block_makeLevels_23 rfl (lv_at hl 3 rfl) ?_
        refine lv_iload hx hb d_Block_makeLevels_24 (lv_at hl 5 rfl) ?_
        refine lv_iconst (v := 4) hx hb d_Block_makeLevels_26 (by decide) ?_
        refine lv_idiv hx hb d_Block_makeLevels_27 (by decide) ?_
        refine lv_iadd hx hb d_Block_makeLevels_28 ?_
        refine cs_top (y := nI (y + k / 4)) (cs_addq y k (by omega)) ?_
        refine cs_Vi (As := [.int (nI (x + k % 4)), .int (nI (y + k / 4))]) (rest := [.int (nI k), .ref b6]) (wr := [(b1, .inr (1, [.ref b2, .ref b3, .ref b4, .ref b5, .ref b6, .int vr, .int vc, .int vcr])), (b2, .inl (cI, 4, .inl ab)), (b3, .inl (cI, 4, .inl lf)), (b4, .inl (cI, 16, .inl fo)), (b5, .inl (cI, 16, .inl lv)), (b6, .inl (cI, 16, .inl f))]) ⟨hx, hb, hml, hown, hts⟩ (c_pic_look l hcI a1 a2 a3 px md vz (nI wn) (nI hn) vk (x + k % 4) (y + k / 4) (by omega) (by omega) (nI_lt (by omega) (by omega)) (nI_lt (by omega) (by omega))) (cwV 2 hts (cs_gV mw_194 mw_195 mw_196 mw_93 mw_92) rfl rfl rfl ⟨rfl, hd_Picture_look⟩ ⟨Nat.le_of_ble_eq_true rfl, Nat.le_of_ble_eq_true rfl⟩) hN hK hP hD hS hA [6, 7, 8] [0, 1, 2, 3, 4, 5] rfl rfl rfl rfl (by decide) (ci := 5) rfl rfl rfl rfl rfl hl.1 (Nat.le_of_ble_eq_true rfl) d_Block_makeLevels_29 ⟨Nat.le_of_ble_eq_true rfl, Nat.le_of_ble_eq_true rfl⟩ (fun r2 w1 H locs hw hP hD hS => ?_)
        obtain ⟨rfl, rfl⟩ := hw
        have hP : va_P D vwCl [(b1, .inr (1, [.ref b2, .ref b3, .ref b4, .ref b5, .ref b6, .int vr, .int vc, .int vcr])), (b2, .inl (cI, 4, .inl ab)), (b3, .inl (cI, 4, .inl lf)), (b4, .inl (cI, 16, .inl fo)), (b5, .inl (cI, 16, .inl lv)), (b6, .inl (cI, 16, .inl f)), (a1, .inr (5, [.ref a2, .ref a3, .int vz, .int (nI wn), .int (nI hn), .int vk])), (a2, .inl (cI, 144, .inl px)), (a3, .inl (cI, 9, .inl md))] H := hP
        have hD : va_D A [(b1, .inr (1, [.ref b2, .ref b3, .ref b4, .ref b5, .ref b6, .int vr, .int vc, .int vcr])), (b2, .inl (cI, 4, .inl ab)), (b3, .inl (cI, 4, .inl lf)), (b4, .inl (cI, 16, .inl fo)), (b5, .inl (cI, 16, .inl lv)), (b6, .inl (cI, 16, .inl f)), (a1, .inr (5, [.ref a2, .ref a3, .int vz, .int (nI wn), .int (nI hn), .int vk])), (a2, .inl (cI, 144, .inl px)), (a3, .inl (cI, 9, .inl md))] := hD
        refine lv_aload_n hx hb d_Block_makeLevels_32 rfl (lv_at hl 0 rfl) ?_
        refine va_get (D := D) (ci := 1) (v := .ref b4) (C := "TileForge$Block") (T := T_Block) (N := 8) hx hb hts (cs_in in_Block) hown hK hP 0 rfl rfl 2 (by decide) (hts _ (cs_m mw_187)) (fun _ h9 => h9) rfl d_Block_makeLevels_33 ?_
        refine lv_iload hx hb d_Block_makeLevels_36 (lv_at hl 5 rfl) ?_
        refine cs_iald (j := k) hx hb hK hcI hP 3 rfl (rfl) (hk2) (by decide) d_Block_makeLevels_38 ?_
        refine lv_isub hx hb d_Block_makeLevels_39 ?_
        refine cs_iast (j := k) hx hb hK hcI hP hD hS 5 rfl (rfl) (hk2) (by decide) d_Block_makeLevels_40 (fun H locs hP hD hS => ?_)
        have hP : va_P D vwCl [(b1, .inr (1, [.ref b2, .ref b3, .ref b4, .ref b5, .ref b6, .int vr, .int vc, .int vcr])), (b2, .inl (cI, 4, .inl ab)), (b3, .inl (cI, 4, .inl lf)), (b4, .inl (cI, 16, .inl fo)), (b5, .inl (cI, 16, .inl lv)), (b6, .inl (cI, 16, .inl (upd f k ((px ((y + k / 4) * 12 + (x + k % 4))) - (fo k))))), (a1, .inr (5, [.ref a2, .ref a3, .int vz, .int (nI wn), .int (nI hn), .int vk])), (a2, .inl (cI, 144, .inl px)), (a3, .inl (cI, 9, .inl md))] H := hP
        have hD : va_D A [(b1, .inr (1, [.ref b2, .ref b3, .ref b4, .ref b5, .ref b6, .int vr, .int vc, .int vcr])), (b2, .inl (cI, 4, .inl ab)), (b3, .inl (cI, 4, .inl lf)), (b4, .inl (cI, 16, .inl fo)), (b5, .inl (cI, 16, .inl lv)), (b6, .inl (cI, 16, .inl (upd f k ((px ((y + k / 4) * 12 + (x + k % 4))) - (fo k))))), (a1, .inr (5, [.ref a2, .ref a3, .int vz, .int (nI wn), .int (nI hn), .int vk])), (a2, .inl (cI, 144, .inl px)), (a3, .inl (cI, 9, .inl md))] := hD
        refine lv_iinc (v := nI (k + 1)) (lv' := [(5, .int (nI (k + 1))), (0, .ref b1), (1, .ref a1), (2, .int (nI x)), (3, .int (nI y)), (4, .int q)]) hx hb d_Block_makeLevels_41 hl (k := 5) rfl (nI_1 _) (by decide) rfl (fun ls hl => ?_)
        refine lv_goto (tgt := 3) hx hb d_Block_makeLevels_44 (by decide) ?_
        exact ih3 (k + 1) (upd f k ((px ((y + k / 4) * 12 + (x + k % 4))) - (fo k))) (by omega) (by omega) (cs_ext (g := fun j => px ((y + j / 4) * 12 + (x + j % 4)) - fo j) h1 rfl) _ _ _ (hP.sub (ws' := [(b1, .inr (1, [.ref b2, .ref b3, .ref b4, .ref b5, .ref b6, .int vr, .int vc, .int vcr])), (b2, .inl (cI, 4, .inl ab)), (b3, .inl (cI, 4, .inl lf)), (b4, .inl (cI, 16, .inl fo)), (b5, .inl (cI, 16, .inl lv)), (b6, .inl (cI, 16, .inl (upd f k ((px ((y + k / 4) * 12 + (x + k % 4))) - (fo k))))), (a1, .inr (5, [.ref a2, .ref a3, .int vz, .int (nI wn), .int (nI hn), .int vk])), (a2, .inl (cI, 144, .inl px)), (a3, .inl (cI, 9, .inl md))]) [0, 1, 2, 3, 4, 5, 6, 7, 8] rfl) (hD.sub (ws' := [(b1, .inr (1, [.ref b2, .ref b3, .ref b4, .ref b5, .ref b6, .int vr, .int vc, .int vcr])), (b2, .inl (cI, 4, .inl ab)), (b3, .inl (cI, 4, .inl lf)), (b4, .inl (cI, 16, .inl fo)), (b5, .inl (cI, 16, .inl lv)), (b6, .inl (cI, 16, .inl (upd f k ((px ((y + k / 4) * 12 + (x + k % 4))) - (fo k))))), (a1, .inr (5, [.ref a2, .ref a3, .int vz, .int (nI wn), .int (nI hn), .int vk])), (a2, .inl (cI, 144, .inl px)), (a3, .inl (cI, 9, .inl md))]) [0, 1, 2, 3, 4, 5, 6, 7, 8] (by decide) rfl) hS (lv_sub hl [1, 2, 3, 4, 5, 0] rfl)
  exact lp3 (17) 0 wk (by omega) (by omega) (fun j hj => absurd hj (by omega)) _ _ _ (hP.sub (ws' := [(b1, .inr (1, [.ref b2, .ref b3, .ref b4, .ref b5, .ref b6, .int vr, .int vc, .int vcr])), (b2, .inl (cI, 4, .inl ab)), (b3, .inl (cI, 4, .inl lf)), (b4, .inl (cI, 16, .inl fo)), (b5, .inl (cI, 16, .inl lv)), (b6, .inl (cI, 16, .inl wk)), (a1, .inr (5, [.ref a2, .ref a3, .int vz, .int (nI wn), .int (nI hn), .int vk])), (a2, .inl (cI, 144, .inl px)), (a3, .inl (cI, 9, .inl md))]) [0, 1, 2, 3, 4, 5, 6, 7, 8] rfl) (hD.sub (ws' := [(b1, .inr (1, [.ref b2, .ref b3, .ref b4, .ref b5, .ref b6, .int vr, .int vc, .int vcr])), (b2, .inl (cI, 4, .inl ab)), (b3, .inl (cI, 4, .inl lf)), (b4, .inl (cI, 16, .inl fo)), (b5, .inl (cI, 16, .inl lv)), (b6, .inl (cI, 16, .inl wk)), (a1, .inr (5, [.ref a2, .ref a3, .int vz, .int (nI wn), .int (nI hn), .int vk])), (a2, .inl (cI, 144, .inl px)), (a3, .inl (cI, 9, .inl md))]) [0, 1, 2, 3, 4, 5, 6, 7, 8] (by decide) rfl) hS (lv_sub hl [1, 2, 3, 4, 5, 0] rfl)
def y_Block_rebuild : MethodName := ⟨"TileForge$Block", "rebuild", "(LTileForge$Picture;III)V"⟩
def ws_Block_rebuild : List Cond := .code y_Block_rebuild prog_3_method_8_code 7 none :: GW
theorem mw_225 : (.code ⟨"TileForge$Block", "rebuild", "(LTileForge$Picture;III)V"⟩ prog_3_method_8_code 7 none : Cond) ∈ GW := List.mem_filter.mpr ⟨(List.mem_append_right _ (List.mem_append_right _ (List.mem_append_right _ (List.mem_append_left _ (List.mem_of_getElem? (i := 4) rfl))))), rfl⟩
theorem hd_Block_rebuild : y_Block_rebuild.cls ≠ "java/lang/invoke/MethodHandle" ∧ y_Block_rebuild.cls ≠ "java/lang/invoke/VarHandle" ∧ (parseMethodDescriptor y_Block_rebuild.desc).map (fun d => d.parameters.length) = some 4 := by decide +kernel
theorem d_Block_rebuild_0 : decode prog_3_method_8_code 0 = .ok (.iconst 0, 1) := by decide +kernel
theorem d_Block_rebuild_1 : decode prog_3_method_8_code 1 = .ok (.istore 5, 2) := by decide +kernel
theorem d_Block_rebuild_3 : decode prog_3_method_8_code 3 = .ok (.iload 5, 2) := by decide +kernel
theorem d_Block_rebuild_5 : decode prog_3_method_8_code 5 = .ok (.bipush 16, 2) := by decide +kernel
theorem d_Block_rebuild_7 : decode prog_3_method_8_code 7 = .ok (.if_icmp .ge 28, 3) := by decide +kernel
theorem d_Block_rebuild_10 : decode prog_3_method_8_code 10 = .ok (.aload_n 0, 1) := by decide +kernel
theorem d_Block_rebuild_11 : decode prog_3_method_8_code 11 = .ok (.getfield 24, 3) := by decide +kernel
theorem d_Block_rebuild_14 : decode prog_3_method_8_code 14 = .ok (.iload 5, 2) := by decide +kernel
theorem d_Block_rebuild_16 : decode prog_3_method_8_code 16 = .ok (.aload_n 0, 1) := by decide +kernel
theorem d_Block_rebuild_17 : decode prog_3_method_8_code 17 = .ok (.getfield 21, 3) := by decide +kernel
theorem d_Block_rebuild_20 : decode prog_3_method_8_code 20 = .ok (.iload 5, 2) := by decide +kernel
theorem d_Block_rebuild_22 : decode prog_3_method_8_code 22 = .ok (.iaload, 1) := by decide +kernel
theorem d_Block_rebuild_23 : decode prog_3_method_8_code 23 = .ok (.iconst 1, 1) := by decide +kernel
theorem d_Block_rebuild_24 : decode prog_3_method_8_code 24 = .ok (.iload 4, 2) := by decide +kernel
theorem d_Block_rebuild_26 : decode prog_3_method_8_code 26 = .ok (.ishl, 1) := by decide +kernel
theorem d_Block_rebuild_27 : decode prog_3_method_8_code 27 = .ok (.imul, 1) := by decide +kernel
theorem d_Block_rebuild_28 : decode prog_3_method_8_code 28 = .ok (.iastore, 1) := by decide +kernel
theorem d_Block_rebuild_29 : decode prog_3_method_8_code 29 = .ok (.iinc 5 1, 3) := by decide +kernel
theorem d_Block_rebuild_32 : decode prog_3_method_8_code 32 = .ok (.goto (-29), 3) := by decide +kernel
theorem d_Block_rebuild_35 : decode prog_3_method_8_code 35 = .ok (.aload_n 0, 1) := by decide +kernel
theorem d_Block_rebuild_36 : decode prog_3_method_8_code 36 = .ok (.invokevirtual 65, 3) := by decide +kernel
theorem d_Block_rebuild_39 : decode prog_3_method_8_code 39 = .ok (.iconst 0, 1) := by decide +kernel
theorem d_Block_rebuild_40 : decode prog_3_method_8_code 40 = .ok (.istore 5, 2) := by decide +kernel
theorem d_Block_rebuild_42 : decode prog_3_method_8_code 42 = .ok (.iload 5, 2) := by decide +kernel
theorem d_Block_rebuild_44 : decode prog_3_method_8_code 44 = .ok (.bipush 16, 2) := by decide +kernel
theorem d_Block_rebuild_46 : decode prog_3_method_8_code 46 = .ok (.if_icmp .ge 52, 3) := by decide +kernel
theorem d_Block_rebuild_49 : decode prog_3_method_8_code 49 = .ok (.aload_n 0, 1) := by decide +kernel
theorem d_Block_rebuild_50 : decode prog_3_method_8_code 50 = .ok (.getfield 18, 3) := by decide +kernel
theorem d_Block_rebuild_53 : decode prog_3_method_8_code 53 = .ok (.iload 5, 2) := by decide +kernel
theorem d_Block_rebuild_55 : decode prog_3_method_8_code 55 = .ok (.iaload, 1) := by decide +kernel
theorem d_Block_rebuild_56 : decode prog_3_method_8_code 56 = .ok (.aload_n 0, 1) := by decide +kernel
theorem d_Block_rebuild_57 : decode prog_3_method_8_code 57 = .ok (.getfield 24, 3) := by decide +kernel
theorem d_Block_rebuild_60 : decode prog_3_method_8_code 60 = .ok (.iload 5, 2) := by decide +kernel
theorem d_Block_rebuild_62 : decode prog_3_method_8_code 62 = .ok (.iaload, 1) := by decide +kernel
theorem d_Block_rebuild_63 : decode prog_3_method_8_code 63 = .ok (.bipush 8, 2) := by decide +kernel
theorem d_Block_rebuild_65 : decode prog_3_method_8_code 65 = .ok (.iadd, 1) := by decide +kernel
theorem d_Block_rebuild_66 : decode prog_3_method_8_code 66 = .ok (.iconst 4, 1) := by decide +kernel
theorem d_Block_rebuild_67 : decode prog_3_method_8_code 67 = .ok (.ishr, 1) := by decide +kernel
theorem d_Block_rebuild_68 : decode prog_3_method_8_code 68 = .ok (.iadd, 1) := by decide +kernel
theorem d_Block_rebuild_69 : decode prog_3_method_8_code 69 = .ok (.invokestatic 48, 3) := by decide +kernel
theorem d_Block_rebuild_72 : decode prog_3_method_8_code 72 = .ok (.istore 6, 2) := by decide +kernel
theorem d_Block_rebuild_74 : decode prog_3_method_8_code 74 = .ok (.aload_n 1, 1) := by decide +kernel
theorem d_Block_rebuild_75 : decode prog_3_method_8_code 75 = .ok (.iload_n 2, 1) := by decide +kernel
theorem d_Block_rebuild_76 : decode prog_3_method_8_code 76 = .ok (.iload 5, 2) := by decide +kernel
theorem d_Block_rebuild_78 : decode prog_3_method_8_code 78 = .ok (.iconst 4, 1) := by decide +kernel
theorem d_Block_rebuild_79 : decode prog_3_method_8_code 79 = .ok (.irem, 1) := by decide +kernel
theorem d_Block_rebuild_80 : decode prog_3_method_8_code 80 = .ok (.iadd, 1) := by decide +kernel
theorem d_Block_rebuild_81 : decode prog_3_method_8_code 81 = .ok (.iload_n 3, 1) := by decide +kernel
theorem d_Block_rebuild_82 : decode prog_3_method_8_code 82 = .ok (.iload 5, 2) := by decide +kernel
theorem d_Block_rebuild_84 : decode prog_3_method_8_code 84 = .ok (.iconst 4, 1) := by decide +kernel
theorem d_Block_rebuild_85 : decode prog_3_method_8_code 85 = .ok (.idiv, 1) := by decide +kernel
theorem d_Block_rebuild_86 : decode prog_3_method_8_code 86 = .ok (.iadd, 1) := by decide +kernel
theorem d_Block_rebuild_87 : decode prog_3_method_8_code 87 = .ok (.iload 6, 2) := by decide +kernel
theorem d_Block_rebuild_89 : decode prog_3_method_8_code 89 = .ok (.invokevirtual 68, 3) := by decide +kernel
theorem d_Block_rebuild_92 : decode prog_3_method_8_code 92 = .ok (.iinc 5 1, 3) := by decide +kernel
theorem d_Block_rebuild_95 : decode prog_3_method_8_code 95 = .ok (.goto (-53), 3) := by decide +kernel
theorem d_Block_rebuild_98 : decode prog_3_method_8_code 98 = .ok (.return_, 1) := by decide +kernel
theorem mw_226 : (.methodLink "TileForge$Block" 68 ⟨"TileForge$Picture", "put", "(III)V"⟩ : Cond) ∈ GW := List.mem_filter.mpr ⟨(List.mem_append_right _ (List.mem_append_right _ (List.mem_append_right _ (List.mem_append_left _ (List.mem_of_getElem? (i := 5) rfl))))), rfl⟩
theorem mw_227 : (.instanceMethod ⟨"TileForge$Picture", "put", "(III)V"⟩ : Cond) ∈ GW := List.mem_filter.mpr ⟨(List.mem_append_right _ (List.mem_append_right _ (List.mem_append_left _ (List.mem_of_getElem? (i := 121) rfl)))), rfl⟩
theorem mw_228 : (.selects "TileForge$Picture" ⟨"TileForge$Picture", "put", "(III)V"⟩ ⟨"TileForge$Picture", "put", "(III)V"⟩ : Cond) ∈ GW := List.mem_filter.mpr ⟨(List.mem_append_right _ (List.mem_append_right _ (List.mem_append_left _ (List.mem_of_getElem? (i := 122) rfl)))), rfl⟩
def q_bl_reb (cI : ClassId) (b1 : Nat) (b2 : Nat) (b3 : Nat) (b4 : Nat) (b5 : Nat) (b6 : Nat) (ab : Nat → Int32) (lf : Nat → Int32) (fo : Nat → Int32) (lv : Nat → Int32) (wk : Nat → Int32) (vr : Int32) (vc : Int32) (vcr : Int32) (a1 : Nat) (a2 : Nat) (a3 : Nat) (px : Nat → Int32) (md : Nat → Int32) (vz : Int32) (vk : Int32) (wn : Nat) (hn : Nat) (x : Nat) (y : Nat) (q : Int32) : va_W → Prop := fun ww => ∃ (wk' : Nat → Int32) (px' : Nat → Int32), (∃ w0 : Nat → Int32, (∀ j, j < 16 → w0 j = lv j * (1 <<< (q &&& 31))) ∧ px' = putF px x y (fun j => clip (fo j + ((trC (trR w0 4) 4 j + 8) >>> (4 &&& 31)))) 16) ∧ ww = [(b1, .inr (1, [.ref b2, .ref b3, .ref b4, .ref b5, .ref b6, .int vr, .int vc, .int vcr])), (b2, .inl (cI, 4, .inl ab)), (b3, .inl (cI, 4, .inl lf)), (b4, .inl (cI, 16, .inl fo)), (b5, .inl (cI, 16, .inl lv)), (b6, .inl (cI, 16, .inl wk')), (a1, .inr (5, [.ref a2, .ref a3, .int vz, .int (nI wn), .int (nI hn), .int vk])), (a2, .inl (cI, 144, .inl px')), (a3, .inl (cI, 9, .inl md))]
set_option maxHeartbeats 4000000 in
set_option maxRecDepth 100000 in
theorem c_bl_reb (l : Launch) {D : va_G} {tys : List (ClassId × FieldType)} {cI : ClassId} (hcI : tys[0]? = some (cI, .int)) (b1 : Nat) (b2 : Nat) (b3 : Nat) (b4 : Nat) (b5 : Nat) (b6 : Nat) (ab : Nat → Int32) (lf : Nat → Int32) (fo : Nat → Int32) (lv : Nat → Int32) (wk : Nat → Int32) (vr : Int32) (vc : Int32) (vcr : Int32) (a1 : Nat) (a2 : Nat) (a3 : Nat) (px : Nat → Int32) (md : Nat → Int32) (vz : Int32) (vk : Int32) (wn : Nat) (hn : Nat) (x : Nat) (y : Nat) (q : Int32) (hx4 : x + 4 ≤ wn) (hwn : wn ≤ 12) (hy4 : y + 4 ≤ hn) (hhn : hn ≤ 12) : CsV l D vwCl tys y_Block_rebuild ws_Block_rebuild ({ frames := 2, cells := 0, slots := 0, locals := 50 } : Room) [.ref b1, .ref a1, .int (nI x), .int (nI y), .int q] [(b1, .inr (1, [.ref b2, .ref b3, .ref b4, .ref b5, .ref b6, .int vr, .int vc, .int vcr])), (b2, .inl (cI, 4, .inl ab)), (b3, .inl (cI, 4, .inl lf)), (b4, .inl (cI, 16, .inl fo)), (b5, .inl (cI, 16, .inl lv)), (b6, .inl (cI, 16, .inl wk)), (a1, .inr (5, [.ref a2, .ref a3, .int vz, .int (nI wn), .int (nI hn), .int vk])), (a2, .inl (cI, 144, .inl px)), (a3, .inl (cI, 9, .inl md))] (q_bl_reb cI b1 b2 b3 b4 b5 b6 ab lf fo lv wk vr vc vcr a1 a2 a3 px md vz vk wn hn x y q) 0 0 := by
  intro sz
  refine Met.ofW (cc := prog_3_method_8_code) (maxL := 7) (ret := none) (by decide) rfl ?_
  intro p e s m args below meth c s₁ B hml hv
  obtain ⟨rfl, hsz, hP, hK, hD0, hN⟩ := hv
  have hx := B.exec
  have hb := B.bytes
  have hr := B.returns
  have hts := atoms_spec (ws := ws_Block_rebuild) B.pre
  have hown : s.vm.findClass "TileForge$Block" = some m.cls := findClass_of_methodNamed B.named
  have hlocks := B.notSynchronized
  subst hsz
  have hD := hD0.self (sz := s.heap.size)
  generalize hAe : va_A [(b1, .inr (1, [.ref b2, .ref b3, .ref b4, .ref b5, .ref b6, .int vr, .int vc, .int vcr])), (b2, .inl (cI, 4, .inl ab)), (b3, .inl (cI, 4, .inl lf)), (b4, .inl (cI, 16, .inl fo)), (b5, .inl (cI, 16, .inl lv)), (b6, .inl (cI, 16, .inl wk)), (a1, .inr (5, [.ref a2, .ref a3, .int vz, .int (nI wn), .int (nI hn), .int vk])), (a2, .inl (cI, 144, .inl px)), (a3, .inl (cI, 9, .inl md))] s.heap.size = A at hD ⊢
  have hA : ∀ q : Nat, s.heap.size ≤ q → A q := fun q h => by rw [← hAe]; exact Or.inr h
  have hS : va_S A s.heap s.heap [] := va_S.rf
  have hP : va_P D vwCl [(b1, .inr (1, [.ref b2, .ref b3, .ref b4, .ref b5, .ref b6, .int vr, .int vc, .int vcr])), (b2, .inl (cI, 4, .inl ab)), (b3, .inl (cI, 4, .inl lf)), (b4, .inl (cI, 16, .inl fo)), (b5, .inl (cI, 16, .inl lv)), (b6, .inl (cI, 16, .inl wk)), (a1, .inr (5, [.ref a2, .ref a3, .int vz, .int (nI wn), .int (nI hn), .int vk])), (a2, .inl (cI, 144, .inl px)), (a3, .inl (cI, 9, .inl md))] s.heap := hP
  have hl := lv_entry ([.ref b1, .ref a1, .int (nI x), .int (nI y), .int q]) (n := 7) (Nat.le_of_ble_eq_true rfl)
  rw [lg_entry_eq]
  generalize (lg_sl ([.ref b1, .ref a1, .int (nI x), .int (nI y), .int q]) ++ List.replicate (7 - (lg_sl ([.ref b1, .ref a1, .int (nI x), .int (nI y), .int q])).length) Slot.unset).toArray = ls at hl ⊢
  have hl : lv_has ls 7 [(0, .ref b1), (1, .ref a1), (2, .int (nI x)), (3, .int (nI y)), (4, .int q)] := hl
  refine lv_iconst (v := 0) hx hb d_Block_rebuild_0 (by decide) ?_
  refine lv_istore (lv' := [(5, .int 0), (0, .ref b1), (1, .ref a1), (2, .int (nI x)), (3, .int (nI y)), (4, .int q)]) hx hb d_Block_rebuild_1 hl (by decide) rfl (fun ls hl => ?_)
  have lp3 : ∀ (n : Nat) (k : Nat) (f : Nat → Int32), (17 ≤ k + n) → (k ≤ 16) → (∀ j, j < k → f j = lv j * (1 <<< (q &&& 31))) → ∀ (H : Heap) (locs : List Loc) (ls : Array Slot), va_P D vwCl [(b1, .inr (1, [.ref b2, .ref b3, .ref b4, .ref b5, .ref b6, .int vr, .int vc, .int vcr])), (b2, .inl (cI, 4, .inl ab)), (b3, .inl (cI, 4, .inl lf)), (b4, .inl (cI, 16, .inl fo)), (b5, .inl (cI, 16, .inl lv)), (b6, .inl (cI, 16, .inl f)), (a1, .inr (5, [.ref a2, .ref a3, .int vz, .int (nI wn), .int (nI hn), .int vk])), (a2, .inl (cI, 144, .inl px)), (a3, .inl (cI, 9, .inl md))] H → va_D A [(b1, .inr (1, [.ref b2, .ref b3, .ref b4, .ref b5, .ref b6, .int vr, .int vc, .int vcr])), (b2, .inl (cI, 4, .inl ab)), (b3, .inl (cI, 4, .inl lf)), (b4, .inl (cI, 16, .inl fo)), (b5, .inl (cI, 16, .inl lv)), (b6, .inl (cI, 16, .inl f)), (a1, .inr (5, [.ref a2, .ref a3, .int vz, .int (nI wn), .int (nI hn), .int vk])), (a2, .inl (cI, 144, .inl px)), (a3, .inl (cI, 9, .inl md))] → va_S A s.heap H locs → lv_has ls 7 [(0, .ref b1), (1, .ref a1), (2, .int (nI x)), (3, .int (nI y)), (4, .int q), (5, .int (nI k))] → W p l e ({ frames := 2, cells := 0, slots := 0, locals := 50 } : Room) s m ([.ref b1, .ref a1, .int (nI x), .int (nI y), .int q] : List Value).toArray below meth c H locs 0 0 (MQ below (va_Qv (q_bl_reb cI b1 b2 b3 b4 b5 b6 ab lf fo lv wk vr vc vcr a1 a2 a3 px md vz vk wn hn x y q) (cs_B D vwCl tys A) A) ([.ref b1, .ref a1, .int (nI x), .int (nI y), .int q] : List Value).toArray s 0 0 A) (F0 m 3 ls []) := by
    intro n
    induction n with
    | zero =>
      intro k f hf hk h1
      exact absurd hf (by omega)
    | succ n ih3 =>
      intro k f hf hk h1 H locs ls hP hD hS hl
      refine lv_iload hx hb d_Block_rebuild_3 (lv_at hl 5 rfl) ?_
      refine lv_bipush (v := 16) hx hb d_Block_rebuild_5 (by decide) ?_
      refine lv_icmp_ge (tgt := 35) hx hb d_Block_rebuild_7 (by decide) (fun c_7 => ?_) (fun c_7 => ?_)
      · have hk2 := (nI_leI (a := 16) (b := k) (by decide) (by omega)).mp c_7
        have hk3 : k = 16 := by omega
        subst hk3
        refine lv_aload_n hx hb d_Block_rebuild_35 rfl (lv_at hl 0 rfl) ?_
        refine cs_Vv (As := []) (rest := []) (wr := [(a1, .inr (5, [.ref a2, .ref a3, .int vz, .int (nI wn), .int (nI hn), .int vk])), (a2, .inl (cI, 144, .inl px)), (a3, .inl (cI, 9, .inl md))]) ⟨hx, hb, hml, hown, hts⟩ (c_bl_trans l hcI b1 b2 b3 b4 b5 b6 ab lf fo lv f vr vc vcr) (cwV 0 hts (cs_gV mw_222 mw_223 mw_224 mw_199 mw_216) rfl rfl rfl ⟨rfl, hd_Block_transform⟩ ⟨Nat.le_of_ble_eq_true rfl, Nat.le_of_ble_eq_true rfl⟩) hN hK hP hD hS hA [0, 1, 2, 3, 4, 5] [6, 7, 8] rfl rfl rfl rfl (by decide) (ci := 1) rfl rfl rfl rfl rfl hl.1 (Nat.le_of_ble_eq_true rfl) d_Block_rebuild_36 ⟨Nat.le_of_ble_eq_true rfl, Nat.le_of_ble_eq_true rfl⟩ (fun w1 H locs hw hP hD hS => ?_)
        obtain rfl := hw
        have hP : va_P D vwCl [(a1, .inr (5, [.ref a2, .ref a3, .int vz, .int (nI wn), .int (nI hn), .int vk])), (a2, .inl (cI, 144, .inl px)), (a3, .inl (cI, 9, .inl md)), (b1, .inr (1, [.ref b2, .ref b3, .ref b4, .ref b5, .ref b6, .int vr, .int vc, .int vcr])), (b2, .inl (cI, 4, .inl ab)), (b3, .inl (cI, 4, .inl lf)), (b4, .inl (cI, 16, .inl fo)), (b5, .inl (cI, 16, .inl lv)), (b6, .inl (cI, 16, .inl (trC (trR f 4) 4)))] H := hP
        have hD : va_D A [(a1, .inr (5, [.ref a2, .ref a3, .int vz, .int (nI wn), .int (nI hn), .int vk])), (a2, .inl (cI, 144, .inl px)), (a3, .inl (cI, 9, .inl md)), (b1, .inr (1, [.ref b2, .ref b3, .ref b4, .ref b5, .ref b6, .int vr, .int vc, .int vcr])), (b2, .inl (cI, 4, .inl ab)), (b3, .inl (cI, 4, .inl lf)), (b4, .inl (cI, 16, .inl fo)), (b5, .inl (cI, 16, .inl lv)), (b6, .inl (cI, 16, .inl (trC (trR f 4) 4)))] := hD
        refine lv_iconst (v := 0) hx hb d_Block_rebuild_39 (by decide) ?_
        refine lv_istore (lv' := [(5, .int 0), (0, .ref b1), (1, .ref a1), (2, .int (nI x)), (3, .int (nI y)), (4, .int q)]) hx hb d_Block_rebuild_40 hl (by decide) rfl (fun ls hl => ?_)
        have lp42 : ∀ (n : Nat) (k : Nat), (17 ≤ k + n) → (k ≤ 16) → ∀ (H : Heap) (locs : List Loc) (ls : Array Slot), va_P D vwCl [(b1, .inr (1, [.ref b2, .ref b3, .ref b4, .ref b5, .ref b6, .int vr, .int vc, .int vcr])), (b2, .inl (cI, 4, .inl ab)), (b3, .inl (cI, 4, .inl lf)), (b4, .inl (cI, 16, .inl fo)), (b5, .inl (cI, 16, .inl lv)), (b6, .inl (cI, 16, .inl (trC (trR f 4) 4))), (a1, .inr (5, [.ref a2, .ref a3, .int vz, .int (nI wn), .int (nI hn), .int vk])), (a2, .inl (cI, 144, .inl (putF px x y (fun j => clip (fo j + ((trC (trR f 4) 4 j + 8) >>> (4 &&& 31)))) k))), (a3, .inl (cI, 9, .inl md))] H → va_D A [(b1, .inr (1, [.ref b2, .ref b3, .ref b4, .ref b5, .ref b6, .int vr, .int vc, .int vcr])), (b2, .inl (cI, 4, .inl ab)), (b3, .inl (cI, 4, .inl lf)), (b4, .inl (cI, 16, .inl fo)), (b5, .inl (cI, 16, .inl lv)), (b6, .inl (cI, 16, .inl (trC (trR f 4) 4))), (a1, .inr (5, [.ref a2, .ref a3, .int vz, .int (nI wn), .int (nI hn), .int vk])), (a2, .inl (cI, 144, .inl (putF px x y (fun j => clip (fo j + ((trC (trR f 4) 4 j + 8) >>> (4 &&& 31)))) k))), (a3, .inl (cI, 9, .inl md))] → va_S A s.heap H locs → lv_has ls 7 [(0, .ref b1), (1, .ref a1), (2, .int (nI x)), (3, .int (nI y)), (4, .int q), (5, .int (nI k))] → W p l e ({ frames := 2, cells := 0, slots := 0, locals := 50 } : Room) s m ([.ref b1, .ref a1, .int (nI x), .int (nI y), .int q] : List Value).toArray below meth c H locs 0 0 (MQ below (va_Qv (q_bl_reb cI b1 b2 b3 b4 b5 b6 ab lf fo lv wk vr vc vcr a1 a2 a3 px md vz vk wn hn x y q) (cs_B D vwCl tys A) A) ([.ref b1, .ref a1, .int (nI x), .int (nI y), .int q] : List Value).toArray s 0 0 A) (F0 m 42 ls []) := by
          intro n
          induction n with
          | zero =>
            intro k hf hk
            exact absurd hf (by omega)
          | succ n ih42 =>
            intro k hf hk H locs ls hP hD hS hl
            refine lv_iload hx hb d_Block_rebuild_42 (lv_at hl 5 rfl) ?_
            refine lv_bipush (v := 16) hx hb d_Block_rebuild_44 (by decide) ?_
            refine lv_icmp_ge (tgt := 98) hx hb d_Block_rebuild_46 (by decide) (fun c_46 => ?_) (fun c_46 => ?_)
            · have hk2 := (nI_leI (a := 16) (b := k) (by decide) (by omega)).mp c_46
              have hk3 : k = 16 := by omega
              subst hk3
              exact W.vret hx hb hr (fun t ht hW => ⟨⟨[(b1, .inr (1, [.ref b2, .ref b3, .ref b4, .ref b5, .ref b6, .int vr, .int vc, .int vcr])), (b2, .inl (cI, 4, .inl ab)), (b3, .inl (cI, 4, .inl lf)), (b4, .inl (cI, 16, .inl fo)), (b5, .inl (cI, 16, .inl lv)), (b6, .inl (cI, 16, .inl (trC (trR f 4) 4))), (a1, .inr (5, [.ref a2, .ref a3, .int vz, .int (nI wn), .int (nI hn), .int vk])), (a2, .inl (cI, 144, .inl (putF px x y (fun j => clip (fo j + ((trC (trR f 4) 4 j + 8) >>> (4 &&& 31)))) 16))), (a3, .inl (cI, 9, .inl md))], rfl, ⟨(trC (trR f 4) 4), (putF px x y (fun j => clip (fo j + ((trC (trR f 4) 4 j + 8) >>> (4 &&& 31)))) 16), (⟨f, h1, rfl⟩), (rfl)⟩, by rw [ht]; exact hP, va_K.moved hW.alike hK, hD⟩, hS.F ht⟩) hS.2.2 d_Block_rebuild_98
            · have hk2 : k < 16 := Nat.not_le.mp (fun h => c_46 ((nI_leI (a := 16) (b := k) (by decide) (by omega)).mpr h))
              refine lv_aload_n hx hb d_Block_rebuild_49 rfl (lv_at hl 0 rfl) ?_
              refine va_get (D := D) (ci := 1) (v := .ref b4) (C := "TileForge$Block") (T := T_Block) (N := 8) hx hb hts (cs_in in_Block) hown hK hP 0 rfl rfl 2 (by decide) (hts _ (cs_m mw_187)) (fun _ h9 => h9) rfl d_Block_rebuild_50 ?_
              refine lv_iload hx hb d_Block_rebuild_53 (lv_at hl 5 rfl) ?_
              refine cs_iald (j := k) hx hb hK hcI hP 3 rfl (rfl) (hk2) (by decide) d_Block_rebuild_55 ?_
              refine lv_aload_n hx hb d_Block_rebuild_56 rfl (lv_at hl 0 rfl) ?_
              refine va_get (D := D) (ci := 1) (v := .ref b6) (C := "TileForge$Block") (T := T_Block) (N := 8) hx hb hts (cs_in in_Block) hown hK hP 0 rfl rfl 4 (by decide) (hts _ (cs_m mw_189)) (fun _ h9 => h9) rfl d_Block_rebuild_57 ?_
              refine lv_iload hx hb d_Block_rebuild_60 (lv_at hl 5 rfl) ?_
              refine cs_iald (j := k) hx hb hK hcI hP 5 rfl (rfl) (hk2) (by decide) d_Block_rebuild_62 ?_
              refine lv_bipush (v := 8) hx hb d_Block_rebuild_63 (by decide) ?_
              refine lv_iadd hx hb d_Block_rebuild_65 ?_
              refine lv_iconst (v := 4) hx hb d_Block_rebuild_66 (by decide) ?_
              refine lv_ishr hx hb d_Block_rebuild_67 ?_
              refine lv_iadd hx hb d_Block_rebuild_68 ?_
              refine cs_SNi (As := [.int ((fo k) + ((((trC (trR f 4) 4) k) + 8) >>> (4 &&& 31)))]) (rest := []) (wr := [(b1, .inr (1, [.ref b2, .ref b3, .ref b4, .ref b5, .ref b6, .int vr, .int vc, .int vcr])), (b2, .inl (cI, 4, .inl ab)), (b3, .inl (cI, 4, .inl lf)), (b4, .inl (cI, 16, .inl fo)), (b5, .inl (cI, 16, .inl lv)), (b6, .inl (cI, 16, .inl (trC (trR f 4) 4))), (a1, .inr (5, [.ref a2, .ref a3, .int vz, .int (nI wn), .int (nI hn), .int vk])), (a2, .inl (cI, 144, .inl (putF px x y (fun j => clip (fo j + ((trC (trR f 4) 4 j + 8) >>> (4 &&& 31)))) k))), (a3, .inl (cI, 9, .inl md))]) ⟨hx, hb, hml, hown, hts⟩ (c_clipped l hcI ((fo k) + ((((trC (trR f 4) 4) k) + 8) >>> (4 &&& 31)))) (⟨va_cnB 1 hts (cs_g mw_78) rfl rfl rfl (hN _ (List.mem_of_getElem? (i := 11) rfl)) (hts _ (cs_m mw_139)) hd_TileForge_clipped ⟨Nat.le_of_ble_eq_true rfl, Nat.le_of_ble_eq_true rfl⟩, hts _ (cs_m mw_203), trivial⟩) hN hK hP hD hS hA [] [0, 1, 2, 3, 4, 5, 6, 7, 8] rfl rfl rfl rfl (by decide) rfl rfl hl.1 (Nat.le_of_ble_eq_true rfl) d_Block_rebuild_69 ⟨Nat.le_of_ble_eq_true rfl, Nat.le_of_ble_eq_true rfl⟩ (fun r2 w1 H locs hw hP hD hS => ?_)
              obtain ⟨rfl, rfl⟩ := hw
              have hP : va_P D vwCl [(b1, .inr (1, [.ref b2, .ref b3, .ref b4, .ref b5, .ref b6, .int vr, .int vc, .int vcr])), (b2, .inl (cI, 4, .inl ab)), (b3, .inl (cI, 4, .inl lf)), (b4, .inl (cI, 16, .inl fo)), (b5, .inl (cI, 16, .inl lv)), (b6, .inl (cI, 16, .inl (trC (trR f 4) 4))), (a1, .inr (5, [.ref a2, .ref a3, .int vz, .int (nI wn), .int (nI hn), .int vk])), (a2, .inl (cI, 144, .inl (putF px x y (fun j => clip (fo j + ((trC (trR f 4) 4 j + 8) >>> (4 &&& 31)))) k))), (a3, .inl (cI, 9, .inl md))] H := hP
              have hD : va_D A [(b1, .inr (1, [.ref b2, .ref b3, .ref b4, .ref b5, .ref b6, .int vr, .int vc, .int vcr])), (b2, .inl (cI, 4, .inl ab)), (b3, .inl (cI, 4, .inl lf)), (b4, .inl (cI, 16, .inl fo)), (b5, .inl (cI, 16, .inl lv)), (b6, .inl (cI, 16, .inl (trC (trR f 4) 4))), (a1, .inr (5, [.ref a2, .ref a3, .int vz, .int (nI wn), .int (nI hn), .int vk])), (a2, .inl (cI, 144, .inl (putF px x y (fun j => clip (fo j + ((trC (trR f 4) 4 j + 8) >>> (4 &&& 31)))) k))), (a3, .inl (cI, 9, .inl md))] := hD
              refine lv_istore (lv' := [(6, .int (clip ((fo k) + ((((trC (trR f 4) 4) k) + 8) >>> (4 &&& 31))))), (0, .ref b1), (1, .ref a1), (2, .int (nI x)), (3, .int (nI y)), (4, .int q), (5, .int (nI k))]) hx hb d_Block_rebuild_72 hl (by decide) rfl (fun ls hl => ?_)
              refine lv_aload_n hx hb d_Block_rebuild_74 rfl (lv_at hl 2 rfl) ?_
              refine lv_iload_n hx hb d_Block_rebuild_75 rfl (lv_at hl 3 rfl) ?_
              refine lv_iload hx hb d_Block_rebuild_76 (lv_at hl 6 rfl) ?_
              refine lv_iconst (v := 4) hx hb d_Block_rebuild_78 (by decide) ?_
              refine lv_irem hx hb d_Block_rebuild_79 (by decide) ?_
              refine lv_iadd hx hb d_Block_rebuild_80 ?_
              refine cs_top (y := nI (x + k % 4)) (cs_addr x k (by omega)) ?_
              refine lv_iload_n hx hb d_Block_rebuild_81 rfl (lv_at hl 4 rfl) ?_
              refine lv_iload hx hb d_Block_rebuild_82 (lv_at hl 6 rfl) ?_
              refine lv_iconst (v := 4) hx hb d_Block_rebuild_84 (by decide) ?_
              refine lv_idiv hx hb d_Block_rebuild_85 (by decide) ?_
              refine lv_iadd hx hb d_Block_rebuild_86 ?_
              refine cs_top (y := nI (y + k / 4)) (cs_addq y k (by omega)) ?_
              refine lv_iload hx hb d_Block_rebuild_87 (lv_at hl 0 rfl) ?_
              refine cs_Vv (As := [.int (nI (x + k % 4)), .int (nI (y + k / 4)), .int (clip ((fo k) + ((((trC (trR f 4) 4) k) + 8) >>> (4 &&& 31))))]) (rest := []) (wr := [(b1, .inr (1, [.ref b2, .ref b3, .ref b4, .ref b5, .ref b6, .int vr, .int vc, .int vcr])), (b2, .inl (cI, 4, .inl ab)), (b3, .inl (cI, 4, .inl lf)), (b4, .inl (cI, 16, .inl fo)), (b5, .inl (cI, 16, .inl lv)), (b6, .inl (cI, 16, .inl (trC (trR f 4) 4)))]) ⟨hx, hb, hml, hown, hts⟩ (c_pic_put l hcI a1 a2 a3 (putF px x y (fun j => clip (fo j + ((trC (trR f 4) 4 j + 8) >>> (4 &&& 31)))) k) md vz (nI wn) (nI hn) vk (x + k % 4) (y + k / 4) (clip ((fo k) + ((((trC (trR f 4) 4) k) + 8) >>> (4 &&& 31)))) (by omega) (by omega) (nI_lt (by omega) (by omega)) (nI_lt (by omega) (by omega))) (cwV 3 hts (cs_gV mw_226 mw_227 mw_228 mw_93 mw_97) rfl rfl rfl ⟨rfl, hd_Picture_put⟩ ⟨Nat.le_of_ble_eq_true rfl, Nat.le_of_ble_eq_true rfl⟩) hN hK hP hD hS hA [6, 7, 8] [0, 1, 2, 3, 4, 5] rfl rfl rfl rfl (by decide) (ci := 5) rfl rfl rfl rfl rfl hl.1 (Nat.le_of_ble_eq_true rfl) d_Block_rebuild_89 ⟨Nat.le_of_ble_eq_true rfl, Nat.le_of_ble_eq_true rfl⟩ (fun w1 H locs hw hP hD hS => ?_)
              obtain rfl := hw
              have hP : va_P D vwCl [(b1, .inr (1, [.ref b2, .ref b3, .ref b4, .ref b5, .ref b6, .int vr, .int vc, .int vcr])), (b2, .inl (cI, 4, .inl ab)), (b3, .inl (cI, 4, .inl lf)), (b4, .inl (cI, 16, .inl fo)), (b5, .inl (cI, 16, .inl lv)), (b6, .inl (cI, 16, .inl (trC (trR f 4) 4))), (a1, .inr (5, [.ref a2, .ref a3, .int vz, .int (nI wn), .int (nI hn), .int vk])), (a2, .inl (cI, 144, .inl (upd (putF px x y (fun j => clip (fo j + ((trC (trR f 4) 4 j + 8) >>> (4 &&& 31)))) k) ((y + k / 4) * 12 + (x + k % 4)) (clip ((fo k) + ((((trC (trR f 4) 4) k) + 8) >>> (4 &&& 31))))))), (a3, .inl (cI, 9, .inl md))] H := hP
              have hD : va_D A [(b1, .inr (1, [.ref b2, .ref b3, .ref b4, .ref b5, .ref b6, .int vr, .int vc, .int vcr])), (b2, .inl (cI, 4, .inl ab)), (b3, .inl (cI, 4, .inl lf)), (b4, .inl (cI, 16, .inl fo)), (b5, .inl (cI, 16, .inl lv)), (b6, .inl (cI, 16, .inl (trC (trR f 4) 4))), (a1, .inr (5, [.ref a2, .ref a3, .int vz, .int (nI wn), .int (nI hn), .int vk])), (a2, .inl (cI, 144, .inl (upd (putF px x y (fun j => clip (fo j + ((trC (trR f 4) 4 j + 8) >>> (4 &&& 31)))) k) ((y + k / 4) * 12 + (x + k % 4)) (clip ((fo k) + ((((trC (trR f 4) 4) k) + 8) >>> (4 &&& 31))))))), (a3, .inl (cI, 9, .inl md))] := hD
              refine lv_iinc (v := nI (k + 1)) (lv' := [(5, .int (nI (k + 1))), (6, .int (clip ((fo k) + ((((trC (trR f 4) 4) k) + 8) >>> (4 &&& 31))))), (0, .ref b1), (1, .ref a1), (2, .int (nI x)), (3, .int (nI y)), (4, .int q)]) hx hb d_Block_rebuild_92 hl (k := 6) rfl (nI_1 _) (by decide) rfl (fun ls hl => ?_)
              refine lv_goto (tgt := 42) hx hb d_Block_rebuild_95 (by decide) ?_
              exact ih42 (k + 1) (by omega) (by omega) _ _ _ (hP.sub (ws' := [(b1, .inr (1, [.ref b2, .ref b3, .ref b4, .ref b5, .ref b6, .int vr, .int vc, .int vcr])), (b2, .inl (cI, 4, .inl ab)), (b3, .inl (cI, 4, .inl lf)), (b4, .inl (cI, 16, .inl fo)), (b5, .inl (cI, 16, .inl lv)), (b6, .inl (cI, 16, .inl (trC (trR f 4) 4))), (a1, .inr (5, [.ref a2, .ref a3, .int vz, .int (nI wn), .int (nI hn), .int vk])), (a2, .inl (cI, 144, .inl (putF px x y (fun j => clip (fo j + ((trC (trR f 4) 4 j + 8) >>> (4 &&& 31)))) (k + 1)))), (a3, .inl (cI, 9, .inl md))]) [0, 1, 2, 3, 4, 5, 6, 7, 8] rfl) (hD.sub (ws' := [(b1, .inr (1, [.ref b2, .ref b3, .ref b4, .ref b5, .ref b6, .int vr, .int vc, .int vcr])), (b2, .inl (cI, 4, .inl ab)), (b3, .inl (cI, 4, .inl lf)), (b4, .inl (cI, 16, .inl fo)), (b5, .inl (cI, 16, .inl lv)), (b6, .inl (cI, 16, .inl (trC (trR f 4) 4))), (a1, .inr (5, [.ref a2, .ref a3, .int vz, .int (nI wn), .int (nI hn), .int vk])), (a2, .inl (cI, 144, .inl (putF px x y (fun j => clip (fo j + ((trC (trR f 4) 4 j + 8) >>> (4 &&& 31)))) (k + 1)))), (a3, .inl (cI, 9, .inl md))]) [0, 1, 2, 3, 4, 5, 6, 7, 8] (by decide) rfl) hS (lv_sub hl [2, 3, 4, 5, 6, 0] rfl)
        exact lp42 (17) 0 (by omega) (by omega) _ _ _ (hP.sub (ws' := [(b1, .inr (1, [.ref b2, .ref b3, .ref b4, .ref b5, .ref b6, .int vr, .int vc, .int vcr])), (b2, .inl (cI, 4, .inl ab)), (b3, .inl (cI, 4, .inl lf)), (b4, .inl (cI, 16, .inl fo)), (b5, .inl (cI, 16, .inl lv)), (b6, .inl (cI, 16, .inl (trC (trR f 4) 4))), (a1, .inr (5, [.ref a2, .ref a3, .int vz, .int (nI wn), .int (nI hn), .int vk])), (a2, .inl (cI, 144, .inl (putF px x y (fun j => clip (fo j + ((trC (trR f 4) 4 j + 8) >>> (4 &&& 31)))) 0))), (a3, .inl (cI, 9, .inl md))]) [3, 4, 5, 6, 7, 8, 0, 1, 2] rfl) (hD.sub (ws' := [(b1, .inr (1, [.ref b2, .ref b3, .ref b4, .ref b5, .ref b6, .int vr, .int vc, .int vcr])), (b2, .inl (cI, 4, .inl ab)), (b3, .inl (cI, 4, .inl lf)), (b4, .inl (cI, 16, .inl fo)), (b5, .inl (cI, 16, .inl lv)), (b6, .inl (cI, 16, .inl (trC (trR f 4) 4))), (a1, .inr (5, [.ref a2, .ref a3, .int vz, .int (nI wn), .int (nI hn), .int vk])), (a2, .inl (cI, 144, .inl (putF px x y (fun j => clip (fo j + ((trC (trR f 4) 4 j + 8) >>> (4 &&& 31)))) 0))), (a3, .inl (cI, 9, .inl md))]) [3, 4, 5, 6, 7, 8, 0, 1, 2] (by decide) rfl) hS (lv_sub hl [1, 2, 3, 4, 5, 0] rfl)
      · have hk2 : k < 16 := Nat.not_le.mp (fun h => c_7 ((nI_leI (a := 16) (b := k) (by decide) (by omega)).mpr h))
        refine lv_aload_n hx hb d_Block_rebuild_10 rfl (lv_at hl 0 rfl) ?_
        refine va_get (D := D) (ci := 1) (v := .ref b6) (C := "TileForge$Block") (T := T_Block) (N := 8) hx hb hts (cs_in in_Block) hown hK hP 0 rfl rfl 4 (by decide) (hts _ (cs_m mw_189)) (fun _ h9 => h9) rfl d_Block_rebuild_11 ?_
        refine lv_iload hx hb d_Block_rebuild_14 (lv_at hl 5 rfl) ?_
        refine lv_aload_n hx hb d_Block_rebuild_16 rfl (lv_at hl 0 rfl) ?_
        refine va_get (D := D) (ci := 1) (v := .ref b5) (C := "TileForge$Block") (T := T_Block) (N := 8) hx hb hts (cs_in in_Block) hown hK hP 0 rfl rfl 3 (by decide) (hts _ (cs_m mw_188)) (fun _ h9 => h9) rfl d_Block_rebuild_17 ?_
        refine lv_iload hx hb d_Block_rebuild_20 (lv_at hl 5 rfl) ?_
        refine cs_iald (j := k) hx hb hK hcI hP 4 rfl (rfl) (hk2) (by decide) d_Block_rebuild_22 ?_
        refine lv_iconst (v := 1) hx hb d_Block_rebuild_23 (by decide) ?_
        refine lv_iload hx hb d_Block_rebuild_24 (lv_at hl 4 rfl) ?_
        refine lv_ishl hx hb d_Block_rebuild_26 ?_
        refine lv_imul hx hb d_Block_rebuild_27 ?_
        refine cs_iast (j := k) hx hb hK hcI hP hD hS 5 rfl (rfl) (hk2) (by decide) d_Block_rebuild_28 (fun H locs hP hD hS => ?_)
        have hP : va_P D vwCl [(b1, .inr (1, [.ref b2, .ref b3, .ref b4, .ref b5, .ref b6, .int vr, .int vc, .int vcr])), (b2, .inl (cI, 4, .inl ab)), (b3, .inl (cI, 4, .inl lf)), (b4, .inl (cI, 16, .inl fo)), (b5, .inl (cI, 16, .inl lv)), (b6, .inl (cI, 16, .inl (upd f k ((lv k) * (1 <<< (q &&& 31)))))), (a1, .inr (5, [.ref a2, .ref a3, .int vz, .int (nI wn), .int (nI hn), .int vk])), (a2, .inl (cI, 144, .inl px)), (a3, .inl (cI, 9, .inl md))] H := hP
        have hD : va_D A [(b1, .inr (1, [.ref b2, .ref b3, .ref b4, .ref b5, .ref b6, .int vr, .int vc, .int vcr])), (b2, .inl (cI, 4, .inl ab)), (b3, .inl (cI, 4, .inl lf)), (b4, .inl (cI, 16, .inl fo)), (b5, .inl (cI, 16, .inl lv)), (b6, .inl (cI, 16, .inl (upd f k ((lv k) * (1 <<< (q &&& 31)))))), (a1, .inr (5, [.ref a2, .ref a3, .int vz, .int (nI wn), .int (nI hn), .int vk])), (a2, .inl (cI, 144, .inl px)), (a3, .inl (cI, 9, .inl md))] := hD
        refine lv_iinc (v := nI (k + 1)) (lv' := [(5, .int (nI (k + 1))), (0, .ref b1), (1, .ref a1), (2, .int (nI x)), (3, .int (nI y)), (4, .int q)]) hx hb d_Block_rebuild_29 hl (k := 5) rfl (nI_1 _) (by decide) rfl (fun ls hl => ?_)
        refine lv_goto (tgt := 3) hx hb d_Block_rebuild_32 (by decide) ?_
        exact ih3 (k + 1) (upd f k ((lv k) * (1 <<< (q &&& 31)))) (by omega) (by omega) (cs_ext (g := fun j => lv j * (1 <<< (q &&& 31))) h1 rfl) _ _ _ (hP.sub (ws' := [(b1, .inr (1, [.ref b2, .ref b3, .ref b4, .ref b5, .ref b6, .int vr, .int vc, .int vcr])), (b2, .inl (cI, 4, .inl ab)), (b3, .inl (cI, 4, .inl lf)), (b4, .inl (cI, 16, .inl fo)), (b5, .inl (cI, 16, .inl lv)), (b6, .inl (cI, 16, .inl (upd f k ((lv k) * (1 <<< (q &&& 31)))))), (a1, .inr (5, [.ref a2, .ref a3, .int vz, .int (nI wn), .int (nI hn), .int vk])), (a2, .inl (cI, 144, .inl px)), (a3, .inl (cI, 9, .inl md))]) [0, 1, 2, 3, 4, 5, 6, 7, 8] rfl) (hD.sub (ws' := [(b1, .inr (1, [.ref b2, .ref b3, .ref b4, .ref b5, .ref b6, .int vr, .int vc, .int vcr])), (b2, .inl (cI, 4, .inl ab)), (b3, .inl (cI, 4, .inl lf)), (b4, .inl (cI, 16, .inl fo)), (b5, .inl (cI, 16, .inl lv)), (b6, .inl (cI, 16, .inl (upd f k ((lv k) * (1 <<< (q &&& 31)))))), (a1, .inr (5, [.ref a2, .ref a3, .int vz, .int (nI wn), .int (nI hn), .int vk])), (a2, .inl (cI, 144, .inl px)), (a3, .inl (cI, 9, .inl md))]) [0, 1, 2, 3, 4, 5, 6, 7, 8] (by decide) rfl) hS (lv_sub hl [1, 2, 3, 4, 5, 0] rfl)
  exact lp3 (17) 0 wk (by omega) (by omega) (fun j hj => absurd hj (by omega)) _ _ _ (hP.sub (ws' := [(b1, .inr (1, [.ref b2, .ref b3, .ref b4, .ref b5, .ref b6, .int vr, .int vc, .int vcr])), (b2, .inl (cI, 4, .inl ab)), (b3, .inl (cI, 4, .inl lf)), (b4, .inl (cI, 16, .inl fo)), (b5, .inl (cI, 16, .inl lv)), (b6, .inl (cI, 16, .inl wk)), (a1, .inr (5, [.ref a2, .ref a3, .int vz, .int (nI wn), .int (nI hn), .int vk])), (a2, .inl (cI, 144, .inl px)), (a3, .inl (cI, 9, .inl md))]) [0, 1, 2, 3, 4, 5, 6, 7, 8] rfl) (hD.sub (ws' := [(b1, .inr (1, [.ref b2, .ref b3, .ref b4, .ref b5, .ref b6, .int vr, .int vc, .int vcr])), (b2, .inl (cI, 4, .inl ab)), (b3, .inl (cI, 4, .inl lf)), (b4, .inl (cI, 16, .inl fo)), (b5, .inl (cI, 16, .inl lv)), (b6, .inl (cI, 16, .inl wk)), (a1, .inr (5, [.ref a2, .ref a3, .int vz, .int (nI wn), .int (nI hn), .int vk])), (a2, .inl (cI, 144, .inl px)), (a3, .inl (cI, 9, .inl md))]) [0, 1, 2, 3, 4, 5, 6, 7, 8] (by decide) rfl) hS (lv_sub hl [1, 2, 3, 4, 5, 0] rfl)
