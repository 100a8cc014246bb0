def y_RowReader_init : MethodName := ⟨"TileForge$RowReader", "<init>", "()V"⟩
def ws_RowReader_init : List Cond := .code y_RowReader_init prog_8_method_1_code 1 none :: GW
theorem mw_284 : (.code ⟨"TileForge$RowReader", "<init>", "()V"⟩ prog_8_method_1_code 1 none : Cond) ∈ GW := List.mem_filter.mpr ⟨(List.mem_append_right _ (List.mem_append_left _ (List.mem_of_getElem? (i := 196) rfl))), rfl⟩
theorem hd_RowReader_init : y_RowReader_init.cls ≠ "java/lang/invoke/MethodHandle" ∧ y_RowReader_init.cls ≠ "java/lang/invoke/VarHandle" ∧ (parseMethodDescriptor y_RowReader_init.desc).map (fun d => d.parameters.length) = some 0 := by decide +kernel
theorem d_RowReader_init_0 : decode prog_8_method_1_code 0 = .ok (.aload_n 0, 1) := by decide +kernel
theorem d_RowReader_init_1 : decode prog_8_method_1_code 1 = .ok (.invokespecial 3, 3) := by decide +kernel
theorem d_RowReader_init_4 : decode prog_8_method_1_code 4 = .ok (.aload_n 0, 1) := by decide +kernel
theorem d_RowReader_init_5 : decode prog_8_method_1_code 5 = .ok (.new 9, 3) := by decide +kernel
theorem d_RowReader_init_8 : decode prog_8_method_1_code 8 = .ok (.dup, 1) := by decide +kernel
theorem d_RowReader_init_9 : decode prog_8_method_1_code 9 = .ok (.invokespecial 11, 3) := by decide +kernel
theorem d_RowReader_init_12 : decode prog_8_method_1_code 12 = .ok (.putfield 12, 3) := by decide +kernel
theorem d_RowReader_init_15 : decode prog_8_method_1_code 15 = .ok (.aload_n 0, 1) := by decide +kernel
theorem d_RowReader_init_16 : decode prog_8_method_1_code 16 = .ok (.new 18, 3) := by decide +kernel
theorem d_RowReader_init_19 : decode prog_8_method_1_code 19 = .ok (.dup, 1) := by decide +kernel
theorem d_RowReader_init_20 : decode prog_8_method_1_code 20 = .ok (.invokespecial 20, 3) := by decide +kernel
theorem d_RowReader_init_23 : decode prog_8_method_1_code 23 = .ok (.putfield 21, 3) := by decide +kernel
theorem d_RowReader_init_26 : decode prog_8_method_1_code 26 = .ok (.return_, 1) := by decide +kernel
theorem mw_285 : (.methodLink "TileForge$RowReader" 3 objectInit : Cond) ∈ GW := List.mem_filter.mpr ⟨(List.mem_append_right _ (List.mem_append_left _ (List.mem_of_getElem? (i := 197) rfl))), rfl⟩
theorem mw_286 : (.classLink "TileForge$RowReader" 9 "TileForge$Block" : Cond) ∈ GW := List.mem_filter.mpr ⟨(List.mem_append_right _ (List.mem_append_left _ (List.mem_of_getElem? (i := 198) rfl))), rfl⟩
theorem mw_287 : (.fieldLink "TileForge$RowReader" 12 "TileForge$RowReader" "block" "LTileForge$Block;" : Cond) ∈ GW := List.mem_filter.mpr ⟨(List.mem_append_right _ (List.mem_append_left _ (List.mem_of_getElem? (i := 202) rfl))), rfl⟩
theorem mw_288 : (.classLink "TileForge$RowReader" 18 "TileForge$LevelCode" : Cond) ∈ GW := List.mem_filter.mpr ⟨(List.mem_append_right _ (List.mem_append_left _ (List.mem_of_getElem? (i := 200) rfl))), rfl⟩
theorem mw_289 : (.fieldLink "TileForge$RowReader" 21 "TileForge$RowReader" "levelCode" "LTileForge$LevelCode;" : Cond) ∈ GW := List.mem_filter.mpr ⟨(List.mem_append_right _ (List.mem_append_left _ (List.mem_of_getElem? (i := 203) rfl))), rfl⟩
def q_rr_init (cI : ClassId) (j1 : Nat) : va_W → Prop := fun ww => ∃ (b1 : Nat) (b2 : Nat) (b3 : Nat) (b4 : Nat) (b5 : Nat) (b6 : Nat) (z1 : Nat) (t1 : Nat) (t2 : Nat), ww = [(j1, .inr (6, [.ref b1, .ref z1, .int 0])), (b1, .inr (1, [.ref b2, .ref b3, .ref b4, .ref b5, .ref b6, .int 0, .int 0, .int 0])), (b2, .inl (cI, 4, .inl (fun _ => 0))), (b3, .inl (cI, 4, .inl (fun _ => 0))), (b4, .inl (cI, 16, .inl (fun _ => 0))), (b5, .inl (cI, 16, .inl (fun _ => 0))), (b6, .inl (cI, 16, .inl (fun _ => 0))), (z1, .inr (4, [.ref t1, .ref t2])), (t1, .inr (7, [.int 0, .int 0])), (t2, .inr (7, [.int 0, .int 0]))]
set_option maxHeartbeats 4000000 in
set_option maxRecDepth 100000 in
theorem c_rr_init (l : Launch) {D : va_G} {tys : List (ClassId × FieldType)} {cI : ClassId} (hcI : tys[0]? = some (cI, .int)) (j1 : Nat) : CsV l D vwCl tys y_RowReader_init ws_RowReader_init ({ frames := 3, cells := 9, slots := 70, locals := 52 } : Room) [.ref j1] [(j1, .inr (6, [.null, .null, .int 0]))] (q_rr_init cI j1) 9 70 := by
  intro sz
  refine Met.ofW (cc := prog_8_method_1_code) (maxL := 1) (ret := none) (by decide) rfl ?_
  intro p e s m args below meth c s₁ B hml hv
  obtain ⟨rfl, hsz, hP, hK, hD0, hN⟩ := hv
  have hx := B.exec
  have hb := B.bytes
  have hr := B.returns
  have hts := atoms_spec (ws := ws_RowReader_init) B.pre
  have hown : s.vm.findClass "TileForge$RowReader" = some m.cls := findClass_of_methodNamed B.named
  have hlocks := B.notSynchronized
  have hin : meth.name = "<init>" := (name_of_methodNamed B.named B.method).1
  subst hsz
  have hD := hD0.self (sz := s.heap.size)
  generalize hAe : va_A [(j1, .inr (6, [.null, .null, .int 0]))] s.heap.size = A at hD ⊢
  have hA : ∀ q : Nat, s.heap.size ≤ q → A q := fun q h => by rw [← hAe]; exact Or.inr h
  have hS : va_S A s.heap s.heap [] := va_S.rf
  have hP : va_P D vwCl [(j1, .inr (6, [.null, .null, .int 0]))] s.heap := hP
  have hl := lv_entry ([.ref j1]) (n := 1) (Nat.le_of_ble_eq_true rfl)
  rw [lg_entry_eq]
  generalize (lg_sl ([.ref j1]) ++ List.replicate (1 - (lg_sl ([.ref j1])).length) Slot.unset).toArray = ls at hl ⊢
  have hl : lv_has ls 1 [(0, .ref j1)] := hl
  refine lv_aload_n hx hb d_RowReader_init_0 rfl (lv_at hl 0 rfl) ?_
  refine W.objInit hx hb hown (hts _ (cs_m mw_285)) (hts _ (cs_m mw_81)) (hts _ (cs_m mw_82)) rfl (by rw [hml]; exact hl.1) rfl d_RowReader_init_1 (Nat.le_of_ble_eq_true rfl) (Nat.le_of_ble_eq_true rfl) ?_
  refine W.eq (g2 := F0 m 4 ls []) rfl ?_
  refine lv_aload_n hx hb d_RowReader_init_4 rfl (lv_at hl 0 rfl) ?_
  refine va_new (ci := 1) (fs := [.null, .null, .null, .null, .null, .int 0, .int 0, .int 0]) (C := "TileForge$Block") (T := T_Block) (N := 8) hx hb hts (cs_in in_Block) ty_Block tok_Block hown (hts _ (cs_m mw_286)) (hts _ (cs_m mw_240)) (hts _ (cs_m mw_199)) hK hP hD hS hA rfl (fun j hj => by rcases (show j = 0 ∨ j = 1 ∨ j = 2 ∨ j = 3 ∨ j = 4 ∨ j = 5 ∨ j = 6 ∨ j = 7 by omega) with rfl | rfl | rfl | rfl | rfl | rfl | rfl | rfl <;> rfl) (Nat.le_of_ble_eq_true rfl) (Nat.le_of_ble_eq_true rfl) d_RowReader_init_5 (fun q1 H hP hD hS => ?_)
  have hP : va_P D vwCl [(j1, .inr (6, [.null, .null, .int 0])), (q1, .inr (1, [.null, .null, .null, .null, .null, .int 0, .int 0, .int 0]))] H := hP
  have hD : va_D A [(j1, .inr (6, [.null, .null, .int 0])), (q1, .inr (1, [.null, .null, .null, .null, .null, .int 0, .int 0, .int 0]))] := hD
  refine lv_dup hx hb d_RowReader_init_8 rfl ?_
  refine cs_INv (As := []) (rest := [.ref q1, .ref j1]) (wr := [(j1, .inr (6, [.null, .null, .int 0]))]) ⟨hx, hb, hml, hown, hts⟩ (c_bl_init l hcI q1) (⟨va_cnB 0 hts (cs_g mw_183) rfl rfl rfl (hN _ (List.mem_of_getElem? (i := 9) rfl)) (hts _ (cs_m mw_199)) hd_Block_init ⟨Nat.le_of_ble_eq_true rfl, Nat.le_of_ble_eq_true rfl⟩, rfl, hts _ (cs_m mw_241)⟩) hN hK hP hD hS hA [1] [0] rfl rfl rfl rfl (by decide) rfl rfl hl.1 (Nat.le_of_ble_eq_true rfl) d_RowReader_init_9 ⟨Nat.le_of_ble_eq_true rfl, Nat.le_of_ble_eq_true rfl⟩ (fun w1 H locs hw hP hD hS => ?_)
  obtain ⟨b2_3, b3_4, b4_5, b5_6, b6_7, rfl⟩ := hw
  have hP : va_P D vwCl [(j1, .inr (6, [.null, .null, .int 0])), (q1, .inr (1, [.ref b2_3, .ref b3_4, .ref b4_5, .ref b5_6, .ref b6_7, .int 0, .int 0, .int 0])), (b2_3, .inl (cI, 4, .inl (fun _ => 0))), (b3_4, .inl (cI, 4, .inl (fun _ => 0))), (b4_5, .inl (cI, 16, .inl (fun _ => 0))), (b5_6, .inl (cI, 16, .inl (fun _ => 0))), (b6_7, .inl (cI, 16, .inl (fun _ => 0)))] H := hP
  have hD : va_D A [(j1, .inr (6, [.null, .null, .int 0])), (q1, .inr (1, [.ref b2_3, .ref b3_4, .ref b4_5, .ref b5_6, .ref b6_7, .int 0, .int 0, .int 0])), (b2_3, .inl (cI, 4, .inl (fun _ => 0))), (b3_4, .inl (cI, 4, .inl (fun _ => 0))), (b4_5, .inl (cI, 16, .inl (fun _ => 0))), (b5_6, .inl (cI, 16, .inl (fun _ => 0))), (b6_7, .inl (cI, 16, .inl (fun _ => 0)))] := hD
  refine va_putF (D := D) (ci := 6) (v := .ref q1) (ty := .object "TileForge$Block") (C := "TileForge$RowReader") (T := T_RowReader) (N := 3) hx hb hts (cs_in in_RowReader) ty_RowReader tok_RowReader nm_RowReader hown hK hP hD hS 0 rfl rfl 0 (by decide) (hts _ (cs_m mw_287)) (fun _ h9 => h9) rfl hin rfl (by decide +kernel) rfl rfl (Nat.le_of_ble_eq_true rfl) d_RowReader_init_12 (fun H locs hP hD hS => ?_)
  have hP : va_P D vwCl [(j1, .inr (6, [.ref q1, .null, .int 0])), (q1, .inr (1, [.ref b2_3, .ref b3_4, .ref b4_5, .ref b5_6, .ref b6_7, .int 0, .int 0, .int 0])), (b2_3, .inl (cI, 4, .inl (fun _ => 0))), (b3_4, .inl (cI, 4, .inl (fun _ => 0))), (b4_5, .inl (cI, 16, .inl (fun _ => 0))), (b5_6, .inl (cI, 16, .inl (fun _ => 0))), (b6_7, .inl (cI, 16, .inl (fun _ => 0)))] H := hP
  have hD : va_D A [(j1, .inr (6, [.ref q1, .null, .int 0])), (q1, .inr (1, [.ref b2_3, .ref b3_4, .ref b4_5, .ref b5_6, .ref b6_7, .int 0, .int 0, .int 0])), (b2_3, .inl (cI, 4, .inl (fun _ => 0))), (b3_4, .inl (cI, 4, .inl (fun _ => 0))), (b4_5, .inl (cI, 16, .inl (fun _ => 0))), (b5_6, .inl (cI, 16, .inl (fun _ => 0))), (b6_7, .inl (cI, 16, .inl (fun _ => 0)))] := hD
  refine lv_aload_n hx hb d_RowReader_init_15 rfl (lv_at hl 0 rfl) ?_
  refine va_new (ci := 4) (fs := [.null, .null]) (C := "TileForge$LevelCode") (T := T_LevelCode) (N := 2) hx hb hts (cs_in in_LevelCode) ty_LevelCode tok_LevelCode hown (hts _ (cs_m mw_288)) (hts _ (cs_m mw_244)) (hts _ (cs_m mw_245)) hK hP hD hS hA rfl (fun j hj => by rcases (show j = 0 ∨ j = 1 by omega) with rfl | rfl <;> rfl) (Nat.le_of_ble_eq_true rfl) (Nat.le_of_ble_eq_true rfl) d_RowReader_init_16 (fun q8 H hP hD hS => ?_)
  have hP : va_P D vwCl [(j1, .inr (6, [.ref q1, .null, .int 0])), (q1, .inr (1, [.ref b2_3, .ref b3_4, .ref b4_5, .ref b5_6, .ref b6_7, .int 0, .int 0, .int 0])), (b2_3, .inl (cI, 4, .inl (fun _ => 0))), (b3_4, .inl (cI, 4, .inl (fun _ => 0))), (b4_5, .inl (cI, 16, .inl (fun _ => 0))), (b5_6, .inl (cI, 16, .inl (fun _ => 0))), (b6_7, .inl (cI, 16, .inl (fun _ => 0))), (q8, .inr (4, [.null, .null]))] H := hP
  have hD : va_D A [(j1, .inr (6, [.ref q1, .null, .int 0])), (q1, .inr (1, [.ref b2_3, .ref b3_4, .ref b4_5, .ref b5_6, .ref b6_7, .int 0, .int 0, .int 0])), (b2_3, .inl (cI, 4, .inl (fun _ => 0))), (b3_4, .inl (cI, 4, .inl (fun _ => 0))), (b4_5, .inl (cI, 16, .inl (fun _ => 0))), (b5_6, .inl (cI, 16, .inl (fun _ => 0))), (b6_7, .inl (cI, 16, .inl (fun _ => 0))), (q8, .inr (4, [.null, .null]))] := hD
  refine lv_dup hx hb d_RowReader_init_19 rfl ?_
  refine cs_INv (As := []) (rest := [.ref q8, .ref j1]) (wr := [(j1, .inr (6, [.ref q1, .null, .int 0])), (q1, .inr (1, [.ref b2_3, .ref b3_4, .ref b4_5, .ref b5_6, .ref b6_7, .int 0, .int 0, .int 0])), (b2_3, .inl (cI, 4, .inl (fun _ => 0))), (b3_4, .inl (cI, 4, .inl (fun _ => 0))), (b4_5, .inl (cI, 16, .inl (fun _ => 0))), (b5_6, .inl (cI, 16, .inl (fun _ => 0))), (b6_7, .inl (cI, 16, .inl (fun _ => 0)))]) ⟨hx, hb, hml, hown, hts⟩ (c_lc_init l hcI q8) (⟨va_cnB 0 hts (cs_g mw_152) rfl rfl rfl (hN _ (List.mem_of_getElem? (i := 10) rfl)) (hts _ (cs_m mw_245)) hd_LevelCode_init ⟨Nat.le_of_ble_eq_true rfl, Nat.le_of_ble_eq_true rfl⟩, rfl, hts _ (cs_m mw_246)⟩) hN hK hP hD hS hA [7] [0, 1, 2, 3, 4, 5, 6] rfl rfl rfl rfl (by decide) rfl rfl hl.1 (Nat.le_of_ble_eq_true rfl) d_RowReader_init_20 ⟨Nat.le_of_ble_eq_true rfl, Nat.le_of_ble_eq_true rfl⟩ (fun w1 H locs hw hP hD hS => ?_)
  obtain ⟨t1_10, t2_11, rfl⟩ := hw
  have hP : va_P D vwCl [(j1, .inr (6, [.ref q1, .null, .int 0])), (q1, .inr (1, [.ref b2_3, .ref b3_4, .ref b4_5, .ref b5_6, .ref b6_7, .int 0, .int 0, .int 0])), (b2_3, .inl (cI, 4, .inl (fun _ => 0))), (b3_4, .inl (cI, 4, .inl (fun _ => 0))), (b4_5, .inl (cI, 16, .inl (fun _ => 0))), (b5_6, .inl (cI, 16, .inl (fun _ => 0))), (b6_7, .inl (cI, 16, .inl (fun _ => 0))), (q8, .inr (4, [.ref t1_10, .ref t2_11])), (t1_10, .inr (7, [.int 0, .int 0])), (t2_11, .inr (7, [.int 0, .int 0]))] H := hP
  have hD : va_D A [(j1, .inr (6, [.ref q1, .null, .int 0])), (q1, .inr (1, [.ref b2_3, .ref b3_4, .ref b4_5, .ref b5_6, .ref b6_7, .int 0, .int 0, .int 0])), (b2_3, .inl (cI, 4, .inl (fun _ => 0))), (b3_4, .inl (cI, 4, .inl (fun _ => 0))), (b4_5, .inl (cI, 16, .inl (fun _ => 0))), (b5_6, .inl (cI, 16, .inl (fun _ => 0))), (b6_7, .inl (cI, 16, .inl (fun _ => 0))), (q8, .inr (4, [.ref t1_10, .ref t2_11])), (t1_10, .inr (7, [.int 0, .int 0])), (t2_11, .inr (7, [.int 0, .int 0]))] := hD
  refine va_putF (D := D) (ci := 6) (v := .ref q8) (ty := .object "TileForge$LevelCode") (C := "TileForge$RowReader") (T := T_RowReader) (N := 3) hx hb hts (cs_in in_RowReader) ty_RowReader tok_RowReader nm_RowReader hown hK hP hD hS 0 rfl rfl 1 (by decide) (hts _ (cs_m mw_289)) (fun _ h9 => h9) rfl hin rfl (by decide +kernel) rfl rfl (Nat.le_of_ble_eq_true rfl) d_RowReader_init_23 (fun H locs hP hD hS => ?_)
  have hP : va_P D vwCl [(j1, .inr (6, [.ref q1, .ref q8, .int 0])), (q1, .inr (1, [.ref b2_3, .ref b3_4, .ref b4_5, .ref b5_6, .ref b6_7, .int 0, .int 0, .int 0])), (b2_3, .inl (cI, 4, .inl (fun _ => 0))), (b3_4, .inl (cI, 4, .inl (fun _ => 0))), (b4_5, .inl (cI, 16, .inl (fun _ => 0))), (b5_6, .inl (cI, 16, .inl (fun _ => 0))), (b6_7, .inl (cI, 16, .inl (fun _ => 0))), (q8, .inr (4, [.ref t1_10, .ref t2_11])), (t1_10, .inr (7, [.int 0, .int 0])), (t2_11, .inr (7, [.int 0, .int 0]))] H := hP
  have hD : va_D A [(j1, .inr (6, [.ref q1, .ref q8, .int 0])), (q1, .inr (1, [.ref b2_3, .ref b3_4, .ref b4_5, .ref b5_6, .ref b6_7, .int 0, .int 0, .int 0])), (b2_3, .inl (cI, 4, .inl (fun _ => 0))), (b3_4, .inl (cI, 4, .inl (fun _ => 0))), (b4_5, .inl (cI, 16, .inl (fun _ => 0))), (b5_6, .inl (cI, 16, .inl (fun _ => 0))), (b6_7, .inl (cI, 16, .inl (fun _ => 0))), (q8, .inr (4, [.ref t1_10, .ref t2_11])), (t1_10, .inr (7, [.int 0, .int 0])), (t2_11, .inr (7, [.int 0, .int 0]))] := hD
  refine W.widen (k := 9) (n := 70) (Nat.le_of_ble_eq_true rfl) (Nat.le_of_ble_eq_true rfl) ?_
  exact W.vret hx hb hr (fun t ht hW => ⟨⟨[(j1, .inr (6, [.ref q1, .ref q8, .int 0])), (q1, .inr (1, [.ref b2_3, .ref b3_4, .ref b4_5, .ref b5_6, .ref b6_7, .int 0, .int 0, .int 0])), (b2_3, .inl (cI, 4, .inl (fun _ => 0))), (b3_4, .inl (cI, 4, .inl (fun _ => 0))), (b4_5, .inl (cI, 16, .inl (fun _ => 0))), (b5_6, .inl (cI, 16, .inl (fun _ => 0))), (b6_7, .inl (cI, 16, .inl (fun _ => 0))), (q8, .inr (4, [.ref t1_10, .ref t2_11])), (t1_10, .inr (7, [.int 0, .int 0])), (t2_11, .inr (7, [.int 0, .int 0]))], rfl, ⟨q1, b2_3, b3_4, b4_5, b5_6, b6_7, q8, t1_10, t2_11, (rfl)⟩, by rw [ht]; exact hP, va_K.moved hW.alike hK, hD⟩, hS.F ht⟩) hS.2.2 d_RowReader_init_26
def y_RowReader_makeGrey : MethodName := ⟨"TileForge$RowReader", "makeGrey", "(LTileForge$Picture;II)V"⟩
def ws_RowReader_makeGrey : List Cond := .code y_RowReader_makeGrey prog_8_method_5_code 5 none :: GW
theorem mw_290 : (.code ⟨"TileForge$RowReader", "makeGrey", "(LTileForge$Picture;II)V"⟩ prog_8_method_5_code 5 none : Cond) ∈ GW := List.mem_filter.mpr ⟨(List.mem_append_right _ (List.mem_append_right _ (List.mem_append_right _ (List.mem_append_left _ (List.mem_of_getElem? (i := 123) rfl))))), rfl⟩
theorem hd_RowReader_makeGrey : y_RowReader_makeGrey.cls ≠ "java/lang/invoke/MethodHandle" ∧ y_RowReader_makeGrey.cls ≠ "java/lang/invoke/VarHandle" ∧ (parseMethodDescriptor y_RowReader_makeGrey.desc).map (fun d => d.parameters.length) = some 3 := by decide +kernel
theorem d_RowReader_makeGrey_0 : decode prog_8_method_5_code 0 = .ok (.iconst 0, 1) := by decide +kernel
theorem d_RowReader_makeGrey_1 : decode prog_8_method_5_code 1 = .ok (.istore 4, 2) := by decide +kernel
theorem d_RowReader_makeGrey_3 : decode prog_8_method_5_code 3 = .ok (.iload 4, 2) := by decide +kernel
theorem d_RowReader_makeGrey_5 : decode prog_8_method_5_code 5 = .ok (.bipush 16, 2) := by decide +kernel
theorem d_RowReader_makeGrey_7 : decode prog_8_method_5_code 7 = .ok (.if_icmp .ge 28, 3) := by decide +kernel
theorem d_RowReader_makeGrey_10 : decode prog_8_method_5_code 10 = .ok (.aload_n 1, 1) := by decide +kernel
theorem d_RowReader_makeGrey_11 : decode prog_8_method_5_code 11 = .ok (.iload_n 2, 1) := by decide +kernel
theorem d_RowReader_makeGrey_12 : decode prog_8_method_5_code 12 = .ok (.iload 4, 2) := by decide +kernel
theorem d_RowReader_makeGrey_14 : decode prog_8_method_5_code 14 = .ok (.iconst 4, 1) := by decide +kernel
theorem d_RowReader_makeGrey_15 : decode prog_8_method_5_code 15 = .ok (.irem, 1) := by decide +kernel
theorem d_RowReader_makeGrey_16 : decode prog_8_method_5_code 16 = .ok (.iadd, 1) := by decide +kernel
theorem d_RowReader_makeGrey_17 : decode prog_8_method_5_code 17 = .ok (.iload_n 3, 1) := by decide +kernel
theorem d_RowReader_makeGrey_18 : decode prog_8_method_5_code 18 = .ok (.iload 4, 2) := by decide +kernel
theorem d_RowReader_makeGrey_20 : decode prog_8_method_5_code 20 = .ok (.iconst 4, 1) := by decide +kernel
theorem d_RowReader_makeGrey_21 : decode prog_8_method_5_code 21 = .ok (.idiv, 1) := by decide +kernel
theorem d_RowReader_makeGrey_22 : decode prog_8_method_5_code 22 = .ok (.iadd, 1) := by decide +kernel
theorem d_RowReader_makeGrey_23 : decode prog_8_method_5_code 23 = .ok (.sipush 128, 3) := by decide +kernel
theorem d_RowReader_makeGrey_26 : decode prog_8_method_5_code 26 = .ok (.invokevirtual 95, 3) := by decide +kernel
theorem d_RowReader_makeGrey_29 : decode prog_8_method_5_code 29 = .ok (.iinc 4 1, 3) := by decide +kernel
theorem d_RowReader_makeGrey_32 : decode prog_8_method_5_code 32 = .ok (.goto (-29), 3) := by decide +kernel
theorem d_RowReader_makeGrey_35 : decode prog_8_method_5_code 35 = .ok (.return_, 1) := by decide +kernel
theorem mw_291 : (.methodLink "TileForge$RowReader" 95 ⟨"TileForge$Picture", "put", "(III)V"⟩ : Cond) ∈ GW := List.mem_filter.mpr ⟨(List.mem_append_right _ (List.mem_append_right _ (List.mem_append_right _ (List.mem_append_left _ (List.mem_of_getElem? (i := 124) rfl))))), rfl⟩
def q_rr_grey (cI : ClassId) (j1 : Nat) (b1 : Nat) (z1 : Nat) (bo : Int32) (a1 : Nat) (a2 : Nat) (a3 : Nat) (px : Nat → Int32) (md : Nat → Int32) (vz : Int32) (vk : Int32) (wn : Nat) (hn : Nat) (x : Nat) (y : Nat) : va_W → Prop := fun ww => ww = [(j1, .inr (6, [.ref b1, .ref z1, .int bo])), (a1, .inr (5, [.ref a2, .ref a3, .int vz, .int (nI wn), .int (nI hn), .int vk])), (a2, .inl (cI, 144, .inl (putF px x y (fun _ => 128) 16))), (a3, .inl (cI, 9, .inl md))]
set_option maxHeartbeats 4000000 in
set_option maxRecDepth 100000 in
theorem c_rr_grey (l : Launch) {D : va_G} {tys : List (ClassId × FieldType)} {cI : ClassId} (hcI : tys[0]? = some (cI, .int)) (j1 : Nat) (b1 : Nat) (z1 : Nat) (bo : Int32) (a1 : Nat) (a2 : Nat) (a3 : Nat) (px : Nat → Int32) (md : Nat → Int32) (vz : Int32) (vk : Int32) (wn : Nat) (hn : Nat) (x : Nat) (y : Nat) (hx4 : x + 4 ≤ wn) (hwn : wn ≤ 12) (hy4 : y + 4 ≤ hn) (hhn : hn ≤ 12) : CsV l D vwCl tys y_RowReader_makeGrey ws_RowReader_makeGrey ({ frames := 2, cells := 0, slots := 0, locals := 45 } : Room) [.ref j1, .ref a1, .int (nI x), .int (nI y)] [(j1, .inr (6, [.ref b1, .ref z1, .int bo])), (a1, .inr (5, [.ref a2, .ref a3, .int vz, .int (nI wn), .int (nI hn), .int vk])), (a2, .inl (cI, 144, .inl px)), (a3, .inl (cI, 9, .inl md))] (q_rr_grey cI j1 b1 z1 bo a1 a2 a3 px md vz vk wn hn x y) 0 0 := by
  intro sz
  refine Met.ofW (cc := prog_8_method_5_code) (maxL := 5) (ret := none) (by decide) rfl ?_
  intro p e s m args below meth c s₁ B hml hv
  obtain ⟨rfl, hsz, hP, hK, hD0, hN⟩ := hv
  have hx := B.exec
  have hb := B.bytes
  have hr := B.returns
  have hts := atoms_spec (ws := ws_RowReader_makeGrey) B.pre
  have hown : s.vm.findClass "TileForge$RowReader" = some m.cls := findClass_of_methodNamed B.named
  have hlocks := B.notSynchronized
  subst hsz
  have hD := hD0.self (sz := s.heap.size)
  generalize hAe : va_A [(j1, .inr (6, [.ref b1, .ref z1, .int bo])), (a1, .inr (5, [.ref a2, .ref a3, .int vz, .int (nI wn), .int (nI hn), .int vk])), (a2, .inl (cI, 144, .inl px)), (a3, .inl (cI, 9, .inl md))] s.heap.size = A at hD ⊢
  have hA : ∀ q : Nat, s.heap.size ≤ q → A q := fun q h => by rw [← hAe]; exact Or.inr h
  have hS : va_S A s.heap s.heap [] := va_S.rf
  have hP : va_P D vwCl [(j1, .inr (6, [.ref b1, .ref z1, .int bo])), (a1, .inr (5, [.ref a2, .ref a3, .int vz, .int (nI wn), .int (nI hn), .int vk])), (a2, .inl (cI, 144, .inl px)), (a3, .inl (cI, 9, .inl md))] s.heap := hP
  have hl := lv_entry ([.ref j1, .ref a1, .int (nI x), .int (nI y)]) (n := 5) (Nat.le_of_ble_eq_true rfl)
  rw [lg_entry_eq]
  generalize (lg_sl ([.ref j1, .ref a1, .int (nI x), .int (nI y)]) ++ List.replicate (5 - (lg_sl ([.ref j1, .ref a1, .int (nI x), .int (nI y)])).length) Slot.unset).toArray = ls at hl ⊢
  have hl : lv_has ls 5 [(0, .ref j1), (1, .ref a1), (2, .int (nI x)), (3, .int (nI y))] := hl
  refine lv_iconst (v := 0) hx hb d_RowReader_makeGrey_0 (by decide) ?_
  refine lv_istore (lv' := [(4, .int 0), (0, .ref j1), (1, .ref a1), (2, .int (nI x)), (3, .int (nI y))]) hx hb d_RowReader_makeGrey_1 hl (by decide) rfl (fun ls hl => ?_)
  have lp3 : ∀ (n : Nat) (k : Nat), (17 ≤ k + n) → (k ≤ 16) → ∀ (H : Heap) (locs : List Loc) (ls : Array Slot), va_P D vwCl [(j1, .inr (6, [.ref b1, .ref z1, .int bo])), (a1, .inr (5, [.ref a2, .ref a3, .int vz, .int (nI wn), .int (nI hn), .int vk])), (a2, .inl (cI, 144, .inl (putF px x y (fun _ => 128) k))), (a3, .inl (cI, 9, .inl md))] H → va_D A [(j1, .inr (6, [.ref b1, .ref z1, .int bo])), (a1, .inr (5, [.ref a2, .ref a3, .int vz, .int (nI wn), .int (nI hn), .int vk])), (a2, .inl (cI, 144, .inl (putF px x y (fun _ => 128) k))), (a3, .inl (cI, 9, .inl md))] → va_S A s.heap H locs → lv_has ls 5 [(0, .ref j1), (1, .ref a1), (2, .int (nI x)), (3, .int (nI y)), (4, .int (nI k))] → W p l e ({ frames := 2, cells := 0, slots := 0, locals := 45 } : Room) s m ([.ref j1, .ref a1, .int (nI x), .int (nI y)] : List Value).toArray below meth c H locs 0 0 (MQ below (va_Qv (q_rr_grey cI j1 b1 z1 bo a1 a2 a3 px md vz vk wn hn x y) (cs_B D vwCl tys A) A) ([.ref j1, .ref a1, .int (nI x), .int (nI y)] : List Value).toArray s 0 0 A) (F0 m 3 ls []) := by
    intro n
    induction n with
    | zero =>
      intro k hf hk
      exact absurd hf (by omega)
    | succ n ih3 =>
      intro k hf hk H locs ls hP hD hS hl
      refine lv_iload hx hb d_RowReader_makeGrey_3 (lv_at hl 4 rfl) ?_
      refine lv_bipush (v := 16) hx hb d_RowReader_makeGrey_5 (by decide) ?_
      refine lv_icmp_ge (tgt := 35) hx hb d_RowReader_makeGrey_7 (by decide) (fun c_7 => ?_) (fun c_7 => ?_)
      · have hk2 := (nI_leI (a := 16) (b := k) (by decide) (by omega)).mp c_7
        have hk3 : k = 16 := by omega
        subst hk3
        exact W.vret hx hb hr (fun t ht hW => ⟨⟨[(j1, .inr (6, [.ref b1, .ref z1, .int bo])), (a1, .inr (5, [.ref a2, .ref a3, .int vz, .int (nI wn), .int (nI hn), .int vk])), (a2, .inl (cI, 144, .inl (putF px x y (fun _ => 128) 16))), (a3, .inl (cI, 9, .inl md))], rfl, (show _ = _ from (rfl)), by rw [ht]; exact hP, va_K.moved hW.alike hK, hD⟩, hS.F ht⟩) hS.2.2 d_RowReader_makeGrey_35
      · have hk2 : k < 16 := Nat.not_le.mp (fun h => c_7 ((nI_leI (a := 16) (b := k) (by decide) (by omega)).mpr h))
        refine lv_aload_n hx hb d_RowReader_makeGrey_10 rfl (lv_at hl 1 rfl) ?_
        refine lv_iload_n hx hb d_RowReader_makeGrey_11 rfl (lv_at hl 2 rfl) ?_
        refine lv_iload hx hb d_RowReader_makeGrey_12 (lv_at hl 4 rfl) ?_
        refine lv_iconst (v := 4) hx hb d_RowReader_makeGrey_14 (by decide) ?_
        refine lv_irem hx hb d_RowReader_makeGrey_15 (by decide) ?_
        refine lv_iadd hx hb d_RowReader_makeGrey_16 ?_
        refine cs_top (y := nI (x + k % 4)) (cs_addr x k (by omega)) ?_
        refine lv_iload_n hx hb d_RowReader_makeGrey_17 rfl (lv_at hl 3 rfl) ?_
        refine lv_iload hx hb d_RowReader_makeGrey_18 (lv_at hl 4 rfl) ?_
        refine lv_iconst (v := 4) hx hb d_RowReader_makeGrey_20 (by decide) ?_
        refine lv_idiv hx hb d_RowReader_makeGrey_21 (by decide) ?_
        refine lv_iadd hx hb d_RowReader_makeGrey_22 ?_
        refine cs_top (y := nI (y + k / 4)) (cs_addq y k (by omega)) ?_
        refine lv_sipush (v := 128) hx hb d_RowReader_makeGrey_23 (by decide) ?_
        refine cs_Vv (As := [.int (nI (x + k % 4)), .int (nI (y + k / 4)), .int 128]) (rest := []) (wr := [(j1, .inr (6, [.ref b1, .ref z1, .int bo]))]) ⟨hx, hb, hml, hown, hts⟩ (c_pic_put l hcI a1 a2 a3 (putF px x y (fun _ => 128) k) md vz (nI wn) (nI hn) vk (x + k % 4) (y + k / 4) 128 (by omega) (by omega) (nI_lt (by omega) (by omega)) (nI_lt (by omega) (by omega))) (cwV 3 hts (cs_gV mw_291 mw_227 mw_228 mw_93 mw_97) rfl rfl rfl ⟨rfl, hd_Picture_put⟩ ⟨Nat.le_of_ble_eq_true rfl, Nat.le_of_ble_eq_true rfl⟩) hN hK hP hD hS hA [1, 2, 3] [0] rfl rfl rfl rfl (by decide) (ci := 5) rfl rfl rfl rfl rfl hl.1 (Nat.le_of_ble_eq_true rfl) d_RowReader_makeGrey_26 ⟨Nat.le_of_ble_eq_true rfl, Nat.le_of_ble_eq_true rfl⟩ (fun w1 H locs hw hP hD hS => ?_)
        obtain rfl := hw
        have hP : va_P D vwCl [(j1, .inr (6, [.ref b1, .ref z1, .int bo])), (a1, .inr (5, [.ref a2, .ref a3, .int vz, .int (nI wn), .int (nI hn), .int vk])), (a2, .inl (cI, 144, .inl (upd (putF px x y (fun _ => 128) k) ((y + k / 4) * 12 + (x + k % 4)) 128))), (a3, .inl (cI, 9, .inl md))] H := hP
        have hD : va_D A [(j1, .inr (6, [.ref b1, .ref z1, .int bo])), (a1, .inr (5, [.ref a2, .ref a3, .int vz, .int (nI wn), .int (nI hn), .int vk])), (a2, .inl (cI, 144, .inl (upd (putF px x y (fun _ => 128) k) ((y + k / 4) * 12 + (x + k % 4)) 128))), (a3, .inl (cI, 9, .inl md))] := hD
        refine lv_iinc (v := nI (k + 1)) (lv' := [(4, .int (nI (k + 1))), (0, .ref j1), (1, .ref a1), (2, .int (nI x)), (3, .int (nI y))]) hx hb d_RowReader_makeGrey_29 hl (k := 4) rfl (nI_1 _) (by decide) rfl (fun ls hl => ?_)
        refine lv_goto (tgt := 3) hx hb d_RowReader_makeGrey_32 (by decide) ?_
        exact ih3 (k + 1) (by omega) (by omega) _ _ _ (hP.sub (ws' := [(j1, .inr (6, [.ref b1, .ref z1, .int bo])), (a1, .inr (5, [.ref a2, .ref a3, .int vz, .int (nI wn), .int (nI hn), .int vk])), (a2, .inl (cI, 144, .inl (putF px x y (fun _ => 128) (k + 1)))), (a3, .inl (cI, 9, .inl md))]) [0, 1, 2, 3] rfl) (hD.sub (ws' := [(j1, .inr (6, [.ref b1, .ref z1, .int bo])), (a1, .inr (5, [.ref a2, .ref a3, .int vz, .int (nI wn), .int (nI hn), .int vk])), (a2, .inl (cI, 144, .inl (putF px x y (fun _ => 128) (k + 1)))), (a3, .inl (cI, 9, .inl md))]) [0, 1, 2, 3] (by decide) rfl) hS (lv_sub hl [1, 2, 3, 4, 0] rfl)
  exact lp3 (17) 0 (by omega) (by omega) _ _ _ (hP.sub (ws' := [(j1, .inr (6, [.ref b1, .ref z1, .int bo])), (a1, .inr (5, [.ref a2, .ref a3, .int vz, .int (nI wn), .int (nI hn), .int vk])), (a2, .inl (cI, 144, .inl (putF px x y (fun _ => 128) 0))), (a3, .inl (cI, 9, .inl md))]) [0, 1, 2, 3] rfl) (hD.sub (ws' := [(j1, .inr (6, [.ref b1, .ref z1, .int bo])), (a1, .inr (5, [.ref a2, .ref a3, .int vz, .int (nI wn), .int (nI hn), .int vk])), (a2, .inl (cI, 144, .inl (putF px x y (fun _ => 128) 0))), (a3, .inl (cI, 9, .inl md))]) [0, 1, 2, 3] (by decide) rfl) hS (lv_sub hl [1, 2, 3, 4, 0] rfl)
def y_RowReader_readLevels : MethodName := ⟨"TileForge$RowReader", "readLevels", "(LTileForge$ByteRow;)I"⟩
def ws_RowReader_readLevels : List Cond := .code y_RowReader_readLevels prog_8_method_4_code 5 (some .int) :: GW
theorem mw_292 : (.code ⟨"TileForge$RowReader", "readLevels", "(LTileForge$ByteRow;)I"⟩ prog_8_method_4_code 5 (some .int) : Cond) ∈ GW := List.mem_filter.mpr ⟨(List.mem_append_right _ (List.mem_append_right _ (List.mem_append_right _ (List.mem_append_left _ (List.mem_of_getElem? (i := 103) rfl))))), rfl⟩
theorem hd_RowReader_readLevels : y_RowReader_readLevels.cls ≠ "java/lang/invoke/MethodHandle" ∧ y_RowReader_readLevels.cls ≠ "java/lang/invoke/VarHandle" ∧ (parseMethodDescriptor y_RowReader_readLevels.desc).map (fun d => d.parameters.length) = some 1 := by decide +kernel
theorem d_RowReader_readLevels_0 : decode prog_8_method_4_code 0 = .ok (.aload_n 1, 1) := by decide +kernel
theorem d_RowReader_readLevels_1 : decode prog_8_method_4_code 1 = .ok (.iconst 5, 1) := by decide +kernel
theorem d_RowReader_readLevels_2 : decode prog_8_method_4_code 2 = .ok (.invokevirtual 63, 3) := by decide +kernel
theorem d_RowReader_readLevels_5 : decode prog_8_method_4_code 5 = .ok (.istore_n 2, 1) := by decide +kernel
theorem d_RowReader_readLevels_6 : decode prog_8_method_4_code 6 = .ok (.iload_n 2, 1) := by decide +kernel
theorem d_RowReader_readLevels_7 : decode prog_8_method_4_code 7 = .ok (.iconst (-1), 1) := by decide +kernel
theorem d_RowReader_readLevels_8 : decode prog_8_method_4_code 8 = .ok (.if_icmp .ne 5, 3) := by decide +kernel
theorem d_RowReader_readLevels_11 : decode prog_8_method_4_code 11 = .ok (.iconst 1, 1) := by decide +kernel
theorem d_RowReader_readLevels_12 : decode prog_8_method_4_code 12 = .ok (.ireturn, 1) := by decide +kernel
theorem d_RowReader_readLevels_13 : decode prog_8_method_4_code 13 = .ok (.iload_n 2, 1) := by decide +kernel
theorem d_RowReader_readLevels_14 : decode prog_8_method_4_code 14 = .ok (.bipush 16, 2) := by decide +kernel
theorem d_RowReader_readLevels_16 : decode prog_8_method_4_code 16 = .ok (.if_icmp .le 5, 3) := by decide +kernel
theorem d_RowReader_readLevels_19 : decode prog_8_method_4_code 19 = .ok (.iconst 2, 1) := by decide +kernel
theorem d_RowReader_readLevels_20 : decode prog_8_method_4_code 20 = .ok (.ireturn, 1) := by decide +kernel
theorem d_RowReader_readLevels_21 : decode prog_8_method_4_code 21 = .ok (.iconst 0, 1) := by decide +kernel
theorem d_RowReader_readLevels_22 : decode prog_8_method_4_code 22 = .ok (.istore_n 3, 1) := by decide +kernel
theorem d_RowReader_readLevels_23 : decode prog_8_method_4_code 23 = .ok (.iload_n 3, 1) := by decide +kernel
theorem d_RowReader_readLevels_24 : decode prog_8_method_4_code 24 = .ok (.bipush 16, 2) := by decide +kernel
theorem d_RowReader_readLevels_26 : decode prog_8_method_4_code 26 = .ok (.if_icmp .ge 61, 3) := by decide +kernel
theorem d_RowReader_readLevels_29 : decode prog_8_method_4_code 29 = .ok (.iload_n 3, 1) := by decide +kernel
theorem d_RowReader_readLevels_30 : decode prog_8_method_4_code 30 = .ok (.iload_n 2, 1) := by decide +kernel
theorem d_RowReader_readLevels_31 : decode prog_8_method_4_code 31 = .ok (.if_icmp .ge 15, 3) := by decide +kernel
theorem d_RowReader_readLevels_34 : decode prog_8_method_4_code 34 = .ok (.aload_n 0, 1) := by decide +kernel
theorem d_RowReader_readLevels_35 : decode prog_8_method_4_code 35 = .ok (.getfield 21, 3) := by decide +kernel
theorem d_RowReader_readLevels_38 : decode prog_8_method_4_code 38 = .ok (.aload_n 1, 1) := by decide +kernel
theorem d_RowReader_readLevels_39 : decode prog_8_method_4_code 39 = .ok (.iload_n 3, 1) := by decide +kernel
theorem d_RowReader_readLevels_40 : decode prog_8_method_4_code 40 = .ok (.invokevirtual 85, 3) := by decide +kernel
theorem d_RowReader_readLevels_43 : decode prog_8_method_4_code 43 = .ok (.goto 4, 3) := by decide +kernel
theorem d_RowReader_readLevels_46 : decode prog_8_method_4_code 46 = .ok (.iconst 0, 1) := by decide +kernel
theorem d_RowReader_readLevels_47 : decode prog_8_method_4_code 47 = .ok (.istore 4, 2) := by decide +kernel
theorem d_RowReader_readLevels_49 : decode prog_8_method_4_code 49 = .ok (.iload 4, 2) := by decide +kernel
theorem d_RowReader_readLevels_51 : decode prog_8_method_4_code 51 = .ok (.iconst (-1), 1) := by decide +kernel
theorem d_RowReader_readLevels_52 : decode prog_8_method_4_code 52 = .ok (.if_icmp .ne 5, 3) := by decide +kernel
theorem d_RowReader_readLevels_55 : decode prog_8_method_4_code 55 = .ok (.iconst 1, 1) := by decide +kernel
theorem d_RowReader_readLevels_56 : decode prog_8_method_4_code 56 = .ok (.ireturn, 1) := by decide +kernel
theorem d_RowReader_readLevels_57 : decode prog_8_method_4_code 57 = .ok (.iload 4, 2) := by decide +kernel
theorem d_RowReader_readLevels_59 : decode prog_8_method_4_code 59 = .ok (.sipush 8190, 3) := by decide +kernel
theorem d_RowReader_readLevels_62 : decode prog_8_method_4_code 62 = .ok (.if_icmp .le 5, 3) := by decide +kernel
theorem d_RowReader_readLevels_65 : decode prog_8_method_4_code 65 = .ok (.iconst 2, 1) := by decide +kernel
theorem d_RowReader_readLevels_66 : decode prog_8_method_4_code 66 = .ok (.ireturn, 1) := by decide +kernel
theorem d_RowReader_readLevels_67 : decode prog_8_method_4_code 67 = .ok (.aload_n 0, 1) := by decide +kernel
theorem d_RowReader_readLevels_68 : decode prog_8_method_4_code 68 = .ok (.getfield 12, 3) := by decide +kernel
theorem d_RowReader_readLevels_71 : decode prog_8_method_4_code 71 = .ok (.getfield 89, 3) := by decide +kernel
theorem d_RowReader_readLevels_74 : decode prog_8_method_4_code 74 = .ok (.iload_n 3, 1) := by decide +kernel
theorem d_RowReader_readLevels_75 : decode prog_8_method_4_code 75 = .ok (.iload 4, 2) := by decide +kernel
theorem d_RowReader_readLevels_77 : decode prog_8_method_4_code 77 = .ok (.invokestatic 92, 3) := by decide +kernel
theorem d_RowReader_readLevels_80 : decode prog_8_method_4_code 80 = .ok (.iastore, 1) := by decide +kernel
theorem d_RowReader_readLevels_81 : decode prog_8_method_4_code 81 = .ok (.iinc 3 1, 3) := by decide +kernel
theorem d_RowReader_readLevels_84 : decode prog_8_method_4_code 84 = .ok (.goto (-61), 3) := by decide +kernel
theorem d_RowReader_readLevels_87 : decode prog_8_method_4_code 87 = .ok (.iconst 0, 1) := by decide +kernel
theorem d_RowReader_readLevels_88 : decode prog_8_method_4_code 88 = .ok (.ireturn, 1) := by decide +kernel
theorem mw_293 : (.methodLink "TileForge$RowReader" 63 ⟨"TileForge$ByteRow", "readBits", "(I)I"⟩ : Cond) ∈ GW := List.mem_filter.mpr ⟨(List.mem_append_right _ (List.mem_append_right _ (List.mem_append_right _ (List.mem_append_left _ (List.mem_of_getElem? (i := 92) rfl))))), rfl⟩
theorem mw_294 : (.fieldLink "TileForge$RowReader" 89 "TileForge$Block" "levels" "[I" : Cond) ∈ GW := List.mem_filter.mpr ⟨(List.mem_append_right _ (List.mem_append_left _ (List.mem_of_getElem? (i := 121) rfl))), rfl⟩
theorem mw_295 : (.methodLink "TileForge$RowReader" 92 ⟨"TileForge$LevelCode", "levelOf", "(I)I"⟩ : Cond) ∈ GW := List.mem_filter.mpr ⟨(List.mem_append_right _ (List.mem_append_right _ (List.mem_append_right _ (List.mem_append_left _ (List.mem_of_getElem? (i := 113) rfl))))), rfl⟩
theorem mw_296 : (.static ⟨"TileForge$LevelCode", "levelOf", "(I)I"⟩ : Cond) ∈ GW := List.mem_filter.mpr ⟨(List.mem_append_right _ (List.mem_append_right _ (List.mem_append_right _ (List.mem_append_left _ (List.mem_of_getElem? (i := 114) rfl))))), rfl⟩
theorem mw_297 : (.methodLink "TileForge$RowReader" 85 ⟨"TileForge$LevelCode", "readU", "(LTileForge$ByteRow;I)I"⟩ : Cond) ∈ GW := List.mem_filter.mpr ⟨(List.mem_append_right _ (List.mem_append_right _ (List.mem_append_right _ (List.mem_append_left _ (List.mem_of_getElem? (i := 104) rfl))))), rfl⟩
theorem mw_298 : (.instanceMethod ⟨"TileForge$LevelCode", "readU", "(LTileForge$ByteRow;I)I"⟩ : Cond) ∈ GW := List.mem_filter.mpr ⟨(List.mem_append_right _ (List.mem_append_right _ (List.mem_append_right _ (List.mem_append_left _ (List.mem_of_getElem? (i := 105) rfl))))), rfl⟩
theorem mw_299 : (.selects "TileForge$LevelCode" ⟨"TileForge$LevelCode", "readU", "(LTileForge$ByteRow;I)I"⟩ ⟨"TileForge$LevelCode", "readU", "(LTileForge$ByteRow;I)I"⟩ : Cond) ∈ GW := List.mem_filter.mpr ⟨(List.mem_append_right _ (List.mem_append_right _ (List.mem_append_right _ (List.mem_append_left _ (List.mem_of_getElem? (i := 106) rfl))))), rfl⟩
def q_rr_levels (cI : ClassId) (j1 : Nat) (bo : Int32) (b1 : Nat) (b2 : Nat) (b3 : Nat) (b4 : Nat) (b5 : Nat) (b6 : Nat) (ab : Nat → Int32) (lf : Nat → Int32) (fo : Nat → Int32) (lv : Nat → Int32) (wk : Nat → Int32) (vr : Int32) (vc : Int32) (vcr : Int32) (z1 : Nat) (t1 : Nat) (vs : Int32) (vn : Int32) (t2 : Nat) (vs2 : Int32) (vn2 : Int32) (y1 : Nat) (y2 : Nat) (yt : Nat → Int32) (yl : Nat) (yp : Nat) : Int32 → va_W → Prop := fun rr ww => rr = ((rlS yt yl (yp, vs, vn, vs2, vn2, lv)).1) ∧ ww = [(j1, .inr (6, [.ref b1, .ref z1, .int bo])), (b1, .inr (1, [.ref b2, .ref b3, .ref b4, .ref b5, .ref b6, .int vr, .int vc, .int vcr])), (b2, .inl (cI, 4, .inl ab)), (b3, .inl (cI, 4, .inl lf)), (b4, .inl (cI, 16, .inl fo)), (b5, .inl (cI, 16, .inl ((rlS yt yl (yp, vs, vn, vs2, vn2, lv)).2.2.2.2.2.2))), (b6, .inl (cI, 16, .inl wk)), (z1, .inr (4, [.ref t1, .ref t2])), (t1, .inr (7, [.int ((rlS yt yl (yp, vs, vn, vs2, vn2, lv)).2.2.1), .int ((rlS yt yl (yp, vs, vn, vs2, vn2, lv)).2.2.2.1)])), (t2, .inr (7, [.int ((rlS yt yl (yp, vs, vn, vs2, vn2, lv)).2.2.2.2.1), .int ((rlS yt yl (yp, vs, vn, vs2, vn2, lv)).2.2.2.2.2.1)])), (y1, .inr (2, [.ref y2, .int (nI yl), .int (nI (rlS yt yl (yp, vs, vn, vs2, vn2, lv)).2.1)])), (y2, .inl (cI, 400, .inl yt))]
set_option maxHeartbeats 4000000 in
set_option maxRecDepth 100000 in
theorem c_rr_levels (l : Launch) {D : va_G} {tys : List (ClassId × FieldType)} {cI : ClassId} (hcI : tys[0]? = some (cI, .int)) (j1 : Nat) (bo : Int32) (b1 : Nat) (b2 : Nat) (b3 : Nat) (b4 : Nat) (b5 : Nat) (b6 : Nat) (ab : Nat → Int32) (lf : Nat → Int32) (fo : Nat → Int32) (lv : Nat → Int32) (wk : Nat → Int32) (vr : Int32) (vc : Int32) (vcr : Int32) (z1 : Nat) (t1 : Nat) (vs : Int32) (vn : Int32) (t2 : Nat) (vs2 : Int32) (vn2 : Int32) (y1 : Nat) (y2 : Nat) (yt : Nat → Int32) (yl : Nat) (yp : Nat) (hyl : yl ≤ 400) (hyp : yp + 1000 < 1073741824) : CsI l D vwCl tys y_RowReader_readLevels ws_RowReader_readLevels ({ frames := 3, cells := 0, slots := 0, locals := 74 } : Room) [.ref j1, .ref y1] [(j1, .inr (6, [.ref b1, .ref z1, .int bo])), (b1, .inr (1, [.ref b2, .ref b3, .ref b4, .ref b5, .ref b6, .int vr, .int vc, .int vcr])), (b2, .inl (cI, 4, .inl ab)), (b3, .inl (cI, 4, .inl lf)), (b4, .inl (cI, 16, .inl fo)), (b5, .inl (cI, 16, .inl lv)), (b6, .inl (cI, 16, .inl wk)), (z1, .inr (4, [.ref t1, .ref t2])), (t1, .inr (7, [.int vs, .int vn])), (t2, .inr (7, [.int vs2, .int vn2])), (y1, .inr (2, [.ref y2, .int (nI yl), .int (nI yp)])), (y2, .inl (cI, 400, .inl yt))] (q_rr_levels cI j1 bo b1 b2 b3 b4 b5 b6 ab lf fo lv wk vr vc vcr z1 t1 vs vn t2 vs2 vn2 y1 y2 yt yl yp) 0 0 := by
  intro sz
  refine Met.ofW (cc := prog_8_method_4_code) (maxL := 5) (ret := (some .int)) (by decide) rfl ?_
  intro p e s m args below meth c s₁ B hml hv
  obtain ⟨rfl, hsz, hP, hK, hD0, hN⟩ := hv
  have hx := B.exec
  have hb := B.bytes
  have hr := B.returns
  have hts := atoms_spec (ws := ws_RowReader_readLevels) B.pre
  have hown : s.vm.findClass "TileForge$RowReader" = some m.cls := findClass_of_methodNamed B.named
  have hlocks := B.notSynchronized
  subst hsz
  have hD := hD0.self (sz := s.heap.size)
  generalize hAe : va_A [(j1, .inr (6, [.ref b1, .ref z1, .int bo])), (b1, .inr (1, [.ref b2, .ref b3, .ref b4, .ref b5, .ref b6, .int vr, .int vc, .int vcr])), (b2, .inl (cI, 4, .inl ab)), (b3, .inl (cI, 4, .inl lf)), (b4, .inl (cI, 16, .inl fo)), (b5, .inl (cI, 16, .inl lv)), (b6, .inl (cI, 16, .inl wk)), (z1, .inr (4, [.ref t1, .ref t2])), (t1, .inr (7, [.int vs, .int vn])), (t2, .inr (7, [.int vs2, .int vn2])), (y1, .inr (2, [.ref y2, .int (nI yl), .int (nI yp)])), (y2, .inl (cI, 400, .inl yt))] s.heap.size = A at hD ⊢
  have hA : ∀ q : Nat, s.heap.size ≤ q → A q := fun q h => by rw [← hAe]; exact Or.inr h
  have hS : va_S A s.heap s.heap [] := va_S.rf
  have hP : va_P D vwCl [(j1, .inr (6, [.ref b1, .ref z1, .int bo])), (b1, .inr (1, [.ref b2, .ref b3, .ref b4, .ref b5, .ref b6, .int vr, .int vc, .int vcr])), (b2, .inl (cI, 4, .inl ab)), (b3, .inl (cI, 4, .inl lf)), (b4, .inl (cI, 16, .inl fo)), (b5, .inl (cI, 16, .inl lv)), (b6, .inl (cI, 16, .inl wk)), (z1, .inr (4, [.ref t1, .ref t2])), (t1, .inr (7, [.int vs, .int vn])), (t2, .inr (7, [.int vs2, .int vn2])), (y1, .inr (2, [.ref y2, .int (nI yl), .int (nI yp)])), (y2, .inl (cI, 400, .inl yt))] s.heap := hP
  have hl := lv_entry ([.ref j1, .ref y1]) (n := 5) (Nat.le_of_ble_eq_true rfl)
  rw [lg_entry_eq]
  generalize (lg_sl ([.ref j1, .ref y1]) ++ List.replicate (5 - (lg_sl ([.ref j1, .ref y1])).length) Slot.unset).toArray = ls at hl ⊢
  have hl : lv_has ls 5 [(0, .ref j1), (1, .ref y1)] := hl
  refine lv_aload_n hx hb d_RowReader_readLevels_0 rfl (lv_at hl 1 rfl) ?_
  refine lv_iconst (v := 5) hx hb d_RowReader_readLevels_1 (by decide) ?_
  refine cs_Vi (As := [.int 5]) (rest := []) (wr := [(j1, .inr (6, [.ref b1, .ref z1, .int bo])), (b1, .inr (1, [.ref b2, .ref b3, .ref b4, .ref b5, .ref b6, .int vr, .int vc, .int vcr])), (b2, .inl (cI, 4, .inl ab)), (b3, .inl (cI, 4, .inl lf)), (b4, .inl (cI, 16, .inl fo)), (b5, .inl (cI, 16, .inl lv)), (b6, .inl (cI, 16, .inl wk)), (z1, .inr (4, [.ref t1, .ref t2])), (t1, .inr (7, [.int vs, .int vn])), (t2, .inr (7, [.int vs2, .int vn2]))]) ⟨hx, hb, hml, hown, hts⟩ (c_br_bits l hcI y1 y2 yt yl yp 5 (hyl) (by omega)) (cwV 1 hts (cs_gV mw_293 mw_181 mw_182 mw_133 mw_132) rfl rfl rfl ⟨rfl, hd_ByteRow_readBits⟩ ⟨Nat.le_of_ble_eq_true rfl, Nat.le_of_ble_eq_true rfl⟩) hN hK hP hD hS hA [10, 11] [0, 1, 2, 3, 4, 5, 6, 7, 8, 9] rfl rfl rfl rfl (by decide) (ci := 2) rfl rfl rfl rfl rfl hl.1 (Nat.le_of_ble_eq_true rfl) d_RowReader_readLevels_2 ⟨Nat.le_of_ble_eq_true rfl, Nat.le_of_ble_eq_true rfl⟩ (fun r1 w1 H locs hw hP hD hS => ?_)
  obtain ⟨rfl, rfl⟩ := hw
  have hP : va_P D vwCl [(j1, .inr (6, [.ref b1, .ref z1, .int bo])), (b1, .inr (1, [.ref b2, .ref b3, .ref b4, .ref b5, .ref b6, .int vr, .int vc, .int vcr])), (b2, .inl (cI, 4, .inl ab)), (b3, .inl (cI, 4, .inl lf)), (b4, .inl (cI, 16, .inl fo)), (b5, .inl (cI, 16, .inl lv)), (b6, .inl (cI, 16, .inl wk)), (z1, .inr (4, [.ref t1, .ref t2])), (t1, .inr (7, [.int vs, .int vn])), (t2, .inr (7, [.int vs2, .int vn2])), (y1, .inr (2, [.ref y2, .int (nI yl), .int (nI (rdB yt yl 5 yp 0).2)])), (y2, .inl (cI, 400, .inl yt))] H := hP
  have hD : va_D A [(j1, .inr (6, [.ref b1, .ref z1, .int bo])), (b1, .inr (1, [.ref b2, .ref b3, .ref b4, .ref b5, .ref b6, .int vr, .int vc, .int vcr])), (b2, .inl (cI, 4, .inl ab)), (b3, .inl (cI, 4, .inl lf)), (b4, .inl (cI, 16, .inl fo)), (b5, .inl (cI, 16, .inl lv)), (b6, .inl (cI, 16, .inl wk)), (z1, .inr (4, [.ref t1, .ref t2])), (t1, .inr (7, [.int vs, .int vn])), (t2, .inr (7, [.int vs2, .int vn2])), (y1, .inr (2, [.ref y2, .int (nI yl), .int (nI (rdB yt yl 5 yp 0).2)])), (y2, .inl (cI, 400, .inl yt))] := hD
  refine lv_istore_n (lv' := [(2, .int ((rdB yt yl 5 yp 0).1)), (0, .ref j1), (1, .ref y1)]) hx hb d_RowReader_readLevels_5 rfl hl (by decide) rfl (fun ls hl => ?_)
  refine lv_iload_n hx hb d_RowReader_readLevels_6 rfl (lv_at hl 0 rfl) ?_
  refine lv_iconst (v := (-1)) hx hb d_RowReader_readLevels_7 (by decide) ?_
  refine lv_icmp_ne (tgt := 13) hx hb d_RowReader_readLevels_8 (by decide) (fun c_8 => ?_) (fun c_8 => ?_)
  · refine lv_iload_n hx hb d_RowReader_readLevels_13 rfl (lv_at hl 0 rfl) ?_
    refine lv_bipush (v := 16) hx hb d_RowReader_readLevels_14 (by decide) ?_
    refine lv_icmp_le (tgt := 21) hx hb d_RowReader_readLevels_16 (by decide) (fun c_16 => ?_) (fun c_16 => ?_)
    · refine lv_iconst (v := 0) hx hb d_RowReader_readLevels_21 (by decide) ?_
      refine lv_istore_n (lv' := [(3, .int 0), (2, .int ((rdB yt yl 5 yp 0).1)), (0, .ref j1), (1, .ref y1)]) hx hb d_RowReader_readLevels_22 rfl hl (by decide) rfl (fun ls hl => ?_)
      have lp23 : ∀ (n : Nat) (i : Nat) (q : Nat) (s1 : Int32) (m1 : Int32) (s2 : Int32) (m2 : Int32) (g : Nat → Int32), (17 ≤ i + n) → (i ≤ 16) → (q ≤ yp + 5 + 26 * i) → (rlF yt yl (rdB yt yl 5 yp 0).1 (16 - i) i (q, s1, m1, s2, m2, g) = (rlS yt yl (yp, vs, vn, vs2, vn2, lv))) → ∀ (H : Heap) (locs : List Loc) (ls : Array Slot), va_P D vwCl [(j1, .inr (6, [.ref b1, .ref z1, .int bo])), (b1, .inr (1, [.ref b2, .ref b3, .ref b4, .ref b5, .ref b6, .int vr, .int vc, .int vcr])), (b2, .inl (cI, 4, .inl ab)), (b3, .inl (cI, 4, .inl lf)), (b4, .inl (cI, 16, .inl fo)), (b5, .inl (cI, 16, .inl g)), (b6, .inl (cI, 16, .inl wk)), (z1, .inr (4, [.ref t1, .ref t2])), (t1, .inr (7, [.int s1, .int m1])), (t2, .inr (7, [.int s2, .int m2])), (y1, .inr (2, [.ref y2, .int (nI yl), .int (nI q)])), (y2, .inl (cI, 400, .inl yt))] H → va_D A [(j1, .inr (6, [.ref b1, .ref z1, .int bo])), (b1, .inr (1, [.ref b2, .ref b3, .ref b4, .ref b5, .ref b6, .int vr, .int vc, .int vcr])), (b2, .inl (cI, 4, .inl ab)), (b3, .inl (cI, 4, .inl lf)), (b4, .inl (cI, 16, .inl fo)), (b5, .inl (cI, 16, .inl g)), (b6, .inl (cI, 16, .inl wk)), (z1, .inr (4, [.ref t1, .ref t2])), (t1, .inr (7, [.int s1, .int m1])), (t2, .inr (7, [.int s2, .int m2])), (y1, .inr (2, [.ref y2, .int (nI yl), .int (nI q)])), (y2, .inl (cI, 400, .inl yt))] → va_S A s.heap H locs → lv_has ls 5 [(0, .ref j1), (1, .ref y1), (2, .int ((rdB yt yl 5 yp 0).1)), (3, .int (nI i))] → W p l e ({ frames := 3, cells := 0, slots := 0, locals := 74 } : Room) s m ([.ref j1, .ref y1] : List Value).toArray below meth c H locs 0 0 (MQ below (va_Qi (q_rr_levels cI j1 bo b1 b2 b3 b4 b5 b6 ab lf fo lv wk vr vc vcr z1 t1 vs vn t2 vs2 vn2 y1 y2 yt yl yp) (cs_B D vwCl tys A) A) ([.ref j1, .ref y1] : List Value).toArray s 0 0 A) (F0 m 23 ls []) := by
        intro n
        induction n with
        | zero =>
          intro i q s1 m1 s2 m2 g hf hi hq he
          exact absurd hf (by omega)
        | succ n ih23 =>
          intro i q s1 m1 s2 m2 g hf hi hq he H locs ls hP hD hS hl
          refine lv_iload_n hx hb d_RowReader_readLevels_23 rfl (lv_at hl 3 rfl) ?_
          refine lv_bipush (v := 16) hx hb d_RowReader_readLevels_24 (by decide) ?_
          refine lv_icmp_ge (tgt := 87) hx hb d_RowReader_readLevels_26 (by decide) (fun c_26 => ?_) (fun c_26 => ?_)
          · have hi2 := (nI_leI (a := 16) (b := i) (by decide) (by omega)).mp c_26
            have hi3 : 16 - i = 0 := by omega
            have hSS : (rlS yt yl (yp, vs, vn, vs2, vn2, lv)) = (0, q, s1, m1, s2, m2, g) := by rw [← he, hi3]; rfl
            refine lv_iconst (v := 0) hx hb d_RowReader_readLevels_87 (by decide) ?_
            exact W.iret (v := 0) hx hb hr (fun t ht hW => ⟨⟨0, [(j1, .inr (6, [.ref b1, .ref z1, .int bo])), (b1, .inr (1, [.ref b2, .ref b3, .ref b4, .ref b5, .ref b6, .int vr, .int vc, .int vcr])), (b2, .inl (cI, 4, .inl ab)), (b3, .inl (cI, 4, .inl lf)), (b4, .inl (cI, 16, .inl fo)), (b5, .inl (cI, 16, .inl g)), (b6, .inl (cI, 16, .inl wk)), (z1, .inr (4, [.ref t1, .ref t2])), (t1, .inr (7, [.int s1, .int m1])), (t2, .inr (7, [.int s2, .int m2])), (y1, .inr (2, [.ref y2, .int (nI yl), .int (nI q)])), (y2, .inl (cI, 400, .inl yt))], rfl, ⟨(by rw [hSS]), (by rw [hSS])⟩, by rw [ht]; exact hP, va_K.moved hW.alike hK, hD⟩, hS.F ht⟩) hS.2.2 d_RowReader_readLevels_88
          · have hi2 : i < 16 := Nat.not_le.mp (fun h => c_26 ((nI_leI (a := 16) (b := i) (by decide) (by omega)).mpr h))
            refine lv_iload_n hx hb d_RowReader_readLevels_29 rfl (lv_at hl 3 rfl) ?_
            refine lv_iload_n hx hb d_RowReader_readLevels_30 rfl (lv_at hl 2 rfl) ?_
            refine lv_icmp_ge (tgt := 46) hx hb d_RowReader_readLevels_31 (by decide) (fun c_31 => ?_) (fun c_31 => ?_)
            · refine lv_iconst (v := 0) hx hb d_RowReader_readLevels_46 (by decide) ?_
              refine lv_istore (lv' := [(4, .int 0), (0, .ref j1), (1, .ref y1), (2, .int ((rdB yt yl 5 yp 0).1)), (3, .int (nI i))]) hx hb d_RowReader_readLevels_47 hl (by decide) rfl (fun ls hl => ?_)
              refine lv_iload hx hb d_RowReader_readLevels_49 (lv_at hl 0 rfl) ?_
              refine lv_iconst (v := (-1)) hx hb d_RowReader_readLevels_51 (by decide) ?_
              refine lv_icmp_ne (tgt := 57) hx hb d_RowReader_readLevels_52 (by decide) (fun c_52 => ?_) (fun c_52 => ?_)
              · refine lv_iload hx hb d_RowReader_readLevels_57 (lv_at hl 0 rfl) ?_
                refine lv_sipush (v := 8190) hx hb d_RowReader_readLevels_59 (by decide) ?_
                refine lv_icmp_le (tgt := 67) hx hb d_RowReader_readLevels_62 (by decide) (fun c_62 => ?_) (fun c_62 => ?_)
                · refine lv_aload_n hx hb d_RowReader_readLevels_67 rfl (lv_at hl 1 rfl) ?_
                  refine va_get (D := D) (ci := 6) (v := .ref b1) (C := "TileForge$RowReader") (T := T_RowReader) (N := 3) hx hb hts (cs_in in_RowReader) hown hK hP 0 rfl rfl 0 (by decide) (hts _ (cs_m mw_287)) (fun _ h9 => h9) rfl d_RowReader_readLevels_68 ?_
                  refine va_get (D := D) (ci := 1) (v := .ref b5) (C := "TileForge$Block") (T := T_Block) (N := 8) hx hb hts (cs_in in_Block) hown hK hP 1 rfl rfl 3 (by decide) (hts _ (cs_m mw_294)) (fun _ h9 => h9) rfl d_RowReader_readLevels_71 ?_
                  refine lv_iload_n hx hb d_RowReader_readLevels_74 rfl (lv_at hl 4 rfl) ?_
                  refine lv_iload hx hb d_RowReader_readLevels_75 (lv_at hl 0 rfl) ?_
                  refine cs_Si (As := [.int 0]) (rest := [.int (nI i), .ref b5]) (wr := [(j1, .inr (6, [.ref b1, .ref z1, .int bo])), (b1, .inr (1, [.ref b2, .ref b3, .ref b4, .ref b5, .ref b6, .int vr, .int vc, .int vcr])), (b2, .inl (cI, 4, .inl ab)), (b3, .inl (cI, 4, .inl lf)), (b4, .inl (cI, 16, .inl fo)), (b5, .inl (cI, 16, .inl g)), (b6, .inl (cI, 16, .inl wk)), (z1, .inr (4, [.ref t1, .ref t2])), (t1, .inr (7, [.int s1, .int m1])), (t2, .inr (7, [.int s2, .int m2])), (y1, .inr (2, [.ref y2, .int (nI yl), .int (nI q)])), (y2, .inl (cI, 400, .inl yt))]) ⟨hx, hb, hml, hown, hts⟩ (c_lc_levelOf l hcI 0) (va_cwS 1 hts (cs_gS mw_295 mw_296 mw_245 mw_164) rfl rfl rfl hd_LevelCode_levelOf ⟨Nat.le_of_ble_eq_true rfl, Nat.le_of_ble_eq_true rfl⟩) hN hK hP hD hS hA [] [0, 1, 2, 3, 4, 5, 6, 7, 8, 9, 10, 11] rfl rfl rfl rfl (by decide) rfl rfl hl.1 (Nat.le_of_ble_eq_true rfl) d_RowReader_readLevels_77 ⟨Nat.le_of_ble_eq_true rfl, Nat.le_of_ble_eq_true rfl⟩ (fun r2 w1 H locs hw hP hD hS => ?_)
                  obtain ⟨rfl, rfl⟩ := hw
                  have hP : va_P D vwCl [(j1, .inr (6, [.ref b1, .ref z1, .int bo])), (b1, .inr (1, [.ref b2, .ref b3, .ref b4, .ref b5, .ref b6, .int vr, .int vc, .int vcr])), (b2, .inl (cI, 4, .inl ab)), (b3, .inl (cI, 4, .inl lf)), (b4, .inl (cI, 16, .inl fo)), (b5, .inl (cI, 16, .inl g)), (b6, .inl (cI, 16, .inl wk)), (z1, .inr (4, [.ref t1, .ref t2])), (t1, .inr (7, [.int s1, .int m1])), (t2, .inr (7, [.int s2, .int m2])), (y1, .inr (2, [.ref y2, .int (nI yl), .int (nI q)])), (y2, .inl (cI, 400, .inl yt))] H := hP
                  have hD : va_D A [(j1, .inr (6, [.ref b1, .ref z1, .int bo])), (b1, .inr (1, [.ref b2, .ref b3, .ref b4, .ref b5, .ref b6, .int vr, .int vc, .int vcr])), (b2, .inl (cI, 4, .inl ab)), (b3, .inl (cI, 4, .inl lf)), (b4, .inl (cI, 16, .inl fo)), (b5, .inl (cI, 16, .inl g)), (b6, .inl (cI, 16, .inl wk)), (z1, .inr (4, [.ref t1, .ref t2])), (t1, .inr (7, [.int s1, .int m1])), (t2, .inr (7, [.int s2, .int m2])), (y1, .inr (2, [.ref y2, .int (nI yl), .int (nI q)])), (y2, .inl (cI, 400, .inl yt))] := hD
                  refine cs_iast (j := i) hx hb hK hcI hP hD hS 5 rfl (rfl) (by omega) (by decide) d_RowReader_readLevels_80 (fun H locs hP hD hS => ?_)
                  have hP : va_P D vwCl [(j1, .inr (6, [.ref b1, .ref z1, .int bo])), (b1, .inr (1, [.ref b2, .ref b3, .ref b4, .ref b5, .ref b6, .int vr, .int vc, .int vcr])), (b2, .inl (cI, 4, .inl ab)), (b3, .inl (cI, 4, .inl lf)), (b4, .inl (cI, 16, .inl fo)), (b5, .inl (cI, 16, .inl (upd g i (lvOf 0)))), (b6, .inl (cI, 16, .inl wk)), (z1, .inr (4, [.ref t1, .ref t2])), (t1, .inr (7, [.int s1, .int m1])), (t2, .inr (7, [.int s2, .int m2])), (y1, .inr (2, [.ref y2, .int (nI yl), .int (nI q)])), (y2, .inl (cI, 400, .inl yt))] H := hP
                  have hD : va_D A [(j1, .inr (6, [.ref b1, .ref z1, .int bo])), (b1, .inr (1, [.ref b2, .ref b3, .ref b4, .ref b5, .ref b6, .int vr, .int vc, .int vcr])), (b2, .inl (cI, 4, .inl ab)), (b3, .inl (cI, 4, .inl lf)), (b4, .inl (cI, 16, .inl fo)), (b5, .inl (cI, 16, .inl (upd g i (lvOf 0)))), (b6, .inl (cI, 16, .inl wk)), (z1, .inr (4, [.ref t1, .ref t2])), (t1, .inr (7, [.int s1, .int m1])), (t2, .inr (7, [.int s2, .int m2])), (y1, .inr (2, [.ref y2, .int (nI yl), .int (nI q)])), (y2, .inl (cI, 400, .inl yt))] := hD
                  refine lv_iinc (v := nI (i + 1)) (lv' := [(3, .int (nI (i + 1))), (4, .int 0), (0, .ref j1), (1, .ref y1), (2, .int ((rdB yt yl 5 yp 0).1))]) hx hb d_RowReader_readLevels_81 hl (k := 4) rfl (nI_1 _) (by decide) rfl (fun ls hl => ?_)
                  refine lv_goto (tgt := 23) hx hb d_RowReader_readLevels_84 (by decide) ?_
                  exact ih23 (i + 1) q s1 m1 s2 m2 (upd g i (lvOf 0)) (by omega) (by omega) (by omega) (by rw [← he, show 16 - i = (16 - (i + 1)) + 1 by omega, rlF, if_pos c_31]) _ _ _ (hP.sub (ws' := [(j1, .inr (6, [.ref b1, .ref z1, .int bo])), (b1, .inr (1, [.ref b2, .ref b3, .ref b4, .ref b5, .ref b6, .int vr, .int vc, .int vcr])), (b2, .inl (cI, 4, .inl ab)), (b3, .inl (cI, 4, .inl lf)), (b4, .inl (cI, 16, .inl fo)), (b5, .inl (cI, 16, .inl (upd g i (lvOf 0)))), (b6, .inl (cI, 16, .inl wk)), (z1, .inr (4, [.ref t1, .ref t2])), (t1, .inr (7, [.int s1, .int m1])), (t2, .inr (7, [.int s2, .int m2])), (y1, .inr (2, [.ref y2, .int (nI yl), .int (nI q)])), (y2, .inl (cI, 400, .inl yt))]) [0, 1, 2, 3, 4, 5, 6, 7, 8, 9, 10, 11] rfl) (hD.sub (ws' := [(j1, .inr (6, [.ref b1, .ref z1, .int bo])), (b1, .inr (1, [.ref b2, .ref b3, .ref b4, .ref b5, .ref b6, .int vr, .int vc, .int vcr])), (b2, .inl (cI, 4, .inl ab)), (b3, .inl (cI, 4, .inl lf)), (b4, .inl (cI, 16, .inl fo)), (b5, .inl (cI, 16, .inl (upd g i (lvOf 0)))), (b6, .inl (cI, 16, .inl wk)), (z1, .inr (4, [.ref t1, .ref t2])), (t1, .inr (7, [.int s1, .int m1])), (t2, .inr (7, [.int s2, .int m2])), (y1, .inr (2, [.ref y2, .int (nI yl), .int (nI q)])), (y2, .inl (cI, 400, .inl yt))]) [0, 1, 2, 3, 4, 5, 6, 7, 8, 9, 10, 11] (by decide) rfl) hS (lv_sub hl [2, 3, 4, 0] rfl)
                · exact absurd c_62 (by decide)
              · exact absurd c_52 (by decide)
            · refine lv_aload_n hx hb d_RowReader_readLevels_34 rfl (lv_at hl 0 rfl) ?_
              refine va_get (D := D) (ci := 6) (v := .ref z1) (C := "TileForge$RowReader") (T := T_RowReader) (N := 3) hx hb hts (cs_in in_RowReader) hown hK hP 0 rfl rfl 1 (by decide) (hts _ (cs_m mw_289)) (fun _ h9 => h9) rfl d_RowReader_readLevels_35 ?_
              refine lv_aload_n hx hb d_RowReader_readLevels_38 rfl (lv_at hl 1 rfl) ?_
              refine lv_iload_n hx hb d_RowReader_readLevels_39 rfl (lv_at hl 3 rfl) ?_
              refine cs_Vi (As := [.ref y1, .int (nI i)]) (rest := []) (wr := [(j1, .inr (6, [.ref b1, .ref z1, .int bo])), (b1, .inr (1, [.ref b2, .ref b3, .ref b4, .ref b5, .ref b6, .int vr, .int vc, .int vcr])), (b2, .inl (cI, 4, .inl ab)), (b3, .inl (cI, 4, .inl lf)), (b4, .inl (cI, 16, .inl fo)), (b5, .inl (cI, 16, .inl g)), (b6, .inl (cI, 16, .inl wk))]) ⟨hx, hb, hml, hown, hts⟩ (c_lc_read l hcI z1 t1 s1 m1 t2 s2 m2 y1 y2 yt yl q i (by omega) (hyl) (by omega)) (cwV 2 hts (cs_gV mw_297 mw_298 mw_299 mw_245 mw_176) rfl rfl rfl ⟨rfl, hd_LevelCode_readU⟩ ⟨Nat.le_of_ble_eq_true rfl, Nat.le_of_ble_eq_true rfl⟩) hN hK hP hD hS hA [7, 8, 9, 10, 11] [0, 1, 2, 3, 4, 5, 6] rfl rfl rfl rfl (by decide) (ci := 4) rfl rfl rfl rfl rfl hl.1 (Nat.le_of_ble_eq_true rfl) d_RowReader_readLevels_40 ⟨Nat.le_of_ble_eq_true rfl, Nat.le_of_ble_eq_true rfl⟩ (fun r3 w1 H locs hw hP hD hS => ?_)
              obtain ⟨rfl, rfl⟩ := hw
              have hP : va_P D vwCl [(j1, .inr (6, [.ref b1, .ref z1, .int bo])), (b1, .inr (1, [.ref b2, .ref b3, .ref b4, .ref b5, .ref b6, .int vr, .int vc, .int vcr])), (b2, .inl (cI, 4, .inl ab)), (b3, .inl (cI, 4, .inl lf)), (b4, .inl (cI, 16, .inl fo)), (b5, .inl (cI, 16, .inl g)), (b6, .inl (cI, 16, .inl wk)), (z1, .inr (4, [.ref t1, .ref t2])), (t1, .inr (7, [.int ((rdU yt yl i s1 m1 s2 m2 q).2.2.1), .int ((rdU yt yl i s1 m1 s2 m2 q).2.2.2.1)])), (t2, .inr (7, [.int ((rdU yt yl i s1 m1 s2 m2 q).2.2.2.2.1), .int ((rdU yt yl i s1 m1 s2 m2 q).2.2.2.2.2)])), (y1, .inr (2, [.ref y2, .int (nI yl), .int (nI (rdU yt yl i s1 m1 s2 m2 q).2.1)])), (y2, .inl (cI, 400, .inl yt))] H := hP
              have hD : va_D A [(j1, .inr (6, [.ref b1, .ref z1, .int bo])), (b1, .inr (1, [.ref b2, .ref b3, .ref b4, .ref b5, .ref b6, .int vr, .int vc, .int vcr])), (b2, .inl (cI, 4, .inl ab)), (b3, .inl (cI, 4, .inl lf)), (b4, .inl (cI, 16, .inl fo)), (b5, .inl (cI, 16, .inl g)), (b6, .inl (cI, 16, .inl wk)), (z1, .inr (4, [.ref t1, .ref t2])), (t1, .inr (7, [.int ((rdU yt yl i s1 m1 s2 m2 q).2.2.1), .int ((rdU yt yl i s1 m1 s2 m2 q).2.2.2.1)])), (t2, .inr (7, [.int ((rdU yt yl i s1 m1 s2 m2 q).2.2.2.2.1), .int ((rdU yt yl i s1 m1 s2 m2 q).2.2.2.2.2)])), (y1, .inr (2, [.ref y2, .int (nI yl), .int (nI (rdU yt yl i s1 m1 s2 m2 q).2.1)])), (y2, .inl (cI, 400, .inl yt))] := hD
              refine lv_goto (tgt := 47) hx hb d_RowReader_readLevels_43 (by decide) ?_
              refine lv_istore (lv' := [(4, .int ((rdU yt yl i s1 m1 s2 m2 q).1)), (0, .ref j1), (1, .ref y1), (2, .int ((rdB yt yl 5 yp 0).1)), (3, .int (nI i))]) hx hb d_RowReader_readLevels_47 hl (by decide) rfl (fun ls hl => ?_)
              refine lv_iload hx hb d_RowReader_readLevels_49 (lv_at hl 0 rfl) ?_
              refine lv_iconst (v := (-1)) hx hb d_RowReader_readLevels_51 (by decide) ?_
              refine lv_icmp_ne (tgt := 57) hx hb d_RowReader_readLevels_52 (by decide) (fun c_52 => ?_) (fun c_52 => ?_)
              · refine lv_iload hx hb d_RowReader_readLevels_57 (lv_at hl 0 rfl) ?_
                refine lv_sipush (v := 8190) hx hb d_RowReader_readLevels_59 (by decide) ?_
                refine lv_icmp_le (tgt := 67) hx hb d_RowReader_readLevels_62 (by decide) (fun c_62 => ?_) (fun c_62 => ?_)
                · refine lv_aload_n hx hb d_RowReader_readLevels_67 rfl (lv_at hl 1 rfl) ?_
                  refine va_get (D := D) (ci := 6) (v := .ref b1) (C := "TileForge$RowReader") (T := T_RowReader) (N := 3) hx hb hts (cs_in in_RowReader) hown hK hP 0 rfl rfl 0 (by decide) (hts _ (cs_m mw_287)) (fun _ h9 => h9) rfl d_RowReader_readLevels_68 ?_
                  refine va_get (D := D) (ci := 1) (v := .ref b5) (C := "TileForge$Block") (T := T_Block) (N := 8) hx hb hts (cs_in in_Block) hown hK hP 1 rfl rfl 3 (by decide) (hts _ (cs_m mw_294)) (fun _ h9 => h9) rfl d_RowReader_readLevels_71 ?_
                  refine lv_iload_n hx hb d_RowReader_readLevels_74 rfl (lv_at hl 4 rfl) ?_
                  refine lv_iload hx hb d_RowReader_readLevels_75 (lv_at hl 0 rfl) ?_
                  refine cs_Si (As := [.int ((rdU yt yl i s1 m1 s2 m2 q).1)]) (rest := [.int (nI i), .ref b5]) (wr := [(j1, .inr (6, [.ref b1, .ref z1, .int bo])), (b1, .inr (1, [.ref b2, .ref b3, .ref b4, .ref b5, .ref b6, .int vr, .int vc, .int vcr])), (b2, .inl (cI, 4, .inl ab)), (b3, .inl (cI, 4, .inl lf)), (b4, .inl (cI, 16, .inl fo)), (b5, .inl (cI, 16, .inl g)), (b6, .inl (cI, 16, .inl wk)), (z1, .inr (4, [.ref t1, .ref t2])), (t1, .inr (7, [.int ((rdU yt yl i s1 m1 s2 m2 q).2.2.1), .int ((rdU yt yl i s1 m1 s2 m2 q).2.2.2.1)])), (t2, .inr (7, [.int ((rdU yt yl i s1 m1 s2 m2 q).2.2.2.2.1), .int ((rdU yt yl i s1 m1 s2 m2 q).2.2.2.2.2)])), (y1, .inr (2, [.ref y2, .int (nI yl), .int (nI (rdU yt yl i s1 m1 s2 m2 q).2.1)])), (y2, .inl (cI, 400, .inl yt))]) ⟨hx, hb, hml, hown, hts⟩ (c_lc_levelOf l hcI ((rdU yt yl i s1 m1 s2 m2 q).1)) (va_cwS 1 hts (cs_gS mw_295 mw_296 mw_245 mw_164) rfl rfl rfl hd_LevelCode_levelOf ⟨Nat.le_of_ble_eq_true rfl, Nat.le_of_ble_eq_true rfl⟩) hN hK hP hD hS hA [] [0, 1, 2, 3, 4, 5, 6, 7, 8, 9, 10, 11] rfl rfl rfl rfl (by decide) rfl rfl hl.1 (Nat.le_of_ble_eq_true rfl) d_RowReader_readLevels_77 ⟨Nat.le_of_ble_eq_true rfl, Nat.le_of_ble_eq_true rfl⟩ (fun r4 w1 H locs hw hP hD hS => ?_)
                  obtain ⟨rfl, rfl⟩ := hw
                  have hP : va_P D vwCl [(j1, .inr (6, [.ref b1, .ref z1, .int bo])), (b1, .inr (1, [.ref b2, .ref b3, .ref b4, .ref b5, .ref b6, .int vr, .int vc, .int vcr])), (b2, .inl (cI, 4, .inl ab)), (b3, .inl (cI, 4, .inl lf)), (b4, .inl (cI, 16, .inl fo)), (b5, .inl (cI, 16, .inl g)), (b6, .inl (cI, 16, .inl wk)), (z1, .inr (4, [.ref t1, .ref t2])), (t1, .inr (7, [.int ((rdU yt yl i s1 m1 s2 m2 q).2.2.1), .int ((rdU yt yl i s1 m1 s2 m2 q).2.2.2.1)])), (t2, .inr (7, [.int ((rdU yt yl i s1 m1 s2 m2 q).2.2.2.2.1), .int ((rdU yt yl i s1 m1 s2 m2 q).2.2.2.2.2)])), (y1, .inr (2, [.ref y2, .int (nI yl), .int (nI (rdU yt yl i s1 m1 s2 m2 q).2.1)])), (y2, .inl (cI, 400, .inl yt))] H := hP
                  have hD : va_D A [(j1, .inr (6, [.ref b1, .ref z1, .int bo])), (b1, .inr (1, [.ref b2, .ref b3, .ref b4, .ref b5, .ref b6, .int vr, .int vc, .int vcr])), (b2, .inl (cI, 4, .inl ab)), (b3, .inl (cI, 4, .inl lf)), (b4, .inl (cI, 16, .inl fo)), (b5, .inl (cI, 16, .inl g)), (b6, .inl (cI, 16, .inl wk)), (z1, .inr (4, [.ref t1, .ref t2])), (t1, .inr (7, [.int ((rdU yt yl i s1 m1 s2 m2 q).2.2.1), .int ((rdU yt yl i s1 m1 s2 m2 q).2.2.2.1)])), (t2, .inr (7, [.int ((rdU yt yl i s1 m1 s2 m2 q).2.2.2.2.1), .int ((rdU yt yl i s1 m1 s2 m2 q).2.2.2.2.2)])), (y1, .inr (2, [.ref y2, .int (nI yl), .int (nI (rdU yt yl i s1 m1 s2 m2 q).2.1)])), (y2, .inl (cI, 400, .inl yt))] := hD
                  refine cs_iast (j := i) hx hb hK hcI hP hD hS 5 rfl (rfl) (by omega) (by decide) d_RowReader_readLevels_80 (fun H locs hP hD hS => ?_)
                  have hP : va_P D vwCl [(j1, .inr (6, [.ref b1, .ref z1, .int bo])), (b1, .inr (1, [.ref b2, .ref b3, .ref b4, .ref b5, .ref b6, .int vr, .int vc, .int vcr])), (b2, .inl (cI, 4, .inl ab)), (b3, .inl (cI, 4, .inl lf)), (b4, .inl (cI, 16, .inl fo)), (b5, .inl (cI, 16, .inl (upd g i (lvOf ((rdU yt yl i s1 m1 s2 m2 q).1))))), (b6, .inl (cI, 16, .inl wk)), (z1, .inr (4, [.ref t1, .ref t2])), (t1, .inr (7, [.int ((rdU yt yl i s1 m1 s2 m2 q).2.2.1), .int ((rdU yt yl i s1 m1 s2 m2 q).2.2.2.1)])), (t2, .inr (7, [.int ((rdU yt yl i s1 m1 s2 m2 q).2.2.2.2.1), .int ((rdU yt yl i s1 m1 s2 m2 q).2.2.2.2.2)])), (y1, .inr (2, [.ref y2, .int (nI yl), .int (nI (rdU yt yl i s1 m1 s2 m2 q).2.1)])), (y2, .inl (cI, 400, .inl yt))] H := hP
                  have hD : va_D A [(j1, .inr (6, [.ref b1, .ref z1, .int bo])), (b1, .inr (1, [.ref b2, .ref b3, .ref b4, .ref b5, .ref b6, .int vr, .int vc, .int vcr])), (b2, .inl (cI, 4, .inl ab)), (b3, .inl (cI, 4, .inl lf)), (b4, .inl (cI, 16, .inl fo)), (b5, .inl (cI, 16, .inl (upd g i (lvOf ((rdU yt yl i s1 m1 s2 m2 q).1))))), (b6, .inl (cI, 16, .inl wk)), (z1, .inr (4, [.ref t1, .ref t2])), (t1, .inr (7, [.int ((rdU yt yl i s1 m1 s2 m2 q).2.2.1), .int ((rdU yt yl i s1 m1 s2 m2 q).2.2.2.1)])), (t2, .inr (7, [.int ((rdU yt yl i s1 m1 s2 m2 q).2.2.2.2.1), .int ((rdU yt yl i s1 m1 s2 m2 q).2.2.2.2.2)])), (y1, .inr (2, [.ref y2, .int (nI yl), .int (nI (rdU yt yl i s1 m1 s2 m2 q).2.1)])), (y2, .inl (cI, 400, .inl yt))] := hD
                  refine lv_iinc (v := nI (i + 1)) (lv' := [(3, .int (nI (i + 1))), (4, .int ((rdU yt yl i s1 m1 s2 m2 q).1)), (0, .ref j1), (1, .ref y1), (2, .int ((rdB yt yl 5 yp 0).1))]) hx hb d_RowReader_readLevels_81 hl (k := 4) rfl (nI_1 _) (by decide) rfl (fun ls hl => ?_)
                  refine lv_goto (tgt := 23) hx hb d_RowReader_readLevels_84 (by decide) ?_
                  exact ih23 (i + 1) ((rdU yt yl i s1 m1 s2 m2 q).2.1) ((rdU yt yl i s1 m1 s2 m2 q).2.2.1) ((rdU yt yl i s1 m1 s2 m2 q).2.2.2.1) ((rdU yt yl i s1 m1 s2 m2 q).2.2.2.2.1) ((rdU yt yl i s1 m1 s2 m2 q).2.2.2.2.2) (upd g i (lvOf ((rdU yt yl i s1 m1 s2 m2 q).1))) (by omega) (by omega) (by have h7 := rdU_le yt yl i s1 m1 s2 m2 q; omega) (by rw [← he, show 16 - i = (16 - (i + 1)) + 1 by omega, rlF, if_neg c_31, if_neg c_52, if_pos c_62]) _ _ _ (hP.sub (ws' := [(j1, .inr (6, [.ref b1, .ref z1, .int bo])), (b1, .inr (1, [.ref b2, .ref b3, .ref b4, .ref b5, .ref b6, .int vr, .int vc, .int vcr])), (b2, .inl (cI, 4, .inl ab)), (b3, .inl (cI, 4, .inl lf)), (b4, .inl (cI, 16, .inl fo)), (b5, .inl (cI, 16, .inl (upd g i (lvOf ((rdU yt yl i s1 m1 s2 m2 q).1))))), (b6, .inl (cI, 16, .inl wk)), (z1, .inr (4, [.ref t1, .ref t2])), (t1, .inr (7, [.int ((rdU yt yl i s1 m1 s2 m2 q).2.2.1), .int ((rdU yt yl i s1 m1 s2 m2 q).2.2.2.1)])), (t2, .inr (7, [.int ((rdU yt yl i s1 m1 s2 m2 q).2.2.2.2.1), .int ((rdU yt yl i s1 m1 s2 m2 q).2.2.2.2.2)])), (y1, .inr (2, [.ref y2, .int (nI yl), .int (nI ((rdU yt yl i s1 m1 s2 m2 q).2.1))])), (y2, .inl (cI, 400, .inl yt))]) [0, 1, 2, 3, 4, 5, 6, 7, 8, 9, 10, 11] rfl) (hD.sub (ws' := [(j1, .inr (6, [.ref b1, .ref z1, .int bo])), (b1, .inr (1, [.ref b2, .ref b3, .ref b4, .ref b5, .ref b6, .int vr, .int vc, .int vcr])), (b2, .inl (cI, 4, .inl ab)), (b3, .inl (cI, 4, .inl lf)), (b4, .inl (cI, 16, .inl fo)), (b5, .inl (cI, 16, .inl (upd g i (lvOf ((rdU yt yl i s1 m1 s2 m2 q).1))))), (b6, .inl (cI, 16, .inl wk)), (z1, .inr (4, [.ref t1, .ref t2])), (t1, .inr (7, [.int ((rdU yt yl i s1 m1 s2 m2 q).2.2.1), .int ((rdU yt yl i s1 m1 s2 m2 q).2.2.2.1)])), (t2, .inr (7, [.int ((rdU yt yl i s1 m1 s2 m2 q).2.2.2.2.1), .int ((rdU yt yl i s1 m1 s2 m2 q).2.2.2.2.2)])), (y1, .inr (2, [.ref y2, .int (nI yl), .int (nI ((rdU yt yl i s1 m1 s2 m2 q).2.1))])), (y2, .inl (cI, 400, .inl yt))]) [0, 1, 2, 3, 4, 5, 6, 7, 8, 9, 10, 11] (by decide) rfl) hS (lv_sub hl [2, 3, 4, 0] rfl)
                · refine lv_iconst (v := 2) hx hb d_RowReader_readLevels_65 (by decide) ?_
                  have hSS : (rlS yt yl (yp, vs, vn, vs2, vn2, lv)) = (2, (rdU yt yl i s1 m1 s2 m2 q).2.1, (rdU yt yl i s1 m1 s2 m2 q).2.2.1, (rdU yt yl i s1 m1 s2 m2 q).2.2.2.1, (rdU yt yl i s1 m1 s2 m2 q).2.2.2.2.1, (rdU yt yl i s1 m1 s2 m2 q).2.2.2.2.2, g) := by rw [← he, show 16 - i = (16 - (i + 1)) + 1 by omega, rlF, if_neg c_31, if_neg c_52, if_neg c_62]
                  exact W.iret (v := 2) hx hb hr (fun t ht hW => ⟨⟨2, [(j1, .inr (6, [.ref b1, .ref z1, .int bo])), (b1, .inr (1, [.ref b2, .ref b3, .ref b4, .ref b5, .ref b6, .int vr, .int vc, .int vcr])), (b2, .inl (cI, 4, .inl ab)), (b3, .inl (cI, 4, .inl lf)), (b4, .inl (cI, 16, .inl fo)), (b5, .inl (cI, 16, .inl g)), (b6, .inl (cI, 16, .inl wk)), (z1, .inr (4, [.ref t1, .ref t2])), (t1, .inr (7, [.int ((rdU yt yl i s1 m1 s2 m2 q).2.2.1), .int ((rdU yt yl i s1 m1 s2 m2 q).2.2.2.1)])), (t2, .inr (7, [.int ((rdU yt yl i s1 m1 s2 m2 q).2.2.2.2.1), .int ((rdU yt yl i s1 m1 s2 m2 q).2.2.2.2.2)])), (y1, .inr (2, [.ref y2, .int (nI yl), .int (nI (rdU yt yl i s1 m1 s2 m2 q).2.1)])), (y2, .inl (cI, 400, .inl yt))], rfl, ⟨(by rw [hSS]), (by rw [hSS])⟩, by rw [ht]; exact hP, va_K.moved hW.alike hK, hD⟩, hS.F ht⟩) hS.2.2 d_RowReader_readLevels_66
              · refine lv_iconst (v := 1) hx hb d_RowReader_readLevels_55 (by decide) ?_
                have hSS : (rlS yt yl (yp, vs, vn, vs2, vn2, lv)) = (1, (rdU yt yl i s1 m1 s2 m2 q).2.1, (rdU yt yl i s1 m1 s2 m2 q).2.2.1, (rdU yt yl i s1 m1 s2 m2 q).2.2.2.1, (rdU yt yl i s1 m1 s2 m2 q).2.2.2.2.1, (rdU yt yl i s1 m1 s2 m2 q).2.2.2.2.2, g) := by rw [← he, show 16 - i = (16 - (i + 1)) + 1 by omega, rlF, if_neg c_31, if_pos c_52]
                exact W.iret (v := 1) hx hb hr (fun t ht hW => ⟨⟨1, [(j1, .inr (6, [.ref b1, .ref z1, .int bo])), (b1, .inr (1, [.ref b2, .ref b3, .ref b4, .ref b5, .ref b6, .int vr, .int vc, .int vcr])), (b2, .inl (cI, 4, .inl ab)), (b3, .inl (cI, 4, .inl lf)), (b4, .inl (cI, 16, .inl fo)), (b5, .inl (cI, 16, .inl g)), (b6, .inl (cI, 16, .inl wk)), (z1, .inr (4, [.ref t1, .ref t2])), (t1, .inr (7, [.int ((rdU yt yl i s1 m1 s2 m2 q).2.2.1), .int ((rdU yt yl i s1 m1 s2 m2 q).2.2.2.1)])), (t2, .inr (7, [.int ((rdU yt yl i s1 m1 s2 m2 q).2.2.2.2.1), .int ((rdU yt yl i s1 m1 s2 m2 q).2.2.2.2.2)])), (y1, .inr (2, [.ref y2, .int (nI yl), .int (nI (rdU yt yl i s1 m1 s2 m2 q).2.1)])), (y2, .inl (cI, 400, .inl yt))], rfl, ⟨(by rw [hSS]), (by rw [hSS])⟩, by rw [ht]; exact hP, va_K.moved hW.alike hK, hD⟩, hS.F ht⟩) hS.2.2 d_RowReader_readLevels_56
      exact lp23 (17) 0 ((rdB yt yl 5 yp 0).2) vs vn vs2 vn2 lv (by omega) (by omega) (by have h7 := rdB_le yt yl 5 yp 0; omega) (by rw [rlS, if_neg c_8, if_pos c_16]) _ _ _ (hP.sub (ws' := [(j1, .inr (6, [.ref b1, .ref z1, .int bo])), (b1, .inr (1, [.ref b2, .ref b3, .ref b4, .ref b5, .ref b6, .int vr, .int vc, .int vcr])), (b2, .inl (cI, 4, .inl ab)), (b3, .inl (cI, 4, .inl lf)), (b4, .inl (cI, 16, .inl fo)), (b5, .inl (cI, 16, .inl lv)), (b6, .inl (cI, 16, .inl wk)), (z1, .inr (4, [.ref t1, .ref t2])), (t1, .inr (7, [.int vs, .int vn])), (t2, .inr (7, [.int vs2, .int vn2])), (y1, .inr (2, [.ref y2, .int (nI yl), .int (nI ((rdB yt yl 5 yp 0).2))])), (y2, .inl (cI, 400, .inl yt))]) [0, 1, 2, 3, 4, 5, 6, 7, 8, 9, 10, 11] rfl) (hD.sub (ws' := [(j1, .inr (6, [.ref b1, .ref z1, .int bo])), (b1, .inr (1, [.ref b2, .ref b3, .ref b4, .ref b5, .ref b6, .int vr, .int vc, .int vcr])), (b2, .inl (cI, 4, .inl ab)), (b3, .inl (cI, 4, .inl lf)), (b4, .inl (cI, 16, .inl fo)), (b5, .inl (cI, 16, .inl lv)), (b6, .inl (cI, 16, .inl wk)), (z1, .inr (4, [.ref t1, .ref t2])), (t1, .inr (7, [.int vs, .int vn])), (t2, .inr (7, [.int vs2, .int vn2])), (y1, .inr (2, [.ref y2, .int (nI yl), .int (nI ((rdB yt yl 5 yp 0).2))])), (y2, .inl (cI, 400, .inl yt))]) [0, 1, 2, 3, 4, 5, 6, 7, 8, 9, 10, 11] (by decide) rfl) hS (lv_sub hl [2, 3, 1, 0] rfl)
    · refine lv_iconst (v := 2) hx hb d_RowReader_readLevels_19 (by decide) ?_
      exact W.iret (v := 2) hx hb hr (fun t ht hW => ⟨⟨2, [(j1, .inr (6, [.ref b1, .ref z1, .int bo])), (b1, .inr (1, [.ref b2, .ref b3, .ref b4, .ref b5, .ref b6, .int vr, .int vc, .int vcr])), (b2, .inl (cI, 4, .inl ab)), (b3, .inl (cI, 4, .inl lf)), (b4, .inl (cI, 16, .inl fo)), (b5, .inl (cI, 16, .inl lv)), (b6, .inl (cI, 16, .inl wk)), (z1, .inr (4, [.ref t1, .ref t2])), (t1, .inr (7, [.int vs, .int vn])), (t2, .inr (7, [.int vs2, .int vn2])), (y1, .inr (2, [.ref y2, .int (nI yl), .int (nI (rdB yt yl 5 yp 0).2)])), (y2, .inl (cI, 400, .inl yt))], rfl, ⟨(by rw [rlS, if_neg c_8, if_neg c_16]), (by rw [rlS, if_neg c_8, if_neg c_16])⟩, by rw [ht]; exact hP, va_K.moved hW.alike hK, hD⟩, hS.F ht⟩) hS.2.2 d_RowReader_readLevels_20
  · refine lv_iconst (v := 1) hx hb d_RowReader_readLevels_11 (by decide) ?_
    exact W.iret (v := 1) hx hb hr (fun t ht hW => ⟨⟨1, [(j1, .inr (6, [.ref b1, .ref z1, .int bo])), (b1, .inr (1, [.ref b2, .ref b3, .ref b4, .ref b5, .ref b6, .int vr, .int vc, .int vcr])), (b2, .inl (cI, 4, .inl ab)), (b3, .inl (cI, 4, .inl lf)), (b4, .inl (cI, 16, .inl fo)), (b5, .inl (cI, 16, .inl lv)), (b6, .inl (cI, 16, .inl wk)), (z1, .inr (4, [.ref t1, .ref t2])), (t1, .inr (7, [.int vs, .int vn])), (t2, .inr (7, [.int vs2, .int vn2])), (y1, .inr (2, [.ref y2, .int (nI yl), .int (nI (rdB yt yl 5 yp 0).2)])), (y2, .inl (cI, 400, .inl yt))], rfl, ⟨(by rw [rlS, if_pos c_8]), (by rw [rlS, if_pos c_8])⟩, by rw [ht]; exact hP, va_K.moved hW.alike hK, hD⟩, hS.F ht⟩) hS.2.2 d_RowReader_readLevels_12
