def y_LevelCode_init : MethodName := ⟨"TileForge$LevelCode", "<init>", "()V"⟩
def ws_LevelCode_init : List Cond := .code y_LevelCode_init prog_6_method_1_code 1 none :: GW
theorem mw_152 : (.code ⟨"TileForge$LevelCode", "<init>", "()V"⟩ prog_6_method_1_code 1 none : Cond) ∈ GW := List.mem_filter.mpr ⟨(List.mem_append_right _ (List.mem_append_left _ (List.mem_of_getElem? (i := 147) rfl))), rfl⟩
theorem hd_LevelCode_init : y_LevelCode_init.cls ≠ "java/lang/invoke/MethodHandle" ∧ y_LevelCode_init.cls ≠ "java/lang/invoke/VarHandle" ∧ (parseMethodDescriptor y_LevelCode_init.desc).map (fun d => d.parameters.length) = some 0 := by decide +kernel
theorem d_LevelCode_init_0 : decode prog_6_method_1_code 0 = .ok (.aload_n 0, 1) := by decide +kernel
theorem d_LevelCode_init_1 : decode prog_6_method_1_code 1 = .ok (.invokespecial 3, 3) := by decide +kernel
theorem d_LevelCode_init_4 : decode prog_6_method_1_code 4 = .ok (.aload_n 0, 1) := by decide +kernel
theorem d_LevelCode_init_5 : decode prog_6_method_1_code 5 = .ok (.new 9, 3) := by decide +kernel
theorem d_LevelCode_init_8 : decode prog_6_method_1_code 8 = .ok (.dup, 1) := by decide +kernel
theorem d_LevelCode_init_9 : decode prog_6_method_1_code 9 = .ok (.invokespecial 11, 3) := by decide +kernel
theorem d_LevelCode_init_12 : decode prog_6_method_1_code 12 = .ok (.putfield 12, 3) := by decide +kernel
theorem d_LevelCode_init_15 : decode prog_6_method_1_code 15 = .ok (.aload_n 0, 1) := by decide +kernel
theorem d_LevelCode_init_16 : decode prog_6_method_1_code 16 = .ok (.new 9, 3) := by decide +kernel
theorem d_LevelCode_init_19 : decode prog_6_method_1_code 19 = .ok (.dup, 1) := by decide +kernel
theorem d_LevelCode_init_20 : decode prog_6_method_1_code 20 = .ok (.invokespecial 11, 3) := by decide +kernel
theorem d_LevelCode_init_23 : decode prog_6_method_1_code 23 = .ok (.putfield 18, 3) := by decide +kernel
theorem d_LevelCode_init_26 : decode prog_6_method_1_code 26 = .ok (.return_, 1) := by decide +kernel
theorem mw_153 : (.methodLink "TileForge$LevelCode" 3 objectInit : Cond) ∈ GW := List.mem_filter.mpr ⟨(List.mem_append_right _ (List.mem_append_left _ (List.mem_of_getElem? (i := 148) rfl))), rfl⟩
theorem mw_154 : (.classLink "TileForge$LevelCode" 9 "TileForge$Tally" : Cond) ∈ GW := List.mem_filter.mpr ⟨(List.mem_append_right _ (List.mem_append_left _ (List.mem_of_getElem? (i := 149) rfl))), rfl⟩
theorem mw_155 : (.instantiable "TileForge$Tally" 2 : Cond) ∈ GW := List.mem_filter.mpr ⟨(List.mem_append_right _ (List.mem_append_left _ (List.mem_of_getElem? (i := 150) rfl))), rfl⟩
theorem mw_156 : (.initialized "TileForge$Tally" : Cond) ∈ GW := List.mem_filter.mpr ⟨(List.mem_append_right _ (List.mem_append_left _ (List.mem_of_getElem? (i := 8) rfl))), rfl⟩
theorem mw_157 : (.instanceMethod ⟨"TileForge$Tally", "<init>", "()V"⟩ : Cond) ∈ GW := List.mem_filter.mpr ⟨(List.mem_append_right _ (List.mem_append_left _ (List.mem_of_getElem? (i := 152) rfl))), rfl⟩
theorem mw_158 : (.fieldLink "TileForge$LevelCode" 12 "TileForge$LevelCode" "first" "LTileForge$Tally;" : Cond) ∈ GW := List.mem_filter.mpr ⟨(List.mem_append_right _ (List.mem_append_left _ (List.mem_of_getElem? (i := 162) rfl))), rfl⟩
theorem mw_159 : (.fieldLink "TileForge$LevelCode" 18 "TileForge$LevelCode" "others" "LTileForge$Tally;" : Cond) ∈ GW := List.mem_filter.mpr ⟨(List.mem_append_right _ (List.mem_append_left _ (List.mem_of_getElem? (i := 163) rfl))), rfl⟩
def q_lc_init (cI : ClassId) (z1 : Nat) : va_W → Prop := fun ww => ∃ (t1 : Nat) (t2 : Nat), ww = [(z1, .inr (4, [.ref t1, .ref t2])), (t1, .inr (7, [.int 0, .int 0])), (t2, .inr (7, [.int 0, .int 0]))]
set_option maxHeartbeats 4000000 in
set_option maxRecDepth 100000 in
theorem c_lc_init (l : Launch) {D : va_G} {tys : List (ClassId × FieldType)} {cI : ClassId} (hcI : tys[0]? = some (cI, .int)) (z1 : Nat) : CsV l D vwCl tys y_LevelCode_init ws_LevelCode_init ({ frames := 2, cells := 2, slots := 4, locals := 32 } : Room) [.ref z1] [(z1, .inr (4, [.null, .null]))] (q_lc_init cI z1) 2 4 := by
  intro sz
  refine Met.ofW (cc := prog_6_method_1_code) (maxL := 1) (ret := none) (by decide) rfl ?_
  intro p e s m args below meth c s₁ B hml hv
  obtain ⟨rfl, hsz, hP, hK, hD0, hN⟩ := hv
  have hx := B.exec
  have hb := B.bytes
  have hr := B.returns
  have hts := atoms_spec (ws := ws_LevelCode_init) B.pre
  have hown : s.vm.findClass "TileForge$LevelCode" = some m.cls := findClass_of_methodNamed B.named
  have hlocks := B.notSynchronized
  have hin : meth.name = "<init>" := (name_of_methodNamed B.named B.method).1
  subst hsz
  have hD := hD0.self (sz := s.heap.size)
  generalize hAe : va_A [(z1, .inr (4, [.null, .null]))] s.heap.size = A at hD ⊢
  have hA : ∀ q : Nat, s.heap.size ≤ q → A q := fun q h => by rw [← hAe]; exact Or.inr h
  have hS : va_S A s.heap s.heap [] := va_S.rf
  have hP : va_P D vwCl [(z1, .inr (4, [.null, .null]))] s.heap := hP
  have hl := lv_entry ([.ref z1]) (n := 1) (Nat.le_of_ble_eq_true rfl)
  rw [lg_entry_eq]
  generalize (lg_sl ([.ref z1]) ++ List.replicate (1 - (lg_sl ([.ref z1])).length) Slot.unset).toArray = ls at hl ⊢
  have hl : lv_has ls 1 [(0, .ref z1)] := hl
  refine lv_aload_n hx hb d_LevelCode_init_0 rfl (lv_at hl 0 rfl) ?_
  refine W.objInit hx hb hown (hts _ (cs_m mw_153)) (hts _ (cs_m mw_81)) (hts _ (cs_m mw_82)) rfl (by rw [hml]; exact hl.1) rfl d_LevelCode_init_1 (Nat.le_of_ble_eq_true rfl) (Nat.le_of_ble_eq_true rfl) ?_
  refine W.eq (g2 := F0 m 4 ls []) rfl ?_
  refine lv_aload_n hx hb d_LevelCode_init_4 rfl (lv_at hl 0 rfl) ?_
  refine va_new (ci := 7) (fs := [.int 0, .int 0]) (C := "TileForge$Tally") (T := T_Tally) (N := 2) hx hb hts (cs_in in_Tally) ty_Tally tok_Tally hown (hts _ (cs_m mw_154)) (hts _ (cs_m mw_155)) (hts _ (cs_m mw_156)) hK hP hD hS hA rfl (fun j hj => by rcases (show j = 0 ∨ j = 1 by omega) with rfl | rfl <;> rfl) (Nat.le_of_ble_eq_true rfl) (Nat.le_of_ble_eq_true rfl) d_LevelCode_init_5 (fun q1 H hP hD hS => ?_)
  have hP : va_P D vwCl [(z1, .inr (4, [.null, .null])), (q1, .inr (7, [.int 0, .int 0]))] H := hP
  have hD : va_D A [(z1, .inr (4, [.null, .null])), (q1, .inr (7, [.int 0, .int 0]))] := hD
  refine lv_dup hx hb d_LevelCode_init_8 rfl ?_
  refine cs_INv (As := []) (rest := [.ref q1, .ref z1]) (wr := [(z1, .inr (4, [.null, .null]))]) ⟨hx, hb, hml, hown, hts⟩ (c_ta_init l hcI q1) (⟨va_cnB 0 hts (cs_g mw_105) rfl rfl rfl (hN _ (List.mem_of_getElem? (i := 7) rfl)) (hts _ (cs_m mw_156)) hd_Tally_init ⟨Nat.le_of_ble_eq_true rfl, Nat.le_of_ble_eq_true rfl⟩, rfl, hts _ (cs_m mw_157)⟩) hN hK hP hD hS hA [1] [0] rfl rfl rfl rfl (by decide) rfl rfl hl.1 (Nat.le_of_ble_eq_true rfl) d_LevelCode_init_9 ⟨Nat.le_of_ble_eq_true rfl, Nat.le_of_ble_eq_true rfl⟩ (fun w1 H locs hw hP hD hS => ?_)
  obtain rfl := hw
  have hP : va_P D vwCl [(z1, .inr (4, [.null, .null])), (q1, .inr (7, [.int 0, .int 0]))] H := hP
  have hD : va_D A [(z1, .inr (4, [.null, .null])), (q1, .inr (7, [.int 0, .int 0]))] := hD
  refine va_putF (D := D) (ci := 4) (v := .ref q1) (ty := .object "TileForge$Tally") (C := "TileForge$LevelCode") (T := T_LevelCode) (N := 2) hx hb hts (cs_in in_LevelCode) ty_LevelCode tok_LevelCode nm_LevelCode hown hK hP hD hS 0 rfl rfl 0 (by decide) (hts _ (cs_m mw_158)) (fun _ h9 => h9) rfl hin rfl (by decide +kernel) rfl rfl (Nat.le_of_ble_eq_true rfl) d_LevelCode_init_12 (fun H locs hP hD hS => ?_)
  have hP : va_P D vwCl [(z1, .inr (4, [.ref q1, .null])), (q1, .inr (7, [.int 0, .int 0]))] H := hP
  have hD : va_D A [(z1, .inr (4, [.ref q1, .null])), (q1, .inr (7, [.int 0, .int 0]))] := hD
  refine lv_aload_n hx hb d_LevelCode_init_15 rfl (lv_at hl 0 rfl) ?_
  refine va_new (ci := 7) (fs := [.int 0, .int 0]) (C := "TileForge$Tally") (T := T_Tally) (N := 2) hx hb hts (cs_in in_Tally) ty_Tally tok_Tally hown (hts _ (cs_m mw_154)) (hts _ (cs_m mw_155)) (hts _ (cs_m mw_156)) hK hP hD hS hA rfl (fun j hj => by rcases (show j = 0 ∨ j = 1 by omega) with rfl | rfl <;> rfl) (Nat.le_of_ble_eq_true rfl) (Nat.le_of_ble_eq_true rfl) d_LevelCode_init_16 (fun q3 H hP hD hS => ?_)
  have hP : va_P D vwCl [(z1, .inr (4, [.ref q1, .null])), (q1, .inr (7, [.int 0, .int 0])), (q3, .inr (7, [.int 0, .int 0]))] H := hP
  have hD : va_D A [(z1, .inr (4, [.ref q1, .null])), (q1, .inr (7, [.int 0, .int 0])), (q3, .inr (7, [.int 0, .int 0]))] := hD
  refine lv_dup hx hb d_LevelCode_init_19 rfl ?_
  refine cs_INv (As := []) (rest := [.ref q3, .ref z1]) (wr := [(z1, .inr (4, [.ref q1, .null])), (q1, .inr (7, [.int 0, .int 0]))]) ⟨hx, hb, hml, hown, hts⟩ (c_ta_init l hcI q3) (⟨va_cnB 0 hts (cs_g mw_105) rfl rfl rfl (hN _ (List.mem_of_getElem? (i := 7) rfl)) (hts _ (cs_m mw_156)) hd_Tally_init ⟨Nat.le_of_ble_eq_true rfl, Nat.le_of_ble_eq_true rfl⟩, rfl, hts _ (cs_m mw_157)⟩) hN hK hP hD hS hA [2] [0, 1] rfl rfl rfl rfl (by decide) rfl rfl hl.1 (Nat.le_of_ble_eq_true rfl) d_LevelCode_init_20 ⟨Nat.le_of_ble_eq_true rfl, Nat.le_of_ble_eq_true rfl⟩ (fun w1 H locs hw hP hD hS => ?_)
  obtain rfl := hw
  have hP : va_P D vwCl [(z1, .inr (4, [.ref q1, .null])), (q1, .inr (7, [.int 0, .int 0])), (q3, .inr (7, [.int 0, .int 0]))] H := hP
  have hD : va_D A [(z1, .inr (4, [.ref q1, .null])), (q1, .inr (7, [.int 0, .int 0])), (q3, .inr (7, [.int 0, .int 0]))] := hD
  refine va_putF (D := D) (ci := 4) (v := .ref q3) (ty := .object "TileForge$Tally") (C := "TileForge$LevelCode") (T := T_LevelCode) (N := 2) hx hb hts (cs_in in_LevelCode) ty_LevelCode tok_LevelCode nm_LevelCode hown hK hP hD hS 0 rfl rfl 1 (by decide) (hts _ (cs_m mw_159)) (fun _ h9 => h9) rfl hin rfl (by decide +kernel) rfl rfl (Nat.le_of_ble_eq_true rfl) d_LevelCode_init_23 (fun H locs hP hD hS => ?_)
  have hP : va_P D vwCl [(z1, .inr (4, [.ref q1, .ref q3])), (q1, .inr (7, [.int 0, .int 0])), (q3, .inr (7, [.int 0, .int 0]))] H := hP
  have hD : va_D A [(z1, .inr (4, [.ref q1, .ref q3])), (q1, .inr (7, [.int 0, .int 0])), (q3, .inr (7, [.int 0, .int 0]))] := hD
  refine W.widen (k := 2) (n := 4) (Nat.le_of_ble_eq_true rfl) (Nat.le_of_ble_eq_true rfl) ?_
  exact W.vret hx hb hr (fun t ht hW => ⟨⟨[(z1, .inr (4, [.ref q1, .ref q3])), (q1, .inr (7, [.int 0, .int 0])), (q3, .inr (7, [.int 0, .int 0]))], rfl, ⟨q1, q3, (rfl)⟩, by rw [ht]; exact hP, va_K.moved hW.alike hK, hD⟩, hS.F ht⟩) hS.2.2 d_LevelCode_init_26
def y_LevelCode_begin : MethodName := ⟨"TileForge$LevelCode", "begin", "()V"⟩
def ws_LevelCode_begin : List Cond := .code y_LevelCode_begin prog_6_method_2_code 1 none :: GW
theorem mw_160 : (.code ⟨"TileForge$LevelCode", "begin", "()V"⟩ prog_6_method_2_code 1 none : Cond) ∈ GW := List.mem_filter.mpr ⟨(List.mem_append_right _ (List.mem_append_right _ (List.mem_append_left _ (List.mem_of_getElem? (i := 155) rfl)))), rfl⟩
theorem hd_LevelCode_begin : y_LevelCode_begin.cls ≠ "java/lang/invoke/MethodHandle" ∧ y_LevelCode_begin.cls ≠ "java/lang/invoke/VarHandle" ∧ (parseMethodDescriptor y_LevelCode_begin.desc).map (fun d => d.parameters.length) = some 0 := by decide +kernel
theorem d_LevelCode_begin_0 : decode prog_6_method_2_code 0 = .ok (.aload_n 0, 1) := by decide +kernel
theorem d_LevelCode_begin_1 : decode prog_6_method_2_code 1 = .ok (.getfield 12, 3) := by decide +kernel
theorem d_LevelCode_begin_4 : decode prog_6_method_2_code 4 = .ok (.invokevirtual 21, 3) := by decide +kernel
theorem d_LevelCode_begin_7 : decode prog_6_method_2_code 7 = .ok (.aload_n 0, 1) := by decide +kernel
theorem d_LevelCode_begin_8 : decode prog_6_method_2_code 8 = .ok (.getfield 18, 3) := by decide +kernel
theorem d_LevelCode_begin_11 : decode prog_6_method_2_code 11 = .ok (.invokevirtual 21, 3) := by decide +kernel
theorem d_LevelCode_begin_14 : decode prog_6_method_2_code 14 = .ok (.return_, 1) := by decide +kernel
theorem mw_161 : (.methodLink "TileForge$LevelCode" 21 ⟨"TileForge$Tally", "begin", "()V"⟩ : Cond) ∈ GW := List.mem_filter.mpr ⟨(List.mem_append_right _ (List.mem_append_right _ (List.mem_append_left _ (List.mem_of_getElem? (i := 156) rfl)))), rfl⟩
theorem mw_162 : (.instanceMethod ⟨"TileForge$Tally", "begin", "()V"⟩ : Cond) ∈ GW := List.mem_filter.mpr ⟨(List.mem_append_right _ (List.mem_append_right _ (List.mem_append_left _ (List.mem_of_getElem? (i := 157) rfl)))), rfl⟩
theorem mw_163 : (.selects "TileForge$Tally" ⟨"TileForge$Tally", "begin", "()V"⟩ ⟨"TileForge$Tally", "begin", "()V"⟩ : Cond) ∈ GW := List.mem_filter.mpr ⟨(List.mem_append_right _ (List.mem_append_right _ (List.mem_append_left _ (List.mem_of_getElem? (i := 158) rfl)))), rfl⟩
def q_lc_begin (cI : ClassId) (z1 : Nat) (t1 : Nat) (vs : Int32) (vn : Int32) (t2 : Nat) (vs2 : Int32) (vn2 : Int32) : va_W → Prop := fun ww => ww = [(z1, .inr (4, [.ref t1, .ref t2])), (t1, .inr (7, [.int 8, .int 1])), (t2, .inr (7, [.int 8, .int 1]))]
set_option maxHeartbeats 4000000 in
set_option maxRecDepth 100000 in
theorem c_lc_begin (l : Launch) {D : va_G} {tys : List (ClassId × FieldType)} {cI : ClassId} (hcI : tys[0]? = some (cI, .int)) (z1 : Nat) (t1 : Nat) (vs : Int32) (vn : Int32) (t2 : Nat) (vs2 : Int32) (vn2 : Int32) : CsV l D vwCl tys y_LevelCode_begin ws_LevelCode_begin ({ frames := 1, cells := 0, slots := 0, locals := 20 } : Room) [.ref z1] [(z1, .inr (4, [.ref t1, .ref t2])), (t1, .inr (7, [.int vs, .int vn])), (t2, .inr (7, [.int vs2, .int vn2]))] (q_lc_begin cI z1 t1 vs vn t2 vs2 vn2) 0 0 := by
  intro sz
  refine Met.ofW (cc := prog_6_method_2_code) (maxL := 1) (ret := none) (by decide) rfl ?_
  intro p e s m args below meth c s₁ B hml hv
  obtain ⟨rfl, hsz, hP, hK, hD0, hN⟩ := hv
  have hx := B.exec
  have hb := B.bytes
  have hr := B.returns
  have hts := atoms_spec (ws := ws_LevelCode_begin) B.pre
  have hown : s.vm.findClass "TileForge$LevelCode" = some m.cls := findClass_of_methodNamed B.named
  have hlocks := B.notSynchronized
  subst hsz
  have hD := hD0.self (sz := s.heap.size)
  generalize hAe : va_A [(z1, .inr (4, [.ref t1, .ref t2])), (t1, .inr (7, [.int vs, .int vn])), (t2, .inr (7, [.int vs2, .int vn2]))] s.heap.size = A at hD ⊢
  have hA : ∀ q : Nat, s.heap.size ≤ q → A q := fun q h => by rw [← hAe]; exact Or.inr h
  have hS : va_S A s.heap s.heap [] := va_S.rf
  have hP : va_P D vwCl [(z1, .inr (4, [.ref t1, .ref t2])), (t1, .inr (7, [.int vs, .int vn])), (t2, .inr (7, [.int vs2, .int vn2]))] s.heap := hP
  have hl := lv_entry ([.ref z1]) (n := 1) (Nat.le_of_ble_eq_true rfl)
  rw [lg_entry_eq]
  generalize (lg_sl ([.ref z1]) ++ List.replicate (1 - (lg_sl ([.ref z1])).length) Slot.unset).toArray = ls at hl ⊢
  have hl : lv_has ls 1 [(0, .ref z1)] := hl
  refine lv_aload_n hx hb d_LevelCode_begin_0 rfl (lv_at hl 0 rfl) ?_
  refine va_get (D := D) (ci := 4) (v := .ref t1) (C := "TileForge$LevelCode") (T := T_LevelCode) (N := 2) hx hb hts (cs_in in_LevelCode) hown hK hP 0 rfl rfl 0 (by decide) (hts _ (cs_m mw_158)) (fun _ h9 => h9) rfl d_LevelCode_begin_1 ?_
  refine cs_Vv (As := []) (rest := []) (wr := [(z1, .inr (4, [.ref t1, .ref t2])), (t2, .inr (7, [.int vs2, .int vn2]))]) ⟨hx, hb, hml, hown, hts⟩ (c_ta_begin l hcI t1 vs vn) (cwV 0 hts (cs_gV mw_161 mw_162 mw_163 mw_156 mw_107) rfl rfl rfl ⟨rfl, hd_Tally_begin⟩ ⟨Nat.le_of_ble_eq_true rfl, Nat.le_of_ble_eq_true rfl⟩) hN hK hP hD hS hA [1] [0, 2] rfl rfl rfl rfl (by decide) (ci := 7) rfl rfl rfl rfl rfl hl.1 (Nat.le_of_ble_eq_true rfl) d_LevelCode_begin_4 ⟨Nat.le_of_ble_eq_true rfl, Nat.le_of_ble_eq_true rfl⟩ (fun w1 H locs hw hP hD hS => ?_)
  obtain rfl := hw
  have hP : va_P D vwCl [(z1, .inr (4, [.ref t1, .ref t2])), (t2, .inr (7, [.int vs2, .int vn2])), (t1, .inr (7, [.int 8, .int 1]))] H := hP
  have hD : va_D A [(z1, .inr (4, [.ref t1, .ref t2])), (t2, .inr (7, [.int vs2, .int vn2])), (t1, .inr (7, [.int 8, .int 1]))] := hD
  refine lv_aload_n hx hb d_LevelCode_begin_7 rfl (lv_at hl 0 rfl) ?_
  refine va_get (D := D) (ci := 4) (v := .ref t2) (C := "TileForge$LevelCode") (T := T_LevelCode) (N := 2) hx hb hts (cs_in in_LevelCode) hown hK hP 0 rfl rfl 1 (by decide) (hts _ (cs_m mw_159)) (fun _ h9 => h9) rfl d_LevelCode_begin_8 ?_
  refine cs_Vv (As := []) (rest := []) (wr := [(z1, .inr (4, [.ref t1, .ref t2])), (t1, .inr (7, [.int 8, .int 1]))]) ⟨hx, hb, hml, hown, hts⟩ (c_ta_begin l hcI t2 vs2 vn2) (cwV 0 hts (cs_gV mw_161 mw_162 mw_163 mw_156 mw_107) rfl rfl rfl ⟨rfl, hd_Tally_begin⟩ ⟨Nat.le_of_ble_eq_true rfl, Nat.le_of_ble_eq_true rfl⟩) hN hK hP hD hS hA [1] [0, 2] rfl rfl rfl rfl (by decide) (ci := 7) rfl rfl rfl rfl rfl hl.1 (Nat.le_of_ble_eq_true rfl) d_LevelCode_begin_11 ⟨Nat.le_of_ble_eq_true rfl, Nat.le_of_ble_eq_true rfl⟩ (fun w1 H locs hw hP hD hS => ?_)
  obtain rfl := hw
  have hP : va_P D vwCl [(z1, .inr (4, [.ref t1, .ref t2])), (t1, .inr (7, [.int 8, .int 1])), (t2, .inr (7, [.int 8, .int 1]))] H := hP
  have hD : va_D A [(z1, .inr (4, [.ref t1, .ref t2])), (t1, .inr (7, [.int 8, .int 1])), (t2, .inr (7, [.int 8, .int 1]))] := hD
  exact W.vret hx hb hr (fun t ht hW => ⟨⟨[(z1, .inr (4, [.ref t1, .ref t2])), (t1, .inr (7, [.int 8, .int 1])), (t2, .inr (7, [.int 8, .int 1]))], rfl, (show _ = _ from (rfl)), by rw [ht]; exact hP, va_K.moved hW.alike hK, hD⟩, hS.F ht⟩) hS.2.2 d_LevelCode_begin_14
def y_LevelCode_levelOf : MethodName := ⟨"TileForge$LevelCode", "levelOf", "(I)I"⟩
def ws_LevelCode_levelOf : List Cond := .code y_LevelCode_levelOf prog_6_method_5_code 1 (some .int) :: GW
theorem mw_164 : (.code ⟨"TileForge$LevelCode", "levelOf", "(I)I"⟩ prog_6_method_5_code 1 (some .int) : Cond) ∈ GW := List.mem_filter.mpr ⟨(List.mem_append_right _ (List.mem_append_right _ (List.mem_append_right _ (List.mem_append_left _ (List.mem_of_getElem? (i := 115) rfl))))), rfl⟩
theorem hd_LevelCode_levelOf : y_LevelCode_levelOf.cls ≠ "java/lang/invoke/MethodHandle" ∧ y_LevelCode_levelOf.cls ≠ "java/lang/invoke/VarHandle" ∧ (parseMethodDescriptor y_LevelCode_levelOf.desc).map (fun d => d.parameters.length) = some 1 := by decide +kernel
theorem d_LevelCode_levelOf_0 : decode prog_6_method_5_code 0 = .ok (.iload_n 0, 1) := by decide +kernel
theorem d_LevelCode_levelOf_1 : decode prog_6_method_5_code 1 = .ok (.iconst 2, 1) := by decide +kernel
theorem d_LevelCode_levelOf_2 : decode prog_6_method_5_code 2 = .ok (.irem, 1) := by decide +kernel
theorem d_LevelCode_levelOf_3 : decode prog_6_method_5_code 3 = .ok (.iconst 1, 1) := by decide +kernel
theorem d_LevelCode_levelOf_4 : decode prog_6_method_5_code 4 = .ok (.if_icmp .ne 11, 3) := by decide +kernel
theorem d_LevelCode_levelOf_7 : decode prog_6_method_5_code 7 = .ok (.iload_n 0, 1) := by decide +kernel
theorem d_LevelCode_levelOf_8 : decode prog_6_method_5_code 8 = .ok (.iconst 1, 1) := by decide +kernel
theorem d_LevelCode_levelOf_9 : decode prog_6_method_5_code 9 = .ok (.iadd, 1) := by decide +kernel
theorem d_LevelCode_levelOf_10 : decode prog_6_method_5_code 10 = .ok (.iconst 2, 1) := by decide +kernel
theorem d_LevelCode_levelOf_11 : decode prog_6_method_5_code 11 = .ok (.idiv, 1) := by decide +kernel
theorem d_LevelCode_levelOf_12 : decode prog_6_method_5_code 12 = .ok (.goto 7, 3) := by decide +kernel
theorem d_LevelCode_levelOf_15 : decode prog_6_method_5_code 15 = .ok (.iload_n 0, 1) := by decide +kernel
theorem d_LevelCode_levelOf_16 : decode prog_6_method_5_code 16 = .ok (.iconst 2, 1) := by decide +kernel
theorem d_LevelCode_levelOf_17 : decode prog_6_method_5_code 17 = .ok (.idiv, 1) := by decide +kernel
theorem d_LevelCode_levelOf_18 : decode prog_6_method_5_code 18 = .ok (.ineg, 1) := by decide +kernel
theorem d_LevelCode_levelOf_19 : decode prog_6_method_5_code 19 = .ok (.ireturn, 1) := by decide +kernel
def q_lc_levelOf (cI : ClassId) (u : Int32) : Int32 → va_W → Prop := fun rr ww => rr = (lvOf u) ∧ ww = []
set_option maxHeartbeats 4000000 in
set_option maxRecDepth 100000 in
theorem c_lc_levelOf (l : Launch) {D : va_G} {tys : List (ClassId × FieldType)} {cI : ClassId} (hcI : tys[0]? = some (cI, .int)) (u : Int32) : CsI l D vwCl tys y_LevelCode_levelOf ws_LevelCode_levelOf ({ frames := 0, cells := 0, slots := 0, locals := 0 } : Room) [.int u] [] (q_lc_levelOf cI u) 0 0 := by
  intro sz
  refine Met.ofW (cc := prog_6_method_5_code) (maxL := 1) (ret := (some .int)) (by decide) rfl ?_
  intro p e s m args below meth c s₁ B hml hv
  obtain ⟨rfl, hsz, hP, hK, hD0, hN⟩ := hv
  have hx := B.exec
  have hb := B.bytes
  have hr := B.returns
  have hts := atoms_spec (ws := ws_LevelCode_levelOf) B.pre
  have hown : s.vm.findClass "TileForge$LevelCode" = some m.cls := findClass_of_methodNamed B.named
  have hlocks := B.notSynchronized
  subst hsz
  have hD := hD0.self (sz := s.heap.size)
  generalize hAe : va_A [] s.heap.size = A at hD ⊢
  have hA : ∀ q : Nat, s.heap.size ≤ q → A q := fun q h => by rw [← hAe]; exact Or.inr h
  have hS : va_S A s.heap s.heap [] := va_S.rf
  have hP : va_P D vwCl [] s.heap := hP
  have hl := lv_entry ([.int u]) (n := 1) (Nat.le_of_ble_eq_true rfl)
  rw [lg_entry_eq]
  generalize (lg_sl ([.int u]) ++ List.replicate (1 - (lg_sl ([.int u])).length) Slot.unset).toArray = ls at hl ⊢
  have hl : lv_has ls 1 [(0, .int u)] := hl
  refine lv_iload_n hx hb d_LevelCode_levelOf_0 rfl (lv_at hl 0 rfl) ?_
  refine lv_iconst (v := 2) hx hb d_LevelCode_levelOf_1 (by decide) ?_
  refine lv_irem hx hb d_LevelCode_levelOf_2 (by decide) ?_
  refine lv_iconst (v := 1) hx hb d_LevelCode_levelOf_3 (by decide) ?_
  refine lv_icmp_ne (tgt := 15) hx hb d_LevelCode_levelOf_4 (by decide) (fun c_4 => ?_) (fun c_4 => ?_)
  · refine lv_iload_n hx hb d_LevelCode_levelOf_15 rfl (lv_at hl 0 rfl) ?_
    refine lv_iconst (v := 2) hx hb d_LevelCode_levelOf_16 (by decide) ?_
    refine lv_idiv hx hb d_LevelCode_levelOf_17 (by decide) ?_
    refine lv_ineg hx hb d_LevelCode_levelOf_18 ?_
    exact W.iret (v := (-(u / 2))) hx hb hr (fun t ht hW => ⟨⟨(-(u / 2)), [], rfl, ⟨(by simp [lvOf, c_4]), (rfl)⟩, by rw [ht]; exact hP, va_K.moved hW.alike hK, hD⟩, hS.F ht⟩) hS.2.2 d_LevelCode_levelOf_19
  · refine lv_iload_n hx hb d_LevelCode_levelOf_7 rfl (lv_at hl 0 rfl) ?_
    refine lv_iconst (v := 1) hx hb d_LevelCode_levelOf_8 (by decide) ?_
    refine lv_iadd hx hb d_LevelCode_levelOf_9 ?_
    refine lv_iconst (v := 2) hx hb d_LevelCode_levelOf_10 (by decide) ?_
    refine lv_idiv hx hb d_LevelCode_levelOf_11 (by decide) ?_
    refine lv_goto (tgt := 19) hx hb d_LevelCode_levelOf_12 (by decide) ?_
    exact W.iret (v := ((u + 1) / 2)) hx hb hr (fun t ht hW => ⟨⟨((u + 1) / 2), [], rfl, ⟨(by simp [lvOf, c_4]), (rfl)⟩, by rw [ht]; exact hP, va_K.moved hW.alike hK, hD⟩, hS.F ht⟩) hS.2.2 d_LevelCode_levelOf_19
def y_LevelCode_writeLevel : MethodName := ⟨"TileForge$LevelCode", "writeLevel", "(LTileForge$BitWriter;II)V"⟩
def ws_LevelCode_writeLevel : List Cond := .code y_LevelCode_writeLevel prog_6_method_3_code 7 none :: GW
theorem mw_165 : (.code ⟨"TileForge$LevelCode", "writeLevel", "(LTileForge$BitWriter;II)V"⟩ prog_6_method_3_code 7 none : Cond) ∈ GW := List.mem_filter.mpr ⟨(List.mem_append_right _ (List.mem_append_right _ (List.mem_append_left _ (List.mem_of_getElem? (i := 222) rfl)))), rfl⟩
theorem hd_LevelCode_writeLevel : y_LevelCode_writeLevel.cls ≠ "java/lang/invoke/MethodHandle" ∧ y_LevelCode_writeLevel.cls ≠ "java/lang/invoke/VarHandle" ∧ (parseMethodDescriptor y_LevelCode_writeLevel.desc).map (fun d => d.parameters.length) = some 3 := by decide +kernel
theorem d_LevelCode_writeLevel_0 : decode prog_6_method_3_code 0 = .ok (.iload_n 2, 1) := by decide +kernel
theorem d_LevelCode_writeLevel_1 : decode prog_6_method_3_code 1 = .ok (.ifCond .ne 10, 3) := by decide +kernel
theorem d_LevelCode_writeLevel_4 : decode prog_6_method_3_code 4 = .ok (.aload_n 0, 1) := by decide +kernel
theorem d_LevelCode_writeLevel_5 : decode prog_6_method_3_code 5 = .ok (.getfield 12, 3) := by decide +kernel
theorem d_LevelCode_writeLevel_8 : decode prog_6_method_3_code 8 = .ok (.goto 7, 3) := by decide +kernel
theorem d_LevelCode_writeLevel_11 : decode prog_6_method_3_code 11 = .ok (.aload_n 0, 1) := by decide +kernel
theorem d_LevelCode_writeLevel_12 : decode prog_6_method_3_code 12 = .ok (.getfield 18, 3) := by decide +kernel
theorem d_LevelCode_writeLevel_15 : decode prog_6_method_3_code 15 = .ok (.astore 4, 2) := by decide +kernel
theorem d_LevelCode_writeLevel_17 : decode prog_6_method_3_code 17 = .ok (.iload_n 3, 1) := by decide +kernel
theorem d_LevelCode_writeLevel_18 : decode prog_6_method_3_code 18 = .ok (.ifCond .le 11, 3) := by decide +kernel
theorem d_LevelCode_writeLevel_21 : decode prog_6_method_3_code 21 = .ok (.iconst 2, 1) := by decide +kernel
theorem d_LevelCode_writeLevel_22 : decode prog_6_method_3_code 22 = .ok (.iload_n 3, 1) := by decide +kernel
theorem d_LevelCode_writeLevel_23 : decode prog_6_method_3_code 23 = .ok (.imul, 1) := by decide +kernel
theorem d_LevelCode_writeLevel_24 : decode prog_6_method_3_code 24 = .ok (.iconst 1, 1) := by decide +kernel
theorem d_LevelCode_writeLevel_25 : decode prog_6_method_3_code 25 = .ok (.isub, 1) := by decide +kernel
theorem d_LevelCode_writeLevel_26 : decode prog_6_method_3_code 26 = .ok (.goto 7, 3) := by decide +kernel
theorem d_LevelCode_writeLevel_29 : decode prog_6_method_3_code 29 = .ok (.bipush (-2), 2) := by decide +kernel
theorem d_LevelCode_writeLevel_31 : decode prog_6_method_3_code 31 = .ok (.iload_n 3, 1) := by decide +kernel
theorem d_LevelCode_writeLevel_32 : decode prog_6_method_3_code 32 = .ok (.imul, 1) := by decide +kernel
theorem d_LevelCode_writeLevel_33 : decode prog_6_method_3_code 33 = .ok (.istore 5, 2) := by decide +kernel
theorem d_LevelCode_writeLevel_35 : decode prog_6_method_3_code 35 = .ok (.aload 4, 2) := by decide +kernel
theorem d_LevelCode_writeLevel_37 : decode prog_6_method_3_code 37 = .ok (.invokevirtual 24, 3) := by decide +kernel
theorem d_LevelCode_writeLevel_40 : decode prog_6_method_3_code 40 = .ok (.istore 6, 2) := by decide +kernel
theorem d_LevelCode_writeLevel_42 : decode prog_6_method_3_code 42 = .ok (.iload 5, 2) := by decide +kernel
theorem d_LevelCode_writeLevel_44 : decode prog_6_method_3_code 44 = .ok (.iload 6, 2) := by decide +kernel
theorem d_LevelCode_writeLevel_46 : decode prog_6_method_3_code 46 = .ok (.ishr, 1) := by decide +kernel
theorem d_LevelCode_writeLevel_47 : decode prog_6_method_3_code 47 = .ok (.bipush 12, 2) := by decide +kernel
theorem d_LevelCode_writeLevel_49 : decode prog_6_method_3_code 49 = .ok (.if_icmp .lt 23, 3) := by decide +kernel
theorem d_LevelCode_writeLevel_52 : decode prog_6_method_3_code 52 = .ok (.aload_n 1, 1) := by decide +kernel
theorem d_LevelCode_writeLevel_53 : decode prog_6_method_3_code 53 = .ok (.sipush 4095, 3) := by decide +kernel
theorem d_LevelCode_writeLevel_56 : decode prog_6_method_3_code 56 = .ok (.bipush 12, 2) := by decide +kernel
theorem d_LevelCode_writeLevel_58 : decode prog_6_method_3_code 58 = .ok (.invokevirtual 28, 3) := by decide +kernel
theorem d_LevelCode_writeLevel_61 : decode prog_6_method_3_code 61 = .ok (.aload_n 1, 1) := by decide +kernel
theorem d_LevelCode_writeLevel_62 : decode prog_6_method_3_code 62 = .ok (.iload 5, 2) := by decide +kernel
theorem d_LevelCode_writeLevel_64 : decode prog_6_method_3_code 64 = .ok (.bipush 14, 2) := by decide +kernel
theorem d_LevelCode_writeLevel_66 : decode prog_6_method_3_code 66 = .ok (.invokevirtual 28, 3) := by decide +kernel
theorem d_LevelCode_writeLevel_69 : decode prog_6_method_3_code 69 = .ok (.goto 20, 3) := by decide +kernel
theorem d_LevelCode_writeLevel_72 : decode prog_6_method_3_code 72 = .ok (.aload_n 1, 1) := by decide +kernel
theorem d_LevelCode_writeLevel_73 : decode prog_6_method_3_code 73 = .ok (.iload 5, 2) := by decide +kernel
theorem d_LevelCode_writeLevel_75 : decode prog_6_method_3_code 75 = .ok (.iload 6, 2) := by decide +kernel
theorem d_LevelCode_writeLevel_77 : decode prog_6_method_3_code 77 = .ok (.ishr, 1) := by decide +kernel
theorem d_LevelCode_writeLevel_78 : decode prog_6_method_3_code 78 = .ok (.invokevirtual 34, 3) := by decide +kernel
theorem d_LevelCode_writeLevel_81 : decode prog_6_method_3_code 81 = .ok (.aload_n 1, 1) := by decide +kernel
theorem d_LevelCode_writeLevel_82 : decode prog_6_method_3_code 82 = .ok (.iload 5, 2) := by decide +kernel
theorem d_LevelCode_writeLevel_84 : decode prog_6_method_3_code 84 = .ok (.iload 6, 2) := by decide +kernel
theorem d_LevelCode_writeLevel_86 : decode prog_6_method_3_code 86 = .ok (.invokevirtual 28, 3) := by decide +kernel
theorem d_LevelCode_writeLevel_89 : decode prog_6_method_3_code 89 = .ok (.aload 4, 2) := by decide +kernel
theorem d_LevelCode_writeLevel_91 : decode prog_6_method_3_code 91 = .ok (.iload 5, 2) := by decide +kernel
theorem d_LevelCode_writeLevel_93 : decode prog_6_method_3_code 93 = .ok (.invokevirtual 38, 3) := by decide +kernel
theorem d_LevelCode_writeLevel_96 : decode prog_6_method_3_code 96 = .ok (.return_, 1) := by decide +kernel
theorem mw_166 : (.methodLink "TileForge$LevelCode" 24 ⟨"TileForge$Tally", "lowBits", "()I"⟩ : Cond) ∈ GW := List.mem_filter.mpr ⟨(List.mem_append_right _ (List.mem_append_right _ (List.mem_append_left _ (List.mem_of_getElem? (i := 223) rfl)))), rfl⟩
theorem mw_167 : (.instanceMethod ⟨"TileForge$Tally", "lowBits", "()I"⟩ : Cond) ∈ GW := List.mem_filter.mpr ⟨(List.mem_append_right _ (List.mem_append_right _ (List.mem_append_left _ (List.mem_of_getElem? (i := 224) rfl)))), rfl⟩
theorem mw_168 : (.selects "TileForge$Tally" ⟨"TileForge$Tally", "lowBits", "()I"⟩ ⟨"TileForge$Tally", "lowBits", "()I"⟩ : Cond) ∈ GW := List.mem_filter.mpr ⟨(List.mem_append_right _ (List.mem_append_right _ (List.mem_append_left _ (List.mem_of_getElem? (i := 225) rfl)))), rfl⟩
theorem mw_169 : (.methodLink "TileForge$LevelCode" 34 ⟨"TileForge$BitWriter", "writeOnesAndZero", "(I)V"⟩ : Cond) ∈ GW := List.mem_filter.mpr ⟨(List.mem_append_right _ (List.mem_append_right _ (List.mem_append_left _ (List.mem_of_getElem? (i := 228) rfl)))), rfl⟩
theorem mw_170 : (.instanceMethod ⟨"TileForge$BitWriter", "writeOnesAndZero", "(I)V"⟩ : Cond) ∈ GW := List.mem_filter.mpr ⟨(List.mem_append_right _ (List.mem_append_right _ (List.mem_append_left _ (List.mem_of_getElem? (i := 229) rfl)))), rfl⟩
theorem mw_171 : (.selects "TileForge$BitWriter" ⟨"TileForge$BitWriter", "writeOnesAndZero", "(I)V"⟩ ⟨"TileForge$BitWriter", "writeOnesAndZero", "(I)V"⟩ : Cond) ∈ GW := List.mem_filter.mpr ⟨(List.mem_append_right _ (List.mem_append_right _ (List.mem_append_left _ (List.mem_of_getElem? (i := 230) rfl)))), rfl⟩
theorem mw_172 : (.methodLink "TileForge$LevelCode" 28 ⟨"TileForge$BitWriter", "write", "(II)V"⟩ : Cond) ∈ GW := List.mem_filter.mpr ⟨(List.mem_append_right _ (List.mem_append_right _ (List.mem_append_left _ (List.mem_of_getElem? (i := 227) rfl)))), rfl⟩
theorem mw_173 : (.methodLink "TileForge$LevelCode" 38 ⟨"TileForge$Tally", "learn", "(I)V"⟩ : Cond) ∈ GW := List.mem_filter.mpr ⟨(List.mem_append_right _ (List.mem_append_right _ (List.mem_append_left _ (List.mem_of_getElem? (i := 233) rfl)))), rfl⟩
theorem mw_174 : (.instanceMethod ⟨"TileForge$Tally", "learn", "(I)V"⟩ : Cond) ∈ GW := List.mem_filter.mpr ⟨(List.mem_append_right _ (List.mem_append_right _ (List.mem_append_left _ (List.mem_of_getElem? (i := 234) rfl)))), rfl⟩
theorem mw_175 : (.selects "TileForge$Tally" ⟨"TileForge$Tally", "learn", "(I)V"⟩ ⟨"TileForge$Tally", "learn", "(I)V"⟩ : Cond) ∈ GW := List.mem_filter.mpr ⟨(List.mem_append_right _ (List.mem_append_right _ (List.mem_append_left _ (List.mem_of_getElem? (i := 235) rfl)))), rfl⟩
def q_lc_write (cI : ClassId) (z1 : Nat) (t1 : Nat) (vs : Int32) (vn : Int32) (t2 : Nat) (vs2 : Int32) (vn2 : Int32) (x1 : Nat) (x2 : Nat) (bt : Nat → Int32) (nb : Nat) (ix : Nat) (lev : Int32) (un : Nat) : va_W → Prop := fun ww => ww = [(z1, .inr (4, [.ref t1, .ref t2])), (t1, .inr (7, [.int (if ix = 0 then tlS vs vn (nI un) else vs), .int (if ix = 0 then tlN vn else vn)])), (t2, .inr (7, [.int (if ix = 0 then vs2 else tlS vs2 vn2 (nI un)), .int (if ix = 0 then vn2 else tlN vn2)])), (x1, .inr (0, [.ref x2, .int (nI (wrU un (lcK ix vs vn vs2 vn2) bt nb).2)])), (x2, .inl (cI, 400, .inl ((wrU un (lcK ix vs vn vs2 vn2) bt nb).1)))]
set_option maxHeartbeats 4000000 in
set_option maxRecDepth 100000 in
theorem c_lc_write (l : Launch) {D : va_G} {tys : List (ClassId × FieldType)} {cI : ClassId} (hcI : tys[0]? = some (cI, .int)) (z1 : Nat) (t1 : Nat) (vs : Int32) (vn : Int32) (t2 : Nat) (vs2 : Int32) (vn2 : Int32) (x1 : Nat) (x2 : Nat) (bt : Nat → Int32) (nb : Nat) (ix : Nat) (lev : Int32) (un : Nat) (hix0 : ix < 16) (hu : (if lev ≤ 0 then (-2) * lev else 2 * lev - 1) = nI un) (hun : un ≤ 8190) (hnb : nb + 64 < 1073741824) : CsV l D vwCl tys y_LevelCode_writeLevel ws_LevelCode_writeLevel ({ frames := 2, cells := 0, slots := 0, locals := 45 } : Room) [.ref z1, .ref x1, .int (nI ix), .int lev] [(z1, .inr (4, [.ref t1, .ref t2])), (t1, .inr (7, [.int vs, .int vn])), (t2, .inr (7, [.int vs2, .int vn2])), (x1, .inr (0, [.ref x2, .int (nI nb)])), (x2, .inl (cI, 400, .inl bt))] (q_lc_write cI z1 t1 vs vn t2 vs2 vn2 x1 x2 bt nb ix lev un) 0 0 := by
  intro sz
  refine Met.ofW (cc := prog_6_method_3_code) (maxL := 7) (ret := none) (by decide) rfl ?_
  intro p e s m args below meth c s₁ B hml hv
  obtain ⟨rfl, hsz, hP, hK, hD0, hN⟩ := hv
  have hx := B.exec
  have hb := B.bytes
  have hr := B.returns
  have hts := atoms_spec (ws := ws_LevelCode_writeLevel) B.pre
  have hown : s.vm.findClass "TileForge$LevelCode" = some m.cls := findClass_of_methodNamed B.named
  have hlocks := B.notSynchronized
  subst hsz
  have hD := hD0.self (sz := s.heap.size)
  generalize hAe : va_A [(z1, .inr (4, [.ref t1, .ref t2])), (t1, .inr (7, [.int vs, .int vn])), (t2, .inr (7, [.int vs2, .int vn2])), (x1, .inr (0, [.ref x2, .int (nI nb)])), (x2, .inl (cI, 400, .inl bt))] s.heap.size = A at hD ⊢
  have hA : ∀ q : Nat, s.heap.size ≤ q → A q := fun q h => by rw [← hAe]; exact Or.inr h
  have hS : va_S A s.heap s.heap [] := va_S.rf
  have hP : va_P D vwCl [(z1, .inr (4, [.ref t1, .ref t2])), (t1, .inr (7, [.int vs, .int vn])), (t2, .inr (7, [.int vs2, .int vn2])), (x1, .inr (0, [.ref x2, .int (nI nb)])), (x2, .inl (cI, 400, .inl bt))] s.heap := hP
  have hl := lv_entry ([.ref z1, .ref x1, .int (nI ix), .int lev]) (n := 7) (Nat.le_of_ble_eq_true rfl)
  rw [lg_entry_eq]
  generalize (lg_sl ([.ref z1, .ref x1, .int (nI ix), .int lev]) ++ List.replicate (7 - (lg_sl ([.ref z1, .ref x1, .int (nI ix), .int lev])).length) Slot.unset).toArray = ls at hl ⊢
  have hl : lv_has ls 7 [(0, .ref z1), (1, .ref x1), (2, .int (nI ix)), (3, .int lev)] := hl
  refine lv_iload_n hx hb d_LevelCode_writeLevel_0 rfl (lv_at hl 2 rfl) ?_
  refine lv_if_ne (tgt := 11) hx hb d_LevelCode_writeLevel_1 (by decide) (fun c_1 => ?_) (fun c_1 => ?_)
  · have hix : ¬ ix = 0 := fun h => c_1 (by rw [h]; rfl)
    have hK0 : lcK ix vs vn vs2 vn2 = lowK vn2 vs2 := if_neg hix
    have hK1 := lowK_le vn2 vs2
    refine lv_aload_n hx hb d_LevelCode_writeLevel_11 rfl (lv_at hl 0 rfl) ?_
    refine va_get (D := D) (ci := 4) (v := .ref t2) (C := "TileForge$LevelCode") (T := T_LevelCode) (N := 2) hx hb hts (cs_in in_LevelCode) hown hK hP 0 rfl rfl 1 (by decide) (hts _ (cs_m mw_159)) (fun _ h9 => h9) rfl d_LevelCode_writeLevel_12 ?_
    refine lv_astore (lv' := [(4, .ref t2), (0, .ref z1), (1, .ref x1), (2, .int (nI ix)), (3, .int lev)]) hx hb d_LevelCode_writeLevel_15 hl (by decide) rfl (fun ls hl => ?_)
    refine lv_iload_n hx hb d_LevelCode_writeLevel_17 rfl (lv_at hl 4 rfl) ?_
    refine lv_if_le (tgt := 29) hx hb d_LevelCode_writeLevel_18 (by decide) (fun c_18 => ?_) (fun c_18 => ?_)
    · refine lv_bipush (v := (-2)) hx hb d_LevelCode_writeLevel_29 (by decide) ?_
      refine lv_iload_n hx hb d_LevelCode_writeLevel_31 rfl (lv_at hl 4 rfl) ?_
      refine lv_imul hx hb d_LevelCode_writeLevel_32 ?_
      refine cs_top (y := nI un) (by rw [← hu]; simp [c_18]) ?_
      refine lv_istore (lv' := [(5, .int (nI un)), (4, .ref t2), (0, .ref z1), (1, .ref x1), (2, .int (nI ix)), (3, .int lev)]) hx hb d_LevelCode_writeLevel_33 hl (by decide) rfl (fun ls hl => ?_)
      refine lv_aload hx hb d_LevelCode_writeLevel_35 (lv_at hl 1 rfl) ?_
      refine cs_Vi (As := []) (rest := []) (wr := [(z1, .inr (4, [.ref t1, .ref t2])), (t1, .inr (7, [.int vs, .int vn])), (x1, .inr (0, [.ref x2, .int (nI nb)])), (x2, .inl (cI, 400, .inl bt))]) ⟨hx, hb, hml, hown, hts⟩ (c_ta_low l hcI t2 vs2 vn2) (cwV 0 hts (cs_gV mw_166 mw_167 mw_168 mw_156 mw_110) rfl rfl rfl ⟨rfl, hd_Tally_lowBits⟩ ⟨Nat.le_of_ble_eq_true rfl, Nat.le_of_ble_eq_true rfl⟩) hN hK hP hD hS hA [2] [0, 1, 3, 4] rfl rfl rfl rfl (by decide) (ci := 7) rfl rfl rfl rfl rfl hl.1 (Nat.le_of_ble_eq_true rfl) d_LevelCode_writeLevel_37 ⟨Nat.le_of_ble_eq_true rfl, Nat.le_of_ble_eq_true rfl⟩ (fun r1 w1 H locs hw hP hD hS => ?_)
      obtain ⟨rfl, rfl⟩ := hw
      have hP : va_P D vwCl [(z1, .inr (4, [.ref t1, .ref t2])), (t1, .inr (7, [.int vs, .int vn])), (x1, .inr (0, [.ref x2, .int (nI nb)])), (x2, .inl (cI, 400, .inl bt)), (t2, .inr (7, [.int vs2, .int vn2]))] H := hP
      have hD : va_D A [(z1, .inr (4, [.ref t1, .ref t2])), (t1, .inr (7, [.int vs, .int vn])), (x1, .inr (0, [.ref x2, .int (nI nb)])), (x2, .inl (cI, 400, .inl bt)), (t2, .inr (7, [.int vs2, .int vn2]))] := hD
      refine lv_istore (lv' := [(6, .int (nI (lowK vn2 vs2))), (5, .int (nI un)), (4, .ref t2), (0, .ref z1), (1, .ref x1), (2, .int (nI ix)), (3, .int lev)]) hx hb d_LevelCode_writeLevel_40 hl (by decide) rfl (fun ls hl => ?_)
      refine lv_iload hx hb d_LevelCode_writeLevel_42 (lv_at hl 1 rfl) ?_
      refine lv_iload hx hb d_LevelCode_writeLevel_44 (lv_at hl 0 rfl) ?_
      refine lv_ishr hx hb d_LevelCode_writeLevel_46 ?_
      refine cs_top (y := nI (un / 2 ^ (lowK vn2 vs2))) (cs_shr hK1 (by omega)) ?_
      refine lv_bipush (v := 12) hx hb d_LevelCode_writeLevel_47 (by decide) ?_
      refine lv_icmp_lt (tgt := 72) hx hb d_LevelCode_writeLevel_49 (by decide) (fun c_49 => ?_) (fun c_49 => ?_)
      · have h12 : un / 2 ^ (lowK vn2 vs2) < 12 := (nI_ltI (a := un / 2 ^ (lowK vn2 vs2)) (b := 12) (by have := Nat.div_le_self un (2 ^ (lowK vn2 vs2)); omega) (by decide)).mp c_49
        refine lv_aload_n hx hb d_LevelCode_writeLevel_72 rfl (lv_at hl 4 rfl) ?_
        refine lv_iload hx hb d_LevelCode_writeLevel_73 (lv_at hl 1 rfl) ?_
        refine lv_iload hx hb d_LevelCode_writeLevel_75 (lv_at hl 0 rfl) ?_
        refine lv_ishr hx hb d_LevelCode_writeLevel_77 ?_
        refine cs_top (y := nI (un / 2 ^ (lowK vn2 vs2))) (cs_shr hK1 (by omega)) ?_
        refine cs_Vv (As := [.int (nI (un / 2 ^ (lowK vn2 vs2)))]) (rest := []) (wr := [(z1, .inr (4, [.ref t1, .ref t2])), (t1, .inr (7, [.int vs, .int vn])), (t2, .inr (7, [.int vs2, .int vn2]))]) ⟨hx, hb, hml, hown, hts⟩ (c_bw_ones l hcI x1 x2 bt nb (un / 2 ^ (lowK vn2 vs2)) (by omega)) (cwV 1 hts (cs_gV mw_169 mw_170 mw_171 mw_119 mw_118) rfl rfl rfl ⟨rfl, hd_BitWriter_writeOnesAndZero⟩ ⟨Nat.le_of_ble_eq_true rfl, Nat.le_of_ble_eq_true rfl⟩) hN hK hP hD hS hA [2, 3] [0, 1, 4] rfl rfl rfl rfl (by decide) (ci := 0) rfl rfl rfl rfl rfl hl.1 (Nat.le_of_ble_eq_true rfl) d_LevelCode_writeLevel_78 ⟨Nat.le_of_ble_eq_true rfl, Nat.le_of_ble_eq_true rfl⟩ (fun w1 H locs hw hP hD hS => ?_)
        obtain rfl := hw
        have hP : va_P D vwCl [(z1, .inr (4, [.ref t1, .ref t2])), (t1, .inr (7, [.int vs, .int vn])), (t2, .inr (7, [.int vs2, .int vn2])), (x1, .inr (0, [.ref x2, .int (nI (nb + ((un / 2 ^ (lowK vn2 vs2)) + 1)))])), (x2, .inl (cI, 400, .inl (wrF ((2 <<< (nI (un / 2 ^ (lowK vn2 vs2)) &&& 31)) - 2) ((un / 2 ^ (lowK vn2 vs2)) + 1) bt nb)))] H := hP
        have hD : va_D A [(z1, .inr (4, [.ref t1, .ref t2])), (t1, .inr (7, [.int vs, .int vn])), (t2, .inr (7, [.int vs2, .int vn2])), (x1, .inr (0, [.ref x2, .int (nI (nb + ((un / 2 ^ (lowK vn2 vs2)) + 1)))])), (x2, .inl (cI, 400, .inl (wrF ((2 <<< (nI (un / 2 ^ (lowK vn2 vs2)) &&& 31)) - 2) ((un / 2 ^ (lowK vn2 vs2)) + 1) bt nb)))] := hD
        refine lv_aload_n hx hb d_LevelCode_writeLevel_81 rfl (lv_at hl 4 rfl) ?_
        refine lv_iload hx hb d_LevelCode_writeLevel_82 (lv_at hl 1 rfl) ?_
        refine lv_iload hx hb d_LevelCode_writeLevel_84 (lv_at hl 0 rfl) ?_
        refine cs_Vv (As := [.int (nI un), .int (nI (lowK vn2 vs2))]) (rest := []) (wr := [(z1, .inr (4, [.ref t1, .ref t2])), (t1, .inr (7, [.int vs, .int vn])), (t2, .inr (7, [.int vs2, .int vn2]))]) ⟨hx, hb, hml, hown, hts⟩ (c_bw_write l hcI x1 x2 (wrF ((2 <<< (nI (un / 2 ^ (lowK vn2 vs2)) &&& 31)) - 2) ((un / 2 ^ (lowK vn2 vs2)) + 1) bt nb) (nb + ((un / 2 ^ (lowK vn2 vs2)) + 1)) (nI un) (lowK vn2 vs2) (by omega)) (cwV 2 hts (cs_gV mw_172 mw_121 mw_122 mw_119 mw_117) rfl rfl rfl ⟨rfl, hd_BitWriter_write⟩ ⟨Nat.le_of_ble_eq_true rfl, Nat.le_of_ble_eq_true rfl⟩) hN hK hP hD hS hA [3, 4] [0, 1, 2] rfl rfl rfl rfl (by decide) (ci := 0) rfl rfl rfl rfl rfl hl.1 (Nat.le_of_ble_eq_true rfl) d_LevelCode_writeLevel_86 ⟨Nat.le_of_ble_eq_true rfl, Nat.le_of_ble_eq_true rfl⟩ (fun w1 H locs hw hP hD hS => ?_)
        obtain rfl := hw
        have hP : va_P D vwCl [(z1, .inr (4, [.ref t1, .ref t2])), (t1, .inr (7, [.int vs, .int vn])), (t2, .inr (7, [.int vs2, .int vn2])), (x1, .inr (0, [.ref x2, .int (nI ((nb + ((un / 2 ^ (lowK vn2 vs2)) + 1)) + (lowK vn2 vs2)))])), (x2, .inl (cI, 400, .inl (wrF (nI un) (lowK vn2 vs2) (wrF ((2 <<< (nI (un / 2 ^ (lowK vn2 vs2)) &&& 31)) - 2) ((un / 2 ^ (lowK vn2 vs2)) + 1) bt nb) (nb + ((un / 2 ^ (lowK vn2 vs2)) + 1)))))] H := hP
        have hD : va_D A [(z1, .inr (4, [.ref t1, .ref t2])), (t1, .inr (7, [.int vs, .int vn])), (t2, .inr (7, [.int vs2, .int vn2])), (x1, .inr (0, [.ref x2, .int (nI ((nb + ((un / 2 ^ (lowK vn2 vs2)) + 1)) + (lowK vn2 vs2)))])), (x2, .inl (cI, 400, .inl (wrF (nI un) (lowK vn2 vs2) (wrF ((2 <<< (nI (un / 2 ^ (lowK vn2 vs2)) &&& 31)) - 2) ((un / 2 ^ (lowK vn2 vs2)) + 1) bt nb) (nb + ((un / 2 ^ (lowK vn2 vs2)) + 1)))))] := hD
        refine lv_aload hx hb d_LevelCode_writeLevel_89 (lv_at hl 2 rfl) ?_
        refine lv_iload hx hb d_LevelCode_writeLevel_91 (lv_at hl 1 rfl) ?_
        refine cs_Vv (As := [.int (nI un)]) (rest := []) (wr := [(z1, .inr (4, [.ref t1, .ref t2])), (t1, .inr (7, [.int vs, .int vn])), (x1, .inr (0, [.ref x2, .int (nI ((nb + ((un / 2 ^ (lowK vn2 vs2)) + 1)) + (lowK vn2 vs2)))])), (x2, .inl (cI, 400, .inl (wrF (nI un) (lowK vn2 vs2) (wrF ((2 <<< (nI (un / 2 ^ (lowK vn2 vs2)) &&& 31)) - 2) ((un / 2 ^ (lowK vn2 vs2)) + 1) bt nb) (nb + ((un / 2 ^ (lowK vn2 vs2)) + 1)))))]) ⟨hx, hb, hml, hown, hts⟩ (c_ta_learn l hcI t2 vs2 vn2 (nI un)) (cwV 1 hts (cs_gV mw_173 mw_174 mw_175 mw_156 mw_111) rfl rfl rfl ⟨rfl, hd_Tally_learn⟩ ⟨Nat.le_of_ble_eq_true rfl, Nat.le_of_ble_eq_true rfl⟩) hN hK hP hD hS hA [2] [0, 1, 3, 4] rfl rfl rfl rfl (by decide) (ci := 7) rfl rfl rfl rfl rfl hl.1 (Nat.le_of_ble_eq_true rfl) d_LevelCode_writeLevel_93 ⟨Nat.le_of_ble_eq_true rfl, Nat.le_of_ble_eq_true rfl⟩ (fun w1 H locs hw hP hD hS => ?_)
        obtain rfl := hw
        have hP : va_P D vwCl [(z1, .inr (4, [.ref t1, .ref t2])), (t1, .inr (7, [.int vs, .int vn])), (x1, .inr (0, [.ref x2, .int (nI ((nb + ((un / 2 ^ (lowK vn2 vs2)) + 1)) + (lowK vn2 vs2)))])), (x2, .inl (cI, 400, .inl (wrF (nI un) (lowK vn2 vs2) (wrF ((2 <<< (nI (un / 2 ^ (lowK vn2 vs2)) &&& 31)) - 2) ((un / 2 ^ (lowK vn2 vs2)) + 1) bt nb) (nb + ((un / 2 ^ (lowK vn2 vs2)) + 1))))), (t2, .inr (7, [.int (tlS vs2 vn2 (nI un)), .int (tlN vn2)]))] H := hP
        have hD : va_D A [(z1, .inr (4, [.ref t1, .ref t2])), (t1, .inr (7, [.int vs, .int vn])), (x1, .inr (0, [.ref x2, .int (nI ((nb + ((un / 2 ^ (lowK vn2 vs2)) + 1)) + (lowK vn2 vs2)))])), (x2, .inl (cI, 400, .inl (wrF (nI un) (lowK vn2 vs2) (wrF ((2 <<< (nI (un / 2 ^ (lowK vn2 vs2)) &&& 31)) - 2) ((un / 2 ^ (lowK vn2 vs2)) + 1) bt nb) (nb + ((un / 2 ^ (lowK vn2 vs2)) + 1))))), (t2, .inr (7, [.int (tlS vs2 vn2 (nI un)), .int (tlN vn2)]))] := hD
        have hP := hP.sub (ws' := [(z1, .inr (4, [.ref t1, .ref t2])), (t1, .inr (7, [.int vs, .int vn])), (t2, .inr (7, [.int (tlS vs2 vn2 (nI un)), .int (tlN vn2)])), (x1, .inr (0, [.ref x2, .int (nI ((nb + ((un / 2 ^ (lowK vn2 vs2)) + 1)) + (lowK vn2 vs2)))])), (x2, .inl (cI, 400, .inl (wrF (nI un) (lowK vn2 vs2) (wrF ((2 <<< (nI (un / 2 ^ (lowK vn2 vs2)) &&& 31)) - 2) ((un / 2 ^ (lowK vn2 vs2)) + 1) bt nb) (nb + ((un / 2 ^ (lowK vn2 vs2)) + 1)))))]) [0, 1, 4, 2, 3] rfl
        have hD := hD.sub (ws' := [(z1, .inr (4, [.ref t1, .ref t2])), (t1, .inr (7, [.int vs, .int vn])), (t2, .inr (7, [.int (tlS vs2 vn2 (nI un)), .int (tlN vn2)])), (x1, .inr (0, [.ref x2, .int (nI ((nb + ((un / 2 ^ (lowK vn2 vs2)) + 1)) + (lowK vn2 vs2)))])), (x2, .inl (cI, 400, .inl (wrF (nI un) (lowK vn2 vs2) (wrF ((2 <<< (nI (un / 2 ^ (lowK vn2 vs2)) &&& 31)) - 2) ((un / 2 ^ (lowK vn2 vs2)) + 1) bt nb) (nb + ((un / 2 ^ (lowK vn2 vs2)) + 1)))))]) [0, 1, 4, 2, 3] (by decide) rfl
        exact W.vret hx hb hr (fun t ht hW => ⟨⟨[(z1, .inr (4, [.ref t1, .ref t2])), (t1, .inr (7, [.int vs, .int vn])), (t2, .inr (7, [.int (tlS vs2 vn2 (nI un)), .int (tlN vn2)])), (x1, .inr (0, [.ref x2, .int (nI ((nb + ((un / 2 ^ (lowK vn2 vs2)) + 1)) + (lowK vn2 vs2)))])), (x2, .inl (cI, 400, .inl (wrF (nI un) (lowK vn2 vs2) (wrF ((2 <<< (nI (un / 2 ^ (lowK vn2 vs2)) &&& 31)) - 2) ((un / 2 ^ (lowK vn2 vs2)) + 1) bt nb) (nb + ((un / 2 ^ (lowK vn2 vs2)) + 1)))))], rfl, (show _ = _ from (by rw [hK0, wrU, if_pos h12]; simp [hix])), by rw [ht]; exact hP, va_K.moved hW.alike hK, hD⟩, hS.F ht⟩) hS.2.2 d_LevelCode_writeLevel_96
      · have h12 : ¬ un / 2 ^ (lowK vn2 vs2) < 12 := fun h => c_49 (nI_lt (a := un / 2 ^ (lowK vn2 vs2)) (b := 12) h (by decide))
        refine lv_aload_n hx hb d_LevelCode_writeLevel_52 rfl (lv_at hl 4 rfl) ?_
        refine lv_sipush (v := 4095) hx hb d_LevelCode_writeLevel_53 (by decide) ?_
        refine lv_bipush (v := 12) hx hb d_LevelCode_writeLevel_56 (by decide) ?_
        refine cs_Vv (As := [.int 4095, .int 12]) (rest := []) (wr := [(z1, .inr (4, [.ref t1, .ref t2])), (t1, .inr (7, [.int vs, .int vn])), (t2, .inr (7, [.int vs2, .int vn2]))]) ⟨hx, hb, hml, hown, hts⟩ (c_bw_write l hcI x1 x2 bt nb 4095 12 (by omega)) (cwV 2 hts (cs_gV mw_172 mw_121 mw_122 mw_119 mw_117) rfl rfl rfl ⟨rfl, hd_BitWriter_write⟩ ⟨Nat.le_of_ble_eq_true rfl, Nat.le_of_ble_eq_true rfl⟩) hN hK hP hD hS hA [2, 3] [0, 1, 4] rfl rfl rfl rfl (by decide) (ci := 0) rfl rfl rfl rfl rfl hl.1 (Nat.le_of_ble_eq_true rfl) d_LevelCode_writeLevel_58 ⟨Nat.le_of_ble_eq_true rfl, Nat.le_of_ble_eq_true rfl⟩ (fun w1 H locs hw hP hD hS => ?_)
        obtain rfl := hw
        have hP : va_P D vwCl [(z1, .inr (4, [.ref t1, .ref t2])), (t1, .inr (7, [.int vs, .int vn])), (t2, .inr (7, [.int vs2, .int vn2])), (x1, .inr (0, [.ref x2, .int (nI (nb + 12))])), (x2, .inl (cI, 400, .inl (wrF 4095 12 bt nb)))] H := hP
        have hD : va_D A [(z1, .inr (4, [.ref t1, .ref t2])), (t1, .inr (7, [.int vs, .int vn])), (t2, .inr (7, [.int vs2, .int vn2])), (x1, .inr (0, [.ref x2, .int (nI (nb + 12))])), (x2, .inl (cI, 400, .inl (wrF 4095 12 bt nb)))] := hD
        refine lv_aload_n hx hb d_LevelCode_writeLevel_61 rfl (lv_at hl 4 rfl) ?_
        refine lv_iload hx hb d_LevelCode_writeLevel_62 (lv_at hl 1 rfl) ?_
        refine lv_bipush (v := 14) hx hb d_LevelCode_writeLevel_64 (by decide) ?_
        refine cs_Vv (As := [.int (nI un), .int 14]) (rest := []) (wr := [(z1, .inr (4, [.ref t1, .ref t2])), (t1, .inr (7, [.int vs, .int vn])), (t2, .inr (7, [.int vs2, .int vn2]))]) ⟨hx, hb, hml, hown, hts⟩ (c_bw_write l hcI x1 x2 (wrF 4095 12 bt nb) (nb + 12) (nI un) 14 (by omega)) (cwV 2 hts (cs_gV mw_172 mw_121 mw_122 mw_119 mw_117) rfl rfl rfl ⟨rfl, hd_BitWriter_write⟩ ⟨Nat.le_of_ble_eq_true rfl, Nat.le_of_ble_eq_true rfl⟩) hN hK hP hD hS hA [3, 4] [0, 1, 2] rfl rfl rfl rfl (by decide) (ci := 0) rfl rfl rfl rfl rfl hl.1 (Nat.le_of_ble_eq_true rfl) d_LevelCode_writeLevel_66 ⟨Nat.le_of_ble_eq_true rfl, Nat.le_of_ble_eq_true rfl⟩ (fun w1 H locs hw hP hD hS => ?_)
        obtain rfl := hw
        have hP : va_P D vwCl [(z1, .inr (4, [.ref t1, .ref t2])), (t1, .inr (7, [.int vs, .int vn])), (t2, .inr (7, [.int vs2, .int vn2])), (x1, .inr (0, [.ref x2, .int (nI ((nb + 12) + 14))])), (x2, .inl (cI, 400, .inl (wrF (nI un) 14 (wrF 4095 12 bt nb) (nb + 12))))] H := hP
        have hD : va_D A [(z1, .inr (4, [.ref t1, .ref t2])), (t1, .inr (7, [.int vs, .int vn])), (t2, .inr (7, [.int vs2, .int vn2])), (x1, .inr (0, [.ref x2, .int (nI ((nb + 12) + 14))])), (x2, .inl (cI, 400, .inl (wrF (nI un) 14 (wrF 4095 12 bt nb) (nb + 12))))] := hD
        refine lv_goto (tgt := 89) hx hb d_LevelCode_writeLevel_69 (by decide) ?_
        refine lv_aload hx hb d_LevelCode_writeLevel_89 (lv_at hl 2 rfl) ?_
        refine lv_iload hx hb d_LevelCode_writeLevel_91 (lv_at hl 1 rfl) ?_
        refine cs_Vv (As := [.int (nI un)]) (rest := []) (wr := [(z1, .inr (4, [.ref t1, .ref t2])), (t1, .inr (7, [.int vs, .int vn])), (x1, .inr (0, [.ref x2, .int (nI ((nb + 12) + 14))])), (x2, .inl (cI, 400, .inl (wrF (nI un) 14 (wrF 4095 12 bt nb) (nb + 12))))]) ⟨hx, hb, hml, hown, hts⟩ (c_ta_learn l hcI t2 vs2 vn2 (nI un)) (cwV 1 hts (cs_gV mw_173 mw_174 mw_175 mw_156 mw_111) rfl rfl rfl ⟨rfl, hd_Tally_learn⟩ ⟨Nat.le_of_ble_eq_true rfl, Nat.le_of_ble_eq_true rfl⟩) hN hK hP hD hS hA [2] [0, 1, 3, 4] rfl rfl rfl rfl (by decide) (ci := 7) rfl rfl rfl rfl rfl hl.1 (Nat.le_of_ble_eq_true rfl) d_LevelCode_writeLevel_93 ⟨Nat.le_of_ble_eq_true rfl, Nat.le_of_ble_eq_true rfl⟩ (fun w1 H locs hw hP hD hS => ?_)
        obtain rfl := hw
        have hP : va_P D vwCl [(z1, .inr (4, [.ref t1, .ref t2])), (t1, .inr (7, [.int vs, .int vn])), (x1, .inr (0, [.ref x2, .int (nI ((nb + 12) + 14))])), (x2, .inl (cI, 400, .inl (wrF (nI un) 14 (wrF 4095 12 bt nb) (nb + 12)))), (t2, .inr (7, [.int (tlS vs2 vn2 (nI un)), .int (tlN vn2)]))] H := hP
        have hD : va_D A [(z1, .inr (4, [.ref t1, .ref t2])), (t1, .inr (7, [.int vs, .int vn])), (x1, .inr (0, [.ref x2, .int (nI ((nb + 12) + 14))])), (x2, .inl (cI, 400, .inl (wrF (nI un) 14 (wrF 4095 12 bt nb) (nb + 12)))), (t2, .inr (7, [.int (tlS vs2 vn2 (nI un)), .int (tlN vn2)]))] := hD
        have hP := hP.sub (ws' := [(z1, .inr (4, [.ref t1, .ref t2])), (t1, .inr (7, [.int vs, .int vn])), (t2, .inr (7, [.int (tlS vs2 vn2 (nI un)), .int (tlN vn2)])), (x1, .inr (0, [.ref x2, .int (nI ((nb + 12) + 14))])), (x2, .inl (cI, 400, .inl (wrF (nI un) 14 (wrF 4095 12 bt nb) (nb + 12))))]) [0, 1, 4, 2, 3] rfl
        have hD := hD.sub (ws' := [(z1, .inr (4, [.ref t1, .ref t2])), (t1, .inr (7, [.int vs, .int vn])), (t2, .inr (7, [.int (tlS vs2 vn2 (nI un)), .int (tlN vn2)])), (x1, .inr (0, [.ref x2, .int (nI ((nb + 12) + 14))])), (x2, .inl (cI, 400, .inl (wrF (nI un) 14 (wrF 4095 12 bt nb) (nb + 12))))]) [0, 1, 4, 2, 3] (by decide) rfl
        exact W.vret hx hb hr (fun t ht hW => ⟨⟨[(z1, .inr (4, [.ref t1, .ref t2])), (t1, .inr (7, [.int vs, .int vn])), (t2, .inr (7, [.int (tlS vs2 vn2 (nI un)), .int (tlN vn2)])), (x1, .inr (0, [.ref x2, .int (nI ((nb + 12) + 14))])), (x2, .inl (cI, 400, .inl (wrF (nI un) 14 (wrF 4095 12 bt nb) (nb + 12))))], rfl, (show _ = _ from (by rw [hK0, wrU, if_neg h12]; simp [hix])), by rw [ht]; exact hP, va_K.moved hW.alike hK, hD⟩, hS.F ht⟩) hS.2.2 d_LevelCode_writeLevel_96
    · refine lv_iconst (v := 2) hx hb d_LevelCode_writeLevel_21 (by decide) ?_
      refine lv_iload_n hx hb d_LevelCode_writeLevel_22 rfl (lv_at hl 4 rfl) ?_
      refine lv_imul hx hb d_LevelCode_writeLevel_23 ?_
      refine lv_iconst (v := 1) hx hb d_LevelCode_writeLevel_24 (by decide) ?_
      refine lv_isub hx hb d_LevelCode_writeLevel_25 ?_
      refine lv_goto (tgt := 33) hx hb d_LevelCode_writeLevel_26 (by decide) ?_
      refine cs_top (y := nI un) (by rw [← hu]; simp [c_18]) ?_
      refine lv_istore (lv' := [(5, .int (nI un)), (4, .ref t2), (0, .ref z1), (1, .ref x1), (2, .int (nI ix)), (3, .int lev)]) hx hb d_LevelCode_writeLevel_33 hl (by decide) rfl (fun ls hl => ?_)
      refine lv_aload hx hb d_LevelCode_writeLevel_35 (lv_at hl 1 rfl) ?_
      refine cs_Vi (As := []) (rest := []) (wr := [(z1, .inr (4, [.ref t1, .ref t2])), (t1, .inr (7, [.int vs, .int vn])), (x1, .inr (0, [.ref x2, .int (nI nb)])), (x2, .inl (cI, 400, .inl bt))]) ⟨hx, hb, hml, hown, hts⟩ (c_ta_low l hcI t2 vs2 vn2) (cwV 0 hts (cs_gV mw_166 mw_167 mw_168 mw_156 mw_110) rfl rfl rfl ⟨rfl, hd_Tally_lowBits⟩ ⟨Nat.le_of_ble_eq_true rfl, Nat.le_of_ble_eq_true rfl⟩) hN hK hP hD hS hA [2] [0, 1, 3, 4] rfl rfl rfl rfl (by decide) (ci := 7) rfl rfl rfl rfl rfl hl.1 (Nat.le_of_ble_eq_true rfl) d_LevelCode_writeLevel_37 ⟨Nat.le_of_ble_eq_true rfl, Nat.le_of_ble_eq_true rfl⟩ (fun r8 w1 H locs hw hP hD hS => ?_)
      obtain ⟨rfl, rfl⟩ := hw
      have hP : va_P D vwCl [(z1, .inr (4, [.ref t1, .ref t2])), (t1, .inr (7, [.int vs, .int vn])), (x1, .inr (0, [.ref x2, .int (nI nb)])), (x2, .inl (cI, 400, .inl bt)), (t2, .inr (7, [.int vs2, .int vn2]))] H := hP
      have hD : va_D A [(z1, .inr (4, [.ref t1, .ref t2])), (t1, .inr (7, [.int vs, .int vn])), (x1, .inr (0, [.ref x2, .int (nI nb)])), (x2, .inl (cI, 400, .inl bt)), (t2, .inr (7, [.int vs2, .int vn2]))] := hD
      refine lv_istore (lv' := [(6, .int (nI (lowK vn2 vs2))), (5, .int (nI un)), (4, .ref t2), (0, .ref z1), (1, .ref x1), (2, .int (nI ix)), (3, .int lev)]) hx hb d_LevelCode_writeLevel_40 hl (by decide) rfl (fun ls hl => ?_)
      refine lv_iload hx hb d_LevelCode_writeLevel_42 (lv_at hl 1 rfl) ?_
      refine lv_iload hx hb d_LevelCode_writeLevel_44 (lv_at hl 0 rfl) ?_
      refine lv_ishr hx hb d_LevelCode_writeLevel_46 ?_
      refine cs_top (y := nI (un / 2 ^ (lowK vn2 vs2))) (cs_shr hK1 (by omega)) ?_
      refine lv_bipush (v := 12) hx hb d_LevelCode_writeLevel_47 (by decide) ?_
      refine lv_icmp_lt (tgt := 72) hx hb d_LevelCode_writeLevel_49 (by decide) (fun c_49 => ?_) (fun c_49 => ?_)
      · have h12 : un / 2 ^ (lowK vn2 vs2) < 12 := (nI_ltI (a := un / 2 ^ (lowK vn2 vs2)) (b := 12) (by have := Nat.div_le_self un (2 ^ (lowK vn2 vs2)); omega) (by decide)).mp c_49
        refine lv_aload_n hx hb d_LevelCode_writeLevel_72 rfl (lv_at hl 4 rfl) ?_
        refine lv_iload hx hb d_LevelCode_writeLevel_73 (lv_at hl 1 rfl) ?_
        refine lv_iload hx hb d_LevelCode_writeLevel_75 (lv_at hl 0 rfl) ?_
        refine lv_ishr hx hb d_LevelCode_writeLevel_77 ?_
        refine cs_top (y := nI (un / 2 ^ (lowK vn2 vs2))) (cs_shr hK1 (by omega)) ?_
        refine cs_Vv (As := [.int (nI (un / 2 ^ (lowK vn2 vs2)))]) (rest := []) (wr := [(z1, .inr (4, [.ref t1, .ref t2])), (t1, .inr (7, [.int vs, .int vn])), (t2, .inr (7, [.int vs2, .int vn2]))]) ⟨hx, hb, hml, hown, hts⟩ (c_bw_ones l hcI x1 x2 bt nb (un / 2 ^ (lowK vn2 vs2)) (by omega)) (cwV 1 hts (cs_gV mw_169 mw_170 mw_171 mw_119 mw_118) rfl rfl rfl ⟨rfl, hd_BitWriter_writeOnesAndZero⟩ ⟨Nat.le_of_ble_eq_true rfl, Nat.le_of_ble_eq_true rfl⟩) hN hK hP hD hS hA [2, 3] [0, 1, 4] rfl rfl rfl rfl (by decide) (ci := 0) rfl rfl rfl rfl rfl hl.1 (Nat.le_of_ble_eq_true rfl) d_LevelCode_writeLevel_78 ⟨Nat.le_of_ble_eq_true rfl, Nat.le_of_ble_eq_true rfl⟩ (fun w1 H locs hw hP hD hS => ?_)
        obtain rfl := hw
        have hP : va_P D vwCl [(z1, .inr (4, [.ref t1, .ref t2])), (t1, .inr (7, [.int vs, .int vn])), (t2, .inr (7, [.int vs2, .int vn2])), (x1, .inr (0, [.ref x2, .int (nI (nb + ((un / 2 ^ (lowK vn2 vs2)) + 1)))])), (x2, .inl (cI, 400, .inl (wrF ((2 <<< (nI (un / 2 ^ (lowK vn2 vs2)) &&& 31)) - 2) ((un / 2 ^ (lowK vn2 vs2)) + 1) bt nb)))] H := hP
        have hD : va_D A [(z1, .inr (4, [.ref t1, .ref t2])), (t1, .inr (7, [.int vs, .int vn])), (t2, .inr (7, [.int vs2, .int vn2])), (x1, .inr (0, [.ref x2, .int (nI (nb + ((un / 2 ^ (lowK vn2 vs2)) + 1)))])), (x2, .inl (cI, 400, .inl (wrF ((2 <<< (nI (un / 2 ^ (lowK vn2 vs2)) &&& 31)) - 2) ((un / 2 ^ (lowK vn2 vs2)) + 1) bt nb)))] := hD
        refine lv_aload_n hx hb d_LevelCode_writeLevel_81 rfl (lv_at hl 4 rfl) ?_
        refine lv_iload hx hb d_LevelCode_writeLevel_82 (lv_at hl 1 rfl) ?_
        refine lv_iload hx hb d_LevelCode_writeLevel_84 (lv_at hl 0 rfl) ?_
        refine cs_Vv (As := [.int (nI un), .int (nI (lowK vn2 vs2))]) (rest := []) (wr := [(z1, .inr (4, [.ref t1, .ref t2])), (t1, .inr (7, [.int vs, .int vn])), (t2, .inr (7, [.int vs2, .int vn2]))]) ⟨hx, hb, hml, hown, hts⟩ (c_bw_write l hcI x1 x2 (wrF ((2 <<< (nI (un / 2 ^ (lowK vn2 vs2)) &&& 31)) - 2) ((un / 2 ^ (lowK vn2 vs2)) + 1) bt nb) (nb + ((un / 2 ^ (lowK vn2 vs2)) + 1)) (nI un) (lowK vn2 vs2) (by omega)) (cwV 2 hts (cs_gV mw_172 mw_121 mw_122 mw_119 mw_117) rfl rfl rfl ⟨rfl, hd_BitWriter_write⟩ ⟨Nat.le_of_ble_eq_true rfl, Nat.le_of_ble_eq_true rfl⟩) hN hK hP hD hS hA [3, 4] [0, 1, 2] rfl rfl rfl rfl (by decide) (ci := 0) rfl rfl rfl rfl rfl hl.1 (Nat.le_of_ble_eq_true rfl) d_LevelCode_writeLevel_86 ⟨Nat.le_of_ble_eq_true rfl, Nat.le_of_ble_eq_true rfl⟩ (fun w1 H locs hw hP hD hS => ?_)
        obtain rfl := hw
        have hP : va_P D vwCl [(z1, .inr (4, [.ref t1, .ref t2])), (t1, .inr (7, [.int vs, .int vn])), (t2, .inr (7, [.int vs2, .int vn2])), (x1, .inr (0, [.ref x2, .int (nI ((nb + ((un / 2 ^ (lowK vn2 vs2)) + 1)) + (lowK vn2 vs2)))])), (x2, .inl (cI, 400, .inl (wrF (nI un) (lowK vn2 vs2) (wrF ((2 <<< (nI (un / 2 ^ (lowK vn2 vs2)) &&& 31)) - 2) ((un / 2 ^ (lowK vn2 vs2)) + 1) bt nb) (nb + ((un / 2 ^ (lowK vn2 vs2)) + 1)))))] H := hP
        have hD : va_D A [(z1, .inr (4, [.ref t1, .ref t2])), (t1, .inr (7, [.int vs, .int vn])), (t2, .inr (7, [.int vs2, .int vn2])), (x1, .inr (0, [.ref x2, .int (nI ((nb + ((un / 2 ^ (lowK vn2 vs2)) + 1)) + (lowK vn2 vs2)))])), (x2, .inl (cI, 400, .inl (wrF (nI un) (lowK vn2 vs2) (wrF ((2 <<< (nI (un / 2 ^ (lowK vn2 vs2)) &&& 31)) - 2) ((un / 2 ^ (lowK vn2 vs2)) + 1) bt nb) (nb + ((un / 2 ^ (lowK vn2 vs2)) + 1)))))] := hD
        refine lv_aload hx hb d_LevelCode_writeLevel_89 (lv_at hl 2 rfl) ?_
        refine lv_iload hx hb d_LevelCode_writeLevel_91 (lv_at hl 1 rfl) ?_
        refine cs_Vv (As := [.int (nI un)]) (rest := []) (wr := [(z1, .inr (4, [.ref t1, .ref t2])), (t1, .inr (7, [.int vs, .int vn])), (x1, .inr (0, [.ref x2, .int (nI ((nb + ((un / 2 ^ (lowK vn2 vs2)) + 1)) + (lowK vn2 vs2)))])), (x2, .inl (cI, 400, .inl (wrF (nI un) (lowK vn2 vs2) (wrF ((2 <<< (nI (un / 2 ^ (lowK vn2 vs2)) &&& 31)) - 2) ((un / 2 ^ (lowK vn2 vs2)) + 1) bt nb) (nb + ((un / 2 ^ (lowK vn2 vs2)) + 1)))))]) ⟨hx, hb, hml, hown, hts⟩ (c_ta_learn l hcI t2 vs2 vn2 (nI un)) (cwV 1 hts (cs_gV mw_173 mw_174 mw_175 mw_156 mw_111) rfl rfl rfl ⟨rfl, hd_Tally_learn⟩ ⟨Nat.le_of_ble_eq_true rfl, Nat.le_of_ble_eq_true rfl⟩) hN hK hP hD hS hA [2] [0, 1, 3, 4] rfl rfl rfl rfl (by decide) (ci := 7) rfl rfl rfl rfl rfl hl.1 (Nat.le_of_ble_eq_true rfl) d_LevelCode_writeLevel_93 ⟨Nat.le_of_ble_eq_true rfl, Nat.le_of_ble_eq_true rfl⟩ (fun w1 H locs hw hP hD hS => ?_)
        obtain rfl := hw
        have hP : va_P D vwCl [(z1, .inr (4, [.ref t1, .ref t2])), (t1, .inr (7, [.int vs, .int vn])), (x1, .inr (0, [.ref x2, .int (nI ((nb + ((un / 2 ^ (lowK vn2 vs2)) + 1)) + (lowK vn2 vs2)))])), (x2, .inl (cI, 400, .inl (wrF (nI un) (lowK vn2 vs2) (wrF ((2 <<< (nI (un / 2 ^ (lowK vn2 vs2)) &&& 31)) - 2) ((un / 2 ^ (lowK vn2 vs2)) + 1) bt nb) (nb + ((un / 2 ^ (lowK vn2 vs2)) + 1))))), (t2, .inr (7, [.int (tlS vs2 vn2 (nI un)), .int (tlN vn2)]))] H := hP
        have hD : va_D A [(z1, .inr (4, [.ref t1, .ref t2])), (t1, .inr (7, [.int vs, .int vn])), (x1, .inr (0, [.ref x2, .int (nI ((nb + ((un / 2 ^ (lowK vn2 vs2)) + 1)) + (lowK vn2 vs2)))])), (x2, .inl (cI, 400, .inl (wrF (nI un) (lowK vn2 vs2) (wrF ((2 <<< (nI (un / 2 ^ (lowK vn2 vs2)) &&& 31)) - 2) ((un / 2 ^ (lowK vn2 vs2)) + 1) bt nb) (nb + ((un / 2 ^ (lowK vn2 vs2)) + 1))))), (t2, .inr (7, [.int (tlS vs2 vn2 (nI un)), .int (tlN vn2)]))] := hD
        have hP := hP.sub (ws' := [(z1, .inr (4, [.ref t1, .ref t2])), (t1, .inr (7, [.int vs, .int vn])), (t2, .inr (7, [.int (tlS vs2 vn2 (nI un)), .int (tlN vn2)])), (x1, .inr (0, [.ref x2, .int (nI ((nb + ((un / 2 ^ (lowK vn2 vs2)) + 1)) + (lowK vn2 vs2)))])), (x2, .inl (cI, 400, .inl (wrF (nI un) (lowK vn2 vs2) (wrF ((2 <<< (nI (un / 2 ^ (lowK vn2 vs2)) &&& 31)) - 2) ((un / 2 ^ (lowK vn2 vs2)) + 1) bt nb) (nb + ((un / 2 ^ (lowK vn2 vs2)) + 1)))))]) [0, 1, 4, 2, 3] rfl
        have hD := hD.sub (ws' := [(z1, .inr (4, [.ref t1, .ref t2])), (t1, .inr (7, [.int vs, .int vn])), (t2, .inr (7, [.int (tlS vs2 vn2 (nI un)), .int (tlN vn2)])), (x1, .inr (0, [.ref x2, .int (nI ((nb + ((un / 2 ^ (lowK vn2 vs2)) + 1)) + (lowK vn2 vs2)))])), (x2, .inl (cI, 400, .inl (wrF (nI un) (lowK vn2 vs2) (wrF ((2 <<< (nI (un / 2 ^ (lowK vn2 vs2)) &&& 31)) - 2) ((un / 2 ^ (lowK vn2 vs2)) + 1) bt nb) (nb + ((un / 2 ^ (lowK vn2 vs2)) + 1)))))]) [0, 1, 4, 2, 3] (by decide) rfl
        exact W.vret hx hb hr (fun t ht hW => ⟨⟨[(z1, .inr (4, [.ref t1, .ref t2])), (t1, .inr (7, [.int vs, .int vn])), (t2, .inr (7, [.int (tlS vs2 vn2 (nI un)), .int (tlN vn2)])), (x1, .inr (0, [.ref x2, .int (nI ((nb + ((un / 2 ^ (lowK vn2 vs2)) + 1)) + (lowK vn2 vs2)))])), (x2, .inl (cI, 400, .inl (wrF (nI un) (lowK vn2 vs2) (wrF ((2 <<< (nI (un / 2 ^ (lowK vn2 vs2)) &&& 31)) - 2) ((un / 2 ^ (lowK vn2 vs2)) + 1) bt nb) (nb + ((un / 2 ^ (lowK vn2 vs2)) + 1)))))], rfl, (show _ = _ from (by rw [hK0, wrU, if_pos h12]; simp [hix])), by rw [ht]; exact hP, va_K.moved hW.alike hK, hD⟩, hS.F ht⟩) hS.2.2 d_LevelCode_writeLevel_96
      · have h12 : ¬ un / 2 ^ (lowK vn2 vs2) < 12 := fun h => c_49 (nI_lt (a := un / 2 ^ (lowK vn2 vs2)) (b := 12) h (by decide))
        refine lv_aload_n hx hb d_LevelCode_writeLevel_52 rfl (lv_at hl 4 rfl) ?_
        refine lv_sipush (v := 4095) hx hb d_LevelCode_writeLevel_53 (by decide) ?_
        refine lv_bipush (v := 12) hx hb d_LevelCode_writeLevel_56 (by decide) ?_
        refine cs_Vv (As := [.int 4095, .int 12]) (rest := []) (wr := [(z1, .inr (4, [.ref t1, .ref t2])), (t1, .inr (7, [.int vs, .int vn])), (t2, .inr (7, [.int vs2, .int vn2]))]) ⟨hx, hb, hml, hown, hts⟩ (c_bw_write l hcI x1 x2 bt nb 4095 12 (by omega)) (cwV 2 hts (cs_gV mw_172 mw_121 mw_122 mw_119 mw_117) rfl rfl rfl ⟨rfl, hd_BitWriter_write⟩ ⟨Nat.le_of_ble_eq_true rfl, Nat.le_of_ble_eq_true rfl⟩) hN hK hP hD hS hA [2, 3] [0, 1, 4] rfl rfl rfl rfl (by decide) (ci := 0) rfl rfl rfl rfl rfl hl.1 (Nat.le_of_ble_eq_true rfl) d_LevelCode_writeLevel_58 ⟨Nat.le_of_ble_eq_true rfl, Nat.le_of_ble_eq_true rfl⟩ (fun w1 H locs hw hP hD hS => ?_)
        obtain rfl := hw
        have hP : va_P D vwCl [(z1, .inr (4, [.ref t1, .ref t2])), (t1, .inr (7, [.int vs, .int vn])), (t2, .inr (7, [.int vs2, .int vn2])), (x1, .inr (0, [.ref x2, .int (nI (nb + 12))])), (x2, .inl (cI, 400, .inl (wrF 4095 12 bt nb)))] H := hP
        have hD : va_D A [(z1, .inr (4, [.ref t1, .ref t2])), (t1, .inr (7, [.int vs, .int vn])), (t2, .inr (7, [.int vs2, .int vn2])), (x1, .inr (0, [.ref x2, .int (nI (nb + 12))])), (x2, .inl (cI, 400, .inl (wrF 4095 12 bt nb)))] := hD
        refine lv_aload_n hx hb d_LevelCode_writeLevel_61 rfl (lv_at hl 4 rfl) ?_
        refine lv_iload hx hb d_LevelCode_writeLevel_62 (lv_at hl 1 rfl) ?_
        refine lv_bipush (v := 14) hx hb d_LevelCode_writeLevel_64 (by decide) ?_
        refine cs_Vv (As := [.int (nI un), .int 14]) (rest := []) (wr := [(z1, .inr (4, [.ref t1, .ref t2])), (t1, .inr (7, [.int vs, .int vn])), (t2, .inr (7, [.int vs2, .int vn2]))]) ⟨hx, hb, hml, hown, hts⟩ (c_bw_write l hcI x1 x2 (wrF 4095 12 bt nb) (nb + 12) (nI un) 14 (by omega)) (cwV 2 hts (cs_gV mw_172 mw_121 mw_122 mw_119 mw_117) rfl rfl rfl ⟨rfl, hd_BitWriter_write⟩ ⟨Nat.le_of_ble_eq_true rfl, Nat.le_of_ble_eq_true rfl⟩) hN hK hP hD hS hA [3, 4] [0, 1, 2] rfl rfl rfl rfl (by decide) (ci := 0) rfl rfl rfl rfl rfl hl.1 (Nat.le_of_ble_eq_true rfl) d_LevelCode_writeLevel_66 ⟨Nat.le_of_ble_eq_true rfl, Nat.le_of_ble_eq_true rfl⟩ (fun w1 H locs hw hP hD hS => ?_)
        obtain rfl := hw
        have hP : va_P D vwCl [(z1, .inr (4, [.ref t1, .ref t2])), (t1, .inr (7, [.int vs, .int vn])), (t2, .inr (7, [.int vs2, .int vn2])), (x1, .inr (0, [.ref x2, .int (nI ((nb + 12) + 14))])), (x2, .inl (cI, 400, .inl (wrF (nI un) 14 (wrF 4095 12 bt nb) (nb + 12))))] H := hP
        have hD : va_D A [(z1, .inr (4, [.ref t1, .ref t2])), (t1, .inr (7, [.int vs, .int vn])), (t2, .inr (7, [.int vs2, .int vn2])), (x1, .inr (0, [.ref x2, .int (nI ((nb + 12) + 14))])), (x2, .inl (cI, 400, .inl (wrF (nI un) 14 (wrF 4095 12 bt nb) (nb + 12))))] := hD
        refine lv_goto (tgt := 89) hx hb d_LevelCode_writeLevel_69 (by decide) ?_
        refine lv_aload hx hb d_LevelCode_writeLevel_89 (lv_at hl 2 rfl) ?_
        refine lv_iload hx hb d_LevelCode_writeLevel_91 (lv_at hl 1 rfl) ?_
        refine cs_Vv (As := [.int (nI un)]) (rest := []) (wr := [(z1, .inr (4, [.ref t1, .ref t2])), (t1, .inr (7, [.int vs, .int vn])), (x1, .inr (0, [.ref x2, .int (nI ((nb + 12) + 14))])), (x2, .inl (cI, 400, .inl (wrF (nI un) 14 (wrF 4095 12 bt nb) (nb + 12))))]) ⟨hx, hb, hml, hown, hts⟩ (c_ta_learn l hcI t2 vs2 vn2 (nI un)) (cwV 1 hts (cs_gV mw_173 mw_174 mw_175 mw_156 mw_111) rfl rfl rfl ⟨rfl, hd_Tally_learn⟩ ⟨Nat.le_of_ble_eq_true rfl, Nat.le_of_ble_eq_true rfl⟩) hN hK hP hD hS hA [2] [0, 1, 3, 4] rfl rfl rfl rfl (by decide) (ci := 7) rfl rfl rfl rfl rfl hl.1 (Nat.le_of_ble_eq_true rfl) d_LevelCode_writeLevel_93 ⟨Nat.le_of_ble_eq_true rfl, Nat.le_of_ble_eq_true rfl⟩ (fun w1 H locs hw hP hD hS => ?_)
        obtain rfl := hw
        have hP : va_P D vwCl [(z1, .inr (4, [.ref t1, .ref t2])), (t1, .inr (7, [.int vs, .int vn])), (x1, .inr (0, [.ref x2, .int (nI ((nb + 12) + 14))])), (x2, .inl (cI, 400, .inl (wrF (nI un) 14 (wrF 4095 12 bt nb) (nb + 12)))), (t2, .inr (7, [.int (tlS vs2 vn2 (nI un)), .int (tlN vn2)]))] H := hP
        have hD : va_D A [(z1, .inr (4, [.ref t1, .ref t2])), (t1, .inr (7, [.int vs, .int vn])), (x1, .inr (0, [.ref x2, .int (nI ((nb + 12) + 14))])), (x2, .inl (cI, 400, .inl (wrF (nI un) 14 (wrF 4095 12 bt nb) (nb + 12)))), (t2, .inr (7, [.int (tlS vs2 vn2 (nI un)), .int (tlN vn2)]))] := hD
        have hP := hP.sub (ws' := [(z1, .inr (4, [.ref t1, .ref t2])), (t1, .inr (7, [.int vs, .int vn])), (t2, .inr (7, [.int (tlS vs2 vn2 (nI un)), .int (tlN vn2)])), (x1, .inr (0, [.ref x2, .int (nI ((nb + 12) + 14))])), (x2, .inl (cI, 400, .inl (wrF (nI un) 14 (wrF 4095 12 bt nb) (nb + 12))))]) [0, 1, 4, 2, 3] rfl
        have hD := hD.sub (ws' := [(z1, .inr (4, [.ref t1, .ref t2])), (t1, .inr (7, [.int vs, .int vn])), (t2, .inr (7, [.int (tlS vs2 vn2 (nI un)), .int (tlN vn2)])), (x1, .inr (0, [.ref x2, .int (nI ((nb + 12) + 14))])), (x2, .inl (cI, 400, .inl (wrF (nI un) 14 (wrF 4095 12 bt nb) (nb + 12))))]) [0, 1, 4, 2, 3] (by decide) rfl
        exact W.vret hx hb hr (fun t ht hW => ⟨⟨[(z1, .inr (4, [.ref t1, .ref t2])), (t1, .inr (7, [.int vs, .int vn])), (t2, .inr (7, [.int (tlS vs2 vn2 (nI un)), .int (tlN vn2)])), (x1, .inr (0, [.ref x2, .int (nI ((nb + 12) + 14))])), (x2, .inl (cI, 400, .inl (wrF (nI un) 14 (wrF 4095 12 bt nb) (nb + 12))))], rfl, (show _ = _ from (by rw [hK0, wrU, if_neg h12]; simp [hix])), by rw [ht]; exact hP, va_K.moved hW.alike hK, hD⟩, hS.F ht⟩) hS.2.2 d_LevelCode_writeLevel_96
  · have hix : ix = 0 := cs_nz0 c_1 (by omega)
    have hK0 : lcK ix vs vn vs2 vn2 = lowK vn vs := if_pos hix
    have hK1 := lowK_le vn vs
    refine lv_aload_n hx hb d_LevelCode_writeLevel_4 rfl (lv_at hl 0 rfl) ?_
    refine va_get (D := D) (ci := 4) (v := .ref t1) (C := "TileForge$LevelCode") (T := T_LevelCode) (N := 2) hx hb hts (cs_in in_LevelCode) hown hK hP 0 rfl rfl 0 (by decide) (hts _ (cs_m mw_158)) (fun _ h9 => h9) rfl d_LevelCode_writeLevel_5 ?_
    refine lv_goto (tgt := 15) hx hb d_LevelCode_writeLevel_8 (by decide) ?_
    refine lv_astore (lv' := [(4, .ref t1), (0, .ref z1), (1, .ref x1), (2, .int (nI ix)), (3, .int lev)]) hx hb d_LevelCode_writeLevel_15 hl (by decide) rfl (fun ls hl => ?_)
    refine lv_iload_n hx hb d_LevelCode_writeLevel_17 rfl (lv_at hl 4 rfl) ?_
    refine lv_if_le (tgt := 29) hx hb d_LevelCode_writeLevel_18 (by decide) (fun c_18 => ?_) (fun c_18 => ?_)
    · refine lv_bipush (v := (-2)) hx hb d_LevelCode_writeLevel_29 (by decide) ?_
      refine lv_iload_n hx hb d_LevelCode_writeLevel_31 rfl (lv_at hl 4 rfl) ?_
      refine lv_imul hx hb d_LevelCode_writeLevel_32 ?_
      refine cs_top (y := nI un) (by rw [← hu]; simp [c_18]) ?_
      refine lv_istore (lv' := [(5, .int (nI un)), (4, .ref t1), (0, .ref z1), (1, .ref x1), (2, .int (nI ix)), (3, .int lev)]) hx hb d_LevelCode_writeLevel_33 hl (by decide) rfl (fun ls hl => ?_)
      refine lv_aload hx hb d_LevelCode_writeLevel_35 (lv_at hl 1 rfl) ?_
      refine cs_Vi (As := []) (rest := []) (wr := [(z1, .inr (4, [.ref t1, .ref t2])), (t2, .inr (7, [.int vs2, .int vn2])), (x1, .inr (0, [.ref x2, .int (nI nb)])), (x2, .inl (cI, 400, .inl bt))]) ⟨hx, hb, hml, hown, hts⟩ (c_ta_low l hcI t1 vs vn) (cwV 0 hts (cs_gV mw_166 mw_167 mw_168 mw_156 mw_110) rfl rfl rfl ⟨rfl, hd_Tally_lowBits⟩ ⟨Nat.le_of_ble_eq_true rfl, Nat.le_of_ble_eq_true rfl⟩) hN hK hP hD hS hA [1] [0, 2, 3, 4] rfl rfl rfl rfl (by decide) (ci := 7) rfl rfl rfl rfl rfl hl.1 (Nat.le_of_ble_eq_true rfl) d_LevelCode_writeLevel_37 ⟨Nat.le_of_ble_eq_true rfl, Nat.le_of_ble_eq_true rfl⟩ (fun r15 w1 H locs hw hP hD hS => ?_)
      obtain ⟨rfl, rfl⟩ := hw
      have hP : va_P D vwCl [(z1, .inr (4, [.ref t1, .ref t2])), (t2, .inr (7, [.int vs2, .int vn2])), (x1, .inr (0, [.ref x2, .int (nI nb)])), (x2, .inl (cI, 400, .inl bt)), (t1, .inr (7, [.int vs, .int vn]))] H := hP
      have hD : va_D A [(z1, .inr (4, [.ref t1, .ref t2])), (t2, .inr (7, [.int vs2, .int vn2])), (x1, .inr (0, [.ref x2, .int (nI nb)])), (x2, .inl (cI, 400, .inl bt)), (t1, .inr (7, [.int vs, .int vn]))] := hD
      refine lv_istore (lv' := [(6, .int (nI (lowK vn vs))), (5, .int (nI un)), (4, .ref t1), (0, .ref z1), (1, .ref x1), (2, .int (nI ix)), (3, .int lev)]) hx hb d_LevelCode_writeLevel_40 hl (by decide) rfl (fun ls hl => ?_)
      refine lv_iload hx hb d_LevelCode_writeLevel_42 (lv_at hl 1 rfl) ?_
      refine lv_iload hx hb d_LevelCode_writeLevel_44 (lv_at hl 0 rfl) ?_
      refine lv_ishr hx hb d_LevelCode_writeLevel_46 ?_
      refine cs_top (y := nI (un / 2 ^ (lowK vn vs))) (cs_shr hK1 (by omega)) ?_
      refine lv_bipush (v := 12) hx hb d_LevelCode_writeLevel_47 (by decide) ?_
      refine lv_icmp_lt (tgt := 72) hx hb d_LevelCode_writeLevel_49 (by decide) (fun c_49 => ?_) (fun c_49 => ?_)
      · have h12 : un / 2 ^ (lowK vn vs) < 12 := (nI_ltI (a := un / 2 ^ (lowK vn vs)) (b := 12) (by have := Nat.div_le_self un (2 ^ (lowK vn vs)); omega) (by decide)).mp c_49
        refine lv_aload_n hx hb d_LevelCode_writeLevel_72 rfl (lv_at hl 4 rfl) ?_
        refine lv_iload hx hb d_LevelCode_writeLevel_73 (lv_at hl 1 rfl) ?_
        refine lv_iload hx hb d_LevelCode_writeLevel_75 (lv_at hl 0 rfl) ?_
        refine lv_ishr hx hb d_LevelCode_writeLevel_77 ?_
        refine cs_top (y := nI (un / 2 ^ (lowK vn vs))) (cs_shr hK1 (by omega)) ?_
        refine cs_Vv (As := [.int (nI (un / 2 ^ (lowK vn vs)))]) (rest := []) (wr := [(z1, .inr (4, [.ref t1, .ref t2])), (t2, .inr (7, [.int vs2, .int vn2])), (t1, .inr (7, [.int vs, .int vn]))]) ⟨hx, hb, hml, hown, hts⟩ (c_bw_ones l hcI x1 x2 bt nb (un / 2 ^ (lowK vn vs)) (by omega)) (cwV 1 hts (cs_gV mw_169 mw_170 mw_171 mw_119 mw_118) rfl rfl rfl ⟨rfl, hd_BitWriter_writeOnesAndZero⟩ ⟨Nat.le_of_ble_eq_true rfl, Nat.le_of_ble_eq_true rfl⟩) hN hK hP hD hS hA [2, 3] [0, 1, 4] rfl rfl rfl rfl (by decide) (ci := 0) rfl rfl rfl rfl rfl hl.1 (Nat.le_of_ble_eq_true rfl) d_LevelCode_writeLevel_78 ⟨Nat.le_of_ble_eq_true rfl, Nat.le_of_ble_eq_true rfl⟩ (fun w1 H locs hw hP hD hS => ?_)
        obtain rfl := hw
        have hP : va_P D vwCl [(z1, .inr (4, [.ref t1, .ref t2])), (t2, .inr (7, [.int vs2, .int vn2])), (t1, .inr (7, [.int vs, .int vn])), (x1, .inr (0, [.ref x2, .int (nI (nb + ((un / 2 ^ (lowK vn vs)) + 1)))])), (x2, .inl (cI, 400, .inl (wrF ((2 <<< (nI (un / 2 ^ (lowK vn vs)) &&& 31)) - 2) ((un / 2 ^ (lowK vn vs)) + 1) bt nb)))] H := hP
        have hD : va_D A [(z1, .inr (4, [.ref t1, .ref t2])), (t2, .inr (7, [.int vs2, .int vn2])), (t1, .inr (7, [.int vs, .int vn])), (x1, .inr (0, [.ref x2, .int (nI (nb + ((un / 2 ^ (lowK vn vs)) + 1)))])), (x2, .inl (cI, 400, .inl (wrF ((2 <<< (nI (un / 2 ^ (lowK vn vs)) &&& 31)) - 2) ((un / 2 ^ (lowK vn vs)) + 1) bt nb)))] := hD
        refine lv_aload_n hx hb d_LevelCode_writeLevel_81 rfl (lv_at hl 4 rfl) ?_
        refine lv_iload hx hb d_LevelCode_writeLevel_82 (lv_at hl 1 rfl) ?_
        refine lv_iload hx hb d_LevelCode_writeLevel_84 (lv_at hl 0 rfl) ?_
        refine cs_Vv (As := [.int (nI un), .int (nI (lowK vn vs))]) (rest := []) (wr := [(z1, .inr (4, [.ref t1, .ref t2])), (t2, .inr (7, [.int vs2, .int vn2])), (t1, .inr (7, [.int vs, .int vn]))]) ⟨hx, hb, hml, hown, hts⟩ (c_bw_write l hcI x1 x2 (wrF ((2 <<< (nI (un / 2 ^ (lowK vn vs)) &&& 31)) - 2) ((un / 2 ^ (lowK vn vs)) + 1) bt nb) (nb + ((un / 2 ^ (lowK vn vs)) + 1)) (nI un) (lowK vn vs) (by omega)) (cwV 2 hts (cs_gV mw_172 mw_121 mw_122 mw_119 mw_117) rfl rfl rfl ⟨rfl, hd_BitWriter_write⟩ ⟨Nat.le_of_ble_eq_true rfl, Nat.le_of_ble_eq_true rfl⟩) hN hK hP hD hS hA [3, 4] [0, 1, 2] rfl rfl rfl rfl (by decide) (ci := 0) rfl rfl rfl rfl rfl hl.1 (Nat.le_of_ble_eq_true rfl) d_LevelCode_writeLevel_86 ⟨Nat.le_of_ble_eq_true rfl, Nat.le_of_ble_eq_true rfl⟩ (fun w1 H locs hw hP hD hS => ?_)
        obtain rfl := hw
        have hP : va_P D vwCl [(z1, .inr (4, [.ref t1, .ref t2])), (t2, .inr (7, [.int vs2, .int vn2])), (t1, .inr (7, [.int vs, .int vn])), (x1, .inr (0, [.ref x2, .int (nI ((nb + ((un / 2 ^ (lowK vn vs)) + 1)) + (lowK vn vs)))])), (x2, .inl (cI, 400, .inl (wrF (nI un) (lowK vn vs) (wrF ((2 <<< (nI (un / 2 ^ (lowK vn vs)) &&& 31)) - 2) ((un / 2 ^ (lowK vn vs)) + 1) bt nb) (nb + ((un / 2 ^ (lowK vn vs)) + 1)))))] H := hP
        have hD : va_D A [(z1, .inr (4, [.ref t1, .ref t2])), (t2, .inr (7, [.int vs2, .int vn2])), (t1, .inr (7, [.int vs, .int vn])), (x1, .inr (0, [.ref x2, .int (nI ((nb + ((un / 2 ^ (lowK vn vs)) + 1)) + (lowK vn vs)))])), (x2, .inl (cI, 400, .inl (wrF (nI un) (lowK vn vs) (wrF ((2 <<< (nI (un / 2 ^ (lowK vn vs)) &&& 31)) - 2) ((un / 2 ^ (lowK vn vs)) + 1) bt nb) (nb + ((un / 2 ^ (lowK vn vs)) + 1)))))] := hD
        refine lv_aload hx hb d_LevelCode_writeLevel_89 (lv_at hl 2 rfl) ?_
        refine lv_iload hx hb d_LevelCode_writeLevel_91 (lv_at hl 1 rfl) ?_
        refine cs_Vv (As := [.int (nI un)]) (rest := []) (wr := [(z1, .inr (4, [.ref t1, .ref t2])), (t2, .inr (7, [.int vs2, .int vn2])), (x1, .inr (0, [.ref x2, .int (nI ((nb + ((un / 2 ^ (lowK vn vs)) + 1)) + (lowK vn vs)))])), (x2, .inl (cI, 400, .inl (wrF (nI un) (lowK vn vs) (wrF ((2 <<< (nI (un / 2 ^ (lowK vn vs)) &&& 31)) - 2) ((un / 2 ^ (lowK vn vs)) + 1) bt nb) (nb + ((un / 2 ^ (lowK vn vs)) + 1)))))]) ⟨hx, hb, hml, hown, hts⟩ (c_ta_learn l hcI t1 vs vn (nI un)) (cwV 1 hts (cs_gV mw_173 mw_174 mw_175 mw_156 mw_111) rfl rfl rfl ⟨rfl, hd_Tally_learn⟩ ⟨Nat.le_of_ble_eq_true rfl, Nat.le_of_ble_eq_true rfl⟩) hN hK hP hD hS hA [2] [0, 1, 3, 4] rfl rfl rfl rfl (by decide) (ci := 7) rfl rfl rfl rfl rfl hl.1 (Nat.le_of_ble_eq_true rfl) d_LevelCode_writeLevel_93 ⟨Nat.le_of_ble_eq_true rfl, Nat.le_of_ble_eq_true rfl⟩ (fun w1 H locs hw hP hD hS => ?_)
        obtain rfl := hw
        have hP : va_P D vwCl [(z1, .inr (4, [.ref t1, .ref t2])), (t2, .inr (7, [.int vs2, .int vn2])), (x1, .inr (0, [.ref x2, .int (nI ((nb + ((un / 2 ^ (lowK vn vs)) + 1)) + (lowK vn vs)))])), (x2, .inl (cI, 400, .inl (wrF (nI un) (lowK vn vs) (wrF ((2 <<< (nI (un / 2 ^ (lowK vn vs)) &&& 31)) - 2) ((un / 2 ^ (lowK vn vs)) + 1) bt nb) (nb + ((un / 2 ^ (lowK vn vs)) + 1))))), (t1, .inr (7, [.int (tlS vs vn (nI un)), .int (tlN vn)]))] H := hP
        have hD : va_D A [(z1, .inr (4, [.ref t1, .ref t2])), (t2, .inr (7, [.int vs2, .int vn2])), (x1, .inr (0, [.ref x2, .int (nI ((nb + ((un / 2 ^ (lowK vn vs)) + 1)) + (lowK vn vs)))])), (x2, .inl (cI, 400, .inl (wrF (nI un) (lowK vn vs) (wrF ((2 <<< (nI (un / 2 ^ (lowK vn vs)) &&& 31)) - 2) ((un / 2 ^ (lowK vn vs)) + 1) bt nb) (nb + ((un / 2 ^ (lowK vn vs)) + 1))))), (t1, .inr (7, [.int (tlS vs vn (nI un)), .int (tlN vn)]))] := hD
        have hP := hP.sub (ws' := [(z1, .inr (4, [.ref t1, .ref t2])), (t1, .inr (7, [.int (tlS vs vn (nI un)), .int (tlN vn)])), (t2, .inr (7, [.int vs2, .int vn2])), (x1, .inr (0, [.ref x2, .int (nI ((nb + ((un / 2 ^ (lowK vn vs)) + 1)) + (lowK vn vs)))])), (x2, .inl (cI, 400, .inl (wrF (nI un) (lowK vn vs) (wrF ((2 <<< (nI (un / 2 ^ (lowK vn vs)) &&& 31)) - 2) ((un / 2 ^ (lowK vn vs)) + 1) bt nb) (nb + ((un / 2 ^ (lowK vn vs)) + 1)))))]) [0, 4, 1, 2, 3] rfl
        have hD := hD.sub (ws' := [(z1, .inr (4, [.ref t1, .ref t2])), (t1, .inr (7, [.int (tlS vs vn (nI un)), .int (tlN vn)])), (t2, .inr (7, [.int vs2, .int vn2])), (x1, .inr (0, [.ref x2, .int (nI ((nb + ((un / 2 ^ (lowK vn vs)) + 1)) + (lowK vn vs)))])), (x2, .inl (cI, 400, .inl (wrF (nI un) (lowK vn vs) (wrF ((2 <<< (nI (un / 2 ^ (lowK vn vs)) &&& 31)) - 2) ((un / 2 ^ (lowK vn vs)) + 1) bt nb) (nb + ((un / 2 ^ (lowK vn vs)) + 1)))))]) [0, 4, 1, 2, 3] (by decide) rfl
        exact W.vret hx hb hr (fun t ht hW => ⟨⟨[(z1, .inr (4, [.ref t1, .ref t2])), (t1, .inr (7, [.int (tlS vs vn (nI un)), .int (tlN vn)])), (t2, .inr (7, [.int vs2, .int vn2])), (x1, .inr (0, [.ref x2, .int (nI ((nb + ((un / 2 ^ (lowK vn vs)) + 1)) + (lowK vn vs)))])), (x2, .inl (cI, 400, .inl (wrF (nI un) (lowK vn vs) (wrF ((2 <<< (nI (un / 2 ^ (lowK vn vs)) &&& 31)) - 2) ((un / 2 ^ (lowK vn vs)) + 1) bt nb) (nb + ((un / 2 ^ (lowK vn vs)) + 1)))))], rfl, (show _ = _ from (by rw [hK0, wrU, if_pos h12]; simp [hix])), by rw [ht]; exact hP, va_K.moved hW.alike hK, hD⟩, hS.F ht⟩) hS.2.2 d_LevelCode_writeLevel_96
      · have h12 : ¬ un / 2 ^ (lowK vn vs) < 12 := fun h => c_49 (nI_lt (a := un / 2 ^ (lowK vn vs)) (b := 12) h (by decide))
        refine lv_aload_n hx hb d_LevelCode_writeLevel_52 rfl (lv_at hl 4 rfl) ?_
        refine lv_sipush (v := 4095) hx hb d_LevelCode_writeLevel_53 (by decide) ?_
        refine lv_bipush (v := 12) hx hb d_LevelCode_writeLevel_56 (by decide) ?_
        refine cs_Vv (As := [.int 4095, .int 12]) (rest := []) (wr := [(z1, .inr (4, [.ref t1, .ref t2])), (t2, .inr (7, [.int vs2, .int vn2])), (t1, .inr (7, [.int vs, .int vn]))]) ⟨hx, hb, hml, hown, hts⟩ (c_bw_write l hcI x1 x2 bt nb 4095 12 (by omega)) (cwV 2 hts (cs_gV mw_172 mw_121 mw_122 mw_119 mw_117) rfl rfl rfl ⟨rfl, hd_BitWriter_write⟩ ⟨Nat.le_of_ble_eq_true rfl, Nat.le_of_ble_eq_true rfl⟩) hN hK hP hD hS hA [2, 3] [0, 1, 4] rfl rfl rfl rfl (by decide) (ci := 0) rfl rfl rfl rfl rfl hl.1 (Nat.le_of_ble_eq_true rfl) d_LevelCode_writeLevel_58 ⟨Nat.le_of_ble_eq_true rfl, Nat.le_of_ble_eq_true rfl⟩ (fun w1 H locs hw hP hD hS => ?_)
        obtain rfl := hw
        have hP : va_P D vwCl [(z1, .inr (4, [.ref t1, .ref t2])), (t2, .inr (7, [.int vs2, .int vn2])), (t1, .inr (7, [.int vs, .int vn])), (x1, .inr (0, [.ref x2, .int (nI (nb + 12))])), (x2, .inl (cI, 400, .inl (wrF 4095 12 bt nb)))] H := hP
        have hD : va_D A [(z1, .inr (4, [.ref t1, .ref t2])), (t2, .inr (7, [.int vs2, .int vn2])), (t1, .inr (7, [.int vs, .int vn])), (x1, .inr (0, [.ref x2, .int (nI (nb + 12))])), (x2, .inl (cI, 400, .inl (wrF 4095 12 bt nb)))] := hD
        refine lv_aload_n hx hb d_LevelCode_writeLevel_61 rfl (lv_at hl 4 rfl) ?_
        refine lv_iload hx hb d_LevelCode_writeLevel_62 (lv_at hl 1 rfl) ?_
        refine lv_bipush (v := 14) hx hb d_LevelCode_writeLevel_64 (by decide) ?_
        refine cs_Vv (As := [.int (nI un), .int 14]) (rest := []) (wr := [(z1, .inr (4, [.ref t1, .ref t2])), (t2, .inr (7, [.int vs2, .int vn2])), (t1, .inr (7, [.int vs, .int vn]))]) ⟨hx, hb, hml, hown, hts⟩ (c_bw_write l hcI x1 x2 (wrF 4095 12 bt nb) (nb + 12) (nI un) 14 (by omega)) (cwV 2 hts (cs_gV mw_172 mw_121 mw_122 mw_119 mw_117) rfl rfl rfl ⟨rfl, hd_BitWriter_write⟩ ⟨Nat.le_of_ble_eq_true rfl, Nat.le_of_ble_eq_true rfl⟩) hN hK hP hD hS hA [3, 4] [0, 1, 2] rfl rfl rfl rfl (by decide) (ci := 0) rfl rfl rfl rfl rfl hl.1 (Nat.le_of_ble_eq_true rfl) d_LevelCode_writeLevel_66 ⟨Nat.le_of_ble_eq_true rfl, Nat.le_of_ble_eq_true rfl⟩ (fun w1 H locs hw hP hD hS => ?_)
        obtain rfl := hw
        have hP : va_P D vwCl [(z1, .inr (4, [.ref t1, .ref t2])), (t2, .inr (7, [.int vs2, .int vn2])), (t1, .inr (7, [.int vs, .int vn])), (x1, .inr (0, [.ref x2, .int (nI ((nb + 12) + 14))])), (x2, .inl (cI, 400, .inl (wrF (nI un) 14 (wrF 4095 12 bt nb) (nb + 12))))] H := hP
        have hD : va_D A [(z1, .inr (4, [.ref t1, .ref t2])), (t2, .inr (7, [.int vs2, .int vn2])), (t1, .inr (7, [.int vs, .int vn])), (x1, .inr (0, [.ref x2, .int (nI ((nb + 12) + 14))])), (x2, .inl (cI, 400, .inl (wrF (nI un) 14 (wrF 4095 12 bt nb) (nb + 12))))] := hD
        refine lv_goto (tgt := 89) hx hb d_LevelCode_writeLevel_69 (by decide) ?_
        refine lv_aload hx hb d_LevelCode_writeLevel_89 (lv_at hl 2 rfl) ?_
        refine lv_iload hx hb d_LevelCode_writeLevel_91 (lv_at hl 1 rfl) ?_
        refine cs_Vv (As := [.int (nI un)]) (rest := []) (wr := [(z1, .inr (4, [.ref t1, .ref t2])), (t2, .inr (7, [.int vs2, .int vn2])), (x1, .inr (0, [.ref x2, .int (nI ((nb + 12) + 14))])), (x2, .inl (cI, 400, .inl (wrF (nI un) 14 (wrF 4095 12 bt nb) (nb + 12))))]) ⟨hx, hb, hml, hown, hts⟩ (c_ta_learn l hcI t1 vs vn (nI un)) (cwV 1 hts (cs_gV mw_173 mw_174 mw_175 mw_156 mw_111) rfl rfl rfl ⟨rfl, hd_Tally_learn⟩ ⟨Nat.le_of_ble_eq_true rfl, Nat.le_of_ble_eq_true rfl⟩) hN hK hP hD hS hA [2] [0, 1, 3, 4] rfl rfl rfl rfl (by decide) (ci := 7) rfl rfl rfl rfl rfl hl.1 (Nat.le_of_ble_eq_true rfl) d_LevelCode_writeLevel_93 ⟨Nat.le_of_ble_eq_true rfl, Nat.le_of_ble_eq_true rfl⟩ (fun w1 H locs hw hP hD hS => ?_)
        obtain rfl := hw
        have hP : va_P D vwCl [(z1, .inr (4, [.ref t1, .ref t2])), (t2, .inr (7, [.int vs2, .int vn2])), (x1, .inr (0, [.ref x2, .int (nI ((nb + 12) + 14))])), (x2, .inl (cI, 400, .inl (wrF (nI un) 14 (wrF 4095 12 bt nb) (nb + 12)))), (t1, .inr (7, [.int (tlS vs vn (nI un)), .int (tlN vn)]))] H := hP
        have hD : va_D A [(z1, .inr (4, [.ref t1, .ref t2])), (t2, .inr (7, [.int vs2, .int vn2])), (x1, .inr (0, [.ref x2, .int (nI ((nb + 12) + 14))])), (x2, .inl (cI, 400, .inl (wrF (nI un) 14 (wrF 4095 12 bt nb) (nb + 12)))), (t1, .inr (7, [.int (tlS vs vn (nI un)), .int (tlN vn)]))] := hD
        have hP := hP.sub (ws' := [(z1, .inr (4, [.ref t1, .ref t2])), (t1, .inr (7, [.int (tlS vs vn (nI un)), .int (tlN vn)])), (t2, .inr (7, [.int vs2, .int vn2])), (x1, .inr (0, [.ref x2, .int (nI ((nb + 12) + 14))])), (x2, .inl (cI, 400, .inl (wrF (nI un) 14 (wrF 4095 12 bt nb) (nb + 12))))]) [0, 4, 1, 2, 3] rfl
        have hD := hD.sub (ws' := [(z1, .inr (4, [.ref t1, .ref t2])), (t1, .inr (7, [.int (tlS vs vn (nI un)), .int (tlN vn)])), (t2, .inr (7, [.int vs2, .int vn2])), (x1, .inr (0, [.ref x2, .int (nI ((nb + 12) + 14))])), (x2, .inl (cI, 400, .inl (wrF (nI un) 14 (wrF 4095 12 bt nb) (nb + 12))))]) [0, 4, 1, 2, 3] (by decide) rfl
        exact W.vret hx hb hr (fun t ht hW => ⟨⟨[(z1, .inr (4, [.ref t1, .ref t2])), (t1, .inr (7, [.int (tlS vs vn (nI un)), .int (tlN vn)])), (t2, .inr (7, [.int vs2, .int vn2])), (x1, .inr (0, [.ref x2, .int (nI ((nb + 12) + 14))])), (x2, .inl (cI, 400, .inl (wrF (nI un) 14 (wrF 4095 12 bt nb) (nb + 12))))], rfl, (show _ = _ from (by rw [hK0, wrU, if_neg h12]; simp [hix])), by rw [ht]; exact hP, va_K.moved hW.alike hK, hD⟩, hS.F ht⟩) hS.2.2 d_LevelCode_writeLevel_96
    · refine lv_iconst (v := 2) hx hb d_LevelCode_writeLevel_21 (by decide) ?_
      refine lv_iload_n hx hb d_LevelCode_writeLevel_22 rfl (lv_at hl 4 rfl) ?_
      refine lv_imul hx hb d_LevelCode_writeLevel_23 ?_
      refine lv_iconst (v := 1) hx hb d_LevelCode_writeLevel_24 (by decide) ?_
      refine lv_isub hx hb d_LevelCode_writeLevel_25 ?_
      refine lv_goto (tgt := 33) hx hb d_LevelCode_writeLevel_26 (by decide) ?_
      refine cs_top (y := nI un) (by rw [← hu]; simp [c_18]) ?_
      refine lv_istore (lv' := [(5, .int (nI un)), (4, .ref t1), (0, .ref z1), (1, .ref x1), (2, .int (nI ix)), (3, .int lev)]) hx hb d_LevelCode_writeLevel_33 hl (by decide) rfl (fun ls hl => ?_)
      refine lv_aload hx hb d_LevelCode_writeLevel_35 (lv_at hl 1 rfl) ?_
      refine cs_Vi (As := []) (rest := []) (wr := [(z1, .inr (4, [.ref t1, .ref t2])), (t2, .inr (7, [.int vs2, .int vn2])), (x1, .inr (0, [.ref x2, .int (nI nb)])), (x2, .inl (cI, 400, .inl bt))]) ⟨hx, hb, hml, hown, hts⟩ (c_ta_low l hcI t1 vs vn) (cwV 0 hts (cs_gV mw_166 mw_167 mw_168 mw_156 mw_110) rfl rfl rfl ⟨rfl, hd_Tally_lowBits⟩ ⟨Nat.le_of_ble_eq_true rfl, Nat.le_of_ble_eq_true rfl⟩) hN hK hP hD hS hA [1] [0, 2, 3, 4] rfl rfl rfl rfl (by decide) (ci := 7) rfl rfl rfl rfl rfl hl.1 (Nat.le_of_ble_eq_true rfl) d_LevelCode_writeLevel_37 ⟨Nat.le_of_ble_eq_true rfl, Nat.le_of_ble_eq_true rfl⟩ (fun r22 w1 H locs hw hP hD hS => ?_)
      obtain ⟨rfl, rfl⟩ := hw
      have hP : va_P D vwCl [(z1, .inr (4, [.ref t1, .ref t2])), (t2, .inr (7, [.int vs2, .int vn2])), (x1, .inr (0, [.ref x2, .int (nI nb)])), (x2, .inl (cI, 400, .inl bt)), (t1, .inr (7, [.int vs, .int vn]))] H := hP
      have hD : va_D A [(z1, .inr (4, [.ref t1, .ref t2])), (t2, .inr (7, [.int vs2, .int vn2])), (x1, .inr (0, [.ref x2, .int (nI nb)])), (x2, .inl (cI, 400, .inl bt)), (t1, .inr (7, [.int vs, .int vn]))] := hD
      refine lv_istore (lv' := [(6, .int (nI (lowK vn vs))), (5, .int (nI un)), (4, .ref t1), (0, .ref z1), (1, .ref x1), (2, .int (nI ix)), (3, .int lev)]) hx hb d_LevelCode_writeLevel_40 hl (by decide) rfl (fun ls hl => ?_)
      refine lv_iload hx hb d_LevelCode_writeLevel_42 (lv_at hl 1 rfl) ?_
      refine lv_iload hx hb d_LevelCode_writeLevel_44 (lv_at hl 0 rfl) ?_
      refine lv_ishr hx hb d_LevelCode_writeLevel_46 ?_
      refine cs_top (y := nI (un / 2 ^ (lowK vn vs))) (cs_shr hK1 (by omega)) ?_
      refine lv_bipush (v := 12) hx hb d_LevelCode_writeLevel_47 (by decide) ?_
      refine lv_icmp_lt (tgt := 72) hx hb d_LevelCode_writeLevel_49 (by decide) (fun c_49 => ?_) (fun c_49 => ?_)
      · have h12 : un / 2 ^ (lowK vn vs) < 12 := (nI_ltI (a := un / 2 ^ (lowK vn vs)) (b := 12) (by have := Nat.div_le_self un (2 ^ (lowK vn vs)); omega) (by decide)).mp c_49
        refine lv_aload_n hx hb d_LevelCode_writeLevel_72 rfl (lv_at hl 4 rfl) ?_
        refine lv_iload hx hb d_LevelCode_writeLevel_73 (lv_at hl 1 rfl) ?_
        refine lv_iload hx hb d_LevelCode_writeLevel_75 (lv_at hl 0 rfl) ?_
        refine lv_ishr hx hb d_LevelCode_writeLevel_77 ?_
        refine cs_top (y := nI (un / 2 ^ (lowK vn vs))) (cs_shr hK1 (by omega)) ?_
        refine cs_Vv (As := [.int (nI (un / 2 ^ (lowK vn vs)))]) (rest := []) (wr := [(z1, .inr (4, [.ref t1, .ref t2])), (t2, .inr (7, [.int vs2, .int vn2])), (t1, .inr (7, [.int vs, .int vn]))]) ⟨hx, hb, hml, hown, hts⟩ (c_bw_ones l hcI x1 x2 bt nb (un / 2 ^ (lowK vn vs)) (by omega)) (cwV 1 hts (cs_gV mw_169 mw_170 mw_171 mw_119 mw_118) rfl rfl rfl ⟨rfl, hd_BitWriter_writeOnesAndZero⟩ ⟨Nat.le_of_ble_eq_true rfl, Nat.le_of_ble_eq_true rfl⟩) hN hK hP hD hS hA [2, 3] [0, 1, 4] rfl rfl rfl rfl (by decide) (ci := 0) rfl rfl rfl rfl rfl hl.1 (Nat.le_of_ble_eq_true rfl) d_LevelCode_writeLevel_78 ⟨Nat.le_of_ble_eq_true rfl, Nat.le_of_ble_eq_true rfl⟩ (fun w1 H locs hw hP hD hS => ?_)
        obtain rfl := hw
        have hP : va_P D vwCl [(z1, .inr (4, [.ref t1, .ref t2])), (t2, .inr (7, [.int vs2, .int vn2])), (t1, .inr (7, [.int vs, .int vn])), (x1, .inr (0, [.ref x2, .int (nI (nb + ((un / 2 ^ (lowK vn vs)) + 1)))])), (x2, .inl (cI, 400, .inl (wrF ((2 <<< (nI (un / 2 ^ (lowK vn vs)) &&& 31)) - 2) ((un / 2 ^ (lowK vn vs)) + 1) bt nb)))] H := hP
        have hD : va_D A [(z1, .inr (4, [.ref t1, .ref t2])), (t2, .inr (7, [.int vs2, .int vn2])), (t1, .inr (7, [.int vs, .int vn])), (x1, .inr (0, [.ref x2, .int (nI (nb + ((un / 2 ^ (lowK vn vs)) + 1)))])), (x2, .inl (cI, 400, .inl (wrF ((2 <<< (nI (un / 2 ^ (lowK vn vs)) &&& 31)) - 2) ((un / 2 ^ (lowK vn vs)) + 1) bt nb)))] := hD
        refine lv_aload_n hx hb d_LevelCode_writeLevel_81 rfl (lv_at hl 4 rfl) ?_
        refine lv_iload hx hb d_LevelCode_writeLevel_82 (lv_at hl 1 rfl) ?_
        refine lv_iload hx hb d_LevelCode_writeLevel_84 (lv_at hl 0 rfl) ?_
        refine cs_Vv (As := [.int (nI un), .int (nI (lowK vn vs))]) (rest := []) (wr := [(z1, .inr (4, [.ref t1, .ref t2])), (t2, .inr (7, [.int vs2, .int vn2])), (t1, .inr (7, [.int vs, .int vn]))]) ⟨hx, hb, hml, hown, hts⟩ (c_bw_write l hcI x1 x2 (wrF ((2 <<< (nI (un / 2 ^ (lowK vn vs)) &&& 31)) - 2) ((un / 2 ^ (lowK vn vs)) + 1) bt nb) (nb + ((un / 2 ^ (lowK vn vs)) + 1)) (nI un) (lowK vn vs) (by omega)) (cwV 2 hts (cs_gV mw_172 mw_121 mw_122 mw_119 mw_117) rfl rfl rfl ⟨rfl, hd_BitWriter_write⟩ ⟨Nat.le_of_ble_eq_true rfl, Nat.le_of_ble_eq_true rfl⟩) hN hK hP hD hS hA [3, 4] [0, 1, 2] rfl rfl rfl rfl (by decide) (ci := 0) rfl rfl rfl rfl rfl hl.1 (Nat.le_of_ble_eq_true rfl) d_LevelCode_writeLevel_86 ⟨Nat.le_of_ble_eq_true rfl, Nat.le_of_ble_eq_true rfl⟩ (fun w1 H locs hw hP hD hS => ?_)
        obtain rfl := hw
        have hP : va_P D vwCl [(z1, .inr (4, [.ref t1, .ref t2])), (t2, .inr (7, [.int vs2, .int vn2])), (t1, .inr (7, [.int vs, .int vn])), (x1, .inr (0, [.ref x2, .int (nI ((nb + ((un / 2 ^ (lowK vn vs)) + 1)) + (lowK vn vs)))])), (x2, .inl (cI, 400, .inl (wrF (nI un) (lowK vn vs) (wrF ((2 <<< (nI (un / 2 ^ (lowK vn vs)) &&& 31)) - 2) ((un / 2 ^ (lowK vn vs)) + 1) bt nb) (nb + ((un / 2 ^ (lowK vn vs)) + 1)))))] H := hP
        have hD : va_D A [(z1, .inr (4, [.ref t1, .ref t2])), (t2, .inr (7, [.int vs2, .int vn2])), (t1, .inr (7, [.int vs, .int vn])), (x1, .inr (0, [.ref x2, .int (nI ((nb + ((un / 2 ^ (lowK vn vs)) + 1)) + (lowK vn vs)))])), (x2, .inl (cI, 400, .inl (wrF (nI un) (lowK vn vs) (wrF ((2 <<< (nI (un / 2 ^ (lowK vn vs)) &&& 31)) - 2) ((un / 2 ^ (lowK vn vs)) + 1) bt nb) (nb + ((un / 2 ^ (lowK vn vs)) + 1)))))] := hD
        refine lv_aload hx hb d_LevelCode_writeLevel_89 (lv_at hl 2 rfl) ?_
        refine lv_iload hx hb d_LevelCode_writeLevel_91 (lv_at hl 1 rfl) ?_
        refine cs_Vv (As := [.int (nI un)]) (rest := []) (wr := [(z1, .inr (4, [.ref t1, .ref t2])), (t2, .inr (7, [.int vs2, .int vn2])), (x1, .inr (0, [.ref x2, .int (nI ((nb + ((un / 2 ^ (lowK vn vs)) + 1)) + (lowK vn vs)))])), (x2, .inl (cI, 400, .inl (wrF (nI un) (lowK vn vs) (wrF ((2 <<< (nI (un / 2 ^ (lowK vn vs)) &&& 31)) - 2) ((un / 2 ^ (lowK vn vs)) + 1) bt nb) (nb + ((un / 2 ^ (lowK vn vs)) + 1)))))]) ⟨hx, hb, hml, hown, hts⟩ (c_ta_learn l hcI t1 vs vn (nI un)) (cwV 1 hts (cs_gV mw_173 mw_174 mw_175 mw_156 mw_111) rfl rfl rfl ⟨rfl, hd_Tally_learn⟩ ⟨Nat.le_of_ble_eq_true rfl, Nat.le_of_ble_eq_true rfl⟩) hN hK hP hD hS hA [2] [0, 1, 3, 4] rfl rfl rfl rfl (by decide) (ci := 7) rfl rfl rfl rfl rfl hl.1 (Nat.le_of_ble_eq_true rfl) d_LevelCode_writeLevel_93 ⟨Nat.le_of_ble_eq_true rfl, Nat.le_of_ble_eq_true rfl⟩ (fun w1 H locs hw hP hD hS => ?_)
        obtain rfl := hw
        have hP : va_P D vwCl [(z1, .inr (4, [.ref t1, .ref t2])), (t2, .inr (7, [.int vs2, .int vn2])), (x1, .inr (0, [.ref x2, .int (nI ((nb + ((un / 2 ^ (lowK vn vs)) + 1)) + (lowK vn vs)))])), (x2, .inl (cI, 400, .inl (wrF (nI un) (lowK vn vs) (wrF ((2 <<< (nI (un / 2 ^ (lowK vn vs)) &&& 31)) - 2) ((un / 2 ^ (lowK vn vs)) + 1) bt nb) (nb + ((un / 2 ^ (lowK vn vs)) + 1))))), (t1, .inr (7, [.int (tlS vs vn (nI un)), .int (tlN vn)]))] H := hP
        have hD : va_D A [(z1, .inr (4, [.ref t1, .ref t2])), (t2, .inr (7, [.int vs2, .int vn2])), (x1, .inr (0, [.ref x2, .int (nI ((nb + ((un / 2 ^ (lowK vn vs)) + 1)) + (lowK vn vs)))])), (x2, .inl (cI, 400, .inl (wrF (nI un) (lowK vn vs) (wrF ((2 <<< (nI (un / 2 ^ (lowK vn vs)) &&& 31)) - 2) ((un / 2 ^ (lowK vn vs)) + 1) bt nb) (nb + ((un / 2 ^ (lowK vn vs)) + 1))))), (t1, .inr (7, [.int (tlS vs vn (nI un)), .int (tlN vn)]))] := hD
        have hP := hP.sub (ws' := [(z1, .inr (4, [.ref t1, .ref t2])), (t1, .inr (7, [.int (tlS vs vn (nI un)), .int (tlN vn)])), (t2, .inr (7, [.int vs2, .int vn2])), (x1, .inr (0, [.ref x2, .int (nI ((nb + ((un / 2 ^ (lowK vn vs)) + 1)) + (lowK vn vs)))])), (x2, .inl (cI, 400, .inl (wrF (nI un) (lowK vn vs) (wrF ((2 <<< (nI (un / 2 ^ (lowK vn vs)) &&& 31)) - 2) ((un / 2 ^ (lowK vn vs)) + 1) bt nb) (nb + ((un / 2 ^ (lowK vn vs)) + 1)))))]) [0, 4, 1, 2, 3] rfl
        have hD := hD.sub (ws' := [(z1, .inr (4, [.ref t1, .ref t2])), (t1, .inr (7, [.int (tlS vs vn (nI un)), .int (tlN vn)])), (t2, .inr (7, [.int vs2, .int vn2])), (x1, .inr (0, [.ref x2, .int (nI ((nb + ((un / 2 ^ (lowK vn vs)) + 1)) + (lowK vn vs)))])), (x2, .inl (cI, 400, .inl (wrF (nI un) (lowK vn vs) (wrF ((2 <<< (nI (un / 2 ^ (lowK vn vs)) &&& 31)) - 2) ((un / 2 ^ (lowK vn vs)) + 1) bt nb) (nb + ((un / 2 ^ (lowK vn vs)) + 1)))))]) [0, 4, 1, 2, 3] (by decide) rfl
        exact W.vret hx hb hr (fun t ht hW => ⟨⟨[(z1, .inr (4, [.ref t1, .ref t2])), (t1, .inr (7, [.int (tlS vs vn (nI un)), .int (tlN vn)])), (t2, .inr (7, [.int vs2, .int vn2])), (x1, .inr (0, [.ref x2, .int (nI ((nb + ((un / 2 ^ (lowK vn vs)) + 1)) + (lowK vn vs)))])), (x2, .inl (cI, 400, .inl (wrF (nI un) (lowK vn vs) (wrF ((2 <<< (nI (un / 2 ^ (lowK vn vs)) &&& 31)) - 2) ((un / 2 ^ (lowK vn vs)) + 1) bt nb) (nb + ((un / 2 ^ (lowK vn vs)) + 1)))))], rfl, (show _ = _ from (by rw [hK0, wrU, if_pos h12]; simp [hix])), by rw [ht]; exact hP, va_K.moved hW.alike hK, hD⟩, hS.F ht⟩) hS.2.2 d_LevelCode_writeLevel_96
      · have h12 : ¬ un / 2 ^ (lowK vn vs) < 12 := fun h => c_49 (nI_lt (a := un / 2 ^ (lowK vn vs)) (b := 12) h (by decide))
        refine lv_aload_n hx hb d_LevelCode_writeLevel_52 rfl (lv_at hl 4 rfl) ?_
        refine lv_sipush (v := 4095) hx hb d_LevelCode_writeLevel_53 (by decide) ?_
        refine lv_bipush (v := 12) hx hb d_LevelCode_writeLevel_56 (by decide) ?_
        refine cs_Vv (As := [.int 4095, .int 12]) (rest := []) (wr := [(z1, .inr (4, [.ref t1, .ref t2])), (t2, .inr (7, [.int vs2, .int vn2])), (t1, .inr (7, [.int vs, .int vn]))]) ⟨hx, hb, hml, hown, hts⟩ (c_bw_write l hcI x1 x2 bt nb 4095 12 (by omega)) (cwV 2 hts (cs_gV mw_172 mw_121 mw_122 mw_119 mw_117) rfl rfl rfl ⟨rfl, hd_BitWriter_write⟩ ⟨Nat.le_of_ble_eq_true rfl, Nat.le_of_ble_eq_true rfl⟩) hN hK hP hD hS hA [2, 3] [0, 1, 4] rfl rfl rfl rfl (by decide) (ci := 0) rfl rfl rfl rfl rfl hl.1 (Nat.le_of_ble_eq_true rfl) d_LevelCode_writeLevel_58 ⟨Nat.le_of_ble_eq_true rfl, Nat.le_of_ble_eq_true rfl⟩ (fun w1 H locs hw hP hD hS => ?_)
        obtain rfl := hw
        have hP : va_P D vwCl [(z1, .inr (4, [.ref t1, .ref t2])), (t2, .inr (7, [.int vs2, .int vn2])), (t1, .inr (7, [.int vs, .int vn])), (x1, .inr (0, [.ref x2, .int (nI (nb + 12))])), (x2, .inl (cI, 400, .inl (wrF 4095 12 bt nb)))] H := hP
        have hD : va_D A [(z1, .inr (4, [.ref t1, .ref t2])), (t2, .inr (7, [.int vs2, .int vn2])), (t1, .inr (7, [.int vs, .int vn])), (x1, .inr (0, [.ref x2, .int (nI (nb + 12))])), (x2, .inl (cI, 400, .inl (wrF 4095 12 bt nb)))] := hD
        refine lv_aload_n hx hb d_LevelCode_writeLevel_61 rfl (lv_at hl 4 rfl) ?_
        refine lv_iload hx hb d_LevelCode_writeLevel_62 (lv_at hl 1 rfl) ?_
        refine lv_bipush (v := 14) hx hb d_LevelCode_writeLevel_64 (by decide) ?_
        refine cs_Vv (As := [.int (nI un), .int 14]) (rest := []) (wr := [(z1, .inr (4, [.ref t1, .ref t2])), (t2, .inr (7, [.int vs2, .int vn2])), (t1, .inr (7, [.int vs, .int vn]))]) ⟨hx, hb, hml, hown, hts⟩ (c_bw_write l hcI x1 x2 (wrF 4095 12 bt nb) (nb + 12) (nI un) 14 (by omega)) (cwV 2 hts (cs_gV mw_172 mw_121 mw_122 mw_119 mw_117) rfl rfl rfl ⟨rfl, hd_BitWriter_write⟩ ⟨Nat.le_of_ble_eq_true rfl, Nat.le_of_ble_eq_true rfl⟩) hN hK hP hD hS hA [3, 4] [0, 1, 2] rfl rfl rfl rfl (by decide) (ci := 0) rfl rfl rfl rfl rfl hl.1 (Nat.le_of_ble_eq_true rfl) d_LevelCode_writeLevel_66 ⟨Nat.le_of_ble_eq_true rfl, Nat.le_of_ble_eq_true rfl⟩ (fun w1 H locs hw hP hD hS => ?_)
        obtain rfl := hw
        have hP : va_P D vwCl [(z1, .inr (4, [.ref t1, .ref t2])), (t2, .inr (7, [.int vs2, .int vn2])), (t1, .inr (7, [.int vs, .int vn])), (x1, .inr (0, [.ref x2, .int (nI ((nb + 12) + 14))])), (x2, .inl (cI, 400, .inl (wrF (nI un) 14 (wrF 4095 12 bt nb) (nb + 12))))] H := hP
        have hD : va_D A [(z1, .inr (4, [.ref t1, .ref t2])), (t2, .inr (7, [.int vs2, .int vn2])), (t1, .inr (7, [.int vs, .int vn])), (x1, .inr (0, [.ref x2, .int (nI ((nb + 12) + 14))])), (x2, .inl (cI, 400, .inl (wrF (nI un) 14 (wrF 4095 12 bt nb) (nb + 12))))] := hD
        refine lv_goto (tgt := 89) hx hb d_LevelCode_writeLevel_69 (by decide) ?_
        refine lv_aload hx hb d_LevelCode_writeLevel_89 (lv_at hl 2 rfl) ?_
        refine lv_iload hx hb d_LevelCode_writeLevel_91 (lv_at hl 1 rfl) ?_
        refine cs_Vv (As := [.int (nI un)]) (rest := []) (wr := [(z1, .inr (4, [.ref t1, .ref t2])), (t2, .inr (7, [.int vs2, .int vn2])), (x1, .inr (0, [.ref x2, .int (nI ((nb + 12) + 14))])), (x2, .inl (cI, 400, .inl (wrF (nI un) 14 (wrF 4095 12 bt nb) (nb + 12))))]) ⟨hx, hb, hml, hown, hts⟩ (c_ta_learn l hcI t1 vs vn (nI un)) (cwV 1 hts (cs_gV mw_173 mw_174 mw_175 mw_156 mw_111) rfl rfl rfl ⟨rfl, hd_Tally_learn⟩ ⟨Nat.le_of_ble_eq_true rfl, Nat.le_of_ble_eq_true rfl⟩) hN hK hP hD hS hA [2] [0, 1, 3, 4] rfl rfl rfl rfl (by decide) (ci := 7) rfl rfl rfl rfl rfl hl.1 (Nat.le_of_ble_eq_true rfl) d_LevelCode_writeLevel_93 ⟨Nat.le_of_ble_eq_true rfl, Nat.le_of_ble_eq_true rfl⟩ (fun w1 H locs hw hP hD hS => ?_)
        obtain rfl := hw
        have hP : va_P D vwCl [(z1, .inr (4, [.ref t1, .ref t2])), (t2, .inr (7, [.int vs2, .int vn2])), (x1, .inr (0, [.ref x2, .int (nI ((nb + 12) + 14))])), (x2, .inl (cI, 400, .inl (wrF (nI un) 14 (wrF 4095 12 bt nb) (nb + 12)))), (t1, .inr (7, [.int (tlS vs vn (nI un)), .int (tlN vn)]))] H := hP
        have hD : va_D A [(z1, .inr (4, [.ref t1, .ref t2])), (t2, .inr (7, [.int vs2, .int vn2])), (x1, .inr (0, [.ref x2, .int (nI ((nb + 12) + 14))])), (x2, .inl (cI, 400, .inl (wrF (nI un) 14 (wrF 4095 12 bt nb) (nb + 12)))), (t1, .inr (7, [.int (tlS vs vn (nI un)), .int (tlN vn)]))] := hD
        have hP := hP.sub (ws' := [(z1, .inr (4, [.ref t1, .ref t2])), (t1, .inr (7, [.int (tlS vs vn (nI un)), .int (tlN vn)])), (t2, .inr (7, [.int vs2, .int vn2])), (x1, .inr (0, [.ref x2, .int (nI ((nb + 12) + 14))])), (x2, .inl (cI, 400, .inl (wrF (nI un) 14 (wrF 4095 12 bt nb) (nb + 12))))]) [0, 4, 1, 2, 3] rfl
        have hD := hD.sub (ws' := [(z1, .inr (4, [.ref t1, .ref t2])), (t1, .inr (7, [.int (tlS vs vn (nI un)), .int (tlN vn)])), (t2, .inr (7, [.int vs2, .int vn2])), (x1, .inr (0, [.ref x2, .int (nI ((nb + 12) + 14))])), (x2, .inl (cI, 400, .inl (wrF (nI un) 14 (wrF 4095 12 bt nb) (nb + 12))))]) [0, 4, 1, 2, 3] (by decide) rfl
        exact W.vret hx hb hr (fun t ht hW => ⟨⟨[(z1, .inr (4, [.ref t1, .ref t2])), (t1, .inr (7, [.int (tlS vs vn (nI un)), .int (tlN vn)])), (t2, .inr (7, [.int vs2, .int vn2])), (x1, .inr (0, [.ref x2, .int (nI ((nb + 12) + 14))])), (x2, .inl (cI, 400, .inl (wrF (nI un) 14 (wrF 4095 12 bt nb) (nb + 12))))], rfl, (show _ = _ from (by rw [hK0, wrU, if_neg h12]; simp [hix])), by rw [ht]; exact hP, va_K.moved hW.alike hK, hD⟩, hS.F ht⟩) hS.2.2 d_LevelCode_writeLevel_96
def y_LevelCode_readU : MethodName := ⟨"TileForge$LevelCode", "readU", "(LTileForge$ByteRow;I)I"⟩
def ws_LevelCode_readU : List Cond := .code y_LevelCode_readU prog_6_method_4_code 9 (some .int) :: GW
theorem mw_176 : (.code ⟨"TileForge$LevelCode", "readU", "(LTileForge$ByteRow;I)I"⟩ prog_6_method_4_code 9 (some .int) : Cond) ∈ GW := List.mem_filter.mpr ⟨(List.mem_append_right _ (List.mem_append_right _ (List.mem_append_right _ (List.mem_append_left _ (List.mem_of_getElem? (i := 107) rfl))))), rfl⟩
theorem hd_LevelCode_readU : y_LevelCode_readU.cls ≠ "java/lang/invoke/MethodHandle" ∧ y_LevelCode_readU.cls ≠ "java/lang/invoke/VarHandle" ∧ (parseMethodDescriptor y_LevelCode_readU.desc).map (fun d => d.parameters.length) = some 2 := by decide +kernel
theorem d_LevelCode_readU_0 : decode prog_6_method_4_code 0 = .ok (.iload_n 2, 1) := by decide +kernel
theorem d_LevelCode_readU_1 : decode prog_6_method_4_code 1 = .ok (.ifCond .ne 10, 3) := by decide +kernel
theorem d_LevelCode_readU_4 : decode prog_6_method_4_code 4 = .ok (.aload_n 0, 1) := by decide +kernel
theorem d_LevelCode_readU_5 : decode prog_6_method_4_code 5 = .ok (.getfield 12, 3) := by decide +kernel
theorem d_LevelCode_readU_8 : decode prog_6_method_4_code 8 = .ok (.goto 7, 3) := by decide +kernel
theorem d_LevelCode_readU_11 : decode prog_6_method_4_code 11 = .ok (.aload_n 0, 1) := by decide +kernel
theorem d_LevelCode_readU_12 : decode prog_6_method_4_code 12 = .ok (.getfield 18, 3) := by decide +kernel
theorem d_LevelCode_readU_15 : decode prog_6_method_4_code 15 = .ok (.astore_n 3, 1) := by decide +kernel
theorem d_LevelCode_readU_16 : decode prog_6_method_4_code 16 = .ok (.aload_n 3, 1) := by decide +kernel
theorem d_LevelCode_readU_17 : decode prog_6_method_4_code 17 = .ok (.invokevirtual 24, 3) := by decide +kernel
theorem d_LevelCode_readU_20 : decode prog_6_method_4_code 20 = .ok (.istore 4, 2) := by decide +kernel
theorem d_LevelCode_readU_22 : decode prog_6_method_4_code 22 = .ok (.aload_n 1, 1) := by decide +kernel
theorem d_LevelCode_readU_23 : decode prog_6_method_4_code 23 = .ok (.invokevirtual 41, 3) := by decide +kernel
theorem d_LevelCode_readU_26 : decode prog_6_method_4_code 26 = .ok (.istore 5, 2) := by decide +kernel
theorem d_LevelCode_readU_28 : decode prog_6_method_4_code 28 = .ok (.iload 5, 2) := by decide +kernel
theorem d_LevelCode_readU_30 : decode prog_6_method_4_code 30 = .ok (.iconst (-1), 1) := by decide +kernel
theorem d_LevelCode_readU_31 : decode prog_6_method_4_code 31 = .ok (.if_icmp .ne 5, 3) := by decide +kernel
theorem d_LevelCode_readU_34 : decode prog_6_method_4_code 34 = .ok (.iconst (-1), 1) := by decide +kernel
theorem d_LevelCode_readU_35 : decode prog_6_method_4_code 35 = .ok (.ireturn, 1) := by decide +kernel
theorem d_LevelCode_readU_36 : decode prog_6_method_4_code 36 = .ok (.iload 5, 2) := by decide +kernel
theorem d_LevelCode_readU_38 : decode prog_6_method_4_code 38 = .ok (.bipush 12, 2) := by decide +kernel
theorem d_LevelCode_readU_40 : decode prog_6_method_4_code 40 = .ok (.if_icmp .ne 7, 3) := by decide +kernel
theorem d_LevelCode_readU_43 : decode prog_6_method_4_code 43 = .ok (.iconst 1, 1) := by decide +kernel
theorem d_LevelCode_readU_44 : decode prog_6_method_4_code 44 = .ok (.goto 4, 3) := by decide +kernel
theorem d_LevelCode_readU_47 : decode prog_6_method_4_code 47 = .ok (.iconst 0, 1) := by decide +kernel
theorem d_LevelCode_readU_48 : decode prog_6_method_4_code 48 = .ok (.istore 6, 2) := by decide +kernel
theorem d_LevelCode_readU_50 : decode prog_6_method_4_code 50 = .ok (.aload_n 1, 1) := by decide +kernel
theorem d_LevelCode_readU_51 : decode prog_6_method_4_code 51 = .ok (.iload 6, 2) := by decide +kernel
theorem d_LevelCode_readU_53 : decode prog_6_method_4_code 53 = .ok (.ifCond .eq 8, 3) := by decide +kernel
theorem d_LevelCode_readU_56 : decode prog_6_method_4_code 56 = .ok (.bipush 14, 2) := by decide +kernel
theorem d_LevelCode_readU_58 : decode prog_6_method_4_code 58 = .ok (.goto 5, 3) := by decide +kernel
theorem d_LevelCode_readU_61 : decode prog_6_method_4_code 61 = .ok (.iload 4, 2) := by decide +kernel
theorem d_LevelCode_readU_63 : decode prog_6_method_4_code 63 = .ok (.invokevirtual 46, 3) := by decide +kernel
theorem d_LevelCode_readU_66 : decode prog_6_method_4_code 66 = .ok (.istore 7, 2) := by decide +kernel
theorem d_LevelCode_readU_68 : decode prog_6_method_4_code 68 = .ok (.iload 7, 2) := by decide +kernel
theorem d_LevelCode_readU_70 : decode prog_6_method_4_code 70 = .ok (.iconst (-1), 1) := by decide +kernel
theorem d_LevelCode_readU_71 : decode prog_6_method_4_code 71 = .ok (.if_icmp .ne 5, 3) := by decide +kernel
theorem d_LevelCode_readU_74 : decode prog_6_method_4_code 74 = .ok (.iconst (-1), 1) := by decide +kernel
theorem d_LevelCode_readU_75 : decode prog_6_method_4_code 75 = .ok (.ireturn, 1) := by decide +kernel
theorem d_LevelCode_readU_76 : decode prog_6_method_4_code 76 = .ok (.iload 6, 2) := by decide +kernel
theorem d_LevelCode_readU_78 : decode prog_6_method_4_code 78 = .ok (.ifCond .eq 8, 3) := by decide +kernel
theorem d_LevelCode_readU_81 : decode prog_6_method_4_code 81 = .ok (.iload 7, 2) := by decide +kernel
theorem d_LevelCode_readU_83 : decode prog_6_method_4_code 83 = .ok (.goto 11, 3) := by decide +kernel
theorem d_LevelCode_readU_86 : decode prog_6_method_4_code 86 = .ok (.iload 5, 2) := by decide +kernel
theorem d_LevelCode_readU_88 : decode prog_6_method_4_code 88 = .ok (.iload 4, 2) := by decide +kernel
theorem d_LevelCode_readU_90 : decode prog_6_method_4_code 90 = .ok (.ishl, 1) := by decide +kernel
theorem d_LevelCode_readU_91 : decode prog_6_method_4_code 91 = .ok (.iload 7, 2) := by decide +kernel
theorem d_LevelCode_readU_93 : decode prog_6_method_4_code 93 = .ok (.iadd, 1) := by decide +kernel
theorem d_LevelCode_readU_94 : decode prog_6_method_4_code 94 = .ok (.istore 8, 2) := by decide +kernel
theorem d_LevelCode_readU_96 : decode prog_6_method_4_code 96 = .ok (.aload_n 3, 1) := by decide +kernel
theorem d_LevelCode_readU_97 : decode prog_6_method_4_code 97 = .ok (.iload 8, 2) := by decide +kernel
theorem d_LevelCode_readU_99 : decode prog_6_method_4_code 99 = .ok (.invokevirtual 38, 3) := by decide +kernel
theorem d_LevelCode_readU_102 : decode prog_6_method_4_code 102 = .ok (.iload 8, 2) := by decide +kernel
theorem d_LevelCode_readU_104 : decode prog_6_method_4_code 104 = .ok (.ireturn, 1) := by decide +kernel
theorem mw_177 : (.methodLink "TileForge$LevelCode" 41 ⟨"TileForge$ByteRow", "readOnes", "()I"⟩ : Cond) ∈ GW := List.mem_filter.mpr ⟨(List.mem_append_right _ (List.mem_append_right _ (List.mem_append_right _ (List.mem_append_left _ (List.mem_of_getElem? (i := 108) rfl))))), rfl⟩
theorem mw_178 : (.instanceMethod ⟨"TileForge$ByteRow", "readOnes", "()I"⟩ : Cond) ∈ GW := List.mem_filter.mpr ⟨(List.mem_append_right _ (List.mem_append_right _ (List.mem_append_right _ (List.mem_append_left _ (List.mem_of_getElem? (i := 109) rfl))))), rfl⟩
theorem mw_179 : (.selects "TileForge$ByteRow" ⟨"TileForge$ByteRow", "readOnes", "()I"⟩ ⟨"TileForge$ByteRow", "readOnes", "()I"⟩ : Cond) ∈ GW := List.mem_filter.mpr ⟨(List.mem_append_right _ (List.mem_append_right _ (List.mem_append_right _ (List.mem_append_left _ (List.mem_of_getElem? (i := 110) rfl))))), rfl⟩
theorem mw_180 : (.methodLink "TileForge$LevelCode" 46 ⟨"TileForge$ByteRow", "readBits", "(I)I"⟩ : Cond) ∈ GW := List.mem_filter.mpr ⟨(List.mem_append_right _ (List.mem_append_right _ (List.mem_append_right _ (List.mem_append_left _ (List.mem_of_getElem? (i := 112) rfl))))), rfl⟩
theorem mw_181 : (.instanceMethod ⟨"TileForge$ByteRow", "readBits", "(I)I"⟩ : Cond) ∈ GW := List.mem_filter.mpr ⟨(List.mem_append_right _ (List.mem_append_right _ (List.mem_append_right _ (List.mem_append_left _ (List.mem_of_getElem? (i := 93) rfl))))), rfl⟩
theorem mw_182 : (.selects "TileForge$ByteRow" ⟨"TileForge$ByteRow", "readBits", "(I)I"⟩ ⟨"TileForge$ByteRow", "readBits", "(I)I"⟩ : Cond) ∈ GW := List.mem_filter.mpr ⟨(List.mem_append_right _ (List.mem_append_right _ (List.mem_append_right _ (List.mem_append_left _ (List.mem_of_getElem? (i := 94) rfl))))), rfl⟩
def q_lc_read (cI : ClassId) (z1 : Nat) (t1 : Nat) (vs : Int32) (vn : Int32) (t2 : Nat) (vs2 : Int32) (vn2 : Int32) (y1 : Nat) (y2 : Nat) (yt : Nat → Int32) (yl : Nat) (yp : Nat) (ix : Nat) : Int32 → va_W → Prop := fun rr ww => rr = ((rdU yt yl ix vs vn vs2 vn2 yp).1) ∧ ww = [(z1, .inr (4, [.ref t1, .ref t2])), (t1, .inr (7, [.int ((rdU yt yl ix vs vn vs2 vn2 yp).2.2.1), .int ((rdU yt yl ix vs vn vs2 vn2 yp).2.2.2.1)])), (t2, .inr (7, [.int ((rdU yt yl ix vs vn vs2 vn2 yp).2.2.2.2.1), .int ((rdU yt yl ix vs vn vs2 vn2 yp).2.2.2.2.2)])), (y1, .inr (2, [.ref y2, .int (nI yl), .int (nI (rdU yt yl ix vs vn vs2 vn2 yp).2.1)])), (y2, .inl (cI, 400, .inl yt))]
set_option maxHeartbeats 4000000 in
set_option maxRecDepth 100000 in
theorem c_lc_read (l : Launch) {D : va_G} {tys : List (ClassId × FieldType)} {cI : ClassId} (hcI : tys[0]? = some (cI, .int)) (z1 : Nat) (t1 : Nat) (vs : Int32) (vn : Int32) (t2 : Nat) (vs2 : Int32) (vn2 : Int32) (y1 : Nat) (y2 : Nat) (yt : Nat → Int32) (yl : Nat) (yp : Nat) (ix : Nat) (hix0 : ix < 16) (hyl : yl ≤ 400) (hyp : yp + 64 < 1073741824) : CsI l D vwCl tys y_LevelCode_readU ws_LevelCode_readU ({ frames := 2, cells := 0, slots := 0, locals := 46 } : Room) [.ref z1, .ref y1, .int (nI ix)] [(z1, .inr (4, [.ref t1, .ref t2])), (t1, .inr (7, [.int vs, .int vn])), (t2, .inr (7, [.int vs2, .int vn2])), (y1, .inr (2, [.ref y2, .int (nI yl), .int (nI yp)])), (y2, .inl (cI, 400, .inl yt))] (q_lc_read cI z1 t1 vs vn t2 vs2 vn2 y1 y2 yt yl yp ix) 0 0 := by
  intro sz
  refine Met.ofW (cc := prog_6_method_4_code) (maxL := 9) (ret := (some .int)) (by decide) rfl ?_
  intro p e s m args below meth c s₁ B hml hv
  obtain ⟨rfl, hsz, hP, hK, hD0, hN⟩ := hv
  have hx := B.exec
  have hb := B.bytes
  have hr := B.returns
  have hts := atoms_spec (ws := ws_LevelCode_readU) B.pre
  have hown : s.vm.findClass "TileForge$LevelCode" = some m.cls := findClass_of_methodNamed B.named
  have hlocks := B.notSynchronized
  subst hsz
  have hD := hD0.self (sz := s.heap.size)
  generalize hAe : va_A [(z1, .inr (4, [.ref t1, .ref t2])), (t1, .inr (7, [.int vs, .int vn])), (t2, .inr (7, [.int vs2, .int vn2])), (y1, .inr (2, [.ref y2, .int (nI yl), .int (nI yp)])), (y2, .inl (cI, 400, .inl yt))] s.heap.size = A at hD ⊢
  have hA : ∀ q : Nat, s.heap.size ≤ q → A q := fun q h => by rw [← hAe]; exact Or.inr h
  have hS : va_S A s.heap s.heap [] := va_S.rf
  have hP : va_P D vwCl [(z1, .inr (4, [.ref t1, .ref t2])), (t1, .inr (7, [.int vs, .int vn])), (t2, .inr (7, [.int vs2, .int vn2])), (y1, .inr (2, [.ref y2, .int (nI yl), .int (nI yp)])), (y2, .inl (cI, 400, .inl yt))] s.heap := hP
  have hl := lv_entry ([.ref z1, .ref y1, .int (nI ix)]) (n := 9) (Nat.le_of_ble_eq_true rfl)
  rw [lg_entry_eq]
  generalize (lg_sl ([.ref z1, .ref y1, .int (nI ix)]) ++ List.replicate (9 - (lg_sl ([.ref z1, .ref y1, .int (nI ix)])).length) Slot.unset).toArray = ls at hl ⊢
  have hl : lv_has ls 9 [(0, .ref z1), (1, .ref y1), (2, .int (nI ix))] := hl
  refine lv_iload_n hx hb d_LevelCode_readU_0 rfl (lv_at hl 2 rfl) ?_
  refine lv_if_ne (tgt := 11) hx hb d_LevelCode_readU_1 (by decide) (fun c_1 => ?_) (fun c_1 => ?_)
  · have hix : ¬ ix = 0 := fun h => c_1 (by rw [h]; rfl)
    have hK0 : lcK ix vs vn vs2 vn2 = lowK vn2 vs2 := if_neg hix
    have hK1 := lowK_le vn2 vs2
    refine lv_aload_n hx hb d_LevelCode_readU_11 rfl (lv_at hl 0 rfl) ?_
    refine va_get (D := D) (ci := 4) (v := .ref t2) (C := "TileForge$LevelCode") (T := T_LevelCode) (N := 2) hx hb hts (cs_in in_LevelCode) hown hK hP 0 rfl rfl 1 (by decide) (hts _ (cs_m mw_159)) (fun _ h9 => h9) rfl d_LevelCode_readU_12 ?_
    refine lv_astore_n (lv' := [(3, .ref t2), (0, .ref z1), (1, .ref y1), (2, .int (nI ix))]) hx hb d_LevelCode_readU_15 rfl hl (by decide) rfl (fun ls hl => ?_)
    refine lv_aload_n hx hb d_LevelCode_readU_16 rfl (lv_at hl 0 rfl) ?_
    refine cs_Vi (As := []) (rest := []) (wr := [(z1, .inr (4, [.ref t1, .ref t2])), (t1, .inr (7, [.int vs, .int vn])), (y1, .inr (2, [.ref y2, .int (nI yl), .int (nI yp)])), (y2, .inl (cI, 400, .inl yt))]) ⟨hx, hb, hml, hown, hts⟩ (c_ta_low l hcI t2 vs2 vn2) (cwV 0 hts (cs_gV mw_166 mw_167 mw_168 mw_156 mw_110) rfl rfl rfl ⟨rfl, hd_Tally_lowBits⟩ ⟨Nat.le_of_ble_eq_true rfl, Nat.le_of_ble_eq_true rfl⟩) hN hK hP hD hS hA [2] [0, 1, 3, 4] rfl rfl rfl rfl (by decide) (ci := 7) rfl rfl rfl rfl rfl hl.1 (Nat.le_of_ble_eq_true rfl) d_LevelCode_readU_17 ⟨Nat.le_of_ble_eq_true rfl, Nat.le_of_ble_eq_true rfl⟩ (fun r1 w1 H locs hw hP hD hS => ?_)
    obtain ⟨rfl, rfl⟩ := hw
    have hP : va_P D vwCl [(z1, .inr (4, [.ref t1, .ref t2])), (t1, .inr (7, [.int vs, .int vn])), (y1, .inr (2, [.ref y2, .int (nI yl), .int (nI yp)])), (y2, .inl (cI, 400, .inl yt)), (t2, .inr (7, [.int vs2, .int vn2]))] H := hP
    have hD : va_D A [(z1, .inr (4, [.ref t1, .ref t2])), (t1, .inr (7, [.int vs, .int vn])), (y1, .inr (2, [.ref y2, .int (nI yl), .int (nI yp)])), (y2, .inl (cI, 400, .inl yt)), (t2, .inr (7, [.int vs2, .int vn2]))] := hD
    refine lv_istore (lv' := [(4, .int (nI (lowK vn2 vs2))), (3, .ref t2), (0, .ref z1), (1, .ref y1), (2, .int (nI ix))]) hx hb d_LevelCode_readU_20 hl (by decide) rfl (fun ls hl => ?_)
    refine lv_aload_n hx hb d_LevelCode_readU_22 rfl (lv_at hl 3 rfl) ?_
    refine cs_Vi (As := []) (rest := []) (wr := [(z1, .inr (4, [.ref t1, .ref t2])), (t1, .inr (7, [.int vs, .int vn])), (t2, .inr (7, [.int vs2, .int vn2]))]) ⟨hx, hb, hml, hown, hts⟩ (c_br_ones l hcI y1 y2 yt yl yp (hyl) (by omega)) (cwV 0 hts (cs_gV mw_177 mw_178 mw_179 mw_133 mw_137) rfl rfl rfl ⟨rfl, hd_ByteRow_readOnes⟩ ⟨Nat.le_of_ble_eq_true rfl, Nat.le_of_ble_eq_true rfl⟩) hN hK hP hD hS hA [2, 3] [0, 1, 4] rfl rfl rfl rfl (by decide) (ci := 2) rfl rfl rfl rfl rfl hl.1 (Nat.le_of_ble_eq_true rfl) d_LevelCode_readU_23 ⟨Nat.le_of_ble_eq_true rfl, Nat.le_of_ble_eq_true rfl⟩ (fun r2 w1 H locs hw hP hD hS => ?_)
    obtain ⟨rfl, rfl⟩ := hw
    have hP : va_P D vwCl [(z1, .inr (4, [.ref t1, .ref t2])), (t1, .inr (7, [.int vs, .int vn])), (t2, .inr (7, [.int vs2, .int vn2])), (y1, .inr (2, [.ref y2, .int (nI yl), .int (nI (rdO yt yl 12 0 yp).2)])), (y2, .inl (cI, 400, .inl yt))] H := hP
    have hD : va_D A [(z1, .inr (4, [.ref t1, .ref t2])), (t1, .inr (7, [.int vs, .int vn])), (t2, .inr (7, [.int vs2, .int vn2])), (y1, .inr (2, [.ref y2, .int (nI yl), .int (nI (rdO yt yl 12 0 yp).2)])), (y2, .inl (cI, 400, .inl yt))] := hD
    refine lv_istore (lv' := [(5, .int ((rdO yt yl 12 0 yp).1)), (4, .int (nI (lowK vn2 vs2))), (3, .ref t2), (0, .ref z1), (1, .ref y1), (2, .int (nI ix))]) hx hb d_LevelCode_readU_26 hl (by decide) rfl (fun ls hl => ?_)
    refine lv_iload hx hb d_LevelCode_readU_28 (lv_at hl 0 rfl) ?_
    refine lv_iconst (v := (-1)) hx hb d_LevelCode_readU_30 (by decide) ?_
    refine lv_icmp_ne (tgt := 36) hx hb d_LevelCode_readU_31 (by decide) (fun c_31 => ?_) (fun c_31 => ?_)
    · refine lv_iload hx hb d_LevelCode_readU_36 (lv_at hl 0 rfl) ?_
      refine lv_bipush (v := 12) hx hb d_LevelCode_readU_38 (by decide) ?_
      refine lv_icmp_ne (tgt := 47) hx hb d_LevelCode_readU_40 (by decide) (fun c_40 => ?_) (fun c_40 => ?_)
      · refine lv_iconst (v := 0) hx hb d_LevelCode_readU_47 (by decide) ?_
        refine lv_istore (lv' := [(6, .int 0), (5, .int ((rdO yt yl 12 0 yp).1)), (4, .int (nI (lowK vn2 vs2))), (3, .ref t2), (0, .ref z1), (1, .ref y1), (2, .int (nI ix))]) hx hb d_LevelCode_readU_48 hl (by decide) rfl (fun ls hl => ?_)
        refine lv_aload_n hx hb d_LevelCode_readU_50 rfl (lv_at hl 5 rfl) ?_
        refine lv_iload hx hb d_LevelCode_readU_51 (lv_at hl 0 rfl) ?_
        refine lv_if_eq (tgt := 61) hx hb d_LevelCode_readU_53 (by decide) (fun c_53 => ?_) (fun c_53 => ?_)
        · refine lv_iload hx hb d_LevelCode_readU_61 (lv_at hl 2 rfl) ?_
          refine cs_Vi (As := [.int (nI (lowK vn2 vs2))]) (rest := []) (wr := [(z1, .inr (4, [.ref t1, .ref t2])), (t1, .inr (7, [.int vs, .int vn])), (t2, .inr (7, [.int vs2, .int vn2]))]) ⟨hx, hb, hml, hown, hts⟩ (c_br_bits l hcI y1 y2 yt yl ((rdO yt yl 12 0 yp).2) (lowK vn2 vs2) (hyl) (by have := rdO_le yt yl 12 0 yp; omega)) (cwV 1 hts (cs_gV mw_180 mw_181 mw_182 mw_133 mw_132) rfl rfl rfl ⟨rfl, hd_ByteRow_readBits⟩ ⟨Nat.le_of_ble_eq_true rfl, Nat.le_of_ble_eq_true rfl⟩) hN hK hP hD hS hA [3, 4] [0, 1, 2] rfl rfl rfl rfl (by decide) (ci := 2) rfl rfl rfl rfl rfl hl.1 (Nat.le_of_ble_eq_true rfl) d_LevelCode_readU_63 ⟨Nat.le_of_ble_eq_true rfl, Nat.le_of_ble_eq_true rfl⟩ (fun r3 w1 H locs hw hP hD hS => ?_)
          obtain ⟨rfl, rfl⟩ := hw
          have hP : va_P D vwCl [(z1, .inr (4, [.ref t1, .ref t2])), (t1, .inr (7, [.int vs, .int vn])), (t2, .inr (7, [.int vs2, .int vn2])), (y1, .inr (2, [.ref y2, .int (nI yl), .int (nI (rdB yt yl (lowK vn2 vs2) ((rdO yt yl 12 0 yp).2) 0).2)])), (y2, .inl (cI, 400, .inl yt))] H := hP
          have hD : va_D A [(z1, .inr (4, [.ref t1, .ref t2])), (t1, .inr (7, [.int vs, .int vn])), (t2, .inr (7, [.int vs2, .int vn2])), (y1, .inr (2, [.ref y2, .int (nI yl), .int (nI (rdB yt yl (lowK vn2 vs2) ((rdO yt yl 12 0 yp).2) 0).2)])), (y2, .inl (cI, 400, .inl yt))] := hD
          refine lv_istore (lv' := [(7, .int ((rdB yt yl (lowK vn2 vs2) ((rdO yt yl 12 0 yp).2) 0).1)), (6, .int 0), (5, .int ((rdO yt yl 12 0 yp).1)), (4, .int (nI (lowK vn2 vs2))), (3, .ref t2), (0, .ref z1), (1, .ref y1), (2, .int (nI ix))]) hx hb d_LevelCode_readU_66 hl (by decide) rfl (fun ls hl => ?_)
          refine lv_iload hx hb d_LevelCode_readU_68 (lv_at hl 0 rfl) ?_
          refine lv_iconst (v := (-1)) hx hb d_LevelCode_readU_70 (by decide) ?_
          refine lv_icmp_ne (tgt := 76) hx hb d_LevelCode_readU_71 (by decide) (fun c_71 => ?_) (fun c_71 => ?_)
          · refine lv_iload hx hb d_LevelCode_readU_76 (lv_at hl 1 rfl) ?_
            refine lv_if_eq (tgt := 86) hx hb d_LevelCode_readU_78 (by decide) (fun c_78 => ?_) (fun c_78 => ?_)
            · refine lv_iload hx hb d_LevelCode_readU_86 (lv_at hl 2 rfl) ?_
              refine lv_iload hx hb d_LevelCode_readU_88 (lv_at hl 3 rfl) ?_
              refine lv_ishl hx hb d_LevelCode_readU_90 ?_
              refine lv_iload hx hb d_LevelCode_readU_91 (lv_at hl 0 rfl) ?_
              refine lv_iadd hx hb d_LevelCode_readU_93 ?_
              refine lv_istore (lv' := [(8, .int ((((rdO yt yl 12 0 yp).1) <<< ((nI (lowK vn2 vs2)) &&& 31)) + ((rdB yt yl (lowK vn2 vs2) ((rdO yt yl 12 0 yp).2) 0).1))), (7, .int ((rdB yt yl (lowK vn2 vs2) ((rdO yt yl 12 0 yp).2) 0).1)), (6, .int 0), (5, .int ((rdO yt yl 12 0 yp).1)), (4, .int (nI (lowK vn2 vs2))), (3, .ref t2), (0, .ref z1), (1, .ref y1), (2, .int (nI ix))]) hx hb d_LevelCode_readU_94 hl (by decide) rfl (fun ls hl => ?_)
              refine lv_aload_n hx hb d_LevelCode_readU_96 rfl (lv_at hl 5 rfl) ?_
              refine lv_iload hx hb d_LevelCode_readU_97 (lv_at hl 0 rfl) ?_
              refine cs_Vv (As := [.int ((((rdO yt yl 12 0 yp).1) <<< ((nI (lowK vn2 vs2)) &&& 31)) + ((rdB yt yl (lowK vn2 vs2) ((rdO yt yl 12 0 yp).2) 0).1))]) (rest := []) (wr := [(z1, .inr (4, [.ref t1, .ref t2])), (t1, .inr (7, [.int vs, .int vn])), (y1, .inr (2, [.ref y2, .int (nI yl), .int (nI (rdB yt yl (lowK vn2 vs2) ((rdO yt yl 12 0 yp).2) 0).2)])), (y2, .inl (cI, 400, .inl yt))]) ⟨hx, hb, hml, hown, hts⟩ (c_ta_learn l hcI t2 vs2 vn2 ((((rdO yt yl 12 0 yp).1) <<< ((nI (lowK vn2 vs2)) &&& 31)) + ((rdB yt yl (lowK vn2 vs2) ((rdO yt yl 12 0 yp).2) 0).1))) (cwV 1 hts (cs_gV mw_173 mw_174 mw_175 mw_156 mw_111) rfl rfl rfl ⟨rfl, hd_Tally_learn⟩ ⟨Nat.le_of_ble_eq_true rfl, Nat.le_of_ble_eq_true rfl⟩) hN hK hP hD hS hA [2] [0, 1, 3, 4] rfl rfl rfl rfl (by decide) (ci := 7) rfl rfl rfl rfl rfl hl.1 (Nat.le_of_ble_eq_true rfl) d_LevelCode_readU_99 ⟨Nat.le_of_ble_eq_true rfl, Nat.le_of_ble_eq_true rfl⟩ (fun w1 H locs hw hP hD hS => ?_)
              obtain rfl := hw
              have hP : va_P D vwCl [(z1, .inr (4, [.ref t1, .ref t2])), (t1, .inr (7, [.int vs, .int vn])), (y1, .inr (2, [.ref y2, .int (nI yl), .int (nI (rdB yt yl (lowK vn2 vs2) ((rdO yt yl 12 0 yp).2) 0).2)])), (y2, .inl (cI, 400, .inl yt)), (t2, .inr (7, [.int (tlS vs2 vn2 ((((rdO yt yl 12 0 yp).1) <<< ((nI (lowK vn2 vs2)) &&& 31)) + ((rdB yt yl (lowK vn2 vs2) ((rdO yt yl 12 0 yp).2) 0).1))), .int (tlN vn2)]))] H := hP
              have hD : va_D A [(z1, .inr (4, [.ref t1, .ref t2])), (t1, .inr (7, [.int vs, .int vn])), (y1, .inr (2, [.ref y2, .int (nI yl), .int (nI (rdB yt yl (lowK vn2 vs2) ((rdO yt yl 12 0 yp).2) 0).2)])), (y2, .inl (cI, 400, .inl yt)), (t2, .inr (7, [.int (tlS vs2 vn2 ((((rdO yt yl 12 0 yp).1) <<< ((nI (lowK vn2 vs2)) &&& 31)) + ((rdB yt yl (lowK vn2 vs2) ((rdO yt yl 12 0 yp).2) 0).1))), .int (tlN vn2)]))] := hD
              refine lv_iload hx hb d_LevelCode_readU_102 (lv_at hl 0 rfl) ?_
              have hP := hP.sub (ws' := [(z1, .inr (4, [.ref t1, .ref t2])), (t1, .inr (7, [.int vs, .int vn])), (t2, .inr (7, [.int (tlS vs2 vn2 ((((rdO yt yl 12 0 yp).1) <<< ((nI (lowK vn2 vs2)) &&& 31)) + ((rdB yt yl (lowK vn2 vs2) ((rdO yt yl 12 0 yp).2) 0).1))), .int (tlN vn2)])), (y1, .inr (2, [.ref y2, .int (nI yl), .int (nI (rdB yt yl (lowK vn2 vs2) ((rdO yt yl 12 0 yp).2) 0).2)])), (y2, .inl (cI, 400, .inl yt))]) [0, 1, 4, 2, 3] rfl
              have hD := hD.sub (ws' := [(z1, .inr (4, [.ref t1, .ref t2])), (t1, .inr (7, [.int vs, .int vn])), (t2, .inr (7, [.int (tlS vs2 vn2 ((((rdO yt yl 12 0 yp).1) <<< ((nI (lowK vn2 vs2)) &&& 31)) + ((rdB yt yl (lowK vn2 vs2) ((rdO yt yl 12 0 yp).2) 0).1))), .int (tlN vn2)])), (y1, .inr (2, [.ref y2, .int (nI yl), .int (nI (rdB yt yl (lowK vn2 vs2) ((rdO yt yl 12 0 yp).2) 0).2)])), (y2, .inl (cI, 400, .inl yt))]) [0, 1, 4, 2, 3] (by decide) rfl
              exact W.iret (v := ((((rdO yt yl 12 0 yp).1) <<< ((nI (lowK vn2 vs2)) &&& 31)) + ((rdB yt yl (lowK vn2 vs2) ((rdO yt yl 12 0 yp).2) 0).1))) hx hb hr (fun t ht hW => ⟨⟨((((rdO yt yl 12 0 yp).1) <<< ((nI (lowK vn2 vs2)) &&& 31)) + ((rdB yt yl (lowK vn2 vs2) ((rdO yt yl 12 0 yp).2) 0).1)), [(z1, .inr (4, [.ref t1, .ref t2])), (t1, .inr (7, [.int vs, .int vn])), (t2, .inr (7, [.int (tlS vs2 vn2 ((((rdO yt yl 12 0 yp).1) <<< ((nI (lowK vn2 vs2)) &&& 31)) + ((rdB yt yl (lowK vn2 vs2) ((rdO yt yl 12 0 yp).2) 0).1))), .int (tlN vn2)])), (y1, .inr (2, [.ref y2, .int (nI yl), .int (nI (rdB yt yl (lowK vn2 vs2) ((rdO yt yl 12 0 yp).2) 0).2)])), (y2, .inl (cI, 400, .inl yt))], rfl, ⟨(by rw [rdU, hK0]; simp [hix, c_31, c_40, c_71]), (by rw [rdU, hK0]; simp [hix, c_31, c_40, c_71])⟩, by rw [ht]; exact hP, va_K.moved hW.alike hK, hD⟩, hS.F ht⟩) hS.2.2 d_LevelCode_readU_104
            · exact absurd c_78 (by decide)
          · refine lv_iconst (v := (-1)) hx hb d_LevelCode_readU_74 (by decide) ?_
            exact W.iret (v := (-1)) hx hb hr (fun t ht hW => ⟨⟨(-1), [(z1, .inr (4, [.ref t1, .ref t2])), (t1, .inr (7, [.int vs, .int vn])), (t2, .inr (7, [.int vs2, .int vn2])), (y1, .inr (2, [.ref y2, .int (nI yl), .int (nI (rdB yt yl (lowK vn2 vs2) ((rdO yt yl 12 0 yp).2) 0).2)])), (y2, .inl (cI, 400, .inl yt))], rfl, ⟨(by rw [rdU, hK0]; simp [hix, c_31, c_40, c_71]), (by rw [rdU, hK0]; simp [hix, c_31, c_40, c_71])⟩, by rw [ht]; exact hP, va_K.moved hW.alike hK, hD⟩, hS.F ht⟩) hS.2.2 d_LevelCode_readU_75
        · exact absurd c_53 (by decide)
      · refine lv_iconst (v := 1) hx hb d_LevelCode_readU_43 (by decide) ?_
        refine lv_goto (tgt := 48) hx hb d_LevelCode_readU_44 (by decide) ?_
        refine lv_istore (lv' := [(6, .int 1), (5, .int ((rdO yt yl 12 0 yp).1)), (4, .int (nI (lowK vn2 vs2))), (3, .ref t2), (0, .ref z1), (1, .ref y1), (2, .int (nI ix))]) hx hb d_LevelCode_readU_48 hl (by decide) rfl (fun ls hl => ?_)
        refine lv_aload_n hx hb d_LevelCode_readU_50 rfl (lv_at hl 5 rfl) ?_
        refine lv_iload hx hb d_LevelCode_readU_51 (lv_at hl 0 rfl) ?_
        refine lv_if_eq (tgt := 61) hx hb d_LevelCode_readU_53 (by decide) (fun c_53 => ?_) (fun c_53 => ?_)
        · exact absurd c_53 (by decide)
        · refine lv_bipush (v := 14) hx hb d_LevelCode_readU_56 (by decide) ?_
          refine lv_goto (tgt := 63) hx hb d_LevelCode_readU_58 (by decide) ?_
          refine cs_Vi (As := [.int 14]) (rest := []) (wr := [(z1, .inr (4, [.ref t1, .ref t2])), (t1, .inr (7, [.int vs, .int vn])), (t2, .inr (7, [.int vs2, .int vn2]))]) ⟨hx, hb, hml, hown, hts⟩ (c_br_bits l hcI y1 y2 yt yl ((rdO yt yl 12 0 yp).2) 14 (hyl) (by have := rdO_le yt yl 12 0 yp; omega)) (cwV 1 hts (cs_gV mw_180 mw_181 mw_182 mw_133 mw_132) rfl rfl rfl ⟨rfl, hd_ByteRow_readBits⟩ ⟨Nat.le_of_ble_eq_true rfl, Nat.le_of_ble_eq_true rfl⟩) hN hK hP hD hS hA [3, 4] [0, 1, 2] rfl rfl rfl rfl (by decide) (ci := 2) rfl rfl rfl rfl rfl hl.1 (Nat.le_of_ble_eq_true rfl) d_LevelCode_readU_63 ⟨Nat.le_of_ble_eq_true rfl, Nat.le_of_ble_eq_true rfl⟩ (fun r5 w1 H locs hw hP hD hS => ?_)
          obtain ⟨rfl, rfl⟩ := hw
          have hP : va_P D vwCl [(z1, .inr (4, [.ref t1, .ref t2])), (t1, .inr (7, [.int vs, .int vn])), (t2, .inr (7, [.int vs2, .int vn2])), (y1, .inr (2, [.ref y2, .int (nI yl), .int (nI (rdB yt yl 14 ((rdO yt yl 12 0 yp).2) 0).2)])), (y2, .inl (cI, 400, .inl yt))] H := hP
          have hD : va_D A [(z1, .inr (4, [.ref t1, .ref t2])), (t1, .inr (7, [.int vs, .int vn])), (t2, .inr (7, [.int vs2, .int vn2])), (y1, .inr (2, [.ref y2, .int (nI yl), .int (nI (rdB yt yl 14 ((rdO yt yl 12 0 yp).2) 0).2)])), (y2, .inl (cI, 400, .inl yt))] := hD
          refine lv_istore (lv' := [(7, .int ((rdB yt yl 14 ((rdO yt yl 12 0 yp).2) 0).1)), (6, .int 1), (5, .int ((rdO yt yl 12 0 yp).1)), (4, .int (nI (lowK vn2 vs2))), (3, .ref t2), (0, .ref z1), (1, .ref y1), (2, .int (nI ix))]) hx hb d_LevelCode_readU_66 hl (by decide) rfl (fun ls hl => ?_)
          refine lv_iload hx hb d_LevelCode_readU_68 (lv_at hl 0 rfl) ?_
          refine lv_iconst (v := (-1)) hx hb d_LevelCode_readU_70 (by decide) ?_
          refine lv_icmp_ne (tgt := 76) hx hb d_LevelCode_readU_71 (by decide) (fun c_71 => ?_) (fun c_71 => ?_)
          · refine lv_iload hx hb d_LevelCode_readU_76 (lv_at hl 1 rfl) ?_
            refine lv_if_eq (tgt := 86) hx hb d_LevelCode_readU_78 (by decide) (fun c_78 => ?_) (fun c_78 => ?_)
            · exact absurd c_78 (by decide)
            · refine lv_iload hx hb d_LevelCode_readU_81 (lv_at hl 0 rfl) ?_
              refine lv_goto (tgt := 94) hx hb d_LevelCode_readU_83 (by decide) ?_
              refine lv_istore (lv' := [(8, .int ((rdB yt yl 14 ((rdO yt yl 12 0 yp).2) 0).1)), (7, .int ((rdB yt yl 14 ((rdO yt yl 12 0 yp).2) 0).1)), (6, .int 1), (5, .int ((rdO yt yl 12 0 yp).1)), (4, .int (nI (lowK vn2 vs2))), (3, .ref t2), (0, .ref z1), (1, .ref y1), (2, .int (nI ix))]) hx hb d_LevelCode_readU_94 hl (by decide) rfl (fun ls hl => ?_)
              refine lv_aload_n hx hb d_LevelCode_readU_96 rfl (lv_at hl 5 rfl) ?_
              refine lv_iload hx hb d_LevelCode_readU_97 (lv_at hl 0 rfl) ?_
              refine cs_Vv (As := [.int ((rdB yt yl 14 ((rdO yt yl 12 0 yp).2) 0).1)]) (rest := []) (wr := [(z1, .inr (4, [.ref t1, .ref t2])), (t1, .inr (7, [.int vs, .int vn])), (y1, .inr (2, [.ref y2, .int (nI yl), .int (nI (rdB yt yl 14 ((rdO yt yl 12 0 yp).2) 0).2)])), (y2, .inl (cI, 400, .inl yt))]) ⟨hx, hb, hml, hown, hts⟩ (c_ta_learn l hcI t2 vs2 vn2 ((rdB yt yl 14 ((rdO yt yl 12 0 yp).2) 0).1)) (cwV 1 hts (cs_gV mw_173 mw_174 mw_175 mw_156 mw_111) rfl rfl rfl ⟨rfl, hd_Tally_learn⟩ ⟨Nat.le_of_ble_eq_true rfl, Nat.le_of_ble_eq_true rfl⟩) hN hK hP hD hS hA [2] [0, 1, 3, 4] rfl rfl rfl rfl (by decide) (ci := 7) rfl rfl rfl rfl rfl hl.1 (Nat.le_of_ble_eq_true rfl) d_LevelCode_readU_99 ⟨Nat.le_of_ble_eq_true rfl, Nat.le_of_ble_eq_true rfl⟩ (fun w1 H locs hw hP hD hS => ?_)
              obtain rfl := hw
              have hP : va_P D vwCl [(z1, .inr (4, [.ref t1, .ref t2])), (t1, .inr (7, [.int vs, .int vn])), (y1, .inr (2, [.ref y2, .int (nI yl), .int (nI (rdB yt yl 14 ((rdO yt yl 12 0 yp).2) 0).2)])), (y2, .inl (cI, 400, .inl yt)), (t2, .inr (7, [.int (tlS vs2 vn2 ((rdB yt yl 14 ((rdO yt yl 12 0 yp).2) 0).1)), .int (tlN vn2)]))] H := hP
              have hD : va_D A [(z1, .inr (4, [.ref t1, .ref t2])), (t1, .inr (7, [.int vs, .int vn])), (y1, .inr (2, [.ref y2, .int (nI yl), .int (nI (rdB yt yl 14 ((rdO yt yl 12 0 yp).2) 0).2)])), (y2, .inl (cI, 400, .inl yt)), (t2, .inr (7, [.int (tlS vs2 vn2 ((rdB yt yl 14 ((rdO yt yl 12 0 yp).2) 0).1)), .int (tlN vn2)]))] := hD
              refine lv_iload hx hb d_LevelCode_readU_102 (lv_at hl 0 rfl) ?_
              have hP := hP.sub (ws' := [(z1, .inr (4, [.ref t1, .ref t2])), (t1, .inr (7, [.int vs, .int vn])), (t2, .inr (7, [.int (tlS vs2 vn2 ((rdB yt yl 14 ((rdO yt yl 12 0 yp).2) 0).1)), .int (tlN vn2)])), (y1, .inr (2, [.ref y2, .int (nI yl), .int (nI (rdB yt yl 14 ((rdO yt yl 12 0 yp).2) 0).2)])), (y2, .inl (cI, 400, .inl yt))]) [0, 1, 4, 2, 3] rfl
              have hD := hD.sub (ws' := [(z1, .inr (4, [.ref t1, .ref t2])), (t1, .inr (7, [.int vs, .int vn])), (t2, .inr (7, [.int (tlS vs2 vn2 ((rdB yt yl 14 ((rdO yt yl 12 0 yp).2) 0).1)), .int (tlN vn2)])), (y1, .inr (2, [.ref y2, .int (nI yl), .int (nI (rdB yt yl 14 ((rdO yt yl 12 0 yp).2) 0).2)])), (y2, .inl (cI, 400, .inl yt))]) [0, 1, 4, 2, 3] (by decide) rfl
              exact W.iret (v := ((rdB yt yl 14 ((rdO yt yl 12 0 yp).2) 0).1)) hx hb hr (fun t ht hW => ⟨⟨((rdB yt yl 14 ((rdO yt yl 12 0 yp).2) 0).1), [(z1, .inr (4, [.ref t1, .ref t2])), (t1, .inr (7, [.int vs, .int vn])), (t2, .inr (7, [.int (tlS vs2 vn2 ((rdB yt yl 14 ((rdO yt yl 12 0 yp).2) 0).1)), .int (tlN vn2)])), (y1, .inr (2, [.ref y2, .int (nI yl), .int (nI (rdB yt yl 14 ((rdO yt yl 12 0 yp).2) 0).2)])), (y2, .inl (cI, 400, .inl yt))], rfl, ⟨(by rw [rdU, hK0]; simp [hix, c_31, c_40, c_71]), (by rw [rdU, hK0]; simp [hix, c_31, c_40, c_71])⟩, by rw [ht]; exact hP, va_K.moved hW.alike hK, hD⟩, hS.F ht⟩) hS.2.2 d_LevelCode_readU_104
          · refine lv_iconst (v := (-1)) hx hb d_LevelCode_readU_74 (by decide) ?_
            exact W.iret (v := (-1)) hx hb hr (fun t ht hW => ⟨⟨(-1), [(z1, .inr (4, [.ref t1, .ref t2])), (t1, .inr (7, [.int vs, .int vn])), (t2, .inr (7, [.int vs2, .int vn2])), (y1, .inr (2, [.ref y2, .int (nI yl), .int (nI (rdB yt yl 14 ((rdO yt yl 12 0 yp).2) 0).2)])), (y2, .inl (cI, 400, .inl yt))], rfl, ⟨(by rw [rdU, hK0]; simp [hix, c_31, c_40, c_71]), (by rw [rdU, hK0]; simp [hix, c_31, c_40, c_71])⟩, by rw [ht]; exact hP, va_K.moved hW.alike hK, hD⟩, hS.F ht⟩) hS.2.2 d_LevelCode_readU_75
    · refine lv_iconst (v := (-1)) hx hb d_LevelCode_readU_34 (by decide) ?_
      exact W.iret (v := (-1)) hx hb hr (fun t ht hW => ⟨⟨(-1), [(z1, .inr (4, [.ref t1, .ref t2])), (t1, .inr (7, [.int vs, .int vn])), (t2, .inr (7, [.int vs2, .int vn2])), (y1, .inr (2, [.ref y2, .int (nI yl), .int (nI (rdO yt yl 12 0 yp).2)])), (y2, .inl (cI, 400, .inl yt))], rfl, ⟨(by simp [rdU, c_31]), (by simp [rdU, c_31])⟩, by rw [ht]; exact hP, va_K.moved hW.alike hK, hD⟩, hS.F ht⟩) hS.2.2 d_LevelCode_readU_35
  · have hix : ix = 0 := cs_nz0 c_1 (by omega)
    have hK0 : lcK ix vs vn vs2 vn2 = lowK vn vs := if_pos hix
    have hK1 := lowK_le vn vs
    refine lv_aload_n hx hb d_LevelCode_readU_4 rfl (lv_at hl 0 rfl) ?_
    refine va_get (D := D) (ci := 4) (v := .ref t1) (C := "TileForge$LevelCode") (T := T_LevelCode) (N := 2) hx hb hts (cs_in in_LevelCode) hown hK hP 0 rfl rfl 0 (by decide) (hts _ (cs_m mw_158)) (fun _ h9 => h9) rfl d_LevelCode_readU_5 ?_
    refine lv_goto (tgt := 15) hx hb d_LevelCode_readU_8 (by decide) ?_
    refine lv_astore_n (lv' := [(3, .ref t1), (0, .ref z1), (1, .ref y1), (2, .int (nI ix))]) hx hb d_LevelCode_readU_15 rfl hl (by decide) rfl (fun ls hl => ?_)
    refine lv_aload_n hx hb d_LevelCode_readU_16 rfl (lv_at hl 0 rfl) ?_
    refine cs_Vi (As := []) (rest := []) (wr := [(z1, .inr (4, [.ref t1, .ref t2])), (t2, .inr (7, [.int vs2, .int vn2])), (y1, .inr (2, [.ref y2, .int (nI yl), .int (nI yp)])), (y2, .inl (cI, 400, .inl yt))]) ⟨hx, hb, hml, hown, hts⟩ (c_ta_low l hcI t1 vs vn) (cwV 0 hts (cs_gV mw_166 mw_167 mw_168 mw_156 mw_110) rfl rfl rfl ⟨rfl, hd_Tally_lowBits⟩ ⟨Nat.le_of_ble_eq_true rfl, Nat.le_of_ble_eq_true rfl⟩) hN hK hP hD hS hA [1] [0, 2, 3, 4] rfl rfl rfl rfl (by decide) (ci := 7) rfl rfl rfl rfl rfl hl.1 (Nat.le_of_ble_eq_true rfl) d_LevelCode_readU_17 ⟨Nat.le_of_ble_eq_true rfl, Nat.le_of_ble_eq_true rfl⟩ (fun r7 w1 H locs hw hP hD hS => ?_)
    obtain ⟨rfl, rfl⟩ := hw
    have hP : va_P D vwCl [(z1, .inr (4, [.ref t1, .ref t2])), (t2, .inr (7, [.int vs2, .int vn2])), (y1, .inr (2, [.ref y2, .int (nI yl), .int (nI yp)])), (y2, .inl (cI, 400, .inl yt)), (t1, .inr (7, [.int vs, .int vn]))] H := hP
    have hD : va_D A [(z1, .inr (4, [.ref t1, .ref t2])), (t2, .inr (7, [.int vs2, .int vn2])), (y1, .inr (2, [.ref y2, .int (nI yl), .int (nI yp)])), (y2, .inl (cI, 400, .inl yt)), (t1, .inr (7, [.int vs, .int vn]))] := hD
    refine lv_istore (lv' := [(4, .int (nI (lowK vn vs))), (3, .ref t1), (0, .ref z1), (1, .ref y1), (2, .int (nI ix))]) hx hb d_LevelCode_readU_20 hl (by decide) rfl (fun ls hl => ?_)
    refine lv_aload_n hx hb d_LevelCode_readU_22 rfl (lv_at hl 3 rfl) ?_
    refine cs_Vi (As := []) (rest := []) (wr := [(z1, .inr (4, [.ref t1, .ref t2])), (t2, .inr (7, [.int vs2, .int vn2])), (t1, .inr (7, [.int vs, .int vn]))]) ⟨hx, hb, hml, hown, hts⟩ (c_br_ones l hcI y1 y2 yt yl yp (hyl) (by omega)) (cwV 0 hts (cs_gV mw_177 mw_178 mw_179 mw_133 mw_137) rfl rfl rfl ⟨rfl, hd_ByteRow_readOnes⟩ ⟨Nat.le_of_ble_eq_true rfl, Nat.le_of_ble_eq_true rfl⟩) hN hK hP hD hS hA [2, 3] [0, 1, 4] rfl rfl rfl rfl (by decide) (ci := 2) rfl rfl rfl rfl rfl hl.1 (Nat.le_of_ble_eq_true rfl) d_LevelCode_readU_23 ⟨Nat.le_of_ble_eq_true rfl, Nat.le_of_ble_eq_true rfl⟩ (fun r8 w1 H locs hw hP hD hS => ?_)
    obtain ⟨rfl, rfl⟩ := hw
    have hP : va_P D vwCl [(z1, .inr (4, [.ref t1, .ref t2])), (t2, .inr (7, [.int vs2, .int vn2])), (t1, .inr (7, [.int vs, .int vn])), (y1, .inr (2, [.ref y2, .int (nI yl), .int (nI (rdO yt yl 12 0 yp).2)])), (y2, .inl (cI, 400, .inl yt))] H := hP
    have hD : va_D A [(z1, .inr (4, [.ref t1, .ref t2])), (t2, .inr (7, [.int vs2, .int vn2])), (t1, .inr (7, [.int vs, .int vn])), (y1, .inr (2, [.ref y2, .int (nI yl), .int (nI (rdO yt yl 12 0 yp).2)])), (y2, .inl (cI, 400, .inl yt))] := hD
    refine lv_istore (lv' := [(5, .int ((rdO yt yl 12 0 yp).1)), (4, .int (nI (lowK vn vs))), (3, .ref t1), (0, .ref z1), (1, .ref y1), (2, .int (nI ix))]) hx hb d_LevelCode_readU_26 hl (by decide) rfl (fun ls hl => ?_)
    refine lv_iload hx hb d_LevelCode_readU_28 (lv_at hl 0 rfl) ?_
    refine lv_iconst (v := (-1)) hx hb d_LevelCode_readU_30 (by decide) ?_
    refine lv_icmp_ne (tgt := 36) hx hb d_LevelCode_readU_31 (by decide) (fun c_31 => ?_) (fun c_31 => ?_)
    · refine lv_iload hx hb d_LevelCode_readU_36 (lv_at hl 0 rfl) ?_
      refine lv_bipush (v := 12) hx hb d_LevelCode_readU_38 (by decide) ?_
      refine lv_icmp_ne (tgt := 47) hx hb d_LevelCode_readU_40 (by decide) (fun c_40 => ?_) (fun c_40 => ?_)
      · refine lv_iconst (v := 0) hx hb d_LevelCode_readU_47 (by decide) ?_
        refine lv_istore (lv' := [(6, .int 0), (5, .int ((rdO yt yl 12 0 yp).1)), (4, .int (nI (lowK vn vs))), (3, .ref t1), (0, .ref z1), (1, .ref y1), (2, .int (nI ix))]) hx hb d_LevelCode_readU_48 hl (by decide) rfl (fun ls hl => ?_)
        refine lv_aload_n hx hb d_LevelCode_readU_50 rfl (lv_at hl 5 rfl) ?_
        refine lv_iload hx hb d_LevelCode_readU_51 (lv_at hl 0 rfl) ?_
        refine lv_if_eq (tgt := 61) hx hb d_LevelCode_readU_53 (by decide) (fun c_53 => ?_) (fun c_53 => ?_)
        · refine lv_iload hx hb d_LevelCode_readU_61 (lv_at hl 2 rfl) ?_
          refine cs_Vi (As := [.int (nI (lowK vn vs))]) (rest := []) (wr := [(z1, .inr (4, [.ref t1, .ref t2])), (t2, .inr (7, [.int vs2, .int vn2])), (t1, .inr (7, [.int vs, .int vn]))]) ⟨hx, hb, hml, hown, hts⟩ (c_br_bits l hcI y1 y2 yt yl ((rdO yt yl 12 0 yp).2) (lowK vn vs) (hyl) (by have := rdO_le yt yl 12 0 yp; omega)) (cwV 1 hts (cs_gV mw_180 mw_181 mw_182 mw_133 mw_132) rfl rfl rfl ⟨rfl, hd_ByteRow_readBits⟩ ⟨Nat.le_of_ble_eq_true rfl, Nat.le_of_ble_eq_true rfl⟩) hN hK hP hD hS hA [3, 4] [0, 1, 2] rfl rfl rfl rfl (by decide) (ci := 2) rfl rfl rfl rfl rfl hl.1 (Nat.le_of_ble_eq_true rfl) d_LevelCode_readU_63 ⟨Nat.le_of_ble_eq_true rfl, Nat.le_of_ble_eq_true rfl⟩ (fun r9 w1 H locs hw hP hD hS => ?_)
          obtain ⟨rfl, rfl⟩ := hw
          have hP : va_P D vwCl [(z1, .inr (4, [.ref t1, .ref t2])), (t2, .inr (7, [.int vs2, .int vn2])), (t1, .inr (7, [.int vs, .int vn])), (y1, .inr (2, [.ref y2, .int (nI yl), .int (nI (rdB yt yl (lowK vn vs) ((rdO yt yl 12 0 yp).2) 0).2)])), (y2, .inl (cI, 400, .inl yt))] H := hP
          have hD : va_D A [(z1, .inr (4, [.ref t1, .ref t2])), (t2, .inr (7, [.int vs2, .int vn2])), (t1, .inr (7, [.int vs, .int vn])), (y1, .inr (2, [.ref y2, .int (nI yl), .int (nI (rdB yt yl (lowK vn vs) ((rdO yt yl 12 0 yp).2) 0).2)])), (y2, .inl (cI, 400, .inl yt))] := hD
          refine lv_istore (lv' := [(7, .int ((rdB yt yl (lowK vn vs) ((rdO yt yl 12 0 yp).2) 0).1)), (6, .int 0), (5, .int ((rdO yt yl 12 0 yp).1)), (4, .int (nI (lowK vn vs))), (3, .ref t1), (0, .ref z1), (1, .ref y1), (2, .int (nI ix))]) hx hb d_LevelCode_readU_66 hl (by decide) rfl (fun ls hl => ?_)
          refine lv_iload hx hb d_LevelCode_readU_68 (lv_at hl 0 rfl) ?_
          refine lv_iconst (v := (-1)) hx hb d_LevelCode_readU_70 (by decide) ?_
          refine lv_icmp_ne (tgt := 76) hx hb d_LevelCode_readU_71 (by decide) (fun c_71 => ?_) (fun c_71 => ?_)
          · refine lv_iload hx hb d_LevelCode_readU_76 (lv_at hl 1 rfl) ?_
            refine lv_if_eq (tgt := 86) hx hb d_LevelCode_readU_78 (by decide) (fun c_78 => ?_) (fun c_78 => ?_)
            · refine lv_iload hx hb d_LevelCode_readU_86 (lv_at hl 2 rfl) ?_
              refine lv_iload hx hb d_LevelCode_readU_88 (lv_at hl 3 rfl) ?_
              refine lv_ishl hx hb d_LevelCode_readU_90 ?_
              refine lv_iload hx hb d_LevelCode_readU_91 (lv_at hl 0 rfl) ?_
              refine lv_iadd hx hb d_LevelCode_readU_93 ?_
              refine lv_istore (lv' := [(8, .int ((((rdO yt yl 12 0 yp).1) <<< ((nI (lowK vn vs)) &&& 31)) + ((rdB yt yl (lowK vn vs) ((rdO yt yl 12 0 yp).2) 0).1))), (7, .int ((rdB yt yl (lowK vn vs) ((rdO yt yl 12 0 yp).2) 0).1)), (6, .int 0), (5, .int ((rdO yt yl 12 0 yp).1)), (4, .int (nI (lowK vn vs))), (3, .ref t1), (0, .ref z1), (1, .ref y1), (2, .int (nI ix))]) hx hb d_LevelCode_readU_94 hl (by decide) rfl (fun ls hl => ?_)
              refine lv_aload_n hx hb d_LevelCode_readU_96 rfl (lv_at hl 5 rfl) ?_
              refine lv_iload hx hb d_LevelCode_readU_97 (lv_at hl 0 rfl) ?_
              refine cs_Vv (As := [.int ((((rdO yt yl 12 0 yp).1) <<< ((nI (lowK vn vs)) &&& 31)) + ((rdB yt yl (lowK vn vs) ((rdO yt yl 12 0 yp).2) 0).1))]) (rest := []) (wr := [(z1, .inr (4, [.ref t1, .ref t2])), (t2, .inr (7, [.int vs2, .int vn2])), (y1, .inr (2, [.ref y2, .int (nI yl), .int (nI (rdB yt yl (lowK vn vs) ((rdO yt yl 12 0 yp).2) 0).2)])), (y2, .inl (cI, 400, .inl yt))]) ⟨hx, hb, hml, hown, hts⟩ (c_ta_learn l hcI t1 vs vn ((((rdO yt yl 12 0 yp).1) <<< ((nI (lowK vn vs)) &&& 31)) + ((rdB yt yl (lowK vn vs) ((rdO yt yl 12 0 yp).2) 0).1))) (cwV 1 hts (cs_gV mw_173 mw_174 mw_175 mw_156 mw_111) rfl rfl rfl ⟨rfl, hd_Tally_learn⟩ ⟨Nat.le_of_ble_eq_true rfl, Nat.le_of_ble_eq_true rfl⟩) hN hK hP hD hS hA [2] [0, 1, 3, 4] rfl rfl rfl rfl (by decide) (ci := 7) rfl rfl rfl rfl rfl hl.1 (Nat.le_of_ble_eq_true rfl) d_LevelCode_readU_99 ⟨Nat.le_of_ble_eq_true rfl, Nat.le_of_ble_eq_true rfl⟩ (fun w1 H locs hw hP hD hS => ?_)
              obtain rfl := hw
              have hP : va_P D vwCl [(z1, .inr (4, [.ref t1, .ref t2])), (t2, .inr (7, [.int vs2, .int vn2])), (y1, .inr (2, [.ref y2, .int (nI yl), .int (nI (rdB yt yl (lowK vn vs) ((rdO yt yl 12 0 yp).2) 0).2)])), (y2, .inl (cI, 400, .inl yt)), (t1, .inr (7, [.int (tlS vs vn ((((rdO yt yl 12 0 yp).1) <<< ((nI (lowK vn vs)) &&& 31)) + ((rdB yt yl (lowK vn vs) ((rdO yt yl 12 0 yp).2) 0).1))), .int (tlN vn)]))] H := hP
              have hD : va_D A [(z1, .inr (4, [.ref t1, .ref t2])), (t2, .inr (7, [.int vs2, .int vn2])), (y1, .inr (2, [.ref y2, .int (nI yl), .int (nI (rdB yt yl (lowK vn vs) ((rdO yt yl 12 0 yp).2) 0).2)])), (y2, .inl (cI, 400, .inl yt)), (t1, .inr (7, [.int (tlS vs vn ((((rdO yt yl 12 0 yp).1) <<< ((nI (lowK vn vs)) &&& 31)) + ((rdB yt yl (lowK vn vs) ((rdO yt yl 12 0 yp).2) 0).1))), .int (tlN vn)]))] := hD
              refine lv_iload hx hb d_LevelCode_readU_102 (lv_at hl 0 rfl) ?_
              have hP := hP.sub (ws' := [(z1, .inr (4, [.ref t1, .ref t2])), (t1, .inr (7, [.int (tlS vs vn ((((rdO yt yl 12 0 yp).1) <<< ((nI (lowK vn vs)) &&& 31)) + ((rdB yt yl (lowK vn vs) ((rdO yt yl 12 0 yp).2) 0).1))), .int (tlN vn)])), (t2, .inr (7, [.int vs2, .int vn2])), (y1, .inr (2, [.ref y2, .int (nI yl), .int (nI (rdB yt yl (lowK vn vs) ((rdO yt yl 12 0 yp).2) 0).2)])), (y2, .inl (cI, 400, .inl yt))]) [0, 4, 1, 2, 3] rfl
              have hD := hD.sub (ws' := [(z1, .inr (4, [.ref t1, .ref t2])), (t1, .inr (7, [.int (tlS vs vn ((((rdO yt yl 12 0 yp).1) <<< ((nI (lowK vn vs)) &&& 31)) + ((rdB yt yl (lowK vn vs) ((rdO yt yl 12 0 yp).2) 0).1))), .int (tlN vn)])), (t2, .inr (7, [.int vs2, .int vn2])), (y1, .inr (2, [.ref y2, .int (nI yl), .int (nI (rdB yt yl (lowK vn vs) ((rdO yt yl 12 0 yp).2) 0).2)])), (y2, .inl (cI, 400, .inl yt))]) [0, 4, 1, 2, 3] (by decide) rfl
              exact W.iret (v := ((((rdO yt yl 12 0 yp).1) <<< ((nI (lowK vn vs)) &&& 31)) + ((rdB yt yl (lowK vn vs) ((rdO yt yl 12 0 yp).2) 0).1))) hx hb hr (fun t ht hW => ⟨⟨((((rdO yt yl 12 0 yp).1) <<< ((nI (lowK vn vs)) &&& 31)) + ((rdB yt yl (lowK vn vs) ((rdO yt yl 12 0 yp).2) 0).1)), [(z1, .inr (4, [.ref t1, .ref t2])), (t1, .inr (7, [.int (tlS vs vn ((((rdO yt yl 12 0 yp).1) <<< ((nI (lowK vn vs)) &&& 31)) + ((rdB yt yl (lowK vn vs) ((rdO yt yl 12 0 yp).2) 0).1))), .int (tlN vn)])), (t2, .inr (7, [.int vs2, .int vn2])), (y1, .inr (2, [.ref y2, .int (nI yl), .int (nI (rdB yt yl (lowK vn vs) ((rdO yt yl 12 0 yp).2) 0).2)])), (y2, .inl (cI, 400, .inl yt))], rfl, ⟨(by rw [rdU, hK0]; simp [hix, c_31, c_40, c_71]), (by rw [rdU, hK0]; simp [hix, c_31, c_40, c_71])⟩, by rw [ht]; exact hP, va_K.moved hW.alike hK, hD⟩, hS.F ht⟩) hS.2.2 d_LevelCode_readU_104
            · exact absurd c_78 (by decide)
          · refine lv_iconst (v := (-1)) hx hb d_LevelCode_readU_74 (by decide) ?_
            have hP := hP.sub (ws' := [(z1, .inr (4, [.ref t1, .ref t2])), (t1, .inr (7, [.int vs, .int vn])), (t2, .inr (7, [.int vs2, .int vn2])), (y1, .inr (2, [.ref y2, .int (nI yl), .int (nI (rdB yt yl (lowK vn vs) ((rdO yt yl 12 0 yp).2) 0).2)])), (y2, .inl (cI, 400, .inl yt))]) [0, 2, 1, 3, 4] rfl
            have hD := hD.sub (ws' := [(z1, .inr (4, [.ref t1, .ref t2])), (t1, .inr (7, [.int vs, .int vn])), (t2, .inr (7, [.int vs2, .int vn2])), (y1, .inr (2, [.ref y2, .int (nI yl), .int (nI (rdB yt yl (lowK vn vs) ((rdO yt yl 12 0 yp).2) 0).2)])), (y2, .inl (cI, 400, .inl yt))]) [0, 2, 1, 3, 4] (by decide) rfl
            exact W.iret (v := (-1)) hx hb hr (fun t ht hW => ⟨⟨(-1), [(z1, .inr (4, [.ref t1, .ref t2])), (t1, .inr (7, [.int vs, .int vn])), (t2, .inr (7, [.int vs2, .int vn2])), (y1, .inr (2, [.ref y2, .int (nI yl), .int (nI (rdB yt yl (lowK vn vs) ((rdO yt yl 12 0 yp).2) 0).2)])), (y2, .inl (cI, 400, .inl yt))], rfl, ⟨(by rw [rdU, hK0]; simp [hix, c_31, c_40, c_71]), (by rw [rdU, hK0]; simp [hix, c_31, c_40, c_71])⟩, by rw [ht]; exact hP, va_K.moved hW.alike hK, hD⟩, hS.F ht⟩) hS.2.2 d_LevelCode_readU_75
        · exact absurd c_53 (by decide)
      · refine lv_iconst (v := 1) hx hb d_LevelCode_readU_43 (by decide) ?_
        refine lv_goto (tgt := 48) hx hb d_LevelCode_readU_44 (by decide) ?_
        refine lv_istore (lv' := [(6, .int 1), (5, .int ((rdO yt yl 12 0 yp).1)), (4, .int (nI (lowK vn vs))), (3, .ref t1), (0, .ref z1), (1, .ref y1), (2, .int (nI ix))]) hx hb d_LevelCode_readU_48 hl (by decide) rfl (fun ls hl => ?_)
        refine lv_aload_n hx hb d_LevelCode_readU_50 rfl (lv_at hl 5 rfl) ?_
        refine lv_iload hx hb d_LevelCode_readU_51 (lv_at hl 0 rfl) ?_
        refine lv_if_eq (tgt := 61) hx hb d_LevelCode_readU_53 (by decide) (fun c_53 => ?_) (fun c_53 => ?_)
        · exact absurd c_53 (by decide)
        · refine lv_bipush (v := 14) hx hb d_LevelCode_readU_56 (by decide) ?_
          refine lv_goto (tgt := 63) hx hb d_LevelCode_readU_58 (by decide) ?_
          refine cs_Vi (As := [.int 14]) (rest := []) (wr := [(z1, .inr (4, [.ref t1, .ref t2])), (t2, .inr (7, [.int vs2, .int vn2])), (t1, .inr (7, [.int vs, .int vn]))]) ⟨hx, hb, hml, hown, hts⟩ (c_br_bits l hcI y1 y2 yt yl ((rdO yt yl 12 0 yp).2) 14 (hyl) (by have := rdO_le yt yl 12 0 yp; omega)) (cwV 1 hts (cs_gV mw_180 mw_181 mw_182 mw_133 mw_132) rfl rfl rfl ⟨rfl, hd_ByteRow_readBits⟩ ⟨Nat.le_of_ble_eq_true rfl, Nat.le_of_ble_eq_true rfl⟩) hN hK hP hD hS hA [3, 4] [0, 1, 2] rfl rfl rfl rfl (by decide) (ci := 2) rfl rfl rfl rfl rfl hl.1 (Nat.le_of_ble_eq_true rfl) d_LevelCode_readU_63 ⟨Nat.le_of_ble_eq_true rfl, Nat.le_of_ble_eq_true rfl⟩ (fun r11 w1 H locs hw hP hD hS => ?_)
          obtain ⟨rfl, rfl⟩ := hw
          have hP : va_P D vwCl [(z1, .inr (4, [.ref t1, .ref t2])), (t2, .inr (7, [.int vs2, .int vn2])), (t1, .inr (7, [.int vs, .int vn])), (y1, .inr (2, [.ref y2, .int (nI yl), .int (nI (rdB yt yl 14 ((rdO yt yl 12 0 yp).2) 0).2)])), (y2, .inl (cI, 400, .inl yt))] H := hP
          have hD : va_D A [(z1, .inr (4, [.ref t1, .ref t2])), (t2, .inr (7, [.int vs2, .int vn2])), (t1, .inr (7, [.int vs, .int vn])), (y1, .inr (2, [.ref y2, .int (nI yl), .int (nI (rdB yt yl 14 ((rdO yt yl 12 0 yp).2) 0).2)])), (y2, .inl (cI, 400, .inl yt))] := hD
          refine lv_istore (lv' := [(7, .int ((rdB yt yl 14 ((rdO yt yl 12 0 yp).2) 0).1)), (6, .int 1), (5, .int ((rdO yt yl 12 0 yp).1)), (4, .int (nI (lowK vn vs))), (3, .ref t1), (0, .ref z1), (1, .ref y1), (2, .int (nI ix))]) hx hb d_LevelCode_readU_66 hl (by decide) rfl (fun ls hl => ?_)
          refine lv_iload hx hb d_LevelCode_readU_68 (lv_at hl 0 rfl) ?_
          refine lv_iconst (v := (-1)) hx hb d_LevelCode_readU_70 (by decide) ?_
          refine lv_icmp_ne (tgt := 76) hx hb d_LevelCode_readU_71 (by decide) (fun c_71 => ?_) (fun c_71 => ?_)
          · refine lv_iload hx hb d_LevelCode_readU_76 (lv_at hl 1 rfl) ?_
            refine lv_if_eq (tgt := 86) hx hb d_LevelCode_readU_78 (by decide) (fun c_78 => ?_) (fun c_78 => ?_)
            · exact absurd c_78 (by decide)
            · refine lv_iload hx hb d_LevelCode_readU_81 (lv_at hl 0 rfl) ?_
              refine lv_goto (tgt := 94) hx hb d_LevelCode_readU_83 (by decide) ?_
              refine lv_istore (lv' := [(8, .int ((rdB yt yl 14 ((rdO yt yl 12 0 yp).2) 0).1)), (7, .int ((rdB yt yl 14 ((rdO yt yl 12 0 yp).2) 0).1)), (6, .int 1), (5, .int ((rdO yt yl 12 0 yp).1)), (4, .int (nI (lowK vn vs))), (3, .ref t1), (0, .ref z1), (1, .ref y1), (2, .int (nI ix))]) hx hb d_LevelCode_readU_94 hl (by decide) rfl (fun ls hl => ?_)
              refine lv_aload_n hx hb d_LevelCode_readU_96 rfl (lv_at hl 5 rfl) ?_
              refine lv_iload hx hb d_LevelCode_readU_97 (lv_at hl 0 rfl) ?_
              refine cs_Vv (As := [.int ((rdB yt yl 14 ((rdO yt yl 12 0 yp).2) 0).1)]) (rest := []) (wr := [(z1, .inr (4, [.ref t1, .ref t2])), (t2, .inr (7, [.int vs2, .int vn2])), (y1, .inr (2, [.ref y2, .int (nI yl), .int (nI (rdB yt yl 14 ((rdO yt yl 12 0 yp).2) 0).2)])), (y2, .inl (cI, 400, .inl yt))]) ⟨hx, hb, hml, hown, hts⟩ (c_ta_learn l hcI t1 vs vn ((rdB yt yl 14 ((rdO yt yl 12 0 yp).2) 0).1)) (cwV 1 hts (cs_gV mw_173 mw_174 mw_175 mw_156 mw_111) rfl rfl rfl ⟨rfl, hd_Tally_learn⟩ ⟨Nat.le_of_ble_eq_true rfl, Nat.le_of_ble_eq_true rfl⟩) hN hK hP hD hS hA [2] [0, 1, 3, 4] rfl rfl rfl rfl (by decide) (ci := 7) rfl rfl rfl rfl rfl hl.1 (Nat.le_of_ble_eq_true rfl) d_LevelCode_readU_99 ⟨Nat.le_of_ble_eq_true rfl, Nat.le_of_ble_eq_true rfl⟩ (fun w1 H locs hw hP hD hS => ?_)
              obtain rfl := hw
              have hP : va_P D vwCl [(z1, .inr (4, [.ref t1, .ref t2])), (t2, .inr (7, [.int vs2, .int vn2])), (y1, .inr (2, [.ref y2, .int (nI yl), .int (nI (rdB yt yl 14 ((rdO yt yl 12 0 yp).2) 0).2)])), (y2, .inl (cI, 400, .inl yt)), (t1, .inr (7, [.int (tlS vs vn ((rdB yt yl 14 ((rdO yt yl 12 0 yp).2) 0).1)), .int (tlN vn)]))] H := hP
              have hD : va_D A [(z1, .inr (4, [.ref t1, .ref t2])), (t2, .inr (7, [.int vs2, .int vn2])), (y1, .inr (2, [.ref y2, .int (nI yl), .int (nI (rdB yt yl 14 ((rdO yt yl 12 0 yp).2) 0).2)])), (y2, .inl (cI, 400, .inl yt)), (t1, .inr (7, [.int (tlS vs vn ((rdB yt yl 14 ((rdO yt yl 12 0 yp).2) 0).1)), .int (tlN vn)]))] := hD
              refine lv_iload hx hb d_LevelCode_readU_102 (lv_at hl 0 rfl) ?_
              have hP := hP.sub (ws' := [(z1, .inr (4, [.ref t1, .ref t2])), (t1, .inr (7, [.int (tlS vs vn ((rdB yt yl 14 ((rdO yt yl 12 0 yp).2) 0).1)), .int (tlN vn)])), (t2, .inr (7, [.int vs2, .int vn2])), (y1, .inr (2, [.ref y2, .int (nI yl), .int (nI (rdB yt yl 14 ((rdO yt yl 12 0 yp).2) 0).2)])), (y2, .inl (cI, 400, .inl yt))]) [0, 4, 1, 2, 3] rfl
              have hD := hD.sub (ws' := [(z1, .inr (4, [.ref t1, .ref t2])), (t1, .inr (7, [.int (tlS vs vn ((rdB yt yl 14 ((rdO yt yl 12 0 yp).2) 0).1)), .int (tlN vn)])), (t2, .inr (7, [.int vs2, .int vn2])), (y1, .inr (2, [.ref y2, .int (nI yl), .int (nI (rdB yt yl 14 ((rdO yt yl 12 0 yp).2) 0).2)])), (y2, .inl (cI, 400, .inl yt))]) [0, 4, 1, 2, 3] (by decide) rfl
              exact W.iret (v := ((rdB yt yl 14 ((rdO yt yl 12 0 yp).2) 0).1)) hx hb hr (fun t ht hW => ⟨⟨((rdB yt yl 14 ((rdO yt yl 12 0 yp).2) 0).1), [(z1, .inr (4, [.ref t1, .ref t2])), (t1, .inr (7, [.int (tlS vs vn ((rdB yt yl 14 ((rdO yt yl 12 0 yp).2) 0).1)), .int (tlN vn)])), (t2, .inr (7, [.int vs2, .int vn2])), (y1, .inr (2, [.ref y2, .int (nI yl), .int (nI (rdB yt yl 14 ((rdO yt yl 12 0 yp).2) 0).2)])), (y2, .inl (cI, 400, .inl yt))], rfl, ⟨(by rw [rdU, hK0]; simp [hix, c_31, c_40, c_71]), (by rw [rdU, hK0]; simp [hix, c_31, c_40, c_71])⟩, by rw [ht]; exact hP, va_K.moved hW.alike hK, hD⟩, hS.F ht⟩) hS.2.2 d_LevelCode_readU_104
          · refine lv_iconst (v := (-1)) hx hb d_LevelCode_readU_74 (by decide) ?_
            have hP := hP.sub (ws' := [(z1, .inr (4, [.ref t1, .ref t2])), (t1, .inr (7, [.int vs, .int vn])), (t2, .inr (7, [.int vs2, .int vn2])), (y1, .inr (2, [.ref y2, .int (nI yl), .int (nI (rdB yt yl 14 ((rdO yt yl 12 0 yp).2) 0).2)])), (y2, .inl (cI, 400, .inl yt))]) [0, 2, 1, 3, 4] rfl
            have hD := hD.sub (ws' := [(z1, .inr (4, [.ref t1, .ref t2])), (t1, .inr (7, [.int vs, .int vn])), (t2, .inr (7, [.int vs2, .int vn2])), (y1, .inr (2, [.ref y2, .int (nI yl), .int (nI (rdB yt yl 14 ((rdO yt yl 12 0 yp).2) 0).2)])), (y2, .inl (cI, 400, .inl yt))]) [0, 2, 1, 3, 4] (by decide) rfl
            exact W.iret (v := (-1)) hx hb hr (fun t ht hW => ⟨⟨(-1), [(z1, .inr (4, [.ref t1, .ref t2])), (t1, .inr (7, [.int vs, .int vn])), (t2, .inr (7, [.int vs2, .int vn2])), (y1, .inr (2, [.ref y2, .int (nI yl), .int (nI (rdB yt yl 14 ((rdO yt yl 12 0 yp).2) 0).2)])), (y2, .inl (cI, 400, .inl yt))], rfl, ⟨(by rw [rdU, hK0]; simp [hix, c_31, c_40, c_71]), (by rw [rdU, hK0]; simp [hix, c_31, c_40, c_71])⟩, by rw [ht]; exact hP, va_K.moved hW.alike hK, hD⟩, hS.F ht⟩) hS.2.2 d_LevelCode_readU_75
    · refine lv_iconst (v := (-1)) hx hb d_LevelCode_readU_34 (by decide) ?_
      have hP := hP.sub (ws' := [(z1, .inr (4, [.ref t1, .ref t2])), (t1, .inr (7, [.int vs, .int vn])), (t2, .inr (7, [.int vs2, .int vn2])), (y1, .inr (2, [.ref y2, .int (nI yl), .int (nI (rdO yt yl 12 0 yp).2)])), (y2, .inl (cI, 400, .inl yt))]) [0, 2, 1, 3, 4] rfl
      have hD := hD.sub (ws' := [(z1, .inr (4, [.ref t1, .ref t2])), (t1, .inr (7, [.int vs, .int vn])), (t2, .inr (7, [.int vs2, .int vn2])), (y1, .inr (2, [.ref y2, .int (nI yl), .int (nI (rdO yt yl 12 0 yp).2)])), (y2, .inl (cI, 400, .inl yt))]) [0, 2, 1, 3, 4] (by decide) rfl
      exact W.iret (v := (-1)) hx hb hr (fun t ht hW => ⟨⟨(-1), [(z1, .inr (4, [.ref t1, .ref t2])), (t1, .inr (7, [.int vs, .int vn])), (t2, .inr (7, [.int vs2, .int vn2])), (y1, .inr (2, [.ref y2, .int (nI yl), .int (nI (rdO yt yl 12 0 yp).2)])), (y2, .inl (cI, 400, .inl yt))], rfl, ⟨(by simp [rdU, c_31]), (by simp [rdU, c_31])⟩, by rw [ht]; exact hP, va_K.moved hW.alike hK, hD⟩, hS.F ht⟩) hS.2.2 d_LevelCode_readU_35
