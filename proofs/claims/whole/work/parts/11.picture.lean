def y_Picture_init : MethodName := ⟨"TileForge$Picture", "<init>", "()V"⟩
def ws_Picture_init : List Cond := .code y_Picture_init prog_7_method_1_code 1 none :: GW
theorem mw_79 : (.code ⟨"TileForge$Picture", "<init>", "()V"⟩ prog_7_method_1_code 1 none : Cond) ∈ GW := List.mem_filter.mpr ⟨(List.mem_append_right _ (List.mem_append_left _ (List.mem_of_getElem? (i := 32) rfl))), rfl⟩
theorem hd_Picture_init : y_Picture_init.cls ≠ "java/lang/invoke/MethodHandle" ∧ y_Picture_init.cls ≠ "java/lang/invoke/VarHandle" ∧ (parseMethodDescriptor y_Picture_init.desc).map (fun d => d.parameters.length) = some 0 := by decide +kernel
theorem d_Picture_init_0 : decode prog_7_method_1_code 0 = .ok (.aload_n 0, 1) := by decide +kernel
theorem d_Picture_init_1 : decode prog_7_method_1_code 1 = .ok (.invokespecial 3, 3) := by decide +kernel
theorem d_Picture_init_4 : decode prog_7_method_1_code 4 = .ok (.aload_n 0, 1) := by decide +kernel
theorem d_Picture_init_5 : decode prog_7_method_1_code 5 = .ok (.sipush 144, 3) := by decide +kernel
theorem d_Picture_init_8 : decode prog_7_method_1_code 8 = .ok (.newarray .int, 2) := by decide +kernel
theorem d_Picture_init_10 : decode prog_7_method_1_code 10 = .ok (.putfield 9, 3) := by decide +kernel
theorem d_Picture_init_13 : decode prog_7_method_1_code 13 = .ok (.aload_n 0, 1) := by decide +kernel
theorem d_Picture_init_14 : decode prog_7_method_1_code 14 = .ok (.bipush 9, 2) := by decide +kernel
theorem d_Picture_init_16 : decode prog_7_method_1_code 16 = .ok (.newarray .int, 2) := by decide +kernel
theorem d_Picture_init_18 : decode prog_7_method_1_code 18 = .ok (.putfield 15, 3) := by decide +kernel
theorem d_Picture_init_21 : decode prog_7_method_1_code 21 = .ok (.return_, 1) := by decide +kernel
theorem mw_80 : (.methodLink "TileForge$Picture" 3 objectInit : Cond) ∈ GW := List.mem_filter.mpr ⟨(List.mem_append_right _ (List.mem_append_left _ (List.mem_of_getElem? (i := 33) rfl))), rfl⟩
theorem mw_81 : (.instanceMethod objectInit : Cond) ∈ GW := List.mem_filter.mpr ⟨(List.mem_append_right _ (List.mem_append_left _ (List.mem_of_getElem? (i := 26) rfl))), rfl⟩
theorem mw_82 : (.code objectInit ⟨#[0xb1]⟩ 1 none : Cond) ∈ GW := List.mem_filter.mpr ⟨(List.mem_append_right _ (List.mem_append_left _ (List.mem_of_getElem? (i := 27) rfl))), rfl⟩
theorem mw_83 : (.arrayClass .int : Cond) ∈ GW := List.mem_filter.mpr ⟨(List.mem_append_right _ (List.mem_append_left _ (List.mem_of_getElem? (i := 62) rfl))), rfl⟩
theorem mw_84 : (.fieldLink "TileForge$Picture" 9 "TileForge$Picture" "pixels" "[I" : Cond) ∈ GW := List.mem_filter.mpr ⟨(List.mem_append_right _ (List.mem_append_left _ (List.mem_of_getElem? (i := 34) rfl))), rfl⟩
theorem mw_85 : (.fieldLink "TileForge$Picture" 15 "TileForge$Picture" "modes" "[I" : Cond) ∈ GW := List.mem_filter.mpr ⟨(List.mem_append_right _ (List.mem_append_left _ (List.mem_of_getElem? (i := 35) rfl))), rfl⟩
def q_pic_init (cI : ClassId) (a1 : Nat) : va_W → Prop := fun ww => ∃ (a2 : Nat) (a3 : Nat), ww = [(a1, .inr (5, [.ref a2, .ref a3, .int 0, .int 0, .int 0, .int 0])), (a2, .inl (cI, 144, .inl (fun _ => 0))), (a3, .inl (cI, 9, .inl (fun _ => 0)))]
set_option maxHeartbeats 4000000 in
set_option maxRecDepth 100000 in
theorem c_pic_init (l : Launch) {D : va_G} {tys : List (ClassId × FieldType)} {cI : ClassId} (hcI : tys[0]? = some (cI, .int)) (a1 : Nat) : CsV l D vwCl tys y_Picture_init ws_Picture_init ({ frames := 1, cells := 2, slots := 153, locals := 12 } : Room) [.ref a1] [(a1, .inr (5, [.null, .null, .int 0, .int 0, .int 0, .int 0]))] (q_pic_init cI a1) 2 153 := by
  intro sz
  refine Met.ofW (cc := prog_7_method_1_code) (maxL := 1) (ret := none) (by decide) rfl ?_
  intro p e s m args below meth c s₁ B hml hv
  obtain ⟨rfl, hsz, hP, hK, hD0, hN⟩ := hv
  have hx := B.exec
  have hb := B.bytes
  have hr := B.returns
  have hts := atoms_spec (ws := ws_Picture_init) B.pre
  have hown : s.vm.findClass "TileForge$Picture" = some m.cls := findClass_of_methodNamed B.named
  have hlocks := B.notSynchronized
  have hin : meth.name = "<init>" := (name_of_methodNamed B.named B.method).1
  subst hsz
  have hD := hD0.self (sz := s.heap.size)
  generalize hAe : va_A [(a1, .inr (5, [.null, .null, .int 0, .int 0, .int 0, .int 0]))] s.heap.size = A at hD ⊢
  have hA : ∀ q : Nat, s.heap.size ≤ q → A q := fun q h => by rw [← hAe]; exact Or.inr h
  have hS : va_S A s.heap s.heap [] := va_S.rf
  have hP : va_P D vwCl [(a1, .inr (5, [.null, .null, .int 0, .int 0, .int 0, .int 0]))] s.heap := hP
  have hl := lv_entry ([.ref a1]) (n := 1) (Nat.le_of_ble_eq_true rfl)
  rw [lg_entry_eq]
  generalize (lg_sl ([.ref a1]) ++ List.replicate (1 - (lg_sl ([.ref a1])).length) Slot.unset).toArray = ls at hl ⊢
  have hl : lv_has ls 1 [(0, .ref a1)] := hl
  refine lv_aload_n hx hb d_Picture_init_0 rfl (lv_at hl 0 rfl) ?_
  refine W.objInit hx hb hown (hts _ (cs_m mw_80)) (hts _ (cs_m mw_81)) (hts _ (cs_m mw_82)) rfl (by rw [hml]; exact hl.1) rfl d_Picture_init_1 (Nat.le_of_ble_eq_true rfl) (Nat.le_of_ble_eq_true rfl) ?_
  refine W.eq (g2 := F0 m 4 ls []) rfl ?_
  refine lv_aload_n hx hb d_Picture_init_4 rfl (lv_at hl 0 rfl) ?_
  refine lv_sipush (v := 144) hx hb d_Picture_init_5 (by decide) ?_
  refine cs_newi (N := 144) hx hb (hts _ (cs_m mw_83)) hK hcI hP hD hS hA (by decide) rfl (by decide) (Nat.le_of_ble_eq_true rfl) (Nat.le_of_ble_eq_true rfl) d_Picture_init_8 (fun q1 H hP hD hS => ?_)
  have hP : va_P D vwCl [(a1, .inr (5, [.null, .null, .int 0, .int 0, .int 0, .int 0])), (q1, .inl (cI, 144, .inl (fun _ => 0)))] H := hP
  have hD : va_D A [(a1, .inr (5, [.null, .null, .int 0, .int 0, .int 0, .int 0])), (q1, .inl (cI, 144, .inl (fun _ => 0)))] := hD
  refine va_putF (D := D) (ci := 5) (v := .ref q1) (ty := .array .int) (C := "TileForge$Picture") (T := T_Picture) (N := 6) hx hb hts (cs_in in_Picture) ty_Picture tok_Picture nm_Picture hown hK hP hD hS 0 rfl rfl 0 (by decide) (hts _ (cs_m mw_84)) (fun _ h9 => h9) rfl hin rfl (by decide +kernel) rfl rfl (Nat.le_of_ble_eq_true rfl) d_Picture_init_10 (fun H locs hP hD hS => ?_)
  have hP : va_P D vwCl [(a1, .inr (5, [.ref q1, .null, .int 0, .int 0, .int 0, .int 0])), (q1, .inl (cI, 144, .inl (fun _ => 0)))] H := hP
  have hD : va_D A [(a1, .inr (5, [.ref q1, .null, .int 0, .int 0, .int 0, .int 0])), (q1, .inl (cI, 144, .inl (fun _ => 0)))] := hD
  refine lv_aload_n hx hb d_Picture_init_13 rfl (lv_at hl 0 rfl) ?_
  refine lv_bipush (v := 9) hx hb d_Picture_init_14 (by decide) ?_
  refine cs_newi (N := 9) hx hb (hts _ (cs_m mw_83)) hK hcI hP hD hS hA (by decide) rfl (by decide) (Nat.le_of_ble_eq_true rfl) (Nat.le_of_ble_eq_true rfl) d_Picture_init_16 (fun q2 H hP hD hS => ?_)
  have hP : va_P D vwCl [(a1, .inr (5, [.ref q1, .null, .int 0, .int 0, .int 0, .int 0])), (q1, .inl (cI, 144, .inl (fun _ => 0))), (q2, .inl (cI, 9, .inl (fun _ => 0)))] H := hP
  have hD : va_D A [(a1, .inr (5, [.ref q1, .null, .int 0, .int 0, .int 0, .int 0])), (q1, .inl (cI, 144, .inl (fun _ => 0))), (q2, .inl (cI, 9, .inl (fun _ => 0)))] := hD
  refine va_putF (D := D) (ci := 5) (v := .ref q2) (ty := .array .int) (C := "TileForge$Picture") (T := T_Picture) (N := 6) hx hb hts (cs_in in_Picture) ty_Picture tok_Picture nm_Picture hown hK hP hD hS 0 rfl rfl 1 (by decide) (hts _ (cs_m mw_85)) (fun _ h9 => h9) rfl hin rfl (by decide +kernel) rfl rfl (Nat.le_of_ble_eq_true rfl) d_Picture_init_18 (fun H locs hP hD hS => ?_)
  have hP : va_P D vwCl [(a1, .inr (5, [.ref q1, .ref q2, .int 0, .int 0, .int 0, .int 0])), (q1, .inl (cI, 144, .inl (fun _ => 0))), (q2, .inl (cI, 9, .inl (fun _ => 0)))] H := hP
  have hD : va_D A [(a1, .inr (5, [.ref q1, .ref q2, .int 0, .int 0, .int 0, .int 0])), (q1, .inl (cI, 144, .inl (fun _ => 0))), (q2, .inl (cI, 9, .inl (fun _ => 0)))] := hD
  refine W.widen (k := 2) (n := 153) (Nat.le_of_ble_eq_true rfl) (Nat.le_of_ble_eq_true rfl) ?_
  exact W.vret hx hb hr (fun t ht hW => ⟨⟨[(a1, .inr (5, [.ref q1, .ref q2, .int 0, .int 0, .int 0, .int 0])), (q1, .inl (cI, 144, .inl (fun _ => 0))), (q2, .inl (cI, 9, .inl (fun _ => 0)))], rfl, ⟨q1, q2, (rfl)⟩, by rw [ht]; exact hP, va_K.moved hW.alike hK, hD⟩, hS.F ht⟩) hS.2.2 d_Picture_init_21
def y_Picture_begin : MethodName := ⟨"TileForge$Picture", "begin", "(II)V"⟩
def ws_Picture_begin : List Cond := .code y_Picture_begin prog_7_method_2_code 4 none :: GW
theorem mw_86 : (.code ⟨"TileForge$Picture", "begin", "(II)V"⟩ prog_7_method_2_code 4 none : Cond) ∈ GW := List.mem_filter.mpr ⟨(List.mem_append_right _ (List.mem_append_left _ (List.mem_of_getElem? (i := 66) rfl))), rfl⟩
theorem hd_Picture_begin : y_Picture_begin.cls ≠ "java/lang/invoke/MethodHandle" ∧ y_Picture_begin.cls ≠ "java/lang/invoke/VarHandle" ∧ (parseMethodDescriptor y_Picture_begin.desc).map (fun d => d.parameters.length) = some 2 := by decide +kernel
theorem d_Picture_begin_0 : decode prog_7_method_2_code 0 = .ok (.aload_n 0, 1) := by decide +kernel
theorem d_Picture_begin_1 : decode prog_7_method_2_code 1 = .ok (.iconst 1, 1) := by decide +kernel
theorem d_Picture_begin_2 : decode prog_7_method_2_code 2 = .ok (.putfield 18, 3) := by decide +kernel
theorem d_Picture_begin_5 : decode prog_7_method_2_code 5 = .ok (.aload_n 0, 1) := by decide +kernel
theorem d_Picture_begin_6 : decode prog_7_method_2_code 6 = .ok (.iload_n 1, 1) := by decide +kernel
theorem d_Picture_begin_7 : decode prog_7_method_2_code 7 = .ok (.putfield 22, 3) := by decide +kernel
theorem d_Picture_begin_10 : decode prog_7_method_2_code 10 = .ok (.aload_n 0, 1) := by decide +kernel
theorem d_Picture_begin_11 : decode prog_7_method_2_code 11 = .ok (.iload_n 2, 1) := by decide +kernel
theorem d_Picture_begin_12 : decode prog_7_method_2_code 12 = .ok (.putfield 26, 3) := by decide +kernel
theorem d_Picture_begin_15 : decode prog_7_method_2_code 15 = .ok (.aload_n 0, 1) := by decide +kernel
theorem d_Picture_begin_16 : decode prog_7_method_2_code 16 = .ok (.iconst 0, 1) := by decide +kernel
theorem d_Picture_begin_17 : decode prog_7_method_2_code 17 = .ok (.putfield 29, 3) := by decide +kernel
theorem d_Picture_begin_20 : decode prog_7_method_2_code 20 = .ok (.iconst 0, 1) := by decide +kernel
theorem d_Picture_begin_21 : decode prog_7_method_2_code 21 = .ok (.istore_n 3, 1) := by decide +kernel
theorem d_Picture_begin_22 : decode prog_7_method_2_code 22 = .ok (.iload_n 3, 1) := by decide +kernel
theorem d_Picture_begin_23 : decode prog_7_method_2_code 23 = .ok (.aload_n 0, 1) := by decide +kernel
theorem d_Picture_begin_24 : decode prog_7_method_2_code 24 = .ok (.getfield 9, 3) := by decide +kernel
theorem d_Picture_begin_27 : decode prog_7_method_2_code 27 = .ok (.arraylength, 1) := by decide +kernel
theorem d_Picture_begin_28 : decode prog_7_method_2_code 28 = .ok (.if_icmp .ge 16, 3) := by decide +kernel
theorem d_Picture_begin_31 : decode prog_7_method_2_code 31 = .ok (.aload_n 0, 1) := by decide +kernel
theorem d_Picture_begin_32 : decode prog_7_method_2_code 32 = .ok (.getfield 9, 3) := by decide +kernel
theorem d_Picture_begin_35 : decode prog_7_method_2_code 35 = .ok (.iload_n 3, 1) := by decide +kernel
theorem d_Picture_begin_36 : decode prog_7_method_2_code 36 = .ok (.iconst 0, 1) := by decide +kernel
theorem d_Picture_begin_37 : decode prog_7_method_2_code 37 = .ok (.iastore, 1) := by decide +kernel
theorem d_Picture_begin_38 : decode prog_7_method_2_code 38 = .ok (.iinc 3 1, 3) := by decide +kernel
theorem d_Picture_begin_41 : decode prog_7_method_2_code 41 = .ok (.goto (-19), 3) := by decide +kernel
theorem d_Picture_begin_44 : decode prog_7_method_2_code 44 = .ok (.return_, 1) := by decide +kernel
theorem mw_87 : (.fieldLink "TileForge$Picture" 18 "TileForge$Picture" "made" "Z" : Cond) ∈ GW := List.mem_filter.mpr ⟨(List.mem_append_right _ (List.mem_append_left _ (List.mem_of_getElem? (i := 37) rfl))), rfl⟩
theorem mw_88 : (.fieldLink "TileForge$Picture" 22 "TileForge$Picture" "width" "I" : Cond) ∈ GW := List.mem_filter.mpr ⟨(List.mem_append_right _ (List.mem_append_left _ (List.mem_of_getElem? (i := 39) rfl))), rfl⟩
theorem mw_89 : (.fieldLink "TileForge$Picture" 26 "TileForge$Picture" "height" "I" : Cond) ∈ GW := List.mem_filter.mpr ⟨(List.mem_append_right _ (List.mem_append_left _ (List.mem_of_getElem? (i := 43) rfl))), rfl⟩
theorem mw_90 : (.fieldLink "TileForge$Picture" 29 "TileForge$Picture" "modesKnown" "I" : Cond) ∈ GW := List.mem_filter.mpr ⟨(List.mem_append_right _ (List.mem_append_left _ (List.mem_of_getElem? (i := 47) rfl))), rfl⟩
def q_pic_begin (cI : ClassId) (a1 : Nat) (a2 : Nat) (a3 : Nat) (px : Nat → Int32) (md : Nat → Int32) (vz : Int32) (vw : Int32) (vh : Int32) (vk : Int32) (nw : Int32) (nh : Int32) : va_W → Prop := fun ww => ∃ (px' : Nat → Int32), (∀ j, j < 144 → px' j = 0) ∧ ww = [(a1, .inr (5, [.ref a2, .ref a3, .int 1, .int nw, .int nh, .int 0])), (a2, .inl (cI, 144, .inl px')), (a3, .inl (cI, 9, .inl md))]
set_option maxHeartbeats 4000000 in
set_option maxRecDepth 100000 in
theorem c_pic_begin (l : Launch) {D : va_G} {tys : List (ClassId × FieldType)} {cI : ClassId} (hcI : tys[0]? = some (cI, .int)) (a1 : Nat) (a2 : Nat) (a3 : Nat) (px : Nat → Int32) (md : Nat → Int32) (vz : Int32) (vw : Int32) (vh : Int32) (vk : Int32) (nw : Int32) (nh : Int32) : CsV l D vwCl tys y_Picture_begin ws_Picture_begin ({ frames := 0, cells := 0, slots := 0, locals := 0 } : Room) [.ref a1, .int nw, .int nh] [(a1, .inr (5, [.ref a2, .ref a3, .int vz, .int vw, .int vh, .int vk])), (a2, .inl (cI, 144, .inl px)), (a3, .inl (cI, 9, .inl md))] (q_pic_begin cI a1 a2 a3 px md vz vw vh vk nw nh) 0 0 := by
  intro sz
  refine Met.ofW (cc := prog_7_method_2_code) (maxL := 4) (ret := none) (by decide) rfl ?_
  intro p e s m args below meth c s₁ B hml hv
  obtain ⟨rfl, hsz, hP, hK, hD0, hN⟩ := hv
  have hx := B.exec
  have hb := B.bytes
  have hr := B.returns
  have hts := atoms_spec (ws := ws_Picture_begin) B.pre
  have hown : s.vm.findClass "TileForge$Picture" = some m.cls := findClass_of_methodNamed B.named
  have hlocks := B.notSynchronized
  subst hsz
  have hD := hD0.self (sz := s.heap.size)
  generalize hAe : va_A [(a1, .inr (5, [.ref a2, .ref a3, .int vz, .int vw, .int vh, .int vk])), (a2, .inl (cI, 144, .inl px)), (a3, .inl (cI, 9, .inl md))] s.heap.size = A at hD ⊢
  have hA : ∀ q : Nat, s.heap.size ≤ q → A q := fun q h => by rw [← hAe]; exact Or.inr h
  have hS : va_S A s.heap s.heap [] := va_S.rf
  have hP : va_P D vwCl [(a1, .inr (5, [.ref a2, .ref a3, .int vz, .int vw, .int vh, .int vk])), (a2, .inl (cI, 144, .inl px)), (a3, .inl (cI, 9, .inl md))] s.heap := hP
  have hl := lv_entry ([.ref a1, .int nw, .int nh]) (n := 4) (Nat.le_of_ble_eq_true rfl)
  rw [lg_entry_eq]
  generalize (lg_sl ([.ref a1, .int nw, .int nh]) ++ List.replicate (4 - (lg_sl ([.ref a1, .int nw, .int nh])).length) Slot.unset).toArray = ls at hl ⊢
  have hl : lv_has ls 4 [(0, .ref a1), (1, .int nw), (2, .int nh)] := hl
  refine lv_aload_n hx hb d_Picture_begin_0 rfl (lv_at hl 0 rfl) ?_
  refine lv_iconst (v := 1) hx hb d_Picture_begin_1 (by decide) ?_
  refine va_put (D := D) (ci := 5) (v := .int 1) (ty := .boolean) (C := "TileForge$Picture") (T := T_Picture) (N := 6) hx hb hts (cs_in in_Picture) ty_Picture tok_Picture nm_Picture hown hK hP hD hS 0 rfl rfl 2 (by decide) (hts _ (cs_m mw_87)) (fun _ h9 => h9) rfl (by decide +kernel) rfl rfl (Nat.le_of_ble_eq_true rfl) d_Picture_begin_2 (fun H locs hP hD hS => ?_)
  have hP : va_P D vwCl [(a1, .inr (5, [.ref a2, .ref a3, .int 1, .int vw, .int vh, .int vk])), (a2, .inl (cI, 144, .inl px)), (a3, .inl (cI, 9, .inl md))] H := hP
  have hD : va_D A [(a1, .inr (5, [.ref a2, .ref a3, .int 1, .int vw, .int vh, .int vk])), (a2, .inl (cI, 144, .inl px)), (a3, .inl (cI, 9, .inl md))] := hD
  refine lv_aload_n hx hb d_Picture_begin_5 rfl (lv_at hl 0 rfl) ?_
  refine lv_iload_n hx hb d_Picture_begin_6 rfl (lv_at hl 1 rfl) ?_
  refine va_put (D := D) (ci := 5) (v := .int nw) (ty := .int) (C := "TileForge$Picture") (T := T_Picture) (N := 6) hx hb hts (cs_in in_Picture) ty_Picture tok_Picture nm_Picture hown hK hP hD hS 0 rfl rfl 3 (by decide) (hts _ (cs_m mw_88)) (fun _ h9 => h9) rfl (by decide +kernel) rfl rfl (Nat.le_of_ble_eq_true rfl) d_Picture_begin_7 (fun H locs hP hD hS => ?_)
  have hP : va_P D vwCl [(a1, .inr (5, [.ref a2, .ref a3, .int 1, .int nw, .int vh, .int vk])), (a2, .inl (cI, 144, .inl px)), (a3, .inl (cI, 9, .inl md))] H := hP
  have hD : va_D A [(a1, .inr (5, [.ref a2, .ref a3, .int 1, .int nw, .int vh, .int vk])), (a2, .inl (cI, 144, .inl px)), (a3, .inl (cI, 9, .inl md))] := hD
  refine lv_aload_n hx hb d_Picture_begin_10 rfl (lv_at hl 0 rfl) ?_
  refine lv_iload_n hx hb d_Picture_begin_11 rfl (lv_at hl 2 rfl) ?_
  refine va_put (D := D) (ci := 5) (v := .int nh) (ty := .int) (C := "TileForge$Picture") (T := T_Picture) (N := 6) hx hb hts (cs_in in_Picture) ty_Picture tok_Picture nm_Picture hown hK hP hD hS 0 rfl rfl 4 (by decide) (hts _ (cs_m mw_89)) (fun _ h9 => h9) rfl (by decide +kernel) rfl rfl (Nat.le_of_ble_eq_true rfl) d_Picture_begin_12 (fun H locs hP hD hS => ?_)
  have hP : va_P D vwCl [(a1, .inr (5, [.ref a2, .ref a3, .int 1, .int nw, .int nh, .int vk])), (a2, .inl (cI, 144, .inl px)), (a3, .inl (cI, 9, .inl md))] H := hP
  have hD : va_D A [(a1, .inr (5, [.ref a2, .ref a3, .int 1, .int nw, .int nh, .int vk])), (a2, .inl (cI, 144, .inl px)), (a3, .inl (cI, 9, .inl md))] := hD
  refine lv_aload_n hx hb d_Picture_begin_15 rfl (lv_at hl 0 rfl) ?_
  refine lv_iconst (v := 0) hx hb d_Picture_begin_16 (by decide) ?_
  refine va_put (D := D) (ci := 5) (v := .int 0) (ty := .int) (C := "TileForge$Picture") (T := T_Picture) (N := 6) hx hb hts (cs_in in_Picture) ty_Picture tok_Picture nm_Picture hown hK hP hD hS 0 rfl rfl 5 (by decide) (hts _ (cs_m mw_90)) (fun _ h9 => h9) rfl (by decide +kernel) rfl rfl (Nat.le_of_ble_eq_true rfl) d_Picture_begin_17 (fun H locs hP hD hS => ?_)
  have hP : va_P D vwCl [(a1, .inr (5, [.ref a2, .ref a3, .int 1, .int nw, .int nh, .int 0])), (a2, .inl (cI, 144, .inl px)), (a3, .inl (cI, 9, .inl md))] H := hP
  have hD : va_D A [(a1, .inr (5, [.ref a2, .ref a3, .int 1, .int nw, .int nh, .int 0])), (a2, .inl (cI, 144, .inl px)), (a3, .inl (cI, 9, .inl md))] := hD
  refine lv_iconst (v := 0) hx hb d_Picture_begin_20 (by decide) ?_
  refine lv_istore_n (lv' := [(3, .int 0), (0, .ref a1), (1, .int nw), (2, .int nh)]) hx hb d_Picture_begin_21 rfl hl (by decide) rfl (fun ls hl => ?_)
  have lp22 : ∀ (n : Nat) (k : Nat) (f : Nat → Int32), (145 ≤ k + n) → (k ≤ 144) → (∀ j, j < k → f j = 0) → ∀ (H : Heap) (locs : List Loc) (ls : Array Slot), va_P D vwCl [(a1, .inr (5, [.ref a2, .ref a3, .int 1, .int nw, .int nh, .int 0])), (a2, .inl (cI, 144, .inl f)), (a3, .inl (cI, 9, .inl md))] H → va_D A [(a1, .inr (5, [.ref a2, .ref a3, .int 1, .int nw, .int nh, .int 0])), (a2, .inl (cI, 144, .inl f)), (a3, .inl (cI, 9, .inl md))] → va_S A s.heap H locs → lv_has ls 4 [(0, .ref a1), (1, .int nw), (2, .int nh), (3, .int (nI k))] → W p l e ({ frames := 0, cells := 0, slots := 0, locals := 0 } : Room) s m ([.ref a1, .int nw, .int nh] : List Value).toArray below meth c H locs 0 0 (MQ below (va_Qv (q_pic_begin cI a1 a2 a3 px md vz vw vh vk nw nh) (cs_B D vwCl tys A) A) ([.ref a1, .int nw, .int nh] : List Value).toArray s 0 0 A) (F0 m 22 ls []) := by
    intro n
    induction n with
    | zero =>
      intro k f hf hk hz
      exact absurd hf (by omega)
    | succ n ih22 =>
      intro k f hf hk hz H locs ls hP hD hS hl
      refine lv_iload_n hx hb d_Picture_begin_22 rfl (lv_at hl 3 rfl) ?_
      refine lv_aload_n hx hb d_Picture_begin_23 rfl (lv_at hl 0 rfl) ?_
      refine va_get (D := D) (ci := 5) (v := .ref a2) (C := "TileForge$Picture") (T := T_Picture) (N := 6) hx hb hts (cs_in in_Picture) hown hK hP 0 rfl rfl 0 (by decide) (hts _ (cs_m mw_84)) (fun _ h9 => h9) rfl d_Picture_begin_24 ?_
      refine va_alen (v := 144) hx hb hK hP 1 0 rfl hcI rfl d_Picture_begin_27 ?_
      refine lv_icmp_ge (tgt := 44) hx hb d_Picture_begin_28 (by decide) (fun c_28 => ?_) (fun c_28 => ?_)
      · have hk2 := (nI_leI (a := 144) (b := k) (by decide) (by omega)).mp c_28
        have hk3 : k = 144 := by omega
        subst hk3
        exact W.vret hx hb hr (fun t ht hW => ⟨⟨[(a1, .inr (5, [.ref a2, .ref a3, .int 1, .int nw, .int nh, .int 0])), (a2, .inl (cI, 144, .inl f)), (a3, .inl (cI, 9, .inl md))], rfl, ⟨f, (hz), (rfl)⟩, by rw [ht]; exact hP, va_K.moved hW.alike hK, hD⟩, hS.F ht⟩) hS.2.2 d_Picture_begin_44
      · have hk2 : k < 144 := Nat.not_le.mp (fun h => c_28 ((nI_leI (a := 144) (b := k) (by decide) (by omega)).mpr h))
        refine lv_aload_n hx hb d_Picture_begin_31 rfl (lv_at hl 0 rfl) ?_
        refine va_get (D := D) (ci := 5) (v := .ref a2) (C := "TileForge$Picture") (T := T_Picture) (N := 6) hx hb hts (cs_in in_Picture) hown hK hP 0 rfl rfl 0 (by decide) (hts _ (cs_m mw_84)) (fun _ h9 => h9) rfl d_Picture_begin_32 ?_
        refine lv_iload_n hx hb d_Picture_begin_35 rfl (lv_at hl 3 rfl) ?_
        refine lv_iconst (v := 0) hx hb d_Picture_begin_36 (by decide) ?_
        refine cs_iast (j := k) hx hb hK hcI hP hD hS 1 rfl (rfl) (by omega) (by decide) d_Picture_begin_37 (fun H locs hP hD hS => ?_)
        have hP : va_P D vwCl [(a1, .inr (5, [.ref a2, .ref a3, .int 1, .int nw, .int nh, .int 0])), (a2, .inl (cI, 144, .inl (upd f k 0))), (a3, .inl (cI, 9, .inl md))] H := hP
        have hD : va_D A [(a1, .inr (5, [.ref a2, .ref a3, .int 1, .int nw, .int nh, .int 0])), (a2, .inl (cI, 144, .inl (upd f k 0))), (a3, .inl (cI, 9, .inl md))] := hD
        refine lv_iinc (v := nI (k + 1)) (lv' := [(3, .int (nI (k + 1))), (0, .ref a1), (1, .int nw), (2, .int nh)]) hx hb d_Picture_begin_38 hl (k := 3) rfl (nI_1 _) (by decide) rfl (fun ls hl => ?_)
        refine lv_goto (tgt := 22) hx hb d_Picture_begin_41 (by decide) ?_
        exact ih22 (k + 1) (upd f k 0) (by omega) (by omega) (cs_fill hz) _ _ _ (hP.sub (ws' := [(a1, .inr (5, [.ref a2, .ref a3, .int 1, .int nw, .int nh, .int 0])), (a2, .inl (cI, 144, .inl (upd f k 0))), (a3, .inl (cI, 9, .inl md))]) [0, 1, 2] rfl) (hD.sub (ws' := [(a1, .inr (5, [.ref a2, .ref a3, .int 1, .int nw, .int nh, .int 0])), (a2, .inl (cI, 144, .inl (upd f k 0))), (a3, .inl (cI, 9, .inl md))]) [0, 1, 2] (by decide) rfl) hS (lv_sub hl [1, 2, 3, 0] rfl)
  exact lp22 (145) 0 px (by omega) (by omega) (fun j hj => absurd hj (by omega)) _ _ _ (hP.sub (ws' := [(a1, .inr (5, [.ref a2, .ref a3, .int 1, .int nw, .int nh, .int 0])), (a2, .inl (cI, 144, .inl px)), (a3, .inl (cI, 9, .inl md))]) [0, 1, 2] rfl) (hD.sub (ws' := [(a1, .inr (5, [.ref a2, .ref a3, .int 1, .int nw, .int nh, .int 0])), (a2, .inl (cI, 144, .inl px)), (a3, .inl (cI, 9, .inl md))]) [0, 1, 2] (by decide) rfl) hS (lv_sub hl [1, 2, 3, 0] rfl)
def y_Picture_has : MethodName := ⟨"TileForge$Picture", "has", "(II)Z"⟩
def ws_Picture_has : List Cond := .code y_Picture_has prog_7_method_4_code 3 (some .boolean) :: GW
theorem mw_91 : (.code ⟨"TileForge$Picture", "has", "(II)Z"⟩ prog_7_method_4_code 3 (some .boolean) : Cond) ∈ GW := List.mem_filter.mpr ⟨(List.mem_append_right _ (List.mem_append_right _ (List.mem_append_left _ (List.mem_of_getElem? (i := 99) rfl)))), rfl⟩
theorem hd_Picture_has : y_Picture_has.cls ≠ "java/lang/invoke/MethodHandle" ∧ y_Picture_has.cls ≠ "java/lang/invoke/VarHandle" ∧ (parseMethodDescriptor y_Picture_has.desc).map (fun d => d.parameters.length) = some 2 := by decide +kernel
theorem d_Picture_has_0 : decode prog_7_method_4_code 0 = .ok (.iload_n 1, 1) := by decide +kernel
theorem d_Picture_has_1 : decode prog_7_method_4_code 1 = .ok (.ifCond .lt 39, 3) := by decide +kernel
theorem d_Picture_has_4 : decode prog_7_method_4_code 4 = .ok (.iload_n 1, 1) := by decide +kernel
theorem d_Picture_has_5 : decode prog_7_method_4_code 5 = .ok (.aload_n 0, 1) := by decide +kernel
theorem d_Picture_has_6 : decode prog_7_method_4_code 6 = .ok (.getfield 22, 3) := by decide +kernel
theorem d_Picture_has_9 : decode prog_7_method_4_code 9 = .ok (.if_icmp .ge 31, 3) := by decide +kernel
theorem d_Picture_has_12 : decode prog_7_method_4_code 12 = .ok (.iload_n 1, 1) := by decide +kernel
theorem d_Picture_has_13 : decode prog_7_method_4_code 13 = .ok (.bipush 12, 2) := by decide +kernel
theorem d_Picture_has_15 : decode prog_7_method_4_code 15 = .ok (.if_icmp .ge 25, 3) := by decide +kernel
theorem d_Picture_has_18 : decode prog_7_method_4_code 18 = .ok (.iload_n 2, 1) := by decide +kernel
theorem d_Picture_has_19 : decode prog_7_method_4_code 19 = .ok (.ifCond .lt 21, 3) := by decide +kernel
theorem d_Picture_has_22 : decode prog_7_method_4_code 22 = .ok (.iload_n 2, 1) := by decide +kernel
theorem d_Picture_has_23 : decode prog_7_method_4_code 23 = .ok (.aload_n 0, 1) := by decide +kernel
theorem d_Picture_has_24 : decode prog_7_method_4_code 24 = .ok (.getfield 26, 3) := by decide +kernel
theorem d_Picture_has_27 : decode prog_7_method_4_code 27 = .ok (.if_icmp .ge 13, 3) := by decide +kernel
theorem d_Picture_has_30 : decode prog_7_method_4_code 30 = .ok (.iload_n 2, 1) := by decide +kernel
theorem d_Picture_has_31 : decode prog_7_method_4_code 31 = .ok (.bipush 12, 2) := by decide +kernel
theorem d_Picture_has_33 : decode prog_7_method_4_code 33 = .ok (.if_icmp .ge 7, 3) := by decide +kernel
theorem d_Picture_has_36 : decode prog_7_method_4_code 36 = .ok (.iconst 1, 1) := by decide +kernel
theorem d_Picture_has_37 : decode prog_7_method_4_code 37 = .ok (.goto 4, 3) := by decide +kernel
theorem d_Picture_has_40 : decode prog_7_method_4_code 40 = .ok (.iconst 0, 1) := by decide +kernel
theorem d_Picture_has_41 : decode prog_7_method_4_code 41 = .ok (.ireturn, 1) := by decide +kernel
def q_pic_has (cI : ClassId) (a1 : Nat) (a2 : Nat) (a3 : Nat) (px : Nat → Int32) (md : Nat → Int32) (vz : Int32) (vw : Int32) (vh : Int32) (vk : Int32) (x : Int32) (y : Int32) : Int32 → va_W → Prop := fun rr ww => rr = (if hasP vw vh x y then 1 else 0) ∧ ww = [(a1, .inr (5, [.ref a2, .ref a3, .int vz, .int vw, .int vh, .int vk])), (a2, .inl (cI, 144, .inl px)), (a3, .inl (cI, 9, .inl md))]
set_option maxHeartbeats 4000000 in
set_option maxRecDepth 100000 in
theorem c_pic_has (l : Launch) {D : va_G} {tys : List (ClassId × FieldType)} {cI : ClassId} (hcI : tys[0]? = some (cI, .int)) (a1 : Nat) (a2 : Nat) (a3 : Nat) (px : Nat → Int32) (md : Nat → Int32) (vz : Int32) (vw : Int32) (vh : Int32) (vk : Int32) (x : Int32) (y : Int32) : CsI l D vwCl tys y_Picture_has ws_Picture_has ({ frames := 0, cells := 0, slots := 0, locals := 0 } : Room) [.ref a1, .int x, .int y] [(a1, .inr (5, [.ref a2, .ref a3, .int vz, .int vw, .int vh, .int vk])), (a2, .inl (cI, 144, .inl px)), (a3, .inl (cI, 9, .inl md))] (q_pic_has cI a1 a2 a3 px md vz vw vh vk x y) 0 0 := by
  intro sz
  refine Met.ofW (cc := prog_7_method_4_code) (maxL := 3) (ret := (some .boolean)) (by decide) rfl ?_
  intro p e s m args below meth c s₁ B hml hv
  obtain ⟨rfl, hsz, hP, hK, hD0, hN⟩ := hv
  have hx := B.exec
  have hb := B.bytes
  have hr := B.returns
  have hts := atoms_spec (ws := ws_Picture_has) B.pre
  have hown : s.vm.findClass "TileForge$Picture" = some m.cls := findClass_of_methodNamed B.named
  have hlocks := B.notSynchronized
  subst hsz
  have hD := hD0.self (sz := s.heap.size)
  generalize hAe : va_A [(a1, .inr (5, [.ref a2, .ref a3, .int vz, .int vw, .int vh, .int vk])), (a2, .inl (cI, 144, .inl px)), (a3, .inl (cI, 9, .inl md))] s.heap.size = A at hD ⊢
  have hA : ∀ q : Nat, s.heap.size ≤ q → A q := fun q h => by rw [← hAe]; exact Or.inr h
  have hS : va_S A s.heap s.heap [] := va_S.rf
  have hP : va_P D vwCl [(a1, .inr (5, [.ref a2, .ref a3, .int vz, .int vw, .int vh, .int vk])), (a2, .inl (cI, 144, .inl px)), (a3, .inl (cI, 9, .inl md))] s.heap := hP
  have hl := lv_entry ([.ref a1, .int x, .int y]) (n := 3) (Nat.le_of_ble_eq_true rfl)
  rw [lg_entry_eq]
  generalize (lg_sl ([.ref a1, .int x, .int y]) ++ List.replicate (3 - (lg_sl ([.ref a1, .int x, .int y])).length) Slot.unset).toArray = ls at hl ⊢
  have hl : lv_has ls 3 [(0, .ref a1), (1, .int x), (2, .int y)] := hl
  refine lv_iload_n hx hb d_Picture_has_0 rfl (lv_at hl 1 rfl) ?_
  refine lv_if_lt (tgt := 40) hx hb d_Picture_has_1 (by decide) (fun c_1 => ?_) (fun c_1 => ?_)
  · refine lv_iconst (v := 0) hx hb d_Picture_has_40 (by decide) ?_
    exact W.zret (v := 0) hx hb hr (rfl) (fun t ht hW => ⟨⟨0, [(a1, .inr (5, [.ref a2, .ref a3, .int vz, .int vw, .int vh, .int vk])), (a2, .inl (cI, 144, .inl px)), (a3, .inl (cI, 9, .inl md))], rfl, ⟨(by simp [c_1, hasP]), (rfl)⟩, by rw [ht]; exact hP, va_K.moved hW.alike hK, hD⟩, hS.F ht⟩) hS.2.2 d_Picture_has_41
  · refine lv_iload_n hx hb d_Picture_has_4 rfl (lv_at hl 1 rfl) ?_
    refine lv_aload_n hx hb d_Picture_has_5 rfl (lv_at hl 0 rfl) ?_
    refine va_get (D := D) (ci := 5) (v := .int vw) (C := "TileForge$Picture") (T := T_Picture) (N := 6) hx hb hts (cs_in in_Picture) hown hK hP 0 rfl rfl 3 (by decide) (hts _ (cs_m mw_88)) (fun _ h9 => h9) rfl d_Picture_has_6 ?_
    refine lv_icmp_ge (tgt := 40) hx hb d_Picture_has_9 (by decide) (fun c_9 => ?_) (fun c_9 => ?_)
    · refine lv_iconst (v := 0) hx hb d_Picture_has_40 (by decide) ?_
      exact W.zret (v := 0) hx hb hr (rfl) (fun t ht hW => ⟨⟨0, [(a1, .inr (5, [.ref a2, .ref a3, .int vz, .int vw, .int vh, .int vk])), (a2, .inl (cI, 144, .inl px)), (a3, .inl (cI, 9, .inl md))], rfl, ⟨(by simp [c_1, c_9, hasP]), (rfl)⟩, by rw [ht]; exact hP, va_K.moved hW.alike hK, hD⟩, hS.F ht⟩) hS.2.2 d_Picture_has_41
    · refine lv_iload_n hx hb d_Picture_has_12 rfl (lv_at hl 1 rfl) ?_
      refine lv_bipush (v := 12) hx hb d_Picture_has_13 (by decide) ?_
      refine lv_icmp_ge (tgt := 40) hx hb d_Picture_has_15 (by decide) (fun c_15 => ?_) (fun c_15 => ?_)
      · refine lv_iconst (v := 0) hx hb d_Picture_has_40 (by decide) ?_
        exact W.zret (v := 0) hx hb hr (rfl) (fun t ht hW => ⟨⟨0, [(a1, .inr (5, [.ref a2, .ref a3, .int vz, .int vw, .int vh, .int vk])), (a2, .inl (cI, 144, .inl px)), (a3, .inl (cI, 9, .inl md))], rfl, ⟨(by simp [c_1, c_9, c_15, hasP]), (rfl)⟩, by rw [ht]; exact hP, va_K.moved hW.alike hK, hD⟩, hS.F ht⟩) hS.2.2 d_Picture_has_41
      · refine lv_iload_n hx hb d_Picture_has_18 rfl (lv_at hl 2 rfl) ?_
        refine lv_if_lt (tgt := 40) hx hb d_Picture_has_19 (by decide) (fun c_19 => ?_) (fun c_19 => ?_)
        · refine lv_iconst (v := 0) hx hb d_Picture_has_40 (by decide) ?_
          exact W.zret (v := 0) hx hb hr (rfl) (fun t ht hW => ⟨⟨0, [(a1, .inr (5, [.ref a2, .ref a3, .int vz, .int vw, .int vh, .int vk])), (a2, .inl (cI, 144, .inl px)), (a3, .inl (cI, 9, .inl md))], rfl, ⟨(by simp [c_1, c_9, c_15, c_19, hasP]), (rfl)⟩, by rw [ht]; exact hP, va_K.moved hW.alike hK, hD⟩, hS.F ht⟩) hS.2.2 d_Picture_has_41
        · refine lv_iload_n hx hb d_Picture_has_22 rfl (lv_at hl 2 rfl) ?_
          refine lv_aload_n hx hb d_Picture_has_23 rfl (lv_at hl 0 rfl) ?_
          refine va_get (D := D) (ci := 5) (v := .int vh) (C := "TileForge$Picture") (T := T_Picture) (N := 6) hx hb hts (cs_in in_Picture) hown hK hP 0 rfl rfl 4 (by decide) (hts _ (cs_m mw_89)) (fun _ h9 => h9) rfl d_Picture_has_24 ?_
          refine lv_icmp_ge (tgt := 40) hx hb d_Picture_has_27 (by decide) (fun c_27 => ?_) (fun c_27 => ?_)
          · refine lv_iconst (v := 0) hx hb d_Picture_has_40 (by decide) ?_
            exact W.zret (v := 0) hx hb hr (rfl) (fun t ht hW => ⟨⟨0, [(a1, .inr (5, [.ref a2, .ref a3, .int vz, .int vw, .int vh, .int vk])), (a2, .inl (cI, 144, .inl px)), (a3, .inl (cI, 9, .inl md))], rfl, ⟨(by simp [c_1, c_9, c_15, c_19, c_27, hasP]), (rfl)⟩, by rw [ht]; exact hP, va_K.moved hW.alike hK, hD⟩, hS.F ht⟩) hS.2.2 d_Picture_has_41
          · refine lv_iload_n hx hb d_Picture_has_30 rfl (lv_at hl 2 rfl) ?_
            refine lv_bipush (v := 12) hx hb d_Picture_has_31 (by decide) ?_
            refine lv_icmp_ge (tgt := 40) hx hb d_Picture_has_33 (by decide) (fun c_33 => ?_) (fun c_33 => ?_)
            · refine lv_iconst (v := 0) hx hb d_Picture_has_40 (by decide) ?_
              exact W.zret (v := 0) hx hb hr (rfl) (fun t ht hW => ⟨⟨0, [(a1, .inr (5, [.ref a2, .ref a3, .int vz, .int vw, .int vh, .int vk])), (a2, .inl (cI, 144, .inl px)), (a3, .inl (cI, 9, .inl md))], rfl, ⟨(by simp [c_1, c_9, c_15, c_19, c_27, c_33, hasP]), (rfl)⟩, by rw [ht]; exact hP, va_K.moved hW.alike hK, hD⟩, hS.F ht⟩) hS.2.2 d_Picture_has_41
            · refine lv_iconst (v := 1) hx hb d_Picture_has_36 (by decide) ?_
              refine lv_goto (tgt := 41) hx hb d_Picture_has_37 (by decide) ?_
              exact W.zret (v := 1) hx hb hr (rfl) (fun t ht hW => ⟨⟨1, [(a1, .inr (5, [.ref a2, .ref a3, .int vz, .int vw, .int vh, .int vk])), (a2, .inl (cI, 144, .inl px)), (a3, .inl (cI, 9, .inl md))], rfl, ⟨(by simp [c_1, c_9, c_15, c_19, c_27, c_33, hasP]), (rfl)⟩, by rw [ht]; exact hP, va_K.moved hW.alike hK, hD⟩, hS.F ht⟩) hS.2.2 d_Picture_has_41
def y_Picture_look : MethodName := ⟨"TileForge$Picture", "look", "(II)I"⟩
def ws_Picture_look : List Cond := .code y_Picture_look prog_7_method_5_code 3 (some .int) :: GW
theorem mw_92 : (.code ⟨"TileForge$Picture", "look", "(II)I"⟩ prog_7_method_5_code 3 (some .int) : Cond) ∈ GW := List.mem_filter.mpr ⟨(List.mem_append_right _ (List.mem_append_right _ (List.mem_append_left _ (List.mem_of_getElem? (i := 118) rfl)))), rfl⟩
theorem hd_Picture_look : y_Picture_look.cls ≠ "java/lang/invoke/MethodHandle" ∧ y_Picture_look.cls ≠ "java/lang/invoke/VarHandle" ∧ (parseMethodDescriptor y_Picture_look.desc).map (fun d => d.parameters.length) = some 2 := by decide +kernel
theorem d_Picture_look_0 : decode prog_7_method_5_code 0 = .ok (.aload_n 0, 1) := by decide +kernel
theorem d_Picture_look_1 : decode prog_7_method_5_code 1 = .ok (.iload_n 1, 1) := by decide +kernel
theorem d_Picture_look_2 : decode prog_7_method_5_code 2 = .ok (.iload_n 2, 1) := by decide +kernel
theorem d_Picture_look_3 : decode prog_7_method_5_code 3 = .ok (.invokevirtual 38, 3) := by decide +kernel
theorem d_Picture_look_6 : decode prog_7_method_5_code 6 = .ok (.ifCond .eq 17, 3) := by decide +kernel
theorem d_Picture_look_9 : decode prog_7_method_5_code 9 = .ok (.aload_n 0, 1) := by decide +kernel
theorem d_Picture_look_10 : decode prog_7_method_5_code 10 = .ok (.getfield 9, 3) := by decide +kernel
theorem d_Picture_look_13 : decode prog_7_method_5_code 13 = .ok (.iload_n 2, 1) := by decide +kernel
theorem d_Picture_look_14 : decode prog_7_method_5_code 14 = .ok (.bipush 12, 2) := by decide +kernel
theorem d_Picture_look_16 : decode prog_7_method_5_code 16 = .ok (.imul, 1) := by decide +kernel
theorem d_Picture_look_17 : decode prog_7_method_5_code 17 = .ok (.iload_n 1, 1) := by decide +kernel
theorem d_Picture_look_18 : decode prog_7_method_5_code 18 = .ok (.iadd, 1) := by decide +kernel
theorem d_Picture_look_19 : decode prog_7_method_5_code 19 = .ok (.iaload, 1) := by decide +kernel
theorem d_Picture_look_20 : decode prog_7_method_5_code 20 = .ok (.goto 4, 3) := by decide +kernel
theorem d_Picture_look_23 : decode prog_7_method_5_code 23 = .ok (.iconst 0, 1) := by decide +kernel
theorem d_Picture_look_24 : decode prog_7_method_5_code 24 = .ok (.ireturn, 1) := by decide +kernel
theorem mw_93 : (.initialized "TileForge$Picture" : Cond) ∈ GW := List.mem_filter.mpr ⟨(List.mem_append_right _ (List.mem_append_left _ (List.mem_of_getElem? (i := 2) rfl))), rfl⟩
theorem mw_94 : (.methodLink "TileForge$Picture" 38 ⟨"TileForge$Picture", "has", "(II)Z"⟩ : Cond) ∈ GW := List.mem_filter.mpr ⟨(List.mem_append_right _ (List.mem_append_right _ (List.mem_append_left _ (List.mem_of_getElem? (i := 119) rfl)))), rfl⟩
theorem mw_95 : (.instanceMethod ⟨"TileForge$Picture", "has", "(II)Z"⟩ : Cond) ∈ GW := List.mem_filter.mpr ⟨(List.mem_append_right _ (List.mem_append_right _ (List.mem_append_left _ (List.mem_of_getElem? (i := 97) rfl)))), rfl⟩
theorem mw_96 : (.selects "TileForge$Picture" ⟨"TileForge$Picture", "has", "(II)Z"⟩ ⟨"TileForge$Picture", "has", "(II)Z"⟩ : Cond) ∈ GW := List.mem_filter.mpr ⟨(List.mem_append_right _ (List.mem_append_right _ (List.mem_append_left _ (List.mem_of_getElem? (i := 98) rfl)))), rfl⟩
def q_pic_look (cI : ClassId) (a1 : Nat) (a2 : Nat) (a3 : Nat) (px : Nat → Int32) (md : Nat → Int32) (vz : Int32) (vw : Int32) (vh : Int32) (vk : Int32) (x : Nat) (y : Nat) : Int32 → va_W → Prop := fun rr ww => rr = (px (y * 12 + x)) ∧ ww = [(a1, .inr (5, [.ref a2, .ref a3, .int vz, .int vw, .int vh, .int vk])), (a2, .inl (cI, 144, .inl px)), (a3, .inl (cI, 9, .inl md))]
set_option maxHeartbeats 4000000 in
set_option maxRecDepth 100000 in
theorem c_pic_look (l : Launch) {D : va_G} {tys : List (ClassId × FieldType)} {cI : ClassId} (hcI : tys[0]? = some (cI, .int)) (a1 : Nat) (a2 : Nat) (a3 : Nat) (px : Nat → Int32) (md : Nat → Int32) (vz : Int32) (vw : Int32) (vh : Int32) (vk : Int32) (x : Nat) (y : Nat) (hx12 : x < 12) (hy12 : y < 12) (hxw : nI x < vw) (hyh : nI y < vh) : CsI l D vwCl tys y_Picture_look ws_Picture_look ({ frames := 1, cells := 0, slots := 0, locals := 22 } : Room) [.ref a1, .int (nI x), .int (nI y)] [(a1, .inr (5, [.ref a2, .ref a3, .int vz, .int vw, .int vh, .int vk])), (a2, .inl (cI, 144, .inl px)), (a3, .inl (cI, 9, .inl md))] (q_pic_look cI a1 a2 a3 px md vz vw vh vk x y) 0 0 := by
  intro sz
  refine Met.ofW (cc := prog_7_method_5_code) (maxL := 3) (ret := (some .int)) (by decide) rfl ?_
  intro p e s m args below meth c s₁ B hml hv
  obtain ⟨rfl, hsz, hP, hK, hD0, hN⟩ := hv
  have hx := B.exec
  have hb := B.bytes
  have hr := B.returns
  have hts := atoms_spec (ws := ws_Picture_look) B.pre
  have hown : s.vm.findClass "TileForge$Picture" = some m.cls := findClass_of_methodNamed B.named
  have hlocks := B.notSynchronized
  subst hsz
  have hD := hD0.self (sz := s.heap.size)
  generalize hAe : va_A [(a1, .inr (5, [.ref a2, .ref a3, .int vz, .int vw, .int vh, .int vk])), (a2, .inl (cI, 144, .inl px)), (a3, .inl (cI, 9, .inl md))] s.heap.size = A at hD ⊢
  have hA : ∀ q : Nat, s.heap.size ≤ q → A q := fun q h => by rw [← hAe]; exact Or.inr h
  have hS : va_S A s.heap s.heap [] := va_S.rf
  have hP : va_P D vwCl [(a1, .inr (5, [.ref a2, .ref a3, .int vz, .int vw, .int vh, .int vk])), (a2, .inl (cI, 144, .inl px)), (a3, .inl (cI, 9, .inl md))] s.heap := hP
  have hl := lv_entry ([.ref a1, .int (nI x), .int (nI y)]) (n := 3) (Nat.le_of_ble_eq_true rfl)
  rw [lg_entry_eq]
  generalize (lg_sl ([.ref a1, .int (nI x), .int (nI y)]) ++ List.replicate (3 - (lg_sl ([.ref a1, .int (nI x), .int (nI y)])).length) Slot.unset).toArray = ls at hl ⊢
  have hl : lv_has ls 3 [(0, .ref a1), (1, .int (nI x)), (2, .int (nI y))] := hl
  refine lv_aload_n hx hb d_Picture_look_0 rfl (lv_at hl 0 rfl) ?_
  refine lv_iload_n hx hb d_Picture_look_1 rfl (lv_at hl 1 rfl) ?_
  refine lv_iload_n hx hb d_Picture_look_2 rfl (lv_at hl 2 rfl) ?_
  refine cs_Vi (As := [.int (nI x), .int (nI y)]) (rest := []) (wr := []) ⟨hx, hb, hml, hown, hts⟩ (c_pic_has l hcI a1 a2 a3 px md vz vw vh vk (nI x) (nI y)) (cwV 2 hts (cs_gV mw_94 mw_95 mw_96 mw_93 mw_91) rfl rfl rfl ⟨rfl, hd_Picture_has⟩ ⟨Nat.le_of_ble_eq_true rfl, Nat.le_of_ble_eq_true rfl⟩) hN hK hP hD hS hA [0, 1, 2] [] rfl rfl rfl rfl (by decide) (ci := 5) rfl rfl rfl rfl rfl hl.1 (Nat.le_of_ble_eq_true rfl) d_Picture_look_3 ⟨Nat.le_of_ble_eq_true rfl, Nat.le_of_ble_eq_true rfl⟩ (fun r1 w1 H locs hw hP hD hS => ?_)
  obtain ⟨rfl, rfl⟩ := hw
  have hP : va_P D vwCl [(a1, .inr (5, [.ref a2, .ref a3, .int vz, .int vw, .int vh, .int vk])), (a2, .inl (cI, 144, .inl px)), (a3, .inl (cI, 9, .inl md))] H := hP
  have hD : va_D A [(a1, .inr (5, [.ref a2, .ref a3, .int vz, .int vw, .int vh, .int vk])), (a2, .inl (cI, 144, .inl px)), (a3, .inl (cI, 9, .inl md))] := hD
  refine lv_if_eq (tgt := 23) hx hb d_Picture_look_6 (by decide) (fun c_6 => ?_) (fun c_6 => ?_)
  · have c_6 := cs_b0 c_6
    exact absurd (hasP_in hx12 hy12 hxw hyh) c_6
  · have c_6 := cs_b1 c_6
    refine lv_aload_n hx hb d_Picture_look_9 rfl (lv_at hl 0 rfl) ?_
    refine va_get (D := D) (ci := 5) (v := .ref a2) (C := "TileForge$Picture") (T := T_Picture) (N := 6) hx hb hts (cs_in in_Picture) hown hK hP 0 rfl rfl 0 (by decide) (hts _ (cs_m mw_84)) (fun _ h9 => h9) rfl d_Picture_look_10 ?_
    refine lv_iload_n hx hb d_Picture_look_13 rfl (lv_at hl 2 rfl) ?_
    refine lv_bipush (v := 12) hx hb d_Picture_look_14 (by decide) ?_
    refine lv_imul hx hb d_Picture_look_16 ?_
    refine lv_iload_n hx hb d_Picture_look_17 rfl (lv_at hl 1 rfl) ?_
    refine lv_iadd hx hb d_Picture_look_18 ?_
    refine cs_iald (j := y * 12 + x) hx hb hK hcI hP 1 rfl (cs_yx x y) (by omega) (by decide) d_Picture_look_19 ?_
    refine lv_goto (tgt := 24) hx hb d_Picture_look_20 (by decide) ?_
    exact W.iret (v := (px (y * 12 + x))) hx hb hr (fun t ht hW => ⟨⟨(px (y * 12 + x)), [(a1, .inr (5, [.ref a2, .ref a3, .int vz, .int vw, .int vh, .int vk])), (a2, .inl (cI, 144, .inl px)), (a3, .inl (cI, 9, .inl md))], rfl, ⟨(rfl), (rfl)⟩, by rw [ht]; exact hP, va_K.moved hW.alike hK, hD⟩, hS.F ht⟩) hS.2.2 d_Picture_look_24
def y_Picture_put : MethodName := ⟨"TileForge$Picture", "put", "(III)V"⟩
def ws_Picture_put : List Cond := .code y_Picture_put prog_7_method_6_code 4 none :: GW
theorem mw_97 : (.code ⟨"TileForge$Picture", "put", "(III)V"⟩ prog_7_method_6_code 4 none : Cond) ∈ GW := List.mem_filter.mpr ⟨(List.mem_append_right _ (List.mem_append_right _ (List.mem_append_left _ (List.mem_of_getElem? (i := 123) rfl)))), rfl⟩
theorem hd_Picture_put : y_Picture_put.cls ≠ "java/lang/invoke/MethodHandle" ∧ y_Picture_put.cls ≠ "java/lang/invoke/VarHandle" ∧ (parseMethodDescriptor y_Picture_put.desc).map (fun d => d.parameters.length) = some 3 := by decide +kernel
theorem d_Picture_put_0 : decode prog_7_method_6_code 0 = .ok (.aload_n 0, 1) := by decide +kernel
theorem d_Picture_put_1 : decode prog_7_method_6_code 1 = .ok (.iload_n 1, 1) := by decide +kernel
theorem d_Picture_put_2 : decode prog_7_method_6_code 2 = .ok (.iload_n 2, 1) := by decide +kernel
theorem d_Picture_put_3 : decode prog_7_method_6_code 3 = .ok (.invokevirtual 38, 3) := by decide +kernel
theorem d_Picture_put_6 : decode prog_7_method_6_code 6 = .ok (.ifCond .eq 15, 3) := by decide +kernel
theorem d_Picture_put_9 : decode prog_7_method_6_code 9 = .ok (.aload_n 0, 1) := by decide +kernel
theorem d_Picture_put_10 : decode prog_7_method_6_code 10 = .ok (.getfield 9, 3) := by decide +kernel
theorem d_Picture_put_13 : decode prog_7_method_6_code 13 = .ok (.iload_n 2, 1) := by decide +kernel
theorem d_Picture_put_14 : decode prog_7_method_6_code 14 = .ok (.bipush 12, 2) := by decide +kernel
theorem d_Picture_put_16 : decode prog_7_method_6_code 16 = .ok (.imul, 1) := by decide +kernel
theorem d_Picture_put_17 : decode prog_7_method_6_code 17 = .ok (.iload_n 1, 1) := by decide +kernel
theorem d_Picture_put_18 : decode prog_7_method_6_code 18 = .ok (.iadd, 1) := by decide +kernel
theorem d_Picture_put_19 : decode prog_7_method_6_code 19 = .ok (.iload_n 3, 1) := by decide +kernel
theorem d_Picture_put_20 : decode prog_7_method_6_code 20 = .ok (.iastore, 1) := by decide +kernel
theorem d_Picture_put_21 : decode prog_7_method_6_code 21 = .ok (.return_, 1) := by decide +kernel
def q_pic_put (cI : ClassId) (a1 : Nat) (a2 : Nat) (a3 : Nat) (px : Nat → Int32) (md : Nat → Int32) (vz : Int32) (vw : Int32) (vh : Int32) (vk : Int32) (x : Nat) (y : Nat) (v : Int32) : va_W → Prop := fun ww => ww = [(a1, .inr (5, [.ref a2, .ref a3, .int vz, .int vw, .int vh, .int vk])), (a2, .inl (cI, 144, .inl (upd px (y * 12 + x) v))), (a3, .inl (cI, 9, .inl md))]
set_option maxHeartbeats 4000000 in
set_option maxRecDepth 100000 in
theorem c_pic_put (l : Launch) {D : va_G} {tys : List (ClassId × FieldType)} {cI : ClassId} (hcI : tys[0]? = some (cI, .int)) (a1 : Nat) (a2 : Nat) (a3 : Nat) (px : Nat → Int32) (md : Nat → Int32) (vz : Int32) (vw : Int32) (vh : Int32) (vk : Int32) (x : Nat) (y : Nat) (v : Int32) (hx12 : x < 12) (hy12 : y < 12) (hxw : nI x < vw) (hyh : nI y < vh) : CsV l D vwCl tys y_Picture_put ws_Picture_put ({ frames := 1, cells := 0, slots := 0, locals := 22 } : Room) [.ref a1, .int (nI x), .int (nI y), .int v] [(a1, .inr (5, [.ref a2, .ref a3, .int vz, .int vw, .int vh, .int vk])), (a2, .inl (cI, 144, .inl px)), (a3, .inl (cI, 9, .inl md))] (q_pic_put cI a1 a2 a3 px md vz vw vh vk x y v) 0 0 := by
  intro sz
  refine Met.ofW (cc := prog_7_method_6_code) (maxL := 4) (ret := none) (by decide) rfl ?_
  intro p e s m args below meth c s₁ B hml hv
  obtain ⟨rfl, hsz, hP, hK, hD0, hN⟩ := hv
  have hx := B.exec
  have hb := B.bytes
  have hr := B.returns
  have hts := atoms_spec (ws := ws_Picture_put) B.pre
  have hown : s.vm.findClass "TileForge$Picture" = some m.cls := findClass_of_methodNamed B.named
  have hlocks := B.notSynchronized
  subst hsz
  have hD := hD0.self (sz := s.heap.size)
  generalize hAe : va_A [(a1, .inr (5, [.ref a2, .ref a3, .int vz, .int vw, .int vh, .int vk])), (a2, .inl (cI, 144, .inl px)), (a3, .inl (cI, 9, .inl md))] s.heap.size = A at hD ⊢
  have hA : ∀ q : Nat, s.heap.size ≤ q → A q := fun q h => by rw [← hAe]; exact Or.inr h
  have hS : va_S A s.heap s.heap [] := va_S.rf
  have hP : va_P D vwCl [(a1, .inr (5, [.ref a2, .ref a3, .int vz, .int vw, .int vh, .int vk])), (a2, .inl (cI, 144, .inl px)), (a3, .inl (cI, 9, .inl md))] s.heap := hP
  have hl := lv_entry ([.ref a1, .int (nI x), .int (nI y), .int v]) (n := 4) (Nat.le_of_ble_eq_true rfl)
  rw [lg_entry_eq]
  generalize (lg_sl ([.ref a1, .int (nI x), .int (nI y), .int v]) ++ List.replicate (4 - (lg_sl ([.ref a1, .int (nI x), .int (nI y), .int v])).length) Slot.unset).toArray = ls at hl ⊢
  have hl : lv_has ls 4 [(0, .ref a1), (1, .int (nI x)), (2, .int (nI y)), (3, .int v)] := hl
  refine lv_aload_n hx hb d_Picture_put_0 rfl (lv_at hl 0 rfl) ?_
  refine lv_iload_n hx hb d_Picture_put_1 rfl (lv_at hl 1 rfl) ?_
  refine lv_iload_n hx hb d_Picture_put_2 rfl (lv_at hl 2 rfl) ?_
  refine cs_Vi (As := [.int (nI x), .int (nI y)]) (rest := []) (wr := []) ⟨hx, hb, hml, hown, hts⟩ (c_pic_has l hcI a1 a2 a3 px md vz vw vh vk (nI x) (nI y)) (cwV 2 hts (cs_gV mw_94 mw_95 mw_96 mw_93 mw_91) rfl rfl rfl ⟨rfl, hd_Picture_has⟩ ⟨Nat.le_of_ble_eq_true rfl, Nat.le_of_ble_eq_true rfl⟩) hN hK hP hD hS hA [0, 1, 2] [] rfl rfl rfl rfl (by decide) (ci := 5) rfl rfl rfl rfl rfl hl.1 (Nat.le_of_ble_eq_true rfl) d_Picture_put_3 ⟨Nat.le_of_ble_eq_true rfl, Nat.le_of_ble_eq_true rfl⟩ (fun r1 w1 H locs hw hP hD hS => ?_)
  obtain ⟨rfl, rfl⟩ := hw
  have hP : va_P D vwCl [(a1, .inr (5, [.ref a2, .ref a3, .int vz, .int vw, .int vh, .int vk])), (a2, .inl (cI, 144, .inl px)), (a3, .inl (cI, 9, .inl md))] H := hP
  have hD : va_D A [(a1, .inr (5, [.ref a2, .ref a3, .int vz, .int vw, .int vh, .int vk])), (a2, .inl (cI, 144, .inl px)), (a3, .inl (cI, 9, .inl md))] := hD
  refine lv_if_eq (tgt := 21) hx hb d_Picture_put_6 (by decide) (fun c_6 => ?_) (fun c_6 => ?_)
  · have c_6 := cs_b0 c_6
    exact absurd (hasP_in hx12 hy12 hxw hyh) c_6
  · have c_6 := cs_b1 c_6
    refine lv_aload_n hx hb d_Picture_put_9 rfl (lv_at hl 0 rfl) ?_
    refine va_get (D := D) (ci := 5) (v := .ref a2) (C := "TileForge$Picture") (T := T_Picture) (N := 6) hx hb hts (cs_in in_Picture) hown hK hP 0 rfl rfl 0 (by decide) (hts _ (cs_m mw_84)) (fun _ h9 => h9) rfl d_Picture_put_10 ?_
    refine lv_iload_n hx hb d_Picture_put_13 rfl (lv_at hl 2 rfl) ?_
    refine lv_bipush (v := 12) hx hb d_Picture_put_14 (by decide) ?_
    refine lv_imul hx hb d_Picture_put_16 ?_
    refine lv_iload_n hx hb d_Picture_put_17 rfl (lv_at hl 1 rfl) ?_
    refine lv_iadd hx hb d_Picture_put_18 ?_
    refine lv_iload_n hx hb d_Picture_put_19 rfl (lv_at hl 3 rfl) ?_
    refine cs_iast (j := y * 12 + x) hx hb hK hcI hP hD hS 1 rfl (cs_yx x y) (by omega) (by decide) d_Picture_put_20 (fun H locs hP hD hS => ?_)
    have hP : va_P D vwCl [(a1, .inr (5, [.ref a2, .ref a3, .int vz, .int vw, .int vh, .int vk])), (a2, .inl (cI, 144, .inl (upd px (y * 12 + x) v))), (a3, .inl (cI, 9, .inl md))] H := hP
    have hD : va_D A [(a1, .inr (5, [.ref a2, .ref a3, .int vz, .int vw, .int vh, .int vk])), (a2, .inl (cI, 144, .inl (upd px (y * 12 + x) v))), (a3, .inl (cI, 9, .inl md))] := hD
    exact W.vret hx hb hr (fun t ht hW => ⟨⟨[(a1, .inr (5, [.ref a2, .ref a3, .int vz, .int vw, .int vh, .int vk])), (a2, .inl (cI, 144, .inl (upd px (y * 12 + x) v))), (a3, .inl (cI, 9, .inl md))], rfl, (show _ = _ from (rfl)), by rw [ht]; exact hP, va_K.moved hW.alike hK, hD⟩, hS.F ht⟩) hS.2.2 d_Picture_put_21
def y_Picture_hasMode : MethodName := ⟨"TileForge$Picture", "hasMode", "(I)Z"⟩
def ws_Picture_hasMode : List Cond := .code y_Picture_hasMode prog_7_method_7_code 2 (some .boolean) :: GW
theorem mw_98 : (.code ⟨"TileForge$Picture", "hasMode", "(I)Z"⟩ prog_7_method_7_code 2 (some .boolean) : Cond) ∈ GW := List.mem_filter.mpr ⟨(List.mem_append_right _ (List.mem_append_right _ (List.mem_append_right _ (List.mem_append_left _ (List.mem_of_getElem? (i := 184) rfl))))), rfl⟩
theorem hd_Picture_hasMode : y_Picture_hasMode.cls ≠ "java/lang/invoke/MethodHandle" ∧ y_Picture_hasMode.cls ≠ "java/lang/invoke/VarHandle" ∧ (parseMethodDescriptor y_Picture_hasMode.desc).map (fun d => d.parameters.length) = some 1 := by decide +kernel
theorem d_Picture_hasMode_0 : decode prog_7_method_7_code 0 = .ok (.iload_n 1, 1) := by decide +kernel
theorem d_Picture_hasMode_1 : decode prog_7_method_7_code 1 = .ok (.ifCond .lt 21, 3) := by decide +kernel
theorem d_Picture_hasMode_4 : decode prog_7_method_7_code 4 = .ok (.iload_n 1, 1) := by decide +kernel
theorem d_Picture_hasMode_5 : decode prog_7_method_7_code 5 = .ok (.aload_n 0, 1) := by decide +kernel
theorem d_Picture_hasMode_6 : decode prog_7_method_7_code 6 = .ok (.getfield 29, 3) := by decide +kernel
theorem d_Picture_hasMode_9 : decode prog_7_method_7_code 9 = .ok (.if_icmp .ge 13, 3) := by decide +kernel
theorem d_Picture_hasMode_12 : decode prog_7_method_7_code 12 = .ok (.iload_n 1, 1) := by decide +kernel
theorem d_Picture_hasMode_13 : decode prog_7_method_7_code 13 = .ok (.bipush 9, 2) := by decide +kernel
theorem d_Picture_hasMode_15 : decode prog_7_method_7_code 15 = .ok (.if_icmp .ge 7, 3) := by decide +kernel
theorem d_Picture_hasMode_18 : decode prog_7_method_7_code 18 = .ok (.iconst 1, 1) := by decide +kernel
theorem d_Picture_hasMode_19 : decode prog_7_method_7_code 19 = .ok (.goto 4, 3) := by decide +kernel
theorem d_Picture_hasMode_22 : decode prog_7_method_7_code 22 = .ok (.iconst 0, 1) := by decide +kernel
theorem d_Picture_hasMode_23 : decode prog_7_method_7_code 23 = .ok (.ireturn, 1) := by decide +kernel
def q_pic_hasMode (cI : ClassId) (a1 : Nat) (a2 : Nat) (a3 : Nat) (px : Nat → Int32) (md : Nat → Int32) (vz : Int32) (vw : Int32) (vh : Int32) (vk : Int32) (k : Int32) : Int32 → va_W → Prop := fun rr ww => rr = (if ¬ k < 0 ∧ ¬ vk ≤ k ∧ ¬ 9 ≤ k then 1 else 0) ∧ ww = [(a1, .inr (5, [.ref a2, .ref a3, .int vz, .int vw, .int vh, .int vk])), (a2, .inl (cI, 144, .inl px)), (a3, .inl (cI, 9, .inl md))]
set_option maxHeartbeats 4000000 in
set_option maxRecDepth 100000 in
theorem c_pic_hasMode (l : Launch) {D : va_G} {tys : List (ClassId × FieldType)} {cI : ClassId} (hcI : tys[0]? = some (cI, .int)) (a1 : Nat) (a2 : Nat) (a3 : Nat) (px : Nat → Int32) (md : Nat → Int32) (vz : Int32) (vw : Int32) (vh : Int32) (vk : Int32) (k : Int32) : CsI l D vwCl tys y_Picture_hasMode ws_Picture_hasMode ({ frames := 0, cells := 0, slots := 0, locals := 0 } : Room) [.ref a1, .int k] [(a1, .inr (5, [.ref a2, .ref a3, .int vz, .int vw, .int vh, .int vk])), (a2, .inl (cI, 144, .inl px)), (a3, .inl (cI, 9, .inl md))] (q_pic_hasMode cI a1 a2 a3 px md vz vw vh vk k) 0 0 := by
  intro sz
  refine Met.ofW (cc := prog_7_method_7_code) (maxL := 2) (ret := (some .boolean)) (by decide) rfl ?_
  intro p e s m args below meth c s₁ B hml hv
  obtain ⟨rfl, hsz, hP, hK, hD0, hN⟩ := hv
  have hx := B.exec
  have hb := B.bytes
  have hr := B.returns
  have hts := atoms_spec (ws := ws_Picture_hasMode) B.pre
  have hown : s.vm.findClass "TileForge$Picture" = some m.cls := findClass_of_methodNamed B.named
  have hlocks := B.notSynchronized
  subst hsz
  have hD := hD0.self (sz := s.heap.size)
  generalize hAe : va_A [(a1, .inr (5, [.ref a2, .ref a3, .int vz, .int vw, .int vh, .int vk])), (a2, .inl (cI, 144, .inl px)), (a3, .inl (cI, 9, .inl md))] s.heap.size = A at hD ⊢
  have hA : ∀ q : Nat, s.heap.size ≤ q → A q := fun q h => by rw [← hAe]; exact Or.inr h
  have hS : va_S A s.heap s.heap [] := va_S.rf
  have hP : va_P D vwCl [(a1, .inr (5, [.ref a2, .ref a3, .int vz, .int vw, .int vh, .int vk])), (a2, .inl (cI, 144, .inl px)), (a3, .inl (cI, 9, .inl md))] s.heap := hP
  have hl := lv_entry ([.ref a1, .int k]) (n := 2) (Nat.le_of_ble_eq_true rfl)
  rw [lg_entry_eq]
  generalize (lg_sl ([.ref a1, .int k]) ++ List.replicate (2 - (lg_sl ([.ref a1, .int k])).length) Slot.unset).toArray = ls at hl ⊢
  have hl : lv_has ls 2 [(0, .ref a1), (1, .int k)] := hl
  refine lv_iload_n hx hb d_Picture_hasMode_0 rfl (lv_at hl 1 rfl) ?_
  refine lv_if_lt (tgt := 22) hx hb d_Picture_hasMode_1 (by decide) (fun c_1 => ?_) (fun c_1 => ?_)
  · refine lv_iconst (v := 0) hx hb d_Picture_hasMode_22 (by decide) ?_
    exact W.zret (v := 0) hx hb hr (rfl) (fun t ht hW => ⟨⟨0, [(a1, .inr (5, [.ref a2, .ref a3, .int vz, .int vw, .int vh, .int vk])), (a2, .inl (cI, 144, .inl px)), (a3, .inl (cI, 9, .inl md))], rfl, ⟨(by simp [c_1]), (rfl)⟩, by rw [ht]; exact hP, va_K.moved hW.alike hK, hD⟩, hS.F ht⟩) hS.2.2 d_Picture_hasMode_23
  · refine lv_iload_n hx hb d_Picture_hasMode_4 rfl (lv_at hl 1 rfl) ?_
    refine lv_aload_n hx hb d_Picture_hasMode_5 rfl (lv_at hl 0 rfl) ?_
    refine va_get (D := D) (ci := 5) (v := .int vk) (C := "TileForge$Picture") (T := T_Picture) (N := 6) hx hb hts (cs_in in_Picture) hown hK hP 0 rfl rfl 5 (by decide) (hts _ (cs_m mw_90)) (fun _ h9 => h9) rfl d_Picture_hasMode_6 ?_
    refine lv_icmp_ge (tgt := 22) hx hb d_Picture_hasMode_9 (by decide) (fun c_9 => ?_) (fun c_9 => ?_)
    · refine lv_iconst (v := 0) hx hb d_Picture_hasMode_22 (by decide) ?_
      exact W.zret (v := 0) hx hb hr (rfl) (fun t ht hW => ⟨⟨0, [(a1, .inr (5, [.ref a2, .ref a3, .int vz, .int vw, .int vh, .int vk])), (a2, .inl (cI, 144, .inl px)), (a3, .inl (cI, 9, .inl md))], rfl, ⟨(by simp [c_1, c_9]), (rfl)⟩, by rw [ht]; exact hP, va_K.moved hW.alike hK, hD⟩, hS.F ht⟩) hS.2.2 d_Picture_hasMode_23
    · refine lv_iload_n hx hb d_Picture_hasMode_12 rfl (lv_at hl 1 rfl) ?_
      refine lv_bipush (v := 9) hx hb d_Picture_hasMode_13 (by decide) ?_
      refine lv_icmp_ge (tgt := 22) hx hb d_Picture_hasMode_15 (by decide) (fun c_15 => ?_) (fun c_15 => ?_)
      · refine lv_iconst (v := 0) hx hb d_Picture_hasMode_22 (by decide) ?_
        exact W.zret (v := 0) hx hb hr (rfl) (fun t ht hW => ⟨⟨0, [(a1, .inr (5, [.ref a2, .ref a3, .int vz, .int vw, .int vh, .int vk])), (a2, .inl (cI, 144, .inl px)), (a3, .inl (cI, 9, .inl md))], rfl, ⟨(by simp [c_1, c_9, c_15]), (rfl)⟩, by rw [ht]; exact hP, va_K.moved hW.alike hK, hD⟩, hS.F ht⟩) hS.2.2 d_Picture_hasMode_23
      · refine lv_iconst (v := 1) hx hb d_Picture_hasMode_18 (by decide) ?_
        refine lv_goto (tgt := 23) hx hb d_Picture_hasMode_19 (by decide) ?_
        exact W.zret (v := 1) hx hb hr (rfl) (fun t ht hW => ⟨⟨1, [(a1, .inr (5, [.ref a2, .ref a3, .int vz, .int vw, .int vh, .int vk])), (a2, .inl (cI, 144, .inl px)), (a3, .inl (cI, 9, .inl md))], rfl, ⟨(by simp [c_1, c_9, c_15]), (rfl)⟩, by rw [ht]; exact hP, va_K.moved hW.alike hK, hD⟩, hS.F ht⟩) hS.2.2 d_Picture_hasMode_23
def y_Picture_addMode : MethodName := ⟨"TileForge$Picture", "addMode", "(I)V"⟩
def ws_Picture_addMode : List Cond := .code y_Picture_addMode prog_7_method_8_code 2 none :: GW
theorem mw_99 : (.code ⟨"TileForge$Picture", "addMode", "(I)V"⟩ prog_7_method_8_code 2 none : Cond) ∈ GW := List.mem_filter.mpr ⟨(List.mem_append_right _ (List.mem_append_right _ (List.mem_append_right _ (List.mem_append_left _ (List.mem_of_getElem? (i := 9) rfl))))), rfl⟩
theorem hd_Picture_addMode : y_Picture_addMode.cls ≠ "java/lang/invoke/MethodHandle" ∧ y_Picture_addMode.cls ≠ "java/lang/invoke/VarHandle" ∧ (parseMethodDescriptor y_Picture_addMode.desc).map (fun d => d.parameters.length) = some 1 := by decide +kernel
theorem d_Picture_addMode_0 : decode prog_7_method_8_code 0 = .ok (.aload_n 0, 1) := by decide +kernel
theorem d_Picture_addMode_1 : decode prog_7_method_8_code 1 = .ok (.getfield 29, 3) := by decide +kernel
theorem d_Picture_addMode_4 : decode prog_7_method_8_code 4 = .ok (.bipush 9, 2) := by decide +kernel
theorem d_Picture_addMode_6 : decode prog_7_method_8_code 6 = .ok (.if_icmp .ge 23, 3) := by decide +kernel
theorem d_Picture_addMode_9 : decode prog_7_method_8_code 9 = .ok (.aload_n 0, 1) := by decide +kernel
theorem d_Picture_addMode_10 : decode prog_7_method_8_code 10 = .ok (.getfield 15, 3) := by decide +kernel
theorem d_Picture_addMode_13 : decode prog_7_method_8_code 13 = .ok (.aload_n 0, 1) := by decide +kernel
theorem d_Picture_addMode_14 : decode prog_7_method_8_code 14 = .ok (.getfield 29, 3) := by decide +kernel
theorem d_Picture_addMode_17 : decode prog_7_method_8_code 17 = .ok (.iload_n 1, 1) := by decide +kernel
theorem d_Picture_addMode_18 : decode prog_7_method_8_code 18 = .ok (.iastore, 1) := by decide +kernel
theorem d_Picture_addMode_19 : decode prog_7_method_8_code 19 = .ok (.aload_n 0, 1) := by decide +kernel
theorem d_Picture_addMode_20 : decode prog_7_method_8_code 20 = .ok (.dup, 1) := by decide +kernel
theorem d_Picture_addMode_21 : decode prog_7_method_8_code 21 = .ok (.getfield 29, 3) := by decide +kernel
theorem d_Picture_addMode_24 : decode prog_7_method_8_code 24 = .ok (.iconst 1, 1) := by decide +kernel
theorem d_Picture_addMode_25 : decode prog_7_method_8_code 25 = .ok (.iadd, 1) := by decide +kernel
theorem d_Picture_addMode_26 : decode prog_7_method_8_code 26 = .ok (.putfield 29, 3) := by decide +kernel
theorem d_Picture_addMode_29 : decode prog_7_method_8_code 29 = .ok (.return_, 1) := by decide +kernel
def q_pic_addMode (cI : ClassId) (a1 : Nat) (a2 : Nat) (a3 : Nat) (px : Nat → Int32) (md : Nat → Int32) (vz : Int32) (vw : Int32) (vh : Int32) (kn : Nat) (v : Int32) : va_W → Prop := fun ww => ww = [(a1, .inr (5, [.ref a2, .ref a3, .int vz, .int vw, .int vh, .int (nI (kn + 1))])), (a2, .inl (cI, 144, .inl px)), (a3, .inl (cI, 9, .inl (upd md kn v)))]
set_option maxHeartbeats 4000000 in
set_option maxRecDepth 100000 in
theorem c_pic_addMode (l : Launch) {D : va_G} {tys : List (ClassId × FieldType)} {cI : ClassId} (hcI : tys[0]? = some (cI, .int)) (a1 : Nat) (a2 : Nat) (a3 : Nat) (px : Nat → Int32) (md : Nat → Int32) (vz : Int32) (vw : Int32) (vh : Int32) (kn : Nat) (v : Int32) (hn : kn < 9) : CsV l D vwCl tys y_Picture_addMode ws_Picture_addMode ({ frames := 0, cells := 0, slots := 0, locals := 0 } : Room) [.ref a1, .int v] [(a1, .inr (5, [.ref a2, .ref a3, .int vz, .int vw, .int vh, .int (nI kn)])), (a2, .inl (cI, 144, .inl px)), (a3, .inl (cI, 9, .inl md))] (q_pic_addMode cI a1 a2 a3 px md vz vw vh kn v) 0 0 := by
  intro sz
  refine Met.ofW (cc := prog_7_method_8_code) (maxL := 2) (ret := none) (by decide) rfl ?_
  intro p e s m args below meth c s₁ B hml hv
  obtain ⟨rfl, hsz, hP, hK, hD0, hN⟩ := hv
  have hx := B.exec
  have hb := B.bytes
  have hr := B.returns
  have hts := atoms_spec (ws := ws_Picture_addMode) B.pre
  have hown : s.vm.findClass "TileForge$Picture" = some m.cls := findClass_of_methodNamed B.named
  have hlocks := B.notSynchronized
  subst hsz
  have hD := hD0.self (sz := s.heap.size)
  generalize hAe : va_A [(a1, .inr (5, [.ref a2, .ref a3, .int vz, .int vw, .int vh, .int (nI kn)])), (a2, .inl (cI, 144, .inl px)), (a3, .inl (cI, 9, .inl md))] s.heap.size = A at hD ⊢
  have hA : ∀ q : Nat, s.heap.size ≤ q → A q := fun q h => by rw [← hAe]; exact Or.inr h
  have hS : va_S A s.heap s.heap [] := va_S.rf
  have hP : va_P D vwCl [(a1, .inr (5, [.ref a2, .ref a3, .int vz, .int vw, .int vh, .int (nI kn)])), (a2, .inl (cI, 144, .inl px)), (a3, .inl (cI, 9, .inl md))] s.heap := hP
  have hl := lv_entry ([.ref a1, .int v]) (n := 2) (Nat.le_of_ble_eq_true rfl)
  rw [lg_entry_eq]
  generalize (lg_sl ([.ref a1, .int v]) ++ List.replicate (2 - (lg_sl ([.ref a1, .int v])).length) Slot.unset).toArray = ls at hl ⊢
  have hl : lv_has ls 2 [(0, .ref a1), (1, .int v)] := hl
  refine lv_aload_n hx hb d_Picture_addMode_0 rfl (lv_at hl 0 rfl) ?_
  refine va_get (D := D) (ci := 5) (v := .int (nI kn)) (C := "TileForge$Picture") (T := T_Picture) (N := 6) hx hb hts (cs_in in_Picture) hown hK hP 0 rfl rfl 5 (by decide) (hts _ (cs_m mw_90)) (fun _ h9 => h9) rfl d_Picture_addMode_1 ?_
  refine lv_bipush (v := 9) hx hb d_Picture_addMode_4 (by decide) ?_
  refine lv_icmp_ge (tgt := 29) hx hb d_Picture_addMode_6 (by decide) (fun c_6 => ?_) (fun c_6 => ?_)
  · exact absurd c_6 (nI_ge (a := kn) (b := 9) hn (by decide))
  · refine lv_aload_n hx hb d_Picture_addMode_9 rfl (lv_at hl 0 rfl) ?_
    refine va_get (D := D) (ci := 5) (v := .ref a3) (C := "TileForge$Picture") (T := T_Picture) (N := 6) hx hb hts (cs_in in_Picture) hown hK hP 0 rfl rfl 1 (by decide) (hts _ (cs_m mw_85)) (fun _ h9 => h9) rfl d_Picture_addMode_10 ?_
    refine lv_aload_n hx hb d_Picture_addMode_13 rfl (lv_at hl 0 rfl) ?_
    refine va_get (D := D) (ci := 5) (v := .int (nI kn)) (C := "TileForge$Picture") (T := T_Picture) (N := 6) hx hb hts (cs_in in_Picture) hown hK hP 0 rfl rfl 5 (by decide) (hts _ (cs_m mw_90)) (fun _ h9 => h9) rfl d_Picture_addMode_14 ?_
    refine lv_iload_n hx hb d_Picture_addMode_17 rfl (lv_at hl 1 rfl) ?_
    refine cs_iast (j := kn) hx hb hK hcI hP hD hS 2 rfl (rfl) (hn) (by decide) d_Picture_addMode_18 (fun H locs hP hD hS => ?_)
    have hP : va_P D vwCl [(a1, .inr (5, [.ref a2, .ref a3, .int vz, .int vw, .int vh, .int (nI kn)])), (a2, .inl (cI, 144, .inl px)), (a3, .inl (cI, 9, .inl (upd md kn v)))] H := hP
    have hD : va_D A [(a1, .inr (5, [.ref a2, .ref a3, .int vz, .int vw, .int vh, .int (nI kn)])), (a2, .inl (cI, 144, .inl px)), (a3, .inl (cI, 9, .inl (upd md kn v)))] := hD
    refine lv_aload_n hx hb d_Picture_addMode_19 rfl (lv_at hl 0 rfl) ?_
    refine lv_dup hx hb d_Picture_addMode_20 rfl ?_
    refine va_get (D := D) (ci := 5) (v := .int (nI kn)) (C := "TileForge$Picture") (T := T_Picture) (N := 6) hx hb hts (cs_in in_Picture) hown hK hP 0 rfl rfl 5 (by decide) (hts _ (cs_m mw_90)) (fun _ h9 => h9) rfl d_Picture_addMode_21 ?_
    refine lv_iconst (v := 1) hx hb d_Picture_addMode_24 (by decide) ?_
    refine lv_iadd hx hb d_Picture_addMode_25 ?_
    refine cs_top (y := nI (kn + 1)) (nI_1 kn) ?_
    refine va_put (D := D) (ci := 5) (v := .int (nI (kn + 1))) (ty := .int) (C := "TileForge$Picture") (T := T_Picture) (N := 6) hx hb hts (cs_in in_Picture) ty_Picture tok_Picture nm_Picture hown hK hP hD hS 0 rfl rfl 5 (by decide) (hts _ (cs_m mw_90)) (fun _ h9 => h9) rfl (by decide +kernel) rfl rfl (Nat.le_of_ble_eq_true rfl) d_Picture_addMode_26 (fun H locs hP hD hS => ?_)
    have hP : va_P D vwCl [(a1, .inr (5, [.ref a2, .ref a3, .int vz, .int vw, .int vh, .int (nI (kn + 1))])), (a2, .inl (cI, 144, .inl px)), (a3, .inl (cI, 9, .inl (upd md kn v)))] H := hP
    have hD : va_D A [(a1, .inr (5, [.ref a2, .ref a3, .int vz, .int vw, .int vh, .int (nI (kn + 1))])), (a2, .inl (cI, 144, .inl px)), (a3, .inl (cI, 9, .inl (upd md kn v)))] := hD
    exact W.vret hx hb hr (fun t ht hW => ⟨⟨[(a1, .inr (5, [.ref a2, .ref a3, .int vz, .int vw, .int vh, .int (nI (kn + 1))])), (a2, .inl (cI, 144, .inl px)), (a3, .inl (cI, 9, .inl (upd md kn v)))], rfl, (show _ = _ from (rfl)), by rw [ht]; exact hP, va_K.moved hW.alike hK, hD⟩, hS.F ht⟩) hS.2.2 d_Picture_addMode_29
def y_Picture_become : MethodName := ⟨"TileForge$Picture", "become", "(LTileForge$Picture;)V"⟩
def ws_Picture_become : List Cond := .code y_Picture_become prog_7_method_3_code 2 none :: GW
theorem mw_100 : (.code ⟨"TileForge$Picture", "become", "(LTileForge$Picture;)V"⟩ prog_7_method_3_code 2 none : Cond) ∈ GW := List.mem_filter.mpr ⟨(List.mem_append_right _ (List.mem_append_right _ (List.mem_append_right _ (List.mem_append_left _ (List.mem_of_getElem? (i := 36) rfl))))), rfl⟩
theorem hd_Picture_become : y_Picture_become.cls ≠ "java/lang/invoke/MethodHandle" ∧ y_Picture_become.cls ≠ "java/lang/invoke/VarHandle" ∧ (parseMethodDescriptor y_Picture_become.desc).map (fun d => d.parameters.length) = some 1 := by decide +kernel
theorem d_Picture_become_0 : decode prog_7_method_3_code 0 = .ok (.aload_n 0, 1) := by decide +kernel
theorem d_Picture_become_1 : decode prog_7_method_3_code 1 = .ok (.aload_n 1, 1) := by decide +kernel
theorem d_Picture_become_2 : decode prog_7_method_3_code 2 = .ok (.getfield 18, 3) := by decide +kernel
theorem d_Picture_become_5 : decode prog_7_method_3_code 5 = .ok (.putfield 18, 3) := by decide +kernel
theorem d_Picture_become_8 : decode prog_7_method_3_code 8 = .ok (.aload_n 0, 1) := by decide +kernel
theorem d_Picture_become_9 : decode prog_7_method_3_code 9 = .ok (.aload_n 1, 1) := by decide +kernel
theorem d_Picture_become_10 : decode prog_7_method_3_code 10 = .ok (.getfield 22, 3) := by decide +kernel
theorem d_Picture_become_13 : decode prog_7_method_3_code 13 = .ok (.putfield 22, 3) := by decide +kernel
theorem d_Picture_become_16 : decode prog_7_method_3_code 16 = .ok (.aload_n 0, 1) := by decide +kernel
theorem d_Picture_become_17 : decode prog_7_method_3_code 17 = .ok (.aload_n 1, 1) := by decide +kernel
theorem d_Picture_become_18 : decode prog_7_method_3_code 18 = .ok (.getfield 26, 3) := by decide +kernel
theorem d_Picture_become_21 : decode prog_7_method_3_code 21 = .ok (.putfield 26, 3) := by decide +kernel
theorem d_Picture_become_24 : decode prog_7_method_3_code 24 = .ok (.aload_n 0, 1) := by decide +kernel
theorem d_Picture_become_25 : decode prog_7_method_3_code 25 = .ok (.aload_n 1, 1) := by decide +kernel
theorem d_Picture_become_26 : decode prog_7_method_3_code 26 = .ok (.getfield 29, 3) := by decide +kernel
theorem d_Picture_become_29 : decode prog_7_method_3_code 29 = .ok (.putfield 29, 3) := by decide +kernel
theorem d_Picture_become_32 : decode prog_7_method_3_code 32 = .ok (.aload_n 1, 1) := by decide +kernel
theorem d_Picture_become_33 : decode prog_7_method_3_code 33 = .ok (.getfield 9, 3) := by decide +kernel
theorem d_Picture_become_36 : decode prog_7_method_3_code 36 = .ok (.iconst 0, 1) := by decide +kernel
theorem d_Picture_become_37 : decode prog_7_method_3_code 37 = .ok (.aload_n 0, 1) := by decide +kernel
theorem d_Picture_become_38 : decode prog_7_method_3_code 38 = .ok (.getfield 9, 3) := by decide +kernel
theorem d_Picture_become_41 : decode prog_7_method_3_code 41 = .ok (.iconst 0, 1) := by decide +kernel
theorem d_Picture_become_42 : decode prog_7_method_3_code 42 = .ok (.sipush 144, 3) := by decide +kernel
theorem d_Picture_become_45 : decode prog_7_method_3_code 45 = .ok (.invokestatic 32, 3) := by decide +kernel
theorem d_Picture_become_48 : decode prog_7_method_3_code 48 = .ok (.aload_n 1, 1) := by decide +kernel
theorem d_Picture_become_49 : decode prog_7_method_3_code 49 = .ok (.getfield 15, 3) := by decide +kernel
theorem d_Picture_become_52 : decode prog_7_method_3_code 52 = .ok (.iconst 0, 1) := by decide +kernel
theorem d_Picture_become_53 : decode prog_7_method_3_code 53 = .ok (.aload_n 0, 1) := by decide +kernel
theorem d_Picture_become_54 : decode prog_7_method_3_code 54 = .ok (.getfield 15, 3) := by decide +kernel
theorem d_Picture_become_57 : decode prog_7_method_3_code 57 = .ok (.iconst 0, 1) := by decide +kernel
theorem d_Picture_become_58 : decode prog_7_method_3_code 58 = .ok (.bipush 9, 2) := by decide +kernel
theorem d_Picture_become_60 : decode prog_7_method_3_code 60 = .ok (.invokestatic 32, 3) := by decide +kernel
theorem d_Picture_become_63 : decode prog_7_method_3_code 63 = .ok (.return_, 1) := by decide +kernel
theorem mw_101 : (.methodLink "TileForge$Picture" 32 arraycopyName : Cond) ∈ GW := List.mem_filter.mpr ⟨(List.mem_append_right _ (List.mem_append_right _ (List.mem_append_right _ (List.mem_append_left _ (List.mem_of_getElem? (i := 37) rfl))))), rfl⟩
theorem mw_102 : (.native arraycopyName : Cond) ∈ GW := List.mem_filter.mpr ⟨(List.mem_append_right _ (List.mem_append_right _ (List.mem_append_right _ (List.mem_append_left _ (List.mem_of_getElem? (i := 39) rfl))))), rfl⟩
theorem mw_103 : (.static arraycopyName : Cond) ∈ GW := List.mem_filter.mpr ⟨(List.mem_append_right _ (List.mem_append_right _ (List.mem_append_right _ (List.mem_append_left _ (List.mem_of_getElem? (i := 38) rfl))))), rfl⟩
theorem mw_104 : (.initialized "java/lang/System" : Cond) ∈ GW := List.mem_filter.mpr ⟨(List.mem_append_right _ (List.mem_append_left _ (List.mem_of_getElem? (i := 18) rfl))), rfl⟩
def q_pic_become (cI : ClassId) (a1 : Nat) (a2 : Nat) (a3 : Nat) (px : Nat → Int32) (md : Nat → Int32) (vz : Int32) (vw : Int32) (vh : Int32) (vk : Int32) (b1 : Nat) (b2 : Nat) (b3 : Nat) (px2 : Nat → Int32) (md2 : Nat → Int32) (vz2 : Int32) (vw2 : Int32) (vh2 : Int32) (vk2 : Int32) : va_W → Prop := fun ww => ∃ (px' : Nat → Int32) (md' : Nat → Int32), (∀ j, j < 144 → px' j = px2 j) ∧ (∀ j, j < 9 → md' j = md2 j) ∧ ww = [(a1, .inr (5, [.ref a2, .ref a3, .int vz2, .int vw2, .int vh2, .int vk2])), (a2, .inl (cI, 144, .inl px')), (a3, .inl (cI, 9, .inl md')), (b1, .inr (5, [.ref b2, .ref b3, .int vz2, .int vw2, .int vh2, .int vk2])), (b2, .inl (cI, 144, .inl px2)), (b3, .inl (cI, 9, .inl md2))]
set_option maxHeartbeats 4000000 in
set_option maxRecDepth 100000 in
theorem c_pic_become (l : Launch) {D : va_G} {tys : List (ClassId × FieldType)} {cI : ClassId} (hcI : tys[0]? = some (cI, .int)) (a1 : Nat) (a2 : Nat) (a3 : Nat) (px : Nat → Int32) (md : Nat → Int32) (vz : Int32) (vw : Int32) (vh : Int32) (vk : Int32) (b1 : Nat) (b2 : Nat) (b3 : Nat) (px2 : Nat → Int32) (md2 : Nat → Int32) (vz2 : Int32) (vw2 : Int32) (vh2 : Int32) (vk2 : Int32) (hmade : vz2 = 0 ∨ vz2 = 1) : CsV l D vwCl tys y_Picture_become ws_Picture_become ({ frames := 1, cells := 0, slots := 0, locals := 40 } : Room) [.ref a1, .ref b1] [(a1, .inr (5, [.ref a2, .ref a3, .int vz, .int vw, .int vh, .int vk])), (a2, .inl (cI, 144, .inl px)), (a3, .inl (cI, 9, .inl md)), (b1, .inr (5, [.ref b2, .ref b3, .int vz2, .int vw2, .int vh2, .int vk2])), (b2, .inl (cI, 144, .inl px2)), (b3, .inl (cI, 9, .inl md2))] (q_pic_become cI a1 a2 a3 px md vz vw vh vk b1 b2 b3 px2 md2 vz2 vw2 vh2 vk2) 0 0 := by
  intro sz
  refine Met.ofW (cc := prog_7_method_3_code) (maxL := 2) (ret := none) (by decide) rfl ?_
  intro p e s m args below meth c s₁ B hml hv
  obtain ⟨rfl, hsz, hP, hK, hD0, hN⟩ := hv
  have hx := B.exec
  have hb := B.bytes
  have hr := B.returns
  have hts := atoms_spec (ws := ws_Picture_become) B.pre
  have hown : s.vm.findClass "TileForge$Picture" = some m.cls := findClass_of_methodNamed B.named
  have hlocks := B.notSynchronized
  subst hsz
  have hD := hD0.self (sz := s.heap.size)
  generalize hAe : va_A [(a1, .inr (5, [.ref a2, .ref a3, .int vz, .int vw, .int vh, .int vk])), (a2, .inl (cI, 144, .inl px)), (a3, .inl (cI, 9, .inl md)), (b1, .inr (5, [.ref b2, .ref b3, .int vz2, .int vw2, .int vh2, .int vk2])), (b2, .inl (cI, 144, .inl px2)), (b3, .inl (cI, 9, .inl md2))] s.heap.size = A at hD ⊢
  have hA : ∀ q : Nat, s.heap.size ≤ q → A q := fun q h => by rw [← hAe]; exact Or.inr h
  have hS : va_S A s.heap s.heap [] := va_S.rf
  have hP : va_P D vwCl [(a1, .inr (5, [.ref a2, .ref a3, .int vz, .int vw, .int vh, .int vk])), (a2, .inl (cI, 144, .inl px)), (a3, .inl (cI, 9, .inl md)), (b1, .inr (5, [.ref b2, .ref b3, .int vz2, .int vw2, .int vh2, .int vk2])), (b2, .inl (cI, 144, .inl px2)), (b3, .inl (cI, 9, .inl md2))] s.heap := hP
  have hl := lv_entry ([.ref a1, .ref b1]) (n := 2) (Nat.le_of_ble_eq_true rfl)
  rw [lg_entry_eq]
  generalize (lg_sl ([.ref a1, .ref b1]) ++ List.replicate (2 - (lg_sl ([.ref a1, .ref b1])).length) Slot.unset).toArray = ls at hl ⊢
  have hl : lv_has ls 2 [(0, .ref a1), (1, .ref b1)] := hl
  refine lv_aload_n hx hb d_Picture_become_0 rfl (lv_at hl 0 rfl) ?_
  refine lv_aload_n hx hb d_Picture_become_1 rfl (lv_at hl 1 rfl) ?_
  refine va_get (D := D) (ci := 5) (v := .int vz2) (C := "TileForge$Picture") (T := T_Picture) (N := 6) hx hb hts (cs_in in_Picture) hown hK hP 3 rfl rfl 2 (by decide) (hts _ (cs_m mw_87)) (fun _ h9 => h9) rfl d_Picture_become_2 ?_
  refine va_put (D := D) (ci := 5) (v := .int vz2) (ty := .boolean) (C := "TileForge$Picture") (T := T_Picture) (N := 6) hx hb hts (cs_in in_Picture) ty_Picture tok_Picture nm_Picture hown hK hP hD hS 0 rfl rfl 2 (by decide) (hts _ (cs_m mw_87)) (fun _ h9 => h9) rfl (by decide +kernel) (cs_nz hmade) (cs_fz hmade) (Nat.le_of_ble_eq_true rfl) d_Picture_become_5 (fun H locs hP hD hS => ?_)
  have hP : va_P D vwCl [(a1, .inr (5, [.ref a2, .ref a3, .int vz2, .int vw, .int vh, .int vk])), (a2, .inl (cI, 144, .inl px)), (a3, .inl (cI, 9, .inl md)), (b1, .inr (5, [.ref b2, .ref b3, .int vz2, .int vw2, .int vh2, .int vk2])), (b2, .inl (cI, 144, .inl px2)), (b3, .inl (cI, 9, .inl md2))] H := hP
  have hD : va_D A [(a1, .inr (5, [.ref a2, .ref a3, .int vz2, .int vw, .int vh, .int vk])), (a2, .inl (cI, 144, .inl px)), (a3, .inl (cI, 9, .inl md)), (b1, .inr (5, [.ref b2, .ref b3, .int vz2, .int vw2, .int vh2, .int vk2])), (b2, .inl (cI, 144, .inl px2)), (b3, .inl (cI, 9, .inl md2))] := hD
  refine lv_aload_n hx hb d_Picture_become_8 rfl (lv_at hl 0 rfl) ?_
  refine lv_aload_n hx hb d_Picture_become_9 rfl (lv_at hl 1 rfl) ?_
  refine va_get (D := D) (ci := 5) (v := .int vw2) (C := "TileForge$Picture") (T := T_Picture) (N := 6) hx hb hts (cs_in in_Picture) hown hK hP 3 rfl rfl 3 (by decide) (hts _ (cs_m mw_88)) (fun _ h9 => h9) rfl d_Picture_become_10 ?_
  refine va_put (D := D) (ci := 5) (v := .int vw2) (ty := .int) (C := "TileForge$Picture") (T := T_Picture) (N := 6) hx hb hts (cs_in in_Picture) ty_Picture tok_Picture nm_Picture hown hK hP hD hS 0 rfl rfl 3 (by decide) (hts _ (cs_m mw_88)) (fun _ h9 => h9) rfl (by decide +kernel) rfl rfl (Nat.le_of_ble_eq_true rfl) d_Picture_become_13 (fun H locs hP hD hS => ?_)
  have hP : va_P D vwCl [(a1, .inr (5, [.ref a2, .ref a3, .int vz2, .int vw2, .int vh, .int vk])), (a2, .inl (cI, 144, .inl px)), (a3, .inl (cI, 9, .inl md)), (b1, .inr (5, [.ref b2, .ref b3, .int vz2, .int vw2, .int vh2, .int vk2])), (b2, .inl (cI, 144, .inl px2)), (b3, .inl (cI, 9, .inl md2))] H := hP
  have hD : va_D A [(a1, .inr (5, [.ref a2, .ref a3, .int vz2, .int vw2, .int vh, .int vk])), (a2, .inl (cI, 144, .inl px)), (a3, .inl (cI, 9, .inl md)), (b1, .inr (5, [.ref b2, .ref b3, .int vz2, .int vw2, .int vh2, .int vk2])), (b2, .inl (cI, 144, .inl px2)), (b3, .inl (cI, 9, .inl md2))] := hD
  refine lv_aload_n hx hb d_Picture_become_16 rfl (lv_at hl 0 rfl) ?_
  refine lv_aload_n hx hb d_Picture_become_17 rfl (lv_at hl 1 rfl) ?_
  refine va_get (D := D) (ci := 5) (v := .int vh2) (C := "TileForge$Picture") (T := T_Picture) (N := 6) hx hb hts (cs_in in_Picture) hown hK hP 3 rfl rfl 4 (by decide) (hts _ (cs_m mw_89)) (fun _ h9 => h9) rfl d_Picture_become_18 ?_
  refine va_put (D := D) (ci := 5) (v := .int vh2) (ty := .int) (C := "TileForge$Picture") (T := T_Picture) (N := 6) hx hb hts (cs_in in_Picture) ty_Picture tok_Picture nm_Picture hown hK hP hD hS 0 rfl rfl 4 (by decide) (hts _ (cs_m mw_89)) (fun _ h9 => h9) rfl (by decide +kernel) rfl rfl (Nat.le_of_ble_eq_true rfl) d_Picture_become_21 (fun H locs hP hD hS => ?_)
  have hP : va_P D vwCl [(a1, .inr (5, [.ref a2, .ref a3, .int vz2, .int vw2, .int vh2, .int vk])), (a2, .inl (cI, 144, .inl px)), (a3, .inl (cI, 9, .inl md)), (b1, .inr (5, [.ref b2, .ref b3, .int vz2, .int vw2, .int vh2, .int vk2])), (b2, .inl (cI, 144, .inl px2)), (b3, .inl (cI, 9, .inl md2))] H := hP
  have hD : va_D A [(a1, .inr (5, [.ref a2, .ref a3, .int vz2, .int vw2, .int vh2, .int vk])), (a2, .inl (cI, 144, .inl px)), (a3, .inl (cI, 9, .inl md)), (b1, .inr (5, [.ref b2, .ref b3, .int vz2, .int vw2, .int vh2, .int vk2])), (b2, .inl (cI, 144, .inl px2)), (b3, .inl (cI, 9, .inl md2))] := hD
  refine lv_aload_n hx hb d_Picture_become_24 rfl (lv_at hl 0 rfl) ?_
  refine lv_aload_n hx hb d_Picture_become_25 rfl (lv_at hl 1 rfl) ?_
  refine va_get (D := D) (ci := 5) (v := .int vk2) (C := "TileForge$Picture") (T := T_Picture) (N := 6) hx hb hts (cs_in in_Picture) hown hK hP 3 rfl rfl 5 (by decide) (hts _ (cs_m mw_90)) (fun _ h9 => h9) rfl d_Picture_become_26 ?_
  refine va_put (D := D) (ci := 5) (v := .int vk2) (ty := .int) (C := "TileForge$Picture") (T := T_Picture) (N := 6) hx hb hts (cs_in in_Picture) ty_Picture tok_Picture nm_Picture hown hK hP hD hS 0 rfl rfl 5 (by decide) (hts _ (cs_m mw_90)) (fun _ h9 => h9) rfl (by decide +kernel) rfl rfl (Nat.le_of_ble_eq_true rfl) d_Picture_become_29 (fun H locs hP hD hS => ?_)
  have hP : va_P D vwCl [(a1, .inr (5, [.ref a2, .ref a3, .int vz2, .int vw2, .int vh2, .int vk2])), (a2, .inl (cI, 144, .inl px)), (a3, .inl (cI, 9, .inl md)), (b1, .inr (5, [.ref b2, .ref b3, .int vz2, .int vw2, .int vh2, .int vk2])), (b2, .inl (cI, 144, .inl px2)), (b3, .inl (cI, 9, .inl md2))] H := hP
  have hD : va_D A [(a1, .inr (5, [.ref a2, .ref a3, .int vz2, .int vw2, .int vh2, .int vk2])), (a2, .inl (cI, 144, .inl px)), (a3, .inl (cI, 9, .inl md)), (b1, .inr (5, [.ref b2, .ref b3, .int vz2, .int vw2, .int vh2, .int vk2])), (b2, .inl (cI, 144, .inl px2)), (b3, .inl (cI, 9, .inl md2))] := hD
  refine lv_aload_n hx hb d_Picture_become_32 rfl (lv_at hl 1 rfl) ?_
  refine va_get (D := D) (ci := 5) (v := .ref b2) (C := "TileForge$Picture") (T := T_Picture) (N := 6) hx hb hts (cs_in in_Picture) hown hK hP 3 rfl rfl 0 (by decide) (hts _ (cs_m mw_84)) (fun _ h9 => h9) rfl d_Picture_become_33 ?_
  refine lv_iconst (v := 0) hx hb d_Picture_become_36 (by decide) ?_
  refine lv_aload_n hx hb d_Picture_become_37 rfl (lv_at hl 0 rfl) ?_
  refine va_get (D := D) (ci := 5) (v := .ref a2) (C := "TileForge$Picture") (T := T_Picture) (N := 6) hx hb hts (cs_in in_Picture) hown hK hP 0 rfl rfl 0 (by decide) (hts _ (cs_m mw_84)) (fun _ h9 => h9) rfl d_Picture_become_38 ?_
  refine lv_iconst (v := 0) hx hb d_Picture_become_41 (by decide) ?_
  refine lv_sipush (v := 144) hx hb d_Picture_become_42 (by decide) ?_
  refine va_copyi hx hb (hml.trans hl.1.symm) hown (hts _ (cs_m mw_101)) (hts _ (cs_m mw_102)) (hts _ (cs_m mw_103)) (hts _ (cs_m mw_104)) hK hP hD hS 4 1 0 0 rfl rfl hcI hcI rfl (by decide) (by decide) (by decide) (by decide) (by decide) (fun _ _ => rfl) (Nat.le_of_ble_eq_true rfl) (by decide +kernel) d_Picture_become_45 (fun H locs hP hD hS => ?_)
  have hP : va_P D vwCl [(a1, .inr (5, [.ref a2, .ref a3, .int vz2, .int vw2, .int vh2, .int vk2])), (a2, .inl (cI, 144, .inl (va_cpy px2 px 0 0 144))), (a3, .inl (cI, 9, .inl md)), (b1, .inr (5, [.ref b2, .ref b3, .int vz2, .int vw2, .int vh2, .int vk2])), (b2, .inl (cI, 144, .inl px2)), (b3, .inl (cI, 9, .inl md2))] H := hP
  have hD : va_D A [(a1, .inr (5, [.ref a2, .ref a3, .int vz2, .int vw2, .int vh2, .int vk2])), (a2, .inl (cI, 144, .inl (va_cpy px2 px 0 0 144))), (a3, .inl (cI, 9, .inl md)), (b1, .inr (5, [.ref b2, .ref b3, .int vz2, .int vw2, .int vh2, .int vk2])), (b2, .inl (cI, 144, .inl px2)), (b3, .inl (cI, 9, .inl md2))] := hD
  refine lv_aload_n hx hb d_Picture_become_48 rfl (lv_at hl 1 rfl) ?_
  refine va_get (D := D) (ci := 5) (v := .ref b3) (C := "TileForge$Picture") (T := T_Picture) (N := 6) hx hb hts (cs_in in_Picture) hown hK hP 3 rfl rfl 1 (by decide) (hts _ (cs_m mw_85)) (fun _ h9 => h9) rfl d_Picture_become_49 ?_
  refine lv_iconst (v := 0) hx hb d_Picture_become_52 (by decide) ?_
  refine lv_aload_n hx hb d_Picture_become_53 rfl (lv_at hl 0 rfl) ?_
  refine va_get (D := D) (ci := 5) (v := .ref a3) (C := "TileForge$Picture") (T := T_Picture) (N := 6) hx hb hts (cs_in in_Picture) hown hK hP 0 rfl rfl 1 (by decide) (hts _ (cs_m mw_85)) (fun _ h9 => h9) rfl d_Picture_become_54 ?_
  refine lv_iconst (v := 0) hx hb d_Picture_become_57 (by decide) ?_
  refine lv_bipush (v := 9) hx hb d_Picture_become_58 (by decide) ?_
  refine va_copyi hx hb (hml.trans hl.1.symm) hown (hts _ (cs_m mw_101)) (hts _ (cs_m mw_102)) (hts _ (cs_m mw_103)) (hts _ (cs_m mw_104)) hK hP hD hS 5 2 0 0 rfl rfl hcI hcI rfl (by decide) (by decide) (by decide) (by decide) (by decide) (fun _ _ => rfl) (Nat.le_of_ble_eq_true rfl) (by decide +kernel) d_Picture_become_60 (fun H locs hP hD hS => ?_)
  have hP : va_P D vwCl [(a1, .inr (5, [.ref a2, .ref a3, .int vz2, .int vw2, .int vh2, .int vk2])), (a2, .inl (cI, 144, .inl (va_cpy px2 px 0 0 144))), (a3, .inl (cI, 9, .inl (va_cpy md2 md 0 0 9))), (b1, .inr (5, [.ref b2, .ref b3, .int vz2, .int vw2, .int vh2, .int vk2])), (b2, .inl (cI, 144, .inl px2)), (b3, .inl (cI, 9, .inl md2))] H := hP
  have hD : va_D A [(a1, .inr (5, [.ref a2, .ref a3, .int vz2, .int vw2, .int vh2, .int vk2])), (a2, .inl (cI, 144, .inl (va_cpy px2 px 0 0 144))), (a3, .inl (cI, 9, .inl (va_cpy md2 md 0 0 9))), (b1, .inr (5, [.ref b2, .ref b3, .int vz2, .int vw2, .int vh2, .int vk2])), (b2, .inl (cI, 144, .inl px2)), (b3, .inl (cI, 9, .inl md2))] := hD
  exact W.vret hx hb hr (fun t ht hW => ⟨⟨[(a1, .inr (5, [.ref a2, .ref a3, .int vz2, .int vw2, .int vh2, .int vk2])), (a2, .inl (cI, 144, .inl (va_cpy px2 px 0 0 144))), (a3, .inl (cI, 9, .inl (va_cpy md2 md 0 0 9))), (b1, .inr (5, [.ref b2, .ref b3, .int vz2, .int vw2, .int vh2, .int vk2])), (b2, .inl (cI, 144, .inl px2)), (b3, .inl (cI, 9, .inl md2))], rfl, ⟨(va_cpy px2 px 0 0 144), (va_cpy md2 md 0 0 9), (fun j hj => cs_cpy hj), (fun j hj => cs_cpy hj), (rfl)⟩, by rw [ht]; exact hP, va_K.moved hW.alike hK, hD⟩, hS.F ht⟩) hS.2.2 d_Picture_become_63
