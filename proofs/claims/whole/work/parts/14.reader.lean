def y_ByteRow_init : MethodName := ⟨"TileForge$ByteRow", "<init>", "()V"⟩
def ws_ByteRow_init : List Cond := .code y_ByteRow_init prog_4_method_1_code 1 none :: GW
theorem mw_124 : (.code ⟨"TileForge$ByteRow", "<init>", "()V"⟩ prog_4_method_1_code 1 none : Cond) ∈ GW := List.mem_filter.mpr ⟨(List.mem_append_right _ (List.mem_append_left _ (List.mem_of_getElem? (i := 71) rfl))), rfl⟩
theorem hd_ByteRow_init : y_ByteRow_init.cls ≠ "java/lang/invoke/MethodHandle" ∧ y_ByteRow_init.cls ≠ "java/lang/invoke/VarHandle" ∧ (parseMethodDescriptor y_ByteRow_init.desc).map (fun d => d.parameters.length) = some 0 := by decide +kernel
theorem d_ByteRow_init_0 : decode prog_4_method_1_code 0 = .ok (.aload_n 0, 1) := by decide +kernel
theorem d_ByteRow_init_1 : decode prog_4_method_1_code 1 = .ok (.invokespecial 3, 3) := by decide +kernel
theorem d_ByteRow_init_4 : decode prog_4_method_1_code 4 = .ok (.aload_n 0, 1) := by decide +kernel
theorem d_ByteRow_init_5 : decode prog_4_method_1_code 5 = .ok (.sipush 400, 3) := by decide +kernel
theorem d_ByteRow_init_8 : decode prog_4_method_1_code 8 = .ok (.newarray .int, 2) := by decide +kernel
theorem d_ByteRow_init_10 : decode prog_4_method_1_code 10 = .ok (.putfield 9, 3) := by decide +kernel
theorem d_ByteRow_init_13 : decode prog_4_method_1_code 13 = .ok (.return_, 1) := by decide +kernel
theorem mw_125 : (.methodLink "TileForge$ByteRow" 3 objectInit : Cond) ∈ GW := List.mem_filter.mpr ⟨(List.mem_append_right _ (List.mem_append_left _ (List.mem_of_getElem? (i := 72) rfl))), rfl⟩
theorem mw_126 : (.fieldLink "TileForge$ByteRow" 9 "TileForge$ByteRow" "bytes" "[I" : Cond) ∈ GW := List.mem_filter.mpr ⟨(List.mem_append_right _ (List.mem_append_left _ (List.mem_of_getElem? (i := 73) rfl))), rfl⟩
def q_br_init (cI : ClassId) (y1 : Nat) : va_W → Prop := fun ww => ∃ (y2 : Nat), ww = [(y1, .inr (2, [.ref y2, .int 0, .int 0])), (y2, .inl (cI, 400, .inl (fun _ => 0)))]
set_option maxHeartbeats 4000000 in
set_option maxRecDepth 100000 in
theorem c_br_init (l : Launch) {D : va_G} {tys : List (ClassId × FieldType)} {cI : ClassId} (hcI : tys[0]? = some (cI, .int)) (y1 : Nat) : CsV l D vwCl tys y_ByteRow_init ws_ByteRow_init ({ frames := 1, cells := 1, slots := 400, locals := 12 } : Room) [.ref y1] [(y1, .inr (2, [.null, .int 0, .int 0]))] (q_br_init cI y1) 1 400 := by
  intro sz
  refine Met.ofW (cc := prog_4_method_1_code) (maxL := 1) (ret := none) (by decide) rfl ?_
  intro p e s m args below meth c s₁ B hml hv
  obtain ⟨rfl, hsz, hP, hK, hD0, hN⟩ := hv
  have hx := B.exec
  have hb := B.bytes
  have hr := B.returns
  have hts := atoms_spec (ws := ws_ByteRow_init) B.pre
  have hown : s.vm.findClass "TileForge$ByteRow" = some m.cls := findClass_of_methodNamed B.named
  have hlocks := B.notSynchronized
  have hin : meth.name = "<init>" := (name_of_methodNamed B.named B.method).1
  subst hsz
  have hD := hD0.self (sz := s.heap.size)
  generalize hAe : va_A [(y1, .inr (2, [.null, .int 0, .int 0]))] s.heap.size = A at hD ⊢
  have hA : ∀ q : Nat, s.heap.size ≤ q → A q := fun q h => by rw [← hAe]; exact Or.inr h
  have hS : va_S A s.heap s.heap [] := va_S.rf
  have hP : va_P D vwCl [(y1, .inr (2, [.null, .int 0, .int 0]))] s.heap := hP
  have hl := lv_entry ([.ref y1]) (n := 1) (Nat.le_of_ble_eq_true rfl)
  rw [lg_entry_eq]
  generalize (lg_sl ([.ref y1]) ++ List.replicate (1 - (lg_sl ([.ref y1])).length) Slot.unset).toArray = ls at hl ⊢
  have hl : lv_has ls 1 [(0, .ref y1)] := hl
  refine lv_aload_n hx hb d_ByteRow_init_0 rfl (lv_at hl 0 rfl) ?_
  refine W.objInit hx hb hown (hts _ (cs_m mw_125)) (hts _ (cs_m mw_81)) (hts _ (cs_m mw_82)) rfl (by rw [hml]; exact hl.1) rfl d_ByteRow_init_1 (Nat.le_of_ble_eq_true rfl) (Nat.le_of_ble_eq_true rfl) ?_
  refine W.eq (g2 := F0 m 4 ls []) rfl ?_
  refine lv_aload_n hx hb d_ByteRow_init_4 rfl (lv_at hl 0 rfl) ?_
  refine lv_sipush (v := 400) hx hb d_ByteRow_init_5 (by decide) ?_
  refine cs_newi (N := 400) hx hb (hts _ (cs_m mw_83)) hK hcI hP hD hS hA (by decide) rfl (by decide) (Nat.le_of_ble_eq_true rfl) (Nat.le_of_ble_eq_true rfl) d_ByteRow_init_8 (fun q1 H hP hD hS => ?_)
  have hP : va_P D vwCl [(y1, .inr (2, [.null, .int 0, .int 0])), (q1, .inl (cI, 400, .inl (fun _ => 0)))] H := hP
  have hD : va_D A [(y1, .inr (2, [.null, .int 0, .int 0])), (q1, .inl (cI, 400, .inl (fun _ => 0)))] := hD
  refine va_putF (D := D) (ci := 2) (v := .ref q1) (ty := .array .int) (C := "TileForge$ByteRow") (T := T_ByteRow) (N := 3) hx hb hts (cs_in in_ByteRow) ty_ByteRow tok_ByteRow nm_ByteRow hown hK hP hD hS 0 rfl rfl 0 (by decide) (hts _ (cs_m mw_126)) (fun _ h9 => h9) rfl hin rfl (by decide +kernel) rfl rfl (Nat.le_of_ble_eq_true rfl) d_ByteRow_init_10 (fun H locs hP hD hS => ?_)
  have hP : va_P D vwCl [(y1, .inr (2, [.ref q1, .int 0, .int 0])), (q1, .inl (cI, 400, .inl (fun _ => 0)))] H := hP
  have hD : va_D A [(y1, .inr (2, [.ref q1, .int 0, .int 0])), (q1, .inl (cI, 400, .inl (fun _ => 0)))] := hD
  refine W.widen (k := 1) (n := 400) (Nat.le_of_ble_eq_true rfl) (Nat.le_of_ble_eq_true rfl) ?_
  exact W.vret hx hb hr (fun t ht hW => ⟨⟨[(y1, .inr (2, [.ref q1, .int 0, .int 0])), (q1, .inl (cI, 400, .inl (fun _ => 0)))], rfl, ⟨q1, (rfl)⟩, by rw [ht]; exact hP, va_K.moved hW.alike hK, hD⟩, hS.F ht⟩) hS.2.2 d_ByteRow_init_13
def y_ByteRow_has : MethodName := ⟨"TileForge$ByteRow", "has", "(I)Z"⟩
def ws_ByteRow_has : List Cond := .code y_ByteRow_has prog_4_method_2_code 2 (some .boolean) :: GW
theorem mw_127 : (.code ⟨"TileForge$ByteRow", "has", "(I)Z"⟩ prog_4_method_2_code 2 (some .boolean) : Cond) ∈ GW := List.mem_filter.mpr ⟨(List.mem_append_right _ (List.mem_append_right _ (List.mem_append_right _ (List.mem_append_left _ (List.mem_of_getElem? (i := 135) rfl))))), rfl⟩
theorem hd_ByteRow_has : y_ByteRow_has.cls ≠ "java/lang/invoke/MethodHandle" ∧ y_ByteRow_has.cls ≠ "java/lang/invoke/VarHandle" ∧ (parseMethodDescriptor y_ByteRow_has.desc).map (fun d => d.parameters.length) = some 1 := by decide +kernel
theorem d_ByteRow_has_0 : decode prog_4_method_2_code 0 = .ok (.iload_n 1, 1) := by decide +kernel
theorem d_ByteRow_has_1 : decode prog_4_method_2_code 1 = .ok (.ifCond .lt 22, 3) := by decide +kernel
theorem d_ByteRow_has_4 : decode prog_4_method_2_code 4 = .ok (.iload_n 1, 1) := by decide +kernel
theorem d_ByteRow_has_5 : decode prog_4_method_2_code 5 = .ok (.aload_n 0, 1) := by decide +kernel
theorem d_ByteRow_has_6 : decode prog_4_method_2_code 6 = .ok (.getfield 15, 3) := by decide +kernel
theorem d_ByteRow_has_9 : decode prog_4_method_2_code 9 = .ok (.if_icmp .ge 14, 3) := by decide +kernel
theorem d_ByteRow_has_12 : decode prog_4_method_2_code 12 = .ok (.iload_n 1, 1) := by decide +kernel
theorem d_ByteRow_has_13 : decode prog_4_method_2_code 13 = .ok (.sipush 400, 3) := by decide +kernel
theorem d_ByteRow_has_16 : decode prog_4_method_2_code 16 = .ok (.if_icmp .ge 7, 3) := by decide +kernel
theorem d_ByteRow_has_19 : decode prog_4_method_2_code 19 = .ok (.iconst 1, 1) := by decide +kernel
theorem d_ByteRow_has_20 : decode prog_4_method_2_code 20 = .ok (.goto 4, 3) := by decide +kernel
theorem d_ByteRow_has_23 : decode prog_4_method_2_code 23 = .ok (.iconst 0, 1) := by decide +kernel
theorem d_ByteRow_has_24 : decode prog_4_method_2_code 24 = .ok (.ireturn, 1) := by decide +kernel
theorem mw_128 : (.fieldLink "TileForge$ByteRow" 15 "TileForge$ByteRow" "length" "I" : Cond) ∈ GW := List.mem_filter.mpr ⟨(List.mem_append_right _ (List.mem_append_left _ (List.mem_of_getElem? (i := 76) rfl))), rfl⟩
def q_br_has (cI : ClassId) (y1 : Nat) (y2 : Nat) (yt : Nat → Int32) (yl : Nat) (yp : Nat) (k : Int32) : Int32 → va_W → Prop := fun rr ww => rr = (if ¬ k < 0 ∧ ¬ nI yl ≤ k ∧ ¬ 400 ≤ k then 1 else 0) ∧ ww = [(y1, .inr (2, [.ref y2, .int (nI yl), .int (nI yp)])), (y2, .inl (cI, 400, .inl yt))]
set_option maxHeartbeats 4000000 in
set_option maxRecDepth 100000 in
theorem c_br_has (l : Launch) {D : va_G} {tys : List (ClassId × FieldType)} {cI : ClassId} (hcI : tys[0]? = some (cI, .int)) (y1 : Nat) (y2 : Nat) (yt : Nat → Int32) (yl : Nat) (yp : Nat) (k : Int32) : CsI l D vwCl tys y_ByteRow_has ws_ByteRow_has ({ frames := 0, cells := 0, slots := 0, locals := 0 } : Room) [.ref y1, .int k] [(y1, .inr (2, [.ref y2, .int (nI yl), .int (nI yp)])), (y2, .inl (cI, 400, .inl yt))] (q_br_has cI y1 y2 yt yl yp k) 0 0 := by
  intro sz
  refine Met.ofW (cc := prog_4_method_2_code) (maxL := 2) (ret := (some .boolean)) (by decide) rfl ?_
  intro p e s m args below meth c s₁ B hml hv
  obtain ⟨rfl, hsz, hP, hK, hD0, hN⟩ := hv
  have hx := B.exec
  have hb := B.bytes
  have hr := B.returns
  have hts := atoms_spec (ws := ws_ByteRow_has) B.pre
  have hown : s.vm.findClass "TileForge$ByteRow" = some m.cls := findClass_of_methodNamed B.named
  have hlocks := B.notSynchronized
  subst hsz
  have hD := hD0.self (sz := s.heap.size)
  generalize hAe : va_A [(y1, .inr (2, [.ref y2, .int (nI yl), .int (nI yp)])), (y2, .inl (cI, 400, .inl yt))] s.heap.size = A at hD ⊢
  have hA : ∀ q : Nat, s.heap.size ≤ q → A q := fun q h => by rw [← hAe]; exact Or.inr h
  have hS : va_S A s.heap s.heap [] := va_S.rf
  have hP : va_P D vwCl [(y1, .inr (2, [.ref y2, .int (nI yl), .int (nI yp)])), (y2, .inl (cI, 400, .inl yt))] s.heap := hP
  have hl := lv_entry ([.ref y1, .int k]) (n := 2) (Nat.le_of_ble_eq_true rfl)
  rw [lg_entry_eq]
  generalize (lg_sl ([.ref y1, .int k]) ++ List.replicate (2 - (lg_sl ([.ref y1, .int k])).length) Slot.unset).toArray = ls at hl ⊢
  have hl : lv_has ls 2 [(0, .ref y1), (1, .int k)] := hl
  refine lv_iload_n hx hb d_ByteRow_has_0 rfl (lv_at hl 1 rfl) ?_
  refine lv_if_lt (tgt := 23) hx hb d_ByteRow_has_1 (by decide) (fun c_1 => ?_) (fun c_1 => ?_)
  · refine lv_iconst (v := 0) hx hb d_ByteRow_has_23 (by decide) ?_
    exact W.zret (v := 0) hx hb hr (rfl) (fun t ht hW => ⟨⟨0, [(y1, .inr (2, [.ref y2, .int (nI yl), .int (nI yp)])), (y2, .inl (cI, 400, .inl yt))], rfl, ⟨(by simp [c_1]), (rfl)⟩, by rw [ht]; exact hP, va_K.moved hW.alike hK, hD⟩, hS.F ht⟩) hS.2.2 d_ByteRow_has_24
  · refine lv_iload_n hx hb d_ByteRow_has_4 rfl (lv_at hl 1 rfl) ?_
    refine lv_aload_n hx hb d_ByteRow_has_5 rfl (lv_at hl 0 rfl) ?_
    refine va_get (D := D) (ci := 2) (v := .int (nI yl)) (C := "TileForge$ByteRow") (T := T_ByteRow) (N := 3) hx hb hts (cs_in in_ByteRow) hown hK hP 0 rfl rfl 1 (by decide) (hts _ (cs_m mw_128)) (fun _ h9 => h9) rfl d_ByteRow_has_6 ?_
    refine lv_icmp_ge (tgt := 23) hx hb d_ByteRow_has_9 (by decide) (fun c_9 => ?_) (fun c_9 => ?_)
    · refine lv_iconst (v := 0) hx hb d_ByteRow_has_23 (by decide) ?_
      exact W.zret (v := 0) hx hb hr (rfl) (fun t ht hW => ⟨⟨0, [(y1, .inr (2, [.ref y2, .int (nI yl), .int (nI yp)])), (y2, .inl (cI, 400, .inl yt))], rfl, ⟨(by simp [c_1, c_9]), (rfl)⟩, by rw [ht]; exact hP, va_K.moved hW.alike hK, hD⟩, hS.F ht⟩) hS.2.2 d_ByteRow_has_24
    · refine lv_iload_n hx hb d_ByteRow_has_12 rfl (lv_at hl 1 rfl) ?_
      refine lv_sipush (v := 400) hx hb d_ByteRow_has_13 (by decide) ?_
      refine lv_icmp_ge (tgt := 23) hx hb d_ByteRow_has_16 (by decide) (fun c_16 => ?_) (fun c_16 => ?_)
      · refine lv_iconst (v := 0) hx hb d_ByteRow_has_23 (by decide) ?_
        exact W.zret (v := 0) hx hb hr (rfl) (fun t ht hW => ⟨⟨0, [(y1, .inr (2, [.ref y2, .int (nI yl), .int (nI yp)])), (y2, .inl (cI, 400, .inl yt))], rfl, ⟨(by simp [c_1, c_9, c_16]), (rfl)⟩, by rw [ht]; exact hP, va_K.moved hW.alike hK, hD⟩, hS.F ht⟩) hS.2.2 d_ByteRow_has_24
      · refine lv_iconst (v := 1) hx hb d_ByteRow_has_19 (by decide) ?_
        refine lv_goto (tgt := 24) hx hb d_ByteRow_has_20 (by decide) ?_
        exact W.zret (v := 1) hx hb hr (rfl) (fun t ht hW => ⟨⟨1, [(y1, .inr (2, [.ref y2, .int (nI yl), .int (nI yp)])), (y2, .inl (cI, 400, .inl yt))], rfl, ⟨(by simp [c_1, c_9, c_16]), (rfl)⟩, by rw [ht]; exact hP, va_K.moved hW.alike hK, hD⟩, hS.F ht⟩) hS.2.2 d_ByteRow_has_24
def y_ByteRow_beginBehindHead : MethodName := ⟨"TileForge$ByteRow", "beginBehindHead", "()V"⟩
def ws_ByteRow_beginBehindHead : List Cond := .code y_ByteRow_beginBehindHead prog_4_method_5_code 1 none :: GW
theorem mw_129 : (.code ⟨"TileForge$ByteRow", "beginBehindHead", "()V"⟩ prog_4_method_5_code 1 none : Cond) ∈ GW := List.mem_filter.mpr ⟨(List.mem_append_right _ (List.mem_append_right _ (List.mem_append_right _ (List.mem_append_left _ (List.mem_of_getElem? (i := 86) rfl))))), rfl⟩
theorem hd_ByteRow_beginBehindHead : y_ByteRow_beginBehindHead.cls ≠ "java/lang/invoke/MethodHandle" ∧ y_ByteRow_beginBehindHead.cls ≠ "java/lang/invoke/VarHandle" ∧ (parseMethodDescriptor y_ByteRow_beginBehindHead.desc).map (fun d => d.parameters.length) = some 0 := by decide +kernel
theorem d_ByteRow_beginBehindHead_0 : decode prog_4_method_5_code 0 = .ok (.aload_n 0, 1) := by decide +kernel
theorem d_ByteRow_beginBehindHead_1 : decode prog_4_method_5_code 1 = .ok (.bipush 24, 2) := by decide +kernel
theorem d_ByteRow_beginBehindHead_3 : decode prog_4_method_5_code 3 = .ok (.putfield 45, 3) := by decide +kernel
theorem d_ByteRow_beginBehindHead_6 : decode prog_4_method_5_code 6 = .ok (.return_, 1) := by decide +kernel
theorem mw_130 : (.fieldLink "TileForge$ByteRow" 45 "TileForge$ByteRow" "position" "I" : Cond) ∈ GW := List.mem_filter.mpr ⟨(List.mem_append_right _ (List.mem_append_left _ (List.mem_of_getElem? (i := 79) rfl))), rfl⟩
def q_br_bbh (cI : ClassId) (y1 : Nat) (y2 : Nat) (yt : Nat → Int32) (yl : Nat) (yp : Nat) : va_W → Prop := fun ww => ww = [(y1, .inr (2, [.ref y2, .int (nI yl), .int 24])), (y2, .inl (cI, 400, .inl yt))]
set_option maxHeartbeats 4000000 in
set_option maxRecDepth 100000 in
theorem c_br_bbh (l : Launch) {D : va_G} {tys : List (ClassId × FieldType)} {cI : ClassId} (hcI : tys[0]? = some (cI, .int)) (y1 : Nat) (y2 : Nat) (yt : Nat → Int32) (yl : Nat) (yp : Nat) : CsV l D vwCl tys y_ByteRow_beginBehindHead ws_ByteRow_beginBehindHead ({ frames := 0, cells := 0, slots := 0, locals := 0 } : Room) [.ref y1] [(y1, .inr (2, [.ref y2, .int (nI yl), .int (nI yp)])), (y2, .inl (cI, 400, .inl yt))] (q_br_bbh cI y1 y2 yt yl yp) 0 0 := by
  intro sz
  refine Met.ofW (cc := prog_4_method_5_code) (maxL := 1) (ret := none) (by decide) rfl ?_
  intro p e s m args below meth c s₁ B hml hv
  obtain ⟨rfl, hsz, hP, hK, hD0, hN⟩ := hv
  have hx := B.exec
  have hb := B.bytes
  have hr := B.returns
  have hts := atoms_spec (ws := ws_ByteRow_beginBehindHead) B.pre
  have hown : s.vm.findClass "TileForge$ByteRow" = some m.cls := findClass_of_methodNamed B.named
  have hlocks := B.notSynchronized
  subst hsz
  have hD := hD0.self (sz := s.heap.size)
  generalize hAe : va_A [(y1, .inr (2, [.ref y2, .int (nI yl), .int (nI yp)])), (y2, .inl (cI, 400, .inl yt))] s.heap.size = A at hD ⊢
  have hA : ∀ q : Nat, s.heap.size ≤ q → A q := fun q h => by rw [← hAe]; exact Or.inr h
  have hS : va_S A s.heap s.heap [] := va_S.rf
  have hP : va_P D vwCl [(y1, .inr (2, [.ref y2, .int (nI yl), .int (nI yp)])), (y2, .inl (cI, 400, .inl yt))] s.heap := hP
  have hl := lv_entry ([.ref y1]) (n := 1) (Nat.le_of_ble_eq_true rfl)
  rw [lg_entry_eq]
  generalize (lg_sl ([.ref y1]) ++ List.replicate (1 - (lg_sl ([.ref y1])).length) Slot.unset).toArray = ls at hl ⊢
  have hl : lv_has ls 1 [(0, .ref y1)] := hl
  refine lv_aload_n hx hb d_ByteRow_beginBehindHead_0 rfl (lv_at hl 0 rfl) ?_
  refine lv_bipush (v := 24) hx hb d_ByteRow_beginBehindHead_1 (by decide) ?_
  refine va_put (D := D) (ci := 2) (v := .int 24) (ty := .int) (C := "TileForge$ByteRow") (T := T_ByteRow) (N := 3) hx hb hts (cs_in in_ByteRow) ty_ByteRow tok_ByteRow nm_ByteRow hown hK hP hD hS 0 rfl rfl 2 (by decide) (hts _ (cs_m mw_130)) (fun _ h9 => h9) rfl (by decide +kernel) rfl rfl (Nat.le_of_ble_eq_true rfl) d_ByteRow_beginBehindHead_3 (fun H locs hP hD hS => ?_)
  have hP : va_P D vwCl [(y1, .inr (2, [.ref y2, .int (nI yl), .int 24])), (y2, .inl (cI, 400, .inl yt))] H := hP
  have hD : va_D A [(y1, .inr (2, [.ref y2, .int (nI yl), .int 24])), (y2, .inl (cI, 400, .inl yt))] := hD
  exact W.vret hx hb hr (fun t ht hW => ⟨⟨[(y1, .inr (2, [.ref y2, .int (nI yl), .int 24])), (y2, .inl (cI, 400, .inl yt))], rfl, (show _ = _ from (rfl)), by rw [ht]; exact hP, va_K.moved hW.alike hK, hD⟩, hS.F ht⟩) hS.2.2 d_ByteRow_beginBehindHead_6
def y_ByteRow_readBit : MethodName := ⟨"TileForge$ByteRow", "readBit", "()I"⟩
def ws_ByteRow_readBit : List Cond := .code y_ByteRow_readBit prog_4_method_6_code 3 (some .int) :: GW
theorem mw_131 : (.code ⟨"TileForge$ByteRow", "readBit", "()I"⟩ prog_4_method_6_code 3 (some .int) : Cond) ∈ GW := List.mem_filter.mpr ⟨(List.mem_append_right _ (List.mem_append_right _ (List.mem_append_right _ (List.mem_append_left _ (List.mem_of_getElem? (i := 99) rfl))))), rfl⟩
theorem hd_ByteRow_readBit : y_ByteRow_readBit.cls ≠ "java/lang/invoke/MethodHandle" ∧ y_ByteRow_readBit.cls ≠ "java/lang/invoke/VarHandle" ∧ (parseMethodDescriptor y_ByteRow_readBit.desc).map (fun d => d.parameters.length) = some 0 := by decide +kernel
theorem d_ByteRow_readBit_0 : decode prog_4_method_6_code 0 = .ok (.aload_n 0, 1) := by decide +kernel
theorem d_ByteRow_readBit_1 : decode prog_4_method_6_code 1 = .ok (.getfield 45, 3) := by decide +kernel
theorem d_ByteRow_readBit_4 : decode prog_4_method_6_code 4 = .ok (.bipush 8, 2) := by decide +kernel
theorem d_ByteRow_readBit_6 : decode prog_4_method_6_code 6 = .ok (.idiv, 1) := by decide +kernel
theorem d_ByteRow_readBit_7 : decode prog_4_method_6_code 7 = .ok (.istore_n 1, 1) := by decide +kernel
theorem d_ByteRow_readBit_8 : decode prog_4_method_6_code 8 = .ok (.iload_n 1, 1) := by decide +kernel
theorem d_ByteRow_readBit_9 : decode prog_4_method_6_code 9 = .ok (.ifCond .lt 18, 3) := by decide +kernel
theorem d_ByteRow_readBit_12 : decode prog_4_method_6_code 12 = .ok (.iload_n 1, 1) := by decide +kernel
theorem d_ByteRow_readBit_13 : decode prog_4_method_6_code 13 = .ok (.aload_n 0, 1) := by decide +kernel
theorem d_ByteRow_readBit_14 : decode prog_4_method_6_code 14 = .ok (.getfield 15, 3) := by decide +kernel
theorem d_ByteRow_readBit_17 : decode prog_4_method_6_code 17 = .ok (.if_icmp .ge 10, 3) := by decide +kernel
theorem d_ByteRow_readBit_20 : decode prog_4_method_6_code 20 = .ok (.iload_n 1, 1) := by decide +kernel
theorem d_ByteRow_readBit_21 : decode prog_4_method_6_code 21 = .ok (.sipush 400, 3) := by decide +kernel
theorem d_ByteRow_readBit_24 : decode prog_4_method_6_code 24 = .ok (.if_icmp .lt 5, 3) := by decide +kernel
theorem d_ByteRow_readBit_27 : decode prog_4_method_6_code 27 = .ok (.iconst (-1), 1) := by decide +kernel
theorem d_ByteRow_readBit_28 : decode prog_4_method_6_code 28 = .ok (.ireturn, 1) := by decide +kernel
theorem d_ByteRow_readBit_29 : decode prog_4_method_6_code 29 = .ok (.aload_n 0, 1) := by decide +kernel
theorem d_ByteRow_readBit_30 : decode prog_4_method_6_code 30 = .ok (.getfield 9, 3) := by decide +kernel
theorem d_ByteRow_readBit_33 : decode prog_4_method_6_code 33 = .ok (.iload_n 1, 1) := by decide +kernel
theorem d_ByteRow_readBit_34 : decode prog_4_method_6_code 34 = .ok (.iaload, 1) := by decide +kernel
theorem d_ByteRow_readBit_35 : decode prog_4_method_6_code 35 = .ok (.bipush 7, 2) := by decide +kernel
theorem d_ByteRow_readBit_37 : decode prog_4_method_6_code 37 = .ok (.aload_n 0, 1) := by decide +kernel
theorem d_ByteRow_readBit_38 : decode prog_4_method_6_code 38 = .ok (.getfield 45, 3) := by decide +kernel
theorem d_ByteRow_readBit_41 : decode prog_4_method_6_code 41 = .ok (.bipush 8, 2) := by decide +kernel
theorem d_ByteRow_readBit_43 : decode prog_4_method_6_code 43 = .ok (.irem, 1) := by decide +kernel
theorem d_ByteRow_readBit_44 : decode prog_4_method_6_code 44 = .ok (.isub, 1) := by decide +kernel
theorem d_ByteRow_readBit_45 : decode prog_4_method_6_code 45 = .ok (.ishr, 1) := by decide +kernel
theorem d_ByteRow_readBit_46 : decode prog_4_method_6_code 46 = .ok (.iconst 1, 1) := by decide +kernel
theorem d_ByteRow_readBit_47 : decode prog_4_method_6_code 47 = .ok (.iand, 1) := by decide +kernel
theorem d_ByteRow_readBit_48 : decode prog_4_method_6_code 48 = .ok (.istore_n 2, 1) := by decide +kernel
theorem d_ByteRow_readBit_49 : decode prog_4_method_6_code 49 = .ok (.aload_n 0, 1) := by decide +kernel
theorem d_ByteRow_readBit_50 : decode prog_4_method_6_code 50 = .ok (.dup, 1) := by decide +kernel
theorem d_ByteRow_readBit_51 : decode prog_4_method_6_code 51 = .ok (.getfield 45, 3) := by decide +kernel
theorem d_ByteRow_readBit_54 : decode prog_4_method_6_code 54 = .ok (.iconst 1, 1) := by decide +kernel
theorem d_ByteRow_readBit_55 : decode prog_4_method_6_code 55 = .ok (.iadd, 1) := by decide +kernel
theorem d_ByteRow_readBit_56 : decode prog_4_method_6_code 56 = .ok (.putfield 45, 3) := by decide +kernel
theorem d_ByteRow_readBit_59 : decode prog_4_method_6_code 59 = .ok (.iload_n 2, 1) := by decide +kernel
theorem d_ByteRow_readBit_60 : decode prog_4_method_6_code 60 = .ok (.ireturn, 1) := by decide +kernel
def q_br_bit (cI : ClassId) (y1 : Nat) (y2 : Nat) (yt : Nat → Int32) (yl : Nat) (yp : Nat) : Int32 → va_W → Prop := fun rr ww => rr = (rdR yt yl yp) ∧ ww = [(y1, .inr (2, [.ref y2, .int (nI yl), .int (nI (rdQ yl yp))])), (y2, .inl (cI, 400, .inl yt))]
set_option maxHeartbeats 4000000 in
set_option maxRecDepth 100000 in
theorem c_br_bit (l : Launch) {D : va_G} {tys : List (ClassId × FieldType)} {cI : ClassId} (hcI : tys[0]? = some (cI, .int)) (y1 : Nat) (y2 : Nat) (yt : Nat → Int32) (yl : Nat) (yp : Nat) (hyl : yl ≤ 400) (hyp : yp < 1073741824) : CsI l D vwCl tys y_ByteRow_readBit ws_ByteRow_readBit ({ frames := 0, cells := 0, slots := 0, locals := 0 } : Room) [.ref y1] [(y1, .inr (2, [.ref y2, .int (nI yl), .int (nI yp)])), (y2, .inl (cI, 400, .inl yt))] (q_br_bit cI y1 y2 yt yl yp) 0 0 := by
  intro sz
  refine Met.ofW (cc := prog_4_method_6_code) (maxL := 3) (ret := (some .int)) (by decide) rfl ?_
  intro p e s m args below meth c s₁ B hml hv
  obtain ⟨rfl, hsz, hP, hK, hD0, hN⟩ := hv
  have hx := B.exec
  have hb := B.bytes
  have hr := B.returns
  have hts := atoms_spec (ws := ws_ByteRow_readBit) B.pre
  have hown : s.vm.findClass "TileForge$ByteRow" = some m.cls := findClass_of_methodNamed B.named
  have hlocks := B.notSynchronized
  subst hsz
  have hD := hD0.self (sz := s.heap.size)
  generalize hAe : va_A [(y1, .inr (2, [.ref y2, .int (nI yl), .int (nI yp)])), (y2, .inl (cI, 400, .inl yt))] s.heap.size = A at hD ⊢
  have hA : ∀ q : Nat, s.heap.size ≤ q → A q := fun q h => by rw [← hAe]; exact Or.inr h
  have hS : va_S A s.heap s.heap [] := va_S.rf
  have hP : va_P D vwCl [(y1, .inr (2, [.ref y2, .int (nI yl), .int (nI yp)])), (y2, .inl (cI, 400, .inl yt))] s.heap := hP
  have hl := lv_entry ([.ref y1]) (n := 3) (Nat.le_of_ble_eq_true rfl)
  rw [lg_entry_eq]
  generalize (lg_sl ([.ref y1]) ++ List.replicate (3 - (lg_sl ([.ref y1])).length) Slot.unset).toArray = ls at hl ⊢
  have hl : lv_has ls 3 [(0, .ref y1)] := hl
  refine lv_aload_n hx hb d_ByteRow_readBit_0 rfl (lv_at hl 0 rfl) ?_
  refine va_get (D := D) (ci := 2) (v := .int (nI yp)) (C := "TileForge$ByteRow") (T := T_ByteRow) (N := 3) hx hb hts (cs_in in_ByteRow) hown hK hP 0 rfl rfl 2 (by decide) (hts _ (cs_m mw_130)) (fun _ h9 => h9) rfl d_ByteRow_readBit_1 ?_
  refine lv_bipush (v := 8) hx hb d_ByteRow_readBit_4 (by decide) ?_
  refine lv_idiv hx hb d_ByteRow_readBit_6 (by decide) ?_
  refine cs_top (y := nI (yp / 8)) (pk_div (a := yp) (d := 8) (by omega) (by decide) (by decide)) ?_
  refine lv_istore_n (lv' := [(1, .int (nI (yp / 8))), (0, .ref y1)]) hx hb d_ByteRow_readBit_7 rfl hl (by decide) rfl (fun ls hl => ?_)
  refine lv_iload_n hx hb d_ByteRow_readBit_8 rfl (lv_at hl 0 rfl) ?_
  refine lv_if_lt (tgt := 27) hx hb d_ByteRow_readBit_9 (by decide) (fun c_9 => ?_) (fun c_9 => ?_)
  · exact absurd c_9 (nI_pos (by omega))
  · refine lv_iload_n hx hb d_ByteRow_readBit_12 rfl (lv_at hl 0 rfl) ?_
    refine lv_aload_n hx hb d_ByteRow_readBit_13 rfl (lv_at hl 1 rfl) ?_
    refine va_get (D := D) (ci := 2) (v := .int (nI yl)) (C := "TileForge$ByteRow") (T := T_ByteRow) (N := 3) hx hb hts (cs_in in_ByteRow) hown hK hP 0 rfl rfl 1 (by decide) (hts _ (cs_m mw_128)) (fun _ h9 => h9) rfl d_ByteRow_readBit_14 ?_
    refine lv_icmp_ge (tgt := 27) hx hb d_ByteRow_readBit_17 (by decide) (fun c_17 => ?_) (fun c_17 => ?_)
    · have h8 : ¬ yp / 8 < yl := Nat.not_lt.mpr ((nI_leI (a := yl) (b := yp / 8) (by omega) (by omega)).mp c_17)
      refine lv_iconst (v := (-1)) hx hb d_ByteRow_readBit_27 (by decide) ?_
      exact W.iret (v := (-1)) hx hb hr (fun t ht hW => ⟨⟨(-1), [(y1, .inr (2, [.ref y2, .int (nI yl), .int (nI yp)])), (y2, .inl (cI, 400, .inl yt))], rfl, ⟨(by rw [rdR, if_neg h8]), (by rw [rdQ, if_neg h8])⟩, by rw [ht]; exact hP, va_K.moved hW.alike hK, hD⟩, hS.F ht⟩) hS.2.2 d_ByteRow_readBit_28
    · have h8 : yp / 8 < yl := Nat.not_le.mp (fun h => c_17 ((nI_leI (a := yl) (b := yp / 8) (by omega) (by omega)).mpr h))
      refine lv_iload_n hx hb d_ByteRow_readBit_20 rfl (lv_at hl 0 rfl) ?_
      refine lv_sipush (v := 400) hx hb d_ByteRow_readBit_21 (by decide) ?_
      refine lv_icmp_lt (tgt := 29) hx hb d_ByteRow_readBit_24 (by decide) (fun c_24 => ?_) (fun c_24 => ?_)
      · refine lv_aload_n hx hb d_ByteRow_readBit_29 rfl (lv_at hl 1 rfl) ?_
        refine va_get (D := D) (ci := 2) (v := .ref y2) (C := "TileForge$ByteRow") (T := T_ByteRow) (N := 3) hx hb hts (cs_in in_ByteRow) hown hK hP 0 rfl rfl 0 (by decide) (hts _ (cs_m mw_126)) (fun _ h9 => h9) rfl d_ByteRow_readBit_30 ?_
        refine lv_iload_n hx hb d_ByteRow_readBit_33 rfl (lv_at hl 0 rfl) ?_
        refine cs_iald (j := (yp / 8)) hx hb hK hcI hP 1 rfl (rfl) (by omega) (by decide) d_ByteRow_readBit_34 ?_
        refine lv_bipush (v := 7) hx hb d_ByteRow_readBit_35 (by decide) ?_
        refine lv_aload_n hx hb d_ByteRow_readBit_37 rfl (lv_at hl 1 rfl) ?_
        refine va_get (D := D) (ci := 2) (v := .int (nI yp)) (C := "TileForge$ByteRow") (T := T_ByteRow) (N := 3) hx hb hts (cs_in in_ByteRow) hown hK hP 0 rfl rfl 2 (by decide) (hts _ (cs_m mw_130)) (fun _ h9 => h9) rfl d_ByteRow_readBit_38 ?_
        refine lv_bipush (v := 8) hx hb d_ByteRow_readBit_41 (by decide) ?_
        refine lv_irem hx hb d_ByteRow_readBit_43 (by decide) ?_
        refine cs_top (y := nI (yp % 8)) (pk_rem (a := yp) (d := 8) (by omega) (by decide) (by decide)) ?_
        refine lv_isub hx hb d_ByteRow_readBit_44 ?_
        refine lv_ishr hx hb d_ByteRow_readBit_45 ?_
        refine lv_iconst (v := 1) hx hb d_ByteRow_readBit_46 (by decide) ?_
        refine lv_iand hx hb d_ByteRow_readBit_47 ?_
        refine lv_istore_n (lv' := [(2, .int (((yt (yp / 8)) >>> ((7 - (nI (yp % 8))) &&& 31)) &&& 1)), (1, .int (nI (yp / 8))), (0, .ref y1)]) hx hb d_ByteRow_readBit_48 rfl hl (by decide) rfl (fun ls hl => ?_)
        refine lv_aload_n hx hb d_ByteRow_readBit_49 rfl (lv_at hl 2 rfl) ?_
        refine lv_dup hx hb d_ByteRow_readBit_50 rfl ?_
        refine va_get (D := D) (ci := 2) (v := .int (nI yp)) (C := "TileForge$ByteRow") (T := T_ByteRow) (N := 3) hx hb hts (cs_in in_ByteRow) hown hK hP 0 rfl rfl 2 (by decide) (hts _ (cs_m mw_130)) (fun _ h9 => h9) rfl d_ByteRow_readBit_51 ?_
        refine lv_iconst (v := 1) hx hb d_ByteRow_readBit_54 (by decide) ?_
        refine lv_iadd hx hb d_ByteRow_readBit_55 ?_
        refine cs_top (y := nI (yp + 1)) (nI_1 yp) ?_
        refine va_put (D := D) (ci := 2) (v := .int (nI (yp + 1))) (ty := .int) (C := "TileForge$ByteRow") (T := T_ByteRow) (N := 3) hx hb hts (cs_in in_ByteRow) ty_ByteRow tok_ByteRow nm_ByteRow hown hK hP hD hS 0 rfl rfl 2 (by decide) (hts _ (cs_m mw_130)) (fun _ h9 => h9) rfl (by decide +kernel) rfl rfl (Nat.le_of_ble_eq_true rfl) d_ByteRow_readBit_56 (fun H locs hP hD hS => ?_)
        have hP : va_P D vwCl [(y1, .inr (2, [.ref y2, .int (nI yl), .int (nI (yp + 1))])), (y2, .inl (cI, 400, .inl yt))] H := hP
        have hD : va_D A [(y1, .inr (2, [.ref y2, .int (nI yl), .int (nI (yp + 1))])), (y2, .inl (cI, 400, .inl yt))] := hD
        refine lv_iload_n hx hb d_ByteRow_readBit_59 rfl (lv_at hl 0 rfl) ?_
        exact W.iret (v := (((yt (yp / 8)) >>> ((7 - (nI (yp % 8))) &&& 31)) &&& 1)) hx hb hr (fun t ht hW => ⟨⟨(((yt (yp / 8)) >>> ((7 - (nI (yp % 8))) &&& 31)) &&& 1), [(y1, .inr (2, [.ref y2, .int (nI yl), .int (nI (yp + 1))])), (y2, .inl (cI, 400, .inl yt))], rfl, ⟨(by rw [rdR, if_pos h8]; rfl), (by rw [rdQ, if_pos h8])⟩, by rw [ht]; exact hP, va_K.moved hW.alike hK, hD⟩, hS.F ht⟩) hS.2.2 d_ByteRow_readBit_60
      · exact absurd (nI_lt (a := yp / 8) (b := 400) (by omega) (by decide)) c_24
def y_ByteRow_readBits : MethodName := ⟨"TileForge$ByteRow", "readBits", "(I)I"⟩
def ws_ByteRow_readBits : List Cond := .code y_ByteRow_readBits prog_4_method_7_code 5 (some .int) :: GW
theorem mw_132 : (.code ⟨"TileForge$ByteRow", "readBits", "(I)I"⟩ prog_4_method_7_code 5 (some .int) : Cond) ∈ GW := List.mem_filter.mpr ⟨(List.mem_append_right _ (List.mem_append_right _ (List.mem_append_right _ (List.mem_append_left _ (List.mem_of_getElem? (i := 95) rfl))))), rfl⟩
theorem hd_ByteRow_readBits : y_ByteRow_readBits.cls ≠ "java/lang/invoke/MethodHandle" ∧ y_ByteRow_readBits.cls ≠ "java/lang/invoke/VarHandle" ∧ (parseMethodDescriptor y_ByteRow_readBits.desc).map (fun d => d.parameters.length) = some 1 := by decide +kernel
theorem d_ByteRow_readBits_0 : decode prog_4_method_7_code 0 = .ok (.iconst 0, 1) := by decide +kernel
theorem d_ByteRow_readBits_1 : decode prog_4_method_7_code 1 = .ok (.istore_n 2, 1) := by decide +kernel
theorem d_ByteRow_readBits_2 : decode prog_4_method_7_code 2 = .ok (.iconst 0, 1) := by decide +kernel
theorem d_ByteRow_readBits_3 : decode prog_4_method_7_code 3 = .ok (.istore_n 3, 1) := by decide +kernel
theorem d_ByteRow_readBits_4 : decode prog_4_method_7_code 4 = .ok (.iload_n 3, 1) := by decide +kernel
theorem d_ByteRow_readBits_5 : decode prog_4_method_7_code 5 = .ok (.iload_n 1, 1) := by decide +kernel
theorem d_ByteRow_readBits_6 : decode prog_4_method_7_code 6 = .ok (.if_icmp .ge 30, 3) := by decide +kernel
theorem d_ByteRow_readBits_9 : decode prog_4_method_7_code 9 = .ok (.aload_n 0, 1) := by decide +kernel
theorem d_ByteRow_readBits_10 : decode prog_4_method_7_code 10 = .ok (.invokevirtual 48, 3) := by decide +kernel
theorem d_ByteRow_readBits_13 : decode prog_4_method_7_code 13 = .ok (.istore 4, 2) := by decide +kernel
theorem d_ByteRow_readBits_15 : decode prog_4_method_7_code 15 = .ok (.iload 4, 2) := by decide +kernel
theorem d_ByteRow_readBits_17 : decode prog_4_method_7_code 17 = .ok (.iconst (-1), 1) := by decide +kernel
theorem d_ByteRow_readBits_18 : decode prog_4_method_7_code 18 = .ok (.if_icmp .ne 5, 3) := by decide +kernel
theorem d_ByteRow_readBits_21 : decode prog_4_method_7_code 21 = .ok (.iconst (-1), 1) := by decide +kernel
theorem d_ByteRow_readBits_22 : decode prog_4_method_7_code 22 = .ok (.ireturn, 1) := by decide +kernel
theorem d_ByteRow_readBits_23 : decode prog_4_method_7_code 23 = .ok (.iload_n 2, 1) := by decide +kernel
theorem d_ByteRow_readBits_24 : decode prog_4_method_7_code 24 = .ok (.iconst 2, 1) := by decide +kernel
theorem d_ByteRow_readBits_25 : decode prog_4_method_7_code 25 = .ok (.imul, 1) := by decide +kernel
theorem d_ByteRow_readBits_26 : decode prog_4_method_7_code 26 = .ok (.iload 4, 2) := by decide +kernel
theorem d_ByteRow_readBits_28 : decode prog_4_method_7_code 28 = .ok (.iadd, 1) := by decide +kernel
theorem d_ByteRow_readBits_29 : decode prog_4_method_7_code 29 = .ok (.istore_n 2, 1) := by decide +kernel
theorem d_ByteRow_readBits_30 : decode prog_4_method_7_code 30 = .ok (.iinc 3 1, 3) := by decide +kernel
theorem d_ByteRow_readBits_33 : decode prog_4_method_7_code 33 = .ok (.goto (-29), 3) := by decide +kernel
theorem d_ByteRow_readBits_36 : decode prog_4_method_7_code 36 = .ok (.iload_n 2, 1) := by decide +kernel
theorem d_ByteRow_readBits_37 : decode prog_4_method_7_code 37 = .ok (.ireturn, 1) := by decide +kernel
theorem mw_133 : (.initialized "TileForge$ByteRow" : Cond) ∈ GW := List.mem_filter.mpr ⟨(List.mem_append_right _ (List.mem_append_left _ (List.mem_of_getElem? (i := 3) rfl))), rfl⟩
theorem mw_134 : (.methodLink "TileForge$ByteRow" 48 ⟨"TileForge$ByteRow", "readBit", "()I"⟩ : Cond) ∈ GW := List.mem_filter.mpr ⟨(List.mem_append_right _ (List.mem_append_right _ (List.mem_append_right _ (List.mem_append_left _ (List.mem_of_getElem? (i := 96) rfl))))), rfl⟩
theorem mw_135 : (.instanceMethod ⟨"TileForge$ByteRow", "readBit", "()I"⟩ : Cond) ∈ GW := List.mem_filter.mpr ⟨(List.mem_append_right _ (List.mem_append_right _ (List.mem_append_right _ (List.mem_append_left _ (List.mem_of_getElem? (i := 97) rfl))))), rfl⟩
theorem mw_136 : (.selects "TileForge$ByteRow" ⟨"TileForge$ByteRow", "readBit", "()I"⟩ ⟨"TileForge$ByteRow", "readBit", "()I"⟩ : Cond) ∈ GW := List.mem_filter.mpr ⟨(List.mem_append_right _ (List.mem_append_right _ (List.mem_append_right _ (List.mem_append_left _ (List.mem_of_getElem? (i := 98) rfl))))), rfl⟩
def q_br_bits (cI : ClassId) (y1 : Nat) (y2 : Nat) (yt : Nat → Int32) (yl : Nat) (yp : Nat) (cnt : Nat) : Int32 → va_W → Prop := fun rr ww => rr = ((rdB yt yl cnt yp 0).1) ∧ ww = [(y1, .inr (2, [.ref y2, .int (nI yl), .int (nI (rdB yt yl cnt yp 0).2)])), (y2, .inl (cI, 400, .inl yt))]
set_option maxHeartbeats 4000000 in
set_option maxRecDepth 100000 in
theorem c_br_bits (l : Launch) {D : va_G} {tys : List (ClassId × FieldType)} {cI : ClassId} (hcI : tys[0]? = some (cI, .int)) (y1 : Nat) (y2 : Nat) (yt : Nat → Int32) (yl : Nat) (yp : Nat) (cnt : Nat) (hyl : yl ≤ 400) (hyp : yp + cnt < 1073741824) : CsI l D vwCl tys y_ByteRow_readBits ws_ByteRow_readBits ({ frames := 1, cells := 0, slots := 0, locals := 22 } : Room) [.ref y1, .int (nI cnt)] [(y1, .inr (2, [.ref y2, .int (nI yl), .int (nI yp)])), (y2, .inl (cI, 400, .inl yt))] (q_br_bits cI y1 y2 yt yl yp cnt) 0 0 := by
  intro sz
  refine Met.ofW (cc := prog_4_method_7_code) (maxL := 5) (ret := (some .int)) (by decide) rfl ?_
  intro p e s m args below meth c s₁ B hml hv
  obtain ⟨rfl, hsz, hP, hK, hD0, hN⟩ := hv
  have hx := B.exec
  have hb := B.bytes
  have hr := B.returns
  have hts := atoms_spec (ws := ws_ByteRow_readBits) B.pre
  have hown : s.vm.findClass "TileForge$ByteRow" = some m.cls := findClass_of_methodNamed B.named
  have hlocks := B.notSynchronized
  subst hsz
  have hD := hD0.self (sz := s.heap.size)
  generalize hAe : va_A [(y1, .inr (2, [.ref y2, .int (nI yl), .int (nI yp)])), (y2, .inl (cI, 400, .inl yt))] s.heap.size = A at hD ⊢
  have hA : ∀ q : Nat, s.heap.size ≤ q → A q := fun q h => by rw [← hAe]; exact Or.inr h
  have hS : va_S A s.heap s.heap [] := va_S.rf
  have hP : va_P D vwCl [(y1, .inr (2, [.ref y2, .int (nI yl), .int (nI yp)])), (y2, .inl (cI, 400, .inl yt))] s.heap := hP
  have hl := lv_entry ([.ref y1, .int (nI cnt)]) (n := 5) (Nat.le_of_ble_eq_true rfl)
  rw [lg_entry_eq]
  generalize (lg_sl ([.ref y1, .int (nI cnt)]) ++ List.replicate (5 - (lg_sl ([.ref y1, .int (nI cnt)])).length) Slot.unset).toArray = ls at hl ⊢
  have hl : lv_has ls 5 [(0, .ref y1), (1, .int (nI cnt))] := hl
  refine lv_iconst (v := 0) hx hb d_ByteRow_readBits_0 (by decide) ?_
  refine lv_istore_n (lv' := [(2, .int 0), (0, .ref y1), (1, .int (nI cnt))]) hx hb d_ByteRow_readBits_1 rfl hl (by decide) rfl (fun ls hl => ?_)
  refine lv_iconst (v := 0) hx hb d_ByteRow_readBits_2 (by decide) ?_
  refine lv_istore_n (lv' := [(3, .int 0), (2, .int 0), (0, .ref y1), (1, .int (nI cnt))]) hx hb d_ByteRow_readBits_3 rfl hl (by decide) rfl (fun ls hl => ?_)
  have lp4 : ∀ (n : Nat) (k : Nat) (q : Nat) (x : Int32), (cnt + 1 ≤ k + n) → (k ≤ cnt) → (q = yp + k) → (rdB yt yl (cnt - k) q x = rdB yt yl cnt yp 0) → ∀ (H : Heap) (locs : List Loc) (ls : Array Slot), va_P D vwCl [(y1, .inr (2, [.ref y2, .int (nI yl), .int (nI q)])), (y2, .inl (cI, 400, .inl yt))] H → va_D A [(y1, .inr (2, [.ref y2, .int (nI yl), .int (nI q)])), (y2, .inl (cI, 400, .inl yt))] → va_S A s.heap H locs → lv_has ls 5 [(0, .ref y1), (1, .int (nI cnt)), (2, .int x), (3, .int (nI k))] → W p l e ({ frames := 1, cells := 0, slots := 0, locals := 22 } : Room) s m ([.ref y1, .int (nI cnt)] : List Value).toArray below meth c H locs 0 0 (MQ below (va_Qi (q_br_bits cI y1 y2 yt yl yp cnt) (cs_B D vwCl tys A) A) ([.ref y1, .int (nI cnt)] : List Value).toArray s 0 0 A) (F0 m 4 ls []) := by
    intro n
    induction n with
    | zero =>
      intro k q x hf hk hq he
      exact absurd hf (by omega)
    | succ n ih4 =>
      intro k q x hf hk hq he H locs ls hP hD hS hl
      refine lv_iload_n hx hb d_ByteRow_readBits_4 rfl (lv_at hl 3 rfl) ?_
      refine lv_iload_n hx hb d_ByteRow_readBits_5 rfl (lv_at hl 1 rfl) ?_
      refine lv_icmp_ge (tgt := 36) hx hb d_ByteRow_readBits_6 (by decide) (fun c_6 => ?_) (fun c_6 => ?_)
      · have hk2 : cnt ≤ k := (nI_leI (a := cnt) (b := k) (by omega) (by omega)).mp c_6
        have hk3 : rdB yt yl cnt yp 0 = (x, q) := by rw [← he, show cnt - k = 0 by omega]; rfl
        refine lv_iload_n hx hb d_ByteRow_readBits_36 rfl (lv_at hl 2 rfl) ?_
        exact W.iret (v := x) hx hb hr (fun t ht hW => ⟨⟨x, [(y1, .inr (2, [.ref y2, .int (nI yl), .int (nI q)])), (y2, .inl (cI, 400, .inl yt))], rfl, ⟨(by rw [hk3]), (by rw [hk3])⟩, by rw [ht]; exact hP, va_K.moved hW.alike hK, hD⟩, hS.F ht⟩) hS.2.2 d_ByteRow_readBits_37
      · have hk2 : k < cnt := Nat.not_le.mp (fun h => c_6 ((nI_leI (a := cnt) (b := k) (by omega) (by omega)).mpr h))
        refine lv_aload_n hx hb d_ByteRow_readBits_9 rfl (lv_at hl 0 rfl) ?_
        refine cs_Vi (As := []) (rest := []) (wr := []) ⟨hx, hb, hml, hown, hts⟩ (c_br_bit l hcI y1 y2 yt yl q (hyl) (by omega)) (cwV 0 hts (cs_gV mw_134 mw_135 mw_136 mw_133 mw_131) rfl rfl rfl ⟨rfl, hd_ByteRow_readBit⟩ ⟨Nat.le_of_ble_eq_true rfl, Nat.le_of_ble_eq_true rfl⟩) hN hK hP hD hS hA [0, 1] [] rfl rfl rfl rfl (by decide) (ci := 2) rfl rfl rfl rfl rfl hl.1 (Nat.le_of_ble_eq_true rfl) d_ByteRow_readBits_10 ⟨Nat.le_of_ble_eq_true rfl, Nat.le_of_ble_eq_true rfl⟩ (fun r1 w1 H locs hw hP hD hS => ?_)
        obtain ⟨rfl, rfl⟩ := hw
        have hP : va_P D vwCl [(y1, .inr (2, [.ref y2, .int (nI yl), .int (nI (rdQ yl q))])), (y2, .inl (cI, 400, .inl yt))] H := hP
        have hD : va_D A [(y1, .inr (2, [.ref y2, .int (nI yl), .int (nI (rdQ yl q))])), (y2, .inl (cI, 400, .inl yt))] := hD
        refine lv_istore (lv' := [(4, .int (rdR yt yl q)), (0, .ref y1), (1, .int (nI cnt)), (2, .int x), (3, .int (nI k))]) hx hb d_ByteRow_readBits_13 hl (by decide) rfl (fun ls hl => ?_)
        refine lv_iload hx hb d_ByteRow_readBits_15 (lv_at hl 0 rfl) ?_
        refine lv_iconst (v := (-1)) hx hb d_ByteRow_readBits_17 (by decide) ?_
        refine lv_icmp_ne (tgt := 23) hx hb d_ByteRow_readBits_18 (by decide) (fun c_18 => ?_) (fun c_18 => ?_)
        · have h8 : q / 8 < yl := rdR_lt c_18
          refine lv_iload_n hx hb d_ByteRow_readBits_23 rfl (lv_at hl 3 rfl) ?_
          refine lv_iconst (v := 2) hx hb d_ByteRow_readBits_24 (by decide) ?_
          refine lv_imul hx hb d_ByteRow_readBits_25 ?_
          refine lv_iload hx hb d_ByteRow_readBits_26 (lv_at hl 0 rfl) ?_
          refine lv_iadd hx hb d_ByteRow_readBits_28 ?_
          refine lv_istore_n (lv' := [(2, .int ((x * 2) + (rdR yt yl q))), (4, .int (rdR yt yl q)), (0, .ref y1), (1, .int (nI cnt)), (3, .int (nI k))]) hx hb d_ByteRow_readBits_29 rfl hl (by decide) rfl (fun ls hl => ?_)
          refine lv_iinc (v := nI (k + 1)) (lv' := [(3, .int (nI (k + 1))), (2, .int ((x * 2) + (rdR yt yl q))), (4, .int (rdR yt yl q)), (0, .ref y1), (1, .int (nI cnt))]) hx hb d_ByteRow_readBits_30 hl (k := 4) rfl (nI_1 _) (by decide) rfl (fun ls hl => ?_)
          refine lv_goto (tgt := 4) hx hb d_ByteRow_readBits_33 (by decide) ?_
          exact ih4 (k + 1) (rdQ yl q) ((x * 2) + (rdR yt yl q)) (by omega) (by omega) (by rw [rdQ, if_pos h8]; omega) (by rw [← he, show cnt - k = (cnt - (k + 1)) + 1 by omega, rdB, if_pos h8]) _ _ _ (hP.sub (ws' := [(y1, .inr (2, [.ref y2, .int (nI yl), .int (nI (rdQ yl q))])), (y2, .inl (cI, 400, .inl yt))]) [0, 1] rfl) (hD.sub (ws' := [(y1, .inr (2, [.ref y2, .int (nI yl), .int (nI (rdQ yl q))])), (y2, .inl (cI, 400, .inl yt))]) [0, 1] (by decide) rfl) hS (lv_sub hl [3, 4, 1, 0] rfl)
        · have h8 : ¬ q / 8 < yl := rdR_nlt c_18
          have hk3 : rdB yt yl cnt yp 0 = (-1, q) := by rw [← he, show cnt - k = (cnt - (k + 1)) + 1 by omega, rdB, if_neg h8]
          refine lv_iconst (v := (-1)) hx hb d_ByteRow_readBits_21 (by decide) ?_
          exact W.iret (v := (-1)) hx hb hr (fun t ht hW => ⟨⟨(-1), [(y1, .inr (2, [.ref y2, .int (nI yl), .int (nI (rdQ yl q))])), (y2, .inl (cI, 400, .inl yt))], rfl, ⟨(by rw [hk3]), (by rw [hk3, rdQ, if_neg h8])⟩, by rw [ht]; exact hP, va_K.moved hW.alike hK, hD⟩, hS.F ht⟩) hS.2.2 d_ByteRow_readBits_22
  exact lp4 (cnt + 1) 0 yp 0 (by omega) (by omega) (by omega) (rfl) _ _ _ (hP.sub (ws' := [(y1, .inr (2, [.ref y2, .int (nI yl), .int (nI yp)])), (y2, .inl (cI, 400, .inl yt))]) [0, 1] rfl) (hD.sub (ws' := [(y1, .inr (2, [.ref y2, .int (nI yl), .int (nI yp)])), (y2, .inl (cI, 400, .inl yt))]) [0, 1] (by decide) rfl) hS (lv_sub hl [2, 3, 1, 0] rfl)
def y_ByteRow_readOnes : MethodName := ⟨"TileForge$ByteRow", "readOnes", "()I"⟩
def ws_ByteRow_readOnes : List Cond := .code y_ByteRow_readOnes prog_4_method_8_code 3 (some .int) :: GW
theorem mw_137 : (.code ⟨"TileForge$ByteRow", "readOnes", "()I"⟩ prog_4_method_8_code 3 (some .int) : Cond) ∈ GW := List.mem_filter.mpr ⟨(List.mem_append_right _ (List.mem_append_right _ (List.mem_append_right _ (List.mem_append_left _ (List.mem_of_getElem? (i := 111) rfl))))), rfl⟩
theorem hd_ByteRow_readOnes : y_ByteRow_readOnes.cls ≠ "java/lang/invoke/MethodHandle" ∧ y_ByteRow_readOnes.cls ≠ "java/lang/invoke/VarHandle" ∧ (parseMethodDescriptor y_ByteRow_readOnes.desc).map (fun d => d.parameters.length) = some 0 := by decide +kernel
theorem d_ByteRow_readOnes_0 : decode prog_4_method_8_code 0 = .ok (.iconst 0, 1) := by decide +kernel
theorem d_ByteRow_readOnes_1 : decode prog_4_method_8_code 1 = .ok (.istore_n 1, 1) := by decide +kernel
theorem d_ByteRow_readOnes_2 : decode prog_4_method_8_code 2 = .ok (.iload_n 1, 1) := by decide +kernel
theorem d_ByteRow_readOnes_3 : decode prog_4_method_8_code 3 = .ok (.bipush 12, 2) := by decide +kernel
theorem d_ByteRow_readOnes_5 : decode prog_4_method_8_code 5 = .ok (.if_icmp .ge 27, 3) := by decide +kernel
theorem d_ByteRow_readOnes_8 : decode prog_4_method_8_code 8 = .ok (.aload_n 0, 1) := by decide +kernel
theorem d_ByteRow_readOnes_9 : decode prog_4_method_8_code 9 = .ok (.invokevirtual 48, 3) := by decide +kernel
theorem d_ByteRow_readOnes_12 : decode prog_4_method_8_code 12 = .ok (.istore_n 2, 1) := by decide +kernel
theorem d_ByteRow_readOnes_13 : decode prog_4_method_8_code 13 = .ok (.iload_n 2, 1) := by decide +kernel
theorem d_ByteRow_readOnes_14 : decode prog_4_method_8_code 14 = .ok (.iconst (-1), 1) := by decide +kernel
theorem d_ByteRow_readOnes_15 : decode prog_4_method_8_code 15 = .ok (.if_icmp .ne 5, 3) := by decide +kernel
theorem d_ByteRow_readOnes_18 : decode prog_4_method_8_code 18 = .ok (.iconst (-1), 1) := by decide +kernel
theorem d_ByteRow_readOnes_19 : decode prog_4_method_8_code 19 = .ok (.ireturn, 1) := by decide +kernel
theorem d_ByteRow_readOnes_20 : decode prog_4_method_8_code 20 = .ok (.iload_n 2, 1) := by decide +kernel
theorem d_ByteRow_readOnes_21 : decode prog_4_method_8_code 21 = .ok (.ifCond .ne 5, 3) := by decide +kernel
theorem d_ByteRow_readOnes_24 : decode prog_4_method_8_code 24 = .ok (.iload_n 1, 1) := by decide +kernel
theorem d_ByteRow_readOnes_25 : decode prog_4_method_8_code 25 = .ok (.ireturn, 1) := by decide +kernel
theorem d_ByteRow_readOnes_26 : decode prog_4_method_8_code 26 = .ok (.iinc 1 1, 3) := by decide +kernel
theorem d_ByteRow_readOnes_29 : decode prog_4_method_8_code 29 = .ok (.goto (-27), 3) := by decide +kernel
theorem d_ByteRow_readOnes_32 : decode prog_4_method_8_code 32 = .ok (.bipush 12, 2) := by decide +kernel
theorem d_ByteRow_readOnes_34 : decode prog_4_method_8_code 34 = .ok (.ireturn, 1) := by decide +kernel
def q_br_ones (cI : ClassId) (y1 : Nat) (y2 : Nat) (yt : Nat → Int32) (yl : Nat) (yp : Nat) : Int32 → va_W → Prop := fun rr ww => rr = ((rdO yt yl 12 0 yp).1) ∧ ww = [(y1, .inr (2, [.ref y2, .int (nI yl), .int (nI (rdO yt yl 12 0 yp).2)])), (y2, .inl (cI, 400, .inl yt))]
set_option maxHeartbeats 4000000 in
set_option maxRecDepth 100000 in
theorem c_br_ones (l : Launch) {D : va_G} {tys : List (ClassId × FieldType)} {cI : ClassId} (hcI : tys[0]? = some (cI, .int)) (y1 : Nat) (y2 : Nat) (yt : Nat → Int32) (yl : Nat) (yp : Nat) (hyl : yl ≤ 400) (hyp : yp + 12 < 1073741824) : CsI l D vwCl tys y_ByteRow_readOnes ws_ByteRow_readOnes ({ frames := 1, cells := 0, slots := 0, locals := 22 } : Room) [.ref y1] [(y1, .inr (2, [.ref y2, .int (nI yl), .int (nI yp)])), (y2, .inl (cI, 400, .inl yt))] (q_br_ones cI y1 y2 yt yl yp) 0 0 := by
  intro sz
  refine Met.ofW (cc := prog_4_method_8_code) (maxL := 3) (ret := (some .int)) (by decide) rfl ?_
  intro p e s m args below meth c s₁ B hml hv
  obtain ⟨rfl, hsz, hP, hK, hD0, hN⟩ := hv
  have hx := B.exec
  have hb := B.bytes
  have hr := B.returns
  have hts := atoms_spec (ws := ws_ByteRow_readOnes) B.pre
  have hown : s.vm.findClass "TileForge$ByteRow" = some m.cls := findClass_of_methodNamed B.named
  have hlocks := B.notSynchronized
  subst hsz
  have hD := hD0.self (sz := s.heap.size)
  generalize hAe : va_A [(y1, .inr (2, [.ref y2, .int (nI yl), .int (nI yp)])), (y2, .inl (cI, 400, .inl yt))] s.heap.size = A at hD ⊢
  have hA : ∀ q : Nat, s.heap.size ≤ q → A q := fun q h => by rw [← hAe]; exact Or.inr h
  have hS : va_S A s.heap s.heap [] := va_S.rf
  have hP : va_P D vwCl [(y1, .inr (2, [.ref y2, .int (nI yl), .int (nI yp)])), (y2, .inl (cI, 400, .inl yt))] s.heap := hP
  have hl := lv_entry ([.ref y1]) (n := 3) (Nat.le_of_ble_eq_true rfl)
  rw [lg_entry_eq]
  generalize (lg_sl ([.ref y1]) ++ List.replicate (3 - (lg_sl ([.ref y1])).length) Slot.unset).toArray = ls at hl ⊢
  have hl : lv_has ls 3 [(0, .ref y1)] := hl
  refine lv_iconst (v := 0) hx hb d_ByteRow_readOnes_0 (by decide) ?_
  refine lv_istore_n (lv' := [(1, .int 0), (0, .ref y1)]) hx hb d_ByteRow_readOnes_1 rfl hl (by decide) rfl (fun ls hl => ?_)
  have lp2 : ∀ (n : Nat) (k : Nat) (q : Nat), (13 ≤ k + n) → (k ≤ 12) → (q = yp + k) → (rdO yt yl (12 - k) k q = rdO yt yl 12 0 yp) → ∀ (H : Heap) (locs : List Loc) (ls : Array Slot), va_P D vwCl [(y1, .inr (2, [.ref y2, .int (nI yl), .int (nI q)])), (y2, .inl (cI, 400, .inl yt))] H → va_D A [(y1, .inr (2, [.ref y2, .int (nI yl), .int (nI q)])), (y2, .inl (cI, 400, .inl yt))] → va_S A s.heap H locs → lv_has ls 3 [(0, .ref y1), (1, .int (nI k))] → W p l e ({ frames := 1, cells := 0, slots := 0, locals := 22 } : Room) s m ([.ref y1] : List Value).toArray below meth c H locs 0 0 (MQ below (va_Qi (q_br_ones cI y1 y2 yt yl yp) (cs_B D vwCl tys A) A) ([.ref y1] : List Value).toArray s 0 0 A) (F0 m 2 ls []) := by
    intro n
    induction n with
    | zero =>
      intro k q hf hk hq he
      exact absurd hf (by omega)
    | succ n ih2 =>
      intro k q hf hk hq he H locs ls hP hD hS hl
      refine lv_iload_n hx hb d_ByteRow_readOnes_2 rfl (lv_at hl 1 rfl) ?_
      refine lv_bipush (v := 12) hx hb d_ByteRow_readOnes_3 (by decide) ?_
      refine lv_icmp_ge (tgt := 32) hx hb d_ByteRow_readOnes_5 (by decide) (fun c_5 => ?_) (fun c_5 => ?_)
      · have hk2 := (nI_leI (a := 12) (b := k) (by decide) (by omega)).mp c_5
        have hk4 : k = 12 := by omega
        subst hk4
        have hk3 : rdO yt yl 12 0 yp = (12, q) := he.symm
        refine lv_bipush (v := 12) hx hb d_ByteRow_readOnes_32 (by decide) ?_
        exact W.iret (v := 12) hx hb hr (fun t ht hW => ⟨⟨12, [(y1, .inr (2, [.ref y2, .int (nI yl), .int (nI q)])), (y2, .inl (cI, 400, .inl yt))], rfl, ⟨(by rw [hk3]), (by rw [hk3])⟩, by rw [ht]; exact hP, va_K.moved hW.alike hK, hD⟩, hS.F ht⟩) hS.2.2 d_ByteRow_readOnes_34
      · have hk2 : k < 12 := Nat.not_le.mp (fun h => c_5 ((nI_leI (a := 12) (b := k) (by decide) (by omega)).mpr h))
        refine lv_aload_n hx hb d_ByteRow_readOnes_8 rfl (lv_at hl 0 rfl) ?_
        refine cs_Vi (As := []) (rest := []) (wr := []) ⟨hx, hb, hml, hown, hts⟩ (c_br_bit l hcI y1 y2 yt yl q (hyl) (by omega)) (cwV 0 hts (cs_gV mw_134 mw_135 mw_136 mw_133 mw_131) rfl rfl rfl ⟨rfl, hd_ByteRow_readBit⟩ ⟨Nat.le_of_ble_eq_true rfl, Nat.le_of_ble_eq_true rfl⟩) hN hK hP hD hS hA [0, 1] [] rfl rfl rfl rfl (by decide) (ci := 2) rfl rfl rfl rfl rfl hl.1 (Nat.le_of_ble_eq_true rfl) d_ByteRow_readOnes_9 ⟨Nat.le_of_ble_eq_true rfl, Nat.le_of_ble_eq_true rfl⟩ (fun r1 w1 H locs hw hP hD hS => ?_)
        obtain ⟨rfl, rfl⟩ := hw
        have hP : va_P D vwCl [(y1, .inr (2, [.ref y2, .int (nI yl), .int (nI (rdQ yl q))])), (y2, .inl (cI, 400, .inl yt))] H := hP
        have hD : va_D A [(y1, .inr (2, [.ref y2, .int (nI yl), .int (nI (rdQ yl q))])), (y2, .inl (cI, 400, .inl yt))] := hD
        refine lv_istore_n (lv' := [(2, .int (rdR yt yl q)), (0, .ref y1), (1, .int (nI k))]) hx hb d_ByteRow_readOnes_12 rfl hl (by decide) rfl (fun ls hl => ?_)
        refine lv_iload_n hx hb d_ByteRow_readOnes_13 rfl (lv_at hl 0 rfl) ?_
        refine lv_iconst (v := (-1)) hx hb d_ByteRow_readOnes_14 (by decide) ?_
        refine lv_icmp_ne (tgt := 20) hx hb d_ByteRow_readOnes_15 (by decide) (fun c_15 => ?_) (fun c_15 => ?_)
        · have h8 : q / 8 < yl := rdR_lt c_15
          refine lv_iload_n hx hb d_ByteRow_readOnes_20 rfl (lv_at hl 0 rfl) ?_
          refine lv_if_ne (tgt := 26) hx hb d_ByteRow_readOnes_21 (by decide) (fun c_21 => ?_) (fun c_21 => ?_)
          · refine lv_iinc (v := nI (k + 1)) (lv' := [(1, .int (nI (k + 1))), (2, .int (rdR yt yl q)), (0, .ref y1)]) hx hb d_ByteRow_readOnes_26 hl (k := 2) rfl (nI_1 _) (by decide) rfl (fun ls hl => ?_)
            refine lv_goto (tgt := 2) hx hb d_ByteRow_readOnes_29 (by decide) ?_
            exact ih2 (k + 1) (rdQ yl q) (by omega) (by omega) (by rw [rdQ, if_pos h8]; omega) (by rw [← he, show 12 - k = (12 - (k + 1)) + 1 by omega, rdO, if_pos h8, if_neg c_21]) _ _ _ (hP.sub (ws' := [(y1, .inr (2, [.ref y2, .int (nI yl), .int (nI (rdQ yl q))])), (y2, .inl (cI, 400, .inl yt))]) [0, 1] rfl) (hD.sub (ws' := [(y1, .inr (2, [.ref y2, .int (nI yl), .int (nI (rdQ yl q))])), (y2, .inl (cI, 400, .inl yt))]) [0, 1] (by decide) rfl) hS (lv_sub hl [2, 0] rfl)
          · have hk3 : rdO yt yl 12 0 yp = (nI k, rdQ yl q) := by rw [← he, show 12 - k = (12 - (k + 1)) + 1 by omega, rdO, if_pos h8, if_pos c_21]
            refine lv_iload_n hx hb d_ByteRow_readOnes_24 rfl (lv_at hl 2 rfl) ?_
            exact W.iret (v := (nI k)) hx hb hr (fun t ht hW => ⟨⟨(nI k), [(y1, .inr (2, [.ref y2, .int (nI yl), .int (nI (rdQ yl q))])), (y2, .inl (cI, 400, .inl yt))], rfl, ⟨(by rw [hk3]), (by rw [hk3])⟩, by rw [ht]; exact hP, va_K.moved hW.alike hK, hD⟩, hS.F ht⟩) hS.2.2 d_ByteRow_readOnes_25
        · have h8 : ¬ q / 8 < yl := rdR_nlt c_15
          have hk3 : rdO yt yl 12 0 yp = (-1, q) := by rw [← he, show 12 - k = (12 - (k + 1)) + 1 by omega, rdO, if_neg h8]
          refine lv_iconst (v := (-1)) hx hb d_ByteRow_readOnes_18 (by decide) ?_
          exact W.iret (v := (-1)) hx hb hr (fun t ht hW => ⟨⟨(-1), [(y1, .inr (2, [.ref y2, .int (nI yl), .int (nI (rdQ yl q))])), (y2, .inl (cI, 400, .inl yt))], rfl, ⟨(by rw [hk3]), (by rw [hk3, rdQ, if_neg h8])⟩, by rw [ht]; exact hP, va_K.moved hW.alike hK, hD⟩, hS.F ht⟩) hS.2.2 d_ByteRow_readOnes_19
  exact lp2 (13) 0 yp (by omega) (by omega) (by omega) (rfl) _ _ _ (hP.sub (ws' := [(y1, .inr (2, [.ref y2, .int (nI yl), .int (nI yp)])), (y2, .inl (cI, 400, .inl yt))]) [0, 1] rfl) (hD.sub (ws' := [(y1, .inr (2, [.ref y2, .int (nI yl), .int (nI yp)])), (y2, .inl (cI, 400, .inl yt))]) [0, 1] (by decide) rfl) hS (lv_sub hl [1, 0] rfl)
def y_ByteRow_hasGoodHead : MethodName := ⟨"TileForge$ByteRow", "hasGoodHead", "()Z"⟩
def ws_ByteRow_hasGoodHead : List Cond := .code y_ByteRow_hasGoodHead prog_4_method_3_code 1 (some .boolean) :: GW
theorem mw_138 : (.code ⟨"TileForge$ByteRow", "hasGoodHead", "()Z"⟩ prog_4_method_3_code 1 (some .boolean) : Cond) ∈ GW := List.mem_filter.mpr ⟨(List.mem_append_right _ (List.mem_append_right _ (List.mem_append_right _ (List.mem_append_left _ (List.mem_of_getElem? (i := 60) rfl))))), rfl⟩
theorem hd_ByteRow_hasGoodHead : y_ByteRow_hasGoodHead.cls ≠ "java/lang/invoke/MethodHandle" ∧ y_ByteRow_hasGoodHead.cls ≠ "java/lang/invoke/VarHandle" ∧ (parseMethodDescriptor y_ByteRow_hasGoodHead.desc).map (fun d => d.parameters.length) = some 0 := by decide +kernel
theorem d_ByteRow_hasGoodHead_0 : decode prog_4_method_3_code 0 = .ok (.aload_n 0, 1) := by decide +kernel
theorem d_ByteRow_hasGoodHead_1 : decode prog_4_method_3_code 1 = .ok (.getfield 15, 3) := by decide +kernel
theorem d_ByteRow_hasGoodHead_4 : decode prog_4_method_3_code 4 = .ok (.iconst 3, 1) := by decide +kernel
theorem d_ByteRow_hasGoodHead_5 : decode prog_4_method_3_code 5 = .ok (.if_icmp .lt 47, 3) := by decide +kernel
theorem d_ByteRow_hasGoodHead_8 : decode prog_4_method_3_code 8 = .ok (.aload_n 0, 1) := by decide +kernel
theorem d_ByteRow_hasGoodHead_9 : decode prog_4_method_3_code 9 = .ok (.getfield 9, 3) := by decide +kernel
theorem d_ByteRow_hasGoodHead_12 : decode prog_4_method_3_code 12 = .ok (.iconst 0, 1) := by decide +kernel
theorem d_ByteRow_hasGoodHead_13 : decode prog_4_method_3_code 13 = .ok (.iaload, 1) := by decide +kernel
theorem d_ByteRow_hasGoodHead_14 : decode prog_4_method_3_code 14 = .ok (.iconst 4, 1) := by decide +kernel
theorem d_ByteRow_hasGoodHead_15 : decode prog_4_method_3_code 15 = .ok (.imul, 1) := by decide +kernel
theorem d_ByteRow_hasGoodHead_16 : decode prog_4_method_3_code 16 = .ok (.invokestatic 19, 3) := by decide +kernel
theorem d_ByteRow_hasGoodHead_19 : decode prog_4_method_3_code 19 = .ok (.ifCond .eq 33, 3) := by decide +kernel
theorem d_ByteRow_hasGoodHead_22 : decode prog_4_method_3_code 22 = .ok (.aload_n 0, 1) := by decide +kernel
theorem d_ByteRow_hasGoodHead_23 : decode prog_4_method_3_code 23 = .ok (.getfield 9, 3) := by decide +kernel
theorem d_ByteRow_hasGoodHead_26 : decode prog_4_method_3_code 26 = .ok (.iconst 1, 1) := by decide +kernel
theorem d_ByteRow_hasGoodHead_27 : decode prog_4_method_3_code 27 = .ok (.iaload, 1) := by decide +kernel
theorem d_ByteRow_hasGoodHead_28 : decode prog_4_method_3_code 28 = .ok (.iconst 4, 1) := by decide +kernel
theorem d_ByteRow_hasGoodHead_29 : decode prog_4_method_3_code 29 = .ok (.imul, 1) := by decide +kernel
theorem d_ByteRow_hasGoodHead_30 : decode prog_4_method_3_code 30 = .ok (.invokestatic 19, 3) := by decide +kernel
theorem d_ByteRow_hasGoodHead_33 : decode prog_4_method_3_code 33 = .ok (.ifCond .eq 19, 3) := by decide +kernel
theorem d_ByteRow_hasGoodHead_36 : decode prog_4_method_3_code 36 = .ok (.aload_n 0, 1) := by decide +kernel
theorem d_ByteRow_hasGoodHead_37 : decode prog_4_method_3_code 37 = .ok (.getfield 9, 3) := by decide +kernel
theorem d_ByteRow_hasGoodHead_40 : decode prog_4_method_3_code 40 = .ok (.iconst 2, 1) := by decide +kernel
theorem d_ByteRow_hasGoodHead_41 : decode prog_4_method_3_code 41 = .ok (.iaload, 1) := by decide +kernel
theorem d_ByteRow_hasGoodHead_42 : decode prog_4_method_3_code 42 = .ok (.invokestatic 23, 3) := by decide +kernel
theorem d_ByteRow_hasGoodHead_45 : decode prog_4_method_3_code 45 = .ok (.ifCond .eq 7, 3) := by decide +kernel
theorem d_ByteRow_hasGoodHead_48 : decode prog_4_method_3_code 48 = .ok (.iconst 1, 1) := by decide +kernel
theorem d_ByteRow_hasGoodHead_49 : decode prog_4_method_3_code 49 = .ok (.goto 4, 3) := by decide +kernel
theorem d_ByteRow_hasGoodHead_52 : decode prog_4_method_3_code 52 = .ok (.iconst 0, 1) := by decide +kernel
theorem d_ByteRow_hasGoodHead_53 : decode prog_4_method_3_code 53 = .ok (.ireturn, 1) := by decide +kernel
theorem mw_139 : (.initialized "TileForge" : Cond) ∈ GW := List.mem_filter.mpr ⟨(List.mem_append_right _ (List.mem_append_left _ (List.mem_of_getElem? (i := 1) rfl))), rfl⟩
theorem mw_140 : (.static ⟨"TileForge", "isSide", "(I)Z"⟩ : Cond) ∈ GW := List.mem_filter.mpr ⟨(List.mem_append_right _ (List.mem_append_right _ (List.mem_append_left _ (List.mem_of_getElem? (i := 19) rfl)))), rfl⟩
theorem mw_141 : (.static ⟨"TileForge", "isCoarseness", "(I)Z"⟩ : Cond) ∈ GW := List.mem_filter.mpr ⟨(List.mem_append_right _ (List.mem_append_right _ (List.mem_append_left _ (List.mem_of_getElem? (i := 146) rfl)))), rfl⟩
def q_br_good (cI : ClassId) (y1 : Nat) (y2 : Nat) (yt : Nat → Int32) (yl : Nat) (yp : Nat) : Int32 → va_W → Prop := fun rr ww => rr = (if ¬ nI yl < 3 ∧ sideP (yt 0 * 4) ∧ sideP (yt 1 * 4) ∧ coarP (yt 2) then 1 else 0) ∧ ww = [(y1, .inr (2, [.ref y2, .int (nI yl), .int (nI yp)])), (y2, .inl (cI, 400, .inl yt))]
set_option maxHeartbeats 4000000 in
set_option maxRecDepth 100000 in
theorem c_br_good (l : Launch) {D : va_G} {tys : List (ClassId × FieldType)} {cI : ClassId} (hcI : tys[0]? = some (cI, .int)) (y1 : Nat) (y2 : Nat) (yt : Nat → Int32) (yl : Nat) (yp : Nat) : CsI l D vwCl tys y_ByteRow_hasGoodHead ws_ByteRow_hasGoodHead ({ frames := 1, cells := 0, slots := 0, locals := 20 } : Room) [.ref y1] [(y1, .inr (2, [.ref y2, .int (nI yl), .int (nI yp)])), (y2, .inl (cI, 400, .inl yt))] (q_br_good cI y1 y2 yt yl yp) 0 0 := by
  intro sz
  refine Met.ofW (cc := prog_4_method_3_code) (maxL := 1) (ret := (some .boolean)) (by decide) rfl ?_
  intro p e s m args below meth c s₁ B hml hv
  obtain ⟨rfl, hsz, hP, hK, hD0, hN⟩ := hv
  have hx := B.exec
  have hb := B.bytes
  have hr := B.returns
  have hts := atoms_spec (ws := ws_ByteRow_hasGoodHead) B.pre
  have hown : s.vm.findClass "TileForge$ByteRow" = some m.cls := findClass_of_methodNamed B.named
  have hlocks := B.notSynchronized
  subst hsz
  have hD := hD0.self (sz := s.heap.size)
  generalize hAe : va_A [(y1, .inr (2, [.ref y2, .int (nI yl), .int (nI yp)])), (y2, .inl (cI, 400, .inl yt))] s.heap.size = A at hD ⊢
  have hA : ∀ q : Nat, s.heap.size ≤ q → A q := fun q h => by rw [← hAe]; exact Or.inr h
  have hS : va_S A s.heap s.heap [] := va_S.rf
  have hP : va_P D vwCl [(y1, .inr (2, [.ref y2, .int (nI yl), .int (nI yp)])), (y2, .inl (cI, 400, .inl yt))] s.heap := hP
  have hl := lv_entry ([.ref y1]) (n := 1) (Nat.le_of_ble_eq_true rfl)
  rw [lg_entry_eq]
  generalize (lg_sl ([.ref y1]) ++ List.replicate (1 - (lg_sl ([.ref y1])).length) Slot.unset).toArray = ls at hl ⊢
  have hl : lv_has ls 1 [(0, .ref y1)] := hl
  refine lv_aload_n hx hb d_ByteRow_hasGoodHead_0 rfl (lv_at hl 0 rfl) ?_
  refine va_get (D := D) (ci := 2) (v := .int (nI yl)) (C := "TileForge$ByteRow") (T := T_ByteRow) (N := 3) hx hb hts (cs_in in_ByteRow) hown hK hP 0 rfl rfl 1 (by decide) (hts _ (cs_m mw_128)) (fun _ h9 => h9) rfl d_ByteRow_hasGoodHead_1 ?_
  refine lv_iconst (v := 3) hx hb d_ByteRow_hasGoodHead_4 (by decide) ?_
  refine lv_icmp_lt (tgt := 52) hx hb d_ByteRow_hasGoodHead_5 (by decide) (fun c_5 => ?_) (fun c_5 => ?_)
  · refine lv_iconst (v := 0) hx hb d_ByteRow_hasGoodHead_52 (by decide) ?_
    exact W.zret (v := 0) hx hb hr (rfl) (fun t ht hW => ⟨⟨0, [(y1, .inr (2, [.ref y2, .int (nI yl), .int (nI yp)])), (y2, .inl (cI, 400, .inl yt))], rfl, ⟨(by rw [if_neg (fun h => h.1 c_5)]), (rfl)⟩, by rw [ht]; exact hP, va_K.moved hW.alike hK, hD⟩, hS.F ht⟩) hS.2.2 d_ByteRow_hasGoodHead_53
  · refine lv_aload_n hx hb d_ByteRow_hasGoodHead_8 rfl (lv_at hl 0 rfl) ?_
    refine va_get (D := D) (ci := 2) (v := .ref y2) (C := "TileForge$ByteRow") (T := T_ByteRow) (N := 3) hx hb hts (cs_in in_ByteRow) hown hK hP 0 rfl rfl 0 (by decide) (hts _ (cs_m mw_126)) (fun _ h9 => h9) rfl d_ByteRow_hasGoodHead_9 ?_
    refine lv_iconst (v := 0) hx hb d_ByteRow_hasGoodHead_12 (by decide) ?_
    refine cs_iald (j := 0) hx hb hK hcI hP 1 rfl (rfl) (by decide) (by decide) d_ByteRow_hasGoodHead_13 ?_
    refine lv_iconst (v := 4) hx hb d_ByteRow_hasGoodHead_14 (by decide) ?_
    refine lv_imul hx hb d_ByteRow_hasGoodHead_15 ?_
    refine cs_SNi (As := [.int ((yt 0) * 4)]) (rest := []) (wr := [(y1, .inr (2, [.ref y2, .int (nI yl), .int (nI yp)])), (y2, .inl (cI, 400, .inl yt))]) ⟨hx, hb, hml, hown, hts⟩ (c_isSide l hcI ((yt 0) * 4)) (⟨va_cnB 1 hts (cs_g mw_73) rfl rfl rfl (hN _ (List.mem_of_getElem? (i := 12) rfl)) (hts _ (cs_m mw_139)) hd_TileForge_isSide ⟨Nat.le_of_ble_eq_true rfl, Nat.le_of_ble_eq_true rfl⟩, hts _ (cs_m mw_140), trivial⟩) hN hK hP hD hS hA [] [0, 1] rfl rfl rfl rfl (by decide) rfl rfl hl.1 (Nat.le_of_ble_eq_true rfl) d_ByteRow_hasGoodHead_16 ⟨Nat.le_of_ble_eq_true rfl, Nat.le_of_ble_eq_true rfl⟩ (fun r1 w1 H locs hw hP hD hS => ?_)
    obtain ⟨rfl, rfl⟩ := hw
    have hP : va_P D vwCl [(y1, .inr (2, [.ref y2, .int (nI yl), .int (nI yp)])), (y2, .inl (cI, 400, .inl yt))] H := hP
    have hD : va_D A [(y1, .inr (2, [.ref y2, .int (nI yl), .int (nI yp)])), (y2, .inl (cI, 400, .inl yt))] := hD
    refine lv_if_eq (tgt := 52) hx hb d_ByteRow_hasGoodHead_19 (by decide) (fun c_19 => ?_) (fun c_19 => ?_)
    · have c_19 := cs_b0 c_19
      refine lv_iconst (v := 0) hx hb d_ByteRow_hasGoodHead_52 (by decide) ?_
      exact W.zret (v := 0) hx hb hr (rfl) (fun t ht hW => ⟨⟨0, [(y1, .inr (2, [.ref y2, .int (nI yl), .int (nI yp)])), (y2, .inl (cI, 400, .inl yt))], rfl, ⟨(by rw [if_neg (fun h => c_19 h.2.1)]), (rfl)⟩, by rw [ht]; exact hP, va_K.moved hW.alike hK, hD⟩, hS.F ht⟩) hS.2.2 d_ByteRow_hasGoodHead_53
    · have c_19 := cs_b1 c_19
      refine lv_aload_n hx hb d_ByteRow_hasGoodHead_22 rfl (lv_at hl 0 rfl) ?_
      refine va_get (D := D) (ci := 2) (v := .ref y2) (C := "TileForge$ByteRow") (T := T_ByteRow) (N := 3) hx hb hts (cs_in in_ByteRow) hown hK hP 0 rfl rfl 0 (by decide) (hts _ (cs_m mw_126)) (fun _ h9 => h9) rfl d_ByteRow_hasGoodHead_23 ?_
      refine lv_iconst (v := 1) hx hb d_ByteRow_hasGoodHead_26 (by decide) ?_
      refine cs_iald (j := 1) hx hb hK hcI hP 1 rfl (rfl) (by decide) (by decide) d_ByteRow_hasGoodHead_27 ?_
      refine lv_iconst (v := 4) hx hb d_ByteRow_hasGoodHead_28 (by decide) ?_
      refine lv_imul hx hb d_ByteRow_hasGoodHead_29 ?_
      refine cs_SNi (As := [.int ((yt 1) * 4)]) (rest := []) (wr := [(y1, .inr (2, [.ref y2, .int (nI yl), .int (nI yp)])), (y2, .inl (cI, 400, .inl yt))]) ⟨hx, hb, hml, hown, hts⟩ (c_isSide l hcI ((yt 1) * 4)) (⟨va_cnB 1 hts (cs_g mw_73) rfl rfl rfl (hN _ (List.mem_of_getElem? (i := 12) rfl)) (hts _ (cs_m mw_139)) hd_TileForge_isSide ⟨Nat.le_of_ble_eq_true rfl, Nat.le_of_ble_eq_true rfl⟩, hts _ (cs_m mw_140), trivial⟩) hN hK hP hD hS hA [] [0, 1] rfl rfl rfl rfl (by decide) rfl rfl hl.1 (Nat.le_of_ble_eq_true rfl) d_ByteRow_hasGoodHead_30 ⟨Nat.le_of_ble_eq_true rfl, Nat.le_of_ble_eq_true rfl⟩ (fun r2 w1 H locs hw hP hD hS => ?_)
      obtain ⟨rfl, rfl⟩ := hw
      have hP : va_P D vwCl [(y1, .inr (2, [.ref y2, .int (nI yl), .int (nI yp)])), (y2, .inl (cI, 400, .inl yt))] H := hP
      have hD : va_D A [(y1, .inr (2, [.ref y2, .int (nI yl), .int (nI yp)])), (y2, .inl (cI, 400, .inl yt))] := hD
      refine lv_if_eq (tgt := 52) hx hb d_ByteRow_hasGoodHead_33 (by decide) (fun c_33 => ?_) (fun c_33 => ?_)
      · have c_33 := cs_b0 c_33
        refine lv_iconst (v := 0) hx hb d_ByteRow_hasGoodHead_52 (by decide) ?_
        exact W.zret (v := 0) hx hb hr (rfl) (fun t ht hW => ⟨⟨0, [(y1, .inr (2, [.ref y2, .int (nI yl), .int (nI yp)])), (y2, .inl (cI, 400, .inl yt))], rfl, ⟨(by rw [if_neg (fun h => c_33 h.2.2.1)]), (rfl)⟩, by rw [ht]; exact hP, va_K.moved hW.alike hK, hD⟩, hS.F ht⟩) hS.2.2 d_ByteRow_hasGoodHead_53
      · have c_33 := cs_b1 c_33
        refine lv_aload_n hx hb d_ByteRow_hasGoodHead_36 rfl (lv_at hl 0 rfl) ?_
        refine va_get (D := D) (ci := 2) (v := .ref y2) (C := "TileForge$ByteRow") (T := T_ByteRow) (N := 3) hx hb hts (cs_in in_ByteRow) hown hK hP 0 rfl rfl 0 (by decide) (hts _ (cs_m mw_126)) (fun _ h9 => h9) rfl d_ByteRow_hasGoodHead_37 ?_
        refine lv_iconst (v := 2) hx hb d_ByteRow_hasGoodHead_40 (by decide) ?_
        refine cs_iald (j := 2) hx hb hK hcI hP 1 rfl (rfl) (by decide) (by decide) d_ByteRow_hasGoodHead_41 ?_
        refine cs_SNi (As := [.int (yt 2)]) (rest := []) (wr := [(y1, .inr (2, [.ref y2, .int (nI yl), .int (nI yp)])), (y2, .inl (cI, 400, .inl yt))]) ⟨hx, hb, hml, hown, hts⟩ (c_isCoarseness l hcI (yt 2)) (⟨va_cnB 1 hts (cs_g mw_76) rfl rfl rfl (hN _ (List.mem_of_getElem? (i := 13) rfl)) (hts _ (cs_m mw_139)) hd_TileForge_isCoarseness ⟨Nat.le_of_ble_eq_true rfl, Nat.le_of_ble_eq_true rfl⟩, hts _ (cs_m mw_141), trivial⟩) hN hK hP hD hS hA [] [0, 1] rfl rfl rfl rfl (by decide) rfl rfl hl.1 (Nat.le_of_ble_eq_true rfl) d_ByteRow_hasGoodHead_42 ⟨Nat.le_of_ble_eq_true rfl, Nat.le_of_ble_eq_true rfl⟩ (fun r3 w1 H locs hw hP hD hS => ?_)
        obtain ⟨rfl, rfl⟩ := hw
        have hP : va_P D vwCl [(y1, .inr (2, [.ref y2, .int (nI yl), .int (nI yp)])), (y2, .inl (cI, 400, .inl yt))] H := hP
        have hD : va_D A [(y1, .inr (2, [.ref y2, .int (nI yl), .int (nI yp)])), (y2, .inl (cI, 400, .inl yt))] := hD
        refine lv_if_eq (tgt := 52) hx hb d_ByteRow_hasGoodHead_45 (by decide) (fun c_45 => ?_) (fun c_45 => ?_)
        · have c_45 := cs_b0 c_45
          refine lv_iconst (v := 0) hx hb d_ByteRow_hasGoodHead_52 (by decide) ?_
          exact W.zret (v := 0) hx hb hr (rfl) (fun t ht hW => ⟨⟨0, [(y1, .inr (2, [.ref y2, .int (nI yl), .int (nI yp)])), (y2, .inl (cI, 400, .inl yt))], rfl, ⟨(by rw [if_neg (fun h => c_45 h.2.2.2)]), (rfl)⟩, by rw [ht]; exact hP, va_K.moved hW.alike hK, hD⟩, hS.F ht⟩) hS.2.2 d_ByteRow_hasGoodHead_53
        · have c_45 := cs_b1 c_45
          refine lv_iconst (v := 1) hx hb d_ByteRow_hasGoodHead_48 (by decide) ?_
          refine lv_goto (tgt := 53) hx hb d_ByteRow_hasGoodHead_49 (by decide) ?_
          exact W.zret (v := 1) hx hb hr (rfl) (fun t ht hW => ⟨⟨1, [(y1, .inr (2, [.ref y2, .int (nI yl), .int (nI yp)])), (y2, .inl (cI, 400, .inl yt))], rfl, ⟨(by rw [if_pos ⟨c_5, c_19, c_33, c_45⟩]), (rfl)⟩, by rw [ht]; exact hP, va_K.moved hW.alike hK, hD⟩, hS.F ht⟩) hS.2.2 d_ByteRow_hasGoodHead_53
def y_ByteRow_become : MethodName := ⟨"TileForge$ByteRow", "become", "(LTileForge$BitWriter;)V"⟩
def ws_ByteRow_become : List Cond := .code y_ByteRow_become prog_4_method_4_code 2 none :: GW
theorem mw_142 : (.code ⟨"TileForge$ByteRow", "become", "(LTileForge$BitWriter;)V"⟩ prog_4_method_4_code 2 none : Cond) ∈ GW := List.mem_filter.mpr ⟨(List.mem_append_right _ (List.mem_append_right _ (List.mem_append_right _ (List.mem_append_left _ (List.mem_of_getElem? (i := 43) rfl))))), rfl⟩
theorem hd_ByteRow_become : y_ByteRow_become.cls ≠ "java/lang/invoke/MethodHandle" ∧ y_ByteRow_become.cls ≠ "java/lang/invoke/VarHandle" ∧ (parseMethodDescriptor y_ByteRow_become.desc).map (fun d => d.parameters.length) = some 1 := by decide +kernel
theorem d_ByteRow_become_0 : decode prog_4_method_4_code 0 = .ok (.aload_n 1, 1) := by decide +kernel
theorem d_ByteRow_become_1 : decode prog_4_method_4_code 1 = .ok (.getfield 26, 3) := by decide +kernel
theorem d_ByteRow_become_4 : decode prog_4_method_4_code 4 = .ok (.iconst 0, 1) := by decide +kernel
theorem d_ByteRow_become_5 : decode prog_4_method_4_code 5 = .ok (.aload_n 0, 1) := by decide +kernel
theorem d_ByteRow_become_6 : decode prog_4_method_4_code 6 = .ok (.getfield 9, 3) := by decide +kernel
theorem d_ByteRow_become_9 : decode prog_4_method_4_code 9 = .ok (.iconst 0, 1) := by decide +kernel
theorem d_ByteRow_become_10 : decode prog_4_method_4_code 10 = .ok (.sipush 400, 3) := by decide +kernel
theorem d_ByteRow_become_13 : decode prog_4_method_4_code 13 = .ok (.invokestatic 29, 3) := by decide +kernel
theorem d_ByteRow_become_16 : decode prog_4_method_4_code 16 = .ok (.aload_n 0, 1) := by decide +kernel
theorem d_ByteRow_become_17 : decode prog_4_method_4_code 17 = .ok (.aload_n 1, 1) := by decide +kernel
theorem d_ByteRow_become_18 : decode prog_4_method_4_code 18 = .ok (.invokevirtual 35, 3) := by decide +kernel
theorem d_ByteRow_become_21 : decode prog_4_method_4_code 21 = .ok (.sipush 400, 3) := by decide +kernel
theorem d_ByteRow_become_24 : decode prog_4_method_4_code 24 = .ok (.invokestatic 39, 3) := by decide +kernel
theorem d_ByteRow_become_27 : decode prog_4_method_4_code 27 = .ok (.putfield 15, 3) := by decide +kernel
theorem d_ByteRow_become_30 : decode prog_4_method_4_code 30 = .ok (.return_, 1) := by decide +kernel
theorem mw_143 : (.fieldLink "TileForge$ByteRow" 26 "TileForge$BitWriter" "bytes" "[I" : Cond) ∈ GW := List.mem_filter.mpr ⟨(List.mem_append_right _ (List.mem_append_left _ (List.mem_of_getElem? (i := 102) rfl))), rfl⟩
theorem mw_144 : (.methodLink "TileForge$ByteRow" 29 arraycopyName : Cond) ∈ GW := List.mem_filter.mpr ⟨(List.mem_append_right _ (List.mem_append_right _ (List.mem_append_right _ (List.mem_append_left _ (List.mem_of_getElem? (i := 44) rfl))))), rfl⟩
theorem mw_145 : (.methodLink "TileForge$ByteRow" 35 ⟨"TileForge$BitWriter", "bytesNeeded", "()I"⟩ : Cond) ∈ GW := List.mem_filter.mpr ⟨(List.mem_append_right _ (List.mem_append_right _ (List.mem_append_right _ (List.mem_append_left _ (List.mem_of_getElem? (i := 45) rfl))))), rfl⟩
theorem mw_146 : (.instanceMethod ⟨"TileForge$BitWriter", "bytesNeeded", "()I"⟩ : Cond) ∈ GW := List.mem_filter.mpr ⟨(List.mem_append_right _ (List.mem_append_right _ (List.mem_append_right _ (List.mem_append_left _ (List.mem_of_getElem? (i := 11) rfl))))), rfl⟩
theorem mw_147 : (.selects "TileForge$BitWriter" ⟨"TileForge$BitWriter", "bytesNeeded", "()I"⟩ ⟨"TileForge$BitWriter", "bytesNeeded", "()I"⟩ : Cond) ∈ GW := List.mem_filter.mpr ⟨(List.mem_append_right _ (List.mem_append_right _ (List.mem_append_right _ (List.mem_append_left _ (List.mem_of_getElem? (i := 12) rfl))))), rfl⟩
theorem mw_148 : (.methodLink "TileForge$ByteRow" 39 Lib.Math.min.name : Cond) ∈ GW := List.mem_filter.mpr ⟨(List.mem_append_right _ (List.mem_append_right _ (List.mem_append_right _ (List.mem_append_left _ (List.mem_of_getElem? (i := 46) rfl))))), rfl⟩
theorem mw_149 : (.static Lib.Math.min.name : Cond) ∈ GW := List.mem_filter.mpr ⟨(List.mem_append_right _ (List.mem_append_right _ (List.mem_append_right _ (List.mem_append_left _ (List.mem_of_getElem? (i := 47) rfl))))), rfl⟩
theorem mw_150 : (.initialized "java/lang/Math" : Cond) ∈ GW := List.mem_filter.mpr ⟨(List.mem_append_right _ (List.mem_append_left _ (List.mem_of_getElem? (i := 16) rfl))), rfl⟩
theorem mw_151 : (.code Lib.Math.min.name Lib.Math.min.code 2 (some .int) : Cond) ∈ GW := List.mem_filter.mpr ⟨(List.mem_append_right _ (List.mem_append_right _ (List.mem_append_right _ (List.mem_append_left _ (List.mem_of_getElem? (i := 48) rfl))))), rfl⟩
def q_br_become (cI : ClassId) (y1 : Nat) (y2 : Nat) (yt : Nat → Int32) (yl : Nat) (yp : Nat) (x1 : Nat) (x2 : Nat) (bt : Nat → Int32) (nb : Nat) : va_W → Prop := fun ww => ∃ (yt' : Nat → Int32), (∀ j, j < 400 → yt' j = bt j) ∧ ww = [(y1, .inr (2, [.ref y2, .int (nI ((nb + 7) / 8)), .int (nI yp)])), (y2, .inl (cI, 400, .inl yt')), (x1, .inr (0, [.ref x2, .int (nI nb)])), (x2, .inl (cI, 400, .inl bt))]
set_option maxHeartbeats 4000000 in
set_option maxRecDepth 100000 in
theorem c_br_become (l : Launch) {D : va_G} {tys : List (ClassId × FieldType)} {cI : ClassId} (hcI : tys[0]? = some (cI, .int)) (y1 : Nat) (y2 : Nat) (yt : Nat → Int32) (yl : Nat) (yp : Nat) (x1 : Nat) (x2 : Nat) (bt : Nat → Int32) (nb : Nat) (hnb : (nb + 7) / 8 ≤ 400) : CsV l D vwCl tys y_ByteRow_become ws_ByteRow_become ({ frames := 1, cells := 0, slots := 0, locals := 40 } : Room) [.ref y1, .ref x1] [(y1, .inr (2, [.ref y2, .int (nI yl), .int (nI yp)])), (y2, .inl (cI, 400, .inl yt)), (x1, .inr (0, [.ref x2, .int (nI nb)])), (x2, .inl (cI, 400, .inl bt))] (q_br_become cI y1 y2 yt yl yp x1 x2 bt nb) 0 0 := by
  intro sz
  refine Met.ofW (cc := prog_4_method_4_code) (maxL := 2) (ret := none) (by decide) rfl ?_
  intro p e s m args below meth c s₁ B hml hv
  obtain ⟨rfl, hsz, hP, hK, hD0, hN⟩ := hv
  have hx := B.exec
  have hb := B.bytes
  have hr := B.returns
  have hts := atoms_spec (ws := ws_ByteRow_become) B.pre
  have hown : s.vm.findClass "TileForge$ByteRow" = some m.cls := findClass_of_methodNamed B.named
  have hlocks := B.notSynchronized
  subst hsz
  have hD := hD0.self (sz := s.heap.size)
  generalize hAe : va_A [(y1, .inr (2, [.ref y2, .int (nI yl), .int (nI yp)])), (y2, .inl (cI, 400, .inl yt)), (x1, .inr (0, [.ref x2, .int (nI nb)])), (x2, .inl (cI, 400, .inl bt))] s.heap.size = A at hD ⊢
  have hA : ∀ q : Nat, s.heap.size ≤ q → A q := fun q h => by rw [← hAe]; exact Or.inr h
  have hS : va_S A s.heap s.heap [] := va_S.rf
  have hP : va_P D vwCl [(y1, .inr (2, [.ref y2, .int (nI yl), .int (nI yp)])), (y2, .inl (cI, 400, .inl yt)), (x1, .inr (0, [.ref x2, .int (nI nb)])), (x2, .inl (cI, 400, .inl bt))] s.heap := hP
  have hl := lv_entry ([.ref y1, .ref x1]) (n := 2) (Nat.le_of_ble_eq_true rfl)
  rw [lg_entry_eq]
  generalize (lg_sl ([.ref y1, .ref x1]) ++ List.replicate (2 - (lg_sl ([.ref y1, .ref x1])).length) Slot.unset).toArray = ls at hl ⊢
  have hl : lv_has ls 2 [(0, .ref y1), (1, .ref x1)] := hl
  refine lv_aload_n hx hb d_ByteRow_become_0 rfl (lv_at hl 1 rfl) ?_
  refine va_get (D := D) (ci := 0) (v := .ref x2) (C := "TileForge$BitWriter") (T := T_BitWriter) (N := 2) hx hb hts (cs_in in_BitWriter) hown hK hP 2 rfl rfl 0 (by decide) (hts _ (cs_m mw_143)) (fun _ h9 => h9) rfl d_ByteRow_become_1 ?_
  refine lv_iconst (v := 0) hx hb d_ByteRow_become_4 (by decide) ?_
  refine lv_aload_n hx hb d_ByteRow_become_5 rfl (lv_at hl 0 rfl) ?_
  refine va_get (D := D) (ci := 2) (v := .ref y2) (C := "TileForge$ByteRow") (T := T_ByteRow) (N := 3) hx hb hts (cs_in in_ByteRow) hown hK hP 0 rfl rfl 0 (by decide) (hts _ (cs_m mw_126)) (fun _ h9 => h9) rfl d_ByteRow_become_6 ?_
  refine lv_iconst (v := 0) hx hb d_ByteRow_become_9 (by decide) ?_
  refine lv_sipush (v := 400) hx hb d_ByteRow_become_10 (by decide) ?_
  refine va_copyi hx hb (hml.trans hl.1.symm) hown (hts _ (cs_m mw_144)) (hts _ (cs_m mw_102)) (hts _ (cs_m mw_103)) (hts _ (cs_m mw_104)) hK hP hD hS 3 1 0 0 rfl rfl hcI hcI rfl (by decide) (by decide) (by decide) (by decide) (by decide) (fun _ _ => rfl) (Nat.le_of_ble_eq_true rfl) (by decide +kernel) d_ByteRow_become_13 (fun H locs hP hD hS => ?_)
  have hP : va_P D vwCl [(y1, .inr (2, [.ref y2, .int (nI yl), .int (nI yp)])), (y2, .inl (cI, 400, .inl (va_cpy bt yt 0 0 400))), (x1, .inr (0, [.ref x2, .int (nI nb)])), (x2, .inl (cI, 400, .inl bt))] H := hP
  have hD : va_D A [(y1, .inr (2, [.ref y2, .int (nI yl), .int (nI yp)])), (y2, .inl (cI, 400, .inl (va_cpy bt yt 0 0 400))), (x1, .inr (0, [.ref x2, .int (nI nb)])), (x2, .inl (cI, 400, .inl bt))] := hD
  refine lv_aload_n hx hb d_ByteRow_become_16 rfl (lv_at hl 0 rfl) ?_
  refine lv_aload_n hx hb d_ByteRow_become_17 rfl (lv_at hl 1 rfl) ?_
  refine cs_Vi (As := []) (rest := [.ref y1]) (wr := [(y1, .inr (2, [.ref y2, .int (nI yl), .int (nI yp)])), (y2, .inl (cI, 400, .inl (va_cpy bt yt 0 0 400)))]) ⟨hx, hb, hml, hown, hts⟩ (c_bw_need l hcI x1 x2 bt nb (by omega)) (cwV 0 hts (cs_gV mw_145 mw_146 mw_147 mw_119 mw_123) rfl rfl rfl ⟨rfl, hd_BitWriter_bytesNeeded⟩ ⟨Nat.le_of_ble_eq_true rfl, Nat.le_of_ble_eq_true rfl⟩) hN hK hP hD hS hA [2, 3] [0, 1] rfl rfl rfl rfl (by decide) (ci := 0) rfl rfl rfl rfl rfl hl.1 (Nat.le_of_ble_eq_true rfl) d_ByteRow_become_18 ⟨Nat.le_of_ble_eq_true rfl, Nat.le_of_ble_eq_true rfl⟩ (fun r1 w1 H locs hw hP hD hS => ?_)
  obtain ⟨rfl, rfl⟩ := hw
  have hP : va_P D vwCl [(y1, .inr (2, [.ref y2, .int (nI yl), .int (nI yp)])), (y2, .inl (cI, 400, .inl (va_cpy bt yt 0 0 400))), (x1, .inr (0, [.ref x2, .int (nI nb)])), (x2, .inl (cI, 400, .inl bt))] H := hP
  have hD : va_D A [(y1, .inr (2, [.ref y2, .int (nI yl), .int (nI yp)])), (y2, .inl (cI, 400, .inl (va_cpy bt yt 0 0 400))), (x1, .inr (0, [.ref x2, .int (nI nb)])), (x2, .inl (cI, 400, .inl bt))] := hD
  refine lv_sipush (v := 400) hx hb d_ByteRow_become_21 (by decide) ?_
  refine va_mmin hx hb (hml.trans hl.1.symm) hown (hts _ (cs_m mw_148)) (hts _ (cs_m mw_149)) (hts _ (cs_m mw_150)) (hts _ (cs_m mw_151)) (Nat.le_of_ble_eq_true rfl) (Nat.le_of_ble_eq_true rfl) (Nat.le_of_ble_eq_true rfl) (Nat.le_of_ble_eq_true rfl) d_ByteRow_become_24 ?_
  refine cs_top (y := nI ((nb + 7) / 8)) (cs_min (nI_nlt (a := 400) (b := (nb + 7) / 8) hnb (by decide))) ?_
  refine va_put (D := D) (ci := 2) (v := .int (nI ((nb + 7) / 8))) (ty := .int) (C := "TileForge$ByteRow") (T := T_ByteRow) (N := 3) hx hb hts (cs_in in_ByteRow) ty_ByteRow tok_ByteRow nm_ByteRow hown hK hP hD hS 0 rfl rfl 1 (by decide) (hts _ (cs_m mw_128)) (fun _ h9 => h9) rfl (by decide +kernel) rfl rfl (Nat.le_of_ble_eq_true rfl) d_ByteRow_become_27 (fun H locs hP hD hS => ?_)
  have hP : va_P D vwCl [(y1, .inr (2, [.ref y2, .int (nI ((nb + 7) / 8)), .int (nI yp)])), (y2, .inl (cI, 400, .inl (va_cpy bt yt 0 0 400))), (x1, .inr (0, [.ref x2, .int (nI nb)])), (x2, .inl (cI, 400, .inl bt))] H := hP
  have hD : va_D A [(y1, .inr (2, [.ref y2, .int (nI ((nb + 7) / 8)), .int (nI yp)])), (y2, .inl (cI, 400, .inl (va_cpy bt yt 0 0 400))), (x1, .inr (0, [.ref x2, .int (nI nb)])), (x2, .inl (cI, 400, .inl bt))] := hD
  exact W.vret hx hb hr (fun t ht hW => ⟨⟨[(y1, .inr (2, [.ref y2, .int (nI ((nb + 7) / 8)), .int (nI yp)])), (y2, .inl (cI, 400, .inl (va_cpy bt yt 0 0 400))), (x1, .inr (0, [.ref x2, .int (nI nb)])), (x2, .inl (cI, 400, .inl bt))], rfl, ⟨(va_cpy bt yt 0 0 400), (fun j hj => cs_cpy hj), (rfl)⟩, by rw [ht]; exact hP, va_K.moved hW.alike hK, hD⟩, hS.F ht⟩) hS.2.2 d_ByteRow_become_30
