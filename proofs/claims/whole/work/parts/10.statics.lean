def y_TileForge_isSide : MethodName := ⟨"TileForge", "isSide", "(I)Z"⟩
def ws_TileForge_isSide : List Cond := .code y_TileForge_isSide prog_1_method_16_code 1 (some .boolean) :: GW
theorem mw_73 : (.code ⟨"TileForge", "isSide", "(I)Z"⟩ prog_1_method_16_code 1 (some .boolean) : Cond) ∈ GW := List.mem_filter.mpr ⟨(List.mem_append_right _ (List.mem_append_right _ (List.mem_append_left _ (List.mem_of_getElem? (i := 20) rfl)))), rfl⟩
theorem hd_TileForge_isSide : y_TileForge_isSide.cls ≠ "java/lang/invoke/MethodHandle" ∧ y_TileForge_isSide.cls ≠ "java/lang/invoke/VarHandle" ∧ (parseMethodDescriptor y_TileForge_isSide.desc).map (fun d => d.parameters.length) = some 1 := by decide +kernel
theorem d_TileForge_isSide_0 : decode prog_1_method_16_code 0 = .ok (.iload_n 0, 1) := by decide +kernel
theorem d_TileForge_isSide_1 : decode prog_1_method_16_code 1 = .ok (.iconst 4, 1) := by decide +kernel
theorem d_TileForge_isSide_2 : decode prog_1_method_16_code 2 = .ok (.if_icmp .eq 15, 3) := by decide +kernel
theorem d_TileForge_isSide_5 : decode prog_1_method_16_code 5 = .ok (.iload_n 0, 1) := by decide +kernel
theorem d_TileForge_isSide_6 : decode prog_1_method_16_code 6 = .ok (.bipush 8, 2) := by decide +kernel
theorem d_TileForge_isSide_8 : decode prog_1_method_16_code 8 = .ok (.if_icmp .eq 9, 3) := by decide +kernel
theorem d_TileForge_isSide_11 : decode prog_1_method_16_code 11 = .ok (.iload_n 0, 1) := by decide +kernel
theorem d_TileForge_isSide_12 : decode prog_1_method_16_code 12 = .ok (.bipush 12, 2) := by decide +kernel
theorem d_TileForge_isSide_14 : decode prog_1_method_16_code 14 = .ok (.if_icmp .ne 7, 3) := by decide +kernel
theorem d_TileForge_isSide_17 : decode prog_1_method_16_code 17 = .ok (.iconst 1, 1) := by decide +kernel
theorem d_TileForge_isSide_18 : decode prog_1_method_16_code 18 = .ok (.goto 4, 3) := by decide +kernel
theorem d_TileForge_isSide_21 : decode prog_1_method_16_code 21 = .ok (.iconst 0, 1) := by decide +kernel
theorem d_TileForge_isSide_22 : decode prog_1_method_16_code 22 = .ok (.ireturn, 1) := by decide +kernel
def q_isSide (cI : ClassId) (x : Int32) : Int32 → va_W → Prop := fun rr ww => rr = (if x = 4 ∨ x = 8 ∨ x = 12 then 1 else 0) ∧ ww = []
set_option maxHeartbeats 4000000 in
set_option maxRecDepth 100000 in
theorem c_isSide (l : Launch) {D : va_G} {tys : List (ClassId × FieldType)} {cI : ClassId} (hcI : tys[0]? = some (cI, .int)) (x : Int32) : CsI l D vwCl tys y_TileForge_isSide ws_TileForge_isSide ({ frames := 0, cells := 0, slots := 0, locals := 0 } : Room) [.int x] [] (q_isSide cI x) 0 0 := by
  intro sz
  refine Met.ofW (cc := prog_1_method_16_code) (maxL := 1) (ret := (some .boolean)) (by decide) rfl ?_
  intro p e s m args below meth c s₁ B hml hv
  obtain ⟨rfl, hsz, hP, hK, hD0, hN⟩ := hv
  have hx := B.exec
  have hb := B.bytes
  have hr := B.returns
  have hts := atoms_spec (ws := ws_TileForge_isSide) B.pre
  have hown : s.vm.findClass "TileForge" = some m.cls := findClass_of_methodNamed B.named
  have hlocks := B.notSynchronized
  subst hsz
  have hD := hD0.self (sz := s.heap.size)
  generalize hAe : va_A [] s.heap.size = A at hD ⊢
  have hA : ∀ q : Nat, s.heap.size ≤ q → A q := fun q h => by rw [← hAe]; exact Or.inr h
  have hS : va_S A s.heap s.heap [] := va_S.rf
  have hP : va_P D vwCl [] s.heap := hP
  have hl := lv_entry ([.int x]) (n := 1) (Nat.le_of_ble_eq_true rfl)
  rw [lg_entry_eq]
  generalize (lg_sl ([.int x]) ++ List.replicate (1 - (lg_sl ([.int x])).length) Slot.unset).toArray = ls at hl ⊢
  have hl : lv_has ls 1 [(0, .int x)] := hl
  refine lv_iload_n hx hb d_TileForge_isSide_0 rfl (lv_at hl 0 rfl) ?_
  refine lv_iconst (v := 4) hx hb d_TileForge_isSide_1 (by decide) ?_
  refine lv_icmp_eq (tgt := 17) hx hb d_TileForge_isSide_2 (by decide) (fun c_2 => ?_) (fun c_2 => ?_)
  · refine lv_iconst (v := 1) hx hb d_TileForge_isSide_17 (by decide) ?_
    refine lv_goto (tgt := 22) hx hb d_TileForge_isSide_18 (by decide) ?_
    exact W.zret (v := 1) hx hb hr (rfl) (fun t ht hW => ⟨⟨1, [], rfl, ⟨(by simp [c_2]), (rfl)⟩, by rw [ht]; exact hP, va_K.moved hW.alike hK, hD⟩, hS.F ht⟩) hS.2.2 d_TileForge_isSide_22
  · refine lv_iload_n hx hb d_TileForge_isSide_5 rfl (lv_at hl 0 rfl) ?_
    refine lv_bipush (v := 8) hx hb d_TileForge_isSide_6 (by decide) ?_
    refine lv_icmp_eq (tgt := 17) hx hb d_TileForge_isSide_8 (by decide) (fun c_8 => ?_) (fun c_8 => ?_)
    · refine lv_iconst (v := 1) hx hb d_TileForge_isSide_17 (by decide) ?_
      refine lv_goto (tgt := 22) hx hb d_TileForge_isSide_18 (by decide) ?_
      exact W.zret (v := 1) hx hb hr (rfl) (fun t ht hW => ⟨⟨1, [], rfl, ⟨(by simp [c_2, c_8]), (rfl)⟩, by rw [ht]; exact hP, va_K.moved hW.alike hK, hD⟩, hS.F ht⟩) hS.2.2 d_TileForge_isSide_22
    · refine lv_iload_n hx hb d_TileForge_isSide_11 rfl (lv_at hl 0 rfl) ?_
      refine lv_bipush (v := 12) hx hb d_TileForge_isSide_12 (by decide) ?_
      refine lv_icmp_ne (tgt := 21) hx hb d_TileForge_isSide_14 (by decide) (fun c_14 => ?_) (fun c_14 => ?_)
      · refine lv_iconst (v := 0) hx hb d_TileForge_isSide_21 (by decide) ?_
        exact W.zret (v := 0) hx hb hr (rfl) (fun t ht hW => ⟨⟨0, [], rfl, ⟨(by simp [c_2, c_8, c_14]), (rfl)⟩, by rw [ht]; exact hP, va_K.moved hW.alike hK, hD⟩, hS.F ht⟩) hS.2.2 d_TileForge_isSide_22
      · refine lv_iconst (v := 1) hx hb d_TileForge_isSide_17 (by decide) ?_
        refine lv_goto (tgt := 22) hx hb d_TileForge_isSide_18 (by decide) ?_
        exact W.zret (v := 1) hx hb hr (rfl) (fun t ht hW => ⟨⟨1, [], rfl, ⟨(by simp [c_2, c_8, c_14]), (rfl)⟩, by rw [ht]; exact hP, va_K.moved hW.alike hK, hD⟩, hS.F ht⟩) hS.2.2 d_TileForge_isSide_22
def y_TileForge_isPixel : MethodName := ⟨"TileForge", "isPixel", "(I)Z"⟩
def ws_TileForge_isPixel : List Cond := .code y_TileForge_isPixel prog_1_method_17_code 1 (some .boolean) :: GW
theorem mw_74 : (.code ⟨"TileForge", "isPixel", "(I)Z"⟩ prog_1_method_17_code 1 (some .boolean) : Cond) ∈ GW := List.mem_filter.mpr ⟨(List.mem_append_right _ (List.mem_append_right _ (List.mem_append_left _ (List.mem_of_getElem? (i := 95) rfl)))), rfl⟩
theorem hd_TileForge_isPixel : y_TileForge_isPixel.cls ≠ "java/lang/invoke/MethodHandle" ∧ y_TileForge_isPixel.cls ≠ "java/lang/invoke/VarHandle" ∧ (parseMethodDescriptor y_TileForge_isPixel.desc).map (fun d => d.parameters.length) = some 1 := by decide +kernel
theorem d_TileForge_isPixel_0 : decode prog_1_method_17_code 0 = .ok (.iload_n 0, 1) := by decide +kernel
theorem d_TileForge_isPixel_1 : decode prog_1_method_17_code 1 = .ok (.ifCond .lt 14, 3) := by decide +kernel
theorem d_TileForge_isPixel_4 : decode prog_1_method_17_code 4 = .ok (.iload_n 0, 1) := by decide +kernel
theorem d_TileForge_isPixel_5 : decode prog_1_method_17_code 5 = .ok (.sipush 255, 3) := by decide +kernel
theorem d_TileForge_isPixel_8 : decode prog_1_method_17_code 8 = .ok (.if_icmp .gt 7, 3) := by decide +kernel
theorem d_TileForge_isPixel_11 : decode prog_1_method_17_code 11 = .ok (.iconst 1, 1) := by decide +kernel
theorem d_TileForge_isPixel_12 : decode prog_1_method_17_code 12 = .ok (.goto 4, 3) := by decide +kernel
theorem d_TileForge_isPixel_15 : decode prog_1_method_17_code 15 = .ok (.iconst 0, 1) := by decide +kernel
theorem d_TileForge_isPixel_16 : decode prog_1_method_17_code 16 = .ok (.ireturn, 1) := by decide +kernel
def q_isPixel (cI : ClassId) (x : Int32) : Int32 → va_W → Prop := fun rr ww => rr = (if ¬ x < 0 ∧ ¬ 255 < x then 1 else 0) ∧ ww = []
set_option maxHeartbeats 4000000 in
set_option maxRecDepth 100000 in
theorem c_isPixel (l : Launch) {D : va_G} {tys : List (ClassId × FieldType)} {cI : ClassId} (hcI : tys[0]? = some (cI, .int)) (x : Int32) : CsI l D vwCl tys y_TileForge_isPixel ws_TileForge_isPixel ({ frames := 0, cells := 0, slots := 0, locals := 0 } : Room) [.int x] [] (q_isPixel cI x) 0 0 := by
  intro sz
  refine Met.ofW (cc := prog_1_method_17_code) (maxL := 1) (ret := (some .boolean)) (by decide) rfl ?_
  intro p e s m args below meth c s₁ B hml hv
  obtain ⟨rfl, hsz, hP, hK, hD0, hN⟩ := hv
  have hx := B.exec
  have hb := B.bytes
  have hr := B.returns
  have hts := atoms_spec (ws := ws_TileForge_isPixel) B.pre
  have hown : s.vm.findClass "TileForge" = some m.cls := findClass_of_methodNamed B.named
  have hlocks := B.notSynchronized
  subst hsz
  have hD := hD0.self (sz := s.heap.size)
  generalize hAe : va_A [] s.heap.size = A at hD ⊢
  have hA : ∀ q : Nat, s.heap.size ≤ q → A q := fun q h => by rw [← hAe]; exact Or.inr h
  have hS : va_S A s.heap s.heap [] := va_S.rf
  have hP : va_P D vwCl [] s.heap := hP
  have hl := lv_entry ([.int x]) (n := 1) (Nat.le_of_ble_eq_true rfl)
  rw [lg_entry_eq]
  generalize (lg_sl ([.int x]) ++ List.replicate (1 - (lg_sl ([.int x])).length) Slot.unset).toArray = ls at hl ⊢
  have hl : lv_has ls 1 [(0, .int x)] := hl
  refine lv_iload_n hx hb d_TileForge_isPixel_0 rfl (lv_at hl 0 rfl) ?_
  refine lv_if_lt (tgt := 15) hx hb d_TileForge_isPixel_1 (by decide) (fun c_1 => ?_) (fun c_1 => ?_)
  · refine lv_iconst (v := 0) hx hb d_TileForge_isPixel_15 (by decide) ?_
    exact W.zret (v := 0) hx hb hr (rfl) (fun t ht hW => ⟨⟨0, [], rfl, ⟨(by simp [c_1]), (rfl)⟩, by rw [ht]; exact hP, va_K.moved hW.alike hK, hD⟩, hS.F ht⟩) hS.2.2 d_TileForge_isPixel_16
  · refine lv_iload_n hx hb d_TileForge_isPixel_4 rfl (lv_at hl 0 rfl) ?_
    refine lv_sipush (v := 255) hx hb d_TileForge_isPixel_5 (by decide) ?_
    refine lv_icmp_gt (tgt := 15) hx hb d_TileForge_isPixel_8 (by decide) (fun c_8 => ?_) (fun c_8 => ?_)
    · refine lv_iconst (v := 0) hx hb d_TileForge_isPixel_15 (by decide) ?_
      exact W.zret (v := 0) hx hb hr (rfl) (fun t ht hW => ⟨⟨0, [], rfl, ⟨(by simp [c_1, c_8]), (rfl)⟩, by rw [ht]; exact hP, va_K.moved hW.alike hK, hD⟩, hS.F ht⟩) hS.2.2 d_TileForge_isPixel_16
    · refine lv_iconst (v := 1) hx hb d_TileForge_isPixel_11 (by decide) ?_
      refine lv_goto (tgt := 16) hx hb d_TileForge_isPixel_12 (by decide) ?_
      exact W.zret (v := 1) hx hb hr (rfl) (fun t ht hW => ⟨⟨1, [], rfl, ⟨(by simp [c_1, c_8]), (rfl)⟩, by rw [ht]; exact hP, va_K.moved hW.alike hK, hD⟩, hS.F ht⟩) hS.2.2 d_TileForge_isPixel_16
def y_TileForge_isSlope : MethodName := ⟨"TileForge", "isSlope", "(I)Z"⟩
def ws_TileForge_isSlope : List Cond := .code y_TileForge_isSlope prog_1_method_18_code 1 (some .boolean) :: GW
theorem mw_75 : (.code ⟨"TileForge", "isSlope", "(I)Z"⟩ prog_1_method_18_code 1 (some .boolean) : Cond) ∈ GW := List.mem_filter.mpr ⟨(List.mem_append_right _ (List.mem_append_right _ (List.mem_append_left _ (List.mem_of_getElem? (i := 133) rfl)))), rfl⟩
theorem hd_TileForge_isSlope : y_TileForge_isSlope.cls ≠ "java/lang/invoke/MethodHandle" ∧ y_TileForge_isSlope.cls ≠ "java/lang/invoke/VarHandle" ∧ (parseMethodDescriptor y_TileForge_isSlope.desc).map (fun d => d.parameters.length) = some 1 := by decide +kernel
theorem d_TileForge_isSlope_0 : decode prog_1_method_18_code 0 = .ok (.iload_n 0, 1) := by decide +kernel
theorem d_TileForge_isSlope_1 : decode prog_1_method_18_code 1 = .ok (.sipush (-255), 3) := by decide +kernel
theorem d_TileForge_isSlope_4 : decode prog_1_method_18_code 4 = .ok (.if_icmp .lt 14, 3) := by decide +kernel
theorem d_TileForge_isSlope_7 : decode prog_1_method_18_code 7 = .ok (.iload_n 0, 1) := by decide +kernel
theorem d_TileForge_isSlope_8 : decode prog_1_method_18_code 8 = .ok (.sipush 255, 3) := by decide +kernel
theorem d_TileForge_isSlope_11 : decode prog_1_method_18_code 11 = .ok (.if_icmp .gt 7, 3) := by decide +kernel
theorem d_TileForge_isSlope_14 : decode prog_1_method_18_code 14 = .ok (.iconst 1, 1) := by decide +kernel
theorem d_TileForge_isSlope_15 : decode prog_1_method_18_code 15 = .ok (.goto 4, 3) := by decide +kernel
theorem d_TileForge_isSlope_18 : decode prog_1_method_18_code 18 = .ok (.iconst 0, 1) := by decide +kernel
theorem d_TileForge_isSlope_19 : decode prog_1_method_18_code 19 = .ok (.ireturn, 1) := by decide +kernel
def q_isSlope (cI : ClassId) (x : Int32) : Int32 → va_W → Prop := fun rr ww => rr = (if ¬ x < (-255) ∧ ¬ 255 < x then 1 else 0) ∧ ww = []
set_option maxHeartbeats 4000000 in
set_option maxRecDepth 100000 in
theorem c_isSlope (l : Launch) {D : va_G} {tys : List (ClassId × FieldType)} {cI : ClassId} (hcI : tys[0]? = some (cI, .int)) (x : Int32) : CsI l D vwCl tys y_TileForge_isSlope ws_TileForge_isSlope ({ frames := 0, cells := 0, slots := 0, locals := 0 } : Room) [.int x] [] (q_isSlope cI x) 0 0 := by
  intro sz
  refine Met.ofW (cc := prog_1_method_18_code) (maxL := 1) (ret := (some .boolean)) (by decide) rfl ?_
  intro p e s m args below meth c s₁ B hml hv
  obtain ⟨rfl, hsz, hP, hK, hD0, hN⟩ := hv
  have hx := B.exec
  have hb := B.bytes
  have hr := B.returns
  have hts := atoms_spec (ws := ws_TileForge_isSlope) B.pre
  have hown : s.vm.findClass "TileForge" = some m.cls := findClass_of_methodNamed B.named
  have hlocks := B.notSynchronized
  subst hsz
  have hD := hD0.self (sz := s.heap.size)
  generalize hAe : va_A [] s.heap.size = A at hD ⊢
  have hA : ∀ q : Nat, s.heap.size ≤ q → A q := fun q h => by rw [← hAe]; exact Or.inr h
  have hS : va_S A s.heap s.heap [] := va_S.rf
  have hP : va_P D vwCl [] s.heap := hP
  have hl := lv_entry ([.int x]) (n := 1) (Nat.le_of_ble_eq_true rfl)
  rw [lg_entry_eq]
  generalize (lg_sl ([.int x]) ++ List.replicate (1 - (lg_sl ([.int x])).length) Slot.unset).toArray = ls at hl ⊢
  have hl : lv_has ls 1 [(0, .int x)] := hl
  refine lv_iload_n hx hb d_TileForge_isSlope_0 rfl (lv_at hl 0 rfl) ?_
  refine lv_sipush (v := (-255)) hx hb d_TileForge_isSlope_1 (by decide) ?_
  refine lv_icmp_lt (tgt := 18) hx hb d_TileForge_isSlope_4 (by decide) (fun c_4 => ?_) (fun c_4 => ?_)
  · refine lv_iconst (v := 0) hx hb d_TileForge_isSlope_18 (by decide) ?_
    exact W.zret (v := 0) hx hb hr (rfl) (fun t ht hW => ⟨⟨0, [], rfl, ⟨(by simp [c_4]), (rfl)⟩, by rw [ht]; exact hP, va_K.moved hW.alike hK, hD⟩, hS.F ht⟩) hS.2.2 d_TileForge_isSlope_19
  · refine lv_iload_n hx hb d_TileForge_isSlope_7 rfl (lv_at hl 0 rfl) ?_
    refine lv_sipush (v := 255) hx hb d_TileForge_isSlope_8 (by decide) ?_
    refine lv_icmp_gt (tgt := 18) hx hb d_TileForge_isSlope_11 (by decide) (fun c_11 => ?_) (fun c_11 => ?_)
    · refine lv_iconst (v := 0) hx hb d_TileForge_isSlope_18 (by decide) ?_
      exact W.zret (v := 0) hx hb hr (rfl) (fun t ht hW => ⟨⟨0, [], rfl, ⟨(by simp [c_4, c_11]), (rfl)⟩, by rw [ht]; exact hP, va_K.moved hW.alike hK, hD⟩, hS.F ht⟩) hS.2.2 d_TileForge_isSlope_19
    · refine lv_iconst (v := 1) hx hb d_TileForge_isSlope_14 (by decide) ?_
      refine lv_goto (tgt := 19) hx hb d_TileForge_isSlope_15 (by decide) ?_
      exact W.zret (v := 1) hx hb hr (rfl) (fun t ht hW => ⟨⟨1, [], rfl, ⟨(by simp [c_4, c_11]), (rfl)⟩, by rw [ht]; exact hP, va_K.moved hW.alike hK, hD⟩, hS.F ht⟩) hS.2.2 d_TileForge_isSlope_19
def y_TileForge_isCoarseness : MethodName := ⟨"TileForge", "isCoarseness", "(I)Z"⟩
def ws_TileForge_isCoarseness : List Cond := .code y_TileForge_isCoarseness prog_1_method_19_code 1 (some .boolean) :: GW
theorem mw_76 : (.code ⟨"TileForge", "isCoarseness", "(I)Z"⟩ prog_1_method_19_code 1 (some .boolean) : Cond) ∈ GW := List.mem_filter.mpr ⟨(List.mem_append_right _ (List.mem_append_right _ (List.mem_append_left _ (List.mem_of_getElem? (i := 147) rfl)))), rfl⟩
theorem hd_TileForge_isCoarseness : y_TileForge_isCoarseness.cls ≠ "java/lang/invoke/MethodHandle" ∧ y_TileForge_isCoarseness.cls ≠ "java/lang/invoke/VarHandle" ∧ (parseMethodDescriptor y_TileForge_isCoarseness.desc).map (fun d => d.parameters.length) = some 1 := by decide +kernel
theorem d_TileForge_isCoarseness_0 : decode prog_1_method_19_code 0 = .ok (.iload_n 0, 1) := by decide +kernel
theorem d_TileForge_isCoarseness_1 : decode prog_1_method_19_code 1 = .ok (.ifCond .lt 12, 3) := by decide +kernel
theorem d_TileForge_isCoarseness_4 : decode prog_1_method_19_code 4 = .ok (.iload_n 0, 1) := by decide +kernel
theorem d_TileForge_isCoarseness_5 : decode prog_1_method_19_code 5 = .ok (.iconst 5, 1) := by decide +kernel
theorem d_TileForge_isCoarseness_6 : decode prog_1_method_19_code 6 = .ok (.if_icmp .gt 7, 3) := by decide +kernel
theorem d_TileForge_isCoarseness_9 : decode prog_1_method_19_code 9 = .ok (.iconst 1, 1) := by decide +kernel
theorem d_TileForge_isCoarseness_10 : decode prog_1_method_19_code 10 = .ok (.goto 4, 3) := by decide +kernel
theorem d_TileForge_isCoarseness_13 : decode prog_1_method_19_code 13 = .ok (.iconst 0, 1) := by decide +kernel
theorem d_TileForge_isCoarseness_14 : decode prog_1_method_19_code 14 = .ok (.ireturn, 1) := by decide +kernel
def q_isCoarseness (cI : ClassId) (x : Int32) : Int32 → va_W → Prop := fun rr ww => rr = (if ¬ x < 0 ∧ ¬ 5 < x then 1 else 0) ∧ ww = []
set_option maxHeartbeats 4000000 in
set_option maxRecDepth 100000 in
theorem c_isCoarseness (l : Launch) {D : va_G} {tys : List (ClassId × FieldType)} {cI : ClassId} (hcI : tys[0]? = some (cI, .int)) (x : Int32) : CsI l D vwCl tys y_TileForge_isCoarseness ws_TileForge_isCoarseness ({ frames := 0, cells := 0, slots := 0, locals := 0 } : Room) [.int x] [] (q_isCoarseness cI x) 0 0 := by
  intro sz
  refine Met.ofW (cc := prog_1_method_19_code) (maxL := 1) (ret := (some .boolean)) (by decide) rfl ?_
  intro p e s m args below meth c s₁ B hml hv
  obtain ⟨rfl, hsz, hP, hK, hD0, hN⟩ := hv
  have hx := B.exec
  have hb := B.bytes
  have hr := B.returns
  have hts := atoms_spec (ws := ws_TileForge_isCoarseness) B.pre
  have hown : s.vm.findClass "TileForge" = some m.cls := findClass_of_methodNamed B.named
  have hlocks := B.notSynchronized
  subst hsz
  have hD := hD0.self (sz := s.heap.size)
  generalize hAe : va_A [] s.heap.size = A at hD ⊢
  have hA : ∀ q : Nat, s.heap.size ≤ q → A q := fun q h => by rw [← hAe]; exact Or.inr h
  have hS : va_S A s.heap s.heap [] := va_S.rf
  have hP : va_P D vwCl [] s.heap := hP
  have hl := lv_entry ([.int x]) (n := 1) (Nat.le_of_ble_eq_true rfl)
  rw [lg_entry_eq]
  generalize (lg_sl ([.int x]) ++ List.replicate (1 - (lg_sl ([.int x])).length) Slot.unset).toArray = ls at hl ⊢
  have hl : lv_has ls 1 [(0, .int x)] := hl
  refine lv_iload_n hx hb d_TileForge_isCoarseness_0 rfl (lv_at hl 0 rfl) ?_
  refine lv_if_lt (tgt := 13) hx hb d_TileForge_isCoarseness_1 (by decide) (fun c_1 => ?_) (fun c_1 => ?_)
  · refine lv_iconst (v := 0) hx hb d_TileForge_isCoarseness_13 (by decide) ?_
    exact W.zret (v := 0) hx hb hr (rfl) (fun t ht hW => ⟨⟨0, [], rfl, ⟨(by simp [c_1]), (rfl)⟩, by rw [ht]; exact hP, va_K.moved hW.alike hK, hD⟩, hS.F ht⟩) hS.2.2 d_TileForge_isCoarseness_14
  · refine lv_iload_n hx hb d_TileForge_isCoarseness_4 rfl (lv_at hl 0 rfl) ?_
    refine lv_iconst (v := 5) hx hb d_TileForge_isCoarseness_5 (by decide) ?_
    refine lv_icmp_gt (tgt := 13) hx hb d_TileForge_isCoarseness_6 (by decide) (fun c_6 => ?_) (fun c_6 => ?_)
    · refine lv_iconst (v := 0) hx hb d_TileForge_isCoarseness_13 (by decide) ?_
      exact W.zret (v := 0) hx hb hr (rfl) (fun t ht hW => ⟨⟨0, [], rfl, ⟨(by simp [c_1, c_6]), (rfl)⟩, by rw [ht]; exact hP, va_K.moved hW.alike hK, hD⟩, hS.F ht⟩) hS.2.2 d_TileForge_isCoarseness_14
    · refine lv_iconst (v := 1) hx hb d_TileForge_isCoarseness_9 (by decide) ?_
      refine lv_goto (tgt := 14) hx hb d_TileForge_isCoarseness_10 (by decide) ?_
      exact W.zret (v := 1) hx hb hr (rfl) (fun t ht hW => ⟨⟨1, [], rfl, ⟨(by simp [c_1, c_6]), (rfl)⟩, by rw [ht]; exact hP, va_K.moved hW.alike hK, hD⟩, hS.F ht⟩) hS.2.2 d_TileForge_isCoarseness_14
def y_TileForge_isChoice : MethodName := ⟨"TileForge", "isChoice", "(I)Z"⟩
def ws_TileForge_isChoice : List Cond := .code y_TileForge_isChoice prog_1_method_20_code 1 (some .boolean) :: GW
theorem mw_77 : (.code ⟨"TileForge", "isChoice", "(I)Z"⟩ prog_1_method_20_code 1 (some .boolean) : Cond) ∈ GW := List.mem_filter.mpr ⟨(List.mem_append_right _ (List.mem_append_right _ (List.mem_append_right _ (List.mem_append_left _ (List.mem_of_getElem? (i := 159) rfl))))), rfl⟩
theorem hd_TileForge_isChoice : y_TileForge_isChoice.cls ≠ "java/lang/invoke/MethodHandle" ∧ y_TileForge_isChoice.cls ≠ "java/lang/invoke/VarHandle" ∧ (parseMethodDescriptor y_TileForge_isChoice.desc).map (fun d => d.parameters.length) = some 1 := by decide +kernel
theorem d_TileForge_isChoice_0 : decode prog_1_method_20_code 0 = .ok (.iload_n 0, 1) := by decide +kernel
theorem d_TileForge_isChoice_1 : decode prog_1_method_20_code 1 = .ok (.ifCond .lt 12, 3) := by decide +kernel
theorem d_TileForge_isChoice_4 : decode prog_1_method_20_code 4 = .ok (.iload_n 0, 1) := by decide +kernel
theorem d_TileForge_isChoice_5 : decode prog_1_method_20_code 5 = .ok (.iconst 2, 1) := by decide +kernel
theorem d_TileForge_isChoice_6 : decode prog_1_method_20_code 6 = .ok (.if_icmp .gt 7, 3) := by decide +kernel
theorem d_TileForge_isChoice_9 : decode prog_1_method_20_code 9 = .ok (.iconst 1, 1) := by decide +kernel
theorem d_TileForge_isChoice_10 : decode prog_1_method_20_code 10 = .ok (.goto 4, 3) := by decide +kernel
theorem d_TileForge_isChoice_13 : decode prog_1_method_20_code 13 = .ok (.iconst 0, 1) := by decide +kernel
theorem d_TileForge_isChoice_14 : decode prog_1_method_20_code 14 = .ok (.ireturn, 1) := by decide +kernel
def q_isChoice (cI : ClassId) (x : Int32) : Int32 → va_W → Prop := fun rr ww => rr = (if ¬ x < 0 ∧ ¬ 2 < x then 1 else 0) ∧ ww = []
set_option maxHeartbeats 4000000 in
set_option maxRecDepth 100000 in
theorem c_isChoice (l : Launch) {D : va_G} {tys : List (ClassId × FieldType)} {cI : ClassId} (hcI : tys[0]? = some (cI, .int)) (x : Int32) : CsI l D vwCl tys y_TileForge_isChoice ws_TileForge_isChoice ({ frames := 0, cells := 0, slots := 0, locals := 0 } : Room) [.int x] [] (q_isChoice cI x) 0 0 := by
  intro sz
  refine Met.ofW (cc := prog_1_method_20_code) (maxL := 1) (ret := (some .boolean)) (by decide) rfl ?_
  intro p e s m args below meth c s₁ B hml hv
  obtain ⟨rfl, hsz, hP, hK, hD0, hN⟩ := hv
  have hx := B.exec
  have hb := B.bytes
  have hr := B.returns
  have hts := atoms_spec (ws := ws_TileForge_isChoice) B.pre
  have hown : s.vm.findClass "TileForge" = some m.cls := findClass_of_methodNamed B.named
  have hlocks := B.notSynchronized
  subst hsz
  have hD := hD0.self (sz := s.heap.size)
  generalize hAe : va_A [] s.heap.size = A at hD ⊢
  have hA : ∀ q : Nat, s.heap.size ≤ q → A q := fun q h => by rw [← hAe]; exact Or.inr h
  have hS : va_S A s.heap s.heap [] := va_S.rf
  have hP : va_P D vwCl [] s.heap := hP
  have hl := lv_entry ([.int x]) (n := 1) (Nat.le_of_ble_eq_true rfl)
  rw [lg_entry_eq]
  generalize (lg_sl ([.int x]) ++ List.replicate (1 - (lg_sl ([.int x])).length) Slot.unset).toArray = ls at hl ⊢
  have hl : lv_has ls 1 [(0, .int x)] := hl
  refine lv_iload_n hx hb d_TileForge_isChoice_0 rfl (lv_at hl 0 rfl) ?_
  refine lv_if_lt (tgt := 13) hx hb d_TileForge_isChoice_1 (by decide) (fun c_1 => ?_) (fun c_1 => ?_)
  · refine lv_iconst (v := 0) hx hb d_TileForge_isChoice_13 (by decide) ?_
    exact W.zret (v := 0) hx hb hr (rfl) (fun t ht hW => ⟨⟨0, [], rfl, ⟨(by simp [c_1]), (rfl)⟩, by rw [ht]; exact hP, va_K.moved hW.alike hK, hD⟩, hS.F ht⟩) hS.2.2 d_TileForge_isChoice_14
  · refine lv_iload_n hx hb d_TileForge_isChoice_4 rfl (lv_at hl 0 rfl) ?_
    refine lv_iconst (v := 2) hx hb d_TileForge_isChoice_5 (by decide) ?_
    refine lv_icmp_gt (tgt := 13) hx hb d_TileForge_isChoice_6 (by decide) (fun c_6 => ?_) (fun c_6 => ?_)
    · refine lv_iconst (v := 0) hx hb d_TileForge_isChoice_13 (by decide) ?_
      exact W.zret (v := 0) hx hb hr (rfl) (fun t ht hW => ⟨⟨0, [], rfl, ⟨(by simp [c_1, c_6]), (rfl)⟩, by rw [ht]; exact hP, va_K.moved hW.alike hK, hD⟩, hS.F ht⟩) hS.2.2 d_TileForge_isChoice_14
    · refine lv_iconst (v := 1) hx hb d_TileForge_isChoice_9 (by decide) ?_
      refine lv_goto (tgt := 14) hx hb d_TileForge_isChoice_10 (by decide) ?_
      exact W.zret (v := 1) hx hb hr (rfl) (fun t ht hW => ⟨⟨1, [], rfl, ⟨(by simp [c_1, c_6]), (rfl)⟩, by rw [ht]; exact hP, va_K.moved hW.alike hK, hD⟩, hS.F ht⟩) hS.2.2 d_TileForge_isChoice_14
def y_TileForge_clipped : MethodName := ⟨"TileForge", "clipped", "(I)I"⟩
def ws_TileForge_clipped : List Cond := .code y_TileForge_clipped prog_1_method_21_code 1 (some .int) :: GW
theorem mw_78 : (.code ⟨"TileForge", "clipped", "(I)I"⟩ prog_1_method_21_code 1 (some .int) : Cond) ∈ GW := List.mem_filter.mpr ⟨(List.mem_append_right _ (List.mem_append_right _ (List.mem_append_left _ (List.mem_of_getElem? (i := 136) rfl)))), rfl⟩
theorem hd_TileForge_clipped : y_TileForge_clipped.cls ≠ "java/lang/invoke/MethodHandle" ∧ y_TileForge_clipped.cls ≠ "java/lang/invoke/VarHandle" ∧ (parseMethodDescriptor y_TileForge_clipped.desc).map (fun d => d.parameters.length) = some 1 := by decide +kernel
theorem d_TileForge_clipped_0 : decode prog_1_method_21_code 0 = .ok (.iload_n 0, 1) := by decide +kernel
theorem d_TileForge_clipped_1 : decode prog_1_method_21_code 1 = .ok (.ifCond .ge 5, 3) := by decide +kernel
theorem d_TileForge_clipped_4 : decode prog_1_method_21_code 4 = .ok (.iconst 0, 1) := by decide +kernel
theorem d_TileForge_clipped_5 : decode prog_1_method_21_code 5 = .ok (.ireturn, 1) := by decide +kernel
theorem d_TileForge_clipped_6 : decode prog_1_method_21_code 6 = .ok (.iload_n 0, 1) := by decide +kernel
theorem d_TileForge_clipped_7 : decode prog_1_method_21_code 7 = .ok (.sipush 255, 3) := by decide +kernel
theorem d_TileForge_clipped_10 : decode prog_1_method_21_code 10 = .ok (.if_icmp .le 9, 3) := by decide +kernel
theorem d_TileForge_clipped_13 : decode prog_1_method_21_code 13 = .ok (.sipush 255, 3) := by decide +kernel
theorem d_TileForge_clipped_16 : decode prog_1_method_21_code 16 = .ok (.goto 4, 3) := by decide +kernel
theorem d_TileForge_clipped_19 : decode prog_1_method_21_code 19 = .ok (.iload_n 0, 1) := by decide +kernel
theorem d_TileForge_clipped_20 : decode prog_1_method_21_code 20 = .ok (.ireturn, 1) := by decide +kernel
def q_clipped (cI : ClassId) (x : Int32) : Int32 → va_W → Prop := fun rr ww => rr = (clip x) ∧ ww = []
set_option maxHeartbeats 4000000 in
set_option maxRecDepth 100000 in
theorem c_clipped (l : Launch) {D : va_G} {tys : List (ClassId × FieldType)} {cI : ClassId} (hcI : tys[0]? = some (cI, .int)) (x : Int32) : CsI l D vwCl tys y_TileForge_clipped ws_TileForge_clipped ({ frames := 0, cells := 0, slots := 0, locals := 0 } : Room) [.int x] [] (q_clipped cI x) 0 0 := by
  intro sz
  refine Met.ofW (cc := prog_1_method_21_code) (maxL := 1) (ret := (some .int)) (by decide) rfl ?_
  intro p e s m args below meth c s₁ B hml hv
  obtain ⟨rfl, hsz, hP, hK, hD0, hN⟩ := hv
  have hx := B.exec
  have hb := B.bytes
  have hr := B.returns
  have hts := atoms_spec (ws := ws_TileForge_clipped) B.pre
  have hown : s.vm.findClass "TileForge" = some m.cls := findClass_of_methodNamed B.named
  have hlocks := B.notSynchronized
  subst hsz
  have hD := hD0.self (sz := s.heap.size)
  generalize hAe : va_A [] s.heap.size = A at hD ⊢
  have hA : ∀ q : Nat, s.heap.size ≤ q → A q := fun q h => by rw [← hAe]; exact Or.inr h
  have hS : va_S A s.heap s.heap [] := va_S.rf
  have hP : va_P D vwCl [] s.heap := hP
  have hl := lv_entry ([.int x]) (n := 1) (Nat.le_of_ble_eq_true rfl)
  rw [lg_entry_eq]
  generalize (lg_sl ([.int x]) ++ List.replicate (1 - (lg_sl ([.int x])).length) Slot.unset).toArray = ls at hl ⊢
  have hl : lv_has ls 1 [(0, .int x)] := hl
  refine lv_iload_n hx hb d_TileForge_clipped_0 rfl (lv_at hl 0 rfl) ?_
  refine lv_if_ge (tgt := 6) hx hb d_TileForge_clipped_1 (by decide) (fun c_1 => ?_) (fun c_1 => ?_)
  · refine lv_iload_n hx hb d_TileForge_clipped_6 rfl (lv_at hl 0 rfl) ?_
    refine lv_sipush (v := 255) hx hb d_TileForge_clipped_7 (by decide) ?_
    refine lv_icmp_le (tgt := 19) hx hb d_TileForge_clipped_10 (by decide) (fun c_10 => ?_) (fun c_10 => ?_)
    · refine lv_iload_n hx hb d_TileForge_clipped_19 rfl (lv_at hl 0 rfl) ?_
      exact W.iret (v := x) hx hb hr (fun t ht hW => ⟨⟨x, [], rfl, ⟨(by simp [c_1, c_10, clip]), (rfl)⟩, by rw [ht]; exact hP, va_K.moved hW.alike hK, hD⟩, hS.F ht⟩) hS.2.2 d_TileForge_clipped_20
    · refine lv_sipush (v := 255) hx hb d_TileForge_clipped_13 (by decide) ?_
      refine lv_goto (tgt := 20) hx hb d_TileForge_clipped_16 (by decide) ?_
      exact W.iret (v := 255) hx hb hr (fun t ht hW => ⟨⟨255, [], rfl, ⟨(by simp [c_1, c_10, clip]), (rfl)⟩, by rw [ht]; exact hP, va_K.moved hW.alike hK, hD⟩, hS.F ht⟩) hS.2.2 d_TileForge_clipped_20
  · refine lv_iconst (v := 0) hx hb d_TileForge_clipped_4 (by decide) ?_
    exact W.iret (v := 0) hx hb hr (fun t ht hW => ⟨⟨0, [], rfl, ⟨(by simp [c_1, clip]), (rfl)⟩, by rw [ht]; exact hP, va_K.moved hW.alike hK, hD⟩, hS.F ht⟩) hS.2.2 d_TileForge_clipped_5
