def y_Model_in : MethodName := ⟨"TileForgeModel", "in", "(III)Z"⟩
def ws_Model_in : List Cond := .code y_Model_in prog_11_method_3_code 3 (some .boolean) :: GW
theorem mw_341 : (.code ⟨"TileForgeModel", "in", "(III)Z"⟩ prog_11_method_3_code 3 (some .boolean) : Cond) ∈ GW := List.mem_filter.mpr ⟨(List.mem_append_right _ (List.mem_append_right _ (List.mem_append_right _ (List.mem_append_right _ (List.mem_of_getElem? (i := 65) rfl))))), rfl⟩
theorem hd_Model_in : y_Model_in.cls ≠ "java/lang/invoke/MethodHandle" ∧ y_Model_in.cls ≠ "java/lang/invoke/VarHandle" ∧ (parseMethodDescriptor y_Model_in.desc).map (fun d => d.parameters.length) = some 3 := by decide +kernel
theorem d_Model_in_0 : decode prog_11_method_3_code 0 = .ok (.iload_n 0, 1) := by decide +kernel
theorem d_Model_in_1 : decode prog_11_method_3_code 1 = .ok (.iload_n 1, 1) := by decide +kernel
theorem d_Model_in_2 : decode prog_11_method_3_code 2 = .ok (.if_icmp .lt 12, 3) := by decide +kernel
theorem d_Model_in_5 : decode prog_11_method_3_code 5 = .ok (.iload_n 0, 1) := by decide +kernel
theorem d_Model_in_6 : decode prog_11_method_3_code 6 = .ok (.iload_n 2, 1) := by decide +kernel
theorem d_Model_in_7 : decode prog_11_method_3_code 7 = .ok (.if_icmp .gt 7, 3) := by decide +kernel
theorem d_Model_in_10 : decode prog_11_method_3_code 10 = .ok (.iconst 1, 1) := by decide +kernel
theorem d_Model_in_11 : decode prog_11_method_3_code 11 = .ok (.goto 4, 3) := by decide +kernel
theorem d_Model_in_14 : decode prog_11_method_3_code 14 = .ok (.iconst 0, 1) := by decide +kernel
theorem d_Model_in_15 : decode prog_11_method_3_code 15 = .ok (.ireturn, 1) := by decide +kernel
def q_mo_in (cI : ClassId) (v : Int32) (lo : Int32) (hi : Int32) : Int32 → va_W → Prop := fun rr ww => rr = (if ¬ v < lo ∧ ¬ hi < v then 1 else 0) ∧ ww = []
set_option maxHeartbeats 4000000 in
set_option maxRecDepth 100000 in
theorem c_mo_in (l : Launch) {D : va_G} {tys : List (ClassId × FieldType)} {cI : ClassId} (hcI : tys[0]? = some (cI, .int)) (v : Int32) (lo : Int32) (hi : Int32) : CsI l D vwCl tys y_Model_in ws_Model_in ({ frames := 0, cells := 0, slots := 0, locals := 0 } : Room) [.int v, .int lo, .int hi] [] (q_mo_in cI v lo hi) 0 0 := by
  intro sz
  refine Met.ofW (cc := prog_11_method_3_code) (maxL := 3) (ret := (some .boolean)) (by decide) rfl ?_
  intro p e s m args below meth c s₁ B hml hv
  obtain ⟨rfl, hsz, hP, hK, hD0, hN⟩ := hv
  have hx := B.exec
  have hb := B.bytes
  have hr := B.returns
  have hts := atoms_spec (ws := ws_Model_in) B.pre
  have hown : s.vm.findClass "TileForgeModel" = some m.cls := findClass_of_methodNamed B.named
  have hlocks := B.notSynchronized
  subst hsz
  have hD := hD0.self (sz := s.heap.size)
  generalize hAe : va_A [] s.heap.size = A at hD ⊢
  have hA : ∀ q : Nat, s.heap.size ≤ q → A q := fun q h => by rw [← hAe]; exact Or.inr h
  have hS : va_S A s.heap s.heap [] := va_S.rf
  have hP : va_P D vwCl [] s.heap := hP
  have hl := lv_entry ([.int v, .int lo, .int hi]) (n := 3) (Nat.le_of_ble_eq_true rfl)
  rw [lg_entry_eq]
  generalize (lg_sl ([.int v, .int lo, .int hi]) ++ List.replicate (3 - (lg_sl ([.int v, .int lo, .int hi])).length) Slot.unset).toArray = ls at hl ⊢
  have hl : lv_has ls 3 [(0, .int v), (1, .int lo), (2, .int hi)] := hl
  refine lv_iload_n hx hb d_Model_in_0 rfl (lv_at hl 0 rfl) ?_
  refine lv_iload_n hx hb d_Model_in_1 rfl (lv_at hl 1 rfl) ?_
  refine lv_icmp_lt (tgt := 14) hx hb d_Model_in_2 (by decide) (fun c_2 => ?_) (fun c_2 => ?_)
  · refine lv_iconst (v := 0) hx hb d_Model_in_14 (by decide) ?_
    exact W.zret (v := 0) hx hb hr (rfl) (fun t ht hW => ⟨⟨0, [], rfl, ⟨(by simp [c_2]), (rfl)⟩, by rw [ht]; exact hP, va_K.moved hW.alike hK, hD⟩, hS.F ht⟩) hS.2.2 d_Model_in_15
  · refine lv_iload_n hx hb d_Model_in_5 rfl (lv_at hl 0 rfl) ?_
    refine lv_iload_n hx hb d_Model_in_6 rfl (lv_at hl 2 rfl) ?_
    refine lv_icmp_gt (tgt := 14) hx hb d_Model_in_7 (by decide) (fun c_7 => ?_) (fun c_7 => ?_)
    · refine lv_iconst (v := 0) hx hb d_Model_in_14 (by decide) ?_
      exact W.zret (v := 0) hx hb hr (rfl) (fun t ht hW => ⟨⟨0, [], rfl, ⟨(by simp [c_2, c_7]), (rfl)⟩, by rw [ht]; exact hP, va_K.moved hW.alike hK, hD⟩, hS.F ht⟩) hS.2.2 d_Model_in_15
    · refine lv_iconst (v := 1) hx hb d_Model_in_10 (by decide) ?_
      refine lv_goto (tgt := 15) hx hb d_Model_in_11 (by decide) ?_
      exact W.zret (v := 1) hx hb hr (rfl) (fun t ht hW => ⟨⟨1, [], rfl, ⟨(by simp [c_2, c_7]), (rfl)⟩, by rw [ht]; exact hP, va_K.moved hW.alike hK, hD⟩, hS.F ht⟩) hS.2.2 d_Model_in_15
def y_Model_fail : MethodName := ⟨"TileForgeModel", "fail", "(I)I"⟩
def ws_Model_fail : List Cond := .code y_Model_fail prog_11_method_4_code 2 (some .int) :: GW
theorem mw_342 : (.code ⟨"TileForgeModel", "fail", "(I)I"⟩ prog_11_method_4_code 2 (some .int) : Cond) ∈ GW := List.mem_filter.mpr ⟨(List.mem_append_right _ (List.mem_append_right _ (List.mem_append_right _ (List.mem_append_right _ (List.mem_of_getElem? (i := 58) rfl))))), rfl⟩
theorem hd_Model_fail : y_Model_fail.cls ≠ "java/lang/invoke/MethodHandle" ∧ y_Model_fail.cls ≠ "java/lang/invoke/VarHandle" ∧ (parseMethodDescriptor y_Model_fail.desc).map (fun d => d.parameters.length) = some 1 := by decide +kernel
theorem d_Model_fail_0 : decode prog_11_method_4_code 0 = .ok (.aload_n 0, 1) := by decide +kernel
theorem d_Model_fail_1 : decode prog_11_method_4_code 1 = .ok (.iload_n 1, 1) := by decide +kernel
theorem d_Model_fail_2 : decode prog_11_method_4_code 2 = .ok (.putfield 56, 3) := by decide +kernel
theorem d_Model_fail_5 : decode prog_11_method_4_code 5 = .ok (.iconst 0, 1) := by decide +kernel
theorem d_Model_fail_6 : decode prog_11_method_4_code 6 = .ok (.ireturn, 1) := by decide +kernel
theorem mw_343 : (.fieldLink "TileForgeModel" 56 "TileForgeModel" "thrown" "I" : Cond) ∈ GW := List.mem_filter.mpr ⟨(List.mem_append_right _ (List.mem_append_right _ (List.mem_append_right _ (List.mem_append_left _ (List.mem_of_getElem? (i := 214) rfl))))), rfl⟩
def q_mo_fail (cI : ClassId) (g0 : Nat) (g1 : Nat) (g2 : Nat) (g3 : Nat) (g4 : Nat) (g5 : Nat) (g6 : Nat) (g7 : Nat) (g8 : Nat) (g9 : Nat) (g10 : Nat) (g11 : Nat) (g12 : Nat) (g13 : Nat) (g14 : Nat) (g15 : Nat) (isz : Int32) (ith : Int32) (ico : Int32) (icl : Int32) (irw : Int32) (ibi : Int32) (ien : Int32) (itr : Int32) (ibl : Int32) (ile : Int32) (igr : Int32) (ibk : Int32) (ist : Int32) (ibr : Int32) (v : Int32) : Int32 → va_W → Prop := fun rr ww => rr = (0) ∧ ww = [(g0, .inr (9, [.ref g1, .ref g2, .ref g3, .ref g4, .ref g5, .ref g6, .ref g7, .ref g8, .ref g9, .ref g10, .ref g11, .ref g12, .ref g13, .ref g14, .ref g15, .int isz, .int v, .int ico, .int icl, .int irw, .int ibi, .int ien, .int itr, .int ibl, .int ile, .int igr, .int ibk, .int ist, .int ibr]))]
set_option maxHeartbeats 4000000 in
set_option maxRecDepth 100000 in
theorem c_mo_fail (l : Launch) {D : va_G} {tys : List (ClassId × FieldType)} {cI : ClassId} (hcI : tys[0]? = some (cI, .int)) (g0 : Nat) (g1 : Nat) (g2 : Nat) (g3 : Nat) (g4 : Nat) (g5 : Nat) (g6 : Nat) (g7 : Nat) (g8 : Nat) (g9 : Nat) (g10 : Nat) (g11 : Nat) (g12 : Nat) (g13 : Nat) (g14 : Nat) (g15 : Nat) (isz : Int32) (ith : Int32) (ico : Int32) (icl : Int32) (irw : Int32) (ibi : Int32) (ien : Int32) (itr : Int32) (ibl : Int32) (ile : Int32) (igr : Int32) (ibk : Int32) (ist : Int32) (ibr : Int32) (v : Int32) : CsI l D vwCl tys y_Model_fail ws_Model_fail ({ frames := 0, cells := 0, slots := 0, locals := 0 } : Room) [.ref g0, .int v] [(g0, .inr (9, [.ref g1, .ref g2, .ref g3, .ref g4, .ref g5, .ref g6, .ref g7, .ref g8, .ref g9, .ref g10, .ref g11, .ref g12, .ref g13, .ref g14, .ref g15, .int isz, .int ith, .int ico, .int icl, .int irw, .int ibi, .int ien, .int itr, .int ibl, .int ile, .int igr, .int ibk, .int ist, .int ibr]))] (q_mo_fail cI g0 g1 g2 g3 g4 g5 g6 g7 g8 g9 g10 g11 g12 g13 g14 g15 isz ith ico icl irw ibi ien itr ibl ile igr ibk ist ibr v) 0 0 := by
  intro sz
  refine Met.ofW (cc := prog_11_method_4_code) (maxL := 2) (ret := (some .int)) (by decide) rfl ?_
  intro p e s m args below meth c s₁ B hml hv
  obtain ⟨rfl, hsz, hP, hK, hD0, hN⟩ := hv
  have hx := B.exec
  have hb := B.bytes
  have hr := B.returns
  have hts := atoms_spec (ws := ws_Model_fail) B.pre
  have hown : s.vm.findClass "TileForgeModel" = some m.cls := findClass_of_methodNamed B.named
  have hlocks := B.notSynchronized
  subst hsz
  have hD := hD0.self (sz := s.heap.size)
  generalize hAe : va_A [(g0, .inr (9, [.ref g1, .ref g2, .ref g3, .ref g4, .ref g5, .ref g6, .ref g7, .ref g8, .ref g9, .ref g10, .ref g11, .ref g12, .ref g13, .ref g14, .ref g15, .int isz, .int ith, .int ico, .int icl, .int irw, .int ibi, .int ien, .int itr, .int ibl, .int ile, .int igr, .int ibk, .int ist, .int ibr]))] s.heap.size = A at hD ⊢
  have hA : ∀ q : Nat, s.heap.size ≤ q → A q := fun q h => by rw [← hAe]; exact Or.inr h
  have hS : va_S A s.heap s.heap [] := va_S.rf
  have hP : va_P D vwCl [(g0, .inr (9, [.ref g1, .ref g2, .ref g3, .ref g4, .ref g5, .ref g6, .ref g7, .ref g8, .ref g9, .ref g10, .ref g11, .ref g12, .ref g13, .ref g14, .ref g15, .int isz, .int ith, .int ico, .int icl, .int irw, .int ibi, .int ien, .int itr, .int ibl, .int ile, .int igr, .int ibk, .int ist, .int ibr]))] s.heap := hP
  have hl := lv_entry ([.ref g0, .int v]) (n := 2) (Nat.le_of_ble_eq_true rfl)
  rw [lg_entry_eq]
  generalize (lg_sl ([.ref g0, .int v]) ++ List.replicate (2 - (lg_sl ([.ref g0, .int v])).length) Slot.unset).toArray = ls at hl ⊢
  have hl : lv_has ls 2 [(0, .ref g0), (1, .int v)] := hl
  refine lv_aload_n hx hb d_Model_fail_0 rfl (lv_at hl 0 rfl) ?_
  refine lv_iload_n hx hb d_Model_fail_1 rfl (lv_at hl 1 rfl) ?_
  refine va_put (D := D) (ci := 9) (v := .int v) (ty := .int) (C := "TileForgeModel") (T := T_Model) (N := 29) hx hb hts (cs_in in_Model) ty_Model tok_Model nm_Model hown hK hP hD hS 0 rfl rfl 16 (by decide) (hts _ (cs_m mw_343)) (fun _ h9 => h9) rfl (by decide +kernel) rfl rfl (Nat.le_of_ble_eq_true rfl) d_Model_fail_2 (fun H locs hP hD hS => ?_)
  have hP : va_P D vwCl [(g0, .inr (9, [.ref g1, .ref g2, .ref g3, .ref g4, .ref g5, .ref g6, .ref g7, .ref g8, .ref g9, .ref g10, .ref g11, .ref g12, .ref g13, .ref g14, .ref g15, .int isz, .int v, .int ico, .int icl, .int irw, .int ibi, .int ien, .int itr, .int ibl, .int ile, .int igr, .int ibk, .int ist, .int ibr]))] H := hP
  have hD : va_D A [(g0, .inr (9, [.ref g1, .ref g2, .ref g3, .ref g4, .ref g5, .ref g6, .ref g7, .ref g8, .ref g9, .ref g10, .ref g11, .ref g12, .ref g13, .ref g14, .ref g15, .int isz, .int v, .int ico, .int icl, .int irw, .int ibi, .int ien, .int itr, .int ibl, .int ile, .int igr, .int ibk, .int ist, .int ibr]))] := hD
  refine lv_iconst (v := 0) hx hb d_Model_fail_5 (by decide) ?_
  exact W.iret (v := 0) hx hb hr (fun t ht hW => ⟨⟨0, [(g0, .inr (9, [.ref g1, .ref g2, .ref g3, .ref g4, .ref g5, .ref g6, .ref g7, .ref g8, .ref g9, .ref g10, .ref g11, .ref g12, .ref g13, .ref g14, .ref g15, .int isz, .int v, .int ico, .int icl, .int irw, .int ibi, .int ien, .int itr, .int ibl, .int ile, .int igr, .int ibk, .int ist, .int ibr]))], rfl, ⟨(rfl), (rfl)⟩, by rw [ht]; exact hP, va_K.moved hW.alike hK, hD⟩, hS.F ht⟩) hS.2.2 d_Model_fail_6
def y_Model_thrown : MethodName := ⟨"TileForgeModel", "thrown", "()I"⟩
def ws_Model_thrown : List Cond := .code y_Model_thrown prog_11_method_2_code 1 (some .int) :: GW
theorem mw_344 : (.code ⟨"TileForgeModel", "thrown", "()I"⟩ prog_11_method_2_code 1 (some .int) : Cond) ∈ GW := List.mem_filter.mpr ⟨(List.mem_append_right _ (List.mem_append_right _ (List.mem_append_right _ (List.mem_append_right _ (List.mem_of_getElem? (i := 50) rfl))))), rfl⟩
theorem hd_Model_thrown : y_Model_thrown.cls ≠ "java/lang/invoke/MethodHandle" ∧ y_Model_thrown.cls ≠ "java/lang/invoke/VarHandle" ∧ (parseMethodDescriptor y_Model_thrown.desc).map (fun d => d.parameters.length) = some 0 := by decide +kernel
theorem d_Model_thrown_0 : decode prog_11_method_2_code 0 = .ok (.aload_n 0, 1) := by decide +kernel
theorem d_Model_thrown_1 : decode prog_11_method_2_code 1 = .ok (.getfield 56, 3) := by decide +kernel
theorem d_Model_thrown_4 : decode prog_11_method_2_code 4 = .ok (.ireturn, 1) := by decide +kernel
def q_mo_thrown (cI : ClassId) (g0 : Nat) (g1 : Nat) (g2 : Nat) (g3 : Nat) (g4 : Nat) (g5 : Nat) (g6 : Nat) (g7 : Nat) (g8 : Nat) (g9 : Nat) (g10 : Nat) (g11 : Nat) (g12 : Nat) (g13 : Nat) (g14 : Nat) (g15 : Nat) (isz : Int32) (ith : Int32) (ico : Int32) (icl : Int32) (irw : Int32) (ibi : Int32) (ien : Int32) (itr : Int32) (ibl : Int32) (ile : Int32) (igr : Int32) (ibk : Int32) (ist : Int32) (ibr : Int32) : Int32 → va_W → Prop := fun rr ww => rr = (ith) ∧ ww = [(g0, .inr (9, [.ref g1, .ref g2, .ref g3, .ref g4, .ref g5, .ref g6, .ref g7, .ref g8, .ref g9, .ref g10, .ref g11, .ref g12, .ref g13, .ref g14, .ref g15, .int isz, .int ith, .int ico, .int icl, .int irw, .int ibi, .int ien, .int itr, .int ibl, .int ile, .int igr, .int ibk, .int ist, .int ibr]))]
set_option maxHeartbeats 4000000 in
set_option maxRecDepth 100000 in
theorem c_mo_thrown (l : Launch) {D : va_G} {tys : List (ClassId × FieldType)} {cI : ClassId} (hcI : tys[0]? = some (cI, .int)) (g0 : Nat) (g1 : Nat) (g2 : Nat) (g3 : Nat) (g4 : Nat) (g5 : Nat) (g6 : Nat) (g7 : Nat) (g8 : Nat) (g9 : Nat) (g10 : Nat) (g11 : Nat) (g12 : Nat) (g13 : Nat) (g14 : Nat) (g15 : Nat) (isz : Int32) (ith : Int32) (ico : Int32) (icl : Int32) (irw : Int32) (ibi : Int32) (ien : Int32) (itr : Int32) (ibl : Int32) (ile : Int32) (igr : Int32) (ibk : Int32) (ist : Int32) (ibr : Int32) : CsI l D vwCl tys y_Model_thrown ws_Model_thrown ({ frames := 0, cells := 0, slots := 0, locals := 0 } : Room) [.ref g0] [(g0, .inr (9, [.ref g1, .ref g2, .ref g3, .ref g4, .ref g5, .ref g6, .ref g7, .ref g8, .ref g9, .ref g10, .ref g11, .ref g12, .ref g13, .ref g14, .ref g15, .int isz, .int ith, .int ico, .int icl, .int irw, .int ibi, .int ien, .int itr, .int ibl, .int ile, .int igr, .int ibk, .int ist, .int ibr]))] (q_mo_thrown cI g0 g1 g2 g3 g4 g5 g6 g7 g8 g9 g10 g11 g12 g13 g14 g15 isz ith ico icl irw ibi ien itr ibl ile igr ibk ist ibr) 0 0 := by
  intro sz
  refine Met.ofW (cc := prog_11_method_2_code) (maxL := 1) (ret := (some .int)) (by decide) rfl ?_
  intro p e s m args below meth c s₁ B hml hv
  obtain ⟨rfl, hsz, hP, hK, hD0, hN⟩ := hv
  have hx := B.exec
  have hb := B.bytes
  have hr := B.returns
  have hts := atoms_spec (ws := ws_Model_thrown) B.pre
  have hown : s.vm.findClass "TileForgeModel" = some m.cls := findClass_of_methodNamed B.named
  have hlocks := B.notSynchronized
  subst hsz
  have hD := hD0.self (sz := s.heap.size)
  generalize hAe : va_A [(g0, .inr (9, [.ref g1, .ref g2, .ref g3, .ref g4, .ref g5, .ref g6, .ref g7, .ref g8, .ref g9, .ref g10, .ref g11, .ref g12, .ref g13, .ref g14, .ref g15, .int isz, .int ith, .int ico, .int icl, .int irw, .int ibi, .int ien, .int itr, .int ibl, .int ile, .int igr, .int ibk, .int ist, .int ibr]))] s.heap.size = A at hD ⊢
  have hA : ∀ q : Nat, s.heap.size ≤ q → A q := fun q h => by rw [← hAe]; exact Or.inr h
  have hS : va_S A s.heap s.heap [] := va_S.rf
  have hP : va_P D vwCl [(g0, .inr (9, [.ref g1, .ref g2, .ref g3, .ref g4, .ref g5, .ref g6, .ref g7, .ref g8, .ref g9, .ref g10, .ref g11, .ref g12, .ref g13, .ref g14, .ref g15, .int isz, .int ith, .int ico, .int icl, .int irw, .int ibi, .int ien, .int itr, .int ibl, .int ile, .int igr, .int ibk, .int ist, .int ibr]))] s.heap := hP
  have hl := lv_entry ([.ref g0]) (n := 1) (Nat.le_of_ble_eq_true rfl)
  rw [lg_entry_eq]
  generalize (lg_sl ([.ref g0]) ++ List.replicate (1 - (lg_sl ([.ref g0])).length) Slot.unset).toArray = ls at hl ⊢
  have hl : lv_has ls 1 [(0, .ref g0)] := hl
  refine lv_aload_n hx hb d_Model_thrown_0 rfl (lv_at hl 0 rfl) ?_
  refine va_get (D := D) (ci := 9) (v := .int ith) (C := "TileForgeModel") (T := T_Model) (N := 29) hx hb hts (cs_in in_Model) hown hK hP 0 rfl rfl 16 (by decide) (hts _ (cs_m mw_343)) (fun _ h9 => h9) rfl d_Model_thrown_1 ?_
  exact W.iret (v := ith) hx hb hr (fun t ht hW => ⟨⟨ith, [(g0, .inr (9, [.ref g1, .ref g2, .ref g3, .ref g4, .ref g5, .ref g6, .ref g7, .ref g8, .ref g9, .ref g10, .ref g11, .ref g12, .ref g13, .ref g14, .ref g15, .int isz, .int ith, .int ico, .int icl, .int irw, .int ibi, .int ien, .int itr, .int ibl, .int ile, .int igr, .int ibk, .int ist, .int ibr]))], rfl, ⟨(rfl), (rfl)⟩, by rw [ht]; exact hP, va_K.moved hW.alike hK, hD⟩, hS.F ht⟩) hS.2.2 d_Model_thrown_4
def y_Model_clip : MethodName := ⟨"TileForgeModel", "clip", "(I)I"⟩
def ws_Model_clip : List Cond := .code y_Model_clip prog_11_method_5_code 1 (some .int) :: GW
theorem mw_345 : (.code ⟨"TileForgeModel", "clip", "(I)I"⟩ prog_11_method_5_code 1 (some .int) : Cond) ∈ GW := List.mem_filter.mpr ⟨(List.mem_append_right _ (List.mem_append_right _ (List.mem_append_right _ (List.mem_append_right _ (List.mem_of_getElem? (i := 79) rfl))))), rfl⟩
theorem hd_Model_clip : y_Model_clip.cls ≠ "java/lang/invoke/MethodHandle" ∧ y_Model_clip.cls ≠ "java/lang/invoke/VarHandle" ∧ (parseMethodDescriptor y_Model_clip.desc).map (fun d => d.parameters.length) = some 1 := by decide +kernel
theorem d_Model_clip_0 : decode prog_11_method_5_code 0 = .ok (.iload_n 0, 1) := by decide +kernel
theorem d_Model_clip_1 : decode prog_11_method_5_code 1 = .ok (.ifCond .ge 7, 3) := by decide +kernel
theorem d_Model_clip_4 : decode prog_11_method_5_code 4 = .ok (.iconst 0, 1) := by decide +kernel
theorem d_Model_clip_5 : decode prog_11_method_5_code 5 = .ok (.goto 17, 3) := by decide +kernel
theorem d_Model_clip_8 : decode prog_11_method_5_code 8 = .ok (.iload_n 0, 1) := by decide +kernel
theorem d_Model_clip_9 : decode prog_11_method_5_code 9 = .ok (.sipush 255, 3) := by decide +kernel
theorem d_Model_clip_12 : decode prog_11_method_5_code 12 = .ok (.if_icmp .le 9, 3) := by decide +kernel
theorem d_Model_clip_15 : decode prog_11_method_5_code 15 = .ok (.sipush 255, 3) := by decide +kernel
theorem d_Model_clip_18 : decode prog_11_method_5_code 18 = .ok (.goto 4, 3) := by decide +kernel
theorem d_Model_clip_21 : decode prog_11_method_5_code 21 = .ok (.iload_n 0, 1) := by decide +kernel
theorem d_Model_clip_22 : decode prog_11_method_5_code 22 = .ok (.ireturn, 1) := by decide +kernel
def q_mo_clip (cI : ClassId) (x : Int32) : Int32 → va_W → Prop := fun rr ww => rr = (clip x) ∧ ww = []
set_option maxHeartbeats 4000000 in
set_option maxRecDepth 100000 in
theorem c_mo_clip (l : Launch) {D : va_G} {tys : List (ClassId × FieldType)} {cI : ClassId} (hcI : tys[0]? = some (cI, .int)) (x : Int32) : CsI l D vwCl tys y_Model_clip ws_Model_clip ({ frames := 0, cells := 0, slots := 0, locals := 0 } : Room) [.int x] [] (q_mo_clip cI x) 0 0 := by
  intro sz
  refine Met.ofW (cc := prog_11_method_5_code) (maxL := 1) (ret := (some .int)) (by decide) rfl ?_
  intro p e s m args below meth c s₁ B hml hv
  obtain ⟨rfl, hsz, hP, hK, hD0, hN⟩ := hv
  have hx := B.exec
  have hb := B.bytes
  have hr := B.returns
  have hts := atoms_spec (ws := ws_Model_clip) B.pre
  have hown : s.vm.findClass "TileForgeModel" = some m.cls := findClass_of_methodNamed B.named
  have hlocks := B.notSynchronized
  subst hsz
  have hD := hD0.self (sz := s.heap.size)
  generalize hAe : va_A [] s.heap.size = A at hD ⊢
  have hA : ∀ q : Nat, s.heap.size ≤ q → A q := fun q h => by rw [← hAe]; exact Or.inr h
  have hS : va_S A s.heap s.heap [] := va_S.rf
  have hP : va_P D vwCl [] s.heap := hP
  have hl := lv_entry ([.int x]) (n := 1) (Nat.le_of_ble_eq_true rfl)
  rw [lg_entry_eq]
  generalize (lg_sl ([.int x]) ++ List.replicate (1 - (lg_sl ([.int x])).length) Slot.unset).toArray = ls at hl ⊢
  have hl : lv_has ls 1 [(0, .int x)] := hl
  refine lv_iload_n hx hb d_Model_clip_0 rfl (lv_at hl 0 rfl) ?_
  refine lv_if_ge (tgt := 8) hx hb d_Model_clip_1 (by decide) (fun c_1 => ?_) (fun c_1 => ?_)
  · refine lv_iload_n hx hb d_Model_clip_8 rfl (lv_at hl 0 rfl) ?_
    refine lv_sipush (v := 255) hx hb d_Model_clip_9 (by decide) ?_
    refine lv_icmp_le (tgt := 21) hx hb d_Model_clip_12 (by decide) (fun c_12 => ?_) (fun c_12 => ?_)
    · refine lv_iload_n hx hb d_Model_clip_21 rfl (lv_at hl 0 rfl) ?_
      exact W.iret (v := x) hx hb hr (fun t ht hW => ⟨⟨x, [], rfl, ⟨(by simp [c_1, c_12, clip]), (rfl)⟩, by rw [ht]; exact hP, va_K.moved hW.alike hK, hD⟩, hS.F ht⟩) hS.2.2 d_Model_clip_22
    · refine lv_sipush (v := 255) hx hb d_Model_clip_15 (by decide) ?_
      refine lv_goto (tgt := 22) hx hb d_Model_clip_18 (by decide) ?_
      exact W.iret (v := 255) hx hb hr (fun t ht hW => ⟨⟨255, [], rfl, ⟨(by simp [c_1, c_12, clip]), (rfl)⟩, by rw [ht]; exact hP, va_K.moved hW.alike hK, hD⟩, hS.F ht⟩) hS.2.2 d_Model_clip_22
  · refine lv_iconst (v := 0) hx hb d_Model_clip_4 (by decide) ?_
    refine lv_goto (tgt := 22) hx hb d_Model_clip_5 (by decide) ?_
    exact W.iret (v := 0) hx hb hr (fun t ht hW => ⟨⟨0, [], rfl, ⟨(by simp [c_1, clip]), (rfl)⟩, by rw [ht]; exact hP, va_K.moved hW.alike hK, hD⟩, hS.F ht⟩) hS.2.2 d_Model_clip_22
def y_Model_at : MethodName := ⟨"TileForgeModel", "at", "(III)I"⟩
def ws_Model_at : List Cond := .code y_Model_at prog_11_method_6_code 3 (some .int) :: GW
theorem mw_346 : (.code ⟨"TileForgeModel", "at", "(III)I"⟩ prog_11_method_6_code 3 (some .int) : Cond) ∈ GW := List.mem_filter.mpr ⟨(List.mem_append_right _ (List.mem_append_right _ (List.mem_append_right _ (List.mem_append_right _ (List.mem_of_getElem? (i := 72) rfl))))), rfl⟩
theorem hd_Model_at : y_Model_at.cls ≠ "java/lang/invoke/MethodHandle" ∧ y_Model_at.cls ≠ "java/lang/invoke/VarHandle" ∧ (parseMethodDescriptor y_Model_at.desc).map (fun d => d.parameters.length) = some 3 := by decide +kernel
theorem d_Model_at_0 : decode prog_11_method_6_code 0 = .ok (.sipush 144, 3) := by decide +kernel
theorem d_Model_at_3 : decode prog_11_method_6_code 3 = .ok (.iload_n 0, 1) := by decide +kernel
theorem d_Model_at_4 : decode prog_11_method_6_code 4 = .ok (.imul, 1) := by decide +kernel
theorem d_Model_at_5 : decode prog_11_method_6_code 5 = .ok (.bipush 12, 2) := by decide +kernel
theorem d_Model_at_7 : decode prog_11_method_6_code 7 = .ok (.iload_n 2, 1) := by decide +kernel
theorem d_Model_at_8 : decode prog_11_method_6_code 8 = .ok (.imul, 1) := by decide +kernel
theorem d_Model_at_9 : decode prog_11_method_6_code 9 = .ok (.iadd, 1) := by decide +kernel
theorem d_Model_at_10 : decode prog_11_method_6_code 10 = .ok (.iload_n 1, 1) := by decide +kernel
theorem d_Model_at_11 : decode prog_11_method_6_code 11 = .ok (.iadd, 1) := by decide +kernel
theorem d_Model_at_12 : decode prog_11_method_6_code 12 = .ok (.ireturn, 1) := by decide +kernel
def q_mo_at (cI : ClassId) (o : Nat) (x : Nat) (y : Nat) : Int32 → va_W → Prop := fun rr ww => rr = (nI (144 * o + 12 * y + x)) ∧ ww = []
set_option maxHeartbeats 4000000 in
set_option maxRecDepth 100000 in
theorem c_mo_at (l : Launch) {D : va_G} {tys : List (ClassId × FieldType)} {cI : ClassId} (hcI : tys[0]? = some (cI, .int)) (o : Nat) (x : Nat) (y : Nat) : CsI l D vwCl tys y_Model_at ws_Model_at ({ frames := 0, cells := 0, slots := 0, locals := 0 } : Room) [.int (nI o), .int (nI x), .int (nI y)] [] (q_mo_at cI o x y) 0 0 := by
  intro sz
  refine Met.ofW (cc := prog_11_method_6_code) (maxL := 3) (ret := (some .int)) (by decide) rfl ?_
  intro p e s m args below meth c s₁ B hml hv
  obtain ⟨rfl, hsz, hP, hK, hD0, hN⟩ := hv
  have hx := B.exec
  have hb := B.bytes
  have hr := B.returns
  have hts := atoms_spec (ws := ws_Model_at) B.pre
  have hown : s.vm.findClass "TileForgeModel" = some m.cls := findClass_of_methodNamed B.named
  have hlocks := B.notSynchronized
  subst hsz
  have hD := hD0.self (sz := s.heap.size)
  generalize hAe : va_A [] s.heap.size = A at hD ⊢
  have hA : ∀ q : Nat, s.heap.size ≤ q → A q := fun q h => by rw [← hAe]; exact Or.inr h
  have hS : va_S A s.heap s.heap [] := va_S.rf
  have hP : va_P D vwCl [] s.heap := hP
  have hl := lv_entry ([.int (nI o), .int (nI x), .int (nI y)]) (n := 3) (Nat.le_of_ble_eq_true rfl)
  rw [lg_entry_eq]
  generalize (lg_sl ([.int (nI o), .int (nI x), .int (nI y)]) ++ List.replicate (3 - (lg_sl ([.int (nI o), .int (nI x), .int (nI y)])).length) Slot.unset).toArray = ls at hl ⊢
  have hl : lv_has ls 3 [(0, .int (nI o)), (1, .int (nI x)), (2, .int (nI y))] := hl
  refine lv_sipush (v := 144) hx hb d_Model_at_0 (by decide) ?_
  refine lv_iload_n hx hb d_Model_at_3 rfl (lv_at hl 0 rfl) ?_
  refine lv_imul hx hb d_Model_at_4 ?_
  refine lv_bipush (v := 12) hx hb d_Model_at_5 (by decide) ?_
  refine lv_iload_n hx hb d_Model_at_7 rfl (lv_at hl 2 rfl) ?_
  refine lv_imul hx hb d_Model_at_8 ?_
  refine lv_iadd hx hb d_Model_at_9 ?_
  refine lv_iload_n hx hb d_Model_at_10 rfl (lv_at hl 1 rfl) ?_
  refine lv_iadd hx hb d_Model_at_11 ?_
  refine cs_top (y := nI (144 * o + 12 * y + x)) (cs_at o x y) ?_
  exact W.iret (v := (nI (144 * o + 12 * y + x))) hx hb hr (fun t ht hW => ⟨⟨(nI (144 * o + 12 * y + x)), [], rfl, ⟨(rfl), (rfl)⟩, by rw [ht]; exact hP, va_K.moved hW.alike hK, hD⟩, hS.F ht⟩) hS.2.2 d_Model_at_12
def y_Model_isIn : MethodName := ⟨"TileForgeModel", "isIn", "(III)Z"⟩
def ws_Model_isIn : List Cond := .code y_Model_isIn prog_11_method_8_code 4 (some .boolean) :: GW
theorem mw_347 : (.code ⟨"TileForgeModel", "isIn", "(III)Z"⟩ prog_11_method_8_code 4 (some .boolean) : Cond) ∈ GW := List.mem_filter.mpr ⟨(List.mem_append_right _ (List.mem_append_right _ (List.mem_append_right _ (List.mem_append_right _ (List.mem_of_getElem? (i := 69) rfl))))), rfl⟩
theorem hd_Model_isIn : y_Model_isIn.cls ≠ "java/lang/invoke/MethodHandle" ∧ y_Model_isIn.cls ≠ "java/lang/invoke/VarHandle" ∧ (parseMethodDescriptor y_Model_isIn.desc).map (fun d => d.parameters.length) = some 3 := by decide +kernel
theorem d_Model_isIn_0 : decode prog_11_method_8_code 0 = .ok (.iload_n 2, 1) := by decide +kernel
theorem d_Model_isIn_1 : decode prog_11_method_8_code 1 = .ok (.iconst 0, 1) := by decide +kernel
theorem d_Model_isIn_2 : decode prog_11_method_8_code 2 = .ok (.aload_n 0, 1) := by decide +kernel
theorem d_Model_isIn_3 : decode prog_11_method_8_code 3 = .ok (.getfield 7, 3) := by decide +kernel
theorem d_Model_isIn_6 : decode prog_11_method_8_code 6 = .ok (.iload_n 1, 1) := by decide +kernel
theorem d_Model_isIn_7 : decode prog_11_method_8_code 7 = .ok (.iaload, 1) := by decide +kernel
theorem d_Model_isIn_8 : decode prog_11_method_8_code 8 = .ok (.iconst 1, 1) := by decide +kernel
theorem d_Model_isIn_9 : decode prog_11_method_8_code 9 = .ok (.isub, 1) := by decide +kernel
theorem d_Model_isIn_10 : decode prog_11_method_8_code 10 = .ok (.invokestatic 64, 3) := by decide +kernel
theorem d_Model_isIn_13 : decode prog_11_method_8_code 13 = .ok (.ifCond .eq 23, 3) := by decide +kernel
theorem d_Model_isIn_16 : decode prog_11_method_8_code 16 = .ok (.iload_n 3, 1) := by decide +kernel
theorem d_Model_isIn_17 : decode prog_11_method_8_code 17 = .ok (.iconst 0, 1) := by decide +kernel
theorem d_Model_isIn_18 : decode prog_11_method_8_code 18 = .ok (.aload_n 0, 1) := by decide +kernel
theorem d_Model_isIn_19 : decode prog_11_method_8_code 19 = .ok (.getfield 13, 3) := by decide +kernel
theorem d_Model_isIn_22 : decode prog_11_method_8_code 22 = .ok (.iload_n 1, 1) := by decide +kernel
theorem d_Model_isIn_23 : decode prog_11_method_8_code 23 = .ok (.iaload, 1) := by decide +kernel
theorem d_Model_isIn_24 : decode prog_11_method_8_code 24 = .ok (.iconst 1, 1) := by decide +kernel
theorem d_Model_isIn_25 : decode prog_11_method_8_code 25 = .ok (.isub, 1) := by decide +kernel
theorem d_Model_isIn_26 : decode prog_11_method_8_code 26 = .ok (.invokestatic 64, 3) := by decide +kernel
theorem d_Model_isIn_29 : decode prog_11_method_8_code 29 = .ok (.ifCond .eq 7, 3) := by decide +kernel
theorem d_Model_isIn_32 : decode prog_11_method_8_code 32 = .ok (.iconst 1, 1) := by decide +kernel
theorem d_Model_isIn_33 : decode prog_11_method_8_code 33 = .ok (.goto 4, 3) := by decide +kernel
theorem d_Model_isIn_36 : decode prog_11_method_8_code 36 = .ok (.iconst 0, 1) := by decide +kernel
theorem d_Model_isIn_37 : decode prog_11_method_8_code 37 = .ok (.ireturn, 1) := by decide +kernel
theorem mw_348 : (.fieldLink "TileForgeModel" 7 "TileForgeModel" "wide" "[I" : Cond) ∈ GW := List.mem_filter.mpr ⟨(List.mem_append_right _ (List.mem_append_right _ (List.mem_append_right _ (List.mem_append_left _ (List.mem_of_getElem? (i := 198) rfl))))), rfl⟩
theorem mw_349 : (.initialized "TileForgeModel" : Cond) ∈ GW := List.mem_filter.mpr ⟨(List.mem_append_right _ (List.mem_append_left _ (List.mem_of_getElem? (i := 10) rfl))), rfl⟩
theorem mw_350 : (.methodLink "TileForgeModel" 64 ⟨"TileForgeModel", "in", "(III)Z"⟩ : Cond) ∈ GW := List.mem_filter.mpr ⟨(List.mem_append_right _ (List.mem_append_right _ (List.mem_append_right _ (List.mem_append_right _ (List.mem_of_getElem? (i := 63) rfl))))), rfl⟩
theorem mw_351 : (.static ⟨"TileForgeModel", "in", "(III)Z"⟩ : Cond) ∈ GW := List.mem_filter.mpr ⟨(List.mem_append_right _ (List.mem_append_right _ (List.mem_append_right _ (List.mem_append_right _ (List.mem_of_getElem? (i := 64) rfl))))), rfl⟩
theorem mw_352 : (.fieldLink "TileForgeModel" 13 "TileForgeModel" "high" "[I" : Cond) ∈ GW := List.mem_filter.mpr ⟨(List.mem_append_right _ (List.mem_append_right _ (List.mem_append_right _ (List.mem_append_left _ (List.mem_of_getElem? (i := 199) rfl))))), rfl⟩
def q_mo_isIn (cI : ClassId) (g0 : Nat) (g1 : Nat) (g2 : Nat) (g3 : Nat) (g4 : Nat) (g5 : Nat) (g6 : Nat) (g7 : Nat) (g8 : Nat) (g9 : Nat) (g10 : Nat) (g11 : Nat) (g12 : Nat) (g13 : Nat) (g14 : Nat) (g15 : Nat) (isz : Int32) (ith : Int32) (ico : Int32) (icl : Int32) (irw : Int32) (ibi : Int32) (ien : Int32) (itr : Int32) (ibl : Int32) (ile : Int32) (igr : Int32) (ibk : Int32) (ist : Int32) (ibr : Int32) (wd : Nat → Int32) (hg : Nat → Int32) (o : Nat) (x : Int32) (y : Int32) : Int32 → va_W → Prop := fun rr ww => rr = (if (¬ x < 0 ∧ ¬ (wd o) - 1 < x) ∧ (¬ y < 0 ∧ ¬ (hg o) - 1 < y) then 1 else 0) ∧ ww = [(g0, .inr (9, [.ref g1, .ref g2, .ref g3, .ref g4, .ref g5, .ref g6, .ref g7, .ref g8, .ref g9, .ref g10, .ref g11, .ref g12, .ref g13, .ref g14, .ref g15, .int isz, .int ith, .int ico, .int icl, .int irw, .int ibi, .int ien, .int itr, .int ibl, .int ile, .int igr, .int ibk, .int ist, .int ibr])), (g1, .inl (cI, 4, .inl wd)), (g2, .inl (cI, 4, .inl hg))]
set_option maxHeartbeats 4000000 in
set_option maxRecDepth 100000 in
theorem c_mo_isIn (l : Launch) {D : va_G} {tys : List (ClassId × FieldType)} {cI : ClassId} (hcI : tys[0]? = some (cI, .int)) (g0 : Nat) (g1 : Nat) (g2 : Nat) (g3 : Nat) (g4 : Nat) (g5 : Nat) (g6 : Nat) (g7 : Nat) (g8 : Nat) (g9 : Nat) (g10 : Nat) (g11 : Nat) (g12 : Nat) (g13 : Nat) (g14 : Nat) (g15 : Nat) (isz : Int32) (ith : Int32) (ico : Int32) (icl : Int32) (irw : Int32) (ibi : Int32) (ien : Int32) (itr : Int32) (ibl : Int32) (ile : Int32) (igr : Int32) (ibk : Int32) (ist : Int32) (ibr : Int32) (wd : Nat → Int32) (hg : Nat → Int32) (o : Nat) (x : Int32) (y : Int32) (ho : o < 4) : CsI l D vwCl tys y_Model_isIn ws_Model_isIn ({ frames := 1, cells := 0, slots := 0, locals := 22 } : Room) [.ref g0, .int (nI o), .int x, .int y] [(g0, .inr (9, [.ref g1, .ref g2, .ref g3, .ref g4, .ref g5, .ref g6, .ref g7, .ref g8, .ref g9, .ref g10, .ref g11, .ref g12, .ref g13, .ref g14, .ref g15, .int isz, .int ith, .int ico, .int icl, .int irw, .int ibi, .int ien, .int itr, .int ibl, .int ile, .int igr, .int ibk, .int ist, .int ibr])), (g1, .inl (cI, 4, .inl wd)), (g2, .inl (cI, 4, .inl hg))] (q_mo_isIn cI g0 g1 g2 g3 g4 g5 g6 g7 g8 g9 g10 g11 g12 g13 g14 g15 isz ith ico icl irw ibi ien itr ibl ile igr ibk ist ibr wd hg o x y) 0 0 := by
  intro sz
  refine Met.ofW (cc := prog_11_method_8_code) (maxL := 4) (ret := (some .boolean)) (by decide) rfl ?_
  intro p e s m args below meth c s₁ B hml hv
  obtain ⟨rfl, hsz, hP, hK, hD0, hN⟩ := hv
  have hx := B.exec
  have hb := B.bytes
  have hr := B.returns
  have hts := atoms_spec (ws := ws_Model_isIn) B.pre
  have hown : s.vm.findClass "TileForgeModel" = some m.cls := findClass_of_methodNamed B.named
  have hlocks := B.notSynchronized
  subst hsz
  have hD := hD0.self (sz := s.heap.size)
  generalize hAe : va_A [(g0, .inr (9, [.ref g1, .ref g2, .ref g3, .ref g4, .ref g5, .ref g6, .ref g7, .ref g8, .ref g9, .ref g10, .ref g11, .ref g12, .ref g13, .ref g14, .ref g15, .int isz, .int ith, .int ico, .int icl, .int irw, .int ibi, .int ien, .int itr, .int ibl, .int ile, .int igr, .int ibk, .int ist, .int ibr])), (g1, .inl (cI, 4, .inl wd)), (g2, .inl (cI, 4, .inl hg))] s.heap.size = A at hD ⊢
  have hA : ∀ q : Nat, s.heap.size ≤ q → A q := fun q h => by rw [← hAe]; exact Or.inr h
  have hS : va_S A s.heap s.heap [] := va_S.rf
  have hP : va_P D vwCl [(g0, .inr (9, [.ref g1, .ref g2, .ref g3, .ref g4, .ref g5, .ref g6, .ref g7, .ref g8, .ref g9, .ref g10, .ref g11, .ref g12, .ref g13, .ref g14, .ref g15, .int isz, .int ith, .int ico, .int icl, .int irw, .int ibi, .int ien, .int itr, .int ibl, .int ile, .int igr, .int ibk, .int ist, .int ibr])), (g1, .inl (cI, 4, .inl wd)), (g2, .inl (cI, 4, .inl hg))] s.heap := hP
  have hl := lv_entry ([.ref g0, .int (nI o), .int x, .int y]) (n := 4) (Nat.le_of_ble_eq_true rfl)
  rw [lg_entry_eq]
  generalize (lg_sl ([.ref g0, .int (nI o), .int x, .int y]) ++ List.replicate (4 - (lg_sl ([.ref g0, .int (nI o), .int x, .int y])).length) Slot.unset).toArray = ls at hl ⊢
  have hl : lv_has ls 4 [(0, .ref g0), (1, .int (nI o)), (2, .int x), (3, .int y)] := hl
  refine lv_iload_n hx hb d_Model_isIn_0 rfl (lv_at hl 2 rfl) ?_
  refine lv_iconst (v := 0) hx hb d_Model_isIn_1 (by decide) ?_
  refine lv_aload_n hx hb d_Model_isIn_2 rfl (lv_at hl 0 rfl) ?_
  refine va_get (D := D) (ci := 9) (v := .ref g1) (C := "TileForgeModel") (T := T_Model) (N := 29) hx hb hts (cs_in in_Model) hown hK hP 0 rfl rfl 0 (by decide) (hts _ (cs_m mw_348)) (fun _ h9 => h9) rfl d_Model_isIn_3 ?_
  refine lv_iload_n hx hb d_Model_isIn_6 rfl (lv_at hl 1 rfl) ?_
  refine cs_iald (j := o) hx hb hK hcI hP 1 rfl (rfl) (ho) (by decide) d_Model_isIn_7 ?_
  refine lv_iconst (v := 1) hx hb d_Model_isIn_8 (by decide) ?_
  refine lv_isub hx hb d_Model_isIn_9 ?_
  refine cs_Si (As := [.int x, .int 0, .int ((wd o) - 1)]) (rest := []) (wr := [(g0, .inr (9, [.ref g1, .ref g2, .ref g3, .ref g4, .ref g5, .ref g6, .ref g7, .ref g8, .ref g9, .ref g10, .ref g11, .ref g12, .ref g13, .ref g14, .ref g15, .int isz, .int ith, .int ico, .int icl, .int irw, .int ibi, .int ien, .int itr, .int ibl, .int ile, .int igr, .int ibk, .int ist, .int ibr])), (g1, .inl (cI, 4, .inl wd)), (g2, .inl (cI, 4, .inl hg))]) ⟨hx, hb, hml, hown, hts⟩ (c_mo_in l hcI x 0 ((wd o) - 1)) (va_cwS 3 hts (cs_gS mw_350 mw_351 mw_349 mw_341) rfl rfl rfl hd_Model_in ⟨Nat.le_of_ble_eq_true rfl, Nat.le_of_ble_eq_true rfl⟩) hN hK hP hD hS hA [] [0, 1, 2] rfl rfl rfl rfl (by decide) rfl rfl hl.1 (Nat.le_of_ble_eq_true rfl) d_Model_isIn_10 ⟨Nat.le_of_ble_eq_true rfl, Nat.le_of_ble_eq_true rfl⟩ (fun r1 w1 H locs hw hP hD hS => ?_)
  obtain ⟨rfl, rfl⟩ := hw
  have hP : va_P D vwCl [(g0, .inr (9, [.ref g1, .ref g2, .ref g3, .ref g4, .ref g5, .ref g6, .ref g7, .ref g8, .ref g9, .ref g10, .ref g11, .ref g12, .ref g13, .ref g14, .ref g15, .int isz, .int ith, .int ico, .int icl, .int irw, .int ibi, .int ien, .int itr, .int ibl, .int ile, .int igr, .int ibk, .int ist, .int ibr])), (g1, .inl (cI, 4, .inl wd)), (g2, .inl (cI, 4, .inl hg))] H := hP
  have hD : va_D A [(g0, .inr (9, [.ref g1, .ref g2, .ref g3, .ref g4, .ref g5, .ref g6, .ref g7, .ref g8, .ref g9, .ref g10, .ref g11, .ref g12, .ref g13, .ref g14, .ref g15, .int isz, .int ith, .int ico, .int icl, .int irw, .int ibi, .int ien, .int itr, .int ibl, .int ile, .int igr, .int ibk, .int ist, .int ibr])), (g1, .inl (cI, 4, .inl wd)), (g2, .inl (cI, 4, .inl hg))] := hD
  refine lv_if_eq (tgt := 36) hx hb d_Model_isIn_13 (by decide) (fun c_13 => ?_) (fun c_13 => ?_)
  · have c_13 := cs_b0 c_13
    refine lv_iconst (v := 0) hx hb d_Model_isIn_36 (by decide) ?_
    exact W.zret (v := 0) hx hb hr (rfl) (fun t ht hW => ⟨⟨0, [(g0, .inr (9, [.ref g1, .ref g2, .ref g3, .ref g4, .ref g5, .ref g6, .ref g7, .ref g8, .ref g9, .ref g10, .ref g11, .ref g12, .ref g13, .ref g14, .ref g15, .int isz, .int ith, .int ico, .int icl, .int irw, .int ibi, .int ien, .int itr, .int ibl, .int ile, .int igr, .int ibk, .int ist, .int ibr])), (g1, .inl (cI, 4, .inl wd)), (g2, .inl (cI, 4, .inl hg))], rfl, ⟨(by rw [if_neg (fun h => c_13 h.1)]), (rfl)⟩, by rw [ht]; exact hP, va_K.moved hW.alike hK, hD⟩, hS.F ht⟩) hS.2.2 d_Model_isIn_37
  · have c_13 := cs_b1 c_13
    refine lv_iload_n hx hb d_Model_isIn_16 rfl (lv_at hl 3 rfl) ?_
    refine lv_iconst (v := 0) hx hb d_Model_isIn_17 (by decide) ?_
    refine lv_aload_n hx hb d_Model_isIn_18 rfl (lv_at hl 0 rfl) ?_
    refine va_get (D := D) (ci := 9) (v := .ref g2) (C := "TileForgeModel") (T := T_Model) (N := 29) hx hb hts (cs_in in_Model) hown hK hP 0 rfl rfl 1 (by decide) (hts _ (cs_m mw_352)) (fun _ h9 => h9) rfl d_Model_isIn_19 ?_
    refine lv_iload_n hx hb d_Model_isIn_22 rfl (lv_at hl 1 rfl) ?_
    refine cs_iald (j := o) hx hb hK hcI hP 2 rfl (rfl) (ho) (by decide) d_Model_isIn_23 ?_
    refine lv_iconst (v := 1) hx hb d_Model_isIn_24 (by decide) ?_
    refine lv_isub hx hb d_Model_isIn_25 ?_
    refine cs_Si (As := [.int y, .int 0, .int ((hg o) - 1)]) (rest := []) (wr := [(g0, .inr (9, [.ref g1, .ref g2, .ref g3, .ref g4, .ref g5, .ref g6, .ref g7, .ref g8, .ref g9, .ref g10, .ref g11, .ref g12, .ref g13, .ref g14, .ref g15, .int isz, .int ith, .int ico, .int icl, .int irw, .int ibi, .int ien, .int itr, .int ibl, .int ile, .int igr, .int ibk, .int ist, .int ibr])), (g1, .inl (cI, 4, .inl wd)), (g2, .inl (cI, 4, .inl hg))]) ⟨hx, hb, hml, hown, hts⟩ (c_mo_in l hcI y 0 ((hg o) - 1)) (va_cwS 3 hts (cs_gS mw_350 mw_351 mw_349 mw_341) rfl rfl rfl hd_Model_in ⟨Nat.le_of_ble_eq_true rfl, Nat.le_of_ble_eq_true rfl⟩) hN hK hP hD hS hA [] [0, 1, 2] rfl rfl rfl rfl (by decide) rfl rfl hl.1 (Nat.le_of_ble_eq_true rfl) d_Model_isIn_26 ⟨Nat.le_of_ble_eq_true rfl, Nat.le_of_ble_eq_true rfl⟩ (fun r2 w1 H locs hw hP hD hS => ?_)
    obtain ⟨rfl, rfl⟩ := hw
    have hP : va_P D vwCl [(g0, .inr (9, [.ref g1, .ref g2, .ref g3, .ref g4, .ref g5, .ref g6, .ref g7, .ref g8, .ref g9, .ref g10, .ref g11, .ref g12, .ref g13, .ref g14, .ref g15, .int isz, .int ith, .int ico, .int icl, .int irw, .int ibi, .int ien, .int itr, .int ibl, .int ile, .int igr, .int ibk, .int ist, .int ibr])), (g1, .inl (cI, 4, .inl wd)), (g2, .inl (cI, 4, .inl hg))] H := hP
    have hD : va_D A [(g0, .inr (9, [.ref g1, .ref g2, .ref g3, .ref g4, .ref g5, .ref g6, .ref g7, .ref g8, .ref g9, .ref g10, .ref g11, .ref g12, .ref g13, .ref g14, .ref g15, .int isz, .int ith, .int ico, .int icl, .int irw, .int ibi, .int ien, .int itr, .int ibl, .int ile, .int igr, .int ibk, .int ist, .int ibr])), (g1, .inl (cI, 4, .inl wd)), (g2, .inl (cI, 4, .inl hg))] := hD
    refine lv_if_eq (tgt := 36) hx hb d_Model_isIn_29 (by decide) (fun c_29 => ?_) (fun c_29 => ?_)
    · have c_29 := cs_b0 c_29
      refine lv_iconst (v := 0) hx hb d_Model_isIn_36 (by decide) ?_
      exact W.zret (v := 0) hx hb hr (rfl) (fun t ht hW => ⟨⟨0, [(g0, .inr (9, [.ref g1, .ref g2, .ref g3, .ref g4, .ref g5, .ref g6, .ref g7, .ref g8, .ref g9, .ref g10, .ref g11, .ref g12, .ref g13, .ref g14, .ref g15, .int isz, .int ith, .int ico, .int icl, .int irw, .int ibi, .int ien, .int itr, .int ibl, .int ile, .int igr, .int ibk, .int ist, .int ibr])), (g1, .inl (cI, 4, .inl wd)), (g2, .inl (cI, 4, .inl hg))], rfl, ⟨(by rw [if_neg (fun h => c_29 h.2)]), (rfl)⟩, by rw [ht]; exact hP, va_K.moved hW.alike hK, hD⟩, hS.F ht⟩) hS.2.2 d_Model_isIn_37
    · have c_29 := cs_b1 c_29
      refine lv_iconst (v := 1) hx hb d_Model_isIn_32 (by decide) ?_
      refine lv_goto (tgt := 37) hx hb d_Model_isIn_33 (by decide) ?_
      exact W.zret (v := 1) hx hb hr (rfl) (fun t ht hW => ⟨⟨1, [(g0, .inr (9, [.ref g1, .ref g2, .ref g3, .ref g4, .ref g5, .ref g6, .ref g7, .ref g8, .ref g9, .ref g10, .ref g11, .ref g12, .ref g13, .ref g14, .ref g15, .int isz, .int ith, .int ico, .int icl, .int irw, .int ibi, .int ien, .int itr, .int ibl, .int ile, .int igr, .int ibk, .int ist, .int ibr])), (g1, .inl (cI, 4, .inl wd)), (g2, .inl (cI, 4, .inl hg))], rfl, ⟨(by rw [if_pos ⟨c_13, c_29⟩]), (rfl)⟩, by rw [ht]; exact hP, va_K.moved hW.alike hK, hD⟩, hS.F ht⟩) hS.2.2 d_Model_isIn_37
def y_Model_look : MethodName := ⟨"TileForgeModel", "look", "(II)V"⟩
def ws_Model_look : List Cond := .code y_Model_look prog_11_method_11_code 4 none :: GW
theorem mw_353 : (.code ⟨"TileForgeModel", "look", "(II)V"⟩ prog_11_method_11_code 4 none : Cond) ∈ GW := List.mem_filter.mpr ⟨(List.mem_append_right _ (List.mem_append_right _ (List.mem_append_right _ (List.mem_append_right _ (List.mem_of_getElem? (i := 99) rfl))))), rfl⟩
theorem hd_Model_look : y_Model_look.cls ≠ "java/lang/invoke/MethodHandle" ∧ y_Model_look.cls ≠ "java/lang/invoke/VarHandle" ∧ (parseMethodDescriptor y_Model_look.desc).map (fun d => d.parameters.length) = some 2 := by decide +kernel
theorem d_Model_look_0 : decode prog_11_method_11_code 0 = .ok (.iconst 0, 1) := by decide +kernel
theorem d_Model_look_1 : decode prog_11_method_11_code 1 = .ok (.istore_n 3, 1) := by decide +kernel
theorem d_Model_look_2 : decode prog_11_method_11_code 2 = .ok (.iload_n 3, 1) := by decide +kernel
theorem d_Model_look_3 : decode prog_11_method_11_code 3 = .ok (.iconst 4, 1) := by decide +kernel
theorem d_Model_look_4 : decode prog_11_method_11_code 4 = .ok (.if_icmp .ge 70, 3) := by decide +kernel
theorem d_Model_look_7 : decode prog_11_method_11_code 7 = .ok (.aload_n 0, 1) := by decide +kernel
theorem d_Model_look_8 : decode prog_11_method_11_code 8 = .ok (.getfield 34, 3) := by decide +kernel
theorem d_Model_look_11 : decode prog_11_method_11_code 11 = .ok (.iload_n 3, 1) := by decide +kernel
theorem d_Model_look_12 : decode prog_11_method_11_code 12 = .ok (.iload_n 2, 1) := by decide +kernel
theorem d_Model_look_13 : decode prog_11_method_11_code 13 = .ok (.ifCond .ne 8, 3) := by decide +kernel
theorem d_Model_look_16 : decode prog_11_method_11_code 16 = .ok (.bipush 127, 2) := by decide +kernel
theorem d_Model_look_18 : decode prog_11_method_11_code 18 = .ok (.goto 18, 3) := by decide +kernel
theorem d_Model_look_21 : decode prog_11_method_11_code 21 = .ok (.aload_n 0, 1) := by decide +kernel
theorem d_Model_look_22 : decode prog_11_method_11_code 22 = .ok (.getfield 16, 3) := by decide +kernel
theorem d_Model_look_25 : decode prog_11_method_11_code 25 = .ok (.iconst 3, 1) := by decide +kernel
theorem d_Model_look_26 : decode prog_11_method_11_code 26 = .ok (.iload_n 1, 1) := by decide +kernel
theorem d_Model_look_27 : decode prog_11_method_11_code 27 = .ok (.iload_n 3, 1) := by decide +kernel
theorem d_Model_look_28 : decode prog_11_method_11_code 28 = .ok (.iadd, 1) := by decide +kernel
theorem d_Model_look_29 : decode prog_11_method_11_code 29 = .ok (.iload_n 2, 1) := by decide +kernel
theorem d_Model_look_30 : decode prog_11_method_11_code 30 = .ok (.iconst 1, 1) := by decide +kernel
theorem d_Model_look_31 : decode prog_11_method_11_code 31 = .ok (.isub, 1) := by decide +kernel
theorem d_Model_look_32 : decode prog_11_method_11_code 32 = .ok (.invokestatic 71, 3) := by decide +kernel
theorem d_Model_look_35 : decode prog_11_method_11_code 35 = .ok (.iaload, 1) := by decide +kernel
theorem d_Model_look_36 : decode prog_11_method_11_code 36 = .ok (.iastore, 1) := by decide +kernel
theorem d_Model_look_37 : decode prog_11_method_11_code 37 = .ok (.aload_n 0, 1) := by decide +kernel
theorem d_Model_look_38 : decode prog_11_method_11_code 38 = .ok (.getfield 37, 3) := by decide +kernel
theorem d_Model_look_41 : decode prog_11_method_11_code 41 = .ok (.iload_n 3, 1) := by decide +kernel
theorem d_Model_look_42 : decode prog_11_method_11_code 42 = .ok (.iload_n 1, 1) := by decide +kernel
theorem d_Model_look_43 : decode prog_11_method_11_code 43 = .ok (.ifCond .ne 9, 3) := by decide +kernel
theorem d_Model_look_46 : decode prog_11_method_11_code 46 = .ok (.sipush 129, 3) := by decide +kernel
theorem d_Model_look_49 : decode prog_11_method_11_code 49 = .ok (.goto 18, 3) := by decide +kernel
theorem d_Model_look_52 : decode prog_11_method_11_code 52 = .ok (.aload_n 0, 1) := by decide +kernel
theorem d_Model_look_53 : decode prog_11_method_11_code 53 = .ok (.getfield 16, 3) := by decide +kernel
theorem d_Model_look_56 : decode prog_11_method_11_code 56 = .ok (.iconst 3, 1) := by decide +kernel
theorem d_Model_look_57 : decode prog_11_method_11_code 57 = .ok (.iload_n 1, 1) := by decide +kernel
theorem d_Model_look_58 : decode prog_11_method_11_code 58 = .ok (.iconst 1, 1) := by decide +kernel
theorem d_Model_look_59 : decode prog_11_method_11_code 59 = .ok (.isub, 1) := by decide +kernel
theorem d_Model_look_60 : decode prog_11_method_11_code 60 = .ok (.iload_n 2, 1) := by decide +kernel
theorem d_Model_look_61 : decode prog_11_method_11_code 61 = .ok (.iload_n 3, 1) := by decide +kernel
theorem d_Model_look_62 : decode prog_11_method_11_code 62 = .ok (.iadd, 1) := by decide +kernel
theorem d_Model_look_63 : decode prog_11_method_11_code 63 = .ok (.invokestatic 71, 3) := by decide +kernel
theorem d_Model_look_66 : decode prog_11_method_11_code 66 = .ok (.iaload, 1) := by decide +kernel
theorem d_Model_look_67 : decode prog_11_method_11_code 67 = .ok (.iastore, 1) := by decide +kernel
theorem d_Model_look_68 : decode prog_11_method_11_code 68 = .ok (.iinc 3 1, 3) := by decide +kernel
theorem d_Model_look_71 : decode prog_11_method_11_code 71 = .ok (.goto (-69), 3) := by decide +kernel
theorem d_Model_look_74 : decode prog_11_method_11_code 74 = .ok (.aload_n 0, 1) := by decide +kernel
theorem d_Model_look_75 : decode prog_11_method_11_code 75 = .ok (.iload_n 2, 1) := by decide +kernel
theorem d_Model_look_76 : decode prog_11_method_11_code 76 = .ok (.ifCond .ne 8, 3) := by decide +kernel
theorem d_Model_look_79 : decode prog_11_method_11_code 79 = .ok (.bipush 127, 2) := by decide +kernel
theorem d_Model_look_81 : decode prog_11_method_11_code 81 = .ok (.goto 28, 3) := by decide +kernel
theorem d_Model_look_84 : decode prog_11_method_11_code 84 = .ok (.iload_n 1, 1) := by decide +kernel
theorem d_Model_look_85 : decode prog_11_method_11_code 85 = .ok (.ifCond .ne 9, 3) := by decide +kernel
theorem d_Model_look_88 : decode prog_11_method_11_code 88 = .ok (.sipush 129, 3) := by decide +kernel
theorem d_Model_look_91 : decode prog_11_method_11_code 91 = .ok (.goto 18, 3) := by decide +kernel
theorem d_Model_look_94 : decode prog_11_method_11_code 94 = .ok (.aload_n 0, 1) := by decide +kernel
theorem d_Model_look_95 : decode prog_11_method_11_code 95 = .ok (.getfield 16, 3) := by decide +kernel
theorem d_Model_look_98 : decode prog_11_method_11_code 98 = .ok (.iconst 3, 1) := by decide +kernel
theorem d_Model_look_99 : decode prog_11_method_11_code 99 = .ok (.iload_n 1, 1) := by decide +kernel
theorem d_Model_look_100 : decode prog_11_method_11_code 100 = .ok (.iconst 1, 1) := by decide +kernel
theorem d_Model_look_101 : decode prog_11_method_11_code 101 = .ok (.isub, 1) := by decide +kernel
theorem d_Model_look_102 : decode prog_11_method_11_code 102 = .ok (.iload_n 2, 1) := by decide +kernel
theorem d_Model_look_103 : decode prog_11_method_11_code 103 = .ok (.iconst 1, 1) := by decide +kernel
theorem d_Model_look_104 : decode prog_11_method_11_code 104 = .ok (.isub, 1) := by decide +kernel
theorem d_Model_look_105 : decode prog_11_method_11_code 105 = .ok (.invokestatic 71, 3) := by decide +kernel
theorem d_Model_look_108 : decode prog_11_method_11_code 108 = .ok (.iaload, 1) := by decide +kernel
theorem d_Model_look_109 : decode prog_11_method_11_code 109 = .ok (.putfield 78, 3) := by decide +kernel
theorem d_Model_look_112 : decode prog_11_method_11_code 112 = .ok (.aload_n 0, 1) := by decide +kernel
theorem d_Model_look_113 : decode prog_11_method_11_code 113 = .ok (.iload_n 2, 1) := by decide +kernel
theorem d_Model_look_114 : decode prog_11_method_11_code 114 = .ok (.putfield 81, 3) := by decide +kernel
theorem d_Model_look_117 : decode prog_11_method_11_code 117 = .ok (.aload_n 0, 1) := by decide +kernel
theorem d_Model_look_118 : decode prog_11_method_11_code 118 = .ok (.iload_n 1, 1) := by decide +kernel
theorem d_Model_look_119 : decode prog_11_method_11_code 119 = .ok (.putfield 84, 3) := by decide +kernel
theorem d_Model_look_122 : decode prog_11_method_11_code 122 = .ok (.return_, 1) := by decide +kernel
theorem mw_354 : (.fieldLink "TileForgeModel" 16 "TileForgeModel" "pixel" "[I" : Cond) ∈ GW := List.mem_filter.mpr ⟨(List.mem_append_right _ (List.mem_append_right _ (List.mem_append_right _ (List.mem_append_left _ (List.mem_of_getElem? (i := 200) rfl))))), rfl⟩
theorem mw_355 : (.methodLink "TileForgeModel" 71 ⟨"TileForgeModel", "at", "(III)I"⟩ : Cond) ∈ GW := List.mem_filter.mpr ⟨(List.mem_append_right _ (List.mem_append_right _ (List.mem_append_right _ (List.mem_append_right _ (List.mem_of_getElem? (i := 70) rfl))))), rfl⟩
theorem mw_356 : (.static ⟨"TileForgeModel", "at", "(III)I"⟩ : Cond) ∈ GW := List.mem_filter.mpr ⟨(List.mem_append_right _ (List.mem_append_right _ (List.mem_append_right _ (List.mem_append_right _ (List.mem_of_getElem? (i := 71) rfl))))), rfl⟩
theorem mw_357 : (.fieldLink "TileForgeModel" 78 "TileForgeModel" "corner" "I" : Cond) ∈ GW := List.mem_filter.mpr ⟨(List.mem_append_right _ (List.mem_append_right _ (List.mem_append_right _ (List.mem_append_left _ (List.mem_of_getElem? (i := 215) rfl))))), rfl⟩
theorem mw_358 : (.fieldLink "TileForgeModel" 81 "TileForgeModel" "rows" "I" : Cond) ∈ GW := List.mem_filter.mpr ⟨(List.mem_append_right _ (List.mem_append_right _ (List.mem_append_right _ (List.mem_append_left _ (List.mem_of_getElem? (i := 217) rfl))))), rfl⟩
theorem mw_359 : (.fieldLink "TileForgeModel" 84 "TileForgeModel" "columns" "I" : Cond) ∈ GW := List.mem_filter.mpr ⟨(List.mem_append_right _ (List.mem_append_right _ (List.mem_append_right _ (List.mem_append_left _ (List.mem_of_getElem? (i := 216) rfl))))), rfl⟩
theorem mw_360 : (.fieldLink "TileForgeModel" 34 "TileForgeModel" "above" "[I" : Cond) ∈ GW := List.mem_filter.mpr ⟨(List.mem_append_right _ (List.mem_append_right _ (List.mem_append_right _ (List.mem_append_left _ (List.mem_of_getElem? (i := 206) rfl))))), rfl⟩
theorem mw_361 : (.fieldLink "TileForgeModel" 37 "TileForgeModel" "left" "[I" : Cond) ∈ GW := List.mem_filter.mpr ⟨(List.mem_append_right _ (List.mem_append_right _ (List.mem_append_right _ (List.mem_append_left _ (List.mem_of_getElem? (i := 207) rfl))))), rfl⟩
def q_mo_look (cI : ClassId) (g0 : Nat) (g1 : Nat) (g2 : Nat) (g3 : Nat) (g4 : Nat) (g5 : Nat) (g6 : Nat) (g7 : Nat) (g8 : Nat) (g9 : Nat) (g10 : Nat) (g11 : Nat) (g12 : Nat) (g13 : Nat) (g14 : Nat) (g15 : Nat) (isz : Int32) (ith : Int32) (ico : Int32) (icl : Int32) (irw : Int32) (ibi : Int32) (ien : Int32) (itr : Int32) (ibl : Int32) (ile : Int32) (igr : Int32) (ibk : Int32) (ist : Int32) (ibr : Int32) (pix : Nat → Int32) (ab : Nat → Int32) (lf : Nat → Int32) (x : Nat) (y : Nat) : va_W → Prop := fun ww => ∃ (ab' : Nat → Int32) (lf' : Nat → Int32), (∀ j, j < 4 → ab' j = abv (oP pix 3) x y j) ∧ (∀ j, j < 4 → lf' j = lft (oP pix 3) x y j) ∧ ww = [(g0, .inr (9, [.ref g1, .ref g2, .ref g3, .ref g4, .ref g5, .ref g6, .ref g7, .ref g8, .ref g9, .ref g10, .ref g11, .ref g12, .ref g13, .ref g14, .ref g15, .int isz, .int ith, .int (crn (oP pix 3) x y), .int (nI x), .int (nI y), .int ibi, .int ien, .int itr, .int ibl, .int ile, .int igr, .int ibk, .int ist, .int ibr])), (g3, .inl (cI, 576, .inl pix)), (g9, .inl (cI, 4, .inl ab')), (g10, .inl (cI, 4, .inl lf'))]
set_option maxHeartbeats 4000000 in
set_option maxRecDepth 100000 in
theorem c_mo_look (l : Launch) {D : va_G} {tys : List (ClassId × FieldType)} {cI : ClassId} (hcI : tys[0]? = some (cI, .int)) (g0 : Nat) (g1 : Nat) (g2 : Nat) (g3 : Nat) (g4 : Nat) (g5 : Nat) (g6 : Nat) (g7 : Nat) (g8 : Nat) (g9 : Nat) (g10 : Nat) (g11 : Nat) (g12 : Nat) (g13 : Nat) (g14 : Nat) (g15 : Nat) (isz : Int32) (ith : Int32) (ico : Int32) (icl : Int32) (irw : Int32) (ibi : Int32) (ien : Int32) (itr : Int32) (ibl : Int32) (ile : Int32) (igr : Int32) (ibk : Int32) (ist : Int32) (ibr : Int32) (pix : Nat → Int32) (ab : Nat → Int32) (lf : Nat → Int32) (x : Nat) (y : Nat) (hx4 : x + 4 ≤ 12) (hy4 : y + 4 ≤ 12) : CsV l D vwCl tys y_Model_look ws_Model_look ({ frames := 1, cells := 0, slots := 0, locals := 22 } : Room) [.ref g0, .int (nI x), .int (nI y)] [(g0, .inr (9, [.ref g1, .ref g2, .ref g3, .ref g4, .ref g5, .ref g6, .ref g7, .ref g8, .ref g9, .ref g10, .ref g11, .ref g12, .ref g13, .ref g14, .ref g15, .int isz, .int ith, .int ico, .int icl, .int irw, .int ibi, .int ien, .int itr, .int ibl, .int ile, .int igr, .int ibk, .int ist, .int ibr])), (g3, .inl (cI, 576, .inl pix)), (g9, .inl (cI, 4, .inl ab)), (g10, .inl (cI, 4, .inl lf))] (q_mo_look cI g0 g1 g2 g3 g4 g5 g6 g7 g8 g9 g10 g11 g12 g13 g14 g15 isz ith ico icl irw ibi ien itr ibl ile igr ibk ist ibr pix ab lf x y) 0 0 := by
  intro sz
  refine Met.ofW (cc := prog_11_method_11_code) (maxL := 4) (ret := none) (by decide) rfl ?_
  intro p e s m args below meth c s₁ B hml hv
  obtain ⟨rfl, hsz, hP, hK, hD0, hN⟩ := hv
  have hx := B.exec
  have hb := B.bytes
  have hr := B.returns
  have hts := atoms_spec (ws := ws_Model_look) B.pre
  have hown : s.vm.findClass "TileForgeModel" = some m.cls := findClass_of_methodNamed B.named
  have hlocks := B.notSynchronized
  subst hsz
  have hD := hD0.self (sz := s.heap.size)
  generalize hAe : va_A [(g0, .inr (9, [.ref g1, .ref g2, .ref g3, .ref g4, .ref g5, .ref g6, .ref g7, .ref g8, .ref g9, .ref g10, .ref g11, .ref g12, .ref g13, .ref g14, .ref g15, .int isz, .int ith, .int ico, .int icl, .int irw, .int ibi, .int ien, .int itr, .int ibl, .int ile, .int igr, .int ibk, .int ist, .int ibr])), (g3, .inl (cI, 576, .inl pix)), (g9, .inl (cI, 4, .inl ab)), (g10, .inl (cI, 4, .inl lf))] s.heap.size = A at hD ⊢
  have hA : ∀ q : Nat, s.heap.size ≤ q → A q := fun q h => by rw [← hAe]; exact Or.inr h
  have hS : va_S A s.heap s.heap [] := va_S.rf
  have hP : va_P D vwCl [(g0, .inr (9, [.ref g1, .ref g2, .ref g3, .ref g4, .ref g5, .ref g6, .ref g7, .ref g8, .ref g9, .ref g10, .ref g11, .ref g12, .ref g13, .ref g14, .ref g15, .int isz, .int ith, .int ico, .int icl, .int irw, .int ibi, .int ien, .int itr, .int ibl, .int ile, .int igr, .int ibk, .int ist, .int ibr])), (g3, .inl (cI, 576, .inl pix)), (g9, .inl (cI, 4, .inl ab)), (g10, .inl (cI, 4, .inl lf))] s.heap := hP
  have hl := lv_entry ([.ref g0, .int (nI x), .int (nI y)]) (n := 4) (Nat.le_of_ble_eq_true rfl)
  rw [lg_entry_eq]
  generalize (lg_sl ([.ref g0, .int (nI x), .int (nI y)]) ++ List.replicate (4 - (lg_sl ([.ref g0, .int (nI x), .int (nI y)])).length) Slot.unset).toArray = ls at hl ⊢
  have hl : lv_has ls 4 [(0, .ref g0), (1, .int (nI x)), (2, .int (nI y))] := hl
  refine lv_iconst (v := 0) hx hb d_Model_look_0 (by decide) ?_
  refine lv_istore_n (lv' := [(3, .int 0), (0, .ref g0), (1, .int (nI x)), (2, .int (nI y))]) hx hb d_Model_look_1 rfl hl (by decide) rfl (fun ls hl => ?_)
  have lp2 : ∀ (n : Nat) (k : Nat) (f : Nat → Int32) (g : Nat → Int32), (5 ≤ k + n) → (k ≤ 4) → (∀ j, j < k → f j = abv (oP pix 3) x y j) → (∀ j, j < k → g j = lft (oP pix 3) x y j) → ∀ (H : Heap) (locs : List Loc) (ls : Array Slot), va_P D vwCl [(g0, .inr (9, [.ref g1, .ref g2, .ref g3, .ref g4, .ref g5, .ref g6, .ref g7, .ref g8, .ref g9, .ref g10, .ref g11, .ref g12, .ref g13, .ref g14, .ref g15, .int isz, .int ith, .int ico, .int icl, .int irw, .int ibi, .int ien, .int itr, .int ibl, .int ile, .int igr, .int ibk, .int ist, .int ibr])), (g3, .inl (cI, 576, .inl pix)), (g9, .inl (cI, 4, .inl f)), (g10, .inl (cI, 4, .inl g))] H → va_D A [(g0, .inr (9, [.ref g1, .ref g2, .ref g3, .ref g4, .ref g5, .ref g6, .ref g7, .ref g8, .ref g9, .ref g10, .ref g11, .ref g12, .ref g13, .ref g14, .ref g15, .int isz, .int ith, .int ico, .int icl, .int irw, .int ibi, .int ien, .int itr, .int ibl, .int ile, .int igr, .int ibk, .int ist, .int ibr])), (g3, .inl (cI, 576, .inl pix)), (g9, .inl (cI, 4, .inl f)), (g10, .inl (cI, 4, .inl g))] → va_S A s.heap H locs → lv_has ls 4 [(0, .ref g0), (1, .int (nI x)), (2, .int (nI y)), (3, .int (nI k))] → W p l e ({ frames := 1, cells := 0, slots := 0, locals := 22 } : Room) s m ([.ref g0, .int (nI x), .int (nI y)] : List Value).toArray below meth c H locs 0 0 (MQ below (va_Qv (q_mo_look cI g0 g1 g2 g3 g4 g5 g6 g7 g8 g9 g10 g11 g12 g13 g14 g15 isz ith ico icl irw ibi ien itr ibl ile igr ibk ist ibr pix ab lf x y) (cs_B D vwCl tys A) A) ([.ref g0, .int (nI x), .int (nI y)] : List Value).toArray s 0 0 A) (F0 m 2 ls []) := by
    intro n
    induction n with
    | zero =>
      intro k f g hf hk h1 h2
      exact absurd hf (by omega)
    | succ n ih2 =>
      intro k f g hf hk h1 h2 H locs ls hP hD hS hl
      refine lv_iload_n hx hb d_Model_look_2 rfl (lv_at hl 3 rfl) ?_
      refine lv_iconst (v := 4) hx hb d_Model_look_3 (by decide) ?_
      refine lv_icmp_ge (tgt := 74) hx hb d_Model_look_4 (by decide) (fun c_4 => ?_) (fun c_4 => ?_)
      · have hk2 := (nI_leI (a := 4) (b := k) (by decide) (by omega)).mp c_4
        have hk3 : k = 4 := by omega
        subst hk3
        refine lv_aload_n hx hb d_Model_look_74 rfl (lv_at hl 0 rfl) ?_
        refine lv_iload_n hx hb d_Model_look_75 rfl (lv_at hl 2 rfl) ?_
        refine lv_if_ne (tgt := 84) hx hb d_Model_look_76 (by decide) (fun c_76 => ?_) (fun c_76 => ?_)
        · have hy0 : 0 < y := cs_nz1 c_76
          refine lv_iload_n hx hb d_Model_look_84 rfl (lv_at hl 1 rfl) ?_
          refine lv_if_ne (tgt := 94) hx hb d_Model_look_85 (by decide) (fun c_85 => ?_) (fun c_85 => ?_)
          · have hx0 : 0 < x := cs_nz1 c_85
            refine lv_aload_n hx hb d_Model_look_94 rfl (lv_at hl 0 rfl) ?_
            refine va_get (D := D) (ci := 9) (v := .ref g3) (C := "TileForgeModel") (T := T_Model) (N := 29) hx hb hts (cs_in in_Model) hown hK hP 0 rfl rfl 2 (by decide) (hts _ (cs_m mw_354)) (fun _ h9 => h9) rfl d_Model_look_95 ?_
            refine lv_iconst (v := 3) hx hb d_Model_look_98 (by decide) ?_
            refine lv_iload_n hx hb d_Model_look_99 rfl (lv_at hl 1 rfl) ?_
            refine lv_iconst (v := 1) hx hb d_Model_look_100 (by decide) ?_
            refine lv_isub hx hb d_Model_look_101 ?_
            refine cs_top (y := nI (x - 1)) (cs_pred hx0) ?_
            refine lv_iload_n hx hb d_Model_look_102 rfl (lv_at hl 2 rfl) ?_
            refine lv_iconst (v := 1) hx hb d_Model_look_103 (by decide) ?_
            refine lv_isub hx hb d_Model_look_104 ?_
            refine cs_top (y := nI (y - 1)) (cs_pred hy0) ?_
            refine cs_Si (As := [.int 3, .int (nI (x - 1)), .int (nI (y - 1))]) (rest := [.ref g3, .ref g0]) (wr := [(g0, .inr (9, [.ref g1, .ref g2, .ref g3, .ref g4, .ref g5, .ref g6, .ref g7, .ref g8, .ref g9, .ref g10, .ref g11, .ref g12, .ref g13, .ref g14, .ref g15, .int isz, .int ith, .int ico, .int icl, .int irw, .int ibi, .int ien, .int itr, .int ibl, .int ile, .int igr, .int ibk, .int ist, .int ibr])), (g3, .inl (cI, 576, .inl pix)), (g9, .inl (cI, 4, .inl f)), (g10, .inl (cI, 4, .inl g))]) ⟨hx, hb, hml, hown, hts⟩ (c_mo_at l hcI 3 (x - 1) (y - 1)) (va_cwS 3 hts (cs_gS mw_355 mw_356 mw_349 mw_346) rfl rfl rfl hd_Model_at ⟨Nat.le_of_ble_eq_true rfl, Nat.le_of_ble_eq_true rfl⟩) hN hK hP hD hS hA [] [0, 1, 2, 3] rfl rfl rfl rfl (by decide) rfl rfl hl.1 (Nat.le_of_ble_eq_true rfl) d_Model_look_105 ⟨Nat.le_of_ble_eq_true rfl, Nat.le_of_ble_eq_true rfl⟩ (fun r1 w1 H locs hw hP hD hS => ?_)
            obtain ⟨rfl, rfl⟩ := hw
            have hP : va_P D vwCl [(g0, .inr (9, [.ref g1, .ref g2, .ref g3, .ref g4, .ref g5, .ref g6, .ref g7, .ref g8, .ref g9, .ref g10, .ref g11, .ref g12, .ref g13, .ref g14, .ref g15, .int isz, .int ith, .int ico, .int icl, .int irw, .int ibi, .int ien, .int itr, .int ibl, .int ile, .int igr, .int ibk, .int ist, .int ibr])), (g3, .inl (cI, 576, .inl pix)), (g9, .inl (cI, 4, .inl f)), (g10, .inl (cI, 4, .inl g))] H := hP
            have hD : va_D A [(g0, .inr (9, [.ref g1, .ref g2, .ref g3, .ref g4, .ref g5, .ref g6, .ref g7, .ref g8, .ref g9, .ref g10, .ref g11, .ref g12, .ref g13, .ref g14, .ref g15, .int isz, .int ith, .int ico, .int icl, .int irw, .int ibi, .int ien, .int itr, .int ibl, .int ile, .int igr, .int ibk, .int ist, .int ibr])), (g3, .inl (cI, 576, .inl pix)), (g9, .inl (cI, 4, .inl f)), (g10, .inl (cI, 4, .inl g))] := hD
            refine cs_iald (j := 144 * 3 + ((y - 1) * 12 + (x - 1))) hx hb hK hcI hP 1 rfl (congrArg nI (by omega)) (by omega) (by decide) d_Model_look_108 ?_
            refine va_put (D := D) (ci := 9) (v := .int (pix (144 * 3 + ((y - 1) * 12 + (x - 1))))) (ty := .int) (C := "TileForgeModel") (T := T_Model) (N := 29) hx hb hts (cs_in in_Model) ty_Model tok_Model nm_Model hown hK hP hD hS 0 rfl rfl 17 (by decide) (hts _ (cs_m mw_357)) (fun _ h9 => h9) rfl (by decide +kernel) rfl rfl (Nat.le_of_ble_eq_true rfl) d_Model_look_109 (fun H locs hP hD hS => ?_)
            have hP : va_P D vwCl [(g0, .inr (9, [.ref g1, .ref g2, .ref g3, .ref g4, .ref g5, .ref g6, .ref g7, .ref g8, .ref g9, .ref g10, .ref g11, .ref g12, .ref g13, .ref g14, .ref g15, .int isz, .int ith, .int (pix (144 * 3 + ((y - 1) * 12 + (x - 1)))), .int icl, .int irw, .int ibi, .int ien, .int itr, .int ibl, .int ile, .int igr, .int ibk, .int ist, .int ibr])), (g3, .inl (cI, 576, .inl pix)), (g9, .inl (cI, 4, .inl f)), (g10, .inl (cI, 4, .inl g))] H := hP
            have hD : va_D A [(g0, .inr (9, [.ref g1, .ref g2, .ref g3, .ref g4, .ref g5, .ref g6, .ref g7, .ref g8, .ref g9, .ref g10, .ref g11, .ref g12, .ref g13, .ref g14, .ref g15, .int isz, .int ith, .int (pix (144 * 3 + ((y - 1) * 12 + (x - 1)))), .int icl, .int irw, .int ibi, .int ien, .int itr, .int ibl, .int ile, .int igr, .int ibk, .int ist, .int ibr])), (g3, .inl (cI, 576, .inl pix)), (g9, .inl (cI, 4, .inl f)), (g10, .inl (cI, 4, .inl g))] := hD
            refine lv_aload_n hx hb d_Model_look_112 rfl (lv_at hl 0 rfl) ?_
            refine lv_iload_n hx hb d_Model_look_113 rfl (lv_at hl 2 rfl) ?_
            refine va_put (D := D) (ci := 9) (v := .int (nI y)) (ty := .int) (C := "TileForgeModel") (T := T_Model) (N := 29) hx hb hts (cs_in in_Model) ty_Model tok_Model nm_Model hown hK hP hD hS 0 rfl rfl 19 (by decide) (hts _ (cs_m mw_358)) (fun _ h9 => h9) rfl (by decide +kernel) rfl rfl (Nat.le_of_ble_eq_true rfl) d_Model_look_114 (fun H locs hP hD hS => ?_)
            have hP : va_P D vwCl [(g0, .inr (9, [.ref g1, .ref g2, .ref g3, .ref g4, .ref g5, .ref g6, .ref g7, .ref g8, .ref g9, .ref g10, .ref g11, .ref g12, .ref g13, .ref g14, .ref g15, .int isz, .int ith, .int (pix (144 * 3 + ((y - 1) * 12 + (x - 1)))), .int icl, .int (nI y), .int ibi, .int ien, .int itr, .int ibl, .int ile, .int igr, .int ibk, .int ist, .int ibr])), (g3, .inl (cI, 576, .inl pix)), (g9, .inl (cI, 4, .inl f)), (g10, .inl (cI, 4, .inl g))] H := hP
            have hD : va_D A [(g0, .inr (9, [.ref g1, .ref g2, .ref g3, .ref g4, .ref g5, .ref g6, .ref g7, .ref g8, .ref g9, .ref g10, .ref g11, .ref g12, .ref g13, .ref g14, .ref g15, .int isz, .int ith, .int (pix (144 * 3 + ((y - 1) * 12 + (x - 1)))), .int icl, .int (nI y), .int ibi, .int ien, .int itr, .int ibl, .int ile, .int igr, .int ibk, .int ist, .int ibr])), (g3, .inl (cI, 576, .inl pix)), (g9, .inl (cI, 4, .inl f)), (g10, .inl (cI, 4, .inl g))] := hD
            refine lv_aload_n hx hb d_Model_look_117 rfl (lv_at hl 0 rfl) ?_
            refine lv_iload_n hx hb d_Model_look_118 rfl (lv_at hl 1 rfl) ?_
            refine va_put (D := D) (ci := 9) (v := .int (nI x)) (ty := .int) (C := "TileForgeModel") (T := T_Model) (N := 29) hx hb hts (cs_in in_Model) ty_Model tok_Model nm_Model hown hK hP hD hS 0 rfl rfl 18 (by decide) (hts _ (cs_m mw_359)) (fun _ h9 => h9) rfl (by decide +kernel) rfl rfl (Nat.le_of_ble_eq_true rfl) d_Model_look_119 (fun H locs hP hD hS => ?_)
            have hP : va_P D vwCl [(g0, .inr (9, [.ref g1, .ref g2, .ref g3, .ref g4, .ref g5, .ref g6, .ref g7, .ref g8, .ref g9, .ref g10, .ref g11, .ref g12, .ref g13, .ref g14, .ref g15, .int isz, .int ith, .int (pix (144 * 3 + ((y - 1) * 12 + (x - 1)))), .int (nI x), .int (nI y), .int ibi, .int ien, .int itr, .int ibl, .int ile, .int igr, .int ibk, .int ist, .int ibr])), (g3, .inl (cI, 576, .inl pix)), (g9, .inl (cI, 4, .inl f)), (g10, .inl (cI, 4, .inl g))] H := hP
            have hD : va_D A [(g0, .inr (9, [.ref g1, .ref g2, .ref g3, .ref g4, .ref g5, .ref g6, .ref g7, .ref g8, .ref g9, .ref g10, .ref g11, .ref g12, .ref g13, .ref g14, .ref g15, .int isz, .int ith, .int (pix (144 * 3 + ((y - 1) * 12 + (x - 1)))), .int (nI x), .int (nI y), .int ibi, .int ien, .int itr, .int ibl, .int ile, .int igr, .int ibk, .int ist, .int ibr])), (g3, .inl (cI, 576, .inl pix)), (g9, .inl (cI, 4, .inl f)), (g10, .inl (cI, 4, .inl g))] := hD
            exact W.vret hx hb hr (fun t ht hW => ⟨⟨[(g0, .inr (9, [.ref g1, .ref g2, .ref g3, .ref g4, .ref g5, .ref g6, .ref g7, .ref g8, .ref g9, .ref g10, .ref g11, .ref g12, .ref g13, .ref g14, .ref g15, .int isz, .int ith, .int (pix (144 * 3 + ((y - 1) * 12 + (x - 1)))), .int (nI x), .int (nI y), .int ibi, .int ien, .int itr, .int ibl, .int ile, .int igr, .int ibk, .int ist, .int ibr])), (g3, .inl (cI, 576, .inl pix)), (g9, .inl (cI, 4, .inl f)), (g10, .inl (cI, 4, .inl g))], rfl, ⟨f, g, (h1), (h2), (by rw [crn, if_neg (by omega), if_neg (by omega)]; rfl)⟩, by rw [ht]; exact hP, va_K.moved hW.alike hK, hD⟩, hS.F ht⟩) hS.2.2 d_Model_look_122
          · have hx0 : x = 0 := cs_nz0 c_85 (by omega)
            refine lv_sipush (v := 129) hx hb d_Model_look_88 (by decide) ?_
            refine lv_goto (tgt := 109) hx hb d_Model_look_91 (by decide) ?_
            refine va_put (D := D) (ci := 9) (v := .int 129) (ty := .int) (C := "TileForgeModel") (T := T_Model) (N := 29) hx hb hts (cs_in in_Model) ty_Model tok_Model nm_Model hown hK hP hD hS 0 rfl rfl 17 (by decide) (hts _ (cs_m mw_357)) (fun _ h9 => h9) rfl (by decide +kernel) rfl rfl (Nat.le_of_ble_eq_true rfl) d_Model_look_109 (fun H locs hP hD hS => ?_)
            have hP : va_P D vwCl [(g0, .inr (9, [.ref g1, .ref g2, .ref g3, .ref g4, .ref g5, .ref g6, .ref g7, .ref g8, .ref g9, .ref g10, .ref g11, .ref g12, .ref g13, .ref g14, .ref g15, .int isz, .int ith, .int 129, .int icl, .int irw, .int ibi, .int ien, .int itr, .int ibl, .int ile, .int igr, .int ibk, .int ist, .int ibr])), (g3, .inl (cI, 576, .inl pix)), (g9, .inl (cI, 4, .inl f)), (g10, .inl (cI, 4, .inl g))] H := hP
            have hD : va_D A [(g0, .inr (9, [.ref g1, .ref g2, .ref g3, .ref g4, .ref g5, .ref g6, .ref g7, .ref g8, .ref g9, .ref g10, .ref g11, .ref g12, .ref g13, .ref g14, .ref g15, .int isz, .int ith, .int 129, .int icl, .int irw, .int ibi, .int ien, .int itr, .int ibl, .int ile, .int igr, .int ibk, .int ist, .int ibr])), (g3, .inl (cI, 576, .inl pix)), (g9, .inl (cI, 4, .inl f)), (g10, .inl (cI, 4, .inl g))] := hD
            refine lv_aload_n hx hb d_Model_look_112 rfl (lv_at hl 0 rfl) ?_
            refine lv_iload_n hx hb d_Model_look_113 rfl (lv_at hl 2 rfl) ?_
            refine va_put (D := D) (ci := 9) (v := .int (nI y)) (ty := .int) (C := "TileForgeModel") (T := T_Model) (N := 29) hx hb hts (cs_in in_Model) ty_Model tok_Model nm_Model hown hK hP hD hS 0 rfl rfl 19 (by decide) (hts _ (cs_m mw_358)) (fun _ h9 => h9) rfl (by decide +kernel) rfl rfl (Nat.le_of_ble_eq_true rfl) d_Model_look_114 (fun H locs hP hD hS => ?_)
            have hP : va_P D vwCl [(g0, .inr (9, [.ref g1, .ref g2, .ref g3, .ref g4, .ref g5, .ref g6, .ref g7, .ref g8, .ref g9, .ref g10, .ref g11, .ref g12, .ref g13, .ref g14, .ref g15, .int isz, .int ith, .int 129, .int icl, .int (nI y), .int ibi, .int ien, .int itr, .int ibl, .int ile, .int igr, .int ibk, .int ist, .int ibr])), (g3, .inl (cI, 576, .inl pix)), (g9, .inl (cI, 4, .inl f)), (g10, .inl (cI, 4, .inl g))] H := hP
            have hD : va_D A [(g0, .inr (9, [.ref g1, .ref g2, .ref g3, .ref g4, .ref g5, .ref g6, .ref g7, .ref g8, .ref g9, .ref g10, .ref g11, .ref g12, .ref g13, .ref g14, .ref g15, .int isz, .int ith, .int 129, .int icl, .int (nI y), .int ibi, .int ien, .int itr, .int ibl, .int ile, .int igr, .int ibk, .int ist, .int ibr])), (g3, .inl (cI, 576, .inl pix)), (g9, .inl (cI, 4, .inl f)), (g10, .inl (cI, 4, .inl g))] := hD
            refine lv_aload_n hx hb d_Model_look_117 rfl (lv_at hl 0 rfl) ?_
            refine lv_iload_n hx hb d_Model_look_118 rfl (lv_at hl 1 rfl) ?_
            refine va_put (D := D) (ci := 9) (v := .int (nI x)) (ty := .int) (C := "TileForgeModel") (T := T_Model) (N := 29) hx hb hts (cs_in in_Model) ty_Model tok_Model nm_Model hown hK hP hD hS 0 rfl rfl 18 (by decide) (hts _ (cs_m mw_359)) (fun _ h9 => h9) rfl (by decide +kernel) rfl rfl (Nat.le_of_ble_eq_true rfl) d_Model_look_119 (fun H locs hP hD hS => ?_)
            have hP : va_P D vwCl [(g0, .inr (9, [.ref g1, .ref g2, .ref g3, .ref g4, .ref g5, .ref g6, .ref g7, .ref g8, .ref g9, .ref g10, .ref g11, .ref g12, .ref g13, .ref g14, .ref g15, .int isz, .int ith, .int 129, .int (nI x), .int (nI y), .int ibi, .int ien, .int itr, .int ibl, .int ile, .int igr, .int ibk, .int ist, .int ibr])), (g3, .inl (cI, 576, .inl pix)), (g9, .inl (cI, 4, .inl f)), (g10, .inl (cI, 4, .inl g))] H := hP
            have hD : va_D A [(g0, .inr (9, [.ref g1, .ref g2, .ref g3, .ref g4, .ref g5, .ref g6, .ref g7, .ref g8, .ref g9, .ref g10, .ref g11, .ref g12, .ref g13, .ref g14, .ref g15, .int isz, .int ith, .int 129, .int (nI x), .int (nI y), .int ibi, .int ien, .int itr, .int ibl, .int ile, .int igr, .int ibk, .int ist, .int ibr])), (g3, .inl (cI, 576, .inl pix)), (g9, .inl (cI, 4, .inl f)), (g10, .inl (cI, 4, .inl g))] := hD
            exact W.vret hx hb hr (fun t ht hW => ⟨⟨[(g0, .inr (9, [.ref g1, .ref g2, .ref g3, .ref g4, .ref g5, .ref g6, .ref g7, .ref g8, .ref g9, .ref g10, .ref g11, .ref g12, .ref g13, .ref g14, .ref g15, .int isz, .int ith, .int 129, .int (nI x), .int (nI y), .int ibi, .int ien, .int itr, .int ibl, .int ile, .int igr, .int ibk, .int ist, .int ibr])), (g3, .inl (cI, 576, .inl pix)), (g9, .inl (cI, 4, .inl f)), (g10, .inl (cI, 4, .inl g))], rfl, ⟨f, g, (h1), (h2), (by rw [crn, if_neg (by omega), if_pos hx0])⟩, by rw [ht]; exact hP, va_K.moved hW.alike hK, hD⟩, hS.F ht⟩) hS.2.2 d_Model_look_122
        · have hy0 : y = 0 := cs_nz0 c_76 (by omega)
          refine lv_bipush (v := 127) hx hb d_Model_look_79 (by decide) ?_
          refine lv_goto (tgt := 109) hx hb d_Model_look_81 (by decide) ?_
          refine va_put (D := D) (ci := 9) (v := .int 127) (ty := .int) (C := "TileForgeModel") (T := T_Model) (N := 29) hx hb hts (cs_in in_Model) ty_Model tok_Model nm_Model hown hK hP hD hS 0 rfl rfl 17 (by decide) (hts _ (cs_m mw_357)) (fun _ h9 => h9) rfl (by decide +kernel) rfl rfl (Nat.le_of_ble_eq_true rfl) d_Model_look_109 (fun H locs hP hD hS => ?_)
          have hP : va_P D vwCl [(g0, .inr (9, [.ref g1, .ref g2, .ref g3, .ref g4, .ref g5, .ref g6, .ref g7, .ref g8, .ref g9, .ref g10, .ref g11, .ref g12, .ref g13, .ref g14, .ref g15, .int isz, .int ith, .int 127, .int icl, .int irw, .int ibi, .int ien, .int itr, .int ibl, .int ile, .int igr, .int ibk, .int ist, .int ibr])), (g3, .inl (cI, 576, .inl pix)), (g9, .inl (cI, 4, .inl f)), (g10, .inl (cI, 4, .inl g))] H := hP
          have hD : va_D A [(g0, .inr (9, [.ref g1, .ref g2, .ref g3, .ref g4, .ref g5, .ref g6, .ref g7, .ref g8, .ref g9, .ref g10, .ref g11, .ref g12, .ref g13, .ref g14, .ref g15, .int isz, .int ith, .int 127, .int icl, .int irw, .int ibi, .int ien, .int itr, .int ibl, .int ile, .int igr, .int ibk, .int ist, .int ibr])), (g3, .inl (cI, 576, .inl pix)), (g9, .inl (cI, 4, .inl f)), (g10, .inl (cI, 4, .inl g))] := hD
          refine lv_aload_n hx hb d_Model_look_112 rfl (lv_at hl 0 rfl) ?_
          refine lv_iload_n hx hb d_Model_look_113 rfl (lv_at hl 2 rfl) ?_
          refine va_put (D := D) (ci := 9) (v := .int (nI y)) (ty := .int) (C := "TileForgeModel") (T := T_Model) (N := 29) hx hb hts (cs_in in_Model) ty_Model tok_Model nm_Model hown hK hP hD hS 0 rfl rfl 19 (by decide) (hts _ (cs_m mw_358)) (fun _ h9 => h9) rfl (by decide +kernel) rfl rfl (Nat.le_of_ble_eq_true rfl) d_Model_look_114 (fun H locs hP hD hS => ?_)
          have hP : va_P D vwCl [(g0, .inr (9, [.ref g1, .ref g2, .ref g3, .ref g4, .ref g5, .ref g6, .ref g7, .ref g8, .ref g9, .ref g10, .ref g11, .ref g12, .ref g13, .ref g14, .ref g15, .int isz, .int ith, .int 127, .int icl, .int (nI y), .int ibi, .int ien, .int itr, .int ibl, .int ile, .int igr, .int ibk, .int ist, .int ibr])), (g3, .inl (cI, 576, .inl pix)), (g9, .inl (cI, 4, .inl f)), (g10, .inl (cI, 4, .inl g))] H := hP
          have hD : va_D A [(g0, .inr (9, [.ref g1, .ref g2, .ref g3, .ref g4, .ref g5, .ref g6, .ref g7, .ref g8, .ref g9, .ref g10, .ref g11, .ref g12, .ref g13, .ref g14, .ref g15, .int isz, .int ith, .int 127, .int icl, .int (nI y), .int ibi, .int ien, .int itr, .int ibl, .int ile, .int igr, .int ibk, .int ist, .int ibr])), (g3, .inl (cI, 576, .inl pix)), (g9, .inl (cI, 4, .inl f)), (g10, .inl (cI, 4, .inl g))] := hD
          refine lv_aload_n hx hb d_Model_look_117 rfl (lv_at hl 0 rfl) ?_
          refine lv_iload_n hx hb d_Model_look_118 rfl (lv_at hl 1 rfl) ?_
          refine va_put (D := D) (ci := 9) (v := .int (nI x)) (ty := .int) (C := "TileForgeModel") (T := T_Model) (N := 29) hx hb hts (cs_in in_Model) ty_Model tok_Model nm_Model hown hK hP hD hS 0 rfl rfl 18 (by decide) (hts _ (cs_m mw_359)) (fun _ h9 => h9) rfl (by decide +kernel) rfl rfl (Nat.le_of_ble_eq_true rfl) d_Model_look_119 (fun H locs hP hD hS => ?_)
          have hP : va_P D vwCl [(g0, .inr (9, [.ref g1, .ref g2, .ref g3, .ref g4, .ref g5, .ref g6, .ref g7, .ref g8, .ref g9, .ref g10, .ref g11, .ref g12, .ref g13, .ref g14, .ref g15, .int isz, .int ith, .int 127, .int (nI x), .int (nI y), .int ibi, .int ien, .int itr, .int ibl, .int ile, .int igr, .int ibk, .int ist, .int ibr])), (g3, .inl (cI, 576, .inl pix)), (g9, .inl (cI, 4, .inl f)), (g10, .inl (cI, 4, .inl g))] H := hP
          have hD : va_D A [(g0, .inr (9, [.ref g1, .ref g2, .ref g3, .ref g4, .ref g5, .ref g6, .ref g7, .ref g8, .ref g9, .ref g10, .ref g11, .ref g12, .ref g13, .ref g14, .ref g15, .int isz, .int ith, .int 127, .int (nI x), .int (nI y), .int ibi, .int ien, .int itr, .int ibl, .int ile, .int igr, .int ibk, .int ist, .int ibr])), (g3, .inl (cI, 576, .inl pix)), (g9, .inl (cI, 4, .inl f)), (g10, .inl (cI, 4, .inl g))] := hD
          exact W.vret hx hb hr (fun t ht hW => ⟨⟨[(g0, .inr (9, [.ref g1, .ref g2, .ref g3, .ref g4, .ref g5, .ref g6, .ref g7, .ref g8, .ref g9, .ref g10, .ref g11, .ref g12, .ref g13, .ref g14, .ref g15, .int isz, .int ith, .int 127, .int (nI x), .int (nI y), .int ibi, .int ien, .int itr, .int ibl, .int ile, .int igr, .int ibk, .int ist, .int ibr])), (g3, .inl (cI, 576, .inl pix)), (g9, .inl (cI, 4, .inl f)), (g10, .inl (cI, 4, .inl g))], rfl, ⟨f, g, (h1), (h2), (by rw [crn, if_pos hy0])⟩, by rw [ht]; exact hP, va_K.moved hW.alike hK, hD⟩, hS.F ht⟩) hS.2.2 d_Model_look_122
      · have hk2 : k < 4 := Nat.not_le.mp (fun h => c_4 ((nI_leI (a := 4) (b := k) (by decide) (by omega)).mpr h))
        refine lv_aload_n hx hb d_Model_look_7 rfl (lv_at hl 0 rfl) ?_
        refine va_get (D := D) (ci := 9) (v := .ref g9) (C := "TileForgeModel") (T := T_Model) (N := 29) hx hb hts (cs_in in_Model) hown hK hP 0 rfl rfl 8 (by decide) (hts _ (cs_m mw_360)) (fun _ h9 => h9) rfl d_Model_look_8 ?_
        refine lv_iload_n hx hb d_Model_look_11 rfl (lv_at hl 3 rfl) ?_
        refine lv_iload_n hx hb d_Model_look_12 rfl (lv_at hl 2 rfl) ?_
        refine lv_if_ne (tgt := 21) hx hb d_Model_look_13 (by decide) (fun c_13 => ?_) (fun c_13 => ?_)
        · have hy0 : 0 < y := cs_nz1 c_13
          refine lv_aload_n hx hb d_Model_look_21 rfl (lv_at hl 0 rfl) ?_
          refine va_get (D := D) (ci := 9) (v := .ref g3) (C := "TileForgeModel") (T := T_Model) (N := 29) hx hb hts (cs_in in_Model) hown hK hP 0 rfl rfl 2 (by decide) (hts _ (cs_m mw_354)) (fun _ h9 => h9) rfl d_Model_look_22 ?_
          refine lv_iconst (v := 3) hx hb d_Model_look_25 (by decide) ?_
          refine lv_iload_n hx hb d_Model_look_26 rfl (lv_at hl 1 rfl) ?_
          refine lv_iload_n hx hb d_Model_look_27 rfl (lv_at hl 3 rfl) ?_
          refine lv_iadd hx hb d_Model_look_28 ?_
          refine cs_top (y := nI (x + k)) (nI_add x k) ?_
          refine lv_iload_n hx hb d_Model_look_29 rfl (lv_at hl 2 rfl) ?_
          refine lv_iconst (v := 1) hx hb d_Model_look_30 (by decide) ?_
          refine lv_isub hx hb d_Model_look_31 ?_
          refine cs_top (y := nI (y - 1)) (cs_pred hy0) ?_
          refine cs_Si (As := [.int 3, .int (nI (x + k)), .int (nI (y - 1))]) (rest := [.ref g3, .int (nI k), .ref g9]) (wr := [(g0, .inr (9, [.ref g1, .ref g2, .ref g3, .ref g4, .ref g5, .ref g6, .ref g7, .ref g8, .ref g9, .ref g10, .ref g11, .ref g12, .ref g13, .ref g14, .ref g15, .int isz, .int ith, .int ico, .int icl, .int irw, .int ibi, .int ien, .int itr, .int ibl, .int ile, .int igr, .int ibk, .int ist, .int ibr])), (g3, .inl (cI, 576, .inl pix)), (g9, .inl (cI, 4, .inl f)), (g10, .inl (cI, 4, .inl g))]) ⟨hx, hb, hml, hown, hts⟩ (c_mo_at l hcI 3 (x + k) (y - 1)) (va_cwS 3 hts (cs_gS mw_355 mw_356 mw_349 mw_346) rfl rfl rfl hd_Model_at ⟨Nat.le_of_ble_eq_true rfl, Nat.le_of_ble_eq_true rfl⟩) hN hK hP hD hS hA [] [0, 1, 2, 3] rfl rfl rfl rfl (by decide) rfl rfl hl.1 (Nat.le_of_ble_eq_true rfl) d_Model_look_32 ⟨Nat.le_of_ble_eq_true rfl, Nat.le_of_ble_eq_true rfl⟩ (fun r2 w1 H locs hw hP hD hS => ?_)
          obtain ⟨rfl, rfl⟩ := hw
          have hP : va_P D vwCl [(g0, .inr (9, [.ref g1, .ref g2, .ref g3, .ref g4, .ref g5, .ref g6, .ref g7, .ref g8, .ref g9, .ref g10, .ref g11, .ref g12, .ref g13, .ref g14, .ref g15, .int isz, .int ith, .int ico, .int icl, .int irw, .int ibi, .int ien, .int itr, .int ibl, .int ile, .int igr, .int ibk, .int ist, .int ibr])), (g3, .inl (cI, 576, .inl pix)), (g9, .inl (cI, 4, .inl f)), (g10, .inl (cI, 4, .inl g))] H := hP
          have hD : va_D A [(g0, .inr (9, [.ref g1, .ref g2, .ref g3, .ref g4, .ref g5, .ref g6, .ref g7, .ref g8, .ref g9, .ref g10, .ref g11, .ref g12, .ref g13, .ref g14, .ref g15, .int isz, .int ith, .int ico, .int icl, .int irw, .int ibi, .int ien, .int itr, .int ibl, .int ile, .int igr, .int ibk, .int ist, .int ibr])), (g3, .inl (cI, 576, .inl pix)), (g9, .inl (cI, 4, .inl f)), (g10, .inl (cI, 4, .inl g))] := hD
          refine cs_iald (j := 144 * 3 + ((y - 1) * 12 + (x + k))) hx hb hK hcI hP 1 rfl (congrArg nI (by omega)) (by omega) (by decide) d_Model_look_35 ?_
          refine cs_iast (j := k) hx hb hK hcI hP hD hS 2 rfl (rfl) (by omega) (by decide) d_Model_look_36 (fun H locs hP hD hS => ?_)
          have hP : va_P D vwCl [(g0, .inr (9, [.ref g1, .ref g2, .ref g3, .ref g4, .ref g5, .ref g6, .ref g7, .ref g8, .ref g9, .ref g10, .ref g11, .ref g12, .ref g13, .ref g14, .ref g15, .int isz, .int ith, .int ico, .int icl, .int irw, .int ibi, .int ien, .int itr, .int ibl, .int ile, .int igr, .int ibk, .int ist, .int ibr])), (g3, .inl (cI, 576, .inl pix)), (g9, .inl (cI, 4, .inl (upd f k (pix (144 * 3 + ((y - 1) * 12 + (x + k))))))), (g10, .inl (cI, 4, .inl g))] H := hP
          have hD : va_D A [(g0, .inr (9, [.ref g1, .ref g2, .ref g3, .ref g4, .ref g5, .ref g6, .ref g7, .ref g8, .ref g9, .ref g10, .ref g11, .ref g12, .ref g13, .ref g14, .ref g15, .int isz, .int ith, .int ico, .int icl, .int irw, .int ibi, .int ien, .int itr, .int ibl, .int ile, .int igr, .int ibk, .int ist, .int ibr])), (g3, .inl (cI, 576, .inl pix)), (g9, .inl (cI, 4, .inl (upd f k (pix (144 * 3 + ((y - 1) * 12 + (x + k))))))), (g10, .inl (cI, 4, .inl g))] := hD
          refine lv_aload_n hx hb d_Model_look_37 rfl (lv_at hl 0 rfl) ?_
          refine va_get (D := D) (ci := 9) (v := .ref g10) (C := "TileForgeModel") (T := T_Model) (N := 29) hx hb hts (cs_in in_Model) hown hK hP 0 rfl rfl 9 (by decide) (hts _ (cs_m mw_361)) (fun _ h9 => h9) rfl d_Model_look_38 ?_
          refine lv_iload_n hx hb d_Model_look_41 rfl (lv_at hl 3 rfl) ?_
          refine lv_iload_n hx hb d_Model_look_42 rfl (lv_at hl 1 rfl) ?_
          refine lv_if_ne (tgt := 52) hx hb d_Model_look_43 (by decide) (fun c_43 => ?_) (fun c_43 => ?_)
          · have hx0 : 0 < x := cs_nz1 c_43
            refine lv_aload_n hx hb d_Model_look_52 rfl (lv_at hl 0 rfl) ?_
            refine va_get (D := D) (ci := 9) (v := .ref g3) (C := "TileForgeModel") (T := T_Model) (N := 29) hx hb hts (cs_in in_Model) hown hK hP 0 rfl rfl 2 (by decide) (hts _ (cs_m mw_354)) (fun _ h9 => h9) rfl d_Model_look_53 ?_
            refine lv_iconst (v := 3) hx hb d_Model_look_56 (by decide) ?_
            refine lv_iload_n hx hb d_Model_look_57 rfl (lv_at hl 1 rfl) ?_
            refine lv_iconst (v := 1) hx hb d_Model_look_58 (by decide) ?_
            refine lv_isub hx hb d_Model_look_59 ?_
            refine cs_top (y := nI (x - 1)) (cs_pred hx0) ?_
            refine lv_iload_n hx hb d_Model_look_60 rfl (lv_at hl 2 rfl) ?_
            refine lv_iload_n hx hb d_Model_look_61 rfl (lv_at hl 3 rfl) ?_
            refine lv_iadd hx hb d_Model_look_62 ?_
            refine cs_top (y := nI (y + k)) (nI_add y k) ?_
            refine cs_Si (As := [.int 3, .int (nI (x - 1)), .int (nI (y + k))]) (rest := [.ref g3, .int (nI k), .ref g10]) (wr := [(g0, .inr (9, [.ref g1, .ref g2, .ref g3, .ref g4, .ref g5, .ref g6, .ref g7, .ref g8, .ref g9, .ref g10, .ref g11, .ref g12, .ref g13, .ref g14, .ref g15, .int isz, .int ith, .int ico, .int icl, .int irw, .int ibi, .int ien, .int itr, .int ibl, .int ile, .int igr, .int ibk, .int ist, .int ibr])), (g3, .inl (cI, 576, .inl pix)), (g9, .inl (cI, 4, .inl (upd f k (pix (144 * 3 + ((y - 1) * 12 + (x + k))))))), (g10, .inl (cI, 4, .inl g))]) ⟨hx, hb, hml, hown, hts⟩ (c_mo_at l hcI 3 (x - 1) (y + k)) (va_cwS 3 hts (cs_gS mw_355 mw_356 mw_349 mw_346) rfl rfl rfl hd_Model_at ⟨Nat.le_of_ble_eq_true rfl, Nat.le_of_ble_eq_true rfl⟩) hN hK hP hD hS hA [] [0, 1, 2, 3] rfl rfl rfl rfl (by decide) rfl rfl hl.1 (Nat.le_of_ble_eq_true rfl) d_Model_look_63 ⟨Nat.le_of_ble_eq_true rfl, Nat.le_of_ble_eq_true rfl⟩ (fun r3 w1 H locs hw hP hD hS => ?_)
            obtain ⟨rfl, rfl⟩ := hw
            have hP : va_P D vwCl [(g0, .inr (9, [.ref g1, .ref g2, .ref g3, .ref g4, .ref g5, .ref g6, .ref g7, .ref g8, .ref g9, .ref g10, .ref g11, .ref g12, .ref g13, .ref g14, .ref g15, .int isz, .int ith, .int ico, .int icl, .int irw, .int ibi, .int ien, .int itr, .int ibl, .int ile, .int igr, .int ibk, .int ist, .int ibr])), (g3, .inl (cI, 576, .inl pix)), (g9, .inl (cI, 4, .inl (upd f k (pix (144 * 3 + ((y - 1) * 12 + (x + k))))))), (g10, .inl (cI, 4, .inl g))] H := hP
            have hD : va_D A [(g0, .inr (9, [.ref g1, .ref g2, .ref g3, .ref g4, .ref g5, .ref g6, .ref g7, .ref g8, .ref g9, .ref g10, .ref g11, .ref g12, .ref g13, .ref g14, .ref g15, .int isz, .int ith, .int ico, .int icl, .int irw, .int ibi, .int ien, .int itr, .int ibl, .int ile, .int igr, .int ibk, .int ist, .int ibr])), (g3, .inl (cI, 576, .inl pix)), (g9, .inl (cI, 4, .inl (upd f k (pix (144 * 3 + ((y - 1) * 12 + (x + k))))))), (g10, .inl (cI, 4, .inl g))] := hD
            refine cs_iald (j := 144 * 3 + ((y + k) * 12 + (x - 1))) hx hb hK hcI hP 1 rfl (congrArg nI (by omega)) (by omega) (by decide) d_Model_look_66 ?_
            refine cs_iast (j := k) hx hb hK hcI hP hD hS 3 rfl (rfl) (by omega) (by decide) d_Model_look_67 (fun H locs hP hD hS => ?_)
            have hP : va_P D vwCl [(g0, .inr (9, [.ref g1, .ref g2, .ref g3, .ref g4, .ref g5, .ref g6, .ref g7, .ref g8, .ref g9, .ref g10, .ref g11, .ref g12, .ref g13, .ref g14, .ref g15, .int isz, .int ith, .int ico, .int icl, .int irw, .int ibi, .int ien, .int itr, .int ibl, .int ile, .int igr, .int ibk, .int ist, .int ibr])), (g3, .inl (cI, 576, .inl pix)), (g9, .inl (cI, 4, .inl (upd f k (pix (144 * 3 + ((y - 1) * 12 + (x + k))))))), (g10, .inl (cI, 4, .inl (upd g k (pix (144 * 3 + ((y + k) * 12 + (x - 1)))))))] H := hP
            have hD : va_D A [(g0, .inr (9, [.ref g1, .ref g2, .ref g3, .ref g4, .ref g5, .ref g6, .ref g7, .ref g8, .ref g9, .ref g10, .ref g11, .ref g12, .ref g13, .ref g14, .ref g15, .int isz, .int ith, .int ico, .int icl, .int irw, .int ibi, .int ien, .int itr, .int ibl, .int ile, .int igr, .int ibk, .int ist, .int ibr])), (g3, .inl (cI, 576, .inl pix)), (g9, .inl (cI, 4, .inl (upd f k (pix (144 * 3 + ((y - 1) * 12 + (x + k))))))), (g10, .inl (cI, 4, .inl (upd g k (pix (144 * 3 + ((y + k) * 12 + (x - 1)))))))] := hD
            refine lv_iinc (v := nI (k + 1)) (lv' := [(3, .int (nI (k + 1))), (0, .ref g0), (1, .int (nI x)), (2, .int (nI y))]) hx hb d_Model_look_68 hl (k := 3) rfl (nI_1 _) (by decide) rfl (fun ls hl => ?_)
            refine lv_goto (tgt := 2) hx hb d_Model_look_71 (by decide) ?_
            exact ih2 (k + 1) (upd f k (pix (144 * 3 + ((y - 1) * 12 + (x + k))))) (upd g k (pix (144 * 3 + ((y + k) * 12 + (x - 1))))) (by omega) (by omega) (cs_ext h1 (by rw [abv, if_neg (by omega)]; rfl)) (cs_ext h2 (by rw [lft, if_neg (by omega)]; rfl)) _ _ _ (hP.sub (ws' := [(g0, .inr (9, [.ref g1, .ref g2, .ref g3, .ref g4, .ref g5, .ref g6, .ref g7, .ref g8, .ref g9, .ref g10, .ref g11, .ref g12, .ref g13, .ref g14, .ref g15, .int isz, .int ith, .int ico, .int icl, .int irw, .int ibi, .int ien, .int itr, .int ibl, .int ile, .int igr, .int ibk, .int ist, .int ibr])), (g3, .inl (cI, 576, .inl pix)), (g9, .inl (cI, 4, .inl (upd f k (pix (144 * 3 + ((y - 1) * 12 + (x + k))))))), (g10, .inl (cI, 4, .inl (upd g k (pix (144 * 3 + ((y + k) * 12 + (x - 1)))))))]) [0, 1, 2, 3] rfl) (hD.sub (ws' := [(g0, .inr (9, [.ref g1, .ref g2, .ref g3, .ref g4, .ref g5, .ref g6, .ref g7, .ref g8, .ref g9, .ref g10, .ref g11, .ref g12, .ref g13, .ref g14, .ref g15, .int isz, .int ith, .int ico, .int icl, .int irw, .int ibi, .int ien, .int itr, .int ibl, .int ile, .int igr, .int ibk, .int ist, .int ibr])), (g3, .inl (cI, 576, .inl pix)), (g9, .inl (cI, 4, .inl (upd f k (pix (144 * 3 + ((y - 1) * 12 + (x + k))))))), (g10, .inl (cI, 4, .inl (upd g k (pix (144 * 3 + ((y + k) * 12 + (x - 1)))))))]) [0, 1, 2, 3] (by decide) rfl) hS (lv_sub hl [1, 2, 3, 0] rfl)
          · have hx0 : x = 0 := cs_nz0 c_43 (by omega)
            refine lv_sipush (v := 129) hx hb d_Model_look_46 (by decide) ?_
            refine lv_goto (tgt := 67) hx hb d_Model_look_49 (by decide) ?_
            refine cs_iast (j := k) hx hb hK hcI hP hD hS 3 rfl (rfl) (by omega) (by decide) d_Model_look_67 (fun H locs hP hD hS => ?_)
            have hP : va_P D vwCl [(g0, .inr (9, [.ref g1, .ref g2, .ref g3, .ref g4, .ref g5, .ref g6, .ref g7, .ref g8, .ref g9, .ref g10, .ref g11, .ref g12, .ref g13, .ref g14, .ref g15, .int isz, .int ith, .int ico, .int icl, .int irw, .int ibi, .int ien, .int itr, .int ibl, .int ile, .int igr, .int ibk, .int ist, .int ibr])), (g3, .inl (cI, 576, .inl pix)), (g9, .inl (cI, 4, .inl (upd f k (pix (144 * 3 + ((y - 1) * 12 + (x + k))))))), (g10, .inl (cI, 4, .inl (upd g k 129)))] H := hP
            have hD : va_D A [(g0, .inr (9, [.ref g1, .ref g2, .ref g3, .ref g4, .ref g5, .ref g6, .ref g7, .ref g8, .ref g9, .ref g10, .ref g11, .ref g12, .ref g13, .ref g14, .ref g15, .int isz, .int ith, .int ico, .int icl, .int irw, .int ibi, .int ien, .int itr, .int ibl, .int ile, .int igr, .int ibk, .int ist, .int ibr])), (g3, .inl (cI, 576, .inl pix)), (g9, .inl (cI, 4, .inl (upd f k (pix (144 * 3 + ((y - 1) * 12 + (x + k))))))), (g10, .inl (cI, 4, .inl (upd g k 129)))] := hD
            refine lv_iinc (v := nI (k + 1)) (lv' := [(3, .int (nI (k + 1))), (0, .ref g0), (1, .int (nI x)), (2, .int (nI y))]) hx hb d_Model_look_68 hl (k := 3) rfl (nI_1 _) (by decide) rfl (fun ls hl => ?_)
            refine lv_goto (tgt := 2) hx hb d_Model_look_71 (by decide) ?_
            exact ih2 (k + 1) (upd f k (pix (144 * 3 + ((y - 1) * 12 + (x + k))))) (upd g k 129) (by omega) (by omega) (cs_ext h1 (by rw [abv, if_neg (by omega)]; rfl)) (cs_ext h2 (by rw [lft, if_pos hx0])) _ _ _ (hP.sub (ws' := [(g0, .inr (9, [.ref g1, .ref g2, .ref g3, .ref g4, .ref g5, .ref g6, .ref g7, .ref g8, .ref g9, .ref g10, .ref g11, .ref g12, .ref g13, .ref g14, .ref g15, .int isz, .int ith, .int ico, .int icl, .int irw, .int ibi, .int ien, .int itr, .int ibl, .int ile, .int igr, .int ibk, .int ist, .int ibr])), (g3, .inl (cI, 576, .inl pix)), (g9, .inl (cI, 4, .inl (upd f k (pix (144 * 3 + ((y - 1) * 12 + (x + k))))))), (g10, .inl (cI, 4, .inl (upd g k 129)))]) [0, 1, 2, 3] rfl) (hD.sub (ws' := [(g0, .inr (9, [.ref g1, .ref g2, .ref g3, .ref g4, .ref g5, .ref g6, .ref g7, .ref g8, .ref g9, .ref g10, .ref g11, .ref g12, .ref g13, .ref g14, .ref g15, .int isz, .int ith, .int ico, .int icl, .int irw, .int ibi, .int ien, .int itr, .int ibl, .int ile, .int igr, .int ibk, .int ist, .int ibr])), (g3, .inl (cI, 576, .inl pix)), (g9, .inl (cI, 4, .inl (upd f k (pix (144 * 3 + ((y - 1) * 12 + (x + k))))))), (g10, .inl (cI, 4, .inl (upd g k 129)))]) [0, 1, 2, 3] (by decide) rfl) hS (lv_sub hl [1, 2, 3, 0] rfl)
        · have hy0 : y = 0 := cs_nz0 c_13 (by omega)
          refine lv_bipush (v := 127) hx hb d_Model_look_16 (by decide) ?_
          refine lv_goto (tgt := 36) hx hb d_Model_look_18 (by decide) ?_
          refine cs_iast (j := k) hx hb hK hcI hP hD hS 2 rfl (rfl) (by omega) (by decide) d_Model_look_36 (fun H locs hP hD hS => ?_)
          have hP : va_P D vwCl [(g0, .inr (9, [.ref g1, .ref g2, .ref g3, .ref g4, .ref g5, .ref g6, .ref g7, .ref g8, .ref g9, .ref g10, .ref g11, .ref g12, .ref g13, .ref g14, .ref g15, .int isz, .int ith, .int ico, .int icl, .int irw, .int ibi, .int ien, .int itr, .int ibl, .int ile, .int igr, .int ibk, .int ist, .int ibr])), (g3, .inl (cI, 576, .inl pix)), (g9, .inl (cI, 4, .inl (upd f k 127))), (g10, .inl (cI, 4, .inl g))] H := hP
          have hD : va_D A [(g0, .inr (9, [.ref g1, .ref g2, .ref g3, .ref g4, .ref g5, .ref g6, .ref g7, .ref g8, .ref g9, .ref g10, .ref g11, .ref g12, .ref g13, .ref g14, .ref g15, .int isz, .int ith, .int ico, .int icl, .int irw, .int ibi, .int ien, .int itr, .int ibl, .int ile, .int igr, .int ibk, .int ist, .int ibr])), (g3, .inl (cI, 576, .inl pix)), (g9, .inl (cI, 4, .inl (upd f k 127))), (g10, .inl (cI, 4, .inl g))] := hD
          refine lv_aload_n hx hb d_Model_look_37 rfl (lv_at hl 0 rfl) ?_
          refine va_get (D := D) (ci := 9) (v := .ref g10) (C := "TileForgeModel") (T := T_Model) (N := 29) hx hb hts (cs_in in_Model) hown hK hP 0 rfl rfl 9 (by decide) (hts _ (cs_m mw_361)) (fun _ h9 => h9) rfl d_Model_look_38 ?_
          refine lv_iload_n hx hb d_Model_look_41 rfl (lv_at hl 3 rfl) ?_
          refine lv_iload_n hx hb d_Model_look_42 rfl (lv_at hl 1 rfl) ?_
          refine lv_if_ne (tgt := 52) hx hb d_Model_look_43 (by decide) (fun c_43 => ?_) (fun c_43 => ?_)
          · have hx0 : 0 < x := cs_nz1 c_43
            refine lv_aload_n hx hb d_Model_look_52 rfl (lv_at hl 0 rfl) ?_
            refine va_get (D := D) (ci := 9) (v := .ref g3) (C := "TileForgeModel") (T := T_Model) (N := 29) hx hb hts (cs_in in_Model) hown hK hP 0 rfl rfl 2 (by decide) (hts _ (cs_m mw_354)) (fun _ h9 => h9) rfl d_Model_look_53 ?_
            refine lv_iconst (v := 3) hx hb d_Model_look_56 (by decide) ?_
            refine lv_iload_n hx hb d_Model_look_57 rfl (lv_at hl 1 rfl) ?_
            refine lv_iconst (v := 1) hx hb d_Model_look_58 (by decide) ?_
            refine lv_isub hx hb d_Model_look_59 ?_
            refine cs_top (y := nI (x - 1)) (cs_pred hx0) ?_
            refine lv_iload_n hx hb d_Model_look_60 rfl (lv_at hl 2 rfl) ?_
            refine lv_iload_n hx hb d_Model_look_61 rfl (lv_at hl 3 rfl) ?_
            refine lv_iadd hx hb d_Model_look_62 ?_
            refine cs_top (y := nI (y + k)) (nI_add y k) ?_
            refine cs_Si (As := [.int 3, .int (nI (x - 1)), .int (nI (y + k))]) (rest := [.ref g3, .int (nI k), .ref g10]) (wr := [(g0, .inr (9, [.ref g1, .ref g2, .ref g3, .ref g4, .ref g5, .ref g6, .ref g7, .ref g8, .ref g9, .ref g10, .ref g11, .ref g12, .ref g13, .ref g14, .ref g15, .int isz, .int ith, .int ico, .int icl, .int irw, .int ibi, .int ien, .int itr, .int ibl, .int ile, .int igr, .int ibk, .int ist, .int ibr])), (g3, .inl (cI, 576, .inl pix)), (g9, .inl (cI, 4, .inl (upd f k 127))), (g10, .inl (cI, 4, .inl g))]) ⟨hx, hb, hml, hown, hts⟩ (c_mo_at l hcI 3 (x - 1) (y + k)) (va_cwS 3 hts (cs_gS mw_355 mw_356 mw_349 mw_346) rfl rfl rfl hd_Model_at ⟨Nat.le_of_ble_eq_true rfl, Nat.le_of_ble_eq_true rfl⟩) hN hK hP hD hS hA [] [0, 1, 2, 3] rfl rfl rfl rfl (by decide) rfl rfl hl.1 (Nat.le_of_ble_eq_true rfl) d_Model_look_63 ⟨Nat.le_of_ble_eq_true rfl, Nat.le_of_ble_eq_true rfl⟩ (fun r4 w1 H locs hw hP hD hS => ?_)
            obtain ⟨rfl, rfl⟩ := hw
            have hP : va_P D vwCl [(g0, .inr (9, [.ref g1, .ref g2, .ref g3, .ref g4, .ref g5, .ref g6, .ref g7, .ref g8, .ref g9, .ref g10, .ref g11, .ref g12, .ref g13, .ref g14, .ref g15, .int isz, .int ith, .int ico, .int icl, .int irw, .int ibi, .int ien, .int itr, .int ibl, .int ile, .int igr, .int ibk, .int ist, .int ibr])), (g3, .inl (cI, 576, .inl pix)), (g9, .inl (cI, 4, .inl (upd f k 127))), (g10, .inl (cI, 4, .inl g))] H := hP
            have hD : va_D A [(g0, .inr (9, [.ref g1, .ref g2, .ref g3, .ref g4, .ref g5, .ref g6, .ref g7, .ref g8, .ref g9, .ref g10, .ref g11, .ref g12, .ref g13, .ref g14, .ref g15, .int isz, .int ith, .int ico, .int icl, .int irw, .int ibi, .int ien, .int itr, .int ibl, .int ile, .int igr, .int ibk, .int ist, .int ibr])), (g3, .inl (cI, 576, .inl pix)), (g9, .inl (cI, 4, .inl (upd f k 127))), (g10, .inl (cI, 4, .inl g))] := hD
            refine cs_iald (j := 144 * 3 + ((y + k) * 12 + (x - 1))) hx hb hK hcI hP 1 rfl (congrArg nI (by omega)) (by omega) (by decide) d_Model_look_66 ?_
            refine cs_iast (j := k) hx hb hK hcI hP hD hS 3 rfl (rfl) (by omega) (by decide) d_Model_look_67 (fun H locs hP hD hS => ?_)
            have hP : va_P D vwCl [(g0, .inr (9, [.ref g1, .ref g2, .ref g3, .ref g4, .ref g5, .ref g6, .ref g7, .ref g8, .ref g9, .ref g10, .ref g11, .ref g12, .ref g13, .ref g14, .ref g15, .int isz, .int ith, .int ico, .int icl, .int irw, .int ibi, .int ien, .int itr, .int ibl, .int ile, .int igr, .int ibk, .int ist, .int ibr])), (g3, .inl (cI, 576, .inl pix)), (g9, .inl (cI, 4, .inl (upd f k 127))), (g10, .inl (cI, 4, .inl (upd g k (pix (144 * 3 + ((y + k) * 12 + (x - 1)))))))] H := hP
            have hD : va_D A [(g0, .inr (9, [.ref g1, .ref g2, .ref g3, .ref g4, .ref g5, .ref g6, .ref g7, .ref g8, .ref g9, .ref g10, .ref g11, .ref g12, .ref g13, .ref g14, .ref g15, .int isz, .int ith, .int ico, .int icl, .int irw, .int ibi, .int ien, .int itr, .int ibl, .int ile, .int igr, .int ibk, .int ist, .int ibr])), (g3, .inl (cI, 576, .inl pix)), (g9, .inl (cI, 4, .inl (upd f k 127))), (g10, .inl (cI, 4, .inl (upd g k (pix (144 * 3 + ((y + k) * 12 + (x - 1)))))))] := hD
            refine lv_iinc (v := nI (k + 1)) (lv' := [(3, .int (nI (k + 1))), (0, .ref g0), (1, .int (nI x)), (2, .int (nI y))]) hx hb d_Model_look_68 hl (k := 3) rfl (nI_1 _) (by decide) rfl (fun ls hl => ?_)
            refine lv_goto (tgt := 2) hx hb d_Model_look_71 (by decide) ?_
            exact ih2 (k + 1) (upd f k 127) (upd g k (pix (144 * 3 + ((y + k) * 12 + (x - 1))))) (by omega) (by omega) (cs_ext h1 (by rw [abv, if_pos hy0])) (cs_ext h2 (by rw [lft, if_neg (by omega)]; rfl)) _ _ _ (hP.sub (ws' := [(g0, .inr (9, [.ref g1, .ref g2, .ref g3, .ref g4, .ref g5, .ref g6, .ref g7, .ref g8, .ref g9, .ref g10, .ref g11, .ref g12, .ref g13, .ref g14, .ref g15, .int isz, .int ith, .int ico, .int icl, .int irw, .int ibi, .int ien, .int itr, .int ibl, .int ile, .int igr, .int ibk, .int ist, .int ibr])), (g3, .inl (cI, 576, .inl pix)), (g9, .inl (cI, 4, .inl (upd f k 127))), (g10, .inl (cI, 4, .inl (upd g k (pix (144 * 3 + ((y + k) * 12 + (x - 1)))))))]) [0, 1, 2, 3] rfl) (hD.sub (ws' := [(g0, .inr (9, [.ref g1, .ref g2, .ref g3, .ref g4, .ref g5, .ref g6, .ref g7, .ref g8, .ref g9, .ref g10, .ref g11, .ref g12, .ref g13, .ref g14, .ref g15, .int isz, .int ith, .int ico, .int icl, .int irw, .int ibi, .int ien, .int itr, .int ibl, .int ile, .int igr, .int ibk, .int ist, .int ibr])), (g3, .inl (cI, 576, .inl pix)), (g9, .inl (cI, 4, .inl (upd f k 127))), (g10, .inl (cI, 4, .inl (upd g k (pix (144 * 3 + ((y + k) * 12 + (x - 1)))))))]) [0, 1, 2, 3] (by decide) rfl) hS (lv_sub hl [1, 2, 3, 0] rfl)
          · have hx0 : x = 0 := cs_nz0 c_43 (by omega)
            refine lv_sipush (v := 129) hx hb d_Model_look_46 (by decide) ?_
            refine lv_goto (tgt := 67) hx hb d_Model_look_49 (by decide) ?_
            refine cs_iast (j := k) hx hb hK hcI hP hD hS 3 rfl (rfl) (by omega) (by decide) d_Model_look_67 (fun H locs hP hD hS => ?_)
            have hP : va_P D vwCl [(g0, .inr (9, [.ref g1, .ref g2, .ref g3, .ref g4, .ref g5, .ref g6, .ref g7, .ref g8, .ref g9, .ref g10, .ref g11, .ref g12, .ref g13, .ref g14, .ref g15, .int isz, .int ith, .int ico, .int icl, .int irw, .int ibi, .int ien, .int itr, .int ibl, .int ile, .int igr, .int ibk, .int ist, .int ibr])), (g3, .inl (cI, 576, .inl pix)), (g9, .inl (cI, 4, .inl (upd f k 127))), (g10, .inl (cI, 4, .inl (upd g k 129)))] H := hP
            have hD : va_D A [(g0, .inr (9, [.ref g1, .ref g2, .ref g3, .ref g4, .ref g5, .ref g6, .ref g7, .ref g8, .ref g9, .ref g10, .ref g11, .ref g12, .ref g13, .ref g14, .ref g15, .int isz, .int ith, .int ico, .int icl, .int irw, .int ibi, .int ien, .int itr, .int ibl, .int ile, .int igr, .int ibk, .int ist, .int ibr])), (g3, .inl (cI, 576, .inl pix)), (g9, .inl (cI, 4, .inl (upd f k 127))), (g10, .inl (cI, 4, .inl (upd g k 129)))] := hD
            refine lv_iinc (v := nI (k + 1)) (lv' := [(3, .int (nI (k + 1))), (0, .ref g0), (1, .int (nI x)), (2, .int (nI y))]) hx hb d_Model_look_68 hl (k := 3) rfl (nI_1 _) (by decide) rfl (fun ls hl => ?_)
            refine lv_goto (tgt := 2) hx hb d_Model_look_71 (by decide) ?_
            exact ih2 (k + 1) (upd f k 127) (upd g k 129) (by omega) (by omega) (cs_ext h1 (by rw [abv, if_pos hy0])) (cs_ext h2 (by rw [lft, if_pos hx0])) _ _ _ (hP.sub (ws' := [(g0, .inr (9, [.ref g1, .ref g2, .ref g3, .ref g4, .ref g5, .ref g6, .ref g7, .ref g8, .ref g9, .ref g10, .ref g11, .ref g12, .ref g13, .ref g14, .ref g15, .int isz, .int ith, .int ico, .int icl, .int irw, .int ibi, .int ien, .int itr, .int ibl, .int ile, .int igr, .int ibk, .int ist, .int ibr])), (g3, .inl (cI, 576, .inl pix)), (g9, .inl (cI, 4, .inl (upd f k 127))), (g10, .inl (cI, 4, .inl (upd g k 129)))]) [0, 1, 2, 3] rfl) (hD.sub (ws' := [(g0, .inr (9, [.ref g1, .ref g2, .ref g3, .ref g4, .ref g5, .ref g6, .ref g7, .ref g8, .ref g9, .ref g10, .ref g11, .ref g12, .ref g13, .ref g14, .ref g15, .int isz, .int ith, .int ico, .int icl, .int irw, .int ibi, .int ien, .int itr, .int ibl, .int ile, .int igr, .int ibk, .int ist, .int ibr])), (g3, .inl (cI, 576, .inl pix)), (g9, .inl (cI, 4, .inl (upd f k 127))), (g10, .inl (cI, 4, .inl (upd g k 129)))]) [0, 1, 2, 3] (by decide) rfl) hS (lv_sub hl [1, 2, 3, 0] rfl)
  exact lp2 (5) 0 ab lf (by omega) (by omega) (fun j hj => absurd hj (by omega)) (fun j hj => absurd hj (by omega)) _ _ _ (hP.sub (ws' := [(g0, .inr (9, [.ref g1, .ref g2, .ref g3, .ref g4, .ref g5, .ref g6, .ref g7, .ref g8, .ref g9, .ref g10, .ref g11, .ref g12, .ref g13, .ref g14, .ref g15, .int isz, .int ith, .int ico, .int icl, .int irw, .int ibi, .int ien, .int itr, .int ibl, .int ile, .int igr, .int ibk, .int ist, .int ibr])), (g3, .inl (cI, 576, .inl pix)), (g9, .inl (cI, 4, .inl ab)), (g10, .inl (cI, 4, .inl lf))]) [0, 1, 2, 3] rfl) (hD.sub (ws' := [(g0, .inr (9, [.ref g1, .ref g2, .ref g3, .ref g4, .ref g5, .ref g6, .ref g7, .ref g8, .ref g9, .ref g10, .ref g11, .ref g12, .ref g13, .ref g14, .ref g15, .int isz, .int ith, .int ico, .int icl, .int irw, .int ibi, .int ien, .int itr, .int ibl, .int ile, .int igr, .int ibk, .int ist, .int ibr])), (g3, .inl (cI, 576, .inl pix)), (g9, .inl (cI, 4, .inl ab)), (g10, .inl (cI, 4, .inl lf))]) [0, 1, 2, 3] (by decide) rfl) hS (lv_sub hl [1, 2, 3, 0] rfl)
def y_Model_mean : MethodName := ⟨"TileForgeModel", "mean", "()I"⟩
def ws_Model_mean : List Cond := .code y_Model_mean prog_11_method_12_code 4 (some .int) :: GW
theorem mw_362 : (.code ⟨"TileForgeModel", "mean", "()I"⟩ prog_11_method_12_code 4 (some .int) : Cond) ∈ GW := List.mem_filter.mpr ⟨(List.mem_append_right _ (List.mem_append_right _ (List.mem_append_right _ (List.mem_append_right _ (List.mem_of_getElem? (i := 111) rfl))))), rfl⟩
theorem hd_Model_mean : y_Model_mean.cls ≠ "java/lang/invoke/MethodHandle" ∧ y_Model_mean.cls ≠ "java/lang/invoke/VarHandle" ∧ (parseMethodDescriptor y_Model_mean.desc).map (fun d => d.parameters.length) = some 0 := by decide +kernel
theorem d_Model_mean_0 : decode prog_11_method_12_code 0 = .ok (.iconst 0, 1) := by decide +kernel
theorem d_Model_mean_1 : decode prog_11_method_12_code 1 = .ok (.istore_n 1, 1) := by decide +kernel
theorem d_Model_mean_2 : decode prog_11_method_12_code 2 = .ok (.iconst 0, 1) := by decide +kernel
theorem d_Model_mean_3 : decode prog_11_method_12_code 3 = .ok (.istore_n 2, 1) := by decide +kernel
theorem d_Model_mean_4 : decode prog_11_method_12_code 4 = .ok (.iconst 0, 1) := by decide +kernel
theorem d_Model_mean_5 : decode prog_11_method_12_code 5 = .ok (.istore_n 3, 1) := by decide +kernel
theorem d_Model_mean_6 : decode prog_11_method_12_code 6 = .ok (.iload_n 3, 1) := by decide +kernel
theorem d_Model_mean_7 : decode prog_11_method_12_code 7 = .ok (.iconst 4, 1) := by decide +kernel
theorem d_Model_mean_8 : decode prog_11_method_12_code 8 = .ok (.if_icmp .ge 27, 3) := by decide +kernel
theorem d_Model_mean_11 : decode prog_11_method_12_code 11 = .ok (.iload_n 1, 1) := by decide +kernel
theorem d_Model_mean_12 : decode prog_11_method_12_code 12 = .ok (.aload_n 0, 1) := by decide +kernel
theorem d_Model_mean_13 : decode prog_11_method_12_code 13 = .ok (.getfield 34, 3) := by decide +kernel
theorem d_Model_mean_16 : decode prog_11_method_12_code 16 = .ok (.iload_n 3, 1) := by decide +kernel
theorem d_Model_mean_17 : decode prog_11_method_12_code 17 = .ok (.iaload, 1) := by decide +kernel
theorem d_Model_mean_18 : decode prog_11_method_12_code 18 = .ok (.iadd, 1) := by decide +kernel
theorem d_Model_mean_19 : decode prog_11_method_12_code 19 = .ok (.istore_n 1, 1) := by decide +kernel
theorem d_Model_mean_20 : decode prog_11_method_12_code 20 = .ok (.iload_n 2, 1) := by decide +kernel
theorem d_Model_mean_21 : decode prog_11_method_12_code 21 = .ok (.aload_n 0, 1) := by decide +kernel
theorem d_Model_mean_22 : decode prog_11_method_12_code 22 = .ok (.getfield 37, 3) := by decide +kernel
theorem d_Model_mean_25 : decode prog_11_method_12_code 25 = .ok (.iload_n 3, 1) := by decide +kernel
theorem d_Model_mean_26 : decode prog_11_method_12_code 26 = .ok (.iaload, 1) := by decide +kernel
theorem d_Model_mean_27 : decode prog_11_method_12_code 27 = .ok (.iadd, 1) := by decide +kernel
theorem d_Model_mean_28 : decode prog_11_method_12_code 28 = .ok (.istore_n 2, 1) := by decide +kernel
theorem d_Model_mean_29 : decode prog_11_method_12_code 29 = .ok (.iinc 3 1, 3) := by decide +kernel
theorem d_Model_mean_32 : decode prog_11_method_12_code 32 = .ok (.goto (-26), 3) := by decide +kernel
theorem d_Model_mean_35 : decode prog_11_method_12_code 35 = .ok (.aload_n 0, 1) := by decide +kernel
theorem d_Model_mean_36 : decode prog_11_method_12_code 36 = .ok (.getfield 81, 3) := by decide +kernel
theorem d_Model_mean_39 : decode prog_11_method_12_code 39 = .ok (.ifCond .le 19, 3) := by decide +kernel
theorem d_Model_mean_42 : decode prog_11_method_12_code 42 = .ok (.aload_n 0, 1) := by decide +kernel
theorem d_Model_mean_43 : decode prog_11_method_12_code 43 = .ok (.getfield 84, 3) := by decide +kernel
theorem d_Model_mean_46 : decode prog_11_method_12_code 46 = .ok (.ifCond .le 12, 3) := by decide +kernel
theorem d_Model_mean_49 : decode prog_11_method_12_code 49 = .ok (.iload_n 1, 1) := by decide +kernel
theorem d_Model_mean_50 : decode prog_11_method_12_code 50 = .ok (.iload_n 2, 1) := by decide +kernel
theorem d_Model_mean_51 : decode prog_11_method_12_code 51 = .ok (.iadd, 1) := by decide +kernel
theorem d_Model_mean_52 : decode prog_11_method_12_code 52 = .ok (.iconst 4, 1) := by decide +kernel
theorem d_Model_mean_53 : decode prog_11_method_12_code 53 = .ok (.iadd, 1) := by decide +kernel
theorem d_Model_mean_54 : decode prog_11_method_12_code 54 = .ok (.bipush 8, 2) := by decide +kernel
theorem d_Model_mean_56 : decode prog_11_method_12_code 56 = .ok (.idiv, 1) := by decide +kernel
theorem d_Model_mean_57 : decode prog_11_method_12_code 57 = .ok (.ireturn, 1) := by decide +kernel
theorem d_Model_mean_58 : decode prog_11_method_12_code 58 = .ok (.aload_n 0, 1) := by decide +kernel
theorem d_Model_mean_59 : decode prog_11_method_12_code 59 = .ok (.getfield 81, 3) := by decide +kernel
theorem d_Model_mean_62 : decode prog_11_method_12_code 62 = .ok (.ifCond .le 11, 3) := by decide +kernel
theorem d_Model_mean_65 : decode prog_11_method_12_code 65 = .ok (.iload_n 1, 1) := by decide +kernel
theorem d_Model_mean_66 : decode prog_11_method_12_code 66 = .ok (.iconst 2, 1) := by decide +kernel
theorem d_Model_mean_67 : decode prog_11_method_12_code 67 = .ok (.iadd, 1) := by decide +kernel
theorem d_Model_mean_68 : decode prog_11_method_12_code 68 = .ok (.iconst 4, 1) := by decide +kernel
theorem d_Model_mean_69 : decode prog_11_method_12_code 69 = .ok (.idiv, 1) := by decide +kernel
theorem d_Model_mean_70 : decode prog_11_method_12_code 70 = .ok (.goto 21, 3) := by decide +kernel
theorem d_Model_mean_73 : decode prog_11_method_12_code 73 = .ok (.aload_n 0, 1) := by decide +kernel
theorem d_Model_mean_74 : decode prog_11_method_12_code 74 = .ok (.getfield 84, 3) := by decide +kernel
theorem d_Model_mean_77 : decode prog_11_method_12_code 77 = .ok (.ifCond .le 11, 3) := by decide +kernel
theorem d_Model_mean_80 : decode prog_11_method_12_code 80 = .ok (.iload_n 2, 1) := by decide +kernel
theorem d_Model_mean_81 : decode prog_11_method_12_code 81 = .ok (.iconst 2, 1) := by decide +kernel
theorem d_Model_mean_82 : decode prog_11_method_12_code 82 = .ok (.iadd, 1) := by decide +kernel
theorem d_Model_mean_83 : decode prog_11_method_12_code 83 = .ok (.iconst 4, 1) := by decide +kernel
theorem d_Model_mean_84 : decode prog_11_method_12_code 84 = .ok (.idiv, 1) := by decide +kernel
theorem d_Model_mean_85 : decode prog_11_method_12_code 85 = .ok (.goto 6, 3) := by decide +kernel
theorem d_Model_mean_88 : decode prog_11_method_12_code 88 = .ok (.sipush 128, 3) := by decide +kernel
theorem d_Model_mean_91 : decode prog_11_method_12_code 91 = .ok (.ireturn, 1) := by decide +kernel
def q_mo_mean (cI : ClassId) (g0 : Nat) (g1 : Nat) (g2 : Nat) (g3 : Nat) (g4 : Nat) (g5 : Nat) (g6 : Nat) (g7 : Nat) (g8 : Nat) (g9 : Nat) (g10 : Nat) (g11 : Nat) (g12 : Nat) (g13 : Nat) (g14 : Nat) (g15 : Nat) (isz : Int32) (ith : Int32) (ico : Int32) (cx : Nat) (ry : Nat) (ibi : Int32) (ien : Int32) (itr : Int32) (ibl : Int32) (ile : Int32) (igr : Int32) (ibk : Int32) (ist : Int32) (ibr : Int32) (ab : Nat → Int32) (lf : Nat → Int32) : Int32 → va_W → Prop := fun rr ww => rr = (meanB (b2i ry) (b2i cx) ab lf) ∧ ww = [(g0, .inr (9, [.ref g1, .ref g2, .ref g3, .ref g4, .ref g5, .ref g6, .ref g7, .ref g8, .ref g9, .ref g10, .ref g11, .ref g12, .ref g13, .ref g14, .ref g15, .int isz, .int ith, .int ico, .int (nI cx), .int (nI ry), .int ibi, .int ien, .int itr, .int ibl, .int ile, .int igr, .int ibk, .int ist, .int ibr])), (g9, .inl (cI, 4, .inl ab)), (g10, .inl (cI, 4, .inl lf))]
set_option maxHeartbeats 4000000 in
set_option maxRecDepth 100000 in
theorem c_mo_mean (l : Launch) {D : va_G} {tys : List (ClassId × FieldType)} {cI : ClassId} (hcI : tys[0]? = some (cI, .int)) (g0 : Nat) (g1 : Nat) (g2 : Nat) (g3 : Nat) (g4 : Nat) (g5 : Nat) (g6 : Nat) (g7 : Nat) (g8 : Nat) (g9 : Nat) (g10 : Nat) (g11 : Nat) (g12 : Nat) (g13 : Nat) (g14 : Nat) (g15 : Nat) (isz : Int32) (ith : Int32) (ico : Int32) (cx : Nat) (ry : Nat) (ibi : Int32) (ien : Int32) (itr : Int32) (ibl : Int32) (ile : Int32) (igr : Int32) (ibk : Int32) (ist : Int32) (ibr : Int32) (ab : Nat → Int32) (lf : Nat → Int32) (hry : ry < 2147483648) (hcx : cx < 2147483648) : CsI l D vwCl tys y_Model_mean ws_Model_mean ({ frames := 0, cells := 0, slots := 0, locals := 0 } : Room) [.ref g0] [(g0, .inr (9, [.ref g1, .ref g2, .ref g3, .ref g4, .ref g5, .ref g6, .ref g7, .ref g8, .ref g9, .ref g10, .ref g11, .ref g12, .ref g13, .ref g14, .ref g15, .int isz, .int ith, .int ico, .int (nI cx), .int (nI ry), .int ibi, .int ien, .int itr, .int ibl, .int ile, .int igr, .int ibk, .int ist, .int ibr])), (g9, .inl (cI, 4, .inl ab)), (g10, .inl (cI, 4, .inl lf))] (q_mo_mean cI g0 g1 g2 g3 g4 g5 g6 g7 g8 g9 g10 g11 g12 g13 g14 g15 isz ith ico cx ry ibi ien itr ibl ile igr ibk ist ibr ab lf) 0 0 := by
  intro sz
  refine Met.ofW (cc := prog_11_method_12_code) (maxL := 4) (ret := (some .int)) (by decide) rfl ?_
  intro p e s m args below meth c s₁ B hml hv
  obtain ⟨rfl, hsz, hP, hK, hD0, hN⟩ := hv
  have hx := B.exec
  have hb := B.bytes
  have hr := B.returns
  have hts := atoms_spec (ws := ws_Model_mean) B.pre
  have hown : s.vm.findClass "TileForgeModel" = some m.cls := findClass_of_methodNamed B.named
  have hlocks := B.notSynchronized
  subst hsz
  have hD := hD0.self (sz := s.heap.size)
  generalize hAe : va_A [(g0, .inr (9, [.ref g1, .ref g2, .ref g3, .ref g4, .ref g5, .ref g6, .ref g7, .ref g8, .ref g9, .ref g10, .ref g11, .ref g12, .ref g13, .ref g14, .ref g15, .int isz, .int ith, .int ico, .int (nI cx), .int (nI ry), .int ibi, .int ien, .int itr, .int ibl, .int ile, .int igr, .int ibk, .int ist, .int ibr])), (g9, .inl (cI, 4, .inl ab)), (g10, .inl (cI, 4, .inl lf))] s.heap.size = A at hD ⊢
  have hA : ∀ q : Nat, s.heap.size ≤ q → A q := fun q h => by rw [← hAe]; exact Or.inr h
  have hS : va_S A s.heap s.heap [] := va_S.rf
  have hP : va_P D vwCl [(g0, .inr (9, [.ref g1, .ref g2, .ref g3, .ref g4, .ref g5, .ref g6, .ref g7, .ref g8, .ref g9, .ref g10, .ref g11, .ref g12, .ref g13, .ref g14, .ref g15, .int isz, .int ith, .int ico, .int (nI cx), .int (nI ry), .int ibi, .int ien, .int itr, .int ibl, .int ile, .int igr, .int ibk, .int ist, .int ibr])), (g9, .inl (cI, 4, .inl ab)), (g10, .inl (cI, 4, .inl lf))] s.heap := hP
  have hl := lv_entry ([.ref g0]) (n := 4) (Nat.le_of_ble_eq_true rfl)
  rw [lg_entry_eq]
  generalize (lg_sl ([.ref g0]) ++ List.replicate (4 - (lg_sl ([.ref g0])).length) Slot.unset).toArray = ls at hl ⊢
  have hl : lv_has ls 4 [(0, .ref g0)] := hl
  refine lv_iconst (v := 0) hx hb d_Model_mean_0 (by decide) ?_
  refine lv_istore_n (lv' := [(1, .int 0), (0, .ref g0)]) hx hb d_Model_mean_1 rfl hl (by decide) rfl (fun ls hl => ?_)
  refine lv_iconst (v := 0) hx hb d_Model_mean_2 (by decide) ?_
  refine lv_istore_n (lv' := [(2, .int 0), (1, .int 0), (0, .ref g0)]) hx hb d_Model_mean_3 rfl hl (by decide) rfl (fun ls hl => ?_)
  refine lv_iconst (v := 0) hx hb d_Model_mean_4 (by decide) ?_
  refine lv_istore_n (lv' := [(3, .int 0), (2, .int 0), (1, .int 0), (0, .ref g0)]) hx hb d_Model_mean_5 rfl hl (by decide) rfl (fun ls hl => ?_)
  have lp6 : ∀ (n : Nat) (k : Nat), (5 ≤ k + n) → (k ≤ 4) → ∀ (H : Heap) (locs : List Loc) (ls : Array Slot), va_P D vwCl [(g0, .inr (9, [.ref g1, .ref g2, .ref g3, .ref g4, .ref g5, .ref g6, .ref g7, .ref g8, .ref g9, .ref g10, .ref g11, .ref g12, .ref g13, .ref g14, .ref g15, .int isz, .int ith, .int ico, .int (nI cx), .int (nI ry), .int ibi, .int ien, .int itr, .int ibl, .int ile, .int igr, .int ibk, .int ist, .int ibr])), (g9, .inl (cI, 4, .inl ab)), (g10, .inl (cI, 4, .inl lf))] H → va_D A [(g0, .inr (9, [.ref g1, .ref g2, .ref g3, .ref g4, .ref g5, .ref g6, .ref g7, .ref g8, .ref g9, .ref g10, .ref g11, .ref g12, .ref g13, .ref g14, .ref g15, .int isz, .int ith, .int ico, .int (nI cx), .int (nI ry), .int ibi, .int ien, .int itr, .int ibl, .int ile, .int igr, .int ibk, .int ist, .int ibr])), (g9, .inl (cI, 4, .inl ab)), (g10, .inl (cI, 4, .inl lf))] → va_S A s.heap H locs → lv_has ls 4 [(0, .ref g0), (1, .int (sumF ab k)), (2, .int (sumF lf k)), (3, .int (nI k))] → W p l e ({ frames := 0, cells := 0, slots := 0, locals := 0 } : Room) s m ([.ref g0] : List Value).toArray below meth c H locs 0 0 (MQ below (va_Qi (q_mo_mean cI g0 g1 g2 g3 g4 g5 g6 g7 g8 g9 g10 g11 g12 g13 g14 g15 isz ith ico cx ry ibi ien itr ibl ile igr ibk ist ibr ab lf) (cs_B D vwCl tys A) A) ([.ref g0] : List Value).toArray s 0 0 A) (F0 m 6 ls []) := by
    intro n
    induction n with
    | zero =>
      intro k hf hk
      exact absurd hf (by omega)
    | succ n ih6 =>
      intro k hf hk H locs ls hP hD hS hl
      refine lv_iload_n hx hb d_Model_mean_6 rfl (lv_at hl 3 rfl) ?_
      refine lv_iconst (v := 4) hx hb d_Model_mean_7 (by decide) ?_
      refine lv_icmp_ge (tgt := 35) hx hb d_Model_mean_8 (by decide) (fun c_8 => ?_) (fun c_8 => ?_)
      · have hk2 := (nI_leI (a := 4) (b := k) (by decide) (by omega)).mp c_8
        have hk3 : k = 4 := by omega
        subst hk3
        refine lv_aload_n hx hb d_Model_mean_35 rfl (lv_at hl 0 rfl) ?_
        refine va_get (D := D) (ci := 9) (v := .int (nI ry)) (C := "TileForgeModel") (T := T_Model) (N := 29) hx hb hts (cs_in in_Model) hown hK hP 0 rfl rfl 19 (by decide) (hts _ (cs_m mw_358)) (fun _ h9 => h9) rfl d_Model_mean_36 ?_
        refine lv_if_le (tgt := 58) hx hb d_Model_mean_39 (by decide) (fun c_39 => ?_) (fun c_39 => ?_)
        · have hr1 : ry = 0 := cs_le0 c_39 (by omega)
          refine lv_aload_n hx hb d_Model_mean_58 rfl (lv_at hl 0 rfl) ?_
          refine va_get (D := D) (ci := 9) (v := .int (nI ry)) (C := "TileForgeModel") (T := T_Model) (N := 29) hx hb hts (cs_in in_Model) hown hK hP 0 rfl rfl 19 (by decide) (hts _ (cs_m mw_358)) (fun _ h9 => h9) rfl d_Model_mean_59 ?_
          refine lv_if_le (tgt := 73) hx hb d_Model_mean_62 (by decide) (fun c_62 => ?_) (fun c_62 => ?_)
          · have hr2 : ry = 0 := cs_le0 c_62 (by omega)
            refine lv_aload_n hx hb d_Model_mean_73 rfl (lv_at hl 0 rfl) ?_
            refine va_get (D := D) (ci := 9) (v := .int (nI cx)) (C := "TileForgeModel") (T := T_Model) (N := 29) hx hb hts (cs_in in_Model) hown hK hP 0 rfl rfl 18 (by decide) (hts _ (cs_m mw_359)) (fun _ h9 => h9) rfl d_Model_mean_74 ?_
            refine lv_if_le (tgt := 88) hx hb d_Model_mean_77 (by decide) (fun c_77 => ?_) (fun c_77 => ?_)
            · have hc2 : cx = 0 := cs_le0 c_77 (by omega)
              refine lv_sipush (v := 128) hx hb d_Model_mean_88 (by decide) ?_
              exact W.iret (v := 128) hx hb hr (fun t ht hW => ⟨⟨128, [(g0, .inr (9, [.ref g1, .ref g2, .ref g3, .ref g4, .ref g5, .ref g6, .ref g7, .ref g8, .ref g9, .ref g10, .ref g11, .ref g12, .ref g13, .ref g14, .ref g15, .int isz, .int ith, .int ico, .int (nI cx), .int (nI ry), .int ibi, .int ien, .int itr, .int ibl, .int ile, .int igr, .int ibk, .int ist, .int ibr])), (g9, .inl (cI, 4, .inl ab)), (g10, .inl (cI, 4, .inl lf))], rfl, ⟨(by first | exact absurd hr1 hr2 | exact absurd hr2 hr1 | exact absurd hc1 hc2 | exact absurd hc2 hc1 | (simp only [sumF4, meanB]; simp [b2i, hr1, hr2, hc2])), (rfl)⟩, by rw [ht]; exact hP, va_K.moved hW.alike hK, hD⟩, hS.F ht⟩) hS.2.2 d_Model_mean_91
            · have hc2 : ¬ cx = 0 := Nat.ne_of_gt (cs_gt0 c_77)
              refine lv_iload_n hx hb d_Model_mean_80 rfl (lv_at hl 2 rfl) ?_
              refine lv_iconst (v := 2) hx hb d_Model_mean_81 (by decide) ?_
              refine lv_iadd hx hb d_Model_mean_82 ?_
              refine lv_iconst (v := 4) hx hb d_Model_mean_83 (by decide) ?_
              refine lv_idiv hx hb d_Model_mean_84 (by decide) ?_
              refine lv_goto (tgt := 91) hx hb d_Model_mean_85 (by decide) ?_
              exact W.iret (v := (((sumF lf 4) + 2) / 4)) hx hb hr (fun t ht hW => ⟨⟨(((sumF lf 4) + 2) / 4), [(g0, .inr (9, [.ref g1, .ref g2, .ref g3, .ref g4, .ref g5, .ref g6, .ref g7, .ref g8, .ref g9, .ref g10, .ref g11, .ref g12, .ref g13, .ref g14, .ref g15, .int isz, .int ith, .int ico, .int (nI cx), .int (nI ry), .int ibi, .int ien, .int itr, .int ibl, .int ile, .int igr, .int ibk, .int ist, .int ibr])), (g9, .inl (cI, 4, .inl ab)), (g10, .inl (cI, 4, .inl lf))], rfl, ⟨(by first | exact absurd hr1 hr2 | exact absurd hr2 hr1 | exact absurd hc1 hc2 | exact absurd hc2 hc1 | (simp only [sumF4, meanB]; simp [b2i, hr1, hr2, hc2])), (rfl)⟩, by rw [ht]; exact hP, va_K.moved hW.alike hK, hD⟩, hS.F ht⟩) hS.2.2 d_Model_mean_91
          · have hr2 : ¬ ry = 0 := Nat.ne_of_gt (cs_gt0 c_62)
            refine lv_iload_n hx hb d_Model_mean_65 rfl (lv_at hl 1 rfl) ?_
            refine lv_iconst (v := 2) hx hb d_Model_mean_66 (by decide) ?_
            refine lv_iadd hx hb d_Model_mean_67 ?_
            refine lv_iconst (v := 4) hx hb d_Model_mean_68 (by decide) ?_
            refine lv_idiv hx hb d_Model_mean_69 (by decide) ?_
            refine lv_goto (tgt := 91) hx hb d_Model_mean_70 (by decide) ?_
            exact W.iret (v := (((sumF ab 4) + 2) / 4)) hx hb hr (fun t ht hW => ⟨⟨(((sumF ab 4) + 2) / 4), [(g0, .inr (9, [.ref g1, .ref g2, .ref g3, .ref g4, .ref g5, .ref g6, .ref g7, .ref g8, .ref g9, .ref g10, .ref g11, .ref g12, .ref g13, .ref g14, .ref g15, .int isz, .int ith, .int ico, .int (nI cx), .int (nI ry), .int ibi, .int ien, .int itr, .int ibl, .int ile, .int igr, .int ibk, .int ist, .int ibr])), (g9, .inl (cI, 4, .inl ab)), (g10, .inl (cI, 4, .inl lf))], rfl, ⟨(by first | exact absurd hr1 hr2 | exact absurd hr2 hr1 | exact absurd hc1 hc2 | exact absurd hc2 hc1 | (simp only [sumF4, meanB]; simp [b2i, hr1, hr2])), (rfl)⟩, by rw [ht]; exact hP, va_K.moved hW.alike hK, hD⟩, hS.F ht⟩) hS.2.2 d_Model_mean_91
        · have hr1 : ¬ ry = 0 := Nat.ne_of_gt (cs_gt0 c_39)
          refine lv_aload_n hx hb d_Model_mean_42 rfl (lv_at hl 0 rfl) ?_
          refine va_get (D := D) (ci := 9) (v := .int (nI cx)) (C := "TileForgeModel") (T := T_Model) (N := 29) hx hb hts (cs_in in_Model) hown hK hP 0 rfl rfl 18 (by decide) (hts _ (cs_m mw_359)) (fun _ h9 => h9) rfl d_Model_mean_43 ?_
          refine lv_if_le (tgt := 58) hx hb d_Model_mean_46 (by decide) (fun c_46 => ?_) (fun c_46 => ?_)
          · have hc1 : cx = 0 := cs_le0 c_46 (by omega)
            refine lv_aload_n hx hb d_Model_mean_58 rfl (lv_at hl 0 rfl) ?_
            refine va_get (D := D) (ci := 9) (v := .int (nI ry)) (C := "TileForgeModel") (T := T_Model) (N := 29) hx hb hts (cs_in in_Model) hown hK hP 0 rfl rfl 19 (by decide) (hts _ (cs_m mw_358)) (fun _ h9 => h9) rfl d_Model_mean_59 ?_
            refine lv_if_le (tgt := 73) hx hb d_Model_mean_62 (by decide) (fun c_62 => ?_) (fun c_62 => ?_)
            · have hr2 : ry = 0 := cs_le0 c_62 (by omega)
              refine lv_aload_n hx hb d_Model_mean_73 rfl (lv_at hl 0 rfl) ?_
              refine va_get (D := D) (ci := 9) (v := .int (nI cx)) (C := "TileForgeModel") (T := T_Model) (N := 29) hx hb hts (cs_in in_Model) hown hK hP 0 rfl rfl 18 (by decide) (hts _ (cs_m mw_359)) (fun _ h9 => h9) rfl d_Model_mean_74 ?_
              refine lv_if_le (tgt := 88) hx hb d_Model_mean_77 (by decide) (fun c_77 => ?_) (fun c_77 => ?_)
              · have hc2 : cx = 0 := cs_le0 c_77 (by omega)
                refine lv_sipush (v := 128) hx hb d_Model_mean_88 (by decide) ?_
                exact W.iret (v := 128) hx hb hr (fun t ht hW => ⟨⟨128, [(g0, .inr (9, [.ref g1, .ref g2, .ref g3, .ref g4, .ref g5, .ref g6, .ref g7, .ref g8, .ref g9, .ref g10, .ref g11, .ref g12, .ref g13, .ref g14, .ref g15, .int isz, .int ith, .int ico, .int (nI cx), .int (nI ry), .int ibi, .int ien, .int itr, .int ibl, .int ile, .int igr, .int ibk, .int ist, .int ibr])), (g9, .inl (cI, 4, .inl ab)), (g10, .inl (cI, 4, .inl lf))], rfl, ⟨(by first | exact absurd hr1 hr2 | exact absurd hr2 hr1 | exact absurd hc1 hc2 | exact absurd hc2 hc1 | (simp only [sumF4, meanB]; simp [b2i, hr1, hc1, hr2, hc2])), (rfl)⟩, by rw [ht]; exact hP, va_K.moved hW.alike hK, hD⟩, hS.F ht⟩) hS.2.2 d_Model_mean_91
              · have hc2 : ¬ cx = 0 := Nat.ne_of_gt (cs_gt0 c_77)
                refine lv_iload_n hx hb d_Model_mean_80 rfl (lv_at hl 2 rfl) ?_
                refine lv_iconst (v := 2) hx hb d_Model_mean_81 (by decide) ?_
                refine lv_iadd hx hb d_Model_mean_82 ?_
                refine lv_iconst (v := 4) hx hb d_Model_mean_83 (by decide) ?_
                refine lv_idiv hx hb d_Model_mean_84 (by decide) ?_
                refine lv_goto (tgt := 91) hx hb d_Model_mean_85 (by decide) ?_
                exact W.iret (v := (((sumF lf 4) + 2) / 4)) hx hb hr (fun t ht hW => ⟨⟨(((sumF lf 4) + 2) / 4), [(g0, .inr (9, [.ref g1, .ref g2, .ref g3, .ref g4, .ref g5, .ref g6, .ref g7, .ref g8, .ref g9, .ref g10, .ref g11, .ref g12, .ref g13, .ref g14, .ref g15, .int isz, .int ith, .int ico, .int (nI cx), .int (nI ry), .int ibi, .int ien, .int itr, .int ibl, .int ile, .int igr, .int ibk, .int ist, .int ibr])), (g9, .inl (cI, 4, .inl ab)), (g10, .inl (cI, 4, .inl lf))], rfl, ⟨(by first | exact absurd hr1 hr2 | exact absurd hr2 hr1 | exact absurd hc1 hc2 | exact absurd hc2 hc1 | (simp only [sumF4, meanB]; simp [b2i, hr1, hc1, hr2, hc2])), (rfl)⟩, by rw [ht]; exact hP, va_K.moved hW.alike hK, hD⟩, hS.F ht⟩) hS.2.2 d_Model_mean_91
            · have hr2 : ¬ ry = 0 := Nat.ne_of_gt (cs_gt0 c_62)
              refine lv_iload_n hx hb d_Model_mean_65 rfl (lv_at hl 1 rfl) ?_
              refine lv_iconst (v := 2) hx hb d_Model_mean_66 (by decide) ?_
              refine lv_iadd hx hb d_Model_mean_67 ?_
              refine lv_iconst (v := 4) hx hb d_Model_mean_68 (by decide) ?_
              refine lv_idiv hx hb d_Model_mean_69 (by decide) ?_
              refine lv_goto (tgt := 91) hx hb d_Model_mean_70 (by decide) ?_
              exact W.iret (v := (((sumF ab 4) + 2) / 4)) hx hb hr (fun t ht hW => ⟨⟨(((sumF ab 4) + 2) / 4), [(g0, .inr (9, [.ref g1, .ref g2, .ref g3, .ref g4, .ref g5, .ref g6, .ref g7, .ref g8, .ref g9, .ref g10, .ref g11, .ref g12, .ref g13, .ref g14, .ref g15, .int isz, .int ith, .int ico, .int (nI cx), .int (nI ry), .int ibi, .int ien, .int itr, .int ibl, .int ile, .int igr, .int ibk, .int ist, .int ibr])), (g9, .inl (cI, 4, .inl ab)), (g10, .inl (cI, 4, .inl lf))], rfl, ⟨(by first | exact absurd hr1 hr2 | exact absurd hr2 hr1 | exact absurd hc1 hc2 | exact absurd hc2 hc1 | (simp only [sumF4, meanB]; simp [b2i, hr1, hc1, hr2])), (rfl)⟩, by rw [ht]; exact hP, va_K.moved hW.alike hK, hD⟩, hS.F ht⟩) hS.2.2 d_Model_mean_91
          · have hc1 : ¬ cx = 0 := Nat.ne_of_gt (cs_gt0 c_46)
            refine lv_iload_n hx hb d_Model_mean_49 rfl (lv_at hl 1 rfl) ?_
            refine lv_iload_n hx hb d_Model_mean_50 rfl (lv_at hl 2 rfl) ?_
            refine lv_iadd hx hb d_Model_mean_51 ?_
            refine lv_iconst (v := 4) hx hb d_Model_mean_52 (by decide) ?_
            refine lv_iadd hx hb d_Model_mean_53 ?_
            refine lv_bipush (v := 8) hx hb d_Model_mean_54 (by decide) ?_
            refine lv_idiv hx hb d_Model_mean_56 (by decide) ?_
            exact W.iret (v := ((((sumF ab 4) + (sumF lf 4)) + 4) / 8)) hx hb hr (fun t ht hW => ⟨⟨((((sumF ab 4) + (sumF lf 4)) + 4) / 8), [(g0, .inr (9, [.ref g1, .ref g2, .ref g3, .ref g4, .ref g5, .ref g6, .ref g7, .ref g8, .ref g9, .ref g10, .ref g11, .ref g12, .ref g13, .ref g14, .ref g15, .int isz, .int ith, .int ico, .int (nI cx), .int (nI ry), .int ibi, .int ien, .int itr, .int ibl, .int ile, .int igr, .int ibk, .int ist, .int ibr])), (g9, .inl (cI, 4, .inl ab)), (g10, .inl (cI, 4, .inl lf))], rfl, ⟨(by first | exact absurd hr1 hr2 | exact absurd hr2 hr1 | exact absurd hc1 hc2 | exact absurd hc2 hc1 | (simp only [sumF4, meanB]; simp [b2i, hr1, hc1])), (rfl)⟩, by rw [ht]; exact hP, va_K.moved hW.alike hK, hD⟩, hS.F ht⟩) hS.2.2 d_Model_mean_57
      · have hk2 : k < 4 := Nat.not_le.mp (fun h => c_8 ((nI_leI (a := 4) (b := k) (by decide) (by omega)).mpr h))
        refine lv_iload_n hx hb d_Model_mean_11 rfl (lv_at hl 1 rfl) ?_
        refine lv_aload_n hx hb d_Model_mean_12 rfl (lv_at hl 0 rfl) ?_
        refine va_get (D := D) (ci := 9) (v := .ref g9) (C := "TileForgeModel") (T := T_Model) (N := 29) hx hb hts (cs_in in_Model) hown hK hP 0 rfl rfl 8 (by decide) (hts _ (cs_m mw_360)) (fun _ h9 => h9) rfl d_Model_mean_13 ?_
        refine lv_iload_n hx hb d_Model_mean_16 rfl (lv_at hl 3 rfl) ?_
        refine cs_iald (j := k) hx hb hK hcI hP 1 rfl (rfl) (by omega) (by decide) d_Model_mean_17 ?_
        refine lv_iadd hx hb d_Model_mean_18 ?_
        refine lv_istore_n (lv' := [(1, .int ((sumF ab k) + (ab k))), (0, .ref g0), (2, .int (sumF lf k)), (3, .int (nI k))]) hx hb d_Model_mean_19 rfl hl (by decide) rfl (fun ls hl => ?_)
        refine lv_iload_n hx hb d_Model_mean_20 rfl (lv_at hl 2 rfl) ?_
        refine lv_aload_n hx hb d_Model_mean_21 rfl (lv_at hl 1 rfl) ?_
        refine va_get (D := D) (ci := 9) (v := .ref g10) (C := "TileForgeModel") (T := T_Model) (N := 29) hx hb hts (cs_in in_Model) hown hK hP 0 rfl rfl 9 (by decide) (hts _ (cs_m mw_361)) (fun _ h9 => h9) rfl d_Model_mean_22 ?_
        refine lv_iload_n hx hb d_Model_mean_25 rfl (lv_at hl 3 rfl) ?_
        refine cs_iald (j := k) hx hb hK hcI hP 2 rfl (rfl) (by omega) (by decide) d_Model_mean_26 ?_
        refine lv_iadd hx hb d_Model_mean_27 ?_
        refine lv_istore_n (lv' := [(2, .int ((sumF lf k) + (lf k))), (1, .int ((sumF ab k) + (ab k))), (0, .ref g0), (3, .int (nI k))]) hx hb d_Model_mean_28 rfl hl (by decide) rfl (fun ls hl => ?_)
        refine lv_iinc (v := nI (k + 1)) (lv' := [(3, .int (nI (k + 1))), (2, .int ((sumF lf k) + (lf k))), (1, .int ((sumF ab k) + (ab k))), (0, .ref g0)]) hx hb d_Model_mean_29 hl (k := 3) rfl (nI_1 _) (by decide) rfl (fun ls hl => ?_)
        refine lv_goto (tgt := 6) hx hb d_Model_mean_32 (by decide) ?_
        exact ih6 (k + 1) (by omega) (by omega) _ _ _ (hP.sub (ws' := [(g0, .inr (9, [.ref g1, .ref g2, .ref g3, .ref g4, .ref g5, .ref g6, .ref g7, .ref g8, .ref g9, .ref g10, .ref g11, .ref g12, .ref g13, .ref g14, .ref g15, .int isz, .int ith, .int ico, .int (nI cx), .int (nI ry), .int ibi, .int ien, .int itr, .int ibl, .int ile, .int igr, .int ibk, .int ist, .int ibr])), (g9, .inl (cI, 4, .inl ab)), (g10, .inl (cI, 4, .inl lf))]) [0, 1, 2] rfl) (hD.sub (ws' := [(g0, .inr (9, [.ref g1, .ref g2, .ref g3, .ref g4, .ref g5, .ref g6, .ref g7, .ref g8, .ref g9, .ref g10, .ref g11, .ref g12, .ref g13, .ref g14, .ref g15, .int isz, .int ith, .int ico, .int (nI cx), .int (nI ry), .int ibi, .int ien, .int itr, .int ibl, .int ile, .int igr, .int ibk, .int ist, .int ibr])), (g9, .inl (cI, 4, .inl ab)), (g10, .inl (cI, 4, .inl lf))]) [0, 1, 2] (by decide) rfl) hS (lv_sub hl [3, 2, 1, 0] rfl)
  exact lp6 (5) 0 (by omega) (by omega) _ _ _ (hP.sub (ws' := [(g0, .inr (9, [.ref g1, .ref g2, .ref g3, .ref g4, .ref g5, .ref g6, .ref g7, .ref g8, .ref g9, .ref g10, .ref g11, .ref g12, .ref g13, .ref g14, .ref g15, .int isz, .int ith, .int ico, .int (nI cx), .int (nI ry), .int ibi, .int ien, .int itr, .int ibl, .int ile, .int igr, .int ibk, .int ist, .int ibr])), (g9, .inl (cI, 4, .inl ab)), (g10, .inl (cI, 4, .inl lf))]) [0, 1, 2] rfl) (hD.sub (ws' := [(g0, .inr (9, [.ref g1, .ref g2, .ref g3, .ref g4, .ref g5, .ref g6, .ref g7, .ref g8, .ref g9, .ref g10, .ref g11, .ref g12, .ref g13, .ref g14, .ref g15, .int isz, .int ith, .int ico, .int (nI cx), .int (nI ry), .int ibi, .int ien, .int itr, .int ibl, .int ile, .int igr, .int ibk, .int ist, .int ibr])), (g9, .inl (cI, 4, .inl ab)), (g10, .inl (cI, 4, .inl lf))]) [0, 1, 2] (by decide) rfl) hS (lv_sub hl [3, 2, 1, 0] rfl)
def y_Model_foretold : MethodName := ⟨"TileForgeModel", "foretold", "(III)I"⟩
def ws_Model_foretold : List Cond := .code y_Model_foretold prog_11_method_13_code 4 (some .int) :: GW
theorem mw_363 : (.code ⟨"TileForgeModel", "foretold", "(III)I"⟩ prog_11_method_13_code 4 (some .int) : Cond) ∈ GW := List.mem_filter.mpr ⟨(List.mem_append_right _ (List.mem_append_right _ (List.mem_append_right _ (List.mem_append_right _ (List.mem_of_getElem? (i := 107) rfl))))), rfl⟩
theorem hd_Model_foretold : y_Model_foretold.cls ≠ "java/lang/invoke/MethodHandle" ∧ y_Model_foretold.cls ≠ "java/lang/invoke/VarHandle" ∧ (parseMethodDescriptor y_Model_foretold.desc).map (fun d => d.parameters.length) = some 3 := by decide +kernel
theorem d_Model_foretold_0 : decode prog_11_method_13_code 0 = .ok (.iload_n 1, 1) := by decide +kernel
theorem d_Model_foretold_1 : decode prog_11_method_13_code 1 = .ok (.tableswitch 46 0 2 #[27, 32, 39], 27) := by decide +kernel
theorem d_Model_foretold_28 : decode prog_11_method_13_code 28 = .ok (.aload_n 0, 1) := by decide +kernel
theorem d_Model_foretold_29 : decode prog_11_method_13_code 29 = .ok (.invokevirtual 87, 3) := by decide +kernel
theorem d_Model_foretold_32 : decode prog_11_method_13_code 32 = .ok (.ireturn, 1) := by decide +kernel
theorem d_Model_foretold_33 : decode prog_11_method_13_code 33 = .ok (.aload_n 0, 1) := by decide +kernel
theorem d_Model_foretold_34 : decode prog_11_method_13_code 34 = .ok (.getfield 34, 3) := by decide +kernel
theorem d_Model_foretold_37 : decode prog_11_method_13_code 37 = .ok (.iload_n 2, 1) := by decide +kernel
theorem d_Model_foretold_38 : decode prog_11_method_13_code 38 = .ok (.iaload, 1) := by decide +kernel
theorem d_Model_foretold_39 : decode prog_11_method_13_code 39 = .ok (.ireturn, 1) := by decide +kernel
theorem d_Model_foretold_40 : decode prog_11_method_13_code 40 = .ok (.aload_n 0, 1) := by decide +kernel
theorem d_Model_foretold_41 : decode prog_11_method_13_code 41 = .ok (.getfield 37, 3) := by decide +kernel
theorem d_Model_foretold_44 : decode prog_11_method_13_code 44 = .ok (.iload_n 3, 1) := by decide +kernel
theorem d_Model_foretold_45 : decode prog_11_method_13_code 45 = .ok (.iaload, 1) := by decide +kernel
theorem d_Model_foretold_46 : decode prog_11_method_13_code 46 = .ok (.ireturn, 1) := by decide +kernel
theorem d_Model_foretold_47 : decode prog_11_method_13_code 47 = .ok (.aload_n 0, 1) := by decide +kernel
theorem d_Model_foretold_48 : decode prog_11_method_13_code 48 = .ok (.getfield 37, 3) := by decide +kernel
theorem d_Model_foretold_51 : decode prog_11_method_13_code 51 = .ok (.iload_n 3, 1) := by decide +kernel
theorem d_Model_foretold_52 : decode prog_11_method_13_code 52 = .ok (.iaload, 1) := by decide +kernel
theorem d_Model_foretold_53 : decode prog_11_method_13_code 53 = .ok (.aload_n 0, 1) := by decide +kernel
theorem d_Model_foretold_54 : decode prog_11_method_13_code 54 = .ok (.getfield 34, 3) := by decide +kernel
theorem d_Model_foretold_57 : decode prog_11_method_13_code 57 = .ok (.iload_n 2, 1) := by decide +kernel
theorem d_Model_foretold_58 : decode prog_11_method_13_code 58 = .ok (.iaload, 1) := by decide +kernel
theorem d_Model_foretold_59 : decode prog_11_method_13_code 59 = .ok (.iadd, 1) := by decide +kernel
theorem d_Model_foretold_60 : decode prog_11_method_13_code 60 = .ok (.aload_n 0, 1) := by decide +kernel
theorem d_Model_foretold_61 : decode prog_11_method_13_code 61 = .ok (.getfield 78, 3) := by decide +kernel
theorem d_Model_foretold_64 : decode prog_11_method_13_code 64 = .ok (.isub, 1) := by decide +kernel
theorem d_Model_foretold_65 : decode prog_11_method_13_code 65 = .ok (.invokestatic 75, 3) := by decide +kernel
theorem d_Model_foretold_68 : decode prog_11_method_13_code 68 = .ok (.ireturn, 1) := by decide +kernel
theorem mw_364 : (.methodLink "TileForgeModel" 87 ⟨"TileForgeModel", "mean", "()I"⟩ : Cond) ∈ GW := List.mem_filter.mpr ⟨(List.mem_append_right _ (List.mem_append_right _ (List.mem_append_right _ (List.mem_append_right _ (List.mem_of_getElem? (i := 108) rfl))))), rfl⟩
theorem mw_365 : (.instanceMethod ⟨"TileForgeModel", "mean", "()I"⟩ : Cond) ∈ GW := List.mem_filter.mpr ⟨(List.mem_append_right _ (List.mem_append_right _ (List.mem_append_right _ (List.mem_append_right _ (List.mem_of_getElem? (i := 110) rfl))))), rfl⟩
theorem mw_366 : (.selects "TileForgeModel" ⟨"TileForgeModel", "mean", "()I"⟩ ⟨"TileForgeModel", "mean", "()I"⟩ : Cond) ∈ GW := List.mem_filter.mpr ⟨(List.mem_append_left _ (List.mem_of_getElem? (i := 11) rfl)), rfl⟩
theorem mw_367 : (.methodLink "TileForgeModel" 75 ⟨"TileForgeModel", "clip", "(I)I"⟩ : Cond) ∈ GW := List.mem_filter.mpr ⟨(List.mem_append_right _ (List.mem_append_right _ (List.mem_append_right _ (List.mem_append_right _ (List.mem_of_getElem? (i := 77) rfl))))), rfl⟩
theorem mw_368 : (.static ⟨"TileForgeModel", "clip", "(I)I"⟩ : Cond) ∈ GW := List.mem_filter.mpr ⟨(List.mem_append_right _ (List.mem_append_right _ (List.mem_append_right _ (List.mem_append_right _ (List.mem_of_getElem? (i := 78) rfl))))), rfl⟩
def q_mo_fore (cI : ClassId) (g0 : Nat) (g1 : Nat) (g2 : Nat) (g3 : Nat) (g4 : Nat) (g5 : Nat) (g6 : Nat) (g7 : Nat) (g8 : Nat) (g9 : Nat) (g10 : Nat) (g11 : Nat) (g12 : Nat) (g13 : Nat) (g14 : Nat) (g15 : Nat) (isz : Int32) (ith : Int32) (ico : Int32) (cx : Nat) (ry : Nat) (ibi : Int32) (ien : Int32) (itr : Int32) (ibl : Int32) (ile : Int32) (igr : Int32) (ibk : Int32) (ist : Int32) (ibr : Int32) (ab : Nat → Int32) (lf : Nat → Int32) (way : Int32) (i : Nat) (j : Nat) : Int32 → va_W → Prop := fun rr ww => rr = (fo2 ry cx ab lf ico way i j) ∧ ww = [(g0, .inr (9, [.ref g1, .ref g2, .ref g3, .ref g4, .ref g5, .ref g6, .ref g7, .ref g8, .ref g9, .ref g10, .ref g11, .ref g12, .ref g13, .ref g14, .ref g15, .int isz, .int ith, .int ico, .int (nI cx), .int (nI ry), .int ibi, .int ien, .int itr, .int ibl, .int ile, .int igr, .int ibk, .int ist, .int ibr])), (g9, .inl (cI, 4, .inl ab)), (g10, .inl (cI, 4, .inl lf))]
set_option maxHeartbeats 4000000 in
set_option maxRecDepth 100000 in
theorem c_mo_fore (l : Launch) {D : va_G} {tys : List (ClassId × FieldType)} {cI : ClassId} (hcI : tys[0]? = some (cI, .int)) (g0 : Nat) (g1 : Nat) (g2 : Nat) (g3 : Nat) (g4 : Nat) (g5 : Nat) (g6 : Nat) (g7 : Nat) (g8 : Nat) (g9 : Nat) (g10 : Nat) (g11 : Nat) (g12 : Nat) (g13 : Nat) (g14 : Nat) (g15 : Nat) (isz : Int32) (ith : Int32) (ico : Int32) (cx : Nat) (ry : Nat) (ibi : Int32) (ien : Int32) (itr : Int32) (ibl : Int32) (ile : Int32) (igr : Int32) (ibk : Int32) (ist : Int32) (ibr : Int32) (ab : Nat → Int32) (lf : Nat → Int32) (way : Int32) (i : Nat) (j : Nat) (hry : ry < 2147483648) (hcx : cx < 2147483648) (hi4 : i < 4) (hj4 : j < 4) : CsI l D vwCl tys y_Model_foretold ws_Model_foretold ({ frames := 1, cells := 0, slots := 0, locals := 23 } : Room) [.ref g0, .int way, .int (nI i), .int (nI j)] [(g0, .inr (9, [.ref g1, .ref g2, .ref g3, .ref g4, .ref g5, .ref g6, .ref g7, .ref g8, .ref g9, .ref g10, .ref g11, .ref g12, .ref g13, .ref g14, .ref g15, .int isz, .int ith, .int ico, .int (nI cx), .int (nI ry), .int ibi, .int ien, .int itr, .int ibl, .int ile, .int igr, .int ibk, .int ist, .int ibr])), (g9, .inl (cI, 4, .inl ab)), (g10, .inl (cI, 4, .inl lf))] (q_mo_fore cI g0 g1 g2 g3 g4 g5 g6 g7 g8 g9 g10 g11 g12 g13 g14 g15 isz ith ico cx ry ibi ien itr ibl ile igr ibk ist ibr ab lf way i j) 0 0 := by
  intro sz
  refine Met.ofW (cc := prog_11_method_13_code) (maxL := 4) (ret := (some .int)) (by decide) rfl ?_
  intro p e s m args below meth c s₁ B hml hv
  obtain ⟨rfl, hsz, hP, hK, hD0, hN⟩ := hv
  have hx := B.exec
  have hb := B.bytes
  have hr := B.returns
  have hts := atoms_spec (ws := ws_Model_foretold) B.pre
  have hown : s.vm.findClass "TileForgeModel" = some m.cls := findClass_of_methodNamed B.named
  have hlocks := B.notSynchronized
  subst hsz
  have hD := hD0.self (sz := s.heap.size)
  generalize hAe : va_A [(g0, .inr (9, [.ref g1, .ref g2, .ref g3, .ref g4, .ref g5, .ref g6, .ref g7, .ref g8, .ref g9, .ref g10, .ref g11, .ref g12, .ref g13, .ref g14, .ref g15, .int isz, .int ith, .int ico, .int (nI cx), .int (nI ry), .int ibi, .int ien, .int itr, .int ibl, .int ile, .int igr, .int ibk, .int ist, .int ibr])), (g9, .inl (cI, 4, .inl ab)), (g10, .inl (cI, 4, .inl lf))] s.heap.size = A at hD ⊢
  have hA : ∀ q : Nat, s.heap.size ≤ q → A q := fun q h => by rw [← hAe]; exact Or.inr h
  have hS : va_S A s.heap s.heap [] := va_S.rf
  have hP : va_P D vwCl [(g0, .inr (9, [.ref g1, .ref g2, .ref g3, .ref g4, .ref g5, .ref g6, .ref g7, .ref g8, .ref g9, .ref g10, .ref g11, .ref g12, .ref g13, .ref g14, .ref g15, .int isz, .int ith, .int ico, .int (nI cx), .int (nI ry), .int ibi, .int ien, .int itr, .int ibl, .int ile, .int igr, .int ibk, .int ist, .int ibr])), (g9, .inl (cI, 4, .inl ab)), (g10, .inl (cI, 4, .inl lf))] s.heap := hP
  have hl := lv_entry ([.ref g0, .int way, .int (nI i), .int (nI j)]) (n := 4) (Nat.le_of_ble_eq_true rfl)
  rw [lg_entry_eq]
  generalize (lg_sl ([.ref g0, .int way, .int (nI i), .int (nI j)]) ++ List.replicate (4 - (lg_sl ([.ref g0, .int way, .int (nI i), .int (nI j)])).length) Slot.unset).toArray = ls at hl ⊢
  have hl : lv_has ls 4 [(0, .ref g0), (1, .int way), (2, .int (nI i)), (3, .int (nI j))] := hl
  refine lv_iload_n hx hb d_Model_foretold_0 rfl (lv_at hl 1 rfl) ?_
  by_cases s_1_0 : way = 0
  · refine cs_tin (k := 0) (tgt := 28) hx hb d_Model_foretold_1 s_1_0 (by decide) (by decide) rfl (by decide) ?_
    refine lv_aload_n hx hb d_Model_foretold_28 rfl (lv_at hl 0 rfl) ?_
    refine cs_Vi (As := []) (rest := []) (wr := []) ⟨hx, hb, hml, hown, hts⟩ (c_mo_mean l hcI g0 g1 g2 g3 g4 g5 g6 g7 g8 g9 g10 g11 g12 g13 g14 g15 isz ith ico cx ry ibi ien itr ibl ile igr ibk ist ibr ab lf (hry) (hcx)) (cwV 0 hts (cs_gV mw_364 mw_365 mw_366 mw_349 mw_362) rfl rfl rfl ⟨rfl, hd_Model_mean⟩ ⟨Nat.le_of_ble_eq_true rfl, Nat.le_of_ble_eq_true rfl⟩) hN hK hP hD hS hA [0, 1, 2] [] rfl rfl rfl rfl (by decide) (ci := 9) rfl rfl rfl rfl rfl hl.1 (Nat.le_of_ble_eq_true rfl) d_Model_foretold_29 ⟨Nat.le_of_ble_eq_true rfl, Nat.le_of_ble_eq_true rfl⟩ (fun r1 w1 H locs hw hP hD hS => ?_)
    obtain ⟨rfl, rfl⟩ := hw
    have hP : va_P D vwCl [(g0, .inr (9, [.ref g1, .ref g2, .ref g3, .ref g4, .ref g5, .ref g6, .ref g7, .ref g8, .ref g9, .ref g10, .ref g11, .ref g12, .ref g13, .ref g14, .ref g15, .int isz, .int ith, .int ico, .int (nI cx), .int (nI ry), .int ibi, .int ien, .int itr, .int ibl, .int ile, .int igr, .int ibk, .int ist, .int ibr])), (g9, .inl (cI, 4, .inl ab)), (g10, .inl (cI, 4, .inl lf))] H := hP
    have hD : va_D A [(g0, .inr (9, [.ref g1, .ref g2, .ref g3, .ref g4, .ref g5, .ref g6, .ref g7, .ref g8, .ref g9, .ref g10, .ref g11, .ref g12, .ref g13, .ref g14, .ref g15, .int isz, .int ith, .int ico, .int (nI cx), .int (nI ry), .int ibi, .int ien, .int itr, .int ibl, .int ile, .int igr, .int ibk, .int ist, .int ibr])), (g9, .inl (cI, 4, .inl ab)), (g10, .inl (cI, 4, .inl lf))] := hD
    exact W.iret (v := (meanB (b2i ry) (b2i cx) ab lf)) hx hb hr (fun t ht hW => ⟨⟨(meanB (b2i ry) (b2i cx) ab lf), [(g0, .inr (9, [.ref g1, .ref g2, .ref g3, .ref g4, .ref g5, .ref g6, .ref g7, .ref g8, .ref g9, .ref g10, .ref g11, .ref g12, .ref g13, .ref g14, .ref g15, .int isz, .int ith, .int ico, .int (nI cx), .int (nI ry), .int ibi, .int ien, .int itr, .int ibl, .int ile, .int igr, .int ibk, .int ist, .int ibr])), (g9, .inl (cI, 4, .inl ab)), (g10, .inl (cI, 4, .inl lf))], rfl, ⟨(by simp [fo2, s_1_0]), (rfl)⟩, by rw [ht]; exact hP, va_K.moved hW.alike hK, hD⟩, hS.F ht⟩) hS.2.2 d_Model_foretold_32
  by_cases s_1_1 : way = 1
  · refine cs_tin (k := 1) (tgt := 33) hx hb d_Model_foretold_1 s_1_1 (by decide) (by decide) rfl (by decide) ?_
    refine lv_aload_n hx hb d_Model_foretold_33 rfl (lv_at hl 0 rfl) ?_
    refine va_get (D := D) (ci := 9) (v := .ref g9) (C := "TileForgeModel") (T := T_Model) (N := 29) hx hb hts (cs_in in_Model) hown hK hP 0 rfl rfl 8 (by decide) (hts _ (cs_m mw_360)) (fun _ h9 => h9) rfl d_Model_foretold_34 ?_
    refine lv_iload_n hx hb d_Model_foretold_37 rfl (lv_at hl 2 rfl) ?_
    refine cs_iald (j := i) hx hb hK hcI hP 1 rfl (rfl) (hi4) (by decide) d_Model_foretold_38 ?_
    exact W.iret (v := (ab i)) hx hb hr (fun t ht hW => ⟨⟨(ab i), [(g0, .inr (9, [.ref g1, .ref g2, .ref g3, .ref g4, .ref g5, .ref g6, .ref g7, .ref g8, .ref g9, .ref g10, .ref g11, .ref g12, .ref g13, .ref g14, .ref g15, .int isz, .int ith, .int ico, .int (nI cx), .int (nI ry), .int ibi, .int ien, .int itr, .int ibl, .int ile, .int igr, .int ibk, .int ist, .int ibr])), (g9, .inl (cI, 4, .inl ab)), (g10, .inl (cI, 4, .inl lf))], rfl, ⟨(by simp [fo2, s_1_0, s_1_1]), (rfl)⟩, by rw [ht]; exact hP, va_K.moved hW.alike hK, hD⟩, hS.F ht⟩) hS.2.2 d_Model_foretold_39
  by_cases s_1_2 : way = 2
  · refine cs_tin (k := 2) (tgt := 40) hx hb d_Model_foretold_1 s_1_2 (by decide) (by decide) rfl (by decide) ?_
    refine lv_aload_n hx hb d_Model_foretold_40 rfl (lv_at hl 0 rfl) ?_
    refine va_get (D := D) (ci := 9) (v := .ref g10) (C := "TileForgeModel") (T := T_Model) (N := 29) hx hb hts (cs_in in_Model) hown hK hP 0 rfl rfl 9 (by decide) (hts _ (cs_m mw_361)) (fun _ h9 => h9) rfl d_Model_foretold_41 ?_
    refine lv_iload_n hx hb d_Model_foretold_44 rfl (lv_at hl 3 rfl) ?_
    refine cs_iald (j := j) hx hb hK hcI hP 2 rfl (rfl) (hj4) (by decide) d_Model_foretold_45 ?_
    exact W.iret (v := (lf j)) hx hb hr (fun t ht hW => ⟨⟨(lf j), [(g0, .inr (9, [.ref g1, .ref g2, .ref g3, .ref g4, .ref g5, .ref g6, .ref g7, .ref g8, .ref g9, .ref g10, .ref g11, .ref g12, .ref g13, .ref g14, .ref g15, .int isz, .int ith, .int ico, .int (nI cx), .int (nI ry), .int ibi, .int ien, .int itr, .int ibl, .int ile, .int igr, .int ibk, .int ist, .int ibr])), (g9, .inl (cI, 4, .inl ab)), (g10, .inl (cI, 4, .inl lf))], rfl, ⟨(by simp [fo2, s_1_0, s_1_1, s_1_2]), (rfl)⟩, by rw [ht]; exact hP, va_K.moved hW.alike hK, hD⟩, hS.F ht⟩) hS.2.2 d_Model_foretold_46
  refine lv_tableOut (tgt := 47) hx hb d_Model_foretold_1 (by have h0 := lv_neT s_1_0 (a := 0) rfl; have h1 := lv_neT s_1_1 (a := 1) rfl; have h2 := lv_neT s_1_2 (a := 2) rfl; omega) (by decide) ?_
  refine lv_aload_n hx hb d_Model_foretold_47 rfl (lv_at hl 0 rfl) ?_
  refine va_get (D := D) (ci := 9) (v := .ref g10) (C := "TileForgeModel") (T := T_Model) (N := 29) hx hb hts (cs_in in_Model) hown hK hP 0 rfl rfl 9 (by decide) (hts _ (cs_m mw_361)) (fun _ h9 => h9) rfl d_Model_foretold_48 ?_
  refine lv_iload_n hx hb d_Model_foretold_51 rfl (lv_at hl 3 rfl) ?_
  refine cs_iald (j := j) hx hb hK hcI hP 2 rfl (rfl) (hj4) (by decide) d_Model_foretold_52 ?_
  refine lv_aload_n hx hb d_Model_foretold_53 rfl (lv_at hl 0 rfl) ?_
  refine va_get (D := D) (ci := 9) (v := .ref g9) (C := "TileForgeModel") (T := T_Model) (N := 29) hx hb hts (cs_in in_Model) hown hK hP 0 rfl rfl 8 (by decide) (hts _ (cs_m mw_360)) (fun _ h9 => h9) rfl d_Model_foretold_54 ?_
  refine lv_iload_n hx hb d_Model_foretold_57 rfl (lv_at hl 2 rfl) ?_
  refine cs_iald (j := i) hx hb hK hcI hP 1 rfl (rfl) (hi4) (by decide) d_Model_foretold_58 ?_
  refine lv_iadd hx hb d_Model_foretold_59 ?_
  refine lv_aload_n hx hb d_Model_foretold_60 rfl (lv_at hl 0 rfl) ?_
  refine va_get (D := D) (ci := 9) (v := .int ico) (C := "TileForgeModel") (T := T_Model) (N := 29) hx hb hts (cs_in in_Model) hown hK hP 0 rfl rfl 17 (by decide) (hts _ (cs_m mw_357)) (fun _ h9 => h9) rfl d_Model_foretold_61 ?_
  refine lv_isub hx hb d_Model_foretold_64 ?_
  refine cs_Si (As := [.int (((lf j) + (ab i)) - ico)]) (rest := []) (wr := [(g0, .inr (9, [.ref g1, .ref g2, .ref g3, .ref g4, .ref g5, .ref g6, .ref g7, .ref g8, .ref g9, .ref g10, .ref g11, .ref g12, .ref g13, .ref g14, .ref g15, .int isz, .int ith, .int ico, .int (nI cx), .int (nI ry), .int ibi, .int ien, .int itr, .int ibl, .int ile, .int igr, .int ibk, .int ist, .int ibr])), (g9, .inl (cI, 4, .inl ab)), (g10, .inl (cI, 4, .inl lf))]) ⟨hx, hb, hml, hown, hts⟩ (c_mo_clip l hcI (((lf j) + (ab i)) - ico)) (va_cwS 1 hts (cs_gS mw_367 mw_368 mw_349 mw_345) rfl rfl rfl hd_Model_clip ⟨Nat.le_of_ble_eq_true rfl, Nat.le_of_ble_eq_true rfl⟩) hN hK hP hD hS hA [] [0, 1, 2] rfl rfl rfl rfl (by decide) rfl rfl hl.1 (Nat.le_of_ble_eq_true rfl) d_Model_foretold_65 ⟨Nat.le_of_ble_eq_true rfl, Nat.le_of_ble_eq_true rfl⟩ (fun r2 w1 H locs hw hP hD hS => ?_)
  obtain ⟨rfl, rfl⟩ := hw
  have hP : va_P D vwCl [(g0, .inr (9, [.ref g1, .ref g2, .ref g3, .ref g4, .ref g5, .ref g6, .ref g7, .ref g8, .ref g9, .ref g10, .ref g11, .ref g12, .ref g13, .ref g14, .ref g15, .int isz, .int ith, .int ico, .int (nI cx), .int (nI ry), .int ibi, .int ien, .int itr, .int ibl, .int ile, .int igr, .int ibk, .int ist, .int ibr])), (g9, .inl (cI, 4, .inl ab)), (g10, .inl (cI, 4, .inl lf))] H := hP
  have hD : va_D A [(g0, .inr (9, [.ref g1, .ref g2, .ref g3, .ref g4, .ref g5, .ref g6, .ref g7, .ref g8, .ref g9, .ref g10, .ref g11, .ref g12, .ref g13, .ref g14, .ref g15, .int isz, .int ith, .int ico, .int (nI cx), .int (nI ry), .int ibi, .int ien, .int itr, .int ibl, .int ile, .int igr, .int ibk, .int ist, .int ibr])), (g9, .inl (cI, 4, .inl ab)), (g10, .inl (cI, 4, .inl lf))] := hD
  exact W.iret (v := (clip (((lf j) + (ab i)) - ico))) hx hb hr (fun t ht hW => ⟨⟨(clip (((lf j) + (ab i)) - ico)), [(g0, .inr (9, [.ref g1, .ref g2, .ref g3, .ref g4, .ref g5, .ref g6, .ref g7, .ref g8, .ref g9, .ref g10, .ref g11, .ref g12, .ref g13, .ref g14, .ref g15, .int isz, .int ith, .int ico, .int (nI cx), .int (nI ry), .int ibi, .int ien, .int itr, .int ibl, .int ile, .int igr, .int ibk, .int ist, .int ibr])), (g9, .inl (cI, 4, .inl ab)), (g10, .inl (cI, 4, .inl lf))], rfl, ⟨(by simp [fo2, s_1_0, s_1_1, s_1_2]), (rfl)⟩, by rw [ht]; exact hP, va_K.moved hW.alike hK, hD⟩, hS.F ht⟩) hS.2.2 d_Model_foretold_68
def y_Model_four : MethodName := ⟨"TileForgeModel", "four", "(II)V"⟩
def ws_Model_four : List Cond := .code y_Model_four prog_11_method_14_code 7 none :: GW
theorem mw_369 : (.code ⟨"TileForgeModel", "four", "(II)V"⟩ prog_11_method_14_code 7 none : Cond) ∈ GW := List.mem_filter.mpr ⟨(List.mem_append_right _ (List.mem_append_right _ (List.mem_append_right _ (List.mem_append_right _ (List.mem_of_getElem? (i := 119) rfl))))), rfl⟩
theorem hd_Model_four : y_Model_four.cls ≠ "java/lang/invoke/MethodHandle" ∧ y_Model_four.cls ≠ "java/lang/invoke/VarHandle" ∧ (parseMethodDescriptor y_Model_four.desc).map (fun d => d.parameters.length) = some 2 := by decide +kernel
theorem d_Model_four_0 : decode prog_11_method_14_code 0 = .ok (.aload_n 0, 1) := by decide +kernel
theorem d_Model_four_1 : decode prog_11_method_14_code 1 = .ok (.getfield 25, 3) := by decide +kernel
theorem d_Model_four_4 : decode prog_11_method_14_code 4 = .ok (.iload_n 1, 1) := by decide +kernel
theorem d_Model_four_5 : decode prog_11_method_14_code 5 = .ok (.iaload, 1) := by decide +kernel
theorem d_Model_four_6 : decode prog_11_method_14_code 6 = .ok (.istore_n 3, 1) := by decide +kernel
theorem d_Model_four_7 : decode prog_11_method_14_code 7 = .ok (.aload_n 0, 1) := by decide +kernel
theorem d_Model_four_8 : decode prog_11_method_14_code 8 = .ok (.getfield 25, 3) := by decide +kernel
theorem d_Model_four_11 : decode prog_11_method_14_code 11 = .ok (.iload_n 1, 1) := by decide +kernel
theorem d_Model_four_12 : decode prog_11_method_14_code 12 = .ok (.iload_n 2, 1) := by decide +kernel
theorem d_Model_four_13 : decode prog_11_method_14_code 13 = .ok (.iadd, 1) := by decide +kernel
theorem d_Model_four_14 : decode prog_11_method_14_code 14 = .ok (.iaload, 1) := by decide +kernel
theorem d_Model_four_15 : decode prog_11_method_14_code 15 = .ok (.istore 4, 2) := by decide +kernel
theorem d_Model_four_17 : decode prog_11_method_14_code 17 = .ok (.aload_n 0, 1) := by decide +kernel
theorem d_Model_four_18 : decode prog_11_method_14_code 18 = .ok (.getfield 25, 3) := by decide +kernel
theorem d_Model_four_21 : decode prog_11_method_14_code 21 = .ok (.iload_n 1, 1) := by decide +kernel
theorem d_Model_four_22 : decode prog_11_method_14_code 22 = .ok (.iconst 2, 1) := by decide +kernel
theorem d_Model_four_23 : decode prog_11_method_14_code 23 = .ok (.iload_n 2, 1) := by decide +kernel
theorem d_Model_four_24 : decode prog_11_method_14_code 24 = .ok (.imul, 1) := by decide +kernel
theorem d_Model_four_25 : decode prog_11_method_14_code 25 = .ok (.iadd, 1) := by decide +kernel
theorem d_Model_four_26 : decode prog_11_method_14_code 26 = .ok (.iaload, 1) := by decide +kernel
theorem d_Model_four_27 : decode prog_11_method_14_code 27 = .ok (.istore 5, 2) := by decide +kernel
theorem d_Model_four_29 : decode prog_11_method_14_code 29 = .ok (.aload_n 0, 1) := by decide +kernel
theorem d_Model_four_30 : decode prog_11_method_14_code 30 = .ok (.getfield 25, 3) := by decide +kernel
theorem d_Model_four_33 : decode prog_11_method_14_code 33 = .ok (.iload_n 1, 1) := by decide +kernel
theorem d_Model_four_34 : decode prog_11_method_14_code 34 = .ok (.iconst 3, 1) := by decide +kernel
theorem d_Model_four_35 : decode prog_11_method_14_code 35 = .ok (.iload_n 2, 1) := by decide +kernel
theorem d_Model_four_36 : decode prog_11_method_14_code 36 = .ok (.imul, 1) := by decide +kernel
theorem d_Model_four_37 : decode prog_11_method_14_code 37 = .ok (.iadd, 1) := by decide +kernel
theorem d_Model_four_38 : decode prog_11_method_14_code 38 = .ok (.iaload, 1) := by decide +kernel
theorem d_Model_four_39 : decode prog_11_method_14_code 39 = .ok (.istore 6, 2) := by decide +kernel
theorem d_Model_four_41 : decode prog_11_method_14_code 41 = .ok (.aload_n 0, 1) := by decide +kernel
theorem d_Model_four_42 : decode prog_11_method_14_code 42 = .ok (.getfield 25, 3) := by decide +kernel
theorem d_Model_four_45 : decode prog_11_method_14_code 45 = .ok (.iload_n 1, 1) := by decide +kernel
theorem d_Model_four_46 : decode prog_11_method_14_code 46 = .ok (.iload_n 3, 1) := by decide +kernel
theorem d_Model_four_47 : decode prog_11_method_14_code 47 = .ok (.iload 4, 2) := by decide +kernel
theorem d_Model_four_49 : decode prog_11_method_14_code 49 = .ok (.iadd, 1) := by decide +kernel
theorem d_Model_four_50 : decode prog_11_method_14_code 50 = .ok (.iload 5, 2) := by decide +kernel
theorem d_Model_four_52 : decode prog_11_method_14_code 52 = .ok (.iadd, 1) := by decide +kernel
theorem d_Model_four_53 : decode prog_11_method_14_code 53 = .ok (.iload 6, 2) := by decide +kernel
theorem d_Model_four_55 : decode prog_11_method_14_code 55 = .ok (.iadd, 1) := by decide +kernel
theorem d_Model_four_56 : decode prog_11_method_14_code 56 = .ok (.iastore, 1) := by decide +kernel
theorem d_Model_four_57 : decode prog_11_method_14_code 57 = .ok (.aload_n 0, 1) := by decide +kernel
theorem d_Model_four_58 : decode prog_11_method_14_code 58 = .ok (.getfield 25, 3) := by decide +kernel
theorem d_Model_four_61 : decode prog_11_method_14_code 61 = .ok (.iload_n 1, 1) := by decide +kernel
theorem d_Model_four_62 : decode prog_11_method_14_code 62 = .ok (.iload_n 2, 1) := by decide +kernel
theorem d_Model_four_63 : decode prog_11_method_14_code 63 = .ok (.iadd, 1) := by decide +kernel
theorem d_Model_four_64 : decode prog_11_method_14_code 64 = .ok (.iload_n 3, 1) := by decide +kernel
theorem d_Model_four_65 : decode prog_11_method_14_code 65 = .ok (.iload 4, 2) := by decide +kernel
theorem d_Model_four_67 : decode prog_11_method_14_code 67 = .ok (.iadd, 1) := by decide +kernel
theorem d_Model_four_68 : decode prog_11_method_14_code 68 = .ok (.iload 5, 2) := by decide +kernel
theorem d_Model_four_70 : decode prog_11_method_14_code 70 = .ok (.isub, 1) := by decide +kernel
theorem d_Model_four_71 : decode prog_11_method_14_code 71 = .ok (.iload 6, 2) := by decide +kernel
theorem d_Model_four_73 : decode prog_11_method_14_code 73 = .ok (.isub, 1) := by decide +kernel
theorem d_Model_four_74 : decode prog_11_method_14_code 74 = .ok (.iastore, 1) := by decide +kernel
theorem d_Model_four_75 : decode prog_11_method_14_code 75 = .ok (.aload_n 0, 1) := by decide +kernel
theorem d_Model_four_76 : decode prog_11_method_14_code 76 = .ok (.getfield 25, 3) := by decide +kernel
theorem d_Model_four_79 : decode prog_11_method_14_code 79 = .ok (.iload_n 1, 1) := by decide +kernel
theorem d_Model_four_80 : decode prog_11_method_14_code 80 = .ok (.iconst 2, 1) := by decide +kernel
theorem d_Model_four_81 : decode prog_11_method_14_code 81 = .ok (.iload_n 2, 1) := by decide +kernel
theorem d_Model_four_82 : decode prog_11_method_14_code 82 = .ok (.imul, 1) := by decide +kernel
theorem d_Model_four_83 : decode prog_11_method_14_code 83 = .ok (.iadd, 1) := by decide +kernel
theorem d_Model_four_84 : decode prog_11_method_14_code 84 = .ok (.iload_n 3, 1) := by decide +kernel
theorem d_Model_four_85 : decode prog_11_method_14_code 85 = .ok (.iload 4, 2) := by decide +kernel
theorem d_Model_four_87 : decode prog_11_method_14_code 87 = .ok (.isub, 1) := by decide +kernel
theorem d_Model_four_88 : decode prog_11_method_14_code 88 = .ok (.iload 5, 2) := by decide +kernel
theorem d_Model_four_90 : decode prog_11_method_14_code 90 = .ok (.isub, 1) := by decide +kernel
theorem d_Model_four_91 : decode prog_11_method_14_code 91 = .ok (.iload 6, 2) := by decide +kernel
theorem d_Model_four_93 : decode prog_11_method_14_code 93 = .ok (.iadd, 1) := by decide +kernel
theorem d_Model_four_94 : decode prog_11_method_14_code 94 = .ok (.iastore, 1) := by decide +kernel
theorem d_Model_four_95 : decode prog_11_method_14_code 95 = .ok (.aload_n 0, 1) := by decide +kernel
theorem d_Model_four_96 : decode prog_11_method_14_code 96 = .ok (.getfield 25, 3) := by decide +kernel
theorem d_Model_four_99 : decode prog_11_method_14_code 99 = .ok (.iload_n 1, 1) := by decide +kernel
theorem d_Model_four_100 : decode prog_11_method_14_code 100 = .ok (.iconst 3, 1) := by decide +kernel
theorem d_Model_four_101 : decode prog_11_method_14_code 101 = .ok (.iload_n 2, 1) := by decide +kernel
theorem d_Model_four_102 : decode prog_11_method_14_code 102 = .ok (.imul, 1) := by decide +kernel
theorem d_Model_four_103 : decode prog_11_method_14_code 103 = .ok (.iadd, 1) := by decide +kernel
theorem d_Model_four_104 : decode prog_11_method_14_code 104 = .ok (.iload_n 3, 1) := by decide +kernel
theorem d_Model_four_105 : decode prog_11_method_14_code 105 = .ok (.iload 4, 2) := by decide +kernel
theorem d_Model_four_107 : decode prog_11_method_14_code 107 = .ok (.isub, 1) := by decide +kernel
theorem d_Model_four_108 : decode prog_11_method_14_code 108 = .ok (.iload 5, 2) := by decide +kernel
theorem d_Model_four_110 : decode prog_11_method_14_code 110 = .ok (.iadd, 1) := by decide +kernel
theorem d_Model_four_111 : decode prog_11_method_14_code 111 = .ok (.iload 6, 2) := by decide +kernel
theorem d_Model_four_113 : decode prog_11_method_14_code 113 = .ok (.isub, 1) := by decide +kernel
theorem d_Model_four_114 : decode prog_11_method_14_code 114 = .ok (.iastore, 1) := by decide +kernel
theorem d_Model_four_115 : decode prog_11_method_14_code 115 = .ok (.return_, 1) := by decide +kernel
theorem mw_370 : (.fieldLink "TileForgeModel" 25 "TileForgeModel" "block" "[I" : Cond) ∈ GW := List.mem_filter.mpr ⟨(List.mem_append_right _ (List.mem_append_right _ (List.mem_append_right _ (List.mem_append_left _ (List.mem_of_getElem? (i := 203) rfl))))), rfl⟩
def q_mo_four (cI : ClassId) (g0 : Nat) (g1 : Nat) (g2 : Nat) (g3 : Nat) (g4 : Nat) (g5 : Nat) (g6 : Nat) (g7 : Nat) (g8 : Nat) (g9 : Nat) (g10 : Nat) (g11 : Nat) (g12 : Nat) (g13 : Nat) (g14 : Nat) (g15 : Nat) (isz : Int32) (ith : Int32) (ico : Int32) (icl : Int32) (irw : Int32) (ibi : Int32) (ien : Int32) (itr : Int32) (ibl : Int32) (ile : Int32) (igr : Int32) (ibk : Int32) (ist : Int32) (ibr : Int32) (bk : Nat → Int32) (k1 : Nat) (st : Nat) : va_W → Prop := fun ww => ww = [(g0, .inr (9, [.ref g1, .ref g2, .ref g3, .ref g4, .ref g5, .ref g6, .ref g7, .ref g8, .ref g9, .ref g10, .ref g11, .ref g12, .ref g13, .ref g14, .ref g15, .int isz, .int ith, .int ico, .int icl, .int irw, .int ibi, .int ien, .int itr, .int ibl, .int ile, .int igr, .int ibk, .int ist, .int ibr])), (g6, .inl (cI, 16, .inl (trL bk k1 (k1 + st) (k1 + 2 * st) (k1 + 3 * st))))]
set_option maxHeartbeats 4000000 in
set_option maxRecDepth 100000 in
theorem c_mo_four (l : Launch) {D : va_G} {tys : List (ClassId × FieldType)} {cI : ClassId} (hcI : tys[0]? = some (cI, .int)) (g0 : Nat) (g1 : Nat) (g2 : Nat) (g3 : Nat) (g4 : Nat) (g5 : Nat) (g6 : Nat) (g7 : Nat) (g8 : Nat) (g9 : Nat) (g10 : Nat) (g11 : Nat) (g12 : Nat) (g13 : Nat) (g14 : Nat) (g15 : Nat) (isz : Int32) (ith : Int32) (ico : Int32) (icl : Int32) (irw : Int32) (ibi : Int32) (ien : Int32) (itr : Int32) (ibl : Int32) (ile : Int32) (igr : Int32) (ibk : Int32) (ist : Int32) (ibr : Int32) (bk : Nat → Int32) (k1 : Nat) (st : Nat) (h16 : k1 + 3 * st < 16) : CsV l D vwCl tys y_Model_four ws_Model_four ({ frames := 0, cells := 0, slots := 0, locals := 0 } : Room) [.ref g0, .int (nI k1), .int (nI st)] [(g0, .inr (9, [.ref g1, .ref g2, .ref g3, .ref g4, .ref g5, .ref g6, .ref g7, .ref g8, .ref g9, .ref g10, .ref g11, .ref g12, .ref g13, .ref g14, .ref g15, .int isz, .int ith, .int ico, .int icl, .int irw, .int ibi, .int ien, .int itr, .int ibl, .int ile, .int igr, .int ibk, .int ist, .int ibr])), (g6, .inl (cI, 16, .inl bk))] (q_mo_four cI g0 g1 g2 g3 g4 g5 g6 g7 g8 g9 g10 g11 g12 g13 g14 g15 isz ith ico icl irw ibi ien itr ibl ile igr ibk ist ibr bk k1 st) 0 0 := by
  intro sz
  refine Met.ofW (cc := prog_11_method_14_code) (maxL := 7) (ret := none) (by decide) rfl ?_
  intro p e s m args below meth c s₁ B hml hv
  obtain ⟨rfl, hsz, hP, hK, hD0, hN⟩ := hv
  have hx := B.exec
  have hb := B.bytes
  have hr := B.returns
  have hts := atoms_spec (ws := ws_Model_four) B.pre
  have hown : s.vm.findClass "TileForgeModel" = some m.cls := findClass_of_methodNamed B.named
  have hlocks := B.notSynchronized
  subst hsz
  have hD := hD0.self (sz := s.heap.size)
  generalize hAe : va_A [(g0, .inr (9, [.ref g1, .ref g2, .ref g3, .ref g4, .ref g5, .ref g6, .ref g7, .ref g8, .ref g9, .ref g10, .ref g11, .ref g12, .ref g13, .ref g14, .ref g15, .int isz, .int ith, .int ico, .int icl, .int irw, .int ibi, .int ien, .int itr, .int ibl, .int ile, .int igr, .int ibk, .int ist, .int ibr])), (g6, .inl (cI, 16, .inl bk))] s.heap.size = A at hD ⊢
  have hA : ∀ q : Nat, s.heap.size ≤ q → A q := fun q h => by rw [← hAe]; exact Or.inr h
  have hS : va_S A s.heap s.heap [] := va_S.rf
  have hP : va_P D vwCl [(g0, .inr (9, [.ref g1, .ref g2, .ref g3, .ref g4, .ref g5, .ref g6, .ref g7, .ref g8, .ref g9, .ref g10, .ref g11, .ref g12, .ref g13, .ref g14, .ref g15, .int isz, .int ith, .int ico, .int icl, .int irw, .int ibi, .int ien, .int itr, .int ibl, .int ile, .int igr, .int ibk, .int ist, .int ibr])), (g6, .inl (cI, 16, .inl bk))] s.heap := hP
  have hl := lv_entry ([.ref g0, .int (nI k1), .int (nI st)]) (n := 7) (Nat.le_of_ble_eq_true rfl)
  rw [lg_entry_eq]
  generalize (lg_sl ([.ref g0, .int (nI k1), .int (nI st)]) ++ List.replicate (7 - (lg_sl ([.ref g0, .int (nI k1), .int (nI st)])).length) Slot.unset).toArray = ls at hl ⊢
  have hl : lv_has ls 7 [(0, .ref g0), (1, .int (nI k1)), (2, .int (nI st))] := hl
  refine lv_aload_n hx hb d_Model_four_0 rfl (lv_at hl 0 rfl) ?_
  refine va_get (D := D) (ci := 9) (v := .ref g6) (C := "TileForgeModel") (T := T_Model) (N := 29) hx hb hts (cs_in in_Model) hown hK hP 0 rfl rfl 5 (by decide) (hts _ (cs_m mw_370)) (fun _ h9 => h9) rfl d_Model_four_1 ?_
  refine lv_iload_n hx hb d_Model_four_4 rfl (lv_at hl 1 rfl) ?_
  refine cs_iald (j := k1) hx hb hK hcI hP 1 rfl (rfl) (by omega) (by decide) d_Model_four_5 ?_
  refine lv_istore_n (lv' := [(3, .int (bk k1)), (0, .ref g0), (1, .int (nI k1)), (2, .int (nI st))]) hx hb d_Model_four_6 rfl hl (by decide) rfl (fun ls hl => ?_)
  refine lv_aload_n hx hb d_Model_four_7 rfl (lv_at hl 1 rfl) ?_
  refine va_get (D := D) (ci := 9) (v := .ref g6) (C := "TileForgeModel") (T := T_Model) (N := 29) hx hb hts (cs_in in_Model) hown hK hP 0 rfl rfl 5 (by decide) (hts _ (cs_m mw_370)) (fun _ h9 => h9) rfl d_Model_four_8 ?_
  refine lv_iload_n hx hb d_Model_four_11 rfl (lv_at hl 2 rfl) ?_
  refine lv_iload_n hx hb d_Model_four_12 rfl (lv_at hl 3 rfl) ?_
  refine lv_iadd hx hb d_Model_four_13 ?_
  refine cs_iald (j := k1 + st) hx hb hK hcI hP 1 rfl (nI_add k1 st) (by omega) (by decide) d_Model_four_14 ?_
  refine lv_istore (lv' := [(4, .int (bk (k1 + st))), (3, .int (bk k1)), (0, .ref g0), (1, .int (nI k1)), (2, .int (nI st))]) hx hb d_Model_four_15 hl (by decide) rfl (fun ls hl => ?_)
  refine lv_aload_n hx hb d_Model_four_17 rfl (lv_at hl 2 rfl) ?_
  refine va_get (D := D) (ci := 9) (v := .ref g6) (C := "TileForgeModel") (T := T_Model) (N := 29) hx hb hts (cs_in in_Model) hown hK hP 0 rfl rfl 5 (by decide) (hts _ (cs_m mw_370)) (fun _ h9 => h9) rfl d_Model_four_18 ?_
  refine lv_iload_n hx hb d_Model_four_21 rfl (lv_at hl 3 rfl) ?_
  refine lv_iconst (v := 2) hx hb d_Model_four_22 (by decide) ?_
  refine lv_iload_n hx hb d_Model_four_23 rfl (lv_at hl 4 rfl) ?_
  refine lv_imul hx hb d_Model_four_24 ?_
  refine lv_iadd hx hb d_Model_four_25 ?_
  refine cs_iald (j := k1 + 2 * st) hx hb hK hcI hP 1 rfl (cs_k2 2 k1 st) (by omega) (by decide) d_Model_four_26 ?_
  refine lv_istore (lv' := [(5, .int (bk (k1 + 2 * st))), (4, .int (bk (k1 + st))), (3, .int (bk k1)), (0, .ref g0), (1, .int (nI k1)), (2, .int (nI st))]) hx hb d_Model_four_27 hl (by decide) rfl (fun ls hl => ?_)
  refine lv_aload_n hx hb d_Model_four_29 rfl (lv_at hl 3 rfl) ?_
  refine va_get (D := D) (ci := 9) (v := .ref g6) (C := "TileForgeModel") (T := T_Model) (N := 29) hx hb hts (cs_in in_Model) hown hK hP 0 rfl rfl 5 (by decide) (hts _ (cs_m mw_370)) (fun _ h9 => h9) rfl d_Model_four_30 ?_
  refine lv_iload_n hx hb d_Model_four_33 rfl (lv_at hl 4 rfl) ?_
  refine lv_iconst (v := 3) hx hb d_Model_four_34 (by decide) ?_
  refine lv_iload_n hx hb d_Model_four_35 rfl (lv_at hl 5 rfl) ?_
  refine lv_imul hx hb d_Model_four_36 ?_
  refine lv_iadd hx hb d_Model_four_37 ?_
  refine cs_iald (j := k1 + 3 * st) hx hb hK hcI hP 1 rfl (cs_k2 3 k1 st) (by omega) (by decide) d_Model_four_38 ?_
  refine lv_istore (lv' := [(6, .int (bk (k1 + 3 * st))), (5, .int (bk (k1 + 2 * st))), (4, .int (bk (k1 + st))), (3, .int (bk k1)), (0, .ref g0), (1, .int (nI k1)), (2, .int (nI st))]) hx hb d_Model_four_39 hl (by decide) rfl (fun ls hl => ?_)
  refine lv_aload_n hx hb d_Model_four_41 rfl (lv_at hl 4 rfl) ?_
  refine va_get (D := D) (ci := 9) (v := .ref g6) (C := "TileForgeModel") (T := T_Model) (N := 29) hx hb hts (cs_in in_Model) hown hK hP 0 rfl rfl 5 (by decide) (hts _ (cs_m mw_370)) (fun _ h9 => h9) rfl d_Model_four_42 ?_
  refine lv_iload_n hx hb d_Model_four_45 rfl (lv_at hl 5 rfl) ?_
  refine lv_iload_n hx hb d_Model_four_46 rfl (lv_at hl 3 rfl) ?_
  refine lv_iload hx hb d_Model_four_47 (lv_at hl 2 rfl) ?_
  refine lv_iadd hx hb d_Model_four_49 ?_
  refine lv_iload hx hb d_Model_four_50 (lv_at hl 1 rfl) ?_
  refine lv_iadd hx hb d_Model_four_52 ?_
  refine lv_iload hx hb d_Model_four_53 (lv_at hl 0 rfl) ?_
  refine lv_iadd hx hb d_Model_four_55 ?_
  refine cs_iast (j := k1) hx hb hK hcI hP hD hS 1 rfl (rfl) (by omega) (by decide) d_Model_four_56 (fun H locs hP hD hS => ?_)
  have hP : va_P D vwCl [(g0, .inr (9, [.ref g1, .ref g2, .ref g3, .ref g4, .ref g5, .ref g6, .ref g7, .ref g8, .ref g9, .ref g10, .ref g11, .ref g12, .ref g13, .ref g14, .ref g15, .int isz, .int ith, .int ico, .int icl, .int irw, .int ibi, .int ien, .int itr, .int ibl, .int ile, .int igr, .int ibk, .int ist, .int ibr])), (g6, .inl (cI, 16, .inl (upd bk k1 ((((bk k1) + (bk (k1 + st))) + (bk (k1 + 2 * st))) + (bk (k1 + 3 * st))))))] H := hP
  have hD : va_D A [(g0, .inr (9, [.ref g1, .ref g2, .ref g3, .ref g4, .ref g5, .ref g6, .ref g7, .ref g8, .ref g9, .ref g10, .ref g11, .ref g12, .ref g13, .ref g14, .ref g15, .int isz, .int ith, .int ico, .int icl, .int irw, .int ibi, .int ien, .int itr, .int ibl, .int ile, .int igr, .int ibk, .int ist, .int ibr])), (g6, .inl (cI, 16, .inl (upd bk k1 ((((bk k1) + (bk (k1 + st))) + (bk (k1 + 2 * st))) + (bk (k1 + 3 * st))))))] := hD
  refine lv_aload_n hx hb d_Model_four_57 rfl (lv_at hl 4 rfl) ?_
  refine va_get (D := D) (ci := 9) (v := .ref g6) (C := "TileForgeModel") (T := T_Model) (N := 29) hx hb hts (cs_in in_Model) hown hK hP 0 rfl rfl 5 (by decide) (hts _ (cs_m mw_370)) (fun _ h9 => h9) rfl d_Model_four_58 ?_
  refine lv_iload_n hx hb d_Model_four_61 rfl (lv_at hl 5 rfl) ?_
  refine lv_iload_n hx hb d_Model_four_62 rfl (lv_at hl 6 rfl) ?_
  refine lv_iadd hx hb d_Model_four_63 ?_
  refine lv_iload_n hx hb d_Model_four_64 rfl (lv_at hl 3 rfl) ?_
  refine lv_iload hx hb d_Model_four_65 (lv_at hl 2 rfl) ?_
  refine lv_iadd hx hb d_Model_four_67 ?_
  refine lv_iload hx hb d_Model_four_68 (lv_at hl 1 rfl) ?_
  refine lv_isub hx hb d_Model_four_70 ?_
  refine lv_iload hx hb d_Model_four_71 (lv_at hl 0 rfl) ?_
  refine lv_isub hx hb d_Model_four_73 ?_
  refine cs_iast (j := k1 + st) hx hb hK hcI hP hD hS 1 rfl (nI_add k1 st) (by omega) (by decide) d_Model_four_74 (fun H locs hP hD hS => ?_)
  have hP : va_P D vwCl [(g0, .inr (9, [.ref g1, .ref g2, .ref g3, .ref g4, .ref g5, .ref g6, .ref g7, .ref g8, .ref g9, .ref g10, .ref g11, .ref g12, .ref g13, .ref g14, .ref g15, .int isz, .int ith, .int ico, .int icl, .int irw, .int ibi, .int ien, .int itr, .int ibl, .int ile, .int igr, .int ibk, .int ist, .int ibr])), (g6, .inl (cI, 16, .inl (upd (upd bk k1 ((((bk k1) + (bk (k1 + st))) + (bk (k1 + 2 * st))) + (bk (k1 + 3 * st)))) (k1 + st) ((((bk k1) + (bk (k1 + st))) - (bk (k1 + 2 * st))) - (bk (k1 + 3 * st))))))] H := hP
  have hD : va_D A [(g0, .inr (9, [.ref g1, .ref g2, .ref g3, .ref g4, .ref g5, .ref g6, .ref g7, .ref g8, .ref g9, .ref g10, .ref g11, .ref g12, .ref g13, .ref g14, .ref g15, .int isz, .int ith, .int ico, .int icl, .int irw, .int ibi, .int ien, .int itr, .int ibl, .int ile, .int igr, .int ibk, .int ist, .int ibr])), (g6, .inl (cI, 16, .inl (upd (upd bk k1 ((((bk k1) + (bk (k1 + st))) + (bk (k1 + 2 * st))) + (bk (k1 + 3 * st)))) (k1 + st) ((((bk k1) + (bk (k1 + st))) - (bk (k1 + 2 * st))) - (bk (k1 + 3 * st))))))] := hD
  refine lv_aload_n hx hb d_Model_four_75 rfl (lv_at hl 4 rfl) ?_
  refine va_get (D := D) (ci := 9) (v := .ref g6) (C := "TileForgeModel") (T := T_Model) (N := 29) hx hb hts (cs_in in_Model) hown hK hP 0 rfl rfl 5 (by decide) (hts _ (cs_m mw_370)) (fun _ h9 => h9) rfl d_Model_four_76 ?_
  refine lv_iload_n hx hb d_Model_four_79 rfl (lv_at hl 5 rfl) ?_
  refine lv_iconst (v := 2) hx hb d_Model_four_80 (by decide) ?_
  refine lv_iload_n hx hb d_Model_four_81 rfl (lv_at hl 6 rfl) ?_
  refine lv_imul hx hb d_Model_four_82 ?_
  refine lv_iadd hx hb d_Model_four_83 ?_
  refine lv_iload_n hx hb d_Model_four_84 rfl (lv_at hl 3 rfl) ?_
  refine lv_iload hx hb d_Model_four_85 (lv_at hl 2 rfl) ?_
  refine lv_isub hx hb d_Model_four_87 ?_
  refine lv_iload hx hb d_Model_four_88 (lv_at hl 1 rfl) ?_
  refine lv_isub hx hb d_Model_four_90 ?_
  refine lv_iload hx hb d_Model_four_91 (lv_at hl 0 rfl) ?_
  refine lv_iadd hx hb d_Model_four_93 ?_
  refine cs_iast (j := k1 + 2 * st) hx hb hK hcI hP hD hS 1 rfl (cs_k2 2 k1 st) (by omega) (by decide) d_Model_four_94 (fun H locs hP hD hS => ?_)
  have hP : va_P D vwCl [(g0, .inr (9, [.ref g1, .ref g2, .ref g3, .ref g4, .ref g5, .ref g6, .ref g7, .ref g8, .ref g9, .ref g10, .ref g11, .ref g12, .ref g13, .ref g14, .ref g15, .int isz, .int ith, .int ico, .int icl, .int irw, .int ibi, .int ien, .int itr, .int ibl, .int ile, .int igr, .int ibk, .int ist, .int ibr])), (g6, .inl (cI, 16, .inl (upd (upd (upd bk k1 ((((bk k1) + (bk (k1 + st))) + (bk (k1 + 2 * st))) + (bk (k1 + 3 * st)))) (k1 + st) ((((bk k1) + (bk (k1 + st))) - (bk (k1 + 2 * st))) - (bk (k1 + 3 * st)))) (k1 + 2 * st) ((((bk k1) - (bk (k1 + st))) - (bk (k1 + 2 * st))) + (bk (k1 + 3 * st))))))] H := hP
  have hD : va_D A [(g0, .inr (9, [.ref g1, .ref g2, .ref g3, .ref g4, .ref g5, .ref g6, .ref g7, .ref g8, .ref g9, .ref g10, .ref g11, .ref g12, .ref g13, .ref g14, .ref g15, .int isz, .int ith, .int ico, .int icl, .int irw, .int ibi, .int ien, .int itr, .int ibl, .int ile, .int igr, .int ibk, .int ist, .int ibr])), (g6, .inl (cI, 16, .inl (upd (upd (upd bk k1 ((((bk k1) + (bk (k1 + st))) + (bk (k1 + 2 * st))) + (bk (k1 + 3 * st)))) (k1 + st) ((((bk k1) + (bk (k1 + st))) - (bk (k1 + 2 * st))) - (bk (k1 + 3 * st)))) (k1 + 2 * st) ((((bk k1) - (bk (k1 + st))) - (bk (k1 + 2 * st))) + (bk (k1 + 3 * st))))))] := hD
  refine lv_aload_n hx hb d_Model_four_95 rfl (lv_at hl 4 rfl) ?_
  refine va_get (D := D) (ci := 9) (v := .ref g6) (C := "TileForgeModel") (T := T_Model) (N := 29) hx hb hts (cs_in in_Model) hown hK hP 0 rfl rfl 5 (by decide) (hts _ (cs_m mw_370)) (fun _ h9 => h9) rfl d_Model_four_96 ?_
  refine lv_iload_n hx hb d_Model_four_99 rfl (lv_at hl 5 rfl) ?_
  refine lv_iconst (v := 3) hx hb d_Model_four_100 (by decide) ?_
  refine lv_iload_n hx hb d_Model_four_101 rfl (lv_at hl 6 rfl) ?_
  refine lv_imul hx hb d_Model_four_102 ?_
  refine lv_iadd hx hb d_Model_four_103 ?_
  refine lv_iload_n hx hb d_Model_four_104 rfl (lv_at hl 3 rfl) ?_
  refine lv_iload hx hb d_Model_four_105 (lv_at hl 2 rfl) ?_
  refine lv_isub hx hb d_Model_four_107 ?_
  refine lv_iload hx hb d_Model_four_108 (lv_at hl 1 rfl) ?_
  refine lv_iadd hx hb d_Model_four_110 ?_
  refine lv_iload hx hb d_Model_four_111 (lv_at hl 0 rfl) ?_
  refine lv_isub hx hb d_Model_four_113 ?_
  refine cs_iast (j := k1 + 3 * st) hx hb hK hcI hP hD hS 1 rfl (cs_k2 3 k1 st) (by omega) (by decide) d_Model_four_114 (fun H locs hP hD hS => ?_)
  have hP : va_P D vwCl [(g0, .inr (9, [.ref g1, .ref g2, .ref g3, .ref g4, .ref g5, .ref g6, .ref g7, .ref g8, .ref g9, .ref g10, .ref g11, .ref g12, .ref g13, .ref g14, .ref g15, .int isz, .int ith, .int ico, .int icl, .int irw, .int ibi, .int ien, .int itr, .int ibl, .int ile, .int igr, .int ibk, .int ist, .int ibr])), (g6, .inl (cI, 16, .inl (upd (upd (upd (upd bk k1 ((((bk k1) + (bk (k1 + st))) + (bk (k1 + 2 * st))) + (bk (k1 + 3 * st)))) (k1 + st) ((((bk k1) + (bk (k1 + st))) - (bk (k1 + 2 * st))) - (bk (k1 + 3 * st)))) (k1 + 2 * st) ((((bk k1) - (bk (k1 + st))) - (bk (k1 + 2 * st))) + (bk (k1 + 3 * st)))) (k1 + 3 * st) ((((bk k1) - (bk (k1 + st))) + (bk (k1 + 2 * st))) - (bk (k1 + 3 * st))))))] H := hP
  have hD : va_D A [(g0, .inr (9, [.ref g1, .ref g2, .ref g3, .ref g4, .ref g5, .ref g6, .ref g7, .ref g8, .ref g9, .ref g10, .ref g11, .ref g12, .ref g13, .ref g14, .ref g15, .int isz, .int ith, .int ico, .int icl, .int irw, .int ibi, .int ien, .int itr, .int ibl, .int ile, .int igr, .int ibk, .int ist, .int ibr])), (g6, .inl (cI, 16, .inl (upd (upd (upd (upd bk k1 ((((bk k1) + (bk (k1 + st))) + (bk (k1 + 2 * st))) + (bk (k1 + 3 * st)))) (k1 + st) ((((bk k1) + (bk (k1 + st))) - (bk (k1 + 2 * st))) - (bk (k1 + 3 * st)))) (k1 + 2 * st) ((((bk k1) - (bk (k1 + st))) - (bk (k1 + 2 * st))) + (bk (k1 + 3 * st)))) (k1 + 3 * st) ((((bk k1) - (bk (k1 + st))) + (bk (k1 + 2 * st))) - (bk (k1 + 3 * st))))))] := hD
  exact W.vret hx hb hr (fun t ht hW => ⟨⟨[(g0, .inr (9, [.ref g1, .ref g2, .ref g3, .ref g4, .ref g5, .ref g6, .ref g7, .ref g8, .ref g9, .ref g10, .ref g11, .ref g12, .ref g13, .ref g14, .ref g15, .int isz, .int ith, .int ico, .int icl, .int irw, .int ibi, .int ien, .int itr, .int ibl, .int ile, .int igr, .int ibk, .int ist, .int ibr])), (g6, .inl (cI, 16, .inl (upd (upd (upd (upd bk k1 ((((bk k1) + (bk (k1 + st))) + (bk (k1 + 2 * st))) + (bk (k1 + 3 * st)))) (k1 + st) ((((bk k1) + (bk (k1 + st))) - (bk (k1 + 2 * st))) - (bk (k1 + 3 * st)))) (k1 + 2 * st) ((((bk k1) - (bk (k1 + st))) - (bk (k1 + 2 * st))) + (bk (k1 + 3 * st)))) (k1 + 3 * st) ((((bk k1) - (bk (k1 + st))) + (bk (k1 + 2 * st))) - (bk (k1 + 3 * st))))))], rfl, (show _ = _ from (rfl)), by rw [ht]; exact hP, va_K.moved hW.alike hK, hD⟩, hS.F ht⟩) hS.2.2 d_Model_four_115
def y_Model_transform : MethodName := ⟨"TileForgeModel", "transform", "()V"⟩
def ws_Model_transform : List Cond := .code y_Model_transform prog_11_method_15_code 2 none :: GW
theorem mw_371 : (.code ⟨"TileForgeModel", "transform", "()V"⟩ prog_11_method_15_code 2 none : Cond) ∈ GW := List.mem_filter.mpr ⟨(List.mem_append_right _ (List.mem_append_right _ (List.mem_append_right _ (List.mem_append_right _ (List.mem_of_getElem? (i := 115) rfl))))), rfl⟩
theorem hd_Model_transform : y_Model_transform.cls ≠ "java/lang/invoke/MethodHandle" ∧ y_Model_transform.cls ≠ "java/lang/invoke/VarHandle" ∧ (parseMethodDescriptor y_Model_transform.desc).map (fun d => d.parameters.length) = some 0 := by decide +kernel
theorem d_Model_transform_0 : decode prog_11_method_15_code 0 = .ok (.iconst 0, 1) := by decide +kernel
theorem d_Model_transform_1 : decode prog_11_method_15_code 1 = .ok (.istore_n 1, 1) := by decide +kernel
theorem d_Model_transform_2 : decode prog_11_method_15_code 2 = .ok (.iload_n 1, 1) := by decide +kernel
theorem d_Model_transform_3 : decode prog_11_method_15_code 3 = .ok (.iconst 4, 1) := by decide +kernel
theorem d_Model_transform_4 : decode prog_11_method_15_code 4 = .ok (.if_icmp .ge 17, 3) := by decide +kernel
theorem d_Model_transform_7 : decode prog_11_method_15_code 7 = .ok (.aload_n 0, 1) := by decide +kernel
theorem d_Model_transform_8 : decode prog_11_method_15_code 8 = .ok (.iconst 4, 1) := by decide +kernel
theorem d_Model_transform_9 : decode prog_11_method_15_code 9 = .ok (.iload_n 1, 1) := by decide +kernel
theorem d_Model_transform_10 : decode prog_11_method_15_code 10 = .ok (.imul, 1) := by decide +kernel
theorem d_Model_transform_11 : decode prog_11_method_15_code 11 = .ok (.iconst 1, 1) := by decide +kernel
theorem d_Model_transform_12 : decode prog_11_method_15_code 12 = .ok (.invokevirtual 91, 3) := by decide +kernel
theorem d_Model_transform_15 : decode prog_11_method_15_code 15 = .ok (.iinc 1 1, 3) := by decide +kernel
theorem d_Model_transform_18 : decode prog_11_method_15_code 18 = .ok (.goto (-16), 3) := by decide +kernel
theorem d_Model_transform_21 : decode prog_11_method_15_code 21 = .ok (.iconst 0, 1) := by decide +kernel
theorem d_Model_transform_22 : decode prog_11_method_15_code 22 = .ok (.istore_n 1, 1) := by decide +kernel
theorem d_Model_transform_23 : decode prog_11_method_15_code 23 = .ok (.iload_n 1, 1) := by decide +kernel
theorem d_Model_transform_24 : decode prog_11_method_15_code 24 = .ok (.iconst 4, 1) := by decide +kernel
theorem d_Model_transform_25 : decode prog_11_method_15_code 25 = .ok (.if_icmp .ge 15, 3) := by decide +kernel
theorem d_Model_transform_28 : decode prog_11_method_15_code 28 = .ok (.aload_n 0, 1) := by decide +kernel
theorem d_Model_transform_29 : decode prog_11_method_15_code 29 = .ok (.iload_n 1, 1) := by decide +kernel
theorem d_Model_transform_30 : decode prog_11_method_15_code 30 = .ok (.iconst 4, 1) := by decide +kernel
theorem d_Model_transform_31 : decode prog_11_method_15_code 31 = .ok (.invokevirtual 91, 3) := by decide +kernel
theorem d_Model_transform_34 : decode prog_11_method_15_code 34 = .ok (.iinc 1 1, 3) := by decide +kernel
theorem d_Model_transform_37 : decode prog_11_method_15_code 37 = .ok (.goto (-14), 3) := by decide +kernel
theorem d_Model_transform_40 : decode prog_11_method_15_code 40 = .ok (.return_, 1) := by decide +kernel
theorem mw_372 : (.methodLink "TileForgeModel" 91 ⟨"TileForgeModel", "four", "(II)V"⟩ : Cond) ∈ GW := List.mem_filter.mpr ⟨(List.mem_append_right _ (List.mem_append_right _ (List.mem_append_right _ (List.mem_append_right _ (List.mem_of_getElem? (i := 116) rfl))))), rfl⟩
theorem mw_373 : (.instanceMethod ⟨"TileForgeModel", "four", "(II)V"⟩ : Cond) ∈ GW := List.mem_filter.mpr ⟨(List.mem_append_right _ (List.mem_append_right _ (List.mem_append_right _ (List.mem_append_right _ (List.mem_of_getElem? (i := 118) rfl))))), rfl⟩
theorem mw_374 : (.selects "TileForgeModel" ⟨"TileForgeModel", "four", "(II)V"⟩ ⟨"TileForgeModel", "four", "(II)V"⟩ : Cond) ∈ GW := List.mem_filter.mpr ⟨(List.mem_append_left _ (List.mem_of_getElem? (i := 13) rfl)), rfl⟩
def q_mo_trans (cI : ClassId) (g0 : Nat) (g1 : Nat) (g2 : Nat) (g3 : Nat) (g4 : Nat) (g5 : Nat) (g6 : Nat) (g7 : Nat) (g8 : Nat) (g9 : Nat) (g10 : Nat) (g11 : Nat) (g12 : Nat) (g13 : Nat) (g14 : Nat) (g15 : Nat) (isz : Int32) (ith : Int32) (ico : Int32) (icl : Int32) (irw : Int32) (ibi : Int32) (ien : Int32) (itr : Int32) (ibl : Int32) (ile : Int32) (igr : Int32) (ibk : Int32) (ist : Int32) (ibr : Int32) (bk : Nat → Int32) : va_W → Prop := fun ww => ww = [(g0, .inr (9, [.ref g1, .ref g2, .ref g3, .ref g4, .ref g5, .ref g6, .ref g7, .ref g8, .ref g9, .ref g10, .ref g11, .ref g12, .ref g13, .ref g14, .ref g15, .int isz, .int ith, .int ico, .int icl, .int irw, .int ibi, .int ien, .int itr, .int ibl, .int ile, .int igr, .int ibk, .int ist, .int ibr])), (g6, .inl (cI, 16, .inl (trC (trR bk 4) 4)))]
set_option maxHeartbeats 4000000 in
set_option maxRecDepth 100000 in
theorem c_mo_trans (l : Launch) {D : va_G} {tys : List (ClassId × FieldType)} {cI : ClassId} (hcI : tys[0]? = some (cI, .int)) (g0 : Nat) (g1 : Nat) (g2 : Nat) (g3 : Nat) (g4 : Nat) (g5 : Nat) (g6 : Nat) (g7 : Nat) (g8 : Nat) (g9 : Nat) (g10 : Nat) (g11 : Nat) (g12 : Nat) (g13 : Nat) (g14 : Nat) (g15 : Nat) (isz : Int32) (ith : Int32) (ico : Int32) (icl : Int32) (irw : Int32) (ibi : Int32) (ien : Int32) (itr : Int32) (ibl : Int32) (ile : Int32) (igr : Int32) (ibk : Int32) (ist : Int32) (ibr : Int32) (bk : Nat → Int32) : CsV l D vwCl tys y_Model_transform ws_Model_transform ({ frames := 1, cells := 0, slots := 0, locals := 26 } : Room) [.ref g0] [(g0, .inr (9, [.ref g1, .ref g2, .ref g3, .ref g4, .ref g5, .ref g6, .ref g7, .ref g8, .ref g9, .ref g10, .ref g11, .ref g12, .ref g13, .ref g14, .ref g15, .int isz, .int ith, .int ico, .int icl, .int irw, .int ibi, .int ien, .int itr, .int ibl, .int ile, .int igr, .int ibk, .int ist, .int ibr])), (g6, .inl (cI, 16, .inl bk))] (q_mo_trans cI g0 g1 g2 g3 g4 g5 g6 g7 g8 g9 g10 g11 g12 g13 g14 g15 isz ith ico icl irw ibi ien itr ibl ile igr ibk ist ibr bk) 0 0 := by
  intro sz
  refine Met.ofW (cc := prog_11_method_15_code) (maxL := 2) (ret := none) (by decide) rfl ?_
  intro p e s m args below meth c s₁ B hml hv
  obtain ⟨rfl, hsz, hP, hK, hD0, hN⟩ := hv
  have hx := B.exec
  have hb := B.bytes
  have hr := B.returns
  have hts := atoms_spec (ws := ws_Model_transform) B.pre
  have hown : s.vm.findClass "TileForgeModel" = some m.cls := findClass_of_methodNamed B.named
  have hlocks := B.notSynchronized
  subst hsz
  have hD := hD0.self (sz := s.heap.size)
  generalize hAe : va_A [(g0, .inr (9, [.ref g1, .ref g2, .ref g3, .ref g4, .ref g5, .ref g6, .ref g7, .ref g8, .ref g9, .ref g10, .ref g11, .ref g12, .ref g13, .ref g14, .ref g15, .int isz, .int ith, .int ico, .int icl, .int irw, .int ibi, .int ien, .int itr, .int ibl, .int ile, .int igr, .int ibk, .int ist, .int ibr])), (g6, .inl (cI, 16, .inl bk))] s.heap.size = A at hD ⊢
  have hA : ∀ q : Nat, s.heap.size ≤ q → A q := fun q h => by rw [← hAe]; exact Or.inr h
  have hS : va_S A s.heap s.heap [] := va_S.rf
  have hP : va_P D vwCl [(g0, .inr (9, [.ref g1, .ref g2, .ref g3, .ref g4, .ref g5, .ref g6, .ref g7, .ref g8, .ref g9, .ref g10, .ref g11, .ref g12, .ref g13, .ref g14, .ref g15, .int isz, .int ith, .int ico, .int icl, .int irw, .int ibi, .int ien, .int itr, .int ibl, .int ile, .int igr, .int ibk, .int ist, .int ibr])), (g6, .inl (cI, 16, .inl bk))] s.heap := hP
  have hl := lv_entry ([.ref g0]) (n := 2) (Nat.le_of_ble_eq_true rfl)
  rw [lg_entry_eq]
  generalize (lg_sl ([.ref g0]) ++ List.replicate (2 - (lg_sl ([.ref g0])).length) Slot.unset).toArray = ls at hl ⊢
  have hl : lv_has ls 2 [(0, .ref g0)] := hl
  refine lv_iconst (v := 0) hx hb d_Model_transform_0 (by decide) ?_
  refine lv_istore_n (lv' := [(1, .int 0), (0, .ref g0)]) hx hb d_Model_transform_1 rfl hl (by decide) rfl (fun ls hl => ?_)
  have lp2 : ∀ (n : Nat) (k : Nat) (f : Nat → Int32), (5 ≤ k + n) → (k ≤ 4) → (f = trR bk k) → ∀ (H : Heap) (locs : List Loc) (ls : Array Slot), va_P D vwCl [(g0, .inr (9, [.ref g1, .ref g2, .ref g3, .ref g4, .ref g5, .ref g6, .ref g7, .ref g8, .ref g9, .ref g10, .ref g11, .ref g12, .ref g13, .ref g14, .ref g15, .int isz, .int ith, .int ico, .int icl, .int irw, .int ibi, .int ien, .int itr, .int ibl, .int ile, .int igr, .int ibk, .int ist, .int ibr])), (g6, .inl (cI, 16, .inl f))] H → va_D A [(g0, .inr (9, [.ref g1, .ref g2, .ref g3, .ref g4, .ref g5, .ref g6, .ref g7, .ref g8, .ref g9, .ref g10, .ref g11, .ref g12, .ref g13, .ref g14, .ref g15, .int isz, .int ith, .int ico, .int icl, .int irw, .int ibi, .int ien, .int itr, .int ibl, .int ile, .int igr, .int ibk, .int ist, .int ibr])), (g6, .inl (cI, 16, .inl f))] → va_S A s.heap H locs → lv_has ls 2 [(0, .ref g0), (1, .int (nI k))] → W p l e ({ frames := 1, cells := 0, slots := 0, locals := 26 } : Room) s m ([.ref g0] : List Value).toArray below meth c H locs 0 0 (MQ below (va_Qv (q_mo_trans cI g0 g1 g2 g3 g4 g5 g6 g7 g8 g9 g10 g11 g12 g13 g14 g15 isz ith ico icl irw ibi ien itr ibl ile igr ibk ist ibr bk) (cs_B D vwCl tys A) A) ([.ref g0] : List Value).toArray s 0 0 A) (F0 m 2 ls []) := by
    intro n
    induction n with
    | zero =>
      intro k f hf hk hf2
      exact absurd hf (by omega)
    | succ n ih2 =>
      intro k f hf hk hf2 H locs ls hP hD hS hl
      refine lv_iload_n hx hb d_Model_transform_2 rfl (lv_at hl 1 rfl) ?_
      refine lv_iconst (v := 4) hx hb d_Model_transform_3 (by decide) ?_
      refine lv_icmp_ge (tgt := 21) hx hb d_Model_transform_4 (by decide) (fun c_4 => ?_) (fun c_4 => ?_)
      · have hk2 := (nI_leI (a := 4) (b := k) (by decide) (by omega)).mp c_4
        have hk3 : k = 4 := by omega
        subst hk3
        have hf3 : f = trR bk 4 := hf2
        refine lv_iconst (v := 0) hx hb d_Model_transform_21 (by decide) ?_
        refine lv_istore_n (lv' := [(1, .int 0), (0, .ref g0)]) hx hb d_Model_transform_22 rfl hl (by decide) rfl (fun ls hl => ?_)
        have lp23 : ∀ (n : Nat) (k : Nat) (f : Nat → Int32), (5 ≤ k + n) → (k ≤ 4) → (f = trC (trR bk 4) k) → ∀ (H : Heap) (locs : List Loc) (ls : Array Slot), va_P D vwCl [(g0, .inr (9, [.ref g1, .ref g2, .ref g3, .ref g4, .ref g5, .ref g6, .ref g7, .ref g8, .ref g9, .ref g10, .ref g11, .ref g12, .ref g13, .ref g14, .ref g15, .int isz, .int ith, .int ico, .int icl, .int irw, .int ibi, .int ien, .int itr, .int ibl, .int ile, .int igr, .int ibk, .int ist, .int ibr])), (g6, .inl (cI, 16, .inl f))] H → va_D A [(g0, .inr (9, [.ref g1, .ref g2, .ref g3, .ref g4, .ref g5, .ref g6, .ref g7, .ref g8, .ref g9, .ref g10, .ref g11, .ref g12, .ref g13, .ref g14, .ref g15, .int isz, .int ith, .int ico, .int icl, .int irw, .int ibi, .int ien, .int itr, .int ibl, .int ile, .int igr, .int ibk, .int ist, .int ibr])), (g6, .inl (cI, 16, .inl f))] → va_S A s.heap H locs → lv_has ls 2 [(0, .ref g0), (1, .int (nI k))] → W p l e ({ frames := 1, cells := 0, slots := 0, locals := 26 } : Room) s m ([.ref g0] : List Value).toArray below meth c H locs 0 0 (MQ below (va_Qv (q_mo_trans cI g0 g1 g2 g3 g4 g5 g6 g7 g8 g9 g10 g11 g12 g13 g14 g15 isz ith ico icl irw ibi ien itr ibl ile igr ibk ist ibr bk) (cs_B D vwCl tys A) A) ([.ref g0] : List Value).toArray s 0 0 A) (F0 m 23 ls []) := by
          intro n
          induction n with
          | zero =>
            intro k f hf hk hf2
            exact absurd hf (by omega)
          | succ n ih23 =>
            intro k f hf hk hf2 H locs ls hP hD hS hl
            refine lv_iload_n hx hb d_Model_transform_23 rfl (lv_at hl 1 rfl) ?_
            refine lv_iconst (v := 4) hx hb d_Model_transform_24 (by decide) ?_
            refine lv_icmp_ge (tgt := 40) hx hb d_Model_transform_25 (by decide) (fun c_25 => ?_) (fun c_25 => ?_)
            · have hk2 := (nI_leI (a := 4) (b := k) (by decide) (by omega)).mp c_25
              have hk3 : k = 4 := by omega
              subst hk3
              exact W.vret hx hb hr (fun t ht hW => ⟨⟨[(g0, .inr (9, [.ref g1, .ref g2, .ref g3, .ref g4, .ref g5, .ref g6, .ref g7, .ref g8, .ref g9, .ref g10, .ref g11, .ref g12, .ref g13, .ref g14, .ref g15, .int isz, .int ith, .int ico, .int icl, .int irw, .int ibi, .int ien, .int itr, .int ibl, .int ile, .int igr, .int ibk, .int ist, .int ibr])), (g6, .inl (cI, 16, .inl f))], rfl, (show _ = _ from (by rw [hf2])), by rw [ht]; exact hP, va_K.moved hW.alike hK, hD⟩, hS.F ht⟩) hS.2.2 d_Model_transform_40
            · have hk2 : k < 4 := Nat.not_le.mp (fun h => c_25 ((nI_leI (a := 4) (b := k) (by decide) (by omega)).mpr h))
              refine lv_aload_n hx hb d_Model_transform_28 rfl (lv_at hl 0 rfl) ?_
              refine lv_iload_n hx hb d_Model_transform_29 rfl (lv_at hl 1 rfl) ?_
              refine lv_iconst (v := 4) hx hb d_Model_transform_30 (by decide) ?_
              refine cs_Vv (As := [.int (nI k), .int 4]) (rest := []) (wr := []) ⟨hx, hb, hml, hown, hts⟩ (c_mo_four l hcI g0 g1 g2 g3 g4 g5 g6 g7 g8 g9 g10 g11 g12 g13 g14 g15 isz ith ico icl irw ibi ien itr ibl ile igr ibk ist ibr f k 4 (by omega)) (cwV 2 hts (cs_gV mw_372 mw_373 mw_374 mw_349 mw_369) rfl rfl rfl ⟨rfl, hd_Model_four⟩ ⟨Nat.le_of_ble_eq_true rfl, Nat.le_of_ble_eq_true rfl⟩) hN hK hP hD hS hA [0, 1] [] rfl rfl rfl rfl (by decide) (ci := 9) rfl rfl rfl rfl rfl hl.1 (Nat.le_of_ble_eq_true rfl) d_Model_transform_31 ⟨Nat.le_of_ble_eq_true rfl, Nat.le_of_ble_eq_true rfl⟩ (fun w1 H locs hw hP hD hS => ?_)
              obtain rfl := hw
              have hP : va_P D vwCl [(g0, .inr (9, [.ref g1, .ref g2, .ref g3, .ref g4, .ref g5, .ref g6, .ref g7, .ref g8, .ref g9, .ref g10, .ref g11, .ref g12, .ref g13, .ref g14, .ref g15, .int isz, .int ith, .int ico, .int icl, .int irw, .int ibi, .int ien, .int itr, .int ibl, .int ile, .int igr, .int ibk, .int ist, .int ibr])), (g6, .inl (cI, 16, .inl (trL f k (k + 4) (k + 2 * 4) (k + 3 * 4))))] H := hP
              have hD : va_D A [(g0, .inr (9, [.ref g1, .ref g2, .ref g3, .ref g4, .ref g5, .ref g6, .ref g7, .ref g8, .ref g9, .ref g10, .ref g11, .ref g12, .ref g13, .ref g14, .ref g15, .int isz, .int ith, .int ico, .int icl, .int irw, .int ibi, .int ien, .int itr, .int ibl, .int ile, .int igr, .int ibk, .int ist, .int ibr])), (g6, .inl (cI, 16, .inl (trL f k (k + 4) (k + 2 * 4) (k + 3 * 4))))] := hD
              refine lv_iinc (v := nI (k + 1)) (lv' := [(1, .int (nI (k + 1))), (0, .ref g0)]) hx hb d_Model_transform_34 hl (k := 1) rfl (nI_1 _) (by decide) rfl (fun ls hl => ?_)
              refine lv_goto (tgt := 23) hx hb d_Model_transform_37 (by decide) ?_
              exact ih23 (k + 1) (trL f k (k + 4) (k + 2 * 4) (k + 3 * 4)) (by omega) (by omega) (by rw [hf2, trC]) _ _ _ (hP.sub (ws' := [(g0, .inr (9, [.ref g1, .ref g2, .ref g3, .ref g4, .ref g5, .ref g6, .ref g7, .ref g8, .ref g9, .ref g10, .ref g11, .ref g12, .ref g13, .ref g14, .ref g15, .int isz, .int ith, .int ico, .int icl, .int irw, .int ibi, .int ien, .int itr, .int ibl, .int ile, .int igr, .int ibk, .int ist, .int ibr])), (g6, .inl (cI, 16, .inl (trL f k (k + 4) (k + 2 * 4) (k + 3 * 4))))]) [0, 1] rfl) (hD.sub (ws' := [(g0, .inr (9, [.ref g1, .ref g2, .ref g3, .ref g4, .ref g5, .ref g6, .ref g7, .ref g8, .ref g9, .ref g10, .ref g11, .ref g12, .ref g13, .ref g14, .ref g15, .int isz, .int ith, .int ico, .int icl, .int irw, .int ibi, .int ien, .int itr, .int ibl, .int ile, .int igr, .int ibk, .int ist, .int ibr])), (g6, .inl (cI, 16, .inl (trL f k (k + 4) (k + 2 * 4) (k + 3 * 4))))]) [0, 1] (by decide) rfl) hS (lv_sub hl [1, 0] rfl)
        exact lp23 (5) 0 f (by omega) (by omega) (hf3) _ _ _ (hP.sub (ws' := [(g0, .inr (9, [.ref g1, .ref g2, .ref g3, .ref g4, .ref g5, .ref g6, .ref g7, .ref g8, .ref g9, .ref g10, .ref g11, .ref g12, .ref g13, .ref g14, .ref g15, .int isz, .int ith, .int ico, .int icl, .int irw, .int ibi, .int ien, .int itr, .int ibl, .int ile, .int igr, .int ibk, .int ist, .int ibr])), (g6, .inl (cI, 16, .inl f))]) [0, 1] rfl) (hD.sub (ws' := [(g0, .inr (9, [.ref g1, .ref g2, .ref g3, .ref g4, .ref g5, .ref g6, .ref g7, .ref g8, .ref g9, .ref g10, .ref g11, .ref g12, .ref g13, .ref g14, .ref g15, .int isz, .int ith, .int ico, .int icl, .int irw, .int ibi, .int ien, .int itr, .int ibl, .int ile, .int igr, .int ibk, .int ist, .int ibr])), (g6, .inl (cI, 16, .inl f))]) [0, 1] (by decide) rfl) hS (lv_sub hl [1, 0] rfl)
      · have hk2 : k < 4 := Nat.not_le.mp (fun h => c_4 ((nI_leI (a := 4) (b := k) (by decide) (by omega)).mpr h))
        refine lv_aload_n hx hb d_Model_transform_7 rfl (lv_at hl 0 rfl) ?_
        refine lv_iconst (v := 4) hx hb d_Model_transform_8 (by decide) ?_
        refine lv_iload_n hx hb d_Model_transform_9 rfl (lv_at hl 1 rfl) ?_
        refine lv_imul hx hb d_Model_transform_10 ?_
        refine cs_top (y := nI (4 * k)) (pk_mul 4 k) ?_
        refine lv_iconst (v := 1) hx hb d_Model_transform_11 (by decide) ?_
        refine cs_Vv (As := [.int (nI (4 * k)), .int 1]) (rest := []) (wr := []) ⟨hx, hb, hml, hown, hts⟩ (c_mo_four l hcI g0 g1 g2 g3 g4 g5 g6 g7 g8 g9 g10 g11 g12 g13 g14 g15 isz ith ico icl irw ibi ien itr ibl ile igr ibk ist ibr f (4 * k) 1 (by omega)) (cwV 2 hts (cs_gV mw_372 mw_373 mw_374 mw_349 mw_369) rfl rfl rfl ⟨rfl, hd_Model_four⟩ ⟨Nat.le_of_ble_eq_true rfl, Nat.le_of_ble_eq_true rfl⟩) hN hK hP hD hS hA [0, 1] [] rfl rfl rfl rfl (by decide) (ci := 9) rfl rfl rfl rfl rfl hl.1 (Nat.le_of_ble_eq_true rfl) d_Model_transform_12 ⟨Nat.le_of_ble_eq_true rfl, Nat.le_of_ble_eq_true rfl⟩ (fun w1 H locs hw hP hD hS => ?_)
        obtain rfl := hw
        have hP : va_P D vwCl [(g0, .inr (9, [.ref g1, .ref g2, .ref g3, .ref g4, .ref g5, .ref g6, .ref g7, .ref g8, .ref g9, .ref g10, .ref g11, .ref g12, .ref g13, .ref g14, .ref g15, .int isz, .int ith, .int ico, .int icl, .int irw, .int ibi, .int ien, .int itr, .int ibl, .int ile, .int igr, .int ibk, .int ist, .int ibr])), (g6, .inl (cI, 16, .inl (trL f (4 * k) ((4 * k) + 1) ((4 * k) + 2 * 1) ((4 * k) + 3 * 1))))] H := hP
        have hD : va_D A [(g0, .inr (9, [.ref g1, .ref g2, .ref g3, .ref g4, .ref g5, .ref g6, .ref g7, .ref g8, .ref g9, .ref g10, .ref g11, .ref g12, .ref g13, .ref g14, .ref g15, .int isz, .int ith, .int ico, .int icl, .int irw, .int ibi, .int ien, .int itr, .int ibl, .int ile, .int igr, .int ibk, .int ist, .int ibr])), (g6, .inl (cI, 16, .inl (trL f (4 * k) ((4 * k) + 1) ((4 * k) + 2 * 1) ((4 * k) + 3 * 1))))] := hD
        refine lv_iinc (v := nI (k + 1)) (lv' := [(1, .int (nI (k + 1))), (0, .ref g0)]) hx hb d_Model_transform_15 hl (k := 1) rfl (nI_1 _) (by decide) rfl (fun ls hl => ?_)
        refine lv_goto (tgt := 2) hx hb d_Model_transform_18 (by decide) ?_
        exact ih2 (k + 1) (trL f (4 * k) ((4 * k) + 1) ((4 * k) + 2 * 1) ((4 * k) + 3 * 1)) (by omega) (by omega) (by rw [hf2, trR, Nat.mul_comm k 4]) _ _ _ (hP.sub (ws' := [(g0, .inr (9, [.ref g1, .ref g2, .ref g3, .ref g4, .ref g5, .ref g6, .ref g7, .ref g8, .ref g9, .ref g10, .ref g11, .ref g12, .ref g13, .ref g14, .ref g15, .int isz, .int ith, .int ico, .int icl, .int irw, .int ibi, .int ien, .int itr, .int ibl, .int ile, .int igr, .int ibk, .int ist, .int ibr])), (g6, .inl (cI, 16, .inl (trL f (4 * k) ((4 * k) + 1) ((4 * k) + 2 * 1) ((4 * k) + 3 * 1))))]) [0, 1] rfl) (hD.sub (ws' := [(g0, .inr (9, [.ref g1, .ref g2, .ref g3, .ref g4, .ref g5, .ref g6, .ref g7, .ref g8, .ref g9, .ref g10, .ref g11, .ref g12, .ref g13, .ref g14, .ref g15, .int isz, .int ith, .int ico, .int icl, .int irw, .int ibi, .int ien, .int itr, .int ibl, .int ile, .int igr, .int ibk, .int ist, .int ibr])), (g6, .inl (cI, 16, .inl (trL f (4 * k) ((4 * k) + 1) ((4 * k) + 2 * 1) ((4 * k) + 3 * 1))))]) [0, 1] (by decide) rfl) hS (lv_sub hl [1, 0] rfl)
  exact lp2 (5) 0 bk (by omega) (by omega) (rfl) _ _ _ (hP.sub (ws' := [(g0, .inr (9, [.ref g1, .ref g2, .ref g3, .ref g4, .ref g5, .ref g6, .ref g7, .ref g8, .ref g9, .ref g10, .ref g11, .ref g12, .ref g13, .ref g14, .ref g15, .int isz, .int ith, .int ico, .int icl, .int irw, .int ibi, .int ien, .int itr, .int ibl, .int ile, .int igr, .int ibk, .int ist, .int ibr])), (g6, .inl (cI, 16, .inl bk))]) [0, 1] rfl) (hD.sub (ws' := [(g0, .inr (9, [.ref g1, .ref g2, .ref g3, .ref g4, .ref g5, .ref g6, .ref g7, .ref g8, .ref g9, .ref g10, .ref g11, .ref g12, .ref g13, .ref g14, .ref g15, .int isz, .int ith, .int ico, .int icl, .int irw, .int ibi, .int ien, .int itr, .int ibl, .int ile, .int igr, .int ibk, .int ist, .int ibr])), (g6, .inl (cI, 16, .inl bk))]) [0, 1] (by decide) rfl) hS (lv_sub hl [1, 0] rfl)
def y_Model_build : MethodName := ⟨"TileForgeModel", "build", "(IIII)V"⟩
def ws_Model_build : List Cond := .code y_Model_build prog_11_method_16_code 6 none :: GW
theorem mw_375 : (.code ⟨"TileForgeModel", "build", "(IIII)V"⟩ prog_11_method_16_code 6 none : Cond) ∈ GW := List.mem_filter.mpr ⟨(List.mem_append_right _ (List.mem_append_right _ (List.mem_append_right _ (List.mem_append_right _ (List.mem_of_getElem? (i := 135) rfl))))), rfl⟩
theorem hd_Model_build : y_Model_build.cls ≠ "java/lang/invoke/MethodHandle" ∧ y_Model_build.cls ≠ "java/lang/invoke/VarHandle" ∧ (parseMethodDescriptor y_Model_build.desc).map (fun d => d.parameters.length) = some 4 := by decide +kernel
theorem d_Model_build_0 : decode prog_11_method_16_code 0 = .ok (.iconst 0, 1) := by decide +kernel
theorem d_Model_build_1 : decode prog_11_method_16_code 1 = .ok (.istore 5, 2) := by decide +kernel
theorem d_Model_build_3 : decode prog_11_method_16_code 3 = .ok (.iload 5, 2) := by decide +kernel
theorem d_Model_build_5 : decode prog_11_method_16_code 5 = .ok (.bipush 16, 2) := by decide +kernel
theorem d_Model_build_7 : decode prog_11_method_16_code 7 = .ok (.if_icmp .ge 26, 3) := by decide +kernel
theorem d_Model_build_10 : decode prog_11_method_16_code 10 = .ok (.aload_n 0, 1) := by decide +kernel
theorem d_Model_build_11 : decode prog_11_method_16_code 11 = .ok (.getfield 25, 3) := by decide +kernel
theorem d_Model_build_14 : decode prog_11_method_16_code 14 = .ok (.iload 5, 2) := by decide +kernel
theorem d_Model_build_16 : decode prog_11_method_16_code 16 = .ok (.aload_n 0, 1) := by decide +kernel
theorem d_Model_build_17 : decode prog_11_method_16_code 17 = .ok (.getfield 28, 3) := by decide +kernel
theorem d_Model_build_20 : decode prog_11_method_16_code 20 = .ok (.iload 5, 2) := by decide +kernel
theorem d_Model_build_22 : decode prog_11_method_16_code 22 = .ok (.iaload, 1) := by decide +kernel
theorem d_Model_build_23 : decode prog_11_method_16_code 23 = .ok (.iload 4, 2) := by decide +kernel
theorem d_Model_build_25 : decode prog_11_method_16_code 25 = .ok (.ishl, 1) := by decide +kernel
theorem d_Model_build_26 : decode prog_11_method_16_code 26 = .ok (.iastore, 1) := by decide +kernel
theorem d_Model_build_27 : decode prog_11_method_16_code 27 = .ok (.iinc 5 1, 3) := by decide +kernel
theorem d_Model_build_30 : decode prog_11_method_16_code 30 = .ok (.goto (-27), 3) := by decide +kernel
theorem d_Model_build_33 : decode prog_11_method_16_code 33 = .ok (.aload_n 0, 1) := by decide +kernel
theorem d_Model_build_34 : decode prog_11_method_16_code 34 = .ok (.invokevirtual 95, 3) := by decide +kernel
theorem d_Model_build_37 : decode prog_11_method_16_code 37 = .ok (.iconst 0, 1) := by decide +kernel
theorem d_Model_build_38 : decode prog_11_method_16_code 38 = .ok (.istore 5, 2) := by decide +kernel
theorem d_Model_build_40 : decode prog_11_method_16_code 40 = .ok (.iload 5, 2) := by decide +kernel
theorem d_Model_build_42 : decode prog_11_method_16_code 42 = .ok (.bipush 16, 2) := by decide +kernel
theorem d_Model_build_44 : decode prog_11_method_16_code 44 = .ok (.if_icmp .ge 45, 3) := by decide +kernel
theorem d_Model_build_47 : decode prog_11_method_16_code 47 = .ok (.aload_n 0, 1) := by decide +kernel
theorem d_Model_build_48 : decode prog_11_method_16_code 48 = .ok (.getfield 31, 3) := by decide +kernel
theorem d_Model_build_51 : decode prog_11_method_16_code 51 = .ok (.iload 5, 2) := by decide +kernel
theorem d_Model_build_53 : decode prog_11_method_16_code 53 = .ok (.aload_n 0, 1) := by decide +kernel
theorem d_Model_build_54 : decode prog_11_method_16_code 54 = .ok (.iload_n 3, 1) := by decide +kernel
theorem d_Model_build_55 : decode prog_11_method_16_code 55 = .ok (.iload 5, 2) := by decide +kernel
theorem d_Model_build_57 : decode prog_11_method_16_code 57 = .ok (.iconst 4, 1) := by decide +kernel
theorem d_Model_build_58 : decode prog_11_method_16_code 58 = .ok (.irem, 1) := by decide +kernel
theorem d_Model_build_59 : decode prog_11_method_16_code 59 = .ok (.iload 5, 2) := by decide +kernel
theorem d_Model_build_61 : decode prog_11_method_16_code 61 = .ok (.iconst 4, 1) := by decide +kernel
theorem d_Model_build_62 : decode prog_11_method_16_code 62 = .ok (.idiv, 1) := by decide +kernel
theorem d_Model_build_63 : decode prog_11_method_16_code 63 = .ok (.invokevirtual 98, 3) := by decide +kernel
theorem d_Model_build_66 : decode prog_11_method_16_code 66 = .ok (.aload_n 0, 1) := by decide +kernel
theorem d_Model_build_67 : decode prog_11_method_16_code 67 = .ok (.getfield 25, 3) := by decide +kernel
theorem d_Model_build_70 : decode prog_11_method_16_code 70 = .ok (.iload 5, 2) := by decide +kernel
theorem d_Model_build_72 : decode prog_11_method_16_code 72 = .ok (.iaload, 1) := by decide +kernel
theorem d_Model_build_73 : decode prog_11_method_16_code 73 = .ok (.bipush 8, 2) := by decide +kernel
theorem d_Model_build_75 : decode prog_11_method_16_code 75 = .ok (.iadd, 1) := by decide +kernel
theorem d_Model_build_76 : decode prog_11_method_16_code 76 = .ok (.iconst 4, 1) := by decide +kernel
theorem d_Model_build_77 : decode prog_11_method_16_code 77 = .ok (.ishr, 1) := by decide +kernel
theorem d_Model_build_78 : decode prog_11_method_16_code 78 = .ok (.iadd, 1) := by decide +kernel
theorem d_Model_build_79 : decode prog_11_method_16_code 79 = .ok (.invokestatic 75, 3) := by decide +kernel
theorem d_Model_build_82 : decode prog_11_method_16_code 82 = .ok (.iastore, 1) := by decide +kernel
theorem d_Model_build_83 : decode prog_11_method_16_code 83 = .ok (.iinc 5 1, 3) := by decide +kernel
theorem d_Model_build_86 : decode prog_11_method_16_code 86 = .ok (.goto (-46), 3) := by decide +kernel
theorem d_Model_build_89 : decode prog_11_method_16_code 89 = .ok (.iconst 0, 1) := by decide +kernel
theorem d_Model_build_90 : decode prog_11_method_16_code 90 = .ok (.istore 5, 2) := by decide +kernel
theorem d_Model_build_92 : decode prog_11_method_16_code 92 = .ok (.iload 5, 2) := by decide +kernel
theorem d_Model_build_94 : decode prog_11_method_16_code 94 = .ok (.bipush 16, 2) := by decide +kernel
theorem d_Model_build_96 : decode prog_11_method_16_code 96 = .ok (.if_icmp .ge 37, 3) := by decide +kernel
theorem d_Model_build_99 : decode prog_11_method_16_code 99 = .ok (.aload_n 0, 1) := by decide +kernel
theorem d_Model_build_100 : decode prog_11_method_16_code 100 = .ok (.getfield 16, 3) := by decide +kernel
theorem d_Model_build_103 : decode prog_11_method_16_code 103 = .ok (.iconst 3, 1) := by decide +kernel
theorem d_Model_build_104 : decode prog_11_method_16_code 104 = .ok (.iload_n 1, 1) := by decide +kernel
theorem d_Model_build_105 : decode prog_11_method_16_code 105 = .ok (.iload 5, 2) := by decide +kernel
theorem d_Model_build_107 : decode prog_11_method_16_code 107 = .ok (.iconst 4, 1) := by decide +kernel
theorem d_Model_build_108 : decode prog_11_method_16_code 108 = .ok (.irem, 1) := by decide +kernel
theorem d_Model_build_109 : decode prog_11_method_16_code 109 = .ok (.iadd, 1) := by decide +kernel
theorem d_Model_build_110 : decode prog_11_method_16_code 110 = .ok (.iload_n 2, 1) := by decide +kernel
theorem d_Model_build_111 : decode prog_11_method_16_code 111 = .ok (.iload 5, 2) := by decide +kernel
theorem d_Model_build_113 : decode prog_11_method_16_code 113 = .ok (.iconst 4, 1) := by decide +kernel
theorem d_Model_build_114 : decode prog_11_method_16_code 114 = .ok (.idiv, 1) := by decide +kernel
theorem d_Model_build_115 : decode prog_11_method_16_code 115 = .ok (.iadd, 1) := by decide +kernel
theorem d_Model_build_116 : decode prog_11_method_16_code 116 = .ok (.invokestatic 71, 3) := by decide +kernel
theorem d_Model_build_119 : decode prog_11_method_16_code 119 = .ok (.aload_n 0, 1) := by decide +kernel
theorem d_Model_build_120 : decode prog_11_method_16_code 120 = .ok (.getfield 31, 3) := by decide +kernel
theorem d_Model_build_123 : decode prog_11_method_16_code 123 = .ok (.iload 5, 2) := by decide +kernel
theorem d_Model_build_125 : decode prog_11_method_16_code 125 = .ok (.iaload, 1) := by decide +kernel
theorem d_Model_build_126 : decode prog_11_method_16_code 126 = .ok (.iastore, 1) := by decide +kernel
theorem d_Model_build_127 : decode prog_11_method_16_code 127 = .ok (.iinc 5 1, 3) := by decide +kernel
theorem d_Model_build_130 : decode prog_11_method_16_code 130 = .ok (.goto (-38), 3) := by decide +kernel
theorem d_Model_build_133 : decode prog_11_method_16_code 133 = .ok (.return_, 1) := by decide +kernel
theorem mw_376 : (.methodLink "TileForgeModel" 95 ⟨"TileForgeModel", "transform", "()V"⟩ : Cond) ∈ GW := List.mem_filter.mpr ⟨(List.mem_append_right _ (List.mem_append_right _ (List.mem_append_right _ (List.mem_append_right _ (List.mem_of_getElem? (i := 112) rfl))))), rfl⟩
theorem mw_377 : (.instanceMethod ⟨"TileForgeModel", "transform", "()V"⟩ : Cond) ∈ GW := List.mem_filter.mpr ⟨(List.mem_append_right _ (List.mem_append_right _ (List.mem_append_right _ (List.mem_append_right _ (List.mem_of_getElem? (i := 114) rfl))))), rfl⟩
theorem mw_378 : (.selects "TileForgeModel" ⟨"TileForgeModel", "transform", "()V"⟩ ⟨"TileForgeModel", "transform", "()V"⟩ : Cond) ∈ GW := List.mem_filter.mpr ⟨(List.mem_append_left _ (List.mem_of_getElem? (i := 12) rfl)), rfl⟩
theorem mw_379 : (.fieldLink "TileForgeModel" 31 "TileForgeModel" "told" "[I" : Cond) ∈ GW := List.mem_filter.mpr ⟨(List.mem_append_right _ (List.mem_append_right _ (List.mem_append_right _ (List.mem_append_left _ (List.mem_of_getElem? (i := 205) rfl))))), rfl⟩
theorem mw_380 : (.methodLink "TileForgeModel" 98 ⟨"TileForgeModel", "foretold", "(III)I"⟩ : Cond) ∈ GW := List.mem_filter.mpr ⟨(List.mem_append_right _ (List.mem_append_right _ (List.mem_append_right _ (List.mem_append_right _ (List.mem_of_getElem? (i := 104) rfl))))), rfl⟩
theorem mw_381 : (.instanceMethod ⟨"TileForgeModel", "foretold", "(III)I"⟩ : Cond) ∈ GW := List.mem_filter.mpr ⟨(List.mem_append_right _ (List.mem_append_right _ (List.mem_append_right _ (List.mem_append_right _ (List.mem_of_getElem? (i := 106) rfl))))), rfl⟩
theorem mw_382 : (.selects "TileForgeModel" ⟨"TileForgeModel", "foretold", "(III)I"⟩ ⟨"TileForgeModel", "foretold", "(III)I"⟩ : Cond) ∈ GW := List.mem_filter.mpr ⟨(List.mem_append_left _ (List.mem_of_getElem? (i := 10) rfl)), rfl⟩
theorem mw_383 : (.fieldLink "TileForgeModel" 28 "TileForgeModel" "level" "[I" : Cond) ∈ GW := List.mem_filter.mpr ⟨(List.mem_append_right _ (List.mem_append_right _ (List.mem_append_right _ (List.mem_append_left _ (List.mem_of_getElem? (i := 204) rfl))))), rfl⟩
def q_mo_build (cI : ClassId) (g0 : Nat) (g1 : Nat) (g2 : Nat) (g3 : Nat) (g4 : Nat) (g5 : Nat) (g6 : Nat) (g7 : Nat) (g8 : Nat) (g9 : Nat) (g10 : Nat) (g11 : Nat) (g12 : Nat) (g13 : Nat) (g14 : Nat) (g15 : Nat) (isz : Int32) (ith : Int32) (ico : Int32) (cx : Nat) (ry : Nat) (ibi : Int32) (ien : Int32) (itr : Int32) (ibl : Int32) (ile : Int32) (igr : Int32) (ibk : Int32) (ist : Int32) (ibr : Int32) (pix : Nat → Int32) (bk : Nat → Int32) (lv : Nat → Int32) (td : Nat → Int32) (ab : Nat → Int32) (lf : Nat → Int32) (x : Nat) (y : Nat) (way : Int32) (q : Int32) : va_W → Prop := fun ww => ∃ (bk' : Nat → Int32) (td' : Nat → Int32), (∃ f : Nat → Int32, (∀ j, j < 16 → f j = lv j <<< (q &&& 31)) ∧ ∀ j, j < 16 → td' j = clip (fo2 ry cx ab lf ico way (j % 4) (j / 4) + ((trC (trR f 4) 4 j + 8) >>> (4 &&& 31)))) ∧ ww = [(g0, .inr (9, [.ref g1, .ref g2, .ref g3, .ref g4, .ref g5, .ref g6, .ref g7, .ref g8, .ref g9, .ref g10, .ref g11, .ref g12, .ref g13, .ref g14, .ref g15, .int isz, .int ith, .int ico, .int (nI cx), .int (nI ry), .int ibi, .int ien, .int itr, .int ibl, .int ile, .int igr, .int ibk, .int ist, .int ibr])), (g3, .inl (cI, 576, .inl (putO 3 pix x y td' 16))), (g6, .inl (cI, 16, .inl bk')), (g7, .inl (cI, 16, .inl lv)), (g8, .inl (cI, 16, .inl td')), (g9, .inl (cI, 4, .inl ab)), (g10, .inl (cI, 4, .inl lf))]
set_option maxHeartbeats 4000000 in
set_option maxRecDepth 100000 in
theorem c_mo_build (l : Launch) {D : va_G} {tys : List (ClassId × FieldType)} {cI : ClassId} (hcI : tys[0]? = some (cI, .int)) (g0 : Nat) (g1 : Nat) (g2 : Nat) (g3 : Nat) (g4 : Nat) (g5 : Nat) (g6 : Nat) (g7 : Nat) (g8 : Nat) (g9 : Nat) (g10 : Nat) (g11 : Nat) (g12 : Nat) (g13 : Nat) (g14 : Nat) (g15 : Nat) (isz : Int32) (ith : Int32) (ico : Int32) (cx : Nat) (ry : Nat) (ibi : Int32) (ien : Int32) (itr : Int32) (ibl : Int32) (ile : Int32) (igr : Int32) (ibk : Int32) (ist : Int32) (ibr : Int32) (pix : Nat → Int32) (bk : Nat → Int32) (lv : Nat → Int32) (td : Nat → Int32) (ab : Nat → Int32) (lf : Nat → Int32) (x : Nat) (y : Nat) (way : Int32) (q : Int32) (hx4 : x + 4 ≤ 12) (hy4 : y + 4 ≤ 12) (hry : ry < 2147483648) (hcx : cx < 2147483648) : CsV l D vwCl tys y_Model_build ws_Model_build ({ frames := 2, cells := 0, slots := 0, locals := 47 } : Room) [.ref g0, .int (nI x), .int (nI y), .int way, .int q] [(g0, .inr (9, [.ref g1, .ref g2, .ref g3, .ref g4, .ref g5, .ref g6, .ref g7, .ref g8, .ref g9, .ref g10, .ref g11, .ref g12, .ref g13, .ref g14, .ref g15, .int isz, .int ith, .int ico, .int (nI cx), .int (nI ry), .int ibi, .int ien, .int itr, .int ibl, .int ile, .int igr, .int ibk, .int ist, .int ibr])), (g3, .inl (cI, 576, .inl pix)), (g6, .inl (cI, 16, .inl bk)), (g7, .inl (cI, 16, .inl lv)), (g8, .inl (cI, 16, .inl td)), (g9, .inl (cI, 4, .inl ab)), (g10, .inl (cI, 4, .inl lf))] (q_mo_build cI g0 g1 g2 g3 g4 g5 g6 g7 g8 g9 g10 g11 g12 g13 g14 g15 isz ith ico cx ry ibi ien itr ibl ile igr ibk ist ibr pix bk lv td ab lf x y way q) 0 0 := by
  intro sz
  refine Met.ofW (cc := prog_11_method_16_code) (maxL := 6) (ret := none) (by decide) rfl ?_
  intro p e s m args below meth c s₁ B hml hv
  obtain ⟨rfl, hsz, hP, hK, hD0, hN⟩ := hv
  have hx := B.exec
  have hb := B.bytes
  have hr := B.returns
  have hts := atoms_spec (ws := ws_Model_build) B.pre
  have hown : s.vm.findClass "TileForgeModel" = some m.cls := findClass_of_methodNamed B.named
  have hlocks := B.notSynchronized
  subst hsz
  have hD := hD0.self (sz := s.heap.size)
  generalize hAe : va_A [(g0, .inr (9, [.ref g1, .ref g2, .ref g3, .ref g4, .ref g5, .ref g6, .ref g7, .ref g8, .ref g9, .ref g10, .ref g11, .ref g12, .ref g13, .ref g14, .ref g15, .int isz, .int ith, .int ico, .int (nI cx), .int (nI ry), .int ibi, .int ien, .int itr, .int ibl, .int ile, .int igr, .int ibk, .int ist, .int ibr])), (g3, .inl (cI, 576, .inl pix)), (g6, .inl (cI, 16, .inl bk)), (g7, .inl (cI, 16, .inl lv)), (g8, .inl (cI, 16, .inl td)), (g9, .inl (cI, 4, .inl ab)), (g10, .inl (cI, 4, .inl lf))] s.heap.size = A at hD ⊢
  have hA : ∀ q : Nat, s.heap.size ≤ q → A q := fun q h => by rw [← hAe]; exact Or.inr h
  have hS : va_S A s.heap s.heap [] := va_S.rf
  have hP : va_P D vwCl [(g0, .inr (9, [.ref g1, .ref g2, .ref g3, .ref g4, .ref g5, .ref g6, .ref g7, .ref g8, .ref g9, .ref g10, .ref g11, .ref g12, .ref g13, .ref g14, .ref g15, .int isz, .int ith, .int ico, .int (nI cx), .int (nI ry), .int ibi, .int ien, .int itr, .int ibl, .int ile, .int igr, .int ibk, .int ist, .int ibr])), (g3, .inl (cI, 576, .inl pix)), (g6, .inl (cI, 16, .inl bk)), (g7, .inl (cI, 16, .inl lv)), (g8, .inl (cI, 16, .inl td)), (g9, .inl (cI, 4, .inl ab)), (g10, .inl (cI, 4, .inl lf))] s.heap := hP
  have hl := lv_entry ([.ref g0, .int (nI x), .int (nI y), .int way, .int q]) (n := 6) (Nat.le_of_ble_eq_true rfl)
  rw [lg_entry_eq]
  generalize (lg_sl ([.ref g0, .int (nI x), .int (nI y), .int way, .int q]) ++ List.replicate (6 - (lg_sl ([.ref g0, .int (nI x), .int (nI y), .int way, .int q])).length) Slot.unset).toArray = ls at hl ⊢
  have hl : lv_has ls 6 [(0, .ref g0), (1, .int (nI x)), (2, .int (nI y)), (3, .int way), (4, .int q)] := hl
  refine lv_iconst (v := 0) hx hb d_Model_build_0 (by decide) ?_
  refine lv_istore (lv' := [(5, .int 0), (0, .ref g0), (1, .int (nI x)), (2, .int (nI y)), (3, .int way), (4, .int q)]) hx hb d_Model_build_1 hl (by decide) rfl (fun ls hl => ?_)
  have lp3 : ∀ (n : Nat) (k : Nat) (f : Nat → Int32), (17 ≤ k + n) → (k ≤ 16) → (∀ j, j < k → f j = lv j <<< (q &&& 31)) → ∀ (H : Heap) (locs : List Loc) (ls : Array Slot), va_P D vwCl [(g0, .inr (9, [.ref g1, .ref g2, .ref g3, .ref g4, .ref g5, .ref g6, .ref g7, .ref g8, .ref g9, .ref g10, .ref g11, .ref g12, .ref g13, .ref g14, .ref g15, .int isz, .int ith, .int ico, .int (nI cx), .int (nI ry), .int ibi, .int ien, .int itr, .int ibl, .int ile, .int igr, .int ibk, .int ist, .int ibr])), (g3, .inl (cI, 576, .inl pix)), (g6, .inl (cI, 16, .inl f)), (g7, .inl (cI, 16, .inl lv)), (g8, .inl (cI, 16, .inl td)), (g9, .inl (cI, 4, .inl ab)), (g10, .inl (cI, 4, .inl lf))] H → va_D A [(g0, .inr (9, [.ref g1, .ref g2, .ref g3, .ref g4, .ref g5, .ref g6, .ref g7, .ref g8, .ref g9, .ref g10, .ref g11, .ref g12, .ref g13, .ref g14, .ref g15, .int isz, .int ith, .int ico, .int (nI cx), .int (nI ry), .int ibi, .int ien, .int itr, .int ibl, .int ile, .int igr, .int ibk, .int ist, .int ibr])), (g3, .inl (cI, 576, .inl pix)), (g6, .inl (cI, 16, .inl f)), (g7, .inl (cI, 16, .inl lv)), (g8, .inl (cI, 16, .inl td)), (g9, .inl (cI, 4, .inl ab)), (g10, .inl (cI, 4, .inl lf))] → va_S A s.heap H locs → lv_has ls 6 [(0, .ref g0), (1, .int (nI x)), (2, .int (nI y)), (3, .int way), (4, .int q), (5, .int (nI k))] → W p l e ({ frames := 2, cells := 0, slots := 0, locals := 47 } : Room) s m ([.ref g0, .int (nI x), .int (nI y), .int way, .int q] : List Value).toArray below meth c H locs 0 0 (MQ below (va_Qv (q_mo_build cI g0 g1 g2 g3 g4 g5 g6 g7 g8 g9 g10 g11 g12 g13 g14 g15 isz ith ico cx ry ibi ien itr ibl ile igr ibk ist ibr pix bk lv td ab lf x y way q) (cs_B D vwCl tys A) A) ([.ref g0, .int (nI x), .int (nI y), .int way, .int q] : List Value).toArray s 0 0 A) (F0 m 3 ls []) := by
    intro n
    induction n with
    | zero =>
      intro k f hf hk h1
      exact absurd hf (by omega)
    | succ n ih3 =>
      intro k f hf hk h1 H locs ls hP hD hS hl
      refine lv_iload hx hb d_Model_build_3 (lv_at hl 5 rfl) ?_
      refine lv_bipush (v := 16) hx hb d_Model_build_5 (by decide) ?_
      refine lv_icmp_ge (tgt := 33) hx hb d_Model_build_7 (by decide) (fun c_7 => ?_) (fun c_7 => ?_)
      · have hk2 := (nI_leI (a := 16) (b := k) (by decide) (by omega)).mp c_7
        have hk3 : k = 16 := by omega
        subst hk3
        refine lv_aload_n hx hb d_Model_build_33 rfl (lv_at hl 0 rfl) ?_
        refine cs_Vv (As := []) (rest := []) (wr := [(g3, .inl (cI, 576, .inl pix)), (g7, .inl (cI, 16, .inl lv)), (g8, .inl (cI, 16, .inl td)), (g9, .inl (cI, 4, .inl ab)), (g10, .inl (cI, 4, .inl lf))]) ⟨hx, hb, hml, hown, hts⟩ (c_mo_trans l hcI g0 g1 g2 g3 g4 g5 g6 g7 g8 g9 g10 g11 g12 g13 g14 g15 isz ith ico (nI cx) (nI ry) ibi ien itr ibl ile igr ibk ist ibr f) (cwV 0 hts (cs_gV mw_376 mw_377 mw_378 mw_349 mw_371) rfl rfl rfl ⟨rfl, hd_Model_transform⟩ ⟨Nat.le_of_ble_eq_true rfl, Nat.le_of_ble_eq_true rfl⟩) hN hK hP hD hS hA [0, 2] [1, 3, 4, 5, 6] rfl rfl rfl rfl (by decide) (ci := 9) rfl rfl rfl rfl rfl hl.1 (Nat.le_of_ble_eq_true rfl) d_Model_build_34 ⟨Nat.le_of_ble_eq_true rfl, Nat.le_of_ble_eq_true rfl⟩ (fun w1 H locs hw hP hD hS => ?_)
        obtain rfl := hw
        have hP : va_P D vwCl [(g3, .inl (cI, 576, .inl pix)), (g7, .inl (cI, 16, .inl lv)), (g8, .inl (cI, 16, .inl td)), (g9, .inl (cI, 4, .inl ab)), (g10, .inl (cI, 4, .inl lf)), (g0, .inr (9, [.ref g1, .ref g2, .ref g3, .ref g4, .ref g5, .ref g6, .ref g7, .ref g8, .ref g9, .ref g10, .ref g11, .ref g12, .ref g13, .ref g14, .ref g15, .int isz, .int ith, .int ico, .int (nI cx), .int (nI ry), .int ibi, .int ien, .int itr, .int ibl, .int ile, .int igr, .int ibk, .int ist, .int ibr])), (g6, .inl (cI, 16, .inl (trC (trR f 4) 4)))] H := hP
        have hD : va_D A [(g3, .inl (cI, 576, .inl pix)), (g7, .inl (cI, 16, .inl lv)), (g8, .inl (cI, 16, .inl td)), (g9, .inl (cI, 4, .inl ab)), (g10, .inl (cI, 4, .inl lf)), (g0, .inr (9, [.ref g1, .ref g2, .ref g3, .ref g4, .ref g5, .ref g6, .ref g7, .ref g8, .ref g9, .ref g10, .ref g11, .ref g12, .ref g13, .ref g14, .ref g15, .int isz, .int ith, .int ico, .int (nI cx), .int (nI ry), .int ibi, .int ien, .int itr, .int ibl, .int ile, .int igr, .int ibk, .int ist, .int ibr])), (g6, .inl (cI, 16, .inl (trC (trR f 4) 4)))] := hD
        refine lv_iconst (v := 0) hx hb d_Model_build_37 (by decide) ?_
        refine lv_istore (lv' := [(5, .int 0), (0, .ref g0), (1, .int (nI x)), (2, .int (nI y)), (3, .int way), (4, .int q)]) hx hb d_Model_build_38 hl (by decide) rfl (fun ls hl => ?_)
        have lp40 : ∀ (n : Nat) (k : Nat) (g : Nat → Int32), (17 ≤ k + n) → (k ≤ 16) → (∀ j, j < k → g j = clip (fo2 ry cx ab lf ico way (j % 4) (j / 4) + ((trC (trR f 4) 4 j + 8) >>> (4 &&& 31)))) → ∀ (H : Heap) (locs : List Loc) (ls : Array Slot), va_P D vwCl [(g0, .inr (9, [.ref g1, .ref g2, .ref g3, .ref g4, .ref g5, .ref g6, .ref g7, .ref g8, .ref g9, .ref g10, .ref g11, .ref g12, .ref g13, .ref g14, .ref g15, .int isz, .int ith, .int ico, .int (nI cx), .int (nI ry), .int ibi, .int ien, .int itr, .int ibl, .int ile, .int igr, .int ibk, .int ist, .int ibr])), (g3, .inl (cI, 576, .inl pix)), (g6, .inl (cI, 16, .inl (trC (trR f 4) 4))), (g7, .inl (cI, 16, .inl lv)), (g8, .inl (cI, 16, .inl g)), (g9, .inl (cI, 4, .inl ab)), (g10, .inl (cI, 4, .inl lf))] H → va_D A [(g0, .inr (9, [.ref g1, .ref g2, .ref g3, .ref g4, .ref g5, .ref g6, .ref g7, .ref g8, .ref g9, .ref g10, .ref g11, .ref g12, .ref g13, .ref g14, .ref g15, .int isz, .int ith, .int ico, .int (nI cx), .int (nI ry), .int ibi, .int ien, .int itr, .int ibl, .int ile, .int igr, .int ibk, .int ist, .int ibr])), (g3, .inl (cI, 576, .inl pix)), (g6, .inl (cI, 16, .inl (trC (trR f 4) 4))), (g7, .inl (cI, 16, .inl lv)), (g8, .inl (cI, 16, .inl g)), (g9, .inl (cI, 4, .inl ab)), (g10, .inl (cI, 4, .inl lf))] → va_S A s.heap H locs → lv_has ls 6 [(0, .ref g0), (1, .int (nI x)), (2, .int (nI y)), (3, .int way), (4, .int q), (5, .int (nI k))] → W p l e ({ frames := 2, cells := 0, slots := 0, locals := 47 } : Room) s m ([.ref g0, .int (nI x), .int (nI y), .int way, .int q] : List Value).toArray below meth c H locs 0 0 (MQ below (va_Qv (q_mo_build cI g0 g1 g2 g3 g4 g5 g6 g7 g8 g9 g10 g11 g12 g13 g14 g15 isz ith ico cx ry ibi ien itr ibl ile igr ibk ist ibr pix bk lv td ab lf x y way q) (cs_B D vwCl tys A) A) ([.ref g0, .int (nI x), .int (nI y), .int way, .int q] : List Value).toArray s 0 0 A) (F0 m 40 ls []) := by
          intro n
          induction n with
          | zero =>
            intro k g hf hk h2
            exact absurd hf (by omega)
          | succ n ih40 =>
            intro k g hf hk h2 H locs ls hP hD hS hl
            refine lv_iload hx hb d_Model_build_40 (lv_at hl 5 rfl) ?_
            refine lv_bipush (v := 16) hx hb d_Model_build_42 (by decide) ?_
            refine lv_icmp_ge (tgt := 89) hx hb d_Model_build_44 (by decide) (fun c_44 => ?_) (fun c_44 => ?_)
            · have hk2 := (nI_leI (a := 16) (b := k) (by decide) (by omega)).mp c_44
              have hk3 : k = 16 := by omega
              subst hk3
              refine lv_iconst (v := 0) hx hb d_Model_build_89 (by decide) ?_
              refine lv_istore (lv' := [(5, .int 0), (0, .ref g0), (1, .int (nI x)), (2, .int (nI y)), (3, .int way), (4, .int q)]) hx hb d_Model_build_90 hl (by decide) rfl (fun ls hl => ?_)
              have lp92 : ∀ (n : Nat) (k : Nat), (17 ≤ k + n) → (k ≤ 16) → ∀ (H : Heap) (locs : List Loc) (ls : Array Slot), va_P D vwCl [(g0, .inr (9, [.ref g1, .ref g2, .ref g3, .ref g4, .ref g5, .ref g6, .ref g7, .ref g8, .ref g9, .ref g10, .ref g11, .ref g12, .ref g13, .ref g14, .ref g15, .int isz, .int ith, .int ico, .int (nI cx), .int (nI ry), .int ibi, .int ien, .int itr, .int ibl, .int ile, .int igr, .int ibk, .int ist, .int ibr])), (g3, .inl (cI, 576, .inl (putO 3 pix x y g k))), (g6, .inl (cI, 16, .inl (trC (trR f 4) 4))), (g7, .inl (cI, 16, .inl lv)), (g8, .inl (cI, 16, .inl g)), (g9, .inl (cI, 4, .inl ab)), (g10, .inl (cI, 4, .inl lf))] H → va_D A [(g0, .inr (9, [.ref g1, .ref g2, .ref g3, .ref g4, .ref g5, .ref g6, .ref g7, .ref g8, .ref g9, .ref g10, .ref g11, .ref g12, .ref g13, .ref g14, .ref g15, .int isz, .int ith, .int ico, .int (nI cx), .int (nI ry), .int ibi, .int ien, .int itr, .int ibl, .int ile, .int igr, .int ibk, .int ist, .int ibr])), (g3, .inl (cI, 576, .inl (putO 3 pix x y g k))), (g6, .inl (cI, 16, .inl (trC (trR f 4) 4))), (g7, .inl (cI, 16, .inl lv)), (g8, .inl (cI, 16, .inl g)), (g9, .inl (cI, 4, .inl ab)), (g10, .inl (cI, 4, .inl lf))] → va_S A s.heap H locs → lv_has ls 6 [(0, .ref g0), (1, .int (nI x)), (2, .int (nI y)), (3, .int way), (4, .int q), (5, .int (nI k))] → W p l e ({ frames := 2, cells := 0, slots := 0, locals := 47 } : Room) s m ([.ref g0, .int (nI x), .int (nI y), .int way, .int q] : List Value).toArray below meth c H locs 0 0 (MQ below (va_Qv (q_mo_build cI g0 g1 g2 g3 g4 g5 g6 g7 g8 g9 g10 g11 g12 g13 g14 g15 isz ith ico cx ry ibi ien itr ibl ile igr ibk ist ibr pix bk lv td ab lf x y way q) (cs_B D vwCl tys A) A) ([.ref g0, .int (nI x), .int (nI y), .int way, .int q] : List Value).toArray s 0 0 A) (F0 m 92 ls []) := by
                intro n
                induction n with
                | zero =>
                  intro k hf hk
                  exact absurd hf (by omega)
                | succ n ih92 =>
                  intro k hf hk H locs ls hP hD hS hl
                  refine lv_iload hx hb d_Model_build_92 (lv_at hl 5 rfl) ?_
                  refine lv_bipush (v := 16) hx hb d_Model_build_94 (by decide) ?_
                  refine lv_icmp_ge (tgt := 133) hx hb d_Model_build_96 (by decide) (fun c_96 => ?_) (fun c_96 => ?_)
                  · have hk2 := (nI_leI (a := 16) (b := k) (by decide) (by omega)).mp c_96
                    have hk3 : k = 16 := by omega
                    subst hk3
                    exact W.vret hx hb hr (fun t ht hW => ⟨⟨[(g0, .inr (9, [.ref g1, .ref g2, .ref g3, .ref g4, .ref g5, .ref g6, .ref g7, .ref g8, .ref g9, .ref g10, .ref g11, .ref g12, .ref g13, .ref g14, .ref g15, .int isz, .int ith, .int ico, .int (nI cx), .int (nI ry), .int ibi, .int ien, .int itr, .int ibl, .int ile, .int igr, .int ibk, .int ist, .int ibr])), (g3, .inl (cI, 576, .inl (putO 3 pix x y g 16))), (g6, .inl (cI, 16, .inl (trC (trR f 4) 4))), (g7, .inl (cI, 16, .inl lv)), (g8, .inl (cI, 16, .inl g)), (g9, .inl (cI, 4, .inl ab)), (g10, .inl (cI, 4, .inl lf))], rfl, ⟨(trC (trR f 4) 4), g, (⟨f, h1, h2⟩), (rfl)⟩, by rw [ht]; exact hP, va_K.moved hW.alike hK, hD⟩, hS.F ht⟩) hS.2.2 d_Model_build_133
                  · have hk2 : k < 16 := Nat.not_le.mp (fun h => c_96 ((nI_leI (a := 16) (b := k) (by decide) (by omega)).mpr h))
                    refine lv_aload_n hx hb d_Model_build_99 rfl (lv_at hl 0 rfl) ?_
                    refine va_get (D := D) (ci := 9) (v := .ref g3) (C := "TileForgeModel") (T := T_Model) (N := 29) hx hb hts (cs_in in_Model) hown hK hP 0 rfl rfl 2 (by decide) (hts _ (cs_m mw_354)) (fun _ h9 => h9) rfl d_Model_build_100 ?_
                    refine lv_iconst (v := 3) hx hb d_Model_build_103 (by decide) ?_
                    refine lv_iload_n hx hb d_Model_build_104 rfl (lv_at hl 1 rfl) ?_
                    refine lv_iload hx hb d_Model_build_105 (lv_at hl 5 rfl) ?_
                    refine lv_iconst (v := 4) hx hb d_Model_build_107 (by decide) ?_
                    refine lv_irem hx hb d_Model_build_108 (by decide) ?_
                    refine lv_iadd hx hb d_Model_build_109 ?_
                    refine cs_top (y := nI (x + k % 4)) (cs_addr x k (by omega)) ?_
                    refine lv_iload_n hx hb d_Model_build_110 rfl (lv_at hl 2 rfl) ?_
                    refine lv_iload hx hb d_Model_build_111 (lv_at hl 5 rfl) ?_
                    refine lv_iconst (v := 4) hx hb d_Model_build_113 (by decide) ?_
                    refine lv_idiv hx hb d_Model_build_114 (by decide) ?_
                    refine lv_iadd hx hb d_Model_build_115 ?_
                    refine cs_top (y := nI (y + k / 4)) (cs_addq y k (by omega)) ?_
                    refine cs_Si (As := [.int 3, .int (nI (x + k % 4)), .int (nI (y + k / 4))]) (rest := [.ref g3]) (wr := [(g0, .inr (9, [.ref g1, .ref g2, .ref g3, .ref g4, .ref g5, .ref g6, .ref g7, .ref g8, .ref g9, .ref g10, .ref g11, .ref g12, .ref g13, .ref g14, .ref g15, .int isz, .int ith, .int ico, .int (nI cx), .int (nI ry), .int ibi, .int ien, .int itr, .int ibl, .int ile, .int igr, .int ibk, .int ist, .int ibr])), (g3, .inl (cI, 576, .inl (putO 3 pix x y g k))), (g6, .inl (cI, 16, .inl (trC (trR f 4) 4))), (g7, .inl (cI, 16, .inl lv)), (g8, .inl (cI, 16, .inl g)), (g9, .inl (cI, 4, .inl ab)), (g10, .inl (cI, 4, .inl lf))]) ⟨hx, hb, hml, hown, hts⟩ (c_mo_at l hcI 3 (x + k % 4) (y + k / 4)) (va_cwS 3 hts (cs_gS mw_355 mw_356 mw_349 mw_346) rfl rfl rfl hd_Model_at ⟨Nat.le_of_ble_eq_true rfl, Nat.le_of_ble_eq_true rfl⟩) hN hK hP hD hS hA [] [0, 1, 2, 3, 4, 5, 6] rfl rfl rfl rfl (by decide) rfl rfl hl.1 (Nat.le_of_ble_eq_true rfl) d_Model_build_116 ⟨Nat.le_of_ble_eq_true rfl, Nat.le_of_ble_eq_true rfl⟩ (fun r2 w1 H locs hw hP hD hS => ?_)
                    obtain ⟨rfl, rfl⟩ := hw
                    have hP : va_P D vwCl [(g0, .inr (9, [.ref g1, .ref g2, .ref g3, .ref g4, .ref g5, .ref g6, .ref g7, .ref g8, .ref g9, .ref g10, .ref g11, .ref g12, .ref g13, .ref g14, .ref g15, .int isz, .int ith, .int ico, .int (nI cx), .int (nI ry), .int ibi, .int ien, .int itr, .int ibl, .int ile, .int igr, .int ibk, .int ist, .int ibr])), (g3, .inl (cI, 576, .inl (putO 3 pix x y g k))), (g6, .inl (cI, 16, .inl (trC (trR f 4) 4))), (g7, .inl (cI, 16, .inl lv)), (g8, .inl (cI, 16, .inl g)), (g9, .inl (cI, 4, .inl ab)), (g10, .inl (cI, 4, .inl lf))] H := hP
                    have hD : va_D A [(g0, .inr (9, [.ref g1, .ref g2, .ref g3, .ref g4, .ref g5, .ref g6, .ref g7, .ref g8, .ref g9, .ref g10, .ref g11, .ref g12, .ref g13, .ref g14, .ref g15, .int isz, .int ith, .int ico, .int (nI cx), .int (nI ry), .int ibi, .int ien, .int itr, .int ibl, .int ile, .int igr, .int ibk, .int ist, .int ibr])), (g3, .inl (cI, 576, .inl (putO 3 pix x y g k))), (g6, .inl (cI, 16, .inl (trC (trR f 4) 4))), (g7, .inl (cI, 16, .inl lv)), (g8, .inl (cI, 16, .inl g)), (g9, .inl (cI, 4, .inl ab)), (g10, .inl (cI, 4, .inl lf))] := hD
                    refine lv_aload_n hx hb d_Model_build_119 rfl (lv_at hl 0 rfl) ?_
                    refine va_get (D := D) (ci := 9) (v := .ref g8) (C := "TileForgeModel") (T := T_Model) (N := 29) hx hb hts (cs_in in_Model) hown hK hP 0 rfl rfl 7 (by decide) (hts _ (cs_m mw_379)) (fun _ h9 => h9) rfl d_Model_build_120 ?_
                    refine lv_iload hx hb d_Model_build_123 (lv_at hl 5 rfl) ?_
                    refine cs_iald (j := k) hx hb hK hcI hP 4 rfl (rfl) (hk2) (by decide) d_Model_build_125 ?_
                    refine cs_iast (j := 144 * 3 + ((y + k / 4) * 12 + (x + k % 4))) hx hb hK hcI hP hD hS 1 rfl (congrArg nI (by omega)) (by omega) (by decide) d_Model_build_126 (fun H locs hP hD hS => ?_)
                    have hP : va_P D vwCl [(g0, .inr (9, [.ref g1, .ref g2, .ref g3, .ref g4, .ref g5, .ref g6, .ref g7, .ref g8, .ref g9, .ref g10, .ref g11, .ref g12, .ref g13, .ref g14, .ref g15, .int isz, .int ith, .int ico, .int (nI cx), .int (nI ry), .int ibi, .int ien, .int itr, .int ibl, .int ile, .int igr, .int ibk, .int ist, .int ibr])), (g3, .inl (cI, 576, .inl (upd (putO 3 pix x y g k) (144 * 3 + ((y + k / 4) * 12 + (x + k % 4))) (g k)))), (g6, .inl (cI, 16, .inl (trC (trR f 4) 4))), (g7, .inl (cI, 16, .inl lv)), (g8, .inl (cI, 16, .inl g)), (g9, .inl (cI, 4, .inl ab)), (g10, .inl (cI, 4, .inl lf))] H := hP
                    have hD : va_D A [(g0, .inr (9, [.ref g1, .ref g2, .ref g3, .ref g4, .ref g5, .ref g6, .ref g7, .ref g8, .ref g9, .ref g10, .ref g11, .ref g12, .ref g13, .ref g14, .ref g15, .int isz, .int ith, .int ico, .int (nI cx), .int (nI ry), .int ibi, .int ien, .int itr, .int ibl, .int ile, .int igr, .int ibk, .int ist, .int ibr])), (g3, .inl (cI, 576, .inl (upd (putO 3 pix x y g k) (144 * 3 + ((y + k / 4) * 12 + (x + k % 4))) (g k)))), (g6, .inl (cI, 16, .inl (trC (trR f 4) 4))), (g7, .inl (cI, 16, .inl lv)), (g8, .inl (cI, 16, .inl g)), (g9, .inl (cI, 4, .inl ab)), (g10, .inl (cI, 4, .inl lf))] := hD
                    refine lv_iinc (v := nI (k + 1)) (lv' := [(5, .int (nI (k + 1))), (0, .ref g0), (1, .int (nI x)), (2, .int (nI y)), (3, .int way), (4, .int q)]) hx hb d_Model_build_127 hl (k := 5) rfl (nI_1 _) (by decide) rfl (fun ls hl => ?_)
                    refine lv_goto (tgt := 92) hx hb d_Model_build_130 (by decide) ?_
                    exact ih92 (k + 1) (by omega) (by omega) _ _ _ (hP.sub (ws' := [(g0, .inr (9, [.ref g1, .ref g2, .ref g3, .ref g4, .ref g5, .ref g6, .ref g7, .ref g8, .ref g9, .ref g10, .ref g11, .ref g12, .ref g13, .ref g14, .ref g15, .int isz, .int ith, .int ico, .int (nI cx), .int (nI ry), .int ibi, .int ien, .int itr, .int ibl, .int ile, .int igr, .int ibk, .int ist, .int ibr])), (g3, .inl (cI, 576, .inl (putO 3 pix x y g (k + 1)))), (g6, .inl (cI, 16, .inl (trC (trR f 4) 4))), (g7, .inl (cI, 16, .inl lv)), (g8, .inl (cI, 16, .inl g)), (g9, .inl (cI, 4, .inl ab)), (g10, .inl (cI, 4, .inl lf))]) [0, 1, 2, 3, 4, 5, 6] rfl) (hD.sub (ws' := [(g0, .inr (9, [.ref g1, .ref g2, .ref g3, .ref g4, .ref g5, .ref g6, .ref g7, .ref g8, .ref g9, .ref g10, .ref g11, .ref g12, .ref g13, .ref g14, .ref g15, .int isz, .int ith, .int ico, .int (nI cx), .int (nI ry), .int ibi, .int ien, .int itr, .int ibl, .int ile, .int igr, .int ibk, .int ist, .int ibr])), (g3, .inl (cI, 576, .inl (putO 3 pix x y g (k + 1)))), (g6, .inl (cI, 16, .inl (trC (trR f 4) 4))), (g7, .inl (cI, 16, .inl lv)), (g8, .inl (cI, 16, .inl g)), (g9, .inl (cI, 4, .inl ab)), (g10, .inl (cI, 4, .inl lf))]) [0, 1, 2, 3, 4, 5, 6] (by decide) rfl) hS (lv_sub hl [1, 2, 3, 4, 5, 0] rfl)
              exact lp92 (17) 0 (by omega) (by omega) _ _ _ (hP.sub (ws' := [(g0, .inr (9, [.ref g1, .ref g2, .ref g3, .ref g4, .ref g5, .ref g6, .ref g7, .ref g8, .ref g9, .ref g10, .ref g11, .ref g12, .ref g13, .ref g14, .ref g15, .int isz, .int ith, .int ico, .int (nI cx), .int (nI ry), .int ibi, .int ien, .int itr, .int ibl, .int ile, .int igr, .int ibk, .int ist, .int ibr])), (g3, .inl (cI, 576, .inl (putO 3 pix x y g 0))), (g6, .inl (cI, 16, .inl (trC (trR f 4) 4))), (g7, .inl (cI, 16, .inl lv)), (g8, .inl (cI, 16, .inl g)), (g9, .inl (cI, 4, .inl ab)), (g10, .inl (cI, 4, .inl lf))]) [0, 1, 2, 3, 4, 5, 6] rfl) (hD.sub (ws' := [(g0, .inr (9, [.ref g1, .ref g2, .ref g3, .ref g4, .ref g5, .ref g6, .ref g7, .ref g8, .ref g9, .ref g10, .ref g11, .ref g12, .ref g13, .ref g14, .ref g15, .int isz, .int ith, .int ico, .int (nI cx), .int (nI ry), .int ibi, .int ien, .int itr, .int ibl, .int ile, .int igr, .int ibk, .int ist, .int ibr])), (g3, .inl (cI, 576, .inl (putO 3 pix x y g 0))), (g6, .inl (cI, 16, .inl (trC (trR f 4) 4))), (g7, .inl (cI, 16, .inl lv)), (g8, .inl (cI, 16, .inl g)), (g9, .inl (cI, 4, .inl ab)), (g10, .inl (cI, 4, .inl lf))]) [0, 1, 2, 3, 4, 5, 6] (by decide) rfl) hS (lv_sub hl [1, 2, 3, 4, 5, 0] rfl)
            · have hk2 : k < 16 := Nat.not_le.mp (fun h => c_44 ((nI_leI (a := 16) (b := k) (by decide) (by omega)).mpr h))
              refine lv_aload_n hx hb d_Model_build_47 rfl (lv_at hl 0 rfl) ?_
              refine va_get (D := D) (ci := 9) (v := .ref g8) (C := "TileForgeModel") (T := T_Model) (N := 29) hx hb hts (cs_in in_Model) hown hK hP 0 rfl rfl 7 (by decide) (hts _ (cs_m mw_379)) (fun _ h9 => h9) rfl d_Model_build_48 ?_
              refine lv_iload hx hb d_Model_build_51 (lv_at hl 5 rfl) ?_
              refine lv_aload_n hx hb d_Model_build_53 rfl (lv_at hl 0 rfl) ?_
              refine lv_iload_n hx hb d_Model_build_54 rfl (lv_at hl 3 rfl) ?_
              refine lv_iload hx hb d_Model_build_55 (lv_at hl 5 rfl) ?_
              refine lv_iconst (v := 4) hx hb d_Model_build_57 (by decide) ?_
              refine lv_irem hx hb d_Model_build_58 (by decide) ?_
              refine cs_top (y := nI (k % 4)) (cs_rem4 (by omega)) ?_
              refine lv_iload hx hb d_Model_build_59 (lv_at hl 5 rfl) ?_
              refine lv_iconst (v := 4) hx hb d_Model_build_61 (by decide) ?_
              refine lv_idiv hx hb d_Model_build_62 (by decide) ?_
              refine cs_top (y := nI (k / 4)) (cs_div4 (by omega)) ?_
              refine cs_Vi (As := [.int way, .int (nI (k % 4)), .int (nI (k / 4))]) (rest := [.int (nI k), .ref g8]) (wr := [(g3, .inl (cI, 576, .inl pix)), (g6, .inl (cI, 16, .inl (trC (trR f 4) 4))), (g7, .inl (cI, 16, .inl lv)), (g8, .inl (cI, 16, .inl g))]) ⟨hx, hb, hml, hown, hts⟩ (c_mo_fore l hcI g0 g1 g2 g3 g4 g5 g6 g7 g8 g9 g10 g11 g12 g13 g14 g15 isz ith ico cx ry ibi ien itr ibl ile igr ibk ist ibr ab lf way (k % 4) (k / 4) (hry) (hcx) (by omega) (by omega)) (cwV 3 hts (cs_gV mw_380 mw_381 mw_382 mw_349 mw_363) rfl rfl rfl ⟨rfl, hd_Model_foretold⟩ ⟨Nat.le_of_ble_eq_true rfl, Nat.le_of_ble_eq_true rfl⟩) hN hK hP hD hS hA [0, 5, 6] [1, 2, 3, 4] rfl rfl rfl rfl (by decide) (ci := 9) rfl rfl rfl rfl rfl hl.1 (Nat.le_of_ble_eq_true rfl) d_Model_build_63 ⟨Nat.le_of_ble_eq_true rfl, Nat.le_of_ble_eq_true rfl⟩ (fun r3 w1 H locs hw hP hD hS => ?_)
              obtain ⟨rfl, rfl⟩ := hw
              have hP : va_P D vwCl [(g3, .inl (cI, 576, .inl pix)), (g6, .inl (cI, 16, .inl (trC (trR f 4) 4))), (g7, .inl (cI, 16, .inl lv)), (g8, .inl (cI, 16, .inl g)), (g0, .inr (9, [.ref g1, .ref g2, .ref g3, .ref g4, .ref g5, .ref g6, .ref g7, .ref g8, .ref g9, .ref g10, .ref g11, .ref g12, .ref g13, .ref g14, .ref g15, .int isz, .int ith, .int ico, .int (nI cx), .int (nI ry), .int ibi, .int ien, .int itr, .int ibl, .int ile, .int igr, .int ibk, .int ist, .int ibr])), (g9, .inl (cI, 4, .inl ab)), (g10, .inl (cI, 4, .inl lf))] H := hP
              have hD : va_D A [(g3, .inl (cI, 576, .inl pix)), (g6, .inl (cI, 16, .inl (trC (trR f 4) 4))), (g7, .inl (cI, 16, .inl lv)), (g8, .inl (cI, 16, .inl g)), (g0, .inr (9, [.ref g1, .ref g2, .ref g3, .ref g4, .ref g5, .ref g6, .ref g7, .ref g8, .ref g9, .ref g10, .ref g11, .ref g12, .ref g13, .ref g14, .ref g15, .int isz, .int ith, .int ico, .int (nI cx), .int (nI ry), .int ibi, .int ien, .int itr, .int ibl, .int ile, .int igr, .int ibk, .int ist, .int ibr])), (g9, .inl (cI, 4, .inl ab)), (g10, .inl (cI, 4, .inl lf))] := hD
              refine lv_aload_n hx hb d_Model_build_66 rfl (lv_at hl 0 rfl) ?_
              refine va_get (D := D) (ci := 9) (v := .ref g6) (C := "TileForgeModel") (T := T_Model) (N := 29) hx hb hts (cs_in in_Model) hown hK hP 4 rfl rfl 5 (by decide) (hts _ (cs_m mw_370)) (fun _ h9 => h9) rfl d_Model_build_67 ?_
              refine lv_iload hx hb d_Model_build_70 (lv_at hl 5 rfl) ?_
              refine cs_iald (j := k) hx hb hK hcI hP 1 rfl (rfl) (hk2) (by decide) d_Model_build_72 ?_
              refine lv_bipush (v := 8) hx hb d_Model_build_73 (by decide) ?_
              refine lv_iadd hx hb d_Model_build_75 ?_
              refine lv_iconst (v := 4) hx hb d_Model_build_76 (by decide) ?_
              refine lv_ishr hx hb d_Model_build_77 ?_
              refine lv_iadd hx hb d_Model_build_78 ?_
              refine cs_Si (As := [.int ((fo2 ry cx ab lf ico way (k % 4) (k / 4)) + ((((trC (trR f 4) 4) k) + 8) >>> (4 &&& 31)))]) (rest := [.int (nI k), .ref g8]) (wr := [(g3, .inl (cI, 576, .inl pix)), (g6, .inl (cI, 16, .inl (trC (trR f 4) 4))), (g7, .inl (cI, 16, .inl lv)), (g8, .inl (cI, 16, .inl g)), (g0, .inr (9, [.ref g1, .ref g2, .ref g3, .ref g4, .ref g5, .ref g6, .ref g7, .ref g8, .ref g9, .ref g10, .ref g11, .ref g12, .ref g13, .ref g14, .ref g15, .int isz, .int ith, .int ico, .int (nI cx), .int (nI ry), .int ibi, .int ien, .int itr, .int ibl, .int ile, .int igr, .int ibk, .int ist, .int ibr])), (g9, .inl (cI, 4, .inl ab)), (g10, .inl (cI, 4, .inl lf))]) ⟨hx, hb, hml, hown, hts⟩ (c_mo_clip l hcI ((fo2 ry cx ab lf ico way (k % 4) (k / 4)) + ((((trC (trR f 4) 4) k) + 8) >>> (4 &&& 31)))) (va_cwS 1 hts (cs_gS mw_367 mw_368 mw_349 mw_345) rfl rfl rfl hd_Model_clip ⟨Nat.le_of_ble_eq_true rfl, Nat.le_of_ble_eq_true rfl⟩) hN hK hP hD hS hA [] [0, 1, 2, 3, 4, 5, 6] rfl rfl rfl rfl (by decide) rfl rfl hl.1 (Nat.le_of_ble_eq_true rfl) d_Model_build_79 ⟨Nat.le_of_ble_eq_true rfl, Nat.le_of_ble_eq_true rfl⟩ (fun r4 w1 H locs hw hP hD hS => ?_)
              obtain ⟨rfl, rfl⟩ := hw
              have hP : va_P D vwCl [(g3, .inl (cI, 576, .inl pix)), (g6, .inl (cI, 16, .inl (trC (trR f 4) 4))), (g7, .inl (cI, 16, .inl lv)), (g8, .inl (cI, 16, .inl g)), (g0, .inr (9, [.ref g1, .ref g2, .ref g3, .ref g4, .ref g5, .ref g6, .ref g7, .ref g8, .ref g9, .ref g10, .ref g11, .ref g12, .ref g13, .ref g14, .ref g15, .int isz, .int ith, .int ico, .int (nI cx), .int (nI ry), .int ibi, .int ien, .int itr, .int ibl, .int ile, .int igr, .int ibk, .int ist, .int ibr])), (g9, .inl (cI, 4, .inl ab)), (g10, .inl (cI, 4, .inl lf))] H := hP
              have hD : va_D A [(g3, .inl (cI, 576, .inl pix)), (g6, .inl (cI, 16, .inl (trC (trR f 4) 4))), (g7, .inl (cI, 16, .inl lv)), (g8, .inl (cI, 16, .inl g)), (g0, .inr (9, [.ref g1, .ref g2, .ref g3, .ref g4, .ref g5, .ref g6, .ref g7, .ref g8, .ref g9, .ref g10, .ref g11, .ref g12, .ref g13, .ref g14, .ref g15, .int isz, .int ith, .int ico, .int (nI cx), .int (nI ry), .int ibi, .int ien, .int itr, .int ibl, .int ile, .int igr, .int ibk, .int ist, .int ibr])), (g9, .inl (cI, 4, .inl ab)), (g10, .inl (cI, 4, .inl lf))] := hD
              refine cs_iast (j := k) hx hb hK hcI hP hD hS 3 rfl (rfl) (hk2) (by decide) d_Model_build_82 (fun H locs hP hD hS => ?_)
              have hP : va_P D vwCl [(g3, .inl (cI, 576, .inl pix)), (g6, .inl (cI, 16, .inl (trC (trR f 4) 4))), (g7, .inl (cI, 16, .inl lv)), (g8, .inl (cI, 16, .inl (upd g k (clip ((fo2 ry cx ab lf ico way (k % 4) (k / 4)) + ((((trC (trR f 4) 4) k) + 8) >>> (4 &&& 31))))))), (g0, .inr (9, [.ref g1, .ref g2, .ref g3, .ref g4, .ref g5, .ref g6, .ref g7, .ref g8, .ref g9, .ref g10, .ref g11, .ref g12, .ref g13, .ref g14, .ref g15, .int isz, .int ith, .int ico, .int (nI cx), .int (nI ry), .int ibi, .int ien, .int itr, .int ibl, .int ile, .int igr, .int ibk, .int ist, .int ibr])), (g9, .inl (cI, 4, .inl ab)), (g10, .inl (cI, 4, .inl lf))] H := hP
              have hD : va_D A [(g3, .inl (cI, 576, .inl pix)), (g6, .inl (cI, 16, .inl (trC (trR f 4) 4))), (g7, .inl (cI, 16, .inl lv)), (g8, .inl (cI, 16, .inl (upd g k (clip ((fo2 ry cx ab lf ico way (k % 4) (k / 4)) + ((((trC (trR f 4) 4) k) + 8) >>> (4 &&& 31))))))), (g0, .inr (9, [.ref g1, .ref g2, .ref g3, .ref g4, .ref g5, .ref g6, .ref g7, .ref g8, .ref g9, .ref g10, .ref g11, .ref g12, .ref g13, .ref g14, .ref g15, .int isz, .int ith, .int ico, .int (nI cx), .int (nI ry), .int ibi, .int ien, .int itr, .int ibl, .int ile, .int igr, .int ibk, .int ist, .int ibr])), (g9, .inl (cI, 4, .inl ab)), (g10, .inl (cI, 4, .inl lf))] := hD
              refine lv_iinc (v := nI (k + 1)) (lv' := [(5, .int (nI (k + 1))), (0, .ref g0), (1, .int (nI x)), (2, .int (nI y)), (3, .int way), (4, .int q)]) hx hb d_Model_build_83 hl (k := 5) rfl (nI_1 _) (by decide) rfl (fun ls hl => ?_)
              refine lv_goto (tgt := 40) hx hb d_Model_build_86 (by decide) ?_
              exact ih40 (k + 1) (upd g k (clip ((fo2 ry cx ab lf ico way (k % 4) (k / 4)) + ((((trC (trR f 4) 4) k) + 8) >>> (4 &&& 31))))) (by omega) (by omega) (cs_ext (g := fun j => clip (fo2 ry cx ab lf ico way (j % 4) (j / 4) + ((trC (trR f 4) 4 j + 8) >>> (4 &&& 31)))) h2 rfl) _ _ _ (hP.sub (ws' := [(g0, .inr (9, [.ref g1, .ref g2, .ref g3, .ref g4, .ref g5, .ref g6, .ref g7, .ref g8, .ref g9, .ref g10, .ref g11, .ref g12, .ref g13, .ref g14, .ref g15, .int isz, .int ith, .int ico, .int (nI cx), .int (nI ry), .int ibi, .int ien, .int itr, .int ibl, .int ile, .int igr, .int ibk, .int ist, .int ibr])), (g3, .inl (cI, 576, .inl pix)), (g6, .inl (cI, 16, .inl (trC (trR f 4) 4))), (g7, .inl (cI, 16, .inl lv)), (g8, .inl (cI, 16, .inl (upd g k (clip ((fo2 ry cx ab lf ico way (k % 4) (k / 4)) + ((((trC (trR f 4) 4) k) + 8) >>> (4 &&& 31))))))), (g9, .inl (cI, 4, .inl ab)), (g10, .inl (cI, 4, .inl lf))]) [4, 0, 1, 2, 3, 5, 6] rfl) (hD.sub (ws' := [(g0, .inr (9, [.ref g1, .ref g2, .ref g3, .ref g4, .ref g5, .ref g6, .ref g7, .ref g8, .ref g9, .ref g10, .ref g11, .ref g12, .ref g13, .ref g14, .ref g15, .int isz, .int ith, .int ico, .int (nI cx), .int (nI ry), .int ibi, .int ien, .int itr, .int ibl, .int ile, .int igr, .int ibk, .int ist, .int ibr])), (g3, .inl (cI, 576, .inl pix)), (g6, .inl (cI, 16, .inl (trC (trR f 4) 4))), (g7, .inl (cI, 16, .inl lv)), (g8, .inl (cI, 16, .inl (upd g k (clip ((fo2 ry cx ab lf ico way (k % 4) (k / 4)) + ((((trC (trR f 4) 4) k) + 8) >>> (4 &&& 31))))))), (g9, .inl (cI, 4, .inl ab)), (g10, .inl (cI, 4, .inl lf))]) [4, 0, 1, 2, 3, 5, 6] (by decide) rfl) hS (lv_sub hl [1, 2, 3, 4, 5, 0] rfl)
        exact lp40 (17) 0 td (by omega) (by omega) (fun j hj => absurd hj (by omega)) _ _ _ (hP.sub (ws' := [(g0, .inr (9, [.ref g1, .ref g2, .ref g3, .ref g4, .ref g5, .ref g6, .ref g7, .ref g8, .ref g9, .ref g10, .ref g11, .ref g12, .ref g13, .ref g14, .ref g15, .int isz, .int ith, .int ico, .int (nI cx), .int (nI ry), .int ibi, .int ien, .int itr, .int ibl, .int ile, .int igr, .int ibk, .int ist, .int ibr])), (g3, .inl (cI, 576, .inl pix)), (g6, .inl (cI, 16, .inl (trC (trR f 4) 4))), (g7, .inl (cI, 16, .inl lv)), (g8, .inl (cI, 16, .inl td)), (g9, .inl (cI, 4, .inl ab)), (g10, .inl (cI, 4, .inl lf))]) [5, 0, 6, 1, 2, 3, 4] rfl) (hD.sub (ws' := [(g0, .inr (9, [.ref g1, .ref g2, .ref g3, .ref g4, .ref g5, .ref g6, .ref g7, .ref g8, .ref g9, .ref g10, .ref g11, .ref g12, .ref g13, .ref g14, .ref g15, .int isz, .int ith, .int ico, .int (nI cx), .int (nI ry), .int ibi, .int ien, .int itr, .int ibl, .int ile, .int igr, .int ibk, .int ist, .int ibr])), (g3, .inl (cI, 576, .inl pix)), (g6, .inl (cI, 16, .inl (trC (trR f 4) 4))), (g7, .inl (cI, 16, .inl lv)), (g8, .inl (cI, 16, .inl td)), (g9, .inl (cI, 4, .inl ab)), (g10, .inl (cI, 4, .inl lf))]) [5, 0, 6, 1, 2, 3, 4] (by decide) rfl) hS (lv_sub hl [1, 2, 3, 4, 5, 0] rfl)
      · have hk2 : k < 16 := Nat.not_le.mp (fun h => c_7 ((nI_leI (a := 16) (b := k) (by decide) (by omega)).mpr h))
        refine lv_aload_n hx hb d_Model_build_10 rfl (lv_at hl 0 rfl) ?_
        refine va_get (D := D) (ci := 9) (v := .ref g6) (C := "TileForgeModel") (T := T_Model) (N := 29) hx hb hts (cs_in in_Model) hown hK hP 0 rfl rfl 5 (by decide) (hts _ (cs_m mw_370)) (fun _ h9 => h9) rfl d_Model_build_11 ?_
        refine lv_iload hx hb d_Model_build_14 (lv_at hl 5 rfl) ?_
        refine lv_aload_n hx hb d_Model_build_16 rfl (lv_at hl 0 rfl) ?_
        refine va_get (D := D) (ci := 9) (v := .ref g7) (C := "TileForgeModel") (T := T_Model) (N := 29) hx hb hts (cs_in in_Model) hown hK hP 0 rfl rfl 6 (by decide) (hts _ (cs_m mw_383)) (fun _ h9 => h9) rfl d_Model_build_17 ?_
        refine lv_iload hx hb d_Model_build_20 (lv_at hl 5 rfl) ?_
        refine cs_iald (j := k) hx hb hK hcI hP 3 rfl (rfl) (hk2) (by decide) d_Model_build_22 ?_
        refine lv_iload hx hb d_Model_build_23 (lv_at hl 4 rfl) ?_
        refine lv_ishl hx hb d_Model_build_25 ?_
        refine cs_iast (j := k) hx hb hK hcI hP hD hS 2 rfl (rfl) (hk2) (by decide) d_Model_build_26 (fun H locs hP hD hS => ?_)
        have hP : va_P D vwCl [(g0, .inr (9, [.ref g1, .ref g2, .ref g3, .ref g4, .ref g5, .ref g6, .ref g7, .ref g8, .ref g9, .ref g10, .ref g11, .ref g12, .ref g13, .ref g14, .ref g15, .int isz, .int ith, .int ico, .int (nI cx), .int (nI ry), .int ibi, .int ien, .int itr, .int ibl, .int ile, .int igr, .int ibk, .int ist, .int ibr])), (g3, .inl (cI, 576, .inl pix)), (g6, .inl (cI, 16, .inl (upd f k ((lv k) <<< (q &&& 31))))), (g7, .inl (cI, 16, .inl lv)), (g8, .inl (cI, 16, .inl td)), (g9, .inl (cI, 4, .inl ab)), (g10, .inl (cI, 4, .inl lf))] H := hP
        have hD : va_D A [(g0, .inr (9, [.ref g1, .ref g2, .ref g3, .ref g4, .ref g5, .ref g6, .ref g7, .ref g8, .ref g9, .ref g10, .ref g11, .ref g12, .ref g13, .ref g14, .ref g15, .int isz, .int ith, .int ico, .int (nI cx), .int (nI ry), .int ibi, .int ien, .int itr, .int ibl, .int ile, .int igr, .int ibk, .int ist, .int ibr])), (g3, .inl (cI, 576, .inl pix)), (g6, .inl (cI, 16, .inl (upd f k ((lv k) <<< (q &&& 31))))), (g7, .inl (cI, 16, .inl lv)), (g8, .inl (cI, 16, .inl td)), (g9, .inl (cI, 4, .inl ab)), (g10, .inl (cI, 4, .inl lf))] := hD
        refine lv_iinc (v := nI (k + 1)) (lv' := [(5, .int (nI (k + 1))), (0, .ref g0), (1, .int (nI x)), (2, .int (nI y)), (3, .int way), (4, .int q)]) hx hb d_Model_build_27 hl (k := 5) rfl (nI_1 _) (by decide) rfl (fun ls hl => ?_)
        refine lv_goto (tgt := 3) hx hb d_Model_build_30 (by decide) ?_
        exact ih3 (k + 1) (upd f k ((lv k) <<< (q &&& 31))) (by omega) (by omega) (cs_ext (g := fun j => lv j <<< (q &&& 31)) h1 rfl) _ _ _ (hP.sub (ws' := [(g0, .inr (9, [.ref g1, .ref g2, .ref g3, .ref g4, .ref g5, .ref g6, .ref g7, .ref g8, .ref g9, .ref g10, .ref g11, .ref g12, .ref g13, .ref g14, .ref g15, .int isz, .int ith, .int ico, .int (nI cx), .int (nI ry), .int ibi, .int ien, .int itr, .int ibl, .int ile, .int igr, .int ibk, .int ist, .int ibr])), (g3, .inl (cI, 576, .inl pix)), (g6, .inl (cI, 16, .inl (upd f k ((lv k) <<< (q &&& 31))))), (g7, .inl (cI, 16, .inl lv)), (g8, .inl (cI, 16, .inl td)), (g9, .inl (cI, 4, .inl ab)), (g10, .inl (cI, 4, .inl lf))]) [0, 1, 2, 3, 4, 5, 6] rfl) (hD.sub (ws' := [(g0, .inr (9, [.ref g1, .ref g2, .ref g3, .ref g4, .ref g5, .ref g6, .ref g7, .ref g8, .ref g9, .ref g10, .ref g11, .ref g12, .ref g13, .ref g14, .ref g15, .int isz, .int ith, .int ico, .int (nI cx), .int (nI ry), .int ibi, .int ien, .int itr, .int ibl, .int ile, .int igr, .int ibk, .int ist, .int ibr])), (g3, .inl (cI, 576, .inl pix)), (g6, .inl (cI, 16, .inl (upd f k ((lv k) <<< (q &&& 31))))), (g7, .inl (cI, 16, .inl lv)), (g8, .inl (cI, 16, .inl td)), (g9, .inl (cI, 4, .inl ab)), (g10, .inl (cI, 4, .inl lf))]) [0, 1, 2, 3, 4, 5, 6] (by decide) rfl) hS (lv_sub hl [1, 2, 3, 4, 5, 0] rfl)
  exact lp3 (17) 0 bk (by omega) (by omega) (fun j hj => absurd hj (by omega)) _ _ _ (hP.sub (ws' := [(g0, .inr (9, [.ref g1, .ref g2, .ref g3, .ref g4, .ref g5, .ref g6, .ref g7, .ref g8, .ref g9, .ref g10, .ref g11, .ref g12, .ref g13, .ref g14, .ref g15, .int isz, .int ith, .int ico, .int (nI cx), .int (nI ry), .int ibi, .int ien, .int itr, .int ibl, .int ile, .int igr, .int ibk, .int ist, .int ibr])), (g3, .inl (cI, 576, .inl pix)), (g6, .inl (cI, 16, .inl bk)), (g7, .inl (cI, 16, .inl lv)), (g8, .inl (cI, 16, .inl td)), (g9, .inl (cI, 4, .inl ab)), (g10, .inl (cI, 4, .inl lf))]) [0, 1, 2, 3, 4, 5, 6] rfl) (hD.sub (ws' := [(g0, .inr (9, [.ref g1, .ref g2, .ref g3, .ref g4, .ref g5, .ref g6, .ref g7, .ref g8, .ref g9, .ref g10, .ref g11, .ref g12, .ref g13, .ref g14, .ref g15, .int isz, .int ith, .int ico, .int (nI cx), .int (nI ry), .int ibi, .int ien, .int itr, .int ibl, .int ile, .int igr, .int ibk, .int ist, .int ibr])), (g3, .inl (cI, 576, .inl pix)), (g6, .inl (cI, 16, .inl bk)), (g7, .inl (cI, 16, .inl lv)), (g8, .inl (cI, 16, .inl td)), (g9, .inl (cI, 4, .inl ab)), (g10, .inl (cI, 4, .inl lf))]) [0, 1, 2, 3, 4, 5, 6] (by decide) rfl) hS (lv_sub hl [1, 2, 3, 4, 5, 0] rfl)
