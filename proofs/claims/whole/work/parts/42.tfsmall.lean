def y_TileForge_choose : MethodName := ⟨"TileForge", "choose", "(I)LTileForge$Picture;"⟩
def ws_TileForge_choose : List Cond := .code y_TileForge_choose prog_1_method_15_code 2 (some (.object "TileForge$Picture")) :: GW
theorem mw_472 : (.code ⟨"TileForge", "choose", "(I)LTileForge$Picture;"⟩ prog_1_method_15_code 2 (some (.object "TileForge$Picture")) : Cond) ∈ GW := List.mem_filter.mpr ⟨(List.mem_append_right _ (List.mem_append_right _ (List.mem_append_right _ (List.mem_append_left _ (List.mem_of_getElem? (i := 163) rfl))))), rfl⟩
theorem hd_TileForge_choose : y_TileForge_choose.cls ≠ "java/lang/invoke/MethodHandle" ∧ y_TileForge_choose.cls ≠ "java/lang/invoke/VarHandle" ∧ (parseMethodDescriptor y_TileForge_choose.desc).map (fun d => d.parameters.length) = some 1 := by decide +kernel
theorem d_TileForge_choose_0 : decode prog_1_method_15_code 0 = .ok (.iload_n 1, 1) := by decide +kernel
theorem d_TileForge_choose_1 : decode prog_1_method_15_code 1 = .ok (.ifCond .ne 8, 3) := by decide +kernel
theorem d_TileForge_choose_4 : decode prog_1_method_15_code 4 = .ok (.aload_n 0, 1) := by decide +kernel
theorem d_TileForge_choose_5 : decode prog_1_method_15_code 5 = .ok (.getfield 10, 3) := by decide +kernel
theorem d_TileForge_choose_8 : decode prog_1_method_15_code 8 = .ok (.areturn, 1) := by decide +kernel
theorem d_TileForge_choose_9 : decode prog_1_method_15_code 9 = .ok (.iload_n 1, 1) := by decide +kernel
theorem d_TileForge_choose_10 : decode prog_1_method_15_code 10 = .ok (.iconst 1, 1) := by decide +kernel
theorem d_TileForge_choose_11 : decode prog_1_method_15_code 11 = .ok (.if_icmp .ne 10, 3) := by decide +kernel
theorem d_TileForge_choose_14 : decode prog_1_method_15_code 14 = .ok (.aload_n 0, 1) := by decide +kernel
theorem d_TileForge_choose_15 : decode prog_1_method_15_code 15 = .ok (.getfield 20, 3) := by decide +kernel
theorem d_TileForge_choose_18 : decode prog_1_method_15_code 18 = .ok (.goto 7, 3) := by decide +kernel
theorem d_TileForge_choose_21 : decode prog_1_method_15_code 21 = .ok (.aload_n 0, 1) := by decide +kernel
theorem d_TileForge_choose_22 : decode prog_1_method_15_code 22 = .ok (.getfield 23, 3) := by decide +kernel
theorem d_TileForge_choose_25 : decode prog_1_method_15_code 25 = .ok (.areturn, 1) := by decide +kernel
theorem mw_473 : (.fieldLink "TileForge" 10 "TileForge" "picture" "LTileForge$Picture;" : Cond) ∈ GW := List.mem_filter.mpr ⟨(List.mem_append_right _ (List.mem_append_left _ (List.mem_of_getElem? (i := 213) rfl))), rfl⟩
def q_tf_choose0 (cI : ClassId) (f0 : Nat) (a1 : Nat) (c1 : Nat) (r1 : Nat) (y1 : Nat) (k1 : Nat) (j1 : Nat) (ibc : Int32) (ilc : Int32) (igl : Int32) (ibk : Int32) (ifa : Int32) (ibd : Int32) : Nat → va_W → Prop := fun rr ww => rr = (a1) ∧ ww = [(f0, .inr (8, [.ref a1, .ref c1, .ref r1, .ref y1, .ref k1, .ref j1, .int ibc, .int ilc, .int igl, .int ibk, .int ifa, .int ibd]))]
set_option maxHeartbeats 4000000 in
set_option maxRecDepth 100000 in
theorem c_tf_choose0 (l : Launch) {D : va_G} {tys : List (ClassId × FieldType)} {cI : ClassId} (hcI : tys[0]? = some (cI, .int)) (f0 : Nat) (a1 : Nat) (c1 : Nat) (r1 : Nat) (y1 : Nat) (k1 : Nat) (j1 : Nat) (ibc : Int32) (ilc : Int32) (igl : Int32) (ibk : Int32) (ifa : Int32) (ibd : Int32) : CsR l D vwCl tys y_TileForge_choose ws_TileForge_choose ({ frames := 0, cells := 0, slots := 0, locals := 0 } : Room) [.ref f0, .int 0] [(f0, .inr (8, [.ref a1, .ref c1, .ref r1, .ref y1, .ref k1, .ref j1, .int ibc, .int ilc, .int igl, .int ibk, .int ifa, .int ibd]))] (q_tf_choose0 cI f0 a1 c1 r1 y1 k1 j1 ibc ilc igl ibk ifa ibd) 0 0 := by
  intro sz
  refine Met.ofW (cc := prog_1_method_15_code) (maxL := 2) (ret := (some (.object "TileForge$Picture"))) (by decide) rfl ?_
  intro p e s m args below meth c s₁ B hml hv
  obtain ⟨rfl, hsz, hP, hK, hD0, hN⟩ := hv
  have hx := B.exec
  have hb := B.bytes
  have hr := B.returns
  have hts := atoms_spec (ws := ws_TileForge_choose) B.pre
  have hown : s.vm.findClass "TileForge" = some m.cls := findClass_of_methodNamed B.named
  have hlocks := B.notSynchronized
  subst hsz
  have hD := hD0.self (sz := s.heap.size)
  generalize hAe : va_A [(f0, .inr (8, [.ref a1, .ref c1, .ref r1, .ref y1, .ref k1, .ref j1, .int ibc, .int ilc, .int igl, .int ibk, .int ifa, .int ibd]))] s.heap.size = A at hD ⊢
  have hA : ∀ q : Nat, s.heap.size ≤ q → A q := fun q h => by rw [← hAe]; exact Or.inr h
  have hS : va_S A s.heap s.heap [] := va_S.rf
  have hP : va_P D vwCl [(f0, .inr (8, [.ref a1, .ref c1, .ref r1, .ref y1, .ref k1, .ref j1, .int ibc, .int ilc, .int igl, .int ibk, .int ifa, .int ibd]))] s.heap := hP
  have hl := lv_entry ([.ref f0, .int 0]) (n := 2) (Nat.le_of_ble_eq_true rfl)
  rw [lg_entry_eq]
  generalize (lg_sl ([.ref f0, .int 0]) ++ List.replicate (2 - (lg_sl ([.ref f0, .int 0])).length) Slot.unset).toArray = ls at hl ⊢
  have hl : lv_has ls 2 [(0, .ref f0), (1, .int 0)] := hl
  refine lv_iload_n hx hb d_TileForge_choose_0 rfl (lv_at hl 1 rfl) ?_
  refine lv_if_ne (tgt := 9) hx hb d_TileForge_choose_1 (by decide) (fun c_1 => ?_) (fun c_1 => ?_)
  · exact absurd c_1 (by decide)
  · refine lv_aload_n hx hb d_TileForge_choose_4 rfl (lv_at hl 0 rfl) ?_
    refine va_get (D := D) (ci := 8) (v := .ref a1) (C := "TileForge") (T := T_TileForge) (N := 12) hx hb hts (cs_in in_TileForge) hown hK hP 0 rfl rfl 0 (by decide) (hts _ (cs_m mw_473)) (fun _ h9 => h9) rfl d_TileForge_choose_5 ?_
    exact W.aret (v := .ref a1) hx hb hr (Or.inl ⟨_, rfl⟩) (Or.inr ⟨_, rfl⟩) (fun t ht hW => ⟨⟨[(f0, .inr (8, [.ref a1, .ref c1, .ref r1, .ref y1, .ref k1, .ref j1, .int ibc, .int ilc, .int igl, .int ibk, .int ifa, .int ibd]))], a1, rfl, trivial, ⟨(rfl), (rfl)⟩, by rw [ht]; exact hP, va_K.moved hW.alike hK, hD⟩, hS.F ht⟩) hS.2.2 d_TileForge_choose_8
theorem mw_474 : (.fieldLink "TileForge" 20 "TileForge" "copy" "LTileForge$Picture;" : Cond) ∈ GW := List.mem_filter.mpr ⟨(List.mem_append_right _ (List.mem_append_left _ (List.mem_of_getElem? (i := 214) rfl))), rfl⟩
def q_tf_choose1 (cI : ClassId) (f0 : Nat) (a1 : Nat) (c1 : Nat) (r1 : Nat) (y1 : Nat) (k1 : Nat) (j1 : Nat) (ibc : Int32) (ilc : Int32) (igl : Int32) (ibk : Int32) (ifa : Int32) (ibd : Int32) : Nat → va_W → Prop := fun rr ww => rr = (c1) ∧ ww = [(f0, .inr (8, [.ref a1, .ref c1, .ref r1, .ref y1, .ref k1, .ref j1, .int ibc, .int ilc, .int igl, .int ibk, .int ifa, .int ibd]))]
set_option maxHeartbeats 4000000 in
set_option maxRecDepth 100000 in
theorem c_tf_choose1 (l : Launch) {D : va_G} {tys : List (ClassId × FieldType)} {cI : ClassId} (hcI : tys[0]? = some (cI, .int)) (f0 : Nat) (a1 : Nat) (c1 : Nat) (r1 : Nat) (y1 : Nat) (k1 : Nat) (j1 : Nat) (ibc : Int32) (ilc : Int32) (igl : Int32) (ibk : Int32) (ifa : Int32) (ibd : Int32) : CsR l D vwCl tys y_TileForge_choose ws_TileForge_choose ({ frames := 0, cells := 0, slots := 0, locals := 0 } : Room) [.ref f0, .int 1] [(f0, .inr (8, [.ref a1, .ref c1, .ref r1, .ref y1, .ref k1, .ref j1, .int ibc, .int ilc, .int igl, .int ibk, .int ifa, .int ibd]))] (q_tf_choose1 cI f0 a1 c1 r1 y1 k1 j1 ibc ilc igl ibk ifa ibd) 0 0 := by
  intro sz
  refine Met.ofW (cc := prog_1_method_15_code) (maxL := 2) (ret := (some (.object "TileForge$Picture"))) (by decide) rfl ?_
  intro p e s m args below meth c s₁ B hml hv
  obtain ⟨rfl, hsz, hP, hK, hD0, hN⟩ := hv
  have hx := B.exec
  have hb := B.bytes
  have hr := B.returns
  have hts := atoms_spec (ws := ws_TileForge_choose) B.pre
  have hown : s.vm.findClass "TileForge" = some m.cls := findClass_of_methodNamed B.named
  have hlocks := B.notSynchronized
  subst hsz
  have hD := hD0.self (sz := s.heap.size)
  generalize hAe : va_A [(f0, .inr (8, [.ref a1, .ref c1, .ref r1, .ref y1, .ref k1, .ref j1, .int ibc, .int ilc, .int igl, .int ibk, .int ifa, .int ibd]))] s.heap.size = A at hD ⊢
  have hA : ∀ q : Nat, s.heap.size ≤ q → A q := fun q h => by rw [← hAe]; exact Or.inr h
  have hS : va_S A s.heap s.heap [] := va_S.rf
  have hP : va_P D vwCl [(f0, .inr (8, [.ref a1, .ref c1, .ref r1, .ref y1, .ref k1, .ref j1, .int ibc, .int ilc, .int igl, .int ibk, .int ifa, .int ibd]))] s.heap := hP
  have hl := lv_entry ([.ref f0, .int 1]) (n := 2) (Nat.le_of_ble_eq_true rfl)
  rw [lg_entry_eq]
  generalize (lg_sl ([.ref f0, .int 1]) ++ List.replicate (2 - (lg_sl ([.ref f0, .int 1])).length) Slot.unset).toArray = ls at hl ⊢
  have hl : lv_has ls 2 [(0, .ref f0), (1, .int 1)] := hl
  refine lv_iload_n hx hb d_TileForge_choose_0 rfl (lv_at hl 1 rfl) ?_
  refine lv_if_ne (tgt := 9) hx hb d_TileForge_choose_1 (by decide) (fun c_1 => ?_) (fun c_1 => ?_)
  · refine lv_iload_n hx hb d_TileForge_choose_9 rfl (lv_at hl 1 rfl) ?_
    refine lv_iconst (v := 1) hx hb d_TileForge_choose_10 (by decide) ?_
    refine lv_icmp_ne (tgt := 21) hx hb d_TileForge_choose_11 (by decide) (fun c_11 => ?_) (fun c_11 => ?_)
    · exact absurd rfl c_11
    · refine lv_aload_n hx hb d_TileForge_choose_14 rfl (lv_at hl 0 rfl) ?_
      refine va_get (D := D) (ci := 8) (v := .ref c1) (C := "TileForge") (T := T_TileForge) (N := 12) hx hb hts (cs_in in_TileForge) hown hK hP 0 rfl rfl 1 (by decide) (hts _ (cs_m mw_474)) (fun _ h9 => h9) rfl d_TileForge_choose_15 ?_
      refine lv_goto (tgt := 25) hx hb d_TileForge_choose_18 (by decide) ?_
      exact W.aret (v := .ref c1) hx hb hr (Or.inl ⟨_, rfl⟩) (Or.inr ⟨_, rfl⟩) (fun t ht hW => ⟨⟨[(f0, .inr (8, [.ref a1, .ref c1, .ref r1, .ref y1, .ref k1, .ref j1, .int ibc, .int ilc, .int igl, .int ibk, .int ifa, .int ibd]))], c1, rfl, trivial, ⟨(rfl), (rfl)⟩, by rw [ht]; exact hP, va_K.moved hW.alike hK, hD⟩, hS.F ht⟩) hS.2.2 d_TileForge_choose_25
  · exact absurd c_1 (by decide)
theorem mw_475 : (.fieldLink "TileForge" 23 "TileForge" "result" "LTileForge$Picture;" : Cond) ∈ GW := List.mem_filter.mpr ⟨(List.mem_append_right _ (List.mem_append_left _ (List.mem_of_getElem? (i := 215) rfl))), rfl⟩
def q_tf_choose2 (cI : ClassId) (f0 : Nat) (a1 : Nat) (c1 : Nat) (r1 : Nat) (y1 : Nat) (k1 : Nat) (j1 : Nat) (ibc : Int32) (ilc : Int32) (igl : Int32) (ibk : Int32) (ifa : Int32) (ibd : Int32) : Nat → va_W → Prop := fun rr ww => rr = (r1) ∧ ww = [(f0, .inr (8, [.ref a1, .ref c1, .ref r1, .ref y1, .ref k1, .ref j1, .int ibc, .int ilc, .int igl, .int ibk, .int ifa, .int ibd]))]
set_option maxHeartbeats 4000000 in
set_option maxRecDepth 100000 in
theorem c_tf_choose2 (l : Launch) {D : va_G} {tys : List (ClassId × FieldType)} {cI : ClassId} (hcI : tys[0]? = some (cI, .int)) (f0 : Nat) (a1 : Nat) (c1 : Nat) (r1 : Nat) (y1 : Nat) (k1 : Nat) (j1 : Nat) (ibc : Int32) (ilc : Int32) (igl : Int32) (ibk : Int32) (ifa : Int32) (ibd : Int32) : CsR l D vwCl tys y_TileForge_choose ws_TileForge_choose ({ frames := 0, cells := 0, slots := 0, locals := 0 } : Room) [.ref f0, .int 2] [(f0, .inr (8, [.ref a1, .ref c1, .ref r1, .ref y1, .ref k1, .ref j1, .int ibc, .int ilc, .int igl, .int ibk, .int ifa, .int ibd]))] (q_tf_choose2 cI f0 a1 c1 r1 y1 k1 j1 ibc ilc igl ibk ifa ibd) 0 0 := by
  intro sz
  refine Met.ofW (cc := prog_1_method_15_code) (maxL := 2) (ret := (some (.object "TileForge$Picture"))) (by decide) rfl ?_
  intro p e s m args below meth c s₁ B hml hv
  obtain ⟨rfl, hsz, hP, hK, hD0, hN⟩ := hv
  have hx := B.exec
  have hb := B.bytes
  have hr := B.returns
  have hts := atoms_spec (ws := ws_TileForge_choose) B.pre
  have hown : s.vm.findClass "TileForge" = some m.cls := findClass_of_methodNamed B.named
  have hlocks := B.notSynchronized
  subst hsz
  have hD := hD0.self (sz := s.heap.size)
  generalize hAe : va_A [(f0, .inr (8, [.ref a1, .ref c1, .ref r1, .ref y1, .ref k1, .ref j1, .int ibc, .int ilc, .int igl, .int ibk, .int ifa, .int ibd]))] s.heap.size = A at hD ⊢
  have hA : ∀ q : Nat, s.heap.size ≤ q → A q := fun q h => by rw [← hAe]; exact Or.inr h
  have hS : va_S A s.heap s.heap [] := va_S.rf
  have hP : va_P D vwCl [(f0, .inr (8, [.ref a1, .ref c1, .ref r1, .ref y1, .ref k1, .ref j1, .int ibc, .int ilc, .int igl, .int ibk, .int ifa, .int ibd]))] s.heap := hP
  have hl := lv_entry ([.ref f0, .int 2]) (n := 2) (Nat.le_of_ble_eq_true rfl)
  rw [lg_entry_eq]
  generalize (lg_sl ([.ref f0, .int 2]) ++ List.replicate (2 - (lg_sl ([.ref f0, .int 2])).length) Slot.unset).toArray = ls at hl ⊢
  have hl : lv_has ls 2 [(0, .ref f0), (1, .int 2)] := hl
  refine lv_iload_n hx hb d_TileForge_choose_0 rfl (lv_at hl 1 rfl) ?_
  refine lv_if_ne (tgt := 9) hx hb d_TileForge_choose_1 (by decide) (fun c_1 => ?_) (fun c_1 => ?_)
  · refine lv_iload_n hx hb d_TileForge_choose_9 rfl (lv_at hl 1 rfl) ?_
    refine lv_iconst (v := 1) hx hb d_TileForge_choose_10 (by decide) ?_
    refine lv_icmp_ne (tgt := 21) hx hb d_TileForge_choose_11 (by decide) (fun c_11 => ?_) (fun c_11 => ?_)
    · refine lv_aload_n hx hb d_TileForge_choose_21 rfl (lv_at hl 0 rfl) ?_
      refine va_get (D := D) (ci := 8) (v := .ref r1) (C := "TileForge") (T := T_TileForge) (N := 12) hx hb hts (cs_in in_TileForge) hown hK hP 0 rfl rfl 2 (by decide) (hts _ (cs_m mw_475)) (fun _ h9 => h9) rfl d_TileForge_choose_22 ?_
      exact W.aret (v := .ref r1) hx hb hr (Or.inl ⟨_, rfl⟩) (Or.inr ⟨_, rfl⟩) (fun t ht hW => ⟨⟨[(f0, .inr (8, [.ref a1, .ref c1, .ref r1, .ref y1, .ref k1, .ref j1, .int ibc, .int ilc, .int igl, .int ibk, .int ifa, .int ibd]))], r1, rfl, trivial, ⟨(rfl), (rfl)⟩, by rw [ht]; exact hP, va_K.moved hW.alike hK, hD⟩, hS.F ht⟩) hS.2.2 d_TileForge_choose_25
    · exact absurd c_11 (by decide)
  · exact absurd c_1 (by decide)
def y_TileForge_meanOfSquares : MethodName := ⟨"TileForge", "meanOfSquares", "(LTileForge$Picture;LTileForge$Picture;)D"⟩
def ws_TileForge_meanOfSquares : List Cond := .code y_TileForge_meanOfSquares prog_1_method_22_code 7 (some .double) :: GW
theorem mw_476 : (.code ⟨"TileForge", "meanOfSquares", "(LTileForge$Picture;LTileForge$Picture;)D"⟩ prog_1_method_22_code 7 (some .double) : Cond) ∈ GW := List.mem_filter.mpr ⟨(List.mem_append_right _ (List.mem_append_right _ (List.mem_append_right _ (List.mem_append_left _ (List.mem_of_getElem? (i := 173) rfl))))), rfl⟩
theorem hd_TileForge_meanOfSquares : y_TileForge_meanOfSquares.cls ≠ "java/lang/invoke/MethodHandle" ∧ y_TileForge_meanOfSquares.cls ≠ "java/lang/invoke/VarHandle" ∧ (parseMethodDescriptor y_TileForge_meanOfSquares.desc).map (fun d => d.parameters.length) = some 2 := by decide +kernel
theorem d_TileForge_meanOfSquares_0 : decode prog_1_method_22_code 0 = .ok (.iconst 0, 1) := by decide +kernel
theorem d_TileForge_meanOfSquares_1 : decode prog_1_method_22_code 1 = .ok (.istore_n 2, 1) := by decide +kernel
theorem d_TileForge_meanOfSquares_2 : decode prog_1_method_22_code 2 = .ok (.iconst 0, 1) := by decide +kernel
theorem d_TileForge_meanOfSquares_3 : decode prog_1_method_22_code 3 = .ok (.istore_n 3, 1) := by decide +kernel
theorem d_TileForge_meanOfSquares_4 : decode prog_1_method_22_code 4 = .ok (.iconst 0, 1) := by decide +kernel
theorem d_TileForge_meanOfSquares_5 : decode prog_1_method_22_code 5 = .ok (.istore 4, 2) := by decide +kernel
theorem d_TileForge_meanOfSquares_7 : decode prog_1_method_22_code 7 = .ok (.iload 4, 2) := by decide +kernel
theorem d_TileForge_meanOfSquares_9 : decode prog_1_method_22_code 9 = .ok (.aload_n 0, 1) := by decide +kernel
theorem d_TileForge_meanOfSquares_10 : decode prog_1_method_22_code 10 = .ok (.getfield 75, 3) := by decide +kernel
theorem d_TileForge_meanOfSquares_13 : decode prog_1_method_22_code 13 = .ok (.if_icmp .ge 57, 3) := by decide +kernel
theorem d_TileForge_meanOfSquares_16 : decode prog_1_method_22_code 16 = .ok (.iconst 0, 1) := by decide +kernel
theorem d_TileForge_meanOfSquares_17 : decode prog_1_method_22_code 17 = .ok (.istore 5, 2) := by decide +kernel
theorem d_TileForge_meanOfSquares_19 : decode prog_1_method_22_code 19 = .ok (.iload 5, 2) := by decide +kernel
theorem d_TileForge_meanOfSquares_21 : decode prog_1_method_22_code 21 = .ok (.aload_n 0, 1) := by decide +kernel
theorem d_TileForge_meanOfSquares_22 : decode prog_1_method_22_code 22 = .ok (.getfield 79, 3) := by decide +kernel
theorem d_TileForge_meanOfSquares_25 : decode prog_1_method_22_code 25 = .ok (.if_icmp .ge 39, 3) := by decide +kernel
theorem d_TileForge_meanOfSquares_28 : decode prog_1_method_22_code 28 = .ok (.aload_n 0, 1) := by decide +kernel
theorem d_TileForge_meanOfSquares_29 : decode prog_1_method_22_code 29 = .ok (.iload 5, 2) := by decide +kernel
theorem d_TileForge_meanOfSquares_31 : decode prog_1_method_22_code 31 = .ok (.iload 4, 2) := by decide +kernel
theorem d_TileForge_meanOfSquares_33 : decode prog_1_method_22_code 33 = .ok (.invokevirtual 64, 3) := by decide +kernel
theorem d_TileForge_meanOfSquares_36 : decode prog_1_method_22_code 36 = .ok (.aload_n 1, 1) := by decide +kernel
theorem d_TileForge_meanOfSquares_37 : decode prog_1_method_22_code 37 = .ok (.iload 5, 2) := by decide +kernel
theorem d_TileForge_meanOfSquares_39 : decode prog_1_method_22_code 39 = .ok (.iload 4, 2) := by decide +kernel
theorem d_TileForge_meanOfSquares_41 : decode prog_1_method_22_code 41 = .ok (.invokevirtual 64, 3) := by decide +kernel
theorem d_TileForge_meanOfSquares_44 : decode prog_1_method_22_code 44 = .ok (.isub, 1) := by decide +kernel
theorem d_TileForge_meanOfSquares_45 : decode prog_1_method_22_code 45 = .ok (.istore 6, 2) := by decide +kernel
theorem d_TileForge_meanOfSquares_47 : decode prog_1_method_22_code 47 = .ok (.iload_n 2, 1) := by decide +kernel
theorem d_TileForge_meanOfSquares_48 : decode prog_1_method_22_code 48 = .ok (.iload 6, 2) := by decide +kernel
theorem d_TileForge_meanOfSquares_50 : decode prog_1_method_22_code 50 = .ok (.iload 6, 2) := by decide +kernel
theorem d_TileForge_meanOfSquares_52 : decode prog_1_method_22_code 52 = .ok (.imul, 1) := by decide +kernel
theorem d_TileForge_meanOfSquares_53 : decode prog_1_method_22_code 53 = .ok (.iadd, 1) := by decide +kernel
theorem d_TileForge_meanOfSquares_54 : decode prog_1_method_22_code 54 = .ok (.istore_n 2, 1) := by decide +kernel
theorem d_TileForge_meanOfSquares_55 : decode prog_1_method_22_code 55 = .ok (.iinc 3 1, 3) := by decide +kernel
theorem d_TileForge_meanOfSquares_58 : decode prog_1_method_22_code 58 = .ok (.iinc 5 1, 3) := by decide +kernel
theorem d_TileForge_meanOfSquares_61 : decode prog_1_method_22_code 61 = .ok (.goto (-42), 3) := by decide +kernel
theorem d_TileForge_meanOfSquares_64 : decode prog_1_method_22_code 64 = .ok (.iinc 4 1, 3) := by decide +kernel
theorem d_TileForge_meanOfSquares_67 : decode prog_1_method_22_code 67 = .ok (.goto (-60), 3) := by decide +kernel
theorem d_TileForge_meanOfSquares_70 : decode prog_1_method_22_code 70 = .ok (.iload_n 3, 1) := by decide +kernel
theorem d_TileForge_meanOfSquares_71 : decode prog_1_method_22_code 71 = .ok (.ifCond .ne 7, 3) := by decide +kernel
theorem d_TileForge_meanOfSquares_74 : decode prog_1_method_22_code 74 = .ok (.dconst 0, 1) := by decide +kernel
theorem d_TileForge_meanOfSquares_75 : decode prog_1_method_22_code 75 = .ok (.goto 8, 3) := by decide +kernel
theorem d_TileForge_meanOfSquares_78 : decode prog_1_method_22_code 78 = .ok (.iload_n 2, 1) := by decide +kernel
theorem d_TileForge_meanOfSquares_79 : decode prog_1_method_22_code 79 = .ok (.i2d, 1) := by decide +kernel
theorem d_TileForge_meanOfSquares_80 : decode prog_1_method_22_code 80 = .ok (.iload_n 3, 1) := by decide +kernel
theorem d_TileForge_meanOfSquares_81 : decode prog_1_method_22_code 81 = .ok (.i2d, 1) := by decide +kernel
theorem d_TileForge_meanOfSquares_82 : decode prog_1_method_22_code 82 = .ok (.ddiv, 1) := by decide +kernel
theorem d_TileForge_meanOfSquares_83 : decode prog_1_method_22_code 83 = .ok (.dreturn, 1) := by decide +kernel
theorem mw_477 : (.fieldLink "TileForge" 75 "TileForge$Picture" "height" "I" : Cond) ∈ GW := List.mem_filter.mpr ⟨(List.mem_append_right _ (List.mem_append_left _ (List.mem_of_getElem? (i := 46) rfl))), rfl⟩
theorem mw_478 : (.fieldLink "TileForge" 79 "TileForge$Picture" "width" "I" : Cond) ∈ GW := List.mem_filter.mpr ⟨(List.mem_append_right _ (List.mem_append_left _ (List.mem_of_getElem? (i := 42) rfl))), rfl⟩
theorem mw_479 : (.methodLink "TileForge" 64 ⟨"TileForge$Picture", "look", "(II)I"⟩ : Cond) ∈ GW := List.mem_filter.mpr ⟨(List.mem_append_right _ (List.mem_append_right _ (List.mem_append_left _ (List.mem_of_getElem? (i := 115) rfl)))), rfl⟩
def q_tf_mos2 (cI : ClassId) (a1 : Nat) (a2 : Nat) (a3 : Nat) (px : Nat → Int32) (md : Nat → Int32) (vz : Int32) (vk : Int32) (o1 : Nat) (o2 : Nat) (o3 : Nat) (po : Nat → Int32) (mo : Nat → Int32) (oz : Int32) (ok : Int32) (pw : Nat) (ph : Nat) : UInt64 → va_W → Prop := fun rr ww => rr = (FP.ddiv (FP.i2d (apY px po pw ph)) (FP.i2d (nI (pw * ph)))) ∧ ww = [(a1, .inr (5, [.ref a2, .ref a3, .int vz, .int (nI pw), .int (nI ph), .int vk])), (a2, .inl (cI, 144, .inl px)), (a3, .inl (cI, 9, .inl md)), (o1, .inr (5, [.ref o2, .ref o3, .int oz, .int (nI pw), .int (nI ph), .int ok])), (o2, .inl (cI, 144, .inl po)), (o3, .inl (cI, 9, .inl mo))]
set_option maxHeartbeats 4000000 in
set_option maxRecDepth 100000 in
theorem c_tf_mos2 (l : Launch) {D : va_G} {tys : List (ClassId × FieldType)} {cI : ClassId} (hcI : tys[0]? = some (cI, .int)) (a1 : Nat) (a2 : Nat) (a3 : Nat) (px : Nat → Int32) (md : Nat → Int32) (vz : Int32) (vk : Int32) (o1 : Nat) (o2 : Nat) (o3 : Nat) (po : Nat → Int32) (mo : Nat → Int32) (oz : Int32) (ok : Int32) (pw : Nat) (ph : Nat) (hpw : 0 < pw ∧ pw ≤ 12) (hph : 0 < ph ∧ ph ≤ 12) : CsD l D vwCl tys y_TileForge_meanOfSquares ws_TileForge_meanOfSquares ({ frames := 2, cells := 0, slots := 0, locals := 44 } : Room) [.ref a1, .ref o1] [(a1, .inr (5, [.ref a2, .ref a3, .int vz, .int (nI pw), .int (nI ph), .int vk])), (a2, .inl (cI, 144, .inl px)), (a3, .inl (cI, 9, .inl md)), (o1, .inr (5, [.ref o2, .ref o3, .int oz, .int (nI pw), .int (nI ph), .int ok])), (o2, .inl (cI, 144, .inl po)), (o3, .inl (cI, 9, .inl mo))] (q_tf_mos2 cI a1 a2 a3 px md vz vk o1 o2 o3 po mo oz ok pw ph) 0 0 := by
  intro sz
  refine Met.ofW (cc := prog_1_method_22_code) (maxL := 7) (ret := (some .double)) (by decide) rfl ?_
  intro p e s m args below meth c s₁ B hml hv
  obtain ⟨rfl, hsz, hP, hK, hD0, hN⟩ := hv
  have hx := B.exec
  have hb := B.bytes
  have hr := B.returns
  have hts := atoms_spec (ws := ws_TileForge_meanOfSquares) B.pre
  have hown : s.vm.findClass "TileForge" = some m.cls := findClass_of_methodNamed B.named
  have hlocks := B.notSynchronized
  subst hsz
  have hD := hD0.self (sz := s.heap.size)
  generalize hAe : va_A [(a1, .inr (5, [.ref a2, .ref a3, .int vz, .int (nI pw), .int (nI ph), .int vk])), (a2, .inl (cI, 144, .inl px)), (a3, .inl (cI, 9, .inl md)), (o1, .inr (5, [.ref o2, .ref o3, .int oz, .int (nI pw), .int (nI ph), .int ok])), (o2, .inl (cI, 144, .inl po)), (o3, .inl (cI, 9, .inl mo))] s.heap.size = A at hD ⊢
  have hA : ∀ q : Nat, s.heap.size ≤ q → A q := fun q h => by rw [← hAe]; exact Or.inr h
  have hS : va_S A s.heap s.heap [] := va_S.rf
  have hP : va_P D vwCl [(a1, .inr (5, [.ref a2, .ref a3, .int vz, .int (nI pw), .int (nI ph), .int vk])), (a2, .inl (cI, 144, .inl px)), (a3, .inl (cI, 9, .inl md)), (o1, .inr (5, [.ref o2, .ref o3, .int oz, .int (nI pw), .int (nI ph), .int ok])), (o2, .inl (cI, 144, .inl po)), (o3, .inl (cI, 9, .inl mo))] s.heap := hP
  have hl := lv_entry ([.ref a1, .ref o1]) (n := 7) (Nat.le_of_ble_eq_true rfl)
  rw [lg_entry_eq]
  generalize (lg_sl ([.ref a1, .ref o1]) ++ List.replicate (7 - (lg_sl ([.ref a1, .ref o1])).length) Slot.unset).toArray = ls at hl ⊢
  have hl : lv_has ls 7 [(0, .ref a1), (1, .ref o1)] := hl
  have h9 : pw * ph ≤ 12 * 12 := Nat.mul_le_mul hpw.2 hph.2
  have h8 : 0 < pw * ph := Nat.mul_pos hpw.1 hph.1
  refine lv_iconst (v := 0) hx hb d_TileForge_meanOfSquares_0 (by decide) ?_
  refine lv_istore_n (lv' := [(2, .int 0), (0, .ref a1), (1, .ref o1)]) hx hb d_TileForge_meanOfSquares_1 rfl hl (by decide) rfl (fun ls hl => ?_)
  refine lv_iconst (v := 0) hx hb d_TileForge_meanOfSquares_2 (by decide) ?_
  refine lv_istore_n (lv' := [(3, .int 0), (2, .int 0), (0, .ref a1), (1, .ref o1)]) hx hb d_TileForge_meanOfSquares_3 rfl hl (by decide) rfl (fun ls hl => ?_)
  refine lv_iconst (v := 0) hx hb d_TileForge_meanOfSquares_4 (by decide) ?_
  refine lv_istore (lv' := [(4, .int 0), (3, .int 0), (2, .int 0), (0, .ref a1), (1, .ref o1)]) hx hb d_TileForge_meanOfSquares_5 hl (by decide) rfl (fun ls hl => ?_)
  have lp7 : ∀ (n : Nat) (jj : Nat) (z : Int32) (cnt : Nat), (13 ≤ jj + n) → (jj ≤ ph) → (z = apY px po pw jj) → (cnt = jj * pw) → ∀ (H : Heap) (locs : List Loc) (ls : Array Slot), va_P D vwCl [(a1, .inr (5, [.ref a2, .ref a3, .int vz, .int (nI pw), .int (nI ph), .int vk])), (a2, .inl (cI, 144, .inl px)), (a3, .inl (cI, 9, .inl md)), (o1, .inr (5, [.ref o2, .ref o3, .int oz, .int (nI pw), .int (nI ph), .int ok])), (o2, .inl (cI, 144, .inl po)), (o3, .inl (cI, 9, .inl mo))] H → va_D A [(a1, .inr (5, [.ref a2, .ref a3, .int vz, .int (nI pw), .int (nI ph), .int vk])), (a2, .inl (cI, 144, .inl px)), (a3, .inl (cI, 9, .inl md)), (o1, .inr (5, [.ref o2, .ref o3, .int oz, .int (nI pw), .int (nI ph), .int ok])), (o2, .inl (cI, 144, .inl po)), (o3, .inl (cI, 9, .inl mo))] → va_S A s.heap H locs → lv_has ls 7 [(0, .ref a1), (1, .ref o1), (2, .int z), (3, .int (nI cnt)), (4, .int (nI jj))] → W p l e ({ frames := 2, cells := 0, slots := 0, locals := 44 } : Room) s m ([.ref a1, .ref o1] : List Value).toArray below meth c H locs 0 0 (MQ below (va_Qd (q_tf_mos2 cI a1 a2 a3 px md vz vk o1 o2 o3 po mo oz ok pw ph) (cs_B D vwCl tys A) A) ([.ref a1, .ref o1] : List Value).toArray s 0 0 A) (F0 m 7 ls []) := by
    intro n
    induction n with
    | zero =>
      intro jj z cnt hf hj hz hcn
      exact absurd hf (by omega)
    | succ n ih7 =>
      intro jj z cnt hf hj hz hcn H locs ls hP hD hS hl
      refine lv_iload hx hb d_TileForge_meanOfSquares_7 (lv_at hl 4 rfl) ?_
      refine lv_aload_n hx hb d_TileForge_meanOfSquares_9 rfl (lv_at hl 0 rfl) ?_
      refine va_get (D := D) (ci := 5) (v := .int (nI ph)) (C := "TileForge$Picture") (T := T_Picture) (N := 6) hx hb hts (cs_in in_Picture) hown hK hP 0 rfl rfl 4 (by decide) (hts _ (cs_m mw_477)) (fun _ h9 => h9) rfl d_TileForge_meanOfSquares_10 ?_
      refine lv_icmp_ge (tgt := 70) hx hb d_TileForge_meanOfSquares_13 (by decide) (fun c_13 => ?_) (fun c_13 => ?_)
      · have hj2 := (nI_leI (a := ph) (b := jj) (by omega) (by omega)).mp c_13
        have hj3 : jj = ph := by omega
        have hc3 : cnt = pw * ph := by rw [hcn, hj3, Nat.mul_comm]
        refine lv_iload_n hx hb d_TileForge_meanOfSquares_70 rfl (lv_at hl 3 rfl) ?_
        refine lv_if_ne (tgt := 78) hx hb d_TileForge_meanOfSquares_71 (by decide) (fun c_71 => ?_) (fun c_71 => ?_)
        · refine lv_iload_n hx hb d_TileForge_meanOfSquares_78 rfl (lv_at hl 2 rfl) ?_
          refine lv_i2d hx hb d_TileForge_meanOfSquares_79 ?_
          refine lv_iload_n hx hb d_TileForge_meanOfSquares_80 rfl (lv_at hl 3 rfl) ?_
          refine lv_i2d hx hb d_TileForge_meanOfSquares_81 ?_
          refine lv_ddiv hx hb d_TileForge_meanOfSquares_82 (vf_div _ (show 0 < cnt by omega) (by omega)) ?_
          exact W.dret (v := (FP.ddiv (FP.i2d z) (FP.i2d (nI cnt)))) hx hb hr (fun t ht hW => ⟨⟨(FP.ddiv (FP.i2d z) (FP.i2d (nI cnt))), [(a1, .inr (5, [.ref a2, .ref a3, .int vz, .int (nI pw), .int (nI ph), .int vk])), (a2, .inl (cI, 144, .inl px)), (a3, .inl (cI, 9, .inl md)), (o1, .inr (5, [.ref o2, .ref o3, .int oz, .int (nI pw), .int (nI ph), .int ok])), (o2, .inl (cI, 144, .inl po)), (o3, .inl (cI, 9, .inl mo))], rfl, ⟨(by rw [hz, hj3, hc3]), (rfl)⟩, by rw [ht]; exact hP, va_K.moved hW.alike hK, hD⟩, hS.F ht⟩) hS.2.2 d_TileForge_meanOfSquares_83
        · exact absurd (cs_nz0 c_71 (by omega)) (by omega)
      · have hj2 : jj < ph := Nat.not_le.mp (fun q => c_13 ((nI_leI (a := ph) (b := jj) (by omega) (by omega)).mpr q))
        refine lv_iconst (v := 0) hx hb d_TileForge_meanOfSquares_16 (by decide) ?_
        refine lv_istore (lv' := [(5, .int 0), (0, .ref a1), (1, .ref o1), (2, .int z), (3, .int (nI cnt)), (4, .int (nI jj))]) hx hb d_TileForge_meanOfSquares_17 hl (by decide) rfl (fun ls hl => ?_)
        have lp19 : ∀ (n : Nat) (ii : Nat) (z : Int32) (cnt : Nat), (13 ≤ ii + n) → (ii ≤ pw) → (z = apY px po pw jj + apX px po jj ii) → (cnt = jj * pw + ii) → ∀ (H : Heap) (locs : List Loc) (ls : Array Slot), va_P D vwCl [(a1, .inr (5, [.ref a2, .ref a3, .int vz, .int (nI pw), .int (nI ph), .int vk])), (a2, .inl (cI, 144, .inl px)), (a3, .inl (cI, 9, .inl md)), (o1, .inr (5, [.ref o2, .ref o3, .int oz, .int (nI pw), .int (nI ph), .int ok])), (o2, .inl (cI, 144, .inl po)), (o3, .inl (cI, 9, .inl mo))] H → va_D A [(a1, .inr (5, [.ref a2, .ref a3, .int vz, .int (nI pw), .int (nI ph), .int vk])), (a2, .inl (cI, 144, .inl px)), (a3, .inl (cI, 9, .inl md)), (o1, .inr (5, [.ref o2, .ref o3, .int oz, .int (nI pw), .int (nI ph), .int ok])), (o2, .inl (cI, 144, .inl po)), (o3, .inl (cI, 9, .inl mo))] → va_S A s.heap H locs → lv_has ls 7 [(0, .ref a1), (1, .ref o1), (2, .int z), (3, .int (nI cnt)), (4, .int (nI jj)), (5, .int (nI ii))] → W p l e ({ frames := 2, cells := 0, slots := 0, locals := 44 } : Room) s m ([.ref a1, .ref o1] : List Value).toArray below meth c H locs 0 0 (MQ below (va_Qd (q_tf_mos2 cI a1 a2 a3 px md vz vk o1 o2 o3 po mo oz ok pw ph) (cs_B D vwCl tys A) A) ([.ref a1, .ref o1] : List Value).toArray s 0 0 A) (F0 m 19 ls []) := by
          intro n
          induction n with
          | zero =>
            intro ii z cnt hf hi hz2 hcn
            exact absurd hf (by omega)
          | succ n ih19 =>
            intro ii z cnt hf hi hz2 hcn H locs ls hP hD hS hl
            refine lv_iload hx hb d_TileForge_meanOfSquares_19 (lv_at hl 5 rfl) ?_
            refine lv_aload_n hx hb d_TileForge_meanOfSquares_21 rfl (lv_at hl 0 rfl) ?_
            refine va_get (D := D) (ci := 5) (v := .int (nI pw)) (C := "TileForge$Picture") (T := T_Picture) (N := 6) hx hb hts (cs_in in_Picture) hown hK hP 0 rfl rfl 3 (by decide) (hts _ (cs_m mw_478)) (fun _ h9 => h9) rfl d_TileForge_meanOfSquares_22 ?_
            refine lv_icmp_ge (tgt := 64) hx hb d_TileForge_meanOfSquares_25 (by decide) (fun c_25 => ?_) (fun c_25 => ?_)
            · have hi2 := (nI_leI (a := pw) (b := ii) (by omega) (by omega)).mp c_25
              have hi3 : ii = pw := by omega
              refine lv_iinc (v := nI (jj + 1)) (lv' := [(4, .int (nI (jj + 1))), (0, .ref a1), (1, .ref o1), (2, .int z), (3, .int (nI cnt)), (5, .int (nI ii))]) hx hb d_TileForge_meanOfSquares_64 hl (k := 4) rfl (nI_1 _) (by decide) rfl (fun ls hl => ?_)
              refine lv_goto (tgt := 7) hx hb d_TileForge_meanOfSquares_67 (by decide) ?_
              exact ih7 (jj + 1) z cnt (by omega) (by omega) (by rw [hz2, hi3, apY]) (by rw [Nat.succ_mul]; omega) _ _ _ (hP.sub (ws' := [(a1, .inr (5, [.ref a2, .ref a3, .int vz, .int (nI pw), .int (nI ph), .int vk])), (a2, .inl (cI, 144, .inl px)), (a3, .inl (cI, 9, .inl md)), (o1, .inr (5, [.ref o2, .ref o3, .int oz, .int (nI pw), .int (nI ph), .int ok])), (o2, .inl (cI, 144, .inl po)), (o3, .inl (cI, 9, .inl mo))]) [0, 1, 2, 3, 4, 5] rfl) (hD.sub (ws' := [(a1, .inr (5, [.ref a2, .ref a3, .int vz, .int (nI pw), .int (nI ph), .int vk])), (a2, .inl (cI, 144, .inl px)), (a3, .inl (cI, 9, .inl md)), (o1, .inr (5, [.ref o2, .ref o3, .int oz, .int (nI pw), .int (nI ph), .int ok])), (o2, .inl (cI, 144, .inl po)), (o3, .inl (cI, 9, .inl mo))]) [0, 1, 2, 3, 4, 5] (by decide) rfl) hS (lv_sub hl [1, 2, 3, 4, 0] rfl)
            · have hi2 : ii < pw := Nat.not_le.mp (fun q => c_25 ((nI_leI (a := pw) (b := ii) (by omega) (by omega)).mpr q))
              refine lv_aload_n hx hb d_TileForge_meanOfSquares_28 rfl (lv_at hl 0 rfl) ?_
              refine lv_iload hx hb d_TileForge_meanOfSquares_29 (lv_at hl 5 rfl) ?_
              refine lv_iload hx hb d_TileForge_meanOfSquares_31 (lv_at hl 4 rfl) ?_
              refine cs_Vi (As := [.int (nI ii), .int (nI jj)]) (rest := []) (wr := [(o1, .inr (5, [.ref o2, .ref o3, .int oz, .int (nI pw), .int (nI ph), .int ok])), (o2, .inl (cI, 144, .inl po)), (o3, .inl (cI, 9, .inl mo))]) ⟨hx, hb, hml, hown, hts⟩ (c_pic_look l hcI a1 a2 a3 px md vz (nI pw) (nI ph) vk ii jj (by omega) (by omega) (nI_lt (by omega) (by omega)) (nI_lt (by omega) (by omega))) (cwV 2 hts (cs_gV mw_479 mw_195 mw_196 mw_93 mw_92) rfl rfl rfl ⟨rfl, hd_Picture_look⟩ ⟨Nat.le_of_ble_eq_true rfl, Nat.le_of_ble_eq_true rfl⟩) hN hK hP hD hS hA [0, 1, 2] [3, 4, 5] rfl rfl rfl rfl (by decide) (ci := 5) rfl rfl rfl rfl rfl hl.1 (Nat.le_of_ble_eq_true rfl) d_TileForge_meanOfSquares_33 ⟨Nat.le_of_ble_eq_true rfl, Nat.le_of_ble_eq_true rfl⟩ (fun r1 w1 H locs hw hP hD hS => ?_)
              obtain ⟨rfl, rfl⟩ := hw
              have hP : va_P D vwCl [(o1, .inr (5, [.ref o2, .ref o3, .int oz, .int (nI pw), .int (nI ph), .int ok])), (o2, .inl (cI, 144, .inl po)), (o3, .inl (cI, 9, .inl mo)), (a1, .inr (5, [.ref a2, .ref a3, .int vz, .int (nI pw), .int (nI ph), .int vk])), (a2, .inl (cI, 144, .inl px)), (a3, .inl (cI, 9, .inl md))] H := hP
              have hD : va_D A [(o1, .inr (5, [.ref o2, .ref o3, .int oz, .int (nI pw), .int (nI ph), .int ok])), (o2, .inl (cI, 144, .inl po)), (o3, .inl (cI, 9, .inl mo)), (a1, .inr (5, [.ref a2, .ref a3, .int vz, .int (nI pw), .int (nI ph), .int vk])), (a2, .inl (cI, 144, .inl px)), (a3, .inl (cI, 9, .inl md))] := hD
              refine lv_aload_n hx hb d_TileForge_meanOfSquares_36 rfl (lv_at hl 1 rfl) ?_
              refine lv_iload hx hb d_TileForge_meanOfSquares_37 (lv_at hl 5 rfl) ?_
              refine lv_iload hx hb d_TileForge_meanOfSquares_39 (lv_at hl 4 rfl) ?_
              refine cs_Vi (As := [.int (nI ii), .int (nI jj)]) (rest := [.int (px (jj * 12 + ii))]) (wr := [(a1, .inr (5, [.ref a2, .ref a3, .int vz, .int (nI pw), .int (nI ph), .int vk])), (a2, .inl (cI, 144, .inl px)), (a3, .inl (cI, 9, .inl md))]) ⟨hx, hb, hml, hown, hts⟩ (c_pic_look l hcI o1 o2 o3 po mo oz (nI pw) (nI ph) ok ii jj (by omega) (by omega) (nI_lt (by omega) (by omega)) (nI_lt (by omega) (by omega))) (cwV 2 hts (cs_gV mw_479 mw_195 mw_196 mw_93 mw_92) rfl rfl rfl ⟨rfl, hd_Picture_look⟩ ⟨Nat.le_of_ble_eq_true rfl, Nat.le_of_ble_eq_true rfl⟩) hN hK hP hD hS hA [0, 1, 2] [3, 4, 5] rfl rfl rfl rfl (by decide) (ci := 5) rfl rfl rfl rfl rfl hl.1 (Nat.le_of_ble_eq_true rfl) d_TileForge_meanOfSquares_41 ⟨Nat.le_of_ble_eq_true rfl, Nat.le_of_ble_eq_true rfl⟩ (fun r2 w1 H locs hw hP hD hS => ?_)
              obtain ⟨rfl, rfl⟩ := hw
              have hP : va_P D vwCl [(a1, .inr (5, [.ref a2, .ref a3, .int vz, .int (nI pw), .int (nI ph), .int vk])), (a2, .inl (cI, 144, .inl px)), (a3, .inl (cI, 9, .inl md)), (o1, .inr (5, [.ref o2, .ref o3, .int oz, .int (nI pw), .int (nI ph), .int ok])), (o2, .inl (cI, 144, .inl po)), (o3, .inl (cI, 9, .inl mo))] H := hP
              have hD : va_D A [(a1, .inr (5, [.ref a2, .ref a3, .int vz, .int (nI pw), .int (nI ph), .int vk])), (a2, .inl (cI, 144, .inl px)), (a3, .inl (cI, 9, .inl md)), (o1, .inr (5, [.ref o2, .ref o3, .int oz, .int (nI pw), .int (nI ph), .int ok])), (o2, .inl (cI, 144, .inl po)), (o3, .inl (cI, 9, .inl mo))] := hD
              refine lv_isub hx hb d_TileForge_meanOfSquares_44 ?_
              refine lv_istore (lv' := [(6, .int ((px (jj * 12 + ii)) - (po (jj * 12 + ii)))), (0, .ref a1), (1, .ref o1), (2, .int z), (3, .int (nI cnt)), (4, .int (nI jj)), (5, .int (nI ii))]) hx hb d_TileForge_meanOfSquares_45 hl (by decide) rfl (fun ls hl => ?_)
              refine lv_iload_n hx hb d_TileForge_meanOfSquares_47 rfl (lv_at hl 3 rfl) ?_
              refine lv_iload hx hb d_TileForge_meanOfSquares_48 (lv_at hl 0 rfl) ?_
              refine lv_iload hx hb d_TileForge_meanOfSquares_50 (lv_at hl 0 rfl) ?_
              refine lv_imul hx hb d_TileForge_meanOfSquares_52 ?_
              refine lv_iadd hx hb d_TileForge_meanOfSquares_53 ?_
              refine lv_istore_n (lv' := [(2, .int (z + (((px (jj * 12 + ii)) - (po (jj * 12 + ii))) * ((px (jj * 12 + ii)) - (po (jj * 12 + ii)))))), (6, .int ((px (jj * 12 + ii)) - (po (jj * 12 + ii)))), (0, .ref a1), (1, .ref o1), (3, .int (nI cnt)), (4, .int (nI jj)), (5, .int (nI ii))]) hx hb d_TileForge_meanOfSquares_54 rfl hl (by decide) rfl (fun ls hl => ?_)
              refine lv_iinc (v := nI (cnt + 1)) (lv' := [(3, .int (nI (cnt + 1))), (2, .int (z + (((px (jj * 12 + ii)) - (po (jj * 12 + ii))) * ((px (jj * 12 + ii)) - (po (jj * 12 + ii)))))), (6, .int ((px (jj * 12 + ii)) - (po (jj * 12 + ii)))), (0, .ref a1), (1, .ref o1), (4, .int (nI jj)), (5, .int (nI ii))]) hx hb d_TileForge_meanOfSquares_55 hl (k := 4) rfl (nI_1 _) (by decide) rfl (fun ls hl => ?_)
              refine lv_iinc (v := nI (ii + 1)) (lv' := [(5, .int (nI (ii + 1))), (3, .int (nI (cnt + 1))), (2, .int (z + (((px (jj * 12 + ii)) - (po (jj * 12 + ii))) * ((px (jj * 12 + ii)) - (po (jj * 12 + ii)))))), (6, .int ((px (jj * 12 + ii)) - (po (jj * 12 + ii)))), (0, .ref a1), (1, .ref o1), (4, .int (nI jj))]) hx hb d_TileForge_meanOfSquares_58 hl (k := 6) rfl (nI_1 _) (by decide) rfl (fun ls hl => ?_)
              refine lv_goto (tgt := 19) hx hb d_TileForge_meanOfSquares_61 (by decide) ?_
              exact ih19 (ii + 1) (z + (((px (jj * 12 + ii)) - (po (jj * 12 + ii))) * ((px (jj * 12 + ii)) - (po (jj * 12 + ii))))) (cnt + 1) (by omega) (by omega) (by rw [hz2, apX, Int32.add_assoc]) (by omega) _ _ _ (hP.sub (ws' := [(a1, .inr (5, [.ref a2, .ref a3, .int vz, .int (nI pw), .int (nI ph), .int vk])), (a2, .inl (cI, 144, .inl px)), (a3, .inl (cI, 9, .inl md)), (o1, .inr (5, [.ref o2, .ref o3, .int oz, .int (nI pw), .int (nI ph), .int ok])), (o2, .inl (cI, 144, .inl po)), (o3, .inl (cI, 9, .inl mo))]) [0, 1, 2, 3, 4, 5] rfl) (hD.sub (ws' := [(a1, .inr (5, [.ref a2, .ref a3, .int vz, .int (nI pw), .int (nI ph), .int vk])), (a2, .inl (cI, 144, .inl px)), (a3, .inl (cI, 9, .inl md)), (o1, .inr (5, [.ref o2, .ref o3, .int oz, .int (nI pw), .int (nI ph), .int ok])), (o2, .inl (cI, 144, .inl po)), (o3, .inl (cI, 9, .inl mo))]) [0, 1, 2, 3, 4, 5] (by decide) rfl) hS (lv_sub hl [4, 5, 2, 1, 6, 0] rfl)
        exact lp19 (13) 0 z cnt (by omega) (by omega) (by rw [hz, apX, Int32.add_zero]) (by omega) _ _ _ (hP.sub (ws' := [(a1, .inr (5, [.ref a2, .ref a3, .int vz, .int (nI pw), .int (nI ph), .int vk])), (a2, .inl (cI, 144, .inl px)), (a3, .inl (cI, 9, .inl md)), (o1, .inr (5, [.ref o2, .ref o3, .int oz, .int (nI pw), .int (nI ph), .int ok])), (o2, .inl (cI, 144, .inl po)), (o3, .inl (cI, 9, .inl mo))]) [0, 1, 2, 3, 4, 5] rfl) (hD.sub (ws' := [(a1, .inr (5, [.ref a2, .ref a3, .int vz, .int (nI pw), .int (nI ph), .int vk])), (a2, .inl (cI, 144, .inl px)), (a3, .inl (cI, 9, .inl md)), (o1, .inr (5, [.ref o2, .ref o3, .int oz, .int (nI pw), .int (nI ph), .int ok])), (o2, .inl (cI, 144, .inl po)), (o3, .inl (cI, 9, .inl mo))]) [0, 1, 2, 3, 4, 5] (by decide) rfl) hS (lv_sub hl [1, 2, 3, 4, 5, 0] rfl)
  exact lp7 (13) 0 0 0 (by omega) (by omega) (rfl) (by omega) _ _ _ (hP.sub (ws' := [(a1, .inr (5, [.ref a2, .ref a3, .int vz, .int (nI pw), .int (nI ph), .int vk])), (a2, .inl (cI, 144, .inl px)), (a3, .inl (cI, 9, .inl md)), (o1, .inr (5, [.ref o2, .ref o3, .int oz, .int (nI pw), .int (nI ph), .int ok])), (o2, .inl (cI, 144, .inl po)), (o3, .inl (cI, 9, .inl mo))]) [0, 1, 2, 3, 4, 5] rfl) (hD.sub (ws' := [(a1, .inr (5, [.ref a2, .ref a3, .int vz, .int (nI pw), .int (nI ph), .int vk])), (a2, .inl (cI, 144, .inl px)), (a3, .inl (cI, 9, .inl md)), (o1, .inr (5, [.ref o2, .ref o3, .int oz, .int (nI pw), .int (nI ph), .int ok])), (o2, .inl (cI, 144, .inl po)), (o3, .inl (cI, 9, .inl mo))]) [0, 1, 2, 3, 4, 5] (by decide) rfl) hS (lv_sub hl [3, 4, 2, 1, 0] rfl)
def q_tf_mos1 (cI : ClassId) (a1 : Nat) (a2 : Nat) (a3 : Nat) (px : Nat → Int32) (md : Nat → Int32) (vz : Int32) (vk : Int32) (pw : Nat) (ph : Nat) : UInt64 → va_W → Prop := fun rr ww => rr = (FP.ddiv (FP.i2d (apY px px pw ph)) (FP.i2d (nI (pw * ph)))) ∧ ww = [(a1, .inr (5, [.ref a2, .ref a3, .int vz, .int (nI pw), .int (nI ph), .int vk])), (a2, .inl (cI, 144, .inl px)), (a3, .inl (cI, 9, .inl md))]
set_option maxHeartbeats 4000000 in
set_option maxRecDepth 100000 in
theorem c_tf_mos1 (l : Launch) {D : va_G} {tys : List (ClassId × FieldType)} {cI : ClassId} (hcI : tys[0]? = some (cI, .int)) (a1 : Nat) (a2 : Nat) (a3 : Nat) (px : Nat → Int32) (md : Nat → Int32) (vz : Int32) (vk : Int32) (pw : Nat) (ph : Nat) (hpw : 0 < pw ∧ pw ≤ 12) (hph : 0 < ph ∧ ph ≤ 12) : CsD l D vwCl tys y_TileForge_meanOfSquares ws_TileForge_meanOfSquares ({ frames := 2, cells := 0, slots := 0, locals := 44 } : Room) [.ref a1, .ref a1] [(a1, .inr (5, [.ref a2, .ref a3, .int vz, .int (nI pw), .int (nI ph), .int vk])), (a2, .inl (cI, 144, .inl px)), (a3, .inl (cI, 9, .inl md))] (q_tf_mos1 cI a1 a2 a3 px md vz vk pw ph) 0 0 := by
  intro sz
  refine Met.ofW (cc := prog_1_method_22_code) (maxL := 7) (ret := (some .double)) (by decide) rfl ?_
  intro p e s m args below meth c s₁ B hml hv
  obtain ⟨rfl, hsz, hP, hK, hD0, hN⟩ := hv
  have hx := B.exec
  have hb := B.bytes
  have hr := B.returns
  have hts := atoms_spec (ws := ws_TileForge_meanOfSquares) B.pre
  have hown : s.vm.findClass "TileForge" = some m.cls := findClass_of_methodNamed B.named
  have hlocks := B.notSynchronized
  subst hsz
  have hD := hD0.self (sz := s.heap.size)
  generalize hAe : va_A [(a1, .inr (5, [.ref a2, .ref a3, .int vz, .int (nI pw), .int (nI ph), .int vk])), (a2, .inl (cI, 144, .inl px)), (a3, .inl (cI, 9, .inl md))] s.heap.size = A at hD ⊢
  have hA : ∀ q : Nat, s.heap.size ≤ q → A q := fun q h => by rw [← hAe]; exact Or.inr h
  have hS : va_S A s.heap s.heap [] := va_S.rf
  have hP : va_P D vwCl [(a1, .inr (5, [.ref a2, .ref a3, .int vz, .int (nI pw), .int (nI ph), .int vk])), (a2, .inl (cI, 144, .inl px)), (a3, .inl (cI, 9, .inl md))] s.heap := hP
  have hl := lv_entry ([.ref a1, .ref a1]) (n := 7) (Nat.le_of_ble_eq_true rfl)
  rw [lg_entry_eq]
  generalize (lg_sl ([.ref a1, .ref a1]) ++ List.replicate (7 - (lg_sl ([.ref a1, .ref a1])).length) Slot.unset).toArray = ls at hl ⊢
  have hl : lv_has ls 7 [(0, .ref a1), (1, .ref a1)] := hl
  have h9 : pw * ph ≤ 12 * 12 := Nat.mul_le_mul hpw.2 hph.2
  have h8 : 0 < pw * ph := Nat.mul_pos hpw.1 hph.1
  refine lv_iconst (v := 0) hx hb d_TileForge_meanOfSquares_0 (by decide) ?_
  refine lv_istore_n (lv' := [(2, .int 0), (0, .ref a1), (1, .ref a1)]) hx hb d_TileForge_meanOfSquares_1 rfl hl (by decide) rfl (fun ls hl => ?_)
  refine lv_iconst (v := 0) hx hb d_TileForge_meanOfSquares_2 (by decide) ?_
  refine lv_istore_n (lv' := [(3, .int 0), (2, .int 0), (0, .ref a1), (1, .ref a1)]) hx hb d_TileForge_meanOfSquares_3 rfl hl (by decide) rfl (fun ls hl => ?_)
  refine lv_iconst (v := 0) hx hb d_TileForge_meanOfSquares_4 (by decide) ?_
  refine lv_istore (lv' := [(4, .int 0), (3, .int 0), (2, .int 0), (0, .ref a1), (1, .ref a1)]) hx hb d_TileForge_meanOfSquares_5 hl (by decide) rfl (fun ls hl => ?_)
  have lp7 : ∀ (n : Nat) (jj : Nat) (z : Int32) (cnt : Nat), (13 ≤ jj + n) → (jj ≤ ph) → (z = apY px px pw jj) → (cnt = jj * pw) → ∀ (H : Heap) (locs : List Loc) (ls : Array Slot), va_P D vwCl [(a1, .inr (5, [.ref a2, .ref a3, .int vz, .int (nI pw), .int (nI ph), .int vk])), (a2, .inl (cI, 144, .inl px)), (a3, .inl (cI, 9, .inl md))] H → va_D A [(a1, .inr (5, [.ref a2, .ref a3, .int vz, .int (nI pw), .int (nI ph), .int vk])), (a2, .inl (cI, 144, .inl px)), (a3, .inl (cI, 9, .inl md))] → va_S A s.heap H locs → lv_has ls 7 [(0, .ref a1), (1, .ref a1), (2, .int z), (3, .int (nI cnt)), (4, .int (nI jj))] → W p l e ({ frames := 2, cells := 0, slots := 0, locals := 44 } : Room) s m ([.ref a1, .ref a1] : List Value).toArray below meth c H locs 0 0 (MQ below (va_Qd (q_tf_mos1 cI a1 a2 a3 px md vz vk pw ph) (cs_B D vwCl tys A) A) ([.ref a1, .ref a1] : List Value).toArray s 0 0 A) (F0 m 7 ls []) := by
    intro n
    induction n with
    | zero =>
      intro jj z cnt hf hj hz hcn
      exact absurd hf (by omega)
    | succ n ih7 =>
      intro jj z cnt hf hj hz hcn H locs ls hP hD hS hl
      refine lv_iload hx hb d_TileForge_meanOfSquares_7 (lv_at hl 4 rfl) ?_
      refine lv_aload_n hx hb d_TileForge_meanOfSquares_9 rfl (lv_at hl 0 rfl) ?_
      refine va_get (D := D) (ci := 5) (v := .int (nI ph)) (C := "TileForge$Picture") (T := T_Picture) (N := 6) hx hb hts (cs_in in_Picture) hown hK hP 0 rfl rfl 4 (by decide) (hts _ (cs_m mw_477)) (fun _ h9 => h9) rfl d_TileForge_meanOfSquares_10 ?_
      refine lv_icmp_ge (tgt := 70) hx hb d_TileForge_meanOfSquares_13 (by decide) (fun c_13 => ?_) (fun c_13 => ?_)
      · have hj2 := (nI_leI (a := ph) (b := jj) (by omega) (by omega)).mp c_13
        have hj3 : jj = ph := by omega
        have hc3 : cnt = pw * ph := by rw [hcn, hj3, Nat.mul_comm]
        refine lv_iload_n hx hb d_TileForge_meanOfSquares_70 rfl (lv_at hl 3 rfl) ?_
        refine lv_if_ne (tgt := 78) hx hb d_TileForge_meanOfSquares_71 (by decide) (fun c_71 => ?_) (fun c_71 => ?_)
        · refine lv_iload_n hx hb d_TileForge_meanOfSquares_78 rfl (lv_at hl 2 rfl) ?_
          refine lv_i2d hx hb d_TileForge_meanOfSquares_79 ?_
          refine lv_iload_n hx hb d_TileForge_meanOfSquares_80 rfl (lv_at hl 3 rfl) ?_
          refine lv_i2d hx hb d_TileForge_meanOfSquares_81 ?_
          refine lv_ddiv hx hb d_TileForge_meanOfSquares_82 (vf_div _ (show 0 < cnt by omega) (by omega)) ?_
          exact W.dret (v := (FP.ddiv (FP.i2d z) (FP.i2d (nI cnt)))) hx hb hr (fun t ht hW => ⟨⟨(FP.ddiv (FP.i2d z) (FP.i2d (nI cnt))), [(a1, .inr (5, [.ref a2, .ref a3, .int vz, .int (nI pw), .int (nI ph), .int vk])), (a2, .inl (cI, 144, .inl px)), (a3, .inl (cI, 9, .inl md))], rfl, ⟨(by rw [hz, hj3, hc3]), (rfl)⟩, by rw [ht]; exact hP, va_K.moved hW.alike hK, hD⟩, hS.F ht⟩) hS.2.2 d_TileForge_meanOfSquares_83
        · exact absurd (cs_nz0 c_71 (by omega)) (by omega)
      · have hj2 : jj < ph := Nat.not_le.mp (fun q => c_13 ((nI_leI (a := ph) (b := jj) (by omega) (by omega)).mpr q))
        refine lv_iconst (v := 0) hx hb d_TileForge_meanOfSquares_16 (by decide) ?_
        refine lv_istore (lv' := [(5, .int 0), (0, .ref a1), (1, .ref a1), (2, .int z), (3, .int (nI cnt)), (4, .int (nI jj))]) hx hb d_TileForge_meanOfSquares_17 hl (by decide) rfl (fun ls hl => ?_)
        have lp19 : ∀ (n : Nat) (ii : Nat) (z : Int32) (cnt : Nat), (13 ≤ ii + n) → (ii ≤ pw) → (z = apY px px pw jj + apX px px jj ii) → (cnt = jj * pw + ii) → ∀ (H : Heap) (locs : List Loc) (ls : Array Slot), va_P D vwCl [(a1, .inr (5, [.ref a2, .ref a3, .int vz, .int (nI pw), .int (nI ph), .int vk])), (a2, .inl (cI, 144, .inl px)), (a3, .inl (cI, 9, .inl md))] H → va_D A [(a1, .inr (5, [.ref a2, .ref a3, .int vz, .int (nI pw), .int (nI ph), .int vk])), (a2, .inl (cI, 144, .inl px)), (a3, .inl (cI, 9, .inl md))] → va_S A s.heap H locs → lv_has ls 7 [(0, .ref a1), (1, .ref a1), (2, .int z), (3, .int (nI cnt)), (4, .int (nI jj)), (5, .int (nI ii))] → W p l e ({ frames := 2, cells := 0, slots := 0, locals := 44 } : Room) s m ([.ref a1, .ref a1] : List Value).toArray below meth c H locs 0 0 (MQ below (va_Qd (q_tf_mos1 cI a1 a2 a3 px md vz vk pw ph) (cs_B D vwCl tys A) A) ([.ref a1, .ref a1] : List Value).toArray s 0 0 A) (F0 m 19 ls []) := by
          intro n
          induction n with
          | zero =>
            intro ii z cnt hf hi hz2 hcn
            exact absurd hf (by omega)
          | succ n ih19 =>
            intro ii z cnt hf hi hz2 hcn H locs ls hP hD hS hl
            refine lv_iload hx hb d_TileForge_meanOfSquares_19 (lv_at hl 5 rfl) ?_
            refine lv_aload_n hx hb d_TileForge_meanOfSquares_21 rfl (lv_at hl 0 rfl) ?_
            refine va_get (D := D) (ci := 5) (v := .int (nI pw)) (C := "TileForge$Picture") (T := T_Picture) (N := 6) hx hb hts (cs_in in_Picture) hown hK hP 0 rfl rfl 3 (by decide) (hts _ (cs_m mw_478)) (fun _ h9 => h9) rfl d_TileForge_meanOfSquares_22 ?_
            refine lv_icmp_ge (tgt := 64) hx hb d_TileForge_meanOfSquares_25 (by decide) (fun c_25 => ?_) (fun c_25 => ?_)
            · have hi2 := (nI_leI (a := pw) (b := ii) (by omega) (by omega)).mp c_25
              have hi3 : ii = pw := by omega
              refine lv_iinc (v := nI (jj + 1)) (lv' := [(4, .int (nI (jj + 1))), (0, .ref a1), (1, .ref a1), (2, .int z), (3, .int (nI cnt)), (5, .int (nI ii))]) hx hb d_TileForge_meanOfSquares_64 hl (k := 4) rfl (nI_1 _) (by decide) rfl (fun ls hl => ?_)
              refine lv_goto (tgt := 7) hx hb d_TileForge_meanOfSquares_67 (by decide) ?_
              exact ih7 (jj + 1) z cnt (by omega) (by omega) (by rw [hz2, hi3, apY]) (by rw [Nat.succ_mul]; omega) _ _ _ (hP.sub (ws' := [(a1, .inr (5, [.ref a2, .ref a3, .int vz, .int (nI pw), .int (nI ph), .int vk])), (a2, .inl (cI, 144, .inl px)), (a3, .inl (cI, 9, .inl md))]) [0, 1, 2] rfl) (hD.sub (ws' := [(a1, .inr (5, [.ref a2, .ref a3, .int vz, .int (nI pw), .int (nI ph), .int vk])), (a2, .inl (cI, 144, .inl px)), (a3, .inl (cI, 9, .inl md))]) [0, 1, 2] (by decide) rfl) hS (lv_sub hl [1, 2, 3, 4, 0] rfl)
            · have hi2 : ii < pw := Nat.not_le.mp (fun q => c_25 ((nI_leI (a := pw) (b := ii) (by omega) (by omega)).mpr q))
              refine lv_aload_n hx hb d_TileForge_meanOfSquares_28 rfl (lv_at hl 0 rfl) ?_
              refine lv_iload hx hb d_TileForge_meanOfSquares_29 (lv_at hl 5 rfl) ?_
              refine lv_iload hx hb d_TileForge_meanOfSquares_31 (lv_at hl 4 rfl) ?_
              refine cs_Vi (As := [.int (nI ii), .int (nI jj)]) (rest := []) (wr := []) ⟨hx, hb, hml, hown, hts⟩ (c_pic_look l hcI a1 a2 a3 px md vz (nI pw) (nI ph) vk ii jj (by omega) (by omega) (nI_lt (by omega) (by omega)) (nI_lt (by omega) (by omega))) (cwV 2 hts (cs_gV mw_479 mw_195 mw_196 mw_93 mw_92) rfl rfl rfl ⟨rfl, hd_Picture_look⟩ ⟨Nat.le_of_ble_eq_true rfl, Nat.le_of_ble_eq_true rfl⟩) hN hK hP hD hS hA [0, 1, 2] [] rfl rfl rfl rfl (by decide) (ci := 5) rfl rfl rfl rfl rfl hl.1 (Nat.le_of_ble_eq_true rfl) d_TileForge_meanOfSquares_33 ⟨Nat.le_of_ble_eq_true rfl, Nat.le_of_ble_eq_true rfl⟩ (fun r1 w1 H locs hw hP hD hS => ?_)
              obtain ⟨rfl, rfl⟩ := hw
              have hP : va_P D vwCl [(a1, .inr (5, [.ref a2, .ref a3, .int vz, .int (nI pw), .int (nI ph), .int vk])), (a2, .inl (cI, 144, .inl px)), (a3, .inl (cI, 9, .inl md))] H := hP
              have hD : va_D A [(a1, .inr (5, [.ref a2, .ref a3, .int vz, .int (nI pw), .int (nI ph), .int vk])), (a2, .inl (cI, 144, .inl px)), (a3, .inl (cI, 9, .inl md))] := hD
              refine lv_aload_n hx hb d_TileForge_meanOfSquares_36 rfl (lv_at hl 1 rfl) ?_
              refine lv_iload hx hb d_TileForge_meanOfSquares_37 (lv_at hl 5 rfl) ?_
              refine lv_iload hx hb d_TileForge_meanOfSquares_39 (lv_at hl 4 rfl) ?_
              refine cs_Vi (As := [.int (nI ii), .int (nI jj)]) (rest := [.int (px (jj * 12 + ii))]) (wr := []) ⟨hx, hb, hml, hown, hts⟩ (c_pic_look l hcI a1 a2 a3 px md vz (nI pw) (nI ph) vk ii jj (by omega) (by omega) (nI_lt (by omega) (by omega)) (nI_lt (by omega) (by omega))) (cwV 2 hts (cs_gV mw_479 mw_195 mw_196 mw_93 mw_92) rfl rfl rfl ⟨rfl, hd_Picture_look⟩ ⟨Nat.le_of_ble_eq_true rfl, Nat.le_of_ble_eq_true rfl⟩) hN hK hP hD hS hA [0, 1, 2] [] rfl rfl rfl rfl (by decide) (ci := 5) rfl rfl rfl rfl rfl hl.1 (Nat.le_of_ble_eq_true rfl) d_TileForge_meanOfSquares_41 ⟨Nat.le_of_ble_eq_true rfl, Nat.le_of_ble_eq_true rfl⟩ (fun r2 w1 H locs hw hP hD hS => ?_)
              obtain ⟨rfl, rfl⟩ := hw
              have hP : va_P D vwCl [(a1, .inr (5, [.ref a2, .ref a3, .int vz, .int (nI pw), .int (nI ph), .int vk])), (a2, .inl (cI, 144, .inl px)), (a3, .inl (cI, 9, .inl md))] H := hP
              have hD : va_D A [(a1, .inr (5, [.ref a2, .ref a3, .int vz, .int (nI pw), .int (nI ph), .int vk])), (a2, .inl (cI, 144, .inl px)), (a3, .inl (cI, 9, .inl md))] := hD
              refine lv_isub hx hb d_TileForge_meanOfSquares_44 ?_
              refine lv_istore (lv' := [(6, .int ((px (jj * 12 + ii)) - (px (jj * 12 + ii)))), (0, .ref a1), (1, .ref a1), (2, .int z), (3, .int (nI cnt)), (4, .int (nI jj)), (5, .int (nI ii))]) hx hb d_TileForge_meanOfSquares_45 hl (by decide) rfl (fun ls hl => ?_)
              refine lv_iload_n hx hb d_TileForge_meanOfSquares_47 rfl (lv_at hl 3 rfl) ?_
              refine lv_iload hx hb d_TileForge_meanOfSquares_48 (lv_at hl 0 rfl) ?_
              refine lv_iload hx hb d_TileForge_meanOfSquares_50 (lv_at hl 0 rfl) ?_
              refine lv_imul hx hb d_TileForge_meanOfSquares_52 ?_
              refine lv_iadd hx hb d_TileForge_meanOfSquares_53 ?_
              refine lv_istore_n (lv' := [(2, .int (z + (((px (jj * 12 + ii)) - (px (jj * 12 + ii))) * ((px (jj * 12 + ii)) - (px (jj * 12 + ii)))))), (6, .int ((px (jj * 12 + ii)) - (px (jj * 12 + ii)))), (0, .ref a1), (1, .ref a1), (3, .int (nI cnt)), (4, .int (nI jj)), (5, .int (nI ii))]) hx hb d_TileForge_meanOfSquares_54 rfl hl (by decide) rfl (fun ls hl => ?_)
              refine lv_iinc (v := nI (cnt + 1)) (lv' := [(3, .int (nI (cnt + 1))), (2, .int (z + (((px (jj * 12 + ii)) - (px (jj * 12 + ii))) * ((px (jj * 12 + ii)) - (px (jj * 12 + ii)))))), (6, .int ((px (jj * 12 + ii)) - (px (jj * 12 + ii)))), (0, .ref a1), (1, .ref a1), (4, .int (nI jj)), (5, .int (nI ii))]) hx hb d_TileForge_meanOfSquares_55 hl (k := 4) rfl (nI_1 _) (by decide) rfl (fun ls hl => ?_)
              refine lv_iinc (v := nI (ii + 1)) (lv' := [(5, .int (nI (ii + 1))), (3, .int (nI (cnt + 1))), (2, .int (z + (((px (jj * 12 + ii)) - (px (jj * 12 + ii))) * ((px (jj * 12 + ii)) - (px (jj * 12 + ii)))))), (6, .int ((px (jj * 12 + ii)) - (px (jj * 12 + ii)))), (0, .ref a1), (1, .ref a1), (4, .int (nI jj))]) hx hb d_TileForge_meanOfSquares_58 hl (k := 6) rfl (nI_1 _) (by decide) rfl (fun ls hl => ?_)
              refine lv_goto (tgt := 19) hx hb d_TileForge_meanOfSquares_61 (by decide) ?_
              exact ih19 (ii + 1) (z + (((px (jj * 12 + ii)) - (px (jj * 12 + ii))) * ((px (jj * 12 + ii)) - (px (jj * 12 + ii))))) (cnt + 1) (by omega) (by omega) (by rw [hz2, apX, Int32.add_assoc]) (by omega) _ _ _ (hP.sub (ws' := [(a1, .inr (5, [.ref a2, .ref a3, .int vz, .int (nI pw), .int (nI ph), .int vk])), (a2, .inl (cI, 144, .inl px)), (a3, .inl (cI, 9, .inl md))]) [0, 1, 2] rfl) (hD.sub (ws' := [(a1, .inr (5, [.ref a2, .ref a3, .int vz, .int (nI pw), .int (nI ph), .int vk])), (a2, .inl (cI, 144, .inl px)), (a3, .inl (cI, 9, .inl md))]) [0, 1, 2] (by decide) rfl) hS (lv_sub hl [4, 5, 2, 1, 6, 0] rfl)
        exact lp19 (13) 0 z cnt (by omega) (by omega) (by rw [hz, apX, Int32.add_zero]) (by omega) _ _ _ (hP.sub (ws' := [(a1, .inr (5, [.ref a2, .ref a3, .int vz, .int (nI pw), .int (nI ph), .int vk])), (a2, .inl (cI, 144, .inl px)), (a3, .inl (cI, 9, .inl md))]) [0, 1, 2] rfl) (hD.sub (ws' := [(a1, .inr (5, [.ref a2, .ref a3, .int vz, .int (nI pw), .int (nI ph), .int vk])), (a2, .inl (cI, 144, .inl px)), (a3, .inl (cI, 9, .inl md))]) [0, 1, 2] (by decide) rfl) hS (lv_sub hl [1, 2, 3, 4, 5, 0] rfl)
  exact lp7 (13) 0 0 0 (by omega) (by omega) (rfl) (by omega) _ _ _ (hP.sub (ws' := [(a1, .inr (5, [.ref a2, .ref a3, .int vz, .int (nI pw), .int (nI ph), .int vk])), (a2, .inl (cI, 144, .inl px)), (a3, .inl (cI, 9, .inl md))]) [0, 1, 2] rfl) (hD.sub (ws' := [(a1, .inr (5, [.ref a2, .ref a3, .int vz, .int (nI pw), .int (nI ph), .int vk])), (a2, .inl (cI, 144, .inl px)), (a3, .inl (cI, 9, .inl md))]) [0, 1, 2] (by decide) rfl) hS (lv_sub hl [3, 4, 2, 1, 0] rfl)
def y_TileForge_takeDraft : MethodName := ⟨"TileForge", "takeDraft", "()V"⟩
def ws_TileForge_takeDraft : List Cond := .code y_TileForge_takeDraft prog_1_method_14_code 1 none :: GW
theorem mw_480 : (.code ⟨"TileForge", "takeDraft", "()V"⟩ prog_1_method_14_code 1 none : Cond) ∈ GW := List.mem_filter.mpr ⟨(List.mem_append_right _ (List.mem_append_right _ (List.mem_append_right _ (List.mem_append_left _ (List.mem_of_getElem? (i := 32) rfl))))), rfl⟩
theorem hd_TileForge_takeDraft : y_TileForge_takeDraft.cls ≠ "java/lang/invoke/MethodHandle" ∧ y_TileForge_takeDraft.cls ≠ "java/lang/invoke/VarHandle" ∧ (parseMethodDescriptor y_TileForge_takeDraft.desc).map (fun d => d.parameters.length) = some 0 := by decide +kernel
theorem d_TileForge_takeDraft_0 : decode prog_1_method_14_code 0 = .ok (.aload_n 0, 1) := by decide +kernel
theorem d_TileForge_takeDraft_1 : decode prog_1_method_14_code 1 = .ok (.getfield 20, 3) := by decide +kernel
theorem d_TileForge_takeDraft_4 : decode prog_1_method_14_code 4 = .ok (.aload_n 0, 1) := by decide +kernel
theorem d_TileForge_takeDraft_5 : decode prog_1_method_14_code 5 = .ok (.getfield 36, 3) := by decide +kernel
theorem d_TileForge_takeDraft_8 : decode prog_1_method_14_code 8 = .ok (.getfield 174, 3) := by decide +kernel
theorem d_TileForge_takeDraft_11 : decode prog_1_method_14_code 11 = .ok (.invokevirtual 177, 3) := by decide +kernel
theorem d_TileForge_takeDraft_14 : decode prog_1_method_14_code 14 = .ok (.aload_n 0, 1) := by decide +kernel
theorem d_TileForge_takeDraft_15 : decode prog_1_method_14_code 15 = .ok (.getfield 29, 3) := by decide +kernel
theorem d_TileForge_takeDraft_18 : decode prog_1_method_14_code 18 = .ok (.aload_n 0, 1) := by decide +kernel
theorem d_TileForge_takeDraft_19 : decode prog_1_method_14_code 19 = .ok (.getfield 36, 3) := by decide +kernel
theorem d_TileForge_takeDraft_22 : decode prog_1_method_14_code 22 = .ok (.getfield 93, 3) := by decide +kernel
theorem d_TileForge_takeDraft_25 : decode prog_1_method_14_code 25 = .ok (.invokevirtual 181, 3) := by decide +kernel
theorem d_TileForge_takeDraft_28 : decode prog_1_method_14_code 28 = .ok (.aload_n 0, 1) := by decide +kernel
theorem d_TileForge_takeDraft_29 : decode prog_1_method_14_code 29 = .ok (.aload_n 0, 1) := by decide +kernel
theorem d_TileForge_takeDraft_30 : decode prog_1_method_14_code 30 = .ok (.getfield 36, 3) := by decide +kernel
theorem d_TileForge_takeDraft_33 : decode prog_1_method_14_code 33 = .ok (.getfield 93, 3) := by decide +kernel
theorem d_TileForge_takeDraft_36 : decode prog_1_method_14_code 36 = .ok (.getfield 184, 3) := by decide +kernel
theorem d_TileForge_takeDraft_39 : decode prog_1_method_14_code 39 = .ok (.putfield 165, 3) := by decide +kernel
theorem d_TileForge_takeDraft_42 : decode prog_1_method_14_code 42 = .ok (.aload_n 0, 1) := by decide +kernel
theorem d_TileForge_takeDraft_43 : decode prog_1_method_14_code 43 = .ok (.aload_n 0, 1) := by decide +kernel
theorem d_TileForge_takeDraft_44 : decode prog_1_method_14_code 44 = .ok (.getfield 36, 3) := by decide +kernel
theorem d_TileForge_takeDraft_47 : decode prog_1_method_14_code 47 = .ok (.getfield 187, 3) := by decide +kernel
theorem d_TileForge_takeDraft_50 : decode prog_1_method_14_code 50 = .ok (.putfield 168, 3) := by decide +kernel
theorem d_TileForge_takeDraft_53 : decode prog_1_method_14_code 53 = .ok (.aload_n 0, 1) := by decide +kernel
theorem d_TileForge_takeDraft_54 : decode prog_1_method_14_code 54 = .ok (.aload_n 0, 1) := by decide +kernel
theorem d_TileForge_takeDraft_55 : decode prog_1_method_14_code 55 = .ok (.getfield 36, 3) := by decide +kernel
theorem d_TileForge_takeDraft_58 : decode prog_1_method_14_code 58 = .ok (.getfield 190, 3) := by decide +kernel
theorem d_TileForge_takeDraft_61 : decode prog_1_method_14_code 61 = .ok (.putfield 171, 3) := by decide +kernel
theorem d_TileForge_takeDraft_64 : decode prog_1_method_14_code 64 = .ok (.return_, 1) := by decide +kernel
theorem mw_481 : (.fieldLink "TileForge" 36 "TileForge" "coder" "LTileForge$Coder;" : Cond) ∈ GW := List.mem_filter.mpr ⟨(List.mem_append_right _ (List.mem_append_left _ (List.mem_of_getElem? (i := 217) rfl))), rfl⟩
theorem mw_482 : (.fieldLink "TileForge" 174 "TileForge$Coder" "draft" "LTileForge$Picture;" : Cond) ∈ GW := List.mem_filter.mpr ⟨(List.mem_append_right _ (List.mem_append_left _ (List.mem_of_getElem? (i := 170) rfl))), rfl⟩
theorem mw_483 : (.methodLink "TileForge" 177 ⟨"TileForge$Picture", "become", "(LTileForge$Picture;)V"⟩ : Cond) ∈ GW := List.mem_filter.mpr ⟨(List.mem_append_right _ (List.mem_append_right _ (List.mem_append_right _ (List.mem_append_left _ (List.mem_of_getElem? (i := 33) rfl))))), rfl⟩
theorem mw_484 : (.instanceMethod ⟨"TileForge$Picture", "become", "(LTileForge$Picture;)V"⟩ : Cond) ∈ GW := List.mem_filter.mpr ⟨(List.mem_append_right _ (List.mem_append_right _ (List.mem_append_right _ (List.mem_append_left _ (List.mem_of_getElem? (i := 34) rfl))))), rfl⟩
theorem mw_485 : (.selects "TileForge$Picture" ⟨"TileForge$Picture", "become", "(LTileForge$Picture;)V"⟩ ⟨"TileForge$Picture", "become", "(LTileForge$Picture;)V"⟩ : Cond) ∈ GW := List.mem_filter.mpr ⟨(List.mem_append_right _ (List.mem_append_right _ (List.mem_append_right _ (List.mem_append_left _ (List.mem_of_getElem? (i := 35) rfl))))), rfl⟩
theorem mw_486 : (.fieldLink "TileForge" 29 "TileForge" "row" "LTileForge$ByteRow;" : Cond) ∈ GW := List.mem_filter.mpr ⟨(List.mem_append_right _ (List.mem_append_left _ (List.mem_of_getElem? (i := 216) rfl))), rfl⟩
theorem mw_487 : (.fieldLink "TileForge" 93 "TileForge$Coder" "out" "LTileForge$BitWriter;" : Cond) ∈ GW := List.mem_filter.mpr ⟨(List.mem_append_right _ (List.mem_append_left _ (List.mem_of_getElem? (i := 172) rfl))), rfl⟩
theorem mw_488 : (.methodLink "TileForge" 181 ⟨"TileForge$ByteRow", "become", "(LTileForge$BitWriter;)V"⟩ : Cond) ∈ GW := List.mem_filter.mpr ⟨(List.mem_append_right _ (List.mem_append_right _ (List.mem_append_right _ (List.mem_append_left _ (List.mem_of_getElem? (i := 40) rfl))))), rfl⟩
theorem mw_489 : (.instanceMethod ⟨"TileForge$ByteRow", "become", "(LTileForge$BitWriter;)V"⟩ : Cond) ∈ GW := List.mem_filter.mpr ⟨(List.mem_append_right _ (List.mem_append_right _ (List.mem_append_right _ (List.mem_append_left _ (List.mem_of_getElem? (i := 41) rfl))))), rfl⟩
theorem mw_490 : (.selects "TileForge$ByteRow" ⟨"TileForge$ByteRow", "become", "(LTileForge$BitWriter;)V"⟩ ⟨"TileForge$ByteRow", "become", "(LTileForge$BitWriter;)V"⟩ : Cond) ∈ GW := List.mem_filter.mpr ⟨(List.mem_append_right _ (List.mem_append_right _ (List.mem_append_right _ (List.mem_append_left _ (List.mem_of_getElem? (i := 42) rfl))))), rfl⟩
theorem mw_491 : (.fieldLink "TileForge" 184 "TileForge$BitWriter" "bits" "I" : Cond) ∈ GW := List.mem_filter.mpr ⟨(List.mem_append_right _ (List.mem_append_left _ (List.mem_of_getElem? (i := 104) rfl))), rfl⟩
theorem mw_492 : (.fieldLink "TileForge" 165 "TileForge" "bitsCoded" "I" : Cond) ∈ GW := List.mem_filter.mpr ⟨(List.mem_append_right _ (List.mem_append_left _ (List.mem_of_getElem? (i := 219) rfl))), rfl⟩
theorem mw_493 : (.fieldLink "TileForge" 187 "TileForge$Coder" "levelsNotZero" "I" : Cond) ∈ GW := List.mem_filter.mpr ⟨(List.mem_append_right _ (List.mem_append_left _ (List.mem_of_getElem? (i := 176) rfl))), rfl⟩
theorem mw_494 : (.fieldLink "TileForge" 168 "TileForge" "levelsCoded" "I" : Cond) ∈ GW := List.mem_filter.mpr ⟨(List.mem_append_right _ (List.mem_append_left _ (List.mem_of_getElem? (i := 220) rfl))), rfl⟩
theorem mw_495 : (.fieldLink "TileForge" 190 "TileForge$Coder" "greatest" "I" : Cond) ∈ GW := List.mem_filter.mpr ⟨(List.mem_append_right _ (List.mem_append_left _ (List.mem_of_getElem? (i := 178) rfl))), rfl⟩
theorem mw_496 : (.fieldLink "TileForge" 171 "TileForge" "greatestLevel" "I" : Cond) ∈ GW := List.mem_filter.mpr ⟨(List.mem_append_right _ (List.mem_append_left _ (List.mem_of_getElem? (i := 221) rfl))), rfl⟩
def q_tf_take (cI : ClassId) (f0 : Nat) (a1 : Nat) (c1 : Nat) (r1 : Nat) (y1 : Nat) (k1 : Nat) (j1 : Nat) (ibc : Int32) (ilc : Int32) (igl : Int32) (ibk : Int32) (ifa : Int32) (ibd : Int32) (c2 : Nat) (c3 : Nat) (pxc : Nat → Int32) (mdc : Nat → Int32) (vzc : Int32) (vwc : Int32) (vhc : Int32) (vkc : Int32) (d1 : Nat) (d2 : Nat) (d3 : Nat) (x1 : Nat) (x2 : Nat) (b1 : Nat) (z1 : Nat) (y2 : Nat) (nb : Nat) (yl : Nat) (yp : Nat) (pxd : Nat → Int32) (mdd : Nat → Int32) (bt : Nat → Int32) (yt : Nat → Int32) (vwd : Int32) (vhd : Int32) (vkd : Int32) (nz : Int32) (gr : Int32) : va_W → Prop := fun ww => ∃ (pxc' : Nat → Int32) (mdc' : Nat → Int32) (yt' : Nat → Int32), (∀ j, j < 144 → pxc' j = pxd j) ∧ (∀ j, j < 9 → mdc' j = mdd j) ∧ (∀ j, j < 400 → yt' j = bt j) ∧ ww = [(f0, .inr (8, [.ref a1, .ref c1, .ref r1, .ref y1, .ref k1, .ref j1, .int (nI nb), .int nz, .int gr, .int ibk, .int ifa, .int ibd])), (k1, .inr (3, [.ref d1, .ref x1, .ref b1, .ref z1, .int nz, .int gr])), (c1, .inr (5, [.ref c2, .ref c3, .int 1, .int vwd, .int vhd, .int vkd])), (c2, .inl (cI, 144, .inl pxc')), (c3, .inl (cI, 9, .inl mdc')), (d1, .inr (5, [.ref d2, .ref d3, .int 1, .int vwd, .int vhd, .int vkd])), (d2, .inl (cI, 144, .inl pxd)), (d3, .inl (cI, 9, .inl mdd)), (y1, .inr (2, [.ref y2, .int (nI ((nb + 7) / 8)), .int (nI yp)])), (y2, .inl (cI, 400, .inl yt')), (x1, .inr (0, [.ref x2, .int (nI nb)])), (x2, .inl (cI, 400, .inl bt))]
set_option maxHeartbeats 4000000 in
set_option maxRecDepth 100000 in
theorem c_tf_take (l : Launch) {D : va_G} {tys : List (ClassId × FieldType)} {cI : ClassId} (hcI : tys[0]? = some (cI, .int)) (f0 : Nat) (a1 : Nat) (c1 : Nat) (r1 : Nat) (y1 : Nat) (k1 : Nat) (j1 : Nat) (ibc : Int32) (ilc : Int32) (igl : Int32) (ibk : Int32) (ifa : Int32) (ibd : Int32) (c2 : Nat) (c3 : Nat) (pxc : Nat → Int32) (mdc : Nat → Int32) (vzc : Int32) (vwc : Int32) (vhc : Int32) (vkc : Int32) (d1 : Nat) (d2 : Nat) (d3 : Nat) (x1 : Nat) (x2 : Nat) (b1 : Nat) (z1 : Nat) (y2 : Nat) (nb : Nat) (yl : Nat) (yp : Nat) (pxd : Nat → Int32) (mdd : Nat → Int32) (bt : Nat → Int32) (yt : Nat → Int32) (vwd : Int32) (vhd : Int32) (vkd : Int32) (nz : Int32) (gr : Int32) (hnb : (nb + 7) / 8 ≤ 400) : CsV l D vwCl tys y_TileForge_takeDraft ws_TileForge_takeDraft ({ frames := 2, cells := 0, slots := 0, locals := 61 } : Room) [.ref f0] [(f0, .inr (8, [.ref a1, .ref c1, .ref r1, .ref y1, .ref k1, .ref j1, .int ibc, .int ilc, .int igl, .int ibk, .int ifa, .int ibd])), (k1, .inr (3, [.ref d1, .ref x1, .ref b1, .ref z1, .int nz, .int gr])), (c1, .inr (5, [.ref c2, .ref c3, .int vzc, .int vwc, .int vhc, .int vkc])), (c2, .inl (cI, 144, .inl pxc)), (c3, .inl (cI, 9, .inl mdc)), (d1, .inr (5, [.ref d2, .ref d3, .int 1, .int vwd, .int vhd, .int vkd])), (d2, .inl (cI, 144, .inl pxd)), (d3, .inl (cI, 9, .inl mdd)), (y1, .inr (2, [.ref y2, .int (nI yl), .int (nI yp)])), (y2, .inl (cI, 400, .inl yt)), (x1, .inr (0, [.ref x2, .int (nI nb)])), (x2, .inl (cI, 400, .inl bt))] (q_tf_take cI f0 a1 c1 r1 y1 k1 j1 ibc ilc igl ibk ifa ibd c2 c3 pxc mdc vzc vwc vhc vkc d1 d2 d3 x1 x2 b1 z1 y2 nb yl yp pxd mdd bt yt vwd vhd vkd nz gr) 0 0 := by
  intro sz
  refine Met.ofW (cc := prog_1_method_14_code) (maxL := 1) (ret := none) (by decide) rfl ?_
  intro p e s m args below meth c s₁ B hml hv
  obtain ⟨rfl, hsz, hP, hK, hD0, hN⟩ := hv
  have hx := B.exec
  have hb := B.bytes
  have hr := B.returns
  have hts := atoms_spec (ws := ws_TileForge_takeDraft) B.pre
  have hown : s.vm.findClass "TileForge" = some m.cls := findClass_of_methodNamed B.named
  have hlocks := B.notSynchronized
  subst hsz
  have hD := hD0.self (sz := s.heap.size)
  generalize hAe : va_A [(f0, .inr (8, [.ref a1, .ref c1, .ref r1, .ref y1, .ref k1, .ref j1, .int ibc, .int ilc, .int igl, .int ibk, .int ifa, .int ibd])), (k1, .inr (3, [.ref d1, .ref x1, .ref b1, .ref z1, .int nz, .int gr])), (c1, .inr (5, [.ref c2, .ref c3, .int vzc, .int vwc, .int vhc, .int vkc])), (c2, .inl (cI, 144, .inl pxc)), (c3, .inl (cI, 9, .inl mdc)), (d1, .inr (5, [.ref d2, .ref d3, .int 1, .int vwd, .int vhd, .int vkd])), (d2, .inl (cI, 144, .inl pxd)), (d3, .inl (cI, 9, .inl mdd)), (y1, .inr (2, [.ref y2, .int (nI yl), .int (nI yp)])), (y2, .inl (cI, 400, .inl yt)), (x1, .inr (0, [.ref x2, .int (nI nb)])), (x2, .inl (cI, 400, .inl bt))] s.heap.size = A at hD ⊢
  have hA : ∀ q : Nat, s.heap.size ≤ q → A q := fun q h => by rw [← hAe]; exact Or.inr h
  have hS : va_S A s.heap s.heap [] := va_S.rf
  have hP : va_P D vwCl [(f0, .inr (8, [.ref a1, .ref c1, .ref r1, .ref y1, .ref k1, .ref j1, .int ibc, .int ilc, .int igl, .int ibk, .int ifa, .int ibd])), (k1, .inr (3, [.ref d1, .ref x1, .ref b1, .ref z1, .int nz, .int gr])), (c1, .inr (5, [.ref c2, .ref c3, .int vzc, .int vwc, .int vhc, .int vkc])), (c2, .inl (cI, 144, .inl pxc)), (c3, .inl (cI, 9, .inl mdc)), (d1, .inr (5, [.ref d2, .ref d3, .int 1, .int vwd, .int vhd, .int vkd])), (d2, .inl (cI, 144, .inl pxd)), (d3, .inl (cI, 9, .inl mdd)), (y1, .inr (2, [.ref y2, .int (nI yl), .int (nI yp)])), (y2, .inl (cI, 400, .inl yt)), (x1, .inr (0, [.ref x2, .int (nI nb)])), (x2, .inl (cI, 400, .inl bt))] s.heap := hP
  have hl := lv_entry ([.ref f0]) (n := 1) (Nat.le_of_ble_eq_true rfl)
  rw [lg_entry_eq]
  generalize (lg_sl ([.ref f0]) ++ List.replicate (1 - (lg_sl ([.ref f0])).length) Slot.unset).toArray = ls at hl ⊢
  have hl : lv_has ls 1 [(0, .ref f0)] := hl
  refine lv_aload_n hx hb d_TileForge_takeDraft_0 rfl (lv_at hl 0 rfl) ?_
  refine va_get (D := D) (ci := 8) (v := .ref c1) (C := "TileForge") (T := T_TileForge) (N := 12) hx hb hts (cs_in in_TileForge) hown hK hP 0 rfl rfl 1 (by decide) (hts _ (cs_m mw_474)) (fun _ h9 => h9) rfl d_TileForge_takeDraft_1 ?_
  refine lv_aload_n hx hb d_TileForge_takeDraft_4 rfl (lv_at hl 0 rfl) ?_
  refine va_get (D := D) (ci := 8) (v := .ref k1) (C := "TileForge") (T := T_TileForge) (N := 12) hx hb hts (cs_in in_TileForge) hown hK hP 0 rfl rfl 4 (by decide) (hts _ (cs_m mw_481)) (fun _ h9 => h9) rfl d_TileForge_takeDraft_5 ?_
  refine va_get (D := D) (ci := 3) (v := .ref d1) (C := "TileForge$Coder") (T := T_Coder) (N := 6) hx hb hts (cs_in in_Coder) hown hK hP 1 rfl rfl 0 (by decide) (hts _ (cs_m mw_482)) (fun _ h9 => h9) rfl d_TileForge_takeDraft_8 ?_
  refine cs_Vv (As := [.ref d1]) (rest := []) (wr := [(f0, .inr (8, [.ref a1, .ref c1, .ref r1, .ref y1, .ref k1, .ref j1, .int ibc, .int ilc, .int igl, .int ibk, .int ifa, .int ibd])), (k1, .inr (3, [.ref d1, .ref x1, .ref b1, .ref z1, .int nz, .int gr])), (y1, .inr (2, [.ref y2, .int (nI yl), .int (nI yp)])), (y2, .inl (cI, 400, .inl yt)), (x1, .inr (0, [.ref x2, .int (nI nb)])), (x2, .inl (cI, 400, .inl bt))]) ⟨hx, hb, hml, hown, hts⟩ (c_pic_become l hcI c1 c2 c3 pxc mdc vzc vwc vhc vkc d1 d2 d3 pxd mdd 1 vwd vhd vkd (Or.inr rfl)) (cwV 1 hts (cs_gV mw_483 mw_484 mw_485 mw_93 mw_100) rfl rfl rfl ⟨rfl, hd_Picture_become⟩ ⟨Nat.le_of_ble_eq_true rfl, Nat.le_of_ble_eq_true rfl⟩) hN hK hP hD hS hA [2, 3, 4, 5, 6, 7] [0, 1, 8, 9, 10, 11] rfl rfl rfl rfl (by decide) (ci := 5) rfl rfl rfl rfl rfl hl.1 (Nat.le_of_ble_eq_true rfl) d_TileForge_takeDraft_11 ⟨Nat.le_of_ble_eq_true rfl, Nat.le_of_ble_eq_true rfl⟩ (fun w1 H locs hw hP hD hS => ?_)
  obtain ⟨px9, md9, hp9, hm9, rfl⟩ := hw
  have hP : va_P D vwCl [(f0, .inr (8, [.ref a1, .ref c1, .ref r1, .ref y1, .ref k1, .ref j1, .int ibc, .int ilc, .int igl, .int ibk, .int ifa, .int ibd])), (k1, .inr (3, [.ref d1, .ref x1, .ref b1, .ref z1, .int nz, .int gr])), (y1, .inr (2, [.ref y2, .int (nI yl), .int (nI yp)])), (y2, .inl (cI, 400, .inl yt)), (x1, .inr (0, [.ref x2, .int (nI nb)])), (x2, .inl (cI, 400, .inl bt)), (c1, .inr (5, [.ref c2, .ref c3, .int 1, .int vwd, .int vhd, .int vkd])), (c2, .inl (cI, 144, .inl px9)), (c3, .inl (cI, 9, .inl md9)), (d1, .inr (5, [.ref d2, .ref d3, .int 1, .int vwd, .int vhd, .int vkd])), (d2, .inl (cI, 144, .inl pxd)), (d3, .inl (cI, 9, .inl mdd))] H := hP
  have hD : va_D A [(f0, .inr (8, [.ref a1, .ref c1, .ref r1, .ref y1, .ref k1, .ref j1, .int ibc, .int ilc, .int igl, .int ibk, .int ifa, .int ibd])), (k1, .inr (3, [.ref d1, .ref x1, .ref b1, .ref z1, .int nz, .int gr])), (y1, .inr (2, [.ref y2, .int (nI yl), .int (nI yp)])), (y2, .inl (cI, 400, .inl yt)), (x1, .inr (0, [.ref x2, .int (nI nb)])), (x2, .inl (cI, 400, .inl bt)), (c1, .inr (5, [.ref c2, .ref c3, .int 1, .int vwd, .int vhd, .int vkd])), (c2, .inl (cI, 144, .inl px9)), (c3, .inl (cI, 9, .inl md9)), (d1, .inr (5, [.ref d2, .ref d3, .int 1, .int vwd, .int vhd, .int vkd])), (d2, .inl (cI, 144, .inl pxd)), (d3, .inl (cI, 9, .inl mdd))] := hD
  refine lv_aload_n hx hb d_TileForge_takeDraft_14 rfl (lv_at hl 0 rfl) ?_
  refine va_get (D := D) (ci := 8) (v := .ref y1) (C := "TileForge") (T := T_TileForge) (N := 12) hx hb hts (cs_in in_TileForge) hown hK hP 0 rfl rfl 3 (by decide) (hts _ (cs_m mw_486)) (fun _ h9 => h9) rfl d_TileForge_takeDraft_15 ?_
  refine lv_aload_n hx hb d_TileForge_takeDraft_18 rfl (lv_at hl 0 rfl) ?_
  refine va_get (D := D) (ci := 8) (v := .ref k1) (C := "TileForge") (T := T_TileForge) (N := 12) hx hb hts (cs_in in_TileForge) hown hK hP 0 rfl rfl 4 (by decide) (hts _ (cs_m mw_481)) (fun _ h9 => h9) rfl d_TileForge_takeDraft_19 ?_
  refine va_get (D := D) (ci := 3) (v := .ref x1) (C := "TileForge$Coder") (T := T_Coder) (N := 6) hx hb hts (cs_in in_Coder) hown hK hP 1 rfl rfl 1 (by decide) (hts _ (cs_m mw_487)) (fun _ h9 => h9) rfl d_TileForge_takeDraft_22 ?_
  refine cs_Vv (As := [.ref x1]) (rest := []) (wr := [(f0, .inr (8, [.ref a1, .ref c1, .ref r1, .ref y1, .ref k1, .ref j1, .int ibc, .int ilc, .int igl, .int ibk, .int ifa, .int ibd])), (k1, .inr (3, [.ref d1, .ref x1, .ref b1, .ref z1, .int nz, .int gr])), (c1, .inr (5, [.ref c2, .ref c3, .int 1, .int vwd, .int vhd, .int vkd])), (c2, .inl (cI, 144, .inl px9)), (c3, .inl (cI, 9, .inl md9)), (d1, .inr (5, [.ref d2, .ref d3, .int 1, .int vwd, .int vhd, .int vkd])), (d2, .inl (cI, 144, .inl pxd)), (d3, .inl (cI, 9, .inl mdd))]) ⟨hx, hb, hml, hown, hts⟩ (c_br_become l hcI y1 y2 yt yl yp x1 x2 bt nb (hnb)) (cwV 1 hts (cs_gV mw_488 mw_489 mw_490 mw_133 mw_142) rfl rfl rfl ⟨rfl, hd_ByteRow_become⟩ ⟨Nat.le_of_ble_eq_true rfl, Nat.le_of_ble_eq_true rfl⟩) hN hK hP hD hS hA [2, 3, 4, 5] [0, 1, 6, 7, 8, 9, 10, 11] rfl rfl rfl rfl (by decide) (ci := 2) rfl rfl rfl rfl rfl hl.1 (Nat.le_of_ble_eq_true rfl) d_TileForge_takeDraft_25 ⟨Nat.le_of_ble_eq_true rfl, Nat.le_of_ble_eq_true rfl⟩ (fun w1 H locs hw hP hD hS => ?_)
  obtain ⟨yt9, hy9, rfl⟩ := hw
  have hP : va_P D vwCl [(f0, .inr (8, [.ref a1, .ref c1, .ref r1, .ref y1, .ref k1, .ref j1, .int ibc, .int ilc, .int igl, .int ibk, .int ifa, .int ibd])), (k1, .inr (3, [.ref d1, .ref x1, .ref b1, .ref z1, .int nz, .int gr])), (c1, .inr (5, [.ref c2, .ref c3, .int 1, .int vwd, .int vhd, .int vkd])), (c2, .inl (cI, 144, .inl px9)), (c3, .inl (cI, 9, .inl md9)), (d1, .inr (5, [.ref d2, .ref d3, .int 1, .int vwd, .int vhd, .int vkd])), (d2, .inl (cI, 144, .inl pxd)), (d3, .inl (cI, 9, .inl mdd)), (y1, .inr (2, [.ref y2, .int (nI ((nb + 7) / 8)), .int (nI yp)])), (y2, .inl (cI, 400, .inl yt9)), (x1, .inr (0, [.ref x2, .int (nI nb)])), (x2, .inl (cI, 400, .inl bt))] H := hP
  have hD : va_D A [(f0, .inr (8, [.ref a1, .ref c1, .ref r1, .ref y1, .ref k1, .ref j1, .int ibc, .int ilc, .int igl, .int ibk, .int ifa, .int ibd])), (k1, .inr (3, [.ref d1, .ref x1, .ref b1, .ref z1, .int nz, .int gr])), (c1, .inr (5, [.ref c2, .ref c3, .int 1, .int vwd, .int vhd, .int vkd])), (c2, .inl (cI, 144, .inl px9)), (c3, .inl (cI, 9, .inl md9)), (d1, .inr (5, [.ref d2, .ref d3, .int 1, .int vwd, .int vhd, .int vkd])), (d2, .inl (cI, 144, .inl pxd)), (d3, .inl (cI, 9, .inl mdd)), (y1, .inr (2, [.ref y2, .int (nI ((nb + 7) / 8)), .int (nI yp)])), (y2, .inl (cI, 400, .inl yt9)), (x1, .inr (0, [.ref x2, .int (nI nb)])), (x2, .inl (cI, 400, .inl bt))] := hD
  refine lv_aload_n hx hb d_TileForge_takeDraft_28 rfl (lv_at hl 0 rfl) ?_
  refine lv_aload_n hx hb d_TileForge_takeDraft_29 rfl (lv_at hl 0 rfl) ?_
  refine va_get (D := D) (ci := 8) (v := .ref k1) (C := "TileForge") (T := T_TileForge) (N := 12) hx hb hts (cs_in in_TileForge) hown hK hP 0 rfl rfl 4 (by decide) (hts _ (cs_m mw_481)) (fun _ h9 => h9) rfl d_TileForge_takeDraft_30 ?_
  refine va_get (D := D) (ci := 3) (v := .ref x1) (C := "TileForge$Coder") (T := T_Coder) (N := 6) hx hb hts (cs_in in_Coder) hown hK hP 1 rfl rfl 1 (by decide) (hts _ (cs_m mw_487)) (fun _ h9 => h9) rfl d_TileForge_takeDraft_33 ?_
  refine va_get (D := D) (ci := 0) (v := .int (nI nb)) (C := "TileForge$BitWriter") (T := T_BitWriter) (N := 2) hx hb hts (cs_in in_BitWriter) hown hK hP 10 rfl rfl 1 (by decide) (hts _ (cs_m mw_491)) (fun _ h9 => h9) rfl d_TileForge_takeDraft_36 ?_
  refine va_put (D := D) (ci := 8) (v := .int (nI nb)) (ty := .int) (C := "TileForge") (T := T_TileForge) (N := 12) hx hb hts (cs_in in_TileForge) ty_TileForge tok_TileForge nm_TileForge hown hK hP hD hS 0 rfl rfl 6 (by decide) (hts _ (cs_m mw_492)) (fun _ h9 => h9) rfl (by decide +kernel) rfl rfl (Nat.le_of_ble_eq_true rfl) d_TileForge_takeDraft_39 (fun H locs hP hD hS => ?_)
  have hP : va_P D vwCl [(f0, .inr (8, [.ref a1, .ref c1, .ref r1, .ref y1, .ref k1, .ref j1, .int (nI nb), .int ilc, .int igl, .int ibk, .int ifa, .int ibd])), (k1, .inr (3, [.ref d1, .ref x1, .ref b1, .ref z1, .int nz, .int gr])), (c1, .inr (5, [.ref c2, .ref c3, .int 1, .int vwd, .int vhd, .int vkd])), (c2, .inl (cI, 144, .inl px9)), (c3, .inl (cI, 9, .inl md9)), (d1, .inr (5, [.ref d2, .ref d3, .int 1, .int vwd, .int vhd, .int vkd])), (d2, .inl (cI, 144, .inl pxd)), (d3, .inl (cI, 9, .inl mdd)), (y1, .inr (2, [.ref y2, .int (nI ((nb + 7) / 8)), .int (nI yp)])), (y2, .inl (cI, 400, .inl yt9)), (x1, .inr (0, [.ref x2, .int (nI nb)])), (x2, .inl (cI, 400, .inl bt))] H := hP
  have hD : va_D A [(f0, .inr (8, [.ref a1, .ref c1, .ref r1, .ref y1, .ref k1, .ref j1, .int (nI nb), .int ilc, .int igl, .int ibk, .int ifa, .int ibd])), (k1, .inr (3, [.ref d1, .ref x1, .ref b1, .ref z1, .int nz, .int gr])), (c1, .inr (5, [.ref c2, .ref c3, .int 1, .int vwd, .int vhd, .int vkd])), (c2, .inl (cI, 144, .inl px9)), (c3, .inl (cI, 9, .inl md9)), (d1, .inr (5, [.ref d2, .ref d3, .int 1, .int vwd, .int vhd, .int vkd])), (d2, .inl (cI, 144, .inl pxd)), (d3, .inl (cI, 9, .inl mdd)), (y1, .inr (2, [.ref y2, .int (nI ((nb + 7) / 8)), .int (nI yp)])), (y2, .inl (cI, 400, .inl yt9)), (x1, .inr (0, [.ref x2, .int (nI nb)])), (x2, .inl (cI, 400, .inl bt))] := hD
  refine lv_aload_n hx hb d_TileForge_takeDraft_42 rfl (lv_at hl 0 rfl) ?_
  refine lv_aload_n hx hb d_TileForge_takeDraft_43 rfl (lv_at hl 0 rfl) ?_
  refine va_get (D := D) (ci := 8) (v := .ref k1) (C := "TileForge") (T := T_TileForge) (N := 12) hx hb hts (cs_in in_TileForge) hown hK hP 0 rfl rfl 4 (by decide) (hts _ (cs_m mw_481)) (fun _ h9 => h9) rfl d_TileForge_takeDraft_44 ?_
  refine va_get (D := D) (ci := 3) (v := .int nz) (C := "TileForge$Coder") (T := T_Coder) (N := 6) hx hb hts (cs_in in_Coder) hown hK hP 1 rfl rfl 4 (by decide) (hts _ (cs_m mw_493)) (fun _ h9 => h9) rfl d_TileForge_takeDraft_47 ?_
  refine va_put (D := D) (ci := 8) (v := .int nz) (ty := .int) (C := "TileForge") (T := T_TileForge) (N := 12) hx hb hts (cs_in in_TileForge) ty_TileForge tok_TileForge nm_TileForge hown hK hP hD hS 0 rfl rfl 7 (by decide) (hts _ (cs_m mw_494)) (fun _ h9 => h9) rfl (by decide +kernel) rfl rfl (Nat.le_of_ble_eq_true rfl) d_TileForge_takeDraft_50 (fun H locs hP hD hS => ?_)
  have hP : va_P D vwCl [(f0, .inr (8, [.ref a1, .ref c1, .ref r1, .ref y1, .ref k1, .ref j1, .int (nI nb), .int nz, .int igl, .int ibk, .int ifa, .int ibd])), (k1, .inr (3, [.ref d1, .ref x1, .ref b1, .ref z1, .int nz, .int gr])), (c1, .inr (5, [.ref c2, .ref c3, .int 1, .int vwd, .int vhd, .int vkd])), (c2, .inl (cI, 144, .inl px9)), (c3, .inl (cI, 9, .inl md9)), (d1, .inr (5, [.ref d2, .ref d3, .int 1, .int vwd, .int vhd, .int vkd])), (d2, .inl (cI, 144, .inl pxd)), (d3, .inl (cI, 9, .inl mdd)), (y1, .inr (2, [.ref y2, .int (nI ((nb + 7) / 8)), .int (nI yp)])), (y2, .inl (cI, 400, .inl yt9)), (x1, .inr (0, [.ref x2, .int (nI nb)])), (x2, .inl (cI, 400, .inl bt))] H := hP
  have hD : va_D A [(f0, .inr (8, [.ref a1, .ref c1, .ref r1, .ref y1, .ref k1, .ref j1, .int (nI nb), .int nz, .int igl, .int ibk, .int ifa, .int ibd])), (k1, .inr (3, [.ref d1, .ref x1, .ref b1, .ref z1, .int nz, .int gr])), (c1, .inr (5, [.ref c2, .ref c3, .int 1, .int vwd, .int vhd, .int vkd])), (c2, .inl (cI, 144, .inl px9)), (c3, .inl (cI, 9, .inl md9)), (d1, .inr (5, [.ref d2, .ref d3, .int 1, .int vwd, .int vhd, .int vkd])), (d2, .inl (cI, 144, .inl pxd)), (d3, .inl (cI, 9, .inl mdd)), (y1, .inr (2, [.ref y2, .int (nI ((nb + 7) / 8)), .int (nI yp)])), (y2, .inl (cI, 400, .inl yt9)), (x1, .inr (0, [.ref x2, .int (nI nb)])), (x2, .inl (cI, 400, .inl bt))] := hD
  refine lv_aload_n hx hb d_TileForge_takeDraft_53 rfl (lv_at hl 0 rfl) ?_
  refine lv_aload_n hx hb d_TileForge_takeDraft_54 rfl (lv_at hl 0 rfl) ?_
  refine va_get (D := D) (ci := 8) (v := .ref k1) (C := "TileForge") (T := T_TileForge) (N := 12) hx hb hts (cs_in in_TileForge) hown hK hP 0 rfl rfl 4 (by decide) (hts _ (cs_m mw_481)) (fun _ h9 => h9) rfl d_TileForge_takeDraft_55 ?_
  refine va_get (D := D) (ci := 3) (v := .int gr) (C := "TileForge$Coder") (T := T_Coder) (N := 6) hx hb hts (cs_in in_Coder) hown hK hP 1 rfl rfl 5 (by decide) (hts _ (cs_m mw_495)) (fun _ h9 => h9) rfl d_TileForge_takeDraft_58 ?_
  refine va_put (D := D) (ci := 8) (v := .int gr) (ty := .int) (C := "TileForge") (T := T_TileForge) (N := 12) hx hb hts (cs_in in_TileForge) ty_TileForge tok_TileForge nm_TileForge hown hK hP hD hS 0 rfl rfl 8 (by decide) (hts _ (cs_m mw_496)) (fun _ h9 => h9) rfl (by decide +kernel) rfl rfl (Nat.le_of_ble_eq_true rfl) d_TileForge_takeDraft_61 (fun H locs hP hD hS => ?_)
  have hP : va_P D vwCl [(f0, .inr (8, [.ref a1, .ref c1, .ref r1, .ref y1, .ref k1, .ref j1, .int (nI nb), .int nz, .int gr, .int ibk, .int ifa, .int ibd])), (k1, .inr (3, [.ref d1, .ref x1, .ref b1, .ref z1, .int nz, .int gr])), (c1, .inr (5, [.ref c2, .ref c3, .int 1, .int vwd, .int vhd, .int vkd])), (c2, .inl (cI, 144, .inl px9)), (c3, .inl (cI, 9, .inl md9)), (d1, .inr (5, [.ref d2, .ref d3, .int 1, .int vwd, .int vhd, .int vkd])), (d2, .inl (cI, 144, .inl pxd)), (d3, .inl (cI, 9, .inl mdd)), (y1, .inr (2, [.ref y2, .int (nI ((nb + 7) / 8)), .int (nI yp)])), (y2, .inl (cI, 400, .inl yt9)), (x1, .inr (0, [.ref x2, .int (nI nb)])), (x2, .inl (cI, 400, .inl bt))] H := hP
  have hD : va_D A [(f0, .inr (8, [.ref a1, .ref c1, .ref r1, .ref y1, .ref k1, .ref j1, .int (nI nb), .int nz, .int gr, .int ibk, .int ifa, .int ibd])), (k1, .inr (3, [.ref d1, .ref x1, .ref b1, .ref z1, .int nz, .int gr])), (c1, .inr (5, [.ref c2, .ref c3, .int 1, .int vwd, .int vhd, .int vkd])), (c2, .inl (cI, 144, .inl px9)), (c3, .inl (cI, 9, .inl md9)), (d1, .inr (5, [.ref d2, .ref d3, .int 1, .int vwd, .int vhd, .int vkd])), (d2, .inl (cI, 144, .inl pxd)), (d3, .inl (cI, 9, .inl mdd)), (y1, .inr (2, [.ref y2, .int (nI ((nb + 7) / 8)), .int (nI yp)])), (y2, .inl (cI, 400, .inl yt9)), (x1, .inr (0, [.ref x2, .int (nI nb)])), (x2, .inl (cI, 400, .inl bt))] := hD
  exact W.vret hx hb hr (fun t ht hW => ⟨⟨[(f0, .inr (8, [.ref a1, .ref c1, .ref r1, .ref y1, .ref k1, .ref j1, .int (nI nb), .int nz, .int gr, .int ibk, .int ifa, .int ibd])), (k1, .inr (3, [.ref d1, .ref x1, .ref b1, .ref z1, .int nz, .int gr])), (c1, .inr (5, [.ref c2, .ref c3, .int 1, .int vwd, .int vhd, .int vkd])), (c2, .inl (cI, 144, .inl px9)), (c3, .inl (cI, 9, .inl md9)), (d1, .inr (5, [.ref d2, .ref d3, .int 1, .int vwd, .int vhd, .int vkd])), (d2, .inl (cI, 144, .inl pxd)), (d3, .inl (cI, 9, .inl mdd)), (y1, .inr (2, [.ref y2, .int (nI ((nb + 7) / 8)), .int (nI yp)])), (y2, .inl (cI, 400, .inl yt9)), (x1, .inr (0, [.ref x2, .int (nI nb)])), (x2, .inl (cI, 400, .inl bt))], rfl, ⟨px9, md9, yt9, (hp9), (hm9), (hy9), (rfl)⟩, by rw [ht]; exact hP, va_K.moved hW.alike hK, hD⟩, hS.F ht⟩) hS.2.2 d_TileForge_takeDraft_64
