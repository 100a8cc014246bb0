def y_Tally_init : MethodName := ⟨"TileForge$Tally", "<init>", "()V"⟩
def ws_Tally_init : List Cond := .code y_Tally_init prog_9_method_1_code 1 none :: GW
theorem mw_105 : (.code ⟨"TileForge$Tally", "<init>", "()V"⟩ prog_9_method_1_code 1 none : Cond) ∈ GW := List.mem_filter.mpr ⟨(List.mem_append_right _ (List.mem_append_left _ (List.mem_of_getElem? (i := 153) rfl))), rfl⟩
theorem hd_Tally_init : y_Tally_init.cls ≠ "java/lang/invoke/MethodHandle" ∧ y_Tally_init.cls ≠ "java/lang/invoke/VarHandle" ∧ (parseMethodDescriptor y_Tally_init.desc).map (fun d => d.parameters.length) = some 0 := by decide +kernel
theorem d_Tally_init_0 : decode prog_9_method_1_code 0 = .ok (.aload_n 0, 1) := by decide +kernel
theorem d_Tally_init_1 : decode prog_9_method_1_code 1 = .ok (.invokespecial 3, 3) := by decide +kernel
theorem d_Tally_init_4 : decode prog_9_method_1_code 4 = .ok (.return_, 1) := by decide +kernel
theorem mw_106 : (.methodLink "TileForge$Tally" 3 objectInit : Cond) ∈ GW := List.mem_filter.mpr ⟨(List.mem_append_right _ (List.mem_append_left _ (List.mem_of_getElem? (i := 154) rfl))), rfl⟩
def q_ta_init (cI : ClassId) (t1 : Nat) : va_W → Prop := fun ww => ww = [(t1, .inr (7, [.int 0, .int 0]))]
set_option maxHeartbeats 4000000 in
set_option maxRecDepth 100000 in
theorem c_ta_init (l : Launch) {D : va_G} {tys : List (ClassId × FieldType)} {cI : ClassId} (hcI : tys[0]? = some (cI, .int)) (t1 : Nat) : CsV l D vwCl tys y_Tally_init ws_Tally_init ({ frames := 1, cells := 0, slots := 0, locals := 12 } : Room) [.ref t1] [(t1, .inr (7, [.int 0, .int 0]))] (q_ta_init cI t1) 0 0 := by
  intro sz
  refine Met.ofW (cc := prog_9_method_1_code) (maxL := 1) (ret := none) (by decide) rfl ?_
  intro p e s m args below meth c s₁ B hml hv
  obtain ⟨rfl, hsz, hP, hK, hD0, hN⟩ := hv
  have hx := B.exec
  have hb := B.bytes
  have hr := B.returns
  have hts := atoms_spec (ws := ws_Tally_init) B.pre
  have hown : s.vm.findClass "TileForge$Tally" = some m.cls := findClass_of_methodNamed B.named
  have hlocks := B.notSynchronized
  have hin : meth.name = "<init>" := (name_of_methodNamed B.named B.method).1
  subst hsz
  have hD := hD0.self (sz := s.heap.size)
  generalize hAe : va_A [(t1, .inr (7, [.int 0, .int 0]))] s.heap.size = A at hD ⊢
  have hA : ∀ q : Nat, s.heap.size ≤ q → A q := fun q h => by rw [← hAe]; exact Or.inr h
  have hS : va_S A s.heap s.heap [] := va_S.rf
  have hP : va_P D vwCl [(t1, .inr (7, [.int 0, .int 0]))] s.heap := hP
  have hl := lv_entry ([.ref t1]) (n := 1) (Nat.le_of_ble_eq_true rfl)
  rw [lg_entry_eq]
  generalize (lg_sl ([.ref t1]) ++ List.replicate (1 - (lg_sl ([.ref t1])).length) Slot.unset).toArray = ls at hl ⊢
  have hl : lv_has ls 1 [(0, .ref t1)] := hl
  refine lv_aload_n hx hb d_Tally_init_0 rfl (lv_at hl 0 rfl) ?_
  refine W.objInit hx hb hown (hts _ (cs_m mw_106)) (hts _ (cs_m mw_81)) (hts _ (cs_m mw_82)) rfl (by rw [hml]; exact hl.1) rfl d_Tally_init_1 (Nat.le_of_ble_eq_true rfl) (Nat.le_of_ble_eq_true rfl) ?_
  refine W.eq (g2 := F0 m 4 ls []) rfl ?_
  exact W.vret hx hb hr (fun t ht hW => ⟨⟨[(t1, .inr (7, [.int 0, .int 0]))], rfl, (show _ = _ from (rfl)), by rw [ht]; exact hP, va_K.moved hW.alike hK, hD⟩, hS.F ht⟩) hS.2.2 d_Tally_init_4
def y_Tally_begin : MethodName := ⟨"TileForge$Tally", "begin", "()V"⟩
def ws_Tally_begin : List Cond := .code y_Tally_begin prog_9_method_2_code 1 none :: GW
theorem mw_107 : (.code ⟨"TileForge$Tally", "begin", "()V"⟩ prog_9_method_2_code 1 none : Cond) ∈ GW := List.mem_filter.mpr ⟨(List.mem_append_right _ (List.mem_append_right _ (List.mem_append_left _ (List.mem_of_getElem? (i := 159) rfl)))), rfl⟩
theorem hd_Tally_begin : y_Tally_begin.cls ≠ "java/lang/invoke/MethodHandle" ∧ y_Tally_begin.cls ≠ "java/lang/invoke/VarHandle" ∧ (parseMethodDescriptor y_Tally_begin.desc).map (fun d => d.parameters.length) = some 0 := by decide +kernel
theorem d_Tally_begin_0 : decode prog_9_method_2_code 0 = .ok (.aload_n 0, 1) := by decide +kernel
theorem d_Tally_begin_1 : decode prog_9_method_2_code 1 = .ok (.bipush 8, 2) := by decide +kernel
theorem d_Tally_begin_3 : decode prog_9_method_2_code 3 = .ok (.putfield 9, 3) := by decide +kernel
theorem d_Tally_begin_6 : decode prog_9_method_2_code 6 = .ok (.aload_n 0, 1) := by decide +kernel
theorem d_Tally_begin_7 : decode prog_9_method_2_code 7 = .ok (.iconst 1, 1) := by decide +kernel
theorem d_Tally_begin_8 : decode prog_9_method_2_code 8 = .ok (.putfield 15, 3) := by decide +kernel
theorem d_Tally_begin_11 : decode prog_9_method_2_code 11 = .ok (.return_, 1) := by decide +kernel
theorem mw_108 : (.fieldLink "TileForge$Tally" 9 "TileForge$Tally" "sum" "I" : Cond) ∈ GW := List.mem_filter.mpr ⟨(List.mem_append_right _ (List.mem_append_left _ (List.mem_of_getElem? (i := 155) rfl))), rfl⟩
theorem mw_109 : (.fieldLink "TileForge$Tally" 15 "TileForge$Tally" "n" "I" : Cond) ∈ GW := List.mem_filter.mpr ⟨(List.mem_append_right _ (List.mem_append_left _ (List.mem_of_getElem? (i := 156) rfl))), rfl⟩
def q_ta_begin (cI : ClassId) (t1 : Nat) (vs : Int32) (vn : Int32) : va_W → Prop := fun ww => ww = [(t1, .inr (7, [.int 8, .int 1]))]
set_option maxHeartbeats 4000000 in
set_option maxRecDepth 100000 in
theorem c_ta_begin (l : Launch) {D : va_G} {tys : List (ClassId × FieldType)} {cI : ClassId} (hcI : tys[0]? = some (cI, .int)) (t1 : Nat) (vs : Int32) (vn : Int32) : CsV l D vwCl tys y_Tally_begin ws_Tally_begin ({ frames := 0, cells := 0, slots := 0, locals := 0 } : Room) [.ref t1] [(t1, .inr (7, [.int vs, .int vn]))] (q_ta_begin cI t1 vs vn) 0 0 := by
  intro sz
  refine Met.ofW (cc := prog_9_method_2_code) (maxL := 1) (ret := none) (by decide) rfl ?_
  intro p e s m args below meth c s₁ B hml hv
  obtain ⟨rfl, hsz, hP, hK, hD0, hN⟩ := hv
  have hx := B.exec
  have hb := B.bytes
  have hr := B.returns
  have hts := atoms_spec (ws := ws_Tally_begin) B.pre
  have hown : s.vm.findClass "TileForge$Tally" = some m.cls := findClass_of_methodNamed B.named
  have hlocks := B.notSynchronized
  subst hsz
  have hD := hD0.self (sz := s.heap.size)
  generalize hAe : va_A [(t1, .inr (7, [.int vs, .int vn]))] s.heap.size = A at hD ⊢
  have hA : ∀ q : Nat, s.heap.size ≤ q → A q := fun q h => by rw [← hAe]; exact Or.inr h
  have hS : va_S A s.heap s.heap [] := va_S.rf
  have hP : va_P D vwCl [(t1, .inr (7, [.int vs, .int vn]))] s.heap := hP
  have hl := lv_entry ([.ref t1]) (n := 1) (Nat.le_of_ble_eq_true rfl)
  rw [lg_entry_eq]
  generalize (lg_sl ([.ref t1]) ++ List.replicate (1 - (lg_sl ([.ref t1])).length) Slot.unset).toArray = ls at hl ⊢
  have hl : lv_has ls 1 [(0, .ref t1)] := hl
  refine lv_aload_n hx hb d_Tally_begin_0 rfl (lv_at hl 0 rfl) ?_
  refine lv_bipush (v := 8) hx hb d_Tally_begin_1 (by decide) ?_
  refine va_put (D := D) (ci := 7) (v := .int 8) (ty := .int) (C := "TileForge$Tally") (T := T_Tally) (N := 2) hx hb hts (cs_in in_Tally) ty_Tally tok_Tally nm_Tally hown hK hP hD hS 0 rfl rfl 0 (by decide) (hts _ (cs_m mw_108)) (fun _ h9 => h9) rfl (by decide +kernel) rfl rfl (Nat.le_of_ble_eq_true rfl) d_Tally_begin_3 (fun H locs hP hD hS => ?_)
  have hP : va_P D vwCl [(t1, .inr (7, [.int 8, .int vn]))] H := hP
  have hD : va_D A [(t1, .inr (7, [.int 8, .int vn]))] := hD
  refine lv_aload_n hx hb d_Tally_begin_6 rfl (lv_at hl 0 rfl) ?_
  refine lv_iconst (v := 1) hx hb d_Tally_begin_7 (by decide) ?_
  refine va_put (D := D) (ci := 7) (v := .int 1) (ty := .int) (C := "TileForge$Tally") (T := T_Tally) (N := 2) hx hb hts (cs_in in_Tally) ty_Tally tok_Tally nm_Tally hown hK hP hD hS 0 rfl rfl 1 (by decide) (hts _ (cs_m mw_109)) (fun _ h9 => h9) rfl (by decide +kernel) rfl rfl (Nat.le_of_ble_eq_true rfl) d_Tally_begin_8 (fun H locs hP hD hS => ?_)
  have hP : va_P D vwCl [(t1, .inr (7, [.int 8, .int 1]))] H := hP
  have hD : va_D A [(t1, .inr (7, [.int 8, .int 1]))] := hD
  exact W.vret hx hb hr (fun t ht hW => ⟨⟨[(t1, .inr (7, [.int 8, .int 1]))], rfl, (show _ = _ from (rfl)), by rw [ht]; exact hP, va_K.moved hW.alike hK, hD⟩, hS.F ht⟩) hS.2.2 d_Tally_begin_11
def y_Tally_lowBits : MethodName := ⟨"TileForge$Tally", "lowBits", "()I"⟩
def ws_Tally_lowBits : List Cond := .code y_Tally_lowBits prog_9_method_3_code 2 (some .int) :: GW
theorem mw_110 : (.code ⟨"TileForge$Tally", "lowBits", "()I"⟩ prog_9_method_3_code 2 (some .int) : Cond) ∈ GW := List.mem_filter.mpr ⟨(List.mem_append_right _ (List.mem_append_right _ (List.mem_append_left _ (List.mem_of_getElem? (i := 226) rfl)))), rfl⟩
theorem hd_Tally_lowBits : y_Tally_lowBits.cls ≠ "java/lang/invoke/MethodHandle" ∧ y_Tally_lowBits.cls ≠ "java/lang/invoke/VarHandle" ∧ (parseMethodDescriptor y_Tally_lowBits.desc).map (fun d => d.parameters.length) = some 0 := by decide +kernel
theorem d_Tally_lowBits_0 : decode prog_9_method_3_code 0 = .ok (.iconst 0, 1) := by decide +kernel
theorem d_Tally_lowBits_1 : decode prog_9_method_3_code 1 = .ok (.istore_n 1, 1) := by decide +kernel
theorem d_Tally_lowBits_2 : decode prog_9_method_3_code 2 = .ok (.iload_n 1, 1) := by decide +kernel
theorem d_Tally_lowBits_3 : decode prog_9_method_3_code 3 = .ok (.bipush 10, 2) := by decide +kernel
theorem d_Tally_lowBits_5 : decode prog_9_method_3_code 5 = .ok (.if_icmp .ge 22, 3) := by decide +kernel
theorem d_Tally_lowBits_8 : decode prog_9_method_3_code 8 = .ok (.aload_n 0, 1) := by decide +kernel
theorem d_Tally_lowBits_9 : decode prog_9_method_3_code 9 = .ok (.getfield 15, 3) := by decide +kernel
theorem d_Tally_lowBits_12 : decode prog_9_method_3_code 12 = .ok (.iload_n 1, 1) := by decide +kernel
theorem d_Tally_lowBits_13 : decode prog_9_method_3_code 13 = .ok (.ishl, 1) := by decide +kernel
theorem d_Tally_lowBits_14 : decode prog_9_method_3_code 14 = .ok (.aload_n 0, 1) := by decide +kernel
theorem d_Tally_lowBits_15 : decode prog_9_method_3_code 15 = .ok (.getfield 9, 3) := by decide +kernel
theorem d_Tally_lowBits_18 : decode prog_9_method_3_code 18 = .ok (.if_icmp .ge 9, 3) := by decide +kernel
theorem d_Tally_lowBits_21 : decode prog_9_method_3_code 21 = .ok (.iinc 1 1, 3) := by decide +kernel
theorem d_Tally_lowBits_24 : decode prog_9_method_3_code 24 = .ok (.goto (-22), 3) := by decide +kernel
theorem d_Tally_lowBits_27 : decode prog_9_method_3_code 27 = .ok (.iload_n 1, 1) := by decide +kernel
theorem d_Tally_lowBits_28 : decode prog_9_method_3_code 28 = .ok (.ireturn, 1) := by decide +kernel
def q_ta_low (cI : ClassId) (t1 : Nat) (vs : Int32) (vn : Int32) : Int32 → va_W → Prop := fun rr ww => rr = (nI (lowK vn vs)) ∧ ww = [(t1, .inr (7, [.int vs, .int vn]))]
set_option maxHeartbeats 4000000 in
set_option maxRecDepth 100000 in
theorem c_ta_low (l : Launch) {D : va_G} {tys : List (ClassId × FieldType)} {cI : ClassId} (hcI : tys[0]? = some (cI, .int)) (t1 : Nat) (vs : Int32) (vn : Int32) : CsI l D vwCl tys y_Tally_lowBits ws_Tally_lowBits ({ frames := 0, cells := 0, slots := 0, locals := 0 } : Room) [.ref t1] [(t1, .inr (7, [.int vs, .int vn]))] (q_ta_low cI t1 vs vn) 0 0 := by
  intro sz
  refine Met.ofW (cc := prog_9_method_3_code) (maxL := 2) (ret := (some .int)) (by decide) rfl ?_
  intro p e s m args below meth c s₁ B hml hv
  obtain ⟨rfl, hsz, hP, hK, hD0, hN⟩ := hv
  have hx := B.exec
  have hb := B.bytes
  have hr := B.returns
  have hts := atoms_spec (ws := ws_Tally_lowBits) B.pre
  have hown : s.vm.findClass "TileForge$Tally" = some m.cls := findClass_of_methodNamed B.named
  have hlocks := B.notSynchronized
  subst hsz
  have hD := hD0.self (sz := s.heap.size)
  generalize hAe : va_A [(t1, .inr (7, [.int vs, .int vn]))] s.heap.size = A at hD ⊢
  have hA : ∀ q : Nat, s.heap.size ≤ q → A q := fun q h => by rw [← hAe]; exact Or.inr h
  have hS : va_S A s.heap s.heap [] := va_S.rf
  have hP : va_P D vwCl [(t1, .inr (7, [.int vs, .int vn]))] s.heap := hP
  have hl := lv_entry ([.ref t1]) (n := 2) (Nat.le_of_ble_eq_true rfl)
  rw [lg_entry_eq]
  generalize (lg_sl ([.ref t1]) ++ List.replicate (2 - (lg_sl ([.ref t1])).length) Slot.unset).toArray = ls at hl ⊢
  have hl : lv_has ls 2 [(0, .ref t1)] := hl
  refine lv_iconst (v := 0) hx hb d_Tally_lowBits_0 (by decide) ?_
  refine lv_istore_n (lv' := [(1, .int 0), (0, .ref t1)]) hx hb d_Tally_lowBits_1 rfl hl (by decide) rfl (fun ls hl => ?_)
  have lp2 : ∀ (n : Nat) (k : Nat), (11 ≤ k + n) → (k ≤ 10) → (lowF vn vs (10 - k) k = lowK vn vs) → ∀ (H : Heap) (locs : List Loc) (ls : Array Slot), va_P D vwCl [(t1, .inr (7, [.int vs, .int vn]))] H → va_D A [(t1, .inr (7, [.int vs, .int vn]))] → va_S A s.heap H locs → lv_has ls 2 [(0, .ref t1), (1, .int (nI k))] → W p l e ({ frames := 0, cells := 0, slots := 0, locals := 0 } : Room) s m ([.ref t1] : List Value).toArray below meth c H locs 0 0 (MQ below (va_Qi (q_ta_low cI t1 vs vn) (cs_B D vwCl tys A) A) ([.ref t1] : List Value).toArray s 0 0 A) (F0 m 2 ls []) := by
    intro n
    induction n with
    | zero =>
      intro k hf hk he
      exact absurd hf (by omega)
    | succ n ih2 =>
      intro k hf hk he H locs ls hP hD hS hl
      refine lv_iload_n hx hb d_Tally_lowBits_2 rfl (lv_at hl 1 rfl) ?_
      refine lv_bipush (v := 10) hx hb d_Tally_lowBits_3 (by decide) ?_
      refine lv_icmp_ge (tgt := 27) hx hb d_Tally_lowBits_5 (by decide) (fun c_5 => ?_) (fun c_5 => ?_)
      · have hk2 := (nI_leI (a := 10) (b := k) (by decide) (by omega)).mp c_5
        have hk3 : lowK vn vs = k := by (have h9 : k = 10 := (by omega)); subst h9; exact he.symm
        refine lv_iload_n hx hb d_Tally_lowBits_27 rfl (lv_at hl 1 rfl) ?_
        exact W.iret (v := (nI k)) hx hb hr (fun t ht hW => ⟨⟨(nI k), [(t1, .inr (7, [.int vs, .int vn]))], rfl, ⟨(by rw [hk3]), (rfl)⟩, by rw [ht]; exact hP, va_K.moved hW.alike hK, hD⟩, hS.F ht⟩) hS.2.2 d_Tally_lowBits_28
      · have hk2 : k < 10 := Nat.not_le.mp (fun h => c_5 ((nI_leI (a := 10) (b := k) (by decide) (by omega)).mpr h))
        refine lv_aload_n hx hb d_Tally_lowBits_8 rfl (lv_at hl 0 rfl) ?_
        refine va_get (D := D) (ci := 7) (v := .int vn) (C := "TileForge$Tally") (T := T_Tally) (N := 2) hx hb hts (cs_in in_Tally) hown hK hP 0 rfl rfl 1 (by decide) (hts _ (cs_m mw_109)) (fun _ h9 => h9) rfl d_Tally_lowBits_9 ?_
        refine lv_iload_n hx hb d_Tally_lowBits_12 rfl (lv_at hl 1 rfl) ?_
        refine lv_ishl hx hb d_Tally_lowBits_13 ?_
        refine lv_aload_n hx hb d_Tally_lowBits_14 rfl (lv_at hl 0 rfl) ?_
        refine va_get (D := D) (ci := 7) (v := .int vs) (C := "TileForge$Tally") (T := T_Tally) (N := 2) hx hb hts (cs_in in_Tally) hown hK hP 0 rfl rfl 0 (by decide) (hts _ (cs_m mw_108)) (fun _ h9 => h9) rfl d_Tally_lowBits_15 ?_
        refine lv_icmp_ge (tgt := 27) hx hb d_Tally_lowBits_18 (by decide) (fun c_18 => ?_) (fun c_18 => ?_)
        · have hk3 : lowK vn vs = k := by rw [← he, show 10 - k = (9 - k) + 1 by omega, lowF, if_pos c_18]
          refine lv_iload_n hx hb d_Tally_lowBits_27 rfl (lv_at hl 1 rfl) ?_
          exact W.iret (v := (nI k)) hx hb hr (fun t ht hW => ⟨⟨(nI k), [(t1, .inr (7, [.int vs, .int vn]))], rfl, ⟨(by rw [hk3]), (rfl)⟩, by rw [ht]; exact hP, va_K.moved hW.alike hK, hD⟩, hS.F ht⟩) hS.2.2 d_Tally_lowBits_28
        · refine lv_iinc (v := nI (k + 1)) (lv' := [(1, .int (nI (k + 1))), (0, .ref t1)]) hx hb d_Tally_lowBits_21 hl (k := 1) rfl (nI_1 _) (by decide) rfl (fun ls hl => ?_)
          refine lv_goto (tgt := 2) hx hb d_Tally_lowBits_24 (by decide) ?_
          exact ih2 (k + 1) (by omega) (by omega) (by rw [← he, show 10 - k = (10 - (k + 1)) + 1 by omega, lowF, if_neg c_18]) _ _ _ (hP.sub (ws' := [(t1, .inr (7, [.int vs, .int vn]))]) [0] rfl) (hD.sub (ws' := [(t1, .inr (7, [.int vs, .int vn]))]) [0] (by decide) rfl) hS (lv_sub hl [1, 0] rfl)
  exact lp2 (11) 0 (by omega) (by omega) (rfl) _ _ _ (hP.sub (ws' := [(t1, .inr (7, [.int vs, .int vn]))]) [0] rfl) (hD.sub (ws' := [(t1, .inr (7, [.int vs, .int vn]))]) [0] (by decide) rfl) hS (lv_sub hl [1, 0] rfl)
def y_Tally_learn : MethodName := ⟨"TileForge$Tally", "learn", "(I)V"⟩
def ws_Tally_learn : List Cond := .code y_Tally_learn prog_9_method_4_code 2 none :: GW
theorem mw_111 : (.code ⟨"TileForge$Tally", "learn", "(I)V"⟩ prog_9_method_4_code 2 none : Cond) ∈ GW := List.mem_filter.mpr ⟨(List.mem_append_right _ (List.mem_append_right _ (List.mem_append_left _ (List.mem_of_getElem? (i := 236) rfl)))), rfl⟩
theorem hd_Tally_learn : y_Tally_learn.cls ≠ "java/lang/invoke/MethodHandle" ∧ y_Tally_learn.cls ≠ "java/lang/invoke/VarHandle" ∧ (parseMethodDescriptor y_Tally_learn.desc).map (fun d => d.parameters.length) = some 1 := by decide +kernel
theorem d_Tally_learn_0 : decode prog_9_method_4_code 0 = .ok (.aload_n 0, 1) := by decide +kernel
theorem d_Tally_learn_1 : decode prog_9_method_4_code 1 = .ok (.dup, 1) := by decide +kernel
theorem d_Tally_learn_2 : decode prog_9_method_4_code 2 = .ok (.getfield 9, 3) := by decide +kernel
theorem d_Tally_learn_5 : decode prog_9_method_4_code 5 = .ok (.iload_n 1, 1) := by decide +kernel
theorem d_Tally_learn_6 : decode prog_9_method_4_code 6 = .ok (.iadd, 1) := by decide +kernel
theorem d_Tally_learn_7 : decode prog_9_method_4_code 7 = .ok (.putfield 9, 3) := by decide +kernel
theorem d_Tally_learn_10 : decode prog_9_method_4_code 10 = .ok (.aload_n 0, 1) := by decide +kernel
theorem d_Tally_learn_11 : decode prog_9_method_4_code 11 = .ok (.dup, 1) := by decide +kernel
theorem d_Tally_learn_12 : decode prog_9_method_4_code 12 = .ok (.getfield 15, 3) := by decide +kernel
theorem d_Tally_learn_15 : decode prog_9_method_4_code 15 = .ok (.iconst 1, 1) := by decide +kernel
theorem d_Tally_learn_16 : decode prog_9_method_4_code 16 = .ok (.iadd, 1) := by decide +kernel
theorem d_Tally_learn_17 : decode prog_9_method_4_code 17 = .ok (.putfield 15, 3) := by decide +kernel
theorem d_Tally_learn_20 : decode prog_9_method_4_code 20 = .ok (.aload_n 0, 1) := by decide +kernel
theorem d_Tally_learn_21 : decode prog_9_method_4_code 21 = .ok (.getfield 15, 3) := by decide +kernel
theorem d_Tally_learn_24 : decode prog_9_method_4_code 24 = .ok (.bipush 16, 2) := by decide +kernel
theorem d_Tally_learn_26 : decode prog_9_method_4_code 26 = .ok (.if_icmp .ne 23, 3) := by decide +kernel
theorem d_Tally_learn_29 : decode prog_9_method_4_code 29 = .ok (.aload_n 0, 1) := by decide +kernel
theorem d_Tally_learn_30 : decode prog_9_method_4_code 30 = .ok (.dup, 1) := by decide +kernel
theorem d_Tally_learn_31 : decode prog_9_method_4_code 31 = .ok (.getfield 9, 3) := by decide +kernel
theorem d_Tally_learn_34 : decode prog_9_method_4_code 34 = .ok (.iconst 2, 1) := by decide +kernel
theorem d_Tally_learn_35 : decode prog_9_method_4_code 35 = .ok (.idiv, 1) := by decide +kernel
theorem d_Tally_learn_36 : decode prog_9_method_4_code 36 = .ok (.putfield 9, 3) := by decide +kernel
theorem d_Tally_learn_39 : decode prog_9_method_4_code 39 = .ok (.aload_n 0, 1) := by decide +kernel
theorem d_Tally_learn_40 : decode prog_9_method_4_code 40 = .ok (.dup, 1) := by decide +kernel
theorem d_Tally_learn_41 : decode prog_9_method_4_code 41 = .ok (.getfield 15, 3) := by decide +kernel
theorem d_Tally_learn_44 : decode prog_9_method_4_code 44 = .ok (.iconst 2, 1) := by decide +kernel
theorem d_Tally_learn_45 : decode prog_9_method_4_code 45 = .ok (.idiv, 1) := by decide +kernel
theorem d_Tally_learn_46 : decode prog_9_method_4_code 46 = .ok (.putfield 15, 3) := by decide +kernel
theorem d_Tally_learn_49 : decode prog_9_method_4_code 49 = .ok (.return_, 1) := by decide +kernel
def q_ta_learn (cI : ClassId) (t1 : Nat) (vs : Int32) (vn : Int32) (u : Int32) : va_W → Prop := fun ww => ww = [(t1, .inr (7, [.int (tlS vs vn u), .int (tlN vn)]))]
set_option maxHeartbeats 4000000 in
set_option maxRecDepth 100000 in
theorem c_ta_learn (l : Launch) {D : va_G} {tys : List (ClassId × FieldType)} {cI : ClassId} (hcI : tys[0]? = some (cI, .int)) (t1 : Nat) (vs : Int32) (vn : Int32) (u : Int32) : CsV l D vwCl tys y_Tally_learn ws_Tally_learn ({ frames := 0, cells := 0, slots := 0, locals := 0 } : Room) [.ref t1, .int u] [(t1, .inr (7, [.int vs, .int vn]))] (q_ta_learn cI t1 vs vn u) 0 0 := by
  intro sz
  refine Met.ofW (cc := prog_9_method_4_code) (maxL := 2) (ret := none) (by decide) rfl ?_
  intro p e s m args below meth c s₁ B hml hv
  obtain ⟨rfl, hsz, hP, hK, hD0, hN⟩ := hv
  have hx := B.exec
  have hb := B.bytes
  have hr := B.returns
  have hts := atoms_spec (ws := ws_Tally_learn) B.pre
  have hown : s.vm.findClass "TileForge$Tally" = some m.cls := findClass_of_methodNamed B.named
  have hlocks := B.notSynchronized
  subst hsz
  have hD := hD0.self (sz := s.heap.size)
  generalize hAe : va_A [(t1, .inr (7, [.int vs, .int vn]))] s.heap.size = A at hD ⊢
  have hA : ∀ q : Nat, s.heap.size ≤ q → A q := fun q h => by rw [← hAe]; exact Or.inr h
  have hS : va_S A s.heap s.heap [] := va_S.rf
  have hP : va_P D vwCl [(t1, .inr (7, [.int vs, .int vn]))] s.heap := hP
  have hl := lv_entry ([.ref t1, .int u]) (n := 2) (Nat.le_of_ble_eq_true rfl)
  rw [lg_entry_eq]
  generalize (lg_sl ([.ref t1, .int u]) ++ List.replicate (2 - (lg_sl ([.ref t1, .int u])).length) Slot.unset).toArray = ls at hl ⊢
  have hl : lv_has ls 2 [(0, .ref t1), (1, .int u)] := hl
  refine lv_aload_n hx hb d_Tally_learn_0 rfl (lv_at hl 0 rfl) ?_
  refine lv_dup hx hb d_Tally_learn_1 rfl ?_
  refine va_get (D := D) (ci := 7) (v := .int vs) (C := "TileForge$Tally") (T := T_Tally) (N := 2) hx hb hts (cs_in in_Tally) hown hK hP 0 rfl rfl 0 (by decide) (hts _ (cs_m mw_108)) (fun _ h9 => h9) rfl d_Tally_learn_2 ?_
  refine lv_iload_n hx hb d_Tally_learn_5 rfl (lv_at hl 1 rfl) ?_
  refine lv_iadd hx hb d_Tally_learn_6 ?_
  refine va_put (D := D) (ci := 7) (v := .int (vs + u)) (ty := .int) (C := "TileForge$Tally") (T := T_Tally) (N := 2) hx hb hts (cs_in in_Tally) ty_Tally tok_Tally nm_Tally hown hK hP hD hS 0 rfl rfl 0 (by decide) (hts _ (cs_m mw_108)) (fun _ h9 => h9) rfl (by decide +kernel) rfl rfl (Nat.le_of_ble_eq_true rfl) d_Tally_learn_7 (fun H locs hP hD hS => ?_)
  have hP : va_P D vwCl [(t1, .inr (7, [.int (vs + u), .int vn]))] H := hP
  have hD : va_D A [(t1, .inr (7, [.int (vs + u), .int vn]))] := hD
  refine lv_aload_n hx hb d_Tally_learn_10 rfl (lv_at hl 0 rfl) ?_
  refine lv_dup hx hb d_Tally_learn_11 rfl ?_
  refine va_get (D := D) (ci := 7) (v := .int vn) (C := "TileForge$Tally") (T := T_Tally) (N := 2) hx hb hts (cs_in in_Tally) hown hK hP 0 rfl rfl 1 (by decide) (hts _ (cs_m mw_109)) (fun _ h9 => h9) rfl d_Tally_learn_12 ?_
  refine lv_iconst (v := 1) hx hb d_Tally_learn_15 (by decide) ?_
  refine lv_iadd hx hb d_Tally_learn_16 ?_
  refine va_put (D := D) (ci := 7) (v := .int (vn + 1)) (ty := .int) (C := "TileForge$Tally") (T := T_Tally) (N := 2) hx hb hts (cs_in in_Tally) ty_Tally tok_Tally nm_Tally hown hK hP hD hS 0 rfl rfl 1 (by decide) (hts _ (cs_m mw_109)) (fun _ h9 => h9) rfl (by decide +kernel) rfl rfl (Nat.le_of_ble_eq_true rfl) d_Tally_learn_17 (fun H locs hP hD hS => ?_)
  have hP : va_P D vwCl [(t1, .inr (7, [.int (vs + u), .int (vn + 1)]))] H := hP
  have hD : va_D A [(t1, .inr (7, [.int (vs + u), .int (vn + 1)]))] := hD
  refine lv_aload_n hx hb d_Tally_learn_20 rfl (lv_at hl 0 rfl) ?_
  refine va_get (D := D) (ci := 7) (v := .int (vn + 1)) (C := "TileForge$Tally") (T := T_Tally) (N := 2) hx hb hts (cs_in in_Tally) hown hK hP 0 rfl rfl 1 (by decide) (hts _ (cs_m mw_109)) (fun _ h9 => h9) rfl d_Tally_learn_21 ?_
  refine lv_bipush (v := 16) hx hb d_Tally_learn_24 (by decide) ?_
  refine lv_icmp_ne (tgt := 49) hx hb d_Tally_learn_26 (by decide) (fun c_26 => ?_) (fun c_26 => ?_)
  · exact W.vret hx hb hr (fun t ht hW => ⟨⟨[(t1, .inr (7, [.int (vs + u), .int (vn + 1)]))], rfl, (show _ = _ from (by simp [tlS, tlN, c_26])), by rw [ht]; exact hP, va_K.moved hW.alike hK, hD⟩, hS.F ht⟩) hS.2.2 d_Tally_learn_49
  · refine lv_aload_n hx hb d_Tally_learn_29 rfl (lv_at hl 0 rfl) ?_
    refine lv_dup hx hb d_Tally_learn_30 rfl ?_
    refine va_get (D := D) (ci := 7) (v := .int (vs + u)) (C := "TileForge$Tally") (T := T_Tally) (N := 2) hx hb hts (cs_in in_Tally) hown hK hP 0 rfl rfl 0 (by decide) (hts _ (cs_m mw_108)) (fun _ h9 => h9) rfl d_Tally_learn_31 ?_
    refine lv_iconst (v := 2) hx hb d_Tally_learn_34 (by decide) ?_
    refine lv_idiv hx hb d_Tally_learn_35 (by decide) ?_
    refine va_put (D := D) (ci := 7) (v := .int ((vs + u) / 2)) (ty := .int) (C := "TileForge$Tally") (T := T_Tally) (N := 2) hx hb hts (cs_in in_Tally) ty_Tally tok_Tally nm_Tally hown hK hP hD hS 0 rfl rfl 0 (by decide) (hts _ (cs_m mw_108)) (fun _ h9 => h9) rfl (by decide +kernel) rfl rfl (Nat.le_of_ble_eq_true rfl) d_Tally_learn_36 (fun H locs hP hD hS => ?_)
    have hP : va_P D vwCl [(t1, .inr (7, [.int ((vs + u) / 2), .int (vn + 1)]))] H := hP
    have hD : va_D A [(t1, .inr (7, [.int ((vs + u) / 2), .int (vn + 1)]))] := hD
    refine lv_aload_n hx hb d_Tally_learn_39 rfl (lv_at hl 0 rfl) ?_
    refine lv_dup hx hb d_Tally_learn_40 rfl ?_
    refine va_get (D := D) (ci := 7) (v := .int (vn + 1)) (C := "TileForge$Tally") (T := T_Tally) (N := 2) hx hb hts (cs_in in_Tally) hown hK hP 0 rfl rfl 1 (by decide) (hts _ (cs_m mw_109)) (fun _ h9 => h9) rfl d_Tally_learn_41 ?_
    refine lv_iconst (v := 2) hx hb d_Tally_learn_44 (by decide) ?_
    refine lv_idiv hx hb d_Tally_learn_45 (by decide) ?_
    refine va_put (D := D) (ci := 7) (v := .int ((vn + 1) / 2)) (ty := .int) (C := "TileForge$Tally") (T := T_Tally) (N := 2) hx hb hts (cs_in in_Tally) ty_Tally tok_Tally nm_Tally hown hK hP hD hS 0 rfl rfl 1 (by decide) (hts _ (cs_m mw_109)) (fun _ h9 => h9) rfl (by decide +kernel) rfl rfl (Nat.le_of_ble_eq_true rfl) d_Tally_learn_46 (fun H locs hP hD hS => ?_)
    have hP : va_P D vwCl [(t1, .inr (7, [.int ((vs + u) / 2), .int ((vn + 1) / 2)]))] H := hP
    have hD : va_D A [(t1, .inr (7, [.int ((vs + u) / 2), .int ((vn + 1) / 2)]))] := hD
    exact W.vret hx hb hr (fun t ht hW => ⟨⟨[(t1, .inr (7, [.int ((vs + u) / 2), .int ((vn + 1) / 2)]))], rfl, (show _ = _ from (by simp [tlS, tlN, c_26])), by rw [ht]; exact hP, va_K.moved hW.alike hK, hD⟩, hS.F ht⟩) hS.2.2 d_Tally_learn_49
